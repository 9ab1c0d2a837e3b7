/-! THE MODEL'S EXPRESSIONS: what waits, what is held. -/
def vcnt (g : Int32 → Bool) (f : Nat → Int32) : Nat → Nat
  | 0 => 0
  | n + 1 => vcnt g f n + (bif g (f n) then 1 else 0)
theorem vcnt_eq {g : Int32 → Bool} {f f' : Nat → Int32} : ∀ {n : Nat}, (∀ i, i < n → f' i = f i) → vcnt g f' n = vcnt g f n
  | 0, _ => rfl
  | n + 1, h => by
    show vcnt g f' n + (bif g (f' n) then 1 else 0) = vcnt g f n + (bif g (f n) then 1 else 0)
    rw [vcnt_eq (fun i hi => h i (Nat.lt_succ_of_lt hi)), h n (Nat.lt_succ_self n)]
def gz (x : Int32) : Bool := decide (x.toInt = 0)
def gn (x : Int32) : Bool := !gz x
def gb (x : Int32) : Bool := decide (3 ≤ x.toInt)
theorem vcnt_zn {f : Nat → Int32} : ∀ (n : Nat), vcnt gz f n + vcnt gn f n = n
  | 0 => rfl
  | n + 1 => by
    have ih := vcnt_zn (f := f) n
    show vcnt gz f n + (bif gz (f n) then 1 else 0) + (vcnt gn f n + (bif gn (f n) then 1 else 0)) = n + 1
    unfold gn
    unfold gn at ih
    cases gz (f n)
    · show _ + 0 + (_ + 1) = _
      omega
    · show _ + 1 + (_ + 0) = _
      omega
theorem vcnt_bn {f : Nat → Int32} : ∀ (n : Nat), vcnt gb f n ≤ vcnt gn f n
  | 0 => Nat.le_refl _
  | n + 1 => by
    have ih := vcnt_bn (f := f) n
    show vcnt gb f n + (bif gb (f n) then 1 else 0) ≤ vcnt gn f n + (bif gn (f n) then 1 else 0)
    by_cases e : 3 ≤ (f n).toInt
    · have e1 : gb (f n) = true := decide_eq_true e
      have e2 : gn (f n) = true := by
        unfold gn gz
        rw [decide_eq_false (by omega)]
        rfl
      rw [e1, e2]
      show _ + 1 ≤ _ + 1
      omega
    · have e1 : gb (f n) = false := decide_eq_false e
      rw [e1]
      show _ + 0 ≤ _
      omega
theorem gb3 {v : Int32} (h : 3 ≤ v.toInt) : (bif gb v then 1 else 0) = 1 := by
  unfold gb
  rw [decide_eq_true h]
  rfl
theorem gb2 {v : Int32} (h : v.toInt < 3) : (bif gb v then 1 else 0) = 0 := by
  unfold gb
  rw [decide_eq_false (by omega)]
  rfl
theorem gz0 {v : Int32} (h : v.toInt = 0) : (bif gz v then 1 else 0) = 1 := by
  unfold gz
  rw [decide_eq_true h]
  rfl
theorem gz1 {v : Int32} (h : v.toInt ≠ 0) : (bif gz v then 1 else 0) = 0 := by
  unfold gz
  rw [decide_eq_false h]
  rfl
theorem gn0 {v : Int32} (h : v.toInt = 0) : (bif gn v then 1 else 0) = 0 := by
  unfold gn gz
  rw [decide_eq_true h]
  rfl
theorem gn1 {v : Int32} (h : v.toInt ≠ 0) : (bif gn v then 1 else 0) = 1 := by
  unfold gn gz
  rw [decide_eq_false h]
  rfl
theorem vcnt_top {g : Int32 → Bool} {f : Nat → Int32} {n : Nat} (h : 1 ≤ n) : vcnt g f n = vcnt g f (n - 1) + (bif g (f (n - 1)) then 1 else 0) := by
  obtain ⟨m, rfl⟩ : ∃ m, n = m + 1 := ⟨n - 1, by omega⟩
  rfl
/-- an expression that is being read: from knot f on; s: 1 where a part stands already -/
def vpi (h : XH) (f s : Int) : Prop := 0 ≤ f ∧ f ≤ (xI h 104 21).toInt ∧ (∀ i, i < (xI h 104 46).toInt.toNat → (xI h 129 i).toInt ≠ 1) ∧ (xI h 104 47).toInt = vcnt gb (xI h 129) (xI h 104 46).toInt.toNat + s ∧ (xI h 104 48).toInt = vcnt gz (xI h 129) (xI h 104 46).toInt.toNat ∧ (xI h 104 21).toInt + vcnt gn (xI h 129) (xI h 104 46).toInt.toNat ≤ (xI h 104 49).toInt ∧ (∀ i : Nat, (i : Int) < (xI h 104 47).toInt → f ≤ (xI h 130 i).toInt ∧ (xI h 130 i).toInt < (xI h 104 21).toInt) ∧ vkk h 64 f (xI h 104 21).toInt
theorem vkk_fr {h h' : XH} {o : Nat} {f t : Int} (H : vkk h o f t) (e : ∀ c, 126 ≤ c → c ≤ 128 → ∀ k : Nat, f ≤ k → (k : Int) < t → xI h' c (o + k) = xI h c (o + k)) : vkk h' o f t := by
  intro k h1 h2
  rw [e 126 (by decide) (by decide) k h1 h2, e 127 (by decide) (by decide) k h1 h2, e 128 (by decide) (by decide) k h1 h2]
  exact H k h1 h2
theorem vpi_fr {h h' : XH} {f s : Int} (H : vpi h f s) (e1 : xI h' 104 21 = xI h 104 21) (e2 : xI h' 104 46 = xI h 104 46) (e3 : xI h' 104 47 = xI h 104 47) (e4 : xI h' 104 48 = xI h 104 48) (e5 : xI h' 104 49 = xI h 104 49) (r : ∀ c, 126 ≤ c → c ≤ 130 → ∀ k, xI h' c k = xI h c k) : vpi h' f s := by
  have r9 : xI h' 129 = xI h 129 := funext (r 129 (by decide) (by decide))
  have r0 : xI h' 130 = xI h 130 := funext (r 130 (by decide) (by decide))
  obtain ⟨a0, a1, a2, a3, a4, a5, a6, a7⟩ := H
  unfold vpi
  rw [e1, e2, e3, e4, e5, r9, r0]
  exact ⟨a0, a1, a2, a3, a4, a5, a6, vkk_fr a7 (fun c h1 h2 k _ _ => r c h1 (by omega) _)⟩
theorem vpi_push {h h' : XH} {f s s' : Int} {v : Int32} {nb nz nn : Nat} (H : vpi h f s) (b46 : 0 ≤ (xI h 104 46).toInt) (e46 : (xI h' 104 46).toInt = (xI h 104 46).toInt + 1) (ev : xI h' 129 (xI h 104 46).toInt.toNat = v) (o129 : ∀ i, i < (xI h 104 46).toInt.toNat → xI h' 129 i = xI h 129 i) (hv : v.toInt ≠ 1) (hb : (bif gb v then 1 else 0) = nb) (hz : (bif gz v then 1 else 0) = nz) (hn : (bif gn v then 1 else 0) = nn) (e47 : xI h' 104 47 = xI h 104 47) (hs : s = s' + nb) (e48 : (xI h' 104 48).toInt = (xI h 104 48).toInt + nz) (e21 : xI h' 104 21 = xI h 104 21) (e49 : (xI h 104 49).toInt + nn ≤ (xI h' 104 49).toInt) (r130 : ∀ i, xI h' 130 i = xI h 130 i) (rk : ∀ c, 126 ≤ c → c ≤ 128 → ∀ k, xI h' c k = xI h c k) : vpi h' f s' := by
  obtain ⟨a0, a1, a2, a3, a4, a5, a6, a7⟩ := H
  have eW : (xI h' 104 46).toInt.toNat = (xI h 104 46).toInt.toNat + 1 := by omega
  have cb : vcnt gb (xI h' 129) (xI h' 104 46).toInt.toNat = vcnt gb (xI h 129) (xI h 104 46).toInt.toNat + nb := by
    rw [eW]
    show vcnt gb (xI h' 129) _ + (bif gb (xI h' 129 _) then 1 else 0) = _
    rw [vcnt_eq o129, ev, hb]
  have cz : vcnt gz (xI h' 129) (xI h' 104 46).toInt.toNat = vcnt gz (xI h 129) (xI h 104 46).toInt.toNat + nz := by
    rw [eW]
    show vcnt gz (xI h' 129) _ + (bif gz (xI h' 129 _) then 1 else 0) = _
    rw [vcnt_eq o129, ev, hz]
  have cn : vcnt gn (xI h' 129) (xI h' 104 46).toInt.toNat = vcnt gn (xI h 129) (xI h 104 46).toInt.toNat + nn := by
    rw [eW]
    show vcnt gn (xI h' 129) _ + (bif gn (xI h' 129 _) then 1 else 0) = _
    rw [vcnt_eq o129, ev, hn]
  unfold vpi
  rw [cb, cz, cn, e21, e47]
  refine ⟨a0, a1, fun i hi => ?_, by omega, by omega, by omega, fun i hi => ?_, vkk_fr a7 (fun c h1 h2 k _ _ => rk c h1 h2 _)⟩
  · by_cases e : i = (xI h 104 46).toInt.toNat
    · rw [e, ev]
      exact hv
    · rw [o129 i (by omega)]
      exact a2 i (by omega)
  · rw [r130]
    exact a6 i hi
theorem vpi_pop {h h' : XH} {f s : Int} (H : vpi h f s) (w1 : 1 ≤ (xI h 104 46).toInt) (ev : (xI h 129 ((xI h 104 46).toInt.toNat - 1)).toInt = 0) (e46 : (xI h' 104 46).toInt = (xI h 104 46).toInt - 1) (r129 : ∀ i, xI h' 129 i = xI h 129 i) (e47 : xI h' 104 47 = xI h 104 47) (e48 : (xI h' 104 48).toInt = (xI h 104 48).toInt - 1) (e21 : xI h' 104 21 = xI h 104 21) (e49 : xI h' 104 49 = xI h 104 49) (r130 : ∀ i, xI h' 130 i = xI h 130 i) (rk : ∀ c, 126 ≤ c → c ≤ 128 → ∀ k, xI h' c k = xI h c k) : vpi h' f s := by
  obtain ⟨a0, a1, a2, a3, a4, a5, a6, a7⟩ := H
  have eW : (xI h' 104 46).toInt.toNat = (xI h 104 46).toInt.toNat - 1 := by omega
  have r9 : xI h' 129 = xI h 129 := funext r129
  rw [vcnt_top (n := (xI h 104 46).toInt.toNat) (by omega), gb2 (by omega)] at a3
  rw [vcnt_top (n := (xI h 104 46).toInt.toNat) (by omega), gz0 ev] at a4
  rw [vcnt_top (n := (xI h 104 46).toInt.toNat) (by omega), gn0 ev] at a5
  unfold vpi
  rw [e21, e47, e49, r9, eW]
  refine ⟨a0, a1, fun i hi => a2 i (by omega), by omega, by omega, by omega, fun i hi => ?_, vkk_fr a7 (fun c h1 h2 k _ _ => rk c h1 h2 _)⟩
  rw [r130]
  exact a6 i hi
/-- a knot grown -/
theorem vpi_grow {h h' : XH} {f s s' : Int} (H : vpi h f s) (b21 : 0 ≤ (xI h 104 21).toInt) (a2 : ∀ i, i < (xI h' 104 46).toInt.toNat → (xI h' 129 i).toInt ≠ 1) (a3 : (xI h' 104 47).toInt = vcnt gb (xI h' 129) (xI h' 104 46).toInt.toNat + s') (a4 : (xI h' 104 48).toInt = vcnt gz (xI h' 129) (xI h' 104 46).toInt.toNat) (a5 : (xI h 104 21).toInt + 1 + vcnt gn (xI h' 129) (xI h' 104 46).toInt.toNat ≤ (xI h' 104 49).toInt) (e21 : (xI h' 104 21).toInt = (xI h 104 21).toInt + 1) (hd : (xI h' 104 47).toInt ≤ (xI h 104 47).toInt + 1) (r130a : ∀ i : Nat, (i : Int) + 1 = (xI h' 104 47).toInt → xI h' 130 i = xI h 104 21) (r130b : ∀ i : Nat, (i : Int) + 1 < (xI h' 104 47).toInt → xI h' 130 i = xI h 130 i) (rk : ∀ c, 126 ≤ c → c ≤ 128 → ∀ j, j ≠ 64 + (xI h 104 21).toInt.toNat → xI h' c j = xI h c j) (new : ((xI h' 126 (64 + (xI h 104 21).toInt.toNat)).toInt = 1 → 0 ≤ (xI h' 127 (64 + (xI h 104 21).toInt.toNat)).toInt ∧ (xI h' 127 (64 + (xI h 104 21).toInt.toNat)).toInt ≤ 6) ∧ (2 ≤ (xI h' 126 (64 + (xI h 104 21).toInt.toNat)).toInt → f ≤ (xI h' 127 (64 + (xI h 104 21).toInt.toNat)).toInt ∧ (xI h' 127 (64 + (xI h 104 21).toInt.toNat)).toInt < (xI h 104 21).toInt) ∧ (3 ≤ (xI h' 126 (64 + (xI h 104 21).toInt.toNat)).toInt → f ≤ (xI h' 128 (64 + (xI h 104 21).toInt.toNat)).toInt ∧ (xI h' 128 (64 + (xI h 104 21).toInt.toNat)).toInt < (xI h 104 21).toInt)) : vpi h' f s' := by
  obtain ⟨c0, c1, -, -, -, -, c6, c7⟩ := H
  refine ⟨c0, by omega, a2, a3, a4, by omega, fun i hi => ?_, fun k k1 k2 => ?_⟩
  · by_cases e : (i : Int) + 1 = (xI h' 104 47).toInt
    · rw [r130a i e]
      omega
    · rw [r130b i (by omega)]
      have := c6 i (by omega)
      omega
  · by_cases e : k = (xI h 104 21).toInt.toNat
    · rw [e]
      have := new
      refine ⟨this.1, fun z => ?_, fun z => ?_⟩
      · have := this.2.1 z
        omega
      · have := this.2.2 z
        omega
    · rw [rk 126 (by decide) (by decide) (64 + k) (by omega), rk 127 (by decide) (by decide) (64 + k) (by omega), rk 128 (by decide) (by decide) (64 + k) (by omega)]
      exact c7 k k1 (by omega)
theorem vs4 {W : SW} {h h' : XH} (a : vG W h h') {v : Int32} (hv : 0 ≤ v.toInt ∧ v.toInt ≤ 5) (hw : swin W.1 104 4 = true) : vG W h (xsetI h' 104 4 v) := a.set hv (by decide +kernel) vEC104 hw
theorem vs5 {W : SW} {h h' : XH} (a : vG W h h') {v : Int32} (hv : -1 ≤ v.toInt ∧ v.toInt ≤ 700) (hw : swin W.1 104 5 = true) : vG W h (xsetI h' 104 5 v) := a.set hv (by decide +kernel) vEC104 hw
theorem vs21 {W : SW} {h h' : XH} (a : vG W h h') {v : Int32} (hv : 0 ≤ v.toInt ∧ v.toInt ≤ 64) (hw : swin W.1 104 21 = true) : vG W h (xsetI h' 104 21 v) := a.set hv (by decide +kernel) vEC104 hw
theorem vs46 {W : SW} {h h' : XH} (a : vG W h h') {v : Int32} (hv : 0 ≤ v.toInt ∧ v.toInt ≤ 72) (hw : swin W.1 104 46 = true) : vG W h (xsetI h' 104 46 v) := a.set hv (by decide +kernel) vEC104 hw
theorem vs47 {W : SW} {h h' : XH} (a : vG W h h') {v : Int32} (hv : 0 ≤ v.toInt ∧ v.toInt ≤ 64) (hw : swin W.1 104 47 = true) : vG W h (xsetI h' 104 47 v) := a.set hv (by decide +kernel) vEC104 hw
theorem vs48 {W : SW} {h h' : XH} (a : vG W h h') {v : Int32} (hv : 0 ≤ v.toInt ∧ v.toInt ≤ 8) (hw : swin W.1 104 48 = true) : vG W h (xsetI h' 104 48 v) := a.set hv (by decide +kernel) vEC104 hw
theorem vs49 {W : SW} {h h' : XH} (a : vG W h h') {v : Int32} (hv : 0 ≤ v.toInt ∧ v.toInt ≤ 64) (hw : swin W.1 104 49 = true) : vG W h (xsetI h' 104 49 v) := a.set hv (by decide +kernel) vEC104 hw
theorem vs50 {W : SW} {h h' : XH} (a : vG W h h') {v : Int32} (hv : 0 ≤ v.toInt ∧ v.toInt ≤ 1) (hw : swin W.1 104 50 = true) : vG W h (xsetI h' 104 50 v) := a.set hv (by decide +kernel) vEC104 hw
theorem vs51 {W : SW} {h h' : XH} (a : vG W h h') {v : Int32} (hv : 0 ≤ v.toInt ∧ v.toInt ≤ 1) (hw : swin W.1 104 51 = true) : vG W h (xsetI h' 104 51 v) := a.set hv (by decide +kernel) vEC104 hw
theorem vs129 {W : SW} {h h' : XH} (a : vG W h h') {k : Nat} {v : Int32} (hv : 0 ≤ v.toInt ∧ v.toInt ≤ 14) (hw : ∀ k, swin W.1 129 k = true) : vG W h (xsetI h' 129 k v) := a.set (by rw [vI_u rfl (rfl : vRow 129 = (0, 14))]; exact hv) (stou_no (by decide +kernel)) (by decide +kernel) (hw k)
theorem vs130 {W : SW} {h h' : XH} (a : vG W h h') {k : Nat} {v : Int32} (hv : 0 ≤ v.toInt ∧ v.toInt ≤ 63) (hw : ∀ k, swin W.1 130 k = true) : vG W h (xsetI h' 130 k v) := a.set (by rw [vI_u rfl (rfl : vRow 130 = (0, 63))]; exact hv) (stou_no (by decide +kernel)) (by decide +kernel) (hw k)
/-- rows of laws, behind what is kept -/
theorem vEk_hi {h h' : XH} (h1 : ∀ c, 123 ≤ c → c ≤ 125 → ∀ k, k < 3 → xI h' c k = xI h c k) (h2 : ∀ c, 126 ≤ c → c ≤ 128 → ∀ k, k < 64 → xI h' c k = xI h c k) (H : vEk h) : vEk h' := by
  intro w hw
  rw [h1 123 (by decide) (by decide) w hw, h1 124 (by decide) (by decide) w hw, h1 125 (by decide) (by decide) w hw]
  intro e
  obtain ⟨x1, x2, x3⟩ := H w hw e
  refine ⟨x1, x2, fun k k1 k2 => ?_⟩
  rw [h2 126 (by decide) (by decide) (0 + k) (by omega), h2 127 (by decide) (by decide) (0 + k) (by omega), h2 128 (by decide) (by decide) (0 + k) (by omega)]
  exact x3 k k1 k2
theorem vsK {W : SW} {h h' : XH} (a : vG W h h') {c k : Nat} {v : Int32} (hc : 126 ≤ c ∧ c ≤ 128 ∧ 64 ≤ k ∨ 123 ≤ c ∧ c ≤ 125 ∧ 3 ≤ k) (hv : (vI c k).1 ≤ v.toInt ∧ v.toInt ≤ (vI c k).2) (h1 : stou vRC (c, k, false) = false) (hw : swin W.1 c k = true) : vG W h (xsetI h' c k v) := by
  have E : ∀ c' k', ¬ (c' = c ∧ k' = k) → xI (xsetI h' c k v) c' k' = xI h' c' k' := fun c' k' z => yI_ne (eq_false z)
  refine ⟨⟨sinv_setI a.1.1 hv, srw_setI a.1.2.1 h1, ⟨vEp_of (fun k => E _ _ (by omega)) (fun k => E _ _ (by omega)) (fun k => E _ _ (by omega)) a.1.2.2.1.1, vEu_of (fun k _ => E _ _ (by omega)) (fun k => E _ _ (by omega)) (fun k => E _ _ (by omega)) a.1.2.2.1.2.1, vEk_hi (fun c' y1 y2 k' y3 => E _ _ (by omega)) (fun c' y1 y2 k' y3 => E _ _ (by omega)) a.1.2.2.1.2.2.1, vEj_of (E _ _ (by omega)) (E _ _ (by omega)) (fun c' y k' => E _ _ (by omega)) a.1.2.2.1.2.2.2⟩, a.1.2.2.2⟩, a.2.tr (sframe_set hw)⟩
theorem vs126 {W : SW} {h h' : XH} (a : vG W h h') {k : Nat} {v : Int32} (hk : 64 ≤ k) (hv : 0 ≤ v.toInt ∧ v.toInt ≤ 14) (hw : ∀ k, swin W.1 126 k = true) : vG W h (xsetI h' 126 k v) := vsK a (Or.inl ⟨by decide, by decide, hk⟩) (by rw [vI_u rfl (rfl : vRow 126 = (0, 14))]; exact hv) (stou_no (by decide +kernel)) (hw k)
theorem vs127 {W : SW} {h h' : XH} (a : vG W h h') {k : Nat} {v : Int32} (hk : 64 ≤ k) (hw : ∀ k, swin W.1 127 k = true) : vG W h (xsetI h' 127 k v) := vsK a (Or.inl ⟨by decide, by decide, hk⟩) (by rw [vI_u rfl (rfl : vRow 127 = sfull)]; exact vb_all (by decide)) (stou_no (by decide +kernel)) (hw k)
theorem vs128 {W : SW} {h h' : XH} (a : vG W h h') {k : Nat} {v : Int32} (hk : 64 ≤ k) (hv : -1 ≤ v.toInt ∧ v.toInt ≤ 63) (hw : ∀ k, swin W.1 128 k = true) : vG W h (xsetI h' 128 k v) := vsK a (Or.inl ⟨by decide, by decide, hk⟩) (by rw [vI_u rfl (rfl : vRow 128 = (-1, 63))]; exact hv) (stou_no (by decide +kernel)) (hw k)
theorem vG.tr {W : SW} {a b c : XH} (x : vG W a b) (y : vG W b c) : vG W a c := ⟨y.1, x.2.tr y.2⟩
theorem y_pred {k : Int32} (h0 : 0 ≤ k.toInt) (h1 : k.toInt < 100000) : (k - Int32.ofInt (1)).toInt = k.toInt - 1 := by
  rw [Int32.toInt_sub, show (Int32.ofInt (1)).toInt = 1 from rfl]
  exact Int.bmod_eq_of_le (by omega) (by omega)
theorem y_suc1 {k : Int32} (h0 : 0 ≤ k.toInt) (h1 : k.toInt < 100000) : (k + Int32.ofInt (1)).toInt = k.toInt + 1 := y_succ h0 h1
theorem y_64 {k : Int32} (h0 : 0 ≤ k.toInt) (h1 : k.toInt < 100000) : (Int32.ofInt (64) + k).toInt = 64 + k.toInt := by
  rw [Int32.toInt_add, show (Int32.ofInt (64)).toInt = 64 from rfl]
  exact Int.bmod_eq_of_le (by omega) (by omega)
/-- what reading an expression leaves: a good heap, within what it writes, and all knots below f -/
def vP (f : Int) (h h' : XH) : Prop := vG ([(104, 4, false), (104, 5, false), (104, 7, false), (104, 8, false), (104, 9, false), (104, 10, false), (104, 21, false), (104, 46, false), (104, 47, false), (104, 48, false), (104, 49, false), (104, 50, false), (104, 51, false), (126, 0, true), (127, 0, true), (128, 0, true), (129, 0, true), (130, 0, true)], []) h h' ∧ (∀ c, 126 ≤ c → c ≤ 128 → ∀ k : Nat, (k : Int) < 64 + f → xI h' c k = xI h c k)
theorem vP.tr {f : Int} {a b c : XH} (x : vP f a b) (y : vP f b c) : vP f a c := ⟨x.1.tr y.1, fun c h1 h2 k hk => (y.2 c h1 h2 k hk).trans (x.2 c h1 h2 k hk)⟩
theorem vP.rf {f : Int} {h : XH} (hg : sgood vT vR vE 153 6051 h) : vP f h h := ⟨vG.rf hg, fun _ _ _ _ _ => rfl⟩
set_option maxRecDepth 100000 in
set_option maxHeartbeats 2000000 in
theorem vh_waitsFor (l : Launch) (k : Int32) (h : XH) (hg : sgood vT vR vE 153 6051 h) : CX l 0 0 false 203 [xf 13 104, xi k] h [] (xsetI (xsetI h 129 (xI h 104 46).toNatClampNeg k) 104 46 (xI h 104 46 + Int32.ofInt (1))) := by
  have b46 : 0 ≤ (xI h 104 46).toInt ∧ (xI h 104 46).toInt ≤ 72 := vbnd hg.1 104 46
  have t1 : XT l 0 0 false 203 153 6051 0 [xf 13 104, xi k] [] h 10 [xf 13 104, xi k] [] (xsetI h (xR h 104 44) ((xI h 104 46)).toNatClampNeg k) := XT_path (l := l) (fr := 0) (lo := 0) (full := false) (M := 203) (n := 153) (u := 6051) (pc := 0) (L := [xf 13 104, xi k]) (st := []) (h := h) (inl := []) (n' := 80) (sp := [10]) (o := []) rfl rfl ⟨rfl, rfl, rfl⟩ rfl ⟨Nat.le_of_eq hg.2.2.2.1, Nat.le_of_eq hg.2.2.2.2⟩ ⟨⟨trivial, (vnn hg.1 (rfl : vRf 104 44 = [129]) (by decide))⟩, (vp_of (i := (xI h 104 46)) (n := 96) (by omega) (by omega))⟩
  rw [vref hg.1 (rfl : vRf 104 44 = [129])] at t1
  have t2 : XT l 0 0 false 203 153 6051 10 [xf 13 104, xi k] [] (xsetI h 129 ((xI h 104 46)).toNatClampNeg k) 20 [xf 13 104, xi k] [] (xsetI (xsetI h 129 ((xI h 104 46)).toNatClampNeg k) 104 46 ((xI h 104 46) + (Int32.ofInt (1)))) := XT_path (l := l) (fr := 0) (lo := 0) (full := false) (M := 203) (n := 153) (u := 6051) (pc := 10) (L := [xf 13 104, xi k]) (st := []) (h := (xsetI h 129 ((xI h 104 46)).toNatClampNeg k)) (inl := []) (n' := 80) (sp := [20]) (o := []) rfl rfl ⟨rfl, rfl, rfl⟩ rfl ⟨Nat.le_of_eq hg.2.2.2.1, Nat.le_of_eq hg.2.2.2.2⟩ trivial
  have t3 := t1.tr t2
  exact CX_ofT (h' := (xsetI (xsetI h 129 ((xI h 104 46)).toNatClampNeg k) 104 46 ((xI h 104 46) + (Int32.ofInt (1))))) (by decide) rfl rfl trivial ⟨_, _, _, rfl, rfl, rfl⟩ rfl ⟨Nat.le_of_eq hg.2.2.2.1.symm, Nat.le_of_eq hg.2.2.2.2.symm⟩ t3
set_option maxRecDepth 100000 in
set_option maxHeartbeats 2000000 in
theorem vh_drop (l : Launch) (h : XH) (hg : sgood vT vR vE 153 6051 h) (h1 : 1 ≤ (xI h 104 47).toInt) : CX l 0 0 false 210 [xf 13 104] h [xi (xI h 130 (xI h 104 47 - Int32.ofInt (1)).toNatClampNeg)] (xsetI h 104 47 (xI h 104 47 - Int32.ofInt (1))) := by
  have b47 : 0 ≤ (xI h 104 47).toInt ∧ (xI h 104 47).toInt ≤ 64 := vbnd hg.1 104 47
  have e := y_pred b47.1 (by omega)
  have t1 : XT l 0 0 false 210 153 6051 0 [xf 13 104] [] h 19 [xf 13 104] [xi (xI (xsetI h 104 47 ((xI h 104 47) - (Int32.ofInt (1)))) (xR h 104 45) (((xI h 104 47) - (Int32.ofInt (1)))).toNatClampNeg)] (xsetI h 104 47 ((xI h 104 47) - (Int32.ofInt (1)))) := XT_path (l := l) (fr := 0) (lo := 0) (full := false) (M := 210) (n := 153) (u := 6051) (pc := 0) (L := [xf 13 104]) (st := []) (h := h) (inl := []) (n' := 80) (sp := [19]) (o := []) rfl rfl ⟨rfl, rfl, rfl⟩ rfl ⟨Nat.le_of_eq hg.2.2.2.1, Nat.le_of_eq hg.2.2.2.2⟩ ⟨⟨trivial, (vnn hg.1 (rfl : vRf 104 45 = [130]) (by decide))⟩, (vp_of (i := ((xI h 104 47) - (Int32.ofInt (1)))) (n := 96) (by omega) (by omega))⟩
  rw [vref hg.1 (rfl : vRf 104 45 = [130])] at t1
  have t2 : XT l 0 0 false 210 153 6051 0 [xf 13 104] [] h 19 [xf 13 104] [xi (xI h 130 (((xI h 104 47) - (Int32.ofInt (1)))).toNatClampNeg)] (xsetI h 104 47 ((xI h 104 47) - (Int32.ofInt (1)))) := t1
  exact CX_ofT (h' := (xsetI h 104 47 ((xI h 104 47) - (Int32.ofInt (1))))) (by decide) rfl rfl trivial ⟨_, _, _, rfl, rfl, rfl⟩ rfl ⟨Nat.le_of_eq hg.2.2.2.1.symm, Nat.le_of_eq hg.2.2.2.2.symm⟩ t2
set_option maxRecDepth 100000 in
set_option maxHeartbeats 2000000 in
theorem vh_grown (l : Launch) (k a b : Int32) (h : XH) (hg : sgood vT vR vE 153 6051 h) (h1 : (xI h 104 21).toInt ≤ 63) : CX l 0 0 false 206 [xf 13 104, xi k, xi a, xi b] h [] (xsetI (xsetI (xsetI (xsetI (xsetI (xsetI h 126 (Int32.ofInt (64) + (xI h 104 21)).toNatClampNeg k) 127 (Int32.ofInt (64) + (xI h 104 21)).toNatClampNeg a) 128 (Int32.ofInt (64) + (xI h 104 21)).toNatClampNeg b) 130 (xI h 104 47).toNatClampNeg (xI h 104 21)) 104 47 ((xI h 104 47) + Int32.ofInt (1))) 104 21 ((xI h 104 21) + Int32.ofInt (1))) := by
  have b21 : 0 ≤ (xI h 104 21).toInt ∧ (xI h 104 21).toInt ≤ 64 := vbnd hg.1 104 21
  have b47 : 0 ≤ (xI h 104 47).toInt ∧ (xI h 104 47).toInt ≤ 64 := vbnd hg.1 104 47
  have e := y_64 b21.1 (by omega)
  have t1 : XT l 0 0 false 206 153 6051 0 [xf 13 104, xi k, xi a, xi b] [] h 13 [xf 13 104, xi k, xi a, xi b] [] (xsetI h (xR h 104 41) (((Int32.ofInt (64)) + (xI h 104 21))).toNatClampNeg k) := XT_path (l := l) (fr := 0) (lo := 0) (full := false) (M := 206) (n := 153) (u := 6051) (pc := 0) (L := [xf 13 104, xi k, xi a, xi b]) (st := []) (h := h) (inl := []) (n' := 80) (sp := [13]) (o := []) rfl rfl ⟨rfl, rfl, rfl⟩ rfl ⟨Nat.le_of_eq hg.2.2.2.1, Nat.le_of_eq hg.2.2.2.2⟩ ⟨⟨trivial, (vnn hg.1 (rfl : vRf 104 41 = [126]) (by decide))⟩, (vp_of (i := ((Int32.ofInt (64)) + (xI h 104 21))) (n := 128) (by omega) (by omega))⟩
  rw [vref hg.1 (rfl : vRf 104 41 = [126])] at t1
  have t2 : XT l 0 0 false 206 153 6051 13 [xf 13 104, xi k, xi a, xi b] [] (xsetI h 126 (((Int32.ofInt (64)) + (xI h 104 21))).toNatClampNeg k) 26 [xf 13 104, xi k, xi a, xi b] [] (xsetI (xsetI h 126 (((Int32.ofInt (64)) + (xI h 104 21))).toNatClampNeg k) (xR h 104 42) (((Int32.ofInt (64)) + (xI h 104 21))).toNatClampNeg a) := XT_path (l := l) (fr := 0) (lo := 0) (full := false) (M := 206) (n := 153) (u := 6051) (pc := 13) (L := [xf 13 104, xi k, xi a, xi b]) (st := []) (h := (xsetI h 126 (((Int32.ofInt (64)) + (xI h 104 21))).toNatClampNeg k)) (inl := []) (n' := 80) (sp := [26]) (o := []) rfl rfl ⟨rfl, rfl, rfl⟩ rfl ⟨Nat.le_of_eq hg.2.2.2.1, Nat.le_of_eq hg.2.2.2.2⟩ ⟨⟨trivial, (vnn hg.1 (rfl : vRf 104 42 = [127]) (by decide))⟩, (vp_of (i := ((Int32.ofInt (64)) + (xI h 104 21))) (n := 128) (by omega) (by omega))⟩
  rw [vref hg.1 (rfl : vRf 104 42 = [127])] at t2
  have t3 := t1.tr t2
  have t4 : XT l 0 0 false 206 153 6051 26 [xf 13 104, xi k, xi a, xi b] [] (xsetI (xsetI h 126 (((Int32.ofInt (64)) + (xI h 104 21))).toNatClampNeg k) 127 (((Int32.ofInt (64)) + (xI h 104 21))).toNatClampNeg a) 39 [xf 13 104, xi k, xi a, xi b] [] (xsetI (xsetI (xsetI h 126 (((Int32.ofInt (64)) + (xI h 104 21))).toNatClampNeg k) 127 (((Int32.ofInt (64)) + (xI h 104 21))).toNatClampNeg a) (xR h 104 43) (((Int32.ofInt (64)) + (xI h 104 21))).toNatClampNeg b) := XT_path (l := l) (fr := 0) (lo := 0) (full := false) (M := 206) (n := 153) (u := 6051) (pc := 26) (L := [xf 13 104, xi k, xi a, xi b]) (st := []) (h := (xsetI (xsetI h 126 (((Int32.ofInt (64)) + (xI h 104 21))).toNatClampNeg k) 127 (((Int32.ofInt (64)) + (xI h 104 21))).toNatClampNeg a)) (inl := []) (n' := 80) (sp := [39]) (o := []) rfl rfl ⟨rfl, rfl, rfl⟩ rfl ⟨Nat.le_of_eq hg.2.2.2.1, Nat.le_of_eq hg.2.2.2.2⟩ ⟨⟨trivial, (vnn hg.1 (rfl : vRf 104 43 = [128]) (by decide))⟩, (vp_of (i := ((Int32.ofInt (64)) + (xI h 104 21))) (n := 128) (by omega) (by omega))⟩
  rw [vref hg.1 (rfl : vRf 104 43 = [128])] at t4
  have t5 := t3.tr t4
  have t6 : XT l 0 0 false 206 153 6051 39 [xf 13 104, xi k, xi a, xi b] [] (xsetI (xsetI (xsetI h 126 (((Int32.ofInt (64)) + (xI h 104 21))).toNatClampNeg k) 127 (((Int32.ofInt (64)) + (xI h 104 21))).toNatClampNeg a) 128 (((Int32.ofInt (64)) + (xI h 104 21))).toNatClampNeg b) 52 [xf 13 104, xi k, xi a, xi b] [] (xsetI (xsetI (xsetI (xsetI h 126 (((Int32.ofInt (64)) + (xI h 104 21))).toNatClampNeg k) 127 (((Int32.ofInt (64)) + (xI h 104 21))).toNatClampNeg a) 128 (((Int32.ofInt (64)) + (xI h 104 21))).toNatClampNeg b) (xR h 104 45) ((xI h 104 47)).toNatClampNeg (xI h 104 21)) := XT_path (l := l) (fr := 0) (lo := 0) (full := false) (M := 206) (n := 153) (u := 6051) (pc := 39) (L := [xf 13 104, xi k, xi a, xi b]) (st := []) (h := (xsetI (xsetI (xsetI h 126 (((Int32.ofInt (64)) + (xI h 104 21))).toNatClampNeg k) 127 (((Int32.ofInt (64)) + (xI h 104 21))).toNatClampNeg a) 128 (((Int32.ofInt (64)) + (xI h 104 21))).toNatClampNeg b)) (inl := []) (n' := 80) (sp := [52]) (o := []) rfl rfl ⟨rfl, rfl, rfl⟩ rfl ⟨Nat.le_of_eq hg.2.2.2.1, Nat.le_of_eq hg.2.2.2.2⟩ ⟨⟨trivial, (vnn hg.1 (rfl : vRf 104 45 = [130]) (by decide))⟩, (vp_of (i := (xI h 104 47)) (n := 96) (by omega) (by omega))⟩
  rw [vref hg.1 (rfl : vRf 104 45 = [130])] at t6
  have t7 := t5.tr t6
  have t8 : XT l 0 0 false 206 153 6051 52 [xf 13 104, xi k, xi a, xi b] [] (xsetI (xsetI (xsetI (xsetI h 126 (((Int32.ofInt (64)) + (xI h 104 21))).toNatClampNeg k) 127 (((Int32.ofInt (64)) + (xI h 104 21))).toNatClampNeg a) 128 (((Int32.ofInt (64)) + (xI h 104 21))).toNatClampNeg b) 130 ((xI h 104 47)).toNatClampNeg (xI h 104 21)) 72 [xf 13 104, xi k, xi a, xi b] [] (xsetI (xsetI (xsetI (xsetI (xsetI (xsetI h 126 (((Int32.ofInt (64)) + (xI h 104 21))).toNatClampNeg k) 127 (((Int32.ofInt (64)) + (xI h 104 21))).toNatClampNeg a) 128 (((Int32.ofInt (64)) + (xI h 104 21))).toNatClampNeg b) 130 ((xI h 104 47)).toNatClampNeg (xI h 104 21)) 104 47 ((xI h 104 47) + (Int32.ofInt (1)))) 104 21 ((xI h 104 21) + (Int32.ofInt (1)))) := XT_path (l := l) (fr := 0) (lo := 0) (full := false) (M := 206) (n := 153) (u := 6051) (pc := 52) (L := [xf 13 104, xi k, xi a, xi b]) (st := []) (h := (xsetI (xsetI (xsetI (xsetI h 126 (((Int32.ofInt (64)) + (xI h 104 21))).toNatClampNeg k) 127 (((Int32.ofInt (64)) + (xI h 104 21))).toNatClampNeg a) 128 (((Int32.ofInt (64)) + (xI h 104 21))).toNatClampNeg b) 130 ((xI h 104 47)).toNatClampNeg (xI h 104 21))) (inl := []) (n' := 80) (sp := [72]) (o := []) rfl rfl ⟨rfl, rfl, rfl⟩ rfl ⟨Nat.le_of_eq hg.2.2.2.1, Nat.le_of_eq hg.2.2.2.2⟩ trivial
  have t9 := t7.tr t8
  exact CX_ofT (h' := (xsetI (xsetI (xsetI (xsetI (xsetI (xsetI h 126 (((Int32.ofInt (64)) + (xI h 104 21))).toNatClampNeg k) 127 (((Int32.ofInt (64)) + (xI h 104 21))).toNatClampNeg a) 128 (((Int32.ofInt (64)) + (xI h 104 21))).toNatClampNeg b) 130 ((xI h 104 47)).toNatClampNeg (xI h 104 21)) 104 47 ((xI h 104 47) + (Int32.ofInt (1)))) 104 21 ((xI h 104 21) + (Int32.ofInt (1))))) (by decide) rfl rfl trivial ⟨_, _, _, rfl, rfl, rfl⟩ rfl ⟨Nat.le_of_eq hg.2.2.2.1.symm, Nat.le_of_eq hg.2.2.2.2.symm⟩ t9
set_option maxRecDepth 100000 in
set_option maxHeartbeats 2000000 in
theorem vh_rank (l : Launch) (k : Int32) (h : XH) (hg : sgood vT vR vE 153 6051 h) : ∃ r, CX l 0 0 false 209 [xi k] h [xi r] h ∧ (2 ≤ k.toInt → 1 ≤ r.toInt) ∧ (r.toInt < 1 → k.toInt < 2) ∧ (1 ≤ r.toInt → 2 ≤ k.toInt) := by
  have e13 : (Int32.ofInt (13)).toInt = 13 := rfl
  have e11 : (Int32.ofInt (11)).toInt = 11 := rfl
  have e5 : (Int32.ofInt (5)).toInt = 5 := rfl
  by_cases c1 : k < (Int32.ofInt (13))
  · have d3 : k.toInt < (Int32.ofInt (13)).toInt := Int32.lt_iff_toInt_lt.mp c1
    by_cases c2 : k < (Int32.ofInt (11))
    · have d14 : k.toInt < (Int32.ofInt (11)).toInt := Int32.lt_iff_toInt_lt.mp c2
      by_cases c3 : k < (Int32.ofInt (5))
      · have d23 : k.toInt < (Int32.ofInt (5)).toInt := Int32.lt_iff_toInt_lt.mp c3
        by_cases c4 : k = (Int32.ofInt (2))
        · have d32 := veq ⟨by decide, by decide⟩ c4
          have t5 : XT l 0 0 false 209 153 6051 0 [xi k] [] h 58 [xi k] [xi (Int32.ofInt (3))] h := XT_path (l := l) (fr := 0) (lo := 0) (full := false) (M := 209) (n := 153) (u := 6051) (pc := 0) (L := [xi k]) (st := []) (h := h) (inl := []) (n' := 80) (sp := [58]) (o := [1, 1, 1, 0]) rfl rfl ⟨rfl, rfl, rfl⟩ rfl ⟨Nat.le_of_eq hg.2.2.2.1, Nat.le_of_eq hg.2.2.2.2⟩ ⟨⟨⟨⟨trivial, c1⟩, c2⟩, c3⟩, c4⟩
          have er : (Int32.ofInt (3)).toInt = 3 := rfl
          exact ⟨(Int32.ofInt (3)), CX_ofT (h' := h) (by decide) rfl rfl trivial ⟨_, _, _, rfl, rfl, rfl⟩ rfl ⟨Nat.le_of_eq hg.2.2.2.1.symm, Nat.le_of_eq hg.2.2.2.2.symm⟩ t5, fun _ => by omega, fun _ => by omega, fun _ => by omega⟩
        · have d32 := vne c4
          by_cases c6 : k = (Int32.ofInt (3))
          · have d41 := veq ⟨by decide, by decide⟩ c6
            have t7 : XT l 0 0 false 209 153 6051 0 [xi k] [] h 58 [xi k] [xi (Int32.ofInt (2))] h := XT_path (l := l) (fr := 0) (lo := 0) (full := false) (M := 209) (n := 153) (u := 6051) (pc := 0) (L := [xi k]) (st := []) (h := h) (inl := []) (n' := 80) (sp := [58]) (o := [1, 1, 1, 1, 0]) rfl rfl ⟨rfl, rfl, rfl⟩ rfl ⟨Nat.le_of_eq hg.2.2.2.1, Nat.le_of_eq hg.2.2.2.2⟩ ⟨⟨⟨⟨⟨trivial, c1⟩, c2⟩, c3⟩, c4⟩, c6⟩
            have er : (Int32.ofInt (2)).toInt = 2 := rfl
            exact ⟨(Int32.ofInt (2)), CX_ofT (h' := h) (by decide) rfl rfl trivial ⟨_, _, _, rfl, rfl, rfl⟩ rfl ⟨Nat.le_of_eq hg.2.2.2.1.symm, Nat.le_of_eq hg.2.2.2.2.symm⟩ t7, fun _ => by omega, fun _ => by omega, fun _ => by omega⟩
          · have d41 := vne c6
            by_cases c8 : k = (Int32.ofInt (4))
            · have d50 := veq ⟨by decide, by decide⟩ c8
              have t9 : XT l 0 0 false 209 153 6051 0 [xi k] [] h 58 [xi k] [xi (Int32.ofInt (1))] h := XT_path (l := l) (fr := 0) (lo := 0) (full := false) (M := 209) (n := 153) (u := 6051) (pc := 0) (L := [xi k]) (st := []) (h := h) (inl := []) (n' := 80) (sp := [58]) (o := [1, 1, 1, 1, 1, 0]) rfl rfl ⟨rfl, rfl, rfl⟩ rfl ⟨Nat.le_of_eq hg.2.2.2.1, Nat.le_of_eq hg.2.2.2.2⟩ ⟨⟨⟨⟨⟨⟨trivial, c1⟩, c2⟩, c3⟩, c4⟩, c6⟩, c8⟩
              have er : (Int32.ofInt (1)).toInt = 1 := rfl
              exact ⟨(Int32.ofInt (1)), CX_ofT (h' := h) (by decide) rfl rfl trivial ⟨_, _, _, rfl, rfl, rfl⟩ rfl ⟨Nat.le_of_eq hg.2.2.2.1.symm, Nat.le_of_eq hg.2.2.2.2.symm⟩ t9, fun _ => by omega, fun _ => by omega, fun _ => by omega⟩
            · have d50 := vne c8
              have t10 : XT l 0 0 false 209 153 6051 0 [xi k] [] h 58 [xi k] [xi (Int32.ofInt (0))] h := XT_path (l := l) (fr := 0) (lo := 0) (full := false) (M := 209) (n := 153) (u := 6051) (pc := 0) (L := [xi k]) (st := []) (h := h) (inl := []) (n' := 80) (sp := [58]) (o := [1, 1, 1, 1, 1, 1]) rfl rfl ⟨rfl, rfl, rfl⟩ rfl ⟨Nat.le_of_eq hg.2.2.2.1, Nat.le_of_eq hg.2.2.2.2⟩ ⟨⟨⟨⟨⟨⟨trivial, c1⟩, c2⟩, c3⟩, c4⟩, c6⟩, c8⟩
              have er : (Int32.ofInt (0)).toInt = 0 := rfl
              exact ⟨(Int32.ofInt (0)), CX_ofT (h' := h) (by decide) rfl rfl trivial ⟨_, _, _, rfl, rfl, rfl⟩ rfl ⟨Nat.le_of_eq hg.2.2.2.1.symm, Nat.le_of_eq hg.2.2.2.2.symm⟩ t10, fun _ => by omega, fun _ => by omega, fun _ => by omega⟩
      · have d23 : ¬ k.toInt < (Int32.ofInt (5)).toInt := fun z => c3 (Int32.lt_iff_toInt_lt.mpr z)
        have t11 : XT l 0 0 false 209 153 6051 0 [xi k] [] h 58 [xi k] [xi (Int32.ofInt (4))] h := XT_path (l := l) (fr := 0) (lo := 0) (full := false) (M := 209) (n := 153) (u := 6051) (pc := 0) (L := [xi k]) (st := []) (h := h) (inl := []) (n' := 80) (sp := [58]) (o := [1, 1, 0]) rfl rfl ⟨rfl, rfl, rfl⟩ rfl ⟨Nat.le_of_eq hg.2.2.2.1, Nat.le_of_eq hg.2.2.2.2⟩ ⟨⟨⟨trivial, c1⟩, c2⟩, c3⟩
        have er : (Int32.ofInt (4)).toInt = 4 := rfl
        exact ⟨(Int32.ofInt (4)), CX_ofT (h' := h) (by decide) rfl rfl trivial ⟨_, _, _, rfl, rfl, rfl⟩ rfl ⟨Nat.le_of_eq hg.2.2.2.1.symm, Nat.le_of_eq hg.2.2.2.2.symm⟩ t11, fun _ => by omega, fun _ => by omega, fun _ => by omega⟩
    · have d14 : ¬ k.toInt < (Int32.ofInt (11)).toInt := fun z => c2 (Int32.lt_iff_toInt_lt.mpr z)
      have t12 : XT l 0 0 false 209 153 6051 0 [xi k] [] h 58 [xi k] [xi (Int32.ofInt (5))] h := XT_path (l := l) (fr := 0) (lo := 0) (full := false) (M := 209) (n := 153) (u := 6051) (pc := 0) (L := [xi k]) (st := []) (h := h) (inl := []) (n' := 80) (sp := [58]) (o := [1, 0]) rfl rfl ⟨rfl, rfl, rfl⟩ rfl ⟨Nat.le_of_eq hg.2.2.2.1, Nat.le_of_eq hg.2.2.2.2⟩ ⟨⟨trivial, c1⟩, c2⟩
      have er : (Int32.ofInt (5)).toInt = 5 := rfl
      exact ⟨(Int32.ofInt (5)), CX_ofT (h' := h) (by decide) rfl rfl trivial ⟨_, _, _, rfl, rfl, rfl⟩ rfl ⟨Nat.le_of_eq hg.2.2.2.1.symm, Nat.le_of_eq hg.2.2.2.2.symm⟩ t12, fun _ => by omega, fun _ => by omega, fun _ => by omega⟩
  · have d3 : ¬ k.toInt < (Int32.ofInt (13)).toInt := fun z => c1 (Int32.lt_iff_toInt_lt.mpr z)
    have t13 : XT l 0 0 false 209 153 6051 0 [xi k] [] h 58 [xi k] [xi (Int32.ofInt (6))] h := XT_path (l := l) (fr := 0) (lo := 0) (full := false) (M := 209) (n := 153) (u := 6051) (pc := 0) (L := [xi k]) (st := []) (h := h) (inl := []) (n' := 80) (sp := [58]) (o := [0]) rfl rfl ⟨rfl, rfl, rfl⟩ rfl ⟨Nat.le_of_eq hg.2.2.2.1, Nat.le_of_eq hg.2.2.2.2⟩ ⟨trivial, c1⟩
    have er : (Int32.ofInt (6)).toInt = 6 := rfl
    exact ⟨(Int32.ofInt (6)), CX_ofT (h' := h) (by decide) rfl rfl trivial ⟨_, _, _, rfl, rfl, rfl⟩ rfl ⟨Nat.le_of_eq hg.2.2.2.1.symm, Nat.le_of_eq hg.2.2.2.2.symm⟩ t13, fun _ => by omega, fun _ => by omega, fun _ => by omega⟩
theorem vq_391 (l : Launch)  (h : XH) (hg : sgood vT vR vE 153 6051 h) (w0 : 0 ≤ (xI h 104 7).toInt ∧ (xI h 104 7).toInt ≤ 700) : ∃ (h' : XH), CX l 1 27 false 180 [xf 13 104] h [] h' ∧ sgood vT vR vE 153 6051 h' ∧ sframe ([(104, 7, false), (104, 8, false), (104, 9, false), (104, 10, false)], []) h h' ∧ (((0 ≤ (xI h 104 7).toInt ∧ (xI h 104 7).toInt ≤ 699) ∧ (1 ≤ (xI h' 104 7).toInt ∧ (xI h' 104 7).toInt ≤ 700) ∧ (0 ≤ (xI h' 104 8).toInt ∧ (xI h' 104 8).toInt ≤ 0) ∧ ((xI h 104 7).toInt + 1 ≤ (xI h' 104 7).toInt)) ∨ ((0 ≤ (xI h' 104 7).toInt ∧ (xI h' 104 7).toInt ≤ 700) ∧ (0 ≤ (xI h' 104 8).toInt ∧ (xI h' 104 8).toInt ≤ 0) ∧ ((xI h 104 7).toInt + 0 ≤ (xI h' 104 7).toInt)) ∨ ((0 ≤ (xI h 104 7).toInt ∧ (xI h 104 7).toInt ≤ 699) ∧ (1 ≤ (xI h' 104 7).toInt ∧ (xI h' 104 7).toInt ≤ 700) ∧ (6 ≤ (xI h' 104 8).toInt ∧ (xI h' 104 8).toInt ≤ 6) ∧ ((xI h 104 7).toInt + 1 ≤ (xI h' 104 7).toInt)) ∨ ((0 ≤ (xI h 104 7).toInt ∧ (xI h 104 7).toInt ≤ 699) ∧ (1 ≤ (xI h' 104 7).toInt ∧ (xI h' 104 7).toInt ≤ 700) ∧ (4 ≤ (xI h' 104 8).toInt ∧ (xI h' 104 8).toInt ≤ 5) ∧ ((xI h 104 7).toInt + 1 ≤ (xI h' 104 7).toInt)) ∨ ((0 ≤ (xI h 104 7).toInt ∧ (xI h 104 7).toInt ≤ 699) ∧ (0 ≤ (xI h' 104 7).toInt ∧ (xI h' 104 7).toInt ≤ 700) ∧ (1 ≤ (xI h' 104 8).toInt ∧ (xI h' 104 8).toInt ≤ 3) ∧ ((xI h 104 7).toInt + 0 ≤ (xI h' 104 7).toInt)) ∨ ((0 ≤ (xI h 104 7).toInt ∧ (xI h 104 7).toInt ≤ 699) ∧ (0 ≤ (xI h' 104 7).toInt ∧ (xI h' 104 7).toInt ≤ 700) ∧ (6 ≤ (xI h' 104 8).toInt ∧ (xI h' 104 8).toInt ≤ 6) ∧ ((xI h 104 7).toInt + 0 ≤ (xI h' 104 7).toInt))) := by
  have ha : sargs (cap vC_391) [xf 13 104] := ⟨rfl, trivial⟩
  obtain ⟨ρ, rs, h', ⟨hv, hw⟩, c, g, f, cs, hcs, k1, k2, k3, k4, k5, k6⟩ := vc_391 l [xf 13 104] h ha hg (fun q hq => absurd hq List.not_mem_nil) (fun q hq => by
    rcases List.mem_cons.mp hq with rfl | hq
    · exact w0
    exact absurd hq List.not_mem_nil) (fun ρ hρ g hg' => absurd hg' List.not_mem_nil)
  have f0 : ρ 0 = (xI h 104 7).toInt := hw 0 _ rfl
  rcases List.mem_cons.mp hcs with rfl | hcs
  · obtain rfl := sres_n k3
    exact ⟨h', c, g, f, Or.inl ⟨(by have z := k2 0 _ rfl; rw [show sarn (cap vC_391) + 0 = 0 from rfl, f0] at z; exact z), (k4 _ List.mem_cons_self), (k4 _ (List.mem_cons_of_mem _ List.mem_cons_self)), (by have z := k5 _ List.mem_cons_self _ rfl; rw [show sarn (cap vC_391) + 0 = 0 from rfl, f0] at z; exact z)⟩⟩
  rcases List.mem_cons.mp hcs with rfl | hcs
  · obtain rfl := sres_n k3
    exact ⟨h', c, g, f, Or.inr (Or.inl ⟨(k4 _ List.mem_cons_self), (k4 _ (List.mem_cons_of_mem _ List.mem_cons_self)), (by have z := k5 _ List.mem_cons_self _ rfl; rw [show sarn (cap vC_391) + 0 = 0 from rfl, f0] at z; exact z)⟩)⟩
  rcases List.mem_cons.mp hcs with rfl | hcs
  · obtain rfl := sres_n k3
    exact ⟨h', c, g, f, Or.inr (Or.inr (Or.inl ⟨(by have z := k2 0 _ rfl; rw [show sarn (cap vC_391) + 0 = 0 from rfl, f0] at z; exact z), (k4 _ List.mem_cons_self), (k4 _ (List.mem_cons_of_mem _ List.mem_cons_self)), (by have z := k5 _ List.mem_cons_self _ rfl; rw [show sarn (cap vC_391) + 0 = 0 from rfl, f0] at z; exact z)⟩))⟩
  rcases List.mem_cons.mp hcs with rfl | hcs
  · obtain rfl := sres_n k3
    exact ⟨h', c, g, f, Or.inr (Or.inr (Or.inr (Or.inl ⟨(by have z := k2 0 _ rfl; rw [show sarn (cap vC_391) + 0 = 0 from rfl, f0] at z; exact z), (k4 _ List.mem_cons_self), (k4 _ (List.mem_cons_of_mem _ List.mem_cons_self)), (by have z := k5 _ List.mem_cons_self _ rfl; rw [show sarn (cap vC_391) + 0 = 0 from rfl, f0] at z; exact z)⟩)))⟩
  rcases List.mem_cons.mp hcs with rfl | hcs
  · obtain rfl := sres_n k3
    exact ⟨h', c, g, f, Or.inr (Or.inr (Or.inr (Or.inr (Or.inl ⟨(by have z := k2 0 _ rfl; rw [show sarn (cap vC_391) + 0 = 0 from rfl, f0] at z; exact z), (k4 _ List.mem_cons_self), (k4 _ (List.mem_cons_of_mem _ List.mem_cons_self)), (by have z := k5 _ List.mem_cons_self _ rfl; rw [show sarn (cap vC_391) + 0 = 0 from rfl, f0] at z; exact z)⟩))))⟩
  rcases List.mem_cons.mp hcs with rfl | hcs
  · obtain rfl := sres_n k3
    exact ⟨h', c, g, f, Or.inr (Or.inr (Or.inr (Or.inr (Or.inr (⟨(by have z := k2 0 _ rfl; rw [show sarn (cap vC_391) + 0 = 0 from rfl, f0] at z; exact z), (k4 _ List.mem_cons_self), (k4 _ (List.mem_cons_of_mem _ List.mem_cons_self)), (by have z := k5 _ List.mem_cons_self _ rfl; rw [show sarn (cap vC_391) + 0 = 0 from rfl, f0] at z; exact z)⟩)))))⟩
  exact absurd hcs List.not_mem_nil
theorem vh_token (l : Launch) (h : XH) (hg : sgood vT vR vE 153 6051 h) : ∃ h', CX l 1 27 false 180 [xf 13 104] h [] h' ∧ sgood vT vR vE 153 6051 h' ∧ sframe ([(104, 7, false), (104, 8, false), (104, 9, false), (104, 10, false)], []) h h' ∧ (xI h 104 7).toInt ≤ (xI h' 104 7).toInt ∧ (4 ≤ (xI h' 104 8).toInt → (xI h' 104 8).toInt ≤ 5 → (xI h 104 7).toInt + 1 ≤ (xI h' 104 7).toInt) := by
  obtain ⟨h', c, g, f, o⟩ := vq_391 l h hg (vbnd hg.1 104 7)
  refine ⟨h', c, g, f, ?_, fun z1 z2 => ?_⟩
  · omega
  · omega
theorem vh_grownF {h : XH} {k a b : Int32} (hg : sgood vT vR vE 153 6051 h) (h1 : (xI h 104 21).toInt ≤ 63) : ∃ h', h' = (xsetI (xsetI (xsetI (xsetI (xsetI (xsetI h 126 (Int32.ofInt (64) + (xI h 104 21)).toNatClampNeg k) 127 (Int32.ofInt (64) + (xI h 104 21)).toNatClampNeg a) 128 (Int32.ofInt (64) + (xI h 104 21)).toNatClampNeg b) 130 (xI h 104 47).toNatClampNeg (xI h 104 21)) 104 47 ((xI h 104 47) + Int32.ofInt (1))) 104 21 ((xI h 104 21) + Int32.ofInt (1))) ∧ xI h' 104 47 = xI h 104 47 + Int32.ofInt (1) ∧ xI h' 104 21 = xI h 104 21 + Int32.ofInt (1) ∧ (∀ j, j ≠ 21 → j ≠ 47 → xI h' 104 j = xI h 104 j) ∧ (∀ i, xI h' 129 i = xI h 129 i) ∧ (∀ i : Nat, (i : Int) = (xI h 104 47).toInt → xI h' 130 i = xI h 104 21) ∧ (∀ i : Nat, (i : Int) ≠ (xI h 104 47).toInt → xI h' 130 i = xI h 130 i) ∧ (∀ c, 126 ≤ c → c ≤ 128 → ∀ j, j ≠ 64 + (xI h 104 21).toInt.toNat → xI h' c j = xI h c j) ∧ xI h' 126 (64 + (xI h 104 21).toInt.toNat) = k ∧ xI h' 127 (64 + (xI h 104 21).toInt.toNat) = a ∧ xI h' 128 (64 + (xI h 104 21).toInt.toNat) = b := by
  have b21 : 0 ≤ (xI h 104 21).toInt ∧ (xI h 104 21).toInt ≤ 64 := vbnd hg.1 104 21
  have b47 : 0 ≤ (xI h 104 47).toInt ∧ (xI h 104 47).toInt ≤ 64 := vbnd hg.1 104 47
  have e := y_64 b21.1 (by omega)
  have eN : (Int32.ofInt (64) + (xI h 104 21)).toNatClampNeg = 64 + (xI h 104 21).toInt.toNat := by
    show (Int32.ofInt (64) + (xI h 104 21)).toInt.toNat = _
    omega
  have eD : (xI h 104 47).toNatClampNeg = (xI h 104 47).toInt.toNat := rfl
  refine ⟨_, rfl, (yI_ne (by decide)).trans yI_same, yI_same, fun j j1 j2 => ?_, fun i => ?_, fun i hi => ?_, fun i hi => ?_, fun c c1 c2 j hj => ?_, ?_, ?_, ?_⟩
  · rw [yI_ne (eq_false (fun z => j1 z.2)), yI_ne (eq_false (fun z => j2 z.2)), yI_c (by decide), yI_c (by decide), yI_c (by decide), yI_c (by decide)]
  · rw [yI_c (by decide), yI_c (by decide), yI_c (by decide), yI_c (by decide), yI_c (by decide), yI_c (by decide)]
  · obtain rfl : i = (xI h 104 47).toNatClampNeg := by omega
    rw [yI_c (by decide), yI_c (by decide), yI_same]
  · rw [yI_c (by decide), yI_c (by decide), yI_ne (eq_false (fun z => hi (by have := z.2; omega))), yI_c (by decide), yI_c (by decide), yI_c (by decide)]
  · rw [← eN] at hj
    rw [yI_c (eq_false (by omega)), yI_c (eq_false (by omega)), yI_c (eq_false (by omega)), yI_ne (eq_false (fun z => hj z.2)), yI_ne (eq_false (fun z => hj z.2)), yI_ne (eq_false (fun z => hj z.2))]
  · rw [← eN, yI_c (by decide), yI_c (by decide), yI_c (by decide), yI_c (by decide), yI_c (by decide), yI_same]
  · rw [← eN, yI_c (by decide), yI_c (by decide), yI_c (by decide), yI_c (by decide), yI_same]
  · rw [← eN, yI_c (by decide), yI_c (by decide), yI_c (by decide), yI_same]
theorem vh_grownG {W : SW} {h0 h h' : XH} {k a b : Int32} (G : vG W h0 h) (h1 : (xI h 104 21).toInt ≤ 63) (h2 : (xI h 104 47).toInt ≤ 63) (hk : 0 ≤ k.toInt ∧ k.toInt ≤ 14) (hb : -1 ≤ b.toInt ∧ b.toInt ≤ 63) (w1 : ∀ k, swin W.1 126 k = true) (w2 : ∀ k, swin W.1 127 k = true) (w3 : ∀ k, swin W.1 128 k = true) (w4 : ∀ k, swin W.1 130 k = true) (w5 : swin W.1 104 47 = true) (w6 : swin W.1 104 21 = true) (e : h' = (xsetI (xsetI (xsetI (xsetI (xsetI (xsetI h 126 (Int32.ofInt (64) + (xI h 104 21)).toNatClampNeg k) 127 (Int32.ofInt (64) + (xI h 104 21)).toNatClampNeg a) 128 (Int32.ofInt (64) + (xI h 104 21)).toNatClampNeg b) 130 (xI h 104 47).toNatClampNeg (xI h 104 21)) 104 47 ((xI h 104 47) + Int32.ofInt (1))) 104 21 ((xI h 104 21) + Int32.ofInt (1)))) : vG W h0 h' := by
  have b21 : 0 ≤ (xI h 104 21).toInt ∧ (xI h 104 21).toInt ≤ 64 := vbnd G.1.1 104 21
  have b47 : 0 ≤ (xI h 104 47).toInt ∧ (xI h 104 47).toInt ≤ 64 := vbnd G.1.1 104 47
  have e1 := y_64 b21.1 (by omega)
  have eN : 64 ≤ (Int32.ofInt (64) + (xI h 104 21)).toNatClampNeg := by
    show 64 ≤ (Int32.ofInt (64) + (xI h 104 21)).toInt.toNat
    omega
  have e2 := y_suc1 b21.1 (by omega)
  have e3 := y_suc1 b47.1 (by omega)
  rw [e]
  exact vs21 (vs47 (vs130 (vs128 (vs127 (vs126 G eN hk w1) eN w2) eN hb w3) ⟨b21.1, h1⟩ w4) (by omega) w5) (by omega) w6
set_option maxRecDepth 100000 in
set_option maxHeartbeats 2000000 in
theorem vh_bindL (l : Launch) (f : Int) (e : Int32) (he : 1 ≤ e.toInt) : ∀ (m : Nat) (x2 x3 x4 : XV) (h : XH), sgood vT vR vE 153 6051 h → vpi h f 1 → (xI h 104 46).toInt = m → ∃ L' h', XT l 1 60 false 208 153 6051 0 [xf 13 104, xi e, x2, x3, x4] [] h 76 L' [] h' ∧ L'.length = 5 ∧ vP f h h' ∧ vpi h' f 1 ∧ (∀ k, k ≠ 21 → k ≠ 46 → k ≠ 47 → xI h' 104 k = xI h 104 k) ∧ (e.toInt = 1 → (xI h' 104 46).toInt = 0 ∨ (xI h' 129 ((xI h' 104 46).toInt.toNat - 1)).toInt = 0)
  | 0, x2, x3, x4, h, hg, H, hm => by
    have e0 : (0 : Int32).toInt = 0 := rfl
    have b46 : 0 ≤ (xI h 104 46).toInt ∧ (xI h 104 46).toInt ≤ 72 := vbnd hg.1 104 46
    have b47 : 0 ≤ (xI h 104 47).toInt ∧ (xI h 104 47).toInt ≤ 64 := vbnd hg.1 104 47
    have b21 : 0 ≤ (xI h 104 21).toInt ∧ (xI h 104 21).toInt ≤ 64 := vbnd hg.1 104 21
    have b48 : 0 ≤ (xI h 104 48).toInt ∧ (xI h 104 48).toInt ≤ 8 := vbnd hg.1 104 48
    have b49 : 0 ≤ (xI h 104 49).toInt ∧ (xI h 104 49).toInt ≤ 64 := vbnd hg.1 104 49
    have ew := y_pred b46.1 (by omega)
    have nW : ((xI h 104 46) - Int32.ofInt (1)).toNatClampNeg = (xI h 104 46).toInt.toNat - 1 := by
      show (((xI h 104 46) - Int32.ofInt (1))).toInt.toNat = _
      omega
    have t1 : XT l 1 60 false 208 153 6051 0 [xf 13 104, xi e, x2, x3, x4] [] h 76 [xf 13 104, xi e, x2, x3, x4] [] h := XT_path (l := l) (fr := 1) (lo := 60) (full := false) (M := 208) (n := 153) (u := 6051) (pc := 0) (L := [xf 13 104, xi e, x2, x3, x4]) (st := []) (h := h) (inl := []) (n' := 80) (sp := [76]) (o := [1]) rfl rfl ⟨rfl, rfl, rfl⟩ rfl ⟨Nat.le_of_eq hg.2.2.2.1, Nat.le_of_eq hg.2.2.2.2⟩ ⟨trivial, (Int32.le_iff_toInt_le.mpr (by omega))⟩
    exact ⟨_, h, t1, rfl, vP.rf hg, H, fun _ _ _ _ => rfl, fun _ => Or.inl hm⟩
  | m + 1, x2, x3, x4, h, hg, H, hm => by
    have e0 : (0 : Int32).toInt = 0 := rfl
    have b46 : 0 ≤ (xI h 104 46).toInt ∧ (xI h 104 46).toInt ≤ 72 := vbnd hg.1 104 46
    have b47 : 0 ≤ (xI h 104 47).toInt ∧ (xI h 104 47).toInt ≤ 64 := vbnd hg.1 104 47
    have b21 : 0 ≤ (xI h 104 21).toInt ∧ (xI h 104 21).toInt ≤ 64 := vbnd hg.1 104 21
    have b48 : 0 ≤ (xI h 104 48).toInt ∧ (xI h 104 48).toInt ≤ 8 := vbnd hg.1 104 48
    have b49 : 0 ≤ (xI h 104 49).toInt ∧ (xI h 104 49).toInt ≤ 64 := vbnd hg.1 104 49
    have ew := y_pred b46.1 (by omega)
    have nW : ((xI h 104 46) - Int32.ofInt (1)).toNatClampNeg = (xI h 104 46).toInt.toNat - 1 := by
      show (((xI h 104 46) - Int32.ofInt (1))).toInt.toNat = _
      omega
    have t2 : XT l 1 60 false 208 153 6051 0 [xf 13 104, xi e, x2, x3, x4] [] h 18 [xf 13 104, xi e, x2, x3, x4] [xi (xI h (xR h 104 44) (((xI h 104 46) - (Int32.ofInt (1)))).toNatClampNeg)] h := XT_path (l := l) (fr := 1) (lo := 60) (full := false) (M := 208) (n := 153) (u := 6051) (pc := 0) (L := [xf 13 104, xi e, x2, x3, x4]) (st := []) (h := h) (inl := []) (n' := 80) (sp := [18]) (o := [0]) rfl rfl ⟨rfl, rfl, rfl⟩ rfl ⟨Nat.le_of_eq hg.2.2.2.1, Nat.le_of_eq hg.2.2.2.2⟩ ⟨⟨⟨trivial, (fun z => absurd (Int32.le_iff_toInt_le.mp z) (by omega))⟩, (vnn hg.1 (rfl : vRf 104 44 = [129]) (by decide))⟩, (vp_of (i := ((xI h 104 46) - (Int32.ofInt (1)))) (n := 96) (by omega) (by omega))⟩
    rw [vref hg.1 (rfl : vRf 104 44 = [129])] at t2
    obtain ⟨r, c1, q1, q2, q3⟩ := vh_rank l (xI h 129 (((xI h 104 46) - (Int32.ofInt (1)))).toNatClampNeg) h hg
    have t3 : XT l 1 60 false 208 153 6051 18 [xf 13 104, xi e, x2, x3, x4] [xi (xI h 129 (((xI h 104 46) - (Int32.ofInt (1)))).toNatClampNeg)] h 21 [xf 13 104, xi e, x2, x3, x4] [xi r] h := XT_call (l := l) (fr := 1) (lo := 60) (full := false) (M := 208) (n := 153) (u := 6051) (pc := 18) (L := [xf 13 104, xi e, x2, x3, x4]) (st := [xi (xI h 129 (((xI h 104 46) - (Int32.ofInt (1)))).toNatClampNeg)]) (h := h) (i := .invokestatic 209) (aux := 1) (nx := 21) (K := 209) (vs := [xi (xI h 129 (((xI h 104 46) - (Int32.ofInt (1)))).toNatClampNeg)]) (rs := [xi r]) (rest := []) rfl rfl rfl rfl rfl rfl c1 (by decide) (by decide) (Nat.le_of_ble_eq_true rfl) ⟨Nat.le_of_eq hg.2.2.2.1, Nat.le_of_eq hg.2.2.2.2⟩
    have t4 := t2.tr t3
    by_cases c5 : r < e
    · have t6 : XT l 1 60 false 208 153 6051 21 [xf 13 104, xi e, x2, x3, x4] [xi r] h 76 [xf 13 104, xi e, x2, x3, x4] [] h := XT_path (l := l) (fr := 1) (lo := 60) (full := false) (M := 208) (n := 153) (u := 6051) (pc := 21) (L := [xf 13 104, xi e, x2, x3, x4]) (st := [xi r]) (h := h) (inl := []) (n' := 80) (sp := [76]) (o := [1]) rfl rfl ⟨rfl, rfl, rfl⟩ rfl ⟨Nat.le_of_eq hg.2.2.2.1, Nat.le_of_eq hg.2.2.2.2⟩ ⟨trivial, c5⟩
      have t7 := t4.tr t6
      refine ⟨_, h, t7, rfl, vP.rf hg, H, fun _ _ _ _ => rfl, fun e1 => Or.inr ?_⟩
      have z := q2 (by have := Int32.lt_iff_toInt_lt.mp c5; omega)
      rw [nW] at z
      have z1 := H.2.2.1 ((xI h 104 46).toInt.toNat - 1) (by omega)
      have z2 := vbnd hg.1 129 ((xI h 104 46).toInt.toNat - 1)
      rw [vI_u rfl (rfl : vRow 129 = (0, 14))] at z2
      have z2 : 0 ≤ (xI h 129 ((xI h 104 46).toInt.toNat - 1)).toInt := z2.1
      omega
    · have t8 : XT l 1 60 false 208 153 6051 21 [xf 13 104, xi e, x2, x3, x4] [xi r] h 45 [xf 13 104, xi e, xi (xI (xsetI h 104 46 ((xI h 104 46) - (Int32.ofInt (1)))) (xR h 104 44) (((xI h 104 46) - (Int32.ofInt (1)))).toNatClampNeg), x3, x4] [] (xsetI h 104 46 ((xI h 104 46) - (Int32.ofInt (1)))) := XT_path (l := l) (fr := 1) (lo := 60) (full := false) (M := 208) (n := 153) (u := 6051) (pc := 21) (L := [xf 13 104, xi e, x2, x3, x4]) (st := [xi r]) (h := h) (inl := []) (n' := 80) (sp := [45]) (o := [0]) rfl rfl ⟨rfl, rfl, rfl⟩ rfl ⟨Nat.le_of_eq hg.2.2.2.1, Nat.le_of_eq hg.2.2.2.2⟩ ⟨⟨⟨trivial, c5⟩, (vnn hg.1 (rfl : vRf 104 44 = [129]) (by decide))⟩, (vp_of (i := ((xI h 104 46) - (Int32.ofInt (1)))) (n := 96) (by omega) (by omega))⟩
      rw [vref hg.1 (rfl : vRf 104 44 = [129])] at t8
      have t9 : XT l 1 60 false 208 153 6051 21 [xf 13 104, xi e, x2, x3, x4] [xi r] h 45 [xf 13 104, xi e, xi (xI h 129 (((xI h 104 46) - (Int32.ofInt (1)))).toNatClampNeg), x3, x4] [] (xsetI h 104 46 ((xI h 104 46) - (Int32.ofInt (1)))) := t8
      have t10 := t4.tr t9
      have rl : ¬ r.toInt < e.toInt := fun z => c5 (Int32.lt_iff_toInt_lt.mpr z)
      obtain ⟨k, ek⟩ : ∃ k, k = (xI h 129 (((xI h 104 46) - (Int32.ofInt (1)))).toNatClampNeg) := ⟨_, rfl⟩
      rw [← ek] at t10
      have k2 : 2 ≤ k.toInt := by rw [ek]; exact q3 (by omega)
      rw [nW] at ek
      have bk := vbnd hg.1 129 ((xI h 104 46).toInt.toNat - 1)
      rw [vI_u rfl (rfl : vRow 129 = (0, 14)), ← ek] at bk
      have bk : 0 ≤ k.toInt ∧ k.toInt ≤ 14 := bk
      have G1' : vG ([(104, 4, false), (104, 5, false), (104, 7, false), (104, 8, false), (104, 9, false), (104, 10, false), (104, 21, false), (104, 46, false), (104, 47, false), (104, 48, false), (104, 49, false), (104, 50, false), (104, 51, false), (126, 0, true), (127, 0, true), (128, 0, true), (129, 0, true), (130, 0, true)], []) h (xsetI h 104 46 ((xI h 104 46) - (Int32.ofInt (1)))) := vs46 (vG.rf hg) (by omega) rfl
      obtain ⟨h1, e1⟩ : ∃ x, x = (xsetI h 104 46 ((xI h 104 46) - (Int32.ofInt (1)))) := ⟨_, rfl⟩
      rw [← e1] at t10 G1'
      have G1 : vG ([(104, 4, false), (104, 5, false), (104, 7, false), (104, 8, false), (104, 9, false), (104, 10, false), (104, 21, false), (104, 46, false), (104, 47, false), (104, 48, false), (104, 49, false), (104, 50, false), (104, 51, false), (126, 0, true), (127, 0, true), (128, 0, true), (129, 0, true), (130, 0, true)], []) h h1 := G1'
      have a46 : xI h1 104 46 = ((xI h 104 46) - Int32.ofInt (1)) := by rw [e1]; exact yI_same
      have o46 : ∀ c j, ¬ (c = 104 ∧ j = 46) → xI h1 c j = xI h c j := fun c j z => by rw [e1]; exact yI_ne (eq_false z)
      have a47 : xI h1 104 47 = xI h 104 47 := o46 _ _ (by decide)
      obtain ⟨i0, i1, i2, i3, i4, i5, i6, i7⟩ := id H
      have t3 := i3
      have t4 := i4
      have t5 := i5
      rw [vcnt_top (n := (xI h 104 46).toInt.toNat) (by omega), ← ek] at t3
      rw [vcnt_top (n := (xI h 104 46).toInt.toNat) (by omega), ← ek, gz1 (by omega)] at t4
      rw [vcnt_top (n := (xI h 104 46).toInt.toNat) (by omega), ← ek, gn1 (by omega)] at t5
      have tb := vcnt_bn (f := xI h 129) ((xI h 104 46).toInt.toNat - 1)
      have d1 : 1 ≤ (xI h1 104 47).toInt := by rw [a47]; omega
      have b147 : 0 ≤ (xI h1 104 47).toInt ∧ (xI h1 104 47).toInt ≤ 64 := vbnd G1.1.1 104 47
      have y1 := y_pred b147.1 (by omega)
      have nd : ((xI h1 104 47) - Int32.ofInt (1)).toNatClampNeg = (xI h 104 47).toInt.toNat - 1 := by
        show ((xI h1 104 47) - Int32.ofInt (1)).toInt.toNat = _
        rw [y1, a47]; omega
      by_cases c11 : k = (Int32.ofInt (2))
      · have t12 : XT l 1 60 false 208 153 6051 45 [xf 13 104, xi e, xi k, x3, x4] [] h1 60 [xf 13 104, xi e, xi k, xi (Int32.ofInt (-1)), x4] [xf 13 104] h1 := XT_path (l := l) (fr := 1) (lo := 60) (full := false) (M := 208) (n := 153) (u := 6051) (pc := 45) (L := [xf 13 104, xi e, xi k, x3, x4]) (st := []) (h := h1) (inl := []) (n' := 80) (sp := [60]) (o := [0]) rfl rfl ⟨rfl, rfl, rfl⟩ rfl ⟨Nat.le_of_eq G1.1.2.2.2.1, Nat.le_of_eq G1.1.2.2.2.2⟩ ⟨trivial, c11⟩
        have t13 := t10.tr t12
        have t14 : XT l 1 60 false 208 153 6051 60 [xf 13 104, xi e, xi k, xi (Int32.ofInt (-1)), x4] [xf 13 104] h1 63 [xf 13 104, xi e, xi k, xi (Int32.ofInt (-1)), x4] [xi (xI h1 130 ((xI h1 104 47) - Int32.ofInt (1)).toNatClampNeg)] (xsetI h1 104 47 ((xI h1 104 47) - Int32.ofInt (1))) := XT_call (l := l) (fr := 1) (lo := 60) (full := false) (M := 208) (n := 153) (u := 6051) (pc := 60) (L := [xf 13 104, xi e, xi k, xi (Int32.ofInt (-1)), x4]) (st := [xf 13 104]) (h := h1) (i := .invokevirtual 210) (aux := 1) (nx := 63) (K := 210) (vs := [xf 13 104]) (rs := [xi (xI h1 130 ((xI h1 104 47) - Int32.ofInt (1)).toNatClampNeg)]) (rest := []) rfl rfl rfl rfl rfl rfl (vh_drop l h1 G1.1 d1) (by decide) (by decide) (Nat.le_of_ble_eq_true rfl) ⟨Nat.le_of_eq G1.1.2.2.2.1, Nat.le_of_eq G1.1.2.2.2.2⟩
        have t15 := t13.tr t14
        have t16 : XT l 1 60 false 208 153 6051 63 [xf 13 104, xi e, xi k, xi (Int32.ofInt (-1)), x4] [xi (xI h1 130 ((xI h1 104 47) - Int32.ofInt (1)).toNatClampNeg)] (xsetI h1 104 47 ((xI h1 104 47) - Int32.ofInt (1))) 65 [xf 13 104, xi e, xi k, xi (Int32.ofInt (-1)), xi (xI h1 130 ((xI h1 104 47) - Int32.ofInt (1)).toNatClampNeg)] [] (xsetI h1 104 47 ((xI h1 104 47) - Int32.ofInt (1))) := XT_path (l := l) (fr := 1) (lo := 60) (full := false) (M := 208) (n := 153) (u := 6051) (pc := 63) (L := [xf 13 104, xi e, xi k, xi (Int32.ofInt (-1)), x4]) (st := [xi (xI h1 130 ((xI h1 104 47) - Int32.ofInt (1)).toNatClampNeg)]) (h := (xsetI h1 104 47 ((xI h1 104 47) - Int32.ofInt (1)))) (inl := []) (n' := 80) (sp := [65]) (o := []) rfl rfl ⟨rfl, rfl, rfl⟩ rfl ⟨Nat.le_of_eq G1.1.2.2.2.1, Nat.le_of_eq G1.1.2.2.2.2⟩ trivial
        have t17 := t15.tr t16
        have kk := veq ⟨by decide, by decide⟩ c11
        rw [gb2 (by omega)] at t3
        have hd := i6 ((xI h 104 47).toInt.toNat - 1) (by omega)
        obtain ⟨b, eb⟩ : ∃ b, b = Int32.ofInt (-1) := ⟨_, rfl⟩
        rw [← eb] at t17
        have vb : b.toInt = -1 := by rw [eb]; rfl
        obtain ⟨a, ea⟩ : ∃ a, a = (xI h1 130 ((xI h1 104 47) - Int32.ofInt (1)).toNatClampNeg) := ⟨_, rfl⟩
        rw [← ea] at t17
        rw [nd, o46 _ _ (by omega)] at ea
        have va : f ≤ a.toInt ∧ a.toInt < (xI h 104 21).toInt := by rw [ea]; exact hd
        have vb3 : 3 ≤ k.toInt → f ≤ b.toInt ∧ b.toInt < (xI h 104 21).toInt := fun z => by omega
        have G2' : vG ([(104, 4, false), (104, 5, false), (104, 7, false), (104, 8, false), (104, 9, false), (104, 10, false), (104, 21, false), (104, 46, false), (104, 47, false), (104, 48, false), (104, 49, false), (104, 50, false), (104, 51, false), (126, 0, true), (127, 0, true), (128, 0, true), (129, 0, true), (130, 0, true)], []) h (xsetI h1 104 47 ((xI h1 104 47) - Int32.ofInt (1))) := vs47 G1 (by omega) rfl
        obtain ⟨h2, e2⟩ : ∃ x, x = (xsetI h1 104 47 ((xI h1 104 47) - Int32.ofInt (1))) := ⟨_, rfl⟩
        rw [← e2] at t17 G2'
        have G2 : vG ([(104, 4, false), (104, 5, false), (104, 7, false), (104, 8, false), (104, 9, false), (104, 10, false), (104, 21, false), (104, 46, false), (104, 47, false), (104, 48, false), (104, 49, false), (104, 50, false), (104, 51, false), (126, 0, true), (127, 0, true), (128, 0, true), (129, 0, true), (130, 0, true)], []) h h2 := G2'
        have f47 : (xI h2 104 47).toInt = (xI h 104 47).toInt - 1 := by rw [e2, yI_same, y1, a47]
        have o47 : ∀ c j, ¬ (c = 104 ∧ j = 46) → ¬ (c = 104 ∧ j = 47) → xI h2 c j = xI h c j := fun c j z1 z2 => by rw [e2, yI_ne (eq_false z2)]; exact o46 c j z1
        have f46 : (xI h2 104 46).toInt = (xI h 104 46).toInt - 1 := by rw [e2, yI_ne (by decide), a46]; exact ew
        have f21 : xI h2 104 21 = xI h 104 21 := o47 _ _ (by decide) (by decide)
        obtain ⟨h3, eG, u47, u21, uo, u129, u130a, u130b, uk, n126, n127, n128⟩ := vh_grownF (k := k) (a := a) (b := b) G2.1 (by rw [f21]; omega)
        have G3 : vG ([(104, 4, false), (104, 5, false), (104, 7, false), (104, 8, false), (104, 9, false), (104, 10, false), (104, 21, false), (104, 46, false), (104, 47, false), (104, 48, false), (104, 49, false), (104, 50, false), (104, 51, false), (126, 0, true), (127, 0, true), (128, 0, true), (129, 0, true), (130, 0, true)], []) h h3 := vh_grownG G2 (by rw [f21]; omega) (by omega) bk (by omega) (fun _ => rfl) (fun _ => rfl) (fun _ => rfl) (fun _ => rfl) rfl rfl eG
        have b247 : 0 ≤ (xI h2 104 47).toInt ∧ (xI h2 104 47).toInt ≤ 64 := vbnd G2.1.1 104 47
        have v47 : (xI h3 104 47).toInt = (xI h2 104 47).toInt + 1 := by rw [u47]; exact y_suc1 b247.1 (by omega)
        have v21 : (xI h3 104 21).toInt = (xI h 104 21).toInt + 1 := by rw [u21, f21]; exact y_suc1 b21.1 (by omega)
        have v46 : (xI h3 104 46).toInt = (xI h 104 46).toInt - 1 := by rw [uo 46 (by decide) (by decide)]; exact f46
        have vW : (xI h3 104 46).toInt.toNat = (xI h 104 46).toInt.toNat - 1 := by omega
        have r129 : xI h3 129 = xI h 129 := funext fun i => (u129 i).trans (o47 _ _ (fun z => absurd z.1 (by decide)) (fun z => absurd z.1 (by decide)))
        have ro : ∀ j, j ≠ 21 → j ≠ 46 → j ≠ 47 → xI h3 104 j = xI h 104 j := fun j j1 j2 j3 => (uo j j1 j3).trans (o47 _ _ (fun z => j2 z.2) (fun z => j3 z.2))
        rw [f21] at uk n126 n127 n128
        have H3 : vpi h3 f 1 := by
          refine vpi_grow H b21.1 (fun i hi => ?_) ?_ ?_ ?_ v21 (by omega) (fun i hi => ?_) (fun i hi => ?_) (fun c c1 c2 j hj => ?_) ?_
          · rw [r129]; exact i2 i (by omega)
          · rw [r129, vW]; omega
          · rw [r129, vW, ro 48 (by decide) (by decide) (by decide)]; omega
          · rw [r129, vW, ro 49 (by decide) (by decide) (by decide)]; omega
          · exact (u130a i (by omega)).trans f21
          · exact (u130b i (by omega)).trans (o47 _ _ (fun z => absurd z.1 (by decide)) (fun z => absurd z.1 (by decide)))
          · exact (uk c c1 c2 j hj).trans (o47 _ _ (fun z => by have := z.1; omega) (fun z => by have := z.1; omega))
          · rw [n126, n127, n128]; exact ⟨fun z => by omega, fun _ => va, vb3⟩
        have t18 : XT l 1 60 false 208 153 6051 65 [xf 13 104, xi e, xi k, xi b, xi a] [] h2 70 [xf 13 104, xi e, xi k, xi b, xi a] [xi b, xi a, xi k, xf 13 104] h2 := XT_path (l := l) (fr := 1) (lo := 60) (full := false) (M := 208) (n := 153) (u := 6051) (pc := 65) (L := [xf 13 104, xi e, xi k, xi b, xi a]) (st := []) (h := h2) (inl := []) (n' := 80) (sp := [70]) (o := []) rfl rfl ⟨rfl, rfl, rfl⟩ rfl ⟨Nat.le_of_eq G2.1.2.2.2.1, Nat.le_of_eq G2.1.2.2.2.2⟩ trivial
        have t19 := t17.tr t18
        have t20 : XT l 1 60 false 208 153 6051 70 [xf 13 104, xi e, xi k, xi b, xi a] [xi b, xi a, xi k, xf 13 104] h2 73 [xf 13 104, xi e, xi k, xi b, xi a] [] h3 := XT_call (l := l) (fr := 1) (lo := 60) (full := false) (M := 208) (n := 153) (u := 6051) (pc := 70) (L := [xf 13 104, xi e, xi k, xi b, xi a]) (st := [xi b, xi a, xi k, xf 13 104]) (h := h2) (i := .invokevirtual 206) (aux := 4) (nx := 73) (K := 206) (vs := [xf 13 104, xi k, xi a, xi b]) (rs := []) (rest := []) rfl rfl rfl rfl rfl rfl (by rw [eG]; exact vh_grown l k a b h2 G2.1 (by rw [f21]; omega)) (by decide) (by decide) (Nat.le_of_ble_eq_true rfl) ⟨Nat.le_of_eq G3.1.2.2.2.1, Nat.le_of_eq G3.1.2.2.2.2⟩
        have t21 := t19.tr t20
        have t22 : XT l 1 60 false 208 153 6051 73 [xf 13 104, xi e, xi k, xi b, xi a] [] h3 0 [xf 13 104, xi e, xi k, xi b, xi a] [] h3 := XT_path (l := l) (fr := 1) (lo := 60) (full := false) (M := 208) (n := 153) (u := 6051) (pc := 73) (L := [xf 13 104, xi e, xi k, xi b, xi a]) (st := []) (h := h3) (inl := []) (n' := 80) (sp := [0]) (o := []) rfl rfl ⟨rfl, rfl, rfl⟩ rfl ⟨Nat.le_of_eq G3.1.2.2.2.1, Nat.le_of_eq G3.1.2.2.2.2⟩ trivial
        have t23 := t21.tr t22
        obtain ⟨L', h4, z1, z2, z3, z4, z5, z6⟩ := vh_bindL l f e he m (xi k) (xi b) (xi a) h3 G3.1 H3 (by omega)
        have P3 : vP f h h3 := ⟨G3, fun c c1 c2 j hj => (uk c c1 c2 j (by omega)).trans (o47 _ _ (fun z => by have := z.1; omega) (fun z => by have := z.1; omega))⟩
        exact ⟨L', h4, t23.tr z1, z2, P3.tr z3, z4, fun j j1 j2 j3 => (z5 j j1 j2 j3).trans (ro j j1 j2 j3), z6⟩
      · have t24 : XT l 1 60 false 208 153 6051 45 [xf 13 104, xi e, xi k, x3, x4] [] h1 55 [xf 13 104, xi e, xi k, x3, x4] [xf 13 104] h1 := XT_path (l := l) (fr := 1) (lo := 60) (full := false) (M := 208) (n := 153) (u := 6051) (pc := 45) (L := [xf 13 104, xi e, xi k, x3, x4]) (st := []) (h := h1) (inl := []) (n' := 80) (sp := [55]) (o := [1]) rfl rfl ⟨rfl, rfl, rfl⟩ rfl ⟨Nat.le_of_eq G1.1.2.2.2.1, Nat.le_of_eq G1.1.2.2.2.2⟩ ⟨trivial, c11⟩
        have t25 := t10.tr t24
        have t26 : XT l 1 60 false 208 153 6051 55 [xf 13 104, xi e, xi k, x3, x4] [xf 13 104] h1 58 [xf 13 104, xi e, xi k, x3, x4] [xi (xI h1 130 ((xI h1 104 47) - Int32.ofInt (1)).toNatClampNeg)] (xsetI h1 104 47 ((xI h1 104 47) - Int32.ofInt (1))) := XT_call (l := l) (fr := 1) (lo := 60) (full := false) (M := 208) (n := 153) (u := 6051) (pc := 55) (L := [xf 13 104, xi e, xi k, x3, x4]) (st := [xf 13 104]) (h := h1) (i := .invokevirtual 210) (aux := 1) (nx := 58) (K := 210) (vs := [xf 13 104]) (rs := [xi (xI h1 130 ((xI h1 104 47) - Int32.ofInt (1)).toNatClampNeg)]) (rest := []) rfl rfl rfl rfl rfl rfl (vh_drop l h1 G1.1 d1) (by decide) (by decide) (Nat.le_of_ble_eq_true rfl) ⟨Nat.le_of_eq G1.1.2.2.2.1, Nat.le_of_eq G1.1.2.2.2.2⟩
        have t27 := t25.tr t26
        have t28 : XT l 1 60 false 208 153 6051 58 [xf 13 104, xi e, xi k, x3, x4] [xi (xI h1 130 ((xI h1 104 47) - Int32.ofInt (1)).toNatClampNeg)] (xsetI h1 104 47 ((xI h1 104 47) - Int32.ofInt (1))) 60 [xf 13 104, xi e, xi k, xi (xI h1 130 ((xI h1 104 47) - Int32.ofInt (1)).toNatClampNeg), x4] [xf 13 104] (xsetI h1 104 47 ((xI h1 104 47) - Int32.ofInt (1))) := XT_path (l := l) (fr := 1) (lo := 60) (full := false) (M := 208) (n := 153) (u := 6051) (pc := 58) (L := [xf 13 104, xi e, xi k, x3, x4]) (st := [xi (xI h1 130 ((xI h1 104 47) - Int32.ofInt (1)).toNatClampNeg)]) (h := (xsetI h1 104 47 ((xI h1 104 47) - Int32.ofInt (1)))) (inl := []) (n' := 80) (sp := [60]) (o := []) rfl rfl ⟨rfl, rfl, rfl⟩ rfl ⟨Nat.le_of_eq G1.1.2.2.2.1, Nat.le_of_eq G1.1.2.2.2.2⟩ trivial
        have t29 := t27.tr t28
        have kk0 := vne c11
        have g3 := t3
        rw [gb3 (by omega)] at g3
        have G1a : vG ([(104, 4, false), (104, 5, false), (104, 7, false), (104, 8, false), (104, 9, false), (104, 10, false), (104, 21, false), (104, 46, false), (104, 47, false), (104, 48, false), (104, 49, false), (104, 50, false), (104, 51, false), (126, 0, true), (127, 0, true), (128, 0, true), (129, 0, true), (130, 0, true)], []) h (xsetI h1 104 47 ((xI h1 104 47) - Int32.ofInt (1))) := vs47 G1 (by omega) rfl
        have t30 : XT l 1 60 false 208 153 6051 60 [xf 13 104, xi e, xi k, xi (xI h1 130 ((xI h1 104 47) - Int32.ofInt (1)).toNatClampNeg), x4] [xf 13 104] (xsetI h1 104 47 ((xI h1 104 47) - Int32.ofInt (1))) 63 [xf 13 104, xi e, xi k, xi (xI h1 130 ((xI h1 104 47) - Int32.ofInt (1)).toNatClampNeg), x4] [xi (xI h1 130 (((xI h1 104 47) - Int32.ofInt (1)) - Int32.ofInt (1)).toNatClampNeg)] (xsetI (xsetI h1 104 47 ((xI h1 104 47) - Int32.ofInt (1))) 104 47 (((xI h1 104 47) - Int32.ofInt (1)) - Int32.ofInt (1))) := XT_call (l := l) (fr := 1) (lo := 60) (full := false) (M := 208) (n := 153) (u := 6051) (pc := 60) (L := [xf 13 104, xi e, xi k, xi (xI h1 130 ((xI h1 104 47) - Int32.ofInt (1)).toNatClampNeg), x4]) (st := [xf 13 104]) (h := (xsetI h1 104 47 ((xI h1 104 47) - Int32.ofInt (1)))) (i := .invokevirtual 210) (aux := 1) (nx := 63) (K := 210) (vs := [xf 13 104]) (rs := [xi (xI h1 130 (((xI h1 104 47) - Int32.ofInt (1)) - Int32.ofInt (1)).toNatClampNeg)]) (rest := []) rfl rfl rfl rfl rfl rfl (vh_drop l (xsetI h1 104 47 ((xI h1 104 47) - Int32.ofInt (1))) G1a.1 (by rw [yI_same, y1, a47]; omega)) (by decide) (by decide) (Nat.le_of_ble_eq_true rfl) ⟨Nat.le_of_eq G1.1.2.2.2.1, Nat.le_of_eq G1.1.2.2.2.2⟩
        have t31 := t29.tr t30
        have t32 : XT l 1 60 false 208 153 6051 63 [xf 13 104, xi e, xi k, xi (xI h1 130 ((xI h1 104 47) - Int32.ofInt (1)).toNatClampNeg), x4] [xi (xI h1 130 (((xI h1 104 47) - Int32.ofInt (1)) - Int32.ofInt (1)).toNatClampNeg)] (xsetI (xsetI h1 104 47 ((xI h1 104 47) - Int32.ofInt (1))) 104 47 (((xI h1 104 47) - Int32.ofInt (1)) - Int32.ofInt (1))) 65 [xf 13 104, xi e, xi k, xi (xI h1 130 ((xI h1 104 47) - Int32.ofInt (1)).toNatClampNeg), xi (xI h1 130 (((xI h1 104 47) - Int32.ofInt (1)) - Int32.ofInt (1)).toNatClampNeg)] [] (xsetI (xsetI h1 104 47 ((xI h1 104 47) - Int32.ofInt (1))) 104 47 (((xI h1 104 47) - Int32.ofInt (1)) - Int32.ofInt (1))) := XT_path (l := l) (fr := 1) (lo := 60) (full := false) (M := 208) (n := 153) (u := 6051) (pc := 63) (L := [xf 13 104, xi e, xi k, xi (xI h1 130 ((xI h1 104 47) - Int32.ofInt (1)).toNatClampNeg), x4]) (st := [xi (xI h1 130 (((xI h1 104 47) - Int32.ofInt (1)) - Int32.ofInt (1)).toNatClampNeg)]) (h := (xsetI (xsetI h1 104 47 ((xI h1 104 47) - Int32.ofInt (1))) 104 47 (((xI h1 104 47) - Int32.ofInt (1)) - Int32.ofInt (1)))) (inl := []) (n' := 80) (sp := [65]) (o := []) rfl rfl ⟨rfl, rfl, rfl⟩ rfl ⟨Nat.le_of_eq G1.1.2.2.2.1, Nat.le_of_eq G1.1.2.2.2.2⟩ trivial
        have t33 := t31.tr t32
        have kk := vne c11
        rw [gb3 (by omega)] at t3
        have y2 := y_pred (k := ((xI h1 104 47) - Int32.ofInt (1))) (by rw [y1, a47]; omega) (by rw [y1, a47]; omega)
        have nd2 : (((xI h1 104 47) - Int32.ofInt (1)) - Int32.ofInt (1)).toNatClampNeg = (xI h 104 47).toInt.toNat - 2 := by
          show (((xI h1 104 47) - Int32.ofInt (1)) - Int32.ofInt (1)).toInt.toNat = _
          rw [y2, y1, a47]; omega
        have hd := i6 ((xI h 104 47).toInt.toNat - 1) (by omega)
        have hd2 := i6 ((xI h 104 47).toInt.toNat - 2) (by omega)
        obtain ⟨b, eb⟩ : ∃ b, b = (xI h1 130 ((xI h1 104 47) - Int32.ofInt (1)).toNatClampNeg) := ⟨_, rfl⟩
        rw [← eb] at t33
        obtain ⟨a, ea⟩ : ∃ a, a = (xI h1 130 (((xI h1 104 47) - Int32.ofInt (1)) - Int32.ofInt (1)).toNatClampNeg) := ⟨_, rfl⟩
        rw [← ea] at t33
        rw [nd, o46 _ _ (by omega)] at eb
        rw [nd2, o46 _ _ (by omega)] at ea
        have va : f ≤ a.toInt ∧ a.toInt < (xI h 104 21).toInt := by rw [ea]; exact hd2
        have vb : f ≤ b.toInt ∧ b.toInt < (xI h 104 21).toInt := by rw [eb]; exact hd
        have vb3 : 3 ≤ k.toInt → f ≤ b.toInt ∧ b.toInt < (xI h 104 21).toInt := fun _ => vb
        rw [a47] at y1 y2
        rw [y1] at y2
        have G2' : vG ([(104, 4, false), (104, 5, false), (104, 7, false), (104, 8, false), (104, 9, false), (104, 10, false), (104, 21, false), (104, 46, false), (104, 47, false), (104, 48, false), (104, 49, false), (104, 50, false), (104, 51, false), (126, 0, true), (127, 0, true), (128, 0, true), (129, 0, true), (130, 0, true)], []) h (xsetI (xsetI h1 104 47 ((xI h1 104 47) - Int32.ofInt (1))) 104 47 (((xI h1 104 47) - Int32.ofInt (1)) - Int32.ofInt (1))) := vs47 (vs47 G1 (by rw [a47]; omega) rfl) (by rw [a47]; omega) rfl
        obtain ⟨h2, e2⟩ : ∃ x, x = (xsetI (xsetI h1 104 47 ((xI h1 104 47) - Int32.ofInt (1))) 104 47 (((xI h1 104 47) - Int32.ofInt (1)) - Int32.ofInt (1))) := ⟨_, rfl⟩
        rw [← e2] at t33 G2'
        have G2 : vG ([(104, 4, false), (104, 5, false), (104, 7, false), (104, 8, false), (104, 9, false), (104, 10, false), (104, 21, false), (104, 46, false), (104, 47, false), (104, 48, false), (104, 49, false), (104, 50, false), (104, 51, false), (126, 0, true), (127, 0, true), (128, 0, true), (129, 0, true), (130, 0, true)], []) h h2 := G2'
        have f47 : (xI h2 104 47).toInt = (xI h 104 47).toInt - 2 := by rw [e2, yI_same, a47, y2]; omega
        have o47 : ∀ c j, ¬ (c = 104 ∧ j = 46) → ¬ (c = 104 ∧ j = 47) → xI h2 c j = xI h c j := fun c j z1 z2 => by rw [e2, yI_ne (eq_false z2), yI_ne (eq_false z2)]; exact o46 c j z1
        have f46 : (xI h2 104 46).toInt = (xI h 104 46).toInt - 1 := by rw [e2, yI_ne (by decide), yI_ne (by decide), a46]; exact ew
        have f21 : xI h2 104 21 = xI h 104 21 := o47 _ _ (by decide) (by decide)
        obtain ⟨h3, eG, u47, u21, uo, u129, u130a, u130b, uk, n126, n127, n128⟩ := vh_grownF (k := k) (a := a) (b := b) G2.1 (by rw [f21]; omega)
        have G3 : vG ([(104, 4, false), (104, 5, false), (104, 7, false), (104, 8, false), (104, 9, false), (104, 10, false), (104, 21, false), (104, 46, false), (104, 47, false), (104, 48, false), (104, 49, false), (104, 50, false), (104, 51, false), (126, 0, true), (127, 0, true), (128, 0, true), (129, 0, true), (130, 0, true)], []) h h3 := vh_grownG G2 (by rw [f21]; omega) (by omega) bk (by omega) (fun _ => rfl) (fun _ => rfl) (fun _ => rfl) (fun _ => rfl) rfl rfl eG
        have b247 : 0 ≤ (xI h2 104 47).toInt ∧ (xI h2 104 47).toInt ≤ 64 := vbnd G2.1.1 104 47
        have v47 : (xI h3 104 47).toInt = (xI h2 104 47).toInt + 1 := by rw [u47]; exact y_suc1 b247.1 (by omega)
        have v21 : (xI h3 104 21).toInt = (xI h 104 21).toInt + 1 := by rw [u21, f21]; exact y_suc1 b21.1 (by omega)
        have v46 : (xI h3 104 46).toInt = (xI h 104 46).toInt - 1 := by rw [uo 46 (by decide) (by decide)]; exact f46
        have vW : (xI h3 104 46).toInt.toNat = (xI h 104 46).toInt.toNat - 1 := by omega
        have r129 : xI h3 129 = xI h 129 := funext fun i => (u129 i).trans (o47 _ _ (fun z => absurd z.1 (by decide)) (fun z => absurd z.1 (by decide)))
        have ro : ∀ j, j ≠ 21 → j ≠ 46 → j ≠ 47 → xI h3 104 j = xI h 104 j := fun j j1 j2 j3 => (uo j j1 j3).trans (o47 _ _ (fun z => j2 z.2) (fun z => j3 z.2))
        rw [f21] at uk n126 n127 n128
        have H3 : vpi h3 f 1 := by
          refine vpi_grow H b21.1 (fun i hi => ?_) ?_ ?_ ?_ v21 (by omega) (fun i hi => ?_) (fun i hi => ?_) (fun c c1 c2 j hj => ?_) ?_
          · rw [r129]; exact i2 i (by omega)
          · rw [r129, vW]; omega
          · rw [r129, vW, ro 48 (by decide) (by decide) (by decide)]; omega
          · rw [r129, vW, ro 49 (by decide) (by decide) (by decide)]; omega
          · exact (u130a i (by omega)).trans f21
          · exact (u130b i (by omega)).trans (o47 _ _ (fun z => absurd z.1 (by decide)) (fun z => absurd z.1 (by decide)))
          · exact (uk c c1 c2 j hj).trans (o47 _ _ (fun z => by have := z.1; omega) (fun z => by have := z.1; omega))
          · rw [n126, n127, n128]; exact ⟨fun z => by omega, fun _ => va, vb3⟩
        have t34 : XT l 1 60 false 208 153 6051 65 [xf 13 104, xi e, xi k, xi b, xi a] [] h2 70 [xf 13 104, xi e, xi k, xi b, xi a] [xi b, xi a, xi k, xf 13 104] h2 := XT_path (l := l) (fr := 1) (lo := 60) (full := false) (M := 208) (n := 153) (u := 6051) (pc := 65) (L := [xf 13 104, xi e, xi k, xi b, xi a]) (st := []) (h := h2) (inl := []) (n' := 80) (sp := [70]) (o := []) rfl rfl ⟨rfl, rfl, rfl⟩ rfl ⟨Nat.le_of_eq G2.1.2.2.2.1, Nat.le_of_eq G2.1.2.2.2.2⟩ trivial
        have t35 := t33.tr t34
        have t36 : XT l 1 60 false 208 153 6051 70 [xf 13 104, xi e, xi k, xi b, xi a] [xi b, xi a, xi k, xf 13 104] h2 73 [xf 13 104, xi e, xi k, xi b, xi a] [] h3 := XT_call (l := l) (fr := 1) (lo := 60) (full := false) (M := 208) (n := 153) (u := 6051) (pc := 70) (L := [xf 13 104, xi e, xi k, xi b, xi a]) (st := [xi b, xi a, xi k, xf 13 104]) (h := h2) (i := .invokevirtual 206) (aux := 4) (nx := 73) (K := 206) (vs := [xf 13 104, xi k, xi a, xi b]) (rs := []) (rest := []) rfl rfl rfl rfl rfl rfl (by rw [eG]; exact vh_grown l k a b h2 G2.1 (by rw [f21]; omega)) (by decide) (by decide) (Nat.le_of_ble_eq_true rfl) ⟨Nat.le_of_eq G3.1.2.2.2.1, Nat.le_of_eq G3.1.2.2.2.2⟩
        have t37 := t35.tr t36
        have t38 : XT l 1 60 false 208 153 6051 73 [xf 13 104, xi e, xi k, xi b, xi a] [] h3 0 [xf 13 104, xi e, xi k, xi b, xi a] [] h3 := XT_path (l := l) (fr := 1) (lo := 60) (full := false) (M := 208) (n := 153) (u := 6051) (pc := 73) (L := [xf 13 104, xi e, xi k, xi b, xi a]) (st := []) (h := h3) (inl := []) (n' := 80) (sp := [0]) (o := []) rfl rfl ⟨rfl, rfl, rfl⟩ rfl ⟨Nat.le_of_eq G3.1.2.2.2.1, Nat.le_of_eq G3.1.2.2.2.2⟩ trivial
        have t39 := t37.tr t38
        obtain ⟨L', h4, z1, z2, z3, z4, z5, z6⟩ := vh_bindL l f e he m (xi k) (xi b) (xi a) h3 G3.1 H3 (by omega)
        have P3 : vP f h h3 := ⟨G3, fun c c1 c2 j hj => (uk c c1 c2 j (by omega)).trans (o47 _ _ (fun z => by have := z.1; omega) (fun z => by have := z.1; omega))⟩
        exact ⟨L', h4, t39.tr z1, z2, P3.tr z3, z4, fun j j1 j2 j3 => (z5 j j1 j2 j3).trans (ro j j1 j2 j3), z6⟩
set_option maxRecDepth 100000 in
set_option maxHeartbeats 2000000 in
theorem vh_bind (l : Launch) (f : Int) (e : Int32) (he : 1 ≤ e.toInt) (h : XH) (hg : sgood vT vR vE 153 6051 h) (H : vpi h f 1) : ∃ h', CX l 1 60 false 208 [xf 13 104, xi e] h [] h' ∧ vP f h h' ∧ vpi h' f 1 ∧ (∀ k, k ≠ 21 → k ≠ 46 → k ≠ 47 → xI h' 104 k = xI h 104 k) ∧ (e.toInt = 1 → (xI h' 104 46).toInt = 0 ∨ (xI h' 129 ((xI h' 104 46).toInt.toNat - 1)).toInt = 0) := by
  have b46 : 0 ≤ (xI h 104 46).toInt ∧ (xI h 104 46).toInt ≤ 72 := vbnd hg.1 104 46
  obtain ⟨L', h', t, a1, a2, a3, a4, a5⟩ := vh_bindL l f e he (xI h 104 46).toInt.toNat xun xun xun h hg H (by omega)
  exact ⟨h', CX_ofT (by decide) rfl rfl trivial ⟨_, _, _, rfl, rfl, rfl⟩ a1 ⟨Nat.le_of_eq a2.1.1.2.2.2.1.symm, Nat.le_of_eq a2.1.1.2.2.2.2.symm⟩ t, a2, a3, a4, a5⟩
/-- an expression that is being read: whether a part is wanted stands in the heap -/
def vps (h : XH) (f : Int) : Prop := vpi h f (1 - (xI h 104 50).toInt)
def vmle (h : XH) (M : Int) : Prop := ((xI h 104 50).toInt = 1 → 20 * (64 - (xI h 104 49).toInt) + 17 - (xI h 104 48).toInt ≤ M) ∧ ((xI h 104 50).toInt = 0 → 20 * (64 - (xI h 104 49).toInt) + (xI h 104 48).toInt ≤ M)
def vgw (h h' : XH) : Prop := (xI h 104 7).toInt ≤ (xI h' 104 7).toInt ∧ (4 ≤ (xI h' 104 8).toInt → (xI h' 104 8).toInt ≤ 5 → (xI h 104 7).toInt + 1 ≤ (xI h' 104 7).toInt)
theorem vrel1 {h : XH} (hg : sgood vT vR vE 153 6051 h) (e : (xI h 104 8).toInt = 1) : 0 ≤ (xI h 104 9).toInt ∧ (xI h 104 9).toInt ≤ 19 :=
  hg.2.1 (.inl ([(104, 8, (1, 1))], (104, 9, (0, 19)))) (List.mem_of_getElem? (i := 150) rfl) (by decide +kernel) (fun q hq => by
    rw [List.mem_singleton.mp hq]
    show (1 : Int) ≤ (xI h 104 8).toInt ∧ (xI h 104 8).toInt ≤ 1
    omega)
theorem vrel5 {h : XH} (hg : sgood vT vR vE 153 6051 h) (e : (xI h 104 8).toInt = 5) : 0 ≤ (xI h 104 9).toInt ∧ (xI h 104 9).toInt ≤ 5 :=
  hg.2.1 (.inl ([(104, 8, (5, 5))], (104, 9, (0, 5)))) (List.mem_of_getElem? (i := 151) rfl) (by decide +kernel) (fun q hq => by
    rw [List.mem_singleton.mp hq]
    show (5 : Int) ≤ (xI h 104 8).toInt ∧ (xI h 104 8).toInt ≤ 5
    omega)
theorem vGw {W : SW} {h h' : XH} (a : vG W h h') {v : Int32} (hv : 0 ≤ v.toInt ∧ v.toInt ≤ 5) (w1 : swin W.1 104 4 = true) (w2 : swin W.1 104 5 = true) : vG W h (xsetI (xsetI h' 104 4 v) 104 5 (xI h' 104 10)) := by
  refine vs5 (vs4 a hv w1) ?_ w2
  have b : 0 ≤ (xI h' 104 10).toInt ∧ (xI h' 104 10).toInt ≤ 700 := vbnd a.1.1 104 10
  omega
theorem vPw {f : Int} {h : XH} (hg : sgood vT vR vE 153 6051 h) {v : Int32} (hv : 0 ≤ v.toInt ∧ v.toInt ≤ 5) : vP f h (xsetI (xsetI h 104 4 v) 104 5 (xI h 104 10)) :=
  ⟨vGw (vG.rf hg) hv rfl rfl, fun c c1 c2 k _ => (yI_c (eq_false (by omega))).trans (yI_c (eq_false (by omega)))⟩
theorem vPt {f : Int} {h h' : XH} (g : sgood vT vR vE 153 6051 h') (a : sframe ([(104, 7, false), (104, 8, false), (104, 9, false), (104, 10, false)], []) h h') : vP f h h' :=
  ⟨⟨g, a.mono rfl rfl⟩, fun c c1 c2 k _ => a.1 c k (by
    unfold swin
    refine List.any_eq_false.mpr fun q hq => ?_
    have : q.1 = 104 := by
      rcases List.mem_cons.mp hq with rfl | hq
      · rfl
      rcases List.mem_cons.mp hq with rfl | hq
      · rfl
      rcases List.mem_cons.mp hq with rfl | hq
      · rfl
      rw [List.mem_singleton.mp hq]
    rw [this, show Nat.beq 104 c = false from by
      cases hb : Nat.beq 104 c with
      | false => rfl
      | true => have := Nat.eq_of_beq_eq_true hb; omega]
    simp)⟩
theorem vps_t {f : Int} {h h' : XH} (H : vps h f) (a : sframe ([(104, 7, false), (104, 8, false), (104, 9, false), (104, 10, false)], []) h h') (b : vP f h h') : vps h' f := by
  unfold vps
  rw [a.1 104 50 rfl]
  refine vpi_fr H (a.1 _ _ rfl) (a.1 _ _ rfl) (a.1 _ _ rfl) (a.1 _ _ rfl) (a.1 _ _ rfl) (fun c c1 c2 k => a.1 c k ?_)
  rcases (by omega : c = 126 ∨ c = 127 ∨ c = 128 ∨ c = 129 ∨ c = 130) with rfl | rfl | rfl | rfl | rfl <;> rfl
theorem vmle_t {M : Int} {h h' : XH} (H : vmle h M) (a : sframe ([(104, 7, false), (104, 8, false), (104, 9, false), (104, 10, false)], []) h h') : vmle h' M := by
  unfold vmle
  rw [a.1 104 50 rfl, a.1 104 49 rfl, a.1 104 48 rfl]
  exact H
/-- what a step of reading leaves -/
def vSt (f M : Int) (h : XH) (v : Int32) (h' : XH) : Prop := vP f h h' ∧ (v = 0 ∨ v = 1) ∧ (¬ v = 0 → vps h' f ∧ vmle h' M ∧ vgw h h')
theorem vSt_0 {f M : Int} {h h' : XH} (a : vP f h h') : vSt f M h (Int32.ofInt (0)) h' := ⟨a, Or.inl rfl, fun z => absurd rfl z⟩
/-- at a step's end a token is read -/
theorem vSt_t {f M : Int} {h h1 h' : XH} (P1 : vP f h h1) (e7 : xI h1 104 7 = xI h 104 7) (H : vps h1 f) (m : vmle h1 M) (g : sgood vT vR vE 153 6051 h') (a : sframe ([(104, 7, false), (104, 8, false), (104, 9, false), (104, 10, false)], []) h1 h') (w1 : (xI h1 104 7).toInt ≤ (xI h' 104 7).toInt) (w2 : 4 ≤ (xI h' 104 8).toInt → (xI h' 104 8).toInt ≤ 5 → (xI h1 104 7).toInt + 1 ≤ (xI h' 104 7).toInt) : vSt f M h (Int32.ofInt (1)) h' := by
  rw [e7] at w1 w2
  exact ⟨P1.tr (vPt g a), Or.inr rfl, fun _ => ⟨vps_t H a (vPt g a), vmle_t m a, w1, w2⟩⟩
set_option maxRecDepth 100000 in
set_option maxHeartbeats 2000000 in
theorem vh_leaf (l : Launch) (f : Int) (h : XH) (hg : sgood vT vR vE 153 6051 h) (H : vps h f) (hw : (xI h 104 50).toInt = 1) : ∃ v h', CX l 3 90 false 202 [xf 13 104] h [xi v] h' ∧ vSt f (20 * (64 - (xI h 104 49).toInt) + 17 - (xI h 104 48).toInt - 1) h v h' := by
  have b46 : 0 ≤ (xI h 104 46).toInt ∧ (xI h 104 46).toInt ≤ 72 := vbnd hg.1 104 46
  have b47 : 0 ≤ (xI h 104 47).toInt ∧ (xI h 104 47).toInt ≤ 64 := vbnd hg.1 104 47
  have b21 : 0 ≤ (xI h 104 21).toInt ∧ (xI h 104 21).toInt ≤ 64 := vbnd hg.1 104 21
  have b48 : 0 ≤ (xI h 104 48).toInt ∧ (xI h 104 48).toInt ≤ 8 := vbnd hg.1 104 48
  have b49 : 0 ≤ (xI h 104 49).toInt ∧ (xI h 104 49).toInt ≤ 64 := vbnd hg.1 104 49
  have b50 : 0 ≤ (xI h 104 50).toInt ∧ (xI h 104 50).toInt ≤ 1 := vbnd hg.1 104 50
  have H0 : vpi h f 0 := by
    unfold vps at H
    rw [hw] at H
    exact H
  obtain ⟨i0, i1, i2, i3, i4, i5, i6, i7⟩ := id H0
  have tz := vcnt_zn (f := xI h 129) (xI h 104 46).toInt.toNat
  have tb := vcnt_bn (f := xI h 129) (xI h 104 46).toInt.toNat
  have e13 : (Int32.ofInt (13)).toInt = 13 := rfl
  have e0 : (0 : Int32).toInt = 0 := rfl
  have nD : (xI h 104 46).toNatClampNeg = (xI h 104 46).toInt.toNat := rfl
  by_cases c1 : (xI h 104 8) = (Int32.ofInt (4))
  · by_cases c2 : (xI h 104 9) = (Int32.ofInt (40))
    · by_cases c3 : (xI h 104 48) = (Int32.ofInt (8))
      · have t4 : XT l 3 90 false 202 153 6051 0 [xf 13 104, xun] [] h 23 [xf 13 104, xun] [xi (Int32.ofInt (0))] (xsetI (xsetI h 104 4 (Int32.ofInt (2))) 104 5 (xI h 104 10)) := XT_path (l := l) (fr := 3) (lo := 90) (full := false) (M := 202) (n := 153) (u := 6051) (pc := 0) (L := [xf 13 104, xun]) (st := []) (h := h) (inl := [201, 198, 205, 204, 187]) (n' := 200) (sp := [23]) (o := [0, 0, 0, 0]) rfl rfl ⟨rfl, rfl, rfl⟩ rfl ⟨Nat.le_of_eq hg.2.2.2.1, Nat.le_of_eq hg.2.2.2.2⟩ ⟨⟨⟨⟨⟨⟨trivial, c1⟩, c2⟩, (Or.inr rfl)⟩, (by decide)⟩, c3⟩, (Or.inl rfl)⟩
        exact ⟨_, _, CX_ofT (h' := (xsetI (xsetI h 104 4 (Int32.ofInt (2))) 104 5 (xI h 104 10))) (by decide) rfl rfl ⟨trivial, Or.inl rfl⟩ ⟨_, _, _, rfl, rfl, rfl⟩ rfl ⟨Nat.le_of_eq hg.2.2.2.1.symm, Nat.le_of_eq hg.2.2.2.2.symm⟩ t4, vSt_0 (vPw hg (by decide))⟩
      · have d15 := vne c3
        have t5 : XT l 3 90 false 202 153 6051 0 [xf 13 104, xun] [] h 36 [xf 13 104, xun] [xi (Int32.ofInt (0)), xf 13 104] (xsetI h 104 48 ((xI h 104 48) + (Int32.ofInt (1)))) := XT_path (l := l) (fr := 3) (lo := 90) (full := false) (M := 202) (n := 153) (u := 6051) (pc := 0) (L := [xf 13 104, xun]) (st := []) (h := h) (inl := [201, 198, 205, 204, 187]) (n' := 200) (sp := [36]) (o := [0, 0, 0, 1]) rfl rfl ⟨rfl, rfl, rfl⟩ rfl ⟨Nat.le_of_eq hg.2.2.2.1, Nat.le_of_eq hg.2.2.2.2⟩ ⟨⟨⟨⟨⟨trivial, c1⟩, c2⟩, (Or.inr rfl)⟩, (by decide)⟩, c3⟩
        have y48 := y_suc1 b48.1 (by omega)
        have G1 : vG ([(104, 4, false), (104, 5, false), (104, 7, false), (104, 8, false), (104, 9, false), (104, 10, false), (104, 21, false), (104, 46, false), (104, 47, false), (104, 48, false), (104, 49, false), (104, 50, false), (104, 51, false), (126, 0, true), (127, 0, true), (128, 0, true), (129, 0, true), (130, 0, true)], []) h (xsetI h 104 48 ((xI h 104 48) + (Int32.ofInt (1)))) := (vs48 (vG.rf hg) (by omega) rfl)
        have t6 : XT l 3 90 false 202 153 6051 36 [xf 13 104, xun] [xi (Int32.ofInt (0)), xf 13 104] (xsetI h 104 48 ((xI h 104 48) + (Int32.ofInt (1)))) 39 [xf 13 104, xun] [] (xsetI (xsetI (xsetI h 104 48 ((xI h 104 48) + (Int32.ofInt (1)))) 129 (xI h 104 46).toNatClampNeg (Int32.ofInt (0))) 104 46 ((xI h 104 46) + Int32.ofInt (1))) := XT_call (l := l) (fr := 3) (lo := 90) (full := false) (M := 202) (n := 153) (u := 6051) (pc := 36) (L := [xf 13 104, xun]) (st := [xi (Int32.ofInt (0)), xf 13 104]) (h := (xsetI h 104 48 ((xI h 104 48) + (Int32.ofInt (1))))) (i := .invokevirtual 203) (aux := 2) (nx := 39) (K := 203) (vs := [xf 13 104, xi (Int32.ofInt (0))]) (rs := []) (rest := []) rfl rfl rfl rfl rfl rfl (vh_waitsFor l (Int32.ofInt (0)) (xsetI h 104 48 ((xI h 104 48) + (Int32.ofInt (1)))) G1.1) (by decide) (by decide) (Nat.le_of_ble_eq_true rfl) ⟨Nat.le_of_eq hg.2.2.2.1, Nat.le_of_eq hg.2.2.2.2⟩
        have t7 := t5.tr t6
        have t8 : XT l 3 90 false 202 153 6051 39 [xf 13 104, xun] [] (xsetI (xsetI (xsetI h 104 48 ((xI h 104 48) + (Int32.ofInt (1)))) 129 (xI h 104 46).toNatClampNeg (Int32.ofInt (0))) 104 46 ((xI h 104 46) + Int32.ofInt (1))) 45 [xf 13 104, xun] [xf 13 104] (xsetI (xsetI (xsetI (xsetI h 104 48 ((xI h 104 48) + (Int32.ofInt (1)))) 129 (xI h 104 46).toNatClampNeg (Int32.ofInt (0))) 104 46 ((xI h 104 46) + Int32.ofInt (1))) 104 51 (Int32.ofInt (1))) := XT_path (l := l) (fr := 3) (lo := 90) (full := false) (M := 202) (n := 153) (u := 6051) (pc := 39) (L := [xf 13 104, xun]) (st := []) (h := (xsetI (xsetI (xsetI h 104 48 ((xI h 104 48) + (Int32.ofInt (1)))) 129 (xI h 104 46).toNatClampNeg (Int32.ofInt (0))) 104 46 ((xI h 104 46) + Int32.ofInt (1)))) (inl := [201, 198, 205, 204, 187]) (n' := 200) (sp := [45]) (o := []) rfl rfl ⟨rfl, rfl, rfl⟩ rfl ⟨Nat.le_of_eq hg.2.2.2.1, Nat.le_of_eq hg.2.2.2.2⟩ ⟨trivial, (Or.inr rfl)⟩
        have t9 := t7.tr t8
        have y46 := y_suc1 b46.1 (by omega)
        have G2 : vG ([(104, 4, false), (104, 5, false), (104, 7, false), (104, 8, false), (104, 9, false), (104, 10, false), (104, 21, false), (104, 46, false), (104, 47, false), (104, 48, false), (104, 49, false), (104, 50, false), (104, 51, false), (126, 0, true), (127, 0, true), (128, 0, true), (129, 0, true), (130, 0, true)], []) h (xsetI (xsetI (xsetI h 104 48 ((xI h 104 48) + (Int32.ofInt (1)))) 129 (xI h 104 46).toNatClampNeg (Int32.ofInt (0))) 104 46 ((xI h 104 46) + Int32.ofInt (1))) := vs46 (vs129 G1 (by decide) (fun _ => rfl)) (by omega) rfl
        have G4 : vG ([(104, 4, false), (104, 5, false), (104, 7, false), (104, 8, false), (104, 9, false), (104, 10, false), (104, 21, false), (104, 46, false), (104, 47, false), (104, 48, false), (104, 49, false), (104, 50, false), (104, 51, false), (126, 0, true), (127, 0, true), (128, 0, true), (129, 0, true), (130, 0, true)], []) h (xsetI (xsetI (xsetI (xsetI h 104 48 ((xI h 104 48) + (Int32.ofInt (1)))) 129 (xI h 104 46).toNatClampNeg (Int32.ofInt (0))) 104 46 ((xI h 104 46) + Int32.ofInt (1))) 104 51 (Int32.ofInt (1))) := vs51 G2 (by decide) rfl
        obtain ⟨h4, e4⟩ : ∃ x, x = (xsetI (xsetI (xsetI (xsetI h 104 48 ((xI h 104 48) + (Int32.ofInt (1)))) 129 (xI h 104 46).toNatClampNeg (Int32.ofInt (0))) 104 46 ((xI h 104 46) + Int32.ofInt (1))) 104 51 (Int32.ofInt (1))) := ⟨_, rfl⟩
        rw [← e4] at t9 G4
        have w7 : xI h4 104 7 = (xI h 104 7) := by rw [e4]; exact (yI_ne (by decide)).trans ((yI_ne (by decide)).trans ((yI_c (by decide)).trans (yI_ne (by decide))))
        have w21 : xI h4 104 21 = (xI h 104 21) := by rw [e4]; exact (yI_ne (by decide)).trans ((yI_ne (by decide)).trans ((yI_c (by decide)).trans (yI_ne (by decide))))
        have w46 : xI h4 104 46 = ((xI h 104 46) + Int32.ofInt (1)) := by rw [e4]; exact (yI_ne (by decide)).trans (yI_same)
        have w47 : xI h4 104 47 = (xI h 104 47) := by rw [e4]; exact (yI_ne (by decide)).trans ((yI_ne (by decide)).trans ((yI_c (by decide)).trans (yI_ne (by decide))))
        have w48 : xI h4 104 48 = ((xI h 104 48) + (Int32.ofInt (1))) := by rw [e4]; exact (yI_ne (by decide)).trans ((yI_ne (by decide)).trans ((yI_c (by decide)).trans (yI_same)))
        have w49 : xI h4 104 49 = (xI h 104 49) := by rw [e4]; exact (yI_ne (by decide)).trans ((yI_ne (by decide)).trans ((yI_c (by decide)).trans (yI_ne (by decide))))
        have w50 : xI h4 104 50 = (xI h 104 50) := by rw [e4]; exact (yI_ne (by decide)).trans ((yI_ne (by decide)).trans ((yI_c (by decide)).trans (yI_ne (by decide))))
        have q129 : xI h4 129 (xI h 104 46).toNatClampNeg = (Int32.ofInt (0)) := by rw [e4]; exact (yI_c (by decide)).trans ((yI_c (by decide)).trans (yI_same))
        have o129 : ∀ i, i ≠ (xI h 104 46).toNatClampNeg → xI h4 129 i = xI h 129 i := fun i hi => by rw [e4]; exact (yI_c (by decide)).trans ((yI_c (by decide)).trans ((yI_ne (eq_false (fun z => hi z.2))).trans (yI_c (by decide))))
        have orow : ∀ c, c ≠ 104 → c ≠ 129 → ∀ i, xI h4 c i = xI h c i := fun c c1 c2 i => by rw [e4]; exact (yI_c (eq_false c1)).trans ((yI_c (eq_false c1)).trans ((yI_c (eq_false c2)).trans (yI_c (eq_false c1))))
        have P4 : vP f h h4 := ⟨G4, fun c c1 c2 j hj => orow c (by omega) (by omega) j⟩
        have H4 : vps h4 f := by
          unfold vps
          rw [w50, hw]
          refine vpi_push (s := 0) (nb := 0) (nz := 1) (nn := 0) H0 b46.1 (by rw [w46]; exact y46) q129 (fun i hi => o129 i (by omega)) (by decide) rfl rfl rfl w47 (by decide) (by rw [w48]; exact y48) w21 (by rw [w49]; omega) (fun i => orow _ (by decide) (by decide) i) (fun c c1 c2 k => orow _ (by omega) (by omega) k)
        have M4 : vmle h4 (20 * (64 - (xI h 104 49).toInt) + 17 - (xI h 104 48).toInt - 1) := by
          unfold vmle
          rw [w50, w49, w48, hw]
          exact ⟨fun _ => by omega, fun z => absurd z (by decide)⟩
        have S4 : xI h4 104 7 = xI h 104 7 := w7
        obtain ⟨h5, c5, g5, f5, w1, w2⟩ := vh_token l h4 P4.1.1
        have t10 : XT l 3 90 false 202 153 6051 45 [xf 13 104, xun] [xf 13 104] h4 48 [xf 13 104, xun] [] h5 := XT_call (l := l) (fr := 3) (lo := 90) (full := false) (M := 202) (n := 153) (u := 6051) (pc := 45) (L := [xf 13 104, xun]) (st := [xf 13 104]) (h := h4) (i := .invokevirtual 180) (aux := 1) (nx := 48) (K := 180) (vs := [xf 13 104]) (rs := []) (rest := []) rfl rfl rfl rfl rfl rfl c5 (by decide) (by decide) (Nat.le_of_ble_eq_true rfl) ⟨Nat.le_of_eq g5.2.2.2.1, Nat.le_of_eq g5.2.2.2.2⟩
        have t11 := t9.tr t10
        have t12 : XT l 3 90 false 202 153 6051 48 [xf 13 104, xun] [] h5 49 [xf 13 104, xun] [xi (Int32.ofInt (1))] h5 := XT_path (l := l) (fr := 3) (lo := 90) (full := false) (M := 202) (n := 153) (u := 6051) (pc := 48) (L := [xf 13 104, xun]) (st := []) (h := h5) (inl := [201, 198, 205, 204, 187]) (n' := 200) (sp := [49]) (o := []) rfl rfl ⟨rfl, rfl, rfl⟩ rfl ⟨Nat.le_of_eq g5.2.2.2.1, Nat.le_of_eq g5.2.2.2.2⟩ trivial
        have t13 := t11.tr t12
        exact ⟨_, _, CX_ofT (h' := h5) (by decide) rfl rfl ⟨trivial, Or.inr rfl⟩ ⟨_, _, _, rfl, rfl, rfl⟩ rfl ⟨Nat.le_of_eq g5.2.2.2.1.symm, Nat.le_of_eq g5.2.2.2.2.symm⟩ t13, vSt_t P4 S4 H4 M4 g5 f5 w1 w2⟩
    · have t14 : XT l 3 90 false 202 153 6051 0 [xf 13 104, xun] [] h 108 [xf 13 104, xi (Int32.ofInt (-1))] [xi (Int32.ofInt (0))] (xsetI (xsetI h 104 4 (Int32.ofInt (1))) 104 5 (xI h 104 10)) := XT_path (l := l) (fr := 3) (lo := 90) (full := false) (M := 202) (n := 153) (u := 6051) (pc := 0) (L := [xf 13 104, xun]) (st := []) (h := h) (inl := [201, 198, 205, 204, 187]) (n' := 200) (sp := [108]) (o := [0, 1, 1, 1, 1, 1, 0, 0]) rfl rfl ⟨rfl, rfl, rfl⟩ rfl ⟨Nat.le_of_eq hg.2.2.2.1, Nat.le_of_eq hg.2.2.2.2⟩ ⟨⟨⟨⟨⟨⟨⟨⟨⟨⟨⟨trivial, c1⟩, c2⟩, (Or.inl rfl)⟩, rfl⟩, (fun z => absurd (c1.symm.trans z) (by decide))⟩, (Or.inl rfl)⟩, rfl⟩, (fun z => absurd (c1.symm.trans z) (by decide))⟩, (by decide)⟩, (fun z => absurd (c1.symm.trans z) (by decide))⟩, (Or.inl rfl)⟩
      exact ⟨_, _, CX_ofT (h' := (xsetI (xsetI h 104 4 (Int32.ofInt (1))) 104 5 (xI h 104 10))) (by decide) rfl rfl ⟨trivial, Or.inl rfl⟩ ⟨_, _, _, rfl, rfl, rfl⟩ rfl ⟨Nat.le_of_eq hg.2.2.2.1.symm, Nat.le_of_eq hg.2.2.2.2.symm⟩ t14, vSt_0 (vPw hg (by decide))⟩
  · by_cases c15 : (xI h 104 8) = (Int32.ofInt (1))
    · by_cases c16 : (xI h 104 9) = (Int32.ofInt (12))
      · by_cases c17 : (xI h 104 51) = 0
        · by_cases c18 : (xI h 104 9) < (Int32.ofInt (13))
          · have t19 : XT l 3 90 false 202 153 6051 0 [xf 13 104, xun] [] h 108 [xf 13 104, xi (Int32.ofInt (-1))] [xi (Int32.ofInt (0))] (xsetI (xsetI h 104 4 (Int32.ofInt (1))) 104 5 (xI h 104 10)) := XT_path (l := l) (fr := 3) (lo := 90) (full := false) (M := 202) (n := 153) (u := 6051) (pc := 0) (L := [xf 13 104, xun]) (st := []) (h := h) (inl := [201, 198, 205, 204, 187]) (n' := 200) (sp := [108]) (o := [1, 1, 0, 0, 0, 1, 0, 1, 0, 0]) rfl rfl ⟨rfl, rfl, rfl⟩ rfl ⟨Nat.le_of_eq hg.2.2.2.1, Nat.le_of_eq hg.2.2.2.2⟩ ⟨⟨⟨⟨⟨⟨⟨⟨⟨⟨⟨⟨⟨trivial, c1⟩, (Or.inl rfl)⟩, rfl⟩, c15⟩, c16⟩, (Or.inr rfl)⟩, (by decide)⟩, c17⟩, c15⟩, c18⟩, (by decide)⟩, (fun z => absurd (c15.symm.trans z) (by decide))⟩, (Or.inl rfl)⟩
            exact ⟨_, _, CX_ofT (h' := (xsetI (xsetI h 104 4 (Int32.ofInt (1))) 104 5 (xI h 104 10))) (by decide) rfl rfl ⟨trivial, Or.inl rfl⟩ ⟨_, _, _, rfl, rfl, rfl⟩ rfl ⟨Nat.le_of_eq hg.2.2.2.1.symm, Nat.le_of_eq hg.2.2.2.2.symm⟩ t19, vSt_0 (vPw hg (by decide))⟩
          · have d13 : ¬ (xI h 104 9).toInt < 13 := fun z => c18 (Int32.lt_iff_toInt_lt.mpr z)
            have dk := vrel1 hg (veq ⟨by decide, by decide⟩ c15)
            have dn : ((xI h 104 9) - (Int32.ofInt (13))).toInt = (xI h 104 9).toInt - 13 := by
              rw [Int32.toInt_sub, e13]
              exact Int.bmod_eq_of_le (by omega) (by omega)
            by_cases c20 : (xI h 104 49) = (Int32.ofInt (64))
            · have t21 : XT l 3 90 false 202 153 6051 0 [xf 13 104, xun] [] h 137 [xf 13 104, xi ((xI h 104 9) - (Int32.ofInt (13)))] [xi (Int32.ofInt (0))] (xsetI (xsetI h 104 4 (Int32.ofInt (2))) 104 5 (xI h 104 10)) := XT_path (l := l) (fr := 3) (lo := 90) (full := false) (M := 202) (n := 153) (u := 6051) (pc := 0) (L := [xf 13 104, xun]) (st := []) (h := h) (inl := [201, 198, 205, 204, 187]) (n' := 200) (sp := [137]) (o := [1, 1, 0, 0, 0, 1, 0, 0, 1, 1, 0, 0]) rfl rfl ⟨rfl, rfl, rfl⟩ rfl ⟨Nat.le_of_eq hg.2.2.2.1, Nat.le_of_eq hg.2.2.2.2⟩ ⟨⟨⟨⟨⟨⟨⟨⟨⟨⟨⟨⟨⟨⟨⟨⟨trivial, c1⟩, (Or.inl rfl)⟩, rfl⟩, c15⟩, c16⟩, (Or.inr rfl)⟩, (by decide)⟩, c17⟩, c15⟩, c18⟩, (Int32.le_iff_toInt_le.mpr (by omega))⟩, (Int32.le_iff_toInt_le.mpr (by omega))⟩, c20⟩, (Or.inl rfl)⟩, (Or.inl rfl)⟩, rfl⟩
              exact ⟨_, _, CX_ofT (h' := (xsetI (xsetI h 104 4 (Int32.ofInt (2))) 104 5 (xI h 104 10))) (by decide) rfl rfl ⟨trivial, Or.inl rfl⟩ ⟨_, _, _, rfl, rfl, rfl⟩ rfl ⟨Nat.le_of_eq hg.2.2.2.1.symm, Nat.le_of_eq hg.2.2.2.2.symm⟩ t21, vSt_0 (vPw hg (by decide))⟩
            · have d64 := vne c20
              have y49 := y_suc1 b49.1 (by omega)
              have t22 : XT l 3 90 false 202 153 6051 0 [xf 13 104, xun] [] h 161 [xf 13 104, xi ((xI h 104 9) - (Int32.ofInt (13)))] [xi (Int32.ofInt (0)), xi ((xI h 104 9) - (Int32.ofInt (13))), xi (Int32.ofInt (1)), xf 13 104] (xsetI h 104 49 ((xI h 104 49) + (Int32.ofInt (1)))) := XT_path (l := l) (fr := 3) (lo := 90) (full := false) (M := 202) (n := 153) (u := 6051) (pc := 0) (L := [xf 13 104, xun]) (st := []) (h := h) (inl := [201, 198, 205, 204, 187]) (n' := 200) (sp := [161]) (o := [1, 1, 0, 0, 0, 1, 0, 0, 1, 1, 1, 1, 0, 0]) rfl rfl ⟨rfl, rfl, rfl⟩ rfl ⟨Nat.le_of_eq hg.2.2.2.1, Nat.le_of_eq hg.2.2.2.2⟩ ⟨⟨⟨⟨⟨⟨⟨⟨⟨⟨⟨⟨⟨⟨⟨⟨⟨trivial, c1⟩, (Or.inl rfl)⟩, rfl⟩, c15⟩, c16⟩, (Or.inr rfl)⟩, (by decide)⟩, c17⟩, c15⟩, c18⟩, (Int32.le_iff_toInt_le.mpr (by omega))⟩, (Int32.le_iff_toInt_le.mpr (by omega))⟩, c20⟩, (Or.inr rfl)⟩, (by decide)⟩, (fun z => absurd (Int32.lt_iff_toInt_lt.mp z) (by omega))⟩, (fun z => absurd (Int32.lt_iff_toInt_lt.mp z) (by omega))⟩
              have G1' : vG ([(104, 4, false), (104, 5, false), (104, 7, false), (104, 8, false), (104, 9, false), (104, 10, false), (104, 21, false), (104, 46, false), (104, 47, false), (104, 48, false), (104, 49, false), (104, 50, false), (104, 51, false), (126, 0, true), (127, 0, true), (128, 0, true), (129, 0, true), (130, 0, true)], []) h (xsetI h 104 49 ((xI h 104 49) + (Int32.ofInt (1)))) := vs49 (vG.rf hg) (by omega) rfl
              obtain ⟨h1, e1⟩ : ∃ x, x = (xsetI h 104 49 ((xI h 104 49) + (Int32.ofInt (1)))) := ⟨_, rfl⟩
              rw [← e1] at t22 G1'
              have G1 : vG ([(104, 4, false), (104, 5, false), (104, 7, false), (104, 8, false), (104, 9, false), (104, 10, false), (104, 21, false), (104, 46, false), (104, 47, false), (104, 48, false), (104, 49, false), (104, 50, false), (104, 51, false), (126, 0, true), (127, 0, true), (128, 0, true), (129, 0, true), (130, 0, true)], []) h h1 := G1'
              have o49 : ∀ c j, ¬ (c = 104 ∧ j = 49) → xI h1 c j = xI h c j := fun c j z => by rw [e1]; exact yI_ne (eq_false z)
              have a49 : (xI h1 104 49).toInt = (xI h 104 49).toInt + 1 := by rw [e1, yI_same]; exact y49
              have f21 : xI h1 104 21 = xI h 104 21 := o49 _ _ (by decide)
              have f47 : xI h1 104 47 = xI h 104 47 := o49 _ _ (by decide)
              obtain ⟨h3, eG, u47, u21, uo, u129, u130a, u130b, uk, n126, n127, n128⟩ := vh_grownF (k := (Int32.ofInt (1))) (a := ((xI h 104 9) - (Int32.ofInt (13)))) (b := (Int32.ofInt (0))) G1.1 (by rw [f21]; omega)
              have G3 : vG ([(104, 4, false), (104, 5, false), (104, 7, false), (104, 8, false), (104, 9, false), (104, 10, false), (104, 21, false), (104, 46, false), (104, 47, false), (104, 48, false), (104, 49, false), (104, 50, false), (104, 51, false), (126, 0, true), (127, 0, true), (128, 0, true), (129, 0, true), (130, 0, true)], []) h h3 := vh_grownG G1 (by rw [f21]; omega) (by rw [f47]; omega) (by decide) (by decide) (fun _ => rfl) (fun _ => rfl) (fun _ => rfl) (fun _ => rfl) rfl rfl eG
              have v47 : (xI h3 104 47).toInt = (xI h 104 47).toInt + 1 := by rw [u47, f47]; exact y_suc1 b47.1 (by omega)
              have v21 : (xI h3 104 21).toInt = (xI h 104 21).toInt + 1 := by rw [u21, f21]; exact y_suc1 b21.1 (by omega)
              have r129 : xI h3 129 = xI h 129 := funext fun i => (u129 i).trans (o49 _ _ (fun z => absurd z.1 (by decide)))
              have ro : ∀ j, j ≠ 21 → j ≠ 47 → j ≠ 49 → xI h3 104 j = xI h 104 j := fun j j1 j2 j3 => (uo j j1 j2).trans (o49 _ _ (fun z => j3 z.2))
              have v49 : (xI h3 104 49).toInt = (xI h 104 49).toInt + 1 := by rw [uo 49 (by decide) (by decide)]; exact a49
              have r46 : xI h3 104 46 = xI h 104 46 := ro _ (by decide) (by decide) (by decide)
              rw [f21] at uk n126 n127 n128
              have H3 : vpi h3 f 1 := by
                refine vpi_grow H0 b21.1 (fun i hi => ?_) ?_ ?_ ?_ v21 (by omega) (fun i hi => ?_) (fun i hi => ?_) (fun c c1 c2 j hj => ?_) ?_
                · rw [r129]; rw [r46] at hi; exact i2 i hi
                · rw [r129, r46]; omega
                · rw [r129, r46, ro 48 (by decide) (by decide) (by decide)]; exact i4
                · rw [r129, r46]; omega
                · exact (u130a i (by rw [f47]; omega)).trans f21
                · exact (u130b i (by rw [f47]; omega)).trans (o49 _ _ (fun z => absurd z.1 (by decide)))
                · exact (uk c c1 c2 j hj).trans (o49 _ _ (fun z => by have := z.1; omega))
                · rw [n126, n127, show (Int32.ofInt (1)).toInt = 1 from rfl]; exact ⟨fun z => by omega, fun z => absurd z (by decide), fun z => absurd z (by decide)⟩
              have P3 : vP f h h3 := ⟨G3, fun c c1 c2 j hj => (uk c c1 c2 j (by omega)).trans (o49 _ _ (fun z => by have := z.1; omega))⟩
              have t23 : XT l 3 90 false 202 153 6051 161 [xf 13 104, xi ((xI h 104 9) - (Int32.ofInt (13)))] [xi (Int32.ofInt (0)), xi ((xI h 104 9) - (Int32.ofInt (13))), xi (Int32.ofInt (1)), xf 13 104] h1 164 [xf 13 104, xi ((xI h 104 9) - (Int32.ofInt (13)))] [] h3 := XT_call (l := l) (fr := 3) (lo := 90) (full := false) (M := 202) (n := 153) (u := 6051) (pc := 161) (L := [xf 13 104, xi ((xI h 104 9) - (Int32.ofInt (13)))]) (st := [xi (Int32.ofInt (0)), xi ((xI h 104 9) - (Int32.ofInt (13))), xi (Int32.ofInt (1)), xf 13 104]) (h := h1) (i := .invokevirtual 206) (aux := 4) (nx := 164) (K := 206) (vs := [xf 13 104, xi (Int32.ofInt (1)), xi ((xI h 104 9) - (Int32.ofInt (13))), xi (Int32.ofInt (0))]) (rs := []) (rest := []) rfl rfl rfl rfl rfl rfl (by rw [eG]; exact vh_grown l (Int32.ofInt (1)) ((xI h 104 9) - (Int32.ofInt (13))) (Int32.ofInt (0)) h1 G1.1 (by rw [f21]; omega)) (by decide) (by decide) (Nat.le_of_ble_eq_true rfl) ⟨Nat.le_of_eq G3.1.2.2.2.1, Nat.le_of_eq G3.1.2.2.2.2⟩
              have t24 := t22.tr t23
              have t25 : XT l 3 90 false 202 153 6051 164 [xf 13 104, xi ((xI h 104 9) - (Int32.ofInt (13)))] [] h3 170 [xf 13 104, xi ((xI h 104 9) - (Int32.ofInt (13)))] [xf 13 104] (xsetI h3 104 50 (Int32.ofInt (0))) := XT_path (l := l) (fr := 3) (lo := 90) (full := false) (M := 202) (n := 153) (u := 6051) (pc := 164) (L := [xf 13 104, xi ((xI h 104 9) - (Int32.ofInt (13)))]) (st := []) (h := h3) (inl := [201, 198, 205, 204, 187]) (n' := 200) (sp := [170]) (o := []) rfl rfl ⟨rfl, rfl, rfl⟩ rfl ⟨Nat.le_of_eq G3.1.2.2.2.1, Nat.le_of_eq G3.1.2.2.2.2⟩ ⟨trivial, (Or.inl rfl)⟩
              have t26 := t24.tr t25
              obtain ⟨h4, e4⟩ : ∃ x, x = (xsetI h3 104 50 (Int32.ofInt (0))) := ⟨_, rfl⟩
              rw [← e4] at t26
              have P4 : vP f h h4 := by rw [e4]; exact ⟨vs50 G3 (by decide) rfl, fun c c1 c2 j hj => (yI_c (eq_false (by omega))).trans (P3.2 c c1 c2 j hj)⟩
              have w50 : xI h4 104 50 = Int32.ofInt (0) := by rw [e4]; exact yI_same
              have o50 : ∀ c j, ¬ (c = 104 ∧ j = 50) → xI h4 c j = xI h3 c j := fun c j z => by rw [e4]; exact yI_ne (eq_false z)
              have H4 : vps h4 f := by
                unfold vps
                rw [w50]
                exact vpi_fr H3 (o50 _ _ (by decide)) (o50 _ _ (by decide)) (o50 _ _ (by decide)) (o50 _ _ (by decide)) (o50 _ _ (by decide)) (fun c c1 c2 k => o50 _ _ (by omega))
              have M4 : vmle h4 (20 * (64 - (xI h 104 49).toInt) + 17 - (xI h 104 48).toInt - 1) := by
                unfold vmle
                rw [w50, o50 104 49 (by decide), o50 104 48 (by decide), ro 48 (by decide) (by decide) (by decide), show (Int32.ofInt (0)).toInt = 0 from rfl]
                exact ⟨fun z => absurd z (by decide), fun _ => by omega⟩
              have S4 : xI h4 104 7 = xI h 104 7 := (o50 _ _ (by decide)).trans (ro 7 (by decide) (by decide) (by decide))
              obtain ⟨h5, c5, g5, f5, w1, w2⟩ := vh_token l h4 P4.1.1
              have t27 : XT l 3 90 false 202 153 6051 170 [xf 13 104, xi ((xI h 104 9) - (Int32.ofInt (13)))] [xf 13 104] h4 173 [xf 13 104, xi ((xI h 104 9) - (Int32.ofInt (13)))] [] h5 := XT_call (l := l) (fr := 3) (lo := 90) (full := false) (M := 202) (n := 153) (u := 6051) (pc := 170) (L := [xf 13 104, xi ((xI h 104 9) - (Int32.ofInt (13)))]) (st := [xf 13 104]) (h := h4) (i := .invokevirtual 180) (aux := 1) (nx := 173) (K := 180) (vs := [xf 13 104]) (rs := []) (rest := []) rfl rfl rfl rfl rfl rfl c5 (by decide) (by decide) (Nat.le_of_ble_eq_true rfl) ⟨Nat.le_of_eq g5.2.2.2.1, Nat.le_of_eq g5.2.2.2.2⟩
              have t28 := t26.tr t27
              have t29 : XT l 3 90 false 202 153 6051 173 [xf 13 104, xi ((xI h 104 9) - (Int32.ofInt (13)))] [] h5 174 [xf 13 104, xi ((xI h 104 9) - (Int32.ofInt (13)))] [xi (Int32.ofInt (1))] h5 := XT_path (l := l) (fr := 3) (lo := 90) (full := false) (M := 202) (n := 153) (u := 6051) (pc := 173) (L := [xf 13 104, xi ((xI h 104 9) - (Int32.ofInt (13)))]) (st := []) (h := h5) (inl := [201, 198, 205, 204, 187]) (n' := 200) (sp := [174]) (o := []) rfl rfl ⟨rfl, rfl, rfl⟩ rfl ⟨Nat.le_of_eq g5.2.2.2.1, Nat.le_of_eq g5.2.2.2.2⟩ trivial
              have t30 := t28.tr t29
              exact ⟨_, _, CX_ofT (h' := h5) (by decide) rfl rfl ⟨trivial, Or.inr rfl⟩ ⟨_, _, _, rfl, rfl, rfl⟩ rfl ⟨Nat.le_of_eq g5.2.2.2.1.symm, Nat.le_of_eq g5.2.2.2.2.symm⟩ t30, vSt_t P4 S4 H4 M4 g5 f5 w1 w2⟩
        · by_cases c31 : (xI h 104 49) = (Int32.ofInt (64))
          · have t32 : XT l 3 90 false 202 153 6051 0 [xf 13 104, xun] [] h 74 [xf 13 104, xun] [xi (Int32.ofInt (0))] (xsetI (xsetI h 104 4 (Int32.ofInt (2))) 104 5 (xI h 104 10)) := XT_path (l := l) (fr := 3) (lo := 90) (full := false) (M := 202) (n := 153) (u := 6051) (pc := 0) (L := [xf 13 104, xun]) (st := []) (h := h) (inl := [201, 198, 205, 204, 187]) (n' := 200) (sp := [74]) (o := [1, 1, 0, 0, 0, 0, 0, 0]) rfl rfl ⟨rfl, rfl, rfl⟩ rfl ⟨Nat.le_of_eq hg.2.2.2.1, Nat.le_of_eq hg.2.2.2.2⟩ ⟨⟨⟨⟨⟨⟨⟨⟨⟨⟨⟨⟨trivial, c1⟩, (Or.inl rfl)⟩, rfl⟩, c15⟩, c16⟩, (Or.inr rfl)⟩, (by decide)⟩, c17⟩, c31⟩, (Or.inl rfl)⟩, (Or.inl rfl)⟩, rfl⟩
            exact ⟨_, _, CX_ofT (h' := (xsetI (xsetI h 104 4 (Int32.ofInt (2))) 104 5 (xI h 104 10))) (by decide) rfl rfl ⟨trivial, Or.inl rfl⟩ ⟨_, _, _, rfl, rfl, rfl⟩ rfl ⟨Nat.le_of_eq hg.2.2.2.1.symm, Nat.le_of_eq hg.2.2.2.2.symm⟩ t32, vSt_0 (vPw hg (by decide))⟩
          · have d64 := vne c31
            have y49 := y_suc1 b49.1 (by omega)
            have t33 : XT l 3 90 false 202 153 6051 0 [xf 13 104, xun] [] h 77 [xf 13 104, xun] [xi (Int32.ofInt (2)), xf 13 104] (xsetI h 104 49 ((xI h 104 49) + (Int32.ofInt (1)))) := XT_path (l := l) (fr := 3) (lo := 90) (full := false) (M := 202) (n := 153) (u := 6051) (pc := 0) (L := [xf 13 104, xun]) (st := []) (h := h) (inl := [201, 198, 205, 204, 187]) (n' := 200) (sp := [77]) (o := [1, 1, 0, 0, 0, 0, 1, 1]) rfl rfl ⟨rfl, rfl, rfl⟩ rfl ⟨Nat.le_of_eq hg.2.2.2.1, Nat.le_of_eq hg.2.2.2.2⟩ ⟨⟨⟨⟨⟨⟨⟨⟨⟨⟨⟨trivial, c1⟩, (Or.inl rfl)⟩, rfl⟩, c15⟩, c16⟩, (Or.inr rfl)⟩, (by decide)⟩, c17⟩, c31⟩, (Or.inr rfl)⟩, (by decide)⟩
            have G1 : vG ([(104, 4, false), (104, 5, false), (104, 7, false), (104, 8, false), (104, 9, false), (104, 10, false), (104, 21, false), (104, 46, false), (104, 47, false), (104, 48, false), (104, 49, false), (104, 50, false), (104, 51, false), (126, 0, true), (127, 0, true), (128, 0, true), (129, 0, true), (130, 0, true)], []) h (xsetI h 104 49 ((xI h 104 49) + (Int32.ofInt (1)))) := (vs49 (vG.rf hg) (by omega) rfl)
            have t34 : XT l 3 90 false 202 153 6051 77 [xf 13 104, xun] [xi (Int32.ofInt (2)), xf 13 104] (xsetI h 104 49 ((xI h 104 49) + (Int32.ofInt (1)))) 80 [xf 13 104, xun] [] (xsetI (xsetI (xsetI h 104 49 ((xI h 104 49) + (Int32.ofInt (1)))) 129 (xI h 104 46).toNatClampNeg (Int32.ofInt (2))) 104 46 ((xI h 104 46) + Int32.ofInt (1))) := XT_call (l := l) (fr := 3) (lo := 90) (full := false) (M := 202) (n := 153) (u := 6051) (pc := 77) (L := [xf 13 104, xun]) (st := [xi (Int32.ofInt (2)), xf 13 104]) (h := (xsetI h 104 49 ((xI h 104 49) + (Int32.ofInt (1))))) (i := .invokevirtual 203) (aux := 2) (nx := 80) (K := 203) (vs := [xf 13 104, xi (Int32.ofInt (2))]) (rs := []) (rest := []) rfl rfl rfl rfl rfl rfl (vh_waitsFor l (Int32.ofInt (2)) (xsetI h 104 49 ((xI h 104 49) + (Int32.ofInt (1)))) G1.1) (by decide) (by decide) (Nat.le_of_ble_eq_true rfl) ⟨Nat.le_of_eq hg.2.2.2.1, Nat.le_of_eq hg.2.2.2.2⟩
            have t35 := t33.tr t34
            have t36 : XT l 3 90 false 202 153 6051 80 [xf 13 104, xun] [] (xsetI (xsetI (xsetI h 104 49 ((xI h 104 49) + (Int32.ofInt (1)))) 129 (xI h 104 46).toNatClampNeg (Int32.ofInt (2))) 104 46 ((xI h 104 46) + Int32.ofInt (1))) 81 [xf 13 104, xun] [xf 13 104] (xsetI (xsetI (xsetI h 104 49 ((xI h 104 49) + (Int32.ofInt (1)))) 129 (xI h 104 46).toNatClampNeg (Int32.ofInt (2))) 104 46 ((xI h 104 46) + Int32.ofInt (1))) := XT_path (l := l) (fr := 3) (lo := 90) (full := false) (M := 202) (n := 153) (u := 6051) (pc := 80) (L := [xf 13 104, xun]) (st := []) (h := (xsetI (xsetI (xsetI h 104 49 ((xI h 104 49) + (Int32.ofInt (1)))) 129 (xI h 104 46).toNatClampNeg (Int32.ofInt (2))) 104 46 ((xI h 104 46) + Int32.ofInt (1)))) (inl := [201, 198, 205, 204, 187]) (n' := 200) (sp := [81]) (o := []) rfl rfl ⟨rfl, rfl, rfl⟩ rfl ⟨Nat.le_of_eq hg.2.2.2.1, Nat.le_of_eq hg.2.2.2.2⟩ trivial
            have t37 := t35.tr t36
            have y46 := y_suc1 b46.1 (by omega)
            have G2 : vG ([(104, 4, false), (104, 5, false), (104, 7, false), (104, 8, false), (104, 9, false), (104, 10, false), (104, 21, false), (104, 46, false), (104, 47, false), (104, 48, false), (104, 49, false), (104, 50, false), (104, 51, false), (126, 0, true), (127, 0, true), (128, 0, true), (129, 0, true), (130, 0, true)], []) h (xsetI (xsetI (xsetI h 104 49 ((xI h 104 49) + (Int32.ofInt (1)))) 129 (xI h 104 46).toNatClampNeg (Int32.ofInt (2))) 104 46 ((xI h 104 46) + Int32.ofInt (1))) := vs46 (vs129 G1 (by decide) (fun _ => rfl)) (by omega) rfl
            have G4 : vG ([(104, 4, false), (104, 5, false), (104, 7, false), (104, 8, false), (104, 9, false), (104, 10, false), (104, 21, false), (104, 46, false), (104, 47, false), (104, 48, false), (104, 49, false), (104, 50, false), (104, 51, false), (126, 0, true), (127, 0, true), (128, 0, true), (129, 0, true), (130, 0, true)], []) h (xsetI (xsetI (xsetI h 104 49 ((xI h 104 49) + (Int32.ofInt (1)))) 129 (xI h 104 46).toNatClampNeg (Int32.ofInt (2))) 104 46 ((xI h 104 46) + Int32.ofInt (1))) := G2
            obtain ⟨h4, e4⟩ : ∃ x, x = (xsetI (xsetI (xsetI h 104 49 ((xI h 104 49) + (Int32.ofInt (1)))) 129 (xI h 104 46).toNatClampNeg (Int32.ofInt (2))) 104 46 ((xI h 104 46) + Int32.ofInt (1))) := ⟨_, rfl⟩
            rw [← e4] at t37 G4
            have w7 : xI h4 104 7 = (xI h 104 7) := by rw [e4]; exact (yI_ne (by decide)).trans ((yI_c (by decide)).trans (yI_ne (by decide)))
            have w21 : xI h4 104 21 = (xI h 104 21) := by rw [e4]; exact (yI_ne (by decide)).trans ((yI_c (by decide)).trans (yI_ne (by decide)))
            have w46 : xI h4 104 46 = ((xI h 104 46) + Int32.ofInt (1)) := by rw [e4]; exact yI_same
            have w47 : xI h4 104 47 = (xI h 104 47) := by rw [e4]; exact (yI_ne (by decide)).trans ((yI_c (by decide)).trans (yI_ne (by decide)))
            have w48 : xI h4 104 48 = (xI h 104 48) := by rw [e4]; exact (yI_ne (by decide)).trans ((yI_c (by decide)).trans (yI_ne (by decide)))
            have w49 : xI h4 104 49 = ((xI h 104 49) + (Int32.ofInt (1))) := by rw [e4]; exact (yI_ne (by decide)).trans ((yI_c (by decide)).trans (yI_same))
            have w50 : xI h4 104 50 = (xI h 104 50) := by rw [e4]; exact (yI_ne (by decide)).trans ((yI_c (by decide)).trans (yI_ne (by decide)))
            have q129 : xI h4 129 (xI h 104 46).toNatClampNeg = (Int32.ofInt (2)) := by rw [e4]; exact (yI_c (by decide)).trans (yI_same)
            have o129 : ∀ i, i ≠ (xI h 104 46).toNatClampNeg → xI h4 129 i = xI h 129 i := fun i hi => by rw [e4]; exact (yI_c (by decide)).trans ((yI_ne (eq_false (fun z => hi z.2))).trans (yI_c (by decide)))
            have orow : ∀ c, c ≠ 104 → c ≠ 129 → ∀ i, xI h4 c i = xI h c i := fun c c1 c2 i => by rw [e4]; exact (yI_c (eq_false c1)).trans ((yI_c (eq_false c2)).trans (yI_c (eq_false c1)))
            have P4 : vP f h h4 := ⟨G4, fun c c1 c2 j hj => orow c (by omega) (by omega) j⟩
            have H4 : vps h4 f := by
              unfold vps
              rw [w50, hw]
              refine vpi_push (s := 0) (nb := 0) (nz := 0) (nn := 1) H0 b46.1 (by rw [w46]; exact y46) q129 (fun i hi => o129 i (by omega)) (by decide) rfl rfl rfl w47 (by decide) (by rw [w48]; omega) w21 (by rw [w49]; omega) (fun i => orow _ (by decide) (by decide) i) (fun c c1 c2 k => orow _ (by omega) (by omega) k)
            have M4 : vmle h4 (20 * (64 - (xI h 104 49).toInt) + 17 - (xI h 104 48).toInt - 1) := by
              unfold vmle
              rw [w50, w49, w48, hw]
              exact ⟨fun _ => by omega, fun z => absurd z (by decide)⟩
            have S4 : xI h4 104 7 = xI h 104 7 := w7
            obtain ⟨h5, c5, g5, f5, w1, w2⟩ := vh_token l h4 P4.1.1
            have t38 : XT l 3 90 false 202 153 6051 81 [xf 13 104, xun] [xf 13 104] h4 84 [xf 13 104, xun] [] h5 := XT_call (l := l) (fr := 3) (lo := 90) (full := false) (M := 202) (n := 153) (u := 6051) (pc := 81) (L := [xf 13 104, xun]) (st := [xf 13 104]) (h := h4) (i := .invokevirtual 180) (aux := 1) (nx := 84) (K := 180) (vs := [xf 13 104]) (rs := []) (rest := []) rfl rfl rfl rfl rfl rfl c5 (by decide) (by decide) (Nat.le_of_ble_eq_true rfl) ⟨Nat.le_of_eq g5.2.2.2.1, Nat.le_of_eq g5.2.2.2.2⟩
            have t39 := t37.tr t38
            have t40 : XT l 3 90 false 202 153 6051 84 [xf 13 104, xun] [] h5 85 [xf 13 104, xun] [xi (Int32.ofInt (1))] h5 := XT_path (l := l) (fr := 3) (lo := 90) (full := false) (M := 202) (n := 153) (u := 6051) (pc := 84) (L := [xf 13 104, xun]) (st := []) (h := h5) (inl := [201, 198, 205, 204, 187]) (n' := 200) (sp := [85]) (o := []) rfl rfl ⟨rfl, rfl, rfl⟩ rfl ⟨Nat.le_of_eq g5.2.2.2.1, Nat.le_of_eq g5.2.2.2.2⟩ trivial
            have t41 := t39.tr t40
            exact ⟨_, _, CX_ofT (h' := h5) (by decide) rfl rfl ⟨trivial, Or.inr rfl⟩ ⟨_, _, _, rfl, rfl, rfl⟩ rfl ⟨Nat.le_of_eq g5.2.2.2.1.symm, Nat.le_of_eq g5.2.2.2.2.symm⟩ t41, vSt_t P4 S4 H4 M4 g5 f5 w1 w2⟩
      · by_cases c42 : (xI h 104 9) < (Int32.ofInt (13))
        · have t43 : XT l 3 90 false 202 153 6051 0 [xf 13 104, xun] [] h 108 [xf 13 104, xi (Int32.ofInt (-1))] [xi (Int32.ofInt (0))] (xsetI (xsetI h 104 4 (Int32.ofInt (1))) 104 5 (xI h 104 10)) := XT_path (l := l) (fr := 3) (lo := 90) (full := false) (M := 202) (n := 153) (u := 6051) (pc := 0) (L := [xf 13 104, xun]) (st := []) (h := h) (inl := [201, 198, 205, 204, 187]) (n' := 200) (sp := [108]) (o := [1, 1, 0, 1, 1, 0, 1, 0, 0]) rfl rfl ⟨rfl, rfl, rfl⟩ rfl ⟨Nat.le_of_eq hg.2.2.2.1, Nat.le_of_eq hg.2.2.2.2⟩ ⟨⟨⟨⟨⟨⟨⟨⟨⟨⟨⟨⟨trivial, c1⟩, (Or.inl rfl)⟩, rfl⟩, c15⟩, c16⟩, (Or.inl rfl)⟩, rfl⟩, c15⟩, c42⟩, (by decide)⟩, (fun z => absurd (c15.symm.trans z) (by decide))⟩, (Or.inl rfl)⟩
          exact ⟨_, _, CX_ofT (h' := (xsetI (xsetI h 104 4 (Int32.ofInt (1))) 104 5 (xI h 104 10))) (by decide) rfl rfl ⟨trivial, Or.inl rfl⟩ ⟨_, _, _, rfl, rfl, rfl⟩ rfl ⟨Nat.le_of_eq hg.2.2.2.1.symm, Nat.le_of_eq hg.2.2.2.2.symm⟩ t43, vSt_0 (vPw hg (by decide))⟩
        · have d13 : ¬ (xI h 104 9).toInt < 13 := fun z => c42 (Int32.lt_iff_toInt_lt.mpr z)
          have dk := vrel1 hg (veq ⟨by decide, by decide⟩ c15)
          have dn : ((xI h 104 9) - (Int32.ofInt (13))).toInt = (xI h 104 9).toInt - 13 := by
            rw [Int32.toInt_sub, e13]
            exact Int.bmod_eq_of_le (by omega) (by omega)
          by_cases c44 : (xI h 104 49) = (Int32.ofInt (64))
          · have t45 : XT l 3 90 false 202 153 6051 0 [xf 13 104, xun] [] h 137 [xf 13 104, xi ((xI h 104 9) - (Int32.ofInt (13)))] [xi (Int32.ofInt (0))] (xsetI (xsetI h 104 4 (Int32.ofInt (2))) 104 5 (xI h 104 10)) := XT_path (l := l) (fr := 3) (lo := 90) (full := false) (M := 202) (n := 153) (u := 6051) (pc := 0) (L := [xf 13 104, xun]) (st := []) (h := h) (inl := [201, 198, 205, 204, 187]) (n' := 200) (sp := [137]) (o := [1, 1, 0, 1, 1, 0, 0, 1, 1, 0, 0]) rfl rfl ⟨rfl, rfl, rfl⟩ rfl ⟨Nat.le_of_eq hg.2.2.2.1, Nat.le_of_eq hg.2.2.2.2⟩ ⟨⟨⟨⟨⟨⟨⟨⟨⟨⟨⟨⟨⟨⟨⟨trivial, c1⟩, (Or.inl rfl)⟩, rfl⟩, c15⟩, c16⟩, (Or.inl rfl)⟩, rfl⟩, c15⟩, c42⟩, (Int32.le_iff_toInt_le.mpr (by omega))⟩, (Int32.le_iff_toInt_le.mpr (by omega))⟩, c44⟩, (Or.inl rfl)⟩, (Or.inl rfl)⟩, rfl⟩
            exact ⟨_, _, CX_ofT (h' := (xsetI (xsetI h 104 4 (Int32.ofInt (2))) 104 5 (xI h 104 10))) (by decide) rfl rfl ⟨trivial, Or.inl rfl⟩ ⟨_, _, _, rfl, rfl, rfl⟩ rfl ⟨Nat.le_of_eq hg.2.2.2.1.symm, Nat.le_of_eq hg.2.2.2.2.symm⟩ t45, vSt_0 (vPw hg (by decide))⟩
          · have d64 := vne c44
            have y49 := y_suc1 b49.1 (by omega)
            have t46 : XT l 3 90 false 202 153 6051 0 [xf 13 104, xun] [] h 161 [xf 13 104, xi ((xI h 104 9) - (Int32.ofInt (13)))] [xi (Int32.ofInt (0)), xi ((xI h 104 9) - (Int32.ofInt (13))), xi (Int32.ofInt (1)), xf 13 104] (xsetI h 104 49 ((xI h 104 49) + (Int32.ofInt (1)))) := XT_path (l := l) (fr := 3) (lo := 90) (full := false) (M := 202) (n := 153) (u := 6051) (pc := 0) (L := [xf 13 104, xun]) (st := []) (h := h) (inl := [201, 198, 205, 204, 187]) (n' := 200) (sp := [161]) (o := [1, 1, 0, 1, 1, 0, 0, 1, 1, 1, 1, 0, 0]) rfl rfl ⟨rfl, rfl, rfl⟩ rfl ⟨Nat.le_of_eq hg.2.2.2.1, Nat.le_of_eq hg.2.2.2.2⟩ ⟨⟨⟨⟨⟨⟨⟨⟨⟨⟨⟨⟨⟨⟨⟨⟨trivial, c1⟩, (Or.inl rfl)⟩, rfl⟩, c15⟩, c16⟩, (Or.inl rfl)⟩, rfl⟩, c15⟩, c42⟩, (Int32.le_iff_toInt_le.mpr (by omega))⟩, (Int32.le_iff_toInt_le.mpr (by omega))⟩, c44⟩, (Or.inr rfl)⟩, (by decide)⟩, (fun z => absurd (Int32.lt_iff_toInt_lt.mp z) (by omega))⟩, (fun z => absurd (Int32.lt_iff_toInt_lt.mp z) (by omega))⟩
            have G1' : vG ([(104, 4, false), (104, 5, false), (104, 7, false), (104, 8, false), (104, 9, false), (104, 10, false), (104, 21, false), (104, 46, false), (104, 47, false), (104, 48, false), (104, 49, false), (104, 50, false), (104, 51, false), (126, 0, true), (127, 0, true), (128, 0, true), (129, 0, true), (130, 0, true)], []) h (xsetI h 104 49 ((xI h 104 49) + (Int32.ofInt (1)))) := vs49 (vG.rf hg) (by omega) rfl
            obtain ⟨h1, e1⟩ : ∃ x, x = (xsetI h 104 49 ((xI h 104 49) + (Int32.ofInt (1)))) := ⟨_, rfl⟩
            rw [← e1] at t46 G1'
            have G1 : vG ([(104, 4, false), (104, 5, false), (104, 7, false), (104, 8, false), (104, 9, false), (104, 10, false), (104, 21, false), (104, 46, false), (104, 47, false), (104, 48, false), (104, 49, false), (104, 50, false), (104, 51, false), (126, 0, true), (127, 0, true), (128, 0, true), (129, 0, true), (130, 0, true)], []) h h1 := G1'
            have o49 : ∀ c j, ¬ (c = 104 ∧ j = 49) → xI h1 c j = xI h c j := fun c j z => by rw [e1]; exact yI_ne (eq_false z)
            have a49 : (xI h1 104 49).toInt = (xI h 104 49).toInt + 1 := by rw [e1, yI_same]; exact y49
            have f21 : xI h1 104 21 = xI h 104 21 := o49 _ _ (by decide)
            have f47 : xI h1 104 47 = xI h 104 47 := o49 _ _ (by decide)
            obtain ⟨h3, eG, u47, u21, uo, u129, u130a, u130b, uk, n126, n127, n128⟩ := vh_grownF (k := (Int32.ofInt (1))) (a := ((xI h 104 9) - (Int32.ofInt (13)))) (b := (Int32.ofInt (0))) G1.1 (by rw [f21]; omega)
            have G3 : vG ([(104, 4, false), (104, 5, false), (104, 7, false), (104, 8, false), (104, 9, false), (104, 10, false), (104, 21, false), (104, 46, false), (104, 47, false), (104, 48, false), (104, 49, false), (104, 50, false), (104, 51, false), (126, 0, true), (127, 0, true), (128, 0, true), (129, 0, true), (130, 0, true)], []) h h3 := vh_grownG G1 (by rw [f21]; omega) (by rw [f47]; omega) (by decide) (by decide) (fun _ => rfl) (fun _ => rfl) (fun _ => rfl) (fun _ => rfl) rfl rfl eG
            have v47 : (xI h3 104 47).toInt = (xI h 104 47).toInt + 1 := by rw [u47, f47]; exact y_suc1 b47.1 (by omega)
            have v21 : (xI h3 104 21).toInt = (xI h 104 21).toInt + 1 := by rw [u21, f21]; exact y_suc1 b21.1 (by omega)
            have r129 : xI h3 129 = xI h 129 := funext fun i => (u129 i).trans (o49 _ _ (fun z => absurd z.1 (by decide)))
            have ro : ∀ j, j ≠ 21 → j ≠ 47 → j ≠ 49 → xI h3 104 j = xI h 104 j := fun j j1 j2 j3 => (uo j j1 j2).trans (o49 _ _ (fun z => j3 z.2))
            have v49 : (xI h3 104 49).toInt = (xI h 104 49).toInt + 1 := by rw [uo 49 (by decide) (by decide)]; exact a49
            have r46 : xI h3 104 46 = xI h 104 46 := ro _ (by decide) (by decide) (by decide)
            rw [f21] at uk n126 n127 n128
            have H3 : vpi h3 f 1 := by
              refine vpi_grow H0 b21.1 (fun i hi => ?_) ?_ ?_ ?_ v21 (by omega) (fun i hi => ?_) (fun i hi => ?_) (fun c c1 c2 j hj => ?_) ?_
              · rw [r129]; rw [r46] at hi; exact i2 i hi
              · rw [r129, r46]; omega
              · rw [r129, r46, ro 48 (by decide) (by decide) (by decide)]; exact i4
              · rw [r129, r46]; omega
              · exact (u130a i (by rw [f47]; omega)).trans f21
              · exact (u130b i (by rw [f47]; omega)).trans (o49 _ _ (fun z => absurd z.1 (by decide)))
              · exact (uk c c1 c2 j hj).trans (o49 _ _ (fun z => by have := z.1; omega))
              · rw [n126, n127, show (Int32.ofInt (1)).toInt = 1 from rfl]; exact ⟨fun z => by omega, fun z => absurd z (by decide), fun z => absurd z (by decide)⟩
            have P3 : vP f h h3 := ⟨G3, fun c c1 c2 j hj => (uk c c1 c2 j (by omega)).trans (o49 _ _ (fun z => by have := z.1; omega))⟩
            have t47 : XT l 3 90 false 202 153 6051 161 [xf 13 104, xi ((xI h 104 9) - (Int32.ofInt (13)))] [xi (Int32.ofInt (0)), xi ((xI h 104 9) - (Int32.ofInt (13))), xi (Int32.ofInt (1)), xf 13 104] h1 164 [xf 13 104, xi ((xI h 104 9) - (Int32.ofInt (13)))] [] h3 := XT_call (l := l) (fr := 3) (lo := 90) (full := false) (M := 202) (n := 153) (u := 6051) (pc := 161) (L := [xf 13 104, xi ((xI h 104 9) - (Int32.ofInt (13)))]) (st := [xi (Int32.ofInt (0)), xi ((xI h 104 9) - (Int32.ofInt (13))), xi (Int32.ofInt (1)), xf 13 104]) (h := h1) (i := .invokevirtual 206) (aux := 4) (nx := 164) (K := 206) (vs := [xf 13 104, xi (Int32.ofInt (1)), xi ((xI h 104 9) - (Int32.ofInt (13))), xi (Int32.ofInt (0))]) (rs := []) (rest := []) rfl rfl rfl rfl rfl rfl (by rw [eG]; exact vh_grown l (Int32.ofInt (1)) ((xI h 104 9) - (Int32.ofInt (13))) (Int32.ofInt (0)) h1 G1.1 (by rw [f21]; omega)) (by decide) (by decide) (Nat.le_of_ble_eq_true rfl) ⟨Nat.le_of_eq G3.1.2.2.2.1, Nat.le_of_eq G3.1.2.2.2.2⟩
            have t48 := t46.tr t47
            have t49 : XT l 3 90 false 202 153 6051 164 [xf 13 104, xi ((xI h 104 9) - (Int32.ofInt (13)))] [] h3 170 [xf 13 104, xi ((xI h 104 9) - (Int32.ofInt (13)))] [xf 13 104] (xsetI h3 104 50 (Int32.ofInt (0))) := XT_path (l := l) (fr := 3) (lo := 90) (full := false) (M := 202) (n := 153) (u := 6051) (pc := 164) (L := [xf 13 104, xi ((xI h 104 9) - (Int32.ofInt (13)))]) (st := []) (h := h3) (inl := [201, 198, 205, 204, 187]) (n' := 200) (sp := [170]) (o := []) rfl rfl ⟨rfl, rfl, rfl⟩ rfl ⟨Nat.le_of_eq G3.1.2.2.2.1, Nat.le_of_eq G3.1.2.2.2.2⟩ ⟨trivial, (Or.inl rfl)⟩
            have t50 := t48.tr t49
            obtain ⟨h4, e4⟩ : ∃ x, x = (xsetI h3 104 50 (Int32.ofInt (0))) := ⟨_, rfl⟩
            rw [← e4] at t50
            have P4 : vP f h h4 := by rw [e4]; exact ⟨vs50 G3 (by decide) rfl, fun c c1 c2 j hj => (yI_c (eq_false (by omega))).trans (P3.2 c c1 c2 j hj)⟩
            have w50 : xI h4 104 50 = Int32.ofInt (0) := by rw [e4]; exact yI_same
            have o50 : ∀ c j, ¬ (c = 104 ∧ j = 50) → xI h4 c j = xI h3 c j := fun c j z => by rw [e4]; exact yI_ne (eq_false z)
            have H4 : vps h4 f := by
              unfold vps
              rw [w50]
              exact vpi_fr H3 (o50 _ _ (by decide)) (o50 _ _ (by decide)) (o50 _ _ (by decide)) (o50 _ _ (by decide)) (o50 _ _ (by decide)) (fun c c1 c2 k => o50 _ _ (by omega))
            have M4 : vmle h4 (20 * (64 - (xI h 104 49).toInt) + 17 - (xI h 104 48).toInt - 1) := by
              unfold vmle
              rw [w50, o50 104 49 (by decide), o50 104 48 (by decide), ro 48 (by decide) (by decide) (by decide), show (Int32.ofInt (0)).toInt = 0 from rfl]
              exact ⟨fun z => absurd z (by decide), fun _ => by omega⟩
            have S4 : xI h4 104 7 = xI h 104 7 := (o50 _ _ (by decide)).trans (ro 7 (by decide) (by decide) (by decide))
            obtain ⟨h5, c5, g5, f5, w1, w2⟩ := vh_token l h4 P4.1.1
            have t51 : XT l 3 90 false 202 153 6051 170 [xf 13 104, xi ((xI h 104 9) - (Int32.ofInt (13)))] [xf 13 104] h4 173 [xf 13 104, xi ((xI h 104 9) - (Int32.ofInt (13)))] [] h5 := XT_call (l := l) (fr := 3) (lo := 90) (full := false) (M := 202) (n := 153) (u := 6051) (pc := 170) (L := [xf 13 104, xi ((xI h 104 9) - (Int32.ofInt (13)))]) (st := [xf 13 104]) (h := h4) (i := .invokevirtual 180) (aux := 1) (nx := 173) (K := 180) (vs := [xf 13 104]) (rs := []) (rest := []) rfl rfl rfl rfl rfl rfl c5 (by decide) (by decide) (Nat.le_of_ble_eq_true rfl) ⟨Nat.le_of_eq g5.2.2.2.1, Nat.le_of_eq g5.2.2.2.2⟩
            have t52 := t50.tr t51
            have t53 : XT l 3 90 false 202 153 6051 173 [xf 13 104, xi ((xI h 104 9) - (Int32.ofInt (13)))] [] h5 174 [xf 13 104, xi ((xI h 104 9) - (Int32.ofInt (13)))] [xi (Int32.ofInt (1))] h5 := XT_path (l := l) (fr := 3) (lo := 90) (full := false) (M := 202) (n := 153) (u := 6051) (pc := 173) (L := [xf 13 104, xi ((xI h 104 9) - (Int32.ofInt (13)))]) (st := []) (h := h5) (inl := [201, 198, 205, 204, 187]) (n' := 200) (sp := [174]) (o := []) rfl rfl ⟨rfl, rfl, rfl⟩ rfl ⟨Nat.le_of_eq g5.2.2.2.1, Nat.le_of_eq g5.2.2.2.2⟩ trivial
            have t54 := t52.tr t53
            exact ⟨_, _, CX_ofT (h' := h5) (by decide) rfl rfl ⟨trivial, Or.inr rfl⟩ ⟨_, _, _, rfl, rfl, rfl⟩ rfl ⟨Nat.le_of_eq g5.2.2.2.1.symm, Nat.le_of_eq g5.2.2.2.2.symm⟩ t54, vSt_t P4 S4 H4 M4 g5 f5 w1 w2⟩
    · by_cases c55 : (xI h 104 8) = (Int32.ofInt (3))
      · by_cases c56 : (xI h 104 9) ≤ (Int32.ofInt (9999))
        · by_cases c57 : (xI h 104 49) = (Int32.ofInt (64))
          · have t58 : XT l 3 90 false 202 153 6051 0 [xf 13 104, xun] [] h 137 [xf 13 104, xi (Int32.ofInt (-1))] [xi (Int32.ofInt (0))] (xsetI (xsetI h 104 4 (Int32.ofInt (2))) 104 5 (xI h 104 10)) := XT_path (l := l) (fr := 3) (lo := 90) (full := false) (M := 202) (n := 153) (u := 6051) (pc := 0) (L := [xf 13 104, xun]) (st := []) (h := h) (inl := [201, 198, 205, 204, 187]) (n' := 200) (sp := [137]) (o := [1, 1, 1, 1, 1, 0, 1, 0, 1, 0, 0]) rfl rfl ⟨rfl, rfl, rfl⟩ rfl ⟨Nat.le_of_eq hg.2.2.2.1, Nat.le_of_eq hg.2.2.2.2⟩ ⟨⟨⟨⟨⟨⟨⟨⟨⟨⟨⟨⟨⟨⟨⟨trivial, c1⟩, (Or.inl rfl)⟩, rfl⟩, c15⟩, (Or.inl rfl)⟩, rfl⟩, c15⟩, (by decide)⟩, c55⟩, (by decide)⟩, c56⟩, c57⟩, (Or.inl rfl)⟩, (Or.inl rfl)⟩, rfl⟩
            exact ⟨_, _, CX_ofT (h' := (xsetI (xsetI h 104 4 (Int32.ofInt (2))) 104 5 (xI h 104 10))) (by decide) rfl rfl ⟨trivial, Or.inl rfl⟩ ⟨_, _, _, rfl, rfl, rfl⟩ rfl ⟨Nat.le_of_eq hg.2.2.2.1.symm, Nat.le_of_eq hg.2.2.2.2.symm⟩ t58, vSt_0 (vPw hg (by decide))⟩
          · have d64 := vne c57
            have y49 := y_suc1 b49.1 (by omega)
            have t59 : XT l 3 90 false 202 153 6051 0 [xf 13 104, xun] [] h 161 [xf 13 104, xi (Int32.ofInt (-1))] [xi (Int32.ofInt (0)), xi (xI h 104 9), xi (Int32.ofInt (0)), xf 13 104] (xsetI h 104 49 ((xI h 104 49) + (Int32.ofInt (1)))) := XT_path (l := l) (fr := 3) (lo := 90) (full := false) (M := 202) (n := 153) (u := 6051) (pc := 0) (L := [xf 13 104, xun]) (st := []) (h := h) (inl := [201, 198, 205, 204, 187]) (n' := 200) (sp := [161]) (o := [1, 1, 1, 1, 1, 0, 1, 0, 1, 1, 1, 1, 1]) rfl rfl ⟨rfl, rfl, rfl⟩ rfl ⟨Nat.le_of_eq hg.2.2.2.1, Nat.le_of_eq hg.2.2.2.2⟩ ⟨⟨⟨⟨⟨⟨⟨⟨⟨⟨⟨⟨⟨⟨⟨⟨trivial, c1⟩, (Or.inl rfl)⟩, rfl⟩, c15⟩, (Or.inl rfl)⟩, rfl⟩, c15⟩, (by decide)⟩, c55⟩, (by decide)⟩, c56⟩, c57⟩, (Or.inr rfl)⟩, (by decide)⟩, (by decide)⟩, (by decide)⟩
            have G1' : vG ([(104, 4, false), (104, 5, false), (104, 7, false), (104, 8, false), (104, 9, false), (104, 10, false), (104, 21, false), (104, 46, false), (104, 47, false), (104, 48, false), (104, 49, false), (104, 50, false), (104, 51, false), (126, 0, true), (127, 0, true), (128, 0, true), (129, 0, true), (130, 0, true)], []) h (xsetI h 104 49 ((xI h 104 49) + (Int32.ofInt (1)))) := vs49 (vG.rf hg) (by omega) rfl
            obtain ⟨h1, e1⟩ : ∃ x, x = (xsetI h 104 49 ((xI h 104 49) + (Int32.ofInt (1)))) := ⟨_, rfl⟩
            rw [← e1] at t59 G1'
            have G1 : vG ([(104, 4, false), (104, 5, false), (104, 7, false), (104, 8, false), (104, 9, false), (104, 10, false), (104, 21, false), (104, 46, false), (104, 47, false), (104, 48, false), (104, 49, false), (104, 50, false), (104, 51, false), (126, 0, true), (127, 0, true), (128, 0, true), (129, 0, true), (130, 0, true)], []) h h1 := G1'
            have o49 : ∀ c j, ¬ (c = 104 ∧ j = 49) → xI h1 c j = xI h c j := fun c j z => by rw [e1]; exact yI_ne (eq_false z)
            have a49 : (xI h1 104 49).toInt = (xI h 104 49).toInt + 1 := by rw [e1, yI_same]; exact y49
            have f21 : xI h1 104 21 = xI h 104 21 := o49 _ _ (by decide)
            have f47 : xI h1 104 47 = xI h 104 47 := o49 _ _ (by decide)
            obtain ⟨h3, eG, u47, u21, uo, u129, u130a, u130b, uk, n126, n127, n128⟩ := vh_grownF (k := (Int32.ofInt (0))) (a := (xI h 104 9)) (b := (Int32.ofInt (0))) G1.1 (by rw [f21]; omega)
            have G3 : vG ([(104, 4, false), (104, 5, false), (104, 7, false), (104, 8, false), (104, 9, false), (104, 10, false), (104, 21, false), (104, 46, false), (104, 47, false), (104, 48, false), (104, 49, false), (104, 50, false), (104, 51, false), (126, 0, true), (127, 0, true), (128, 0, true), (129, 0, true), (130, 0, true)], []) h h3 := vh_grownG G1 (by rw [f21]; omega) (by rw [f47]; omega) (by decide) (by decide) (fun _ => rfl) (fun _ => rfl) (fun _ => rfl) (fun _ => rfl) rfl rfl eG
            have v47 : (xI h3 104 47).toInt = (xI h 104 47).toInt + 1 := by rw [u47, f47]; exact y_suc1 b47.1 (by omega)
            have v21 : (xI h3 104 21).toInt = (xI h 104 21).toInt + 1 := by rw [u21, f21]; exact y_suc1 b21.1 (by omega)
            have r129 : xI h3 129 = xI h 129 := funext fun i => (u129 i).trans (o49 _ _ (fun z => absurd z.1 (by decide)))
            have ro : ∀ j, j ≠ 21 → j ≠ 47 → j ≠ 49 → xI h3 104 j = xI h 104 j := fun j j1 j2 j3 => (uo j j1 j2).trans (o49 _ _ (fun z => j3 z.2))
            have v49 : (xI h3 104 49).toInt = (xI h 104 49).toInt + 1 := by rw [uo 49 (by decide) (by decide)]; exact a49
            have r46 : xI h3 104 46 = xI h 104 46 := ro _ (by decide) (by decide) (by decide)
            rw [f21] at uk n126 n127 n128
            have H3 : vpi h3 f 1 := by
              refine vpi_grow H0 b21.1 (fun i hi => ?_) ?_ ?_ ?_ v21 (by omega) (fun i hi => ?_) (fun i hi => ?_) (fun c c1 c2 j hj => ?_) ?_
              · rw [r129]; rw [r46] at hi; exact i2 i hi
              · rw [r129, r46]; omega
              · rw [r129, r46, ro 48 (by decide) (by decide) (by decide)]; exact i4
              · rw [r129, r46]; omega
              · exact (u130a i (by rw [f47]; omega)).trans f21
              · exact (u130b i (by rw [f47]; omega)).trans (o49 _ _ (fun z => absurd z.1 (by decide)))
              · exact (uk c c1 c2 j hj).trans (o49 _ _ (fun z => by have := z.1; omega))
              · rw [n126, n127, show (Int32.ofInt (0)).toInt = 0 from rfl]; exact ⟨fun z => by omega, fun z => absurd z (by decide), fun z => absurd z (by decide)⟩
            have P3 : vP f h h3 := ⟨G3, fun c c1 c2 j hj => (uk c c1 c2 j (by omega)).trans (o49 _ _ (fun z => by have := z.1; omega))⟩
            have t60 : XT l 3 90 false 202 153 6051 161 [xf 13 104, xi (Int32.ofInt (-1))] [xi (Int32.ofInt (0)), xi (xI h 104 9), xi (Int32.ofInt (0)), xf 13 104] h1 164 [xf 13 104, xi (Int32.ofInt (-1))] [] h3 := XT_call (l := l) (fr := 3) (lo := 90) (full := false) (M := 202) (n := 153) (u := 6051) (pc := 161) (L := [xf 13 104, xi (Int32.ofInt (-1))]) (st := [xi (Int32.ofInt (0)), xi (xI h 104 9), xi (Int32.ofInt (0)), xf 13 104]) (h := h1) (i := .invokevirtual 206) (aux := 4) (nx := 164) (K := 206) (vs := [xf 13 104, xi (Int32.ofInt (0)), xi (xI h 104 9), xi (Int32.ofInt (0))]) (rs := []) (rest := []) rfl rfl rfl rfl rfl rfl (by rw [eG]; exact vh_grown l (Int32.ofInt (0)) (xI h 104 9) (Int32.ofInt (0)) h1 G1.1 (by rw [f21]; omega)) (by decide) (by decide) (Nat.le_of_ble_eq_true rfl) ⟨Nat.le_of_eq G3.1.2.2.2.1, Nat.le_of_eq G3.1.2.2.2.2⟩
            have t61 := t59.tr t60
            have t62 : XT l 3 90 false 202 153 6051 164 [xf 13 104, xi (Int32.ofInt (-1))] [] h3 170 [xf 13 104, xi (Int32.ofInt (-1))] [xf 13 104] (xsetI h3 104 50 (Int32.ofInt (0))) := XT_path (l := l) (fr := 3) (lo := 90) (full := false) (M := 202) (n := 153) (u := 6051) (pc := 164) (L := [xf 13 104, xi (Int32.ofInt (-1))]) (st := []) (h := h3) (inl := [201, 198, 205, 204, 187]) (n' := 200) (sp := [170]) (o := []) rfl rfl ⟨rfl, rfl, rfl⟩ rfl ⟨Nat.le_of_eq G3.1.2.2.2.1, Nat.le_of_eq G3.1.2.2.2.2⟩ ⟨trivial, (Or.inl rfl)⟩
            have t63 := t61.tr t62
            obtain ⟨h4, e4⟩ : ∃ x, x = (xsetI h3 104 50 (Int32.ofInt (0))) := ⟨_, rfl⟩
            rw [← e4] at t63
            have P4 : vP f h h4 := by rw [e4]; exact ⟨vs50 G3 (by decide) rfl, fun c c1 c2 j hj => (yI_c (eq_false (by omega))).trans (P3.2 c c1 c2 j hj)⟩
            have w50 : xI h4 104 50 = Int32.ofInt (0) := by rw [e4]; exact yI_same
            have o50 : ∀ c j, ¬ (c = 104 ∧ j = 50) → xI h4 c j = xI h3 c j := fun c j z => by rw [e4]; exact yI_ne (eq_false z)
            have H4 : vps h4 f := by
              unfold vps
              rw [w50]
              exact vpi_fr H3 (o50 _ _ (by decide)) (o50 _ _ (by decide)) (o50 _ _ (by decide)) (o50 _ _ (by decide)) (o50 _ _ (by decide)) (fun c c1 c2 k => o50 _ _ (by omega))
            have M4 : vmle h4 (20 * (64 - (xI h 104 49).toInt) + 17 - (xI h 104 48).toInt - 1) := by
              unfold vmle
              rw [w50, o50 104 49 (by decide), o50 104 48 (by decide), ro 48 (by decide) (by decide) (by decide), show (Int32.ofInt (0)).toInt = 0 from rfl]
              exact ⟨fun z => absurd z (by decide), fun _ => by omega⟩
            have S4 : xI h4 104 7 = xI h 104 7 := (o50 _ _ (by decide)).trans (ro 7 (by decide) (by decide) (by decide))
            obtain ⟨h5, c5, g5, f5, w1, w2⟩ := vh_token l h4 P4.1.1
            have t64 : XT l 3 90 false 202 153 6051 170 [xf 13 104, xi (Int32.ofInt (-1))] [xf 13 104] h4 173 [xf 13 104, xi (Int32.ofInt (-1))] [] h5 := XT_call (l := l) (fr := 3) (lo := 90) (full := false) (M := 202) (n := 153) (u := 6051) (pc := 170) (L := [xf 13 104, xi (Int32.ofInt (-1))]) (st := [xf 13 104]) (h := h4) (i := .invokevirtual 180) (aux := 1) (nx := 173) (K := 180) (vs := [xf 13 104]) (rs := []) (rest := []) rfl rfl rfl rfl rfl rfl c5 (by decide) (by decide) (Nat.le_of_ble_eq_true rfl) ⟨Nat.le_of_eq g5.2.2.2.1, Nat.le_of_eq g5.2.2.2.2⟩
            have t65 := t63.tr t64
            have t66 : XT l 3 90 false 202 153 6051 173 [xf 13 104, xi (Int32.ofInt (-1))] [] h5 174 [xf 13 104, xi (Int32.ofInt (-1))] [xi (Int32.ofInt (1))] h5 := XT_path (l := l) (fr := 3) (lo := 90) (full := false) (M := 202) (n := 153) (u := 6051) (pc := 173) (L := [xf 13 104, xi (Int32.ofInt (-1))]) (st := []) (h := h5) (inl := [201, 198, 205, 204, 187]) (n' := 200) (sp := [174]) (o := []) rfl rfl ⟨rfl, rfl, rfl⟩ rfl ⟨Nat.le_of_eq g5.2.2.2.1, Nat.le_of_eq g5.2.2.2.2⟩ trivial
            have t67 := t65.tr t66
            exact ⟨_, _, CX_ofT (h' := h5) (by decide) rfl rfl ⟨trivial, Or.inr rfl⟩ ⟨_, _, _, rfl, rfl, rfl⟩ rfl ⟨Nat.le_of_eq g5.2.2.2.1.symm, Nat.le_of_eq g5.2.2.2.2.symm⟩ t67, vSt_t P4 S4 H4 M4 g5 f5 w1 w2⟩
        · have t68 : XT l 3 90 false 202 153 6051 0 [xf 13 104, xun] [] h 128 [xf 13 104, xi (Int32.ofInt (-1))] [xi (Int32.ofInt (0))] (xsetI (xsetI h 104 4 (Int32.ofInt (2))) 104 5 (xI h 104 10)) := XT_path (l := l) (fr := 3) (lo := 90) (full := false) (M := 202) (n := 153) (u := 6051) (pc := 0) (L := [xf 13 104, xun]) (st := []) (h := h) (inl := [201, 198, 205, 204, 187]) (n' := 200) (sp := [128]) (o := [1, 1, 1, 1, 1, 0, 1, 0, 0]) rfl rfl ⟨rfl, rfl, rfl⟩ rfl ⟨Nat.le_of_eq hg.2.2.2.1, Nat.le_of_eq hg.2.2.2.2⟩ ⟨⟨⟨⟨⟨⟨⟨⟨⟨⟨⟨⟨trivial, c1⟩, (Or.inl rfl)⟩, rfl⟩, c15⟩, (Or.inl rfl)⟩, rfl⟩, c15⟩, (by decide)⟩, c55⟩, (by decide)⟩, c56⟩, (Or.inl rfl)⟩
          exact ⟨_, _, CX_ofT (h' := (xsetI (xsetI h 104 4 (Int32.ofInt (2))) 104 5 (xI h 104 10))) (by decide) rfl rfl ⟨trivial, Or.inl rfl⟩ ⟨_, _, _, rfl, rfl, rfl⟩ rfl ⟨Nat.le_of_eq hg.2.2.2.1.symm, Nat.le_of_eq hg.2.2.2.2.symm⟩ t68, vSt_0 (vPw hg (by decide))⟩
      · have t69 : XT l 3 90 false 202 153 6051 0 [xf 13 104, xun] [] h 108 [xf 13 104, xi (Int32.ofInt (-1))] [xi (Int32.ofInt (0))] (xsetI (xsetI h 104 4 (Int32.ofInt (1))) 104 5 (xI h 104 10)) := XT_path (l := l) (fr := 3) (lo := 90) (full := false) (M := 202) (n := 153) (u := 6051) (pc := 0) (L := [xf 13 104, xun]) (st := []) (h := h) (inl := [201, 198, 205, 204, 187]) (n' := 200) (sp := [108]) (o := [1, 1, 1, 1, 1, 0, 0]) rfl rfl ⟨rfl, rfl, rfl⟩ rfl ⟨Nat.le_of_eq hg.2.2.2.1, Nat.le_of_eq hg.2.2.2.2⟩ ⟨⟨⟨⟨⟨⟨⟨⟨⟨⟨trivial, c1⟩, (Or.inl rfl)⟩, rfl⟩, c15⟩, (Or.inl rfl)⟩, rfl⟩, c15⟩, (by decide)⟩, c55⟩, (Or.inl rfl)⟩
        exact ⟨_, _, CX_ofT (h' := (xsetI (xsetI h 104 4 (Int32.ofInt (1))) 104 5 (xI h 104 10))) (by decide) rfl rfl ⟨trivial, Or.inl rfl⟩ ⟨_, _, _, rfl, rfl, rfl⟩ rfl ⟨Nat.le_of_eq hg.2.2.2.1.symm, Nat.le_of_eq hg.2.2.2.2.symm⟩ t69, vSt_0 (vPw hg (by decide))⟩
set_option maxRecDepth 100000 in
set_option maxHeartbeats 2000000 in
theorem vh_signsT (l : Launch) (f : Int) (k : Int32) (hk : 3 ≤ k.toInt ∧ k.toInt ≤ 14) (h : XH) (hg : sgood vT vR vE 153 6051 h) (H0 : vpi h f 1) (hw : (xI h 104 50).toInt = 0) : ∃ v pc L' h', XT l 3 110 false 207 153 6051 217 [xf 13 104, xi k] [] h pc L' [xi v] h' ∧ XE 207 pc [xi v] ∧ L'.length = 2 ∧ vSt f (20 * (64 - (xI h 104 49).toInt) + (xI h 104 48).toInt - 1) h v h' := by
  have b46 : 0 ≤ (xI h 104 46).toInt ∧ (xI h 104 46).toInt ≤ 72 := vbnd hg.1 104 46
  have b47 : 0 ≤ (xI h 104 47).toInt ∧ (xI h 104 47).toInt ≤ 64 := vbnd hg.1 104 47
  have b21 : 0 ≤ (xI h 104 21).toInt ∧ (xI h 104 21).toInt ≤ 64 := vbnd hg.1 104 21
  have b48 : 0 ≤ (xI h 104 48).toInt ∧ (xI h 104 48).toInt ≤ 8 := vbnd hg.1 104 48
  have b49 : 0 ≤ (xI h 104 49).toInt ∧ (xI h 104 49).toInt ≤ 64 := vbnd hg.1 104 49
  have b50 : 0 ≤ (xI h 104 50).toInt ∧ (xI h 104 50).toInt ≤ 1 := vbnd hg.1 104 50
  obtain ⟨i0, i1, i2, i3, i4, i5, i6, i7⟩ := id H0
  have tz := vcnt_zn (f := xI h 129) (xI h 104 46).toInt.toNat
  have tb := vcnt_bn (f := xI h 129) (xI h 104 46).toInt.toNat
  have nD : (xI h 104 46).toNatClampNeg = (xI h 104 46).toInt.toNat := rfl
  by_cases c1 : (xI h 104 49) = (Int32.ofInt (64))
  · have t2 : XT l 3 110 false 207 153 6051 217 [xf 13 104, xi k] [] h 225 [xf 13 104, xi k] [xi (Int32.ofInt (0))] (xsetI (xsetI h 104 4 (Int32.ofInt (2))) 104 5 (xI h 104 10)) := XT_path (l := l) (fr := 3) (lo := 110) (full := false) (M := 207) (n := 153) (u := 6051) (pc := 217) (L := [xf 13 104, xi k]) (st := []) (h := h) (inl := [201, 198, 204, 187]) (n' := 200) (sp := [225]) (o := [0, 0]) rfl rfl ⟨rfl, rfl, rfl⟩ rfl ⟨Nat.le_of_eq hg.2.2.2.1, Nat.le_of_eq hg.2.2.2.2⟩ ⟨⟨⟨⟨trivial, c1⟩, (Or.inl rfl)⟩, (Or.inl rfl)⟩, rfl⟩
    exact ⟨_, _, _, _, t2, ⟨_, _, _, rfl, rfl, rfl⟩, rfl, vSt_0 (vPw hg (by decide))⟩
  · have d64 := vne c1
    have y49 := y_suc1 b49.1 (by omega)
    have t3 : XT l 3 110 false 207 153 6051 217 [xf 13 104, xi k] [] h 228 [xf 13 104, xi k] [xi k, xf 13 104] (xsetI h 104 49 ((xI h 104 49) + (Int32.ofInt (1)))) := XT_path (l := l) (fr := 3) (lo := 110) (full := false) (M := 207) (n := 153) (u := 6051) (pc := 217) (L := [xf 13 104, xi k]) (st := []) (h := h) (inl := [201, 198, 204, 187]) (n' := 200) (sp := [228]) (o := [1, 1]) rfl rfl ⟨rfl, rfl, rfl⟩ rfl ⟨Nat.le_of_eq hg.2.2.2.1, Nat.le_of_eq hg.2.2.2.2⟩ ⟨⟨⟨trivial, c1⟩, (Or.inr rfl)⟩, (by decide)⟩
    have G1 : vG ([(104, 4, false), (104, 5, false), (104, 7, false), (104, 8, false), (104, 9, false), (104, 10, false), (104, 21, false), (104, 46, false), (104, 47, false), (104, 48, false), (104, 49, false), (104, 50, false), (104, 51, false), (126, 0, true), (127, 0, true), (128, 0, true), (129, 0, true), (130, 0, true)], []) h (xsetI h 104 49 ((xI h 104 49) + (Int32.ofInt (1)))) := vs49 (vG.rf hg) (by omega) rfl
    have t4 : XT l 3 110 false 207 153 6051 228 [xf 13 104, xi k] [xi k, xf 13 104] (xsetI h 104 49 ((xI h 104 49) + (Int32.ofInt (1)))) 231 [xf 13 104, xi k] [] (xsetI (xsetI (xsetI h 104 49 ((xI h 104 49) + (Int32.ofInt (1)))) 129 (xI h 104 46).toNatClampNeg k) 104 46 ((xI h 104 46) + Int32.ofInt (1))) := XT_call (l := l) (fr := 3) (lo := 110) (full := false) (M := 207) (n := 153) (u := 6051) (pc := 228) (L := [xf 13 104, xi k]) (st := [xi k, xf 13 104]) (h := (xsetI h 104 49 ((xI h 104 49) + (Int32.ofInt (1))))) (i := .invokevirtual 203) (aux := 2) (nx := 231) (K := 203) (vs := [xf 13 104, xi k]) (rs := []) (rest := []) rfl rfl rfl rfl rfl rfl (vh_waitsFor l k (xsetI h 104 49 ((xI h 104 49) + (Int32.ofInt (1)))) G1.1) (by decide) (by decide) (Nat.le_of_ble_eq_true rfl) ⟨Nat.le_of_eq hg.2.2.2.1, Nat.le_of_eq hg.2.2.2.2⟩
    have t5 := t3.tr t4
    have t6 : XT l 3 110 false 207 153 6051 231 [xf 13 104, xi k] [] (xsetI (xsetI (xsetI h 104 49 ((xI h 104 49) + (Int32.ofInt (1)))) 129 (xI h 104 46).toNatClampNeg k) 104 46 ((xI h 104 46) + Int32.ofInt (1))) 238 [xf 13 104, xi k] [xi k, xf 13 104] (xsetI (xsetI (xsetI (xsetI h 104 49 ((xI h 104 49) + (Int32.ofInt (1)))) 129 (xI h 104 46).toNatClampNeg k) 104 46 ((xI h 104 46) + Int32.ofInt (1))) 104 50 (Int32.ofInt (1))) := XT_path (l := l) (fr := 3) (lo := 110) (full := false) (M := 207) (n := 153) (u := 6051) (pc := 231) (L := [xf 13 104, xi k]) (st := []) (h := (xsetI (xsetI (xsetI h 104 49 ((xI h 104 49) + (Int32.ofInt (1)))) 129 (xI h 104 46).toNatClampNeg k) 104 46 ((xI h 104 46) + Int32.ofInt (1)))) (inl := [201, 198, 204, 187]) (n' := 200) (sp := [238]) (o := []) rfl rfl ⟨rfl, rfl, rfl⟩ rfl ⟨Nat.le_of_eq hg.2.2.2.1, Nat.le_of_eq hg.2.2.2.2⟩ ⟨trivial, (Or.inr rfl)⟩
    have t7 := t5.tr t6
    have y46 := y_suc1 b46.1 (by omega)
    have G4 : vG ([(104, 4, false), (104, 5, false), (104, 7, false), (104, 8, false), (104, 9, false), (104, 10, false), (104, 21, false), (104, 46, false), (104, 47, false), (104, 48, false), (104, 49, false), (104, 50, false), (104, 51, false), (126, 0, true), (127, 0, true), (128, 0, true), (129, 0, true), (130, 0, true)], []) h (xsetI (xsetI (xsetI (xsetI h 104 49 ((xI h 104 49) + (Int32.ofInt (1)))) 129 (xI h 104 46).toNatClampNeg k) 104 46 ((xI h 104 46) + Int32.ofInt (1))) 104 50 (Int32.ofInt (1))) := vs50 (vs46 (vs129 G1 (by omega) (fun _ => rfl)) (by omega) rfl) (by decide) rfl
    obtain ⟨h2, e2⟩ : ∃ x, x = (xsetI (xsetI (xsetI (xsetI h 104 49 ((xI h 104 49) + (Int32.ofInt (1)))) 129 (xI h 104 46).toNatClampNeg k) 104 46 ((xI h 104 46) + Int32.ofInt (1))) 104 50 (Int32.ofInt (1))) := ⟨_, rfl⟩
    rw [← e2] at t7 G4
    have w7 : xI h2 104 7 = (xI h 104 7) := by rw [e2]; exact (yI_ne (by decide)).trans ((yI_ne (by decide)).trans ((yI_c (by decide)).trans (yI_ne (by decide))))
    have w21 : xI h2 104 21 = (xI h 104 21) := by rw [e2]; exact (yI_ne (by decide)).trans ((yI_ne (by decide)).trans ((yI_c (by decide)).trans (yI_ne (by decide))))
    have w46 : xI h2 104 46 = ((xI h 104 46) + Int32.ofInt (1)) := by rw [e2]; exact (yI_ne (by decide)).trans (yI_same)
    have w47 : xI h2 104 47 = (xI h 104 47) := by rw [e2]; exact (yI_ne (by decide)).trans ((yI_ne (by decide)).trans ((yI_c (by decide)).trans (yI_ne (by decide))))
    have w48 : xI h2 104 48 = (xI h 104 48) := by rw [e2]; exact (yI_ne (by decide)).trans ((yI_ne (by decide)).trans ((yI_c (by decide)).trans (yI_ne (by decide))))
    have w49 : xI h2 104 49 = ((xI h 104 49) + (Int32.ofInt (1))) := by rw [e2]; exact (yI_ne (by decide)).trans ((yI_ne (by decide)).trans ((yI_c (by decide)).trans (yI_same)))
    have w50 : xI h2 104 50 = (Int32.ofInt (1)) := by rw [e2]; exact yI_same
    have q129 : xI h2 129 (xI h 104 46).toNatClampNeg = k := by rw [e2]; exact (yI_c (by decide)).trans ((yI_c (by decide)).trans (yI_same))
    have o129 : ∀ i, i ≠ (xI h 104 46).toNatClampNeg → xI h2 129 i = xI h 129 i := fun i hi => by rw [e2]; exact (yI_c (by decide)).trans ((yI_c (by decide)).trans ((yI_ne (eq_false (fun z => hi z.2))).trans (yI_c (by decide))))
    have orow : ∀ c, c ≠ 104 → c ≠ 129 → ∀ i, xI h2 c i = xI h c i := fun c c1 c2 i => by rw [e2]; exact (yI_c (eq_false c1)).trans ((yI_c (eq_false c1)).trans ((yI_c (eq_false c2)).trans (yI_c (eq_false c1))))
    have H2 : vpi h2 f 0 := vpi_push (s := 1) (nb := 1) (nz := 0) (nn := 1) H0 b46.1 (by rw [w46]; exact y46) q129 (fun i hi => o129 i (by omega)) (by omega) (gb3 (by omega)) (gz1 (by omega)) (gn1 (by omega)) w47 (by decide) (by rw [w48]; omega) w21 (by rw [w49]; omega) (fun i => orow _ (by decide) (by decide) i) (fun c c1 c2 k => orow _ (by omega) (by omega) k)
    obtain ⟨r, c1, -, -, -⟩ := vh_rank l k h2 G4.1
    have t8 : XT l 3 110 false 207 153 6051 238 [xf 13 104, xi k] [xi k, xf 13 104] h2 241 [xf 13 104, xi k] [xi r, xf 13 104] h2 := XT_call (l := l) (fr := 3) (lo := 110) (full := false) (M := 207) (n := 153) (u := 6051) (pc := 238) (L := [xf 13 104, xi k]) (st := [xi k, xf 13 104]) (h := h2) (i := .invokestatic 209) (aux := 1) (nx := 241) (K := 209) (vs := [xi k]) (rs := [xi r]) (rest := [xf 13 104]) rfl rfl rfl rfl rfl rfl c1 (by decide) (by decide) (Nat.le_of_ble_eq_true rfl) ⟨Nat.le_of_eq G4.1.2.2.2.1, Nat.le_of_eq G4.1.2.2.2.2⟩
    have t9 := t7.tr t8
    by_cases c10 : (Int32.ofInt (3)) ≤ r
    · have t11 : XT l 3 110 false 207 153 6051 241 [xf 13 104, xi k] [xi r, xf 13 104] h2 254 [xf 13 104, xi k] [xf 13 104] (xsetI h2 104 51 (Int32.ofInt (0))) := XT_path (l := l) (fr := 3) (lo := 110) (full := false) (M := 207) (n := 153) (u := 6051) (pc := 241) (L := [xf 13 104, xi k]) (st := [xi r, xf 13 104]) (h := h2) (inl := [201, 198, 204, 187]) (n' := 200) (sp := [254]) (o := [1]) rfl rfl ⟨rfl, rfl, rfl⟩ rfl ⟨Nat.le_of_eq G4.1.2.2.2.1, Nat.le_of_eq G4.1.2.2.2.2⟩ ⟨⟨trivial, c10⟩, (Or.inl rfl)⟩
      have t12 := t9.tr t11
      obtain ⟨h4, e4⟩ : ∃ x, x = (xsetI h2 104 51 (Int32.ofInt (0))) := ⟨_, rfl⟩
      rw [← e4] at t12
      have P4 : vP f h h4 := by rw [e4]; exact ⟨vs51 G4 (by decide) rfl, fun c c1 c2 j hj => (yI_c (eq_false (by omega))).trans (orow c (by omega) (by omega) j)⟩
      have o51 : ∀ c j, ¬ (c = 104 ∧ j = 51) → xI h4 c j = xI h2 c j := fun c j z => by rw [e4]; exact yI_ne (eq_false z)
      have H4 : vps h4 f := by
        unfold vps
        rw [o51 104 50 (by decide), w50]
        exact vpi_fr H2 (o51 _ _ (by decide)) (o51 _ _ (by decide)) (o51 _ _ (by decide)) (o51 _ _ (by decide)) (o51 _ _ (by decide)) (fun c c1 c2 k => o51 _ _ (by omega))
      have M4 : vmle h4 (20 * (64 - (xI h 104 49).toInt) + (xI h 104 48).toInt - 1) := by
        unfold vmle
        rw [o51 104 50 (by decide), w50, o51 104 49 (by decide), w49, o51 104 48 (by decide), w48, show (Int32.ofInt (1)).toInt = 1 from rfl]
        exact ⟨fun _ => by omega, fun z => absurd z (by decide)⟩
      have S4 : xI h4 104 7 = xI h 104 7 := (o51 _ _ (by decide)).trans w7
      obtain ⟨h5, c5, g5, f5, w1, w2⟩ := vh_token l h4 P4.1.1
      have t13 : XT l 3 110 false 207 153 6051 254 [xf 13 104, xi k] [xf 13 104] h4 257 [xf 13 104, xi k] [] h5 := XT_call (l := l) (fr := 3) (lo := 110) (full := false) (M := 207) (n := 153) (u := 6051) (pc := 254) (L := [xf 13 104, xi k]) (st := [xf 13 104]) (h := h4) (i := .invokevirtual 180) (aux := 1) (nx := 257) (K := 180) (vs := [xf 13 104]) (rs := []) (rest := []) rfl rfl rfl rfl rfl rfl c5 (by decide) (by decide) (Nat.le_of_ble_eq_true rfl) ⟨Nat.le_of_eq g5.2.2.2.1, Nat.le_of_eq g5.2.2.2.2⟩
      have t14 := t12.tr t13
      have t15 : XT l 3 110 false 207 153 6051 257 [xf 13 104, xi k] [] h5 258 [xf 13 104, xi k] [xi (Int32.ofInt (1))] h5 := XT_path (l := l) (fr := 3) (lo := 110) (full := false) (M := 207) (n := 153) (u := 6051) (pc := 257) (L := [xf 13 104, xi k]) (st := []) (h := h5) (inl := [201, 198, 204, 187]) (n' := 200) (sp := [258]) (o := []) rfl rfl ⟨rfl, rfl, rfl⟩ rfl ⟨Nat.le_of_eq g5.2.2.2.1, Nat.le_of_eq g5.2.2.2.2⟩ trivial
      have t16 := t14.tr t15
      exact ⟨_, _, _, _, t16, ⟨_, _, _, rfl, rfl, rfl⟩, rfl, vSt_t P4 S4 H4 M4 g5 f5 w1 w2⟩
    · have t17 : XT l 3 110 false 207 153 6051 241 [xf 13 104, xi k] [xi r, xf 13 104] h2 254 [xf 13 104, xi k] [xf 13 104] (xsetI h2 104 51 (Int32.ofInt (1))) := XT_path (l := l) (fr := 3) (lo := 110) (full := false) (M := 207) (n := 153) (u := 6051) (pc := 241) (L := [xf 13 104, xi k]) (st := [xi r, xf 13 104]) (h := h2) (inl := [201, 198, 204, 187]) (n' := 200) (sp := [254]) (o := [0]) rfl rfl ⟨rfl, rfl, rfl⟩ rfl ⟨Nat.le_of_eq G4.1.2.2.2.1, Nat.le_of_eq G4.1.2.2.2.2⟩ ⟨⟨trivial, c10⟩, (Or.inr rfl)⟩
      have t18 := t9.tr t17
      obtain ⟨h4, e4⟩ : ∃ x, x = (xsetI h2 104 51 (Int32.ofInt (1))) := ⟨_, rfl⟩
      rw [← e4] at t18
      have P4 : vP f h h4 := by rw [e4]; exact ⟨vs51 G4 (by decide) rfl, fun c c1 c2 j hj => (yI_c (eq_false (by omega))).trans (orow c (by omega) (by omega) j)⟩
      have o51 : ∀ c j, ¬ (c = 104 ∧ j = 51) → xI h4 c j = xI h2 c j := fun c j z => by rw [e4]; exact yI_ne (eq_false z)
      have H4 : vps h4 f := by
        unfold vps
        rw [o51 104 50 (by decide), w50]
        exact vpi_fr H2 (o51 _ _ (by decide)) (o51 _ _ (by decide)) (o51 _ _ (by decide)) (o51 _ _ (by decide)) (o51 _ _ (by decide)) (fun c c1 c2 k => o51 _ _ (by omega))
      have M4 : vmle h4 (20 * (64 - (xI h 104 49).toInt) + (xI h 104 48).toInt - 1) := by
        unfold vmle
        rw [o51 104 50 (by decide), w50, o51 104 49 (by decide), w49, o51 104 48 (by decide), w48, show (Int32.ofInt (1)).toInt = 1 from rfl]
        exact ⟨fun _ => by omega, fun z => absurd z (by decide)⟩
      have S4 : xI h4 104 7 = xI h 104 7 := (o51 _ _ (by decide)).trans w7
      obtain ⟨h5, c5, g5, f5, w1, w2⟩ := vh_token l h4 P4.1.1
      have t19 : XT l 3 110 false 207 153 6051 254 [xf 13 104, xi k] [xf 13 104] h4 257 [xf 13 104, xi k] [] h5 := XT_call (l := l) (fr := 3) (lo := 110) (full := false) (M := 207) (n := 153) (u := 6051) (pc := 254) (L := [xf 13 104, xi k]) (st := [xf 13 104]) (h := h4) (i := .invokevirtual 180) (aux := 1) (nx := 257) (K := 180) (vs := [xf 13 104]) (rs := []) (rest := []) rfl rfl rfl rfl rfl rfl c5 (by decide) (by decide) (Nat.le_of_ble_eq_true rfl) ⟨Nat.le_of_eq g5.2.2.2.1, Nat.le_of_eq g5.2.2.2.2⟩
      have t20 := t18.tr t19
      have t21 : XT l 3 110 false 207 153 6051 257 [xf 13 104, xi k] [] h5 258 [xf 13 104, xi k] [xi (Int32.ofInt (1))] h5 := XT_path (l := l) (fr := 3) (lo := 110) (full := false) (M := 207) (n := 153) (u := 6051) (pc := 257) (L := [xf 13 104, xi k]) (st := []) (h := h5) (inl := [201, 198, 204, 187]) (n' := 200) (sp := [258]) (o := []) rfl rfl ⟨rfl, rfl, rfl⟩ rfl ⟨Nat.le_of_eq g5.2.2.2.1, Nat.le_of_eq g5.2.2.2.2⟩ trivial
      have t22 := t20.tr t21
      exact ⟨_, _, _, _, t22, ⟨_, _, _, rfl, rfl, rfl⟩, rfl, vSt_t P4 S4 H4 M4 g5 f5 w1 w2⟩
theorem vSt_pre {f M M' : Int} {h h1 h' : XH} {v : Int32} (P1 : vP f h h1) (e7 : xI h1 104 7 = xI h 104 7) (hM : M = M') (a : vSt f M h1 v h') : vSt f M' h v h' := by
  subst hM
  refine ⟨P1.tr a.1, a.2.1, fun z => ?_⟩
  obtain ⟨a1, a2, a3⟩ := a.2.2 z
  refine ⟨a1, a2, ?_⟩
  unfold vgw at a3 ⊢
  rw [e7] at a3
  exact a3
set_option maxRecDepth 100000 in
set_option maxHeartbeats 2000000 in
theorem vh_signs (l : Launch) (f : Int) (h : XH) (hg : sgood vT vR vE 153 6051 h) (H : vps h f) (hw : (xI h 104 50).toInt = 0) : ∃ v h', CX l 3 110 false 207 [xf 13 104] h [xi v] h' ∧ vSt f (20 * (64 - (xI h 104 49).toInt) + (xI h 104 48).toInt - 1) h v h' := by
  have b46 : 0 ≤ (xI h 104 46).toInt ∧ (xI h 104 46).toInt ≤ 72 := vbnd hg.1 104 46
  have b47 : 0 ≤ (xI h 104 47).toInt ∧ (xI h 104 47).toInt ≤ 64 := vbnd hg.1 104 47
  have b21 : 0 ≤ (xI h 104 21).toInt ∧ (xI h 104 21).toInt ≤ 64 := vbnd hg.1 104 21
  have b48 : 0 ≤ (xI h 104 48).toInt ∧ (xI h 104 48).toInt ≤ 8 := vbnd hg.1 104 48
  have b49 : 0 ≤ (xI h 104 49).toInt ∧ (xI h 104 49).toInt ≤ 64 := vbnd hg.1 104 49
  have b50 : 0 ≤ (xI h 104 50).toInt ∧ (xI h 104 50).toInt ≤ 1 := vbnd hg.1 104 50
  have H0 : vpi h f 1 := by
    unfold vps at H
    rw [hw] at H
    exact H
  have e0 : (0 : Int32).toInt = 0 := rfl
  have e5 : (Int32.ofInt (5)).toInt = 5 := rfl
  have key : (∃ L', L' = [xf 13 104, xun] ∧ XT l 3 110 false 207 153 6051 0 [xf 13 104, xun] [] h 16 L' [] h ∧ 0 < (xI h 104 48).toInt) ∨ (∃ k, XT l 3 110 false 207 153 6051 0 [xf 13 104, xun] [] h 148 [xf 13 104, xi k] [] h ∧ (k = 0 ∨ 3 ≤ k.toInt ∧ k.toInt ≤ 14)) := by
    by_cases c23 : (xI h 104 8) = (Int32.ofInt (4))
    · by_cases c24 : (xI h 104 9) = (Int32.ofInt (41))
      · by_cases c25 : (xI h 104 48) ≤ 0
        · have t26 : XT l 3 110 false 207 153 6051 0 [xf 13 104, xun] [] h 148 [xf 13 104, xi (Int32.ofInt (0))] [] h := XT_path (l := l) (fr := 3) (lo := 110) (full := false) (M := 207) (n := 153) (u := 6051) (pc := 0) (L := [xf 13 104, xun]) (st := []) (h := h) (inl := [201, 198, 204, 187]) (n' := 200) (sp := [148]) (o := [0, 0, 0, 1, 1, 1, 1, 1, 1, 0, 1, 1, 0, 1, 1, 0, 1, 1, 0, 1, 1]) rfl rfl ⟨rfl, rfl, rfl⟩ rfl ⟨Nat.le_of_eq hg.2.2.2.1, Nat.le_of_eq hg.2.2.2.2⟩ ⟨⟨⟨⟨⟨⟨⟨⟨⟨⟨⟨⟨⟨⟨⟨⟨⟨⟨⟨⟨⟨⟨⟨⟨⟨⟨⟨⟨trivial, c23⟩, c24⟩, (Or.inr rfl)⟩, (by decide)⟩, c25⟩, (fun z => absurd (c23.symm.trans z) (by decide))⟩, (Or.inl rfl)⟩, rfl⟩, (fun z => absurd (c23.symm.trans z) (by decide))⟩, (Or.inl rfl)⟩, rfl⟩, (fun z => absurd (c23.symm.trans z) (by decide))⟩, c23⟩, (fun z => absurd (c24.symm.trans z) (by decide))⟩, (Or.inl rfl)⟩, rfl⟩, c23⟩, (fun z => absurd (c24.symm.trans z) (by decide))⟩, (Or.inl rfl)⟩, rfl⟩, c23⟩, (fun z => absurd (c24.symm.trans z) (by decide))⟩, (Or.inl rfl)⟩, rfl⟩, c23⟩, (fun z => absurd (c24.symm.trans z) (by decide))⟩, (Or.inl rfl)⟩, rfl⟩
          exact Or.inr ⟨_, t26, Or.inl rfl⟩
        · have t27 : XT l 3 110 false 207 153 6051 0 [xf 13 104, xun] [] h 16 [xf 13 104, xun] [] h := XT_path (l := l) (fr := 3) (lo := 110) (full := false) (M := 207) (n := 153) (u := 6051) (pc := 0) (L := [xf 13 104, xun]) (st := []) (h := h) (inl := [201, 198, 204, 187]) (n' := 200) (sp := [16]) (o := [0, 0, 0, 0]) rfl rfl ⟨rfl, rfl, rfl⟩ rfl ⟨Nat.le_of_eq hg.2.2.2.1, Nat.le_of_eq hg.2.2.2.2⟩ ⟨⟨⟨⟨⟨trivial, c23⟩, c24⟩, (Or.inr rfl)⟩, (by decide)⟩, c25⟩
          have z0 : ¬ (xI h 104 48).toInt ≤ (0 : Int32).toInt := fun z => c25 (Int32.le_iff_toInt_le.mpr z)
          exact Or.inl ⟨_, rfl, t27, by omega⟩
      · by_cases c28 : (xI h 104 9) = (Int32.ofInt (43))
        · have t29 : XT l 3 110 false 207 153 6051 0 [xf 13 104, xun] [] h 148 [xf 13 104, xi (Int32.ofInt (11))] [] h := XT_path (l := l) (fr := 3) (lo := 110) (full := false) (M := 207) (n := 153) (u := 6051) (pc := 0) (L := [xf 13 104, xun]) (st := []) (h := h) (inl := [201, 198, 204, 187]) (n' := 200) (sp := [148]) (o := [0, 1, 1, 1, 1, 1, 1, 1, 0, 0, 0]) rfl rfl ⟨rfl, rfl, rfl⟩ rfl ⟨Nat.le_of_eq hg.2.2.2.1, Nat.le_of_eq hg.2.2.2.2⟩ ⟨⟨⟨⟨⟨⟨⟨⟨⟨⟨⟨⟨⟨⟨⟨trivial, c23⟩, c24⟩, (Or.inl rfl)⟩, rfl⟩, (fun z => absurd (c23.symm.trans z) (by decide))⟩, (Or.inl rfl)⟩, rfl⟩, (fun z => absurd (c23.symm.trans z) (by decide))⟩, (Or.inl rfl)⟩, rfl⟩, (fun z => absurd (c23.symm.trans z) (by decide))⟩, c23⟩, c28⟩, (Or.inr rfl)⟩, (by decide)⟩
          exact Or.inr ⟨_, t29, Or.inr (by decide)⟩
        · by_cases c30 : (xI h 104 9) = (Int32.ofInt (45))
          · have t31 : XT l 3 110 false 207 153 6051 0 [xf 13 104, xun] [] h 148 [xf 13 104, xi (Int32.ofInt (12))] [] h := XT_path (l := l) (fr := 3) (lo := 110) (full := false) (M := 207) (n := 153) (u := 6051) (pc := 0) (L := [xf 13 104, xun]) (st := []) (h := h) (inl := [201, 198, 204, 187]) (n' := 200) (sp := [148]) (o := [0, 1, 1, 1, 1, 1, 1, 1, 0, 1, 1, 0, 0, 0]) rfl rfl ⟨rfl, rfl, rfl⟩ rfl ⟨Nat.le_of_eq hg.2.2.2.1, Nat.le_of_eq hg.2.2.2.2⟩ ⟨⟨⟨⟨⟨⟨⟨⟨⟨⟨⟨⟨⟨⟨⟨⟨⟨⟨⟨trivial, c23⟩, c24⟩, (Or.inl rfl)⟩, rfl⟩, (fun z => absurd (c23.symm.trans z) (by decide))⟩, (Or.inl rfl)⟩, rfl⟩, (fun z => absurd (c23.symm.trans z) (by decide))⟩, (Or.inl rfl)⟩, rfl⟩, (fun z => absurd (c23.symm.trans z) (by decide))⟩, c23⟩, c28⟩, (Or.inl rfl)⟩, rfl⟩, c23⟩, c30⟩, (Or.inr rfl)⟩, (by decide)⟩
            exact Or.inr ⟨_, t31, Or.inr (by decide)⟩
          · by_cases c32 : (xI h 104 9) = (Int32.ofInt (42))
            · have t33 : XT l 3 110 false 207 153 6051 0 [xf 13 104, xun] [] h 148 [xf 13 104, xi (Int32.ofInt (13))] [] h := XT_path (l := l) (fr := 3) (lo := 110) (full := false) (M := 207) (n := 153) (u := 6051) (pc := 0) (L := [xf 13 104, xun]) (st := []) (h := h) (inl := [201, 198, 204, 187]) (n' := 200) (sp := [148]) (o := [0, 1, 1, 1, 1, 1, 1, 1, 0, 1, 1, 0, 1, 1, 0, 0, 0]) rfl rfl ⟨rfl, rfl, rfl⟩ rfl ⟨Nat.le_of_eq hg.2.2.2.1, Nat.le_of_eq hg.2.2.2.2⟩ ⟨⟨⟨⟨⟨⟨⟨⟨⟨⟨⟨⟨⟨⟨⟨⟨⟨⟨⟨⟨⟨⟨⟨trivial, c23⟩, c24⟩, (Or.inl rfl)⟩, rfl⟩, (fun z => absurd (c23.symm.trans z) (by decide))⟩, (Or.inl rfl)⟩, rfl⟩, (fun z => absurd (c23.symm.trans z) (by decide))⟩, (Or.inl rfl)⟩, rfl⟩, (fun z => absurd (c23.symm.trans z) (by decide))⟩, c23⟩, c28⟩, (Or.inl rfl)⟩, rfl⟩, c23⟩, c30⟩, (Or.inl rfl)⟩, rfl⟩, c23⟩, c32⟩, (Or.inr rfl)⟩, (by decide)⟩
              exact Or.inr ⟨_, t33, Or.inr (by decide)⟩
            · by_cases c34 : (xI h 104 9) = (Int32.ofInt (47))
              · have t35 : XT l 3 110 false 207 153 6051 0 [xf 13 104, xun] [] h 148 [xf 13 104, xi (Int32.ofInt (14))] [] h := XT_path (l := l) (fr := 3) (lo := 110) (full := false) (M := 207) (n := 153) (u := 6051) (pc := 0) (L := [xf 13 104, xun]) (st := []) (h := h) (inl := [201, 198, 204, 187]) (n' := 200) (sp := [148]) (o := [0, 1, 1, 1, 1, 1, 1, 1, 0, 1, 1, 0, 1, 1, 0, 1, 1, 0, 0, 0]) rfl rfl ⟨rfl, rfl, rfl⟩ rfl ⟨Nat.le_of_eq hg.2.2.2.1, Nat.le_of_eq hg.2.2.2.2⟩ ⟨⟨⟨⟨⟨⟨⟨⟨⟨⟨⟨⟨⟨⟨⟨⟨⟨⟨⟨⟨⟨⟨⟨⟨⟨⟨⟨trivial, c23⟩, c24⟩, (Or.inl rfl)⟩, rfl⟩, (fun z => absurd (c23.symm.trans z) (by decide))⟩, (Or.inl rfl)⟩, rfl⟩, (fun z => absurd (c23.symm.trans z) (by decide))⟩, (Or.inl rfl)⟩, rfl⟩, (fun z => absurd (c23.symm.trans z) (by decide))⟩, c23⟩, c28⟩, (Or.inl rfl)⟩, rfl⟩, c23⟩, c30⟩, (Or.inl rfl)⟩, rfl⟩, c23⟩, c32⟩, (Or.inl rfl)⟩, rfl⟩, c23⟩, c34⟩, (Or.inr rfl)⟩, (by decide)⟩
                exact Or.inr ⟨_, t35, Or.inr (by decide)⟩
              · have t36 : XT l 3 110 false 207 153 6051 0 [xf 13 104, xun] [] h 148 [xf 13 104, xi (Int32.ofInt (0))] [] h := XT_path (l := l) (fr := 3) (lo := 110) (full := false) (M := 207) (n := 153) (u := 6051) (pc := 0) (L := [xf 13 104, xun]) (st := []) (h := h) (inl := [201, 198, 204, 187]) (n' := 200) (sp := [148]) (o := [0, 1, 1, 1, 1, 1, 1, 1, 0, 1, 1, 0, 1, 1, 0, 1, 1, 0, 1, 1]) rfl rfl ⟨rfl, rfl, rfl⟩ rfl ⟨Nat.le_of_eq hg.2.2.2.1, Nat.le_of_eq hg.2.2.2.2⟩ ⟨⟨⟨⟨⟨⟨⟨⟨⟨⟨⟨⟨⟨⟨⟨⟨⟨⟨⟨⟨⟨⟨⟨⟨⟨⟨⟨trivial, c23⟩, c24⟩, (Or.inl rfl)⟩, rfl⟩, (fun z => absurd (c23.symm.trans z) (by decide))⟩, (Or.inl rfl)⟩, rfl⟩, (fun z => absurd (c23.symm.trans z) (by decide))⟩, (Or.inl rfl)⟩, rfl⟩, (fun z => absurd (c23.symm.trans z) (by decide))⟩, c23⟩, c28⟩, (Or.inl rfl)⟩, rfl⟩, c23⟩, c30⟩, (Or.inl rfl)⟩, rfl⟩, c23⟩, c32⟩, (Or.inl rfl)⟩, rfl⟩, c23⟩, c34⟩, (Or.inl rfl)⟩, rfl⟩
                exact Or.inr ⟨_, t36, Or.inl rfl⟩
    · by_cases c37 : (xI h 104 8) = (Int32.ofInt (1))
      · by_cases c38 : (xI h 104 9) = (Int32.ofInt (10))
        · have t39 : XT l 3 110 false 207 153 6051 0 [xf 13 104, xun] [] h 148 [xf 13 104, xi (Int32.ofInt (3))] [] h := XT_path (l := l) (fr := 3) (lo := 110) (full := false) (M := 207) (n := 153) (u := 6051) (pc := 0) (L := [xf 13 104, xun]) (st := []) (h := h) (inl := [201, 198, 204, 187]) (n' := 200) (sp := [148]) (o := [1, 1, 0, 0, 0]) rfl rfl ⟨rfl, rfl, rfl⟩ rfl ⟨Nat.le_of_eq hg.2.2.2.1, Nat.le_of_eq hg.2.2.2.2⟩ ⟨⟨⟨⟨⟨⟨⟨trivial, c23⟩, (Or.inl rfl)⟩, rfl⟩, c37⟩, c38⟩, (Or.inr rfl)⟩, (by decide)⟩
          exact Or.inr ⟨_, t39, Or.inr (by decide)⟩
        · by_cases c40 : (xI h 104 9) = (Int32.ofInt (11))
          · have t41 : XT l 3 110 false 207 153 6051 0 [xf 13 104, xun] [] h 148 [xf 13 104, xi (Int32.ofInt (4))] [] h := XT_path (l := l) (fr := 3) (lo := 110) (full := false) (M := 207) (n := 153) (u := 6051) (pc := 0) (L := [xf 13 104, xun]) (st := []) (h := h) (inl := [201, 198, 204, 187]) (n' := 200) (sp := [148]) (o := [1, 1, 0, 1, 1, 0, 0, 0]) rfl rfl ⟨rfl, rfl, rfl⟩ rfl ⟨Nat.le_of_eq hg.2.2.2.1, Nat.le_of_eq hg.2.2.2.2⟩ ⟨⟨⟨⟨⟨⟨⟨⟨⟨⟨⟨trivial, c23⟩, (Or.inl rfl)⟩, rfl⟩, c37⟩, c38⟩, (Or.inl rfl)⟩, rfl⟩, c37⟩, c40⟩, (Or.inr rfl)⟩, (by decide)⟩
            exact Or.inr ⟨_, t41, Or.inr (by decide)⟩
          · have t42 : XT l 3 110 false 207 153 6051 0 [xf 13 104, xun] [] h 148 [xf 13 104, xi (Int32.ofInt (0))] [] h := XT_path (l := l) (fr := 3) (lo := 110) (full := false) (M := 207) (n := 153) (u := 6051) (pc := 0) (L := [xf 13 104, xun]) (st := []) (h := h) (inl := [201, 198, 204, 187]) (n' := 200) (sp := [148]) (o := [1, 1, 0, 1, 1, 0, 1, 1, 1, 1, 1, 1, 1, 1, 1, 1, 1]) rfl rfl ⟨rfl, rfl, rfl⟩ rfl ⟨Nat.le_of_eq hg.2.2.2.1, Nat.le_of_eq hg.2.2.2.2⟩ ⟨⟨⟨⟨⟨⟨⟨⟨⟨⟨⟨⟨⟨⟨⟨⟨⟨⟨⟨⟨⟨⟨⟨⟨trivial, c23⟩, (Or.inl rfl)⟩, rfl⟩, c37⟩, c38⟩, (Or.inl rfl)⟩, rfl⟩, c37⟩, c40⟩, (Or.inl rfl)⟩, rfl⟩, (fun z => absurd (c37.symm.trans z) (by decide))⟩, c23⟩, (Or.inl rfl)⟩, rfl⟩, c23⟩, (Or.inl rfl)⟩, rfl⟩, c23⟩, (Or.inl rfl)⟩, rfl⟩, c23⟩, (Or.inl rfl)⟩, rfl⟩
            exact Or.inr ⟨_, t42, Or.inl rfl⟩
      · by_cases c43 : (xI h 104 8) = (Int32.ofInt (5))
        · have t44 : XT l 3 110 false 207 153 6051 0 [xf 13 104, xun] [] h 148 [xf 13 104, xi ((Int32.ofInt (5)) + (xI h 104 9))] [] h := XT_path (l := l) (fr := 3) (lo := 110) (full := false) (M := 207) (n := 153) (u := 6051) (pc := 0) (L := [xf 13 104, xun]) (st := []) (h := h) (inl := [201, 198, 204, 187]) (n' := 200) (sp := [148]) (o := [1, 1, 1, 1, 1, 1, 0]) rfl rfl ⟨rfl, rfl, rfl⟩ rfl ⟨Nat.le_of_eq hg.2.2.2.1, Nat.le_of_eq hg.2.2.2.2⟩ ⟨⟨⟨⟨⟨⟨⟨⟨⟨⟨trivial, c23⟩, (Or.inl rfl)⟩, rfl⟩, c37⟩, (Or.inl rfl)⟩, rfl⟩, c37⟩, (Or.inl rfl)⟩, rfl⟩, c43⟩
          have dk := vrel5 hg (veq ⟨by decide, by decide⟩ c43)
          have dn : ((Int32.ofInt (5)) + (xI h 104 9)).toInt = 5 + (xI h 104 9).toInt := by
            rw [Int32.toInt_add, e5]
            exact Int.bmod_eq_of_le (by omega) (by omega)
          exact Or.inr ⟨_, t44, Or.inr (by omega)⟩
        · have t45 : XT l 3 110 false 207 153 6051 0 [xf 13 104, xun] [] h 148 [xf 13 104, xi (Int32.ofInt (0))] [] h := XT_path (l := l) (fr := 3) (lo := 110) (full := false) (M := 207) (n := 153) (u := 6051) (pc := 0) (L := [xf 13 104, xun]) (st := []) (h := h) (inl := [201, 198, 204, 187]) (n' := 200) (sp := [148]) (o := [1, 1, 1, 1, 1, 1, 1, 1, 1, 1, 1, 1, 1, 1, 1]) rfl rfl ⟨rfl, rfl, rfl⟩ rfl ⟨Nat.le_of_eq hg.2.2.2.1, Nat.le_of_eq hg.2.2.2.2⟩ ⟨⟨⟨⟨⟨⟨⟨⟨⟨⟨⟨⟨⟨⟨⟨⟨⟨⟨⟨⟨⟨⟨trivial, c23⟩, (Or.inl rfl)⟩, rfl⟩, c37⟩, (Or.inl rfl)⟩, rfl⟩, c37⟩, (Or.inl rfl)⟩, rfl⟩, c43⟩, c23⟩, (Or.inl rfl)⟩, rfl⟩, c23⟩, (Or.inl rfl)⟩, rfl⟩, c23⟩, (Or.inl rfl)⟩, rfl⟩, c23⟩, (Or.inl rfl)⟩, rfl⟩
          exact Or.inr ⟨_, t45, Or.inl rfl⟩
  rcases key with ⟨L', eL, T0, hb⟩ | ⟨k, T0, hk⟩
  · subst eL
    have t46 : XT l 3 110 false 207 153 6051 16 [xf 13 104, xun] [] h 18 [xf 13 104, xun] [xi (Int32.ofInt (1)), xf 13 104] h := XT_path (l := l) (fr := 3) (lo := 110) (full := false) (M := 207) (n := 153) (u := 6051) (pc := 16) (L := [xf 13 104, xun]) (st := []) (h := h) (inl := [201, 198, 204, 187]) (n' := 200) (sp := [18]) (o := []) rfl rfl ⟨rfl, rfl, rfl⟩ rfl ⟨Nat.le_of_eq hg.2.2.2.1, Nat.le_of_eq hg.2.2.2.2⟩ trivial
    have t47 := T0.tr t46
    obtain ⟨h1, c1, P1, H1, o1, top⟩ := vh_bind l f (Int32.ofInt (1)) (by decide) h hg H0
    have d46 : 0 ≤ (xI h1 104 46).toInt ∧ (xI h1 104 46).toInt ≤ 72 := vbnd P1.1.1.1 104 46
    have d47 : 0 ≤ (xI h1 104 47).toInt ∧ (xI h1 104 47).toInt ≤ 64 := vbnd P1.1.1.1 104 47
    have d21 : 0 ≤ (xI h1 104 21).toInt ∧ (xI h1 104 21).toInt ≤ 64 := vbnd P1.1.1.1 104 21
    have d48 : 0 ≤ (xI h1 104 48).toInt ∧ (xI h1 104 48).toInt ≤ 8 := vbnd P1.1.1.1 104 48
    have d49 : 0 ≤ (xI h1 104 49).toInt ∧ (xI h1 104 49).toInt ≤ 64 := vbnd P1.1.1.1 104 49
    have d50 : 0 ≤ (xI h1 104 50).toInt ∧ (xI h1 104 50).toInt ≤ 1 := vbnd P1.1.1.1 104 50
    have q48 : xI h1 104 48 = xI h 104 48 := o1 48 (by decide) (by decide) (by decide)
    have q49 : xI h1 104 49 = xI h 104 49 := o1 49 (by decide) (by decide) (by decide)
    have q50 : xI h1 104 50 = xI h 104 50 := o1 50 (by decide) (by decide) (by decide)
    obtain ⟨i0, i1, i2, i3, i4, i5, i6, i7⟩ := id H1
    rw [q48] at i4
    have w1 : 1 ≤ (xI h1 104 46).toInt := by
      rcases (by omega : (xI h1 104 46).toInt = 0 ∨ 1 ≤ (xI h1 104 46).toInt) with z | z
      · rw [z] at i4
        have i4 : (xI h 104 48).toInt = 0 := i4
        omega
      · exact z
    have tp : (xI h1 129 ((xI h1 104 46).toInt.toNat - 1)).toInt = 0 := by
      rcases top rfl with z | z
      · omega
      · exact z
    have t48 : XT l 3 110 false 207 153 6051 18 [xf 13 104, xun] [xi (Int32.ofInt (1)), xf 13 104] h 21 [xf 13 104, xun] [] h1 := XT_call (l := l) (fr := 3) (lo := 110) (full := false) (M := 207) (n := 153) (u := 6051) (pc := 18) (L := [xf 13 104, xun]) (st := [xi (Int32.ofInt (1)), xf 13 104]) (h := h) (i := .invokevirtual 208) (aux := 2) (nx := 21) (K := 208) (vs := [xf 13 104, xi (Int32.ofInt (1))]) (rs := []) (rest := []) rfl rfl rfl rfl rfl rfl c1 (by decide) (by decide) (Nat.le_of_ble_eq_true rfl) ⟨Nat.le_of_eq P1.1.1.2.2.2.1, Nat.le_of_eq P1.1.1.2.2.2.2⟩
    have t49 := t47.tr t48
    have t50 : XT l 3 110 false 207 153 6051 21 [xf 13 104, xun] [] h1 42 [xf 13 104, xun] [xf 13 104] (xsetI (xsetI h1 104 46 ((xI h1 104 46) - (Int32.ofInt (1)))) 104 48 ((xI h1 104 48) - (Int32.ofInt (1)))) := XT_path (l := l) (fr := 3) (lo := 110) (full := false) (M := 207) (n := 153) (u := 6051) (pc := 21) (L := [xf 13 104, xun]) (st := []) (h := h1) (inl := [201, 198, 204, 187]) (n' := 200) (sp := [42]) (o := []) rfl rfl ⟨rfl, rfl, rfl⟩ rfl ⟨Nat.le_of_eq P1.1.1.2.2.2.1, Nat.le_of_eq P1.1.1.2.2.2.2⟩ trivial
    have t51 := t49.tr t50
    have y46 := y_pred d46.1 (by omega)
    have y48 := y_pred (k := xI h1 104 48) (by omega) (by omega)
    have G4 : vG ([(104, 4, false), (104, 5, false), (104, 7, false), (104, 8, false), (104, 9, false), (104, 10, false), (104, 21, false), (104, 46, false), (104, 47, false), (104, 48, false), (104, 49, false), (104, 50, false), (104, 51, false), (126, 0, true), (127, 0, true), (128, 0, true), (129, 0, true), (130, 0, true)], []) h1 (xsetI (xsetI h1 104 46 ((xI h1 104 46) - (Int32.ofInt (1)))) 104 48 ((xI h1 104 48) - (Int32.ofInt (1)))) := vs48 (vs46 (vG.rf P1.1.1) (by omega) rfl) (by rw [q48] at y48 ⊢; omega) rfl
    obtain ⟨h4, e4⟩ : ∃ x, x = (xsetI (xsetI h1 104 46 ((xI h1 104 46) - (Int32.ofInt (1)))) 104 48 ((xI h1 104 48) - (Int32.ofInt (1)))) := ⟨_, rfl⟩
    rw [← e4] at t51 G4
    have w7 : xI h4 104 7 = (xI h1 104 7) := by rw [e4]; exact (yI_ne (by decide)).trans (yI_ne (by decide))
    have w21 : xI h4 104 21 = (xI h1 104 21) := by rw [e4]; exact (yI_ne (by decide)).trans (yI_ne (by decide))
    have w46 : xI h4 104 46 = ((xI h1 104 46) - (Int32.ofInt (1))) := by rw [e4]; exact (yI_ne (by decide)).trans (yI_same)
    have w47 : xI h4 104 47 = (xI h1 104 47) := by rw [e4]; exact (yI_ne (by decide)).trans (yI_ne (by decide))
    have w48 : xI h4 104 48 = ((xI h1 104 48) - (Int32.ofInt (1))) := by rw [e4]; exact yI_same
    have w49 : xI h4 104 49 = (xI h1 104 49) := by rw [e4]; exact (yI_ne (by decide)).trans (yI_ne (by decide))
    have w50 : xI h4 104 50 = (xI h1 104 50) := by rw [e4]; exact (yI_ne (by decide)).trans (yI_ne (by decide))
    have orow : ∀ c, c ≠ 104 → ∀ i, xI h4 c i = xI h1 c i := fun c c1 i => by rw [e4]; exact (yI_c (eq_false c1)).trans (yI_c (eq_false c1))
    have P4 : vP f h h4 := P1.tr ⟨G4, fun c c1 c2 j hj => orow c (by omega) j⟩
    have H4 : vps h4 f := by
      unfold vps
      rw [w50, q50, hw]
      exact vpi_pop H1 w1 tp (by rw [w46]; exact y46) (fun i => orow _ (by decide) i) w47 (by rw [w48]; exact y48) w21 w49 (fun i => orow _ (by decide) i) (fun c c1 c2 k => orow _ (by omega) k)
    have M4 : vmle h4 (20 * (64 - (xI h 104 49).toInt) + (xI h 104 48).toInt - 1) := by
      unfold vmle
      rw [w50, q50, hw, w49, q49, w48, y48, q48]
      exact ⟨fun z => absurd z (by decide), fun _ => by omega⟩
    have S4 : xI h4 104 7 = xI h 104 7 := w7.trans (o1 7 (by decide) (by decide) (by decide))
    obtain ⟨h5, c5, g5, f5, w1, w2⟩ := vh_token l h4 P4.1.1
    have t52 : XT l 3 110 false 207 153 6051 42 [xf 13 104, xun] [xf 13 104] h4 45 [xf 13 104, xun] [] h5 := XT_call (l := l) (fr := 3) (lo := 110) (full := false) (M := 207) (n := 153) (u := 6051) (pc := 42) (L := [xf 13 104, xun]) (st := [xf 13 104]) (h := h4) (i := .invokevirtual 180) (aux := 1) (nx := 45) (K := 180) (vs := [xf 13 104]) (rs := []) (rest := []) rfl rfl rfl rfl rfl rfl c5 (by decide) (by decide) (Nat.le_of_ble_eq_true rfl) ⟨Nat.le_of_eq g5.2.2.2.1, Nat.le_of_eq g5.2.2.2.2⟩
    have t53 := t51.tr t52
    have t54 : XT l 3 110 false 207 153 6051 45 [xf 13 104, xun] [] h5 46 [xf 13 104, xun] [xi (Int32.ofInt (1))] h5 := XT_path (l := l) (fr := 3) (lo := 110) (full := false) (M := 207) (n := 153) (u := 6051) (pc := 45) (L := [xf 13 104, xun]) (st := []) (h := h5) (inl := [201, 198, 204, 187]) (n' := 200) (sp := [46]) (o := []) rfl rfl ⟨rfl, rfl, rfl⟩ rfl ⟨Nat.le_of_eq g5.2.2.2.1, Nat.le_of_eq g5.2.2.2.2⟩ trivial
    have t55 := t53.tr t54
    exact ⟨_, _, CX_ofT (h' := h5) (by decide) rfl rfl ⟨trivial, Or.inr rfl⟩ ⟨_, _, _, rfl, rfl, rfl⟩ rfl ⟨Nat.le_of_eq g5.2.2.2.1.symm, Nat.le_of_eq g5.2.2.2.2.symm⟩ t55, vSt_t P4 S4 H4 M4 g5 f5 w1 w2⟩
  · have ee : (0 : Int32).toInt = 0 := rfl
    by_cases c56 : k = 0
    · have t57 : XT l 3 110 false 207 153 6051 148 [xf 13 104, xi k] [] h 157 [xf 13 104, xi k] [xi (Int32.ofInt (0))] (xsetI (xsetI h 104 4 (Int32.ofInt (1))) 104 5 (xI h 104 10)) := XT_path (l := l) (fr := 3) (lo := 110) (full := false) (M := 207) (n := 153) (u := 6051) (pc := 148) (L := [xf 13 104, xi k]) (st := []) (h := h) (inl := [201, 198, 204, 187]) (n' := 200) (sp := [157]) (o := [0]) rfl rfl ⟨rfl, rfl, rfl⟩ rfl ⟨Nat.le_of_eq hg.2.2.2.1, Nat.le_of_eq hg.2.2.2.2⟩ ⟨⟨trivial, c56⟩, (Or.inl rfl)⟩
      have t58 := T0.tr t57
      exact ⟨_, _, CX_ofT (h' := (xsetI (xsetI h 104 4 (Int32.ofInt (1))) 104 5 (xI h 104 10))) (by decide) rfl rfl ⟨trivial, Or.inl rfl⟩ ⟨_, _, _, rfl, rfl, rfl⟩ rfl ⟨Nat.le_of_eq hg.2.2.2.1.symm, Nat.le_of_eq hg.2.2.2.2.symm⟩ t58, vSt_0 (vPw hg (by decide))⟩
    · have kk : 3 ≤ k.toInt ∧ k.toInt ≤ 14 := hk.resolve_left c56
      have t59 : XT l 3 110 false 207 153 6051 148 [xf 13 104, xi k] [] h 160 [xf 13 104, xi k] [xi k, xf 13 104] h := XT_path (l := l) (fr := 3) (lo := 110) (full := false) (M := 207) (n := 153) (u := 6051) (pc := 148) (L := [xf 13 104, xi k]) (st := []) (h := h) (inl := [201, 198, 204, 187]) (n' := 200) (sp := [160]) (o := [1]) rfl rfl ⟨rfl, rfl, rfl⟩ rfl ⟨Nat.le_of_eq hg.2.2.2.1, Nat.le_of_eq hg.2.2.2.2⟩ ⟨trivial, c56⟩
      have t60 := T0.tr t59
      obtain ⟨r61, cr61, r61a, r61b, r61c⟩ := vh_rank l k h hg
      have t62 : XT l 3 110 false 207 153 6051 160 [xf 13 104, xi k] [xi k, xf 13 104] h 163 [xf 13 104, xi k] [xi r61, xf 13 104] h := XT_call (l := l) (fr := 3) (lo := 110) (full := false) (M := 207) (n := 153) (u := 6051) (pc := 160) (L := [xf 13 104, xi k]) (st := [xi k, xf 13 104]) (h := h) (i := .invokestatic 209) (aux := 1) (nx := 163) (K := 209) (vs := [xi k]) (rs := [xi r61]) (rest := [xf 13 104]) rfl rfl rfl rfl rfl rfl cr61 (by decide) (by decide) (Nat.le_of_ble_eq_true rfl) ⟨Nat.le_of_eq hg.2.2.2.1, Nat.le_of_eq hg.2.2.2.2⟩
      have t63 := t60.tr t62
      by_cases c64 : r61 = (Int32.ofInt (4))
      · have t65 : XT l 3 110 false 207 153 6051 163 [xf 13 104, xi k] [xi r61, xf 13 104] h 175 [xf 13 104, xi k] [xi (Int32.ofInt (5)), xf 13 104] h := XT_path (l := l) (fr := 3) (lo := 110) (full := false) (M := 207) (n := 153) (u := 6051) (pc := 163) (L := [xf 13 104, xi k]) (st := [xi r61, xf 13 104]) (h := h) (inl := [201, 198, 204, 187]) (n' := 200) (sp := [175]) (o := [0]) rfl rfl ⟨rfl, rfl, rfl⟩ rfl ⟨Nat.le_of_eq hg.2.2.2.1, Nat.le_of_eq hg.2.2.2.2⟩ ⟨trivial, c64⟩
        have t66 := t63.tr t65
        obtain ⟨h1, c1, P1, H1, o1, -⟩ := vh_bind l f (Int32.ofInt (5)) (by first | decide | omega) h hg H0
        have d46 : 0 ≤ (xI h1 104 46).toInt ∧ (xI h1 104 46).toInt ≤ 72 := vbnd P1.1.1.1 104 46
        have y46 := y_pred d46.1 (by omega)
        have t67 : XT l 3 110 false 207 153 6051 175 [xf 13 104, xi k] [xi (Int32.ofInt (5)), xf 13 104] h 178 [xf 13 104, xi k] [] h1 := XT_call (l := l) (fr := 3) (lo := 110) (full := false) (M := 207) (n := 153) (u := 6051) (pc := 175) (L := [xf 13 104, xi k]) (st := [xi (Int32.ofInt (5)), xf 13 104]) (h := h) (i := .invokevirtual 208) (aux := 2) (nx := 178) (K := 208) (vs := [xf 13 104, xi (Int32.ofInt (5))]) (rs := []) (rest := []) rfl rfl rfl rfl rfl rfl c1 (by decide) (by decide) (Nat.le_of_ble_eq_true rfl) ⟨Nat.le_of_eq P1.1.1.2.2.2.1, Nat.le_of_eq P1.1.1.2.2.2.2⟩
        have t68 := t66.tr t67
        have t69 : XT l 3 110 false 207 153 6051 178 [xf 13 104, xi k] [] h1 179 [xf 13 104, xi k] [xi k] h1 := XT_path (l := l) (fr := 3) (lo := 110) (full := false) (M := 207) (n := 153) (u := 6051) (pc := 178) (L := [xf 13 104, xi k]) (st := []) (h := h1) (inl := [201, 198, 204, 187]) (n' := 200) (sp := [179]) (o := []) rfl rfl ⟨rfl, rfl, rfl⟩ rfl ⟨Nat.le_of_eq P1.1.1.2.2.2.1, Nat.le_of_eq P1.1.1.2.2.2.2⟩ trivial
        have t70 := t68.tr t69
        obtain ⟨r71, cr71, r71a, r71b, r71c⟩ := vh_rank l k h1 P1.1.1
        have t72 : XT l 3 110 false 207 153 6051 179 [xf 13 104, xi k] [xi k] h1 182 [xf 13 104, xi k] [xi r71] h1 := XT_call (l := l) (fr := 3) (lo := 110) (full := false) (M := 207) (n := 153) (u := 6051) (pc := 179) (L := [xf 13 104, xi k]) (st := [xi k]) (h := h1) (i := .invokestatic 209) (aux := 1) (nx := 182) (K := 209) (vs := [xi k]) (rs := [xi r71]) (rest := []) rfl rfl rfl rfl rfl rfl cr71 (by decide) (by decide) (Nat.le_of_ble_eq_true rfl) ⟨Nat.le_of_eq P1.1.1.2.2.2.1, Nat.le_of_eq P1.1.1.2.2.2.2⟩
        have t73 := t70.tr t72
        by_cases c74 : r71 = (Int32.ofInt (4))
        · by_cases c75 : (xI h1 104 46) ≤ 0
          · have t76 : XT l 3 110 false 207 153 6051 182 [xf 13 104, xi k] [xi r71] h1 217 [xf 13 104, xi k] [] h1 := XT_path (l := l) (fr := 3) (lo := 110) (full := false) (M := 207) (n := 153) (u := 6051) (pc := 182) (L := [xf 13 104, xi k]) (st := [xi r71]) (h := h1) (inl := [201, 198, 204, 187]) (n' := 200) (sp := [217]) (o := [0, 1]) rfl rfl ⟨rfl, rfl, rfl⟩ rfl ⟨Nat.le_of_eq P1.1.1.2.2.2.1, Nat.le_of_eq P1.1.1.2.2.2.2⟩ ⟨⟨trivial, c74⟩, c75⟩
            have t77 := t73.tr t76
            obtain ⟨v, pc, L', h', z1, z2, z3, z4⟩ := vh_signsT l f k kk h1 P1.1.1 H1 (by rw [o1 50 (by decide) (by decide) (by decide)]; exact hw)
            exact ⟨v, h', CX_ofT (by decide) rfl rfl ⟨trivial, z4.2.1⟩ z2 z3 ⟨Nat.le_of_eq z4.1.1.1.2.2.2.1.symm, Nat.le_of_eq z4.1.1.1.2.2.2.2.symm⟩ (t77.tr z1), vSt_pre P1 (o1 7 (by decide) (by decide) (by decide)) (by rw [o1 49 (by decide) (by decide) (by decide), o1 48 (by decide) (by decide) (by decide)]) z4⟩
          · have d0 : ¬ (xI h1 104 46).toInt ≤ (0 : Int32).toInt := fun z => c75 (Int32.le_iff_toInt_le.mpr z)
            have t78 : XT l 3 110 false 207 153 6051 182 [xf 13 104, xi k] [xi r71] h1 204 [xf 13 104, xi k] [xi (xI h1 (xR h1 104 44) (((xI h1 104 46) - (Int32.ofInt (1)))).toNatClampNeg)] h1 := XT_path (l := l) (fr := 3) (lo := 110) (full := false) (M := 207) (n := 153) (u := 6051) (pc := 182) (L := [xf 13 104, xi k]) (st := [xi r71]) (h := h1) (inl := [201, 198, 204, 187]) (n' := 200) (sp := [204]) (o := [0, 0]) rfl rfl ⟨rfl, rfl, rfl⟩ rfl ⟨Nat.le_of_eq P1.1.1.2.2.2.1, Nat.le_of_eq P1.1.1.2.2.2.2⟩ ⟨⟨⟨⟨trivial, c74⟩, c75⟩, (vnn P1.1.1.1 (rfl : vRf 104 44 = [129]) (by decide))⟩, (vp_of (i := ((xI h1 104 46) - (Int32.ofInt (1)))) (n := 96) (by omega) (by omega))⟩
            rw [vref P1.1.1.1 (rfl : vRf 104 44 = [129])] at t78
            have t79 := t73.tr t78
            obtain ⟨r80, cr80, r80a, r80b, r80c⟩ := vh_rank l (xI h1 129 (((xI h1 104 46) - (Int32.ofInt (1)))).toNatClampNeg) h1 P1.1.1
            have t81 : XT l 3 110 false 207 153 6051 204 [xf 13 104, xi k] [xi (xI h1 129 (((xI h1 104 46) - (Int32.ofInt (1)))).toNatClampNeg)] h1 207 [xf 13 104, xi k] [xi r80] h1 := XT_call (l := l) (fr := 3) (lo := 110) (full := false) (M := 207) (n := 153) (u := 6051) (pc := 204) (L := [xf 13 104, xi k]) (st := [xi (xI h1 129 (((xI h1 104 46) - (Int32.ofInt (1)))).toNatClampNeg)]) (h := h1) (i := .invokestatic 209) (aux := 1) (nx := 207) (K := 209) (vs := [xi (xI h1 129 (((xI h1 104 46) - (Int32.ofInt (1)))).toNatClampNeg)]) (rs := [xi r80]) (rest := []) rfl rfl rfl rfl rfl rfl cr80 (by decide) (by decide) (Nat.le_of_ble_eq_true rfl) ⟨Nat.le_of_eq P1.1.1.2.2.2.1, Nat.le_of_eq P1.1.1.2.2.2.2⟩
            have t82 := t79.tr t81
            by_cases c83 : r80 = (Int32.ofInt (4))
            · have t84 : XT l 3 110 false 207 153 6051 207 [xf 13 104, xi k] [xi r80] h1 216 [xf 13 104, xi k] [xi (Int32.ofInt (0))] (xsetI (xsetI h1 104 4 (Int32.ofInt (1))) 104 5 (xI h1 104 10)) := XT_path (l := l) (fr := 3) (lo := 110) (full := false) (M := 207) (n := 153) (u := 6051) (pc := 207) (L := [xf 13 104, xi k]) (st := [xi r80]) (h := h1) (inl := [201, 198, 204, 187]) (n' := 200) (sp := [216]) (o := [0]) rfl rfl ⟨rfl, rfl, rfl⟩ rfl ⟨Nat.le_of_eq P1.1.1.2.2.2.1, Nat.le_of_eq P1.1.1.2.2.2.2⟩ ⟨⟨trivial, c83⟩, (Or.inl rfl)⟩
              have t85 := t82.tr t84
              exact ⟨_, _, CX_ofT (h' := (xsetI (xsetI h1 104 4 (Int32.ofInt (1))) 104 5 (xI h1 104 10))) (by decide) rfl rfl ⟨trivial, Or.inl rfl⟩ ⟨_, _, _, rfl, rfl, rfl⟩ rfl ⟨Nat.le_of_eq P1.1.1.2.2.2.1.symm, Nat.le_of_eq P1.1.1.2.2.2.2.symm⟩ t85, vSt_0 (P1.tr (vPw P1.1.1 (by decide)))⟩
            · have t86 : XT l 3 110 false 207 153 6051 207 [xf 13 104, xi k] [xi r80] h1 217 [xf 13 104, xi k] [] h1 := XT_path (l := l) (fr := 3) (lo := 110) (full := false) (M := 207) (n := 153) (u := 6051) (pc := 207) (L := [xf 13 104, xi k]) (st := [xi r80]) (h := h1) (inl := [201, 198, 204, 187]) (n' := 200) (sp := [217]) (o := [1]) rfl rfl ⟨rfl, rfl, rfl⟩ rfl ⟨Nat.le_of_eq P1.1.1.2.2.2.1, Nat.le_of_eq P1.1.1.2.2.2.2⟩ ⟨trivial, c83⟩
              have t87 := t82.tr t86
              obtain ⟨v, pc, L', h', z1, z2, z3, z4⟩ := vh_signsT l f k kk h1 P1.1.1 H1 (by rw [o1 50 (by decide) (by decide) (by decide)]; exact hw)
              exact ⟨v, h', CX_ofT (by decide) rfl rfl ⟨trivial, z4.2.1⟩ z2 z3 ⟨Nat.le_of_eq z4.1.1.1.2.2.2.1.symm, Nat.le_of_eq z4.1.1.1.2.2.2.2.symm⟩ (t87.tr z1), vSt_pre P1 (o1 7 (by decide) (by decide) (by decide)) (by rw [o1 49 (by decide) (by decide) (by decide), o1 48 (by decide) (by decide) (by decide)]) z4⟩
        · have t88 : XT l 3 110 false 207 153 6051 182 [xf 13 104, xi k] [xi r71] h1 217 [xf 13 104, xi k] [] h1 := XT_path (l := l) (fr := 3) (lo := 110) (full := false) (M := 207) (n := 153) (u := 6051) (pc := 182) (L := [xf 13 104, xi k]) (st := [xi r71]) (h := h1) (inl := [201, 198, 204, 187]) (n' := 200) (sp := [217]) (o := [1]) rfl rfl ⟨rfl, rfl, rfl⟩ rfl ⟨Nat.le_of_eq P1.1.1.2.2.2.1, Nat.le_of_eq P1.1.1.2.2.2.2⟩ ⟨trivial, c74⟩
          have t89 := t73.tr t88
          obtain ⟨v, pc, L', h', z1, z2, z3, z4⟩ := vh_signsT l f k kk h1 P1.1.1 H1 (by rw [o1 50 (by decide) (by decide) (by decide)]; exact hw)
          exact ⟨v, h', CX_ofT (by decide) rfl rfl ⟨trivial, z4.2.1⟩ z2 z3 ⟨Nat.le_of_eq z4.1.1.1.2.2.2.1.symm, Nat.le_of_eq z4.1.1.1.2.2.2.2.symm⟩ (t89.tr z1), vSt_pre P1 (o1 7 (by decide) (by decide) (by decide)) (by rw [o1 49 (by decide) (by decide) (by decide), o1 48 (by decide) (by decide) (by decide)]) z4⟩
      · have t90 : XT l 3 110 false 207 153 6051 163 [xf 13 104, xi k] [xi r61, xf 13 104] h 172 [xf 13 104, xi k] [xi k, xf 13 104] h := XT_path (l := l) (fr := 3) (lo := 110) (full := false) (M := 207) (n := 153) (u := 6051) (pc := 163) (L := [xf 13 104, xi k]) (st := [xi r61, xf 13 104]) (h := h) (inl := [201, 198, 204, 187]) (n' := 200) (sp := [172]) (o := [1]) rfl rfl ⟨rfl, rfl, rfl⟩ rfl ⟨Nat.le_of_eq hg.2.2.2.1, Nat.le_of_eq hg.2.2.2.2⟩ ⟨trivial, c64⟩
        have t91 := t63.tr t90
        obtain ⟨r92, cr92, r92a, r92b, r92c⟩ := vh_rank l k h hg
        have t93 : XT l 3 110 false 207 153 6051 172 [xf 13 104, xi k] [xi k, xf 13 104] h 175 [xf 13 104, xi k] [xi r92, xf 13 104] h := XT_call (l := l) (fr := 3) (lo := 110) (full := false) (M := 207) (n := 153) (u := 6051) (pc := 172) (L := [xf 13 104, xi k]) (st := [xi k, xf 13 104]) (h := h) (i := .invokestatic 209) (aux := 1) (nx := 175) (K := 209) (vs := [xi k]) (rs := [xi r92]) (rest := [xf 13 104]) rfl rfl rfl rfl rfl rfl cr92 (by decide) (by decide) (Nat.le_of_ble_eq_true rfl) ⟨Nat.le_of_eq hg.2.2.2.1, Nat.le_of_eq hg.2.2.2.2⟩
        have t94 := t91.tr t93
        obtain ⟨h1, c1, P1, H1, o1, -⟩ := vh_bind l f r92 (by first | decide | omega) h hg H0
        have d46 : 0 ≤ (xI h1 104 46).toInt ∧ (xI h1 104 46).toInt ≤ 72 := vbnd P1.1.1.1 104 46
        have y46 := y_pred d46.1 (by omega)
        have t95 : XT l 3 110 false 207 153 6051 175 [xf 13 104, xi k] [xi r92, xf 13 104] h 178 [xf 13 104, xi k] [] h1 := XT_call (l := l) (fr := 3) (lo := 110) (full := false) (M := 207) (n := 153) (u := 6051) (pc := 175) (L := [xf 13 104, xi k]) (st := [xi r92, xf 13 104]) (h := h) (i := .invokevirtual 208) (aux := 2) (nx := 178) (K := 208) (vs := [xf 13 104, xi r92]) (rs := []) (rest := []) rfl rfl rfl rfl rfl rfl c1 (by decide) (by decide) (Nat.le_of_ble_eq_true rfl) ⟨Nat.le_of_eq P1.1.1.2.2.2.1, Nat.le_of_eq P1.1.1.2.2.2.2⟩
        have t96 := t94.tr t95
        have t97 : XT l 3 110 false 207 153 6051 178 [xf 13 104, xi k] [] h1 179 [xf 13 104, xi k] [xi k] h1 := XT_path (l := l) (fr := 3) (lo := 110) (full := false) (M := 207) (n := 153) (u := 6051) (pc := 178) (L := [xf 13 104, xi k]) (st := []) (h := h1) (inl := [201, 198, 204, 187]) (n' := 200) (sp := [179]) (o := []) rfl rfl ⟨rfl, rfl, rfl⟩ rfl ⟨Nat.le_of_eq P1.1.1.2.2.2.1, Nat.le_of_eq P1.1.1.2.2.2.2⟩ trivial
        have t98 := t96.tr t97
        obtain ⟨r99, cr99, r99a, r99b, r99c⟩ := vh_rank l k h1 P1.1.1
        have t100 : XT l 3 110 false 207 153 6051 179 [xf 13 104, xi k] [xi k] h1 182 [xf 13 104, xi k] [xi r99] h1 := XT_call (l := l) (fr := 3) (lo := 110) (full := false) (M := 207) (n := 153) (u := 6051) (pc := 179) (L := [xf 13 104, xi k]) (st := [xi k]) (h := h1) (i := .invokestatic 209) (aux := 1) (nx := 182) (K := 209) (vs := [xi k]) (rs := [xi r99]) (rest := []) rfl rfl rfl rfl rfl rfl cr99 (by decide) (by decide) (Nat.le_of_ble_eq_true rfl) ⟨Nat.le_of_eq P1.1.1.2.2.2.1, Nat.le_of_eq P1.1.1.2.2.2.2⟩
        have t101 := t98.tr t100
        by_cases c102 : r99 = (Int32.ofInt (4))
        · by_cases c103 : (xI h1 104 46) ≤ 0
          · have t104 : XT l 3 110 false 207 153 6051 182 [xf 13 104, xi k] [xi r99] h1 217 [xf 13 104, xi k] [] h1 := XT_path (l := l) (fr := 3) (lo := 110) (full := false) (M := 207) (n := 153) (u := 6051) (pc := 182) (L := [xf 13 104, xi k]) (st := [xi r99]) (h := h1) (inl := [201, 198, 204, 187]) (n' := 200) (sp := [217]) (o := [0, 1]) rfl rfl ⟨rfl, rfl, rfl⟩ rfl ⟨Nat.le_of_eq P1.1.1.2.2.2.1, Nat.le_of_eq P1.1.1.2.2.2.2⟩ ⟨⟨trivial, c102⟩, c103⟩
            have t105 := t101.tr t104
            obtain ⟨v, pc, L', h', z1, z2, z3, z4⟩ := vh_signsT l f k kk h1 P1.1.1 H1 (by rw [o1 50 (by decide) (by decide) (by decide)]; exact hw)
            exact ⟨v, h', CX_ofT (by decide) rfl rfl ⟨trivial, z4.2.1⟩ z2 z3 ⟨Nat.le_of_eq z4.1.1.1.2.2.2.1.symm, Nat.le_of_eq z4.1.1.1.2.2.2.2.symm⟩ (t105.tr z1), vSt_pre P1 (o1 7 (by decide) (by decide) (by decide)) (by rw [o1 49 (by decide) (by decide) (by decide), o1 48 (by decide) (by decide) (by decide)]) z4⟩
          · have d0 : ¬ (xI h1 104 46).toInt ≤ (0 : Int32).toInt := fun z => c103 (Int32.le_iff_toInt_le.mpr z)
            have t106 : XT l 3 110 false 207 153 6051 182 [xf 13 104, xi k] [xi r99] h1 204 [xf 13 104, xi k] [xi (xI h1 (xR h1 104 44) (((xI h1 104 46) - (Int32.ofInt (1)))).toNatClampNeg)] h1 := XT_path (l := l) (fr := 3) (lo := 110) (full := false) (M := 207) (n := 153) (u := 6051) (pc := 182) (L := [xf 13 104, xi k]) (st := [xi r99]) (h := h1) (inl := [201, 198, 204, 187]) (n' := 200) (sp := [204]) (o := [0, 0]) rfl rfl ⟨rfl, rfl, rfl⟩ rfl ⟨Nat.le_of_eq P1.1.1.2.2.2.1, Nat.le_of_eq P1.1.1.2.2.2.2⟩ ⟨⟨⟨⟨trivial, c102⟩, c103⟩, (vnn P1.1.1.1 (rfl : vRf 104 44 = [129]) (by decide))⟩, (vp_of (i := ((xI h1 104 46) - (Int32.ofInt (1)))) (n := 96) (by omega) (by omega))⟩
            rw [vref P1.1.1.1 (rfl : vRf 104 44 = [129])] at t106
            have t107 := t101.tr t106
            obtain ⟨r108, cr108, r108a, r108b, r108c⟩ := vh_rank l (xI h1 129 (((xI h1 104 46) - (Int32.ofInt (1)))).toNatClampNeg) h1 P1.1.1
            have t109 : XT l 3 110 false 207 153 6051 204 [xf 13 104, xi k] [xi (xI h1 129 (((xI h1 104 46) - (Int32.ofInt (1)))).toNatClampNeg)] h1 207 [xf 13 104, xi k] [xi r108] h1 := XT_call (l := l) (fr := 3) (lo := 110) (full := false) (M := 207) (n := 153) (u := 6051) (pc := 204) (L := [xf 13 104, xi k]) (st := [xi (xI h1 129 (((xI h1 104 46) - (Int32.ofInt (1)))).toNatClampNeg)]) (h := h1) (i := .invokestatic 209) (aux := 1) (nx := 207) (K := 209) (vs := [xi (xI h1 129 (((xI h1 104 46) - (Int32.ofInt (1)))).toNatClampNeg)]) (rs := [xi r108]) (rest := []) rfl rfl rfl rfl rfl rfl cr108 (by decide) (by decide) (Nat.le_of_ble_eq_true rfl) ⟨Nat.le_of_eq P1.1.1.2.2.2.1, Nat.le_of_eq P1.1.1.2.2.2.2⟩
            have t110 := t107.tr t109
            by_cases c111 : r108 = (Int32.ofInt (4))
            · have t112 : XT l 3 110 false 207 153 6051 207 [xf 13 104, xi k] [xi r108] h1 216 [xf 13 104, xi k] [xi (Int32.ofInt (0))] (xsetI (xsetI h1 104 4 (Int32.ofInt (1))) 104 5 (xI h1 104 10)) := XT_path (l := l) (fr := 3) (lo := 110) (full := false) (M := 207) (n := 153) (u := 6051) (pc := 207) (L := [xf 13 104, xi k]) (st := [xi r108]) (h := h1) (inl := [201, 198, 204, 187]) (n' := 200) (sp := [216]) (o := [0]) rfl rfl ⟨rfl, rfl, rfl⟩ rfl ⟨Nat.le_of_eq P1.1.1.2.2.2.1, Nat.le_of_eq P1.1.1.2.2.2.2⟩ ⟨⟨trivial, c111⟩, (Or.inl rfl)⟩
              have t113 := t110.tr t112
              exact ⟨_, _, CX_ofT (h' := (xsetI (xsetI h1 104 4 (Int32.ofInt (1))) 104 5 (xI h1 104 10))) (by decide) rfl rfl ⟨trivial, Or.inl rfl⟩ ⟨_, _, _, rfl, rfl, rfl⟩ rfl ⟨Nat.le_of_eq P1.1.1.2.2.2.1.symm, Nat.le_of_eq P1.1.1.2.2.2.2.symm⟩ t113, vSt_0 (P1.tr (vPw P1.1.1 (by decide)))⟩
            · have t114 : XT l 3 110 false 207 153 6051 207 [xf 13 104, xi k] [xi r108] h1 217 [xf 13 104, xi k] [] h1 := XT_path (l := l) (fr := 3) (lo := 110) (full := false) (M := 207) (n := 153) (u := 6051) (pc := 207) (L := [xf 13 104, xi k]) (st := [xi r108]) (h := h1) (inl := [201, 198, 204, 187]) (n' := 200) (sp := [217]) (o := [1]) rfl rfl ⟨rfl, rfl, rfl⟩ rfl ⟨Nat.le_of_eq P1.1.1.2.2.2.1, Nat.le_of_eq P1.1.1.2.2.2.2⟩ ⟨trivial, c111⟩
              have t115 := t110.tr t114
              obtain ⟨v, pc, L', h', z1, z2, z3, z4⟩ := vh_signsT l f k kk h1 P1.1.1 H1 (by rw [o1 50 (by decide) (by decide) (by decide)]; exact hw)
              exact ⟨v, h', CX_ofT (by decide) rfl rfl ⟨trivial, z4.2.1⟩ z2 z3 ⟨Nat.le_of_eq z4.1.1.1.2.2.2.1.symm, Nat.le_of_eq z4.1.1.1.2.2.2.2.symm⟩ (t115.tr z1), vSt_pre P1 (o1 7 (by decide) (by decide) (by decide)) (by rw [o1 49 (by decide) (by decide) (by decide), o1 48 (by decide) (by decide) (by decide)]) z4⟩
        · have t116 : XT l 3 110 false 207 153 6051 182 [xf 13 104, xi k] [xi r99] h1 217 [xf 13 104, xi k] [] h1 := XT_path (l := l) (fr := 3) (lo := 110) (full := false) (M := 207) (n := 153) (u := 6051) (pc := 182) (L := [xf 13 104, xi k]) (st := [xi r99]) (h := h1) (inl := [201, 198, 204, 187]) (n' := 200) (sp := [217]) (o := [1]) rfl rfl ⟨rfl, rfl, rfl⟩ rfl ⟨Nat.le_of_eq P1.1.1.2.2.2.1, Nat.le_of_eq P1.1.1.2.2.2.2⟩ ⟨trivial, c102⟩
          have t117 := t101.tr t116
          obtain ⟨v, pc, L', h', z1, z2, z3, z4⟩ := vh_signsT l f k kk h1 P1.1.1 H1 (by rw [o1 50 (by decide) (by decide) (by decide)]; exact hw)
          exact ⟨v, h', CX_ofT (by decide) rfl rfl ⟨trivial, z4.2.1⟩ z2 z3 ⟨Nat.le_of_eq z4.1.1.1.2.2.2.1.symm, Nat.le_of_eq z4.1.1.1.2.2.2.2.symm⟩ (t117.tr z1), vSt_pre P1 (o1 7 (by decide) (by decide) (by decide)) (by rw [o1 49 (by decide) (by decide) (by decide), o1 48 (by decide) (by decide) (by decide)]) z4⟩
def vQn (n0 : Int) (h : XH) : Prop := n0 ≤ (xI h 104 7).toInt ∧ ((xI h 104 50).toInt = 0 → 4 ≤ (xI h 104 8).toInt → (xI h 104 8).toInt ≤ 5 → n0 + 1 ≤ (xI h 104 7).toInt)
/-- an expression read: from knot f on -/
def vSm (f n0 : Int) (h : XH) (v : Int32) (h' : XH) : Prop := vP f h h' ∧ (v = 0 ∨ v = 1) ∧ (¬ v = 0 → f < (xI h' 104 21).toInt ∧ (xI h' 104 21).toInt ≤ (xI h' 104 49).toInt ∧ vkk h' 64 f (xI h' 104 21).toInt ∧ n0 + 1 ≤ (xI h' 104 7).toInt)
set_option maxRecDepth 100000 in
set_option maxHeartbeats 2000000 in
theorem vh_sumL (l : Launch) (f n0 : Int) : ∀ (m : Nat) (h : XH), sgood vT vR vE 153 6051 h → vps h f → vmle h m → vQn n0 h → ∃ v pc L' h', XT l 4 150 false 200 153 6051 25 [xf 13 104] [] h pc L' [xi v] h' ∧ XE 200 pc [xi v] ∧ L'.length = 1 ∧ vSm f n0 h v h'
  | m, h, hg, H, hm, hq => by
    have b46 : 0 ≤ (xI h 104 46).toInt ∧ (xI h 104 46).toInt ≤ 72 := vbnd hg.1 104 46
    have b47 : 0 ≤ (xI h 104 47).toInt ∧ (xI h 104 47).toInt ≤ 64 := vbnd hg.1 104 47
    have b21 : 0 ≤ (xI h 104 21).toInt ∧ (xI h 104 21).toInt ≤ 64 := vbnd hg.1 104 21
    have b48 : 0 ≤ (xI h 104 48).toInt ∧ (xI h 104 48).toInt ≤ 8 := vbnd hg.1 104 48
    have b49 : 0 ≤ (xI h 104 49).toInt ∧ (xI h 104 49).toInt ≤ 64 := vbnd hg.1 104 49
    have b50 : 0 ≤ (xI h 104 50).toInt ∧ (xI h 104 50).toInt ≤ 1 := vbnd hg.1 104 50
    have b8 : 0 ≤ (xI h 104 8).toInt ∧ (xI h 104 8).toInt ≤ 6 := vbnd hg.1 104 8
    have e0 : (0 : Int32).toInt = 0 := rfl
    by_cases c1 : (xI h 104 8) = (Int32.ofInt (4))
    · by_cases c2 : (xI h 104 9) = (Int32.ofInt (59))
      · by_cases c3 : (xI h 104 50) = 0
        · by_cases c4 : (xI h 104 48) ≤ 0
          · have t5 : XT l 4 150 false 200 153 6051 25 [xf 13 104] [] h 76 [xf 13 104] [xi (Int32.ofInt (1)), xf 13 104] h := XT_path (l := l) (fr := 4) (lo := 150) (full := false) (M := 200) (n := 153) (u := 6051) (pc := 25) (L := [xf 13 104]) (st := []) (h := h) (inl := [201]) (n' := 120) (sp := [76]) (o := [0, 0, 0, 0, 1]) rfl rfl ⟨rfl, rfl, rfl⟩ rfl ⟨Nat.le_of_eq hg.2.2.2.1, Nat.le_of_eq hg.2.2.2.2⟩ ⟨⟨⟨⟨⟨⟨trivial, c1⟩, c2⟩, (Or.inr rfl)⟩, (by decide)⟩, c3⟩, c4⟩
            have d50 := veq0 c3
            have H0 : vpi h f 1 := by
              unfold vps at H
              rw [d50] at H
              exact H
            have d8 := veq ⟨by decide, by decide⟩ c1
            obtain ⟨h1, c1, P1, H1, o1, -⟩ := vh_bind l f (Int32.ofInt (1)) (by decide) h hg H0
            obtain ⟨i0, i1, i2, i3, i4, i5, i6, i7⟩ := id H1
            have t6 : XT l 4 150 false 200 153 6051 76 [xf 13 104] [xi (Int32.ofInt (1)), xf 13 104] h 79 [xf 13 104] [] h1 := XT_call (l := l) (fr := 4) (lo := 150) (full := false) (M := 200) (n := 153) (u := 6051) (pc := 76) (L := [xf 13 104]) (st := [xi (Int32.ofInt (1)), xf 13 104]) (h := h) (i := .invokevirtual 208) (aux := 2) (nx := 79) (K := 208) (vs := [xf 13 104, xi (Int32.ofInt (1))]) (rs := []) (rest := []) rfl rfl rfl rfl rfl rfl c1 (by decide) (by decide) (Nat.le_of_ble_eq_true rfl) ⟨Nat.le_of_eq P1.1.1.2.2.2.1, Nat.le_of_eq P1.1.1.2.2.2.2⟩
            have t7 := t5.tr t6
            have t8 : XT l 4 150 false 200 153 6051 79 [xf 13 104] [] h1 80 [xf 13 104] [xi (Int32.ofInt (1))] h1 := XT_path (l := l) (fr := 4) (lo := 150) (full := false) (M := 200) (n := 153) (u := 6051) (pc := 79) (L := [xf 13 104]) (st := []) (h := h1) (inl := [201]) (n' := 120) (sp := [80]) (o := []) rfl rfl ⟨rfl, rfl, rfl⟩ rfl ⟨Nat.le_of_eq P1.1.1.2.2.2.1, Nat.le_of_eq P1.1.1.2.2.2.2⟩ trivial
            have t9 := t7.tr t8
            have z0 := i6 0 (by omega)
            refine ⟨_, _, _, _, t9, ⟨_, _, _, rfl, rfl, rfl⟩, rfl, P1, Or.inr rfl, fun _ => ⟨by omega, by omega, i7, ?_⟩⟩
            rw [o1 7 (by decide) (by decide) (by decide)]
            exact hq.2 d50 (by omega) (by omega)
          · have t10 : XT l 4 150 false 200 153 6051 25 [xf 13 104] [] h 66 [xf 13 104] [xf 13 104] h := XT_path (l := l) (fr := 4) (lo := 150) (full := false) (M := 200) (n := 153) (u := 6051) (pc := 25) (L := [xf 13 104]) (st := []) (h := h) (inl := [201]) (n' := 120) (sp := [66]) (o := [0, 0, 0, 0, 0, 1]) rfl rfl ⟨rfl, rfl, rfl⟩ rfl ⟨Nat.le_of_eq hg.2.2.2.1, Nat.le_of_eq hg.2.2.2.2⟩ ⟨⟨⟨⟨⟨⟨⟨trivial, c1⟩, c2⟩, (Or.inr rfl)⟩, (by decide)⟩, c3⟩, c4⟩, c3⟩
            have d50 := veq0 c3
            obtain ⟨v, h1, c1, st⟩ := vh_signs l f h hg H d50
            have t12 : XT l 4 150 false 200 153 6051 66 [xf 13 104] [xf 13 104] h 69 [xf 13 104] [xi v] h1 := XT_call (l := l) (fr := 4) (lo := 150) (full := false) (M := 200) (n := 153) (u := 6051) (pc := 66) (L := [xf 13 104]) (st := [xf 13 104]) (h := h) (i := .invokevirtual 207) (aux := 1) (nx := 69) (K := 207) (vs := [xf 13 104]) (rs := [xi v]) (rest := []) rfl rfl rfl rfl rfl rfl c1 (by decide) (by decide) (Nat.le_of_ble_eq_true rfl) ⟨Nat.le_of_eq st.1.1.1.2.2.2.1, Nat.le_of_eq st.1.1.1.2.2.2.2⟩
            have t13 := t10.tr t12
            by_cases c14 : v = 0
            · have t15 : XT l 4 150 false 200 153 6051 69 [xf 13 104] [xi v] h1 73 [xf 13 104] [xi (Int32.ofInt (0))] h1 := XT_path (l := l) (fr := 4) (lo := 150) (full := false) (M := 200) (n := 153) (u := 6051) (pc := 69) (L := [xf 13 104]) (st := [xi v]) (h := h1) (inl := [201]) (n' := 120) (sp := [73]) (o := [0]) rfl rfl ⟨rfl, rfl, rfl⟩ rfl ⟨Nat.le_of_eq st.1.1.1.2.2.2.1, Nat.le_of_eq st.1.1.1.2.2.2.2⟩ ⟨trivial, c14⟩
              have t16 := t13.tr t15
              exact ⟨_, _, _, _, t16, ⟨_, _, _, rfl, rfl, rfl⟩, rfl, st.1, Or.inl rfl, fun z => absurd rfl z⟩
            · have t17 : XT l 4 150 false 200 153 6051 69 [xf 13 104] [xi v] h1 25 [xf 13 104] [] h1 := XT_path (l := l) (fr := 4) (lo := 150) (full := false) (M := 200) (n := 153) (u := 6051) (pc := 69) (L := [xf 13 104]) (st := [xi v]) (h := h1) (inl := [201]) (n' := 120) (sp := [25]) (o := [1]) rfl rfl ⟨rfl, rfl, rfl⟩ rfl ⟨Nat.le_of_eq st.1.1.1.2.2.2.1, Nat.le_of_eq st.1.1.1.2.2.2.2⟩ ⟨trivial, c14⟩
              have t18 := t13.tr t17
              obtain ⟨s1, s2, s3⟩ := st.2.2 c14
              unfold vgw at s3
              have m1 : 1 ≤ m := by
                have b1 := hm.1
                have b2 := hm.2
                have b3 := s2.1
                have b4 := s2.2
                have c48 : 0 ≤ (xI h1 104 48).toInt ∧ (xI h1 104 48).toInt ≤ 8 := vbnd st.1.1.1.1 104 48
                have c49 : 0 ≤ (xI h1 104 49).toInt ∧ (xI h1 104 49).toInt ≤ 64 := vbnd st.1.1.1.1 104 49
                have c50 : 0 ≤ (xI h1 104 50).toInt ∧ (xI h1 104 50).toInt ≤ 1 := vbnd st.1.1.1.1 104 50
                omega
              have m2 : vmle h1 ((m - 1 : Nat) : Int) := by
                have b1 := hm.1
                have b2 := hm.2
                have b3 := s2.1
                have b4 := s2.2
                exact ⟨fun z => by have := b3 z; omega, fun z => by have := b4 z; omega⟩
              have q1 : vQn n0 h1 := ⟨by have := hq.1; omega, fun _ z1 z2 => by have := hq.1; have := s3.2 z1 z2; omega⟩
              obtain ⟨v', pc, L', h2, y1, y2, y3, y4⟩ := vh_sumL l f n0 (m - 1) h1 st.1.1.1 s1 m2 q1
              exact ⟨v', pc, L', h2, t18.tr y1, y2, y3, st.1.tr y4.1, y4.2.1, y4.2.2⟩
        · have t19 : XT l 4 150 false 200 153 6051 25 [xf 13 104] [] h 56 [xf 13 104] [xf 13 104] h := XT_path (l := l) (fr := 4) (lo := 150) (full := false) (M := 200) (n := 153) (u := 6051) (pc := 25) (L := [xf 13 104]) (st := []) (h := h) (inl := [201]) (n' := 120) (sp := [56]) (o := [0, 0, 0, 1, 0]) rfl rfl ⟨rfl, rfl, rfl⟩ rfl ⟨Nat.le_of_eq hg.2.2.2.1, Nat.le_of_eq hg.2.2.2.2⟩ ⟨⟨⟨⟨⟨⟨trivial, c1⟩, c2⟩, (Or.inr rfl)⟩, (by decide)⟩, c3⟩, c3⟩
          have d50 : (xI h 104 50).toInt = 1 := by have := vne0 c3; omega
          obtain ⟨v, h1, c1, st⟩ := vh_leaf l f h hg H d50
          have t21 : XT l 4 150 false 200 153 6051 56 [xf 13 104] [xf 13 104] h 59 [xf 13 104] [xi v] h1 := XT_call (l := l) (fr := 4) (lo := 150) (full := false) (M := 200) (n := 153) (u := 6051) (pc := 56) (L := [xf 13 104]) (st := [xf 13 104]) (h := h) (i := .invokevirtual 202) (aux := 1) (nx := 59) (K := 202) (vs := [xf 13 104]) (rs := [xi v]) (rest := []) rfl rfl rfl rfl rfl rfl c1 (by decide) (by decide) (Nat.le_of_ble_eq_true rfl) ⟨Nat.le_of_eq st.1.1.1.2.2.2.1, Nat.le_of_eq st.1.1.1.2.2.2.2⟩
          have t22 := t19.tr t21
          by_cases c23 : v = 0
          · have t24 : XT l 4 150 false 200 153 6051 59 [xf 13 104] [xi v] h1 73 [xf 13 104] [xi (Int32.ofInt (0))] h1 := XT_path (l := l) (fr := 4) (lo := 150) (full := false) (M := 200) (n := 153) (u := 6051) (pc := 59) (L := [xf 13 104]) (st := [xi v]) (h := h1) (inl := [201]) (n' := 120) (sp := [73]) (o := [1]) rfl rfl ⟨rfl, rfl, rfl⟩ rfl ⟨Nat.le_of_eq st.1.1.1.2.2.2.1, Nat.le_of_eq st.1.1.1.2.2.2.2⟩ ⟨trivial, c23⟩
            have t25 := t22.tr t24
            exact ⟨_, _, _, _, t25, ⟨_, _, _, rfl, rfl, rfl⟩, rfl, st.1, Or.inl rfl, fun z => absurd rfl z⟩
          · have t26 : XT l 4 150 false 200 153 6051 59 [xf 13 104] [xi v] h1 25 [xf 13 104] [] h1 := XT_path (l := l) (fr := 4) (lo := 150) (full := false) (M := 200) (n := 153) (u := 6051) (pc := 59) (L := [xf 13 104]) (st := [xi v]) (h := h1) (inl := [201]) (n' := 120) (sp := [25]) (o := [0]) rfl rfl ⟨rfl, rfl, rfl⟩ rfl ⟨Nat.le_of_eq st.1.1.1.2.2.2.1, Nat.le_of_eq st.1.1.1.2.2.2.2⟩ ⟨trivial, c23⟩
            have t27 := t22.tr t26
            obtain ⟨s1, s2, s3⟩ := st.2.2 c23
            unfold vgw at s3
            have m1 : 1 ≤ m := by
              have b1 := hm.1
              have b2 := hm.2
              have b3 := s2.1
              have b4 := s2.2
              have c48 : 0 ≤ (xI h1 104 48).toInt ∧ (xI h1 104 48).toInt ≤ 8 := vbnd st.1.1.1.1 104 48
              have c49 : 0 ≤ (xI h1 104 49).toInt ∧ (xI h1 104 49).toInt ≤ 64 := vbnd st.1.1.1.1 104 49
              have c50 : 0 ≤ (xI h1 104 50).toInt ∧ (xI h1 104 50).toInt ≤ 1 := vbnd st.1.1.1.1 104 50
              omega
            have m2 : vmle h1 ((m - 1 : Nat) : Int) := by
              have b1 := hm.1
              have b2 := hm.2
              have b3 := s2.1
              have b4 := s2.2
              exact ⟨fun z => by have := b3 z; omega, fun z => by have := b4 z; omega⟩
            have q1 : vQn n0 h1 := ⟨by have := hq.1; omega, fun _ z1 z2 => by have := hq.1; have := s3.2 z1 z2; omega⟩
            obtain ⟨v', pc, L', h2, y1, y2, y3, y4⟩ := vh_sumL l f n0 (m - 1) h1 st.1.1.1 s1 m2 q1
            exact ⟨v', pc, L', h2, t27.tr y1, y2, y3, st.1.tr y4.1, y4.2.1, y4.2.2⟩
      · by_cases c28 : (xI h 104 50) = 0
        · have t29 : XT l 4 150 false 200 153 6051 25 [xf 13 104] [] h 66 [xf 13 104] [xf 13 104] h := XT_path (l := l) (fr := 4) (lo := 150) (full := false) (M := 200) (n := 153) (u := 6051) (pc := 25) (L := [xf 13 104]) (st := []) (h := h) (inl := [201]) (n' := 120) (sp := [66]) (o := [0, 1, 1, 1]) rfl rfl ⟨rfl, rfl, rfl⟩ rfl ⟨Nat.le_of_eq hg.2.2.2.1, Nat.le_of_eq hg.2.2.2.2⟩ ⟨⟨⟨⟨⟨trivial, c1⟩, c2⟩, (Or.inl rfl)⟩, rfl⟩, c28⟩
          have d50 := veq0 c28
          obtain ⟨v, h1, c1, st⟩ := vh_signs l f h hg H d50
          have t31 : XT l 4 150 false 200 153 6051 66 [xf 13 104] [xf 13 104] h 69 [xf 13 104] [xi v] h1 := XT_call (l := l) (fr := 4) (lo := 150) (full := false) (M := 200) (n := 153) (u := 6051) (pc := 66) (L := [xf 13 104]) (st := [xf 13 104]) (h := h) (i := .invokevirtual 207) (aux := 1) (nx := 69) (K := 207) (vs := [xf 13 104]) (rs := [xi v]) (rest := []) rfl rfl rfl rfl rfl rfl c1 (by decide) (by decide) (Nat.le_of_ble_eq_true rfl) ⟨Nat.le_of_eq st.1.1.1.2.2.2.1, Nat.le_of_eq st.1.1.1.2.2.2.2⟩
          have t32 := t29.tr t31
          by_cases c33 : v = 0
          · have t34 : XT l 4 150 false 200 153 6051 69 [xf 13 104] [xi v] h1 73 [xf 13 104] [xi (Int32.ofInt (0))] h1 := XT_path (l := l) (fr := 4) (lo := 150) (full := false) (M := 200) (n := 153) (u := 6051) (pc := 69) (L := [xf 13 104]) (st := [xi v]) (h := h1) (inl := [201]) (n' := 120) (sp := [73]) (o := [0]) rfl rfl ⟨rfl, rfl, rfl⟩ rfl ⟨Nat.le_of_eq st.1.1.1.2.2.2.1, Nat.le_of_eq st.1.1.1.2.2.2.2⟩ ⟨trivial, c33⟩
            have t35 := t32.tr t34
            exact ⟨_, _, _, _, t35, ⟨_, _, _, rfl, rfl, rfl⟩, rfl, st.1, Or.inl rfl, fun z => absurd rfl z⟩
          · have t36 : XT l 4 150 false 200 153 6051 69 [xf 13 104] [xi v] h1 25 [xf 13 104] [] h1 := XT_path (l := l) (fr := 4) (lo := 150) (full := false) (M := 200) (n := 153) (u := 6051) (pc := 69) (L := [xf 13 104]) (st := [xi v]) (h := h1) (inl := [201]) (n' := 120) (sp := [25]) (o := [1]) rfl rfl ⟨rfl, rfl, rfl⟩ rfl ⟨Nat.le_of_eq st.1.1.1.2.2.2.1, Nat.le_of_eq st.1.1.1.2.2.2.2⟩ ⟨trivial, c33⟩
            have t37 := t32.tr t36
            obtain ⟨s1, s2, s3⟩ := st.2.2 c33
            unfold vgw at s3
            have m1 : 1 ≤ m := by
              have b1 := hm.1
              have b2 := hm.2
              have b3 := s2.1
              have b4 := s2.2
              have c48 : 0 ≤ (xI h1 104 48).toInt ∧ (xI h1 104 48).toInt ≤ 8 := vbnd st.1.1.1.1 104 48
              have c49 : 0 ≤ (xI h1 104 49).toInt ∧ (xI h1 104 49).toInt ≤ 64 := vbnd st.1.1.1.1 104 49
              have c50 : 0 ≤ (xI h1 104 50).toInt ∧ (xI h1 104 50).toInt ≤ 1 := vbnd st.1.1.1.1 104 50
              omega
            have m2 : vmle h1 ((m - 1 : Nat) : Int) := by
              have b1 := hm.1
              have b2 := hm.2
              have b3 := s2.1
              have b4 := s2.2
              exact ⟨fun z => by have := b3 z; omega, fun z => by have := b4 z; omega⟩
            have q1 : vQn n0 h1 := ⟨by have := hq.1; omega, fun _ z1 z2 => by have := hq.1; have := s3.2 z1 z2; omega⟩
            obtain ⟨v', pc, L', h2, y1, y2, y3, y4⟩ := vh_sumL l f n0 (m - 1) h1 st.1.1.1 s1 m2 q1
            exact ⟨v', pc, L', h2, t37.tr y1, y2, y3, st.1.tr y4.1, y4.2.1, y4.2.2⟩
        · have t38 : XT l 4 150 false 200 153 6051 25 [xf 13 104] [] h 56 [xf 13 104] [xf 13 104] h := XT_path (l := l) (fr := 4) (lo := 150) (full := false) (M := 200) (n := 153) (u := 6051) (pc := 25) (L := [xf 13 104]) (st := []) (h := h) (inl := [201]) (n' := 120) (sp := [56]) (o := [0, 1, 1, 0]) rfl rfl ⟨rfl, rfl, rfl⟩ rfl ⟨Nat.le_of_eq hg.2.2.2.1, Nat.le_of_eq hg.2.2.2.2⟩ ⟨⟨⟨⟨⟨trivial, c1⟩, c2⟩, (Or.inl rfl)⟩, rfl⟩, c28⟩
          have d50 : (xI h 104 50).toInt = 1 := by have := vne0 c28; omega
          obtain ⟨v, h1, c1, st⟩ := vh_leaf l f h hg H d50
          have t40 : XT l 4 150 false 200 153 6051 56 [xf 13 104] [xf 13 104] h 59 [xf 13 104] [xi v] h1 := XT_call (l := l) (fr := 4) (lo := 150) (full := false) (M := 200) (n := 153) (u := 6051) (pc := 56) (L := [xf 13 104]) (st := [xf 13 104]) (h := h) (i := .invokevirtual 202) (aux := 1) (nx := 59) (K := 202) (vs := [xf 13 104]) (rs := [xi v]) (rest := []) rfl rfl rfl rfl rfl rfl c1 (by decide) (by decide) (Nat.le_of_ble_eq_true rfl) ⟨Nat.le_of_eq st.1.1.1.2.2.2.1, Nat.le_of_eq st.1.1.1.2.2.2.2⟩
          have t41 := t38.tr t40
          by_cases c42 : v = 0
          · have t43 : XT l 4 150 false 200 153 6051 59 [xf 13 104] [xi v] h1 73 [xf 13 104] [xi (Int32.ofInt (0))] h1 := XT_path (l := l) (fr := 4) (lo := 150) (full := false) (M := 200) (n := 153) (u := 6051) (pc := 59) (L := [xf 13 104]) (st := [xi v]) (h := h1) (inl := [201]) (n' := 120) (sp := [73]) (o := [1]) rfl rfl ⟨rfl, rfl, rfl⟩ rfl ⟨Nat.le_of_eq st.1.1.1.2.2.2.1, Nat.le_of_eq st.1.1.1.2.2.2.2⟩ ⟨trivial, c42⟩
            have t44 := t41.tr t43
            exact ⟨_, _, _, _, t44, ⟨_, _, _, rfl, rfl, rfl⟩, rfl, st.1, Or.inl rfl, fun z => absurd rfl z⟩
          · have t45 : XT l 4 150 false 200 153 6051 59 [xf 13 104] [xi v] h1 25 [xf 13 104] [] h1 := XT_path (l := l) (fr := 4) (lo := 150) (full := false) (M := 200) (n := 153) (u := 6051) (pc := 59) (L := [xf 13 104]) (st := [xi v]) (h := h1) (inl := [201]) (n' := 120) (sp := [25]) (o := [0]) rfl rfl ⟨rfl, rfl, rfl⟩ rfl ⟨Nat.le_of_eq st.1.1.1.2.2.2.1, Nat.le_of_eq st.1.1.1.2.2.2.2⟩ ⟨trivial, c42⟩
            have t46 := t41.tr t45
            obtain ⟨s1, s2, s3⟩ := st.2.2 c42
            unfold vgw at s3
            have m1 : 1 ≤ m := by
              have b1 := hm.1
              have b2 := hm.2
              have b3 := s2.1
              have b4 := s2.2
              have c48 : 0 ≤ (xI h1 104 48).toInt ∧ (xI h1 104 48).toInt ≤ 8 := vbnd st.1.1.1.1 104 48
              have c49 : 0 ≤ (xI h1 104 49).toInt ∧ (xI h1 104 49).toInt ≤ 64 := vbnd st.1.1.1.1 104 49
              have c50 : 0 ≤ (xI h1 104 50).toInt ∧ (xI h1 104 50).toInt ≤ 1 := vbnd st.1.1.1.1 104 50
              omega
            have m2 : vmle h1 ((m - 1 : Nat) : Int) := by
              have b1 := hm.1
              have b2 := hm.2
              have b3 := s2.1
              have b4 := s2.2
              exact ⟨fun z => by have := b3 z; omega, fun z => by have := b4 z; omega⟩
            have q1 : vQn n0 h1 := ⟨by have := hq.1; omega, fun _ z1 z2 => by have := hq.1; have := s3.2 z1 z2; omega⟩
            obtain ⟨v', pc, L', h2, y1, y2, y3, y4⟩ := vh_sumL l f n0 (m - 1) h1 st.1.1.1 s1 m2 q1
            exact ⟨v', pc, L', h2, t46.tr y1, y2, y3, st.1.tr y4.1, y4.2.1, y4.2.2⟩
    · by_cases c47 : (xI h 104 50) = 0
      · have t48 : XT l 4 150 false 200 153 6051 25 [xf 13 104] [] h 66 [xf 13 104] [xf 13 104] h := XT_path (l := l) (fr := 4) (lo := 150) (full := false) (M := 200) (n := 153) (u := 6051) (pc := 25) (L := [xf 13 104]) (st := []) (h := h) (inl := [201]) (n' := 120) (sp := [66]) (o := [1, 1, 1]) rfl rfl ⟨rfl, rfl, rfl⟩ rfl ⟨Nat.le_of_eq hg.2.2.2.1, Nat.le_of_eq hg.2.2.2.2⟩ ⟨⟨⟨⟨trivial, c1⟩, (Or.inl rfl)⟩, rfl⟩, c47⟩
        have d50 := veq0 c47
        obtain ⟨v, h1, c1, st⟩ := vh_signs l f h hg H d50
        have t50 : XT l 4 150 false 200 153 6051 66 [xf 13 104] [xf 13 104] h 69 [xf 13 104] [xi v] h1 := XT_call (l := l) (fr := 4) (lo := 150) (full := false) (M := 200) (n := 153) (u := 6051) (pc := 66) (L := [xf 13 104]) (st := [xf 13 104]) (h := h) (i := .invokevirtual 207) (aux := 1) (nx := 69) (K := 207) (vs := [xf 13 104]) (rs := [xi v]) (rest := []) rfl rfl rfl rfl rfl rfl c1 (by decide) (by decide) (Nat.le_of_ble_eq_true rfl) ⟨Nat.le_of_eq st.1.1.1.2.2.2.1, Nat.le_of_eq st.1.1.1.2.2.2.2⟩
        have t51 := t48.tr t50
        by_cases c52 : v = 0
        · have t53 : XT l 4 150 false 200 153 6051 69 [xf 13 104] [xi v] h1 73 [xf 13 104] [xi (Int32.ofInt (0))] h1 := XT_path (l := l) (fr := 4) (lo := 150) (full := false) (M := 200) (n := 153) (u := 6051) (pc := 69) (L := [xf 13 104]) (st := [xi v]) (h := h1) (inl := [201]) (n' := 120) (sp := [73]) (o := [0]) rfl rfl ⟨rfl, rfl, rfl⟩ rfl ⟨Nat.le_of_eq st.1.1.1.2.2.2.1, Nat.le_of_eq st.1.1.1.2.2.2.2⟩ ⟨trivial, c52⟩
          have t54 := t51.tr t53
          exact ⟨_, _, _, _, t54, ⟨_, _, _, rfl, rfl, rfl⟩, rfl, st.1, Or.inl rfl, fun z => absurd rfl z⟩
        · have t55 : XT l 4 150 false 200 153 6051 69 [xf 13 104] [xi v] h1 25 [xf 13 104] [] h1 := XT_path (l := l) (fr := 4) (lo := 150) (full := false) (M := 200) (n := 153) (u := 6051) (pc := 69) (L := [xf 13 104]) (st := [xi v]) (h := h1) (inl := [201]) (n' := 120) (sp := [25]) (o := [1]) rfl rfl ⟨rfl, rfl, rfl⟩ rfl ⟨Nat.le_of_eq st.1.1.1.2.2.2.1, Nat.le_of_eq st.1.1.1.2.2.2.2⟩ ⟨trivial, c52⟩
          have t56 := t51.tr t55
          obtain ⟨s1, s2, s3⟩ := st.2.2 c52
          unfold vgw at s3
          have m1 : 1 ≤ m := by
            have b1 := hm.1
            have b2 := hm.2
            have b3 := s2.1
            have b4 := s2.2
            have c48 : 0 ≤ (xI h1 104 48).toInt ∧ (xI h1 104 48).toInt ≤ 8 := vbnd st.1.1.1.1 104 48
            have c49 : 0 ≤ (xI h1 104 49).toInt ∧ (xI h1 104 49).toInt ≤ 64 := vbnd st.1.1.1.1 104 49
            have c50 : 0 ≤ (xI h1 104 50).toInt ∧ (xI h1 104 50).toInt ≤ 1 := vbnd st.1.1.1.1 104 50
            omega
          have m2 : vmle h1 ((m - 1 : Nat) : Int) := by
            have b1 := hm.1
            have b2 := hm.2
            have b3 := s2.1
            have b4 := s2.2
            exact ⟨fun z => by have := b3 z; omega, fun z => by have := b4 z; omega⟩
          have q1 : vQn n0 h1 := ⟨by have := hq.1; omega, fun _ z1 z2 => by have := hq.1; have := s3.2 z1 z2; omega⟩
          obtain ⟨v', pc, L', h2, y1, y2, y3, y4⟩ := vh_sumL l f n0 (m - 1) h1 st.1.1.1 s1 m2 q1
          exact ⟨v', pc, L', h2, t56.tr y1, y2, y3, st.1.tr y4.1, y4.2.1, y4.2.2⟩
      · have t57 : XT l 4 150 false 200 153 6051 25 [xf 13 104] [] h 56 [xf 13 104] [xf 13 104] h := XT_path (l := l) (fr := 4) (lo := 150) (full := false) (M := 200) (n := 153) (u := 6051) (pc := 25) (L := [xf 13 104]) (st := []) (h := h) (inl := [201]) (n' := 120) (sp := [56]) (o := [1, 1, 0]) rfl rfl ⟨rfl, rfl, rfl⟩ rfl ⟨Nat.le_of_eq hg.2.2.2.1, Nat.le_of_eq hg.2.2.2.2⟩ ⟨⟨⟨⟨trivial, c1⟩, (Or.inl rfl)⟩, rfl⟩, c47⟩
        have d50 : (xI h 104 50).toInt = 1 := by have := vne0 c47; omega
        obtain ⟨v, h1, c1, st⟩ := vh_leaf l f h hg H d50
        have t59 : XT l 4 150 false 200 153 6051 56 [xf 13 104] [xf 13 104] h 59 [xf 13 104] [xi v] h1 := XT_call (l := l) (fr := 4) (lo := 150) (full := false) (M := 200) (n := 153) (u := 6051) (pc := 56) (L := [xf 13 104]) (st := [xf 13 104]) (h := h) (i := .invokevirtual 202) (aux := 1) (nx := 59) (K := 202) (vs := [xf 13 104]) (rs := [xi v]) (rest := []) rfl rfl rfl rfl rfl rfl c1 (by decide) (by decide) (Nat.le_of_ble_eq_true rfl) ⟨Nat.le_of_eq st.1.1.1.2.2.2.1, Nat.le_of_eq st.1.1.1.2.2.2.2⟩
        have t60 := t57.tr t59
        by_cases c61 : v = 0
        · have t62 : XT l 4 150 false 200 153 6051 59 [xf 13 104] [xi v] h1 73 [xf 13 104] [xi (Int32.ofInt (0))] h1 := XT_path (l := l) (fr := 4) (lo := 150) (full := false) (M := 200) (n := 153) (u := 6051) (pc := 59) (L := [xf 13 104]) (st := [xi v]) (h := h1) (inl := [201]) (n' := 120) (sp := [73]) (o := [1]) rfl rfl ⟨rfl, rfl, rfl⟩ rfl ⟨Nat.le_of_eq st.1.1.1.2.2.2.1, Nat.le_of_eq st.1.1.1.2.2.2.2⟩ ⟨trivial, c61⟩
          have t63 := t60.tr t62
          exact ⟨_, _, _, _, t63, ⟨_, _, _, rfl, rfl, rfl⟩, rfl, st.1, Or.inl rfl, fun z => absurd rfl z⟩
        · have t64 : XT l 4 150 false 200 153 6051 59 [xf 13 104] [xi v] h1 25 [xf 13 104] [] h1 := XT_path (l := l) (fr := 4) (lo := 150) (full := false) (M := 200) (n := 153) (u := 6051) (pc := 59) (L := [xf 13 104]) (st := [xi v]) (h := h1) (inl := [201]) (n' := 120) (sp := [25]) (o := [0]) rfl rfl ⟨rfl, rfl, rfl⟩ rfl ⟨Nat.le_of_eq st.1.1.1.2.2.2.1, Nat.le_of_eq st.1.1.1.2.2.2.2⟩ ⟨trivial, c61⟩
          have t65 := t60.tr t64
          obtain ⟨s1, s2, s3⟩ := st.2.2 c61
          unfold vgw at s3
          have m1 : 1 ≤ m := by
            have b1 := hm.1
            have b2 := hm.2
            have b3 := s2.1
            have b4 := s2.2
            have c48 : 0 ≤ (xI h1 104 48).toInt ∧ (xI h1 104 48).toInt ≤ 8 := vbnd st.1.1.1.1 104 48
            have c49 : 0 ≤ (xI h1 104 49).toInt ∧ (xI h1 104 49).toInt ≤ 64 := vbnd st.1.1.1.1 104 49
            have c50 : 0 ≤ (xI h1 104 50).toInt ∧ (xI h1 104 50).toInt ≤ 1 := vbnd st.1.1.1.1 104 50
            omega
          have m2 : vmle h1 ((m - 1 : Nat) : Int) := by
            have b1 := hm.1
            have b2 := hm.2
            have b3 := s2.1
            have b4 := s2.2
            exact ⟨fun z => by have := b3 z; omega, fun z => by have := b4 z; omega⟩
          have q1 : vQn n0 h1 := ⟨by have := hq.1; omega, fun _ z1 z2 => by have := hq.1; have := s3.2 z1 z2; omega⟩
          obtain ⟨v', pc, L', h2, y1, y2, y3, y4⟩ := vh_sumL l f n0 (m - 1) h1 st.1.1.1 s1 m2 q1
          exact ⟨v', pc, L', h2, t65.tr y1, y2, y3, st.1.tr y4.1, y4.2.1, y4.2.2⟩
termination_by m => m
decreasing_by all_goals omega
set_option maxRecDepth 100000 in
set_option maxHeartbeats 2000000 in
theorem vh_sum (l : Launch) (h : XH) (hg : sgood vT vR vE 153 6051 h) (hc : (xI h 104 21).toInt ≤ (xI h 104 49).toInt) : ∃ v h', CX l 4 150 false 200 [xf 13 104] h [xi v] h' ∧ vSm (xI h 104 21).toInt (xI h 104 7).toInt h v h' := by
  have b46 : 0 ≤ (xI h 104 46).toInt ∧ (xI h 104 46).toInt ≤ 72 := vbnd hg.1 104 46
  have b47 : 0 ≤ (xI h 104 47).toInt ∧ (xI h 104 47).toInt ≤ 64 := vbnd hg.1 104 47
  have b21 : 0 ≤ (xI h 104 21).toInt ∧ (xI h 104 21).toInt ≤ 64 := vbnd hg.1 104 21
  have b48 : 0 ≤ (xI h 104 48).toInt ∧ (xI h 104 48).toInt ≤ 8 := vbnd hg.1 104 48
  have b49 : 0 ≤ (xI h 104 49).toInt ∧ (xI h 104 49).toInt ≤ 64 := vbnd hg.1 104 49
  have b50 : 0 ≤ (xI h 104 50).toInt ∧ (xI h 104 50).toInt ≤ 1 := vbnd hg.1 104 50
  have b7 : 0 ≤ (xI h 104 7).toInt ∧ (xI h 104 7).toInt ≤ 700 := vbnd hg.1 104 7
  have t66 : XT l 4 150 false 200 153 6051 0 [xf 13 104] [] h 25 [xf 13 104] [] (xsetI (xsetI (xsetI (xsetI (xsetI h 104 46 (Int32.ofInt (0))) 104 47 (Int32.ofInt (0))) 104 48 (Int32.ofInt (0))) 104 50 (Int32.ofInt (1))) 104 51 (Int32.ofInt (1))) := XT_path (l := l) (fr := 4) (lo := 150) (full := false) (M := 200) (n := 153) (u := 6051) (pc := 0) (L := [xf 13 104]) (st := []) (h := h) (inl := [201]) (n' := 120) (sp := [25]) (o := []) rfl rfl ⟨rfl, rfl, rfl⟩ rfl ⟨Nat.le_of_eq hg.2.2.2.1, Nat.le_of_eq hg.2.2.2.2⟩ ⟨⟨trivial, (Or.inr rfl)⟩, (Or.inr rfl)⟩
  have G1 : vG ([(104, 4, false), (104, 5, false), (104, 7, false), (104, 8, false), (104, 9, false), (104, 10, false), (104, 21, false), (104, 46, false), (104, 47, false), (104, 48, false), (104, 49, false), (104, 50, false), (104, 51, false), (126, 0, true), (127, 0, true), (128, 0, true), (129, 0, true), (130, 0, true)], []) h (xsetI (xsetI (xsetI (xsetI (xsetI h 104 46 (Int32.ofInt (0))) 104 47 (Int32.ofInt (0))) 104 48 (Int32.ofInt (0))) 104 50 (Int32.ofInt (1))) 104 51 (Int32.ofInt (1))) := vs51 (vs50 (vs48 (vs47 (vs46 (vG.rf hg) (by decide) rfl) (by decide) rfl) (by decide) rfl) (by decide) rfl) (by decide) rfl
  obtain ⟨h1, e1⟩ : ∃ x, x = (xsetI (xsetI (xsetI (xsetI (xsetI h 104 46 (Int32.ofInt (0))) 104 47 (Int32.ofInt (0))) 104 48 (Int32.ofInt (0))) 104 50 (Int32.ofInt (1))) 104 51 (Int32.ofInt (1))) := ⟨_, rfl⟩
  rw [← e1] at t66 G1
  have w7 : xI h1 104 7 = (xI h 104 7) := by rw [e1]; exact (yI_ne (by decide)).trans ((yI_ne (by decide)).trans ((yI_ne (by decide)).trans ((yI_ne (by decide)).trans (yI_ne (by decide)))))
  have w8 : xI h1 104 8 = (xI h 104 8) := by rw [e1]; exact (yI_ne (by decide)).trans ((yI_ne (by decide)).trans ((yI_ne (by decide)).trans ((yI_ne (by decide)).trans (yI_ne (by decide)))))
  have w21 : xI h1 104 21 = (xI h 104 21) := by rw [e1]; exact (yI_ne (by decide)).trans ((yI_ne (by decide)).trans ((yI_ne (by decide)).trans ((yI_ne (by decide)).trans (yI_ne (by decide)))))
  have w46 : xI h1 104 46 = (Int32.ofInt (0)) := by rw [e1]; exact (yI_ne (by decide)).trans ((yI_ne (by decide)).trans ((yI_ne (by decide)).trans ((yI_ne (by decide)).trans (yI_same))))
  have w47 : xI h1 104 47 = (Int32.ofInt (0)) := by rw [e1]; exact (yI_ne (by decide)).trans ((yI_ne (by decide)).trans ((yI_ne (by decide)).trans (yI_same)))
  have w48 : xI h1 104 48 = (Int32.ofInt (0)) := by rw [e1]; exact (yI_ne (by decide)).trans ((yI_ne (by decide)).trans (yI_same))
  have w49 : xI h1 104 49 = (xI h 104 49) := by rw [e1]; exact (yI_ne (by decide)).trans ((yI_ne (by decide)).trans ((yI_ne (by decide)).trans ((yI_ne (by decide)).trans (yI_ne (by decide)))))
  have w50 : xI h1 104 50 = (Int32.ofInt (1)) := by rw [e1]; exact (yI_ne (by decide)).trans (yI_same)
  have orow : ∀ c, c ≠ 104 → ∀ i, xI h1 c i = xI h c i := fun c c1 i => by rw [e1]; exact (yI_c (eq_false c1)).trans ((yI_c (eq_false c1)).trans ((yI_c (eq_false c1)).trans ((yI_c (eq_false c1)).trans (yI_c (eq_false c1)))))
  have P1 : vP (xI h 104 21).toInt h h1 := ⟨G1, fun c c1 c2 j _ => orow c (by omega) j⟩
  have H1 : vps h1 (xI h 104 21).toInt := by
    unfold vps vpi
    rw [w50, w46, w47, w48, w49, w21]
    refine ⟨b21.1, Int.le_refl _, fun i hi => absurd hi (Nat.not_lt_zero _), rfl, rfl, ?_, fun i hi => absurd hi (Int.not_lt.mpr (Int.natCast_nonneg i)), fun k k1 k2 => absurd k2 (Int.not_lt.mpr k1)⟩
    show _ + (0 : Int) ≤ _
    omega
  have m1 : vmle h1 ((2000 : Nat) : Int) := by
    unfold vmle
    rw [w50, w49, w48]
    refine ⟨fun _ => ?_, fun _ => ?_⟩
    · show _ + 17 - (0 : Int) ≤ 2000
      omega
    · show _ + (0 : Int) ≤ 2000
      omega
  have q1 : vQn (xI h 104 7).toInt h1 := by
    unfold vQn
    rw [w7, w50]
    exact ⟨Int.le_refl _, fun z => absurd z (by decide)⟩
  obtain ⟨v, pc, L', h2, y1, y2, y3, y4⟩ := vh_sumL l _ _ 2000 h1 G1.1 H1 m1 q1
  exact ⟨v, h2, CX_ofT (by decide) rfl rfl ⟨trivial, y4.2.1⟩ y2 y3 ⟨Nat.le_of_eq y4.1.1.1.2.2.2.1.symm, Nat.le_of_eq y4.1.1.1.2.2.2.2.symm⟩ (t66.tr y1), P1.tr y4.1, y4.2.1, y4.2.2⟩
