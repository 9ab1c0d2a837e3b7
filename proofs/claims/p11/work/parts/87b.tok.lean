/-! THE MODEL'S TOKENS. -/
theorem j32_small {x : Nat} (h : x < 2147483648) : (Int32.ofInt (x : Int)).toInt = x := by
  rw [Int32.toInt_ofInt, show Int32.size = 4294967296 from rfl]
  exact Int.bmod_eq_of_le (by omega) (by omega)
def mR (b : Nat → Int) (n : Nat) (h : XH) : Prop := (xI h 104 6).toInt = n ∧ ∀ k, k < n → sby (xI h 105 k).toInt = b k
theorem mR.fr {b : Nat → Int} {n : Nat} {h h' : XH} (r : mR b n h) (h1 : xI h' 104 6 = xI h 104 6) (h2 : ∀ k, xI h' 105 k = xI h 105 k) : mR b n h' := ⟨by rw [h1]; exact r.1, fun k hk => by rw [h2]; exact r.2 k hk⟩
/-- a heap within the tables, its relations aside -/
def mI (h : XH) : Prop := sinv vT h ∧ True ∧ True ∧ xN h = 153 ∧ xU h = 6051
/-- how many of a row are kept ones -/
def jno (c : Nat) : Nat := if c = 108 then 1 else if c < 113 then 6 else if c < 116 then 9 else if c < 120 then 8 else if c < 123 then 6 else if c < 126 then 3 else 64
def jlo (c k : Nat) : Bool := Nat.blt 107 c && (Nat.blt c 129 && Nat.blt k (jno c))
def swj (w : SWl) (c k : Nat) : Bool := swin w c k && !jlo c k
theorem jlo_t {c k : Nat} (h1 : 108 ≤ c) (h2 : c ≤ 128) (h3 : k < jno c) : jlo c k = true := by
  unfold jlo
  rw [show Nat.blt 107 c = true from Nat.ble_eq_true_of_le h1, show Nat.blt c 129 = true from Nat.ble_eq_true_of_le (Nat.succ_le_succ h2), show Nat.blt k (jno c) = true from Nat.ble_eq_true_of_le h3]
  rfl
theorem jlo_f {c k : Nat} (h : jno c ≤ k) : jlo c k = false := by
  have e : Nat.blt k (jno c) = false := by
    cases hb : Nat.blt k (jno c) with
    | false => rfl
    | true => exact absurd (Nat.le_of_ble_eq_true hb) (Nat.not_le.mpr (Nat.lt_succ_of_le h))
  unfold jlo
  rw [e, Bool.and_false, Bool.and_false]
theorem swj_no {w : SWl} {c k : Nat} (h : swin w c k = false) : swj w c k = false := by
  unfold swj
  rw [h]
  rfl
theorem swj_lo {w : SWl} {c k : Nat} (h1 : 108 ≤ c) (h2 : c ≤ 128) (h3 : k < jno c) : swj w c k = false := by
  unfold swj
  rw [jlo_t h1 h2 h3, Bool.not_true, Bool.and_false]
theorem swj_s {w : SWl} {c k : Nat} (h : swin w c k = true) (hk : jno c ≤ k) : swj w c k = true := by
  unfold swj
  rw [h, jlo_f hk]
  rfl
theorem swj_in {V W : SWl} (h : swsub V W = true) {c k : Nat} (hc : swj W c k = false) : swj V c k = false := by
  unfold swj at hc ⊢
  cases hj : jlo c k with
  | true => rw [Bool.not_true, Bool.and_false]
  | false =>
    rw [hj, Bool.not_false, Bool.and_true] at hc
    rw [swsub_in h hc]
    rfl
/-- a frame that keeps what is kept of a text, too -/
def sframeJ (W : SW) (h h' : XH) : Prop := (∀ c k, swj W.1 c k = false → xI h' c k = xI h c k) ∧ (∀ c k, swiR W.2 c k = false → xR h' c k = xR h c k)
theorem sframeJ.rf {W : SW} {h : XH} : sframeJ W h h := ⟨fun _ _ _ => rfl, fun _ _ _ => rfl⟩
theorem sframeJ.tr {W : SW} {a b c : XH} (h1 : sframeJ W a b) (h2 : sframeJ W b c) : sframeJ W a c := ⟨fun x k hx => (h2.1 x k hx).trans (h1.1 x k hx), fun x k hx => (h2.2 x k hx).trans (h1.2 x k hx)⟩
theorem sframeJ.mono {V W : SW} {h h' : XH} (a : sframeJ V h h') (h1 : swsub V.1 W.1 = true) (h2 : V.2 = []) : sframeJ W h h' :=
  ⟨fun c k hc => a.1 c k (swj_in h1 hc), fun c k _ => a.2 c k (by rw [h2]; rfl)⟩
theorem sframeJ.to {W : SW} {h h' : XH} (a : sframeJ W h h') : sframe W h h' := ⟨fun c k hc => a.1 c k (swj_no hc), a.2⟩
theorem sframeJ.set {W : SW} {h : XH} {c k : Nat} {v : Int32} (hw : swj W.1 c k = true) : sframeJ W h (xsetI h c k v) :=
  ⟨fun x j hx => yI_ne (eq_false (fun z => by rw [z.1, z.2, hw] at hx; cases hx)), fun _ _ _ => rfl⟩
def mT (W : SW) (h h' : XH) : Prop := mI h' ∧ sframeJ W h h'
theorem mR.w {W : SW} {b : Nat → Int} {n : Nat} {h h' : XH} (r : mR b n h) (f : sframeJ W h h') (h1 : swin W.1 104 6 = false) (h2 : ∀ k, swin W.1 105 k = false) : mR b n h' := r.fr (f.1 104 6 (swj_no h1)) (fun k => f.1 105 k (swj_no (h2 k)))
def mT0 (W : SW) (h h' : XH) : Prop := mI h' ∧ sframe W h h'
theorem mT.to {W : SW} {h h' : XH} (a : mT W h h') : mT0 W h h' := ⟨a.1, a.2.to⟩
theorem mT0.tr {W : SW} {a b c : XH} (x : mT0 W a b) (y : mT0 W b c) : mT0 W a c := ⟨y.1, x.2.tr y.2⟩
theorem mI.of {h : XH} (g : sgood vT vR vE 153 6051 h) : mI h := ⟨g.1, trivial, trivial, g.2.2.2⟩
theorem mT.rf {W : SW} {h : XH} (g : mI h) : mT W h h := ⟨g, sframeJ.rf⟩
theorem mT.tr {W : SW} {a b c : XH} (x : mT W a b) (y : mT W b c) : mT W a c := ⟨y.1, x.2.tr y.2⟩
theorem mT.set {W : SW} {h h' : XH} (a : mT W h h') {c k : Nat} {v : Int32} (hv : (vI c k).1 ≤ v.toInt ∧ v.toInt ≤ (vI c k).2) (hw : swj W.1 c k = true) : mT W h (xsetI h' c k v) := ⟨⟨sinv_setI a.1.1 hv, trivial, trivial, a.1.2.2.2⟩, a.2.tr (sframeJ.set hw)⟩
def stkW : SWl := [(104, 7, false), (104, 8, false), (104, 9, false)]
def stk : SRl → Bool
  | .inl r => !stch stkW (.inl r) || ((sqs r.1 [(104, 8, (1, 1))] && sqe r.2 (104, 9, (0, 19))) || (sqs r.1 [(104, 8, (5, 5))] && sqe r.2 (104, 9, (0, 5))))
  | .inr r => !stch stkW (.inr r) || ((Nat.beq r.1.1 104 && Nat.beq r.1.2 7) && (Nat.beq r.2.1 104 && Nat.beq r.2.2 6))
theorem stk_all : vR.all stk = true := by decide +kernel
theorem srw_tok {h h' : XH} (hr : srw vR [] h) (he : ∀ c k, swin stkW c k = false → swin vRC c k = true → xI h' c k = xI h c k) (hl : (xI h' 104 7).toInt ≤ (xI h' 104 6).toInt) (h1 : (xI h' 104 8).toInt = 1 → 0 ≤ (xI h' 104 9).toInt ∧ (xI h' 104 9).toInt ≤ 19) (h5 : (xI h' 104 8).toInt = 5 → 0 ≤ (xI h' 104 9).toInt ∧ (xI h' 104 9).toInt ≤ 5) : srw vR [] h' := by
  intro r hm _
  have y := List.all_eq_true.mp stk_all r hm
  have z := vRC_in (vR_c r hm)
  have emp : ∀ r : SRl, stch [] r = false := fun r => by
    cases r with
    | inl r =>
      show (r.1.any (fun q => swin [] q.1 q.2.1) || swin [] r.2.1 r.2.2.1) = false
      rw [show (fun q : SQ => swin [] q.1 q.2.1) = (fun _ => false) from rfl, List.any_eq_false.mpr (fun _ _ => by simp)]
      rfl
    | inr r => rfl
  cases r with
  | inl r =>
    have y : (!stch stkW (.inl r) || ((sqs r.1 [(104, 8, (1, 1))] && sqe r.2 (104, 9, (0, 19))) || (sqs r.1 [(104, 8, (5, 5))] && sqe r.2 (104, 9, (0, 5))))) = true := y
    rw [Bool.or_eq_true, Bool.or_eq_true, Bool.and_eq_true, Bool.and_eq_true] at y
    rcases y with y | ⟨y1, y2⟩ | ⟨y1, y2⟩
    · rw [Bool.not_eq_true'] at y
      have y : (r.1.any (fun q => swin stkW q.1 q.2.1) || swin stkW r.2.1 r.2.2.1) = false := y
      rw [Bool.or_eq_false_iff] at y
      intro hall
      have : sqin h r.2 := hr (.inl r) hm (emp _) (fun q hq => by
        have e1 : swin stkW q.1 q.2.1 = false := by
          have := List.any_eq_false.mp y.1 q hq
          simpa using this
        have := hall q hq
        unfold sqin at this ⊢
        rw [he _ _ e1 (z.1 q hq)] at this
        exact this)
      unfold sqin at this ⊢
      rw [he _ _ y.2 z.2]
      exact this
    · rw [show r = ([(104, 8, (1, 1))], (104, 9, (0, 19))) from Prod.ext (sqs_eq y1) (sqe_eq y2)]
      intro hall
      have := hall (104, 8, (1, 1)) List.mem_cons_self
      exact h1 (by have a : (1 : Int) ≤ (xI h' 104 8).toInt := this.1; have b : (xI h' 104 8).toInt ≤ (1 : Int) := this.2; omega)
    · rw [show r = ([(104, 8, (5, 5))], (104, 9, (0, 5))) from Prod.ext (sqs_eq y1) (sqe_eq y2)]
      intro hall
      have := hall (104, 8, (5, 5)) List.mem_cons_self
      exact h5 (by have a : (5 : Int) ≤ (xI h' 104 8).toInt := this.1; have b : (xI h' 104 8).toInt ≤ (5 : Int) := this.2; omega)
  | inr r =>
    have y : (!stch stkW (.inr r) || ((Nat.beq r.1.1 104 && Nat.beq r.1.2 7) && (Nat.beq r.2.1 104 && Nat.beq r.2.2 6))) = true := y
    show (xI h' r.1.1 r.1.2).toInt ≤ (xI h' r.2.1 r.2.2).toInt
    rw [Bool.or_eq_true] at y
    rcases y with y | y
    · rw [Bool.not_eq_true'] at y
      have y : (swin stkW r.1.1 r.1.2 || swin stkW r.2.1 r.2.2) = false := y
      rw [Bool.or_eq_false_iff] at y
      rw [he _ _ y.1 z.1, he _ _ y.2 z.2]
      exact hr (.inr r) hm (emp _)
    · rw [Bool.and_eq_true, Bool.and_eq_true, Bool.and_eq_true] at y
      rw [Nat.eq_of_beq_eq_true y.1.1, Nat.eq_of_beq_eq_true y.1.2, Nat.eq_of_beq_eq_true y.2.1, Nat.eq_of_beq_eq_true y.2.2]
      exact hl
theorem tokW {c k : Nat} (h : swin ([(104, 7, false), (104, 8, false), (104, 9, false), (104, 10, false)] : SWl) c k = true) : c = 104 ∧ (k = 7 ∨ k = 8 ∨ k = 9 ∨ k = 10) := by
  unfold swin at h
  simp only [List.any_cons, List.any_nil, Bool.or_eq_true, Bool.and_eq_true] at h
  rcases h with ⟨h1, h2⟩ | ⟨h1, h2⟩ | ⟨h1, h2⟩ | ⟨h1, h2⟩ | h
  · exact ⟨(Nat.eq_of_beq_eq_true h1).symm, Or.inl (Nat.eq_of_beq_eq_true (h2.resolve_left (fun z => by cases z))).symm⟩
  · exact ⟨(Nat.eq_of_beq_eq_true h1).symm, Or.inr (Or.inl (Nat.eq_of_beq_eq_true (h2.resolve_left (fun z => by cases z))).symm)⟩
  · exact ⟨(Nat.eq_of_beq_eq_true h1).symm, Or.inr (Or.inr (Or.inl (Nat.eq_of_beq_eq_true (h2.resolve_left (fun z => by cases z))).symm))⟩
  · exact ⟨(Nat.eq_of_beq_eq_true h1).symm, Or.inr (Or.inr (Or.inr (Nat.eq_of_beq_eq_true (h2.resolve_left (fun z => by cases z))).symm))⟩
  · cases h
/-- behind a token all is good again -/
theorem mT.good {h h' : XH} (a : mT ([(104, 7, false), (104, 8, false), (104, 9, false), (104, 10, false)], []) h h') (g : sgood vT vR vE 153 6051 h) (hl : (xI h' 104 7).toInt ≤ (xI h' 104 6).toInt) (h1 : (xI h' 104 8).toInt = 1 → 0 ≤ (xI h' 104 9).toInt ∧ (xI h' 104 9).toInt ≤ 19) (h5 : (xI h' 104 8).toInt = 5 → 0 ≤ (xI h' 104 9).toInt ∧ (xI h' 104 9).toInt ≤ 5) : vG ([(104, 7, false), (104, 8, false), (104, 9, false), (104, 10, false)], []) h h' := by
  have no : ∀ {x : Bool}, (x = true → False) → x = false := fun {x} z => by
    cases x with
    | false => rfl
    | true => exact (z rfl).elim
  refine ⟨⟨a.1.1, srw_tok g.2.1 (fun c k e e2 => a.2.1 c k (swj_no (no fun z => ?_))) hl h1 h5, vE_fr h h' (fun c k hck => a.2.1 c k (swj_no (no fun z => ?_))) g.2.2.1, a.1.2.2.2⟩, a.2.to⟩
  · obtain ⟨rfl, zk⟩ := tokW z
    rcases zk with rfl | rfl | rfl | rfl
    · cases e
    · cases e
    · cases e
    · exact absurd e2 (by decide)
  · obtain ⟨rfl, zk⟩ := tokW z
    rw [vEC_no (by decide) k] at hck
    cases hck
theorem zm_s {h : XH} (hg : sinv vT h) {k : Nat} (hk : k < 105) : (xI h 106 k).toInt = zmB k := by
  have z := vbnd hg 106 k
  rw [zm_cell k hk] at z
  have z1 : zmB k ≤ _ := z.1
  have z2 : _ ≤ zmB k := z.2
  omega
set_option maxRecDepth 100000 in
set_option maxHeartbeats 2000000 in
theorem mk_wlen (l : Launch) (h : XH) (hg : mI h) (a r k f : Int32) (s6 i7 : XV) (K : Nat) (hK : K < 20) (hf : f.toInt = zmf.getD K 0) : ∀ (m : Nat) (n : Int32), 0 ≤ n.toInt → n.toInt + m = zml.getD K 0 → XT l 0 0 false 182 153 6051 18 [xf 13 104, xi a, xi r, xi k, xi f, xi n, s6, i7] [] h 39 [xf 13 104, xi a, xi r, xi k, xi f, xi (Int32.ofInt (zml.getD K 0 : Nat)), s6, i7] [] h
  | 0, n, n0, nm => by
    obtain ⟨z1, z2, z3, z4, z5, z6⟩ := zm_ok K hK
    have ea : (f + n).toInt = f.toInt + n.toInt := by rw [Int32.toInt_add]; exact Int.bmod_eq_of_le (by omega) (by omega)
    have na : (f + n).toNatClampNeg = zmf.getD K 0 + n.toInt.toNat := by
      show (f + n).toInt.toNat = _
      omega
    have ev : (xI h 106 (f + n).toNatClampNeg).toInt = zmB (zmf.getD K 0 + n.toInt.toNat) := by rw [na]; exact zm_s hg.1 (by omega)
    rw [show n.toInt.toNat = zml.getD K 0 by omega, z2] at ev
    have en : n = Int32.ofInt (zml.getD K 0 : Nat) := by rw [← i32_self n]; exact congrArg Int32.ofInt (by omega)
    have r3 : xR h 104 3 = 106 := vref hg.1 rfl
    have t1 : XT l 0 0 false 182 153 6051 18 [xf 13 104, xi a, xi r, xi k, xi f, xi n, s6, i7] [] h 39 [xf 13 104, xi a, xi r, xi k, xi f, xi n, s6, i7] [] h := XT_path (l := l) (fr := 0) (lo := 0) (full := false) (M := 182) (n := 153) (u := 6051) (pc := 18) (L := [xf 13 104, xi a, xi r, xi k, xi f, xi n, s6, i7]) (st := []) (h := h) (inl := []) (n' := 80) (sp := [39]) (o := [1]) rfl rfl ⟨rfl, rfl, rfl⟩ rfl ⟨Nat.le_of_eq hg.2.2.2.1, Nat.le_of_eq hg.2.2.2.2⟩ ⟨⟨⟨trivial, (vnn hg.1 (rfl : vRf 104 3 = [106]) (by decide))⟩, (vp_of (i := (f + n)) (n := 105) (by omega) (by omega))⟩, (show xI h (xR h 104 3) (f + n).toNatClampNeg = _ from by rw [r3]; exact Int32.toInt_inj.mp ev)⟩
    rw [← en]
    exact t1
  | m + 1, n, n0, nm => by
    obtain ⟨z1, z2, z3, z4, z5, z6⟩ := zm_ok K hK
    have ea : (f + n).toInt = f.toInt + n.toInt := by rw [Int32.toInt_add]; exact Int.bmod_eq_of_le (by omega) (by omega)
    have na : (f + n).toNatClampNeg = zmf.getD K 0 + n.toInt.toNat := by
      show (f + n).toInt.toNat = _
      omega
    have ev : (xI h 106 (f + n).toNatClampNeg).toInt = zmB (zmf.getD K 0 + n.toInt.toNat) := by rw [na]; exact zm_s hg.1 (by omega)
    have z7 := z1 n.toInt.toNat (by omega)
    have r3 : xR h 104 3 = 106 := vref hg.1 rfl
    have t2 : XT l 0 0 false 182 153 6051 18 [xf 13 104, xi a, xi r, xi k, xi f, xi n, s6, i7] [] h 18 [xf 13 104, xi a, xi r, xi k, xi f, xi (n + Int32.ofInt (1)), s6, i7] [] h := XT_path (l := l) (fr := 0) (lo := 0) (full := false) (M := 182) (n := 153) (u := 6051) (pc := 18) (L := [xf 13 104, xi a, xi r, xi k, xi f, xi n, s6, i7]) (st := []) (h := h) (inl := []) (n' := 80) (sp := [18]) (o := [0]) rfl rfl ⟨rfl, rfl, rfl⟩ rfl ⟨Nat.le_of_eq hg.2.2.2.1, Nat.le_of_eq hg.2.2.2.2⟩ ⟨⟨⟨trivial, (vnn hg.1 (rfl : vRf 104 3 = [106]) (by decide))⟩, (vp_of (i := (f + n)) (n := 105) (by omega) (by omega))⟩, (show ¬ xI h (xR h 104 3) (f + n).toNatClampNeg = _ from by rw [r3]; exact fun z => by have := congrArg Int32.toInt z; have e32 : (Int32.ofInt (32)).toInt = 32 := rfl; omega)⟩
    have ei := y_suc1 n0 (by omega)
    exact t2.tr (mk_wlen l h hg a r k f s6 i7 K hK hf m _ (by omega) (by omega))
set_option maxRecDepth 100000 in
set_option maxHeartbeats 2000000 in
theorem mk_wcmp (l : Launch) (b : Nat → Int) (n : Nat) (h : XH) (hg : mI h) (rr : mR b n h) (a r k f L : Int32) (q K : Nat) (hK : K < 20) (hf : f.toInt = zmf.getD K 0) (ha : a.toInt = q) (hL : L.toInt = zml.getD K 0) (hq : q + zml.getD K 0 ≤ n) (hn7 : n ≤ 700) : ∀ (m : Nat) (i : Int32), 0 ≤ i.toInt → i.toInt + m = zml.getD K 0 → (∀ j, j < i.toInt.toNat → b (q + j) = zmB (zmf.getD K 0 + j)) → ∃ s i', XT l 0 0 false 182 153 6051 57 [xf 13 104, xi a, xi r, xi k, xi f, xi L, xi (Int32.ofInt (1)), xi i] [] h 104 [xf 13 104, xi a, xi r, xi k, xi f, xi L, xi s, xi i'] [] h ∧ ((s = Int32.ofInt (1) ∧ ∀ j, j < zml.getD K 0 → b (q + j) = zmB (zmf.getD K 0 + j)) ∨ (s = Int32.ofInt (0) ∧ ¬ ∀ j, j < zml.getD K 0 → b (q + j) = zmB (zmf.getD K 0 + j)))
  | 0, i, i0, im, all => by
    obtain ⟨z1, z2, z3, z4, z5, z6⟩ := zm_ok K hK
    have t1 : XT l 0 0 false 182 153 6051 57 [xf 13 104, xi a, xi r, xi k, xi f, xi L, xi (Int32.ofInt (1)), xi i] [] h 104 [xf 13 104, xi a, xi r, xi k, xi f, xi L, xi (Int32.ofInt (1)), xi i] [] h := XT_path (l := l) (fr := 0) (lo := 0) (full := false) (M := 182) (n := 153) (u := 6051) (pc := 57) (L := [xf 13 104, xi a, xi r, xi k, xi f, xi L, xi (Int32.ofInt (1)), xi i]) (st := []) (h := h) (inl := []) (n' := 80) (sp := [104]) (o := [1]) rfl rfl ⟨rfl, rfl, rfl⟩ rfl ⟨Nat.le_of_eq hg.2.2.2.1, Nat.le_of_eq hg.2.2.2.2⟩ ⟨trivial, (Int32.le_iff_toInt_le.mpr (by omega))⟩
    exact ⟨_, _, t1, Or.inl ⟨rfl, fun j hj => all j (by omega)⟩⟩
  | m + 1, i, i0, im, all => by
    obtain ⟨z1, z2, z3, z4, z5, z6⟩ := zm_ok K hK
    have ea : (f + i).toInt = f.toInt + i.toInt := by rw [Int32.toInt_add]; exact Int.bmod_eq_of_le (by omega) (by omega)
    have na : (f + i).toNatClampNeg = zmf.getD K 0 + i.toInt.toNat := by
      show (f + i).toInt.toNat = _
      omega
    have ev : (xI h 106 (f + i).toNatClampNeg).toInt = zmB (zmf.getD K 0 + i.toInt.toNat) := by rw [na]; exact zm_s hg.1 (by omega)
    have eq_ : (a + i).toInt = a.toInt + i.toInt := by rw [Int32.toInt_add]; exact Int.bmod_eq_of_le (by omega) (by omega)
    have nq : (a + i).toNatClampNeg = q + i.toInt.toNat := by
      show (a + i).toInt.toNat = _
      omega
    have eb := rr.2 (q + i.toInt.toNat) (by omega)
    rw [← nq] at eb
    have z7 := z1 i.toInt.toNat (by omega)
    by_cases c1 : (xI h (xR h 104 3) ((f + i)).toNatClampNeg) = (xI h (xR h 104 0) ((a + i)).toNatClampNeg)
    · have c1r := c1
      rw [vref hg.1 (rfl : vRf 104 3 = [106]), vref hg.1 (rfl : vRf 104 0 = [105])] at c1r
      have dc1 : (xI h 106 ((f + i)).toNatClampNeg).toInt = (xI h 105 ((a + i)).toNatClampNeg).toInt := congrArg Int32.toInt c1r
      have ei := y_suc1 i0 (by omega)
      have t2 : XT l 0 0 false 182 153 6051 57 [xf 13 104, xi a, xi r, xi k, xi f, xi L, xi (Int32.ofInt (1)), xi i] [] h 57 [xf 13 104, xi a, xi r, xi k, xi f, xi L, xi (Int32.ofInt (1)), xi (i + Int32.ofInt (1))] [] h := XT_path (l := l) (fr := 0) (lo := 0) (full := false) (M := 182) (n := 153) (u := 6051) (pc := 57) (L := [xf 13 104, xi a, xi r, xi k, xi f, xi L, xi (Int32.ofInt (1)), xi i]) (st := []) (h := h) (inl := []) (n' := 80) (sp := [57]) (o := [0, 0, 0]) rfl rfl ⟨rfl, rfl, rfl⟩ rfl ⟨Nat.le_of_eq hg.2.2.2.1, Nat.le_of_eq hg.2.2.2.2⟩ ⟨⟨⟨⟨⟨⟨⟨trivial, (fun z => absurd (Int32.le_iff_toInt_le.mp z) (by omega))⟩, (by decide)⟩, (vnn hg.1 (rfl : vRf 104 3 = [106]) (by decide))⟩, (vp_of (i := (f + i)) (n := 105) (by omega) (by omega))⟩, (vnn hg.1 (rfl : vRf 104 0 = [105]) (by decide))⟩, (vp_of (i := (a + i)) (n := 700) (by omega) (by omega))⟩, c1⟩
      have kb : b (a + i).toNatClampNeg = zmB (zmf.getD K 0 + i.toInt.toNat) := sby_yes eb (by omega) (by omega) (dc1.symm.trans ev)
      rw [nq] at kb
      obtain ⟨s, i', tL, y⟩ := mk_wcmp l b n h hg rr a r k f L q K hK hf ha hL hq hn7 m (i + (Int32.ofInt (1))) (by omega) (by omega) (fun j hj => (Nat.lt_or_ge j i.toInt.toNat).elim (fun y => all j y) (fun y => by rw [show j = i.toInt.toNat by omega]; exact kb))
      exact ⟨s, i', t2.tr tL, y⟩
    · have c1r := c1
      rw [vref hg.1 (rfl : vRf 104 3 = [106]), vref hg.1 (rfl : vRf 104 0 = [105])] at c1r
      have dc1 : ¬ (xI h 106 ((f + i)).toNatClampNeg).toInt = (xI h 105 ((a + i)).toNatClampNeg).toInt := fun z_ => c1r (Int32.toInt_inj.mp z_)
      have ei := y_suc1 i0 (by omega)
      have t3 : XT l 0 0 false 182 153 6051 57 [xf 13 104, xi a, xi r, xi k, xi f, xi L, xi (Int32.ofInt (1)), xi i] [] h 57 [xf 13 104, xi a, xi r, xi k, xi f, xi L, xi (Int32.ofInt (0)), xi (i + Int32.ofInt (1))] [] h := XT_path (l := l) (fr := 0) (lo := 0) (full := false) (M := 182) (n := 153) (u := 6051) (pc := 57) (L := [xf 13 104, xi a, xi r, xi k, xi f, xi L, xi (Int32.ofInt (1)), xi i]) (st := []) (h := h) (inl := []) (n' := 80) (sp := [57]) (o := [0, 0, 1]) rfl rfl ⟨rfl, rfl, rfl⟩ rfl ⟨Nat.le_of_eq hg.2.2.2.1, Nat.le_of_eq hg.2.2.2.2⟩ ⟨⟨⟨⟨⟨⟨⟨trivial, (fun z => absurd (Int32.le_iff_toInt_le.mp z) (by omega))⟩, (by decide)⟩, (vnn hg.1 (rfl : vRf 104 3 = [106]) (by decide))⟩, (vp_of (i := (f + i)) (n := 105) (by omega) (by omega))⟩, (vnn hg.1 (rfl : vRf 104 0 = [105]) (by decide))⟩, (vp_of (i := (a + i)) (n := 700) (by omega) (by omega))⟩, c1⟩
      have kb : ¬ b (a + i).toNatClampNeg = zmB (zmf.getD K 0 + i.toInt.toNat) := sby_ne eb (by omega) (by omega) (fun z => dc1 (ev.trans z.symm))
      rw [nq] at kb
      by_cases c54 : L ≤ (i + Int32.ofInt (1))
      · have dc54 : (L).toInt ≤ (i + Int32.ofInt (1)).toInt := Int32.le_iff_toInt_le.mp c54
        have t55 : XT l 0 0 false 182 153 6051 57 [xf 13 104, xi a, xi r, xi k, xi f, xi L, xi (Int32.ofInt (0)), xi (i + Int32.ofInt (1))] [] h 104 [xf 13 104, xi a, xi r, xi k, xi f, xi L, xi (Int32.ofInt (0)), xi (i + Int32.ofInt (1))] [] h := XT_path (l := l) (fr := 0) (lo := 0) (full := false) (M := 182) (n := 153) (u := 6051) (pc := 57) (L := [xf 13 104, xi a, xi r, xi k, xi f, xi L, xi (Int32.ofInt (0)), xi (i + Int32.ofInt (1))]) (st := []) (h := h) (inl := []) (n' := 80) (sp := [104]) (o := [1]) rfl rfl ⟨rfl, rfl, rfl⟩ rfl ⟨Nat.le_of_eq hg.2.2.2.1, Nat.le_of_eq hg.2.2.2.2⟩ ⟨trivial, c54⟩
        have t56 := t3.tr t55
        exact ⟨_, _, t56, Or.inr ⟨rfl, fun z => kb (z i.toInt.toNat (by omega))⟩⟩
      · have dc54 : (i + Int32.ofInt (1)).toInt < (L).toInt := Int32.lt_iff_toInt_lt.mp (Int32.not_le.mp c54)
        have t57 : XT l 0 0 false 182 153 6051 57 [xf 13 104, xi a, xi r, xi k, xi f, xi L, xi (Int32.ofInt (0)), xi (i + Int32.ofInt (1))] [] h 104 [xf 13 104, xi a, xi r, xi k, xi f, xi L, xi (Int32.ofInt (0)), xi (i + Int32.ofInt (1))] [] h := XT_path (l := l) (fr := 0) (lo := 0) (full := false) (M := 182) (n := 153) (u := 6051) (pc := 57) (L := [xf 13 104, xi a, xi r, xi k, xi f, xi L, xi (Int32.ofInt (0)), xi (i + Int32.ofInt (1))]) (st := []) (h := h) (inl := []) (n' := 80) (sp := [104]) (o := [0, 1]) rfl rfl ⟨rfl, rfl, rfl⟩ rfl ⟨Nat.le_of_eq hg.2.2.2.1, Nat.le_of_eq hg.2.2.2.2⟩ ⟨⟨trivial, c54⟩, rfl⟩
        have t58 := t3.tr t57
        exact ⟨_, _, t58, Or.inr ⟨rfl, fun z => kb (z i.toInt.toNat (by omega))⟩⟩
set_option maxRecDepth 100000 in
set_option maxHeartbeats 2000000 in
theorem mk_wordL (l : Launch) (b : Nat → Int) (n : Nat) (h : XH) (hg : mI h) (rr : mR b n h) (a r : Int32) (q m : Nat) (ha : a.toInt = q) (hr : r.toInt = (q + m : Nat)) (hq : q + m ≤ n) (hn7 : n ≤ 700) : ∀ (j : Nat) (k f : Int32) (x5 x6 x7 : XV), 0 ≤ k.toInt → k.toInt + j = 20 → f.toInt = zmf.getD k.toInt.toNat 0 → ∃ v pcR L', XT l 0 0 false 182 153 6051 5 [xf 13 104, xi a, xi r, xi k, xi f, x5, x6, x7] [] h pcR L' [xi v] h ∧ XE 182 pcR [xi v] ∧ L'.length = 8 ∧ v.toInt = mWd b q m j k.toInt.toNat
  | 0, k, f, x5, x6, x7, k0, kj, hf => by
    rw [show k.toInt.toNat = 20 by omega, show zmf.getD 20 0 = 105 from rfl] at hf
    have e105 : (Int32.ofNat (xfk 13 3 - 10000)).toInt = 105 := rfl
    have t1 : XT l 0 0 false 182 153 6051 5 [xf 13 104, xi a, xi r, xi k, xi f, x5, x6, x7] [] h 127 [xf 13 104, xi a, xi r, xi k, xi f, x5, x6, x7] [xi (Int32.ofInt (-1))] h := XT_path (l := l) (fr := 0) (lo := 0) (full := false) (M := 182) (n := 153) (u := 6051) (pc := 5) (L := [xf 13 104, xi a, xi r, xi k, xi f, x5, x6, x7]) (st := []) (h := h) (inl := []) (n' := 80) (sp := [127]) (o := [1]) rfl rfl ⟨rfl, rfl, rfl⟩ rfl ⟨Nat.le_of_eq hg.2.2.2.1, Nat.le_of_eq hg.2.2.2.2⟩ ⟨⟨trivial, (vnn hg.1 (rfl : vRf 104 3 = [106]) (by decide))⟩, (Int32.le_iff_toInt_le.mpr (by omega))⟩
    exact ⟨_, _, _, t1, ⟨_, _, _, rfl, rfl, rfl⟩, rfl, rfl⟩
  | j + 1, k, f, x5, x6, x7, k0, kj, hf => by
    have hK : k.toInt.toNat < 20 := by omega
    obtain ⟨z1, z2, z3, z4, z5, z6⟩ := zm_ok k.toInt.toNat hK
    have e105 : (Int32.ofNat (xfk 13 3 - 10000)).toInt = 105 := rfl
    obtain ⟨K, eK⟩ : ∃ z, z = k.toInt.toNat := ⟨_, rfl⟩
    rw [← eK] at hf hK z1 z2 z3 z4 z5 z6 ⊢
    have eL : (Int32.ofInt (zml.getD K 0 : Nat)).toInt = zml.getD K 0 := j32_small (by omega)
    have es : (r - a).toInt = m := by
      rw [Int32.toInt_sub, hr, ha, Int.bmod_eq_of_le (by omega) (by omega)]
      omega
    have ek := y_suc1 k0 (by omega)
    have nk : (k + (Int32.ofInt (1))).toInt.toNat = K + 1 := by omega
    have ef : (f + ((Int32.ofInt (zml.getD K 0 : Nat)) + (Int32.ofInt (1)))).toInt = zmf.getD (K + 1) 0 := by
      rw [Int32.toInt_add, Int32.toInt_add, eL, hf, show (Int32.ofInt (1)).toInt = 1 from rfl, z3]
      rw [Int.bmod_eq_of_le (n := (zml.getD K 0 : Int) + 1) (by omega) (by omega)]
      rw [Int.bmod_eq_of_le (by omega) (by omega)]
      omega
    have t1 : XT l 0 0 false 182 153 6051 5 [xf 13 104, xi a, xi r, xi k, xi f, x5, x6, x7] [] h 18 [xf 13 104, xi a, xi r, xi k, xi f, xi (Int32.ofInt (0)), x6, x7] [] h := XT_path (l := l) (fr := 0) (lo := 0) (full := false) (M := 182) (n := 153) (u := 6051) (pc := 5) (L := [xf 13 104, xi a, xi r, xi k, xi f, x5, x6, x7]) (st := []) (h := h) (inl := []) (n' := 80) (sp := [18]) (o := [0]) rfl rfl ⟨rfl, rfl, rfl⟩ rfl ⟨Nat.le_of_eq hg.2.2.2.1, Nat.le_of_eq hg.2.2.2.2⟩ ⟨⟨trivial, (vnn hg.1 (rfl : vRf 104 3 = [106]) (by decide))⟩, (fun z => absurd (Int32.le_iff_toInt_le.mp z) (by omega))⟩
    have tl := mk_wlen l h hg a r k f x6 x7 K hK hf (zml.getD K 0) (Int32.ofInt (0)) (by decide) (by simp)
    have t2 := t1.tr tl
    by_cases c3 : (Int32.ofInt (zml.getD K 0 : Nat)) = (r - a)
    · have e_0 : (0 : Int32).toInt = 0 := rfl
      have dc3 : (Int32.ofInt (zml.getD K 0 : Nat)).toInt = (r - a).toInt := congrArg Int32.toInt c3
      have t4 : XT l 0 0 false 182 153 6051 39 [xf 13 104, xi a, xi r, xi k, xi f, xi (Int32.ofInt (zml.getD K 0 : Nat)), x6, x7] [] h 57 [xf 13 104, xi a, xi r, xi k, xi f, xi (Int32.ofInt (zml.getD K 0 : Nat)), xi (Int32.ofInt (1)), xi (Int32.ofInt (0))] [] h := XT_path (l := l) (fr := 0) (lo := 0) (full := false) (M := 182) (n := 153) (u := 6051) (pc := 39) (L := [xf 13 104, xi a, xi r, xi k, xi f, xi (Int32.ofInt (zml.getD K 0 : Nat)), x6, x7]) (st := []) (h := h) (inl := []) (n' := 80) (sp := [57]) (o := [0]) rfl rfl ⟨rfl, rfl, rfl⟩ rfl ⟨Nat.le_of_eq hg.2.2.2.1, Nat.le_of_eq hg.2.2.2.2⟩ ⟨trivial, c3⟩
      have t5 := t2.tr t4
      have em : zml.getD K 0 = m := by omega
      obtain ⟨s, i', tc, y⟩ := mk_wcmp l b n h hg rr a r k f (Int32.ofInt (zml.getD K 0 : Nat)) q K hK hf ha eL (by omega) hn7 (zml.getD K 0) (Int32.ofInt (0)) (by decide) (by simp) (fun j hj => absurd hj (by simp))
      have t6 := t5.tr tc
      rcases y with ⟨rfl, yy⟩ | ⟨rfl, yy⟩
      · have t57 : XT l 0 0 false 182 153 6051 104 [xf 13 104, xi a, xi r, xi k, xi f, xi (Int32.ofInt (zml.getD K 0 : Nat)), xi (Int32.ofInt (1)), xi i'] [] h 110 [xf 13 104, xi a, xi r, xi k, xi f, xi (Int32.ofInt (zml.getD K 0 : Nat)), xi (Int32.ofInt (1)), xi i'] [xi k] h := XT_path (l := l) (fr := 0) (lo := 0) (full := false) (M := 182) (n := 153) (u := 6051) (pc := 104) (L := [xf 13 104, xi a, xi r, xi k, xi f, xi (Int32.ofInt (zml.getD K 0 : Nat)), xi (Int32.ofInt (1)), xi i']) (st := []) (h := h) (inl := []) (n' := 80) (sp := [110]) (o := [0]) rfl rfl ⟨rfl, rfl, rfl⟩ rfl ⟨Nat.le_of_eq hg.2.2.2.1, Nat.le_of_eq hg.2.2.2.2⟩ ⟨trivial, (by decide)⟩
        have t58 := t6.tr t57
        exact ⟨_, _, _, t58, ⟨_, _, _, rfl, rfl, rfl⟩, rfl, by rw [show k.toInt = (K : Int) by omega]; exact (if_pos (⟨em, fun i hi => yy i (by omega)⟩ : mMt b q m K)).symm⟩
      · have t57 : XT l 0 0 false 182 153 6051 104 [xf 13 104, xi a, xi r, xi k, xi f, xi (Int32.ofInt (zml.getD K 0 : Nat)), xi (Int32.ofInt (0)), xi i'] [] h 5 [xf 13 104, xi a, xi r, xi (k + Int32.ofInt (1)), xi (f + ((Int32.ofInt (zml.getD K 0 : Nat)) + (Int32.ofInt (1)))), xi (Int32.ofInt (zml.getD K 0 : Nat)), xi (Int32.ofInt (0)), xi i'] [] h := XT_path (l := l) (fr := 0) (lo := 0) (full := false) (M := 182) (n := 153) (u := 6051) (pc := 104) (L := [xf 13 104, xi a, xi r, xi k, xi f, xi (Int32.ofInt (zml.getD K 0 : Nat)), xi (Int32.ofInt (0)), xi i']) (st := []) (h := h) (inl := []) (n' := 80) (sp := [5]) (o := [1]) rfl rfl ⟨rfl, rfl, rfl⟩ rfl ⟨Nat.le_of_eq hg.2.2.2.1, Nat.le_of_eq hg.2.2.2.2⟩ ⟨trivial, rfl⟩
        have t58 := t6.tr t57
        have nm : ¬ mMt b q m K := (fun z => yy (fun i hi => z.2 i (by omega)))
        obtain ⟨v, pcR, L', y1, y2, y3, y4⟩ := mk_wordL l b n h hg rr a r q m ha hr hq hn7 j (k + (Int32.ofInt (1))) (f + ((Int32.ofInt (zml.getD K 0 : Nat)) + (Int32.ofInt (1)))) (xi (Int32.ofInt (zml.getD K 0 : Nat))) (xi (Int32.ofInt (0))) (xi i') (by omega) (by omega) (by rw [nk]; exact ef)
        exact ⟨v, pcR, L', t58.tr y1, y2, y3, by rw [y4, nk]; exact (if_neg nm).symm⟩
    · have e_0 : (0 : Int32).toInt = 0 := rfl
      have dc3 : ¬ (Int32.ofInt (zml.getD K 0 : Nat)).toInt = (r - a).toInt := fun z_ => c3 (Int32.toInt_inj.mp z_)
      have t7 : XT l 0 0 false 182 153 6051 39 [xf 13 104, xi a, xi r, xi k, xi f, xi (Int32.ofInt (zml.getD K 0 : Nat)), x6, x7] [] h 57 [xf 13 104, xi a, xi r, xi k, xi f, xi (Int32.ofInt (zml.getD K 0 : Nat)), xi (Int32.ofInt (0)), xi (Int32.ofInt (0))] [] h := XT_path (l := l) (fr := 0) (lo := 0) (full := false) (M := 182) (n := 153) (u := 6051) (pc := 39) (L := [xf 13 104, xi a, xi r, xi k, xi f, xi (Int32.ofInt (zml.getD K 0 : Nat)), x6, x7]) (st := []) (h := h) (inl := []) (n' := 80) (sp := [57]) (o := [1]) rfl rfl ⟨rfl, rfl, rfl⟩ rfl ⟨Nat.le_of_eq hg.2.2.2.1, Nat.le_of_eq hg.2.2.2.2⟩ ⟨trivial, c3⟩
      have t8 := t2.tr t7
      have t59 : XT l 0 0 false 182 153 6051 57 [xf 13 104, xi a, xi r, xi k, xi f, xi (Int32.ofInt (zml.getD K 0 : Nat)), xi (Int32.ofInt (0)), xi (Int32.ofInt (0))] [] h 5 [xf 13 104, xi a, xi r, xi (k + Int32.ofInt (1)), xi (f + ((Int32.ofInt (zml.getD K 0 : Nat)) + (Int32.ofInt (1)))), xi (Int32.ofInt (zml.getD K 0 : Nat)), xi (Int32.ofInt (0)), xi (Int32.ofInt (0))] [] h := XT_path (l := l) (fr := 0) (lo := 0) (full := false) (M := 182) (n := 153) (u := 6051) (pc := 57) (L := [xf 13 104, xi a, xi r, xi k, xi f, xi (Int32.ofInt (zml.getD K 0 : Nat)), xi (Int32.ofInt (0)), xi (Int32.ofInt (0))]) (st := []) (h := h) (inl := []) (n' := 80) (sp := [5]) (o := [0, 1, 1]) rfl rfl ⟨rfl, rfl, rfl⟩ rfl ⟨Nat.le_of_eq hg.2.2.2.1, Nat.le_of_eq hg.2.2.2.2⟩ ⟨⟨⟨trivial, (fun z => absurd (Int32.le_iff_toInt_le.mp z) (by have e0_ : (Int32.ofInt (0)).toInt = 0 := rfl; omega))⟩, rfl⟩, rfl⟩
      have t60 := t8.tr t59
      have nm : ¬ mMt b q m K := (fun z => dc3 (by have := z.1; omega))
      obtain ⟨v, pcR, L', y1, y2, y3, y4⟩ := mk_wordL l b n h hg rr a r q m ha hr hq hn7 j (k + (Int32.ofInt (1))) (f + ((Int32.ofInt (zml.getD K 0 : Nat)) + (Int32.ofInt (1)))) (xi (Int32.ofInt (zml.getD K 0 : Nat))) (xi (Int32.ofInt (0))) (xi (Int32.ofInt (0))) (by omega) (by omega) (by rw [nk]; exact ef)
      exact ⟨v, pcR, L', t60.tr y1, y2, y3, by rw [y4, nk]; exact (if_neg nm).symm⟩
set_option maxRecDepth 100000 in
set_option maxHeartbeats 2000000 in
theorem mk_word (l : Launch) (b : Nat → Int) (n : Nat) (h : XH) (hg : mI h) (rr : mR b n h) (a r : Int32) (q m : Nat) (ha : a.toInt = q) (hr : r.toInt = (q + m : Nat)) (hq : q + m ≤ n) (hn7 : n ≤ 700) : ∃ v, CX l 0 0 false 182 [xf 13 104, xi a, xi r] h [xi v] h ∧ v.toInt = mWd b q m 20 0 := by
  have t1 : XT l 0 0 false 182 153 6051 0 [xf 13 104, xi a, xi r, xun, xun, xun, xun, xun] [] h 5 [xf 13 104, xi a, xi r, xi (Int32.ofInt (0)), xi (Int32.ofInt (0)), xun, xun, xun] [] h := XT_path (l := l) (fr := 0) (lo := 0) (full := false) (M := 182) (n := 153) (u := 6051) (pc := 0) (L := [xf 13 104, xi a, xi r, xun, xun, xun, xun, xun]) (st := []) (h := h) (inl := []) (n' := 80) (sp := [5]) (o := []) rfl rfl ⟨rfl, rfl, rfl⟩ rfl ⟨Nat.le_of_eq hg.2.2.2.1, Nat.le_of_eq hg.2.2.2.2⟩ trivial
  obtain ⟨v, pcR, L', y1, y2, y3, y4⟩ := mk_wordL l b n h hg rr a r q m ha hr hq hn7 20 (Int32.ofInt (0)) (Int32.ofInt (0)) xun xun xun (by decide) (by decide) rfl
  exact ⟨v, CX_ofT (by decide) rfl rfl trivial y2 y3 ⟨Nat.le_of_eq hg.2.2.2.1.symm, Nat.le_of_eq hg.2.2.2.2.symm⟩ (t1.tr y1), y4⟩
def sPm (b : Nat → Int) (q m : Nat) : Nat → Int32
  | 0 => Int32.ofInt (0)
  | j + 1 => (sPm b q m j <<< (Int32.ofInt (5) &&& 31)) ||| (if j < m then Int32.ofInt (b (q + j)) - Int32.ofInt (96) else Int32.ofInt (0))
theorem sPm_v {b : Nat → Int} {q m : Nat} (hm : m ≤ 6) (h : sLs b q m) : ∀ {j : Nat}, j ≤ 6 → (sPm b q m j).toInt = (if j ≤ m then (sNb b q j).toNat else (sNb b q m).toNat * 32 ^ (j - m) : Nat)
  | 0, _ => by
    rw [if_pos (Nat.zero_le _)]
    rfl
  | j + 1, hj => by
    have ih := sPm_v hm h (j := j) (by omega)
    have hb := sNb_b h
    have hbj : j ≤ m → 0 ≤ sNb b q j ∧ sNb b q j < 32 ^ j := fun z => sNb_b (fun i hi => h i (by omega))
    have z : sPm b q m (j + 1) = (sPm b q m j <<< (Int32.ofInt (5) &&& 31)) ||| (if j < m then Int32.ofInt (b (q + j)) - Int32.ofInt (96) else Int32.ofInt (0)) := rfl
    rw [z]
    by_cases hjm : j < m
    · have hl := h j hjm
      have ed : (Int32.ofInt (b (q + j)) - Int32.ofInt (96)).toInt = (b (q + j) - 96).toNat := by
        rw [Int32.toInt_sub, Int32.toInt_ofInt, show (Int32.ofInt (96)).toInt = 96 from rfl]
        rw [Int.bmod_eq_of_le (n := b (q + j)) (by simp; omega) (by simp; omega)]
        rw [Int.bmod_eq_of_le (by omega) (by omega)]
        omega
      rw [if_pos hjm, if_pos (by omega : j + 1 ≤ m)]
      rw [if_pos (by omega : j ≤ m)] at ih
      have hbb := hbj (by omega)
      have hN : (sNb b q j).toNat < 33554432 := by
        rcases (by omega : j = 0 ∨ j = 1 ∨ j = 2 ∨ j = 3 ∨ j = 4 ∨ j = 5) with rfl | rfl | rfl | rfl | rfl | rfl <;> simp at hbb <;> omega
      have e := i32_or_add 5 (by rw [i32_shl5 ih hN]) ed (by omega) (by omega)
      rw [e]
      have : sNb b q (j + 1) = sNb b q j * 32 + (b (q + j) - 96) := rfl
      rw [this]
      omega
    · rw [if_neg hjm, if_neg (by omega : ¬ j + 1 ≤ m)]
      have ih2 : (sPm b q m j).toInt = ((sNb b q m).toNat * 32 ^ (j - m) : Nat) := by
        rw [ih]
        by_cases e : j = m
        · subst e
          rw [if_pos (Nat.le_refl _), Nat.sub_self]
          simp
        · rw [if_neg (by omega)]
      have hN : (sNb b q m).toNat * 32 ^ (j - m) < 33554432 := by
        rcases (by omega : j = 0 ∨ j = 1 ∨ j = 2 ∨ j = 3 ∨ j = 4 ∨ j = 5) with rfl | rfl | rfl | rfl | rfl | rfl <;>
        rcases (by omega : m = 0 ∨ m = 1 ∨ m = 2 ∨ m = 3 ∨ m = 4 ∨ m = 5 ∨ m = 6) with rfl | rfl | rfl | rfl | rfl | rfl | rfl <;> simp at hb ⊢ <;> omega
      have e := i32_or_add (y := 0) 5 (by rw [i32_shl5 ih2 hN]) (show (Int32.ofInt (0)).toInt = ((0 : Nat) : Int) from rfl) (by omega) (by omega)
      rw [e, show j + 1 - m = j - m + 1 by omega, show 32 ^ (j - m + 1) = 32 ^ (j - m) * 32 from Nat.pow_succ _ _, ← Nat.mul_assoc]
      omega
theorem sPm_pk {b : Nat → Int} {q m : Nat} (hm : m ≤ 6) (h : sLs b q m) : sPm b q m 6 = sPk b q m := by
  refine Int32.toInt_inj.mp ?_
  rw [sPm_v hm h (Nat.le_refl _), sPk_v hm h]
  by_cases e : m = 6
  · subst e
    rw [if_pos (Nat.le_refl _)]
    simp
  · rw [if_neg (by omega)]
    rcases (by omega : m = 0 ∨ m = 1 ∨ m = 2 ∨ m = 3 ∨ m = 4 ∨ m = 5) with rfl | rfl | rfl | rfl | rfl | rfl <;> simp
set_option maxRecDepth 100000 in
set_option maxHeartbeats 2000000 in
theorem mk_packL (l : Launch) (b : Nat → Int) (n : Nat) (h : XH) (hg : mI h) (rr : mR b n h) (a r : Int32) (q m : Nat) (ha : a.toInt = q) (hr : r.toInt = (q + m : Nat)) (hq : q + m ≤ n) (hn7 : n ≤ 700) (hl : sLs b q m) : ∀ (f j : Nat) (k : Int32), j + f = 6 → k.toInt = (q + j : Nat) → ∃ k', XT l 0 0 false 183 153 6051 5 [xf 13 104, xi a, xi r, xi (sPm b q m j), xi k] [] h 45 [xf 13 104, xi a, xi r, xi (sPm b q m 6), xi k'] [] h
  | 0, j, k, hj, hk => by
    have e6 : (a + (Int32.ofInt (6))).toInt = q + 6 := by rw [Int32.toInt_add, show (Int32.ofInt (6)).toInt = 6 from rfl, ha]; exact Int.bmod_eq_of_le (by omega) (by omega)
    have t1 : XT l 0 0 false 183 153 6051 5 [xf 13 104, xi a, xi r, xi (sPm b q m j), xi k] [] h 45 [xf 13 104, xi a, xi r, xi (sPm b q m j), xi k] [] h := XT_path (l := l) (fr := 0) (lo := 0) (full := false) (M := 183) (n := 153) (u := 6051) (pc := 5) (L := [xf 13 104, xi a, xi r, xi (sPm b q m j), xi k]) (st := []) (h := h) (inl := []) (n' := 80) (sp := [45]) (o := [1]) rfl rfl ⟨rfl, rfl, rfl⟩ rfl ⟨Nat.le_of_eq hg.2.2.2.1, Nat.le_of_eq hg.2.2.2.2⟩ ⟨trivial, (Int32.le_iff_toInt_le.mpr (by omega))⟩
    obtain rfl : j = 6 := by omega
    exact ⟨_, t1⟩
  | f + 1, j, k, hj, hk => by
    have e6 : (a + (Int32.ofInt (6))).toInt = q + 6 := by rw [Int32.toInt_add, show (Int32.ofInt (6)).toInt = 6 from rfl, ha]; exact Int.bmod_eq_of_le (by omega) (by omega)
    by_cases c1 : r ≤ k
    · have dc1 : (r).toInt ≤ (k).toInt := Int32.le_iff_toInt_le.mp c1
      have ek := y_suc1 (k := k) (by omega) (by omega)
      have t2 : XT l 0 0 false 183 153 6051 5 [xf 13 104, xi a, xi r, xi (sPm b q m j), xi k] [] h 5 [xf 13 104, xi a, xi r, xi (((sPm b q m j) <<< ((Int32.ofInt (5)) &&& 31)) ||| (Int32.ofInt (0))), xi (k + Int32.ofInt (1))] [] h := XT_path (l := l) (fr := 0) (lo := 0) (full := false) (M := 183) (n := 153) (u := 6051) (pc := 5) (L := [xf 13 104, xi a, xi r, xi (sPm b q m j), xi k]) (st := []) (h := h) (inl := []) (n' := 80) (sp := [5]) (o := [0, 1]) rfl rfl ⟨rfl, rfl, rfl⟩ rfl ⟨Nat.le_of_eq hg.2.2.2.1, Nat.le_of_eq hg.2.2.2.2⟩ ⟨⟨trivial, (fun z => absurd (Int32.le_iff_toInt_le.mp z) (by omega))⟩, c1⟩
      have el : (((sPm b q m j) <<< ((Int32.ofInt (5)) &&& 31)) ||| (Int32.ofInt (0))) = sPm b q m (j + 1) := by
        show _ = (sPm b q m j <<< (Int32.ofInt (5) &&& 31)) ||| (if j < m then Int32.ofInt (b (q + j)) - Int32.ofInt (96) else Int32.ofInt (0))
        rw [if_neg (by omega)]
      obtain ⟨k', tL⟩ := mk_packL l b n h hg rr a r q m ha hr hq hn7 hl f (j + 1) (k + (Int32.ofInt (1))) (by omega) (by omega)
      rw [← el] at tL
      exact ⟨k', t2.tr tL⟩
    · have dc1 : (k).toInt < (r).toInt := Int32.lt_iff_toInt_lt.mp (Int32.not_le.mp c1)
      have ek := y_suc1 (k := k) (by omega) (by omega)
      have t3 : XT l 0 0 false 183 153 6051 5 [xf 13 104, xi a, xi r, xi (sPm b q m j), xi k] [] h 5 [xf 13 104, xi a, xi r, xi (((sPm b q m j) <<< ((Int32.ofInt (5)) &&& 31)) ||| ((xI h (xR h 104 0) (k).toNatClampNeg) - (Int32.ofInt (96)))), xi (k + Int32.ofInt (1))] [] h := XT_path (l := l) (fr := 0) (lo := 0) (full := false) (M := 183) (n := 153) (u := 6051) (pc := 5) (L := [xf 13 104, xi a, xi r, xi (sPm b q m j), xi k]) (st := []) (h := h) (inl := []) (n' := 80) (sp := [5]) (o := [0, 0]) rfl rfl ⟨rfl, rfl, rfl⟩ rfl ⟨Nat.le_of_eq hg.2.2.2.1, Nat.le_of_eq hg.2.2.2.2⟩ ⟨⟨⟨⟨trivial, (fun z => absurd (Int32.le_iff_toInt_le.mp z) (by omega))⟩, c1⟩, (vnn hg.1 (rfl : vRf 104 0 = [105]) (by decide))⟩, (vp_of (i := k) (n := 700) (by omega) (by omega))⟩
      rw [vref hg.1 (rfl : vRf 104 0 = [105])] at t3
      have np : k.toNatClampNeg = q + j := by
        show k.toInt.toNat = _
        omega
      have eb := rr.2 (q + j) (by omega)
      rw [← np] at eb
      have lj := hl j (by omega)
      have lw : (97 ≤ b (q + j) ∧ b (q + j) ≤ 122) = (97 ≤ (xI h 105 k.toNatClampNeg).toInt ∧ (xI h 105 k.toNatClampNeg).toInt ≤ 122) := by rw [← np, ← eb]; exact sby_in (by decide) (by decide)
      have ev : xI h 105 k.toNatClampNeg = Int32.ofInt (b (q + j)) := by
        rw [← np, ← eb, sby_val (a := 97) (b := 122) (by decide) (by decide) (lw ▸ lj)]
        exact (i32_self _).symm
      have el : (((sPm b q m j) <<< ((Int32.ofInt (5)) &&& 31)) ||| ((xI h 105 (k).toNatClampNeg) - (Int32.ofInt (96)))) = sPm b q m (j + 1) := by
        show _ = (sPm b q m j <<< (Int32.ofInt (5) &&& 31)) ||| (if j < m then Int32.ofInt (b (q + j)) - Int32.ofInt (96) else Int32.ofInt (0))
        rw [if_pos (by omega), ev]
      obtain ⟨k', tL⟩ := mk_packL l b n h hg rr a r q m ha hr hq hn7 hl f (j + 1) (k + (Int32.ofInt (1))) (by omega) (by omega)
      rw [← el] at tL
      exact ⟨k', t3.tr tL⟩
set_option maxRecDepth 100000 in
set_option maxHeartbeats 2000000 in
theorem mk_pack (l : Launch) (b : Nat → Int) (n : Nat) (h : XH) (hg : mI h) (rr : mR b n h) (a r : Int32) (q m : Nat) (ha : a.toInt = q) (hr : r.toInt = (q + m : Nat)) (hq : q + m ≤ n) (hn7 : n ≤ 700) (hl : sLs b q m) (hm : m ≤ 6) : CX l 0 0 false 183 [xf 13 104, xi a, xi r] h [xi (sPk b q m)] h := by
  have t1 : XT l 0 0 false 183 153 6051 0 [xf 13 104, xi a, xi r, xun, xun] [] h 5 [xf 13 104, xi a, xi r, xi (Int32.ofInt (0)), xi a] [] h := XT_path (l := l) (fr := 0) (lo := 0) (full := false) (M := 183) (n := 153) (u := 6051) (pc := 0) (L := [xf 13 104, xi a, xi r, xun, xun]) (st := []) (h := h) (inl := []) (n' := 80) (sp := [5]) (o := []) rfl rfl ⟨rfl, rfl, rfl⟩ rfl ⟨Nat.le_of_eq hg.2.2.2.1, Nat.le_of_eq hg.2.2.2.2⟩ trivial
  obtain ⟨k', tL⟩ := mk_packL l b n h hg rr a r q m ha hr hq hn7 hl 6 0 a (by decide) (by omega)
  have t2 := t1.tr tL
  rw [sPm_pk hm hl] at t2
  have t3 : XT l 0 0 false 183 153 6051 45 [xf 13 104, xi a, xi r, xi (sPk b q m), xi k'] [] h 46 [xf 13 104, xi a, xi r, xi (sPk b q m), xi k'] [xi (sPk b q m)] h := XT_path (l := l) (fr := 0) (lo := 0) (full := false) (M := 183) (n := 153) (u := 6051) (pc := 45) (L := [xf 13 104, xi a, xi r, xi (sPk b q m), xi k']) (st := []) (h := h) (inl := []) (n' := 80) (sp := [46]) (o := []) rfl rfl ⟨rfl, rfl, rfl⟩ rfl ⟨Nat.le_of_eq hg.2.2.2.1, Nat.le_of_eq hg.2.2.2.2⟩ trivial
  have t4 := t2.tr t3
  exact CX_ofT (h' := h) (by decide) rfl rfl trivial ⟨_, _, _, rfl, rfl, rfl⟩ rfl ⟨Nat.le_of_eq hg.2.2.2.1.symm, Nat.le_of_eq hg.2.2.2.2.symm⟩ t4
/-- how the model tells a token -/
def sKw (c v kd wh : Int) : Prop :=
  (c = 0 ∧ kd = 0) ∨ (c = 1 ∧ (kd = 6 ∨ (kd = 4 ∧ wh = 37))) ∨ (c = 2 ∧ kd = 3 ∧ ((v = wh ∧ wh ≤ 9999) ∨ (v = 10000 ∧ 10000 ≤ wh))) ∨ (c = 3 ∧ kd = 2 ∧ wh = v) ∨ (20 ≤ c ∧ c ≤ 39 ∧ kd = 1 ∧ wh = sKo c) ∨
  (kd = 4 ∧ ((c = 4 ∧ wh = 59) ∨ (c = 5 ∧ wh = 40) ∨ (c = 6 ∧ wh = 41) ∨ (c = 13 ∧ wh = 43) ∨ (c = 14 ∧ wh = 45) ∨ (c = 15 ∧ wh = 42) ∨ (c = 16 ∧ wh = 47))) ∨ (kd = 5 ∧ ((c = 7 ∧ wh = 0) ∨ (c = 8 ∧ wh = 1) ∨ (c = 9 ∧ wh = 2) ∨ (c = 10 ∧ wh = 3) ∨ (c = 11 ∧ wh = 4) ∨ (c = 12 ∧ wh = 5)))
theorem sKw_5 {c v kd wh : Int} (h : sKw c v kd wh) (h5 : kd = 5) : 0 ≤ wh ∧ wh ≤ 5 := by
  unfold sKw at h
  omega
set_option maxRecDepth 100000 in
set_option maxHeartbeats 2000000 in
theorem mk_sg59 (l : Launch) (b : Nat → Int) (n q : Nat) (h : XH) (hg : mI h) (rr : mR b n h) (hn7 : n ≤ 700) (hqn : q < n) (hp : (xI h 104 7).toInt = q) (hv : (xI h 105 (xI h 104 7).toNatClampNeg) = (Int32.ofInt (59))) (hb : b q = 59) : ∃ h', CX l 0 0 false 185 [xf 13 104] h [] h' ∧ mT ([(104, 7, false), (104, 8, false), (104, 9, false)], []) h h' ∧ (xI h' 104 7).toInt = (sSg b n q).2 ∧ sKw (sSg b n q).1 0 (xI h' 104 8).toInt (xI h' 104 9).toInt := by
  have r5 := rr.1
  have r0 : xR h 104 0 = 105 := vref hg.1 rfl
  have np : (xI h 104 7).toNatClampNeg = q := by
    show (xI h 104 7).toInt.toNat = q
    omega
  have ei : ((xI h 104 7) + (Int32.ofInt (1))).toInt = (xI h 104 7).toInt + 1 := y_suc1 (by omega) (by omega)
  have t1 : XT l 0 0 false 185 153 6051 0 [xf 13 104, xun, xun, xun] [] h 290 [xf 13 104, xi (Int32.ofInt (1)), xun, xun] [] (xsetI (xsetI (xsetI h 104 9 (xI h (xR h 104 0) ((xI h 104 7)).toNatClampNeg)) 104 7 ((xI h 104 7) + (Int32.ofInt (1)))) 104 8 (Int32.ofInt (4))) := XT_path (l := l) (fr := 0) (lo := 0) (full := false) (M := 185) (n := 153) (u := 6051) (pc := 0) (L := [xf 13 104, xun, xun, xun]) (st := []) (h := h) (inl := []) (n' := 140) (sp := [290]) (o := [0, 0, 1, 1, 0]) rfl rfl ⟨rfl, rfl, rfl⟩ rfl ⟨Nat.le_of_eq hg.2.2.2.1, Nat.le_of_eq hg.2.2.2.2⟩ ⟨⟨⟨⟨⟨⟨⟨trivial, (vnn hg.1 (rfl : vRf 104 0 = [105]) (by decide))⟩, (vp_of (i := (xI h 104 7)) (n := 700) (by omega) (by omega))⟩, (show ¬ (xI h (xR h 104 0) ((xI h 104 7)).toNatClampNeg) = (Int32.ofInt (60)) from by rw [r0, hv]; decide)⟩, (show ¬ (xI h (xR h 104 0) ((xI h 104 7)).toNatClampNeg) = (Int32.ofInt (62)) from by rw [r0, hv]; decide)⟩, (show ¬ (xI h (xR h 104 0) ((xI h 104 7)).toNatClampNeg) = (Int32.ofInt (61)) from by rw [r0, hv]; decide)⟩, (show (xI h (xR h 104 0) ((xI h 104 7)).toNatClampNeg) = (Int32.ofInt (59)) from by rw [r0]; exact hv)⟩, (show ¬ (Int32.ofInt (1)) = 0 from by decide)⟩
  rw [vref hg.1 (rfl : vRf 104 0 = [105])] at t1
  have es : sSg b n q = ((4 : Int), q + 1) := by simp [sSg, hb]
  have u0 : mT ([(104, 7, false), (104, 8, false), (104, 9, false)], []) h (xsetI h 104 9 (xI h 105 ((xI h 104 7)).toNatClampNeg)) := (mT.rf hg).set (c := 104) (k := 9) (v := (xI h 105 ((xI h 104 7)).toNatClampNeg)) (show (-2147483648 : Int) ≤ _ ∧ _ ≤ 2147483647 from i32r_of _) rfl
  have u1 : mT ([(104, 7, false), (104, 8, false), (104, 9, false)], []) h (xsetI (xsetI h 104 9 (xI h 105 ((xI h 104 7)).toNatClampNeg)) 104 7 ((xI h 104 7) + (Int32.ofInt (1)))) := u0.set (c := 104) (k := 7) (v := ((xI h 104 7) + (Int32.ofInt (1)))) (show (0 : Int) ≤ _ ∧ _ ≤ 700 from ⟨by omega, by omega⟩) rfl
  have u2 : mT ([(104, 7, false), (104, 8, false), (104, 9, false)], []) h (xsetI (xsetI (xsetI h 104 9 (xI h 105 ((xI h 104 7)).toNatClampNeg)) 104 7 ((xI h 104 7) + (Int32.ofInt (1)))) 104 8 (Int32.ofInt (4))) := u1.set (c := 104) (k := 8) (v := (Int32.ofInt (4))) (show (0 : Int) ≤ _ ∧ _ ≤ 6 from by decide) rfl
  have w7 : xI (xsetI (xsetI (xsetI h 104 9 (xI h 105 ((xI h 104 7)).toNatClampNeg)) 104 7 ((xI h 104 7) + (Int32.ofInt (1)))) 104 8 (Int32.ofInt (4))) 104 7 = ((xI h 104 7) + (Int32.ofInt (1))) := (yI_ne (by decide)).trans (yI_same)
  have v8 : (xI (xsetI (xsetI (xsetI h 104 9 (xI h 105 ((xI h 104 7)).toNatClampNeg)) 104 7 ((xI h 104 7) + (Int32.ofInt (1)))) 104 8 (Int32.ofInt (4))) 104 8).toInt = 4 := congrArg Int32.toInt (yI_same : xI (xsetI (xsetI (xsetI h 104 9 (xI h 105 ((xI h 104 7)).toNatClampNeg)) 104 7 ((xI h 104 7) + (Int32.ofInt (1)))) 104 8 (Int32.ofInt (4))) 104 8 = (Int32.ofInt (4)))
  have v9 : (xI (xsetI (xsetI (xsetI h 104 9 (xI h 105 ((xI h 104 7)).toNatClampNeg)) 104 7 ((xI h 104 7) + (Int32.ofInt (1)))) 104 8 (Int32.ofInt (4))) 104 9).toInt = 59 := congrArg Int32.toInt (((yI_ne (by decide)).trans ((yI_ne (by decide)).trans (yI_same)) : xI (xsetI (xsetI (xsetI h 104 9 (xI h 105 ((xI h 104 7)).toNatClampNeg)) 104 7 ((xI h 104 7) + (Int32.ofInt (1)))) 104 8 (Int32.ofInt (4))) 104 9 = (xI h 105 ((xI h 104 7)).toNatClampNeg)).trans hv)
  refine ⟨_, CX_ofT (h' := (xsetI (xsetI (xsetI h 104 9 (xI h 105 ((xI h 104 7)).toNatClampNeg)) 104 7 ((xI h 104 7) + (Int32.ofInt (1)))) 104 8 (Int32.ofInt (4)))) (by decide) rfl rfl trivial ⟨_, _, _, rfl, rfl, rfl⟩ rfl ⟨Nat.le_of_eq hg.2.2.2.1.symm, Nat.le_of_eq hg.2.2.2.2.symm⟩ t1, u2, ?_, ?_⟩
  · rw [w7, es]; show _ = ((q + 1 : Nat) : Int); omega
  · rw [es]; exact Or.inr (Or.inr (Or.inr (Or.inr (Or.inr (Or.inl ⟨v8, Or.inl (⟨rfl, v9⟩)⟩)))))
set_option maxRecDepth 100000 in
set_option maxHeartbeats 2000000 in
theorem mk_sg40 (l : Launch) (b : Nat → Int) (n q : Nat) (h : XH) (hg : mI h) (rr : mR b n h) (hn7 : n ≤ 700) (hqn : q < n) (hp : (xI h 104 7).toInt = q) (hv : (xI h 105 (xI h 104 7).toNatClampNeg) = (Int32.ofInt (40))) (hb : b q = 40) : ∃ h', CX l 0 0 false 185 [xf 13 104] h [] h' ∧ mT ([(104, 7, false), (104, 8, false), (104, 9, false)], []) h h' ∧ (xI h' 104 7).toInt = (sSg b n q).2 ∧ sKw (sSg b n q).1 0 (xI h' 104 8).toInt (xI h' 104 9).toInt := by
  have r5 := rr.1
  have r0 : xR h 104 0 = 105 := vref hg.1 rfl
  have np : (xI h 104 7).toNatClampNeg = q := by
    show (xI h 104 7).toInt.toNat = q
    omega
  have ei : ((xI h 104 7) + (Int32.ofInt (1))).toInt = (xI h 104 7).toInt + 1 := y_suc1 (by omega) (by omega)
  have t1 : XT l 0 0 false 185 153 6051 0 [xf 13 104, xun, xun, xun] [] h 290 [xf 13 104, xi (Int32.ofInt (1)), xun, xun] [] (xsetI (xsetI (xsetI h 104 9 (xI h (xR h 104 0) ((xI h 104 7)).toNatClampNeg)) 104 7 ((xI h 104 7) + (Int32.ofInt (1)))) 104 8 (Int32.ofInt (4))) := XT_path (l := l) (fr := 0) (lo := 0) (full := false) (M := 185) (n := 153) (u := 6051) (pc := 0) (L := [xf 13 104, xun, xun, xun]) (st := []) (h := h) (inl := []) (n' := 140) (sp := [290]) (o := [0, 0, 1, 0, 1, 0]) rfl rfl ⟨rfl, rfl, rfl⟩ rfl ⟨Nat.le_of_eq hg.2.2.2.1, Nat.le_of_eq hg.2.2.2.2⟩ ⟨⟨⟨⟨⟨⟨⟨⟨trivial, (vnn hg.1 (rfl : vRf 104 0 = [105]) (by decide))⟩, (vp_of (i := (xI h 104 7)) (n := 700) (by omega) (by omega))⟩, (show ¬ (xI h (xR h 104 0) ((xI h 104 7)).toNatClampNeg) = (Int32.ofInt (60)) from by rw [r0, hv]; decide)⟩, (show ¬ (xI h (xR h 104 0) ((xI h 104 7)).toNatClampNeg) = (Int32.ofInt (62)) from by rw [r0, hv]; decide)⟩, (show ¬ (xI h (xR h 104 0) ((xI h 104 7)).toNatClampNeg) = (Int32.ofInt (61)) from by rw [r0, hv]; decide)⟩, (show ¬ (xI h (xR h 104 0) ((xI h 104 7)).toNatClampNeg) = (Int32.ofInt (59)) from by rw [r0, hv]; decide)⟩, (show (xI h (xR h 104 0) ((xI h 104 7)).toNatClampNeg) = (Int32.ofInt (40)) from by rw [r0]; exact hv)⟩, (show ¬ (Int32.ofInt (1)) = 0 from by decide)⟩
  rw [vref hg.1 (rfl : vRf 104 0 = [105])] at t1
  have es : sSg b n q = ((5 : Int), q + 1) := by simp [sSg, hb]
  have u0 : mT ([(104, 7, false), (104, 8, false), (104, 9, false)], []) h (xsetI h 104 9 (xI h 105 ((xI h 104 7)).toNatClampNeg)) := (mT.rf hg).set (c := 104) (k := 9) (v := (xI h 105 ((xI h 104 7)).toNatClampNeg)) (show (-2147483648 : Int) ≤ _ ∧ _ ≤ 2147483647 from i32r_of _) rfl
  have u1 : mT ([(104, 7, false), (104, 8, false), (104, 9, false)], []) h (xsetI (xsetI h 104 9 (xI h 105 ((xI h 104 7)).toNatClampNeg)) 104 7 ((xI h 104 7) + (Int32.ofInt (1)))) := u0.set (c := 104) (k := 7) (v := ((xI h 104 7) + (Int32.ofInt (1)))) (show (0 : Int) ≤ _ ∧ _ ≤ 700 from ⟨by omega, by omega⟩) rfl
  have u2 : mT ([(104, 7, false), (104, 8, false), (104, 9, false)], []) h (xsetI (xsetI (xsetI h 104 9 (xI h 105 ((xI h 104 7)).toNatClampNeg)) 104 7 ((xI h 104 7) + (Int32.ofInt (1)))) 104 8 (Int32.ofInt (4))) := u1.set (c := 104) (k := 8) (v := (Int32.ofInt (4))) (show (0 : Int) ≤ _ ∧ _ ≤ 6 from by decide) rfl
  have w7 : xI (xsetI (xsetI (xsetI h 104 9 (xI h 105 ((xI h 104 7)).toNatClampNeg)) 104 7 ((xI h 104 7) + (Int32.ofInt (1)))) 104 8 (Int32.ofInt (4))) 104 7 = ((xI h 104 7) + (Int32.ofInt (1))) := (yI_ne (by decide)).trans (yI_same)
  have v8 : (xI (xsetI (xsetI (xsetI h 104 9 (xI h 105 ((xI h 104 7)).toNatClampNeg)) 104 7 ((xI h 104 7) + (Int32.ofInt (1)))) 104 8 (Int32.ofInt (4))) 104 8).toInt = 4 := congrArg Int32.toInt (yI_same : xI (xsetI (xsetI (xsetI h 104 9 (xI h 105 ((xI h 104 7)).toNatClampNeg)) 104 7 ((xI h 104 7) + (Int32.ofInt (1)))) 104 8 (Int32.ofInt (4))) 104 8 = (Int32.ofInt (4)))
  have v9 : (xI (xsetI (xsetI (xsetI h 104 9 (xI h 105 ((xI h 104 7)).toNatClampNeg)) 104 7 ((xI h 104 7) + (Int32.ofInt (1)))) 104 8 (Int32.ofInt (4))) 104 9).toInt = 40 := congrArg Int32.toInt (((yI_ne (by decide)).trans ((yI_ne (by decide)).trans (yI_same)) : xI (xsetI (xsetI (xsetI h 104 9 (xI h 105 ((xI h 104 7)).toNatClampNeg)) 104 7 ((xI h 104 7) + (Int32.ofInt (1)))) 104 8 (Int32.ofInt (4))) 104 9 = (xI h 105 ((xI h 104 7)).toNatClampNeg)).trans hv)
  refine ⟨_, CX_ofT (h' := (xsetI (xsetI (xsetI h 104 9 (xI h 105 ((xI h 104 7)).toNatClampNeg)) 104 7 ((xI h 104 7) + (Int32.ofInt (1)))) 104 8 (Int32.ofInt (4)))) (by decide) rfl rfl trivial ⟨_, _, _, rfl, rfl, rfl⟩ rfl ⟨Nat.le_of_eq hg.2.2.2.1.symm, Nat.le_of_eq hg.2.2.2.2.symm⟩ t1, u2, ?_, ?_⟩
  · rw [w7, es]; show _ = ((q + 1 : Nat) : Int); omega
  · rw [es]; exact Or.inr (Or.inr (Or.inr (Or.inr (Or.inr (Or.inl ⟨v8, Or.inr (Or.inl (⟨rfl, v9⟩))⟩)))))
set_option maxRecDepth 100000 in
set_option maxHeartbeats 2000000 in
theorem mk_sg41 (l : Launch) (b : Nat → Int) (n q : Nat) (h : XH) (hg : mI h) (rr : mR b n h) (hn7 : n ≤ 700) (hqn : q < n) (hp : (xI h 104 7).toInt = q) (hv : (xI h 105 (xI h 104 7).toNatClampNeg) = (Int32.ofInt (41))) (hb : b q = 41) : ∃ h', CX l 0 0 false 185 [xf 13 104] h [] h' ∧ mT ([(104, 7, false), (104, 8, false), (104, 9, false)], []) h h' ∧ (xI h' 104 7).toInt = (sSg b n q).2 ∧ sKw (sSg b n q).1 0 (xI h' 104 8).toInt (xI h' 104 9).toInt := by
  have r5 := rr.1
  have r0 : xR h 104 0 = 105 := vref hg.1 rfl
  have np : (xI h 104 7).toNatClampNeg = q := by
    show (xI h 104 7).toInt.toNat = q
    omega
  have ei : ((xI h 104 7) + (Int32.ofInt (1))).toInt = (xI h 104 7).toInt + 1 := y_suc1 (by omega) (by omega)
  have t1 : XT l 0 0 false 185 153 6051 0 [xf 13 104, xun, xun, xun] [] h 290 [xf 13 104, xi (Int32.ofInt (1)), xun, xun] [] (xsetI (xsetI (xsetI h 104 9 (xI h (xR h 104 0) ((xI h 104 7)).toNatClampNeg)) 104 7 ((xI h 104 7) + (Int32.ofInt (1)))) 104 8 (Int32.ofInt (4))) := XT_path (l := l) (fr := 0) (lo := 0) (full := false) (M := 185) (n := 153) (u := 6051) (pc := 0) (L := [xf 13 104, xun, xun, xun]) (st := []) (h := h) (inl := []) (n' := 140) (sp := [290]) (o := [0, 0, 1, 0, 0, 1, 0]) rfl rfl ⟨rfl, rfl, rfl⟩ rfl ⟨Nat.le_of_eq hg.2.2.2.1, Nat.le_of_eq hg.2.2.2.2⟩ ⟨⟨⟨⟨⟨⟨⟨⟨⟨trivial, (vnn hg.1 (rfl : vRf 104 0 = [105]) (by decide))⟩, (vp_of (i := (xI h 104 7)) (n := 700) (by omega) (by omega))⟩, (show ¬ (xI h (xR h 104 0) ((xI h 104 7)).toNatClampNeg) = (Int32.ofInt (60)) from by rw [r0, hv]; decide)⟩, (show ¬ (xI h (xR h 104 0) ((xI h 104 7)).toNatClampNeg) = (Int32.ofInt (62)) from by rw [r0, hv]; decide)⟩, (show ¬ (xI h (xR h 104 0) ((xI h 104 7)).toNatClampNeg) = (Int32.ofInt (61)) from by rw [r0, hv]; decide)⟩, (show ¬ (xI h (xR h 104 0) ((xI h 104 7)).toNatClampNeg) = (Int32.ofInt (59)) from by rw [r0, hv]; decide)⟩, (show ¬ (xI h (xR h 104 0) ((xI h 104 7)).toNatClampNeg) = (Int32.ofInt (40)) from by rw [r0, hv]; decide)⟩, (show (xI h (xR h 104 0) ((xI h 104 7)).toNatClampNeg) = (Int32.ofInt (41)) from by rw [r0]; exact hv)⟩, (show ¬ (Int32.ofInt (1)) = 0 from by decide)⟩
  rw [vref hg.1 (rfl : vRf 104 0 = [105])] at t1
  have es : sSg b n q = ((6 : Int), q + 1) := by simp [sSg, hb]
  have u0 : mT ([(104, 7, false), (104, 8, false), (104, 9, false)], []) h (xsetI h 104 9 (xI h 105 ((xI h 104 7)).toNatClampNeg)) := (mT.rf hg).set (c := 104) (k := 9) (v := (xI h 105 ((xI h 104 7)).toNatClampNeg)) (show (-2147483648 : Int) ≤ _ ∧ _ ≤ 2147483647 from i32r_of _) rfl
  have u1 : mT ([(104, 7, false), (104, 8, false), (104, 9, false)], []) h (xsetI (xsetI h 104 9 (xI h 105 ((xI h 104 7)).toNatClampNeg)) 104 7 ((xI h 104 7) + (Int32.ofInt (1)))) := u0.set (c := 104) (k := 7) (v := ((xI h 104 7) + (Int32.ofInt (1)))) (show (0 : Int) ≤ _ ∧ _ ≤ 700 from ⟨by omega, by omega⟩) rfl
  have u2 : mT ([(104, 7, false), (104, 8, false), (104, 9, false)], []) h (xsetI (xsetI (xsetI h 104 9 (xI h 105 ((xI h 104 7)).toNatClampNeg)) 104 7 ((xI h 104 7) + (Int32.ofInt (1)))) 104 8 (Int32.ofInt (4))) := u1.set (c := 104) (k := 8) (v := (Int32.ofInt (4))) (show (0 : Int) ≤ _ ∧ _ ≤ 6 from by decide) rfl
  have w7 : xI (xsetI (xsetI (xsetI h 104 9 (xI h 105 ((xI h 104 7)).toNatClampNeg)) 104 7 ((xI h 104 7) + (Int32.ofInt (1)))) 104 8 (Int32.ofInt (4))) 104 7 = ((xI h 104 7) + (Int32.ofInt (1))) := (yI_ne (by decide)).trans (yI_same)
  have v8 : (xI (xsetI (xsetI (xsetI h 104 9 (xI h 105 ((xI h 104 7)).toNatClampNeg)) 104 7 ((xI h 104 7) + (Int32.ofInt (1)))) 104 8 (Int32.ofInt (4))) 104 8).toInt = 4 := congrArg Int32.toInt (yI_same : xI (xsetI (xsetI (xsetI h 104 9 (xI h 105 ((xI h 104 7)).toNatClampNeg)) 104 7 ((xI h 104 7) + (Int32.ofInt (1)))) 104 8 (Int32.ofInt (4))) 104 8 = (Int32.ofInt (4)))
  have v9 : (xI (xsetI (xsetI (xsetI h 104 9 (xI h 105 ((xI h 104 7)).toNatClampNeg)) 104 7 ((xI h 104 7) + (Int32.ofInt (1)))) 104 8 (Int32.ofInt (4))) 104 9).toInt = 41 := congrArg Int32.toInt (((yI_ne (by decide)).trans ((yI_ne (by decide)).trans (yI_same)) : xI (xsetI (xsetI (xsetI h 104 9 (xI h 105 ((xI h 104 7)).toNatClampNeg)) 104 7 ((xI h 104 7) + (Int32.ofInt (1)))) 104 8 (Int32.ofInt (4))) 104 9 = (xI h 105 ((xI h 104 7)).toNatClampNeg)).trans hv)
  refine ⟨_, CX_ofT (h' := (xsetI (xsetI (xsetI h 104 9 (xI h 105 ((xI h 104 7)).toNatClampNeg)) 104 7 ((xI h 104 7) + (Int32.ofInt (1)))) 104 8 (Int32.ofInt (4)))) (by decide) rfl rfl trivial ⟨_, _, _, rfl, rfl, rfl⟩ rfl ⟨Nat.le_of_eq hg.2.2.2.1.symm, Nat.le_of_eq hg.2.2.2.2.symm⟩ t1, u2, ?_, ?_⟩
  · rw [w7, es]; show _ = ((q + 1 : Nat) : Int); omega
  · rw [es]; exact Or.inr (Or.inr (Or.inr (Or.inr (Or.inr (Or.inl ⟨v8, Or.inr (Or.inr (Or.inl (⟨rfl, v9⟩)))⟩)))))
set_option maxRecDepth 100000 in
set_option maxHeartbeats 2000000 in
theorem mk_sg43 (l : Launch) (b : Nat → Int) (n q : Nat) (h : XH) (hg : mI h) (rr : mR b n h) (hn7 : n ≤ 700) (hqn : q < n) (hp : (xI h 104 7).toInt = q) (hv : (xI h 105 (xI h 104 7).toNatClampNeg) = (Int32.ofInt (43))) (hb : b q = 43) : ∃ h', CX l 0 0 false 185 [xf 13 104] h [] h' ∧ mT ([(104, 7, false), (104, 8, false), (104, 9, false)], []) h h' ∧ (xI h' 104 7).toInt = (sSg b n q).2 ∧ sKw (sSg b n q).1 0 (xI h' 104 8).toInt (xI h' 104 9).toInt := by
  have r5 := rr.1
  have r0 : xR h 104 0 = 105 := vref hg.1 rfl
  have np : (xI h 104 7).toNatClampNeg = q := by
    show (xI h 104 7).toInt.toNat = q
    omega
  have ei : ((xI h 104 7) + (Int32.ofInt (1))).toInt = (xI h 104 7).toInt + 1 := y_suc1 (by omega) (by omega)
  have t1 : XT l 0 0 false 185 153 6051 0 [xf 13 104, xun, xun, xun] [] h 290 [xf 13 104, xi (Int32.ofInt (1)), xun, xun] [] (xsetI (xsetI (xsetI h 104 9 (xI h (xR h 104 0) ((xI h 104 7)).toNatClampNeg)) 104 7 ((xI h 104 7) + (Int32.ofInt (1)))) 104 8 (Int32.ofInt (4))) := XT_path (l := l) (fr := 0) (lo := 0) (full := false) (M := 185) (n := 153) (u := 6051) (pc := 0) (L := [xf 13 104, xun, xun, xun]) (st := []) (h := h) (inl := []) (n' := 140) (sp := [290]) (o := [0, 0, 1, 0, 0, 0, 1, 0]) rfl rfl ⟨rfl, rfl, rfl⟩ rfl ⟨Nat.le_of_eq hg.2.2.2.1, Nat.le_of_eq hg.2.2.2.2⟩ ⟨⟨⟨⟨⟨⟨⟨⟨⟨⟨trivial, (vnn hg.1 (rfl : vRf 104 0 = [105]) (by decide))⟩, (vp_of (i := (xI h 104 7)) (n := 700) (by omega) (by omega))⟩, (show ¬ (xI h (xR h 104 0) ((xI h 104 7)).toNatClampNeg) = (Int32.ofInt (60)) from by rw [r0, hv]; decide)⟩, (show ¬ (xI h (xR h 104 0) ((xI h 104 7)).toNatClampNeg) = (Int32.ofInt (62)) from by rw [r0, hv]; decide)⟩, (show ¬ (xI h (xR h 104 0) ((xI h 104 7)).toNatClampNeg) = (Int32.ofInt (61)) from by rw [r0, hv]; decide)⟩, (show ¬ (xI h (xR h 104 0) ((xI h 104 7)).toNatClampNeg) = (Int32.ofInt (59)) from by rw [r0, hv]; decide)⟩, (show ¬ (xI h (xR h 104 0) ((xI h 104 7)).toNatClampNeg) = (Int32.ofInt (40)) from by rw [r0, hv]; decide)⟩, (show ¬ (xI h (xR h 104 0) ((xI h 104 7)).toNatClampNeg) = (Int32.ofInt (41)) from by rw [r0, hv]; decide)⟩, (show (xI h (xR h 104 0) ((xI h 104 7)).toNatClampNeg) = (Int32.ofInt (43)) from by rw [r0]; exact hv)⟩, (show ¬ (Int32.ofInt (1)) = 0 from by decide)⟩
  rw [vref hg.1 (rfl : vRf 104 0 = [105])] at t1
  have es : sSg b n q = ((13 : Int), q + 1) := by simp [sSg, hb]
  have u0 : mT ([(104, 7, false), (104, 8, false), (104, 9, false)], []) h (xsetI h 104 9 (xI h 105 ((xI h 104 7)).toNatClampNeg)) := (mT.rf hg).set (c := 104) (k := 9) (v := (xI h 105 ((xI h 104 7)).toNatClampNeg)) (show (-2147483648 : Int) ≤ _ ∧ _ ≤ 2147483647 from i32r_of _) rfl
  have u1 : mT ([(104, 7, false), (104, 8, false), (104, 9, false)], []) h (xsetI (xsetI h 104 9 (xI h 105 ((xI h 104 7)).toNatClampNeg)) 104 7 ((xI h 104 7) + (Int32.ofInt (1)))) := u0.set (c := 104) (k := 7) (v := ((xI h 104 7) + (Int32.ofInt (1)))) (show (0 : Int) ≤ _ ∧ _ ≤ 700 from ⟨by omega, by omega⟩) rfl
  have u2 : mT ([(104, 7, false), (104, 8, false), (104, 9, false)], []) h (xsetI (xsetI (xsetI h 104 9 (xI h 105 ((xI h 104 7)).toNatClampNeg)) 104 7 ((xI h 104 7) + (Int32.ofInt (1)))) 104 8 (Int32.ofInt (4))) := u1.set (c := 104) (k := 8) (v := (Int32.ofInt (4))) (show (0 : Int) ≤ _ ∧ _ ≤ 6 from by decide) rfl
  have w7 : xI (xsetI (xsetI (xsetI h 104 9 (xI h 105 ((xI h 104 7)).toNatClampNeg)) 104 7 ((xI h 104 7) + (Int32.ofInt (1)))) 104 8 (Int32.ofInt (4))) 104 7 = ((xI h 104 7) + (Int32.ofInt (1))) := (yI_ne (by decide)).trans (yI_same)
  have v8 : (xI (xsetI (xsetI (xsetI h 104 9 (xI h 105 ((xI h 104 7)).toNatClampNeg)) 104 7 ((xI h 104 7) + (Int32.ofInt (1)))) 104 8 (Int32.ofInt (4))) 104 8).toInt = 4 := congrArg Int32.toInt (yI_same : xI (xsetI (xsetI (xsetI h 104 9 (xI h 105 ((xI h 104 7)).toNatClampNeg)) 104 7 ((xI h 104 7) + (Int32.ofInt (1)))) 104 8 (Int32.ofInt (4))) 104 8 = (Int32.ofInt (4)))
  have v9 : (xI (xsetI (xsetI (xsetI h 104 9 (xI h 105 ((xI h 104 7)).toNatClampNeg)) 104 7 ((xI h 104 7) + (Int32.ofInt (1)))) 104 8 (Int32.ofInt (4))) 104 9).toInt = 43 := congrArg Int32.toInt (((yI_ne (by decide)).trans ((yI_ne (by decide)).trans (yI_same)) : xI (xsetI (xsetI (xsetI h 104 9 (xI h 105 ((xI h 104 7)).toNatClampNeg)) 104 7 ((xI h 104 7) + (Int32.ofInt (1)))) 104 8 (Int32.ofInt (4))) 104 9 = (xI h 105 ((xI h 104 7)).toNatClampNeg)).trans hv)
  refine ⟨_, CX_ofT (h' := (xsetI (xsetI (xsetI h 104 9 (xI h 105 ((xI h 104 7)).toNatClampNeg)) 104 7 ((xI h 104 7) + (Int32.ofInt (1)))) 104 8 (Int32.ofInt (4)))) (by decide) rfl rfl trivial ⟨_, _, _, rfl, rfl, rfl⟩ rfl ⟨Nat.le_of_eq hg.2.2.2.1.symm, Nat.le_of_eq hg.2.2.2.2.symm⟩ t1, u2, ?_, ?_⟩
  · rw [w7, es]; show _ = ((q + 1 : Nat) : Int); omega
  · rw [es]; exact Or.inr (Or.inr (Or.inr (Or.inr (Or.inr (Or.inl ⟨v8, Or.inr (Or.inr (Or.inr (Or.inl (⟨rfl, v9⟩))))⟩)))))
set_option maxRecDepth 100000 in
set_option maxHeartbeats 2000000 in
theorem mk_sg45 (l : Launch) (b : Nat → Int) (n q : Nat) (h : XH) (hg : mI h) (rr : mR b n h) (hn7 : n ≤ 700) (hqn : q < n) (hp : (xI h 104 7).toInt = q) (hv : (xI h 105 (xI h 104 7).toNatClampNeg) = (Int32.ofInt (45))) (hb : b q = 45) : ∃ h', CX l 0 0 false 185 [xf 13 104] h [] h' ∧ mT ([(104, 7, false), (104, 8, false), (104, 9, false)], []) h h' ∧ (xI h' 104 7).toInt = (sSg b n q).2 ∧ sKw (sSg b n q).1 0 (xI h' 104 8).toInt (xI h' 104 9).toInt := by
  have r5 := rr.1
  have r0 : xR h 104 0 = 105 := vref hg.1 rfl
  have np : (xI h 104 7).toNatClampNeg = q := by
    show (xI h 104 7).toInt.toNat = q
    omega
  have ei : ((xI h 104 7) + (Int32.ofInt (1))).toInt = (xI h 104 7).toInt + 1 := y_suc1 (by omega) (by omega)
  have t1 : XT l 0 0 false 185 153 6051 0 [xf 13 104, xun, xun, xun] [] h 290 [xf 13 104, xi (Int32.ofInt (1)), xun, xun] [] (xsetI (xsetI (xsetI h 104 9 (xI h (xR h 104 0) ((xI h 104 7)).toNatClampNeg)) 104 7 ((xI h 104 7) + (Int32.ofInt (1)))) 104 8 (Int32.ofInt (4))) := XT_path (l := l) (fr := 0) (lo := 0) (full := false) (M := 185) (n := 153) (u := 6051) (pc := 0) (L := [xf 13 104, xun, xun, xun]) (st := []) (h := h) (inl := []) (n' := 140) (sp := [290]) (o := [0, 0, 1, 0, 0, 0, 0, 1, 0]) rfl rfl ⟨rfl, rfl, rfl⟩ rfl ⟨Nat.le_of_eq hg.2.2.2.1, Nat.le_of_eq hg.2.2.2.2⟩ ⟨⟨⟨⟨⟨⟨⟨⟨⟨⟨⟨trivial, (vnn hg.1 (rfl : vRf 104 0 = [105]) (by decide))⟩, (vp_of (i := (xI h 104 7)) (n := 700) (by omega) (by omega))⟩, (show ¬ (xI h (xR h 104 0) ((xI h 104 7)).toNatClampNeg) = (Int32.ofInt (60)) from by rw [r0, hv]; decide)⟩, (show ¬ (xI h (xR h 104 0) ((xI h 104 7)).toNatClampNeg) = (Int32.ofInt (62)) from by rw [r0, hv]; decide)⟩, (show ¬ (xI h (xR h 104 0) ((xI h 104 7)).toNatClampNeg) = (Int32.ofInt (61)) from by rw [r0, hv]; decide)⟩, (show ¬ (xI h (xR h 104 0) ((xI h 104 7)).toNatClampNeg) = (Int32.ofInt (59)) from by rw [r0, hv]; decide)⟩, (show ¬ (xI h (xR h 104 0) ((xI h 104 7)).toNatClampNeg) = (Int32.ofInt (40)) from by rw [r0, hv]; decide)⟩, (show ¬ (xI h (xR h 104 0) ((xI h 104 7)).toNatClampNeg) = (Int32.ofInt (41)) from by rw [r0, hv]; decide)⟩, (show ¬ (xI h (xR h 104 0) ((xI h 104 7)).toNatClampNeg) = (Int32.ofInt (43)) from by rw [r0, hv]; decide)⟩, (show (xI h (xR h 104 0) ((xI h 104 7)).toNatClampNeg) = (Int32.ofInt (45)) from by rw [r0]; exact hv)⟩, (show ¬ (Int32.ofInt (1)) = 0 from by decide)⟩
  rw [vref hg.1 (rfl : vRf 104 0 = [105])] at t1
  have es : sSg b n q = ((14 : Int), q + 1) := by simp [sSg, hb]
  have u0 : mT ([(104, 7, false), (104, 8, false), (104, 9, false)], []) h (xsetI h 104 9 (xI h 105 ((xI h 104 7)).toNatClampNeg)) := (mT.rf hg).set (c := 104) (k := 9) (v := (xI h 105 ((xI h 104 7)).toNatClampNeg)) (show (-2147483648 : Int) ≤ _ ∧ _ ≤ 2147483647 from i32r_of _) rfl
  have u1 : mT ([(104, 7, false), (104, 8, false), (104, 9, false)], []) h (xsetI (xsetI h 104 9 (xI h 105 ((xI h 104 7)).toNatClampNeg)) 104 7 ((xI h 104 7) + (Int32.ofInt (1)))) := u0.set (c := 104) (k := 7) (v := ((xI h 104 7) + (Int32.ofInt (1)))) (show (0 : Int) ≤ _ ∧ _ ≤ 700 from ⟨by omega, by omega⟩) rfl
  have u2 : mT ([(104, 7, false), (104, 8, false), (104, 9, false)], []) h (xsetI (xsetI (xsetI h 104 9 (xI h 105 ((xI h 104 7)).toNatClampNeg)) 104 7 ((xI h 104 7) + (Int32.ofInt (1)))) 104 8 (Int32.ofInt (4))) := u1.set (c := 104) (k := 8) (v := (Int32.ofInt (4))) (show (0 : Int) ≤ _ ∧ _ ≤ 6 from by decide) rfl
  have w7 : xI (xsetI (xsetI (xsetI h 104 9 (xI h 105 ((xI h 104 7)).toNatClampNeg)) 104 7 ((xI h 104 7) + (Int32.ofInt (1)))) 104 8 (Int32.ofInt (4))) 104 7 = ((xI h 104 7) + (Int32.ofInt (1))) := (yI_ne (by decide)).trans (yI_same)
  have v8 : (xI (xsetI (xsetI (xsetI h 104 9 (xI h 105 ((xI h 104 7)).toNatClampNeg)) 104 7 ((xI h 104 7) + (Int32.ofInt (1)))) 104 8 (Int32.ofInt (4))) 104 8).toInt = 4 := congrArg Int32.toInt (yI_same : xI (xsetI (xsetI (xsetI h 104 9 (xI h 105 ((xI h 104 7)).toNatClampNeg)) 104 7 ((xI h 104 7) + (Int32.ofInt (1)))) 104 8 (Int32.ofInt (4))) 104 8 = (Int32.ofInt (4)))
  have v9 : (xI (xsetI (xsetI (xsetI h 104 9 (xI h 105 ((xI h 104 7)).toNatClampNeg)) 104 7 ((xI h 104 7) + (Int32.ofInt (1)))) 104 8 (Int32.ofInt (4))) 104 9).toInt = 45 := congrArg Int32.toInt (((yI_ne (by decide)).trans ((yI_ne (by decide)).trans (yI_same)) : xI (xsetI (xsetI (xsetI h 104 9 (xI h 105 ((xI h 104 7)).toNatClampNeg)) 104 7 ((xI h 104 7) + (Int32.ofInt (1)))) 104 8 (Int32.ofInt (4))) 104 9 = (xI h 105 ((xI h 104 7)).toNatClampNeg)).trans hv)
  refine ⟨_, CX_ofT (h' := (xsetI (xsetI (xsetI h 104 9 (xI h 105 ((xI h 104 7)).toNatClampNeg)) 104 7 ((xI h 104 7) + (Int32.ofInt (1)))) 104 8 (Int32.ofInt (4)))) (by decide) rfl rfl trivial ⟨_, _, _, rfl, rfl, rfl⟩ rfl ⟨Nat.le_of_eq hg.2.2.2.1.symm, Nat.le_of_eq hg.2.2.2.2.symm⟩ t1, u2, ?_, ?_⟩
  · rw [w7, es]; show _ = ((q + 1 : Nat) : Int); omega
  · rw [es]; exact Or.inr (Or.inr (Or.inr (Or.inr (Or.inr (Or.inl ⟨v8, Or.inr (Or.inr (Or.inr (Or.inr (Or.inl (⟨rfl, v9⟩)))))⟩)))))
set_option maxRecDepth 100000 in
set_option maxHeartbeats 2000000 in
theorem mk_sg42 (l : Launch) (b : Nat → Int) (n q : Nat) (h : XH) (hg : mI h) (rr : mR b n h) (hn7 : n ≤ 700) (hqn : q < n) (hp : (xI h 104 7).toInt = q) (hv : (xI h 105 (xI h 104 7).toNatClampNeg) = (Int32.ofInt (42))) (hb : b q = 42) : ∃ h', CX l 0 0 false 185 [xf 13 104] h [] h' ∧ mT ([(104, 7, false), (104, 8, false), (104, 9, false)], []) h h' ∧ (xI h' 104 7).toInt = (sSg b n q).2 ∧ sKw (sSg b n q).1 0 (xI h' 104 8).toInt (xI h' 104 9).toInt := by
  have r5 := rr.1
  have r0 : xR h 104 0 = 105 := vref hg.1 rfl
  have np : (xI h 104 7).toNatClampNeg = q := by
    show (xI h 104 7).toInt.toNat = q
    omega
  have ei : ((xI h 104 7) + (Int32.ofInt (1))).toInt = (xI h 104 7).toInt + 1 := y_suc1 (by omega) (by omega)
  have t1 : XT l 0 0 false 185 153 6051 0 [xf 13 104, xun, xun, xun] [] h 290 [xf 13 104, xi (Int32.ofInt (1)), xun, xun] [] (xsetI (xsetI (xsetI h 104 9 (xI h (xR h 104 0) ((xI h 104 7)).toNatClampNeg)) 104 7 ((xI h 104 7) + (Int32.ofInt (1)))) 104 8 (Int32.ofInt (4))) := XT_path (l := l) (fr := 0) (lo := 0) (full := false) (M := 185) (n := 153) (u := 6051) (pc := 0) (L := [xf 13 104, xun, xun, xun]) (st := []) (h := h) (inl := []) (n' := 140) (sp := [290]) (o := [0, 0, 1, 0, 0, 0, 0, 0, 1, 0]) rfl rfl ⟨rfl, rfl, rfl⟩ rfl ⟨Nat.le_of_eq hg.2.2.2.1, Nat.le_of_eq hg.2.2.2.2⟩ ⟨⟨⟨⟨⟨⟨⟨⟨⟨⟨⟨⟨trivial, (vnn hg.1 (rfl : vRf 104 0 = [105]) (by decide))⟩, (vp_of (i := (xI h 104 7)) (n := 700) (by omega) (by omega))⟩, (show ¬ (xI h (xR h 104 0) ((xI h 104 7)).toNatClampNeg) = (Int32.ofInt (60)) from by rw [r0, hv]; decide)⟩, (show ¬ (xI h (xR h 104 0) ((xI h 104 7)).toNatClampNeg) = (Int32.ofInt (62)) from by rw [r0, hv]; decide)⟩, (show ¬ (xI h (xR h 104 0) ((xI h 104 7)).toNatClampNeg) = (Int32.ofInt (61)) from by rw [r0, hv]; decide)⟩, (show ¬ (xI h (xR h 104 0) ((xI h 104 7)).toNatClampNeg) = (Int32.ofInt (59)) from by rw [r0, hv]; decide)⟩, (show ¬ (xI h (xR h 104 0) ((xI h 104 7)).toNatClampNeg) = (Int32.ofInt (40)) from by rw [r0, hv]; decide)⟩, (show ¬ (xI h (xR h 104 0) ((xI h 104 7)).toNatClampNeg) = (Int32.ofInt (41)) from by rw [r0, hv]; decide)⟩, (show ¬ (xI h (xR h 104 0) ((xI h 104 7)).toNatClampNeg) = (Int32.ofInt (43)) from by rw [r0, hv]; decide)⟩, (show ¬ (xI h (xR h 104 0) ((xI h 104 7)).toNatClampNeg) = (Int32.ofInt (45)) from by rw [r0, hv]; decide)⟩, (show (xI h (xR h 104 0) ((xI h 104 7)).toNatClampNeg) = (Int32.ofInt (42)) from by rw [r0]; exact hv)⟩, (show ¬ (Int32.ofInt (1)) = 0 from by decide)⟩
  rw [vref hg.1 (rfl : vRf 104 0 = [105])] at t1
  have es : sSg b n q = ((15 : Int), q + 1) := by simp [sSg, hb]
  have u0 : mT ([(104, 7, false), (104, 8, false), (104, 9, false)], []) h (xsetI h 104 9 (xI h 105 ((xI h 104 7)).toNatClampNeg)) := (mT.rf hg).set (c := 104) (k := 9) (v := (xI h 105 ((xI h 104 7)).toNatClampNeg)) (show (-2147483648 : Int) ≤ _ ∧ _ ≤ 2147483647 from i32r_of _) rfl
  have u1 : mT ([(104, 7, false), (104, 8, false), (104, 9, false)], []) h (xsetI (xsetI h 104 9 (xI h 105 ((xI h 104 7)).toNatClampNeg)) 104 7 ((xI h 104 7) + (Int32.ofInt (1)))) := u0.set (c := 104) (k := 7) (v := ((xI h 104 7) + (Int32.ofInt (1)))) (show (0 : Int) ≤ _ ∧ _ ≤ 700 from ⟨by omega, by omega⟩) rfl
  have u2 : mT ([(104, 7, false), (104, 8, false), (104, 9, false)], []) h (xsetI (xsetI (xsetI h 104 9 (xI h 105 ((xI h 104 7)).toNatClampNeg)) 104 7 ((xI h 104 7) + (Int32.ofInt (1)))) 104 8 (Int32.ofInt (4))) := u1.set (c := 104) (k := 8) (v := (Int32.ofInt (4))) (show (0 : Int) ≤ _ ∧ _ ≤ 6 from by decide) rfl
  have w7 : xI (xsetI (xsetI (xsetI h 104 9 (xI h 105 ((xI h 104 7)).toNatClampNeg)) 104 7 ((xI h 104 7) + (Int32.ofInt (1)))) 104 8 (Int32.ofInt (4))) 104 7 = ((xI h 104 7) + (Int32.ofInt (1))) := (yI_ne (by decide)).trans (yI_same)
  have v8 : (xI (xsetI (xsetI (xsetI h 104 9 (xI h 105 ((xI h 104 7)).toNatClampNeg)) 104 7 ((xI h 104 7) + (Int32.ofInt (1)))) 104 8 (Int32.ofInt (4))) 104 8).toInt = 4 := congrArg Int32.toInt (yI_same : xI (xsetI (xsetI (xsetI h 104 9 (xI h 105 ((xI h 104 7)).toNatClampNeg)) 104 7 ((xI h 104 7) + (Int32.ofInt (1)))) 104 8 (Int32.ofInt (4))) 104 8 = (Int32.ofInt (4)))
  have v9 : (xI (xsetI (xsetI (xsetI h 104 9 (xI h 105 ((xI h 104 7)).toNatClampNeg)) 104 7 ((xI h 104 7) + (Int32.ofInt (1)))) 104 8 (Int32.ofInt (4))) 104 9).toInt = 42 := congrArg Int32.toInt (((yI_ne (by decide)).trans ((yI_ne (by decide)).trans (yI_same)) : xI (xsetI (xsetI (xsetI h 104 9 (xI h 105 ((xI h 104 7)).toNatClampNeg)) 104 7 ((xI h 104 7) + (Int32.ofInt (1)))) 104 8 (Int32.ofInt (4))) 104 9 = (xI h 105 ((xI h 104 7)).toNatClampNeg)).trans hv)
  refine ⟨_, CX_ofT (h' := (xsetI (xsetI (xsetI h 104 9 (xI h 105 ((xI h 104 7)).toNatClampNeg)) 104 7 ((xI h 104 7) + (Int32.ofInt (1)))) 104 8 (Int32.ofInt (4)))) (by decide) rfl rfl trivial ⟨_, _, _, rfl, rfl, rfl⟩ rfl ⟨Nat.le_of_eq hg.2.2.2.1.symm, Nat.le_of_eq hg.2.2.2.2.symm⟩ t1, u2, ?_, ?_⟩
  · rw [w7, es]; show _ = ((q + 1 : Nat) : Int); omega
  · rw [es]; exact Or.inr (Or.inr (Or.inr (Or.inr (Or.inr (Or.inl ⟨v8, Or.inr (Or.inr (Or.inr (Or.inr (Or.inr (Or.inl (⟨rfl, v9⟩))))))⟩)))))
set_option maxRecDepth 100000 in
set_option maxHeartbeats 2000000 in
theorem mk_sg47 (l : Launch) (b : Nat → Int) (n q : Nat) (h : XH) (hg : mI h) (rr : mR b n h) (hn7 : n ≤ 700) (hqn : q < n) (hp : (xI h 104 7).toInt = q) (hv : (xI h 105 (xI h 104 7).toNatClampNeg) = (Int32.ofInt (47))) (hb : b q = 47) : ∃ h', CX l 0 0 false 185 [xf 13 104] h [] h' ∧ mT ([(104, 7, false), (104, 8, false), (104, 9, false)], []) h h' ∧ (xI h' 104 7).toInt = (sSg b n q).2 ∧ sKw (sSg b n q).1 0 (xI h' 104 8).toInt (xI h' 104 9).toInt := by
  have r5 := rr.1
  have r0 : xR h 104 0 = 105 := vref hg.1 rfl
  have np : (xI h 104 7).toNatClampNeg = q := by
    show (xI h 104 7).toInt.toNat = q
    omega
  have ei : ((xI h 104 7) + (Int32.ofInt (1))).toInt = (xI h 104 7).toInt + 1 := y_suc1 (by omega) (by omega)
  have t1 : XT l 0 0 false 185 153 6051 0 [xf 13 104, xun, xun, xun] [] h 290 [xf 13 104, xi (Int32.ofInt (1)), xun, xun] [] (xsetI (xsetI (xsetI h 104 9 (xI h (xR h 104 0) ((xI h 104 7)).toNatClampNeg)) 104 7 ((xI h 104 7) + (Int32.ofInt (1)))) 104 8 (Int32.ofInt (4))) := XT_path (l := l) (fr := 0) (lo := 0) (full := false) (M := 185) (n := 153) (u := 6051) (pc := 0) (L := [xf 13 104, xun, xun, xun]) (st := []) (h := h) (inl := []) (n' := 140) (sp := [290]) (o := [0, 0, 1, 0, 0, 0, 0, 0, 0, 1, 0]) rfl rfl ⟨rfl, rfl, rfl⟩ rfl ⟨Nat.le_of_eq hg.2.2.2.1, Nat.le_of_eq hg.2.2.2.2⟩ ⟨⟨⟨⟨⟨⟨⟨⟨⟨⟨⟨⟨⟨trivial, (vnn hg.1 (rfl : vRf 104 0 = [105]) (by decide))⟩, (vp_of (i := (xI h 104 7)) (n := 700) (by omega) (by omega))⟩, (show ¬ (xI h (xR h 104 0) ((xI h 104 7)).toNatClampNeg) = (Int32.ofInt (60)) from by rw [r0, hv]; decide)⟩, (show ¬ (xI h (xR h 104 0) ((xI h 104 7)).toNatClampNeg) = (Int32.ofInt (62)) from by rw [r0, hv]; decide)⟩, (show ¬ (xI h (xR h 104 0) ((xI h 104 7)).toNatClampNeg) = (Int32.ofInt (61)) from by rw [r0, hv]; decide)⟩, (show ¬ (xI h (xR h 104 0) ((xI h 104 7)).toNatClampNeg) = (Int32.ofInt (59)) from by rw [r0, hv]; decide)⟩, (show ¬ (xI h (xR h 104 0) ((xI h 104 7)).toNatClampNeg) = (Int32.ofInt (40)) from by rw [r0, hv]; decide)⟩, (show ¬ (xI h (xR h 104 0) ((xI h 104 7)).toNatClampNeg) = (Int32.ofInt (41)) from by rw [r0, hv]; decide)⟩, (show ¬ (xI h (xR h 104 0) ((xI h 104 7)).toNatClampNeg) = (Int32.ofInt (43)) from by rw [r0, hv]; decide)⟩, (show ¬ (xI h (xR h 104 0) ((xI h 104 7)).toNatClampNeg) = (Int32.ofInt (45)) from by rw [r0, hv]; decide)⟩, (show ¬ (xI h (xR h 104 0) ((xI h 104 7)).toNatClampNeg) = (Int32.ofInt (42)) from by rw [r0, hv]; decide)⟩, (show (xI h (xR h 104 0) ((xI h 104 7)).toNatClampNeg) = (Int32.ofInt (47)) from by rw [r0]; exact hv)⟩, (show ¬ (Int32.ofInt (1)) = 0 from by decide)⟩
  rw [vref hg.1 (rfl : vRf 104 0 = [105])] at t1
  have es : sSg b n q = ((16 : Int), q + 1) := by simp [sSg, hb]
  have u0 : mT ([(104, 7, false), (104, 8, false), (104, 9, false)], []) h (xsetI h 104 9 (xI h 105 ((xI h 104 7)).toNatClampNeg)) := (mT.rf hg).set (c := 104) (k := 9) (v := (xI h 105 ((xI h 104 7)).toNatClampNeg)) (show (-2147483648 : Int) ≤ _ ∧ _ ≤ 2147483647 from i32r_of _) rfl
  have u1 : mT ([(104, 7, false), (104, 8, false), (104, 9, false)], []) h (xsetI (xsetI h 104 9 (xI h 105 ((xI h 104 7)).toNatClampNeg)) 104 7 ((xI h 104 7) + (Int32.ofInt (1)))) := u0.set (c := 104) (k := 7) (v := ((xI h 104 7) + (Int32.ofInt (1)))) (show (0 : Int) ≤ _ ∧ _ ≤ 700 from ⟨by omega, by omega⟩) rfl
  have u2 : mT ([(104, 7, false), (104, 8, false), (104, 9, false)], []) h (xsetI (xsetI (xsetI h 104 9 (xI h 105 ((xI h 104 7)).toNatClampNeg)) 104 7 ((xI h 104 7) + (Int32.ofInt (1)))) 104 8 (Int32.ofInt (4))) := u1.set (c := 104) (k := 8) (v := (Int32.ofInt (4))) (show (0 : Int) ≤ _ ∧ _ ≤ 6 from by decide) rfl
  have w7 : xI (xsetI (xsetI (xsetI h 104 9 (xI h 105 ((xI h 104 7)).toNatClampNeg)) 104 7 ((xI h 104 7) + (Int32.ofInt (1)))) 104 8 (Int32.ofInt (4))) 104 7 = ((xI h 104 7) + (Int32.ofInt (1))) := (yI_ne (by decide)).trans (yI_same)
  have v8 : (xI (xsetI (xsetI (xsetI h 104 9 (xI h 105 ((xI h 104 7)).toNatClampNeg)) 104 7 ((xI h 104 7) + (Int32.ofInt (1)))) 104 8 (Int32.ofInt (4))) 104 8).toInt = 4 := congrArg Int32.toInt (yI_same : xI (xsetI (xsetI (xsetI h 104 9 (xI h 105 ((xI h 104 7)).toNatClampNeg)) 104 7 ((xI h 104 7) + (Int32.ofInt (1)))) 104 8 (Int32.ofInt (4))) 104 8 = (Int32.ofInt (4)))
  have v9 : (xI (xsetI (xsetI (xsetI h 104 9 (xI h 105 ((xI h 104 7)).toNatClampNeg)) 104 7 ((xI h 104 7) + (Int32.ofInt (1)))) 104 8 (Int32.ofInt (4))) 104 9).toInt = 47 := congrArg Int32.toInt (((yI_ne (by decide)).trans ((yI_ne (by decide)).trans (yI_same)) : xI (xsetI (xsetI (xsetI h 104 9 (xI h 105 ((xI h 104 7)).toNatClampNeg)) 104 7 ((xI h 104 7) + (Int32.ofInt (1)))) 104 8 (Int32.ofInt (4))) 104 9 = (xI h 105 ((xI h 104 7)).toNatClampNeg)).trans hv)
  refine ⟨_, CX_ofT (h' := (xsetI (xsetI (xsetI h 104 9 (xI h 105 ((xI h 104 7)).toNatClampNeg)) 104 7 ((xI h 104 7) + (Int32.ofInt (1)))) 104 8 (Int32.ofInt (4)))) (by decide) rfl rfl trivial ⟨_, _, _, rfl, rfl, rfl⟩ rfl ⟨Nat.le_of_eq hg.2.2.2.1.symm, Nat.le_of_eq hg.2.2.2.2.symm⟩ t1, u2, ?_, ?_⟩
  · rw [w7, es]; show _ = ((q + 1 : Nat) : Int); omega
  · rw [es]; exact Or.inr (Or.inr (Or.inr (Or.inr (Or.inr (Or.inl ⟨v8, Or.inr (Or.inr (Or.inr (Or.inr (Or.inr (Or.inr (⟨rfl, v9⟩))))))⟩)))))
set_option maxRecDepth 100000 in
set_option maxHeartbeats 2000000 in
theorem mk_sg61 (l : Launch) (b : Nat → Int) (n q : Nat) (h : XH) (hg : mI h) (rr : mR b n h) (hn7 : n ≤ 700) (hqn : q < n) (hp : (xI h 104 7).toInt = q) (hv : (xI h 105 (xI h 104 7).toNatClampNeg) = (Int32.ofInt (61))) (hb : b q = 61) : ∃ h', CX l 0 0 false 185 [xf 13 104] h [] h' ∧ mT ([(104, 7, false), (104, 8, false), (104, 9, false)], []) h h' ∧ (xI h' 104 7).toInt = (sSg b n q).2 ∧ sKw (sSg b n q).1 0 (xI h' 104 8).toInt (xI h' 104 9).toInt := by
  have r5 := rr.1
  have r0 : xR h 104 0 = 105 := vref hg.1 rfl
  have np : (xI h 104 7).toNatClampNeg = q := by
    show (xI h 104 7).toInt.toNat = q
    omega
  have ei : ((xI h 104 7) + (Int32.ofInt (1))).toInt = (xI h 104 7).toInt + 1 := y_suc1 (by omega) (by omega)
  have np1 : ((xI h 104 7) + (Int32.ofInt (1))).toNatClampNeg = q + 1 := by
    show ((xI h 104 7) + (Int32.ofInt (1))).toInt.toNat = q + 1
    omega
  have eb1 : q + 1 < n → sby (xI h 105 ((xI h 104 7) + (Int32.ofInt (1))).toNatClampNeg).toInt = b (q + 1) := fun z => by rw [np1]; exact rr.2 (q + 1) z
  by_cases c1 : (xI h 104 6) ≤ ((xI h 104 7) + (Int32.ofInt (1)))
  · have e_1 : (Int32.ofInt (1)).toInt = 1 := rfl
    have dc1 : (xI h 104 6).toInt ≤ ((xI h 104 7) + (Int32.ofInt (1))).toInt := Int32.le_iff_toInt_le.mp c1
    have t2 : XT l 0 0 false 185 153 6051 0 [xf 13 104, xun, xun, xun] [] h 290 [xf 13 104, xi (Int32.ofInt (0)), xi (Int32.ofInt (0)), xi (Int32.ofInt (0))] [] (xsetI (xsetI (xsetI (xsetI h 104 9 (xI h (xR h 104 0) ((xI h 104 7)).toNatClampNeg)) 104 7 ((xI h 104 7) + (Int32.ofInt (1)))) 104 8 (Int32.ofInt (5))) 104 9 (Int32.ofInt (2))) := XT_path (l := l) (fr := 0) (lo := 0) (full := false) (M := 185) (n := 153) (u := 6051) (pc := 0) (L := [xf 13 104, xun, xun, xun]) (st := []) (h := h) (inl := []) (n' := 140) (sp := [290]) (o := [0, 0, 0, 1, 1, 1, 0, 1, 0]) rfl rfl ⟨rfl, rfl, rfl⟩ rfl ⟨Nat.le_of_eq hg.2.2.2.1, Nat.le_of_eq hg.2.2.2.2⟩ ⟨⟨⟨⟨⟨⟨⟨⟨⟨⟨⟨trivial, (vnn hg.1 (rfl : vRf 104 0 = [105]) (by decide))⟩, (vp_of (i := (xI h 104 7)) (n := 700) (by omega) (by omega))⟩, (show ¬ (xI h (xR h 104 0) ((xI h 104 7)).toNatClampNeg) = (Int32.ofInt (60)) from by rw [r0, hv]; decide)⟩, (show ¬ (xI h (xR h 104 0) ((xI h 104 7)).toNatClampNeg) = (Int32.ofInt (62)) from by rw [r0, hv]; decide)⟩, (show (xI h (xR h 104 0) ((xI h 104 7)).toNatClampNeg) = (Int32.ofInt (61)) from by rw [r0]; exact hv)⟩, c1⟩, (show (xI h (xR h 104 0) ((xI h 104 7)).toNatClampNeg) = (Int32.ofInt (61)) from by rw [r0]; exact hv)⟩, (show ¬ (xI h (xR h 104 0) ((xI h 104 7)).toNatClampNeg) = (Int32.ofInt (60)) from by rw [r0, hv]; decide)⟩, rfl⟩, rfl⟩, (show (xI h (xR h 104 0) ((xI h 104 7)).toNatClampNeg) = (Int32.ofInt (61)) from by rw [r0]; exact hv)⟩
    rw [vref hg.1 (rfl : vRf 104 0 = [105])] at t2
    have in1 : ¬ q + 1 < n := by omega
    have es : sSg b n q = ((9 : Int), q + 1) := by simp [sSg, hb, in1]
    have u0 : mT ([(104, 7, false), (104, 8, false), (104, 9, false)], []) h (xsetI h 104 9 (xI h 105 ((xI h 104 7)).toNatClampNeg)) := (mT.rf hg).set (c := 104) (k := 9) (v := (xI h 105 ((xI h 104 7)).toNatClampNeg)) (show (-2147483648 : Int) ≤ _ ∧ _ ≤ 2147483647 from i32r_of _) rfl
    have u1 : mT ([(104, 7, false), (104, 8, false), (104, 9, false)], []) h (xsetI (xsetI h 104 9 (xI h 105 ((xI h 104 7)).toNatClampNeg)) 104 7 ((xI h 104 7) + (Int32.ofInt (1)))) := u0.set (c := 104) (k := 7) (v := ((xI h 104 7) + (Int32.ofInt (1)))) (show (0 : Int) ≤ _ ∧ _ ≤ 700 from ⟨by omega, by omega⟩) rfl
    have u2 : mT ([(104, 7, false), (104, 8, false), (104, 9, false)], []) h (xsetI (xsetI (xsetI h 104 9 (xI h 105 ((xI h 104 7)).toNatClampNeg)) 104 7 ((xI h 104 7) + (Int32.ofInt (1)))) 104 8 (Int32.ofInt (5))) := u1.set (c := 104) (k := 8) (v := (Int32.ofInt (5))) (show (0 : Int) ≤ _ ∧ _ ≤ 6 from by decide) rfl
    have u3 : mT ([(104, 7, false), (104, 8, false), (104, 9, false)], []) h (xsetI (xsetI (xsetI (xsetI h 104 9 (xI h 105 ((xI h 104 7)).toNatClampNeg)) 104 7 ((xI h 104 7) + (Int32.ofInt (1)))) 104 8 (Int32.ofInt (5))) 104 9 (Int32.ofInt (2))) := u2.set (c := 104) (k := 9) (v := (Int32.ofInt (2))) (show (-2147483648 : Int) ≤ _ ∧ _ ≤ 2147483647 from i32r_of _) rfl
    have w7 : xI (xsetI (xsetI (xsetI (xsetI h 104 9 (xI h 105 ((xI h 104 7)).toNatClampNeg)) 104 7 ((xI h 104 7) + (Int32.ofInt (1)))) 104 8 (Int32.ofInt (5))) 104 9 (Int32.ofInt (2))) 104 7 = ((xI h 104 7) + (Int32.ofInt (1))) := (yI_ne (by decide)).trans ((yI_ne (by decide)).trans (yI_same))
    have v8 : (xI (xsetI (xsetI (xsetI (xsetI h 104 9 (xI h 105 ((xI h 104 7)).toNatClampNeg)) 104 7 ((xI h 104 7) + (Int32.ofInt (1)))) 104 8 (Int32.ofInt (5))) 104 9 (Int32.ofInt (2))) 104 8).toInt = 5 := congrArg Int32.toInt ((yI_ne (by decide)).trans (yI_same) : xI (xsetI (xsetI (xsetI (xsetI h 104 9 (xI h 105 ((xI h 104 7)).toNatClampNeg)) 104 7 ((xI h 104 7) + (Int32.ofInt (1)))) 104 8 (Int32.ofInt (5))) 104 9 (Int32.ofInt (2))) 104 8 = (Int32.ofInt (5)))
    have v9 : (xI (xsetI (xsetI (xsetI (xsetI h 104 9 (xI h 105 ((xI h 104 7)).toNatClampNeg)) 104 7 ((xI h 104 7) + (Int32.ofInt (1)))) 104 8 (Int32.ofInt (5))) 104 9 (Int32.ofInt (2))) 104 9).toInt = 2 := congrArg Int32.toInt (yI_same : xI (xsetI (xsetI (xsetI (xsetI h 104 9 (xI h 105 ((xI h 104 7)).toNatClampNeg)) 104 7 ((xI h 104 7) + (Int32.ofInt (1)))) 104 8 (Int32.ofInt (5))) 104 9 (Int32.ofInt (2))) 104 9 = (Int32.ofInt (2)))
    refine ⟨_, CX_ofT (h' := (xsetI (xsetI (xsetI (xsetI h 104 9 (xI h 105 ((xI h 104 7)).toNatClampNeg)) 104 7 ((xI h 104 7) + (Int32.ofInt (1)))) 104 8 (Int32.ofInt (5))) 104 9 (Int32.ofInt (2)))) (by decide) rfl rfl trivial ⟨_, _, _, rfl, rfl, rfl⟩ rfl ⟨Nat.le_of_eq hg.2.2.2.1.symm, Nat.le_of_eq hg.2.2.2.2.symm⟩ t2, u3, ?_, ?_⟩
    · rw [w7, es]; show _ = ((q + 1 : Nat) : Int); omega
    · rw [es]; exact Or.inr (Or.inr (Or.inr (Or.inr (Or.inr (Or.inr (⟨v8, Or.inr (Or.inr (Or.inl (⟨rfl, v9⟩)))⟩))))))
  · have e_1 : (Int32.ofInt (1)).toInt = 1 := rfl
    have dc1 : ((xI h 104 7) + (Int32.ofInt (1))).toInt < (xI h 104 6).toInt := Int32.lt_iff_toInt_lt.mp (Int32.not_le.mp c1)
    have t3 : XT l 0 0 false 185 153 6051 0 [xf 13 104, xun, xun, xun] [] h 290 [xf 13 104, xi (xI (xsetI (xsetI h 104 9 (xI h (xR h 104 0) ((xI h 104 7)).toNatClampNeg)) 104 7 ((xI h 104 7) + (Int32.ofInt (1)))) (xR h 104 0) (((xI h 104 7) + (Int32.ofInt (1)))).toNatClampNeg), xi (Int32.ofInt (0)), xi (Int32.ofInt (0))] [] (xsetI (xsetI (xsetI (xsetI h 104 9 (xI h (xR h 104 0) ((xI h 104 7)).toNatClampNeg)) 104 7 ((xI h 104 7) + (Int32.ofInt (1)))) 104 8 (Int32.ofInt (5))) 104 9 (Int32.ofInt (2))) := XT_path (l := l) (fr := 0) (lo := 0) (full := false) (M := 185) (n := 153) (u := 6051) (pc := 0) (L := [xf 13 104, xun, xun, xun]) (st := []) (h := h) (inl := []) (n' := 140) (sp := [290]) (o := [0, 0, 0, 0, 1, 1, 0, 1, 0]) rfl rfl ⟨rfl, rfl, rfl⟩ rfl ⟨Nat.le_of_eq hg.2.2.2.1, Nat.le_of_eq hg.2.2.2.2⟩ ⟨⟨⟨⟨⟨⟨⟨⟨⟨⟨⟨⟨⟨trivial, (vnn hg.1 (rfl : vRf 104 0 = [105]) (by decide))⟩, (vp_of (i := (xI h 104 7)) (n := 700) (by omega) (by omega))⟩, (show ¬ (xI h (xR h 104 0) ((xI h 104 7)).toNatClampNeg) = (Int32.ofInt (60)) from by rw [r0, hv]; decide)⟩, (show ¬ (xI h (xR h 104 0) ((xI h 104 7)).toNatClampNeg) = (Int32.ofInt (62)) from by rw [r0, hv]; decide)⟩, (show (xI h (xR h 104 0) ((xI h 104 7)).toNatClampNeg) = (Int32.ofInt (61)) from by rw [r0]; exact hv)⟩, c1⟩, (vnn hg.1 (rfl : vRf 104 0 = [105]) (by decide))⟩, (vp_of (i := ((xI h 104 7) + (Int32.ofInt (1)))) (n := 700) (by omega) (by omega))⟩, (show (xI h (xR h 104 0) ((xI h 104 7)).toNatClampNeg) = (Int32.ofInt (61)) from by rw [r0]; exact hv)⟩, (show ¬ (xI h (xR h 104 0) ((xI h 104 7)).toNatClampNeg) = (Int32.ofInt (60)) from by rw [r0, hv]; decide)⟩, rfl⟩, rfl⟩, (show (xI h (xR h 104 0) ((xI h 104 7)).toNatClampNeg) = (Int32.ofInt (61)) from by rw [r0]; exact hv)⟩
    rw [vref hg.1 (rfl : vRf 104 0 = [105])] at t3
    have t4 : XT l 0 0 false 185 153 6051 0 [xf 13 104, xun, xun, xun] [] h 290 [xf 13 104, xi (xI h 105 (((xI h 104 7) + (Int32.ofInt (1)))).toNatClampNeg), xi (Int32.ofInt (0)), xi (Int32.ofInt (0))] [] (xsetI (xsetI (xsetI (xsetI h 104 9 (xI h 105 ((xI h 104 7)).toNatClampNeg)) 104 7 ((xI h 104 7) + (Int32.ofInt (1)))) 104 8 (Int32.ofInt (5))) 104 9 (Int32.ofInt (2))) := t3
    have in1 : q + 1 < n := by omega
    have es : sSg b n q = ((9 : Int), q + 1) := by simp [sSg, hb, in1]
    have u0 : mT ([(104, 7, false), (104, 8, false), (104, 9, false)], []) h (xsetI h 104 9 (xI h 105 ((xI h 104 7)).toNatClampNeg)) := (mT.rf hg).set (c := 104) (k := 9) (v := (xI h 105 ((xI h 104 7)).toNatClampNeg)) (show (-2147483648 : Int) ≤ _ ∧ _ ≤ 2147483647 from i32r_of _) rfl
    have u1 : mT ([(104, 7, false), (104, 8, false), (104, 9, false)], []) h (xsetI (xsetI h 104 9 (xI h 105 ((xI h 104 7)).toNatClampNeg)) 104 7 ((xI h 104 7) + (Int32.ofInt (1)))) := u0.set (c := 104) (k := 7) (v := ((xI h 104 7) + (Int32.ofInt (1)))) (show (0 : Int) ≤ _ ∧ _ ≤ 700 from ⟨by omega, by omega⟩) rfl
    have u2 : mT ([(104, 7, false), (104, 8, false), (104, 9, false)], []) h (xsetI (xsetI (xsetI h 104 9 (xI h 105 ((xI h 104 7)).toNatClampNeg)) 104 7 ((xI h 104 7) + (Int32.ofInt (1)))) 104 8 (Int32.ofInt (5))) := u1.set (c := 104) (k := 8) (v := (Int32.ofInt (5))) (show (0 : Int) ≤ _ ∧ _ ≤ 6 from by decide) rfl
    have u3 : mT ([(104, 7, false), (104, 8, false), (104, 9, false)], []) h (xsetI (xsetI (xsetI (xsetI h 104 9 (xI h 105 ((xI h 104 7)).toNatClampNeg)) 104 7 ((xI h 104 7) + (Int32.ofInt (1)))) 104 8 (Int32.ofInt (5))) 104 9 (Int32.ofInt (2))) := u2.set (c := 104) (k := 9) (v := (Int32.ofInt (2))) (show (-2147483648 : Int) ≤ _ ∧ _ ≤ 2147483647 from i32r_of _) rfl
    have w7 : xI (xsetI (xsetI (xsetI (xsetI h 104 9 (xI h 105 ((xI h 104 7)).toNatClampNeg)) 104 7 ((xI h 104 7) + (Int32.ofInt (1)))) 104 8 (Int32.ofInt (5))) 104 9 (Int32.ofInt (2))) 104 7 = ((xI h 104 7) + (Int32.ofInt (1))) := (yI_ne (by decide)).trans ((yI_ne (by decide)).trans (yI_same))
    have v8 : (xI (xsetI (xsetI (xsetI (xsetI h 104 9 (xI h 105 ((xI h 104 7)).toNatClampNeg)) 104 7 ((xI h 104 7) + (Int32.ofInt (1)))) 104 8 (Int32.ofInt (5))) 104 9 (Int32.ofInt (2))) 104 8).toInt = 5 := congrArg Int32.toInt ((yI_ne (by decide)).trans (yI_same) : xI (xsetI (xsetI (xsetI (xsetI h 104 9 (xI h 105 ((xI h 104 7)).toNatClampNeg)) 104 7 ((xI h 104 7) + (Int32.ofInt (1)))) 104 8 (Int32.ofInt (5))) 104 9 (Int32.ofInt (2))) 104 8 = (Int32.ofInt (5)))
    have v9 : (xI (xsetI (xsetI (xsetI (xsetI h 104 9 (xI h 105 ((xI h 104 7)).toNatClampNeg)) 104 7 ((xI h 104 7) + (Int32.ofInt (1)))) 104 8 (Int32.ofInt (5))) 104 9 (Int32.ofInt (2))) 104 9).toInt = 2 := congrArg Int32.toInt (yI_same : xI (xsetI (xsetI (xsetI (xsetI h 104 9 (xI h 105 ((xI h 104 7)).toNatClampNeg)) 104 7 ((xI h 104 7) + (Int32.ofInt (1)))) 104 8 (Int32.ofInt (5))) 104 9 (Int32.ofInt (2))) 104 9 = (Int32.ofInt (2)))
    refine ⟨_, CX_ofT (h' := (xsetI (xsetI (xsetI (xsetI h 104 9 (xI h 105 ((xI h 104 7)).toNatClampNeg)) 104 7 ((xI h 104 7) + (Int32.ofInt (1)))) 104 8 (Int32.ofInt (5))) 104 9 (Int32.ofInt (2)))) (by decide) rfl rfl trivial ⟨_, _, _, rfl, rfl, rfl⟩ rfl ⟨Nat.le_of_eq hg.2.2.2.1.symm, Nat.le_of_eq hg.2.2.2.2.symm⟩ t4, u3, ?_, ?_⟩
    · rw [w7, es]; show _ = ((q + 1 : Nat) : Int); omega
    · rw [es]; exact Or.inr (Or.inr (Or.inr (Or.inr (Or.inr (Or.inr (⟨v8, Or.inr (Or.inr (Or.inl (⟨rfl, v9⟩)))⟩))))))
set_option maxRecDepth 100000 in
set_option maxHeartbeats 2000000 in
theorem mk_sg60 (l : Launch) (b : Nat → Int) (n q : Nat) (h : XH) (hg : mI h) (rr : mR b n h) (hn7 : n ≤ 700) (hqn : q < n) (hp : (xI h 104 7).toInt = q) (hv : (xI h 105 (xI h 104 7).toNatClampNeg) = (Int32.ofInt (60))) (hb : b q = 60) : ∃ h', CX l 0 0 false 185 [xf 13 104] h [] h' ∧ mT ([(104, 7, false), (104, 8, false), (104, 9, false)], []) h h' ∧ (xI h' 104 7).toInt = (sSg b n q).2 ∧ sKw (sSg b n q).1 0 (xI h' 104 8).toInt (xI h' 104 9).toInt := by
  have r5 := rr.1
  have r0 : xR h 104 0 = 105 := vref hg.1 rfl
  have np : (xI h 104 7).toNatClampNeg = q := by
    show (xI h 104 7).toInt.toNat = q
    omega
  have ei : ((xI h 104 7) + (Int32.ofInt (1))).toInt = (xI h 104 7).toInt + 1 := y_suc1 (by omega) (by omega)
  have np1 : ((xI h 104 7) + (Int32.ofInt (1))).toNatClampNeg = q + 1 := by
    show ((xI h 104 7) + (Int32.ofInt (1))).toInt.toNat = q + 1
    omega
  have eb1 : q + 1 < n → sby (xI h 105 ((xI h 104 7) + (Int32.ofInt (1))).toNatClampNeg).toInt = b (q + 1) := fun z => by rw [np1]; exact rr.2 (q + 1) z
  by_cases c1 : (xI h 104 6) ≤ ((xI h 104 7) + (Int32.ofInt (1)))
  · have e_1 : (Int32.ofInt (1)).toInt = 1 := rfl
    have dc1 : (xI h 104 6).toInt ≤ ((xI h 104 7) + (Int32.ofInt (1))).toInt := Int32.le_iff_toInt_le.mp c1
    have t2 : XT l 0 0 false 185 153 6051 0 [xf 13 104, xun, xun, xun] [] h 290 [xf 13 104, xi (Int32.ofInt (0)), xi (Int32.ofInt (0)), xi (Int32.ofInt (0))] [] (xsetI (xsetI (xsetI (xsetI h 104 9 (xI h (xR h 104 0) ((xI h 104 7)).toNatClampNeg)) 104 7 ((xI h 104 7) + (Int32.ofInt (1)))) 104 8 (Int32.ofInt (5))) 104 9 (Int32.ofInt (0))) := XT_path (l := l) (fr := 0) (lo := 0) (full := false) (M := 185) (n := 153) (u := 6051) (pc := 0) (L := [xf 13 104, xun, xun, xun]) (st := []) (h := h) (inl := []) (n' := 140) (sp := [290]) (o := [1, 1, 0, 1, 0, 1, 0, 1, 1, 0, 1, 1]) rfl rfl ⟨rfl, rfl, rfl⟩ rfl ⟨Nat.le_of_eq hg.2.2.2.1, Nat.le_of_eq hg.2.2.2.2⟩ ⟨⟨⟨⟨⟨⟨⟨⟨⟨⟨⟨⟨⟨⟨trivial, (vnn hg.1 (rfl : vRf 104 0 = [105]) (by decide))⟩, (vp_of (i := (xI h 104 7)) (n := 700) (by omega) (by omega))⟩, (show (xI h (xR h 104 0) ((xI h 104 7)).toNatClampNeg) = (Int32.ofInt (60)) from by rw [r0]; exact hv)⟩, c1⟩, (show ¬ (xI h (xR h 104 0) ((xI h 104 7)).toNatClampNeg) = (Int32.ofInt (61)) from by rw [r0, hv]; decide)⟩, (show ¬ (Int32.ofInt (0)) = (Int32.ofInt (61)) from by decide)⟩, (show (xI h (xR h 104 0) ((xI h 104 7)).toNatClampNeg) = (Int32.ofInt (60)) from by rw [r0]; exact hv)⟩, (show ¬ (Int32.ofInt (0)) = (Int32.ofInt (62)) from by decide)⟩, rfl⟩, rfl⟩, (show ¬ (xI h (xR h 104 0) ((xI h 104 7)).toNatClampNeg) = (Int32.ofInt (61)) from by rw [r0, hv]; decide)⟩, (show (xI h (xR h 104 0) ((xI h 104 7)).toNatClampNeg) = (Int32.ofInt (60)) from by rw [r0]; exact hv)⟩, rfl⟩, rfl⟩
    rw [vref hg.1 (rfl : vRf 104 0 = [105])] at t2
    have in1 : ¬ q + 1 < n := by omega
    have es : sSg b n q = ((7 : Int), q + 1) := by simp [sSg, hb, in1]
    have u0 : mT ([(104, 7, false), (104, 8, false), (104, 9, false)], []) h (xsetI h 104 9 (xI h 105 ((xI h 104 7)).toNatClampNeg)) := (mT.rf hg).set (c := 104) (k := 9) (v := (xI h 105 ((xI h 104 7)).toNatClampNeg)) (show (-2147483648 : Int) ≤ _ ∧ _ ≤ 2147483647 from i32r_of _) rfl
    have u1 : mT ([(104, 7, false), (104, 8, false), (104, 9, false)], []) h (xsetI (xsetI h 104 9 (xI h 105 ((xI h 104 7)).toNatClampNeg)) 104 7 ((xI h 104 7) + (Int32.ofInt (1)))) := u0.set (c := 104) (k := 7) (v := ((xI h 104 7) + (Int32.ofInt (1)))) (show (0 : Int) ≤ _ ∧ _ ≤ 700 from ⟨by omega, by omega⟩) rfl
    have u2 : mT ([(104, 7, false), (104, 8, false), (104, 9, false)], []) h (xsetI (xsetI (xsetI h 104 9 (xI h 105 ((xI h 104 7)).toNatClampNeg)) 104 7 ((xI h 104 7) + (Int32.ofInt (1)))) 104 8 (Int32.ofInt (5))) := u1.set (c := 104) (k := 8) (v := (Int32.ofInt (5))) (show (0 : Int) ≤ _ ∧ _ ≤ 6 from by decide) rfl
    have u3 : mT ([(104, 7, false), (104, 8, false), (104, 9, false)], []) h (xsetI (xsetI (xsetI (xsetI h 104 9 (xI h 105 ((xI h 104 7)).toNatClampNeg)) 104 7 ((xI h 104 7) + (Int32.ofInt (1)))) 104 8 (Int32.ofInt (5))) 104 9 (Int32.ofInt (0))) := u2.set (c := 104) (k := 9) (v := (Int32.ofInt (0))) (show (-2147483648 : Int) ≤ _ ∧ _ ≤ 2147483647 from i32r_of _) rfl
    have w7 : xI (xsetI (xsetI (xsetI (xsetI h 104 9 (xI h 105 ((xI h 104 7)).toNatClampNeg)) 104 7 ((xI h 104 7) + (Int32.ofInt (1)))) 104 8 (Int32.ofInt (5))) 104 9 (Int32.ofInt (0))) 104 7 = ((xI h 104 7) + (Int32.ofInt (1))) := (yI_ne (by decide)).trans ((yI_ne (by decide)).trans (yI_same))
    have v8 : (xI (xsetI (xsetI (xsetI (xsetI h 104 9 (xI h 105 ((xI h 104 7)).toNatClampNeg)) 104 7 ((xI h 104 7) + (Int32.ofInt (1)))) 104 8 (Int32.ofInt (5))) 104 9 (Int32.ofInt (0))) 104 8).toInt = 5 := congrArg Int32.toInt ((yI_ne (by decide)).trans (yI_same) : xI (xsetI (xsetI (xsetI (xsetI h 104 9 (xI h 105 ((xI h 104 7)).toNatClampNeg)) 104 7 ((xI h 104 7) + (Int32.ofInt (1)))) 104 8 (Int32.ofInt (5))) 104 9 (Int32.ofInt (0))) 104 8 = (Int32.ofInt (5)))
    have v9 : (xI (xsetI (xsetI (xsetI (xsetI h 104 9 (xI h 105 ((xI h 104 7)).toNatClampNeg)) 104 7 ((xI h 104 7) + (Int32.ofInt (1)))) 104 8 (Int32.ofInt (5))) 104 9 (Int32.ofInt (0))) 104 9).toInt = 0 := congrArg Int32.toInt (yI_same : xI (xsetI (xsetI (xsetI (xsetI h 104 9 (xI h 105 ((xI h 104 7)).toNatClampNeg)) 104 7 ((xI h 104 7) + (Int32.ofInt (1)))) 104 8 (Int32.ofInt (5))) 104 9 (Int32.ofInt (0))) 104 9 = (Int32.ofInt (0)))
    refine ⟨_, CX_ofT (h' := (xsetI (xsetI (xsetI (xsetI h 104 9 (xI h 105 ((xI h 104 7)).toNatClampNeg)) 104 7 ((xI h 104 7) + (Int32.ofInt (1)))) 104 8 (Int32.ofInt (5))) 104 9 (Int32.ofInt (0)))) (by decide) rfl rfl trivial ⟨_, _, _, rfl, rfl, rfl⟩ rfl ⟨Nat.le_of_eq hg.2.2.2.1.symm, Nat.le_of_eq hg.2.2.2.2.symm⟩ t2, u3, ?_, ?_⟩
    · rw [w7, es]; show _ = ((q + 1 : Nat) : Int); omega
    · rw [es]; exact Or.inr (Or.inr (Or.inr (Or.inr (Or.inr (Or.inr (⟨v8, Or.inl (⟨rfl, v9⟩)⟩))))))
  · have e_1 : (Int32.ofInt (1)).toInt = 1 := rfl
    have dc1 : ((xI h 104 7) + (Int32.ofInt (1))).toInt < (xI h 104 6).toInt := Int32.lt_iff_toInt_lt.mp (Int32.not_le.mp c1)
    by_cases c3 : (xI (xsetI (xsetI h 104 9 (xI h (xR h 104 0) ((xI h 104 7)).toNatClampNeg)) 104 7 ((xI h 104 7) + (Int32.ofInt (1)))) (xR h 104 0) (((xI h 104 7) + (Int32.ofInt (1)))).toNatClampNeg) = (Int32.ofInt (61))
    · have e_1 : (Int32.ofInt (1)).toInt = 1 := rfl
      have e_61 : (Int32.ofInt (61)).toInt = 61 := rfl
      have c3r := c3
      rw [vref hg.1 (rfl : vRf 104 0 = [105])] at c3r
      have dc3 : (xI h 105 (((xI h 104 7) + (Int32.ofInt (1)))).toNatClampNeg).toInt = (Int32.ofInt (61)).toInt := congrArg Int32.toInt c3r
      have t4 : XT l 0 0 false 185 153 6051 0 [xf 13 104, xun, xun, xun] [] h 290 [xf 13 104, xi (xI (xsetI (xsetI h 104 9 (xI h (xR h 104 0) ((xI h 104 7)).toNatClampNeg)) 104 7 ((xI h 104 7) + (Int32.ofInt (1)))) (xR h 104 0) (((xI h 104 7) + (Int32.ofInt (1)))).toNatClampNeg), xi (Int32.ofInt (1)), xi (Int32.ofInt (0))] [] (xsetI (xsetI (xsetI (xsetI (xsetI h 104 9 (xI h (xR h 104 0) ((xI h 104 7)).toNatClampNeg)) 104 7 ((xI h 104 7) + (Int32.ofInt (1)))) 104 7 (((xI h 104 7) + (Int32.ofInt (1))) + (Int32.ofInt (1)))) 104 8 (Int32.ofInt (5))) 104 9 (Int32.ofInt (1))) := XT_path (l := l) (fr := 0) (lo := 0) (full := false) (M := 185) (n := 153) (u := 6051) (pc := 0) (L := [xf 13 104, xun, xun, xun]) (st := []) (h := h) (inl := []) (n' := 140) (sp := [290]) (o := [1, 0, 0, 0, 0, 1, 1, 1, 0, 0]) rfl rfl ⟨rfl, rfl, rfl⟩ rfl ⟨Nat.le_of_eq hg.2.2.2.1, Nat.le_of_eq hg.2.2.2.2⟩ ⟨⟨⟨⟨⟨⟨⟨⟨⟨⟨⟨⟨⟨⟨trivial, (vnn hg.1 (rfl : vRf 104 0 = [105]) (by decide))⟩, (vp_of (i := (xI h 104 7)) (n := 700) (by omega) (by omega))⟩, (show (xI h (xR h 104 0) ((xI h 104 7)).toNatClampNeg) = (Int32.ofInt (60)) from by rw [r0]; exact hv)⟩, c1⟩, (vnn hg.1 (rfl : vRf 104 0 = [105]) (by decide))⟩, (vp_of (i := ((xI h 104 7) + (Int32.ofInt (1)))) (n := 700) (by omega) (by omega))⟩, (show ¬ (xI h (xR h 104 0) ((xI h 104 7)).toNatClampNeg) = (Int32.ofInt (61)) from by rw [r0, hv]; decide)⟩, c3⟩, (show (xI h (xR h 104 0) ((xI h 104 7)).toNatClampNeg) = (Int32.ofInt (60)) from by rw [r0]; exact hv)⟩, (fun z => absurd (c3.symm.trans z) (by decide))⟩, (show ¬ (Int32.ofInt (1)) = 0 from by decide)⟩, (show ¬ (xI h (xR h 104 0) ((xI h 104 7)).toNatClampNeg) = (Int32.ofInt (61)) from by rw [r0, hv]; decide)⟩, (show (xI h (xR h 104 0) ((xI h 104 7)).toNatClampNeg) = (Int32.ofInt (60)) from by rw [r0]; exact hv)⟩, (show ¬ (Int32.ofInt (1)) = 0 from by decide)⟩
      rw [vref hg.1 (rfl : vRf 104 0 = [105])] at t4
      have t5 : XT l 0 0 false 185 153 6051 0 [xf 13 104, xun, xun, xun] [] h 290 [xf 13 104, xi (xI h 105 (((xI h 104 7) + (Int32.ofInt (1)))).toNatClampNeg), xi (Int32.ofInt (1)), xi (Int32.ofInt (0))] [] (xsetI (xsetI (xsetI (xsetI (xsetI h 104 9 (xI h 105 ((xI h 104 7)).toNatClampNeg)) 104 7 ((xI h 104 7) + (Int32.ofInt (1)))) 104 7 (((xI h 104 7) + (Int32.ofInt (1))) + (Int32.ofInt (1)))) 104 8 (Int32.ofInt (5))) 104 9 (Int32.ofInt (1))) := t4
      have in1 : q + 1 < n := by omega
      have m61 : b (q + 1) = 61 := sby_yes (eb1 in1) (by decide) (by decide) dc3
      have es : sSg b n q = ((8 : Int), q + 2) := by simp [sSg, hb, in1, m61]
      have u0 : mT ([(104, 7, false), (104, 8, false), (104, 9, false)], []) h (xsetI h 104 9 (xI h 105 ((xI h 104 7)).toNatClampNeg)) := (mT.rf hg).set (c := 104) (k := 9) (v := (xI h 105 ((xI h 104 7)).toNatClampNeg)) (show (-2147483648 : Int) ≤ _ ∧ _ ≤ 2147483647 from i32r_of _) rfl
      have u1 : mT ([(104, 7, false), (104, 8, false), (104, 9, false)], []) h (xsetI (xsetI h 104 9 (xI h 105 ((xI h 104 7)).toNatClampNeg)) 104 7 ((xI h 104 7) + (Int32.ofInt (1)))) := u0.set (c := 104) (k := 7) (v := ((xI h 104 7) + (Int32.ofInt (1)))) (show (0 : Int) ≤ _ ∧ _ ≤ 700 from ⟨by omega, by omega⟩) rfl
      have ej : ((((xI h 104 7) + (Int32.ofInt (1))) + (Int32.ofInt (1)))).toInt = (xI h 104 7).toInt + 2 := by rw [Int32.toInt_add, ei, show (Int32.ofInt (1)).toInt = 1 from rfl]; exact (Int.bmod_eq_of_le (by omega) (by omega)).trans (by omega)
      have u2 : mT ([(104, 7, false), (104, 8, false), (104, 9, false)], []) h (xsetI (xsetI (xsetI h 104 9 (xI h 105 ((xI h 104 7)).toNatClampNeg)) 104 7 ((xI h 104 7) + (Int32.ofInt (1)))) 104 7 (((xI h 104 7) + (Int32.ofInt (1))) + (Int32.ofInt (1)))) := u1.set (c := 104) (k := 7) (v := (((xI h 104 7) + (Int32.ofInt (1))) + (Int32.ofInt (1)))) (show (0 : Int) ≤ _ ∧ _ ≤ 700 from ⟨by omega, by omega⟩) rfl
      have u3 : mT ([(104, 7, false), (104, 8, false), (104, 9, false)], []) h (xsetI (xsetI (xsetI (xsetI h 104 9 (xI h 105 ((xI h 104 7)).toNatClampNeg)) 104 7 ((xI h 104 7) + (Int32.ofInt (1)))) 104 7 (((xI h 104 7) + (Int32.ofInt (1))) + (Int32.ofInt (1)))) 104 8 (Int32.ofInt (5))) := u2.set (c := 104) (k := 8) (v := (Int32.ofInt (5))) (show (0 : Int) ≤ _ ∧ _ ≤ 6 from by decide) rfl
      have u4 : mT ([(104, 7, false), (104, 8, false), (104, 9, false)], []) h (xsetI (xsetI (xsetI (xsetI (xsetI h 104 9 (xI h 105 ((xI h 104 7)).toNatClampNeg)) 104 7 ((xI h 104 7) + (Int32.ofInt (1)))) 104 7 (((xI h 104 7) + (Int32.ofInt (1))) + (Int32.ofInt (1)))) 104 8 (Int32.ofInt (5))) 104 9 (Int32.ofInt (1))) := u3.set (c := 104) (k := 9) (v := (Int32.ofInt (1))) (show (-2147483648 : Int) ≤ _ ∧ _ ≤ 2147483647 from i32r_of _) rfl
      have w7 : xI (xsetI (xsetI (xsetI (xsetI (xsetI h 104 9 (xI h 105 ((xI h 104 7)).toNatClampNeg)) 104 7 ((xI h 104 7) + (Int32.ofInt (1)))) 104 7 (((xI h 104 7) + (Int32.ofInt (1))) + (Int32.ofInt (1)))) 104 8 (Int32.ofInt (5))) 104 9 (Int32.ofInt (1))) 104 7 = (((xI h 104 7) + (Int32.ofInt (1))) + (Int32.ofInt (1))) := (yI_ne (by decide)).trans ((yI_ne (by decide)).trans (yI_same))
      have v8 : (xI (xsetI (xsetI (xsetI (xsetI (xsetI h 104 9 (xI h 105 ((xI h 104 7)).toNatClampNeg)) 104 7 ((xI h 104 7) + (Int32.ofInt (1)))) 104 7 (((xI h 104 7) + (Int32.ofInt (1))) + (Int32.ofInt (1)))) 104 8 (Int32.ofInt (5))) 104 9 (Int32.ofInt (1))) 104 8).toInt = 5 := congrArg Int32.toInt ((yI_ne (by decide)).trans (yI_same) : xI (xsetI (xsetI (xsetI (xsetI (xsetI h 104 9 (xI h 105 ((xI h 104 7)).toNatClampNeg)) 104 7 ((xI h 104 7) + (Int32.ofInt (1)))) 104 7 (((xI h 104 7) + (Int32.ofInt (1))) + (Int32.ofInt (1)))) 104 8 (Int32.ofInt (5))) 104 9 (Int32.ofInt (1))) 104 8 = (Int32.ofInt (5)))
      have v9 : (xI (xsetI (xsetI (xsetI (xsetI (xsetI h 104 9 (xI h 105 ((xI h 104 7)).toNatClampNeg)) 104 7 ((xI h 104 7) + (Int32.ofInt (1)))) 104 7 (((xI h 104 7) + (Int32.ofInt (1))) + (Int32.ofInt (1)))) 104 8 (Int32.ofInt (5))) 104 9 (Int32.ofInt (1))) 104 9).toInt = 1 := congrArg Int32.toInt (yI_same : xI (xsetI (xsetI (xsetI (xsetI (xsetI h 104 9 (xI h 105 ((xI h 104 7)).toNatClampNeg)) 104 7 ((xI h 104 7) + (Int32.ofInt (1)))) 104 7 (((xI h 104 7) + (Int32.ofInt (1))) + (Int32.ofInt (1)))) 104 8 (Int32.ofInt (5))) 104 9 (Int32.ofInt (1))) 104 9 = (Int32.ofInt (1)))
      refine ⟨_, CX_ofT (h' := (xsetI (xsetI (xsetI (xsetI (xsetI h 104 9 (xI h 105 ((xI h 104 7)).toNatClampNeg)) 104 7 ((xI h 104 7) + (Int32.ofInt (1)))) 104 7 (((xI h 104 7) + (Int32.ofInt (1))) + (Int32.ofInt (1)))) 104 8 (Int32.ofInt (5))) 104 9 (Int32.ofInt (1)))) (by decide) rfl rfl trivial ⟨_, _, _, rfl, rfl, rfl⟩ rfl ⟨Nat.le_of_eq hg.2.2.2.1.symm, Nat.le_of_eq hg.2.2.2.2.symm⟩ t5, u4, ?_, ?_⟩
      · rw [w7, es]; show _ = ((q + 2 : Nat) : Int); omega
      · rw [es]; exact Or.inr (Or.inr (Or.inr (Or.inr (Or.inr (Or.inr (⟨v8, Or.inr (Or.inl (⟨rfl, v9⟩))⟩))))))
    · have e_1 : (Int32.ofInt (1)).toInt = 1 := rfl
      have e_61 : (Int32.ofInt (61)).toInt = 61 := rfl
      have c3r := c3
      rw [vref hg.1 (rfl : vRf 104 0 = [105])] at c3r
      have dc3 : ¬ (xI h 105 (((xI h 104 7) + (Int32.ofInt (1)))).toNatClampNeg).toInt = (Int32.ofInt (61)).toInt := fun z_ => c3r (Int32.toInt_inj.mp z_)
      by_cases c6 : (xI (xsetI (xsetI h 104 9 (xI h (xR h 104 0) ((xI h 104 7)).toNatClampNeg)) 104 7 ((xI h 104 7) + (Int32.ofInt (1)))) (xR h 104 0) (((xI h 104 7) + (Int32.ofInt (1)))).toNatClampNeg) = (Int32.ofInt (62))
      · have e_1 : (Int32.ofInt (1)).toInt = 1 := rfl
        have e_62 : (Int32.ofInt (62)).toInt = 62 := rfl
        have c6r := c6
        rw [vref hg.1 (rfl : vRf 104 0 = [105])] at c6r
        have dc6 : (xI h 105 (((xI h 104 7) + (Int32.ofInt (1)))).toNatClampNeg).toInt = (Int32.ofInt (62)).toInt := congrArg Int32.toInt c6r
        have t7 : XT l 0 0 false 185 153 6051 0 [xf 13 104, xun, xun, xun] [] h 290 [xf 13 104, xi (xI (xsetI (xsetI h 104 9 (xI h (xR h 104 0) ((xI h 104 7)).toNatClampNeg)) 104 7 ((xI h 104 7) + (Int32.ofInt (1)))) (xR h 104 0) (((xI h 104 7) + (Int32.ofInt (1)))).toNatClampNeg), xi (Int32.ofInt (0)), xi (Int32.ofInt (1))] [] (xsetI (xsetI (xsetI (xsetI (xsetI h 104 9 (xI h (xR h 104 0) ((xI h 104 7)).toNatClampNeg)) 104 7 ((xI h 104 7) + (Int32.ofInt (1)))) 104 7 (((xI h 104 7) + (Int32.ofInt (1))) + (Int32.ofInt (1)))) 104 8 (Int32.ofInt (5))) 104 9 (Int32.ofInt (3))) := XT_path (l := l) (fr := 0) (lo := 0) (full := false) (M := 185) (n := 153) (u := 6051) (pc := 0) (L := [xf 13 104, xun, xun, xun]) (st := []) (h := h) (inl := []) (n' := 140) (sp := [290]) (o := [1, 0, 0, 1, 0, 0, 0, 0, 1, 0, 1, 0]) rfl rfl ⟨rfl, rfl, rfl⟩ rfl ⟨Nat.le_of_eq hg.2.2.2.1, Nat.le_of_eq hg.2.2.2.2⟩ ⟨⟨⟨⟨⟨⟨⟨⟨⟨⟨⟨⟨⟨⟨⟨⟨trivial, (vnn hg.1 (rfl : vRf 104 0 = [105]) (by decide))⟩, (vp_of (i := (xI h 104 7)) (n := 700) (by omega) (by omega))⟩, (show (xI h (xR h 104 0) ((xI h 104 7)).toNatClampNeg) = (Int32.ofInt (60)) from by rw [r0]; exact hv)⟩, c1⟩, (vnn hg.1 (rfl : vRf 104 0 = [105]) (by decide))⟩, (vp_of (i := ((xI h 104 7) + (Int32.ofInt (1)))) (n := 700) (by omega) (by omega))⟩, (show ¬ (xI h (xR h 104 0) ((xI h 104 7)).toNatClampNeg) = (Int32.ofInt (61)) from by rw [r0, hv]; decide)⟩, c3⟩, (show (xI h (xR h 104 0) ((xI h 104 7)).toNatClampNeg) = (Int32.ofInt (60)) from by rw [r0]; exact hv)⟩, c6⟩, rfl⟩, (show ¬ (Int32.ofInt (1)) = 0 from by decide)⟩, (show ¬ (xI h (xR h 104 0) ((xI h 104 7)).toNatClampNeg) = (Int32.ofInt (61)) from by rw [r0, hv]; decide)⟩, (show (xI h (xR h 104 0) ((xI h 104 7)).toNatClampNeg) = (Int32.ofInt (60)) from by rw [r0]; exact hv)⟩, rfl⟩, (show ¬ (Int32.ofInt (1)) = 0 from by decide)⟩
        rw [vref hg.1 (rfl : vRf 104 0 = [105])] at t7
        have t8 : XT l 0 0 false 185 153 6051 0 [xf 13 104, xun, xun, xun] [] h 290 [xf 13 104, xi (xI h 105 (((xI h 104 7) + (Int32.ofInt (1)))).toNatClampNeg), xi (Int32.ofInt (0)), xi (Int32.ofInt (1))] [] (xsetI (xsetI (xsetI (xsetI (xsetI h 104 9 (xI h 105 ((xI h 104 7)).toNatClampNeg)) 104 7 ((xI h 104 7) + (Int32.ofInt (1)))) 104 7 (((xI h 104 7) + (Int32.ofInt (1))) + (Int32.ofInt (1)))) 104 8 (Int32.ofInt (5))) 104 9 (Int32.ofInt (3))) := t7
        have in1 : q + 1 < n := by omega
        have m61 : ¬ b (q + 1) = 61 := sby_ne (eb1 in1) (by decide) (by decide) dc3
        have m62 : b (q + 1) = 62 := sby_yes (eb1 in1) (by decide) (by decide) dc6
        have es : sSg b n q = ((10 : Int), q + 2) := by simp [sSg, hb, in1, m61, m62]
        have u0 : mT ([(104, 7, false), (104, 8, false), (104, 9, false)], []) h (xsetI h 104 9 (xI h 105 ((xI h 104 7)).toNatClampNeg)) := (mT.rf hg).set (c := 104) (k := 9) (v := (xI h 105 ((xI h 104 7)).toNatClampNeg)) (show (-2147483648 : Int) ≤ _ ∧ _ ≤ 2147483647 from i32r_of _) rfl
        have u1 : mT ([(104, 7, false), (104, 8, false), (104, 9, false)], []) h (xsetI (xsetI h 104 9 (xI h 105 ((xI h 104 7)).toNatClampNeg)) 104 7 ((xI h 104 7) + (Int32.ofInt (1)))) := u0.set (c := 104) (k := 7) (v := ((xI h 104 7) + (Int32.ofInt (1)))) (show (0 : Int) ≤ _ ∧ _ ≤ 700 from ⟨by omega, by omega⟩) rfl
        have ej : ((((xI h 104 7) + (Int32.ofInt (1))) + (Int32.ofInt (1)))).toInt = (xI h 104 7).toInt + 2 := by rw [Int32.toInt_add, ei, show (Int32.ofInt (1)).toInt = 1 from rfl]; exact (Int.bmod_eq_of_le (by omega) (by omega)).trans (by omega)
        have u2 : mT ([(104, 7, false), (104, 8, false), (104, 9, false)], []) h (xsetI (xsetI (xsetI h 104 9 (xI h 105 ((xI h 104 7)).toNatClampNeg)) 104 7 ((xI h 104 7) + (Int32.ofInt (1)))) 104 7 (((xI h 104 7) + (Int32.ofInt (1))) + (Int32.ofInt (1)))) := u1.set (c := 104) (k := 7) (v := (((xI h 104 7) + (Int32.ofInt (1))) + (Int32.ofInt (1)))) (show (0 : Int) ≤ _ ∧ _ ≤ 700 from ⟨by omega, by omega⟩) rfl
        have u3 : mT ([(104, 7, false), (104, 8, false), (104, 9, false)], []) h (xsetI (xsetI (xsetI (xsetI h 104 9 (xI h 105 ((xI h 104 7)).toNatClampNeg)) 104 7 ((xI h 104 7) + (Int32.ofInt (1)))) 104 7 (((xI h 104 7) + (Int32.ofInt (1))) + (Int32.ofInt (1)))) 104 8 (Int32.ofInt (5))) := u2.set (c := 104) (k := 8) (v := (Int32.ofInt (5))) (show (0 : Int) ≤ _ ∧ _ ≤ 6 from by decide) rfl
        have u4 : mT ([(104, 7, false), (104, 8, false), (104, 9, false)], []) h (xsetI (xsetI (xsetI (xsetI (xsetI h 104 9 (xI h 105 ((xI h 104 7)).toNatClampNeg)) 104 7 ((xI h 104 7) + (Int32.ofInt (1)))) 104 7 (((xI h 104 7) + (Int32.ofInt (1))) + (Int32.ofInt (1)))) 104 8 (Int32.ofInt (5))) 104 9 (Int32.ofInt (3))) := u3.set (c := 104) (k := 9) (v := (Int32.ofInt (3))) (show (-2147483648 : Int) ≤ _ ∧ _ ≤ 2147483647 from i32r_of _) rfl
        have w7 : xI (xsetI (xsetI (xsetI (xsetI (xsetI h 104 9 (xI h 105 ((xI h 104 7)).toNatClampNeg)) 104 7 ((xI h 104 7) + (Int32.ofInt (1)))) 104 7 (((xI h 104 7) + (Int32.ofInt (1))) + (Int32.ofInt (1)))) 104 8 (Int32.ofInt (5))) 104 9 (Int32.ofInt (3))) 104 7 = (((xI h 104 7) + (Int32.ofInt (1))) + (Int32.ofInt (1))) := (yI_ne (by decide)).trans ((yI_ne (by decide)).trans (yI_same))
        have v8 : (xI (xsetI (xsetI (xsetI (xsetI (xsetI h 104 9 (xI h 105 ((xI h 104 7)).toNatClampNeg)) 104 7 ((xI h 104 7) + (Int32.ofInt (1)))) 104 7 (((xI h 104 7) + (Int32.ofInt (1))) + (Int32.ofInt (1)))) 104 8 (Int32.ofInt (5))) 104 9 (Int32.ofInt (3))) 104 8).toInt = 5 := congrArg Int32.toInt ((yI_ne (by decide)).trans (yI_same) : xI (xsetI (xsetI (xsetI (xsetI (xsetI h 104 9 (xI h 105 ((xI h 104 7)).toNatClampNeg)) 104 7 ((xI h 104 7) + (Int32.ofInt (1)))) 104 7 (((xI h 104 7) + (Int32.ofInt (1))) + (Int32.ofInt (1)))) 104 8 (Int32.ofInt (5))) 104 9 (Int32.ofInt (3))) 104 8 = (Int32.ofInt (5)))
        have v9 : (xI (xsetI (xsetI (xsetI (xsetI (xsetI h 104 9 (xI h 105 ((xI h 104 7)).toNatClampNeg)) 104 7 ((xI h 104 7) + (Int32.ofInt (1)))) 104 7 (((xI h 104 7) + (Int32.ofInt (1))) + (Int32.ofInt (1)))) 104 8 (Int32.ofInt (5))) 104 9 (Int32.ofInt (3))) 104 9).toInt = 3 := congrArg Int32.toInt (yI_same : xI (xsetI (xsetI (xsetI (xsetI (xsetI h 104 9 (xI h 105 ((xI h 104 7)).toNatClampNeg)) 104 7 ((xI h 104 7) + (Int32.ofInt (1)))) 104 7 (((xI h 104 7) + (Int32.ofInt (1))) + (Int32.ofInt (1)))) 104 8 (Int32.ofInt (5))) 104 9 (Int32.ofInt (3))) 104 9 = (Int32.ofInt (3)))
        refine ⟨_, CX_ofT (h' := (xsetI (xsetI (xsetI (xsetI (xsetI h 104 9 (xI h 105 ((xI h 104 7)).toNatClampNeg)) 104 7 ((xI h 104 7) + (Int32.ofInt (1)))) 104 7 (((xI h 104 7) + (Int32.ofInt (1))) + (Int32.ofInt (1)))) 104 8 (Int32.ofInt (5))) 104 9 (Int32.ofInt (3)))) (by decide) rfl rfl trivial ⟨_, _, _, rfl, rfl, rfl⟩ rfl ⟨Nat.le_of_eq hg.2.2.2.1.symm, Nat.le_of_eq hg.2.2.2.2.symm⟩ t8, u4, ?_, ?_⟩
        · rw [w7, es]; show _ = ((q + 2 : Nat) : Int); omega
        · rw [es]; exact Or.inr (Or.inr (Or.inr (Or.inr (Or.inr (Or.inr (⟨v8, Or.inr (Or.inr (Or.inr (Or.inl (⟨rfl, v9⟩))))⟩))))))
      · have e_1 : (Int32.ofInt (1)).toInt = 1 := rfl
        have e_62 : (Int32.ofInt (62)).toInt = 62 := rfl
        have c6r := c6
        rw [vref hg.1 (rfl : vRf 104 0 = [105])] at c6r
        have dc6 : ¬ (xI h 105 (((xI h 104 7) + (Int32.ofInt (1)))).toNatClampNeg).toInt = (Int32.ofInt (62)).toInt := fun z_ => c6r (Int32.toInt_inj.mp z_)
        have t9 : XT l 0 0 false 185 153 6051 0 [xf 13 104, xun, xun, xun] [] h 290 [xf 13 104, xi (xI (xsetI (xsetI h 104 9 (xI h (xR h 104 0) ((xI h 104 7)).toNatClampNeg)) 104 7 ((xI h 104 7) + (Int32.ofInt (1)))) (xR h 104 0) (((xI h 104 7) + (Int32.ofInt (1)))).toNatClampNeg), xi (Int32.ofInt (0)), xi (Int32.ofInt (0))] [] (xsetI (xsetI (xsetI (xsetI h 104 9 (xI h (xR h 104 0) ((xI h 104 7)).toNatClampNeg)) 104 7 ((xI h 104 7) + (Int32.ofInt (1)))) 104 8 (Int32.ofInt (5))) 104 9 (Int32.ofInt (0))) := XT_path (l := l) (fr := 0) (lo := 0) (full := false) (M := 185) (n := 153) (u := 6051) (pc := 0) (L := [xf 13 104, xun, xun, xun]) (st := []) (h := h) (inl := []) (n' := 140) (sp := [290]) (o := [1, 0, 0, 1, 0, 1, 0, 1, 1, 0, 1, 1]) rfl rfl ⟨rfl, rfl, rfl⟩ rfl ⟨Nat.le_of_eq hg.2.2.2.1, Nat.le_of_eq hg.2.2.2.2⟩ ⟨⟨⟨⟨⟨⟨⟨⟨⟨⟨⟨⟨⟨⟨⟨⟨trivial, (vnn hg.1 (rfl : vRf 104 0 = [105]) (by decide))⟩, (vp_of (i := (xI h 104 7)) (n := 700) (by omega) (by omega))⟩, (show (xI h (xR h 104 0) ((xI h 104 7)).toNatClampNeg) = (Int32.ofInt (60)) from by rw [r0]; exact hv)⟩, c1⟩, (vnn hg.1 (rfl : vRf 104 0 = [105]) (by decide))⟩, (vp_of (i := ((xI h 104 7) + (Int32.ofInt (1)))) (n := 700) (by omega) (by omega))⟩, (show ¬ (xI h (xR h 104 0) ((xI h 104 7)).toNatClampNeg) = (Int32.ofInt (61)) from by rw [r0, hv]; decide)⟩, c3⟩, (show (xI h (xR h 104 0) ((xI h 104 7)).toNatClampNeg) = (Int32.ofInt (60)) from by rw [r0]; exact hv)⟩, c6⟩, rfl⟩, rfl⟩, (show ¬ (xI h (xR h 104 0) ((xI h 104 7)).toNatClampNeg) = (Int32.ofInt (61)) from by rw [r0, hv]; decide)⟩, (show (xI h (xR h 104 0) ((xI h 104 7)).toNatClampNeg) = (Int32.ofInt (60)) from by rw [r0]; exact hv)⟩, rfl⟩, rfl⟩
        rw [vref hg.1 (rfl : vRf 104 0 = [105])] at t9
        have t10 : XT l 0 0 false 185 153 6051 0 [xf 13 104, xun, xun, xun] [] h 290 [xf 13 104, xi (xI h 105 (((xI h 104 7) + (Int32.ofInt (1)))).toNatClampNeg), xi (Int32.ofInt (0)), xi (Int32.ofInt (0))] [] (xsetI (xsetI (xsetI (xsetI h 104 9 (xI h 105 ((xI h 104 7)).toNatClampNeg)) 104 7 ((xI h 104 7) + (Int32.ofInt (1)))) 104 8 (Int32.ofInt (5))) 104 9 (Int32.ofInt (0))) := t9
        have in1 : q + 1 < n := by omega
        have m61 : ¬ b (q + 1) = 61 := sby_ne (eb1 in1) (by decide) (by decide) dc3
        have m62 : ¬ b (q + 1) = 62 := sby_ne (eb1 in1) (by decide) (by decide) dc6
        have es : sSg b n q = ((7 : Int), q + 1) := by simp [sSg, hb, in1, m61, m62]
        have u0 : mT ([(104, 7, false), (104, 8, false), (104, 9, false)], []) h (xsetI h 104 9 (xI h 105 ((xI h 104 7)).toNatClampNeg)) := (mT.rf hg).set (c := 104) (k := 9) (v := (xI h 105 ((xI h 104 7)).toNatClampNeg)) (show (-2147483648 : Int) ≤ _ ∧ _ ≤ 2147483647 from i32r_of _) rfl
        have u1 : mT ([(104, 7, false), (104, 8, false), (104, 9, false)], []) h (xsetI (xsetI h 104 9 (xI h 105 ((xI h 104 7)).toNatClampNeg)) 104 7 ((xI h 104 7) + (Int32.ofInt (1)))) := u0.set (c := 104) (k := 7) (v := ((xI h 104 7) + (Int32.ofInt (1)))) (show (0 : Int) ≤ _ ∧ _ ≤ 700 from ⟨by omega, by omega⟩) rfl
        have u2 : mT ([(104, 7, false), (104, 8, false), (104, 9, false)], []) h (xsetI (xsetI (xsetI h 104 9 (xI h 105 ((xI h 104 7)).toNatClampNeg)) 104 7 ((xI h 104 7) + (Int32.ofInt (1)))) 104 8 (Int32.ofInt (5))) := u1.set (c := 104) (k := 8) (v := (Int32.ofInt (5))) (show (0 : Int) ≤ _ ∧ _ ≤ 6 from by decide) rfl
        have u3 : mT ([(104, 7, false), (104, 8, false), (104, 9, false)], []) h (xsetI (xsetI (xsetI (xsetI h 104 9 (xI h 105 ((xI h 104 7)).toNatClampNeg)) 104 7 ((xI h 104 7) + (Int32.ofInt (1)))) 104 8 (Int32.ofInt (5))) 104 9 (Int32.ofInt (0))) := u2.set (c := 104) (k := 9) (v := (Int32.ofInt (0))) (show (-2147483648 : Int) ≤ _ ∧ _ ≤ 2147483647 from i32r_of _) rfl
        have w7 : xI (xsetI (xsetI (xsetI (xsetI h 104 9 (xI h 105 ((xI h 104 7)).toNatClampNeg)) 104 7 ((xI h 104 7) + (Int32.ofInt (1)))) 104 8 (Int32.ofInt (5))) 104 9 (Int32.ofInt (0))) 104 7 = ((xI h 104 7) + (Int32.ofInt (1))) := (yI_ne (by decide)).trans ((yI_ne (by decide)).trans (yI_same))
        have v8 : (xI (xsetI (xsetI (xsetI (xsetI h 104 9 (xI h 105 ((xI h 104 7)).toNatClampNeg)) 104 7 ((xI h 104 7) + (Int32.ofInt (1)))) 104 8 (Int32.ofInt (5))) 104 9 (Int32.ofInt (0))) 104 8).toInt = 5 := congrArg Int32.toInt ((yI_ne (by decide)).trans (yI_same) : xI (xsetI (xsetI (xsetI (xsetI h 104 9 (xI h 105 ((xI h 104 7)).toNatClampNeg)) 104 7 ((xI h 104 7) + (Int32.ofInt (1)))) 104 8 (Int32.ofInt (5))) 104 9 (Int32.ofInt (0))) 104 8 = (Int32.ofInt (5)))
        have v9 : (xI (xsetI (xsetI (xsetI (xsetI h 104 9 (xI h 105 ((xI h 104 7)).toNatClampNeg)) 104 7 ((xI h 104 7) + (Int32.ofInt (1)))) 104 8 (Int32.ofInt (5))) 104 9 (Int32.ofInt (0))) 104 9).toInt = 0 := congrArg Int32.toInt (yI_same : xI (xsetI (xsetI (xsetI (xsetI h 104 9 (xI h 105 ((xI h 104 7)).toNatClampNeg)) 104 7 ((xI h 104 7) + (Int32.ofInt (1)))) 104 8 (Int32.ofInt (5))) 104 9 (Int32.ofInt (0))) 104 9 = (Int32.ofInt (0)))
        refine ⟨_, CX_ofT (h' := (xsetI (xsetI (xsetI (xsetI h 104 9 (xI h 105 ((xI h 104 7)).toNatClampNeg)) 104 7 ((xI h 104 7) + (Int32.ofInt (1)))) 104 8 (Int32.ofInt (5))) 104 9 (Int32.ofInt (0)))) (by decide) rfl rfl trivial ⟨_, _, _, rfl, rfl, rfl⟩ rfl ⟨Nat.le_of_eq hg.2.2.2.1.symm, Nat.le_of_eq hg.2.2.2.2.symm⟩ t10, u3, ?_, ?_⟩
        · rw [w7, es]; show _ = ((q + 1 : Nat) : Int); omega
        · rw [es]; exact Or.inr (Or.inr (Or.inr (Or.inr (Or.inr (Or.inr (⟨v8, Or.inl (⟨rfl, v9⟩)⟩))))))
set_option maxRecDepth 100000 in
set_option maxHeartbeats 2000000 in
theorem mk_sg62 (l : Launch) (b : Nat → Int) (n q : Nat) (h : XH) (hg : mI h) (rr : mR b n h) (hn7 : n ≤ 700) (hqn : q < n) (hp : (xI h 104 7).toInt = q) (hv : (xI h 105 (xI h 104 7).toNatClampNeg) = (Int32.ofInt (62))) (hb : b q = 62) : ∃ h', CX l 0 0 false 185 [xf 13 104] h [] h' ∧ mT ([(104, 7, false), (104, 8, false), (104, 9, false)], []) h h' ∧ (xI h' 104 7).toInt = (sSg b n q).2 ∧ sKw (sSg b n q).1 0 (xI h' 104 8).toInt (xI h' 104 9).toInt := by
  have r5 := rr.1
  have r0 : xR h 104 0 = 105 := vref hg.1 rfl
  have np : (xI h 104 7).toNatClampNeg = q := by
    show (xI h 104 7).toInt.toNat = q
    omega
  have ei : ((xI h 104 7) + (Int32.ofInt (1))).toInt = (xI h 104 7).toInt + 1 := y_suc1 (by omega) (by omega)
  have np1 : ((xI h 104 7) + (Int32.ofInt (1))).toNatClampNeg = q + 1 := by
    show ((xI h 104 7) + (Int32.ofInt (1))).toInt.toNat = q + 1
    omega
  have eb1 : q + 1 < n → sby (xI h 105 ((xI h 104 7) + (Int32.ofInt (1))).toNatClampNeg).toInt = b (q + 1) := fun z => by rw [np1]; exact rr.2 (q + 1) z
  by_cases c1 : (xI h 104 6) ≤ ((xI h 104 7) + (Int32.ofInt (1)))
  · have e_1 : (Int32.ofInt (1)).toInt = 1 := rfl
    have dc1 : (xI h 104 6).toInt ≤ ((xI h 104 7) + (Int32.ofInt (1))).toInt := Int32.le_iff_toInt_le.mp c1
    have t2 : XT l 0 0 false 185 153 6051 0 [xf 13 104, xun, xun, xun] [] h 290 [xf 13 104, xi (Int32.ofInt (0)), xi (Int32.ofInt (0)), xi (Int32.ofInt (0))] [] (xsetI (xsetI (xsetI (xsetI h 104 9 (xI h (xR h 104 0) ((xI h 104 7)).toNatClampNeg)) 104 7 ((xI h 104 7) + (Int32.ofInt (1)))) 104 8 (Int32.ofInt (5))) 104 9 (Int32.ofInt (5))) := XT_path (l := l) (fr := 0) (lo := 0) (full := false) (M := 185) (n := 153) (u := 6051) (pc := 0) (L := [xf 13 104, xun, xun, xun]) (st := []) (h := h) (inl := []) (n' := 140) (sp := [290]) (o := [0, 1, 1, 0, 1, 1, 0, 1, 1, 1, 1]) rfl rfl ⟨rfl, rfl, rfl⟩ rfl ⟨Nat.le_of_eq hg.2.2.2.1, Nat.le_of_eq hg.2.2.2.2⟩ ⟨⟨⟨⟨⟨⟨⟨⟨⟨⟨⟨⟨⟨trivial, (vnn hg.1 (rfl : vRf 104 0 = [105]) (by decide))⟩, (vp_of (i := (xI h 104 7)) (n := 700) (by omega) (by omega))⟩, (show ¬ (xI h (xR h 104 0) ((xI h 104 7)).toNatClampNeg) = (Int32.ofInt (60)) from by rw [r0, hv]; decide)⟩, (show (xI h (xR h 104 0) ((xI h 104 7)).toNatClampNeg) = (Int32.ofInt (62)) from by rw [r0]; exact hv)⟩, c1⟩, (show ¬ (xI h (xR h 104 0) ((xI h 104 7)).toNatClampNeg) = (Int32.ofInt (61)) from by rw [r0, hv]; decide)⟩, (show ¬ (Int32.ofInt (0)) = (Int32.ofInt (61)) from by decide)⟩, (show ¬ (xI h (xR h 104 0) ((xI h 104 7)).toNatClampNeg) = (Int32.ofInt (60)) from by rw [r0, hv]; decide)⟩, rfl⟩, rfl⟩, (show ¬ (xI h (xR h 104 0) ((xI h 104 7)).toNatClampNeg) = (Int32.ofInt (61)) from by rw [r0, hv]; decide)⟩, (show ¬ (xI h (xR h 104 0) ((xI h 104 7)).toNatClampNeg) = (Int32.ofInt (60)) from by rw [r0, hv]; decide)⟩, rfl⟩
    rw [vref hg.1 (rfl : vRf 104 0 = [105])] at t2
    have in1 : ¬ q + 1 < n := by omega
    have es : sSg b n q = ((12 : Int), q + 1) := by simp [sSg, hb, in1]
    have u0 : mT ([(104, 7, false), (104, 8, false), (104, 9, false)], []) h (xsetI h 104 9 (xI h 105 ((xI h 104 7)).toNatClampNeg)) := (mT.rf hg).set (c := 104) (k := 9) (v := (xI h 105 ((xI h 104 7)).toNatClampNeg)) (show (-2147483648 : Int) ≤ _ ∧ _ ≤ 2147483647 from i32r_of _) rfl
    have u1 : mT ([(104, 7, false), (104, 8, false), (104, 9, false)], []) h (xsetI (xsetI h 104 9 (xI h 105 ((xI h 104 7)).toNatClampNeg)) 104 7 ((xI h 104 7) + (Int32.ofInt (1)))) := u0.set (c := 104) (k := 7) (v := ((xI h 104 7) + (Int32.ofInt (1)))) (show (0 : Int) ≤ _ ∧ _ ≤ 700 from ⟨by omega, by omega⟩) rfl
    have u2 : mT ([(104, 7, false), (104, 8, false), (104, 9, false)], []) h (xsetI (xsetI (xsetI h 104 9 (xI h 105 ((xI h 104 7)).toNatClampNeg)) 104 7 ((xI h 104 7) + (Int32.ofInt (1)))) 104 8 (Int32.ofInt (5))) := u1.set (c := 104) (k := 8) (v := (Int32.ofInt (5))) (show (0 : Int) ≤ _ ∧ _ ≤ 6 from by decide) rfl
    have u3 : mT ([(104, 7, false), (104, 8, false), (104, 9, false)], []) h (xsetI (xsetI (xsetI (xsetI h 104 9 (xI h 105 ((xI h 104 7)).toNatClampNeg)) 104 7 ((xI h 104 7) + (Int32.ofInt (1)))) 104 8 (Int32.ofInt (5))) 104 9 (Int32.ofInt (5))) := u2.set (c := 104) (k := 9) (v := (Int32.ofInt (5))) (show (-2147483648 : Int) ≤ _ ∧ _ ≤ 2147483647 from i32r_of _) rfl
    have w7 : xI (xsetI (xsetI (xsetI (xsetI h 104 9 (xI h 105 ((xI h 104 7)).toNatClampNeg)) 104 7 ((xI h 104 7) + (Int32.ofInt (1)))) 104 8 (Int32.ofInt (5))) 104 9 (Int32.ofInt (5))) 104 7 = ((xI h 104 7) + (Int32.ofInt (1))) := (yI_ne (by decide)).trans ((yI_ne (by decide)).trans (yI_same))
    have v8 : (xI (xsetI (xsetI (xsetI (xsetI h 104 9 (xI h 105 ((xI h 104 7)).toNatClampNeg)) 104 7 ((xI h 104 7) + (Int32.ofInt (1)))) 104 8 (Int32.ofInt (5))) 104 9 (Int32.ofInt (5))) 104 8).toInt = 5 := congrArg Int32.toInt ((yI_ne (by decide)).trans (yI_same) : xI (xsetI (xsetI (xsetI (xsetI h 104 9 (xI h 105 ((xI h 104 7)).toNatClampNeg)) 104 7 ((xI h 104 7) + (Int32.ofInt (1)))) 104 8 (Int32.ofInt (5))) 104 9 (Int32.ofInt (5))) 104 8 = (Int32.ofInt (5)))
    have v9 : (xI (xsetI (xsetI (xsetI (xsetI h 104 9 (xI h 105 ((xI h 104 7)).toNatClampNeg)) 104 7 ((xI h 104 7) + (Int32.ofInt (1)))) 104 8 (Int32.ofInt (5))) 104 9 (Int32.ofInt (5))) 104 9).toInt = 5 := congrArg Int32.toInt (yI_same : xI (xsetI (xsetI (xsetI (xsetI h 104 9 (xI h 105 ((xI h 104 7)).toNatClampNeg)) 104 7 ((xI h 104 7) + (Int32.ofInt (1)))) 104 8 (Int32.ofInt (5))) 104 9 (Int32.ofInt (5))) 104 9 = (Int32.ofInt (5)))
    refine ⟨_, CX_ofT (h' := (xsetI (xsetI (xsetI (xsetI h 104 9 (xI h 105 ((xI h 104 7)).toNatClampNeg)) 104 7 ((xI h 104 7) + (Int32.ofInt (1)))) 104 8 (Int32.ofInt (5))) 104 9 (Int32.ofInt (5)))) (by decide) rfl rfl trivial ⟨_, _, _, rfl, rfl, rfl⟩ rfl ⟨Nat.le_of_eq hg.2.2.2.1.symm, Nat.le_of_eq hg.2.2.2.2.symm⟩ t2, u3, ?_, ?_⟩
    · rw [w7, es]; show _ = ((q + 1 : Nat) : Int); omega
    · rw [es]; exact Or.inr (Or.inr (Or.inr (Or.inr (Or.inr (Or.inr (⟨v8, Or.inr (Or.inr (Or.inr (Or.inr (Or.inr (⟨rfl, v9⟩)))))⟩))))))
  · have e_1 : (Int32.ofInt (1)).toInt = 1 := rfl
    have dc1 : ((xI h 104 7) + (Int32.ofInt (1))).toInt < (xI h 104 6).toInt := Int32.lt_iff_toInt_lt.mp (Int32.not_le.mp c1)
    by_cases c3 : (xI (xsetI (xsetI h 104 9 (xI h (xR h 104 0) ((xI h 104 7)).toNatClampNeg)) 104 7 ((xI h 104 7) + (Int32.ofInt (1)))) (xR h 104 0) (((xI h 104 7) + (Int32.ofInt (1)))).toNatClampNeg) = (Int32.ofInt (61))
    · have e_1 : (Int32.ofInt (1)).toInt = 1 := rfl
      have e_61 : (Int32.ofInt (61)).toInt = 61 := rfl
      have c3r := c3
      rw [vref hg.1 (rfl : vRf 104 0 = [105])] at c3r
      have dc3 : (xI h 105 (((xI h 104 7) + (Int32.ofInt (1)))).toNatClampNeg).toInt = (Int32.ofInt (61)).toInt := congrArg Int32.toInt c3r
      have t4 : XT l 0 0 false 185 153 6051 0 [xf 13 104, xun, xun, xun] [] h 290 [xf 13 104, xi (xI (xsetI (xsetI h 104 9 (xI h (xR h 104 0) ((xI h 104 7)).toNatClampNeg)) 104 7 ((xI h 104 7) + (Int32.ofInt (1)))) (xR h 104 0) (((xI h 104 7) + (Int32.ofInt (1)))).toNatClampNeg), xi (Int32.ofInt (1)), xi (Int32.ofInt (0))] [] (xsetI (xsetI (xsetI (xsetI (xsetI h 104 9 (xI h (xR h 104 0) ((xI h 104 7)).toNatClampNeg)) 104 7 ((xI h 104 7) + (Int32.ofInt (1)))) 104 7 (((xI h 104 7) + (Int32.ofInt (1))) + (Int32.ofInt (1)))) 104 8 (Int32.ofInt (5))) 104 9 (Int32.ofInt (4))) := XT_path (l := l) (fr := 0) (lo := 0) (full := false) (M := 185) (n := 153) (u := 6051) (pc := 0) (L := [xf 13 104, xun, xun, xun]) (st := []) (h := h) (inl := []) (n' := 140) (sp := [290]) (o := [0, 1, 0, 0, 0, 1, 1, 1, 1, 0]) rfl rfl ⟨rfl, rfl, rfl⟩ rfl ⟨Nat.le_of_eq hg.2.2.2.1, Nat.le_of_eq hg.2.2.2.2⟩ ⟨⟨⟨⟨⟨⟨⟨⟨⟨⟨⟨⟨⟨⟨trivial, (vnn hg.1 (rfl : vRf 104 0 = [105]) (by decide))⟩, (vp_of (i := (xI h 104 7)) (n := 700) (by omega) (by omega))⟩, (show ¬ (xI h (xR h 104 0) ((xI h 104 7)).toNatClampNeg) = (Int32.ofInt (60)) from by rw [r0, hv]; decide)⟩, (show (xI h (xR h 104 0) ((xI h 104 7)).toNatClampNeg) = (Int32.ofInt (62)) from by rw [r0]; exact hv)⟩, c1⟩, (vnn hg.1 (rfl : vRf 104 0 = [105]) (by decide))⟩, (vp_of (i := ((xI h 104 7) + (Int32.ofInt (1)))) (n := 700) (by omega) (by omega))⟩, (show ¬ (xI h (xR h 104 0) ((xI h 104 7)).toNatClampNeg) = (Int32.ofInt (61)) from by rw [r0, hv]; decide)⟩, c3⟩, (show ¬ (xI h (xR h 104 0) ((xI h 104 7)).toNatClampNeg) = (Int32.ofInt (60)) from by rw [r0, hv]; decide)⟩, (show ¬ (Int32.ofInt (1)) = 0 from by decide)⟩, (show ¬ (xI h (xR h 104 0) ((xI h 104 7)).toNatClampNeg) = (Int32.ofInt (61)) from by rw [r0, hv]; decide)⟩, (show ¬ (xI h (xR h 104 0) ((xI h 104 7)).toNatClampNeg) = (Int32.ofInt (60)) from by rw [r0, hv]; decide)⟩, (show ¬ (Int32.ofInt (1)) = 0 from by decide)⟩
      rw [vref hg.1 (rfl : vRf 104 0 = [105])] at t4
      have t5 : XT l 0 0 false 185 153 6051 0 [xf 13 104, xun, xun, xun] [] h 290 [xf 13 104, xi (xI h 105 (((xI h 104 7) + (Int32.ofInt (1)))).toNatClampNeg), xi (Int32.ofInt (1)), xi (Int32.ofInt (0))] [] (xsetI (xsetI (xsetI (xsetI (xsetI h 104 9 (xI h 105 ((xI h 104 7)).toNatClampNeg)) 104 7 ((xI h 104 7) + (Int32.ofInt (1)))) 104 7 (((xI h 104 7) + (Int32.ofInt (1))) + (Int32.ofInt (1)))) 104 8 (Int32.ofInt (5))) 104 9 (Int32.ofInt (4))) := t4
      have in1 : q + 1 < n := by omega
      have m61 : b (q + 1) = 61 := sby_yes (eb1 in1) (by decide) (by decide) dc3
      have es : sSg b n q = ((11 : Int), q + 2) := by simp [sSg, hb, in1, m61]
      have u0 : mT ([(104, 7, false), (104, 8, false), (104, 9, false)], []) h (xsetI h 104 9 (xI h 105 ((xI h 104 7)).toNatClampNeg)) := (mT.rf hg).set (c := 104) (k := 9) (v := (xI h 105 ((xI h 104 7)).toNatClampNeg)) (show (-2147483648 : Int) ≤ _ ∧ _ ≤ 2147483647 from i32r_of _) rfl
      have u1 : mT ([(104, 7, false), (104, 8, false), (104, 9, false)], []) h (xsetI (xsetI h 104 9 (xI h 105 ((xI h 104 7)).toNatClampNeg)) 104 7 ((xI h 104 7) + (Int32.ofInt (1)))) := u0.set (c := 104) (k := 7) (v := ((xI h 104 7) + (Int32.ofInt (1)))) (show (0 : Int) ≤ _ ∧ _ ≤ 700 from ⟨by omega, by omega⟩) rfl
      have ej : ((((xI h 104 7) + (Int32.ofInt (1))) + (Int32.ofInt (1)))).toInt = (xI h 104 7).toInt + 2 := by rw [Int32.toInt_add, ei, show (Int32.ofInt (1)).toInt = 1 from rfl]; exact (Int.bmod_eq_of_le (by omega) (by omega)).trans (by omega)
      have u2 : mT ([(104, 7, false), (104, 8, false), (104, 9, false)], []) h (xsetI (xsetI (xsetI h 104 9 (xI h 105 ((xI h 104 7)).toNatClampNeg)) 104 7 ((xI h 104 7) + (Int32.ofInt (1)))) 104 7 (((xI h 104 7) + (Int32.ofInt (1))) + (Int32.ofInt (1)))) := u1.set (c := 104) (k := 7) (v := (((xI h 104 7) + (Int32.ofInt (1))) + (Int32.ofInt (1)))) (show (0 : Int) ≤ _ ∧ _ ≤ 700 from ⟨by omega, by omega⟩) rfl
      have u3 : mT ([(104, 7, false), (104, 8, false), (104, 9, false)], []) h (xsetI (xsetI (xsetI (xsetI h 104 9 (xI h 105 ((xI h 104 7)).toNatClampNeg)) 104 7 ((xI h 104 7) + (Int32.ofInt (1)))) 104 7 (((xI h 104 7) + (Int32.ofInt (1))) + (Int32.ofInt (1)))) 104 8 (Int32.ofInt (5))) := u2.set (c := 104) (k := 8) (v := (Int32.ofInt (5))) (show (0 : Int) ≤ _ ∧ _ ≤ 6 from by decide) rfl
      have u4 : mT ([(104, 7, false), (104, 8, false), (104, 9, false)], []) h (xsetI (xsetI (xsetI (xsetI (xsetI h 104 9 (xI h 105 ((xI h 104 7)).toNatClampNeg)) 104 7 ((xI h 104 7) + (Int32.ofInt (1)))) 104 7 (((xI h 104 7) + (Int32.ofInt (1))) + (Int32.ofInt (1)))) 104 8 (Int32.ofInt (5))) 104 9 (Int32.ofInt (4))) := u3.set (c := 104) (k := 9) (v := (Int32.ofInt (4))) (show (-2147483648 : Int) ≤ _ ∧ _ ≤ 2147483647 from i32r_of _) rfl
      have w7 : xI (xsetI (xsetI (xsetI (xsetI (xsetI h 104 9 (xI h 105 ((xI h 104 7)).toNatClampNeg)) 104 7 ((xI h 104 7) + (Int32.ofInt (1)))) 104 7 (((xI h 104 7) + (Int32.ofInt (1))) + (Int32.ofInt (1)))) 104 8 (Int32.ofInt (5))) 104 9 (Int32.ofInt (4))) 104 7 = (((xI h 104 7) + (Int32.ofInt (1))) + (Int32.ofInt (1))) := (yI_ne (by decide)).trans ((yI_ne (by decide)).trans (yI_same))
      have v8 : (xI (xsetI (xsetI (xsetI (xsetI (xsetI h 104 9 (xI h 105 ((xI h 104 7)).toNatClampNeg)) 104 7 ((xI h 104 7) + (Int32.ofInt (1)))) 104 7 (((xI h 104 7) + (Int32.ofInt (1))) + (Int32.ofInt (1)))) 104 8 (Int32.ofInt (5))) 104 9 (Int32.ofInt (4))) 104 8).toInt = 5 := congrArg Int32.toInt ((yI_ne (by decide)).trans (yI_same) : xI (xsetI (xsetI (xsetI (xsetI (xsetI h 104 9 (xI h 105 ((xI h 104 7)).toNatClampNeg)) 104 7 ((xI h 104 7) + (Int32.ofInt (1)))) 104 7 (((xI h 104 7) + (Int32.ofInt (1))) + (Int32.ofInt (1)))) 104 8 (Int32.ofInt (5))) 104 9 (Int32.ofInt (4))) 104 8 = (Int32.ofInt (5)))
      have v9 : (xI (xsetI (xsetI (xsetI (xsetI (xsetI h 104 9 (xI h 105 ((xI h 104 7)).toNatClampNeg)) 104 7 ((xI h 104 7) + (Int32.ofInt (1)))) 104 7 (((xI h 104 7) + (Int32.ofInt (1))) + (Int32.ofInt (1)))) 104 8 (Int32.ofInt (5))) 104 9 (Int32.ofInt (4))) 104 9).toInt = 4 := congrArg Int32.toInt (yI_same : xI (xsetI (xsetI (xsetI (xsetI (xsetI h 104 9 (xI h 105 ((xI h 104 7)).toNatClampNeg)) 104 7 ((xI h 104 7) + (Int32.ofInt (1)))) 104 7 (((xI h 104 7) + (Int32.ofInt (1))) + (Int32.ofInt (1)))) 104 8 (Int32.ofInt (5))) 104 9 (Int32.ofInt (4))) 104 9 = (Int32.ofInt (4)))
      refine ⟨_, CX_ofT (h' := (xsetI (xsetI (xsetI (xsetI (xsetI h 104 9 (xI h 105 ((xI h 104 7)).toNatClampNeg)) 104 7 ((xI h 104 7) + (Int32.ofInt (1)))) 104 7 (((xI h 104 7) + (Int32.ofInt (1))) + (Int32.ofInt (1)))) 104 8 (Int32.ofInt (5))) 104 9 (Int32.ofInt (4)))) (by decide) rfl rfl trivial ⟨_, _, _, rfl, rfl, rfl⟩ rfl ⟨Nat.le_of_eq hg.2.2.2.1.symm, Nat.le_of_eq hg.2.2.2.2.symm⟩ t5, u4, ?_, ?_⟩
      · rw [w7, es]; show _ = ((q + 2 : Nat) : Int); omega
      · rw [es]; exact Or.inr (Or.inr (Or.inr (Or.inr (Or.inr (Or.inr (⟨v8, Or.inr (Or.inr (Or.inr (Or.inr (Or.inl (⟨rfl, v9⟩)))))⟩))))))
    · have e_1 : (Int32.ofInt (1)).toInt = 1 := rfl
      have e_61 : (Int32.ofInt (61)).toInt = 61 := rfl
      have c3r := c3
      rw [vref hg.1 (rfl : vRf 104 0 = [105])] at c3r
      have dc3 : ¬ (xI h 105 (((xI h 104 7) + (Int32.ofInt (1)))).toNatClampNeg).toInt = (Int32.ofInt (61)).toInt := fun z_ => c3r (Int32.toInt_inj.mp z_)
      have t6 : XT l 0 0 false 185 153 6051 0 [xf 13 104, xun, xun, xun] [] h 290 [xf 13 104, xi (xI (xsetI (xsetI h 104 9 (xI h (xR h 104 0) ((xI h 104 7)).toNatClampNeg)) 104 7 ((xI h 104 7) + (Int32.ofInt (1)))) (xR h 104 0) (((xI h 104 7) + (Int32.ofInt (1)))).toNatClampNeg), xi (Int32.ofInt (0)), xi (Int32.ofInt (0))] [] (xsetI (xsetI (xsetI (xsetI h 104 9 (xI h (xR h 104 0) ((xI h 104 7)).toNatClampNeg)) 104 7 ((xI h 104 7) + (Int32.ofInt (1)))) 104 8 (Int32.ofInt (5))) 104 9 (Int32.ofInt (5))) := XT_path (l := l) (fr := 0) (lo := 0) (full := false) (M := 185) (n := 153) (u := 6051) (pc := 0) (L := [xf 13 104, xun, xun, xun]) (st := []) (h := h) (inl := []) (n' := 140) (sp := [290]) (o := [0, 1, 0, 0, 1, 1, 0, 1, 1, 1, 1]) rfl rfl ⟨rfl, rfl, rfl⟩ rfl ⟨Nat.le_of_eq hg.2.2.2.1, Nat.le_of_eq hg.2.2.2.2⟩ ⟨⟨⟨⟨⟨⟨⟨⟨⟨⟨⟨⟨⟨⟨⟨trivial, (vnn hg.1 (rfl : vRf 104 0 = [105]) (by decide))⟩, (vp_of (i := (xI h 104 7)) (n := 700) (by omega) (by omega))⟩, (show ¬ (xI h (xR h 104 0) ((xI h 104 7)).toNatClampNeg) = (Int32.ofInt (60)) from by rw [r0, hv]; decide)⟩, (show (xI h (xR h 104 0) ((xI h 104 7)).toNatClampNeg) = (Int32.ofInt (62)) from by rw [r0]; exact hv)⟩, c1⟩, (vnn hg.1 (rfl : vRf 104 0 = [105]) (by decide))⟩, (vp_of (i := ((xI h 104 7) + (Int32.ofInt (1)))) (n := 700) (by omega) (by omega))⟩, (show ¬ (xI h (xR h 104 0) ((xI h 104 7)).toNatClampNeg) = (Int32.ofInt (61)) from by rw [r0, hv]; decide)⟩, c3⟩, (show ¬ (xI h (xR h 104 0) ((xI h 104 7)).toNatClampNeg) = (Int32.ofInt (60)) from by rw [r0, hv]; decide)⟩, rfl⟩, rfl⟩, (show ¬ (xI h (xR h 104 0) ((xI h 104 7)).toNatClampNeg) = (Int32.ofInt (61)) from by rw [r0, hv]; decide)⟩, (show ¬ (xI h (xR h 104 0) ((xI h 104 7)).toNatClampNeg) = (Int32.ofInt (60)) from by rw [r0, hv]; decide)⟩, rfl⟩
      rw [vref hg.1 (rfl : vRf 104 0 = [105])] at t6
      have t7 : XT l 0 0 false 185 153 6051 0 [xf 13 104, xun, xun, xun] [] h 290 [xf 13 104, xi (xI h 105 (((xI h 104 7) + (Int32.ofInt (1)))).toNatClampNeg), xi (Int32.ofInt (0)), xi (Int32.ofInt (0))] [] (xsetI (xsetI (xsetI (xsetI h 104 9 (xI h 105 ((xI h 104 7)).toNatClampNeg)) 104 7 ((xI h 104 7) + (Int32.ofInt (1)))) 104 8 (Int32.ofInt (5))) 104 9 (Int32.ofInt (5))) := t6
      have in1 : q + 1 < n := by omega
      have m61 : ¬ b (q + 1) = 61 := sby_ne (eb1 in1) (by decide) (by decide) dc3
      have es : sSg b n q = ((12 : Int), q + 1) := by simp [sSg, hb, in1, m61]
      have u0 : mT ([(104, 7, false), (104, 8, false), (104, 9, false)], []) h (xsetI h 104 9 (xI h 105 ((xI h 104 7)).toNatClampNeg)) := (mT.rf hg).set (c := 104) (k := 9) (v := (xI h 105 ((xI h 104 7)).toNatClampNeg)) (show (-2147483648 : Int) ≤ _ ∧ _ ≤ 2147483647 from i32r_of _) rfl
      have u1 : mT ([(104, 7, false), (104, 8, false), (104, 9, false)], []) h (xsetI (xsetI h 104 9 (xI h 105 ((xI h 104 7)).toNatClampNeg)) 104 7 ((xI h 104 7) + (Int32.ofInt (1)))) := u0.set (c := 104) (k := 7) (v := ((xI h 104 7) + (Int32.ofInt (1)))) (show (0 : Int) ≤ _ ∧ _ ≤ 700 from ⟨by omega, by omega⟩) rfl
      have u2 : mT ([(104, 7, false), (104, 8, false), (104, 9, false)], []) h (xsetI (xsetI (xsetI h 104 9 (xI h 105 ((xI h 104 7)).toNatClampNeg)) 104 7 ((xI h 104 7) + (Int32.ofInt (1)))) 104 8 (Int32.ofInt (5))) := u1.set (c := 104) (k := 8) (v := (Int32.ofInt (5))) (show (0 : Int) ≤ _ ∧ _ ≤ 6 from by decide) rfl
      have u3 : mT ([(104, 7, false), (104, 8, false), (104, 9, false)], []) h (xsetI (xsetI (xsetI (xsetI h 104 9 (xI h 105 ((xI h 104 7)).toNatClampNeg)) 104 7 ((xI h 104 7) + (Int32.ofInt (1)))) 104 8 (Int32.ofInt (5))) 104 9 (Int32.ofInt (5))) := u2.set (c := 104) (k := 9) (v := (Int32.ofInt (5))) (show (-2147483648 : Int) ≤ _ ∧ _ ≤ 2147483647 from i32r_of _) rfl
      have w7 : xI (xsetI (xsetI (xsetI (xsetI h 104 9 (xI h 105 ((xI h 104 7)).toNatClampNeg)) 104 7 ((xI h 104 7) + (Int32.ofInt (1)))) 104 8 (Int32.ofInt (5))) 104 9 (Int32.ofInt (5))) 104 7 = ((xI h 104 7) + (Int32.ofInt (1))) := (yI_ne (by decide)).trans ((yI_ne (by decide)).trans (yI_same))
      have v8 : (xI (xsetI (xsetI (xsetI (xsetI h 104 9 (xI h 105 ((xI h 104 7)).toNatClampNeg)) 104 7 ((xI h 104 7) + (Int32.ofInt (1)))) 104 8 (Int32.ofInt (5))) 104 9 (Int32.ofInt (5))) 104 8).toInt = 5 := congrArg Int32.toInt ((yI_ne (by decide)).trans (yI_same) : xI (xsetI (xsetI (xsetI (xsetI h 104 9 (xI h 105 ((xI h 104 7)).toNatClampNeg)) 104 7 ((xI h 104 7) + (Int32.ofInt (1)))) 104 8 (Int32.ofInt (5))) 104 9 (Int32.ofInt (5))) 104 8 = (Int32.ofInt (5)))
      have v9 : (xI (xsetI (xsetI (xsetI (xsetI h 104 9 (xI h 105 ((xI h 104 7)).toNatClampNeg)) 104 7 ((xI h 104 7) + (Int32.ofInt (1)))) 104 8 (Int32.ofInt (5))) 104 9 (Int32.ofInt (5))) 104 9).toInt = 5 := congrArg Int32.toInt (yI_same : xI (xsetI (xsetI (xsetI (xsetI h 104 9 (xI h 105 ((xI h 104 7)).toNatClampNeg)) 104 7 ((xI h 104 7) + (Int32.ofInt (1)))) 104 8 (Int32.ofInt (5))) 104 9 (Int32.ofInt (5))) 104 9 = (Int32.ofInt (5)))
      refine ⟨_, CX_ofT (h' := (xsetI (xsetI (xsetI (xsetI h 104 9 (xI h 105 ((xI h 104 7)).toNatClampNeg)) 104 7 ((xI h 104 7) + (Int32.ofInt (1)))) 104 8 (Int32.ofInt (5))) 104 9 (Int32.ofInt (5)))) (by decide) rfl rfl trivial ⟨_, _, _, rfl, rfl, rfl⟩ rfl ⟨Nat.le_of_eq hg.2.2.2.1.symm, Nat.le_of_eq hg.2.2.2.2.symm⟩ t7, u3, ?_, ?_⟩
      · rw [w7, es]; show _ = ((q + 1 : Nat) : Int); omega
      · rw [es]; exact Or.inr (Or.inr (Or.inr (Or.inr (Or.inr (Or.inr (⟨v8, Or.inr (Or.inr (Or.inr (Or.inr (Or.inr (⟨rfl, v9⟩)))))⟩))))))
set_option maxRecDepth 100000 in
set_option maxHeartbeats 2000000 in
theorem mk_sg37 (l : Launch) (b : Nat → Int) (n q : Nat) (h : XH) (hg : mI h) (rr : mR b n h) (hn7 : n ≤ 700) (hqn : q < n) (hp : (xI h 104 7).toInt = q) (hv : (xI h 105 (xI h 104 7).toNatClampNeg) = (Int32.ofInt (37))) (hb : b q = 37) : ∃ h', CX l 0 0 false 185 [xf 13 104] h [] h' ∧ mT ([(104, 7, false), (104, 8, false), (104, 9, false)], []) h h' ∧ (xI h' 104 7).toInt = (sSg b n q).2 ∧ sKw (sSg b n q).1 0 (xI h' 104 8).toInt (xI h' 104 9).toInt := by
  have r5 := rr.1
  have r0 : xR h 104 0 = 105 := vref hg.1 rfl
  have np : (xI h 104 7).toNatClampNeg = q := by
    show (xI h 104 7).toInt.toNat = q
    omega
  have ei : ((xI h 104 7) + (Int32.ofInt (1))).toInt = (xI h 104 7).toInt + 1 := y_suc1 (by omega) (by omega)
  have t1 : XT l 0 0 false 185 153 6051 0 [xf 13 104, xun, xun, xun] [] h 290 [xf 13 104, xi (Int32.ofInt (1)), xun, xun] [] (xsetI (xsetI (xsetI h 104 9 (xI h (xR h 104 0) ((xI h 104 7)).toNatClampNeg)) 104 7 ((xI h 104 7) + (Int32.ofInt (1)))) 104 8 (Int32.ofInt (4))) := XT_path (l := l) (fr := 0) (lo := 0) (full := false) (M := 185) (n := 153) (u := 6051) (pc := 0) (L := [xf 13 104, xun, xun, xun]) (st := []) (h := h) (inl := []) (n' := 140) (sp := [290]) (o := [0, 0, 1, 0, 0, 0, 0, 0, 0, 0, 0, 0]) rfl rfl ⟨rfl, rfl, rfl⟩ rfl ⟨Nat.le_of_eq hg.2.2.2.1, Nat.le_of_eq hg.2.2.2.2⟩ ⟨⟨⟨⟨⟨⟨⟨⟨⟨⟨⟨⟨⟨⟨trivial, (vnn hg.1 (rfl : vRf 104 0 = [105]) (by decide))⟩, (vp_of (i := (xI h 104 7)) (n := 700) (by omega) (by omega))⟩, (show ¬ (xI h (xR h 104 0) ((xI h 104 7)).toNatClampNeg) = (Int32.ofInt (60)) from by rw [r0, hv]; decide)⟩, (show ¬ (xI h (xR h 104 0) ((xI h 104 7)).toNatClampNeg) = (Int32.ofInt (62)) from by rw [r0, hv]; decide)⟩, (show ¬ (xI h (xR h 104 0) ((xI h 104 7)).toNatClampNeg) = (Int32.ofInt (61)) from by rw [r0, hv]; decide)⟩, (show ¬ (xI h (xR h 104 0) ((xI h 104 7)).toNatClampNeg) = (Int32.ofInt (59)) from by rw [r0, hv]; decide)⟩, (show ¬ (xI h (xR h 104 0) ((xI h 104 7)).toNatClampNeg) = (Int32.ofInt (40)) from by rw [r0, hv]; decide)⟩, (show ¬ (xI h (xR h 104 0) ((xI h 104 7)).toNatClampNeg) = (Int32.ofInt (41)) from by rw [r0, hv]; decide)⟩, (show ¬ (xI h (xR h 104 0) ((xI h 104 7)).toNatClampNeg) = (Int32.ofInt (43)) from by rw [r0, hv]; decide)⟩, (show ¬ (xI h (xR h 104 0) ((xI h 104 7)).toNatClampNeg) = (Int32.ofInt (45)) from by rw [r0, hv]; decide)⟩, (show ¬ (xI h (xR h 104 0) ((xI h 104 7)).toNatClampNeg) = (Int32.ofInt (42)) from by rw [r0, hv]; decide)⟩, (show ¬ (xI h (xR h 104 0) ((xI h 104 7)).toNatClampNeg) = (Int32.ofInt (47)) from by rw [r0, hv]; decide)⟩, (show (xI h (xR h 104 0) ((xI h 104 7)).toNatClampNeg) = (Int32.ofInt (37)) from by rw [r0]; exact hv)⟩, (show ¬ (Int32.ofInt (1)) = 0 from by decide)⟩
  rw [vref hg.1 (rfl : vRf 104 0 = [105])] at t1
  have es : sSg b n q = ((1 : Int), q + 1) := by simp [sSg, hb]
  have u0 : mT ([(104, 7, false), (104, 8, false), (104, 9, false)], []) h (xsetI h 104 9 (xI h 105 ((xI h 104 7)).toNatClampNeg)) := (mT.rf hg).set (c := 104) (k := 9) (v := (xI h 105 ((xI h 104 7)).toNatClampNeg)) (show (-2147483648 : Int) ≤ _ ∧ _ ≤ 2147483647 from i32r_of _) rfl
  have u1 : mT ([(104, 7, false), (104, 8, false), (104, 9, false)], []) h (xsetI (xsetI h 104 9 (xI h 105 ((xI h 104 7)).toNatClampNeg)) 104 7 ((xI h 104 7) + (Int32.ofInt (1)))) := u0.set (c := 104) (k := 7) (v := ((xI h 104 7) + (Int32.ofInt (1)))) (show (0 : Int) ≤ _ ∧ _ ≤ 700 from ⟨by omega, by omega⟩) rfl
  have u2 : mT ([(104, 7, false), (104, 8, false), (104, 9, false)], []) h (xsetI (xsetI (xsetI h 104 9 (xI h 105 ((xI h 104 7)).toNatClampNeg)) 104 7 ((xI h 104 7) + (Int32.ofInt (1)))) 104 8 (Int32.ofInt (4))) := u1.set (c := 104) (k := 8) (v := (Int32.ofInt (4))) (show (0 : Int) ≤ _ ∧ _ ≤ 6 from by decide) rfl
  have w7 : xI (xsetI (xsetI (xsetI h 104 9 (xI h 105 ((xI h 104 7)).toNatClampNeg)) 104 7 ((xI h 104 7) + (Int32.ofInt (1)))) 104 8 (Int32.ofInt (4))) 104 7 = ((xI h 104 7) + (Int32.ofInt (1))) := (yI_ne (by decide)).trans (yI_same)
  have v8 : (xI (xsetI (xsetI (xsetI h 104 9 (xI h 105 ((xI h 104 7)).toNatClampNeg)) 104 7 ((xI h 104 7) + (Int32.ofInt (1)))) 104 8 (Int32.ofInt (4))) 104 8).toInt = 4 := congrArg Int32.toInt (yI_same : xI (xsetI (xsetI (xsetI h 104 9 (xI h 105 ((xI h 104 7)).toNatClampNeg)) 104 7 ((xI h 104 7) + (Int32.ofInt (1)))) 104 8 (Int32.ofInt (4))) 104 8 = (Int32.ofInt (4)))
  have v9 : (xI (xsetI (xsetI (xsetI h 104 9 (xI h 105 ((xI h 104 7)).toNatClampNeg)) 104 7 ((xI h 104 7) + (Int32.ofInt (1)))) 104 8 (Int32.ofInt (4))) 104 9).toInt = 37 := congrArg Int32.toInt (((yI_ne (by decide)).trans ((yI_ne (by decide)).trans (yI_same)) : xI (xsetI (xsetI (xsetI h 104 9 (xI h 105 ((xI h 104 7)).toNatClampNeg)) 104 7 ((xI h 104 7) + (Int32.ofInt (1)))) 104 8 (Int32.ofInt (4))) 104 9 = (xI h 105 ((xI h 104 7)).toNatClampNeg)).trans hv)
  refine ⟨_, CX_ofT (h' := (xsetI (xsetI (xsetI h 104 9 (xI h 105 ((xI h 104 7)).toNatClampNeg)) 104 7 ((xI h 104 7) + (Int32.ofInt (1)))) 104 8 (Int32.ofInt (4)))) (by decide) rfl rfl trivial ⟨_, _, _, rfl, rfl, rfl⟩ rfl ⟨Nat.le_of_eq hg.2.2.2.1.symm, Nat.le_of_eq hg.2.2.2.2.symm⟩ t1, u2, ?_, ?_⟩
  · rw [w7, es]; show _ = ((q + 1 : Nat) : Int); omega
  · rw [es]; exact Or.inr (Or.inl ⟨rfl, Or.inr ⟨v8, v9⟩⟩)
set_option maxRecDepth 100000 in
set_option maxHeartbeats 2000000 in
theorem mk_sg0 (l : Launch) (b : Nat → Int) (n q : Nat) (h : XH) (hg : mI h) (rr : mR b n h) (hn7 : n ≤ 700) (hqn : q < n) (hp : (xI h 104 7).toInt = q) (n59 : ¬ (xI h 105 (xI h 104 7).toNatClampNeg) = (Int32.ofInt (59))) (n40 : ¬ (xI h 105 (xI h 104 7).toNatClampNeg) = (Int32.ofInt (40))) (n41 : ¬ (xI h 105 (xI h 104 7).toNatClampNeg) = (Int32.ofInt (41))) (n43 : ¬ (xI h 105 (xI h 104 7).toNatClampNeg) = (Int32.ofInt (43))) (n45 : ¬ (xI h 105 (xI h 104 7).toNatClampNeg) = (Int32.ofInt (45))) (n42 : ¬ (xI h 105 (xI h 104 7).toNatClampNeg) = (Int32.ofInt (42))) (n47 : ¬ (xI h 105 (xI h 104 7).toNatClampNeg) = (Int32.ofInt (47))) (n61 : ¬ (xI h 105 (xI h 104 7).toNatClampNeg) = (Int32.ofInt (61))) (n60 : ¬ (xI h 105 (xI h 104 7).toNatClampNeg) = (Int32.ofInt (60))) (n62 : ¬ (xI h 105 (xI h 104 7).toNatClampNeg) = (Int32.ofInt (62))) (n37 : ¬ (xI h 105 (xI h 104 7).toNatClampNeg) = (Int32.ofInt (37))) (k59 : ¬ b q = 59) (k40 : ¬ b q = 40) (k41 : ¬ b q = 41) (k43 : ¬ b q = 43) (k45 : ¬ b q = 45) (k42 : ¬ b q = 42) (k47 : ¬ b q = 47) (k61 : ¬ b q = 61) (k60 : ¬ b q = 60) (k62 : ¬ b q = 62) : ∃ h', CX l 0 0 false 185 [xf 13 104] h [] h' ∧ mT ([(104, 7, false), (104, 8, false), (104, 9, false)], []) h h' ∧ (xI h' 104 7).toInt = (sSg b n q).2 ∧ sKw (sSg b n q).1 0 (xI h' 104 8).toInt (xI h' 104 9).toInt := by
  have r5 := rr.1
  have r0 : xR h 104 0 = 105 := vref hg.1 rfl
  have np : (xI h 104 7).toNatClampNeg = q := by
    show (xI h 104 7).toInt.toNat = q
    omega
  have ei : ((xI h 104 7) + (Int32.ofInt (1))).toInt = (xI h 104 7).toInt + 1 := y_suc1 (by omega) (by omega)
  have t1 : XT l 0 0 false 185 153 6051 0 [xf 13 104, xun, xun, xun] [] h 290 [xf 13 104, xi (Int32.ofInt (0)), xun, xun] [] (xsetI (xsetI (xsetI h 104 9 (xI h (xR h 104 0) ((xI h 104 7)).toNatClampNeg)) 104 7 ((xI h 104 7) + (Int32.ofInt (1)))) 104 8 (Int32.ofInt (6))) := XT_path (l := l) (fr := 0) (lo := 0) (full := false) (M := 185) (n := 153) (u := 6051) (pc := 0) (L := [xf 13 104, xun, xun, xun]) (st := []) (h := h) (inl := []) (n' := 140) (sp := [290]) (o := [0, 0, 1, 0, 0, 0, 0, 0, 0, 0, 1, 1]) rfl rfl ⟨rfl, rfl, rfl⟩ rfl ⟨Nat.le_of_eq hg.2.2.2.1, Nat.le_of_eq hg.2.2.2.2⟩ ⟨⟨⟨⟨⟨⟨⟨⟨⟨⟨⟨⟨⟨⟨trivial, (vnn hg.1 (rfl : vRf 104 0 = [105]) (by decide))⟩, (vp_of (i := (xI h 104 7)) (n := 700) (by omega) (by omega))⟩, (show ¬ (xI h (xR h 104 0) ((xI h 104 7)).toNatClampNeg) = (Int32.ofInt (60)) from by rw [r0]; exact n60)⟩, (show ¬ (xI h (xR h 104 0) ((xI h 104 7)).toNatClampNeg) = (Int32.ofInt (62)) from by rw [r0]; exact n62)⟩, (show ¬ (xI h (xR h 104 0) ((xI h 104 7)).toNatClampNeg) = (Int32.ofInt (61)) from by rw [r0]; exact n61)⟩, (show ¬ (xI h (xR h 104 0) ((xI h 104 7)).toNatClampNeg) = (Int32.ofInt (59)) from by rw [r0]; exact n59)⟩, (show ¬ (xI h (xR h 104 0) ((xI h 104 7)).toNatClampNeg) = (Int32.ofInt (40)) from by rw [r0]; exact n40)⟩, (show ¬ (xI h (xR h 104 0) ((xI h 104 7)).toNatClampNeg) = (Int32.ofInt (41)) from by rw [r0]; exact n41)⟩, (show ¬ (xI h (xR h 104 0) ((xI h 104 7)).toNatClampNeg) = (Int32.ofInt (43)) from by rw [r0]; exact n43)⟩, (show ¬ (xI h (xR h 104 0) ((xI h 104 7)).toNatClampNeg) = (Int32.ofInt (45)) from by rw [r0]; exact n45)⟩, (show ¬ (xI h (xR h 104 0) ((xI h 104 7)).toNatClampNeg) = (Int32.ofInt (42)) from by rw [r0]; exact n42)⟩, (show ¬ (xI h (xR h 104 0) ((xI h 104 7)).toNatClampNeg) = (Int32.ofInt (47)) from by rw [r0]; exact n47)⟩, (show ¬ (xI h (xR h 104 0) ((xI h 104 7)).toNatClampNeg) = (Int32.ofInt (37)) from by rw [r0]; exact n37)⟩, rfl⟩
  rw [vref hg.1 (rfl : vRf 104 0 = [105])] at t1
  have es : sSg b n q = ((1 : Int), q + 1) := by simp [sSg, k59, k40, k41, k43, k45, k42, k47, k61, k60, k62]
  have u0 : mT ([(104, 7, false), (104, 8, false), (104, 9, false)], []) h (xsetI h 104 9 (xI h 105 ((xI h 104 7)).toNatClampNeg)) := (mT.rf hg).set (c := 104) (k := 9) (v := (xI h 105 ((xI h 104 7)).toNatClampNeg)) (show (-2147483648 : Int) ≤ _ ∧ _ ≤ 2147483647 from i32r_of _) rfl
  have u1 : mT ([(104, 7, false), (104, 8, false), (104, 9, false)], []) h (xsetI (xsetI h 104 9 (xI h 105 ((xI h 104 7)).toNatClampNeg)) 104 7 ((xI h 104 7) + (Int32.ofInt (1)))) := u0.set (c := 104) (k := 7) (v := ((xI h 104 7) + (Int32.ofInt (1)))) (show (0 : Int) ≤ _ ∧ _ ≤ 700 from ⟨by omega, by omega⟩) rfl
  have u2 : mT ([(104, 7, false), (104, 8, false), (104, 9, false)], []) h (xsetI (xsetI (xsetI h 104 9 (xI h 105 ((xI h 104 7)).toNatClampNeg)) 104 7 ((xI h 104 7) + (Int32.ofInt (1)))) 104 8 (Int32.ofInt (6))) := u1.set (c := 104) (k := 8) (v := (Int32.ofInt (6))) (show (0 : Int) ≤ _ ∧ _ ≤ 6 from by decide) rfl
  have w7 : xI (xsetI (xsetI (xsetI h 104 9 (xI h 105 ((xI h 104 7)).toNatClampNeg)) 104 7 ((xI h 104 7) + (Int32.ofInt (1)))) 104 8 (Int32.ofInt (6))) 104 7 = ((xI h 104 7) + (Int32.ofInt (1))) := (yI_ne (by decide)).trans (yI_same)
  have v8 : (xI (xsetI (xsetI (xsetI h 104 9 (xI h 105 ((xI h 104 7)).toNatClampNeg)) 104 7 ((xI h 104 7) + (Int32.ofInt (1)))) 104 8 (Int32.ofInt (6))) 104 8).toInt = 6 := congrArg Int32.toInt (yI_same : xI (xsetI (xsetI (xsetI h 104 9 (xI h 105 ((xI h 104 7)).toNatClampNeg)) 104 7 ((xI h 104 7) + (Int32.ofInt (1)))) 104 8 (Int32.ofInt (6))) 104 8 = (Int32.ofInt (6)))
  refine ⟨_, CX_ofT (h' := (xsetI (xsetI (xsetI h 104 9 (xI h 105 ((xI h 104 7)).toNatClampNeg)) 104 7 ((xI h 104 7) + (Int32.ofInt (1)))) 104 8 (Int32.ofInt (6)))) (by decide) rfl rfl trivial ⟨_, _, _, rfl, rfl, rfl⟩ rfl ⟨Nat.le_of_eq hg.2.2.2.1.symm, Nat.le_of_eq hg.2.2.2.2.symm⟩ t1, u2, ?_, ?_⟩
  · rw [w7, es]; show _ = ((q + 1 : Nat) : Int); omega
  · rw [es]; exact Or.inr (Or.inl ⟨rfl, Or.inl v8⟩)
theorem mk_sign (l : Launch) (b : Nat → Int) (n q : Nat) (h : XH) (hg : mI h) (rr : mR b n h) (hn7 : n ≤ 700) (hqn : q < n) (hp : (xI h 104 7).toInt = q) : ∃ h', CX l 0 0 false 185 [xf 13 104] h [] h' ∧ mT ([(104, 7, false), (104, 8, false), (104, 9, false)], []) h h' ∧ (xI h' 104 7).toInt = (sSg b n q).2 ∧ sKw (sSg b n q).1 0 (xI h' 104 8).toInt (xI h' 104 9).toInt := by
  have np : (xI h 104 7).toNatClampNeg = q := by
    show (xI h 104 7).toInt.toNat = q
    omega
  have eb := rr.2 q hqn
  rw [← np] at eb
  by_cases n59 : (xI h 105 (xI h 104 7).toNatClampNeg) = (Int32.ofInt (59))
  · exact mk_sg59 l b n q h hg rr hn7 hqn hp n59 (by have z := sby_yes (c := 59) eb (by decide) (by decide) (by rw [n59]; rfl); rw [np] at z; exact z)
  by_cases n40 : (xI h 105 (xI h 104 7).toNatClampNeg) = (Int32.ofInt (40))
  · exact mk_sg40 l b n q h hg rr hn7 hqn hp n40 (by have z := sby_yes (c := 40) eb (by decide) (by decide) (by rw [n40]; rfl); rw [np] at z; exact z)
  by_cases n41 : (xI h 105 (xI h 104 7).toNatClampNeg) = (Int32.ofInt (41))
  · exact mk_sg41 l b n q h hg rr hn7 hqn hp n41 (by have z := sby_yes (c := 41) eb (by decide) (by decide) (by rw [n41]; rfl); rw [np] at z; exact z)
  by_cases n43 : (xI h 105 (xI h 104 7).toNatClampNeg) = (Int32.ofInt (43))
  · exact mk_sg43 l b n q h hg rr hn7 hqn hp n43 (by have z := sby_yes (c := 43) eb (by decide) (by decide) (by rw [n43]; rfl); rw [np] at z; exact z)
  by_cases n45 : (xI h 105 (xI h 104 7).toNatClampNeg) = (Int32.ofInt (45))
  · exact mk_sg45 l b n q h hg rr hn7 hqn hp n45 (by have z := sby_yes (c := 45) eb (by decide) (by decide) (by rw [n45]; rfl); rw [np] at z; exact z)
  by_cases n42 : (xI h 105 (xI h 104 7).toNatClampNeg) = (Int32.ofInt (42))
  · exact mk_sg42 l b n q h hg rr hn7 hqn hp n42 (by have z := sby_yes (c := 42) eb (by decide) (by decide) (by rw [n42]; rfl); rw [np] at z; exact z)
  by_cases n47 : (xI h 105 (xI h 104 7).toNatClampNeg) = (Int32.ofInt (47))
  · exact mk_sg47 l b n q h hg rr hn7 hqn hp n47 (by have z := sby_yes (c := 47) eb (by decide) (by decide) (by rw [n47]; rfl); rw [np] at z; exact z)
  by_cases n61 : (xI h 105 (xI h 104 7).toNatClampNeg) = (Int32.ofInt (61))
  · exact mk_sg61 l b n q h hg rr hn7 hqn hp n61 (by have z := sby_yes (c := 61) eb (by decide) (by decide) (by rw [n61]; rfl); rw [np] at z; exact z)
  by_cases n60 : (xI h 105 (xI h 104 7).toNatClampNeg) = (Int32.ofInt (60))
  · exact mk_sg60 l b n q h hg rr hn7 hqn hp n60 (by have z := sby_yes (c := 60) eb (by decide) (by decide) (by rw [n60]; rfl); rw [np] at z; exact z)
  by_cases n62 : (xI h 105 (xI h 104 7).toNatClampNeg) = (Int32.ofInt (62))
  · exact mk_sg62 l b n q h hg rr hn7 hqn hp n62 (by have z := sby_yes (c := 62) eb (by decide) (by decide) (by rw [n62]; rfl); rw [np] at z; exact z)
  by_cases n37 : (xI h 105 (xI h 104 7).toNatClampNeg) = (Int32.ofInt (37))
  · exact mk_sg37 l b n q h hg rr hn7 hqn hp n37 (by have z := sby_yes (c := 37) eb (by decide) (by decide) (by rw [n37]; rfl); rw [np] at z; exact z)
  have k59 : ¬ b q = 59 := by have z := sby_ne (c := 59) eb (by decide) (by decide) (fun y => n59 (Int32.toInt_inj.mp y)); rw [np] at z; exact z
  have k40 : ¬ b q = 40 := by have z := sby_ne (c := 40) eb (by decide) (by decide) (fun y => n40 (Int32.toInt_inj.mp y)); rw [np] at z; exact z
  have k41 : ¬ b q = 41 := by have z := sby_ne (c := 41) eb (by decide) (by decide) (fun y => n41 (Int32.toInt_inj.mp y)); rw [np] at z; exact z
  have k43 : ¬ b q = 43 := by have z := sby_ne (c := 43) eb (by decide) (by decide) (fun y => n43 (Int32.toInt_inj.mp y)); rw [np] at z; exact z
  have k45 : ¬ b q = 45 := by have z := sby_ne (c := 45) eb (by decide) (by decide) (fun y => n45 (Int32.toInt_inj.mp y)); rw [np] at z; exact z
  have k42 : ¬ b q = 42 := by have z := sby_ne (c := 42) eb (by decide) (by decide) (fun y => n42 (Int32.toInt_inj.mp y)); rw [np] at z; exact z
  have k47 : ¬ b q = 47 := by have z := sby_ne (c := 47) eb (by decide) (by decide) (fun y => n47 (Int32.toInt_inj.mp y)); rw [np] at z; exact z
  have k61 : ¬ b q = 61 := by have z := sby_ne (c := 61) eb (by decide) (by decide) (fun y => n61 (Int32.toInt_inj.mp y)); rw [np] at z; exact z
  have k60 : ¬ b q = 60 := by have z := sby_ne (c := 60) eb (by decide) (by decide) (fun y => n60 (Int32.toInt_inj.mp y)); rw [np] at z; exact z
  have k62 : ¬ b q = 62 := by have z := sby_ne (c := 62) eb (by decide) (by decide) (fun y => n62 (Int32.toInt_inj.mp y)); rw [np] at z; exact z
  exact mk_sg0 l b n q h hg rr hn7 hqn hp n59 n40 n41 n43 n45 n42 n47 n61 n60 n62 n37 k59 k40 k41 k43 k45 k42 k47 k61 k60 k62
