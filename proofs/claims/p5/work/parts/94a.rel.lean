/-! WHAT THE LAW KEEPS OF BOTH SIDES: pieces. -/
/-- none of these is written -/
def swn (V L : SWl) : Bool := V.all (fun z => L.all (fun q => !(Nat.beq z.1 q.1 && (z.2.2 || (q.2.2 || Nat.beq z.2.1 q.2.1)))))
theorem swn_ok {V L : SWl} (h : swn V L = true) {c k : Nat} (hc : swin L c k = true) : swin V c k = false := by
  cases hv : swin V c k with
  | false => rfl
  | true =>
    exfalso
    unfold swin at hv hc
    obtain ⟨z, hz, z1⟩ := List.any_eq_true.mp hv
    obtain ⟨q, hq, q1⟩ := List.any_eq_true.mp hc
    have y := List.all_eq_true.mp (List.all_eq_true.mp h z hz) q hq
    rw [Bool.and_eq_true, Bool.or_eq_true] at z1 q1
    obtain ⟨z1, z2⟩ := z1
    obtain ⟨q1, q2⟩ := q1
    rw [show Nat.beq z.1 q.1 = true by rw [Nat.eq_of_beq_eq_true z1, Nat.eq_of_beq_eq_true q1]; exact Nat.beq_refl c] at y
    rcases z2 with z2 | z2
    · rw [z2] at y
      cases y
    · rcases q2 with q2 | q2
      · rw [q2] at y
        cases hb : z.2.2 with
        | true => rw [hb] at y; cases y
        | false => rw [hb] at y; cases y
      · rw [show Nat.beq z.2.1 q.2.1 = true by rw [Nat.eq_of_beq_eq_true z2, Nat.eq_of_beq_eq_true q2]; exact Nat.beq_refl k] at y
        cases hb : z.2.2 with
        | true => rw [hb] at y; cases y
        | false =>
          cases hb2 : q.2.2 with
          | true => rw [hb, hb2] at y; cases y
          | false => rw [hb, hb2] at y; cases y
def vKeep (L : SWl) (h h' : XH) : Prop := ∀ c k, swin L c k = true → xI h' c k = xI h c k
theorem vKeep.of {L : SWl} {V : SW} {h h' : XH} (f : sframe V h h') (hn : swn V.1 L = true) : vKeep L h h' := fun c k hc => f.1 c k (swn_ok hn hc)
theorem vKeep.tr {L : SWl} {a b c : XH} (x : vKeep L a b) (y : vKeep L b c) : vKeep L a c := fun i k hk => (y i k hk).trans (x i k hk)
def vL1 : SWl := [(45, 1, false), (104, 1, false), (46, 0, true), (105, 0, true)]
def vL2 : SWl := [(45, 2, false), (45, 3, false), (104, 4, false), (104, 5, false)]
def vL3 : SWl := [(48, 7, false), (138, 0, false)]
def vL4 : SWl := [(2, 6, false), (104, 78, false), (70, 7, false), (151, 14, false)]
def vL5 : SWl := [(85, 0, false), (104, 72, false)]
def vL6c : SWl := [(3, 0, true), (4, 0, true), (5, 0, true), (6, 0, true), (7, 0, true), (8, 0, true), (9, 0, true), (10, 0, true), (11, 0, true), (12, 0, true), (13, 0, true), (14, 0, true), (15, 0, true), (16, 0, true), (17, 0, true), (18, 0, true), (19, 0, true), (20, 0, true), (21, 0, true), (22, 0, true), (24, 0, true), (25, 0, true), (26, 0, true), (27, 0, true), (28, 0, true), (29, 0, true), (30, 0, true), (31, 0, true), (32, 0, true), (33, 0, true), (34, 0, true), (35, 0, true), (36, 0, true), (37, 0, true), (38, 0, true), (39, 0, true), (40, 0, true), (41, 0, true), (42, 0, true), (43, 0, true)]
def vL6j : SWl := [(104, 12, false), (104, 13, false), (104, 14, false), (104, 15, false), (104, 16, false), (108, 0, true), (109, 0, true), (110, 0, true), (111, 0, true), (112, 0, true), (113, 0, true), (114, 0, true), (115, 0, true), (116, 0, true), (117, 0, true), (118, 0, true), (119, 0, true), (120, 0, true), (121, 0, true), (122, 0, true), (123, 0, true), (124, 0, true), (125, 0, true), (126, 0, true), (127, 0, true), (128, 0, true)]
def vL63 : SWl := [(3, 0, true), (4, 0, true), (5, 0, true), (6, 0, true), (7, 0, true), (8, 0, true), (9, 0, true), (10, 0, true), (11, 0, true), (12, 0, true), (13, 0, true), (14, 0, true), (15, 0, true), (16, 0, true), (17, 0, true), (18, 0, true), (19, 0, true), (20, 0, true), (21, 0, true), (22, 0, true)]
def vL624 : SWl := [(24, 0, true), (25, 0, true), (26, 0, true), (27, 0, true), (28, 0, true), (29, 0, true), (30, 0, true), (31, 0, true), (32, 0, true), (33, 0, true), (34, 0, true), (35, 0, true), (36, 0, true), (37, 0, true), (38, 0, true), (39, 0, true), (40, 0, true), (41, 0, true), (42, 0, true), (43, 0, true)]
def vL6 : SWl := vL6c ++ vL6j
/-- the tape -/
def vR1 (h : XH) : Prop := xI h 45 1 = xI h 104 1 ∧ (∀ k : Nat, (k : Int) < (xI h 45 1).toInt → sby (xI h 46 k).toInt = sby (xI h 105 k).toInt)
theorem vR1.fr {h h' : XH} (r : vR1 h) (e : vKeep vL1 h h') : vR1 h' := by
  refine ⟨by rw [e 45 1 rfl, e 104 1 rfl]; exact r.1, fun k hk => ?_⟩
  rw [e 45 1 rfl] at hk
  rw [e 46 k rfl, e 105 k rfl]
  exact r.2 k hk
/-- the fault, its place -/
def vR2 (h : XH) : Prop := xI h 45 2 = xI h 104 4 ∧ xI h 45 3 = xI h 104 5
theorem vR2.fr {h h' : XH} (r : vR2 h) (e : vKeep vL2 h h') : vR2 h' := ⟨by rw [e 45 2 rfl, e 104 4 rfl]; exact r.1, by rw [e 45 3 rfl, e 104 5 rfl]; exact r.2⟩
/-- which season it is -/
def vR3 (h : XH) : Prop := xI h 48 7 = xI h 138 0
theorem vR3.fr {h h' : XH} (r : vR3 h) (e : vKeep vL3 h h') : vR3 h' := by
  unfold vR3
  rw [e 48 7 rfl, e 138 0 rfl]
  exact r
/-- an image, its season -/
def vR4 (h : XH) : Prop := xI h 2 6 = xI h 104 78 ∧ (¬ xI h 2 6 = 0 → xI h 70 7 = xI h 151 14)
theorem vR4.fr {h h' : XH} (r : vR4 h) (e : vKeep vL4 h h') : vR4 h' := by
  refine ⟨by rw [e 2 6 rfl, e 104 78 rfl]; exact r.1, ?_⟩
  rw [e 2 6 rfl, e 70 7 rfl, e 151 14 rfl]
  exact r.2
/-- how many stones -/
def vR5 (h : XH) : Prop := xI h 85 0 = xI h 104 72
theorem vR5.fr {h h' : XH} (r : vR5 h) (e : vKeep vL5 h h') : vR5 h' := by
  unfold vR5
  rw [e 85 0 rfl, e 104 72 rfl]
  exact r
/-- the text in force -/
def kTx (c : Nat) (Z : Nat → Int) (h : XH) : Prop := kC c Z h ∧ kF (c + 18) (c + 19) Z h ∧ kO (c + 15) (c + 16) (c + 17) Z h
theorem kTx.fr {c : Nat} {Z : Nat → Int} {h h' : XH} (a : kTx c Z h) (e : ∀ i k, c ≤ i → i ≤ c + 19 → xI h' i k = xI h i k) : kTx c Z h' := by
  obtain ⟨⟨a1, a2, a3⟩, a4, a5, a6, a7⟩ := a
  refine ⟨⟨fun i hi => ?_, ?_, fun j k hj hk => ?_⟩, fun w hw => ?_, ?_, ?_, fun k hk => ?_⟩
  · rw [e c _ (by omega) (by omega)]
    exact a1 i hi
  · rw [e c _ (by omega) (by omega)]
    exact a2
  · rw [e (c + 1 + j) _ (by omega) (by omega)]
    exact a3 j k hj hk
  · rw [e (c + 18) _ (by omega) (by omega), e (c + 19) _ (by omega) (by omega)]
    exact a4 w hw
  · rw [e (c + 15) _ (by omega) (by omega)]
    exact a5
  · rw [e (c + 15) _ (by omega) (by omega)]
    exact a6
  · rw [e (c + 16) _ (by omega) (by omega), e (c + 17) _ (by omega) (by omega)]
    exact a7 k hk
theorem jK.B {Z : Nat → Int} {h : XH} (i : sinv vT h) (z : jK Z h) : zcB Z ∧ 0 ≤ Z 10 ∧ Z 10 ≤ 64 := by
  have b0 : 0 ≤ (xI h 104 12).toInt ∧ (xI h 104 12).toInt ≤ 6 := vbnd i 104 12
  have b1 : 0 ≤ (xI h 104 13).toInt ∧ (xI h 104 13).toInt ≤ 9 := vbnd i 104 13
  have b2 : 0 ≤ (xI h 104 14).toInt ∧ (xI h 104 14).toInt ≤ 8 := vbnd i 104 14
  have b3 : 0 ≤ (xI h 104 15).toInt ∧ (xI h 104 15).toInt ≤ 6 := vbnd i 104 15
  have b4 : 0 ≤ (xI h 104 16).toInt ∧ (xI h 104 16).toInt ≤ 64 := vbnd i 104 16
  have e0 := z.1 0 (by decide)
  have e1 := z.1 1 (by decide)
  have e2 := z.1 2 (by decide)
  have e3 := z.1 3 (by decide)
  have e4 := z.2.2.2.2.1
  rw [e4] at b4
  have e0 : (xI h 104 12).toInt = Z 0 := e0
  have e1 : (xI h 104 13).toInt = Z 1 := e1
  have e2 : (xI h 104 14).toInt = Z 2 := e2
  have e3 : (xI h 104 15).toInt = Z 3 := e3
  rw [e0] at b0
  rw [e1] at b1
  rw [e2] at b2
  rw [e3] at b3
  exact ⟨⟨b0, b1, b2, b3⟩, b4⟩
theorem jK.fr {Z : Nat → Int} {h h' : XH} (i : sinv vT h) (z : jK Z h) (e4 : ∀ k, 12 ≤ k → k ≤ 16 → xI h' 104 k = xI h 104 k) (er : ∀ c k, 108 ≤ c → c ≤ 128 → k < jno c → xI h' c k = xI h c k) : jK Z h' := by
  obtain ⟨B, g0, g1⟩ := z.B i
  obtain ⟨a1, a2, a3, a4, a5, a6⟩ := z
  refine ⟨fun j hj => by rw [e4 _ (by omega) (by omega)]; exact a1 j hj, ?_, fun j k hj hk => ?_, fun w hw => ?_, by rw [e4 16 (by decide) (by decide)]; exact a5, fun k hk => ?_⟩
  · rw [er 108 0 (by decide) (by decide) (by decide)]
    exact a2
  · rw [er (109 + j) k (by omega) (by omega) (by rw [jof_no hj]; exact zkn_of B hj hk)]
    exact a3 j k hj hk
  · rw [er 123 w (by decide) (by decide) hw, er 124 w (by decide) (by decide) hw, er 125 w (by decide) (by decide) hw]
    exact a4 w hw
  · have k64 : k < 64 := by omega
    rw [er 126 k (by decide) (by decide) k64, er 127 k (by decide) (by decide) k64, er 128 k (by decide) (by decide) k64]
    exact a6 k hk
def vTx (Z : Nat → Int) (h : XH) : Prop := ((xR h 2 1 = 3 ∧ xR h 2 2 = 24 ∧ kTx 3 Z h) ∨ (xR h 2 1 = 24 ∧ xR h 2 2 = 3 ∧ kTx 24 Z h)) ∧ jK Z h
theorem vL6_c : ∀ c, c < 44 → 3 ≤ c → ¬ c = 23 → scell vL6c c = true := by decide +kernel
theorem vL6_3 : ∀ c, c < 23 → 3 ≤ c → scell vL63 c = true := by decide +kernel
theorem vL6_24 : ∀ c, c < 44 → 24 ≤ c → scell vL624 c = true := by decide +kernel
theorem vL6_j : ∀ c, c < 129 → 108 ≤ c → scell vL6j c = true := by decide +kernel
theorem swin_app {V U : SWl} {c k : Nat} : swin (V ++ U) c k = (swin V c k || swin U c k) := by
  unfold swin
  rw [List.any_append]
theorem vKeep.l {V U : SWl} {h h' : XH} (e : vKeep (V ++ U) h h') : vKeep V h h' := fun c k hk => e c k (by rw [swin_app, hk, Bool.true_or])
theorem vKeep.r {V U : SWl} {h h' : XH} (e : vKeep (V ++ U) h h') : vKeep U h h' := fun c k hk => e c k (by rw [swin_app, hk, Bool.or_true])
theorem vTx.go {Z : Nat → Int} {h h' : XH} (i : sinv vT h) (r : vTx Z h) (e : vKeep vL6c h h') (f1 : xR h' 2 1 = xR h 2 1) (f2 : xR h' 2 2 = xR h 2 2) (e4 : ∀ k, 12 ≤ k → k ≤ 16 → xI h' 104 k = xI h 104 k) (er : ∀ c k, 108 ≤ c → c ≤ 128 → k < jno c → xI h' c k = xI h c k) : vTx Z h' := by
  refine ⟨?_, r.2.fr i e4 er⟩
  rw [f1, f2]
  rcases r.1 with ⟨a, b, c⟩ | ⟨a, b, c⟩
  · exact Or.inl ⟨a, b, c.fr (fun i k i1 i2 => e i k (scell_in (vL6_c i (by omega) i1 (by omega))))⟩
  · exact Or.inr ⟨a, b, c.fr (fun i k i1 i2 => e i k (scell_in (vL6_c i (by omega) (by omega) (by omega))))⟩
theorem vTx.fr {Z : Nat → Int} {h h' : XH} (i : sinv vT h) (r : vTx Z h) (e : vKeep vL6 h h') (f1 : xR h' 2 1 = xR h 2 1) (f2 : xR h' 2 2 = xR h 2 2) : vTx Z h' := by
  refine r.go i e.l f1 f2 (fun k k1 k2 => e.r 104 k ?_) (fun c k c1 c2 _ => e.r c k (scell_in (vL6_j c (by omega) c1)))
  rcases (by omega : k = 12 ∨ k = 13 ∨ k = 14 ∨ k = 15 ∨ k = 16) with rfl | rfl | rfl | rfl | rfl <;> rfl
def vR6 (h : XH) : Prop := ∃ Z, vTx Z h
def vRl (h : XH) : Prop := vR1 h ∧ vR2 h ∧ vR3 h ∧ vR4 h ∧ vR5 h ∧ vR6 h
def vLall : SWl := vL1 ++ vL2 ++ vL3 ++ vL4 ++ vL5 ++ vL6
theorem vR6.fr {h h' : XH} (i : sinv vT h) (r : vR6 h) (e : vKeep vL6 h h') (f1 : xR h' 2 1 = xR h 2 1) (f2 : xR h' 2 2 = xR h 2 2) : vR6 h' := by
  obtain ⟨Z, z⟩ := r
  exact ⟨Z, z.fr i e f1 f2⟩
theorem vRl.fr {V : SW} {h h' : XH} (i : sinv vT h) (r : vRl h) (f : sframe V h h') (hn : swn V.1 vLall = true) (f1 : swiR V.2 2 1 = false) (f2 : swiR V.2 2 2 = false) : vRl h' := by
  have e : vKeep vLall h h' := vKeep.of f hn
  exact ⟨r.1.fr e.l.l.l.l.l, r.2.1.fr e.l.l.l.l.r, r.2.2.1.fr e.l.l.l.r, r.2.2.2.1.fr e.l.l.r, r.2.2.2.2.1.fr e.l.r, r.2.2.2.2.2.fr i e.r (f.2 2 1 f1) (f.2 2 2 f2)⟩
def vLw (h : XH) : Prop := sgood vT vR vE 153 6051 h ∧ vRl h
theorem zag_K {full : Bool} {l r1 r2 : List XV} {h1 h2 : XH} (g : XAG full (xf 13 104 :: l) r1 r2 h1 h2) (i1 : sinv vT h1) (i2 : sinv vT h2) : (∀ k, 12 ≤ k → k ≤ 16 → xI h1 104 k = xI h2 104 k) ∧ (∀ c k, 108 ≤ c → c ≤ 128 → k < jno c → xI h1 c k = xI h2 c k) := by
  obtain ⟨-, -, -, m12, m13, m14, m15, m16, -⟩ := zag_m g i1 i2
  refine ⟨fun k k1 k2 => ?_, fun c k c1 c2 hk => ?_⟩
  · rcases (by omega : k = 12 ∨ k = 13 ∨ k = 14 ∨ k = 15 ∨ k = 16) with rfl | rfl | rfl | rfl | rfl
    · exact m12
    · exact m13
    · exact m14
    · exact m15
    · exact m16
  · rcases (by omega : c = 108 ∨ c = 109 ∨ c = 110 ∨ c = 111 ∨ c = 112 ∨ c = 113 ∨ c = 114 ∨ c = 115 ∨ c = 116 ∨ c = 117 ∨ c = 118 ∨ c = 119 ∨ c = 120 ∨ c = 121 ∨ c = 122 ∨ c = 123 ∨ c = 124 ∨ c = 125 ∨ c = 126 ∨ c = 127 ∨ c = 128) with rfl | rfl | rfl | rfl | rfl | rfl | rfl | rfl | rfl | rfl | rfl | rfl | rfl | rfl | rfl | rfl | rfl | rfl | rfl | rfl | rfl
    · exact zag_108 g i1 i2 k (by have : k < 1 := hk; omega)
    · exact zag_109 g i1 i2 k (by have : k < 6 := hk; omega)
    · exact zag_110 g i1 i2 k (by have : k < 6 := hk; omega)
    · exact zag_111 g i1 i2 k (by have : k < 6 := hk; omega)
    · exact zag_112 g i1 i2 k (by have : k < 6 := hk; omega)
    · exact zag_113 g i1 i2 k (by have : k < 9 := hk; omega)
    · exact zag_114 g i1 i2 k (by have : k < 9 := hk; omega)
    · exact zag_115 g i1 i2 k (by have : k < 9 := hk; omega)
    · exact zag_116 g i1 i2 k (by have : k < 8 := hk; omega)
    · exact zag_117 g i1 i2 k (by have : k < 8 := hk; omega)
    · exact zag_118 g i1 i2 k (by have : k < 8 := hk; omega)
    · exact zag_119 g i1 i2 k (by have : k < 8 := hk; omega)
    · exact zag_120 g i1 i2 k (by have : k < 6 := hk; omega)
    · exact zag_121 g i1 i2 k (by have : k < 6 := hk; omega)
    · exact zag_122 g i1 i2 k (by have : k < 6 := hk; omega)
    · exact zag_123 g i1 i2 k (by have : k < 3 := hk; omega)
    · exact zag_124 g i1 i2 k (by have : k < 3 := hk; omega)
    · exact zag_125 g i1 i2 k (by have : k < 3 := hk; omega)
    · exact zag_126 g i1 i2 k (by have : k < 64 := hk; omega)
    · exact zag_127 g i1 i2 k (by have : k < 64 := hk; omega)
    · exact zag_128 g i1 i2 k (by have : k < 64 := hk; omega)
theorem vR1_feed {h h1 h2 : XH} {v1 v2 a b c d e : Int32} {F : Nat} (r : vR1 h) (hF : (xI h 45 1).toInt = F) (g1 : sframe ([(45, 1, false), (46, 0, true)], []) h h1)
    (s1 : (680 < F ∧ v1 = Int32.ofInt (-1) ∧ (xI h1 45 1).toInt = F ∧ (∀ k, xI h1 46 k = xI h 46 k)) ∨ (F ≤ 680 ∧ (xI h1 45 1).toInt = (F + 20 : Nat) ∧ v1 = xI h1 45 1 ∧ (∀ k, k < F → xI h1 46 k = xI h 46 k) ∧ ∀ j, j < 20 → sby (xI h1 46 (F + j)).toInt = zfd a b c d e j))
    (g2 : sframe ([(104, 1, false), (104, 2, false), (105, 0, true)], []) h1 h2)
    (s2 : (680 < F ∧ v2 = Int32.ofInt (-1) ∧ (xI h2 104 1).toInt = F ∧ (∀ k, xI h2 105 k = xI h1 105 k)) ∨ (F ≤ 680 ∧ (xI h2 104 1).toInt = (F + 20 : Nat) ∧ v2 = xI h2 104 1 ∧ (∀ k, k < F → xI h2 105 k = xI h1 105 k) ∧ ∀ j, j < 20 → sby (xI h2 105 (F + j)).toInt = zfd a b c d e j)) : v1 = v2 ∧ vR1 h2 := by
  obtain ⟨r1, r2⟩ := r
  have q1 : xI h2 45 1 = xI h1 45 1 := g2.1 45 1 rfl
  have q46 : ∀ k, xI h2 46 k = xI h1 46 k := fun k => g2.1 46 k rfl
  have q105 : ∀ k, xI h1 105 k = xI h 105 k := fun k => g1.1 105 k rfl
  rcases s1 with ⟨y1, y2, y3, y4⟩ | ⟨y1, y2, y3, y4, y5⟩
  · rcases s2 with ⟨z1, z2, z3, z4⟩ | ⟨z1, z2, z3, z4, z5⟩
    · refine ⟨y2.trans z2.symm, Int32.toInt_inj.mp (by rw [q1, y3, z3]), fun k hk => ?_⟩
      rw [q1, y3, ← hF] at hk
      rw [q46, y4, z4, q105]
      exact r2 k hk
    · omega
  · rcases s2 with ⟨z1, z2, z3, z4⟩ | ⟨z1, z2, z3, z4, z5⟩
    · omega
    · have e1 : xI h1 45 1 = xI h2 104 1 := Int32.toInt_inj.mp (by rw [y2, z2])
      refine ⟨by rw [y3, z3, e1], by rw [q1, e1], fun k hk => ?_⟩
      rw [q1, y2] at hk
      by_cases hk2 : k < F
      · rw [q46, y4 k hk2, z4 k hk2, q105]
        exact r2 k (by omega)
      · rw [q46, show k = F + (k - F) by omega, y5 (k - F) (by omega), z5 (k - F) (by omega)]
theorem vR1_0 {h : XH} (e0 : xI h 45 1 = 0) (e1 : xI h 104 1 = Int32.ofInt (0)) : vR1 h :=
  ⟨by rw [e0, e1]; rfl, fun k hk => by rw [e0] at hk; have e : (0 : Int32).toInt = 0 := rfl; omega⟩
theorem XB_mono {l : Launch} {Ls : Nat} {xs : Nat → Int32} {fr lo : Nat} {full : Bool} {M N U N' U' : Nat} {F : List XV → XH → Prop} {pc : Nat} {L st : List XV} {h : XH} (hN : N' ≤ N) (hU : U' ≤ U) (k : XB l Ls xs fr lo full M N' U' F pc L st h) : XB l Ls xs fr lo full M N U F pc L st h :=
  fun p e R s m args below meth c Q D cA base b ads0 u0 gz C hk => k _ _ _ _ _ _ _ _ _ _ _ _ _ _ _ _ _ ⟨C.1, C.2.1, C.2.2.1, C.2.2.2.1, C.2.2.2.2.1, C.2.2.2.2.2.1, C.2.2.2.2.2.2.1, C.2.2.2.2.2.2.2.1, C.2.2.2.2.2.2.2.2.1, C.2.2.2.2.2.2.2.2.2.1, C.2.2.2.2.2.2.2.2.2.2.1, C.2.2.2.2.2.2.2.2.2.2.2.1, (by have := C.2.2.2.2.2.2.2.2.2.2.2.2.1; omega), (by have := C.2.2.2.2.2.2.2.2.2.2.2.2.2; omega)⟩ hk
theorem XB_pop2 {l : Launch} {Ls : Nat} {xs : Nat → Int32} {fr lo : Nat} {full : Bool} {M N U : Nat} {F : List XV → XH → Prop} {pc aux nx : Nat} {L st : List XV} {h : XH} {v : Int64} (hi : xins M pc = some (.pop2, aux, nx)) (k : XB l Ls xs fr lo full M N U F nx L st h) : XB l Ls xs fr lo full M N U F pc L (xl v :: st) h := by
  intro p e R s m args below meth c Q D cA base b ads0 u0 gz C hk
  obtain ⟨q, hq, hn, hd⟩ := xdecode hi
  have hq : q ∈ [(.pop2, 1)] := hq
  obtain rfl := List.mem_singleton.mp hq
  subst hn
  intro t H locs ls h1 h2 h3 h4 h5 h6
  exact lv_pop2_2 C.2.1 C.2.2.1 hd rfl (k _ _ _ _ _ _ _ _ _ _ _ _ _ _ _ _ _ C hk t H locs ls h1 h2 h3 h4 h5.2 h6)
theorem sw_m2 {k : Nat} (h : 12 ≤ k ∧ k ≤ 16) : swin ([(104, 2, false)] : SWl) 104 k = false := by
  rcases (by omega : k = 12 ∨ k = 13 ∨ k = 14 ∨ k = 15 ∨ k = 16) with rfl | rfl | rfl | rfl | rfl <;> rfl
theorem sw_wf {k : Nat} (h : 12 ≤ k ∧ k ≤ 16) : swj (([(104, 1, false), (104, 2, false), (104, 4, false), (104, 5, false), (104, 6, false), (104, 7, false), (104, 8, false), (104, 9, false), (104, 10, false), (104, 11, false), (104, 17, false), (104, 18, false), (104, 19, false), (104, 20, false), (104, 21, false), (104, 46, false), (104, 47, false), (104, 48, false), (104, 49, false), (104, 50, false), (104, 51, false), (107, 0, true), (108, 0, true), (109, 0, true), (110, 0, true), (111, 0, true), (112, 0, true), (113, 0, true), (114, 0, true), (115, 0, true), (116, 0, true), (117, 0, true), (118, 0, true), (119, 0, true), (120, 0, true), (121, 0, true), (122, 0, true), (123, 0, true), (124, 0, true), (125, 0, true), (126, 0, true), (127, 0, true), (128, 0, true), (129, 0, true), (130, 0, true)], []) : SW).1 104 k = false := by
  rcases (by omega : k = 12 ∨ k = 13 ∨ k = 14 ∨ k = 15 ∨ k = 16) with rfl | rfl | rfl | rfl | rfl <;> rfl
theorem vRl_textN {h h2 : XH} (i : sinv vT h) (R0 : vRl h) (g2 : sframe ([(104, 1, false), (104, 2, false), (104, 4, false), (104, 5, false), (104, 6, false), (104, 7, false), (104, 8, false), (104, 9, false), (104, 10, false), (104, 11, false), (104, 12, false), (104, 13, false), (104, 14, false), (104, 15, false), (104, 16, false), (104, 17, false), (104, 18, false), (104, 19, false), (104, 20, false), (104, 21, false), (104, 46, false), (104, 47, false), (104, 48, false), (104, 49, false), (104, 50, false), (104, 51, false), (104, 63, false), (104, 64, false), (104, 72, false), (104, 73, false), (104, 76, false), (104, 78, false), (107, 0, true), (108, 0, true), (109, 0, true), (110, 0, true), (111, 0, true), (112, 0, true), (113, 0, true), (114, 0, true), (115, 0, true), (116, 0, true), (117, 0, true), (118, 0, true), (119, 0, true), (120, 0, true), (121, 0, true), (122, 0, true), (123, 0, true), (124, 0, true), (125, 0, true), (126, 0, true), (127, 0, true), (128, 0, true), (129, 0, true), (130, 0, true), (133, 0, true), (134, 0, true), (135, 0, true), (136, 0, true), (137, 0, true), (138, 0, true)], []) h h2) (m1 : xI h2 104 1 = xI h 104 1) (m4 : xI h2 104 4 = xI h 104 4) (m5 : xI h2 104 5 = xI h 104 5) (m138 : xI h2 138 0 = xI h 138 0) (m78 : xI h2 104 78 = xI h 104 78) (m72 : xI h2 104 72 = xI h 104 72) (e4 : ∀ k, 12 ≤ k → k ≤ 16 → xI h2 104 k = xI h 104 k) (er : ∀ c k, 108 ≤ c → c ≤ 128 → k < jno c → xI h2 c k = xI h c k) : vRl h2 := by
  refine ⟨⟨(g2.1 45 1 rfl).trans (R0.1.1.trans m1.symm), fun k hk => ?_⟩, ⟨(g2.1 45 2 rfl).trans (R0.2.1.1.trans m4.symm), (g2.1 45 3 rfl).trans (R0.2.1.2.trans m5.symm)⟩, (g2.1 48 7 rfl).trans (R0.2.2.1.trans m138.symm), ⟨(g2.1 2 6 rfl).trans (R0.2.2.2.1.1.trans m78.symm), ?_⟩, (g2.1 85 0 rfl).trans (R0.2.2.2.2.1.trans m72.symm), ?_⟩
  · rw [g2.1 45 1 rfl] at hk
    rw [g2.1 46 k rfl, g2.1 105 k rfl]
    exact R0.1.2 k hk
  · rw [g2.1 2 6 rfl, g2.1 70 7 rfl, g2.1 151 14 rfl]
    exact R0.2.2.2.1.2
  · obtain ⟨Z, z⟩ := R0.2.2.2.2.2
    exact ⟨Z, z.go i (vKeep.of g2 rfl) (g2.2 2 1 rfl) (g2.2 2 2 rfl) e4 er⟩
