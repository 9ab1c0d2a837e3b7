/-! WHAT THE LAW KEEPS OF BOTH SIDES: pieces. -/
/-- none of these is written -/
def swn (V L : SWl) : Bool := V.all (fun z => L.all (fun q => !(Nat.beq z.1 q.1 && (z.2.2 || (q.2.2 || Nat.beq z.2.1 q.2.1)))))
theorem swn_ok {V L : SWl} (h : swn V L = true) {c k : Nat} (hc : swin L c k = true) : swin V c k = false := by
  cases hv : swin V c k with
  | false => rfl
  | true =>
    exfalso
    unfold swin at hv hc
    obtain ⟨z, hz, z1⟩ := List.any_eq_true.mp hv
    obtain ⟨q, hq, q1⟩ := List.any_eq_true.mp hc
    have y := List.all_eq_true.mp (List.all_eq_true.mp h z hz) q hq
    rw [Bool.and_eq_true, Bool.or_eq_true] at z1 q1
    obtain ⟨z1, z2⟩ := z1
    obtain ⟨q1, q2⟩ := q1
    rw [show Nat.beq z.1 q.1 = true by rw [Nat.eq_of_beq_eq_true z1, Nat.eq_of_beq_eq_true q1]; exact Nat.beq_refl c] at y
    rcases z2 with z2 | z2
    · rw [z2] at y
      cases y
    · rcases q2 with q2 | q2
      · rw [q2] at y
        cases hb : z.2.2 with
        | true => rw [hb] at y; cases y
        | false => rw [hb] at y; cases y
      · rw [show Nat.beq z.2.1 q.2.1 = true by rw [Nat.eq_of_beq_eq_true z2, Nat.eq_of_beq_eq_true q2]; exact Nat.beq_refl k] at y
        cases hb : z.2.2 with
        | true => rw [hb] at y; cases y
        | false =>
          cases hb2 : q.2.2 with
          | true => rw [hb, hb2] at y; cases y
          | false => rw [hb, hb2] at y; cases y
def vKeep (L : SWl) (h h' : XH) : Prop := ∀ c k, swin L c k = true → xI h' c k = xI h c k
theorem vKeep.of {L : SWl} {V : SW} {h h' : XH} (f : sframe V h h') (hn : swn V.1 L = true) : vKeep L h h' := fun c k hc => f.1 c k (swn_ok hn hc)
theorem vKeep.tr {L : SWl} {a b c : XH} (x : vKeep L a b) (y : vKeep L b c) : vKeep L a c := fun i k hk => (y i k hk).trans (x i k hk)
def vL1 : SWl := [(45, 1, false), (104, 1, false), (46, 0, true), (105, 0, true)]
def vL2 : SWl := [(45, 2, false), (45, 3, false), (104, 4, false), (104, 5, false)]
def vL3 : SWl := [(48, 7, false), (138, 0, false)]
def vL4 : SWl := [(2, 6, false), (104, 78, false), (70, 7, false), (151, 14, false)]
def vL5 : SWl := [(85, 0, false), (104, 72, false)]
def vL6c : SWl := [(3, 0, true), (4, 0, true), (5, 0, true), (6, 0, true), (7, 0, true), (8, 0, true), (9, 0, true), (10, 0, true), (11, 0, true), (12, 0, true), (13, 0, true), (14, 0, true), (15, 0, true), (16, 0, true), (17, 0, true), (18, 0, true), (19, 0, true), (20, 0, true), (21, 0, true), (22, 0, true), (24, 0, true), (25, 0, true), (26, 0, true), (27, 0, true), (28, 0, true), (29, 0, true), (30, 0, true), (31, 0, true), (32, 0, true), (33, 0, true), (34, 0, true), (35, 0, true), (36, 0, true), (37, 0, true), (38, 0, true), (39, 0, true), (40, 0, true), (41, 0, true), (42, 0, true), (43, 0, true)]
def vL6j : SWl := [(104, 12, false), (104, 13, false), (104, 14, false), (104, 15, false), (104, 16, false), (108, 0, true), (109, 0, true), (110, 0, true), (111, 0, true), (112, 0, true), (113, 0, true), (114, 0, true), (115, 0, true), (116, 0, true), (117, 0, true), (118, 0, true), (119, 0, true), (120, 0, true), (121, 0, true), (122, 0, true), (123, 0, true), (124, 0, true), (125, 0, true), (126, 0, true), (127, 0, true), (128, 0, true)]
def vL63 : SWl := [(3, 0, true), (4, 0, true), (5, 0, true), (6, 0, true), (7, 0, true), (8, 0, true), (9, 0, true), (10, 0, true), (11, 0, true), (12, 0, true), (13, 0, true), (14, 0, true), (15, 0, true), (16, 0, true), (17, 0, true), (18, 0, true), (19, 0, true), (20, 0, true), (21, 0, true), (22, 0, true)]
def vL624 : SWl := [(24, 0, true), (25, 0, true), (26, 0, true), (27, 0, true), (28, 0, true), (29, 0, true), (30, 0, true), (31, 0, true), (32, 0, true), (33, 0, true), (34, 0, true), (35, 0, true), (36, 0, true), (37, 0, true), (38, 0, true), (39, 0, true), (40, 0, true), (41, 0, true), (42, 0, true), (43, 0, true)]
def vL6 : SWl := vL6c ++ vL6j
/-- the tape -/
def vR1 (h : XH) : Prop := xI h 45 1 = xI h 104 1 ∧ (∀ k : Nat, (k : Int) < (xI h 45 1).toInt → sby (xI h 46 k).toInt = sby (xI h 105 k).toInt)
theorem vR1.fr {h h' : XH} (r : vR1 h) (e : vKeep vL1 h h') : vR1 h' := by
  refine ⟨by rw [e 45 1 rfl, e 104 1 rfl]; exact r.1, fun k hk => ?_⟩
  rw [e 45 1 rfl] at hk
  rw [e 46 k rfl, e 105 k rfl]
  exact r.2 k hk
/-- the fault, its place -/
def vR2 (h : XH) : Prop := xI h 45 2 = xI h 104 4 ∧ xI h 45 3 = xI h 104 5
theorem vR2.fr {h h' : XH} (r : vR2 h) (e : vKeep vL2 h h') : vR2 h' := ⟨by rw [e 45 2 rfl, e 104 4 rfl]; exact r.1, by rw [e 45 3 rfl, e 104 5 rfl]; exact r.2⟩
/-- how many stones -/
def vR5 (h : XH) : Prop := xI h 85 0 = xI h 104 72
theorem vR5.fr {h h' : XH} (r : vR5 h) (e : vKeep vL5 h h') : vR5 h' := by
  unfold vR5
  rw [e 85 0 rfl, e 104 72 rfl]
  exact r
theorem vL6_c : ∀ c, c < 44 → 3 ≤ c → ¬ c = 23 → scell vL6c c = true := by decide +kernel
theorem vL6_3 : ∀ c, c < 23 → 3 ≤ c → scell vL63 c = true := by decide +kernel
theorem vL6_24 : ∀ c, c < 44 → 24 ≤ c → scell vL624 c = true := by decide +kernel
theorem vL6_j : ∀ c, c < 129 → 108 ≤ c → scell vL6j c = true := by decide +kernel
theorem swin_app {V U : SWl} {c k : Nat} : swin (V ++ U) c k = (swin V c k || swin U c k) := by
  unfold swin
  rw [List.any_append]
theorem vKeep.l {V U : SWl} {h h' : XH} (e : vKeep (V ++ U) h h') : vKeep V h h' := fun c k hk => e c k (by rw [swin_app, hk, Bool.true_or])
theorem vKeep.r {V U : SWl} {h h' : XH} (e : vKeep (V ++ U) h h') : vKeep U h h' := fun c k hk => e c k (by rw [swin_app, hk, Bool.or_true])
theorem zag_K {full : Bool} {l r1 r2 : List XV} {h1 h2 : XH} (g : XAG full (xf 13 104 :: l) r1 r2 h1 h2) (i1 : sinv vT h1) (i2 : sinv vT h2) : (∀ k, 12 ≤ k → k ≤ 16 → xI h1 104 k = xI h2 104 k) ∧ (∀ c k, 108 ≤ c → c ≤ 128 → k < jno c → xI h1 c k = xI h2 c k) := by
  obtain ⟨-, -, -, m12, m13, m14, m15, m16, -⟩ := zag_m g i1 i2
  refine ⟨fun k k1 k2 => ?_, fun c k c1 c2 hk => ?_⟩
  · rcases (by omega : k = 12 ∨ k = 13 ∨ k = 14 ∨ k = 15 ∨ k = 16) with rfl | rfl | rfl | rfl | rfl
    · exact m12
    · exact m13
    · exact m14
    · exact m15
    · exact m16
  · rcases (by omega : c = 108 ∨ c = 109 ∨ c = 110 ∨ c = 111 ∨ c = 112 ∨ c = 113 ∨ c = 114 ∨ c = 115 ∨ c = 116 ∨ c = 117 ∨ c = 118 ∨ c = 119 ∨ c = 120 ∨ c = 121 ∨ c = 122 ∨ c = 123 ∨ c = 124 ∨ c = 125 ∨ c = 126 ∨ c = 127 ∨ c = 128) with rfl | rfl | rfl | rfl | rfl | rfl | rfl | rfl | rfl | rfl | rfl | rfl | rfl | rfl | rfl | rfl | rfl | rfl | rfl | rfl | rfl
    · exact zag_108 g i1 i2 k (by have : k < 1 := hk; omega)
    · exact zag_109 g i1 i2 k (by have : k < 6 := hk; omega)
    · exact zag_110 g i1 i2 k (by have : k < 6 := hk; omega)
    · exact zag_111 g i1 i2 k (by have : k < 6 := hk; omega)
    · exact zag_112 g i1 i2 k (by have : k < 6 := hk; omega)
    · exact zag_113 g i1 i2 k (by have : k < 9 := hk; omega)
    · exact zag_114 g i1 i2 k (by have : k < 9 := hk; omega)
    · exact zag_115 g i1 i2 k (by have : k < 9 := hk; omega)
    · exact zag_116 g i1 i2 k (by have : k < 8 := hk; omega)
    · exact zag_117 g i1 i2 k (by have : k < 8 := hk; omega)
    · exact zag_118 g i1 i2 k (by have : k < 8 := hk; omega)
    · exact zag_119 g i1 i2 k (by have : k < 8 := hk; omega)
    · exact zag_120 g i1 i2 k (by have : k < 6 := hk; omega)
    · exact zag_121 g i1 i2 k (by have : k < 6 := hk; omega)
    · exact zag_122 g i1 i2 k (by have : k < 6 := hk; omega)
    · exact zag_123 g i1 i2 k (by have : k < 3 := hk; omega)
    · exact zag_124 g i1 i2 k (by have : k < 3 := hk; omega)
    · exact zag_125 g i1 i2 k (by have : k < 3 := hk; omega)
    · exact zag_126 g i1 i2 k (by have : k < 64 := hk; omega)
    · exact zag_127 g i1 i2 k (by have : k < 64 := hk; omega)
    · exact zag_128 g i1 i2 k (by have : k < 64 := hk; omega)
theorem vR1_feed {h h1 h2 : XH} {v1 v2 a b c d e : Int32} {F : Nat} (r : vR1 h) (hF : (xI h 45 1).toInt = F) (g1 : sframe ([(45, 1, false), (46, 0, true)], []) h h1)
    (s1 : (680 < F ∧ v1 = Int32.ofInt (-1) ∧ (xI h1 45 1).toInt = F ∧ (∀ k, xI h1 46 k = xI h 46 k)) ∨ (F ≤ 680 ∧ (xI h1 45 1).toInt = (F + 20 : Nat) ∧ v1 = xI h1 45 1 ∧ (∀ k, k < F → xI h1 46 k = xI h 46 k) ∧ ∀ j, j < 20 → sby (xI h1 46 (F + j)).toInt = zfd a b c d e j))
    (g2 : sframe ([(104, 1, false), (104, 2, false), (105, 0, true)], []) h1 h2)
    (s2 : (680 < F ∧ v2 = Int32.ofInt (-1) ∧ (xI h2 104 1).toInt = F ∧ (∀ k, xI h2 105 k = xI h1 105 k)) ∨ (F ≤ 680 ∧ (xI h2 104 1).toInt = (F + 20 : Nat) ∧ v2 = xI h2 104 1 ∧ (∀ k, k < F → xI h2 105 k = xI h1 105 k) ∧ ∀ j, j < 20 → sby (xI h2 105 (F + j)).toInt = zfd a b c d e j)) : v1 = v2 ∧ vR1 h2 := by
  obtain ⟨r1, r2⟩ := r
  have q1 : xI h2 45 1 = xI h1 45 1 := g2.1 45 1 rfl
  have q46 : ∀ k, xI h2 46 k = xI h1 46 k := fun k => g2.1 46 k rfl
  have q105 : ∀ k, xI h1 105 k = xI h 105 k := fun k => g1.1 105 k rfl
  rcases s1 with ⟨y1, y2, y3, y4⟩ | ⟨y1, y2, y3, y4, y5⟩
  · rcases s2 with ⟨z1, z2, z3, z4⟩ | ⟨z1, z2, z3, z4, z5⟩
    · refine ⟨y2.trans z2.symm, Int32.toInt_inj.mp (by rw [q1, y3, z3]), fun k hk => ?_⟩
      rw [q1, y3, ← hF] at hk
      rw [q46, y4, z4, q105]
      exact r2 k hk
    · omega
  · rcases s2 with ⟨z1, z2, z3, z4⟩ | ⟨z1, z2, z3, z4, z5⟩
    · omega
    · have e1 : xI h1 45 1 = xI h2 104 1 := Int32.toInt_inj.mp (by rw [y2, z2])
      refine ⟨by rw [y3, z3, e1], by rw [q1, e1], fun k hk => ?_⟩
      rw [q1, y2] at hk
      by_cases hk2 : k < F
      · rw [q46, y4 k hk2, z4 k hk2, q105]
        exact r2 k (by omega)
      · rw [q46, show k = F + (k - F) by omega, y5 (k - F) (by omega), z5 (k - F) (by omega)]
theorem vR1_0 {h : XH} (e0 : xI h 45 1 = 0) (e1 : xI h 104 1 = Int32.ofInt (0)) : vR1 h :=
  ⟨by rw [e0, e1]; rfl, fun k hk => by rw [e0] at hk; have e : (0 : Int32).toInt = 0 := rfl; omega⟩
theorem XB_mono {l : Launch} {Ls : Nat} {xs : Nat → Int32} {fr lo : Nat} {full : Bool} {M N U N' U' : Nat} {F : List XV → XH → Prop} {pc : Nat} {L st : List XV} {h : XH} (hN : N' ≤ N) (hU : U' ≤ U) (k : XB l Ls xs fr lo full M N' U' F pc L st h) : XB l Ls xs fr lo full M N U F pc L st h :=
  fun p e R s m args below meth c Q D cA base b ads0 u0 gz C hk => k _ _ _ _ _ _ _ _ _ _ _ _ _ _ _ _ _ ⟨C.1, C.2.1, C.2.2.1, C.2.2.2.1, C.2.2.2.2.1, C.2.2.2.2.2.1, C.2.2.2.2.2.2.1, C.2.2.2.2.2.2.2.1, C.2.2.2.2.2.2.2.2.1, C.2.2.2.2.2.2.2.2.2.1, C.2.2.2.2.2.2.2.2.2.2.1, C.2.2.2.2.2.2.2.2.2.2.2.1, (by have := C.2.2.2.2.2.2.2.2.2.2.2.2.1; omega), (by have := C.2.2.2.2.2.2.2.2.2.2.2.2.2; omega)⟩ hk
theorem XB_pop2 {l : Launch} {Ls : Nat} {xs : Nat → Int32} {fr lo : Nat} {full : Bool} {M N U : Nat} {F : List XV → XH → Prop} {pc aux nx : Nat} {L st : List XV} {h : XH} {v : Int64} (hi : xins M pc = some (.pop2, aux, nx)) (k : XB l Ls xs fr lo full M N U F nx L st h) : XB l Ls xs fr lo full M N U F pc L (xl v :: st) h := by
  intro p e R s m args below meth c Q D cA base b ads0 u0 gz C hk
  obtain ⟨q, hq, hn, hd⟩ := xdecode hi
  have hq : q ∈ [(.pop2, 1)] := hq
  obtain rfl := List.mem_singleton.mp hq
  subst hn
  intro t H locs ls h1 h2 h3 h4 h5 h6
  exact lv_pop2_2 C.2.1 C.2.2.1 hd rfl (k _ _ _ _ _ _ _ _ _ _ _ _ _ _ _ _ _ C hk t H locs ls h1 h2 h3 h4 h5.2 h6)
theorem sw_m2 {k : Nat} (h : 12 ≤ k ∧ k ≤ 16) : swin ([(104, 2, false)] : SWl) 104 k = false := by
  rcases (by omega : k = 12 ∨ k = 13 ∨ k = 14 ∨ k = 15 ∨ k = 16) with rfl | rfl | rfl | rfl | rfl <;> rfl
theorem sw_wf {k : Nat} (h : 12 ≤ k ∧ k ≤ 16) : swj (([(104, 1, false), (104, 2, false), (104, 4, false), (104, 5, false), (104, 6, false), (104, 7, false), (104, 8, false), (104, 9, false), (104, 10, false), (104, 11, false), (104, 17, false), (104, 18, false), (104, 19, false), (104, 20, false), (104, 21, false), (104, 46, false), (104, 47, false), (104, 48, false), (104, 49, false), (104, 50, false), (104, 51, false), (107, 0, true), (108, 0, true), (109, 0, true), (110, 0, true), (111, 0, true), (112, 0, true), (113, 0, true), (114, 0, true), (115, 0, true), (116, 0, true), (117, 0, true), (118, 0, true), (119, 0, true), (120, 0, true), (121, 0, true), (122, 0, true), (123, 0, true), (124, 0, true), (125, 0, true), (126, 0, true), (127, 0, true), (128, 0, true), (129, 0, true), (130, 0, true)], []) : SW).1 104 k = false := by
  rcases (by omega : k = 12 ∨ k = 13 ∨ k = 14 ∨ k = 15 ∨ k = 16) with rfl | rfl | rfl | rfl | rfl <;> rfl

def vLw48 : SWl := [(48, 7, false), (48, 10, false), (48, 11, false), (49, 0, true), (50, 0, true), (51, 0, true), (52, 0, true), (53, 0, true), (54, 0, true), (55, 0, true), (56, 0, true)]
def vLw70 : SWl := [(70, 7, false), (70, 10, false), (70, 11, false), (71, 0, true), (72, 0, true), (73, 0, true), (74, 0, true), (75, 0, true), (76, 0, true), (77, 0, true), (78, 0, true)]
def vLp : SWl := [(81, 0, false), (82, 0, true), (83, 0, true), (84, 0, true)]
def vLh : SWl := [(133, 0, false), (133, 1, false), (133, 2, false), (133, 3, false), (133, 4, false), (133, 5, false), (134, 0, false), (134, 1, false), (134, 2, false), (134, 3, false), (134, 4, false), (134, 5, false), (135, 0, false), (135, 1, false), (135, 2, false), (135, 3, false), (135, 4, false), (135, 5, false), (135, 6, false), (135, 7, false), (136, 0, false), (136, 1, false), (136, 2, false), (136, 3, false), (136, 4, false), (136, 5, false), (136, 6, false), (136, 7, false), (137, 0, false), (137, 1, false), (137, 2, false), (137, 3, false), (137, 4, false), (137, 5, false), (137, 6, false), (137, 7, false), (138, 0, false)]
def vLq : SWl := [(104, 76, false), (149, 0, true)]
def vLim : SWl := [(2, 6, false), (104, 78, false), (150, 0, true), (151, 0, true)]
def vWo48 (c : Nat) (Z : Nat → Int) (Y : Nat → Int32) (h : XH) : Prop := kW 48 c Z Y h ∧ kD 48 Z Y h ∧ kE 48 Z Y h ∧ kY 48 Z Y h
theorem vWo48.fr {c : Nat} {Z : Nat → Int} {Y : Nat → Int32} {h h' : XH} (a : vWo48 c Z Y h) (e : vKeep vLw48 h h') (er : xR h' 48 0 = xR h 48 0) : vWo48 c Z Y h' := by
  obtain ⟨⟨a1, a2, a3, a4, a5, a6⟩, ⟨d1, d2⟩, k, ⟨y1, y2⟩⟩ := a
  exact ⟨⟨fun r hr => (e 49 r rfl).trans (a1 r hr), fun p hp => ⟨(e 52 p rfl).trans (a2 p hp).1, (e 53 p rfl).trans (a2 p hp).2⟩, (e 48 7 rfl).trans a3, (e 48 10 rfl).trans a4, fun z => (e 48 11 rfl).trans (a5 z), er.trans a6⟩, ⟨fun j hj => by rw [e 51 j rfl]; exact d1 j hj, fun r hr => (e 55 r rfl).trans (d2 r hr)⟩, fun r hr => (e 56 r rfl).trans (k r hr), ⟨fun r hr => (e 50 r rfl).trans (y1 r hr), fun p hp => (e 54 p rfl).trans (y2 p hp)⟩⟩
theorem vWo48.ag {full : Bool} {l r1 r2 : List XV} {h1 h3 : XH} (g : XAG full (xf 12 2 :: l) r1 r2 h1 h3) (i1 : sinv vT h1) (i3 : sinv vT h3) {c : Nat} {Z : Nat → Int} {Y : Nat → Int32} (B : zcB Z) (a : vWo48 c Z Y h3) (er : xR h1 48 0 = c) : vWo48 c Z Y h1 := by
  obtain ⟨⟨-, B0⟩, ⟨-, B1⟩, ⟨-, B2⟩, -⟩ := B
  obtain ⟨⟨a1, a2, a3, a4, a5, a6⟩, ⟨d1, d2⟩, k, ⟨y1, y2⟩⟩ := a
  obtain ⟨w7, w10, w11⟩ := zag_w48 g i1 i3
  exact ⟨⟨fun r hr => (zag_49 g i1 i3 r (by omega)).trans (a1 r hr), fun p hp => ⟨(zag_52 g i1 i3 p (by omega)).trans (a2 p hp).1, (zag_53 g i1 i3 p (by omega)).trans (a2 p hp).2⟩, w7.trans a3, w10.trans a4, fun z => w11.trans (a5 z), er⟩, ⟨fun j hj => by rw [zag_51 g i1 i3 j (by omega)]; exact d1 j hj, fun r hr => (zag_55 g i1 i3 r (by omega)).trans (d2 r hr)⟩, fun r hr => (zag_56 g i1 i3 r (by omega)).trans (k r hr), ⟨fun r hr => (zag_50 g i1 i3 r (by omega)).trans (y1 r hr), fun p hp => (zag_54 g i1 i3 p (by omega)).trans (y2 p hp)⟩⟩
def vWo70 (c : Nat) (Z : Nat → Int) (Y : Nat → Int32) (h : XH) : Prop := kW 70 c Z Y h ∧ kD 70 Z Y h ∧ kE 70 Z Y h ∧ kY 70 Z Y h
theorem vWo70.fr {c : Nat} {Z : Nat → Int} {Y : Nat → Int32} {h h' : XH} (a : vWo70 c Z Y h) (e : vKeep vLw70 h h') (er : xR h' 70 0 = xR h 70 0) : vWo70 c Z Y h' := by
  obtain ⟨⟨a1, a2, a3, a4, a5, a6⟩, ⟨d1, d2⟩, k, ⟨y1, y2⟩⟩ := a
  exact ⟨⟨fun r hr => (e 71 r rfl).trans (a1 r hr), fun p hp => ⟨(e 74 p rfl).trans (a2 p hp).1, (e 75 p rfl).trans (a2 p hp).2⟩, (e 70 7 rfl).trans a3, (e 70 10 rfl).trans a4, fun z => (e 70 11 rfl).trans (a5 z), er.trans a6⟩, ⟨fun j hj => by rw [e 73 j rfl]; exact d1 j hj, fun r hr => (e 77 r rfl).trans (d2 r hr)⟩, fun r hr => (e 78 r rfl).trans (k r hr), ⟨fun r hr => (e 72 r rfl).trans (y1 r hr), fun p hp => (e 76 p rfl).trans (y2 p hp)⟩⟩
theorem vWo70.ag {full : Bool} {l r1 r2 : List XV} {h1 h3 : XH} (g : XAG full (xf 12 2 :: l) r1 r2 h1 h3) (i1 : sinv vT h1) (i3 : sinv vT h3) {c : Nat} {Z : Nat → Int} {Y : Nat → Int32} (B : zcB Z) (a : vWo70 c Z Y h3) (er : xR h1 70 0 = c) : vWo70 c Z Y h1 := by
  obtain ⟨⟨-, B0⟩, ⟨-, B1⟩, ⟨-, B2⟩, -⟩ := B
  obtain ⟨⟨a1, a2, a3, a4, a5, a6⟩, ⟨d1, d2⟩, k, ⟨y1, y2⟩⟩ := a
  obtain ⟨w7, w10, w11⟩ := zag_w70 g i1 i3
  exact ⟨⟨fun r hr => (zag_71 g i1 i3 r (by omega)).trans (a1 r hr), fun p hp => ⟨(zag_74 g i1 i3 p (by omega)).trans (a2 p hp).1, (zag_75 g i1 i3 p (by omega)).trans (a2 p hp).2⟩, w7.trans a3, w10.trans a4, fun z => w11.trans (a5 z), er⟩, ⟨fun j hj => by rw [zag_73 g i1 i3 j (by omega)]; exact d1 j hj, fun r hr => (zag_77 g i1 i3 r (by omega)).trans (d2 r hr)⟩, fun r hr => (zag_78 g i1 i3 r (by omega)).trans (k r hr), ⟨fun r hr => (zag_72 g i1 i3 r (by omega)).trans (y1 r hr), fun p hp => (zag_76 g i1 i3 p (by omega)).trans (y2 p hp)⟩⟩
theorem kPa.fr {n : Nat} {En : Nat → Int32 × Int32 × Int32} {h h' : XH} (a : kPa n En h) (e : vKeep vLp h h') : kPa n En h' := ⟨by rw [e 81 0 rfl]; exact a.1, fun k hk => by rw [e 82 k rfl, e 83 k rfl, e 84 k rfl]; exact a.2 k hk⟩
theorem kPa.ag {full : Bool} {l r1 r2 : List XV} {h1 h3 : XH} (g : XAG full (xf 12 2 :: l) r1 r2 h1 h3) (i1 : sinv vT h1) (i3 : sinv vT h3) {n : Nat} {En : Nat → Int32 × Int32 × Int32} (hn : n ≤ 20) (a : kPa n En h3) : kPa n En h1 := ⟨by rw [zag_p g i1 i3]; exact a.1, fun k hk => by rw [zag_82 g i1 i3 k (by omega), zag_83 g i1 i3 k (by omega), zag_84 g i1 i3 k (by omega)]; exact a.2 k hk⟩
theorem vLh_a : (∀ k, k < 6 → swin vLh 133 k = true) ∧ (∀ k, k < 6 → swin vLh 134 k = true) ∧ (∀ k, k < 8 → swin vLh 135 k = true) ∧ (∀ k, k < 8 → swin vLh 136 k = true) ∧ (∀ k, k < 8 → swin vLh 137 k = true) := by decide +kernel
theorem jHf.f7 {Z : Nat → Int} {Y : Nat → Int32} {h h' : XH} (a : jHf 0 Z Y h) (B : zcB Z) (e : vKeep vLh h h') : jHf 0 Z Y h' := by
  obtain ⟨⟨-, B0⟩, -, ⟨-, B2⟩, -⟩ := B
  obtain ⟨a1, a2, a3⟩ := a
  exact ⟨fun r hr => (e 133 _ (vLh_a.1 _ (by omega))).trans (a1 r hr), fun p hp => ⟨(e 135 _ (vLh_a.2.2.1 _ (by omega))).trans (a2 p hp).1, (e 136 _ (vLh_a.2.2.2.1 _ (by omega))).trans (a2 p hp).2⟩, (e 138 0 rfl).trans a3⟩
theorem jY.f7 {Z : Nat → Int} {Y : Nat → Int32} {h h' : XH} (a : jY 0 Z Y h) (B : zcB Z) (e : vKeep vLh h h') : jY 0 Z Y h' := by
  obtain ⟨⟨-, B0⟩, -, ⟨-, B2⟩, -⟩ := B
  exact ⟨fun r hr => (e 134 _ (vLh_a.2.1 _ (by omega))).trans (a.1 r hr), fun p hp => (e 137 _ (vLh_a.2.2.2.2 _ (by omega))).trans (a.2 p hp)⟩
theorem jPa.f7 {n : Nat} {U : Nat → Nat → Int32} {Z : Nat → Int} {h h' : XH} (a : jPa n U Z h) (B : zcB Z) (e : vKeep vLq h h') : jPa n U Z h' := a.o B (fun k => e 149 k rfl) (e 104 76 rfl)
theorem jHf.ag {full : Bool} {l r1 r2 : List XV} {h1 h3 : XH} (g : XAG full (xf 13 104 :: l) r1 r2 h1 h3) (i1 : sinv vT h1) (i3 : sinv vT h3) {Z : Nat → Int} {Y : Nat → Int32} (B : zcB Z) (a : jHf 0 Z Y h3) : jHf 0 Z Y h1 := by
  obtain ⟨⟨-, B0⟩, -, ⟨-, B2⟩, -⟩ := B
  obtain ⟨a1, a2, a3⟩ := a
  exact ⟨fun r hr => (zag_133 g i1 i3 _ (by omega)).trans (a1 r hr), fun p hp => ⟨(zag_135 g i1 i3 _ (by omega)).trans (a2 p hp).1, (zag_136 g i1 i3 _ (by omega)).trans (a2 p hp).2⟩, (zag_138 g i1 i3 0 (by decide)).trans a3⟩
theorem jY.ag {full : Bool} {l r1 r2 : List XV} {h1 h3 : XH} (g : XAG full (xf 13 104 :: l) r1 r2 h1 h3) (i1 : sinv vT h1) (i3 : sinv vT h3) {Z : Nat → Int} {Y : Nat → Int32} (B : zcB Z) (a : jY 0 Z Y h3) : jY 0 Z Y h1 := by
  obtain ⟨⟨-, B0⟩, -, ⟨-, B2⟩, -⟩ := B
  exact ⟨fun r hr => (zag_134 g i1 i3 _ (by omega)).trans (a.1 r hr), fun p hp => (zag_137 g i1 i3 _ (by omega)).trans (a.2 p hp)⟩
theorem jSn.ag {e o : Nat} {Z : Nat → Int} {Y : Nat → Int32} {h1 h3 : XH} (B : zcB Z) (f : ∀ k, o ≤ k → k < o + 22 → xI h1 e k = xI h3 e k) (a : jSn e o Z Y h3) : jSn e o Z Y h1 := a.fr B f
theorem jPa.ag {full : Bool} {l r1 r2 : List XV} {h1 h3 : XH} (g : XAG full (xf 13 104 :: l) r1 r2 h1 h3) (i1 : sinv vT h1) (i3 : sinv vT h3) {n : Nat} {U : Nat → Nat → Int32} {Z : Nat → Int} (B : zcB Z) (hn : n ≤ 20) (a : jPa n U Z h3) : jPa n U Z h1 := by
  obtain ⟨-, -, -, -, -, -, -, -, -, -, -, -, m76, -⟩ := zag_m g i1 i3
  exact ⟨by rw [m76]; exact a.1, fun k hk => (a.2 k hk).fr B (fun j j1 j2 => zag_149 g i1 i3 j (by omega))⟩
theorem jIm.ag {full : Bool} {l r1 r2 : List XV} {h1 h3 : XH} (g : XAG full (xf 13 104 :: l) r1 r2 h1 h3) (i1 : sinv vT h1) (i3 : sinv vT h3) {Z : Nat → Int} {X : Nat → Int32} (B : zcB Z) (a : jIm Z X h3) : jIm Z X h1 := by
  obtain ⟨⟨-, B0⟩, -, ⟨-, B2⟩, -⟩ := id B
  obtain ⟨a1, a2, a3, a4⟩ := a
  exact ⟨a1.fr B (fun j j1 j2 => zag_150 g i1 i3 j (by omega)), fun r hr => (zag_151 g i1 i3 r (by omega)).trans (a2 r hr), fun p hp => (zag_151 g i1 i3 _ (by omega)).trans (a3 p hp), (zag_151 g i1 i3 14 (by decide)).trans a4⟩
theorem jIm.f7 {Z : Nat → Int} {X : Nat → Int32} {h h' : XH} (B : zcB Z) (a : jIm Z X h) (e : vKeep vLim h h') : jIm Z X h' := by
  obtain ⟨a1, a2, a3, a4⟩ := a
  exact ⟨a1.fr B (fun j _ _ => e 150 j rfl), fun r hr => (e 151 r rfl).trans (a2 r hr), fun p hp => (e 151 _ rfl).trans (a3 p hp), (e 151 14 rfl).trans a4⟩
/-! the relation -/
def vTold (c : Nat) (h : XH) : Prop := (c = 3 ∧ xR h 2 1 = 3 ∧ xR h 2 2 = 24) ∨ (c = 24 ∧ xR h 2 1 = 24 ∧ xR h 2 2 = 3)
def vPst (Z : Nat → Int) (Y : Nat → Int32) (n : Nat) (U : Nat → Nat → Int32) (En : Nat → Int32 × Int32 × Int32) : Prop := zAll Z ∧ zVd Z Y ∧ Y 51 = Int32.ofInt (-1) ∧ n ≤ 20 ∧ U n = Y ∧ ∀ k, k < n → zVd Z (U k) ∧ zOk Z (En k) ∧ U k = zEn (U (k + 1)) (En k)
def vImg (c : Nat) (Z : Nat → Int) (h : XH) : Prop := xI h 2 6 = xI h 104 78 ∧ (¬ xI h 2 6 = 0 → ∃ X, zVd Z X ∧ X 51 = Int32.ofInt (-1) ∧ vWo70 c Z X h ∧ jIm Z X h)
def vCls (c : Nat) (Z : Nat → Int) (Y : Nat → Int32) (n : Nat) (En : Nat → Int32 × Int32 × Int32) (h : XH) : Prop := kTx c Z h ∧ vWo48 c Z Y h ∧ kPa n En h
def vMod (Z : Nat → Int) (Y : Nat → Int32) (n : Nat) (U : Nat → Nat → Int32) (h : XH) : Prop := jK Z h ∧ jHf 0 Z Y h ∧ jY 0 Z Y h ∧ jPa n U Z h
def vSy (c : Nat) (Z : Nat → Int) (Y : Nat → Int32) (n : Nat) (U : Nat → Nat → Int32) (En : Nat → Int32 × Int32 × Int32) (h : XH) : Prop := vTold c h ∧ vPst Z Y n U En ∧ vCls c Z Y n En h ∧ vMod Z Y n U h ∧ vImg c Z h
def vR7 (h : XH) : Prop := ∃ c Z Y n U En, vSy c Z Y n U En h
def vRl (h : XH) : Prop := vR1 h ∧ vR7 h
def vLw (h : XH) : Prop := sgood vT vR vE 153 6051 h ∧ vRl h
def vL7 : SWl := vL6 ++ vLw48 ++ vLw70 ++ vLp ++ vLh ++ vLq ++ vLim
theorem kTx.f7 {c : Nat} {Z : Nat → Int} {h h' : XH} (a : kTx c Z h) (t : c = 3 ∨ c = 24) (e : vKeep vL6c h h') : kTx c Z h' := a.fr (fun i k i1 i2 => e i k (scell_in (vL6_c i (by omega) (by omega) (by omega))))
theorem jK.f7 {Z : Nat → Int} {h h' : XH} (i : sinv vT h) (a : jK Z h) (e : vKeep vL6j h h') : jK Z h' := a.fr i (fun k k1 k2 => by
  rcases (by omega : k = 12 ∨ k = 13 ∨ k = 14 ∨ k = 15 ∨ k = 16) with rfl | rfl | rfl | rfl | rfl <;> exact e 104 _ rfl) (fun c k c1 c2 _ => e c k (scell_in (vL6_j c (by omega) c1)))
theorem vTold.c {c : Nat} {h : XH} (t : vTold c h) : c = 3 ∨ c = 24 := by
  rcases t with ⟨a, -⟩ | ⟨a, -⟩
  · exact Or.inl a
  · exact Or.inr a
theorem vTold.r {c : Nat} {h : XH} (t : vTold c h) : xR h 2 1 = c := by
  rcases t with ⟨a, b, -⟩ | ⟨a, b, -⟩
  · rw [a]; exact b
  · rw [a]; exact b
theorem vTold.fr {c : Nat} {h h' : XH} (t : vTold c h) (f1 : xR h' 2 1 = xR h 2 1) (f2 : xR h' 2 2 = xR h 2 2) : vTold c h' := by
  unfold vTold
  rw [f1, f2]
  exact t
theorem vCls.f7 {c : Nat} {Z : Nat → Int} {Y : Nat → Int32} {n : Nat} {En : Nat → Int32 × Int32 × Int32} {h h' : XH} (a : vCls c Z Y n En h) (t : c = 3 ∨ c = 24) (e : vKeep (vL6c ++ vLw48 ++ vLp) h h') (er : xR h' 48 0 = xR h 48 0) : vCls c Z Y n En h' := ⟨a.1.f7 t e.l.l, a.2.1.fr e.l.r er, a.2.2.fr e.r⟩
theorem vMod.f7 {Z : Nat → Int} {Y : Nat → Int32} {n : Nat} {U : Nat → Nat → Int32} {h h' : XH} (i : sinv vT h) (B : zcB Z) (a : vMod Z Y n U h) (e : vKeep (vL6j ++ vLh ++ vLq) h h') : vMod Z Y n U h' := ⟨a.1.f7 i e.l.l, a.2.1.f7 B e.l.r, a.2.2.1.f7 B e.l.r, a.2.2.2.f7 B e.r⟩
theorem vImg.f7 {c : Nat} {Z : Nat → Int} {h h' : XH} (B : zcB Z) (a : vImg c Z h) (e : vKeep (vLw70 ++ vLim) h h') (er : xR h' 70 0 = xR h 70 0) : vImg c Z h' := by
  refine ⟨by rw [e.r 2 6 rfl, e.r 104 78 rfl]; exact a.1, fun z => ?_⟩
  rw [e.r 2 6 rfl] at z
  obtain ⟨X, x1, x2, x3, x4⟩ := a.2 z
  exact ⟨X, x1, x2, x3.fr e.l er, x4.f7 B e.r⟩
theorem vKeep.sub {L M : SWl} {h h' : XH} (e : vKeep M h h') (s : L.all (fun q => M.any (fun z => Nat.beq z.1 q.1 && (z.2.2 || (!q.2.2 && Nat.beq z.2.1 q.2.1)))) = true) : vKeep L h h' := fun c k hc => e c k (by
  unfold swin at hc ⊢
  obtain ⟨q, hq, q1⟩ := List.any_eq_true.mp hc
  obtain ⟨z, hz, z1⟩ := List.any_eq_true.mp (List.all_eq_true.mp s q hq)
  rw [Bool.and_eq_true, Bool.or_eq_true] at q1 z1
  obtain ⟨q1, q2⟩ := q1
  obtain ⟨z1, z2⟩ := z1
  have e1 := Nat.eq_of_beq_eq_true q1
  have e2 := Nat.eq_of_beq_eq_true z1
  refine List.any_eq_true.mpr ⟨z, hz, ?_⟩
  rw [Bool.and_eq_true, Bool.or_eq_true]
  refine ⟨by rw [e2, e1]; exact Nat.beq_refl c, ?_⟩
  rcases z2 with z2 | z2
  · exact Or.inl z2
  · rw [Bool.and_eq_true] at z2
    rcases q2 with q2 | q2
    · rw [q2] at z2
      exact absurd z2.1 (by decide)
    · refine Or.inr ?_
      rw [Nat.eq_of_beq_eq_true z2.2]
      exact q2)
theorem vR7.k {h h' : XH} (i : sinv vT h) (r : vR7 h) (e : vKeep vL7 h h') (f1 : xR h' 2 1 = xR h 2 1) (f2 : xR h' 2 2 = xR h 2 2) (f3 : xR h' 48 0 = xR h 48 0) (f4 : xR h' 70 0 = xR h 70 0) : vR7 h' := by
  obtain ⟨c, Z, Y, n, U, En, t, P, a, b, d⟩ := r
  exact ⟨c, Z, Y, n, U, En, t.fr f1 f2, P, a.f7 t.c (e.sub (by decide +kernel)) f3, b.f7 i P.1.1 (e.sub (by decide +kernel)), d.f7 P.1.1 (e.sub (by decide +kernel)) f4⟩
theorem vRl.fr {V : SW} {h h' : XH} (i : sinv vT h) (r : vRl h) (f : sframe V h h') (h1 : swn V.1 vL1 = true) (h7 : swn V.1 vL7 = true) (f1 : swiR V.2 2 1 = false) (f2 : swiR V.2 2 2 = false) (f3 : swiR V.2 48 0 = false) (f4 : swiR V.2 70 0 = false) : vRl h' := ⟨r.1.fr (vKeep.of f h1), r.2.k i (vKeep.of f h7) (f.2 2 1 f1) (f.2 2 2 f2) (f.2 48 0 f3) (f.2 70 0 f4)⟩
/-- the rows 134, 136, 137: their first halves are kept -/
def vhs (c : Nat) : Bool := Nat.beq c 134 || (Nat.beq c 136 || Nat.beq c 137)
theorem vKeep.hs {V : SW} {L : SWl} {h h' : XH} (f : sframe V h h') (s : vHs h h') (n1 : swn (V.1.filter (fun q => !vhs q.1)) L = true) (n2 : L.all (fun q => !vhs q.1 || (!q.2.2 && Nat.blt q.2.1 6 || (!q.2.2 && (Nat.blt q.2.1 8 && !Nat.beq q.1 134)))) = true) : vKeep L h h' := fun c k hc => by
  by_cases hh : vhs c = true
  · have y : (c = 134 ∧ k < 6) ∨ ((c = 136 ∨ c = 137) ∧ k < 8) := by
      unfold swin at hc
      obtain ⟨q, hq, q1⟩ := List.any_eq_true.mp hc
      have z := List.all_eq_true.mp n2 q hq
      rw [Bool.and_eq_true] at q1
      have e1 := Nat.eq_of_beq_eq_true q1.1
      have q2 := q1.2
      rw [e1, hh] at z
      have h3 : c = 134 ∨ c = 136 ∨ c = 137 := by
        unfold vhs at hh
        rw [Bool.or_eq_true, Bool.or_eq_true] at hh
        rcases hh with x | x | x
        · exact Or.inl (Nat.eq_of_beq_eq_true x)
        · exact Or.inr (Or.inl (Nat.eq_of_beq_eq_true x))
        · exact Or.inr (Or.inr (Nat.eq_of_beq_eq_true x))
      cases hb : q.2.2 with
      | true =>
        rw [hb] at z
        cases z
      | false =>
        rw [hb] at z q2
        have q3 : q.2.1 = k := Nat.eq_of_beq_eq_true q2
        rw [q3] at z
        have z : (Nat.blt k 6 || (Nat.blt k 8 && !Nat.beq c 134)) = true := z
        rw [Bool.or_eq_true, Bool.and_eq_true] at z
        rcases z with z | ⟨z, z2⟩
        · have z : k < 6 := Nat.le_of_ble_eq_true z
          rcases h3 with x | x | x
          · exact Or.inl ⟨x, z⟩
          · exact Or.inr ⟨Or.inl x, by omega⟩
          · exact Or.inr ⟨Or.inr x, by omega⟩
        · have z : k < 8 := Nat.le_of_ble_eq_true z
          rcases h3 with x | x | x
          · rw [x] at z2
            cases z2
          · exact Or.inr ⟨Or.inl x, z⟩
          · exact Or.inr ⟨Or.inr x, z⟩
    rcases y with ⟨y1, y2⟩ | ⟨y1 | y1, y2⟩
    · rw [y1]; exact s.1 k y2
    · rw [y1]; exact s.2.1 k y2
    · rw [y1]; exact s.2.2 k y2
  · refine f.1 c k ?_
    cases hv : swin V.1 c k with
    | false => rfl
    | true =>
      exfalso
      have z : swin (V.1.filter (fun q => !vhs q.1)) c k = true := by
        unfold swin at hv ⊢
        obtain ⟨q, hq, q1⟩ := List.any_eq_true.mp hv
        refine List.any_eq_true.mpr ⟨q, List.mem_filter.mpr ⟨hq, ?_⟩, q1⟩
        rw [Bool.and_eq_true] at q1
        rw [Nat.eq_of_beq_eq_true q1.1]
        cases hx : vhs c with
        | false => rfl
        | true => exact absurd hx hh
      rw [swn_ok n1 hc] at z
      cases z
theorem jBg.w {Z : Nat → Int} {h : XH} (A : zAll Z) (a : jK Z h) (b : jBg h h) : jHf 0 Z (zY0 Z) h ∧ jY 0 Z (zY0 Z) h := by
  obtain ⟨⟨⟨-, B0⟩, -, ⟨-, B2⟩, -⟩, -⟩ := id A
  obtain ⟨b1, b2, b3⟩ := b
  refine ⟨⟨fun r hr => ?_, fun p hp => ⟨?_, ?_⟩, b3⟩, ⟨fun r hr => ?_, fun p hp => ?_⟩⟩
  · rw [show 6 * 0 + r = r by omega, (b1 r (by omega)).1, zY0_r (by omega)]
    exact i32_e (a.2.2.1 1 r (by decide) hr)
  · rw [show 8 * 0 + p = p by omega, (b2 p (by omega)).1, zY0_h (by omega)]
    exact i32_e (a.2.2.1 8 p (by decide) hp)
  · rw [show 8 * 0 + p = p by omega, (b2 p (by omega)).2.1, zY0_c (by omega)]
    rfl
  · rw [show 6 * 0 + r = r by omega, (b1 r (by omega)).2, zY0_y (by omega)]
  · rw [show 8 * 0 + p = p by omega, (b2 p (by omega)).2.2, zY0_b (by omega)]
theorem sw_ne {e j c k : Nat} {b : Bool} (z : ¬ c = e) : swin ([(e, j, b)] : SWl) c k = false := sw_no (fun q hq y => by
  rw [List.mem_singleton.mp hq] at y
  exact z y.1.symm)
theorem zpn_le {n : Nat} : zpn n ≤ 20 := by
  unfold zpn
  split <;> omega
/-- what was done, one more -/
theorem vPst.push {Z : Nat → Int} {Y X : Nat → Int32} {n : Nat} {U : Nat → Nat → Int32} {En : Nat → Int32 × Int32 × Int32} {e : Int32 × Int32 × Int32} (P : vPst Z Y n U En) (hX : zVd Z X) (h51 : X 51 = Y 51) (ok : zOk Z e) (eq : Y = zEn X e) : vPst Z X (zpn n) (zpu n U X) (zpe n En e) := by
  obtain ⟨p1, p2, p3, p4, p5, p6⟩ := P
  by_cases hn : n < 20
  · have z1 : zpn n = n + 1 := if_pos hn
    have zu : ∀ k, zpu n U X k = if k ≤ n then U k else X := fun k => if_pos hn
    have ze : ∀ k, zpe n En e k = if k < n then En k else e := fun k => if_pos hn
    rw [z1]
    refine ⟨p1, hX, h51.trans p3, by omega, by rw [zu, if_neg (by omega)], fun k hk => ?_⟩
    rw [zu, zu, ze, if_pos (show k ≤ n by omega)]
    by_cases y : k < n
    · rw [if_pos y, if_pos (show k + 1 ≤ n by omega)]
      exact p6 k y
    · have y2 : k = n := by omega
      rw [if_neg y, if_neg (by omega), y2, p5]
      exact ⟨p2, ok, eq⟩
  · obtain rfl : n = 20 := by omega
    have zu : ∀ k, zpu 20 U X k = if k < 20 then U (k + 1) else X := fun k => if_neg (by decide)
    have ze : ∀ k, zpe 20 En e k = if k < 19 then En (k + 1) else e := fun k => if_neg (by decide)
    refine ⟨p1, hX, h51.trans p3, (by decide : 20 ≤ 20), by show zpu 20 U X 20 = X; rw [zu]; rfl, fun k hk => ?_⟩
    have hk : k < 20 := hk
    rw [zu, zu, ze, if_pos hk]
    by_cases y : k < 19
    · rw [if_pos y, if_pos (show k + 1 < 20 by omega)]
      exact p6 (k + 1) (by omega)
    · have y2 : k = 19 := by omega
      rw [if_neg y, if_neg (by omega), y2, p5]
      exact ⟨p2, ok, eq⟩
theorem zEn_o {Z : Nat → Int} {Y : Nat → Int32} {e : Int32 × Int32 × Int32} (B : zcB Z) (ok : zOk Z e) (i : Nat) (hi : 48 ≤ i ∨ (10 ≤ i ∧ i < 20) ∨ (40 ≤ i ∧ i < 50)) : zEn Y e i = Y i := by
  obtain ⟨⟨-, B0⟩, -, ⟨-, B2⟩, -⟩ := B
  unfold zEn
  rcases ok with ⟨a, b, -⟩ | ⟨a, b, -⟩ | ⟨a, b, -⟩
  · rw [if_pos a, zup_o (by omega)]
  · rw [if_neg (by omega), if_pos a, zup_o (by omega)]
  · rw [if_neg (by omega), if_neg (by omega), zup_o (by omega)]
theorem vPst.pop {Z : Nat → Int} {Y : Nat → Int32} {n : Nat} {U : Nat → Nat → Int32} {En : Nat → Int32 × Int32 × Int32} (P : vPst Z Y n U En) (hn : 0 < n) : vPst Z (U (n - 1)) (n - 1) U En ∧ U (n - 1) = zEn Y (En (n - 1)) ∧ zOk Z (En (n - 1)) := by
  obtain ⟨p1, p2, p3, p4, p5, p6⟩ := P
  obtain ⟨q1, q2, q3⟩ := p6 (n - 1) (by omega)
  rw [show n - 1 + 1 = n by omega, p5] at q3
  exact ⟨⟨p1, q1, by rw [q3, zEn_o p1.1 q2 51 (by omega)]; exact p3, by omega, rfl, fun k hk => p6 k (by omega)⟩, q3, q2⟩
theorem vPst.nil {Z : Nat → Int} {Y : Nat → Int32} (A : zAll Z) (V : zVd Z Y) (m : Y 51 = Int32.ofInt (-1)) (En : Nat → Int32 × Int32 × Int32) : vPst Z Y 0 (fun _ => Y) En := ⟨A, V, m, by decide, rfl, fun k hk => absurd hk (Nat.not_lt_zero k)⟩
theorem zIt_51 {Z : Nat → Int} (B : zcB Z) : ∀ (m : Nat) (Y : Nat → Int32), zIt Z m Y 51 = Y 51
  | 0, _ => rfl
  | m + 1, Y => (zIt_51 B m (zPs Z Y)).trans (zPs_o B 51 (Or.inl rfl))
