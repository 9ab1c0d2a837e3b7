/-- how many slots a cell has -/
def vlen (c : Nat) : Nat := bif Nat.blt c 153 then (bif Nat.blt c 76 then (bif Nat.blt c 38 then (bif Nat.blt c 19 then (bif Nat.blt c 9 then (bif Nat.blt c 4 then (bif Nat.blt c 2 then (0) else (bif Nat.blt c 3 then (14) else (20))) else (bif Nat.blt c 6 then (6) else (bif Nat.blt c 7 then (6) else (bif Nat.blt c 8 then (6) else (9))))) else (bif Nat.blt c 14 then (bif Nat.blt c 11 then (9) else (8)) else (bif Nat.blt c 16 then (bif Nat.blt c 15 then (8) else (6)) else (bif Nat.blt c 17 then (6) else (bif Nat.blt c 18 then (6) else (7)))))) else (bif Nat.blt c 28 then (bif Nat.blt c 23 then (bif Nat.blt c 21 then (64) else (3)) else (bif Nat.blt c 25 then (bif Nat.blt c 24 then (64) else (20)) else (6))) else (bif Nat.blt c 33 then (bif Nat.blt c 30 then (bif Nat.blt c 29 then (6) else (9)) else (bif Nat.blt c 31 then (9) else (bif Nat.blt c 32 then (9) else (8)))) else (bif Nat.blt c 35 then (8) else (bif Nat.blt c 36 then (8) else (6)))))) else (bif Nat.blt c 57 then (bif Nat.blt c 47 then (bif Nat.blt c 42 then (bif Nat.blt c 40 then (bif Nat.blt c 39 then (6) else (7)) else (64)) else (bif Nat.blt c 44 then (3) else (bif Nat.blt c 45 then (64) else (bif Nat.blt c 46 then (14) else (700))))) else (bif Nat.blt c 52 then (bif Nat.blt c 49 then (bif Nat.blt c 48 then (72) else (14)) else (bif Nat.blt c 50 then (6) else (bif Nat.blt c 51 then (6) else (9)))) else (bif Nat.blt c 54 then (8) else (bif Nat.blt c 55 then (8) else (6))))) else (bif Nat.blt c 66 then (bif Nat.blt c 61 then (bif Nat.blt c 59 then (bif Nat.blt c 58 then (6) else (7)) else (bif Nat.blt c 60 then (14) else (6))) else (bif Nat.blt c 63 then (bif Nat.blt c 62 then (6) else (9)) else (8))) else (bif Nat.blt c 71 then (bif Nat.blt c 68 then (6) else (bif Nat.blt c 69 then (6) else (bif Nat.blt c 70 then (7) else (14)))) else (bif Nat.blt c 73 then (6) else (bif Nat.blt c 74 then (9) else (8))))))) else (bif Nat.blt c 114 then (bif Nat.blt c 95 then (bif Nat.blt c 85 then (bif Nat.blt c 80 then (bif Nat.blt c 78 then (bif Nat.blt c 77 then (8) else (6)) else (6)) else (bif Nat.blt c 82 then (7) else (20))) else (bif Nat.blt c 90 then (bif Nat.blt c 87 then (bif Nat.blt c 86 then (7) else (24)) else (24)) else (bif Nat.blt c 92 then (bif Nat.blt c 91 then (24) else (1)) else (bif Nat.blt c 93 then (8) else (6))))) else (bif Nat.blt c 104 then (bif Nat.blt c 99 then (bif Nat.blt c 97 then (6) else (bif Nat.blt c 98 then (360) else (1))) else (bif Nat.blt c 101 then (bif Nat.blt c 100 then (366) else (2)) else (bif Nat.blt c 102 then (256) else (bif Nat.blt c 103 then (256) else (1))))) else (bif Nat.blt c 109 then (bif Nat.blt c 106 then (bif Nat.blt c 105 then (81) else (700)) else (bif Nat.blt c 107 then (105) else (bif Nat.blt c 108 then (1) else (2)))) else (bif Nat.blt c 111 then (12) else (bif Nat.blt c 112 then (12) else (bif Nat.blt c 113 then (12) else (18))))))) else (bif Nat.blt c 133 then (bif Nat.blt c 123 then (bif Nat.blt c 118 then (bif Nat.blt c 116 then (18) else (16)) else (bif Nat.blt c 120 then (16) else (12))) else (bif Nat.blt c 128 then (bif Nat.blt c 125 then (6) else (bif Nat.blt c 126 then (6) else (128))) else (bif Nat.blt c 130 then (bif Nat.blt c 129 then (128) else (96)) else (bif Nat.blt c 131 then (96) else (bif Nat.blt c 132 then (7) else (64)))))) else (bif Nat.blt c 143 then (bif Nat.blt c 138 then (bif Nat.blt c 135 then (12) else (16)) else (bif Nat.blt c 140 then (bif Nat.blt c 139 then (2) else (6)) else (bif Nat.blt c 141 then (366) else (bif Nat.blt c 142 then (48) else (8))))) else (bif Nat.blt c 148 then (bif Nat.blt c 145 then (bif Nat.blt c 144 then (8) else (6)) else (bif Nat.blt c 146 then (4) else (bif Nat.blt c 147 then (4) else (96)))) else (bif Nat.blt c 150 then (bif Nat.blt c 149 then (24) else (440)) else (bif Nat.blt c 151 then (22) else (bif Nat.blt c 152 then (15) else (1))))))))) else 0
/-! TWO HEAPS that agree where they are read: a step on one is a step on the other. -/
def xsw (h2 : XH) (r : XP) : XP := (r.1, r.2.1, r.2.2.1, h2, r.2.2.2.2)
theorem cmap {α β : Type} {b : Bool} {x y : Option α} {g : α → β} : (bif b then x else y).map g = bif b then x.map g else y.map g := by cases b <;> rfl
section XPair
variable {aux nx fr lo : Nat} {L st : List XV} {h h2 : XH} {o : List Nat} {acc : Prop}
theorem xp_jmp {c : Prop} {t : Int} : xjmp c t nx L st h2 o acc = (xjmp c t nx L st h o acc).map (xsw h2) := by
  unfold xjmp
  split
  · rw [cmap]
    rfl
  · rfl
theorem xp_jmn {c : Prop} {t : Int} : xjmn c t nx L st h2 o acc = (xjmn c t nx L st h o acc).map (xsw h2) := by
  unfold xjmn
  split
  · rw [cmap]
    rfl
  · rfl
theorem xp_xif {c : ClassFile.Cond} {a b : Int32} {t : Int} : xif c a b t nx L st h2 o acc = (xif c a b t nx L st h o acc).map (xsw h2) := by
  unfold xif
  cases c with
  | ne => exact xp_jmn
  | _ => exact xp_jmp
theorem xp_xtsw {d lw hi : Int} {ts : List Int} {a : Int32} : xtsw d lw hi ts a L st h2 o acc = (xtsw d lw hi ts a L st h o acc).map (xsw h2) := by
  unfold xtsw
  split
  · rfl
  · split <;> rfl
  · rfl
theorem xp_xlsw {d : Int} {ps : List (Int × Int)} {a : Int32} : xlsw d ps a L st h2 o acc = (xlsw d ps a L st h o acc).map (xsw h2) := by
  unfold xlsw
  split
  · rfl
  · split <;> rfl
  · rfl
theorem xp_iload {i : Nat} : xd_iload i nx L st h2 o acc = (xd_iload i nx L st h o acc).map (xsw h2) := by
  unfold xd_iload
  split <;> first | rfl | (rw [cmap]; rfl)
theorem xp_lload {i : Nat} : xd_lload i nx L st h2 o acc = (xd_lload i nx L st h o acc).map (xsw h2) := by
  unfold xd_lload
  split <;> first | rfl | (rw [cmap]; rfl)
theorem xp_aload {i : Nat} : xd_aload i nx L st h2 o acc = (xd_aload i nx L st h o acc).map (xsw h2) := by
  unfold xd_aload
  split <;> first | rfl | (rw [cmap]; rfl)
theorem xp_istore {i : Nat} : xd_istore i nx L st h2 o acc = (xd_istore i nx L st h o acc).map (xsw h2) := by
  unfold xd_istore
  split <;> first | rfl | (rw [cmap]; rfl)
theorem xp_astore {i : Nat} : xd_astore i nx L st h2 o acc = (xd_astore i nx L st h o acc).map (xsw h2) := by
  unfold xd_astore
  split <;> first | rfl | (rw [cmap]; rfl)
theorem xp_lstore {i : Nat} : xd_lstore i nx L st h2 o acc = (xd_lstore i nx L st h o acc).map (xsw h2) := by
  unfold xd_lstore
  split <;> first | rfl | (rw [cmap]; rfl)
theorem xp_iinc {i : Nat} {k : Int} : xd_iinc i k nx L st h2 o acc = (xd_iinc i k nx L st h o acc).map (xsw h2) := by
  unfold xd_iinc
  split <;> first | rfl | (rw [cmap]; rfl)
theorem xp_iadd  : xd_iadd  nx L st h2 o acc = (xd_iadd  nx L st h o acc).map (xsw h2) := by
  unfold xd_iadd
  split <;> first | rfl | (rw [cmap]; rfl)
theorem xp_isub  : xd_isub  nx L st h2 o acc = (xd_isub  nx L st h o acc).map (xsw h2) := by
  unfold xd_isub
  split <;> first | rfl | (rw [cmap]; rfl)
theorem xp_imul  : xd_imul  nx L st h2 o acc = (xd_imul  nx L st h o acc).map (xsw h2) := by
  unfold xd_imul
  split <;> first | rfl | (rw [cmap]; rfl)
theorem xp_iand  : xd_iand  nx L st h2 o acc = (xd_iand  nx L st h o acc).map (xsw h2) := by
  unfold xd_iand
  split <;> first | rfl | (rw [cmap]; rfl)
theorem xp_ior  : xd_ior  nx L st h2 o acc = (xd_ior  nx L st h o acc).map (xsw h2) := by
  unfold xd_ior
  split <;> first | rfl | (rw [cmap]; rfl)
theorem xp_ixor  : xd_ixor  nx L st h2 o acc = (xd_ixor  nx L st h o acc).map (xsw h2) := by
  unfold xd_ixor
  split <;> first | rfl | (rw [cmap]; rfl)
theorem xp_ishl  : xd_ishl  nx L st h2 o acc = (xd_ishl  nx L st h o acc).map (xsw h2) := by
  unfold xd_ishl
  split <;> first | rfl | (rw [cmap]; rfl)
theorem xp_ishr  : xd_ishr  nx L st h2 o acc = (xd_ishr  nx L st h o acc).map (xsw h2) := by
  unfold xd_ishr
  split <;> first | rfl | (rw [cmap]; rfl)
theorem xp_iushr  : xd_iushr  nx L st h2 o acc = (xd_iushr  nx L st h o acc).map (xsw h2) := by
  unfold xd_iushr
  split <;> first | rfl | (rw [cmap]; rfl)
theorem xp_ladd  : xd_ladd  nx L st h2 o acc = (xd_ladd  nx L st h o acc).map (xsw h2) := by
  unfold xd_ladd
  split <;> first | rfl | (rw [cmap]; rfl)
theorem xp_lsub  : xd_lsub  nx L st h2 o acc = (xd_lsub  nx L st h o acc).map (xsw h2) := by
  unfold xd_lsub
  split <;> first | rfl | (rw [cmap]; rfl)
theorem xp_lmul  : xd_lmul  nx L st h2 o acc = (xd_lmul  nx L st h o acc).map (xsw h2) := by
  unfold xd_lmul
  split <;> first | rfl | (rw [cmap]; rfl)
theorem xp_land  : xd_land  nx L st h2 o acc = (xd_land  nx L st h o acc).map (xsw h2) := by
  unfold xd_land
  split <;> first | rfl | (rw [cmap]; rfl)
theorem xp_lxor  : xd_lxor  nx L st h2 o acc = (xd_lxor  nx L st h o acc).map (xsw h2) := by
  unfold xd_lxor
  split <;> first | rfl | (rw [cmap]; rfl)
theorem xp_idiv  : xd_idiv  nx L st h2 o acc = (xd_idiv  nx L st h o acc).map (xsw h2) := by
  unfold xd_idiv
  split <;> first | rfl | (rw [cmap]; rfl)
theorem xp_irem  : xd_irem  nx L st h2 o acc = (xd_irem  nx L st h o acc).map (xsw h2) := by
  unfold xd_irem
  split <;> first | rfl | (rw [cmap]; rfl)
theorem xp_ldiv  : xd_ldiv  nx L st h2 o acc = (xd_ldiv  nx L st h o acc).map (xsw h2) := by
  unfold xd_ldiv
  split <;> first | rfl | (rw [cmap]; rfl)
theorem xp_lrem  : xd_lrem  nx L st h2 o acc = (xd_lrem  nx L st h o acc).map (xsw h2) := by
  unfold xd_lrem
  split <;> first | rfl | (rw [cmap]; rfl)
theorem xp_ineg  : xd_ineg  nx L st h2 o acc = (xd_ineg  nx L st h o acc).map (xsw h2) := by
  unfold xd_ineg
  split <;> first | rfl | (rw [cmap]; rfl)
theorem xp_lneg  : xd_lneg  nx L st h2 o acc = (xd_lneg  nx L st h o acc).map (xsw h2) := by
  unfold xd_lneg
  split <;> first | rfl | (rw [cmap]; rfl)
theorem xp_lcmp  : xd_lcmp  nx L st h2 o acc = (xd_lcmp  nx L st h o acc).map (xsw h2) := by
  unfold xd_lcmp
  split <;> first | rfl | (rw [cmap]; rfl)
theorem xp_i2l  : xd_i2l  nx L st h2 o acc = (xd_i2l  nx L st h o acc).map (xsw h2) := by
  unfold xd_i2l
  split <;> first | rfl | (rw [cmap]; rfl)
theorem xp_l2i  : xd_l2i  nx L st h2 o acc = (xd_l2i  nx L st h o acc).map (xsw h2) := by
  unfold xd_l2i
  split <;> first | rfl | (rw [cmap]; rfl)
theorem xp_i2b  : xd_i2b  nx L st h2 o acc = (xd_i2b  nx L st h o acc).map (xsw h2) := by
  unfold xd_i2b
  split <;> first | rfl | (rw [cmap]; rfl)
theorem xp_dup  : xd_dup  nx L st h2 o acc = (xd_dup  nx L st h o acc).map (xsw h2) := by
  unfold xd_dup
  split <;> first | rfl | (rw [cmap]; rfl)
theorem xp_dup2  : xd_dup2  nx L st h2 o acc = (xd_dup2  nx L st h o acc).map (xsw h2) := by
  unfold xd_dup2
  split <;> first | rfl | (rw [cmap]; rfl)
theorem xp_pop  : xd_pop  nx L st h2 o acc = (xd_pop  nx L st h o acc).map (xsw h2) := by
  unfold xd_pop
  split <;> first | rfl | (rw [cmap]; rfl)
theorem xp_if {c : ClassFile.Cond} {t : Int} : xd_if c t nx L st h2 o acc = (xd_if c t nx L st h o acc).map (xsw h2) := by
  unfold xd_if
  split
  · exact xp_xif
  · rfl
theorem xp_icmp {c : ClassFile.Cond} {t : Int} : xd_icmp c t nx L st h2 o acc = (xd_icmp c t nx L st h o acc).map (xsw h2) := by
  unfold xd_icmp
  split
  · exact xp_xif
  · rfl
theorem xp_tsw {d : Int} {lw : Int} {hi : Int} {ts : Array Int} : xd_tsw d lw hi ts nx L st h2 o acc = (xd_tsw d lw hi ts nx L st h o acc).map (xsw h2) := by
  unfold xd_tsw
  split
  · exact xp_xtsw
  · rfl
theorem xp_lsw {d : Int} {ps : Array (Int × Int)} : xd_lsw d ps nx L st h2 o acc = (xd_lsw d ps nx L st h o acc).map (xsw h2) := by
  unfold xd_lsw
  split
  · exact xp_xlsw
  · rfl
theorem xp_len  : xd_len none nx L st h2 o acc = (xd_len none nx L st h o acc).map (xsw h2) := by
  unfold xd_len
  split
  · rw [cmap, cmap, cmap, cmap]
    rfl
  · rfl
theorem xp_obj  : xd_obj fr lo nx L st h2 o acc = (xd_obj fr lo nx L st h o acc).map (xsw h2) := by
  unfold xd_obj
  split <;> first | rfl | (rw [cmap]; rfl)
theorem xp_math {t : Nat} : xd_math fr lo t nx L st h2 o acc = (xd_math fr lo t nx L st h o acc).map (xsw h2) := by
  unfold xd_math
  split <;> first | rfl | (rw [cmap]; rfl)
/-- what two steps have in common -/
def XPr (h h2 : XH) (r r' : XP) : Prop := r'.1 = r.1 ∧ r'.2.1 = r.2.1 ∧ r'.2.2.1 = r.2.2.1 ∧ (r.2.2.2.2.2 → r'.2.2.2.2.2) ∧ (∀ c k, xI h c k = xI h2 c k → xI r.2.2.2.1 c k = xI r'.2.2.2.1 c k) ∧ (∀ c k, xI r'.2.2.2.1 c k = xI r.2.2.2.1 c k ∨ xI r'.2.2.2.1 c k = xI h2 c k) ∧ (∀ c k, xR r.2.2.2.1 c k = xR r'.2.2.2.1 c k) ∧ (xL r.2.2.2.1 = xL h ∧ xL r'.2.2.2.1 = xL h2)
theorem XPr.free {r : XP} (e : r.2.2.2.1 = h) (hR : ∀ c k, xR h c k = xR h2 c k) : XPr h h2 r (xsw h2 r) :=
  ⟨rfl, rfl, rfl, id, fun c k z => by rw [e]; exact z, fun c k => Or.inr rfl, fun c k => by rw [e]; exact hR c k, by rw [e], rfl⟩
/-- what a step reads is alike -/
def xcle (i : Instr) (st : List XV) (h h2 : XH) : Prop := match i, st with
  | .getfield k, .inr (_, e) :: _ => xI h e k = xI h2 e k
  | .iaload, .inl (.inl x) :: .inr (kd, e) :: _ => vp_in x (kd - 10000) → xI h e x.toNatClampNeg = xI h2 e x.toNatClampNeg
  | .baload, .inl (.inl x) :: .inr (kd, e) :: _ => ∀ n, (xin 20000 kd = true → n = kd - 20000) → (xin 20000 kd = false → n = kd - 30000) → vp_in x n → xI h e x.toNatClampNeg = xI h2 e x.toNatClampNeg
  | .checkcast _, _ => False
  | .laload, _ => False
  | .monitorexit, _ => False
  | .new _, _ => False
  | .newarray _, _ => False
  | .putstatic _, _ => False
  | .lastore, _ => False
  | .instanceof _, _ => False
  | _, _ => True
theorem xset_pr {e k : Nat} {v : Int32} (hR : ∀ c k, xR h c k = xR h2 c k) {pc : Nat} {L' st' : List XV} {o' : List Nat} {a : Prop} : XPr h h2 (pc, L', st', xsetI h e k v, o', a) (pc, L', st', xsetI h2 e k v, o', a) := by
  refine ⟨rfl, rfl, rfl, id, fun c k' z => ?_, fun c k' => ?_, hR, rfl, rfl⟩
  · by_cases y : c = e ∧ k' = k
    · obtain ⟨rfl, rfl⟩ := y
      show xI (xsetI h c k' v) c k' = xI (xsetI h2 c k' v) c k'
      rw [yI_same, yI_same]
    · show xI (xsetI h e k v) c k' = xI (xsetI h2 e k v) c k'
      rw [yI_ne (eq_false y), yI_ne (eq_false y)]
      exact z
  · by_cases y : c = e ∧ k' = k
    · obtain ⟨rfl, rfl⟩ := y
      refine Or.inl ?_
      show xI (xsetI h2 c k' v) c k' = xI (xsetI h c k' v) c k'
      rw [yI_same, yI_same]
    · exact Or.inr (yI_ne (eq_false y))
theorem xp2_getI {k : Nat} {r : XP} (hR : ∀ c k, xR h c k = xR h2 c k) (hc : xcle (.getfield k) st h h2) (hs : xd_getI k aux nx L st h o acc = some r) : ∃ r', xd_getI k aux nx L st h2 o acc = some r' ∧ XPr h h2 r r' := by
  unfold xd_getI at hs ⊢
  split at hs
  · rename_i kd e st0
    have hc : xI h e k = xI h2 e k := hc
    cases hb : Nat.beq kd aux with
    | false => rw [hb] at hs; cases hs
    | true =>
      rw [hb] at hs
      obtain rfl := Option.some.inj hs
      exact ⟨_, rfl, rfl, rfl, by show (.inl (.inl (xI h2 e k)) :: st0 : List XV) = .inl (.inl (xI h e k)) :: st0; rw [hc], id, fun c k z => z, fun c k => Or.inr rfl, hR, rfl, rfl⟩
  · cases hs
theorem xp2_getR {k : Nat} {r : XP} (hR : ∀ c k, xR h c k = xR h2 c k) (hs : xd_getR false k aux nx L st h o acc = some r) : ∃ r', xd_getR false k aux nx L st h2 o acc = some r' ∧ XPr h h2 r r' := by
  unfold xd_getR at hs ⊢
  split at hs
  · rename_i kd e st0
    cases hb : Nat.beq kd aux with
    | false => rw [hb] at hs; cases hs
    | true =>
      rw [hb] at hs
      obtain rfl := Option.some.inj hs
      refine ⟨_, rfl, rfl, rfl, ?_, fun z => ⟨z.1, fun y => z.2 ((hR e k).trans y)⟩, fun c k z => z, fun c k => Or.inr rfl, hR, rfl, rfl⟩
      show (.inr (xfk kd k, xR h2 e k) :: st0 : List XV) = .inr (xfk kd k, xR h e k) :: st0
      rw [hR]
  · cases hs
theorem xp2_putI {k : Nat} {r : XP} (hR : ∀ c k, xR h c k = xR h2 c k) (hs : xd_putI k aux nx L st h o acc = some r) : ∃ r', xd_putI k aux nx L st h2 o acc = some r' ∧ XPr h h2 r r' := by
  unfold xd_putI at hs ⊢
  split at hs
  · rename_i v kd e st0
    cases hb : Nat.beq kd aux with
    | false => rw [hb] at hs; cases hs
    | true =>
      rw [hb] at hs
      dsimp only [cond] at hs ⊢
      cases hb2 : xbo kd k with
      | true =>
        rw [hb2] at hs
        obtain rfl := Option.some.inj hs
        exact ⟨_, rfl, xset_pr hR⟩
      | false =>
        rw [hb2] at hs
        obtain rfl := Option.some.inj hs
        exact ⟨_, rfl, xset_pr hR⟩
  · cases hs
theorem xp2_iaload {r : XP} (hR : ∀ c k, xR h c k = xR h2 c k) (hc : xcle .iaload st h h2) (ha : r.2.2.2.2.2) (hs : xd_iaload none nx L st h o acc = some r) : ∃ r', xd_iaload none nx L st h2 o acc = some r' ∧ XPr h h2 r r' := by
  unfold xd_iaload at hs ⊢
  split at hs
  · rename_i i kd e st0
    have hc : vp_in i (kd - 10000) → xI h e i.toNatClampNeg = xI h2 e i.toNatClampNeg := hc
    cases hb : Nat.beq kd 50 with
    | true => rw [hb] at hs; cases hs
    | false =>
      rw [hb] at hs
      dsimp only [cond] at hs ⊢
      cases hb2 : xin 10000 kd with
      | false => rw [hb2] at hs; cases hs
      | true =>
        rw [hb2] at hs
        obtain rfl := Option.some.inj hs
        have hc := hc ha.2
        exact ⟨_, rfl, rfl, rfl, by show (.inl (.inl (xI h2 e i.toNatClampNeg)) :: st0 : List XV) = .inl (.inl (xI h e i.toNatClampNeg)) :: st0; rw [hc], id, fun c k z => z, fun c k => Or.inr rfl, hR, rfl, rfl⟩
  · cases hs
theorem xp2_baload {r : XP} (hR : ∀ c k, xR h c k = xR h2 c k) (hc : xcle .baload st h h2) (ha : r.2.2.2.2.2) (hs : xd_baload nx L st h o acc = some r) : ∃ r', xd_baload nx L st h2 o acc = some r' ∧ XPr h h2 r r' := by
  unfold xd_baload at hs ⊢
  split at hs
  · rename_i i kd e st0
    have hc : ∀ n, (xin 20000 kd = true → n = kd - 20000) → (xin 20000 kd = false → n = kd - 30000) → vp_in i n → xI h e i.toNatClampNeg = xI h2 e i.toNatClampNeg := hc
    cases hb : xin 20000 kd with
    | true =>
      rw [hb] at hs
      obtain rfl := Option.some.inj hs
      have hv := hc _ (fun _ => rfl) (fun z => absurd (hb.symm.trans z) (by decide)) ha.2
      exact ⟨_, rfl, rfl, rfl, by show (.inl (.inl (xI h2 e i.toNatClampNeg)) :: st0 : List XV) = .inl (.inl (xI h e i.toNatClampNeg)) :: st0; rw [hv], id, fun c k z => z, fun c k => Or.inr rfl, hR, rfl, rfl⟩
    | false =>
      rw [hb] at hs
      dsimp only [cond] at hs ⊢
      cases hb2 : xin 30000 kd with
      | false => rw [hb2] at hs; cases hs
      | true =>
        rw [hb2] at hs
        obtain rfl := Option.some.inj hs
        have hv := hc _ (fun z => absurd (hb.symm.trans z) (by decide)) (fun _ => rfl) ha.2
        exact ⟨_, rfl, rfl, rfl, by show (.inl (.inl (xI h2 e i.toNatClampNeg)) :: st0 : List XV) = .inl (.inl (xI h e i.toNatClampNeg)) :: st0; rw [hv], id, fun c k z => z, fun c k => Or.inr rfl, hR, rfl, rfl⟩
  · cases hs
theorem xp2_iastore {r : XP} (hR : ∀ c k, xR h c k = xR h2 c k) (hs : xd_iastore nx L st h o acc = some r) : ∃ r', xd_iastore nx L st h2 o acc = some r' ∧ XPr h h2 r r' := by
  unfold xd_iastore at hs ⊢
  split at hs
  · rename_i v i kd e st0
    cases hb : xin 10000 kd with
    | false => rw [hb] at hs; cases hs
    | true =>
      rw [hb] at hs
      obtain rfl := Option.some.inj hs
      exact ⟨_, rfl, xset_pr hR⟩
  · cases hs
theorem xp2_bastore {r : XP} (hR : ∀ c k, xR h c k = xR h2 c k) (hs : xd_bastore nx L st h o acc = some r) : ∃ r', xd_bastore nx L st h2 o acc = some r' ∧ XPr h h2 r r' := by
  unfold xd_bastore at hs ⊢
  split at hs
  · rename_i v i kd e st0
    cases hb : xin 20000 kd with
    | true =>
      rw [hb] at hs
      obtain rfl := Option.some.inj hs
      exact ⟨_, rfl, xset_pr hR⟩
    | false =>
      rw [hb] at hs
      dsimp only [cond] at hs ⊢
      cases hb2 : xin 30000 kd with
      | false => rw [hb2] at hs; cases hs
      | true =>
        rw [hb2] at hs
        obtain rfl := Option.some.inj hs
        exact ⟨_, rfl, xset_pr hR⟩
  · cases hs
theorem xp_some {f : XH → Option XP} {r : XP} (hs : f h = some r) (he : ∀ g, f g = (f h).map (xsw g)) (hR : ∀ c k, xR h c k = xR h2 c k) : ∃ r', f h2 = some r' ∧ XPr h h2 r r' := by
  have e : r.2.2.2.1 = h := by
    have := he h
    rw [hs] at this
    rw [Option.some.inj this]
    rfl
  exact ⟨xsw h2 r, by rw [he h2, hs]; rfl, XPr.free e hR⟩
theorem xstep_pair {i : Instr} {r : XP} (hR : ∀ c k, xR h c k = xR h2 c k) (hc : xcle i st h h2) (ha : r.2.2.2.2.2) (hs : xstep none false fr lo i aux nx L st h o acc = some r) : ∃ r', xstep none false fr lo i aux nx L st h2 o acc = some r' ∧ XPr h h2 r r' := by
  unfold xstep at hs
  split at hs
  · obtain rfl := Option.some.inj hs
    exact ⟨_, rfl, XPr.free (h := h) (h2 := h2) rfl hR⟩
  · obtain rfl := Option.some.inj hs
    exact ⟨_, rfl, XPr.free (h := h) (h2 := h2) rfl hR⟩
  · obtain rfl := Option.some.inj hs
    exact ⟨_, rfl, XPr.free (h := h) (h2 := h2) rfl hR⟩
  · exact xp_some (f := fun h => xd_iload _ _ _ _ h _ _) hs (fun _ => xp_iload) hR
  · exact xp_some (f := fun h => xd_lload _ _ _ _ h _ _) hs (fun _ => xp_lload) hR
  · exact xp_some (f := fun h => xd_aload _ _ _ _ h _ _) hs (fun _ => xp_aload) hR
  · exact xp_some (f := fun h => xd_istore _ _ _ _ h _ _) hs (fun _ => xp_istore) hR
  · exact xp_some (f := fun h => xd_lstore _ _ _ _ h _ _) hs (fun _ => xp_lstore) hR
  · exact xp_some (f := fun h => xd_astore _ _ _ _ h _ _) hs (fun _ => xp_astore) hR
  · exact xp_some (f := fun h => xd_iinc _ _ _ _ _ h _ _) hs (fun _ => xp_iinc) hR
  · exact xp_some (f := fun h => xd_iadd  _ _ _ h _ _) hs (fun _ => xp_iadd) hR
  · exact xp_some (f := fun h => xd_isub  _ _ _ h _ _) hs (fun _ => xp_isub) hR
  · exact xp_some (f := fun h => xd_imul  _ _ _ h _ _) hs (fun _ => xp_imul) hR
  · exact xp_some (f := fun h => xd_iand  _ _ _ h _ _) hs (fun _ => xp_iand) hR
  · exact xp_some (f := fun h => xd_ior  _ _ _ h _ _) hs (fun _ => xp_ior) hR
  · exact xp_some (f := fun h => xd_ixor  _ _ _ h _ _) hs (fun _ => xp_ixor) hR
  · exact xp_some (f := fun h => xd_ishl  _ _ _ h _ _) hs (fun _ => xp_ishl) hR
  · exact xp_some (f := fun h => xd_ishr  _ _ _ h _ _) hs (fun _ => xp_ishr) hR
  · exact xp_some (f := fun h => xd_iushr  _ _ _ h _ _) hs (fun _ => xp_iushr) hR
  · exact xp_some (f := fun h => xd_ladd  _ _ _ h _ _) hs (fun _ => xp_ladd) hR
  · exact xp_some (f := fun h => xd_lsub  _ _ _ h _ _) hs (fun _ => xp_lsub) hR
  · exact xp_some (f := fun h => xd_lmul  _ _ _ h _ _) hs (fun _ => xp_lmul) hR
  · exact xp_some (f := fun h => xd_land  _ _ _ h _ _) hs (fun _ => xp_land) hR
  · exact xp_some (f := fun h => xd_lxor  _ _ _ h _ _) hs (fun _ => xp_lxor) hR
  · exact xp_some (f := fun h => xd_idiv  _ _ _ h _ _) hs (fun _ => xp_idiv) hR
  · exact xp_some (f := fun h => xd_irem  _ _ _ h _ _) hs (fun _ => xp_irem) hR
  · exact xp_some (f := fun h => xd_ldiv  _ _ _ h _ _) hs (fun _ => xp_ldiv) hR
  · exact xp_some (f := fun h => xd_lrem  _ _ _ h _ _) hs (fun _ => xp_lrem) hR
  · exact xp_some (f := fun h => xd_ineg  _ _ _ h _ _) hs (fun _ => xp_ineg) hR
  · exact xp_some (f := fun h => xd_lneg  _ _ _ h _ _) hs (fun _ => xp_lneg) hR
  · exact xp_some (f := fun h => xd_lcmp  _ _ _ h _ _) hs (fun _ => xp_lcmp) hR
  · exact xp_some (f := fun h => xd_i2l  _ _ _ h _ _) hs (fun _ => xp_i2l) hR
  · exact xp_some (f := fun h => xd_l2i  _ _ _ h _ _) hs (fun _ => xp_l2i) hR
  · exact xp_some (f := fun h => xd_i2b  _ _ _ h _ _) hs (fun _ => xp_i2b) hR
  · exact xp_some (f := fun h => xd_dup  _ _ _ h _ _) hs (fun _ => xp_dup) hR
  · exact xp_some (f := fun h => xd_dup2  _ _ _ h _ _) hs (fun _ => xp_dup2) hR
  · exact xp_some (f := fun h => xd_pop  _ _ _ h _ _) hs (fun _ => xp_pop) hR
  · exact xp_some (f := fun h => xd_if _ _ _ _ _ h _ _) hs (fun _ => xp_if) hR
  · exact xp_some (f := fun h => xd_icmp _ _ _ _ _ h _ _) hs (fun _ => xp_icmp) hR
  · exact xp_some (f := fun h => xd_tsw _ _ _ _ _ _ _ h _ _) hs (fun _ => xp_tsw) hR
  · exact xp_some (f := fun h => xd_lsw _ _ _ _ _ h _ _) hs (fun _ => xp_lsw) hR
  · exact xp2_getI hR hc hs
  · cases hc
  · exact xp2_getR hR hs
  · exact xp2_putI hR hs
  · cases hc
  · cases hc
  · exact xp2_iaload hR hc ha hs
  · exact xp2_baload hR hc ha hs
  · cases hc
  · exact xp2_iastore hR hs
  · exact xp2_bastore hR hs
  · cases hc
  · exact xp_some (f := fun h => xd_len none _ _ _ h _ _) hs (fun _ => xp_len) hR
  · cases hc
  · cases hc
  · exact xp_some (f := fun h => xd_obj _ _ _ _ _ h _ _) hs (fun _ => xp_obj) hR
  · cases hc
  · exact xp_some (f := fun h => xd_math _ _ _ _ _ _ h _ _) hs (fun _ => xp_math) hR
  · cases hs
end XPair
