/-! WHAT A STEP LEAVES: int and reference slots but those that it writes. -/
def xwr (i : Instr) (st : List XV) (c k : Nat) : Prop := match i, st with
  | .putfield k', .inl (.inl _) :: .inr (_, e) :: _ => c = e ∧ k = k'
  | .iastore, .inl (.inl _) :: .inl (.inl _) :: .inr (_, e) :: _ => c = e
  | .bastore, .inl (.inl _) :: .inl (.inl _) :: .inr (_, e) :: _ => c = e
  | .monitorexit, .inl (.inl _) :: .inl (.inl _) :: .inr (_, e) :: _ => c = e
  | _, _ => False
def xwrR (i : Instr) (st : List XV) (c k : Nat) : Prop := match i, st with
  | .putstatic k', .inr _ :: .inr (_, e) :: _ => c = e ∧ k = k'
  | _, _ => False
def XFr (h : XH) (r : XP) : Prop := xI r.2.2.2.1 = xI h ∧ xR r.2.2.2.1 = xR h ∧ xN r.2.2.2.1 = xN h ∧ xU r.2.2.2.1 = xU h
section XFrame
variable {M pc aux nx fr lo : Nat} {sc : XSc} {full : Bool} {L st : List XV} {h : XH} {o : List Nat} {acc : Prop} {r : XP}
theorem xjmp_fr {cc : Prop} {t : Int} (hs : xjmp cc t nx L st h o acc = some r) : XFr h r := by
  unfold xjmp at hs
  split at hs
  · exact xc hs ⟨rfl, rfl, rfl, rfl⟩ (fun hs => xcn1 hs ⟨rfl, rfl, rfl, rfl⟩)
  · cases hs
theorem xjmn_fr {cc : Prop} {t : Int} (hs : xjmn cc t nx L st h o acc = some r) : XFr h r := by
  unfold xjmn at hs
  split at hs
  · exact xc hs ⟨rfl, rfl, rfl, rfl⟩ (fun hs => xcn1 hs ⟨rfl, rfl, rfl, rfl⟩)
  · cases hs
theorem xif_fr {cd : ClassFile.Cond} {a b : Int32} {t : Int} (hs : xif cd a b t nx L st h o acc = some r) : XFr h r := by
  unfold xif at hs
  cases cd with
  | ne => exact xjmn_fr hs
  | _ => exact xjmp_fr hs
theorem xtsw_fr {d lw hi : Int} {ts : List Int} {a : Int32} (hs : xtsw d lw hi ts a L st h o acc = some r) : XFr h r := by
  unfold xtsw at hs
  split at hs
  · exact xcn1 hs ⟨rfl, rfl, rfl, rfl⟩
  · split at hs
    · exact xcn1 hs ⟨rfl, rfl, rfl, rfl⟩
    · cases hs
  · cases hs
theorem xlsw_fr {d : Int} {ps : List (Int × Int)} {a : Int32} (hs : xlsw d ps a L st h o acc = some r) : XFr h r := by
  unfold xlsw at hs
  split at hs
  · exact xcn1 hs ⟨rfl, rfl, rfl, rfl⟩
  · split at hs
    · exact xcn1 hs ⟨rfl, rfl, rfl, rfl⟩
    · cases hs
  · cases hs
theorem xfr_iload {i : Nat} (hs : xd_iload i nx L st h o acc = some r) : XFr h r := by
  unfold xd_iload at hs
  split at hs
  · exact xcn1 hs ⟨rfl, rfl, rfl, rfl⟩
  · cases hs
theorem xfr_lload {i : Nat} (hs : xd_lload i nx L st h o acc = some r) : XFr h r := by
  unfold xd_lload at hs
  split at hs
  · exact xcn1 hs ⟨rfl, rfl, rfl, rfl⟩
  · cases hs
theorem xfr_aload {i : Nat} (hs : xd_aload i nx L st h o acc = some r) : XFr h r := by
  unfold xd_aload at hs
  split at hs
  · exact xc2 hs ⟨rfl, rfl, rfl, rfl⟩
  · cases hs
theorem xfr_istore {i : Nat} (hs : xd_istore i nx L st h o acc = some r) : XFr h r := by
  unfold xd_istore at hs
  split at hs
  · exact xcn1 hs ⟨rfl, rfl, rfl, rfl⟩
  · cases hs
theorem xfr_astore {i : Nat} (hs : xd_astore i nx L st h o acc = some r) : XFr h r := by
  unfold xd_astore at hs
  split at hs
  · exact xcn1 hs ⟨rfl, rfl, rfl, rfl⟩
  · cases hs
theorem xfr_lstore {i : Nat} (hs : xd_lstore i nx L st h o acc = some r) : XFr h r := by
  unfold xd_lstore at hs
  split at hs
  · exact xcn1 hs ⟨rfl, rfl, rfl, rfl⟩
  · cases hs
theorem xfr_iinc {i : Nat} {v : Int} (hs : xd_iinc i v nx L st h o acc = some r) : XFr h r := by
  unfold xd_iinc at hs
  split at hs
  · exact xcn1 hs ⟨rfl, rfl, rfl, rfl⟩
  · cases hs
theorem xfr_iadd (hs : xd_iadd nx L st h o acc = some r) : XFr h r := by
  unfold xd_iadd at hs
  split at hs
  · exact xcn1 hs ⟨rfl, rfl, rfl, rfl⟩
  · cases hs
theorem xfr_isub (hs : xd_isub nx L st h o acc = some r) : XFr h r := by
  unfold xd_isub at hs
  split at hs
  · exact xcn1 hs ⟨rfl, rfl, rfl, rfl⟩
  · cases hs
theorem xfr_imul (hs : xd_imul nx L st h o acc = some r) : XFr h r := by
  unfold xd_imul at hs
  split at hs
  · exact xcn1 hs ⟨rfl, rfl, rfl, rfl⟩
  · cases hs
theorem xfr_iand (hs : xd_iand nx L st h o acc = some r) : XFr h r := by
  unfold xd_iand at hs
  split at hs
  · exact xcn1 hs ⟨rfl, rfl, rfl, rfl⟩
  · cases hs
theorem xfr_ior (hs : xd_ior nx L st h o acc = some r) : XFr h r := by
  unfold xd_ior at hs
  split at hs
  · exact xcn1 hs ⟨rfl, rfl, rfl, rfl⟩
  · cases hs
theorem xfr_ixor (hs : xd_ixor nx L st h o acc = some r) : XFr h r := by
  unfold xd_ixor at hs
  split at hs
  · exact xcn1 hs ⟨rfl, rfl, rfl, rfl⟩
  · cases hs
theorem xfr_ishl (hs : xd_ishl nx L st h o acc = some r) : XFr h r := by
  unfold xd_ishl at hs
  split at hs
  · exact xcn1 hs ⟨rfl, rfl, rfl, rfl⟩
  · cases hs
theorem xfr_ishr (hs : xd_ishr nx L st h o acc = some r) : XFr h r := by
  unfold xd_ishr at hs
  split at hs
  · exact xcn1 hs ⟨rfl, rfl, rfl, rfl⟩
  · cases hs
theorem xfr_iushr (hs : xd_iushr nx L st h o acc = some r) : XFr h r := by
  unfold xd_iushr at hs
  split at hs
  · exact xcn1 hs ⟨rfl, rfl, rfl, rfl⟩
  · cases hs
theorem xfr_ladd (hs : xd_ladd nx L st h o acc = some r) : XFr h r := by
  unfold xd_ladd at hs
  split at hs
  · exact xcn1 hs ⟨rfl, rfl, rfl, rfl⟩
  · cases hs
theorem xfr_lsub (hs : xd_lsub nx L st h o acc = some r) : XFr h r := by
  unfold xd_lsub at hs
  split at hs
  · exact xcn1 hs ⟨rfl, rfl, rfl, rfl⟩
  · cases hs
theorem xfr_lmul (hs : xd_lmul nx L st h o acc = some r) : XFr h r := by
  unfold xd_lmul at hs
  split at hs
  · exact xcn1 hs ⟨rfl, rfl, rfl, rfl⟩
  · cases hs
theorem xfr_land (hs : xd_land nx L st h o acc = some r) : XFr h r := by
  unfold xd_land at hs
  split at hs
  · exact xcn1 hs ⟨rfl, rfl, rfl, rfl⟩
  · cases hs
theorem xfr_lxor (hs : xd_lxor nx L st h o acc = some r) : XFr h r := by
  unfold xd_lxor at hs
  split at hs
  · exact xcn1 hs ⟨rfl, rfl, rfl, rfl⟩
  · cases hs
theorem xfr_lcmp (hs : xd_lcmp nx L st h o acc = some r) : XFr h r := by
  unfold xd_lcmp at hs
  split at hs
  · exact xcn1 hs ⟨rfl, rfl, rfl, rfl⟩
  · cases hs
theorem xfr_ineg (hs : xd_ineg nx L st h o acc = some r) : XFr h r := by
  unfold xd_ineg at hs
  split at hs
  · exact xcn1 hs ⟨rfl, rfl, rfl, rfl⟩
  · cases hs
theorem xfr_lneg (hs : xd_lneg nx L st h o acc = some r) : XFr h r := by
  unfold xd_lneg at hs
  split at hs
  · exact xcn1 hs ⟨rfl, rfl, rfl, rfl⟩
  · cases hs
theorem xfr_i2l (hs : xd_i2l nx L st h o acc = some r) : XFr h r := by
  unfold xd_i2l at hs
  split at hs
  · exact xcn1 hs ⟨rfl, rfl, rfl, rfl⟩
  · cases hs
theorem xfr_l2i (hs : xd_l2i nx L st h o acc = some r) : XFr h r := by
  unfold xd_l2i at hs
  split at hs
  · exact xcn1 hs ⟨rfl, rfl, rfl, rfl⟩
  · cases hs
theorem xfr_i2b (hs : xd_i2b nx L st h o acc = some r) : XFr h r := by
  unfold xd_i2b at hs
  split at hs
  · exact xcn1 hs ⟨rfl, rfl, rfl, rfl⟩
  · cases hs
theorem xfr_idiv (hs : xd_idiv nx L st h o acc = some r) : XFr h r := by
  unfold xd_idiv at hs
  split at hs
  · exact xcn1 hs ⟨rfl, rfl, rfl, rfl⟩
  · cases hs
theorem xfr_irem (hs : xd_irem nx L st h o acc = some r) : XFr h r := by
  unfold xd_irem at hs
  split at hs
  · exact xcn1 hs ⟨rfl, rfl, rfl, rfl⟩
  · cases hs
theorem xfr_ldiv (hs : xd_ldiv nx L st h o acc = some r) : XFr h r := by
  unfold xd_ldiv at hs
  split at hs
  · exact xcn1 hs ⟨rfl, rfl, rfl, rfl⟩
  · cases hs
theorem xfr_lrem (hs : xd_lrem nx L st h o acc = some r) : XFr h r := by
  unfold xd_lrem at hs
  split at hs
  · exact xcn1 hs ⟨rfl, rfl, rfl, rfl⟩
  · cases hs
theorem xfr_dup (hs : xd_dup nx L st h o acc = some r) : XFr h r := by
  unfold xd_dup at hs
  split at hs
  · exact xcn1 hs ⟨rfl, rfl, rfl, rfl⟩
  · exact xcn1 hs ⟨rfl, rfl, rfl, rfl⟩
  · cases hs
theorem xfr_dup2 (hs : xd_dup2 nx L st h o acc = some r) : XFr h r := by
  unfold xd_dup2 at hs
  split at hs
  · exact xcn1 hs ⟨rfl, rfl, rfl, rfl⟩
  · cases hs
theorem xfr_pop (hs : xd_pop nx L st h o acc = some r) : XFr h r := by
  unfold xd_pop at hs
  split at hs
  · exact xcn1 hs ⟨rfl, rfl, rfl, rfl⟩
  · exact xcn1 hs ⟨rfl, rfl, rfl, rfl⟩
  · cases hs
theorem xfr_if {cd : ClassFile.Cond} {v : Int} (hs : xd_if cd v nx L st h o acc = some r) : XFr h r := by
  unfold xd_if at hs
  split at hs
  · exact xif_fr hs
  · cases hs
theorem xfr_icmp {cd : ClassFile.Cond} {v : Int} (hs : xd_icmp cd v nx L st h o acc = some r) : XFr h r := by
  unfold xd_icmp at hs
  split at hs
  · exact xif_fr hs
  · cases hs
theorem xfr_tsw {d lw hi : Int} {ts : Array Int} (hs : xd_tsw d lw hi ts nx L st h o acc = some r) : XFr h r := by
  unfold xd_tsw at hs
  split at hs
  · exact xtsw_fr hs
  · cases hs
theorem xfr_lsw {d : Int} {ps : Array (Int × Int)} (hs : xd_lsw d ps nx L st h o acc = some r) : XFr h r := by
  unfold xd_lsw at hs
  split at hs
  · exact xlsw_fr hs
  · cases hs
theorem xfr_getI {k : Nat} (hs : xd_getI k aux nx L st h o acc = some r) : XFr h r := by
  unfold xd_getI at hs
  split at hs
  · exact xc hs ⟨rfl, rfl, rfl, rfl⟩ (fun hs => xcno hs)
  · cases hs
theorem xfr_getL {k : Nat} (hs : xd_getL k aux nx L st h o acc = some r) : XFr h r := by
  unfold xd_getL at hs
  split at hs
  · exact xc hs ⟨rfl, rfl, rfl, rfl⟩ (fun hs => xcno hs)
  · cases hs
theorem xfr_getR {k : Nat} (hs : xd_getR full k aux nx L st h o acc = some r) : XFr h r := by
  unfold xd_getR at hs
  split at hs
  · refine xcb hs (fun hs => xc hs ⟨rfl, rfl, rfl, rfl⟩ (fun hs => xcn1 hs ⟨rfl, rfl, rfl, rfl⟩)) (fun hs => xcno hs)
  · cases hs
theorem xfr_putL {k : Nat} (hs : xd_putL k aux nx L st h o acc = some r) : XFr h r := by
  unfold xd_putL at hs
  split at hs
  · exact xc hs ⟨rfl, rfl, rfl, rfl⟩ (fun hs => xcno hs)
  · cases hs
theorem xfr_iaload (hs : xd_iaload sc nx L st h o acc = some r) : XFr h r := by
  unfold xd_iaload at hs
  split at hs
  · refine xcb hs (fun hs => ?_) (fun hs => xc hs ⟨rfl, rfl, rfl, rfl⟩ (fun hs => xcno hs))
    split at hs
    · exact xcn1 hs ⟨rfl, rfl, rfl, rfl⟩
    · cases hs
  · cases hs
theorem xfr_baload (hs : xd_baload nx L st h o acc = some r) : XFr h r := by
  unfold xd_baload at hs
  split at hs
  · exact xc hs ⟨rfl, rfl, rfl, rfl⟩ (fun hs => xc hs ⟨rfl, rfl, rfl, rfl⟩ (fun hs => xcno hs))
  · cases hs
theorem xfr_laload (hs : xd_laload nx L st h o acc = some r) : XFr h r := by
  unfold xd_laload at hs
  split at hs
  · exact xc hs ⟨rfl, rfl, rfl, rfl⟩ (fun hs => xcno hs)
  · cases hs
theorem xfr_lastore (hs : xd_lastore nx L st h o acc = some r) : XFr h r := by
  unfold xd_lastore at hs
  split at hs
  · exact xc hs ⟨rfl, rfl, rfl, rfl⟩ (fun hs => xcno hs)
  · cases hs
theorem xfr_len (hs : xd_len sc nx L st h o acc = some r) : XFr h r := by
  unfold xd_len at hs
  split at hs
  · refine xcb hs (fun hs => ?_) (fun hs => xc hs ⟨rfl, rfl, rfl, rfl⟩ (fun hs => xc hs ⟨rfl, rfl, rfl, rfl⟩ (fun hs => xc hs ⟨rfl, rfl, rfl, rfl⟩ (fun hs => xcno hs))))
    split at hs
    · exact xcn1 hs ⟨rfl, rfl, rfl, rfl⟩
    · cases hs
  · cases hs
theorem xfr_obj (hs : xd_obj fr lo nx L st h o acc = some r) : XFr h r := by
  unfold xd_obj at hs
  split at hs
  · exact xc hs ⟨rfl, rfl, rfl, rfl⟩ (fun hs => xcno hs)
  · cases hs
theorem xfr_math {v : Nat} (hs : xd_math fr lo v nx L st h o acc = some r) : XFr h r := by
  unfold xd_math at hs
  split at hs
  · exact xc hs ⟨rfl, rfl, rfl, rfl⟩ (fun hs => xcno hs)
  · exact xc hs ⟨rfl, rfl, rfl, rfl⟩ (fun hs => xcno hs)
  · exact xc hs ⟨rfl, rfl, rfl, rfl⟩ (fun hs => xcno hs)
  · exact xc hs ⟨rfl, rfl, rfl, rfl⟩ (fun hs => xcno hs)
  · exact xc hs ⟨rfl, rfl, rfl, rfl⟩ (fun hs => xcno hs)
  · cases hs
/-- the frame of a step -/
def XFw (i : Instr) (st : List XV) (h : XH) (r : XP) : Prop := (∀ c k, ¬ xwr i st c k → xI r.2.2.2.1 c k = xI h c k) ∧ (∀ c k, ¬ xwrR i st c k → xR r.2.2.2.1 c k = xR h c k) ∧ xN r.2.2.2.1 = xN h ∧ xU r.2.2.2.1 = xU h
theorem XFr.w {i : Instr} (hf : XFr h r) : XFw i st h r := ⟨fun c k _ => by rw [hf.1], fun c k _ => by rw [hf.2.1], hf.2.2⟩
theorem xfw_putI {k : Nat} (hs : xd_putI k aux nx L st h o acc = some r) : XFw (.putfield k) st h r := by
  unfold xd_putI at hs
  split at hs
  · rename_i v kd e st0
    have key : ∀ (o' : List Nat) (acc' : Prop), XFw (.putfield k) (.inl (.inl v) :: .inr (kd, e) :: st0) h (nx, L, st0, xsetI h e k v, o', acc') := fun _ _ => ⟨fun c k' hn => yI_ne (eq_false hn), fun _ _ _ => rfl, rfl, rfl⟩
    exact xcb (P := fun r => XFw (.putfield k) (.inl (.inl v) :: .inr (kd, e) :: st0) h r) hs (fun hs => xc (P := fun r => XFw (.putfield k) (.inl (.inl v) :: .inr (kd, e) :: st0) h r) hs (key _ _) (fun hs => xcn1 (P := fun r => XFw (.putfield k) (.inl (.inl v) :: .inr (kd, e) :: st0) h r) hs (key _ _))) (fun hs => xcno hs)
  · cases hs
theorem xfw_putR {k : Nat} (hs : xd_putR k aux nx L st h o acc = some r) : XFw (.putstatic k) st h r := by
  unfold xd_putR at hs
  split at hs
  · rename_i kv v kd e st0
    exact xc (P := fun r => XFw (.putstatic k) (.inr (kv, v) :: .inr (kd, e) :: st0) h r) hs ⟨fun _ _ _ => rfl, fun c k' hn => yR_ne (eq_false hn), rfl, rfl⟩ (fun hs => xcno hs)
  · cases hs
theorem xfw_iastore (hs : xd_iastore nx L st h o acc = some r) : XFw .iastore st h r := by
  unfold xd_iastore at hs
  split at hs
  · rename_i v i kd e st0
    exact xc (P := fun r => XFw .iastore (.inl (.inl v) :: .inl (.inl i) :: .inr (kd, e) :: st0) h r) hs ⟨fun c k' hn => yI_c (eq_false hn), fun _ _ _ => rfl, rfl, rfl⟩ (fun hs => xcno hs)
  · cases hs
theorem xfw_bastore (hs : xd_bastore nx L st h o acc = some r) : XFw .bastore st h r := by
  unfold xd_bastore at hs
  split at hs
  · rename_i v i kd e st0
    have key : ∀ (z : Int32) (o' : List Nat) (acc' : Prop), XFw .bastore (.inl (.inl v) :: .inl (.inl i) :: .inr (kd, e) :: st0) h (nx, L, st0, xsetI h e i.toNatClampNeg z, o', acc') := fun _ _ _ => ⟨fun c k' hn => yI_c (eq_false hn), fun _ _ _ => rfl, rfl, rfl⟩
    exact xc (P := fun r => XFw .bastore (.inl (.inl v) :: .inl (.inl i) :: .inr (kd, e) :: st0) h r) hs (key _ _ _) (fun hs => xc (P := fun r => XFw .bastore (.inl (.inl v) :: .inl (.inl i) :: .inr (kd, e) :: st0) h r) hs (key _ _ _) (fun hs => xcno hs))
  · cases hs
theorem xfw_copy (hs : xd_copy fr lo nx L st h o acc = some r) : XFw .monitorexit st h r := by
  unfold xd_copy at hs
  split at hs
  · rename_i k dp k1 e1 s0 k0 e0 st0
    exact xc (P := fun r => XFw .monitorexit (.inl (.inl k) :: .inl (.inl dp) :: .inr (k1, e1) :: .inl (.inl s0) :: .inr (k0, e0) :: st0) h r) hs ⟨fun c k' hn => yI_row (eq_false hn), fun _ _ _ => rfl, rfl, rfl⟩ (fun hs => xcno hs)
  · cases hs
theorem xstep_fr {i : Instr} (hnn : ∀ t, i ≠ .newarray t) (hnw : ∀ t, i ≠ .new t) (hs : xstep sc full fr lo i aux nx L st h o acc = some r) : XFw i st h r := by
  unfold xstep at hs
  split at hs
  · exact (show XFr h r from xcn1 hs ⟨rfl, rfl, rfl, rfl⟩).w
  · exact (show XFr h r from xcn1 hs ⟨rfl, rfl, rfl, rfl⟩).w
  · exact (show XFr h r from xcn1 hs ⟨rfl, rfl, rfl, rfl⟩).w
  · exact (xfr_iload hs).w
  · exact (xfr_lload hs).w
  · exact (xfr_aload hs).w
  · exact (xfr_istore hs).w
  · exact (xfr_lstore hs).w
  · exact (xfr_astore hs).w
  · exact (xfr_iinc hs).w
  · exact (xfr_iadd hs).w
  · exact (xfr_isub hs).w
  · exact (xfr_imul hs).w
  · exact (xfr_iand hs).w
  · exact (xfr_ior hs).w
  · exact (xfr_ixor hs).w
  · exact (xfr_ishl hs).w
  · exact (xfr_ishr hs).w
  · exact (xfr_iushr hs).w
  · exact (xfr_ladd hs).w
  · exact (xfr_lsub hs).w
  · exact (xfr_lmul hs).w
  · exact (xfr_land hs).w
  · exact (xfr_lxor hs).w
  · exact (xfr_idiv hs).w
  · exact (xfr_irem hs).w
  · exact (xfr_ldiv hs).w
  · exact (xfr_lrem hs).w
  · exact (xfr_ineg hs).w
  · exact (xfr_lneg hs).w
  · exact (xfr_lcmp hs).w
  · exact (xfr_i2l hs).w
  · exact (xfr_l2i hs).w
  · exact (xfr_i2b hs).w
  · exact (xfr_dup hs).w
  · exact (xfr_dup2 hs).w
  · exact (xfr_pop hs).w
  · exact (xfr_if hs).w
  · exact (xfr_icmp hs).w
  · exact (xfr_tsw hs).w
  · exact (xfr_lsw hs).w
  · exact (xfr_getI hs).w
  · exact (xfr_getL hs).w
  · exact (xfr_getR hs).w
  · exact xfw_putI hs
  · exact (xfr_putL hs).w
  · exact xfw_putR hs
  · exact (xfr_iaload hs).w
  · exact (xfr_baload hs).w
  · exact (xfr_laload hs).w
  · exact xfw_iastore hs
  · exact xfw_bastore hs
  · exact (xfr_lastore hs).w
  · exact (xfr_len hs).w
  · exact absurd rfl (hnn _)
  · exact absurd rfl (hnw _)
  · exact (xfr_obj hs).w
  · exact xfw_copy hs
  · exact (xfr_math hs).w
  · cases hs
end XFrame
