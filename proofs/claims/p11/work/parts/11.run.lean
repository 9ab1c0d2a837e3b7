/-! PATHS: what a step keeps; what a step does; calls; a path does what the interpreter says. -/
/-- cells stay: a heap that has grown -/
def XM (h h' : XH) : Prop := xN h ≤ xN h' ∧ xU h ≤ xU h' ∧ ∀ k e, xok h k e → xok h' k e
theorem XM.rf {h : XH} : XM h h := ⟨Nat.le_refl _, Nat.le_refl _, fun _ _ z => z⟩
theorem XM.tr {a b c : XH} (h1 : XM a b) (h2 : XM b c) : XM a c := ⟨Nat.le_trans h1.1 h2.1, Nat.le_trans h1.2.1 h2.2.1, fun k e z => h2.2.2 k e (h1.2.2 k e z)⟩
theorem XM.all {h : XH} {kd n : Nat} : XM h (xall h kd n) := ⟨Nat.le_succ _, Nat.le_add_right _ _, xok_all⟩
/-- what a step keeps: the locals' number, the cells, what was met -/
def XKp (L : List XV) (h : XH) (acc : Prop) (r : XP) : Prop := r.2.1.length = L.length ∧ XM h r.2.2.2.1 ∧ (r.2.2.2.2.2 → acc)
theorem xc {P : XP → Prop} {d : Bool} {x r : XP} {y : Option XP} (h : (bif d then some x else y) = some r) (hx : P x) (hy : y = some r → P r) : P r := by
  cases d with
  | true => exact Option.some.inj h ▸ hx
  | false => exact hy h
theorem xc2 {P : XP → Prop} {d : Bool} {x r : XP} (h : (bif d then none else some x) = some r) (hx : P x) : P r := by
  cases d with
  | true => cases h
  | false => exact Option.some.inj h ▸ hx
theorem xcb {P : XP → Prop} {d : Bool} {r : XP} {x y : Option XP} (h : (bif d then x else y) = some r) (hx : x = some r → P r) (hy : y = some r → P r) : P r := by
  cases d with
  | true => exact hx h
  | false => exact hy h
theorem xcn1 {P : XP → Prop} {x r : XP} (h : some x = some r) (hx : P x) : P r := Option.some.inj h ▸ hx
theorem xcno {P : Prop} {r : XP} (h : (none : Option XP) = some r) : P := by cases h
section XKeep
variable {M pc aux nx fr lo : Nat} {sc : XSc} {full : Bool} {L st : List XV} {h : XH} {o : List Nat} {acc : Prop} {r : XP}
theorem xjmp_kp {cc : Prop} {t : Int} (hs : xjmp cc t nx L st h o acc = some r) : XKp L h acc r := by
  unfold xjmp at hs
  split at hs
  · exact xc hs ⟨rfl, XM.rf, fun z => z.1⟩ (fun hs => xcn1 hs ⟨rfl, XM.rf, fun z => z.1⟩)
  · cases hs
theorem xjmn_kp {cc : Prop} {t : Int} (hs : xjmn cc t nx L st h o acc = some r) : XKp L h acc r := by
  unfold xjmn at hs
  split at hs
  · exact xc hs ⟨rfl, XM.rf, fun z => z.1⟩ (fun hs => xcn1 hs ⟨rfl, XM.rf, fun z => z.1⟩)
  · cases hs
theorem xif_kp {cd : ClassFile.Cond} {a b : Int32} {t : Int} (hs : xif cd a b t nx L st h o acc = some r) : XKp L h acc r := by
  unfold xif at hs
  cases cd with
  | ne => exact xjmn_kp hs
  | _ => exact xjmp_kp hs
theorem xtsw_kp {d lw hi : Int} {ts : List Int} {a : Int32} (hs : xtsw d lw hi ts a L st h o acc = some r) : XKp L h acc r := by
  unfold xtsw at hs
  split at hs
  · exact xcn1 hs ⟨rfl, XM.rf, fun z => z.1⟩
  · split at hs
    · exact xcn1 hs ⟨rfl, XM.rf, fun z => z.1⟩
    · cases hs
  · cases hs
theorem xlsw_kp {d : Int} {ps : List (Int × Int)} {a : Int32} (hs : xlsw d ps a L st h o acc = some r) : XKp L h acc r := by
  unfold xlsw at hs
  split at hs
  · exact xcn1 hs ⟨rfl, XM.rf, fun z => z.1⟩
  · split at hs
    · exact xcn1 hs ⟨rfl, XM.rf, fun z => z.1⟩
    · cases hs
  · cases hs

theorem xkp_iload {i : Nat} (hs : xd_iload i nx L st h o acc = some r) : XKp L h acc r := by
  unfold xd_iload at hs
  split at hs
  · exact xcn1 hs ⟨rfl, XM.rf, fun z => z⟩
  · cases hs
theorem xkp_lload {i : Nat} (hs : xd_lload i nx L st h o acc = some r) : XKp L h acc r := by
  unfold xd_lload at hs
  split at hs
  · exact xcn1 hs ⟨rfl, XM.rf, fun z => z⟩
  · cases hs
theorem xkp_aload {i : Nat} (hs : xd_aload i nx L st h o acc = some r) : XKp L h acc r := by
  unfold xd_aload at hs
  split at hs
  · exact xc2 hs ⟨rfl, XM.rf, fun z => z⟩
  · cases hs
theorem xkp_istore {i : Nat} (hs : xd_istore i nx L st h o acc = some r) : XKp L h acc r := by
  unfold xd_istore at hs
  split at hs
  · exact xcn1 hs ⟨xst_len _ _ _, XM.rf, fun z => z⟩
  · cases hs
theorem xkp_astore {i : Nat} (hs : xd_astore i nx L st h o acc = some r) : XKp L h acc r := by
  unfold xd_astore at hs
  split at hs
  · exact xcn1 hs ⟨xst_len _ _ _, XM.rf, fun z => z⟩
  · cases hs
theorem xkp_lstore {i : Nat} (hs : xd_lstore i nx L st h o acc = some r) : XKp L h acc r := by
  unfold xd_lstore at hs
  split at hs
  · exact xcn1 hs ⟨(xset_len _ _ _).trans (xst_len _ _ _), XM.rf, fun z => z⟩
  · cases hs
theorem xkp_iinc {i : Nat} {v : Int} (hs : xd_iinc i v nx L st h o acc = some r) : XKp L h acc r := by
  unfold xd_iinc at hs
  split at hs
  · exact xcn1 hs ⟨xst_len _ _ _, XM.rf, fun z => z⟩
  · cases hs
theorem xkp_iadd (hs : xd_iadd nx L st h o acc = some r) : XKp L h acc r := by
  unfold xd_iadd at hs
  split at hs
  · exact xcn1 hs ⟨rfl, XM.rf, fun z => z⟩
  · cases hs
theorem xkp_isub (hs : xd_isub nx L st h o acc = some r) : XKp L h acc r := by
  unfold xd_isub at hs
  split at hs
  · exact xcn1 hs ⟨rfl, XM.rf, fun z => z⟩
  · cases hs
theorem xkp_imul (hs : xd_imul nx L st h o acc = some r) : XKp L h acc r := by
  unfold xd_imul at hs
  split at hs
  · exact xcn1 hs ⟨rfl, XM.rf, fun z => z⟩
  · cases hs
theorem xkp_iand (hs : xd_iand nx L st h o acc = some r) : XKp L h acc r := by
  unfold xd_iand at hs
  split at hs
  · exact xcn1 hs ⟨rfl, XM.rf, fun z => z⟩
  · cases hs
theorem xkp_ior (hs : xd_ior nx L st h o acc = some r) : XKp L h acc r := by
  unfold xd_ior at hs
  split at hs
  · exact xcn1 hs ⟨rfl, XM.rf, fun z => z⟩
  · cases hs
theorem xkp_ixor (hs : xd_ixor nx L st h o acc = some r) : XKp L h acc r := by
  unfold xd_ixor at hs
  split at hs
  · exact xcn1 hs ⟨rfl, XM.rf, fun z => z⟩
  · cases hs
theorem xkp_ishl (hs : xd_ishl nx L st h o acc = some r) : XKp L h acc r := by
  unfold xd_ishl at hs
  split at hs
  · exact xcn1 hs ⟨rfl, XM.rf, fun z => z⟩
  · cases hs
theorem xkp_ishr (hs : xd_ishr nx L st h o acc = some r) : XKp L h acc r := by
  unfold xd_ishr at hs
  split at hs
  · exact xcn1 hs ⟨rfl, XM.rf, fun z => z⟩
  · cases hs
theorem xkp_iushr (hs : xd_iushr nx L st h o acc = some r) : XKp L h acc r := by
  unfold xd_iushr at hs
  split at hs
  · exact xcn1 hs ⟨rfl, XM.rf, fun z => z⟩
  · cases hs
theorem xkp_ladd (hs : xd_ladd nx L st h o acc = some r) : XKp L h acc r := by
  unfold xd_ladd at hs
  split at hs
  · exact xcn1 hs ⟨rfl, XM.rf, fun z => z⟩
  · cases hs
theorem xkp_lsub (hs : xd_lsub nx L st h o acc = some r) : XKp L h acc r := by
  unfold xd_lsub at hs
  split at hs
  · exact xcn1 hs ⟨rfl, XM.rf, fun z => z⟩
  · cases hs
theorem xkp_lmul (hs : xd_lmul nx L st h o acc = some r) : XKp L h acc r := by
  unfold xd_lmul at hs
  split at hs
  · exact xcn1 hs ⟨rfl, XM.rf, fun z => z⟩
  · cases hs
theorem xkp_land (hs : xd_land nx L st h o acc = some r) : XKp L h acc r := by
  unfold xd_land at hs
  split at hs
  · exact xcn1 hs ⟨rfl, XM.rf, fun z => z⟩
  · cases hs
theorem xkp_lxor (hs : xd_lxor nx L st h o acc = some r) : XKp L h acc r := by
  unfold xd_lxor at hs
  split at hs
  · exact xcn1 hs ⟨rfl, XM.rf, fun z => z⟩
  · cases hs
theorem xkp_lcmp (hs : xd_lcmp nx L st h o acc = some r) : XKp L h acc r := by
  unfold xd_lcmp at hs
  split at hs
  · exact xcn1 hs ⟨rfl, XM.rf, fun z => z⟩
  · cases hs
theorem xkp_ineg (hs : xd_ineg nx L st h o acc = some r) : XKp L h acc r := by
  unfold xd_ineg at hs
  split at hs
  · exact xcn1 hs ⟨rfl, XM.rf, fun z => z⟩
  · cases hs
theorem xkp_lneg (hs : xd_lneg nx L st h o acc = some r) : XKp L h acc r := by
  unfold xd_lneg at hs
  split at hs
  · exact xcn1 hs ⟨rfl, XM.rf, fun z => z⟩
  · cases hs
theorem xkp_i2l (hs : xd_i2l nx L st h o acc = some r) : XKp L h acc r := by
  unfold xd_i2l at hs
  split at hs
  · exact xcn1 hs ⟨rfl, XM.rf, fun z => z⟩
  · cases hs
theorem xkp_l2i (hs : xd_l2i nx L st h o acc = some r) : XKp L h acc r := by
  unfold xd_l2i at hs
  split at hs
  · exact xcn1 hs ⟨rfl, XM.rf, fun z => z⟩
  · cases hs
theorem xkp_i2b (hs : xd_i2b nx L st h o acc = some r) : XKp L h acc r := by
  unfold xd_i2b at hs
  split at hs
  · exact xcn1 hs ⟨rfl, XM.rf, fun z => z⟩
  · cases hs
theorem xkp_idiv (hs : xd_idiv nx L st h o acc = some r) : XKp L h acc r := by
  unfold xd_idiv at hs
  split at hs
  · exact xcn1 hs ⟨rfl, XM.rf, fun z => z.1⟩
  · cases hs
theorem xkp_irem (hs : xd_irem nx L st h o acc = some r) : XKp L h acc r := by
  unfold xd_irem at hs
  split at hs
  · exact xcn1 hs ⟨rfl, XM.rf, fun z => z.1⟩
  · cases hs
theorem xkp_ldiv (hs : xd_ldiv nx L st h o acc = some r) : XKp L h acc r := by
  unfold xd_ldiv at hs
  split at hs
  · exact xcn1 hs ⟨rfl, XM.rf, fun z => z.1⟩
  · cases hs
theorem xkp_lrem (hs : xd_lrem nx L st h o acc = some r) : XKp L h acc r := by
  unfold xd_lrem at hs
  split at hs
  · exact xcn1 hs ⟨rfl, XM.rf, fun z => z.1⟩
  · cases hs
theorem xkp_dup (hs : xd_dup nx L st h o acc = some r) : XKp L h acc r := by
  unfold xd_dup at hs
  split at hs
  · exact xcn1 hs ⟨rfl, XM.rf, fun z => z⟩
  · exact xcn1 hs ⟨rfl, XM.rf, fun z => z⟩
  · cases hs
theorem xkp_dup2 (hs : xd_dup2 nx L st h o acc = some r) : XKp L h acc r := by
  unfold xd_dup2 at hs
  split at hs
  · exact xcn1 hs ⟨rfl, XM.rf, fun z => z⟩
  · cases hs
theorem xkp_pop (hs : xd_pop nx L st h o acc = some r) : XKp L h acc r := by
  unfold xd_pop at hs
  split at hs
  · exact xcn1 hs ⟨rfl, XM.rf, fun z => z⟩
  · exact xcn1 hs ⟨rfl, XM.rf, fun z => z⟩
  · cases hs
theorem xkp_if {cd : ClassFile.Cond} {v : Int} (hs : xd_if cd v nx L st h o acc = some r) : XKp L h acc r := by
  unfold xd_if at hs
  split at hs
  · exact xif_kp hs
  · cases hs
theorem xkp_icmp {cd : ClassFile.Cond} {v : Int} (hs : xd_icmp cd v nx L st h o acc = some r) : XKp L h acc r := by
  unfold xd_icmp at hs
  split at hs
  · exact xif_kp hs
  · cases hs
theorem xkp_tsw {d lw hi : Int} {ts : Array Int} (hs : xd_tsw d lw hi ts nx L st h o acc = some r) : XKp L h acc r := by
  unfold xd_tsw at hs
  split at hs
  · exact xtsw_kp hs
  · cases hs
theorem xkp_lsw {d : Int} {ps : Array (Int × Int)} (hs : xd_lsw d ps nx L st h o acc = some r) : XKp L h acc r := by
  unfold xd_lsw at hs
  split at hs
  · exact xlsw_kp hs
  · cases hs
theorem xkp_getI {k : Nat} (hs : xd_getI k aux nx L st h o acc = some r) : XKp L h acc r := by
  unfold xd_getI at hs
  split at hs
  · exact xc hs ⟨rfl, XM.rf, fun z => z⟩ (fun hs => xcno hs)
  · cases hs
theorem xkp_getL {k : Nat} (hs : xd_getL k aux nx L st h o acc = some r) : XKp L h acc r := by
  unfold xd_getL at hs
  split at hs
  · exact xc hs ⟨rfl, XM.rf, fun z => z⟩ (fun hs => xcno hs)
  · cases hs
theorem xkp_getR {k : Nat} (hs : xd_getR full k aux nx L st h o acc = some r) : XKp L h acc r := by
  unfold xd_getR at hs
  split at hs
  · refine xcb hs (fun hs => xc hs ⟨rfl, XM.rf, fun z => z⟩ (fun hs => xcn1 hs ⟨rfl, XM.rf, fun z => z.1⟩)) (fun hs => xcno hs)
  · cases hs
theorem xkp_putI {k : Nat} (hs : xd_putI k aux nx L st h o acc = some r) : XKp L h acc r := by
  unfold xd_putI at hs
  split at hs
  · refine xcb hs (fun hs => xc hs ⟨rfl, ⟨Nat.le_refl _, Nat.le_refl _, fun _ _ z => z⟩, fun z => z.1⟩ (fun hs => xcn1 hs ⟨rfl, ⟨Nat.le_refl _, Nat.le_refl _, fun _ _ z => z⟩, fun z => z⟩)) (fun hs => xcno hs)
  · cases hs
theorem xkp_putL {k : Nat} (hs : xd_putL k aux nx L st h o acc = some r) : XKp L h acc r := by
  unfold xd_putL at hs
  split at hs
  · exact xc hs ⟨rfl, ⟨Nat.le_refl _, Nat.le_refl _, fun _ _ z => z⟩, fun z => z⟩ (fun hs => xcno hs)
  · cases hs
theorem xkp_putR {k : Nat} (hs : xd_putR k aux nx L st h o acc = some r) : XKp L h acc r := by
  unfold xd_putR at hs
  split at hs
  · exact xc hs ⟨rfl, ⟨Nat.le_refl _, Nat.le_refl _, fun _ _ z => z⟩, fun z => z⟩ (fun hs => xcno hs)
  · cases hs
theorem xkp_iaload (hs : xd_iaload sc nx L st h o acc = some r) : XKp L h acc r := by
  unfold xd_iaload at hs
  split at hs
  · refine xcb hs (fun hs => ?_) (fun hs => xc hs ⟨rfl, XM.rf, fun z => z.1⟩ (fun hs => xcno hs))
    split at hs
    · exact xcn1 hs ⟨rfl, XM.rf, fun z => z.1⟩
    · cases hs
  · cases hs
theorem xkp_baload (hs : xd_baload nx L st h o acc = some r) : XKp L h acc r := by
  unfold xd_baload at hs
  split at hs
  · exact xc hs ⟨rfl, XM.rf, fun z => z.1⟩ (fun hs => xc hs ⟨rfl, XM.rf, fun z => z.1⟩ (fun hs => xcno hs))
  · cases hs
theorem xkp_laload (hs : xd_laload nx L st h o acc = some r) : XKp L h acc r := by
  unfold xd_laload at hs
  split at hs
  · exact xc hs ⟨rfl, XM.rf, fun z => z.1⟩ (fun hs => xcno hs)
  · cases hs
theorem xkp_iastore (hs : xd_iastore nx L st h o acc = some r) : XKp L h acc r := by
  unfold xd_iastore at hs
  split at hs
  · exact xc hs ⟨rfl, ⟨Nat.le_refl _, Nat.le_refl _, fun _ _ z => z⟩, fun z => z.1⟩ (fun hs => xcno hs)
  · cases hs
theorem xkp_bastore (hs : xd_bastore nx L st h o acc = some r) : XKp L h acc r := by
  unfold xd_bastore at hs
  split at hs
  · exact xc hs ⟨rfl, ⟨Nat.le_refl _, Nat.le_refl _, fun _ _ z => z⟩, fun z => z.1⟩ (fun hs => xc hs ⟨rfl, ⟨Nat.le_refl _, Nat.le_refl _, fun _ _ z => z⟩, fun z => z.1⟩ (fun hs => xcno hs))
  · cases hs
theorem xkp_lastore (hs : xd_lastore nx L st h o acc = some r) : XKp L h acc r := by
  unfold xd_lastore at hs
  split at hs
  · exact xc hs ⟨rfl, ⟨Nat.le_refl _, Nat.le_refl _, fun _ _ z => z⟩, fun z => z.1⟩ (fun hs => xcno hs)
  · cases hs
theorem xkp_len (hs : xd_len sc nx L st h o acc = some r) : XKp L h acc r := by
  unfold xd_len at hs
  split at hs
  · refine xcb hs (fun hs => ?_) (fun hs => xc hs ⟨rfl, XM.rf, fun z => z⟩ (fun hs => xc hs ⟨rfl, XM.rf, fun z => z⟩ (fun hs => xc hs ⟨rfl, XM.rf, fun z => z⟩ (fun hs => xcno hs))))
    split at hs
    · exact xcn1 hs ⟨rfl, XM.rf, fun z => z⟩
    · cases hs
  · cases hs
theorem xkp_newa {v : ArrayType} (hs : xd_newa v aux nx L st h o acc = some r) : XKp L h acc r := by
  unfold xd_newa at hs
  split at hs
  · exact xc2 hs ⟨rfl, XM.all, fun z => z.1⟩
  · cases hs
theorem xkp_new {v : Nat} (hs : xd_new v nx L st h o acc = some r) : XKp L h acc r := by
  unfold xd_new at hs
  exact xcn1 hs ⟨rfl, XM.all, fun z => z⟩
theorem xkp_obj (hs : xd_obj fr lo nx L st h o acc = some r) : XKp L h acc r := by
  unfold xd_obj at hs
  split at hs
  · exact xc hs ⟨rfl, XM.rf, fun z => z⟩ (fun hs => xcno hs)
  · cases hs
theorem xkp_copy (hs : xd_copy fr lo nx L st h o acc = some r) : XKp L h acc r := by
  unfold xd_copy at hs
  split at hs
  · exact xc hs ⟨rfl, ⟨Nat.le_refl _, Nat.le_refl _, fun _ _ z => z⟩, fun z => z.1⟩ (fun hs => xcno hs)
  · cases hs
theorem xkp_math {v : Nat} (hs : xd_math fr lo v nx L st h o acc = some r) : XKp L h acc r := by
  unfold xd_math at hs
  split at hs
  · exact xc hs ⟨rfl, XM.rf, fun z => z⟩ (fun hs => xcno hs)
  · exact xc hs ⟨rfl, XM.rf, fun z => z⟩ (fun hs => xcno hs)
  · exact xc hs ⟨rfl, XM.rf, fun z => z⟩ (fun hs => xcno hs)
  · exact xc hs ⟨rfl, XM.rf, fun z => z⟩ (fun hs => xcno hs)
  · exact xc hs ⟨rfl, XM.rf, fun z => z⟩ (fun hs => xcno hs)
  · cases hs
theorem xstep_kp {i : Instr} (hs : xstep sc full fr lo i aux nx L st h o acc = some r) : XKp L h acc r := by
  unfold xstep at hs
  split at hs
  · exact xcn1 hs ⟨rfl, XM.rf, fun z => z⟩
  · exact xcn1 hs ⟨rfl, XM.rf, fun z => z⟩
  · exact xcn1 hs ⟨rfl, XM.rf, fun z => z⟩
  · exact xkp_iload hs
  · exact xkp_lload hs
  · exact xkp_aload hs
  · exact xkp_istore hs
  · exact xkp_lstore hs
  · exact xkp_astore hs
  · exact xkp_iinc hs
  · exact xkp_iadd hs
  · exact xkp_isub hs
  · exact xkp_imul hs
  · exact xkp_iand hs
  · exact xkp_ior hs
  · exact xkp_ixor hs
  · exact xkp_ishl hs
  · exact xkp_ishr hs
  · exact xkp_iushr hs
  · exact xkp_ladd hs
  · exact xkp_lsub hs
  · exact xkp_lmul hs
  · exact xkp_land hs
  · exact xkp_lxor hs
  · exact xkp_idiv hs
  · exact xkp_irem hs
  · exact xkp_ldiv hs
  · exact xkp_lrem hs
  · exact xkp_ineg hs
  · exact xkp_lneg hs
  · exact xkp_lcmp hs
  · exact xkp_i2l hs
  · exact xkp_l2i hs
  · exact xkp_i2b hs
  · exact xkp_dup hs
  · exact xkp_dup2 hs
  · exact xkp_pop hs
  · exact xkp_if hs
  · exact xkp_icmp hs
  · exact xkp_tsw hs
  · exact xkp_lsw hs
  · exact xkp_getI hs
  · exact xkp_getL hs
  · exact xkp_getR hs
  · exact xkp_putI hs
  · exact xkp_putL hs
  · exact xkp_putR hs
  · exact xkp_iaload hs
  · exact xkp_baload hs
  · exact xkp_laload hs
  · exact xkp_iastore hs
  · exact xkp_bastore hs
  · exact xkp_lastore hs
  · exact xkp_len hs
  · exact xkp_newa hs
  · cases full with
    | true => cases hs
    | false => exact xkp_new hs
  · exact xkp_obj hs
  · exact xkp_copy hs
  · exact xkp_math hs
  · cases hs
end XKeep
section XStep
variable {p : Program} {l : Launch} {e : Env} {R : Room} {s : State} {m : MethodId} {args : Array Value} {below : List Frame} {meth : Method} {c : Code} {Q : State → Prop}
variable {D : va_G} {cA : Nat → ClassId} {base b Ls : Nat} {xs : Nat → Int32} {full : Bool} {ads0 : List Nat} {gz : Nat × Nat} {u0 N U fr lo M pc aux nx : Nat} {L st : List XV} {h : XH} {o : List Nat} {acc : Prop} {r : XP} {sc : XSc}

theorem xstep_ok {i : Instr} (hsc : sc = none ∨ sc = some (Ls, xs)) (C : XC M N U Ls fr lo p l e R s m args below meth c D cA base b xs ads0 u0 gz) (hi : xins M pc = some (i, aux, nx)) (hL : L.length = xmx M) (hs : xstep sc full fr lo i aux nx L st h o acc = some r) (hN : xN r.2.2.2.1 ≤ N ∧ xU r.2.2.2.1 ≤ U) (ha : r.2.2.2.2.2) (k : WX p l e R s m args below meth c Q D cA base b Ls xs full ads0 u0 gz r.1 r.2.1 r.2.2.1 r.2.2.2.1) : WX p l e R s m args below meth c Q D cA base b Ls xs full ads0 u0 gz pc L st h := by
  unfold xstep at hs
  split at hs
  · obtain rfl := Option.some.inj hs
    exact xo_iconst C hi k
  · obtain rfl := Option.some.inj hs
    exact xo_lconst C hi k
  · obtain rfl := Option.some.inj hs
    exact xo_goto C hi k
  · exact (xo_iload C hi hs ha k).2
  · exact (xo_lload C hi hs ha k).2
  · exact (xo_aload C hi hs ha k).2
  · exact (xo_istore hL C hi hs ha k).2
  · exact (xo_lstore hL C hi hs ha k).2
  · exact (xo_astore hL C hi hs ha k).2
  · exact (xo_iinc C hi hs ha k).2
  · exact (xo_iadd C hi hs ha k).2
  · exact (xo_isub C hi hs ha k).2
  · exact (xo_imul C hi hs ha k).2
  · exact (xo_iand C hi hs ha k).2
  · exact (xo_ior C hi hs ha k).2
  · exact (xo_ixor C hi hs ha k).2
  · exact (xo_ishl C hi hs ha k).2
  · exact (xo_ishr C hi hs ha k).2
  · exact (xo_iushr C hi hs ha k).2
  · exact (xo_ladd C hi hs ha k).2
  · exact (xo_lsub C hi hs ha k).2
  · exact (xo_lmul C hi hs ha k).2
  · exact (xo_land C hi hs ha k).2
  · exact (xo_lxor C hi hs ha k).2
  · exact (xo_idiv C hi hs ha k).2
  · exact (xo_irem C hi hs ha k).2
  · exact (xo_ldiv C hi hs ha k).2
  · exact (xo_lrem C hi hs ha k).2
  · exact (xo_ineg C hi hs ha k).2
  · exact (xo_lneg C hi hs ha k).2
  · exact (xo_lcmp C hi hs ha k).2
  · exact (xo_i2l C hi hs ha k).2
  · exact (xo_l2i C hi hs ha k).2
  · exact (xo_i2b C hi hs ha k).2
  · exact (xo_dup C hi hs ha k).2
  · exact (xo_dup2 C hi hs ha k).2
  · exact (xo_pop C hi hs ha k).2
  · exact (xo_if C hi hs ha k).2
  · exact (xo_icmp C hi hs ha k).2
  · exact (xo_tsw C hi hs ha k).2
  · exact (xo_lsw C hi hs ha k).2
  · exact (xo_getI C hi hs ha k).2
  · exact (xo_getL C hi hs ha k).2
  · exact (xo_getR C hi hs ha k).2
  · exact (xo_putI C hi hs ha k).2
  · exact (xo_putL C hi hs ha k).2
  · exact (xo_putR C hi hs ha k).2
  · exact (xo_iaload hsc C hi hs ha k).2
  · exact (xo_baload C hi hs ha k).2
  · exact (xo_laload C hi hs ha k).2
  · exact (xo_iastore C hi hs ha k).2
  · exact (xo_bastore C hi hs ha k).2
  · exact (xo_lastore C hi hs ha k).2
  · exact (xo_len hsc C hi hs ha k).2
  · exact (xo_newa hN C hi hs ha k).2
  · cases full with
    | true => cases hs
    | false => exact (xo_new rfl hN C hi hs ha k).2
  · exact (xo_obj hL C hi hs ha k).2
  · exact (xo_copy hL C hi hs ha k).2
  · exact (xo_math hL C hi hs ha k).2
  · cases hs
end XStep
