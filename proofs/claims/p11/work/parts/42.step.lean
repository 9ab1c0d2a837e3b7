/-! SWITCHES BY KEYS; THE STEP, all instructions. -/
section SStep
variable {T : ST} {nn uu nx fr lo aux : Nat}
def slsw (Y : SY) (a : SE) (F : List Nat) (L st : List SV) (H : SH) : List (Int × Int) → List (Nat × SS)
  | [] => []
  | q :: l => (match srf Y a (q.1, q.1) with
    | some Y' => [(q.2.toNat, (Y', F, L, st, H))]
    | none => []) ++ slsw Y a F L st H l
theorem slsw_mem {ρ : Nat → Int} {Y : SY} {a : SE} {F : List Nat} {L st : List SV} {H : SH} (hY : syok ρ Y) : ∀ {l : List (Int × Int)} {d : Int}, (Op.lookupswitch.offset l d (sev ρ a) = d ∧ ∀ q ∈ l, q.1 ≠ sev ρ a) ∨ ∃ (k : Nat) (q : Int × Int), l[k]? = some q ∧ Op.lookupswitch.offset l d (sev ρ a) = q.2 ∧ ∃ Y', (q.2.toNat, (Y', F, L, st, H)) ∈ slsw Y a F L st H l ∧ syok ρ Y' ∧ Y'.length = Y.length
  | [], d => Or.inl ⟨rfl, fun q hq => absurd hq List.not_mem_nil⟩
  | (x, y) :: l, d => by
    by_cases hx : x = sev ρ a
    · obtain ⟨Y', e1, k1⟩ := srf_ok hY (e := a) (q := (x, x)) ⟨by show x ≤ _; omega, by show _ ≤ x; omega⟩
      refine Or.inr ⟨0, (x, y), rfl, by simp [Op.lookupswitch.offset, hx], Y', List.mem_append_left _ ?_, k1, srf_len e1⟩
      rw [e1]
      exact List.mem_singleton.mpr rfl
    · have hx' : ¬ sev ρ a = x := fun z => hx z.symm
      have e : Op.lookupswitch.offset ((x, y) :: l) d (sev ρ a) = Op.lookupswitch.offset l d (sev ρ a) := by simp [Op.lookupswitch.offset, hx, hx']
      rw [e]
      rcases slsw_mem (a := a) (F := F) (L := L) (st := st) (H := H) hY (l := l) (d := d) with h | ⟨k, q, h1, h2, Y', h3, h4⟩
      · refine Or.inl ⟨h.1, fun q hq => ?_⟩
        rcases List.mem_cons.mp hq with rfl | hq
        · exact hx
        · exact h.2 q hq
      · exact Or.inr ⟨k + 1, q, h1, h2, Y', List.mem_append_right _ h3, h4⟩
def sd_lsw (d : Int) (ps : Array (Int × Int)) : SD
  | (Y, F, L, .inl (.inl a) :: st, H) => some ((bif ps.toList.any (fun q => swi Y a (q.1, q.1)) then [] else [(d.toNat, (Y, F, L, st, H))]) ++ slsw Y a F L st H ps.toList)
  | _ => none
theorem so_lsw {d : Int} {ps : Array (Int × Int)} : sgo T nn uu (sd_lsw d ps) (xd_lsw d ps nx) := by
  intro ρ τ A L st h S hs hd
  match A, hs, hd with
  | (Y, F, LA, .inl (.inl a) :: sA, H), hs, hd =>
    obtain rfl := Option.some.inj hd
    obtain ⟨s1, rfl, oa, h1⟩ := sst_pop hs
    have ea := i32r_to oa.2
    rcases slsw_mem (a := a) (F := F) (L := LA) (st := sA) (H := H) h1.1 (l := ps.toList) (d := d) with hd | ⟨k, q, g1, g2, Y', g3, g4, g5⟩
    · refine ⟨[0], (d.toNat, L, s1, h, [], True ∧ Op.lookupswitch.offset ps.toList d (Int32.ofInt (sev ρ a)).toInt = d), rfl, ⟨trivial, by rw [ea]; exact hd.1⟩, (d.toNat, (Y, F, LA, sA, H)), List.mem_append_left _ (by
        cases hw : ps.toList.any (fun q => swi Y a (q.1, q.1)) with
        | true =>
          obtain ⟨q, hq, hz⟩ := List.any_eq_true.mp hw
          have hz := swi_ok h1.1 oa.1 hz
          have h3 : q.1 ≤ sev ρ a := hz.1
          have h4 : sev ρ a ≤ q.1 := hz.2
          exact absurd (by omega) (hd.2 q hq)
        | false => exact List.mem_singleton.mpr rfl), rfl, ρ, τ, fun _ _ => rfl, fun _ _ => rfl, Nat.le_refl _, h1⟩
    · refine ⟨[k + 1], (q.2.toNat, L, s1, h, [], True ∧ Op.lookupswitch.offset ps.toList d (Int32.ofInt (sev ρ a)).toInt = q.2), ?_, ⟨trivial, by rw [ea]; exact g2⟩, _, List.mem_append_right _ g3, rfl, ρ, τ, fun _ _ => rfl, fun _ _ => rfl, Nat.le_of_eq g5.symm, sst_nar h1 g4 g5⟩
      show xlsw d ps.toList (Int32.ofInt (sev ρ a)) L s1 h [k + 1] True = _
      unfold xlsw
      dsimp only
      rw [g1]
/-- ONE INSTRUCTION that neither calls nor returns -/
noncomputable def sstep (T : ST) (fr lo : Nat) (i : Instr) (aux nx : Nat) : SD := match i with
  | .iconst k => sd_const k nx
  | .sipush k => sd_lconst k nx
  | .goto t => sd_goto t.toNat
  | .iload i => sd_iload i nx
  | .lload i => sd_lload i nx
  | .aload i => sd_aload i nx
  | .istore i => sd_istore i nx
  | .lstore i => sd_lstore i nx
  | .astore i => sd_astore i nx
  | .iinc i k => sd_iinc i k nx
  | .iadd => sd_bin (fun a b => a + b) sadd nx
  | .isub => sd_bin (fun a b => a - b) ssub nx
  | .imul => sd_bin (fun a b => a * b) smul nx
  | .iand => sd_bin (fun a b => a &&& b) sand nx
  | .ior => sd_bin (fun a b => a ||| b) sor nx
  | .ixor => sd_bin (fun a b => a ^^^ b) (senum (fun a b => a ^^^ b)) nx
  | .ishl => sd_bin (fun a b => a <<< (b &&& 31)) (senum (fun a b => a <<< (b &&& 31))) nx
  | .ishr => sd_bin (fun a b => a >>> (b &&& 31)) (senum (fun a b => a >>> (b &&& 31))) nx
  | .iushr => sd_bin (fun a b => (a.toUInt32 >>> (b.toUInt32 &&& Int32.toUInt32 31)).toInt32) (fun _ _ _ => .inr (sfull, 0, 0)) nx
  | .idiv => sd_div (fun a b => a / b) sdq nx
  | .irem => sd_div (fun a b => a - a / b * b) srm nx
  | .ineg => sd_un (fun a => -a) sng nx
  | .i2b => sd_un (fun a => a.toInt8.toInt32) sb8 nx
  | .ladd => sd_l2 nx
  | .lsub => sd_l2 nx
  | .lmul => sd_l2 nx
  | .land => sd_l2 nx
  | .lxor => sd_l2 nx
  | .ldiv => sd_ldiv nx
  | .lrem => sd_ldiv nx
  | .lneg => sd_l1 nx
  | .lcmp => sd_lcmp nx
  | .i2l => sd_i2m nx
  | .l2i => sd_l2i nx
  | .dup => sd_dup nx
  | .dup2 => sd_dup2 nx
  | .pop => sd_pop nx
  | .ifCond c t => sd_if c t nx
  | .if_icmp c t => sd_icmp c t nx
  | .tableswitch d lw hi ts => sd_tsw d lw hi ts
  | .lookupswitch d ps => sd_lsw d ps
  | .getfield k => sd_getI T k aux nx
  | .checkcast _ => sd_getL aux nx
  | .getstatic k => sd_getR T k aux nx
  | .putfield k => sd_putI T k aux nx
  | .instanceof _ => sd_putL aux nx
  | .putstatic k => sd_putR T k aux nx
  | .iaload => sd_iaload T nx
  | .baload => sd_baload T nx
  | .laload => sd_laload nx
  | .iastore => sd_iastore T nx
  | .bastore => sd_bastore T nx
  | .lastore => sd_lastore nx
  | .arraylength => sd_len nx
  | .monitorexit => sd_copy T fr lo nx
  | .invokedynamic t => sd_math t fr lo nx
  | _ => fun _ => none
theorem sstep_ok (hT : stok T) (hw : stow T) {i : Instr} : sgo T nn uu (sstep T fr lo i aux nx) (fun L st h o acc => xstep none false fr lo i aux nx L st h o acc) := by
  unfold sstep
  split
  · exact so_const fun _ _ _ _ _ => rfl
  · exact so_lconst fun _ _ _ _ _ => rfl
  · exact so_goto fun _ _ _ _ _ => rfl
  · exact so_iload
  · exact so_lload
  · exact so_aload
  · exact so_istore
  · exact so_lstore
  · exact so_astore
  · exact so_iinc
  · exact so_bin sadd_ok fun _ _ _ _ _ _ _ => rfl
  · exact so_bin ssub_ok fun _ _ _ _ _ _ _ => rfl
  · exact so_bin smul_ok fun _ _ _ _ _ _ _ => rfl
  · exact so_bin sand_ok fun _ _ _ _ _ _ _ => rfl
  · exact so_bin sor_ok fun _ _ _ _ _ _ _ => rfl
  · exact so_bin senum_ok fun _ _ _ _ _ _ _ => rfl
  · exact so_bin senum_ok fun _ _ _ _ _ _ _ => rfl
  · exact so_bin senum_ok fun _ _ _ _ _ _ _ => rfl
  · exact so_bin (sfull_ok _) fun _ _ _ _ _ _ _ => rfl
  · exact so_div sdq_ok fun _ _ _ _ _ _ _ => rfl
  · exact so_div srm_ok fun _ _ _ _ _ _ _ => rfl
  · exact so_un sng_ok fun _ _ _ _ _ _ => rfl
  · exact so_un sb8_ok fun _ _ _ _ _ _ => rfl
  · exact so_l2 (f := fun a b => a + b) fun _ _ _ _ _ _ _ => rfl
  · exact so_l2 (f := fun a b => a - b) fun _ _ _ _ _ _ _ => rfl
  · exact so_l2 (f := fun a b => a * b) fun _ _ _ _ _ _ _ => rfl
  · exact so_l2 (f := fun a b => a &&& b) fun _ _ _ _ _ _ _ => rfl
  · exact so_l2 (f := fun a b => a ^^^ b) fun _ _ _ _ _ _ _ => rfl
  · exact so_ldiv (f := fun a b => a / b) fun _ _ _ _ _ _ _ => rfl
  · exact so_ldiv (f := fun a b => a - a / b * b) fun _ _ _ _ _ _ _ => rfl
  · exact so_l1 (f := fun a => -a) (fun x hx z => hx (by rw [← Int64.neg_neg (a := x), z]; rfl)) fun _ _ _ _ => ⟨True, trivial, rfl⟩
  · exact so_lcmp
  · exact so_i2m
  · exact so_l2i
  · exact so_dup
  · exact so_dup2
  · exact so_pop
  · exact so_if
  · exact so_icmp
  · exact so_tsw (nx := nx)
  · exact so_lsw (nx := nx)
  · exact so_getI
  · exact so_getL
  · exact so_getR
  · exact so_putI
  · exact so_putL
  · exact so_putR
  · exact so_iaload hT
  · exact so_baload hT
  · exact so_laload
  · exact so_iastore hw
  · exact so_bastore hw
  · exact so_lastore
  · exact so_len
  · exact so_copy hT hw
  · exact so_math
  · intro ρ τ A L st h S hs hd
    cases hd
end SStep
