/-! THE ABSTRACT MACHINE. A heap: int slots, long slots, reference slots by cell and place (0: null); a cell's kind (class + 1; 10000 + n: int[n], 20000 + n: byte[n], 30000 + n: boolean[n], 40000 + n: long[n]; 50: the script); how many cells, how many slots. Cell 1 is the script. A value: an int, a long, a reference with its kind ((0, 0): nothing). -/
abbrev XH : Type := (Nat → Nat → Int32) × (Nat → Nat → Int64) × (Nat → Nat → Nat) × (Nat → Nat) × Nat × Nat
abbrev XV : Type := (Int32 ⊕ Int64) ⊕ (Nat × Nat)
abbrev xi (a : Int32) : XV := .inl (.inl a)
abbrev xl (a : Int64) : XV := .inl (.inr a)
abbrev xf (k e : Nat) : XV := .inr (k, e)
abbrev xun : XV := .inr (0, 0)
def xu {α : Type} (f : Nat → Nat → α) (c k : Nat) (v : α) : Nat → Nat → α := fun c' k' => if c' = c ∧ k' = k then v else f c' k'
def xr {α : Type} (f : Nat → Nat → α) (c : Nat) (g : Nat → α) : Nat → Nat → α := fun c' => if c' = c then g else f c'
abbrev xI (h : XH) : Nat → Nat → Int32 := h.1
abbrev xL (h : XH) : Nat → Nat → Int64 := h.2.1
abbrev xR (h : XH) : Nat → Nat → Nat := h.2.2.1
abbrev xS (h : XH) : Nat → Nat := h.2.2.2.1
abbrev xN (h : XH) : Nat := h.2.2.2.2.1
abbrev xU (h : XH) : Nat := h.2.2.2.2.2
def xsetI (h : XH) (c k : Nat) (v : Int32) : XH := match h with
  | (I, r) => (xu I c k v, r)
def xsetL (h : XH) (c k : Nat) (v : Int64) : XH := match h with
  | (I, L, r) => (I, xu L c k v, r)
def xsetR (h : XH) (c k : Nat) (v : Nat) : XH := match h with
  | (I, L, R, r) => (I, L, xu R c k v, r)
def xrowI (h : XH) (c : Nat) (g : Nat → Int32) : XH := match h with
  | (I, r) => (xr I c g, r)
def xall (h : XH) (kd n : Nat) : XH := match h with
  | (I, L, R, S, N, U) => (I, L, R, (fun c => if c = N then kd else S c), N + 1, U + n)
/-- the script: its length and its ints, where it may be read -/
abbrev XSc : Type := Option (Nat × (Nat → Int32))
def xget : List XV → Nat → XV
  | [], _ => xun
  | a :: _, 0 => a
  | _ :: l, k + 1 => xget l k
def xset : List XV → Nat → XV → List XV
  | [], _, _ => []
  | _ :: l, 0, v => v :: l
  | a :: l, k + 1, v => a :: xset l k v
/-- a store of one slot: a long whose second half lay there is gone -/
def xst (l : List XV) (i : Nat) (v : XV) : List XV := match i with
  | 0 => xset l 0 v
  | j + 1 => match xget l j with
    | .inl (.inr _) => xset (xset l j xun) (j + 1) v
    | _ => xset l (j + 1) v
def xw : List XV → Nat
  | [] => 0
  | .inl (.inr _) :: l => xw l + 2
  | _ :: l => xw l + 1
def xpad : Nat → List XV
  | 0 => []
  | n + 1 => xun :: xpad n
/-- the locals with which a method begins -/
def xent : Nat → List XV → List XV
  | n, [] => xpad n
  | n, .inl (.inr a) :: l => .inl (.inr a) :: xun :: xent (n - 2) l
  | n, a :: l => a :: xent (n - 1) l
def xlen : List XV → Nat → Bool
  | [], 0 => true
  | _ :: l, n + 1 => xlen l n
  | _, _ => false
def xtake : Nat → List XV → List XV → List XV × List XV
  | 0, st, acc => (acc, st)
  | n + 1, a :: st, acc => xtake n st (a :: acc)
  | _ + 1, [], acc => (acc, [])
def xkd (t : ArrayType) (n : Nat) : Nat := match t with
  | .int => 10000 + n
  | .byte => 20000 + n
  | .boolean => 30000 + n
  | .long => 40000 + n
  | _ => 0
def xin (lo kd : Nat) : Bool := Nat.blt lo kd && Nat.blt kd (lo + 10000)
abbrev XP : Type := Nat × List XV × List XV × XH × List Nat × Prop
/-- a jump: taken (1) or not -/
def xjmp (c : Prop) (t : Int) (nx : Nat) (L st : List XV) (h : XH) (o : List Nat) (acc : Prop) : Option XP := match o with
  | d :: o => bif Nat.beq d 1 then some (t.toNat, L, st, h, o, acc ∧ c) else some (nx, L, st, h, o, acc ∧ ¬ c)
  | [] => none
def xjmn (c : Prop) (t : Int) (nx : Nat) (L st : List XV) (h : XH) (o : List Nat) (acc : Prop) : Option XP := match o with
  | d :: o => bif Nat.beq d 1 then some (t.toNat, L, st, h, o, acc ∧ ¬ c) else some (nx, L, st, h, o, acc ∧ c)
  | [] => none
def xif (c : ClassFile.Cond) (a b : Int32) (t : Int) (nx : Nat) (L st : List XV) (h : XH) (o : List Nat) (acc : Prop) : Option XP := match c with
  | .eq => xjmp (a = b) t nx L st h o acc
  | .ne => xjmn (a = b) t nx L st h o acc
  | .lt => xjmp (a < b) t nx L st h o acc
  | .ge => xjmp (b ≤ a) t nx L st h o acc
  | .gt => xjmp (b < a) t nx L st h o acc
  | .le => xjmp (a ≤ b) t nx L st h o acc
def xtsw (dflt lw hi : Int) (ts : List Int) (a : Int32) (L st : List XV) (h : XH) (o : List Nat) (acc : Prop) : Option XP := match o with
  | 0 :: o => some (dflt.toNat, L, st, h, o, acc ∧ (a.toInt < lw ∨ hi < a.toInt))
  | (k + 1) :: o => match ts[k]? with
    | some t => some (t.toNat, L, st, h, o, acc ∧ (a.toInt = lw + k ∧ ¬ hi < lw + k))
    | none => none
  | [] => none
def xlsw (dflt : Int) (ps : List (Int × Int)) (a : Int32) (L st : List XV) (h : XH) (o : List Nat) (acc : Prop) : Option XP := match o with
  | 0 :: o => some (dflt.toNat, L, st, h, o, acc ∧ Op.lookupswitch.offset ps dflt a.toInt = dflt)
  | (k + 1) :: o => match ps[k]? with
    | some q => some (q.2.toNat, L, st, h, o, acc ∧ Op.lookupswitch.offset ps dflt a.toInt = q.2)
    | none => none
  | [] => none

noncomputable def xd_iload (i : Nat) (nx : Nat) (L st : List XV) (h : XH) (o : List Nat) (acc : Prop) : Option XP := match xget L i with
  | .inl (.inl a) => some (nx, L, .inl (.inl a) :: st, h, o, acc)
  | _ => none
noncomputable def xd_lload (i : Nat) (nx : Nat) (L st : List XV) (h : XH) (o : List Nat) (acc : Prop) : Option XP := match xget L i with
  | .inl (.inr a) => some (nx, L, .inl (.inr a) :: st, h, o, acc)
  | _ => none
noncomputable def xd_aload (i : Nat) (nx : Nat) (L st : List XV) (h : XH) (o : List Nat) (acc : Prop) : Option XP := match xget L i with
  | .inr (k, e) => bif Nat.beq k 0 then none else some (nx, L, .inr (k, e) :: st, h, o, acc)
  | _ => none
noncomputable def xd_istore (i : Nat) (nx : Nat) (L st : List XV) (h : XH) (o : List Nat) (acc : Prop) : Option XP := match st with
  | .inl (.inl a) :: st => some (nx, xst L i (.inl (.inl a)), st, h, o, acc)
  | _ => none
noncomputable def xd_astore (i : Nat) (nx : Nat) (L st : List XV) (h : XH) (o : List Nat) (acc : Prop) : Option XP := match st with
  | .inr (k, e) :: st => some (nx, xst L i (.inr (k, e)), st, h, o, acc)
  | _ => none
noncomputable def xd_lstore (i : Nat) (nx : Nat) (L st : List XV) (h : XH) (o : List Nat) (acc : Prop) : Option XP := match st with
  | .inl (.inr a) :: st => some (nx, xset (xst L i (.inl (.inr a))) (i + 1) xun, st, h, o, acc)
  | _ => none
noncomputable def xd_iinc (i : Nat) (k : Int) (nx : Nat) (L st : List XV) (h : XH) (o : List Nat) (acc : Prop) : Option XP := match xget L i with
  | .inl (.inl a) => some (nx, xst L i (.inl (.inl (a + Int32.ofInt k))), st, h, o, acc)
  | _ => none
noncomputable def xd_iadd (nx : Nat) (L st : List XV) (h : XH) (o : List Nat) (acc : Prop) : Option XP := match st with
  | .inl (.inl b) :: .inl (.inl a) :: st => some (nx, L, .inl (.inl (a + b)) :: st, h, o, acc)
  | _ => none
noncomputable def xd_isub (nx : Nat) (L st : List XV) (h : XH) (o : List Nat) (acc : Prop) : Option XP := match st with
  | .inl (.inl b) :: .inl (.inl a) :: st => some (nx, L, .inl (.inl (a - b)) :: st, h, o, acc)
  | _ => none
noncomputable def xd_imul (nx : Nat) (L st : List XV) (h : XH) (o : List Nat) (acc : Prop) : Option XP := match st with
  | .inl (.inl b) :: .inl (.inl a) :: st => some (nx, L, .inl (.inl (a * b)) :: st, h, o, acc)
  | _ => none
noncomputable def xd_iand (nx : Nat) (L st : List XV) (h : XH) (o : List Nat) (acc : Prop) : Option XP := match st with
  | .inl (.inl b) :: .inl (.inl a) :: st => some (nx, L, .inl (.inl (a &&& b)) :: st, h, o, acc)
  | _ => none
noncomputable def xd_ior (nx : Nat) (L st : List XV) (h : XH) (o : List Nat) (acc : Prop) : Option XP := match st with
  | .inl (.inl b) :: .inl (.inl a) :: st => some (nx, L, .inl (.inl (a ||| b)) :: st, h, o, acc)
  | _ => none
noncomputable def xd_ixor (nx : Nat) (L st : List XV) (h : XH) (o : List Nat) (acc : Prop) : Option XP := match st with
  | .inl (.inl b) :: .inl (.inl a) :: st => some (nx, L, .inl (.inl (a ^^^ b)) :: st, h, o, acc)
  | _ => none
noncomputable def xd_ishl (nx : Nat) (L st : List XV) (h : XH) (o : List Nat) (acc : Prop) : Option XP := match st with
  | .inl (.inl b) :: .inl (.inl a) :: st => some (nx, L, .inl (.inl (a <<< (b &&& 31))) :: st, h, o, acc)
  | _ => none
noncomputable def xd_ishr (nx : Nat) (L st : List XV) (h : XH) (o : List Nat) (acc : Prop) : Option XP := match st with
  | .inl (.inl b) :: .inl (.inl a) :: st => some (nx, L, .inl (.inl (a >>> (b &&& 31))) :: st, h, o, acc)
  | _ => none
noncomputable def xd_iushr (nx : Nat) (L st : List XV) (h : XH) (o : List Nat) (acc : Prop) : Option XP := match st with
  | .inl (.inl b) :: .inl (.inl a) :: st => some (nx, L, .inl (.inl ((a.toUInt32 >>> (b.toUInt32 &&& Int32.toUInt32 31)).toInt32)) :: st, h, o, acc)
  | _ => none
noncomputable def xd_ladd (nx : Nat) (L st : List XV) (h : XH) (o : List Nat) (acc : Prop) : Option XP := match st with
  | .inl (.inr b) :: .inl (.inr a) :: st => some (nx, L, .inl (.inr (a + b)) :: st, h, o, acc)
  | _ => none
noncomputable def xd_lsub (nx : Nat) (L st : List XV) (h : XH) (o : List Nat) (acc : Prop) : Option XP := match st with
  | .inl (.inr b) :: .inl (.inr a) :: st => some (nx, L, .inl (.inr (a - b)) :: st, h, o, acc)
  | _ => none
noncomputable def xd_lmul (nx : Nat) (L st : List XV) (h : XH) (o : List Nat) (acc : Prop) : Option XP := match st with
  | .inl (.inr b) :: .inl (.inr a) :: st => some (nx, L, .inl (.inr (a * b)) :: st, h, o, acc)
  | _ => none
noncomputable def xd_land (nx : Nat) (L st : List XV) (h : XH) (o : List Nat) (acc : Prop) : Option XP := match st with
  | .inl (.inr b) :: .inl (.inr a) :: st => some (nx, L, .inl (.inr (a &&& b)) :: st, h, o, acc)
  | _ => none
noncomputable def xd_lxor (nx : Nat) (L st : List XV) (h : XH) (o : List Nat) (acc : Prop) : Option XP := match st with
  | .inl (.inr b) :: .inl (.inr a) :: st => some (nx, L, .inl (.inr (a ^^^ b)) :: st, h, o, acc)
  | _ => none
noncomputable def xd_idiv (nx : Nat) (L st : List XV) (h : XH) (o : List Nat) (acc : Prop) : Option XP := match st with
  | .inl (.inl b) :: .inl (.inl a) :: st => some (nx, L, .inl (.inl (a / b)) :: st, h, o, acc ∧ ¬ b = 0)
  | _ => none
noncomputable def xd_irem (nx : Nat) (L st : List XV) (h : XH) (o : List Nat) (acc : Prop) : Option XP := match st with
  | .inl (.inl b) :: .inl (.inl a) :: st => some (nx, L, .inl (.inl (a - a / b * b)) :: st, h, o, acc ∧ ¬ b = 0)
  | _ => none
noncomputable def xd_ldiv (nx : Nat) (L st : List XV) (h : XH) (o : List Nat) (acc : Prop) : Option XP := match st with
  | .inl (.inr b) :: .inl (.inr a) :: st => some (nx, L, .inl (.inr (a / b)) :: st, h, o, acc ∧ ¬ b = 0)
  | _ => none
noncomputable def xd_lrem (nx : Nat) (L st : List XV) (h : XH) (o : List Nat) (acc : Prop) : Option XP := match st with
  | .inl (.inr b) :: .inl (.inr a) :: st => some (nx, L, .inl (.inr (a - a / b * b)) :: st, h, o, acc ∧ ¬ b = 0)
  | _ => none
noncomputable def xd_ineg (nx : Nat) (L st : List XV) (h : XH) (o : List Nat) (acc : Prop) : Option XP := match st with
  | .inl (.inl a) :: st => some (nx, L, .inl (.inl (-a)) :: st, h, o, acc)
  | _ => none
noncomputable def xd_lneg (nx : Nat) (L st : List XV) (h : XH) (o : List Nat) (acc : Prop) : Option XP := match st with
  | .inl (.inr a) :: st => some (nx, L, .inl (.inr (-a)) :: st, h, o, acc)
  | _ => none
noncomputable def xd_lcmp (nx : Nat) (L st : List XV) (h : XH) (o : List Nat) (acc : Prop) : Option XP := match st with
  | .inl (.inr b) :: .inl (.inr a) :: st => some (nx, L, .inl (.inl (lg_cmp a b)) :: st, h, o, acc)
  | _ => none
noncomputable def xd_i2l (nx : Nat) (L st : List XV) (h : XH) (o : List Nat) (acc : Prop) : Option XP := match st with
  | .inl (.inl a) :: st => some (nx, L, .inl (.inr a.toInt64) :: st, h, o, acc)
  | _ => none
noncomputable def xd_l2i (nx : Nat) (L st : List XV) (h : XH) (o : List Nat) (acc : Prop) : Option XP := match st with
  | .inl (.inr a) :: st => some (nx, L, .inl (.inl a.toInt32) :: st, h, o, acc)
  | _ => none
noncomputable def xd_i2b (nx : Nat) (L st : List XV) (h : XH) (o : List Nat) (acc : Prop) : Option XP := match st with
  | .inl (.inl a) :: st => some (nx, L, .inl (.inl a.toInt8.toInt32) :: st, h, o, acc)
  | _ => none
noncomputable def xd_dup (nx : Nat) (L st : List XV) (h : XH) (o : List Nat) (acc : Prop) : Option XP := match st with
  | .inl (.inl a) :: st => some (nx, L, .inl (.inl a) :: .inl (.inl a) :: st, h, o, acc)
  | .inr (k, e) :: st => some (nx, L, .inr (k, e) :: .inr (k, e) :: st, h, o, acc)
  | _ => none
noncomputable def xd_dup2 (nx : Nat) (L st : List XV) (h : XH) (o : List Nat) (acc : Prop) : Option XP := match st with
  | .inl (.inl b) :: .inr (k, e) :: st => some (nx, L, .inl (.inl b) :: .inr (k, e) :: .inl (.inl b) :: .inr (k, e) :: st, h, o, acc)
  | _ => none
noncomputable def xd_pop (nx : Nat) (L st : List XV) (h : XH) (o : List Nat) (acc : Prop) : Option XP := match st with
  | .inl (.inl _) :: st => some (nx, L, st, h, o, acc)
  | .inr _ :: st => some (nx, L, st, h, o, acc)
  | _ => none
noncomputable def xd_if (c : ClassFile.Cond) (t : Int) (nx : Nat) (L st : List XV) (h : XH) (o : List Nat) (acc : Prop) : Option XP := match st with
  | .inl (.inl a) :: st => xif c a 0 t nx L st h o acc
  | _ => none
noncomputable def xd_icmp (c : ClassFile.Cond) (t : Int) (nx : Nat) (L st : List XV) (h : XH) (o : List Nat) (acc : Prop) : Option XP := match st with
  | .inl (.inl b) :: .inl (.inl a) :: st => xif c a b t nx L st h o acc
  | _ => none
noncomputable def xd_tsw (d lw hi : Int) (ts : Array Int) (nx : Nat) (L st : List XV) (h : XH) (o : List Nat) (acc : Prop) : Option XP := match st with
  | .inl (.inl a) :: st => xtsw d lw hi ts.toList a L st h o acc
  | _ => none
noncomputable def xd_lsw (d : Int) (ps : Array (Int × Int)) (nx : Nat) (L st : List XV) (h : XH) (o : List Nat) (acc : Prop) : Option XP := match st with
  | .inl (.inl a) :: st => xlsw d ps.toList a L st h o acc
  | _ => none
noncomputable def xd_getI (k aux : Nat) (nx : Nat) (L st : List XV) (h : XH) (o : List Nat) (acc : Prop) : Option XP := match st with
  | .inr (kd, e) :: st => bif Nat.beq kd aux then some (nx, L, .inl (.inl (xI h e k)) :: st, h, o, acc) else none
  | _ => none
noncomputable def xd_getL (k aux : Nat) (nx : Nat) (L st : List XV) (h : XH) (o : List Nat) (acc : Prop) : Option XP := match st with
  | .inr (kd, e) :: st => bif Nat.beq kd aux then some (nx, L, .inl (.inr (xL h e k)) :: st, h, o, acc) else none
  | _ => none
noncomputable def xd_getR (full : Bool) (k aux : Nat) (nx : Nat) (L st : List XV) (h : XH) (o : List Nat) (acc : Prop) : Option XP := match st with
  | .inr (kd, e) :: st => bif Nat.beq kd aux then (bif full then some (nx, L, .inr (xfk kd k, xR h e k) :: st, h, o, acc) else some (nx, L, .inr (xfk kd k, xR h e k) :: st, h, o, acc ∧ ¬ xR h e k = 0)) else none
  | _ => none
noncomputable def xd_putI (k aux : Nat) (nx : Nat) (L st : List XV) (h : XH) (o : List Nat) (acc : Prop) : Option XP := match st with
  | .inl (.inl v) :: .inr (kd, e) :: st => bif Nat.beq kd aux then (bif xbo kd k then some (nx, L, st, xsetI h e k v, o, acc ∧ (v = 0 ∨ v = 1)) else some (nx, L, st, xsetI h e k v, o, acc)) else none
  | _ => none
noncomputable def xd_putL (k aux : Nat) (nx : Nat) (L st : List XV) (h : XH) (o : List Nat) (acc : Prop) : Option XP := match st with
  | .inl (.inr v) :: .inr (kd, e) :: st => bif Nat.beq kd aux then some (nx, L, st, xsetL h e k v, o, acc) else none
  | _ => none
noncomputable def xd_putR (k aux : Nat) (nx : Nat) (L st : List XV) (h : XH) (o : List Nat) (acc : Prop) : Option XP := match st with
  | .inr (kv, v) :: .inr (kd, e) :: st => bif Nat.beq kd aux && (Nat.beq kv (xfk kd k) && !Nat.beq kv 50) then some (nx, L, st, xsetR h e k v, o, acc) else none
  | _ => none
noncomputable def xd_iaload (sc : XSc) (nx : Nat) (L st : List XV) (h : XH) (o : List Nat) (acc : Prop) : Option XP := match st with
  | .inl (.inl i) :: .inr (kd, e) :: st => bif Nat.beq kd 50 then (match sc with
    | some (Ls, xs) => some (nx, L, .inl (.inl (xs i.toNatClampNeg)) :: st, h, o, acc ∧ vp_in i Ls)
    | none => none) else bif xin 10000 kd then some (nx, L, .inl (.inl (xI h e i.toNatClampNeg)) :: st, h, o, acc ∧ vp_in i (kd - 10000)) else none
  | _ => none
noncomputable def xd_baload (nx : Nat) (L st : List XV) (h : XH) (o : List Nat) (acc : Prop) : Option XP := match st with
  | .inl (.inl i) :: .inr (kd, e) :: st => bif xin 20000 kd then some (nx, L, .inl (.inl (xI h e i.toNatClampNeg)) :: st, h, o, acc ∧ vp_in i (kd - 20000)) else bif xin 30000 kd then some (nx, L, .inl (.inl (xI h e i.toNatClampNeg)) :: st, h, o, acc ∧ vp_in i (kd - 30000)) else none
  | _ => none
noncomputable def xd_laload (nx : Nat) (L st : List XV) (h : XH) (o : List Nat) (acc : Prop) : Option XP := match st with
  | .inl (.inl i) :: .inr (kd, e) :: st => bif xin 40000 kd then some (nx, L, .inl (.inr (xL h e i.toNatClampNeg)) :: st, h, o, acc ∧ vp_in i (kd - 40000)) else none
  | _ => none
noncomputable def xd_iastore (nx : Nat) (L st : List XV) (h : XH) (o : List Nat) (acc : Prop) : Option XP := match st with
  | .inl (.inl v) :: .inl (.inl i) :: .inr (kd, e) :: st => bif xin 10000 kd then some (nx, L, st, xsetI h e i.toNatClampNeg v, o, acc ∧ vp_in i (kd - 10000)) else none
  | _ => none
noncomputable def xd_bastore (nx : Nat) (L st : List XV) (h : XH) (o : List Nat) (acc : Prop) : Option XP := match st with
  | .inl (.inl v) :: .inl (.inl i) :: .inr (kd, e) :: st => bif xin 20000 kd then some (nx, L, st, xsetI h e i.toNatClampNeg (vp_nar .byte v), o, acc ∧ vp_in i (kd - 20000)) else bif xin 30000 kd then some (nx, L, st, xsetI h e i.toNatClampNeg (vp_nar .boolean v), o, acc ∧ vp_in i (kd - 30000)) else none
  | _ => none
noncomputable def xd_lastore (nx : Nat) (L st : List XV) (h : XH) (o : List Nat) (acc : Prop) : Option XP := match st with
  | .inl (.inr v) :: .inl (.inl i) :: .inr (kd, e) :: st => bif xin 40000 kd then some (nx, L, st, xsetL h e i.toNatClampNeg v, o, acc ∧ vp_in i (kd - 40000)) else none
  | _ => none
noncomputable def xd_len (sc : XSc) (nx : Nat) (L st : List XV) (h : XH) (o : List Nat) (acc : Prop) : Option XP := match st with
  | .inr (kd, e) :: st => bif Nat.beq kd 50 then (match sc with
    | some (Ls, _) => some (nx, L, .inl (.inl (Int32.ofNat Ls)) :: st, h, o, acc)
    | none => none) else bif xin 10000 kd then some (nx, L, .inl (.inl (Int32.ofNat (kd - 10000))) :: st, h, o, acc) else bif xin 20000 kd then some (nx, L, .inl (.inl (Int32.ofNat (kd - 20000))) :: st, h, o, acc) else bif xin 40000 kd then some (nx, L, .inl (.inl (Int32.ofNat (kd - 40000))) :: st, h, o, acc) else none
  | _ => none
noncomputable def xd_newa (t : ArrayType) (aux : Nat) (nx : Nat) (L st : List XV) (h : XH) (o : List Nat) (acc : Prop) : Option XP := match st with
  | .inl (.inl k) :: st => bif Nat.beq (xkd t aux) 0 || (Nat.ble 10000 aux || Nat.beq aux 0) then none else some (nx, L, .inr (xkd t aux, xN h) :: st, xall h (xkd t aux) aux, o, acc ∧ (¬ k < 0 ∧ k.toNatClampNeg = aux))
  | _ => none
noncomputable def xd_new (ci : Nat) (nx : Nat) (L st : List XV) (h : XH) (o : List Nat) (acc : Prop) : Option XP := some (nx, L, .inr (ci + 1, xN h) :: st, xall h (ci + 1) (xnf ci), o, acc)
noncomputable def xd_obj (fr lo : Nat) (nx : Nat) (L st : List XV) (h : XH) (o : List Nat) (acc : Prop) : Option XP := match st with
  | .inr _ :: st => bif Nat.blt 0 fr && Nat.ble (xw st + 12) lo then some (nx, L, st, h, o, acc) else none
  | _ => none
noncomputable def xd_copy (fr lo : Nat) (nx : Nat) (L st : List XV) (h : XH) (o : List Nat) (acc : Prop) : Option XP := match st with
  | .inl (.inl k) :: .inl (.inl dp) :: .inr (k1, e1) :: .inl (.inl s0) :: .inr (k0, e0) :: st => bif (Nat.blt 0 fr && Nat.ble (xw st + 40) lo) && (xin 10000 k0 && xin 10000 k1) then some (nx, L, st, xrowI h e1 (va_cpy (xI h e0) (xI h e1) s0.toNatClampNeg dp.toNatClampNeg k.toNatClampNeg), o,
      acc ∧ (¬ s0 < 0 ∧ ¬ dp < 0 ∧ ¬ k < 0) ∧ s0.toNatClampNeg + k.toNatClampNeg ≤ k0 - 10000 ∧ dp.toNatClampNeg + k.toNatClampNeg ≤ k1 - 10000) else none
  | _ => none
/-- Math.min, max, abs of ints, abs, max of longs -/
noncomputable def xd_math (fr lo t : Nat) (nx : Nat) (L st : List XV) (h : XH) (o : List Nat) (acc : Prop) : Option XP := match t, st with
  | 0, .inl (.inl b) :: .inl (.inl a) :: st => bif Nat.blt 0 fr && Nat.ble (xw st + 15) lo then some (nx, L, .inl (.inl (if b < a then b else a)) :: st, h, o, acc) else none
  | 1, .inl (.inl b) :: .inl (.inl a) :: st => bif Nat.blt 0 fr && Nat.ble (xw st + 15) lo then some (nx, L, .inl (.inl (if a < b then b else a)) :: st, h, o, acc) else none
  | 2, .inl (.inl a) :: st => bif Nat.blt 0 fr && Nat.ble (xw st + 15) lo then some (nx, L, .inl (.inl (if 0 ≤ a then a else 0 - a)) :: st, h, o, acc) else none
  | 3, .inl (.inr a) :: st => bif Nat.blt 0 fr && Nat.ble (xw st + 15) lo then some (nx, L, .inl (.inr (if 0 < a then a else -a)) :: st, h, o, acc) else none
  | 4, .inl (.inr b) :: .inl (.inr a) :: st => bif Nat.blt 0 fr && Nat.ble (xw st + 15) lo then some (nx, L, .inl (.inr (if b < a then a else b)) :: st, h, o, acc) else none
  | _, _ => none
/-- one instruction that neither calls nor returns -/
noncomputable def xstep (sc : XSc) (full : Bool) (fr lo : Nat) (i : Instr) (aux nx : Nat) (L st : List XV) (h : XH) (o : List Nat) (acc : Prop) : Option XP := match i with
  | .iconst k => some (nx, L, .inl (.inl (Int32.ofInt k)) :: st, h, o, acc)
  | .sipush k => some (nx, L, .inl (.inr (Int64.ofInt k)) :: st, h, o, acc)
  | .goto t => some (t.toNat, L, st, h, o, acc)
  | .iload i => xd_iload i nx L st h o acc
  | .lload i => xd_lload i nx L st h o acc
  | .aload i => xd_aload i nx L st h o acc
  | .istore i => xd_istore i nx L st h o acc
  | .lstore i => xd_lstore i nx L st h o acc
  | .astore i => xd_astore i nx L st h o acc
  | .iinc i k => xd_iinc i k nx L st h o acc
  | .iadd => xd_iadd nx L st h o acc
  | .isub => xd_isub nx L st h o acc
  | .imul => xd_imul nx L st h o acc
  | .iand => xd_iand nx L st h o acc
  | .ior => xd_ior nx L st h o acc
  | .ixor => xd_ixor nx L st h o acc
  | .ishl => xd_ishl nx L st h o acc
  | .ishr => xd_ishr nx L st h o acc
  | .iushr => xd_iushr nx L st h o acc
  | .ladd => xd_ladd nx L st h o acc
  | .lsub => xd_lsub nx L st h o acc
  | .lmul => xd_lmul nx L st h o acc
  | .land => xd_land nx L st h o acc
  | .lxor => xd_lxor nx L st h o acc
  | .idiv => xd_idiv nx L st h o acc
  | .irem => xd_irem nx L st h o acc
  | .ldiv => xd_ldiv nx L st h o acc
  | .lrem => xd_lrem nx L st h o acc
  | .ineg => xd_ineg nx L st h o acc
  | .lneg => xd_lneg nx L st h o acc
  | .lcmp => xd_lcmp nx L st h o acc
  | .i2l => xd_i2l nx L st h o acc
  | .l2i => xd_l2i nx L st h o acc
  | .i2b => xd_i2b nx L st h o acc
  | .dup => xd_dup nx L st h o acc
  | .dup2 => xd_dup2 nx L st h o acc
  | .pop => xd_pop nx L st h o acc
  | .ifCond c t => xd_if c t nx L st h o acc
  | .if_icmp c t => xd_icmp c t nx L st h o acc
  | .tableswitch d lw hi ts => xd_tsw d lw hi ts nx L st h o acc
  | .lookupswitch d ps => xd_lsw d ps nx L st h o acc
  | .getfield k => xd_getI k aux nx L st h o acc
  | .checkcast k => xd_getL k aux nx L st h o acc
  | .getstatic k => xd_getR full k aux nx L st h o acc
  | .putfield k => xd_putI k aux nx L st h o acc
  | .instanceof k => xd_putL k aux nx L st h o acc
  | .putstatic k => xd_putR k aux nx L st h o acc
  | .iaload => xd_iaload sc nx L st h o acc
  | .baload => xd_baload nx L st h o acc
  | .laload => xd_laload nx L st h o acc
  | .iastore => xd_iastore nx L st h o acc
  | .bastore => xd_bastore nx L st h o acc
  | .lastore => xd_lastore nx L st h o acc
  | .arraylength => xd_len sc nx L st h o acc
  | .newarray t => xd_newa t aux nx L st h o acc
  | .new ci => bif full then none else xd_new ci nx L st h o acc
  | .monitorenter => xd_obj fr lo nx L st h o acc
  | .monitorexit => xd_copy fr lo nx L st h o acc
  | .invokedynamic t => xd_math fr lo t nx L st h o acc
  | _ => none
/-- at a return: what it gives back is on the stack -/
def xend (i : Instr) (st : List XV) : Bool := match i, st with
  | .ireturn, [.inl (.inl _)] => true
  | .lreturn, [.inl (.inr _)] => true
  | .return_, [] => true
  | _, _ => false
def xcal (i : Instr) : Option Nat := match i with
  | .invokestatic K => some K
  | .invokespecial K => some K
  | .invokevirtual K => some K
  | _ => none
def xisr (i : Instr) : Bool := match i with
  | .ireturn => true
  | .lreturn => true
  | .return_ => true
  | _ => false
/-- the receiver is of the method's class -/
noncomputable def xrcv (i : Instr) (K : Nat) (as : List XV) : Bool := match i with
  | .invokestatic _ => true
  | _ => match as with
    | .inr (kd, _) :: _ => Nat.beq kd (xcn K)
    | _ => false
/-- a boolean that is given back is 0 or 1 -/
noncomputable def xrac (M : Nat) (st : List XV) (acc : Prop) : Prop := bif xrb M then (match st with
  | [.inl (.inl a)] => acc ∧ (a = 0 ∨ a = 1)
  | _ => acc) else acc
def xrt1 (pc : Nat) (L st : List XV) (h : XH) (o : List Nat) (acc : Prop) : Option XP := match st with
  | [.inl (.inl a)] => some (pc, L, [.inl (.inl a)], h, o, acc ∧ (a = 0 ∨ a = 1))
  | st => some (pc, L, st, h, o, acc)
/-- a path: at most n steps; sc: the script; full: no reference field is null; inl: the methods that are entered; fr, lo: frames and words left; sp: where to stop, unless fresh; o: what the branches do (1: taken; switches: 0 default, k + 1 the k-th) -/
noncomputable def xrun (full : Bool) (inl : List Nat) : XSc → Nat → Nat → Nat → List Nat → Bool → Nat → Nat → List XV → List XV → XH → List Nat → Prop → Option XP
  | _, 0, _, _, _, _, _, _, _, _, _, _, _ => none
  | sc, n + 1, fr, lo, sp, fresh, M, pc, L, st, h, o, acc =>
    bif (!fresh && sp.elem pc) then some (pc, L, st, h, o, acc) else
    match xins M pc with
    | none => none
    | some (i, aux, nx) => match xcal i with
      | some K => bif inl.elem K && (Nat.blt 0 fr && (Nat.ble (xmx K + 19) lo && (Nat.ble (xw (xtake aux st []).2) 8 && (xrcv i K (xtake aux st []).1 && (xlen (xtake aux st []).1 aux && xlen (xent (xmx K) (xtake aux st []).1) (xmx K)))))) then
          match xrun full inl none n (fr - 1) (lo - (xmx K + 19)) [] false K 0 (xent (xmx K) (xtake aux st []).1) [] h o acc with
          | some (_, _, v, h', o', acc') => xrun full inl sc n fr lo sp false M nx L (v ++ (xtake aux st []).2) h' o' acc'
          | none => none
        else none
      | none => bif xisr i then (bif xend i st then (bif xrb M then xrt1 pc L st h o acc else some (pc, L, st, h, o, acc)) else none) else
        match xstep sc full fr lo i aux nx L st h o acc with
        | some (pc', L', st', h', o', acc') => xrun full inl sc n fr lo sp false M pc' L' st' h' o' acc'
        | none => none
