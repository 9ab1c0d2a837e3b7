/-! A TEXT'S STATE, as both readers have it: one function. 0 regions, 1 joins, 2 people, 3 debts, 4 tear told, 5 tear, 6 knots counted, 10 knots there, 11 signs that wait, 12 open, 13 a part is due, 14 held; rows of ten from 100 on; 240, 250 laws from, to; 300 kinds, 400 values, 500, 600 parts; 700 signs; 800 held. -/
def zs (Z : Nat → Int) (k : Nat) (v : Int) : Nat → Int := fun j => if j = k then v else Z j
theorem zs_same {Z : Nat → Int} {k : Nat} {v : Int} : zs Z k v k = v := if_pos rfl
theorem zs_ne {Z : Nat → Int} {k j : Nat} {v : Int} (h : j ≠ k) : zs Z k v j = Z j := if_neg h
/-- how tightly a sign binds -/
def lev (c : Int) : Int := if c = 30 then 1 else if c = 31 then 2 else if c = 32 then 3 else if 7 ≤ c ∧ c ≤ 12 then 4 else if c = 13 ∨ c = 14 then 5 else if c = 15 ∨ c = 16 then 6 else 0
theorem lev_b (c : Int) : 0 ≤ lev c ∧ lev c ≤ 6 := by
  unfold lev
  omega
theorem lev_0 {c : Int} : lev c = 0 ↔ ¬ ((7 ≤ c ∧ c ≤ 16) ∨ (30 ≤ c ∧ c ≤ 32)) := by
  unfold lev
  omega
theorem lev_3 {c : Int} : lev c = 3 ↔ c = 32 := by
  unfold lev
  omega
theorem lev_4 {c : Int} : lev c = 4 ↔ 7 ≤ c ∧ c ≤ 12 := by
  unfold lev
  omega
def ztop (Z : Nat → Int) : Int := Z (700 + ((Z 11).toNat - 1))
def ztl (Z : Nat → Int) : Int := if 0 < Z 11 then lev (ztop Z) else 0
/-- a sign waits -/
def zpush (Z : Nat → Int) (s : Int) : Nat → Int := zs (zs Z (700 + (Z 11).toNat) s) 11 (Z 11 + 1)
/-- the last sign is put behind its parts -/
def zbd (s : Int) : Nat := if s = 32 then 1 else 2
def zb1 (Z : Nat → Int) : Nat → Int :=
  zs (zs (zs (zs (zs (zs (zs (zs Z (300 + (Z 10).toNat) (ztop Z)) (400 + (Z 10).toNat) 0) (500 + (Z 10).toNat) (Z (800 + ((Z 14).toNat - zbd (ztop Z))))) (600 + (Z 10).toNat) (if ztop Z = 32 then -1 else Z (800 + ((Z 14).toNat - 1)))) (800 + ((Z 14).toNat - zbd (ztop Z))) (Z 10)) 10 (Z 10 + 1)) 14 (Z 14 - zbd (ztop Z) + 1)) 11 (Z 11 - 1)
def zbind (lv : Int) : Nat → (Nat → Int) → (Nat → Int)
  | 0, Z => Z
  | m + 1, Z => if lv < ztl Z then zbind lv m (zb1 Z) else Z
def zput (lv : Int) (Z : Nat → Int) : Nat → Int := zbind lv (Z 11).toNat Z
/-- a number, a name -/
def zleaf (Z : Nat → Int) (c v : Int) : Nat → Int :=
  zs (zs (zs (zs (zs (zs (zs (zs (zs Z (300 + (Z 10).toNat) c) (400 + (Z 10).toNat) v) (500 + (Z 10).toNat) (if c = 2 then v else c - 33)) (600 + (Z 10).toNat) 0) (800 + (Z 14).toNat) (Z 10)) 10 (Z 10 + 1)) 14 (Z 14 + 1)) 6 (Z 6 + 1)) 13 0
def zstep (c v : Int) (Z : Nat → Int) : Int × (Nat → Int) :=
  if Z 13 = 1 then
    (if c = 5 then (if 8 ≤ Z 12 then (2, Z) else (0, zpush (zs Z 12 (Z 12 + 1)) 5))
     else if c = 32 ∧ ztl Z ≤ 3 then (if 64 ≤ Z 6 then (2, Z) else (0, zpush (zs Z 6 (Z 6 + 1)) 32))
     else if ¬ c = 2 ∧ (c < 33 ∨ 39 < c) then (1, Z)
     else if c = 2 ∧ 9999 < v then (2, Z)
     else if 64 ≤ Z 6 then (2, Z) else (0, zleaf Z c v))
  else
    (if c = 6 ∧ 0 < Z 12 then (0, zs (zs (zput 0 Z) 11 ((zput 0 Z) 11 - 1)) 12 ((zput 0 Z) 12 - 1))
     else if lev c = 0 ∨ c = 32 then (1, Z)
     else if lev c = 4 ∧ ztl (zput 4 Z) = 4 then (1, Z)
     else if 64 ≤ Z 6 then (2, Z)
     else (0, zs (zpush (zs (if lev c = 4 then zput 4 Z else zput (lev c - 1) Z) 6 ((if lev c = 4 then zput 4 Z else zput (lev c - 1) Z) 6 + 1)) c) 13 1))
/-- an expression: fault, its place, what is known behind it, where it ends -/
def zE (b : Nat → Int) (n : Nat) : Nat → (Nat → Int) → Nat → Int × Nat × (Nat → Int) × Nat
  | 0, Z, q => (1, q, Z, q)
  | m + 1, Z, q => if Z 13 = 0 ∧ tkc b n q = 4 ∧ Z 12 = 0 then (0, 0, zput 0 Z, q)
    else if ¬ (zstep (tkc b n q) (tkv b n q) Z).1 = 0 then ((zstep (tkc b n q) (tkv b n q) Z).1, q, Z, q)
    else zE b n m (zstep (tkc b n q) (tkv b n q) Z).2 (nxt b n q)
/-- the lines -/
def zRg (b : Nat → Int) (n : Nat) (Z : Nat → Int) (q : Nat) : Nat → Int :=
  zs (zs (zs (zs (zs Z (100 + (Z 0).toNat) (tkv b n (nxt b n q))) (110 + (Z 0).toNat) (tkv b n (nxt b n (nxt b n q)))) (120 + (Z 0).toNat) (tkv b n (nxt b n (nxt b n (nxt b n q))))) (130 + (Z 0).toNat) (tkv b n (nxt b n (nxt b n (nxt b n (nxt b n q)))))) 0 (Z 0 + 1)
def zw (b : Nat → Int) (n : Nat) (Z : Nat → Int) (q o m : Nat) : Int := zfn (fun k => Z (o + k)) (tkv b n q) m 0
def zJn (b : Nat → Int) (n : Nat) (Z : Nat → Int) (q : Nat) : Nat → Int :=
  zs (zs (zs (zs Z (140 + (Z 1).toNat) (zw b n Z (nxt b n q) 100 (Z 0).toNat)) (150 + (Z 1).toNat) (zw b n Z (nxt b n (nxt b n q)) 100 (Z 0).toNat)) (160 + (Z 1).toNat) (tkv b n (nxt b n (nxt b n (nxt b n q))))) 1 (Z 1 + 1)
def zPn (b : Nat → Int) (n : Nat) (Z : Nat → Int) (q : Nat) : Nat → Int :=
  zs (zs (zs (zs (zs Z (170 + (Z 2).toNat) (tkv b n (nxt b n q))) (180 + (Z 2).toNat) (zw b n Z (nxt b n (nxt b n q)) 100 (Z 0).toNat)) (190 + (Z 2).toNat) (tkv b n (nxt b n (nxt b n (nxt b n q))))) (200 + (Z 2).toNat) (tkv b n (nxt b n (nxt b n (nxt b n (nxt b n q)))))) 2 (Z 2 + 1)
def zDb (b : Nat → Int) (n : Nat) (Z : Nat → Int) (q : Nat) : Nat → Int :=
  zs (zs (zs (zs Z (210 + (Z 3).toNat) (zw b n Z (nxt b n q) 170 (Z 2).toNat)) (220 + (Z 3).toNat) (tkv b n (nxt b n (nxt b n q)))) (230 + (Z 3).toNat) (if tkc b n (nxt b n (nxt b n (nxt b n q))) = 26 then 1 else 0)) 3 (Z 3 + 1)
def zl0 (Z : Nat → Int) (w : Nat) : Nat → Int := zs (zs (zs (zs (zs (zs Z (240 + w) (Z 10)) (250 + w) (Z 10)) 11 0) 12 0) 13 1) 14 0
def sLw (b : Nat → Int) (n : Nat) (Z : Nat → Int) (q : Nat) : Int × Nat × (Nat → Int) × Nat :=
  if tkc b n (nxt b n q) < 27 ∨ 29 < tkc b n (nxt b n q) then (1, nxt b n q, Z, q)
  else if Z (240 + (tkc b n (nxt b n q) - 27).toNat) < Z (250 + (tkc b n (nxt b n q) - 27).toNat) then (3, nxt b n q, Z, q)
  else ((zE b n (n + 1) (zl0 Z (tkc b n (nxt b n q) - 27).toNat) (nxt b n (nxt b n q))).1, (zE b n (n + 1) (zl0 Z (tkc b n (nxt b n q) - 27).toNat) (nxt b n (nxt b n q))).2.1,
    zs (zE b n (n + 1) (zl0 Z (tkc b n (nxt b n q) - 27).toNat) (nxt b n (nxt b n q))).2.2.1 (250 + (tkc b n (nxt b n q) - 27).toNat) ((zE b n (n + 1) (zl0 Z (tkc b n (nxt b n q) - 27).toNat) (nxt b n (nxt b n q))).2.2.1 10),
    (zE b n (n + 1) (zl0 Z (tkc b n (nxt b n q) - 27).toNat) (nxt b n (nxt b n q))).2.2.2)
def sLn (b : Nat → Int) (n : Nat) (Z : Nat → Int) (q : Nat) : Int × Nat × (Nat → Int) × Nat :=
  if tkc b n q = 20 then ((sRg b n (fun k => Z (100 + k)) (Z 0).toNat q).1, (sRg b n (fun k => Z (100 + k)) (Z 0).toNat q).2, zRg b n Z q, nxt b n (nxt b n (nxt b n (nxt b n (nxt b n q)))))
  else if tkc b n q = 21 then ((sJn b n (fun k => Z (100 + k)) (Z 0).toNat (fun k => Z (140 + k)) (fun k => Z (150 + k)) (Z 1).toNat q).1, (sJn b n (fun k => Z (100 + k)) (Z 0).toNat (fun k => Z (140 + k)) (fun k => Z (150 + k)) (Z 1).toNat q).2, zJn b n Z q, nxt b n (nxt b n (nxt b n (nxt b n q))))
  else if tkc b n q = 22 then ((sPn b n (fun k => Z (170 + k)) (Z 2).toNat (fun k => Z (100 + k)) (Z 0).toNat q).1, (sPn b n (fun k => Z (170 + k)) (Z 2).toNat (fun k => Z (100 + k)) (Z 0).toNat q).2, zPn b n Z q, nxt b n (nxt b n (nxt b n (nxt b n (nxt b n q)))))
  else if tkc b n q = 23 then ((sDb b n (fun k => Z (170 + k)) (Z 2).toNat (fun k => Z (210 + k)) (Z 3).toNat q).1, (sDb b n (fun k => Z (170 + k)) (Z 2).toNat (fun k => Z (210 + k)) (Z 3).toNat q).2, zDb b n Z q, if tkc b n (nxt b n (nxt b n (nxt b n q))) = 26 then nxt b n (nxt b n (nxt b n (nxt b n q))) else nxt b n (nxt b n (nxt b n q)))
  else if tkc b n q = 24 then (if Z 4 = 1 then (3, q, Z, q) else (sNu b n (nxt b n q) 0 8, nxt b n q, zs (zs Z 4 1) 5 (tkv b n (nxt b n q)), nxt b n (nxt b n q)))
  else if tkc b n q = 25 then sLw b n Z q
  else (1, q, Z, q)
/-- a whole text: lines or -1, fault, place, what is known -/
def sTx (b : Nat → Int) (n : Nat) : Nat → Int → (Nat → Int) → Nat → Int × Int × Int × (Nat → Int)
  | 0, k, Z, _ => (k, 0, -1, Z)
  | m + 1, k, Z, q => if tkc b n q = 0 then (k, 0, -1, Z)
    else if ¬ (sLn b n Z q).1 = 0 then (-1, (sLn b n Z q).1, ((sLn b n Z q).2.1 : Nat), Z)
    else if ¬ tkc b n (sLn b n Z q).2.2.2 = 4 then (-1, 1, ((sLn b n Z q).2.2.2 : Nat), Z)
    else sTx b n m (k + 1) (sLn b n Z q).2.2.1 (nxt b n (sLn b n Z q).2.2.2)
def zZ0 : Nat → Int := fun j => if j = 5 then 2 else 0
def sText (b : Nat → Int) (n : Nat) : Int × Int × Int × (Nat → Int) := sTx b n 701 0 zZ0 (sSk b n 0)
