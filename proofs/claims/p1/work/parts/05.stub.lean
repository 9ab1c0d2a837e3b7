theorem xk (M pc : Nat) : xchk M pc = true := sorry
