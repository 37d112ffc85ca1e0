-- a line from sign a to sign b, measured
def dlR (rm : Nat → Nat) (x : Nat) : Nat → Nat
  | 0 => x
  | r + 1 => dlR rm x r - min (rm (r + 1)) (dlR rm x r)
def dlC (rm : Nat → Nat) (x : Nat) : Nat → Nat
  | 0 => 0
  | r + 1 => dlC rm x r + (r + 1) * min (rm (r + 1)) (dlR rm x r)
theorem dlR_le (rm : Nat → Nat) (x : Nat) : ∀ r, dlR rm x r ≤ x
  | 0 => Nat.le_refl _
  | r + 1 => Nat.le_trans (Nat.sub_le _ _) (dlR_le rm x r)
def msN (tb : Tb) (p : Pg) (a b : Nat) : Nat := sm (fx tb p 0) (b + 1) - sm (fx tb p 0) a - fx tb p 4 b
/-- it would hang, as far as its length goes -/
def msH (tb : Tb) (p : Pg) (a b : Nat) : Bool := decide (pd p < msN tb p a b ∧ a < b ∧ fx tb p 3 b = 1)
/-- what must stand inside the width -/
def msA (tb : Tb) (p : Pg) (a b : Nat) : Nat := if msH tb p a b = true then sm (fx tb p 0) b - sm (fx tb p 0) a else msN tb p a b
def msQ (tb : Tb) (p : Pg) (a b r : Nat) : Nat := sm (fQ tb p r) b - sm (fQ tb p r) a + (if fx tb p 6 b = r ∧ msH tb p a b = false then fx tb p 5 b - fx tb p 4 b else 0)
def msO (tb : Tb) (p : Pg) (a b r : Nat) : Nat := sm (fO tb p r) b - sm (fO tb p r) a
def msM (tb : Tb) (p : Pg) (a b : Nat) : Nat := msA tb p a b - pd p
def msL (tb : Tb) (p : Pg) (a b : Nat) : Nat := if b + 1 < pn p then pd p - msA tb p a b else 0
/-- it is too long -/
def mlong (tb : Tb) (p : Pg) (a b : Nat) : Bool := decide (0 < dlR (msQ tb p a b) (msM tb p a b) 3)
def mhung (tb : Tb) (p : Pg) (a b : Nat) : Bool := msH tb p a b && !mlong tb p a b
def mtake (tb : Tb) (p : Pg) (a b : Nat) : Nat := if mlong tb p a b = true then 0 else msM tb p a b
def mleft (tb : Tb) (p : Pg) (a b : Nat) : Nat := dlR (msO tb p a b) (msL tb p a b) 3
def mput (tb : Tb) (p : Pg) (a b : Nat) : Nat := msL tb p a b - mleft tb p a b
def mbad (p : Pg) (b : Nat) : Nat := if lgl p b = true then 0 else pw p 2
def mcost (tb : Tb) (p : Pg) (a b : Nat) : Nat := if mlong tb p a b = true then pw p 2 + mbad p b else (if msH tb p a b = true then pw p 0 else 0) + dlC (msQ tb p a b) (msM tb p a b) 3 + dlC (msO tb p a b) (msL tb p a b) 3 + mleft tb p a b * pw p 1 + mbad p b
