/-! MODEL: what joining and going make of the places -/
def ujo (u_u : Nat → Nat → Int32) (n P : Nat) : Nat → Nat → Int32 := if P < n then up2 (ujs u_u P n) (P + 1) 5 (-1) else ujs u_u P n
def ujn (u_u : Nat → Nat → Int32) (n P : Nat) (a b d : Int32) : Nat → Nat → Int32 := up2 (up2 (up2 (up2 (up2 (up2 (up2 (ujo u_u n P) P 0 a) P 1 b) P 2 b) P 3 d) P 4 0) P 5 (-1)) P 6 0
def ug1 (u_u : Nat → Nat → Int32) (P : Nat) : Nat → Nat → Int32 := if 0 < P then up2 u_u (P - 1) 6 0 else u_u
def ugo (u_u : Nat → Nat → Int32) (n P : Nat) : Nat → Nat → Int32 := if P < n - 1 then up2 (usl (ug1 u_u P) P (n - 1)) P 5 (-1) else usl (ug1 u_u P) P (n - 1)
