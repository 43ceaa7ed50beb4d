/-! MODEL: a state as a part of a row -/
def mfr (n : Nat) (mm : Nat → Nat → Int32) (P : Nat) : Int32 := if P + 1 < n then mm (P + 1) 6 else 0
def RowIs (u_r : Nat → Int32) (o n : Nat) (z : Nat → Int32) (mm : Nat → Nat → Int32) : Prop :=
  n ≤ 10 ∧ u_r o = nI n ∧ (u_r (o + 1) = z 3 ∧ u_r (o + 2) = z 4 ∧ u_r (o + 3) = z 5 ∧ u_r (o + 4) = z 6 ∧ u_r (o + 5) = z 7) ∧ (∀ P i, P < n → i < 6 → u_r (o + (6 + 7 * P + i)) = mm P i) ∧ ∀ P, P < n → u_r (o + (6 + 7 * P + 6)) = mfr n mm P
/-- the members are in order: bits are bits, nobody is ahead of the first -/
def MmOk (n : Nat) (mm : Nat → Nat → Int32) : Prop := mm 0 6 = 0 ∧ ∀ P, P < n → mm P 6 = 0 ∨ mm P 6 = 1
def RI (S : ST) (n : Nat) (z : Nat → Int32) (mm : Nat → Nat → Int32) : Prop := RowIs ((sM S).2.1) 0 n z mm
theorem nI_mul (a b : Nat) : nI a * nI b = nI (a * b) := (Int32.ofNat_mul a b).symm
theorem ix7 {p q : Int32} {P i : Nat} (hp : p = nI P) (hq : q = nI i) : 6 + 7 * p + q = nI (6 + 7 * P + i) := by
  subst hp; subst hq
  show nI 6 + nI 7 * nI P + nI i = _
  rw [nI_mul, nI_add, nI_add]
section RIs
variable {S : ST} {n : Nat} {z : Nat → Int32} {mm : Nat → Nat → Int32}
theorem RI.n10 (h : RI S n z mm) : n ≤ 10 := h.1
theorem RI.many (h : RI S n z mm) : (sM S).2.1 0 = nI n := h.2.1
theorem RI.split (h : RI S n z mm) : (sM S).2.1 1 = z 3 := h.2.2.1.1
theorem RI.mb (h : RI S n z mm) {P i : Nat} (hP : P < n) (hi : i < 6) : (sM S).2.1 (6 + 7 * P + i) = mm P i := by have := h.2.2.2.1 P i hP hi; rw [Nat.zero_add] at this; exact this
theorem RI.fr (h : RI S n z mm) {P : Nat} (hP : P < n) : (sM S).2.1 (6 + 7 * P + 6) = mfr n mm P := by have := h.2.2.2.2 P hP; rw [Nat.zero_add] at this; exact this
theorem mfr_b (hM : MmOk n mm) (P : Nat) : mfr n mm P = 0 ∨ mfr n mm P = 1 := by
  unfold mfr; split
  · rename_i h; exact hM.2 _ h
  · exact Or.inl rfl
/-- what the line asks, by places -/
theorem g_in (hn : n ≤ 10) {P : Nat} (hP : P < n) (i : Nat) : gof n mm (nI P) i = mm P i := gof_in mm hn hP i
theorem g_in1 (hn : n ≤ 10) {P : Nat} (hP : P + 1 < n) (i : Nat) : gof n mm (nI P + 1) i = mm (P + 1) i := by rw [nI_1]; exact gof_in mm hn hP i
theorem g_fr (hn : n ≤ 10) {P : Nat} (hP : P < n) : gof n mm (nI P + 1) 6 = mfr n mm P := by
  rw [nI_1]; unfold mfr; split
  · rename_i h; exact gof_in mm hn h 6
  · rename_i h; rw [gof_far mm (by omega) (by omega)]; rfl
theorem fr_in (hn : n ≤ 10) {P : Nat} (hP : P < n) : f_fr (gof n mm) (nI P) = mfr n mm P := g_fr hn hP
theorem gain_in (hn : n ≤ 10) {P : Nat} (hP : P + 1 < n) : f_gain (gof n mm) (nI P) = mm (P + 1) 2 * mm P 3 := by unfold f_gain; rw [g_in1 hn hP, g_in hn (by omega)]
theorem loss_in (hn : n ≤ 10) {P : Nat} (hP : P + 1 < n) : f_loss (gof n mm) (nI P) = mm P 2 * mm (P + 1) 3 := by unfold f_loss; rw [g_in1 hn hP, g_in hn (by omega)]
end RIs
