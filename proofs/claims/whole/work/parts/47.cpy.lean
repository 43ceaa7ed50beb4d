/-! MODEL: parts of the row copied; orders kept -/
def rci (u_r : Nat → Int32) (u_a u_b i : Nat) : Nat → Int32 := fun x => if u_b ≤ x ∧ x < u_b + i then u_r (x - u_b + u_a) else u_r x
theorem rci_0 (u_r : Nat → Int32) (u_a u_b : Nat) : rci u_r u_a u_b 0 = u_r := by funext x; unfold rci; rw [if_neg (by omega)]
theorem rci_s (u_r : Nat → Int32) {u_a u_b i : Nat} (h : u_a + 76 ≤ u_b ∨ u_b + 76 ≤ u_a) (hi : i < 76) : upd (rci u_r u_a u_b i) (u_b + i) (rci u_r u_a u_b i (u_a + i)) = rci u_r u_a u_b (i + 1) := by
  funext x
  unfold upd rci
  by_cases e : x = u_b + i
  · rw [if_pos e, if_neg (by omega), if_pos (by omega), show x - u_b + u_a = u_a + i by omega]
  · rw [if_neg e]
    by_cases e2 : u_b ≤ x ∧ x < u_b + i
    · rw [if_pos e2, if_pos (by omega)]
    · rw [if_neg e2, if_neg (by omega)]
/-- only the row has changed, and is now u_r -/
def RW (S S1 : ST) (u_r : Nat → Int32) : Prop := S1.1 = S.1 ∧ S1.2.1 = S.2.1 ∧ S1.2.2.1 = S.2.2.1 ∧ (sM S1).1 = (sM S).1 ∧ (sM S1).2.2 = (sM S).2.2 ∧ sO S1 = sO S ∧ (sM S1).2.1 = u_r
theorem RW.r (S : ST) : RW S S (sM S).2.1 := ⟨rfl, rfl, rfl, rfl, rfl, rfl, rfl⟩
theorem RW.put {S S1 S2 : ST} {u_r : Nat → Int32} (h : RW S S1 u_r) {x : Nat} {v : Int32} (e : S2 = setM S1 (mRo (sM S1) x v)) : RW S S2 (upd u_r x v) := by
  subst e
  exact ⟨h.1, h.2.1, h.2.2.1, h.2.2.2.1, h.2.2.2.2.1, h.2.2.2.2.2.1, congrArg (fun q => upd q x v) h.2.2.2.2.2.2⟩
theorem RW.cg {S S1 : ST} {u_r u_q : Nat → Int32} (h : RW S S1 u_r) (e : u_r = u_q) : RW S S1 u_q := e ▸ h
/-- the orders of members are kept -/
theorem MmOk.ins {n P : Nat} {mm : Nat → Nat → Int32} {a b d : Int32} (hM : MmOk n mm) (hP : P ≤ n) : MmOk (n + 1) (mins mm P (mfresh a b d)) := by
  refine ⟨?_, fun X hX => ?_⟩
  · unfold mins
    split
    · exact hM.1
    · split
      · rfl
      · split
        · rfl
        · omega
  · rcases (show X < P ∨ X = P ∨ X = P + 1 ∨ P + 1 < X by omega) with q | q | q | q
    · rw [mins_lo q]; exact hM.2 X (by omega)
    · subst q; rw [mins_at]; exact Or.inl rfl
    · subst q; rw [mins_p1]; exact Or.inl rfl
    · rw [mins_hi q]; exact hM.2 (X - 1) (by omega)
theorem MmOk.rem {n P : Nat} {mm : Nat → Nat → Int32} (hM : MmOk n mm) (hP : P < n) : MmOk (n - 1) (mrem mm P) := by
  refine ⟨?_, fun X hX => ?_⟩
  · rcases Nat.eq_zero_or_pos P with q | q
    · subst q; rw [mrem_at]; rfl
    · rw [mrem_lo q]; exact hM.1
  · rcases (show X < P ∨ X = P ∨ P < X by omega) with q | q | q
    · rw [mrem_lo q]; exact hM.2 X (by omega)
    · subst q; rw [mrem_at]; exact Or.inl rfl
    · rw [mrem_hi q]; exact hM.2 (X + 1) (by omega)
theorem MmOk.up {n P i : Nat} {mm : Nat → Nat → Int32} {v : Int32} (hM : MmOk n mm) (hi : i ≠ 6) : MmOk n (up2 mm P i v) := by
  have e : ∀ X, up2 mm P i v X 6 = mm X 6 := fun X => by unfold up2; rw [if_neg (fun y => hi y.2.symm)]
  exact ⟨(e 0).trans hM.1, fun X hX => by rw [e]; exact hM.2 X hX⟩
theorem MmOk.fr {n P : Nat} {mm : Nat → Nat → Int32} {v : Int32} (hM : MmOk n mm) (hv : v = 0 ∨ v = 1) : MmOk n (up2 mm (P + 1) 6 v) := by
  refine ⟨?_, fun X hX => ?_⟩
  · unfold up2; rw [if_neg (by omega)]; exact hM.1
  · unfold up2
    split
    · exact hv
    · exact hM.2 X hX
theorem MmOk.tru {n : Nat} {mm : Nat → Nat → Int32} (hM : MmOk n mm) : MmOk n (mtruth mm) := hM
