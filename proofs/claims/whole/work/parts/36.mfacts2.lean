/-! MODEL: faults; one number of a row -/
theorem mf1_ne {p0 : Int32} (h : ¬ p0 = -1) : f_mf p0 1 = 0 := by unfold f_mf; rw [if_neg h]; rfl
theorem mf1_eq {p0 : Int32} (h : p0 = -1) : f_mf p0 1 = 1 := by unfold f_mf; rw [if_pos h]
theorem hind5 (g : Int32 → Nat → Int32) (p : Int32) : f_hind g p = 0 ∨ 0 < f_hind g p := by
  unfold f_hind
  split
  · split
    · split
      · split
        · exact Or.inl rfl
        · exact Or.inr (by decide)
      · exact Or.inr (by decide)
    · exact Or.inr (by decide)
  · exact Or.inr (by decide)
theorem place_ne {n : Nat} {mm : Nat → Nat → Int32} {q : Int32} (h : ¬ f_place (gof n mm) n q = -1) : ∃ P, P < n ∧ f_place (gof n mm) n q = nI P := by
  rcases place_c (g := gof n mm) (n := n) (q := q) with ⟨h1, _⟩ | ⟨P, hP, h1, _⟩
  · exact absurd h1 h
  · exact ⟨P, hP, h1⟩
theorem jn_g {n P : Nat} {mm : Nat → Nat → Int32} (hn : n ≤ 10) (hM : MmOk n mm) : gof n mm (nI P) 6 = gof n mm (nI P) 6 := rfl
/-- a number of a member, written -/
theorem RI.put {S S1 : ST} {n : Nat} {z : Nat → Int32} {mm : Nat → Nat → Int32} (h : RI S n z mm) {P i : Nat} (hP : P < n) (hi : i < 6) {v : Int32} (e : S1 = setM S (mRo (sM S) (6 + 7 * P + i) v)) : RI S1 n z (up2 mm P i v) := by
  have e0 : ∀ x, (sM S1).2.1 x = if x = 6 + 7 * P + i then v else (sM S).2.1 x := fun x => by rw [e]; rfl
  have h10 := h.1
  obtain ⟨h1, h2, ⟨a1, a2, a3, a4, a5⟩, h4, h5⟩ := h
  refine ⟨h1, ?_, ⟨?_, ?_, ?_, ?_, ?_⟩, fun X q hX hq => ?_, fun X hX => ?_⟩
  · rw [e0, if_neg (by omega)]; exact h2
  · rw [e0, if_neg (by omega)]; exact a1
  · rw [e0, if_neg (by omega)]; exact a2
  · rw [e0, if_neg (by omega)]; exact a3
  · rw [e0, if_neg (by omega)]; exact a4
  · rw [e0, if_neg (by omega)]; exact a5
  · rw [e0]; unfold up2
    by_cases hc : X = P ∧ q = i
    · rw [if_pos (by omega), if_pos hc]
    · rw [if_neg (by omega), if_neg hc]; exact h4 X q hX hq
  · rw [e0, if_neg (by omega), h5 X hX]
    unfold mfr up2
    split
    · rw [if_neg (fun q => by omega)]
    · rfl
/-- a friend's bit, written -/
theorem RI.putf {S S1 : ST} {n : Nat} {z : Nat → Int32} {mm : Nat → Nat → Int32} (h : RI S n z mm) {P : Nat} (hP : P + 1 < n) {v : Int32} (e : S1 = setM S (mRo (sM S) (6 + 7 * P + 6) v)) : RI S1 n z (up2 mm (P + 1) 6 v) := by
  have e0 : ∀ x, (sM S1).2.1 x = if x = 6 + 7 * P + 6 then v else (sM S).2.1 x := fun x => by rw [e]; rfl
  obtain ⟨h1, h2, ⟨a1, a2, a3, a4, a5⟩, h4, h5⟩ := h
  refine ⟨h1, ?_, ⟨?_, ?_, ?_, ?_, ?_⟩, fun X q hX hq => ?_, fun X hX => ?_⟩
  · rw [e0, if_neg (by omega)]; exact h2
  · rw [e0, if_neg (by omega)]; exact a1
  · rw [e0, if_neg (by omega)]; exact a2
  · rw [e0, if_neg (by omega)]; exact a3
  · rw [e0, if_neg (by omega)]; exact a4
  · rw [e0, if_neg (by omega)]; exact a5
  · rw [e0, if_neg (by omega)]; unfold up2
    rw [if_neg (by omega)]; exact h4 X q hX hq
  · rw [e0]
    unfold mfr up2
    by_cases hc : X = P
    · subst hc; rw [if_pos (by omega), if_pos hP, if_pos ⟨rfl, rfl⟩]
    · rw [if_neg (by omega), h5 X hX]
      unfold mfr
      split
      · rw [if_neg (by omega)]
      · rfl
/-- only the row's present part has changed -/
def RO (S S1 : ST) : Prop := S1.1 = S.1 ∧ S1.2.1 = S.2.1 ∧ S1.2.2.1 = S.2.2.1 ∧ (sM S1).1 = (sM S).1 ∧ (sM S1).2.2 = (sM S).2.2 ∧ sO S1 = sO S ∧ ∀ x, 76 ≤ x → (sM S1).2.1 x = (sM S).2.1 x
theorem RO.r (S : ST) : RO S S := ⟨rfl, rfl, rfl, rfl, rfl, rfl, fun _ _ => rfl⟩
theorem RO.t {S S1 S2 : ST} (h : RO S S1) (h2 : RO S1 S2) : RO S S2 := ⟨h2.1.trans h.1, h2.2.1.trans h.2.1, h2.2.2.1.trans h.2.2.1, h2.2.2.2.1.trans h.2.2.2.1, h2.2.2.2.2.1.trans h.2.2.2.2.1, h2.2.2.2.2.2.1.trans h.2.2.2.2.2.1, fun x hx => (h2.2.2.2.2.2.2 x hx).trans (h.2.2.2.2.2.2 x hx)⟩
theorem RO.put {S S1 : ST} {x : Nat} {v : Int32} (hx : x < 76) (e : S1 = setM S (mRo (sM S) x v)) : RO S S1 := by
  subst e
  refine ⟨rfl, rfl, rfl, rfl, rfl, rfl, fun y hy => ?_⟩
  show (if y = x then v else (sM S).2.1 y) = _
  rw [if_neg (by omega)]
/-- one of the five numbers behind the count -/
theorem RI.putz {S S1 : ST} {n : Nat} {z : Nat → Int32} {mm : Nat → Nat → Int32} (h : RI S n z mm) {x : Nat} (h1x : 1 ≤ x) (h5x : x ≤ 5) {v : Int32} (e : S1 = setM S (mRo (sM S) x v)) : RI S1 n (upd z (x + 2) v) mm := by
  have e0 : ∀ y, (sM S1).2.1 y = if y = x then v else (sM S).2.1 y := fun y => by rw [e]; rfl
  obtain ⟨h1, h2, ⟨a1, a2, a3, a4, a5⟩, h4, h5⟩ := h
  have hz : ∀ k, (sM S).2.1 (0 + k) = z (k + 2) → (sM S1).2.1 (0 + k) = upd z (x + 2) v (k + 2) := fun k hk => by
    rw [e0]; unfold upd
    by_cases hc : k = x
    · subst hc; rw [if_pos (by omega), if_pos rfl]
    · rw [if_neg (by omega), if_neg (by omega)]; exact hk
  refine ⟨h1, ?_, ⟨hz 1 a1, hz 2 a2, hz 3 a3, hz 4 a4, hz 5 a5⟩, fun X q hX hq => ?_, fun X hX => ?_⟩
  · rw [e0, if_neg (by omega)]; exact h2
  · rw [e0, if_neg (by omega)]; exact h4 X q hX hq
  · rw [e0, if_neg (by omega)]; exact h5 X hX
