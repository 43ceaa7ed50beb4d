/-! MODEL: the row as six numbers and ten places of seven -/
def UZ (S : ST) (u_r : Nat → Int32) (u_u : Nat → Nat → Int32) : Prop := (∀ x, x < 6 → (sM S).2.1 x = u_r x) ∧ ∀ P i, P < 10 → i < 7 → (sM S).2.1 (6 + 7 * P + i) = u_u P i
theorem UZ.rf (S : ST) : UZ S (sM S).2.1 (fun P i => (sM S).2.1 (6 + 7 * P + i)) := ⟨fun _ _ => rfl, fun _ _ _ _ => rfl⟩
theorem UZ.set {S S1 : ST} {u_r : Nat → Int32} {u_u : Nat → Nat → Int32} (h : UZ S u_r u_u) {P i : Nat} {v : Int32} (hi : i < 7) (e : S1 = setM S (mRo (sM S) (6 + 7 * P + i) v)) : UZ S1 u_r (up2 u_u P i v) := by
  have e0 : ∀ x, (sM S1).2.1 x = if x = 6 + 7 * P + i then v else (sM S).2.1 x := fun x => by rw [e]; rfl
  refine ⟨fun x hx => ?_, fun X k hX hk => ?_⟩
  · rw [e0, if_neg (by omega)]; exact h.1 x hx
  · rw [e0]; unfold up2
    by_cases hc : X = P ∧ k = i
    · rw [if_pos (by omega), if_pos hc]
    · rw [if_neg (by omega), if_neg hc]; exact h.2 X k hX hk
theorem UZ.head {S S1 : ST} {u_r : Nat → Int32} {u_u : Nat → Nat → Int32} (h : UZ S u_r u_u) {x : Nat} {v : Int32} (hx : x < 6) (e : S1 = setM S (mRo (sM S) x v)) : UZ S1 (upd u_r x v) u_u := by
  have e0 : ∀ y, (sM S1).2.1 y = if y = x then v else (sM S).2.1 y := fun y => by rw [e]; rfl
  refine ⟨fun y hy => ?_, fun X k hX hk => ?_⟩
  · rw [e0]; unfold upd
    by_cases hc : y = x
    · rw [if_pos hc, if_pos hc]
    · rw [if_neg hc, if_neg hc]; exact h.1 y hy
  · rw [e0, if_neg (by omega)]; exact h.2 X k hX hk
theorem UZ.cg {S : ST} {u_r u_r2 : Nat → Int32} {u_u u_u2 : Nat → Nat → Int32} (h : UZ S u_r u_u) (h1 : ∀ x, x < 6 → u_r x = u_r2 x) (h2 : ∀ P i, P < 10 → i < 7 → u_u P i = u_u2 P i) : UZ S u_r2 u_u2 := ⟨fun x hx => (h.1 x hx).trans (h1 x hx), fun P i hP hi => (h.2 P i hP hi).trans (h2 P i hP hi)⟩
def ubi (u_u : Nat → Nat → Int32) (p q i : Nat) : Nat → Nat → Int32 := fun X k => if X = q ∧ k < i then u_u p k else u_u X k
def ubr (u_u : Nat → Nat → Int32) (p q : Nat) : Nat → Nat → Int32 := fun X => if X = q then u_u p else u_u X
theorem ubi_s (u_u : Nat → Nat → Int32) {p q i : Nat} {v : Int32} (hv : v = u_u p i) : up2 (ubi u_u p q i) q i v = ubi u_u p q (i + 1) := by
  funext X k
  unfold up2 ubi
  by_cases h : X = q ∧ k = i
  · rw [if_pos h, if_pos (by omega), hv, h.2]
  · rw [if_neg h]
    by_cases h2 : X = q ∧ k < i
    · rw [if_pos h2, if_pos (by omega)]
    · rw [if_neg h2, if_neg (by omega)]
def ujs (u_u : Nat → Nat → Int32) (i n : Nat) : Nat → Nat → Int32 := fun X => if i < X ∧ X ≤ n then u_u (X - 1) else u_u X
theorem ujs_s (u_u : Nat → Nat → Int32) {i n : Nat} (h : i + 1 ≤ n) : ubr (ujs u_u (i + 1) n) i (i + 1) = ujs u_u i n := by
  funext X
  unfold ubr ujs
  by_cases e : X = i + 1
  · subst e
    rw [if_pos rfl, if_neg (by omega), if_pos (by omega), show i + 1 - 1 = i by omega]
  · rw [if_neg e]
    by_cases h2 : i + 1 < X ∧ X ≤ n
    · rw [if_pos h2, if_pos (by omega)]
    · rw [if_neg h2, if_neg (by omega)]
def usl (u_u : Nat → Nat → Int32) (P i : Nat) : Nat → Nat → Int32 := fun X => if P ≤ X ∧ X < i then u_u (X + 1) else u_u X
theorem usl_s (u_u : Nat → Nat → Int32) {P i : Nat} (h : P ≤ i) : ubr (usl u_u P i) (i + 1) i = usl u_u P (i + 1) := by
  funext X
  unfold ubr usl
  by_cases e : X = i
  · subst e
    rw [if_pos rfl, if_neg (by omega), if_pos (by omega)]
  · rw [if_neg e]
    by_cases h2 : P ≤ X ∧ X < i
    · rw [if_pos h2, if_pos (by omega)]
    · rw [if_neg h2, if_neg (by omega)]
theorem usl_0 (u_u : Nat → Nat → Int32) (P : Nat) : usl u_u P P = u_u := by funext X; unfold usl; rw [if_neg (by omega)]
theorem ujs_0 (u_u : Nat → Nat → Int32) (n : Nat) : ujs u_u n n = u_u := by funext X; unfold ujs; rw [if_neg (by omega)]
theorem ubi_0 (u_u : Nat → Nat → Int32) (p q : Nat) : ubi u_u p q 0 = u_u := by funext X k; unfold ubi; rw [if_neg (by omega)]
theorem ubi_7 {S : ST} {u_r : Nat → Int32} {u_u : Nat → Nat → Int32} {p q : Nat} (h : UZ S u_r (ubi u_u p q 7)) : UZ S u_r (ubr u_u p q) := h.cg (fun _ _ => rfl) (fun X k hX hk => by
  unfold ubi ubr
  by_cases e : X = q
  · rw [if_pos ⟨e, hk⟩, if_pos e]
  · rw [if_neg (fun y => e y.1), if_neg e])
/-- a queue out of numbers -/
theorem RI.of {S : ST} {u_r : Nat → Int32} {u_u : Nat → Nat → Int32} {n : Nat} {z : Nat → Int32} {mm : Nat → Nat → Int32} (h : UZ S u_r u_u) (hn : n ≤ 10) (h0 : u_r 0 = nI n) (hz : ∀ k, 1 ≤ k → k ≤ 5 → u_r k = z (k + 2)) (hm : ∀ P i, P < n → i < 6 → u_u P i = mm P i) (hf : ∀ P, P < n → u_u P 6 = mfr n mm P) : RI S n z mm := by
  refine ⟨hn, (h.1 0 (by omega)).trans h0, ⟨?_, ?_, ?_, ?_, ?_⟩, fun P i hP hi => ?_, fun P hP => ?_⟩
  · exact (h.1 1 (by omega)).trans (hz 1 (by omega) (by omega))
  · exact (h.1 2 (by omega)).trans (hz 2 (by omega) (by omega))
  · exact (h.1 3 (by omega)).trans (hz 3 (by omega) (by omega))
  · exact (h.1 4 (by omega)).trans (hz 4 (by omega) (by omega))
  · exact (h.1 5 (by omega)).trans (hz 5 (by omega) (by omega))
  · rw [Nat.zero_add]; exact (h.2 P i (by omega) (by omega)).trans (hm P i hP hi)
  · rw [Nat.zero_add]; exact (h.2 P 6 (by omega) (by omega)).trans (hf P hP)
