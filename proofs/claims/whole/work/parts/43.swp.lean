/-! MODEL: a swap of places -/
def uswi (u_u : Nat → Nat → Int32) (P i : Nat) : Nat → Nat → Int32 := fun X k => if k < i ∧ X = P then u_u (P + 1) k else if k < i ∧ X = P + 1 then u_u P k else u_u X k
theorem uswi_0 (u_u : Nat → Nat → Int32) (P : Nat) : uswi u_u P 0 = u_u := by funext X k; unfold uswi; rw [if_neg (by omega), if_neg (by omega)]
theorem uswi_s (u_u : Nat → Nat → Int32) {P i : Nat} {a b : Int32} (ha : a = u_u (P + 1) i) (hb : b = u_u P i) : up2 (up2 (uswi u_u P i) P i a) (P + 1) i b = uswi u_u P (i + 1) := by
  funext X k
  unfold up2 uswi
  by_cases e1 : X = P + 1 ∧ k = i
  · rw [if_pos e1, if_neg (by omega), if_pos (by omega), hb, e1.2]
  · rw [if_neg e1]
    by_cases e2 : X = P ∧ k = i
    · rw [if_pos e2, if_pos (by omega), ha, e2.2]
    · rw [if_neg e2]
      by_cases e3 : k < i ∧ X = P
      · rw [if_pos e3, if_pos (by omega)]
      · rw [if_neg e3]
        by_cases e4 : k < i ∧ X = P + 1
        · rw [if_pos e4, if_neg (by omega), if_pos (by omega)]
        · rw [if_neg e4, if_neg (by omega), if_neg (by omega)]
theorem uswi_a (u_u : Nat → Nat → Int32) (P i : Nat) : uswi u_u P i (P + 1) i = u_u (P + 1) i := by unfold uswi; rw [if_neg (by omega), if_neg (by omega)]
theorem uswi_b (u_u : Nat → Nat → Int32) (P i : Nat) : uswi u_u P i P i = u_u P i := by unfold uswi; rw [if_neg (by omega), if_neg (by omega)]
def us2 (u_u : Nat → Nat → Int32) (n P : Nat) : Nat → Nat → Int32 := if P + 2 < n then up2 (up2 (up2 (uswi u_u P 7) P 5 (-1)) (P + 1) 5 (-1)) (P + 2) 5 (-1) else up2 (up2 (uswi u_u P 7) P 5 (-1)) (P + 1) 5 (-1)
def us4 (u_u : Nat → Nat → Int32) (n P : Nat) : Nat → Nat → Int32 := up2 (up2 (us2 u_u n P) P 6 0) (P + 1) 6 0
def usw (u_u : Nat → Nat → Int32) (n P : Nat) (pr : Int32) : Nat → Nat → Int32 := up2 (up2 (us4 u_u n P) P 4 (u_u (P + 1) 4 - pr)) (P + 1) 4 (u_u P 4 + pr)
theorem us2_v (u_u : Nat → Nat → Int32) (n P X k : Nat) : us2 u_u n P X k = if k = 5 ∧ (X = P ∨ X = P + 1 ∨ (X = P + 2 ∧ P + 2 < n)) then -1 else uswi u_u P 7 X k := by
  unfold us2
  by_cases c : P + 2 < n
  · rw [if_pos c]; unfold up2
    by_cases e : X = P + 2 ∧ k = 5
    · rw [if_pos e, if_pos (by omega)]
    · rw [if_neg e]
      by_cases e2 : X = P + 1 ∧ k = 5
      · rw [if_pos e2, if_pos (by omega)]
      · rw [if_neg e2]
        by_cases e3 : X = P ∧ k = 5
        · rw [if_pos e3, if_pos (by omega)]
        · rw [if_neg e3, if_neg (by omega)]
  · rw [if_neg c]; unfold up2
    by_cases e2 : X = P + 1 ∧ k = 5
    · rw [if_pos e2, if_pos (by omega)]
    · rw [if_neg e2]
      by_cases e3 : X = P ∧ k = 5
      · rw [if_pos e3, if_pos (by omega)]
      · rw [if_neg e3, if_neg (by omega)]
theorem us4_v (u_u : Nat → Nat → Int32) (n P X k : Nat) : us4 u_u n P X k = if k = 6 ∧ (X = P ∨ X = P + 1) then 0 else us2 u_u n P X k := by
  unfold us4 up2
  by_cases e2 : X = P + 1 ∧ k = 6
  · rw [if_pos e2, if_pos (by omega)]
  · rw [if_neg e2]
    by_cases e3 : X = P ∧ k = 6
    · rw [if_pos e3, if_pos (by omega)]
    · rw [if_neg e3, if_neg (by omega)]
theorem us4_a (u_u : Nat → Nat → Int32) (n P : Nat) : us4 u_u n P P 4 = u_u (P + 1) 4 := by
  rw [us4_v, if_neg (by omega), us2_v, if_neg (by omega)]; unfold uswi; rw [if_pos (by omega)]
theorem us4_b (u_u : Nat → Nat → Int32) (n P : Nat) : us4 u_u n P (P + 1) 4 = u_u P 4 := by
  rw [us4_v, if_neg (by omega), us2_v, if_neg (by omega)]; unfold uswi; rw [if_neg (by omega), if_pos (by omega)]
theorem usw_v (u_u : Nat → Nat → Int32) (n P : Nat) (pr : Int32) (X k : Nat) : usw u_u n P pr X k = if X = P ∧ k = 4 then u_u (P + 1) 4 - pr else if X = P + 1 ∧ k = 4 then u_u P 4 + pr else us4 u_u n P X k := by
  unfold usw up2
  by_cases e2 : X = P + 1 ∧ k = 4
  · rw [if_pos e2, if_neg (by omega), if_pos e2]
  · rw [if_neg e2]
    by_cases e3 : X = P ∧ k = 4
    · rw [if_pos e3, if_pos e3]
    · rw [if_neg e3, if_neg e3, if_neg e2]
theorem usw_o (u_u : Nat → Nat → Int32) (n P : Nat) (pr : Int32) {X : Nat} (k : Nat) (h1 : X ≠ P) (h2 : X ≠ P + 1) (h3 : X ≠ P + 2) : usw u_u n P pr X k = u_u X k := by
  rw [usw_v, if_neg (by omega), if_neg (by omega), us4_v, if_neg (by omega), us2_v, if_neg (by omega)]; unfold uswi; rw [if_neg (by omega), if_neg (by omega)]
theorem fa0 {n : Nat} {mm : Nat → Nat → Int32} {P : Nat} (hM : MmOk n mm) (h : m_fa n mm P = 0) : mfr n mm P = 0 ∧ (0 < P → mfr n mm (P - 1) = 0) ∧ (P + 2 < n → mfr n mm (P + 1) = 0) := by
  unfold m_fa at h
  split at h
  · exact absurd h (by decide)
  · rename_i h1
    split at h
    · exact absurd h (by decide)
    · rename_i h2
      split at h
      · exact absurd h (by decide)
      · rename_i h3
        exact ⟨(b01 (mfr_b hM _)).mp h1, fun y => (b01 (mfr_b hM _)).mp (fun w => h2 ⟨y, w⟩), fun y => (b01 (mfr_b hM _)).mp (fun w => h3 ⟨y, w⟩)⟩
theorem RI.swp {S S1 : ST} {n : Nat} {z : Nat → Int32} {mm : Nat → Nat → Int32} (h : RI S n z mm) (hM : MmOk n mm) {P : Nat} (hP : P + 1 < n) (h0 : m_fa n mm P = 0) {pr : Int32}
    (hu : UZ S1 (upd (upd (sM S).2.1 2 ((sM S).2.1 2 + 1)) 3 ((sM S).2.1 3 + pr)) (usw (fun P i => (sM S).2.1 (6 + 7 * P + i)) n P pr)) : RI S1 n (upd (upd z 4 (z 4 + 1)) 5 (z 5 + pr)) (mswap mm P pr) := by
  obtain ⟨g1, g2, g3⟩ := h.u0
  have hn := h.n10
  obtain ⟨f1, f2, f3⟩ := fa0 hM h0
  refine RI.of hu hn h.many (fun k h1 h5 => ?_) (fun X i hX hi => ?_) (fun X hX => ?_)
  · unfold upd
    by_cases e : k = 3
    · subst e; rw [if_pos rfl, if_pos rfl, g1 3 (by omega) (by omega)]
    · rw [if_neg e, if_neg (show ¬ k + 2 = 5 by omega)]
      by_cases e2 : k = 2
      · subst e2; rw [if_pos rfl, if_pos rfl, g1 2 (by omega) (by omega)]
      · rw [if_neg e2, if_neg (by omega)]; exact g1 k h1 h5
  · by_cases e1 : X = P
    · subst e1
      rw [usw_v]; unfold mswap mlose
      rw [if_pos rfl]
      by_cases k4 : i = 4
      · subst k4; rw [if_pos ⟨rfl, rfl⟩, if_neg (by omega), if_neg (by omega)]; show _ = if (4 : Nat) = 4 then mm (X + 1) 4 - pr else mm (X + 1) 4; rw [if_pos rfl, g2 (X + 1) 4 hP (by omega)]
      · rw [if_neg (by omega), if_neg (by omega), us4_v, if_neg (by omega), us2_v]
        by_cases k5 : i = 5
        · rw [if_pos ⟨k5, Or.inl rfl⟩, if_pos k5]
        · rw [if_neg (by omega), if_neg k5, if_neg (by omega)]; show _ = if i = 4 then mm (X + 1) 4 - pr else mm (X + 1) i; rw [if_neg k4]; unfold uswi; rw [if_pos (by omega)]; exact g2 (X + 1) i hP hi
    · by_cases e2 : X = P + 1
      · subst e2
        rw [usw_v]; unfold mswap mlose
        rw [if_neg e1, if_pos rfl, if_neg (by omega)]
        by_cases k4 : i = 4
        · subst k4; rw [if_pos ⟨rfl, rfl⟩, if_neg (by omega), if_neg (by omega)]; show _ = if (4 : Nat) = 4 then mm P 4 + pr else mm P 4; rw [if_pos rfl, g2 P 4 (by omega) (by omega)]
        · rw [if_neg (by omega), us4_v, if_neg (by omega), us2_v]
          by_cases k5 : i = 5
          · rw [if_pos ⟨k5, Or.inr (Or.inl rfl)⟩, if_pos k5]
          · rw [if_neg (by omega), if_neg k5, if_neg (by omega)]; show _ = if i = 4 then mm P 4 + pr else mm P i; rw [if_neg k4]; unfold uswi; rw [if_neg (by omega), if_pos (by omega)]; exact g2 P i (by omega) hi
      · by_cases e3 : X = P + 2
        · subst e3
          rw [usw_v, if_neg (by omega), if_neg (by omega), us4_v, if_neg (by omega), us2_v]; unfold mswap mlose
          rw [if_neg e1, if_neg e2, if_pos rfl]
          by_cases k5 : i = 5
          · rw [if_pos ⟨k5, Or.inr (Or.inr ⟨rfl, hX⟩)⟩, if_pos k5]
          · rw [if_neg (by omega), if_neg k5, if_neg (by omega)]; unfold uswi; rw [if_neg (by omega), if_neg (by omega)]; exact g2 (P + 2) i hX hi
        · rw [usw_o _ _ _ _ _ e1 e2 e3]; unfold mswap; rw [if_neg e1, if_neg e2, if_neg e3]; exact g2 X i hX hi
  · have hs0 : mswap mm P pr P 6 = 0 := by unfold mswap mlose; rw [if_pos rfl, if_neg (by omega), if_pos rfl]
    have hs1 : mswap mm P pr (P + 1) 6 = 0 := by unfold mswap mlose; rw [if_neg (by omega), if_pos rfl, if_neg (by omega), if_pos rfl]
    have hs2 : mswap mm P pr (P + 2) 6 = 0 := by unfold mswap mlose; rw [if_neg (by omega), if_neg (by omega), if_pos rfl, if_neg (by omega), if_pos rfl]
    have hso : ∀ Y, Y ≠ P → Y ≠ P + 1 → Y ≠ P + 2 → mswap mm P pr Y 6 = mm Y 6 := fun Y y1 y2 y3 => by unfold mswap; rw [if_neg y1, if_neg y2, if_neg y3]
    by_cases e1 : X = P
    · subst e1
      rw [usw_v, if_neg (by omega), if_neg (by omega), us4_v, if_pos ⟨rfl, Or.inl rfl⟩]
      unfold mfr; rw [if_pos hP, hs1]
    · by_cases e2 : X = P + 1
      · subst e2
        rw [usw_v, if_neg (by omega), if_neg (by omega), us4_v, if_pos ⟨rfl, Or.inr rfl⟩]
        unfold mfr
        split
        · exact hs2.symm
        · rfl
      · have e4 : usw (fun P i => (sM S).2.1 (6 + 7 * P + i)) n P pr X 6 = mfr n mm X := by
          rw [usw_v, if_neg (by omega), if_neg (by omega), us4_v, if_neg (by omega), us2_v, if_neg (by omega)]; unfold uswi; rw [if_neg (by omega), if_neg (by omega)]; exact g3 X hX
        rw [e4]
        by_cases e3 : X + 1 = P
        · have := f2 (by omega)
          rw [show P - 1 = X by omega] at this
          rw [this]; unfold mfr; rw [if_pos (by omega), e3, hs0]
        · unfold mfr
          split
          · rw [hso (X + 1) e3 (by omega) (by omega)]
          · rfl
