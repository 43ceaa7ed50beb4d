/-! MODEL: joining and going, over the queue's value -/
section RIJ
variable {u_u : Nat → Nat → Int32} {n P X : Nat} {mm : Nat → Nat → Int32}
theorem ujn_ne {a b d : Int32} (h : X ≠ P) (k : Nat) : ujn u_u n P a b d X k = ujo u_u n P X k := by
  unfold ujn up2
  rw [if_neg (fun y => h y.1), if_neg (fun y => h y.1), if_neg (fun y => h y.1), if_neg (fun y => h y.1), if_neg (fun y => h y.1), if_neg (fun y => h y.1), if_neg (fun y => h y.1)]
theorem ujn_at {a b d : Int32} {k : Nat} (hk : k < 7) : ujn u_u n P a b d P k = mfresh a b d k := by
  rcases (show k = 0 ∨ k = 1 ∨ k = 2 ∨ k = 3 ∨ k = 4 ∨ k = 5 ∨ k = 6 by omega) with rfl | rfl | rfl | rfl | rfl | rfl | rfl <;> simp [ujn, up2, mfresh]
theorem ujo_lo (h : X ≤ P) (k : Nat) : ujo u_u n P X k = u_u X k := by
  unfold ujo
  split
  · unfold up2; rw [if_neg (by omega)]; unfold ujs; rw [if_neg (by omega)]
  · unfold ujs; rw [if_neg (by omega)]
theorem ujo_p1 (h : P < n) (k : Nat) : ujo u_u n P (P + 1) k = if k = 5 then -1 else u_u P k := by
  unfold ujo
  rw [if_pos h]; unfold up2
  by_cases e : k = 5
  · rw [if_pos ⟨rfl, e⟩, if_pos e]
  · rw [if_neg (fun y => e y.2), if_neg e]; unfold ujs; rw [if_pos (by omega)]; rfl
theorem ujo_hi (h : P + 1 < X) (h2 : X ≤ n) (k : Nat) : ujo u_u n P X k = u_u (X - 1) k := by
  unfold ujo
  rw [if_pos (by omega)]; unfold up2; rw [if_neg (by omega)]; unfold ujs; rw [if_pos (by omega)]
theorem mins_lo {f : Nat → Int32} (h : X < P) : mins mm P f X = mm X := by unfold mins; rw [if_pos h]
theorem mins_at {f : Nat → Int32} : mins mm P f P = f := by unfold mins; rw [if_neg (by omega), if_pos rfl]
theorem mins_p1 {f : Nat → Int32} : mins mm P f (P + 1) = mlose (mm P) := by unfold mins; rw [if_neg (by omega), if_neg (by omega), if_pos rfl]
theorem mins_hi {f : Nat → Int32} (h : P + 1 < X) : mins mm P f X = mm (X - 1) := by unfold mins; rw [if_neg (by omega), if_neg (by omega), if_neg (by omega)]
end RIJ
theorem RI.u0 {S : ST} {n : Nat} {z : Nat → Int32} {mm : Nat → Nat → Int32} (h : RI S n z mm) : (∀ k, 1 ≤ k → k ≤ 5 → (sM S).2.1 k = z (k + 2)) ∧ (∀ P i, P < n → i < 6 → (sM S).2.1 (6 + 7 * P + i) = mm P i) ∧ ∀ P, P < n → (sM S).2.1 (6 + 7 * P + 6) = mfr n mm P := by
  refine ⟨fun k h1 h5 => ?_, fun P i hP hi => h.mb hP hi, fun P hP => h.fr hP⟩
  obtain ⟨_, _, ⟨a1, a2, a3, a4, a5⟩, _, _⟩ := h
  rcases (show k = 1 ∨ k = 2 ∨ k = 3 ∨ k = 4 ∨ k = 5 by omega) with rfl | rfl | rfl | rfl | rfl
  · exact a1
  · exact a2
  · exact a3
  · exact a4
  · exact a5
theorem RI.join {S S1 : ST} {n : Nat} {z : Nat → Int32} {mm : Nat → Nat → Int32} (h : RI S n z mm) (hn : n < 10) {P : Nat} (hP : P ≤ n) (h6 : P < n → mm P 6 = 0) {a b : Int32}
    (hu : UZ S1 (upd (upd (sM S).2.1 0 (nI (n + 1))) 5 ((sM S).2.1 5 + 1)) (ujn (fun P i => (sM S).2.1 (6 + 7 * P + i)) n P ((sM S).2.1 5) a b)) : RI S1 (n + 1) (upd (upd z 2 (nI (n + 1))) 7 (z 7 + 1)) (mins mm P (mfresh (z 7) a b)) := by
  obtain ⟨g1, g2, g3⟩ := h.u0
  have e5 : (sM S).2.1 5 = z 7 := g1 5 (by omega) (by omega)
  refine RI.of hu (by omega) (by rfl) (fun k h1 h5 => ?_) (fun X i hX hi => ?_) (fun X hX => ?_)
  · unfold upd
    by_cases e : k = 5
    · subst e; rw [if_pos rfl, if_pos rfl, e5]
    · rw [if_neg e, if_neg (by omega), if_neg (by omega), if_neg (by omega)]; exact g1 k h1 h5
  · rcases (show X < P ∨ X = P ∨ X = P + 1 ∨ P + 1 < X by omega) with q | q | q | q
    · rw [ujn_ne (by omega), ujo_lo (by omega), mins_lo q]; exact g2 X i (by omega) hi
    · subst q; rw [ujn_at (by omega), mins_at, e5]
    · subst q; rw [ujn_ne (by omega), ujo_p1 (by omega), mins_p1]
      unfold mlose
      by_cases e : i = 5
      · rw [if_pos e, if_pos e]
      · rw [if_neg e, if_neg e, if_neg (by omega)]; exact g2 P i (by omega) hi
    · rw [ujn_ne (by omega), ujo_hi q (by omega), mins_hi q]; exact g2 (X - 1) i (by omega) hi
  · rcases (show X < P ∨ X = P ∨ X = P + 1 ∨ P + 1 < X by omega) with q | q | q | q
    · rw [ujn_ne (by omega), ujo_lo (by omega), g3 X (by omega)]
      unfold mfr
      rw [if_pos (show X + 1 < n + 1 by omega)]
      rcases (show X + 1 < P ∨ X + 1 = P by omega) with y | y
      · rw [mins_lo y, if_pos (by omega)]
      · rw [y, mins_at]
        by_cases c : P < n
        · rw [if_pos c, h6 c]; rfl
        · rw [if_neg c]; rfl
    · subst q; rw [ujn_at (by omega)]
      unfold mfr
      split
      · rw [mins_p1]; rfl
      · rfl
    · subst q; rw [ujn_ne (by omega), ujo_p1 (by omega), if_neg (by omega), g3 P (by omega)]
      unfold mfr
      by_cases c : P + 1 < n
      · rw [if_pos c, if_pos (by omega), mins_hi (by omega)]; rfl
      · rw [if_neg c, if_neg (by omega)]
    · rw [ujn_ne (by omega), ujo_hi q (by omega), g3 (X - 1) (by omega)]
      unfold mfr
      by_cases c : X < n
      · rw [if_pos (by omega), if_pos (by omega), mins_hi (by omega), show X - 1 + 1 = X + 1 - 1 by omega]
      · rw [if_neg (by omega), if_neg (by omega)]
section RIG
variable {u_u : Nat → Nat → Int32} {n P X : Nat} {mm : Nat → Nat → Int32}
theorem ugo_lo (h : X < P) (k : Nat) : ugo u_u n P X k = if X + 1 = P ∧ k = 6 then 0 else u_u X k := by
  have e1 : usl (ug1 u_u P) P (n - 1) X k = if X + 1 = P ∧ k = 6 then 0 else u_u X k := by
    unfold usl; rw [if_neg (by omega)]; unfold ug1
    rw [if_pos (by omega)]; unfold up2
    by_cases c : X + 1 = P ∧ k = 6
    · rw [if_pos (by omega), if_pos c]
    · rw [if_neg (by omega), if_neg c]
  unfold ugo
  split
  · unfold up2; rw [if_neg (by omega)]; exact e1
  · exact e1
theorem ugo_at (h : P < n - 1) (k : Nat) : ugo u_u n P P k = if k = 5 then -1 else u_u (P + 1) k := by
  unfold ugo; rw [if_pos h]; unfold up2
  by_cases c : k = 5
  · rw [if_pos ⟨rfl, c⟩, if_pos c]
  · rw [if_neg (fun y => c y.2), if_neg c]; unfold usl; rw [if_pos (by omega)]; unfold ug1
    split
    · unfold up2; rw [if_neg (by omega)]
    · rfl
theorem ugo_hi (h : P < X) (h2 : X < n - 1) (k : Nat) : ugo u_u n P X k = u_u (X + 1) k := by
  unfold ugo; rw [if_pos (by omega)]; unfold up2; rw [if_neg (by omega)]; unfold usl; rw [if_pos (by omega)]; unfold ug1
  split
  · unfold up2; rw [if_neg (by omega)]
  · rfl
theorem mrem_lo (h : X < P) : mrem mm P X = mm X := by unfold mrem; rw [if_pos h]
theorem mrem_at : mrem mm P P = mlose (mm (P + 1)) := by unfold mrem; rw [if_neg (by omega), if_pos rfl]
theorem mrem_hi (h : P < X) : mrem mm P X = mm (X + 1) := by unfold mrem; rw [if_neg (by omega), if_neg (by omega)]
end RIG
theorem RI.go {S S1 : ST} {n : Nat} {z : Nat → Int32} {mm : Nat → Nat → Int32} (h : RI S n z mm) {P : Nat} (hP : P < n)
    (hu : UZ S1 (upd (sM S).2.1 0 (nI (n - 1))) (ugo (fun P i => (sM S).2.1 (6 + 7 * P + i)) n P)) : RI S1 (n - 1) (upd z 2 (nI (n - 1))) (mrem mm P) := by
  obtain ⟨g1, g2, g3⟩ := h.u0
  have hn := h.n10
  refine RI.of hu (by omega) (by rfl) (fun k h1 h5 => ?_) (fun X i hX hi => ?_) (fun X hX => ?_)
  · unfold upd
    rw [if_neg (by omega), if_neg (by omega)]; exact g1 k h1 h5
  · rcases (show X < P ∨ X = P ∨ P < X by omega) with q | q | q
    · rw [ugo_lo q, if_neg (by omega), mrem_lo q]; exact g2 X i (by omega) hi
    · subst q; rw [ugo_at hX, mrem_at]
      unfold mlose
      by_cases e : i = 5
      · rw [if_pos e, if_pos e]
      · rw [if_neg e, if_neg e, if_neg (by omega)]; exact g2 (X + 1) i (by omega) hi
    · rw [ugo_hi q hX, mrem_hi q]; exact g2 (X + 1) i (by omega) hi
  · rcases (show X < P ∨ X = P ∨ P < X by omega) with q | q | q
    · rw [ugo_lo q]
      by_cases c : X + 1 = P
      · rw [if_pos ⟨c, rfl⟩]
        unfold mfr
        by_cases y : X + 1 < n - 1
        · rw [if_pos y, c, mrem_at]; rfl
        · rw [if_neg y]
      · rw [if_neg (fun y => c y.1), g3 X (by omega)]
        unfold mfr
        rw [if_pos (by omega), if_pos (by omega), mrem_lo (by omega)]
    · subst q; rw [ugo_at hX, if_neg (by omega), g3 (X + 1) (by omega)]
      unfold mfr
      by_cases c : X + 1 < n - 1
      · rw [if_pos (by omega), if_pos c, mrem_hi (by omega)]
      · rw [if_neg (by omega), if_neg c]
    · rw [ugo_hi q hX, g3 (X + 1) (by omega)]
      unfold mfr
      by_cases c : X + 1 < n - 1
      · rw [if_pos (by omega), if_pos c, mrem_hi (by omega)]
      · rw [if_neg (by omega), if_neg c]
