/-! MODEL: settling, so far -/
theorem MmOk.swp {n P : Nat} {mm : Nat → Nat → Int32} {pr : Int32} (hM : MmOk n mm) (hP : P + 1 < n) : MmOk n (mswap mm P pr) := by
  refine ⟨?_, fun X hX => ?_⟩
  · unfold mswap mlose
    split
    · rfl
    · split
      · rfl
      · split
        · rfl
        · exact hM.1
  · unfold mswap mlose
    split
    · exact Or.inl rfl
    · split
      · exact Or.inl rfl
      · split
        · exact Or.inl rfl
        · exact hM.2 X hX
/-- so much fuel is enough -/
def Stops (n fu : Nat) (z : Nat → Int32) (mm : Nat → Nat → Int32) : Prop := (f_kp (gof n (f_set n fu z mm).2.2) (n - 1)).1 = -1
def GS (n fu : Nat) (z : Nat → Int32) (mm : Nat → Nat → Int32) (u_p : Int32) (i : Nat) (z2 : Nat → Int32) (mm2 : Nat → Nat → Int32) (d : Nat) : Prop :=
  (u_p = -1 ∧ f_set n fu z mm = (i, z2, mm2) ∧ 0 < d) ∨ (u_p ≠ -1 ∧ i ≤ fu ∧ f_set n fu z mm = (i + (f_set n (fu - i) z2 mm2).1, (f_set n (fu - i) z2 mm2).2) ∧ Stops n (fu - i) z2 mm2 ∧ fu + 1 < i + d)
section GSs
variable {n fu : Nat} {z z2 : Nat → Int32} {mm mm2 : Nat → Nat → Int32} {u_p : Int32} {i d : Nat}
theorem gs_zero (h : GS n fu z mm u_p i z2 mm2 0) : False := by
  rcases h with ⟨_, _, h⟩ | ⟨_, h1, _, _, h2⟩
  · omega
  · omega
theorem gs_init (h : Stops n fu z mm) : GS n fu z mm 0 0 z mm (fu + 2) := Or.inr ⟨by decide, Nat.zero_le _, by rw [Nat.sub_zero, Nat.zero_add], by rw [Nat.sub_zero]; exact h, by omega⟩
theorem gs_end (h : GS n fu z mm u_p i z2 mm2 d) (hp : u_p = -1) : f_set n fu z mm = (i, z2, mm2) := by
  rcases h with ⟨_, h, _⟩ | ⟨h, _⟩
  · exact h
  · exact absurd hp h
theorem gs_stop (h : GS n fu z mm u_p i z2 mm2 (d + 1)) (hp : ¬ u_p = -1) (hk : (f_kp (gof n mm2) (n - 1)).1 = -1) : GS n fu z mm (-1) i z2 mm2 d := by
  rcases h with ⟨h, _⟩ | ⟨_, h1, h2, _, h4⟩
  · exact absurd h hp
  · exact Or.inl ⟨rfl, by rw [h2, f_set_stop hk]; rfl, by omega⟩
theorem gs_go (hn : n ≤ 10) (h : GS n fu z mm u_p i z2 mm2 (d + 1)) (hp : ¬ u_p = -1) {Q : Nat} (hQ : Q < n - 1) (hk : (f_kp (gof n mm2) (n - 1)).1 = nI Q) : GS n fu z mm (nI Q) (i + 1) (upd (upd z2 4 (z2 4 + 1)) 5 (z2 5 + f_fairc (gof n mm2) (z2 3) (nI Q))) (mswap mm2 Q (f_fairc (gof n mm2) (z2 3) (nI Q))) d := by
  rcases h with ⟨h, _⟩ | ⟨_, h1, h2, h3, h4⟩
  · exact absurd h hp
  · have hlt : i < fu := by
      rcases Nat.lt_or_ge i fu with q | q
      · exact q
      · exfalso
        rw [show fu - i = 0 by omega] at h3
        have h5 : (f_kp (gof n mm2) (n - 1)).1 = -1 := h3
        rw [hk] at h5; exact nI_m1 (by omega) h5
    have e : fu - i = (fu - (i + 1)) + 1 := by omega
    refine Or.inr ⟨nI_m1 (by omega), by omega, ?_, ?_, by omega⟩
    · rw [h2, e, f_set_go hn hQ hk]
      show (i + ((f_set n (fu - (i + 1)) _ _).1 + 1), _) = (i + 1 + (f_set n (fu - (i + 1)) _ _).1, _)
      rw [show ∀ a : Nat, i + (a + 1) = i + 1 + a by omega]
    · unfold Stops at h3 ⊢
      rw [e, f_set_go hn hQ hk] at h3; exact h3
end GSs
section KPs
variable {n : Nat} {mm : Nat → Nat → Int32}
theorem kp_inv (g : Int32 → Nat → Int32) (k : Nat) : ((f_kp g k).1 = -1 ∧ (f_kp g k).2 = 0) ∨ ∃ Q, Q < k ∧ (f_kp g k).1 = nI Q ∧ (f_kp g k).2 = f_sur g (nI Q) ∧ 0 < f_sur g (nI Q) ∧ f_held g (nI Q) = 0 := by
  induction k with
  | zero => exact Or.inl ⟨rfl, rfl⟩
  | succ k ih =>
    unfold f_kp
    split
    · rcases ih with h | ⟨Q, h1, h2⟩
      · exact Or.inl h
      · exact Or.inr ⟨Q, by omega, h2⟩
    · rename_i hc
      split
      · rename_i hd
        refine Or.inr ⟨k, by omega, rfl, rfl, ?_, hd⟩
        rcases ih with h | ⟨Q, h1, h2, h3, h4, _⟩
        · rw [h.2] at hc; exact Int32.not_le.mp hc
        · rw [h3] at hc; exact Int32.lt_trans h4 (Int32.not_le.mp hc)
      · rcases ih with h | ⟨Q, h1, h2⟩
        · exact Or.inl h
        · exact Or.inr ⟨Q, by omega, h2⟩
theorem hind0 (hn : n ≤ 10) (hM : MmOk n mm) {P : Nat} (hP : P + 1 < n) : f_hind (gof n mm) (nI P) = 0 ↔ (f_held (gof n mm) (nI P) = 0 ∧ 0 < f_sur (gof n mm) (nI P)) := by
  rw [hind_in hn hM hP, held_in hn hM hP]
  by_cases h : m_fa n mm P = 0
  · rw [if_pos h, if_pos h]
    by_cases h2 : 0 < f_sur (gof n mm) (nI P)
    · rw [if_pos h2]; exact ⟨fun _ => ⟨rfl, h2⟩, fun _ => rfl⟩
    · rw [if_neg h2]; exact ⟨fun q => absurd q (by decide), fun q => absurd q.2 h2⟩
  · rw [if_neg h, if_neg h]; exact ⟨fun q => absurd q h, fun q => absurd q.1 (by decide)⟩
theorem kp_keep0 (hn : n ≤ 10) (hM : MmOk n mm) {P : Nat} (hP : P + 1 < n) (h : ¬ f_hind (gof n mm) (nI P) = 0) : f_kp (gof n mm) (P + 1) = f_kp (gof n mm) P := by
  rw [f_kp]
  split
  · rfl
  · rename_i hc
    split
    · rename_i hd
      exfalso; apply h; rw [hind0 hn hM hP]
      refine ⟨hd, ?_⟩
      rcases kp_inv (gof n mm) P with y | ⟨Q, _, _, h3, h4, _⟩
      · rw [y.2] at hc; exact Int32.not_le.mp hc
      · rw [h3] at hc; exact Int32.lt_trans h4 (Int32.not_le.mp hc)
    · rfl
theorem kp_take0 (hn : n ≤ 10) (hM : MmOk n mm) {P : Nat} (hP : P + 1 < n) (h : f_hind (gof n mm) (nI P) = 0) (h2 : (f_kp (gof n mm) P).1 = -1) : (f_kp (gof n mm) (P + 1)).1 = nI P := by
  obtain ⟨h3, h4⟩ := (hind0 hn hM hP).mp h
  have h5 : (f_kp (gof n mm) P).2 = 0 := by
    rcases kp_inv (gof n mm) P with y | ⟨Q, hQ, e, _⟩
    · exact y.2
    · rw [e] at h2; exact absurd h2 (nI_m1 (by omega))
  rw [f_kp, if_neg (by rw [h5]; exact Int32.not_le.mpr h4), if_pos h3]
theorem kp_more (hn : n ≤ 10) (hM : MmOk n mm) {P Q : Nat} (hP : P + 1 < n) (h : f_hind (gof n mm) (nI P) = 0) (h2 : (f_kp (gof n mm) P).1 = nI Q) (hQ : Q < 2 ^ 31) :
    (f_kp (gof n mm) (P + 1)).1 = if f_sur (gof n mm) (nI P) ≤ f_sur (gof n mm) (nI Q) then nI Q else nI P := by
  obtain ⟨h3, h4⟩ := (hind0 hn hM hP).mp h
  have h5 : (f_kp (gof n mm) P).2 = f_sur (gof n mm) (nI Q) := by
    rcases kp_inv (gof n mm) P with y | ⟨Q2, _, e, e2, _⟩
    · rw [y.1] at h2; exact absurd h2.symm (nI_m1 hQ)
    · rw [e2, ← e, h2]
  rw [f_kp, h5]
  by_cases c : f_sur (gof n mm) (nI P) ≤ f_sur (gof n mm) (nI Q)
  · rw [if_pos c, if_pos c]; exact h2
  · rw [if_neg c, if_neg c, if_pos h3]
end KPs
