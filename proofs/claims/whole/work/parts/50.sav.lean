/-! MODEL: saved states -/
theorem RowIs.cg {u_r u_q : Nat → Int32} {o o2 n : Nat} {z : Nat → Int32} {mm : Nat → Nat → Int32} (h : RowIs u_r o n z mm) (e : ∀ x, x < 76 → u_q (o2 + x) = u_r (o + x)) : RowIs u_q o2 n z mm := by
  obtain ⟨h1, h2, ⟨a1, a2, a3, a4, a5⟩, h4, h5⟩ := h
  have e0 := e 0 (by omega)
  rw [Nat.add_zero, Nat.add_zero] at e0
  refine ⟨h1, e0.trans h2, ⟨(e 1 (by omega)).trans a1, (e 2 (by omega)).trans a2, (e 3 (by omega)).trans a3, (e 4 (by omega)).trans a4, (e 5 (by omega)).trans a5⟩, fun P i hP hi => (e _ (by omega)).trans (h4 P i hP hi), fun P hP => (e _ (by omega)).trans (h5 P hP)⟩
theorem RowIs.cp {u_r : Nat → Int32} {u_a u_b n : Nat} {z : Nat → Int32} {mm : Nat → Nat → Int32} (h : RowIs u_r u_a n z mm) : RowIs (rci u_r u_a u_b 76) u_b n z mm := h.cg (fun x hx => by
  unfold rci; rw [if_pos (by omega), show u_b + x - u_b + u_a = u_a + x by omega])
theorem RowIs.of {u_r : Nat → Int32} {u_a u_b o n : Nat} {z : Nat → Int32} {mm : Nat → Nat → Int32} (h : RowIs u_r o n z mm) (hd : o + 76 ≤ u_b ∨ u_b + 76 ≤ o) : RowIs (rci u_r u_a u_b 76) o n z mm := h.cg (fun x hx => by
  unfold rci; rw [if_neg (by omega)])
/-- m states are saved, the oldest first -/
def SV (S : ST) (u_m : Nat) (sv : Nat → LVt) : Prop := u_m ≤ 4 ∧ (sM S).1 1 = nI u_m ∧ ∀ k, k < u_m → RowIs (sM S).2.1 (76 * (k + 1)) (sv k).1 (sv k).2.1 (sv k).2.2 ∧ MmOk (sv k).1 (sv k).2.2
theorem SV.ro {S S1 : ST} {u_m : Nat} {sv : Nat → LVt} (h : SV S u_m sv) (ho : RO S S1) : SV S1 u_m sv :=
  ⟨h.1, by rw [ho.2.2.2.1]; exact h.2.1, fun k hk => ⟨(h.2.2 k hk).1.cg (fun x hx => ho.2.2.2.2.2.2 _ (by omega)), (h.2.2 k hk).2⟩⟩
