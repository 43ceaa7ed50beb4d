/-! MODEL: what saving keeps -/
def KP (S S1 : ST) : Prop := S1.1 = S.1 ∧ S1.2.1 = S.2.1 ∧ S1.2.2.1 = S.2.2.1 ∧ (∀ x, x ≠ 1 → (sM S1).1 x = (sM S).1 x) ∧ (sM S1).2.2 = (sM S).2.2 ∧ sO S1 = sO S
theorem KP.r (S : ST) : KP S S := ⟨rfl, rfl, rfl, fun _ _ => rfl, rfl, rfl⟩
theorem KP.t {S S1 S2 : ST} (h : KP S S1) (h2 : KP S1 S2) : KP S S2 := ⟨h2.1.trans h.1, h2.2.1.trans h.2.1, h2.2.2.1.trans h.2.2.1, fun x hx => (h2.2.2.2.1 x hx).trans (h.2.2.2.1 x hx), h2.2.2.2.2.1.trans h.2.2.2.2.1, h2.2.2.2.2.2.trans h.2.2.2.2.2⟩
theorem KP.w {S S1 : ST} {u_r : Nat → Int32} (h : RW S S1 u_r) : KP S S1 := ⟨h.1, h.2.1, h.2.2.1, fun x _ => congrFun h.2.2.2.1 x, h.2.2.2.2.1, h.2.2.2.2.2.1⟩
theorem KP.sc {S : ST} {v : Int32} : KP S (setM S (mMs (sM S) 1 v)) := ⟨rfl, rfl, rfl, fun x hx => if_neg hx, rfl, rfl⟩
theorem nI76 {x : Int32} {k : Nat} (h : x = nI k) : 76 * x = nI (76 * k) := by subst h; show nI 76 * nI k = _; exact nI_mul 76 k
/-- the saved ones, moved down so far -/
def SD (S : ST) (i : Nat) (sv : Nat → LVt) : Prop := ∀ k, k < 4 → ∃ t : LVt, t = (if k + 1 < i then sv (k + 1) else sv k) ∧ RowIs (sM S).2.1 (76 * (k + 1)) t.1 t.2.1 t.2.2
theorem SD.s {S S1 : ST} {i : Nat} {sv : Nat → LVt} (h : SD S i sv) (h1 : 1 ≤ i) (h4 : i < 4) (hw : RW S S1 (rci (sM S).2.1 (76 * (i + 1)) (76 * i) 76)) : SD S1 (i + 1) sv := by
  intro k hk
  rw [hw.2.2.2.2.2.2]
  by_cases e : k + 1 = i
  · obtain ⟨t, e1, e2⟩ := h i h4
    rw [if_neg (by omega)] at e1
    refine ⟨t, ?_, ?_⟩
    · rw [if_pos (by omega), e, e1]
    · rw [e]; exact e2.cp
  · obtain ⟨t, e1, e2⟩ := h k hk
    refine ⟨t, ?_, e2.of (by omega)⟩
    rw [e1]
    by_cases c : k + 1 < i
    · rw [if_pos c, if_pos (by omega)]
    · rw [if_neg c, if_neg (by omega)]
theorem RI.w {S S1 : ST} {n u_a u_b : Nat} {z : Nat → Int32} {mm : Nat → Nat → Int32} (h : RI S n z mm) (hb : 76 ≤ u_b) (hw : RW S S1 (rci (sM S).2.1 u_a u_b 76)) : RI S1 n z mm := by
  unfold RI at *
  rw [hw.2.2.2.2.2.2]; exact RowIs.of h (by omega)
/-- one more is saved -/
theorem SV.more {S S1 S2 : ST} {u_m n : Nat} {sv sw : Nat → LVt} {z : Nat → Int32} {mm : Nat → Nat → Int32} (hR : RI S n z mm) (hM : MmOk n mm) (h4 : u_m < 4) (hs : ∀ k, k < u_m → RowIs (sM S).2.1 (76 * (k + 1)) (sv k).1 (sv k).2.1 (sv k).2.2 ∧ MmOk (sv k).1 (sv k).2.2) (h1 : (sM S1).1 1 = nI (u_m + 1)) (hr : (sM S1).2.1 = (sM S).2.1) (hw : RW S1 S2 (rci (sM S1).2.1 0 (76 * (u_m + 1)) 76)) (hk0 : sw u_m = (n, z, mm)) (hk1 : ∀ k, k < u_m → sw k = sv k) : SV S2 (u_m + 1) sw := by
  refine ⟨by omega, by rw [hw.2.2.2.1]; exact h1, fun k hk => ?_⟩
  rw [hw.2.2.2.2.2.2, hr]
  by_cases e : k = u_m
  · subst e; rw [hk0]; exact ⟨RowIs.cp hR, hM⟩
  · rw [hk1 k (by omega)]; exact ⟨(hs k (by omega)).1.of (by omega), (hs k (by omega)).2⟩
