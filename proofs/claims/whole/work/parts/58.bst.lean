/-! MODEL: the best cost, by sorting: the sum of the pairs' minima -/
def VOk (n : Nat) (mm : Nat → Nat → Int32) : Prop := ∀ P, P < n → (∃ u_a, u_a ≤ 99 ∧ mm P 1 = nI u_a) ∧ (∃ u_a, u_a ≤ 99 ∧ mm P 2 = nI u_a) ∧ ∃ u_a, 1 ≤ u_a ∧ u_a ≤ 30 ∧ mm P 3 = nI u_a
def vW (mm : Nat → Nat → Int32) (P : Nat) : Nat := (mm P 1).toNatClampNeg
def vT (mm : Nat → Nat → Int32) (P : Nat) : Nat := (mm P 2).toNatClampNeg
def vS (mm : Nat → Nat → Int32) (P : Nat) : Nat := (mm P 3).toNatClampNeg
section VOs
variable {n : Nat} {mm : Nat → Nat → Int32}
theorem VOk.w (h : VOk n mm) {P : Nat} (hP : P < n) : mm P 1 = nI (vW mm P) ∧ vW mm P ≤ 99 := by
  obtain ⟨⟨u_a, h1, h2⟩, _, _⟩ := h P hP
  unfold vW; rw [h2, nI_clamp (by omega)]; exact ⟨rfl, h1⟩
theorem VOk.t (h : VOk n mm) {P : Nat} (hP : P < n) : mm P 2 = nI (vT mm P) ∧ vT mm P ≤ 99 := by
  obtain ⟨_, ⟨u_a, h1, h2⟩, _⟩ := h P hP
  unfold vT; rw [h2, nI_clamp (by omega)]; exact ⟨rfl, h1⟩
theorem VOk.s (h : VOk n mm) {P : Nat} (hP : P < n) : mm P 3 = nI (vS mm P) ∧ 1 ≤ vS mm P ∧ vS mm P ≤ 30 := by
  obtain ⟨_, _, u_a, h0, h1, h2⟩ := h P hP
  unfold vS; rw [h2, nI_clamp (by omega)]; exact ⟨rfl, h0, h1⟩
theorem mul_2970 {u_a u_b : Nat} (h1 : u_a ≤ 99) (h2 : u_b ≤ 30) : u_a * u_b ≤ 2970 := Nat.mul_le_mul h1 h2
theorem VOk.lt (h : VOk n mm) {P Q : Nat} (hP : P < n) (hQ : Q < n) : mm P 1 * mm Q 3 < mm Q 1 * mm P 3 ↔ vW mm P * vS mm Q < vW mm Q * vS mm P := by
  have a1 := h.w hP
  have a2 := h.w hQ
  have a3 := h.s hP
  have a4 := h.s hQ
  have b1 := mul_2970 a1.2 a4.2.2
  have b2 := mul_2970 a2.2 a3.2.2
  rw [a1.1, a2.1, a3.1, a4.1, nI_mul, nI_mul]
  exact nI_ltI (by omega) (by omega)
end VOs
theorem rat_tr {u_a u_b u_c x y u_z : Nat} (h1 : u_b * x ≤ u_a * y) (h2 : u_c * y ≤ u_b * u_z) (hy : 0 < y) : u_c * x ≤ u_a * u_z := by
  apply Nat.le_of_mul_le_mul_right _ hy
  calc u_c * x * y = (u_c * y) * x := by ac_rfl
    _ ≤ (u_b * u_z) * x := Nat.mul_le_mul_right _ h2
    _ = (u_b * x) * u_z := by ac_rfl
    _ ≤ (u_a * y) * u_z := Nat.mul_le_mul_right _ h1
    _ = u_a * u_z * y := by ac_rfl
def oin {α : Type} (f : Nat → α) (k : Nat) (u_c : α) : Nat → α := fun j => if j < k then f j else if j = k then u_c else f (j - 1)
theorem oin_map {α β : Type} (u_F : α → β) (f : Nat → α) (k : Nat) (u_c : α) : (fun j => u_F (oin f k u_c j)) = oin (fun j => u_F (f j)) k (u_F u_c) := by
  funext j
  unfold oin
  by_cases h : j < k
  · rw [if_pos h, if_pos h]
  · rw [if_neg h, if_neg h]
    by_cases h2 : j = k
    · rw [if_pos h2, if_pos h2]
    · rw [if_neg h2, if_neg h2]
theorem sI_oin {g : Nat → Int32} {k : Nat} {u_c : Int32} (m : Nat) (h : k ≤ m) : sI (oin g k u_c) (m + 1) = sI g m + u_c := by
  induction m with
  | zero =>
    have e : k = 0 := by omega
    subst e; rfl
  | succ m ih =>
    by_cases e : k = m + 1
    · subst e
      show sI (oin g (m + 1) u_c) (m + 1) + oin g (m + 1) u_c (m + 1) = _
      rw [sI_congr (f := oin g (m + 1) u_c) (g := g) (fun j hj => if_pos hj), show oin g (m + 1) u_c (m + 1) = u_c from (if_neg (by omega)).trans (if_pos rfl)]
    · show sI (oin g k u_c) (m + 1) + oin g k u_c (m + 1) = sI g m + g m + u_c
      rw [ih (by omega), show oin g k u_c (m + 1) = g m from (if_neg (by omega)).trans (if_neg (by omega))]
      ac_rfl
theorem sI_mulL (u_c : Int32) (f : Nat → Int32) (m : Nat) : sI (fun x => u_c * f x) m = u_c * sI f m := by
  induction m with
  | zero => exact (Int32.mul_zero).symm
  | succ m ih =>
    show sI (fun x => u_c * f x) m + u_c * f m = u_c * (sI f m + f m)
    rw [ih, Int32.mul_add]
theorem cost_oin {f g : Nat → Int32} {k : Nat} {a b : Int32} (m : Nat) (h : k ≤ m) : sI (fun x => oin f k a x * sI (oin g k b) x) (m + 1) = sI (fun x => f x * sI g x) m + sI (fun x => if x < k then a * g x else f x * b) m := by
  induction m with
  | zero =>
    have e : k = 0 := by omega
    subst e
    show 0 + oin f 0 a 0 * 0 = (0 : Int32) + 0
    rw [Int32.mul_zero]
  | succ m ih =>
    by_cases e : k = m + 1
    · subst e
      show sI (fun x => oin f (m + 1) a x * sI (oin g (m + 1) b) x) (m + 1) + oin f (m + 1) a (m + 1) * sI (oin g (m + 1) b) (m + 1) = _
      rw [sI_congr (f := fun x => oin f (m + 1) a x * sI (oin g (m + 1) b) x) (g := fun x => f x * sI g x) (fun j hj => by
        show oin f (m + 1) a j * sI (oin g (m + 1) b) j = f j * sI g j
        rw [show oin f (m + 1) a j = f j from if_pos hj, sI_congr (f := oin g (m + 1) b) (g := g) (fun i hi => if_pos (by omega))])]
      rw [show oin f (m + 1) a (m + 1) = a from (if_neg (by omega)).trans (if_pos rfl), sI_congr (f := oin g (m + 1) b) (g := g) (fun i hi => if_pos hi), ← sI_mulL]
      rw [sI_congr (f := fun x => if x < m + 1 then a * g x else f x * b) (g := fun x => a * g x) (fun j hj => if_pos hj)]
    · show sI (fun x => oin f k a x * sI (oin g k b) x) (m + 1) + oin f k a (m + 1) * sI (oin g k b) (m + 1) = (sI (fun x => f x * sI g x) m + f m * sI g m) + (sI (fun x => if x < k then a * g x else f x * b) m + if m < k then a * g m else f m * b)
      rw [ih (by omega), show oin f k a (m + 1) = f m from (if_neg (by omega)).trans (if_neg (by omega)), sI_oin m (by omega), if_neg (show ¬ m < k by omega), Int32.mul_add]
      ac_rfl
/-- an order of the first i, by worth a minute -/
def BO (mm : Nat → Nat → Int32) (u_o : Nat → Nat) (i : Nat) : Prop :=
  (∀ j, j < i → u_o j < i) ∧ (∀ f : Nat → Int32, sI (fun j => f (u_o j)) i = sI f i) ∧ (∀ x y, x < y → y < i → vW mm (u_o y) * vS mm (u_o x) ≤ vW mm (u_o x) * vS mm (u_o y)) ∧
  sI (fun x => mm (u_o x) 1 * sI (fun j => mm (u_o j) 3) x) i = sI (fun b => sI (fun a => imin (mm b 1 * mm a 3) (mm a 1 * mm b 3)) b) i
theorem BO.z (mm : Nat → Nat → Int32) (u_o : Nat → Nat) : BO mm u_o 0 := ⟨fun j hj => absurd hj (by omega), fun _ => rfl, fun x y _ hy => absurd hy (by omega), rfl⟩
theorem BO.ins {n p k : Nat} {mm : Nat → Nat → Int32} {u_o : Nat → Nat} (hV : VOk n mm) (hp : p < n) (h : BO mm u_o p) (hk : k ≤ p) (h1 : ∀ j, k ≤ j → j < p → vW mm (u_o j) * vS mm p < vW mm p * vS mm (u_o j)) (h2 : k = 0 ∨ ¬ vW mm (u_o (k - 1)) * vS mm p < vW mm p * vS mm (u_o (k - 1))) : BO mm (oin u_o k p) (p + 1) := by
  obtain ⟨b1, b2, b3, b4⟩ := h
  have hlo : ∀ x, x < k → vW mm p * vS mm (u_o x) ≤ vW mm (u_o x) * vS mm p := by
    intro x hx
    have h3 := Nat.not_lt.mp (h2.resolve_left (by omega))
    rcases Nat.lt_or_ge x (k - 1) with q | q
    · exact rat_tr (b3 x (k - 1) q (by omega)) h3 (hV.s (by have := b1 (k - 1) (by omega); omega)).2.1
    · rw [show x = k - 1 by omega]; exact h3
  have oL : ∀ j, j < k → oin u_o k p j = u_o j := fun j hj => if_pos hj
  have oE : oin u_o k p k = p := (if_neg (by omega)).trans (if_pos rfl)
  have oG : ∀ j, k < j → oin u_o k p j = u_o (j - 1) := fun j hj => (if_neg (by omega)).trans (if_neg (by omega))
  refine ⟨fun j hj => ?_, fun f => ?_, fun x y hxy hy => ?_, ?_⟩
  · rcases (show j < k ∨ j = k ∨ k < j by omega) with q | q | q
    · rw [oL j q]; have := b1 j (by omega); omega
    · rw [q, oE]; omega
    · rw [oG j q]; have := b1 (j - 1) (by omega); omega
  · rw [oin_map f u_o k p, sI_oin p hk, b2 f]; rfl
  · rcases (show y < k ∨ y = k ∨ k < y by omega) with q | q | q
    · rw [oL x (by omega), oL y q]; exact b3 x y hxy (by omega)
    · rw [q, oE, oL x (by omega)]; exact hlo x (by omega)
    · rw [oG y q]
      rcases (show x < k ∨ x = k ∨ k < x by omega) with r | r | r
      · rw [oL x r]; exact b3 x (y - 1) (by omega) (by omega)
      · rw [r, oE]; exact Nat.le_of_lt (h1 (y - 1) (by omega) (by omega))
      · rw [oG x r]; exact b3 (x - 1) (y - 1) (by omega) (by omega)
  · have e1 := oin_map (fun x => mm x 1) u_o k p
    have e3 := oin_map (fun x => mm x 3) u_o k p
    have e5 : (fun x => mm (oin u_o k p x) 1 * sI (fun j => mm (oin u_o k p j) 3) x) = fun x => oin (fun j => mm (u_o j) 1) k (mm p 1) x * sI (oin (fun j => mm (u_o j) 3) k (mm p 3)) x := by
      funext x
      rw [e3, ← e1]
    rw [e5, cost_oin p hk, b4]
    show _ = sI (fun b => sI (fun a => imin (mm b 1 * mm a 3) (mm a 1 * mm b 3)) b) p + sI (fun a => imin (mm p 1 * mm a 3) (mm a 1 * mm p 3)) p
    rw [← b2 (fun a => imin (mm p 1 * mm a 3) (mm a 1 * mm p 3))]
    congr 1
    refine sI_congr (fun j hj => ?_)
    have hoj := b1 j hj
    have hc := hV.lt (P := u_o j) (Q := p) (by omega) hp
    show (if j < k then mm p 1 * mm (u_o j) 3 else mm (u_o j) 1 * mm p 3) = imin (mm p 1 * mm (u_o j) 3) (mm (u_o j) 1 * mm p 3)
    unfold imin
    by_cases q : j < k
    · rw [if_pos q, if_neg (fun y => absurd (hc.mp y) (Nat.not_lt.mpr (hlo j q)))]
    · rw [if_neg q, if_pos (hc.mpr (h1 j (by omega) hj))]
theorem best_in {n : Nat} {mm : Nat → Nat → Int32} (hn : n ≤ 10) : f_best (gof n mm) n = sI (fun b => sI (fun a => imin (mm b 1 * mm a 3) (mm a 1 * mm b 3)) b) n := by
  unfold f_best
  refine sI_congr (fun b hb => sI_congr (fun a ha => ?_))
  unfold f_wc
  rw [gof_in mm hn hb, gof_in mm hn hb, gof_in mm hn (show a < n by omega), gof_in mm hn (show a < n by omega)]
/-- the array in use: an order; shifted so far -/
def BA (S : ST) (u_o : Nat → Nat) (i : Nat) : Prop := ∀ j, j < i → (sM S).2.2.2.2 j = nI (u_o j)
def BI (S : ST) (u_o : Nat → Nat) (p k : Nat) : Prop := (∀ j, j < k → (sM S).2.2.2.2 j = nI (u_o j)) ∧ ∀ j, k ≤ j → j < p → (sM S).2.2.2.2 (j + 1) = nI (u_o j)
theorem BI.s {S S1 : ST} {u_o : Nat → Nat} {p k : Nat} (h : BI S u_o p k) (hk : 0 < k) (hp : k ≤ p) (e : S1 = setM S (mBe (sM S) k ((sM S).2.2.2.2 (k - 1)))) : BI S1 u_o p (k - 1) := by
  have e0 : ∀ x, (sM S1).2.2.2.2 x = if x = k then (sM S).2.2.2.2 (k - 1) else (sM S).2.2.2.2 x := fun x => by rw [e]; rfl
  refine ⟨fun j hj => ?_, fun j hj hjp => ?_⟩
  · rw [e0, if_neg (by omega)]; exact h.1 j (by omega)
  · rw [e0]
    by_cases q : j + 1 = k
    · rw [if_pos q, show k - 1 = j by omega]; exact h.1 j (by omega)
    · rw [if_neg q]; exact h.2 j (by omega) hjp
theorem BI.e {S S1 : ST} {u_o : Nat → Nat} {p k : Nat} (h : BI S u_o p k) (hp : k ≤ p) (e : S1 = setM S (mBe (sM S) k (nI p))) : BA S1 (oin u_o k p) (p + 1) := by
  have e0 : ∀ x, (sM S1).2.2.2.2 x = if x = k then nI p else (sM S).2.2.2.2 x := fun x => by rw [e]; rfl
  intro j hj
  rw [e0]; unfold oin
  rcases (show j < k ∨ j = k ∨ k < j by omega) with q | q | q
  · rw [if_neg (by omega), if_pos q]; exact h.1 j q
  · rw [if_pos q, if_neg (by omega), if_pos q]
  · rw [if_neg (by omega), if_neg (by omega), if_neg (by omega)]
    have := h.2 (j - 1) (by omega) (by omega)
    rw [show j - 1 + 1 = j by omega] at this; exact this
/-- only that array has changed -/
def RB (S S1 : ST) : Prop := S1.1 = S.1 ∧ S1.2.1 = S.2.1 ∧ S1.2.2.1 = S.2.2.1 ∧ (sM S1).1 = (sM S).1 ∧ (sM S1).2.1 = (sM S).2.1 ∧ (sM S1).2.2.1 = (sM S).2.2.1 ∧ (sM S1).2.2.2.1 = (sM S).2.2.2.1 ∧ sO S1 = sO S
theorem RB.r (S : ST) : RB S S := ⟨rfl, rfl, rfl, rfl, rfl, rfl, rfl, rfl⟩
theorem RB.p {S S1 S2 : ST} (h : RB S S1) {x : Nat} {v : Int32} (e : S2 = setM S1 (mBe (sM S1) x v)) : RB S S2 := by
  subst e; exact ⟨h.1, h.2.1, h.2.2.1, h.2.2.2.1, h.2.2.2.2.1, h.2.2.2.2.2.1, h.2.2.2.2.2.2.1, h.2.2.2.2.2.2.2⟩
theorem RB.km {S S1 : ST} (h : RB S S1) : KM S S1 := ⟨h.1, h.2.1, h.2.2.1, fun x _ _ => congrFun h.2.2.2.1 x, h.2.2.2.2.2.1, h.2.2.2.2.2.2.1, h.2.2.2.2.2.2.2⟩
theorem RI.rb {S S1 : ST} {n : Nat} {z : Nat → Int32} {mm : Nat → Nat → Int32} (h : RI S n z mm) (hb : RB S S1) : RI S1 n z mm := by unfold RI at *; rw [hb.2.2.2.2.1]; exact h
theorem MI.rb {S S1 : ST} {cv : LVt} {u_m : Nat} {sv : Nat → LVt} (h : MI S cv u_m sv) (hb : RB S S1) : MI S1 cv u_m sv := ⟨h.1.rb hb, h.2.1, h.2.2.1, by rw [hb.2.2.2.1]; exact h.2.2.2.1, fun k hk => by rw [hb.2.2.2.2.1]; exact h.2.2.2.2 k hk⟩
/-! MODEL: counts of a whole value -/
theorem sI_last {f g : Nat → Int32} {n : Nat} (h : ∀ j, j + 1 < n → f j = g j) (h0 : ∀ j, j + 1 = n → f j = 0) : sI f n = sI g (n - 1) := by
  rcases Nat.eq_zero_or_pos n with q | q
  · subst q; rfl
  · obtain ⟨u_k, rfl⟩ : ∃ u_k, n = u_k + 1 := ⟨n - 1, by omega⟩
    show sI f u_k + f u_k = sI g u_k
    rw [h0 u_k rfl, Int32.add_zero]
    exact sI_congr (fun j hj => h j (by omega))
