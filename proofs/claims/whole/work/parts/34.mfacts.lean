/-! MODEL: its questions are the line's -/
def m_fa (n : Nat) (mm : Nat → Nat → Int32) (P : Nat) : Int32 := if mfr n mm P = 1 then 1 else if 0 < P ∧ mfr n mm (P - 1) = 1 then 2 else if P + 2 < n ∧ mfr n mm (P + 1) = 1 then 3 else 0
def m_j (a : Int32) : Int32 := if a = 0 then 0 else a - 1
def m_t (a : Int32) : Int32 := if a = 3 then 2 else a
def m_1 (a : Int32) : Int32 := if a = 0 then 0 else 1
theorem m_fa4 (n : Nat) (mm : Nat → Nat → Int32) (P : Nat) : fl4 (m_fa n mm P) := by
  unfold m_fa
  exact fl4_if (Or.inr (Or.inl rfl)) (fl4_if (Or.inr (Or.inr (Or.inl rfl))) (fl4_if (Or.inr (Or.inr (Or.inr rfl))) (Or.inl rfl)))
section MF
variable {n : Nat} {mm : Nat → Nat → Int32}
theorem b01 {a : Int32} (h : a = 0 ∨ a = 1) : (¬ a = 1 ↔ a = 0) := by
  rcases h with h | h
  · rw [h]; decide
  · rw [h]; decide
theorem fr_m1 (hn : n ≤ 10) {P : Nat} (hP : P < n) : f_fr (gof n mm) (nI P - 1) = mm P 6 := by
  unfold f_fr; rw [Int32.sub_add_cancel, gof_in mm hn hP]
theorem fr_m1' (hn : n ≤ 10) (hM : MmOk n mm) {P : Nat} (hP : P < n) : f_fr (gof n mm) (nI P - 1) = if 0 < P then mfr n mm (P - 1) else 0 := by
  rw [fr_m1 hn hP]
  rcases Nat.eq_zero_or_pos P with q | q
  · subst q; rw [if_neg (by omega)]; exact hM.1
  · rw [if_pos q]; unfold mfr; rw [if_pos (by omega), show P - 1 + 1 = P by omega]
theorem fr_p1 (hn : n ≤ 10) {P : Nat} (hP : P + 1 < n) : f_fr (gof n mm) (nI P + 1) = mfr n mm (P + 1) := by
  rw [nI_1]; exact g_fr hn hP
theorem hind_in (hn : n ≤ 10) (hM : MmOk n mm) {P : Nat} (hP : P + 1 < n) : f_hind (gof n mm) (nI P) = if m_fa n mm P = 0 then (if 0 < f_sur (gof n mm) (nI P) then 0 else 4) else m_fa n mm P := by
  unfold f_hind
  rw [fr_in hn (by omega), fr_m1' hn hM (by omega), fr_p1 hn hP]
  unfold m_fa
  have ha := mfr_b hM P
  have hb := mfr_b hM (P - 1)
  have hc := mfr_b hM (P + 1)
  have h2 : mfr n mm (P + 1) = 1 → P + 2 < n := fun q => by
    rcases Nat.lt_or_ge (P + 2) n with y | y
    · exact y
    · unfold mfr at q; rw [if_neg (by omega)] at q; exact absurd q (by decide)
  rcases ha with ha | ha
  · by_cases h0 : 0 < P
    · rcases hb with hb | hb
      · rcases hc with hc | hc
        · rw [ha, hb, hc, if_pos h0]; simp
        · rw [ha, hb, hc, if_pos h0]; simp [h2 hc]
      · rw [ha, hb, if_pos h0]; simp [h0]
    · rcases hc with hc | hc
      · rw [ha, hc, if_neg h0]; simp [h0]
      · rw [ha, hc, if_neg h0]; simp [h0, h2 hc]
  · rw [ha]; simp
theorem held_in (hn : n ≤ 10) (hM : MmOk n mm) {P : Nat} (hP : P + 1 < n) : f_held (gof n mm) (nI P) = if m_fa n mm P = 0 then 0 else 1 := by
  have e1 : gof n mm (nI P) 6 = if 0 < P then mfr n mm (P - 1) else 0 := by
    have := fr_m1' hn hM (P := P) (by omega); unfold f_fr at this; rw [Int32.sub_add_cancel] at this; exact this
  have e2 : gof n mm (nI P + 1) 6 = mfr n mm P := g_fr hn (by omega)
  have e3 : gof n mm (nI P + 2) 6 = mfr n mm (P + 1) := by
    have := fr_p1 (mm := mm) hn hP; unfold f_fr at this
    rw [Int32.add_assoc] at this; exact this
  unfold f_held
  rw [e1, e2, e3]
  unfold m_fa
  have ha := mfr_b hM P
  have hb := mfr_b hM (P - 1)
  have hc := mfr_b hM (P + 1)
  have h2 : mfr n mm (P + 1) = 1 → P + 2 < n := fun q => by
    rcases Nat.lt_or_ge (P + 2) n with y | y
    · exact y
    · unfold mfr at q; rw [if_neg (by omega)] at q; exact absurd q (by decide)
  rcases ha with ha | ha
  · by_cases h0 : 0 < P
    · rcases hb with hb | hb
      · rcases hc with hc | hc
        · rw [ha, hb, hc, if_pos h0]; simp
        · rw [ha, hb, hc, if_pos h0]; simp [h2 hc]
      · rw [ha, hb, if_pos h0]; simp [h0]
    · rcases hc with hc | hc
      · rw [ha, hc, if_neg h0]; simp [h0]
      · rw [ha, hc, if_neg h0]; simp [h0, h2 hc]
  · rw [ha]; simp
theorem sI_congr {f g : Nat → Int32} {n : Nat} (h : ∀ i, i < n → f i = g i) : sI f n = sI g n := by
  induction n with
  | zero => rfl
  | succ n ih => show sI f n + f n = sI g n + g n; rw [ih (fun i hi => h i (by omega)), h n (by omega)]
theorem frs_in (hn : n ≤ 10) (hM : MmOk n mm) : f_frs (gof n mm) n = sI (fun j => mfr n mm j) n := by
  unfold f_frs
  rcases Nat.eq_zero_or_pos n with q | q
  · subst q; rfl
  · obtain ⟨u_k, rfl⟩ : ∃ u_k, n = u_k + 1 := ⟨n - 1, by omega⟩
    show sI _ u_k = sI _ u_k + mfr (u_k + 1) mm u_k
    rw [show mfr (u_k + 1) mm u_k = 0 from if_neg (by omega), Int32.add_zero]
    refine sI_congr (fun i hi => ?_)
    show (if f_fr (gof (u_k + 1) mm) (nI i) = 0 then (0 : Int32) else 1) = mfr (u_k + 1) mm i
    rw [fr_in hn (by omega)]
    rcases mfr_b hM i with y | y
    · rw [y, if_pos rfl]
    · rw [y, if_neg (by decide)]
theorem wait_in (hn : n ≤ 10) {P : Nat} (hP : P ≤ n) : f_wait (gof n mm) P = sI (fun j => mm j 3) P := sI_congr (fun i hi => gof_in mm hn (by omega) 3)
theorem total_in (hn : n ≤ 10) : f_total (gof n mm) n = sI (fun j => mm j 1 * f_wait (gof n mm) j) n := sI_congr (fun i hi => by show f_cost _ _ = _; unfold f_cost; rw [gof_in mm hn hi])
theorem told_in (hn : n ≤ 10) : f_told (gof n mm) n = sI (fun j => mm j 2 * f_wait (gof n mm) j) n := sI_congr (fun i hi => by show gof n mm (nI i) 2 * _ = _; rw [gof_in mm hn hi])
theorem frn_in (hn : n ≤ 10) (hM : MmOk n mm) {P : Nat} (hP : P < n) : f_frn (gof n mm) (nI P) = mfr n mm P + (if 0 < P then mfr n mm (P - 1) else 0) := by
  unfold f_frn
  rw [fr_m1' hn hM hP, fr_in hn hP, Int32.add_comm]
  have bb : ∀ a : Int32, (a = 0 ∨ a = 1) → (if a = 0 then (0 : Int32) else 1) = a := fun a h => by
    rcases h with h | h
    · rw [h]; rfl
    · rw [h]; rfl
  rw [bb _ (mfr_b hM P), bb]
  split
  · exact mfr_b hM _
  · exact Or.inl rfl
end MF
