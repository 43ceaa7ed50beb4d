/-! PURE: what a value is; settling; the best cost -/
section PURE
variable {n P X : Nat} {mm : Nat → Nat → Int32}
def mfr (n : Nat) (mm : Nat → Nat → Int32) (P : Nat) : Int32 := if P + 1 < n then mm (P + 1) 6 else 0
def MmOk (n : Nat) (mm : Nat → Nat → Int32) : Prop := mm 0 6 = 0 ∧ ∀ P, P < n → mm P 6 = 0 ∨ mm P 6 = 1
theorem nI_mul (a b : Nat) : nI a * nI b = nI (a * b) := (Int32.ofNat_mul a b).symm
theorem mfr_b (hM : MmOk n mm) (P : Nat) : mfr n mm P = 0 ∨ mfr n mm P = 1 := by
  unfold mfr; split
  · rename_i h; exact hM.2 _ h
  · exact Or.inl rfl
theorem g_in (hn : n ≤ 10) {P : Nat} (hP : P < n) (i : Nat) : gof n mm (nI P) i = mm P i := gof_in mm hn hP i
theorem g_in1 (hn : n ≤ 10) {P : Nat} (hP : P + 1 < n) (i : Nat) : gof n mm (nI P + 1) i = mm (P + 1) i := by rw [nI_1]; exact gof_in mm hn hP i
theorem g_fr (hn : n ≤ 10) {P : Nat} (hP : P < n) : gof n mm (nI P + 1) 6 = mfr n mm P := by
  rw [nI_1]; unfold mfr; split
  · rename_i h; exact gof_in mm hn h 6
  · rename_i h; rw [gof_far mm (by omega) (by omega)]; rfl
theorem fr_in (hn : n ≤ 10) {P : Nat} (hP : P < n) : f_fr (gof n mm) (nI P) = mfr n mm P := g_fr hn hP
theorem gain_in (hn : n ≤ 10) {P : Nat} (hP : P + 1 < n) : f_gain (gof n mm) (nI P) = mm (P + 1) 2 * mm P 3 := by unfold f_gain; rw [g_in1 hn hP, g_in hn (by omega)]
theorem loss_in (hn : n ≤ 10) {P : Nat} (hP : P + 1 < n) : f_loss (gof n mm) (nI P) = mm P 2 * mm (P + 1) 3 := by unfold f_loss; rw [g_in1 hn hP, g_in hn (by omega)]
variable {a b : Int32}
def m_fa (n : Nat) (mm : Nat → Nat → Int32) (P : Nat) : Int32 := if mfr n mm P = 1 then 1 else if 0 < P ∧ mfr n mm (P - 1) = 1 then 2 else if P + 2 < n ∧ mfr n mm (P + 1) = 1 then 3 else 0
theorem b01 {a : Int32} (h : a = 0 ∨ a = 1) : (¬ a = 1 ↔ a = 0) := by
  rcases h with h | h
  · rw [h]; decide
  · rw [h]; decide
theorem fr_m1 (hn : n ≤ 10) {P : Nat} (hP : P < n) : f_fr (gof n mm) (nI P - 1) = mm P 6 := by
  unfold f_fr; rw [Int32.sub_add_cancel, gof_in mm hn hP]
theorem fr_m1' (hn : n ≤ 10) (hM : MmOk n mm) {P : Nat} (hP : P < n) : f_fr (gof n mm) (nI P - 1) = if 0 < P then mfr n mm (P - 1) else 0 := by
  rw [fr_m1 hn hP]
  rcases Nat.eq_zero_or_pos P with q | q
  · subst q; rw [if_neg (by omega)]; exact hM.1
  · rw [if_pos q]; unfold mfr; rw [if_pos (by omega), show P - 1 + 1 = P by omega]
theorem fr_p1 (hn : n ≤ 10) {P : Nat} (hP : P + 1 < n) : f_fr (gof n mm) (nI P + 1) = mfr n mm (P + 1) := by
  rw [nI_1]; exact g_fr hn hP
theorem hind_in (hn : n ≤ 10) (hM : MmOk n mm) {P : Nat} (hP : P + 1 < n) : f_hind (gof n mm) (nI P) = if m_fa n mm P = 0 then (if 0 < f_sur (gof n mm) (nI P) then 0 else 4) else m_fa n mm P := by
  unfold f_hind
  rw [fr_in hn (by omega), fr_m1' hn hM (by omega), fr_p1 hn hP]
  unfold m_fa
  have ha := mfr_b hM P
  have hb := mfr_b hM (P - 1)
  have hc := mfr_b hM (P + 1)
  have h2 : mfr n mm (P + 1) = 1 → P + 2 < n := fun q => by
    rcases Nat.lt_or_ge (P + 2) n with y | y
    · exact y
    · unfold mfr at q; rw [if_neg (by omega)] at q; exact absurd q (by decide)
  rcases ha with ha | ha
  · by_cases h0 : 0 < P
    · rcases hb with hb | hb
      · rcases hc with hc | hc
        · rw [ha, hb, hc, if_pos h0]; simp
        · rw [ha, hb, hc, if_pos h0]; simp [h2 hc]
      · rw [ha, hb, if_pos h0]; simp [h0]
    · rcases hc with hc | hc
      · rw [ha, hc, if_neg h0]; simp [h0]
      · rw [ha, hc, if_neg h0]; simp [h0, h2 hc]
  · rw [ha]; simp
theorem held_in (hn : n ≤ 10) (hM : MmOk n mm) {P : Nat} (hP : P + 1 < n) : f_held (gof n mm) (nI P) = if m_fa n mm P = 0 then 0 else 1 := by
  have e1 : gof n mm (nI P) 6 = if 0 < P then mfr n mm (P - 1) else 0 := by
    have := fr_m1' hn hM (P := P) (by omega); unfold f_fr at this; rw [Int32.sub_add_cancel] at this; exact this
  have e2 : gof n mm (nI P + 1) 6 = mfr n mm P := g_fr hn (by omega)
  have e3 : gof n mm (nI P + 2) 6 = mfr n mm (P + 1) := by
    have := fr_p1 (mm := mm) hn hP; unfold f_fr at this
    rw [Int32.add_assoc] at this; exact this
  unfold f_held
  rw [e1, e2, e3]
  unfold m_fa
  have ha := mfr_b hM P
  have hb := mfr_b hM (P - 1)
  have hc := mfr_b hM (P + 1)
  have h2 : mfr n mm (P + 1) = 1 → P + 2 < n := fun q => by
    rcases Nat.lt_or_ge (P + 2) n with y | y
    · exact y
    · unfold mfr at q; rw [if_neg (by omega)] at q; exact absurd q (by decide)
  rcases ha with ha | ha
  · by_cases h0 : 0 < P
    · rcases hb with hb | hb
      · rcases hc with hc | hc
        · rw [ha, hb, hc, if_pos h0]; simp
        · rw [ha, hb, hc, if_pos h0]; simp [h2 hc]
      · rw [ha, hb, if_pos h0]; simp [h0]
    · rcases hc with hc | hc
      · rw [ha, hc, if_neg h0]; simp [h0]
      · rw [ha, hc, if_neg h0]; simp [h0, h2 hc]
  · rw [ha]; simp
theorem sI_congr {f g : Nat → Int32} {n : Nat} (h : ∀ i, i < n → f i = g i) : sI f n = sI g n := by
  induction n with
  | zero => rfl
  | succ n ih => show sI f n + f n = sI g n + g n; rw [ih (fun i hi => h i (by omega)), h n (by omega)]
theorem frs_in (hn : n ≤ 10) (hM : MmOk n mm) : f_frs (gof n mm) n = sI (fun j => mfr n mm j) n := by
  unfold f_frs
  rcases Nat.eq_zero_or_pos n with q | q
  · subst q; rfl
  · obtain ⟨u_k, rfl⟩ : ∃ u_k, n = u_k + 1 := ⟨n - 1, by omega⟩
    show sI _ u_k = sI _ u_k + mfr (u_k + 1) mm u_k
    rw [show mfr (u_k + 1) mm u_k = 0 from if_neg (by omega), Int32.add_zero]
    refine sI_congr (fun i hi => ?_)
    show (if f_fr (gof (u_k + 1) mm) (nI i) = 0 then (0 : Int32) else 1) = mfr (u_k + 1) mm i
    rw [fr_in hn (by omega)]
    rcases mfr_b hM i with y | y
    · rw [y, if_pos rfl]
    · rw [y, if_neg (by decide)]
theorem wait_in (hn : n ≤ 10) {P : Nat} (hP : P ≤ n) : f_wait (gof n mm) P = sI (fun j => mm j 3) P := sI_congr (fun i hi => gof_in mm hn (by omega) 3)
theorem total_in (hn : n ≤ 10) : f_total (gof n mm) n = sI (fun j => mm j 1 * f_wait (gof n mm) j) n := sI_congr (fun i hi => by show f_cost _ _ = _; unfold f_cost; rw [gof_in mm hn hi])
theorem told_in (hn : n ≤ 10) : f_told (gof n mm) n = sI (fun j => mm j 2 * f_wait (gof n mm) j) n := sI_congr (fun i hi => by show gof n mm (nI i) 2 * _ = _; rw [gof_in mm hn hi])
theorem frn_in (hn : n ≤ 10) (hM : MmOk n mm) {P : Nat} (hP : P < n) : f_frn (gof n mm) (nI P) = mfr n mm P + (if 0 < P then mfr n mm (P - 1) else 0) := by
  unfold f_frn
  rw [fr_m1' hn hM hP, fr_in hn hP, Int32.add_comm]
  have bb : ∀ a : Int32, (a = 0 ∨ a = 1) → (if a = 0 then (0 : Int32) else 1) = a := fun a h => by
    rcases h with h | h
    · rw [h]; rfl
    · rw [h]; rfl
  rw [bb _ (mfr_b hM P), bb]
  split
  · exact mfr_b hM _
  · exact Or.inl rfl
theorem mins_lo {f : Nat → Int32} (h : X < P) : mins mm P f X = mm X := by unfold mins; rw [if_pos h]
theorem mins_at {f : Nat → Int32} : mins mm P f P = f := by unfold mins; rw [if_neg (by omega), if_pos rfl]
theorem mins_p1 {f : Nat → Int32} : mins mm P f (P + 1) = mlose (mm P) := by unfold mins; rw [if_neg (by omega), if_neg (by omega), if_pos rfl]
theorem mins_hi {f : Nat → Int32} (h : P + 1 < X) : mins mm P f X = mm (X - 1) := by unfold mins; rw [if_neg (by omega), if_neg (by omega), if_neg (by omega)]
theorem mrem_lo (h : X < P) : mrem mm P X = mm X := by unfold mrem; rw [if_pos h]
theorem mrem_at : mrem mm P P = mlose (mm (P + 1)) := by unfold mrem; rw [if_neg (by omega), if_pos rfl]
theorem mrem_hi (h : P < X) : mrem mm P X = mm (X + 1) := by unfold mrem; rw [if_neg (by omega), if_neg (by omega)]
theorem MmOk.swp {n P : Nat} {mm : Nat → Nat → Int32} {pr : Int32} (hM : MmOk n mm) (hP : P + 1 < n) : MmOk n (mswap mm P pr) := by
  refine ⟨?_, fun X hX => ?_⟩
  · unfold mswap mlose
    split
    · rfl
    · split
      · rfl
      · split
        · rfl
        · exact hM.1
  · unfold mswap mlose
    split
    · exact Or.inl rfl
    · split
      · exact Or.inl rfl
      · split
        · exact Or.inl rfl
        · exact hM.2 X hX
def Stops (n fu : Nat) (z : Nat → Int32) (mm : Nat → Nat → Int32) : Prop := (f_kp (gof n (f_set n fu z mm).2.2) (n - 1)).1 = -1
theorem kp_inv (g : Int32 → Nat → Int32) (k : Nat) : ((f_kp g k).1 = -1 ∧ (f_kp g k).2 = 0) ∨ ∃ Q, Q < k ∧ (f_kp g k).1 = nI Q ∧ (f_kp g k).2 = f_sur g (nI Q) ∧ 0 < f_sur g (nI Q) ∧ f_held g (nI Q) = 0 := by
  induction k with
  | zero => exact Or.inl ⟨rfl, rfl⟩
  | succ k ih =>
    unfold f_kp
    split
    · rcases ih with h | ⟨Q, h1, h2⟩
      · exact Or.inl h
      · exact Or.inr ⟨Q, by omega, h2⟩
    · rename_i hc
      split
      · rename_i hd
        refine Or.inr ⟨k, by omega, rfl, rfl, ?_, hd⟩
        rcases ih with h | ⟨Q, h1, h2, h3, h4, _⟩
        · rw [h.2] at hc; exact Int32.not_le.mp hc
        · rw [h3] at hc; exact Int32.lt_trans h4 (Int32.not_le.mp hc)
      · rcases ih with h | ⟨Q, h1, h2⟩
        · exact Or.inl h
        · exact Or.inr ⟨Q, by omega, h2⟩
theorem hind0 (hn : n ≤ 10) (hM : MmOk n mm) {P : Nat} (hP : P + 1 < n) : f_hind (gof n mm) (nI P) = 0 ↔ (f_held (gof n mm) (nI P) = 0 ∧ 0 < f_sur (gof n mm) (nI P)) := by
  rw [hind_in hn hM hP, held_in hn hM hP]
  by_cases h : m_fa n mm P = 0
  · rw [if_pos h, if_pos h]
    by_cases h2 : 0 < f_sur (gof n mm) (nI P)
    · rw [if_pos h2]; exact ⟨fun _ => ⟨rfl, h2⟩, fun _ => rfl⟩
    · rw [if_neg h2]; exact ⟨fun q => absurd q (by decide), fun q => absurd q.2 h2⟩
  · rw [if_neg h, if_neg h]; exact ⟨fun q => absurd q h, fun q => absurd q.1 (by decide)⟩
theorem MmOk.ins {n P : Nat} {mm : Nat → Nat → Int32} {a b d : Int32} (hM : MmOk n mm) (hP : P ≤ n) : MmOk (n + 1) (mins mm P (mfresh a b d)) := by
  refine ⟨?_, fun X hX => ?_⟩
  · unfold mins
    split
    · exact hM.1
    · split
      · rfl
      · split
        · rfl
        · omega
  · rcases (show X < P ∨ X = P ∨ X = P + 1 ∨ P + 1 < X by omega) with q | q | q | q
    · rw [mins_lo q]; exact hM.2 X (by omega)
    · subst q; rw [mins_at]; exact Or.inl rfl
    · subst q; rw [mins_p1]; exact Or.inl rfl
    · rw [mins_hi q]; exact hM.2 (X - 1) (by omega)
theorem MmOk.rem {n P : Nat} {mm : Nat → Nat → Int32} (hM : MmOk n mm) (hP : P < n) : MmOk (n - 1) (mrem mm P) := by
  refine ⟨?_, fun X hX => ?_⟩
  · rcases Nat.eq_zero_or_pos P with q | q
    · subst q; rw [mrem_at]; rfl
    · rw [mrem_lo q]; exact hM.1
  · rcases (show X < P ∨ X = P ∨ P < X by omega) with q | q | q
    · rw [mrem_lo q]; exact hM.2 X (by omega)
    · subst q; rw [mrem_at]; exact Or.inl rfl
    · rw [mrem_hi q]; exact hM.2 (X + 1) (by omega)
theorem MmOk.up {n P i : Nat} {mm : Nat → Nat → Int32} {v : Int32} (hM : MmOk n mm) (hi : i ≠ 6) : MmOk n (up2 mm P i v) := by
  have e : ∀ X, up2 mm P i v X 6 = mm X 6 := fun X => by unfold up2; rw [if_neg (fun y => hi y.2.symm)]
  exact ⟨(e 0).trans hM.1, fun X hX => by rw [e]; exact hM.2 X hX⟩
theorem MmOk.fr {n P : Nat} {mm : Nat → Nat → Int32} {v : Int32} (hM : MmOk n mm) (hv : v = 0 ∨ v = 1) : MmOk n (up2 mm (P + 1) 6 v) := by
  refine ⟨?_, fun X hX => ?_⟩
  · unfold up2; rw [if_neg (by omega)]; exact hM.1
  · unfold up2
    split
    · exact hv
    · exact hM.2 X hX
theorem MmOk.tru {n : Nat} {mm : Nat → Nat → Int32} (hM : MmOk n mm) : MmOk n (mtruth mm) := hM
theorem take0 {g : Int32 → Nat → Int32} {p0 : Int32} (h : ¬ f_take g p0 = 0) : f_held g p0 = 0 := by
  unfold f_take at h
  split at h
  · exact absurd rfl h
  · split at h
    · exact absurd rfl h
    · split at h
      · rename_i q; exact q
      · exact absurd rfl h
theorem would0 {g : Int32 → Nat → Int32} {p0 : Int32} (h : ¬ f_would g p0 = 0) : f_hind g p0 = 0 := by
  unfold f_would at h
  split at h
  · rename_i q; exact q
  · exact absurd rfl h
theorem ft9 (hn : n ≤ 10) {a b d : Int32} (hf : f_ft (gof n mm) n 9 a b d = 0) : 0 < n := by
  have h1 : (if 0 < nI n then (0 : Int32) else 3) = 0 := hf
  rcases Nat.eq_zero_or_pos n with q | q
  · subst q; exact absurd h1 (by decide)
  · exact q
end PURE
def VOk (n : Nat) (mm : Nat → Nat → Int32) : Prop := ∀ P, P < n → (∃ u_a, u_a ≤ 99 ∧ mm P 1 = nI u_a) ∧ (∃ u_a, u_a ≤ 99 ∧ mm P 2 = nI u_a) ∧ ∃ u_a, 1 ≤ u_a ∧ u_a ≤ 30 ∧ mm P 3 = nI u_a
def vW (mm : Nat → Nat → Int32) (P : Nat) : Nat := (mm P 1).toNatClampNeg
def vT (mm : Nat → Nat → Int32) (P : Nat) : Nat := (mm P 2).toNatClampNeg
def vS (mm : Nat → Nat → Int32) (P : Nat) : Nat := (mm P 3).toNatClampNeg
section VOs
variable {n : Nat} {mm : Nat → Nat → Int32}
theorem VOk.w (h : VOk n mm) {P : Nat} (hP : P < n) : mm P 1 = nI (vW mm P) ∧ vW mm P ≤ 99 := by
  obtain ⟨⟨u_a, h1, h2⟩, _, _⟩ := h P hP
  unfold vW; rw [h2, nI_clamp (by omega)]; exact ⟨rfl, h1⟩
theorem VOk.t (h : VOk n mm) {P : Nat} (hP : P < n) : mm P 2 = nI (vT mm P) ∧ vT mm P ≤ 99 := by
  obtain ⟨_, ⟨u_a, h1, h2⟩, _⟩ := h P hP
  unfold vT; rw [h2, nI_clamp (by omega)]; exact ⟨rfl, h1⟩
theorem VOk.s (h : VOk n mm) {P : Nat} (hP : P < n) : mm P 3 = nI (vS mm P) ∧ 1 ≤ vS mm P ∧ vS mm P ≤ 30 := by
  obtain ⟨_, _, u_a, h0, h1, h2⟩ := h P hP
  unfold vS; rw [h2, nI_clamp (by omega)]; exact ⟨rfl, h0, h1⟩
theorem mul_2970 {u_a u_b : Nat} (h1 : u_a ≤ 99) (h2 : u_b ≤ 30) : u_a * u_b ≤ 2970 := Nat.mul_le_mul h1 h2
theorem VOk.lt (h : VOk n mm) {P Q : Nat} (hP : P < n) (hQ : Q < n) : mm P 1 * mm Q 3 < mm Q 1 * mm P 3 ↔ vW mm P * vS mm Q < vW mm Q * vS mm P := by
  have a1 := h.w hP
  have a2 := h.w hQ
  have a3 := h.s hP
  have a4 := h.s hQ
  have b1 := mul_2970 a1.2 a4.2.2
  have b2 := mul_2970 a2.2 a3.2.2
  rw [a1.1, a2.1, a3.1, a4.1, nI_mul, nI_mul]
  exact nI_ltI (by omega) (by omega)
end VOs
theorem rat_tr {u_a u_b u_c x y u_z : Nat} (h1 : u_b * x ≤ u_a * y) (h2 : u_c * y ≤ u_b * u_z) (hy : 0 < y) : u_c * x ≤ u_a * u_z := by
  apply Nat.le_of_mul_le_mul_right _ hy
  calc u_c * x * y = (u_c * y) * x := by ac_rfl
    _ ≤ (u_b * u_z) * x := Nat.mul_le_mul_right _ h2
    _ = (u_b * x) * u_z := by ac_rfl
    _ ≤ (u_a * y) * u_z := Nat.mul_le_mul_right _ h1
    _ = u_a * u_z * y := by ac_rfl
def oin {α : Type} (f : Nat → α) (k : Nat) (u_c : α) : Nat → α := fun j => if j < k then f j else if j = k then u_c else f (j - 1)
theorem oin_map {α β : Type} (u_F : α → β) (f : Nat → α) (k : Nat) (u_c : α) : (fun j => u_F (oin f k u_c j)) = oin (fun j => u_F (f j)) k (u_F u_c) := by
  funext j
  unfold oin
  by_cases h : j < k
  · rw [if_pos h, if_pos h]
  · rw [if_neg h, if_neg h]
    by_cases h2 : j = k
    · rw [if_pos h2, if_pos h2]
    · rw [if_neg h2, if_neg h2]
theorem sI_oin {g : Nat → Int32} {k : Nat} {u_c : Int32} (m : Nat) (h : k ≤ m) : sI (oin g k u_c) (m + 1) = sI g m + u_c := by
  induction m with
  | zero =>
    have e : k = 0 := by omega
    subst e; rfl
  | succ m ih =>
    by_cases e : k = m + 1
    · subst e
      show sI (oin g (m + 1) u_c) (m + 1) + oin g (m + 1) u_c (m + 1) = _
      rw [sI_congr (f := oin g (m + 1) u_c) (g := g) (fun j hj => if_pos hj), show oin g (m + 1) u_c (m + 1) = u_c from (if_neg (by omega)).trans (if_pos rfl)]
    · show sI (oin g k u_c) (m + 1) + oin g k u_c (m + 1) = sI g m + g m + u_c
      rw [ih (by omega), show oin g k u_c (m + 1) = g m from (if_neg (by omega)).trans (if_neg (by omega))]
      ac_rfl
theorem sI_mulL (u_c : Int32) (f : Nat → Int32) (m : Nat) : sI (fun x => u_c * f x) m = u_c * sI f m := by
  induction m with
  | zero => exact (Int32.mul_zero).symm
  | succ m ih =>
    show sI (fun x => u_c * f x) m + u_c * f m = u_c * (sI f m + f m)
    rw [ih, Int32.mul_add]
theorem cost_oin {f g : Nat → Int32} {k : Nat} {a b : Int32} (m : Nat) (h : k ≤ m) : sI (fun x => oin f k a x * sI (oin g k b) x) (m + 1) = sI (fun x => f x * sI g x) m + sI (fun x => if x < k then a * g x else f x * b) m := by
  induction m with
  | zero =>
    have e : k = 0 := by omega
    subst e
    show 0 + oin f 0 a 0 * 0 = (0 : Int32) + 0
    rw [Int32.mul_zero]
  | succ m ih =>
    by_cases e : k = m + 1
    · subst e
      show sI (fun x => oin f (m + 1) a x * sI (oin g (m + 1) b) x) (m + 1) + oin f (m + 1) a (m + 1) * sI (oin g (m + 1) b) (m + 1) = _
      rw [sI_congr (f := fun x => oin f (m + 1) a x * sI (oin g (m + 1) b) x) (g := fun x => f x * sI g x) (fun j hj => by
        show oin f (m + 1) a j * sI (oin g (m + 1) b) j = f j * sI g j
        rw [show oin f (m + 1) a j = f j from if_pos hj, sI_congr (f := oin g (m + 1) b) (g := g) (fun i hi => if_pos (by omega))])]
      rw [show oin f (m + 1) a (m + 1) = a from (if_neg (by omega)).trans (if_pos rfl), sI_congr (f := oin g (m + 1) b) (g := g) (fun i hi => if_pos hi), ← sI_mulL]
      rw [sI_congr (f := fun x => if x < m + 1 then a * g x else f x * b) (g := fun x => a * g x) (fun j hj => if_pos hj)]
    · show sI (fun x => oin f k a x * sI (oin g k b) x) (m + 1) + oin f k a (m + 1) * sI (oin g k b) (m + 1) = (sI (fun x => f x * sI g x) m + f m * sI g m) + (sI (fun x => if x < k then a * g x else f x * b) m + if m < k then a * g m else f m * b)
      rw [ih (by omega), show oin f k a (m + 1) = f m from (if_neg (by omega)).trans (if_neg (by omega)), sI_oin m (by omega), if_neg (show ¬ m < k by omega), Int32.mul_add]
      ac_rfl
/-- an order of the first i, by worth a minute -/
def BO (mm : Nat → Nat → Int32) (u_o : Nat → Nat) (i : Nat) : Prop :=
  (∀ j, j < i → u_o j < i) ∧ (∀ f : Nat → Int32, sI (fun j => f (u_o j)) i = sI f i) ∧ (∀ x y, x < y → y < i → vW mm (u_o y) * vS mm (u_o x) ≤ vW mm (u_o x) * vS mm (u_o y)) ∧
  sI (fun x => mm (u_o x) 1 * sI (fun j => mm (u_o j) 3) x) i = sI (fun b => sI (fun a => imin (mm b 1 * mm a 3) (mm a 1 * mm b 3)) b) i
theorem BO.z (mm : Nat → Nat → Int32) (u_o : Nat → Nat) : BO mm u_o 0 := ⟨fun j hj => absurd hj (by omega), fun _ => rfl, fun x y _ hy => absurd hy (by omega), rfl⟩
theorem BO.ins {n p k : Nat} {mm : Nat → Nat → Int32} {u_o : Nat → Nat} (hV : VOk n mm) (hp : p < n) (h : BO mm u_o p) (hk : k ≤ p) (h1 : ∀ j, k ≤ j → j < p → vW mm (u_o j) * vS mm p < vW mm p * vS mm (u_o j)) (h2 : k = 0 ∨ ¬ vW mm (u_o (k - 1)) * vS mm p < vW mm p * vS mm (u_o (k - 1))) : BO mm (oin u_o k p) (p + 1) := by
  obtain ⟨b1, b2, b3, b4⟩ := h
  have hlo : ∀ x, x < k → vW mm p * vS mm (u_o x) ≤ vW mm (u_o x) * vS mm p := by
    intro x hx
    have h3 := Nat.not_lt.mp (h2.resolve_left (by omega))
    rcases Nat.lt_or_ge x (k - 1) with q | q
    · exact rat_tr (b3 x (k - 1) q (by omega)) h3 (hV.s (by have := b1 (k - 1) (by omega); omega)).2.1
    · rw [show x = k - 1 by omega]; exact h3
  have oL : ∀ j, j < k → oin u_o k p j = u_o j := fun j hj => if_pos hj
  have oE : oin u_o k p k = p := (if_neg (by omega)).trans (if_pos rfl)
  have oG : ∀ j, k < j → oin u_o k p j = u_o (j - 1) := fun j hj => (if_neg (by omega)).trans (if_neg (by omega))
  refine ⟨fun j hj => ?_, fun f => ?_, fun x y hxy hy => ?_, ?_⟩
  · rcases (show j < k ∨ j = k ∨ k < j by omega) with q | q | q
    · rw [oL j q]; have := b1 j (by omega); omega
    · rw [q, oE]; omega
    · rw [oG j q]; have := b1 (j - 1) (by omega); omega
  · rw [oin_map f u_o k p, sI_oin p hk, b2 f]; rfl
  · rcases (show y < k ∨ y = k ∨ k < y by omega) with q | q | q
    · rw [oL x (by omega), oL y q]; exact b3 x y hxy (by omega)
    · rw [q, oE, oL x (by omega)]; exact hlo x (by omega)
    · rw [oG y q]
      rcases (show x < k ∨ x = k ∨ k < x by omega) with r | r | r
      · rw [oL x r]; exact b3 x (y - 1) (by omega) (by omega)
      · rw [r, oE]; exact Nat.le_of_lt (h1 (y - 1) (by omega) (by omega))
      · rw [oG x r]; exact b3 (x - 1) (y - 1) (by omega) (by omega)
  · have e1 := oin_map (fun x => mm x 1) u_o k p
    have e3 := oin_map (fun x => mm x 3) u_o k p
    have e5 : (fun x => mm (oin u_o k p x) 1 * sI (fun j => mm (oin u_o k p j) 3) x) = fun x => oin (fun j => mm (u_o j) 1) k (mm p 1) x * sI (oin (fun j => mm (u_o j) 3) k (mm p 3)) x := by
      funext x
      rw [e3, ← e1]
    rw [e5, cost_oin p hk, b4]
    show _ = sI (fun b => sI (fun a => imin (mm b 1 * mm a 3) (mm a 1 * mm b 3)) b) p + sI (fun a => imin (mm p 1 * mm a 3) (mm a 1 * mm p 3)) p
    rw [← b2 (fun a => imin (mm p 1 * mm a 3) (mm a 1 * mm p 3))]
    congr 1
    refine sI_congr (fun j hj => ?_)
    have hoj := b1 j hj
    have hc := hV.lt (P := u_o j) (Q := p) (by omega) hp
    show (if j < k then mm p 1 * mm (u_o j) 3 else mm (u_o j) 1 * mm p 3) = imin (mm p 1 * mm (u_o j) 3) (mm (u_o j) 1 * mm p 3)
    unfold imin
    by_cases q : j < k
    · rw [if_pos q, if_neg (fun y => absurd (hc.mp y) (Nat.not_lt.mpr (hlo j q)))]
    · rw [if_neg q, if_pos (hc.mpr (h1 j (by omega) hj))]
theorem best_in {n : Nat} {mm : Nat → Nat → Int32} (hn : n ≤ 10) : f_best (gof n mm) n = sI (fun b => sI (fun a => imin (mm b 1 * mm a 3) (mm a 1 * mm b 3)) b) n := by
  unfold f_best
  refine sI_congr (fun b hb => sI_congr (fun a ha => ?_))
  unfold f_wc
  rw [gof_in mm hn hb, gof_in mm hn hb, gof_in mm hn (show a < n by omega), gof_in mm hn (show a < n by omega)]
def nS (f : Nat → Nat) : Nat → Nat
  | 0 => 0
  | n + 1 => nS f n + f n
theorem nS_cg {f g : Nat → Nat} {n : Nat} (h : ∀ i, i < n → f i = g i) : nS f n = nS g n := by
  induction n with
  | zero => rfl
  | succ n ih => show nS f n + f n = nS g n + g n; rw [ih (fun i hi => h i (by omega)), h n (by omega)]
theorem nS_le {f : Nat → Nat} {u_c n : Nat} (h : ∀ i, i < n → f i ≤ u_c) : nS f n ≤ n * u_c := by
  induction n with
  | zero => exact Nat.le_of_eq (Nat.zero_mul u_c).symm
  | succ n ih =>
    show nS f n + f n ≤ (n + 1) * u_c
    have h1 := ih (fun i hi => h i (by omega))
    have h2 := h n (by omega)
    rw [Nat.succ_mul]; omega
def vC (mm : Nat → Nat → Int32) (a b : Nat) : Nat := if vT mm a * vS mm b < vT mm b * vS mm a then 1 else 0
def vB (mm : Nat → Nat → Int32) (b : Nat) : Nat := nS (fun a => vC mm a b) b
def vI (n : Nat) (mm : Nat → Nat → Int32) : Nat := nS (vB mm) n
theorem vC_le (mm : Nat → Nat → Int32) (a b : Nat) : vC mm a b ≤ 1 := by unfold vC; split <;> omega
theorem vI_le {n : Nat} (hn : n ≤ 10) (mm : Nat → Nat → Int32) : vI n mm ≤ 100 := by
  have h1 : vI n mm ≤ n * 10 := nS_le (fun b hb => by
    have h2 : vB mm b ≤ b * 1 := nS_le (fun a _ => vC_le mm a b)
    omega)
  omega
def sg (Q x : Nat) : Nat := if x = Q then Q + 1 else if x = Q + 1 then Q else x
theorem sg_0 {Q : Nat} : sg Q Q = Q + 1 := if_pos rfl
theorem sg_1 {Q : Nat} : sg Q (Q + 1) = Q := (if_neg (by omega)).trans (if_pos rfl)
theorem sg_o {Q x : Nat} (h : x ≠ Q) (h2 : x ≠ Q + 1) : sg Q x = x := (if_neg h).trans (if_neg h2)
theorem nS_sg {f : Nat → Nat} {Q m : Nat} (h : Q + 2 ≤ m) : nS (fun a => f (sg Q a)) m = nS f m := by
  induction m with
  | zero => omega
  | succ m ih =>
    by_cases e : Q + 1 = m
    · subst e
      show nS (fun a => f (sg Q a)) Q + f (sg Q Q) + f (sg Q (Q + 1)) = nS f Q + f Q + f (Q + 1)
      rw [sg_0, sg_1, nS_cg (g := f) (fun i hi => by rw [sg_o (by omega) (by omega)])]
      omega
    · show nS (fun a => f (sg Q a)) m + f (sg Q m) = nS f m + f m
      rw [ih (by omega), sg_o (by omega) (by omega)]
theorem msw_v {mm : Nat → Nat → Int32} {Q : Nat} {pr : Int32} (X : Nat) {i : Nat} (hi : i < 4) : mswap mm Q pr X i = mm (sg Q X) i := by
  unfold mswap sg mlose
  by_cases e : X = Q
  · rw [if_pos e, if_pos e, if_neg (by omega), if_neg (by omega)]; exact if_neg (by omega)
  · rw [if_neg e, if_neg e]
    by_cases e2 : X = Q + 1
    · rw [if_pos e2, if_pos e2, if_neg (by omega), if_neg (by omega)]; exact if_neg (by omega)
    · rw [if_neg e2, if_neg e2]
      by_cases e3 : X = Q + 2
      · rw [if_pos e3, if_neg (by omega), if_neg (by omega), e3]
      · rw [if_neg e3]
theorem vC_sw {mm : Nat → Nat → Int32} {Q : Nat} {pr : Int32} (a b : Nat) : vC (mswap mm Q pr) a b = vC mm (sg Q a) (sg Q b) := by
  unfold vC vT vS
  rw [msw_v a (by omega), msw_v b (by omega), msw_v b (by omega), msw_v a (by omega)]
/-- a swap that is worth it takes one pair out of disorder -/
theorem vI_sw {mm : Nat → Nat → Int32} {Q : Nat} {pr : Int32} (h : vT mm Q * vS mm (Q + 1) < vT mm (Q + 1) * vS mm Q) {n : Nat} (hn : Q + 2 ≤ n) : vI n (mswap mm Q pr) + 1 = vI n mm := by
  induction n with
  | zero => omega
  | succ n ih =>
    by_cases e : Q + 1 = n
    · subst e
      show nS (vB (mswap mm Q pr)) Q + vB (mswap mm Q pr) Q + vB (mswap mm Q pr) (Q + 1) + 1 = nS (vB mm) Q + vB mm Q + vB mm (Q + 1)
      have h1 : nS (vB (mswap mm Q pr)) Q = nS (vB mm) Q := nS_cg (fun b hb => nS_cg (fun a ha => by rw [vC_sw, sg_o (by omega) (by omega), sg_o (by omega) (by omega)]))
      have h2 : vB (mswap mm Q pr) Q = nS (fun a => vC mm a (Q + 1)) Q := nS_cg (fun a ha => by rw [vC_sw, sg_0, sg_o (by omega) (by omega)])
      have h3 : vB (mswap mm Q pr) (Q + 1) = nS (fun a => vC mm a Q) Q + vC mm (Q + 1) Q := by
        show nS (fun a => vC (mswap mm Q pr) a (Q + 1)) Q + vC (mswap mm Q pr) Q (Q + 1) = _
        rw [vC_sw Q (Q + 1), sg_0, sg_1, nS_cg (g := fun a => vC mm a Q) (fun a ha => by rw [vC_sw, sg_1, sg_o (by omega) (by omega)])]
      have h4 : vB mm (Q + 1) = nS (fun a => vC mm a (Q + 1)) Q + vC mm Q (Q + 1) := rfl
      have h5 : vB mm Q = nS (fun a => vC mm a Q) Q := rfl
      have h6 : vC mm Q (Q + 1) = 1 := if_pos h
      have h7 : vC mm (Q + 1) Q = 0 := if_neg (by omega)
      omega
    · have h1 := ih (by omega)
      have h2 : vB (mswap mm Q pr) n = vB mm n := by
        show nS (fun a => vC (mswap mm Q pr) a n) n = nS (fun a => vC mm a n) n
        rw [nS_cg (g := fun a => vC mm (sg Q a) n) (fun a ha => by rw [vC_sw, sg_o (x := n) (by omega) (by omega)])]
        exact nS_sg (f := fun a => vC mm a n) (by omega)
      show nS (vB (mswap mm Q pr)) n + vB (mswap mm Q pr) n + 1 = nS (vB mm) n + vB mm n
      have h3 : nS (vB (mswap mm Q pr)) n + 1 = nS (vB mm) n := h1
      omega
theorem ng_2970 : ∀ u_d, u_d < 2971 → ¬ (0 : Int32) < -(nI u_d) := fun u_d h => Int32.not_lt.mpr ((Int32.neg_nonpos_iff _).mpr (Or.inr (nI_pos' (by omega))))
theorem sur_lt {u_a u_b : Nat} (h2 : u_b ≤ 2970) (h : 0 < nI u_a - nI u_b) : u_b < u_a := by
  rcases Nat.lt_or_ge u_b u_a with q | q
  · exact q
  · exfalso
    rw [← Int32.neg_sub, ← show nI (u_b - u_a) = nI u_b - nI u_a from Int32.ofNat_sub _ _ q] at h
    exact ng_2970 _ (by omega) h
section VKs
variable {n : Nat} {mm : Nat → Nat → Int32}
theorem VOk.sur (hV : VOk n mm) (hn : n ≤ 10) {Q : Nat} (hQ : Q + 1 < n) (h : 0 < f_sur (gof n mm) (nI Q)) : vT mm Q * vS mm (Q + 1) < vT mm (Q + 1) * vS mm Q := by
  unfold f_sur at h
  rw [g_in1 hn hQ, g_in1 hn hQ, g_in hn (by omega), g_in hn (by omega)] at h
  have a1 := hV.t (P := Q) (by omega)
  have a2 := hV.t (P := Q + 1) (by omega)
  have a3 := hV.s (P := Q) (by omega)
  have a4 := hV.s (P := Q + 1) (by omega)
  rw [a1.1, a2.1, a3.1, a4.1, nI_mul, nI_mul] at h
  exact sur_lt (mul_2970 a1.2 a4.2.2) h
theorem VOk.cg (hV : VOk n mm) {m : Nat} {mq : Nat → Nat → Int32} {f : Nat → Nat} (h : ∀ P, P < m → f P < n ∧ ∀ i, 1 ≤ i → i < 4 → mq P i = mm (f P) i) : VOk m mq := by
  intro P hP
  obtain ⟨h1, h2⟩ := h P hP
  rw [h2 1 (by omega) (by omega), h2 2 (by omega) (by omega), h2 3 (by omega) (by omega)]
  exact hV (f P) h1
theorem VOk.swp (hV : VOk n mm) {Q : Nat} (hQ : Q + 1 < n) {pr : Int32} : VOk n (mswap mm Q pr) := hV.cg (f := sg Q) (fun P hP => ⟨by unfold sg; split; exact hQ; split; omega; exact hP, fun i _ hi => msw_v P hi⟩)
theorem VOk.rem (hV : VOk n mm) {P : Nat} (hP : P < n) : VOk (n - 1) (mrem mm P) := hV.cg (f := fun x => if x < P then x else x + 1) (fun x hx => ⟨by show (if x < P then x else x + 1) < n; split <;> omega, fun i _ hi => by
  rcases (show x < P ∨ x = P ∨ P < x by omega) with q | q | q
  · rw [mrem_lo q]; show mm x i = mm (if x < P then x else x + 1) i; rw [if_pos q]
  · subst q; rw [mrem_at]; show mlose (mm (x + 1)) i = mm (if x < x then x else x + 1) i; rw [if_neg (by omega)]; unfold mlose; rw [if_neg (by omega), if_neg (by omega)]
  · rw [mrem_hi q]; show mm (x + 1) i = mm (if x < P then x else x + 1) i; rw [if_neg (by omega)]⟩)
theorem VOk.ot (hV : VOk n mm) {P i : Nat} (h : 4 ≤ i) {v : Int32} : VOk n (up2 mm P i v) := hV.cg (f := fun x => x) (fun x hx => ⟨hx, fun j _ hj => by unfold up2; rw [if_neg (by omega)]⟩)
theorem in_v {a b : Int32} {u_l u_n : Nat} (el : b = nI u_l) (hl : u_l < 2 ^ 31) (hn : u_n < 2 ^ 31) (h : f_in a b (nI u_n) = true) : ∃ u_a, u_l ≤ u_a ∧ u_a ≤ u_n ∧ a = nI u_a := by
  subst el
  unfold f_in at h
  rw [Bool.and_eq_true, decide_eq_true_eq, decide_eq_true_eq] at h
  have h0 : ¬ a < 0 := Int32.not_lt.mpr (Int32.le_trans (nI_pos' hl) h.1)
  obtain ⟨P, hP, rfl⟩ := nI_of h0
  exact ⟨P, (nI_leI hl hP).mp h.1, (nI_leI hP hn).mp h.2, rfl⟩
theorem VOk.say (hV : VOk n mm) {P : Nat} {b : Int32} (h : f_in b 0 99 = true) : VOk n (up2 mm P 2 b) := by
  obtain ⟨u_a, _, h2, h3⟩ := in_v (u_l := 0) (u_n := 99) rfl (by decide) (by decide) h
  intro x hx
  refine ⟨by unfold up2; rw [if_neg (by omega)]; exact (hV x hx).1, ?_, by unfold up2; rw [if_neg (by omega)]; exact (hV x hx).2.2⟩
  unfold up2
  split
  · exact ⟨u_a, h2, h3⟩
  · exact (hV x hx).2.1
theorem VOk.ins (hV : VOk n mm) {P : Nat} (hP : P ≤ n) {q a b : Int32} (ha : f_in a 0 99 = true) (hb : f_in b 1 30 = true) : VOk (n + 1) (mins mm P (mfresh q a b)) := by
  obtain ⟨u_a, _, h2, h3⟩ := in_v (u_l := 0) (u_n := 99) rfl (by decide) (by decide) ha
  obtain ⟨u_b, h5, h6, h7⟩ := in_v (u_l := 1) (u_n := 30) rfl (by decide) (by decide) hb
  intro x hx
  rcases (show x < P ∨ x = P ∨ x = P + 1 ∨ P + 1 < x by omega) with y | y | y | y
  · rw [mins_lo y]; exact hV x (by omega)
  · subst y; rw [mins_at]
    exact ⟨⟨u_a, h2, h3⟩, ⟨u_a, h2, h3⟩, u_b, h5, h6, h7⟩
  · subst y; rw [mins_p1]
    exact hV P (by omega)
  · rw [mins_hi y]; exact hV (x - 1) (by omega)
theorem VOk.tru (hV : VOk n mm) : VOk n (mtruth mm) := fun x hx => ⟨(hV x hx).1, (hV x hx).1, (hV x hx).2.2⟩
theorem VOk.set (fu : Nat) : ∀ (z : Nat → Int32) (mm : Nat → Nat → Int32), n ≤ 10 → VOk n mm → VOk n (f_set n fu z mm).2.2 := by
  induction fu with
  | zero => intro z mm _ h; exact h
  | succ fu ih =>
    intro z mm hn h
    rcases f_kp_cases (gof n mm) (n - 1) with e | ⟨Q, hQ, e⟩
    · rw [f_set_stop e]; exact h
    · rw [f_set_go hn hQ e]
      exact ih _ _ hn (h.swp (by omega))
theorem stops_of (fu : Nat) : ∀ (z : Nat → Int32) (mm : Nat → Nat → Int32), n ≤ 10 → VOk n mm → vI n mm ≤ fu → Stops n fu z mm := by
  induction fu with
  | zero =>
    intro z mm hn hV hi
    show (f_kp (gof n mm) (n - 1)).1 = -1
    rcases kp_inv (gof n mm) (n - 1) with h | ⟨Q, hQ, _, _, h4, _⟩
    · exact h.1
    · have h5 := vI_sw (pr := 0) (hV.sur hn (by omega) h4) (n := n) (by omega)
      omega
  | succ fu ih =>
    intro z mm hn hV hi
    rcases kp_inv (gof n mm) (n - 1) with h | ⟨Q, hQ, e, _, h4, _⟩
    · unfold Stops; rw [f_set_stop h.1]; exact h.1
    · have h5 := vI_sw (pr := f_fairc (gof n mm) (z 3) (nI Q)) (hV.sur hn (by omega) h4) (n := n) (by omega)
      have h6 := ih (upd (upd z 4 (z 4 + 1)) 5 (z 5 + f_fairc (gof n mm) (z 3) (nI Q))) _ hn (hV.swp (Q := Q) (pr := f_fairc (gof n mm) (z 3) (nI Q)) (by omega)) (by omega)
      unfold Stops at h6 ⊢
      rw [f_set_go hn hQ e]; exact h6
theorem VOk.st (hV : VOk n mm) (hn : n ≤ 10) (z : Nat → Int32) : Stops n 1000 z mm := stops_of 1000 z mm hn hV (by have := vI_le hn mm; omega)
end VKs
/-- a queue's value in range -/
def GOk (cv : LVt) : Prop := cv.1 ≤ 10 ∧ VOk cv.1 cv.2.2
theorem GOk.co {n fu u_j : Nat} {z : Nat → Int32} {mm : Nat → Nat → Int32} (h : GOk (n, z, mm)) (hj : u_j < 11) {a b d : Int32} (hf : f_ft (gof n mm) n u_j a b d = 0) : GOk (f_co fu n z mm u_j a b d).2 := by
  have hn : n ≤ 10 := h.1
  have hV : VOk n mm := h.2
  have mfP : ∀ {q p1 : Int32}, f_mf (f_place (gof n mm) n q) p1 = 0 → ∃ P, P < n ∧ f_place (gof n mm) n q = nI P ∧ (f_place (gof n mm) n q).toNatClampNeg = P := fun {q p1} h1 => by
    obtain ⟨P, hP, e, _⟩ := mf_in h1
    exact ⟨P, hP, e, by rw [e, nI_clamp (by omega)]⟩
  have pfP : ∀ {p1 : Int32}, f_pf n a p1 3 = 0 → ∃ P, P + 1 < n ∧ a.toNatClampNeg = P := fun {p1} h1 => by
    obtain ⟨_, P, hP, e⟩ := pf_in hn h1
    exact ⟨P, hP, by rw [e, nI_clamp (by omega)]⟩
  rcases (show u_j = 0 ∨ u_j = 1 ∨ u_j = 2 ∨ u_j = 3 ∨ u_j = 4 ∨ u_j = 5 ∨ u_j = 6 ∨ u_j = 7 ∨ u_j = 8 ∨ u_j = 9 ∨ u_j = 10 by omega) with e | e | e | e | e | e | e | e | e | e | e
  · subst e
    obtain ⟨h1, h2, h3, _⟩ := jf_in hn (show f_jf (gof n mm) n a b (nI n) = 0 from hf)
    exact ⟨h1, hV.ins (Nat.le_refl _) h2 h3⟩
  · subst e
    obtain ⟨h1, h2, h3, _, P, hP, e⟩ := jf_in hn (show f_jf (gof n mm) n a b d = 0 from hf)
    exact ⟨h1, hV.ins (by rw [e, nI_clamp (by omega)]; exact hP) h2 h3⟩
  · subst e
    obtain ⟨P, hP, _, e⟩ := mfP (show f_mf (f_place (gof n mm) n a) 1 = 0 from hf)
    exact ⟨by show n - 1 ≤ 10; omega, hV.rem (by rw [e]; exact hP)⟩
  · subst e
    have h1 : f_mf (f_place (gof n mm) n a) (bI (f_in b 0 99)) = 0 := hf
    obtain ⟨P, hP, e, _⟩ := mfP h1
    refine ⟨hn, hV.say ?_⟩
    rcases Bool.eq_false_or_eq_true (f_in b 0 99) with q | q
    · exact q
    · exfalso; rw [q, e] at h1; unfold f_mf at h1; rw [if_neg (nI_m1 (by omega))] at h1; exact absurd h1 (by decide)
  · subst e; exact ⟨hn, hV.ot (by omega)⟩
  · subst e
    obtain ⟨h2, h3⟩ := tf_in (show f_tf (gof n mm) (f_place (gof n mm) n a) = 0 from hf)
    obtain ⟨P, hP, e, e9⟩ := mfP h2
    rw [e] at h3
    exact ⟨hn, hV.swp (by rw [e9]; exact take_in hP hn h3)⟩
  · subst e
    obtain ⟨P, hP, e⟩ := pfP (show f_pf n a (f_would (gof n mm) a) 3 = 0 from hf)
    exact ⟨hn, hV.swp (by rw [e]; exact hP)⟩
  · subst e; exact ⟨hn, hV.ot (by omega)⟩
  · subst e; exact ⟨hn, hV.ot (by omega)⟩
  · subst e; exact ⟨by show n - 1 ≤ 10; omega, hV.rem (ft9 hn hf)⟩
  · subst e; exact ⟨hn, VOk.set fu z mm hn hV⟩
theorem GOk.push {cv : LVt} {u_m : Nat} {sv : Nat → LVt} (h : GOk cv) (hs : ∀ k, k < u_m → GOk (sv k)) (h4 : u_m ≤ 4) : ∀ k, k < (f_push cv u_m sv).1 → GOk ((f_push cv u_m sv).2 k) := by
  intro k hk
  unfold f_push at *
  by_cases e : u_m < 4
  · rw [if_pos e] at *
    show GOk (if k = u_m then cv else sv k)
    split
    · exact h
    · have hk : k < u_m + 1 := hk
      exact hs k (by omega)
  · rw [if_neg e] at *
    show GOk (if k = 3 then cv else sv (k + 1))
    split
    · exact h
    · have hk : k < 4 := hk
      exact hs (k + 1) (by omega)
