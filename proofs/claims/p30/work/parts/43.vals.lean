/-! VALUES as the law asks for them -/
def mv (n : Nat) (mm : Nat → Nat → Int32) (P w : Nat) : Int32 := match w with
  | 0 => nI P
  | 1 => mm P 1
  | 2 => mm P 2
  | 3 => mm P 3
  | 4 => f_wait (gof n mm) P
  | 5 => mm P 1 * f_wait (gof n mm) P
  | 6 => mm P 4
  | 7 => mm P 5
  | 8 => gof n mm (nI P + 1) 5
  | _ => f_frn (gof n mm) (nI P)
def sv2 (mm : Nat → Nat → Int32) (P : Nat) : Int32 := mm (P + 1) 2 * mm P 3 - mm P 2 * mm (P + 1) 3
def pv (z : Nat → Int32) (mm : Nat → Nat → Int32) (P w : Nat) : Int32 := match w with
  | 0 => mm (P + 1) 2 * mm P 3
  | 1 => mm P 2 * mm (P + 1) 3
  | 2 => sv2 mm P
  | 3 => if 0 < sv2 mm P then mm P 2 * mm (P + 1) 3 + sv2 mm P * z 3 / 100 else -1
  | _ => mm (P + 1) 6
section Vals
variable {n : Nat} {z : Nat → Int32} {mm : Nat → Nat → Int32}
theorem mv_e (hn : n ≤ 10) {P : Nat} (hP : P < n) (w : Nat) (hw : w < 10) : f_mval (gof n mm) P w = mv n mm P w := by
  rcases (show w = 0 ∨ w = 1 ∨ w = 2 ∨ w = 3 ∨ w = 4 ∨ w = 5 ∨ w = 6 ∨ w = 7 ∨ w = 8 ∨ w = 9 by omega) with rfl | rfl | rfl | rfl | rfl | rfl | rfl | rfl | rfl | rfl
  · rfl
  · exact gof_in mm hn hP 1
  · exact gof_in mm hn hP 2
  · exact gof_in mm hn hP 3
  · rfl
  · show f_cost (gof n mm) P = _
    unfold f_cost; rw [gof_in mm hn hP]; rfl
  · exact gof_in mm hn hP 4
  · exact gof_in mm hn hP 5
  · rfl
  · rfl
theorem sv2_e (hn : n ≤ 10) {P : Nat} (hP : P + 1 < n) : f_sur (gof n mm) (nI P) = sv2 mm P := by
  unfold f_sur sv2; rw [g_in1 hn hP, g_in1 hn hP, g_in hn (by omega), g_in hn (by omega)]
theorem fr_e (hn : n ≤ 10) {P : Nat} (hP : P + 1 < n) : f_fr (gof n mm) (nI P) = mm (P + 1) 6 := g_in1 hn hP 6
theorem bit_e {a : Int32} (h : a = 0 ∨ a = 1) : (if a = 0 then (0 : Int32) else 1) = a := by
  rcases h with h | h
  · rw [h]; rfl
  · rw [h]; rfl
theorem pv_e (hn : n ≤ 10) (hM : MmOk n mm) {P : Nat} (hP : P + 1 < n) (w : Nat) (hw : w < 5) : f_pval (gof n mm) (z 3) (nI P) w = pv z mm P w := by
  rcases (show w = 0 ∨ w = 1 ∨ w = 2 ∨ w = 3 ∨ w = 4 by omega) with rfl | rfl | rfl | rfl | rfl
  · exact gain_in hn hP
  · exact loss_in hn hP
  · exact sv2_e hn hP
  · show f_fairc (gof n mm) (z 3) (nI P) = _
    unfold f_fairc; rw [sv2_e hn hP, loss_in hn hP]; rfl
  · show (if f_fr (gof n mm) (nI P) = 0 then (0 : Int32) else 1) = mm (P + 1) 6
    rw [fr_e hn hP]; exact bit_e (hM.2 _ hP)
theorem hind_v (hn : n ≤ 10) (hM : MmOk n mm) {P : Nat} (hP : P + 1 < n) : f_hind (gof n mm) (nI P) = if mm (P + 1) 6 = 0 then (if mm P 6 = 0 then (if mfr n mm (P + 1) = 0 then (if 0 < sv2 mm P then 0 else 4) else 3) else 2) else 1 := by
  unfold f_hind; rw [fr_e hn hP, fr_m1 hn (show P < n by omega), fr_p1 hn hP, sv2_e hn hP]
theorem held_v (hn : n ≤ 10) (hM : MmOk n mm) {P : Nat} (hP : P + 1 < n) : f_held (gof n mm) (nI P) = 0 ↔ (mm (P + 1) 6 = 0 ∧ mm P 6 = 0 ∧ mfr n mm (P + 1) = 0) := by
  have e : gof n mm (nI P + 2) 6 = mfr n mm (P + 1) := by
    rw [show nI P + 2 = nI (P + 1) + 1 by rw [nI_1]; exact nI_add P 2]; exact g_fr hn hP
  unfold f_held
  rw [g_in hn (show P < n by omega), g_in1 hn hP, e]
  constructor
  · intro h
    split at h
    · rename_i q; exact ⟨q.2.1, q.1, q.2.2⟩
    · exact absurd h (by decide)
  · intro h; rw [if_pos ⟨h.2.1, h.1, h.2.2⟩]
theorem h04 (hn : n ≤ 10) (hM : MmOk n mm) {P : Nat} (hP : P + 1 < n) : f_held (gof n mm) (nI P) = 0 ↔ (f_hind (gof n mm) (nI P) = 0 ∨ f_hind (gof n mm) (nI P) = 4) := by
  rw [held_v hn hM hP, hind_v hn hM hP]
  constructor
  · intro h
    rw [if_pos h.1, if_pos h.2.1, if_pos h.2.2]
    split
    · exact Or.inl rfl
    · exact Or.inr rfl
  · intro h
    by_cases a : mm (P + 1) 6 = 0
    · by_cases b : mm P 6 = 0
      · by_cases d : mfr n mm (P + 1) = 0
        · exact ⟨a, b, d⟩
        · rw [if_pos a, if_pos b, if_neg d] at h; rcases h with h | h <;> exact absurd h (by decide)
      · rw [if_pos a, if_neg b] at h; rcases h with h | h <;> exact absurd h (by decide)
    · rw [if_neg a] at h; rcases h with h | h <;> exact absurd h (by decide)
theorem take_v (hn : n ≤ 10) (hM : MmOk n mm) {P : Nat} (hP : P + 1 < n) : (if f_take (gof n mm) (nI P) = 0 then (0 : Int32) else 1) = if mm (P + 1) 5 = -1 then 0 else if mm (P + 1) 5 < mm P 2 * mm (P + 1) 3 then 0 else if f_hind (gof n mm) (nI P) = 0 ∨ f_hind (gof n mm) (nI P) = 4 then 1 else 0 := by
  unfold f_take
  rw [g_in1 hn hP, loss_in hn hP]
  by_cases a : mm (P + 1) 5 = -1
  · rw [if_pos a, if_pos a]; rfl
  · rw [if_neg a, if_neg a]
    by_cases b : mm (P + 1) 5 < mm P 2 * mm (P + 1) 3
    · rw [if_pos b, if_pos b]; rfl
    · rw [if_neg b, if_neg b]
      by_cases d : f_held (gof n mm) (nI P) = 0
      · rw [if_pos d, if_pos ((h04 hn hM hP).mp d)]; rfl
      · rw [if_neg d, if_neg (fun q => d ((h04 hn hM hP).mpr q))]; rfl
/-- the sum of friends counts each pair twice -/
theorem fr2 (hn : n ≤ 10) (hM : MmOk n mm) : sI (fun j => f_frn (gof n mm) (nI j)) n = 2 * f_frs (gof n mm) n := by
  have e1 : sI (fun j => f_frn (gof n mm) (nI j)) n = sI (fun j => mfr n mm j + (if 0 < j then mfr n mm (j - 1) else 0)) n := sI_congr (fun i hi => frn_in hn hM hi)
  have e2 : ∀ m, sI (fun j => mfr n mm j + (if 0 < j then mfr n mm (j - 1) else 0)) m + mfr n mm (m - 1) = 2 * sI (fun j => mfr n mm j) m + (if m = 0 then mfr n mm 0 else 0) := by
    intro m
    induction m with
    | zero => show 0 + mfr n mm 0 = 2 * 0 + mfr n mm 0; rw [Int32.mul_zero]
    | succ m ih =>
      show sI (fun j => mfr n mm j + (if 0 < j then mfr n mm (j - 1) else 0)) m + (mfr n mm m + (if 0 < m then mfr n mm (m - 1) else 0)) + mfr n mm m = 2 * (sI (fun j => mfr n mm j) m + mfr n mm m) + (if m + 1 = 0 then mfr n mm 0 else 0)
      rw [if_neg (show ¬ m + 1 = 0 by omega), Int32.add_zero, Int32.mul_add]
      have e3 : (2 : Int32) * mfr n mm m = mfr n mm m + mfr n mm m := Int32.two_mul
      rcases Nat.eq_zero_or_pos m with q | q
      · subst q
        show 0 + (mfr n mm 0 + 0) + mfr n mm 0 = 2 * 0 + 2 * mfr n mm 0
        rw [e3, Int32.mul_zero, Int32.add_zero, Int32.zero_add, Int32.zero_add]
      · rw [if_pos q, e3]
        rw [if_neg (show ¬ m = 0 by omega), Int32.add_zero] at ih
        rw [← ih]
        ac_rfl
  have e4 := e2 n
  rw [e1, frs_in hn hM]
  rcases Nat.eq_zero_or_pos n with q | q
  · subst q; show (0 : Int32) = 2 * 0; rw [Int32.mul_zero]
  · rw [if_neg (show ¬ n = 0 by omega), Int32.add_zero, show mfr n mm (n - 1) = 0 from if_neg (by omega), Int32.add_zero] at e4
    exact e4
theorem imin_ge {a b : Int32} (h : b ≤ a) : b = imin a b := by
  unfold imin
  by_cases q : b < a
  · rw [if_pos q]
  · rw [if_neg q]; exact Int32.le_antisymm h (Int32.not_lt.mp q)
theorem imin_lt {a b : Int32} (h : ¬ b ≤ a) : a = imin a b := by
  unfold imin
  rw [if_neg (fun q => h (Int32.le_of_lt q))]
theorem lastm (hn : n ≤ 10) {i : Nat} (hi : i < n) (h : nI i = nI n - 1) : i + 1 = n := by
  obtain ⟨q, rfl⟩ : ∃ q, n = q + 1 := ⟨n - 1, by omega⟩
  rw [nI_pred] at h
  have := (nI_eq (by omega) (by omega)).mp h
  omega
theorem far5 (hn : n ≤ 10) {i : Nat} (h : i + 1 = n) : gof n mm (nI i + 1) 5 = -1 := by
  rw [nI_1, h, gof_far mm (Nat.le_refl _) (by omega)]; rfl
theorem lpE {i : Nat} (hi : i ≤ n - 1) (hn : n ≤ 10) (h : nI n ≤ nI i + 1) : i = n - 1 := by
  rw [nI_1] at h
  have := (nI_leI (by omega) (by omega)).mp h
  omega
theorem lpO {i : Nat} (hi : i ≤ n - 1) (hn : n ≤ 10) (h : ¬ nI n ≤ nI i + 1) : i + 1 < n := by
  rw [nI_1] at h
  rcases Nat.lt_or_ge (i + 1) n with q | q
  · exact q
  · exact absurd (nI_le q (by omega)) h
theorem mfr_far {i : Nat} (hi : i ≤ 20) (hn : n ≤ 10) (h : nI n ≤ nI i + 2) : mfr n mm (i + 1) = 0 := by
  rw [show nI i + 2 = nI (i + 2) from nI_add i 2] at h
  have := (nI_leI (by omega) (by omega)).mp h
  exact if_neg (by omega)
theorem mfr_near {i : Nat} (hi : i ≤ 20) (hn : n ≤ 10) (h : ¬ nI n ≤ nI i + 2) : i + 1 + 1 < n := by
  rw [show nI i + 2 = nI (i + 2) from nI_add i 2] at h
  rcases Nat.lt_or_ge (i + 2) n with q | q
  · exact q
  · exact absurd (nI_le q (by omega)) h
theorem lpp0 {i : Nat} (hi : i ≤ 20) (h : nI i ≤ 0) : i = 0 := by
  rcases Nat.eq_zero_or_pos i with q | q
  · exact q
  · exact absurd h (nI_nle q (by omega))
theorem lpp1 {i : Nat} (h : ¬ nI i ≤ 0) : 0 < i := by
  rcases Nat.eq_zero_or_pos i with q | q
  · subst q; exact absurd (Int32.le_refl 0) h
  · exact q
theorem eq0 {i : Nat} (hi : i ≤ 20) (h : nI i = 0) : i = 0 := (nI_eq (by omega) (by omega)).mp h
theorem ne0 {i : Nat} (h : ¬ nI i = 0) : 0 < i := by
  rcases Nat.eq_zero_or_pos i with q | q
  · subst q; exact absurd rfl h
  · exact q
theorem bit0 {a : Int32} (h : a = 0 ∨ a = 1) (h2 : ¬ a = 1) : 0 = a := by
  rcases h with h | h
  · exact h.symm
  · exact absurd h h2
theorem XI.le4 {S : ST} {cv : LVt} {mc : Nat} {sv : Nat → LVt} (h : XI S cv mc sv) : mc ≤ 4 := h.2.1.1
end Vals
theorem m_mem {l : Launch} {E : GE} (hE : Env0 E) {S : ST} {k n : Nat} {z : Nat → Int32} {mm : Nat → Nat → Int32} {mc : Nat} {sv : Nat → LVt} (hXI : XI S (n, z, mm) mc sv) (hQ : QOk k (n, z, mm)) {P : Nat} (hP : P < n) {a : Int32} (ea : a = mm P 0) (w : Nat) (hw : w < 10) {b : Int32} (eb : b = nI w) {v : Int32} (hv : mv n mm P w = v) : MR l E yX6_member cX6_member 4 (some .int) 4 89 S [.ref (gA E 83), .int a, .int b] (some (.int v)) := by
  subst hv; subst ea
  rw [← mv_e hQ.1 hP w hw]
  exact c_X6_member hE hXI P hP (mm P 0) (hQ.pl hP) w hw b eb
theorem m_at {l : Launch} {E : GE} (hE : Env0 E) {S : ST} {k n : Nat} {z : Nat → Int32} {mm : Nat → Nat → Int32} {mc : Nat} {sv : Nat → LVt} (hXI : XI S (n, z, mm) mc sv) (hQ : QOk k (n, z, mm)) {P : Nat} (hP : P < n) {a : Int32} (ea : a = nI P) : MR l E yX6_at cX6_at 2 (some .int) 1 22 S [.ref (gA E 83), .int a] (some (.int (mm P 0))) := by
  subst ea
  have hn : n ≤ 10 := hQ.1
  rw [← gof_in mm hn hP 0]
  exact c_X6_at hE hXI (nI P) (nI_pos (by omega))
theorem m_atn {l : Launch} {E : GE} (hE : Env0 E) {S : ST} {k n : Nat} {z : Nat → Int32} {mm : Nat → Nat → Int32} {mc : Nat} {sv : Nat → LVt} (hXI : XI S (n, z, mm) mc sv) (hQ : QOk k (n, z, mm)) {a : Int32} (ea : a = nI n) : MR l E yX6_at cX6_at 2 (some .int) 1 22 S [.ref (gA E 83), .int a] (some (.int (-1))) := by
  subst ea
  have hn : n ≤ 10 := hQ.1
  have e : gof n mm (nI n) 0 = -1 := by rw [gof_far mm (Nat.le_refl _) (by omega)]; rfl
  rw [← e]
  exact c_X6_at hE hXI (nI n) (nI_pos (by omega))
theorem m_pair {l : Launch} {E : GE} (hE : Env0 E) {S : ST} {k n : Nat} {z : Nat → Int32} {mm : Nat → Nat → Int32} {mc : Nat} {sv : Nat → LVt} (hXI : XI S (n, z, mm) mc sv) (hQ : QOk k (n, z, mm)) {P : Nat} (hP : P + 1 < n) {a : Int32} (ea : a = nI P) (w : Nat) (hw : w < 5) {b : Int32} (eb : b = nI w) {v : Int32} (hv : pv z mm P w = v) : MR l E yX6_pair cX6_pair 3 (some .int) 3 69 S [.ref (gA E 83), .int a, .int b] (some (.int v)) := by
  subst hv
  rw [← pv_e hQ.1 hQ.2.2.1 hP w hw]
  exact c_X6_pair hE hXI P hP a ea w hw b eb
theorem m_whole {l : Launch} {E : GE} (hE : Env0 E) {S : ST} {k n : Nat} {z : Nat → Int32} {mm : Nat → Nat → Int32} {mc : Nat} {sv : Nat → LVt} (hXI : XI S (n, z, mm) mc sv) (hQ : QOk k (n, z, mm)) (hL : (sT S).1 1 = nI 0) (w : Nat) (hw : w < 14) {b : Int32} (eb : b = nI w) {v : Int32} (hv : f_whole n z mm 0 w = v) : MR l E yX6_whole cX6_whole 2 (some .int) 6 130 S [.ref (gA E 83), .int b] (some (.int v)) := by
  subst hv
  exact c_X6_whole hE hXI hL w hw b eb
theorem m_reason {l : Launch} {E : GE} (hE : Env0 E) {S : ST} {k n : Nat} {z : Nat → Int32} {mm : Nat → Nat → Int32} {mc : Nat} {sv : Nat → LVt} (hXI : XI S (n, z, mm) mc sv) (hQ : QOk k (n, z, mm)) {P : Nat} (hP : P + 1 < n) {a : Int32} (ea : a = nI P) : MR l E yX6_reason cX6_reason 2 (some .int) 3 66 S [.ref (gA E 83), .int a] (some (.int (f_hind (gof n mm) (nI P)))) := c_X6_reason hE hXI P hP a ea
