/-! SETTLING: what the law asks of it -/
section SetF
variable {n : Nat} {z : Nat → Int32} {mm : Nat → Nat → Int32}
theorem set_zero {fu : Nat} (hn : n ≤ 10) (h : (f_set n fu z mm).1 = 0) : (f_set n fu z mm).2.2 = mm := by
  cases fu with
  | zero => rfl
  | succ fu =>
    rcases kp_inv (gof n mm) (n - 1) with h1 | ⟨Q, hQ, e, _, _, _⟩
    · rw [f_set_stop h1.1]
    · rw [f_set_go hn hQ e] at h
      have h : (f_set n fu (upd (upd z 4 (z 4 + 1)) 5 (z 5 + f_fairc (gof n mm) (z 3) (nI Q))) (mswap mm Q (f_fairc (gof n mm) (z 3) (nI Q)))).1 + 1 = 0 := h
      omega
theorem told_cmp (hV : VOk n mm) (hn : n ≤ 10) {u_c : Nat} {zs : Nat → Int32} {ms : Nat → Nat → Int32} (hS : f_set n 1000 z mm = (u_c, zs, ms)) : f_told (gof n ms) n ≤ f_told (gof n mm) n ∧ (f_told (gof n ms) n = f_told (gof n mm) n ↔ u_c = 0) ∧ u_c < 2 ^ 31 := by
  have h1 := set_told 1000 z mm hn hV
  have hT := VOk.set 1000 z mm hn hV
  have h0 := set_zero (fu := 1000) (z := z) (mm := mm) hn
  rw [hS] at h1 hT h0
  have h1 : cN (vT ms) (vS ms) n + u_c ≤ cN (vT mm) (vS mm) n := h1
  have hT : VOk n ms := hT
  have h0 : u_c = 0 → ms = mm := h0
  have h2 := hV.ct hn
  rw [hT.told hn, hV.told hn]
  refine ⟨nI_le (by omega) (by omega), ⟨fun e => ?_, fun e => ?_⟩, by omega⟩
  · have := (nI_eq (by omega) (by omega)).mp e
    omega
  · rw [h0 e]
theorem kp_all (g : Int32 → Nat → Int32) (k : Nat) : ∀ Q, Q < k → f_held g (nI Q) = 0 → f_sur g (nI Q) ≤ (f_kp g k).2 := by
  induction k with
  | zero => intro Q hQ; omega
  | succ k ih =>
    intro Q hQ h
    unfold f_kp
    by_cases c : f_sur g (nI k) ≤ (f_kp g k).2
    · rw [if_pos c]
      by_cases e : Q = k
      · rw [e]; exact c
      · exact ih Q (by omega) h
    · rw [if_neg c]
      by_cases d : f_held g (nI k) = 0
      · rw [if_pos d]
        show f_sur g (nI Q) ≤ f_sur g (nI k)
        by_cases e : Q = k
        · rw [e]; exact Int32.le_refl _
        · exact Int32.le_trans (ih Q (by omega) h) (Int32.le_of_lt (Int32.not_le.mp c))
      · rw [if_neg d]
        by_cases e : Q = k
        · exact absurd (by rw [← e]; exact h) d
        · exact ih Q (by omega) h
theorem sI_zero {f : Nat → Int32} {m : Nat} (h : ∀ j, j < m → f j = 0) : sI f m = 0 := by
  induction m with
  | zero => rfl
  | succ m ih =>
    show sI f m + f m = 0
    rw [ih (fun j hj => h j (by omega)), h m (by omega)]; rfl
theorem will0 (hV : VOk n mm) (hn : n ≤ 10) {u_c : Nat} {zs : Nat → Int32} {ms : Nat → Nat → Int32} (hS : f_set n 1000 z mm = (u_c, zs, ms)) (hM : MmOk n ms) : f_willing (gof n ms) n = 0 := by
  have h1 := hV.st hn z
  unfold Stops at h1
  rw [hS] at h1
  have h1 : (f_kp (gof n ms) (n - 1)).1 = -1 := h1
  have h2 : (f_kp (gof n ms) (n - 1)).2 = 0 := by
    rcases kp_inv (gof n ms) (n - 1) with h | ⟨Q, hQ, e, _⟩
    · exact h.2
    · rw [h1] at e; exact absurd e.symm (nI_m1 (by omega))
  refine sI_zero (fun j hj => ?_)
  show (if f_hind (gof n ms) (nI j) = 0 then (1 : Int32) else 0) = 0
  rw [if_neg]
  intro q
  obtain ⟨a, b⟩ := (hind0 hn hM (show j + 1 < n by omega)).mp q
  have := kp_all (gof n ms) (n - 1) j hj a
  rw [h2] at this
  exact absurd b (Int32.not_lt.mpr this)
theorem frs_nn (hn : n ≤ 10) : ¬ f_frs (gof n mm) n < 0 := by
  have e : f_frs (gof n mm) n = nI (nS (fun j => if f_fr (gof n mm) (nI j) = 0 then 0 else 1) (n - 1)) := sI_nS (fun i _ => by
    show (if f_fr (gof n mm) (nI i) = 0 then (0 : Int32) else 1) = nI (if f_fr (gof n mm) (nI i) = 0 then 0 else 1)
    split <;> rfl)
  have h : nS (fun j => if f_fr (gof n mm) (nI j) = 0 then 0 else 1) (n - 1) ≤ (n - 1) * 1 := nS_le (fun i _ => by split <;> omega)
  rw [e]; exact nI_pos (by omega)
theorem lie_ok (f : Nat → Int32) (m : Nat) : ∃ u_l, u_l ≤ m ∧ (t_lie f m).2 = nI u_l ∧ f u_l = (t_lie f m).1 ∧ ∀ w, w ≤ m → f w ≤ (t_lie f m).1 := by
  induction m with
  | zero => exact ⟨0, Nat.le_refl _, rfl, rfl, fun w hw => by rw [show w = 0 by omega]; exact Int32.le_refl _⟩
  | succ m ih =>
    obtain ⟨u_l, h1, h2, h3, h4⟩ := ih
    unfold t_lie
    by_cases c : f (m + 1) ≤ (t_lie f m).1
    · rw [if_pos c]
      refine ⟨u_l, by omega, h2, h3, fun w hw => ?_⟩
      by_cases e : w = m + 1
      · rw [e]; exact c
      · exact h4 w (by omega)
    · rw [if_neg c]
      refine ⟨m + 1, Nat.le_refl _, rfl, rfl, fun w hw => ?_⟩
      show f w ≤ f (m + 1)
      by_cases e : w = m + 1
      · rw [e]; exact Int32.le_refl _
      · exact Int32.le_trans (h4 w (by omega)) (Int32.le_of_lt (Int32.not_le.mp c))
theorem up2_self (mm : Nat → Nat → Int32) (P i : Nat) : up2 mm P i (mm P i) = mm := by
  funext x y
  unfold up2
  split
  · rename_i h; rw [h.1, h.2]
  · rfl
theorem back4 {a b d u_x : Int32} : (a - b) - (d - u_x) = u_x - b + a - d := by
  simp only [Int32.sub_eq_add_neg, Int32.neg_add, Int32.neg_neg]
  ac_rfl
/-- the profit of what is told -/
theorem pro_ms (hn : n ≤ 10) {u_c : Nat} {zs : Nat → Int32} {ms : Nat → Nat → Int32} (hS : f_set n 1000 z mm = (u_c, zs, ms)) {P Q : Nat} (hP : P < n) (hQ : Q < n) (e : f_place (gof n ms) n (mm P 0) = nI Q) : f_pro 1000 n z mm P (mm P 2) = mm P 1 * f_wait (gof n mm) P - ms Q 1 * f_wait (gof n ms) Q + ms Q 4 - mm P 4 := by
  have e2 : f_place (gof n (f_set n 1000 z (up2 mm P 2 (mm P 2))).2.2) n (mm P 0) = nI Q := by rw [up2_self, hS]; exact e
  rw [f_pro_e (by omega) e2, up2_self, hS]
  show f_cost (gof n mm) P - f_cost (gof n ms) Q + gof n ms (nI Q) 4 - mm P 4 = _
  unfold f_cost
  rw [gof_in mm hn hP, gof_in ms hn hQ, gof_in ms hn hQ]
theorem f_in_N {a N : Nat} (h : a ≤ N) (hN : N < 2 ^ 31) : f_in (nI a) 0 (nI N) = true := f_in_nI rfl ⟨h, hN⟩
theorem told99 (hV : VOk n mm) {P : Nat} (hP : P < n) : ∃ u_t, u_t ≤ 99 ∧ mm P 2 = nI u_t := (hV P hP).2.1
end SetF
