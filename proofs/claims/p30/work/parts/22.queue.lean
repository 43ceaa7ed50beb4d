/-! QUEUE: what its calls ask, refuse and do, over a line's value -/
def f_in (a b d : Int32) : Bool := decide (b ≤ a) && decide (a ≤ d)
theorem bI_0 {b : Bool} (h : bI b = 0) : b = false := by cases b with | false => rfl | true => exact absurd h (by decide)
theorem bI_1 {b : Bool} (h : ¬ bI b = 0) : b = true := by cases b with | true => rfl | false => exact absurd rfl h
def f_mf (p0 p1 : Int32) : Int32 := if p0 = -1 then 1 else if p1 = 0 then 2 else 0
def f_pf (n : Nat) (p0 p1 p2 : Int32) : Int32 := if f_in p0 0 (nI n - 2) = true then (if p1 = 0 then p2 else 0) else 1
def f_jf (g : Int32 → Nat → Int32) (n : Nat) (p0 p1 p2 : Int32) : Int32 :=
  if f_in p0 0 99 = true then (if f_in p1 1 30 = true then (if f_in p2 0 (nI n) = true then (if 10 ≤ nI n then 3 else if g p2 6 = 0 then 0 else 3) else 2) else 2) else 2
def f_of (p0 p1 : Int32) : Int32 := if f_mf p0 (bI (f_in p1 0 9999)) = 0 then (if p0 = 0 then 3 else f_mf p0 (bI (f_in p1 0 9999))) else f_mf p0 (bI (f_in p1 0 9999))
def f_tf (g : Int32 → Nat → Int32) (p0 : Int32) : Int32 := if f_mf p0 1 = 0 then (if f_take g p0 = 0 then 3 else f_mf p0 1) else f_mf p0 1
def f_ft (g : Int32 → Nat → Int32) (n u_j : Nat) (a b d : Int32) : Int32 := match u_j with
  | 0 => f_jf g n a b (nI n)
  | 1 => f_jf g n a b d
  | 2 => f_mf (f_place g n a) 1
  | 3 => f_mf (f_place g n a) (bI (f_in b 0 99))
  | 4 => f_of (f_place g n a) b
  | 5 => f_tf g (f_place g n a)
  | 6 => f_pf n a (f_would g a) 3
  | 7 => f_pf n a (if f_fr g a = 0 then 1 else 0) 3
  | 8 => f_pf n a (f_fr g a) 3
  | 9 => if 0 < nI n then 0 else 3
  | _ => 0
def f_whole (n : Nat) (z : Nat → Int32) (mm : Nat → Nat → Int32) (u_n w : Nat) : Int32 := if w = 13 then nI u_n else f_wval (gof n mm) n z w
theorem plc_c (g : Int32 → Nat → Int32) (q : Int32) : ∀ (d i : Nat), (f_plc g q d i = -1 ∧ ∀ j, i ≤ j → j < i + d → g (nI j) 0 ≠ q) ∨ ∃ P, i ≤ P ∧ P < i + d ∧ f_plc g q d i = nI P ∧ g (nI P) 0 = q
  | 0, i => Or.inl ⟨rfl, fun j h1 h2 => by omega⟩
  | d + 1, i => by
    unfold f_plc
    split
    · rename_i h; exact Or.inr ⟨i, by omega, by omega, rfl, h⟩
    · rename_i h
      rcases plc_c g q d (i + 1) with ⟨h1, h2⟩ | ⟨P, h1, h2, h3, h4⟩
      · refine Or.inl ⟨h1, fun j h3 h4 => ?_⟩
        rcases Nat.eq_or_lt_of_le h3 with e | e
        · rw [← e]; exact h
        · exact h2 j e (by omega)
      · exact Or.inr ⟨P, by omega, by omega, h3, h4⟩
theorem place_c {g : Int32 → Nat → Int32} {n : Nat} {q : Int32} : (f_place g n q = -1 ∧ ∀ j, j < n → g (nI j) 0 ≠ q) ∨ ∃ P, P < n ∧ f_place g n q = nI P ∧ g (nI P) 0 = q := by
  rcases plc_c g q n 0 with ⟨h1, h2⟩ | ⟨P, h1, h2, h3, h4⟩
  · exact Or.inl ⟨h1, fun j hj => h2 j (by omega) (by omega)⟩
  · exact Or.inr ⟨P, by omega, h3, h4⟩
theorem mf_in {g : Int32 → Nat → Int32} {n : Nat} {q p1 : Int32} (h : f_mf (f_place g n q) p1 = 0) : ∃ P, P < n ∧ f_place g n q = nI P ∧ g (nI P) 0 = q := by
  rcases place_c (g := g) (n := n) (q := q) with ⟨h1, h2⟩ | h1
  · unfold f_mf at h; rw [if_pos h1] at h; exact absurd h (by decide)
  · exact h1
theorem f_in_of {a : Int32} {u_n : Nat} (hn : u_n < 2 ^ 31) (h : f_in a 0 (nI u_n) = true) : ∃ P, P ≤ u_n ∧ a = nI P := by
  unfold f_in at h
  rw [Bool.and_eq_true, decide_eq_true_eq, decide_eq_true_eq] at h
  obtain ⟨P, hP, rfl⟩ := nI_of (Int32.not_lt.mpr h.1)
  exact ⟨P, (nI_leI hP hn).mp h.2, rfl⟩
theorem f_in_pair {a : Int32} {n : Nat} (hn : n ≤ 10) : f_in a 0 (nI n - 2) = true ↔ ∃ P, P + 1 < n ∧ a = nI P := by
  rcases (show n = 0 ∨ n = 1 ∨ 2 ≤ n by omega) with rfl | rfl | h2
  · refine ⟨fun h => ?_, fun ⟨P, h, _⟩ => by omega⟩
    unfold f_in at h
    rw [Bool.and_eq_true, decide_eq_true_eq, decide_eq_true_eq] at h
    exact absurd (Int32.le_trans h.1 h.2) (by decide)
  · refine ⟨fun h => ?_, fun ⟨P, h, _⟩ => by omega⟩
    unfold f_in at h
    rw [Bool.and_eq_true, decide_eq_true_eq, decide_eq_true_eq] at h
    exact absurd (Int32.le_trans h.1 h.2) (by decide)
  · have e : nI n - 2 = nI (n - 2) := by
      have h3 := nI_add (n - 2) 2
      rw [show n - 2 + 2 = n by omega] at h3
      rw [← h3]; exact Int32.add_sub_cancel _ _
    rw [e]
    refine ⟨fun h => ?_, fun ⟨P, h, h3⟩ => ?_⟩
    · obtain ⟨P, hP, h3⟩ := f_in_of (by omega) h
      exact ⟨P, by omega, h3⟩
    · rw [h3]; unfold f_in
      rw [decide_eq_true (nI_pos' (by omega)), decide_eq_true (nI_le (by omega) (by omega))]; rfl
theorem pf_in {n : Nat} {a p1 : Int32} (hn : n ≤ 10) (h : f_pf n a p1 3 = 0) : ¬ p1 = 0 ∧ ∃ P, P + 1 < n ∧ a = nI P := by
  unfold f_pf at h
  split at h
  · rename_i h1
    split at h
    · exact absurd h (by decide)
    · rename_i h2; exact ⟨h2, (f_in_pair hn).mp h1⟩
  · exact absurd h (by decide)
theorem jf_in {g : Int32 → Nat → Int32} {n : Nat} {a b d : Int32} (hn : n ≤ 10) (h : f_jf g n a b d = 0) : n < 10 ∧ f_in a 0 99 = true ∧ f_in b 1 30 = true ∧ g d 6 = 0 ∧ ∃ P, P ≤ n ∧ d = nI P := by
  unfold f_jf at h
  split at h
  · rename_i h1
    split at h
    · rename_i h2
      split at h
      · rename_i h3
        split at h
        · exact absurd h (by decide)
        · rename_i h4
          split at h
          · rename_i h5
            refine ⟨?_, h1, h2, h5, f_in_of (by omega) h3⟩
            rcases Nat.lt_or_ge n 10 with q | q
            · exact q
            · exact absurd (nI_le (a := 10) q (by omega)) h4
          · exact absurd h (by decide)
      · exact absurd h (by decide)
    · exact absurd h (by decide)
  · exact absurd h (by decide)
theorem of_in {p0 p1 : Int32} (h : f_of p0 p1 = 0) : f_mf p0 (bI (f_in p1 0 9999)) = 0 ∧ ¬ p0 = 0 := by
  unfold f_of at h
  split at h
  · rename_i h1
    split at h
    · exact absurd h (by decide)
    · rename_i h2; exact ⟨h1, h2⟩
  · rename_i h1; exact absurd h h1
theorem tf_in {g : Int32 → Nat → Int32} {p0 : Int32} (h : f_tf g p0 = 0) : f_mf p0 1 = 0 ∧ ¬ f_take g p0 = 0 := by
  unfold f_tf at h
  split at h
  · rename_i h1
    split at h
    · exact absurd h (by decide)
    · rename_i h2; exact ⟨h1, h2⟩
  · rename_i h1; exact absurd h h1
/-- who takes an offer has one behind -/
theorem take_in {n P : Nat} {mm : Nat → Nat → Int32} (hP : P < n) (hn : n ≤ 10) (h : ¬ f_take (gof n mm) (nI P) = 0) : P + 1 < n := by
  rcases Nat.lt_or_ge (P + 1) n with q | q
  · exact q
  · exfalso; apply h
    unfold f_take
    rw [nI_1, gof_far mm q (by omega)]
    exact if_pos (by unfold nob; rfl)
/-- what a command does -/
def f_co (fu n : Nat) (z : Nat → Int32) (mm : Nat → Nat → Int32) (u_j : Nat) (a b d : Int32) : Int32 × LVt := match u_j with
  | 0 => (z 7, (n + 1, upd (upd z 2 (nI (n + 1))) 7 (z 7 + 1), mins mm n (mfresh (z 7) a b)))
  | 1 => (z 7, (n + 1, upd (upd z 2 (nI (n + 1))) 7 (z 7 + 1), mins mm d.toNatClampNeg (mfresh (z 7) a b)))
  | 2 => (f_place (gof n mm) n a, (n - 1, upd z 2 (nI (n - 1)), mrem mm (f_place (gof n mm) n a).toNatClampNeg))
  | 3 => (mm (f_place (gof n mm) n a).toNatClampNeg 2, (n, z, up2 mm (f_place (gof n mm) n a).toNatClampNeg 2 b))
  | 4 => (mm (f_place (gof n mm) n a).toNatClampNeg 5, (n, z, up2 mm (f_place (gof n mm) n a).toNatClampNeg 5 b))
  | 5 => (mm ((f_place (gof n mm) n a).toNatClampNeg + 1) 5, (n, upd (upd z 4 (z 4 + 1)) 5 (z 5 + mm ((f_place (gof n mm) n a).toNatClampNeg + 1) 5), mswap mm (f_place (gof n mm) n a).toNatClampNeg (mm ((f_place (gof n mm) n a).toNatClampNeg + 1) 5)))
  | 6 => (f_fairc (gof n mm) (z 3) a, (n, upd (upd z 4 (z 4 + 1)) 5 (z 5 + f_fairc (gof n mm) (z 3) a), mswap mm a.toNatClampNeg (f_fairc (gof n mm) (z 3) a)))
  | 7 => (f_frs (gof n (up2 mm (a.toNatClampNeg + 1) 6 1)) n, (n, z, up2 mm (a.toNatClampNeg + 1) 6 1))
  | 8 => (f_frs (gof n (up2 mm (a.toNatClampNeg + 1) 6 0)) n, (n, z, up2 mm (a.toNatClampNeg + 1) 6 0))
  | 9 => (mm 0 0, (n - 1, upd (upd z 2 (nI (n - 1))) 6 (z 6 + 1), mrem mm 0))
  | _ => (nI (f_set n fu z mm).1, (n, (f_set n fu z mm).2.1, (f_set n fu z mm).2.2))
/-- who stands there stands somewhere after a swap, and after settling -/
theorem mswap_has {n P : Nat} {mm : Nat → Nat → Int32} {pr q : Int32} (hP : P + 1 < n) (h : ∃ X, X < n ∧ mm X 0 = q) : ∃ X, X < n ∧ mswap mm P pr X 0 = q := by
  obtain ⟨X, hX, e⟩ := h
  by_cases e1 : X = P
  · subst e1; exact ⟨X + 1, hP, by unfold mswap mlose; rw [if_neg (by omega), if_pos rfl]; exact e⟩
  · by_cases e2 : X = P + 1
    · subst e2; exact ⟨P, by omega, by unfold mswap mlose; rw [if_pos rfl]; exact e⟩
    · by_cases e3 : X = P + 2
      · subst e3; exact ⟨P + 2, hX, by unfold mswap mlose; rw [if_neg (by omega), if_neg (by omega), if_pos rfl]; exact e⟩
      · exact ⟨X, hX, by unfold mswap; rw [if_neg e1, if_neg e2, if_neg e3]; exact e⟩
theorem set_has {n : Nat} (hn : n ≤ 10) {q : Int32} (fu : Nat) : ∀ (z : Nat → Int32) (mm : Nat → Nat → Int32), (∃ X, X < n ∧ mm X 0 = q) → ∃ X, X < n ∧ (f_set n fu z mm).2.2 X 0 = q := by
  induction fu with
  | zero => intro z mm h; exact h
  | succ fu ih =>
    intro z mm h
    rcases f_kp_cases (gof n mm) (n - 1) with e | ⟨Q, hQ, e⟩
    · rw [f_set_stop e]; exact h
    · rw [f_set_go hn hQ e]
      exact ih _ _ (mswap_has (by omega) h)
theorem place_has {n : Nat} {mm : Nat → Nat → Int32} {q : Int32} (hn : n ≤ 10) (h : ∃ X, X < n ∧ mm X 0 = q) : ∃ P, P < n ∧ f_place (gof n mm) n q = nI P ∧ mm P 0 = q := by
  obtain ⟨X, hX, e⟩ := h
  rcases place_c (g := gof n mm) (n := n) (q := q) with ⟨h1, h2⟩ | ⟨P, hP, h1, h2⟩
  · exact absurd ((gof_in mm hn hX 0).trans e) (h2 X hX)
  · exact ⟨P, hP, h1, (gof_in mm hn hP 0).symm.trans h2⟩
/-- a profit -/
def f_pro (fu n : Nat) (z : Nat → Int32) (mm : Nat → Nat → Int32) (P : Nat) (w : Int32) : Int32 :=
  let r := (f_set n fu z (up2 mm P 2 w)).2.2
  let u_q := f_place (gof n r) n (mm P 0)
  f_cost (gof n mm) P - f_cost (gof n r) u_q.toNatClampNeg + gof n r u_q 4 - mm P 4
theorem f_pro_e {fu n : Nat} {z : Nat → Int32} {mm : Nat → Nat → Int32} {P Q : Nat} {w : Int32} (hQ : Q < 2 ^ 31) (h : f_place (gof n (f_set n fu z (up2 mm P 2 w)).2.2) n (mm P 0) = nI Q) : f_pro fu n z mm P w = f_cost (gof n mm) P - f_cost (gof n (f_set n fu z (up2 mm P 2 w)).2.2) Q + gof n (f_set n fu z (up2 mm P 2 w)).2.2 (nI Q) 4 - mm P 4 := by
  unfold f_pro
  show f_cost (gof n mm) P - f_cost (gof n (f_set n fu z (up2 mm P 2 w)).2.2) (f_place (gof n (f_set n fu z (up2 mm P 2 w)).2.2) n (mm P 0)).toNatClampNeg + gof n (f_set n fu z (up2 mm P 2 w)).2.2 (f_place (gof n (f_set n fu z (up2 mm P 2 w)).2.2) n (mm P 0)) 4 - mm P 4 = _
  rw [h, nI_clamp hQ]
