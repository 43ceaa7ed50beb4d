/-! TEXT: a word as a number; numbers; what the model reads -/
theorem cmp0 {x y : Int64} : lg_cmp x y = 0 ↔ x = y := by
  unfold lg_cmp
  split
  · rename_i h; exact ⟨fun q => absurd q (by decide), fun q => by subst q; exact (Int64.lt_irrefl h).elim⟩
  · split
    · rename_i h; exact ⟨fun _ => h, fun _ => rfl⟩
    · rename_i h; exact ⟨fun q => absurd q (by decide), fun q => absurd q h⟩
def t_hw (u_b : Nat → Int32) (u_p : Nat) : Nat → Int64
  | 0 => 0
  | i + 1 => if i < 7 then 27 * t_hw u_b u_p i + (u_b (u_p + i)).toInt64 - 96 else -1
def hN (u_e : Nat → Nat) : Nat → Nat
  | 0 => 0
  | i + 1 => 27 * hN u_e i + u_e i
theorem hN_lt {u_e : Nat → Nat} {m : Nat} (h : ∀ i, i < m → u_e i ≤ 26) : hN u_e m < 27 ^ m := by
  induction m with
  | zero => exact Nat.one_pos
  | succ m ih =>
    have h1 := ih (fun i hi => h i (by omega))
    have h2 := h m (by omega)
    rw [Nat.pow_succ]
    show 27 * hN u_e m + u_e m < 27 ^ m * 27
    omega
theorem hN_inj (m : Nat) : ∀ (u_m : Nat) (u_e u_f : Nat → Nat), (∀ i, i < m → 1 ≤ u_e i ∧ u_e i ≤ 26) → (∀ i, i < u_m → 1 ≤ u_f i ∧ u_f i ≤ 26) → hN u_e m = hN u_f u_m → m = u_m ∧ ∀ i, i < m → u_e i = u_f i := by
  induction m with
  | zero =>
    intro u_m u_e u_f he hf h
    cases u_m with
    | zero => exact ⟨rfl, fun i hi => absurd hi (by omega)⟩
    | succ u_m =>
      exfalso
      have h1 : 0 = 27 * hN u_f u_m + u_f u_m := h
      have := hf u_m (by omega)
      omega
  | succ m ih =>
    intro u_m u_e u_f he hf h
    cases u_m with
    | zero =>
      exfalso
      have h1 : 27 * hN u_e m + u_e m = 0 := h
      have := he m (by omega)
      omega
    | succ u_m =>
      have h1 : 27 * hN u_e m + u_e m = 27 * hN u_f u_m + u_f u_m := h
      have h2 := he m (by omega)
      have h3 := hf u_m (by omega)
      obtain ⟨h4, h5⟩ := ih u_m u_e u_f (fun i hi => he i (by omega)) (fun i hi => hf i (by omega)) (by omega)
      subst h4
      refine ⟨rfl, fun i hi => ?_⟩
      rcases Nat.lt_or_ge i m with q | q
      · exact h5 i q
      · rw [show i = m by omega]; omega
theorem c64 : ∀ u_c, u_c < 128 → (nI u_c).toInt64 = Int64.ofNat u_c := by decide +kernel
theorem hw_N {u_b : Nat → Int32} {u_p : Nat} {u_e : Nat → Nat} (m : Nat) : m ≤ 7 → (∀ i, i < m → u_e i ≤ 26 ∧ u_b (u_p + i) = nI (96 + u_e i)) → t_hw u_b u_p m = Int64.ofNat (hN u_e m) := by
  induction m with
  | zero => intro _ _; rfl
  | succ m ih =>
    intro h7 h
    have h1 := ih (by omega) (fun i hi => h i (by omega))
    obtain ⟨h2, h3⟩ := h m (by omega)
    show (if m < 7 then 27 * t_hw u_b u_p m + (u_b (u_p + m)).toInt64 - 96 else -1) = _
    rw [if_pos (by omega), h1, h3, c64 _ (by omega)]
    show Int64.ofNat 27 * Int64.ofNat (hN u_e m) + Int64.ofNat (96 + u_e m) - Int64.ofNat 96 = Int64.ofNat (27 * hN u_e m + u_e m)
    rw [← Int64.ofNat_mul, ← Int64.ofNat_add, ← Int64.ofNat_sub _ _ (by omega)]
    congr 1
    omega
def hC : List Int64 := [208022, 330758, 6477035, 13903, 8094240, 394691, 390787, 95840554, 316163, 10209515, 275695007]
def w_e (u_j u_i : Nat) : Nat := ((wByt.getD u_j []).getD u_i 0).toNatClampNeg - 96
theorem w_e_ok : ∀ u_j, u_j < 11 → ∀ u_i, u_i < 6 → u_i < wLen.getD u_j 0 → 1 ≤ w_e u_j u_i ∧ w_e u_j u_i ≤ 26 ∧ (wByt.getD u_j []).getD u_i 0 = nI (96 + w_e u_j u_i) := by decide +kernel
theorem hC_ok : ∀ u_j, u_j < 11 → hC.getD u_j 0 = Int64.ofNat (hN (w_e u_j) (wLen.getD u_j 0)) ∧ hC.getD u_j 0 ≠ -1 := by decide +kernel
theorem hC_ne : ∀ u_j, u_j < 11 → ∀ u_i, u_i < 11 → u_i ≠ u_j → hC.getD u_i 0 ≠ hC.getD u_j 0 := by decide +kernel
theorem le_v {x : Int32} (h : leB x = true) : 1 ≤ x.toNatClampNeg - 96 ∧ x.toNatClampNeg - 96 ≤ 26 ∧ x = nI (96 + (x.toNatClampNeg - 96)) := by
  obtain ⟨u_a, h1, h2, rfl⟩ := in_v (b := 97) (u_l := 97) (u_n := 122) rfl (by decide) (by decide) h
  rw [nI_clamp (by omega), show 96 + (u_a - 96) = u_a by omega]
  exact ⟨by omega, by omega, rfl⟩
theorem sp_iff {u_b : Nat → Int32} {u_p u_q u_j : Nat} (hj : u_j < 11) (hq : u_p ≤ u_q) (hl : ∀ i, i < u_q - u_p → leB (u_b (u_p + i)) = true) : t_spB u_b u_p u_q u_j = true ↔ t_hw u_b u_p (u_q - u_p) = hC.getD u_j 0 := by
  have h6 := wLen_ok hj
  rw [t_spB_i, (hC_ok u_j hj).1]
  constructor
  · intro h
    obtain ⟨h1, h2⟩ := h
    rw [h1]
    exact hw_N _ (by omega) (fun i hi => by
      have h3 := w_e_ok u_j hj i (by omega) hi
      exact ⟨h3.2.1, by rw [← h2 i hi]; exact h3.2.2⟩)
  · intro h
    rcases Nat.lt_or_ge 7 (u_q - u_p) with q | q
    · exfalso
      obtain ⟨u_k, hk⟩ : ∃ u_k, u_q - u_p = u_k + 1 := ⟨u_q - u_p - 1, by omega⟩
      rw [hk] at h
      have h1 : t_hw u_b u_p (u_k + 1) = -1 := if_neg (by omega)
      rw [h1] at h
      exact (hC_ok u_j hj).2 ((hC_ok u_j hj).1.trans h.symm)
    · have h1 := hw_N (u_b := u_b) (u_p := u_p) (u_e := fun i => (u_b (u_p + i)).toNatClampNeg - 96) (u_q - u_p) q (fun i hi => ⟨(le_v (hl i hi)).2.1, (le_v (hl i hi)).2.2⟩)
      rw [h1] at h
      have b1 : hN (fun i => (u_b (u_p + i)).toNatClampNeg - 96) (u_q - u_p) < 27 ^ 7 := Nat.lt_of_lt_of_le (hN_lt (fun i hi => (le_v (hl i hi)).2.1)) (Nat.pow_le_pow_right (by decide) q)
      have b2 : hN (w_e u_j) (wLen.getD u_j 0) < 27 ^ 7 := Nat.lt_of_lt_of_le (hN_lt (fun i hi => (w_e_ok u_j hj i (by omega) hi).2.1)) (Nat.pow_le_pow_right (by decide) (by omega))
      have b3 : (27 : Nat) ^ 7 < 2 ^ 63 := by decide
      have h2 := congrArg Int64.toNatClampNeg h
      rw [Int64.toNatClampNeg_ofNat_of_lt (by omega), Int64.toNatClampNeg_ofNat_of_lt (by omega)] at h2
      obtain ⟨h3, h4⟩ := hN_inj _ _ _ _ (fun i hi => ⟨(le_v (hl i hi)).1, (le_v (hl i hi)).2.1⟩) (fun i hi => ⟨(w_e_ok u_j hj i (by omega) hi).1, (w_e_ok u_j hj i (by omega) hi).2.1⟩) h2
      refine ⟨h3, fun i hi => ?_⟩
      have h5 := h4 i (by omega)
      rw [(w_e_ok u_j hj i (by omega) hi).2.2, ← h5]
      exact (le_v (hl i (by omega))).2.2.symm
theorem find_c {u_b : Nat → Int32} {u_p u_q u_j : Nat} (d : Nat) : ∀ u_i, (∀ u_k, u_i ≤ u_k → u_k < u_j → t_spB u_b u_p u_q u_k = false) → u_i ≤ u_j → u_j < u_i + d → t_spB u_b u_p u_q u_j = true → t_find u_b u_p u_q d u_i = some u_j := by
  induction d with
  | zero => intro u_i _ _ _ _; omega
  | succ d ih =>
    intro u_i h1 h2 h3 h4
    unfold t_find
    by_cases e : u_i = u_j
    · subst e; rw [if_pos h4]
    · rw [if_neg (by rw [h1 u_i (Nat.le_refl _) (by omega)]; decide)]
      exact ih (u_i + 1) (fun u_k h5 h6 => h1 u_k (by omega) h6) (by omega) (by omega) h4
theorem find_n {u_b : Nat → Int32} {u_p u_q : Nat} (d : Nat) : ∀ u_i, (∀ u_k, u_i ≤ u_k → u_k < u_i + d → t_spB u_b u_p u_q u_k = false) → t_find u_b u_p u_q d u_i = none := by
  induction d with
  | zero => intro u_i _; rfl
  | succ d ih =>
    intro u_i h1
    unfold t_find
    rw [if_neg (by rw [h1 u_i (Nat.le_refl _) (by omega)]; decide)]
    exact ih (u_i + 1) (fun u_k h5 h6 => h1 u_k (by omega) (by omega))
theorem bF {b : Bool} (h : ¬ b = true) : b = false := by cases b with | false => rfl | true => exact absurd rfl h
theorem cmd_of {u_b : Nat → Int32} {u_p u_q u_j : Nat} (hj : u_j < 11) (hq : u_p ≤ u_q) (hl : ∀ i, i < u_q - u_p → leB (u_b (u_p + i)) = true) (h : t_hw u_b u_p (u_q - u_p) = hC.getD u_j 0) : t_cmd u_b u_p u_q = some u_j :=
  find_c 11 0 (fun u_k _ h2 => bF (fun q => hC_ne u_j hj u_k (by omega) (by omega) (((sp_iff (by omega) hq hl).mp q).symm.trans h))) (Nat.zero_le _) (by omega) ((sp_iff hj hq hl).mpr h)
theorem cmd_no {u_b : Nat → Int32} {u_p u_q : Nat} (hq : u_p ≤ u_q) (hl : ∀ i, i < u_q - u_p → leB (u_b (u_p + i)) = true) (h : ∀ u_j, u_j < 11 → ¬ t_hw u_b u_p (u_q - u_p) = hC.getD u_j 0) : t_cmd u_b u_p u_q = none :=
  find_n 11 0 (fun u_k _ h2 => bF (fun q => h u_k (by omega) ((sp_iff (by omega) hq hl).mp q)))
def f_nof (a : Int32) : Int32 := if 9 < a then 0 else if a = 2 then 3 else if a = 1 ∨ a = 4 ∨ a = 5 then 2 else 1
theorem nof_c : ∀ u_j, u_j < 11 → f_nof (nI (u_j + 1)) = nI (cmdC u_j) := by decide +kernel
theorem TM.gi {S S1 : ST} {u_n u_p u_k : Nat} {u_b u_g : Nat → Int32} (h : TM S u_n u_b u_p u_k u_g) {x : Int32} (e : S1 = setM S (mGi (sM S) u_k x)) : TM S1 u_n u_b u_p u_k (upd u_g u_k x) := by
  subst e; exact ⟨h.1, h.2.1, h.2.2.1, h.2.2.2.1, congrArg (fun q => upd q u_k x) h.2.2.2.2⟩
theorem TM.nb {S S1 : ST} {u_n u_p u_k u_q : Nat} {u_b u_g : Nat → Int32} (h : TM S u_n u_b u_p u_k u_g) {x : Int32} (e : S1 = setM S (mMs (sM S) 6 x)) (hx : x = nI u_q) : TM S1 u_n u_b u_p u_q u_g := by
  subst e; exact ⟨h.1, h.2.1, hx, h.2.2.2.1, h.2.2.2.2⟩
theorem RTm.gi {S : ST} {i : Nat} {x : Int32} : RTm S (setM S (mGi (sM S) i x)) := ⟨rfl, rfl, rfl, rfl, rfl, rfl, rfl, rfl, rfl⟩
theorem RTm.nb {S : ST} {x : Int32} : RTm S (setM S (mMs (sM S) 6 x)) := ⟨rfl, rfl, rfl, rfl, rfl, rfl, rfl, rfl, rfl⟩
theorem dig_at {u_n : Nat} {u_b : Nat → Int32} {u_q : Nat} (h : (t_dig u_n u_b 4 0 u_q).2 ≤ u_q) : dgB (t_at u_n u_b u_q) = false := by
  refine bF (fun q => ?_)
  rw [t_dig_t (d := 3) q] at h
  have h1 := t_dig_le u_n u_b 3 (10 * 0 + t_at u_n u_b u_q - 48) (u_q + 1) (dg_in q)
  omega
theorem dig_no {u_n : Nat} {u_b : Nat → Int32} {u_q : Nat} (h : u_q < (t_dig u_n u_b 4 0 u_q).2) : dgB (t_at u_n u_b u_q) = true := by
  rcases Bool.eq_false_or_eq_true (dgB (t_at u_n u_b u_q)) with q | q
  · exact q
  · rw [t_dig_f q] at h; exact absurd h (Nat.lt_irrefl _)
theorem num_f {u_n : Nat} {u_b : Nat → Int32} {u_p : Nat} (h : dgB (t_at u_n u_b (t_run spB u_n u_b u_p)) = false) : t_num u_n u_b u_p = (false, 0, t_run spB u_n u_b u_p) := if_pos (Or.inr h)
theorem num_s {u_n : Nat} {u_b : Nat → Int32} {u_p : Nat} (h : t_run spB u_n u_b u_p = u_p) : t_num u_n u_b u_p = (false, 0, u_p) := by
  unfold t_num; rw [if_pos (Or.inl h), h]
theorem num_t {u_n : Nat} {u_b : Nat → Int32} {u_p : Nat} (h1 : u_p < t_run spB u_n u_b u_p) (h : dgB (t_at u_n u_b (t_run spB u_n u_b u_p)) = true) : t_num u_n u_b u_p = (true, t_dig u_n u_b 4 0 (t_run spB u_n u_b u_p)) := if_neg (fun q => q.elim (fun y => by omega) (fun y => by rw [h] at y; exact absurd y (by decide)))
theorem dg_sp {x : Int32} (h : dgB x = true) : spB x = false := by
  refine bF (fun q => ?_)
  have h1 : x = 32 := of_decide_eq_true q
  rw [h1] at h; exact absurd h (by decide)
theorem dg_59 {x : Int32} (h : dgB x = true) : ¬ x = 59 := fun q => by rw [q] at h; exact absurd h (by decide)
/-- a number that is not there, or goes on too long, is where the command is at fault -/
theorem rc_bad {u_n : Nat} {u_b : Nat → Int32} {u_p u_j i u_q : Nat} {u_g u_h : Nat → Int32} (hc : t_cmd u_b u_p (t_run leB u_n u_b u_p) = some u_j) (hi : i < cmdC u_j) (hv : t_nums u_n u_b (cmdC u_j - i) i u_q u_h = t_nums u_n u_b (cmdC u_j) 0 (t_run leB u_n u_b u_p) u_g) (hb : (t_num u_n u_b u_q).1 = false ∨ dgB (t_at u_n u_b (t_num u_n u_b u_q).2.2) = true) : (t_rc u_n u_b u_p u_g).1 = false ∧ (t_rc u_n u_b u_p u_g).2.2.1 = (t_num u_n u_b u_q).2.2 := by
  obtain ⟨u_d, hd⟩ : ∃ u_d, cmdC u_j - i = u_d + 1 := ⟨cmdC u_j - i - 1, by omega⟩
  rw [hd] at hv
  rcases Bool.eq_false_or_eq_true (t_num u_n u_b u_q).1 with q | q
  · have h2 := hb.resolve_left (fun y => by rw [q] at y; exact absurd y (by decide))
    have h3 : t_nums u_n u_b (u_d + 1) i u_q u_h = t_nums u_n u_b u_d (i + 1) (t_num u_n u_b u_q).2.2 (upd u_h i (t_num u_n u_b u_q).2.1) := if_pos q
    have h4 : t_run spB u_n u_b (t_num u_n u_b u_q).2.2 = (t_num u_n u_b u_q).2.2 := t_run_e (dg_sp h2)
    rw [h3] at hv
    cases u_d with
    | zero =>
      have h5 : t_nums u_n u_b (cmdC u_j) 0 (t_run leB u_n u_b u_p) u_g = (true, (t_num u_n u_b u_q).2.2, upd u_h i (t_num u_n u_b u_q).2.1) := hv.symm
      rw [t_rc_2 hc h5, h4, if_neg (dg_59 h2)]
      exact ⟨rfl, rfl⟩
    | succ u_d =>
      have h6 : t_nums u_n u_b (u_d + 1) (i + 1) (t_num u_n u_b u_q).2.2 (upd u_h i (t_num u_n u_b u_q).2.1) = (false, (t_num u_n u_b u_q).2.2, upd u_h i (t_num u_n u_b u_q).2.1) := by
        unfold t_nums
        rw [num_s h4]; rfl
      rw [t_rc_1 hc (hv.symm.trans h6)]
      exact ⟨rfl, rfl⟩
  · have h3 : t_nums u_n u_b (u_d + 1) i u_q u_h = (false, (t_num u_n u_b u_q).2.2, u_h) := if_neg (by rw [q]; decide)
    rw [t_rc_1 hc (hv.symm.trans h3)]
    exact ⟨rfl, rfl⟩
/-- the model's reading of a command: what it answers and leaves -/
def CP (S S1 : ST) (u_n : Nat) (u_b : Nat → Int32) (u_r : Bool × Nat × Nat × (Nat → Int32)) (v : Option Value) : Prop :=
  RTm S S1 ∧ ∃ u_v : Int32, v = some (.int u_v) ∧ ((u_r.1 = true ∧ u_v = nI (u_r.2.1 + 1) ∧ ∃ u_k, TM S1 u_n u_b u_r.2.2.1 u_k u_r.2.2.2) ∨ (u_r.1 = false ∧ u_v = 0 ∧ ∃ u_k u_h, TM S1 u_n u_b u_r.2.2.1 u_k u_h))
theorem CP.no {S S1 : ST} {u_n u_q u_k : Nat} {u_b u_h : Nat → Int32} {u_r : Bool × Nat × Nat × (Nat → Int32)} (h1 : RTm S S1) (h2 : u_r.1 = false) (h3 : u_r.2.2.1 = u_q) (h4 : TM S1 u_n u_b u_q u_k u_h) : CP S S1 u_n u_b u_r (some (.int 0)) := ⟨h1, 0, rfl, Or.inr ⟨h2, rfl, u_k, u_h, by rw [h3]; exact h4⟩⟩
theorem sub_nI {u_a u_b : Nat} (h : u_b ≤ u_a) : nI u_a - nI u_b = nI (u_a - u_b) := (Int32.ofNat_sub _ _ h).symm
