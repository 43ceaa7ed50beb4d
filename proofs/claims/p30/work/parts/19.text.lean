/-! TEXT: commands spelled in bytes; what reading them answers -/
def dgB (x : Int32) : Bool := decide (48 ≤ x) && decide (x ≤ 57)
def leB (x : Int32) : Bool := decide (97 ≤ x) && decide (x ≤ 122)
def spB (x : Int32) : Bool := decide (x = 32)
def bI (b : Bool) : Int32 := if b = true then 1 else 0
def t_at (u_n : Nat) (u_b : Nat → Int32) (u_p : Nat) : Int32 := if u_p < u_n then u_b u_p else -1
def t_skip (u_q : Int32 → Bool) (u_n : Nat) (u_b : Nat → Int32) : Nat → Nat → Nat
  | 0, u_p => u_p
  | d + 1, u_p => if u_q (t_at u_n u_b u_p) = true then t_skip u_q u_n u_b d (u_p + 1) else u_p
def t_run (u_q : Int32 → Bool) (u_n : Nat) (u_b : Nat → Int32) (u_p : Nat) : Nat := t_skip u_q u_n u_b (u_n - u_p) u_p
theorem t_skip_le (u_q : Int32 → Bool) (u_n : Nat) (u_b : Nat → Int32) (d : Nat) : ∀ u_p, u_p ≤ t_skip u_q u_n u_b d u_p ∧ t_skip u_q u_n u_b d u_p ≤ u_p + d := by
  induction d with
  | zero => intro u_p; exact ⟨Nat.le_refl _, Nat.le_refl _⟩
  | succ d ih =>
    intro u_p
    show u_p ≤ (if u_q (t_at u_n u_b u_p) = true then t_skip u_q u_n u_b d (u_p + 1) else u_p) ∧ (if u_q (t_at u_n u_b u_p) = true then t_skip u_q u_n u_b d (u_p + 1) else u_p) ≤ u_p + (d + 1)
    have h1 := ih (u_p + 1)
    split
    · exact ⟨by omega, by omega⟩
    · exact ⟨by omega, by omega⟩
theorem t_run_le {u_q : Int32 → Bool} {u_n : Nat} {u_b : Nat → Int32} {u_p : Nat} (h : u_p ≤ u_n) : u_p ≤ t_run u_q u_n u_b u_p ∧ t_run u_q u_n u_b u_p ≤ u_n := by
  have h1 := t_skip_le u_q u_n u_b (u_n - u_p) u_p
  unfold t_run
  omega
theorem t_run_s {u_q : Int32 → Bool} {u_n : Nat} {u_b : Nat → Int32} {u_p : Nat} (h : u_p < u_n) (hq : u_q (t_at u_n u_b u_p) = true) : t_run u_q u_n u_b u_p = t_run u_q u_n u_b (u_p + 1) := by
  unfold t_run
  rw [show u_n - u_p = (u_n - (u_p + 1)) + 1 by omega]
  exact if_pos hq
theorem t_run_e {u_q : Int32 → Bool} {u_n : Nat} {u_b : Nat → Int32} {u_p : Nat} (hq : u_q (t_at u_n u_b u_p) = false) : t_run u_q u_n u_b u_p = u_p := by
  unfold t_run
  cases u_n - u_p with
  | zero => rfl
  | succ d => exact if_neg (by rw [hq]; decide)
theorem t_run_n {u_q : Int32 → Bool} {u_n : Nat} {u_b : Nat → Int32} {u_p : Nat} (h : u_n ≤ u_p) : t_run u_q u_n u_b u_p = u_p := by
  unfold t_run
  rw [show u_n - u_p = 0 by omega]
  rfl
theorem t_at_in {u_n : Nat} {u_b : Nat → Int32} {u_p : Nat} (h : t_at u_n u_b u_p ≠ -1) : u_p < u_n := by
  rcases Nat.lt_or_ge u_p u_n with q | q
  · exact q
  · exact absurd (by unfold t_at; exact if_neg (by omega)) h
theorem dg_in {u_n : Nat} {u_b : Nat → Int32} {u_p : Nat} (h : dgB (t_at u_n u_b u_p) = true) : u_p < u_n := t_at_in (fun q => by rw [q] at h; exact absurd h (by decide))
theorem sp_in {u_n : Nat} {u_b : Nat → Int32} {u_p : Nat} (h : spB (t_at u_n u_b u_p) = true) : u_p < u_n := t_at_in (fun q => by rw [q] at h; exact absurd h (by decide))
theorem le_in {u_n : Nat} {u_b : Nat → Int32} {u_p : Nat} (h : leB (t_at u_n u_b u_p) = true) : u_p < u_n := t_at_in (fun q => by rw [q] at h; exact absurd h (by decide))
/-- at most so many digits -/
def t_dig (u_n : Nat) (u_b : Nat → Int32) : Nat → Int32 → Nat → Int32 × Nat
  | 0, u_v, u_p => (u_v, u_p)
  | d + 1, u_v, u_p => if dgB (t_at u_n u_b u_p) = true then t_dig u_n u_b d (10 * u_v + t_at u_n u_b u_p - 48) (u_p + 1) else (u_v, u_p)
theorem t_dig_t {u_n : Nat} {u_b : Nat → Int32} {d : Nat} {u_v : Int32} {u_p : Nat} (h : dgB (t_at u_n u_b u_p) = true) : t_dig u_n u_b (d + 1) u_v u_p = t_dig u_n u_b d (10 * u_v + t_at u_n u_b u_p - 48) (u_p + 1) := if_pos h
theorem t_dig_f {u_n : Nat} {u_b : Nat → Int32} {d : Nat} {u_v : Int32} {u_p : Nat} (h : dgB (t_at u_n u_b u_p) = false) : t_dig u_n u_b d u_v u_p = (u_v, u_p) := by
  cases d with
  | zero => rfl
  | succ d => exact if_neg (by rw [h]; decide)
theorem t_dig_le (u_n : Nat) (u_b : Nat → Int32) (d : Nat) : ∀ u_v u_p, u_p ≤ u_n → u_p ≤ (t_dig u_n u_b d u_v u_p).2 ∧ (t_dig u_n u_b d u_v u_p).2 ≤ u_n := by
  induction d with
  | zero => intro u_v u_p h; exact ⟨Nat.le_refl _, h⟩
  | succ d ih =>
    intro u_v u_p h
    cases hq : dgB (t_at u_n u_b u_p) with
    | true =>
      rw [t_dig_t hq]
      have h1 := ih (10 * u_v + t_at u_n u_b u_p - 48) (u_p + 1) (dg_in hq)
      omega
    | false =>
      rw [t_dig_f hq]
      exact ⟨Nat.le_refl _, h⟩
/-- a number: whether it is there, its value, the place behind it or that of the fault -/
def t_num (u_n : Nat) (u_b : Nat → Int32) (u_p : Nat) : Bool × Int32 × Nat :=
  if t_run spB u_n u_b u_p = u_p ∨ dgB (t_at u_n u_b (t_run spB u_n u_b u_p)) = false then (false, 0, t_run spB u_n u_b u_p)
  else (true, t_dig u_n u_b 4 0 (t_run spB u_n u_b u_p))
theorem t_num_le {u_n : Nat} {u_b : Nat → Int32} {u_p : Nat} (h : u_p ≤ u_n) : u_p ≤ (t_num u_n u_b u_p).2.2 ∧ (t_num u_n u_b u_p).2.2 ≤ u_n := by
  have h1 := t_run_le (u_q := spB) (u_b := u_b) h
  unfold t_num
  split
  · exact h1
  · have h2 := t_dig_le u_n u_b 4 0 _ h1.2
    exact ⟨Nat.le_trans h1.1 h2.1, h2.2⟩
def t_nums (u_n : Nat) (u_b : Nat → Int32) : Nat → Nat → Nat → (Nat → Int32) → Bool × Nat × (Nat → Int32)
  | 0, _, u_p, u_g => (true, u_p, u_g)
  | d + 1, u_k, u_p, u_g => if (t_num u_n u_b u_p).1 = true then t_nums u_n u_b d (u_k + 1) (t_num u_n u_b u_p).2.2 (upd u_g u_k (t_num u_n u_b u_p).2.1) else (false, (t_num u_n u_b u_p).2.2, u_g)
theorem t_nums_le (u_n : Nat) (u_b : Nat → Int32) (d : Nat) : ∀ u_k u_p u_g, u_p ≤ u_n → u_p ≤ (t_nums u_n u_b d u_k u_p u_g).2.1 ∧ (t_nums u_n u_b d u_k u_p u_g).2.1 ≤ u_n := by
  induction d with
  | zero => intro u_k u_p u_g h; exact ⟨Nat.le_refl _, h⟩
  | succ d ih =>
    intro u_k u_p u_g h
    have h1 := t_num_le (u_b := u_b) h
    unfold t_nums
    split
    · have h2 := ih (u_k + 1) _ (upd u_g u_k (t_num u_n u_b u_p).2.1) h1.2
      exact ⟨Nat.le_trans h1.1 h2.1, h2.2⟩
    · exact h1
/-- the command that a piece of the text spells -/
def t_sp (u_b : Nat → Int32) (u_p u_q u_j : Nat) : Prop := u_q - u_p = wLen.getD u_j 0 ∧ ∀ u_i, u_i < wLen.getD u_j 0 → (wByt.getD u_j []).getD u_i 0 = u_b (u_p + u_i)
def t_spB (u_b : Nat → Int32) (u_p u_q u_j : Nat) : Bool := decide (u_q - u_p = wLen.getD u_j 0) && (List.range (wLen.getD u_j 0)).all (fun u_i => decide ((wByt.getD u_j []).getD u_i 0 = u_b (u_p + u_i)))
theorem t_spB_i {u_b : Nat → Int32} {u_p u_q u_j : Nat} : t_spB u_b u_p u_q u_j = true ↔ t_sp u_b u_p u_q u_j := by
  unfold t_spB t_sp
  rw [Bool.and_eq_true, decide_eq_true_eq, List.all_eq_true]
  refine and_congr_right (fun _ => ⟨fun h u_i hi => ?_, fun h u_i hi => ?_⟩)
  · exact of_decide_eq_true (h u_i (List.mem_range.mpr hi))
  · exact decide_eq_true (h u_i (List.mem_range.mp hi))
def t_find (u_b : Nat → Int32) (u_p u_q : Nat) : Nat → Nat → Option Nat
  | 0, _ => none
  | d + 1, u_j => if t_spB u_b u_p u_q u_j = true then some u_j else t_find u_b u_p u_q d (u_j + 1)
theorem t_find_lt (u_b : Nat → Int32) (u_p u_q : Nat) (d : Nat) : ∀ u_j u_r, t_find u_b u_p u_q d u_j = some u_r → u_r < u_j + d := by
  induction d with
  | zero => intro u_j u_r h; cases h
  | succ d ih =>
    intro u_j u_r h
    unfold t_find at h
    split at h
    · cases h; omega
    · have := ih _ _ h; omega
def t_cmd (u_b : Nat → Int32) (u_p u_q : Nat) : Option Nat := t_find u_b u_p u_q 11 0
theorem t_cmd_lt {u_b : Nat → Int32} {u_p u_q u_r : Nat} (h : t_cmd u_b u_p u_q = some u_r) : u_r < 11 := by have := t_find_lt _ _ _ _ _ _ h; omega
def cmdC (u_j : Nat) : Nat := (cmdK.getD u_j 0).toNatClampNeg
/-- a command: which one, whether it is whole, the place behind it or that of its fault, the numbers -/
def t_rc (u_n : Nat) (u_b : Nat → Int32) (u_p : Nat) (u_g : Nat → Int32) : Bool × Nat × Nat × (Nat → Int32) :=
  match t_cmd u_b u_p (t_run leB u_n u_b u_p) with
  | none => (false, 0, u_p, u_g)
  | some u_j => match t_nums u_n u_b (cmdC u_j) 0 (t_run leB u_n u_b u_p) u_g with
    | (false, u_r, u_h) => (false, u_j, u_r, u_h)
    | (true, u_r, u_h) => if t_at u_n u_b (t_run spB u_n u_b u_r) = 59 then (true, u_j, t_run spB u_n u_b u_r + 1, u_h) else (false, u_j, t_run spB u_n u_b u_r, u_h)
theorem t_rc_0 {u_n : Nat} {u_b : Nat → Int32} {u_p : Nat} {u_g : Nat → Int32} (h : t_cmd u_b u_p (t_run leB u_n u_b u_p) = none) : t_rc u_n u_b u_p u_g = (false, 0, u_p, u_g) := by unfold t_rc; rw [h]
theorem t_rc_1 {u_n : Nat} {u_b : Nat → Int32} {u_p : Nat} {u_g u_h : Nat → Int32} {u_j u_r : Nat} (h : t_cmd u_b u_p (t_run leB u_n u_b u_p) = some u_j) (h2 : t_nums u_n u_b (cmdC u_j) 0 (t_run leB u_n u_b u_p) u_g = (false, u_r, u_h)) : t_rc u_n u_b u_p u_g = (false, u_j, u_r, u_h) := by
  unfold t_rc; rw [h]; show (match t_nums u_n u_b (cmdC u_j) 0 (t_run leB u_n u_b u_p) u_g with
    | (false, u_r, u_h) => (false, u_j, u_r, u_h)
    | (true, u_r, u_h) => if t_at u_n u_b (t_run spB u_n u_b u_r) = 59 then (true, u_j, t_run spB u_n u_b u_r + 1, u_h) else (false, u_j, t_run spB u_n u_b u_r, u_h)) = _
  rw [h2]
theorem t_rc_2 {u_n : Nat} {u_b : Nat → Int32} {u_p : Nat} {u_g u_h : Nat → Int32} {u_j u_r : Nat} (h : t_cmd u_b u_p (t_run leB u_n u_b u_p) = some u_j) (h2 : t_nums u_n u_b (cmdC u_j) 0 (t_run leB u_n u_b u_p) u_g = (true, u_r, u_h)) : t_rc u_n u_b u_p u_g = if t_at u_n u_b (t_run spB u_n u_b u_r) = 59 then (true, u_j, t_run spB u_n u_b u_r + 1, u_h) else (false, u_j, t_run spB u_n u_b u_r, u_h) := by
  unfold t_rc; rw [h]; show (match t_nums u_n u_b (cmdC u_j) 0 (t_run leB u_n u_b u_p) u_g with
    | (false, u_r, u_h) => (false, u_j, u_r, u_h)
    | (true, u_r, u_h) => if t_at u_n u_b (t_run spB u_n u_b u_r) = 59 then (true, u_j, t_run spB u_n u_b u_r + 1, u_h) else (false, u_j, t_run spB u_n u_b u_r, u_h)) = _
  rw [h2]
theorem t_rc_le {u_n : Nat} {u_b : Nat → Int32} {u_p : Nat} {u_g : Nat → Int32} (h : u_p ≤ u_n) : (t_rc u_n u_b u_p u_g).2.2.1 ≤ u_n ∧ ((t_rc u_n u_b u_p u_g).1 = true → u_p < (t_rc u_n u_b u_p u_g).2.2.1 ∧ (t_rc u_n u_b u_p u_g).2.1 < 11) := by
  have h1 := t_run_le (u_q := leB) (u_b := u_b) h
  cases hc : t_cmd u_b u_p (t_run leB u_n u_b u_p) with
  | none => rw [t_rc_0 hc]; exact ⟨h, fun q => by cases q⟩
  | some u_j =>
    have h2 := t_nums_le u_n u_b (cmdC u_j) 0 _ u_g h1.2
    obtain ⟨u_o, u_r, u_h⟩ : Bool × Nat × (Nat → Int32) := t_nums u_n u_b (cmdC u_j) 0 (t_run leB u_n u_b u_p) u_g
    cases hn : t_nums u_n u_b (cmdC u_j) 0 (t_run leB u_n u_b u_p) u_g with
    | mk u_o u_s =>
      obtain ⟨u_r, u_h⟩ := u_s
      rw [hn] at h2
      have h2 : t_run leB u_n u_b u_p ≤ u_r ∧ u_r ≤ u_n := h2
      cases u_o with
      | false => rw [t_rc_1 hc hn]; exact ⟨h2.2, fun q => by cases q⟩
      | true =>
        rw [t_rc_2 hc hn]
        have h3 : u_r ≤ t_run spB u_n u_b u_r ∧ t_run spB u_n u_b u_r ≤ u_n := t_run_le h2.2
        split
        · rename_i h4
          have h5 : t_run spB u_n u_b u_r < u_n := t_at_in (fun q => by rw [q] at h4; exact absurd h4 (by decide))
          exact ⟨h5, fun _ => ⟨by show u_p < t_run spB u_n u_b u_r + 1; omega, t_cmd_lt hc⟩⟩
        · exact ⟨h3.2, fun q => by cases q⟩
/-- the place of the first fault -/
def t_flt (u_n : Nat) (u_b : Nat → Int32) : Nat → Nat → (Nat → Int32) → Int32
  | 0, _, _ => -1
  | d + 1, u_p, u_g => if t_run spB u_n u_b u_p < u_n then (if (t_rc u_n u_b (t_run spB u_n u_b u_p) u_g).1 = true then t_flt u_n u_b d (t_rc u_n u_b (t_run spB u_n u_b u_p) u_g).2.2.1 (t_rc u_n u_b (t_run spB u_n u_b u_p) u_g).2.2.2 else nI (t_rc u_n u_b (t_run spB u_n u_b u_p) u_g).2.2.1) else -1
/-- the state of the text -/
def TX (S : ST) (u_n : Nat) (u_b : Nat → Int32) (u_p : Nat) (u_f : Int32) (u_c : Option Nat) (u_g : Nat → Int32) : Prop :=
  (sT S).1 1 = nI u_n ∧ (sT S).1 2 = nI u_p ∧ (sT S).1 3 = u_f ∧ (sT S).2.1 = u_c ∧ (sT S).2.2.1 = u_b ∧ (sT S).2.2.2 = u_g
/-- only the text has changed -/
def RT (S S1 : ST) : Prop := S1.1 = S.1 ∧ S1.2.1 = S.2.1 ∧ S1.2.2.2 = S.2.2.2
theorem RT.r (S : ST) : RT S S := ⟨rfl, rfl, rfl⟩
theorem RT.t {S S1 S2 : ST} (h : RT S S1) (h2 : RT S1 S2) : RT S S2 := ⟨h2.1.trans h.1, h2.2.1.trans h.2.1, h2.2.2.trans h.2.2⟩
section TXs
variable {S : ST} {u_n : Nat} {u_b : Nat → Int32} {u_p : Nat} {u_f : Int32} {u_c : Option Nat} {u_g : Nat → Int32}
theorem TX.pos (h : TX S u_n u_b u_p u_f u_c u_g) {x : Int32} {u_q : Nat} (hx : x = nI u_q) : TX (setTs S 2 x) u_n u_b u_q u_f u_c u_g := ⟨h.1, hx, h.2.2.1, h.2.2.2.1, h.2.2.2.2.1, h.2.2.2.2.2⟩
theorem TX.flt (h : TX S u_n u_b u_p u_f u_c u_g) {x y : Int32} (hx : x = y) : TX (setTs S 3 x) u_n u_b u_p y u_c u_g := ⟨h.1, h.2.1, hx, h.2.2.2.1, h.2.2.2.2.1, h.2.2.2.2.2⟩
theorem TX.cmd (h : TX S u_n u_b u_p u_f u_c u_g) (x : Option Nat) : TX (setTc S x) u_n u_b u_p u_f x u_g := ⟨h.1, h.2.1, h.2.2.1, rfl, h.2.2.2.2.1, h.2.2.2.2.2⟩
theorem TX.num (h : TX S u_n u_b u_p u_f u_c u_g) (u_k : Nat) (x : Int32) : TX (setTn S u_k x) u_n u_b u_p u_f u_c (upd u_g u_k x) := ⟨h.1, h.2.1, h.2.2.1, h.2.2.2.1, h.2.2.2.2.1, congrArg (fun q => upd q u_k x) h.2.2.2.2.2⟩
theorem RT.pos {x : Int32} {i : Nat} : RT S (setTs S i x) := ⟨rfl, rfl, rfl⟩
theorem RT.cmd {x : Option Nat} : RT S (setTc S x) := ⟨rfl, rfl, rfl⟩
theorem RT.num {x : Int32} {i : Nat} : RT S (setTn S i x) := ⟨rfl, rfl, rfl⟩
end TXs
/-- what a read of a command leaves -/
def RcP (S : ST) (u_n : Nat) (u_b : Nat → Int32) (u_r : Bool × Nat × Nat × (Nat → Int32)) : Prop :=
  (u_r.1 = true ∧ TX S u_n u_b u_r.2.2.1 (-1) (some u_r.2.1) u_r.2.2.2) ∨ (u_r.1 = false ∧ ∃ u_q u_c, u_q ≤ u_n ∧ TX S u_n u_b u_q (nI u_r.2.2.1) u_c u_r.2.2.2)
/-- the numbers, read so far -/
def NV (u_n : Nat) (u_b : Nat → Int32) (u_d u_s : Nat) (u_g : Nat → Int32) (i u_q : Nat) (u_f : Int32) (u_h : Nat → Int32) : Prop :=
  (u_f = -1 ∧ t_nums u_n u_b (u_d - i) i u_q u_h = t_nums u_n u_b u_d 0 u_s u_g) ∨ (u_f ≠ -1 ∧ u_f = nI u_q ∧ t_nums u_n u_b u_d 0 u_s u_g = (false, u_q, u_h))
theorem nI_m1 {u_q : Nat} (h : u_q < 2 ^ 31) : nI u_q ≠ -1 := fun q => nI_pos h (by rw [q]; decide)
theorem cmdK_nI {u_j : Nat} (h : u_j < 11) : cmdK.getD u_j 0 = nI (cmdC u_j) ∧ cmdC u_j ≤ 3 := by
  rcases (show u_j = 0 ∨ u_j = 1 ∨ u_j = 2 ∨ u_j = 3 ∨ u_j = 4 ∨ u_j = 5 ∨ u_j = 6 ∨ u_j = 7 ∨ u_j = 8 ∨ u_j = 9 ∨ u_j = 10 by omega) with rfl | rfl | rfl | rfl | rfl | rfl | rfl | rfl | rfl | rfl | rfl <;> decide
theorem nums_s {S1 : ST} {u_n : Nat} {u_b : Nat → Int32} {u_d u_s : Nat} {u_g u_h : Nat → Int32} {i u_q : Nat} {u_c : Option Nat} (hN : u_n ≤ 150) (hlt : i < u_d) (hq : u_q ≤ u_n)
    (hT : if (t_num u_n u_b u_q).1 = true then TX S1 u_n u_b (t_num u_n u_b u_q).2.2 (-1) u_c (upd u_h i (t_num u_n u_b u_q).2.1) else TX S1 u_n u_b (t_num u_n u_b u_q).2.2 (nI (t_num u_n u_b u_q).2.2) u_c u_h)
    (ht : t_nums u_n u_b (u_d - i) i u_q u_h = t_nums u_n u_b u_d 0 u_s u_g) :
    ∃ u_q2 u_f2 u_h2, u_q2 ≤ u_n ∧ TX S1 u_n u_b u_q2 u_f2 u_c u_h2 ∧ NV u_n u_b u_d u_s u_g (i + 1) u_q2 u_f2 u_h2 := by
  have h1 := t_num_le (u_b := u_b) hq
  have hu : t_nums u_n u_b (u_d - i) i u_q u_h = if (t_num u_n u_b u_q).1 = true then t_nums u_n u_b (u_d - (i + 1)) (i + 1) (t_num u_n u_b u_q).2.2 (upd u_h i (t_num u_n u_b u_q).2.1) else (false, (t_num u_n u_b u_q).2.2, u_h) := by
    rw [show u_d - i = (u_d - (i + 1)) + 1 by omega]; rfl
  rcases Classical.em ((t_num u_n u_b u_q).1 = true) with q | q
  · rw [if_pos q] at hT hu
    exact ⟨_, _, _, h1.2, hT, Or.inl ⟨rfl, by rw [← ht, hu]⟩⟩
  · rw [if_neg q] at hT hu
    exact ⟨_, _, _, h1.2, hT, Or.inr ⟨nI_m1 (by omega), rfl, by rw [← ht, hu]⟩⟩
theorem rc_sem {S1 : ST} {u_n : Nat} {u_b : Nat → Int32} {u_p : Nat} {u_g u_h : Nat → Int32} {u_j u_r : Nat} (h : t_cmd u_b u_p (t_run leB u_n u_b u_p) = some u_j) (h2 : t_nums u_n u_b (cmdC u_j) 0 (t_run leB u_n u_b u_p) u_g = (true, u_r, u_h)) (hr : u_r ≤ u_n)
    (hT : if t_at u_n u_b (t_run spB u_n u_b u_r) = 59 then TX S1 u_n u_b (t_run spB u_n u_b u_r + 1) (-1) (some u_j) u_h else TX S1 u_n u_b (t_run spB u_n u_b u_r) (nI (t_run spB u_n u_b u_r)) (some u_j) u_h) : RcP S1 u_n u_b (t_rc u_n u_b u_p u_g) := by
  rw [t_rc_2 h h2]
  rcases Classical.em (t_at u_n u_b (t_run spB u_n u_b u_r) = 59) with q | q
  · rw [if_pos q] at hT ⊢; exact Or.inl ⟨rfl, hT⟩
  · rw [if_neg q] at hT ⊢; exact Or.inr ⟨rfl, _, _, (t_run_le (u_q := spB) (u_b := u_b) hr).2, hT⟩
/-- the search for a fault, so far -/
def FV (u_n : Nat) (u_b : Nat → Int32) (u_g : Nat → Int32) (i u_q : Nat) (u_f : Int32) (u_h : Nat → Int32) : Prop :=
  (u_f = -1 ∧ t_flt u_n u_b (150 - i) u_q u_h = t_flt u_n u_b 150 0 u_g) ∨ (u_f ≠ -1 ∧ t_flt u_n u_b 150 0 u_g = u_f)
theorem flt_u {u_n : Nat} {u_b : Nat → Int32} {i u_q : Nat} {u_h : Nat → Int32} (hlt : i < 150) : t_flt u_n u_b (150 - i) u_q u_h = if t_run spB u_n u_b u_q < u_n then (if (t_rc u_n u_b (t_run spB u_n u_b u_q) u_h).1 = true then t_flt u_n u_b (150 - (i + 1)) (t_rc u_n u_b (t_run spB u_n u_b u_q) u_h).2.2.1 (t_rc u_n u_b (t_run spB u_n u_b u_q) u_h).2.2.2 else nI (t_rc u_n u_b (t_run spB u_n u_b u_q) u_h).2.2.1) else -1 := by
  rw [show 150 - i = (150 - (i + 1)) + 1 by omega]; rfl
theorem flt_end {u_n : Nat} {u_b : Nat → Int32} {u_g u_h : Nat → Int32} {i u_q : Nat} {u_f : Int32} (hlt : i < 150) (hv : FV u_n u_b u_g i u_q u_f u_h) (hno : ¬ (u_f = -1 ∧ t_run spB u_n u_b u_q < u_n)) : u_f = t_flt u_n u_b 150 0 u_g := by
  rcases hv with ⟨h1, h2⟩ | ⟨h1, h2⟩
  · rw [← h2, flt_u hlt, if_neg (fun q => hno ⟨h1, q⟩)]; exact h1
  · exact h2.symm
theorem flt_s {S1 : ST} {u_n : Nat} {u_b : Nat → Int32} {u_g u_h : Nat → Int32} {i u_q : Nat} (hN : u_n ≤ 150) (hlt : i < 150) (hq : u_q ≤ u_n) (hlt2 : t_run spB u_n u_b u_q < u_n) (hv : FV u_n u_b u_g i u_q (-1) u_h) (hR : RcP S1 u_n u_b (t_rc u_n u_b (t_run spB u_n u_b u_q) u_h)) :
    ∃ u_q2 u_f2 u_c2 u_h2, u_q2 ≤ u_n ∧ TX S1 u_n u_b u_q2 u_f2 u_c2 u_h2 ∧ FV u_n u_b u_g (i + 1) u_q2 u_f2 u_h2 := by
  have h2 := hv.elim (fun q => q.2) (fun q => absurd rfl q.1)
  have h3 := t_rc_le (u_b := u_b) (u_g := u_h) (t_run_le (u_q := spB) (u_b := u_b) hq).2
  rw [flt_u hlt, if_pos hlt2] at h2
  rcases hR with ⟨h4, h5⟩ | ⟨h4, u_q2, u_c2, h6, h5⟩
  · rw [if_pos h4] at h2
    exact ⟨_, _, _, _, h3.1, h5, Or.inl ⟨rfl, h2⟩⟩
  · rw [if_neg (by rw [h4]; decide)] at h2
    exact ⟨_, _, _, _, h6, h5, Or.inr ⟨nI_m1 (by omega), h2.symm⟩⟩
