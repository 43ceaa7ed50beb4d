/-! MODEL: a state aside; what a member has; profits -/
def AS (S : ST) (cv : LVt) : Prop := RowIs (sM S).2.1 380 cv.1 cv.2.1 cv.2.2
theorem AS.ro {S S1 : ST} {cv : LVt} (h : AS S cv) (ho : RO S S1) : AS S1 cv := RowIs.cg (o := 380) h (fun x _ => ho.2.2.2.2.2.2 _ (by omega))
theorem SV.far {S S1 : ST} {u_m u_a u_b : Nat} {sv : Nat → LVt} (h : SV S u_m sv) (hb : u_b + 76 ≤ 76 ∨ 380 ≤ u_b) (hw : RW S S1 (rci (sM S).2.1 u_a u_b 76)) : SV S1 u_m sv :=
  ⟨h.1, by rw [hw.2.2.2.1]; exact h.2.1, fun k hk => ⟨by have h4 := h.1; rw [hw.2.2.2.2.2.2]; exact (h.2.2 k hk).1.of (by omega), (h.2.2 k hk).2⟩⟩
theorem MI.aside {S S1 : ST} {cv : LVt} {u_m : Nat} {sv : Nat → LVt} (h : MI S cv u_m sv) (hw : RW S S1 (rci (sM S).2.1 0 380 76)) : MI S1 cv u_m sv ∧ AS S1 cv := by
  refine ⟨⟨h.1.w (by omega) hw, h.2.1, h.2.2.far (Or.inr (Nat.le_refl _)) hw⟩, ?_⟩
  unfold AS; rw [hw.2.2.2.2.2.2]; exact RowIs.cp h.1
theorem MI.back {S S1 : ST} {cv cw : LVt} {u_m : Nat} {sv : Nat → LVt} (h : MI S cw u_m sv) (ha : AS S cv) (hM : MmOk cv.1 cv.2.2) (hw : RW S S1 (rci (sM S).2.1 380 0 76)) : MI S1 cv u_m sv := by
  refine ⟨?_, hM, h.2.2.far (Or.inl (Nat.le_refl _)) hw⟩
  unfold RI; rw [hw.2.2.2.2.2.2]; exact RowIs.cp (u_b := 0) ha
theorem ln_back {a b d u_x : Int32} : (a - b) - (d - u_x) = u_x - b + a - d := by
  simp only [Int32.sub_eq_add_neg, Int32.neg_add, Int32.neg_neg]; ac_rfl
theorem pro_eq {fu n : Nat} {z : Nat → Int32} {mm : Nat → Nat → Int32} {P Q : Nat} {w : Int32} (hn : n ≤ 10) (hP : P < n) (hQ : Q < n) (h : f_place (gof n (f_set n fu z (up2 mm P 2 w)).2.2) n (mm P 0) = nI Q) :
    ((f_set n fu z (up2 mm P 2 w)).2.2 Q 4 - (f_set n fu z (up2 mm P 2 w)).2.2 Q 1 * f_wait (gof n (f_set n fu z (up2 mm P 2 w)).2.2) Q) - (mm P 4 - mm P 1 * f_wait (gof n mm) P) = f_pro fu n z mm P w := by
  rw [f_pro_e (by omega) h, ln_back]
  unfold f_cost
  rw [gof_in _ hn hQ, gof_in _ hn hP, gof_in _ hn hQ]
theorem RI.cg {S : ST} {n : Nat} {z : Nat → Int32} {mm mq : Nat → Nat → Int32} (h : RI S n z mm) (e : ∀ P i, P < n → mm P i = mq P i) : RI S n z mq := by
  obtain ⟨h1, h2, h3, h4, h5⟩ := h
  refine ⟨h1, h2, h3, fun P i hP hi => (h4 P i hP hi).trans (e P i hP), fun P hP => (h5 P hP).trans ?_⟩
  unfold mfr
  split
  · rename_i q; exact e _ _ q
  · rfl
def mtr (mm : Nat → Nat → Int32) (i : Nat) : Nat → Nat → Int32 := fun x k => if k = 2 ∧ x < i then mm x 1 else mm x k
theorem mtr_0 (mm : Nat → Nat → Int32) : mtr mm 0 = mm := by funext x k; unfold mtr; rw [if_neg (by omega)]
theorem mtr_s (mm : Nat → Nat → Int32) (i : Nat) : up2 (mtr mm i) i 2 (mm i 1) = mtr mm (i + 1) := by
  funext x k
  unfold up2 mtr
  by_cases e : x = i ∧ k = 2
  · rw [if_pos e, if_pos (by omega), e.1]
  · rw [if_neg e]
    by_cases e2 : k = 2 ∧ x < i
    · rw [if_pos e2, if_pos (by omega)]
    · rw [if_neg e2, if_neg (by omega)]
theorem mtr_1 (mm : Nat → Nat → Int32) (i x : Nat) : mtr mm i x 1 = mm x 1 := by unfold mtr; rw [if_neg (by omega)]
theorem RI.trE {S : ST} {n : Nat} {z : Nat → Int32} {mm : Nat → Nat → Int32} (h : RI S n z (mtr mm n)) : RI S n z (mtruth mm) := h.cg (fun P i hP => by
  unfold mtr mtruth
  by_cases e : i = 2
  · rw [if_pos ⟨e, hP⟩, if_pos e]
  · rw [if_neg (fun y => e y.1), if_neg e])
theorem MmOk.trI {n i : Nat} {mm : Nat → Nat → Int32} (h : MmOk n mm) : MmOk n (mtr mm i) := by
  have e : ∀ x, mtr mm i x 6 = mm x 6 := fun x => by unfold mtr; rw [if_neg (by omega)]
  exact ⟨by rw [e]; exact h.1, fun P hP => by rw [e]; exact h.2 P hP⟩
theorem lie_s {f : Nat → Int32} {w : Nat} {a b : Int32} (h : t_lie f w = (a, b)) : t_lie f (w + 1) = if f (w + 1) ≤ a then (a, b) else (f (w + 1), nI (w + 1)) := by
  rw [t_lie, h]
theorem TM.len {S : ST} {u_n u_p u_k : Nat} {u_b u_g : Nat → Int32} (h : TM S u_n u_b u_p u_k u_g) {u_q : Nat} {x : Int32} (hx : x = nI u_q) (hq : u_q ≤ u_n) : TM (setM S (mMs (sM S) 4 x)) u_q u_b u_p u_k u_g := ⟨hx, h.2.1, h.2.2.1, fun j hj => h.2.2.2.1 j (by omega), h.2.2.2.2⟩
theorem TM.ty {S S1 S2 : ST} {u_n u_p u_k : Nat} {u_b u_g : Nat → Int32} (h : TM S u_n u_b u_p u_k u_g) {v x : Int32} (e1 : S1 = setM S (mTx (sM S) u_n v)) (e2 : S2 = setM S1 (mMs (sM S1) 4 x)) (hx : x = nI (u_n + 1)) : TM S2 (u_n + 1) (upd u_b u_n v) u_p u_k u_g := by
  subst e1; subst e2
  refine ⟨hx, h.2.1, h.2.2.1, fun j hj => ?_, h.2.2.2.2⟩
  show (if j = u_n then v else (sM S).2.2.1 j) = if j = u_n then v else u_b j
  by_cases e : j = u_n
  · rw [if_pos e, if_pos e]
  · rw [if_neg e, if_neg e]; exact h.2.2.2.1 j (by omega)
/-- only the model's text, and what is thrown, has changed -/
def RTy (S S1 : ST) : Prop := S1.1 = S.1 ∧ S1.2.1 = S.2.1 ∧ S1.2.2.1 = S.2.2.1 ∧ (sM S1).1 1 = (sM S).1 1 ∧ (sM S1).2.1 = (sM S).2.1 ∧ sO S1 = sO S
theorem MI.ty {S S1 : ST} {cv : LVt} {u_m : Nat} {sv : Nat → LVt} (h : MI S cv u_m sv) (hr : RTy S S1) : MI S1 cv u_m sv := by
  refine ⟨?_, h.2.1, h.2.2.1, hr.2.2.2.1.trans h.2.2.2.1, fun k hk => ?_⟩
  · unfold RI; rw [hr.2.2.2.2.1]; exact h.1
  · rw [hr.2.2.2.2.1]; exact h.2.2.2.2 k hk
