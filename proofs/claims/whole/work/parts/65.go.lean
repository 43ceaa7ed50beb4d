/-! TEXT: numbers that are not asked don't matter; what the run keeps -/
theorem cmdC_l : ∀ u_j, u_j < 11 → cmdC u_j = ([2, 3, 1, 2, 2, 1, 1, 1, 1, 0, 0] : List Nat).getD u_j 0 := by decide +kernel
theorem ftv_0 (g : Int32 → Nat → Int32) (n : Nat) (a b d1 d2 : Int32) : f_ft g n 0 a b d1 = f_ft g n 0 a b d2 := by simp only [f_ft]
theorem cov_0 (fu n : Nat) (z : Nat → Int32) (mm : Nat → Nat → Int32) (a b d1 d2 : Int32) : f_co fu n z mm 0 a b d1 = f_co fu n z mm 0 a b d2 := by simp only [f_co]
theorem ftv_2 (g : Int32 → Nat → Int32) (n : Nat) (a b1 d1 b2 d2 : Int32) : f_ft g n 2 a b1 d1 = f_ft g n 2 a b2 d2 := by simp only [f_ft]
theorem cov_2 (fu n : Nat) (z : Nat → Int32) (mm : Nat → Nat → Int32) (a b1 d1 b2 d2 : Int32) : f_co fu n z mm 2 a b1 d1 = f_co fu n z mm 2 a b2 d2 := by simp only [f_co]
theorem ftv_3 (g : Int32 → Nat → Int32) (n : Nat) (a b d1 d2 : Int32) : f_ft g n 3 a b d1 = f_ft g n 3 a b d2 := by simp only [f_ft]
theorem cov_3 (fu n : Nat) (z : Nat → Int32) (mm : Nat → Nat → Int32) (a b d1 d2 : Int32) : f_co fu n z mm 3 a b d1 = f_co fu n z mm 3 a b d2 := by simp only [f_co]
theorem ftv_4 (g : Int32 → Nat → Int32) (n : Nat) (a b d1 d2 : Int32) : f_ft g n 4 a b d1 = f_ft g n 4 a b d2 := by simp only [f_ft]
theorem cov_4 (fu n : Nat) (z : Nat → Int32) (mm : Nat → Nat → Int32) (a b d1 d2 : Int32) : f_co fu n z mm 4 a b d1 = f_co fu n z mm 4 a b d2 := by simp only [f_co]
theorem ftv_5 (g : Int32 → Nat → Int32) (n : Nat) (a b1 d1 b2 d2 : Int32) : f_ft g n 5 a b1 d1 = f_ft g n 5 a b2 d2 := by simp only [f_ft]
theorem cov_5 (fu n : Nat) (z : Nat → Int32) (mm : Nat → Nat → Int32) (a b1 d1 b2 d2 : Int32) : f_co fu n z mm 5 a b1 d1 = f_co fu n z mm 5 a b2 d2 := by simp only [f_co]
theorem ftv_6 (g : Int32 → Nat → Int32) (n : Nat) (a b1 d1 b2 d2 : Int32) : f_ft g n 6 a b1 d1 = f_ft g n 6 a b2 d2 := by simp only [f_ft]
theorem cov_6 (fu n : Nat) (z : Nat → Int32) (mm : Nat → Nat → Int32) (a b1 d1 b2 d2 : Int32) : f_co fu n z mm 6 a b1 d1 = f_co fu n z mm 6 a b2 d2 := by simp only [f_co]
theorem ftv_7 (g : Int32 → Nat → Int32) (n : Nat) (a b1 d1 b2 d2 : Int32) : f_ft g n 7 a b1 d1 = f_ft g n 7 a b2 d2 := by simp only [f_ft]
theorem cov_7 (fu n : Nat) (z : Nat → Int32) (mm : Nat → Nat → Int32) (a b1 d1 b2 d2 : Int32) : f_co fu n z mm 7 a b1 d1 = f_co fu n z mm 7 a b2 d2 := by simp only [f_co]
theorem ftv_8 (g : Int32 → Nat → Int32) (n : Nat) (a b1 d1 b2 d2 : Int32) : f_ft g n 8 a b1 d1 = f_ft g n 8 a b2 d2 := by simp only [f_ft]
theorem cov_8 (fu n : Nat) (z : Nat → Int32) (mm : Nat → Nat → Int32) (a b1 d1 b2 d2 : Int32) : f_co fu n z mm 8 a b1 d1 = f_co fu n z mm 8 a b2 d2 := by simp only [f_co]
theorem ftv_9 (g : Int32 → Nat → Int32) (n : Nat) (a1 b1 d1 a2 b2 d2 : Int32) : f_ft g n 9 a1 b1 d1 = f_ft g n 9 a2 b2 d2 := by simp only [f_ft]
theorem cov_9 (fu n : Nat) (z : Nat → Int32) (mm : Nat → Nat → Int32) (a1 b1 d1 a2 b2 d2 : Int32) : f_co fu n z mm 9 a1 b1 d1 = f_co fu n z mm 9 a2 b2 d2 := by simp only [f_co]
theorem ftv_10 (g : Int32 → Nat → Int32) (n : Nat) (a1 b1 d1 a2 b2 d2 : Int32) : f_ft g n 10 a1 b1 d1 = f_ft g n 10 a2 b2 d2 := by simp only [f_ft]
theorem cov_10 (fu n : Nat) (z : Nat → Int32) (mm : Nat → Nat → Int32) (a1 b1 d1 a2 b2 d2 : Int32) : f_co fu n z mm 10 a1 b1 d1 = f_co fu n z mm 10 a2 b2 d2 := by simp only [f_co]
theorem ft_g {g : Int32 → Nat → Int32} {n u_j : Nat} (hj : u_j < 11) {u_g u_h : Nat → Int32} (h0 : ∀ i, i < cmdC u_j → u_g i = u_h i) : f_ft g n u_j (u_g 0) (u_g 1) (u_g 2) = f_ft g n u_j (u_h 0) (u_h 1) (u_h 2) := by
  rw [cmdC_l u_j hj] at h0
  rcases (show u_j = 0 ∨ u_j = 1 ∨ u_j = 2 ∨ u_j = 3 ∨ u_j = 4 ∨ u_j = 5 ∨ u_j = 6 ∨ u_j = 7 ∨ u_j = 8 ∨ u_j = 9 ∨ u_j = 10 by omega) with e | e | e | e | e | e | e | e | e | e | e
  · subst e; rw [h0 0 (by decide), h0 1 (by decide)]; exact ftv_0 _ _ _ _ _ _
  · subst e; rw [h0 0 (by decide), h0 1 (by decide), h0 2 (by decide)]
  · subst e; rw [h0 0 (by decide)]; exact ftv_2 _ _ _ _ _ _ _
  · subst e; rw [h0 0 (by decide), h0 1 (by decide)]; exact ftv_3 _ _ _ _ _ _
  · subst e; rw [h0 0 (by decide), h0 1 (by decide)]; exact ftv_4 _ _ _ _ _ _
  · subst e; rw [h0 0 (by decide)]; exact ftv_5 _ _ _ _ _ _ _
  · subst e; rw [h0 0 (by decide)]; exact ftv_6 _ _ _ _ _ _ _
  · subst e; rw [h0 0 (by decide)]; exact ftv_7 _ _ _ _ _ _ _
  · subst e; rw [h0 0 (by decide)]; exact ftv_8 _ _ _ _ _ _ _
  · subst e; exact ftv_9 _ _ _ _ _ _ _ _
  · subst e; exact ftv_10 _ _ _ _ _ _ _ _
theorem co_g {fu n u_j : Nat} {z : Nat → Int32} {mm : Nat → Nat → Int32} (hj : u_j < 11) {u_g u_h : Nat → Int32} (h0 : ∀ i, i < cmdC u_j → u_g i = u_h i) : f_co fu n z mm u_j (u_g 0) (u_g 1) (u_g 2) = f_co fu n z mm u_j (u_h 0) (u_h 1) (u_h 2) := by
  rw [cmdC_l u_j hj] at h0
  rcases (show u_j = 0 ∨ u_j = 1 ∨ u_j = 2 ∨ u_j = 3 ∨ u_j = 4 ∨ u_j = 5 ∨ u_j = 6 ∨ u_j = 7 ∨ u_j = 8 ∨ u_j = 9 ∨ u_j = 10 by omega) with e | e | e | e | e | e | e | e | e | e | e
  · subst e; rw [h0 0 (by decide), h0 1 (by decide)]; exact cov_0 _ _ _ _ _ _ _ _
  · subst e; rw [h0 0 (by decide), h0 1 (by decide), h0 2 (by decide)]
  · subst e; rw [h0 0 (by decide)]; exact cov_2 _ _ _ _ _ _ _ _ _
  · subst e; rw [h0 0 (by decide), h0 1 (by decide)]; exact cov_3 _ _ _ _ _ _ _ _
  · subst e; rw [h0 0 (by decide), h0 1 (by decide)]; exact cov_4 _ _ _ _ _ _ _ _
  · subst e; rw [h0 0 (by decide)]; exact cov_5 _ _ _ _ _ _ _ _ _
  · subst e; rw [h0 0 (by decide)]; exact cov_6 _ _ _ _ _ _ _ _ _
  · subst e; rw [h0 0 (by decide)]; exact cov_7 _ _ _ _ _ _ _ _ _
  · subst e; rw [h0 0 (by decide)]; exact cov_8 _ _ _ _ _ _ _ _ _
  · subst e; exact cov_9 _ _ _ _ _ _ _ _ _ _
  · subst e; exact cov_10 _ _ _ _ _ _ _ _ _ _
theorem t_nums_v (u_n : Nat) (u_b : Nat → Int32) (d : Nat) : ∀ u_k u_p u_g u_h i, (t_nums u_n u_b d u_k u_p u_g).1 = true → (i < u_k → u_g i = u_h i) → i < u_k + d → (t_nums u_n u_b d u_k u_p u_g).2.2 i = (t_nums u_n u_b d u_k u_p u_h).2.2 i := by
  induction d with
  | zero => intro u_k u_p u_g u_h i _ h1 h2; exact h1 (by omega)
  | succ d ih =>
    intro u_k u_p u_g u_h i h h1 h2
    by_cases q : (t_num u_n u_b u_p).1 = true
    · have e1 : ∀ u_x, t_nums u_n u_b (d + 1) u_k u_p u_x = t_nums u_n u_b d (u_k + 1) (t_num u_n u_b u_p).2.2 (upd u_x u_k (t_num u_n u_b u_p).2.1) := fun u_x => if_pos q
      rw [e1] at h
      rw [e1, e1]
      refine ih _ _ _ _ i h (fun h3 => ?_) (by omega)
      unfold upd
      by_cases e : i = u_k
      · rw [if_pos e, if_pos e]
      · rw [if_neg e, if_neg e]; exact h1 (by omega)
    · have e1 : t_nums u_n u_b (d + 1) u_k u_p u_g = (false, (t_num u_n u_b u_p).2.2, u_g) := if_neg q
      rw [e1] at h; cases h
theorem t_rc_v {u_n : Nat} {u_b : Nat → Int32} {u_p : Nat} {u_g u_h : Nat → Int32} (h : (t_rc u_n u_b u_p u_g).1 = true) (i : Nat) (hi : i < cmdC (t_rc u_n u_b u_p u_g).2.1) : (t_rc u_n u_b u_p u_g).2.2.2 i = (t_rc u_n u_b u_p u_h).2.2.2 i := by
  cases hc : t_cmd u_b u_p (t_run leB u_n u_b u_p) with
  | none => rw [t_rc_0 hc] at h; cases h
  | some u_j =>
    have h2 := t_nums_g u_n u_b (cmdC u_j) 0 (t_run leB u_n u_b u_p) u_g u_h
    have h3 := t_nums_v u_n u_b (cmdC u_j) 0 (t_run leB u_n u_b u_p) u_g u_h
    cases hn : t_nums u_n u_b (cmdC u_j) 0 (t_run leB u_n u_b u_p) u_g with
    | mk u_o u_s =>
      obtain ⟨u_r, u_x⟩ := u_s
      cases hn2 : t_nums u_n u_b (cmdC u_j) 0 (t_run leB u_n u_b u_p) u_h with
      | mk u_o2 u_s2 =>
        obtain ⟨u_r2, u_x2⟩ := u_s2
        rw [hn, hn2] at h2
        rw [hn, hn2] at h3
        obtain ⟨h4, h5⟩ : u_o = u_o2 ∧ u_r = u_r2 := h2
        subst h4; subst h5
        cases u_o with
        | false => rw [t_rc_1 hc hn] at h; cases h
        | true =>
          have e1 := t_rc_2 hc hn
          have e2 := t_rc_2 hc hn2
          by_cases q : t_at u_n u_b (t_run spB u_n u_b u_r) = 59
          · rw [if_pos q] at e1 e2
            rw [e1] at hi
            rw [e1, e2]
            exact h3 i rfl (fun y => absurd y (by omega)) (by rw [Nat.zero_add]; exact hi)
          · rw [if_neg q] at e1
            rw [e1] at h; cases h
theorem t_go_g {fu u_n : Nat} {u_b : Nat → Int32} (hN : u_n ≤ 150) (d : Nat) : ∀ u_p u_g u_h u_v, u_p ≤ u_n → t_flt u_n u_b d u_p u_g = -1 → t_go fu u_n u_b d u_p u_g u_v = t_go fu u_n u_b d u_p u_h u_v := by
  induction d with
  | zero => intro u_p u_g u_h u_v _ _; rfl
  | succ d ih =>
    intro u_p u_g u_h u_v hp hf
    unfold t_flt at hf
    unfold t_go
    by_cases q : t_run spB u_n u_b u_p < u_n
    · rw [if_pos q] at hf
      rw [if_pos q, if_pos q]
      obtain ⟨g1, g2, g3⟩ := t_rc_g u_n u_b (t_run spB u_n u_b u_p) u_g u_h
      have hle := t_rc_le (u_b := u_b) (u_g := u_g) (t_run_le (u_q := spB) (u_b := u_b) hp).2
      by_cases q2 : (t_rc u_n u_b (t_run spB u_n u_b u_p) u_g).1 = true
      · rw [if_pos q2] at hf
        have hv := t_rc_v (u_h := u_h) q2
        have hj := (hle.2 q2).2
        have e1 := ft_g (g := gof u_v.1 u_v.2.2) (n := u_v.1) hj hv
        have e2 := co_g (fu := fu) (n := u_v.1) (z := u_v.2.1) (mm := u_v.2.2) hj hv
        have e3 := ih (t_rc u_n u_b (t_run spB u_n u_b u_p) u_g).2.2.1 (t_rc u_n u_b (t_run spB u_n u_b u_p) u_g).2.2.2 (t_rc u_n u_b (t_run spB u_n u_b u_p) u_h).2.2.2 (f_co fu u_v.1 u_v.2.1 u_v.2.2 (t_rc u_n u_b (t_run spB u_n u_b u_p) u_g).2.1 ((t_rc u_n u_b (t_run spB u_n u_b u_p) u_g).2.2.2 0) ((t_rc u_n u_b (t_run spB u_n u_b u_p) u_g).2.2.2 1) ((t_rc u_n u_b (t_run spB u_n u_b u_p) u_g).2.2.2 2)).2 hle.1 hf
        simp only
        rw [e1, e3, e2, g2, g3]
      · rw [if_neg q2] at hf
        exact absurd hf (nI_m1 (by have := hle.1; omega))
    · rw [if_neg q, if_neg q]
theorem go_no {fu u_n u_q : Nat} {u_b : Nat → Int32} (h : ¬ t_run spB u_n u_b u_q < u_n) (d : Nat) (u_g : Nat → Int32) (u_v : LVt) : t_go fu u_n u_b d u_q u_g u_v = (0, u_v) := by
  cases d with
  | zero => rfl
  | succ d => exact if_neg h
def KR (S S1 : ST) : Prop := S1.1 = S.1 ∧ S1.2.1 = S.2.1 ∧ S1.2.2.1 = S.2.2.1 ∧ sO S1 = sO S
theorem KR.t {S S1 S2 : ST} (h : KR S S1) (h2 : KR S1 S2) : KR S S2 := ⟨h2.1.trans h.1, h2.2.1.trans h.2.1, h2.2.2.1.trans h.2.2.1, h2.2.2.2.trans h.2.2.2⟩
theorem KR.m {S S1 : ST} (h : KM S S1) : KR S S1 := ⟨h.1, h.2.1, h.2.2.1, h.2.2.2.2.2.2⟩
theorem KR.x {S S1 : ST} (h : RTm S S1) : KR S S1 := ⟨h.1, h.2.1, h.2.2.1, h.2.2.2.2.2.2.2.2⟩
theorem KR.y {S S1 : ST} (h : RTy S S1) : KR S S1 := ⟨h.1, h.2.1, h.2.2.1, h.2.2.2.2.2⟩
theorem MI.tm {S S1 : ST} {cv : LVt} {u_m : Nat} {sv : Nat → LVt} (h : MI S cv u_m sv) (hr : RTm S S1) : MI S1 cv u_m sv := by
  refine ⟨?_, h.2.1, h.2.2.1, hr.2.2.2.1.trans h.2.2.2.1, fun k hk => ?_⟩
  · unfold RI; rw [hr.2.2.2.2.2.2.1]; exact h.1
  · rw [hr.2.2.2.2.2.2.1]; exact h.2.2.2.2 k hk
