/-! FACTS: ranges are kept; settling ends -/
def nS (f : Nat → Nat) : Nat → Nat
  | 0 => 0
  | n + 1 => nS f n + f n
theorem nS_cg {f g : Nat → Nat} {n : Nat} (h : ∀ i, i < n → f i = g i) : nS f n = nS g n := by
  induction n with
  | zero => rfl
  | succ n ih => show nS f n + f n = nS g n + g n; rw [ih (fun i hi => h i (by omega)), h n (by omega)]
theorem nS_le {f : Nat → Nat} {u_c n : Nat} (h : ∀ i, i < n → f i ≤ u_c) : nS f n ≤ n * u_c := by
  induction n with
  | zero => exact Nat.le_of_eq (Nat.zero_mul u_c).symm
  | succ n ih =>
    show nS f n + f n ≤ (n + 1) * u_c
    have h1 := ih (fun i hi => h i (by omega))
    have h2 := h n (by omega)
    rw [Nat.succ_mul]; omega
def vC (mm : Nat → Nat → Int32) (a b : Nat) : Nat := if vT mm a * vS mm b < vT mm b * vS mm a then 1 else 0
def vB (mm : Nat → Nat → Int32) (b : Nat) : Nat := nS (fun a => vC mm a b) b
def vI (n : Nat) (mm : Nat → Nat → Int32) : Nat := nS (vB mm) n
theorem vC_le (mm : Nat → Nat → Int32) (a b : Nat) : vC mm a b ≤ 1 := by unfold vC; split <;> omega
theorem vI_le {n : Nat} (hn : n ≤ 10) (mm : Nat → Nat → Int32) : vI n mm ≤ 100 := by
  have h1 : vI n mm ≤ n * 10 := nS_le (fun b hb => by
    have h2 : vB mm b ≤ b * 1 := nS_le (fun a _ => vC_le mm a b)
    omega)
  omega
def sg (Q x : Nat) : Nat := if x = Q then Q + 1 else if x = Q + 1 then Q else x
theorem sg_0 {Q : Nat} : sg Q Q = Q + 1 := if_pos rfl
theorem sg_1 {Q : Nat} : sg Q (Q + 1) = Q := (if_neg (by omega)).trans (if_pos rfl)
theorem sg_o {Q x : Nat} (h : x ≠ Q) (h2 : x ≠ Q + 1) : sg Q x = x := (if_neg h).trans (if_neg h2)
theorem nS_sg {f : Nat → Nat} {Q m : Nat} (h : Q + 2 ≤ m) : nS (fun a => f (sg Q a)) m = nS f m := by
  induction m with
  | zero => omega
  | succ m ih =>
    by_cases e : Q + 1 = m
    · subst e
      show nS (fun a => f (sg Q a)) Q + f (sg Q Q) + f (sg Q (Q + 1)) = nS f Q + f Q + f (Q + 1)
      rw [sg_0, sg_1, nS_cg (g := f) (fun i hi => by rw [sg_o (by omega) (by omega)])]
      omega
    · show nS (fun a => f (sg Q a)) m + f (sg Q m) = nS f m + f m
      rw [ih (by omega), sg_o (by omega) (by omega)]
theorem msw_v {mm : Nat → Nat → Int32} {Q : Nat} {pr : Int32} (X : Nat) {i : Nat} (hi : i < 4) : mswap mm Q pr X i = mm (sg Q X) i := by
  unfold mswap sg mlose
  by_cases e : X = Q
  · rw [if_pos e, if_pos e, if_neg (by omega), if_neg (by omega)]; exact if_neg (by omega)
  · rw [if_neg e, if_neg e]
    by_cases e2 : X = Q + 1
    · rw [if_pos e2, if_pos e2, if_neg (by omega), if_neg (by omega)]; exact if_neg (by omega)
    · rw [if_neg e2, if_neg e2]
      by_cases e3 : X = Q + 2
      · rw [if_pos e3, if_neg (by omega), if_neg (by omega), e3]
      · rw [if_neg e3]
theorem vC_sw {mm : Nat → Nat → Int32} {Q : Nat} {pr : Int32} (a b : Nat) : vC (mswap mm Q pr) a b = vC mm (sg Q a) (sg Q b) := by
  unfold vC vT vS
  rw [msw_v a (by omega), msw_v b (by omega), msw_v b (by omega), msw_v a (by omega)]
/-- a swap that is worth it takes one pair out of disorder -/
theorem vI_sw {mm : Nat → Nat → Int32} {Q : Nat} {pr : Int32} (h : vT mm Q * vS mm (Q + 1) < vT mm (Q + 1) * vS mm Q) {n : Nat} (hn : Q + 2 ≤ n) : vI n (mswap mm Q pr) + 1 = vI n mm := by
  induction n with
  | zero => omega
  | succ n ih =>
    by_cases e : Q + 1 = n
    · subst e
      show nS (vB (mswap mm Q pr)) Q + vB (mswap mm Q pr) Q + vB (mswap mm Q pr) (Q + 1) + 1 = nS (vB mm) Q + vB mm Q + vB mm (Q + 1)
      have h1 : nS (vB (mswap mm Q pr)) Q = nS (vB mm) Q := nS_cg (fun b hb => nS_cg (fun a ha => by rw [vC_sw, sg_o (by omega) (by omega), sg_o (by omega) (by omega)]))
      have h2 : vB (mswap mm Q pr) Q = nS (fun a => vC mm a (Q + 1)) Q := nS_cg (fun a ha => by rw [vC_sw, sg_0, sg_o (by omega) (by omega)])
      have h3 : vB (mswap mm Q pr) (Q + 1) = nS (fun a => vC mm a Q) Q + vC mm (Q + 1) Q := by
        show nS (fun a => vC (mswap mm Q pr) a (Q + 1)) Q + vC (mswap mm Q pr) Q (Q + 1) = _
        rw [vC_sw Q (Q + 1), sg_0, sg_1, nS_cg (g := fun a => vC mm a Q) (fun a ha => by rw [vC_sw, sg_1, sg_o (by omega) (by omega)])]
      have h4 : vB mm (Q + 1) = nS (fun a => vC mm a (Q + 1)) Q + vC mm Q (Q + 1) := rfl
      have h5 : vB mm Q = nS (fun a => vC mm a Q) Q := rfl
      have h6 : vC mm Q (Q + 1) = 1 := if_pos h
      have h7 : vC mm (Q + 1) Q = 0 := if_neg (by omega)
      omega
    · have h1 := ih (by omega)
      have h2 : vB (mswap mm Q pr) n = vB mm n := by
        show nS (fun a => vC (mswap mm Q pr) a n) n = nS (fun a => vC mm a n) n
        rw [nS_cg (g := fun a => vC mm (sg Q a) n) (fun a ha => by rw [vC_sw, sg_o (x := n) (by omega) (by omega)])]
        exact nS_sg (f := fun a => vC mm a n) (by omega)
      show nS (vB (mswap mm Q pr)) n + vB (mswap mm Q pr) n + 1 = nS (vB mm) n + vB mm n
      have h3 : nS (vB (mswap mm Q pr)) n + 1 = nS (vB mm) n := h1
      omega
theorem ng_2970 : ∀ u_d, u_d < 2971 → ¬ (0 : Int32) < -(nI u_d) := fun u_d h => Int32.not_lt.mpr ((Int32.neg_nonpos_iff _).mpr (Or.inr (nI_pos' (by omega))))
theorem sur_lt {u_a u_b : Nat} (h2 : u_b ≤ 2970) (h : 0 < nI u_a - nI u_b) : u_b < u_a := by
  rcases Nat.lt_or_ge u_b u_a with q | q
  · exact q
  · exfalso
    rw [← Int32.neg_sub, ← show nI (u_b - u_a) = nI u_b - nI u_a from Int32.ofNat_sub _ _ q] at h
    exact ng_2970 _ (by omega) h
section VKs
variable {n : Nat} {mm : Nat → Nat → Int32}
theorem VOk.sur (hV : VOk n mm) (hn : n ≤ 10) {Q : Nat} (hQ : Q + 1 < n) (h : 0 < f_sur (gof n mm) (nI Q)) : vT mm Q * vS mm (Q + 1) < vT mm (Q + 1) * vS mm Q := by
  unfold f_sur at h
  rw [g_in1 hn hQ, g_in1 hn hQ, g_in hn (by omega), g_in hn (by omega)] at h
  have a1 := hV.t (P := Q) (by omega)
  have a2 := hV.t (P := Q + 1) (by omega)
  have a3 := hV.s (P := Q) (by omega)
  have a4 := hV.s (P := Q + 1) (by omega)
  rw [a1.1, a2.1, a3.1, a4.1, nI_mul, nI_mul] at h
  exact sur_lt (mul_2970 a1.2 a4.2.2) h
theorem VOk.cg (hV : VOk n mm) {m : Nat} {mq : Nat → Nat → Int32} {f : Nat → Nat} (h : ∀ P, P < m → f P < n ∧ ∀ i, 1 ≤ i → i < 4 → mq P i = mm (f P) i) : VOk m mq := by
  intro P hP
  obtain ⟨h1, h2⟩ := h P hP
  rw [h2 1 (by omega) (by omega), h2 2 (by omega) (by omega), h2 3 (by omega) (by omega)]
  exact hV (f P) h1
theorem VOk.swp (hV : VOk n mm) {Q : Nat} (hQ : Q + 1 < n) {pr : Int32} : VOk n (mswap mm Q pr) := hV.cg (f := sg Q) (fun P hP => ⟨by unfold sg; split; exact hQ; split; omega; exact hP, fun i _ hi => msw_v P hi⟩)
theorem VOk.rem (hV : VOk n mm) {P : Nat} (hP : P < n) : VOk (n - 1) (mrem mm P) := hV.cg (f := fun x => if x < P then x else x + 1) (fun x hx => ⟨by show (if x < P then x else x + 1) < n; split <;> omega, fun i _ hi => by
  rcases (show x < P ∨ x = P ∨ P < x by omega) with q | q | q
  · rw [mrem_lo q]; show mm x i = mm (if x < P then x else x + 1) i; rw [if_pos q]
  · subst q; rw [mrem_at]; show mlose (mm (x + 1)) i = mm (if x < x then x else x + 1) i; rw [if_neg (by omega)]; unfold mlose; rw [if_neg (by omega), if_neg (by omega)]
  · rw [mrem_hi q]; show mm (x + 1) i = mm (if x < P then x else x + 1) i; rw [if_neg (by omega)]⟩)
theorem VOk.ot (hV : VOk n mm) {P i : Nat} (h : 4 ≤ i) {v : Int32} : VOk n (up2 mm P i v) := hV.cg (f := fun x => x) (fun x hx => ⟨hx, fun j _ hj => by unfold up2; rw [if_neg (by omega)]⟩)
theorem in_v {a b : Int32} {u_l u_n : Nat} (el : b = nI u_l) (hl : u_l < 2 ^ 31) (hn : u_n < 2 ^ 31) (h : f_in a b (nI u_n) = true) : ∃ u_a, u_l ≤ u_a ∧ u_a ≤ u_n ∧ a = nI u_a := by
  subst el
  unfold f_in at h
  rw [Bool.and_eq_true, decide_eq_true_eq, decide_eq_true_eq] at h
  have h0 : ¬ a < 0 := Int32.not_lt.mpr (Int32.le_trans (nI_pos' hl) h.1)
  obtain ⟨P, hP, rfl⟩ := nI_of h0
  exact ⟨P, (nI_leI hl hP).mp h.1, (nI_leI hP hn).mp h.2, rfl⟩
theorem VOk.say (hV : VOk n mm) {P : Nat} {b : Int32} (h : f_in b 0 99 = true) : VOk n (up2 mm P 2 b) := by
  obtain ⟨u_a, _, h2, h3⟩ := in_v (u_l := 0) (u_n := 99) rfl (by decide) (by decide) h
  intro x hx
  refine ⟨by unfold up2; rw [if_neg (by omega)]; exact (hV x hx).1, ?_, by unfold up2; rw [if_neg (by omega)]; exact (hV x hx).2.2⟩
  unfold up2
  split
  · exact ⟨u_a, h2, h3⟩
  · exact (hV x hx).2.1
theorem VOk.ins (hV : VOk n mm) {P : Nat} (hP : P ≤ n) {q a b : Int32} (ha : f_in a 0 99 = true) (hb : f_in b 1 30 = true) : VOk (n + 1) (mins mm P (mfresh q a b)) := by
  obtain ⟨u_a, _, h2, h3⟩ := in_v (u_l := 0) (u_n := 99) rfl (by decide) (by decide) ha
  obtain ⟨u_b, h5, h6, h7⟩ := in_v (u_l := 1) (u_n := 30) rfl (by decide) (by decide) hb
  intro x hx
  rcases (show x < P ∨ x = P ∨ x = P + 1 ∨ P + 1 < x by omega) with y | y | y | y
  · rw [mins_lo y]; exact hV x (by omega)
  · subst y; rw [mins_at]
    exact ⟨⟨u_a, h2, h3⟩, ⟨u_a, h2, h3⟩, u_b, h5, h6, h7⟩
  · subst y; rw [mins_p1]
    exact hV P (by omega)
  · rw [mins_hi y]; exact hV (x - 1) (by omega)
theorem VOk.tru (hV : VOk n mm) : VOk n (mtruth mm) := fun x hx => ⟨(hV x hx).1, (hV x hx).1, (hV x hx).2.2⟩
theorem VOk.set (fu : Nat) : ∀ (z : Nat → Int32) (mm : Nat → Nat → Int32), n ≤ 10 → VOk n mm → VOk n (f_set n fu z mm).2.2 := by
  induction fu with
  | zero => intro z mm _ h; exact h
  | succ fu ih =>
    intro z mm hn h
    rcases f_kp_cases (gof n mm) (n - 1) with e | ⟨Q, hQ, e⟩
    · rw [f_set_stop e]; exact h
    · rw [f_set_go hn hQ e]
      exact ih _ _ hn (h.swp (by omega))
theorem stops_of (fu : Nat) : ∀ (z : Nat → Int32) (mm : Nat → Nat → Int32), n ≤ 10 → VOk n mm → vI n mm ≤ fu → Stops n fu z mm := by
  induction fu with
  | zero =>
    intro z mm hn hV hi
    show (f_kp (gof n mm) (n - 1)).1 = -1
    rcases kp_inv (gof n mm) (n - 1) with h | ⟨Q, hQ, _, _, h4, _⟩
    · exact h.1
    · have h5 := vI_sw (pr := 0) (hV.sur hn (by omega) h4) (n := n) (by omega)
      omega
  | succ fu ih =>
    intro z mm hn hV hi
    rcases kp_inv (gof n mm) (n - 1) with h | ⟨Q, hQ, e, _, h4, _⟩
    · unfold Stops; rw [f_set_stop h.1]; exact h.1
    · have h5 := vI_sw (pr := f_fairc (gof n mm) (z 3) (nI Q)) (hV.sur hn (by omega) h4) (n := n) (by omega)
      have h6 := ih (upd (upd z 4 (z 4 + 1)) 5 (z 5 + f_fairc (gof n mm) (z 3) (nI Q))) _ hn (hV.swp (Q := Q) (pr := f_fairc (gof n mm) (z 3) (nI Q)) (by omega)) (by omega)
      unfold Stops at h6 ⊢
      rw [f_set_go hn hQ e]; exact h6
theorem VOk.st (hV : VOk n mm) (hn : n ≤ 10) (z : Nat → Int32) : Stops n 1000 z mm := stops_of 1000 z mm hn hV (by have := vI_le hn mm; omega)
end VKs
/-- a queue's value in range -/
def GOk (cv : LVt) : Prop := cv.1 ≤ 10 ∧ VOk cv.1 cv.2.2
theorem GOk.co {n fu u_j : Nat} {z : Nat → Int32} {mm : Nat → Nat → Int32} (h : GOk (n, z, mm)) (hj : u_j < 11) {a b d : Int32} (hf : f_ft (gof n mm) n u_j a b d = 0) : GOk (f_co fu n z mm u_j a b d).2 := by
  have hn : n ≤ 10 := h.1
  have hV : VOk n mm := h.2
  have mfP : ∀ {q p1 : Int32}, f_mf (f_place (gof n mm) n q) p1 = 0 → ∃ P, P < n ∧ f_place (gof n mm) n q = nI P ∧ (f_place (gof n mm) n q).toNatClampNeg = P := fun {q p1} h1 => by
    obtain ⟨P, hP, e, _⟩ := mf_in h1
    exact ⟨P, hP, e, by rw [e, nI_clamp (by omega)]⟩
  have pfP : ∀ {p1 : Int32}, f_pf n a p1 3 = 0 → ∃ P, P + 1 < n ∧ a.toNatClampNeg = P := fun {p1} h1 => by
    obtain ⟨_, P, hP, e⟩ := pf_in hn h1
    exact ⟨P, hP, by rw [e, nI_clamp (by omega)]⟩
  rcases (show u_j = 0 ∨ u_j = 1 ∨ u_j = 2 ∨ u_j = 3 ∨ u_j = 4 ∨ u_j = 5 ∨ u_j = 6 ∨ u_j = 7 ∨ u_j = 8 ∨ u_j = 9 ∨ u_j = 10 by omega) with e | e | e | e | e | e | e | e | e | e | e
  · subst e
    obtain ⟨h1, h2, h3, _⟩ := jf_in hn (show f_jf (gof n mm) n a b (nI n) = 0 from hf)
    exact ⟨h1, hV.ins (Nat.le_refl _) h2 h3⟩
  · subst e
    obtain ⟨h1, h2, h3, _, P, hP, e⟩ := jf_in hn (show f_jf (gof n mm) n a b d = 0 from hf)
    exact ⟨h1, hV.ins (by rw [e, nI_clamp (by omega)]; exact hP) h2 h3⟩
  · subst e
    obtain ⟨P, hP, _, e⟩ := mfP (show f_mf (f_place (gof n mm) n a) 1 = 0 from hf)
    exact ⟨by show n - 1 ≤ 10; omega, hV.rem (by rw [e]; exact hP)⟩
  · subst e
    have h1 : f_mf (f_place (gof n mm) n a) (bI (f_in b 0 99)) = 0 := hf
    obtain ⟨P, hP, e, _⟩ := mfP h1
    refine ⟨hn, hV.say ?_⟩
    rcases Bool.eq_false_or_eq_true (f_in b 0 99) with q | q
    · exact q
    · exfalso; rw [q, e] at h1; unfold f_mf at h1; rw [if_neg (nI_m1 (by omega))] at h1; exact absurd h1 (by decide)
  · subst e; exact ⟨hn, hV.ot (by omega)⟩
  · subst e
    obtain ⟨h2, h3⟩ := tf_in (show f_tf (gof n mm) (f_place (gof n mm) n a) = 0 from hf)
    obtain ⟨P, hP, e, e9⟩ := mfP h2
    rw [e] at h3
    exact ⟨hn, hV.swp (by rw [e9]; exact take_in hP hn h3)⟩
  · subst e
    obtain ⟨P, hP, e⟩ := pfP (show f_pf n a (f_would (gof n mm) a) 3 = 0 from hf)
    exact ⟨hn, hV.swp (by rw [e]; exact hP)⟩
  · subst e; exact ⟨hn, hV.ot (by omega)⟩
  · subst e; exact ⟨hn, hV.ot (by omega)⟩
  · subst e; exact ⟨by show n - 1 ≤ 10; omega, hV.rem (ft9 hn hf)⟩
  · subst e; exact ⟨hn, VOk.set fu z mm hn hV⟩
theorem GOk.push {cv : LVt} {u_m : Nat} {sv : Nat → LVt} (h : GOk cv) (hs : ∀ k, k < u_m → GOk (sv k)) (h4 : u_m ≤ 4) : ∀ k, k < (f_push cv u_m sv).1 → GOk ((f_push cv u_m sv).2 k) := by
  intro k hk
  unfold f_push at *
  by_cases e : u_m < 4
  · rw [if_pos e] at *
    show GOk (if k = u_m then cv else sv k)
    split
    · exact h
    · have hk : k < u_m + 1 := hk
      exact hs k (by omega)
  · rw [if_neg e] at *
    show GOk (if k = 3 then cv else sv (k + 1))
    split
    · exact h
    · have hk : k < 4 := hk
      exact hs (k + 1) (by omega)
