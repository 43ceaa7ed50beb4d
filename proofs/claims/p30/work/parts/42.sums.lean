/-! SUMS: costs by numbers; what a swap and settling make of them -/
theorem sI_nS {f : Nat → Int32} {u_F : Nat → Nat} {n : Nat} (h : ∀ i, i < n → f i = nI (u_F i)) : sI f n = nI (nS u_F n) := by
  induction n with
  | zero => exact nI_0.symm
  | succ n ih =>
    show sI f n + f n = nI (nS u_F n + u_F n)
    rw [ih (fun i hi => h i (by omega)), h n (by omega), nI_add]
theorem nS_mono {f g : Nat → Nat} {n : Nat} (h : ∀ i, i < n → f i ≤ g i) : nS f n ≤ nS g n := by
  induction n with
  | zero => exact Nat.le_refl _
  | succ n ih =>
    have h1 := ih (fun i hi => h i (by omega))
    have h2 := h n (by omega)
    show nS f n + f n ≤ nS g n + g n
    omega
theorem nS_mul (u_c : Nat) (f : Nat → Nat) (n : Nat) : nS (fun a => u_c * f a) n = u_c * nS f n := by
  induction n with
  | zero => rfl
  | succ n ih =>
    show nS (fun a => u_c * f a) n + u_c * f n = u_c * (nS f n + f n)
    rw [ih, Nat.mul_add]
def cN (w s : Nat → Nat) (n : Nat) : Nat := nS (fun P => w P * nS s P) n
def pN (u_C : Nat → Nat → Nat) (n : Nat) : Nat := nS (fun b => nS (fun a => u_C a b) b) n
def mC2 (w s : Nat → Nat) (a b : Nat) : Nat := min (w b * s a) (w a * s b)
theorem mC2_s (w s : Nat → Nat) (a b : Nat) : mC2 w s a b = mC2 w s b a := Nat.min_comm _ _
theorem pN_cN (w s : Nat → Nat) (n : Nat) : pN (mC2 w s) n ≤ cN w s n := by
  unfold pN cN
  refine nS_mono (fun b _ => ?_)
  rw [← nS_mul]
  exact nS_mono (fun a _ => Nat.min_le_left _ _)
theorem cN_le {w s : Nat → Nat} {n : Nat} (hn : n ≤ 10) (hw : ∀ P, P < n → w P ≤ 99) (hs : ∀ P, P < n → s P ≤ 30) : cN w s n ≤ 297000 := by
  have h1 : nS (fun P => w P * nS s P) n ≤ n * (99 * 300) := nS_le (fun P hP => by
    have h2 : nS s P ≤ P * 30 := nS_le (fun i hi => hs i (by omega))
    exact Nat.mul_le_mul (hw P hP) (by omega))
  show nS (fun P => w P * nS s P) n ≤ 297000
  omega
/-- two neighbours change places -/
theorem cN_sg (w s : Nat → Nat) {Q n : Nat} (h : Q + 2 ≤ n) : cN (fun x => w (sg Q x)) (fun x => s (sg Q x)) n + w (Q + 1) * s Q = cN w s n + w Q * s (Q + 1) := by
  have lo : ∀ x, x ≤ Q → nS (fun y => s (sg Q y)) x = nS s x := fun x hx => nS_cg (fun i hi => by rw [sg_o (by omega) (by omega)])
  induction n with
  | zero => omega
  | succ n ih =>
    by_cases e : Q + 1 = n
    · subst e
      show nS (fun P => w (sg Q P) * nS (fun y => s (sg Q y)) P) Q + w (sg Q Q) * nS (fun y => s (sg Q y)) Q + w (sg Q (Q + 1)) * (nS (fun y => s (sg Q y)) Q + s (sg Q Q)) + w (Q + 1) * s Q = nS (fun P => w P * nS s P) Q + w Q * nS s Q + w (Q + 1) * (nS s Q + s Q) + w Q * s (Q + 1)
      rw [sg_0, sg_1, lo Q (Nat.le_refl _), nS_cg (f := fun P => w (sg Q P) * nS (fun y => s (sg Q y)) P) (g := fun P => w P * nS s P) (fun i hi => by rw [sg_o (by omega) (by omega), lo i (by omega)]), Nat.mul_add, Nat.mul_add]
      omega
    · have h1 := ih (by omega)
      show cN (fun x => w (sg Q x)) (fun x => s (sg Q x)) n + w (sg Q n) * nS (fun y => s (sg Q y)) n + w (Q + 1) * s Q = cN w s n + w n * nS s n + w Q * s (Q + 1)
      rw [sg_o (x := n) (by omega) (by omega), nS_sg (f := s) (by omega)]
      omega
theorem pN_sg {u_C : Nat → Nat → Nat} (hs : ∀ a b, u_C a b = u_C b a) {Q n : Nat} (h : Q + 2 ≤ n) : pN (fun a b => u_C (sg Q a) (sg Q b)) n = pN u_C n := by
  induction n with
  | zero => omega
  | succ n ih =>
    by_cases e : Q + 1 = n
    · subst e
      show nS (fun b => nS (fun a => u_C (sg Q a) (sg Q b)) b) Q + nS (fun a => u_C (sg Q a) (sg Q Q)) Q + (nS (fun a => u_C (sg Q a) (sg Q (Q + 1))) Q + u_C (sg Q Q) (sg Q (Q + 1))) = nS (fun b => nS (fun a => u_C a b) b) Q + nS (fun a => u_C a Q) Q + (nS (fun a => u_C a (Q + 1)) Q + u_C Q (Q + 1))
      rw [sg_0, sg_1]
      rw [nS_cg (f := fun b => nS (fun a => u_C (sg Q a) (sg Q b)) b) (g := fun b => nS (fun a => u_C a b) b) (fun b hb => nS_cg (fun a ha => by rw [sg_o (x := a) (by omega) (by omega), sg_o (x := b) (by omega) (by omega)]))]
      rw [nS_cg (f := fun a => u_C (sg Q a) (Q + 1)) (g := fun a => u_C a (Q + 1)) (fun a ha => by rw [sg_o (x := a) (by omega) (by omega)])]
      rw [nS_cg (f := fun a => u_C (sg Q a) Q) (g := fun a => u_C a Q) (fun a ha => by rw [sg_o (x := a) (by omega) (by omega)])]
      rw [hs (Q + 1) Q]
      omega
    · have h1 : nS (fun b => nS (fun a => u_C (sg Q a) (sg Q b)) b) n = nS (fun b => nS (fun a => u_C a b) b) n := ih (by omega)
      show nS (fun b => nS (fun a => u_C (sg Q a) (sg Q b)) b) n + nS (fun a => u_C (sg Q a) (sg Q n)) n = nS (fun b => nS (fun a => u_C a b) b) n + nS (fun a => u_C a n) n
      rw [h1, sg_o (x := n) (by omega) (by omega), nS_sg (f := fun a => u_C a n) (by omega)]
theorem vW_sw {mm : Nat → Nat → Int32} {Q : Nat} {pr : Int32} : vW (mswap mm Q pr) = fun x => vW mm (sg Q x) := by funext x; unfold vW; rw [msw_v x (by omega)]
theorem vT_sw {mm : Nat → Nat → Int32} {Q : Nat} {pr : Int32} : vT (mswap mm Q pr) = fun x => vT mm (sg Q x) := by funext x; unfold vT; rw [msw_v x (by omega)]
theorem vS_sw {mm : Nat → Nat → Int32} {Q : Nat} {pr : Int32} : vS (mswap mm Q pr) = fun x => vS mm (sg Q x) := by funext x; unfold vS; rw [msw_v x (by omega)]
section Costs
variable {n : Nat} {z : Nat → Int32} {mm : Nat → Nat → Int32}
theorem VOk.wait (hV : VOk n mm) (hn : n ≤ 10) {P : Nat} (hP : P ≤ n) : f_wait (gof n mm) P = nI (nS (vS mm) P) := sI_nS (fun i hi => by rw [gof_in mm hn (by omega)]; exact (hV.s (by omega)).1)
theorem VOk.total (hV : VOk n mm) (hn : n ≤ 10) : f_total (gof n mm) n = nI (cN (vW mm) (vS mm) n) := sI_nS (fun P hP => by
  show f_cost (gof n mm) P = _
  unfold f_cost
  rw [gof_in mm hn hP, (hV.w hP).1, hV.wait hn (by omega), nI_mul])
theorem VOk.told (hV : VOk n mm) (hn : n ≤ 10) : f_told (gof n mm) n = nI (cN (vT mm) (vS mm) n) := sI_nS (fun P hP => by
  show gof n mm (nI P) 2 * f_wait (gof n mm) P = _
  rw [gof_in mm hn hP, (hV.t hP).1, hV.wait hn (by omega), nI_mul])
theorem imin_N {a b : Nat} (ha : a < 2 ^ 31) (hb : b < 2 ^ 31) : imin (nI a) (nI b) = nI (min a b) := by
  unfold imin
  by_cases q : b < a
  · rw [if_pos (nI_lt q ha), Nat.min_eq_right (by omega)]
  · rw [if_neg (nI_nlt (by omega) hb), Nat.min_eq_left (by omega)]
theorem VOk.best (hV : VOk n mm) (hn : n ≤ 10) : f_best (gof n mm) n = nI (pN (mC2 (vW mm) (vS mm)) n) := by
  rw [best_in hn]
  refine sI_nS (fun b hb => sI_nS (fun a ha => ?_))
  have a1 := hV.w hb
  have a2 := hV.w (P := a) (by omega)
  have a3 := hV.s hb
  have a4 := hV.s (P := a) (by omega)
  have b1 := mul_2970 a1.2 a4.2.2
  have b2 := mul_2970 a2.2 a3.2.2
  show imin (mm b 1 * mm a 3) (mm a 1 * mm b 3) = _
  rw [a1.1, a2.1, a3.1, a4.1, nI_mul, nI_mul, imin_N (by omega) (by omega)]
  rfl
theorem VOk.cw (hV : VOk n mm) (hn : n ≤ 10) : cN (vW mm) (vS mm) n ≤ 297000 := cN_le hn (fun P hP => (hV.w hP).2) (fun P hP => (hV.s hP).2.2)
theorem VOk.ct (hV : VOk n mm) (hn : n ≤ 10) : cN (vT mm) (vS mm) n ≤ 297000 := cN_le hn (fun P hP => (hV.t hP).2) (fun P hP => (hV.s hP).2.2)
/-- the best cost is no more than the cost -/
theorem VOk.best_le (hV : VOk n mm) (hn : n ≤ 10) : f_best (gof n mm) n ≤ f_total (gof n mm) n := by
  rw [hV.best hn, hV.total hn]
  exact nI_le (pN_cN _ _ _) (by have := hV.cw hn; omega)
/-- settling: so many swaps, each makes the told cost less; who swaps is counted, money stays -/
theorem set_told (fu : Nat) : ∀ (z : Nat → Int32) (mm : Nat → Nat → Int32), n ≤ 10 → VOk n mm → cN (vT (f_set n fu z mm).2.2) (vS (f_set n fu z mm).2.2) n + (f_set n fu z mm).1 ≤ cN (vT mm) (vS mm) n := by
  induction fu with
  | zero => intro z mm hn hV; exact Nat.le_refl _
  | succ fu ih =>
    intro z mm hn hV
    rcases kp_inv (gof n mm) (n - 1) with h | ⟨Q, hQ, e, _, h4, _⟩
    · rw [f_set_stop h.1]; exact Nat.le_refl _
    · rw [f_set_go hn hQ e]
      have h1 := ih (upd (upd z 4 (z 4 + 1)) 5 (z 5 + f_fairc (gof n mm) (z 3) (nI Q))) _ hn (hV.swp (Q := Q) (pr := f_fairc (gof n mm) (z 3) (nI Q)) (by omega))
      have h2 := hV.sur hn (Q := Q) (by omega) h4
      have h3 := cN_sg (vT mm) (vS mm) (Q := Q) (n := n) (by omega)
      rw [vT_sw (mm := mm) (Q := Q), vS_sw (mm := mm) (Q := Q)] at h1
      show cN (vT (f_set n fu _ _).2.2) (vS (f_set n fu _ _).2.2) n + ((f_set n fu _ _).1 + 1) ≤ _
      omega
theorem set_z4 (fu : Nat) : ∀ (z : Nat → Int32) (mm : Nat → Nat → Int32), n ≤ 10 → (f_set n fu z mm).2.1 4 = z 4 + nI (f_set n fu z mm).1 := by
  induction fu with
  | zero => intro z mm hn; show z 4 = z 4 + nI 0; rw [nI_0, Int32.add_zero]
  | succ fu ih =>
    intro z mm hn
    rcases kp_inv (gof n mm) (n - 1) with h | ⟨Q, hQ, e, _, h4, _⟩
    · rw [f_set_stop h.1]; show z 4 = z 4 + nI 0; rw [nI_0, Int32.add_zero]
    · rw [f_set_go hn hQ e]
      show (f_set n fu _ _).2.1 4 = z 4 + nI ((f_set n fu _ _).1 + 1)
      rw [ih _ _ hn]
      show (z 4 + 1) + nI _ = _
      rw [nI_succ, Int32.add_assoc, Int32.add_comm 1]
def mny (n : Nat) (mm : Nat → Nat → Int32) : Int32 := sI (fun P => mm P 4) n
theorem mny_sw {Q : Nat} (pr : Int32) (h : Q + 2 ≤ n) : mny n (mswap mm Q pr) = mny n mm := by
  have lo : ∀ x, x ≠ Q → x ≠ Q + 1 → mswap mm Q pr x 4 = mm x 4 := by
    intro x h1 h2
    unfold mswap mlose
    rw [if_neg h1, if_neg h2]
    split
    · rename_i q; subst q; rfl
    · rfl
  have a1 : mswap mm Q pr Q 4 = mm (Q + 1) 4 - pr := by unfold mswap mlose; rw [if_pos rfl]; rfl
  have a2 : mswap mm Q pr (Q + 1) 4 = mm Q 4 + pr := by unfold mswap mlose; rw [if_neg (by omega), if_pos rfl]; rfl
  induction n with
  | zero => omega
  | succ n ih =>
    by_cases e : Q + 1 = n
    · subst e
      show sI (fun P => mswap mm Q pr P 4) Q + mswap mm Q pr Q 4 + mswap mm Q pr (Q + 1) 4 = sI (fun P => mm P 4) Q + mm Q 4 + mm (Q + 1) 4
      rw [sI_congr (f := fun P => mswap mm Q pr P 4) (g := fun P => mm P 4) (fun i hi => lo i (by omega) (by omega)), a1, a2]
      rw [Int32.sub_eq_add_neg]
      have : mm (Q + 1) 4 + -pr + (mm Q 4 + pr) = mm Q 4 + mm (Q + 1) 4 := by
        rw [Int32.add_comm (mm Q 4) pr, ← Int32.add_assoc, Int32.add_assoc (mm (Q + 1) 4), Int32.add_left_neg, Int32.add_zero, Int32.add_comm]
      rw [Int32.add_assoc, this, Int32.add_assoc]
    · have h1 : sI (fun P => mswap mm Q pr P 4) n = sI (fun P => mm P 4) n := ih (by omega)
      show sI (fun P => mswap mm Q pr P 4) n + mswap mm Q pr n 4 = sI (fun P => mm P 4) n + mm n 4
      rw [h1, lo n (by omega) (by omega)]
theorem set_mny (fu : Nat) : ∀ (z : Nat → Int32) (mm : Nat → Nat → Int32), n ≤ 10 → mny n (f_set n fu z mm).2.2 = mny n mm := by
  induction fu with
  | zero => intro z mm hn; rfl
  | succ fu ih =>
    intro z mm hn
    rcases kp_inv (gof n mm) (n - 1) with h | ⟨Q, hQ, e, _, h4, _⟩
    · rw [f_set_stop h.1]
    · rw [f_set_go hn hQ e]
      show mny n (f_set n fu _ _).2.2 = _
      rw [ih _ _ hn, mny_sw _ (by omega)]
/-- the truth: told is worth -/
def Tru (n : Nat) (mm : Nat → Nat → Int32) : Prop := ∀ P, P < n → mm P 2 = mm P 1
theorem Tru.sw (h : Tru n mm) {Q : Nat} (hQ : Q + 1 < n) {pr : Int32} : Tru n (mswap mm Q pr) := fun P hP => by
  rw [msw_v P (by omega), msw_v P (by omega)]
  exact h _ (sg_lt hQ hP)
theorem set_tru (fu : Nat) : ∀ (z : Nat → Int32) (mm : Nat → Nat → Int32), n ≤ 10 → VOk n mm → Tru n mm → cN (vW (f_set n fu z mm).2.2) (vS (f_set n fu z mm).2.2) n ≤ cN (vW mm) (vS mm) n := by
  induction fu with
  | zero => intro z mm hn hV hT; exact Nat.le_refl _
  | succ fu ih =>
    intro z mm hn hV hT
    rcases kp_inv (gof n mm) (n - 1) with h | ⟨Q, hQ, e, _, h4, _⟩
    · rw [f_set_stop h.1]; exact Nat.le_refl _
    · rw [f_set_go hn hQ e]
      have h1 := ih (upd (upd z 4 (z 4 + 1)) 5 (z 5 + f_fairc (gof n mm) (z 3) (nI Q))) _ hn (hV.swp (Q := Q) (pr := f_fairc (gof n mm) (z 3) (nI Q)) (by omega)) (hT.sw (Q := Q) (by omega))
      have h2 := hV.sur hn (Q := Q) (by omega) h4
      have h3 := cN_sg (vW mm) (vS mm) (Q := Q) (n := n) (by omega)
      rw [show vT mm Q = vW mm Q by unfold vT vW; rw [hT Q (by omega)], show vT mm (Q + 1) = vW mm (Q + 1) by unfold vT vW; rw [hT (Q + 1) (by omega)]] at h2
      rw [vW_sw (mm := mm) (Q := Q), vS_sw (mm := mm) (Q := Q)] at h1
      show cN (vW (f_set n fu _ _).2.2) (vS (f_set n fu _ _).2.2) n ≤ _
      omega
theorem set_best (fu : Nat) : ∀ (z : Nat → Int32) (mm : Nat → Nat → Int32), n ≤ 10 → pN (mC2 (vW (f_set n fu z mm).2.2) (vS (f_set n fu z mm).2.2)) n = pN (mC2 (vW mm) (vS mm)) n := by
  induction fu with
  | zero => intro z mm hn; rfl
  | succ fu ih =>
    intro z mm hn
    rcases kp_inv (gof n mm) (n - 1) with h | ⟨Q, hQ, e, _, h4, _⟩
    · rw [f_set_stop h.1]
    · rw [f_set_go hn hQ e]
      show pN (mC2 (vW (f_set n fu _ _).2.2) (vS (f_set n fu _ _).2.2)) n = _
      rw [ih _ _ hn, vW_sw, vS_sw]
      exact pN_sg (mC2_s (vW mm) (vS mm)) (by omega)
/-- the honest cost lies between -/
theorem VOk.hon (hV : VOk n mm) (hn : n ≤ 10) (fu : Nat) (z : Nat → Int32) : f_best (gof n mm) n ≤ f_hon fu n z mm ∧ f_hon fu n z mm ≤ f_total (gof n mm) n := by
  have hT : VOk n (f_set n fu z (mtruth mm)).2.2 := VOk.set fu z _ hn hV.tru
  have h1 := set_tru fu z (mtruth mm) hn hV.tru (fun P _ => rfl)
  have h2 := set_best fu z (mtruth mm) hn
  have h3 := hV.cw hn
  have h4 := hT.cw hn
  have h5 := pN_cN (vW (f_set n fu z (mtruth mm)).2.2) (vS (f_set n fu z (mtruth mm)).2.2) n
  unfold f_hon
  rw [hT.total hn, hV.best hn, hV.total hn]
  have e1 : vW (mtruth mm) = vW mm := rfl
  have e2 : vS (mtruth mm) = vS mm := rfl
  rw [e1, e2] at h1 h2
  exact ⟨nI_le (by omega) (by omega), nI_le h1 (by omega)⟩
end Costs
