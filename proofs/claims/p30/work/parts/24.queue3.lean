/-! QUEUE: sums of a digest, honest cost, a run of the text -/
def f_hon (fu n : Nat) (z : Nat → Int32) (mm : Nat → Nat → Int32) : Int32 := f_total (gof n (f_set n fu z (mtruth mm)).2.2) n
def dI (f : Nat → Int32) : Nat → Int64 → Int64
  | 0, x => x
  | w + 1, x => 31 * dI f w x + (f w).toInt64
def f_dm (g : Int32 → Nat → Int32) : Nat → Int64 → Int64
  | 0, x => x
  | P + 1, x => dI (fun w => f_mval g P w) 10 (31 * f_dm g P x + (g (nI P) 0).toInt64)
def f_dp (g : Int32 → Nat → Int32) (sp : Int32) : Nat → Int64 → Int64
  | 0, x => x
  | P + 1, x => 31 * dI (fun w => f_pval g sp (nI P) w) 5 (f_dp g sp P x) + (f_hind g (nI P)).toInt64
def f_dig (n : Nat) (z : Nat → Int32) (mm : Nat → Nat → Int32) (u_n u_m : Nat) : Int64 :=
  31 * f_dp (gof n mm) (z 3) (n - 1) (f_dm (gof n mm) n (dI (fun w => f_whole n z mm u_n w) 14 (1359102 + (nI u_m).toInt64))) + (f_wrong (gof n mm) n).toInt64
theorem XI.rt {S S1 : ST} {cv : LVt} {mc : Nat} {sv : Nat → LVt} (h : XI S cv mc sv) (hR : RT S S1) : XI S1 cv mc sv := by
  unfold XI sL sH at *
  rw [hR.1, hR.2.1]
  exact h
theorem XI.up {S S1 : ST} {cv : LVt} {mc : Nat} {sv : Nat → LVt} {n : Nat} {z : Nat → Int32} {mm : Nat → Nat → Int32} (h : XI S cv mc sv) (hU : Up S S1 0 n z mm) : XI S1 (n, z, mm) mc sv := by
  obtain ⟨a1, a2, a3, a4⟩ := h
  obtain ⟨u1, u2, u3⟩ := hU
  have hH : sH S1 = sH S := congrArg (fun q => q.1) u1
  refine ⟨u3, by rw [hH]; exact a2, fun k hk => ?_, fun j hj => ?_⟩
  · by_cases e : k = 0
    · subst e; exact ⟨(n, z, mm), u3⟩
    · obtain ⟨t, ht⟩ := a3 k hk
      exact ⟨t, LnV.off ht u2 e⟩
  · rw [hH]
    have h2 := a2.2.2.1 j (by have := a2.1; omega)
    exact LnV.off (a4 j hj) u2 (by omega)
theorem XI.up1 {S S1 : ST} {cv : LVt} {mc : Nat} {sv : Nat → LVt} {n : Nat} {z : Nat → Int32} {mm : Nat → Nat → Int32} (h : XI S cv mc sv) (hU : Up S S1 1 n z mm) : XI S1 cv mc sv := by
  obtain ⟨a1, a2, a3, a4⟩ := h
  obtain ⟨u1, u2, u3⟩ := hU
  have hH : sH S1 = sH S := congrArg (fun q => q.1) u1
  refine ⟨LnV.off a1 u2 (by omega), by rw [hH]; exact a2, fun k hk => ?_, fun j hj => ?_⟩
  · by_cases e : k = 1
    · subst e; exact ⟨(n, z, mm), u3⟩
    · obtain ⟨t, ht⟩ := a3 k hk
      exact ⟨t, LnV.off ht u2 e⟩
  · rw [hH]
    have h2 := a2.2.2.1 j (by have := a2.1; omega)
    exact LnV.off (a4 j hj) u2 (by omega)
section TXm
variable {S S1 : ST} {u_n : Nat} {u_b : Nat → Int32} {u_p : Nat} {u_f : Int32} {u_c : Option Nat} {u_g : Nat → Int32}
theorem TX.mv (h : TX S u_n u_b u_p u_f u_c u_g) (e : S1.2.2 = S.2.2) : TX S1 u_n u_b u_p u_f u_c u_g := by
  unfold TX sT at *
  rw [e]; exact h
theorem TX.up (h : TX S u_n u_b u_p u_f u_c u_g) {k n : Nat} {z : Nat → Int32} {mm : Nat → Nat → Int32} (hU : Up S S1 k n z mm) : TX S1 u_n u_b u_p u_f u_c u_g := h.mv (congrArg (fun q => q.2) hU.1)
theorem TX.len (h : TX S u_n u_b u_p u_f u_c u_g) {x : Int32} {u_q : Nat} (hx : x = nI u_q) : TX (setTs S 1 x) u_q u_b u_p u_f u_c u_g := ⟨hx, h.2.1, h.2.2.1, h.2.2.2.1, h.2.2.2.2.1, h.2.2.2.2.2⟩
end TXm
/-- numbers read before don't matter -/
theorem t_nums_g (u_n : Nat) (u_b : Nat → Int32) (d : Nat) : ∀ u_k u_p u_g u_h, (t_nums u_n u_b d u_k u_p u_g).1 = (t_nums u_n u_b d u_k u_p u_h).1 ∧ (t_nums u_n u_b d u_k u_p u_g).2.1 = (t_nums u_n u_b d u_k u_p u_h).2.1 := by
  induction d with
  | zero => intro u_k u_p u_g u_h; exact ⟨rfl, rfl⟩
  | succ d ih =>
    intro u_k u_p u_g u_h
    unfold t_nums
    split
    · exact ih _ _ _ _
    · exact ⟨rfl, rfl⟩
theorem t_rc_g (u_n : Nat) (u_b : Nat → Int32) (u_p : Nat) (u_g u_h : Nat → Int32) : (t_rc u_n u_b u_p u_g).1 = (t_rc u_n u_b u_p u_h).1 ∧ (t_rc u_n u_b u_p u_g).2.1 = (t_rc u_n u_b u_p u_h).2.1 ∧ (t_rc u_n u_b u_p u_g).2.2.1 = (t_rc u_n u_b u_p u_h).2.2.1 := by
  cases hc : t_cmd u_b u_p (t_run leB u_n u_b u_p) with
  | none => rw [t_rc_0 hc, t_rc_0 hc]; exact ⟨rfl, rfl, rfl⟩
  | some u_j =>
    have h2 := t_nums_g u_n u_b (cmdC u_j) 0 (t_run leB u_n u_b u_p) u_g u_h
    cases hn : t_nums u_n u_b (cmdC u_j) 0 (t_run leB u_n u_b u_p) u_g with
    | mk u_o u_s =>
      obtain ⟨u_r, u_x⟩ := u_s
      cases hn2 : t_nums u_n u_b (cmdC u_j) 0 (t_run leB u_n u_b u_p) u_h with
      | mk u_o2 u_s2 =>
        obtain ⟨u_r2, u_x2⟩ := u_s2
        rw [hn, hn2] at h2
        obtain ⟨h3, h4⟩ : u_o = u_o2 ∧ u_r = u_r2 := h2
        subst h3; subst h4
        cases u_o with
        | false => rw [t_rc_1 hc hn, t_rc_1 hc hn2]; exact ⟨rfl, rfl, rfl⟩
        | true =>
          rw [t_rc_2 hc hn, t_rc_2 hc hn2]
          split
          · exact ⟨rfl, rfl, rfl⟩
          · exact ⟨rfl, rfl, rfl⟩
theorem t_flt_g (u_n : Nat) (u_b : Nat → Int32) (d : Nat) : ∀ u_p u_g u_h, t_flt u_n u_b d u_p u_g = t_flt u_n u_b d u_p u_h := by
  induction d with
  | zero => intro u_p u_g u_h; rfl
  | succ d ih =>
    intro u_p u_g u_h
    obtain ⟨h1, h2, h3⟩ := t_rc_g u_n u_b (t_run spB u_n u_b u_p) u_g u_h
    unfold t_flt
    rw [h1, h3, ih _ (t_rc u_n u_b (t_run spB u_n u_b u_p) u_g).2.2.2 (t_rc u_n u_b (t_run spB u_n u_b u_p) u_h).2.2.2]
/-- a run of the commands -/
def t_go (fu u_n : Nat) (u_b : Nat → Int32) : Nat → Nat → (Nat → Int32) → LVt → Nat × LVt
  | 0, _, _, u_v => (0, u_v)
  | d + 1, u_p, u_g, u_v =>
    if t_run spB u_n u_b u_p < u_n then
      let u_r := t_rc u_n u_b (t_run spB u_n u_b u_p) u_g
      if f_ft (gof u_v.1 u_v.2.2) u_v.1 u_r.2.1 (u_r.2.2.2 0) (u_r.2.2.2 1) (u_r.2.2.2 2) = 0 then
        let u_x := t_go fu u_n u_b d u_r.2.2.1 u_r.2.2.2 (f_co fu u_v.1 u_v.2.1 u_v.2.2 u_r.2.1 (u_r.2.2.2 0) (u_r.2.2.2 1) (u_r.2.2.2 2)).2
        (u_x.1 + 1, u_x.2)
      else (0, u_v)
    else (0, u_v)
/-- the run so far: what it comes to in the end -/
def GV (fu u_n : Nat) (u_b : Nat → Int32) (u_g0 : Nat → Int32) (u_v0 : LVt) (i u_q : Nat) (u_h : Nat → Int32) (u_v : LVt) : Prop :=
  t_flt u_n u_b (150 - i) u_q u_h = -1 ∧ t_go fu u_n u_b 150 0 u_g0 u_v0 = (i + (t_go fu u_n u_b (150 - i) u_q u_h u_v).1, (t_go fu u_n u_b (150 - i) u_q u_h u_v).2)
theorem go_u {fu u_n : Nat} {u_b : Nat → Int32} {i u_q : Nat} {u_h : Nat → Int32} {u_v : LVt} (hlt : i < 150) : t_go fu u_n u_b (150 - i) u_q u_h u_v = t_go fu u_n u_b ((150 - (i + 1)) + 1) u_q u_h u_v := by
  rw [show 150 - i = (150 - (i + 1)) + 1 by omega]
theorem go_end {fu u_n : Nat} {u_b u_g0 u_h : Nat → Int32} {u_v0 u_v : LVt} {i u_q : Nat} (hlt : i < 150) (hv : GV fu u_n u_b u_g0 u_v0 i u_q u_h u_v) (hno : ¬ t_run spB u_n u_b u_q < u_n) : t_go fu u_n u_b 150 0 u_g0 u_v0 = (i, u_v) := by
  rw [hv.2, go_u hlt]
  unfold t_go
  rw [if_neg hno]; rfl
theorem go_ok {fu u_n : Nat} {u_b u_g0 u_h : Nat → Int32} {u_v0 u_v : LVt} {i u_q : Nat} (hlt : i < 150) (hv : GV fu u_n u_b u_g0 u_v0 i u_q u_h u_v) (hq : u_q ≤ u_n) (hN : u_n ≤ 150) (hyes : t_run spB u_n u_b u_q < u_n) : (t_rc u_n u_b (t_run spB u_n u_b u_q) u_h).1 = true ∧ t_flt u_n u_b (150 - (i + 1)) (t_rc u_n u_b (t_run spB u_n u_b u_q) u_h).2.2.1 (t_rc u_n u_b (t_run spB u_n u_b u_q) u_h).2.2.2 = -1 := by
  have h1 := hv.1
  rw [flt_u hlt, if_pos hyes] at h1
  split at h1
  · rename_i h2; exact ⟨h2, h1⟩
  · exact absurd h1 (nI_m1 (by have := (t_rc_le (u_b := u_b) (u_g := u_h) (t_run_le (u_q := spB) (u_b := u_b) hq).2).1; omega))
theorem go_stop {fu u_n : Nat} {u_b u_g0 u_h : Nat → Int32} {u_v0 u_v : LVt} {i u_q : Nat} (hlt : i < 150) (hv : GV fu u_n u_b u_g0 u_v0 i u_q u_h u_v) (hyes : t_run spB u_n u_b u_q < u_n) {u_r : Bool × Nat × Nat × (Nat → Int32)} (hr : u_r = t_rc u_n u_b (t_run spB u_n u_b u_q) u_h) (hf : ¬ f_ft (gof u_v.1 u_v.2.2) u_v.1 u_r.2.1 (u_r.2.2.2 0) (u_r.2.2.2 1) (u_r.2.2.2 2) = 0) : t_go fu u_n u_b 150 0 u_g0 u_v0 = (i, u_v) := by
  subst hr
  rw [hv.2, go_u hlt]
  unfold t_go
  rw [if_pos hyes]
  simp only [if_neg hf]
  rfl
theorem go_on {fu u_n : Nat} {u_b u_g0 u_h : Nat → Int32} {u_v0 u_v : LVt} {i u_q : Nat} (hlt : i < 150) (hv : GV fu u_n u_b u_g0 u_v0 i u_q u_h u_v) (hq : u_q ≤ u_n) (hN : u_n ≤ 150) (hyes : t_run spB u_n u_b u_q < u_n) {u_r : Bool × Nat × Nat × (Nat → Int32)} (hr : u_r = t_rc u_n u_b (t_run spB u_n u_b u_q) u_h) (hf : f_ft (gof u_v.1 u_v.2.2) u_v.1 u_r.2.1 (u_r.2.2.2 0) (u_r.2.2.2 1) (u_r.2.2.2 2) = 0) : GV fu u_n u_b u_g0 u_v0 (i + 1) u_r.2.2.1 u_r.2.2.2 (f_co fu u_v.1 u_v.2.1 u_v.2.2 u_r.2.1 (u_r.2.2.2 0) (u_r.2.2.2 1) (u_r.2.2.2 2)).2 := by
  have h1 := go_ok hlt hv hq hN hyes
  subst hr
  refine ⟨h1.2, ?_⟩
  rw [hv.2, go_u hlt, t_go, if_pos hyes]
  simp only [if_pos hf]
  rw [show i + ((t_go fu u_n u_b (150 - (i + 1)) (t_rc u_n u_b (t_run spB u_n u_b u_q) u_h).2.2.1 (t_rc u_n u_b (t_run spB u_n u_b u_q) u_h).2.2.2 (f_co fu u_v.1 u_v.2.1 u_v.2.2 (t_rc u_n u_b (t_run spB u_n u_b u_q) u_h).2.1 ((t_rc u_n u_b (t_run spB u_n u_b u_q) u_h).2.2.2 0) ((t_rc u_n u_b (t_run spB u_n u_b u_q) u_h).2.2.2 1) ((t_rc u_n u_b (t_run spB u_n u_b u_q) u_h).2.2.2 2)).2).1 + 1) = i + 1 + (t_go fu u_n u_b (150 - (i + 1)) (t_rc u_n u_b (t_run spB u_n u_b u_q) u_h).2.2.1 (t_rc u_n u_b (t_run spB u_n u_b u_q) u_h).2.2.2 (f_co fu u_v.1 u_v.2.1 u_v.2.2 (t_rc u_n u_b (t_run spB u_n u_b u_q) u_h).2.1 ((t_rc u_n u_b (t_run spB u_n u_b u_q) u_h).2.2.2 0) ((t_rc u_n u_b (t_run spB u_n u_b u_q) u_h).2.2.2 1) ((t_rc u_n u_b (t_run spB u_n u_b u_q) u_h).2.2.2 2)).2).1 by omega]
