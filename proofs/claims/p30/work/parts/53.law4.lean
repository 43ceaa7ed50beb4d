/-! LAW: its script, its start, its body -/
def f_cell (L : Nat) (xs : Nat → Int32) (k : Int32) : Int32 := if Int32.ofNat L ≤ k then 7919 * (k + 3) * (k + 11) else xs k.toNatClampNeg
theorem c_L_cell {l : Launch} {E : GE} (hE : Env0 E) {S : ST} {b L : Nat} {xs : Nat → Int32} (hX : va_X b L xs (gS E) (gS E).heap) (hbl : b < (gS E).heap.size) (hL : L ≤ 260) (p0 : Int32) (h0 : ¬ p0 < 0) : MR l E yL_cell cL_cell 2 (some .int) 0 0 S [.ref b, .int p0] (some (.int (f_cell L xs p0))) := by
  refine MR.of hE (by decide) (Nat.le_of_ble_eq_true rfl) ?_
  intro p e s m below meth c ls C hJ hr hl
  have hx := C.x
  have hb := C.b
  have hl : lv_has ls 2 [(0, .ref b), (1, .int p0)] := hl
  have hX2 := va_X.moved C.hW.alike hX
  have hbA : ¬ gFr E b := Nat.not_le.mpr hbl
  refine lv_iload_n hx hb dL_cell_0 rfl (lv_at hl 1 rfl) ?_
  refine lv_aload_n hx hb dL_cell_1 rfl (lv_at hl 0 rfl) ?_
  refine va_slen hx hb hX2 hbl hbA hJ.2 dL_cell_2 ?_
  refine lv_icmp_ge (tgt := 12) hx hb dL_cell_3 (by decide) (fun c_3 => ?_) (fun c_3 => ?_)
  · refine lv_sipush (v := 7919) hx hb dL_cell_12 (by decide) ?_
    refine lv_iload_n hx hb dL_cell_15 rfl (lv_at hl 1 rfl) ?_
    refine lv_iconst (v := 3) hx hb dL_cell_16 (by decide) ?_
    refine lv_iadd hx hb dL_cell_17 ?_
    refine lv_imul hx hb dL_cell_18 ?_
    refine lv_iload_n hx hb dL_cell_19 rfl (lv_at hl 1 rfl) ?_
    refine lv_bipush (v := 11) hx hb dL_cell_20 (by decide) ?_
    refine lv_iadd hx hb dL_cell_22 ?_
    refine lv_imul hx hb dL_cell_23 ?_
    exact rR_i C hr rfl (by unfold f_cell; rw [if_pos c_3]) dL_cell_24
  · have hin : vp_in p0 L := by
      obtain ⟨u_k, hk, e⟩ := nI_of h0
      rw [e] at c_3 ⊢
      refine vp_in_nI ?_ (by omega)
      rcases Nat.lt_or_ge u_k L with q | q
      · exact q
      · exact absurd (nI_le q hk) c_3
    refine lv_aload_n hx hb dL_cell_6 rfl (lv_at hl 0 rfl) ?_
    refine lv_iload_n hx hb dL_cell_7 rfl (lv_at hl 1 rfl) ?_
    refine va_sld hx hb hX2 hbl hbA hJ.2 hin dL_cell_8 ?_
    refine lv_goto (tgt := 24) hx hb dL_cell_9 (by decide) ?_
    exact rR_i C hr rfl (by unfold f_cell; rw [if_neg c_3]) dL_cell_24
abbrev m00 : Nat → Nat → Int32 := fun _ _ => 0
theorem QOk.z0 : QOk 0 (0, z0, m00) := ⟨Nat.zero_le _, fun P hP => absurd hP (Nat.not_lt_zero _), ⟨rfl, fun P hP => absurd hP (Nat.not_lt_zero _)⟩, fun h => absurd h (Nat.not_lt_zero _), 0, Nat.le_refl _, rfl, fun P hP => absurd hP (Nat.not_lt_zero _), fun P Q hP => absurd hP (Nat.not_lt_zero _)⟩
theorem set_z0 {mm : Nat → Nat → Int32} {z : Nat → Int32} : f_set 0 1000 z mm = (0, z, mm) := f_set_stop (by rfl) 1000
theorem flt_0 (u_b u_g : Nat → Int32) : t_flt 0 u_b 150 0 u_g = -1 := by
  show t_flt 0 u_b (149 + 1) 0 u_g = -1
  unfold t_flt; rw [if_neg (Nat.not_lt_zero _)]
theorem go_0 (fu : Nat) (u_b u_g : Nat → Int32) (u_v : LVt) : t_go fu 0 u_b 150 0 u_g u_v = (0, u_v) := by
  show t_go fu 0 u_b (149 + 1) 0 u_g u_v = (0, u_v)
  unfold t_go; rw [if_neg (Nat.not_lt_zero _)]
theorem d_run {l : Launch} {E : GE} (hE : Env0 E) {S : ST} {X : EX} (hX : Env1 E X) {n : Nat} {z : Nat → Int32} {mm : Nat → Nat → Int32} {mc : Nat} {sv : Nat → LVt} (hXI : XI S (n, z, mm) mc sv) {u_p : Nat} {u_b u_g : Nat → Int32} {u_f : Int32} {u_c : Option Nat} (hT : TX S 0 u_b u_p u_f u_c u_g) : MW l E yX6_runCommands cX6_runCommands 4 (some .int) 8 179 S [.ref (gA E 83)] (fun v S1 => v = some (.int 0) ∧ XI S1 (n, z, mm) (f_push (n, z, mm) mc sv).1 (f_push (n, z, mm) mc sv).2 ∧ (sT S1).1 1 = nI 0) := by
  refine MW.mono (c_X6_runCommands hE hX hXI hT (by decide) 1000 rfl) ?_
  rintro v S1 ⟨u_h, h1, h2, ⟨_, _, _, _, h3⟩, _⟩
  rw [if_pos (flt_0 _ _), go_0] at h1 h2
  exact ⟨h1, h2, h3.1⟩
/-- back to where a push began -/
theorem push_last (c : LVt) (m : Nat) (sv : Nat → LVt) : (f_push c m sv).2 ((f_push c m sv).1 - 1) = c := by
  unfold f_push
  by_cases h : m < 4
  · rw [if_pos h]; show (if m + 1 - 1 = m then c else sv (m + 1 - 1)) = c; rw [if_pos (by omega)]
  · rw [if_neg h]; rfl
theorem push_pos (c : LVt) (m : Nat) (sv : Nat → LVt) : 0 < (f_push c m sv).1 := by
  unfold f_push
  by_cases h : m < 4
  · rw [if_pos h]; exact Nat.succ_pos m
  · rw [if_neg h]; show 0 < 4; decide
theorem push_n (c : LVt) {m : Nat} (hm : m ≤ 4) (sv : Nat → LVt) : (f_push c m sv).1 - 1 ≤ 3 ∧ ((f_push c m sv).1 - 1 < 3 → m = (f_push c m sv).1 - 1) := by
  unfold f_push
  by_cases h : m < 4
  · rw [if_pos h]; show m + 1 - 1 ≤ 3 ∧ (m + 1 - 1 < 3 → m = m + 1 - 1); omega
  · rw [if_neg h]; show 4 - 1 ≤ 3 ∧ (4 - 1 < 3 → m = 4 - 1); omega
theorem d_undo {l : Launch} {E : GE} (hE : Env0 E) {S : ST} {cv : LVt} {n : Nat} {z : Nat → Int32} {mm : Nat → Nat → Int32} {mc : Nat} {sv : Nat → LVt} (hXI : XI S cv (f_push (n, z, mm) mc sv).1 (f_push (n, z, mm) mc sv).2) : MW l E yX6_undo cX6_undo 1 (some .int) 3 66 S [.ref (gA E 83)] (fun v S1 => v = some (.int (nI ((f_push (n, z, mm) mc sv).1 - 1))) ∧ XI S1 (n, z, mm) ((f_push (n, z, mm) mc sv).1 - 1) (f_push (n, z, mm) mc sv).2 ∧ S1.2.2 = S.2.2) := by
  obtain ⟨n1, z1, mm1⟩ := cv
  have y := c_X6_undo (l := l) hE hXI (push_pos _ _ _)
  rw [push_last] at y
  exact y
theorem d_undo1 {l : Launch} {E : GE} (hE : Env0 E) {S : ST} {n : Nat} {z : Nat → Int32} {mm : Nat → Nat → Int32} {mc : Nat} {sv : Nat → LVt} (hXI : XI S (n, z, mm) mc sv) (hm : mc = 3) : MW l E yX6_undo cX6_undo 1 (some .int) 3 66 S [.ref (gA E 83)] (fun v S1 => v = some (.int 2) ∧ XI S1 (sv 2) 2 sv ∧ S1.2.2 = S.2.2) := by
  subst hm
  exact c_X6_undo hE hXI (by decide)
theorem cmp_e (x : Int64) : lg_cmp x x = 0 := by
  unfold lg_cmp
  rw [if_neg (show ¬ x > x from Int64.lt_irrefl), if_pos rfl]
theorem cell_i {t : Nat} (h : t < 40) : ¬ (2 * nI t) < 0 := by
  rw [show (2 : Int32) * nI t = nI (2 * t) from nI_mul 2 t]; exact nI_pos (by omega)
theorem cell_j {t : Nat} (h : t < 40) : ¬ (2 * nI t + 1) < 0 := by
  rw [show (2 : Int32) * nI t = nI (2 * t) from nI_mul 2 t, nI_1]; exact nI_pos (by omega)
theorem Env0.st {D : va_G} {s : State} {E : GE} {f : Nat → va_E} (hgD : gD E = D) (hgs : gS E = s) (hK : va_K D vwCl (pt_tys E) s) (hD : va_D (fun q : Nat => s.heap.size ≤ q) (wl E f)) (hts : ∀ w ∈ lw_tbl, w.before (gV E) s = true) : Env0 E := by
  refine ⟨by rw [hgD, hgs]; exact hK, fun i j hi hj e => hD.1 i j _ _ (wl_at E f hi) (wl_at E f hj) e, fun i hi => ?_, by rw [hgs]; exact hts⟩
  show (gS E).heap.size ≤ gA E i
  rw [hgs]; exact hD.2 i _ (wl_at E f hi)
