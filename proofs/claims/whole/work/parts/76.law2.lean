/-! LAW: its calls, its script, what it keeps -/
theorem Env0.st {D : va_G} {s : State} {E : GE} {f : Nat → va_E} (hgD : gD E = D) (hgs : gS E = s) (hK : va_K D vwCl (pt_tys E) s) (hD : va_D (fun q : Nat => s.heap.size ≤ q) (wl E f)) (hts : ∀ w ∈ lw_tbl, w.before (gV E) s = true) : Env0 E := by
  refine ⟨by rw [hgD, hgs]; exact hK, fun i j hi hj e => hD.1 i j _ _ (wl_at E f hi) (wl_at E f hj) e, fun i hi => ?_, by rw [hgs]; exact hts⟩
  show (gS E).heap.size ≤ gA E i
  rw [hgs]; exact hD.2 i _ (wl_at E f hi)
section Law2
variable {p : Program} {l : Launch} {e : Env} {R : Room} {s : State} {m : MethodId} {args : Array Value} {below : List Frame} {meth : Method} {c : Code} {H : Heap} {locs : List Loc} {cells slots : Nat} {Q : State → Prop} {E : GE} {S : ST} {cc : ByteArray} {own : String} {nL pc : Nat} {ls : Array Slot} {rest : List Value}
theorem i_scr (C : Cx E p s m meth c cc own nL) (hgs : gS E = s) {b L : Nat} {xs : Nat → Int32} (hsc : va_X b L xs s s.heap) (hbl : b < s.heap.size) (hL : L ≤ 2048) (hJ : JJ E S H locs) {x : Int32} {j : Nat} (hx : x = nI j) (hj : j < L) (hdg : decode cc pc = .ok (.iaload, 1))
    (kk : W p l e R s m args below meth c H locs cells slots Q (F0 m (pc + 1) ls (.int (xs j) :: rest))) : W p l e R s m args below meth c H locs cells slots Q (F0 m pc ls (.int x :: .ref b :: rest)) := by
  have hS : va_S (gFr E) s.heap H locs := by have h := hJ.2; rw [hgs] at h; exact h
  have hbA : ¬ gFr E b := by show ¬ (gS E).heap.size ≤ b; rw [hgs]; exact Nat.not_le.mpr hbl
  subst hx
  refine va_sld C.x C.b hsc hbl hbA hS (vp_in_nI hj (by omega)) hdg ?_
  rw [nI_clamp (by omega)]; exact kk
theorem i_slen (C : Cx E p s m meth c cc own nL) (hgs : gS E = s) {b L : Nat} {xs : Nat → Int32} (hsc : va_X b L xs s s.heap) (hbl : b < s.heap.size) (hJ : JJ E S H locs) (hdg : decode cc pc = .ok (.arraylength, 1))
    (kk : W p l e R s m args below meth c H locs cells slots Q (F0 m (pc + 1) ls (.int (nI L) :: rest))) : W p l e R s m args below meth c H locs cells slots Q (F0 m pc ls (.ref b :: rest)) := by
  have hS : va_S (gFr E) s.heap H locs := by have h := hJ.2; rw [hgs] at h; exact h
  have hbA : ¬ gFr E b := by show ¬ (gS E).heap.size ≤ b; rw [hgs]; exact Nat.not_le.mpr hbl
  exact va_slen C.x C.b hsc hbl hbA hS hdg kk
/-- a call that doesn't throw, though it makes cells -/
theorem k_H {S0 : ST} {a : Array Value} {P0 : Option Value → ST → Prop} {k_c k_s : Nat} {st0 : List Value} (hJ : JJ E S H locs)
    (hr : vx_Run p l e R s m args below meth c H locs cells slots k_c k_s (F0 m pc ls st0) rest (XQc E P0 a) (XXc E S0 (fun _ => False)) (gFr E))
    (kk : ∀ (v : Option Value) (S' : ST) (H1 : Heap) (locs1 : List Loc), P0 v S' → JJ E S' H1 locs1 → W p l e R s m args below meth c H1 locs1 (cells + k_c) (slots + k_s) Q (F0 m (pc + 3) ls (v.toList ++ rest))) : W p l e R s m args below meth c H locs cells slots Q (F0 m pc ls st0) :=
  k_XH hJ hr kk (fun _ _ _ _ _ h => h.elim)
theorem r_XSW (C : Cx E p s m meth c cc own nL) (hJ : JJ E S H locs) {y : MethodName} {bytes : ByteArray} {mL fr lo k_c k_s n index : Nat} {hh : List (Nat × Nat × Nat × Nat)} {As st0 : List Value} {P0 : Option Value → ST → Prop}
    (hM : MH l E y bytes mL hh fr lo k_c k_s S As P0)
    (h1 : Cond.methodLink own index y ∈ pw_tbl) (h2 : Cond.static y ∈ pw_tbl) (h4 : Cond.initialized y.cls ∈ pw_tbl) (h5 : Cond.codeWith y bytes mL (some .int) hh ∈ pw_tbl)
    (hd : y.cls ≠ "java/lang/invoke/MethodHandle" ∧ y.cls ≠ "java/lang/invoke/VarHandle" ∧ (parseMethodDescriptor y.desc).map (fun d => d.parameters.length) = some n) (hn : As.length = n) (hdg : decode cc pc = .ok (.invokestatic index, 3))
    (hls : ls.size = nL) (hR : fr + 1 ≤ R.frames ∧ 8 + (mL + 11) + lo ≤ R.locals) (hf : cells + k_c ≤ R.cells ∧ slots + k_s ≤ R.slots) (hcat : (rest.map fun v => v.category).sum ≤ 8) (hstk : st0 = As.reverse ++ rest) :
    vx_Run p l e R s m args below meth c H locs cells slots k_c k_s (F0 m pc ls st0) rest (XQc E P0 As.toArray) (XXc E S (fun _ => False)) (gFr E) :=
  vx_runSX (Ts := pw_tbl) ⟨C.x, C.b, C.ml, C.ow, C.ts⟩ hM (vx_cwSW n C.ts (fun w hw => by
      simp only [va_wsS, List.mem_append, List.mem_cons, List.not_mem_nil, or_false] at hw
      rcases hw with (rfl | rfl | rfl) | rfl
      · exact ⟨h1, pw_good h1⟩
      · exact ⟨h2, pw_good h2⟩
      · exact ⟨h4, pw_good h4⟩
      · exact ⟨h5, pw_good h5⟩) rfl rfl rfl hd hR) ⟨blind _, fun U hU hW => ⟨rfl, HS.of C hJ hU hW⟩⟩ rfl hn hls hstk (lv_room hcat) hdg hf
end Law2
section LIs
variable {S S1 S2 : ST} {cv cw : LVt} {mc u_m u_n : Nat} {sv sw : Nat → LVt} {u_b : Nat → Int32}
theorem XI.e (h : XI S cv mc sv) (e1 : S1.1 = S.1) (e2 : S1.2.1 = S.2.1) : XI S1 cv mc sv := by
  unfold XI sL sH at *
  rw [e1, e2]; exact h
theorem MI.e (h : MI S cv mc sv) (e : sM S1 = sM S) : MI S1 cv mc sv := by
  unfold MI RI SV at *
  rw [e]; exact h
theorem TM.e {u_p u_k : Nat} {u_g : Nat → Int32} (h : TM S u_n u_b u_p u_k u_g) (e : sM S1 = sM S) : TM S1 u_n u_b u_p u_k u_g := by
  unfold TM at *
  rw [e]; exact h
theorem TX.e {u_p : Nat} {u_f : Int32} {u_c : Option Nat} {u_g : Nat → Int32} (h : TX S u_n u_b u_p u_f u_c u_g) (e : S1.2.2.1 = S.2.2.1) : TX S1 u_n u_b u_p u_f u_c u_g := by
  unfold TX sT at *
  rw [e]; exact h
theorem LI.go (h : LI S cv mc sv u_n u_b) (hX : XI S2 cw u_m sw) (hM : MI S2 cw u_m sw) (hG : GOk cw) (hGs : ∀ k, k < u_m → GOk (sw k)) (hT : S2.2.2.1 = S.2.2.1) (hTM : ∃ u_p u_k u_g, TM S2 u_n u_b u_p u_k u_g) : LI S2 cw u_m sw u_n u_b := by
  obtain ⟨_, _, _, _, h5, ⟨u_p, u_f, u_c, u_g, h6⟩, _⟩ := h
  exact ⟨hX, hM, hG, hGs, h5, ⟨u_p, u_f, u_c, u_g, h6.e hT⟩, hTM⟩
theorem LI.tm (h : LI S cv mc sv u_n u_b) (e : sM S1 = sM S) (hk : KM S1 S2) : ∃ u_p u_k u_g, TM S2 u_n u_b u_p u_k u_g := by
  obtain ⟨u_p, u_k, u_g, h7⟩ := h.2.2.2.2.2.2
  exact ⟨u_p, u_k, u_g, (h7.e e).km hk⟩
/-- behind a call that was refused -/
theorem LI.no (h : LI S cv mc sv u_n u_b) (hk : KM S S2) (hM : MI S2 cv mc sv) : LI S2 cv mc sv u_n u_b :=
  h.go (h.1.e hk.1 hk.2.1) hM h.2.2.1 h.2.2.2.1 hk.2.2.1 (h.tm rfl hk)
/-- behind a call that was carried out -/
theorem LI.ok {S0 : ST} {y : Int64} (h : LI S cv mc sv u_n u_b) (hX : XI S0 cw u_m sw) (e0 : S0.2.2 = S.2.2) (e1 : S1 = setO S0 0 y) (hk : KM S1 S2) (hM : MI S2 cw u_m sw) (hG : GOk cw) (hGs : ∀ k, k < u_m → GOk (sw k)) : LI S2 cw u_m sw u_n u_b := by
  subst e1
  have e2 : sM (setO S0 0 y) = sM S := congrArg (fun q => q.2.1) e0
  exact h.go (hX.e hk.1 hk.2.1) hM hG hGs (hk.2.2.1.trans (congrArg (fun q => q.1) e0)) (h.tm e2 hk)
theorem LI.m1 {S0 : ST} {y : Int64} (h : LI S cv mc sv u_n u_b) (e0 : S0.2.2 = S.2.2) (e1 : S1 = setO S0 0 y) : MI S1 cv mc sv := by
  subst e1; exact h.2.1.e (congrArg (fun q => q.2.1) e0)
theorem LI.push (h : LI S cv mc sv u_n u_b) : ∀ k, k < (f_push cv mc sv).1 → GOk ((f_push cv mc sv).2 k) := GOk.push h.2.2.1 h.2.2.2.1 h.2.1.2.2.1
theorem setO_0 {y : Int64} : sO (setO S 0 y) 0 = y := by
  show vp_updL (sO S) 0 y 0 = y
  unfold vp_updL; exact if_pos rfl
end LIs
theorem and31 (x : Int32) : ∃ u_k, u_k < 32 ∧ x &&& 31 = nI u_k := by
  refine ⟨(x &&& 31).toBitVec.toNat, ?_, ?_⟩
  · rw [Int32.toBitVec_and, BitVec.toNat_and]
    exact Nat.lt_of_le_of_lt Nat.and_le_right (by decide)
  · apply Int32.toBitVec_inj.mp
    show _ = BitVec.ofNat 32 _
    rw [BitVec.ofNat_toNat, BitVec.setWidth_eq]
theorem len4 {L t : Nat} (hL : L ≤ 2048) (ht : t ≤ 512) : (nI L - 4 < nI (4 * t)) ↔ ¬ 4 * t + 4 ≤ L := by
  rcases Nat.lt_or_ge L 4 with q | q
  · have h1 : ∀ u_l, u_l < 4 → nI u_l - 4 < 0 := by decide
    exact ⟨fun _ => by omega, fun _ => Int32.lt_of_lt_of_le (h1 L q) (nI_pos' (by omega))⟩
  · rw [show nI L - 4 = nI (L - 4) from sub_nI q, nI_ltI (by omega) (by omega)]
    omega
