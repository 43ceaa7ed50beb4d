/-! MODEL: what if; its text typed (by program) -/
set_option maxHeartbeats 4000000 in
set_option maxRecDepth 100000 in
theorem c_X7_has {l : Launch} {E : GE} (hE : Env0 E) {S : ST} {n : Nat} {z : Nat → Int32} {mm : Nat → Nat → Int32} (hR : RI S n z mm) (p0 : Int32) (P : Nat) (hP : P < n) (eP : f_place (gof n mm) n p0 = nI P) : MR l E yX7_has cX7_has 3 (some .int) 2 45 S [.ref (gA E 84), .int p0] (some (.int (mm P 4 - mm P 1 * f_wait (gof n mm) P))) := by
  have hn := hR.n10
  refine MR.of hE (by decide) (Nat.le_of_ble_eq_true rfl) ?_
  intro p e s m below meth c ls C hJ hr hl
  have hx := C.x
  have hb := C.b
  have hl : lv_has ls 3 [(0, .ref (gA E 84)), (1, .int p0)] := hl
  refine lv_aload_n hx hb dX7_has_0 rfl (lv_at hl 0 rfl) ?_
  refine lv_iload_n hx hb dX7_has_1 rfl (lv_at hl 1 rfl) ?_
  refine cr_X7_45 C hJ (rest := []) (c_X7_find hE hR p0) dX7_has_2 hl.1 ⟨Nat.le_of_ble_eq_true rfl, Nat.le_of_ble_eq_true rfl⟩ ⟨Nat.le_refl _, Nat.le_refl _⟩ (Nat.le_of_ble_eq_true rfl) rfl rfl ?_
  refine lv_istore_n (lv' := [(2, .int (f_place (gof n mm) n p0)), (0, .ref (gA E 84)), (1, .int p0)]) hx hb dX7_has_5 rfl hl (by decide) rfl (fun ls hl => ?_)
  refine lv_aload_n hx hb dX7_has_6 rfl (lv_at hl 1 rfl) ?_
  refine lv_iload_n hx hb dX7_has_7 rfl (lv_at hl 0 rfl) ?_
  refine lv_iconst (v := 4) hx hb dX7_has_8 (by decide) ?_
  refine cr_X7_33 C hJ (rest := []) (cm_of hE hR P 4 hP (by decide) eP) dX7_has_9 hl.1 ⟨Nat.le_of_ble_eq_true rfl, Nat.le_of_ble_eq_true rfl⟩ ⟨Nat.le_refl _, Nat.le_refl _⟩ (Nat.le_of_ble_eq_true rfl) rfl rfl ?_
  refine lv_aload_n hx hb dX7_has_12 rfl (lv_at hl 1 rfl) ?_
  refine lv_iload_n hx hb dX7_has_13 rfl (lv_at hl 0 rfl) ?_
  refine lv_iconst (v := 1) hx hb dX7_has_14 (by decide) ?_
  refine cr_X7_33 C hJ (rest := [.int (mm P 4)]) (cm_of hE hR P 1 hP (by decide) eP) dX7_has_15 hl.1 ⟨Nat.le_of_ble_eq_true rfl, Nat.le_of_ble_eq_true rfl⟩ ⟨Nat.le_refl _, Nat.le_refl _⟩ (Nat.le_of_ble_eq_true rfl) rfl rfl ?_
  refine lv_aload_n hx hb dX7_has_18 rfl (lv_at hl 1 rfl) ?_
  refine lv_iload_n hx hb dX7_has_19 rfl (lv_at hl 0 rfl) ?_
  refine cr_X7_137 C hJ (rest := [.int (mm P 1), .int (mm P 4)]) (cm_waitOf hE hR P (by omega) eP) dX7_has_20 hl.1 ⟨Nat.le_of_ble_eq_true rfl, Nat.le_of_ble_eq_true rfl⟩ ⟨Nat.le_refl _, Nat.le_refl _⟩ (Nat.le_of_ble_eq_true rfl) rfl rfl ?_
  refine lv_imul hx hb dX7_has_23 ?_
  refine lv_isub hx hb dX7_has_24 ?_
  exact rR_i C hr rfl (rfl) dX7_has_25
set_option maxHeartbeats 4000000 in
set_option maxRecDepth 100000 in
theorem c_X7_profitBy {l : Launch} {E : GE} (hE : Env0 E) {S : ST} {n : Nat} {z : Nat → Int32} {mm : Nat → Nat → Int32} {mc : Nat} {sv : Nat → LVt} (hI : MI S (n, z, mm) mc sv) (p0 p1 : Int32) (P : Nat) (hP0 : P < n) (eP : f_place (gof n mm) n p0 = nI P) (e0 : mm P 0 = p0) (fu : Nat) (hSt : Stops n fu z (up2 mm P 2 p1)) : MW l E yX7_profitBy cX7_profitBy 5 (some .int) 5 109 S [.ref (gA E 84), .int p0, .int p1] (fun v S1 => v = some (.int (f_pro fu n z mm P p1)) ∧ MI S1 (n, z, mm) mc sv ∧ KM S S1 ∧ (sM S1).1 2 = (sM S).1 2) := by
  have hM : MmOk n mm := hI.2.1
  have hn : n ≤ 10 := hI.1.n10
  have hQ9 : ∃ Q, Q < n ∧ f_place (gof n (f_set n fu z (up2 mm P 2 p1)).2.2) n p0 = nI Q ∧ (f_set n fu z (up2 mm P 2 p1)).2.2 Q 0 = p0 := place_has hn (set_has hn fu z (up2 mm P 2 p1) ⟨P, hP0, by unfold up2; rw [if_neg (by omega)]; exact e0⟩)
  obtain ⟨Q, hQ, eQ, _⟩ := hQ9
  refine MW.of hE (by decide) (Nat.le_of_ble_eq_true rfl) ?_
  intro p e s m below meth c ls C hJ hr hl
  have hx := C.x
  have hb := C.b
  have hl : lv_has ls 5 [(0, .ref (gA E 84)), (1, .int p0), (2, .int p1)] := hl
  refine lv_aload_n hx hb dX7_profitBy_0 rfl (lv_at hl 0 rfl) ?_
  refine lv_iload_n hx hb dX7_profitBy_1 rfl (lv_at hl 1 rfl) ?_
  refine cr_X7_164 C hJ (rest := []) (c_X7_has hE hI.1 p0 P hP0 eP) dX7_profitBy_2 hl.1 ⟨Nat.le_of_ble_eq_true rfl, Nat.le_of_ble_eq_true rfl⟩ ⟨Nat.le_refl _, Nat.le_refl _⟩ (Nat.le_of_ble_eq_true rfl) rfl rfl ?_
  refine lv_istore_n (lv' := [(3, .int (mm P 4 - mm P 1 * f_wait (gof n mm) P)), (0, .ref (gA E 84)), (1, .int p0), (2, .int p1)]) hx hb dX7_profitBy_5 rfl hl (by decide) rfl (fun ls hl => ?_)
  refine lv_aload_n hx hb dX7_profitBy_6 rfl (lv_at hl 1 rfl) ?_
  refine cw_X7_158 C hJ (rest := []) (c_X7_putAside hE) dX7_profitBy_7 hl.1 ⟨Nat.le_of_ble_eq_true rfl, Nat.le_of_ble_eq_true rfl⟩ ⟨Nat.le_refl _, Nat.le_refl _⟩ (Nat.le_of_ble_eq_true rfl) rfl rfl (fun vr S_7 H locs hP hJ => ?_)
  obtain ⟨rfl, w_7⟩ := hP
  obtain ⟨hI_7, hA_7⟩ := hI.aside w_7
  have hK_7 := KM.rw w_7
  have ht_7 := congrFun w_7.2.2.2.1 2
  refine lv_aload_n hx hb dX7_profitBy_10 rfl (lv_at hl 1 rfl) ?_
  refine lv_iload_n hx hb dX7_profitBy_11 rfl (lv_at hl 2 rfl) ?_
  refine lv_iload_n hx hb dX7_profitBy_12 rfl (lv_at hl 3 rfl) ?_
  refine cw_X7_80 C hJ (rest := []) (c_X7_says hE hI_7.1 p0 p1 P hP0 eP) dX7_profitBy_13 hl.1 ⟨Nat.le_of_ble_eq_true rfl, Nat.le_of_ble_eq_true rfl⟩ ⟨Nat.le_refl _, Nat.le_refl _⟩ (Nat.le_of_ble_eq_true rfl) rfl rfl (fun vr S_13 H locs hP hJ => ?_)
  obtain ⟨rfl, hR_13, ho_13⟩ := hP
  have hL_13 : LR S_7 S_13 (n, z, (up2 mm P 2 p1)) := ⟨hR_13, hM.up (by decide), ho_13⟩
  have hI_13 := hI_7.lr hL_13
  have hK_13 := hK_7.t hL_13.th.1
  have ht_13 := hL_13.th.2.trans ht_7
  have hA_13 := hA_7.ro ho_13
  refine lv_pop hx hb dX7_profitBy_16 rfl ?_
  refine lv_aload_n hx hb dX7_profitBy_17 rfl (lv_at hl 1 rfl) ?_
  refine cw_X7_134 C hJ (rest := []) (c_X7_settles hE hI_13.1 (hM.up (by decide)) fu hSt) dX7_profitBy_18 hl.1 ⟨Nat.le_of_ble_eq_true rfl, Nat.le_of_ble_eq_true rfl⟩ ⟨Nat.le_refl _, Nat.le_refl _⟩ (Nat.le_of_ble_eq_true rfl) rfl rfl (fun vr S_18 H locs hP hJ => ?_)
  obtain ⟨rfl, hR_18, hM_18, ho_18⟩ := hP
  have hL_18 : LR S_13 S_18 (n, (f_set n fu z (up2 mm P 2 p1)).2.1, (f_set n fu z (up2 mm P 2 p1)).2.2) := ⟨hR_18, hM_18, ho_18⟩
  have hI_18 := hI_13.lr hL_18
  have hK_18 := hK_13.t hL_18.th.1
  have ht_18 := hL_18.th.2.trans ht_13
  have hA_18 := hA_13.ro ho_18
  refine lv_pop hx hb dX7_profitBy_21 rfl ?_
  refine lv_aload_n hx hb dX7_profitBy_22 rfl (lv_at hl 1 rfl) ?_
  refine lv_iload_n hx hb dX7_profitBy_23 rfl (lv_at hl 2 rfl) ?_
  refine cr_X7_164 C hJ (rest := []) (c_X7_has hE hI_18.1 p0 Q hQ eQ) dX7_profitBy_24 hl.1 ⟨Nat.le_of_ble_eq_true rfl, Nat.le_of_ble_eq_true rfl⟩ ⟨Nat.le_refl _, Nat.le_refl _⟩ (Nat.le_of_ble_eq_true rfl) rfl rfl ?_
  refine lv_iload_n hx hb dX7_profitBy_27 rfl (lv_at hl 0 rfl) ?_
  refine lv_isub hx hb dX7_profitBy_28 ?_
  refine lv_istore (lv' := [(4, .int (((f_set n fu z (up2 mm P 2 p1)).2.2 Q 4 - (f_set n fu z (up2 mm P 2 p1)).2.2 Q 1 * f_wait (gof n (f_set n fu z (up2 mm P 2 p1)).2.2) Q) - (mm P 4 - mm P 1 * f_wait (gof n mm) P))), (3, .int (mm P 4 - mm P 1 * f_wait (gof n mm) P)), (0, .ref (gA E 84)), (1, .int p0), (2, .int p1)]) hx hb dX7_profitBy_29 hl (by decide) rfl (fun ls hl => ?_)
  refine lv_aload_n hx hb dX7_profitBy_31 rfl (lv_at hl 2 rfl) ?_
  refine cw_X7_161 C hJ (rest := []) (c_X7_comesBack hE) dX7_profitBy_32 hl.1 ⟨Nat.le_of_ble_eq_true rfl, Nat.le_of_ble_eq_true rfl⟩ ⟨Nat.le_refl _, Nat.le_refl _⟩ (Nat.le_of_ble_eq_true rfl) rfl rfl (fun vr S_32 H locs hP hJ => ?_)
  obtain ⟨rfl, w_32⟩ := hP
  have hI_32 := hI_18.back hA_18 hM w_32
  have hK_32 := hK_18.t (KM.rw w_32)
  have ht_32 := (congrFun w_32.2.2.2.1 2).trans ht_18
  refine lv_iload hx hb dX7_profitBy_35 (lv_at hl 0 rfl) ?_
  exact rW_i C hJ hr rfl (⟨by rw [pro_eq hn hP0 hQ (by rw [e0]; exact eQ)], hI_32, hK_32, ht_32⟩) dX7_profitBy_37
set_option maxHeartbeats 4000000 in
set_option maxRecDepth 100000 in
theorem c_X7_profit {l : Launch} {E : GE} (hE : Env0 E) {S : ST} {n : Nat} {z : Nat → Int32} {mm : Nat → Nat → Int32} {mc : Nat} {sv : Nat → LVt} (hI : MI S (n, z, mm) mc sv) (p0 p1 : Int32) (fu : Nat) (hSt : f_in p1 0 99 = true → ∀ P, P < n → Stops n fu z (up2 mm P 2 p1)) : MW l E yX7_profit cX7_profit 3 (some .int) 6 133 S [.ref (gA E 84), .int p0, .int p1] (fun v S1 => MP S S1 v (f_mf (f_place (gof n mm) n p0) (bI (f_in p1 0 99))) (f_pro fu n z mm (f_place (gof n mm) n p0).toNatClampNeg p1) (n, z, mm) mc sv (n, z, mm) mc sv) := by
  have hM : MmOk n mm := hI.2.1
  have hn : n ≤ 10 := hI.1.n10
  refine MW.of hE (by decide) (Nat.le_of_ble_eq_true rfl) ?_
  intro p e s m below meth c ls C hJ hr hl
  have hx := C.x
  have hb := C.b
  have hl : lv_has ls 3 [(0, .ref (gA E 84)), (1, .int p0), (2, .int p1)] := hl
  refine lv_aload_n hx hb dX7_profit_0 rfl (lv_at hl 0 rfl) ?_
  refine lv_aload_n hx hb dX7_profit_1 rfl (lv_at hl 0 rfl) ?_
  refine lv_iload_n hx hb dX7_profit_2 rfl (lv_at hl 1 rfl) ?_
  refine lv_iload_n hx hb dX7_profit_3 rfl (lv_at hl 2 rfl) ?_
  refine cr_X7_77 C hJ (rest := [.ref (gA E 84)]) (c_X7_whyNotSay hE hI.1 p0 p1) dX7_profit_4 hl.1 ⟨Nat.le_of_ble_eq_true rfl, Nat.le_of_ble_eq_true rfl⟩ ⟨Nat.le_refl _, Nat.le_refl _⟩ (Nat.le_of_ble_eq_true rfl) rfl rfl ?_
  refine cw_X7_56 C hJ (rest := []) (cm_refuse hE hI (f_mf (f_place (gof n mm) n p0) (bI (f_in p1 0 99)))) dX7_profit_7 hl.1 ⟨Nat.le_of_ble_eq_true rfl, Nat.le_of_ble_eq_true rfl⟩ ⟨Nat.le_refl _, Nat.le_refl _⟩ (Nat.le_of_ble_eq_true rfl) rfl rfl (fun vr S_7 H locs hP hJ => ?_)
  obtain ⟨rfl, hI_7, hK_7, ht_7⟩ := hP
  refine lv_if_eq (tgt := 15) hx hb dX7_profit_10 (by decide) (fun c_10 => ?_) (fun c_10 => ?_)
  · skip
    have hf := ref0 c_10
    obtain ⟨P, hP0, eP, e0⟩ := mf_in hf
    rw [gof_in mm hn hP0] at e0
    have q9 : f_in p1 0 99 = true := by
      rcases Bool.eq_false_or_eq_true (f_in p1 0 99) with q | q
      · exact q
      · exfalso; have y := hf; rw [q] at y; unfold f_mf at y; rw [eP, if_neg (nI_m1 (by omega))] at y; exact absurd y (by decide)
    refine lv_aload_n hx hb dX7_profit_15 rfl (lv_at hl 0 rfl) ?_
    refine lv_iload_n hx hb dX7_profit_16 rfl (lv_at hl 1 rfl) ?_
    refine lv_iload_n hx hb dX7_profit_17 rfl (lv_at hl 2 rfl) ?_
    refine cw_X7_167 C hJ (rest := []) (c_X7_profitBy hE hI_7 p0 p1 P hP0 eP e0 fu (hSt q9 P hP0)) dX7_profit_18 hl.1 ⟨Nat.le_of_ble_eq_true rfl, Nat.le_of_ble_eq_true rfl⟩ ⟨Nat.le_refl _, Nat.le_refl _⟩ (Nat.le_of_ble_eq_true rfl) rfl rfl (fun vr S_18 H locs hP hJ => ?_)
    obtain ⟨rfl, hI_18, hKa, hta⟩ := hP
    have hK_18 := hK_7.t hKa
    have ht_18 := hta.trans ht_7
    exact rW_i C hJ hr rfl (MP.ok hf (by rw [eP, nI_clamp (by omega)]) hI_18 hK_18 ht_18) dX7_profit_21
  · skip
    have hf := ref1 c_10
    refine lv_iconst (v := 0) hx hb dX7_profit_13 (by decide) ?_
    exact rW_i C hJ hr rfl (MP.bad hf hI_7 hK_7 ht_7) dX7_profit_14
set_option maxHeartbeats 4000000 in
set_option maxRecDepth 100000 in
theorem c_X7_settledPlace {l : Launch} {E : GE} (hE : Env0 E) {S : ST} {n : Nat} {z : Nat → Int32} {mm : Nat → Nat → Int32} {mc : Nat} {sv : Nat → LVt} (hI : MI S (n, z, mm) mc sv) (p0 : Int32) (fu : Nat) (hSt : Stops n fu z mm) : MW l E yX7_settledPlace cX7_settledPlace 3 (some .int) 5 109 S [.ref (gA E 84), .int p0] (fun v S1 => MP S S1 v (f_mf (f_place (gof n mm) n p0) 1) (f_place (gof n (f_set n fu z mm).2.2) n p0) (n, z, mm) mc sv (n, z, mm) mc sv) := by
  have hM : MmOk n mm := hI.2.1
  have hn : n ≤ 10 := hI.1.n10
  refine MW.of hE (by decide) (Nat.le_of_ble_eq_true rfl) ?_
  intro p e s m below meth c ls C hJ hr hl
  have hx := C.x
  have hb := C.b
  have hl : lv_has ls 3 [(0, .ref (gA E 84)), (1, .int p0)] := hl
  refine lv_aload_n hx hb dX7_settledPlace_0 rfl (lv_at hl 0 rfl) ?_
  refine lv_aload_n hx hb dX7_settledPlace_1 rfl (lv_at hl 0 rfl) ?_
  refine lv_iload_n hx hb dX7_settledPlace_2 rfl (lv_at hl 1 rfl) ?_
  refine cr_X7_66 C hJ (rest := [.ref (gA E 84)]) (c_X7_whyNoMember hE hI.1 p0) dX7_settledPlace_3 hl.1 ⟨Nat.le_of_ble_eq_true rfl, Nat.le_of_ble_eq_true rfl⟩ ⟨Nat.le_refl _, Nat.le_refl _⟩ (Nat.le_of_ble_eq_true rfl) rfl rfl ?_
  refine cw_X7_56 C hJ (rest := []) (cm_refuse hE hI (f_mf (f_place (gof n mm) n p0) 1)) dX7_settledPlace_6 hl.1 ⟨Nat.le_of_ble_eq_true rfl, Nat.le_of_ble_eq_true rfl⟩ ⟨Nat.le_refl _, Nat.le_refl _⟩ (Nat.le_of_ble_eq_true rfl) rfl rfl (fun vr S_6 H locs hP hJ => ?_)
  obtain ⟨rfl, hI_6, hK_6, ht_6⟩ := hP
  refine lv_if_eq (tgt := 14) hx hb dX7_settledPlace_9 (by decide) (fun c_9 => ?_) (fun c_9 => ?_)
  · skip
    have hf := ref0 c_9
    refine lv_aload_n hx hb dX7_settledPlace_14 rfl (lv_at hl 0 rfl) ?_
    refine cw_X7_158 C hJ (rest := []) (c_X7_putAside hE) dX7_settledPlace_15 hl.1 ⟨Nat.le_of_ble_eq_true rfl, Nat.le_of_ble_eq_true rfl⟩ ⟨Nat.le_refl _, Nat.le_refl _⟩ (Nat.le_of_ble_eq_true rfl) rfl rfl (fun vr S_15 H locs hP hJ => ?_)
    obtain ⟨rfl, w_15⟩ := hP
    obtain ⟨hI_15, hA_15⟩ := hI_6.aside w_15
    have hK_15 := hK_6.t (KM.rw w_15)
    have ht_15 := (congrFun w_15.2.2.2.1 2).trans ht_6
    refine lv_aload_n hx hb dX7_settledPlace_18 rfl (lv_at hl 0 rfl) ?_
    refine cw_X7_134 C hJ (rest := []) (c_X7_settles hE hI_15.1 hM fu hSt) dX7_settledPlace_19 hl.1 ⟨Nat.le_of_ble_eq_true rfl, Nat.le_of_ble_eq_true rfl⟩ ⟨Nat.le_refl _, Nat.le_refl _⟩ (Nat.le_of_ble_eq_true rfl) rfl rfl (fun vr S_19 H locs hP hJ => ?_)
    obtain ⟨rfl, hR_19, hM_19, ho_19⟩ := hP
    have hL_19 : LR S_15 S_19 (n, (f_set n fu z mm).2.1, (f_set n fu z mm).2.2) := ⟨hR_19, hM_19, ho_19⟩
    have hI_19 := hI_15.lr hL_19
    have hK_19 := hK_15.t hL_19.th.1
    have ht_19 := hL_19.th.2.trans ht_15
    have hA_19 := hA_15.ro ho_19
    refine lv_pop hx hb dX7_settledPlace_22 rfl ?_
    refine lv_aload_n hx hb dX7_settledPlace_23 rfl (lv_at hl 0 rfl) ?_
    refine lv_iload_n hx hb dX7_settledPlace_24 rfl (lv_at hl 1 rfl) ?_
    refine cr_X7_45 C hJ (rest := []) (c_X7_find hE hI_19.1 p0) dX7_settledPlace_25 hl.1 ⟨Nat.le_of_ble_eq_true rfl, Nat.le_of_ble_eq_true rfl⟩ ⟨Nat.le_refl _, Nat.le_refl _⟩ (Nat.le_of_ble_eq_true rfl) rfl rfl ?_
    refine lv_istore_n (lv' := [(2, .int (f_place (gof n (f_set n fu z mm).2.2) n p0)), (0, .ref (gA E 84)), (1, .int p0)]) hx hb dX7_settledPlace_28 rfl hl (by decide) rfl (fun ls hl => ?_)
    refine lv_aload_n hx hb dX7_settledPlace_29 rfl (lv_at hl 1 rfl) ?_
    refine cw_X7_161 C hJ (rest := []) (c_X7_comesBack hE) dX7_settledPlace_30 hl.1 ⟨Nat.le_of_ble_eq_true rfl, Nat.le_of_ble_eq_true rfl⟩ ⟨Nat.le_refl _, Nat.le_refl _⟩ (Nat.le_of_ble_eq_true rfl) rfl rfl (fun vr S_30 H locs hP hJ => ?_)
    obtain ⟨rfl, w_30⟩ := hP
    have hI_30 := hI_19.back hA_19 hM w_30
    have hK_30 := hK_19.t (KM.rw w_30)
    have ht_30 := (congrFun w_30.2.2.2.1 2).trans ht_19
    refine lv_iload_n hx hb dX7_settledPlace_33 rfl (lv_at hl 0 rfl) ?_
    exact rW_i C hJ hr rfl (MP.ok hf rfl hI_30 hK_30 ht_30) dX7_settledPlace_34
  · skip
    have hf := ref1 c_9
    refine lv_iconst (v := 0) hx hb dX7_settledPlace_12 (by decide) ?_
    exact rW_i C hJ hr rfl (MP.bad hf hI_6 hK_6 ht_6) dX7_settledPlace_13
set_option maxHeartbeats 4000000 in
set_option maxRecDepth 100000 in
theorem c_X7_bestLie {l : Launch} {E : GE} (hE : Env0 E) {S : ST} {n : Nat} {z : Nat → Int32} {mm : Nat → Nat → Int32} {mc : Nat} {sv : Nat → LVt} (hI : MI S (n, z, mm) mc sv) (p0 : Int32) (fu : Nat) (hSt : ∀ P, P < n → ∀ w, w < 100 → Stops n fu z (up2 mm P 2 (nI w))) : MW l E yX7_bestLie cX7_bestLie 6 (some .int) 6 133 S [.ref (gA E 84), .int p0] (fun v S1 => MP S S1 v (f_mf (f_place (gof n mm) n p0) 1) ((t_lie (fun w => f_pro fu n z mm (f_place (gof n mm) n p0).toNatClampNeg (nI w)) 99).2) (n, z, mm) mc sv (n, z, mm) mc sv) := by
  have hM : MmOk n mm := hI.2.1
  have hn : n ≤ 10 := hI.1.n10
  refine MW.of hE (by decide) (Nat.le_of_ble_eq_true rfl) ?_
  intro p e s m below meth c ls C hJ hr hl
  have hx := C.x
  have hb := C.b
  have hl : lv_has ls 6 [(0, .ref (gA E 84)), (1, .int p0)] := hl
  refine lv_aload_n hx hb dX7_bestLie_0 rfl (lv_at hl 0 rfl) ?_
  refine lv_aload_n hx hb dX7_bestLie_1 rfl (lv_at hl 0 rfl) ?_
  refine lv_iload_n hx hb dX7_bestLie_2 rfl (lv_at hl 1 rfl) ?_
  refine cr_X7_66 C hJ (rest := [.ref (gA E 84)]) (c_X7_whyNoMember hE hI.1 p0) dX7_bestLie_3 hl.1 ⟨Nat.le_of_ble_eq_true rfl, Nat.le_of_ble_eq_true rfl⟩ ⟨Nat.le_refl _, Nat.le_refl _⟩ (Nat.le_of_ble_eq_true rfl) rfl rfl ?_
  refine cw_X7_56 C hJ (rest := []) (cm_refuse hE hI (f_mf (f_place (gof n mm) n p0) 1)) dX7_bestLie_6 hl.1 ⟨Nat.le_of_ble_eq_true rfl, Nat.le_of_ble_eq_true rfl⟩ ⟨Nat.le_refl _, Nat.le_refl _⟩ (Nat.le_of_ble_eq_true rfl) rfl rfl (fun vr S_6 H locs hP hJ => ?_)
  obtain ⟨rfl, hI_6, hK_6, ht_6⟩ := hP
  refine lv_if_eq (tgt := 14) hx hb dX7_bestLie_9 (by decide) (fun c_9 => ?_) (fun c_9 => ?_)
  · skip
    have hf := ref0 c_9
    obtain ⟨P, hP0, eP, e0⟩ := mf_in hf
    rw [gof_in mm hn hP0] at e0
    refine lv_iconst (v := 0) hx hb dX7_bestLie_14 (by decide) ?_
    refine lv_istore_n (lv' := [(2, .int 0), (0, .ref (gA E 84)), (1, .int p0)]) hx hb dX7_bestLie_15 rfl hl (by decide) rfl (fun ls hl => ?_)
    refine lv_aload_n hx hb dX7_bestLie_16 rfl (lv_at hl 1 rfl) ?_
    refine lv_iload_n hx hb dX7_bestLie_17 rfl (lv_at hl 2 rfl) ?_
    refine lv_iconst (v := 0) hx hb dX7_bestLie_18 (by decide) ?_
    refine cw_X7_167 C hJ (rest := []) (c_X7_profitBy hE hI_6 p0 (0) P hP0 eP e0 fu (hSt P hP0 0 (by decide))) dX7_bestLie_19 hl.1 ⟨Nat.le_of_ble_eq_true rfl, Nat.le_of_ble_eq_true rfl⟩ ⟨Nat.le_refl _, Nat.le_refl _⟩ (Nat.le_of_ble_eq_true rfl) rfl rfl (fun vr S_19 H locs hP hJ => ?_)
    obtain ⟨rfl, hI_19, hKa_19, hta_19⟩ := hP
    have hK_19 := hK_6.t hKa_19
    have ht_19 := hta_19.trans ht_6
    refine lv_istore_n (lv' := [(3, .int (f_pro fu n z mm P 0)), (2, .int 0), (0, .ref (gA E 84)), (1, .int p0)]) hx hb dX7_bestLie_22 rfl hl (by decide) rfl (fun ls hl => ?_)
    refine lv_iconst (v := 1) hx hb dX7_bestLie_23 (by decide) ?_
    refine lv_istore (lv' := [(4, .int 1), (3, .int (f_pro fu n z mm P 0)), (2, .int 0), (0, .ref (gA E 84)), (1, .int p0)]) hx hb dX7_bestLie_24 hl (by decide) rfl (fun ls hl => ?_)
    have lp : ∀ (d : Nat) (i : Nat) (xb xm : Int32) (T : ST) (H : Heap) (locs : List Loc) (ls : Array Slot), (1 ≤ i ∧ i ≤ 100) → (100 < i + d) → (t_lie (fun w => f_pro fu n z mm P (nI w)) (i - 1) = (xm, xb)) → (MI T (n, z, mm) mc sv) → (KM S T) → ((sM T).1 2 = f_mf (f_place (gof n mm) n p0) 1) → JJ E T H locs → lv_has ls 6 [(0, .ref (gA E 84)), (1, .int p0), (2, .int xb), (3, .int xm), (4, .int (nI i))] → W p l e (rmZ 6 133) s m ([.ref (gA E 84), .int p0] : List Value).toArray below meth c H locs 0 0 (WQ below ([.ref (gA E 84), .int p0] : List Value).toArray s E (fun v S1 => MP S S1 v (f_mf (f_place (gof n mm) n p0) 1) ((t_lie (fun w => f_pro fu n z mm (f_place (gof n mm) n p0).toNatClampNeg (nI w)) 99).2) (n, z, mm) mc sv (n, z, mm) mc sv)) (F0 m 26 ls []) := by
      intro d
      induction d with
      | zero =>
        intro i xb xm T H locs ls hi hd hv hI7 hK7 ht7 hJ hl
        omega
      | succ d ih_lp =>
        intro i xb xm T H locs ls hi hd hv hI7 hK7 ht7 hJ hl
        refine lv_iload hx hb dX7_bestLie_26 (lv_at hl 4 rfl) ?_
        refine lv_bipush (v := 100) hx hb dX7_bestLie_28 (by decide) ?_
        refine lv_icmp_ge (tgt := 74) hx hb dX7_bestLie_30 (by decide) (fun c_30 => ?_) (fun c_30 => ?_)
        · skip
          have e9 : i = 100 := by
            have := (nI_leI (a := 100) (b := i) (by omega) (by omega)).mp c_30
            omega
          have hfin : t_lie (fun w => f_pro fu n z mm P (nI w)) 99 = (xm, xb) := by rw [e9] at hv; exact hv
          refine lv_iload_n hx hb dX7_bestLie_74 rfl (lv_at hl 2 rfl) ?_
          exact rW_i C hJ hr rfl (MP.ok hf (by rw [eP, nI_clamp (by omega), hfin]) hI7 hK7 ht7) dX7_bestLie_75
        · skip
          have hlt : i < 100 := by
            rcases Nat.lt_or_ge i 100 with q | q
            · exact q
            · exact absurd (nI_le (a := 100) (b := i) q (by omega)) c_30
          have hu := lie_s hv
          rw [show i - 1 + 1 = i by omega] at hu
          refine lv_aload_n hx hb dX7_bestLie_33 rfl (lv_at hl 0 rfl) ?_
          refine lv_iload_n hx hb dX7_bestLie_34 rfl (lv_at hl 1 rfl) ?_
          refine lv_iload hx hb dX7_bestLie_35 (lv_at hl 4 rfl) ?_
          refine cw_X7_167 C hJ (rest := []) (c_X7_profitBy hE hI7 p0 (nI i) P hP0 eP e0 fu (hSt P hP0 i hlt)) dX7_bestLie_37 hl.1 ⟨Nat.le_of_ble_eq_true rfl, Nat.le_of_ble_eq_true rfl⟩ ⟨Nat.le_refl _, Nat.le_refl _⟩ (Nat.le_of_ble_eq_true rfl) rfl rfl (fun vr S_37 H locs hP hJ => ?_)
          obtain ⟨rfl, hI_37, hKa_37, hta_37⟩ := hP
          have hK_37 := hK7.t hKa_37
          have ht_37 := hta_37.trans ht7
          refine lv_istore (lv' := [(5, .int (f_pro fu n z mm P (nI i))), (0, .ref (gA E 84)), (1, .int p0), (2, .int xb), (3, .int xm), (4, .int (nI i))]) hx hb dX7_bestLie_40 hl (by decide) rfl (fun ls hl => ?_)
          refine lv_iload hx hb dX7_bestLie_42 (lv_at hl 0 rfl) ?_
          refine lv_iload_n hx hb dX7_bestLie_44 rfl (lv_at hl 4 rfl) ?_
          refine lv_icmp_le (tgt := 53) hx hb dX7_bestLie_45 (by decide) (fun c_45 => ?_) (fun c_45 => ?_)
          · skip
            have hle := c_45
            refine lv_iload_n hx hb dX7_bestLie_53 rfl (lv_at hl 3 rfl) ?_
            refine lv_istore_n (lv' := [(2, .int xb), (5, .int (f_pro fu n z mm P (nI i))), (0, .ref (gA E 84)), (1, .int p0), (3, .int xm), (4, .int (nI i))]) hx hb dX7_bestLie_54 rfl hl (by decide) rfl (fun ls hl => ?_)
            refine lv_iload hx hb dX7_bestLie_55 (lv_at hl 1 rfl) ?_
            refine lv_iload_n hx hb dX7_bestLie_57 rfl (lv_at hl 4 rfl) ?_
            refine lv_icmp_le (tgt := 66) hx hb dX7_bestLie_58 (by decide) (fun c_58 => ?_) (fun c_58 => ?_)
            · skip
              have hv2 : t_lie (fun w => f_pro fu n z mm P (nI w)) (i + 1 - 1) = (xm, xb) := by rw [show i + 1 - 1 = i by omega, hu, if_pos c_58]
              refine lv_iload_n hx hb dX7_bestLie_66 rfl (lv_at hl 4 rfl) ?_
              refine lv_istore_n (lv' := [(3, .int xm), (2, .int xb), (5, .int (f_pro fu n z mm P (nI i))), (0, .ref (gA E 84)), (1, .int p0), (4, .int (nI i))]) hx hb dX7_bestLie_67 rfl hl (by decide) rfl (fun ls hl => ?_)
              refine lv_iinc (v := nI (i + 1)) (lv' := [(4, .int (nI (i + 1))), (3, .int xm), (2, .int xb), (5, .int (f_pro fu n z mm P (nI i))), (0, .ref (gA E 84)), (1, .int p0)]) hx hb dX7_bestLie_68 hl (k := 5) rfl (by exact nI_1 i) (by decide) rfl (fun ls hl => ?_)
              refine lv_goto (tgt := 26) hx hb dX7_bestLie_71 (by decide) ?_
              exact ih_lp (i + 1) _ _ S_37 H locs _ ⟨by omega, by omega⟩ (by omega) hv2 hI_37 hK_37 ht_37 hJ (lv_sub hl [4, 5, 2, 1, 0] rfl)
            · skip
              exact absurd c_45 c_58
          · skip
            have hnle := c_45
            refine lv_iload hx hb dX7_bestLie_48 (lv_at hl 5 rfl) ?_
            refine lv_goto (tgt := 54) hx hb dX7_bestLie_50 (by decide) ?_
            refine lv_istore_n (lv' := [(2, .int (nI i)), (5, .int (f_pro fu n z mm P (nI i))), (0, .ref (gA E 84)), (1, .int p0), (3, .int xm), (4, .int (nI i))]) hx hb dX7_bestLie_54 rfl hl (by decide) rfl (fun ls hl => ?_)
            refine lv_iload hx hb dX7_bestLie_55 (lv_at hl 1 rfl) ?_
            refine lv_iload_n hx hb dX7_bestLie_57 rfl (lv_at hl 4 rfl) ?_
            refine lv_icmp_le (tgt := 66) hx hb dX7_bestLie_58 (by decide) (fun c_58 => ?_) (fun c_58 => ?_)
            · skip
              exact absurd c_58 c_45
            · skip
              have hv2 : t_lie (fun w => f_pro fu n z mm P (nI w)) (i + 1 - 1) = (f_pro fu n z mm P (nI i), nI i) := by rw [show i + 1 - 1 = i by omega, hu, if_neg c_58]
              refine lv_iload hx hb dX7_bestLie_61 (lv_at hl 1 rfl) ?_
              refine lv_goto (tgt := 67) hx hb dX7_bestLie_63 (by decide) ?_
              refine lv_istore_n (lv' := [(3, .int (f_pro fu n z mm P (nI i))), (2, .int (nI i)), (5, .int (f_pro fu n z mm P (nI i))), (0, .ref (gA E 84)), (1, .int p0), (4, .int (nI i))]) hx hb dX7_bestLie_67 rfl hl (by decide) rfl (fun ls hl => ?_)
              refine lv_iinc (v := nI (i + 1)) (lv' := [(4, .int (nI (i + 1))), (3, .int (f_pro fu n z mm P (nI i))), (2, .int (nI i)), (5, .int (f_pro fu n z mm P (nI i))), (0, .ref (gA E 84)), (1, .int p0)]) hx hb dX7_bestLie_68 hl (k := 5) rfl (by exact nI_1 i) (by decide) rfl (fun ls hl => ?_)
              refine lv_goto (tgt := 26) hx hb dX7_bestLie_71 (by decide) ?_
              exact ih_lp (i + 1) _ _ S_37 H locs _ ⟨by omega, by omega⟩ (by omega) hv2 hI_37 hK_37 ht_37 hJ (lv_sub hl [4, 5, 2, 1, 0] rfl)
    exact lp 100 1 0 _ S_19 H locs _ ⟨by omega, by omega⟩ (by omega) rfl hI_19 hK_19 ht_19 hJ (lv_sub hl [3, 4, 2, 1, 0] rfl)
  · skip
    have hf := ref1 c_9
    refine lv_iconst (v := 0) hx hb dX7_bestLie_12 (by decide) ?_
    exact rW_i C hJ hr rfl (MP.bad hf hI_6 hK_6 ht_6) dX7_bestLie_13
set_option maxHeartbeats 4000000 in
set_option maxRecDepth 100000 in
theorem c_X7_honestCost {l : Launch} {E : GE} (hE : Env0 E) {S : ST} {n : Nat} {z : Nat → Int32} {mm : Nat → Nat → Int32} {mc : Nat} {sv : Nat → LVt} (hI : MI S (n, z, mm) mc sv) (fu : Nat) (hSt : Stops n fu z (mtruth mm)) : MW l E yX7_honestCost cX7_honestCost 2 (some .int) 5 109 S [.ref (gA E 84)] (fun v S1 => MP S S1 v 0 (f_hon fu n z mm) (n, z, mm) mc sv (n, z, mm) mc sv) := by
  have hM : MmOk n mm := hI.2.1
  have hn : n ≤ 10 := hI.1.n10
  refine MW.of hE (by decide) (Nat.le_of_ble_eq_true rfl) ?_
  intro p e s m below meth c ls C hJ hr hl
  have hx := C.x
  have hb := C.b
  have hl : lv_has ls 2 [(0, .ref (gA E 84))] := hl
  refine lv_aload_n hx hb dX7_honestCost_0 rfl (lv_at hl 0 rfl) ?_
  refine lv_iconst (v := 0) hx hb dX7_honestCost_1 (by decide) ?_
  refine p_X7_22 C hJ dX7_honestCost_2 (fun H locs hJ => ?_)
  obtain ⟨S_2, hS_2⟩ : ∃ z : ST, z = setM S (mMs (sM S) 2 0) := ⟨_, rfl⟩
  rw [← hS_2] at hJ
  have hI_2 : MI S_2 (n, z, mm) mc sv := by rw [hS_2]; exact hI.th 0
  have hK_2 : KM S S_2 := by rw [hS_2]; exact KM.th
  have ht_2 : (sM S_2).1 2 = 0 := by rw [hS_2]; rfl
  refine lv_aload_n hx hb dX7_honestCost_5 rfl (lv_at hl 0 rfl) ?_
  refine cw_X7_158 C hJ (rest := []) (c_X7_putAside hE) dX7_honestCost_6 hl.1 ⟨Nat.le_of_ble_eq_true rfl, Nat.le_of_ble_eq_true rfl⟩ ⟨Nat.le_refl _, Nat.le_refl _⟩ (Nat.le_of_ble_eq_true rfl) rfl rfl (fun vr S_6 H locs hP hJ => ?_)
  obtain ⟨rfl, w_6⟩ := hP
  obtain ⟨hI_6, hA_6⟩ := hI_2.aside w_6
  have hK_6 := hK_2.t (KM.rw w_6)
  have ht_6 := (congrFun w_6.2.2.2.1 2).trans ht_2
  refine lv_iconst (v := 0) hx hb dX7_honestCost_9 (by decide) ?_
  refine lv_istore_n (lv' := [(1, .int 0), (0, .ref (gA E 84))]) hx hb dX7_honestCost_10 rfl hl (by decide) rfl (fun ls hl => ?_)
  have lp : ∀ (d : Nat) (i : Nat) (T : ST) (H : Heap) (locs : List Loc) (ls : Array Slot), (i ≤ n) → (n < i + d) → (MI T (n, z, mtr mm i) mc sv) → (AS T (n, z, mm)) → (KM S T) → ((sM T).1 2 = 0) → JJ E T H locs → lv_has ls 2 [(0, .ref (gA E 84)), (1, .int (nI i))] → W p l e (rmZ 5 109) s m ([.ref (gA E 84)] : List Value).toArray below meth c H locs 0 0 (WQ below ([.ref (gA E 84)] : List Value).toArray s E (fun v S1 => MP S S1 v 0 (f_hon fu n z mm) (n, z, mm) mc sv (n, z, mm) mc sv)) (F0 m 11 ls []) := by
    intro d
    induction d with
    | zero =>
      intro i T H locs ls hi hd hI7 hA7 hK7 ht7 hJ hl
      omega
    | succ d ih_lp =>
      intro i T H locs ls hi hd hI7 hA7 hK7 ht7 hJ hl
      refine lv_iload_n hx hb dX7_honestCost_11 rfl (lv_at hl 1 rfl) ?_
      refine lv_aload_n hx hb dX7_honestCost_12 rfl (lv_at hl 0 rfl) ?_
      refine g_X7_7 C hJ dX7_honestCost_13 ?_
      refine lv_iconst (v := 0) hx hb dX7_honestCost_16 (by decide) ?_
      refine a_ro C hJ (P := 0) (rfl) (by decide) dX7_honestCost_17 ?_
      refine lv_icmp_ge (tgt := 39) hx hb dX7_honestCost_18 (by decide) (fun c_18 => ?_) (fun c_18 => ?_)
      · skip
        have e9 : i = n := eqOfLe hi (by omega) (by have q := c_18; rw [hI7.1.many] at q; exact q)
        rw [e9] at hI7
        have hIT : MI T (n, z, mtruth mm) mc sv := ⟨RI.trE hI7.1, hM.tru, hI7.2.2⟩
        refine lv_aload_n hx hb dX7_honestCost_39 rfl (lv_at hl 0 rfl) ?_
        refine cw_X7_134 C hJ (rest := []) (c_X7_settles hE hIT.1 hM.tru fu hSt) dX7_honestCost_40 hl.1 ⟨Nat.le_of_ble_eq_true rfl, Nat.le_of_ble_eq_true rfl⟩ ⟨Nat.le_refl _, Nat.le_refl _⟩ (Nat.le_of_ble_eq_true rfl) rfl rfl (fun vr S_40 H locs hP hJ => ?_)
        obtain ⟨rfl, hR_40, hM_40, ho_40⟩ := hP
        have hL_40 : LR T S_40 (n, (f_set n fu z (mtruth mm)).2.1, (f_set n fu z (mtruth mm)).2.2) := ⟨hR_40, hM_40, ho_40⟩
        have hI_40 := hIT.lr hL_40
        have hK_40 := hK7.t hL_40.th.1
        have ht_40 := hL_40.th.2.trans ht7
        have hA_40 := hA7.ro ho_40
        refine lv_pop hx hb dX7_honestCost_43 rfl ?_
        refine lv_aload_n hx hb dX7_honestCost_44 rfl (lv_at hl 0 rfl) ?_
        refine lv_iconst (v := 1) hx hb dX7_honestCost_45 (by decide) ?_
        refine cr_X7_146 C hJ (rest := []) (c_X7_costBy hE hI_40.1 1 (Or.inl rfl)) dX7_honestCost_46 hl.1 ⟨Nat.le_of_ble_eq_true rfl, Nat.le_of_ble_eq_true rfl⟩ ⟨Nat.le_refl _, Nat.le_refl _⟩ (Nat.le_of_ble_eq_true rfl) rfl rfl ?_
        refine lv_istore_n (lv' := [(1, .int (f_total (gof n (f_set n fu z (mtruth mm)).2.2) n)), (0, .ref (gA E 84))]) hx hb dX7_honestCost_49 rfl hl (by decide) rfl (fun ls hl => ?_)
        refine lv_aload_n hx hb dX7_honestCost_50 rfl (lv_at hl 1 rfl) ?_
        refine cw_X7_161 C hJ (rest := []) (c_X7_comesBack hE) dX7_honestCost_51 hl.1 ⟨Nat.le_of_ble_eq_true rfl, Nat.le_of_ble_eq_true rfl⟩ ⟨Nat.le_refl _, Nat.le_refl _⟩ (Nat.le_of_ble_eq_true rfl) rfl rfl (fun vr S_51 H locs hP hJ => ?_)
        obtain ⟨rfl, w_51⟩ := hP
        have hI_51 := hI_40.back hA_40 hM w_51
        have hK_51 := hK_40.t (KM.rw w_51)
        have ht_51 := (congrFun w_51.2.2.2.1 2).trans ht_40
        refine lv_iload_n hx hb dX7_honestCost_54 rfl (lv_at hl 0 rfl) ?_
        exact rW_i C hJ hr rfl (MP.ok rfl rfl hI_51 hK_51 ht_51) dX7_honestCost_55
      · skip
        have hlt : i < n := ltOfNle (by omega) (by have q := c_18; rw [hI7.1.many] at q; exact q)
        refine lv_aload_n hx hb dX7_honestCost_21 rfl (lv_at hl 0 rfl) ?_
        refine lv_iload_n hx hb dX7_honestCost_22 rfl (lv_at hl 1 rfl) ?_
        refine lv_iconst (v := 2) hx hb dX7_honestCost_23 (by decide) ?_
        refine lv_aload_n hx hb dX7_honestCost_24 rfl (lv_at hl 0 rfl) ?_
        refine lv_iload_n hx hb dX7_honestCost_25 rfl (lv_at hl 1 rfl) ?_
        refine lv_iconst (v := 1) hx hb dX7_honestCost_26 (by decide) ?_
        refine cr_X7_33 C hJ (rest := [.int 2, .int (nI i), .ref (gA E 84)]) (cm_of hE hI7.1 i 1 hlt (by decide) rfl) dX7_honestCost_27 hl.1 ⟨Nat.le_of_ble_eq_true rfl, Nat.le_of_ble_eq_true rfl⟩ ⟨Nat.le_refl _, Nat.le_refl _⟩ (Nat.le_of_ble_eq_true rfl) rfl rfl ?_
        refine cw_X7_41 C hJ (rest := []) (c_X7_set hE (S := T) i 2 (by omega) (by decide) rfl rfl (mtr mm i i 1)) dX7_honestCost_30 hl.1 ⟨Nat.le_of_ble_eq_true rfl, Nat.le_of_ble_eq_true rfl⟩ ⟨Nat.le_refl _, Nat.le_refl _⟩ (Nat.le_of_ble_eq_true rfl) rfl rfl (fun vr S_30 H locs hP hJ => ?_)
        obtain ⟨rfl, e_30⟩ := hP
        have hR_30 := hI7.1.put (P := i) (i := 2) hlt (by decide) e_30
        rw [mtr_1, mtr_s] at hR_30
        have hL_30 : LR T S_30 (n, z, mtr mm (i + 1)) := ⟨hR_30, hM.trI, RO.put (by omega) e_30⟩
        have hI_30 := hI7.lr hL_30
        have hA_30 := hA7.ro hL_30.2.2
        have hK_30 := hK7.t hL_30.th.1
        have ht_30 := hL_30.th.2.trans ht7
        refine lv_iinc (v := nI (i + 1)) (lv' := [(1, .int (nI (i + 1))), (0, .ref (gA E 84))]) hx hb dX7_honestCost_33 hl (k := 1) rfl (by exact nI_1 i) (by decide) rfl (fun ls hl => ?_)
        refine lv_goto (tgt := 11) hx hb dX7_honestCost_36 (by decide) ?_
        exact ih_lp (i + 1) S_30 H locs _ (by omega) (by omega) hI_30 hA_30 hK_30 ht_30 hJ (lv_sub hl [1, 0] rfl)
  exact lp (n + 1) 0 S_6 H locs _ (Nat.zero_le _) (by omega) (by rw [mtr_0]; exact hI_6) hA_6 hK_6 ht_6 hJ (lv_sub hl [1, 0] rfl)
set_option maxHeartbeats 4000000 in
set_option maxRecDepth 100000 in
theorem c_X7_type {l : Launch} {E : GE} (hE : Env0 E) {S : ST} {n : Nat} {z : Nat → Int32} {mm : Nat → Nat → Int32} {mc : Nat} {sv : Nat → LVt} (hI : MI S (n, z, mm) mc sv) (p0 : Int32) {u_n u_p u_k : Nat} {u_b u_g : Nat → Int32} (hT : TM S u_n u_b u_p u_k u_g) (hN : u_n ≤ 150) : MW l E yX7_type cX7_type 2 (some .int) 1 22 S [.ref (gA E 84), .int p0] (fun v S1 => ∃ x : Int32, v = some (.int x) ∧ (sM S1).1 2 = (if f_in p0 0 127 = true then (if u_n = 150 then (2 : Int32) else 0) else 1) ∧ MI S1 (n, z, mm) mc sv ∧ RTy S S1 ∧ ((if f_in p0 0 127 = true then (if u_n = 150 then (2 : Int32) else 0) else 1) = 0 → x = nI (u_n + 1) ∧ TM S1 (u_n + 1) (upd u_b u_n p0) u_p u_k u_g) ∧ (¬ (if f_in p0 0 127 = true then (if u_n = 150 then (2 : Int32) else 0) else 1) = 0 → TM S1 u_n u_b u_p u_k u_g)) := by
  have hM : MmOk n mm := hI.2.1
  have hn : n ≤ 10 := hI.1.n10
  refine MW.of hE (by decide) (Nat.le_of_ble_eq_true rfl) ?_
  intro p e s m below meth c ls C hJ hr hl
  have hx := C.x
  have hb := C.b
  have hl : lv_has ls 2 [(0, .ref (gA E 84)), (1, .int p0)] := hl
  refine lv_aload_n hx hb dX7_type_0 rfl (lv_at hl 0 rfl) ?_
  refine lv_iload_n hx hb dX7_type_1 rfl (lv_at hl 1 rfl) ?_
  refine lv_iconst (v := 0) hx hb dX7_type_2 (by decide) ?_
  refine lv_bipush (v := 127) hx hb dX7_type_3 (by decide) ?_
  refine cr_X7_37 C hJ (rest := [.ref (gA E 84)]) (c_X7_in hE p0 0 127) dX7_type_5 hl.1 ⟨Nat.le_of_ble_eq_true rfl, Nat.le_of_ble_eq_true rfl⟩ ⟨Nat.le_refl _, Nat.le_refl _⟩ (Nat.le_of_ble_eq_true rfl) rfl rfl ?_
  refine lv_if_ne (tgt := 15) hx hb dX7_type_8 (by decide) (fun c_8 => ?_) (fun c_8 => ?_)
  · skip
    have q8 := bI_1 c_8
    refine lv_aload_n hx hb dX7_type_15 rfl (lv_at hl 0 rfl) ?_
    refine g_X7_152 C hJ dX7_type_16 ?_
    refine lv_sipush (v := 150) hx hb dX7_type_19 (by decide) ?_
    refine lv_icmp_ne (tgt := 29) hx hb dX7_type_22 (by decide) (fun c_22 => ?_) (fun c_22 => ?_)
    · skip
      have h0 : ¬ u_n = 150 := fun q => c_22 (by rw [hT.1, q]; rfl)
      have hF : (if f_in p0 0 127 = true then (if u_n = 150 then (2 : Int32) else 0) else 1) = 0 := by rw [if_pos q8, if_neg h0]
      refine lv_iconst (v := 0) hx hb dX7_type_29 (by decide) ?_
      refine cw_X7_56 C hJ (rest := []) (c_X7_isRefused hE 0) dX7_type_30 hl.1 ⟨Nat.le_of_ble_eq_true rfl, Nat.le_of_ble_eq_true rfl⟩ ⟨Nat.le_refl _, Nat.le_refl _⟩ (Nat.le_of_ble_eq_true rfl) rfl rfl (fun vr S_30 H locs hP hJ => ?_)
      obtain ⟨rfl, e_30⟩ := hP
      have hI_30 : MI S_30 (n, z, mm) mc sv := by rw [e_30]; exact hI.th _
      have hK_30 : KM S S_30 := by rw [e_30]; exact KM.th
      have ht_30 : (sM S_30).1 2 = 0 := by rw [e_30]; rfl
      have hT_30 := hT.km hK_30
      have hr_30 : RTy S S_30 := ⟨hK_30.1, hK_30.2.1, hK_30.2.2.1, by rw [e_30]; rfl, by rw [e_30]; rfl, hK_30.2.2.2.2.2.2⟩
      refine lv_if_eq (tgt := 38) hx hb dX7_type_33 (by decide) (fun c_33 => ?_) (fun c_33 => ?_)
      · skip
        refine lv_aload_n hx hb dX7_type_38 rfl (lv_at hl 0 rfl) ?_
        refine g_X7_13 C hJ dX7_type_39 ?_
        refine lv_aload_n hx hb dX7_type_42 rfl (lv_at hl 0 rfl) ?_
        refine g_X7_152 C hJ dX7_type_43 ?_
        refine lv_iload_n hx hb dX7_type_46 rfl (lv_at hl 1 rfl) ?_
        refine t_mt C hJ (P := u_n) (hT_30.1) (by omega) dX7_type_47 (fun H locs hJ => ?_)
        obtain ⟨S_47, hS_47⟩ : ∃ z : ST, z = setM S_30 (mTx (sM S_30) u_n p0) := ⟨_, rfl⟩
        rw [← hS_47] at hJ
        refine lv_aload_n hx hb dX7_type_48 rfl (lv_at hl 0 rfl) ?_
        refine lv_dup hx hb dX7_type_49 rfl ?_
        refine g_X7_152 C hJ dX7_type_50 ?_
        refine lv_iconst (v := 1) hx hb dX7_type_53 (by decide) ?_
        refine lv_iadd hx hb dX7_type_54 ?_
        refine p_X7_152 C hJ dX7_type_55 (fun H locs hJ => ?_)
        obtain ⟨S_55, hS_55⟩ : ∃ z : ST, z = setM S_47 (mMs (sM S_47) 4 (((sM S_47).1 4) + 1)) := ⟨_, rfl⟩
        rw [← hS_55] at hJ
        have hT_55 := hT_30.ty hS_47 hS_55 (by rw [show (sM S_47).1 4 = (sM S_30).1 4 by rw [hS_47]; rfl, hT_30.1, nI_1])
        have hr_55 : RTy S S_55 := by rw [hS_55, hS_47]; exact ⟨hr_30.1, hr_30.2.1, hr_30.2.2.1, hr_30.2.2.2.1, hr_30.2.2.2.2.1, hr_30.2.2.2.2.2⟩
        have hI_55 := hI.ty hr_55
        have ht_55 : (sM S_55).1 2 = 0 := by rw [hS_55, hS_47]; exact ht_30
        refine lv_aload_n hx hb dX7_type_58 rfl (lv_at hl 0 rfl) ?_
        refine g_X7_152 C hJ dX7_type_59 ?_
        exact rW_i C hJ hr rfl (⟨_, rfl, by rw [hF]; exact ht_55, hI_55, hr_55, fun _ => ⟨hT_55.1, hT_55⟩, fun q => absurd hF q⟩) dX7_type_62
      · skip
        exact absurd (show (if (0 : Int32) = 0 then (0 : Int32) else 1) = 0 by decide) c_33
    · skip
      have h0 : u_n = 150 := by have q := c_22; rw [hT.1] at q; exact (nI_eq (b := 150) (by omega) (by omega)).mp q
      have hF : (if f_in p0 0 127 = true then (if u_n = 150 then (2 : Int32) else 0) else 1) = 2 := by rw [if_pos q8, if_pos h0]
      refine lv_iconst (v := 2) hx hb dX7_type_25 (by decide) ?_
      refine lv_goto (tgt := 30) hx hb dX7_type_26 (by decide) ?_
      refine cw_X7_56 C hJ (rest := []) (c_X7_isRefused hE 2) dX7_type_30 hl.1 ⟨Nat.le_of_ble_eq_true rfl, Nat.le_of_ble_eq_true rfl⟩ ⟨Nat.le_refl _, Nat.le_refl _⟩ (Nat.le_of_ble_eq_true rfl) rfl rfl (fun vr S_30 H locs hP hJ => ?_)
      obtain ⟨rfl, e_30⟩ := hP
      have hI_30 : MI S_30 (n, z, mm) mc sv := by rw [e_30]; exact hI.th _
      have hK_30 : KM S S_30 := by rw [e_30]; exact KM.th
      have ht_30 : (sM S_30).1 2 = 2 := by rw [e_30]; rfl
      have hT_30 := hT.km hK_30
      have hr_30 : RTy S S_30 := ⟨hK_30.1, hK_30.2.1, hK_30.2.2.1, by rw [e_30]; rfl, by rw [e_30]; rfl, hK_30.2.2.2.2.2.2⟩
      refine lv_if_eq (tgt := 38) hx hb dX7_type_33 (by decide) (fun c_33 => ?_) (fun c_33 => ?_)
      · skip
        exact absurd c_33 (by decide)
      · skip
        refine lv_iconst (v := 0) hx hb dX7_type_36 (by decide) ?_
        exact rW_i C hJ hr rfl (⟨_, rfl, by rw [hF]; exact ht_30, hI_30, hr_30, fun q => absurd q (by rw [hF]; decide), fun _ => hT_30⟩) dX7_type_37
  · skip
    have q8 := bI_0 c_8
    have hF : (if f_in p0 0 127 = true then (if u_n = 150 then (2 : Int32) else 0) else 1) = 1 := if_neg (by rw [q8]; decide)
    refine lv_iconst (v := 1) hx hb dX7_type_11 (by decide) ?_
    refine lv_goto (tgt := 30) hx hb dX7_type_12 (by decide) ?_
    refine cw_X7_56 C hJ (rest := []) (c_X7_isRefused hE 1) dX7_type_30 hl.1 ⟨Nat.le_of_ble_eq_true rfl, Nat.le_of_ble_eq_true rfl⟩ ⟨Nat.le_refl _, Nat.le_refl _⟩ (Nat.le_of_ble_eq_true rfl) rfl rfl (fun vr S_30 H locs hP hJ => ?_)
    obtain ⟨rfl, e_30⟩ := hP
    have hI_30 : MI S_30 (n, z, mm) mc sv := by rw [e_30]; exact hI.th _
    have hK_30 : KM S S_30 := by rw [e_30]; exact KM.th
    have ht_30 : (sM S_30).1 2 = 1 := by rw [e_30]; rfl
    have hT_30 := hT.km hK_30
    have hr_30 : RTy S S_30 := ⟨hK_30.1, hK_30.2.1, hK_30.2.2.1, by rw [e_30]; rfl, by rw [e_30]; rfl, hK_30.2.2.2.2.2.2⟩
    refine lv_if_eq (tgt := 38) hx hb dX7_type_33 (by decide) (fun c_33 => ?_) (fun c_33 => ?_)
    · skip
      exact absurd c_33 (by decide)
    · skip
      refine lv_iconst (v := 0) hx hb dX7_type_36 (by decide) ?_
      exact rW_i C hJ hr rfl (⟨_, rfl, by rw [hF]; exact ht_30, hI_30, hr_30, fun q => absurd q (by rw [hF]; decide), fun _ => hT_30⟩) dX7_type_37
set_option maxHeartbeats 4000000 in
set_option maxRecDepth 100000 in
theorem c_X7_clearCommands {l : Launch} {E : GE} (hE : Env0 E) {S : ST} {n : Nat} {z : Nat → Int32} {mm : Nat → Nat → Int32} {mc : Nat} {sv : Nat → LVt} (hI : MI S (n, z, mm) mc sv) {u_n u_p u_k : Nat} {u_b u_g : Nat → Int32} (hT : TM S u_n u_b u_p u_k u_g) : MW l E yX7_clearCommands cX7_clearCommands 2 (some .int) 0 0 S [.ref (gA E 84)] (fun v S1 => v = some (.int (nI u_n)) ∧ MI S1 (n, z, mm) mc sv ∧ RTy S S1 ∧ TM S1 0 u_b u_p u_k u_g) := by
  refine MW.of hE (by decide) (Nat.le_of_ble_eq_true rfl) ?_
  intro p e s m below meth c ls C hJ hr hl
  have hx := C.x
  have hb := C.b
  have hl : lv_has ls 2 [(0, .ref (gA E 84))] := hl
  refine lv_aload_n hx hb dX7_clearCommands_0 rfl (lv_at hl 0 rfl) ?_
  refine lv_iconst (v := 0) hx hb dX7_clearCommands_1 (by decide) ?_
  refine p_X7_22 C hJ dX7_clearCommands_2 (fun H locs hJ => ?_)
  obtain ⟨S_2, hS_2⟩ : ∃ z : ST, z = setM S (mMs (sM S) 2 0) := ⟨_, rfl⟩
  rw [← hS_2] at hJ
  have hT_2 : TM S_2 u_n u_b u_p u_k u_g := hT.km (by rw [hS_2]; exact KM.th)
  refine lv_aload_n hx hb dX7_clearCommands_5 rfl (lv_at hl 0 rfl) ?_
  refine g_X7_152 C hJ dX7_clearCommands_6 ?_
  refine lv_istore_n (lv' := [(1, .int ((sM S_2).1 4)), (0, .ref (gA E 84))]) hx hb dX7_clearCommands_9 rfl hl (by decide) rfl (fun ls hl => ?_)
  refine lv_aload_n hx hb dX7_clearCommands_10 rfl (lv_at hl 1 rfl) ?_
  refine lv_iconst (v := 0) hx hb dX7_clearCommands_11 (by decide) ?_
  refine p_X7_152 C hJ dX7_clearCommands_12 (fun H locs hJ => ?_)
  obtain ⟨S_12, hS_12⟩ : ∃ z : ST, z = setM S_2 (mMs (sM S_2) 4 0) := ⟨_, rfl⟩
  rw [← hS_12] at hJ
  have hT_12 : TM S_12 0 u_b u_p u_k u_g := by rw [hS_12]; exact hT_2.len rfl (Nat.zero_le _)
  have hr_12 : RTy S S_12 := by rw [hS_12, hS_2]; exact ⟨rfl, rfl, rfl, rfl, rfl, rfl⟩
  have hI_12 := hI.ty hr_12
  refine lv_iload_n hx hb dX7_clearCommands_15 rfl (lv_at hl 0 rfl) ?_
  exact rW_i C hJ hr rfl (⟨by rw [hT_2.1], hI_12, hr_12, hT_12⟩) dX7_clearCommands_16
