/-! QUEUE: what asks and changes nothing, without a throw (by program) -/
set_option maxHeartbeats 4000000 in
set_option maxRecDepth 100000 in
theorem c_X6_disorder {l : Launch} {E : GE} (hE : Env0 E) {S : ST} {n : Nat} {z : Nat → Int32} {mm : Nat → Nat → Int32} (h : LnIs (sL S) 0 n z mm) : MR l E yX6_disorder cX6_disorder 1 (some .int) 3 67 S [.ref (gA E 83)] (some (.int (f_wrong (gof n mm) n))) := by
  refine MR.of hE (by decide) (Nat.le_of_ble_eq_true rfl) ?_
  intro p e s m below meth c ls C hJ hr hl
  have hx := C.x
  have hb := C.b
  have hl : lv_has ls 1 [(0, .ref (gA E 83))] := hl
  refine lv_aload_n hx hb dX6_disorder_0 rfl (lv_at hl 0 rfl) ?_
  refine g_X6_10 C hJ dX6_disorder_1 ?_
  refine cr_X6_139 C hJ (k := 0) (by decide) (rest := []) (cu_wrongPairs hE (k := 0) (by decide) h ) dX6_disorder_4 hl.1 ⟨Nat.le_of_ble_eq_true rfl, Nat.le_of_ble_eq_true rfl⟩ ⟨Nat.le_refl _, Nat.le_refl _⟩ (Nat.le_of_ble_eq_true rfl) rfl rfl ?_
  exact rR_i C hr rfl (rfl) dX6_disorder_7
set_option maxHeartbeats 4000000 in
set_option maxRecDepth 100000 in
theorem c_X6_honestCost {l : Launch} {E : GE} (hE : Env0 E) {S : ST} {n : Nat} {z : Nat → Int32} {mm : Nat → Nat → Int32} (h : LnIs (sL S) 0 n z mm) {n1 : Nat} {z1 : Nat → Int32} {mm1 : Nat → Nat → Int32} (h1 : LnIs (sL S) 1 n1 z1 mm1) (fu : Nat) (hfu : fu = 1000) : MW l E yX6_honestCost cX6_honestCost 1 (some .int) 4 91 S [.ref (gA E 83)] (fun v S1 => v = some (.int (f_hon fu n z mm)) ∧ Up S S1 1 n (f_set n fu z (mtruth mm)).2.1 (f_set n fu z (mtruth mm)).2.2) := by
  refine MW.of hE (by decide) (Nat.le_of_ble_eq_true rfl) ?_
  intro p e s m below meth c ls C hJ hr hl
  have hx := C.x
  have hb := C.b
  have hl : lv_has ls 1 [(0, .ref (gA E 83))] := hl
  refine lv_aload_n hx hb dX6_honestCost_0 rfl (lv_at hl 0 rfl) ?_
  refine g_X6_16 C hJ dX6_honestCost_1 ?_
  refine lv_aload_n hx hb dX6_honestCost_4 rfl (lv_at hl 0 rfl) ?_
  refine g_X6_10 C hJ dX6_honestCost_5 ?_
  refine cw_X6_123 C hJ (k := 1) (by decide) (rest := []) (c_X4_copyFrom hE (k := 1) (by decide) h1 (k2 := 0) (by decide) h (by decide)) dX6_honestCost_8 hl.1 ⟨Nat.le_of_ble_eq_true rfl, Nat.le_of_ble_eq_true rfl⟩ ⟨Nat.le_refl _, Nat.le_refl _⟩ (Nat.le_of_ble_eq_true rfl) rfl rfl (fun vr S_8 H locs hP hJ => ?_)
  obtain ⟨rfl, hU1⟩ := hP
  have h2 := hU1.2.2
  have h02 := h.off hU1.2.1 (by decide)
  refine lv_aload_n hx hb dX6_honestCost_11 rfl (lv_at hl 0 rfl) ?_
  refine g_X6_16 C hJ dX6_honestCost_12 ?_
  refine cw_X6_133 C hJ (k := 1) (by decide) (rest := []) (c_X4_tellTruth hE (k := 1) (by decide) h2) dX6_honestCost_15 hl.1 ⟨Nat.le_of_ble_eq_true rfl, Nat.le_of_ble_eq_true rfl⟩ ⟨Nat.le_refl _, Nat.le_refl _⟩ (Nat.le_of_ble_eq_true rfl) rfl rfl (fun vr S_15 H locs hP hJ => ?_)
  obtain ⟨rfl, hU2⟩ := hP
  have h3 := hU2.2.2
  refine lv_aload_n hx hb dX6_honestCost_18 rfl (lv_at hl 0 rfl) ?_
  refine g_X6_16 C hJ dX6_honestCost_19 ?_
  refine cw_X6_126 C hJ (k := 1) (by decide) (rest := []) (c_X4_settleDown hE (k := 1) (by decide) h3 fu hfu) dX6_honestCost_22 hl.1 ⟨Nat.le_of_ble_eq_true rfl, Nat.le_of_ble_eq_true rfl⟩ ⟨Nat.le_refl _, Nat.le_refl _⟩ (Nat.le_of_ble_eq_true rfl) rfl rfl (fun vr S_22 H locs hP hJ => ?_)
  obtain ⟨rfl, hU3⟩ := hP
  have h4 := hU3.2.2
  refine lv_pop hx hb dX6_honestCost_25 rfl ?_
  refine lv_aload_n hx hb dX6_honestCost_26 rfl (lv_at hl 0 rfl) ?_
  refine g_X6_16 C hJ dX6_honestCost_27 ?_
  refine cr_X6_136 C hJ (k := 1) (by decide) (rest := []) (cu_cost hE (k := 1) (by decide) h4 ) dX6_honestCost_30 hl.1 ⟨Nat.le_of_ble_eq_true rfl, Nat.le_of_ble_eq_true rfl⟩ ⟨Nat.le_refl _, Nat.le_refl _⟩ (Nat.le_of_ble_eq_true rfl) rfl rfl ?_
  exact rW_i C hJ hr rfl (⟨rfl, (hU1.tr hU2).tr hU3⟩) dX6_honestCost_33
set_option maxHeartbeats 4000000 in
set_option maxRecDepth 100000 in
theorem c_X6_profitAt {l : Launch} {E : GE} (hE : Env0 E) {S : ST} {n : Nat} {z : Nat → Int32} {mm : Nat → Nat → Int32} (h : LnIs (sL S) 0 n z mm) {n1 : Nat} {z1 : Nat → Int32} {mm1 : Nat → Nat → Int32} (h1 : LnIs (sL S) 1 n1 z1 mm1) (P : Nat) (hP0 : P < n) (w : Int32) (fu : Nat) (hfu : fu = 1000) : MW l E yX6_profitAt cX6_profitAt 6 (some .int) 4 91 S [.ref (gA E 83), .int (nI P), .int w] (fun v S1 => v = some (.int (f_pro fu n z mm P w)) ∧ ∃ z2 mm2, Up S S1 1 n z2 mm2) := by
  have hn := h.1.1
  refine MW.of hE (by decide) (Nat.le_of_ble_eq_true rfl) ?_
  intro p e s m below meth c ls C hJ hr hl
  have hx := C.x
  have hb := C.b
  have hl : lv_has ls 6 [(0, .ref (gA E 83)), (1, .int (nI P)), (2, .int w)] := hl
  refine lv_aload_n hx hb dX6_profitAt_0 rfl (lv_at hl 0 rfl) ?_
  refine g_X6_10 C hJ dX6_profitAt_1 ?_
  refine lv_iload_n hx hb dX6_profitAt_4 rfl (lv_at hl 1 rfl) ?_
  refine cr_X6_101 C hJ (k := 0) (by decide) (rest := []) (c_X4_memberAtI hE (k := 0) (by decide) h.1 hP0 rfl) dX6_profitAt_5 hl.1 ⟨Nat.le_of_ble_eq_true rfl, Nat.le_of_ble_eq_true rfl⟩ ⟨Nat.le_refl _, Nat.le_refl _⟩ (Nat.le_of_ble_eq_true rfl) rfl rfl ?_
  refine lv_astore_n (lv' := [(3, .ref (gA E (13 * 0 + 2 + (pm (sL S) 0 P)))), (0, .ref (gA E 83)), (1, .int (nI P)), (2, .int w)]) hx hb dX6_profitAt_8 rfl hl (by decide) rfl (fun ls hl => ?_)
  refine lv_aload_n hx hb dX6_profitAt_9 rfl (lv_at hl 1 rfl) ?_
  refine g_X6_16 C hJ dX6_profitAt_10 ?_
  refine lv_aload_n hx hb dX6_profitAt_13 rfl (lv_at hl 1 rfl) ?_
  refine g_X6_10 C hJ dX6_profitAt_14 ?_
  refine cw_X6_123 C hJ (k := 1) (by decide) (rest := []) (c_X4_copyFrom hE (k := 1) (by decide) h1 (k2 := 0) (by decide) h (by decide)) dX6_profitAt_17 hl.1 ⟨Nat.le_of_ble_eq_true rfl, Nat.le_of_ble_eq_true rfl⟩ ⟨Nat.le_refl _, Nat.le_refl _⟩ (Nat.le_of_ble_eq_true rfl) rfl rfl (fun vr S_17 H locs hP hJ => ?_)
  obtain ⟨rfl, hU1⟩ := hP
  have h2 := hU1.2.2
  have h02 := h.off hU1.2.1 (by decide)
  refine lv_aload_n hx hb dX6_profitAt_20 rfl (lv_at hl 1 rfl) ?_
  refine g_X6_16 C hJ dX6_profitAt_21 ?_
  refine lv_iload_n hx hb dX6_profitAt_24 rfl (lv_at hl 2 rfl) ?_
  refine cr_X6_101 C hJ (k := 1) (by decide) (rest := []) (c_X4_memberAtI hE (k := 1) (by decide) h2.1 hP0 rfl) dX6_profitAt_25 hl.1 ⟨Nat.le_of_ble_eq_true rfl, Nat.le_of_ble_eq_true rfl⟩ ⟨Nat.le_refl _, Nat.le_refl _⟩ (Nat.le_of_ble_eq_true rfl) rfl rfl ?_
  refine lv_iload_n hx hb dX6_profitAt_28 rfl (lv_at hl 3 rfl) ?_
  refine p_X6_189 C hJ (k := 1) (by decide) (Nat.lt_of_lt_of_le (h2.1.2.2.1 P (by omega)) (by decide)) dX6_profitAt_29 (fun H locs hJ => ?_)
  obtain ⟨S_29, hS_29⟩ : ∃ z : ST, z = setL S_17 (lMb (sL S_17) 1 (pm (sL S_17) 1 P) 2 w) := ⟨_, rfl⟩
  rw [← hS_29] at hJ
  have hU2 : Up S_17 S_29 1 n z (up2 mm P 2 w) := (Up.rf h2).sq hS_29 (OffL.omb _ _ _) (h2.smb hP0 (by omega) (by omega))
  have h3 := hU2.2.2
  refine lv_aload_n hx hb dX6_profitAt_32 rfl (lv_at hl 1 rfl) ?_
  refine g_X6_16 C hJ dX6_profitAt_33 ?_
  refine cw_X6_126 C hJ (k := 1) (by decide) (rest := []) (c_X4_settleDown hE (k := 1) (by decide) h3 fu hfu) dX6_profitAt_36 hl.1 ⟨Nat.le_of_ble_eq_true rfl, Nat.le_of_ble_eq_true rfl⟩ ⟨Nat.le_refl _, Nat.le_refl _⟩ (Nat.le_of_ble_eq_true rfl) rfl rfl (fun vr S_36 H locs hP hJ => ?_)
  obtain ⟨rfl, hU3⟩ := hP
  have h4 := hU3.2.2
  have h04 := (h02.off hU2.2.1 (by decide)).off hU3.2.1 (by decide)
  have hpm : ∀ T : ST, mb (sL T) 0 = mb (sL S) 0 → mb (sL T) 0 (pm (sL S) 0 P) = mm P := fun T e => by rw [e]; exact funext (h.2.2.1 P hP0)
  have hmb : mb (sL S_36) 0 = mb (sL S) 0 := (((hU3.2.1 0 (by decide)).2.2).trans ((hU2.2.1 0 (by decide)).2.2)).trans ((hU1.2.1 0 (by decide)).2.2)
  have hm0 : ∀ u_i, mb (sL S_36) 0 (pm (sL S) 0 P) u_i = mm P u_i := fun u_i => congrFun (hpm S_36 hmb) u_i
  obtain ⟨Q, hQ, eQ, _⟩ := place_has hn (set_has hn fu z (up2 mm P 2 w) ⟨P, hP0, show up2 mm P 2 w P 0 = mm P 0 by unfold up2; rw [if_neg (by omega)]⟩)
  refine lv_pop hx hb dX6_profitAt_39 rfl ?_
  refine lv_aload_n hx hb dX6_profitAt_40 rfl (lv_at hl 1 rfl) ?_
  refine g_X6_16 C hJ dX6_profitAt_41 ?_
  refine lv_aload_n hx hb dX6_profitAt_44 rfl (lv_at hl 0 rfl) ?_
  refine g_X6_105 C hJ (k := 0) (by decide) (Nat.lt_of_lt_of_le (h.1.2.2.1 P (by omega)) (by decide)) dX6_profitAt_45 ?_
  rw [hm0 0]
  refine cr_X6_89 C hJ (k := 1) (by decide) (rest := []) (cu_placeOf hE (k := 1) (by decide) h4 (mm P 0)) dX6_profitAt_48 hl.1 ⟨Nat.le_of_ble_eq_true rfl, Nat.le_of_ble_eq_true rfl⟩ ⟨Nat.le_refl _, Nat.le_refl _⟩ (Nat.le_of_ble_eq_true rfl) rfl rfl ?_
  refine lv_istore (lv' := [(4, .int (f_place (gof n ((f_set n fu z (up2 mm P 2 w)).2.2)) n (mm P 0))), (3, .ref (gA E (13 * 0 + 2 + (pm (sL S) 0 P)))), (0, .ref (gA E 83)), (1, .int (nI P)), (2, .int w)]) hx hb dX6_profitAt_51 hl (by decide) rfl (fun ls hl => ?_)
  refine lv_aload_n hx hb dX6_profitAt_53 rfl (lv_at hl 2 rfl) ?_
  refine g_X6_10 C hJ dX6_profitAt_54 ?_
  refine lv_iload_n hx hb dX6_profitAt_57 rfl (lv_at hl 3 rfl) ?_
  refine cr_X6_192 C hJ (k := 0) (by decide) (rest := []) (cu_costAt hE (k := 0) (by decide) h04 P (by omega)) dX6_profitAt_58 hl.1 ⟨Nat.le_of_ble_eq_true rfl, Nat.le_of_ble_eq_true rfl⟩ ⟨Nat.le_refl _, Nat.le_refl _⟩ (Nat.le_of_ble_eq_true rfl) rfl rfl ?_
  refine lv_aload_n hx hb dX6_profitAt_61 rfl (lv_at hl 2 rfl) ?_
  refine g_X6_16 C hJ dX6_profitAt_62 ?_
  refine lv_iload hx hb dX6_profitAt_65 (lv_at hl 0 rfl) ?_
  rw [eQ]
  refine cr_X6_192 C hJ (k := 1) (by decide) (rest := [.int (f_cost (gof n mm) P)]) (cu_costAt hE (k := 1) (by decide) h4 Q (by omega)) dX6_profitAt_67 hl.1 ⟨Nat.le_of_ble_eq_true rfl, Nat.le_of_ble_eq_true rfl⟩ ⟨Nat.le_refl _, Nat.le_refl _⟩ (Nat.le_of_ble_eq_true rfl) rfl rfl ?_
  refine lv_isub hx hb dX6_profitAt_70 ?_
  refine lv_istore (lv' := [(5, .int ((f_cost (gof n mm) P) - (f_cost (gof n ((f_set n fu z (up2 mm P 2 w)).2.2)) Q))), (4, .int (f_place (gof n ((f_set n fu z (up2 mm P 2 w)).2.2)) n (mm P 0))), (3, .ref (gA E (13 * 0 + 2 + (pm (sL S) 0 P)))), (0, .ref (gA E 83)), (1, .int (nI P)), (2, .int w)]) hx hb dX6_profitAt_71 hl (by decide) rfl (fun ls hl => ?_)
  refine lv_iload hx hb dX6_profitAt_73 (lv_at hl 0 rfl) ?_
  refine lv_aload_n hx hb dX6_profitAt_75 rfl (lv_at hl 3 rfl) ?_
  refine g_X6_16 C hJ dX6_profitAt_76 ?_
  refine lv_iload hx hb dX6_profitAt_79 (lv_at hl 1 rfl) ?_
  rw [eQ]
  refine cr_X6_101 C hJ (k := 1) (by decide) (rest := [.int ((f_cost (gof n mm) P) - (f_cost (gof n ((f_set n fu z (up2 mm P 2 w)).2.2)) Q))]) (c_X4_memberAtI hE (k := 1) (by decide) h4.1 hQ rfl) dX6_profitAt_81 hl.1 ⟨Nat.le_of_ble_eq_true rfl, Nat.le_of_ble_eq_true rfl⟩ ⟨Nat.le_refl _, Nat.le_refl _⟩ (Nat.le_of_ble_eq_true rfl) rfl rfl ?_
  refine g_X6_195 C hJ (k := 1) (by decide) (Nat.lt_of_lt_of_le (h4.1.2.2.1 Q (by omega)) (by decide)) dX6_profitAt_84 ?_
  refine lv_iadd hx hb dX6_profitAt_87 ?_
  refine lv_aload_n hx hb dX6_profitAt_88 rfl (lv_at hl 2 rfl) ?_
  refine g_X6_195 C hJ (k := 0) (by decide) (Nat.lt_of_lt_of_le (h.1.2.2.1 P (by omega)) (by decide)) dX6_profitAt_89 ?_
  refine lv_isub hx hb dX6_profitAt_92 ?_
  exact rW_i C hJ hr rfl (⟨by rw [f_pro_e (by omega) eQ, gof_in _ hn hQ, hm0, h4.2.2.1 Q hQ], _, _, (hU1.tr hU2).tr hU3⟩) dX6_profitAt_93
set_option maxHeartbeats 4000000 in
set_option maxRecDepth 100000 in
theorem c_X6_digestMembers {l : Launch} {E : GE} (hE : Env0 E) {S : ST} {n : Nat} {z : Nat → Int32} {mm : Nat → Nat → Int32} (h : LnIs (sL S) 0 n z mm) (x0 : Int64) : MR l E yX6_digestMembers cX6_digestMembers 7 (some .long) 4 89 S [.ref (gA E 83), .long x0] (some (.long (f_dm (gof n mm) n x0))) := by
  have hn10 := h.1.1
  have hg : gm (sL S) 0 = gof n mm := h.sgm
  refine MR.of hE (by decide) (Nat.le_of_ble_eq_true rfl) ?_
  intro p e s m below meth c ls C hJ hr hl
  have hx := C.x
  have hb := C.b
  have hl : lv_has ls 7 [(0, .ref (gA E 83)), (1, .long x0)] := hl
  refine lv_lload_n hx hb dX6_digestMembers_0 rfl (lv_at hl 1 rfl) ?_
  refine lv_lstore_n (lv' := [(3, .long x0), (0, .ref (gA E 83)), (1, .long x0)]) hx hb dX6_digestMembers_1 rfl hl (by decide) rfl (fun ls hl => ?_)
  refine lv_iconst (v := 0) hx hb dX6_digestMembers_2 (by decide) ?_
  refine lv_istore (lv' := [(5, .int 0), (3, .long x0), (0, .ref (gA E 83)), (1, .long x0)]) hx hb dX6_digestMembers_3 hl (by decide) rfl (fun ls hl => ?_)
  have lp : ∀ (d : Nat) (i : Nat) (xa : Int64) (ls : Array Slot), (i ≤ n) → (n < i + d) → (xa = f_dm (gof n mm) i x0) → lv_has ls 7 [(0, .ref (gA E 83)), (1, .long x0), (3, .long xa), (5, .int (nI i))] → W p l e (rmZ 4 89) s m ([.ref (gA E 83), .long x0] : List Value).toArray below meth c s.heap [] 0 0 (RQ below ([.ref (gA E 83), .long x0] : List Value).toArray s (some (.long (f_dm (gof n mm) n x0)))) (F0 m 5 ls []) := by
    intro d
    induction d with
    | zero =>
      intro i xa ls hi hd ea hl
      omega
    | succ d ih_lp =>
      intro i xa ls hi hd ea hl
      refine lv_iload hx hb dX6_digestMembers_5 (lv_at hl 3 rfl) ?_
      refine lv_aload_n hx hb dX6_digestMembers_7 rfl (lv_at hl 0 rfl) ?_
      refine g_X6_10 C hJ dX6_digestMembers_8 ?_
      refine g_X6_185 C hJ (k := 0) (by decide) dX6_digestMembers_11 ?_
      refine lv_icmp_ge (tgt := 78) hx hb dX6_digestMembers_14 (by decide) (fun c_14 => ?_) (fun c_14 => ?_)
      · skip
        have e9 := cT h.1 hi c_14
        refine lv_lload_n hx hb dX6_digestMembers_78 rfl (lv_at hl 2 rfl) ?_
        exact rR_l C hr (by rw [ea, e9]) dX6_digestMembers_79
      · skip
        have hlt := cF h.1 hi c_14
        refine lv_ldc2 hx hb C.ow (C.ts _ kl_X6_176) dX6_digestMembers_17 ?_
        refine lv_lload_n hx hb dX6_digestMembers_20 rfl (lv_at hl 2 rfl) ?_
        refine lv_lmul hx hb dX6_digestMembers_21 ?_
        refine lv_aload_n hx hb dX6_digestMembers_22 rfl (lv_at hl 0 rfl) ?_
        refine g_X6_10 C hJ dX6_digestMembers_23 ?_
        refine lv_iload hx hb dX6_digestMembers_26 (lv_at hl 3 rfl) ?_
        refine cr_X6_101 C hJ (k := 0) (by decide) (rest := [.long (31 * xa)]) (c_X4_memberAt hE (by decide) h.1 (nI i)) dX6_digestMembers_28 hl.1 ⟨Nat.le_of_ble_eq_true rfl, Nat.le_of_ble_eq_true rfl⟩ ⟨Nat.le_refl _, Nat.le_refl _⟩ (Nat.le_of_ble_eq_true rfl) rfl rfl ?_
        refine g_X6_105 C hJ (k := 0) (by decide) (ix_lt h.1 _) dX6_digestMembers_31 ?_
        refine lv_i2l (v := (mb (sL S) 0 (ix (sL S) 0 (nI i)) 0).toInt64) hx hb dX6_digestMembers_34 rfl ?_
        refine lv_ladd hx hb dX6_digestMembers_35 ?_
        refine lv_lstore_n (lv' := [(3, .long ((31 * xa) + ((mb (sL S) 0 (ix (sL S) 0 (nI i)) 0).toInt64))), (0, .ref (gA E 83)), (1, .long x0), (5, .int (nI i))]) hx hb dX6_digestMembers_36 rfl hl (by decide) rfl (fun ls hl => ?_)
        refine lv_iconst (v := 0) hx hb dX6_digestMembers_37 (by decide) ?_
        refine lv_istore (lv' := [(6, .int 0), (3, .long ((31 * xa) + ((mb (sL S) 0 (ix (sL S) 0 (nI i)) 0).toInt64))), (0, .ref (gA E 83)), (1, .long x0), (5, .int (nI i))]) hx hb dX6_digestMembers_38 hl (by decide) rfl (fun ls hl => ?_)
        have lq : ∀ (d : Nat) (j : Nat) (xb : Int64) (ls : Array Slot), (j ≤ 10) → (10 < j + d) → (xb = dI (fun w => f_mval (gof n mm) i w) j (31 * xa + (gm (sL S) 0 (nI i) 0).toInt64)) → lv_has ls 7 [(0, .ref (gA E 83)), (1, .long x0), (5, .int (nI i)), (3, .long xb), (6, .int (nI j))] → W p l e (rmZ 4 89) s m ([.ref (gA E 83), .long x0] : List Value).toArray below meth c s.heap [] 0 0 (RQ below ([.ref (gA E 83), .long x0] : List Value).toArray s (some (.long (f_dm (gof n mm) n x0)))) (F0 m 40 ls []) := by
          intro d
          induction d with
          | zero =>
            intro j xb ls hj hd2 eb hl
            omega
          | succ d ih_lq =>
            intro j xb ls hj hd2 eb hl
            refine lv_iload hx hb dX6_digestMembers_40 (lv_at hl 4 rfl) ?_
            refine lv_bipush (v := 10) hx hb dX6_digestMembers_42 (by decide) ?_
            refine lv_icmp_ge (tgt := 72) hx hb dX6_digestMembers_44 (by decide) (fun c_44 => ?_) (fun c_44 => ?_)
            · skip
              have e7 : j = 10 := eqOfLe (N := 10) hj (by omega) c_44
              rw [e7] at eb
              refine lv_iinc (v := nI (i + 1)) (lv' := [(5, .int (nI (i + 1))), (0, .ref (gA E 83)), (1, .long x0), (3, .long xb), (6, .int (nI j))]) hx hb dX6_digestMembers_72 hl (k := 2) rfl (by exact nI_1 i) (by decide) rfl (fun ls hl => ?_)
              refine lv_goto (tgt := 5) hx hb dX6_digestMembers_75 (by decide) ?_
              exact ih_lp (i + 1) _ _ (by omega) (by omega) (by rw [eb, ea, hg]; rfl) (lv_sub hl [1, 2, 3, 0] rfl)
            · skip
              have hlt2 : j < 10 := ltOfNle (N := 10) (by omega) c_44
              refine lv_ldc2 hx hb C.ow (C.ts _ kl_X6_176) dX6_digestMembers_47 ?_
              refine lv_lload_n hx hb dX6_digestMembers_50 rfl (lv_at hl 3 rfl) ?_
              refine lv_lmul hx hb dX6_digestMembers_51 ?_
              refine lv_aload_n hx hb dX6_digestMembers_52 rfl (lv_at hl 0 rfl) ?_
              refine g_X6_10 C hJ dX6_digestMembers_53 ?_
              refine lv_iload hx hb dX6_digestMembers_56 (lv_at hl 2 rfl) ?_
              refine lv_iload hx hb dX6_digestMembers_58 (lv_at hl 4 rfl) ?_
              refine cr_X6_97 C hJ (k := 0) (by decide) (rest := [.long (31 * xb)]) (cu_memberValue hE (k := 0) (by decide) h i (by omega) j (by omega)) dX6_digestMembers_60 hl.1 ⟨Nat.le_of_ble_eq_true rfl, Nat.le_of_ble_eq_true rfl⟩ ⟨Nat.le_refl _, Nat.le_refl _⟩ (Nat.le_of_ble_eq_true rfl) rfl rfl ?_
              refine lv_i2l (v := (f_mval (gof n mm) i j).toInt64) hx hb dX6_digestMembers_63 rfl ?_
              refine lv_ladd hx hb dX6_digestMembers_64 ?_
              refine lv_lstore_n (lv' := [(3, .long ((31 * xb) + ((f_mval (gof n mm) i j).toInt64))), (0, .ref (gA E 83)), (1, .long x0), (5, .int (nI i)), (6, .int (nI j))]) hx hb dX6_digestMembers_65 rfl hl (by decide) rfl (fun ls hl => ?_)
              refine lv_iinc (v := nI (j + 1)) (lv' := [(6, .int (nI (j + 1))), (3, .long ((31 * xb) + ((f_mval (gof n mm) i j).toInt64))), (0, .ref (gA E 83)), (1, .long x0), (5, .int (nI i))]) hx hb dX6_digestMembers_66 hl (k := 4) rfl (by exact nI_1 j) (by decide) rfl (fun ls hl => ?_)
              refine lv_goto (tgt := 40) hx hb dX6_digestMembers_69 (by decide) ?_
              exact ih_lq (j + 1) _ _ (by omega) (by omega) (by rw [eb]; rfl) (lv_sub hl [2, 3, 4, 1, 0] rfl)
        exact lq (10 + 1) 0 _ _ (Nat.zero_le _) (by omega) rfl (lv_sub hl [2, 3, 4, 1, 0] rfl)
  exact lp (n + 1) 0 _ _ (Nat.zero_le _) (by omega) rfl (lv_sub hl [2, 3, 1, 0] rfl)
set_option maxHeartbeats 4000000 in
set_option maxRecDepth 100000 in
theorem c_X6_digestPairs {l : Launch} {E : GE} (hE : Env0 E) {S : ST} {n : Nat} {z : Nat → Int32} {mm : Nat → Nat → Int32} (h : LnIs (sL S) 0 n z mm) (x0 : Int64) : MR l E yX6_digestPairs cX6_digestPairs 7 (some .long) 3 69 S [.ref (gA E 83), .long x0] (some (.long (f_dp (gof n mm) (z 3) (n - 1) x0))) := by
  have hn10 := h.1.1
  refine MR.of hE (by decide) (Nat.le_of_ble_eq_true rfl) ?_
  intro p e s m below meth c ls C hJ hr hl
  have hx := C.x
  have hb := C.b
  have hl : lv_has ls 7 [(0, .ref (gA E 83)), (1, .long x0)] := hl
  refine lv_lload_n hx hb dX6_digestPairs_0 rfl (lv_at hl 1 rfl) ?_
  refine lv_lstore_n (lv' := [(3, .long x0), (0, .ref (gA E 83)), (1, .long x0)]) hx hb dX6_digestPairs_1 rfl hl (by decide) rfl (fun ls hl => ?_)
  refine lv_iconst (v := 0) hx hb dX6_digestPairs_2 (by decide) ?_
  refine lv_istore (lv' := [(5, .int 0), (3, .long x0), (0, .ref (gA E 83)), (1, .long x0)]) hx hb dX6_digestPairs_3 hl (by decide) rfl (fun ls hl => ?_)
  have lp : ∀ (d : Nat) (i : Nat) (xa : Int64) (ls : Array Slot), (i ≤ n - 1) → (n - 1 < i + d) → (xa = f_dp (gof n mm) (z 3) i x0) → lv_has ls 7 [(0, .ref (gA E 83)), (1, .long x0), (3, .long xa), (5, .int (nI i))] → W p l e (rmZ 3 69) s m ([.ref (gA E 83), .long x0] : List Value).toArray below meth c s.heap [] 0 0 (RQ below ([.ref (gA E 83), .long x0] : List Value).toArray s (some (.long (f_dp (gof n mm) (z 3) (n - 1) x0)))) (F0 m 5 ls []) := by
    intro d
    induction d with
    | zero =>
      intro i xa ls hi hd ea hl
      omega
    | succ d ih_lp =>
      intro i xa ls hi hd ea hl
      refine lv_iload hx hb dX6_digestPairs_5 (lv_at hl 3 rfl) ?_
      refine lv_aload_n hx hb dX6_digestPairs_7 rfl (lv_at hl 0 rfl) ?_
      refine g_X6_10 C hJ dX6_digestPairs_8 ?_
      refine g_X6_185 C hJ (k := 0) (by decide) dX6_digestPairs_11 ?_
      refine lv_iconst (v := 1) hx hb dX6_digestPairs_14 (by decide) ?_
      refine lv_isub hx hb dX6_digestPairs_15 ?_
      refine lv_icmp_ge (tgt := 76) hx hb dX6_digestPairs_16 (by decide) (fun c_16 => ?_) (fun c_16 => ?_)
      · skip
        have e9 := cT1 h.1 hi c_16
        refine lv_lload_n hx hb dX6_digestPairs_76 rfl (lv_at hl 2 rfl) ?_
        exact rR_l C hr (by rw [ea, e9]) dX6_digestPairs_77
      · skip
        have hlt := cF1 h.1 hi c_16
        refine lv_iconst (v := 0) hx hb dX6_digestPairs_19 (by decide) ?_
        refine lv_istore (lv' := [(6, .int 0), (0, .ref (gA E 83)), (1, .long x0), (3, .long xa), (5, .int (nI i))]) hx hb dX6_digestPairs_20 hl (by decide) rfl (fun ls hl => ?_)
        have lq : ∀ (d : Nat) (j : Nat) (xb : Int64) (ls : Array Slot), (j ≤ 5) → (5 < j + d) → (xb = dI (fun w => f_pval (gof n mm) (z 3) (nI i) w) j xa) → lv_has ls 7 [(0, .ref (gA E 83)), (1, .long x0), (5, .int (nI i)), (3, .long xb), (6, .int (nI j))] → W p l e (rmZ 3 69) s m ([.ref (gA E 83), .long x0] : List Value).toArray below meth c s.heap [] 0 0 (RQ below ([.ref (gA E 83), .long x0] : List Value).toArray s (some (.long (f_dp (gof n mm) (z 3) (n - 1) x0)))) (F0 m 22 ls []) := by
          intro d
          induction d with
          | zero =>
            intro j xb ls hj hd2 eb hl
            omega
          | succ d ih_lq =>
            intro j xb ls hj hd2 eb hl
            refine lv_iload hx hb dX6_digestPairs_22 (lv_at hl 4 rfl) ?_
            refine lv_iconst (v := 5) hx hb dX6_digestPairs_24 (by decide) ?_
            refine lv_icmp_ge (tgt := 53) hx hb dX6_digestPairs_25 (by decide) (fun c_25 => ?_) (fun c_25 => ?_)
            · skip
              have e7 : j = 5 := eqOfLe (N := 5) hj (by omega) c_25
              rw [e7] at eb
              refine lv_ldc2 hx hb C.ow (C.ts _ kl_X6_176) dX6_digestPairs_53 ?_
              refine lv_lload_n hx hb dX6_digestPairs_56 rfl (lv_at hl 3 rfl) ?_
              refine lv_lmul hx hb dX6_digestPairs_57 ?_
              refine lv_aload_n hx hb dX6_digestPairs_58 rfl (lv_at hl 0 rfl) ?_
              refine g_X6_10 C hJ dX6_digestPairs_59 ?_
              refine lv_iload hx hb dX6_digestPairs_62 (lv_at hl 2 rfl) ?_
              refine cr_X6_120 C hJ (k := 0) (by decide) (rest := [.long (31 * xb)]) (cu_hindrance hE (k := 0) (by decide) h (nI i)) dX6_digestPairs_64 hl.1 ⟨Nat.le_of_ble_eq_true rfl, Nat.le_of_ble_eq_true rfl⟩ ⟨Nat.le_refl _, Nat.le_refl _⟩ (Nat.le_of_ble_eq_true rfl) rfl rfl ?_
              refine lv_i2l (v := (f_hind (gof n mm) (nI i)).toInt64) hx hb dX6_digestPairs_67 rfl ?_
              refine lv_ladd hx hb dX6_digestPairs_68 ?_
              refine lv_lstore_n (lv' := [(3, .long ((31 * xb) + ((f_hind (gof n mm) (nI i)).toInt64))), (0, .ref (gA E 83)), (1, .long x0), (5, .int (nI i)), (6, .int (nI j))]) hx hb dX6_digestPairs_69 rfl hl (by decide) rfl (fun ls hl => ?_)
              refine lv_iinc (v := nI (i + 1)) (lv' := [(5, .int (nI (i + 1))), (3, .long ((31 * xb) + ((f_hind (gof n mm) (nI i)).toInt64))), (0, .ref (gA E 83)), (1, .long x0), (6, .int (nI j))]) hx hb dX6_digestPairs_70 hl (k := 3) rfl (by exact nI_1 i) (by decide) rfl (fun ls hl => ?_)
              refine lv_goto (tgt := 5) hx hb dX6_digestPairs_73 (by decide) ?_
              exact ih_lp (i + 1) _ _ (by omega) (by omega) (by rw [eb, ea]; rfl) (lv_sub hl [2, 3, 1, 0] rfl)
            · skip
              have hlt2 : j < 5 := ltOfNle (N := 5) (by omega) c_25
              refine lv_ldc2 hx hb C.ow (C.ts _ kl_X6_176) dX6_digestPairs_28 ?_
              refine lv_lload_n hx hb dX6_digestPairs_31 rfl (lv_at hl 3 rfl) ?_
              refine lv_lmul hx hb dX6_digestPairs_32 ?_
              refine lv_aload_n hx hb dX6_digestPairs_33 rfl (lv_at hl 0 rfl) ?_
              refine g_X6_10 C hJ dX6_digestPairs_34 ?_
              refine lv_iload hx hb dX6_digestPairs_37 (lv_at hl 2 rfl) ?_
              refine lv_iload hx hb dX6_digestPairs_39 (lv_at hl 4 rfl) ?_
              refine cr_X6_114 C hJ (k := 0) (by decide) (rest := [.long (31 * xb)]) (cu_pairValue hE (k := 0) (by decide) h (nI i) j (by omega)) dX6_digestPairs_41 hl.1 ⟨Nat.le_of_ble_eq_true rfl, Nat.le_of_ble_eq_true rfl⟩ ⟨Nat.le_refl _, Nat.le_refl _⟩ (Nat.le_of_ble_eq_true rfl) rfl rfl ?_
              refine lv_i2l (v := (f_pval (gof n mm) (z 3) (nI i) j).toInt64) hx hb dX6_digestPairs_44 rfl ?_
              refine lv_ladd hx hb dX6_digestPairs_45 ?_
              refine lv_lstore_n (lv' := [(3, .long ((31 * xb) + ((f_pval (gof n mm) (z 3) (nI i) j).toInt64))), (0, .ref (gA E 83)), (1, .long x0), (5, .int (nI i)), (6, .int (nI j))]) hx hb dX6_digestPairs_46 rfl hl (by decide) rfl (fun ls hl => ?_)
              refine lv_iinc (v := nI (j + 1)) (lv' := [(6, .int (nI (j + 1))), (3, .long ((31 * xb) + ((f_pval (gof n mm) (z 3) (nI i) j).toInt64))), (0, .ref (gA E 83)), (1, .long x0), (5, .int (nI i))]) hx hb dX6_digestPairs_47 hl (k := 4) rfl (by exact nI_1 j) (by decide) rfl (fun ls hl => ?_)
              refine lv_goto (tgt := 22) hx hb dX6_digestPairs_50 (by decide) ?_
              exact ih_lq (j + 1) _ _ (by omega) (by omega) (by rw [eb]; rfl) (lv_sub hl [2, 3, 4, 1, 0] rfl)
        exact lq (5 + 1) 0 _ _ (Nat.zero_le _) (by omega) rfl (lv_sub hl [1, 2, 4, 3, 0] rfl)
  exact lp ((n - 1) + 1) 0 _ _ (Nat.zero_le _) (by omega) rfl (lv_sub hl [2, 3, 1, 0] rfl)
set_option maxHeartbeats 4000000 in
set_option maxRecDepth 100000 in
theorem c_X6_digest {l : Launch} {E : GE} (hE : Env0 E) {S : ST} {n : Nat} {z : Nat → Int32} {mm : Nat → Nat → Int32} (h : LnIs (sL S) 0 n z mm) {u_n u_m : Nat} (hL : (sT S).1 1 = nI u_n) (hH : (sH S).2 = nI u_m) : MR l E yX6_digest cX6_digest 4 (some .long) 6 130 S [.ref (gA E 83)] (some (.long (f_dig n z mm u_n u_m))) := by
  refine MR.of hE (by decide) (Nat.le_of_ble_eq_true rfl) ?_
  intro p e s m below meth c ls C hJ hr hl
  have hx := C.x
  have hb := C.b
  have hl : lv_has ls 4 [(0, .ref (gA E 83))] := hl
  refine lv_ldc2 hx hb C.ow (C.ts _ kl_X6_174) dX6_digest_0 ?_
  refine lv_aload_n hx hb dX6_digest_3 rfl (lv_at hl 0 rfl) ?_
  refine g_X6_22 C hJ dX6_digest_4 ?_
  refine g_X6_168 C hJ dX6_digest_7 ?_
  refine lv_i2l (v := ((sH S).2).toInt64) hx hb dX6_digest_10 rfl ?_
  refine lv_ladd hx hb dX6_digest_11 ?_
  refine lv_lstore_n (lv' := [(1, .long (1359102 + (((sH S).2).toInt64))), (0, .ref (gA E 83))]) hx hb dX6_digest_12 rfl hl (by decide) rfl (fun ls hl => ?_)
  refine lv_iconst (v := 0) hx hb dX6_digest_13 (by decide) ?_
  refine lv_istore_n (lv' := [(3, .int 0), (1, .long (1359102 + (((sH S).2).toInt64))), (0, .ref (gA E 83))]) hx hb dX6_digest_14 rfl hl (by decide) rfl (fun ls hl => ?_)
  have lp : ∀ (d : Nat) (i : Nat) (xa : Int64) (ls : Array Slot), (i ≤ 14) → (14 < i + d) → (xa = dI (fun w => f_whole n z mm u_n w) i (1359102 + (nI u_m).toInt64)) → lv_has ls 4 [(0, .ref (gA E 83)), (1, .long xa), (3, .int (nI i))] → W p l e (rmZ 6 130) s m ([.ref (gA E 83)] : List Value).toArray below meth c s.heap [] 0 0 (RQ below ([.ref (gA E 83)] : List Value).toArray s (some (.long (f_dig n z mm u_n u_m)))) (F0 m 15 ls []) := by
    intro d
    induction d with
    | zero =>
      intro i xa ls hi hd ea hl
      omega
    | succ d ih_lp =>
      intro i xa ls hi hd ea hl
      refine lv_iload_n hx hb dX6_digest_15 rfl (lv_at hl 2 rfl) ?_
      refine lv_bipush (v := 14) hx hb dX6_digest_16 (by decide) ?_
      refine lv_icmp_ge (tgt := 40) hx hb dX6_digest_18 (by decide) (fun c_18 => ?_) (fun c_18 => ?_)
      · skip
        have e9 : i = 14 := eqOfLe (N := 14) hi (by omega) c_18
        refine lv_aload_n hx hb dX6_digest_40 rfl (lv_at hl 0 rfl) ?_
        refine lv_lload_n hx hb dX6_digest_41 rfl (lv_at hl 1 rfl) ?_
        refine cr_X6_178 C hJ (rest := []) (c_X6_digestMembers hE h xa) dX6_digest_42 hl.1 ⟨Nat.le_of_ble_eq_true rfl, Nat.le_of_ble_eq_true rfl⟩ ⟨Nat.le_refl _, Nat.le_refl _⟩ (Nat.le_of_ble_eq_true rfl) rfl rfl ?_
        refine lv_lstore_n (lv' := [(1, .long (f_dm (gof n mm) n xa)), (0, .ref (gA E 83)), (3, .int (nI i))]) hx hb dX6_digest_45 rfl hl (by decide) rfl (fun ls hl => ?_)
        refine lv_aload_n hx hb dX6_digest_46 rfl (lv_at hl 1 rfl) ?_
        refine lv_lload_n hx hb dX6_digest_47 rfl (lv_at hl 0 rfl) ?_
        refine cr_X6_182 C hJ (rest := []) (c_X6_digestPairs hE h (f_dm (gof n mm) n xa)) dX6_digest_48 hl.1 ⟨Nat.le_of_ble_eq_true rfl, Nat.le_of_ble_eq_true rfl⟩ ⟨Nat.le_refl _, Nat.le_refl _⟩ (Nat.le_of_ble_eq_true rfl) rfl rfl ?_
        refine lv_lstore_n (lv' := [(1, .long (f_dp (gof n mm) (z 3) (n - 1) (f_dm (gof n mm) n xa))), (0, .ref (gA E 83)), (3, .int (nI i))]) hx hb dX6_digest_51 rfl hl (by decide) rfl (fun ls hl => ?_)
        refine lv_ldc2 hx hb C.ow (C.ts _ kl_X6_176) dX6_digest_52 ?_
        refine lv_lload_n hx hb dX6_digest_55 rfl (lv_at hl 0 rfl) ?_
        refine lv_lmul hx hb dX6_digest_56 ?_
        refine lv_aload_n hx hb dX6_digest_57 rfl (lv_at hl 1 rfl) ?_
        refine g_X6_10 C hJ dX6_digest_58 ?_
        refine cr_X6_139 C hJ (k := 0) (by decide) (rest := [.long (31 * (f_dp (gof n mm) (z 3) (n - 1) (f_dm (gof n mm) n xa)))]) (cu_wrongPairs hE (k := 0) (by decide) h ) dX6_digest_61 hl.1 ⟨Nat.le_of_ble_eq_true rfl, Nat.le_of_ble_eq_true rfl⟩ ⟨Nat.le_refl _, Nat.le_refl _⟩ (Nat.le_of_ble_eq_true rfl) rfl rfl ?_
        refine lv_i2l (v := (f_wrong (gof n mm) n).toInt64) hx hb dX6_digest_64 rfl ?_
        refine lv_ladd hx hb dX6_digest_65 ?_
        exact rR_l C hr (by rw [ea, e9]; rfl) dX6_digest_66
      · skip
        have hlt : i < 14 := ltOfNle (N := 14) (by omega) c_18
        refine lv_ldc2 hx hb C.ow (C.ts _ kl_X6_176) dX6_digest_21 ?_
        refine lv_lload_n hx hb dX6_digest_24 rfl (lv_at hl 1 rfl) ?_
        refine lv_lmul hx hb dX6_digest_25 ?_
        refine lv_aload_n hx hb dX6_digest_26 rfl (lv_at hl 0 rfl) ?_
        refine lv_iload_n hx hb dX6_digest_27 rfl (lv_at hl 2 rfl) ?_
        refine cr_X6_117 C hJ (rest := [.long (31 * xa)]) (c_X6_wholeValue hE h hL i (by omega)) dX6_digest_28 hl.1 ⟨Nat.le_of_ble_eq_true rfl, Nat.le_of_ble_eq_true rfl⟩ ⟨Nat.le_refl _, Nat.le_refl _⟩ (Nat.le_of_ble_eq_true rfl) rfl rfl ?_
        refine lv_i2l (v := (f_whole n z mm u_n i).toInt64) hx hb dX6_digest_31 rfl ?_
        refine lv_ladd hx hb dX6_digest_32 ?_
        refine lv_lstore_n (lv' := [(1, .long ((31 * xa) + ((f_whole n z mm u_n i).toInt64))), (0, .ref (gA E 83)), (3, .int (nI i))]) hx hb dX6_digest_33 rfl hl (by decide) rfl (fun ls hl => ?_)
        refine lv_iinc (v := nI (i + 1)) (lv' := [(3, .int (nI (i + 1))), (1, .long ((31 * xa) + ((f_whole n z mm u_n i).toInt64))), (0, .ref (gA E 83))]) hx hb dX6_digest_34 hl (k := 2) rfl (by exact nI_1 i) (by decide) rfl (fun ls hl => ?_)
        refine lv_goto (tgt := 15) hx hb dX6_digest_37 (by decide) ?_
        exact ih_lp (i + 1) _ _ (by omega) (by omega) (by rw [ea]; rfl) (lv_sub hl [2, 1, 0] rfl)
  exact lp 15 0 _ _ (Nat.zero_le _) (by omega) (by rw [hH]; rfl) (lv_sub hl [2, 1, 0] rfl)
