/-! QUEUE, its helpers (by program) -/
set_option maxHeartbeats 4000000 in
set_option maxRecDepth 100000 in
theorem c_X6_isWithin {l : Launch} {E : GE} (hE : Env0 E) {S : ST} (p0 p1 p2 : Int32) : MR l E yX6_isWithin cX6_isWithin 3 (some .boolean) 0 0 S [.int p0, .int p1, .int p2] (some (.int (bI (f_in p0 p1 p2)))) := by
  refine MR.of hE (by decide) (Nat.le_of_ble_eq_true rfl) ?_
  intro p e s m below meth c ls C hJ hr hl
  have hx := C.x
  have hb := C.b
  have hl : lv_has ls 3 [(0, .int p0), (1, .int p1), (2, .int p2)] := hl
  refine lv_iload_n hx hb dX6_isWithin_0 rfl (lv_at hl 0 rfl) ?_
  refine lv_iload_n hx hb dX6_isWithin_1 rfl (lv_at hl 1 rfl) ?_
  refine lv_icmp_lt (tgt := 14) hx hb dX6_isWithin_2 (by decide) (fun c_2 => ?_) (fun c_2 => ?_)
  · skip
    refine lv_iconst (v := 0) hx hb dX6_isWithin_14 (by decide) ?_
    exact rR_i C hr rfl (by unfold f_in bI; first | (rw [decide_eq_false (Int32.not_le.mpr c_2)]; rfl) | (rw [decide_eq_false (Int32.not_le.mpr c_7), Bool.and_false]; rfl)) dX6_isWithin_15
  · skip
    refine lv_iload_n hx hb dX6_isWithin_5 rfl (lv_at hl 0 rfl) ?_
    refine lv_iload_n hx hb dX6_isWithin_6 rfl (lv_at hl 2 rfl) ?_
    refine lv_icmp_gt (tgt := 14) hx hb dX6_isWithin_7 (by decide) (fun c_7 => ?_) (fun c_7 => ?_)
    · skip
      refine lv_iconst (v := 0) hx hb dX6_isWithin_14 (by decide) ?_
      exact rR_i C hr rfl (by unfold f_in bI; first | (rw [decide_eq_false (Int32.not_le.mpr c_2)]; rfl) | (rw [decide_eq_false (Int32.not_le.mpr c_7), Bool.and_false]; rfl)) dX6_isWithin_15
    · skip
      refine lv_iconst (v := 1) hx hb dX6_isWithin_10 (by decide) ?_
      refine lv_goto (tgt := 15) hx hb dX6_isWithin_11 (by decide) ?_
      exact rR_i C hr rfl (by unfold f_in bI; rw [decide_eq_true (Int32.not_lt.mp c_2), decide_eq_true (Int32.not_lt.mp c_7)]; rfl) dX6_isWithin_15
set_option maxHeartbeats 4000000 in
set_option maxRecDepth 100000 in
theorem c_X6_memberFault {l : Launch} {E : GE} (hE : Env0 E) {S : ST} (p0 p1 : Int32) : MR l E yX6_memberFault cX6_memberFault 3 (some .int) 0 0 S [.ref (gA E 83), .int p0, .int p1] (some (.int (f_mf p0 p1))) := by
  refine MR.of hE (by decide) (Nat.le_of_ble_eq_true rfl) ?_
  intro p e s m below meth c ls C hJ hr hl
  have hx := C.x
  have hb := C.b
  have hl : lv_has ls 3 [(0, .ref (gA E 83)), (1, .int p0), (2, .int p1)] := hl
  refine lv_iload_n hx hb dX6_memberFault_0 rfl (lv_at hl 1 rfl) ?_
  refine lv_iconst (v := (-1)) hx hb dX6_memberFault_1 (by decide) ?_
  refine lv_icmp_ne (tgt := 7) hx hb dX6_memberFault_2 (by decide) (fun c_2 => ?_) (fun c_2 => ?_)
  · skip
    refine lv_iload_n hx hb dX6_memberFault_7 rfl (lv_at hl 2 rfl) ?_
    refine lv_if_eq (tgt := 15) hx hb dX6_memberFault_8 (by decide) (fun c_8 => ?_) (fun c_8 => ?_)
    · skip
      refine lv_iconst (v := 2) hx hb dX6_memberFault_15 (by decide) ?_
      exact rR_i C hr rfl (by unfold f_mf; rw [if_neg c_2, if_pos c_8]) dX6_memberFault_16
    · skip
      refine lv_iconst (v := 0) hx hb dX6_memberFault_11 (by decide) ?_
      refine lv_goto (tgt := 16) hx hb dX6_memberFault_12 (by decide) ?_
      exact rR_i C hr rfl (by unfold f_mf; rw [if_neg c_2, if_neg c_8]) dX6_memberFault_16
  · skip
    refine lv_iconst (v := 1) hx hb dX6_memberFault_5 (by decide) ?_
    exact rR_i C hr rfl (by unfold f_mf; rw [if_pos c_2]) dX6_memberFault_6
set_option maxHeartbeats 4000000 in
set_option maxRecDepth 100000 in
theorem c_X6_pairFault {l : Launch} {E : GE} (hE : Env0 E) {S : ST} {n : Nat} {z : Nat → Int32} {mm : Nat → Nat → Int32} (h : LnIs (sL S) 0 n z mm) (p0 p1 p2 : Int32) : MR l E yX6_pairFault cX6_pairFault 4 (some .int) 1 22 S [.ref (gA E 83), .int p0, .int p1, .int p2] (some (.int (f_pf n p0 p1 p2))) := by
  refine MR.of hE (by decide) (Nat.le_of_ble_eq_true rfl) ?_
  intro p e s m below meth c ls C hJ hr hl
  have hx := C.x
  have hb := C.b
  have hl : lv_has ls 4 [(0, .ref (gA E 83)), (1, .int p0), (2, .int p1), (3, .int p2)] := hl
  refine lv_iload_n hx hb dX6_pairFault_0 rfl (lv_at hl 1 rfl) ?_
  refine lv_iconst (v := 0) hx hb dX6_pairFault_1 (by decide) ?_
  refine lv_aload_n hx hb dX6_pairFault_2 rfl (lv_at hl 0 rfl) ?_
  refine g_X6_10 C hJ dX6_pairFault_3 ?_
  refine g_X6_185 C hJ (k := 0) (by decide) dX6_pairFault_6 ?_
  refine lv_iconst (v := 2) hx hb dX6_pairFault_9 (by decide) ?_
  refine lv_isub hx hb dX6_pairFault_10 ?_
  refine cr_X6_55 C hJ (rest := []) (c_X6_isWithin hE p0 0 ((sc (sL S) 0 2) - 2)) dX6_pairFault_11 hl.1 ⟨Nat.le_of_ble_eq_true rfl, Nat.le_of_ble_eq_true rfl⟩ ⟨Nat.le_refl _, Nat.le_refl _⟩ (Nat.le_of_ble_eq_true rfl) rfl rfl ?_
  refine lv_if_ne (tgt := 19) hx hb dX6_pairFault_14 (by decide) (fun c_14 => ?_) (fun c_14 => ?_)
  · skip
    have q14 := bI_1 c_14
    rw [h.1.2.1] at q14
    refine lv_iload_n hx hb dX6_pairFault_19 rfl (lv_at hl 2 rfl) ?_
    refine lv_if_eq (tgt := 27) hx hb dX6_pairFault_20 (by decide) (fun c_20 => ?_) (fun c_20 => ?_)
    · skip
      refine lv_iload_n hx hb dX6_pairFault_27 rfl (lv_at hl 3 rfl) ?_
      exact rR_i C hr rfl (by unfold f_pf; rw [if_pos q14, if_pos c_20]) dX6_pairFault_28
    · skip
      refine lv_iconst (v := 0) hx hb dX6_pairFault_23 (by decide) ?_
      refine lv_goto (tgt := 28) hx hb dX6_pairFault_24 (by decide) ?_
      exact rR_i C hr rfl (by unfold f_pf; rw [if_pos q14, if_neg c_20]) dX6_pairFault_28
  · skip
    have q14 := bI_0 c_14
    rw [h.1.2.1] at q14
    refine lv_iconst (v := 1) hx hb dX6_pairFault_17 (by decide) ?_
    exact rR_i C hr rfl (by unfold f_pf; rw [if_neg (by rw [q14]; decide)]) dX6_pairFault_18
set_option maxHeartbeats 4000000 in
set_option maxRecDepth 100000 in
theorem c_X6_joinFault {l : Launch} {E : GE} (hE : Env0 E) {S : ST} {n : Nat} {z : Nat → Int32} {mm : Nat → Nat → Int32} (h : LnIs (sL S) 0 n z mm) (p0 p1 p2 : Int32) : MR l E yX6_joinFault cX6_joinFault 5 (some .int) 1 22 S [.ref (gA E 83), .int p0, .int p1, .int p2] (some (.int (f_jf (gof n mm) n p0 p1 p2))) := by
  have hg : gm (sL S) 0 = gof n mm := h.sgm
  refine MR.of hE (by decide) (Nat.le_of_ble_eq_true rfl) ?_
  intro p e s m below meth c ls C hJ hr hl
  have hx := C.x
  have hb := C.b
  have hl : lv_has ls 5 [(0, .ref (gA E 83)), (1, .int p0), (2, .int p1), (3, .int p2)] := hl
  refine lv_iload_n hx hb dX6_joinFault_0 rfl (lv_at hl 1 rfl) ?_
  refine lv_iconst (v := 0) hx hb dX6_joinFault_1 (by decide) ?_
  refine lv_bipush (v := 99) hx hb dX6_joinFault_2 (by decide) ?_
  refine cr_X6_55 C hJ (rest := []) (c_X6_isWithin hE p0 0 99) dX6_joinFault_4 hl.1 ⟨Nat.le_of_ble_eq_true rfl, Nat.le_of_ble_eq_true rfl⟩ ⟨Nat.le_refl _, Nat.le_refl _⟩ (Nat.le_of_ble_eq_true rfl) rfl rfl ?_
  refine lv_if_eq (tgt := 35) hx hb dX6_joinFault_7 (by decide) (fun c_7 => ?_) (fun c_7 => ?_)
  · skip
    have q7 := bI_0 c_7
    refine lv_iconst (v := 2) hx hb dX6_joinFault_35 (by decide) ?_
    exact rR_i C hr rfl (by unfold f_jf; first | (rw [if_neg (by rw [q7]; decide)]) | (rw [if_pos q7, if_neg (by rw [q17]; decide)]) | (rw [if_pos q7, if_pos q17, if_neg (by rw [q32]; decide)])) dX6_joinFault_36
  · skip
    have q7 := bI_1 c_7
    refine lv_iload_n hx hb dX6_joinFault_10 rfl (lv_at hl 2 rfl) ?_
    refine lv_iconst (v := 1) hx hb dX6_joinFault_11 (by decide) ?_
    refine lv_bipush (v := 30) hx hb dX6_joinFault_12 (by decide) ?_
    refine cr_X6_55 C hJ (rest := []) (c_X6_isWithin hE p1 1 30) dX6_joinFault_14 hl.1 ⟨Nat.le_of_ble_eq_true rfl, Nat.le_of_ble_eq_true rfl⟩ ⟨Nat.le_refl _, Nat.le_refl _⟩ (Nat.le_of_ble_eq_true rfl) rfl rfl ?_
    refine lv_if_eq (tgt := 35) hx hb dX6_joinFault_17 (by decide) (fun c_17 => ?_) (fun c_17 => ?_)
    · skip
      have q17 := bI_0 c_17
      refine lv_iconst (v := 2) hx hb dX6_joinFault_35 (by decide) ?_
      exact rR_i C hr rfl (by unfold f_jf; first | (rw [if_neg (by rw [q7]; decide)]) | (rw [if_pos q7, if_neg (by rw [q17]; decide)]) | (rw [if_pos q7, if_pos q17, if_neg (by rw [q32]; decide)])) dX6_joinFault_36
    · skip
      have q17 := bI_1 c_17
      refine lv_iload_n hx hb dX6_joinFault_20 rfl (lv_at hl 3 rfl) ?_
      refine lv_iconst (v := 0) hx hb dX6_joinFault_21 (by decide) ?_
      refine lv_aload_n hx hb dX6_joinFault_22 rfl (lv_at hl 0 rfl) ?_
      refine g_X6_10 C hJ dX6_joinFault_23 ?_
      refine g_X6_185 C hJ (k := 0) (by decide) dX6_joinFault_26 ?_
      refine cr_X6_55 C hJ (rest := []) (c_X6_isWithin hE p2 0 (sc (sL S) 0 2)) dX6_joinFault_29 hl.1 ⟨Nat.le_of_ble_eq_true rfl, Nat.le_of_ble_eq_true rfl⟩ ⟨Nat.le_refl _, Nat.le_refl _⟩ (Nat.le_of_ble_eq_true rfl) rfl rfl ?_
      refine lv_if_ne (tgt := 37) hx hb dX6_joinFault_32 (by decide) (fun c_32 => ?_) (fun c_32 => ?_)
      · skip
        have q32 := bI_1 c_32
        rw [h.1.2.1] at q32
        refine lv_aload_n hx hb dX6_joinFault_37 rfl (lv_at hl 0 rfl) ?_
        refine g_X6_10 C hJ dX6_joinFault_38 ?_
        refine lv_iload_n hx hb dX6_joinFault_41 rfl (lv_at hl 3 rfl) ?_
        refine cr_X6_101 C hJ (k := 0) (by decide) (rest := []) (c_X4_memberAt hE (by decide) h.1 p2) dX6_joinFault_42 hl.1 ⟨Nat.le_of_ble_eq_true rfl, Nat.le_of_ble_eq_true rfl⟩ ⟨Nat.le_refl _, Nat.le_refl _⟩ (Nat.le_of_ble_eq_true rfl) rfl rfl ?_
        refine g_X6_256 C hJ (k := 0) (by decide) (ix_lt h.1 _) dX6_joinFault_45 ?_
        refine lv_istore (lv' := [(4, .int (mb (sL S) 0 (ix (sL S) 0 p2) 6)), (0, .ref (gA E 83)), (1, .int p0), (2, .int p1), (3, .int p2)]) hx hb dX6_joinFault_48 hl (by decide) rfl (fun ls hl => ?_)
        refine lv_aload_n hx hb dX6_joinFault_50 rfl (lv_at hl 1 rfl) ?_
        refine g_X6_10 C hJ dX6_joinFault_51 ?_
        refine g_X6_185 C hJ (k := 0) (by decide) dX6_joinFault_54 ?_
        refine lv_bipush (v := 10) hx hb dX6_joinFault_57 (by decide) ?_
        refine lv_icmp_ge (tgt := 67) hx hb dX6_joinFault_59 (by decide) (fun c_59 => ?_) (fun c_59 => ?_)
        · skip
          rw [h.1.2.1] at c_59
          refine lv_iconst (v := 3) hx hb dX6_joinFault_67 (by decide) ?_
          refine lv_goto (tgt := 72) hx hb dX6_joinFault_68 (by decide) ?_
          exact rR_i C hr rfl (by unfold f_jf; first | (rw [if_pos q7, if_pos q17, if_pos q32, if_pos c_59]) | (rw [if_pos q7, if_pos q17, if_pos q32, if_neg c_59, if_neg q64])) dX6_joinFault_72
        · skip
          rw [h.1.2.1] at c_59
          refine lv_iload hx hb dX6_joinFault_62 (lv_at hl 0 rfl) ?_
          refine lv_if_eq (tgt := 71) hx hb dX6_joinFault_64 (by decide) (fun c_64 => ?_) (fun c_64 => ?_)
          · skip
            have q64 : gof n mm p2 6 = 0 := by rw [← hg]; exact c_64
            refine lv_iconst (v := 0) hx hb dX6_joinFault_71 (by decide) ?_
            exact rR_i C hr rfl (by unfold f_jf; rw [if_pos q7, if_pos q17, if_pos q32, if_neg c_59, if_pos q64]) dX6_joinFault_72
          · skip
            have q64 : ¬ gof n mm p2 6 = 0 := by rw [← hg]; exact c_64
            refine lv_iconst (v := 3) hx hb dX6_joinFault_67 (by decide) ?_
            refine lv_goto (tgt := 72) hx hb dX6_joinFault_68 (by decide) ?_
            exact rR_i C hr rfl (by unfold f_jf; first | (rw [if_pos q7, if_pos q17, if_pos q32, if_pos c_59]) | (rw [if_pos q7, if_pos q17, if_pos q32, if_neg c_59, if_neg q64])) dX6_joinFault_72
      · skip
        have q32 := bI_0 c_32
        rw [h.1.2.1] at q32
        refine lv_iconst (v := 2) hx hb dX6_joinFault_35 (by decide) ?_
        exact rR_i C hr rfl (by unfold f_jf; first | (rw [if_neg (by rw [q7]; decide)]) | (rw [if_pos q7, if_neg (by rw [q17]; decide)]) | (rw [if_pos q7, if_pos q17, if_neg (by rw [q32]; decide)])) dX6_joinFault_36
set_option maxHeartbeats 4000000 in
set_option maxRecDepth 100000 in
theorem c_X6_offerFault {l : Launch} {E : GE} (hE : Env0 E) {S : ST} (p0 p1 : Int32) : MR l E yX6_offerFault cX6_offerFault 4 (some .int) 1 22 S [.ref (gA E 83), .int p0, .int p1] (some (.int (f_of p0 p1))) := by
  refine MR.of hE (by decide) (Nat.le_of_ble_eq_true rfl) ?_
  intro p e s m below meth c ls C hJ hr hl
  have hx := C.x
  have hb := C.b
  have hl : lv_has ls 4 [(0, .ref (gA E 83)), (1, .int p0), (2, .int p1)] := hl
  refine lv_aload_n hx hb dX6_offerFault_0 rfl (lv_at hl 0 rfl) ?_
  refine lv_iload_n hx hb dX6_offerFault_1 rfl (lv_at hl 1 rfl) ?_
  refine lv_iload_n hx hb dX6_offerFault_2 rfl (lv_at hl 2 rfl) ?_
  refine lv_iconst (v := 0) hx hb dX6_offerFault_3 (by decide) ?_
  refine lv_sipush (v := 9999) hx hb dX6_offerFault_4 (by decide) ?_
  refine cr_X6_55 C hJ (rest := [.int p0, .ref (gA E 83)]) (c_X6_isWithin hE p1 0 9999) dX6_offerFault_7 hl.1 ⟨Nat.le_of_ble_eq_true rfl, Nat.le_of_ble_eq_true rfl⟩ ⟨Nat.le_refl _, Nat.le_refl _⟩ (Nat.le_of_ble_eq_true rfl) rfl rfl ?_
  refine cr_X6_93 C hJ (rest := []) (c_X6_memberFault hE p0 (bI (f_in p1 0 9999))) dX6_offerFault_10 hl.1 ⟨Nat.le_of_ble_eq_true rfl, Nat.le_of_ble_eq_true rfl⟩ ⟨Nat.le_refl _, Nat.le_refl _⟩ (Nat.le_of_ble_eq_true rfl) rfl rfl ?_
  refine lv_istore_n (lv' := [(3, .int (f_mf p0 (bI (f_in p1 0 9999)))), (0, .ref (gA E 83)), (1, .int p0), (2, .int p1)]) hx hb dX6_offerFault_13 rfl hl (by decide) rfl (fun ls hl => ?_)
  refine lv_iload_n hx hb dX6_offerFault_14 rfl (lv_at hl 0 rfl) ?_
  refine lv_if_ne (tgt := 26) hx hb dX6_offerFault_15 (by decide) (fun c_15 => ?_) (fun c_15 => ?_)
  · skip
    refine lv_iload_n hx hb dX6_offerFault_26 rfl (lv_at hl 0 rfl) ?_
    exact rR_i C hr rfl (by unfold f_of; first | (rw [if_neg c_15]) | (rw [if_pos c_15, if_neg c_19])) dX6_offerFault_27
  · skip
    refine lv_iload_n hx hb dX6_offerFault_18 rfl (lv_at hl 2 rfl) ?_
    refine lv_if_ne (tgt := 26) hx hb dX6_offerFault_19 (by decide) (fun c_19 => ?_) (fun c_19 => ?_)
    · skip
      refine lv_iload_n hx hb dX6_offerFault_26 rfl (lv_at hl 0 rfl) ?_
      exact rR_i C hr rfl (by unfold f_of; first | (rw [if_neg c_15]) | (rw [if_pos c_15, if_neg c_19])) dX6_offerFault_27
    · skip
      refine lv_iconst (v := 3) hx hb dX6_offerFault_22 (by decide) ?_
      refine lv_goto (tgt := 27) hx hb dX6_offerFault_23 (by decide) ?_
      exact rR_i C hr rfl (by unfold f_of; rw [if_pos c_15, if_pos c_19]) dX6_offerFault_27
set_option maxHeartbeats 4000000 in
set_option maxRecDepth 100000 in
theorem c_X6_takeFault {l : Launch} {E : GE} (hE : Env0 E) {S : ST} {n : Nat} {z : Nat → Int32} {mm : Nat → Nat → Int32} (h : LnIs (sL S) 0 n z mm) (p0 : Int32) : MR l E yX6_takeFault cX6_takeFault 3 (some .int) 3 65 S [.ref (gA E 83), .int p0] (some (.int (f_tf (gof n mm) p0))) := by
  refine MR.of hE (by decide) (Nat.le_of_ble_eq_true rfl) ?_
  intro p e s m below meth c ls C hJ hr hl
  have hx := C.x
  have hb := C.b
  have hl : lv_has ls 3 [(0, .ref (gA E 83)), (1, .int p0)] := hl
  refine lv_aload_n hx hb dX6_takeFault_0 rfl (lv_at hl 0 rfl) ?_
  refine lv_iload_n hx hb dX6_takeFault_1 rfl (lv_at hl 1 rfl) ?_
  refine lv_iconst (v := 1) hx hb dX6_takeFault_2 (by decide) ?_
  refine cr_X6_93 C hJ (rest := []) (c_X6_memberFault hE p0 1) dX6_takeFault_3 hl.1 ⟨Nat.le_of_ble_eq_true rfl, Nat.le_of_ble_eq_true rfl⟩ ⟨Nat.le_refl _, Nat.le_refl _⟩ (Nat.le_of_ble_eq_true rfl) rfl rfl ?_
  refine lv_istore_n (lv' := [(2, .int (f_mf p0 1)), (0, .ref (gA E 83)), (1, .int p0)]) hx hb dX6_takeFault_6 rfl hl (by decide) rfl (fun ls hl => ?_)
  refine lv_iload_n hx hb dX6_takeFault_7 rfl (lv_at hl 0 rfl) ?_
  refine lv_if_ne (tgt := 26) hx hb dX6_takeFault_8 (by decide) (fun c_8 => ?_) (fun c_8 => ?_)
  · skip
    refine lv_iload_n hx hb dX6_takeFault_26 rfl (lv_at hl 0 rfl) ?_
    exact rR_i C hr rfl (by unfold f_tf; first | (rw [if_neg c_8]) | (rw [if_pos c_8, if_neg c_19])) dX6_takeFault_27
  · skip
    refine lv_aload_n hx hb dX6_takeFault_11 rfl (lv_at hl 1 rfl) ?_
    refine g_X6_10 C hJ dX6_takeFault_12 ?_
    refine lv_iload_n hx hb dX6_takeFault_15 rfl (lv_at hl 2 rfl) ?_
    refine cr_X6_260 C hJ (k := 0) (by decide) (rest := []) (cu_wouldTake hE (k := 0) (by decide) h p0) dX6_takeFault_16 hl.1 ⟨Nat.le_of_ble_eq_true rfl, Nat.le_of_ble_eq_true rfl⟩ ⟨Nat.le_refl _, Nat.le_refl _⟩ (Nat.le_of_ble_eq_true rfl) rfl rfl ?_
    refine lv_if_ne (tgt := 26) hx hb dX6_takeFault_19 (by decide) (fun c_19 => ?_) (fun c_19 => ?_)
    · skip
      refine lv_iload_n hx hb dX6_takeFault_26 rfl (lv_at hl 0 rfl) ?_
      exact rR_i C hr rfl (by unfold f_tf; first | (rw [if_neg c_8]) | (rw [if_pos c_8, if_neg c_19])) dX6_takeFault_27
    · skip
      refine lv_iconst (v := 3) hx hb dX6_takeFault_22 (by decide) ?_
      refine lv_goto (tgt := 27) hx hb dX6_takeFault_23 (by decide) ?_
      exact rR_i C hr rfl (by unfold f_tf; rw [if_pos c_8, if_pos c_19]) dX6_takeFault_27
set_option maxHeartbeats 4000000 in
set_option maxRecDepth 100000 in
theorem c_X6_faultOf {l : Launch} {E : GE} (hE : Env0 E) {S : ST} {X : EX} (hX : Env1 E X) {n : Nat} {z : Nat → Int32} {mm : Nat → Nat → Int32} (h : LnIs (sL S) 0 n z mm) {u_j : Nat} (hj : u_j < 11) (p0 p1 p2 : Int32) : MR l E yX6_faultOf cX6_faultOf 5 (some .int) 4 87 S [.ref (gA E 83), .ref (gN E u_j), .int p0, .int p1, .int p2] (some (.int (f_ft (gof n mm) n u_j p0 p1 p2))) := by
  refine MR.of hE (by decide) (Nat.le_of_ble_eq_true rfl) ?_
  intro p e s m below meth c ls C hJ hr hl
  have hx := C.x
  have hb := C.b
  have hl : lv_has ls 5 [(0, .ref (gA E 83)), (1, .ref (gN E u_j)), (2, .int p0), (3, .int p1), (4, .int p2)] := hl
  refine i_Z C hJ hX.2.2.2.1 kf_X6_206 rfl dX6_faultOf_0 ?_
  refine lv_aload_n hx hb dX6_faultOf_3 rfl (lv_at hl 1 rfl) ?_
  refine o_212 C hJ hX (rest := [.ref X.2.2.1]) hj dX6_faultOf_4 hl.1 ⟨Nat.le_of_ble_eq_true rfl, Nat.le_of_ble_eq_true rfl⟩ ⟨Nat.le_refl _, Nat.le_refl _⟩ (Nat.le_of_ble_eq_true rfl) ?_
  refine i_Ti C hJ hX.2.2.2.2.1 (j := u_j) hj (by decide) rfl rfl dX6_faultOf_7 ?_
  rcases (show u_j = 0 ∨ u_j = 1 ∨ u_j = 2 ∨ u_j = 3 ∨ u_j = 4 ∨ u_j = 5 ∨ u_j = 6 ∨ u_j = 7 ∨ u_j = 8 ∨ u_j = 9 ∨ u_j = 10 by omega) with e_sw | e_sw | e_sw | e_sw | e_sw | e_sw | e_sw | e_sw | e_sw | e_sw | e_sw
  · skip
    refine lv_tableIn (off := 56) (tgt := 64) hx hb dX6_faultOf_8 (by rw [e_sw]; decide) (by rw [e_sw]; decide) (by rw [e_sw]; rfl) (by decide) ?_
    refine lv_aload_n hx hb dX6_faultOf_64 rfl (lv_at hl 0 rfl) ?_
    refine lv_iload_n hx hb dX6_faultOf_65 rfl (lv_at hl 2 rfl) ?_
    refine lv_iload_n hx hb dX6_faultOf_66 rfl (lv_at hl 3 rfl) ?_
    refine lv_aload_n hx hb dX6_faultOf_67 rfl (lv_at hl 0 rfl) ?_
    refine g_X6_10 C hJ dX6_faultOf_68 ?_
    refine g_X6_185 C hJ (k := 0) (by decide) dX6_faultOf_71 ?_
    refine cr_X6_215 C hJ (rest := []) (c_X6_joinFault hE h p0 p1 (sc (sL S) 0 2)) dX6_faultOf_74 hl.1 ⟨Nat.le_of_ble_eq_true rfl, Nat.le_of_ble_eq_true rfl⟩ ⟨Nat.le_refl _, Nat.le_refl _⟩ (Nat.le_of_ble_eq_true rfl) rfl rfl ?_
    exact rR_i C hr rfl (by rw [e_sw, h.1.2.1]; rfl) dX6_faultOf_77
  · skip
    refine lv_tableIn (off := 70) (tgt := 78) hx hb dX6_faultOf_8 (by rw [e_sw]; decide) (by rw [e_sw]; decide) (by rw [e_sw]; rfl) (by decide) ?_
    refine lv_aload_n hx hb dX6_faultOf_78 rfl (lv_at hl 0 rfl) ?_
    refine lv_iload_n hx hb dX6_faultOf_79 rfl (lv_at hl 2 rfl) ?_
    refine lv_iload_n hx hb dX6_faultOf_80 rfl (lv_at hl 3 rfl) ?_
    refine lv_iload hx hb dX6_faultOf_81 (lv_at hl 4 rfl) ?_
    refine cr_X6_215 C hJ (rest := []) (c_X6_joinFault hE h p0 p1 p2) dX6_faultOf_83 hl.1 ⟨Nat.le_of_ble_eq_true rfl, Nat.le_of_ble_eq_true rfl⟩ ⟨Nat.le_refl _, Nat.le_refl _⟩ (Nat.le_of_ble_eq_true rfl) rfl rfl ?_
    exact rR_i C hr rfl (by rw [e_sw]; rfl) dX6_faultOf_86
  · skip
    refine lv_tableIn (off := 79) (tgt := 87) hx hb dX6_faultOf_8 (by rw [e_sw]; decide) (by rw [e_sw]; decide) (by rw [e_sw]; rfl) (by decide) ?_
    refine lv_aload_n hx hb dX6_faultOf_87 rfl (lv_at hl 0 rfl) ?_
    refine lv_aload_n hx hb dX6_faultOf_88 rfl (lv_at hl 0 rfl) ?_
    refine g_X6_10 C hJ dX6_faultOf_89 ?_
    refine lv_iload_n hx hb dX6_faultOf_92 rfl (lv_at hl 2 rfl) ?_
    refine cr_X6_89 C hJ (k := 0) (by decide) (rest := [.ref (gA E 83)]) (cu_placeOf hE (k := 0) (by decide) h p0) dX6_faultOf_93 hl.1 ⟨Nat.le_of_ble_eq_true rfl, Nat.le_of_ble_eq_true rfl⟩ ⟨Nat.le_refl _, Nat.le_refl _⟩ (Nat.le_of_ble_eq_true rfl) rfl rfl ?_
    refine lv_iconst (v := 1) hx hb dX6_faultOf_96 (by decide) ?_
    refine cr_X6_93 C hJ (rest := []) (c_X6_memberFault hE (f_place (gof n mm) n p0) 1) dX6_faultOf_97 hl.1 ⟨Nat.le_of_ble_eq_true rfl, Nat.le_of_ble_eq_true rfl⟩ ⟨Nat.le_refl _, Nat.le_refl _⟩ (Nat.le_of_ble_eq_true rfl) rfl rfl ?_
    exact rR_i C hr rfl (by rw [e_sw]; rfl) dX6_faultOf_100
  · skip
    refine lv_tableIn (off := 93) (tgt := 101) hx hb dX6_faultOf_8 (by rw [e_sw]; decide) (by rw [e_sw]; decide) (by rw [e_sw]; rfl) (by decide) ?_
    refine lv_aload_n hx hb dX6_faultOf_101 rfl (lv_at hl 0 rfl) ?_
    refine lv_aload_n hx hb dX6_faultOf_102 rfl (lv_at hl 0 rfl) ?_
    refine g_X6_10 C hJ dX6_faultOf_103 ?_
    refine lv_iload_n hx hb dX6_faultOf_106 rfl (lv_at hl 2 rfl) ?_
    refine cr_X6_89 C hJ (k := 0) (by decide) (rest := [.ref (gA E 83)]) (cu_placeOf hE (k := 0) (by decide) h p0) dX6_faultOf_107 hl.1 ⟨Nat.le_of_ble_eq_true rfl, Nat.le_of_ble_eq_true rfl⟩ ⟨Nat.le_refl _, Nat.le_refl _⟩ (Nat.le_of_ble_eq_true rfl) rfl rfl ?_
    refine lv_iload_n hx hb dX6_faultOf_110 rfl (lv_at hl 3 rfl) ?_
    refine lv_iconst (v := 0) hx hb dX6_faultOf_111 (by decide) ?_
    refine lv_bipush (v := 99) hx hb dX6_faultOf_112 (by decide) ?_
    refine cr_X6_55 C hJ (rest := [.int (f_place (gof n mm) n p0), .ref (gA E 83)]) (c_X6_isWithin hE p1 0 99) dX6_faultOf_114 hl.1 ⟨Nat.le_of_ble_eq_true rfl, Nat.le_of_ble_eq_true rfl⟩ ⟨Nat.le_refl _, Nat.le_refl _⟩ (Nat.le_of_ble_eq_true rfl) rfl rfl ?_
    refine cr_X6_93 C hJ (rest := []) (c_X6_memberFault hE (f_place (gof n mm) n p0) (bI (f_in p1 0 99))) dX6_faultOf_117 hl.1 ⟨Nat.le_of_ble_eq_true rfl, Nat.le_of_ble_eq_true rfl⟩ ⟨Nat.le_refl _, Nat.le_refl _⟩ (Nat.le_of_ble_eq_true rfl) rfl rfl ?_
    exact rR_i C hr rfl (by rw [e_sw]; rfl) dX6_faultOf_120
  · skip
    refine lv_tableIn (off := 113) (tgt := 121) hx hb dX6_faultOf_8 (by rw [e_sw]; decide) (by rw [e_sw]; decide) (by rw [e_sw]; rfl) (by decide) ?_
    refine lv_aload_n hx hb dX6_faultOf_121 rfl (lv_at hl 0 rfl) ?_
    refine lv_aload_n hx hb dX6_faultOf_122 rfl (lv_at hl 0 rfl) ?_
    refine g_X6_10 C hJ dX6_faultOf_123 ?_
    refine lv_iload_n hx hb dX6_faultOf_126 rfl (lv_at hl 2 rfl) ?_
    refine cr_X6_89 C hJ (k := 0) (by decide) (rest := [.ref (gA E 83)]) (cu_placeOf hE (k := 0) (by decide) h p0) dX6_faultOf_127 hl.1 ⟨Nat.le_of_ble_eq_true rfl, Nat.le_of_ble_eq_true rfl⟩ ⟨Nat.le_refl _, Nat.le_refl _⟩ (Nat.le_of_ble_eq_true rfl) rfl rfl ?_
    refine lv_iload_n hx hb dX6_faultOf_130 rfl (lv_at hl 3 rfl) ?_
    refine cr_X6_219 C hJ (rest := []) (c_X6_offerFault hE (f_place (gof n mm) n p0) p1) dX6_faultOf_131 hl.1 ⟨Nat.le_of_ble_eq_true rfl, Nat.le_of_ble_eq_true rfl⟩ ⟨Nat.le_refl _, Nat.le_refl _⟩ (Nat.le_of_ble_eq_true rfl) rfl rfl ?_
    exact rR_i C hr rfl (by rw [e_sw]; rfl) dX6_faultOf_134
  · skip
    refine lv_tableIn (off := 127) (tgt := 135) hx hb dX6_faultOf_8 (by rw [e_sw]; decide) (by rw [e_sw]; decide) (by rw [e_sw]; rfl) (by decide) ?_
    refine lv_aload_n hx hb dX6_faultOf_135 rfl (lv_at hl 0 rfl) ?_
    refine lv_aload_n hx hb dX6_faultOf_136 rfl (lv_at hl 0 rfl) ?_
    refine g_X6_10 C hJ dX6_faultOf_137 ?_
    refine lv_iload_n hx hb dX6_faultOf_140 rfl (lv_at hl 2 rfl) ?_
    refine cr_X6_89 C hJ (k := 0) (by decide) (rest := [.ref (gA E 83)]) (cu_placeOf hE (k := 0) (by decide) h p0) dX6_faultOf_141 hl.1 ⟨Nat.le_of_ble_eq_true rfl, Nat.le_of_ble_eq_true rfl⟩ ⟨Nat.le_refl _, Nat.le_refl _⟩ (Nat.le_of_ble_eq_true rfl) rfl rfl ?_
    refine cr_X6_222 C hJ (rest := []) (c_X6_takeFault hE h (f_place (gof n mm) n p0)) dX6_faultOf_144 hl.1 ⟨Nat.le_of_ble_eq_true rfl, Nat.le_of_ble_eq_true rfl⟩ ⟨Nat.le_refl _, Nat.le_refl _⟩ (Nat.le_of_ble_eq_true rfl) rfl rfl ?_
    exact rR_i C hr rfl (by rw [e_sw]; rfl) dX6_faultOf_147
  · skip
    refine lv_tableIn (off := 140) (tgt := 148) hx hb dX6_faultOf_8 (by rw [e_sw]; decide) (by rw [e_sw]; decide) (by rw [e_sw]; rfl) (by decide) ?_
    refine lv_aload_n hx hb dX6_faultOf_148 rfl (lv_at hl 0 rfl) ?_
    refine lv_iload_n hx hb dX6_faultOf_149 rfl (lv_at hl 2 rfl) ?_
    refine lv_aload_n hx hb dX6_faultOf_150 rfl (lv_at hl 0 rfl) ?_
    refine g_X6_10 C hJ dX6_faultOf_151 ?_
    refine lv_iload_n hx hb dX6_faultOf_154 rfl (lv_at hl 2 rfl) ?_
    refine cr_X6_225 C hJ (k := 0) (by decide) (rest := [.int p0, .ref (gA E 83)]) (cu_wouldSwap hE (k := 0) (by decide) h p0) dX6_faultOf_155 hl.1 ⟨Nat.le_of_ble_eq_true rfl, Nat.le_of_ble_eq_true rfl⟩ ⟨Nat.le_refl _, Nat.le_refl _⟩ (Nat.le_of_ble_eq_true rfl) rfl rfl ?_
    refine lv_iconst (v := 3) hx hb dX6_faultOf_158 (by decide) ?_
    refine cr_X6_110 C hJ (rest := []) (c_X6_pairFault hE h p0 (f_would (gof n mm) p0) 3) dX6_faultOf_159 hl.1 ⟨Nat.le_of_ble_eq_true rfl, Nat.le_of_ble_eq_true rfl⟩ ⟨Nat.le_refl _, Nat.le_refl _⟩ (Nat.le_of_ble_eq_true rfl) rfl rfl ?_
    exact rR_i C hr rfl (by rw [e_sw]; rfl) dX6_faultOf_162
  · skip
    refine lv_tableIn (off := 155) (tgt := 163) hx hb dX6_faultOf_8 (by rw [e_sw]; decide) (by rw [e_sw]; decide) (by rw [e_sw]; rfl) (by decide) ?_
    refine lv_aload_n hx hb dX6_faultOf_163 rfl (lv_at hl 0 rfl) ?_
    refine lv_iload_n hx hb dX6_faultOf_164 rfl (lv_at hl 2 rfl) ?_
    refine lv_aload_n hx hb dX6_faultOf_165 rfl (lv_at hl 0 rfl) ?_
    refine g_X6_10 C hJ dX6_faultOf_166 ?_
    refine lv_iload_n hx hb dX6_faultOf_169 rfl (lv_at hl 2 rfl) ?_
    refine cr_X6_229 C hJ (k := 0) (by decide) (rest := [.int p0, .ref (gA E 83)]) (cu_areFriends hE (k := 0) (by decide) h p0) dX6_faultOf_170 hl.1 ⟨Nat.le_of_ble_eq_true rfl, Nat.le_of_ble_eq_true rfl⟩ ⟨Nat.le_refl _, Nat.le_refl _⟩ (Nat.le_of_ble_eq_true rfl) rfl rfl ?_
    refine lv_if_ne (tgt := 180) hx hb dX6_faultOf_173 (by decide) (fun c_173 => ?_) (fun c_173 => ?_)
    · skip
      refine lv_iconst (v := 0) hx hb dX6_faultOf_180 (by decide) ?_
      refine lv_iconst (v := 3) hx hb dX6_faultOf_181 (by decide) ?_
      refine cr_X6_110 C hJ (rest := []) (c_X6_pairFault hE h p0 0 3) dX6_faultOf_182 hl.1 ⟨Nat.le_of_ble_eq_true rfl, Nat.le_of_ble_eq_true rfl⟩ ⟨Nat.le_refl _, Nat.le_refl _⟩ (Nat.le_of_ble_eq_true rfl) rfl rfl ?_
      exact rR_i C hr rfl (by rw [e_sw]; show _ = f_pf n p0 (if f_fr (gof n mm) p0 = 0 then 1 else 0) 3; first | rw [if_pos c_173] | rw [if_neg c_173]) dX6_faultOf_185
    · skip
      refine lv_iconst (v := 1) hx hb dX6_faultOf_176 (by decide) ?_
      refine lv_goto (tgt := 181) hx hb dX6_faultOf_177 (by decide) ?_
      refine lv_iconst (v := 3) hx hb dX6_faultOf_181 (by decide) ?_
      refine cr_X6_110 C hJ (rest := []) (c_X6_pairFault hE h p0 1 3) dX6_faultOf_182 hl.1 ⟨Nat.le_of_ble_eq_true rfl, Nat.le_of_ble_eq_true rfl⟩ ⟨Nat.le_refl _, Nat.le_refl _⟩ (Nat.le_of_ble_eq_true rfl) rfl rfl ?_
      exact rR_i C hr rfl (by rw [e_sw]; show _ = f_pf n p0 (if f_fr (gof n mm) p0 = 0 then 1 else 0) 3; first | rw [if_pos c_173] | rw [if_neg c_173]) dX6_faultOf_185
  · skip
    refine lv_tableIn (off := 178) (tgt := 186) hx hb dX6_faultOf_8 (by rw [e_sw]; decide) (by rw [e_sw]; decide) (by rw [e_sw]; rfl) (by decide) ?_
    refine lv_aload_n hx hb dX6_faultOf_186 rfl (lv_at hl 0 rfl) ?_
    refine lv_iload_n hx hb dX6_faultOf_187 rfl (lv_at hl 2 rfl) ?_
    refine lv_aload_n hx hb dX6_faultOf_188 rfl (lv_at hl 0 rfl) ?_
    refine g_X6_10 C hJ dX6_faultOf_189 ?_
    refine lv_iload_n hx hb dX6_faultOf_192 rfl (lv_at hl 2 rfl) ?_
    refine cr_X6_229 C hJ (k := 0) (by decide) (rest := [.int p0, .ref (gA E 83)]) (cu_areFriends hE (k := 0) (by decide) h p0) dX6_faultOf_193 hl.1 ⟨Nat.le_of_ble_eq_true rfl, Nat.le_of_ble_eq_true rfl⟩ ⟨Nat.le_refl _, Nat.le_refl _⟩ (Nat.le_of_ble_eq_true rfl) rfl rfl ?_
    refine lv_iconst (v := 3) hx hb dX6_faultOf_196 (by decide) ?_
    refine cr_X6_110 C hJ (rest := []) (c_X6_pairFault hE h p0 (f_fr (gof n mm) p0) 3) dX6_faultOf_197 hl.1 ⟨Nat.le_of_ble_eq_true rfl, Nat.le_of_ble_eq_true rfl⟩ ⟨Nat.le_refl _, Nat.le_refl _⟩ (Nat.le_of_ble_eq_true rfl) rfl rfl ?_
    exact rR_i C hr rfl (by rw [e_sw]; rfl) dX6_faultOf_200
  · skip
    refine lv_tableIn (off := 193) (tgt := 201) hx hb dX6_faultOf_8 (by rw [e_sw]; decide) (by rw [e_sw]; decide) (by rw [e_sw]; rfl) (by decide) ?_
    refine lv_aload_n hx hb dX6_faultOf_201 rfl (lv_at hl 0 rfl) ?_
    refine g_X6_10 C hJ dX6_faultOf_202 ?_
    refine g_X6_185 C hJ (k := 0) (by decide) dX6_faultOf_205 ?_
    refine lv_if_le (tgt := 215) hx hb dX6_faultOf_208 (by decide) (fun c_208 => ?_) (fun c_208 => ?_)
    · skip
      refine lv_iconst (v := 3) hx hb dX6_faultOf_215 (by decide) ?_
      exact rR_i C hr rfl (by rw [e_sw]; show _ = if 0 < nI n then (0 : Int32) else 3; rw [h.1.2.1] at c_208; first | rw [if_pos (Int32.not_le.mp c_208)] | rw [if_neg (Int32.not_lt.mpr c_208)]) dX6_faultOf_216
    · skip
      refine lv_iconst (v := 0) hx hb dX6_faultOf_211 (by decide) ?_
      refine lv_goto (tgt := 216) hx hb dX6_faultOf_212 (by decide) ?_
      exact rR_i C hr rfl (by rw [e_sw]; show _ = if 0 < nI n then (0 : Int32) else 3; rw [h.1.2.1] at c_208; first | rw [if_pos (Int32.not_le.mp c_208)] | rw [if_neg (Int32.not_lt.mpr c_208)]) dX6_faultOf_216
  · skip
    refine lv_tableOut (tgt := 217) hx hb dX6_faultOf_8 (by rw [e_sw]; decide) (by decide) ?_
    refine lv_iconst (v := 0) hx hb dX6_faultOf_217 (by decide) ?_
    exact rR_i C hr rfl (by rw [e_sw]; rfl) dX6_faultOf_218
set_option maxHeartbeats 4000000 in
set_option maxRecDepth 100000 in
theorem c_X6_wholeValue {l : Launch} {E : GE} (hE : Env0 E) {S : ST} {n : Nat} {z : Nat → Int32} {mm : Nat → Nat → Int32} (h : LnIs (sL S) 0 n z mm) {u_n : Nat} (hL : (sT S).1 1 = nI u_n) (w : Nat) (hw : w < 14) : MR l E yX6_wholeValue cX6_wholeValue 2 (some .int) 5 109 S [.ref (gA E 83), .int (nI w)] (some (.int (f_whole n z mm u_n w))) := by
  refine MR.of hE (by decide) (Nat.le_of_ble_eq_true rfl) ?_
  intro p e s m below meth c ls C hJ hr hl
  have hx := C.x
  have hb := C.b
  have hl : lv_has ls 2 [(0, .ref (gA E 83)), (1, .int (nI w))] := hl
  refine lv_iload_n hx hb dX6_wholeValue_0 rfl (lv_at hl 1 rfl) ?_
  refine lv_bipush (v := 13) hx hb dX6_wholeValue_1 (by decide) ?_
  refine lv_icmp_ne (tgt := 16) hx hb dX6_wholeValue_3 (by decide) (fun c_3 => ?_) (fun c_3 => ?_)
  · skip
    have hw13 : ¬ w = 13 := fun q => c_3 (by rw [q]; rfl)
    refine lv_aload_n hx hb dX6_wholeValue_16 rfl (lv_at hl 0 rfl) ?_
    refine g_X6_10 C hJ dX6_wholeValue_17 ?_
    refine lv_iload_n hx hb dX6_wholeValue_20 rfl (lv_at hl 1 rfl) ?_
    refine cr_X6_188 C hJ (k := 0) (by decide) (rest := []) (cu_wholeValue hE (k := 0) (by decide) h w (by omega)) dX6_wholeValue_21 hl.1 ⟨Nat.le_of_ble_eq_true rfl, Nat.le_of_ble_eq_true rfl⟩ ⟨Nat.le_refl _, Nat.le_refl _⟩ (Nat.le_of_ble_eq_true rfl) rfl rfl ?_
    exact rR_i C hr rfl (by unfold f_whole; rw [if_neg hw13]) dX6_wholeValue_24
  · skip
    have hw13 : w = 13 := (nI_eq (by omega) (b := 13) (by omega)).mp c_3
    refine lv_aload_n hx hb dX6_wholeValue_6 rfl (lv_at hl 0 rfl) ?_
    refine g_X6_29 C hJ dX6_wholeValue_7 ?_
    refine g_X6_142 C hJ dX6_wholeValue_10 ?_
    refine lv_goto (tgt := 24) hx hb dX6_wholeValue_13 (by decide) ?_
    exact rR_i C hr rfl (by unfold f_whole; rw [if_pos hw13]; exact hL) dX6_wholeValue_24
set_option maxHeartbeats 4000000 in
set_option maxRecDepth 100000 in
theorem c_X6_carryOut {l : Launch} {E : GE} (hE : Env0 E) {S : ST} {X : EX} (hX : Env1 E X) {n : Nat} {z : Nat → Int32} {mm : Nat → Nat → Int32} (h : LnIs (sL S) 0 n z mm) {u_j : Nat} (hj : u_j < 11) (p0 p1 p2 : Int32) (hf : f_ft (gof n mm) n u_j p0 p1 p2 = 0) (fu : Nat) (hfu : fu = 1000) : MW l E yX6_carryOut cX6_carryOut 5 (some .int) 4 91 S [.ref (gA E 83), .ref (gN E u_j), .int p0, .int p1, .int p2] (fun v S1 => v = some (.int (f_co fu n z mm u_j p0 p1 p2).1) ∧ Up S S1 0 (f_co fu n z mm u_j p0 p1 p2).2.1 (f_co fu n z mm u_j p0 p1 p2).2.2.1 (f_co fu n z mm u_j p0 p1 p2).2.2.2) := by
  have hn := h.1.1
  refine MW.of hE (by decide) (Nat.le_of_ble_eq_true rfl) ?_
  intro p e s m below meth c ls C hJ hr hl
  have hx := C.x
  have hb := C.b
  have hl : lv_has ls 5 [(0, .ref (gA E 83)), (1, .ref (gN E u_j)), (2, .int p0), (3, .int p1), (4, .int p2)] := hl
  refine i_Z C hJ hX.2.2.2.1 kf_X6_206 rfl dX6_carryOut_0 ?_
  refine lv_aload_n hx hb dX6_carryOut_3 rfl (lv_at hl 1 rfl) ?_
  refine o_212 C hJ hX (rest := [.ref X.2.2.1]) hj dX6_carryOut_4 hl.1 ⟨Nat.le_of_ble_eq_true rfl, Nat.le_of_ble_eq_true rfl⟩ ⟨Nat.le_refl _, Nat.le_refl _⟩ (Nat.le_of_ble_eq_true rfl) ?_
  refine i_Ti C hJ hX.2.2.2.2.1 (j := u_j) hj (by decide) rfl rfl dX6_carryOut_7 ?_
  rcases (show u_j = 0 ∨ u_j = 1 ∨ u_j = 2 ∨ u_j = 3 ∨ u_j = 4 ∨ u_j = 5 ∨ u_j = 6 ∨ u_j = 7 ∨ u_j = 8 ∨ u_j = 9 ∨ u_j = 10 by omega) with e_sw | e_sw | e_sw | e_sw | e_sw | e_sw | e_sw | e_sw | e_sw | e_sw | e_sw
  · skip
    refine lv_tableIn (off := 56) (tgt := 64) hx hb dX6_carryOut_8 (by rw [e_sw]; decide) (by rw [e_sw]; decide) (by rw [e_sw]; rfl) (by decide) ?_
    have hf0 : f_jf (gof n mm) n p0 p1 (nI n) = 0 := by rw [e_sw] at hf; exact hf
    have hn10 := (jf_in hn hf0).1
    refine lv_aload_n hx hb dX6_carryOut_64 rfl (lv_at hl 0 rfl) ?_
    refine g_X6_10 C hJ dX6_carryOut_65 ?_
    refine lv_iload_n hx hb dX6_carryOut_68 rfl (lv_at hl 2 rfl) ?_
    refine lv_iload_n hx hb dX6_carryOut_69 rfl (lv_at hl 3 rfl) ?_
    refine lv_aload_n hx hb dX6_carryOut_70 rfl (lv_at hl 0 rfl) ?_
    refine g_X6_10 C hJ dX6_carryOut_71 ?_
    refine g_X6_185 C hJ (k := 0) (by decide) dX6_carryOut_74 ?_
    rw [h.1.2.1]
    refine cw_X6_232 C hJ (k := 0) (by decide) (rest := []) (c_X4_insert hE (k := 0) (by decide) h hn10 n (by omega) p0 p1) dX6_carryOut_77 hl.1 ⟨Nat.le_of_ble_eq_true rfl, Nat.le_of_ble_eq_true rfl⟩ ⟨Nat.le_refl _, Nat.le_refl _⟩ (Nat.le_of_ble_eq_true rfl) rfl rfl (fun vr S_77 H locs hP hJ => ?_)
    obtain ⟨rfl, hU⟩ := hP
    exact rW_i C hJ hr rfl (⟨by rw [e_sw]; rfl, by rw [e_sw]; exact hU⟩) dX6_carryOut_80
  · skip
    refine lv_tableIn (off := 73) (tgt := 81) hx hb dX6_carryOut_8 (by rw [e_sw]; decide) (by rw [e_sw]; decide) (by rw [e_sw]; rfl) (by decide) ?_
    have hf0 : f_jf (gof n mm) n p0 p1 p2 = 0 := by rw [e_sw] at hf; exact hf
    obtain ⟨hn10, _, _, _, P, hP0, eP⟩ := jf_in hn hf0
    refine lv_aload_n hx hb dX6_carryOut_81 rfl (lv_at hl 0 rfl) ?_
    refine g_X6_10 C hJ dX6_carryOut_82 ?_
    refine lv_iload_n hx hb dX6_carryOut_85 rfl (lv_at hl 2 rfl) ?_
    refine lv_iload_n hx hb dX6_carryOut_86 rfl (lv_at hl 3 rfl) ?_
    refine lv_iload hx hb dX6_carryOut_87 (lv_at hl 4 rfl) ?_
    rw [eP]
    refine cw_X6_232 C hJ (k := 0) (by decide) (rest := []) (c_X4_insert hE (k := 0) (by decide) h hn10 P (by omega) p0 p1) dX6_carryOut_89 hl.1 ⟨Nat.le_of_ble_eq_true rfl, Nat.le_of_ble_eq_true rfl⟩ ⟨Nat.le_refl _, Nat.le_refl _⟩ (Nat.le_of_ble_eq_true rfl) rfl rfl (fun vr S_89 H locs hP hJ => ?_)
    obtain ⟨rfl, hU⟩ := hP
    exact rW_i C hJ hr rfl (⟨by rw [e_sw]; rfl, by rw [e_sw, show f_co fu n z mm 1 p0 p1 (nI P) = (z 7, (n + 1, upd (upd z 2 (nI (n + 1))) 7 (z 7 + 1), mins mm (nI P).toNatClampNeg (mfresh (z 7) p0 p1))) from rfl, nI_clamp (by omega)]; exact hU⟩) dX6_carryOut_92
  · skip
    refine lv_tableIn (off := 85) (tgt := 93) hx hb dX6_carryOut_8 (by rw [e_sw]; decide) (by rw [e_sw]; decide) (by rw [e_sw]; rfl) (by decide) ?_
    have hf0 : f_mf (f_place (gof n mm) n p0) 1 = 0 := by rw [e_sw] at hf; exact hf
    obtain ⟨P, hP0, eP, _⟩ := mf_in hf0
    have hc : (f_place (gof n mm) n p0).toNatClampNeg = P := by rw [eP]; exact nI_clamp (by omega)
    refine lv_aload_n hx hb dX6_carryOut_93 rfl (lv_at hl 0 rfl) ?_
    refine g_X6_10 C hJ dX6_carryOut_94 ?_
    refine lv_iload_n hx hb dX6_carryOut_97 rfl (lv_at hl 2 rfl) ?_
    refine cw_X6_235 C hJ (k := 0) (by decide) (rest := []) (c_X4_removeMember hE (k := 0) (by decide) h p0 P hP0 eP) dX6_carryOut_98 hl.1 ⟨Nat.le_of_ble_eq_true rfl, Nat.le_of_ble_eq_true rfl⟩ ⟨Nat.le_refl _, Nat.le_refl _⟩ (Nat.le_of_ble_eq_true rfl) rfl rfl (fun vr S_98 H locs hP hJ => ?_)
    obtain ⟨rfl, hU⟩ := hP
    exact rW_i C hJ hr rfl (⟨by rw [e_sw, ← eP]; rfl, by rw [e_sw, show f_co fu n z mm 2 p0 p1 p2 = (f_place (gof n mm) n p0, (n - 1, upd z 2 (nI (n - 1)), mrem mm (f_place (gof n mm) n p0).toNatClampNeg)) from rfl, hc]; exact hU⟩) dX6_carryOut_101
  · skip
    refine lv_tableIn (off := 94) (tgt := 102) hx hb dX6_carryOut_8 (by rw [e_sw]; decide) (by rw [e_sw]; decide) (by rw [e_sw]; rfl) (by decide) ?_
    have hf0 : f_mf (f_place (gof n mm) n p0) (bI (f_in p1 0 99)) = 0 := by rw [e_sw] at hf; exact hf
    obtain ⟨P, hP0, eP, _⟩ := mf_in hf0
    have hc : (f_place (gof n mm) n p0).toNatClampNeg = P := by rw [eP]; exact nI_clamp (by omega)
    refine lv_aload_n hx hb dX6_carryOut_102 rfl (lv_at hl 0 rfl) ?_
    refine g_X6_10 C hJ dX6_carryOut_103 ?_
    refine lv_aload_n hx hb dX6_carryOut_106 rfl (lv_at hl 0 rfl) ?_
    refine g_X6_10 C hJ dX6_carryOut_107 ?_
    refine lv_iload_n hx hb dX6_carryOut_110 rfl (lv_at hl 2 rfl) ?_
    refine cr_X6_89 C hJ (k := 0) (by decide) (rest := [.ref (gA E 0)]) (cu_placeOf hE (k := 0) (by decide) h p0) dX6_carryOut_111 hl.1 ⟨Nat.le_of_ble_eq_true rfl, Nat.le_of_ble_eq_true rfl⟩ ⟨Nat.le_refl _, Nat.le_refl _⟩ (Nat.le_of_ble_eq_true rfl) rfl rfl ?_
    refine lv_iload_n hx hb dX6_carryOut_114 rfl (lv_at hl 3 rfl) ?_
    rw [eP]
    refine cw_X6_238 C hJ (k := 0) (by decide) (rest := []) (c_X4_tell hE (k := 0) (by decide) h P hP0 p1) dX6_carryOut_115 hl.1 ⟨Nat.le_of_ble_eq_true rfl, Nat.le_of_ble_eq_true rfl⟩ ⟨Nat.le_refl _, Nat.le_refl _⟩ (Nat.le_of_ble_eq_true rfl) rfl rfl (fun vr S_115 H locs hP hJ => ?_)
    obtain ⟨rfl, hU⟩ := hP
    exact rW_i C hJ hr rfl (⟨by rw [e_sw, show f_co fu n z mm 3 p0 p1 p2 = (mm (f_place (gof n mm) n p0).toNatClampNeg 2, (n, z, up2 mm (f_place (gof n mm) n p0).toNatClampNeg 2 p1)) from rfl, hc], by rw [e_sw, show f_co fu n z mm 3 p0 p1 p2 = (mm (f_place (gof n mm) n p0).toNatClampNeg 2, (n, z, up2 mm (f_place (gof n mm) n p0).toNatClampNeg 2 p1)) from rfl, hc]; exact hU⟩) dX6_carryOut_118
  · skip
    refine lv_tableIn (off := 111) (tgt := 119) hx hb dX6_carryOut_8 (by rw [e_sw]; decide) (by rw [e_sw]; decide) (by rw [e_sw]; rfl) (by decide) ?_
    have hf0 : f_mf (f_place (gof n mm) n p0) (bI (f_in p1 0 9999)) = 0 := by rw [e_sw] at hf; exact (of_in hf).1
    obtain ⟨P, hP0, eP, _⟩ := mf_in hf0
    have hc : (f_place (gof n mm) n p0).toNatClampNeg = P := by rw [eP]; exact nI_clamp (by omega)
    refine lv_aload_n hx hb dX6_carryOut_119 rfl (lv_at hl 0 rfl) ?_
    refine g_X6_10 C hJ dX6_carryOut_120 ?_
    refine lv_aload_n hx hb dX6_carryOut_123 rfl (lv_at hl 0 rfl) ?_
    refine g_X6_10 C hJ dX6_carryOut_124 ?_
    refine lv_iload_n hx hb dX6_carryOut_127 rfl (lv_at hl 2 rfl) ?_
    refine cr_X6_89 C hJ (k := 0) (by decide) (rest := [.ref (gA E 0)]) (cu_placeOf hE (k := 0) (by decide) h p0) dX6_carryOut_128 hl.1 ⟨Nat.le_of_ble_eq_true rfl, Nat.le_of_ble_eq_true rfl⟩ ⟨Nat.le_refl _, Nat.le_refl _⟩ (Nat.le_of_ble_eq_true rfl) rfl rfl ?_
    refine lv_iload_n hx hb dX6_carryOut_131 rfl (lv_at hl 3 rfl) ?_
    rw [eP]
    refine cw_X6_241 C hJ (k := 0) (by decide) (rest := []) (c_X4_makeOffer hE (k := 0) (by decide) h P hP0 p1) dX6_carryOut_132 hl.1 ⟨Nat.le_of_ble_eq_true rfl, Nat.le_of_ble_eq_true rfl⟩ ⟨Nat.le_refl _, Nat.le_refl _⟩ (Nat.le_of_ble_eq_true rfl) rfl rfl (fun vr S_132 H locs hP hJ => ?_)
    obtain ⟨rfl, hU⟩ := hP
    exact rW_i C hJ hr rfl (⟨by rw [e_sw, show f_co fu n z mm 4 p0 p1 p2 = (mm (f_place (gof n mm) n p0).toNatClampNeg 5, (n, z, up2 mm (f_place (gof n mm) n p0).toNatClampNeg 5 p1)) from rfl, hc], by rw [e_sw, show f_co fu n z mm 4 p0 p1 p2 = (mm (f_place (gof n mm) n p0).toNatClampNeg 5, (n, z, up2 mm (f_place (gof n mm) n p0).toNatClampNeg 5 p1)) from rfl, hc]; exact hU⟩) dX6_carryOut_135
  · skip
    refine lv_tableIn (off := 128) (tgt := 136) hx hb dX6_carryOut_8 (by rw [e_sw]; decide) (by rw [e_sw]; decide) (by rw [e_sw]; rfl) (by decide) ?_
    have hf1 := tf_in (g := gof n mm) (p0 := f_place (gof n mm) n p0) (by rw [e_sw] at hf; exact hf)
    have hf0 := hf1.1
    obtain ⟨P, hP0, eP, _⟩ := mf_in hf0
    have hc : (f_place (gof n mm) n p0).toNatClampNeg = P := by rw [eP]; exact nI_clamp (by omega)
    have hP1 := take_in hP0 hn (by rw [← eP]; exact hf1.2)
    refine lv_aload_n hx hb dX6_carryOut_136 rfl (lv_at hl 0 rfl) ?_
    refine g_X6_10 C hJ dX6_carryOut_137 ?_
    refine lv_aload_n hx hb dX6_carryOut_140 rfl (lv_at hl 0 rfl) ?_
    refine g_X6_10 C hJ dX6_carryOut_141 ?_
    refine lv_iload_n hx hb dX6_carryOut_144 rfl (lv_at hl 2 rfl) ?_
    refine cr_X6_89 C hJ (k := 0) (by decide) (rest := [.ref (gA E 0)]) (cu_placeOf hE (k := 0) (by decide) h p0) dX6_carryOut_145 hl.1 ⟨Nat.le_of_ble_eq_true rfl, Nat.le_of_ble_eq_true rfl⟩ ⟨Nat.le_refl _, Nat.le_refl _⟩ (Nat.le_of_ble_eq_true rfl) rfl rfl ?_
    rw [eP]
    refine cw_X6_244 C hJ (k := 0) (by decide) (rest := []) (c_X4_swapAsOffered hE (k := 0) (by decide) h P hP1) dX6_carryOut_148 hl.1 ⟨Nat.le_of_ble_eq_true rfl, Nat.le_of_ble_eq_true rfl⟩ ⟨Nat.le_refl _, Nat.le_refl _⟩ (Nat.le_of_ble_eq_true rfl) rfl rfl (fun vr S_148 H locs hP hJ => ?_)
    obtain ⟨rfl, hU⟩ := hP
    exact rW_i C hJ hr rfl (⟨by rw [e_sw, show f_co fu n z mm 5 p0 p1 p2 = (mm ((f_place (gof n mm) n p0).toNatClampNeg + 1) 5, (n, upd (upd z 4 (z 4 + 1)) 5 (z 5 + mm ((f_place (gof n mm) n p0).toNatClampNeg + 1) 5), mswap mm (f_place (gof n mm) n p0).toNatClampNeg (mm ((f_place (gof n mm) n p0).toNatClampNeg + 1) 5))) from rfl, hc], by rw [e_sw, show f_co fu n z mm 5 p0 p1 p2 = (mm ((f_place (gof n mm) n p0).toNatClampNeg + 1) 5, (n, upd (upd z 4 (z 4 + 1)) 5 (z 5 + mm ((f_place (gof n mm) n p0).toNatClampNeg + 1) 5), mswap mm (f_place (gof n mm) n p0).toNatClampNeg (mm ((f_place (gof n mm) n p0).toNatClampNeg + 1) 5))) from rfl, hc]; exact hU⟩) dX6_carryOut_151
  · skip
    refine lv_tableIn (off := 144) (tgt := 152) hx hb dX6_carryOut_8 (by rw [e_sw]; decide) (by rw [e_sw]; decide) (by rw [e_sw]; rfl) (by decide) ?_
    obtain ⟨_, P, hP0, eP⟩ := pf_in hn (show f_pf n p0 (f_would (gof n mm) p0) 3 = 0 by rw [e_sw] at hf; exact hf)
    subst eP
    refine lv_aload_n hx hb dX6_carryOut_152 rfl (lv_at hl 0 rfl) ?_
    refine g_X6_10 C hJ dX6_carryOut_153 ?_
    refine lv_iload_n hx hb dX6_carryOut_156 rfl (lv_at hl 2 rfl) ?_
    refine cw_X6_247 C hJ (k := 0) (by decide) (rest := []) (c_X4_swapFairly hE (k := 0) (by decide) h P hP0) dX6_carryOut_157 hl.1 ⟨Nat.le_of_ble_eq_true rfl, Nat.le_of_ble_eq_true rfl⟩ ⟨Nat.le_refl _, Nat.le_refl _⟩ (Nat.le_of_ble_eq_true rfl) rfl rfl (fun vr S_157 H locs hP hJ => ?_)
    obtain ⟨rfl, hU⟩ := hP
    exact rW_i C hJ hr rfl (⟨by rw [e_sw]; rfl, by rw [e_sw, show f_co fu n z mm 6 (nI P) p1 p2 = (f_fairc (gof n mm) (z 3) (nI P), (n, upd (upd z 4 (z 4 + 1)) 5 (z 5 + f_fairc (gof n mm) (z 3) (nI P)), mswap mm (nI P).toNatClampNeg (f_fairc (gof n mm) (z 3) (nI P)))) from rfl, nI_clamp (by omega)]; exact hU⟩) dX6_carryOut_160
  · skip
    refine lv_tableIn (off := 153) (tgt := 161) hx hb dX6_carryOut_8 (by rw [e_sw]; decide) (by rw [e_sw]; decide) (by rw [e_sw]; rfl) (by decide) ?_
    obtain ⟨_, P, hP0, eP⟩ := pf_in hn (show f_pf n p0 (if f_fr (gof n mm) p0 = 0 then 1 else 0) 3 = 0 by rw [e_sw] at hf; exact hf)
    subst eP
    refine lv_aload_n hx hb dX6_carryOut_161 rfl (lv_at hl 0 rfl) ?_
    refine g_X6_10 C hJ dX6_carryOut_162 ?_
    refine lv_iload_n hx hb dX6_carryOut_165 rfl (lv_at hl 2 rfl) ?_
    refine lv_iconst (v := 1) hx hb dX6_carryOut_166 (by decide) ?_
    refine cw_X6_250 C hJ (k := 0) (by decide) (rest := []) (c_X4_setFriends hE (k := 0) (by decide) h P hP0 1 (Or.inr rfl)) dX6_carryOut_167 hl.1 ⟨Nat.le_of_ble_eq_true rfl, Nat.le_of_ble_eq_true rfl⟩ ⟨Nat.le_refl _, Nat.le_refl _⟩ (Nat.le_of_ble_eq_true rfl) rfl rfl (fun vr S_167 H locs hP hJ => ?_)
    obtain ⟨rfl, hU⟩ := hP
    exact rW_i C hJ hr rfl (⟨by rw [e_sw, show f_co fu n z mm 7 (nI P) p1 p2 = (f_frs (gof n (up2 mm ((nI P).toNatClampNeg + 1) 6 1)) n, (n, z, up2 mm ((nI P).toNatClampNeg + 1) 6 1)) from rfl, nI_clamp (by omega)], by rw [e_sw, show f_co fu n z mm 7 (nI P) p1 p2 = (f_frs (gof n (up2 mm ((nI P).toNatClampNeg + 1) 6 1)) n, (n, z, up2 mm ((nI P).toNatClampNeg + 1) 6 1)) from rfl, nI_clamp (by omega)]; exact hU⟩) dX6_carryOut_170
  · skip
    refine lv_tableIn (off := 163) (tgt := 171) hx hb dX6_carryOut_8 (by rw [e_sw]; decide) (by rw [e_sw]; decide) (by rw [e_sw]; rfl) (by decide) ?_
    obtain ⟨_, P, hP0, eP⟩ := pf_in hn (show f_pf n p0 (f_fr (gof n mm) p0) 3 = 0 by rw [e_sw] at hf; exact hf)
    subst eP
    refine lv_aload_n hx hb dX6_carryOut_171 rfl (lv_at hl 0 rfl) ?_
    refine g_X6_10 C hJ dX6_carryOut_172 ?_
    refine lv_iload_n hx hb dX6_carryOut_175 rfl (lv_at hl 2 rfl) ?_
    refine lv_iconst (v := 0) hx hb dX6_carryOut_176 (by decide) ?_
    refine cw_X6_250 C hJ (k := 0) (by decide) (rest := []) (c_X4_setFriends hE (k := 0) (by decide) h P hP0 0 (Or.inl rfl)) dX6_carryOut_177 hl.1 ⟨Nat.le_of_ble_eq_true rfl, Nat.le_of_ble_eq_true rfl⟩ ⟨Nat.le_refl _, Nat.le_refl _⟩ (Nat.le_of_ble_eq_true rfl) rfl rfl (fun vr S_177 H locs hP hJ => ?_)
    obtain ⟨rfl, hU⟩ := hP
    exact rW_i C hJ hr rfl (⟨by rw [e_sw, show f_co fu n z mm 8 (nI P) p1 p2 = (f_frs (gof n (up2 mm ((nI P).toNatClampNeg + 1) 6 0)) n, (n, z, up2 mm ((nI P).toNatClampNeg + 1) 6 0)) from rfl, nI_clamp (by omega)], by rw [e_sw, show f_co fu n z mm 8 (nI P) p1 p2 = (f_frs (gof n (up2 mm ((nI P).toNatClampNeg + 1) 6 0)) n, (n, z, up2 mm ((nI P).toNatClampNeg + 1) 6 0)) from rfl, nI_clamp (by omega)]; exact hU⟩) dX6_carryOut_180
  · skip
    refine lv_tableIn (off := 173) (tgt := 181) hx hb dX6_carryOut_8 (by rw [e_sw]; decide) (by rw [e_sw]; decide) (by rw [e_sw]; rfl) (by decide) ?_
    have hn0 : 0 < n := by
      rw [e_sw] at hf
      rcases Nat.eq_zero_or_pos n with q | q
      · rw [q] at hf; exact absurd hf (by show ¬ ((if 0 < nI 0 then (0 : Int32) else 3) = 0); decide)
      · exact q
    refine lv_aload_n hx hb dX6_carryOut_181 rfl (lv_at hl 0 rfl) ?_
    refine g_X6_10 C hJ dX6_carryOut_182 ?_
    refine cw_X6_253 C hJ (k := 0) (by decide) (rest := []) (c_X4_serveFirst hE (k := 0) (by decide) h hn0) dX6_carryOut_185 hl.1 ⟨Nat.le_of_ble_eq_true rfl, Nat.le_of_ble_eq_true rfl⟩ ⟨Nat.le_refl _, Nat.le_refl _⟩ (Nat.le_of_ble_eq_true rfl) rfl rfl (fun vr S_185 H locs hP hJ => ?_)
    obtain ⟨rfl, hU⟩ := hP
    exact rW_i C hJ hr rfl (⟨by rw [e_sw]; rfl, by rw [e_sw]; exact hU⟩) dX6_carryOut_188
  · skip
    refine lv_tableOut (tgt := 189) hx hb dX6_carryOut_8 (by rw [e_sw]; decide) (by decide) ?_
    refine lv_aload_n hx hb dX6_carryOut_189 rfl (lv_at hl 0 rfl) ?_
    refine g_X6_10 C hJ dX6_carryOut_190 ?_
    refine cw_X6_126 C hJ (k := 0) (by decide) (rest := []) (c_X4_settleDown hE (k := 0) (by decide) h fu hfu) dX6_carryOut_193 hl.1 ⟨Nat.le_of_ble_eq_true rfl, Nat.le_of_ble_eq_true rfl⟩ ⟨Nat.le_refl _, Nat.le_refl _⟩ (Nat.le_of_ble_eq_true rfl) rfl rfl (fun vr S_193 H locs hP hJ => ?_)
    obtain ⟨rfl, hU⟩ := hP
    exact rW_i C hJ hr rfl (⟨by rw [e_sw]; rfl, by rw [e_sw]; exact hU⟩) dX6_carryOut_196
