/-! MODEL: refusals, small writers (by program) -/
set_option maxHeartbeats 4000000 in
set_option maxRecDepth 100000 in
theorem c_X7_whyNotJoin {l : Launch} {E : GE} (hE : Env0 E) {S : ST} {n : Nat} {z : Nat → Int32} {mm : Nat → Nat → Int32} (hR : RI S n z mm) (hM : MmOk n mm) (p0 p1 p2 : Int32) : MR l E yX7_whyNotJoin cX7_whyNotJoin 4 (some .int) 1 22 S [.ref (gA E 84), .int p0, .int p1, .int p2] (some (.int (m_j (f_jf (gof n mm) n p0 p1 p2)))) := by
  have hn := hR.n10
  refine MR.of hE (by decide) (Nat.le_of_ble_eq_true rfl) ?_
  intro p e s m below meth c ls C hJ hr hl
  have hx := C.x
  have hb := C.b
  have hl : lv_has ls 4 [(0, .ref (gA E 84)), (1, .int p0), (2, .int p1), (3, .int p2)] := hl
  refine lv_iload_n hx hb dX7_whyNotJoin_0 rfl (lv_at hl 1 rfl) ?_
  refine lv_iconst (v := 0) hx hb dX7_whyNotJoin_1 (by decide) ?_
  refine lv_bipush (v := 99) hx hb dX7_whyNotJoin_2 (by decide) ?_
  refine cr_X7_37 C hJ (rest := []) (c_X7_in hE p0 0 99) dX7_whyNotJoin_4 hl.1 ⟨Nat.le_of_ble_eq_true rfl, Nat.le_of_ble_eq_true rfl⟩ ⟨Nat.le_refl _, Nat.le_refl _⟩ (Nat.le_of_ble_eq_true rfl) rfl rfl ?_
  refine lv_if_eq (tgt := 34) hx hb dX7_whyNotJoin_7 (by decide) (fun c_7 => ?_) (fun c_7 => ?_)
  · skip
    have q7 := bI_0 c_7
    have hF : f_jf (gof n mm) n p0 p1 p2 = 2 := by unfold f_jf; rw [if_neg (by rw [q7]; decide)]
    refine lv_iconst (v := 1) hx hb dX7_whyNotJoin_34 (by decide) ?_
    exact rR_i C hr rfl (by rw [hF]; rfl) dX7_whyNotJoin_35
  · skip
    have q7 := bI_1 c_7
    refine lv_iload_n hx hb dX7_whyNotJoin_10 rfl (lv_at hl 2 rfl) ?_
    refine lv_iconst (v := 1) hx hb dX7_whyNotJoin_11 (by decide) ?_
    refine lv_bipush (v := 30) hx hb dX7_whyNotJoin_12 (by decide) ?_
    refine cr_X7_37 C hJ (rest := []) (c_X7_in hE p1 1 30) dX7_whyNotJoin_14 hl.1 ⟨Nat.le_of_ble_eq_true rfl, Nat.le_of_ble_eq_true rfl⟩ ⟨Nat.le_refl _, Nat.le_refl _⟩ (Nat.le_of_ble_eq_true rfl) rfl rfl ?_
    refine lv_if_eq (tgt := 34) hx hb dX7_whyNotJoin_17 (by decide) (fun c_17 => ?_) (fun c_17 => ?_)
    · skip
      have q17 := bI_0 c_17
      have hF : f_jf (gof n mm) n p0 p1 p2 = 2 := by unfold f_jf; rw [if_pos q7, if_neg (by rw [q17]; decide)]
      refine lv_iconst (v := 1) hx hb dX7_whyNotJoin_34 (by decide) ?_
      exact rR_i C hr rfl (by rw [hF]; rfl) dX7_whyNotJoin_35
    · skip
      have q17 := bI_1 c_17
      refine lv_iload_n hx hb dX7_whyNotJoin_20 rfl (lv_at hl 3 rfl) ?_
      refine lv_iconst (v := 0) hx hb dX7_whyNotJoin_21 (by decide) ?_
      refine lv_aload_n hx hb dX7_whyNotJoin_22 rfl (lv_at hl 0 rfl) ?_
      refine g_X7_7 C hJ dX7_whyNotJoin_23 ?_
      refine lv_iconst (v := 0) hx hb dX7_whyNotJoin_26 (by decide) ?_
      refine a_ro C hJ (P := 0) (rfl) (by decide) dX7_whyNotJoin_27 ?_
      refine cr_X7_37 C hJ (rest := []) (c_X7_in hE p2 0 ((sM S).2.1 0)) dX7_whyNotJoin_28 hl.1 ⟨Nat.le_of_ble_eq_true rfl, Nat.le_of_ble_eq_true rfl⟩ ⟨Nat.le_refl _, Nat.le_refl _⟩ (Nat.le_of_ble_eq_true rfl) rfl rfl ?_
      refine lv_if_ne (tgt := 36) hx hb dX7_whyNotJoin_31 (by decide) (fun c_31 => ?_) (fun c_31 => ?_)
      · skip
        have q31 := bI_1 c_31
        rw [hR.many] at q31
        obtain ⟨P, hPn, eP⟩ := f_in_of (by omega) q31
        refine lv_aload_n hx hb dX7_whyNotJoin_36 rfl (lv_at hl 0 rfl) ?_
        refine g_X7_7 C hJ dX7_whyNotJoin_37 ?_
        refine lv_iconst (v := 0) hx hb dX7_whyNotJoin_40 (by decide) ?_
        refine a_ro C hJ (P := 0) (rfl) (by decide) dX7_whyNotJoin_41 ?_
        refine lv_bipush (v := 10) hx hb dX7_whyNotJoin_42 (by decide) ?_
        refine lv_icmp_eq (tgt := 74) hx hb dX7_whyNotJoin_44 (by decide) (fun c_44 => ?_) (fun c_44 => ?_)
        · skip
          have hF : f_jf (gof n mm) n p0 p1 p2 = 3 := by unfold f_jf; rw [if_pos q7, if_pos q17, if_pos q31, if_pos (by rw [hR.many] at c_44; rw [c_44]; decide)]
          refine lv_iconst (v := 2) hx hb dX7_whyNotJoin_74 (by decide) ?_
          refine lv_goto (tgt := 79) hx hb dX7_whyNotJoin_75 (by decide) ?_
          exact rR_i C hr rfl (by rw [hF]; rfl) dX7_whyNotJoin_79
        · skip
          have hn9 : ¬ 10 ≤ nI n := fun q => by
            have hn10 : ¬ n = 10 := fun y => c_44 (by rw [hR.many, y]; rfl)
            exact nI_ge (b := 10) (a := n) (by omega) (by omega) q
          refine lv_iload_n hx hb dX7_whyNotJoin_47 rfl (lv_at hl 3 rfl) ?_
          refine lv_if_le (tgt := 78) hx hb dX7_whyNotJoin_48 (by decide) (fun c_48 => ?_) (fun c_48 => ?_)
          · skip
            have h0 : P = 0 := by
              rcases Nat.eq_zero_or_pos P with q | q
              · exact q
              · rw [eP] at c_48; exact absurd c_48 (nI_nle q (by omega))
            have hg0 : gof n mm p2 6 = 0 := by
              rw [eP, h0]
              rcases Nat.eq_zero_or_pos n with q | q
              · rw [gof_far mm (by omega) (by omega)]; rfl
              · rw [gof_in mm hn q]; exact hM.1
            have hF : f_jf (gof n mm) n p0 p1 p2 = 0 := by unfold f_jf; rw [if_pos q7, if_pos q17, if_pos q31, if_neg hn9, if_pos hg0]
            refine lv_iconst (v := 0) hx hb dX7_whyNotJoin_78 (by decide) ?_
            exact rR_i C hr rfl (by rw [hF]; rfl) dX7_whyNotJoin_79
          · skip
            have h0 : 0 < P := by
              rcases Nat.eq_zero_or_pos P with q | q
              · exact absurd (by rw [eP, q]; decide) c_48
              · exact q
            refine lv_iload_n hx hb dX7_whyNotJoin_51 rfl (lv_at hl 3 rfl) ?_
            refine lv_aload_n hx hb dX7_whyNotJoin_52 rfl (lv_at hl 0 rfl) ?_
            refine g_X7_7 C hJ dX7_whyNotJoin_53 ?_
            refine lv_iconst (v := 0) hx hb dX7_whyNotJoin_56 (by decide) ?_
            refine a_ro C hJ (P := 0) (rfl) (by decide) dX7_whyNotJoin_57 ?_
            refine lv_icmp_ge (tgt := 78) hx hb dX7_whyNotJoin_58 (by decide) (fun c_58 => ?_) (fun c_58 => ?_)
            · skip
              have hge : n ≤ P := by rw [hR.many, eP] at c_58; exact (nI_leI (by omega) (by omega)).mp c_58
              have hF : f_jf (gof n mm) n p0 p1 p2 = 0 := by unfold f_jf; rw [if_pos q7, if_pos q17, if_pos q31, if_neg hn9, if_pos (by rw [eP, gof_far mm hge (by omega)]; rfl)]
              refine lv_iconst (v := 0) hx hb dX7_whyNotJoin_78 (by decide) ?_
              exact rR_i C hr rfl (by rw [hF]; rfl) dX7_whyNotJoin_79
            · skip
              have hlt : P < n := by
                rcases Nat.lt_or_ge P n with q | q
                · exact q
                · exact absurd (by rw [hR.many, eP]; exact nI_le q (by omega)) c_58
              have hmf : mfr n mm (P - 1) = mm P 6 := by unfold mfr; rw [if_pos (by omega), show P - 1 + 1 = P by omega]
              have hgP : gof n mm p2 6 = mm P 6 := by rw [eP, gof_in mm hn hlt]
              refine lv_aload_n hx hb dX7_whyNotJoin_61 rfl (lv_at hl 0 rfl) ?_
              refine lv_iload_n hx hb dX7_whyNotJoin_62 rfl (lv_at hl 3 rfl) ?_
              refine lv_iconst (v := 1) hx hb dX7_whyNotJoin_63 (by decide) ?_
              refine lv_isub hx hb dX7_whyNotJoin_64 ?_
              refine lv_bipush (v := 6) hx hb dX7_whyNotJoin_65 (by decide) ?_
              refine cr_X7_33 C hJ (rest := []) (cm_of6 hE hR (P - 1) (by omega) (by rw [eP]; exact nI_pd (by omega))) dX7_whyNotJoin_67 hl.1 ⟨Nat.le_of_ble_eq_true rfl, Nat.le_of_ble_eq_true rfl⟩ ⟨Nat.le_refl _, Nat.le_refl _⟩ (Nat.le_of_ble_eq_true rfl) rfl rfl ?_
              refine lv_iconst (v := 1) hx hb dX7_whyNotJoin_70 (by decide) ?_
              refine lv_icmp_ne (tgt := 78) hx hb dX7_whyNotJoin_71 (by decide) (fun c_71 => ?_) (fun c_71 => ?_)
              · skip
                have hF : f_jf (gof n mm) n p0 p1 p2 = 0 := by unfold f_jf; rw [if_pos q7, if_pos q17, if_pos q31, if_neg hn9, if_pos (by rw [hgP, ← hmf]; exact (b01 (mfr_b hM _)).mp c_71)]
                refine lv_iconst (v := 0) hx hb dX7_whyNotJoin_78 (by decide) ?_
                exact rR_i C hr rfl (by rw [hF]; rfl) dX7_whyNotJoin_79
              · skip
                have hF : f_jf (gof n mm) n p0 p1 p2 = 3 := by unfold f_jf; rw [if_pos q7, if_pos q17, if_pos q31, if_neg hn9, if_neg (by rw [hgP, ← hmf, c_71]; decide)]
                refine lv_iconst (v := 2) hx hb dX7_whyNotJoin_74 (by decide) ?_
                refine lv_goto (tgt := 79) hx hb dX7_whyNotJoin_75 (by decide) ?_
                exact rR_i C hr rfl (by rw [hF]; rfl) dX7_whyNotJoin_79
      · skip
        have q31 := bI_0 c_31
        rw [hR.many] at q31
        have hF : f_jf (gof n mm) n p0 p1 p2 = 2 := by unfold f_jf; rw [if_pos q7, if_pos q17, if_neg (by rw [q31]; decide)]
        refine lv_iconst (v := 1) hx hb dX7_whyNotJoin_34 (by decide) ?_
        exact rR_i C hr rfl (by rw [hF]; rfl) dX7_whyNotJoin_35
set_option maxHeartbeats 4000000 in
set_option maxRecDepth 100000 in
theorem c_X7_whyNotTake {l : Launch} {E : GE} (hE : Env0 E) {S : ST} {n : Nat} {z : Nat → Int32} {mm : Nat → Nat → Int32} (hR : RI S n z mm) (hM : MmOk n mm) (p0 : Int32) : MR l E yX7_whyNotTake cX7_whyNotTake 2 (some .int) 3 64 S [.ref (gA E 84), .int p0] (some (.int (m_t (f_tf (gof n mm) (f_place (gof n mm) n p0))))) := by
  have hn := hR.n10
  refine MR.of hE (by decide) (Nat.le_of_ble_eq_true rfl) ?_
  intro p e s m below meth c ls C hJ hr hl
  have hx := C.x
  have hb := C.b
  have hl : lv_has ls 2 [(0, .ref (gA E 84)), (1, .int p0)] := hl
  refine lv_aload_n hx hb dX7_whyNotTake_0 rfl (lv_at hl 0 rfl) ?_
  refine lv_iload_n hx hb dX7_whyNotTake_1 rfl (lv_at hl 1 rfl) ?_
  refine cr_X7_45 C hJ (rest := []) (c_X7_find hE hR p0) dX7_whyNotTake_2 hl.1 ⟨Nat.le_of_ble_eq_true rfl, Nat.le_of_ble_eq_true rfl⟩ ⟨Nat.le_refl _, Nat.le_refl _⟩ (Nat.le_of_ble_eq_true rfl) rfl rfl ?_
  refine lv_iconst (v := (-1)) hx hb dX7_whyNotTake_5 (by decide) ?_
  refine lv_icmp_ne (tgt := 13) hx hb dX7_whyNotTake_6 (by decide) (fun c_6 => ?_) (fun c_6 => ?_)
  · skip
    obtain ⟨P, hP0, eP⟩ := place_ne c_6
    refine lv_aload_n hx hb dX7_whyNotTake_13 rfl (lv_at hl 0 rfl) ?_
    refine lv_aload_n hx hb dX7_whyNotTake_14 rfl (lv_at hl 0 rfl) ?_
    refine lv_iload_n hx hb dX7_whyNotTake_15 rfl (lv_at hl 1 rfl) ?_
    refine cr_X7_45 C hJ (rest := [.ref (gA E 84)]) (c_X7_find hE hR p0) dX7_whyNotTake_16 hl.1 ⟨Nat.le_of_ble_eq_true rfl, Nat.le_of_ble_eq_true rfl⟩ ⟨Nat.le_refl _, Nat.le_refl _⟩ (Nat.le_of_ble_eq_true rfl) rfl rfl ?_
    refine cr_X7_104 C hJ (rest := []) (cm_isTaken hE hR hM P hP0 eP) dX7_whyNotTake_19 hl.1 ⟨Nat.le_of_ble_eq_true rfl, Nat.le_of_ble_eq_true rfl⟩ ⟨Nat.le_refl _, Nat.le_refl _⟩ (Nat.le_of_ble_eq_true rfl) rfl rfl ?_
    refine lv_if_eq (tgt := 29) hx hb dX7_whyNotTake_22 (by decide) (fun c_22 => ?_) (fun c_22 => ?_)
    · skip
      have hF : f_tf (gof n mm) (f_place (gof n mm) n p0) = 3 := by unfold f_tf; rw [mf1_ne c_6, if_pos rfl, eP, if_pos c_22]
      refine lv_iconst (v := 2) hx hb dX7_whyNotTake_29 (by decide) ?_
      exact rR_i C hr rfl (by rw [hF]; rfl) dX7_whyNotTake_30
    · skip
      have hF : f_tf (gof n mm) (f_place (gof n mm) n p0) = 0 := by unfold f_tf; rw [mf1_ne c_6, if_pos rfl, eP, if_neg c_22]
      refine lv_iconst (v := 0) hx hb dX7_whyNotTake_25 (by decide) ?_
      refine lv_goto (tgt := 30) hx hb dX7_whyNotTake_26 (by decide) ?_
      exact rR_i C hr rfl (by rw [hF]; rfl) dX7_whyNotTake_30
  · skip
    have hF : f_tf (gof n mm) (f_place (gof n mm) n p0) = 1 := by unfold f_tf; rw [mf1_eq c_6]; rfl
    refine lv_iconst (v := 1) hx hb dX7_whyNotTake_9 (by decide) ?_
    refine lv_goto (tgt := 30) hx hb dX7_whyNotTake_10 (by decide) ?_
    exact rR_i C hr rfl (by rw [hF]; rfl) dX7_whyNotTake_30
set_option maxHeartbeats 4000000 in
set_option maxRecDepth 100000 in
theorem c_X7_whyNotSwap {l : Launch} {E : GE} (hE : Env0 E) {S : ST} {n : Nat} {z : Nat → Int32} {mm : Nat → Nat → Int32} (hR : RI S n z mm) (hM : MmOk n mm) (p0 : Int32) : MR l E yX7_whyNotSwap cX7_whyNotSwap 2 (some .int) 4 86 S [.ref (gA E 84), .int p0] (some (.int (m_t (f_pf n p0 (f_would (gof n mm) p0) 3)))) := by
  have hn := hR.n10
  refine MR.of hE (by decide) (Nat.le_of_ble_eq_true rfl) ?_
  intro p e s m below meth c ls C hJ hr hl
  have hx := C.x
  have hb := C.b
  have hl : lv_has ls 2 [(0, .ref (gA E 84)), (1, .int p0)] := hl
  refine lv_aload_n hx hb dX7_whyNotSwap_0 rfl (lv_at hl 0 rfl) ?_
  refine lv_iload_n hx hb dX7_whyNotSwap_1 rfl (lv_at hl 1 rfl) ?_
  refine cr_X7_101 C hJ (rest := []) (c_X7_isPair hE hR p0) dX7_whyNotSwap_2 hl.1 ⟨Nat.le_of_ble_eq_true rfl, Nat.le_of_ble_eq_true rfl⟩ ⟨Nat.le_refl _, Nat.le_refl _⟩ (Nat.le_of_ble_eq_true rfl) rfl rfl ?_
  refine lv_if_ne (tgt := 12) hx hb dX7_whyNotSwap_5 (by decide) (fun c_5 => ?_) (fun c_5 => ?_)
  · skip
    have q5 := bI_1 c_5
    obtain ⟨P, hP, eP⟩ := (f_in_pair hn).mp q5
    refine lv_aload_n hx hb dX7_whyNotSwap_12 rfl (lv_at hl 0 rfl) ?_
    refine lv_iload_n hx hb dX7_whyNotSwap_13 rfl (lv_at hl 1 rfl) ?_
    refine cr_X7_116 C hJ (rest := []) (cm_reasonOf hE hR hM P (by omega) eP) dX7_whyNotSwap_14 hl.1 ⟨Nat.le_of_ble_eq_true rfl, Nat.le_of_ble_eq_true rfl⟩ ⟨Nat.le_refl _, Nat.le_refl _⟩ (Nat.le_of_ble_eq_true rfl) rfl rfl ?_
    refine lv_if_le (tgt := 24) hx hb dX7_whyNotSwap_17 (by decide) (fun c_17 => ?_) (fun c_17 => ?_)
    · skip
      have h0 : f_hind (gof n mm) p0 = 0 := by
        rw [eP]
        rcases hind5 (gof n mm) (nI P) with q | q
        · exact q
        · exact absurd q (Int32.not_lt.mpr c_17)
      have hF : f_pf n p0 (f_would (gof n mm) p0) 3 = 0 := by unfold f_pf f_would; rw [if_pos q5, if_pos h0]; rfl
      refine lv_iconst (v := 0) hx hb dX7_whyNotSwap_24 (by decide) ?_
      exact rR_i C hr rfl (by rw [hF]; rfl) dX7_whyNotSwap_25
    · skip
      have h0 : ¬ f_hind (gof n mm) p0 = 0 := fun q => by rw [eP] at q; rw [q] at c_17; exact absurd c_17 (by decide)
      have hF : f_pf n p0 (f_would (gof n mm) p0) 3 = 3 := by unfold f_pf f_would; rw [if_pos q5, if_neg h0]; rfl
      refine lv_iconst (v := 2) hx hb dX7_whyNotSwap_20 (by decide) ?_
      refine lv_goto (tgt := 25) hx hb dX7_whyNotSwap_21 (by decide) ?_
      exact rR_i C hr rfl (by rw [hF]; rfl) dX7_whyNotSwap_25
  · skip
    have q5 := bI_0 c_5
    have hF : f_pf n p0 (f_would (gof n mm) p0) 3 = 1 := by unfold f_pf; rw [if_neg (by rw [q5]; decide)]
    refine lv_iconst (v := 1) hx hb dX7_whyNotSwap_8 (by decide) ?_
    refine lv_goto (tgt := 25) hx hb dX7_whyNotSwap_9 (by decide) ?_
    exact rR_i C hr rfl (by rw [hF]; rfl) dX7_whyNotSwap_25
set_option maxHeartbeats 4000000 in
set_option maxRecDepth 100000 in
theorem c_X7_whyNotFriends {l : Launch} {E : GE} (hE : Env0 E) {S : ST} {n : Nat} {z : Nat → Int32} {mm : Nat → Nat → Int32} (hR : RI S n z mm) (hM : MmOk n mm) (p0 p1 : Int32) : MR l E yX7_whyNotFriends cX7_whyNotFriends 3 (some .int) 2 43 S [.ref (gA E 84), .int p0, .int p1] (some (.int (m_t (f_pf n p0 (if f_fr (gof n mm) p0 = p1 then 0 else 1) 3)))) := by
  have hn := hR.n10
  refine MR.of hE (by decide) (Nat.le_of_ble_eq_true rfl) ?_
  intro p e s m below meth c ls C hJ hr hl
  have hx := C.x
  have hb := C.b
  have hl : lv_has ls 3 [(0, .ref (gA E 84)), (1, .int p0), (2, .int p1)] := hl
  refine lv_aload_n hx hb dX7_whyNotFriends_0 rfl (lv_at hl 0 rfl) ?_
  refine lv_iload_n hx hb dX7_whyNotFriends_1 rfl (lv_at hl 1 rfl) ?_
  refine cr_X7_101 C hJ (rest := []) (c_X7_isPair hE hR p0) dX7_whyNotFriends_2 hl.1 ⟨Nat.le_of_ble_eq_true rfl, Nat.le_of_ble_eq_true rfl⟩ ⟨Nat.le_refl _, Nat.le_refl _⟩ (Nat.le_of_ble_eq_true rfl) rfl rfl ?_
  refine lv_if_ne (tgt := 12) hx hb dX7_whyNotFriends_5 (by decide) (fun c_5 => ?_) (fun c_5 => ?_)
  · skip
    have q5 := bI_1 c_5
    obtain ⟨P, hP, eP⟩ := (f_in_pair hn).mp q5
    refine lv_aload_n hx hb dX7_whyNotFriends_12 rfl (lv_at hl 0 rfl) ?_
    refine lv_iload_n hx hb dX7_whyNotFriends_13 rfl (lv_at hl 1 rfl) ?_
    refine lv_bipush (v := 6) hx hb dX7_whyNotFriends_14 (by decide) ?_
    refine cr_X7_33 C hJ (rest := []) (cm_of6 hE hR P (by omega) eP) dX7_whyNotFriends_16 hl.1 ⟨Nat.le_of_ble_eq_true rfl, Nat.le_of_ble_eq_true rfl⟩ ⟨Nat.le_refl _, Nat.le_refl _⟩ (Nat.le_of_ble_eq_true rfl) rfl rfl ?_
    refine lv_iload_n hx hb dX7_whyNotFriends_19 rfl (lv_at hl 2 rfl) ?_
    refine lv_icmp_ne (tgt := 27) hx hb dX7_whyNotFriends_20 (by decide) (fun c_20 => ?_) (fun c_20 => ?_)
    · skip
      have hF : f_pf n p0 (if f_fr (gof n mm) p0 = p1 then 0 else 1) 3 = 0 := by unfold f_pf; rw [if_pos q5, eP, fr_in hn (by omega), if_neg c_20]; rfl
      refine lv_iconst (v := 0) hx hb dX7_whyNotFriends_27 (by decide) ?_
      exact rR_i C hr rfl (by rw [hF]; rfl) dX7_whyNotFriends_28
    · skip
      have hF : f_pf n p0 (if f_fr (gof n mm) p0 = p1 then 0 else 1) 3 = 3 := by unfold f_pf; rw [if_pos q5, eP, fr_in hn (by omega), if_pos c_20]; rfl
      refine lv_iconst (v := 2) hx hb dX7_whyNotFriends_23 (by decide) ?_
      refine lv_goto (tgt := 28) hx hb dX7_whyNotFriends_24 (by decide) ?_
      exact rR_i C hr rfl (by rw [hF]; rfl) dX7_whyNotFriends_28
  · skip
    have q5 := bI_0 c_5
    have hF : f_pf n p0 (if f_fr (gof n mm) p0 = p1 then 0 else 1) 3 = 1 := by unfold f_pf; rw [if_neg (by rw [q5]; decide)]
    refine lv_iconst (v := 1) hx hb dX7_whyNotFriends_8 (by decide) ?_
    refine lv_goto (tgt := 28) hx hb dX7_whyNotFriends_9 (by decide) ?_
    exact rR_i C hr rfl (by rw [hF]; rfl) dX7_whyNotFriends_28
set_option maxHeartbeats 4000000 in
set_option maxRecDepth 100000 in
theorem c_X7_set {l : Launch} {E : GE} (hE : Env0 E) {S : ST} {p0 p1 : Int32} (P i : Nat) (hP : P < 10) (hi : i < 7) (ep : p0 = nI P) (eq : p1 = nI i) (v0 : Int32) : MW l E yX7_set cX7_set 4 (none : Option Jvm.ClassFile.FieldType) 0 0 S [.ref (gA E 84), .int p0, .int p1, .int v0] (fun v S1 => v = none ∧ S1 = setM S (mRo (sM S) (6 + 7 * P + i) v0)) := by
  refine MW.of hE (by decide) (Nat.le_of_ble_eq_true rfl) ?_
  intro p e s m below meth c ls C hJ hr hl
  have hx := C.x
  have hb := C.b
  have hl : lv_has ls 4 [(0, .ref (gA E 84)), (1, .int p0), (2, .int p1), (3, .int v0)] := hl
  refine lv_aload_n hx hb dX7_set_0 rfl (lv_at hl 0 rfl) ?_
  refine g_X7_7 C hJ dX7_set_1 ?_
  refine lv_bipush (v := 6) hx hb dX7_set_4 (by decide) ?_
  refine lv_bipush (v := 7) hx hb dX7_set_6 (by decide) ?_
  refine lv_iload_n hx hb dX7_set_8 rfl (lv_at hl 1 rfl) ?_
  refine lv_imul hx hb dX7_set_9 ?_
  refine lv_iadd hx hb dX7_set_10 ?_
  refine lv_iload_n hx hb dX7_set_11 rfl (lv_at hl 2 rfl) ?_
  refine lv_iadd hx hb dX7_set_12 ?_
  refine lv_iload_n hx hb dX7_set_13 rfl (lv_at hl 3 rfl) ?_
  refine t_ro C hJ (P := 6 + 7 * P + i) (ix7 ep eq) (by omega) dX7_set_14 (fun H locs hJ => ?_)
  obtain ⟨S_14, hS_14⟩ : ∃ z : ST, z = setM S (mRo (sM S) (6 + 7 * P + i) v0) := ⟨_, rfl⟩
  rw [← hS_14] at hJ
  exact rW_v C hJ hr (⟨rfl, hS_14⟩) dX7_set_15
set_option maxHeartbeats 4000000 in
set_option maxRecDepth 100000 in
theorem c_X7_says {l : Launch} {E : GE} (hE : Env0 E) {S : ST} {n : Nat} {z : Nat → Int32} {mm : Nat → Nat → Int32} (hR : RI S n z mm) (p0 p1 : Int32) (P : Nat) (hP0 : P < n) (eP : f_place (gof n mm) n p0 = nI P) : MW l E yX7_says cX7_says 5 (some .int) 2 44 S [.ref (gA E 84), .int p0, .int p1] (fun v S1 => v = some (.int (mm P 2)) ∧ RI S1 n z (up2 mm P 2 p1) ∧ RO S S1) := by
  have hn := hR.n10
  refine MW.of hE (by decide) (Nat.le_of_ble_eq_true rfl) ?_
  intro p e s m below meth c ls C hJ hr hl
  have hx := C.x
  have hb := C.b
  have hl : lv_has ls 5 [(0, .ref (gA E 84)), (1, .int p0), (2, .int p1)] := hl
  refine lv_aload_n hx hb dX7_says_0 rfl (lv_at hl 0 rfl) ?_
  refine lv_iload_n hx hb dX7_says_1 rfl (lv_at hl 1 rfl) ?_
  refine cr_X7_45 C hJ (rest := []) (c_X7_find hE hR p0) dX7_says_2 hl.1 ⟨Nat.le_of_ble_eq_true rfl, Nat.le_of_ble_eq_true rfl⟩ ⟨Nat.le_refl _, Nat.le_refl _⟩ (Nat.le_of_ble_eq_true rfl) rfl rfl ?_
  refine lv_istore_n (lv' := [(3, .int (f_place (gof n mm) n p0)), (0, .ref (gA E 84)), (1, .int p0), (2, .int p1)]) hx hb dX7_says_5 rfl hl (by decide) rfl (fun ls hl => ?_)
  refine lv_aload_n hx hb dX7_says_6 rfl (lv_at hl 1 rfl) ?_
  refine lv_iload_n hx hb dX7_says_7 rfl (lv_at hl 0 rfl) ?_
  refine lv_iconst (v := 2) hx hb dX7_says_8 (by decide) ?_
  refine cr_X7_33 C hJ (rest := []) (cm_of hE hR P 2 (by omega) (by decide) eP) dX7_says_9 hl.1 ⟨Nat.le_of_ble_eq_true rfl, Nat.le_of_ble_eq_true rfl⟩ ⟨Nat.le_refl _, Nat.le_refl _⟩ (Nat.le_of_ble_eq_true rfl) rfl rfl ?_
  refine lv_istore (lv' := [(4, .int (mm P 2)), (3, .int (f_place (gof n mm) n p0)), (0, .ref (gA E 84)), (1, .int p0), (2, .int p1)]) hx hb dX7_says_12 hl (by decide) rfl (fun ls hl => ?_)
  refine lv_aload_n hx hb dX7_says_14 rfl (lv_at hl 2 rfl) ?_
  refine lv_iload_n hx hb dX7_says_15 rfl (lv_at hl 1 rfl) ?_
  refine lv_iconst (v := 2) hx hb dX7_says_16 (by decide) ?_
  refine lv_iload_n hx hb dX7_says_17 rfl (lv_at hl 4 rfl) ?_
  refine cw_X7_41 C hJ (rest := []) (c_X7_set hE (S := S) (P) 2 (by omega) (by decide) (eP) rfl p1) dX7_says_18 hl.1 ⟨Nat.le_of_ble_eq_true rfl, Nat.le_of_ble_eq_true rfl⟩ ⟨Nat.le_refl _, Nat.le_refl _⟩ (Nat.le_of_ble_eq_true rfl) rfl rfl (fun vr S_18 H locs hP hJ => ?_)
  obtain ⟨rfl, e_18⟩ := hP
  have hR2 := hR.put (P := P) (i := 2) (by omega) (by decide) e_18
  have o_hR2 : RO S S_18 := (RO.r S).t (RO.put (by omega) e_18)
  refine lv_iload hx hb dX7_says_21 (lv_at hl 0 rfl) ?_
  exact rW_i C hJ hr rfl (⟨rfl, hR2, o_hR2⟩) dX7_says_23
set_option maxHeartbeats 4000000 in
set_option maxRecDepth 100000 in
theorem c_X7_offers {l : Launch} {E : GE} (hE : Env0 E) {S : ST} {n : Nat} {z : Nat → Int32} {mm : Nat → Nat → Int32} (hR : RI S n z mm) (p0 p1 : Int32) (P : Nat) (hP0 : P < n) (eP : f_place (gof n mm) n p0 = nI P) : MW l E yX7_offers cX7_offers 5 (some .int) 2 44 S [.ref (gA E 84), .int p0, .int p1] (fun v S1 => v = some (.int (mm P 5)) ∧ RI S1 n z (up2 mm P 5 p1) ∧ RO S S1) := by
  have hn := hR.n10
  refine MW.of hE (by decide) (Nat.le_of_ble_eq_true rfl) ?_
  intro p e s m below meth c ls C hJ hr hl
  have hx := C.x
  have hb := C.b
  have hl : lv_has ls 5 [(0, .ref (gA E 84)), (1, .int p0), (2, .int p1)] := hl
  refine lv_aload_n hx hb dX7_offers_0 rfl (lv_at hl 0 rfl) ?_
  refine lv_iload_n hx hb dX7_offers_1 rfl (lv_at hl 1 rfl) ?_
  refine cr_X7_45 C hJ (rest := []) (c_X7_find hE hR p0) dX7_offers_2 hl.1 ⟨Nat.le_of_ble_eq_true rfl, Nat.le_of_ble_eq_true rfl⟩ ⟨Nat.le_refl _, Nat.le_refl _⟩ (Nat.le_of_ble_eq_true rfl) rfl rfl ?_
  refine lv_istore_n (lv' := [(3, .int (f_place (gof n mm) n p0)), (0, .ref (gA E 84)), (1, .int p0), (2, .int p1)]) hx hb dX7_offers_5 rfl hl (by decide) rfl (fun ls hl => ?_)
  refine lv_aload_n hx hb dX7_offers_6 rfl (lv_at hl 1 rfl) ?_
  refine lv_iload_n hx hb dX7_offers_7 rfl (lv_at hl 0 rfl) ?_
  refine lv_iconst (v := 5) hx hb dX7_offers_8 (by decide) ?_
  refine cr_X7_33 C hJ (rest := []) (cm_of hE hR P 5 (by omega) (by decide) eP) dX7_offers_9 hl.1 ⟨Nat.le_of_ble_eq_true rfl, Nat.le_of_ble_eq_true rfl⟩ ⟨Nat.le_refl _, Nat.le_refl _⟩ (Nat.le_of_ble_eq_true rfl) rfl rfl ?_
  refine lv_istore (lv' := [(4, .int (mm P 5)), (3, .int (f_place (gof n mm) n p0)), (0, .ref (gA E 84)), (1, .int p0), (2, .int p1)]) hx hb dX7_offers_12 hl (by decide) rfl (fun ls hl => ?_)
  refine lv_aload_n hx hb dX7_offers_14 rfl (lv_at hl 2 rfl) ?_
  refine lv_iload_n hx hb dX7_offers_15 rfl (lv_at hl 1 rfl) ?_
  refine lv_iconst (v := 5) hx hb dX7_offers_16 (by decide) ?_
  refine lv_iload_n hx hb dX7_offers_17 rfl (lv_at hl 4 rfl) ?_
  refine cw_X7_41 C hJ (rest := []) (c_X7_set hE (S := S) (P) 5 (by omega) (by decide) (eP) rfl p1) dX7_offers_18 hl.1 ⟨Nat.le_of_ble_eq_true rfl, Nat.le_of_ble_eq_true rfl⟩ ⟨Nat.le_refl _, Nat.le_refl _⟩ (Nat.le_of_ble_eq_true rfl) rfl rfl (fun vr S_18 H locs hP hJ => ?_)
  obtain ⟨rfl, e_18⟩ := hP
  have hR2 := hR.put (P := P) (i := 5) (by omega) (by decide) e_18
  have o_hR2 : RO S S_18 := (RO.r S).t (RO.put (by omega) e_18)
  refine lv_iload hx hb dX7_offers_21 (lv_at hl 0 rfl) ?_
  exact rW_i C hJ hr rfl (⟨rfl, hR2, o_hR2⟩) dX7_offers_23
set_option maxHeartbeats 4000000 in
set_option maxRecDepth 100000 in
theorem c_X7_befriends {l : Launch} {E : GE} (hE : Env0 E) {S : ST} {n : Nat} {z : Nat → Int32} {mm : Nat → Nat → Int32} (hR : RI S n z mm) (hM1 : ∀ v0 : Int32, (v0 = 0 ∨ v0 = 1) → ∀ P, P + 1 < n → MmOk n (up2 mm (P + 1) 6 v0)) (p1 : Int32) (hp1 : p1 = 0 ∨ p1 = 1) (P : Nat) (hP0 : P + 1 < n) : MW l E yX7_befriends cX7_befriends 3 (some .int) 2 44 S [.ref (gA E 84), .int (nI P), .int p1] (fun v S1 => v = some (.int (f_frs (gof n (up2 mm (P + 1) 6 p1)) n)) ∧ RI S1 n z (up2 mm (P + 1) 6 p1) ∧ RO S S1) := by
  have hn := hR.n10
  refine MW.of hE (by decide) (Nat.le_of_ble_eq_true rfl) ?_
  intro p e s m below meth c ls C hJ hr hl
  have hx := C.x
  have hb := C.b
  have hl : lv_has ls 3 [(0, .ref (gA E 84)), (1, .int (nI P)), (2, .int p1)] := hl
  refine lv_aload_n hx hb dX7_befriends_0 rfl (lv_at hl 0 rfl) ?_
  refine lv_iload_n hx hb dX7_befriends_1 rfl (lv_at hl 1 rfl) ?_
  refine lv_bipush (v := 6) hx hb dX7_befriends_2 (by decide) ?_
  refine lv_iload_n hx hb dX7_befriends_4 rfl (lv_at hl 2 rfl) ?_
  refine cw_X7_41 C hJ (rest := []) (c_X7_set hE (S := S) (P) 6 (by omega) (by decide) (rfl) rfl p1) dX7_befriends_5 hl.1 ⟨Nat.le_of_ble_eq_true rfl, Nat.le_of_ble_eq_true rfl⟩ ⟨Nat.le_refl _, Nat.le_refl _⟩ (Nat.le_of_ble_eq_true rfl) rfl rfl (fun vr S_5 H locs hP hJ => ?_)
  obtain ⟨rfl, e_5⟩ := hP
  have hR2 := hR.putf (P := P) (by omega) e_5
  have o_hR2 : RO S S_5 := (RO.r S).t (RO.put (by omega) e_5)
  refine lv_aload_n hx hb dX7_befriends_8 rfl (lv_at hl 0 rfl) ?_
  refine cr_X7_125 C hJ (rest := []) (c_X7_friends hE hR2 (hM1 p1 hp1 P hP0)) dX7_befriends_9 hl.1 ⟨Nat.le_of_ble_eq_true rfl, Nat.le_of_ble_eq_true rfl⟩ ⟨Nat.le_refl _, Nat.le_refl _⟩ (Nat.le_of_ble_eq_true rfl) rfl rfl ?_
  exact rW_i C hJ hr rfl (⟨rfl, hR2, o_hR2⟩) dX7_befriends_12
