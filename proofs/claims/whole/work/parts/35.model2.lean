/-! MODEL, its readers 2 (by program) -/
set_option maxHeartbeats 4000000 in
set_option maxRecDepth 100000 in
theorem c_X7_friendsAgainst {l : Launch} {E : GE} (hE : Env0 E) {S : ST} {n : Nat} {z : Nat → Int32} {mm : Nat → Nat → Int32} (hR : RI S n z mm) (hM : MmOk n mm) (P : Nat) (hP : P + 1 < n) : MR l E yX7_friendsAgainst cX7_friendsAgainst 2 (some .int) 1 22 S [.ref (gA E 84), .int (nI P)] (some (.int (m_fa n mm P))) := by
  have hn := hR.n10
  refine MR.of hE (by decide) (Nat.le_of_ble_eq_true rfl) ?_
  intro p e s m below meth c ls C hJ hr hl
  have hx := C.x
  have hb := C.b
  have hl : lv_has ls 2 [(0, .ref (gA E 84)), (1, .int (nI P))] := hl
  refine lv_aload_n hx hb dX7_friendsAgainst_0 rfl (lv_at hl 0 rfl) ?_
  refine lv_iload_n hx hb dX7_friendsAgainst_1 rfl (lv_at hl 1 rfl) ?_
  refine lv_bipush (v := 6) hx hb dX7_friendsAgainst_2 (by decide) ?_
  refine cr_X7_33 C hJ (rest := []) (cm_of6 hE hR P (by omega) (rfl)) dX7_friendsAgainst_4 hl.1 ⟨Nat.le_of_ble_eq_true rfl, Nat.le_of_ble_eq_true rfl⟩ ⟨Nat.le_refl _, Nat.le_refl _⟩ (Nat.le_of_ble_eq_true rfl) rfl rfl ?_
  refine lv_iconst (v := 1) hx hb dX7_friendsAgainst_7 (by decide) ?_
  refine lv_icmp_ne (tgt := 13) hx hb dX7_friendsAgainst_8 (by decide) (fun c_8 => ?_) (fun c_8 => ?_)
  · skip
    refine lv_iload_n hx hb dX7_friendsAgainst_13 rfl (lv_at hl 1 rfl) ?_
    refine lv_if_le (tgt := 32) hx hb dX7_friendsAgainst_14 (by decide) (fun c_14 => ?_) (fun c_14 => ?_)
    · skip
      have h0 : P = 0 := by
        rcases Nat.eq_zero_or_pos P with q | q
        · exact q
        · exact absurd c_14 (nI_nle q (by omega))
      have hno : ¬ (0 < P ∧ mfr n mm (P - 1) = 1) := fun q => by omega
      refine lv_iload_n hx hb dX7_friendsAgainst_32 rfl (lv_at hl 1 rfl) ?_
      refine lv_iconst (v := 2) hx hb dX7_friendsAgainst_33 (by decide) ?_
      refine lv_iadd hx hb dX7_friendsAgainst_34 ?_
      refine lv_aload_n hx hb dX7_friendsAgainst_35 rfl (lv_at hl 0 rfl) ?_
      refine g_X7_7 C hJ dX7_friendsAgainst_36 ?_
      refine lv_iconst (v := 0) hx hb dX7_friendsAgainst_39 (by decide) ?_
      refine a_ro C hJ (P := 0) (rfl) (by decide) dX7_friendsAgainst_40 ?_
      refine lv_icmp_ge (tgt := 61) hx hb dX7_friendsAgainst_41 (by decide) (fun c_41 => ?_) (fun c_41 => ?_)
      · skip
        have hge : n ≤ P + 2 := by
          have q := c_41
          rw [hR.many, show nI P + 2 = nI (P + 2) from nI_add P 2] at q
          exact (nI_leI (by omega) (by omega)).mp q
        have hno2 : ¬ (P + 2 < n ∧ mfr n mm (P + 1) = 1) := fun q => by omega
        refine lv_iconst (v := 0) hx hb dX7_friendsAgainst_61 (by decide) ?_
        exact rR_i C hr rfl (by unfold m_fa; rw [if_neg c_8, if_neg hno, if_neg hno2]) dX7_friendsAgainst_62
      · skip
        have hlt : P + 2 < n := by
          rcases Nat.lt_or_ge (P + 2) n with q | q
          · exact q
          · exact absurd (by rw [hR.many, show nI P + 2 = nI (P + 2) from nI_add P 2]; exact nI_le q (by omega)) c_41
        refine lv_aload_n hx hb dX7_friendsAgainst_44 rfl (lv_at hl 0 rfl) ?_
        refine lv_iload_n hx hb dX7_friendsAgainst_45 rfl (lv_at hl 1 rfl) ?_
        refine lv_iconst (v := 1) hx hb dX7_friendsAgainst_46 (by decide) ?_
        refine lv_iadd hx hb dX7_friendsAgainst_47 ?_
        refine lv_bipush (v := 6) hx hb dX7_friendsAgainst_48 (by decide) ?_
        refine cr_X7_33 C hJ (rest := []) (cm_of6 hE hR (P + 1) (by omega) (nI_1 _)) dX7_friendsAgainst_50 hl.1 ⟨Nat.le_of_ble_eq_true rfl, Nat.le_of_ble_eq_true rfl⟩ ⟨Nat.le_refl _, Nat.le_refl _⟩ (Nat.le_of_ble_eq_true rfl) rfl rfl ?_
        refine lv_iconst (v := 1) hx hb dX7_friendsAgainst_53 (by decide) ?_
        refine lv_icmp_ne (tgt := 61) hx hb dX7_friendsAgainst_54 (by decide) (fun c_54 => ?_) (fun c_54 => ?_)
        · skip
          have hno2 : ¬ (P + 2 < n ∧ mfr n mm (P + 1) = 1) := fun q => c_54 q.2
          refine lv_iconst (v := 0) hx hb dX7_friendsAgainst_61 (by decide) ?_
          exact rR_i C hr rfl (by unfold m_fa; rw [if_neg c_8, if_neg hno, if_neg hno2]) dX7_friendsAgainst_62
        · skip
          refine lv_iconst (v := 3) hx hb dX7_friendsAgainst_57 (by decide) ?_
          refine lv_goto (tgt := 62) hx hb dX7_friendsAgainst_58 (by decide) ?_
          exact rR_i C hr rfl (by unfold m_fa; rw [if_neg c_8, if_neg hno, if_pos ⟨hlt, c_54⟩]) dX7_friendsAgainst_62
    · skip
      have h0 : 0 < P := by
        rcases Nat.eq_zero_or_pos P with q | q
        · exact absurd (by rw [q]; decide) c_14
        · exact q
      refine lv_aload_n hx hb dX7_friendsAgainst_17 rfl (lv_at hl 0 rfl) ?_
      refine lv_iload_n hx hb dX7_friendsAgainst_18 rfl (lv_at hl 1 rfl) ?_
      refine lv_iconst (v := 1) hx hb dX7_friendsAgainst_19 (by decide) ?_
      refine lv_isub hx hb dX7_friendsAgainst_20 ?_
      refine lv_bipush (v := 6) hx hb dX7_friendsAgainst_21 (by decide) ?_
      refine cr_X7_33 C hJ (rest := []) (cm_of6 hE hR (P - 1) (by omega) (nI_pd (by omega))) dX7_friendsAgainst_23 hl.1 ⟨Nat.le_of_ble_eq_true rfl, Nat.le_of_ble_eq_true rfl⟩ ⟨Nat.le_refl _, Nat.le_refl _⟩ (Nat.le_of_ble_eq_true rfl) rfl rfl ?_
      refine lv_iconst (v := 1) hx hb dX7_friendsAgainst_26 (by decide) ?_
      refine lv_icmp_ne (tgt := 32) hx hb dX7_friendsAgainst_27 (by decide) (fun c_27 => ?_) (fun c_27 => ?_)
      · skip
        have hno : ¬ (0 < P ∧ mfr n mm (P - 1) = 1) := fun q => c_27 q.2
        refine lv_iload_n hx hb dX7_friendsAgainst_32 rfl (lv_at hl 1 rfl) ?_
        refine lv_iconst (v := 2) hx hb dX7_friendsAgainst_33 (by decide) ?_
        refine lv_iadd hx hb dX7_friendsAgainst_34 ?_
        refine lv_aload_n hx hb dX7_friendsAgainst_35 rfl (lv_at hl 0 rfl) ?_
        refine g_X7_7 C hJ dX7_friendsAgainst_36 ?_
        refine lv_iconst (v := 0) hx hb dX7_friendsAgainst_39 (by decide) ?_
        refine a_ro C hJ (P := 0) (rfl) (by decide) dX7_friendsAgainst_40 ?_
        refine lv_icmp_ge (tgt := 61) hx hb dX7_friendsAgainst_41 (by decide) (fun c_41 => ?_) (fun c_41 => ?_)
        · skip
          have hge : n ≤ P + 2 := by
            have q := c_41
            rw [hR.many, show nI P + 2 = nI (P + 2) from nI_add P 2] at q
            exact (nI_leI (by omega) (by omega)).mp q
          have hno2 : ¬ (P + 2 < n ∧ mfr n mm (P + 1) = 1) := fun q => by omega
          refine lv_iconst (v := 0) hx hb dX7_friendsAgainst_61 (by decide) ?_
          exact rR_i C hr rfl (by unfold m_fa; rw [if_neg c_8, if_neg hno, if_neg hno2]) dX7_friendsAgainst_62
        · skip
          have hlt : P + 2 < n := by
            rcases Nat.lt_or_ge (P + 2) n with q | q
            · exact q
            · exact absurd (by rw [hR.many, show nI P + 2 = nI (P + 2) from nI_add P 2]; exact nI_le q (by omega)) c_41
          refine lv_aload_n hx hb dX7_friendsAgainst_44 rfl (lv_at hl 0 rfl) ?_
          refine lv_iload_n hx hb dX7_friendsAgainst_45 rfl (lv_at hl 1 rfl) ?_
          refine lv_iconst (v := 1) hx hb dX7_friendsAgainst_46 (by decide) ?_
          refine lv_iadd hx hb dX7_friendsAgainst_47 ?_
          refine lv_bipush (v := 6) hx hb dX7_friendsAgainst_48 (by decide) ?_
          refine cr_X7_33 C hJ (rest := []) (cm_of6 hE hR (P + 1) (by omega) (nI_1 _)) dX7_friendsAgainst_50 hl.1 ⟨Nat.le_of_ble_eq_true rfl, Nat.le_of_ble_eq_true rfl⟩ ⟨Nat.le_refl _, Nat.le_refl _⟩ (Nat.le_of_ble_eq_true rfl) rfl rfl ?_
          refine lv_iconst (v := 1) hx hb dX7_friendsAgainst_53 (by decide) ?_
          refine lv_icmp_ne (tgt := 61) hx hb dX7_friendsAgainst_54 (by decide) (fun c_54 => ?_) (fun c_54 => ?_)
          · skip
            have hno2 : ¬ (P + 2 < n ∧ mfr n mm (P + 1) = 1) := fun q => c_54 q.2
            refine lv_iconst (v := 0) hx hb dX7_friendsAgainst_61 (by decide) ?_
            exact rR_i C hr rfl (by unfold m_fa; rw [if_neg c_8, if_neg hno, if_neg hno2]) dX7_friendsAgainst_62
          · skip
            refine lv_iconst (v := 3) hx hb dX7_friendsAgainst_57 (by decide) ?_
            refine lv_goto (tgt := 62) hx hb dX7_friendsAgainst_58 (by decide) ?_
            exact rR_i C hr rfl (by unfold m_fa; rw [if_neg c_8, if_neg hno, if_pos ⟨hlt, c_54⟩]) dX7_friendsAgainst_62
      · skip
        refine lv_iconst (v := 2) hx hb dX7_friendsAgainst_30 (by decide) ?_
        exact rR_i C hr rfl (by unfold m_fa; rw [if_neg c_8, if_pos ⟨h0, c_27⟩]) dX7_friendsAgainst_31
  · skip
    refine lv_iconst (v := 1) hx hb dX7_friendsAgainst_11 (by decide) ?_
    exact rR_i C hr rfl (by unfold m_fa; rw [if_pos c_8]) dX7_friendsAgainst_12
theorem cm_friendsAgainst {l : Launch} {E : GE} (hE : Env0 E) {S : ST} {n : Nat} {z : Nat → Int32} {mm : Nat → Nat → Int32} (hR : RI S n z mm) (hM : MmOk n mm) (P : Nat) (hP : P + 1 < n) {p0 : Int32} (ep : p0 = nI P) : MR l E yX7_friendsAgainst cX7_friendsAgainst 2 (some .int) 1 22 S [.ref (gA E 84), .int p0] (some (.int (m_fa n mm P))) := by subst ep; exact c_X7_friendsAgainst hE hR hM P hP
set_option maxHeartbeats 4000000 in
set_option maxRecDepth 100000 in
theorem c_X7_reasonOf {l : Launch} {E : GE} (hE : Env0 E) {S : ST} {n : Nat} {z : Nat → Int32} {mm : Nat → Nat → Int32} (hR : RI S n z mm) (hM : MmOk n mm) (P : Nat) (hP : P + 1 < n) : MR l E yX7_reasonOf cX7_reasonOf 3 (some .int) 3 64 S [.ref (gA E 84), .int (nI P)] (some (.int (f_hind (gof n mm) (nI P)))) := by
  have hn := hR.n10
  refine MR.of hE (by decide) (Nat.le_of_ble_eq_true rfl) ?_
  intro p e s m below meth c ls C hJ hr hl
  have hx := C.x
  have hb := C.b
  have hl : lv_has ls 3 [(0, .ref (gA E 84)), (1, .int (nI P))] := hl
  refine lv_aload_n hx hb dX7_reasonOf_0 rfl (lv_at hl 0 rfl) ?_
  refine lv_iload_n hx hb dX7_reasonOf_1 rfl (lv_at hl 1 rfl) ?_
  refine cr_X7_92 C hJ (rest := []) (cm_friendsAgainst hE hR hM P (by omega) (rfl)) dX7_reasonOf_2 hl.1 ⟨Nat.le_of_ble_eq_true rfl, Nat.le_of_ble_eq_true rfl⟩ ⟨Nat.le_refl _, Nat.le_refl _⟩ (Nat.le_of_ble_eq_true rfl) rfl rfl ?_
  refine lv_istore_n (lv' := [(2, .int (m_fa n mm P)), (0, .ref (gA E 84)), (1, .int (nI P))]) hx hb dX7_reasonOf_5 rfl hl (by decide) rfl (fun ls hl => ?_)
  refine lv_iload_n hx hb dX7_reasonOf_6 rfl (lv_at hl 0 rfl) ?_
  refine lv_if_le (tgt := 14) hx hb dX7_reasonOf_7 (by decide) (fun c_7 => ?_) (fun c_7 => ?_)
  · skip
    have h0 : m_fa n mm P = 0 := by
      rcases m_fa4 n mm P with q | q | q | q
      · exact q
      · rw [q] at c_7; exact absurd c_7 (by decide)
      · rw [q] at c_7; exact absurd c_7 (by decide)
      · rw [q] at c_7; exact absurd c_7 (by decide)
    refine lv_aload_n hx hb dX7_reasonOf_14 rfl (lv_at hl 1 rfl) ?_
    refine lv_iload_n hx hb dX7_reasonOf_15 rfl (lv_at hl 2 rfl) ?_
    refine cr_X7_89 C hJ (rest := []) (cm_surplus hE hR P (by omega) (rfl)) dX7_reasonOf_16 hl.1 ⟨Nat.le_of_ble_eq_true rfl, Nat.le_of_ble_eq_true rfl⟩ ⟨Nat.le_refl _, Nat.le_refl _⟩ (Nat.le_of_ble_eq_true rfl) rfl rfl ?_
    refine lv_if_le (tgt := 26) hx hb dX7_reasonOf_19 (by decide) (fun c_19 => ?_) (fun c_19 => ?_)
    · skip
      refine lv_iconst (v := 4) hx hb dX7_reasonOf_26 (by decide) ?_
      exact rR_i C hr rfl (by rw [hind_in hn hM hP, if_pos h0, if_neg (Int32.not_lt.mpr c_19)]) dX7_reasonOf_27
    · skip
      refine lv_iconst (v := 0) hx hb dX7_reasonOf_22 (by decide) ?_
      refine lv_goto (tgt := 27) hx hb dX7_reasonOf_23 (by decide) ?_
      exact rR_i C hr rfl (by rw [hind_in hn hM hP, if_pos h0, if_pos (Int32.not_le.mp c_19)]) dX7_reasonOf_27
  · skip
    have h0 : ¬ m_fa n mm P = 0 := fun q => by rw [q] at c_7; exact absurd c_7 (by decide)
    refine lv_iload_n hx hb dX7_reasonOf_10 rfl (lv_at hl 0 rfl) ?_
    refine lv_goto (tgt := 27) hx hb dX7_reasonOf_11 (by decide) ?_
    exact rR_i C hr rfl (by rw [hind_in hn hM hP, if_neg h0]) dX7_reasonOf_27
theorem cm_reasonOf {l : Launch} {E : GE} (hE : Env0 E) {S : ST} {n : Nat} {z : Nat → Int32} {mm : Nat → Nat → Int32} (hR : RI S n z mm) (hM : MmOk n mm) (P : Nat) (hP : P + 1 < n) {p0 : Int32} (ep : p0 = nI P) : MR l E yX7_reasonOf cX7_reasonOf 3 (some .int) 3 64 S [.ref (gA E 84), .int p0] (some (.int (f_hind (gof n mm) (nI P)))) := by subst ep; exact c_X7_reasonOf hE hR hM P hP
set_option maxHeartbeats 4000000 in
set_option maxRecDepth 100000 in
theorem c_X7_whyNoMember {l : Launch} {E : GE} (hE : Env0 E) {S : ST} {n : Nat} {z : Nat → Int32} {mm : Nat → Nat → Int32} (hR : RI S n z mm) (p0 : Int32) : MR l E yX7_whyNoMember cX7_whyNoMember 2 (some .int) 2 44 S [.ref (gA E 84), .int p0] (some (.int (f_mf (f_place (gof n mm) n p0) 1))) := by
  refine MR.of hE (by decide) (Nat.le_of_ble_eq_true rfl) ?_
  intro p e s m below meth c ls C hJ hr hl
  have hx := C.x
  have hb := C.b
  have hl : lv_has ls 2 [(0, .ref (gA E 84)), (1, .int p0)] := hl
  refine lv_aload_n hx hb dX7_whyNoMember_0 rfl (lv_at hl 0 rfl) ?_
  refine lv_iload_n hx hb dX7_whyNoMember_1 rfl (lv_at hl 1 rfl) ?_
  refine cr_X7_45 C hJ (rest := []) (c_X7_find hE hR p0) dX7_whyNoMember_2 hl.1 ⟨Nat.le_of_ble_eq_true rfl, Nat.le_of_ble_eq_true rfl⟩ ⟨Nat.le_refl _, Nat.le_refl _⟩ (Nat.le_of_ble_eq_true rfl) rfl rfl ?_
  refine lv_iconst (v := (-1)) hx hb dX7_whyNoMember_5 (by decide) ?_
  refine lv_icmp_ne (tgt := 13) hx hb dX7_whyNoMember_6 (by decide) (fun c_6 => ?_) (fun c_6 => ?_)
  · skip
    refine lv_iconst (v := 0) hx hb dX7_whyNoMember_13 (by decide) ?_
    exact rR_i C hr rfl (by unfold f_mf; rw [if_neg c_6]; rfl) dX7_whyNoMember_14
  · skip
    refine lv_iconst (v := 1) hx hb dX7_whyNoMember_9 (by decide) ?_
    refine lv_goto (tgt := 14) hx hb dX7_whyNoMember_10 (by decide) ?_
    exact rR_i C hr rfl (by unfold f_mf; rw [if_pos c_6]) dX7_whyNoMember_14
set_option maxHeartbeats 4000000 in
set_option maxRecDepth 100000 in
theorem c_X7_whyNotSay {l : Launch} {E : GE} (hE : Env0 E) {S : ST} {n : Nat} {z : Nat → Int32} {mm : Nat → Nat → Int32} (hR : RI S n z mm) (p0 p1 : Int32) : MR l E yX7_whyNotSay cX7_whyNotSay 3 (some .int) 2 44 S [.ref (gA E 84), .int p0, .int p1] (some (.int (f_mf (f_place (gof n mm) n p0) (bI (f_in p1 0 99))))) := by
  refine MR.of hE (by decide) (Nat.le_of_ble_eq_true rfl) ?_
  intro p e s m below meth c ls C hJ hr hl
  have hx := C.x
  have hb := C.b
  have hl : lv_has ls 3 [(0, .ref (gA E 84)), (1, .int p0), (2, .int p1)] := hl
  refine lv_aload_n hx hb dX7_whyNotSay_0 rfl (lv_at hl 0 rfl) ?_
  refine lv_iload_n hx hb dX7_whyNotSay_1 rfl (lv_at hl 1 rfl) ?_
  refine cr_X7_45 C hJ (rest := []) (c_X7_find hE hR p0) dX7_whyNotSay_2 hl.1 ⟨Nat.le_of_ble_eq_true rfl, Nat.le_of_ble_eq_true rfl⟩ ⟨Nat.le_refl _, Nat.le_refl _⟩ (Nat.le_of_ble_eq_true rfl) rfl rfl ?_
  refine lv_iconst (v := (-1)) hx hb dX7_whyNotSay_5 (by decide) ?_
  refine lv_icmp_ne (tgt := 13) hx hb dX7_whyNotSay_6 (by decide) (fun c_6 => ?_) (fun c_6 => ?_)
  · skip
    refine lv_iload_n hx hb dX7_whyNotSay_13 rfl (lv_at hl 2 rfl) ?_
    refine lv_iconst (v := 0) hx hb dX7_whyNotSay_14 (by decide) ?_
    refine lv_bipush (v := 99) hx hb dX7_whyNotSay_15 (by decide) ?_
    refine cr_X7_37 C hJ (rest := []) (c_X7_in hE p1 0 99) dX7_whyNotSay_17 hl.1 ⟨Nat.le_of_ble_eq_true rfl, Nat.le_of_ble_eq_true rfl⟩ ⟨Nat.le_refl _, Nat.le_refl _⟩ (Nat.le_of_ble_eq_true rfl) rfl rfl ?_
    refine lv_if_eq (tgt := 27) hx hb dX7_whyNotSay_20 (by decide) (fun c_20 => ?_) (fun c_20 => ?_)
    · skip
      refine lv_iconst (v := 2) hx hb dX7_whyNotSay_27 (by decide) ?_
      exact rR_i C hr rfl (by unfold f_mf; rw [if_neg c_6, if_pos c_20]) dX7_whyNotSay_28
    · skip
      refine lv_iconst (v := 0) hx hb dX7_whyNotSay_23 (by decide) ?_
      refine lv_goto (tgt := 28) hx hb dX7_whyNotSay_24 (by decide) ?_
      exact rR_i C hr rfl (by unfold f_mf; rw [if_neg c_6, if_neg c_20]) dX7_whyNotSay_28
  · skip
    refine lv_iconst (v := 1) hx hb dX7_whyNotSay_9 (by decide) ?_
    refine lv_goto (tgt := 28) hx hb dX7_whyNotSay_10 (by decide) ?_
    exact rR_i C hr rfl (by unfold f_mf; rw [if_pos c_6]) dX7_whyNotSay_28
set_option maxHeartbeats 4000000 in
set_option maxRecDepth 100000 in
theorem c_X7_whyNotOffer {l : Launch} {E : GE} (hE : Env0 E) {S : ST} {n : Nat} {z : Nat → Int32} {mm : Nat → Nat → Int32} (hR : RI S n z mm) (p0 p1 : Int32) : MR l E yX7_whyNotOffer cX7_whyNotOffer 3 (some .int) 2 44 S [.ref (gA E 84), .int p0, .int p1] (some (.int (f_of (f_place (gof n mm) n p0) p1))) := by
  refine MR.of hE (by decide) (Nat.le_of_ble_eq_true rfl) ?_
  intro p e s m below meth c ls C hJ hr hl
  have hx := C.x
  have hb := C.b
  have hl : lv_has ls 3 [(0, .ref (gA E 84)), (1, .int p0), (2, .int p1)] := hl
  refine lv_aload_n hx hb dX7_whyNotOffer_0 rfl (lv_at hl 0 rfl) ?_
  refine lv_iload_n hx hb dX7_whyNotOffer_1 rfl (lv_at hl 1 rfl) ?_
  refine cr_X7_45 C hJ (rest := []) (c_X7_find hE hR p0) dX7_whyNotOffer_2 hl.1 ⟨Nat.le_of_ble_eq_true rfl, Nat.le_of_ble_eq_true rfl⟩ ⟨Nat.le_refl _, Nat.le_refl _⟩ (Nat.le_of_ble_eq_true rfl) rfl rfl ?_
  refine lv_iconst (v := (-1)) hx hb dX7_whyNotOffer_5 (by decide) ?_
  refine lv_icmp_ne (tgt := 13) hx hb dX7_whyNotOffer_6 (by decide) (fun c_6 => ?_) (fun c_6 => ?_)
  · skip
    refine lv_iload_n hx hb dX7_whyNotOffer_13 rfl (lv_at hl 2 rfl) ?_
    refine lv_iconst (v := 0) hx hb dX7_whyNotOffer_14 (by decide) ?_
    refine lv_sipush (v := 9999) hx hb dX7_whyNotOffer_15 (by decide) ?_
    refine cr_X7_37 C hJ (rest := []) (c_X7_in hE p1 0 9999) dX7_whyNotOffer_18 hl.1 ⟨Nat.le_of_ble_eq_true rfl, Nat.le_of_ble_eq_true rfl⟩ ⟨Nat.le_refl _, Nat.le_refl _⟩ (Nat.le_of_ble_eq_true rfl) rfl rfl ?_
    refine lv_if_ne (tgt := 28) hx hb dX7_whyNotOffer_21 (by decide) (fun c_21 => ?_) (fun c_21 => ?_)
    · skip
      refine lv_aload_n hx hb dX7_whyNotOffer_28 rfl (lv_at hl 0 rfl) ?_
      refine lv_iload_n hx hb dX7_whyNotOffer_29 rfl (lv_at hl 1 rfl) ?_
      refine cr_X7_45 C hJ (rest := []) (c_X7_find hE hR p0) dX7_whyNotOffer_30 hl.1 ⟨Nat.le_of_ble_eq_true rfl, Nat.le_of_ble_eq_true rfl⟩ ⟨Nat.le_refl _, Nat.le_refl _⟩ (Nat.le_of_ble_eq_true rfl) rfl rfl ?_
      refine lv_if_ne (tgt := 40) hx hb dX7_whyNotOffer_33 (by decide) (fun c_33 => ?_) (fun c_33 => ?_)
      · skip
        refine lv_iconst (v := 0) hx hb dX7_whyNotOffer_40 (by decide) ?_
        exact rR_i C hr rfl (by unfold f_of f_mf; rw [if_neg c_6, if_neg c_21, if_pos rfl, if_neg c_33]) dX7_whyNotOffer_41
      · skip
        refine lv_iconst (v := 3) hx hb dX7_whyNotOffer_36 (by decide) ?_
        refine lv_goto (tgt := 41) hx hb dX7_whyNotOffer_37 (by decide) ?_
        exact rR_i C hr rfl (by unfold f_of f_mf; rw [if_neg c_6, if_neg c_21, if_pos rfl, if_pos c_33]) dX7_whyNotOffer_41
    · skip
      refine lv_iconst (v := 2) hx hb dX7_whyNotOffer_24 (by decide) ?_
      refine lv_goto (tgt := 41) hx hb dX7_whyNotOffer_25 (by decide) ?_
      exact rR_i C hr rfl (by unfold f_of f_mf; rw [if_neg c_6, if_pos c_21]; rfl) dX7_whyNotOffer_41
  · skip
    refine lv_iconst (v := 1) hx hb dX7_whyNotOffer_9 (by decide) ?_
    refine lv_goto (tgt := 41) hx hb dX7_whyNotOffer_10 (by decide) ?_
    exact rR_i C hr rfl (by unfold f_of f_mf; rw [if_pos c_6]; rfl) dX7_whyNotOffer_41
set_option maxHeartbeats 4000000 in
set_option maxRecDepth 100000 in
theorem c_X7_isTaken {l : Launch} {E : GE} (hE : Env0 E) {S : ST} {n : Nat} {z : Nat → Int32} {mm : Nat → Nat → Int32} (hR : RI S n z mm) (hM : MmOk n mm) (P : Nat) (hP0 : P < n) : MR l E yX7_isTaken cX7_isTaken 2 (some .boolean) 2 43 S [.ref (gA E 84), .int (nI P)] (some (.int (f_take (gof n mm) (nI P)))) := by
  have hn := hR.n10
  refine MR.of hE (by decide) (Nat.le_of_ble_eq_true rfl) ?_
  intro p e s m below meth c ls C hJ hr hl
  have hx := C.x
  have hb := C.b
  have hl : lv_has ls 2 [(0, .ref (gA E 84)), (1, .int (nI P))] := hl
  refine lv_aload_n hx hb dX7_isTaken_0 rfl (lv_at hl 0 rfl) ?_
  refine lv_iload_n hx hb dX7_isTaken_1 rfl (lv_at hl 1 rfl) ?_
  refine cr_X7_101 C hJ (rest := []) (c_X7_isPair hE hR (nI P)) dX7_isTaken_2 hl.1 ⟨Nat.le_of_ble_eq_true rfl, Nat.le_of_ble_eq_true rfl⟩ ⟨Nat.le_refl _, Nat.le_refl _⟩ (Nat.le_of_ble_eq_true rfl) rfl rfl ?_
  refine lv_if_eq (tgt := 48) hx hb dX7_isTaken_5 (by decide) (fun c_5 => ?_) (fun c_5 => ?_)
  · skip
    have q5 := bI_0 c_5
    have hend : ¬ P + 1 < n := fun q => by rw [(f_in_pair hn).mpr ⟨P, q, rfl⟩] at q5; exact absurd q5 (by decide)
    refine lv_iconst (v := 0) hx hb dX7_isTaken_48 (by decide) ?_
    exact rR_i C hr rfl (by unfold f_take; first | (rw [nI_1, gof_far mm (by omega) (by omega)]; exact (if_pos rfl).symm) | (rw [hg5, if_pos c_17]) | (rw [hg5, if_neg c_17, if_pos c_33]) | (rw [hg5, if_neg c_17, if_neg c_33, held_in hn hM hP, if_neg c_41]; rfl)) dX7_isTaken_49
  · skip
    have q5 := bI_1 c_5
    have hP : P + 1 < n := by
      obtain ⟨Q, hQ, eQ⟩ := (f_in_pair hn).mp q5
      have := (nI_eq (by omega) (by omega)).mp eQ
      omega
    have hg5 : gof n mm (nI P + 1) 5 = mm (P + 1) 5 := g_in1 hn hP 5
    refine lv_aload_n hx hb dX7_isTaken_8 rfl (lv_at hl 0 rfl) ?_
    refine lv_iload_n hx hb dX7_isTaken_9 rfl (lv_at hl 1 rfl) ?_
    refine lv_iconst (v := 1) hx hb dX7_isTaken_10 (by decide) ?_
    refine lv_iadd hx hb dX7_isTaken_11 ?_
    refine lv_iconst (v := 5) hx hb dX7_isTaken_12 (by decide) ?_
    refine cr_X7_33 C hJ (rest := []) (cm_of hE hR (P + 1) 5 (by omega) (by decide) (nI_1 _)) dX7_isTaken_13 hl.1 ⟨Nat.le_of_ble_eq_true rfl, Nat.le_of_ble_eq_true rfl⟩ ⟨Nat.le_refl _, Nat.le_refl _⟩ (Nat.le_of_ble_eq_true rfl) rfl rfl ?_
    refine lv_iconst (v := (-1)) hx hb dX7_isTaken_16 (by decide) ?_
    refine lv_icmp_eq (tgt := 48) hx hb dX7_isTaken_17 (by decide) (fun c_17 => ?_) (fun c_17 => ?_)
    · skip
      refine lv_iconst (v := 0) hx hb dX7_isTaken_48 (by decide) ?_
      exact rR_i C hr rfl (by unfold f_take; first | (rw [nI_1, gof_far mm (by omega) (by omega)]; exact (if_pos rfl).symm) | (rw [hg5, if_pos c_17]) | (rw [hg5, if_neg c_17, if_pos c_33]) | (rw [hg5, if_neg c_17, if_neg c_33, held_in hn hM hP, if_neg c_41]; rfl)) dX7_isTaken_49
    · skip
      refine lv_aload_n hx hb dX7_isTaken_20 rfl (lv_at hl 0 rfl) ?_
      refine lv_iload_n hx hb dX7_isTaken_21 rfl (lv_at hl 1 rfl) ?_
      refine lv_iconst (v := 1) hx hb dX7_isTaken_22 (by decide) ?_
      refine lv_iadd hx hb dX7_isTaken_23 ?_
      refine lv_iconst (v := 5) hx hb dX7_isTaken_24 (by decide) ?_
      refine cr_X7_33 C hJ (rest := []) (cm_of hE hR (P + 1) 5 (by omega) (by decide) (nI_1 _)) dX7_isTaken_25 hl.1 ⟨Nat.le_of_ble_eq_true rfl, Nat.le_of_ble_eq_true rfl⟩ ⟨Nat.le_refl _, Nat.le_refl _⟩ (Nat.le_of_ble_eq_true rfl) rfl rfl ?_
      refine lv_aload_n hx hb dX7_isTaken_28 rfl (lv_at hl 0 rfl) ?_
      refine lv_iload_n hx hb dX7_isTaken_29 rfl (lv_at hl 1 rfl) ?_
      refine cr_X7_86 C hJ (rest := [.int (mm (P + 1) 5)]) (cm_loss hE hR P (by omega) (rfl)) dX7_isTaken_30 hl.1 ⟨Nat.le_of_ble_eq_true rfl, Nat.le_of_ble_eq_true rfl⟩ ⟨Nat.le_refl _, Nat.le_refl _⟩ (Nat.le_of_ble_eq_true rfl) rfl rfl ?_
      refine lv_icmp_lt (tgt := 48) hx hb dX7_isTaken_33 (by decide) (fun c_33 => ?_) (fun c_33 => ?_)
      · skip
        refine lv_iconst (v := 0) hx hb dX7_isTaken_48 (by decide) ?_
        exact rR_i C hr rfl (by unfold f_take; first | (rw [nI_1, gof_far mm (by omega) (by omega)]; exact (if_pos rfl).symm) | (rw [hg5, if_pos c_17]) | (rw [hg5, if_neg c_17, if_pos c_33]) | (rw [hg5, if_neg c_17, if_neg c_33, held_in hn hM hP, if_neg c_41]; rfl)) dX7_isTaken_49
      · skip
        refine lv_aload_n hx hb dX7_isTaken_36 rfl (lv_at hl 0 rfl) ?_
        refine lv_iload_n hx hb dX7_isTaken_37 rfl (lv_at hl 1 rfl) ?_
        refine cr_X7_92 C hJ (rest := []) (cm_friendsAgainst hE hR hM P (by omega) (rfl)) dX7_isTaken_38 hl.1 ⟨Nat.le_of_ble_eq_true rfl, Nat.le_of_ble_eq_true rfl⟩ ⟨Nat.le_refl _, Nat.le_refl _⟩ (Nat.le_of_ble_eq_true rfl) rfl rfl ?_
        refine lv_if_ne (tgt := 48) hx hb dX7_isTaken_41 (by decide) (fun c_41 => ?_) (fun c_41 => ?_)
        · skip
          refine lv_iconst (v := 0) hx hb dX7_isTaken_48 (by decide) ?_
          exact rR_i C hr rfl (by unfold f_take; first | (rw [nI_1, gof_far mm (by omega) (by omega)]; exact (if_pos rfl).symm) | (rw [hg5, if_pos c_17]) | (rw [hg5, if_neg c_17, if_pos c_33]) | (rw [hg5, if_neg c_17, if_neg c_33, held_in hn hM hP, if_neg c_41]; rfl)) dX7_isTaken_49
        · skip
          refine lv_iconst (v := 1) hx hb dX7_isTaken_44 (by decide) ?_
          refine lv_goto (tgt := 49) hx hb dX7_isTaken_45 (by decide) ?_
          exact rR_i C hr rfl (by unfold f_take; rw [hg5, if_neg c_17, if_neg (Int32.not_lt.mpr (Int32.not_lt.mp c_33)), held_in hn hM hP, if_pos c_41, if_pos rfl]) dX7_isTaken_49
theorem cm_isTaken {l : Launch} {E : GE} (hE : Env0 E) {S : ST} {n : Nat} {z : Nat → Int32} {mm : Nat → Nat → Int32} (hR : RI S n z mm) (hM : MmOk n mm) (P : Nat) (hP0 : P < n) {p0 : Int32} (ep : p0 = nI P) : MR l E yX7_isTaken cX7_isTaken 2 (some .boolean) 2 43 S [.ref (gA E 84), .int p0] (some (.int (f_take (gof n mm) (nI P)))) := by subst ep; exact c_X7_isTaken hE hR hM P hP0
set_option maxHeartbeats 4000000 in
set_option maxRecDepth 100000 in
theorem c_X7_friends {l : Launch} {E : GE} (hE : Env0 E) {S : ST} {n : Nat} {z : Nat → Int32} {mm : Nat → Nat → Int32} (hR : RI S n z mm) (hM : MmOk n mm) : MR l E yX7_friends cX7_friends 3 (some .int) 1 22 S [.ref (gA E 84)] (some (.int (f_frs (gof n mm) n))) := by
  have hn := hR.n10
  refine MR.of hE (by decide) (Nat.le_of_ble_eq_true rfl) ?_
  intro p e s m below meth c ls C hJ hr hl
  have hx := C.x
  have hb := C.b
  have hl : lv_has ls 3 [(0, .ref (gA E 84))] := hl
  refine lv_iconst (v := 0) hx hb dX7_friends_0 (by decide) ?_
  refine lv_istore_n (lv' := [(1, .int 0), (0, .ref (gA E 84))]) hx hb dX7_friends_1 rfl hl (by decide) rfl (fun ls hl => ?_)
  refine lv_iconst (v := 0) hx hb dX7_friends_2 (by decide) ?_
  refine lv_istore_n (lv' := [(2, .int 0), (1, .int 0), (0, .ref (gA E 84))]) hx hb dX7_friends_3 rfl hl (by decide) rfl (fun ls hl => ?_)
  have lp : ∀ (d : Nat) (i : Nat) (xa : Int32) (ls : Array Slot), (i ≤ n) → (n < i + d) → (xa = sI (fun j => mfr n mm j) i) → lv_has ls 3 [(0, .ref (gA E 84)), (1, .int xa), (2, .int (nI i))] → W p l e (rmZ 1 22) s m ([.ref (gA E 84)] : List Value).toArray below meth c s.heap [] 0 0 (RQ below ([.ref (gA E 84)] : List Value).toArray s (some (.int (f_frs (gof n mm) n)))) (F0 m 4 ls []) := by
    intro d
    induction d with
    | zero =>
      intro i xa ls hi hd ea hl
      omega
    | succ d ih_lp =>
      intro i xa ls hi hd ea hl
      refine lv_iload_n hx hb dX7_friends_4 rfl (lv_at hl 2 rfl) ?_
      refine lv_aload_n hx hb dX7_friends_5 rfl (lv_at hl 0 rfl) ?_
      refine g_X7_7 C hJ dX7_friends_6 ?_
      refine lv_iconst (v := 0) hx hb dX7_friends_9 (by decide) ?_
      refine a_ro C hJ (P := 0) (rfl) (by decide) dX7_friends_10 ?_
      refine lv_icmp_ge (tgt := 30) hx hb dX7_friends_11 (by decide) (fun c_11 => ?_) (fun c_11 => ?_)
      · skip
        have e9 : i = n := eqOfLe hi (by omega) (by have q := c_11; rw [hR.many] at q; exact q)
        refine lv_iload_n hx hb dX7_friends_30 rfl (lv_at hl 1 rfl) ?_
        exact rR_i C hr rfl (by rw [ea, e9, frs_in hn hM]) dX7_friends_31
      · skip
        have hlt : i < n := ltOfNle (by omega) (by have q := c_11; rw [hR.many] at q; exact q)
        refine lv_iload_n hx hb dX7_friends_14 rfl (lv_at hl 1 rfl) ?_
        refine lv_aload_n hx hb dX7_friends_15 rfl (lv_at hl 0 rfl) ?_
        refine lv_iload_n hx hb dX7_friends_16 rfl (lv_at hl 2 rfl) ?_
        refine lv_bipush (v := 6) hx hb dX7_friends_17 (by decide) ?_
        refine cr_X7_33 C hJ (rest := [.int xa]) (cm_of6 hE hR i (by omega) (rfl)) dX7_friends_19 hl.1 ⟨Nat.le_of_ble_eq_true rfl, Nat.le_of_ble_eq_true rfl⟩ ⟨Nat.le_refl _, Nat.le_refl _⟩ (Nat.le_of_ble_eq_true rfl) rfl rfl ?_
        refine lv_iadd hx hb dX7_friends_22 ?_
        refine lv_istore_n (lv' := [(1, .int (xa + (mfr n mm i))), (0, .ref (gA E 84)), (2, .int (nI i))]) hx hb dX7_friends_23 rfl hl (by decide) rfl (fun ls hl => ?_)
        refine lv_iinc (v := nI (i + 1)) (lv' := [(2, .int (nI (i + 1))), (1, .int (xa + (mfr n mm i))), (0, .ref (gA E 84))]) hx hb dX7_friends_24 hl (k := 2) rfl (by exact nI_1 i) (by decide) rfl (fun ls hl => ?_)
        refine lv_goto (tgt := 4) hx hb dX7_friends_27 (by decide) ?_
        exact ih_lp (i + 1) _ _ (by omega) (by omega) (sI_u ea rfl) (lv_sub hl [2, 1, 0] rfl)
  exact lp (n + 1) 0 0 _ (Nat.zero_le _) (by omega) rfl (lv_sub hl [2, 1, 0] rfl)
set_option maxHeartbeats 4000000 in
set_option maxRecDepth 100000 in
theorem c_X7_waitOf {l : Launch} {E : GE} (hE : Env0 E) {S : ST} {n : Nat} {z : Nat → Int32} {mm : Nat → Nat → Int32} (hR : RI S n z mm) (P : Nat) (hP : P ≤ n) : MR l E yX7_waitOf cX7_waitOf 4 (some .int) 1 22 S [.ref (gA E 84), .int (nI P)] (some (.int (f_wait (gof n mm) P))) := by
  have hn := hR.n10
  refine MR.of hE (by decide) (Nat.le_of_ble_eq_true rfl) ?_
  intro p e s m below meth c ls C hJ hr hl
  have hx := C.x
  have hb := C.b
  have hl : lv_has ls 4 [(0, .ref (gA E 84)), (1, .int (nI P))] := hl
  refine lv_iconst (v := 0) hx hb dX7_waitOf_0 (by decide) ?_
  refine lv_istore_n (lv' := [(2, .int 0), (0, .ref (gA E 84)), (1, .int (nI P))]) hx hb dX7_waitOf_1 rfl hl (by decide) rfl (fun ls hl => ?_)
  refine lv_iconst (v := 0) hx hb dX7_waitOf_2 (by decide) ?_
  refine lv_istore_n (lv' := [(3, .int 0), (2, .int 0), (0, .ref (gA E 84)), (1, .int (nI P))]) hx hb dX7_waitOf_3 rfl hl (by decide) rfl (fun ls hl => ?_)
  have lp : ∀ (d : Nat) (i : Nat) (xa : Int32) (ls : Array Slot), (i ≤ P) → (P < i + d) → (xa = sI (fun j => mm j 3) i) → lv_has ls 4 [(0, .ref (gA E 84)), (1, .int (nI P)), (2, .int xa), (3, .int (nI i))] → W p l e (rmZ 1 22) s m ([.ref (gA E 84), .int (nI P)] : List Value).toArray below meth c s.heap [] 0 0 (RQ below ([.ref (gA E 84), .int (nI P)] : List Value).toArray s (some (.int (f_wait (gof n mm) P)))) (F0 m 4 ls []) := by
    intro d
    induction d with
    | zero =>
      intro i xa ls hi hd ea hl
      omega
    | succ d ih_lp =>
      intro i xa ls hi hd ea hl
      refine lv_iload_n hx hb dX7_waitOf_4 rfl (lv_at hl 3 rfl) ?_
      refine lv_iload_n hx hb dX7_waitOf_5 rfl (lv_at hl 1 rfl) ?_
      refine lv_icmp_ge (tgt := 24) hx hb dX7_waitOf_6 (by decide) (fun c_6 => ?_) (fun c_6 => ?_)
      · skip
        have e9 : i = P := eqOfLe hi (by omega) c_6
        refine lv_iload_n hx hb dX7_waitOf_24 rfl (lv_at hl 2 rfl) ?_
        exact rR_i C hr rfl (by rw [ea, e9, wait_in hn hP]) dX7_waitOf_25
      · skip
        have hlt : i < P := ltOfNle (by omega) c_6
        refine lv_iload_n hx hb dX7_waitOf_9 rfl (lv_at hl 2 rfl) ?_
        refine lv_aload_n hx hb dX7_waitOf_10 rfl (lv_at hl 0 rfl) ?_
        refine lv_iload_n hx hb dX7_waitOf_11 rfl (lv_at hl 3 rfl) ?_
        refine lv_iconst (v := 3) hx hb dX7_waitOf_12 (by decide) ?_
        refine cr_X7_33 C hJ (rest := [.int xa]) (cm_of hE hR i 3 (by omega) (by decide) (rfl)) dX7_waitOf_13 hl.1 ⟨Nat.le_of_ble_eq_true rfl, Nat.le_of_ble_eq_true rfl⟩ ⟨Nat.le_refl _, Nat.le_refl _⟩ (Nat.le_of_ble_eq_true rfl) rfl rfl ?_
        refine lv_iadd hx hb dX7_waitOf_16 ?_
        refine lv_istore_n (lv' := [(2, .int (xa + (mm i 3))), (0, .ref (gA E 84)), (1, .int (nI P)), (3, .int (nI i))]) hx hb dX7_waitOf_17 rfl hl (by decide) rfl (fun ls hl => ?_)
        refine lv_iinc (v := nI (i + 1)) (lv' := [(3, .int (nI (i + 1))), (2, .int (xa + (mm i 3))), (0, .ref (gA E 84)), (1, .int (nI P))]) hx hb dX7_waitOf_18 hl (k := 3) rfl (by exact nI_1 i) (by decide) rfl (fun ls hl => ?_)
        refine lv_goto (tgt := 4) hx hb dX7_waitOf_21 (by decide) ?_
        exact ih_lp (i + 1) _ _ (by omega) (by omega) (sI_u ea rfl) (lv_sub hl [2, 3, 1, 0] rfl)
  exact lp (P + 1) 0 0 _ (Nat.zero_le _) (by omega) rfl (lv_sub hl [2, 3, 1, 0] rfl)
theorem cm_waitOf {l : Launch} {E : GE} (hE : Env0 E) {S : ST} {n : Nat} {z : Nat → Int32} {mm : Nat → Nat → Int32} (hR : RI S n z mm) (P : Nat) (hP : P ≤ n) {p0 : Int32} (ep : p0 = nI P) : MR l E yX7_waitOf cX7_waitOf 4 (some .int) 1 22 S [.ref (gA E 84), .int p0] (some (.int (f_wait (gof n mm) P))) := by subst ep; exact c_X7_waitOf hE hR P hP
set_option maxHeartbeats 4000000 in
set_option maxRecDepth 100000 in
theorem c_X7_costBy {l : Launch} {E : GE} (hE : Env0 E) {S : ST} {n : Nat} {z : Nat → Int32} {mm : Nat → Nat → Int32} (hR : RI S n z mm) (w : Nat) (hw : w = 1 ∨ w = 2) : MR l E yX7_costBy cX7_costBy 4 (some .int) 2 45 S [.ref (gA E 84), .int (nI w)] (some (.int (if w = 1 then f_total (gof n mm) n else f_told (gof n mm) n))) := by
  have hn := hR.n10
  refine MR.of hE (by decide) (Nat.le_of_ble_eq_true rfl) ?_
  intro p e s m below meth c ls C hJ hr hl
  have hx := C.x
  have hb := C.b
  have hl : lv_has ls 4 [(0, .ref (gA E 84)), (1, .int (nI w))] := hl
  refine lv_iconst (v := 0) hx hb dX7_costBy_0 (by decide) ?_
  refine lv_istore_n (lv' := [(2, .int 0), (0, .ref (gA E 84)), (1, .int (nI w))]) hx hb dX7_costBy_1 rfl hl (by decide) rfl (fun ls hl => ?_)
  refine lv_iconst (v := 0) hx hb dX7_costBy_2 (by decide) ?_
  refine lv_istore_n (lv' := [(3, .int 0), (2, .int 0), (0, .ref (gA E 84)), (1, .int (nI w))]) hx hb dX7_costBy_3 rfl hl (by decide) rfl (fun ls hl => ?_)
  have lp : ∀ (d : Nat) (i : Nat) (xa : Int32) (ls : Array Slot), (i ≤ n) → (n < i + d) → (xa = sI (fun j => mm j w * f_wait (gof n mm) j) i) → lv_has ls 4 [(0, .ref (gA E 84)), (1, .int (nI w)), (2, .int xa), (3, .int (nI i))] → W p l e (rmZ 2 45) s m ([.ref (gA E 84), .int (nI w)] : List Value).toArray below meth c s.heap [] 0 0 (RQ below ([.ref (gA E 84), .int (nI w)] : List Value).toArray s (some (.int (if w = 1 then f_total (gof n mm) n else f_told (gof n mm) n)))) (F0 m 4 ls []) := by
    intro d
    induction d with
    | zero =>
      intro i xa ls hi hd ea hl
      omega
    | succ d ih_lp =>
      intro i xa ls hi hd ea hl
      refine lv_iload_n hx hb dX7_costBy_4 rfl (lv_at hl 3 rfl) ?_
      refine lv_aload_n hx hb dX7_costBy_5 rfl (lv_at hl 0 rfl) ?_
      refine g_X7_7 C hJ dX7_costBy_6 ?_
      refine lv_iconst (v := 0) hx hb dX7_costBy_9 (by decide) ?_
      refine a_ro C hJ (P := 0) (rfl) (by decide) dX7_costBy_10 ?_
      refine lv_icmp_ge (tgt := 35) hx hb dX7_costBy_11 (by decide) (fun c_11 => ?_) (fun c_11 => ?_)
      · skip
        have e9 : i = n := eqOfLe hi (by omega) (by have q := c_11; rw [hR.many] at q; exact q)
        refine lv_iload_n hx hb dX7_costBy_35 rfl (lv_at hl 2 rfl) ?_
        exact rR_i C hr rfl (by rw [ea, e9]; exact hw.elim (fun q => by subst q; rw [if_pos rfl, total_in hn]) (fun q => by subst q; rw [if_neg (by decide), told_in hn])) dX7_costBy_36
      · skip
        have hlt : i < n := ltOfNle (by omega) (by have q := c_11; rw [hR.many] at q; exact q)
        refine lv_iload_n hx hb dX7_costBy_14 rfl (lv_at hl 2 rfl) ?_
        refine lv_aload_n hx hb dX7_costBy_15 rfl (lv_at hl 0 rfl) ?_
        refine lv_iload_n hx hb dX7_costBy_16 rfl (lv_at hl 3 rfl) ?_
        refine lv_iload_n hx hb dX7_costBy_17 rfl (lv_at hl 1 rfl) ?_
        refine cr_X7_33 C hJ (rest := [.int xa]) (cm_ofw hE hR i w (by omega) ((by omega)) (rfl) (rfl)) dX7_costBy_18 hl.1 ⟨Nat.le_of_ble_eq_true rfl, Nat.le_of_ble_eq_true rfl⟩ ⟨Nat.le_refl _, Nat.le_refl _⟩ (Nat.le_of_ble_eq_true rfl) rfl rfl ?_
        refine lv_aload_n hx hb dX7_costBy_21 rfl (lv_at hl 0 rfl) ?_
        refine lv_iload_n hx hb dX7_costBy_22 rfl (lv_at hl 3 rfl) ?_
        refine cr_X7_137 C hJ (rest := [.int (mm i w), .int xa]) (cm_waitOf hE hR i (by omega) (rfl)) dX7_costBy_23 hl.1 ⟨Nat.le_of_ble_eq_true rfl, Nat.le_of_ble_eq_true rfl⟩ ⟨Nat.le_refl _, Nat.le_refl _⟩ (Nat.le_of_ble_eq_true rfl) rfl rfl ?_
        refine lv_imul hx hb dX7_costBy_26 ?_
        refine lv_iadd hx hb dX7_costBy_27 ?_
        refine lv_istore_n (lv' := [(2, .int (xa + ((mm i w) * (f_wait (gof n mm) i)))), (0, .ref (gA E 84)), (1, .int (nI w)), (3, .int (nI i))]) hx hb dX7_costBy_28 rfl hl (by decide) rfl (fun ls hl => ?_)
        refine lv_iinc (v := nI (i + 1)) (lv' := [(3, .int (nI (i + 1))), (2, .int (xa + ((mm i w) * (f_wait (gof n mm) i)))), (0, .ref (gA E 84)), (1, .int (nI w))]) hx hb dX7_costBy_29 hl (k := 3) rfl (by exact nI_1 i) (by decide) rfl (fun ls hl => ?_)
        refine lv_goto (tgt := 4) hx hb dX7_costBy_32 (by decide) ?_
        exact ih_lp (i + 1) _ _ (by omega) (by omega) (sI_u ea rfl) (lv_sub hl [2, 3, 1, 0] rfl)
  exact lp (n + 1) 0 0 _ (Nat.zero_le _) (by omega) rfl (lv_sub hl [2, 3, 1, 0] rfl)
set_option maxHeartbeats 4000000 in
set_option maxRecDepth 100000 in
theorem c_X7_memberValue {l : Launch} {E : GE} (hE : Env0 E) {S : ST} {n : Nat} {z : Nat → Int32} {mm : Nat → Nat → Int32} (hR : RI S n z mm) (hM : MmOk n mm) (P : Nat) (hP0 : P < n) (w : Nat) (hw : w < 10) : MR l E yX7_memberValue cX7_memberValue 3 (some .int) 2 45 S [.ref (gA E 84), .int (nI P), .int (nI w)] (some (.int (f_mval (gof n mm) P w))) := by
  have hn := hR.n10
  refine MR.of hE (by decide) (Nat.le_of_ble_eq_true rfl) ?_
  intro p e s m below meth c ls C hJ hr hl
  have hx := C.x
  have hb := C.b
  have hl : lv_has ls 3 [(0, .ref (gA E 84)), (1, .int (nI P)), (2, .int (nI w))] := hl
  refine lv_iload_n hx hb dX7_memberValue_0 rfl (lv_at hl 2 rfl) ?_
  rcases (show w = 0 ∨ w = 1 ∨ w = 2 ∨ w = 3 ∨ w = 4 ∨ w = 5 ∨ w = 6 ∨ w = 7 ∨ w = 8 ∨ w = 9 by omega) with e_sw | e_sw | e_sw | e_sw | e_sw | e_sw | e_sw | e_sw | e_sw | e_sw
  · skip
    refine lv_tableIn (off := 51) (tgt := 52) hx hb dX7_memberValue_1 (by rw [e_sw]; decide) (by rw [e_sw]; decide) (by rw [e_sw]; rfl) (by decide) ?_
    refine lv_iload_n hx hb dX7_memberValue_52 rfl (lv_at hl 1 rfl) ?_
    exact rR_i C hr rfl (by rw [e_sw]; rfl) dX7_memberValue_53
  · skip
    refine lv_tableIn (off := 53) (tgt := 54) hx hb dX7_memberValue_1 (by rw [e_sw]; decide) (by rw [e_sw]; decide) (by rw [e_sw]; rfl) (by decide) ?_
    refine lv_aload_n hx hb dX7_memberValue_54 rfl (lv_at hl 0 rfl) ?_
    refine lv_iload_n hx hb dX7_memberValue_55 rfl (lv_at hl 1 rfl) ?_
    refine lv_iload_n hx hb dX7_memberValue_56 rfl (lv_at hl 2 rfl) ?_
    refine cr_X7_33 C hJ (rest := []) (cm_ofw hE hR P w (by omega) ((by omega)) (rfl) (rfl)) dX7_memberValue_57 hl.1 ⟨Nat.le_of_ble_eq_true rfl, Nat.le_of_ble_eq_true rfl⟩ ⟨Nat.le_refl _, Nat.le_refl _⟩ (Nat.le_of_ble_eq_true rfl) rfl rfl ?_
    exact rR_i C hr rfl (by rw [e_sw]; exact (g_in hn hP0 _).symm) dX7_memberValue_60
  · skip
    refine lv_tableIn (off := 53) (tgt := 54) hx hb dX7_memberValue_1 (by rw [e_sw]; decide) (by rw [e_sw]; decide) (by rw [e_sw]; rfl) (by decide) ?_
    refine lv_aload_n hx hb dX7_memberValue_54 rfl (lv_at hl 0 rfl) ?_
    refine lv_iload_n hx hb dX7_memberValue_55 rfl (lv_at hl 1 rfl) ?_
    refine lv_iload_n hx hb dX7_memberValue_56 rfl (lv_at hl 2 rfl) ?_
    refine cr_X7_33 C hJ (rest := []) (cm_ofw hE hR P w (by omega) ((by omega)) (rfl) (rfl)) dX7_memberValue_57 hl.1 ⟨Nat.le_of_ble_eq_true rfl, Nat.le_of_ble_eq_true rfl⟩ ⟨Nat.le_refl _, Nat.le_refl _⟩ (Nat.le_of_ble_eq_true rfl) rfl rfl ?_
    exact rR_i C hr rfl (by rw [e_sw]; exact (g_in hn hP0 _).symm) dX7_memberValue_60
  · skip
    refine lv_tableIn (off := 53) (tgt := 54) hx hb dX7_memberValue_1 (by rw [e_sw]; decide) (by rw [e_sw]; decide) (by rw [e_sw]; rfl) (by decide) ?_
    refine lv_aload_n hx hb dX7_memberValue_54 rfl (lv_at hl 0 rfl) ?_
    refine lv_iload_n hx hb dX7_memberValue_55 rfl (lv_at hl 1 rfl) ?_
    refine lv_iload_n hx hb dX7_memberValue_56 rfl (lv_at hl 2 rfl) ?_
    refine cr_X7_33 C hJ (rest := []) (cm_ofw hE hR P w (by omega) ((by omega)) (rfl) (rfl)) dX7_memberValue_57 hl.1 ⟨Nat.le_of_ble_eq_true rfl, Nat.le_of_ble_eq_true rfl⟩ ⟨Nat.le_refl _, Nat.le_refl _⟩ (Nat.le_of_ble_eq_true rfl) rfl rfl ?_
    exact rR_i C hr rfl (by rw [e_sw]; exact (g_in hn hP0 _).symm) dX7_memberValue_60
  · skip
    refine lv_tableIn (off := 60) (tgt := 61) hx hb dX7_memberValue_1 (by rw [e_sw]; decide) (by rw [e_sw]; decide) (by rw [e_sw]; rfl) (by decide) ?_
    refine lv_aload_n hx hb dX7_memberValue_61 rfl (lv_at hl 0 rfl) ?_
    refine lv_iload_n hx hb dX7_memberValue_62 rfl (lv_at hl 1 rfl) ?_
    refine cr_X7_137 C hJ (rest := []) (cm_waitOf hE hR P (by omega) (rfl)) dX7_memberValue_63 hl.1 ⟨Nat.le_of_ble_eq_true rfl, Nat.le_of_ble_eq_true rfl⟩ ⟨Nat.le_refl _, Nat.le_refl _⟩ (Nat.le_of_ble_eq_true rfl) rfl rfl ?_
    exact rR_i C hr rfl (by rw [e_sw]; rfl) dX7_memberValue_66
  · skip
    refine lv_tableIn (off := 66) (tgt := 67) hx hb dX7_memberValue_1 (by rw [e_sw]; decide) (by rw [e_sw]; decide) (by rw [e_sw]; rfl) (by decide) ?_
    refine lv_aload_n hx hb dX7_memberValue_67 rfl (lv_at hl 0 rfl) ?_
    refine lv_iload_n hx hb dX7_memberValue_68 rfl (lv_at hl 1 rfl) ?_
    refine lv_iconst (v := 1) hx hb dX7_memberValue_69 (by decide) ?_
    refine cr_X7_33 C hJ (rest := []) (cm_of hE hR P 1 (by omega) (by decide) (rfl)) dX7_memberValue_70 hl.1 ⟨Nat.le_of_ble_eq_true rfl, Nat.le_of_ble_eq_true rfl⟩ ⟨Nat.le_refl _, Nat.le_refl _⟩ (Nat.le_of_ble_eq_true rfl) rfl rfl ?_
    refine lv_aload_n hx hb dX7_memberValue_73 rfl (lv_at hl 0 rfl) ?_
    refine lv_iload_n hx hb dX7_memberValue_74 rfl (lv_at hl 1 rfl) ?_
    refine cr_X7_137 C hJ (rest := [.int (mm P 1)]) (cm_waitOf hE hR P (by omega) (rfl)) dX7_memberValue_75 hl.1 ⟨Nat.le_of_ble_eq_true rfl, Nat.le_of_ble_eq_true rfl⟩ ⟨Nat.le_refl _, Nat.le_refl _⟩ (Nat.le_of_ble_eq_true rfl) rfl rfl ?_
    refine lv_imul hx hb dX7_memberValue_78 ?_
    exact rR_i C hr rfl (by rw [e_sw]; show _ = f_cost _ _; unfold f_cost; rw [g_in hn hP0]) dX7_memberValue_79
  · skip
    refine lv_tableIn (off := 79) (tgt := 80) hx hb dX7_memberValue_1 (by rw [e_sw]; decide) (by rw [e_sw]; decide) (by rw [e_sw]; rfl) (by decide) ?_
    refine lv_aload_n hx hb dX7_memberValue_80 rfl (lv_at hl 0 rfl) ?_
    refine lv_iload_n hx hb dX7_memberValue_81 rfl (lv_at hl 1 rfl) ?_
    refine lv_iconst (v := 4) hx hb dX7_memberValue_82 (by decide) ?_
    refine cr_X7_33 C hJ (rest := []) (cm_of hE hR P 4 (by omega) (by decide) (rfl)) dX7_memberValue_83 hl.1 ⟨Nat.le_of_ble_eq_true rfl, Nat.le_of_ble_eq_true rfl⟩ ⟨Nat.le_refl _, Nat.le_refl _⟩ (Nat.le_of_ble_eq_true rfl) rfl rfl ?_
    exact rR_i C hr rfl (by rw [e_sw]; exact (g_in hn hP0 _).symm) dX7_memberValue_86
  · skip
    refine lv_tableIn (off := 86) (tgt := 87) hx hb dX7_memberValue_1 (by rw [e_sw]; decide) (by rw [e_sw]; decide) (by rw [e_sw]; rfl) (by decide) ?_
    refine lv_aload_n hx hb dX7_memberValue_87 rfl (lv_at hl 0 rfl) ?_
    refine lv_iload_n hx hb dX7_memberValue_88 rfl (lv_at hl 1 rfl) ?_
    refine lv_iconst (v := 5) hx hb dX7_memberValue_89 (by decide) ?_
    refine cr_X7_33 C hJ (rest := []) (cm_of hE hR P 5 (by omega) (by decide) (rfl)) dX7_memberValue_90 hl.1 ⟨Nat.le_of_ble_eq_true rfl, Nat.le_of_ble_eq_true rfl⟩ ⟨Nat.le_refl _, Nat.le_refl _⟩ (Nat.le_of_ble_eq_true rfl) rfl rfl ?_
    exact rR_i C hr rfl (by rw [e_sw]; exact (g_in hn hP0 _).symm) dX7_memberValue_93
  · skip
    refine lv_tableIn (off := 93) (tgt := 94) hx hb dX7_memberValue_1 (by rw [e_sw]; decide) (by rw [e_sw]; decide) (by rw [e_sw]; rfl) (by decide) ?_
    refine lv_aload_n hx hb dX7_memberValue_94 rfl (lv_at hl 0 rfl) ?_
    refine lv_iload_n hx hb dX7_memberValue_95 rfl (lv_at hl 1 rfl) ?_
    refine cr_X7_101 C hJ (rest := []) (c_X7_isPair hE hR (nI P)) dX7_memberValue_96 hl.1 ⟨Nat.le_of_ble_eq_true rfl, Nat.le_of_ble_eq_true rfl⟩ ⟨Nat.le_refl _, Nat.le_refl _⟩ (Nat.le_of_ble_eq_true rfl) rfl rfl ?_
    refine lv_if_eq (tgt := 113) hx hb dX7_memberValue_99 (by decide) (fun c_99 => ?_) (fun c_99 => ?_)
    · skip
      have c_5 := c_99
      have q5 := bI_0 c_5
      have hend : ¬ P + 1 < n := fun q => by rw [(f_in_pair hn).mpr ⟨P, q, rfl⟩] at q5; exact absurd q5 (by decide)
      refine lv_iconst (v := (-1)) hx hb dX7_memberValue_113 (by decide) ?_
      exact rR_i C hr rfl (by rw [e_sw]; show _ = gof n mm (nI P + 1) 5; rw [nI_1, gof_far mm (by omega) (by omega)]; rfl) dX7_memberValue_114
    · skip
      have c_5 := c_99
      have q5 := bI_1 c_5
      have hP : P + 1 < n := by
        obtain ⟨Q, hQ, eQ⟩ := (f_in_pair hn).mp q5
        have := (nI_eq (by omega) (by omega)).mp eQ
        omega
      have hg5 : gof n mm (nI P + 1) 5 = mm (P + 1) 5 := g_in1 hn hP 5
      refine lv_aload_n hx hb dX7_memberValue_102 rfl (lv_at hl 0 rfl) ?_
      refine lv_iload_n hx hb dX7_memberValue_103 rfl (lv_at hl 1 rfl) ?_
      refine lv_iconst (v := 1) hx hb dX7_memberValue_104 (by decide) ?_
      refine lv_iadd hx hb dX7_memberValue_105 ?_
      refine lv_iconst (v := 5) hx hb dX7_memberValue_106 (by decide) ?_
      refine cr_X7_33 C hJ (rest := []) (cm_of hE hR (P + 1) 5 (by omega) (by decide) (nI_1 _)) dX7_memberValue_107 hl.1 ⟨Nat.le_of_ble_eq_true rfl, Nat.le_of_ble_eq_true rfl⟩ ⟨Nat.le_refl _, Nat.le_refl _⟩ (Nat.le_of_ble_eq_true rfl) rfl rfl ?_
      refine lv_goto (tgt := 114) hx hb dX7_memberValue_110 (by decide) ?_
      exact rR_i C hr rfl (by rw [e_sw]; exact hg5.symm) dX7_memberValue_114
  · skip
    refine lv_tableOut (tgt := 115) hx hb dX7_memberValue_1 (by rw [e_sw]; decide) (by decide) ?_
    refine lv_aload_n hx hb dX7_memberValue_115 rfl (lv_at hl 0 rfl) ?_
    refine lv_iload_n hx hb dX7_memberValue_116 rfl (lv_at hl 1 rfl) ?_
    refine lv_bipush (v := 6) hx hb dX7_memberValue_117 (by decide) ?_
    refine cr_X7_33 C hJ (rest := []) (cm_of6 hE hR P (by omega) (rfl)) dX7_memberValue_119 hl.1 ⟨Nat.le_of_ble_eq_true rfl, Nat.le_of_ble_eq_true rfl⟩ ⟨Nat.le_refl _, Nat.le_refl _⟩ (Nat.le_of_ble_eq_true rfl) rfl rfl ?_
    refine lv_iload_n hx hb dX7_memberValue_122 rfl (lv_at hl 1 rfl) ?_
    refine lv_if_le (tgt := 138) hx hb dX7_memberValue_123 (by decide) (fun c_123 => ?_) (fun c_123 => ?_)
    · skip
      have h0 : P = 0 := by
        rcases Nat.eq_zero_or_pos P with q | q
        · exact q
        · exact absurd c_123 (nI_nle q (by omega))
      refine lv_iconst (v := 0) hx hb dX7_memberValue_138 (by decide) ?_
      refine lv_iadd hx hb dX7_memberValue_139 ?_
      exact rR_i C hr rfl (by rw [e_sw]; show _ = f_frn _ _; rw [frn_in hn hM hP0]; first | rw [if_pos h0] | rw [if_neg (by omega)]) dX7_memberValue_140
    · skip
      have h0 : 0 < P := by
        rcases Nat.eq_zero_or_pos P with q | q
        · exact absurd (by rw [q]; decide) c_123
        · exact q
      refine lv_aload_n hx hb dX7_memberValue_126 rfl (lv_at hl 0 rfl) ?_
      refine lv_iload_n hx hb dX7_memberValue_127 rfl (lv_at hl 1 rfl) ?_
      refine lv_iconst (v := 1) hx hb dX7_memberValue_128 (by decide) ?_
      refine lv_isub hx hb dX7_memberValue_129 ?_
      refine lv_bipush (v := 6) hx hb dX7_memberValue_130 (by decide) ?_
      refine cr_X7_33 C hJ (rest := [.int (mfr n mm P)]) (cm_of6 hE hR (P - 1) (by omega) (nI_pd (by omega))) dX7_memberValue_132 hl.1 ⟨Nat.le_of_ble_eq_true rfl, Nat.le_of_ble_eq_true rfl⟩ ⟨Nat.le_refl _, Nat.le_refl _⟩ (Nat.le_of_ble_eq_true rfl) rfl rfl ?_
      refine lv_goto (tgt := 139) hx hb dX7_memberValue_135 (by decide) ?_
      refine lv_iadd hx hb dX7_memberValue_139 ?_
      exact rR_i C hr rfl (by rw [e_sw]; show _ = f_frn _ _; rw [frn_in hn hM hP0]; first | rw [if_pos h0] | rw [if_neg (by omega)]) dX7_memberValue_140
set_option maxHeartbeats 4000000 in
set_option maxRecDepth 100000 in
theorem c_X7_pairValue {l : Launch} {E : GE} (hE : Env0 E) {S : ST} {n : Nat} {z : Nat → Int32} {mm : Nat → Nat → Int32} (hR : RI S n z mm) (hM : MmOk n mm) (P : Nat) (hP : P + 1 < n) (w : Nat) (hw : w < 5) : MR l E yX7_pairValue cX7_pairValue 3 (some .int) 4 85 S [.ref (gA E 84), .int (nI P), .int (nI w)] (some (.int (f_pval (gof n mm) (z 3) (nI P) w))) := by
  have hn := hR.n10
  refine MR.of hE (by decide) (Nat.le_of_ble_eq_true rfl) ?_
  intro p e s m below meth c ls C hJ hr hl
  have hx := C.x
  have hb := C.b
  have hl : lv_has ls 3 [(0, .ref (gA E 84)), (1, .int (nI P)), (2, .int (nI w))] := hl
  refine lv_iload_n hx hb dX7_pairValue_0 rfl (lv_at hl 2 rfl) ?_
  rcases (show w = 0 ∨ w = 1 ∨ w = 2 ∨ w = 3 ∨ w = 4 by omega) with e_sw | e_sw | e_sw | e_sw | e_sw
  · skip
    refine lv_tableIn (off := 31) (tgt := 32) hx hb dX7_pairValue_1 (by rw [e_sw]; decide) (by rw [e_sw]; decide) (by rw [e_sw]; rfl) (by decide) ?_
    refine lv_aload_n hx hb dX7_pairValue_32 rfl (lv_at hl 0 rfl) ?_
    refine lv_iload_n hx hb dX7_pairValue_33 rfl (lv_at hl 1 rfl) ?_
    refine cr_X7_83 C hJ (rest := []) (cm_gain hE hR P (by omega) (rfl)) dX7_pairValue_34 hl.1 ⟨Nat.le_of_ble_eq_true rfl, Nat.le_of_ble_eq_true rfl⟩ ⟨Nat.le_refl _, Nat.le_refl _⟩ (Nat.le_of_ble_eq_true rfl) rfl rfl ?_
    exact rR_i C hr rfl (by rw [e_sw]; rfl) dX7_pairValue_37
  · skip
    refine lv_tableIn (off := 37) (tgt := 38) hx hb dX7_pairValue_1 (by rw [e_sw]; decide) (by rw [e_sw]; decide) (by rw [e_sw]; rfl) (by decide) ?_
    refine lv_aload_n hx hb dX7_pairValue_38 rfl (lv_at hl 0 rfl) ?_
    refine lv_iload_n hx hb dX7_pairValue_39 rfl (lv_at hl 1 rfl) ?_
    refine cr_X7_86 C hJ (rest := []) (cm_loss hE hR P (by omega) (rfl)) dX7_pairValue_40 hl.1 ⟨Nat.le_of_ble_eq_true rfl, Nat.le_of_ble_eq_true rfl⟩ ⟨Nat.le_refl _, Nat.le_refl _⟩ (Nat.le_of_ble_eq_true rfl) rfl rfl ?_
    exact rR_i C hr rfl (by rw [e_sw]; rfl) dX7_pairValue_43
  · skip
    refine lv_tableIn (off := 43) (tgt := 44) hx hb dX7_pairValue_1 (by rw [e_sw]; decide) (by rw [e_sw]; decide) (by rw [e_sw]; rfl) (by decide) ?_
    refine lv_aload_n hx hb dX7_pairValue_44 rfl (lv_at hl 0 rfl) ?_
    refine lv_iload_n hx hb dX7_pairValue_45 rfl (lv_at hl 1 rfl) ?_
    refine cr_X7_89 C hJ (rest := []) (cm_surplus hE hR P (by omega) (rfl)) dX7_pairValue_46 hl.1 ⟨Nat.le_of_ble_eq_true rfl, Nat.le_of_ble_eq_true rfl⟩ ⟨Nat.le_refl _, Nat.le_refl _⟩ (Nat.le_of_ble_eq_true rfl) rfl rfl ?_
    exact rR_i C hr rfl (by rw [e_sw]; rfl) dX7_pairValue_49
  · skip
    refine lv_tableIn (off := 49) (tgt := 50) hx hb dX7_pairValue_1 (by rw [e_sw]; decide) (by rw [e_sw]; decide) (by rw [e_sw]; rfl) (by decide) ?_
    refine lv_aload_n hx hb dX7_pairValue_50 rfl (lv_at hl 0 rfl) ?_
    refine lv_iload_n hx hb dX7_pairValue_51 rfl (lv_at hl 1 rfl) ?_
    refine cr_X7_89 C hJ (rest := []) (cm_surplus hE hR P (by omega) (rfl)) dX7_pairValue_52 hl.1 ⟨Nat.le_of_ble_eq_true rfl, Nat.le_of_ble_eq_true rfl⟩ ⟨Nat.le_refl _, Nat.le_refl _⟩ (Nat.le_of_ble_eq_true rfl) rfl rfl ?_
    refine lv_if_le (tgt := 66) hx hb dX7_pairValue_55 (by decide) (fun c_55 => ?_) (fun c_55 => ?_)
    · skip
      refine lv_iconst (v := (-1)) hx hb dX7_pairValue_66 (by decide) ?_
      exact rR_i C hr rfl (by rw [e_sw]; exact (if_neg (Int32.not_lt.mpr c_55)).symm) dX7_pairValue_67
    · skip
      refine lv_aload_n hx hb dX7_pairValue_58 rfl (lv_at hl 0 rfl) ?_
      refine lv_iload_n hx hb dX7_pairValue_59 rfl (lv_at hl 1 rfl) ?_
      refine cr_X7_122 C hJ (rest := []) (cm_fairPrice hE hR P (by omega) (rfl)) dX7_pairValue_60 hl.1 ⟨Nat.le_of_ble_eq_true rfl, Nat.le_of_ble_eq_true rfl⟩ ⟨Nat.le_refl _, Nat.le_refl _⟩ (Nat.le_of_ble_eq_true rfl) rfl rfl ?_
      refine lv_goto (tgt := 67) hx hb dX7_pairValue_63 (by decide) ?_
      exact rR_i C hr rfl (by rw [e_sw]; exact (if_pos (Int32.not_le.mp c_55)).symm) dX7_pairValue_67
  · skip
    refine lv_tableOut (tgt := 68) hx hb dX7_pairValue_1 (by rw [e_sw]; decide) (by decide) ?_
    refine lv_aload_n hx hb dX7_pairValue_68 rfl (lv_at hl 0 rfl) ?_
    refine lv_iload_n hx hb dX7_pairValue_69 rfl (lv_at hl 1 rfl) ?_
    refine lv_bipush (v := 6) hx hb dX7_pairValue_70 (by decide) ?_
    refine cr_X7_33 C hJ (rest := []) (cm_of6 hE hR P (by omega) (rfl)) dX7_pairValue_72 hl.1 ⟨Nat.le_of_ble_eq_true rfl, Nat.le_of_ble_eq_true rfl⟩ ⟨Nat.le_refl _, Nat.le_refl _⟩ (Nat.le_of_ble_eq_true rfl) rfl rfl ?_
    exact rR_i C hr rfl (by rw [e_sw]; show _ = if f_fr (gof n mm) (nI P) = 0 then (0 : Int32) else 1; rw [fr_in hn (by omega)]; exact (mfr_b hM P).elim (fun q => by rw [q]; rfl) (fun q => by rw [q]; rfl)) dX7_pairValue_75
