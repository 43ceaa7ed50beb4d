/-! TEXT, its methods (by program) -/
set_option maxHeartbeats 4000000 in
set_option maxRecDepth 100000 in
theorem c_X2_isLetter {l : Launch} {E : GE} (hE : Env0 E) {S : ST} (p0 : Int32) : MR l E yX2_isLetter cX2_isLetter 1 (some .boolean) 0 0 S [.int p0] (some (.int (bI (leB p0)))) := by
  refine MR.of hE (by decide) (Nat.le_of_ble_eq_true rfl) ?_
  intro p e s m below meth c ls C hJ hr hl
  have hx := C.x
  have hb := C.b
  have hl : lv_has ls 1 [(0, .int p0)] := hl
  refine lv_iload_n hx hb dX2_isLetter_0 rfl (lv_at hl 0 rfl) ?_
  refine lv_bipush (v := 97) hx hb dX2_isLetter_1 (by decide) ?_
  refine lv_icmp_lt (tgt := 16) hx hb dX2_isLetter_3 (by decide) (fun c_3 => ?_) (fun c_3 => ?_)
  · skip
    refine lv_iconst (v := 0) hx hb dX2_isLetter_16 (by decide) ?_
    exact rR_i C hr rfl (by unfold leB bI; first | (rw [decide_eq_false (Int32.not_le.mpr c_3)]; rfl) | (rw [decide_eq_false (Int32.not_le.mpr c_9), Bool.and_false]; rfl)) dX2_isLetter_17
  · skip
    refine lv_iload_n hx hb dX2_isLetter_6 rfl (lv_at hl 0 rfl) ?_
    refine lv_bipush (v := 122) hx hb dX2_isLetter_7 (by decide) ?_
    refine lv_icmp_gt (tgt := 16) hx hb dX2_isLetter_9 (by decide) (fun c_9 => ?_) (fun c_9 => ?_)
    · skip
      refine lv_iconst (v := 0) hx hb dX2_isLetter_16 (by decide) ?_
      exact rR_i C hr rfl (by unfold leB bI; first | (rw [decide_eq_false (Int32.not_le.mpr c_3)]; rfl) | (rw [decide_eq_false (Int32.not_le.mpr c_9), Bool.and_false]; rfl)) dX2_isLetter_17
    · skip
      refine lv_iconst (v := 1) hx hb dX2_isLetter_12 (by decide) ?_
      refine lv_goto (tgt := 17) hx hb dX2_isLetter_13 (by decide) ?_
      exact rR_i C hr rfl (by unfold leB bI; rw [decide_eq_true (Int32.not_lt.mp c_3), decide_eq_true (Int32.not_lt.mp c_9)]; rfl) dX2_isLetter_17
set_option maxHeartbeats 4000000 in
set_option maxRecDepth 100000 in
theorem c_X2_isDigit {l : Launch} {E : GE} (hE : Env0 E) {S : ST} (p0 : Int32) : MR l E yX2_isDigit cX2_isDigit 1 (some .boolean) 0 0 S [.int p0] (some (.int (bI (dgB p0)))) := by
  refine MR.of hE (by decide) (Nat.le_of_ble_eq_true rfl) ?_
  intro p e s m below meth c ls C hJ hr hl
  have hx := C.x
  have hb := C.b
  have hl : lv_has ls 1 [(0, .int p0)] := hl
  refine lv_iload_n hx hb dX2_isDigit_0 rfl (lv_at hl 0 rfl) ?_
  refine lv_bipush (v := 48) hx hb dX2_isDigit_1 (by decide) ?_
  refine lv_icmp_lt (tgt := 16) hx hb dX2_isDigit_3 (by decide) (fun c_3 => ?_) (fun c_3 => ?_)
  · skip
    refine lv_iconst (v := 0) hx hb dX2_isDigit_16 (by decide) ?_
    exact rR_i C hr rfl (by unfold dgB bI; first | (rw [decide_eq_false (Int32.not_le.mpr c_3)]; rfl) | (rw [decide_eq_false (Int32.not_le.mpr c_9), Bool.and_false]; rfl)) dX2_isDigit_17
  · skip
    refine lv_iload_n hx hb dX2_isDigit_6 rfl (lv_at hl 0 rfl) ?_
    refine lv_bipush (v := 57) hx hb dX2_isDigit_7 (by decide) ?_
    refine lv_icmp_gt (tgt := 16) hx hb dX2_isDigit_9 (by decide) (fun c_9 => ?_) (fun c_9 => ?_)
    · skip
      refine lv_iconst (v := 0) hx hb dX2_isDigit_16 (by decide) ?_
      exact rR_i C hr rfl (by unfold dgB bI; first | (rw [decide_eq_false (Int32.not_le.mpr c_3)]; rfl) | (rw [decide_eq_false (Int32.not_le.mpr c_9), Bool.and_false]; rfl)) dX2_isDigit_17
    · skip
      refine lv_iconst (v := 1) hx hb dX2_isDigit_12 (by decide) ?_
      refine lv_goto (tgt := 17) hx hb dX2_isDigit_13 (by decide) ?_
      exact rR_i C hr rfl (by unfold dgB bI; rw [decide_eq_true (Int32.not_lt.mp c_3), decide_eq_true (Int32.not_lt.mp c_9)]; rfl) dX2_isDigit_17
set_option maxHeartbeats 4000000 in
set_option maxRecDepth 100000 in
theorem c_X2_byteAt {l : Launch} {E : GE} (hE : Env0 E) {S : ST} {u_n u_p : Nat} {u_b u_g : Nat → Int32} {u_f : Int32} {u_c : Option Nat} (hT : TX S u_n u_b u_p u_f u_c u_g) (hN : u_n ≤ 150) (P : Nat) (hP : P ≤ u_n) : MR l E yX2_byteAt cX2_byteAt 2 (some .int) 0 0 S [.ref (gA E 80), .int (nI P)] (some (.int (t_at u_n u_b P))) := by
  refine MR.of hE (by decide) (Nat.le_of_ble_eq_true rfl) ?_
  intro p e s m below meth c ls C hJ hr hl
  have hx := C.x
  have hb := C.b
  have hl : lv_has ls 2 [(0, .ref (gA E 80)), (1, .int (nI P))] := hl
  refine lv_iload_n hx hb dX2_byteAt_0 rfl (lv_at hl 1 rfl) ?_
  refine lv_if_lt (tgt := 30) hx hb dX2_byteAt_1 (by decide) (fun c_1 => ?_) (fun c_1 => ?_)
  · skip
    exact absurd c_1 (nI_pos (by omega))
  · skip
    refine lv_iload_n hx hb dX2_byteAt_4 rfl (lv_at hl 1 rfl) ?_
    refine lv_aload_n hx hb dX2_byteAt_5 rfl (lv_at hl 0 rfl) ?_
    refine g_X2_23 C hJ dX2_byteAt_6 ?_
    refine lv_icmp_ge (tgt := 30) hx hb dX2_byteAt_9 (by decide) (fun c_9 => ?_) (fun c_9 => ?_)
    · skip
      have hge : u_n ≤ P := by
        rcases Nat.lt_or_ge P u_n with q | q
        · rw [hT.1] at c_9; exact absurd c_9 (nI_ge q (by omega))
        · exact q
      refine lv_iconst (v := (-1)) hx hb dX2_byteAt_30 (by decide) ?_
      exact rR_i C hr rfl (by unfold t_at; rw [if_neg (by omega)]) dX2_byteAt_31
    · skip
      have hlt : P < u_n := by
        rcases Nat.lt_or_ge P u_n with q | q
        · exact q
        · exact absurd (by rw [hT.1]; exact nI_le q (by omega)) c_9
      refine lv_iload_n hx hb dX2_byteAt_12 rfl (lv_at hl 1 rfl) ?_
      refine lv_aload_n hx hb dX2_byteAt_13 rfl (lv_at hl 0 rfl) ?_
      refine g_X2_9 C hJ dX2_byteAt_14 ?_
      refine al_by C hJ dX2_byteAt_17 ?_
      refine lv_icmp_ge (tgt := 30) hx hb dX2_byteAt_18 (by decide) (fun c_18 => ?_) (fun c_18 => ?_)
      · skip
        exact absurd (nI_lt (b := 150) (by omega) (by decide)) (Int32.not_lt.mpr c_18)
      · skip
        refine lv_aload_n hx hb dX2_byteAt_21 rfl (lv_at hl 0 rfl) ?_
        refine g_X2_9 C hJ dX2_byteAt_22 ?_
        refine lv_iload_n hx hb dX2_byteAt_25 rfl (lv_at hl 1 rfl) ?_
        refine a_by C hJ (P := P) (rfl) (by omega) dX2_byteAt_26 ?_
        refine lv_goto (tgt := 31) hx hb dX2_byteAt_27 (by decide) ?_
        exact rR_i C hr rfl (by unfold t_at; rw [if_pos hlt, ← hT.2.2.2.2.1]) dX2_byteAt_31
set_option maxHeartbeats 4000000 in
set_option maxRecDepth 100000 in
theorem c_X2_number {l : Launch} {E : GE} (hE : Env0 E) {S : ST} {u_n u_p : Nat} {u_b u_g : Nat → Int32} {u_f : Int32} {u_c : Option Nat} (hT : TX S u_n u_b u_p u_f u_c u_g) (hN : u_n ≤ 150) (u_k : Nat) (hk : u_k < 3) : MR l E yX2_number cX2_number 2 (some .int) 0 0 S [.ref (gA E 80), .int (nI u_k)] (some (.int (u_g u_k))) := by
  refine MR.of hE (by decide) (Nat.le_of_ble_eq_true rfl) ?_
  intro p e s m below meth c ls C hJ hr hl
  have hx := C.x
  have hb := C.b
  have hl : lv_has ls 2 [(0, .ref (gA E 80)), (1, .int (nI u_k))] := hl
  refine lv_iload_n hx hb dX2_number_0 rfl (lv_at hl 1 rfl) ?_
  refine lv_if_lt (tgt := 22) hx hb dX2_number_1 (by decide) (fun c_1 => ?_) (fun c_1 => ?_)
  · skip
    exact absurd c_1 (nI_pos (by omega))
  · skip
    refine lv_iload_n hx hb dX2_number_4 rfl (lv_at hl 1 rfl) ?_
    refine lv_aload_n hx hb dX2_number_5 rfl (lv_at hl 0 rfl) ?_
    refine g_X2_19 C hJ dX2_number_6 ?_
    refine al_nu C hJ dX2_number_9 ?_
    refine lv_icmp_ge (tgt := 22) hx hb dX2_number_10 (by decide) (fun c_10 => ?_) (fun c_10 => ?_)
    · skip
      exact absurd (nI_lt (b := 3) hk (by decide)) (Int32.not_lt.mpr c_10)
    · skip
      refine lv_aload_n hx hb dX2_number_13 rfl (lv_at hl 0 rfl) ?_
      refine g_X2_19 C hJ dX2_number_14 ?_
      refine lv_iload_n hx hb dX2_number_17 rfl (lv_at hl 1 rfl) ?_
      refine a_nu C hJ (P := u_k) (rfl) (hk) dX2_number_18 ?_
      refine lv_goto (tgt := 23) hx hb dX2_number_19 (by decide) ?_
      exact rR_i C hr rfl (by rw [← hT.2.2.2.2.2]) dX2_number_23
set_option maxHeartbeats 4000000 in
set_option maxRecDepth 100000 in
theorem c_X2_isSpelled {l : Launch} {E : GE} (hE : Env0 E) {S : ST} {X : EX} (hX : Env1 E X) {u_n u_p : Nat} {u_b u_g : Nat → Int32} {u_f : Int32} {u_c : Option Nat} (hT : TX S u_n u_b u_p u_f u_c u_g) (hN : u_n ≤ 150) (u_j P u_q : Nat) (hj : u_j < 11) (hPq : P ≤ u_q) (hqn : u_q ≤ u_n) : MR l E yX2_isSpelled cX2_isSpelled 5 (some .boolean) 4 85 S [.ref (gA E 80), .ref (X.1 u_j), .int (nI P), .int (nI u_q)] (some (.int (bI (t_spB u_b P u_q u_j)))) := by
  have h6 := wLen_ok hj
  refine MR.of hE (by decide) (Nat.le_of_ble_eq_true rfl) ?_
  intro p e s m below meth c ls C hJ hr hl
  have hx := C.x
  have hb := C.b
  have hl : lv_has ls 5 [(0, .ref (gA E 80)), (1, .ref (X.1 u_j)), (2, .int (nI P)), (3, .int (nI u_q))] := hl
  refine lv_aload_n hx hb dX2_isSpelled_0 rfl (lv_at hl 1 rfl) ?_
  refine lv_ifnull hx hb dX2_isSpelled_1 ?_
  refine lv_iload_n hx hb dX2_isSpelled_4 rfl (lv_at hl 3 rfl) ?_
  refine lv_iload_n hx hb dX2_isSpelled_5 rfl (lv_at hl 2 rfl) ?_
  have hsub : nI u_q - nI P = nI (u_q - P) := by
    have := nI_add (u_q - P) P
    rw [show u_q - P + P = u_q by omega] at this
    rw [← this, Int32.add_sub_cancel]
  refine lv_isub hx hb dX2_isSpelled_6 ?_
  refine lv_aload_n hx hb dX2_isSpelled_7 rfl (lv_at hl 1 rfl) ?_
  refine k_R (rest := [.int ((nI u_q) - (nI P))]) (v := some (.int (nI (wLen.getD u_j 0)))) (r_VO (rest := [.int ((nI u_q) - (nI P))]) (As := []) (n := 0) C hJ (c_strLen hE hX hj) (hX.2.2.1.1 u_j hj).1 km_X2_91 ki_J0_length_8abf5 ks_J0_length_8abf5 k0_J0 kc_J0_length_8abf5 ⟨rfl, by decide, by decide, by decide +kernel⟩ rfl dX2_isSpelled_8 hl.1 ⟨Nat.le_of_ble_eq_true rfl, Nat.le_of_ble_eq_true rfl⟩ ⟨Nat.le_refl _, Nat.le_refl _⟩ (Nat.le_of_ble_eq_true rfl) rfl) ?_
  refine lv_icmp_eq (tgt := 16) hx hb dX2_isSpelled_11 (by decide) (fun c_11 => ?_) (fun c_11 => ?_)
  · skip
    have hlen : u_q - P = wLen.getD u_j 0 := (nI_eq (by omega) (by omega)).mp (hsub.symm.trans c_11)
    refine lv_iconst (v := 0) hx hb dX2_isSpelled_16 (by decide) ?_
    refine lv_istore (lv' := [(4, .int 0), (0, .ref (gA E 80)), (1, .ref (X.1 u_j)), (2, .int (nI P)), (3, .int (nI u_q))]) hx hb dX2_isSpelled_17 hl (by decide) rfl (fun ls hl => ?_)
    have lp : ∀ (d : Nat) (i : Nat) (ls : Array Slot), (i ≤ wLen.getD u_j 0) → (wLen.getD u_j 0 < i + d) → (∀ u_i, u_i < i → (wByt.getD u_j []).getD u_i 0 = u_b (P + u_i)) → lv_has ls 5 [(0, .ref (gA E 80)), (1, .ref (X.1 u_j)), (2, .int (nI P)), (4, .int (nI i))] → W p l e (rmZ 4 85) s m ([.ref (gA E 80), .ref (X.1 u_j), .int (nI P), .int (nI u_q)] : List Value).toArray below meth c s.heap [] 0 0 (RQ below ([.ref (gA E 80), .ref (X.1 u_j), .int (nI P), .int (nI u_q)] : List Value).toArray s (some (.int (bI (t_spB u_b P u_q u_j))))) (F0 m 19 ls []) := by
      intro d
      induction d with
      | zero =>
        intro i ls hi hd hall hl
        omega
      | succ d ih_lp =>
        intro i ls hi hd hall hl
        refine lv_iload hx hb dX2_isSpelled_19 (lv_at hl 3 rfl) ?_
        refine lv_aload_n hx hb dX2_isSpelled_21 rfl (lv_at hl 1 rfl) ?_
        refine k_R (rest := [.int (nI i)]) (v := some (.int (nI (wLen.getD u_j 0)))) (r_VO (rest := [.int (nI i)]) (As := []) (n := 0) C hJ (c_strLen hE hX hj) (hX.2.2.1.1 u_j hj).1 km_X2_91 ki_J0_length_8abf5 ks_J0_length_8abf5 k0_J0 kc_J0_length_8abf5 ⟨rfl, by decide, by decide, by decide +kernel⟩ rfl dX2_isSpelled_22 hl.1 ⟨Nat.le_of_ble_eq_true rfl, Nat.le_of_ble_eq_true rfl⟩ ⟨Nat.le_refl _, Nat.le_refl _⟩ (Nat.le_of_ble_eq_true rfl) rfl) ?_
        refine lv_icmp_ge (tgt := 53) hx hb dX2_isSpelled_25 (by decide) (fun c_25 => ?_) (fun c_25 => ?_)
        · skip
          have hge : wLen.getD u_j 0 ≤ i := by
            rcases Nat.lt_or_ge i (wLen.getD u_j 0) with q | q
            · exact absurd c_25 (nI_ge q (by omega))
            · exact q
          refine lv_iconst (v := 1) hx hb dX2_isSpelled_53 (by decide) ?_
          exact rR_i C hr rfl (by unfold bI; rw [if_pos (t_spB_i.mpr ⟨hlen, fun u_i hi => hall u_i (by omega)⟩)]) dX2_isSpelled_54
        · skip
          have hlt : i < wLen.getD u_j 0 := by
            rcases Nat.lt_or_ge i (wLen.getD u_j 0) with q | q
            · exact q
            · exact absurd (nI_le q (by omega)) c_25
          refine lv_aload_n hx hb dX2_isSpelled_28 rfl (lv_at hl 1 rfl) ?_
          refine lv_iload hx hb dX2_isSpelled_29 (lv_at hl 3 rfl) ?_
          refine k_R (rest := []) (v := some (.int ((wByt.getD u_j []).getD i 0))) (r_VO (rest := []) (As := [.int (nI i)]) (n := 1) C hJ (c_charAt hE hX hj (hlt)) (hX.2.2.1.1 u_j hj).1 km_X2_95 ki_J0_charAt_5068e ks_J0_charAt_5068e k0_J0 kc_J0_charAt_5068e ⟨rfl, by decide, by decide, by decide +kernel⟩ rfl dX2_isSpelled_31 hl.1 ⟨Nat.le_of_ble_eq_true rfl, Nat.le_of_ble_eq_true rfl⟩ ⟨Nat.le_refl _, Nat.le_refl _⟩ (Nat.le_of_ble_eq_true rfl) rfl) ?_
          refine lv_aload_n hx hb dX2_isSpelled_34 rfl (lv_at hl 0 rfl) ?_
          refine lv_iload_n hx hb dX2_isSpelled_35 rfl (lv_at hl 2 rfl) ?_
          refine lv_iload hx hb dX2_isSpelled_36 (lv_at hl 3 rfl) ?_
          refine lv_iadd hx hb dX2_isSpelled_38 ?_
          rw [nI_add P i]
          refine cr_X2_64 C hJ (rest := [.int ((wByt.getD u_j []).getD i 0)]) (c_X2_byteAt hE hT hN (P + i) (by omega)) dX2_isSpelled_39 hl.1 ⟨Nat.le_of_ble_eq_true rfl, Nat.le_of_ble_eq_true rfl⟩ ⟨Nat.le_refl _, Nat.le_refl _⟩ (Nat.le_of_ble_eq_true rfl) rfl rfl ?_
          refine lv_icmp_eq (tgt := 47) hx hb dX2_isSpelled_42 (by decide) (fun c_42 => ?_) (fun c_42 => ?_)
          · skip
            have heq : (wByt.getD u_j []).getD i 0 = u_b (P + i) := by have q := c_42; unfold t_at at q; rw [if_pos (by omega)] at q; exact q
            refine lv_iinc (v := nI (i + 1)) (lv' := [(4, .int (nI (i + 1))), (0, .ref (gA E 80)), (1, .ref (X.1 u_j)), (2, .int (nI P))]) hx hb dX2_isSpelled_47 hl (k := 3) rfl (by exact nI_1 i) (by decide) rfl (fun ls hl => ?_)
            refine lv_goto (tgt := 19) hx hb dX2_isSpelled_50 (by decide) ?_
            exact ih_lp (i + 1) _ (by omega) (by omega) (fun u_i hi => (Nat.lt_succ_iff_lt_or_eq.mp hi).elim (hall u_i) (fun q => by rw [q]; exact heq)) (lv_sub hl [1, 2, 3, 0] rfl)
          · skip
            have hne : ¬ (wByt.getD u_j []).getD i 0 = u_b (P + i) := fun q => c_42 (by unfold t_at; rw [if_pos (by omega)]; exact q)
            refine lv_iconst (v := 0) hx hb dX2_isSpelled_45 (by decide) ?_
            exact rR_i C hr rfl (by unfold bI; rw [if_neg (fun q => hne ((t_spB_i.mp q).2 i hlt))]) dX2_isSpelled_46
    exact lp 7 0 _ (Nat.zero_le _) (by omega) (fun u_i hi => absurd hi (by omega)) (lv_sub hl [1, 2, 3, 0] rfl)
  · skip
    have hlen : u_q - P ≠ wLen.getD u_j 0 := fun q => c_11 (by rw [hsub, q])
    refine lv_iconst (v := 0) hx hb dX2_isSpelled_14 (by decide) ?_
    exact rR_i C hr rfl (by unfold bI; rw [if_neg (fun q => hlen (t_spB_i.mp q).1)]) dX2_isSpelled_15
set_option maxHeartbeats 4000000 in
set_option maxRecDepth 100000 in
theorem c_X2_commandSpelled {l : Launch} {E : GE} (hE : Env0 E) {S : ST} {X : EX} (hX : Env1 E X) {u_n u_p : Nat} {u_b u_g : Nat → Int32} {u_f : Int32} {u_c : Option Nat} (hT : TX S u_n u_b u_p u_f u_c u_g) (hN : u_n ≤ 150) (P u_q : Nat) (hPq : P ≤ u_q) (hqn : u_q ≤ u_n) : MR l E yX2_commandSpelled cX2_commandSpelled 7 (some (.object "ConsentQueue$Command")) 5 109 S [.ref (gA E 80), .int (nI P), .int (nI u_q)] (some (va_re (gN E) (t_cmd u_b P u_q))) := by
  refine MR.of hE (by decide) (Nat.le_of_ble_eq_true rfl) ?_
  intro p e s m below meth c ls C hJ hr hl
  have hx := C.x
  have hb := C.b
  have hl : lv_has ls 7 [(0, .ref (gA E 80)), (1, .int (nI P)), (2, .int (nI u_q))] := hl
  refine i_ZN C hJ hX.2.2.2.2.2.1 kn_X2_79 rfl dX2_commandSpelled_0 ?_
  refine lv_astore_n (lv' := [(3, .ref X.2.2.2), (0, .ref (gA E 80)), (1, .int (nI P)), (2, .int (nI u_q))]) hx hb dX2_commandSpelled_3 rfl hl (by decide) rfl (fun ls hl => ?_)
  refine lv_aload_n hx hb dX2_commandSpelled_4 rfl (lv_at hl 0 rfl) ?_
  refine i_Tl C hJ hX.2.2.2.2.2.2.1 (v := 11) rfl dX2_commandSpelled_5 ?_
  refine lv_istore (lv' := [(4, .int 11), (3, .ref X.2.2.2), (0, .ref (gA E 80)), (1, .int (nI P)), (2, .int (nI u_q))]) hx hb dX2_commandSpelled_6 hl (by decide) rfl (fun ls hl => ?_)
  refine lv_iconst (v := 0) hx hb dX2_commandSpelled_8 (by decide) ?_
  refine lv_istore (lv' := [(5, .int 0), (4, .int 11), (3, .ref X.2.2.2), (0, .ref (gA E 80)), (1, .int (nI P)), (2, .int (nI u_q))]) hx hb dX2_commandSpelled_9 hl (by decide) rfl (fun ls hl => ?_)
  have lp : ∀ (d : Nat) (i : Nat) (ls : Array Slot), (i ≤ 11) → (11 < i + d) → (t_find u_b P u_q (11 - i) i = t_cmd u_b P u_q) → lv_has ls 7 [(0, .ref (gA E 80)), (1, .int (nI P)), (2, .int (nI u_q)), (3, .ref X.2.2.2), (4, .int 11), (5, .int (nI i))] → W p l e (rmZ 5 109) s m ([.ref (gA E 80), .int (nI P), .int (nI u_q)] : List Value).toArray below meth c s.heap [] 0 0 (RQ below ([.ref (gA E 80), .int (nI P), .int (nI u_q)] : List Value).toArray s (some (va_re (gN E) (t_cmd u_b P u_q)))) (F0 m 11 ls []) := by
    intro d
    induction d with
    | zero =>
      intro i ls hi hd hf hl
      omega
    | succ d ih_lp =>
      intro i ls hi hd hf hl
      refine lv_iload hx hb dX2_commandSpelled_11 (lv_at hl 5 rfl) ?_
      refine lv_iload hx hb dX2_commandSpelled_13 (lv_at hl 4 rfl) ?_
      refine lv_icmp_ge (tgt := 52) hx hb dX2_commandSpelled_15 (by decide) (fun c_15 => ?_) (fun c_15 => ?_)
      · skip
        have e9 : i = 11 := eqOfLe (N := 11) hi (by omega) c_15
        subst e9
        refine lv_null hx hb dX2_commandSpelled_52 ?_
        exact rR_a C hr (Or.inl ⟨_, rfl⟩) (Or.inl rfl) (by rw [← hf]; rfl) dX2_commandSpelled_53
      · skip
        have hlt : i < 11 := ltOfNle (by omega) c_15
        have hu : t_find u_b P u_q (11 - i) i = if t_spB u_b P u_q i = true then some i else t_find u_b P u_q (11 - (i + 1)) (i + 1) := by
          rw [show 11 - i = (11 - (i + 1)) + 1 by omega]; rfl
        refine lv_aload_n hx hb dX2_commandSpelled_18 rfl (lv_at hl 3 rfl) ?_
        refine lv_iload hx hb dX2_commandSpelled_19 (lv_at hl 5 rfl) ?_
        refine i_Tq C hJ hX.2.2.2.2.2.2.1 (j := i) (hlt) (by decide) rfl (rfl) dX2_commandSpelled_21 ?_
        refine lv_astore (lv' := [(6, .ref (gN E i)), (0, .ref (gA E 80)), (1, .int (nI P)), (2, .int (nI u_q)), (3, .ref X.2.2.2), (4, .int 11), (5, .int (nI i))]) hx hb dX2_commandSpelled_22 hl (by decide) rfl (fun ls hl => ?_)
        refine lv_aload hx hb dX2_commandSpelled_24 (lv_at hl 0 rfl) ?_
        refine lv_ifnull hx hb dX2_commandSpelled_26 ?_
        refine lv_aload_n hx hb dX2_commandSpelled_29 rfl (lv_at hl 1 rfl) ?_
        refine lv_aload hx hb dX2_commandSpelled_30 (lv_at hl 0 rfl) ?_
        refine i_OFN C hJ (hX.2.1 i (hlt)) kn_X2_83 rfl dX2_commandSpelled_32 ?_
        refine lv_iload_n hx hb dX2_commandSpelled_35 rfl (lv_at hl 2 rfl) ?_
        refine lv_iload_n hx hb dX2_commandSpelled_36 rfl (lv_at hl 3 rfl) ?_
        refine cr_X2_87 C hJ (rest := []) (c_X2_isSpelled hE hX hT hN i P u_q (hlt) hPq hqn) dX2_commandSpelled_37 hl.1 ⟨Nat.le_of_ble_eq_true rfl, Nat.le_of_ble_eq_true rfl⟩ ⟨Nat.le_refl _, Nat.le_refl _⟩ (Nat.le_of_ble_eq_true rfl) rfl rfl ?_
        refine lv_if_eq (tgt := 46) hx hb dX2_commandSpelled_40 (by decide) (fun c_40 => ?_) (fun c_40 => ?_)
        · skip
          have hf1 : t_find u_b P u_q (11 - (i + 1)) (i + 1) = t_cmd u_b P u_q := by
            rw [← hf, hu, if_neg (fun q => by unfold bI at c_40; rw [if_pos q] at c_40; exact absurd c_40 (by decide))]
          refine lv_iinc (v := nI (i + 1)) (lv' := [(5, .int (nI (i + 1))), (6, .ref (gN E i)), (0, .ref (gA E 80)), (1, .int (nI P)), (2, .int (nI u_q)), (3, .ref X.2.2.2), (4, .int 11)]) hx hb dX2_commandSpelled_46 hl (k := 6) rfl (by exact nI_1 i) (by decide) rfl (fun ls hl => ?_)
          refine lv_goto (tgt := 11) hx hb dX2_commandSpelled_49 (by decide) ?_
          exact ih_lp (i + 1) _ (by omega) (by omega) hf1 (lv_sub hl [2, 3, 4, 5, 6, 0] rfl)
        · skip
          have hsp : t_spB u_b P u_q i = true := by
            cases q : t_spB u_b P u_q i with
            | true => rfl
            | false => rw [q] at c_40; exact absurd rfl c_40
          have hres : t_cmd u_b P u_q = some i := by rw [← hf, hu, if_pos hsp]
          refine lv_aload hx hb dX2_commandSpelled_43 (lv_at hl 0 rfl) ?_
          exact rR_a C hr (Or.inl ⟨_, rfl⟩) (Or.inr ⟨_, rfl⟩) (by rw [hres]; rfl) dX2_commandSpelled_45
  exact lp 12 0 _ (by omega) (by omega) rfl (lv_sub hl [3, 4, 5, 2, 1, 0] rfl)
set_option maxHeartbeats 4000000 in
set_option maxRecDepth 100000 in
theorem c_X2_skipSpaces {l : Launch} {E : GE} (hE : Env0 E) {S : ST} {u_n u_p : Nat} {u_b u_g : Nat → Int32} {u_f : Int32} {u_c : Option Nat} (hT : TX S u_n u_b u_p u_f u_c u_g) (hN : u_n ≤ 150) (hP : u_p ≤ u_n) : MW l E yX2_skipSpaces cX2_skipSpaces 1 (none : Option Jvm.ClassFile.FieldType) 1 21 S [.ref (gA E 80)] (fun v S1 => v = none ∧ TX S1 u_n u_b (t_run spB u_n u_b u_p) u_f u_c u_g ∧ RT S S1) := by
  refine MW.of hE (by decide) (Nat.le_of_ble_eq_true rfl) ?_
  intro p e s m below meth c ls C hJ hr hl
  have hx := C.x
  have hb := C.b
  have hl : lv_has ls 1 [(0, .ref (gA E 80))] := hl
  have lp : ∀ (d : Nat) (i : Nat) (T : ST) (H : Heap) (locs : List Loc) (ls : Array Slot), (i ≤ u_n) → (u_n < i + d) → (t_run spB u_n u_b i = t_run spB u_n u_b u_p) → (TX T u_n u_b i u_f u_c u_g) → (RT S T) → JJ E T H locs → lv_has ls 1 [(0, .ref (gA E 80))] → W p l e (rmZ 1 21) s m ([.ref (gA E 80)] : List Value).toArray below meth c H locs 0 0 (WQ below ([.ref (gA E 80)] : List Value).toArray s E (fun v S1 => v = none ∧ TX S1 u_n u_b (t_run spB u_n u_b u_p) u_f u_c u_g ∧ RT S S1)) (F0 m 0 ls []) := by
    intro d
    induction d with
    | zero =>
      intro i T H locs ls hi hd hr1 hT hR hJ hl
      omega
    | succ d ih_lp =>
      intro i T H locs ls hi hd hr1 hT hR hJ hl
      refine lv_aload_n hx hb dX2_skipSpaces_0 rfl (lv_at hl 0 rfl) ?_
      refine g_X2_36 C hJ dX2_skipSpaces_1 ?_
      refine lv_aload_n hx hb dX2_skipSpaces_4 rfl (lv_at hl 0 rfl) ?_
      refine g_X2_23 C hJ dX2_skipSpaces_5 ?_
      refine lv_icmp_ge (tgt := 37) hx hb dX2_skipSpaces_8 (by decide) (fun c_8 => ?_) (fun c_8 => ?_)
      · skip
        have hge : u_n ≤ i := by
          rcases Nat.lt_or_ge i u_n with q | q
          · rw [hT.1, hT.2.1] at c_8; exact absurd c_8 (nI_ge q (by omega))
          · exact q
        have hfin : t_run spB u_n u_b u_p = i := by rw [← hr1]; exact t_run_n hge
        exact rW_v C hJ hr (⟨rfl, by rw [hfin]; exact hT, hR⟩) dX2_skipSpaces_37
      · skip
        have hlt : i < u_n := by
          rcases Nat.lt_or_ge i u_n with q | q
          · exact q
          · exact absurd (by rw [hT.1, hT.2.1]; exact nI_le q (by omega)) c_8
        refine lv_aload_n hx hb dX2_skipSpaces_11 rfl (lv_at hl 0 rfl) ?_
        refine lv_aload_n hx hb dX2_skipSpaces_12 rfl (lv_at hl 0 rfl) ?_
        refine g_X2_36 C hJ dX2_skipSpaces_13 ?_
        rw [hT.2.1]
        refine cr_X2_64 C hJ (rest := []) (c_X2_byteAt hE hT hN i (by omega)) dX2_skipSpaces_16 hl.1 ⟨Nat.le_of_ble_eq_true rfl, Nat.le_of_ble_eq_true rfl⟩ ⟨Nat.le_refl _, Nat.le_refl _⟩ (Nat.le_of_ble_eq_true rfl) rfl rfl ?_
        refine lv_bipush (v := 32) hx hb dX2_skipSpaces_19 (by decide) ?_
        refine lv_icmp_ne (tgt := 37) hx hb dX2_skipSpaces_21 (by decide) (fun c_21 => ?_) (fun c_21 => ?_)
        · skip
          have hq : spB (t_at u_n u_b i) = false := decide_eq_false c_21
          have hfin : t_run spB u_n u_b u_p = i := by rw [← hr1]; exact t_run_e hq
          exact rW_v C hJ hr (⟨rfl, by rw [hfin]; exact hT, hR⟩) dX2_skipSpaces_37
        · skip
          have hq : spB (t_at u_n u_b i) = true := decide_eq_true c_21
          refine lv_aload_n hx hb dX2_skipSpaces_24 rfl (lv_at hl 0 rfl) ?_
          refine lv_dup hx hb dX2_skipSpaces_25 rfl ?_
          refine g_X2_36 C hJ dX2_skipSpaces_26 ?_
          refine lv_iconst (v := 1) hx hb dX2_skipSpaces_29 (by decide) ?_
          refine lv_iadd hx hb dX2_skipSpaces_30 ?_
          refine p_X2_36 C hJ dX2_skipSpaces_31 (fun H locs hJ => ?_)
          obtain ⟨S_31, hS_31⟩ : ∃ z : ST, z = setTs T 2 (((sT T).1 2) + 1) := ⟨_, rfl⟩
          rw [← hS_31] at hJ
          have hT1 : TX S_31 u_n u_b (i + 1) u_f u_c u_g := by rw [hS_31]; exact hT.pos (by rw [hT.2.1, nI_1])
          have hR1 : RT S S_31 := by rw [hS_31]; exact hR.t RT.pos
          refine lv_goto (tgt := 0) hx hb dX2_skipSpaces_34 (by decide) ?_
          exact ih_lp (i + 1) S_31 H locs _ (by omega) (by omega) (by rw [← hr1, ← t_run_s hlt hq]) hT1 hR1 hJ (lv_sub hl [0] rfl)
  exact lp (u_n + 1) u_p S s.heap [] _ hP (by omega) rfl hT (RT.r S) hJ (lv_sub hl [0] rfl)
set_option maxHeartbeats 4000000 in
set_option maxRecDepth 100000 in
theorem c_X2_skipLetters {l : Launch} {E : GE} (hE : Env0 E) {S : ST} {u_n u_p : Nat} {u_b u_g : Nat → Int32} {u_f : Int32} {u_c : Option Nat} (hT : TX S u_n u_b u_p u_f u_c u_g) (hN : u_n ≤ 150) (hP : u_p ≤ u_n) : MW l E yX2_skipLetters cX2_skipLetters 1 (none : Option Jvm.ClassFile.FieldType) 1 21 S [.ref (gA E 80)] (fun v S1 => v = none ∧ TX S1 u_n u_b (t_run leB u_n u_b u_p) u_f u_c u_g ∧ RT S S1) := by
  refine MW.of hE (by decide) (Nat.le_of_ble_eq_true rfl) ?_
  intro p e s m below meth c ls C hJ hr hl
  have hx := C.x
  have hb := C.b
  have hl : lv_has ls 1 [(0, .ref (gA E 80))] := hl
  have lp : ∀ (d : Nat) (i : Nat) (T : ST) (H : Heap) (locs : List Loc) (ls : Array Slot), (i ≤ u_n) → (u_n < i + d) → (t_run leB u_n u_b i = t_run leB u_n u_b u_p) → (TX T u_n u_b i u_f u_c u_g) → (RT S T) → JJ E T H locs → lv_has ls 1 [(0, .ref (gA E 80))] → W p l e (rmZ 1 21) s m ([.ref (gA E 80)] : List Value).toArray below meth c H locs 0 0 (WQ below ([.ref (gA E 80)] : List Value).toArray s E (fun v S1 => v = none ∧ TX S1 u_n u_b (t_run leB u_n u_b u_p) u_f u_c u_g ∧ RT S S1)) (F0 m 0 ls []) := by
    intro d
    induction d with
    | zero =>
      intro i T H locs ls hi hd hr1 hT hR hJ hl
      omega
    | succ d ih_lp =>
      intro i T H locs ls hi hd hr1 hT hR hJ hl
      refine lv_aload_n hx hb dX2_skipLetters_0 rfl (lv_at hl 0 rfl) ?_
      refine g_X2_36 C hJ dX2_skipLetters_1 ?_
      refine lv_aload_n hx hb dX2_skipLetters_4 rfl (lv_at hl 0 rfl) ?_
      refine g_X2_23 C hJ dX2_skipLetters_5 ?_
      refine lv_icmp_ge (tgt := 38) hx hb dX2_skipLetters_8 (by decide) (fun c_8 => ?_) (fun c_8 => ?_)
      · skip
        have hge : u_n ≤ i := by
          rcases Nat.lt_or_ge i u_n with q | q
          · rw [hT.1, hT.2.1] at c_8; exact absurd c_8 (nI_ge q (by omega))
          · exact q
        have hfin : t_run leB u_n u_b u_p = i := by rw [← hr1]; exact t_run_n hge
        exact rW_v C hJ hr (⟨rfl, by rw [hfin]; exact hT, hR⟩) dX2_skipLetters_38
      · skip
        have hlt : i < u_n := by
          rcases Nat.lt_or_ge i u_n with q | q
          · exact q
          · exact absurd (by rw [hT.1, hT.2.1]; exact nI_le q (by omega)) c_8
        refine lv_aload_n hx hb dX2_skipLetters_11 rfl (lv_at hl 0 rfl) ?_
        refine lv_aload_n hx hb dX2_skipLetters_12 rfl (lv_at hl 0 rfl) ?_
        refine g_X2_36 C hJ dX2_skipLetters_13 ?_
        rw [hT.2.1]
        refine cr_X2_64 C hJ (rest := []) (c_X2_byteAt hE hT hN i (by omega)) dX2_skipLetters_16 hl.1 ⟨Nat.le_of_ble_eq_true rfl, Nat.le_of_ble_eq_true rfl⟩ ⟨Nat.le_refl _, Nat.le_refl _⟩ (Nat.le_of_ble_eq_true rfl) rfl rfl ?_
        refine cr_X2_76 C hJ (rest := []) (c_X2_isLetter hE (t_at u_n u_b i)) dX2_skipLetters_19 hl.1 ⟨Nat.le_of_ble_eq_true rfl, Nat.le_of_ble_eq_true rfl⟩ ⟨Nat.le_refl _, Nat.le_refl _⟩ (Nat.le_of_ble_eq_true rfl) rfl rfl ?_
        refine lv_if_eq (tgt := 38) hx hb dX2_skipLetters_22 (by decide) (fun c_22 => ?_) (fun c_22 => ?_)
        · skip
          have hq : leB (t_at u_n u_b i) = false := by
            cases q : leB (t_at u_n u_b i) with
            | false => rfl
            | true => rw [q] at c_22; exact absurd c_22 (by decide)
          have hfin : t_run leB u_n u_b u_p = i := by rw [← hr1]; exact t_run_e hq
          exact rW_v C hJ hr (⟨rfl, by rw [hfin]; exact hT, hR⟩) dX2_skipLetters_38
        · skip
          have hq : leB (t_at u_n u_b i) = true := by
            cases q : leB (t_at u_n u_b i) with
            | true => rfl
            | false => rw [q] at c_22; exact absurd rfl c_22
          refine lv_aload_n hx hb dX2_skipLetters_25 rfl (lv_at hl 0 rfl) ?_
          refine lv_dup hx hb dX2_skipLetters_26 rfl ?_
          refine g_X2_36 C hJ dX2_skipLetters_27 ?_
          refine lv_iconst (v := 1) hx hb dX2_skipLetters_30 (by decide) ?_
          refine lv_iadd hx hb dX2_skipLetters_31 ?_
          refine p_X2_36 C hJ dX2_skipLetters_32 (fun H locs hJ => ?_)
          obtain ⟨S_32, hS_32⟩ : ∃ z : ST, z = setTs T 2 (((sT T).1 2) + 1) := ⟨_, rfl⟩
          rw [← hS_32] at hJ
          have hT1 : TX S_32 u_n u_b (i + 1) u_f u_c u_g := by rw [hS_32]; exact hT.pos (by rw [hT.2.1, nI_1])
          have hR1 : RT S S_32 := by rw [hS_32]; exact hR.t RT.pos
          refine lv_goto (tgt := 0) hx hb dX2_skipLetters_35 (by decide) ?_
          exact ih_lp (i + 1) S_32 H locs _ (by omega) (by omega) (by rw [← hr1, ← t_run_s hlt hq]) hT1 hR1 hJ (lv_sub hl [0] rfl)
  exact lp (u_n + 1) u_p S s.heap [] _ hP (by omega) rfl hT (RT.r S) hJ (lv_sub hl [0] rfl)
set_option maxHeartbeats 4000000 in
set_option maxRecDepth 100000 in
theorem c_X2_readDigits {l : Launch} {E : GE} (hE : Env0 E) {S : ST} {u_n u_p : Nat} {u_b u_g : Nat → Int32} {u_f : Int32} {u_c : Option Nat} (hT : TX S u_n u_b u_p u_f u_c u_g) (hN : u_n ≤ 150) (hP : u_p ≤ u_n) : MW l E yX2_readDigits cX2_readDigits 3 (some .int) 1 21 S [.ref (gA E 80)] (fun v S1 => v = some (.int (t_dig u_n u_b 4 0 u_p).1) ∧ TX S1 u_n u_b (t_dig u_n u_b 4 0 u_p).2 u_f u_c u_g ∧ RT S S1) := by
  refine MW.of hE (by decide) (Nat.le_of_ble_eq_true rfl) ?_
  intro p e s m below meth c ls C hJ hr hl
  have hx := C.x
  have hb := C.b
  have hl : lv_has ls 3 [(0, .ref (gA E 80))] := hl
  refine lv_iconst (v := 0) hx hb dX2_readDigits_0 (by decide) ?_
  refine lv_istore_n (lv' := [(1, .int 0), (0, .ref (gA E 80))]) hx hb dX2_readDigits_1 rfl hl (by decide) rfl (fun ls hl => ?_)
  refine lv_iconst (v := 0) hx hb dX2_readDigits_2 (by decide) ?_
  refine lv_istore_n (lv' := [(2, .int 0), (1, .int 0), (0, .ref (gA E 80))]) hx hb dX2_readDigits_3 rfl hl (by decide) rfl (fun ls hl => ?_)
  have lp : ∀ (d : Nat) (i u_q : Nat) (xv : Int32) (T : ST) (H : Heap) (locs : List Loc) (ls : Array Slot), (i ≤ 4) → (4 < i + d) → (u_q ≤ u_n) → (t_dig u_n u_b (4 - i) xv u_q = t_dig u_n u_b 4 0 u_p) → (TX T u_n u_b u_q u_f u_c u_g) → (RT S T) → JJ E T H locs → lv_has ls 3 [(0, .ref (gA E 80)), (1, .int xv), (2, .int (nI i))] → W p l e (rmZ 1 21) s m ([.ref (gA E 80)] : List Value).toArray below meth c H locs 0 0 (WQ below ([.ref (gA E 80)] : List Value).toArray s E (fun v S1 => v = some (.int (t_dig u_n u_b 4 0 u_p).1) ∧ TX S1 u_n u_b (t_dig u_n u_b 4 0 u_p).2 u_f u_c u_g ∧ RT S S1)) (F0 m 4 ls []) := by
    intro d
    induction d with
    | zero =>
      intro i u_q xv T H locs ls hi hd hq1 hr1 hT hR hJ hl
      omega
    | succ d ih_lp =>
      intro i u_q xv T H locs ls hi hd hq1 hr1 hT hR hJ hl
      refine lv_iload_n hx hb dX2_readDigits_4 rfl (lv_at hl 2 rfl) ?_
      refine lv_iconst (v := 4) hx hb dX2_readDigits_5 (by decide) ?_
      refine lv_icmp_ge (tgt := 56) hx hb dX2_readDigits_6 (by decide) (fun c_6 => ?_) (fun c_6 => ?_)
      · skip
        have e9 : i = 4 := eqOfLe (N := 4) hi (by omega) c_6
        have hfin : t_dig u_n u_b 4 0 u_p = (xv, u_q) := by rw [← hr1, e9]; rfl
        refine lv_iload_n hx hb dX2_readDigits_56 rfl (lv_at hl 1 rfl) ?_
        exact rW_i C hJ hr rfl (⟨by rw [hfin], by rw [hfin]; exact hT, hR⟩) dX2_readDigits_57
      · skip
        have hlt : i < 4 := ltOfNle (N := 4) (by omega) c_6
        refine lv_aload_n hx hb dX2_readDigits_9 rfl (lv_at hl 0 rfl) ?_
        refine lv_aload_n hx hb dX2_readDigits_10 rfl (lv_at hl 0 rfl) ?_
        refine g_X2_36 C hJ dX2_readDigits_11 ?_
        rw [hT.2.1]
        refine cr_X2_64 C hJ (rest := []) (c_X2_byteAt hE hT hN u_q (by omega)) dX2_readDigits_14 hl.1 ⟨Nat.le_of_ble_eq_true rfl, Nat.le_of_ble_eq_true rfl⟩ ⟨Nat.le_refl _, Nat.le_refl _⟩ (Nat.le_of_ble_eq_true rfl) rfl rfl ?_
        refine cr_X2_68 C hJ (rest := []) (c_X2_isDigit hE (t_at u_n u_b u_q)) dX2_readDigits_17 hl.1 ⟨Nat.le_of_ble_eq_true rfl, Nat.le_of_ble_eq_true rfl⟩ ⟨Nat.le_refl _, Nat.le_refl _⟩ (Nat.le_of_ble_eq_true rfl) rfl rfl ?_
        refine lv_if_eq (tgt := 56) hx hb dX2_readDigits_20 (by decide) (fun c_20 => ?_) (fun c_20 => ?_)
        · skip
          have hq : dgB (t_at u_n u_b u_q) = false := by
            cases q : dgB (t_at u_n u_b u_q) with
            | false => rfl
            | true => rw [q] at c_20; exact absurd c_20 (by decide)
          have hfin : t_dig u_n u_b 4 0 u_p = (xv, u_q) := by rw [← hr1, t_dig_f hq]
          refine lv_iload_n hx hb dX2_readDigits_56 rfl (lv_at hl 1 rfl) ?_
          exact rW_i C hJ hr rfl (⟨by rw [hfin], by rw [hfin]; exact hT, hR⟩) dX2_readDigits_57
        · skip
          have hq : dgB (t_at u_n u_b u_q) = true := by
            cases q : dgB (t_at u_n u_b u_q) with
            | true => rfl
            | false => rw [q] at c_20; exact absurd rfl c_20
          have hr2 : t_dig u_n u_b (4 - (i + 1)) (10 * xv + t_at u_n u_b u_q - 48) (u_q + 1) = t_dig u_n u_b 4 0 u_p := by rw [← hr1, show 4 - i = (4 - (i + 1)) + 1 by omega, t_dig_t hq]
          refine lv_bipush (v := 10) hx hb dX2_readDigits_23 (by decide) ?_
          refine lv_iload_n hx hb dX2_readDigits_25 rfl (lv_at hl 1 rfl) ?_
          refine lv_imul hx hb dX2_readDigits_26 ?_
          refine lv_aload_n hx hb dX2_readDigits_27 rfl (lv_at hl 0 rfl) ?_
          refine lv_aload_n hx hb dX2_readDigits_28 rfl (lv_at hl 0 rfl) ?_
          refine g_X2_36 C hJ dX2_readDigits_29 ?_
          rw [hT.2.1]
          refine cr_X2_64 C hJ (rest := [.int (10 * xv)]) (c_X2_byteAt hE hT hN u_q (by omega)) dX2_readDigits_32 hl.1 ⟨Nat.le_of_ble_eq_true rfl, Nat.le_of_ble_eq_true rfl⟩ ⟨Nat.le_refl _, Nat.le_refl _⟩ (Nat.le_of_ble_eq_true rfl) rfl rfl ?_
          refine lv_iadd hx hb dX2_readDigits_35 ?_
          refine lv_bipush (v := 48) hx hb dX2_readDigits_36 (by decide) ?_
          refine lv_isub hx hb dX2_readDigits_38 ?_
          refine lv_istore_n (lv' := [(1, .int (((10 * xv) + (t_at u_n u_b u_q)) - 48)), (0, .ref (gA E 80)), (2, .int (nI i))]) hx hb dX2_readDigits_39 rfl hl (by decide) rfl (fun ls hl => ?_)
          refine lv_aload_n hx hb dX2_readDigits_40 rfl (lv_at hl 1 rfl) ?_
          refine lv_dup hx hb dX2_readDigits_41 rfl ?_
          refine g_X2_36 C hJ dX2_readDigits_42 ?_
          refine lv_iconst (v := 1) hx hb dX2_readDigits_45 (by decide) ?_
          refine lv_iadd hx hb dX2_readDigits_46 ?_
          refine p_X2_36 C hJ dX2_readDigits_47 (fun H locs hJ => ?_)
          obtain ⟨S_47, hS_47⟩ : ∃ z : ST, z = setTs T 2 (((sT T).1 2) + 1) := ⟨_, rfl⟩
          rw [← hS_47] at hJ
          have hT1 : TX S_47 u_n u_b (u_q + 1) u_f u_c u_g := by rw [hS_47]; exact hT.pos (by rw [hT.2.1, nI_1])
          have hR1 : RT S S_47 := by rw [hS_47]; exact hR.t RT.pos
          refine lv_iinc (v := nI (i + 1)) (lv' := [(2, .int (nI (i + 1))), (1, .int (((10 * xv) + (t_at u_n u_b u_q)) - 48)), (0, .ref (gA E 80))]) hx hb dX2_readDigits_50 hl (k := 2) rfl (by exact nI_1 i) (by decide) rfl (fun ls hl => ?_)
          refine lv_goto (tgt := 4) hx hb dX2_readDigits_53 (by decide) ?_
          exact ih_lp (i + 1) (u_q + 1) _ S_47 H locs _ (by omega) (by omega) (dg_in hq) hr2 hT1 hR1 hJ (lv_sub hl [2, 1, 0] rfl)
  exact lp 5 0 u_p 0 S s.heap [] _ (by omega) (by omega) hP rfl hT (RT.r S) hJ (lv_sub hl [2, 1, 0] rfl)
set_option maxHeartbeats 4000000 in
set_option maxRecDepth 100000 in
theorem c_X2_readSemicolon {l : Launch} {E : GE} (hE : Env0 E) {S : ST} {u_n u_p : Nat} {u_b u_g : Nat → Int32} {u_c : Option Nat} (hT : TX S u_n u_b u_p (-1) u_c u_g) (hN : u_n ≤ 150) (hP : u_p ≤ u_n) : MW l E yX2_readSemicolon cX2_readSemicolon 1 (none : Option Jvm.ClassFile.FieldType) 2 41 S [.ref (gA E 80)] (fun v S1 => v = none ∧ (if t_at u_n u_b (t_run spB u_n u_b u_p) = 59 then TX S1 u_n u_b (t_run spB u_n u_b u_p + 1) (-1) u_c u_g else TX S1 u_n u_b (t_run spB u_n u_b u_p) (nI (t_run spB u_n u_b u_p)) u_c u_g) ∧ RT S S1) := by
  have hle := t_run_le (u_q := spB) (u_b := u_b) hP
  refine MW.of hE (by decide) (Nat.le_of_ble_eq_true rfl) ?_
  intro p e s m below meth c ls C hJ hr hl
  have hx := C.x
  have hb := C.b
  have hl : lv_has ls 1 [(0, .ref (gA E 80))] := hl
  refine lv_aload_n hx hb dX2_readSemicolon_0 rfl (lv_at hl 0 rfl) ?_
  refine cw_X2_43 C hJ (rest := []) (c_X2_skipSpaces hE hT hN hP) dX2_readSemicolon_1 hl.1 ⟨Nat.le_of_ble_eq_true rfl, Nat.le_of_ble_eq_true rfl⟩ ⟨Nat.le_refl _, Nat.le_refl _⟩ (Nat.le_of_ble_eq_true rfl) rfl rfl (fun vr S_1 H locs hP hJ => ?_)
  obtain ⟨rfl, hT1, hR1⟩ := hP
  refine lv_aload_n hx hb dX2_readSemicolon_4 rfl (lv_at hl 0 rfl) ?_
  refine lv_aload_n hx hb dX2_readSemicolon_5 rfl (lv_at hl 0 rfl) ?_
  refine g_X2_36 C hJ dX2_readSemicolon_6 ?_
  rw [hT1.2.1]
  refine cr_X2_64 C hJ (rest := []) (c_X2_byteAt hE hT1 hN (t_run spB u_n u_b u_p) hle.2) dX2_readSemicolon_9 hl.1 ⟨Nat.le_of_ble_eq_true rfl, Nat.le_of_ble_eq_true rfl⟩ ⟨Nat.le_refl _, Nat.le_refl _⟩ (Nat.le_of_ble_eq_true rfl) rfl rfl ?_
  refine lv_bipush (v := 59) hx hb dX2_readSemicolon_12 (by decide) ?_
  refine lv_icmp_ne (tgt := 30) hx hb dX2_readSemicolon_14 (by decide) (fun c_14 => ?_) (fun c_14 => ?_)
  · skip
    refine lv_aload_n hx hb dX2_readSemicolon_30 rfl (lv_at hl 0 rfl) ?_
    refine lv_aload_n hx hb dX2_readSemicolon_31 rfl (lv_at hl 0 rfl) ?_
    refine g_X2_36 C hJ dX2_readSemicolon_32 ?_
    refine p_X2_15 C hJ dX2_readSemicolon_35 (fun H locs hJ => ?_)
    obtain ⟨S_35, hS_35⟩ : ∃ z : ST, z = setTs S_1 3 ((sT S_1).1 2) := ⟨_, rfl⟩
    rw [← hS_35] at hJ
    exact rW_v C hJ hr (⟨rfl, by rw [if_neg c_14, hS_35]; exact hT1.flt hT1.2.1, by rw [hS_35]; exact hR1.t RT.pos⟩) dX2_readSemicolon_38
  · skip
    refine lv_aload_n hx hb dX2_readSemicolon_17 rfl (lv_at hl 0 rfl) ?_
    refine lv_dup hx hb dX2_readSemicolon_18 rfl ?_
    refine g_X2_36 C hJ dX2_readSemicolon_19 ?_
    refine lv_iconst (v := 1) hx hb dX2_readSemicolon_22 (by decide) ?_
    refine lv_iadd hx hb dX2_readSemicolon_23 ?_
    refine p_X2_36 C hJ dX2_readSemicolon_24 (fun H locs hJ => ?_)
    obtain ⟨S_24, hS_24⟩ : ∃ z : ST, z = setTs S_1 2 (((sT S_1).1 2) + 1) := ⟨_, rfl⟩
    rw [← hS_24] at hJ
    refine lv_goto (tgt := 38) hx hb dX2_readSemicolon_27 (by decide) ?_
    exact rW_v C hJ hr (⟨rfl, by rw [if_pos c_14, hS_24]; exact hT1.pos (by rw [hT1.2.1, nI_1]), by rw [hS_24]; exact hR1.t RT.pos⟩) dX2_readSemicolon_38
set_option maxHeartbeats 4000000 in
set_option maxRecDepth 100000 in
theorem c_X2_readNumber {l : Launch} {E : GE} (hE : Env0 E) {S : ST} {u_n u_p : Nat} {u_b u_g : Nat → Int32} {u_c : Option Nat} (hT : TX S u_n u_b u_p (-1) u_c u_g) (hN : u_n ≤ 150) (hP : u_p ≤ u_n) (u_k : Nat) (hk : u_k < 3) : MW l E yX2_readNumber cX2_readNumber 4 (none : Option Jvm.ClassFile.FieldType) 2 43 S [.ref (gA E 80), .int (nI u_k)] (fun v S1 => v = none ∧ (if (t_num u_n u_b u_p).1 = true then TX S1 u_n u_b (t_num u_n u_b u_p).2.2 (-1) u_c (upd u_g u_k (t_num u_n u_b u_p).2.1) else TX S1 u_n u_b (t_num u_n u_b u_p).2.2 (nI (t_num u_n u_b u_p).2.2) u_c u_g) ∧ RT S S1) := by
  have hle := t_run_le (u_q := spB) (u_b := u_b) hP
  have hQ1 := hle.2
  refine MW.of hE (by decide) (Nat.le_of_ble_eq_true rfl) ?_
  intro p e s m below meth c ls C hJ hr hl
  have hx := C.x
  have hb := C.b
  have hl : lv_has ls 4 [(0, .ref (gA E 80)), (1, .int (nI u_k))] := hl
  refine lv_aload_n hx hb dX2_readNumber_0 rfl (lv_at hl 0 rfl) ?_
  refine g_X2_36 C hJ dX2_readNumber_1 ?_
  refine lv_istore_n (lv' := [(2, .int ((sT S).1 2)), (0, .ref (gA E 80)), (1, .int (nI u_k))]) hx hb dX2_readNumber_4 rfl hl (by decide) rfl (fun ls hl => ?_)
  refine lv_aload_n hx hb dX2_readNumber_5 rfl (lv_at hl 1 rfl) ?_
  refine cw_X2_43 C hJ (rest := []) (c_X2_skipSpaces hE hT hN hP) dX2_readNumber_6 hl.1 ⟨Nat.le_of_ble_eq_true rfl, Nat.le_of_ble_eq_true rfl⟩ ⟨Nat.le_refl _, Nat.le_refl _⟩ (Nat.le_of_ble_eq_true rfl) rfl rfl (fun vr S_6 H locs hP hJ => ?_)
  obtain ⟨rfl, hT1, hR1⟩ := hP
  refine lv_aload_n hx hb dX2_readNumber_9 rfl (lv_at hl 1 rfl) ?_
  refine g_X2_36 C hJ dX2_readNumber_10 ?_
  refine lv_iload_n hx hb dX2_readNumber_13 rfl (lv_at hl 0 rfl) ?_
  refine lv_icmp_eq (tgt := 31) hx hb dX2_readNumber_14 (by decide) (fun c_14 => ?_) (fun c_14 => ?_)
  · skip
    have hN0 : t_num u_n u_b u_p = (false, 0, t_run spB u_n u_b u_p) := if_pos (Or.inl ((nI_eq (by omega) (by omega)).mp (by rw [← hT1.2.1, ← hT.2.1]; exact c_14)))
    refine lv_aload_n hx hb dX2_readNumber_31 rfl (lv_at hl 1 rfl) ?_
    refine lv_aload_n hx hb dX2_readNumber_32 rfl (lv_at hl 1 rfl) ?_
    refine g_X2_36 C hJ dX2_readNumber_33 ?_
    refine p_X2_15 C hJ dX2_readNumber_36 (fun H locs hJ => ?_)
    obtain ⟨S_36, hS_36⟩ : ∃ z : ST, z = setTs S_6 3 ((sT S_6).1 2) := ⟨_, rfl⟩
    rw [← hS_36] at hJ
    exact rW_v C hJ hr (⟨rfl, by rw [hN0, hS_36]; exact hT1.flt hT1.2.1, by rw [hS_36]; exact hR1.t RT.pos⟩) dX2_readNumber_39
  · skip
    refine lv_aload_n hx hb dX2_readNumber_17 rfl (lv_at hl 1 rfl) ?_
    refine lv_aload_n hx hb dX2_readNumber_18 rfl (lv_at hl 1 rfl) ?_
    refine g_X2_36 C hJ dX2_readNumber_19 ?_
    rw [hT1.2.1]
    refine cr_X2_64 C hJ (rest := []) (c_X2_byteAt hE hT1 hN (t_run spB u_n u_b u_p) hle.2) dX2_readNumber_22 hl.1 ⟨Nat.le_of_ble_eq_true rfl, Nat.le_of_ble_eq_true rfl⟩ ⟨Nat.le_refl _, Nat.le_refl _⟩ (Nat.le_of_ble_eq_true rfl) rfl rfl ?_
    refine cr_X2_68 C hJ (rest := []) (c_X2_isDigit hE (t_at u_n u_b (t_run spB u_n u_b u_p))) dX2_readNumber_25 hl.1 ⟨Nat.le_of_ble_eq_true rfl, Nat.le_of_ble_eq_true rfl⟩ ⟨Nat.le_refl _, Nat.le_refl _⟩ (Nat.le_of_ble_eq_true rfl) rfl rfl ?_
    refine lv_if_ne (tgt := 40) hx hb dX2_readNumber_28 (by decide) (fun c_28 => ?_) (fun c_28 => ?_)
    · skip
      have hq : dgB (t_at u_n u_b (t_run spB u_n u_b u_p)) = true := by
        cases q : dgB (t_at u_n u_b (t_run spB u_n u_b u_p)) with
        | true => rfl
        | false => rw [q] at c_28; exact absurd rfl c_28
      have hN1 : t_num u_n u_b u_p = (true, t_dig u_n u_b 4 0 (t_run spB u_n u_b u_p)) := if_neg (fun q => q.elim (fun q => c_14 (by rw [hT1.2.1, hT.2.1, q])) (fun q => by rw [hq] at q; exact absurd q (by decide)))
      refine lv_aload_n hx hb dX2_readNumber_40 rfl (lv_at hl 1 rfl) ?_
      refine cw_X2_72 C hJ (rest := []) (c_X2_readDigits hE hT1 hN hQ1) dX2_readNumber_41 hl.1 ⟨Nat.le_of_ble_eq_true rfl, Nat.le_of_ble_eq_true rfl⟩ ⟨Nat.le_refl _, Nat.le_refl _⟩ (Nat.le_of_ble_eq_true rfl) rfl rfl (fun vr S_41 H locs hP hJ => ?_)
      obtain ⟨rfl, hT2, hR2⟩ := hP
      refine lv_istore_n (lv' := [(3, .int ((t_dig u_n u_b 4 0 (t_run spB u_n u_b u_p)).1)), (2, .int ((sT S).1 2)), (0, .ref (gA E 80)), (1, .int (nI u_k))]) hx hb dX2_readNumber_44 rfl hl (by decide) rfl (fun ls hl => ?_)
      refine lv_iload_n hx hb dX2_readNumber_45 rfl (lv_at hl 3 rfl) ?_
      refine lv_if_lt (tgt := 65) hx hb dX2_readNumber_46 (by decide) (fun c_46 => ?_) (fun c_46 => ?_)
      · skip
        exact absurd c_46 (nI_pos (by omega))
      · skip
        refine lv_iload_n hx hb dX2_readNumber_49 rfl (lv_at hl 3 rfl) ?_
        refine lv_aload_n hx hb dX2_readNumber_50 rfl (lv_at hl 2 rfl) ?_
        refine g_X2_19 C hJ dX2_readNumber_51 ?_
        refine al_nu C hJ dX2_readNumber_54 ?_
        refine lv_icmp_ge (tgt := 65) hx hb dX2_readNumber_55 (by decide) (fun c_55 => ?_) (fun c_55 => ?_)
        · skip
          exact absurd (nI_lt (b := 3) hk (by decide)) (Int32.not_lt.mpr c_55)
        · skip
          refine lv_aload_n hx hb dX2_readNumber_58 rfl (lv_at hl 2 rfl) ?_
          refine g_X2_19 C hJ dX2_readNumber_59 ?_
          refine lv_iload_n hx hb dX2_readNumber_62 rfl (lv_at hl 3 rfl) ?_
          refine lv_iload_n hx hb dX2_readNumber_63 rfl (lv_at hl 0 rfl) ?_
          refine t_nu C hJ (P := u_k) (rfl) (hk) dX2_readNumber_64 (fun H locs hJ => ?_)
          obtain ⟨S_64, hS_64⟩ : ∃ z : ST, z = setTn S_41 u_k ((t_dig u_n u_b 4 0 (t_run spB u_n u_b u_p)).1) := ⟨_, rfl⟩
          rw [← hS_64] at hJ
          exact rW_v C hJ hr (⟨rfl, by rw [hN1, hS_64]; exact hT2.num u_k _, by rw [hS_64]; exact (hR1.t hR2).t RT.num⟩) dX2_readNumber_65
    · skip
      have hq : dgB (t_at u_n u_b (t_run spB u_n u_b u_p)) = false := by
        cases q : dgB (t_at u_n u_b (t_run spB u_n u_b u_p)) with
        | false => rfl
        | true => rw [q] at c_28; exact absurd c_28 (by decide)
      have hN0 : t_num u_n u_b u_p = (false, 0, t_run spB u_n u_b u_p) := if_pos (Or.inr hq)
      refine lv_aload_n hx hb dX2_readNumber_31 rfl (lv_at hl 1 rfl) ?_
      refine lv_aload_n hx hb dX2_readNumber_32 rfl (lv_at hl 1 rfl) ?_
      refine g_X2_36 C hJ dX2_readNumber_33 ?_
      refine p_X2_15 C hJ dX2_readNumber_36 (fun H locs hJ => ?_)
      obtain ⟨S_36, hS_36⟩ : ∃ z : ST, z = setTs S_6 3 ((sT S_6).1 2) := ⟨_, rfl⟩
      rw [← hS_36] at hJ
      exact rW_v C hJ hr (⟨rfl, by rw [hN0, hS_36]; exact hT1.flt hT1.2.1, by rw [hS_36]; exact hR1.t RT.pos⟩) dX2_readNumber_39
set_option maxHeartbeats 4000000 in
set_option maxRecDepth 100000 in
theorem c_X2_startReading {l : Launch} {E : GE} (hE : Env0 E) {S : ST} {u_n u_p : Nat} {u_b u_g : Nat → Int32} {u_f : Int32} {u_c : Option Nat} (hT : TX S u_n u_b u_p u_f u_c u_g) (hN : u_n ≤ 150) : MW l E yX2_startReading cX2_startReading 1 (none : Option Jvm.ClassFile.FieldType) 0 0 S [.ref (gA E 80)] (fun v S1 => v = none ∧ TX S1 u_n u_b 0 (-1) none u_g ∧ RT S S1) := by
  refine MW.of hE (by decide) (Nat.le_of_ble_eq_true rfl) ?_
  intro p e s m below meth c ls C hJ hr hl
  have hx := C.x
  have hb := C.b
  have hl : lv_has ls 1 [(0, .ref (gA E 80))] := hl
  refine lv_aload_n hx hb dX2_startReading_0 rfl (lv_at hl 0 rfl) ?_
  refine lv_iconst (v := 0) hx hb dX2_startReading_1 (by decide) ?_
  refine p_X2_36 C hJ dX2_startReading_2 (fun H locs hJ => ?_)
  obtain ⟨S_2, hS_2⟩ : ∃ z : ST, z = setTs S 2 0 := ⟨_, rfl⟩
  rw [← hS_2] at hJ
  refine lv_aload_n hx hb dX2_startReading_5 rfl (lv_at hl 0 rfl) ?_
  refine lv_iconst (v := (-1)) hx hb dX2_startReading_6 (by decide) ?_
  refine p_X2_15 C hJ dX2_startReading_7 (fun H locs hJ => ?_)
  obtain ⟨S_7, hS_7⟩ : ∃ z : ST, z = setTs S_2 3 (-1) := ⟨_, rfl⟩
  rw [← hS_7] at hJ
  refine lv_aload_n hx hb dX2_startReading_10 rfl (lv_at hl 0 rfl) ?_
  refine lv_null hx hb dX2_startReading_11 ?_
  refine p_X2_39 C hJ (o := none) dX2_startReading_12 (fun H locs hJ => ?_)
  obtain ⟨S_12, hS_12⟩ : ∃ z : ST, z = setTc S_7 none := ⟨_, rfl⟩
  rw [← hS_12] at hJ
  exact rW_v C hJ hr (⟨rfl, by rw [hS_12, hS_7, hS_2]; exact ((hT.pos (x := 0) rfl).flt rfl).cmd none, by rw [hS_12, hS_7, hS_2]; exact (RT.pos.t RT.pos).t RT.cmd⟩) dX2_startReading_15
set_option maxHeartbeats 4000000 in
set_option maxRecDepth 100000 in
theorem c_X2_hasCommand {l : Launch} {E : GE} (hE : Env0 E) {S : ST} {u_n u_p : Nat} {u_b u_g : Nat → Int32} {u_f : Int32} {u_c : Option Nat} (hT : TX S u_n u_b u_p u_f u_c u_g) (hN : u_n ≤ 150) (hP : u_p ≤ u_n) : MW l E yX2_hasCommand cX2_hasCommand 1 (some .boolean) 2 41 S [.ref (gA E 80)] (fun v S1 => v = some (.int (if u_f = -1 ∧ t_run spB u_n u_b u_p < u_n then 1 else 0)) ∧ TX S1 u_n u_b (if u_f = -1 then t_run spB u_n u_b u_p else u_p) u_f u_c u_g ∧ RT S S1) := by
  have hle := t_run_le (u_q := spB) (u_b := u_b) hP
  refine MW.of hE (by decide) (Nat.le_of_ble_eq_true rfl) ?_
  intro p e s m below meth c ls C hJ hr hl
  have hx := C.x
  have hb := C.b
  have hl : lv_has ls 1 [(0, .ref (gA E 80))] := hl
  refine lv_aload_n hx hb dX2_hasCommand_0 rfl (lv_at hl 0 rfl) ?_
  refine g_X2_15 C hJ dX2_hasCommand_1 ?_
  refine lv_iconst (v := (-1)) hx hb dX2_hasCommand_4 (by decide) ?_
  refine lv_icmp_eq (tgt := 10) hx hb dX2_hasCommand_5 (by decide) (fun c_5 => ?_) (fun c_5 => ?_)
  · skip
    have hf1 : u_f = -1 := by rw [← hT.2.2.1]; exact c_5
    refine lv_aload_n hx hb dX2_hasCommand_10 rfl (lv_at hl 0 rfl) ?_
    refine cw_X2_43 C hJ (rest := []) (c_X2_skipSpaces hE hT hN hP) dX2_hasCommand_11 hl.1 ⟨Nat.le_of_ble_eq_true rfl, Nat.le_of_ble_eq_true rfl⟩ ⟨Nat.le_refl _, Nat.le_refl _⟩ (Nat.le_of_ble_eq_true rfl) rfl rfl (fun vr S_11 H locs hP hJ => ?_)
    obtain ⟨rfl, hT1, hR1⟩ := hP
    refine lv_aload_n hx hb dX2_hasCommand_14 rfl (lv_at hl 0 rfl) ?_
    refine g_X2_36 C hJ dX2_hasCommand_15 ?_
    refine lv_aload_n hx hb dX2_hasCommand_18 rfl (lv_at hl 0 rfl) ?_
    refine g_X2_23 C hJ dX2_hasCommand_19 ?_
    refine lv_icmp_ge (tgt := 29) hx hb dX2_hasCommand_22 (by decide) (fun c_22 => ?_) (fun c_22 => ?_)
    · skip
      refine lv_iconst (v := 0) hx hb dX2_hasCommand_29 (by decide) ?_
      exact rW_i C hJ hr rfl (⟨by rw [if_neg (fun q1 => by have q := c_22; rw [hT1.1, hT1.2.1] at q; exact nI_ge q1.2 (by omega) q)], by rw [if_pos hf1]; exact hT1, hR1⟩) dX2_hasCommand_30
    · skip
      refine lv_iconst (v := 1) hx hb dX2_hasCommand_25 (by decide) ?_
      refine lv_goto (tgt := 30) hx hb dX2_hasCommand_26 (by decide) ?_
      exact rW_i C hJ hr rfl (⟨by rw [if_pos ⟨hf1, by have q := c_22; rw [hT1.1, hT1.2.1] at q; rcases Nat.lt_or_ge (t_run spB u_n u_b u_p) u_n with q1 | q1; exact q1; exact absurd (nI_le q1 (by omega)) q⟩], by rw [if_pos hf1]; exact hT1, hR1⟩) dX2_hasCommand_30
  · skip
    have hf0 : u_f ≠ -1 := fun q => c_5 (by rw [hT.2.2.1]; exact q)
    refine lv_iconst (v := 0) hx hb dX2_hasCommand_8 (by decide) ?_
    exact rW_i C hJ hr rfl (⟨by rw [if_neg (fun q => hf0 q.1)], by rw [if_neg hf0]; exact hT, RT.r S⟩) dX2_hasCommand_9
set_option maxHeartbeats 4000000 in
set_option maxRecDepth 100000 in
theorem c_X2_readCommand {l : Launch} {E : GE} (hE : Env0 E) {S : ST} {X : EX} (hX : Env1 E X) {u_n u_p : Nat} {u_b u_g : Nat → Int32} {u_c : Option Nat} (hT : TX S u_n u_b u_p (-1) u_c u_g) (hN : u_n ≤ 150) (hP : u_p ≤ u_n) : MW l E yX2_readCommand cX2_readCommand 4 (none : Option Jvm.ClassFile.FieldType) 6 135 S [.ref (gA E 80)] (fun v S1 => v = none ∧ RcP S1 u_n u_b (t_rc u_n u_b u_p u_g) ∧ RT S S1) := by
  have hle := t_run_le (u_q := leB) (u_b := u_b) hP
  refine MW.of hE (by decide) (Nat.le_of_ble_eq_true rfl) ?_
  intro p e s m below meth c ls C hJ hr hl
  have hx := C.x
  have hb := C.b
  have hl : lv_has ls 4 [(0, .ref (gA E 80))] := hl
  refine lv_aload_n hx hb dX2_readCommand_0 rfl (lv_at hl 0 rfl) ?_
  refine g_X2_36 C hJ dX2_readCommand_1 ?_
  refine lv_istore_n (lv' := [(1, .int ((sT S).1 2)), (0, .ref (gA E 80))]) hx hb dX2_readCommand_4 rfl hl (by decide) rfl (fun ls hl => ?_)
  refine lv_aload_n hx hb dX2_readCommand_5 rfl (lv_at hl 1 rfl) ?_
  refine cw_X2_46 C hJ (rest := []) (c_X2_skipLetters hE hT hN hP) dX2_readCommand_6 hl.1 ⟨Nat.le_of_ble_eq_true rfl, Nat.le_of_ble_eq_true rfl⟩ ⟨Nat.le_refl _, Nat.le_refl _⟩ (Nat.le_of_ble_eq_true rfl) rfl rfl (fun vr S_6 H locs hP hJ => ?_)
  obtain ⟨rfl, hT1, hR1⟩ := hP
  refine lv_aload_n hx hb dX2_readCommand_9 rfl (lv_at hl 1 rfl) ?_
  refine lv_iload_n hx hb dX2_readCommand_10 rfl (lv_at hl 0 rfl) ?_
  refine lv_aload_n hx hb dX2_readCommand_11 rfl (lv_at hl 1 rfl) ?_
  refine g_X2_36 C hJ dX2_readCommand_12 ?_
  rw [hT.2.1, hT1.2.1]
  refine cr_X2_49 C hJ (rest := []) (c_X2_commandSpelled hE hX hT1 hN u_p (t_run leB u_n u_b u_p) hle.1 hle.2) dX2_readCommand_15 hl.1 ⟨Nat.le_of_ble_eq_true rfl, Nat.le_of_ble_eq_true rfl⟩ ⟨Nat.le_refl _, Nat.le_refl _⟩ (Nat.le_of_ble_eq_true rfl) rfl rfl ?_
  rcases hc : t_cmd u_b u_p (t_run leB u_n u_b u_p) with _ | u_j
  · skip
    refine lv_astore_nN (lv' := [(2, .null), (1, .int ((sT S).1 2)), (0, .ref (gA E 80))]) hx hb dX2_readCommand_18 rfl hl (by decide) rfl (fun ls hl => ?_)
    refine lv_aload_n hx hb dX2_readCommand_19 rfl (lv_at hl 2 rfl) ?_
    refine lv_aload_nN hx hb dX2_readCommand_20 rfl (lv_at hl 0 rfl) ?_
    refine p_X2_39 C hJ (o := none) dX2_readCommand_21 (fun H locs hJ => ?_)
    obtain ⟨S_21, hS_21⟩ : ∃ z : ST, z = setTc S_6 none := ⟨_, rfl⟩
    rw [← hS_21] at hJ
    have hR21 : RT S S_21 := by rw [hS_21]; exact hR1.t RT.cmd
    refine lv_aload_nN hx hb dX2_readCommand_24 rfl (lv_at hl 0 rfl) ?_
    refine lv_ifnonnullN hx hb dX2_readCommand_25 ?_
    refine lv_aload_n hx hb dX2_readCommand_28 rfl (lv_at hl 2 rfl) ?_
    refine lv_iload_n hx hb dX2_readCommand_29 rfl (lv_at hl 1 rfl) ?_
    refine p_X2_15 C hJ dX2_readCommand_30 (fun H locs hJ => ?_)
    obtain ⟨S_30, hS_30⟩ : ∃ z : ST, z = setTs S_21 3 ((sT S).1 2) := ⟨_, rfl⟩
    rw [← hS_30] at hJ
    have hT30 : TX S_30 u_n u_b (t_run leB u_n u_b u_p) (nI u_p) none u_g := by rw [hS_30]; exact TX.flt (by rw [hS_21]; exact hT1.cmd none) hT.2.1
    have hR30 : RT S S_30 := by rw [hS_30]; exact hR21.t RT.pos
    exact rW_v C hJ hr (⟨rfl, by rw [t_rc_0 hc]; exact Or.inr ⟨rfl, _, _, hle.2, hT30⟩, hR30⟩) dX2_readCommand_33
  · skip
    have hj := t_cmd_lt hc
    have hk := cmdK_nI hj
    refine lv_astore_n (lv' := [(2, .ref (gN E u_j)), (1, .int ((sT S).1 2)), (0, .ref (gA E 80))]) hx hb dX2_readCommand_18 rfl hl (by decide) rfl (fun ls hl => ?_)
    refine lv_aload_n hx hb dX2_readCommand_19 rfl (lv_at hl 2 rfl) ?_
    refine lv_aload_n hx hb dX2_readCommand_20 rfl (lv_at hl 0 rfl) ?_
    refine p_X2_39 C hJ (o := some u_j) dX2_readCommand_21 (fun H locs hJ => ?_)
    obtain ⟨S_21, hS_21⟩ : ∃ z : ST, z = setTc S_6 (some u_j) := ⟨_, rfl⟩
    rw [← hS_21] at hJ
    have hR21 : RT S S_21 := by rw [hS_21]; exact hR1.t RT.cmd
    refine lv_aload_n hx hb dX2_readCommand_24 rfl (lv_at hl 0 rfl) ?_
    refine lv_ifnonnull (tgt := 34) hx hb dX2_readCommand_25 (by decide) ?_
    refine lv_iconst (v := 0) hx hb dX2_readCommand_34 (by decide) ?_
    refine lv_istore_n (lv' := [(3, .int 0), (2, .ref (gN E u_j)), (1, .int ((sT S).1 2)), (0, .ref (gA E 80))]) hx hb dX2_readCommand_35 rfl hl (by decide) rfl (fun ls hl => ?_)
    have lp : ∀ (d : Nat) (i u_q : Nat) (u_f1 : Int32) (u_h : Nat → Int32) (T : ST) (H : Heap) (locs : List Loc) (ls : Array Slot), (i ≤ cmdC u_j) → (cmdC u_j < i + d) → (u_q ≤ u_n) → (TX T u_n u_b u_q u_f1 (some u_j) u_h) → (NV u_n u_b (cmdC u_j) (t_run leB u_n u_b u_p) u_g i u_q u_f1 u_h) → (RT S T) → JJ E T H locs → lv_has ls 4 [(0, .ref (gA E 80)), (1, .int ((sT S).1 2)), (2, .ref (gN E u_j)), (3, .int (nI i))] → W p l e (rmZ 6 135) s m ([.ref (gA E 80)] : List Value).toArray below meth c H locs 0 0 (WQ below ([.ref (gA E 80)] : List Value).toArray s E (fun v S1 => v = none ∧ RcP S1 u_n u_b (t_rc u_n u_b u_p u_g) ∧ RT S S1)) (F0 m 36 ls []) := by
      intro d
      induction d with
      | zero =>
        intro i u_q u_f1 u_h T H locs ls hi hd hq3 hT7 hv hR hJ hl
        omega
      | succ d ih_lp =>
        intro i u_q u_f1 u_h T H locs ls hi hd hq3 hT7 hv hR hJ hl
        refine lv_iload_n hx hb dX2_readCommand_36 rfl (lv_at hl 3 rfl) ?_
        refine lv_aload_n hx hb dX2_readCommand_37 rfl (lv_at hl 2 rfl) ?_
        refine i_OFN C hJ ((hX.1.1 u_j hj).2.2 ("ConsentQueue$Command", "numbers", "I", cmdK) (by unfold cmdF; exact List.mem_cons_of_mem _ List.mem_cons_self)) kn_X2_53 rfl dX2_readCommand_38 ?_
        refine lv_icmp_ge (tgt := 63) hx hb dX2_readCommand_41 (by decide) (fun c_41 => ?_) (fun c_41 => ?_)
        · skip
          have e9 : i = cmdC u_j ∨ u_f1 ≠ -1 := Or.inl (eqOfLe hi (by omega) (by rw [← hk.1]; exact c_41))
          refine lv_aload_n hx hb dX2_readCommand_63 rfl (lv_at hl 0 rfl) ?_
          refine g_X2_15 C hJ dX2_readCommand_64 ?_
          refine lv_iconst (v := (-1)) hx hb dX2_readCommand_67 (by decide) ?_
          refine lv_icmp_ne (tgt := 75) hx hb dX2_readCommand_68 (by decide) (fun c_68 => ?_) (fun c_68 => ?_)
          · skip
            have hf1 : u_f1 ≠ -1 := fun q => c_68 (by rw [hT7.2.2.1]; exact q)
            obtain ⟨hf2, htot⟩ := hv.elim (fun q => absurd q.1 hf1) (fun q => q.2)
            subst hf2
            exact rW_v C hJ hr (⟨rfl, by rw [t_rc_1 hc htot]; exact Or.inr ⟨rfl, _, _, hq3, hT7⟩, hR⟩) dX2_readCommand_75
          · skip
            have hf1 : u_f1 = -1 := by rw [← hT7.2.2.1]; exact c_68
            subst hf1
            have e8 : i = cmdC u_j := e9.resolve_right (fun q => q rfl)
            have htot := hv.elim (fun q => q.2) (fun q => absurd rfl q.1)
            rw [e8, Nat.sub_self] at htot
            refine lv_aload_n hx hb dX2_readCommand_71 rfl (lv_at hl 0 rfl) ?_
            refine cw_X2_61 C hJ (rest := []) (c_X2_readSemicolon hE hT7 hN hq3) dX2_readCommand_72 hl.1 ⟨Nat.le_of_ble_eq_true rfl, Nat.le_of_ble_eq_true rfl⟩ ⟨Nat.le_refl _, Nat.le_refl _⟩ (Nat.le_of_ble_eq_true rfl) rfl rfl (fun vr S_72 H locs hP hJ => ?_)
            obtain ⟨rfl, hT5, hR5⟩ := hP
            exact rW_v C hJ hr (⟨rfl, rc_sem hc htot.symm hq3 hT5, hR.t hR5⟩) dX2_readCommand_75
        · skip
          have hlt : i < cmdC u_j := ltOfNle (by omega) (by rw [← hk.1]; exact c_41)
          refine lv_aload_n hx hb dX2_readCommand_44 rfl (lv_at hl 0 rfl) ?_
          refine g_X2_15 C hJ dX2_readCommand_45 ?_
          refine lv_iconst (v := (-1)) hx hb dX2_readCommand_48 (by decide) ?_
          refine lv_icmp_ne (tgt := 63) hx hb dX2_readCommand_49 (by decide) (fun c_49 => ?_) (fun c_49 => ?_)
          · skip
            have e9 : i = cmdC u_j ∨ u_f1 ≠ -1 := Or.inr (fun q => c_49 (by rw [hT7.2.2.1]; exact q))
            refine lv_aload_n hx hb dX2_readCommand_63 rfl (lv_at hl 0 rfl) ?_
            refine g_X2_15 C hJ dX2_readCommand_64 ?_
            refine lv_iconst (v := (-1)) hx hb dX2_readCommand_67 (by decide) ?_
            refine lv_icmp_ne (tgt := 75) hx hb dX2_readCommand_68 (by decide) (fun c_68 => ?_) (fun c_68 => ?_)
            · skip
              have hf1 : u_f1 ≠ -1 := fun q => c_68 (by rw [hT7.2.2.1]; exact q)
              obtain ⟨hf2, htot⟩ := hv.elim (fun q => absurd q.1 hf1) (fun q => q.2)
              subst hf2
              exact rW_v C hJ hr (⟨rfl, by rw [t_rc_1 hc htot]; exact Or.inr ⟨rfl, _, _, hq3, hT7⟩, hR⟩) dX2_readCommand_75
            · skip
              have hf1 : u_f1 = -1 := by rw [← hT7.2.2.1]; exact c_68
              subst hf1
              have e8 : i = cmdC u_j := e9.resolve_right (fun q => q rfl)
              have htot := hv.elim (fun q => q.2) (fun q => absurd rfl q.1)
              rw [e8, Nat.sub_self] at htot
              refine lv_aload_n hx hb dX2_readCommand_71 rfl (lv_at hl 0 rfl) ?_
              refine cw_X2_61 C hJ (rest := []) (c_X2_readSemicolon hE hT7 hN hq3) dX2_readCommand_72 hl.1 ⟨Nat.le_of_ble_eq_true rfl, Nat.le_of_ble_eq_true rfl⟩ ⟨Nat.le_refl _, Nat.le_refl _⟩ (Nat.le_of_ble_eq_true rfl) rfl rfl (fun vr S_72 H locs hP hJ => ?_)
              obtain ⟨rfl, hT5, hR5⟩ := hP
              exact rW_v C hJ hr (⟨rfl, rc_sem hc htot.symm hq3 hT5, hR.t hR5⟩) dX2_readCommand_75
          · skip
            have hf1 : u_f1 = -1 := by rw [← hT7.2.2.1]; exact c_49
            subst hf1
            have htot := hv.elim (fun q => q.2) (fun q => absurd rfl q.1)
            refine lv_aload_n hx hb dX2_readCommand_52 rfl (lv_at hl 0 rfl) ?_
            refine lv_iload_n hx hb dX2_readCommand_53 rfl (lv_at hl 3 rfl) ?_
            refine cw_X2_57 C hJ (rest := []) (c_X2_readNumber hE hT7 hN hq3 i (by omega)) dX2_readCommand_54 hl.1 ⟨Nat.le_of_ble_eq_true rfl, Nat.le_of_ble_eq_true rfl⟩ ⟨Nat.le_refl _, Nat.le_refl _⟩ (Nat.le_of_ble_eq_true rfl) rfl rfl (fun vr S_54 H locs hP hJ => ?_)
            obtain ⟨rfl, hT4, hR4⟩ := hP
            obtain ⟨u_q2, u_f2, u_h2, hq2, hT6, hv2⟩ := nums_s hN hlt hq3 hT4 htot
            have hR6 := hR.t hR4
            refine lv_iinc (v := nI (i + 1)) (lv' := [(3, .int (nI (i + 1))), (0, .ref (gA E 80)), (1, .int ((sT S).1 2)), (2, .ref (gN E u_j))]) hx hb dX2_readCommand_57 hl (k := 3) rfl (by exact nI_1 i) (by decide) rfl (fun ls hl => ?_)
            refine lv_goto (tgt := 36) hx hb dX2_readCommand_60 (by decide) ?_
            exact ih_lp (i + 1) u_q2 u_f2 u_h2 S_54 H locs _ (by omega) (by omega) hq2 hT6 hv2 hR6 hJ (lv_sub hl [1, 2, 3, 0] rfl)
    exact lp (cmdC u_j + 1) 0 (t_run leB u_n u_b u_p) (-1) u_g S_21 H locs _ (Nat.zero_le _) (by omega) hle.2 (by rw [hS_21]; exact hT1.cmd (some u_j)) (Or.inl ⟨rfl, rfl⟩) hR21 hJ (lv_sub hl [3, 2, 1, 0] rfl)
set_option maxHeartbeats 4000000 in
set_option maxRecDepth 100000 in
theorem c_X2_findFault {l : Launch} {E : GE} (hE : Env0 E) {S : ST} {X : EX} (hX : Env1 E X) {u_n u_p : Nat} {u_b u_g : Nat → Int32} {u_f : Int32} {u_c : Option Nat} (hT : TX S u_n u_b u_p u_f u_c u_g) (hN : u_n ≤ 150) : MW l E yX2_findFault cX2_findFault 2 (some .int) 7 158 S [.ref (gA E 80)] (fun v S1 => v = some (.int (t_flt u_n u_b 150 0 u_g)) ∧ (∃ u_q u_f1 u_c1 u_h, u_q ≤ u_n ∧ TX S1 u_n u_b u_q u_f1 u_c1 u_h) ∧ RT S S1) := by
  refine MW.of hE (by decide) (Nat.le_of_ble_eq_true rfl) ?_
  intro p e s m below meth c ls C hJ hr hl
  have hx := C.x
  have hb := C.b
  have hl : lv_has ls 2 [(0, .ref (gA E 80))] := hl
  refine lv_aload_n hx hb dX2_findFault_0 rfl (lv_at hl 0 rfl) ?_
  refine cw_X2_26 C hJ (rest := []) (c_X2_startReading hE hT hN) dX2_findFault_1 hl.1 ⟨Nat.le_of_ble_eq_true rfl, Nat.le_of_ble_eq_true rfl⟩ ⟨Nat.le_refl _, Nat.le_refl _⟩ (Nat.le_of_ble_eq_true rfl) rfl rfl (fun vr S_1 H locs hP hJ => ?_)
  obtain ⟨rfl, hT1, hR1⟩ := hP
  refine lv_iconst (v := 0) hx hb dX2_findFault_4 (by decide) ?_
  refine lv_istore_n (lv' := [(1, .int 0), (0, .ref (gA E 80))]) hx hb dX2_findFault_5 rfl hl (by decide) rfl (fun ls hl => ?_)
  have lp : ∀ (d : Nat) (i u_q : Nat) (u_f1 : Int32) (u_c1 : Option Nat) (u_h : Nat → Int32) (T : ST) (H : Heap) (locs : List Loc) (ls : Array Slot), (i ≤ 150) → (150 < i + d) → (u_q ≤ u_n) → (TX T u_n u_b u_q u_f1 u_c1 u_h) → (FV u_n u_b u_g i u_q u_f1 u_h) → (RT S T) → JJ E T H locs → lv_has ls 2 [(0, .ref (gA E 80)), (1, .int (nI i))] → W p l e (rmZ 7 158) s m ([.ref (gA E 80)] : List Value).toArray below meth c H locs 0 0 (WQ below ([.ref (gA E 80)] : List Value).toArray s E (fun v S1 => v = some (.int (t_flt u_n u_b 150 0 u_g)) ∧ (∃ u_q u_f1 u_c1 u_h, u_q ≤ u_n ∧ TX S1 u_n u_b u_q u_f1 u_c1 u_h) ∧ RT S S1)) (F0 m 6 ls []) := by
    intro d
    induction d with
    | zero =>
      intro i u_q u_f1 u_c1 u_h T H locs ls hi hd hq3 hT7 hv hR hJ hl
      omega
    | succ d ih_lp =>
      intro i u_q u_f1 u_c1 u_h T H locs ls hi hd hq3 hT7 hv hR hJ hl
      refine lv_iload_n hx hb dX2_findFault_6 rfl (lv_at hl 1 rfl) ?_
      refine lv_sipush (v := 150) hx hb dX2_findFault_7 (by decide) ?_
      refine lv_icmp_ge (tgt := 30) hx hb dX2_findFault_10 (by decide) (fun c_10 => ?_) (fun c_10 => ?_)
      · skip
        have e9 : i = 150 := eqOfLe (N := 150) hi (by omega) c_10
        have hfin : (sT T).1 3 = t_flt u_n u_b 150 0 u_g := by rw [hT7.2.2.1]; exact hv.elim (fun q => by rw [q.1, ← q.2, e9]; rfl) (fun q => q.2.symm)
        refine lv_aload_n hx hb dX2_findFault_30 rfl (lv_at hl 0 rfl) ?_
        refine g_X2_15 C hJ dX2_findFault_31 ?_
        exact rW_i C hJ hr rfl (⟨by rw [hfin], ⟨_, _, _, _, hq3, hT7⟩, hR⟩) dX2_findFault_34
      · skip
        have hlt : i < 150 := ltOfNle (N := 150) (by omega) c_10
        refine lv_aload_n hx hb dX2_findFault_13 rfl (lv_at hl 0 rfl) ?_
        refine cw_X2_29 C hJ (rest := []) (c_X2_hasCommand hE hT7 hN hq3) dX2_findFault_14 hl.1 ⟨Nat.le_of_ble_eq_true rfl, Nat.le_of_ble_eq_true rfl⟩ ⟨Nat.le_refl _, Nat.le_refl _⟩ (Nat.le_of_ble_eq_true rfl) rfl rfl (fun vr S_14 H locs hP hJ => ?_)
        obtain ⟨rfl, hT8, hR8⟩ := hP
        refine lv_if_eq (tgt := 30) hx hb dX2_findFault_17 (by decide) (fun c_17 => ?_) (fun c_17 => ?_)
        · skip
          have hno : ¬ (u_f1 = -1 ∧ t_run spB u_n u_b u_q < u_n) := fun q => by rw [if_pos q] at c_17; exact absurd c_17 (by decide)
          have hfin : (sT S_14).1 3 = t_flt u_n u_b 150 0 u_g := by rw [hT8.2.2.1]; exact flt_end hlt hv hno
          refine lv_aload_n hx hb dX2_findFault_30 rfl (lv_at hl 0 rfl) ?_
          refine g_X2_15 C hJ dX2_findFault_31 ?_
          exact rW_i C hJ hr rfl (⟨by rw [hfin], ⟨_, _, _, _, by split; exact (t_run_le (u_q := spB) (u_b := u_b) hq3).2; exact hq3, hT8⟩, hR.t hR8⟩) dX2_findFault_34
        · skip
          have hyes : u_f1 = -1 ∧ t_run spB u_n u_b u_q < u_n := by
            rcases Classical.em (u_f1 = -1 ∧ t_run spB u_n u_b u_q < u_n) with q | q
            · exact q
            · rw [if_neg q] at c_17; exact absurd rfl c_17
          obtain ⟨hf1, hlt2⟩ := hyes
          subst hf1
          rw [if_pos rfl] at hT8
          have hT9 := hT8
          have hq9 := (t_run_le (u_q := spB) (u_b := u_b) hq3).2
          refine lv_aload_n hx hb dX2_findFault_20 rfl (lv_at hl 0 rfl) ?_
          refine cw_X2_33 C hJ (rest := []) (c_X2_readCommand hE hX hT9 hN hq9) dX2_findFault_21 hl.1 ⟨Nat.le_of_ble_eq_true rfl, Nat.le_of_ble_eq_true rfl⟩ ⟨Nat.le_refl _, Nat.le_refl _⟩ (Nat.le_of_ble_eq_true rfl) rfl rfl (fun vr S_21 H locs hP hJ => ?_)
          obtain ⟨rfl, hRc, hR9⟩ := hP
          obtain ⟨u_q2, u_f2, u_c2, u_h2, hq2, hT6, hv2⟩ := flt_s hN hlt hq3 hlt2 hv hRc
          refine lv_iinc (v := nI (i + 1)) (lv' := [(1, .int (nI (i + 1))), (0, .ref (gA E 80))]) hx hb dX2_findFault_24 hl (k := 1) rfl (by exact nI_1 i) (by decide) rfl (fun ls hl => ?_)
          refine lv_goto (tgt := 6) hx hb dX2_findFault_27 (by decide) ?_
          exact ih_lp (i + 1) u_q2 u_f2 u_c2 u_h2 S_21 H locs _ (by omega) (by omega) hq2 hT6 hv2 ((hR.t hR8).t hR9) hJ (lv_sub hl [1, 0] rfl)
  exact lp 151 0 0 (-1) none u_g S_1 H locs _ (Nat.zero_le _) (by omega) (Nat.zero_le _) hT1 (Or.inl ⟨rfl, rfl⟩) hR1 hJ (lv_sub hl [1, 0] rfl)
