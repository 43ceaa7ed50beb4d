/-! LINE, methods that read (by program) -/
set_option maxHeartbeats 4000000 in
set_option maxRecDepth 100000 in
theorem c_X4_memberAt {l : Launch} {E : GE} (hE : Env0 E) {S : ST} {k n : Nat} (hk : k < 6) (h : LnOk (sL S) k n) (p0 : Int32) : MR l E yX4_memberAt cX4_memberAt 3 (some (.object "ConsentQueue$Member")) 0 0 S [.ref (gA E (13 * k)), .int p0] (some (.ref (gA E (13 * k + 2 + ix (sL S) k p0)))) := by
  refine MR.of hE (by decide) (Nat.le_of_ble_eq_true rfl) ?_
  intro p e s m below meth c ls C hJ hr hl
  have hx := C.x
  have hb := C.b
  have hl : lv_has ls 3 [(0, .ref (gA E (13 * k))), (1, .int p0)] := hl
  refine lv_iload_n hx hb dX4_memberAt_0 rfl (lv_at hl 1 rfl) ?_
  refine lv_if_lt (tgt := 21) hx hb dX4_memberAt_1 (by decide) (fun c_1 => ?_) (fun c_1 => ?_)
  · skip
    have hix := ix_neg (L := sL S) (k := k) c_1
    refine lv_aload_n hx hb dX4_memberAt_21 rfl (lv_at hl 0 rfl) ?_
    refine g_X4_18 C hJ hk dX4_memberAt_22 ?_
    exact rR_a C hr (Or.inl ⟨_, rfl⟩) (Or.inr ⟨_, rfl⟩) (by rw [hix]) dX4_memberAt_25
  · skip
    refine lv_iload_n hx hb dX4_memberAt_4 rfl (lv_at hl 1 rfl) ?_
    refine lv_aload_n hx hb dX4_memberAt_5 rfl (lv_at hl 0 rfl) ?_
    refine g_X4_26 C hJ hk dX4_memberAt_6 ?_
    refine lv_icmp_ge (tgt := 21) hx hb dX4_memberAt_9 (by decide) (fun c_9 => ?_) (fun c_9 => ?_)
    · skip
      have hix := ix_far c_9
      refine lv_aload_n hx hb dX4_memberAt_21 rfl (lv_at hl 0 rfl) ?_
      refine g_X4_18 C hJ hk dX4_memberAt_22 ?_
      exact rR_a C hr (Or.inl ⟨_, rfl⟩) (Or.inr ⟨_, rfl⟩) (by rw [hix]) dX4_memberAt_25
    · skip
      obtain ⟨P, hP, e, hix⟩ := ix_of h c_1 c_9
      have hn := h.1
      refine lv_iload_n hx hb dX4_memberAt_12 rfl (lv_at hl 1 rfl) ?_
      refine lv_aload_n hx hb dX4_memberAt_13 rfl (lv_at hl 0 rfl) ?_
      refine g_X4_11 C hJ hk dX4_memberAt_14 ?_
      refine al_ar C hJ hk dX4_memberAt_17 ?_
      refine lv_icmp_lt (tgt := 26) hx hb dX4_memberAt_18 (by decide) (fun c_18 => ?_) (fun c_18 => ?_)
      · skip
        refine lv_aload_n hx hb dX4_memberAt_26 rfl (lv_at hl 0 rfl) ?_
        refine g_X4_11 C hJ hk dX4_memberAt_27 ?_
        refine lv_iload_n hx hb dX4_memberAt_30 rfl (lv_at hl 1 rfl) ?_
        refine a_ar C hJ hk (P := P) (e) (by omega) dX4_memberAt_31 ?_
        refine lv_astore_n (lv' := [(2, .ref (gA E (13 * k + 2 + (pm (sL S) k P)))), (0, .ref (gA E (13 * k))), (1, .int p0)]) hx hb dX4_memberAt_32 rfl hl (by decide) rfl (fun ls hl => ?_)
        refine lv_aload_n hx hb dX4_memberAt_33 rfl (lv_at hl 0 rfl) ?_
        refine lv_ifnonnull (tgt := 44) hx hb dX4_memberAt_34 (by decide) ?_
        refine lv_aload_n hx hb dX4_memberAt_44 rfl (lv_at hl 0 rfl) ?_
        exact rR_a C hr (Or.inl ⟨_, rfl⟩) (Or.inr ⟨_, rfl⟩) (by rw [hix]) dX4_memberAt_45
      · skip
        exact absurd (by rw [e]; exact nI_lt (b := 10) (by omega) (by omega)) c_18
set_option maxHeartbeats 4000000 in
set_option maxRecDepth 100000 in
theorem c_X4_gain {l : Launch} {E : GE} (hE : Env0 E) {S : ST} {k n : Nat} (hk : k < 6) (h : LnOk (sL S) k n) (p0 : Int32) : MR l E yX4_gain cX4_gain 2 (some .int) 1 22 S [.ref (gA E (13 * k)), .int p0] (some (.int (f_gain (gm (sL S) k) p0))) := by
  refine MR.of hE (by decide) (Nat.le_of_ble_eq_true rfl) ?_
  intro p e s m below meth c ls C hJ hr hl
  have hx := C.x
  have hb := C.b
  have hl : lv_has ls 2 [(0, .ref (gA E (13 * k))), (1, .int p0)] := hl
  refine lv_aload_n hx hb dX4_gain_0 rfl (lv_at hl 0 rfl) ?_
  refine lv_iload_n hx hb dX4_gain_1 rfl (lv_at hl 1 rfl) ?_
  refine lv_iconst (v := 1) hx hb dX4_gain_2 (by decide) ?_
  refine lv_iadd hx hb dX4_gain_3 ?_
  refine cr_X4_41 C hJ hk (rest := []) (c_X4_memberAt hE hk h (p0 + 1)) dX4_gain_4 hl.1 ⟨Nat.le_of_ble_eq_true rfl, Nat.le_of_ble_eq_true rfl⟩ ⟨Nat.le_refl _, Nat.le_refl _⟩ (Nat.le_of_ble_eq_true rfl) rfl rfl ?_
  refine g_X4_67 C hJ hk (ix_lt h _) dX4_gain_7 ?_
  refine lv_aload_n hx hb dX4_gain_10 rfl (lv_at hl 0 rfl) ?_
  refine lv_iload_n hx hb dX4_gain_11 rfl (lv_at hl 1 rfl) ?_
  refine cr_X4_41 C hJ hk (rest := [.int (mb (sL S) k (ix (sL S) k (p0 + 1)) 2)]) (c_X4_memberAt hE hk h p0) dX4_gain_12 hl.1 ⟨Nat.le_of_ble_eq_true rfl, Nat.le_of_ble_eq_true rfl⟩ ⟨Nat.le_refl _, Nat.le_refl _⟩ (Nat.le_of_ble_eq_true rfl) rfl rfl ?_
  refine g_X4_107 C hJ hk (ix_lt h _) dX4_gain_15 ?_
  refine lv_imul hx hb dX4_gain_18 ?_
  exact rR_i C hr rfl (rfl) dX4_gain_19
set_option maxHeartbeats 4000000 in
set_option maxRecDepth 100000 in
theorem c_X4_loss {l : Launch} {E : GE} (hE : Env0 E) {S : ST} {k n : Nat} (hk : k < 6) (h : LnOk (sL S) k n) (p0 : Int32) : MR l E yX4_loss cX4_loss 2 (some .int) 1 22 S [.ref (gA E (13 * k)), .int p0] (some (.int (f_loss (gm (sL S) k) p0))) := by
  refine MR.of hE (by decide) (Nat.le_of_ble_eq_true rfl) ?_
  intro p e s m below meth c ls C hJ hr hl
  have hx := C.x
  have hb := C.b
  have hl : lv_has ls 2 [(0, .ref (gA E (13 * k))), (1, .int p0)] := hl
  refine lv_aload_n hx hb dX4_loss_0 rfl (lv_at hl 0 rfl) ?_
  refine lv_iload_n hx hb dX4_loss_1 rfl (lv_at hl 1 rfl) ?_
  refine cr_X4_41 C hJ hk (rest := []) (c_X4_memberAt hE hk h p0) dX4_loss_2 hl.1 ⟨Nat.le_of_ble_eq_true rfl, Nat.le_of_ble_eq_true rfl⟩ ⟨Nat.le_refl _, Nat.le_refl _⟩ (Nat.le_of_ble_eq_true rfl) rfl rfl ?_
  refine g_X4_67 C hJ hk (ix_lt h _) dX4_loss_5 ?_
  refine lv_aload_n hx hb dX4_loss_8 rfl (lv_at hl 0 rfl) ?_
  refine lv_iload_n hx hb dX4_loss_9 rfl (lv_at hl 1 rfl) ?_
  refine lv_iconst (v := 1) hx hb dX4_loss_10 (by decide) ?_
  refine lv_iadd hx hb dX4_loss_11 ?_
  refine cr_X4_41 C hJ hk (rest := [.int (mb (sL S) k (ix (sL S) k p0) 2)]) (c_X4_memberAt hE hk h (p0 + 1)) dX4_loss_12 hl.1 ⟨Nat.le_of_ble_eq_true rfl, Nat.le_of_ble_eq_true rfl⟩ ⟨Nat.le_refl _, Nat.le_refl _⟩ (Nat.le_of_ble_eq_true rfl) rfl rfl ?_
  refine g_X4_107 C hJ hk (ix_lt h _) dX4_loss_15 ?_
  refine lv_imul hx hb dX4_loss_18 ?_
  exact rR_i C hr rfl (rfl) dX4_loss_19
set_option maxHeartbeats 4000000 in
set_option maxRecDepth 100000 in
theorem c_X4_surplus {l : Launch} {E : GE} (hE : Env0 E) {S : ST} {k n : Nat} (hk : k < 6) (h : LnOk (sL S) k n) (p0 : Int32) : MR l E yX4_surplus cX4_surplus 4 (some .int) 1 22 S [.ref (gA E (13 * k)), .int p0] (some (.int (f_sur (gm (sL S) k) p0))) := by
  refine MR.of hE (by decide) (Nat.le_of_ble_eq_true rfl) ?_
  intro p e s m below meth c ls C hJ hr hl
  have hx := C.x
  have hb := C.b
  have hl : lv_has ls 4 [(0, .ref (gA E (13 * k))), (1, .int p0)] := hl
  refine lv_aload_n hx hb dX4_surplus_0 rfl (lv_at hl 0 rfl) ?_
  refine lv_iload_n hx hb dX4_surplus_1 rfl (lv_at hl 1 rfl) ?_
  refine cr_X4_41 C hJ hk (rest := []) (c_X4_memberAt hE hk h p0) dX4_surplus_2 hl.1 ⟨Nat.le_of_ble_eq_true rfl, Nat.le_of_ble_eq_true rfl⟩ ⟨Nat.le_refl _, Nat.le_refl _⟩ (Nat.le_of_ble_eq_true rfl) rfl rfl ?_
  refine lv_astore_n (lv' := [(2, .ref (gA E (13 * k + 2 + (ix (sL S) k p0)))), (0, .ref (gA E (13 * k))), (1, .int p0)]) hx hb dX4_surplus_5 rfl hl (by decide) rfl (fun ls hl => ?_)
  refine lv_aload_n hx hb dX4_surplus_6 rfl (lv_at hl 1 rfl) ?_
  refine lv_iload_n hx hb dX4_surplus_7 rfl (lv_at hl 2 rfl) ?_
  refine lv_iconst (v := 1) hx hb dX4_surplus_8 (by decide) ?_
  refine lv_iadd hx hb dX4_surplus_9 ?_
  refine cr_X4_41 C hJ hk (rest := []) (c_X4_memberAt hE hk h (p0 + 1)) dX4_surplus_10 hl.1 ⟨Nat.le_of_ble_eq_true rfl, Nat.le_of_ble_eq_true rfl⟩ ⟨Nat.le_refl _, Nat.le_refl _⟩ (Nat.le_of_ble_eq_true rfl) rfl rfl ?_
  refine lv_astore_n (lv' := [(3, .ref (gA E (13 * k + 2 + (ix (sL S) k (p0 + 1))))), (2, .ref (gA E (13 * k + 2 + (ix (sL S) k p0)))), (0, .ref (gA E (13 * k))), (1, .int p0)]) hx hb dX4_surplus_13 rfl hl (by decide) rfl (fun ls hl => ?_)
  refine lv_aload_n hx hb dX4_surplus_14 rfl (lv_at hl 0 rfl) ?_
  refine g_X4_67 C hJ hk (ix_lt h _) dX4_surplus_15 ?_
  refine lv_aload_n hx hb dX4_surplus_18 rfl (lv_at hl 1 rfl) ?_
  refine g_X4_107 C hJ hk (ix_lt h _) dX4_surplus_19 ?_
  refine lv_imul hx hb dX4_surplus_22 ?_
  refine lv_aload_n hx hb dX4_surplus_23 rfl (lv_at hl 1 rfl) ?_
  refine g_X4_67 C hJ hk (ix_lt h _) dX4_surplus_24 ?_
  refine lv_aload_n hx hb dX4_surplus_27 rfl (lv_at hl 0 rfl) ?_
  refine g_X4_107 C hJ hk (ix_lt h _) dX4_surplus_28 ?_
  refine lv_imul hx hb dX4_surplus_31 ?_
  refine lv_isub hx hb dX4_surplus_32 ?_
  exact rR_i C hr rfl (rfl) dX4_surplus_33
set_option maxHeartbeats 4000000 in
set_option maxRecDepth 100000 in
theorem c_X4_fairPrice {l : Launch} {E : GE} (hE : Env0 E) {S : ST} {k n : Nat} (hk : k < 6) (h : LnOk (sL S) k n) (p0 : Int32) : MR l E yX4_fairPrice cX4_fairPrice 6 (some .int) 1 22 S [.ref (gA E (13 * k)), .int p0] (some (.int (f_fairc (gm (sL S) k) (sc (sL S) k 3) p0))) := by
  refine MR.of hE (by decide) (Nat.le_of_ble_eq_true rfl) ?_
  intro p e s m below meth c ls C hJ hr hl
  have hx := C.x
  have hb := C.b
  have hl : lv_has ls 6 [(0, .ref (gA E (13 * k))), (1, .int p0)] := hl
  refine lv_aload_n hx hb dX4_fairPrice_0 rfl (lv_at hl 0 rfl) ?_
  refine lv_iload_n hx hb dX4_fairPrice_1 rfl (lv_at hl 1 rfl) ?_
  refine cr_X4_41 C hJ hk (rest := []) (c_X4_memberAt hE hk h p0) dX4_fairPrice_2 hl.1 ⟨Nat.le_of_ble_eq_true rfl, Nat.le_of_ble_eq_true rfl⟩ ⟨Nat.le_refl _, Nat.le_refl _⟩ (Nat.le_of_ble_eq_true rfl) rfl rfl ?_
  refine lv_astore_n (lv' := [(2, .ref (gA E (13 * k + 2 + (ix (sL S) k p0)))), (0, .ref (gA E (13 * k))), (1, .int p0)]) hx hb dX4_fairPrice_5 rfl hl (by decide) rfl (fun ls hl => ?_)
  refine lv_aload_n hx hb dX4_fairPrice_6 rfl (lv_at hl 1 rfl) ?_
  refine lv_iload_n hx hb dX4_fairPrice_7 rfl (lv_at hl 2 rfl) ?_
  refine lv_iconst (v := 1) hx hb dX4_fairPrice_8 (by decide) ?_
  refine lv_iadd hx hb dX4_fairPrice_9 ?_
  refine cr_X4_41 C hJ hk (rest := []) (c_X4_memberAt hE hk h (p0 + 1)) dX4_fairPrice_10 hl.1 ⟨Nat.le_of_ble_eq_true rfl, Nat.le_of_ble_eq_true rfl⟩ ⟨Nat.le_refl _, Nat.le_refl _⟩ (Nat.le_of_ble_eq_true rfl) rfl rfl ?_
  refine lv_astore_n (lv' := [(3, .ref (gA E (13 * k + 2 + (ix (sL S) k (p0 + 1))))), (2, .ref (gA E (13 * k + 2 + (ix (sL S) k p0)))), (0, .ref (gA E (13 * k))), (1, .int p0)]) hx hb dX4_fairPrice_13 rfl hl (by decide) rfl (fun ls hl => ?_)
  refine lv_aload_n hx hb dX4_fairPrice_14 rfl (lv_at hl 1 rfl) ?_
  refine g_X4_67 C hJ hk (ix_lt h _) dX4_fairPrice_15 ?_
  refine lv_aload_n hx hb dX4_fairPrice_18 rfl (lv_at hl 0 rfl) ?_
  refine g_X4_107 C hJ hk (ix_lt h _) dX4_fairPrice_19 ?_
  refine lv_imul hx hb dX4_fairPrice_22 ?_
  refine lv_istore (lv' := [(4, .int ((mb (sL S) k (ix (sL S) k p0) 2) * (mb (sL S) k (ix (sL S) k (p0 + 1)) 3))), (3, .ref (gA E (13 * k + 2 + (ix (sL S) k (p0 + 1))))), (2, .ref (gA E (13 * k + 2 + (ix (sL S) k p0)))), (0, .ref (gA E (13 * k))), (1, .int p0)]) hx hb dX4_fairPrice_23 hl (by decide) rfl (fun ls hl => ?_)
  refine lv_aload_n hx hb dX4_fairPrice_25 rfl (lv_at hl 1 rfl) ?_
  refine g_X4_67 C hJ hk (ix_lt h _) dX4_fairPrice_26 ?_
  refine lv_aload_n hx hb dX4_fairPrice_29 rfl (lv_at hl 2 rfl) ?_
  refine g_X4_107 C hJ hk (ix_lt h _) dX4_fairPrice_30 ?_
  refine lv_imul hx hb dX4_fairPrice_33 ?_
  refine lv_iload hx hb dX4_fairPrice_34 (lv_at hl 0 rfl) ?_
  refine lv_isub hx hb dX4_fairPrice_36 ?_
  refine lv_istore (lv' := [(5, .int (((mb (sL S) k (ix (sL S) k (p0 + 1)) 2) * (mb (sL S) k (ix (sL S) k p0) 3)) - ((mb (sL S) k (ix (sL S) k p0) 2) * (mb (sL S) k (ix (sL S) k (p0 + 1)) 3)))), (4, .int ((mb (sL S) k (ix (sL S) k p0) 2) * (mb (sL S) k (ix (sL S) k (p0 + 1)) 3))), (3, .ref (gA E (13 * k + 2 + (ix (sL S) k (p0 + 1))))), (2, .ref (gA E (13 * k + 2 + (ix (sL S) k p0)))), (0, .ref (gA E (13 * k))), (1, .int p0)]) hx hb dX4_fairPrice_37 hl (by decide) rfl (fun ls hl => ?_)
  refine lv_iload hx hb dX4_fairPrice_39 (lv_at hl 0 rfl) ?_
  refine lv_if_le (tgt := 60) hx hb dX4_fairPrice_41 (by decide) (fun c_41 => ?_) (fun c_41 => ?_)
  · skip
    refine lv_iconst (v := (-1)) hx hb dX4_fairPrice_60 (by decide) ?_
    exact rR_i C hr rfl (by unfold f_fairc; exact (if_neg (Int32.not_lt.mpr c_41)).symm) dX4_fairPrice_61
  · skip
    refine lv_iload hx hb dX4_fairPrice_44 (lv_at hl 1 rfl) ?_
    refine lv_iload hx hb dX4_fairPrice_46 (lv_at hl 0 rfl) ?_
    refine lv_aload_n hx hb dX4_fairPrice_48 rfl (lv_at hl 4 rfl) ?_
    refine g_X4_22 C hJ hk dX4_fairPrice_49 ?_
    refine lv_imul hx hb dX4_fairPrice_52 ?_
    refine lv_bipush (v := 100) hx hb dX4_fairPrice_53 (by decide) ?_
    refine lv_idiv hx hb dX4_fairPrice_55 (by decide) ?_
    refine lv_iadd hx hb dX4_fairPrice_56 ?_
    refine lv_goto (tgt := 61) hx hb dX4_fairPrice_57 (by decide) ?_
    exact rR_i C hr rfl (by unfold f_fairc; exact (if_pos (Int32.not_le.mp c_41)).symm) dX4_fairPrice_61
set_option maxHeartbeats 4000000 in
set_option maxRecDepth 100000 in
theorem c_X4_areFriends {l : Launch} {E : GE} (hE : Env0 E) {S : ST} {k n : Nat} (hk : k < 6) (h : LnOk (sL S) k n) (p0 : Int32) : MR l E yX4_areFriends cX4_areFriends 2 (some .boolean) 1 22 S [.ref (gA E (13 * k)), .int p0] (some (.int (f_fr (gm (sL S) k) p0))) := by
  refine MR.of hE (by decide) (Nat.le_of_ble_eq_true rfl) ?_
  intro p e s m below meth c ls C hJ hr hl
  have hx := C.x
  have hb := C.b
  have hl : lv_has ls 2 [(0, .ref (gA E (13 * k))), (1, .int p0)] := hl
  refine lv_aload_n hx hb dX4_areFriends_0 rfl (lv_at hl 0 rfl) ?_
  refine lv_iload_n hx hb dX4_areFriends_1 rfl (lv_at hl 1 rfl) ?_
  refine lv_iconst (v := 1) hx hb dX4_areFriends_2 (by decide) ?_
  refine lv_iadd hx hb dX4_areFriends_3 ?_
  refine cr_X4_41 C hJ hk (rest := []) (c_X4_memberAt hE hk h (p0 + 1)) dX4_areFriends_4 hl.1 ⟨Nat.le_of_ble_eq_true rfl, Nat.le_of_ble_eq_true rfl⟩ ⟨Nat.le_refl _, Nat.le_refl _⟩ (Nat.le_of_ble_eq_true rfl) rfl rfl ?_
  refine g_X4_76 C hJ hk (ix_lt h _) dX4_areFriends_7 ?_
  exact rR_i C hr (by rcases gm_b h (p0 + 1) with q | q <;> (unfold gm at q; rw [q]; rfl)) (rfl) dX4_areFriends_10
set_option maxHeartbeats 4000000 in
set_option maxRecDepth 100000 in
theorem c_X4_isHeldByFriends {l : Launch} {E : GE} (hE : Env0 E) {S : ST} {k n : Nat} (hk : k < 6) (h : LnOk (sL S) k n) (p0 : Int32) : MR l E yX4_isHeldByFriends cX4_isHeldByFriends 2 (some .boolean) 1 22 S [.ref (gA E (13 * k)), .int p0] (some (.int (f_held (gm (sL S) k) p0))) := by
  refine MR.of hE (by decide) (Nat.le_of_ble_eq_true rfl) ?_
  intro p e s m below meth c ls C hJ hr hl
  have hx := C.x
  have hb := C.b
  have hl : lv_has ls 2 [(0, .ref (gA E (13 * k))), (1, .int p0)] := hl
  refine lv_aload_n hx hb dX4_isHeldByFriends_0 rfl (lv_at hl 0 rfl) ?_
  refine lv_iload_n hx hb dX4_isHeldByFriends_1 rfl (lv_at hl 1 rfl) ?_
  refine cr_X4_41 C hJ hk (rest := []) (c_X4_memberAt hE hk h p0) dX4_isHeldByFriends_2 hl.1 ⟨Nat.le_of_ble_eq_true rfl, Nat.le_of_ble_eq_true rfl⟩ ⟨Nat.le_refl _, Nat.le_refl _⟩ (Nat.le_of_ble_eq_true rfl) rfl rfl ?_
  refine g_X4_76 C hJ hk (ix_lt h _) dX4_isHeldByFriends_5 ?_
  refine lv_if_ne (tgt := 37) hx hb dX4_isHeldByFriends_8 (by decide) (fun c_8 => ?_) (fun c_8 => ?_)
  · skip
    refine lv_iconst (v := 1) hx hb dX4_isHeldByFriends_37 (by decide) ?_
    refine lv_goto (tgt := 42) hx hb dX4_isHeldByFriends_38 (by decide) ?_
    exact rR_i C hr rfl (by unfold f_held; exact (if_neg (fun q => by first | exact c_8 q.1 | exact c_21 q.2.1 | exact c_34 q.2.2)).symm) dX4_isHeldByFriends_42
  · skip
    refine lv_aload_n hx hb dX4_isHeldByFriends_11 rfl (lv_at hl 0 rfl) ?_
    refine lv_iload_n hx hb dX4_isHeldByFriends_12 rfl (lv_at hl 1 rfl) ?_
    refine lv_iconst (v := 1) hx hb dX4_isHeldByFriends_13 (by decide) ?_
    refine lv_iadd hx hb dX4_isHeldByFriends_14 ?_
    refine cr_X4_41 C hJ hk (rest := []) (c_X4_memberAt hE hk h (p0 + 1)) dX4_isHeldByFriends_15 hl.1 ⟨Nat.le_of_ble_eq_true rfl, Nat.le_of_ble_eq_true rfl⟩ ⟨Nat.le_refl _, Nat.le_refl _⟩ (Nat.le_of_ble_eq_true rfl) rfl rfl ?_
    refine g_X4_76 C hJ hk (ix_lt h _) dX4_isHeldByFriends_18 ?_
    refine lv_if_ne (tgt := 37) hx hb dX4_isHeldByFriends_21 (by decide) (fun c_21 => ?_) (fun c_21 => ?_)
    · skip
      refine lv_iconst (v := 1) hx hb dX4_isHeldByFriends_37 (by decide) ?_
      refine lv_goto (tgt := 42) hx hb dX4_isHeldByFriends_38 (by decide) ?_
      exact rR_i C hr rfl (by unfold f_held; exact (if_neg (fun q => by first | exact c_8 q.1 | exact c_21 q.2.1 | exact c_34 q.2.2)).symm) dX4_isHeldByFriends_42
    · skip
      refine lv_aload_n hx hb dX4_isHeldByFriends_24 rfl (lv_at hl 0 rfl) ?_
      refine lv_iload_n hx hb dX4_isHeldByFriends_25 rfl (lv_at hl 1 rfl) ?_
      refine lv_iconst (v := 2) hx hb dX4_isHeldByFriends_26 (by decide) ?_
      refine lv_iadd hx hb dX4_isHeldByFriends_27 ?_
      refine cr_X4_41 C hJ hk (rest := []) (c_X4_memberAt hE hk h (p0 + 2)) dX4_isHeldByFriends_28 hl.1 ⟨Nat.le_of_ble_eq_true rfl, Nat.le_of_ble_eq_true rfl⟩ ⟨Nat.le_refl _, Nat.le_refl _⟩ (Nat.le_of_ble_eq_true rfl) rfl rfl ?_
      refine g_X4_76 C hJ hk (ix_lt h _) dX4_isHeldByFriends_31 ?_
      refine lv_if_eq (tgt := 41) hx hb dX4_isHeldByFriends_34 (by decide) (fun c_34 => ?_) (fun c_34 => ?_)
      · skip
        refine lv_iconst (v := 0) hx hb dX4_isHeldByFriends_41 (by decide) ?_
        exact rR_i C hr rfl (by unfold f_held; exact (if_pos ⟨c_8, c_21, c_34⟩).symm) dX4_isHeldByFriends_42
      · skip
        refine lv_iconst (v := 1) hx hb dX4_isHeldByFriends_37 (by decide) ?_
        refine lv_goto (tgt := 42) hx hb dX4_isHeldByFriends_38 (by decide) ?_
        exact rR_i C hr rfl (by unfold f_held; exact (if_neg (fun q => by first | exact c_8 q.1 | exact c_21 q.2.1 | exact c_34 q.2.2)).symm) dX4_isHeldByFriends_42
set_option maxHeartbeats 4000000 in
set_option maxRecDepth 100000 in
theorem c_X4_hindrance {l : Launch} {E : GE} (hE : Env0 E) {S : ST} {k n : Nat} (hk : k < 6) (h : LnOk (sL S) k n) (p0 : Int32) : MR l E yX4_hindrance cX4_hindrance 2 (some .int) 2 45 S [.ref (gA E (13 * k)), .int p0] (some (.int (f_hind (gm (sL S) k) p0))) := by
  refine MR.of hE (by decide) (Nat.le_of_ble_eq_true rfl) ?_
  intro p e s m below meth c ls C hJ hr hl
  have hx := C.x
  have hb := C.b
  have hl : lv_has ls 2 [(0, .ref (gA E (13 * k))), (1, .int p0)] := hl
  refine lv_aload_n hx hb dX4_hindrance_0 rfl (lv_at hl 0 rfl) ?_
  refine lv_iload_n hx hb dX4_hindrance_1 rfl (lv_at hl 1 rfl) ?_
  refine cr_X4_116 C hJ hk (rest := []) (c_X4_areFriends hE hk h p0) dX4_hindrance_2 hl.1 ⟨Nat.le_of_ble_eq_true rfl, Nat.le_of_ble_eq_true rfl⟩ ⟨Nat.le_refl _, Nat.le_refl _⟩ (Nat.le_of_ble_eq_true rfl) rfl rfl ?_
  refine lv_if_eq (tgt := 10) hx hb dX4_hindrance_5 (by decide) (fun c_5 => ?_) (fun c_5 => ?_)
  · skip
    refine lv_aload_n hx hb dX4_hindrance_10 rfl (lv_at hl 0 rfl) ?_
    refine lv_iload_n hx hb dX4_hindrance_11 rfl (lv_at hl 1 rfl) ?_
    refine lv_iconst (v := 1) hx hb dX4_hindrance_12 (by decide) ?_
    refine lv_isub hx hb dX4_hindrance_13 ?_
    refine cr_X4_116 C hJ hk (rest := []) (c_X4_areFriends hE hk h (p0 - 1)) dX4_hindrance_14 hl.1 ⟨Nat.le_of_ble_eq_true rfl, Nat.le_of_ble_eq_true rfl⟩ ⟨Nat.le_refl _, Nat.le_refl _⟩ (Nat.le_of_ble_eq_true rfl) rfl rfl ?_
    refine lv_if_eq (tgt := 22) hx hb dX4_hindrance_17 (by decide) (fun c_17 => ?_) (fun c_17 => ?_)
    · skip
      refine lv_aload_n hx hb dX4_hindrance_22 rfl (lv_at hl 0 rfl) ?_
      refine lv_iload_n hx hb dX4_hindrance_23 rfl (lv_at hl 1 rfl) ?_
      refine lv_iconst (v := 1) hx hb dX4_hindrance_24 (by decide) ?_
      refine lv_iadd hx hb dX4_hindrance_25 ?_
      refine cr_X4_116 C hJ hk (rest := []) (c_X4_areFriends hE hk h (p0 + 1)) dX4_hindrance_26 hl.1 ⟨Nat.le_of_ble_eq_true rfl, Nat.le_of_ble_eq_true rfl⟩ ⟨Nat.le_refl _, Nat.le_refl _⟩ (Nat.le_of_ble_eq_true rfl) rfl rfl ?_
      refine lv_if_eq (tgt := 34) hx hb dX4_hindrance_29 (by decide) (fun c_29 => ?_) (fun c_29 => ?_)
      · skip
        refine lv_aload_n hx hb dX4_hindrance_34 rfl (lv_at hl 0 rfl) ?_
        refine lv_iload_n hx hb dX4_hindrance_35 rfl (lv_at hl 1 rfl) ?_
        refine cr_X4_100 C hJ hk (rest := []) (c_X4_surplus hE hk h p0) dX4_hindrance_36 hl.1 ⟨Nat.le_of_ble_eq_true rfl, Nat.le_of_ble_eq_true rfl⟩ ⟨Nat.le_refl _, Nat.le_refl _⟩ (Nat.le_of_ble_eq_true rfl) rfl rfl ?_
        refine lv_if_le (tgt := 46) hx hb dX4_hindrance_39 (by decide) (fun c_39 => ?_) (fun c_39 => ?_)
        · skip
          refine lv_iconst (v := 4) hx hb dX4_hindrance_46 (by decide) ?_
          exact rR_i C hr rfl (by unfold f_hind; rw [if_pos c_5, if_pos c_17, if_pos c_29, if_neg (Int32.not_lt.mpr c_39)]) dX4_hindrance_47
        · skip
          refine lv_iconst (v := 0) hx hb dX4_hindrance_42 (by decide) ?_
          refine lv_goto (tgt := 47) hx hb dX4_hindrance_43 (by decide) ?_
          exact rR_i C hr rfl (by unfold f_hind; rw [if_pos c_5, if_pos c_17, if_pos c_29, if_pos (Int32.not_le.mp c_39)]) dX4_hindrance_47
      · skip
        refine lv_iconst (v := 3) hx hb dX4_hindrance_32 (by decide) ?_
        exact rR_i C hr rfl (by unfold f_hind; rw [if_pos c_5, if_pos c_17, if_neg c_29]) dX4_hindrance_33
    · skip
      refine lv_iconst (v := 2) hx hb dX4_hindrance_20 (by decide) ?_
      exact rR_i C hr rfl (by unfold f_hind; rw [if_pos c_5, if_neg c_17]) dX4_hindrance_21
  · skip
    refine lv_iconst (v := 1) hx hb dX4_hindrance_8 (by decide) ?_
    exact rR_i C hr rfl (by unfold f_hind; rw [if_neg c_5]) dX4_hindrance_9
set_option maxHeartbeats 4000000 in
set_option maxRecDepth 100000 in
theorem c_X4_wouldSwap {l : Launch} {E : GE} (hE : Env0 E) {S : ST} {k n : Nat} (hk : k < 6) (h : LnOk (sL S) k n) (p0 : Int32) : MR l E yX4_wouldSwap cX4_wouldSwap 2 (some .boolean) 3 66 S [.ref (gA E (13 * k)), .int p0] (some (.int (f_would (gm (sL S) k) p0))) := by
  refine MR.of hE (by decide) (Nat.le_of_ble_eq_true rfl) ?_
  intro p e s m below meth c ls C hJ hr hl
  have hx := C.x
  have hb := C.b
  have hl : lv_has ls 2 [(0, .ref (gA E (13 * k))), (1, .int p0)] := hl
  refine lv_aload_n hx hb dX4_wouldSwap_0 rfl (lv_at hl 0 rfl) ?_
  refine lv_iload_n hx hb dX4_wouldSwap_1 rfl (lv_at hl 1 rfl) ?_
  refine cr_X4_110 C hJ hk (rest := []) (c_X4_hindrance hE hk h p0) dX4_wouldSwap_2 hl.1 ⟨Nat.le_of_ble_eq_true rfl, Nat.le_of_ble_eq_true rfl⟩ ⟨Nat.le_refl _, Nat.le_refl _⟩ (Nat.le_of_ble_eq_true rfl) rfl rfl ?_
  refine lv_if_ne (tgt := 12) hx hb dX4_wouldSwap_5 (by decide) (fun c_5 => ?_) (fun c_5 => ?_)
  · skip
    refine lv_iconst (v := 0) hx hb dX4_wouldSwap_12 (by decide) ?_
    exact rR_i C hr rfl (by unfold f_would; rw [if_neg c_5]) dX4_wouldSwap_13
  · skip
    refine lv_iconst (v := 1) hx hb dX4_wouldSwap_8 (by decide) ?_
    refine lv_goto (tgt := 13) hx hb dX4_wouldSwap_9 (by decide) ?_
    exact rR_i C hr rfl (by unfold f_would; rw [if_pos c_5]) dX4_wouldSwap_13
set_option maxHeartbeats 4000000 in
set_option maxRecDepth 100000 in
theorem c_X4_wouldTake {l : Launch} {E : GE} (hE : Env0 E) {S : ST} {k n : Nat} (hk : k < 6) (h : LnOk (sL S) k n) (p0 : Int32) : MR l E yX4_wouldTake cX4_wouldTake 3 (some .boolean) 2 43 S [.ref (gA E (13 * k)), .int p0] (some (.int (f_take (gm (sL S) k) p0))) := by
  refine MR.of hE (by decide) (Nat.le_of_ble_eq_true rfl) ?_
  intro p e s m below meth c ls C hJ hr hl
  have hx := C.x
  have hb := C.b
  have hl : lv_has ls 3 [(0, .ref (gA E (13 * k))), (1, .int p0)] := hl
  refine lv_aload_n hx hb dX4_wouldTake_0 rfl (lv_at hl 0 rfl) ?_
  refine lv_iload_n hx hb dX4_wouldTake_1 rfl (lv_at hl 1 rfl) ?_
  refine lv_iconst (v := 1) hx hb dX4_wouldTake_2 (by decide) ?_
  refine lv_iadd hx hb dX4_wouldTake_3 ?_
  refine cr_X4_41 C hJ hk (rest := []) (c_X4_memberAt hE hk h (p0 + 1)) dX4_wouldTake_4 hl.1 ⟨Nat.le_of_ble_eq_true rfl, Nat.le_of_ble_eq_true rfl⟩ ⟨Nat.le_refl _, Nat.le_refl _⟩ (Nat.le_of_ble_eq_true rfl) rfl rfl ?_
  refine g_X4_73 C hJ hk (ix_lt h _) dX4_wouldTake_7 ?_
  refine lv_istore_n (lv' := [(2, .int (mb (sL S) k (ix (sL S) k (p0 + 1)) 5)), (0, .ref (gA E (13 * k))), (1, .int p0)]) hx hb dX4_wouldTake_10 rfl hl (by decide) rfl (fun ls hl => ?_)
  refine lv_iload_n hx hb dX4_wouldTake_11 rfl (lv_at hl 0 rfl) ?_
  refine lv_iconst (v := (-1)) hx hb dX4_wouldTake_12 (by decide) ?_
  refine lv_icmp_eq (tgt := 37) hx hb dX4_wouldTake_13 (by decide) (fun c_13 => ?_) (fun c_13 => ?_)
  · skip
    refine lv_iconst (v := 0) hx hb dX4_wouldTake_37 (by decide) ?_
    exact rR_i C hr rfl (by unfold f_take; first | exact (if_pos c_13).symm | exact ((if_neg c_13).trans (if_pos c_22)).symm | exact ((if_neg c_13).trans ((if_neg c_22).trans (if_neg c_30))).symm) dX4_wouldTake_38
  · skip
    refine lv_iload_n hx hb dX4_wouldTake_16 rfl (lv_at hl 0 rfl) ?_
    refine lv_aload_n hx hb dX4_wouldTake_17 rfl (lv_at hl 1 rfl) ?_
    refine lv_iload_n hx hb dX4_wouldTake_18 rfl (lv_at hl 2 rfl) ?_
    refine cr_X4_113 C hJ hk (rest := [.int (mb (sL S) k (ix (sL S) k (p0 + 1)) 5)]) (c_X4_loss hE hk h p0) dX4_wouldTake_19 hl.1 ⟨Nat.le_of_ble_eq_true rfl, Nat.le_of_ble_eq_true rfl⟩ ⟨Nat.le_refl _, Nat.le_refl _⟩ (Nat.le_of_ble_eq_true rfl) rfl rfl ?_
    refine lv_icmp_lt (tgt := 37) hx hb dX4_wouldTake_22 (by decide) (fun c_22 => ?_) (fun c_22 => ?_)
    · skip
      refine lv_iconst (v := 0) hx hb dX4_wouldTake_37 (by decide) ?_
      exact rR_i C hr rfl (by unfold f_take; first | exact (if_pos c_13).symm | exact ((if_neg c_13).trans (if_pos c_22)).symm | exact ((if_neg c_13).trans ((if_neg c_22).trans (if_neg c_30))).symm) dX4_wouldTake_38
    · skip
      refine lv_aload_n hx hb dX4_wouldTake_25 rfl (lv_at hl 1 rfl) ?_
      refine lv_iload_n hx hb dX4_wouldTake_26 rfl (lv_at hl 2 rfl) ?_
      refine cr_X4_103 C hJ hk (rest := []) (c_X4_isHeldByFriends hE hk h p0) dX4_wouldTake_27 hl.1 ⟨Nat.le_of_ble_eq_true rfl, Nat.le_of_ble_eq_true rfl⟩ ⟨Nat.le_refl _, Nat.le_refl _⟩ (Nat.le_of_ble_eq_true rfl) rfl rfl ?_
      refine lv_if_ne (tgt := 37) hx hb dX4_wouldTake_30 (by decide) (fun c_30 => ?_) (fun c_30 => ?_)
      · skip
        refine lv_iconst (v := 0) hx hb dX4_wouldTake_37 (by decide) ?_
        exact rR_i C hr rfl (by unfold f_take; first | exact (if_pos c_13).symm | exact ((if_neg c_13).trans (if_pos c_22)).symm | exact ((if_neg c_13).trans ((if_neg c_22).trans (if_neg c_30))).symm) dX4_wouldTake_38
      · skip
        refine lv_iconst (v := 1) hx hb dX4_wouldTake_33 (by decide) ?_
        refine lv_goto (tgt := 38) hx hb dX4_wouldTake_34 (by decide) ?_
        exact rR_i C hr rfl (by unfold f_take; exact ((if_neg c_13).trans ((if_neg c_22).trans (if_pos c_30))).symm) dX4_wouldTake_38
set_option maxHeartbeats 4000000 in
set_option maxRecDepth 100000 in
theorem c_X4_pairValue {l : Launch} {E : GE} (hE : Env0 E) {S : ST} {k n : Nat} (hk : k < 6) (h : LnOk (sL S) k n) (p0 : Int32) (w : Nat) (hw : w < 5) : MR l E yX4_pairValue cX4_pairValue 3 (some .int) 2 47 S [.ref (gA E (13 * k)), .int p0, .int (nI w)] (some (.int (f_pval (gm (sL S) k) (sc (sL S) k 3) p0 w))) := by
  refine MR.of hE (by decide) (Nat.le_of_ble_eq_true rfl) ?_
  intro p e s m below meth c ls C hJ hr hl
  have hx := C.x
  have hb := C.b
  have hl : lv_has ls 3 [(0, .ref (gA E (13 * k))), (1, .int p0), (2, .int (nI w))] := hl
  refine lv_iload_n hx hb dX4_pairValue_0 rfl (lv_at hl 2 rfl) ?_
  rcases (show w = 0 ∨ w = 1 ∨ w = 2 ∨ w = 3 ∨ w = 4 by omega) with e_sw | e_sw | e_sw | e_sw | e_sw
  · skip
    refine lv_tableIn (off := 31) (tgt := 32) hx hb dX4_pairValue_1 (by rw [e_sw]; decide) (by rw [e_sw]; decide) (by rw [e_sw]; rfl) (by decide) ?_
    refine lv_aload_n hx hb dX4_pairValue_32 rfl (lv_at hl 0 rfl) ?_
    refine lv_iload_n hx hb dX4_pairValue_33 rfl (lv_at hl 1 rfl) ?_
    refine cr_X4_119 C hJ hk (rest := []) (c_X4_gain hE hk h p0) dX4_pairValue_34 hl.1 ⟨Nat.le_of_ble_eq_true rfl, Nat.le_of_ble_eq_true rfl⟩ ⟨Nat.le_refl _, Nat.le_refl _⟩ (Nat.le_of_ble_eq_true rfl) rfl rfl ?_
    exact rR_i C hr rfl (by rw [e_sw]; rfl) dX4_pairValue_37
  · skip
    refine lv_tableIn (off := 37) (tgt := 38) hx hb dX4_pairValue_1 (by rw [e_sw]; decide) (by rw [e_sw]; decide) (by rw [e_sw]; rfl) (by decide) ?_
    refine lv_aload_n hx hb dX4_pairValue_38 rfl (lv_at hl 0 rfl) ?_
    refine lv_iload_n hx hb dX4_pairValue_39 rfl (lv_at hl 1 rfl) ?_
    refine cr_X4_113 C hJ hk (rest := []) (c_X4_loss hE hk h p0) dX4_pairValue_40 hl.1 ⟨Nat.le_of_ble_eq_true rfl, Nat.le_of_ble_eq_true rfl⟩ ⟨Nat.le_refl _, Nat.le_refl _⟩ (Nat.le_of_ble_eq_true rfl) rfl rfl ?_
    exact rR_i C hr rfl (by rw [e_sw]; rfl) dX4_pairValue_43
  · skip
    refine lv_tableIn (off := 43) (tgt := 44) hx hb dX4_pairValue_1 (by rw [e_sw]; decide) (by rw [e_sw]; decide) (by rw [e_sw]; rfl) (by decide) ?_
    refine lv_aload_n hx hb dX4_pairValue_44 rfl (lv_at hl 0 rfl) ?_
    refine lv_iload_n hx hb dX4_pairValue_45 rfl (lv_at hl 1 rfl) ?_
    refine cr_X4_100 C hJ hk (rest := []) (c_X4_surplus hE hk h p0) dX4_pairValue_46 hl.1 ⟨Nat.le_of_ble_eq_true rfl, Nat.le_of_ble_eq_true rfl⟩ ⟨Nat.le_refl _, Nat.le_refl _⟩ (Nat.le_of_ble_eq_true rfl) rfl rfl ?_
    exact rR_i C hr rfl (by rw [e_sw]; rfl) dX4_pairValue_49
  · skip
    refine lv_tableIn (off := 49) (tgt := 50) hx hb dX4_pairValue_1 (by rw [e_sw]; decide) (by rw [e_sw]; decide) (by rw [e_sw]; rfl) (by decide) ?_
    refine lv_aload_n hx hb dX4_pairValue_50 rfl (lv_at hl 0 rfl) ?_
    refine lv_iload_n hx hb dX4_pairValue_51 rfl (lv_at hl 1 rfl) ?_
    refine cr_X4_88 C hJ hk (rest := []) (c_X4_fairPrice hE hk h p0) dX4_pairValue_52 hl.1 ⟨Nat.le_of_ble_eq_true rfl, Nat.le_of_ble_eq_true rfl⟩ ⟨Nat.le_refl _, Nat.le_refl _⟩ (Nat.le_of_ble_eq_true rfl) rfl rfl ?_
    exact rR_i C hr rfl (by rw [e_sw]; rfl) dX4_pairValue_55
  · skip
    refine lv_tableOut (tgt := 56) hx hb dX4_pairValue_1 (by rw [e_sw]; decide) (by decide) ?_
    refine lv_aload_n hx hb dX4_pairValue_56 rfl (lv_at hl 0 rfl) ?_
    refine lv_iload_n hx hb dX4_pairValue_57 rfl (lv_at hl 1 rfl) ?_
    refine cr_X4_116 C hJ hk (rest := []) (c_X4_areFriends hE hk h p0) dX4_pairValue_58 hl.1 ⟨Nat.le_of_ble_eq_true rfl, Nat.le_of_ble_eq_true rfl⟩ ⟨Nat.le_refl _, Nat.le_refl _⟩ (Nat.le_of_ble_eq_true rfl) rfl rfl ?_
    refine lv_if_eq (tgt := 68) hx hb dX4_pairValue_61 (by decide) (fun c_61 => ?_) (fun c_61 => ?_)
    · skip
      refine lv_iconst (v := 0) hx hb dX4_pairValue_68 (by decide) ?_
      exact rR_i C hr rfl (by rw [e_sw]; exact (if_pos c_61).symm) dX4_pairValue_69
    · skip
      refine lv_iconst (v := 1) hx hb dX4_pairValue_64 (by decide) ?_
      refine lv_goto (tgt := 69) hx hb dX4_pairValue_65 (by decide) ?_
      exact rR_i C hr rfl (by rw [e_sw]; exact (if_neg c_61).symm) dX4_pairValue_69
set_option maxHeartbeats 4000000 in
set_option maxRecDepth 100000 in
theorem c_X4_waitAt {l : Launch} {E : GE} (hE : Env0 E) {S : ST} {k n : Nat} (hk : k < 6) (h : LnOk (sL S) k n) (P : Nat) (hP : P ≤ n) : MR l E yX4_waitAt cX4_waitAt 4 (some .int) 1 22 S [.ref (gA E (13 * k)), .int (nI P)] (some (.int (f_wait (gm (sL S) k) P))) := by
  refine MR.of hE (by decide) (Nat.le_of_ble_eq_true rfl) ?_
  intro p e s m below meth c ls C hJ hr hl
  have hx := C.x
  have hb := C.b
  have hl : lv_has ls 4 [(0, .ref (gA E (13 * k))), (1, .int (nI P))] := hl
  refine lv_iconst (v := 0) hx hb dX4_waitAt_0 (by decide) ?_
  refine lv_istore_n (lv' := [(2, .int 0), (0, .ref (gA E (13 * k))), (1, .int (nI P))]) hx hb dX4_waitAt_1 rfl hl (by decide) rfl (fun ls hl => ?_)
  refine lv_iconst (v := 0) hx hb dX4_waitAt_2 (by decide) ?_
  refine lv_istore_n (lv' := [(3, .int 0), (2, .int 0), (0, .ref (gA E (13 * k))), (1, .int (nI P))]) hx hb dX4_waitAt_3 rfl hl (by decide) rfl (fun ls hl => ?_)
  have lp : ∀ (d : Nat) (i : Nat) (xa : Int32) (ls : Array Slot), (i ≤ P) → (P < i + d) → (xa = sI (fun j => gm (sL S) k (nI j) 3) i) → lv_has ls 4 [(0, .ref (gA E (13 * k))), (1, .int (nI P)), (2, .int xa), (3, .int (nI i))] → W p l e (rmZ 1 22) s m ([.ref (gA E (13 * k)), .int (nI P)] : List Value).toArray below meth c s.heap [] 0 0 (RQ below ([.ref (gA E (13 * k)), .int (nI P)] : List Value).toArray s (some (.int (f_wait (gm (sL S) k) P)))) (F0 m 4 ls []) := by
    intro d
    induction d with
    | zero =>
      intro i xa ls hi hd ea hl
      omega
    | succ d ih_lp =>
      intro i xa ls hi hd ea hl
      refine lv_iload_n hx hb dX4_waitAt_4 rfl (lv_at hl 3 rfl) ?_
      refine lv_iload_n hx hb dX4_waitAt_5 rfl (lv_at hl 1 rfl) ?_
      refine lv_icmp_ge (tgt := 34) hx hb dX4_waitAt_6 (by decide) (fun c_6 => ?_) (fun c_6 => ?_)
      · skip
        have hn10 := h.1
        have e9 : i = P := eqOfLe hi (by omega) c_6
        refine lv_iload_n hx hb dX4_waitAt_34 rfl (lv_at hl 2 rfl) ?_
        exact rR_i C hr rfl (by rw [ea, e9]; rfl) dX4_waitAt_35
      · skip
        have hn10 := h.1
        have hlt : i < P := ltOfNle (by omega) c_6
        refine lv_iload_n hx hb dX4_waitAt_9 rfl (lv_at hl 3 rfl) ?_
        refine lv_aload_n hx hb dX4_waitAt_10 rfl (lv_at hl 0 rfl) ?_
        refine g_X4_26 C hJ hk dX4_waitAt_11 ?_
        refine lv_icmp_ge (tgt := 34) hx hb dX4_waitAt_14 (by decide) (fun c_14 => ?_) (fun c_14 => ?_)
        · skip
          exact absurd (cT h (by omega) c_14) (by omega)
        · skip
          refine lv_iload_n hx hb dX4_waitAt_17 rfl (lv_at hl 2 rfl) ?_
          refine lv_aload_n hx hb dX4_waitAt_18 rfl (lv_at hl 0 rfl) ?_
          refine lv_iload_n hx hb dX4_waitAt_19 rfl (lv_at hl 3 rfl) ?_
          refine cr_X4_41 C hJ hk (rest := [.int xa]) (c_X4_memberAt hE hk h (nI i)) dX4_waitAt_20 hl.1 ⟨Nat.le_of_ble_eq_true rfl, Nat.le_of_ble_eq_true rfl⟩ ⟨Nat.le_refl _, Nat.le_refl _⟩ (Nat.le_of_ble_eq_true rfl) rfl rfl ?_
          refine g_X4_107 C hJ hk (ix_lt h _) dX4_waitAt_23 ?_
          refine lv_iadd hx hb dX4_waitAt_26 ?_
          refine lv_istore_n (lv' := [(2, .int (xa + (mb (sL S) k (ix (sL S) k (nI i)) 3))), (0, .ref (gA E (13 * k))), (1, .int (nI P)), (3, .int (nI i))]) hx hb dX4_waitAt_27 rfl hl (by decide) rfl (fun ls hl => ?_)
          refine lv_iinc (v := nI (i + 1)) (lv' := [(3, .int (nI (i + 1))), (2, .int (xa + (mb (sL S) k (ix (sL S) k (nI i)) 3))), (0, .ref (gA E (13 * k))), (1, .int (nI P))]) hx hb dX4_waitAt_28 hl (k := 3) rfl (by exact nI_1 i) (by decide) rfl (fun ls hl => ?_)
          refine lv_goto (tgt := 4) hx hb dX4_waitAt_31 (by decide) ?_
          exact ih_lp (i + 1) _ _ (by omega) (by omega) (sI_u ea rfl) (lv_sub hl [2, 3, 1, 0] rfl)
  exact lp (P + 1) 0 0 _ (Nat.zero_le _) (by omega) rfl (lv_sub hl [2, 3, 1, 0] rfl)
set_option maxHeartbeats 4000000 in
set_option maxRecDepth 100000 in
theorem c_X4_costAt {l : Launch} {E : GE} (hE : Env0 E) {S : ST} {k n : Nat} (hk : k < 6) (h : LnOk (sL S) k n) (P : Nat) (hP : P ≤ n) : MR l E yX4_costAt cX4_costAt 2 (some .int) 2 45 S [.ref (gA E (13 * k)), .int (nI P)] (some (.int (f_cost (gm (sL S) k) P))) := by
  refine MR.of hE (by decide) (Nat.le_of_ble_eq_true rfl) ?_
  intro p e s m below meth c ls C hJ hr hl
  have hx := C.x
  have hb := C.b
  have hl : lv_has ls 2 [(0, .ref (gA E (13 * k))), (1, .int (nI P))] := hl
  refine lv_aload_n hx hb dX4_costAt_0 rfl (lv_at hl 0 rfl) ?_
  refine lv_iload_n hx hb dX4_costAt_1 rfl (lv_at hl 1 rfl) ?_
  refine cr_X4_41 C hJ hk (rest := []) (c_X4_memberAt hE hk h (nI P)) dX4_costAt_2 hl.1 ⟨Nat.le_of_ble_eq_true rfl, Nat.le_of_ble_eq_true rfl⟩ ⟨Nat.le_refl _, Nat.le_refl _⟩ (Nat.le_of_ble_eq_true rfl) rfl rfl ?_
  refine g_X4_70 C hJ hk (ix_lt h _) dX4_costAt_5 ?_
  refine lv_aload_n hx hb dX4_costAt_8 rfl (lv_at hl 0 rfl) ?_
  refine lv_iload_n hx hb dX4_costAt_9 rfl (lv_at hl 1 rfl) ?_
  refine cr_X4_122 C hJ hk (rest := [.int (mb (sL S) k (ix (sL S) k (nI P)) 1)]) (c_X4_waitAt hE hk h P (by omega)) dX4_costAt_10 hl.1 ⟨Nat.le_of_ble_eq_true rfl, Nat.le_of_ble_eq_true rfl⟩ ⟨Nat.le_refl _, Nat.le_refl _⟩ (Nat.le_of_ble_eq_true rfl) rfl rfl ?_
  refine lv_imul hx hb dX4_costAt_13 ?_
  exact rR_i C hr rfl (rfl) dX4_costAt_14
set_option maxHeartbeats 4000000 in
set_option maxRecDepth 100000 in
theorem c_X4_friendsAt {l : Launch} {E : GE} (hE : Env0 E) {S : ST} {k n : Nat} (hk : k < 6) (h : LnOk (sL S) k n) (p0 : Int32) : MR l E yX4_friendsAt cX4_friendsAt 2 (some .int) 2 43 S [.ref (gA E (13 * k)), .int p0] (some (.int (f_frn (gm (sL S) k) p0))) := by
  refine MR.of hE (by decide) (Nat.le_of_ble_eq_true rfl) ?_
  intro p e s m below meth c ls C hJ hr hl
  have hx := C.x
  have hb := C.b
  have hl : lv_has ls 2 [(0, .ref (gA E (13 * k))), (1, .int p0)] := hl
  refine lv_aload_n hx hb dX4_friendsAt_0 rfl (lv_at hl 0 rfl) ?_
  refine lv_iload_n hx hb dX4_friendsAt_1 rfl (lv_at hl 1 rfl) ?_
  refine lv_iconst (v := 1) hx hb dX4_friendsAt_2 (by decide) ?_
  refine lv_isub hx hb dX4_friendsAt_3 ?_
  refine cr_X4_116 C hJ hk (rest := []) (c_X4_areFriends hE hk h (p0 - 1)) dX4_friendsAt_4 hl.1 ⟨Nat.le_of_ble_eq_true rfl, Nat.le_of_ble_eq_true rfl⟩ ⟨Nat.le_refl _, Nat.le_refl _⟩ (Nat.le_of_ble_eq_true rfl) rfl rfl ?_
  refine lv_if_eq (tgt := 14) hx hb dX4_friendsAt_7 (by decide) (fun c_7 => ?_) (fun c_7 => ?_)
  · skip
    refine lv_iconst (v := 0) hx hb dX4_friendsAt_14 (by decide) ?_
    refine lv_aload_n hx hb dX4_friendsAt_15 rfl (lv_at hl 0 rfl) ?_
    refine lv_iload_n hx hb dX4_friendsAt_16 rfl (lv_at hl 1 rfl) ?_
    refine cr_X4_116 C hJ hk (rest := [.int 0]) (c_X4_areFriends hE hk h p0) dX4_friendsAt_17 hl.1 ⟨Nat.le_of_ble_eq_true rfl, Nat.le_of_ble_eq_true rfl⟩ ⟨Nat.le_refl _, Nat.le_refl _⟩ (Nat.le_of_ble_eq_true rfl) rfl rfl ?_
    refine lv_if_eq (tgt := 27) hx hb dX4_friendsAt_20 (by decide) (fun c_20 => ?_) (fun c_20 => ?_)
    · skip
      refine lv_iconst (v := 0) hx hb dX4_friendsAt_27 (by decide) ?_
      refine lv_iadd hx hb dX4_friendsAt_28 ?_
      exact rR_i C hr rfl (by unfold f_frn; rw [if_pos c_7, if_pos c_20]) dX4_friendsAt_29
    · skip
      refine lv_iconst (v := 1) hx hb dX4_friendsAt_23 (by decide) ?_
      refine lv_goto (tgt := 28) hx hb dX4_friendsAt_24 (by decide) ?_
      refine lv_iadd hx hb dX4_friendsAt_28 ?_
      exact rR_i C hr rfl (by unfold f_frn; rw [if_pos c_7, if_neg c_20]) dX4_friendsAt_29
  · skip
    refine lv_iconst (v := 1) hx hb dX4_friendsAt_10 (by decide) ?_
    refine lv_goto (tgt := 15) hx hb dX4_friendsAt_11 (by decide) ?_
    refine lv_aload_n hx hb dX4_friendsAt_15 rfl (lv_at hl 0 rfl) ?_
    refine lv_iload_n hx hb dX4_friendsAt_16 rfl (lv_at hl 1 rfl) ?_
    refine cr_X4_116 C hJ hk (rest := [.int 1]) (c_X4_areFriends hE hk h p0) dX4_friendsAt_17 hl.1 ⟨Nat.le_of_ble_eq_true rfl, Nat.le_of_ble_eq_true rfl⟩ ⟨Nat.le_refl _, Nat.le_refl _⟩ (Nat.le_of_ble_eq_true rfl) rfl rfl ?_
    refine lv_if_eq (tgt := 27) hx hb dX4_friendsAt_20 (by decide) (fun c_20 => ?_) (fun c_20 => ?_)
    · skip
      refine lv_iconst (v := 0) hx hb dX4_friendsAt_27 (by decide) ?_
      refine lv_iadd hx hb dX4_friendsAt_28 ?_
      exact rR_i C hr rfl (by unfold f_frn; rw [if_neg c_7, if_pos c_20]) dX4_friendsAt_29
    · skip
      refine lv_iconst (v := 1) hx hb dX4_friendsAt_23 (by decide) ?_
      refine lv_goto (tgt := 28) hx hb dX4_friendsAt_24 (by decide) ?_
      refine lv_iadd hx hb dX4_friendsAt_28 ?_
      exact rR_i C hr rfl (by unfold f_frn; rw [if_neg c_7, if_neg c_20]) dX4_friendsAt_29
set_option maxHeartbeats 4000000 in
set_option maxRecDepth 100000 in
theorem c_X4_memberValue {l : Launch} {E : GE} (hE : Env0 E) {S : ST} {k n : Nat} (hk : k < 6) (h : LnOk (sL S) k n) (P : Nat) (hP : P ≤ n) (w : Nat) (hw : w < 10) : MR l E yX4_memberValue cX4_memberValue 4 (some .int) 3 66 S [.ref (gA E (13 * k)), .int (nI P), .int (nI w)] (some (.int (f_mval (gm (sL S) k) P w))) := by
  refine MR.of hE (by decide) (Nat.le_of_ble_eq_true rfl) ?_
  intro p e s m below meth c ls C hJ hr hl
  have hx := C.x
  have hb := C.b
  have hl : lv_has ls 4 [(0, .ref (gA E (13 * k))), (1, .int (nI P)), (2, .int (nI w))] := hl
  refine lv_aload_n hx hb dX4_memberValue_0 rfl (lv_at hl 0 rfl) ?_
  refine lv_iload_n hx hb dX4_memberValue_1 rfl (lv_at hl 1 rfl) ?_
  refine cr_X4_41 C hJ hk (rest := []) (c_X4_memberAt hE hk h (nI P)) dX4_memberValue_2 hl.1 ⟨Nat.le_of_ble_eq_true rfl, Nat.le_of_ble_eq_true rfl⟩ ⟨Nat.le_refl _, Nat.le_refl _⟩ (Nat.le_of_ble_eq_true rfl) rfl rfl ?_
  refine lv_astore_n (lv' := [(3, .ref (gA E (13 * k + 2 + (ix (sL S) k (nI P))))), (0, .ref (gA E (13 * k))), (1, .int (nI P)), (2, .int (nI w))]) hx hb dX4_memberValue_5 rfl hl (by decide) rfl (fun ls hl => ?_)
  refine lv_iload_n hx hb dX4_memberValue_6 rfl (lv_at hl 3 rfl) ?_
  rcases (show w = 0 ∨ w = 1 ∨ w = 2 ∨ w = 3 ∨ w = 4 ∨ w = 5 ∨ w = 6 ∨ w = 7 ∨ w = 8 ∨ w = 9 by omega) with e_sw | e_sw | e_sw | e_sw | e_sw | e_sw | e_sw | e_sw | e_sw | e_sw
  · skip
    refine lv_tableIn (off := 49) (tgt := 56) hx hb dX4_memberValue_7 (by rw [e_sw]; decide) (by rw [e_sw]; decide) (by rw [e_sw]; rfl) (by decide) ?_
    refine lv_iload_n hx hb dX4_memberValue_56 rfl (lv_at hl 2 rfl) ?_
    exact rR_i C hr rfl (by rw [e_sw]; rfl) dX4_memberValue_57
  · skip
    refine lv_tableIn (off := 51) (tgt := 58) hx hb dX4_memberValue_7 (by rw [e_sw]; decide) (by rw [e_sw]; decide) (by rw [e_sw]; rfl) (by decide) ?_
    refine lv_aload_n hx hb dX4_memberValue_58 rfl (lv_at hl 0 rfl) ?_
    refine g_X4_70 C hJ hk (ix_lt h _) dX4_memberValue_59 ?_
    exact rR_i C hr rfl (by rw [e_sw]; rfl) dX4_memberValue_62
  · skip
    refine lv_tableIn (off := 56) (tgt := 63) hx hb dX4_memberValue_7 (by rw [e_sw]; decide) (by rw [e_sw]; decide) (by rw [e_sw]; rfl) (by decide) ?_
    refine lv_aload_n hx hb dX4_memberValue_63 rfl (lv_at hl 0 rfl) ?_
    refine g_X4_67 C hJ hk (ix_lt h _) dX4_memberValue_64 ?_
    exact rR_i C hr rfl (by rw [e_sw]; rfl) dX4_memberValue_67
  · skip
    refine lv_tableIn (off := 61) (tgt := 68) hx hb dX4_memberValue_7 (by rw [e_sw]; decide) (by rw [e_sw]; decide) (by rw [e_sw]; rfl) (by decide) ?_
    refine lv_aload_n hx hb dX4_memberValue_68 rfl (lv_at hl 0 rfl) ?_
    refine g_X4_107 C hJ hk (ix_lt h _) dX4_memberValue_69 ?_
    exact rR_i C hr rfl (by rw [e_sw]; rfl) dX4_memberValue_72
  · skip
    refine lv_tableIn (off := 66) (tgt := 73) hx hb dX4_memberValue_7 (by rw [e_sw]; decide) (by rw [e_sw]; decide) (by rw [e_sw]; rfl) (by decide) ?_
    refine lv_aload_n hx hb dX4_memberValue_73 rfl (lv_at hl 1 rfl) ?_
    refine lv_iload_n hx hb dX4_memberValue_74 rfl (lv_at hl 2 rfl) ?_
    refine cr_X4_122 C hJ hk (rest := []) (c_X4_waitAt hE hk h P (by omega)) dX4_memberValue_75 hl.1 ⟨Nat.le_of_ble_eq_true rfl, Nat.le_of_ble_eq_true rfl⟩ ⟨Nat.le_refl _, Nat.le_refl _⟩ (Nat.le_of_ble_eq_true rfl) rfl rfl ?_
    exact rR_i C hr rfl (by rw [e_sw]; rfl) dX4_memberValue_78
  · skip
    refine lv_tableIn (off := 72) (tgt := 79) hx hb dX4_memberValue_7 (by rw [e_sw]; decide) (by rw [e_sw]; decide) (by rw [e_sw]; rfl) (by decide) ?_
    refine lv_aload_n hx hb dX4_memberValue_79 rfl (lv_at hl 1 rfl) ?_
    refine lv_iload_n hx hb dX4_memberValue_80 rfl (lv_at hl 2 rfl) ?_
    refine cr_X4_125 C hJ hk (rest := []) (c_X4_costAt hE hk h P (by omega)) dX4_memberValue_81 hl.1 ⟨Nat.le_of_ble_eq_true rfl, Nat.le_of_ble_eq_true rfl⟩ ⟨Nat.le_refl _, Nat.le_refl _⟩ (Nat.le_of_ble_eq_true rfl) rfl rfl ?_
    exact rR_i C hr rfl (by rw [e_sw]; rfl) dX4_memberValue_84
  · skip
    refine lv_tableIn (off := 78) (tgt := 85) hx hb dX4_memberValue_7 (by rw [e_sw]; decide) (by rw [e_sw]; decide) (by rw [e_sw]; rfl) (by decide) ?_
    refine lv_aload_n hx hb dX4_memberValue_85 rfl (lv_at hl 0 rfl) ?_
    refine g_X4_91 C hJ hk (ix_lt h _) dX4_memberValue_86 ?_
    exact rR_i C hr rfl (by rw [e_sw]; rfl) dX4_memberValue_89
  · skip
    refine lv_tableIn (off := 83) (tgt := 90) hx hb dX4_memberValue_7 (by rw [e_sw]; decide) (by rw [e_sw]; decide) (by rw [e_sw]; rfl) (by decide) ?_
    refine lv_aload_n hx hb dX4_memberValue_90 rfl (lv_at hl 0 rfl) ?_
    refine g_X4_73 C hJ hk (ix_lt h _) dX4_memberValue_91 ?_
    exact rR_i C hr rfl (by rw [e_sw]; rfl) dX4_memberValue_94
  · skip
    refine lv_tableIn (off := 88) (tgt := 95) hx hb dX4_memberValue_7 (by rw [e_sw]; decide) (by rw [e_sw]; decide) (by rw [e_sw]; rfl) (by decide) ?_
    refine lv_aload_n hx hb dX4_memberValue_95 rfl (lv_at hl 1 rfl) ?_
    refine lv_iload_n hx hb dX4_memberValue_96 rfl (lv_at hl 2 rfl) ?_
    refine lv_iconst (v := 1) hx hb dX4_memberValue_97 (by decide) ?_
    refine lv_iadd hx hb dX4_memberValue_98 ?_
    refine cr_X4_41 C hJ hk (rest := []) (c_X4_memberAt hE hk h ((nI P) + 1)) dX4_memberValue_99 hl.1 ⟨Nat.le_of_ble_eq_true rfl, Nat.le_of_ble_eq_true rfl⟩ ⟨Nat.le_refl _, Nat.le_refl _⟩ (Nat.le_of_ble_eq_true rfl) rfl rfl ?_
    refine g_X4_73 C hJ hk (ix_lt h _) dX4_memberValue_102 ?_
    exact rR_i C hr rfl (by rw [e_sw]; rfl) dX4_memberValue_105
  · skip
    refine lv_tableOut (tgt := 106) hx hb dX4_memberValue_7 (by rw [e_sw]; decide) (by decide) ?_
    refine lv_aload_n hx hb dX4_memberValue_106 rfl (lv_at hl 1 rfl) ?_
    refine lv_iload_n hx hb dX4_memberValue_107 rfl (lv_at hl 2 rfl) ?_
    refine cr_X4_128 C hJ hk (rest := []) (c_X4_friendsAt hE hk h (nI P)) dX4_memberValue_108 hl.1 ⟨Nat.le_of_ble_eq_true rfl, Nat.le_of_ble_eq_true rfl⟩ ⟨Nat.le_refl _, Nat.le_refl _⟩ (Nat.le_of_ble_eq_true rfl) rfl rfl ?_
    exact rR_i C hr rfl (by rw [e_sw]; rfl) dX4_memberValue_111
set_option maxHeartbeats 4000000 in
set_option maxRecDepth 100000 in
theorem c_X4_cost {l : Launch} {E : GE} (hE : Env0 E) {S : ST} {k n : Nat} (hk : k < 6) (h : LnOk (sL S) k n) : MR l E yX4_cost cX4_cost 3 (some .int) 3 66 S [.ref (gA E (13 * k))] (some (.int (f_total (gm (sL S) k) n))) := by
  refine MR.of hE (by decide) (Nat.le_of_ble_eq_true rfl) ?_
  intro p e s m below meth c ls C hJ hr hl
  have hx := C.x
  have hb := C.b
  have hl : lv_has ls 3 [(0, .ref (gA E (13 * k)))] := hl
  refine lv_iconst (v := 0) hx hb dX4_cost_0 (by decide) ?_
  refine lv_istore_n (lv' := [(1, .int 0), (0, .ref (gA E (13 * k)))]) hx hb dX4_cost_1 rfl hl (by decide) rfl (fun ls hl => ?_)
  refine lv_iconst (v := 0) hx hb dX4_cost_2 (by decide) ?_
  refine lv_istore_n (lv' := [(2, .int 0), (1, .int 0), (0, .ref (gA E (13 * k)))]) hx hb dX4_cost_3 rfl hl (by decide) rfl (fun ls hl => ?_)
  have lp : ∀ (d : Nat) (i : Nat) (xa : Int32) (ls : Array Slot), (i ≤ n) → (n < i + d) → (xa = sI (fun P => f_cost (gm (sL S) k) P) i) → lv_has ls 3 [(0, .ref (gA E (13 * k))), (1, .int xa), (2, .int (nI i))] → W p l e (rmZ 3 66) s m ([.ref (gA E (13 * k))] : List Value).toArray below meth c s.heap [] 0 0 (RQ below ([.ref (gA E (13 * k))] : List Value).toArray s (some (.int (f_total (gm (sL S) k) n)))) (F0 m 4 ls []) := by
    intro d
    induction d with
    | zero =>
      intro i xa ls hi hd ea hl
      omega
    | succ d ih_lp =>
      intro i xa ls hi hd ea hl
      refine lv_iload_n hx hb dX4_cost_4 rfl (lv_at hl 2 rfl) ?_
      refine lv_aload_n hx hb dX4_cost_5 rfl (lv_at hl 0 rfl) ?_
      refine g_X4_26 C hJ hk dX4_cost_6 ?_
      refine lv_icmp_ge (tgt := 26) hx hb dX4_cost_9 (by decide) (fun c_9 => ?_) (fun c_9 => ?_)
      · skip
        have e9 := cT h hi c_9
        refine lv_iload_n hx hb dX4_cost_26 rfl (lv_at hl 1 rfl) ?_
        exact rR_i C hr rfl (by rw [ea, e9]; rfl) dX4_cost_27
      · skip
        have hlt := cF h hi c_9
        have hn10 := h.1
        refine lv_iload_n hx hb dX4_cost_12 rfl (lv_at hl 1 rfl) ?_
        refine lv_aload_n hx hb dX4_cost_13 rfl (lv_at hl 0 rfl) ?_
        refine lv_iload_n hx hb dX4_cost_14 rfl (lv_at hl 2 rfl) ?_
        refine cr_X4_125 C hJ hk (rest := [.int xa]) (c_X4_costAt hE hk h i (by omega)) dX4_cost_15 hl.1 ⟨Nat.le_of_ble_eq_true rfl, Nat.le_of_ble_eq_true rfl⟩ ⟨Nat.le_refl _, Nat.le_refl _⟩ (Nat.le_of_ble_eq_true rfl) rfl rfl ?_
        refine lv_iadd hx hb dX4_cost_18 ?_
        refine lv_istore_n (lv' := [(1, .int (xa + (f_cost (gm (sL S) k) i))), (0, .ref (gA E (13 * k))), (2, .int (nI i))]) hx hb dX4_cost_19 rfl hl (by decide) rfl (fun ls hl => ?_)
        refine lv_iinc (v := nI (i + 1)) (lv' := [(2, .int (nI (i + 1))), (1, .int (xa + (f_cost (gm (sL S) k) i))), (0, .ref (gA E (13 * k)))]) hx hb dX4_cost_20 hl (k := 2) rfl (by exact nI_1 i) (by decide) rfl (fun ls hl => ?_)
        refine lv_goto (tgt := 4) hx hb dX4_cost_23 (by decide) ?_
        exact ih_lp (i + 1) _ _ (by omega) (by omega) (sI_u ea rfl) (lv_sub hl [2, 1, 0] rfl)
  exact lp (n + 1) 0 0 _ (Nat.zero_le _) (by omega) rfl (lv_sub hl [2, 1, 0] rfl)
set_option maxHeartbeats 4000000 in
set_option maxRecDepth 100000 in
theorem c_X4_toldCost {l : Launch} {E : GE} (hE : Env0 E) {S : ST} {k n : Nat} (hk : k < 6) (h : LnOk (sL S) k n) : MR l E yX4_toldCost cX4_toldCost 3 (some .int) 2 45 S [.ref (gA E (13 * k))] (some (.int (f_told (gm (sL S) k) n))) := by
  refine MR.of hE (by decide) (Nat.le_of_ble_eq_true rfl) ?_
  intro p e s m below meth c ls C hJ hr hl
  have hx := C.x
  have hb := C.b
  have hl : lv_has ls 3 [(0, .ref (gA E (13 * k)))] := hl
  refine lv_iconst (v := 0) hx hb dX4_toldCost_0 (by decide) ?_
  refine lv_istore_n (lv' := [(1, .int 0), (0, .ref (gA E (13 * k)))]) hx hb dX4_toldCost_1 rfl hl (by decide) rfl (fun ls hl => ?_)
  refine lv_iconst (v := 0) hx hb dX4_toldCost_2 (by decide) ?_
  refine lv_istore_n (lv' := [(2, .int 0), (1, .int 0), (0, .ref (gA E (13 * k)))]) hx hb dX4_toldCost_3 rfl hl (by decide) rfl (fun ls hl => ?_)
  have lp : ∀ (d : Nat) (i : Nat) (xa : Int32) (ls : Array Slot), (i ≤ n) → (n < i + d) → (xa = sI (fun P => gm (sL S) k (nI P) 2 * f_wait (gm (sL S) k) P) i) → lv_has ls 3 [(0, .ref (gA E (13 * k))), (1, .int xa), (2, .int (nI i))] → W p l e (rmZ 2 45) s m ([.ref (gA E (13 * k))] : List Value).toArray below meth c s.heap [] 0 0 (RQ below ([.ref (gA E (13 * k))] : List Value).toArray s (some (.int (f_told (gm (sL S) k) n)))) (F0 m 4 ls []) := by
    intro d
    induction d with
    | zero =>
      intro i xa ls hi hd ea hl
      omega
    | succ d ih_lp =>
      intro i xa ls hi hd ea hl
      refine lv_iload_n hx hb dX4_toldCost_4 rfl (lv_at hl 2 rfl) ?_
      refine lv_aload_n hx hb dX4_toldCost_5 rfl (lv_at hl 0 rfl) ?_
      refine g_X4_26 C hJ hk dX4_toldCost_6 ?_
      refine lv_icmp_ge (tgt := 35) hx hb dX4_toldCost_9 (by decide) (fun c_9 => ?_) (fun c_9 => ?_)
      · skip
        have e9 := cT h hi c_9
        refine lv_iload_n hx hb dX4_toldCost_35 rfl (lv_at hl 1 rfl) ?_
        exact rR_i C hr rfl (by rw [ea, e9]; rfl) dX4_toldCost_36
      · skip
        have hlt := cF h hi c_9
        have hn10 := h.1
        refine lv_iload_n hx hb dX4_toldCost_12 rfl (lv_at hl 1 rfl) ?_
        refine lv_aload_n hx hb dX4_toldCost_13 rfl (lv_at hl 0 rfl) ?_
        refine lv_iload_n hx hb dX4_toldCost_14 rfl (lv_at hl 2 rfl) ?_
        refine cr_X4_41 C hJ hk (rest := [.int xa]) (c_X4_memberAt hE hk h (nI i)) dX4_toldCost_15 hl.1 ⟨Nat.le_of_ble_eq_true rfl, Nat.le_of_ble_eq_true rfl⟩ ⟨Nat.le_refl _, Nat.le_refl _⟩ (Nat.le_of_ble_eq_true rfl) rfl rfl ?_
        refine g_X4_67 C hJ hk (ix_lt h _) dX4_toldCost_18 ?_
        refine lv_aload_n hx hb dX4_toldCost_21 rfl (lv_at hl 0 rfl) ?_
        refine lv_iload_n hx hb dX4_toldCost_22 rfl (lv_at hl 2 rfl) ?_
        refine cr_X4_122 C hJ hk (rest := [.int (mb (sL S) k (ix (sL S) k (nI i)) 2), .int xa]) (c_X4_waitAt hE hk h i (by omega)) dX4_toldCost_23 hl.1 ⟨Nat.le_of_ble_eq_true rfl, Nat.le_of_ble_eq_true rfl⟩ ⟨Nat.le_refl _, Nat.le_refl _⟩ (Nat.le_of_ble_eq_true rfl) rfl rfl ?_
        refine lv_imul hx hb dX4_toldCost_26 ?_
        refine lv_iadd hx hb dX4_toldCost_27 ?_
        refine lv_istore_n (lv' := [(1, .int (xa + ((mb (sL S) k (ix (sL S) k (nI i)) 2) * (f_wait (gm (sL S) k) i)))), (0, .ref (gA E (13 * k))), (2, .int (nI i))]) hx hb dX4_toldCost_28 rfl hl (by decide) rfl (fun ls hl => ?_)
        refine lv_iinc (v := nI (i + 1)) (lv' := [(2, .int (nI (i + 1))), (1, .int (xa + ((mb (sL S) k (ix (sL S) k (nI i)) 2) * (f_wait (gm (sL S) k) i)))), (0, .ref (gA E (13 * k)))]) hx hb dX4_toldCost_29 hl (k := 2) rfl (by exact nI_1 i) (by decide) rfl (fun ls hl => ?_)
        refine lv_goto (tgt := 4) hx hb dX4_toldCost_32 (by decide) ?_
        exact ih_lp (i + 1) _ _ (by omega) (by omega) (sI_u ea rfl) (lv_sub hl [2, 1, 0] rfl)
  exact lp (n + 1) 0 0 _ (Nat.zero_le _) (by omega) rfl (lv_sub hl [2, 1, 0] rfl)
set_option maxHeartbeats 4000000 in
set_option maxRecDepth 100000 in
theorem c_X4_waitingCost {l : Launch} {E : GE} (hE : Env0 E) {S : ST} {k n : Nat} (hk : k < 6) (h : LnOk (sL S) k n) (p0 p1 : Int32) : MR l E yX4_waitingCost cX4_waitingCost 3 (some .int) 1 22 S [.ref (gA E (13 * k)), .int p0, .int p1] (some (.int (f_wc (gm (sL S) k) p0 p1))) := by
  refine MR.of hE (by decide) (Nat.le_of_ble_eq_true rfl) ?_
  intro p e s m below meth c ls C hJ hr hl
  have hx := C.x
  have hb := C.b
  have hl : lv_has ls 3 [(0, .ref (gA E (13 * k))), (1, .int p0), (2, .int p1)] := hl
  refine lv_aload_n hx hb dX4_waitingCost_0 rfl (lv_at hl 0 rfl) ?_
  refine lv_iload_n hx hb dX4_waitingCost_1 rfl (lv_at hl 2 rfl) ?_
  refine cr_X4_41 C hJ hk (rest := []) (c_X4_memberAt hE hk h p1) dX4_waitingCost_2 hl.1 ⟨Nat.le_of_ble_eq_true rfl, Nat.le_of_ble_eq_true rfl⟩ ⟨Nat.le_refl _, Nat.le_refl _⟩ (Nat.le_of_ble_eq_true rfl) rfl rfl ?_
  refine g_X4_70 C hJ hk (ix_lt h _) dX4_waitingCost_5 ?_
  refine lv_aload_n hx hb dX4_waitingCost_8 rfl (lv_at hl 0 rfl) ?_
  refine lv_iload_n hx hb dX4_waitingCost_9 rfl (lv_at hl 1 rfl) ?_
  refine cr_X4_41 C hJ hk (rest := [.int (mb (sL S) k (ix (sL S) k p1) 1)]) (c_X4_memberAt hE hk h p0) dX4_waitingCost_10 hl.1 ⟨Nat.le_of_ble_eq_true rfl, Nat.le_of_ble_eq_true rfl⟩ ⟨Nat.le_refl _, Nat.le_refl _⟩ (Nat.le_of_ble_eq_true rfl) rfl rfl ?_
  refine g_X4_107 C hJ hk (ix_lt h _) dX4_waitingCost_13 ?_
  refine lv_imul hx hb dX4_waitingCost_16 ?_
  exact rR_i C hr rfl (rfl) dX4_waitingCost_17
set_option maxHeartbeats 4000000 in
set_option maxRecDepth 100000 in
theorem c_X4_willingPairs {l : Launch} {E : GE} (hE : Env0 E) {S : ST} {k n : Nat} (hk : k < 6) (h : LnOk (sL S) k n) : MR l E yX4_willingPairs cX4_willingPairs 3 (some .int) 3 66 S [.ref (gA E (13 * k))] (some (.int (f_willing (gm (sL S) k) n))) := by
  refine MR.of hE (by decide) (Nat.le_of_ble_eq_true rfl) ?_
  intro p e s m below meth c ls C hJ hr hl
  have hx := C.x
  have hb := C.b
  have hl : lv_has ls 3 [(0, .ref (gA E (13 * k)))] := hl
  refine lv_iconst (v := 0) hx hb dX4_willingPairs_0 (by decide) ?_
  refine lv_istore_n (lv' := [(1, .int 0), (0, .ref (gA E (13 * k)))]) hx hb dX4_willingPairs_1 rfl hl (by decide) rfl (fun ls hl => ?_)
  refine lv_iconst (v := 0) hx hb dX4_willingPairs_2 (by decide) ?_
  refine lv_istore_n (lv' := [(2, .int 0), (1, .int 0), (0, .ref (gA E (13 * k)))]) hx hb dX4_willingPairs_3 rfl hl (by decide) rfl (fun ls hl => ?_)
  have lp : ∀ (d : Nat) (i : Nat) (xa : Int32) (ls : Array Slot), (i ≤ (n - 1)) → ((n - 1) < i + d) → (xa = sI (fun j => if f_hind (gm (sL S) k) (nI j) = 0 then 1 else 0) i) → lv_has ls 3 [(0, .ref (gA E (13 * k))), (1, .int xa), (2, .int (nI i))] → W p l e (rmZ 3 66) s m ([.ref (gA E (13 * k))] : List Value).toArray below meth c s.heap [] 0 0 (RQ below ([.ref (gA E (13 * k))] : List Value).toArray s (some (.int (f_willing (gm (sL S) k) n)))) (F0 m 4 ls []) := by
    intro d
    induction d with
    | zero =>
      intro i xa ls hi hd ea hl
      omega
    | succ d ih_lp =>
      intro i xa ls hi hd ea hl
      refine lv_iload_n hx hb dX4_willingPairs_4 rfl (lv_at hl 2 rfl) ?_
      refine lv_aload_n hx hb dX4_willingPairs_5 rfl (lv_at hl 0 rfl) ?_
      refine g_X4_26 C hJ hk dX4_willingPairs_6 ?_
      refine lv_iconst (v := 1) hx hb dX4_willingPairs_9 (by decide) ?_
      refine lv_isub hx hb dX4_willingPairs_10 ?_
      refine lv_icmp_ge (tgt := 36) hx hb dX4_willingPairs_11 (by decide) (fun c_11 => ?_) (fun c_11 => ?_)
      · skip
        have e9 := cT1 h hi c_11
        refine lv_iload_n hx hb dX4_willingPairs_36 rfl (lv_at hl 1 rfl) ?_
        exact rR_i C hr rfl (by rw [ea, e9]; rfl) dX4_willingPairs_37
      · skip
        have hlt := cF1 h hi c_11
        have hn10 := h.1
        refine lv_iload_n hx hb dX4_willingPairs_14 rfl (lv_at hl 1 rfl) ?_
        refine lv_aload_n hx hb dX4_willingPairs_15 rfl (lv_at hl 0 rfl) ?_
        refine lv_iload_n hx hb dX4_willingPairs_16 rfl (lv_at hl 2 rfl) ?_
        refine cr_X4_110 C hJ hk (rest := [.int xa]) (c_X4_hindrance hE hk h (nI i)) dX4_willingPairs_17 hl.1 ⟨Nat.le_of_ble_eq_true rfl, Nat.le_of_ble_eq_true rfl⟩ ⟨Nat.le_refl _, Nat.le_refl _⟩ (Nat.le_of_ble_eq_true rfl) rfl rfl ?_
        refine lv_if_ne (tgt := 27) hx hb dX4_willingPairs_20 (by decide) (fun c_20 => ?_) (fun c_20 => ?_)
        · skip
          refine lv_iconst (v := 0) hx hb dX4_willingPairs_27 (by decide) ?_
          refine lv_iadd hx hb dX4_willingPairs_28 ?_
          refine lv_istore_n (lv' := [(1, .int (xa + 0)), (0, .ref (gA E (13 * k))), (2, .int (nI i))]) hx hb dX4_willingPairs_29 rfl hl (by decide) rfl (fun ls hl => ?_)
          refine lv_iinc (v := nI (i + 1)) (lv' := [(2, .int (nI (i + 1))), (1, .int (xa + 0)), (0, .ref (gA E (13 * k)))]) hx hb dX4_willingPairs_30 hl (k := 2) rfl (by exact nI_1 i) (by decide) rfl (fun ls hl => ?_)
          refine lv_goto (tgt := 4) hx hb dX4_willingPairs_33 (by decide) ?_
          exact ih_lp (i + 1) _ _ (by omega) (by omega) (by first | exact sI_u ea (if_pos c_20) | exact sI_u ea (if_neg c_20)) (lv_sub hl [2, 1, 0] rfl)
        · skip
          refine lv_iconst (v := 1) hx hb dX4_willingPairs_23 (by decide) ?_
          refine lv_goto (tgt := 28) hx hb dX4_willingPairs_24 (by decide) ?_
          refine lv_iadd hx hb dX4_willingPairs_28 ?_
          refine lv_istore_n (lv' := [(1, .int (xa + 1)), (0, .ref (gA E (13 * k))), (2, .int (nI i))]) hx hb dX4_willingPairs_29 rfl hl (by decide) rfl (fun ls hl => ?_)
          refine lv_iinc (v := nI (i + 1)) (lv' := [(2, .int (nI (i + 1))), (1, .int (xa + 1)), (0, .ref (gA E (13 * k)))]) hx hb dX4_willingPairs_30 hl (k := 2) rfl (by exact nI_1 i) (by decide) rfl (fun ls hl => ?_)
          refine lv_goto (tgt := 4) hx hb dX4_willingPairs_33 (by decide) ?_
          exact ih_lp (i + 1) _ _ (by omega) (by omega) (by first | exact sI_u ea (if_pos c_20) | exact sI_u ea (if_neg c_20)) (lv_sub hl [2, 1, 0] rfl)
  exact lp ((n - 1) + 1) 0 0 _ (Nat.zero_le _) (by omega) rfl (lv_sub hl [2, 1, 0] rfl)
set_option maxHeartbeats 4000000 in
set_option maxRecDepth 100000 in
theorem c_X4_offers {l : Launch} {E : GE} (hE : Env0 E) {S : ST} {k n : Nat} (hk : k < 6) (h : LnOk (sL S) k n) : MR l E yX4_offers cX4_offers 3 (some .int) 1 22 S [.ref (gA E (13 * k))] (some (.int (f_offers (gm (sL S) k) n))) := by
  refine MR.of hE (by decide) (Nat.le_of_ble_eq_true rfl) ?_
  intro p e s m below meth c ls C hJ hr hl
  have hx := C.x
  have hb := C.b
  have hl : lv_has ls 3 [(0, .ref (gA E (13 * k)))] := hl
  refine lv_iconst (v := 0) hx hb dX4_offers_0 (by decide) ?_
  refine lv_istore_n (lv' := [(1, .int 0), (0, .ref (gA E (13 * k)))]) hx hb dX4_offers_1 rfl hl (by decide) rfl (fun ls hl => ?_)
  refine lv_iconst (v := 0) hx hb dX4_offers_2 (by decide) ?_
  refine lv_istore_n (lv' := [(2, .int 0), (1, .int 0), (0, .ref (gA E (13 * k)))]) hx hb dX4_offers_3 rfl hl (by decide) rfl (fun ls hl => ?_)
  have lp : ∀ (d : Nat) (i : Nat) (xa : Int32) (ls : Array Slot), (i ≤ n) → (n < i + d) → (xa = sI (fun j => if gm (sL S) k (nI j) 5 = -1 then 0 else 1) i) → lv_has ls 3 [(0, .ref (gA E (13 * k))), (1, .int xa), (2, .int (nI i))] → W p l e (rmZ 1 22) s m ([.ref (gA E (13 * k))] : List Value).toArray below meth c s.heap [] 0 0 (RQ below ([.ref (gA E (13 * k))] : List Value).toArray s (some (.int (f_offers (gm (sL S) k) n)))) (F0 m 4 ls []) := by
    intro d
    induction d with
    | zero =>
      intro i xa ls hi hd ea hl
      omega
    | succ d ih_lp =>
      intro i xa ls hi hd ea hl
      refine lv_iload_n hx hb dX4_offers_4 rfl (lv_at hl 2 rfl) ?_
      refine lv_aload_n hx hb dX4_offers_5 rfl (lv_at hl 0 rfl) ?_
      refine g_X4_26 C hJ hk dX4_offers_6 ?_
      refine lv_icmp_ge (tgt := 38) hx hb dX4_offers_9 (by decide) (fun c_9 => ?_) (fun c_9 => ?_)
      · skip
        have e9 := cT h hi c_9
        refine lv_iload_n hx hb dX4_offers_38 rfl (lv_at hl 1 rfl) ?_
        exact rR_i C hr rfl (by rw [ea, e9]; rfl) dX4_offers_39
      · skip
        have hlt := cF h hi c_9
        have hn10 := h.1
        refine lv_iload_n hx hb dX4_offers_12 rfl (lv_at hl 1 rfl) ?_
        refine lv_aload_n hx hb dX4_offers_13 rfl (lv_at hl 0 rfl) ?_
        refine lv_iload_n hx hb dX4_offers_14 rfl (lv_at hl 2 rfl) ?_
        refine cr_X4_41 C hJ hk (rest := [.int xa]) (c_X4_memberAt hE hk h (nI i)) dX4_offers_15 hl.1 ⟨Nat.le_of_ble_eq_true rfl, Nat.le_of_ble_eq_true rfl⟩ ⟨Nat.le_refl _, Nat.le_refl _⟩ (Nat.le_of_ble_eq_true rfl) rfl rfl ?_
        refine g_X4_73 C hJ hk (ix_lt h _) dX4_offers_18 ?_
        refine lv_iconst (v := (-1)) hx hb dX4_offers_21 (by decide) ?_
        refine lv_icmp_eq (tgt := 29) hx hb dX4_offers_22 (by decide) (fun c_22 => ?_) (fun c_22 => ?_)
        · skip
          refine lv_iconst (v := 0) hx hb dX4_offers_29 (by decide) ?_
          refine lv_iadd hx hb dX4_offers_30 ?_
          refine lv_istore_n (lv' := [(1, .int (xa + 0)), (0, .ref (gA E (13 * k))), (2, .int (nI i))]) hx hb dX4_offers_31 rfl hl (by decide) rfl (fun ls hl => ?_)
          refine lv_iinc (v := nI (i + 1)) (lv' := [(2, .int (nI (i + 1))), (1, .int (xa + 0)), (0, .ref (gA E (13 * k)))]) hx hb dX4_offers_32 hl (k := 2) rfl (by exact nI_1 i) (by decide) rfl (fun ls hl => ?_)
          refine lv_goto (tgt := 4) hx hb dX4_offers_35 (by decide) ?_
          exact ih_lp (i + 1) _ _ (by omega) (by omega) (by first | exact sI_u ea (if_pos c_22) | exact sI_u ea (if_neg c_22)) (lv_sub hl [2, 1, 0] rfl)
        · skip
          refine lv_iconst (v := 1) hx hb dX4_offers_25 (by decide) ?_
          refine lv_goto (tgt := 30) hx hb dX4_offers_26 (by decide) ?_
          refine lv_iadd hx hb dX4_offers_30 ?_
          refine lv_istore_n (lv' := [(1, .int (xa + 1)), (0, .ref (gA E (13 * k))), (2, .int (nI i))]) hx hb dX4_offers_31 rfl hl (by decide) rfl (fun ls hl => ?_)
          refine lv_iinc (v := nI (i + 1)) (lv' := [(2, .int (nI (i + 1))), (1, .int (xa + 1)), (0, .ref (gA E (13 * k)))]) hx hb dX4_offers_32 hl (k := 2) rfl (by exact nI_1 i) (by decide) rfl (fun ls hl => ?_)
          refine lv_goto (tgt := 4) hx hb dX4_offers_35 (by decide) ?_
          exact ih_lp (i + 1) _ _ (by omega) (by omega) (by first | exact sI_u ea (if_pos c_22) | exact sI_u ea (if_neg c_22)) (lv_sub hl [2, 1, 0] rfl)
  exact lp (n + 1) 0 0 _ (Nat.zero_le _) (by omega) rfl (lv_sub hl [2, 1, 0] rfl)
set_option maxHeartbeats 4000000 in
set_option maxRecDepth 100000 in
theorem c_X4_welcomeOffers {l : Launch} {E : GE} (hE : Env0 E) {S : ST} {k n : Nat} (hk : k < 6) (h : LnOk (sL S) k n) : MR l E yX4_welcomeOffers cX4_welcomeOffers 3 (some .int) 3 65 S [.ref (gA E (13 * k))] (some (.int (f_welcome (gm (sL S) k) n))) := by
  refine MR.of hE (by decide) (Nat.le_of_ble_eq_true rfl) ?_
  intro p e s m below meth c ls C hJ hr hl
  have hx := C.x
  have hb := C.b
  have hl : lv_has ls 3 [(0, .ref (gA E (13 * k)))] := hl
  refine lv_iconst (v := 0) hx hb dX4_welcomeOffers_0 (by decide) ?_
  refine lv_istore_n (lv' := [(1, .int 0), (0, .ref (gA E (13 * k)))]) hx hb dX4_welcomeOffers_1 rfl hl (by decide) rfl (fun ls hl => ?_)
  refine lv_iconst (v := 0) hx hb dX4_welcomeOffers_2 (by decide) ?_
  refine lv_istore_n (lv' := [(2, .int 0), (1, .int 0), (0, .ref (gA E (13 * k)))]) hx hb dX4_welcomeOffers_3 rfl hl (by decide) rfl (fun ls hl => ?_)
  have lp : ∀ (d : Nat) (i : Nat) (xa : Int32) (ls : Array Slot), (i ≤ (n - 1)) → ((n - 1) < i + d) → (xa = sI (fun j => if f_take (gm (sL S) k) (nI j) = 0 then 0 else 1) i) → lv_has ls 3 [(0, .ref (gA E (13 * k))), (1, .int xa), (2, .int (nI i))] → W p l e (rmZ 3 65) s m ([.ref (gA E (13 * k))] : List Value).toArray below meth c s.heap [] 0 0 (RQ below ([.ref (gA E (13 * k))] : List Value).toArray s (some (.int (f_welcome (gm (sL S) k) n)))) (F0 m 4 ls []) := by
    intro d
    induction d with
    | zero =>
      intro i xa ls hi hd ea hl
      omega
    | succ d ih_lp =>
      intro i xa ls hi hd ea hl
      refine lv_iload_n hx hb dX4_welcomeOffers_4 rfl (lv_at hl 2 rfl) ?_
      refine lv_aload_n hx hb dX4_welcomeOffers_5 rfl (lv_at hl 0 rfl) ?_
      refine g_X4_26 C hJ hk dX4_welcomeOffers_6 ?_
      refine lv_iconst (v := 1) hx hb dX4_welcomeOffers_9 (by decide) ?_
      refine lv_isub hx hb dX4_welcomeOffers_10 ?_
      refine lv_icmp_ge (tgt := 36) hx hb dX4_welcomeOffers_11 (by decide) (fun c_11 => ?_) (fun c_11 => ?_)
      · skip
        have e9 := cT1 h hi c_11
        refine lv_iload_n hx hb dX4_welcomeOffers_36 rfl (lv_at hl 1 rfl) ?_
        exact rR_i C hr rfl (by rw [ea, e9]; rfl) dX4_welcomeOffers_37
      · skip
        have hlt := cF1 h hi c_11
        have hn10 := h.1
        refine lv_iload_n hx hb dX4_welcomeOffers_14 rfl (lv_at hl 1 rfl) ?_
        refine lv_aload_n hx hb dX4_welcomeOffers_15 rfl (lv_at hl 0 rfl) ?_
        refine lv_iload_n hx hb dX4_welcomeOffers_16 rfl (lv_at hl 2 rfl) ?_
        refine cr_X4_139 C hJ hk (rest := [.int xa]) (c_X4_wouldTake hE hk h (nI i)) dX4_welcomeOffers_17 hl.1 ⟨Nat.le_of_ble_eq_true rfl, Nat.le_of_ble_eq_true rfl⟩ ⟨Nat.le_refl _, Nat.le_refl _⟩ (Nat.le_of_ble_eq_true rfl) rfl rfl ?_
        refine lv_if_eq (tgt := 27) hx hb dX4_welcomeOffers_20 (by decide) (fun c_20 => ?_) (fun c_20 => ?_)
        · skip
          refine lv_iconst (v := 0) hx hb dX4_welcomeOffers_27 (by decide) ?_
          refine lv_iadd hx hb dX4_welcomeOffers_28 ?_
          refine lv_istore_n (lv' := [(1, .int (xa + 0)), (0, .ref (gA E (13 * k))), (2, .int (nI i))]) hx hb dX4_welcomeOffers_29 rfl hl (by decide) rfl (fun ls hl => ?_)
          refine lv_iinc (v := nI (i + 1)) (lv' := [(2, .int (nI (i + 1))), (1, .int (xa + 0)), (0, .ref (gA E (13 * k)))]) hx hb dX4_welcomeOffers_30 hl (k := 2) rfl (by exact nI_1 i) (by decide) rfl (fun ls hl => ?_)
          refine lv_goto (tgt := 4) hx hb dX4_welcomeOffers_33 (by decide) ?_
          exact ih_lp (i + 1) _ _ (by omega) (by omega) (by first | exact sI_u ea (if_pos c_20) | exact sI_u ea (if_neg c_20)) (lv_sub hl [2, 1, 0] rfl)
        · skip
          refine lv_iconst (v := 1) hx hb dX4_welcomeOffers_23 (by decide) ?_
          refine lv_goto (tgt := 28) hx hb dX4_welcomeOffers_24 (by decide) ?_
          refine lv_iadd hx hb dX4_welcomeOffers_28 ?_
          refine lv_istore_n (lv' := [(1, .int (xa + 1)), (0, .ref (gA E (13 * k))), (2, .int (nI i))]) hx hb dX4_welcomeOffers_29 rfl hl (by decide) rfl (fun ls hl => ?_)
          refine lv_iinc (v := nI (i + 1)) (lv' := [(2, .int (nI (i + 1))), (1, .int (xa + 1)), (0, .ref (gA E (13 * k)))]) hx hb dX4_welcomeOffers_30 hl (k := 2) rfl (by exact nI_1 i) (by decide) rfl (fun ls hl => ?_)
          refine lv_goto (tgt := 4) hx hb dX4_welcomeOffers_33 (by decide) ?_
          exact ih_lp (i + 1) _ _ (by omega) (by omega) (by first | exact sI_u ea (if_pos c_20) | exact sI_u ea (if_neg c_20)) (lv_sub hl [2, 1, 0] rfl)
  exact lp ((n - 1) + 1) 0 0 _ (Nat.zero_le _) (by omega) rfl (lv_sub hl [2, 1, 0] rfl)
set_option maxHeartbeats 4000000 in
set_option maxRecDepth 100000 in
theorem c_X4_friendPairs {l : Launch} {E : GE} (hE : Env0 E) {S : ST} {k n : Nat} (hk : k < 6) (h : LnOk (sL S) k n) : MR l E yX4_friendPairs cX4_friendPairs 3 (some .int) 2 43 S [.ref (gA E (13 * k))] (some (.int (f_frs (gm (sL S) k) n))) := by
  refine MR.of hE (by decide) (Nat.le_of_ble_eq_true rfl) ?_
  intro p e s m below meth c ls C hJ hr hl
  have hx := C.x
  have hb := C.b
  have hl : lv_has ls 3 [(0, .ref (gA E (13 * k)))] := hl
  refine lv_iconst (v := 0) hx hb dX4_friendPairs_0 (by decide) ?_
  refine lv_istore_n (lv' := [(1, .int 0), (0, .ref (gA E (13 * k)))]) hx hb dX4_friendPairs_1 rfl hl (by decide) rfl (fun ls hl => ?_)
  refine lv_iconst (v := 0) hx hb dX4_friendPairs_2 (by decide) ?_
  refine lv_istore_n (lv' := [(2, .int 0), (1, .int 0), (0, .ref (gA E (13 * k)))]) hx hb dX4_friendPairs_3 rfl hl (by decide) rfl (fun ls hl => ?_)
  have lp : ∀ (d : Nat) (i : Nat) (xa : Int32) (ls : Array Slot), (i ≤ (n - 1)) → ((n - 1) < i + d) → (xa = sI (fun j => if f_fr (gm (sL S) k) (nI j) = 0 then 0 else 1) i) → lv_has ls 3 [(0, .ref (gA E (13 * k))), (1, .int xa), (2, .int (nI i))] → W p l e (rmZ 2 43) s m ([.ref (gA E (13 * k))] : List Value).toArray below meth c s.heap [] 0 0 (RQ below ([.ref (gA E (13 * k))] : List Value).toArray s (some (.int (f_frs (gm (sL S) k) n)))) (F0 m 4 ls []) := by
    intro d
    induction d with
    | zero =>
      intro i xa ls hi hd ea hl
      omega
    | succ d ih_lp =>
      intro i xa ls hi hd ea hl
      refine lv_iload_n hx hb dX4_friendPairs_4 rfl (lv_at hl 2 rfl) ?_
      refine lv_aload_n hx hb dX4_friendPairs_5 rfl (lv_at hl 0 rfl) ?_
      refine g_X4_26 C hJ hk dX4_friendPairs_6 ?_
      refine lv_iconst (v := 1) hx hb dX4_friendPairs_9 (by decide) ?_
      refine lv_isub hx hb dX4_friendPairs_10 ?_
      refine lv_icmp_ge (tgt := 36) hx hb dX4_friendPairs_11 (by decide) (fun c_11 => ?_) (fun c_11 => ?_)
      · skip
        have e9 := cT1 h hi c_11
        refine lv_iload_n hx hb dX4_friendPairs_36 rfl (lv_at hl 1 rfl) ?_
        exact rR_i C hr rfl (by rw [ea, e9]; rfl) dX4_friendPairs_37
      · skip
        have hlt := cF1 h hi c_11
        have hn10 := h.1
        refine lv_iload_n hx hb dX4_friendPairs_14 rfl (lv_at hl 1 rfl) ?_
        refine lv_aload_n hx hb dX4_friendPairs_15 rfl (lv_at hl 0 rfl) ?_
        refine lv_iload_n hx hb dX4_friendPairs_16 rfl (lv_at hl 2 rfl) ?_
        refine cr_X4_116 C hJ hk (rest := [.int xa]) (c_X4_areFriends hE hk h (nI i)) dX4_friendPairs_17 hl.1 ⟨Nat.le_of_ble_eq_true rfl, Nat.le_of_ble_eq_true rfl⟩ ⟨Nat.le_refl _, Nat.le_refl _⟩ (Nat.le_of_ble_eq_true rfl) rfl rfl ?_
        refine lv_if_eq (tgt := 27) hx hb dX4_friendPairs_20 (by decide) (fun c_20 => ?_) (fun c_20 => ?_)
        · skip
          refine lv_iconst (v := 0) hx hb dX4_friendPairs_27 (by decide) ?_
          refine lv_iadd hx hb dX4_friendPairs_28 ?_
          refine lv_istore_n (lv' := [(1, .int (xa + 0)), (0, .ref (gA E (13 * k))), (2, .int (nI i))]) hx hb dX4_friendPairs_29 rfl hl (by decide) rfl (fun ls hl => ?_)
          refine lv_iinc (v := nI (i + 1)) (lv' := [(2, .int (nI (i + 1))), (1, .int (xa + 0)), (0, .ref (gA E (13 * k)))]) hx hb dX4_friendPairs_30 hl (k := 2) rfl (by exact nI_1 i) (by decide) rfl (fun ls hl => ?_)
          refine lv_goto (tgt := 4) hx hb dX4_friendPairs_33 (by decide) ?_
          exact ih_lp (i + 1) _ _ (by omega) (by omega) (by first | exact sI_u ea (if_pos c_20) | exact sI_u ea (if_neg c_20)) (lv_sub hl [2, 1, 0] rfl)
        · skip
          refine lv_iconst (v := 1) hx hb dX4_friendPairs_23 (by decide) ?_
          refine lv_goto (tgt := 28) hx hb dX4_friendPairs_24 (by decide) ?_
          refine lv_iadd hx hb dX4_friendPairs_28 ?_
          refine lv_istore_n (lv' := [(1, .int (xa + 1)), (0, .ref (gA E (13 * k))), (2, .int (nI i))]) hx hb dX4_friendPairs_29 rfl hl (by decide) rfl (fun ls hl => ?_)
          refine lv_iinc (v := nI (i + 1)) (lv' := [(2, .int (nI (i + 1))), (1, .int (xa + 1)), (0, .ref (gA E (13 * k)))]) hx hb dX4_friendPairs_30 hl (k := 2) rfl (by exact nI_1 i) (by decide) rfl (fun ls hl => ?_)
          refine lv_goto (tgt := 4) hx hb dX4_friendPairs_33 (by decide) ?_
          exact ih_lp (i + 1) _ _ (by omega) (by omega) (by first | exact sI_u ea (if_pos c_20) | exact sI_u ea (if_neg c_20)) (lv_sub hl [2, 1, 0] rfl)
  exact lp ((n - 1) + 1) 0 0 _ (Nat.zero_le _) (by omega) rfl (lv_sub hl [2, 1, 0] rfl)
set_option maxHeartbeats 4000000 in
set_option maxRecDepth 100000 in
theorem c_X4_placeOf {l : Launch} {E : GE} (hE : Env0 E) {S : ST} {k n : Nat} (hk : k < 6) (h : LnOk (sL S) k n) (p0 : Int32) : MR l E yX4_placeOf cX4_placeOf 3 (some .int) 1 22 S [.ref (gA E (13 * k)), .int p0] (some (.int (f_place (gm (sL S) k) n p0))) := by
  refine MR.of hE (by decide) (Nat.le_of_ble_eq_true rfl) ?_
  intro p e s m below meth c ls C hJ hr hl
  have hx := C.x
  have hb := C.b
  have hl : lv_has ls 3 [(0, .ref (gA E (13 * k))), (1, .int p0)] := hl
  refine lv_iconst (v := 0) hx hb dX4_placeOf_0 (by decide) ?_
  refine lv_istore_n (lv' := [(2, .int 0), (0, .ref (gA E (13 * k))), (1, .int p0)]) hx hb dX4_placeOf_1 rfl hl (by decide) rfl (fun ls hl => ?_)
  have lp : ∀ (d : Nat) (i : Nat) (ls : Array Slot), (i ≤ n) → (n < i + d) → (f_plc (gm (sL S) k) p0 (n - i) i = f_place (gm (sL S) k) n p0) → lv_has ls 3 [(0, .ref (gA E (13 * k))), (1, .int p0), (2, .int (nI i))] → W p l e (rmZ 1 22) s m ([.ref (gA E (13 * k)), .int p0] : List Value).toArray below meth c s.heap [] 0 0 (RQ below ([.ref (gA E (13 * k)), .int p0] : List Value).toArray s (some (.int (f_place (gm (sL S) k) n p0)))) (F0 m 2 ls []) := by
    intro d
    induction d with
    | zero =>
      intro i ls hi hd ea hl
      omega
    | succ d ih_lp =>
      intro i ls hi hd ea hl
      refine lv_iload_n hx hb dX4_placeOf_2 rfl (lv_at hl 2 rfl) ?_
      refine lv_aload_n hx hb dX4_placeOf_3 rfl (lv_at hl 0 rfl) ?_
      refine g_X4_26 C hJ hk dX4_placeOf_4 ?_
      refine lv_icmp_ge (tgt := 30) hx hb dX4_placeOf_7 (by decide) (fun c_7 => ?_) (fun c_7 => ?_)
      · skip
        have e9 := cT h hi c_7
        refine lv_iconst (v := (-1)) hx hb dX4_placeOf_30 (by decide) ?_
        exact rR_i C hr rfl (by rw [← ea, e9, Nat.sub_self]; rfl) dX4_placeOf_31
      · skip
        have hlt := cF h hi c_7
        have hn10 := h.1
        refine lv_aload_n hx hb dX4_placeOf_10 rfl (lv_at hl 0 rfl) ?_
        refine lv_iload_n hx hb dX4_placeOf_11 rfl (lv_at hl 2 rfl) ?_
        refine cr_X4_41 C hJ hk (rest := []) (c_X4_memberAt hE hk h (nI i)) dX4_placeOf_12 hl.1 ⟨Nat.le_of_ble_eq_true rfl, Nat.le_of_ble_eq_true rfl⟩ ⟨Nat.le_refl _, Nat.le_refl _⟩ (Nat.le_of_ble_eq_true rfl) rfl rfl ?_
        refine g_X4_49 C hJ hk (ix_lt h _) dX4_placeOf_15 ?_
        refine lv_iload_n hx hb dX4_placeOf_18 rfl (lv_at hl 1 rfl) ?_
        refine lv_icmp_ne (tgt := 24) hx hb dX4_placeOf_19 (by decide) (fun c_19 => ?_) (fun c_19 => ?_)
        · skip
          refine lv_iinc (v := nI (i + 1)) (lv' := [(2, .int (nI (i + 1))), (0, .ref (gA E (13 * k))), (1, .int p0)]) hx hb dX4_placeOf_24 hl (k := 2) rfl (by exact nI_1 i) (by decide) rfl (fun ls hl => ?_)
          refine lv_goto (tgt := 2) hx hb dX4_placeOf_27 (by decide) ?_
          exact ih_lp (i + 1) _ (by omega) (by omega) (by rw [← ea, show n - i = (n - (i + 1)) + 1 by omega]; exact (if_neg c_19).symm) (lv_sub hl [1, 2, 0] rfl)
        · skip
          refine lv_iload_n hx hb dX4_placeOf_22 rfl (lv_at hl 2 rfl) ?_
          exact rR_i C hr rfl (by rw [← ea, show n - i = (n - (i + 1)) + 1 by omega]; exact (if_pos c_19).symm) dX4_placeOf_23
  exact lp (n + 1) 0 _ (Nat.zero_le _) (by omega) rfl (lv_sub hl [1, 2, 0] rfl)
set_option maxHeartbeats 4000000 in
set_option maxRecDepth 100000 in
theorem c_X4_keenestPair {l : Launch} {E : GE} (hE : Env0 E) {S : ST} {k n : Nat} (hk : k < 6) (h : LnOk (sL S) k n) : MR l E yX4_keenestPair cX4_keenestPair 5 (some .int) 2 45 S [.ref (gA E (13 * k))] (some (.int (f_kp (gm (sL S) k) (n - 1)).1)) := by
  refine MR.of hE (by decide) (Nat.le_of_ble_eq_true rfl) ?_
  intro p e s m below meth c ls C hJ hr hl
  have hx := C.x
  have hb := C.b
  have hl : lv_has ls 5 [(0, .ref (gA E (13 * k)))] := hl
  refine lv_iconst (v := (-1)) hx hb dX4_keenestPair_0 (by decide) ?_
  refine lv_istore_n (lv' := [(1, .int (-1)), (0, .ref (gA E (13 * k)))]) hx hb dX4_keenestPair_1 rfl hl (by decide) rfl (fun ls hl => ?_)
  refine lv_iconst (v := 0) hx hb dX4_keenestPair_2 (by decide) ?_
  refine lv_istore_n (lv' := [(2, .int 0), (1, .int (-1)), (0, .ref (gA E (13 * k)))]) hx hb dX4_keenestPair_3 rfl hl (by decide) rfl (fun ls hl => ?_)
  refine lv_iconst (v := 0) hx hb dX4_keenestPair_4 (by decide) ?_
  refine lv_istore_n (lv' := [(3, .int 0), (2, .int 0), (1, .int (-1)), (0, .ref (gA E (13 * k)))]) hx hb dX4_keenestPair_5 rfl hl (by decide) rfl (fun ls hl => ?_)
  have lp : ∀ (d : Nat) (i : Nat) (x1 x2 : Int32) (ls : Array Slot), (i ≤ n - 1) → (n - 1 < i + d) → ((x1, x2) = f_kp (gm (sL S) k) i) → lv_has ls 5 [(0, .ref (gA E (13 * k))), (1, .int x1), (2, .int x2), (3, .int (nI i))] → W p l e (rmZ 2 45) s m ([.ref (gA E (13 * k))] : List Value).toArray below meth c s.heap [] 0 0 (RQ below ([.ref (gA E (13 * k))] : List Value).toArray s (some (.int (f_kp (gm (sL S) k) (n - 1)).1))) (F0 m 6 ls []) := by
    intro d
    induction d with
    | zero =>
      intro i x1 x2 ls hi hd ea hl
      omega
    | succ d ih_lp =>
      intro i x1 x2 ls hi hd ea hl
      refine lv_iload_n hx hb dX4_keenestPair_6 rfl (lv_at hl 3 rfl) ?_
      refine lv_aload_n hx hb dX4_keenestPair_7 rfl (lv_at hl 0 rfl) ?_
      refine g_X4_26 C hJ hk dX4_keenestPair_8 ?_
      refine lv_iconst (v := 1) hx hb dX4_keenestPair_11 (by decide) ?_
      refine lv_isub hx hb dX4_keenestPair_12 ?_
      refine lv_icmp_ge (tgt := 48) hx hb dX4_keenestPair_13 (by decide) (fun c_13 => ?_) (fun c_13 => ?_)
      · skip
        have e9 := cT1 h hi c_13
        refine lv_iload_n hx hb dX4_keenestPair_48 rfl (lv_at hl 1 rfl) ?_
        exact rR_i C hr rfl (by rw [← e9, ← ea]) dX4_keenestPair_49
      · skip
        have hlt := cF1 h hi c_13
        have hn10 := h.1
        refine lv_aload_n hx hb dX4_keenestPair_16 rfl (lv_at hl 0 rfl) ?_
        refine lv_iload_n hx hb dX4_keenestPair_17 rfl (lv_at hl 3 rfl) ?_
        refine cr_X4_100 C hJ hk (rest := []) (c_X4_surplus hE hk h (nI i)) dX4_keenestPair_18 hl.1 ⟨Nat.le_of_ble_eq_true rfl, Nat.le_of_ble_eq_true rfl⟩ ⟨Nat.le_refl _, Nat.le_refl _⟩ (Nat.le_of_ble_eq_true rfl) rfl rfl ?_
        refine lv_istore (lv' := [(4, .int (f_sur (gm (sL S) k) (nI i))), (0, .ref (gA E (13 * k))), (1, .int x1), (2, .int x2), (3, .int (nI i))]) hx hb dX4_keenestPair_21 hl (by decide) rfl (fun ls hl => ?_)
        refine lv_iload hx hb dX4_keenestPair_23 (lv_at hl 0 rfl) ?_
        refine lv_iload_n hx hb dX4_keenestPair_25 rfl (lv_at hl 3 rfl) ?_
        refine lv_icmp_le (tgt := 42) hx hb dX4_keenestPair_26 (by decide) (fun c_26 => ?_) (fun c_26 => ?_)
        · skip
          refine lv_iinc (v := nI (i + 1)) (lv' := [(3, .int (nI (i + 1))), (4, .int (f_sur (gm (sL S) k) (nI i))), (0, .ref (gA E (13 * k))), (1, .int x1), (2, .int x2)]) hx hb dX4_keenestPair_42 hl (k := 4) rfl (by exact nI_1 i) (by decide) rfl (fun ls hl => ?_)
          refine lv_goto (tgt := 6) hx hb dX4_keenestPair_45 (by decide) ?_
          exact ih_lp (i + 1) _ _ _ (by omega) (by omega) (by unfold f_kp; rw [← ea]; first | exact (if_pos c_26).symm | exact ((if_neg c_26).trans (if_pos c_34)).symm | exact ((if_neg c_26).trans (if_neg c_34)).symm) (lv_sub hl [2, 3, 4, 0] rfl)
        · skip
          refine lv_aload_n hx hb dX4_keenestPair_29 rfl (lv_at hl 1 rfl) ?_
          refine lv_iload_n hx hb dX4_keenestPair_30 rfl (lv_at hl 4 rfl) ?_
          refine cr_X4_103 C hJ hk (rest := []) (c_X4_isHeldByFriends hE hk h (nI i)) dX4_keenestPair_31 hl.1 ⟨Nat.le_of_ble_eq_true rfl, Nat.le_of_ble_eq_true rfl⟩ ⟨Nat.le_refl _, Nat.le_refl _⟩ (Nat.le_of_ble_eq_true rfl) rfl rfl ?_
          refine lv_if_ne (tgt := 42) hx hb dX4_keenestPair_34 (by decide) (fun c_34 => ?_) (fun c_34 => ?_)
          · skip
            refine lv_iinc (v := nI (i + 1)) (lv' := [(3, .int (nI (i + 1))), (4, .int (f_sur (gm (sL S) k) (nI i))), (0, .ref (gA E (13 * k))), (1, .int x1), (2, .int x2)]) hx hb dX4_keenestPair_42 hl (k := 4) rfl (by exact nI_1 i) (by decide) rfl (fun ls hl => ?_)
            refine lv_goto (tgt := 6) hx hb dX4_keenestPair_45 (by decide) ?_
            exact ih_lp (i + 1) _ _ _ (by omega) (by omega) (by unfold f_kp; rw [← ea]; first | exact (if_pos c_26).symm | exact ((if_neg c_26).trans (if_pos c_34)).symm | exact ((if_neg c_26).trans (if_neg c_34)).symm) (lv_sub hl [2, 3, 4, 0] rfl)
          · skip
            refine lv_iload hx hb dX4_keenestPair_37 (lv_at hl 0 rfl) ?_
            refine lv_istore_n (lv' := [(2, .int (f_sur (gm (sL S) k) (nI i))), (4, .int (f_sur (gm (sL S) k) (nI i))), (0, .ref (gA E (13 * k))), (1, .int x1), (3, .int (nI i))]) hx hb dX4_keenestPair_39 rfl hl (by decide) rfl (fun ls hl => ?_)
            refine lv_iload_n hx hb dX4_keenestPair_40 rfl (lv_at hl 4 rfl) ?_
            refine lv_istore_n (lv' := [(1, .int (nI i)), (2, .int (f_sur (gm (sL S) k) (nI i))), (4, .int (f_sur (gm (sL S) k) (nI i))), (0, .ref (gA E (13 * k))), (3, .int (nI i))]) hx hb dX4_keenestPair_41 rfl hl (by decide) rfl (fun ls hl => ?_)
            refine lv_iinc (v := nI (i + 1)) (lv' := [(3, .int (nI (i + 1))), (1, .int (nI i)), (2, .int (f_sur (gm (sL S) k) (nI i))), (4, .int (f_sur (gm (sL S) k) (nI i))), (0, .ref (gA E (13 * k)))]) hx hb dX4_keenestPair_42 hl (k := 4) rfl (by exact nI_1 i) (by decide) rfl (fun ls hl => ?_)
            refine lv_goto (tgt := 6) hx hb dX4_keenestPair_45 (by decide) ?_
            exact ih_lp (i + 1) _ _ _ (by omega) (by omega) (by unfold f_kp; rw [← ea]; first | exact (if_pos c_26).symm | exact ((if_neg c_26).trans (if_pos c_34)).symm | exact ((if_neg c_26).trans (if_neg c_34)).symm) (lv_sub hl [4, 1, 2, 0] rfl)
  exact lp (n - 1 + 1) 0 (-1) 0 _ (Nat.zero_le _) (by omega) rfl (lv_sub hl [3, 2, 1, 0] rfl)
set_option maxHeartbeats 4000000 in
set_option maxRecDepth 100000 in
theorem c_X4_wrongPairs {l : Launch} {E : GE} (hE : Env0 E) {S : ST} {k n : Nat} (hk : k < 6) (h : LnOk (sL S) k n) : MR l E yX4_wrongPairs cX4_wrongPairs 4 (some .int) 2 44 S [.ref (gA E (13 * k))] (some (.int (f_wrong (gm (sL S) k) n))) := by
  refine MR.of hE (by decide) (Nat.le_of_ble_eq_true rfl) ?_
  intro p e s m below meth c ls C hJ hr hl
  have hx := C.x
  have hb := C.b
  have hl : lv_has ls 4 [(0, .ref (gA E (13 * k)))] := hl
  refine lv_iconst (v := 0) hx hb dX4_wrongPairs_0 (by decide) ?_
  refine lv_istore_n (lv' := [(1, .int 0), (0, .ref (gA E (13 * k)))]) hx hb dX4_wrongPairs_1 rfl hl (by decide) rfl (fun ls hl => ?_)
  refine lv_iconst (v := 0) hx hb dX4_wrongPairs_2 (by decide) ?_
  refine lv_istore_n (lv' := [(2, .int 0), (1, .int 0), (0, .ref (gA E (13 * k)))]) hx hb dX4_wrongPairs_3 rfl hl (by decide) rfl (fun ls hl => ?_)
  have lp : ∀ (d : Nat) (i : Nat) (xa : Int32) (ls : Array Slot), (i ≤ n) → (n < i + d) → (xa = sI (fun b => sI (fun a => if f_wc (gm (sL S) k) (nI a) (nI b) ≤ f_wc (gm (sL S) k) (nI b) (nI a) then 0 else 1) b) i) → lv_has ls 4 [(0, .ref (gA E (13 * k))), (1, .int xa), (2, .int (nI i))] → W p l e (rmZ 2 44) s m ([.ref (gA E (13 * k))] : List Value).toArray below meth c s.heap [] 0 0 (RQ below ([.ref (gA E (13 * k))] : List Value).toArray s (some (.int (f_wrong (gm (sL S) k) n)))) (F0 m 4 ls []) := by
    intro d
    induction d with
    | zero =>
      intro i xa ls hi hd ea hl
      omega
    | succ d ih_lp =>
      intro i xa ls hi hd ea hl
      refine lv_iload_n hx hb dX4_wrongPairs_4 rfl (lv_at hl 2 rfl) ?_
      refine lv_aload_n hx hb dX4_wrongPairs_5 rfl (lv_at hl 0 rfl) ?_
      refine g_X4_26 C hJ hk dX4_wrongPairs_6 ?_
      refine lv_icmp_ge (tgt := 49) hx hb dX4_wrongPairs_9 (by decide) (fun c_9 => ?_) (fun c_9 => ?_)
      · skip
        have e9 := cT h hi c_9
        refine lv_iload_n hx hb dX4_wrongPairs_49 rfl (lv_at hl 1 rfl) ?_
        exact rR_i C hr rfl (by rw [ea, e9]; rfl) dX4_wrongPairs_50
      · skip
        have hlt := cF h hi c_9
        have hn10 := h.1
        refine lv_iconst (v := 0) hx hb dX4_wrongPairs_12 (by decide) ?_
        refine lv_istore_n (lv' := [(3, .int 0), (0, .ref (gA E (13 * k))), (1, .int xa), (2, .int (nI i))]) hx hb dX4_wrongPairs_13 rfl hl (by decide) rfl (fun ls hl => ?_)
        have lq : ∀ (d : Nat) (a : Nat) (xb : Int32) (ls : Array Slot), (a ≤ i) → (i < a + d) → (xb = xa + sI (fun a => if f_wc (gm (sL S) k) (nI a) (nI i) ≤ f_wc (gm (sL S) k) (nI i) (nI a) then 0 else 1) a) → lv_has ls 4 [(0, .ref (gA E (13 * k))), (2, .int (nI i)), (1, .int xb), (3, .int (nI a))] → W p l e (rmZ 2 44) s m ([.ref (gA E (13 * k))] : List Value).toArray below meth c s.heap [] 0 0 (RQ below ([.ref (gA E (13 * k))] : List Value).toArray s (some (.int (f_wrong (gm (sL S) k) n)))) (F0 m 14 ls []) := by
          intro d
          induction d with
          | zero =>
            intro a xb ls ha hb2 eb hl
            omega
          | succ d ih_lq =>
            intro a xb ls ha hb2 eb hl
            refine lv_iload_n hx hb dX4_wrongPairs_14 rfl (lv_at hl 3 rfl) ?_
            refine lv_iload_n hx hb dX4_wrongPairs_15 rfl (lv_at hl 1 rfl) ?_
            refine lv_icmp_ge (tgt := 43) hx hb dX4_wrongPairs_16 (by decide) (fun c_16 => ?_) (fun c_16 => ?_)
            · skip
              have e8 : a = i := eqOfLe ha (by omega) c_16
              refine lv_iinc (v := nI (i + 1)) (lv' := [(2, .int (nI (i + 1))), (0, .ref (gA E (13 * k))), (1, .int xb), (3, .int (nI a))]) hx hb dX4_wrongPairs_43 hl (k := 1) rfl (by exact nI_1 i) (by decide) rfl (fun ls hl => ?_)
              refine lv_goto (tgt := 4) hx hb dX4_wrongPairs_46 (by decide) ?_
              exact ih_lp (i + 1) _ _ (by omega) (by omega) (by rw [eb, e8, ea]; rfl) (lv_sub hl [1, 2, 0] rfl)
            · skip
              have hlt2 : a < i := ltOfNle (by omega) c_16
              refine lv_aload_n hx hb dX4_wrongPairs_19 rfl (lv_at hl 0 rfl) ?_
              refine lv_iload_n hx hb dX4_wrongPairs_20 rfl (lv_at hl 3 rfl) ?_
              refine lv_iload_n hx hb dX4_wrongPairs_21 rfl (lv_at hl 1 rfl) ?_
              refine cr_X4_131 C hJ hk (rest := []) (c_X4_waitingCost hE hk h (nI a) (nI i)) dX4_wrongPairs_22 hl.1 ⟨Nat.le_of_ble_eq_true rfl, Nat.le_of_ble_eq_true rfl⟩ ⟨Nat.le_refl _, Nat.le_refl _⟩ (Nat.le_of_ble_eq_true rfl) rfl rfl ?_
              refine lv_aload_n hx hb dX4_wrongPairs_25 rfl (lv_at hl 0 rfl) ?_
              refine lv_iload_n hx hb dX4_wrongPairs_26 rfl (lv_at hl 1 rfl) ?_
              refine lv_iload_n hx hb dX4_wrongPairs_27 rfl (lv_at hl 3 rfl) ?_
              refine cr_X4_131 C hJ hk (rest := [.int (f_wc (gm (sL S) k) (nI a) (nI i))]) (c_X4_waitingCost hE hk h (nI i) (nI a)) dX4_wrongPairs_28 hl.1 ⟨Nat.le_of_ble_eq_true rfl, Nat.le_of_ble_eq_true rfl⟩ ⟨Nat.le_refl _, Nat.le_refl _⟩ (Nat.le_of_ble_eq_true rfl) rfl rfl ?_
              refine lv_icmp_le (tgt := 37) hx hb dX4_wrongPairs_31 (by decide) (fun c_31 => ?_) (fun c_31 => ?_)
              · skip
                refine lv_iinc (v := nI (a + 1)) (lv' := [(3, .int (nI (a + 1))), (0, .ref (gA E (13 * k))), (2, .int (nI i)), (1, .int xb)]) hx hb dX4_wrongPairs_37 hl (k := 3) rfl (by exact nI_1 a) (by decide) rfl (fun ls hl => ?_)
                refine lv_goto (tgt := 14) hx hb dX4_wrongPairs_40 (by decide) ?_
                exact ih_lq (a + 1) _ _ (by omega) (by omega) (by first | exact sI_z eb (if_pos c_31) | exact sI_t eb (if_neg c_31)) (lv_sub hl [1, 2, 3, 0] rfl)
              · skip
                refine lv_iinc (v := (xb + 1)) (lv' := [(1, .int (xb + 1)), (0, .ref (gA E (13 * k))), (2, .int (nI i)), (3, .int (nI a))]) hx hb dX4_wrongPairs_34 hl (k := 2) rfl (by rfl) (by decide) rfl (fun ls hl => ?_)
                refine lv_iinc (v := nI (a + 1)) (lv' := [(3, .int (nI (a + 1))), (1, .int (xb + 1)), (0, .ref (gA E (13 * k))), (2, .int (nI i))]) hx hb dX4_wrongPairs_37 hl (k := 3) rfl (by exact nI_1 a) (by decide) rfl (fun ls hl => ?_)
                refine lv_goto (tgt := 14) hx hb dX4_wrongPairs_40 (by decide) ?_
                exact ih_lq (a + 1) _ _ (by omega) (by omega) (by first | exact sI_z eb (if_pos c_31) | exact sI_t eb (if_neg c_31)) (lv_sub hl [2, 3, 1, 0] rfl)
        exact lq (i + 1) 0 _ _ (Nat.zero_le _) (by omega) (by simp [sI]) (lv_sub hl [1, 3, 2, 0] rfl)
  exact lp (n + 1) 0 0 _ (Nat.zero_le _) (by omega) rfl (lv_sub hl [2, 1, 0] rfl)
set_option maxHeartbeats 4000000 in
set_option maxRecDepth 100000 in
theorem c_X4_bestCost {l : Launch} {E : GE} (hE : Env0 E) {S : ST} {k n : Nat} (hk : k < 6) (h : LnOk (sL S) k n) : MR l E yX4_bestCost cX4_bestCost 4 (some .int) 2 44 S [.ref (gA E (13 * k))] (some (.int (f_best (gm (sL S) k) n))) := by
  refine MR.of hE (by decide) (Nat.le_of_ble_eq_true rfl) ?_
  intro p e s m below meth c ls C hJ hr hl
  have hx := C.x
  have hb := C.b
  have hl : lv_has ls 4 [(0, .ref (gA E (13 * k)))] := hl
  refine lv_iconst (v := 0) hx hb dX4_bestCost_0 (by decide) ?_
  refine lv_istore_n (lv' := [(1, .int 0), (0, .ref (gA E (13 * k)))]) hx hb dX4_bestCost_1 rfl hl (by decide) rfl (fun ls hl => ?_)
  refine lv_iconst (v := 0) hx hb dX4_bestCost_2 (by decide) ?_
  refine lv_istore_n (lv' := [(2, .int 0), (1, .int 0), (0, .ref (gA E (13 * k)))]) hx hb dX4_bestCost_3 rfl hl (by decide) rfl (fun ls hl => ?_)
  have lp : ∀ (d : Nat) (i : Nat) (xa : Int32) (ls : Array Slot), (i ≤ n) → (n < i + d) → (xa = sI (fun b => sI (fun a => imin (f_wc (gm (sL S) k) (nI a) (nI b)) (f_wc (gm (sL S) k) (nI b) (nI a))) b) i) → lv_has ls 4 [(0, .ref (gA E (13 * k))), (1, .int xa), (2, .int (nI i))] → W p l e (rmZ 2 44) s m ([.ref (gA E (13 * k))] : List Value).toArray below meth c s.heap [] 0 0 (RQ below ([.ref (gA E (13 * k))] : List Value).toArray s (some (.int (f_best (gm (sL S) k) n)))) (F0 m 4 ls []) := by
    intro d
    induction d with
    | zero =>
      intro i xa ls hi hd ea hl
      omega
    | succ d ih_lp =>
      intro i xa ls hi hd ea hl
      refine lv_iload_n hx hb dX4_bestCost_4 rfl (lv_at hl 2 rfl) ?_
      refine lv_aload_n hx hb dX4_bestCost_5 rfl (lv_at hl 0 rfl) ?_
      refine g_X4_26 C hJ hk dX4_bestCost_6 ?_
      refine lv_icmp_ge (tgt := 49) hx hb dX4_bestCost_9 (by decide) (fun c_9 => ?_) (fun c_9 => ?_)
      · skip
        have e9 := cT h hi c_9
        refine lv_iload_n hx hb dX4_bestCost_49 rfl (lv_at hl 1 rfl) ?_
        exact rR_i C hr rfl (by rw [ea, e9]; rfl) dX4_bestCost_50
      · skip
        have hlt := cF h hi c_9
        have hn10 := h.1
        refine lv_iconst (v := 0) hx hb dX4_bestCost_12 (by decide) ?_
        refine lv_istore_n (lv' := [(3, .int 0), (0, .ref (gA E (13 * k))), (1, .int xa), (2, .int (nI i))]) hx hb dX4_bestCost_13 rfl hl (by decide) rfl (fun ls hl => ?_)
        have lq : ∀ (d : Nat) (a : Nat) (xb : Int32) (ls : Array Slot), (a ≤ i) → (i < a + d) → (xb = xa + sI (fun a => imin (f_wc (gm (sL S) k) (nI a) (nI i)) (f_wc (gm (sL S) k) (nI i) (nI a))) a) → lv_has ls 4 [(0, .ref (gA E (13 * k))), (2, .int (nI i)), (1, .int xb), (3, .int (nI a))] → W p l e (rmZ 2 44) s m ([.ref (gA E (13 * k))] : List Value).toArray below meth c s.heap [] 0 0 (RQ below ([.ref (gA E (13 * k))] : List Value).toArray s (some (.int (f_best (gm (sL S) k) n)))) (F0 m 14 ls []) := by
          intro d
          induction d with
          | zero =>
            intro a xb ls ha hb2 eb hl
            omega
          | succ d ih_lq =>
            intro a xb ls ha hb2 eb hl
            refine lv_iload_n hx hb dX4_bestCost_14 rfl (lv_at hl 3 rfl) ?_
            refine lv_iload_n hx hb dX4_bestCost_15 rfl (lv_at hl 1 rfl) ?_
            refine lv_icmp_ge (tgt := 43) hx hb dX4_bestCost_16 (by decide) (fun c_16 => ?_) (fun c_16 => ?_)
            · skip
              have e8 : a = i := eqOfLe ha (by omega) c_16
              refine lv_iinc (v := nI (i + 1)) (lv' := [(2, .int (nI (i + 1))), (0, .ref (gA E (13 * k))), (1, .int xb), (3, .int (nI a))]) hx hb dX4_bestCost_43 hl (k := 1) rfl (by exact nI_1 i) (by decide) rfl (fun ls hl => ?_)
              refine lv_goto (tgt := 4) hx hb dX4_bestCost_46 (by decide) ?_
              exact ih_lp (i + 1) _ _ (by omega) (by omega) (by rw [eb, e8, ea]; rfl) (lv_sub hl [1, 2, 0] rfl)
            · skip
              have hlt2 : a < i := ltOfNle (by omega) c_16
              refine lv_iload_n hx hb dX4_bestCost_19 rfl (lv_at hl 2 rfl) ?_
              refine lv_aload_n hx hb dX4_bestCost_20 rfl (lv_at hl 0 rfl) ?_
              refine lv_iload_n hx hb dX4_bestCost_21 rfl (lv_at hl 3 rfl) ?_
              refine lv_iload_n hx hb dX4_bestCost_22 rfl (lv_at hl 1 rfl) ?_
              refine cr_X4_131 C hJ hk (rest := [.int xb]) (c_X4_waitingCost hE hk h (nI a) (nI i)) dX4_bestCost_23 hl.1 ⟨Nat.le_of_ble_eq_true rfl, Nat.le_of_ble_eq_true rfl⟩ ⟨Nat.le_refl _, Nat.le_refl _⟩ (Nat.le_of_ble_eq_true rfl) rfl rfl ?_
              refine lv_aload_n hx hb dX4_bestCost_26 rfl (lv_at hl 0 rfl) ?_
              refine lv_iload_n hx hb dX4_bestCost_27 rfl (lv_at hl 1 rfl) ?_
              refine lv_iload_n hx hb dX4_bestCost_28 rfl (lv_at hl 3 rfl) ?_
              refine cr_X4_131 C hJ hk (rest := [.int (f_wc (gm (sL S) k) (nI a) (nI i)), .int xb]) (c_X4_waitingCost hE hk h (nI i) (nI a)) dX4_bestCost_29 hl.1 ⟨Nat.le_of_ble_eq_true rfl, Nat.le_of_ble_eq_true rfl⟩ ⟨Nat.le_refl _, Nat.le_refl _⟩ (Nat.le_of_ble_eq_true rfl) rfl rfl ?_
              refine mm_X4 C dX4_bestCost_32 hl.1 ⟨Nat.le_of_ble_eq_true rfl, Nat.le_of_ble_eq_true rfl⟩ ⟨Nat.le_refl _, Nat.le_refl _⟩ ?_
              refine lv_iadd hx hb dX4_bestCost_35 ?_
              refine lv_istore_n (lv' := [(1, .int (xb + (imin (f_wc (gm (sL S) k) (nI a) (nI i)) (f_wc (gm (sL S) k) (nI i) (nI a))))), (0, .ref (gA E (13 * k))), (2, .int (nI i)), (3, .int (nI a))]) hx hb dX4_bestCost_36 rfl hl (by decide) rfl (fun ls hl => ?_)
              refine lv_iinc (v := nI (a + 1)) (lv' := [(3, .int (nI (a + 1))), (1, .int (xb + (imin (f_wc (gm (sL S) k) (nI a) (nI i)) (f_wc (gm (sL S) k) (nI i) (nI a))))), (0, .ref (gA E (13 * k))), (2, .int (nI i))]) hx hb dX4_bestCost_37 hl (k := 3) rfl (by exact nI_1 a) (by decide) rfl (fun ls hl => ?_)
              refine lv_goto (tgt := 14) hx hb dX4_bestCost_40 (by decide) ?_
              exact ih_lq (a + 1) _ _ (by omega) (by omega) (sI_t eb rfl) (lv_sub hl [2, 3, 1, 0] rfl)
        exact lq (i + 1) 0 _ _ (Nat.zero_le _) (by omega) (by simp [sI]) (lv_sub hl [1, 3, 2, 0] rfl)
  exact lp (n + 1) 0 0 _ (Nat.zero_le _) (by omega) rfl (lv_sub hl [2, 1, 0] rfl)
set_option maxHeartbeats 4000000 in
set_option maxRecDepth 100000 in
theorem c_X4_wholeValue {l : Launch} {E : GE} (hE : Env0 E) {S : ST} {k n : Nat} (hk : k < 6) (h : LnOk (sL S) k n) (w : Nat) (hw : w < 13) : MR l E yX4_wholeValue cX4_wholeValue 2 (some .int) 4 88 S [.ref (gA E (13 * k)), .int (nI w)] (some (.int (f_wval (gm (sL S) k) n (sc (sL S) k) w))) := by
  refine MR.of hE (by decide) (Nat.le_of_ble_eq_true rfl) ?_
  intro p e s m below meth c ls C hJ hr hl
  have hx := C.x
  have hb := C.b
  have hl : lv_has ls 2 [(0, .ref (gA E (13 * k))), (1, .int (nI w))] := hl
  refine lv_iload_n hx hb dX4_wholeValue_0 rfl (lv_at hl 1 rfl) ?_
  rcases (show w = 0 ∨ w = 1 ∨ w = 2 ∨ w = 3 ∨ w = 4 ∨ w = 5 ∨ w = 6 ∨ w = 7 ∨ w = 8 ∨ w = 9 ∨ w = 10 ∨ w = 11 ∨ w = 12 by omega) with e_sw | e_sw | e_sw | e_sw | e_sw | e_sw | e_sw | e_sw | e_sw | e_sw | e_sw | e_sw | e_sw
  · skip
    refine lv_tableIn (off := 63) (tgt := 64) hx hb dX4_wholeValue_1 (by rw [e_sw]; decide) (by rw [e_sw]; decide) (by rw [e_sw]; rfl) (by decide) ?_
    refine lv_aload_n hx hb dX4_wholeValue_64 rfl (lv_at hl 0 rfl) ?_
    refine g_X4_26 C hJ hk dX4_wholeValue_65 ?_
    exact rR_i C hr rfl (by rw [e_sw]; exact h.2.1) dX4_wholeValue_68
  · skip
    refine lv_tableIn (off := 68) (tgt := 69) hx hb dX4_wholeValue_1 (by rw [e_sw]; decide) (by rw [e_sw]; decide) (by rw [e_sw]; rfl) (by decide) ?_
    refine lv_aload_n hx hb dX4_wholeValue_69 rfl (lv_at hl 0 rfl) ?_
    refine g_X4_22 C hJ hk dX4_wholeValue_70 ?_
    exact rR_i C hr rfl (by rw [e_sw]; rfl) dX4_wholeValue_73
  · skip
    refine lv_tableIn (off := 73) (tgt := 74) hx hb dX4_wholeValue_1 (by rw [e_sw]; decide) (by rw [e_sw]; decide) (by rw [e_sw]; rfl) (by decide) ?_
    refine lv_aload_n hx hb dX4_wholeValue_74 rfl (lv_at hl 0 rfl) ?_
    refine cr_X4_142 C hJ hk (rest := []) (c_X4_cost hE hk h) dX4_wholeValue_75 hl.1 ⟨Nat.le_of_ble_eq_true rfl, Nat.le_of_ble_eq_true rfl⟩ ⟨Nat.le_refl _, Nat.le_refl _⟩ (Nat.le_of_ble_eq_true rfl) rfl rfl ?_
    exact rR_i C hr rfl (by rw [e_sw]; rfl) dX4_wholeValue_78
  · skip
    refine lv_tableIn (off := 78) (tgt := 79) hx hb dX4_wholeValue_1 (by rw [e_sw]; decide) (by rw [e_sw]; decide) (by rw [e_sw]; rfl) (by decide) ?_
    refine lv_aload_n hx hb dX4_wholeValue_79 rfl (lv_at hl 0 rfl) ?_
    refine cr_X4_145 C hJ hk (rest := []) (c_X4_toldCost hE hk h) dX4_wholeValue_80 hl.1 ⟨Nat.le_of_ble_eq_true rfl, Nat.le_of_ble_eq_true rfl⟩ ⟨Nat.le_refl _, Nat.le_refl _⟩ (Nat.le_of_ble_eq_true rfl) rfl rfl ?_
    exact rR_i C hr rfl (by rw [e_sw]; rfl) dX4_wholeValue_83
  · skip
    refine lv_tableIn (off := 83) (tgt := 84) hx hb dX4_wholeValue_1 (by rw [e_sw]; decide) (by rw [e_sw]; decide) (by rw [e_sw]; rfl) (by decide) ?_
    refine lv_aload_n hx hb dX4_wholeValue_84 rfl (lv_at hl 0 rfl) ?_
    refine cr_X4_148 C hJ hk (rest := []) (c_X4_bestCost hE hk h) dX4_wholeValue_85 hl.1 ⟨Nat.le_of_ble_eq_true rfl, Nat.le_of_ble_eq_true rfl⟩ ⟨Nat.le_refl _, Nat.le_refl _⟩ (Nat.le_of_ble_eq_true rfl) rfl rfl ?_
    exact rR_i C hr rfl (by rw [e_sw]; rfl) dX4_wholeValue_88
  · skip
    refine lv_tableIn (off := 88) (tgt := 89) hx hb dX4_wholeValue_1 (by rw [e_sw]; decide) (by rw [e_sw]; decide) (by rw [e_sw]; rfl) (by decide) ?_
    refine lv_aload_n hx hb dX4_wholeValue_89 rfl (lv_at hl 0 rfl) ?_
    refine cr_X4_151 C hJ hk (rest := []) (c_X4_willingPairs hE hk h) dX4_wholeValue_90 hl.1 ⟨Nat.le_of_ble_eq_true rfl, Nat.le_of_ble_eq_true rfl⟩ ⟨Nat.le_refl _, Nat.le_refl _⟩ (Nat.le_of_ble_eq_true rfl) rfl rfl ?_
    exact rR_i C hr rfl (by rw [e_sw]; rfl) dX4_wholeValue_93
  · skip
    refine lv_tableIn (off := 93) (tgt := 94) hx hb dX4_wholeValue_1 (by rw [e_sw]; decide) (by rw [e_sw]; decide) (by rw [e_sw]; rfl) (by decide) ?_
    refine lv_aload_n hx hb dX4_wholeValue_94 rfl (lv_at hl 0 rfl) ?_
    refine cr_X4_154 C hJ hk (rest := []) (c_X4_offers hE hk h) dX4_wholeValue_95 hl.1 ⟨Nat.le_of_ble_eq_true rfl, Nat.le_of_ble_eq_true rfl⟩ ⟨Nat.le_refl _, Nat.le_refl _⟩ (Nat.le_of_ble_eq_true rfl) rfl rfl ?_
    exact rR_i C hr rfl (by rw [e_sw]; rfl) dX4_wholeValue_98
  · skip
    refine lv_tableIn (off := 98) (tgt := 99) hx hb dX4_wholeValue_1 (by rw [e_sw]; decide) (by rw [e_sw]; decide) (by rw [e_sw]; rfl) (by decide) ?_
    refine lv_aload_n hx hb dX4_wholeValue_99 rfl (lv_at hl 0 rfl) ?_
    refine cr_X4_157 C hJ hk (rest := []) (c_X4_welcomeOffers hE hk h) dX4_wholeValue_100 hl.1 ⟨Nat.le_of_ble_eq_true rfl, Nat.le_of_ble_eq_true rfl⟩ ⟨Nat.le_refl _, Nat.le_refl _⟩ (Nat.le_of_ble_eq_true rfl) rfl rfl ?_
    exact rR_i C hr rfl (by rw [e_sw]; rfl) dX4_wholeValue_103
  · skip
    refine lv_tableIn (off := 103) (tgt := 104) hx hb dX4_wholeValue_1 (by rw [e_sw]; decide) (by rw [e_sw]; decide) (by rw [e_sw]; rfl) (by decide) ?_
    refine lv_aload_n hx hb dX4_wholeValue_104 rfl (lv_at hl 0 rfl) ?_
    refine cr_X4_80 C hJ hk (rest := []) (c_X4_friendPairs hE hk h) dX4_wholeValue_105 hl.1 ⟨Nat.le_of_ble_eq_true rfl, Nat.le_of_ble_eq_true rfl⟩ ⟨Nat.le_refl _, Nat.le_refl _⟩ (Nat.le_of_ble_eq_true rfl) rfl rfl ?_
    exact rR_i C hr rfl (by rw [e_sw]; rfl) dX4_wholeValue_108
  · skip
    refine lv_tableIn (off := 108) (tgt := 109) hx hb dX4_wholeValue_1 (by rw [e_sw]; decide) (by rw [e_sw]; decide) (by rw [e_sw]; rfl) (by decide) ?_
    refine lv_aload_n hx hb dX4_wholeValue_109 rfl (lv_at hl 0 rfl) ?_
    refine g_X4_29 C hJ hk dX4_wholeValue_110 ?_
    exact rR_i C hr rfl (by rw [e_sw]; rfl) dX4_wholeValue_113
  · skip
    refine lv_tableIn (off := 113) (tgt := 114) hx hb dX4_wholeValue_1 (by rw [e_sw]; decide) (by rw [e_sw]; decide) (by rw [e_sw]; rfl) (by decide) ?_
    refine lv_aload_n hx hb dX4_wholeValue_114 rfl (lv_at hl 0 rfl) ?_
    refine g_X4_32 C hJ hk dX4_wholeValue_115 ?_
    exact rR_i C hr rfl (by rw [e_sw]; rfl) dX4_wholeValue_118
  · skip
    refine lv_tableIn (off := 118) (tgt := 119) hx hb dX4_wholeValue_1 (by rw [e_sw]; decide) (by rw [e_sw]; decide) (by rw [e_sw]; rfl) (by decide) ?_
    refine lv_aload_n hx hb dX4_wholeValue_119 rfl (lv_at hl 0 rfl) ?_
    refine g_X4_35 C hJ hk dX4_wholeValue_120 ?_
    exact rR_i C hr rfl (by rw [e_sw]; rfl) dX4_wholeValue_123
  · skip
    refine lv_tableOut (tgt := 124) hx hb dX4_wholeValue_1 (by rw [e_sw]; decide) (by decide) ?_
    refine lv_aload_n hx hb dX4_wholeValue_124 rfl (lv_at hl 0 rfl) ?_
    refine g_X4_38 C hJ hk dX4_wholeValue_125 ?_
    exact rR_i C hr rfl (by rw [e_sw]; rfl) dX4_wholeValue_128
