/-! MODEL, its readers (by program) -/
set_option maxHeartbeats 4000000 in
set_option maxRecDepth 100000 in
theorem c_X7_in {l : Launch} {E : GE} (hE : Env0 E) {S : ST} (p0 p1 p2 : Int32) : MR l E yX7_in cX7_in 3 (some .boolean) 0 0 S [.int p0, .int p1, .int p2] (some (.int (bI (f_in p0 p1 p2)))) := by
  refine MR.of hE (by decide) (Nat.le_of_ble_eq_true rfl) ?_
  intro p e s m below meth c ls C hJ hr hl
  have hx := C.x
  have hb := C.b
  have hl : lv_has ls 3 [(0, .int p0), (1, .int p1), (2, .int p2)] := hl
  refine lv_iload_n hx hb dX7_in_0 rfl (lv_at hl 0 rfl) ?_
  refine lv_iload_n hx hb dX7_in_1 rfl (lv_at hl 1 rfl) ?_
  refine lv_icmp_lt (tgt := 14) hx hb dX7_in_2 (by decide) (fun c_2 => ?_) (fun c_2 => ?_)
  · skip
    refine lv_iconst (v := 0) hx hb dX7_in_14 (by decide) ?_
    exact rR_i C hr rfl (by unfold f_in bI; first | (rw [decide_eq_false (Int32.not_le.mpr c_2)]; rfl) | (rw [decide_eq_false (Int32.not_le.mpr c_7), Bool.and_false]; rfl)) dX7_in_15
  · skip
    refine lv_iload_n hx hb dX7_in_5 rfl (lv_at hl 0 rfl) ?_
    refine lv_iload_n hx hb dX7_in_6 rfl (lv_at hl 2 rfl) ?_
    refine lv_icmp_gt (tgt := 14) hx hb dX7_in_7 (by decide) (fun c_7 => ?_) (fun c_7 => ?_)
    · skip
      refine lv_iconst (v := 0) hx hb dX7_in_14 (by decide) ?_
      exact rR_i C hr rfl (by unfold f_in bI; first | (rw [decide_eq_false (Int32.not_le.mpr c_2)]; rfl) | (rw [decide_eq_false (Int32.not_le.mpr c_7), Bool.and_false]; rfl)) dX7_in_15
    · skip
      refine lv_iconst (v := 1) hx hb dX7_in_10 (by decide) ?_
      refine lv_goto (tgt := 15) hx hb dX7_in_11 (by decide) ?_
      exact rR_i C hr rfl (by unfold f_in bI; rw [decide_eq_true (Int32.not_lt.mp c_2), decide_eq_true (Int32.not_lt.mp c_7)]; rfl) dX7_in_15
set_option maxHeartbeats 4000000 in
set_option maxRecDepth 100000 in
theorem c_X7_isRefused {l : Launch} {E : GE} (hE : Env0 E) {S : ST} (p0 : Int32) : MW l E yX7_isRefused cX7_isRefused 2 (some .boolean) 0 0 S [.ref (gA E 84), .int p0] (fun v S1 => v = some (.int (if p0 = 0 then 0 else 1)) ∧ S1 = setM S (mMs (sM S) 2 p0)) := by
  refine MW.of hE (by decide) (Nat.le_of_ble_eq_true rfl) ?_
  intro p e s m below meth c ls C hJ hr hl
  have hx := C.x
  have hb := C.b
  have hl : lv_has ls 2 [(0, .ref (gA E 84)), (1, .int p0)] := hl
  refine lv_aload_n hx hb dX7_isRefused_0 rfl (lv_at hl 0 rfl) ?_
  refine lv_iload_n hx hb dX7_isRefused_1 rfl (lv_at hl 1 rfl) ?_
  refine p_X7_22 C hJ dX7_isRefused_2 (fun H locs hJ => ?_)
  obtain ⟨S_2, hS_2⟩ : ∃ z : ST, z = setM S (mMs (sM S) 2 p0) := ⟨_, rfl⟩
  rw [← hS_2] at hJ
  refine lv_iload_n hx hb dX7_isRefused_5 rfl (lv_at hl 1 rfl) ?_
  refine lv_if_eq (tgt := 13) hx hb dX7_isRefused_6 (by decide) (fun c_6 => ?_) (fun c_6 => ?_)
  · skip
    refine lv_iconst (v := 0) hx hb dX7_isRefused_13 (by decide) ?_
    exact rW_i C hJ hr rfl (⟨by rw [if_pos c_6], hS_2⟩) dX7_isRefused_14
  · skip
    refine lv_iconst (v := 1) hx hb dX7_isRefused_9 (by decide) ?_
    refine lv_goto (tgt := 14) hx hb dX7_isRefused_10 (by decide) ?_
    exact rW_i C hJ hr rfl (⟨by rw [if_neg c_6], hS_2⟩) dX7_isRefused_14
set_option maxHeartbeats 4000000 in
set_option maxRecDepth 100000 in
theorem c_X7_thrown {l : Launch} {E : GE} (hE : Env0 E) {S : ST}  : MR l E yX7_thrown cX7_thrown 1 (some .int) 0 0 S [.ref (gA E 84)] (some (.int ((sM S).1 2))) := by
  refine MR.of hE (by decide) (Nat.le_of_ble_eq_true rfl) ?_
  intro p e s m below meth c ls C hJ hr hl
  have hx := C.x
  have hb := C.b
  have hl : lv_has ls 1 [(0, .ref (gA E 84))] := hl
  refine lv_aload_n hx hb dX7_thrown_0 rfl (lv_at hl 0 rfl) ?_
  refine g_X7_22 C hJ dX7_thrown_1 ?_
  exact rR_i C hr rfl (rfl) dX7_thrown_4
set_option maxHeartbeats 4000000 in
set_option maxRecDepth 100000 in
theorem c_X7_of {l : Launch} {E : GE} (hE : Env0 E) {S : ST} {p0 p1 : Int32} (P i : Nat) (hP : P ≤ 10) (hi : i < 7) (ep : p0 = nI P) (eq : p1 = nI i) : MR l E yX7_of cX7_of 3 (some .int) 0 0 S [.ref (gA E 84), .int p0, .int p1] (some (.int ((sM S).2.1 (6 + 7 * P + i)))) := by
  refine MR.of hE (by decide) (Nat.le_of_ble_eq_true rfl) ?_
  intro p e s m below meth c ls C hJ hr hl
  have hx := C.x
  have hb := C.b
  have hl : lv_has ls 3 [(0, .ref (gA E 84)), (1, .int p0), (2, .int p1)] := hl
  refine lv_aload_n hx hb dX7_of_0 rfl (lv_at hl 0 rfl) ?_
  refine g_X7_7 C hJ dX7_of_1 ?_
  refine lv_bipush (v := 6) hx hb dX7_of_4 (by decide) ?_
  refine lv_bipush (v := 7) hx hb dX7_of_6 (by decide) ?_
  refine lv_iload_n hx hb dX7_of_8 rfl (lv_at hl 1 rfl) ?_
  refine lv_imul hx hb dX7_of_9 ?_
  refine lv_iadd hx hb dX7_of_10 ?_
  refine lv_iload_n hx hb dX7_of_11 rfl (lv_at hl 2 rfl) ?_
  refine lv_iadd hx hb dX7_of_12 ?_
  refine a_ro C hJ (P := 6 + 7 * P + i) (ix7 ep eq) (by omega) dX7_of_13 ?_
  exact rR_i C hr rfl (rfl) dX7_of_14
theorem cm_of {l : Launch} {E : GE} (hE : Env0 E) {S : ST} {n : Nat} {z : Nat → Int32} {mm : Nat → Nat → Int32} (hR : RI S n z mm) {p0 : Int32} (P i : Nat) (hP : P < n) (hi : i < 6) (ep : p0 = nI P) : MR l E yX7_of cX7_of 3 (some .int) 0 0 S [.ref (gA E 84), .int p0, .int (nI i)] (some (.int (mm P i))) := by
  have y := c_X7_of (l := l) hE (S := S) P i (by have := hR.n10; omega) (by omega) ep rfl
  rw [hR.mb hP hi] at y; exact y
theorem cm_ofw {l : Launch} {E : GE} (hE : Env0 E) {S : ST} {n : Nat} {z : Nat → Int32} {mm : Nat → Nat → Int32} (hR : RI S n z mm) {p0 p1 : Int32} (P i : Nat) (hP : P < n) (hi : i < 6) (ep : p0 = nI P) (eq : p1 = nI i) : MR l E yX7_of cX7_of 3 (some .int) 0 0 S [.ref (gA E 84), .int p0, .int p1] (some (.int (mm P i))) := by
  subst eq; exact cm_of hE hR P i hP hi ep
theorem cm_of6 {l : Launch} {E : GE} (hE : Env0 E) {S : ST} {n : Nat} {z : Nat → Int32} {mm : Nat → Nat → Int32} (hR : RI S n z mm) {p0 : Int32} (P : Nat) (hP : P < n) (ep : p0 = nI P) : MR l E yX7_of cX7_of 3 (some .int) 0 0 S [.ref (gA E 84), .int p0, .int 6] (some (.int (mfr n mm P))) := by
  have y := c_X7_of (l := l) hE (S := S) P 6 (by have := hR.n10; omega) (by omega) ep (p1 := 6) rfl
  rw [hR.fr hP] at y; exact y
set_option maxHeartbeats 4000000 in
set_option maxRecDepth 100000 in
theorem c_X7_find {l : Launch} {E : GE} (hE : Env0 E) {S : ST} {n : Nat} {z : Nat → Int32} {mm : Nat → Nat → Int32} (hR : RI S n z mm) (p0 : Int32) : MR l E yX7_find cX7_find 3 (some .int) 1 22 S [.ref (gA E 84), .int p0] (some (.int (f_place (gof n mm) n p0))) := by
  have hn := hR.n10
  refine MR.of hE (by decide) (Nat.le_of_ble_eq_true rfl) ?_
  intro p e s m below meth c ls C hJ hr hl
  have hx := C.x
  have hb := C.b
  have hl : lv_has ls 3 [(0, .ref (gA E 84)), (1, .int p0)] := hl
  refine lv_iconst (v := 0) hx hb dX7_find_0 (by decide) ?_
  refine lv_istore_n (lv' := [(2, .int 0), (0, .ref (gA E 84)), (1, .int p0)]) hx hb dX7_find_1 rfl hl (by decide) rfl (fun ls hl => ?_)
  have lp : ∀ (d : Nat) (i : Nat) (ls : Array Slot), (i ≤ n) → (n < i + d) → (f_plc (gof n mm) p0 (n - i) i = f_place (gof n mm) n p0) → lv_has ls 3 [(0, .ref (gA E 84)), (1, .int p0), (2, .int (nI i))] → W p l e (rmZ 1 22) s m ([.ref (gA E 84), .int p0] : List Value).toArray below meth c s.heap [] 0 0 (RQ below ([.ref (gA E 84), .int p0] : List Value).toArray s (some (.int (f_place (gof n mm) n p0)))) (F0 m 2 ls []) := by
    intro d
    induction d with
    | zero =>
      intro i ls hi hd hv hl
      omega
    | succ d ih_lp =>
      intro i ls hi hd hv hl
      refine lv_iload_n hx hb dX7_find_2 rfl (lv_at hl 2 rfl) ?_
      refine lv_aload_n hx hb dX7_find_3 rfl (lv_at hl 0 rfl) ?_
      refine g_X7_7 C hJ dX7_find_4 ?_
      refine lv_iconst (v := 0) hx hb dX7_find_7 (by decide) ?_
      refine a_ro C hJ (P := 0) (rfl) (by decide) dX7_find_8 ?_
      refine lv_icmp_ge (tgt := 30) hx hb dX7_find_9 (by decide) (fun c_9 => ?_) (fun c_9 => ?_)
      · skip
        have e9 : i = n := eqOfLe hi (by omega) (by have q := c_9; rw [hR.many] at q; exact q)
        refine lv_iconst (v := (-1)) hx hb dX7_find_30 (by decide) ?_
        exact rR_i C hr rfl (by rw [← hv, e9, Nat.sub_self]; rfl) dX7_find_31
      · skip
        have hlt : i < n := ltOfNle (by omega) (by have q := c_9; rw [hR.many] at q; exact q)
        refine lv_aload_n hx hb dX7_find_12 rfl (lv_at hl 0 rfl) ?_
        refine lv_iload_n hx hb dX7_find_13 rfl (lv_at hl 2 rfl) ?_
        refine lv_iconst (v := 0) hx hb dX7_find_14 (by decide) ?_
        refine cr_X7_33 C hJ (rest := []) (cm_of hE hR i 0 (by omega) (by decide) (rfl)) dX7_find_15 hl.1 ⟨Nat.le_of_ble_eq_true rfl, Nat.le_of_ble_eq_true rfl⟩ ⟨Nat.le_refl _, Nat.le_refl _⟩ (Nat.le_of_ble_eq_true rfl) rfl rfl ?_
        refine lv_iload_n hx hb dX7_find_18 rfl (lv_at hl 1 rfl) ?_
        refine lv_icmp_ne (tgt := 24) hx hb dX7_find_19 (by decide) (fun c_19 => ?_) (fun c_19 => ?_)
        · skip
          have hv2 : f_plc (gof n mm) p0 (n - (i + 1)) (i + 1) = f_place (gof n mm) n p0 := by
            rw [← hv, show n - i = (n - (i + 1)) + 1 by omega]
            exact (if_neg (fun q => c_19 (by rw [← q, g_in hn hlt]))).symm
          refine lv_iinc (v := nI (i + 1)) (lv' := [(2, .int (nI (i + 1))), (0, .ref (gA E 84)), (1, .int p0)]) hx hb dX7_find_24 hl (k := 2) rfl (by exact nI_1 i) (by decide) rfl (fun ls hl => ?_)
          refine lv_goto (tgt := 2) hx hb dX7_find_27 (by decide) ?_
          exact ih_lp (i + 1) _ (by omega) (by omega) hv2 (lv_sub hl [1, 2, 0] rfl)
        · skip
          refine lv_iload_n hx hb dX7_find_22 rfl (lv_at hl 2 rfl) ?_
          exact rR_i C hr rfl (by rw [← hv, show n - i = (n - (i + 1)) + 1 by omega]; exact (if_pos ((g_in hn hlt 0).trans c_19)).symm) dX7_find_23
  exact lp (n + 1) 0 _ (Nat.zero_le _) (by omega) rfl (lv_sub hl [1, 2, 0] rfl)
set_option maxHeartbeats 4000000 in
set_option maxRecDepth 100000 in
theorem c_X7_isPair {l : Launch} {E : GE} (hE : Env0 E) {S : ST} {n : Nat} {z : Nat → Int32} {mm : Nat → Nat → Int32} (hR : RI S n z mm) (p0 : Int32) : MR l E yX7_isPair cX7_isPair 2 (some .boolean) 1 22 S [.ref (gA E 84), .int p0] (some (.int (bI (f_in p0 0 (nI n - 2))))) := by
  refine MR.of hE (by decide) (Nat.le_of_ble_eq_true rfl) ?_
  intro p e s m below meth c ls C hJ hr hl
  have hx := C.x
  have hb := C.b
  have hl : lv_has ls 2 [(0, .ref (gA E 84)), (1, .int p0)] := hl
  refine lv_iload_n hx hb dX7_isPair_0 rfl (lv_at hl 1 rfl) ?_
  refine lv_iconst (v := 0) hx hb dX7_isPair_1 (by decide) ?_
  refine lv_aload_n hx hb dX7_isPair_2 rfl (lv_at hl 0 rfl) ?_
  refine g_X7_7 C hJ dX7_isPair_3 ?_
  refine lv_iconst (v := 0) hx hb dX7_isPair_6 (by decide) ?_
  refine a_ro C hJ (P := 0) (rfl) (by decide) dX7_isPair_7 ?_
  refine lv_iconst (v := 2) hx hb dX7_isPair_8 (by decide) ?_
  refine lv_isub hx hb dX7_isPair_9 ?_
  refine cr_X7_37 C hJ (rest := []) (c_X7_in hE p0 0 (((sM S).2.1 0) - 2)) dX7_isPair_10 hl.1 ⟨Nat.le_of_ble_eq_true rfl, Nat.le_of_ble_eq_true rfl⟩ ⟨Nat.le_refl _, Nat.le_refl _⟩ (Nat.le_of_ble_eq_true rfl) rfl rfl ?_
  exact rR_i C hr (by unfold bI; split <;> rfl) (by rw [hR.many]) dX7_isPair_13
set_option maxHeartbeats 4000000 in
set_option maxRecDepth 100000 in
theorem c_X7_gain {l : Launch} {E : GE} (hE : Env0 E) {S : ST} {n : Nat} {z : Nat → Int32} {mm : Nat → Nat → Int32} (hR : RI S n z mm) (P : Nat) (hP : P + 1 < n) : MR l E yX7_gain cX7_gain 2 (some .int) 1 22 S [.ref (gA E 84), .int (nI P)] (some (.int (f_gain (gof n mm) (nI P)))) := by
  have hn := hR.n10
  refine MR.of hE (by decide) (Nat.le_of_ble_eq_true rfl) ?_
  intro p e s m below meth c ls C hJ hr hl
  have hx := C.x
  have hb := C.b
  have hl : lv_has ls 2 [(0, .ref (gA E 84)), (1, .int (nI P))] := hl
  refine lv_aload_n hx hb dX7_gain_0 rfl (lv_at hl 0 rfl) ?_
  refine lv_iload_n hx hb dX7_gain_1 rfl (lv_at hl 1 rfl) ?_
  refine lv_iconst (v := 1) hx hb dX7_gain_2 (by decide) ?_
  refine lv_iadd hx hb dX7_gain_3 ?_
  refine lv_iconst (v := 2) hx hb dX7_gain_4 (by decide) ?_
  refine cr_X7_33 C hJ (rest := []) (cm_of hE hR (P + 1) 2 (by omega) (by decide) (nI_1 _)) dX7_gain_5 hl.1 ⟨Nat.le_of_ble_eq_true rfl, Nat.le_of_ble_eq_true rfl⟩ ⟨Nat.le_refl _, Nat.le_refl _⟩ (Nat.le_of_ble_eq_true rfl) rfl rfl ?_
  refine lv_aload_n hx hb dX7_gain_8 rfl (lv_at hl 0 rfl) ?_
  refine lv_iload_n hx hb dX7_gain_9 rfl (lv_at hl 1 rfl) ?_
  refine lv_iconst (v := 3) hx hb dX7_gain_10 (by decide) ?_
  refine cr_X7_33 C hJ (rest := [.int (mm (P + 1) 2)]) (cm_of hE hR P 3 (by omega) (by decide) (rfl)) dX7_gain_11 hl.1 ⟨Nat.le_of_ble_eq_true rfl, Nat.le_of_ble_eq_true rfl⟩ ⟨Nat.le_refl _, Nat.le_refl _⟩ (Nat.le_of_ble_eq_true rfl) rfl rfl ?_
  refine lv_imul hx hb dX7_gain_14 ?_
  exact rR_i C hr rfl (by rw [gain_in hn hP]) dX7_gain_15
theorem cm_gain {l : Launch} {E : GE} (hE : Env0 E) {S : ST} {n : Nat} {z : Nat → Int32} {mm : Nat → Nat → Int32} (hR : RI S n z mm) (P : Nat) (hP : P + 1 < n) {p0 : Int32} (ep : p0 = nI P) : MR l E yX7_gain cX7_gain 2 (some .int) 1 22 S [.ref (gA E 84), .int p0] (some (.int (f_gain (gof n mm) (nI P)))) := by subst ep; exact c_X7_gain hE hR P hP
set_option maxHeartbeats 4000000 in
set_option maxRecDepth 100000 in
theorem c_X7_loss {l : Launch} {E : GE} (hE : Env0 E) {S : ST} {n : Nat} {z : Nat → Int32} {mm : Nat → Nat → Int32} (hR : RI S n z mm) (P : Nat) (hP : P + 1 < n) : MR l E yX7_loss cX7_loss 2 (some .int) 1 22 S [.ref (gA E 84), .int (nI P)] (some (.int (f_loss (gof n mm) (nI P)))) := by
  have hn := hR.n10
  refine MR.of hE (by decide) (Nat.le_of_ble_eq_true rfl) ?_
  intro p e s m below meth c ls C hJ hr hl
  have hx := C.x
  have hb := C.b
  have hl : lv_has ls 2 [(0, .ref (gA E 84)), (1, .int (nI P))] := hl
  refine lv_aload_n hx hb dX7_loss_0 rfl (lv_at hl 0 rfl) ?_
  refine lv_iload_n hx hb dX7_loss_1 rfl (lv_at hl 1 rfl) ?_
  refine lv_iconst (v := 2) hx hb dX7_loss_2 (by decide) ?_
  refine cr_X7_33 C hJ (rest := []) (cm_of hE hR P 2 (by omega) (by decide) (rfl)) dX7_loss_3 hl.1 ⟨Nat.le_of_ble_eq_true rfl, Nat.le_of_ble_eq_true rfl⟩ ⟨Nat.le_refl _, Nat.le_refl _⟩ (Nat.le_of_ble_eq_true rfl) rfl rfl ?_
  refine lv_aload_n hx hb dX7_loss_6 rfl (lv_at hl 0 rfl) ?_
  refine lv_iload_n hx hb dX7_loss_7 rfl (lv_at hl 1 rfl) ?_
  refine lv_iconst (v := 1) hx hb dX7_loss_8 (by decide) ?_
  refine lv_iadd hx hb dX7_loss_9 ?_
  refine lv_iconst (v := 3) hx hb dX7_loss_10 (by decide) ?_
  refine cr_X7_33 C hJ (rest := [.int (mm P 2)]) (cm_of hE hR (P + 1) 3 (by omega) (by decide) (nI_1 _)) dX7_loss_11 hl.1 ⟨Nat.le_of_ble_eq_true rfl, Nat.le_of_ble_eq_true rfl⟩ ⟨Nat.le_refl _, Nat.le_refl _⟩ (Nat.le_of_ble_eq_true rfl) rfl rfl ?_
  refine lv_imul hx hb dX7_loss_14 ?_
  exact rR_i C hr rfl (by rw [loss_in hn hP]) dX7_loss_15
theorem cm_loss {l : Launch} {E : GE} (hE : Env0 E) {S : ST} {n : Nat} {z : Nat → Int32} {mm : Nat → Nat → Int32} (hR : RI S n z mm) (P : Nat) (hP : P + 1 < n) {p0 : Int32} (ep : p0 = nI P) : MR l E yX7_loss cX7_loss 2 (some .int) 1 22 S [.ref (gA E 84), .int p0] (some (.int (f_loss (gof n mm) (nI P)))) := by subst ep; exact c_X7_loss hE hR P hP
set_option maxHeartbeats 4000000 in
set_option maxRecDepth 100000 in
theorem c_X7_surplus {l : Launch} {E : GE} (hE : Env0 E) {S : ST} {n : Nat} {z : Nat → Int32} {mm : Nat → Nat → Int32} (hR : RI S n z mm) (P : Nat) (hP : P + 1 < n) : MR l E yX7_surplus cX7_surplus 2 (some .int) 2 43 S [.ref (gA E 84), .int (nI P)] (some (.int (f_sur (gof n mm) (nI P)))) := by
  have hn := hR.n10
  refine MR.of hE (by decide) (Nat.le_of_ble_eq_true rfl) ?_
  intro p e s m below meth c ls C hJ hr hl
  have hx := C.x
  have hb := C.b
  have hl : lv_has ls 2 [(0, .ref (gA E 84)), (1, .int (nI P))] := hl
  refine lv_aload_n hx hb dX7_surplus_0 rfl (lv_at hl 0 rfl) ?_
  refine lv_iload_n hx hb dX7_surplus_1 rfl (lv_at hl 1 rfl) ?_
  refine cr_X7_83 C hJ (rest := []) (cm_gain hE hR P (by omega) (rfl)) dX7_surplus_2 hl.1 ⟨Nat.le_of_ble_eq_true rfl, Nat.le_of_ble_eq_true rfl⟩ ⟨Nat.le_refl _, Nat.le_refl _⟩ (Nat.le_of_ble_eq_true rfl) rfl rfl ?_
  refine lv_aload_n hx hb dX7_surplus_5 rfl (lv_at hl 0 rfl) ?_
  refine lv_iload_n hx hb dX7_surplus_6 rfl (lv_at hl 1 rfl) ?_
  refine cr_X7_86 C hJ (rest := [.int (f_gain (gof n mm) (nI P))]) (cm_loss hE hR P (by omega) (rfl)) dX7_surplus_7 hl.1 ⟨Nat.le_of_ble_eq_true rfl, Nat.le_of_ble_eq_true rfl⟩ ⟨Nat.le_refl _, Nat.le_refl _⟩ (Nat.le_of_ble_eq_true rfl) rfl rfl ?_
  refine lv_isub hx hb dX7_surplus_10 ?_
  exact rR_i C hr rfl (rfl) dX7_surplus_11
theorem cm_surplus {l : Launch} {E : GE} (hE : Env0 E) {S : ST} {n : Nat} {z : Nat → Int32} {mm : Nat → Nat → Int32} (hR : RI S n z mm) (P : Nat) (hP : P + 1 < n) {p0 : Int32} (ep : p0 = nI P) : MR l E yX7_surplus cX7_surplus 2 (some .int) 2 43 S [.ref (gA E 84), .int p0] (some (.int (f_sur (gof n mm) (nI P)))) := by subst ep; exact c_X7_surplus hE hR P hP
set_option maxHeartbeats 4000000 in
set_option maxRecDepth 100000 in
theorem c_X7_fairPrice {l : Launch} {E : GE} (hE : Env0 E) {S : ST} {n : Nat} {z : Nat → Int32} {mm : Nat → Nat → Int32} (hR : RI S n z mm) (P : Nat) (hP : P + 1 < n) : MR l E yX7_fairPrice cX7_fairPrice 2 (some .int) 3 64 S [.ref (gA E 84), .int (nI P)] (some (.int (f_loss (gof n mm) (nI P) + f_sur (gof n mm) (nI P) * z 3 / 100))) := by
  have hn := hR.n10
  refine MR.of hE (by decide) (Nat.le_of_ble_eq_true rfl) ?_
  intro p e s m below meth c ls C hJ hr hl
  have hx := C.x
  have hb := C.b
  have hl : lv_has ls 2 [(0, .ref (gA E 84)), (1, .int (nI P))] := hl
  refine lv_aload_n hx hb dX7_fairPrice_0 rfl (lv_at hl 0 rfl) ?_
  refine lv_iload_n hx hb dX7_fairPrice_1 rfl (lv_at hl 1 rfl) ?_
  refine cr_X7_86 C hJ (rest := []) (cm_loss hE hR P (by omega) (rfl)) dX7_fairPrice_2 hl.1 ⟨Nat.le_of_ble_eq_true rfl, Nat.le_of_ble_eq_true rfl⟩ ⟨Nat.le_refl _, Nat.le_refl _⟩ (Nat.le_of_ble_eq_true rfl) rfl rfl ?_
  refine lv_aload_n hx hb dX7_fairPrice_5 rfl (lv_at hl 0 rfl) ?_
  refine lv_iload_n hx hb dX7_fairPrice_6 rfl (lv_at hl 1 rfl) ?_
  refine cr_X7_89 C hJ (rest := [.int (f_loss (gof n mm) (nI P))]) (cm_surplus hE hR P (by omega) (rfl)) dX7_fairPrice_7 hl.1 ⟨Nat.le_of_ble_eq_true rfl, Nat.le_of_ble_eq_true rfl⟩ ⟨Nat.le_refl _, Nat.le_refl _⟩ (Nat.le_of_ble_eq_true rfl) rfl rfl ?_
  refine lv_aload_n hx hb dX7_fairPrice_10 rfl (lv_at hl 0 rfl) ?_
  refine g_X7_7 C hJ dX7_fairPrice_11 ?_
  refine lv_iconst (v := 1) hx hb dX7_fairPrice_14 (by decide) ?_
  refine a_ro C hJ (P := 1) (rfl) (by decide) dX7_fairPrice_15 ?_
  refine lv_imul hx hb dX7_fairPrice_16 ?_
  refine lv_bipush (v := 100) hx hb dX7_fairPrice_17 (by decide) ?_
  refine lv_idiv hx hb dX7_fairPrice_19 (by decide) ?_
  refine lv_iadd hx hb dX7_fairPrice_20 ?_
  exact rR_i C hr rfl (by rw [hR.split]) dX7_fairPrice_21
theorem cm_fairPrice {l : Launch} {E : GE} (hE : Env0 E) {S : ST} {n : Nat} {z : Nat → Int32} {mm : Nat → Nat → Int32} (hR : RI S n z mm) (P : Nat) (hP : P + 1 < n) {p0 : Int32} (ep : p0 = nI P) : MR l E yX7_fairPrice cX7_fairPrice 2 (some .int) 3 64 S [.ref (gA E 84), .int p0] (some (.int (f_loss (gof n mm) (nI P) + f_sur (gof n mm) (nI P) * z 3 / 100))) := by subst ep; exact c_X7_fairPrice hE hR P hP
