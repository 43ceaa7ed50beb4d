/-! MODEL: commands of a text (by program) -/
set_option maxHeartbeats 4000000 in
set_option maxRecDepth 100000 in
theorem c_X7_command0 {l : Launch} {E : GE} (hE : Env0 E) {S : ST} {u_n u_p u_k : Nat} {u_b u_g : Nat → Int32} (hT : TM S u_n u_b u_p u_k u_g) (hN : u_n ≤ 150) (hP : u_p ≤ u_n) (hc : t_cmd u_b u_p (t_run leB u_n u_b u_p) = none) : MW l E yX7_command cX7_command 3 (some .int) 3 62 S [.ref (gA E 84)] (fun v S1 => CP S S1 u_n u_b (t_rc u_n u_b u_p u_g) v) := by
  refine MW.of hE (by decide) (Nat.le_of_ble_eq_true rfl) ?_
  intro p e s m below meth c ls C hJ hr hl
  have hx := C.x
  have hb := C.b
  have hl : lv_has ls 3 [(0, .ref (gA E 84))] := hl
  refine lv_aload_n hx hb dX7_command_0 rfl (lv_at hl 0 rfl) ?_
  refine cw_X7_210 C hJ (rest := []) (c_X7_word hE hT hN hP) dX7_command_1 hl.1 ⟨Nat.le_of_ble_eq_true rfl, Nat.le_of_ble_eq_true rfl⟩ ⟨Nat.le_refl _, Nat.le_refl _⟩ (Nat.le_of_ble_eq_true rfl) rfl rfl (fun vr S_1 H locs hP hJ => ?_)
  obtain ⟨u_v1, rfl, ho1, hW⟩ := hP
  obtain ⟨rfl, _, hT1⟩ := hW.resolve_right (fun ⟨_, _, _, y, _⟩ => by rw [hc] at y; cases y)
  refine lv_istore_n (lv' := [(1, .int 0), (0, .ref (gA E 84))]) hx hb dX7_command_4 rfl hl (by decide) rfl (fun ls hl => ?_)
  refine lv_aload_n hx hb dX7_command_5 rfl (lv_at hl 1 rfl) ?_
  refine lv_iconst (v := 0) hx hb dX7_command_6 (by decide) ?_
  refine p_X7_207 C hJ dX7_command_7 (fun H locs hJ => ?_)
  obtain ⟨S_7, hS_7⟩ : ∃ z : ST, z = setM S_1 (mMs (sM S_1) 6 0) := ⟨_, rfl⟩
  rw [← hS_7] at hJ
  have hT7 := hT1.nb (u_q := 0) hS_7 rfl
  have ho7 : RTm S S_7 := by rw [hS_7]; exact ho1.t RTm.nb
  refine lv_iconst (v := 0) hx hb dX7_command_10 (by decide) ?_
  refine lv_istore_n (lv' := [(2, .int 0), (1, .int 0), (0, .ref (gA E 84))]) hx hb dX7_command_11 rfl hl (by decide) rfl (fun ls hl => ?_)
  refine lv_iload_n hx hb dX7_command_12 rfl (lv_at hl 0 rfl) ?_
  refine lv_iload_n hx hb dX7_command_13 rfl (lv_at hl 1 rfl) ?_
  refine cr_X7_213 C hJ (rest := [.int 0]) (c_X7_numbersOf hE (0)) dX7_command_14 hl.1 ⟨Nat.le_of_ble_eq_true rfl, Nat.le_of_ble_eq_true rfl⟩ ⟨Nat.le_refl _, Nat.le_refl _⟩ (Nat.le_of_ble_eq_true rfl) rfl rfl ?_
  refine lv_icmp_ge (tgt := 39) hx hb dX7_command_17 (by decide) (fun c_17 => ?_) (fun c_17 => ?_)
  · skip
    exact absurd c_17 (by decide)
  · skip
    refine lv_iload_n hx hb dX7_command_20 rfl (lv_at hl 1 rfl) ?_
    refine lv_if_le (tgt := 39) hx hb dX7_command_21 (by decide) (fun c_21 => ?_) (fun c_21 => ?_)
    · skip
      refine lv_iload_n hx hb dX7_command_39 rfl (lv_at hl 1 rfl) ?_
      refine lv_if_le (tgt := 68) hx hb dX7_command_40 (by decide) (fun c_40 => ?_) (fun c_40 => ?_)
      · skip
        refine lv_iload_n hx hb dX7_command_68 rfl (lv_at hl 1 rfl) ?_
        exact rW_i C hJ hr rfl (CP.no ho7 (by rw [t_rc_0 hc]) (by rw [t_rc_0 hc]) hT7) dX7_command_69
      · skip
        exact absurd c_40 (by decide)
    · skip
      exact absurd c_21 (by decide)
set_option maxHeartbeats 4000000 in
set_option maxRecDepth 100000 in
theorem c_X7_commandJ {l : Launch} {E : GE} (hE : Env0 E) {S : ST} {u_n u_p u_k : Nat} {u_b u_g : Nat → Int32} (hT : TM S u_n u_b u_p u_k u_g) (hN : u_n ≤ 150) (hP : u_p ≤ u_n) {u_j : Nat} (hj : u_j < 11) (hc : t_cmd u_b u_p (t_run leB u_n u_b u_p) = some u_j) : MW l E yX7_command cX7_command 3 (some .int) 3 62 S [.ref (gA E 84)] (fun v S1 => CP S S1 u_n u_b (t_rc u_n u_b u_p u_g) v) := by
  have hle := hP
  have hq0 := t_run_le (u_q := leB) (u_b := u_b) hP
  have hk3 := (cmdK_nI hj).2
  refine MW.of hE (by decide) (Nat.le_of_ble_eq_true rfl) ?_
  intro p e s m below meth c ls C hJ hr hl
  have hx := C.x
  have hb := C.b
  have hl : lv_has ls 3 [(0, .ref (gA E 84))] := hl
  refine lv_aload_n hx hb dX7_command_0 rfl (lv_at hl 0 rfl) ?_
  refine cw_X7_210 C hJ (rest := []) (c_X7_word hE hT hN hP) dX7_command_1 hl.1 ⟨Nat.le_of_ble_eq_true rfl, Nat.le_of_ble_eq_true rfl⟩ ⟨Nat.le_refl _, Nat.le_refl _⟩ (Nat.le_of_ble_eq_true rfl) rfl rfl (fun vr S_1 H locs hP hJ => ?_)
  obtain ⟨u_v1, rfl, ho1, hW⟩ := hP
  obtain ⟨u_j2, hj2, e2, y2, hT1⟩ := hW.resolve_left (fun y => by rw [hc] at y; cases y.2.1)
  rw [hc] at y2
  obtain rfl := Option.some.inj y2
  subst e2
  refine lv_istore_n (lv' := [(1, .int (nI (u_j + 1))), (0, .ref (gA E 84))]) hx hb dX7_command_4 rfl hl (by decide) rfl (fun ls hl => ?_)
  refine lv_aload_n hx hb dX7_command_5 rfl (lv_at hl 1 rfl) ?_
  refine lv_iconst (v := 0) hx hb dX7_command_6 (by decide) ?_
  refine p_X7_207 C hJ dX7_command_7 (fun H locs hJ => ?_)
  obtain ⟨S_7, hS_7⟩ : ∃ z : ST, z = setM S_1 (mMs (sM S_1) 6 0) := ⟨_, rfl⟩
  rw [← hS_7] at hJ
  have hTs := hT1.nb (u_q := 0) hS_7 rfl
  have hos : RTm S S_7 := by rw [hS_7]; exact ho1.t RTm.nb
  refine lv_iconst (v := 0) hx hb dX7_command_10 (by decide) ?_
  refine lv_istore_n (lv' := [(2, .int 0), (1, .int (nI (u_j + 1))), (0, .ref (gA E 84))]) hx hb dX7_command_11 rfl hl (by decide) rfl (fun ls hl => ?_)
  have lp : ∀ (d : Nat) (i q2 : Nat) (h2 : Nat → Int32) (T : ST) (H : Heap) (locs : List Loc) (ls : Array Slot), (i ≤ cmdC u_j) → (cmdC u_j < i + d) → (q2 ≤ u_n) → (t_nums u_n u_b (cmdC u_j - i) i q2 h2 = t_nums u_n u_b (cmdC u_j) 0 (t_run leB u_n u_b u_p) u_g) → (TM T u_n u_b q2 i h2) → (RTm S T) → JJ E T H locs → lv_has ls 3 [(0, .ref (gA E 84)), (1, .int (nI (u_j + 1))), (2, .int (nI i))] → W p l e (rmZ 3 62) s m ([.ref (gA E 84)] : List Value).toArray below meth c H locs 0 0 (WQ below ([.ref (gA E 84)] : List Value).toArray s E (fun v S1 => CP S S1 u_n u_b (t_rc u_n u_b u_p u_g) v)) (F0 m 12 ls []) := by
    intro d
    induction d with
    | zero =>
      intro i q2 h2 T H locs ls hi hd hq2 hv hT7 ho hJ hl
      omega
    | succ d ih_lp =>
      intro i q2 h2 T H locs ls hi hd hq2 hv hT7 ho hJ hl
      refine lv_iload_n hx hb dX7_command_12 rfl (lv_at hl 2 rfl) ?_
      refine lv_iload_n hx hb dX7_command_13 rfl (lv_at hl 1 rfl) ?_
      refine cr_X7_213 C hJ (rest := [.int (nI i)]) ((show MR l E yX7_numbersOf cX7_numbersOf 1 (some .int) 0 0 T [.int (nI (u_j + 1))] (some (.int (nI (cmdC u_j)))) by rw [← nof_c u_j hj]; exact c_X7_numbersOf hE _)) dX7_command_14 hl.1 ⟨Nat.le_of_ble_eq_true rfl, Nat.le_of_ble_eq_true rfl⟩ ⟨Nat.le_refl _, Nat.le_refl _⟩ (Nat.le_of_ble_eq_true rfl) rfl rfl ?_
      refine lv_icmp_ge (tgt := 39) hx hb dX7_command_17 (by decide) (fun c_17 => ?_) (fun c_17 => ?_)
      · skip
        have e9 : i = cmdC u_j := eqOfLe hi (by omega) c_17
        have hv9 : t_nums u_n u_b (cmdC u_j) 0 (t_run leB u_n u_b u_p) u_g = (true, q2, h2) := by rw [← hv, e9, Nat.sub_self]; rfl
        refine lv_iload_n hx hb dX7_command_39 rfl (lv_at hl 1 rfl) ?_
        refine lv_if_le (tgt := 68) hx hb dX7_command_40 (by decide) (fun c_40 => ?_) (fun c_40 => ?_)
        · skip
          exact absurd c_40 (nI_nle (Nat.succ_pos u_j) (by omega))
        · skip
          refine lv_aload_n hx hb dX7_command_43 rfl (lv_at hl 0 rfl) ?_
          refine cw_X7_204 C hJ (rest := []) (c_X7_passSpaces hE hT7 hN hq2) dX7_command_44 hl.1 ⟨Nat.le_of_ble_eq_true rfl, Nat.le_of_ble_eq_true rfl⟩ ⟨Nat.le_refl _, Nat.le_refl _⟩ (Nat.le_of_ble_eq_true rfl) rfl rfl (fun vr S_44 H locs hP hJ => ?_)
          obtain ⟨rfl, hT44, ho44a⟩ := hP
          have ho44 := ho.t ho44a
          have hq44 := t_run_le (u_q := spB) (u_b := u_b) hq2
          refine lv_aload_n hx hb dX7_command_47 rfl (lv_at hl 0 rfl) ?_
          refine cr_X7_173 C hJ (rest := []) (c_X7_here hE hT44 hN (hq44.2)) dX7_command_48 hl.1 ⟨Nat.le_of_ble_eq_true rfl, Nat.le_of_ble_eq_true rfl⟩ ⟨Nat.le_refl _, Nat.le_refl _⟩ (Nat.le_of_ble_eq_true rfl) rfl rfl ?_
          refine lv_bipush (v := 59) hx hb dX7_command_51 (by decide) ?_
          refine lv_icmp_eq (tgt := 58) hx hb dX7_command_53 (by decide) (fun c_53 => ?_) (fun c_53 => ?_)
          · skip
            have hr9 : (t_rc u_n u_b u_p u_g) = (true, u_j, t_run spB u_n u_b q2 + 1, h2) := by rw [t_rc_2 hc hv9, if_pos c_53]
            refine lv_aload_n hx hb dX7_command_58 rfl (lv_at hl 0 rfl) ?_
            refine lv_dup hx hb dX7_command_59 rfl ?_
            refine g_X7_170 C hJ dX7_command_60 ?_
            refine lv_iconst (v := 1) hx hb dX7_command_63 (by decide) ?_
            refine lv_iadd hx hb dX7_command_64 ?_
            refine p_X7_170 C hJ dX7_command_65 (fun H locs hJ => ?_)
            obtain ⟨S_65, hS_65⟩ : ∃ z : ST, z = setM S_44 (mMs (sM S_44) 5 (((sM S_44).1 5) + 1)) := ⟨_, rfl⟩
            rw [← hS_65] at hJ
            have hT65 : TM S_65 u_n u_b (t_run spB u_n u_b q2 + 1) i h2 := by rw [hS_65]; exact hT44.at (by rw [hT44.2.1, nI_1])
            have ho65 : RTm S S_65 := by rw [hS_65]; exact ho44.t RTm.sc
            refine lv_iload_n hx hb dX7_command_68 rfl (lv_at hl 1 rfl) ?_
            exact rW_i C hJ hr rfl (⟨ho65, _, rfl, Or.inl ⟨by rw [hr9], by rw [hr9], i, by rw [hr9]; exact hT65⟩⟩) dX7_command_69
          · skip
            have hr9 : (t_rc u_n u_b u_p u_g) = (false, u_j, t_run spB u_n u_b q2, h2) := by rw [t_rc_2 hc hv9, if_neg c_53]
            refine lv_iconst (v := 0) hx hb dX7_command_56 (by decide) ?_
            exact rW_i C hJ hr rfl (CP.no ho44 (by rw [hr9]) (by rw [hr9]) hT44) dX7_command_57
      · skip
        have hlt : i < cmdC u_j := ltOfNle (by omega) c_17
        refine lv_iload_n hx hb dX7_command_20 rfl (lv_at hl 1 rfl) ?_
        refine lv_if_le (tgt := 39) hx hb dX7_command_21 (by decide) (fun c_21 => ?_) (fun c_21 => ?_)
        · skip
          exact absurd c_21 (nI_nle (Nat.succ_pos u_j) (by omega))
        · skip
          refine lv_aload_n hx hb dX7_command_24 rfl (lv_at hl 0 rfl) ?_
          refine cw_X7_216 C hJ (rest := []) (c_X7_isNumber hE hT7 hN hq2 (by omega)) dX7_command_25 hl.1 ⟨Nat.le_of_ble_eq_true rfl, Nat.le_of_ble_eq_true rfl⟩ ⟨Nat.le_refl _, Nat.le_refl _⟩ (Nat.le_of_ble_eq_true rfl) rfl rfl (fun vr S_25 H locs hP hJ => ?_)
          obtain ⟨u_v, rfl, ho25a, hN25⟩ := hP
          have ho25 := ho.t ho25a
          have hq25 := t_num_le (u_b := u_b) hq2
          refine lv_if_ne (tgt := 33) hx hb dX7_command_28 (by decide) (fun c_28 => ?_) (fun c_28 => ?_)
          · skip
            obtain ⟨_, hok, hnd, hT25⟩ := hN25.resolve_right (fun y => c_28 y.1)
            have hv2 : t_nums u_n u_b (cmdC u_j - (i + 1)) (i + 1) (t_num u_n u_b q2).2.2 (upd h2 i (t_num u_n u_b q2).2.1) = t_nums u_n u_b (cmdC u_j) 0 (t_run leB u_n u_b u_p) u_g := by rw [← hv, show cmdC u_j - i = (cmdC u_j - (i + 1)) + 1 by omega]; exact (if_pos hok).symm
            refine lv_iinc (v := nI (i + 1)) (lv' := [(2, .int (nI (i + 1))), (0, .ref (gA E 84)), (1, .int (nI (u_j + 1)))]) hx hb dX7_command_33 hl (k := 2) rfl (by exact nI_1 i) (by decide) rfl (fun ls hl => ?_)
            refine lv_goto (tgt := 12) hx hb dX7_command_36 (by decide) ?_
            exact ih_lp (i + 1) _ _ S_25 H locs _ (by omega) (by omega) hq25.2 hv2 hT25 ho25 hJ (lv_sub hl [1, 2, 0] rfl)
          · skip
            obtain ⟨_, hbad, k7, g7, hT25⟩ := hN25.resolve_left (fun y => by rw [c_28] at y; exact absurd y.1 (by decide))
            have hrb := rc_bad hc hlt hv hbad
            refine lv_iconst (v := 0) hx hb dX7_command_31 (by decide) ?_
            exact rW_i C hJ hr rfl (CP.no ho25 hrb.1 hrb.2 hT25) dX7_command_32
  exact lp (cmdC u_j + 1) 0 (t_run leB u_n u_b u_p) u_g S_7 H locs _ (Nat.zero_le _) (by omega) hq0.2 rfl hTs hos hJ (lv_sub hl [2, 1, 0] rfl)
theorem c_X7_command {l : Launch} {E : GE} (hE : Env0 E) {S : ST} {u_n u_p u_k : Nat} {u_b u_g : Nat → Int32} (hT : TM S u_n u_b u_p u_k u_g) (hN : u_n ≤ 150) (hP : u_p ≤ u_n) : MW l E yX7_command cX7_command 3 (some .int) 3 62 S [.ref (gA E 84)] (fun v S1 => CP S S1 u_n u_b (t_rc u_n u_b u_p u_g) v) := by
  cases hc : t_cmd u_b u_p (t_run leB u_n u_b u_p) with
  | none => exact (c_X7_command0 hE hT hN hP hc)
  | some u_j => exact (c_X7_commandJ hE hT hN hP (t_cmd_lt hc) hc)
theorem flt_no {u_n u_q : Nat} {u_b : Nat → Int32} (h : ¬ t_run spB u_n u_b u_q < u_n) (d : Nat) (u_g : Nat → Int32) : t_flt u_n u_b d u_q u_g = -1 := by
  cases d with
  | zero => rfl
  | succ d => exact if_neg h
theorem nI_s0 {u_k : Nat} (h : u_k < 11) : ¬ nI (u_k + 1) = 0 := fun q => absurd (nI_lt (a := 0) (b := u_k + 1) (Nat.succ_pos _) (by omega)) (by rw [q]; decide)
set_option maxHeartbeats 4000000 in
set_option maxRecDepth 100000 in
theorem c_X7_fault {l : Launch} {E : GE} (hE : Env0 E) {S : ST} {u_n u_p u_k : Nat} {u_b u_g : Nat → Int32} (hT : TM S u_n u_b u_p u_k u_g) (hN : u_n ≤ 150) (u_x0 : Nat → Int32) : MW l E yX7_fault cX7_fault 1 (some .int) 4 84 S [.ref (gA E 84)] (fun v S1 => v = some (.int (t_flt u_n u_b 150 0 u_x0)) ∧ RTm S S1 ∧ ∃ q7 k7 g7, TM S1 u_n u_b q7 k7 g7) := by
  refine MW.of hE (by decide) (Nat.le_of_ble_eq_true rfl) ?_
  intro p e s m below meth c ls C hJ hr hl
  have hx := C.x
  have hb := C.b
  have hl : lv_has ls 1 [(0, .ref (gA E 84))] := hl
  refine lv_aload_n hx hb dX7_fault_0 rfl (lv_at hl 0 rfl) ?_
  refine lv_iconst (v := 0) hx hb dX7_fault_1 (by decide) ?_
  refine p_X7_170 C hJ dX7_fault_2 (fun H locs hJ => ?_)
  obtain ⟨S_2, hS_2⟩ : ∃ z : ST, z = setM S (mMs (sM S) 5 0) := ⟨_, rfl⟩
  rw [← hS_2] at hJ
  have hT2 : TM S_2 u_n u_b 0 u_k u_g := by rw [hS_2]; exact hT.at rfl
  have ho2 : RTm S S_2 := by rw [hS_2]; exact RTm.sc
  refine lv_aload_n hx hb dX7_fault_5 rfl (lv_at hl 0 rfl) ?_
  refine cw_X7_204 C hJ (rest := []) (c_X7_passSpaces hE hT2 hN (Nat.zero_le _)) dX7_fault_6 hl.1 ⟨Nat.le_of_ble_eq_true rfl, Nat.le_of_ble_eq_true rfl⟩ ⟨Nat.le_refl _, Nat.le_refl _⟩ (Nat.le_of_ble_eq_true rfl) rfl rfl (fun vr S_6 H locs hP hJ => ?_)
  obtain ⟨rfl, hT6, ho6a⟩ := hP
  have ho6 := ho2.t ho6a
  have lp : ∀ (d : Nat) (i q2 k2 : Nat) (h2 : Nat → Int32) (T : ST) (H : Heap) (locs : List Loc) (ls : Array Slot), (i ≤ q2) → (q2 ≤ u_n) → (u_n < q2 + d) → (t_flt u_n u_b (150 - i) q2 h2 = t_flt u_n u_b 150 0 u_x0) → (TM T u_n u_b (t_run spB u_n u_b q2) k2 h2) → (RTm S T) → JJ E T H locs → lv_has ls 1 [(0, .ref (gA E 84))] → W p l e (rmZ 4 84) s m ([.ref (gA E 84)] : List Value).toArray below meth c H locs 0 0 (WQ below ([.ref (gA E 84)] : List Value).toArray s E (fun v S1 => v = some (.int (t_flt u_n u_b 150 0 u_x0)) ∧ RTm S S1 ∧ ∃ q7 k7 g7, TM S1 u_n u_b q7 k7 g7)) (F0 m 9 ls []) := by
    intro d
    induction d with
    | zero =>
      intro i q2 k2 h2 T H locs ls hi hq2 hd hv hT7 ho hJ hl
      omega
    | succ d ih_lp =>
      intro i q2 k2 h2 T H locs ls hi hq2 hd hv hT7 ho hJ hl
      have hqs := t_run_le (u_q := spB) (u_b := u_b) hq2
      refine lv_aload_n hx hb dX7_fault_9 rfl (lv_at hl 0 rfl) ?_
      refine g_X7_170 C hJ dX7_fault_10 ?_
      refine lv_aload_n hx hb dX7_fault_13 rfl (lv_at hl 0 rfl) ?_
      refine g_X7_152 C hJ dX7_fault_14 ?_
      refine lv_icmp_ge (tgt := 39) hx hb dX7_fault_17 (by decide) (fun c_17 => ?_) (fun c_17 => ?_)
      · skip
        have hge : u_n ≤ (t_run spB u_n u_b q2) := by rw [hT7.1, hT7.2.1] at c_17; exact (nI_leI (by omega) (by omega)).mp c_17
        have hfin : t_flt u_n u_b 150 0 u_x0 = -1 := by rw [← hv]; exact flt_no (by omega) _ _
        refine lv_iconst (v := (-1)) hx hb dX7_fault_39 (by decide) ?_
        exact rW_i C hJ hr rfl (⟨by rw [hfin], ho, _, _, _, hT7⟩) dX7_fault_40
      · skip
        have hlt : (t_run spB u_n u_b q2) < u_n := by
          rcases Nat.lt_or_ge (t_run spB u_n u_b q2) u_n with q | q
          · exact q
          · exact absurd (by rw [hT7.1, hT7.2.1]; exact nI_le q (by omega)) c_17
        have hu := flt_u (u_n := u_n) (u_b := u_b) (i := i) (u_q := q2) (u_h := h2) (by omega)
        rw [if_pos hlt] at hu
        refine lv_aload_n hx hb dX7_fault_20 rfl (lv_at hl 0 rfl) ?_
        refine cw_X7_220 C hJ (rest := []) (c_X7_command hE hT7 hN hqs.2) dX7_fault_21 hl.1 ⟨Nat.le_of_ble_eq_true rfl, Nat.le_of_ble_eq_true rfl⟩ ⟨Nat.le_refl _, Nat.le_refl _⟩ (Nat.le_of_ble_eq_true rfl) rfl rfl (fun vr S_21 H locs hP hJ => ?_)
        obtain ⟨ho21a, u_v, rfl, hC⟩ := hP
        have ho21 := ho.t ho21a
        have hle21 := t_rc_le (u_b := u_b) (u_g := h2) hqs.2
        refine lv_if_ne (tgt := 32) hx hb dX7_fault_24 (by decide) (fun c_24 => ?_) (fun c_24 => ?_)
        · skip
          obtain ⟨hok, ev, k7, hT21⟩ := hC.resolve_right (fun y => c_24 y.2.1)
          have hgt := hle21.2 hok
          have hv2 : t_flt u_n u_b (150 - (i + 1)) (t_rc u_n u_b (t_run spB u_n u_b q2) h2).2.2.1 (t_rc u_n u_b (t_run spB u_n u_b q2) h2).2.2.2 = t_flt u_n u_b 150 0 u_x0 := by rw [← hv, hu, if_pos hok]
          refine lv_aload_n hx hb dX7_fault_32 rfl (lv_at hl 0 rfl) ?_
          refine cw_X7_204 C hJ (rest := []) (c_X7_passSpaces hE hT21 hN (hle21.1)) dX7_fault_33 hl.1 ⟨Nat.le_of_ble_eq_true rfl, Nat.le_of_ble_eq_true rfl⟩ ⟨Nat.le_refl _, Nat.le_refl _⟩ (Nat.le_of_ble_eq_true rfl) rfl rfl (fun vr S_33 H locs hP hJ => ?_)
          obtain ⟨rfl, hT33, ho33a⟩ := hP
          have ho33 := ho21.t ho33a
          refine lv_goto (tgt := 9) hx hb dX7_fault_36 (by decide) ?_
          exact ih_lp (i + 1) _ _ _ S_33 H locs _ (by omega) hle21.1 (by omega) hv2 hT33 ho33 hJ (lv_sub hl [0] rfl)
        · skip
          have hbad := hC.resolve_left (fun y => by rw [c_24] at y; exact nI_s0 (hle21.2 y.1).2 y.2.1.symm)
          obtain ⟨hno, _, k7, g7, hT21⟩ := hbad
          have hfin : t_flt u_n u_b 150 0 u_x0 = nI (t_rc u_n u_b (t_run spB u_n u_b q2) h2).2.2.1 := by rw [← hv, hu, if_neg (by rw [hno]; decide)]
          refine lv_aload_n hx hb dX7_fault_27 rfl (lv_at hl 0 rfl) ?_
          refine g_X7_170 C hJ dX7_fault_28 ?_
          exact rW_i C hJ hr rfl (⟨by rw [hfin, hT21.2.1], ho21, _, _, _, hT21⟩) dX7_fault_31
  exact lp (u_n + 1) 0 0 _ _ S_6 H locs _ (Nat.le_refl _) (Nat.zero_le _) (by omega) (t_flt_g u_n u_b 150 0 _ _) hT6 ho6 hJ (lv_sub hl [0] rfl)
