/-! PUBLIC CALLS of the queue that may throw (by program) -/
set_option maxHeartbeats 4000000 in
set_option maxRecDepth 100000 in
theorem c_X2_append {l : Launch} {E : GE} (hE : Env0 E) {S : ST} {u_n u_p : Nat} {u_b u_g : Nat → Int32} {u_f : Int32} {u_c : Option Nat} (hT : TX S u_n u_b u_p u_f u_c u_g) (hN : u_n < 150) (w : Nat) (hw : w < 128) : MW l E yX2_append cX2_append 2 (none : Option Jvm.ClassFile.FieldType) 0 0 S [.ref (gA E 80), .int (nI w)] (fun v S1 => v = none ∧ TX S1 (u_n + 1) (upd u_b u_n (nI w)) u_p u_f u_c u_g ∧ RT S S1) := by
  refine MW.of hE (by decide) (Nat.le_of_ble_eq_true rfl) ?_
  intro p e s m below meth c ls C hJ hr hl
  have hx := C.x
  have hb := C.b
  have hl : lv_has ls 2 [(0, .ref (gA E 80)), (1, .int (nI w))] := hl
  refine lv_aload_n hx hb dX2_append_0 rfl (lv_at hl 0 rfl) ?_
  refine g_X2_23 C hJ dX2_append_1 ?_
  refine lv_if_lt (tgt := 40) hx hb dX2_append_4 (by decide) (fun c_4 => ?_) (fun c_4 => ?_)
  · skip
    exact absurd (by rw [hT.1] at c_4; exact c_4) (nI_pos (by omega))
  · skip
    refine lv_aload_n hx hb dX2_append_7 rfl (lv_at hl 0 rfl) ?_
    refine g_X2_23 C hJ dX2_append_8 ?_
    refine lv_aload_n hx hb dX2_append_11 rfl (lv_at hl 0 rfl) ?_
    refine g_X2_9 C hJ dX2_append_12 ?_
    refine al_by C hJ dX2_append_15 ?_
    refine lv_icmp_ge (tgt := 40) hx hb dX2_append_16 (by decide) (fun c_16 => ?_) (fun c_16 => ?_)
    · skip
      exact absurd (nI_lt (b := 150) hN (by decide)) (Int32.not_lt.mpr (by rw [hT.1] at c_16; exact c_16))
    · skip
      refine lv_aload_n hx hb dX2_append_19 rfl (lv_at hl 0 rfl) ?_
      refine g_X2_9 C hJ dX2_append_20 ?_
      refine lv_aload_n hx hb dX2_append_23 rfl (lv_at hl 0 rfl) ?_
      refine g_X2_23 C hJ dX2_append_24 ?_
      refine lv_iload_n hx hb dX2_append_27 rfl (lv_at hl 1 rfl) ?_
      refine lv_i2b (v := (nI w).toInt8.toInt32) hx hb dX2_append_28 rfl ?_
      refine t_by C hJ (P := u_n) (hT.1) (hN) dX2_append_29 (fun H locs hJ => ?_)
      obtain ⟨S_29, hS_29⟩ : ∃ z : ST, z = setTb S u_n (vp_nar .byte ((nI w).toInt8.toInt32)) := ⟨_, rfl⟩
      rw [← hS_29] at hJ
      have hT1 : TX S_29 u_n (upd u_b u_n (nI w)) u_p u_f u_c u_g := by rw [hS_29]; exact hT.byt u_n (by7 hw)
      have hR1 : RT S S_29 := by rw [hS_29]; exact ⟨rfl, rfl, rfl⟩
      refine lv_aload_n hx hb dX2_append_30 rfl (lv_at hl 0 rfl) ?_
      refine lv_dup hx hb dX2_append_31 rfl ?_
      refine g_X2_23 C hJ dX2_append_32 ?_
      refine lv_iconst (v := 1) hx hb dX2_append_35 (by decide) ?_
      refine lv_iadd hx hb dX2_append_36 ?_
      refine p_X2_23 C hJ dX2_append_37 (fun H locs hJ => ?_)
      obtain ⟨S_37, hS_37⟩ : ∃ z : ST, z = setTs S_29 1 (((sT S_29).1 1) + 1) := ⟨_, rfl⟩
      rw [← hS_37] at hJ
      have hT2 : TX S_37 (u_n + 1) (upd u_b u_n (nI w)) u_p u_f u_c u_g := by rw [hS_37]; exact hT1.len (by rw [hT1.1, nI_1])
      have hR2 : RT S S_37 := by rw [hS_37]; exact hR1.t RT.pos
      exact rW_v C hJ hr (⟨rfl, hT2, hR2⟩) dX2_append_40
set_option maxHeartbeats 4000000 in
set_option maxRecDepth 100000 in
theorem c_X6_perform {l : Launch} {E : GE} (hE : Env0 E) {S : ST} {X : EX} (hX : Env1 E X) {u_x : Nat × Nat × Nat} (hX2 : Env2 l E u_x) {n : Nat} {z : Nat → Int32} {mm : Nat → Nat → Int32} {mc : Nat} {sv : Nat → LVt} (hXI : XI S (n, z, mm) mc sv) {u_j : Nat} (hj : u_j < 11) (p0 p1 p2 : Int32) (fu : Nat) (hfu : fu = 1000) : MX l E yX6_perform cX6_perform 5 (some .int) 7 115 1 6 S [.ref (gA E 83), .ref (gN E u_j), .int p0, .int p1, .int p2] (fun v S1 => f_ft (gof n mm) n u_j p0 p1 p2 = 0 ∧ v = some (.int ((f_co fu n z mm u_j p0 p1 p2).1)) ∧ XI S1 (f_co fu n z mm u_j p0 p1 p2).2 (f_push (n, z, mm) mc sv).1 (f_push (n, z, mm) mc sv).2 ∧ S1.2.2 = S.2.2) (fun x => exO (f_ft (gof n mm) n u_j p0 p1 p2) = some x) := by
  have h : LnIs (sL S) 0 n z mm := hXI.1
  refine MX.of hE (by decide) (Nat.le_of_ble_eq_true rfl) ?_
  intro p e s m below meth c ls C hexc hJ hr hl
  have hx := C.x
  have hb := C.b
  have hl : lv_has ls 5 [(0, .ref (gA E 83)), (1, .ref (gN E u_j)), (2, .int p0), (3, .int p1), (4, .int p2)] := hl
  refine lv_aload_n hx hb dX6_perform_0 rfl (lv_at hl 0 rfl) ?_
  refine lv_aload_n hx hb dX6_perform_1 rfl (lv_at hl 1 rfl) ?_
  refine lv_iload_n hx hb dX6_perform_2 rfl (lv_at hl 2 rfl) ?_
  refine lv_iload_n hx hb dX6_perform_3 rfl (lv_at hl 3 rfl) ?_
  refine lv_iload hx hb dX6_perform_4 (lv_at hl 4 rfl) ?_
  refine cr_X6_198 C hJ (rest := []) (c_X6_faultOf hE hX h hj p0 p1 p2) dX6_perform_6 hl.1 ⟨Nat.le_of_ble_eq_true rfl, Nat.le_of_ble_eq_true rfl⟩ ⟨by decide, by decide⟩ (Nat.le_of_ble_eq_true rfl) rfl rfl ?_
  refine k_X C hexc hJ (rest := []) (x_59 C hJ (rest := []) (c_X6_refuse hE hX2 (f_ft (gof n mm) n u_j p0 p1 p2)) dX6_perform_9 hl.1 ⟨Nat.le_of_ble_eq_true rfl, Nat.le_of_ble_eq_true rfl⟩ ⟨by decide, by decide⟩ (Nat.le_of_ble_eq_true rfl) rfl rfl) (fun _ q => q) ⟨by decide, by decide⟩ (fun vr S_9 H locs hP hJ => ?_)
  obtain ⟨rfl, eS, hex_9⟩ := hP
  rw [eS] at hJ
  have hf_9 := fl4_exO (fl4_ft _ _ _ _ _ _) hex_9
  refine lv_aload_n hx hb dX6_perform_12 rfl (lv_at hl 0 rfl) ?_
  refine g_X6_22 C hJ dX6_perform_13 ?_
  refine lv_aload_n hx hb dX6_perform_16 rfl (lv_at hl 0 rfl) ?_
  refine g_X6_10 C hJ dX6_perform_17 ?_
  refine cw_X6_63 C hJ (rest := []) (c_X3_push hE hXI) dX6_perform_20 hl.1 ⟨Nat.le_of_ble_eq_true rfl, Nat.le_of_ble_eq_true rfl⟩ ⟨by decide, by decide⟩ (Nat.le_of_ble_eq_true rfl) rfl rfl (fun vr S_20 H locs hP hJ => ?_)
  obtain ⟨rfl, hX20, hR20⟩ := hP
  refine lv_aload_n hx hb dX6_perform_23 rfl (lv_at hl 0 rfl) ?_
  refine lv_aload_n hx hb dX6_perform_24 rfl (lv_at hl 1 rfl) ?_
  refine lv_iload_n hx hb dX6_perform_25 rfl (lv_at hl 2 rfl) ?_
  refine lv_iload_n hx hb dX6_perform_26 rfl (lv_at hl 3 rfl) ?_
  refine lv_iload hx hb dX6_perform_27 (lv_at hl 4 rfl) ?_
  refine cw_X6_201 C hJ (rest := []) (c_X6_carryOut hE hX hX20.1 hj p0 p1 p2 hf_9 fu hfu) dX6_perform_29 hl.1 ⟨Nat.le_of_ble_eq_true rfl, Nat.le_of_ble_eq_true rfl⟩ ⟨by decide, by decide⟩ (Nat.le_of_ble_eq_true rfl) rfl rfl (fun vr S_29 H locs hP hJ => ?_)
  obtain ⟨rfl, hU⟩ := hP
  exact rX_i C hJ hr rfl (⟨hf_9, rfl, hX20.up hU, (congrArg (fun q => q.2) hU.1).trans hR20⟩) dX6_perform_32 ⟨by decide, by decide⟩
set_option maxHeartbeats 4000000 in
set_option maxRecDepth 100000 in
theorem c_X6_join {l : Launch} {E : GE} (hE : Env0 E) {S : ST} {X : EX} (hX : Env1 E X) {u_x : Nat × Nat × Nat} (hX2 : Env2 l E u_x) {n : Nat} {z : Nat → Int32} {mm : Nat → Nat → Int32} {mc : Nat} {sv : Nat → LVt} (hXI : XI S (n, z, mm) mc sv) (p0 p1 : Int32) (fu : Nat) (hfu : fu = 1000) : MX l E yX6_join cX6_join 3 (some .int) 8 139 1 6 S [.ref (gA E 83), .int p0, .int p1] (fun v S1 => f_ft (gof n mm) n 0 p0 p1 0 = 0 ∧ v = some (.int ((f_co fu n z mm 0 p0 p1 0).1)) ∧ XI S1 (f_co fu n z mm 0 p0 p1 0).2 (f_push (n, z, mm) mc sv).1 (f_push (n, z, mm) mc sv).2 ∧ S1.2.2 = S.2.2) (fun x => exO (f_ft (gof n mm) n 0 p0 p1 0) = some x) := by
  have h : LnIs (sL S) 0 n z mm := hXI.1
  refine MX.of hE (by decide) (Nat.le_of_ble_eq_true rfl) ?_
  intro p e s m below meth c ls C hexc hJ hr hl
  have hx := C.x
  have hb := C.b
  have hl : lv_has ls 3 [(0, .ref (gA E 83)), (1, .int p0), (2, .int p1)] := hl
  refine lv_aload_n hx hb dX6_join_0 rfl (lv_at hl 0 rfl) ?_
  refine i_Z C hJ (hX.1.1 0 (by decide)).1 kf_X6_33 rfl dX6_join_1 ?_
  refine lv_iload_n hx hb dX6_join_4 rfl (lv_at hl 1 rfl) ?_
  refine lv_iload_n hx hb dX6_join_5 rfl (lv_at hl 2 rfl) ?_
  refine lv_iconst (v := 0) hx hb dX6_join_6 (by decide) ?_
  refine k_X C hexc hJ (rest := []) (x_39 C hJ (rest := []) (c_X6_perform hE hX hX2 hXI (u_j := 0) (by decide) p0 p1 0 fu hfu) dX6_join_7 hl.1 ⟨Nat.le_of_ble_eq_true rfl, Nat.le_of_ble_eq_true rfl⟩ ⟨by decide, by decide⟩ (Nat.le_of_ble_eq_true rfl) rfl rfl) (fun _ q => q) ⟨by decide, by decide⟩ (fun vr S_7 H locs hP hJ => ?_)
  obtain ⟨hf0, rfl, hX9, hR9⟩ := hP
  exact rX_i C hJ hr rfl (⟨hf0, rfl, hX9, hR9⟩) dX6_join_10 ⟨by decide, by decide⟩
set_option maxHeartbeats 4000000 in
set_option maxRecDepth 100000 in
theorem c_X6_joinAt {l : Launch} {E : GE} (hE : Env0 E) {S : ST} {X : EX} (hX : Env1 E X) {u_x : Nat × Nat × Nat} (hX2 : Env2 l E u_x) {n : Nat} {z : Nat → Int32} {mm : Nat → Nat → Int32} {mc : Nat} {sv : Nat → LVt} (hXI : XI S (n, z, mm) mc sv) (p0 p1 p2 : Int32) (fu : Nat) (hfu : fu = 1000) : MX l E yX6_joinAt cX6_joinAt 4 (some .int) 8 139 1 6 S [.ref (gA E 83), .int p0, .int p1, .int p2] (fun v S1 => f_ft (gof n mm) n 1 p0 p1 p2 = 0 ∧ v = some (.int ((f_co fu n z mm 1 p0 p1 p2).1)) ∧ XI S1 (f_co fu n z mm 1 p0 p1 p2).2 (f_push (n, z, mm) mc sv).1 (f_push (n, z, mm) mc sv).2 ∧ S1.2.2 = S.2.2) (fun x => exO (f_ft (gof n mm) n 1 p0 p1 p2) = some x) := by
  have h : LnIs (sL S) 0 n z mm := hXI.1
  refine MX.of hE (by decide) (Nat.le_of_ble_eq_true rfl) ?_
  intro p e s m below meth c ls C hexc hJ hr hl
  have hx := C.x
  have hb := C.b
  have hl : lv_has ls 4 [(0, .ref (gA E 83)), (1, .int p0), (2, .int p1), (3, .int p2)] := hl
  refine lv_aload_n hx hb dX6_joinAt_0 rfl (lv_at hl 0 rfl) ?_
  refine i_Z C hJ (hX.1.1 1 (by decide)).1 kf_X6_43 rfl dX6_joinAt_1 ?_
  refine lv_iload_n hx hb dX6_joinAt_4 rfl (lv_at hl 1 rfl) ?_
  refine lv_iload_n hx hb dX6_joinAt_5 rfl (lv_at hl 2 rfl) ?_
  refine lv_iload_n hx hb dX6_joinAt_6 rfl (lv_at hl 3 rfl) ?_
  refine k_X C hexc hJ (rest := []) (x_39 C hJ (rest := []) (c_X6_perform hE hX hX2 hXI (u_j := 1) (by decide) p0 p1 p2 fu hfu) dX6_joinAt_7 hl.1 ⟨Nat.le_of_ble_eq_true rfl, Nat.le_of_ble_eq_true rfl⟩ ⟨by decide, by decide⟩ (Nat.le_of_ble_eq_true rfl) rfl rfl) (fun _ q => q) ⟨by decide, by decide⟩ (fun vr S_7 H locs hP hJ => ?_)
  obtain ⟨hf0, rfl, hX9, hR9⟩ := hP
  exact rX_i C hJ hr rfl (⟨hf0, rfl, hX9, hR9⟩) dX6_joinAt_10 ⟨by decide, by decide⟩
set_option maxHeartbeats 4000000 in
set_option maxRecDepth 100000 in
theorem c_X6_leave {l : Launch} {E : GE} (hE : Env0 E) {S : ST} {X : EX} (hX : Env1 E X) {u_x : Nat × Nat × Nat} (hX2 : Env2 l E u_x) {n : Nat} {z : Nat → Int32} {mm : Nat → Nat → Int32} {mc : Nat} {sv : Nat → LVt} (hXI : XI S (n, z, mm) mc sv) (p0 : Int32) (fu : Nat) (hfu : fu = 1000) : MX l E yX6_leave cX6_leave 2 (some .int) 8 139 1 6 S [.ref (gA E 83), .int p0] (fun v S1 => f_ft (gof n mm) n 2 p0 0 0 = 0 ∧ v = some (.int ((f_co fu n z mm 2 p0 0 0).1)) ∧ XI S1 (f_co fu n z mm 2 p0 0 0).2 (f_push (n, z, mm) mc sv).1 (f_push (n, z, mm) mc sv).2 ∧ S1.2.2 = S.2.2) (fun x => exO (f_ft (gof n mm) n 2 p0 0 0) = some x) := by
  have h : LnIs (sL S) 0 n z mm := hXI.1
  refine MX.of hE (by decide) (Nat.le_of_ble_eq_true rfl) ?_
  intro p e s m below meth c ls C hexc hJ hr hl
  have hx := C.x
  have hb := C.b
  have hl : lv_has ls 2 [(0, .ref (gA E 83)), (1, .int p0)] := hl
  refine lv_aload_n hx hb dX6_leave_0 rfl (lv_at hl 0 rfl) ?_
  refine i_Z C hJ (hX.1.1 2 (by decide)).1 kf_X6_46 rfl dX6_leave_1 ?_
  refine lv_iload_n hx hb dX6_leave_4 rfl (lv_at hl 1 rfl) ?_
  refine lv_iconst (v := 0) hx hb dX6_leave_5 (by decide) ?_
  refine lv_iconst (v := 0) hx hb dX6_leave_6 (by decide) ?_
  refine k_X C hexc hJ (rest := []) (x_39 C hJ (rest := []) (c_X6_perform hE hX hX2 hXI (u_j := 2) (by decide) p0 0 0 fu hfu) dX6_leave_7 hl.1 ⟨Nat.le_of_ble_eq_true rfl, Nat.le_of_ble_eq_true rfl⟩ ⟨by decide, by decide⟩ (Nat.le_of_ble_eq_true rfl) rfl rfl) (fun _ q => q) ⟨by decide, by decide⟩ (fun vr S_7 H locs hP hJ => ?_)
  obtain ⟨hf0, rfl, hX9, hR9⟩ := hP
  exact rX_i C hJ hr rfl (⟨hf0, rfl, hX9, hR9⟩) dX6_leave_10 ⟨by decide, by decide⟩
set_option maxHeartbeats 4000000 in
set_option maxRecDepth 100000 in
theorem c_X6_serve {l : Launch} {E : GE} (hE : Env0 E) {S : ST} {X : EX} (hX : Env1 E X) {u_x : Nat × Nat × Nat} (hX2 : Env2 l E u_x) {n : Nat} {z : Nat → Int32} {mm : Nat → Nat → Int32} {mc : Nat} {sv : Nat → LVt} (hXI : XI S (n, z, mm) mc sv) (fu : Nat) (hfu : fu = 1000) : MX l E yX6_serve cX6_serve 1 (some .int) 8 139 1 6 S [.ref (gA E 83)] (fun v S1 => f_ft (gof n mm) n 9 0 0 0 = 0 ∧ v = some (.int ((f_co fu n z mm 9 0 0 0).1)) ∧ XI S1 (f_co fu n z mm 9 0 0 0).2 (f_push (n, z, mm) mc sv).1 (f_push (n, z, mm) mc sv).2 ∧ S1.2.2 = S.2.2) (fun x => exO (f_ft (gof n mm) n 9 0 0 0) = some x) := by
  have h : LnIs (sL S) 0 n z mm := hXI.1
  refine MX.of hE (by decide) (Nat.le_of_ble_eq_true rfl) ?_
  intro p e s m below meth c ls C hexc hJ hr hl
  have hx := C.x
  have hb := C.b
  have hl : lv_has ls 1 [(0, .ref (gA E 83))] := hl
  refine lv_aload_n hx hb dX6_serve_0 rfl (lv_at hl 0 rfl) ?_
  refine i_Z C hJ (hX.1.1 9 (by decide)).1 kf_X6_49 rfl dX6_serve_1 ?_
  refine lv_iconst (v := 0) hx hb dX6_serve_4 (by decide) ?_
  refine lv_iconst (v := 0) hx hb dX6_serve_5 (by decide) ?_
  refine lv_iconst (v := 0) hx hb dX6_serve_6 (by decide) ?_
  refine k_X C hexc hJ (rest := []) (x_39 C hJ (rest := []) (c_X6_perform hE hX hX2 hXI (u_j := 9) (by decide) 0 0 0 fu hfu) dX6_serve_7 hl.1 ⟨Nat.le_of_ble_eq_true rfl, Nat.le_of_ble_eq_true rfl⟩ ⟨by decide, by decide⟩ (Nat.le_of_ble_eq_true rfl) rfl rfl) (fun _ q => q) ⟨by decide, by decide⟩ (fun vr S_7 H locs hP hJ => ?_)
  obtain ⟨hf0, rfl, hX9, hR9⟩ := hP
  exact rX_i C hJ hr rfl (⟨hf0, rfl, hX9, hR9⟩) dX6_serve_10 ⟨by decide, by decide⟩
set_option maxHeartbeats 4000000 in
set_option maxRecDepth 100000 in
theorem c_X6_say {l : Launch} {E : GE} (hE : Env0 E) {S : ST} {X : EX} (hX : Env1 E X) {u_x : Nat × Nat × Nat} (hX2 : Env2 l E u_x) {n : Nat} {z : Nat → Int32} {mm : Nat → Nat → Int32} {mc : Nat} {sv : Nat → LVt} (hXI : XI S (n, z, mm) mc sv) (p0 p1 : Int32) (fu : Nat) (hfu : fu = 1000) : MX l E yX6_say cX6_say 3 (some .int) 8 139 1 6 S [.ref (gA E 83), .int p0, .int p1] (fun v S1 => f_ft (gof n mm) n 3 p0 p1 0 = 0 ∧ v = some (.int ((f_co fu n z mm 3 p0 p1 0).1)) ∧ XI S1 (f_co fu n z mm 3 p0 p1 0).2 (f_push (n, z, mm) mc sv).1 (f_push (n, z, mm) mc sv).2 ∧ S1.2.2 = S.2.2) (fun x => exO (f_ft (gof n mm) n 3 p0 p1 0) = some x) := by
  have h : LnIs (sL S) 0 n z mm := hXI.1
  refine MX.of hE (by decide) (Nat.le_of_ble_eq_true rfl) ?_
  intro p e s m below meth c ls C hexc hJ hr hl
  have hx := C.x
  have hb := C.b
  have hl : lv_has ls 3 [(0, .ref (gA E 83)), (1, .int p0), (2, .int p1)] := hl
  refine lv_aload_n hx hb dX6_say_0 rfl (lv_at hl 0 rfl) ?_
  refine i_Z C hJ (hX.1.1 3 (by decide)).1 kf_X6_52 rfl dX6_say_1 ?_
  refine lv_iload_n hx hb dX6_say_4 rfl (lv_at hl 1 rfl) ?_
  refine lv_iload_n hx hb dX6_say_5 rfl (lv_at hl 2 rfl) ?_
  refine lv_iconst (v := 0) hx hb dX6_say_6 (by decide) ?_
  refine k_X C hexc hJ (rest := []) (x_39 C hJ (rest := []) (c_X6_perform hE hX hX2 hXI (u_j := 3) (by decide) p0 p1 0 fu hfu) dX6_say_7 hl.1 ⟨Nat.le_of_ble_eq_true rfl, Nat.le_of_ble_eq_true rfl⟩ ⟨by decide, by decide⟩ (Nat.le_of_ble_eq_true rfl) rfl rfl) (fun _ q => q) ⟨by decide, by decide⟩ (fun vr S_7 H locs hP hJ => ?_)
  obtain ⟨hf0, rfl, hX9, hR9⟩ := hP
  exact rX_i C hJ hr rfl (⟨hf0, rfl, hX9, hR9⟩) dX6_say_10 ⟨by decide, by decide⟩
set_option maxHeartbeats 4000000 in
set_option maxRecDepth 100000 in
theorem c_X6_offer {l : Launch} {E : GE} (hE : Env0 E) {S : ST} {X : EX} (hX : Env1 E X) {u_x : Nat × Nat × Nat} (hX2 : Env2 l E u_x) {n : Nat} {z : Nat → Int32} {mm : Nat → Nat → Int32} {mc : Nat} {sv : Nat → LVt} (hXI : XI S (n, z, mm) mc sv) (p0 p1 : Int32) (fu : Nat) (hfu : fu = 1000) : MX l E yX6_offer cX6_offer 3 (some .int) 8 139 1 6 S [.ref (gA E 83), .int p0, .int p1] (fun v S1 => f_ft (gof n mm) n 4 p0 p1 0 = 0 ∧ v = some (.int ((f_co fu n z mm 4 p0 p1 0).1)) ∧ XI S1 (f_co fu n z mm 4 p0 p1 0).2 (f_push (n, z, mm) mc sv).1 (f_push (n, z, mm) mc sv).2 ∧ S1.2.2 = S.2.2) (fun x => exO (f_ft (gof n mm) n 4 p0 p1 0) = some x) := by
  have h : LnIs (sL S) 0 n z mm := hXI.1
  refine MX.of hE (by decide) (Nat.le_of_ble_eq_true rfl) ?_
  intro p e s m below meth c ls C hexc hJ hr hl
  have hx := C.x
  have hb := C.b
  have hl : lv_has ls 3 [(0, .ref (gA E 83)), (1, .int p0), (2, .int p1)] := hl
  refine lv_aload_n hx hb dX6_offer_0 rfl (lv_at hl 0 rfl) ?_
  refine i_Z C hJ (hX.1.1 4 (by decide)).1 kf_X6_71 rfl dX6_offer_1 ?_
  refine lv_iload_n hx hb dX6_offer_4 rfl (lv_at hl 1 rfl) ?_
  refine lv_iload_n hx hb dX6_offer_5 rfl (lv_at hl 2 rfl) ?_
  refine lv_iconst (v := 0) hx hb dX6_offer_6 (by decide) ?_
  refine k_X C hexc hJ (rest := []) (x_39 C hJ (rest := []) (c_X6_perform hE hX hX2 hXI (u_j := 4) (by decide) p0 p1 0 fu hfu) dX6_offer_7 hl.1 ⟨Nat.le_of_ble_eq_true rfl, Nat.le_of_ble_eq_true rfl⟩ ⟨by decide, by decide⟩ (Nat.le_of_ble_eq_true rfl) rfl rfl) (fun _ q => q) ⟨by decide, by decide⟩ (fun vr S_7 H locs hP hJ => ?_)
  obtain ⟨hf0, rfl, hX9, hR9⟩ := hP
  exact rX_i C hJ hr rfl (⟨hf0, rfl, hX9, hR9⟩) dX6_offer_10 ⟨by decide, by decide⟩
set_option maxHeartbeats 4000000 in
set_option maxRecDepth 100000 in
theorem c_X6_take {l : Launch} {E : GE} (hE : Env0 E) {S : ST} {X : EX} (hX : Env1 E X) {u_x : Nat × Nat × Nat} (hX2 : Env2 l E u_x) {n : Nat} {z : Nat → Int32} {mm : Nat → Nat → Int32} {mc : Nat} {sv : Nat → LVt} (hXI : XI S (n, z, mm) mc sv) (p0 : Int32) (fu : Nat) (hfu : fu = 1000) : MX l E yX6_take cX6_take 2 (some .int) 8 139 1 6 S [.ref (gA E 83), .int p0] (fun v S1 => f_ft (gof n mm) n 5 p0 0 0 = 0 ∧ v = some (.int ((f_co fu n z mm 5 p0 0 0).1)) ∧ XI S1 (f_co fu n z mm 5 p0 0 0).2 (f_push (n, z, mm) mc sv).1 (f_push (n, z, mm) mc sv).2 ∧ S1.2.2 = S.2.2) (fun x => exO (f_ft (gof n mm) n 5 p0 0 0) = some x) := by
  have h : LnIs (sL S) 0 n z mm := hXI.1
  refine MX.of hE (by decide) (Nat.le_of_ble_eq_true rfl) ?_
  intro p e s m below meth c ls C hexc hJ hr hl
  have hx := C.x
  have hb := C.b
  have hl : lv_has ls 2 [(0, .ref (gA E 83)), (1, .int p0)] := hl
  refine lv_aload_n hx hb dX6_take_0 rfl (lv_at hl 0 rfl) ?_
  refine i_Z C hJ (hX.1.1 5 (by decide)).1 kf_X6_74 rfl dX6_take_1 ?_
  refine lv_iload_n hx hb dX6_take_4 rfl (lv_at hl 1 rfl) ?_
  refine lv_iconst (v := 0) hx hb dX6_take_5 (by decide) ?_
  refine lv_iconst (v := 0) hx hb dX6_take_6 (by decide) ?_
  refine k_X C hexc hJ (rest := []) (x_39 C hJ (rest := []) (c_X6_perform hE hX hX2 hXI (u_j := 5) (by decide) p0 0 0 fu hfu) dX6_take_7 hl.1 ⟨Nat.le_of_ble_eq_true rfl, Nat.le_of_ble_eq_true rfl⟩ ⟨by decide, by decide⟩ (Nat.le_of_ble_eq_true rfl) rfl rfl) (fun _ q => q) ⟨by decide, by decide⟩ (fun vr S_7 H locs hP hJ => ?_)
  obtain ⟨hf0, rfl, hX9, hR9⟩ := hP
  exact rX_i C hJ hr rfl (⟨hf0, rfl, hX9, hR9⟩) dX6_take_10 ⟨by decide, by decide⟩
set_option maxHeartbeats 4000000 in
set_option maxRecDepth 100000 in
theorem c_X6_swap {l : Launch} {E : GE} (hE : Env0 E) {S : ST} {X : EX} (hX : Env1 E X) {u_x : Nat × Nat × Nat} (hX2 : Env2 l E u_x) {n : Nat} {z : Nat → Int32} {mm : Nat → Nat → Int32} {mc : Nat} {sv : Nat → LVt} (hXI : XI S (n, z, mm) mc sv) (p0 : Int32) (fu : Nat) (hfu : fu = 1000) : MX l E yX6_swap cX6_swap 2 (some .int) 8 139 1 6 S [.ref (gA E 83), .int p0] (fun v S1 => f_ft (gof n mm) n 6 p0 0 0 = 0 ∧ v = some (.int ((f_co fu n z mm 6 p0 0 0).1)) ∧ XI S1 (f_co fu n z mm 6 p0 0 0).2 (f_push (n, z, mm) mc sv).1 (f_push (n, z, mm) mc sv).2 ∧ S1.2.2 = S.2.2) (fun x => exO (f_ft (gof n mm) n 6 p0 0 0) = some x) := by
  have h : LnIs (sL S) 0 n z mm := hXI.1
  refine MX.of hE (by decide) (Nat.le_of_ble_eq_true rfl) ?_
  intro p e s m below meth c ls C hexc hJ hr hl
  have hx := C.x
  have hb := C.b
  have hl : lv_has ls 2 [(0, .ref (gA E 83)), (1, .int p0)] := hl
  refine lv_aload_n hx hb dX6_swap_0 rfl (lv_at hl 0 rfl) ?_
  refine i_Z C hJ (hX.1.1 6 (by decide)).1 kf_X6_77 rfl dX6_swap_1 ?_
  refine lv_iload_n hx hb dX6_swap_4 rfl (lv_at hl 1 rfl) ?_
  refine lv_iconst (v := 0) hx hb dX6_swap_5 (by decide) ?_
  refine lv_iconst (v := 0) hx hb dX6_swap_6 (by decide) ?_
  refine k_X C hexc hJ (rest := []) (x_39 C hJ (rest := []) (c_X6_perform hE hX hX2 hXI (u_j := 6) (by decide) p0 0 0 fu hfu) dX6_swap_7 hl.1 ⟨Nat.le_of_ble_eq_true rfl, Nat.le_of_ble_eq_true rfl⟩ ⟨by decide, by decide⟩ (Nat.le_of_ble_eq_true rfl) rfl rfl) (fun _ q => q) ⟨by decide, by decide⟩ (fun vr S_7 H locs hP hJ => ?_)
  obtain ⟨hf0, rfl, hX9, hR9⟩ := hP
  exact rX_i C hJ hr rfl (⟨hf0, rfl, hX9, hR9⟩) dX6_swap_10 ⟨by decide, by decide⟩
set_option maxHeartbeats 4000000 in
set_option maxRecDepth 100000 in
theorem c_X6_befriend {l : Launch} {E : GE} (hE : Env0 E) {S : ST} {X : EX} (hX : Env1 E X) {u_x : Nat × Nat × Nat} (hX2 : Env2 l E u_x) {n : Nat} {z : Nat → Int32} {mm : Nat → Nat → Int32} {mc : Nat} {sv : Nat → LVt} (hXI : XI S (n, z, mm) mc sv) (p0 : Int32) (fu : Nat) (hfu : fu = 1000) : MX l E yX6_befriend cX6_befriend 2 (some .int) 8 139 1 6 S [.ref (gA E 83), .int p0] (fun v S1 => f_ft (gof n mm) n 7 p0 0 0 = 0 ∧ v = some (.int ((f_co fu n z mm 7 p0 0 0).1)) ∧ XI S1 (f_co fu n z mm 7 p0 0 0).2 (f_push (n, z, mm) mc sv).1 (f_push (n, z, mm) mc sv).2 ∧ S1.2.2 = S.2.2) (fun x => exO (f_ft (gof n mm) n 7 p0 0 0) = some x) := by
  have h : LnIs (sL S) 0 n z mm := hXI.1
  refine MX.of hE (by decide) (Nat.le_of_ble_eq_true rfl) ?_
  intro p e s m below meth c ls C hexc hJ hr hl
  have hx := C.x
  have hb := C.b
  have hl : lv_has ls 2 [(0, .ref (gA E 83)), (1, .int p0)] := hl
  refine lv_aload_n hx hb dX6_befriend_0 rfl (lv_at hl 0 rfl) ?_
  refine i_Z C hJ (hX.1.1 7 (by decide)).1 kf_X6_80 rfl dX6_befriend_1 ?_
  refine lv_iload_n hx hb dX6_befriend_4 rfl (lv_at hl 1 rfl) ?_
  refine lv_iconst (v := 0) hx hb dX6_befriend_5 (by decide) ?_
  refine lv_iconst (v := 0) hx hb dX6_befriend_6 (by decide) ?_
  refine k_X C hexc hJ (rest := []) (x_39 C hJ (rest := []) (c_X6_perform hE hX hX2 hXI (u_j := 7) (by decide) p0 0 0 fu hfu) dX6_befriend_7 hl.1 ⟨Nat.le_of_ble_eq_true rfl, Nat.le_of_ble_eq_true rfl⟩ ⟨by decide, by decide⟩ (Nat.le_of_ble_eq_true rfl) rfl rfl) (fun _ q => q) ⟨by decide, by decide⟩ (fun vr S_7 H locs hP hJ => ?_)
  obtain ⟨hf0, rfl, hX9, hR9⟩ := hP
  exact rX_i C hJ hr rfl (⟨hf0, rfl, hX9, hR9⟩) dX6_befriend_10 ⟨by decide, by decide⟩
set_option maxHeartbeats 4000000 in
set_option maxRecDepth 100000 in
theorem c_X6_part {l : Launch} {E : GE} (hE : Env0 E) {S : ST} {X : EX} (hX : Env1 E X) {u_x : Nat × Nat × Nat} (hX2 : Env2 l E u_x) {n : Nat} {z : Nat → Int32} {mm : Nat → Nat → Int32} {mc : Nat} {sv : Nat → LVt} (hXI : XI S (n, z, mm) mc sv) (p0 : Int32) (fu : Nat) (hfu : fu = 1000) : MX l E yX6_part cX6_part 2 (some .int) 8 139 1 6 S [.ref (gA E 83), .int p0] (fun v S1 => f_ft (gof n mm) n 8 p0 0 0 = 0 ∧ v = some (.int ((f_co fu n z mm 8 p0 0 0).1)) ∧ XI S1 (f_co fu n z mm 8 p0 0 0).2 (f_push (n, z, mm) mc sv).1 (f_push (n, z, mm) mc sv).2 ∧ S1.2.2 = S.2.2) (fun x => exO (f_ft (gof n mm) n 8 p0 0 0) = some x) := by
  have h : LnIs (sL S) 0 n z mm := hXI.1
  refine MX.of hE (by decide) (Nat.le_of_ble_eq_true rfl) ?_
  intro p e s m below meth c ls C hexc hJ hr hl
  have hx := C.x
  have hb := C.b
  have hl : lv_has ls 2 [(0, .ref (gA E 83)), (1, .int p0)] := hl
  refine lv_aload_n hx hb dX6_part_0 rfl (lv_at hl 0 rfl) ?_
  refine i_Z C hJ (hX.1.1 8 (by decide)).1 kf_X6_83 rfl dX6_part_1 ?_
  refine lv_iload_n hx hb dX6_part_4 rfl (lv_at hl 1 rfl) ?_
  refine lv_iconst (v := 0) hx hb dX6_part_5 (by decide) ?_
  refine lv_iconst (v := 0) hx hb dX6_part_6 (by decide) ?_
  refine k_X C hexc hJ (rest := []) (x_39 C hJ (rest := []) (c_X6_perform hE hX hX2 hXI (u_j := 8) (by decide) p0 0 0 fu hfu) dX6_part_7 hl.1 ⟨Nat.le_of_ble_eq_true rfl, Nat.le_of_ble_eq_true rfl⟩ ⟨by decide, by decide⟩ (Nat.le_of_ble_eq_true rfl) rfl rfl) (fun _ q => q) ⟨by decide, by decide⟩ (fun vr S_7 H locs hP hJ => ?_)
  obtain ⟨hf0, rfl, hX9, hR9⟩ := hP
  exact rX_i C hJ hr rfl (⟨hf0, rfl, hX9, hR9⟩) dX6_part_10 ⟨by decide, by decide⟩
set_option maxHeartbeats 4000000 in
set_option maxRecDepth 100000 in
theorem c_X6_settle {l : Launch} {E : GE} (hE : Env0 E) {S : ST} {X : EX} (hX : Env1 E X) {u_x : Nat × Nat × Nat} (hX2 : Env2 l E u_x) {n : Nat} {z : Nat → Int32} {mm : Nat → Nat → Int32} {mc : Nat} {sv : Nat → LVt} (hXI : XI S (n, z, mm) mc sv) (fu : Nat) (hfu : fu = 1000) : MX l E yX6_settle cX6_settle 1 (some .int) 8 139 1 6 S [.ref (gA E 83)] (fun v S1 => f_ft (gof n mm) n 10 0 0 0 = 0 ∧ v = some (.int ((f_co fu n z mm 10 0 0 0).1)) ∧ XI S1 (f_co fu n z mm 10 0 0 0).2 (f_push (n, z, mm) mc sv).1 (f_push (n, z, mm) mc sv).2 ∧ S1.2.2 = S.2.2) (fun _ => False) := by
  have h : LnIs (sL S) 0 n z mm := hXI.1
  refine MX.of hE (by decide) (Nat.le_of_ble_eq_true rfl) ?_
  intro p e s m below meth c ls C hexc hJ hr hl
  have hx := C.x
  have hb := C.b
  have hl : lv_has ls 1 [(0, .ref (gA E 83))] := hl
  refine lv_aload_n hx hb dX6_settle_0 rfl (lv_at hl 0 rfl) ?_
  refine i_Z C hJ (hX.1.1 10 (by decide)).1 kf_X6_86 rfl dX6_settle_1 ?_
  refine lv_iconst (v := 0) hx hb dX6_settle_4 (by decide) ?_
  refine lv_iconst (v := 0) hx hb dX6_settle_5 (by decide) ?_
  refine lv_iconst (v := 0) hx hb dX6_settle_6 (by decide) ?_
  refine k_X C hexc hJ (rest := []) (x_39 C hJ (rest := []) (c_X6_perform hE hX hX2 hXI (u_j := 10) (by decide) 0 0 0 fu hfu) dX6_settle_7 hl.1 ⟨Nat.le_of_ble_eq_true rfl, Nat.le_of_ble_eq_true rfl⟩ ⟨by decide, by decide⟩ (Nat.le_of_ble_eq_true rfl) rfl rfl) (fun x q => by rw [show f_ft (gof n mm) n 10 0 0 0 = 0 from rfl] at q; exact absurd q (by rw [show exO 0 = none by decide]; intro y; cases y)) ⟨by decide, by decide⟩ (fun vr S_7 H locs hP hJ => ?_)
  obtain ⟨hf0, rfl, hX9, hR9⟩ := hP
  exact rX_i C hJ hr rfl (⟨hf0, rfl, hX9, hR9⟩) dX6_settle_10 ⟨by decide, by decide⟩
set_option maxHeartbeats 4000000 in
set_option maxRecDepth 100000 in
theorem c_X6_setSplit {l : Launch} {E : GE} (hE : Env0 E) {S : ST} {u_x : Nat × Nat × Nat} (hX2 : Env2 l E u_x) {n : Nat} {z : Nat → Int32} {mm : Nat → Nat → Int32} {mc : Nat} {sv : Nat → LVt} (hXI : XI S (n, z, mm) mc sv) (p0 : Int32) : MX l E yX6_setSplit cX6_setSplit 3 (some .int) 7 102 1 6 S [.ref (gA E 83), .int p0] (fun v S1 => (if f_in p0 0 100 = true then (0 : Int32) else 2) = 0 ∧ v = some (.int (z 3)) ∧ XI S1 (n, upd z 3 p0, mm) (f_push (n, z, mm) mc sv).1 (f_push (n, z, mm) mc sv).2 ∧ S1.2.2 = S.2.2) (fun x => exO ((if f_in p0 0 100 = true then (0 : Int32) else 2)) = some x) := by
  have h : LnIs (sL S) 0 n z mm := hXI.1
  refine MX.of hE (by decide) (Nat.le_of_ble_eq_true rfl) ?_
  intro p e s m below meth c ls C hexc hJ hr hl
  have hx := C.x
  have hb := C.b
  have hl : lv_has ls 3 [(0, .ref (gA E 83)), (1, .int p0)] := hl
  refine lv_iload_n hx hb dX6_setSplit_0 rfl (lv_at hl 1 rfl) ?_
  refine lv_iconst (v := 0) hx hb dX6_setSplit_1 (by decide) ?_
  refine lv_bipush (v := 100) hx hb dX6_setSplit_2 (by decide) ?_
  refine cr_X6_55 C hJ (rest := []) (c_X6_isWithin hE p0 0 100) dX6_setSplit_4 hl.1 ⟨Nat.le_of_ble_eq_true rfl, Nat.le_of_ble_eq_true rfl⟩ ⟨by decide, by decide⟩ (Nat.le_of_ble_eq_true rfl) rfl rfl ?_
  refine lv_if_eq (tgt := 14) hx hb dX6_setSplit_7 (by decide) (fun c_7 => ?_) (fun c_7 => ?_)
  · skip
    have q7 := bI_0 c_7
    have hF : (if f_in p0 0 100 = true then (0 : Int32) else 2) = 2 := by rw [if_neg (by rw [q7]; decide)]
    refine lv_iconst (v := 2) hx hb dX6_setSplit_14 (by decide) ?_
    refine k_X C hexc hJ (rest := []) (x_59 C hJ (rest := []) (c_X6_refuse hE hX2 2) dX6_setSplit_15 hl.1 ⟨Nat.le_of_ble_eq_true rfl, Nat.le_of_ble_eq_true rfl⟩ ⟨by decide, by decide⟩ (Nat.le_of_ble_eq_true rfl) rfl rfl) (fun _ q => by rw [hF]; exact q) ⟨by decide, by decide⟩ (fun vr S_15 H locs hP hJ => ?_)
    obtain ⟨rfl, eS, hex_15⟩ := hP
    rw [eS] at hJ
    exact absurd hex_15 (by decide)
  · skip
    have q7 := bI_1 c_7
    have hF : (if f_in p0 0 100 = true then (0 : Int32) else 2) = 0 := by rw [if_pos q7]
    refine lv_iconst (v := 0) hx hb dX6_setSplit_10 (by decide) ?_
    refine lv_goto (tgt := 15) hx hb dX6_setSplit_11 (by decide) ?_
    refine k_X C hexc hJ (rest := []) (x_59 C hJ (rest := []) (c_X6_refuse hE hX2 0) dX6_setSplit_15 hl.1 ⟨Nat.le_of_ble_eq_true rfl, Nat.le_of_ble_eq_true rfl⟩ ⟨by decide, by decide⟩ (Nat.le_of_ble_eq_true rfl) rfl rfl) (fun _ q => by rw [hF]; exact q) ⟨by decide, by decide⟩ (fun vr S_15 H locs hP hJ => ?_)
    obtain ⟨rfl, eS, hex_15⟩ := hP
    rw [eS] at hJ
    refine lv_aload_n hx hb dX6_setSplit_18 rfl (lv_at hl 0 rfl) ?_
    refine g_X6_22 C hJ dX6_setSplit_19 ?_
    refine lv_aload_n hx hb dX6_setSplit_22 rfl (lv_at hl 0 rfl) ?_
    refine g_X6_10 C hJ dX6_setSplit_23 ?_
    refine cw_X6_63 C hJ (rest := []) (c_X3_push hE hXI) dX6_setSplit_26 hl.1 ⟨Nat.le_of_ble_eq_true rfl, Nat.le_of_ble_eq_true rfl⟩ ⟨by decide, by decide⟩ (Nat.le_of_ble_eq_true rfl) rfl rfl (fun vr S_26 H locs hP hJ => ?_)
    obtain ⟨rfl, hX20, hR20⟩ := hP
    refine lv_aload_n hx hb dX6_setSplit_29 rfl (lv_at hl 0 rfl) ?_
    refine g_X6_10 C hJ dX6_setSplit_30 ?_
    refine g_X6_67 C hJ (k := 0) (by decide) dX6_setSplit_33 ?_
    refine lv_istore_n (lv' := [(2, .int (sc (sL S_26) 0 3)), (0, .ref (gA E 83)), (1, .int p0)]) hx hb dX6_setSplit_36 rfl hl (by decide) rfl (fun ls hl => ?_)
    refine lv_aload_n hx hb dX6_setSplit_37 rfl (lv_at hl 1 rfl) ?_
    refine g_X6_10 C hJ dX6_setSplit_38 ?_
    refine lv_iload_n hx hb dX6_setSplit_41 rfl (lv_at hl 2 rfl) ?_
    refine p_X6_67 C hJ (k := 0) (by decide) dX6_setSplit_42 (fun H locs hJ => ?_)
    obtain ⟨S_42, hS_42⟩ : ∃ z : ST, z = setL S_26 (lSc (sL S_26) 0 3 p0) := ⟨_, rfl⟩
    rw [← hS_42] at hJ
    have hU : Up S_26 S_42 0 n (upd z 3 p0) mm := (Up.rf hX20.1).sq hS_42 (OffL.osc 3 p0) (LnIs.ssc hX20.1 (by decide) (by decide) p0)
    refine lv_iload_n hx hb dX6_setSplit_45 rfl (lv_at hl 0 rfl) ?_
    exact rX_i C hJ hr rfl (⟨hF, by rw [show sc (sL S_26) 0 3 = z 3 from congrFun hX20.1.2.1 3], hX20.up hU, (congrArg (fun q => q.2) hU.1).trans hR20⟩) dX6_setSplit_46 ⟨by decide, by decide⟩
set_option maxHeartbeats 4000000 in
set_option maxRecDepth 100000 in
theorem c_X6_member {l : Launch} {E : GE} (hE : Env0 E) {S : ST} {u_x : Nat × Nat × Nat} (hX2 : Env2 l E u_x) {n : Nat} {z : Nat → Int32} {mm : Nat → Nat → Int32} {mc : Nat} {sv : Nat → LVt} (hXI : XI S (n, z, mm) mc sv) (p0 p1 : Int32) : MX l E yX6_member cX6_member 4 (some .int) 7 102 1 6 S [.ref (gA E 83), .int p0, .int p1] (fun v S1 => f_mf (f_place (gof n mm) n p0) (bI (f_in p1 0 9)) = 0 ∧ v = some (.int (f_mval (gof n mm) (f_place (gof n mm) n p0).toNatClampNeg p1.toNatClampNeg)) ∧ S1 = S) (fun x => exO (f_mf (f_place (gof n mm) n p0) (bI (f_in p1 0 9))) = some x) := by
  have h : LnIs (sL S) 0 n z mm := hXI.1
  have hn := h.1.1
  refine MX.of hE (by decide) (Nat.le_of_ble_eq_true rfl) ?_
  intro p e s m below meth c ls C hexc hJ hr hl
  have hx := C.x
  have hb := C.b
  have hl : lv_has ls 4 [(0, .ref (gA E 83)), (1, .int p0), (2, .int p1)] := hl
  refine lv_aload_n hx hb dX6_member_0 rfl (lv_at hl 0 rfl) ?_
  refine g_X6_10 C hJ dX6_member_1 ?_
  refine lv_iload_n hx hb dX6_member_4 rfl (lv_at hl 1 rfl) ?_
  refine cr_X6_89 C hJ (k := 0) (by decide) (rest := []) (cu_placeOf hE (k := 0) (by decide) h p0) dX6_member_5 hl.1 ⟨Nat.le_of_ble_eq_true rfl, Nat.le_of_ble_eq_true rfl⟩ ⟨by decide, by decide⟩ (Nat.le_of_ble_eq_true rfl) rfl rfl ?_
  refine lv_istore_n (lv' := [(3, .int (f_place (gof n mm) n p0)), (0, .ref (gA E 83)), (1, .int p0), (2, .int p1)]) hx hb dX6_member_8 rfl hl (by decide) rfl (fun ls hl => ?_)
  refine lv_aload_n hx hb dX6_member_9 rfl (lv_at hl 1 rfl) ?_
  refine lv_iload_n hx hb dX6_member_10 rfl (lv_at hl 0 rfl) ?_
  refine lv_iload_n hx hb dX6_member_11 rfl (lv_at hl 3 rfl) ?_
  refine lv_iconst (v := 0) hx hb dX6_member_12 (by decide) ?_
  refine lv_bipush (v := 9) hx hb dX6_member_13 (by decide) ?_
  refine cr_X6_55 C hJ (rest := [.int (f_place (gof n mm) n p0), .ref (gA E 83)]) (c_X6_isWithin hE p1 0 9) dX6_member_15 hl.1 ⟨Nat.le_of_ble_eq_true rfl, Nat.le_of_ble_eq_true rfl⟩ ⟨by decide, by decide⟩ (Nat.le_of_ble_eq_true rfl) rfl rfl ?_
  refine cr_X6_93 C hJ (rest := []) (c_X6_memberFault hE (f_place (gof n mm) n p0) (bI (f_in p1 0 9))) dX6_member_18 hl.1 ⟨Nat.le_of_ble_eq_true rfl, Nat.le_of_ble_eq_true rfl⟩ ⟨by decide, by decide⟩ (Nat.le_of_ble_eq_true rfl) rfl rfl ?_
  refine k_X C hexc hJ (rest := []) (x_59 C hJ (rest := []) (c_X6_refuse hE hX2 (f_mf (f_place (gof n mm) n p0) (bI (f_in p1 0 9)))) dX6_member_21 hl.1 ⟨Nat.le_of_ble_eq_true rfl, Nat.le_of_ble_eq_true rfl⟩ ⟨by decide, by decide⟩ (Nat.le_of_ble_eq_true rfl) rfl rfl) (fun _ q => q) ⟨by decide, by decide⟩ (fun vr S_21 H locs hP hJ => ?_)
  obtain ⟨rfl, eS, hex_21⟩ := hP
  rw [eS] at hJ
  have hf_21 := fl4_exO (fl4_mf _ _) hex_21
  obtain ⟨P, hP0, eP, _⟩ := mf_in hf_21
  have q9 : f_in p1 0 9 = true := by
    rcases Bool.eq_false_or_eq_true (f_in p1 0 9) with q | q
    · exact q
    · exfalso; have y := hf_21; rw [q] at y; unfold f_mf at y; rw [eP, if_neg (nI_m1 (by omega))] at y; exact absurd y (by decide)
  have hw9 := f_in_w (u_n := 9) rfl (by decide) q9
  refine lv_aload_n hx hb dX6_member_24 rfl (lv_at hl 1 rfl) ?_
  refine g_X6_10 C hJ dX6_member_25 ?_
  refine lv_iload_n hx hb dX6_member_28 rfl (lv_at hl 0 rfl) ?_
  refine lv_iload_n hx hb dX6_member_29 rfl (lv_at hl 3 rfl) ?_
  refine cr_X6_97 C hJ (k := 0) (by decide) (rest := []) (cu_memberValueE hE (k := 0) (by decide) h P (by omega) p1.toNatClampNeg (by omega) eP hw9.2) dX6_member_30 hl.1 ⟨Nat.le_of_ble_eq_true rfl, Nat.le_of_ble_eq_true rfl⟩ ⟨by decide, by decide⟩ (Nat.le_of_ble_eq_true rfl) rfl rfl ?_
  exact rX_i C hJ hr rfl (⟨hf_21, by rw [eP, nI_clamp (by omega)], rfl⟩) dX6_member_33 ⟨by decide, by decide⟩
set_option maxHeartbeats 4000000 in
set_option maxRecDepth 100000 in
theorem c_X6_at {l : Launch} {E : GE} (hE : Env0 E) {S : ST} {u_x : Nat × Nat × Nat} (hX2 : Env2 l E u_x) {n : Nat} {z : Nat → Int32} {mm : Nat → Nat → Int32} {mc : Nat} {sv : Nat → LVt} (hXI : XI S (n, z, mm) mc sv) (p0 : Int32) : MX l E yX6_at cX6_at 2 (some .int) 7 102 1 6 S [.ref (gA E 83), .int p0] (fun v S1 => (if p0 < 0 then (2 : Int32) else 0) = 0 ∧ v = some (.int ((gof n mm) p0 0)) ∧ S1 = S) (fun x => exO ((if p0 < 0 then (2 : Int32) else 0)) = some x) := by
  have h : LnIs (sL S) 0 n z mm := hXI.1
  refine MX.of hE (by decide) (Nat.le_of_ble_eq_true rfl) ?_
  intro p e s m below meth c ls C hexc hJ hr hl
  have hx := C.x
  have hb := C.b
  have hl : lv_has ls 2 [(0, .ref (gA E 83)), (1, .int p0)] := hl
  refine lv_iload_n hx hb dX6_at_0 rfl (lv_at hl 1 rfl) ?_
  refine lv_if_lt (tgt := 8) hx hb dX6_at_1 (by decide) (fun c_1 => ?_) (fun c_1 => ?_)
  · skip
    have hF : (if p0 < 0 then (2 : Int32) else 0) = 2 := if_pos c_1
    refine lv_iconst (v := 2) hx hb dX6_at_8 (by decide) ?_
    refine k_X C hexc hJ (rest := []) (x_59 C hJ (rest := []) (c_X6_refuse hE hX2 2) dX6_at_9 hl.1 ⟨Nat.le_of_ble_eq_true rfl, Nat.le_of_ble_eq_true rfl⟩ ⟨by decide, by decide⟩ (Nat.le_of_ble_eq_true rfl) rfl rfl) (fun _ q => by rw [hF]; exact q) ⟨by decide, by decide⟩ (fun vr S_9 H locs hP hJ => ?_)
    obtain ⟨rfl, eS, hex_9⟩ := hP
    rw [eS] at hJ
    exact absurd hex_9 (by decide)
  · skip
    have hF : (if p0 < 0 then (2 : Int32) else 0) = 0 := if_neg c_1
    refine lv_iconst (v := 0) hx hb dX6_at_4 (by decide) ?_
    refine lv_goto (tgt := 9) hx hb dX6_at_5 (by decide) ?_
    refine k_X C hexc hJ (rest := []) (x_59 C hJ (rest := []) (c_X6_refuse hE hX2 0) dX6_at_9 hl.1 ⟨Nat.le_of_ble_eq_true rfl, Nat.le_of_ble_eq_true rfl⟩ ⟨by decide, by decide⟩ (Nat.le_of_ble_eq_true rfl) rfl rfl) (fun _ q => by rw [hF]; exact q) ⟨by decide, by decide⟩ (fun vr S_9 H locs hP hJ => ?_)
    obtain ⟨rfl, eS, hex_9⟩ := hP
    rw [eS] at hJ
    refine lv_aload_n hx hb dX6_at_12 rfl (lv_at hl 0 rfl) ?_
    refine g_X6_10 C hJ dX6_at_13 ?_
    refine lv_iload_n hx hb dX6_at_16 rfl (lv_at hl 1 rfl) ?_
    refine cr_X6_101 C hJ (k := 0) (by decide) (rest := []) (c_X4_memberAt hE (by decide) h.1 p0) dX6_at_17 hl.1 ⟨Nat.le_of_ble_eq_true rfl, Nat.le_of_ble_eq_true rfl⟩ ⟨by decide, by decide⟩ (Nat.le_of_ble_eq_true rfl) rfl rfl ?_
    refine g_X6_105 C hJ (k := 0) (by decide) (ix_lt h.1 _) dX6_at_20 ?_
    exact rX_i C hJ hr rfl (⟨hF, by rw [← h.sgm]; rfl, rfl⟩) dX6_at_23 ⟨by decide, by decide⟩
set_option maxHeartbeats 4000000 in
set_option maxRecDepth 100000 in
theorem c_X6_pair {l : Launch} {E : GE} (hE : Env0 E) {S : ST} {u_x : Nat × Nat × Nat} (hX2 : Env2 l E u_x) {n : Nat} {z : Nat → Int32} {mm : Nat → Nat → Int32} {mc : Nat} {sv : Nat → LVt} (hXI : XI S (n, z, mm) mc sv) (p0 p1 : Int32) : MX l E yX6_pair cX6_pair 3 (some .int) 7 102 1 6 S [.ref (gA E 83), .int p0, .int p1] (fun v S1 => f_pf n p0 (bI (f_in p1 0 4)) 2 = 0 ∧ v = some (.int (f_pval (gof n mm) (z 3) p0 p1.toNatClampNeg)) ∧ S1 = S) (fun x => exO (f_pf n p0 (bI (f_in p1 0 4)) 2) = some x) := by
  have h : LnIs (sL S) 0 n z mm := hXI.1
  refine MX.of hE (by decide) (Nat.le_of_ble_eq_true rfl) ?_
  intro p e s m below meth c ls C hexc hJ hr hl
  have hx := C.x
  have hb := C.b
  have hl : lv_has ls 3 [(0, .ref (gA E 83)), (1, .int p0), (2, .int p1)] := hl
  refine lv_aload_n hx hb dX6_pair_0 rfl (lv_at hl 0 rfl) ?_
  refine lv_iload_n hx hb dX6_pair_1 rfl (lv_at hl 1 rfl) ?_
  refine lv_iload_n hx hb dX6_pair_2 rfl (lv_at hl 2 rfl) ?_
  refine lv_iconst (v := 0) hx hb dX6_pair_3 (by decide) ?_
  refine lv_iconst (v := 4) hx hb dX6_pair_4 (by decide) ?_
  refine cr_X6_55 C hJ (rest := [.int p0, .ref (gA E 83)]) (c_X6_isWithin hE p1 0 4) dX6_pair_5 hl.1 ⟨Nat.le_of_ble_eq_true rfl, Nat.le_of_ble_eq_true rfl⟩ ⟨by decide, by decide⟩ (Nat.le_of_ble_eq_true rfl) rfl rfl ?_
  refine lv_iconst (v := 2) hx hb dX6_pair_8 (by decide) ?_
  refine cr_X6_110 C hJ (rest := []) (c_X6_pairFault hE h p0 (bI (f_in p1 0 4)) 2) dX6_pair_9 hl.1 ⟨Nat.le_of_ble_eq_true rfl, Nat.le_of_ble_eq_true rfl⟩ ⟨by decide, by decide⟩ (Nat.le_of_ble_eq_true rfl) rfl rfl ?_
  refine k_X C hexc hJ (rest := []) (x_59 C hJ (rest := []) (c_X6_refuse hE hX2 (f_pf n p0 (bI (f_in p1 0 4)) 2)) dX6_pair_12 hl.1 ⟨Nat.le_of_ble_eq_true rfl, Nat.le_of_ble_eq_true rfl⟩ ⟨by decide, by decide⟩ (Nat.le_of_ble_eq_true rfl) rfl rfl) (fun _ q => q) ⟨by decide, by decide⟩ (fun vr S_12 H locs hP hJ => ?_)
  obtain ⟨rfl, eS, hex_12⟩ := hP
  rw [eS] at hJ
  have hf_12 := fl4_exO (fl4_pf _ _ (Or.inr (Or.inr (Or.inl rfl)))) hex_12
  have hq2 : f_in p0 0 (nI n - 2) = true ∧ f_in p1 0 4 = true := by
    have y := hf_12
    unfold f_pf at y
    split at y
    · rename_i y1
      split at y
      · exact absurd y (by decide)
      · rename_i y2; exact ⟨y1, bI_1 y2⟩
    · exact absurd y (by decide)
  have hw9 := f_in_w (u_n := 4) rfl (by decide) hq2.2
  refine lv_aload_n hx hb dX6_pair_15 rfl (lv_at hl 0 rfl) ?_
  refine g_X6_10 C hJ dX6_pair_16 ?_
  refine lv_iload_n hx hb dX6_pair_19 rfl (lv_at hl 1 rfl) ?_
  refine lv_iload_n hx hb dX6_pair_20 rfl (lv_at hl 2 rfl) ?_
  refine cr_X6_114 C hJ (k := 0) (by decide) (rest := []) (cu_pairValueE hE (k := 0) (by decide) h p0 p1.toNatClampNeg (by omega) hw9.2) dX6_pair_21 hl.1 ⟨Nat.le_of_ble_eq_true rfl, Nat.le_of_ble_eq_true rfl⟩ ⟨by decide, by decide⟩ (Nat.le_of_ble_eq_true rfl) rfl rfl ?_
  exact rX_i C hJ hr rfl (⟨hf_12, rfl, rfl⟩) dX6_pair_24 ⟨by decide, by decide⟩
set_option maxHeartbeats 4000000 in
set_option maxRecDepth 100000 in
theorem c_X6_whole {l : Launch} {E : GE} (hE : Env0 E) {S : ST} {u_x : Nat × Nat × Nat} (hX2 : Env2 l E u_x) {n : Nat} {z : Nat → Int32} {mm : Nat → Nat → Int32} {mc : Nat} {sv : Nat → LVt} (hXI : XI S (n, z, mm) mc sv) {u_n : Nat} (hL : (sT S).1 1 = nI u_n) (p0 : Int32) : MX l E yX6_whole cX6_whole 2 (some .int) 7 130 1 6 S [.ref (gA E 83), .int p0] (fun v S1 => (if f_in p0 0 13 = true then (0 : Int32) else 2) = 0 ∧ v = some (.int (f_whole n z mm u_n p0.toNatClampNeg)) ∧ S1 = S) (fun x => exO ((if f_in p0 0 13 = true then (0 : Int32) else 2)) = some x) := by
  have h : LnIs (sL S) 0 n z mm := hXI.1
  refine MX.of hE (by decide) (Nat.le_of_ble_eq_true rfl) ?_
  intro p e s m below meth c ls C hexc hJ hr hl
  have hx := C.x
  have hb := C.b
  have hl : lv_has ls 2 [(0, .ref (gA E 83)), (1, .int p0)] := hl
  refine lv_iload_n hx hb dX6_whole_0 rfl (lv_at hl 1 rfl) ?_
  refine lv_iconst (v := 0) hx hb dX6_whole_1 (by decide) ?_
  refine lv_bipush (v := 13) hx hb dX6_whole_2 (by decide) ?_
  refine cr_X6_55 C hJ (rest := []) (c_X6_isWithin hE p0 0 13) dX6_whole_4 hl.1 ⟨Nat.le_of_ble_eq_true rfl, Nat.le_of_ble_eq_true rfl⟩ ⟨by decide, by decide⟩ (Nat.le_of_ble_eq_true rfl) rfl rfl ?_
  refine lv_if_eq (tgt := 14) hx hb dX6_whole_7 (by decide) (fun c_7 => ?_) (fun c_7 => ?_)
  · skip
    have q7 := bI_0 c_7
    have hF : (if f_in p0 0 13 = true then (0 : Int32) else 2) = 2 := by rw [if_neg (by rw [q7]; decide)]
    refine lv_iconst (v := 2) hx hb dX6_whole_14 (by decide) ?_
    refine k_X C hexc hJ (rest := []) (x_59 C hJ (rest := []) (c_X6_refuse hE hX2 2) dX6_whole_15 hl.1 ⟨Nat.le_of_ble_eq_true rfl, Nat.le_of_ble_eq_true rfl⟩ ⟨by decide, by decide⟩ (Nat.le_of_ble_eq_true rfl) rfl rfl) (fun _ q => by rw [hF]; exact q) ⟨by decide, by decide⟩ (fun vr S_15 H locs hP hJ => ?_)
    obtain ⟨rfl, eS, hex_15⟩ := hP
    rw [eS] at hJ
    exact absurd hex_15 (by decide)
  · skip
    have q7 := bI_1 c_7
    have hF : (if f_in p0 0 13 = true then (0 : Int32) else 2) = 0 := by rw [if_pos q7]
    refine lv_iconst (v := 0) hx hb dX6_whole_10 (by decide) ?_
    refine lv_goto (tgt := 15) hx hb dX6_whole_11 (by decide) ?_
    refine k_X C hexc hJ (rest := []) (x_59 C hJ (rest := []) (c_X6_refuse hE hX2 0) dX6_whole_15 hl.1 ⟨Nat.le_of_ble_eq_true rfl, Nat.le_of_ble_eq_true rfl⟩ ⟨by decide, by decide⟩ (Nat.le_of_ble_eq_true rfl) rfl rfl) (fun _ q => by rw [hF]; exact q) ⟨by decide, by decide⟩ (fun vr S_15 H locs hP hJ => ?_)
    obtain ⟨rfl, eS, hex_15⟩ := hP
    rw [eS] at hJ
    refine lv_aload_n hx hb dX6_whole_18 rfl (lv_at hl 0 rfl) ?_
    refine lv_iload_n hx hb dX6_whole_19 rfl (lv_at hl 1 rfl) ?_
    have hw9 := f_in_w (u_n := 13) rfl (by decide) q7
    refine cr_X6_117 C hJ (rest := []) ((show MR l E yX6_wholeValue cX6_wholeValue 2 (some .int) 5 109 S [.ref (gA E 83), .int p0] (some (.int (f_whole n z mm u_n p0.toNatClampNeg))) by have y := c_X6_wholeValue (l := l) hE h hL p0.toNatClampNeg (by omega); rw [← hw9.2] at y; exact y)) dX6_whole_20 hl.1 ⟨Nat.le_of_ble_eq_true rfl, Nat.le_of_ble_eq_true rfl⟩ ⟨by decide, by decide⟩ (Nat.le_of_ble_eq_true rfl) rfl rfl ?_
    exact rX_i C hJ hr rfl (⟨hF, rfl, rfl⟩) dX6_whole_23 ⟨by decide, by decide⟩
set_option maxHeartbeats 4000000 in
set_option maxRecDepth 100000 in
theorem c_X6_reason {l : Launch} {E : GE} (hE : Env0 E) {S : ST} {u_x : Nat × Nat × Nat} (hX2 : Env2 l E u_x) {n : Nat} {z : Nat → Int32} {mm : Nat → Nat → Int32} {mc : Nat} {sv : Nat → LVt} (hXI : XI S (n, z, mm) mc sv) (p0 : Int32) : MX l E yX6_reason cX6_reason 2 (some .int) 7 102 1 6 S [.ref (gA E 83), .int p0] (fun v S1 => f_pf n p0 1 0 = 0 ∧ v = some (.int (f_hind (gof n mm) p0)) ∧ S1 = S) (fun x => exO (f_pf n p0 1 0) = some x) := by
  have h : LnIs (sL S) 0 n z mm := hXI.1
  refine MX.of hE (by decide) (Nat.le_of_ble_eq_true rfl) ?_
  intro p e s m below meth c ls C hexc hJ hr hl
  have hx := C.x
  have hb := C.b
  have hl : lv_has ls 2 [(0, .ref (gA E 83)), (1, .int p0)] := hl
  refine lv_aload_n hx hb dX6_reason_0 rfl (lv_at hl 0 rfl) ?_
  refine lv_iload_n hx hb dX6_reason_1 rfl (lv_at hl 1 rfl) ?_
  refine lv_iconst (v := 1) hx hb dX6_reason_2 (by decide) ?_
  refine lv_iconst (v := 0) hx hb dX6_reason_3 (by decide) ?_
  refine cr_X6_110 C hJ (rest := []) (c_X6_pairFault hE h p0 1 0) dX6_reason_4 hl.1 ⟨Nat.le_of_ble_eq_true rfl, Nat.le_of_ble_eq_true rfl⟩ ⟨by decide, by decide⟩ (Nat.le_of_ble_eq_true rfl) rfl rfl ?_
  refine k_X C hexc hJ (rest := []) (x_59 C hJ (rest := []) (c_X6_refuse hE hX2 (f_pf n p0 1 0)) dX6_reason_7 hl.1 ⟨Nat.le_of_ble_eq_true rfl, Nat.le_of_ble_eq_true rfl⟩ ⟨by decide, by decide⟩ (Nat.le_of_ble_eq_true rfl) rfl rfl) (fun _ q => q) ⟨by decide, by decide⟩ (fun vr S_7 H locs hP hJ => ?_)
  obtain ⟨rfl, eS, hex_7⟩ := hP
  rw [eS] at hJ
  have hf_7 := fl4_exO (fl4_pf _ _ (Or.inl rfl)) hex_7
  refine lv_aload_n hx hb dX6_reason_10 rfl (lv_at hl 0 rfl) ?_
  refine g_X6_10 C hJ dX6_reason_11 ?_
  refine lv_iload_n hx hb dX6_reason_14 rfl (lv_at hl 1 rfl) ?_
  refine cr_X6_120 C hJ (k := 0) (by decide) (rest := []) (cu_hindrance hE (k := 0) (by decide) h p0) dX6_reason_15 hl.1 ⟨Nat.le_of_ble_eq_true rfl, Nat.le_of_ble_eq_true rfl⟩ ⟨by decide, by decide⟩ (Nat.le_of_ble_eq_true rfl) rfl rfl ?_
  exact rX_i C hJ hr rfl (⟨hf_7, rfl, rfl⟩) dX6_reason_18 ⟨by decide, by decide⟩
set_option maxHeartbeats 4000000 in
set_option maxRecDepth 100000 in
theorem c_X6_settledPlace {l : Launch} {E : GE} (hE : Env0 E) {S : ST} {u_x : Nat × Nat × Nat} (hX2 : Env2 l E u_x) {n : Nat} {z : Nat → Int32} {mm : Nat → Nat → Int32} {mc : Nat} {sv : Nat → LVt} (hXI : XI S (n, z, mm) mc sv) (p0 : Int32) (fu : Nat) (hfu : fu = 1000) : MX l E yX6_settledPlace cX6_settledPlace 2 (some .int) 7 102 1 6 S [.ref (gA E 83), .int p0] (fun v S1 => f_mf (f_place (gof n mm) n p0) 1 = 0 ∧ v = some (.int (f_place (gof n (f_set n fu z mm).2.2) n p0)) ∧ XI S1 (n, z, mm) mc sv ∧ S1.2 = S.2) (fun x => exO (f_mf (f_place (gof n mm) n p0) 1) = some x) := by
  have h : LnIs (sL S) 0 n z mm := hXI.1
  obtain ⟨n1, z1, mm1, h1⟩ := hXI.ln1
  refine MX.of hE (by decide) (Nat.le_of_ble_eq_true rfl) ?_
  intro p e s m below meth c ls C hexc hJ hr hl
  have hx := C.x
  have hb := C.b
  have hl : lv_has ls 2 [(0, .ref (gA E 83)), (1, .int p0)] := hl
  refine lv_aload_n hx hb dX6_settledPlace_0 rfl (lv_at hl 0 rfl) ?_
  refine lv_aload_n hx hb dX6_settledPlace_1 rfl (lv_at hl 0 rfl) ?_
  refine g_X6_10 C hJ dX6_settledPlace_2 ?_
  refine lv_iload_n hx hb dX6_settledPlace_5 rfl (lv_at hl 1 rfl) ?_
  refine cr_X6_89 C hJ (k := 0) (by decide) (rest := [.ref (gA E 83)]) (cu_placeOf hE (k := 0) (by decide) h p0) dX6_settledPlace_6 hl.1 ⟨Nat.le_of_ble_eq_true rfl, Nat.le_of_ble_eq_true rfl⟩ ⟨by decide, by decide⟩ (Nat.le_of_ble_eq_true rfl) rfl rfl ?_
  refine lv_iconst (v := 1) hx hb dX6_settledPlace_9 (by decide) ?_
  refine cr_X6_93 C hJ (rest := []) (c_X6_memberFault hE (f_place (gof n mm) n p0) 1) dX6_settledPlace_10 hl.1 ⟨Nat.le_of_ble_eq_true rfl, Nat.le_of_ble_eq_true rfl⟩ ⟨by decide, by decide⟩ (Nat.le_of_ble_eq_true rfl) rfl rfl ?_
  refine k_X C hexc hJ (rest := []) (x_59 C hJ (rest := []) (c_X6_refuse hE hX2 (f_mf (f_place (gof n mm) n p0) 1)) dX6_settledPlace_13 hl.1 ⟨Nat.le_of_ble_eq_true rfl, Nat.le_of_ble_eq_true rfl⟩ ⟨by decide, by decide⟩ (Nat.le_of_ble_eq_true rfl) rfl rfl) (fun _ q => q) ⟨by decide, by decide⟩ (fun vr S_13 H locs hP hJ => ?_)
  obtain ⟨rfl, eS, hex_13⟩ := hP
  rw [eS] at hJ
  have hf_13 := fl4_exO (fl4_mf _ _) hex_13
  refine lv_aload_n hx hb dX6_settledPlace_16 rfl (lv_at hl 0 rfl) ?_
  refine g_X6_16 C hJ dX6_settledPlace_17 ?_
  refine lv_aload_n hx hb dX6_settledPlace_20 rfl (lv_at hl 0 rfl) ?_
  refine g_X6_10 C hJ dX6_settledPlace_21 ?_
  refine cw_X6_123 C hJ (k := 1) (by decide) (rest := []) (c_X4_copyFrom hE (k := 1) (by decide) h1 (k2 := 0) (by decide) h (by decide)) dX6_settledPlace_24 hl.1 ⟨Nat.le_of_ble_eq_true rfl, Nat.le_of_ble_eq_true rfl⟩ ⟨by decide, by decide⟩ (Nat.le_of_ble_eq_true rfl) rfl rfl (fun vr S_24 H locs hP hJ => ?_)
  obtain ⟨rfl, hU1⟩ := hP
  have h2 := hU1.2.2
  refine lv_aload_n hx hb dX6_settledPlace_27 rfl (lv_at hl 0 rfl) ?_
  refine g_X6_16 C hJ dX6_settledPlace_28 ?_
  refine cw_X6_126 C hJ (k := 1) (by decide) (rest := []) (c_X4_settleDown hE (k := 1) (by decide) h2 fu hfu) dX6_settledPlace_31 hl.1 ⟨Nat.le_of_ble_eq_true rfl, Nat.le_of_ble_eq_true rfl⟩ ⟨by decide, by decide⟩ (Nat.le_of_ble_eq_true rfl) rfl rfl (fun vr S_31 H locs hP hJ => ?_)
  obtain ⟨rfl, hU3⟩ := hP
  have h4 := hU3.2.2
  refine lv_pop hx hb dX6_settledPlace_34 rfl ?_
  refine lv_aload_n hx hb dX6_settledPlace_35 rfl (lv_at hl 0 rfl) ?_
  refine g_X6_16 C hJ dX6_settledPlace_36 ?_
  refine lv_iload_n hx hb dX6_settledPlace_39 rfl (lv_at hl 1 rfl) ?_
  refine cr_X6_89 C hJ (k := 1) (by decide) (rest := []) (cu_placeOf hE (k := 1) (by decide) h4 p0) dX6_settledPlace_40 hl.1 ⟨Nat.le_of_ble_eq_true rfl, Nat.le_of_ble_eq_true rfl⟩ ⟨by decide, by decide⟩ (Nat.le_of_ble_eq_true rfl) rfl rfl ?_
  exact rX_i C hJ hr rfl (⟨hf_13, rfl, (hXI.up1 hU1).up1 hU3, hU3.1.trans hU1.1⟩) dX6_settledPlace_43 ⟨by decide, by decide⟩
set_option maxHeartbeats 4000000 in
set_option maxRecDepth 100000 in
theorem c_X6_profit {l : Launch} {E : GE} (hE : Env0 E) {S : ST} {u_x : Nat × Nat × Nat} (hX2 : Env2 l E u_x) {n : Nat} {z : Nat → Int32} {mm : Nat → Nat → Int32} {mc : Nat} {sv : Nat → LVt} (hXI : XI S (n, z, mm) mc sv) (p0 p1 : Int32) (fu : Nat) (hfu : fu = 1000) : MX l E yX6_profit cX6_profit 4 (some .int) 7 116 1 6 S [.ref (gA E 83), .int p0, .int p1] (fun v S1 => f_mf (f_place (gof n mm) n p0) (bI (f_in p1 0 99)) = 0 ∧ v = some (.int (f_pro fu n z mm (f_place (gof n mm) n p0).toNatClampNeg p1)) ∧ XI S1 (n, z, mm) mc sv ∧ S1.2 = S.2) (fun x => exO (f_mf (f_place (gof n mm) n p0) (bI (f_in p1 0 99))) = some x) := by
  have h : LnIs (sL S) 0 n z mm := hXI.1
  have hn := h.1.1
  refine MX.of hE (by decide) (Nat.le_of_ble_eq_true rfl) ?_
  intro p e s m below meth c ls C hexc hJ hr hl
  have hx := C.x
  have hb := C.b
  have hl : lv_has ls 4 [(0, .ref (gA E 83)), (1, .int p0), (2, .int p1)] := hl
  refine lv_aload_n hx hb dX6_profit_0 rfl (lv_at hl 0 rfl) ?_
  refine g_X6_10 C hJ dX6_profit_1 ?_
  refine lv_iload_n hx hb dX6_profit_4 rfl (lv_at hl 1 rfl) ?_
  refine cr_X6_89 C hJ (k := 0) (by decide) (rest := []) (cu_placeOf hE (k := 0) (by decide) h p0) dX6_profit_5 hl.1 ⟨Nat.le_of_ble_eq_true rfl, Nat.le_of_ble_eq_true rfl⟩ ⟨by decide, by decide⟩ (Nat.le_of_ble_eq_true rfl) rfl rfl ?_
  refine lv_istore_n (lv' := [(3, .int (f_place (gof n mm) n p0)), (0, .ref (gA E 83)), (1, .int p0), (2, .int p1)]) hx hb dX6_profit_8 rfl hl (by decide) rfl (fun ls hl => ?_)
  refine lv_aload_n hx hb dX6_profit_9 rfl (lv_at hl 1 rfl) ?_
  refine lv_iload_n hx hb dX6_profit_10 rfl (lv_at hl 0 rfl) ?_
  refine lv_iload_n hx hb dX6_profit_11 rfl (lv_at hl 3 rfl) ?_
  refine lv_iconst (v := 0) hx hb dX6_profit_12 (by decide) ?_
  refine lv_bipush (v := 99) hx hb dX6_profit_13 (by decide) ?_
  refine cr_X6_55 C hJ (rest := [.int (f_place (gof n mm) n p0), .ref (gA E 83)]) (c_X6_isWithin hE p1 0 99) dX6_profit_15 hl.1 ⟨Nat.le_of_ble_eq_true rfl, Nat.le_of_ble_eq_true rfl⟩ ⟨by decide, by decide⟩ (Nat.le_of_ble_eq_true rfl) rfl rfl ?_
  refine cr_X6_93 C hJ (rest := []) (c_X6_memberFault hE (f_place (gof n mm) n p0) (bI (f_in p1 0 99))) dX6_profit_18 hl.1 ⟨Nat.le_of_ble_eq_true rfl, Nat.le_of_ble_eq_true rfl⟩ ⟨by decide, by decide⟩ (Nat.le_of_ble_eq_true rfl) rfl rfl ?_
  refine k_X C hexc hJ (rest := []) (x_59 C hJ (rest := []) (c_X6_refuse hE hX2 (f_mf (f_place (gof n mm) n p0) (bI (f_in p1 0 99)))) dX6_profit_21 hl.1 ⟨Nat.le_of_ble_eq_true rfl, Nat.le_of_ble_eq_true rfl⟩ ⟨by decide, by decide⟩ (Nat.le_of_ble_eq_true rfl) rfl rfl) (fun _ q => q) ⟨by decide, by decide⟩ (fun vr S_21 H locs hP hJ => ?_)
  obtain ⟨rfl, eS, hex_21⟩ := hP
  rw [eS] at hJ
  have hf_21 := fl4_exO (fl4_mf _ _) hex_21
  obtain ⟨P, hP0, eP, _⟩ := mf_in hf_21
  refine lv_aload_n hx hb dX6_profit_24 rfl (lv_at hl 1 rfl) ?_
  refine lv_iload_n hx hb dX6_profit_25 rfl (lv_at hl 0 rfl) ?_
  refine lv_iload_n hx hb dX6_profit_26 rfl (lv_at hl 3 rfl) ?_
  obtain ⟨n1_27, z1_27, mm1_27, h1_27⟩ := hXI.ln1
  refine cw_X6_130 C hJ (rest := []) ((show MW l E yX6_profitAt cX6_profitAt 6 (some .int) 4 91 S [.ref (gA E 83), .int (f_place (gof n mm) n p0), .int (p1)] (fun v S1 => v = some (.int (f_pro fu n z mm P (p1))) ∧ ∃ z2 mm2, Up S S1 1 n z2 mm2) by rw [eP]; exact c_X6_profitAt hE hXI.1 h1_27 P hP0 (p1) fu hfu)) dX6_profit_27 hl.1 ⟨Nat.le_of_ble_eq_true rfl, Nat.le_of_ble_eq_true rfl⟩ ⟨by decide, by decide⟩ (Nat.le_of_ble_eq_true rfl) rfl rfl (fun vr S_27 H locs hP hJ => ?_)
  obtain ⟨rfl, z2_27, mm2_27, hU_27⟩ := hP
  have hX27 := hXI.up1 hU_27
  exact rX_i C hJ hr rfl (⟨hf_21, by rw [eP, nI_clamp (by omega)], hX27, hU_27.1⟩) dX6_profit_30 ⟨by decide, by decide⟩
set_option maxHeartbeats 4000000 in
set_option maxRecDepth 100000 in
theorem c_X6_bestLie {l : Launch} {E : GE} (hE : Env0 E) {S : ST} {u_x : Nat × Nat × Nat} (hX2 : Env2 l E u_x) {n : Nat} {z : Nat → Int32} {mm : Nat → Nat → Int32} {mc : Nat} {sv : Nat → LVt} (hXI : XI S (n, z, mm) mc sv) (p0 : Int32) (fu : Nat) (hfu : fu = 1000) : MX l E yX6_bestLie cX6_bestLie 7 (some .int) 7 116 1 6 S [.ref (gA E 83), .int p0] (fun v S1 => f_mf (f_place (gof n mm) n p0) 1 = 0 ∧ v = some (.int ((t_lie (fun w => f_pro fu n z mm (f_place (gof n mm) n p0).toNatClampNeg (nI w)) 99).2)) ∧ XI S1 (n, z, mm) mc sv ∧ S1.2 = S.2) (fun x => exO (f_mf (f_place (gof n mm) n p0) 1) = some x) := by
  have h : LnIs (sL S) 0 n z mm := hXI.1
  have hn := h.1.1
  refine MX.of hE (by decide) (Nat.le_of_ble_eq_true rfl) ?_
  intro p e s m below meth c ls C hexc hJ hr hl
  have hx := C.x
  have hb := C.b
  have hl : lv_has ls 7 [(0, .ref (gA E 83)), (1, .int p0)] := hl
  refine lv_aload_n hx hb dX6_bestLie_0 rfl (lv_at hl 0 rfl) ?_
  refine g_X6_10 C hJ dX6_bestLie_1 ?_
  refine lv_iload_n hx hb dX6_bestLie_4 rfl (lv_at hl 1 rfl) ?_
  refine cr_X6_89 C hJ (k := 0) (by decide) (rest := []) (cu_placeOf hE (k := 0) (by decide) h p0) dX6_bestLie_5 hl.1 ⟨Nat.le_of_ble_eq_true rfl, Nat.le_of_ble_eq_true rfl⟩ ⟨by decide, by decide⟩ (Nat.le_of_ble_eq_true rfl) rfl rfl ?_
  refine lv_istore_n (lv' := [(2, .int (f_place (gof n mm) n p0)), (0, .ref (gA E 83)), (1, .int p0)]) hx hb dX6_bestLie_8 rfl hl (by decide) rfl (fun ls hl => ?_)
  refine lv_aload_n hx hb dX6_bestLie_9 rfl (lv_at hl 1 rfl) ?_
  refine lv_iload_n hx hb dX6_bestLie_10 rfl (lv_at hl 0 rfl) ?_
  refine lv_iconst (v := 1) hx hb dX6_bestLie_11 (by decide) ?_
  refine cr_X6_93 C hJ (rest := []) (c_X6_memberFault hE (f_place (gof n mm) n p0) 1) dX6_bestLie_12 hl.1 ⟨Nat.le_of_ble_eq_true rfl, Nat.le_of_ble_eq_true rfl⟩ ⟨by decide, by decide⟩ (Nat.le_of_ble_eq_true rfl) rfl rfl ?_
  refine k_X C hexc hJ (rest := []) (x_59 C hJ (rest := []) (c_X6_refuse hE hX2 (f_mf (f_place (gof n mm) n p0) 1)) dX6_bestLie_15 hl.1 ⟨Nat.le_of_ble_eq_true rfl, Nat.le_of_ble_eq_true rfl⟩ ⟨by decide, by decide⟩ (Nat.le_of_ble_eq_true rfl) rfl rfl) (fun _ q => q) ⟨by decide, by decide⟩ (fun vr S_15 H locs hP hJ => ?_)
  obtain ⟨rfl, eS, hex_15⟩ := hP
  rw [eS] at hJ
  have hf_15 := fl4_exO (fl4_mf _ _) hex_15
  obtain ⟨P, hP0, eP, _⟩ := mf_in hf_15
  refine lv_iconst (v := 0) hx hb dX6_bestLie_18 (by decide) ?_
  refine lv_istore_n (lv' := [(3, .int 0), (2, .int (f_place (gof n mm) n p0)), (0, .ref (gA E 83)), (1, .int p0)]) hx hb dX6_bestLie_19 rfl hl (by decide) rfl (fun ls hl => ?_)
  refine lv_aload_n hx hb dX6_bestLie_20 rfl (lv_at hl 2 rfl) ?_
  refine lv_iload_n hx hb dX6_bestLie_21 rfl (lv_at hl 1 rfl) ?_
  refine lv_iconst (v := 0) hx hb dX6_bestLie_22 (by decide) ?_
  obtain ⟨n1_23, z1_23, mm1_23, h1_23⟩ := hXI.ln1
  refine cw_X6_130 C hJ (rest := []) ((show MW l E yX6_profitAt cX6_profitAt 6 (some .int) 4 91 S [.ref (gA E 83), .int (f_place (gof n mm) n p0), .int (0)] (fun v S1 => v = some (.int (f_pro fu n z mm P (0))) ∧ ∃ z2 mm2, Up S S1 1 n z2 mm2) by rw [eP]; exact c_X6_profitAt hE hXI.1 h1_23 P hP0 (0) fu hfu)) dX6_bestLie_23 hl.1 ⟨Nat.le_of_ble_eq_true rfl, Nat.le_of_ble_eq_true rfl⟩ ⟨by decide, by decide⟩ (Nat.le_of_ble_eq_true rfl) rfl rfl (fun vr S_23 H locs hP hJ => ?_)
  obtain ⟨rfl, z2_23, mm2_23, hU_23⟩ := hP
  have hX23 := hXI.up1 hU_23
  refine lv_istore (lv' := [(4, .int (f_pro fu n z mm P 0)), (3, .int 0), (2, .int (f_place (gof n mm) n p0)), (0, .ref (gA E 83)), (1, .int p0)]) hx hb dX6_bestLie_26 hl (by decide) rfl (fun ls hl => ?_)
  refine lv_iconst (v := 1) hx hb dX6_bestLie_28 (by decide) ?_
  refine lv_istore (lv' := [(5, .int 1), (4, .int (f_pro fu n z mm P 0)), (3, .int 0), (2, .int (f_place (gof n mm) n p0)), (0, .ref (gA E 83)), (1, .int p0)]) hx hb dX6_bestLie_29 hl (by decide) rfl (fun ls hl => ?_)
  have lp : ∀ (d : Nat) (i : Nat) (xb xm : Int32) (T : ST) (H : Heap) (locs : List Loc) (ls : Array Slot), (1 ≤ i ∧ i ≤ 100) → (100 < i + d) → (t_lie (fun w => f_pro fu n z mm P (nI w)) (i - 1) = (xm, xb)) → (XI T (n, z, mm) mc sv) → (T.2 = S.2) → JJ E T H locs → lv_has ls 7 [(0, .ref (gA E 83)), (1, .int p0), (2, .int (f_place (gof n mm) n p0)), (3, .int xb), (4, .int xm), (5, .int (nI i))] → W p l e (rmX 7 116 1 6) s m ([.ref (gA E 83), .int p0] : List Value).toArray below meth c H locs (0 + 1) (0 + 6) (XQ below ([.ref (gA E 83), .int p0] : List Value).toArray s E (fun v S1 => f_mf (f_place (gof n mm) n p0) 1 = 0 ∧ v = some (.int ((t_lie (fun w => f_pro fu n z mm (f_place (gof n mm) n p0).toNatClampNeg (nI w)) 99).2)) ∧ XI S1 (n, z, mm) mc sv ∧ S1.2 = S.2) S (fun x => exO (f_mf (f_place (gof n mm) n p0) 1) = some x) 1 6) (F0 m 31 ls []) := by
    intro d
    induction d with
    | zero =>
      intro i xb xm T H locs ls hi hd hv hX7 hS7 hJ hl
      omega
    | succ d ih_lp =>
      intro i xb xm T H locs ls hi hd hv hX7 hS7 hJ hl
      refine lv_iload hx hb dX6_bestLie_31 (lv_at hl 5 rfl) ?_
      refine lv_bipush (v := 99) hx hb dX6_bestLie_33 (by decide) ?_
      refine lv_icmp_gt (tgt := 67) hx hb dX6_bestLie_35 (by decide) (fun c_35 => ?_) (fun c_35 => ?_)
      · skip
        have e9 : i = 100 := by
          rcases Nat.lt_or_ge i 100 with q | q
          · exact absurd c_35 (Int32.not_lt.mpr (nI_le (b := 99) (by omega) (by decide)))
          · omega
        have hfin : t_lie (fun w => f_pro fu n z mm P (nI w)) 99 = (xm, xb) := by rw [e9] at hv; exact hv
        refine lv_iload_n hx hb dX6_bestLie_67 rfl (lv_at hl 3 rfl) ?_
        exact rX_i C hJ hr rfl (⟨hf_15, by rw [eP, nI_clamp (by omega), hfin], hX7, hS7⟩) dX6_bestLie_68 ⟨by decide, by decide⟩
      · skip
        have hlt : i ≤ 99 := by
          rcases Nat.lt_or_ge i 100 with q | q
          · omega
          · exact absurd (nI_lt (a := 99) (b := i) (by omega) (by omega)) c_35
        have hu : t_lie (fun w => f_pro fu n z mm P (nI w)) (i + 1 - 1) = if (fun w => f_pro fu n z mm P (nI w)) i ≤ (t_lie (fun w => f_pro fu n z mm P (nI w)) (i - 1)).1 then t_lie (fun w => f_pro fu n z mm P (nI w)) (i - 1) else ((fun w => f_pro fu n z mm P (nI w)) i, nI i) := by
          obtain ⟨u_k, rfl⟩ : ∃ u_k, i = u_k + 1 := ⟨i - 1, by omega⟩
          rfl
        refine lv_aload_n hx hb dX6_bestLie_38 rfl (lv_at hl 0 rfl) ?_
        refine lv_iload_n hx hb dX6_bestLie_39 rfl (lv_at hl 2 rfl) ?_
        refine lv_iload hx hb dX6_bestLie_40 (lv_at hl 5 rfl) ?_
        obtain ⟨n1_42, z1_42, mm1_42, h1_42⟩ := hX7.ln1
        refine cw_X6_130 C hJ (rest := []) ((show MW l E yX6_profitAt cX6_profitAt 6 (some .int) 4 91 T [.ref (gA E 83), .int (f_place (gof n mm) n p0), .int (nI i)] (fun v S1 => v = some (.int (f_pro fu n z mm P (nI i))) ∧ ∃ z2 mm2, Up T S1 1 n z2 mm2) by rw [eP]; exact c_X6_profitAt hE hX7.1 h1_42 P hP0 (nI i) fu hfu)) dX6_bestLie_42 hl.1 ⟨Nat.le_of_ble_eq_true rfl, Nat.le_of_ble_eq_true rfl⟩ ⟨by decide, by decide⟩ (Nat.le_of_ble_eq_true rfl) rfl rfl (fun vr S_42 H locs hP hJ => ?_)
        obtain ⟨rfl, z2_42, mm2_42, hU_42⟩ := hP
        have hX42 := hX7.up1 hU_42
        refine lv_istore (lv' := [(6, .int (f_pro fu n z mm P (nI i))), (0, .ref (gA E 83)), (1, .int p0), (2, .int (f_place (gof n mm) n p0)), (3, .int xb), (4, .int xm), (5, .int (nI i))]) hx hb dX6_bestLie_45 hl (by decide) rfl (fun ls hl => ?_)
        refine lv_iload hx hb dX6_bestLie_47 (lv_at hl 0 rfl) ?_
        refine lv_iload hx hb dX6_bestLie_49 (lv_at hl 5 rfl) ?_
        refine lv_icmp_le (tgt := 61) hx hb dX6_bestLie_51 (by decide) (fun c_51 => ?_) (fun c_51 => ?_)
        · skip
          have hv2 : t_lie (fun w => f_pro fu n z mm P (nI w)) (i + 1 - 1) = (xm, xb) := by rw [hu, hv, if_pos c_51]
          refine lv_iinc (v := nI (i + 1)) (lv' := [(5, .int (nI (i + 1))), (6, .int (f_pro fu n z mm P (nI i))), (0, .ref (gA E 83)), (1, .int p0), (2, .int (f_place (gof n mm) n p0)), (3, .int xb), (4, .int xm)]) hx hb dX6_bestLie_61 hl (k := 6) rfl (by exact nI_1 i) (by decide) rfl (fun ls hl => ?_)
          refine lv_goto (tgt := 31) hx hb dX6_bestLie_64 (by decide) ?_
          exact ih_lp (i + 1) _ _ S_42 H locs _ ⟨by omega, by omega⟩ (by omega) hv2 hX42 (hU_42.1.trans hS7) hJ (lv_sub hl [2, 3, 4, 5, 6, 0] rfl)
        · skip
          have hv2 : t_lie (fun w => f_pro fu n z mm P (nI w)) (i + 1 - 1) = (f_pro fu n z mm P (nI i), nI i) := by rw [hu, hv, if_neg c_51]
          refine lv_iload hx hb dX6_bestLie_54 (lv_at hl 0 rfl) ?_
          refine lv_istore (lv' := [(4, .int (f_pro fu n z mm P (nI i))), (6, .int (f_pro fu n z mm P (nI i))), (0, .ref (gA E 83)), (1, .int p0), (2, .int (f_place (gof n mm) n p0)), (3, .int xb), (5, .int (nI i))]) hx hb dX6_bestLie_56 hl (by decide) rfl (fun ls hl => ?_)
          refine lv_iload hx hb dX6_bestLie_58 (lv_at hl 6 rfl) ?_
          refine lv_istore_n (lv' := [(3, .int (nI i)), (4, .int (f_pro fu n z mm P (nI i))), (6, .int (f_pro fu n z mm P (nI i))), (0, .ref (gA E 83)), (1, .int p0), (2, .int (f_place (gof n mm) n p0)), (5, .int (nI i))]) hx hb dX6_bestLie_60 rfl hl (by decide) rfl (fun ls hl => ?_)
          refine lv_iinc (v := nI (i + 1)) (lv' := [(5, .int (nI (i + 1))), (3, .int (nI i)), (4, .int (f_pro fu n z mm P (nI i))), (6, .int (f_pro fu n z mm P (nI i))), (0, .ref (gA E 83)), (1, .int p0), (2, .int (f_place (gof n mm) n p0))]) hx hb dX6_bestLie_61 hl (k := 6) rfl (by exact nI_1 i) (by decide) rfl (fun ls hl => ?_)
          refine lv_goto (tgt := 31) hx hb dX6_bestLie_64 (by decide) ?_
          exact ih_lp (i + 1) _ _ S_42 H locs _ ⟨by omega, by omega⟩ (by omega) hv2 hX42 (hU_42.1.trans hS7) hJ (lv_sub hl [4, 5, 6, 1, 2, 0] rfl)
  exact lp 100 1 0 _ S_23 H locs _ ⟨by omega, by omega⟩ (by omega) rfl hX23 hU_23.1 hJ (lv_sub hl [4, 5, 3, 2, 1, 0] rfl)
set_option maxHeartbeats 4000000 in
set_option maxRecDepth 100000 in
theorem c_X6_type {l : Launch} {E : GE} (hE : Env0 E) {S : ST} {u_x : Nat × Nat × Nat} (hX2 : Env2 l E u_x) {n : Nat} {z : Nat → Int32} {mm : Nat → Nat → Int32} {mc : Nat} {sv : Nat → LVt} (hXI : XI S (n, z, mm) mc sv) {u_n u_p : Nat} {u_b u_g : Nat → Int32} {u_f : Int32} {u_c : Option Nat} (hT : TX S u_n u_b u_p u_f u_c u_g) (hN : u_n ≤ 150) (p0 : Int32) : MX l E yX6_type cX6_type 2 (some .int) 7 102 2 12 S [.ref (gA E 83), .int p0] (fun v S1 => (if f_in p0 0 127 = true then (if u_n < 150 then (0 : Int32) else 3) else 2) = 0 ∧ v = some (.int (nI (u_n + 1))) ∧ u_n < 150 ∧ TX S1 (u_n + 1) (upd u_b u_n p0) u_p u_f u_c u_g ∧ RT S S1) (fun x => exO ((if f_in p0 0 127 = true then (if u_n < 150 then (0 : Int32) else 3) else 2)) = some x) := by
  have h : LnIs (sL S) 0 n z mm := hXI.1
  refine MX.of hE (by decide) (Nat.le_of_ble_eq_true rfl) ?_
  intro p e s m below meth c ls C hexc hJ hr hl
  have hx := C.x
  have hb := C.b
  have hl : lv_has ls 2 [(0, .ref (gA E 83)), (1, .int p0)] := hl
  refine lv_iload_n hx hb dX6_type_0 rfl (lv_at hl 1 rfl) ?_
  refine lv_iconst (v := 0) hx hb dX6_type_1 (by decide) ?_
  refine lv_bipush (v := 127) hx hb dX6_type_2 (by decide) ?_
  refine cr_X6_55 C hJ (rest := []) (c_X6_isWithin hE p0 0 127) dX6_type_4 hl.1 ⟨Nat.le_of_ble_eq_true rfl, Nat.le_of_ble_eq_true rfl⟩ ⟨by decide, by decide⟩ (Nat.le_of_ble_eq_true rfl) rfl rfl ?_
  refine lv_if_eq (tgt := 14) hx hb dX6_type_7 (by decide) (fun c_7 => ?_) (fun c_7 => ?_)
  · skip
    have q7 := bI_0 c_7
    have hF : (if f_in p0 0 127 = true then (if u_n < 150 then (0 : Int32) else 3) else 2) = 2 := by rw [if_neg (by rw [q7]; decide)]
    refine lv_iconst (v := 2) hx hb dX6_type_14 (by decide) ?_
    refine k_X C hexc hJ (rest := []) (x_59 C hJ (rest := []) (c_X6_refuse hE hX2 2) dX6_type_15 hl.1 ⟨Nat.le_of_ble_eq_true rfl, Nat.le_of_ble_eq_true rfl⟩ ⟨by decide, by decide⟩ (Nat.le_of_ble_eq_true rfl) rfl rfl) (fun _ q => by rw [hF]; exact q) ⟨by decide, by decide⟩ (fun vr S_15 H locs hP hJ => ?_)
    obtain ⟨rfl, eS, hex_15⟩ := hP
    rw [eS] at hJ
    exact absurd hex_15 (by decide)
  · skip
    have q7 := bI_1 c_7
    have hw9 := f_in_w (u_n := 127) rfl (by decide) q7
    refine lv_iconst (v := 0) hx hb dX6_type_10 (by decide) ?_
    refine lv_goto (tgt := 15) hx hb dX6_type_11 (by decide) ?_
    refine k_X C hexc hJ (rest := []) (x_59 C hJ (rest := []) (c_X6_refuse hE hX2 0) dX6_type_15 hl.1 ⟨Nat.le_of_ble_eq_true rfl, Nat.le_of_ble_eq_true rfl⟩ ⟨by decide, by decide⟩ (Nat.le_of_ble_eq_true rfl) rfl rfl) (fun x q => absurd q (by rw [show exO 0 = none by decide]; intro y; cases y)) ⟨by decide, by decide⟩ (fun vr S_15 H locs hP hJ => ?_)
    obtain ⟨rfl, eS, hex_15⟩ := hP
    rw [eS] at hJ
    refine lv_aload_n hx hb dX6_type_18 rfl (lv_at hl 0 rfl) ?_
    refine g_X6_29 C hJ dX6_type_19 ?_
    refine g_X6_142 C hJ dX6_type_22 ?_
    refine lv_sipush (v := 150) hx hb dX6_type_25 (by decide) ?_
    refine lv_icmp_ge (tgt := 35) hx hb dX6_type_28 (by decide) (fun c_28 => ?_) (fun c_28 => ?_)
    · skip
      have hF : (if f_in p0 0 127 = true then (if u_n < 150 then (0 : Int32) else 3) else 2) = 3 := by
        rcases Nat.lt_or_ge u_n 150 with q | q
        · exact absurd (nI_lt (b := 150) q (by decide)) (Int32.not_lt.mpr (by rw [hT.1] at c_28; exact c_28))
        · rw [if_pos q7, if_neg (by omega)]
      refine lv_iconst (v := 3) hx hb dX6_type_35 (by decide) ?_
      refine k_X C hexc hJ (rest := []) (x_59 C hJ (rest := []) (c_X6_refuse hE hX2 3) dX6_type_36 hl.1 ⟨Nat.le_of_ble_eq_true rfl, Nat.le_of_ble_eq_true rfl⟩ ⟨by decide, by decide⟩ (Nat.le_of_ble_eq_true rfl) rfl rfl) (fun _ q => by rw [hF]; exact q) ⟨by decide, by decide⟩ (fun vr S_36 H locs hP hJ => ?_)
      obtain ⟨rfl, eS, hex_36⟩ := hP
      rw [eS] at hJ
      exact absurd hex_36 (by decide)
    · skip
      have hlt : u_n < 150 := by
        rcases Nat.lt_or_ge u_n 150 with q | q
        · exact q
        · exact absurd (by rw [hT.1]; exact nI_le (a := 150) q (by omega)) c_28
      have hF : (if f_in p0 0 127 = true then (if u_n < 150 then (0 : Int32) else 3) else 2) = 0 := by rw [if_pos q7, if_pos hlt]
      refine lv_iconst (v := 0) hx hb dX6_type_31 (by decide) ?_
      refine lv_goto (tgt := 36) hx hb dX6_type_32 (by decide) ?_
      refine k_X C hexc hJ (rest := []) (x_59 C hJ (rest := []) (c_X6_refuse hE hX2 0) dX6_type_36 hl.1 ⟨Nat.le_of_ble_eq_true rfl, Nat.le_of_ble_eq_true rfl⟩ ⟨by decide, by decide⟩ (Nat.le_of_ble_eq_true rfl) rfl rfl) (fun _ q => by rw [hF]; exact q) ⟨by decide, by decide⟩ (fun vr S_36 H locs hP hJ => ?_)
      obtain ⟨rfl, eS, hex_36⟩ := hP
      rw [eS] at hJ
      refine lv_aload_n hx hb dX6_type_39 rfl (lv_at hl 0 rfl) ?_
      refine g_X6_29 C hJ dX6_type_40 ?_
      refine lv_iload_n hx hb dX6_type_43 rfl (lv_at hl 1 rfl) ?_
      refine cw_X6_145 C hJ (rest := []) ((show MW l E yX2_append cX2_append 2 none 0 0 S [.ref (gA E 80), .int p0] (fun v S1 => v = none ∧ TX S1 (u_n + 1) (upd u_b u_n p0) u_p u_f u_c u_g ∧ RT S S1) by have y := c_X2_append (l := l) hE hT hlt p0.toNatClampNeg (by omega); rw [← hw9.2] at y; exact y)) dX6_type_44 hl.1 ⟨Nat.le_of_ble_eq_true rfl, Nat.le_of_ble_eq_true rfl⟩ ⟨by decide, by decide⟩ (Nat.le_of_ble_eq_true rfl) rfl rfl (fun vr S_44 H locs hP hJ => ?_)
      obtain ⟨rfl, hT2, hR2⟩ := hP
      refine lv_aload_n hx hb dX6_type_47 rfl (lv_at hl 0 rfl) ?_
      refine g_X6_29 C hJ dX6_type_48 ?_
      refine g_X6_142 C hJ dX6_type_51 ?_
      exact rX_i C hJ hr rfl (⟨hF, by rw [hT2.1], hlt, hT2, hR2⟩) dX6_type_54 ⟨by decide, by decide⟩
set_option maxHeartbeats 4000000 in
set_option maxRecDepth 100000 in
theorem c_X6_undo {l : Launch} {E : GE} (hE : Env0 E) {S : ST} {u_x : Nat × Nat × Nat} (hX2 : Env2 l E u_x) {n : Nat} {z : Nat → Int32} {mm : Nat → Nat → Int32} {mc : Nat} {sv : Nat → LVt} (hXI : XI S (n, z, mm) mc sv) : MX l E yX6_undo cX6_undo 1 (some .int) 7 102 1 6 S [.ref (gA E 83)] (fun v S1 => (if 0 < mc then (0 : Int32) else 3) = 0 ∧ v = some (.int (nI (mc - 1))) ∧ 0 < mc ∧ XI S1 (sv (mc - 1)) (mc - 1) sv ∧ S1.2.2 = S.2.2) (fun x => exO ((if 0 < mc then (0 : Int32) else 3)) = some x) := by
  have h : LnIs (sL S) 0 n z mm := hXI.1
  refine MX.of hE (by decide) (Nat.le_of_ble_eq_true rfl) ?_
  intro p e s m below meth c ls C hexc hJ hr hl
  have hx := C.x
  have hb := C.b
  have hl : lv_has ls 1 [(0, .ref (gA E 83))] := hl
  refine lv_aload_n hx hb dX6_undo_0 rfl (lv_at hl 0 rfl) ?_
  refine g_X6_22 C hJ dX6_undo_1 ?_
  refine g_X6_168 C hJ dX6_undo_4 ?_
  refine lv_if_le (tgt := 14) hx hb dX6_undo_7 (by decide) (fun c_7 => ?_) (fun c_7 => ?_)
  · skip
    have hmc : mc = 0 := by
      rcases Nat.eq_zero_or_pos mc with q | q
      · exact q
      · exact absurd (by rw [hXI.2.1.2.1] at c_7; exact c_7) (nI_nle q (by have := hXI.2.1.1; omega))
    have hF : (if 0 < mc then (0 : Int32) else 3) = 3 := by rw [if_neg (by omega)]
    refine lv_iconst (v := 3) hx hb dX6_undo_14 (by decide) ?_
    refine k_X C hexc hJ (rest := []) (x_59 C hJ (rest := []) (c_X6_refuse hE hX2 3) dX6_undo_15 hl.1 ⟨Nat.le_of_ble_eq_true rfl, Nat.le_of_ble_eq_true rfl⟩ ⟨by decide, by decide⟩ (Nat.le_of_ble_eq_true rfl) rfl rfl) (fun _ q => by rw [hF]; exact q) ⟨by decide, by decide⟩ (fun vr S_15 H locs hP hJ => ?_)
    obtain ⟨rfl, eS, hex_15⟩ := hP
    rw [eS] at hJ
    exact absurd hex_15 (by decide)
  · skip
    have hmc : 0 < mc := by
      rcases Nat.eq_zero_or_pos mc with q | q
      · exact absurd (by rw [hXI.2.1.2.1, q]; decide) c_7
      · exact q
    have hF : (if 0 < mc then (0 : Int32) else 3) = 0 := by rw [if_pos hmc]
    refine lv_iconst (v := 0) hx hb dX6_undo_10 (by decide) ?_
    refine lv_goto (tgt := 15) hx hb dX6_undo_11 (by decide) ?_
    refine k_X C hexc hJ (rest := []) (x_59 C hJ (rest := []) (c_X6_refuse hE hX2 0) dX6_undo_15 hl.1 ⟨Nat.le_of_ble_eq_true rfl, Nat.le_of_ble_eq_true rfl⟩ ⟨by decide, by decide⟩ (Nat.le_of_ble_eq_true rfl) rfl rfl) (fun _ q => by rw [hF]; exact q) ⟨by decide, by decide⟩ (fun vr S_15 H locs hP hJ => ?_)
    obtain ⟨rfl, eS, hex_15⟩ := hP
    rw [eS] at hJ
    refine lv_aload_n hx hb dX6_undo_18 rfl (lv_at hl 0 rfl) ?_
    refine g_X6_22 C hJ dX6_undo_19 ?_
    refine lv_aload_n hx hb dX6_undo_22 rfl (lv_at hl 0 rfl) ?_
    refine g_X6_10 C hJ dX6_undo_23 ?_
    refine cw_X6_171 C hJ (rest := []) (c_X3_popInto hE hXI hmc) dX6_undo_26 hl.1 ⟨Nat.le_of_ble_eq_true rfl, Nat.le_of_ble_eq_true rfl⟩ ⟨by decide, by decide⟩ (Nat.le_of_ble_eq_true rfl) rfl rfl (fun vr S_26 H locs hP hJ => ?_)
    obtain ⟨rfl, hX26, hR26⟩ := hP
    refine lv_aload_n hx hb dX6_undo_29 rfl (lv_at hl 0 rfl) ?_
    refine g_X6_22 C hJ dX6_undo_30 ?_
    refine g_X6_168 C hJ dX6_undo_33 ?_
    exact rX_i C hJ hr rfl (⟨hF, by rw [hX26.2.1.2.1], hmc, hX26, hR26⟩) dX6_undo_36 ⟨by decide, by decide⟩
