/-! PUBLIC CALLS of the queue where nothing is refused (by program) -/
set_option maxHeartbeats 4000000 in
set_option maxRecDepth 100000 in
theorem c_X6_refuse {l : Launch} {E : GE} (hE : Env0 E) {S : ST}  : MR l E yX6_refuse cX6_refuse 1 (none : Option Jvm.ClassFile.FieldType) 0 0 S [.int 0] none := by
  refine MR.of hE (by decide) (Nat.le_of_ble_eq_true rfl) ?_
  intro p e s m below meth c ls C hJ hr hl
  have hx := C.x
  have hb := C.b
  have hl : lv_has ls 1 [(0, .int 0)] := hl
  refine lv_iload_n hx hb dX6_refuse_0 rfl (lv_at hl 0 rfl) ?_
  refine lv_iconst (v := 1) hx hb dX6_refuse_1 (by decide) ?_
  refine lv_icmp_ne (tgt := 16) hx hb dX6_refuse_2 (by decide) (fun c_2 => ?_) (fun c_2 => ?_)
  · skip
    refine lv_iload_n hx hb dX6_refuse_16 rfl (lv_at hl 0 rfl) ?_
    refine lv_iconst (v := 2) hx hb dX6_refuse_17 (by decide) ?_
    refine lv_icmp_ne (tgt := 32) hx hb dX6_refuse_18 (by decide) (fun c_18 => ?_) (fun c_18 => ?_)
    · skip
      refine lv_iload_n hx hb dX6_refuse_32 rfl (lv_at hl 0 rfl) ?_
      refine lv_iconst (v := 3) hx hb dX6_refuse_33 (by decide) ?_
      refine lv_icmp_ne (tgt := 48) hx hb dX6_refuse_34 (by decide) (fun c_34 => ?_) (fun c_34 => ?_)
      · skip
        exact rR_v C hr dX6_refuse_48
      · skip
        exact absurd c_34 (by decide)
    · skip
      exact absurd c_18 (by decide)
  · skip
    exact absurd c_2 (by decide)
set_option maxHeartbeats 4000000 in
set_option maxRecDepth 100000 in
theorem c_X6_perform {l : Launch} {E : GE} (hE : Env0 E) {S : ST} {X : EX} (hX : Env1 E X) {n : Nat} {z : Nat → Int32} {mm : Nat → Nat → Int32} {mc : Nat} {sv : Nat → LVt} (hXI : XI S (n, z, mm) mc sv) {u_j : Nat} (hj : u_j < 11) (p0 p1 p2 : Int32) (fu : Nat) (hfu : fu = 1000) (hf0 : f_ft (gof n mm) n u_j p0 p1 p2 = 0) : MW l E yX6_perform cX6_perform 5 (some .int) 5 115 S [.ref (gA E 83), .ref (gN E u_j), .int p0, .int p1, .int p2] (fun v S1 => v = some (.int ((f_co fu n z mm u_j p0 p1 p2).1)) ∧ XI S1 (f_co fu n z mm u_j p0 p1 p2).2 (f_push (n, z, mm) mc sv).1 (f_push (n, z, mm) mc sv).2 ∧ S1.2.2 = S.2.2) := by
  have h : LnIs (sL S) 0 n z mm := hXI.1
  refine MW.of hE (by decide) (Nat.le_of_ble_eq_true rfl) ?_
  intro p e s m below meth c ls C hJ hr hl
  have hx := C.x
  have hb := C.b
  have hl : lv_has ls 5 [(0, .ref (gA E 83)), (1, .ref (gN E u_j)), (2, .int p0), (3, .int p1), (4, .int p2)] := hl
  refine lv_aload_n hx hb dX6_perform_0 rfl (lv_at hl 0 rfl) ?_
  refine lv_aload_n hx hb dX6_perform_1 rfl (lv_at hl 1 rfl) ?_
  refine lv_iload_n hx hb dX6_perform_2 rfl (lv_at hl 2 rfl) ?_
  refine lv_iload_n hx hb dX6_perform_3 rfl (lv_at hl 3 rfl) ?_
  refine lv_iload hx hb dX6_perform_4 (lv_at hl 4 rfl) ?_
  refine cr_X6_198 C hJ (rest := []) (c_X6_faultOf hE hX h hj p0 p1 p2) dX6_perform_6 hl.1 ⟨Nat.le_of_ble_eq_true rfl, Nat.le_of_ble_eq_true rfl⟩ ⟨Nat.le_refl _, Nat.le_refl _⟩ (Nat.le_of_ble_eq_true rfl) rfl rfl ?_
  refine cr_X6_59 C hJ (rest := []) ((show MR l E yX6_refuse cX6_refuse 1 none 0 0 S [.int (f_ft (gof n mm) n u_j p0 p1 p2)] none by rw [hf0]; exact c_X6_refuse hE)) dX6_perform_9 hl.1 ⟨Nat.le_of_ble_eq_true rfl, Nat.le_of_ble_eq_true rfl⟩ ⟨Nat.le_refl _, Nat.le_refl _⟩ (Nat.le_of_ble_eq_true rfl) rfl rfl ?_
  refine lv_aload_n hx hb dX6_perform_12 rfl (lv_at hl 0 rfl) ?_
  refine g_X6_22 C hJ dX6_perform_13 ?_
  refine lv_aload_n hx hb dX6_perform_16 rfl (lv_at hl 0 rfl) ?_
  refine g_X6_10 C hJ dX6_perform_17 ?_
  refine cw_X6_63 C hJ (rest := []) (c_X3_push hE hXI) dX6_perform_20 hl.1 ⟨Nat.le_of_ble_eq_true rfl, Nat.le_of_ble_eq_true rfl⟩ ⟨Nat.le_refl _, Nat.le_refl _⟩ (Nat.le_of_ble_eq_true rfl) rfl rfl (fun vr S_20 H locs hP hJ => ?_)
  obtain ⟨rfl, hX20, hR20⟩ := hP
  refine lv_aload_n hx hb dX6_perform_23 rfl (lv_at hl 0 rfl) ?_
  refine lv_aload_n hx hb dX6_perform_24 rfl (lv_at hl 1 rfl) ?_
  refine lv_iload_n hx hb dX6_perform_25 rfl (lv_at hl 2 rfl) ?_
  refine lv_iload_n hx hb dX6_perform_26 rfl (lv_at hl 3 rfl) ?_
  refine lv_iload hx hb dX6_perform_27 (lv_at hl 4 rfl) ?_
  refine cw_X6_201 C hJ (rest := []) (c_X6_carryOut hE hX hX20.1 hj p0 p1 p2 hf0 fu hfu) dX6_perform_29 hl.1 ⟨Nat.le_of_ble_eq_true rfl, Nat.le_of_ble_eq_true rfl⟩ ⟨Nat.le_refl _, Nat.le_refl _⟩ (Nat.le_of_ble_eq_true rfl) rfl rfl (fun vr S_29 H locs hP hJ => ?_)
  obtain ⟨rfl, hU⟩ := hP
  exact rW_i C hJ hr rfl (⟨rfl, hX20.up hU, (congrArg (fun q => q.2) hU.1).trans hR20⟩) dX6_perform_32
set_option maxHeartbeats 4000000 in
set_option maxRecDepth 100000 in
theorem c_X6_join {l : Launch} {E : GE} (hE : Env0 E) {S : ST} {X : EX} (hX : Env1 E X) {n : Nat} {z : Nat → Int32} {mm : Nat → Nat → Int32} {mc : Nat} {sv : Nat → LVt} (hXI : XI S (n, z, mm) mc sv) (p0 p1 : Int32) (fu : Nat) (hfu : fu = 1000) (hf0 : f_ft (gof n mm) n 0 p0 p1 0 = 0) : MW l E yX6_join cX6_join 3 (some .int) 6 139 S [.ref (gA E 83), .int p0, .int p1] (fun v S1 => v = some (.int ((f_co fu n z mm 0 p0 p1 0).1)) ∧ XI S1 (f_co fu n z mm 0 p0 p1 0).2 (f_push (n, z, mm) mc sv).1 (f_push (n, z, mm) mc sv).2 ∧ S1.2.2 = S.2.2) := by
  have h : LnIs (sL S) 0 n z mm := hXI.1
  refine MW.of hE (by decide) (Nat.le_of_ble_eq_true rfl) ?_
  intro p e s m below meth c ls C hJ hr hl
  have hx := C.x
  have hb := C.b
  have hl : lv_has ls 3 [(0, .ref (gA E 83)), (1, .int p0), (2, .int p1)] := hl
  refine lv_aload_n hx hb dX6_join_0 rfl (lv_at hl 0 rfl) ?_
  refine i_Z C hJ (hX.1.1 0 (by decide)).1 kf_X6_33 rfl dX6_join_1 ?_
  refine lv_iload_n hx hb dX6_join_4 rfl (lv_at hl 1 rfl) ?_
  refine lv_iload_n hx hb dX6_join_5 rfl (lv_at hl 2 rfl) ?_
  refine lv_iconst (v := 0) hx hb dX6_join_6 (by decide) ?_
  refine cw_X6_39 C hJ (rest := []) (c_X6_perform hE hX hXI (u_j := 0) (by decide) p0 p1 0 fu hfu hf0) dX6_join_7 hl.1 ⟨Nat.le_of_ble_eq_true rfl, Nat.le_of_ble_eq_true rfl⟩ ⟨Nat.le_refl _, Nat.le_refl _⟩ (Nat.le_of_ble_eq_true rfl) rfl rfl (fun vr S_7 H locs hP hJ => ?_)
  obtain ⟨rfl, hX9, hR9⟩ := hP
  exact rW_i C hJ hr rfl (⟨rfl, hX9, hR9⟩) dX6_join_10
set_option maxHeartbeats 4000000 in
set_option maxRecDepth 100000 in
theorem c_X6_joinAt {l : Launch} {E : GE} (hE : Env0 E) {S : ST} {X : EX} (hX : Env1 E X) {n : Nat} {z : Nat → Int32} {mm : Nat → Nat → Int32} {mc : Nat} {sv : Nat → LVt} (hXI : XI S (n, z, mm) mc sv) (p0 p1 p2 : Int32) (fu : Nat) (hfu : fu = 1000) (hf0 : f_ft (gof n mm) n 1 p0 p1 p2 = 0) : MW l E yX6_joinAt cX6_joinAt 4 (some .int) 6 139 S [.ref (gA E 83), .int p0, .int p1, .int p2] (fun v S1 => v = some (.int ((f_co fu n z mm 1 p0 p1 p2).1)) ∧ XI S1 (f_co fu n z mm 1 p0 p1 p2).2 (f_push (n, z, mm) mc sv).1 (f_push (n, z, mm) mc sv).2 ∧ S1.2.2 = S.2.2) := by
  have h : LnIs (sL S) 0 n z mm := hXI.1
  refine MW.of hE (by decide) (Nat.le_of_ble_eq_true rfl) ?_
  intro p e s m below meth c ls C hJ hr hl
  have hx := C.x
  have hb := C.b
  have hl : lv_has ls 4 [(0, .ref (gA E 83)), (1, .int p0), (2, .int p1), (3, .int p2)] := hl
  refine lv_aload_n hx hb dX6_joinAt_0 rfl (lv_at hl 0 rfl) ?_
  refine i_Z C hJ (hX.1.1 1 (by decide)).1 kf_X6_43 rfl dX6_joinAt_1 ?_
  refine lv_iload_n hx hb dX6_joinAt_4 rfl (lv_at hl 1 rfl) ?_
  refine lv_iload_n hx hb dX6_joinAt_5 rfl (lv_at hl 2 rfl) ?_
  refine lv_iload_n hx hb dX6_joinAt_6 rfl (lv_at hl 3 rfl) ?_
  refine cw_X6_39 C hJ (rest := []) (c_X6_perform hE hX hXI (u_j := 1) (by decide) p0 p1 p2 fu hfu hf0) dX6_joinAt_7 hl.1 ⟨Nat.le_of_ble_eq_true rfl, Nat.le_of_ble_eq_true rfl⟩ ⟨Nat.le_refl _, Nat.le_refl _⟩ (Nat.le_of_ble_eq_true rfl) rfl rfl (fun vr S_7 H locs hP hJ => ?_)
  obtain ⟨rfl, hX9, hR9⟩ := hP
  exact rW_i C hJ hr rfl (⟨rfl, hX9, hR9⟩) dX6_joinAt_10
set_option maxHeartbeats 4000000 in
set_option maxRecDepth 100000 in
theorem c_X6_leave {l : Launch} {E : GE} (hE : Env0 E) {S : ST} {X : EX} (hX : Env1 E X) {n : Nat} {z : Nat → Int32} {mm : Nat → Nat → Int32} {mc : Nat} {sv : Nat → LVt} (hXI : XI S (n, z, mm) mc sv) (p0 : Int32) (fu : Nat) (hfu : fu = 1000) (hf0 : f_ft (gof n mm) n 2 p0 0 0 = 0) : MW l E yX6_leave cX6_leave 2 (some .int) 6 139 S [.ref (gA E 83), .int p0] (fun v S1 => v = some (.int ((f_co fu n z mm 2 p0 0 0).1)) ∧ XI S1 (f_co fu n z mm 2 p0 0 0).2 (f_push (n, z, mm) mc sv).1 (f_push (n, z, mm) mc sv).2 ∧ S1.2.2 = S.2.2) := by
  have h : LnIs (sL S) 0 n z mm := hXI.1
  refine MW.of hE (by decide) (Nat.le_of_ble_eq_true rfl) ?_
  intro p e s m below meth c ls C hJ hr hl
  have hx := C.x
  have hb := C.b
  have hl : lv_has ls 2 [(0, .ref (gA E 83)), (1, .int p0)] := hl
  refine lv_aload_n hx hb dX6_leave_0 rfl (lv_at hl 0 rfl) ?_
  refine i_Z C hJ (hX.1.1 2 (by decide)).1 kf_X6_46 rfl dX6_leave_1 ?_
  refine lv_iload_n hx hb dX6_leave_4 rfl (lv_at hl 1 rfl) ?_
  refine lv_iconst (v := 0) hx hb dX6_leave_5 (by decide) ?_
  refine lv_iconst (v := 0) hx hb dX6_leave_6 (by decide) ?_
  refine cw_X6_39 C hJ (rest := []) (c_X6_perform hE hX hXI (u_j := 2) (by decide) p0 0 0 fu hfu hf0) dX6_leave_7 hl.1 ⟨Nat.le_of_ble_eq_true rfl, Nat.le_of_ble_eq_true rfl⟩ ⟨Nat.le_refl _, Nat.le_refl _⟩ (Nat.le_of_ble_eq_true rfl) rfl rfl (fun vr S_7 H locs hP hJ => ?_)
  obtain ⟨rfl, hX9, hR9⟩ := hP
  exact rW_i C hJ hr rfl (⟨rfl, hX9, hR9⟩) dX6_leave_10
set_option maxHeartbeats 4000000 in
set_option maxRecDepth 100000 in
theorem c_X6_serve {l : Launch} {E : GE} (hE : Env0 E) {S : ST} {X : EX} (hX : Env1 E X) {n : Nat} {z : Nat → Int32} {mm : Nat → Nat → Int32} {mc : Nat} {sv : Nat → LVt} (hXI : XI S (n, z, mm) mc sv) (fu : Nat) (hfu : fu = 1000) (hf0 : f_ft (gof n mm) n 9 0 0 0 = 0) : MW l E yX6_serve cX6_serve 1 (some .int) 6 139 S [.ref (gA E 83)] (fun v S1 => v = some (.int ((f_co fu n z mm 9 0 0 0).1)) ∧ XI S1 (f_co fu n z mm 9 0 0 0).2 (f_push (n, z, mm) mc sv).1 (f_push (n, z, mm) mc sv).2 ∧ S1.2.2 = S.2.2) := by
  have h : LnIs (sL S) 0 n z mm := hXI.1
  refine MW.of hE (by decide) (Nat.le_of_ble_eq_true rfl) ?_
  intro p e s m below meth c ls C hJ hr hl
  have hx := C.x
  have hb := C.b
  have hl : lv_has ls 1 [(0, .ref (gA E 83))] := hl
  refine lv_aload_n hx hb dX6_serve_0 rfl (lv_at hl 0 rfl) ?_
  refine i_Z C hJ (hX.1.1 9 (by decide)).1 kf_X6_49 rfl dX6_serve_1 ?_
  refine lv_iconst (v := 0) hx hb dX6_serve_4 (by decide) ?_
  refine lv_iconst (v := 0) hx hb dX6_serve_5 (by decide) ?_
  refine lv_iconst (v := 0) hx hb dX6_serve_6 (by decide) ?_
  refine cw_X6_39 C hJ (rest := []) (c_X6_perform hE hX hXI (u_j := 9) (by decide) 0 0 0 fu hfu hf0) dX6_serve_7 hl.1 ⟨Nat.le_of_ble_eq_true rfl, Nat.le_of_ble_eq_true rfl⟩ ⟨Nat.le_refl _, Nat.le_refl _⟩ (Nat.le_of_ble_eq_true rfl) rfl rfl (fun vr S_7 H locs hP hJ => ?_)
  obtain ⟨rfl, hX9, hR9⟩ := hP
  exact rW_i C hJ hr rfl (⟨rfl, hX9, hR9⟩) dX6_serve_10
set_option maxHeartbeats 4000000 in
set_option maxRecDepth 100000 in
theorem c_X6_say {l : Launch} {E : GE} (hE : Env0 E) {S : ST} {X : EX} (hX : Env1 E X) {n : Nat} {z : Nat → Int32} {mm : Nat → Nat → Int32} {mc : Nat} {sv : Nat → LVt} (hXI : XI S (n, z, mm) mc sv) (p0 p1 : Int32) (fu : Nat) (hfu : fu = 1000) (hf0 : f_ft (gof n mm) n 3 p0 p1 0 = 0) : MW l E yX6_say cX6_say 3 (some .int) 6 139 S [.ref (gA E 83), .int p0, .int p1] (fun v S1 => v = some (.int ((f_co fu n z mm 3 p0 p1 0).1)) ∧ XI S1 (f_co fu n z mm 3 p0 p1 0).2 (f_push (n, z, mm) mc sv).1 (f_push (n, z, mm) mc sv).2 ∧ S1.2.2 = S.2.2) := by
  have h : LnIs (sL S) 0 n z mm := hXI.1
  refine MW.of hE (by decide) (Nat.le_of_ble_eq_true rfl) ?_
  intro p e s m below meth c ls C hJ hr hl
  have hx := C.x
  have hb := C.b
  have hl : lv_has ls 3 [(0, .ref (gA E 83)), (1, .int p0), (2, .int p1)] := hl
  refine lv_aload_n hx hb dX6_say_0 rfl (lv_at hl 0 rfl) ?_
  refine i_Z C hJ (hX.1.1 3 (by decide)).1 kf_X6_52 rfl dX6_say_1 ?_
  refine lv_iload_n hx hb dX6_say_4 rfl (lv_at hl 1 rfl) ?_
  refine lv_iload_n hx hb dX6_say_5 rfl (lv_at hl 2 rfl) ?_
  refine lv_iconst (v := 0) hx hb dX6_say_6 (by decide) ?_
  refine cw_X6_39 C hJ (rest := []) (c_X6_perform hE hX hXI (u_j := 3) (by decide) p0 p1 0 fu hfu hf0) dX6_say_7 hl.1 ⟨Nat.le_of_ble_eq_true rfl, Nat.le_of_ble_eq_true rfl⟩ ⟨Nat.le_refl _, Nat.le_refl _⟩ (Nat.le_of_ble_eq_true rfl) rfl rfl (fun vr S_7 H locs hP hJ => ?_)
  obtain ⟨rfl, hX9, hR9⟩ := hP
  exact rW_i C hJ hr rfl (⟨rfl, hX9, hR9⟩) dX6_say_10
set_option maxHeartbeats 4000000 in
set_option maxRecDepth 100000 in
theorem c_X6_offer {l : Launch} {E : GE} (hE : Env0 E) {S : ST} {X : EX} (hX : Env1 E X) {n : Nat} {z : Nat → Int32} {mm : Nat → Nat → Int32} {mc : Nat} {sv : Nat → LVt} (hXI : XI S (n, z, mm) mc sv) (p0 p1 : Int32) (fu : Nat) (hfu : fu = 1000) (hf0 : f_ft (gof n mm) n 4 p0 p1 0 = 0) : MW l E yX6_offer cX6_offer 3 (some .int) 6 139 S [.ref (gA E 83), .int p0, .int p1] (fun v S1 => v = some (.int ((f_co fu n z mm 4 p0 p1 0).1)) ∧ XI S1 (f_co fu n z mm 4 p0 p1 0).2 (f_push (n, z, mm) mc sv).1 (f_push (n, z, mm) mc sv).2 ∧ S1.2.2 = S.2.2) := by
  have h : LnIs (sL S) 0 n z mm := hXI.1
  refine MW.of hE (by decide) (Nat.le_of_ble_eq_true rfl) ?_
  intro p e s m below meth c ls C hJ hr hl
  have hx := C.x
  have hb := C.b
  have hl : lv_has ls 3 [(0, .ref (gA E 83)), (1, .int p0), (2, .int p1)] := hl
  refine lv_aload_n hx hb dX6_offer_0 rfl (lv_at hl 0 rfl) ?_
  refine i_Z C hJ (hX.1.1 4 (by decide)).1 kf_X6_71 rfl dX6_offer_1 ?_
  refine lv_iload_n hx hb dX6_offer_4 rfl (lv_at hl 1 rfl) ?_
  refine lv_iload_n hx hb dX6_offer_5 rfl (lv_at hl 2 rfl) ?_
  refine lv_iconst (v := 0) hx hb dX6_offer_6 (by decide) ?_
  refine cw_X6_39 C hJ (rest := []) (c_X6_perform hE hX hXI (u_j := 4) (by decide) p0 p1 0 fu hfu hf0) dX6_offer_7 hl.1 ⟨Nat.le_of_ble_eq_true rfl, Nat.le_of_ble_eq_true rfl⟩ ⟨Nat.le_refl _, Nat.le_refl _⟩ (Nat.le_of_ble_eq_true rfl) rfl rfl (fun vr S_7 H locs hP hJ => ?_)
  obtain ⟨rfl, hX9, hR9⟩ := hP
  exact rW_i C hJ hr rfl (⟨rfl, hX9, hR9⟩) dX6_offer_10
set_option maxHeartbeats 4000000 in
set_option maxRecDepth 100000 in
theorem c_X6_take {l : Launch} {E : GE} (hE : Env0 E) {S : ST} {X : EX} (hX : Env1 E X) {n : Nat} {z : Nat → Int32} {mm : Nat → Nat → Int32} {mc : Nat} {sv : Nat → LVt} (hXI : XI S (n, z, mm) mc sv) (p0 : Int32) (fu : Nat) (hfu : fu = 1000) (hf0 : f_ft (gof n mm) n 5 p0 0 0 = 0) : MW l E yX6_take cX6_take 2 (some .int) 6 139 S [.ref (gA E 83), .int p0] (fun v S1 => v = some (.int ((f_co fu n z mm 5 p0 0 0).1)) ∧ XI S1 (f_co fu n z mm 5 p0 0 0).2 (f_push (n, z, mm) mc sv).1 (f_push (n, z, mm) mc sv).2 ∧ S1.2.2 = S.2.2) := by
  have h : LnIs (sL S) 0 n z mm := hXI.1
  refine MW.of hE (by decide) (Nat.le_of_ble_eq_true rfl) ?_
  intro p e s m below meth c ls C hJ hr hl
  have hx := C.x
  have hb := C.b
  have hl : lv_has ls 2 [(0, .ref (gA E 83)), (1, .int p0)] := hl
  refine lv_aload_n hx hb dX6_take_0 rfl (lv_at hl 0 rfl) ?_
  refine i_Z C hJ (hX.1.1 5 (by decide)).1 kf_X6_74 rfl dX6_take_1 ?_
  refine lv_iload_n hx hb dX6_take_4 rfl (lv_at hl 1 rfl) ?_
  refine lv_iconst (v := 0) hx hb dX6_take_5 (by decide) ?_
  refine lv_iconst (v := 0) hx hb dX6_take_6 (by decide) ?_
  refine cw_X6_39 C hJ (rest := []) (c_X6_perform hE hX hXI (u_j := 5) (by decide) p0 0 0 fu hfu hf0) dX6_take_7 hl.1 ⟨Nat.le_of_ble_eq_true rfl, Nat.le_of_ble_eq_true rfl⟩ ⟨Nat.le_refl _, Nat.le_refl _⟩ (Nat.le_of_ble_eq_true rfl) rfl rfl (fun vr S_7 H locs hP hJ => ?_)
  obtain ⟨rfl, hX9, hR9⟩ := hP
  exact rW_i C hJ hr rfl (⟨rfl, hX9, hR9⟩) dX6_take_10
set_option maxHeartbeats 4000000 in
set_option maxRecDepth 100000 in
theorem c_X6_swap {l : Launch} {E : GE} (hE : Env0 E) {S : ST} {X : EX} (hX : Env1 E X) {n : Nat} {z : Nat → Int32} {mm : Nat → Nat → Int32} {mc : Nat} {sv : Nat → LVt} (hXI : XI S (n, z, mm) mc sv) (p0 : Int32) (fu : Nat) (hfu : fu = 1000) (hf0 : f_ft (gof n mm) n 6 p0 0 0 = 0) : MW l E yX6_swap cX6_swap 2 (some .int) 6 139 S [.ref (gA E 83), .int p0] (fun v S1 => v = some (.int ((f_co fu n z mm 6 p0 0 0).1)) ∧ XI S1 (f_co fu n z mm 6 p0 0 0).2 (f_push (n, z, mm) mc sv).1 (f_push (n, z, mm) mc sv).2 ∧ S1.2.2 = S.2.2) := by
  have h : LnIs (sL S) 0 n z mm := hXI.1
  refine MW.of hE (by decide) (Nat.le_of_ble_eq_true rfl) ?_
  intro p e s m below meth c ls C hJ hr hl
  have hx := C.x
  have hb := C.b
  have hl : lv_has ls 2 [(0, .ref (gA E 83)), (1, .int p0)] := hl
  refine lv_aload_n hx hb dX6_swap_0 rfl (lv_at hl 0 rfl) ?_
  refine i_Z C hJ (hX.1.1 6 (by decide)).1 kf_X6_77 rfl dX6_swap_1 ?_
  refine lv_iload_n hx hb dX6_swap_4 rfl (lv_at hl 1 rfl) ?_
  refine lv_iconst (v := 0) hx hb dX6_swap_5 (by decide) ?_
  refine lv_iconst (v := 0) hx hb dX6_swap_6 (by decide) ?_
  refine cw_X6_39 C hJ (rest := []) (c_X6_perform hE hX hXI (u_j := 6) (by decide) p0 0 0 fu hfu hf0) dX6_swap_7 hl.1 ⟨Nat.le_of_ble_eq_true rfl, Nat.le_of_ble_eq_true rfl⟩ ⟨Nat.le_refl _, Nat.le_refl _⟩ (Nat.le_of_ble_eq_true rfl) rfl rfl (fun vr S_7 H locs hP hJ => ?_)
  obtain ⟨rfl, hX9, hR9⟩ := hP
  exact rW_i C hJ hr rfl (⟨rfl, hX9, hR9⟩) dX6_swap_10
set_option maxHeartbeats 4000000 in
set_option maxRecDepth 100000 in
theorem c_X6_befriend {l : Launch} {E : GE} (hE : Env0 E) {S : ST} {X : EX} (hX : Env1 E X) {n : Nat} {z : Nat → Int32} {mm : Nat → Nat → Int32} {mc : Nat} {sv : Nat → LVt} (hXI : XI S (n, z, mm) mc sv) (p0 : Int32) (fu : Nat) (hfu : fu = 1000) (hf0 : f_ft (gof n mm) n 7 p0 0 0 = 0) : MW l E yX6_befriend cX6_befriend 2 (some .int) 6 139 S [.ref (gA E 83), .int p0] (fun v S1 => v = some (.int ((f_co fu n z mm 7 p0 0 0).1)) ∧ XI S1 (f_co fu n z mm 7 p0 0 0).2 (f_push (n, z, mm) mc sv).1 (f_push (n, z, mm) mc sv).2 ∧ S1.2.2 = S.2.2) := by
  have h : LnIs (sL S) 0 n z mm := hXI.1
  refine MW.of hE (by decide) (Nat.le_of_ble_eq_true rfl) ?_
  intro p e s m below meth c ls C hJ hr hl
  have hx := C.x
  have hb := C.b
  have hl : lv_has ls 2 [(0, .ref (gA E 83)), (1, .int p0)] := hl
  refine lv_aload_n hx hb dX6_befriend_0 rfl (lv_at hl 0 rfl) ?_
  refine i_Z C hJ (hX.1.1 7 (by decide)).1 kf_X6_80 rfl dX6_befriend_1 ?_
  refine lv_iload_n hx hb dX6_befriend_4 rfl (lv_at hl 1 rfl) ?_
  refine lv_iconst (v := 0) hx hb dX6_befriend_5 (by decide) ?_
  refine lv_iconst (v := 0) hx hb dX6_befriend_6 (by decide) ?_
  refine cw_X6_39 C hJ (rest := []) (c_X6_perform hE hX hXI (u_j := 7) (by decide) p0 0 0 fu hfu hf0) dX6_befriend_7 hl.1 ⟨Nat.le_of_ble_eq_true rfl, Nat.le_of_ble_eq_true rfl⟩ ⟨Nat.le_refl _, Nat.le_refl _⟩ (Nat.le_of_ble_eq_true rfl) rfl rfl (fun vr S_7 H locs hP hJ => ?_)
  obtain ⟨rfl, hX9, hR9⟩ := hP
  exact rW_i C hJ hr rfl (⟨rfl, hX9, hR9⟩) dX6_befriend_10
set_option maxHeartbeats 4000000 in
set_option maxRecDepth 100000 in
theorem c_X6_part {l : Launch} {E : GE} (hE : Env0 E) {S : ST} {X : EX} (hX : Env1 E X) {n : Nat} {z : Nat → Int32} {mm : Nat → Nat → Int32} {mc : Nat} {sv : Nat → LVt} (hXI : XI S (n, z, mm) mc sv) (p0 : Int32) (fu : Nat) (hfu : fu = 1000) (hf0 : f_ft (gof n mm) n 8 p0 0 0 = 0) : MW l E yX6_part cX6_part 2 (some .int) 6 139 S [.ref (gA E 83), .int p0] (fun v S1 => v = some (.int ((f_co fu n z mm 8 p0 0 0).1)) ∧ XI S1 (f_co fu n z mm 8 p0 0 0).2 (f_push (n, z, mm) mc sv).1 (f_push (n, z, mm) mc sv).2 ∧ S1.2.2 = S.2.2) := by
  have h : LnIs (sL S) 0 n z mm := hXI.1
  refine MW.of hE (by decide) (Nat.le_of_ble_eq_true rfl) ?_
  intro p e s m below meth c ls C hJ hr hl
  have hx := C.x
  have hb := C.b
  have hl : lv_has ls 2 [(0, .ref (gA E 83)), (1, .int p0)] := hl
  refine lv_aload_n hx hb dX6_part_0 rfl (lv_at hl 0 rfl) ?_
  refine i_Z C hJ (hX.1.1 8 (by decide)).1 kf_X6_83 rfl dX6_part_1 ?_
  refine lv_iload_n hx hb dX6_part_4 rfl (lv_at hl 1 rfl) ?_
  refine lv_iconst (v := 0) hx hb dX6_part_5 (by decide) ?_
  refine lv_iconst (v := 0) hx hb dX6_part_6 (by decide) ?_
  refine cw_X6_39 C hJ (rest := []) (c_X6_perform hE hX hXI (u_j := 8) (by decide) p0 0 0 fu hfu hf0) dX6_part_7 hl.1 ⟨Nat.le_of_ble_eq_true rfl, Nat.le_of_ble_eq_true rfl⟩ ⟨Nat.le_refl _, Nat.le_refl _⟩ (Nat.le_of_ble_eq_true rfl) rfl rfl (fun vr S_7 H locs hP hJ => ?_)
  obtain ⟨rfl, hX9, hR9⟩ := hP
  exact rW_i C hJ hr rfl (⟨rfl, hX9, hR9⟩) dX6_part_10
set_option maxHeartbeats 4000000 in
set_option maxRecDepth 100000 in
theorem c_X6_settle {l : Launch} {E : GE} (hE : Env0 E) {S : ST} {X : EX} (hX : Env1 E X) {n : Nat} {z : Nat → Int32} {mm : Nat → Nat → Int32} {mc : Nat} {sv : Nat → LVt} (hXI : XI S (n, z, mm) mc sv) (fu : Nat) (hfu : fu = 1000) : MW l E yX6_settle cX6_settle 1 (some .int) 6 139 S [.ref (gA E 83)] (fun v S1 => v = some (.int ((f_co fu n z mm 10 0 0 0).1)) ∧ XI S1 (f_co fu n z mm 10 0 0 0).2 (f_push (n, z, mm) mc sv).1 (f_push (n, z, mm) mc sv).2 ∧ S1.2.2 = S.2.2) := by
  have h : LnIs (sL S) 0 n z mm := hXI.1
  refine MW.of hE (by decide) (Nat.le_of_ble_eq_true rfl) ?_
  intro p e s m below meth c ls C hJ hr hl
  have hx := C.x
  have hb := C.b
  have hl : lv_has ls 1 [(0, .ref (gA E 83))] := hl
  refine lv_aload_n hx hb dX6_settle_0 rfl (lv_at hl 0 rfl) ?_
  refine i_Z C hJ (hX.1.1 10 (by decide)).1 kf_X6_86 rfl dX6_settle_1 ?_
  refine lv_iconst (v := 0) hx hb dX6_settle_4 (by decide) ?_
  refine lv_iconst (v := 0) hx hb dX6_settle_5 (by decide) ?_
  refine lv_iconst (v := 0) hx hb dX6_settle_6 (by decide) ?_
  refine cw_X6_39 C hJ (rest := []) (c_X6_perform hE hX hXI (u_j := 10) (by decide) 0 0 0 fu hfu rfl) dX6_settle_7 hl.1 ⟨Nat.le_of_ble_eq_true rfl, Nat.le_of_ble_eq_true rfl⟩ ⟨Nat.le_refl _, Nat.le_refl _⟩ (Nat.le_of_ble_eq_true rfl) rfl rfl (fun vr S_7 H locs hP hJ => ?_)
  obtain ⟨rfl, hX9, hR9⟩ := hP
  exact rW_i C hJ hr rfl (⟨rfl, hX9, hR9⟩) dX6_settle_10
set_option maxHeartbeats 4000000 in
set_option maxRecDepth 100000 in
theorem c_X6_setSplit {l : Launch} {E : GE} (hE : Env0 E) {S : ST} {n : Nat} {z : Nat → Int32} {mm : Nat → Nat → Int32} {mc : Nat} {sv : Nat → LVt} (hXI : XI S (n, z, mm) mc sv) (p0 : Int32) (hf0 : (if f_in p0 0 100 = true then (0 : Int32) else 2) = 0) : MW l E yX6_setSplit cX6_setSplit 3 (some .int) 3 66 S [.ref (gA E 83), .int p0] (fun v S1 => v = some (.int (z 3)) ∧ XI S1 (n, upd z 3 p0, mm) (f_push (n, z, mm) mc sv).1 (f_push (n, z, mm) mc sv).2 ∧ S1.2.2 = S.2.2) := by
  have h : LnIs (sL S) 0 n z mm := hXI.1
  refine MW.of hE (by decide) (Nat.le_of_ble_eq_true rfl) ?_
  intro p e s m below meth c ls C hJ hr hl
  have hx := C.x
  have hb := C.b
  have hl : lv_has ls 3 [(0, .ref (gA E 83)), (1, .int p0)] := hl
  refine lv_iload_n hx hb dX6_setSplit_0 rfl (lv_at hl 1 rfl) ?_
  refine lv_iconst (v := 0) hx hb dX6_setSplit_1 (by decide) ?_
  refine lv_bipush (v := 100) hx hb dX6_setSplit_2 (by decide) ?_
  refine cr_X6_55 C hJ (rest := []) (c_X6_isWithin hE p0 0 100) dX6_setSplit_4 hl.1 ⟨Nat.le_of_ble_eq_true rfl, Nat.le_of_ble_eq_true rfl⟩ ⟨Nat.le_refl _, Nat.le_refl _⟩ (Nat.le_of_ble_eq_true rfl) rfl rfl ?_
  refine lv_if_eq (tgt := 14) hx hb dX6_setSplit_7 (by decide) (fun c_7 => ?_) (fun c_7 => ?_)
  · skip
    exfalso; rw [if_neg (by rw [bI_0 c_7]; decide)] at hf0; exact absurd hf0 (by decide)
  · skip
    refine lv_iconst (v := 0) hx hb dX6_setSplit_10 (by decide) ?_
    refine lv_goto (tgt := 15) hx hb dX6_setSplit_11 (by decide) ?_
    refine cr_X6_59 C hJ (rest := []) (c_X6_refuse hE) dX6_setSplit_15 hl.1 ⟨Nat.le_of_ble_eq_true rfl, Nat.le_of_ble_eq_true rfl⟩ ⟨Nat.le_refl _, Nat.le_refl _⟩ (Nat.le_of_ble_eq_true rfl) rfl rfl ?_
    refine lv_aload_n hx hb dX6_setSplit_18 rfl (lv_at hl 0 rfl) ?_
    refine g_X6_22 C hJ dX6_setSplit_19 ?_
    refine lv_aload_n hx hb dX6_setSplit_22 rfl (lv_at hl 0 rfl) ?_
    refine g_X6_10 C hJ dX6_setSplit_23 ?_
    refine cw_X6_63 C hJ (rest := []) (c_X3_push hE hXI) dX6_setSplit_26 hl.1 ⟨Nat.le_of_ble_eq_true rfl, Nat.le_of_ble_eq_true rfl⟩ ⟨Nat.le_refl _, Nat.le_refl _⟩ (Nat.le_of_ble_eq_true rfl) rfl rfl (fun vr S_26 H locs hP hJ => ?_)
    obtain ⟨rfl, hX20, hR20⟩ := hP
    refine lv_aload_n hx hb dX6_setSplit_29 rfl (lv_at hl 0 rfl) ?_
    refine g_X6_10 C hJ dX6_setSplit_30 ?_
    refine g_X6_67 C hJ (k := 0) (by decide) dX6_setSplit_33 ?_
    refine lv_istore_n (lv' := [(2, .int (sc (sL S_26) 0 3)), (0, .ref (gA E 83)), (1, .int p0)]) hx hb dX6_setSplit_36 rfl hl (by decide) rfl (fun ls hl => ?_)
    refine lv_aload_n hx hb dX6_setSplit_37 rfl (lv_at hl 1 rfl) ?_
    refine g_X6_10 C hJ dX6_setSplit_38 ?_
    refine lv_iload_n hx hb dX6_setSplit_41 rfl (lv_at hl 2 rfl) ?_
    refine p_X6_67 C hJ (k := 0) (by decide) dX6_setSplit_42 (fun H locs hJ => ?_)
    obtain ⟨S_42, hS_42⟩ : ∃ z : ST, z = setL S_26 (lSc (sL S_26) 0 3 p0) := ⟨_, rfl⟩
    rw [← hS_42] at hJ
    have hU : Up S_26 S_42 0 n (upd z 3 p0) mm := (Up.rf hX20.1).sq hS_42 (OffL.osc 3 p0) (LnIs.ssc hX20.1 (by decide) (by decide) p0)
    refine lv_iload_n hx hb dX6_setSplit_45 rfl (lv_at hl 0 rfl) ?_
    exact rW_i C hJ hr rfl (⟨by rw [show sc (sL S_26) 0 3 = z 3 from congrFun hX20.1.2.1 3], hX20.up hU, (congrArg (fun q => q.2) hU.1).trans hR20⟩) dX6_setSplit_46
set_option maxHeartbeats 4000000 in
set_option maxRecDepth 100000 in
theorem c_X6_member {l : Launch} {E : GE} (hE : Env0 E) {S : ST} {n : Nat} {z : Nat → Int32} {mm : Nat → Nat → Int32} {mc : Nat} {sv : Nat → LVt} (hXI : XI S (n, z, mm) mc sv) (P : Nat) (hP0 : P < n) (p0 : Int32) (eP : f_place (gof n mm) n p0 = nI P) (w : Nat) (hw : w < 10) (p1 : Int32) (ew : p1 = nI w) : MR l E yX6_member cX6_member 4 (some .int) 4 89 S [.ref (gA E 83), .int p0, .int p1] (some (.int (f_mval (gof n mm) P w))) := by
  have h : LnIs (sL S) 0 n z mm := hXI.1
  have hn := h.1.1
  have q9 : f_in p1 0 9 = true := f_in_nI (u_n := 9) ew (by omega)
  have hf0 : f_mf (f_place (gof n mm) n p0) (bI (f_in p1 0 9)) = 0 := by rw [eP, q9]; exact mf_0 (by omega) (by decide)
  refine MR.of hE (by decide) (Nat.le_of_ble_eq_true rfl) ?_
  intro p e s m below meth c ls C hJ hr hl
  have hx := C.x
  have hb := C.b
  have hl : lv_has ls 4 [(0, .ref (gA E 83)), (1, .int p0), (2, .int p1)] := hl
  refine lv_aload_n hx hb dX6_member_0 rfl (lv_at hl 0 rfl) ?_
  refine g_X6_10 C hJ dX6_member_1 ?_
  refine lv_iload_n hx hb dX6_member_4 rfl (lv_at hl 1 rfl) ?_
  refine cr_X6_89 C hJ (k := 0) (by decide) (rest := []) (cu_placeOf hE (k := 0) (by decide) h p0) dX6_member_5 hl.1 ⟨Nat.le_of_ble_eq_true rfl, Nat.le_of_ble_eq_true rfl⟩ ⟨Nat.le_refl _, Nat.le_refl _⟩ (Nat.le_of_ble_eq_true rfl) rfl rfl ?_
  refine lv_istore_n (lv' := [(3, .int (f_place (gof n mm) n p0)), (0, .ref (gA E 83)), (1, .int p0), (2, .int p1)]) hx hb dX6_member_8 rfl hl (by decide) rfl (fun ls hl => ?_)
  refine lv_aload_n hx hb dX6_member_9 rfl (lv_at hl 1 rfl) ?_
  refine lv_iload_n hx hb dX6_member_10 rfl (lv_at hl 0 rfl) ?_
  refine lv_iload_n hx hb dX6_member_11 rfl (lv_at hl 3 rfl) ?_
  refine lv_iconst (v := 0) hx hb dX6_member_12 (by decide) ?_
  refine lv_bipush (v := 9) hx hb dX6_member_13 (by decide) ?_
  refine cr_X6_55 C hJ (rest := [.int (f_place (gof n mm) n p0), .ref (gA E 83)]) (c_X6_isWithin hE p1 0 9) dX6_member_15 hl.1 ⟨Nat.le_of_ble_eq_true rfl, Nat.le_of_ble_eq_true rfl⟩ ⟨Nat.le_refl _, Nat.le_refl _⟩ (Nat.le_of_ble_eq_true rfl) rfl rfl ?_
  refine cr_X6_93 C hJ (rest := []) (c_X6_memberFault hE (f_place (gof n mm) n p0) (bI (f_in p1 0 9))) dX6_member_18 hl.1 ⟨Nat.le_of_ble_eq_true rfl, Nat.le_of_ble_eq_true rfl⟩ ⟨Nat.le_refl _, Nat.le_refl _⟩ (Nat.le_of_ble_eq_true rfl) rfl rfl ?_
  refine cr_X6_59 C hJ (rest := []) ((show MR l E yX6_refuse cX6_refuse 1 none 0 0 S [.int (f_mf (f_place (gof n mm) n p0) (bI (f_in p1 0 9)))] none by rw [hf0]; exact c_X6_refuse hE)) dX6_member_21 hl.1 ⟨Nat.le_of_ble_eq_true rfl, Nat.le_of_ble_eq_true rfl⟩ ⟨Nat.le_refl _, Nat.le_refl _⟩ (Nat.le_of_ble_eq_true rfl) rfl rfl ?_
  refine lv_aload_n hx hb dX6_member_24 rfl (lv_at hl 1 rfl) ?_
  refine g_X6_10 C hJ dX6_member_25 ?_
  refine lv_iload_n hx hb dX6_member_28 rfl (lv_at hl 0 rfl) ?_
  refine lv_iload_n hx hb dX6_member_29 rfl (lv_at hl 3 rfl) ?_
  refine cr_X6_97 C hJ (k := 0) (by decide) (rest := []) (cu_memberValueE hE (k := 0) (by decide) h P (by omega) w hw eP ew) dX6_member_30 hl.1 ⟨Nat.le_of_ble_eq_true rfl, Nat.le_of_ble_eq_true rfl⟩ ⟨Nat.le_refl _, Nat.le_refl _⟩ (Nat.le_of_ble_eq_true rfl) rfl rfl ?_
  exact rR_i C hr rfl (rfl) dX6_member_33
set_option maxHeartbeats 4000000 in
set_option maxRecDepth 100000 in
theorem c_X6_at {l : Launch} {E : GE} (hE : Env0 E) {S : ST} {n : Nat} {z : Nat → Int32} {mm : Nat → Nat → Int32} {mc : Nat} {sv : Nat → LVt} (hXI : XI S (n, z, mm) mc sv) (p0 : Int32) (h0 : ¬ p0 < 0) : MR l E yX6_at cX6_at 2 (some .int) 1 22 S [.ref (gA E 83), .int p0] (some (.int ((gof n mm) p0 0))) := by
  have h : LnIs (sL S) 0 n z mm := hXI.1
  refine MR.of hE (by decide) (Nat.le_of_ble_eq_true rfl) ?_
  intro p e s m below meth c ls C hJ hr hl
  have hx := C.x
  have hb := C.b
  have hl : lv_has ls 2 [(0, .ref (gA E 83)), (1, .int p0)] := hl
  refine lv_iload_n hx hb dX6_at_0 rfl (lv_at hl 1 rfl) ?_
  refine lv_if_lt (tgt := 8) hx hb dX6_at_1 (by decide) (fun c_1 => ?_) (fun c_1 => ?_)
  · skip
    exact absurd c_1 h0
  · skip
    refine lv_iconst (v := 0) hx hb dX6_at_4 (by decide) ?_
    refine lv_goto (tgt := 9) hx hb dX6_at_5 (by decide) ?_
    refine cr_X6_59 C hJ (rest := []) (c_X6_refuse hE) dX6_at_9 hl.1 ⟨Nat.le_of_ble_eq_true rfl, Nat.le_of_ble_eq_true rfl⟩ ⟨Nat.le_refl _, Nat.le_refl _⟩ (Nat.le_of_ble_eq_true rfl) rfl rfl ?_
    refine lv_aload_n hx hb dX6_at_12 rfl (lv_at hl 0 rfl) ?_
    refine g_X6_10 C hJ dX6_at_13 ?_
    refine lv_iload_n hx hb dX6_at_16 rfl (lv_at hl 1 rfl) ?_
    refine cr_X6_101 C hJ (k := 0) (by decide) (rest := []) (c_X4_memberAt hE (by decide) h.1 p0) dX6_at_17 hl.1 ⟨Nat.le_of_ble_eq_true rfl, Nat.le_of_ble_eq_true rfl⟩ ⟨Nat.le_refl _, Nat.le_refl _⟩ (Nat.le_of_ble_eq_true rfl) rfl rfl ?_
    refine g_X6_105 C hJ (k := 0) (by decide) (ix_lt h.1 _) dX6_at_20 ?_
    exact rR_i C hr rfl (by rw [← h.sgm]; rfl) dX6_at_23
set_option maxHeartbeats 4000000 in
set_option maxRecDepth 100000 in
theorem c_X6_pair {l : Launch} {E : GE} (hE : Env0 E) {S : ST} {n : Nat} {z : Nat → Int32} {mm : Nat → Nat → Int32} {mc : Nat} {sv : Nat → LVt} (hXI : XI S (n, z, mm) mc sv) (P : Nat) (hP0 : P + 1 < n) (p0 : Int32) (eP : p0 = nI P) (w : Nat) (hw : w < 5) (p1 : Int32) (ew : p1 = nI w) : MR l E yX6_pair cX6_pair 3 (some .int) 3 69 S [.ref (gA E 83), .int p0, .int p1] (some (.int (f_pval (gof n mm) (z 3) (nI P) w))) := by
  have h : LnIs (sL S) 0 n z mm := hXI.1
  have hn := h.1.1
  have q9 : f_in p1 0 4 = true := f_in_nI (u_n := 4) ew (by omega)
  have hf0 : f_pf n p0 (bI (f_in p1 0 4)) 2 = 0 := by rw [q9]; exact pf_0 hn hP0 eP (by decide)
  refine MR.of hE (by decide) (Nat.le_of_ble_eq_true rfl) ?_
  intro p e s m below meth c ls C hJ hr hl
  have hx := C.x
  have hb := C.b
  have hl : lv_has ls 3 [(0, .ref (gA E 83)), (1, .int p0), (2, .int p1)] := hl
  refine lv_aload_n hx hb dX6_pair_0 rfl (lv_at hl 0 rfl) ?_
  refine lv_iload_n hx hb dX6_pair_1 rfl (lv_at hl 1 rfl) ?_
  refine lv_iload_n hx hb dX6_pair_2 rfl (lv_at hl 2 rfl) ?_
  refine lv_iconst (v := 0) hx hb dX6_pair_3 (by decide) ?_
  refine lv_iconst (v := 4) hx hb dX6_pair_4 (by decide) ?_
  refine cr_X6_55 C hJ (rest := [.int p0, .ref (gA E 83)]) (c_X6_isWithin hE p1 0 4) dX6_pair_5 hl.1 ⟨Nat.le_of_ble_eq_true rfl, Nat.le_of_ble_eq_true rfl⟩ ⟨Nat.le_refl _, Nat.le_refl _⟩ (Nat.le_of_ble_eq_true rfl) rfl rfl ?_
  refine lv_iconst (v := 2) hx hb dX6_pair_8 (by decide) ?_
  refine cr_X6_110 C hJ (rest := []) (c_X6_pairFault hE h p0 (bI (f_in p1 0 4)) 2) dX6_pair_9 hl.1 ⟨Nat.le_of_ble_eq_true rfl, Nat.le_of_ble_eq_true rfl⟩ ⟨Nat.le_refl _, Nat.le_refl _⟩ (Nat.le_of_ble_eq_true rfl) rfl rfl ?_
  refine cr_X6_59 C hJ (rest := []) ((show MR l E yX6_refuse cX6_refuse 1 none 0 0 S [.int (f_pf n p0 (bI (f_in p1 0 4)) 2)] none by rw [hf0]; exact c_X6_refuse hE)) dX6_pair_12 hl.1 ⟨Nat.le_of_ble_eq_true rfl, Nat.le_of_ble_eq_true rfl⟩ ⟨Nat.le_refl _, Nat.le_refl _⟩ (Nat.le_of_ble_eq_true rfl) rfl rfl ?_
  refine lv_aload_n hx hb dX6_pair_15 rfl (lv_at hl 0 rfl) ?_
  refine g_X6_10 C hJ dX6_pair_16 ?_
  refine lv_iload_n hx hb dX6_pair_19 rfl (lv_at hl 1 rfl) ?_
  refine lv_iload_n hx hb dX6_pair_20 rfl (lv_at hl 2 rfl) ?_
  refine cr_X6_114 C hJ (k := 0) (by decide) (rest := []) (cu_pairValueE hE (k := 0) (by decide) h p0 w hw ew) dX6_pair_21 hl.1 ⟨Nat.le_of_ble_eq_true rfl, Nat.le_of_ble_eq_true rfl⟩ ⟨Nat.le_refl _, Nat.le_refl _⟩ (Nat.le_of_ble_eq_true rfl) rfl rfl ?_
  exact rR_i C hr rfl (by rw [eP]) dX6_pair_24
set_option maxHeartbeats 4000000 in
set_option maxRecDepth 100000 in
theorem c_X6_whole {l : Launch} {E : GE} (hE : Env0 E) {S : ST} {n : Nat} {z : Nat → Int32} {mm : Nat → Nat → Int32} {mc : Nat} {sv : Nat → LVt} (hXI : XI S (n, z, mm) mc sv) {u_n : Nat} (hL : (sT S).1 1 = nI u_n) (w : Nat) (hw : w < 14) (p0 : Int32) (ew : p0 = nI w) : MR l E yX6_whole cX6_whole 2 (some .int) 6 130 S [.ref (gA E 83), .int p0] (some (.int (f_whole n z mm u_n w))) := by
  have h : LnIs (sL S) 0 n z mm := hXI.1
  have q9 : f_in p0 0 13 = true := f_in_nI (u_n := 13) ew (by omega)
  refine MR.of hE (by decide) (Nat.le_of_ble_eq_true rfl) ?_
  intro p e s m below meth c ls C hJ hr hl
  have hx := C.x
  have hb := C.b
  have hl : lv_has ls 2 [(0, .ref (gA E 83)), (1, .int p0)] := hl
  refine lv_iload_n hx hb dX6_whole_0 rfl (lv_at hl 1 rfl) ?_
  refine lv_iconst (v := 0) hx hb dX6_whole_1 (by decide) ?_
  refine lv_bipush (v := 13) hx hb dX6_whole_2 (by decide) ?_
  refine cr_X6_55 C hJ (rest := []) (c_X6_isWithin hE p0 0 13) dX6_whole_4 hl.1 ⟨Nat.le_of_ble_eq_true rfl, Nat.le_of_ble_eq_true rfl⟩ ⟨Nat.le_refl _, Nat.le_refl _⟩ (Nat.le_of_ble_eq_true rfl) rfl rfl ?_
  refine lv_if_eq (tgt := 14) hx hb dX6_whole_7 (by decide) (fun c_7 => ?_) (fun c_7 => ?_)
  · skip
    exact absurd ((bI_0 c_7).symm.trans q9) (by decide)
  · skip
    refine lv_iconst (v := 0) hx hb dX6_whole_10 (by decide) ?_
    refine lv_goto (tgt := 15) hx hb dX6_whole_11 (by decide) ?_
    refine cr_X6_59 C hJ (rest := []) (c_X6_refuse hE) dX6_whole_15 hl.1 ⟨Nat.le_of_ble_eq_true rfl, Nat.le_of_ble_eq_true rfl⟩ ⟨Nat.le_refl _, Nat.le_refl _⟩ (Nat.le_of_ble_eq_true rfl) rfl rfl ?_
    refine lv_aload_n hx hb dX6_whole_18 rfl (lv_at hl 0 rfl) ?_
    refine lv_iload_n hx hb dX6_whole_19 rfl (lv_at hl 1 rfl) ?_
    refine cr_X6_117 C hJ (rest := []) ((show MR l E yX6_wholeValue cX6_wholeValue 2 (some .int) 5 109 S [.ref (gA E 83), .int p0] (some (.int (f_whole n z mm u_n w))) by rw [ew]; exact c_X6_wholeValue (l := l) hE h hL w hw)) dX6_whole_20 hl.1 ⟨Nat.le_of_ble_eq_true rfl, Nat.le_of_ble_eq_true rfl⟩ ⟨Nat.le_refl _, Nat.le_refl _⟩ (Nat.le_of_ble_eq_true rfl) rfl rfl ?_
    exact rR_i C hr rfl (rfl) dX6_whole_23
set_option maxHeartbeats 4000000 in
set_option maxRecDepth 100000 in
theorem c_X6_reason {l : Launch} {E : GE} (hE : Env0 E) {S : ST} {n : Nat} {z : Nat → Int32} {mm : Nat → Nat → Int32} {mc : Nat} {sv : Nat → LVt} (hXI : XI S (n, z, mm) mc sv) (P : Nat) (hP0 : P + 1 < n) (p0 : Int32) (eP : p0 = nI P) : MR l E yX6_reason cX6_reason 2 (some .int) 3 66 S [.ref (gA E 83), .int p0] (some (.int (f_hind (gof n mm) (nI P)))) := by
  have h : LnIs (sL S) 0 n z mm := hXI.1
  have hn := h.1.1
  have hf0 : f_pf n p0 1 0 = 0 := pf_0 hn hP0 eP (by decide)
  refine MR.of hE (by decide) (Nat.le_of_ble_eq_true rfl) ?_
  intro p e s m below meth c ls C hJ hr hl
  have hx := C.x
  have hb := C.b
  have hl : lv_has ls 2 [(0, .ref (gA E 83)), (1, .int p0)] := hl
  refine lv_aload_n hx hb dX6_reason_0 rfl (lv_at hl 0 rfl) ?_
  refine lv_iload_n hx hb dX6_reason_1 rfl (lv_at hl 1 rfl) ?_
  refine lv_iconst (v := 1) hx hb dX6_reason_2 (by decide) ?_
  refine lv_iconst (v := 0) hx hb dX6_reason_3 (by decide) ?_
  refine cr_X6_110 C hJ (rest := []) (c_X6_pairFault hE h p0 1 0) dX6_reason_4 hl.1 ⟨Nat.le_of_ble_eq_true rfl, Nat.le_of_ble_eq_true rfl⟩ ⟨Nat.le_refl _, Nat.le_refl _⟩ (Nat.le_of_ble_eq_true rfl) rfl rfl ?_
  refine cr_X6_59 C hJ (rest := []) ((show MR l E yX6_refuse cX6_refuse 1 none 0 0 S [.int (f_pf n p0 1 0)] none by rw [hf0]; exact c_X6_refuse hE)) dX6_reason_7 hl.1 ⟨Nat.le_of_ble_eq_true rfl, Nat.le_of_ble_eq_true rfl⟩ ⟨Nat.le_refl _, Nat.le_refl _⟩ (Nat.le_of_ble_eq_true rfl) rfl rfl ?_
  refine lv_aload_n hx hb dX6_reason_10 rfl (lv_at hl 0 rfl) ?_
  refine g_X6_10 C hJ dX6_reason_11 ?_
  refine lv_iload_n hx hb dX6_reason_14 rfl (lv_at hl 1 rfl) ?_
  refine cr_X6_120 C hJ (k := 0) (by decide) (rest := []) (cu_hindrance hE (k := 0) (by decide) h p0) dX6_reason_15 hl.1 ⟨Nat.le_of_ble_eq_true rfl, Nat.le_of_ble_eq_true rfl⟩ ⟨Nat.le_refl _, Nat.le_refl _⟩ (Nat.le_of_ble_eq_true rfl) rfl rfl ?_
  exact rR_i C hr rfl (by rw [eP]) dX6_reason_18
set_option maxHeartbeats 4000000 in
set_option maxRecDepth 100000 in
theorem c_X6_settledPlace {l : Launch} {E : GE} (hE : Env0 E) {S : ST} {n : Nat} {z : Nat → Int32} {mm : Nat → Nat → Int32} {mc : Nat} {sv : Nat → LVt} (hXI : XI S (n, z, mm) mc sv) (p0 : Int32) (fu : Nat) (hfu : fu = 1000) (hf0 : f_mf (f_place (gof n mm) n p0) 1 = 0) : MW l E yX6_settledPlace cX6_settledPlace 2 (some .int) 4 91 S [.ref (gA E 83), .int p0] (fun v S1 => v = some (.int (f_place (gof n (f_set n fu z mm).2.2) n p0)) ∧ XI S1 (n, z, mm) mc sv ∧ S1.2 = S.2) := by
  have h : LnIs (sL S) 0 n z mm := hXI.1
  obtain ⟨n1, z1, mm1, h1⟩ := hXI.ln1
  refine MW.of hE (by decide) (Nat.le_of_ble_eq_true rfl) ?_
  intro p e s m below meth c ls C hJ hr hl
  have hx := C.x
  have hb := C.b
  have hl : lv_has ls 2 [(0, .ref (gA E 83)), (1, .int p0)] := hl
  refine lv_aload_n hx hb dX6_settledPlace_0 rfl (lv_at hl 0 rfl) ?_
  refine lv_aload_n hx hb dX6_settledPlace_1 rfl (lv_at hl 0 rfl) ?_
  refine g_X6_10 C hJ dX6_settledPlace_2 ?_
  refine lv_iload_n hx hb dX6_settledPlace_5 rfl (lv_at hl 1 rfl) ?_
  refine cr_X6_89 C hJ (k := 0) (by decide) (rest := [.ref (gA E 83)]) (cu_placeOf hE (k := 0) (by decide) h p0) dX6_settledPlace_6 hl.1 ⟨Nat.le_of_ble_eq_true rfl, Nat.le_of_ble_eq_true rfl⟩ ⟨Nat.le_refl _, Nat.le_refl _⟩ (Nat.le_of_ble_eq_true rfl) rfl rfl ?_
  refine lv_iconst (v := 1) hx hb dX6_settledPlace_9 (by decide) ?_
  refine cr_X6_93 C hJ (rest := []) (c_X6_memberFault hE (f_place (gof n mm) n p0) 1) dX6_settledPlace_10 hl.1 ⟨Nat.le_of_ble_eq_true rfl, Nat.le_of_ble_eq_true rfl⟩ ⟨Nat.le_refl _, Nat.le_refl _⟩ (Nat.le_of_ble_eq_true rfl) rfl rfl ?_
  refine cr_X6_59 C hJ (rest := []) ((show MR l E yX6_refuse cX6_refuse 1 none 0 0 S [.int (f_mf (f_place (gof n mm) n p0) 1)] none by rw [hf0]; exact c_X6_refuse hE)) dX6_settledPlace_13 hl.1 ⟨Nat.le_of_ble_eq_true rfl, Nat.le_of_ble_eq_true rfl⟩ ⟨Nat.le_refl _, Nat.le_refl _⟩ (Nat.le_of_ble_eq_true rfl) rfl rfl ?_
  refine lv_aload_n hx hb dX6_settledPlace_16 rfl (lv_at hl 0 rfl) ?_
  refine g_X6_16 C hJ dX6_settledPlace_17 ?_
  refine lv_aload_n hx hb dX6_settledPlace_20 rfl (lv_at hl 0 rfl) ?_
  refine g_X6_10 C hJ dX6_settledPlace_21 ?_
  refine cw_X6_123 C hJ (k := 1) (by decide) (rest := []) (c_X4_copyFrom hE (k := 1) (by decide) h1 (k2 := 0) (by decide) h (by decide)) dX6_settledPlace_24 hl.1 ⟨Nat.le_of_ble_eq_true rfl, Nat.le_of_ble_eq_true rfl⟩ ⟨Nat.le_refl _, Nat.le_refl _⟩ (Nat.le_of_ble_eq_true rfl) rfl rfl (fun vr S_24 H locs hP hJ => ?_)
  obtain ⟨rfl, hU1⟩ := hP
  have h2 := hU1.2.2
  refine lv_aload_n hx hb dX6_settledPlace_27 rfl (lv_at hl 0 rfl) ?_
  refine g_X6_16 C hJ dX6_settledPlace_28 ?_
  refine cw_X6_126 C hJ (k := 1) (by decide) (rest := []) (c_X4_settleDown hE (k := 1) (by decide) h2 fu hfu) dX6_settledPlace_31 hl.1 ⟨Nat.le_of_ble_eq_true rfl, Nat.le_of_ble_eq_true rfl⟩ ⟨Nat.le_refl _, Nat.le_refl _⟩ (Nat.le_of_ble_eq_true rfl) rfl rfl (fun vr S_31 H locs hP hJ => ?_)
  obtain ⟨rfl, hU3⟩ := hP
  have h4 := hU3.2.2
  refine lv_pop hx hb dX6_settledPlace_34 rfl ?_
  refine lv_aload_n hx hb dX6_settledPlace_35 rfl (lv_at hl 0 rfl) ?_
  refine g_X6_16 C hJ dX6_settledPlace_36 ?_
  refine lv_iload_n hx hb dX6_settledPlace_39 rfl (lv_at hl 1 rfl) ?_
  refine cr_X6_89 C hJ (k := 1) (by decide) (rest := []) (cu_placeOf hE (k := 1) (by decide) h4 p0) dX6_settledPlace_40 hl.1 ⟨Nat.le_of_ble_eq_true rfl, Nat.le_of_ble_eq_true rfl⟩ ⟨Nat.le_refl _, Nat.le_refl _⟩ (Nat.le_of_ble_eq_true rfl) rfl rfl ?_
  exact rW_i C hJ hr rfl (⟨rfl, (hXI.up1 hU1).up1 hU3, hU3.1.trans hU1.1⟩) dX6_settledPlace_43
set_option maxHeartbeats 4000000 in
set_option maxRecDepth 100000 in
theorem c_X6_profit {l : Launch} {E : GE} (hE : Env0 E) {S : ST} {n : Nat} {z : Nat → Int32} {mm : Nat → Nat → Int32} {mc : Nat} {sv : Nat → LVt} (hXI : XI S (n, z, mm) mc sv) (P : Nat) (hP0 : P < n) (p0 : Int32) (eP : f_place (gof n mm) n p0 = nI P) (p1 : Int32) (hp1 : f_in p1 0 99 = true) (fu : Nat) (hfu : fu = 1000) : MW l E yX6_profit cX6_profit 4 (some .int) 5 116 S [.ref (gA E 83), .int p0, .int p1] (fun v S1 => v = some (.int (f_pro fu n z mm P p1)) ∧ XI S1 (n, z, mm) mc sv ∧ S1.2 = S.2) := by
  have h : LnIs (sL S) 0 n z mm := hXI.1
  have hn := h.1.1
  have hf0 : f_mf (f_place (gof n mm) n p0) (bI (f_in p1 0 99)) = 0 := by rw [eP, hp1]; exact mf_0 (by omega) (by decide)
  refine MW.of hE (by decide) (Nat.le_of_ble_eq_true rfl) ?_
  intro p e s m below meth c ls C hJ hr hl
  have hx := C.x
  have hb := C.b
  have hl : lv_has ls 4 [(0, .ref (gA E 83)), (1, .int p0), (2, .int p1)] := hl
  refine lv_aload_n hx hb dX6_profit_0 rfl (lv_at hl 0 rfl) ?_
  refine g_X6_10 C hJ dX6_profit_1 ?_
  refine lv_iload_n hx hb dX6_profit_4 rfl (lv_at hl 1 rfl) ?_
  refine cr_X6_89 C hJ (k := 0) (by decide) (rest := []) (cu_placeOf hE (k := 0) (by decide) h p0) dX6_profit_5 hl.1 ⟨Nat.le_of_ble_eq_true rfl, Nat.le_of_ble_eq_true rfl⟩ ⟨Nat.le_refl _, Nat.le_refl _⟩ (Nat.le_of_ble_eq_true rfl) rfl rfl ?_
  refine lv_istore_n (lv' := [(3, .int (f_place (gof n mm) n p0)), (0, .ref (gA E 83)), (1, .int p0), (2, .int p1)]) hx hb dX6_profit_8 rfl hl (by decide) rfl (fun ls hl => ?_)
  refine lv_aload_n hx hb dX6_profit_9 rfl (lv_at hl 1 rfl) ?_
  refine lv_iload_n hx hb dX6_profit_10 rfl (lv_at hl 0 rfl) ?_
  refine lv_iload_n hx hb dX6_profit_11 rfl (lv_at hl 3 rfl) ?_
  refine lv_iconst (v := 0) hx hb dX6_profit_12 (by decide) ?_
  refine lv_bipush (v := 99) hx hb dX6_profit_13 (by decide) ?_
  refine cr_X6_55 C hJ (rest := [.int (f_place (gof n mm) n p0), .ref (gA E 83)]) (c_X6_isWithin hE p1 0 99) dX6_profit_15 hl.1 ⟨Nat.le_of_ble_eq_true rfl, Nat.le_of_ble_eq_true rfl⟩ ⟨Nat.le_refl _, Nat.le_refl _⟩ (Nat.le_of_ble_eq_true rfl) rfl rfl ?_
  refine cr_X6_93 C hJ (rest := []) (c_X6_memberFault hE (f_place (gof n mm) n p0) (bI (f_in p1 0 99))) dX6_profit_18 hl.1 ⟨Nat.le_of_ble_eq_true rfl, Nat.le_of_ble_eq_true rfl⟩ ⟨Nat.le_refl _, Nat.le_refl _⟩ (Nat.le_of_ble_eq_true rfl) rfl rfl ?_
  refine cr_X6_59 C hJ (rest := []) ((show MR l E yX6_refuse cX6_refuse 1 none 0 0 S [.int (f_mf (f_place (gof n mm) n p0) (bI (f_in p1 0 99)))] none by rw [hf0]; exact c_X6_refuse hE)) dX6_profit_21 hl.1 ⟨Nat.le_of_ble_eq_true rfl, Nat.le_of_ble_eq_true rfl⟩ ⟨Nat.le_refl _, Nat.le_refl _⟩ (Nat.le_of_ble_eq_true rfl) rfl rfl ?_
  refine lv_aload_n hx hb dX6_profit_24 rfl (lv_at hl 1 rfl) ?_
  refine lv_iload_n hx hb dX6_profit_25 rfl (lv_at hl 0 rfl) ?_
  refine lv_iload_n hx hb dX6_profit_26 rfl (lv_at hl 3 rfl) ?_
  obtain ⟨n1_27, z1_27, mm1_27, h1_27⟩ := hXI.ln1
  refine cw_X6_130 C hJ (rest := []) ((show MW l E yX6_profitAt cX6_profitAt 6 (some .int) 4 91 S [.ref (gA E 83), .int (f_place (gof n mm) n p0), .int (p1)] (fun v S1 => v = some (.int (f_pro fu n z mm P (p1))) ∧ ∃ z2 mm2, Up S S1 1 n z2 mm2) by rw [eP]; exact c_X6_profitAt hE hXI.1 h1_27 P hP0 (p1) fu hfu)) dX6_profit_27 hl.1 ⟨Nat.le_of_ble_eq_true rfl, Nat.le_of_ble_eq_true rfl⟩ ⟨Nat.le_refl _, Nat.le_refl _⟩ (Nat.le_of_ble_eq_true rfl) rfl rfl (fun vr S_27 H locs hP hJ => ?_)
  obtain ⟨rfl, z2_27, mm2_27, hU_27⟩ := hP
  have hX27 := hXI.up1 hU_27
  exact rW_i C hJ hr rfl (⟨rfl, hX27, hU_27.1⟩) dX6_profit_30
set_option maxHeartbeats 4000000 in
set_option maxRecDepth 100000 in
theorem c_X6_bestLie {l : Launch} {E : GE} (hE : Env0 E) {S : ST} {n : Nat} {z : Nat → Int32} {mm : Nat → Nat → Int32} {mc : Nat} {sv : Nat → LVt} (hXI : XI S (n, z, mm) mc sv) (P : Nat) (hP0 : P < n) (p0 : Int32) (eP : f_place (gof n mm) n p0 = nI P) (fu : Nat) (hfu : fu = 1000) : MW l E yX6_bestLie cX6_bestLie 7 (some .int) 5 116 S [.ref (gA E 83), .int p0] (fun v S1 => v = some (.int ((t_lie (fun w => f_pro fu n z mm P (nI w)) 99).2)) ∧ XI S1 (n, z, mm) mc sv ∧ S1.2 = S.2) := by
  have h : LnIs (sL S) 0 n z mm := hXI.1
  have hn := h.1.1
  have hf0 : f_mf (f_place (gof n mm) n p0) 1 = 0 := by rw [eP]; exact mf_0 (by omega) (by decide)
  refine MW.of hE (by decide) (Nat.le_of_ble_eq_true rfl) ?_
  intro p e s m below meth c ls C hJ hr hl
  have hx := C.x
  have hb := C.b
  have hl : lv_has ls 7 [(0, .ref (gA E 83)), (1, .int p0)] := hl
  refine lv_aload_n hx hb dX6_bestLie_0 rfl (lv_at hl 0 rfl) ?_
  refine g_X6_10 C hJ dX6_bestLie_1 ?_
  refine lv_iload_n hx hb dX6_bestLie_4 rfl (lv_at hl 1 rfl) ?_
  refine cr_X6_89 C hJ (k := 0) (by decide) (rest := []) (cu_placeOf hE (k := 0) (by decide) h p0) dX6_bestLie_5 hl.1 ⟨Nat.le_of_ble_eq_true rfl, Nat.le_of_ble_eq_true rfl⟩ ⟨Nat.le_refl _, Nat.le_refl _⟩ (Nat.le_of_ble_eq_true rfl) rfl rfl ?_
  refine lv_istore_n (lv' := [(2, .int (f_place (gof n mm) n p0)), (0, .ref (gA E 83)), (1, .int p0)]) hx hb dX6_bestLie_8 rfl hl (by decide) rfl (fun ls hl => ?_)
  refine lv_aload_n hx hb dX6_bestLie_9 rfl (lv_at hl 1 rfl) ?_
  refine lv_iload_n hx hb dX6_bestLie_10 rfl (lv_at hl 0 rfl) ?_
  refine lv_iconst (v := 1) hx hb dX6_bestLie_11 (by decide) ?_
  refine cr_X6_93 C hJ (rest := []) (c_X6_memberFault hE (f_place (gof n mm) n p0) 1) dX6_bestLie_12 hl.1 ⟨Nat.le_of_ble_eq_true rfl, Nat.le_of_ble_eq_true rfl⟩ ⟨Nat.le_refl _, Nat.le_refl _⟩ (Nat.le_of_ble_eq_true rfl) rfl rfl ?_
  refine cr_X6_59 C hJ (rest := []) ((show MR l E yX6_refuse cX6_refuse 1 none 0 0 S [.int (f_mf (f_place (gof n mm) n p0) 1)] none by rw [hf0]; exact c_X6_refuse hE)) dX6_bestLie_15 hl.1 ⟨Nat.le_of_ble_eq_true rfl, Nat.le_of_ble_eq_true rfl⟩ ⟨Nat.le_refl _, Nat.le_refl _⟩ (Nat.le_of_ble_eq_true rfl) rfl rfl ?_
  refine lv_iconst (v := 0) hx hb dX6_bestLie_18 (by decide) ?_
  refine lv_istore_n (lv' := [(3, .int 0), (2, .int (f_place (gof n mm) n p0)), (0, .ref (gA E 83)), (1, .int p0)]) hx hb dX6_bestLie_19 rfl hl (by decide) rfl (fun ls hl => ?_)
  refine lv_aload_n hx hb dX6_bestLie_20 rfl (lv_at hl 2 rfl) ?_
  refine lv_iload_n hx hb dX6_bestLie_21 rfl (lv_at hl 1 rfl) ?_
  refine lv_iconst (v := 0) hx hb dX6_bestLie_22 (by decide) ?_
  obtain ⟨n1_23, z1_23, mm1_23, h1_23⟩ := hXI.ln1
  refine cw_X6_130 C hJ (rest := []) ((show MW l E yX6_profitAt cX6_profitAt 6 (some .int) 4 91 S [.ref (gA E 83), .int (f_place (gof n mm) n p0), .int (0)] (fun v S1 => v = some (.int (f_pro fu n z mm P (0))) ∧ ∃ z2 mm2, Up S S1 1 n z2 mm2) by rw [eP]; exact c_X6_profitAt hE hXI.1 h1_23 P hP0 (0) fu hfu)) dX6_bestLie_23 hl.1 ⟨Nat.le_of_ble_eq_true rfl, Nat.le_of_ble_eq_true rfl⟩ ⟨Nat.le_refl _, Nat.le_refl _⟩ (Nat.le_of_ble_eq_true rfl) rfl rfl (fun vr S_23 H locs hP hJ => ?_)
  obtain ⟨rfl, z2_23, mm2_23, hU_23⟩ := hP
  have hX23 := hXI.up1 hU_23
  refine lv_istore (lv' := [(4, .int (f_pro fu n z mm P 0)), (3, .int 0), (2, .int (f_place (gof n mm) n p0)), (0, .ref (gA E 83)), (1, .int p0)]) hx hb dX6_bestLie_26 hl (by decide) rfl (fun ls hl => ?_)
  refine lv_iconst (v := 1) hx hb dX6_bestLie_28 (by decide) ?_
  refine lv_istore (lv' := [(5, .int 1), (4, .int (f_pro fu n z mm P 0)), (3, .int 0), (2, .int (f_place (gof n mm) n p0)), (0, .ref (gA E 83)), (1, .int p0)]) hx hb dX6_bestLie_29 hl (by decide) rfl (fun ls hl => ?_)
  have lp : ∀ (d : Nat) (i : Nat) (xb xm : Int32) (T : ST) (H : Heap) (locs : List Loc) (ls : Array Slot), (1 ≤ i ∧ i ≤ 100) → (100 < i + d) → (t_lie (fun w => f_pro fu n z mm P (nI w)) (i - 1) = (xm, xb)) → (XI T (n, z, mm) mc sv) → (T.2 = S.2) → JJ E T H locs → lv_has ls 7 [(0, .ref (gA E 83)), (1, .int p0), (2, .int (f_place (gof n mm) n p0)), (3, .int xb), (4, .int xm), (5, .int (nI i))] → W p l e (rmZ 5 116) s m ([.ref (gA E 83), .int p0] : List Value).toArray below meth c H locs 0 0 (WQ below ([.ref (gA E 83), .int p0] : List Value).toArray s E (fun v S1 => v = some (.int ((t_lie (fun w => f_pro fu n z mm P (nI w)) 99).2)) ∧ XI S1 (n, z, mm) mc sv ∧ S1.2 = S.2)) (F0 m 31 ls []) := by
    intro d
    induction d with
    | zero =>
      intro i xb xm T H locs ls hi hd hv hX7 hS7 hJ hl
      omega
    | succ d ih_lp =>
      intro i xb xm T H locs ls hi hd hv hX7 hS7 hJ hl
      refine lv_iload hx hb dX6_bestLie_31 (lv_at hl 5 rfl) ?_
      refine lv_bipush (v := 99) hx hb dX6_bestLie_33 (by decide) ?_
      refine lv_icmp_gt (tgt := 67) hx hb dX6_bestLie_35 (by decide) (fun c_35 => ?_) (fun c_35 => ?_)
      · skip
        have e9 : i = 100 := by
          rcases Nat.lt_or_ge i 100 with q | q
          · exact absurd c_35 (Int32.not_lt.mpr (nI_le (b := 99) (by omega) (by decide)))
          · omega
        have hfin : t_lie (fun w => f_pro fu n z mm P (nI w)) 99 = (xm, xb) := by rw [e9] at hv; exact hv
        refine lv_iload_n hx hb dX6_bestLie_67 rfl (lv_at hl 3 rfl) ?_
        exact rW_i C hJ hr rfl (⟨by rw [hfin], hX7, hS7⟩) dX6_bestLie_68
      · skip
        have hlt : i ≤ 99 := by
          rcases Nat.lt_or_ge i 100 with q | q
          · omega
          · exact absurd (nI_lt (a := 99) (b := i) (by omega) (by omega)) c_35
        have hu : t_lie (fun w => f_pro fu n z mm P (nI w)) (i + 1 - 1) = if (fun w => f_pro fu n z mm P (nI w)) i ≤ (t_lie (fun w => f_pro fu n z mm P (nI w)) (i - 1)).1 then t_lie (fun w => f_pro fu n z mm P (nI w)) (i - 1) else ((fun w => f_pro fu n z mm P (nI w)) i, nI i) := by
          obtain ⟨u_k, rfl⟩ : ∃ u_k, i = u_k + 1 := ⟨i - 1, by omega⟩
          rfl
        refine lv_aload_n hx hb dX6_bestLie_38 rfl (lv_at hl 0 rfl) ?_
        refine lv_iload_n hx hb dX6_bestLie_39 rfl (lv_at hl 2 rfl) ?_
        refine lv_iload hx hb dX6_bestLie_40 (lv_at hl 5 rfl) ?_
        obtain ⟨n1_42, z1_42, mm1_42, h1_42⟩ := hX7.ln1
        refine cw_X6_130 C hJ (rest := []) ((show MW l E yX6_profitAt cX6_profitAt 6 (some .int) 4 91 T [.ref (gA E 83), .int (f_place (gof n mm) n p0), .int (nI i)] (fun v S1 => v = some (.int (f_pro fu n z mm P (nI i))) ∧ ∃ z2 mm2, Up T S1 1 n z2 mm2) by rw [eP]; exact c_X6_profitAt hE hX7.1 h1_42 P hP0 (nI i) fu hfu)) dX6_bestLie_42 hl.1 ⟨Nat.le_of_ble_eq_true rfl, Nat.le_of_ble_eq_true rfl⟩ ⟨Nat.le_refl _, Nat.le_refl _⟩ (Nat.le_of_ble_eq_true rfl) rfl rfl (fun vr S_42 H locs hP hJ => ?_)
        obtain ⟨rfl, z2_42, mm2_42, hU_42⟩ := hP
        have hX42 := hX7.up1 hU_42
        refine lv_istore (lv' := [(6, .int (f_pro fu n z mm P (nI i))), (0, .ref (gA E 83)), (1, .int p0), (2, .int (f_place (gof n mm) n p0)), (3, .int xb), (4, .int xm), (5, .int (nI i))]) hx hb dX6_bestLie_45 hl (by decide) rfl (fun ls hl => ?_)
        refine lv_iload hx hb dX6_bestLie_47 (lv_at hl 0 rfl) ?_
        refine lv_iload hx hb dX6_bestLie_49 (lv_at hl 5 rfl) ?_
        refine lv_icmp_le (tgt := 61) hx hb dX6_bestLie_51 (by decide) (fun c_51 => ?_) (fun c_51 => ?_)
        · skip
          have hv2 : t_lie (fun w => f_pro fu n z mm P (nI w)) (i + 1 - 1) = (xm, xb) := by rw [hu, hv, if_pos c_51]
          refine lv_iinc (v := nI (i + 1)) (lv' := [(5, .int (nI (i + 1))), (6, .int (f_pro fu n z mm P (nI i))), (0, .ref (gA E 83)), (1, .int p0), (2, .int (f_place (gof n mm) n p0)), (3, .int xb), (4, .int xm)]) hx hb dX6_bestLie_61 hl (k := 6) rfl (by exact nI_1 i) (by decide) rfl (fun ls hl => ?_)
          refine lv_goto (tgt := 31) hx hb dX6_bestLie_64 (by decide) ?_
          exact ih_lp (i + 1) _ _ S_42 H locs _ ⟨by omega, by omega⟩ (by omega) hv2 hX42 (hU_42.1.trans hS7) hJ (lv_sub hl [2, 3, 4, 5, 6, 0] rfl)
        · skip
          have hv2 : t_lie (fun w => f_pro fu n z mm P (nI w)) (i + 1 - 1) = (f_pro fu n z mm P (nI i), nI i) := by rw [hu, hv, if_neg c_51]
          refine lv_iload hx hb dX6_bestLie_54 (lv_at hl 0 rfl) ?_
          refine lv_istore (lv' := [(4, .int (f_pro fu n z mm P (nI i))), (6, .int (f_pro fu n z mm P (nI i))), (0, .ref (gA E 83)), (1, .int p0), (2, .int (f_place (gof n mm) n p0)), (3, .int xb), (5, .int (nI i))]) hx hb dX6_bestLie_56 hl (by decide) rfl (fun ls hl => ?_)
          refine lv_iload hx hb dX6_bestLie_58 (lv_at hl 6 rfl) ?_
          refine lv_istore_n (lv' := [(3, .int (nI i)), (4, .int (f_pro fu n z mm P (nI i))), (6, .int (f_pro fu n z mm P (nI i))), (0, .ref (gA E 83)), (1, .int p0), (2, .int (f_place (gof n mm) n p0)), (5, .int (nI i))]) hx hb dX6_bestLie_60 rfl hl (by decide) rfl (fun ls hl => ?_)
          refine lv_iinc (v := nI (i + 1)) (lv' := [(5, .int (nI (i + 1))), (3, .int (nI i)), (4, .int (f_pro fu n z mm P (nI i))), (6, .int (f_pro fu n z mm P (nI i))), (0, .ref (gA E 83)), (1, .int p0), (2, .int (f_place (gof n mm) n p0))]) hx hb dX6_bestLie_61 hl (k := 6) rfl (by exact nI_1 i) (by decide) rfl (fun ls hl => ?_)
          refine lv_goto (tgt := 31) hx hb dX6_bestLie_64 (by decide) ?_
          exact ih_lp (i + 1) _ _ S_42 H locs _ ⟨by omega, by omega⟩ (by omega) hv2 hX42 (hU_42.1.trans hS7) hJ (lv_sub hl [4, 5, 6, 1, 2, 0] rfl)
  exact lp 100 1 0 _ S_23 H locs _ ⟨by omega, by omega⟩ (by omega) rfl hX23 hU_23.1 hJ (lv_sub hl [4, 5, 3, 2, 1, 0] rfl)
set_option maxHeartbeats 4000000 in
set_option maxRecDepth 100000 in
theorem c_X6_undo {l : Launch} {E : GE} (hE : Env0 E) {S : ST} {n : Nat} {z : Nat → Int32} {mm : Nat → Nat → Int32} {mc : Nat} {sv : Nat → LVt} (hXI : XI S (n, z, mm) mc sv) (hmc : 0 < mc) : MW l E yX6_undo cX6_undo 1 (some .int) 3 66 S [.ref (gA E 83)] (fun v S1 => v = some (.int (nI (mc - 1))) ∧ XI S1 (sv (mc - 1)) (mc - 1) sv ∧ S1.2.2 = S.2.2) := by
  have h : LnIs (sL S) 0 n z mm := hXI.1
  refine MW.of hE (by decide) (Nat.le_of_ble_eq_true rfl) ?_
  intro p e s m below meth c ls C hJ hr hl
  have hx := C.x
  have hb := C.b
  have hl : lv_has ls 1 [(0, .ref (gA E 83))] := hl
  refine lv_aload_n hx hb dX6_undo_0 rfl (lv_at hl 0 rfl) ?_
  refine g_X6_22 C hJ dX6_undo_1 ?_
  refine g_X6_168 C hJ dX6_undo_4 ?_
  refine lv_if_le (tgt := 14) hx hb dX6_undo_7 (by decide) (fun c_7 => ?_) (fun c_7 => ?_)
  · skip
    exact absurd (by rw [hXI.2.1.2.1] at c_7; exact c_7) (nI_nle hmc (by have := hXI.2.1.1; omega))
  · skip
    refine lv_iconst (v := 0) hx hb dX6_undo_10 (by decide) ?_
    refine lv_goto (tgt := 15) hx hb dX6_undo_11 (by decide) ?_
    refine cr_X6_59 C hJ (rest := []) (c_X6_refuse hE) dX6_undo_15 hl.1 ⟨Nat.le_of_ble_eq_true rfl, Nat.le_of_ble_eq_true rfl⟩ ⟨Nat.le_refl _, Nat.le_refl _⟩ (Nat.le_of_ble_eq_true rfl) rfl rfl ?_
    refine lv_aload_n hx hb dX6_undo_18 rfl (lv_at hl 0 rfl) ?_
    refine g_X6_22 C hJ dX6_undo_19 ?_
    refine lv_aload_n hx hb dX6_undo_22 rfl (lv_at hl 0 rfl) ?_
    refine g_X6_10 C hJ dX6_undo_23 ?_
    refine cw_X6_171 C hJ (rest := []) (c_X3_popInto hE hXI hmc) dX6_undo_26 hl.1 ⟨Nat.le_of_ble_eq_true rfl, Nat.le_of_ble_eq_true rfl⟩ ⟨Nat.le_refl _, Nat.le_refl _⟩ (Nat.le_of_ble_eq_true rfl) rfl rfl (fun vr S_26 H locs hP hJ => ?_)
    obtain ⟨rfl, hX26, hR26⟩ := hP
    refine lv_aload_n hx hb dX6_undo_29 rfl (lv_at hl 0 rfl) ?_
    refine g_X6_22 C hJ dX6_undo_30 ?_
    refine g_X6_168 C hJ dX6_undo_33 ?_
    exact rW_i C hJ hr rfl (⟨by rw [hX26.2.1.2.1], hX26, hR26⟩) dX6_undo_36
