/-! MODEL: a state aside (by program) -/
set_option maxHeartbeats 4000000 in
set_option maxRecDepth 100000 in
theorem c_X7_putAside {l : Launch} {E : GE} (hE : Env0 E) {S : ST}  : MW l E yX7_putAside cX7_putAside 1 (none : Option Jvm.ClassFile.FieldType) 1 23 S [.ref (gA E 84)] (fun v S1 => v = none ∧ RW S S1 (rci (sM S).2.1 0 380 76)) := by
  refine MW.of hE (by decide) (Nat.le_of_ble_eq_true rfl) ?_
  intro p e s m below meth c ls C hJ hr hl
  have hx := C.x
  have hb := C.b
  have hl : lv_has ls 1 [(0, .ref (gA E 84))] := hl
  refine lv_aload_n hx hb dX7_putAside_0 rfl (lv_at hl 0 rfl) ?_
  refine lv_iconst (v := 0) hx hb dX7_putAside_1 (by decide) ?_
  refine lv_sipush (v := 380) hx hb dX7_putAside_2 (by decide) ?_
  refine cw_X7_29 C hJ (rest := []) ((show MW l E yX7_copies cX7_copies 4 none 0 0 S [.ref (gA E 84), .int 0, .int 380] _ from c_X7_copies hE (S := S) 0 380 (by decide) (by decide) (by decide))) dX7_putAside_5 hl.1 ⟨Nat.le_of_ble_eq_true rfl, Nat.le_of_ble_eq_true rfl⟩ ⟨Nat.le_refl _, Nat.le_refl _⟩ (Nat.le_of_ble_eq_true rfl) rfl rfl (fun vr S_5 H locs hP hJ => ?_)
  obtain ⟨rfl, w_5⟩ := hP
  exact rW_v C hJ hr (⟨rfl, w_5⟩) dX7_putAside_8
set_option maxHeartbeats 4000000 in
set_option maxRecDepth 100000 in
theorem c_X7_comesBack {l : Launch} {E : GE} (hE : Env0 E) {S : ST}  : MW l E yX7_comesBack cX7_comesBack 1 (none : Option Jvm.ClassFile.FieldType) 1 23 S [.ref (gA E 84)] (fun v S1 => v = none ∧ RW S S1 (rci (sM S).2.1 380 0 76)) := by
  refine MW.of hE (by decide) (Nat.le_of_ble_eq_true rfl) ?_
  intro p e s m below meth c ls C hJ hr hl
  have hx := C.x
  have hb := C.b
  have hl : lv_has ls 1 [(0, .ref (gA E 84))] := hl
  refine lv_aload_n hx hb dX7_comesBack_0 rfl (lv_at hl 0 rfl) ?_
  refine lv_sipush (v := 380) hx hb dX7_comesBack_1 (by decide) ?_
  refine lv_iconst (v := 0) hx hb dX7_comesBack_4 (by decide) ?_
  refine cw_X7_29 C hJ (rest := []) ((show MW l E yX7_copies cX7_copies 4 none 0 0 S [.ref (gA E 84), .int 380, .int 0] _ from c_X7_copies hE (S := S) 380 0 (by decide) (by decide) (by decide))) dX7_comesBack_5 hl.1 ⟨Nat.le_of_ble_eq_true rfl, Nat.le_of_ble_eq_true rfl⟩ ⟨Nat.le_refl _, Nat.le_refl _⟩ (Nat.le_of_ble_eq_true rfl) rfl rfl (fun vr S_5 H locs hP hJ => ?_)
  obtain ⟨rfl, w_5⟩ := hP
  exact rW_v C hJ hr (⟨rfl, w_5⟩) dX7_comesBack_8
