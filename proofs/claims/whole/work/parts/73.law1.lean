/-! LAW: its wrappers (by program) -/
theorem ty3 (p0 : Int32) (u_n : Nat) : (if f_in p0 0 127 = true then (if u_n < 150 then (0 : Int32) else 3) else 2) = 0 ∨ (if f_in p0 0 127 = true then (if u_n < 150 then (0 : Int32) else 3) else 2) = 2 ∨ (if f_in p0 0 127 = true then (if u_n < 150 then (0 : Int32) else 3) else 2) = 3 := by
  split
  · split
    · exact Or.inl rfl
    · exact Or.inr (Or.inr rfl)
  · exact Or.inr (Or.inl rfl)
set_option maxHeartbeats 4000000 in
set_option maxRecDepth 100000 in
theorem cl_join {l : Launch} {E : GE} (hE : Env0 E) {S : ST} {X : EX} (hX : Env1 E X) {u_x : Nat × Nat × Nat} (hX2 : Env2 l E u_x) {n : Nat} {z : Nat → Int32} {mm : Nat → Nat → Int32} {mc : Nat} {sv : Nat → LVt} (hXI : XI S (n, z, mm) mc sv) (p0 p1 : Int32) (fu : Nat) (hfu : fu = 1000) (h3 : Env3 E) : MH l E yL_join cL_join 5 [(0, 10, 13, 13), (0, 10, 17, 15)] 9 161 1 6 S [.ref (gA E 83), .int p0, .int p1, .ref (gA E 89)] (fun v S1 => WP S S1 v (m_j (f_ft (gof n mm) n 0 p0 p1 0)) (f_ft (gof n mm) n 0 p0 p1 0) ((f_co fu n z mm 0 p0 p1 0).1) (fun S1 => XI S1 (f_co fu n z mm 0 p0 p1 0).2 (f_push (n, z, mm) mc sv).1 (f_push (n, z, mm) mc sv).2 ∧ S1.2.2 = S.2.2)) := by
  have hF : f_ft (gof n mm) n 0 p0 p1 0 = 0 ∨ f_ft (gof n mm) n 0 p0 p1 0 = 2 ∨ f_ft (gof n mm) n 0 p0 p1 0 = 3 := jf3 _ _ _ _ _
  refine MH.of hE (by decide) (Nat.le_of_ble_eq_true rfl) ?_
  intro p e s m below meth c ls C htab hJ hr hl
  have hx := C.x
  have hb := C.b
  have hl : lv_has ls 5 [(0, .ref (gA E 83)), (1, .int p0), (2, .int p1), (3, .ref (gA E 89))] := hl
  refine lv_aload_n hx hb dL_join_0 rfl (lv_at hl 3 rfl) ?_
  refine lv_iconst (v := 0) hx hb dL_join_1 (by decide) ?_
  refine lv_aload_n hx hb dL_join_2 rfl (lv_at hl 0 rfl) ?_
  refine lv_iload_n hx hb dL_join_3 rfl (lv_at hl 1 rfl) ?_
  refine lv_iload_n hx hb dL_join_4 rfl (lv_at hl 2 rfl) ?_
  refine k_XH hJ (r_XV (i := 83) (ci := 4) (N := 4) (T := TX6) (fs := [.ref (gA E 0), .ref (gA E 13), .ref (gA E 78), .ref (gA E 80)]) (rest := [.int 0, .ref (gA E 89)]) (n := 2) C hJ (c_X6_join hE hX hX2 hXI p0 p1 fu hfu) (by omega) (pE_qu E S) rfl km_L_7 ki_X6_join ks_X6_join k0_X6 kc_X6_join ⟨rfl, by decide, by decide, by decide +kernel⟩ rfl dL_join_5 hl.1 ⟨Nat.le_of_ble_eq_true rfl, Nat.le_of_ble_eq_true rfl⟩ ⟨by decide, by decide⟩ (Nat.le_of_ble_eq_true rfl) rfl) (fun vr S_5 H locs hP hJ => ?_) (fun x ce q H locs hxp hJ hce hcv hcl => ?_)
  · skip
    obtain ⟨hf0, rfl, hrest⟩ := hP
    refine lv_i2l (v := ((f_co fu n z mm 0 p0 p1 0).1).toInt64) hx hb dL_join_8 rfl ?_
    refine t_ou C hJ dL_join_9 (fun H locs hJ => ?_)
    refine lv_goto (tgt := 21) hx hb dL_join_10 (by decide) ?_
    refine lv_iconst (v := 0) hx hb dL_join_21 (by decide) ?_
    exact rX_i C hJ hr rfl ⟨by rw [hf0]; rfl, Or.inl ⟨hf0, S_5, hrest, rfl⟩⟩ dL_join_22 ⟨by decide, by decide⟩
  · rcases hF with hFx | hFx | hFx
    · skip
      rw [hFx, exO_0] at hxp; cases hxp
    · skip
      rw [hFx, exO_2] at hxp
      obtain rfl := Option.some.inj hxp
      refine vx_catch C.ow [] ⟨0, 10, 13, 13⟩ [⟨0, 10, 17, 15⟩] (by rw [htab]; rfl) (fun z hz => by cases hz) (by decide) (by decide) (C.ts _ kk_L_13) (C.cst cst_2) hce hcv hcl ?_
      refine lv_astore (lv' := [(4, .ref q), (0, .ref (gA E 83)), (1, .int p0), (2, .int p1), (3, .ref (gA E 89))]) hx hb dL_join_13 hl (by decide) rfl (fun ls hl => ?_)
      refine lv_iconst (v := 1) hx hb dL_join_15 (by decide) ?_
      exact rX_i C hJ hr rfl ⟨by rw [hFx]; rfl, Or.inr ⟨by rw [hFx]; decide, rfl⟩⟩ dL_join_16 ⟨by decide, by decide⟩
    · skip
      rw [hFx, exO_3] at hxp
      obtain rfl := Option.some.inj hxp
      refine vx_catch C.ow [⟨0, 10, 13, 13⟩] ⟨0, 10, 17, 15⟩ [] (by rw [htab]; rfl) (fun z hz => by rw [List.mem_singleton.mp hz]; exact Or.inr ⟨by decide, xNm.getD 1 "", C.ts _ kk_L_13, C.nc h3 2 1 (by decide) (by decide) (by decide)⟩) (by decide) (by decide) (C.ts _ kk_L_15) (C.cst cst_3) hce hcv hcl ?_
      refine lv_astore (lv' := [(4, .ref q), (0, .ref (gA E 83)), (1, .int p0), (2, .int p1), (3, .ref (gA E 89))]) hx hb dL_join_17 hl (by decide) rfl (fun ls hl => ?_)
      refine lv_iconst (v := 2) hx hb dL_join_19 (by decide) ?_
      exact rX_i C hJ hr rfl ⟨by rw [hFx]; rfl, Or.inr ⟨by rw [hFx]; decide, rfl⟩⟩ dL_join_20 ⟨by decide, by decide⟩
set_option maxHeartbeats 4000000 in
set_option maxRecDepth 100000 in
theorem cl_joinAt {l : Launch} {E : GE} (hE : Env0 E) {S : ST} {X : EX} (hX : Env1 E X) {u_x : Nat × Nat × Nat} (hX2 : Env2 l E u_x) {n : Nat} {z : Nat → Int32} {mm : Nat → Nat → Int32} {mc : Nat} {sv : Nat → LVt} (hXI : XI S (n, z, mm) mc sv) (p0 p1 p2 : Int32) (fu : Nat) (hfu : fu = 1000) (h3 : Env3 E) : MH l E yL_joinAt cL_joinAt 6 [(0, 12, 15, 13), (0, 12, 19, 15)] 9 162 1 6 S [.ref (gA E 83), .int p0, .int p1, .int p2, .ref (gA E 89)] (fun v S1 => WP S S1 v (m_j (f_ft (gof n mm) n 1 p0 p1 p2)) (f_ft (gof n mm) n 1 p0 p1 p2) ((f_co fu n z mm 1 p0 p1 p2).1) (fun S1 => XI S1 (f_co fu n z mm 1 p0 p1 p2).2 (f_push (n, z, mm) mc sv).1 (f_push (n, z, mm) mc sv).2 ∧ S1.2.2 = S.2.2)) := by
  have hF : f_ft (gof n mm) n 1 p0 p1 p2 = 0 ∨ f_ft (gof n mm) n 1 p0 p1 p2 = 2 ∨ f_ft (gof n mm) n 1 p0 p1 p2 = 3 := jf3 _ _ _ _ _
  refine MH.of hE (by decide) (Nat.le_of_ble_eq_true rfl) ?_
  intro p e s m below meth c ls C htab hJ hr hl
  have hx := C.x
  have hb := C.b
  have hl : lv_has ls 6 [(0, .ref (gA E 83)), (1, .int p0), (2, .int p1), (3, .int p2), (4, .ref (gA E 89))] := hl
  refine lv_aload hx hb dL_joinAt_0 (lv_at hl 4 rfl) ?_
  refine lv_iconst (v := 0) hx hb dL_joinAt_2 (by decide) ?_
  refine lv_aload_n hx hb dL_joinAt_3 rfl (lv_at hl 0 rfl) ?_
  refine lv_iload_n hx hb dL_joinAt_4 rfl (lv_at hl 1 rfl) ?_
  refine lv_iload_n hx hb dL_joinAt_5 rfl (lv_at hl 2 rfl) ?_
  refine lv_iload_n hx hb dL_joinAt_6 rfl (lv_at hl 3 rfl) ?_
  refine k_XH hJ (r_XV (i := 83) (ci := 4) (N := 4) (T := TX6) (fs := [.ref (gA E 0), .ref (gA E 13), .ref (gA E 78), .ref (gA E 80)]) (rest := [.int 0, .ref (gA E 89)]) (n := 3) C hJ (c_X6_joinAt hE hX hX2 hXI p0 p1 p2 fu hfu) (by omega) (pE_qu E S) rfl km_L_17 ki_X6_joinAt ks_X6_joinAt k0_X6 kc_X6_joinAt ⟨rfl, by decide, by decide, by decide +kernel⟩ rfl dL_joinAt_7 hl.1 ⟨Nat.le_of_ble_eq_true rfl, Nat.le_of_ble_eq_true rfl⟩ ⟨by decide, by decide⟩ (Nat.le_of_ble_eq_true rfl) rfl) (fun vr S_5 H locs hP hJ => ?_) (fun x ce q H locs hxp hJ hce hcv hcl => ?_)
  · skip
    obtain ⟨hf0, rfl, hrest⟩ := hP
    refine lv_i2l (v := ((f_co fu n z mm 1 p0 p1 p2).1).toInt64) hx hb dL_joinAt_10 rfl ?_
    refine t_ou C hJ dL_joinAt_11 (fun H locs hJ => ?_)
    refine lv_goto (tgt := 23) hx hb dL_joinAt_12 (by decide) ?_
    refine lv_iconst (v := 0) hx hb dL_joinAt_23 (by decide) ?_
    exact rX_i C hJ hr rfl ⟨by rw [hf0]; rfl, Or.inl ⟨hf0, S_5, hrest, rfl⟩⟩ dL_joinAt_24 ⟨by decide, by decide⟩
  · rcases hF with hFx | hFx | hFx
    · skip
      rw [hFx, exO_0] at hxp; cases hxp
    · skip
      rw [hFx, exO_2] at hxp
      obtain rfl := Option.some.inj hxp
      refine vx_catch C.ow [] ⟨0, 12, 15, 13⟩ [⟨0, 12, 19, 15⟩] (by rw [htab]; rfl) (fun z hz => by cases hz) (by decide) (by decide) (C.ts _ kk_L_13) (C.cst cst_2) hce hcv hcl ?_
      refine lv_astore (lv' := [(5, .ref q), (0, .ref (gA E 83)), (1, .int p0), (2, .int p1), (3, .int p2), (4, .ref (gA E 89))]) hx hb dL_joinAt_15 hl (by decide) rfl (fun ls hl => ?_)
      refine lv_iconst (v := 1) hx hb dL_joinAt_17 (by decide) ?_
      exact rX_i C hJ hr rfl ⟨by rw [hFx]; rfl, Or.inr ⟨by rw [hFx]; decide, rfl⟩⟩ dL_joinAt_18 ⟨by decide, by decide⟩
    · skip
      rw [hFx, exO_3] at hxp
      obtain rfl := Option.some.inj hxp
      refine vx_catch C.ow [⟨0, 12, 15, 13⟩] ⟨0, 12, 19, 15⟩ [] (by rw [htab]; rfl) (fun z hz => by rw [List.mem_singleton.mp hz]; exact Or.inr ⟨by decide, xNm.getD 1 "", C.ts _ kk_L_13, C.nc h3 2 1 (by decide) (by decide) (by decide)⟩) (by decide) (by decide) (C.ts _ kk_L_15) (C.cst cst_3) hce hcv hcl ?_
      refine lv_astore (lv' := [(5, .ref q), (0, .ref (gA E 83)), (1, .int p0), (2, .int p1), (3, .int p2), (4, .ref (gA E 89))]) hx hb dL_joinAt_19 hl (by decide) rfl (fun ls hl => ?_)
      refine lv_iconst (v := 2) hx hb dL_joinAt_21 (by decide) ?_
      exact rX_i C hJ hr rfl ⟨by rw [hFx]; rfl, Or.inr ⟨by rw [hFx]; decide, rfl⟩⟩ dL_joinAt_22 ⟨by decide, by decide⟩
set_option maxHeartbeats 4000000 in
set_option maxRecDepth 100000 in
theorem cl_leave {l : Launch} {E : GE} (hE : Env0 E) {S : ST} {X : EX} (hX : Env1 E X) {u_x : Nat × Nat × Nat} (hX2 : Env2 l E u_x) {n : Nat} {z : Nat → Int32} {mm : Nat → Nat → Int32} {mc : Nat} {sv : Nat → LVt} (hXI : XI S (n, z, mm) mc sv) (p0 : Int32) (fu : Nat) (hfu : fu = 1000) (h3 : Env3 E) : MH l E yL_leave cL_leave 4 [(0, 9, 12, 25)] 9 160 1 6 S [.ref (gA E 83), .int p0, .ref (gA E 89)] (fun v S1 => WP S S1 v (f_ft (gof n mm) n 2 p0 0 0) (f_ft (gof n mm) n 2 p0 0 0) ((f_co fu n z mm 2 p0 0 0).1) (fun S1 => XI S1 (f_co fu n z mm 2 p0 0 0).2 (f_push (n, z, mm) mc sv).1 (f_push (n, z, mm) mc sv).2 ∧ S1.2.2 = S.2.2)) := by
  have hF : f_ft (gof n mm) n 2 p0 0 0 = 0 ∨ f_ft (gof n mm) n 2 p0 0 0 = 1 := fmf2 _
  refine MH.of hE (by decide) (Nat.le_of_ble_eq_true rfl) ?_
  intro p e s m below meth c ls C htab hJ hr hl
  have hx := C.x
  have hb := C.b
  have hl : lv_has ls 4 [(0, .ref (gA E 83)), (1, .int p0), (2, .ref (gA E 89))] := hl
  refine lv_aload_n hx hb dL_leave_0 rfl (lv_at hl 2 rfl) ?_
  refine lv_iconst (v := 0) hx hb dL_leave_1 (by decide) ?_
  refine lv_aload_n hx hb dL_leave_2 rfl (lv_at hl 0 rfl) ?_
  refine lv_iload_n hx hb dL_leave_3 rfl (lv_at hl 1 rfl) ?_
  refine k_XH hJ (r_XV (i := 83) (ci := 4) (N := 4) (T := TX6) (fs := [.ref (gA E 0), .ref (gA E 13), .ref (gA E 78), .ref (gA E 80)]) (rest := [.int 0, .ref (gA E 89)]) (n := 1) C hJ (c_X6_leave hE hX hX2 hXI p0 fu hfu) (by omega) (pE_qu E S) rfl km_L_21 ki_X6_leave ks_X6_leave k0_X6 kc_X6_leave ⟨rfl, by decide, by decide, by decide +kernel⟩ rfl dL_leave_4 hl.1 ⟨Nat.le_of_ble_eq_true rfl, Nat.le_of_ble_eq_true rfl⟩ ⟨by decide, by decide⟩ (Nat.le_of_ble_eq_true rfl) rfl) (fun vr S_5 H locs hP hJ => ?_) (fun x ce q H locs hxp hJ hce hcv hcl => ?_)
  · skip
    obtain ⟨hf0, rfl, hrest⟩ := hP
    refine lv_i2l (v := ((f_co fu n z mm 2 p0 0 0).1).toInt64) hx hb dL_leave_7 rfl ?_
    refine t_ou C hJ dL_leave_8 (fun H locs hJ => ?_)
    refine lv_goto (tgt := 15) hx hb dL_leave_9 (by decide) ?_
    refine lv_iconst (v := 0) hx hb dL_leave_15 (by decide) ?_
    exact rX_i C hJ hr rfl ⟨by rw [hf0], Or.inl ⟨hf0, S_5, hrest, rfl⟩⟩ dL_leave_16 ⟨by decide, by decide⟩
  · rcases hF with hFx | hFx
    · skip
      rw [hFx, exO_0] at hxp; cases hxp
    · skip
      rw [hFx, exO_1] at hxp
      obtain rfl := Option.some.inj hxp
      refine vx_catch C.ow [] ⟨0, 9, 12, 25⟩ [] (by rw [htab]; rfl) (fun z hz => by cases hz) (by decide) (by decide) (C.ts _ kk_L_25) (C.cst cst_1) hce hcv hcl ?_
      refine lv_astore_n (lv' := [(3, .ref q), (0, .ref (gA E 83)), (1, .int p0), (2, .ref (gA E 89))]) hx hb dL_leave_12 rfl hl (by decide) rfl (fun ls hl => ?_)
      refine lv_iconst (v := 1) hx hb dL_leave_13 (by decide) ?_
      exact rX_i C hJ hr rfl ⟨by rw [hFx], Or.inr ⟨by rw [hFx]; decide, rfl⟩⟩ dL_leave_14 ⟨by decide, by decide⟩
set_option maxHeartbeats 4000000 in
set_option maxRecDepth 100000 in
theorem cl_serve {l : Launch} {E : GE} (hE : Env0 E) {S : ST} {X : EX} (hX : Env1 E X) {u_x : Nat × Nat × Nat} (hX2 : Env2 l E u_x) {n : Nat} {z : Nat → Int32} {mm : Nat → Nat → Int32} {mc : Nat} {sv : Nat → LVt} (hXI : XI S (n, z, mm) mc sv) (fu : Nat) (hfu : fu = 1000) (h3 : Env3 E) : MH l E yL_serve cL_serve 3 [(0, 8, 11, 15)] 9 159 1 6 S [.ref (gA E 83), .ref (gA E 89)] (fun v S1 => WP S S1 v (m_1 (f_ft (gof n mm) n 9 0 0 0)) (f_ft (gof n mm) n 9 0 0 0) ((f_co fu n z mm 9 0 0 0).1) (fun S1 => XI S1 (f_co fu n z mm 9 0 0 0).2 (f_push (n, z, mm) mc sv).1 (f_push (n, z, mm) mc sv).2 ∧ S1.2.2 = S.2.2)) := by
  have hF : f_ft (gof n mm) n 9 0 0 0 = 0 ∨ f_ft (gof n mm) n 9 0 0 0 = 3 := if2
  refine MH.of hE (by decide) (Nat.le_of_ble_eq_true rfl) ?_
  intro p e s m below meth c ls C htab hJ hr hl
  have hx := C.x
  have hb := C.b
  have hl : lv_has ls 3 [(0, .ref (gA E 83)), (1, .ref (gA E 89))] := hl
  refine lv_aload_n hx hb dL_serve_0 rfl (lv_at hl 1 rfl) ?_
  refine lv_iconst (v := 0) hx hb dL_serve_1 (by decide) ?_
  refine lv_aload_n hx hb dL_serve_2 rfl (lv_at hl 0 rfl) ?_
  refine k_XH hJ (r_XV (i := 83) (ci := 4) (N := 4) (T := TX6) (fs := [.ref (gA E 0), .ref (gA E 13), .ref (gA E 78), .ref (gA E 80)]) (rest := [.int 0, .ref (gA E 89)]) (n := 0) C hJ (c_X6_serve hE hX hX2 hXI fu hfu) (by omega) (pE_qu E S) rfl km_L_27 ki_X6_serve ks_X6_serve k0_X6 kc_X6_serve ⟨rfl, by decide, by decide, by decide +kernel⟩ rfl dL_serve_3 hl.1 ⟨Nat.le_of_ble_eq_true rfl, Nat.le_of_ble_eq_true rfl⟩ ⟨by decide, by decide⟩ (Nat.le_of_ble_eq_true rfl) rfl) (fun vr S_5 H locs hP hJ => ?_) (fun x ce q H locs hxp hJ hce hcv hcl => ?_)
  · skip
    obtain ⟨hf0, rfl, hrest⟩ := hP
    refine lv_i2l (v := ((f_co fu n z mm 9 0 0 0).1).toInt64) hx hb dL_serve_6 rfl ?_
    refine t_ou C hJ dL_serve_7 (fun H locs hJ => ?_)
    refine lv_goto (tgt := 14) hx hb dL_serve_8 (by decide) ?_
    refine lv_iconst (v := 0) hx hb dL_serve_14 (by decide) ?_
    exact rX_i C hJ hr rfl ⟨by rw [hf0]; rfl, Or.inl ⟨hf0, S_5, hrest, rfl⟩⟩ dL_serve_15 ⟨by decide, by decide⟩
  · rcases hF with hFx | hFx
    · skip
      rw [hFx, exO_0] at hxp; cases hxp
    · skip
      rw [hFx, exO_3] at hxp
      obtain rfl := Option.some.inj hxp
      refine vx_catch C.ow [] ⟨0, 8, 11, 15⟩ [] (by rw [htab]; rfl) (fun z hz => by cases hz) (by decide) (by decide) (C.ts _ kk_L_15) (C.cst cst_3) hce hcv hcl ?_
      refine lv_astore_n (lv' := [(2, .ref q), (0, .ref (gA E 83)), (1, .ref (gA E 89))]) hx hb dL_serve_11 rfl hl (by decide) rfl (fun ls hl => ?_)
      refine lv_iconst (v := 1) hx hb dL_serve_12 (by decide) ?_
      exact rX_i C hJ hr rfl ⟨by rw [hFx]; rfl, Or.inr ⟨by rw [hFx]; decide, rfl⟩⟩ dL_serve_13 ⟨by decide, by decide⟩
set_option maxHeartbeats 4000000 in
set_option maxRecDepth 100000 in
theorem cl_say {l : Launch} {E : GE} (hE : Env0 E) {S : ST} {X : EX} (hX : Env1 E X) {u_x : Nat × Nat × Nat} (hX2 : Env2 l E u_x) {n : Nat} {z : Nat → Int32} {mm : Nat → Nat → Int32} {mc : Nat} {sv : Nat → LVt} (hXI : XI S (n, z, mm) mc sv) (p0 p1 : Int32) (fu : Nat) (hfu : fu = 1000) (h3 : Env3 E) : MH l E yL_say cL_say 5 [(0, 10, 13, 25), (0, 10, 17, 13)] 9 161 1 6 S [.ref (gA E 83), .int p0, .int p1, .ref (gA E 89)] (fun v S1 => WP S S1 v (f_ft (gof n mm) n 3 p0 p1 0) (f_ft (gof n mm) n 3 p0 p1 0) ((f_co fu n z mm 3 p0 p1 0).1) (fun S1 => XI S1 (f_co fu n z mm 3 p0 p1 0).2 (f_push (n, z, mm) mc sv).1 (f_push (n, z, mm) mc sv).2 ∧ S1.2.2 = S.2.2)) := by
  have hF : f_ft (gof n mm) n 3 p0 p1 0 = 0 ∨ f_ft (gof n mm) n 3 p0 p1 0 = 1 ∨ f_ft (gof n mm) n 3 p0 p1 0 = 2 := fmf3 _ _
  refine MH.of hE (by decide) (Nat.le_of_ble_eq_true rfl) ?_
  intro p e s m below meth c ls C htab hJ hr hl
  have hx := C.x
  have hb := C.b
  have hl : lv_has ls 5 [(0, .ref (gA E 83)), (1, .int p0), (2, .int p1), (3, .ref (gA E 89))] := hl
  refine lv_aload_n hx hb dL_say_0 rfl (lv_at hl 3 rfl) ?_
  refine lv_iconst (v := 0) hx hb dL_say_1 (by decide) ?_
  refine lv_aload_n hx hb dL_say_2 rfl (lv_at hl 0 rfl) ?_
  refine lv_iload_n hx hb dL_say_3 rfl (lv_at hl 1 rfl) ?_
  refine lv_iload_n hx hb dL_say_4 rfl (lv_at hl 2 rfl) ?_
  refine k_XH hJ (r_XV (i := 83) (ci := 4) (N := 4) (T := TX6) (fs := [.ref (gA E 0), .ref (gA E 13), .ref (gA E 78), .ref (gA E 80)]) (rest := [.int 0, .ref (gA E 89)]) (n := 2) C hJ (c_X6_say hE hX hX2 hXI p0 p1 fu hfu) (by omega) (pE_qu E S) rfl km_L_31 ki_X6_say ks_X6_say k0_X6 kc_X6_say ⟨rfl, by decide, by decide, by decide +kernel⟩ rfl dL_say_5 hl.1 ⟨Nat.le_of_ble_eq_true rfl, Nat.le_of_ble_eq_true rfl⟩ ⟨by decide, by decide⟩ (Nat.le_of_ble_eq_true rfl) rfl) (fun vr S_5 H locs hP hJ => ?_) (fun x ce q H locs hxp hJ hce hcv hcl => ?_)
  · skip
    obtain ⟨hf0, rfl, hrest⟩ := hP
    refine lv_i2l (v := ((f_co fu n z mm 3 p0 p1 0).1).toInt64) hx hb dL_say_8 rfl ?_
    refine t_ou C hJ dL_say_9 (fun H locs hJ => ?_)
    refine lv_goto (tgt := 21) hx hb dL_say_10 (by decide) ?_
    refine lv_iconst (v := 0) hx hb dL_say_21 (by decide) ?_
    exact rX_i C hJ hr rfl ⟨by rw [hf0], Or.inl ⟨hf0, S_5, hrest, rfl⟩⟩ dL_say_22 ⟨by decide, by decide⟩
  · rcases hF with hFx | hFx | hFx
    · skip
      rw [hFx, exO_0] at hxp; cases hxp
    · skip
      rw [hFx, exO_1] at hxp
      obtain rfl := Option.some.inj hxp
      refine vx_catch C.ow [] ⟨0, 10, 13, 25⟩ [⟨0, 10, 17, 13⟩] (by rw [htab]; rfl) (fun z hz => by cases hz) (by decide) (by decide) (C.ts _ kk_L_25) (C.cst cst_1) hce hcv hcl ?_
      refine lv_astore (lv' := [(4, .ref q), (0, .ref (gA E 83)), (1, .int p0), (2, .int p1), (3, .ref (gA E 89))]) hx hb dL_say_13 hl (by decide) rfl (fun ls hl => ?_)
      refine lv_iconst (v := 1) hx hb dL_say_15 (by decide) ?_
      exact rX_i C hJ hr rfl ⟨by rw [hFx], Or.inr ⟨by rw [hFx]; decide, rfl⟩⟩ dL_say_16 ⟨by decide, by decide⟩
    · skip
      rw [hFx, exO_2] at hxp
      obtain rfl := Option.some.inj hxp
      refine vx_catch C.ow [⟨0, 10, 13, 25⟩] ⟨0, 10, 17, 13⟩ [] (by rw [htab]; rfl) (fun z hz => by rw [List.mem_singleton.mp hz]; exact Or.inr ⟨by decide, xNm.getD 0 "", C.ts _ kk_L_25, C.nc h3 1 0 (by decide) (by decide) (by decide)⟩) (by decide) (by decide) (C.ts _ kk_L_13) (C.cst cst_2) hce hcv hcl ?_
      refine lv_astore (lv' := [(4, .ref q), (0, .ref (gA E 83)), (1, .int p0), (2, .int p1), (3, .ref (gA E 89))]) hx hb dL_say_17 hl (by decide) rfl (fun ls hl => ?_)
      refine lv_iconst (v := 2) hx hb dL_say_19 (by decide) ?_
      exact rX_i C hJ hr rfl ⟨by rw [hFx], Or.inr ⟨by rw [hFx]; decide, rfl⟩⟩ dL_say_20 ⟨by decide, by decide⟩
set_option maxHeartbeats 4000000 in
set_option maxRecDepth 100000 in
theorem cl_setSplit {l : Launch} {E : GE} (hE : Env0 E) {S : ST} {u_x : Nat × Nat × Nat} (hX2 : Env2 l E u_x) {n : Nat} {z : Nat → Int32} {mm : Nat → Nat → Int32} {mc : Nat} {sv : Nat → LVt} (hXI : XI S (n, z, mm) mc sv) (p0 : Int32) (h3 : Env3 E) : MH l E yL_setSplit cL_setSplit 4 [(0, 9, 12, 13)] 8 124 1 6 S [.ref (gA E 83), .int p0, .ref (gA E 89)] (fun v S1 => WP S S1 v (m_1 (if f_in p0 0 100 = true then (0 : Int32) else 2)) (if f_in p0 0 100 = true then (0 : Int32) else 2) (z 3) (fun S1 => XI S1 (n, upd z 3 p0, mm) (f_push (n, z, mm) mc sv).1 (f_push (n, z, mm) mc sv).2 ∧ S1.2.2 = S.2.2)) := by
  have hF : (if f_in p0 0 100 = true then (0 : Int32) else 2) = 0 ∨ (if f_in p0 0 100 = true then (0 : Int32) else 2) = 2 := if2
  refine MH.of hE (by decide) (Nat.le_of_ble_eq_true rfl) ?_
  intro p e s m below meth c ls C htab hJ hr hl
  have hx := C.x
  have hb := C.b
  have hl : lv_has ls 4 [(0, .ref (gA E 83)), (1, .int p0), (2, .ref (gA E 89))] := hl
  refine lv_aload_n hx hb dL_setSplit_0 rfl (lv_at hl 2 rfl) ?_
  refine lv_iconst (v := 0) hx hb dL_setSplit_1 (by decide) ?_
  refine lv_aload_n hx hb dL_setSplit_2 rfl (lv_at hl 0 rfl) ?_
  refine lv_iload_n hx hb dL_setSplit_3 rfl (lv_at hl 1 rfl) ?_
  refine k_XH hJ (r_XV (i := 83) (ci := 4) (N := 4) (T := TX6) (fs := [.ref (gA E 0), .ref (gA E 13), .ref (gA E 78), .ref (gA E 80)]) (rest := [.int 0, .ref (gA E 89)]) (n := 1) C hJ (c_X6_setSplit hE hX2 hXI p0) (by omega) (pE_qu E S) rfl km_L_34 ki_X6_setSplit ks_X6_setSplit k0_X6 kc_X6_setSplit ⟨rfl, by decide, by decide, by decide +kernel⟩ rfl dL_setSplit_4 hl.1 ⟨Nat.le_of_ble_eq_true rfl, Nat.le_of_ble_eq_true rfl⟩ ⟨by decide, by decide⟩ (Nat.le_of_ble_eq_true rfl) rfl) (fun vr S_5 H locs hP hJ => ?_) (fun x ce q H locs hxp hJ hce hcv hcl => ?_)
  · skip
    obtain ⟨hf0, rfl, hrest⟩ := hP
    refine lv_i2l (v := (z 3).toInt64) hx hb dL_setSplit_7 rfl ?_
    refine t_ou C hJ dL_setSplit_8 (fun H locs hJ => ?_)
    refine lv_goto (tgt := 15) hx hb dL_setSplit_9 (by decide) ?_
    refine lv_iconst (v := 0) hx hb dL_setSplit_15 (by decide) ?_
    exact rX_i C hJ hr rfl ⟨by rw [hf0]; rfl, Or.inl ⟨hf0, S_5, hrest, rfl⟩⟩ dL_setSplit_16 ⟨by decide, by decide⟩
  · rcases hF with hFx | hFx
    · skip
      rw [hFx, exO_0] at hxp; cases hxp
    · skip
      rw [hFx, exO_2] at hxp
      obtain rfl := Option.some.inj hxp
      refine vx_catch C.ow [] ⟨0, 9, 12, 13⟩ [] (by rw [htab]; rfl) (fun z hz => by cases hz) (by decide) (by decide) (C.ts _ kk_L_13) (C.cst cst_2) hce hcv hcl ?_
      refine lv_astore_n (lv' := [(3, .ref q), (0, .ref (gA E 83)), (1, .int p0), (2, .ref (gA E 89))]) hx hb dL_setSplit_12 rfl hl (by decide) rfl (fun ls hl => ?_)
      refine lv_iconst (v := 1) hx hb dL_setSplit_13 (by decide) ?_
      exact rX_i C hJ hr rfl ⟨by rw [hFx]; rfl, Or.inr ⟨by rw [hFx]; decide, rfl⟩⟩ dL_setSplit_14 ⟨by decide, by decide⟩
set_option maxHeartbeats 4000000 in
set_option maxRecDepth 100000 in
theorem cl_offer {l : Launch} {E : GE} (hE : Env0 E) {S : ST} {X : EX} (hX : Env1 E X) {u_x : Nat × Nat × Nat} (hX2 : Env2 l E u_x) {n : Nat} {z : Nat → Int32} {mm : Nat → Nat → Int32} {mc : Nat} {sv : Nat → LVt} (hXI : XI S (n, z, mm) mc sv) (p0 p1 : Int32) (fu : Nat) (hfu : fu = 1000) (h3 : Env3 E) : MH l E yL_offer cL_offer 5 [(0, 10, 13, 25), (0, 10, 17, 13), (0, 10, 21, 15)] 9 161 1 6 S [.ref (gA E 83), .int p0, .int p1, .ref (gA E 89)] (fun v S1 => WP S S1 v (f_ft (gof n mm) n 4 p0 p1 0) (f_ft (gof n mm) n 4 p0 p1 0) ((f_co fu n z mm 4 p0 p1 0).1) (fun S1 => XI S1 (f_co fu n z mm 4 p0 p1 0).2 (f_push (n, z, mm) mc sv).1 (f_push (n, z, mm) mc sv).2 ∧ S1.2.2 = S.2.2)) := by
  have hF : f_ft (gof n mm) n 4 p0 p1 0 = 0 ∨ f_ft (gof n mm) n 4 p0 p1 0 = 1 ∨ f_ft (gof n mm) n 4 p0 p1 0 = 2 ∨ f_ft (gof n mm) n 4 p0 p1 0 = 3 := fof4 _ _
  refine MH.of hE (by decide) (Nat.le_of_ble_eq_true rfl) ?_
  intro p e s m below meth c ls C htab hJ hr hl
  have hx := C.x
  have hb := C.b
  have hl : lv_has ls 5 [(0, .ref (gA E 83)), (1, .int p0), (2, .int p1), (3, .ref (gA E 89))] := hl
  refine lv_aload_n hx hb dL_offer_0 rfl (lv_at hl 3 rfl) ?_
  refine lv_iconst (v := 0) hx hb dL_offer_1 (by decide) ?_
  refine lv_aload_n hx hb dL_offer_2 rfl (lv_at hl 0 rfl) ?_
  refine lv_iload_n hx hb dL_offer_3 rfl (lv_at hl 1 rfl) ?_
  refine lv_iload_n hx hb dL_offer_4 rfl (lv_at hl 2 rfl) ?_
  refine k_XH hJ (r_XV (i := 83) (ci := 4) (N := 4) (T := TX6) (fs := [.ref (gA E 0), .ref (gA E 13), .ref (gA E 78), .ref (gA E 80)]) (rest := [.int 0, .ref (gA E 89)]) (n := 2) C hJ (c_X6_offer hE hX hX2 hXI p0 p1 fu hfu) (by omega) (pE_qu E S) rfl km_L_37 ki_X6_offer ks_X6_offer k0_X6 kc_X6_offer ⟨rfl, by decide, by decide, by decide +kernel⟩ rfl dL_offer_5 hl.1 ⟨Nat.le_of_ble_eq_true rfl, Nat.le_of_ble_eq_true rfl⟩ ⟨by decide, by decide⟩ (Nat.le_of_ble_eq_true rfl) rfl) (fun vr S_5 H locs hP hJ => ?_) (fun x ce q H locs hxp hJ hce hcv hcl => ?_)
  · skip
    obtain ⟨hf0, rfl, hrest⟩ := hP
    refine lv_i2l (v := ((f_co fu n z mm 4 p0 p1 0).1).toInt64) hx hb dL_offer_8 rfl ?_
    refine t_ou C hJ dL_offer_9 (fun H locs hJ => ?_)
    refine lv_goto (tgt := 25) hx hb dL_offer_10 (by decide) ?_
    refine lv_iconst (v := 0) hx hb dL_offer_25 (by decide) ?_
    exact rX_i C hJ hr rfl ⟨by rw [hf0], Or.inl ⟨hf0, S_5, hrest, rfl⟩⟩ dL_offer_26 ⟨by decide, by decide⟩
  · rcases hF with hFx | hFx | hFx | hFx
    · skip
      rw [hFx, exO_0] at hxp; cases hxp
    · skip
      rw [hFx, exO_1] at hxp
      obtain rfl := Option.some.inj hxp
      refine vx_catch C.ow [] ⟨0, 10, 13, 25⟩ [⟨0, 10, 17, 13⟩, ⟨0, 10, 21, 15⟩] (by rw [htab]; rfl) (fun z hz => by cases hz) (by decide) (by decide) (C.ts _ kk_L_25) (C.cst cst_1) hce hcv hcl ?_
      refine lv_astore (lv' := [(4, .ref q), (0, .ref (gA E 83)), (1, .int p0), (2, .int p1), (3, .ref (gA E 89))]) hx hb dL_offer_13 hl (by decide) rfl (fun ls hl => ?_)
      refine lv_iconst (v := 1) hx hb dL_offer_15 (by decide) ?_
      exact rX_i C hJ hr rfl ⟨by rw [hFx], Or.inr ⟨by rw [hFx]; decide, rfl⟩⟩ dL_offer_16 ⟨by decide, by decide⟩
    · skip
      rw [hFx, exO_2] at hxp
      obtain rfl := Option.some.inj hxp
      refine vx_catch C.ow [⟨0, 10, 13, 25⟩] ⟨0, 10, 17, 13⟩ [⟨0, 10, 21, 15⟩] (by rw [htab]; rfl) (fun z hz => by rw [List.mem_singleton.mp hz]; exact Or.inr ⟨by decide, xNm.getD 0 "", C.ts _ kk_L_25, C.nc h3 1 0 (by decide) (by decide) (by decide)⟩) (by decide) (by decide) (C.ts _ kk_L_13) (C.cst cst_2) hce hcv hcl ?_
      refine lv_astore (lv' := [(4, .ref q), (0, .ref (gA E 83)), (1, .int p0), (2, .int p1), (3, .ref (gA E 89))]) hx hb dL_offer_17 hl (by decide) rfl (fun ls hl => ?_)
      refine lv_iconst (v := 2) hx hb dL_offer_19 (by decide) ?_
      exact rX_i C hJ hr rfl ⟨by rw [hFx], Or.inr ⟨by rw [hFx]; decide, rfl⟩⟩ dL_offer_20 ⟨by decide, by decide⟩
    · skip
      rw [hFx, exO_3] at hxp
      obtain rfl := Option.some.inj hxp
      refine vx_catch C.ow [⟨0, 10, 13, 25⟩, ⟨0, 10, 17, 13⟩] ⟨0, 10, 21, 15⟩ [] (by rw [htab]; rfl) (fun z hz => (List.mem_cons.mp hz).elim (fun hz => by rw [hz]; exact Or.inr ⟨by decide, xNm.getD 0 "", C.ts _ kk_L_25, C.nc h3 2 0 (by decide) (by decide) (by decide)⟩) (fun hz => by rw [List.mem_singleton.mp hz]; exact Or.inr ⟨by decide, xNm.getD 1 "", C.ts _ kk_L_13, C.nc h3 2 1 (by decide) (by decide) (by decide)⟩)) (by decide) (by decide) (C.ts _ kk_L_15) (C.cst cst_3) hce hcv hcl ?_
      refine lv_astore (lv' := [(4, .ref q), (0, .ref (gA E 83)), (1, .int p0), (2, .int p1), (3, .ref (gA E 89))]) hx hb dL_offer_21 hl (by decide) rfl (fun ls hl => ?_)
      refine lv_iconst (v := 3) hx hb dL_offer_23 (by decide) ?_
      exact rX_i C hJ hr rfl ⟨by rw [hFx], Or.inr ⟨by rw [hFx]; decide, rfl⟩⟩ dL_offer_24 ⟨by decide, by decide⟩
set_option maxHeartbeats 4000000 in
set_option maxRecDepth 100000 in
theorem cl_take {l : Launch} {E : GE} (hE : Env0 E) {S : ST} {X : EX} (hX : Env1 E X) {u_x : Nat × Nat × Nat} (hX2 : Env2 l E u_x) {n : Nat} {z : Nat → Int32} {mm : Nat → Nat → Int32} {mc : Nat} {sv : Nat → LVt} (hXI : XI S (n, z, mm) mc sv) (p0 : Int32) (fu : Nat) (hfu : fu = 1000) (h3 : Env3 E) : MH l E yL_take cL_take 4 [(0, 9, 12, 25), (0, 9, 15, 15)] 9 160 1 6 S [.ref (gA E 83), .int p0, .ref (gA E 89)] (fun v S1 => WP S S1 v (m_t (f_ft (gof n mm) n 5 p0 0 0)) (f_ft (gof n mm) n 5 p0 0 0) ((f_co fu n z mm 5 p0 0 0).1) (fun S1 => XI S1 (f_co fu n z mm 5 p0 0 0).2 (f_push (n, z, mm) mc sv).1 (f_push (n, z, mm) mc sv).2 ∧ S1.2.2 = S.2.2)) := by
  have hF : f_ft (gof n mm) n 5 p0 0 0 = 0 ∨ f_ft (gof n mm) n 5 p0 0 0 = 1 ∨ f_ft (gof n mm) n 5 p0 0 0 = 3 := ftf3 _ _
  refine MH.of hE (by decide) (Nat.le_of_ble_eq_true rfl) ?_
  intro p e s m below meth c ls C htab hJ hr hl
  have hx := C.x
  have hb := C.b
  have hl : lv_has ls 4 [(0, .ref (gA E 83)), (1, .int p0), (2, .ref (gA E 89))] := hl
  refine lv_aload_n hx hb dL_take_0 rfl (lv_at hl 2 rfl) ?_
  refine lv_iconst (v := 0) hx hb dL_take_1 (by decide) ?_
  refine lv_aload_n hx hb dL_take_2 rfl (lv_at hl 0 rfl) ?_
  refine lv_iload_n hx hb dL_take_3 rfl (lv_at hl 1 rfl) ?_
  refine k_XH hJ (r_XV (i := 83) (ci := 4) (N := 4) (T := TX6) (fs := [.ref (gA E 0), .ref (gA E 13), .ref (gA E 78), .ref (gA E 80)]) (rest := [.int 0, .ref (gA E 89)]) (n := 1) C hJ (c_X6_take hE hX hX2 hXI p0 fu hfu) (by omega) (pE_qu E S) rfl km_L_40 ki_X6_take ks_X6_take k0_X6 kc_X6_take ⟨rfl, by decide, by decide, by decide +kernel⟩ rfl dL_take_4 hl.1 ⟨Nat.le_of_ble_eq_true rfl, Nat.le_of_ble_eq_true rfl⟩ ⟨by decide, by decide⟩ (Nat.le_of_ble_eq_true rfl) rfl) (fun vr S_5 H locs hP hJ => ?_) (fun x ce q H locs hxp hJ hce hcv hcl => ?_)
  · skip
    obtain ⟨hf0, rfl, hrest⟩ := hP
    refine lv_i2l (v := ((f_co fu n z mm 5 p0 0 0).1).toInt64) hx hb dL_take_7 rfl ?_
    refine t_ou C hJ dL_take_8 (fun H locs hJ => ?_)
    refine lv_goto (tgt := 18) hx hb dL_take_9 (by decide) ?_
    refine lv_iconst (v := 0) hx hb dL_take_18 (by decide) ?_
    exact rX_i C hJ hr rfl ⟨by rw [hf0]; rfl, Or.inl ⟨hf0, S_5, hrest, rfl⟩⟩ dL_take_19 ⟨by decide, by decide⟩
  · rcases hF with hFx | hFx | hFx
    · skip
      rw [hFx, exO_0] at hxp; cases hxp
    · skip
      rw [hFx, exO_1] at hxp
      obtain rfl := Option.some.inj hxp
      refine vx_catch C.ow [] ⟨0, 9, 12, 25⟩ [⟨0, 9, 15, 15⟩] (by rw [htab]; rfl) (fun z hz => by cases hz) (by decide) (by decide) (C.ts _ kk_L_25) (C.cst cst_1) hce hcv hcl ?_
      refine lv_astore_n (lv' := [(3, .ref q), (0, .ref (gA E 83)), (1, .int p0), (2, .ref (gA E 89))]) hx hb dL_take_12 rfl hl (by decide) rfl (fun ls hl => ?_)
      refine lv_iconst (v := 1) hx hb dL_take_13 (by decide) ?_
      exact rX_i C hJ hr rfl ⟨by rw [hFx]; rfl, Or.inr ⟨by rw [hFx]; decide, rfl⟩⟩ dL_take_14 ⟨by decide, by decide⟩
    · skip
      rw [hFx, exO_3] at hxp
      obtain rfl := Option.some.inj hxp
      refine vx_catch C.ow [⟨0, 9, 12, 25⟩] ⟨0, 9, 15, 15⟩ [] (by rw [htab]; rfl) (fun z hz => by rw [List.mem_singleton.mp hz]; exact Or.inr ⟨by decide, xNm.getD 0 "", C.ts _ kk_L_25, C.nc h3 2 0 (by decide) (by decide) (by decide)⟩) (by decide) (by decide) (C.ts _ kk_L_15) (C.cst cst_3) hce hcv hcl ?_
      refine lv_astore_n (lv' := [(3, .ref q), (0, .ref (gA E 83)), (1, .int p0), (2, .ref (gA E 89))]) hx hb dL_take_15 rfl hl (by decide) rfl (fun ls hl => ?_)
      refine lv_iconst (v := 2) hx hb dL_take_16 (by decide) ?_
      exact rX_i C hJ hr rfl ⟨by rw [hFx]; rfl, Or.inr ⟨by rw [hFx]; decide, rfl⟩⟩ dL_take_17 ⟨by decide, by decide⟩
set_option maxHeartbeats 4000000 in
set_option maxRecDepth 100000 in
theorem cl_swap {l : Launch} {E : GE} (hE : Env0 E) {S : ST} {X : EX} (hX : Env1 E X) {u_x : Nat × Nat × Nat} (hX2 : Env2 l E u_x) {n : Nat} {z : Nat → Int32} {mm : Nat → Nat → Int32} {mc : Nat} {sv : Nat → LVt} (hXI : XI S (n, z, mm) mc sv) (p0 : Int32) (fu : Nat) (hfu : fu = 1000) (h3 : Env3 E) : MH l E yL_swap cL_swap 4 [(0, 9, 12, 25), (0, 9, 15, 15)] 9 160 1 6 S [.ref (gA E 83), .int p0, .ref (gA E 89)] (fun v S1 => WP S S1 v (m_t (f_ft (gof n mm) n 6 p0 0 0)) (f_ft (gof n mm) n 6 p0 0 0) ((f_co fu n z mm 6 p0 0 0).1) (fun S1 => XI S1 (f_co fu n z mm 6 p0 0 0).2 (f_push (n, z, mm) mc sv).1 (f_push (n, z, mm) mc sv).2 ∧ S1.2.2 = S.2.2)) := by
  have hF : f_ft (gof n mm) n 6 p0 0 0 = 0 ∨ f_ft (gof n mm) n 6 p0 0 0 = 1 ∨ f_ft (gof n mm) n 6 p0 0 0 = 3 := fpf3 _ _ _
  refine MH.of hE (by decide) (Nat.le_of_ble_eq_true rfl) ?_
  intro p e s m below meth c ls C htab hJ hr hl
  have hx := C.x
  have hb := C.b
  have hl : lv_has ls 4 [(0, .ref (gA E 83)), (1, .int p0), (2, .ref (gA E 89))] := hl
  refine lv_aload_n hx hb dL_swap_0 rfl (lv_at hl 2 rfl) ?_
  refine lv_iconst (v := 0) hx hb dL_swap_1 (by decide) ?_
  refine lv_aload_n hx hb dL_swap_2 rfl (lv_at hl 0 rfl) ?_
  refine lv_iload_n hx hb dL_swap_3 rfl (lv_at hl 1 rfl) ?_
  refine k_XH hJ (r_XV (i := 83) (ci := 4) (N := 4) (T := TX6) (fs := [.ref (gA E 0), .ref (gA E 13), .ref (gA E 78), .ref (gA E 80)]) (rest := [.int 0, .ref (gA E 89)]) (n := 1) C hJ (c_X6_swap hE hX hX2 hXI p0 fu hfu) (by omega) (pE_qu E S) rfl km_L_43 ki_X6_swap ks_X6_swap k0_X6 kc_X6_swap ⟨rfl, by decide, by decide, by decide +kernel⟩ rfl dL_swap_4 hl.1 ⟨Nat.le_of_ble_eq_true rfl, Nat.le_of_ble_eq_true rfl⟩ ⟨by decide, by decide⟩ (Nat.le_of_ble_eq_true rfl) rfl) (fun vr S_5 H locs hP hJ => ?_) (fun x ce q H locs hxp hJ hce hcv hcl => ?_)
  · skip
    obtain ⟨hf0, rfl, hrest⟩ := hP
    refine lv_i2l (v := ((f_co fu n z mm 6 p0 0 0).1).toInt64) hx hb dL_swap_7 rfl ?_
    refine t_ou C hJ dL_swap_8 (fun H locs hJ => ?_)
    refine lv_goto (tgt := 18) hx hb dL_swap_9 (by decide) ?_
    refine lv_iconst (v := 0) hx hb dL_swap_18 (by decide) ?_
    exact rX_i C hJ hr rfl ⟨by rw [hf0]; rfl, Or.inl ⟨hf0, S_5, hrest, rfl⟩⟩ dL_swap_19 ⟨by decide, by decide⟩
  · rcases hF with hFx | hFx | hFx
    · skip
      rw [hFx, exO_0] at hxp; cases hxp
    · skip
      rw [hFx, exO_1] at hxp
      obtain rfl := Option.some.inj hxp
      refine vx_catch C.ow [] ⟨0, 9, 12, 25⟩ [⟨0, 9, 15, 15⟩] (by rw [htab]; rfl) (fun z hz => by cases hz) (by decide) (by decide) (C.ts _ kk_L_25) (C.cst cst_1) hce hcv hcl ?_
      refine lv_astore_n (lv' := [(3, .ref q), (0, .ref (gA E 83)), (1, .int p0), (2, .ref (gA E 89))]) hx hb dL_swap_12 rfl hl (by decide) rfl (fun ls hl => ?_)
      refine lv_iconst (v := 1) hx hb dL_swap_13 (by decide) ?_
      exact rX_i C hJ hr rfl ⟨by rw [hFx]; rfl, Or.inr ⟨by rw [hFx]; decide, rfl⟩⟩ dL_swap_14 ⟨by decide, by decide⟩
    · skip
      rw [hFx, exO_3] at hxp
      obtain rfl := Option.some.inj hxp
      refine vx_catch C.ow [⟨0, 9, 12, 25⟩] ⟨0, 9, 15, 15⟩ [] (by rw [htab]; rfl) (fun z hz => by rw [List.mem_singleton.mp hz]; exact Or.inr ⟨by decide, xNm.getD 0 "", C.ts _ kk_L_25, C.nc h3 2 0 (by decide) (by decide) (by decide)⟩) (by decide) (by decide) (C.ts _ kk_L_15) (C.cst cst_3) hce hcv hcl ?_
      refine lv_astore_n (lv' := [(3, .ref q), (0, .ref (gA E 83)), (1, .int p0), (2, .ref (gA E 89))]) hx hb dL_swap_15 rfl hl (by decide) rfl (fun ls hl => ?_)
      refine lv_iconst (v := 2) hx hb dL_swap_16 (by decide) ?_
      exact rX_i C hJ hr rfl ⟨by rw [hFx]; rfl, Or.inr ⟨by rw [hFx]; decide, rfl⟩⟩ dL_swap_17 ⟨by decide, by decide⟩
set_option maxHeartbeats 4000000 in
set_option maxRecDepth 100000 in
theorem cl_befriend {l : Launch} {E : GE} (hE : Env0 E) {S : ST} {X : EX} (hX : Env1 E X) {u_x : Nat × Nat × Nat} (hX2 : Env2 l E u_x) {n : Nat} {z : Nat → Int32} {mm : Nat → Nat → Int32} {mc : Nat} {sv : Nat → LVt} (hXI : XI S (n, z, mm) mc sv) (p0 : Int32) (fu : Nat) (hfu : fu = 1000) (h3 : Env3 E) : MH l E yL_befriend cL_befriend 4 [(0, 9, 12, 25), (0, 9, 15, 15)] 9 160 1 6 S [.ref (gA E 83), .int p0, .ref (gA E 89)] (fun v S1 => WP S S1 v (m_t (f_ft (gof n mm) n 7 p0 0 0)) (f_ft (gof n mm) n 7 p0 0 0) ((f_co fu n z mm 7 p0 0 0).1) (fun S1 => XI S1 (f_co fu n z mm 7 p0 0 0).2 (f_push (n, z, mm) mc sv).1 (f_push (n, z, mm) mc sv).2 ∧ S1.2.2 = S.2.2)) := by
  have hF : f_ft (gof n mm) n 7 p0 0 0 = 0 ∨ f_ft (gof n mm) n 7 p0 0 0 = 1 ∨ f_ft (gof n mm) n 7 p0 0 0 = 3 := fpf3 _ _ _
  refine MH.of hE (by decide) (Nat.le_of_ble_eq_true rfl) ?_
  intro p e s m below meth c ls C htab hJ hr hl
  have hx := C.x
  have hb := C.b
  have hl : lv_has ls 4 [(0, .ref (gA E 83)), (1, .int p0), (2, .ref (gA E 89))] := hl
  refine lv_aload_n hx hb dL_befriend_0 rfl (lv_at hl 2 rfl) ?_
  refine lv_iconst (v := 0) hx hb dL_befriend_1 (by decide) ?_
  refine lv_aload_n hx hb dL_befriend_2 rfl (lv_at hl 0 rfl) ?_
  refine lv_iload_n hx hb dL_befriend_3 rfl (lv_at hl 1 rfl) ?_
  refine k_XH hJ (r_XV (i := 83) (ci := 4) (N := 4) (T := TX6) (fs := [.ref (gA E 0), .ref (gA E 13), .ref (gA E 78), .ref (gA E 80)]) (rest := [.int 0, .ref (gA E 89)]) (n := 1) C hJ (c_X6_befriend hE hX hX2 hXI p0 fu hfu) (by omega) (pE_qu E S) rfl km_L_46 ki_X6_befriend ks_X6_befriend k0_X6 kc_X6_befriend ⟨rfl, by decide, by decide, by decide +kernel⟩ rfl dL_befriend_4 hl.1 ⟨Nat.le_of_ble_eq_true rfl, Nat.le_of_ble_eq_true rfl⟩ ⟨by decide, by decide⟩ (Nat.le_of_ble_eq_true rfl) rfl) (fun vr S_5 H locs hP hJ => ?_) (fun x ce q H locs hxp hJ hce hcv hcl => ?_)
  · skip
    obtain ⟨hf0, rfl, hrest⟩ := hP
    refine lv_i2l (v := ((f_co fu n z mm 7 p0 0 0).1).toInt64) hx hb dL_befriend_7 rfl ?_
    refine t_ou C hJ dL_befriend_8 (fun H locs hJ => ?_)
    refine lv_goto (tgt := 18) hx hb dL_befriend_9 (by decide) ?_
    refine lv_iconst (v := 0) hx hb dL_befriend_18 (by decide) ?_
    exact rX_i C hJ hr rfl ⟨by rw [hf0]; rfl, Or.inl ⟨hf0, S_5, hrest, rfl⟩⟩ dL_befriend_19 ⟨by decide, by decide⟩
  · rcases hF with hFx | hFx | hFx
    · skip
      rw [hFx, exO_0] at hxp; cases hxp
    · skip
      rw [hFx, exO_1] at hxp
      obtain rfl := Option.some.inj hxp
      refine vx_catch C.ow [] ⟨0, 9, 12, 25⟩ [⟨0, 9, 15, 15⟩] (by rw [htab]; rfl) (fun z hz => by cases hz) (by decide) (by decide) (C.ts _ kk_L_25) (C.cst cst_1) hce hcv hcl ?_
      refine lv_astore_n (lv' := [(3, .ref q), (0, .ref (gA E 83)), (1, .int p0), (2, .ref (gA E 89))]) hx hb dL_befriend_12 rfl hl (by decide) rfl (fun ls hl => ?_)
      refine lv_iconst (v := 1) hx hb dL_befriend_13 (by decide) ?_
      exact rX_i C hJ hr rfl ⟨by rw [hFx]; rfl, Or.inr ⟨by rw [hFx]; decide, rfl⟩⟩ dL_befriend_14 ⟨by decide, by decide⟩
    · skip
      rw [hFx, exO_3] at hxp
      obtain rfl := Option.some.inj hxp
      refine vx_catch C.ow [⟨0, 9, 12, 25⟩] ⟨0, 9, 15, 15⟩ [] (by rw [htab]; rfl) (fun z hz => by rw [List.mem_singleton.mp hz]; exact Or.inr ⟨by decide, xNm.getD 0 "", C.ts _ kk_L_25, C.nc h3 2 0 (by decide) (by decide) (by decide)⟩) (by decide) (by decide) (C.ts _ kk_L_15) (C.cst cst_3) hce hcv hcl ?_
      refine lv_astore_n (lv' := [(3, .ref q), (0, .ref (gA E 83)), (1, .int p0), (2, .ref (gA E 89))]) hx hb dL_befriend_15 rfl hl (by decide) rfl (fun ls hl => ?_)
      refine lv_iconst (v := 2) hx hb dL_befriend_16 (by decide) ?_
      exact rX_i C hJ hr rfl ⟨by rw [hFx]; rfl, Or.inr ⟨by rw [hFx]; decide, rfl⟩⟩ dL_befriend_17 ⟨by decide, by decide⟩
set_option maxHeartbeats 4000000 in
set_option maxRecDepth 100000 in
theorem cl_part {l : Launch} {E : GE} (hE : Env0 E) {S : ST} {X : EX} (hX : Env1 E X) {u_x : Nat × Nat × Nat} (hX2 : Env2 l E u_x) {n : Nat} {z : Nat → Int32} {mm : Nat → Nat → Int32} {mc : Nat} {sv : Nat → LVt} (hXI : XI S (n, z, mm) mc sv) (p0 : Int32) (fu : Nat) (hfu : fu = 1000) (h3 : Env3 E) : MH l E yL_part cL_part 4 [(0, 9, 12, 25), (0, 9, 15, 15)] 9 160 1 6 S [.ref (gA E 83), .int p0, .ref (gA E 89)] (fun v S1 => WP S S1 v (m_t (f_ft (gof n mm) n 8 p0 0 0)) (f_ft (gof n mm) n 8 p0 0 0) ((f_co fu n z mm 8 p0 0 0).1) (fun S1 => XI S1 (f_co fu n z mm 8 p0 0 0).2 (f_push (n, z, mm) mc sv).1 (f_push (n, z, mm) mc sv).2 ∧ S1.2.2 = S.2.2)) := by
  have hF : f_ft (gof n mm) n 8 p0 0 0 = 0 ∨ f_ft (gof n mm) n 8 p0 0 0 = 1 ∨ f_ft (gof n mm) n 8 p0 0 0 = 3 := fpf3 _ _ _
  refine MH.of hE (by decide) (Nat.le_of_ble_eq_true rfl) ?_
  intro p e s m below meth c ls C htab hJ hr hl
  have hx := C.x
  have hb := C.b
  have hl : lv_has ls 4 [(0, .ref (gA E 83)), (1, .int p0), (2, .ref (gA E 89))] := hl
  refine lv_aload_n hx hb dL_part_0 rfl (lv_at hl 2 rfl) ?_
  refine lv_iconst (v := 0) hx hb dL_part_1 (by decide) ?_
  refine lv_aload_n hx hb dL_part_2 rfl (lv_at hl 0 rfl) ?_
  refine lv_iload_n hx hb dL_part_3 rfl (lv_at hl 1 rfl) ?_
  refine k_XH hJ (r_XV (i := 83) (ci := 4) (N := 4) (T := TX6) (fs := [.ref (gA E 0), .ref (gA E 13), .ref (gA E 78), .ref (gA E 80)]) (rest := [.int 0, .ref (gA E 89)]) (n := 1) C hJ (c_X6_part hE hX hX2 hXI p0 fu hfu) (by omega) (pE_qu E S) rfl km_L_49 ki_X6_part ks_X6_part k0_X6 kc_X6_part ⟨rfl, by decide, by decide, by decide +kernel⟩ rfl dL_part_4 hl.1 ⟨Nat.le_of_ble_eq_true rfl, Nat.le_of_ble_eq_true rfl⟩ ⟨by decide, by decide⟩ (Nat.le_of_ble_eq_true rfl) rfl) (fun vr S_5 H locs hP hJ => ?_) (fun x ce q H locs hxp hJ hce hcv hcl => ?_)
  · skip
    obtain ⟨hf0, rfl, hrest⟩ := hP
    refine lv_i2l (v := ((f_co fu n z mm 8 p0 0 0).1).toInt64) hx hb dL_part_7 rfl ?_
    refine t_ou C hJ dL_part_8 (fun H locs hJ => ?_)
    refine lv_goto (tgt := 18) hx hb dL_part_9 (by decide) ?_
    refine lv_iconst (v := 0) hx hb dL_part_18 (by decide) ?_
    exact rX_i C hJ hr rfl ⟨by rw [hf0]; rfl, Or.inl ⟨hf0, S_5, hrest, rfl⟩⟩ dL_part_19 ⟨by decide, by decide⟩
  · rcases hF with hFx | hFx | hFx
    · skip
      rw [hFx, exO_0] at hxp; cases hxp
    · skip
      rw [hFx, exO_1] at hxp
      obtain rfl := Option.some.inj hxp
      refine vx_catch C.ow [] ⟨0, 9, 12, 25⟩ [⟨0, 9, 15, 15⟩] (by rw [htab]; rfl) (fun z hz => by cases hz) (by decide) (by decide) (C.ts _ kk_L_25) (C.cst cst_1) hce hcv hcl ?_
      refine lv_astore_n (lv' := [(3, .ref q), (0, .ref (gA E 83)), (1, .int p0), (2, .ref (gA E 89))]) hx hb dL_part_12 rfl hl (by decide) rfl (fun ls hl => ?_)
      refine lv_iconst (v := 1) hx hb dL_part_13 (by decide) ?_
      exact rX_i C hJ hr rfl ⟨by rw [hFx]; rfl, Or.inr ⟨by rw [hFx]; decide, rfl⟩⟩ dL_part_14 ⟨by decide, by decide⟩
    · skip
      rw [hFx, exO_3] at hxp
      obtain rfl := Option.some.inj hxp
      refine vx_catch C.ow [⟨0, 9, 12, 25⟩] ⟨0, 9, 15, 15⟩ [] (by rw [htab]; rfl) (fun z hz => by rw [List.mem_singleton.mp hz]; exact Or.inr ⟨by decide, xNm.getD 0 "", C.ts _ kk_L_25, C.nc h3 2 0 (by decide) (by decide) (by decide)⟩) (by decide) (by decide) (C.ts _ kk_L_15) (C.cst cst_3) hce hcv hcl ?_
      refine lv_astore_n (lv' := [(3, .ref q), (0, .ref (gA E 83)), (1, .int p0), (2, .ref (gA E 89))]) hx hb dL_part_15 rfl hl (by decide) rfl (fun ls hl => ?_)
      refine lv_iconst (v := 2) hx hb dL_part_16 (by decide) ?_
      exact rX_i C hJ hr rfl ⟨by rw [hFx]; rfl, Or.inr ⟨by rw [hFx]; decide, rfl⟩⟩ dL_part_17 ⟨by decide, by decide⟩
set_option maxHeartbeats 4000000 in
set_option maxRecDepth 100000 in
theorem cl_member {l : Launch} {E : GE} (hE : Env0 E) {S : ST} {u_x : Nat × Nat × Nat} (hX2 : Env2 l E u_x) {n : Nat} {z : Nat → Int32} {mm : Nat → Nat → Int32} {mc : Nat} {sv : Nat → LVt} (hXI : XI S (n, z, mm) mc sv) (p0 p1 : Int32) (h3 : Env3 E) : MH l E yL_member cL_member 5 [(0, 10, 13, 25), (0, 10, 17, 13)] 8 125 1 6 S [.ref (gA E 83), .int p0, .int p1, .ref (gA E 89)] (fun v S1 => WP S S1 v (f_mf (f_place (gof n mm) n p0) (bI (f_in p1 0 9))) (f_mf (f_place (gof n mm) n p0) (bI (f_in p1 0 9))) (f_mval (gof n mm) (f_place (gof n mm) n p0).toNatClampNeg p1.toNatClampNeg) (fun S1 => S1 = S)) := by
  have hF : f_mf (f_place (gof n mm) n p0) (bI (f_in p1 0 9)) = 0 ∨ f_mf (f_place (gof n mm) n p0) (bI (f_in p1 0 9)) = 1 ∨ f_mf (f_place (gof n mm) n p0) (bI (f_in p1 0 9)) = 2 := fmf3 _ _
  refine MH.of hE (by decide) (Nat.le_of_ble_eq_true rfl) ?_
  intro p e s m below meth c ls C htab hJ hr hl
  have hx := C.x
  have hb := C.b
  have hl : lv_has ls 5 [(0, .ref (gA E 83)), (1, .int p0), (2, .int p1), (3, .ref (gA E 89))] := hl
  refine lv_aload_n hx hb dL_member_0 rfl (lv_at hl 3 rfl) ?_
  refine lv_iconst (v := 0) hx hb dL_member_1 (by decide) ?_
  refine lv_aload_n hx hb dL_member_2 rfl (lv_at hl 0 rfl) ?_
  refine lv_iload_n hx hb dL_member_3 rfl (lv_at hl 1 rfl) ?_
  refine lv_iload_n hx hb dL_member_4 rfl (lv_at hl 2 rfl) ?_
  refine k_XH hJ (r_XV (i := 83) (ci := 4) (N := 4) (T := TX6) (fs := [.ref (gA E 0), .ref (gA E 13), .ref (gA E 78), .ref (gA E 80)]) (rest := [.int 0, .ref (gA E 89)]) (n := 2) C hJ (c_X6_member hE hX2 hXI p0 p1) (by omega) (pE_qu E S) rfl km_L_52 ki_X6_member ks_X6_member k0_X6 kc_X6_member ⟨rfl, by decide, by decide, by decide +kernel⟩ rfl dL_member_5 hl.1 ⟨Nat.le_of_ble_eq_true rfl, Nat.le_of_ble_eq_true rfl⟩ ⟨by decide, by decide⟩ (Nat.le_of_ble_eq_true rfl) rfl) (fun vr S_5 H locs hP hJ => ?_) (fun x ce q H locs hxp hJ hce hcv hcl => ?_)
  · skip
    obtain ⟨hf0, rfl, hrest⟩ := hP
    refine lv_i2l (v := (f_mval (gof n mm) (f_place (gof n mm) n p0).toNatClampNeg p1.toNatClampNeg).toInt64) hx hb dL_member_8 rfl ?_
    refine t_ou C hJ dL_member_9 (fun H locs hJ => ?_)
    refine lv_goto (tgt := 21) hx hb dL_member_10 (by decide) ?_
    refine lv_iconst (v := 0) hx hb dL_member_21 (by decide) ?_
    exact rX_i C hJ hr rfl ⟨by rw [hf0], Or.inl ⟨hf0, S_5, hrest, rfl⟩⟩ dL_member_22 ⟨by decide, by decide⟩
  · rcases hF with hFx | hFx | hFx
    · skip
      rw [hFx, exO_0] at hxp; cases hxp
    · skip
      rw [hFx, exO_1] at hxp
      obtain rfl := Option.some.inj hxp
      refine vx_catch C.ow [] ⟨0, 10, 13, 25⟩ [⟨0, 10, 17, 13⟩] (by rw [htab]; rfl) (fun z hz => by cases hz) (by decide) (by decide) (C.ts _ kk_L_25) (C.cst cst_1) hce hcv hcl ?_
      refine lv_astore (lv' := [(4, .ref q), (0, .ref (gA E 83)), (1, .int p0), (2, .int p1), (3, .ref (gA E 89))]) hx hb dL_member_13 hl (by decide) rfl (fun ls hl => ?_)
      refine lv_iconst (v := 1) hx hb dL_member_15 (by decide) ?_
      exact rX_i C hJ hr rfl ⟨by rw [hFx], Or.inr ⟨by rw [hFx]; decide, rfl⟩⟩ dL_member_16 ⟨by decide, by decide⟩
    · skip
      rw [hFx, exO_2] at hxp
      obtain rfl := Option.some.inj hxp
      refine vx_catch C.ow [⟨0, 10, 13, 25⟩] ⟨0, 10, 17, 13⟩ [] (by rw [htab]; rfl) (fun z hz => by rw [List.mem_singleton.mp hz]; exact Or.inr ⟨by decide, xNm.getD 0 "", C.ts _ kk_L_25, C.nc h3 1 0 (by decide) (by decide) (by decide)⟩) (by decide) (by decide) (C.ts _ kk_L_13) (C.cst cst_2) hce hcv hcl ?_
      refine lv_astore (lv' := [(4, .ref q), (0, .ref (gA E 83)), (1, .int p0), (2, .int p1), (3, .ref (gA E 89))]) hx hb dL_member_17 hl (by decide) rfl (fun ls hl => ?_)
      refine lv_iconst (v := 2) hx hb dL_member_19 (by decide) ?_
      exact rX_i C hJ hr rfl ⟨by rw [hFx], Or.inr ⟨by rw [hFx]; decide, rfl⟩⟩ dL_member_20 ⟨by decide, by decide⟩
set_option maxHeartbeats 4000000 in
set_option maxRecDepth 100000 in
theorem cl_at {l : Launch} {E : GE} (hE : Env0 E) {S : ST} {u_x : Nat × Nat × Nat} (hX2 : Env2 l E u_x) {n : Nat} {z : Nat → Int32} {mm : Nat → Nat → Int32} {mc : Nat} {sv : Nat → LVt} (hXI : XI S (n, z, mm) mc sv) (p0 : Int32) (h3 : Env3 E) : MH l E yL_at cL_at 4 [(0, 9, 12, 13)] 8 123 1 6 S [.ref (gA E 83), .int p0, .ref (gA E 89)] (fun v S1 => WP S S1 v (m_1 (if p0 < 0 then (2 : Int32) else 0)) (if p0 < 0 then (2 : Int32) else 0) ((gof n mm) p0 0) (fun S1 => S1 = S)) := by
  have hF : (if p0 < 0 then (2 : Int32) else 0) = 2 ∨ (if p0 < 0 then (2 : Int32) else 0) = 0 := if2
  refine MH.of hE (by decide) (Nat.le_of_ble_eq_true rfl) ?_
  intro p e s m below meth c ls C htab hJ hr hl
  have hx := C.x
  have hb := C.b
  have hl : lv_has ls 4 [(0, .ref (gA E 83)), (1, .int p0), (2, .ref (gA E 89))] := hl
  refine lv_aload_n hx hb dL_at_0 rfl (lv_at hl 2 rfl) ?_
  refine lv_iconst (v := 0) hx hb dL_at_1 (by decide) ?_
  refine lv_aload_n hx hb dL_at_2 rfl (lv_at hl 0 rfl) ?_
  refine lv_iload_n hx hb dL_at_3 rfl (lv_at hl 1 rfl) ?_
  refine k_XH hJ (r_XV (i := 83) (ci := 4) (N := 4) (T := TX6) (fs := [.ref (gA E 0), .ref (gA E 13), .ref (gA E 78), .ref (gA E 80)]) (rest := [.int 0, .ref (gA E 89)]) (n := 1) C hJ (c_X6_at hE hX2 hXI p0) (by omega) (pE_qu E S) rfl km_L_55 ki_X6_at ks_X6_at k0_X6 kc_X6_at ⟨rfl, by decide, by decide, by decide +kernel⟩ rfl dL_at_4 hl.1 ⟨Nat.le_of_ble_eq_true rfl, Nat.le_of_ble_eq_true rfl⟩ ⟨by decide, by decide⟩ (Nat.le_of_ble_eq_true rfl) rfl) (fun vr S_5 H locs hP hJ => ?_) (fun x ce q H locs hxp hJ hce hcv hcl => ?_)
  · skip
    obtain ⟨hf0, rfl, hrest⟩ := hP
    refine lv_i2l (v := ((gof n mm) p0 0).toInt64) hx hb dL_at_7 rfl ?_
    refine t_ou C hJ dL_at_8 (fun H locs hJ => ?_)
    refine lv_goto (tgt := 15) hx hb dL_at_9 (by decide) ?_
    refine lv_iconst (v := 0) hx hb dL_at_15 (by decide) ?_
    exact rX_i C hJ hr rfl ⟨by rw [hf0]; rfl, Or.inl ⟨hf0, S_5, hrest, rfl⟩⟩ dL_at_16 ⟨by decide, by decide⟩
  · rcases hF with hFx | hFx
    · skip
      rw [hFx, exO_2] at hxp
      obtain rfl := Option.some.inj hxp
      refine vx_catch C.ow [] ⟨0, 9, 12, 13⟩ [] (by rw [htab]; rfl) (fun z hz => by cases hz) (by decide) (by decide) (C.ts _ kk_L_13) (C.cst cst_2) hce hcv hcl ?_
      refine lv_astore_n (lv' := [(3, .ref q), (0, .ref (gA E 83)), (1, .int p0), (2, .ref (gA E 89))]) hx hb dL_at_12 rfl hl (by decide) rfl (fun ls hl => ?_)
      refine lv_iconst (v := 1) hx hb dL_at_13 (by decide) ?_
      exact rX_i C hJ hr rfl ⟨by rw [hFx]; rfl, Or.inr ⟨by rw [hFx]; decide, rfl⟩⟩ dL_at_14 ⟨by decide, by decide⟩
    · skip
      rw [hFx, exO_0] at hxp; cases hxp
set_option maxHeartbeats 4000000 in
set_option maxRecDepth 100000 in
theorem cl_pair {l : Launch} {E : GE} (hE : Env0 E) {S : ST} {u_x : Nat × Nat × Nat} (hX2 : Env2 l E u_x) {n : Nat} {z : Nat → Int32} {mm : Nat → Nat → Int32} {mc : Nat} {sv : Nat → LVt} (hXI : XI S (n, z, mm) mc sv) (p0 p1 : Int32) (h3 : Env3 E) : MH l E yL_pair cL_pair 5 [(0, 10, 13, 25), (0, 10, 17, 13)] 8 124 1 6 S [.ref (gA E 83), .int p0, .int p1, .ref (gA E 89)] (fun v S1 => WP S S1 v (f_pf n p0 (bI (f_in p1 0 4)) 2) (f_pf n p0 (bI (f_in p1 0 4)) 2) (f_pval (gof n mm) (z 3) p0 p1.toNatClampNeg) (fun S1 => S1 = S)) := by
  have hF : f_pf n p0 (bI (f_in p1 0 4)) 2 = 0 ∨ f_pf n p0 (bI (f_in p1 0 4)) 2 = 1 ∨ f_pf n p0 (bI (f_in p1 0 4)) 2 = 2 := fpf2 _ _ _
  refine MH.of hE (by decide) (Nat.le_of_ble_eq_true rfl) ?_
  intro p e s m below meth c ls C htab hJ hr hl
  have hx := C.x
  have hb := C.b
  have hl : lv_has ls 5 [(0, .ref (gA E 83)), (1, .int p0), (2, .int p1), (3, .ref (gA E 89))] := hl
  refine lv_aload_n hx hb dL_pair_0 rfl (lv_at hl 3 rfl) ?_
  refine lv_iconst (v := 0) hx hb dL_pair_1 (by decide) ?_
  refine lv_aload_n hx hb dL_pair_2 rfl (lv_at hl 0 rfl) ?_
  refine lv_iload_n hx hb dL_pair_3 rfl (lv_at hl 1 rfl) ?_
  refine lv_iload_n hx hb dL_pair_4 rfl (lv_at hl 2 rfl) ?_
  refine k_XH hJ (r_XV (i := 83) (ci := 4) (N := 4) (T := TX6) (fs := [.ref (gA E 0), .ref (gA E 13), .ref (gA E 78), .ref (gA E 80)]) (rest := [.int 0, .ref (gA E 89)]) (n := 2) C hJ (c_X6_pair hE hX2 hXI p0 p1) (by omega) (pE_qu E S) rfl km_L_58 ki_X6_pair ks_X6_pair k0_X6 kc_X6_pair ⟨rfl, by decide, by decide, by decide +kernel⟩ rfl dL_pair_5 hl.1 ⟨Nat.le_of_ble_eq_true rfl, Nat.le_of_ble_eq_true rfl⟩ ⟨by decide, by decide⟩ (Nat.le_of_ble_eq_true rfl) rfl) (fun vr S_5 H locs hP hJ => ?_) (fun x ce q H locs hxp hJ hce hcv hcl => ?_)
  · skip
    obtain ⟨hf0, rfl, hrest⟩ := hP
    refine lv_i2l (v := (f_pval (gof n mm) (z 3) p0 p1.toNatClampNeg).toInt64) hx hb dL_pair_8 rfl ?_
    refine t_ou C hJ dL_pair_9 (fun H locs hJ => ?_)
    refine lv_goto (tgt := 21) hx hb dL_pair_10 (by decide) ?_
    refine lv_iconst (v := 0) hx hb dL_pair_21 (by decide) ?_
    exact rX_i C hJ hr rfl ⟨by rw [hf0], Or.inl ⟨hf0, S_5, hrest, rfl⟩⟩ dL_pair_22 ⟨by decide, by decide⟩
  · rcases hF with hFx | hFx | hFx
    · skip
      rw [hFx, exO_0] at hxp; cases hxp
    · skip
      rw [hFx, exO_1] at hxp
      obtain rfl := Option.some.inj hxp
      refine vx_catch C.ow [] ⟨0, 10, 13, 25⟩ [⟨0, 10, 17, 13⟩] (by rw [htab]; rfl) (fun z hz => by cases hz) (by decide) (by decide) (C.ts _ kk_L_25) (C.cst cst_1) hce hcv hcl ?_
      refine lv_astore (lv' := [(4, .ref q), (0, .ref (gA E 83)), (1, .int p0), (2, .int p1), (3, .ref (gA E 89))]) hx hb dL_pair_13 hl (by decide) rfl (fun ls hl => ?_)
      refine lv_iconst (v := 1) hx hb dL_pair_15 (by decide) ?_
      exact rX_i C hJ hr rfl ⟨by rw [hFx], Or.inr ⟨by rw [hFx]; decide, rfl⟩⟩ dL_pair_16 ⟨by decide, by decide⟩
    · skip
      rw [hFx, exO_2] at hxp
      obtain rfl := Option.some.inj hxp
      refine vx_catch C.ow [⟨0, 10, 13, 25⟩] ⟨0, 10, 17, 13⟩ [] (by rw [htab]; rfl) (fun z hz => by rw [List.mem_singleton.mp hz]; exact Or.inr ⟨by decide, xNm.getD 0 "", C.ts _ kk_L_25, C.nc h3 1 0 (by decide) (by decide) (by decide)⟩) (by decide) (by decide) (C.ts _ kk_L_13) (C.cst cst_2) hce hcv hcl ?_
      refine lv_astore (lv' := [(4, .ref q), (0, .ref (gA E 83)), (1, .int p0), (2, .int p1), (3, .ref (gA E 89))]) hx hb dL_pair_17 hl (by decide) rfl (fun ls hl => ?_)
      refine lv_iconst (v := 2) hx hb dL_pair_19 (by decide) ?_
      exact rX_i C hJ hr rfl ⟨by rw [hFx], Or.inr ⟨by rw [hFx]; decide, rfl⟩⟩ dL_pair_20 ⟨by decide, by decide⟩
set_option maxHeartbeats 4000000 in
set_option maxRecDepth 100000 in
theorem cl_whole {l : Launch} {E : GE} (hE : Env0 E) {S : ST} {u_x : Nat × Nat × Nat} (hX2 : Env2 l E u_x) {n : Nat} {z : Nat → Int32} {mm : Nat → Nat → Int32} {mc : Nat} {sv : Nat → LVt} (hXI : XI S (n, z, mm) mc sv) {u_n : Nat} (hL : (sT S).1 1 = nI u_n) (p0 : Int32) (h3 : Env3 E) : MH l E yL_whole cL_whole 4 [(0, 9, 12, 13)] 8 151 1 6 S [.ref (gA E 83), .int p0, .ref (gA E 89)] (fun v S1 => WP S S1 v (m_1 (if f_in p0 0 13 = true then (0 : Int32) else 2)) (if f_in p0 0 13 = true then (0 : Int32) else 2) (f_whole n z mm u_n p0.toNatClampNeg) (fun S1 => S1 = S)) := by
  have hF : (if f_in p0 0 13 = true then (0 : Int32) else 2) = 0 ∨ (if f_in p0 0 13 = true then (0 : Int32) else 2) = 2 := if2
  refine MH.of hE (by decide) (Nat.le_of_ble_eq_true rfl) ?_
  intro p e s m below meth c ls C htab hJ hr hl
  have hx := C.x
  have hb := C.b
  have hl : lv_has ls 4 [(0, .ref (gA E 83)), (1, .int p0), (2, .ref (gA E 89))] := hl
  refine lv_aload_n hx hb dL_whole_0 rfl (lv_at hl 2 rfl) ?_
  refine lv_iconst (v := 0) hx hb dL_whole_1 (by decide) ?_
  refine lv_aload_n hx hb dL_whole_2 rfl (lv_at hl 0 rfl) ?_
  refine lv_iload_n hx hb dL_whole_3 rfl (lv_at hl 1 rfl) ?_
  refine k_XH hJ (r_XV (i := 83) (ci := 4) (N := 4) (T := TX6) (fs := [.ref (gA E 0), .ref (gA E 13), .ref (gA E 78), .ref (gA E 80)]) (rest := [.int 0, .ref (gA E 89)]) (n := 1) C hJ (c_X6_whole hE hX2 hXI hL p0) (by omega) (pE_qu E S) rfl km_L_61 ki_X6_whole ks_X6_whole k0_X6 kc_X6_whole ⟨rfl, by decide, by decide, by decide +kernel⟩ rfl dL_whole_4 hl.1 ⟨Nat.le_of_ble_eq_true rfl, Nat.le_of_ble_eq_true rfl⟩ ⟨by decide, by decide⟩ (Nat.le_of_ble_eq_true rfl) rfl) (fun vr S_5 H locs hP hJ => ?_) (fun x ce q H locs hxp hJ hce hcv hcl => ?_)
  · skip
    obtain ⟨hf0, rfl, hrest⟩ := hP
    refine lv_i2l (v := (f_whole n z mm u_n p0.toNatClampNeg).toInt64) hx hb dL_whole_7 rfl ?_
    refine t_ou C hJ dL_whole_8 (fun H locs hJ => ?_)
    refine lv_goto (tgt := 15) hx hb dL_whole_9 (by decide) ?_
    refine lv_iconst (v := 0) hx hb dL_whole_15 (by decide) ?_
    exact rX_i C hJ hr rfl ⟨by rw [hf0]; rfl, Or.inl ⟨hf0, S_5, hrest, rfl⟩⟩ dL_whole_16 ⟨by decide, by decide⟩
  · rcases hF with hFx | hFx
    · skip
      rw [hFx, exO_0] at hxp; cases hxp
    · skip
      rw [hFx, exO_2] at hxp
      obtain rfl := Option.some.inj hxp
      refine vx_catch C.ow [] ⟨0, 9, 12, 13⟩ [] (by rw [htab]; rfl) (fun z hz => by cases hz) (by decide) (by decide) (C.ts _ kk_L_13) (C.cst cst_2) hce hcv hcl ?_
      refine lv_astore_n (lv' := [(3, .ref q), (0, .ref (gA E 83)), (1, .int p0), (2, .ref (gA E 89))]) hx hb dL_whole_12 rfl hl (by decide) rfl (fun ls hl => ?_)
      refine lv_iconst (v := 1) hx hb dL_whole_13 (by decide) ?_
      exact rX_i C hJ hr rfl ⟨by rw [hFx]; rfl, Or.inr ⟨by rw [hFx]; decide, rfl⟩⟩ dL_whole_14 ⟨by decide, by decide⟩
set_option maxHeartbeats 4000000 in
set_option maxRecDepth 100000 in
theorem cl_reason {l : Launch} {E : GE} (hE : Env0 E) {S : ST} {u_x : Nat × Nat × Nat} (hX2 : Env2 l E u_x) {n : Nat} {z : Nat → Int32} {mm : Nat → Nat → Int32} {mc : Nat} {sv : Nat → LVt} (hXI : XI S (n, z, mm) mc sv) (p0 : Int32) (h3 : Env3 E) : MH l E yL_reason cL_reason 4 [(0, 9, 12, 25)] 8 123 1 6 S [.ref (gA E 83), .int p0, .ref (gA E 89)] (fun v S1 => WP S S1 v (f_pf n p0 1 0) (f_pf n p0 1 0) (f_hind (gof n mm) p0) (fun S1 => S1 = S)) := by
  have hF : f_pf n p0 1 0 = 0 ∨ f_pf n p0 1 0 = 1 := fpf1 _ _
  refine MH.of hE (by decide) (Nat.le_of_ble_eq_true rfl) ?_
  intro p e s m below meth c ls C htab hJ hr hl
  have hx := C.x
  have hb := C.b
  have hl : lv_has ls 4 [(0, .ref (gA E 83)), (1, .int p0), (2, .ref (gA E 89))] := hl
  refine lv_aload_n hx hb dL_reason_0 rfl (lv_at hl 2 rfl) ?_
  refine lv_iconst (v := 0) hx hb dL_reason_1 (by decide) ?_
  refine lv_aload_n hx hb dL_reason_2 rfl (lv_at hl 0 rfl) ?_
  refine lv_iload_n hx hb dL_reason_3 rfl (lv_at hl 1 rfl) ?_
  refine k_XH hJ (r_XV (i := 83) (ci := 4) (N := 4) (T := TX6) (fs := [.ref (gA E 0), .ref (gA E 13), .ref (gA E 78), .ref (gA E 80)]) (rest := [.int 0, .ref (gA E 89)]) (n := 1) C hJ (c_X6_reason hE hX2 hXI p0) (by omega) (pE_qu E S) rfl km_L_64 ki_X6_reason ks_X6_reason k0_X6 kc_X6_reason ⟨rfl, by decide, by decide, by decide +kernel⟩ rfl dL_reason_4 hl.1 ⟨Nat.le_of_ble_eq_true rfl, Nat.le_of_ble_eq_true rfl⟩ ⟨by decide, by decide⟩ (Nat.le_of_ble_eq_true rfl) rfl) (fun vr S_5 H locs hP hJ => ?_) (fun x ce q H locs hxp hJ hce hcv hcl => ?_)
  · skip
    obtain ⟨hf0, rfl, hrest⟩ := hP
    refine lv_i2l (v := (f_hind (gof n mm) p0).toInt64) hx hb dL_reason_7 rfl ?_
    refine t_ou C hJ dL_reason_8 (fun H locs hJ => ?_)
    refine lv_goto (tgt := 15) hx hb dL_reason_9 (by decide) ?_
    refine lv_iconst (v := 0) hx hb dL_reason_15 (by decide) ?_
    exact rX_i C hJ hr rfl ⟨by rw [hf0], Or.inl ⟨hf0, S_5, hrest, rfl⟩⟩ dL_reason_16 ⟨by decide, by decide⟩
  · rcases hF with hFx | hFx
    · skip
      rw [hFx, exO_0] at hxp; cases hxp
    · skip
      rw [hFx, exO_1] at hxp
      obtain rfl := Option.some.inj hxp
      refine vx_catch C.ow [] ⟨0, 9, 12, 25⟩ [] (by rw [htab]; rfl) (fun z hz => by cases hz) (by decide) (by decide) (C.ts _ kk_L_25) (C.cst cst_1) hce hcv hcl ?_
      refine lv_astore_n (lv' := [(3, .ref q), (0, .ref (gA E 83)), (1, .int p0), (2, .ref (gA E 89))]) hx hb dL_reason_12 rfl hl (by decide) rfl (fun ls hl => ?_)
      refine lv_iconst (v := 1) hx hb dL_reason_13 (by decide) ?_
      exact rX_i C hJ hr rfl ⟨by rw [hFx], Or.inr ⟨by rw [hFx]; decide, rfl⟩⟩ dL_reason_14 ⟨by decide, by decide⟩
set_option maxHeartbeats 4000000 in
set_option maxRecDepth 100000 in
theorem cl_settledPlace {l : Launch} {E : GE} (hE : Env0 E) {S : ST} {u_x : Nat × Nat × Nat} (hX2 : Env2 l E u_x) {n : Nat} {z : Nat → Int32} {mm : Nat → Nat → Int32} {mc : Nat} {sv : Nat → LVt} (hXI : XI S (n, z, mm) mc sv) (p0 : Int32) (fu : Nat) (hfu : fu = 1000) (h3 : Env3 E) : MH l E yL_settledPlace cL_settledPlace 4 [(0, 9, 12, 25)] 8 123 1 6 S [.ref (gA E 83), .int p0, .ref (gA E 89)] (fun v S1 => WP S S1 v (f_mf (f_place (gof n mm) n p0) 1) (f_mf (f_place (gof n mm) n p0) 1) (f_place (gof n (f_set n fu z mm).2.2) n p0) (fun S1 => XI S1 (n, z, mm) mc sv ∧ S1.2 = S.2)) := by
  have hF : f_mf (f_place (gof n mm) n p0) 1 = 0 ∨ f_mf (f_place (gof n mm) n p0) 1 = 1 := fmf2 _
  refine MH.of hE (by decide) (Nat.le_of_ble_eq_true rfl) ?_
  intro p e s m below meth c ls C htab hJ hr hl
  have hx := C.x
  have hb := C.b
  have hl : lv_has ls 4 [(0, .ref (gA E 83)), (1, .int p0), (2, .ref (gA E 89))] := hl
  refine lv_aload_n hx hb dL_settledPlace_0 rfl (lv_at hl 2 rfl) ?_
  refine lv_iconst (v := 0) hx hb dL_settledPlace_1 (by decide) ?_
  refine lv_aload_n hx hb dL_settledPlace_2 rfl (lv_at hl 0 rfl) ?_
  refine lv_iload_n hx hb dL_settledPlace_3 rfl (lv_at hl 1 rfl) ?_
  refine k_XH hJ (r_XV (i := 83) (ci := 4) (N := 4) (T := TX6) (fs := [.ref (gA E 0), .ref (gA E 13), .ref (gA E 78), .ref (gA E 80)]) (rest := [.int 0, .ref (gA E 89)]) (n := 1) C hJ (c_X6_settledPlace hE hX2 hXI p0 fu hfu) (by omega) (pE_qu E S) rfl km_L_67 ki_X6_settledPlace ks_X6_settledPlace k0_X6 kc_X6_settledPlace ⟨rfl, by decide, by decide, by decide +kernel⟩ rfl dL_settledPlace_4 hl.1 ⟨Nat.le_of_ble_eq_true rfl, Nat.le_of_ble_eq_true rfl⟩ ⟨by decide, by decide⟩ (Nat.le_of_ble_eq_true rfl) rfl) (fun vr S_5 H locs hP hJ => ?_) (fun x ce q H locs hxp hJ hce hcv hcl => ?_)
  · skip
    obtain ⟨hf0, rfl, hrest⟩ := hP
    refine lv_i2l (v := (f_place (gof n (f_set n fu z mm).2.2) n p0).toInt64) hx hb dL_settledPlace_7 rfl ?_
    refine t_ou C hJ dL_settledPlace_8 (fun H locs hJ => ?_)
    refine lv_goto (tgt := 15) hx hb dL_settledPlace_9 (by decide) ?_
    refine lv_iconst (v := 0) hx hb dL_settledPlace_15 (by decide) ?_
    exact rX_i C hJ hr rfl ⟨by rw [hf0], Or.inl ⟨hf0, S_5, hrest, rfl⟩⟩ dL_settledPlace_16 ⟨by decide, by decide⟩
  · rcases hF with hFx | hFx
    · skip
      rw [hFx, exO_0] at hxp; cases hxp
    · skip
      rw [hFx, exO_1] at hxp
      obtain rfl := Option.some.inj hxp
      refine vx_catch C.ow [] ⟨0, 9, 12, 25⟩ [] (by rw [htab]; rfl) (fun z hz => by cases hz) (by decide) (by decide) (C.ts _ kk_L_25) (C.cst cst_1) hce hcv hcl ?_
      refine lv_astore_n (lv' := [(3, .ref q), (0, .ref (gA E 83)), (1, .int p0), (2, .ref (gA E 89))]) hx hb dL_settledPlace_12 rfl hl (by decide) rfl (fun ls hl => ?_)
      refine lv_iconst (v := 1) hx hb dL_settledPlace_13 (by decide) ?_
      exact rX_i C hJ hr rfl ⟨by rw [hFx], Or.inr ⟨by rw [hFx]; decide, rfl⟩⟩ dL_settledPlace_14 ⟨by decide, by decide⟩
set_option maxHeartbeats 4000000 in
set_option maxRecDepth 100000 in
theorem cl_profit {l : Launch} {E : GE} (hE : Env0 E) {S : ST} {u_x : Nat × Nat × Nat} (hX2 : Env2 l E u_x) {n : Nat} {z : Nat → Int32} {mm : Nat → Nat → Int32} {mc : Nat} {sv : Nat → LVt} (hXI : XI S (n, z, mm) mc sv) (p0 p1 : Int32) (fu : Nat) (hfu : fu = 1000) (h3 : Env3 E) : MH l E yL_profit cL_profit 5 [(0, 10, 13, 25), (0, 10, 17, 13)] 8 139 1 6 S [.ref (gA E 83), .int p0, .int p1, .ref (gA E 89)] (fun v S1 => WP S S1 v (f_mf (f_place (gof n mm) n p0) (bI (f_in p1 0 99))) (f_mf (f_place (gof n mm) n p0) (bI (f_in p1 0 99))) (f_pro fu n z mm (f_place (gof n mm) n p0).toNatClampNeg p1) (fun S1 => XI S1 (n, z, mm) mc sv ∧ S1.2 = S.2)) := by
  have hF : f_mf (f_place (gof n mm) n p0) (bI (f_in p1 0 99)) = 0 ∨ f_mf (f_place (gof n mm) n p0) (bI (f_in p1 0 99)) = 1 ∨ f_mf (f_place (gof n mm) n p0) (bI (f_in p1 0 99)) = 2 := fmf3 _ _
  refine MH.of hE (by decide) (Nat.le_of_ble_eq_true rfl) ?_
  intro p e s m below meth c ls C htab hJ hr hl
  have hx := C.x
  have hb := C.b
  have hl : lv_has ls 5 [(0, .ref (gA E 83)), (1, .int p0), (2, .int p1), (3, .ref (gA E 89))] := hl
  refine lv_aload_n hx hb dL_profit_0 rfl (lv_at hl 3 rfl) ?_
  refine lv_iconst (v := 0) hx hb dL_profit_1 (by decide) ?_
  refine lv_aload_n hx hb dL_profit_2 rfl (lv_at hl 0 rfl) ?_
  refine lv_iload_n hx hb dL_profit_3 rfl (lv_at hl 1 rfl) ?_
  refine lv_iload_n hx hb dL_profit_4 rfl (lv_at hl 2 rfl) ?_
  refine k_XH hJ (r_XV (i := 83) (ci := 4) (N := 4) (T := TX6) (fs := [.ref (gA E 0), .ref (gA E 13), .ref (gA E 78), .ref (gA E 80)]) (rest := [.int 0, .ref (gA E 89)]) (n := 2) C hJ (c_X6_profit hE hX2 hXI p0 p1 fu hfu) (by omega) (pE_qu E S) rfl km_L_70 ki_X6_profit ks_X6_profit k0_X6 kc_X6_profit ⟨rfl, by decide, by decide, by decide +kernel⟩ rfl dL_profit_5 hl.1 ⟨Nat.le_of_ble_eq_true rfl, Nat.le_of_ble_eq_true rfl⟩ ⟨by decide, by decide⟩ (Nat.le_of_ble_eq_true rfl) rfl) (fun vr S_5 H locs hP hJ => ?_) (fun x ce q H locs hxp hJ hce hcv hcl => ?_)
  · skip
    obtain ⟨hf0, rfl, hrest⟩ := hP
    refine lv_i2l (v := (f_pro fu n z mm (f_place (gof n mm) n p0).toNatClampNeg p1).toInt64) hx hb dL_profit_8 rfl ?_
    refine t_ou C hJ dL_profit_9 (fun H locs hJ => ?_)
    refine lv_goto (tgt := 21) hx hb dL_profit_10 (by decide) ?_
    refine lv_iconst (v := 0) hx hb dL_profit_21 (by decide) ?_
    exact rX_i C hJ hr rfl ⟨by rw [hf0], Or.inl ⟨hf0, S_5, hrest, rfl⟩⟩ dL_profit_22 ⟨by decide, by decide⟩
  · rcases hF with hFx | hFx | hFx
    · skip
      rw [hFx, exO_0] at hxp; cases hxp
    · skip
      rw [hFx, exO_1] at hxp
      obtain rfl := Option.some.inj hxp
      refine vx_catch C.ow [] ⟨0, 10, 13, 25⟩ [⟨0, 10, 17, 13⟩] (by rw [htab]; rfl) (fun z hz => by cases hz) (by decide) (by decide) (C.ts _ kk_L_25) (C.cst cst_1) hce hcv hcl ?_
      refine lv_astore (lv' := [(4, .ref q), (0, .ref (gA E 83)), (1, .int p0), (2, .int p1), (3, .ref (gA E 89))]) hx hb dL_profit_13 hl (by decide) rfl (fun ls hl => ?_)
      refine lv_iconst (v := 1) hx hb dL_profit_15 (by decide) ?_
      exact rX_i C hJ hr rfl ⟨by rw [hFx], Or.inr ⟨by rw [hFx]; decide, rfl⟩⟩ dL_profit_16 ⟨by decide, by decide⟩
    · skip
      rw [hFx, exO_2] at hxp
      obtain rfl := Option.some.inj hxp
      refine vx_catch C.ow [⟨0, 10, 13, 25⟩] ⟨0, 10, 17, 13⟩ [] (by rw [htab]; rfl) (fun z hz => by rw [List.mem_singleton.mp hz]; exact Or.inr ⟨by decide, xNm.getD 0 "", C.ts _ kk_L_25, C.nc h3 1 0 (by decide) (by decide) (by decide)⟩) (by decide) (by decide) (C.ts _ kk_L_13) (C.cst cst_2) hce hcv hcl ?_
      refine lv_astore (lv' := [(4, .ref q), (0, .ref (gA E 83)), (1, .int p0), (2, .int p1), (3, .ref (gA E 89))]) hx hb dL_profit_17 hl (by decide) rfl (fun ls hl => ?_)
      refine lv_iconst (v := 2) hx hb dL_profit_19 (by decide) ?_
      exact rX_i C hJ hr rfl ⟨by rw [hFx], Or.inr ⟨by rw [hFx]; decide, rfl⟩⟩ dL_profit_20 ⟨by decide, by decide⟩
set_option maxHeartbeats 4000000 in
set_option maxRecDepth 100000 in
theorem cl_bestLie {l : Launch} {E : GE} (hE : Env0 E) {S : ST} {u_x : Nat × Nat × Nat} (hX2 : Env2 l E u_x) {n : Nat} {z : Nat → Int32} {mm : Nat → Nat → Int32} {mc : Nat} {sv : Nat → LVt} (hXI : XI S (n, z, mm) mc sv) (p0 : Int32) (fu : Nat) (hfu : fu = 1000) (h3 : Env3 E) : MH l E yL_bestLie cL_bestLie 4 [(0, 9, 12, 25)] 8 142 1 6 S [.ref (gA E 83), .int p0, .ref (gA E 89)] (fun v S1 => WP S S1 v (f_mf (f_place (gof n mm) n p0) 1) (f_mf (f_place (gof n mm) n p0) 1) ((t_lie (fun w => f_pro fu n z mm (f_place (gof n mm) n p0).toNatClampNeg (nI w)) 99).2) (fun S1 => XI S1 (n, z, mm) mc sv ∧ S1.2 = S.2)) := by
  have hF : f_mf (f_place (gof n mm) n p0) 1 = 0 ∨ f_mf (f_place (gof n mm) n p0) 1 = 1 := fmf2 _
  refine MH.of hE (by decide) (Nat.le_of_ble_eq_true rfl) ?_
  intro p e s m below meth c ls C htab hJ hr hl
  have hx := C.x
  have hb := C.b
  have hl : lv_has ls 4 [(0, .ref (gA E 83)), (1, .int p0), (2, .ref (gA E 89))] := hl
  refine lv_aload_n hx hb dL_bestLie_0 rfl (lv_at hl 2 rfl) ?_
  refine lv_iconst (v := 0) hx hb dL_bestLie_1 (by decide) ?_
  refine lv_aload_n hx hb dL_bestLie_2 rfl (lv_at hl 0 rfl) ?_
  refine lv_iload_n hx hb dL_bestLie_3 rfl (lv_at hl 1 rfl) ?_
  refine k_XH hJ (r_XV (i := 83) (ci := 4) (N := 4) (T := TX6) (fs := [.ref (gA E 0), .ref (gA E 13), .ref (gA E 78), .ref (gA E 80)]) (rest := [.int 0, .ref (gA E 89)]) (n := 1) C hJ (c_X6_bestLie hE hX2 hXI p0 fu hfu) (by omega) (pE_qu E S) rfl km_L_73 ki_X6_bestLie ks_X6_bestLie k0_X6 kc_X6_bestLie ⟨rfl, by decide, by decide, by decide +kernel⟩ rfl dL_bestLie_4 hl.1 ⟨Nat.le_of_ble_eq_true rfl, Nat.le_of_ble_eq_true rfl⟩ ⟨by decide, by decide⟩ (Nat.le_of_ble_eq_true rfl) rfl) (fun vr S_5 H locs hP hJ => ?_) (fun x ce q H locs hxp hJ hce hcv hcl => ?_)
  · skip
    obtain ⟨hf0, rfl, hrest⟩ := hP
    refine lv_i2l (v := ((t_lie (fun w => f_pro fu n z mm (f_place (gof n mm) n p0).toNatClampNeg (nI w)) 99).2).toInt64) hx hb dL_bestLie_7 rfl ?_
    refine t_ou C hJ dL_bestLie_8 (fun H locs hJ => ?_)
    refine lv_goto (tgt := 15) hx hb dL_bestLie_9 (by decide) ?_
    refine lv_iconst (v := 0) hx hb dL_bestLie_15 (by decide) ?_
    exact rX_i C hJ hr rfl ⟨by rw [hf0], Or.inl ⟨hf0, S_5, hrest, rfl⟩⟩ dL_bestLie_16 ⟨by decide, by decide⟩
  · rcases hF with hFx | hFx
    · skip
      rw [hFx, exO_0] at hxp; cases hxp
    · skip
      rw [hFx, exO_1] at hxp
      obtain rfl := Option.some.inj hxp
      refine vx_catch C.ow [] ⟨0, 9, 12, 25⟩ [] (by rw [htab]; rfl) (fun z hz => by cases hz) (by decide) (by decide) (C.ts _ kk_L_25) (C.cst cst_1) hce hcv hcl ?_
      refine lv_astore_n (lv' := [(3, .ref q), (0, .ref (gA E 83)), (1, .int p0), (2, .ref (gA E 89))]) hx hb dL_bestLie_12 rfl hl (by decide) rfl (fun ls hl => ?_)
      refine lv_iconst (v := 1) hx hb dL_bestLie_13 (by decide) ?_
      exact rX_i C hJ hr rfl ⟨by rw [hFx], Or.inr ⟨by rw [hFx]; decide, rfl⟩⟩ dL_bestLie_14 ⟨by decide, by decide⟩
set_option maxHeartbeats 4000000 in
set_option maxRecDepth 100000 in
theorem cl_type {l : Launch} {E : GE} (hE : Env0 E) {S : ST} {u_x : Nat × Nat × Nat} (hX2 : Env2 l E u_x) {n : Nat} {z : Nat → Int32} {mm : Nat → Nat → Int32} {mc : Nat} {sv : Nat → LVt} (hXI : XI S (n, z, mm) mc sv) {u_n u_p : Nat} {u_b u_g : Nat → Int32} {u_f : Int32} {u_c : Option Nat} (hT : TX S u_n u_b u_p u_f u_c u_g) (hN : u_n ≤ 150) (p0 : Int32) (h3 : Env3 E) : MH l E yL_type cL_type 4 [(0, 9, 12, 13), (0, 9, 15, 15)] 8 123 2 12 S [.ref (gA E 83), .int p0, .ref (gA E 89)] (fun v S1 => WP S S1 v (m_j (if f_in p0 0 127 = true then (if u_n < 150 then (0 : Int32) else 3) else 2)) (if f_in p0 0 127 = true then (if u_n < 150 then (0 : Int32) else 3) else 2) (nI (u_n + 1)) (fun S1 => u_n < 150 ∧ TX S1 (u_n + 1) (upd u_b u_n p0) u_p u_f u_c u_g ∧ RT S S1)) := by
  have hF : (if f_in p0 0 127 = true then (if u_n < 150 then (0 : Int32) else 3) else 2) = 0 ∨ (if f_in p0 0 127 = true then (if u_n < 150 then (0 : Int32) else 3) else 2) = 2 ∨ (if f_in p0 0 127 = true then (if u_n < 150 then (0 : Int32) else 3) else 2) = 3 := ty3 _ _
  refine MH.of hE (by decide) (Nat.le_of_ble_eq_true rfl) ?_
  intro p e s m below meth c ls C htab hJ hr hl
  have hx := C.x
  have hb := C.b
  have hl : lv_has ls 4 [(0, .ref (gA E 83)), (1, .int p0), (2, .ref (gA E 89))] := hl
  refine lv_aload_n hx hb dL_type_0 rfl (lv_at hl 2 rfl) ?_
  refine lv_iconst (v := 0) hx hb dL_type_1 (by decide) ?_
  refine lv_aload_n hx hb dL_type_2 rfl (lv_at hl 0 rfl) ?_
  refine lv_iload_n hx hb dL_type_3 rfl (lv_at hl 1 rfl) ?_
  refine k_XH hJ (r_XV (i := 83) (ci := 4) (N := 4) (T := TX6) (fs := [.ref (gA E 0), .ref (gA E 13), .ref (gA E 78), .ref (gA E 80)]) (rest := [.int 0, .ref (gA E 89)]) (n := 1) C hJ (c_X6_type hE hX2 hXI hT hN p0) (by omega) (pE_qu E S) rfl km_L_76 ki_X6_type ks_X6_type k0_X6 kc_X6_type ⟨rfl, by decide, by decide, by decide +kernel⟩ rfl dL_type_4 hl.1 ⟨Nat.le_of_ble_eq_true rfl, Nat.le_of_ble_eq_true rfl⟩ ⟨by decide, by decide⟩ (Nat.le_of_ble_eq_true rfl) rfl) (fun vr S_5 H locs hP hJ => ?_) (fun x ce q H locs hxp hJ hce hcv hcl => ?_)
  · skip
    obtain ⟨hf0, rfl, hrest⟩ := hP
    refine lv_i2l (v := (nI (u_n + 1)).toInt64) hx hb dL_type_7 rfl ?_
    refine t_ou C hJ dL_type_8 (fun H locs hJ => ?_)
    refine lv_goto (tgt := 18) hx hb dL_type_9 (by decide) ?_
    refine lv_iconst (v := 0) hx hb dL_type_18 (by decide) ?_
    exact rX_i C hJ hr rfl ⟨by rw [hf0]; rfl, Or.inl ⟨hf0, S_5, hrest, rfl⟩⟩ dL_type_19 ⟨by decide, by decide⟩
  · rcases hF with hFx | hFx | hFx
    · skip
      rw [hFx, exO_0] at hxp; cases hxp
    · skip
      rw [hFx, exO_2] at hxp
      obtain rfl := Option.some.inj hxp
      refine vx_catch C.ow [] ⟨0, 9, 12, 13⟩ [⟨0, 9, 15, 15⟩] (by rw [htab]; rfl) (fun z hz => by cases hz) (by decide) (by decide) (C.ts _ kk_L_13) (C.cst cst_2) hce hcv hcl ?_
      refine lv_astore_n (lv' := [(3, .ref q), (0, .ref (gA E 83)), (1, .int p0), (2, .ref (gA E 89))]) hx hb dL_type_12 rfl hl (by decide) rfl (fun ls hl => ?_)
      refine lv_iconst (v := 1) hx hb dL_type_13 (by decide) ?_
      exact rX_i C hJ hr rfl ⟨by rw [hFx]; rfl, Or.inr ⟨by rw [hFx]; decide, rfl⟩⟩ dL_type_14 ⟨by decide, by decide⟩
    · skip
      rw [hFx, exO_3] at hxp
      obtain rfl := Option.some.inj hxp
      refine vx_catch C.ow [⟨0, 9, 12, 13⟩] ⟨0, 9, 15, 15⟩ [] (by rw [htab]; rfl) (fun z hz => by rw [List.mem_singleton.mp hz]; exact Or.inr ⟨by decide, xNm.getD 1 "", C.ts _ kk_L_13, C.nc h3 2 1 (by decide) (by decide) (by decide)⟩) (by decide) (by decide) (C.ts _ kk_L_15) (C.cst cst_3) hce hcv hcl ?_
      refine lv_astore_n (lv' := [(3, .ref q), (0, .ref (gA E 83)), (1, .int p0), (2, .ref (gA E 89))]) hx hb dL_type_15 rfl hl (by decide) rfl (fun ls hl => ?_)
      refine lv_iconst (v := 2) hx hb dL_type_16 (by decide) ?_
      exact rX_i C hJ hr rfl ⟨by rw [hFx]; rfl, Or.inr ⟨by rw [hFx]; decide, rfl⟩⟩ dL_type_17 ⟨by decide, by decide⟩
set_option maxHeartbeats 4000000 in
set_option maxRecDepth 100000 in
theorem cl_undo {l : Launch} {E : GE} (hE : Env0 E) {S : ST} {u_x : Nat × Nat × Nat} (hX2 : Env2 l E u_x) {n : Nat} {z : Nat → Int32} {mm : Nat → Nat → Int32} {mc : Nat} {sv : Nat → LVt} (hXI : XI S (n, z, mm) mc sv) (h3 : Env3 E) : MH l E yL_undo cL_undo 3 [(0, 8, 11, 15)] 8 122 1 6 S [.ref (gA E 83), .ref (gA E 89)] (fun v S1 => WP S S1 v (m_1 (if 0 < mc then (0 : Int32) else 3)) (if 0 < mc then (0 : Int32) else 3) (nI (mc - 1)) (fun S1 => 0 < mc ∧ XI S1 (sv (mc - 1)) (mc - 1) sv ∧ S1.2.2 = S.2.2)) := by
  have hF : (if 0 < mc then (0 : Int32) else 3) = 0 ∨ (if 0 < mc then (0 : Int32) else 3) = 3 := if2
  refine MH.of hE (by decide) (Nat.le_of_ble_eq_true rfl) ?_
  intro p e s m below meth c ls C htab hJ hr hl
  have hx := C.x
  have hb := C.b
  have hl : lv_has ls 3 [(0, .ref (gA E 83)), (1, .ref (gA E 89))] := hl
  refine lv_aload_n hx hb dL_undo_0 rfl (lv_at hl 1 rfl) ?_
  refine lv_iconst (v := 0) hx hb dL_undo_1 (by decide) ?_
  refine lv_aload_n hx hb dL_undo_2 rfl (lv_at hl 0 rfl) ?_
  refine k_XH hJ (r_XV (i := 83) (ci := 4) (N := 4) (T := TX6) (fs := [.ref (gA E 0), .ref (gA E 13), .ref (gA E 78), .ref (gA E 80)]) (rest := [.int 0, .ref (gA E 89)]) (n := 0) C hJ (c_X6_undo hE hX2 hXI) (by omega) (pE_qu E S) rfl km_L_79 ki_X6_undo ks_X6_undo k0_X6 kc_X6_undo ⟨rfl, by decide, by decide, by decide +kernel⟩ rfl dL_undo_3 hl.1 ⟨Nat.le_of_ble_eq_true rfl, Nat.le_of_ble_eq_true rfl⟩ ⟨by decide, by decide⟩ (Nat.le_of_ble_eq_true rfl) rfl) (fun vr S_5 H locs hP hJ => ?_) (fun x ce q H locs hxp hJ hce hcv hcl => ?_)
  · skip
    obtain ⟨hf0, rfl, hrest⟩ := hP
    refine lv_i2l (v := (nI (mc - 1)).toInt64) hx hb dL_undo_6 rfl ?_
    refine t_ou C hJ dL_undo_7 (fun H locs hJ => ?_)
    refine lv_goto (tgt := 14) hx hb dL_undo_8 (by decide) ?_
    refine lv_iconst (v := 0) hx hb dL_undo_14 (by decide) ?_
    exact rX_i C hJ hr rfl ⟨by rw [hf0]; rfl, Or.inl ⟨hf0, S_5, hrest, rfl⟩⟩ dL_undo_15 ⟨by decide, by decide⟩
  · rcases hF with hFx | hFx
    · skip
      rw [hFx, exO_0] at hxp; cases hxp
    · skip
      rw [hFx, exO_3] at hxp
      obtain rfl := Option.some.inj hxp
      refine vx_catch C.ow [] ⟨0, 8, 11, 15⟩ [] (by rw [htab]; rfl) (fun z hz => by cases hz) (by decide) (by decide) (C.ts _ kk_L_15) (C.cst cst_3) hce hcv hcl ?_
      refine lv_astore_n (lv' := [(2, .ref q), (0, .ref (gA E 83)), (1, .ref (gA E 89))]) hx hb dL_undo_11 rfl hl (by decide) rfl (fun ls hl => ?_)
      refine lv_iconst (v := 1) hx hb dL_undo_12 (by decide) ?_
      exact rX_i C hJ hr rfl ⟨by rw [hFx]; rfl, Or.inr ⟨by rw [hFx]; decide, rfl⟩⟩ dL_undo_13 ⟨by decide, by decide⟩
