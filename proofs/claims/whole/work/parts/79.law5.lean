/-! LAW: its cases 3 (by program) -/
theorem f_in_99 {w : Nat} (h : w < 100) : f_in (nI w) 0 99 = true := by
  unfold f_in
  rw [decide_eq_true (nI_pos' (by omega)), decide_eq_true (show nI w ≤ 99 from nI_le (b := 99) (by omega) (by decide))]; rfl
set_option maxHeartbeats 4000000 in
set_option maxRecDepth 100000 in
theorem lc_15 {p : Program} {l : Launch} {e : Env} {s : State} {m : MethodId} {below : List Frame} {meth : Method} {c : Code} {b L : Nat} {xs : Nat → Int32} {E : GE} {X : EX} {u_x : Nat × Nat × Nat} (C : Cx E p s m meth c cL_law RL 7) (hX : Env1 E X) (hX2 : Env2 l E u_x) (h3 : Env3 E) (hgs : gS E = s) (hsc : va_X b L xs s s.heap) (hbl : b < s.heap.size) (hL : L ≤ 2048) {t : Nat} (ht : 4 * t + 4 ≤ L) {n : Nat} {z : Nat → Int32} {mm : Nat → Nat → Int32} {mc : Nat} {sv : Nat → LVt} {u_n : Nat} {u_b : Nat → Int32} {S : ST} (hLI : LI S (n, z, mm) mc sv u_n u_b) {H : Heap} {locs : List Loc} {ls : Array Slot} (hJ : JJ E S H locs) (hl : lv_has ls 7 [(0, .ref b), (1, .ref (gA E 83)), (2, .ref (gA E 84)), (3, .ref (gA E 89)), (4, .int (nI (4 * t)))]) (hk : LK p l e s m b below meth c E (t + 1)) : W p l e room_1 s m #[Value.ref b] below meth c H locs (90 + 2 * t) (1368 + 12 * t) (lw_Z below #[Value.ref b] s) (F0 m 1029 ls []) := by
  have hE := C.env
  have hx := C.x
  have hb := C.b
  obtain ⟨hXI, hMI, hG, hGs, hN, ⟨u_p, u_f, u_c, u_g, hTX⟩, u_p2, u_k2, u_g2, hTM⟩ := id hLI
  have hn : n ≤ 10 := hG.1
  have hV : VOk n mm := hG.2
  have hm4 := hMI.2.2.1
  obtain ⟨p0, hp0⟩ : ∃ y, y = xs (4 * t + 1) := ⟨_, rfl⟩
  refine lv_aload_n hx hb dL_law_1029 rfl (lv_at hl 1 rfl) ?_
  refine lv_aload_n hx hb dL_law_1030 rfl (lv_at hl 0 rfl) ?_
  refine lv_iload hx hb dL_law_1031 (lv_at hl 4 rfl) ?_
  refine lv_iconst (v := 1) hx hb dL_law_1033 (by decide) ?_
  refine lv_iadd hx hb dL_law_1034 ?_
  refine i_scv C hgs hsc hbl hL hJ (v := p0) (nI_add (4 * t) 1) (by omega) hp0.symm dL_law_1035 ?_
  refine lv_aload_n hx hb dL_law_1036 rfl (lv_at hl 3 rfl) ?_
  refine k_H hJ (r_XSW (rest := []) (n := 3) C hJ (cl_whole hE hX2 hXI hTX.1 p0 h3) km_L_141 kt_L_whole k0_L kc_L_whole ⟨by decide, by decide, by decide +kernel⟩ rfl dL_law_1037 hl.1 ⟨Nat.le_of_ble_eq_true rfl, Nat.le_of_ble_eq_true rfl⟩ ⟨by show 90 + 2 * t + 1 ≤ 601024; omega, by show 1368 + 12 * t + 6 ≤ 7293034; omega⟩ (Nat.le_of_ble_eq_true rfl) rfl) (fun vr S_1 H locs hP hJ => ?_)
  obtain ⟨rfl, hW⟩ := hP
  obtain ⟨k0, hk0⟩ : ∃ y, y = m_1 (if f_in p0 0 13 = true then (0 : Int32) else 2) := ⟨_, rfl⟩
  rw [← hk0]
  refine lv_istore (lv' := [(5, .int k0), (0, .ref b), (1, .ref (gA E 83)), (2, .ref (gA E 84)), (3, .ref (gA E 89)), (4, .int (nI (4 * t)))]) hx hb dL_law_1040 hl (by decide) rfl (fun ls hl => ?_)
  rcases hW with ⟨hF0, S_0, hR0, hS1⟩ | ⟨hF0, hS1⟩
  · skip
    have hX0 : XI S_0 (n, z, mm) mc sv := by rw [hR0]; exact hXI
    have e0 : S_0.2.2 = S.2.2 := by rw [hR0]
    have hM1 : MI S_1 (n, z, mm) mc sv := hLI.m1 e0 hS1
    have hLm : (sM S_1).1 4 = nI u_n := by rw [hS1]; exact (congrArg (fun q => q.2.1.1 4) e0).trans hTM.1
    refine lv_aload_n hx hb dL_law_1042 rfl (lv_at hl 3 rfl) ?_
    refine lv_aload_n hx hb dL_law_1043 rfl (lv_at hl 1 rfl) ?_
    refine lv_iload hx hb dL_law_1044 (lv_at hl 5 rfl) ?_
    refine lv_iconst (v := 1) hx hb dL_law_1046 (by decide) ?_
    refine lv_iadd hx hb dL_law_1047 ?_
    refine i_scv C hgs hsc hbl hL hJ (v := p0) (nI_add (4 * t) 1) (by omega) hp0.symm dL_law_1048 ?_
    refine cw_L_143 C hJ (rest := []) (c_X7_whole hE hM1 p0 hV hLm) dL_law_1049 hl.1 ⟨Nat.le_of_ble_eq_true rfl, Nat.le_of_ble_eq_true rfl⟩ ⟨by show 90 + 2 * t + 1 ≤ 601024; omega, by show 1368 + 12 * t + 6 ≤ 7293034; omega⟩ (Nat.le_of_ble_eq_true rfl) rfl rfl (fun vr S_2 H locs hP hJ => ?_)
    obtain ⟨x2, rfl, ht2, hK2, hok, hno⟩ := hP
    have eF : (sM S_2).1 2 = k0 := by rw [ht2, hk0]; exact by split <;> rfl
    have hk00 : k0 = 0 := by rw [hk0, hF0]; rfl
    obtain ⟨hx2, hM2⟩ := hok (by rw [← ht2, eF, hk00])
    subst hx2
    refine lv_istore (lv' := [(6, .int (f_whole n z mm u_n p0.toNatClampNeg)), (5, .int k0), (0, .ref b), (1, .ref (gA E 83)), (2, .ref (gA E 84)), (3, .ref (gA E 89)), (4, .int (nI (4 * t)))]) hx hb dL_law_1052 hl (by decide) rfl (fun ls hl => ?_)
    refine lv_aload_n hx hb dL_law_1054 rfl (lv_at hl 4 rfl) ?_
    refine cr_L_92 C hJ (rest := []) (c_X7_thrown hE) dL_law_1055 hl.1 ⟨Nat.le_of_ble_eq_true rfl, Nat.le_of_ble_eq_true rfl⟩ ⟨by show 90 + 2 * t + 1 ≤ 601024; omega, by show 1368 + 12 * t + 6 ≤ 7293034; omega⟩ (Nat.le_of_ble_eq_true rfl) rfl rfl ?_
    refine lv_iload hx hb dL_law_1058 (lv_at hl 1 rfl) ?_
    refine lv_icmp_eq (tgt := 1065) hx hb dL_law_1060 (by decide) (fun _ => ?_) (fun c_9 => absurd eF c_9)
    refine lv_iload hx hb dL_law_1065 (lv_at hl 1 rfl) ?_
    refine lv_if_ne (tgt := 1082) hx hb dL_law_1067 (by decide) (fun c_9 => absurd hk00 c_9) (fun _ => ?_)
    refine lv_aload_n hx hb dL_law_1070 rfl (lv_at hl 5 rfl) ?_
    refine lv_iconst (v := 0) hx hb dL_law_1071 (by decide) ?_
    refine a_ou C hJ dL_law_1072 ?_
    refine lv_iload hx hb dL_law_1073 (lv_at hl 0 rfl) ?_
    refine lv_i2l (v := (f_whole n z mm u_n p0.toNatClampNeg).toInt64) hx hb dL_law_1075 rfl ?_
    refine W.lcmp hx hb dL_law_1076 ?_
    have heq : sO S_2 0 = (f_whole n z mm u_n p0.toNatClampNeg).toInt64 := by rw [hK2.2.2.2.2.2.2, hS1, setO_0]
    refine lv_if_eq (tgt := 1082) hx hb dL_law_1077 (by decide) (fun _ => ?_) (fun c_9 => absurd (cmp0.mpr heq) c_9)
    refine lv_goto (tgt := 1487) hx hb dL_law_1082 (by decide) ?_
    refine lv_iinc (v := nI (4 * (t + 1))) (lv' := [(4, .int (nI (4 * (t + 1)))), (6, .int (f_whole n z mm u_n p0.toNatClampNeg)), (5, .int k0), (0, .ref b), (1, .ref (gA E 83)), (2, .ref (gA E 84)), (3, .ref (gA E 89))]) hx hb dL_law_1487 hl (k := 6) rfl (by exact nI_add (4 * t) 4) (by decide) rfl (fun ls hl => ?_)
    refine lv_goto (tgt := 23) hx hb dL_law_1490 (by decide) ?_
    refine W.widen (k := 90 + 2 * (t + 1)) (n := 1368 + 12 * (t + 1)) (by omega) (by omega) ?_
    exact hk S_2 _ _ _ _ _ H locs ls (hLI.ok hX0 e0 hS1 hK2 hM2 hG hGs) hJ (lv_sub hl [3, 4, 5, 6, 0] rfl)
  · skip
    rw [hS1] at hJ
    have hM1 := hMI
    have hLm := hTM.1
    refine lv_aload_n hx hb dL_law_1042 rfl (lv_at hl 3 rfl) ?_
    refine lv_aload_n hx hb dL_law_1043 rfl (lv_at hl 1 rfl) ?_
    refine lv_iload hx hb dL_law_1044 (lv_at hl 5 rfl) ?_
    refine lv_iconst (v := 1) hx hb dL_law_1046 (by decide) ?_
    refine lv_iadd hx hb dL_law_1047 ?_
    refine i_scv C hgs hsc hbl hL hJ (v := p0) (nI_add (4 * t) 1) (by omega) hp0.symm dL_law_1048 ?_
    refine cw_L_143 C hJ (rest := []) (c_X7_whole hE hM1 p0 hV hLm) dL_law_1049 hl.1 ⟨Nat.le_of_ble_eq_true rfl, Nat.le_of_ble_eq_true rfl⟩ ⟨by show 90 + 2 * t + 1 ≤ 601024; omega, by show 1368 + 12 * t + 6 ≤ 7293034; omega⟩ (Nat.le_of_ble_eq_true rfl) rfl rfl (fun vr S_2 H locs hP hJ => ?_)
    obtain ⟨x2, rfl, ht2, hK2, hok, hno⟩ := hP
    have eF : (sM S_2).1 2 = k0 := by rw [ht2, hk0]; exact by split <;> rfl
    have hk00 : ¬ k0 = 0 := fun y => hF0 (by rw [hk0] at y; exact m10.mp y)
    have hM2 := hno (fun y => hk00 (by rw [← eF, ht2, y]))
    refine lv_istore (lv' := [(6, .int (x2)), (5, .int k0), (0, .ref b), (1, .ref (gA E 83)), (2, .ref (gA E 84)), (3, .ref (gA E 89)), (4, .int (nI (4 * t)))]) hx hb dL_law_1052 hl (by decide) rfl (fun ls hl => ?_)
    refine lv_aload_n hx hb dL_law_1054 rfl (lv_at hl 4 rfl) ?_
    refine cr_L_92 C hJ (rest := []) (c_X7_thrown hE) dL_law_1055 hl.1 ⟨Nat.le_of_ble_eq_true rfl, Nat.le_of_ble_eq_true rfl⟩ ⟨by show 90 + 2 * t + 1 ≤ 601024; omega, by show 1368 + 12 * t + 6 ≤ 7293034; omega⟩ (Nat.le_of_ble_eq_true rfl) rfl rfl ?_
    refine lv_iload hx hb dL_law_1058 (lv_at hl 1 rfl) ?_
    refine lv_icmp_eq (tgt := 1065) hx hb dL_law_1060 (by decide) (fun _ => ?_) (fun c_9 => absurd eF c_9)
    refine lv_iload hx hb dL_law_1065 (lv_at hl 1 rfl) ?_
    refine lv_if_ne (tgt := 1082) hx hb dL_law_1067 (by decide) (fun _ => ?_) (fun c_9 => absurd c_9 hk00)
    refine lv_goto (tgt := 1487) hx hb dL_law_1082 (by decide) ?_
    refine lv_iinc (v := nI (4 * (t + 1))) (lv' := [(4, .int (nI (4 * (t + 1)))), (6, .int (x2)), (5, .int k0), (0, .ref b), (1, .ref (gA E 83)), (2, .ref (gA E 84)), (3, .ref (gA E 89))]) hx hb dL_law_1487 hl (k := 6) rfl (by exact nI_add (4 * t) 4) (by decide) rfl (fun ls hl => ?_)
    refine lv_goto (tgt := 23) hx hb dL_law_1490 (by decide) ?_
    refine W.widen (k := 90 + 2 * (t + 1)) (n := 1368 + 12 * (t + 1)) (by omega) (by omega) ?_
    exact hk S_2 _ _ _ _ _ H locs ls (hLI.no hK2 hM2) hJ (lv_sub hl [3, 4, 5, 6, 0] rfl)
set_option maxHeartbeats 4000000 in
set_option maxRecDepth 100000 in
theorem lc_16 {p : Program} {l : Launch} {e : Env} {s : State} {m : MethodId} {below : List Frame} {meth : Method} {c : Code} {b L : Nat} {xs : Nat → Int32} {E : GE} {X : EX} {u_x : Nat × Nat × Nat} (C : Cx E p s m meth c cL_law RL 7) (hX : Env1 E X) (hX2 : Env2 l E u_x) (h3 : Env3 E) (hgs : gS E = s) (hsc : va_X b L xs s s.heap) (hbl : b < s.heap.size) (hL : L ≤ 2048) {t : Nat} (ht : 4 * t + 4 ≤ L) {n : Nat} {z : Nat → Int32} {mm : Nat → Nat → Int32} {mc : Nat} {sv : Nat → LVt} {u_n : Nat} {u_b : Nat → Int32} {S : ST} (hLI : LI S (n, z, mm) mc sv u_n u_b) {H : Heap} {locs : List Loc} {ls : Array Slot} (hJ : JJ E S H locs) (hl : lv_has ls 7 [(0, .ref b), (1, .ref (gA E 83)), (2, .ref (gA E 84)), (3, .ref (gA E 89)), (4, .int (nI (4 * t)))]) (hk : LK p l e s m b below meth c E (t + 1)) : W p l e room_1 s m #[Value.ref b] below meth c H locs (90 + 2 * t) (1368 + 12 * t) (lw_Z below #[Value.ref b] s) (F0 m 1085 ls []) := by
  have hE := C.env
  have hx := C.x
  have hb := C.b
  obtain ⟨hXI, hMI, hG, hGs, hN, ⟨u_p, u_f, u_c, u_g, hTX⟩, u_p2, u_k2, u_g2, hTM⟩ := id hLI
  have hn : n ≤ 10 := hG.1
  have hV : VOk n mm := hG.2
  have hm4 := hMI.2.2.1
  obtain ⟨p0, hp0⟩ : ∃ y, y = xs (4 * t + 1) := ⟨_, rfl⟩
  refine lv_aload_n hx hb dL_law_1085 rfl (lv_at hl 1 rfl) ?_
  refine lv_aload_n hx hb dL_law_1086 rfl (lv_at hl 0 rfl) ?_
  refine lv_iload hx hb dL_law_1087 (lv_at hl 4 rfl) ?_
  refine lv_iconst (v := 1) hx hb dL_law_1089 (by decide) ?_
  refine lv_iadd hx hb dL_law_1090 ?_
  refine i_scv C hgs hsc hbl hL hJ (v := p0) (nI_add (4 * t) 1) (by omega) hp0.symm dL_law_1091 ?_
  refine lv_aload_n hx hb dL_law_1092 rfl (lv_at hl 3 rfl) ?_
  refine k_H hJ (r_XSW (rest := []) (n := 3) C hJ (cl_reason hE hX2 hXI p0 h3) km_L_144 kt_L_reason k0_L kc_L_reason ⟨by decide, by decide, by decide +kernel⟩ rfl dL_law_1093 hl.1 ⟨Nat.le_of_ble_eq_true rfl, Nat.le_of_ble_eq_true rfl⟩ ⟨by show 90 + 2 * t + 1 ≤ 601024; omega, by show 1368 + 12 * t + 6 ≤ 7293034; omega⟩ (Nat.le_of_ble_eq_true rfl) rfl) (fun vr S_1 H locs hP hJ => ?_)
  obtain ⟨rfl, hW⟩ := hP
  obtain ⟨k0, hk0⟩ : ∃ y, y = f_pf n p0 1 0 := ⟨_, rfl⟩
  rw [← hk0]
  refine lv_istore (lv' := [(5, .int k0), (0, .ref b), (1, .ref (gA E 83)), (2, .ref (gA E 84)), (3, .ref (gA E 89)), (4, .int (nI (4 * t)))]) hx hb dL_law_1096 hl (by decide) rfl (fun ls hl => ?_)
  rcases hW with ⟨hF0, S_0, hR0, hS1⟩ | ⟨hF0, hS1⟩
  · skip
    have hX0 : XI S_0 (n, z, mm) mc sv := by rw [hR0]; exact hXI
    have e0 : S_0.2.2 = S.2.2 := by rw [hR0]
    have hM1 : MI S_1 (n, z, mm) mc sv := hLI.m1 e0 hS1
    have hLm : (sM S_1).1 4 = nI u_n := by rw [hS1]; exact (congrArg (fun q => q.2.1.1 4) e0).trans hTM.1
    refine lv_aload_n hx hb dL_law_1098 rfl (lv_at hl 3 rfl) ?_
    refine lv_aload_n hx hb dL_law_1099 rfl (lv_at hl 1 rfl) ?_
    refine lv_iload hx hb dL_law_1100 (lv_at hl 5 rfl) ?_
    refine lv_iconst (v := 1) hx hb dL_law_1102 (by decide) ?_
    refine lv_iadd hx hb dL_law_1103 ?_
    refine i_scv C hgs hsc hbl hL hJ (v := p0) (nI_add (4 * t) 1) (by omega) hp0.symm dL_law_1104 ?_
    refine cw_L_146 C hJ (rest := []) (c_X7_reason hE hM1 p0) dL_law_1105 hl.1 ⟨Nat.le_of_ble_eq_true rfl, Nat.le_of_ble_eq_true rfl⟩ ⟨by show 90 + 2 * t + 1 ≤ 601024; omega, by show 1368 + 12 * t + 6 ≤ 7293034; omega⟩ (Nat.le_of_ble_eq_true rfl) rfl rfl (fun vr S_2 H locs hP hJ => ?_)
    obtain ⟨x2, rfl, ht2, hK2, hok, hno⟩ := hP
    have eF : (sM S_2).1 2 = k0 := by rw [ht2, hk0]; exact by unfold f_pf; split <;> rfl
    have hk00 : k0 = 0 := by rw [hk0, hF0]
    obtain ⟨hx2, hM2⟩ := hok (by rw [← ht2, eF, hk00])
    subst hx2
    refine lv_istore (lv' := [(6, .int (f_hind (gof n mm) p0)), (5, .int k0), (0, .ref b), (1, .ref (gA E 83)), (2, .ref (gA E 84)), (3, .ref (gA E 89)), (4, .int (nI (4 * t)))]) hx hb dL_law_1108 hl (by decide) rfl (fun ls hl => ?_)
    refine lv_aload_n hx hb dL_law_1110 rfl (lv_at hl 4 rfl) ?_
    refine cr_L_92 C hJ (rest := []) (c_X7_thrown hE) dL_law_1111 hl.1 ⟨Nat.le_of_ble_eq_true rfl, Nat.le_of_ble_eq_true rfl⟩ ⟨by show 90 + 2 * t + 1 ≤ 601024; omega, by show 1368 + 12 * t + 6 ≤ 7293034; omega⟩ (Nat.le_of_ble_eq_true rfl) rfl rfl ?_
    refine lv_iload hx hb dL_law_1114 (lv_at hl 1 rfl) ?_
    refine lv_icmp_eq (tgt := 1121) hx hb dL_law_1116 (by decide) (fun _ => ?_) (fun c_9 => absurd eF c_9)
    refine lv_iload hx hb dL_law_1121 (lv_at hl 1 rfl) ?_
    refine lv_if_ne (tgt := 1138) hx hb dL_law_1123 (by decide) (fun c_9 => absurd hk00 c_9) (fun _ => ?_)
    refine lv_aload_n hx hb dL_law_1126 rfl (lv_at hl 5 rfl) ?_
    refine lv_iconst (v := 0) hx hb dL_law_1127 (by decide) ?_
    refine a_ou C hJ dL_law_1128 ?_
    refine lv_iload hx hb dL_law_1129 (lv_at hl 0 rfl) ?_
    refine lv_i2l (v := (f_hind (gof n mm) p0).toInt64) hx hb dL_law_1131 rfl ?_
    refine W.lcmp hx hb dL_law_1132 ?_
    have heq : sO S_2 0 = (f_hind (gof n mm) p0).toInt64 := by rw [hK2.2.2.2.2.2.2, hS1, setO_0]
    refine lv_if_eq (tgt := 1138) hx hb dL_law_1133 (by decide) (fun _ => ?_) (fun c_9 => absurd (cmp0.mpr heq) c_9)
    refine lv_goto (tgt := 1487) hx hb dL_law_1138 (by decide) ?_
    refine lv_iinc (v := nI (4 * (t + 1))) (lv' := [(4, .int (nI (4 * (t + 1)))), (6, .int (f_hind (gof n mm) p0)), (5, .int k0), (0, .ref b), (1, .ref (gA E 83)), (2, .ref (gA E 84)), (3, .ref (gA E 89))]) hx hb dL_law_1487 hl (k := 6) rfl (by exact nI_add (4 * t) 4) (by decide) rfl (fun ls hl => ?_)
    refine lv_goto (tgt := 23) hx hb dL_law_1490 (by decide) ?_
    refine W.widen (k := 90 + 2 * (t + 1)) (n := 1368 + 12 * (t + 1)) (by omega) (by omega) ?_
    exact hk S_2 _ _ _ _ _ H locs ls (hLI.ok hX0 e0 hS1 hK2 hM2 hG hGs) hJ (lv_sub hl [3, 4, 5, 6, 0] rfl)
  · skip
    rw [hS1] at hJ
    have hM1 := hMI
    have hLm := hTM.1
    refine lv_aload_n hx hb dL_law_1098 rfl (lv_at hl 3 rfl) ?_
    refine lv_aload_n hx hb dL_law_1099 rfl (lv_at hl 1 rfl) ?_
    refine lv_iload hx hb dL_law_1100 (lv_at hl 5 rfl) ?_
    refine lv_iconst (v := 1) hx hb dL_law_1102 (by decide) ?_
    refine lv_iadd hx hb dL_law_1103 ?_
    refine i_scv C hgs hsc hbl hL hJ (v := p0) (nI_add (4 * t) 1) (by omega) hp0.symm dL_law_1104 ?_
    refine cw_L_146 C hJ (rest := []) (c_X7_reason hE hM1 p0) dL_law_1105 hl.1 ⟨Nat.le_of_ble_eq_true rfl, Nat.le_of_ble_eq_true rfl⟩ ⟨by show 90 + 2 * t + 1 ≤ 601024; omega, by show 1368 + 12 * t + 6 ≤ 7293034; omega⟩ (Nat.le_of_ble_eq_true rfl) rfl rfl (fun vr S_2 H locs hP hJ => ?_)
    obtain ⟨x2, rfl, ht2, hK2, hok, hno⟩ := hP
    have eF : (sM S_2).1 2 = k0 := by rw [ht2, hk0]; exact by unfold f_pf; split <;> rfl
    have hk00 : ¬ k0 = 0 := fun y => hF0 (by rw [hk0] at y; exact y)
    have hM2 := hno (fun y => hk00 (by rw [← eF, ht2, y]))
    refine lv_istore (lv' := [(6, .int (x2)), (5, .int k0), (0, .ref b), (1, .ref (gA E 83)), (2, .ref (gA E 84)), (3, .ref (gA E 89)), (4, .int (nI (4 * t)))]) hx hb dL_law_1108 hl (by decide) rfl (fun ls hl => ?_)
    refine lv_aload_n hx hb dL_law_1110 rfl (lv_at hl 4 rfl) ?_
    refine cr_L_92 C hJ (rest := []) (c_X7_thrown hE) dL_law_1111 hl.1 ⟨Nat.le_of_ble_eq_true rfl, Nat.le_of_ble_eq_true rfl⟩ ⟨by show 90 + 2 * t + 1 ≤ 601024; omega, by show 1368 + 12 * t + 6 ≤ 7293034; omega⟩ (Nat.le_of_ble_eq_true rfl) rfl rfl ?_
    refine lv_iload hx hb dL_law_1114 (lv_at hl 1 rfl) ?_
    refine lv_icmp_eq (tgt := 1121) hx hb dL_law_1116 (by decide) (fun _ => ?_) (fun c_9 => absurd eF c_9)
    refine lv_iload hx hb dL_law_1121 (lv_at hl 1 rfl) ?_
    refine lv_if_ne (tgt := 1138) hx hb dL_law_1123 (by decide) (fun _ => ?_) (fun c_9 => absurd c_9 hk00)
    refine lv_goto (tgt := 1487) hx hb dL_law_1138 (by decide) ?_
    refine lv_iinc (v := nI (4 * (t + 1))) (lv' := [(4, .int (nI (4 * (t + 1)))), (6, .int (x2)), (5, .int k0), (0, .ref b), (1, .ref (gA E 83)), (2, .ref (gA E 84)), (3, .ref (gA E 89))]) hx hb dL_law_1487 hl (k := 6) rfl (by exact nI_add (4 * t) 4) (by decide) rfl (fun ls hl => ?_)
    refine lv_goto (tgt := 23) hx hb dL_law_1490 (by decide) ?_
    refine W.widen (k := 90 + 2 * (t + 1)) (n := 1368 + 12 * (t + 1)) (by omega) (by omega) ?_
    exact hk S_2 _ _ _ _ _ H locs ls (hLI.no hK2 hM2) hJ (lv_sub hl [3, 4, 5, 6, 0] rfl)
set_option maxHeartbeats 4000000 in
set_option maxRecDepth 100000 in
theorem lc_17 {p : Program} {l : Launch} {e : Env} {s : State} {m : MethodId} {below : List Frame} {meth : Method} {c : Code} {b L : Nat} {xs : Nat → Int32} {E : GE} {X : EX} {u_x : Nat × Nat × Nat} (C : Cx E p s m meth c cL_law RL 7) (hX : Env1 E X) (hX2 : Env2 l E u_x) (h3 : Env3 E) (hgs : gS E = s) (hsc : va_X b L xs s s.heap) (hbl : b < s.heap.size) (hL : L ≤ 2048) {t : Nat} (ht : 4 * t + 4 ≤ L) {n : Nat} {z : Nat → Int32} {mm : Nat → Nat → Int32} {mc : Nat} {sv : Nat → LVt} {u_n : Nat} {u_b : Nat → Int32} {S : ST} (hLI : LI S (n, z, mm) mc sv u_n u_b) {H : Heap} {locs : List Loc} {ls : Array Slot} (hJ : JJ E S H locs) (hl : lv_has ls 7 [(0, .ref b), (1, .ref (gA E 83)), (2, .ref (gA E 84)), (3, .ref (gA E 89)), (4, .int (nI (4 * t)))]) (hk : LK p l e s m b below meth c E (t + 1)) : W p l e room_1 s m #[Value.ref b] below meth c H locs (90 + 2 * t) (1368 + 12 * t) (lw_Z below #[Value.ref b] s) (F0 m 1141 ls []) := by
  have hE := C.env
  have hx := C.x
  have hb := C.b
  obtain ⟨hXI, hMI, hG, hGs, hN, ⟨u_p, u_f, u_c, u_g, hTX⟩, u_p2, u_k2, u_g2, hTM⟩ := id hLI
  have hn : n ≤ 10 := hG.1
  have hV : VOk n mm := hG.2
  have hm4 := hMI.2.2.1
  obtain ⟨p0, hp0⟩ : ∃ y, y = xs (4 * t + 1) := ⟨_, rfl⟩
  refine lv_aload_n hx hb dL_law_1141 rfl (lv_at hl 1 rfl) ?_
  refine lv_aload_n hx hb dL_law_1142 rfl (lv_at hl 0 rfl) ?_
  refine lv_iload hx hb dL_law_1143 (lv_at hl 4 rfl) ?_
  refine lv_iconst (v := 1) hx hb dL_law_1145 (by decide) ?_
  refine lv_iadd hx hb dL_law_1146 ?_
  refine i_scv C hgs hsc hbl hL hJ (v := p0) (nI_add (4 * t) 1) (by omega) hp0.symm dL_law_1147 ?_
  refine lv_aload_n hx hb dL_law_1148 rfl (lv_at hl 3 rfl) ?_
  refine k_H hJ (r_XSW (rest := []) (n := 3) C hJ (cl_settledPlace hE hX2 hXI p0 1000 rfl h3) km_L_147 kt_L_settledPlace k0_L kc_L_settledPlace ⟨by decide, by decide, by decide +kernel⟩ rfl dL_law_1149 hl.1 ⟨Nat.le_of_ble_eq_true rfl, Nat.le_of_ble_eq_true rfl⟩ ⟨by show 90 + 2 * t + 1 ≤ 601024; omega, by show 1368 + 12 * t + 6 ≤ 7293034; omega⟩ (Nat.le_of_ble_eq_true rfl) rfl) (fun vr S_1 H locs hP hJ => ?_)
  obtain ⟨rfl, hW⟩ := hP
  obtain ⟨k0, hk0⟩ : ∃ y, y = f_mf (f_place (gof n mm) n p0) 1 := ⟨_, rfl⟩
  rw [← hk0]
  refine lv_istore (lv' := [(5, .int k0), (0, .ref b), (1, .ref (gA E 83)), (2, .ref (gA E 84)), (3, .ref (gA E 89)), (4, .int (nI (4 * t)))]) hx hb dL_law_1152 hl (by decide) rfl (fun ls hl => ?_)
  rcases hW with ⟨hF0, S_0, hR0, hS1⟩ | ⟨hF0, hS1⟩
  · skip
    obtain ⟨hX0, e9⟩ := hR0
    have e0 : S_0.2.2 = S.2.2 := congrArg (fun q => q.2) e9
    have hM1 : MI S_1 (n, z, mm) mc sv := hLI.m1 e0 hS1
    have hLm : (sM S_1).1 4 = nI u_n := by rw [hS1]; exact (congrArg (fun q => q.2.1.1 4) e0).trans hTM.1
    refine lv_aload_n hx hb dL_law_1154 rfl (lv_at hl 3 rfl) ?_
    refine lv_aload_n hx hb dL_law_1155 rfl (lv_at hl 1 rfl) ?_
    refine lv_iload hx hb dL_law_1156 (lv_at hl 5 rfl) ?_
    refine lv_iconst (v := 1) hx hb dL_law_1158 (by decide) ?_
    refine lv_iadd hx hb dL_law_1159 ?_
    refine i_scv C hgs hsc hbl hL hJ (v := p0) (nI_add (4 * t) 1) (by omega) hp0.symm dL_law_1160 ?_
    refine cw_L_149 C hJ (rest := []) (c_X7_settledPlace hE hM1 p0 1000 (hV.st hn z)) dL_law_1161 hl.1 ⟨Nat.le_of_ble_eq_true rfl, Nat.le_of_ble_eq_true rfl⟩ ⟨by show 90 + 2 * t + 1 ≤ 601024; omega, by show 1368 + 12 * t + 6 ≤ 7293034; omega⟩ (Nat.le_of_ble_eq_true rfl) rfl rfl (fun vr S_2 H locs hP hJ => ?_)
    obtain ⟨x2, rfl, ht2, hK2, hok, hno⟩ := hP
    have eF : (sM S_2).1 2 = k0 := by rw [ht2, hk0]; try rfl
    have hk00 : k0 = 0 := by rw [hk0, hF0]
    obtain ⟨hx2, hM2⟩ := hok (by rw [← ht2, eF, hk00])
    refine lv_istore (lv' := [(6, .int (x2)), (5, .int k0), (0, .ref b), (1, .ref (gA E 83)), (2, .ref (gA E 84)), (3, .ref (gA E 89)), (4, .int (nI (4 * t)))]) hx hb dL_law_1164 hl (by decide) rfl (fun ls hl => ?_)
    refine lv_aload_n hx hb dL_law_1166 rfl (lv_at hl 4 rfl) ?_
    refine cr_L_92 C hJ (rest := []) (c_X7_thrown hE) dL_law_1167 hl.1 ⟨Nat.le_of_ble_eq_true rfl, Nat.le_of_ble_eq_true rfl⟩ ⟨by show 90 + 2 * t + 1 ≤ 601024; omega, by show 1368 + 12 * t + 6 ≤ 7293034; omega⟩ (Nat.le_of_ble_eq_true rfl) rfl rfl ?_
    refine lv_iload hx hb dL_law_1170 (lv_at hl 1 rfl) ?_
    refine lv_icmp_eq (tgt := 1177) hx hb dL_law_1172 (by decide) (fun _ => ?_) (fun c_9 => absurd eF c_9)
    refine lv_iload hx hb dL_law_1177 (lv_at hl 1 rfl) ?_
    refine lv_if_ne (tgt := 1194) hx hb dL_law_1179 (by decide) (fun c_9 => absurd hk00 c_9) (fun _ => ?_)
    refine lv_aload_n hx hb dL_law_1182 rfl (lv_at hl 5 rfl) ?_
    refine lv_iconst (v := 0) hx hb dL_law_1183 (by decide) ?_
    refine a_ou C hJ dL_law_1184 ?_
    refine lv_iload hx hb dL_law_1185 (lv_at hl 0 rfl) ?_
    refine lv_i2l (v := (x2).toInt64) hx hb dL_law_1187 rfl ?_
    refine W.lcmp hx hb dL_law_1188 ?_
    have heq : sO S_2 0 = (x2).toInt64 := by rw [hK2.2.2.2.2.2.2, hS1, setO_0, hx2]
    refine lv_if_eq (tgt := 1194) hx hb dL_law_1189 (by decide) (fun _ => ?_) (fun c_9 => absurd (cmp0.mpr heq) c_9)
    refine lv_goto (tgt := 1487) hx hb dL_law_1194 (by decide) ?_
    refine lv_iinc (v := nI (4 * (t + 1))) (lv' := [(4, .int (nI (4 * (t + 1)))), (6, .int (x2)), (5, .int k0), (0, .ref b), (1, .ref (gA E 83)), (2, .ref (gA E 84)), (3, .ref (gA E 89))]) hx hb dL_law_1487 hl (k := 6) rfl (by exact nI_add (4 * t) 4) (by decide) rfl (fun ls hl => ?_)
    refine lv_goto (tgt := 23) hx hb dL_law_1490 (by decide) ?_
    refine W.widen (k := 90 + 2 * (t + 1)) (n := 1368 + 12 * (t + 1)) (by omega) (by omega) ?_
    exact hk S_2 _ _ _ _ _ H locs ls (hLI.ok hX0 e0 hS1 hK2 hM2 hG hGs) hJ (lv_sub hl [3, 4, 5, 6, 0] rfl)
  · skip
    rw [hS1] at hJ
    have hM1 := hMI
    have hLm := hTM.1
    refine lv_aload_n hx hb dL_law_1154 rfl (lv_at hl 3 rfl) ?_
    refine lv_aload_n hx hb dL_law_1155 rfl (lv_at hl 1 rfl) ?_
    refine lv_iload hx hb dL_law_1156 (lv_at hl 5 rfl) ?_
    refine lv_iconst (v := 1) hx hb dL_law_1158 (by decide) ?_
    refine lv_iadd hx hb dL_law_1159 ?_
    refine i_scv C hgs hsc hbl hL hJ (v := p0) (nI_add (4 * t) 1) (by omega) hp0.symm dL_law_1160 ?_
    refine cw_L_149 C hJ (rest := []) (c_X7_settledPlace hE hM1 p0 1000 (hV.st hn z)) dL_law_1161 hl.1 ⟨Nat.le_of_ble_eq_true rfl, Nat.le_of_ble_eq_true rfl⟩ ⟨by show 90 + 2 * t + 1 ≤ 601024; omega, by show 1368 + 12 * t + 6 ≤ 7293034; omega⟩ (Nat.le_of_ble_eq_true rfl) rfl rfl (fun vr S_2 H locs hP hJ => ?_)
    obtain ⟨x2, rfl, ht2, hK2, hok, hno⟩ := hP
    have eF : (sM S_2).1 2 = k0 := by rw [ht2, hk0]; try rfl
    have hk00 : ¬ k0 = 0 := fun y => hF0 (by rw [hk0] at y; exact y)
    have hM2 := hno (fun y => hk00 (by rw [← eF, ht2, y]))
    refine lv_istore (lv' := [(6, .int (x2)), (5, .int k0), (0, .ref b), (1, .ref (gA E 83)), (2, .ref (gA E 84)), (3, .ref (gA E 89)), (4, .int (nI (4 * t)))]) hx hb dL_law_1164 hl (by decide) rfl (fun ls hl => ?_)
    refine lv_aload_n hx hb dL_law_1166 rfl (lv_at hl 4 rfl) ?_
    refine cr_L_92 C hJ (rest := []) (c_X7_thrown hE) dL_law_1167 hl.1 ⟨Nat.le_of_ble_eq_true rfl, Nat.le_of_ble_eq_true rfl⟩ ⟨by show 90 + 2 * t + 1 ≤ 601024; omega, by show 1368 + 12 * t + 6 ≤ 7293034; omega⟩ (Nat.le_of_ble_eq_true rfl) rfl rfl ?_
    refine lv_iload hx hb dL_law_1170 (lv_at hl 1 rfl) ?_
    refine lv_icmp_eq (tgt := 1177) hx hb dL_law_1172 (by decide) (fun _ => ?_) (fun c_9 => absurd eF c_9)
    refine lv_iload hx hb dL_law_1177 (lv_at hl 1 rfl) ?_
    refine lv_if_ne (tgt := 1194) hx hb dL_law_1179 (by decide) (fun _ => ?_) (fun c_9 => absurd c_9 hk00)
    refine lv_goto (tgt := 1487) hx hb dL_law_1194 (by decide) ?_
    refine lv_iinc (v := nI (4 * (t + 1))) (lv' := [(4, .int (nI (4 * (t + 1)))), (6, .int (x2)), (5, .int k0), (0, .ref b), (1, .ref (gA E 83)), (2, .ref (gA E 84)), (3, .ref (gA E 89))]) hx hb dL_law_1487 hl (k := 6) rfl (by exact nI_add (4 * t) 4) (by decide) rfl (fun ls hl => ?_)
    refine lv_goto (tgt := 23) hx hb dL_law_1490 (by decide) ?_
    refine W.widen (k := 90 + 2 * (t + 1)) (n := 1368 + 12 * (t + 1)) (by omega) (by omega) ?_
    exact hk S_2 _ _ _ _ _ H locs ls (hLI.no hK2 hM2) hJ (lv_sub hl [3, 4, 5, 6, 0] rfl)
set_option maxHeartbeats 4000000 in
set_option maxRecDepth 100000 in
theorem lc_18 {p : Program} {l : Launch} {e : Env} {s : State} {m : MethodId} {below : List Frame} {meth : Method} {c : Code} {b L : Nat} {xs : Nat → Int32} {E : GE} {X : EX} {u_x : Nat × Nat × Nat} (C : Cx E p s m meth c cL_law RL 7) (hX : Env1 E X) (hX2 : Env2 l E u_x) (h3 : Env3 E) (hgs : gS E = s) (hsc : va_X b L xs s s.heap) (hbl : b < s.heap.size) (hL : L ≤ 2048) {t : Nat} (ht : 4 * t + 4 ≤ L) {n : Nat} {z : Nat → Int32} {mm : Nat → Nat → Int32} {mc : Nat} {sv : Nat → LVt} {u_n : Nat} {u_b : Nat → Int32} {S : ST} (hLI : LI S (n, z, mm) mc sv u_n u_b) {H : Heap} {locs : List Loc} {ls : Array Slot} (hJ : JJ E S H locs) (hl : lv_has ls 7 [(0, .ref b), (1, .ref (gA E 83)), (2, .ref (gA E 84)), (3, .ref (gA E 89)), (4, .int (nI (4 * t)))]) (hk : LK p l e s m b below meth c E (t + 1)) : W p l e room_1 s m #[Value.ref b] below meth c H locs (90 + 2 * t) (1368 + 12 * t) (lw_Z below #[Value.ref b] s) (F0 m 1197 ls []) := by
  have hE := C.env
  have hx := C.x
  have hb := C.b
  obtain ⟨hXI, hMI, hG, hGs, hN, ⟨u_p, u_f, u_c, u_g, hTX⟩, u_p2, u_k2, u_g2, hTM⟩ := id hLI
  have hn : n ≤ 10 := hG.1
  have hV : VOk n mm := hG.2
  have hm4 := hMI.2.2.1
  obtain ⟨p0, hp0⟩ : ∃ y, y = xs (4 * t + 1) := ⟨_, rfl⟩
  obtain ⟨p1, hp1⟩ : ∃ y, y = xs (4 * t + 2) := ⟨_, rfl⟩
  refine lv_aload_n hx hb dL_law_1197 rfl (lv_at hl 1 rfl) ?_
  refine lv_aload_n hx hb dL_law_1198 rfl (lv_at hl 0 rfl) ?_
  refine lv_iload hx hb dL_law_1199 (lv_at hl 4 rfl) ?_
  refine lv_iconst (v := 1) hx hb dL_law_1201 (by decide) ?_
  refine lv_iadd hx hb dL_law_1202 ?_
  refine i_scv C hgs hsc hbl hL hJ (v := p0) (nI_add (4 * t) 1) (by omega) hp0.symm dL_law_1203 ?_
  refine lv_aload_n hx hb dL_law_1204 rfl (lv_at hl 0 rfl) ?_
  refine lv_iload hx hb dL_law_1205 (lv_at hl 4 rfl) ?_
  refine lv_iconst (v := 2) hx hb dL_law_1207 (by decide) ?_
  refine lv_iadd hx hb dL_law_1208 ?_
  refine i_scv C hgs hsc hbl hL hJ (v := p1) (nI_add (4 * t) 2) (by omega) hp1.symm dL_law_1209 ?_
  refine lv_aload_n hx hb dL_law_1210 rfl (lv_at hl 3 rfl) ?_
  refine k_H hJ (r_XSW (rest := []) (n := 4) C hJ (cl_profit hE hX2 hXI p0 p1 1000 rfl h3) km_L_150 kt_L_profit k0_L kc_L_profit ⟨by decide, by decide, by decide +kernel⟩ rfl dL_law_1211 hl.1 ⟨Nat.le_of_ble_eq_true rfl, Nat.le_of_ble_eq_true rfl⟩ ⟨by show 90 + 2 * t + 1 ≤ 601024; omega, by show 1368 + 12 * t + 6 ≤ 7293034; omega⟩ (Nat.le_of_ble_eq_true rfl) rfl) (fun vr S_1 H locs hP hJ => ?_)
  obtain ⟨rfl, hW⟩ := hP
  obtain ⟨k0, hk0⟩ : ∃ y, y = f_mf (f_place (gof n mm) n p0) (bI (f_in p1 0 99)) := ⟨_, rfl⟩
  rw [← hk0]
  refine lv_istore (lv' := [(5, .int k0), (0, .ref b), (1, .ref (gA E 83)), (2, .ref (gA E 84)), (3, .ref (gA E 89)), (4, .int (nI (4 * t)))]) hx hb dL_law_1214 hl (by decide) rfl (fun ls hl => ?_)
  rcases hW with ⟨hF0, S_0, hR0, hS1⟩ | ⟨hF0, hS1⟩
  · skip
    obtain ⟨hX0, e9⟩ := hR0
    have e0 : S_0.2.2 = S.2.2 := congrArg (fun q => q.2) e9
    have hM1 : MI S_1 (n, z, mm) mc sv := hLI.m1 e0 hS1
    have hLm : (sM S_1).1 4 = nI u_n := by rw [hS1]; exact (congrArg (fun q => q.2.1.1 4) e0).trans hTM.1
    refine lv_aload_n hx hb dL_law_1216 rfl (lv_at hl 3 rfl) ?_
    refine lv_aload_n hx hb dL_law_1217 rfl (lv_at hl 1 rfl) ?_
    refine lv_iload hx hb dL_law_1218 (lv_at hl 5 rfl) ?_
    refine lv_iconst (v := 1) hx hb dL_law_1220 (by decide) ?_
    refine lv_iadd hx hb dL_law_1221 ?_
    refine i_scv C hgs hsc hbl hL hJ (v := p0) (nI_add (4 * t) 1) (by omega) hp0.symm dL_law_1222 ?_
    refine lv_aload_n hx hb dL_law_1223 rfl (lv_at hl 1 rfl) ?_
    refine lv_iload hx hb dL_law_1224 (lv_at hl 5 rfl) ?_
    refine lv_iconst (v := 2) hx hb dL_law_1226 (by decide) ?_
    refine lv_iadd hx hb dL_law_1227 ?_
    refine i_scv C hgs hsc hbl hL hJ (v := p1) (nI_add (4 * t) 2) (by omega) hp1.symm dL_law_1228 ?_
    refine cw_L_152 C hJ (rest := []) (c_X7_profit hE hM1 p0 p1 1000 (fun hq P _ => (hV.say hq).st hn z)) dL_law_1229 hl.1 ⟨Nat.le_of_ble_eq_true rfl, Nat.le_of_ble_eq_true rfl⟩ ⟨by show 90 + 2 * t + 1 ≤ 601024; omega, by show 1368 + 12 * t + 6 ≤ 7293034; omega⟩ (Nat.le_of_ble_eq_true rfl) rfl rfl (fun vr S_2 H locs hP hJ => ?_)
    obtain ⟨x2, rfl, ht2, hK2, hok, hno⟩ := hP
    have eF : (sM S_2).1 2 = k0 := by rw [ht2, hk0]; try rfl
    have hk00 : k0 = 0 := by rw [hk0, hF0]
    obtain ⟨hx2, hM2⟩ := hok (by rw [← ht2, eF, hk00])
    refine lv_istore (lv' := [(6, .int (x2)), (5, .int k0), (0, .ref b), (1, .ref (gA E 83)), (2, .ref (gA E 84)), (3, .ref (gA E 89)), (4, .int (nI (4 * t)))]) hx hb dL_law_1232 hl (by decide) rfl (fun ls hl => ?_)
    refine lv_aload_n hx hb dL_law_1234 rfl (lv_at hl 4 rfl) ?_
    refine cr_L_92 C hJ (rest := []) (c_X7_thrown hE) dL_law_1235 hl.1 ⟨Nat.le_of_ble_eq_true rfl, Nat.le_of_ble_eq_true rfl⟩ ⟨by show 90 + 2 * t + 1 ≤ 601024; omega, by show 1368 + 12 * t + 6 ≤ 7293034; omega⟩ (Nat.le_of_ble_eq_true rfl) rfl rfl ?_
    refine lv_iload hx hb dL_law_1238 (lv_at hl 1 rfl) ?_
    refine lv_icmp_eq (tgt := 1245) hx hb dL_law_1240 (by decide) (fun _ => ?_) (fun c_9 => absurd eF c_9)
    refine lv_iload hx hb dL_law_1245 (lv_at hl 1 rfl) ?_
    refine lv_if_ne (tgt := 1262) hx hb dL_law_1247 (by decide) (fun c_9 => absurd hk00 c_9) (fun _ => ?_)
    refine lv_aload_n hx hb dL_law_1250 rfl (lv_at hl 5 rfl) ?_
    refine lv_iconst (v := 0) hx hb dL_law_1251 (by decide) ?_
    refine a_ou C hJ dL_law_1252 ?_
    refine lv_iload hx hb dL_law_1253 (lv_at hl 0 rfl) ?_
    refine lv_i2l (v := (x2).toInt64) hx hb dL_law_1255 rfl ?_
    refine W.lcmp hx hb dL_law_1256 ?_
    have heq : sO S_2 0 = (x2).toInt64 := by rw [hK2.2.2.2.2.2.2, hS1, setO_0, hx2]
    refine lv_if_eq (tgt := 1262) hx hb dL_law_1257 (by decide) (fun _ => ?_) (fun c_9 => absurd (cmp0.mpr heq) c_9)
    refine lv_goto (tgt := 1487) hx hb dL_law_1262 (by decide) ?_
    refine lv_iinc (v := nI (4 * (t + 1))) (lv' := [(4, .int (nI (4 * (t + 1)))), (6, .int (x2)), (5, .int k0), (0, .ref b), (1, .ref (gA E 83)), (2, .ref (gA E 84)), (3, .ref (gA E 89))]) hx hb dL_law_1487 hl (k := 6) rfl (by exact nI_add (4 * t) 4) (by decide) rfl (fun ls hl => ?_)
    refine lv_goto (tgt := 23) hx hb dL_law_1490 (by decide) ?_
    refine W.widen (k := 90 + 2 * (t + 1)) (n := 1368 + 12 * (t + 1)) (by omega) (by omega) ?_
    exact hk S_2 _ _ _ _ _ H locs ls (hLI.ok hX0 e0 hS1 hK2 hM2 hG hGs) hJ (lv_sub hl [3, 4, 5, 6, 0] rfl)
  · skip
    rw [hS1] at hJ
    have hM1 := hMI
    have hLm := hTM.1
    refine lv_aload_n hx hb dL_law_1216 rfl (lv_at hl 3 rfl) ?_
    refine lv_aload_n hx hb dL_law_1217 rfl (lv_at hl 1 rfl) ?_
    refine lv_iload hx hb dL_law_1218 (lv_at hl 5 rfl) ?_
    refine lv_iconst (v := 1) hx hb dL_law_1220 (by decide) ?_
    refine lv_iadd hx hb dL_law_1221 ?_
    refine i_scv C hgs hsc hbl hL hJ (v := p0) (nI_add (4 * t) 1) (by omega) hp0.symm dL_law_1222 ?_
    refine lv_aload_n hx hb dL_law_1223 rfl (lv_at hl 1 rfl) ?_
    refine lv_iload hx hb dL_law_1224 (lv_at hl 5 rfl) ?_
    refine lv_iconst (v := 2) hx hb dL_law_1226 (by decide) ?_
    refine lv_iadd hx hb dL_law_1227 ?_
    refine i_scv C hgs hsc hbl hL hJ (v := p1) (nI_add (4 * t) 2) (by omega) hp1.symm dL_law_1228 ?_
    refine cw_L_152 C hJ (rest := []) (c_X7_profit hE hM1 p0 p1 1000 (fun hq P _ => (hV.say hq).st hn z)) dL_law_1229 hl.1 ⟨Nat.le_of_ble_eq_true rfl, Nat.le_of_ble_eq_true rfl⟩ ⟨by show 90 + 2 * t + 1 ≤ 601024; omega, by show 1368 + 12 * t + 6 ≤ 7293034; omega⟩ (Nat.le_of_ble_eq_true rfl) rfl rfl (fun vr S_2 H locs hP hJ => ?_)
    obtain ⟨x2, rfl, ht2, hK2, hok, hno⟩ := hP
    have eF : (sM S_2).1 2 = k0 := by rw [ht2, hk0]; try rfl
    have hk00 : ¬ k0 = 0 := fun y => hF0 (by rw [hk0] at y; exact y)
    have hM2 := hno (fun y => hk00 (by rw [← eF, ht2, y]))
    refine lv_istore (lv' := [(6, .int (x2)), (5, .int k0), (0, .ref b), (1, .ref (gA E 83)), (2, .ref (gA E 84)), (3, .ref (gA E 89)), (4, .int (nI (4 * t)))]) hx hb dL_law_1232 hl (by decide) rfl (fun ls hl => ?_)
    refine lv_aload_n hx hb dL_law_1234 rfl (lv_at hl 4 rfl) ?_
    refine cr_L_92 C hJ (rest := []) (c_X7_thrown hE) dL_law_1235 hl.1 ⟨Nat.le_of_ble_eq_true rfl, Nat.le_of_ble_eq_true rfl⟩ ⟨by show 90 + 2 * t + 1 ≤ 601024; omega, by show 1368 + 12 * t + 6 ≤ 7293034; omega⟩ (Nat.le_of_ble_eq_true rfl) rfl rfl ?_
    refine lv_iload hx hb dL_law_1238 (lv_at hl 1 rfl) ?_
    refine lv_icmp_eq (tgt := 1245) hx hb dL_law_1240 (by decide) (fun _ => ?_) (fun c_9 => absurd eF c_9)
    refine lv_iload hx hb dL_law_1245 (lv_at hl 1 rfl) ?_
    refine lv_if_ne (tgt := 1262) hx hb dL_law_1247 (by decide) (fun _ => ?_) (fun c_9 => absurd c_9 hk00)
    refine lv_goto (tgt := 1487) hx hb dL_law_1262 (by decide) ?_
    refine lv_iinc (v := nI (4 * (t + 1))) (lv' := [(4, .int (nI (4 * (t + 1)))), (6, .int (x2)), (5, .int k0), (0, .ref b), (1, .ref (gA E 83)), (2, .ref (gA E 84)), (3, .ref (gA E 89))]) hx hb dL_law_1487 hl (k := 6) rfl (by exact nI_add (4 * t) 4) (by decide) rfl (fun ls hl => ?_)
    refine lv_goto (tgt := 23) hx hb dL_law_1490 (by decide) ?_
    refine W.widen (k := 90 + 2 * (t + 1)) (n := 1368 + 12 * (t + 1)) (by omega) (by omega) ?_
    exact hk S_2 _ _ _ _ _ H locs ls (hLI.no hK2 hM2) hJ (lv_sub hl [3, 4, 5, 6, 0] rfl)
set_option maxHeartbeats 4000000 in
set_option maxRecDepth 100000 in
theorem lc_19 {p : Program} {l : Launch} {e : Env} {s : State} {m : MethodId} {below : List Frame} {meth : Method} {c : Code} {b L : Nat} {xs : Nat → Int32} {E : GE} {X : EX} {u_x : Nat × Nat × Nat} (C : Cx E p s m meth c cL_law RL 7) (hX : Env1 E X) (hX2 : Env2 l E u_x) (h3 : Env3 E) (hgs : gS E = s) (hsc : va_X b L xs s s.heap) (hbl : b < s.heap.size) (hL : L ≤ 2048) {t : Nat} (ht : 4 * t + 4 ≤ L) {n : Nat} {z : Nat → Int32} {mm : Nat → Nat → Int32} {mc : Nat} {sv : Nat → LVt} {u_n : Nat} {u_b : Nat → Int32} {S : ST} (hLI : LI S (n, z, mm) mc sv u_n u_b) {H : Heap} {locs : List Loc} {ls : Array Slot} (hJ : JJ E S H locs) (hl : lv_has ls 7 [(0, .ref b), (1, .ref (gA E 83)), (2, .ref (gA E 84)), (3, .ref (gA E 89)), (4, .int (nI (4 * t)))]) (hk : LK p l e s m b below meth c E (t + 1)) : W p l e room_1 s m #[Value.ref b] below meth c H locs (90 + 2 * t) (1368 + 12 * t) (lw_Z below #[Value.ref b] s) (F0 m 1265 ls []) := by
  have hE := C.env
  have hx := C.x
  have hb := C.b
  obtain ⟨hXI, hMI, hG, hGs, hN, ⟨u_p, u_f, u_c, u_g, hTX⟩, u_p2, u_k2, u_g2, hTM⟩ := id hLI
  have hn : n ≤ 10 := hG.1
  have hV : VOk n mm := hG.2
  have hm4 := hMI.2.2.1
  obtain ⟨p0, hp0⟩ : ∃ y, y = xs (4 * t + 1) := ⟨_, rfl⟩
  refine lv_aload_n hx hb dL_law_1265 rfl (lv_at hl 1 rfl) ?_
  refine lv_aload_n hx hb dL_law_1266 rfl (lv_at hl 0 rfl) ?_
  refine lv_iload hx hb dL_law_1267 (lv_at hl 4 rfl) ?_
  refine lv_iconst (v := 1) hx hb dL_law_1269 (by decide) ?_
  refine lv_iadd hx hb dL_law_1270 ?_
  refine i_scv C hgs hsc hbl hL hJ (v := p0) (nI_add (4 * t) 1) (by omega) hp0.symm dL_law_1271 ?_
  refine lv_aload_n hx hb dL_law_1272 rfl (lv_at hl 3 rfl) ?_
  refine k_H hJ (r_XSW (rest := []) (n := 3) C hJ (cl_bestLie hE hX2 hXI p0 1000 rfl h3) km_L_153 kt_L_bestLie k0_L kc_L_bestLie ⟨by decide, by decide, by decide +kernel⟩ rfl dL_law_1273 hl.1 ⟨Nat.le_of_ble_eq_true rfl, Nat.le_of_ble_eq_true rfl⟩ ⟨by show 90 + 2 * t + 1 ≤ 601024; omega, by show 1368 + 12 * t + 6 ≤ 7293034; omega⟩ (Nat.le_of_ble_eq_true rfl) rfl) (fun vr S_1 H locs hP hJ => ?_)
  obtain ⟨rfl, hW⟩ := hP
  obtain ⟨k0, hk0⟩ : ∃ y, y = f_mf (f_place (gof n mm) n p0) 1 := ⟨_, rfl⟩
  rw [← hk0]
  refine lv_istore (lv' := [(5, .int k0), (0, .ref b), (1, .ref (gA E 83)), (2, .ref (gA E 84)), (3, .ref (gA E 89)), (4, .int (nI (4 * t)))]) hx hb dL_law_1276 hl (by decide) rfl (fun ls hl => ?_)
  rcases hW with ⟨hF0, S_0, hR0, hS1⟩ | ⟨hF0, hS1⟩
  · skip
    obtain ⟨hX0, e9⟩ := hR0
    have e0 : S_0.2.2 = S.2.2 := congrArg (fun q => q.2) e9
    have hM1 : MI S_1 (n, z, mm) mc sv := hLI.m1 e0 hS1
    have hLm : (sM S_1).1 4 = nI u_n := by rw [hS1]; exact (congrArg (fun q => q.2.1.1 4) e0).trans hTM.1
    refine lv_aload_n hx hb dL_law_1278 rfl (lv_at hl 3 rfl) ?_
    refine lv_aload_n hx hb dL_law_1279 rfl (lv_at hl 1 rfl) ?_
    refine lv_iload hx hb dL_law_1280 (lv_at hl 5 rfl) ?_
    refine lv_iconst (v := 1) hx hb dL_law_1282 (by decide) ?_
    refine lv_iadd hx hb dL_law_1283 ?_
    refine i_scv C hgs hsc hbl hL hJ (v := p0) (nI_add (4 * t) 1) (by omega) hp0.symm dL_law_1284 ?_
    refine cw_L_155 C hJ (rest := []) (c_X7_bestLie hE hM1 p0 1000 (fun P _ w hw => (hV.say (f_in_99 hw)).st hn z)) dL_law_1285 hl.1 ⟨Nat.le_of_ble_eq_true rfl, Nat.le_of_ble_eq_true rfl⟩ ⟨by show 90 + 2 * t + 1 ≤ 601024; omega, by show 1368 + 12 * t + 6 ≤ 7293034; omega⟩ (Nat.le_of_ble_eq_true rfl) rfl rfl (fun vr S_2 H locs hP hJ => ?_)
    obtain ⟨x2, rfl, ht2, hK2, hok, hno⟩ := hP
    have eF : (sM S_2).1 2 = k0 := by rw [ht2, hk0]; try rfl
    have hk00 : k0 = 0 := by rw [hk0, hF0]
    obtain ⟨hx2, hM2⟩ := hok (by rw [← ht2, eF, hk00])
    refine lv_istore (lv' := [(6, .int (x2)), (5, .int k0), (0, .ref b), (1, .ref (gA E 83)), (2, .ref (gA E 84)), (3, .ref (gA E 89)), (4, .int (nI (4 * t)))]) hx hb dL_law_1288 hl (by decide) rfl (fun ls hl => ?_)
    refine lv_aload_n hx hb dL_law_1290 rfl (lv_at hl 4 rfl) ?_
    refine cr_L_92 C hJ (rest := []) (c_X7_thrown hE) dL_law_1291 hl.1 ⟨Nat.le_of_ble_eq_true rfl, Nat.le_of_ble_eq_true rfl⟩ ⟨by show 90 + 2 * t + 1 ≤ 601024; omega, by show 1368 + 12 * t + 6 ≤ 7293034; omega⟩ (Nat.le_of_ble_eq_true rfl) rfl rfl ?_
    refine lv_iload hx hb dL_law_1294 (lv_at hl 1 rfl) ?_
    refine lv_icmp_eq (tgt := 1301) hx hb dL_law_1296 (by decide) (fun _ => ?_) (fun c_9 => absurd eF c_9)
    refine lv_iload hx hb dL_law_1301 (lv_at hl 1 rfl) ?_
    refine lv_if_ne (tgt := 1318) hx hb dL_law_1303 (by decide) (fun c_9 => absurd hk00 c_9) (fun _ => ?_)
    refine lv_aload_n hx hb dL_law_1306 rfl (lv_at hl 5 rfl) ?_
    refine lv_iconst (v := 0) hx hb dL_law_1307 (by decide) ?_
    refine a_ou C hJ dL_law_1308 ?_
    refine lv_iload hx hb dL_law_1309 (lv_at hl 0 rfl) ?_
    refine lv_i2l (v := (x2).toInt64) hx hb dL_law_1311 rfl ?_
    refine W.lcmp hx hb dL_law_1312 ?_
    have heq : sO S_2 0 = (x2).toInt64 := by rw [hK2.2.2.2.2.2.2, hS1, setO_0, hx2]
    refine lv_if_eq (tgt := 1318) hx hb dL_law_1313 (by decide) (fun _ => ?_) (fun c_9 => absurd (cmp0.mpr heq) c_9)
    refine lv_goto (tgt := 1487) hx hb dL_law_1318 (by decide) ?_
    refine lv_iinc (v := nI (4 * (t + 1))) (lv' := [(4, .int (nI (4 * (t + 1)))), (6, .int (x2)), (5, .int k0), (0, .ref b), (1, .ref (gA E 83)), (2, .ref (gA E 84)), (3, .ref (gA E 89))]) hx hb dL_law_1487 hl (k := 6) rfl (by exact nI_add (4 * t) 4) (by decide) rfl (fun ls hl => ?_)
    refine lv_goto (tgt := 23) hx hb dL_law_1490 (by decide) ?_
    refine W.widen (k := 90 + 2 * (t + 1)) (n := 1368 + 12 * (t + 1)) (by omega) (by omega) ?_
    exact hk S_2 _ _ _ _ _ H locs ls (hLI.ok hX0 e0 hS1 hK2 hM2 hG hGs) hJ (lv_sub hl [3, 4, 5, 6, 0] rfl)
  · skip
    rw [hS1] at hJ
    have hM1 := hMI
    have hLm := hTM.1
    refine lv_aload_n hx hb dL_law_1278 rfl (lv_at hl 3 rfl) ?_
    refine lv_aload_n hx hb dL_law_1279 rfl (lv_at hl 1 rfl) ?_
    refine lv_iload hx hb dL_law_1280 (lv_at hl 5 rfl) ?_
    refine lv_iconst (v := 1) hx hb dL_law_1282 (by decide) ?_
    refine lv_iadd hx hb dL_law_1283 ?_
    refine i_scv C hgs hsc hbl hL hJ (v := p0) (nI_add (4 * t) 1) (by omega) hp0.symm dL_law_1284 ?_
    refine cw_L_155 C hJ (rest := []) (c_X7_bestLie hE hM1 p0 1000 (fun P _ w hw => (hV.say (f_in_99 hw)).st hn z)) dL_law_1285 hl.1 ⟨Nat.le_of_ble_eq_true rfl, Nat.le_of_ble_eq_true rfl⟩ ⟨by show 90 + 2 * t + 1 ≤ 601024; omega, by show 1368 + 12 * t + 6 ≤ 7293034; omega⟩ (Nat.le_of_ble_eq_true rfl) rfl rfl (fun vr S_2 H locs hP hJ => ?_)
    obtain ⟨x2, rfl, ht2, hK2, hok, hno⟩ := hP
    have eF : (sM S_2).1 2 = k0 := by rw [ht2, hk0]; try rfl
    have hk00 : ¬ k0 = 0 := fun y => hF0 (by rw [hk0] at y; exact y)
    have hM2 := hno (fun y => hk00 (by rw [← eF, ht2, y]))
    refine lv_istore (lv' := [(6, .int (x2)), (5, .int k0), (0, .ref b), (1, .ref (gA E 83)), (2, .ref (gA E 84)), (3, .ref (gA E 89)), (4, .int (nI (4 * t)))]) hx hb dL_law_1288 hl (by decide) rfl (fun ls hl => ?_)
    refine lv_aload_n hx hb dL_law_1290 rfl (lv_at hl 4 rfl) ?_
    refine cr_L_92 C hJ (rest := []) (c_X7_thrown hE) dL_law_1291 hl.1 ⟨Nat.le_of_ble_eq_true rfl, Nat.le_of_ble_eq_true rfl⟩ ⟨by show 90 + 2 * t + 1 ≤ 601024; omega, by show 1368 + 12 * t + 6 ≤ 7293034; omega⟩ (Nat.le_of_ble_eq_true rfl) rfl rfl ?_
    refine lv_iload hx hb dL_law_1294 (lv_at hl 1 rfl) ?_
    refine lv_icmp_eq (tgt := 1301) hx hb dL_law_1296 (by decide) (fun _ => ?_) (fun c_9 => absurd eF c_9)
    refine lv_iload hx hb dL_law_1301 (lv_at hl 1 rfl) ?_
    refine lv_if_ne (tgt := 1318) hx hb dL_law_1303 (by decide) (fun _ => ?_) (fun c_9 => absurd c_9 hk00)
    refine lv_goto (tgt := 1487) hx hb dL_law_1318 (by decide) ?_
    refine lv_iinc (v := nI (4 * (t + 1))) (lv' := [(4, .int (nI (4 * (t + 1)))), (6, .int (x2)), (5, .int k0), (0, .ref b), (1, .ref (gA E 83)), (2, .ref (gA E 84)), (3, .ref (gA E 89))]) hx hb dL_law_1487 hl (k := 6) rfl (by exact nI_add (4 * t) 4) (by decide) rfl (fun ls hl => ?_)
    refine lv_goto (tgt := 23) hx hb dL_law_1490 (by decide) ?_
    refine W.widen (k := 90 + 2 * (t + 1)) (n := 1368 + 12 * (t + 1)) (by omega) (by omega) ?_
    exact hk S_2 _ _ _ _ _ H locs ls (hLI.no hK2 hM2) hJ (lv_sub hl [3, 4, 5, 6, 0] rfl)
set_option maxHeartbeats 4000000 in
set_option maxRecDepth 100000 in
theorem lc_25 {p : Program} {l : Launch} {e : Env} {s : State} {m : MethodId} {below : List Frame} {meth : Method} {c : Code} {b L : Nat} {xs : Nat → Int32} {E : GE} {X : EX} {u_x : Nat × Nat × Nat} (C : Cx E p s m meth c cL_law RL 7) (hX : Env1 E X) (hX2 : Env2 l E u_x) (h3 : Env3 E) (hgs : gS E = s) (hsc : va_X b L xs s s.heap) (hbl : b < s.heap.size) (hL : L ≤ 2048) {t : Nat} (ht : 4 * t + 4 ≤ L) {n : Nat} {z : Nat → Int32} {mm : Nat → Nat → Int32} {mc : Nat} {sv : Nat → LVt} {u_n : Nat} {u_b : Nat → Int32} {S : ST} (hLI : LI S (n, z, mm) mc sv u_n u_b) {H : Heap} {locs : List Loc} {ls : Array Slot} (hJ : JJ E S H locs) (hl : lv_has ls 7 [(0, .ref b), (1, .ref (gA E 83)), (2, .ref (gA E 84)), (3, .ref (gA E 89)), (4, .int (nI (4 * t)))]) (hk : LK p l e s m b below meth c E (t + 1)) : W p l e room_1 s m #[Value.ref b] below meth c H locs (90 + 2 * t) (1368 + 12 * t) (lw_Z below #[Value.ref b] s) (F0 m 1429 ls []) := by
  have hE := C.env
  have hx := C.x
  have hb := C.b
  obtain ⟨hXI, hMI, hG, hGs, hN, ⟨u_p, u_f, u_c, u_g, hTX⟩, u_p2, u_k2, u_g2, hTM⟩ := id hLI
  have hn : n ≤ 10 := hG.1
  have hV : VOk n mm := hG.2
  have hm4 := hMI.2.2.1
  refine lv_aload_n hx hb dL_law_1429 rfl (lv_at hl 1 rfl) ?_
  refine lv_aload_n hx hb dL_law_1430 rfl (lv_at hl 3 rfl) ?_
  refine k_H hJ (r_XSW (rest := []) (n := 2) C hJ (cl_undo hE hX2 hXI h3) km_L_175 kt_L_undo k0_L kc_L_undo ⟨by decide, by decide, by decide +kernel⟩ rfl dL_law_1431 hl.1 ⟨Nat.le_of_ble_eq_true rfl, Nat.le_of_ble_eq_true rfl⟩ ⟨by show 90 + 2 * t + 1 ≤ 601024; omega, by show 1368 + 12 * t + 6 ≤ 7293034; omega⟩ (Nat.le_of_ble_eq_true rfl) rfl) (fun vr S_1 H locs hP hJ => ?_)
  obtain ⟨rfl, hW⟩ := hP
  obtain ⟨k0, hk0⟩ : ∃ y, y = m_1 (if 0 < mc then (0 : Int32) else 3) := ⟨_, rfl⟩
  rw [← hk0]
  refine lv_istore (lv' := [(5, .int k0), (0, .ref b), (1, .ref (gA E 83)), (2, .ref (gA E 84)), (3, .ref (gA E 89)), (4, .int (nI (4 * t)))]) hx hb dL_law_1434 hl (by decide) rfl (fun ls hl => ?_)
  rcases hW with ⟨hF0, S_0, hR0, hS1⟩ | ⟨hF0, hS1⟩
  · skip
    obtain ⟨h0c, hX0, e0⟩ := hR0
    have hM1 : MI S_1 (n, z, mm) mc sv := hLI.m1 e0 hS1
    have hLm : (sM S_1).1 4 = nI u_n := by rw [hS1]; exact (congrArg (fun q => q.2.1.1 4) e0).trans hTM.1
    refine lv_aload_n hx hb dL_law_1436 rfl (lv_at hl 3 rfl) ?_
    refine cw_L_177 C hJ (rest := []) (c_X7_undo hE hM1 ) dL_law_1437 hl.1 ⟨Nat.le_of_ble_eq_true rfl, Nat.le_of_ble_eq_true rfl⟩ ⟨by show 90 + 2 * t + 1 ≤ 601024; omega, by show 1368 + 12 * t + 6 ≤ 7293034; omega⟩ (Nat.le_of_ble_eq_true rfl) rfl rfl (fun vr S_2 H locs hP hJ => ?_)
    obtain ⟨x2, rfl, ht2, hK2, hok, hno⟩ := hP
    have eF : (sM S_2).1 2 = k0 := by rw [ht2, hk0]; exact und_c mc
    have hk00 : k0 = 0 := by rw [hk0, hF0]; rfl
    obtain ⟨hx2, hM2⟩ := hok (by rw [← ht2, eF, hk00])
    refine lv_istore (lv' := [(6, .int (x2)), (5, .int k0), (0, .ref b), (1, .ref (gA E 83)), (2, .ref (gA E 84)), (3, .ref (gA E 89)), (4, .int (nI (4 * t)))]) hx hb dL_law_1440 hl (by decide) rfl (fun ls hl => ?_)
    refine lv_aload_n hx hb dL_law_1442 rfl (lv_at hl 4 rfl) ?_
    refine cr_L_92 C hJ (rest := []) (c_X7_thrown hE) dL_law_1443 hl.1 ⟨Nat.le_of_ble_eq_true rfl, Nat.le_of_ble_eq_true rfl⟩ ⟨by show 90 + 2 * t + 1 ≤ 601024; omega, by show 1368 + 12 * t + 6 ≤ 7293034; omega⟩ (Nat.le_of_ble_eq_true rfl) rfl rfl ?_
    refine lv_iload hx hb dL_law_1446 (lv_at hl 1 rfl) ?_
    refine lv_icmp_eq (tgt := 1453) hx hb dL_law_1448 (by decide) (fun _ => ?_) (fun c_9 => absurd eF c_9)
    refine lv_iload hx hb dL_law_1453 (lv_at hl 1 rfl) ?_
    refine lv_if_ne (tgt := 1470) hx hb dL_law_1455 (by decide) (fun c_9 => absurd hk00 c_9) (fun _ => ?_)
    refine lv_aload_n hx hb dL_law_1458 rfl (lv_at hl 5 rfl) ?_
    refine lv_iconst (v := 0) hx hb dL_law_1459 (by decide) ?_
    refine a_ou C hJ dL_law_1460 ?_
    refine lv_iload hx hb dL_law_1461 (lv_at hl 0 rfl) ?_
    refine lv_i2l (v := (x2).toInt64) hx hb dL_law_1463 rfl ?_
    refine W.lcmp hx hb dL_law_1464 ?_
    have heq : sO S_2 0 = (x2).toInt64 := by rw [hK2.2.2.2.2.2.2, hS1, setO_0, hx2]
    refine lv_if_eq (tgt := 1470) hx hb dL_law_1465 (by decide) (fun _ => ?_) (fun c_9 => absurd (cmp0.mpr heq) c_9)
    refine lv_goto (tgt := 1487) hx hb dL_law_1470 (by decide) ?_
    refine lv_iinc (v := nI (4 * (t + 1))) (lv' := [(4, .int (nI (4 * (t + 1)))), (6, .int (x2)), (5, .int k0), (0, .ref b), (1, .ref (gA E 83)), (2, .ref (gA E 84)), (3, .ref (gA E 89))]) hx hb dL_law_1487 hl (k := 6) rfl (by exact nI_add (4 * t) 4) (by decide) rfl (fun ls hl => ?_)
    refine lv_goto (tgt := 23) hx hb dL_law_1490 (by decide) ?_
    refine W.widen (k := 90 + 2 * (t + 1)) (n := 1368 + 12 * (t + 1)) (by omega) (by omega) ?_
    exact hk S_2 _ _ _ _ _ H locs ls (hLI.ok hX0 e0 hS1 hK2 hM2 (hGs (mc - 1) (by omega)) (fun k hk => hGs k (by omega))) hJ (lv_sub hl [3, 4, 5, 6, 0] rfl)
  · skip
    rw [hS1] at hJ
    have hM1 := hMI
    have hLm := hTM.1
    refine lv_aload_n hx hb dL_law_1436 rfl (lv_at hl 3 rfl) ?_
    refine cw_L_177 C hJ (rest := []) (c_X7_undo hE hM1 ) dL_law_1437 hl.1 ⟨Nat.le_of_ble_eq_true rfl, Nat.le_of_ble_eq_true rfl⟩ ⟨by show 90 + 2 * t + 1 ≤ 601024; omega, by show 1368 + 12 * t + 6 ≤ 7293034; omega⟩ (Nat.le_of_ble_eq_true rfl) rfl rfl (fun vr S_2 H locs hP hJ => ?_)
    obtain ⟨x2, rfl, ht2, hK2, hok, hno⟩ := hP
    have eF : (sM S_2).1 2 = k0 := by rw [ht2, hk0]; exact und_c mc
    have hk00 : ¬ k0 = 0 := fun y => hF0 (by rw [hk0] at y; exact m10.mp y)
    have hM2 := hno (fun y => hk00 (by rw [← eF, ht2, y]))
    refine lv_istore (lv' := [(6, .int (x2)), (5, .int k0), (0, .ref b), (1, .ref (gA E 83)), (2, .ref (gA E 84)), (3, .ref (gA E 89)), (4, .int (nI (4 * t)))]) hx hb dL_law_1440 hl (by decide) rfl (fun ls hl => ?_)
    refine lv_aload_n hx hb dL_law_1442 rfl (lv_at hl 4 rfl) ?_
    refine cr_L_92 C hJ (rest := []) (c_X7_thrown hE) dL_law_1443 hl.1 ⟨Nat.le_of_ble_eq_true rfl, Nat.le_of_ble_eq_true rfl⟩ ⟨by show 90 + 2 * t + 1 ≤ 601024; omega, by show 1368 + 12 * t + 6 ≤ 7293034; omega⟩ (Nat.le_of_ble_eq_true rfl) rfl rfl ?_
    refine lv_iload hx hb dL_law_1446 (lv_at hl 1 rfl) ?_
    refine lv_icmp_eq (tgt := 1453) hx hb dL_law_1448 (by decide) (fun _ => ?_) (fun c_9 => absurd eF c_9)
    refine lv_iload hx hb dL_law_1453 (lv_at hl 1 rfl) ?_
    refine lv_if_ne (tgt := 1470) hx hb dL_law_1455 (by decide) (fun _ => ?_) (fun c_9 => absurd c_9 hk00)
    refine lv_goto (tgt := 1487) hx hb dL_law_1470 (by decide) ?_
    refine lv_iinc (v := nI (4 * (t + 1))) (lv' := [(4, .int (nI (4 * (t + 1)))), (6, .int (x2)), (5, .int k0), (0, .ref b), (1, .ref (gA E 83)), (2, .ref (gA E 84)), (3, .ref (gA E 89))]) hx hb dL_law_1487 hl (k := 6) rfl (by exact nI_add (4 * t) 4) (by decide) rfl (fun ls hl => ?_)
    refine lv_goto (tgt := 23) hx hb dL_law_1490 (by decide) ?_
    refine W.widen (k := 90 + 2 * (t + 1)) (n := 1368 + 12 * (t + 1)) (by omega) (by omega) ?_
    exact hk S_2 _ _ _ _ _ H locs ls (hLI.no hK2 hM2) hJ (lv_sub hl [3, 4, 5, 6, 0] rfl)
