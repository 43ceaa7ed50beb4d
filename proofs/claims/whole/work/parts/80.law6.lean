/-! LAW: its other cases (by program) -/
theorem ty_c (p0 : Int32) {u_n : Nat} (hN : u_n ≤ 150) : (if f_in p0 0 127 = true then (if u_n = 150 then (2 : Int32) else 0) else 1) = m_j (if f_in p0 0 127 = true then (if u_n < 150 then (0 : Int32) else 3) else 2) := by
  by_cases q : f_in p0 0 127 = true
  · rw [if_pos q, if_pos q]
    by_cases r : u_n = 150
    · rw [if_pos r, if_neg (by omega)]; rfl
    · rw [if_neg r, if_pos (by omega)]; rfl
  · rw [if_neg q, if_neg q]; rfl
theorem ty_j {p0 : Int32} {u_n : Nat} (y : m_j (if f_in p0 0 127 = true then (if u_n < 150 then (0 : Int32) else 3) else 2) = 0) : (if f_in p0 0 127 = true then (if u_n < 150 then (0 : Int32) else 3) else 2) = 0 := (mj0 (ty3 p0 u_n)).mp y
set_option maxHeartbeats 4000000 in
set_option maxRecDepth 100000 in
theorem lc_11 {p : Program} {l : Launch} {e : Env} {s : State} {m : MethodId} {below : List Frame} {meth : Method} {c : Code} {b L : Nat} {xs : Nat → Int32} {E : GE} {X : EX} {u_x : Nat × Nat × Nat} (C : Cx E p s m meth c cL_law RL 7) (hX : Env1 E X) (hX2 : Env2 l E u_x) (h3 : Env3 E) (hgs : gS E = s) (hsc : va_X b L xs s s.heap) (hbl : b < s.heap.size) (hL : L ≤ 2048) {t : Nat} (ht : 4 * t + 4 ≤ L) {n : Nat} {z : Nat → Int32} {mm : Nat → Nat → Int32} {mc : Nat} {sv : Nat → LVt} {u_n : Nat} {u_b : Nat → Int32} {S : ST} (hLI : LI S (n, z, mm) mc sv u_n u_b) {H : Heap} {locs : List Loc} {ls : Array Slot} (hJ : JJ E S H locs) (hl : lv_has ls 7 [(0, .ref b), (1, .ref (gA E 83)), (2, .ref (gA E 84)), (3, .ref (gA E 89)), (4, .int (nI (4 * t)))]) (hk : LK p l e s m b below meth c E (t + 1)) : W p l e room_1 s m #[Value.ref b] below meth c H locs (90 + 2 * t) (1368 + 12 * t) (lw_Z below #[Value.ref b] s) (F0 m 824 ls []) := by
  have hE := C.env
  have hx := C.x
  have hb := C.b
  obtain ⟨hXI, hMI, hG, hGs, hN, ⟨u_p, u_f, u_c, u_g, hTX⟩, u_p2, u_k2, u_g2, hTM⟩ := id hLI
  have hn : n ≤ 10 := hG.1
  have hV : VOk n mm := hG.2
  have hm4 := hMI.2.2.1
  refine lv_aload_n hx hb dL_law_824 rfl (lv_at hl 1 rfl) ?_
  refine k_H hJ (r_XV (i := 83) (ci := 4) (N := 4) (T := TX6) (fs := [.ref (gA E 0), .ref (gA E 13), .ref (gA E 78), .ref (gA E 80)]) (rest := []) (n := 0) C hJ (c_X6_settle hE hX hX2 hXI 1000 rfl) (by omega) (pE_qu E S) rfl km_L_128 ki_X6_settle ks_X6_settle k0_X6 kc_X6_settle ⟨rfl, by decide, by decide, by decide +kernel⟩ rfl dL_law_825 hl.1 ⟨Nat.le_of_ble_eq_true rfl, Nat.le_of_ble_eq_true rfl⟩ ⟨by show 90 + 2 * t + 1 ≤ 601024; omega, by show 1368 + 12 * t + 6 ≤ 7293034; omega⟩ (Nat.le_of_ble_eq_true rfl) rfl) (fun vr S_1 H locs hP hJ => ?_)
  obtain ⟨_, rfl, hX0, e0⟩ := hP
  have e1 : sM S_1 = sM S := congrArg (fun q => q.2.1) e0
  have hM1 := hMI.e e1
  refine lv_aload_n hx hb dL_law_828 rfl (lv_at hl 2 rfl) ?_
  refine cw_L_131 C hJ (rest := [.int (f_co 1000 n z mm 10 0 0 0).1]) (c_X7_settle hE hM1 1000 (hV.st hn z)) dL_law_829 hl.1 ⟨Nat.le_of_ble_eq_true rfl, Nat.le_of_ble_eq_true rfl⟩ ⟨by show 90 + 2 * t + 1 ≤ 601024; omega, by show 1368 + 12 * t + 6 ≤ 7293034; omega⟩ (Nat.le_of_ble_eq_true rfl) rfl rfl (fun vr S_2 H locs hP hJ => ?_)
  obtain ⟨x2, rfl, ht2, hK2, hok, hno⟩ := hP
  obtain ⟨hx2, hM2⟩ := hok rfl
  refine lv_icmp_eq (tgt := 1487) hx hb dL_law_832 (by decide) (fun _ => ?_) (fun c_9 => absurd (hx2.symm) c_9)
  refine lv_iinc (v := nI (4 * (t + 1))) (lv' := [(4, .int (nI (4 * (t + 1)))), (0, .ref b), (1, .ref (gA E 83)), (2, .ref (gA E 84)), (3, .ref (gA E 89))]) hx hb dL_law_1487 hl (k := 4) rfl (by exact nI_add (4 * t) 4) (by decide) rfl (fun ls hl => ?_)
  refine lv_goto (tgt := 23) hx hb dL_law_1490 (by decide) ?_
  refine W.widen (k := 90 + 2 * (t + 1)) (n := 1368 + 12 * (t + 1)) (by omega) (by omega) ?_
  exact hk S_2 _ _ _ _ _ H locs ls (hLI.go (hX0.e hK2.1 hK2.2.1) hM2 (GOk.co (fu := 1000) hG (u_j := 10) (by decide) (a := 0) (b := 0) (d := 0) rfl) hLI.push (hK2.2.2.1.trans (congrArg (fun q => q.1) e0)) (hLI.tm e1 hK2)) hJ (lv_sub hl [1, 2, 3, 4, 0] rfl)
set_option maxHeartbeats 4000000 in
set_option maxRecDepth 100000 in
theorem lc_20 {p : Program} {l : Launch} {e : Env} {s : State} {m : MethodId} {below : List Frame} {meth : Method} {c : Code} {b L : Nat} {xs : Nat → Int32} {E : GE} {X : EX} {u_x : Nat × Nat × Nat} (C : Cx E p s m meth c cL_law RL 7) (hX : Env1 E X) (hX2 : Env2 l E u_x) (h3 : Env3 E) (hgs : gS E = s) (hsc : va_X b L xs s s.heap) (hbl : b < s.heap.size) (hL : L ≤ 2048) {t : Nat} (ht : 4 * t + 4 ≤ L) {n : Nat} {z : Nat → Int32} {mm : Nat → Nat → Int32} {mc : Nat} {sv : Nat → LVt} {u_n : Nat} {u_b : Nat → Int32} {S : ST} (hLI : LI S (n, z, mm) mc sv u_n u_b) {H : Heap} {locs : List Loc} {ls : Array Slot} (hJ : JJ E S H locs) (hl : lv_has ls 7 [(0, .ref b), (1, .ref (gA E 83)), (2, .ref (gA E 84)), (3, .ref (gA E 89)), (4, .int (nI (4 * t)))]) (hk : LK p l e s m b below meth c E (t + 1)) : W p l e room_1 s m #[Value.ref b] below meth c H locs (90 + 2 * t) (1368 + 12 * t) (lw_Z below #[Value.ref b] s) (F0 m 1321 ls []) := by
  have hE := C.env
  have hx := C.x
  have hb := C.b
  obtain ⟨hXI, hMI, hG, hGs, hN, ⟨u_p, u_f, u_c, u_g, hTX⟩, u_p2, u_k2, u_g2, hTM⟩ := id hLI
  have hn : n ≤ 10 := hG.1
  have hV : VOk n mm := hG.2
  have hm4 := hMI.2.2.1
  refine lv_aload_n hx hb dL_law_1321 rfl (lv_at hl 1 rfl) ?_
  obtain ⟨n1, z1, mm1, h1⟩ := hXI.ln1
  refine cw_L_156 C hJ (rest := []) (c_X6_honestCost hE hXI.1 h1 1000 rfl) dL_law_1322 hl.1 ⟨Nat.le_of_ble_eq_true rfl, Nat.le_of_ble_eq_true rfl⟩ ⟨by show 90 + 2 * t ≤ 601024; omega, by show 1368 + 12 * t ≤ 7293034; omega⟩ (Nat.le_of_ble_eq_true rfl) rfl rfl (fun vr S_1 H locs hP hJ => ?_)
  obtain ⟨rfl, hU⟩ := hP
  have hX0 := hXI.up1 hU
  have e0 : S_1.2.2 = S.2.2 := congrArg (fun q => q.2) hU.1
  have e1 : sM S_1 = sM S := congrArg (fun q => q.2.1) e0
  have hM1 := hMI.e e1
  refine lv_aload_n hx hb dL_law_1325 rfl (lv_at hl 2 rfl) ?_
  refine cw_L_159 C hJ (rest := [.int (f_hon 1000 n z mm)]) (c_X7_honestCost hE hM1 1000 (hV.tru.st hn z)) dL_law_1326 hl.1 ⟨Nat.le_of_ble_eq_true rfl, Nat.le_of_ble_eq_true rfl⟩ ⟨by show 90 + 2 * t ≤ 601024; omega, by show 1368 + 12 * t ≤ 7293034; omega⟩ (Nat.le_of_ble_eq_true rfl) rfl rfl (fun vr S_2 H locs hP hJ => ?_)
  obtain ⟨x2, rfl, ht2, hK2, hok, hno⟩ := hP
  obtain ⟨hx2, hM2⟩ := hok rfl
  refine lv_icmp_eq (tgt := 1487) hx hb dL_law_1329 (by decide) (fun _ => ?_) (fun c_9 => absurd (hx2.symm) c_9)
  refine lv_iinc (v := nI (4 * (t + 1))) (lv' := [(4, .int (nI (4 * (t + 1)))), (0, .ref b), (1, .ref (gA E 83)), (2, .ref (gA E 84)), (3, .ref (gA E 89))]) hx hb dL_law_1487 hl (k := 4) rfl (by exact nI_add (4 * t) 4) (by decide) rfl (fun ls hl => ?_)
  refine lv_goto (tgt := 23) hx hb dL_law_1490 (by decide) ?_
  refine W.widen (k := 90 + 2 * (t + 1)) (n := 1368 + 12 * (t + 1)) (by omega) (by omega) ?_
  exact hk S_2 _ _ _ _ _ H locs ls (hLI.go (hX0.e hK2.1 hK2.2.1) hM2 hG hGs (hK2.2.2.1.trans (congrArg (fun q => q.1) e0)) (hLI.tm e1 hK2)) hJ (lv_sub hl [1, 2, 3, 4, 0] rfl)
set_option maxHeartbeats 4000000 in
set_option maxRecDepth 100000 in
theorem lc_21 {p : Program} {l : Launch} {e : Env} {s : State} {m : MethodId} {below : List Frame} {meth : Method} {c : Code} {b L : Nat} {xs : Nat → Int32} {E : GE} {X : EX} {u_x : Nat × Nat × Nat} (C : Cx E p s m meth c cL_law RL 7) (hX : Env1 E X) (hX2 : Env2 l E u_x) (h3 : Env3 E) (hgs : gS E = s) (hsc : va_X b L xs s s.heap) (hbl : b < s.heap.size) (hL : L ≤ 2048) {t : Nat} (ht : 4 * t + 4 ≤ L) {n : Nat} {z : Nat → Int32} {mm : Nat → Nat → Int32} {mc : Nat} {sv : Nat → LVt} {u_n : Nat} {u_b : Nat → Int32} {S : ST} (hLI : LI S (n, z, mm) mc sv u_n u_b) {H : Heap} {locs : List Loc} {ls : Array Slot} (hJ : JJ E S H locs) (hl : lv_has ls 7 [(0, .ref b), (1, .ref (gA E 83)), (2, .ref (gA E 84)), (3, .ref (gA E 89)), (4, .int (nI (4 * t)))]) (hk : LK p l e s m b below meth c E (t + 1)) : W p l e room_1 s m #[Value.ref b] below meth c H locs (90 + 2 * t) (1368 + 12 * t) (lw_Z below #[Value.ref b] s) (F0 m 1334 ls []) := by
  have hE := C.env
  have hx := C.x
  have hb := C.b
  obtain ⟨hXI, hMI, hG, hGs, hN, ⟨u_p, u_f, u_c, u_g, hTX⟩, u_p2, u_k2, u_g2, hTM⟩ := id hLI
  have hn : n ≤ 10 := hG.1
  have hV : VOk n mm := hG.2
  have hm4 := hMI.2.2.1
  refine lv_aload_n hx hb dL_law_1334 rfl (lv_at hl 1 rfl) ?_
  refine cr_L_160 C hJ (rest := []) (c_X6_disorder hE hXI.1) dL_law_1335 hl.1 ⟨Nat.le_of_ble_eq_true rfl, Nat.le_of_ble_eq_true rfl⟩ ⟨by show 90 + 2 * t ≤ 601024; omega, by show 1368 + 12 * t ≤ 7293034; omega⟩ (Nat.le_of_ble_eq_true rfl) rfl rfl ?_
  refine lv_aload_n hx hb dL_law_1338 rfl (lv_at hl 2 rfl) ?_
  refine cw_L_163 C hJ (rest := [.int (f_wrong (gof n mm) n)]) (c_X7_disorder hE hMI.1) dL_law_1339 hl.1 ⟨Nat.le_of_ble_eq_true rfl, Nat.le_of_ble_eq_true rfl⟩ ⟨by show 90 + 2 * t ≤ 601024; omega, by show 1368 + 12 * t ≤ 7293034; omega⟩ (Nat.le_of_ble_eq_true rfl) rfl rfl (fun vr S_2 H locs hP hJ => ?_)
  obtain ⟨rfl, e2⟩ := hP
  have hK2 : KM S S_2 := by rw [e2]; exact KM.th
  have hM2 : MI S_2 (n, z, mm) mc sv := by rw [e2]; exact hMI.th 0
  refine lv_icmp_eq (tgt := 1487) hx hb dL_law_1342 (by decide) (fun _ => ?_) (fun c_9 => absurd (rfl) c_9)
  refine lv_iinc (v := nI (4 * (t + 1))) (lv' := [(4, .int (nI (4 * (t + 1)))), (0, .ref b), (1, .ref (gA E 83)), (2, .ref (gA E 84)), (3, .ref (gA E 89))]) hx hb dL_law_1487 hl (k := 4) rfl (by exact nI_add (4 * t) 4) (by decide) rfl (fun ls hl => ?_)
  refine lv_goto (tgt := 23) hx hb dL_law_1490 (by decide) ?_
  refine W.widen (k := 90 + 2 * (t + 1)) (n := 1368 + 12 * (t + 1)) (by omega) (by omega) ?_
  exact hk S_2 _ _ _ _ _ H locs ls (hLI.no hK2 hM2) hJ (lv_sub hl [1, 2, 3, 4, 0] rfl)
set_option maxHeartbeats 4000000 in
set_option maxRecDepth 100000 in
theorem lc_22 {p : Program} {l : Launch} {e : Env} {s : State} {m : MethodId} {below : List Frame} {meth : Method} {c : Code} {b L : Nat} {xs : Nat → Int32} {E : GE} {X : EX} {u_x : Nat × Nat × Nat} (C : Cx E p s m meth c cL_law RL 7) (hX : Env1 E X) (hX2 : Env2 l E u_x) (h3 : Env3 E) (hgs : gS E = s) (hsc : va_X b L xs s s.heap) (hbl : b < s.heap.size) (hL : L ≤ 2048) {t : Nat} (ht : 4 * t + 4 ≤ L) {n : Nat} {z : Nat → Int32} {mm : Nat → Nat → Int32} {mc : Nat} {sv : Nat → LVt} {u_n : Nat} {u_b : Nat → Int32} {S : ST} (hLI : LI S (n, z, mm) mc sv u_n u_b) {H : Heap} {locs : List Loc} {ls : Array Slot} (hJ : JJ E S H locs) (hl : lv_has ls 7 [(0, .ref b), (1, .ref (gA E 83)), (2, .ref (gA E 84)), (3, .ref (gA E 89)), (4, .int (nI (4 * t)))]) (hk : LK p l e s m b below meth c E (t + 1)) : W p l e room_1 s m #[Value.ref b] below meth c H locs (90 + 2 * t) (1368 + 12 * t) (lw_Z below #[Value.ref b] s) (F0 m 1347 ls []) := by
  have hE := C.env
  have hx := C.x
  have hb := C.b
  obtain ⟨hXI, hMI, hG, hGs, hN, ⟨u_p, u_f, u_c, u_g, hTX⟩, u_p2, u_k2, u_g2, hTM⟩ := id hLI
  have hn : n ≤ 10 := hG.1
  have hV : VOk n mm := hG.2
  have hm4 := hMI.2.2.1
  obtain ⟨p0, hp0⟩ : ∃ y, y = xs (4 * t + 1) := ⟨_, rfl⟩
  refine lv_aload_n hx hb dL_law_1347 rfl (lv_at hl 1 rfl) ?_
  refine lv_aload_n hx hb dL_law_1348 rfl (lv_at hl 0 rfl) ?_
  refine lv_iload hx hb dL_law_1349 (lv_at hl 4 rfl) ?_
  refine lv_iconst (v := 1) hx hb dL_law_1351 (by decide) ?_
  refine lv_iadd hx hb dL_law_1352 ?_
  refine i_scv C hgs hsc hbl hL hJ (v := p0) (nI_add (4 * t) 1) (by omega) hp0.symm dL_law_1353 ?_
  refine lv_aload_n hx hb dL_law_1354 rfl (lv_at hl 3 rfl) ?_
  refine k_H hJ (r_XSW (rest := []) (n := 3) C hJ (cl_type hE hX2 hXI hTX hN p0 h3) km_L_164 kt_L_type k0_L kc_L_type ⟨by decide, by decide, by decide +kernel⟩ rfl dL_law_1355 hl.1 ⟨Nat.le_of_ble_eq_true rfl, Nat.le_of_ble_eq_true rfl⟩ ⟨by show 90 + 2 * t + 2 ≤ 601024; omega, by show 1368 + 12 * t + 12 ≤ 7293034; omega⟩ (Nat.le_of_ble_eq_true rfl) rfl) (fun vr S_1 H locs hP hJ => ?_)
  obtain ⟨rfl, hW⟩ := hP
  obtain ⟨k0, hk0⟩ : ∃ y, y = m_j (if f_in p0 0 127 = true then (if u_n < 150 then (0 : Int32) else 3) else 2) := ⟨_, rfl⟩
  rw [← hk0]
  refine lv_istore (lv' := [(5, .int k0), (0, .ref b), (1, .ref (gA E 83)), (2, .ref (gA E 84)), (3, .ref (gA E 89)), (4, .int (nI (4 * t)))]) hx hb dL_law_1358 hl (by decide) rfl (fun ls hl => ?_)
  rcases hW with ⟨hF0, S_0, hR0, hS1⟩ | ⟨hF0, hS1⟩
  · skip
    obtain ⟨h150, hT0, hRT⟩ := hR0
    have e1 : sM S_1 = sM S := by rw [hS1]; exact congrArg (fun q => q.1) hRT.2.2
    have hM1 := hMI.e e1
    have hTM1 := hTM.e e1
    refine lv_aload_n hx hb dL_law_1360 rfl (lv_at hl 3 rfl) ?_
    refine lv_aload_n hx hb dL_law_1361 rfl (lv_at hl 1 rfl) ?_
    refine lv_iload hx hb dL_law_1362 (lv_at hl 5 rfl) ?_
    refine lv_iconst (v := 1) hx hb dL_law_1364 (by decide) ?_
    refine lv_iadd hx hb dL_law_1365 ?_
    refine i_scv C hgs hsc hbl hL hJ (v := p0) (nI_add (4 * t) 1) (by omega) hp0.symm dL_law_1366 ?_
    refine cw_L_166 C hJ (rest := []) (c_X7_type hE hM1 p0 hTM1 hN) dL_law_1367 hl.1 ⟨Nat.le_of_ble_eq_true rfl, Nat.le_of_ble_eq_true rfl⟩ ⟨by show 90 + 2 * t + 2 ≤ 601024; omega, by show 1368 + 12 * t + 12 ≤ 7293034; omega⟩ (Nat.le_of_ble_eq_true rfl) rfl rfl (fun vr S_2 H locs hP hJ => ?_)
    obtain ⟨x2, rfl, ht2, hM2, hr2, hok, hno⟩ := hP
    have eF : (sM S_2).1 2 = k0 := by rw [ht2, hk0]; exact ty_c p0 hN
    have hk00 : k0 = 0 := by rw [hk0, hF0]; rfl
    obtain ⟨hx2, hT2⟩ := hok (by rw [← ht2, eF, hk00])
    refine lv_istore (lv' := [(6, .int x2), (5, .int k0), (0, .ref b), (1, .ref (gA E 83)), (2, .ref (gA E 84)), (3, .ref (gA E 89)), (4, .int (nI (4 * t)))]) hx hb dL_law_1370 hl (by decide) rfl (fun ls hl => ?_)
    refine lv_aload_n hx hb dL_law_1372 rfl (lv_at hl 4 rfl) ?_
    refine cr_L_92 C hJ (rest := []) (c_X7_thrown hE) dL_law_1373 hl.1 ⟨Nat.le_of_ble_eq_true rfl, Nat.le_of_ble_eq_true rfl⟩ ⟨by show 90 + 2 * t + 2 ≤ 601024; omega, by show 1368 + 12 * t + 12 ≤ 7293034; omega⟩ (Nat.le_of_ble_eq_true rfl) rfl rfl ?_
    refine lv_iload hx hb dL_law_1376 (lv_at hl 1 rfl) ?_
    refine lv_icmp_eq (tgt := 1383) hx hb dL_law_1378 (by decide) (fun _ => ?_) (fun c_9 => absurd eF c_9)
    refine lv_iload hx hb dL_law_1383 (lv_at hl 1 rfl) ?_
    refine lv_if_ne (tgt := 1400) hx hb dL_law_1385 (by decide) (fun c_9 => absurd hk00 c_9) (fun _ => ?_)
    refine lv_aload_n hx hb dL_law_1388 rfl (lv_at hl 5 rfl) ?_
    refine lv_iconst (v := 0) hx hb dL_law_1389 (by decide) ?_
    refine a_ou C hJ dL_law_1390 ?_
    refine lv_iload hx hb dL_law_1391 (lv_at hl 0 rfl) ?_
    refine lv_i2l (v := x2.toInt64) hx hb dL_law_1393 rfl ?_
    refine W.lcmp hx hb dL_law_1394 ?_
    have heq : sO S_2 0 = x2.toInt64 := by rw [hr2.2.2.2.2.2, hS1, setO_0, hx2]
    refine lv_if_eq (tgt := 1400) hx hb dL_law_1395 (by decide) (fun _ => ?_) (fun c_9 => absurd (cmp0.mpr heq) c_9)
    refine lv_goto (tgt := 1487) hx hb dL_law_1400 (by decide) ?_
    have h1a : S_2.1 = S.1 := hr2.1.trans (by rw [hS1]; exact hRT.1)
    have h1b : S_2.2.1 = S.2.1 := hr2.2.1.trans (by rw [hS1]; exact hRT.2.1)
    have h1c : S_2.2.2.1 = S_0.2.2.1 := hr2.2.2.1.trans (by rw [hS1]; rfl)
    refine lv_iinc (v := nI (4 * (t + 1))) (lv' := [(4, .int (nI (4 * (t + 1)))), (6, .int x2), (5, .int k0), (0, .ref b), (1, .ref (gA E 83)), (2, .ref (gA E 84)), (3, .ref (gA E 89))]) hx hb dL_law_1487 hl (k := 6) rfl (by exact nI_add (4 * t) 4) (by decide) rfl (fun ls hl => ?_)
    refine lv_goto (tgt := 23) hx hb dL_law_1490 (by decide) ?_
    refine W.widen (k := 90 + 2 * (t + 1)) (n := 1368 + 12 * (t + 1)) (by omega) (by omega) ?_
    exact hk S_2 _ _ _ _ _ H locs ls (⟨hXI.e h1a h1b, hM2, hG, hGs, h150, ⟨_, _, _, _, hT0.e h1c⟩, _, _, _, hT2⟩) hJ (lv_sub hl [3, 4, 5, 6, 0] rfl)
  · skip
    rw [hS1] at hJ
    have hM1 := hMI
    have hTM1 := hTM
    refine lv_aload_n hx hb dL_law_1360 rfl (lv_at hl 3 rfl) ?_
    refine lv_aload_n hx hb dL_law_1361 rfl (lv_at hl 1 rfl) ?_
    refine lv_iload hx hb dL_law_1362 (lv_at hl 5 rfl) ?_
    refine lv_iconst (v := 1) hx hb dL_law_1364 (by decide) ?_
    refine lv_iadd hx hb dL_law_1365 ?_
    refine i_scv C hgs hsc hbl hL hJ (v := p0) (nI_add (4 * t) 1) (by omega) hp0.symm dL_law_1366 ?_
    refine cw_L_166 C hJ (rest := []) (c_X7_type hE hM1 p0 hTM1 hN) dL_law_1367 hl.1 ⟨Nat.le_of_ble_eq_true rfl, Nat.le_of_ble_eq_true rfl⟩ ⟨by show 90 + 2 * t + 2 ≤ 601024; omega, by show 1368 + 12 * t + 12 ≤ 7293034; omega⟩ (Nat.le_of_ble_eq_true rfl) rfl rfl (fun vr S_2 H locs hP hJ => ?_)
    obtain ⟨x2, rfl, ht2, hM2, hr2, hok, hno⟩ := hP
    have eF : (sM S_2).1 2 = k0 := by rw [ht2, hk0]; exact ty_c p0 hN
    have hk00 : ¬ k0 = 0 := fun y => hF0 (by rw [hk0] at y; exact ty_j y)
    have hT2 := hno (fun y => hk00 (by rw [← eF, ht2, y]))
    refine lv_istore (lv' := [(6, .int x2), (5, .int k0), (0, .ref b), (1, .ref (gA E 83)), (2, .ref (gA E 84)), (3, .ref (gA E 89)), (4, .int (nI (4 * t)))]) hx hb dL_law_1370 hl (by decide) rfl (fun ls hl => ?_)
    refine lv_aload_n hx hb dL_law_1372 rfl (lv_at hl 4 rfl) ?_
    refine cr_L_92 C hJ (rest := []) (c_X7_thrown hE) dL_law_1373 hl.1 ⟨Nat.le_of_ble_eq_true rfl, Nat.le_of_ble_eq_true rfl⟩ ⟨by show 90 + 2 * t + 2 ≤ 601024; omega, by show 1368 + 12 * t + 12 ≤ 7293034; omega⟩ (Nat.le_of_ble_eq_true rfl) rfl rfl ?_
    refine lv_iload hx hb dL_law_1376 (lv_at hl 1 rfl) ?_
    refine lv_icmp_eq (tgt := 1383) hx hb dL_law_1378 (by decide) (fun _ => ?_) (fun c_9 => absurd eF c_9)
    refine lv_iload hx hb dL_law_1383 (lv_at hl 1 rfl) ?_
    refine lv_if_ne (tgt := 1400) hx hb dL_law_1385 (by decide) (fun _ => ?_) (fun c_9 => absurd c_9 hk00)
    refine lv_goto (tgt := 1487) hx hb dL_law_1400 (by decide) ?_
    refine lv_iinc (v := nI (4 * (t + 1))) (lv' := [(4, .int (nI (4 * (t + 1)))), (6, .int x2), (5, .int k0), (0, .ref b), (1, .ref (gA E 83)), (2, .ref (gA E 84)), (3, .ref (gA E 89))]) hx hb dL_law_1487 hl (k := 6) rfl (by exact nI_add (4 * t) 4) (by decide) rfl (fun ls hl => ?_)
    refine lv_goto (tgt := 23) hx hb dL_law_1490 (by decide) ?_
    refine W.widen (k := 90 + 2 * (t + 1)) (n := 1368 + 12 * (t + 1)) (by omega) (by omega) ?_
    exact hk S_2 _ _ _ _ _ H locs ls (hLI.go (hXI.e hr2.1 hr2.2.1) hM2 hG hGs hr2.2.2.1 ⟨_, _, _, hT2⟩) hJ (lv_sub hl [3, 4, 5, 6, 0] rfl)
set_option maxHeartbeats 4000000 in
set_option maxRecDepth 100000 in
theorem lc_23 {p : Program} {l : Launch} {e : Env} {s : State} {m : MethodId} {below : List Frame} {meth : Method} {c : Code} {b L : Nat} {xs : Nat → Int32} {E : GE} {X : EX} {u_x : Nat × Nat × Nat} (C : Cx E p s m meth c cL_law RL 7) (hX : Env1 E X) (hX2 : Env2 l E u_x) (h3 : Env3 E) (hgs : gS E = s) (hsc : va_X b L xs s s.heap) (hbl : b < s.heap.size) (hL : L ≤ 2048) {t : Nat} (ht : 4 * t + 4 ≤ L) {n : Nat} {z : Nat → Int32} {mm : Nat → Nat → Int32} {mc : Nat} {sv : Nat → LVt} {u_n : Nat} {u_b : Nat → Int32} {S : ST} (hLI : LI S (n, z, mm) mc sv u_n u_b) {H : Heap} {locs : List Loc} {ls : Array Slot} (hJ : JJ E S H locs) (hl : lv_has ls 7 [(0, .ref b), (1, .ref (gA E 83)), (2, .ref (gA E 84)), (3, .ref (gA E 89)), (4, .int (nI (4 * t)))]) (hk : LK p l e s m b below meth c E (t + 1)) : W p l e room_1 s m #[Value.ref b] below meth c H locs (90 + 2 * t) (1368 + 12 * t) (lw_Z below #[Value.ref b] s) (F0 m 1403 ls []) := by
  have hE := C.env
  have hx := C.x
  have hb := C.b
  obtain ⟨hXI, hMI, hG, hGs, hN, ⟨u_p, u_f, u_c, u_g, hTX⟩, u_p2, u_k2, u_g2, hTM⟩ := id hLI
  have hn : n ≤ 10 := hG.1
  have hV : VOk n mm := hG.2
  have hm4 := hMI.2.2.1
  refine lv_aload_n hx hb dL_law_1403 rfl (lv_at hl 1 rfl) ?_
  refine cw_L_167 C hJ (rest := []) (c_X6_clearCommands hE hTX) dL_law_1404 hl.1 ⟨Nat.le_of_ble_eq_true rfl, Nat.le_of_ble_eq_true rfl⟩ ⟨by show 90 + 2 * t ≤ 601024; omega, by show 1368 + 12 * t ≤ 7293034; omega⟩ (Nat.le_of_ble_eq_true rfl) rfl rfl (fun vr S_1 H locs hP hJ => ?_)
  obtain ⟨rfl, hT1, hRT⟩ := hP
  have e1 : sM S_1 = sM S := congrArg (fun q => q.1) hRT.2.2
  have hM1 := hMI.e e1
  have hTM1 := hTM.e e1
  refine lv_aload_n hx hb dL_law_1407 rfl (lv_at hl 2 rfl) ?_
  refine cw_L_170 C hJ (rest := [.int (nI u_n)]) (c_X7_clearCommands hE hM1 hTM1) dL_law_1408 hl.1 ⟨Nat.le_of_ble_eq_true rfl, Nat.le_of_ble_eq_true rfl⟩ ⟨by show 90 + 2 * t ≤ 601024; omega, by show 1368 + 12 * t ≤ 7293034; omega⟩ (Nat.le_of_ble_eq_true rfl) rfl rfl (fun vr S_2 H locs hP hJ => ?_)
  obtain ⟨rfl, hM2, hr2, hT2⟩ := hP
  refine lv_icmp_eq (tgt := 1487) hx hb dL_law_1411 (by decide) (fun _ => ?_) (fun c_9 => absurd (rfl) c_9)
  refine lv_iinc (v := nI (4 * (t + 1))) (lv' := [(4, .int (nI (4 * (t + 1)))), (0, .ref b), (1, .ref (gA E 83)), (2, .ref (gA E 84)), (3, .ref (gA E 89))]) hx hb dL_law_1487 hl (k := 4) rfl (by exact nI_add (4 * t) 4) (by decide) rfl (fun ls hl => ?_)
  refine lv_goto (tgt := 23) hx hb dL_law_1490 (by decide) ?_
  refine W.widen (k := 90 + 2 * (t + 1)) (n := 1368 + 12 * (t + 1)) (by omega) (by omega) ?_
  exact hk S_2 _ _ _ _ _ H locs ls (⟨hXI.e (hr2.1.trans hRT.1) (hr2.2.1.trans hRT.2.1), hM2, hG, hGs, Nat.zero_le _, ⟨_, _, _, _, hT1.e hr2.2.2.1⟩, _, _, _, hT2⟩) hJ (lv_sub hl [1, 2, 3, 4, 0] rfl)
set_option maxHeartbeats 4000000 in
set_option maxRecDepth 100000 in
theorem lc_24 {p : Program} {l : Launch} {e : Env} {s : State} {m : MethodId} {below : List Frame} {meth : Method} {c : Code} {b L : Nat} {xs : Nat → Int32} {E : GE} {X : EX} {u_x : Nat × Nat × Nat} (C : Cx E p s m meth c cL_law RL 7) (hX : Env1 E X) (hX2 : Env2 l E u_x) (h3 : Env3 E) (hgs : gS E = s) (hsc : va_X b L xs s s.heap) (hbl : b < s.heap.size) (hL : L ≤ 2048) {t : Nat} (ht : 4 * t + 4 ≤ L) {n : Nat} {z : Nat → Int32} {mm : Nat → Nat → Int32} {mc : Nat} {sv : Nat → LVt} {u_n : Nat} {u_b : Nat → Int32} {S : ST} (hLI : LI S (n, z, mm) mc sv u_n u_b) {H : Heap} {locs : List Loc} {ls : Array Slot} (hJ : JJ E S H locs) (hl : lv_has ls 7 [(0, .ref b), (1, .ref (gA E 83)), (2, .ref (gA E 84)), (3, .ref (gA E 89)), (4, .int (nI (4 * t)))]) (hk : LK p l e s m b below meth c E (t + 1)) : W p l e room_1 s m #[Value.ref b] below meth c H locs (90 + 2 * t) (1368 + 12 * t) (lw_Z below #[Value.ref b] s) (F0 m 1416 ls []) := by
  have hE := C.env
  have hx := C.x
  have hb := C.b
  obtain ⟨hXI, hMI, hG, hGs, hN, ⟨u_p, u_f, u_c, u_g, hTX⟩, u_p2, u_k2, u_g2, hTM⟩ := id hLI
  have hn : n ≤ 10 := hG.1
  have hV : VOk n mm := hG.2
  have hm4 := hMI.2.2.1
  refine lv_aload_n hx hb dL_law_1416 rfl (lv_at hl 1 rfl) ?_
  refine cw_L_171 C hJ (rest := []) (c_X6_runCommands hE hX hXI hTX hN 1000 rfl) dL_law_1417 hl.1 ⟨Nat.le_of_ble_eq_true rfl, Nat.le_of_ble_eq_true rfl⟩ ⟨by show 90 + 2 * t ≤ 601024; omega, by show 1368 + 12 * t ≤ 7293034; omega⟩ (Nat.le_of_ble_eq_true rfl) rfl rfl (fun vr S_1 H locs hP hJ => ?_)
  obtain ⟨u_h, rfl, hXc, ⟨u_p1, u_f1, u_c1, u_g1, hTc⟩, e3⟩ := hP
  have e1 : sM S_1 = sM S := congrArg (fun q => q.1) e3
  have hM1 := hMI.e e1
  have hTM1 := hTM.e e1
  refine lv_aload_n hx hb dL_law_1420 rfl (lv_at hl 2 rfl) ?_
  refine cw_L_174 C hJ (rest := [.int (if t_flt u_n u_b 150 0 u_g = -1 then nI (t_go 1000 u_n u_b 150 0 u_h (n, z, mm)).1 else -10 - t_flt u_n u_b 150 0 u_g)]) (c_X7_runCommands hE hM1 hTM1 hN hG 1000 rfl) dL_law_1421 hl.1 ⟨Nat.le_of_ble_eq_true rfl, Nat.le_of_ble_eq_true rfl⟩ ⟨by show 90 + 2 * t ≤ 601024; omega, by show 1368 + 12 * t ≤ 7293034; omega⟩ (Nat.le_of_ble_eq_true rfl) rfl rfl (fun vr S_2 H locs hP hJ => ?_)
  obtain ⟨rfl, hMc, hTm, kr⟩ := hP
  have efl : t_flt u_n u_b 150 0 u_g = t_flt u_n u_b 150 0 u_g2 := t_flt_g u_n u_b 150 0 u_g u_g2
  have ego : t_flt u_n u_b 150 0 u_g2 = -1 → t_go 1000 u_n u_b 150 0 u_h (n, z, mm) = t_go 1000 u_n u_b 150 0 u_g2 (n, z, mm) := fun q => t_go_g hN 150 0 u_h u_g2 _ (Nat.zero_le _) ((t_flt_g u_n u_b 150 0 u_h u_g2).trans q)
  have hv : (if t_flt u_n u_b 150 0 u_g = -1 then nI (t_go 1000 u_n u_b 150 0 u_h (n, z, mm)).1 else -10 - t_flt u_n u_b 150 0 u_g) = (if t_flt u_n u_b 150 0 u_g2 = -1 then nI (t_go 1000 u_n u_b 150 0 u_g2 (n, z, mm)).1 else -10 - t_flt u_n u_b 150 0 u_g2) := by
    rw [efl]
    by_cases q : t_flt u_n u_b 150 0 u_g2 = -1
    · rw [if_pos q, if_pos q, ego q]
    · rw [if_neg q, if_neg q]
  refine lv_icmp_eq (tgt := 1487) hx hb dL_law_1424 (by decide) (fun _ => ?_) (fun c_9 => absurd (hv) c_9)
  rw [efl] at hXc
  have hLI2 : ∃ cw u_m sw, LI S_2 cw u_m sw u_n u_b := by
    by_cases q : t_flt u_n u_b 150 0 u_g2 = -1
    · rw [if_pos q, ego q] at hXc
      rw [if_pos q] at hMc
      exact ⟨_, _, _, hXc.e kr.1 kr.2.1, hMc.1, hMc.2, hLI.push, hN, ⟨_, _, _, _, hTc.e kr.2.2.1⟩, hTm⟩
    · rw [if_neg q] at hXc hMc
      exact ⟨_, _, _, hXc.e kr.1 kr.2.1, hMc, hG, hGs, hN, ⟨_, _, _, _, hTc.e kr.2.2.1⟩, hTm⟩
  obtain ⟨cw, u_m, sw, hLI2⟩ := hLI2
  refine lv_iinc (v := nI (4 * (t + 1))) (lv' := [(4, .int (nI (4 * (t + 1)))), (0, .ref b), (1, .ref (gA E 83)), (2, .ref (gA E 84)), (3, .ref (gA E 89))]) hx hb dL_law_1487 hl (k := 4) rfl (by exact nI_add (4 * t) 4) (by decide) rfl (fun ls hl => ?_)
  refine lv_goto (tgt := 23) hx hb dL_law_1490 (by decide) ?_
  refine W.widen (k := 90 + 2 * (t + 1)) (n := 1368 + 12 * (t + 1)) (by omega) (by omega) ?_
  exact hk S_2 _ _ _ _ _ H locs ls (hLI2) hJ (lv_sub hl [1, 2, 3, 4, 0] rfl)
set_option maxHeartbeats 4000000 in
set_option maxRecDepth 100000 in
theorem lc_26 {p : Program} {l : Launch} {e : Env} {s : State} {m : MethodId} {below : List Frame} {meth : Method} {c : Code} {b L : Nat} {xs : Nat → Int32} {E : GE} {X : EX} {u_x : Nat × Nat × Nat} (C : Cx E p s m meth c cL_law RL 7) (hX : Env1 E X) (hX2 : Env2 l E u_x) (h3 : Env3 E) (hgs : gS E = s) (hsc : va_X b L xs s s.heap) (hbl : b < s.heap.size) (hL : L ≤ 2048) {t : Nat} (ht : 4 * t + 4 ≤ L) {n : Nat} {z : Nat → Int32} {mm : Nat → Nat → Int32} {mc : Nat} {sv : Nat → LVt} {u_n : Nat} {u_b : Nat → Int32} {S : ST} (hLI : LI S (n, z, mm) mc sv u_n u_b) {H : Heap} {locs : List Loc} {ls : Array Slot} (hJ : JJ E S H locs) (hl : lv_has ls 7 [(0, .ref b), (1, .ref (gA E 83)), (2, .ref (gA E 84)), (3, .ref (gA E 89)), (4, .int (nI (4 * t)))]) (hk : LK p l e s m b below meth c E (t + 1)) : W p l e room_1 s m #[Value.ref b] below meth c H locs (90 + 2 * t) (1368 + 12 * t) (lw_Z below #[Value.ref b] s) (F0 m 1473 ls []) := by
  have hE := C.env
  have hx := C.x
  have hb := C.b
  obtain ⟨hXI, hMI, hG, hGs, hN, ⟨u_p, u_f, u_c, u_g, hTX⟩, u_p2, u_k2, u_g2, hTM⟩ := id hLI
  have hn : n ≤ 10 := hG.1
  have hV : VOk n mm := hG.2
  have hm4 := hMI.2.2.1
  refine lv_aload_n hx hb dL_law_1473 rfl (lv_at hl 1 rfl) ?_
  refine cr_L_178 C hJ (rest := []) (c_X6_digest hE hXI.1 hTX.1 hXI.2.1.2.1) dL_law_1474 hl.1 ⟨Nat.le_of_ble_eq_true rfl, Nat.le_of_ble_eq_true rfl⟩ ⟨by show 90 + 2 * t ≤ 601024; omega, by show 1368 + 12 * t ≤ 7293034; omega⟩ (Nat.le_of_ble_eq_true rfl) rfl rfl ?_
  refine lv_aload_n hx hb dL_law_1477 rfl (lv_at hl 2 rfl) ?_
  refine cw_L_182 C hJ (rest := [.long (f_dig n z mm u_n mc)]) (c_X7_digest hE hMI hV hTM.1) dL_law_1478 hl.1 ⟨Nat.le_of_ble_eq_true rfl, Nat.le_of_ble_eq_true rfl⟩ ⟨by show 90 + 2 * t ≤ 601024; omega, by show 1368 + 12 * t ≤ 7293034; omega⟩ (Nat.le_of_ble_eq_true rfl) rfl rfl (fun vr S_2 H locs hP hJ => ?_)
  obtain ⟨rfl, hM2, hK2, _⟩ := hP
  refine W.lcmp hx hb dL_law_1481 ?_
  refine lv_if_eq (tgt := 1487) hx hb dL_law_1482 (by decide) (fun _ => ?_) (fun c_9 => absurd (cmp0.mpr rfl) c_9)
  refine lv_iinc (v := nI (4 * (t + 1))) (lv' := [(4, .int (nI (4 * (t + 1)))), (0, .ref b), (1, .ref (gA E 83)), (2, .ref (gA E 84)), (3, .ref (gA E 89))]) hx hb dL_law_1487 hl (k := 4) rfl (by exact nI_add (4 * t) 4) (by decide) rfl (fun ls hl => ?_)
  refine lv_goto (tgt := 23) hx hb dL_law_1490 (by decide) ?_
  refine W.widen (k := 90 + 2 * (t + 1)) (n := 1368 + 12 * (t + 1)) (by omega) (by omega) ?_
  exact hk S_2 _ _ _ _ _ H locs ls (hLI.no hK2 hM2) hJ (lv_sub hl [1, 2, 3, 4, 0] rfl)
