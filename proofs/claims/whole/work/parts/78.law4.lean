/-! LAW: its cases 2 (by program) -/
set_option maxHeartbeats 4000000 in
set_option maxRecDepth 100000 in
theorem lc_7 {p : Program} {l : Launch} {e : Env} {s : State} {m : MethodId} {below : List Frame} {meth : Method} {c : Code} {b L : Nat} {xs : Nat → Int32} {E : GE} {X : EX} {u_x : Nat × Nat × Nat} (C : Cx E p s m meth c cL_law RL 7) (hX : Env1 E X) (hX2 : Env2 l E u_x) (h3 : Env3 E) (hgs : gS E = s) (hsc : va_X b L xs s s.heap) (hbl : b < s.heap.size) (hL : L ≤ 2048) {t : Nat} (ht : 4 * t + 4 ≤ L) {n : Nat} {z : Nat → Int32} {mm : Nat → Nat → Int32} {mc : Nat} {sv : Nat → LVt} {u_n : Nat} {u_b : Nat → Int32} {S : ST} (hLI : LI S (n, z, mm) mc sv u_n u_b) {H : Heap} {locs : List Loc} {ls : Array Slot} (hJ : JJ E S H locs) (hl : lv_has ls 7 [(0, .ref b), (1, .ref (gA E 83)), (2, .ref (gA E 84)), (3, .ref (gA E 89)), (4, .int (nI (4 * t)))]) (hk : LK p l e s m b below meth c E (t + 1)) : W p l e room_1 s m #[Value.ref b] below meth c H locs (90 + 2 * t) (1368 + 12 * t) (lw_Z below #[Value.ref b] s) (F0 m 600 ls []) := by
  have hE := C.env
  have hx := C.x
  have hb := C.b
  obtain ⟨hXI, hMI, hG, hGs, hN, ⟨u_p, u_f, u_c, u_g, hTX⟩, u_p2, u_k2, u_g2, hTM⟩ := id hLI
  have hn : n ≤ 10 := hG.1
  have hV : VOk n mm := hG.2
  have hm4 := hMI.2.2.1
  obtain ⟨p0, hp0⟩ : ∃ y, y = xs (4 * t + 1) := ⟨_, rfl⟩
  refine lv_aload_n hx hb dL_law_600 rfl (lv_at hl 1 rfl) ?_
  refine lv_aload_n hx hb dL_law_601 rfl (lv_at hl 0 rfl) ?_
  refine lv_iload hx hb dL_law_602 (lv_at hl 4 rfl) ?_
  refine lv_iconst (v := 1) hx hb dL_law_604 (by decide) ?_
  refine lv_iadd hx hb dL_law_605 ?_
  refine i_scv C hgs hsc hbl hL hJ (v := p0) (nI_add (4 * t) 1) (by omega) hp0.symm dL_law_606 ?_
  refine lv_aload_n hx hb dL_law_607 rfl (lv_at hl 3 rfl) ?_
  refine k_H hJ (r_XSW (rest := []) (n := 3) C hJ (cl_take hE hX hX2 hXI p0 1000 rfl h3) km_L_116 kt_L_take k0_L kc_L_take ⟨by decide, by decide, by decide +kernel⟩ rfl dL_law_608 hl.1 ⟨Nat.le_of_ble_eq_true rfl, Nat.le_of_ble_eq_true rfl⟩ ⟨by show 90 + 2 * t + 1 ≤ 601024; omega, by show 1368 + 12 * t + 6 ≤ 7293034; omega⟩ (Nat.le_of_ble_eq_true rfl) rfl) (fun vr S_1 H locs hP hJ => ?_)
  obtain ⟨rfl, hW⟩ := hP
  obtain ⟨k0, hk0⟩ : ∃ y, y = m_t (f_ft (gof n mm) n 5 p0 0 0) := ⟨_, rfl⟩
  rw [← hk0]
  refine lv_istore (lv' := [(5, .int k0), (0, .ref b), (1, .ref (gA E 83)), (2, .ref (gA E 84)), (3, .ref (gA E 89)), (4, .int (nI (4 * t)))]) hx hb dL_law_611 hl (by decide) rfl (fun ls hl => ?_)
  rcases hW with ⟨hF0, S_0, hR0, hS1⟩ | ⟨hF0, hS1⟩
  · skip
    obtain ⟨hX0, e0⟩ := hR0
    have hM1 : MI S_1 (n, z, mm) mc sv := hLI.m1 e0 hS1
    have hLm : (sM S_1).1 4 = nI u_n := by rw [hS1]; exact (congrArg (fun q => q.2.1.1 4) e0).trans hTM.1
    refine lv_aload_n hx hb dL_law_613 rfl (lv_at hl 3 rfl) ?_
    refine lv_aload_n hx hb dL_law_614 rfl (lv_at hl 1 rfl) ?_
    refine lv_iload hx hb dL_law_615 (lv_at hl 5 rfl) ?_
    refine lv_iconst (v := 1) hx hb dL_law_617 (by decide) ?_
    refine lv_iadd hx hb dL_law_618 ?_
    refine i_scv C hgs hsc hbl hL hJ (v := p0) (nI_add (4 * t) 1) (by omega) hp0.symm dL_law_619 ?_
    refine cw_L_118 C hJ (rest := []) (c_X7_take hE hM1 p0 1000) dL_law_620 hl.1 ⟨Nat.le_of_ble_eq_true rfl, Nat.le_of_ble_eq_true rfl⟩ ⟨by show 90 + 2 * t + 1 ≤ 601024; omega, by show 1368 + 12 * t + 6 ≤ 7293034; omega⟩ (Nat.le_of_ble_eq_true rfl) rfl rfl (fun vr S_2 H locs hP hJ => ?_)
    obtain ⟨x2, rfl, ht2, hK2, hok, hno⟩ := hP
    have eF : (sM S_2).1 2 = k0 := by rw [ht2, hk0]; try rfl
    have hk00 : k0 = 0 := by rw [hk0, hF0]; rfl
    obtain ⟨hx2, hM2⟩ := hok (by rw [← ht2, eF, hk00])
    subst hx2
    refine lv_istore (lv' := [(6, .int ((f_co 1000 n z mm 5 p0 0 0).1)), (5, .int k0), (0, .ref b), (1, .ref (gA E 83)), (2, .ref (gA E 84)), (3, .ref (gA E 89)), (4, .int (nI (4 * t)))]) hx hb dL_law_623 hl (by decide) rfl (fun ls hl => ?_)
    refine lv_aload_n hx hb dL_law_625 rfl (lv_at hl 4 rfl) ?_
    refine cr_L_92 C hJ (rest := []) (c_X7_thrown hE) dL_law_626 hl.1 ⟨Nat.le_of_ble_eq_true rfl, Nat.le_of_ble_eq_true rfl⟩ ⟨by show 90 + 2 * t + 1 ≤ 601024; omega, by show 1368 + 12 * t + 6 ≤ 7293034; omega⟩ (Nat.le_of_ble_eq_true rfl) rfl rfl ?_
    refine lv_iload hx hb dL_law_629 (lv_at hl 1 rfl) ?_
    refine lv_icmp_eq (tgt := 636) hx hb dL_law_631 (by decide) (fun _ => ?_) (fun c_9 => absurd eF c_9)
    refine lv_iload hx hb dL_law_636 (lv_at hl 1 rfl) ?_
    refine lv_if_ne (tgt := 653) hx hb dL_law_638 (by decide) (fun c_9 => absurd hk00 c_9) (fun _ => ?_)
    refine lv_aload_n hx hb dL_law_641 rfl (lv_at hl 5 rfl) ?_
    refine lv_iconst (v := 0) hx hb dL_law_642 (by decide) ?_
    refine a_ou C hJ dL_law_643 ?_
    refine lv_iload hx hb dL_law_644 (lv_at hl 0 rfl) ?_
    refine lv_i2l (v := ((f_co 1000 n z mm 5 p0 0 0).1).toInt64) hx hb dL_law_646 rfl ?_
    refine W.lcmp hx hb dL_law_647 ?_
    have heq : sO S_2 0 = ((f_co 1000 n z mm 5 p0 0 0).1).toInt64 := by rw [hK2.2.2.2.2.2.2, hS1, setO_0]
    refine lv_if_eq (tgt := 653) hx hb dL_law_648 (by decide) (fun _ => ?_) (fun c_9 => absurd (cmp0.mpr heq) c_9)
    refine lv_goto (tgt := 1487) hx hb dL_law_653 (by decide) ?_
    refine lv_iinc (v := nI (4 * (t + 1))) (lv' := [(4, .int (nI (4 * (t + 1)))), (6, .int ((f_co 1000 n z mm 5 p0 0 0).1)), (5, .int k0), (0, .ref b), (1, .ref (gA E 83)), (2, .ref (gA E 84)), (3, .ref (gA E 89))]) hx hb dL_law_1487 hl (k := 6) rfl (by exact nI_add (4 * t) 4) (by decide) rfl (fun ls hl => ?_)
    refine lv_goto (tgt := 23) hx hb dL_law_1490 (by decide) ?_
    refine W.widen (k := 90 + 2 * (t + 1)) (n := 1368 + 12 * (t + 1)) (by omega) (by omega) ?_
    exact hk S_2 _ _ _ _ _ H locs ls (hLI.ok hX0 e0 hS1 hK2 hM2 (GOk.co (fu := 1000) hG (u_j := 5) (by decide) hF0) hLI.push) hJ (lv_sub hl [3, 4, 5, 6, 0] rfl)
  · skip
    rw [hS1] at hJ
    have hM1 := hMI
    have hLm := hTM.1
    refine lv_aload_n hx hb dL_law_613 rfl (lv_at hl 3 rfl) ?_
    refine lv_aload_n hx hb dL_law_614 rfl (lv_at hl 1 rfl) ?_
    refine lv_iload hx hb dL_law_615 (lv_at hl 5 rfl) ?_
    refine lv_iconst (v := 1) hx hb dL_law_617 (by decide) ?_
    refine lv_iadd hx hb dL_law_618 ?_
    refine i_scv C hgs hsc hbl hL hJ (v := p0) (nI_add (4 * t) 1) (by omega) hp0.symm dL_law_619 ?_
    refine cw_L_118 C hJ (rest := []) (c_X7_take hE hM1 p0 1000) dL_law_620 hl.1 ⟨Nat.le_of_ble_eq_true rfl, Nat.le_of_ble_eq_true rfl⟩ ⟨by show 90 + 2 * t + 1 ≤ 601024; omega, by show 1368 + 12 * t + 6 ≤ 7293034; omega⟩ (Nat.le_of_ble_eq_true rfl) rfl rfl (fun vr S_2 H locs hP hJ => ?_)
    obtain ⟨x2, rfl, ht2, hK2, hok, hno⟩ := hP
    have eF : (sM S_2).1 2 = k0 := by rw [ht2, hk0]; try rfl
    have hk00 : ¬ k0 = 0 := fun y => hF0 (by rw [hk0] at y; exact mt0.mp y)
    have hM2 := hno (fun y => hk00 (by rw [← eF, ht2, y]))
    refine lv_istore (lv' := [(6, .int (x2)), (5, .int k0), (0, .ref b), (1, .ref (gA E 83)), (2, .ref (gA E 84)), (3, .ref (gA E 89)), (4, .int (nI (4 * t)))]) hx hb dL_law_623 hl (by decide) rfl (fun ls hl => ?_)
    refine lv_aload_n hx hb dL_law_625 rfl (lv_at hl 4 rfl) ?_
    refine cr_L_92 C hJ (rest := []) (c_X7_thrown hE) dL_law_626 hl.1 ⟨Nat.le_of_ble_eq_true rfl, Nat.le_of_ble_eq_true rfl⟩ ⟨by show 90 + 2 * t + 1 ≤ 601024; omega, by show 1368 + 12 * t + 6 ≤ 7293034; omega⟩ (Nat.le_of_ble_eq_true rfl) rfl rfl ?_
    refine lv_iload hx hb dL_law_629 (lv_at hl 1 rfl) ?_
    refine lv_icmp_eq (tgt := 636) hx hb dL_law_631 (by decide) (fun _ => ?_) (fun c_9 => absurd eF c_9)
    refine lv_iload hx hb dL_law_636 (lv_at hl 1 rfl) ?_
    refine lv_if_ne (tgt := 653) hx hb dL_law_638 (by decide) (fun _ => ?_) (fun c_9 => absurd c_9 hk00)
    refine lv_goto (tgt := 1487) hx hb dL_law_653 (by decide) ?_
    refine lv_iinc (v := nI (4 * (t + 1))) (lv' := [(4, .int (nI (4 * (t + 1)))), (6, .int (x2)), (5, .int k0), (0, .ref b), (1, .ref (gA E 83)), (2, .ref (gA E 84)), (3, .ref (gA E 89))]) hx hb dL_law_1487 hl (k := 6) rfl (by exact nI_add (4 * t) 4) (by decide) rfl (fun ls hl => ?_)
    refine lv_goto (tgt := 23) hx hb dL_law_1490 (by decide) ?_
    refine W.widen (k := 90 + 2 * (t + 1)) (n := 1368 + 12 * (t + 1)) (by omega) (by omega) ?_
    exact hk S_2 _ _ _ _ _ H locs ls (hLI.no hK2 hM2) hJ (lv_sub hl [3, 4, 5, 6, 0] rfl)
set_option maxHeartbeats 4000000 in
set_option maxRecDepth 100000 in
theorem lc_8 {p : Program} {l : Launch} {e : Env} {s : State} {m : MethodId} {below : List Frame} {meth : Method} {c : Code} {b L : Nat} {xs : Nat → Int32} {E : GE} {X : EX} {u_x : Nat × Nat × Nat} (C : Cx E p s m meth c cL_law RL 7) (hX : Env1 E X) (hX2 : Env2 l E u_x) (h3 : Env3 E) (hgs : gS E = s) (hsc : va_X b L xs s s.heap) (hbl : b < s.heap.size) (hL : L ≤ 2048) {t : Nat} (ht : 4 * t + 4 ≤ L) {n : Nat} {z : Nat → Int32} {mm : Nat → Nat → Int32} {mc : Nat} {sv : Nat → LVt} {u_n : Nat} {u_b : Nat → Int32} {S : ST} (hLI : LI S (n, z, mm) mc sv u_n u_b) {H : Heap} {locs : List Loc} {ls : Array Slot} (hJ : JJ E S H locs) (hl : lv_has ls 7 [(0, .ref b), (1, .ref (gA E 83)), (2, .ref (gA E 84)), (3, .ref (gA E 89)), (4, .int (nI (4 * t)))]) (hk : LK p l e s m b below meth c E (t + 1)) : W p l e room_1 s m #[Value.ref b] below meth c H locs (90 + 2 * t) (1368 + 12 * t) (lw_Z below #[Value.ref b] s) (F0 m 656 ls []) := by
  have hE := C.env
  have hx := C.x
  have hb := C.b
  obtain ⟨hXI, hMI, hG, hGs, hN, ⟨u_p, u_f, u_c, u_g, hTX⟩, u_p2, u_k2, u_g2, hTM⟩ := id hLI
  have hn : n ≤ 10 := hG.1
  have hV : VOk n mm := hG.2
  have hm4 := hMI.2.2.1
  obtain ⟨p0, hp0⟩ : ∃ y, y = xs (4 * t + 1) := ⟨_, rfl⟩
  refine lv_aload_n hx hb dL_law_656 rfl (lv_at hl 1 rfl) ?_
  refine lv_aload_n hx hb dL_law_657 rfl (lv_at hl 0 rfl) ?_
  refine lv_iload hx hb dL_law_658 (lv_at hl 4 rfl) ?_
  refine lv_iconst (v := 1) hx hb dL_law_660 (by decide) ?_
  refine lv_iadd hx hb dL_law_661 ?_
  refine i_scv C hgs hsc hbl hL hJ (v := p0) (nI_add (4 * t) 1) (by omega) hp0.symm dL_law_662 ?_
  refine lv_aload_n hx hb dL_law_663 rfl (lv_at hl 3 rfl) ?_
  refine k_H hJ (r_XSW (rest := []) (n := 3) C hJ (cl_swap hE hX hX2 hXI p0 1000 rfl h3) km_L_119 kt_L_swap k0_L kc_L_swap ⟨by decide, by decide, by decide +kernel⟩ rfl dL_law_664 hl.1 ⟨Nat.le_of_ble_eq_true rfl, Nat.le_of_ble_eq_true rfl⟩ ⟨by show 90 + 2 * t + 1 ≤ 601024; omega, by show 1368 + 12 * t + 6 ≤ 7293034; omega⟩ (Nat.le_of_ble_eq_true rfl) rfl) (fun vr S_1 H locs hP hJ => ?_)
  obtain ⟨rfl, hW⟩ := hP
  obtain ⟨k0, hk0⟩ : ∃ y, y = m_t (f_ft (gof n mm) n 6 p0 0 0) := ⟨_, rfl⟩
  rw [← hk0]
  refine lv_istore (lv' := [(5, .int k0), (0, .ref b), (1, .ref (gA E 83)), (2, .ref (gA E 84)), (3, .ref (gA E 89)), (4, .int (nI (4 * t)))]) hx hb dL_law_667 hl (by decide) rfl (fun ls hl => ?_)
  rcases hW with ⟨hF0, S_0, hR0, hS1⟩ | ⟨hF0, hS1⟩
  · skip
    obtain ⟨hX0, e0⟩ := hR0
    have hM1 : MI S_1 (n, z, mm) mc sv := hLI.m1 e0 hS1
    have hLm : (sM S_1).1 4 = nI u_n := by rw [hS1]; exact (congrArg (fun q => q.2.1.1 4) e0).trans hTM.1
    refine lv_aload_n hx hb dL_law_669 rfl (lv_at hl 3 rfl) ?_
    refine lv_aload_n hx hb dL_law_670 rfl (lv_at hl 1 rfl) ?_
    refine lv_iload hx hb dL_law_671 (lv_at hl 5 rfl) ?_
    refine lv_iconst (v := 1) hx hb dL_law_673 (by decide) ?_
    refine lv_iadd hx hb dL_law_674 ?_
    refine i_scv C hgs hsc hbl hL hJ (v := p0) (nI_add (4 * t) 1) (by omega) hp0.symm dL_law_675 ?_
    refine cw_L_121 C hJ (rest := []) (c_X7_swap hE hM1 p0 1000) dL_law_676 hl.1 ⟨Nat.le_of_ble_eq_true rfl, Nat.le_of_ble_eq_true rfl⟩ ⟨by show 90 + 2 * t + 1 ≤ 601024; omega, by show 1368 + 12 * t + 6 ≤ 7293034; omega⟩ (Nat.le_of_ble_eq_true rfl) rfl rfl (fun vr S_2 H locs hP hJ => ?_)
    obtain ⟨x2, rfl, ht2, hK2, hok, hno⟩ := hP
    have eF : (sM S_2).1 2 = k0 := by rw [ht2, hk0]; try rfl
    have hk00 : k0 = 0 := by rw [hk0, hF0]; rfl
    obtain ⟨hx2, hM2⟩ := hok (by rw [← ht2, eF, hk00])
    subst hx2
    refine lv_istore (lv' := [(6, .int ((f_co 1000 n z mm 6 p0 0 0).1)), (5, .int k0), (0, .ref b), (1, .ref (gA E 83)), (2, .ref (gA E 84)), (3, .ref (gA E 89)), (4, .int (nI (4 * t)))]) hx hb dL_law_679 hl (by decide) rfl (fun ls hl => ?_)
    refine lv_aload_n hx hb dL_law_681 rfl (lv_at hl 4 rfl) ?_
    refine cr_L_92 C hJ (rest := []) (c_X7_thrown hE) dL_law_682 hl.1 ⟨Nat.le_of_ble_eq_true rfl, Nat.le_of_ble_eq_true rfl⟩ ⟨by show 90 + 2 * t + 1 ≤ 601024; omega, by show 1368 + 12 * t + 6 ≤ 7293034; omega⟩ (Nat.le_of_ble_eq_true rfl) rfl rfl ?_
    refine lv_iload hx hb dL_law_685 (lv_at hl 1 rfl) ?_
    refine lv_icmp_eq (tgt := 692) hx hb dL_law_687 (by decide) (fun _ => ?_) (fun c_9 => absurd eF c_9)
    refine lv_iload hx hb dL_law_692 (lv_at hl 1 rfl) ?_
    refine lv_if_ne (tgt := 709) hx hb dL_law_694 (by decide) (fun c_9 => absurd hk00 c_9) (fun _ => ?_)
    refine lv_aload_n hx hb dL_law_697 rfl (lv_at hl 5 rfl) ?_
    refine lv_iconst (v := 0) hx hb dL_law_698 (by decide) ?_
    refine a_ou C hJ dL_law_699 ?_
    refine lv_iload hx hb dL_law_700 (lv_at hl 0 rfl) ?_
    refine lv_i2l (v := ((f_co 1000 n z mm 6 p0 0 0).1).toInt64) hx hb dL_law_702 rfl ?_
    refine W.lcmp hx hb dL_law_703 ?_
    have heq : sO S_2 0 = ((f_co 1000 n z mm 6 p0 0 0).1).toInt64 := by rw [hK2.2.2.2.2.2.2, hS1, setO_0]
    refine lv_if_eq (tgt := 709) hx hb dL_law_704 (by decide) (fun _ => ?_) (fun c_9 => absurd (cmp0.mpr heq) c_9)
    refine lv_goto (tgt := 1487) hx hb dL_law_709 (by decide) ?_
    refine lv_iinc (v := nI (4 * (t + 1))) (lv' := [(4, .int (nI (4 * (t + 1)))), (6, .int ((f_co 1000 n z mm 6 p0 0 0).1)), (5, .int k0), (0, .ref b), (1, .ref (gA E 83)), (2, .ref (gA E 84)), (3, .ref (gA E 89))]) hx hb dL_law_1487 hl (k := 6) rfl (by exact nI_add (4 * t) 4) (by decide) rfl (fun ls hl => ?_)
    refine lv_goto (tgt := 23) hx hb dL_law_1490 (by decide) ?_
    refine W.widen (k := 90 + 2 * (t + 1)) (n := 1368 + 12 * (t + 1)) (by omega) (by omega) ?_
    exact hk S_2 _ _ _ _ _ H locs ls (hLI.ok hX0 e0 hS1 hK2 hM2 (GOk.co (fu := 1000) hG (u_j := 6) (by decide) hF0) hLI.push) hJ (lv_sub hl [3, 4, 5, 6, 0] rfl)
  · skip
    rw [hS1] at hJ
    have hM1 := hMI
    have hLm := hTM.1
    refine lv_aload_n hx hb dL_law_669 rfl (lv_at hl 3 rfl) ?_
    refine lv_aload_n hx hb dL_law_670 rfl (lv_at hl 1 rfl) ?_
    refine lv_iload hx hb dL_law_671 (lv_at hl 5 rfl) ?_
    refine lv_iconst (v := 1) hx hb dL_law_673 (by decide) ?_
    refine lv_iadd hx hb dL_law_674 ?_
    refine i_scv C hgs hsc hbl hL hJ (v := p0) (nI_add (4 * t) 1) (by omega) hp0.symm dL_law_675 ?_
    refine cw_L_121 C hJ (rest := []) (c_X7_swap hE hM1 p0 1000) dL_law_676 hl.1 ⟨Nat.le_of_ble_eq_true rfl, Nat.le_of_ble_eq_true rfl⟩ ⟨by show 90 + 2 * t + 1 ≤ 601024; omega, by show 1368 + 12 * t + 6 ≤ 7293034; omega⟩ (Nat.le_of_ble_eq_true rfl) rfl rfl (fun vr S_2 H locs hP hJ => ?_)
    obtain ⟨x2, rfl, ht2, hK2, hok, hno⟩ := hP
    have eF : (sM S_2).1 2 = k0 := by rw [ht2, hk0]; try rfl
    have hk00 : ¬ k0 = 0 := fun y => hF0 (by rw [hk0] at y; exact mt0.mp y)
    have hM2 := hno (fun y => hk00 (by rw [← eF, ht2, y]))
    refine lv_istore (lv' := [(6, .int (x2)), (5, .int k0), (0, .ref b), (1, .ref (gA E 83)), (2, .ref (gA E 84)), (3, .ref (gA E 89)), (4, .int (nI (4 * t)))]) hx hb dL_law_679 hl (by decide) rfl (fun ls hl => ?_)
    refine lv_aload_n hx hb dL_law_681 rfl (lv_at hl 4 rfl) ?_
    refine cr_L_92 C hJ (rest := []) (c_X7_thrown hE) dL_law_682 hl.1 ⟨Nat.le_of_ble_eq_true rfl, Nat.le_of_ble_eq_true rfl⟩ ⟨by show 90 + 2 * t + 1 ≤ 601024; omega, by show 1368 + 12 * t + 6 ≤ 7293034; omega⟩ (Nat.le_of_ble_eq_true rfl) rfl rfl ?_
    refine lv_iload hx hb dL_law_685 (lv_at hl 1 rfl) ?_
    refine lv_icmp_eq (tgt := 692) hx hb dL_law_687 (by decide) (fun _ => ?_) (fun c_9 => absurd eF c_9)
    refine lv_iload hx hb dL_law_692 (lv_at hl 1 rfl) ?_
    refine lv_if_ne (tgt := 709) hx hb dL_law_694 (by decide) (fun _ => ?_) (fun c_9 => absurd c_9 hk00)
    refine lv_goto (tgt := 1487) hx hb dL_law_709 (by decide) ?_
    refine lv_iinc (v := nI (4 * (t + 1))) (lv' := [(4, .int (nI (4 * (t + 1)))), (6, .int (x2)), (5, .int k0), (0, .ref b), (1, .ref (gA E 83)), (2, .ref (gA E 84)), (3, .ref (gA E 89))]) hx hb dL_law_1487 hl (k := 6) rfl (by exact nI_add (4 * t) 4) (by decide) rfl (fun ls hl => ?_)
    refine lv_goto (tgt := 23) hx hb dL_law_1490 (by decide) ?_
    refine W.widen (k := 90 + 2 * (t + 1)) (n := 1368 + 12 * (t + 1)) (by omega) (by omega) ?_
    exact hk S_2 _ _ _ _ _ H locs ls (hLI.no hK2 hM2) hJ (lv_sub hl [3, 4, 5, 6, 0] rfl)
set_option maxHeartbeats 4000000 in
set_option maxRecDepth 100000 in
theorem lc_9 {p : Program} {l : Launch} {e : Env} {s : State} {m : MethodId} {below : List Frame} {meth : Method} {c : Code} {b L : Nat} {xs : Nat → Int32} {E : GE} {X : EX} {u_x : Nat × Nat × Nat} (C : Cx E p s m meth c cL_law RL 7) (hX : Env1 E X) (hX2 : Env2 l E u_x) (h3 : Env3 E) (hgs : gS E = s) (hsc : va_X b L xs s s.heap) (hbl : b < s.heap.size) (hL : L ≤ 2048) {t : Nat} (ht : 4 * t + 4 ≤ L) {n : Nat} {z : Nat → Int32} {mm : Nat → Nat → Int32} {mc : Nat} {sv : Nat → LVt} {u_n : Nat} {u_b : Nat → Int32} {S : ST} (hLI : LI S (n, z, mm) mc sv u_n u_b) {H : Heap} {locs : List Loc} {ls : Array Slot} (hJ : JJ E S H locs) (hl : lv_has ls 7 [(0, .ref b), (1, .ref (gA E 83)), (2, .ref (gA E 84)), (3, .ref (gA E 89)), (4, .int (nI (4 * t)))]) (hk : LK p l e s m b below meth c E (t + 1)) : W p l e room_1 s m #[Value.ref b] below meth c H locs (90 + 2 * t) (1368 + 12 * t) (lw_Z below #[Value.ref b] s) (F0 m 712 ls []) := by
  have hE := C.env
  have hx := C.x
  have hb := C.b
  obtain ⟨hXI, hMI, hG, hGs, hN, ⟨u_p, u_f, u_c, u_g, hTX⟩, u_p2, u_k2, u_g2, hTM⟩ := id hLI
  have hn : n ≤ 10 := hG.1
  have hV : VOk n mm := hG.2
  have hm4 := hMI.2.2.1
  obtain ⟨p0, hp0⟩ : ∃ y, y = xs (4 * t + 1) := ⟨_, rfl⟩
  refine lv_aload_n hx hb dL_law_712 rfl (lv_at hl 1 rfl) ?_
  refine lv_aload_n hx hb dL_law_713 rfl (lv_at hl 0 rfl) ?_
  refine lv_iload hx hb dL_law_714 (lv_at hl 4 rfl) ?_
  refine lv_iconst (v := 1) hx hb dL_law_716 (by decide) ?_
  refine lv_iadd hx hb dL_law_717 ?_
  refine i_scv C hgs hsc hbl hL hJ (v := p0) (nI_add (4 * t) 1) (by omega) hp0.symm dL_law_718 ?_
  refine lv_aload_n hx hb dL_law_719 rfl (lv_at hl 3 rfl) ?_
  refine k_H hJ (r_XSW (rest := []) (n := 3) C hJ (cl_befriend hE hX hX2 hXI p0 1000 rfl h3) km_L_122 kt_L_befriend k0_L kc_L_befriend ⟨by decide, by decide, by decide +kernel⟩ rfl dL_law_720 hl.1 ⟨Nat.le_of_ble_eq_true rfl, Nat.le_of_ble_eq_true rfl⟩ ⟨by show 90 + 2 * t + 1 ≤ 601024; omega, by show 1368 + 12 * t + 6 ≤ 7293034; omega⟩ (Nat.le_of_ble_eq_true rfl) rfl) (fun vr S_1 H locs hP hJ => ?_)
  obtain ⟨rfl, hW⟩ := hP
  obtain ⟨k0, hk0⟩ : ∃ y, y = m_t (f_ft (gof n mm) n 7 p0 0 0) := ⟨_, rfl⟩
  rw [← hk0]
  refine lv_istore (lv' := [(5, .int k0), (0, .ref b), (1, .ref (gA E 83)), (2, .ref (gA E 84)), (3, .ref (gA E 89)), (4, .int (nI (4 * t)))]) hx hb dL_law_723 hl (by decide) rfl (fun ls hl => ?_)
  rcases hW with ⟨hF0, S_0, hR0, hS1⟩ | ⟨hF0, hS1⟩
  · skip
    obtain ⟨hX0, e0⟩ := hR0
    have hM1 : MI S_1 (n, z, mm) mc sv := hLI.m1 e0 hS1
    have hLm : (sM S_1).1 4 = nI u_n := by rw [hS1]; exact (congrArg (fun q => q.2.1.1 4) e0).trans hTM.1
    refine lv_aload_n hx hb dL_law_725 rfl (lv_at hl 3 rfl) ?_
    refine lv_aload_n hx hb dL_law_726 rfl (lv_at hl 1 rfl) ?_
    refine lv_iload hx hb dL_law_727 (lv_at hl 5 rfl) ?_
    refine lv_iconst (v := 1) hx hb dL_law_729 (by decide) ?_
    refine lv_iadd hx hb dL_law_730 ?_
    refine i_scv C hgs hsc hbl hL hJ (v := p0) (nI_add (4 * t) 1) (by omega) hp0.symm dL_law_731 ?_
    refine cw_L_124 C hJ (rest := []) (c_X7_befriend hE hM1 p0 1000) dL_law_732 hl.1 ⟨Nat.le_of_ble_eq_true rfl, Nat.le_of_ble_eq_true rfl⟩ ⟨by show 90 + 2 * t + 1 ≤ 601024; omega, by show 1368 + 12 * t + 6 ≤ 7293034; omega⟩ (Nat.le_of_ble_eq_true rfl) rfl rfl (fun vr S_2 H locs hP hJ => ?_)
    obtain ⟨x2, rfl, ht2, hK2, hok, hno⟩ := hP
    have eF : (sM S_2).1 2 = k0 := by rw [ht2, hk0]; exact congrArg m_t (ft7 hn hMI.2.1 p0 0 0)
    have hk00 : k0 = 0 := by rw [hk0, hF0]; rfl
    obtain ⟨hx2, hM2⟩ := hok (by rw [← ht2, eF, hk00])
    subst hx2
    refine lv_istore (lv' := [(6, .int ((f_co 1000 n z mm 7 p0 0 0).1)), (5, .int k0), (0, .ref b), (1, .ref (gA E 83)), (2, .ref (gA E 84)), (3, .ref (gA E 89)), (4, .int (nI (4 * t)))]) hx hb dL_law_735 hl (by decide) rfl (fun ls hl => ?_)
    refine lv_aload_n hx hb dL_law_737 rfl (lv_at hl 4 rfl) ?_
    refine cr_L_92 C hJ (rest := []) (c_X7_thrown hE) dL_law_738 hl.1 ⟨Nat.le_of_ble_eq_true rfl, Nat.le_of_ble_eq_true rfl⟩ ⟨by show 90 + 2 * t + 1 ≤ 601024; omega, by show 1368 + 12 * t + 6 ≤ 7293034; omega⟩ (Nat.le_of_ble_eq_true rfl) rfl rfl ?_
    refine lv_iload hx hb dL_law_741 (lv_at hl 1 rfl) ?_
    refine lv_icmp_eq (tgt := 748) hx hb dL_law_743 (by decide) (fun _ => ?_) (fun c_9 => absurd eF c_9)
    refine lv_iload hx hb dL_law_748 (lv_at hl 1 rfl) ?_
    refine lv_if_ne (tgt := 765) hx hb dL_law_750 (by decide) (fun c_9 => absurd hk00 c_9) (fun _ => ?_)
    refine lv_aload_n hx hb dL_law_753 rfl (lv_at hl 5 rfl) ?_
    refine lv_iconst (v := 0) hx hb dL_law_754 (by decide) ?_
    refine a_ou C hJ dL_law_755 ?_
    refine lv_iload hx hb dL_law_756 (lv_at hl 0 rfl) ?_
    refine lv_i2l (v := ((f_co 1000 n z mm 7 p0 0 0).1).toInt64) hx hb dL_law_758 rfl ?_
    refine W.lcmp hx hb dL_law_759 ?_
    have heq : sO S_2 0 = ((f_co 1000 n z mm 7 p0 0 0).1).toInt64 := by rw [hK2.2.2.2.2.2.2, hS1, setO_0]
    refine lv_if_eq (tgt := 765) hx hb dL_law_760 (by decide) (fun _ => ?_) (fun c_9 => absurd (cmp0.mpr heq) c_9)
    refine lv_goto (tgt := 1487) hx hb dL_law_765 (by decide) ?_
    refine lv_iinc (v := nI (4 * (t + 1))) (lv' := [(4, .int (nI (4 * (t + 1)))), (6, .int ((f_co 1000 n z mm 7 p0 0 0).1)), (5, .int k0), (0, .ref b), (1, .ref (gA E 83)), (2, .ref (gA E 84)), (3, .ref (gA E 89))]) hx hb dL_law_1487 hl (k := 6) rfl (by exact nI_add (4 * t) 4) (by decide) rfl (fun ls hl => ?_)
    refine lv_goto (tgt := 23) hx hb dL_law_1490 (by decide) ?_
    refine W.widen (k := 90 + 2 * (t + 1)) (n := 1368 + 12 * (t + 1)) (by omega) (by omega) ?_
    exact hk S_2 _ _ _ _ _ H locs ls (hLI.ok hX0 e0 hS1 hK2 hM2 (GOk.co (fu := 1000) hG (u_j := 7) (by decide) hF0) hLI.push) hJ (lv_sub hl [3, 4, 5, 6, 0] rfl)
  · skip
    rw [hS1] at hJ
    have hM1 := hMI
    have hLm := hTM.1
    refine lv_aload_n hx hb dL_law_725 rfl (lv_at hl 3 rfl) ?_
    refine lv_aload_n hx hb dL_law_726 rfl (lv_at hl 1 rfl) ?_
    refine lv_iload hx hb dL_law_727 (lv_at hl 5 rfl) ?_
    refine lv_iconst (v := 1) hx hb dL_law_729 (by decide) ?_
    refine lv_iadd hx hb dL_law_730 ?_
    refine i_scv C hgs hsc hbl hL hJ (v := p0) (nI_add (4 * t) 1) (by omega) hp0.symm dL_law_731 ?_
    refine cw_L_124 C hJ (rest := []) (c_X7_befriend hE hM1 p0 1000) dL_law_732 hl.1 ⟨Nat.le_of_ble_eq_true rfl, Nat.le_of_ble_eq_true rfl⟩ ⟨by show 90 + 2 * t + 1 ≤ 601024; omega, by show 1368 + 12 * t + 6 ≤ 7293034; omega⟩ (Nat.le_of_ble_eq_true rfl) rfl rfl (fun vr S_2 H locs hP hJ => ?_)
    obtain ⟨x2, rfl, ht2, hK2, hok, hno⟩ := hP
    have eF : (sM S_2).1 2 = k0 := by rw [ht2, hk0]; exact congrArg m_t (ft7 hn hMI.2.1 p0 0 0)
    have hk00 : ¬ k0 = 0 := fun y => hF0 (by rw [hk0] at y; exact mt0.mp y)
    have hM2 := hno (fun y => hk00 (by rw [← eF, ht2, y]))
    refine lv_istore (lv' := [(6, .int (x2)), (5, .int k0), (0, .ref b), (1, .ref (gA E 83)), (2, .ref (gA E 84)), (3, .ref (gA E 89)), (4, .int (nI (4 * t)))]) hx hb dL_law_735 hl (by decide) rfl (fun ls hl => ?_)
    refine lv_aload_n hx hb dL_law_737 rfl (lv_at hl 4 rfl) ?_
    refine cr_L_92 C hJ (rest := []) (c_X7_thrown hE) dL_law_738 hl.1 ⟨Nat.le_of_ble_eq_true rfl, Nat.le_of_ble_eq_true rfl⟩ ⟨by show 90 + 2 * t + 1 ≤ 601024; omega, by show 1368 + 12 * t + 6 ≤ 7293034; omega⟩ (Nat.le_of_ble_eq_true rfl) rfl rfl ?_
    refine lv_iload hx hb dL_law_741 (lv_at hl 1 rfl) ?_
    refine lv_icmp_eq (tgt := 748) hx hb dL_law_743 (by decide) (fun _ => ?_) (fun c_9 => absurd eF c_9)
    refine lv_iload hx hb dL_law_748 (lv_at hl 1 rfl) ?_
    refine lv_if_ne (tgt := 765) hx hb dL_law_750 (by decide) (fun _ => ?_) (fun c_9 => absurd c_9 hk00)
    refine lv_goto (tgt := 1487) hx hb dL_law_765 (by decide) ?_
    refine lv_iinc (v := nI (4 * (t + 1))) (lv' := [(4, .int (nI (4 * (t + 1)))), (6, .int (x2)), (5, .int k0), (0, .ref b), (1, .ref (gA E 83)), (2, .ref (gA E 84)), (3, .ref (gA E 89))]) hx hb dL_law_1487 hl (k := 6) rfl (by exact nI_add (4 * t) 4) (by decide) rfl (fun ls hl => ?_)
    refine lv_goto (tgt := 23) hx hb dL_law_1490 (by decide) ?_
    refine W.widen (k := 90 + 2 * (t + 1)) (n := 1368 + 12 * (t + 1)) (by omega) (by omega) ?_
    exact hk S_2 _ _ _ _ _ H locs ls (hLI.no hK2 hM2) hJ (lv_sub hl [3, 4, 5, 6, 0] rfl)
set_option maxHeartbeats 4000000 in
set_option maxRecDepth 100000 in
theorem lc_10 {p : Program} {l : Launch} {e : Env} {s : State} {m : MethodId} {below : List Frame} {meth : Method} {c : Code} {b L : Nat} {xs : Nat → Int32} {E : GE} {X : EX} {u_x : Nat × Nat × Nat} (C : Cx E p s m meth c cL_law RL 7) (hX : Env1 E X) (hX2 : Env2 l E u_x) (h3 : Env3 E) (hgs : gS E = s) (hsc : va_X b L xs s s.heap) (hbl : b < s.heap.size) (hL : L ≤ 2048) {t : Nat} (ht : 4 * t + 4 ≤ L) {n : Nat} {z : Nat → Int32} {mm : Nat → Nat → Int32} {mc : Nat} {sv : Nat → LVt} {u_n : Nat} {u_b : Nat → Int32} {S : ST} (hLI : LI S (n, z, mm) mc sv u_n u_b) {H : Heap} {locs : List Loc} {ls : Array Slot} (hJ : JJ E S H locs) (hl : lv_has ls 7 [(0, .ref b), (1, .ref (gA E 83)), (2, .ref (gA E 84)), (3, .ref (gA E 89)), (4, .int (nI (4 * t)))]) (hk : LK p l e s m b below meth c E (t + 1)) : W p l e room_1 s m #[Value.ref b] below meth c H locs (90 + 2 * t) (1368 + 12 * t) (lw_Z below #[Value.ref b] s) (F0 m 768 ls []) := by
  have hE := C.env
  have hx := C.x
  have hb := C.b
  obtain ⟨hXI, hMI, hG, hGs, hN, ⟨u_p, u_f, u_c, u_g, hTX⟩, u_p2, u_k2, u_g2, hTM⟩ := id hLI
  have hn : n ≤ 10 := hG.1
  have hV : VOk n mm := hG.2
  have hm4 := hMI.2.2.1
  obtain ⟨p0, hp0⟩ : ∃ y, y = xs (4 * t + 1) := ⟨_, rfl⟩
  refine lv_aload_n hx hb dL_law_768 rfl (lv_at hl 1 rfl) ?_
  refine lv_aload_n hx hb dL_law_769 rfl (lv_at hl 0 rfl) ?_
  refine lv_iload hx hb dL_law_770 (lv_at hl 4 rfl) ?_
  refine lv_iconst (v := 1) hx hb dL_law_772 (by decide) ?_
  refine lv_iadd hx hb dL_law_773 ?_
  refine i_scv C hgs hsc hbl hL hJ (v := p0) (nI_add (4 * t) 1) (by omega) hp0.symm dL_law_774 ?_
  refine lv_aload_n hx hb dL_law_775 rfl (lv_at hl 3 rfl) ?_
  refine k_H hJ (r_XSW (rest := []) (n := 3) C hJ (cl_part hE hX hX2 hXI p0 1000 rfl h3) km_L_125 kt_L_part k0_L kc_L_part ⟨by decide, by decide, by decide +kernel⟩ rfl dL_law_776 hl.1 ⟨Nat.le_of_ble_eq_true rfl, Nat.le_of_ble_eq_true rfl⟩ ⟨by show 90 + 2 * t + 1 ≤ 601024; omega, by show 1368 + 12 * t + 6 ≤ 7293034; omega⟩ (Nat.le_of_ble_eq_true rfl) rfl) (fun vr S_1 H locs hP hJ => ?_)
  obtain ⟨rfl, hW⟩ := hP
  obtain ⟨k0, hk0⟩ : ∃ y, y = m_t (f_ft (gof n mm) n 8 p0 0 0) := ⟨_, rfl⟩
  rw [← hk0]
  refine lv_istore (lv' := [(5, .int k0), (0, .ref b), (1, .ref (gA E 83)), (2, .ref (gA E 84)), (3, .ref (gA E 89)), (4, .int (nI (4 * t)))]) hx hb dL_law_779 hl (by decide) rfl (fun ls hl => ?_)
  rcases hW with ⟨hF0, S_0, hR0, hS1⟩ | ⟨hF0, hS1⟩
  · skip
    obtain ⟨hX0, e0⟩ := hR0
    have hM1 : MI S_1 (n, z, mm) mc sv := hLI.m1 e0 hS1
    have hLm : (sM S_1).1 4 = nI u_n := by rw [hS1]; exact (congrArg (fun q => q.2.1.1 4) e0).trans hTM.1
    refine lv_aload_n hx hb dL_law_781 rfl (lv_at hl 3 rfl) ?_
    refine lv_aload_n hx hb dL_law_782 rfl (lv_at hl 1 rfl) ?_
    refine lv_iload hx hb dL_law_783 (lv_at hl 5 rfl) ?_
    refine lv_iconst (v := 1) hx hb dL_law_785 (by decide) ?_
    refine lv_iadd hx hb dL_law_786 ?_
    refine i_scv C hgs hsc hbl hL hJ (v := p0) (nI_add (4 * t) 1) (by omega) hp0.symm dL_law_787 ?_
    refine cw_L_127 C hJ (rest := []) (c_X7_part hE hM1 p0 1000) dL_law_788 hl.1 ⟨Nat.le_of_ble_eq_true rfl, Nat.le_of_ble_eq_true rfl⟩ ⟨by show 90 + 2 * t + 1 ≤ 601024; omega, by show 1368 + 12 * t + 6 ≤ 7293034; omega⟩ (Nat.le_of_ble_eq_true rfl) rfl rfl (fun vr S_2 H locs hP hJ => ?_)
    obtain ⟨x2, rfl, ht2, hK2, hok, hno⟩ := hP
    have eF : (sM S_2).1 2 = k0 := by rw [ht2, hk0]; exact congrArg m_t (ft8 hn hMI.2.1 p0 0 0)
    have hk00 : k0 = 0 := by rw [hk0, hF0]; rfl
    obtain ⟨hx2, hM2⟩ := hok (by rw [← ht2, eF, hk00])
    subst hx2
    refine lv_istore (lv' := [(6, .int ((f_co 1000 n z mm 8 p0 0 0).1)), (5, .int k0), (0, .ref b), (1, .ref (gA E 83)), (2, .ref (gA E 84)), (3, .ref (gA E 89)), (4, .int (nI (4 * t)))]) hx hb dL_law_791 hl (by decide) rfl (fun ls hl => ?_)
    refine lv_aload_n hx hb dL_law_793 rfl (lv_at hl 4 rfl) ?_
    refine cr_L_92 C hJ (rest := []) (c_X7_thrown hE) dL_law_794 hl.1 ⟨Nat.le_of_ble_eq_true rfl, Nat.le_of_ble_eq_true rfl⟩ ⟨by show 90 + 2 * t + 1 ≤ 601024; omega, by show 1368 + 12 * t + 6 ≤ 7293034; omega⟩ (Nat.le_of_ble_eq_true rfl) rfl rfl ?_
    refine lv_iload hx hb dL_law_797 (lv_at hl 1 rfl) ?_
    refine lv_icmp_eq (tgt := 804) hx hb dL_law_799 (by decide) (fun _ => ?_) (fun c_9 => absurd eF c_9)
    refine lv_iload hx hb dL_law_804 (lv_at hl 1 rfl) ?_
    refine lv_if_ne (tgt := 821) hx hb dL_law_806 (by decide) (fun c_9 => absurd hk00 c_9) (fun _ => ?_)
    refine lv_aload_n hx hb dL_law_809 rfl (lv_at hl 5 rfl) ?_
    refine lv_iconst (v := 0) hx hb dL_law_810 (by decide) ?_
    refine a_ou C hJ dL_law_811 ?_
    refine lv_iload hx hb dL_law_812 (lv_at hl 0 rfl) ?_
    refine lv_i2l (v := ((f_co 1000 n z mm 8 p0 0 0).1).toInt64) hx hb dL_law_814 rfl ?_
    refine W.lcmp hx hb dL_law_815 ?_
    have heq : sO S_2 0 = ((f_co 1000 n z mm 8 p0 0 0).1).toInt64 := by rw [hK2.2.2.2.2.2.2, hS1, setO_0]
    refine lv_if_eq (tgt := 821) hx hb dL_law_816 (by decide) (fun _ => ?_) (fun c_9 => absurd (cmp0.mpr heq) c_9)
    refine lv_goto (tgt := 1487) hx hb dL_law_821 (by decide) ?_
    refine lv_iinc (v := nI (4 * (t + 1))) (lv' := [(4, .int (nI (4 * (t + 1)))), (6, .int ((f_co 1000 n z mm 8 p0 0 0).1)), (5, .int k0), (0, .ref b), (1, .ref (gA E 83)), (2, .ref (gA E 84)), (3, .ref (gA E 89))]) hx hb dL_law_1487 hl (k := 6) rfl (by exact nI_add (4 * t) 4) (by decide) rfl (fun ls hl => ?_)
    refine lv_goto (tgt := 23) hx hb dL_law_1490 (by decide) ?_
    refine W.widen (k := 90 + 2 * (t + 1)) (n := 1368 + 12 * (t + 1)) (by omega) (by omega) ?_
    exact hk S_2 _ _ _ _ _ H locs ls (hLI.ok hX0 e0 hS1 hK2 hM2 (GOk.co (fu := 1000) hG (u_j := 8) (by decide) hF0) hLI.push) hJ (lv_sub hl [3, 4, 5, 6, 0] rfl)
  · skip
    rw [hS1] at hJ
    have hM1 := hMI
    have hLm := hTM.1
    refine lv_aload_n hx hb dL_law_781 rfl (lv_at hl 3 rfl) ?_
    refine lv_aload_n hx hb dL_law_782 rfl (lv_at hl 1 rfl) ?_
    refine lv_iload hx hb dL_law_783 (lv_at hl 5 rfl) ?_
    refine lv_iconst (v := 1) hx hb dL_law_785 (by decide) ?_
    refine lv_iadd hx hb dL_law_786 ?_
    refine i_scv C hgs hsc hbl hL hJ (v := p0) (nI_add (4 * t) 1) (by omega) hp0.symm dL_law_787 ?_
    refine cw_L_127 C hJ (rest := []) (c_X7_part hE hM1 p0 1000) dL_law_788 hl.1 ⟨Nat.le_of_ble_eq_true rfl, Nat.le_of_ble_eq_true rfl⟩ ⟨by show 90 + 2 * t + 1 ≤ 601024; omega, by show 1368 + 12 * t + 6 ≤ 7293034; omega⟩ (Nat.le_of_ble_eq_true rfl) rfl rfl (fun vr S_2 H locs hP hJ => ?_)
    obtain ⟨x2, rfl, ht2, hK2, hok, hno⟩ := hP
    have eF : (sM S_2).1 2 = k0 := by rw [ht2, hk0]; exact congrArg m_t (ft8 hn hMI.2.1 p0 0 0)
    have hk00 : ¬ k0 = 0 := fun y => hF0 (by rw [hk0] at y; exact mt0.mp y)
    have hM2 := hno (fun y => hk00 (by rw [← eF, ht2, y]))
    refine lv_istore (lv' := [(6, .int (x2)), (5, .int k0), (0, .ref b), (1, .ref (gA E 83)), (2, .ref (gA E 84)), (3, .ref (gA E 89)), (4, .int (nI (4 * t)))]) hx hb dL_law_791 hl (by decide) rfl (fun ls hl => ?_)
    refine lv_aload_n hx hb dL_law_793 rfl (lv_at hl 4 rfl) ?_
    refine cr_L_92 C hJ (rest := []) (c_X7_thrown hE) dL_law_794 hl.1 ⟨Nat.le_of_ble_eq_true rfl, Nat.le_of_ble_eq_true rfl⟩ ⟨by show 90 + 2 * t + 1 ≤ 601024; omega, by show 1368 + 12 * t + 6 ≤ 7293034; omega⟩ (Nat.le_of_ble_eq_true rfl) rfl rfl ?_
    refine lv_iload hx hb dL_law_797 (lv_at hl 1 rfl) ?_
    refine lv_icmp_eq (tgt := 804) hx hb dL_law_799 (by decide) (fun _ => ?_) (fun c_9 => absurd eF c_9)
    refine lv_iload hx hb dL_law_804 (lv_at hl 1 rfl) ?_
    refine lv_if_ne (tgt := 821) hx hb dL_law_806 (by decide) (fun _ => ?_) (fun c_9 => absurd c_9 hk00)
    refine lv_goto (tgt := 1487) hx hb dL_law_821 (by decide) ?_
    refine lv_iinc (v := nI (4 * (t + 1))) (lv' := [(4, .int (nI (4 * (t + 1)))), (6, .int (x2)), (5, .int k0), (0, .ref b), (1, .ref (gA E 83)), (2, .ref (gA E 84)), (3, .ref (gA E 89))]) hx hb dL_law_1487 hl (k := 6) rfl (by exact nI_add (4 * t) 4) (by decide) rfl (fun ls hl => ?_)
    refine lv_goto (tgt := 23) hx hb dL_law_1490 (by decide) ?_
    refine W.widen (k := 90 + 2 * (t + 1)) (n := 1368 + 12 * (t + 1)) (by omega) (by omega) ?_
    exact hk S_2 _ _ _ _ _ H locs ls (hLI.no hK2 hM2) hJ (lv_sub hl [3, 4, 5, 6, 0] rfl)
set_option maxHeartbeats 4000000 in
set_option maxRecDepth 100000 in
theorem lc_12 {p : Program} {l : Launch} {e : Env} {s : State} {m : MethodId} {below : List Frame} {meth : Method} {c : Code} {b L : Nat} {xs : Nat → Int32} {E : GE} {X : EX} {u_x : Nat × Nat × Nat} (C : Cx E p s m meth c cL_law RL 7) (hX : Env1 E X) (hX2 : Env2 l E u_x) (h3 : Env3 E) (hgs : gS E = s) (hsc : va_X b L xs s s.heap) (hbl : b < s.heap.size) (hL : L ≤ 2048) {t : Nat} (ht : 4 * t + 4 ≤ L) {n : Nat} {z : Nat → Int32} {mm : Nat → Nat → Int32} {mc : Nat} {sv : Nat → LVt} {u_n : Nat} {u_b : Nat → Int32} {S : ST} (hLI : LI S (n, z, mm) mc sv u_n u_b) {H : Heap} {locs : List Loc} {ls : Array Slot} (hJ : JJ E S H locs) (hl : lv_has ls 7 [(0, .ref b), (1, .ref (gA E 83)), (2, .ref (gA E 84)), (3, .ref (gA E 89)), (4, .int (nI (4 * t)))]) (hk : LK p l e s m b below meth c E (t + 1)) : W p l e room_1 s m #[Value.ref b] below meth c H locs (90 + 2 * t) (1368 + 12 * t) (lw_Z below #[Value.ref b] s) (F0 m 837 ls []) := by
  have hE := C.env
  have hx := C.x
  have hb := C.b
  obtain ⟨hXI, hMI, hG, hGs, hN, ⟨u_p, u_f, u_c, u_g, hTX⟩, u_p2, u_k2, u_g2, hTM⟩ := id hLI
  have hn : n ≤ 10 := hG.1
  have hV : VOk n mm := hG.2
  have hm4 := hMI.2.2.1
  obtain ⟨p0, hp0⟩ : ∃ y, y = xs (4 * t + 1) := ⟨_, rfl⟩
  obtain ⟨p1, hp1⟩ : ∃ y, y = xs (4 * t + 2) := ⟨_, rfl⟩
  refine lv_aload_n hx hb dL_law_837 rfl (lv_at hl 1 rfl) ?_
  refine lv_aload_n hx hb dL_law_838 rfl (lv_at hl 0 rfl) ?_
  refine lv_iload hx hb dL_law_839 (lv_at hl 4 rfl) ?_
  refine lv_iconst (v := 1) hx hb dL_law_841 (by decide) ?_
  refine lv_iadd hx hb dL_law_842 ?_
  refine i_scv C hgs hsc hbl hL hJ (v := p0) (nI_add (4 * t) 1) (by omega) hp0.symm dL_law_843 ?_
  refine lv_aload_n hx hb dL_law_844 rfl (lv_at hl 0 rfl) ?_
  refine lv_iload hx hb dL_law_845 (lv_at hl 4 rfl) ?_
  refine lv_iconst (v := 2) hx hb dL_law_847 (by decide) ?_
  refine lv_iadd hx hb dL_law_848 ?_
  refine i_scv C hgs hsc hbl hL hJ (v := p1) (nI_add (4 * t) 2) (by omega) hp1.symm dL_law_849 ?_
  refine lv_aload_n hx hb dL_law_850 rfl (lv_at hl 3 rfl) ?_
  refine k_H hJ (r_XSW (rest := []) (n := 4) C hJ (cl_member hE hX2 hXI p0 p1 h3) km_L_132 kt_L_member k0_L kc_L_member ⟨by decide, by decide, by decide +kernel⟩ rfl dL_law_851 hl.1 ⟨Nat.le_of_ble_eq_true rfl, Nat.le_of_ble_eq_true rfl⟩ ⟨by show 90 + 2 * t + 1 ≤ 601024; omega, by show 1368 + 12 * t + 6 ≤ 7293034; omega⟩ (Nat.le_of_ble_eq_true rfl) rfl) (fun vr S_1 H locs hP hJ => ?_)
  obtain ⟨rfl, hW⟩ := hP
  obtain ⟨k0, hk0⟩ : ∃ y, y = f_mf (f_place (gof n mm) n p0) (bI (f_in p1 0 9)) := ⟨_, rfl⟩
  rw [← hk0]
  refine lv_istore (lv' := [(5, .int k0), (0, .ref b), (1, .ref (gA E 83)), (2, .ref (gA E 84)), (3, .ref (gA E 89)), (4, .int (nI (4 * t)))]) hx hb dL_law_854 hl (by decide) rfl (fun ls hl => ?_)
  rcases hW with ⟨hF0, S_0, hR0, hS1⟩ | ⟨hF0, hS1⟩
  · skip
    have hX0 : XI S_0 (n, z, mm) mc sv := by rw [hR0]; exact hXI
    have e0 : S_0.2.2 = S.2.2 := by rw [hR0]
    have hM1 : MI S_1 (n, z, mm) mc sv := hLI.m1 e0 hS1
    have hLm : (sM S_1).1 4 = nI u_n := by rw [hS1]; exact (congrArg (fun q => q.2.1.1 4) e0).trans hTM.1
    refine lv_aload_n hx hb dL_law_856 rfl (lv_at hl 3 rfl) ?_
    refine lv_aload_n hx hb dL_law_857 rfl (lv_at hl 1 rfl) ?_
    refine lv_iload hx hb dL_law_858 (lv_at hl 5 rfl) ?_
    refine lv_iconst (v := 1) hx hb dL_law_860 (by decide) ?_
    refine lv_iadd hx hb dL_law_861 ?_
    refine i_scv C hgs hsc hbl hL hJ (v := p0) (nI_add (4 * t) 1) (by omega) hp0.symm dL_law_862 ?_
    refine lv_aload_n hx hb dL_law_863 rfl (lv_at hl 1 rfl) ?_
    refine lv_iload hx hb dL_law_864 (lv_at hl 5 rfl) ?_
    refine lv_iconst (v := 2) hx hb dL_law_866 (by decide) ?_
    refine lv_iadd hx hb dL_law_867 ?_
    refine i_scv C hgs hsc hbl hL hJ (v := p1) (nI_add (4 * t) 2) (by omega) hp1.symm dL_law_868 ?_
    refine cw_L_134 C hJ (rest := []) (c_X7_member hE hM1 p0 p1) dL_law_869 hl.1 ⟨Nat.le_of_ble_eq_true rfl, Nat.le_of_ble_eq_true rfl⟩ ⟨by show 90 + 2 * t + 1 ≤ 601024; omega, by show 1368 + 12 * t + 6 ≤ 7293034; omega⟩ (Nat.le_of_ble_eq_true rfl) rfl rfl (fun vr S_2 H locs hP hJ => ?_)
    obtain ⟨x2, rfl, ht2, hK2, hok, hno⟩ := hP
    have eF : (sM S_2).1 2 = k0 := by rw [ht2, hk0]; try rfl
    have hk00 : k0 = 0 := by rw [hk0, hF0]
    obtain ⟨hx2, hM2⟩ := hok (by rw [← ht2, eF, hk00])
    subst hx2
    refine lv_istore (lv' := [(6, .int (f_mval (gof n mm) (f_place (gof n mm) n p0).toNatClampNeg p1.toNatClampNeg)), (5, .int k0), (0, .ref b), (1, .ref (gA E 83)), (2, .ref (gA E 84)), (3, .ref (gA E 89)), (4, .int (nI (4 * t)))]) hx hb dL_law_872 hl (by decide) rfl (fun ls hl => ?_)
    refine lv_aload_n hx hb dL_law_874 rfl (lv_at hl 4 rfl) ?_
    refine cr_L_92 C hJ (rest := []) (c_X7_thrown hE) dL_law_875 hl.1 ⟨Nat.le_of_ble_eq_true rfl, Nat.le_of_ble_eq_true rfl⟩ ⟨by show 90 + 2 * t + 1 ≤ 601024; omega, by show 1368 + 12 * t + 6 ≤ 7293034; omega⟩ (Nat.le_of_ble_eq_true rfl) rfl rfl ?_
    refine lv_iload hx hb dL_law_878 (lv_at hl 1 rfl) ?_
    refine lv_icmp_eq (tgt := 885) hx hb dL_law_880 (by decide) (fun _ => ?_) (fun c_9 => absurd eF c_9)
    refine lv_iload hx hb dL_law_885 (lv_at hl 1 rfl) ?_
    refine lv_if_ne (tgt := 902) hx hb dL_law_887 (by decide) (fun c_9 => absurd hk00 c_9) (fun _ => ?_)
    refine lv_aload_n hx hb dL_law_890 rfl (lv_at hl 5 rfl) ?_
    refine lv_iconst (v := 0) hx hb dL_law_891 (by decide) ?_
    refine a_ou C hJ dL_law_892 ?_
    refine lv_iload hx hb dL_law_893 (lv_at hl 0 rfl) ?_
    refine lv_i2l (v := (f_mval (gof n mm) (f_place (gof n mm) n p0).toNatClampNeg p1.toNatClampNeg).toInt64) hx hb dL_law_895 rfl ?_
    refine W.lcmp hx hb dL_law_896 ?_
    have heq : sO S_2 0 = (f_mval (gof n mm) (f_place (gof n mm) n p0).toNatClampNeg p1.toNatClampNeg).toInt64 := by rw [hK2.2.2.2.2.2.2, hS1, setO_0]
    refine lv_if_eq (tgt := 902) hx hb dL_law_897 (by decide) (fun _ => ?_) (fun c_9 => absurd (cmp0.mpr heq) c_9)
    refine lv_goto (tgt := 1487) hx hb dL_law_902 (by decide) ?_
    refine lv_iinc (v := nI (4 * (t + 1))) (lv' := [(4, .int (nI (4 * (t + 1)))), (6, .int (f_mval (gof n mm) (f_place (gof n mm) n p0).toNatClampNeg p1.toNatClampNeg)), (5, .int k0), (0, .ref b), (1, .ref (gA E 83)), (2, .ref (gA E 84)), (3, .ref (gA E 89))]) hx hb dL_law_1487 hl (k := 6) rfl (by exact nI_add (4 * t) 4) (by decide) rfl (fun ls hl => ?_)
    refine lv_goto (tgt := 23) hx hb dL_law_1490 (by decide) ?_
    refine W.widen (k := 90 + 2 * (t + 1)) (n := 1368 + 12 * (t + 1)) (by omega) (by omega) ?_
    exact hk S_2 _ _ _ _ _ H locs ls (hLI.ok hX0 e0 hS1 hK2 hM2 hG hGs) hJ (lv_sub hl [3, 4, 5, 6, 0] rfl)
  · skip
    rw [hS1] at hJ
    have hM1 := hMI
    have hLm := hTM.1
    refine lv_aload_n hx hb dL_law_856 rfl (lv_at hl 3 rfl) ?_
    refine lv_aload_n hx hb dL_law_857 rfl (lv_at hl 1 rfl) ?_
    refine lv_iload hx hb dL_law_858 (lv_at hl 5 rfl) ?_
    refine lv_iconst (v := 1) hx hb dL_law_860 (by decide) ?_
    refine lv_iadd hx hb dL_law_861 ?_
    refine i_scv C hgs hsc hbl hL hJ (v := p0) (nI_add (4 * t) 1) (by omega) hp0.symm dL_law_862 ?_
    refine lv_aload_n hx hb dL_law_863 rfl (lv_at hl 1 rfl) ?_
    refine lv_iload hx hb dL_law_864 (lv_at hl 5 rfl) ?_
    refine lv_iconst (v := 2) hx hb dL_law_866 (by decide) ?_
    refine lv_iadd hx hb dL_law_867 ?_
    refine i_scv C hgs hsc hbl hL hJ (v := p1) (nI_add (4 * t) 2) (by omega) hp1.symm dL_law_868 ?_
    refine cw_L_134 C hJ (rest := []) (c_X7_member hE hM1 p0 p1) dL_law_869 hl.1 ⟨Nat.le_of_ble_eq_true rfl, Nat.le_of_ble_eq_true rfl⟩ ⟨by show 90 + 2 * t + 1 ≤ 601024; omega, by show 1368 + 12 * t + 6 ≤ 7293034; omega⟩ (Nat.le_of_ble_eq_true rfl) rfl rfl (fun vr S_2 H locs hP hJ => ?_)
    obtain ⟨x2, rfl, ht2, hK2, hok, hno⟩ := hP
    have eF : (sM S_2).1 2 = k0 := by rw [ht2, hk0]; try rfl
    have hk00 : ¬ k0 = 0 := fun y => hF0 (by rw [hk0] at y; exact y)
    have hM2 := hno (fun y => hk00 (by rw [← eF, ht2, y]))
    refine lv_istore (lv' := [(6, .int (x2)), (5, .int k0), (0, .ref b), (1, .ref (gA E 83)), (2, .ref (gA E 84)), (3, .ref (gA E 89)), (4, .int (nI (4 * t)))]) hx hb dL_law_872 hl (by decide) rfl (fun ls hl => ?_)
    refine lv_aload_n hx hb dL_law_874 rfl (lv_at hl 4 rfl) ?_
    refine cr_L_92 C hJ (rest := []) (c_X7_thrown hE) dL_law_875 hl.1 ⟨Nat.le_of_ble_eq_true rfl, Nat.le_of_ble_eq_true rfl⟩ ⟨by show 90 + 2 * t + 1 ≤ 601024; omega, by show 1368 + 12 * t + 6 ≤ 7293034; omega⟩ (Nat.le_of_ble_eq_true rfl) rfl rfl ?_
    refine lv_iload hx hb dL_law_878 (lv_at hl 1 rfl) ?_
    refine lv_icmp_eq (tgt := 885) hx hb dL_law_880 (by decide) (fun _ => ?_) (fun c_9 => absurd eF c_9)
    refine lv_iload hx hb dL_law_885 (lv_at hl 1 rfl) ?_
    refine lv_if_ne (tgt := 902) hx hb dL_law_887 (by decide) (fun _ => ?_) (fun c_9 => absurd c_9 hk00)
    refine lv_goto (tgt := 1487) hx hb dL_law_902 (by decide) ?_
    refine lv_iinc (v := nI (4 * (t + 1))) (lv' := [(4, .int (nI (4 * (t + 1)))), (6, .int (x2)), (5, .int k0), (0, .ref b), (1, .ref (gA E 83)), (2, .ref (gA E 84)), (3, .ref (gA E 89))]) hx hb dL_law_1487 hl (k := 6) rfl (by exact nI_add (4 * t) 4) (by decide) rfl (fun ls hl => ?_)
    refine lv_goto (tgt := 23) hx hb dL_law_1490 (by decide) ?_
    refine W.widen (k := 90 + 2 * (t + 1)) (n := 1368 + 12 * (t + 1)) (by omega) (by omega) ?_
    exact hk S_2 _ _ _ _ _ H locs ls (hLI.no hK2 hM2) hJ (lv_sub hl [3, 4, 5, 6, 0] rfl)
set_option maxHeartbeats 4000000 in
set_option maxRecDepth 100000 in
theorem lc_13 {p : Program} {l : Launch} {e : Env} {s : State} {m : MethodId} {below : List Frame} {meth : Method} {c : Code} {b L : Nat} {xs : Nat → Int32} {E : GE} {X : EX} {u_x : Nat × Nat × Nat} (C : Cx E p s m meth c cL_law RL 7) (hX : Env1 E X) (hX2 : Env2 l E u_x) (h3 : Env3 E) (hgs : gS E = s) (hsc : va_X b L xs s s.heap) (hbl : b < s.heap.size) (hL : L ≤ 2048) {t : Nat} (ht : 4 * t + 4 ≤ L) {n : Nat} {z : Nat → Int32} {mm : Nat → Nat → Int32} {mc : Nat} {sv : Nat → LVt} {u_n : Nat} {u_b : Nat → Int32} {S : ST} (hLI : LI S (n, z, mm) mc sv u_n u_b) {H : Heap} {locs : List Loc} {ls : Array Slot} (hJ : JJ E S H locs) (hl : lv_has ls 7 [(0, .ref b), (1, .ref (gA E 83)), (2, .ref (gA E 84)), (3, .ref (gA E 89)), (4, .int (nI (4 * t)))]) (hk : LK p l e s m b below meth c E (t + 1)) : W p l e room_1 s m #[Value.ref b] below meth c H locs (90 + 2 * t) (1368 + 12 * t) (lw_Z below #[Value.ref b] s) (F0 m 905 ls []) := by
  have hE := C.env
  have hx := C.x
  have hb := C.b
  obtain ⟨hXI, hMI, hG, hGs, hN, ⟨u_p, u_f, u_c, u_g, hTX⟩, u_p2, u_k2, u_g2, hTM⟩ := id hLI
  have hn : n ≤ 10 := hG.1
  have hV : VOk n mm := hG.2
  have hm4 := hMI.2.2.1
  obtain ⟨p0, hp0⟩ : ∃ y, y = xs (4 * t + 1) := ⟨_, rfl⟩
  refine lv_aload_n hx hb dL_law_905 rfl (lv_at hl 1 rfl) ?_
  refine lv_aload_n hx hb dL_law_906 rfl (lv_at hl 0 rfl) ?_
  refine lv_iload hx hb dL_law_907 (lv_at hl 4 rfl) ?_
  refine lv_iconst (v := 1) hx hb dL_law_909 (by decide) ?_
  refine lv_iadd hx hb dL_law_910 ?_
  refine i_scv C hgs hsc hbl hL hJ (v := p0) (nI_add (4 * t) 1) (by omega) hp0.symm dL_law_911 ?_
  refine lv_aload_n hx hb dL_law_912 rfl (lv_at hl 3 rfl) ?_
  refine k_H hJ (r_XSW (rest := []) (n := 3) C hJ (cl_at hE hX2 hXI p0 h3) km_L_135 kt_L_at k0_L kc_L_at ⟨by decide, by decide, by decide +kernel⟩ rfl dL_law_913 hl.1 ⟨Nat.le_of_ble_eq_true rfl, Nat.le_of_ble_eq_true rfl⟩ ⟨by show 90 + 2 * t + 1 ≤ 601024; omega, by show 1368 + 12 * t + 6 ≤ 7293034; omega⟩ (Nat.le_of_ble_eq_true rfl) rfl) (fun vr S_1 H locs hP hJ => ?_)
  obtain ⟨rfl, hW⟩ := hP
  obtain ⟨k0, hk0⟩ : ∃ y, y = m_1 (if p0 < 0 then (2 : Int32) else 0) := ⟨_, rfl⟩
  rw [← hk0]
  refine lv_istore (lv' := [(5, .int k0), (0, .ref b), (1, .ref (gA E 83)), (2, .ref (gA E 84)), (3, .ref (gA E 89)), (4, .int (nI (4 * t)))]) hx hb dL_law_916 hl (by decide) rfl (fun ls hl => ?_)
  rcases hW with ⟨hF0, S_0, hR0, hS1⟩ | ⟨hF0, hS1⟩
  · skip
    have hX0 : XI S_0 (n, z, mm) mc sv := by rw [hR0]; exact hXI
    have e0 : S_0.2.2 = S.2.2 := by rw [hR0]
    have hM1 : MI S_1 (n, z, mm) mc sv := hLI.m1 e0 hS1
    have hLm : (sM S_1).1 4 = nI u_n := by rw [hS1]; exact (congrArg (fun q => q.2.1.1 4) e0).trans hTM.1
    refine lv_aload_n hx hb dL_law_918 rfl (lv_at hl 3 rfl) ?_
    refine lv_aload_n hx hb dL_law_919 rfl (lv_at hl 1 rfl) ?_
    refine lv_iload hx hb dL_law_920 (lv_at hl 5 rfl) ?_
    refine lv_iconst (v := 1) hx hb dL_law_922 (by decide) ?_
    refine lv_iadd hx hb dL_law_923 ?_
    refine i_scv C hgs hsc hbl hL hJ (v := p0) (nI_add (4 * t) 1) (by omega) hp0.symm dL_law_924 ?_
    refine cw_L_137 C hJ (rest := []) (c_X7_at hE hM1 p0) dL_law_925 hl.1 ⟨Nat.le_of_ble_eq_true rfl, Nat.le_of_ble_eq_true rfl⟩ ⟨by show 90 + 2 * t + 1 ≤ 601024; omega, by show 1368 + 12 * t + 6 ≤ 7293034; omega⟩ (Nat.le_of_ble_eq_true rfl) rfl rfl (fun vr S_2 H locs hP hJ => ?_)
    obtain ⟨x2, rfl, ht2, hK2, hok, hno⟩ := hP
    have eF : (sM S_2).1 2 = k0 := by rw [ht2, hk0]; exact by split <;> rfl
    have hk00 : k0 = 0 := by rw [hk0, hF0]; rfl
    obtain ⟨hx2, hM2⟩ := hok (by rw [← ht2, eF, hk00])
    subst hx2
    refine lv_istore (lv' := [(6, .int ((gof n mm) p0 0)), (5, .int k0), (0, .ref b), (1, .ref (gA E 83)), (2, .ref (gA E 84)), (3, .ref (gA E 89)), (4, .int (nI (4 * t)))]) hx hb dL_law_928 hl (by decide) rfl (fun ls hl => ?_)
    refine lv_aload_n hx hb dL_law_930 rfl (lv_at hl 4 rfl) ?_
    refine cr_L_92 C hJ (rest := []) (c_X7_thrown hE) dL_law_931 hl.1 ⟨Nat.le_of_ble_eq_true rfl, Nat.le_of_ble_eq_true rfl⟩ ⟨by show 90 + 2 * t + 1 ≤ 601024; omega, by show 1368 + 12 * t + 6 ≤ 7293034; omega⟩ (Nat.le_of_ble_eq_true rfl) rfl rfl ?_
    refine lv_iload hx hb dL_law_934 (lv_at hl 1 rfl) ?_
    refine lv_icmp_eq (tgt := 941) hx hb dL_law_936 (by decide) (fun _ => ?_) (fun c_9 => absurd eF c_9)
    refine lv_iload hx hb dL_law_941 (lv_at hl 1 rfl) ?_
    refine lv_if_ne (tgt := 958) hx hb dL_law_943 (by decide) (fun c_9 => absurd hk00 c_9) (fun _ => ?_)
    refine lv_aload_n hx hb dL_law_946 rfl (lv_at hl 5 rfl) ?_
    refine lv_iconst (v := 0) hx hb dL_law_947 (by decide) ?_
    refine a_ou C hJ dL_law_948 ?_
    refine lv_iload hx hb dL_law_949 (lv_at hl 0 rfl) ?_
    refine lv_i2l (v := ((gof n mm) p0 0).toInt64) hx hb dL_law_951 rfl ?_
    refine W.lcmp hx hb dL_law_952 ?_
    have heq : sO S_2 0 = ((gof n mm) p0 0).toInt64 := by rw [hK2.2.2.2.2.2.2, hS1, setO_0]
    refine lv_if_eq (tgt := 958) hx hb dL_law_953 (by decide) (fun _ => ?_) (fun c_9 => absurd (cmp0.mpr heq) c_9)
    refine lv_goto (tgt := 1487) hx hb dL_law_958 (by decide) ?_
    refine lv_iinc (v := nI (4 * (t + 1))) (lv' := [(4, .int (nI (4 * (t + 1)))), (6, .int ((gof n mm) p0 0)), (5, .int k0), (0, .ref b), (1, .ref (gA E 83)), (2, .ref (gA E 84)), (3, .ref (gA E 89))]) hx hb dL_law_1487 hl (k := 6) rfl (by exact nI_add (4 * t) 4) (by decide) rfl (fun ls hl => ?_)
    refine lv_goto (tgt := 23) hx hb dL_law_1490 (by decide) ?_
    refine W.widen (k := 90 + 2 * (t + 1)) (n := 1368 + 12 * (t + 1)) (by omega) (by omega) ?_
    exact hk S_2 _ _ _ _ _ H locs ls (hLI.ok hX0 e0 hS1 hK2 hM2 hG hGs) hJ (lv_sub hl [3, 4, 5, 6, 0] rfl)
  · skip
    rw [hS1] at hJ
    have hM1 := hMI
    have hLm := hTM.1
    refine lv_aload_n hx hb dL_law_918 rfl (lv_at hl 3 rfl) ?_
    refine lv_aload_n hx hb dL_law_919 rfl (lv_at hl 1 rfl) ?_
    refine lv_iload hx hb dL_law_920 (lv_at hl 5 rfl) ?_
    refine lv_iconst (v := 1) hx hb dL_law_922 (by decide) ?_
    refine lv_iadd hx hb dL_law_923 ?_
    refine i_scv C hgs hsc hbl hL hJ (v := p0) (nI_add (4 * t) 1) (by omega) hp0.symm dL_law_924 ?_
    refine cw_L_137 C hJ (rest := []) (c_X7_at hE hM1 p0) dL_law_925 hl.1 ⟨Nat.le_of_ble_eq_true rfl, Nat.le_of_ble_eq_true rfl⟩ ⟨by show 90 + 2 * t + 1 ≤ 601024; omega, by show 1368 + 12 * t + 6 ≤ 7293034; omega⟩ (Nat.le_of_ble_eq_true rfl) rfl rfl (fun vr S_2 H locs hP hJ => ?_)
    obtain ⟨x2, rfl, ht2, hK2, hok, hno⟩ := hP
    have eF : (sM S_2).1 2 = k0 := by rw [ht2, hk0]; exact by split <;> rfl
    have hk00 : ¬ k0 = 0 := fun y => hF0 (by rw [hk0] at y; exact m10.mp y)
    have hM2 := hno (fun y => hk00 (by rw [← eF, ht2, y]))
    refine lv_istore (lv' := [(6, .int (x2)), (5, .int k0), (0, .ref b), (1, .ref (gA E 83)), (2, .ref (gA E 84)), (3, .ref (gA E 89)), (4, .int (nI (4 * t)))]) hx hb dL_law_928 hl (by decide) rfl (fun ls hl => ?_)
    refine lv_aload_n hx hb dL_law_930 rfl (lv_at hl 4 rfl) ?_
    refine cr_L_92 C hJ (rest := []) (c_X7_thrown hE) dL_law_931 hl.1 ⟨Nat.le_of_ble_eq_true rfl, Nat.le_of_ble_eq_true rfl⟩ ⟨by show 90 + 2 * t + 1 ≤ 601024; omega, by show 1368 + 12 * t + 6 ≤ 7293034; omega⟩ (Nat.le_of_ble_eq_true rfl) rfl rfl ?_
    refine lv_iload hx hb dL_law_934 (lv_at hl 1 rfl) ?_
    refine lv_icmp_eq (tgt := 941) hx hb dL_law_936 (by decide) (fun _ => ?_) (fun c_9 => absurd eF c_9)
    refine lv_iload hx hb dL_law_941 (lv_at hl 1 rfl) ?_
    refine lv_if_ne (tgt := 958) hx hb dL_law_943 (by decide) (fun _ => ?_) (fun c_9 => absurd c_9 hk00)
    refine lv_goto (tgt := 1487) hx hb dL_law_958 (by decide) ?_
    refine lv_iinc (v := nI (4 * (t + 1))) (lv' := [(4, .int (nI (4 * (t + 1)))), (6, .int (x2)), (5, .int k0), (0, .ref b), (1, .ref (gA E 83)), (2, .ref (gA E 84)), (3, .ref (gA E 89))]) hx hb dL_law_1487 hl (k := 6) rfl (by exact nI_add (4 * t) 4) (by decide) rfl (fun ls hl => ?_)
    refine lv_goto (tgt := 23) hx hb dL_law_1490 (by decide) ?_
    refine W.widen (k := 90 + 2 * (t + 1)) (n := 1368 + 12 * (t + 1)) (by omega) (by omega) ?_
    exact hk S_2 _ _ _ _ _ H locs ls (hLI.no hK2 hM2) hJ (lv_sub hl [3, 4, 5, 6, 0] rfl)
set_option maxHeartbeats 4000000 in
set_option maxRecDepth 100000 in
theorem lc_14 {p : Program} {l : Launch} {e : Env} {s : State} {m : MethodId} {below : List Frame} {meth : Method} {c : Code} {b L : Nat} {xs : Nat → Int32} {E : GE} {X : EX} {u_x : Nat × Nat × Nat} (C : Cx E p s m meth c cL_law RL 7) (hX : Env1 E X) (hX2 : Env2 l E u_x) (h3 : Env3 E) (hgs : gS E = s) (hsc : va_X b L xs s s.heap) (hbl : b < s.heap.size) (hL : L ≤ 2048) {t : Nat} (ht : 4 * t + 4 ≤ L) {n : Nat} {z : Nat → Int32} {mm : Nat → Nat → Int32} {mc : Nat} {sv : Nat → LVt} {u_n : Nat} {u_b : Nat → Int32} {S : ST} (hLI : LI S (n, z, mm) mc sv u_n u_b) {H : Heap} {locs : List Loc} {ls : Array Slot} (hJ : JJ E S H locs) (hl : lv_has ls 7 [(0, .ref b), (1, .ref (gA E 83)), (2, .ref (gA E 84)), (3, .ref (gA E 89)), (4, .int (nI (4 * t)))]) (hk : LK p l e s m b below meth c E (t + 1)) : W p l e room_1 s m #[Value.ref b] below meth c H locs (90 + 2 * t) (1368 + 12 * t) (lw_Z below #[Value.ref b] s) (F0 m 961 ls []) := by
  have hE := C.env
  have hx := C.x
  have hb := C.b
  obtain ⟨hXI, hMI, hG, hGs, hN, ⟨u_p, u_f, u_c, u_g, hTX⟩, u_p2, u_k2, u_g2, hTM⟩ := id hLI
  have hn : n ≤ 10 := hG.1
  have hV : VOk n mm := hG.2
  have hm4 := hMI.2.2.1
  obtain ⟨p0, hp0⟩ : ∃ y, y = xs (4 * t + 1) := ⟨_, rfl⟩
  obtain ⟨p1, hp1⟩ : ∃ y, y = xs (4 * t + 2) := ⟨_, rfl⟩
  refine lv_aload_n hx hb dL_law_961 rfl (lv_at hl 1 rfl) ?_
  refine lv_aload_n hx hb dL_law_962 rfl (lv_at hl 0 rfl) ?_
  refine lv_iload hx hb dL_law_963 (lv_at hl 4 rfl) ?_
  refine lv_iconst (v := 1) hx hb dL_law_965 (by decide) ?_
  refine lv_iadd hx hb dL_law_966 ?_
  refine i_scv C hgs hsc hbl hL hJ (v := p0) (nI_add (4 * t) 1) (by omega) hp0.symm dL_law_967 ?_
  refine lv_aload_n hx hb dL_law_968 rfl (lv_at hl 0 rfl) ?_
  refine lv_iload hx hb dL_law_969 (lv_at hl 4 rfl) ?_
  refine lv_iconst (v := 2) hx hb dL_law_971 (by decide) ?_
  refine lv_iadd hx hb dL_law_972 ?_
  refine i_scv C hgs hsc hbl hL hJ (v := p1) (nI_add (4 * t) 2) (by omega) hp1.symm dL_law_973 ?_
  refine lv_aload_n hx hb dL_law_974 rfl (lv_at hl 3 rfl) ?_
  refine k_H hJ (r_XSW (rest := []) (n := 4) C hJ (cl_pair hE hX2 hXI p0 p1 h3) km_L_138 kt_L_pair k0_L kc_L_pair ⟨by decide, by decide, by decide +kernel⟩ rfl dL_law_975 hl.1 ⟨Nat.le_of_ble_eq_true rfl, Nat.le_of_ble_eq_true rfl⟩ ⟨by show 90 + 2 * t + 1 ≤ 601024; omega, by show 1368 + 12 * t + 6 ≤ 7293034; omega⟩ (Nat.le_of_ble_eq_true rfl) rfl) (fun vr S_1 H locs hP hJ => ?_)
  obtain ⟨rfl, hW⟩ := hP
  obtain ⟨k0, hk0⟩ : ∃ y, y = f_pf n p0 (bI (f_in p1 0 4)) 2 := ⟨_, rfl⟩
  rw [← hk0]
  refine lv_istore (lv' := [(5, .int k0), (0, .ref b), (1, .ref (gA E 83)), (2, .ref (gA E 84)), (3, .ref (gA E 89)), (4, .int (nI (4 * t)))]) hx hb dL_law_978 hl (by decide) rfl (fun ls hl => ?_)
  rcases hW with ⟨hF0, S_0, hR0, hS1⟩ | ⟨hF0, hS1⟩
  · skip
    have hX0 : XI S_0 (n, z, mm) mc sv := by rw [hR0]; exact hXI
    have e0 : S_0.2.2 = S.2.2 := by rw [hR0]
    have hM1 : MI S_1 (n, z, mm) mc sv := hLI.m1 e0 hS1
    have hLm : (sM S_1).1 4 = nI u_n := by rw [hS1]; exact (congrArg (fun q => q.2.1.1 4) e0).trans hTM.1
    refine lv_aload_n hx hb dL_law_980 rfl (lv_at hl 3 rfl) ?_
    refine lv_aload_n hx hb dL_law_981 rfl (lv_at hl 1 rfl) ?_
    refine lv_iload hx hb dL_law_982 (lv_at hl 5 rfl) ?_
    refine lv_iconst (v := 1) hx hb dL_law_984 (by decide) ?_
    refine lv_iadd hx hb dL_law_985 ?_
    refine i_scv C hgs hsc hbl hL hJ (v := p0) (nI_add (4 * t) 1) (by omega) hp0.symm dL_law_986 ?_
    refine lv_aload_n hx hb dL_law_987 rfl (lv_at hl 1 rfl) ?_
    refine lv_iload hx hb dL_law_988 (lv_at hl 5 rfl) ?_
    refine lv_iconst (v := 2) hx hb dL_law_990 (by decide) ?_
    refine lv_iadd hx hb dL_law_991 ?_
    refine i_scv C hgs hsc hbl hL hJ (v := p1) (nI_add (4 * t) 2) (by omega) hp1.symm dL_law_992 ?_
    refine cw_L_140 C hJ (rest := []) (c_X7_pair hE hM1 p0 p1) dL_law_993 hl.1 ⟨Nat.le_of_ble_eq_true rfl, Nat.le_of_ble_eq_true rfl⟩ ⟨by show 90 + 2 * t + 1 ≤ 601024; omega, by show 1368 + 12 * t + 6 ≤ 7293034; omega⟩ (Nat.le_of_ble_eq_true rfl) rfl rfl (fun vr S_2 H locs hP hJ => ?_)
    obtain ⟨x2, rfl, ht2, hK2, hok, hno⟩ := hP
    have eF : (sM S_2).1 2 = k0 := by rw [ht2, hk0]; try rfl
    have hk00 : k0 = 0 := by rw [hk0, hF0]
    obtain ⟨hx2, hM2⟩ := hok (by rw [← ht2, eF, hk00])
    subst hx2
    refine lv_istore (lv' := [(6, .int (f_pval (gof n mm) (z 3) p0 p1.toNatClampNeg)), (5, .int k0), (0, .ref b), (1, .ref (gA E 83)), (2, .ref (gA E 84)), (3, .ref (gA E 89)), (4, .int (nI (4 * t)))]) hx hb dL_law_996 hl (by decide) rfl (fun ls hl => ?_)
    refine lv_aload_n hx hb dL_law_998 rfl (lv_at hl 4 rfl) ?_
    refine cr_L_92 C hJ (rest := []) (c_X7_thrown hE) dL_law_999 hl.1 ⟨Nat.le_of_ble_eq_true rfl, Nat.le_of_ble_eq_true rfl⟩ ⟨by show 90 + 2 * t + 1 ≤ 601024; omega, by show 1368 + 12 * t + 6 ≤ 7293034; omega⟩ (Nat.le_of_ble_eq_true rfl) rfl rfl ?_
    refine lv_iload hx hb dL_law_1002 (lv_at hl 1 rfl) ?_
    refine lv_icmp_eq (tgt := 1009) hx hb dL_law_1004 (by decide) (fun _ => ?_) (fun c_9 => absurd eF c_9)
    refine lv_iload hx hb dL_law_1009 (lv_at hl 1 rfl) ?_
    refine lv_if_ne (tgt := 1026) hx hb dL_law_1011 (by decide) (fun c_9 => absurd hk00 c_9) (fun _ => ?_)
    refine lv_aload_n hx hb dL_law_1014 rfl (lv_at hl 5 rfl) ?_
    refine lv_iconst (v := 0) hx hb dL_law_1015 (by decide) ?_
    refine a_ou C hJ dL_law_1016 ?_
    refine lv_iload hx hb dL_law_1017 (lv_at hl 0 rfl) ?_
    refine lv_i2l (v := (f_pval (gof n mm) (z 3) p0 p1.toNatClampNeg).toInt64) hx hb dL_law_1019 rfl ?_
    refine W.lcmp hx hb dL_law_1020 ?_
    have heq : sO S_2 0 = (f_pval (gof n mm) (z 3) p0 p1.toNatClampNeg).toInt64 := by rw [hK2.2.2.2.2.2.2, hS1, setO_0]
    refine lv_if_eq (tgt := 1026) hx hb dL_law_1021 (by decide) (fun _ => ?_) (fun c_9 => absurd (cmp0.mpr heq) c_9)
    refine lv_goto (tgt := 1487) hx hb dL_law_1026 (by decide) ?_
    refine lv_iinc (v := nI (4 * (t + 1))) (lv' := [(4, .int (nI (4 * (t + 1)))), (6, .int (f_pval (gof n mm) (z 3) p0 p1.toNatClampNeg)), (5, .int k0), (0, .ref b), (1, .ref (gA E 83)), (2, .ref (gA E 84)), (3, .ref (gA E 89))]) hx hb dL_law_1487 hl (k := 6) rfl (by exact nI_add (4 * t) 4) (by decide) rfl (fun ls hl => ?_)
    refine lv_goto (tgt := 23) hx hb dL_law_1490 (by decide) ?_
    refine W.widen (k := 90 + 2 * (t + 1)) (n := 1368 + 12 * (t + 1)) (by omega) (by omega) ?_
    exact hk S_2 _ _ _ _ _ H locs ls (hLI.ok hX0 e0 hS1 hK2 hM2 hG hGs) hJ (lv_sub hl [3, 4, 5, 6, 0] rfl)
  · skip
    rw [hS1] at hJ
    have hM1 := hMI
    have hLm := hTM.1
    refine lv_aload_n hx hb dL_law_980 rfl (lv_at hl 3 rfl) ?_
    refine lv_aload_n hx hb dL_law_981 rfl (lv_at hl 1 rfl) ?_
    refine lv_iload hx hb dL_law_982 (lv_at hl 5 rfl) ?_
    refine lv_iconst (v := 1) hx hb dL_law_984 (by decide) ?_
    refine lv_iadd hx hb dL_law_985 ?_
    refine i_scv C hgs hsc hbl hL hJ (v := p0) (nI_add (4 * t) 1) (by omega) hp0.symm dL_law_986 ?_
    refine lv_aload_n hx hb dL_law_987 rfl (lv_at hl 1 rfl) ?_
    refine lv_iload hx hb dL_law_988 (lv_at hl 5 rfl) ?_
    refine lv_iconst (v := 2) hx hb dL_law_990 (by decide) ?_
    refine lv_iadd hx hb dL_law_991 ?_
    refine i_scv C hgs hsc hbl hL hJ (v := p1) (nI_add (4 * t) 2) (by omega) hp1.symm dL_law_992 ?_
    refine cw_L_140 C hJ (rest := []) (c_X7_pair hE hM1 p0 p1) dL_law_993 hl.1 ⟨Nat.le_of_ble_eq_true rfl, Nat.le_of_ble_eq_true rfl⟩ ⟨by show 90 + 2 * t + 1 ≤ 601024; omega, by show 1368 + 12 * t + 6 ≤ 7293034; omega⟩ (Nat.le_of_ble_eq_true rfl) rfl rfl (fun vr S_2 H locs hP hJ => ?_)
    obtain ⟨x2, rfl, ht2, hK2, hok, hno⟩ := hP
    have eF : (sM S_2).1 2 = k0 := by rw [ht2, hk0]; try rfl
    have hk00 : ¬ k0 = 0 := fun y => hF0 (by rw [hk0] at y; exact y)
    have hM2 := hno (fun y => hk00 (by rw [← eF, ht2, y]))
    refine lv_istore (lv' := [(6, .int (x2)), (5, .int k0), (0, .ref b), (1, .ref (gA E 83)), (2, .ref (gA E 84)), (3, .ref (gA E 89)), (4, .int (nI (4 * t)))]) hx hb dL_law_996 hl (by decide) rfl (fun ls hl => ?_)
    refine lv_aload_n hx hb dL_law_998 rfl (lv_at hl 4 rfl) ?_
    refine cr_L_92 C hJ (rest := []) (c_X7_thrown hE) dL_law_999 hl.1 ⟨Nat.le_of_ble_eq_true rfl, Nat.le_of_ble_eq_true rfl⟩ ⟨by show 90 + 2 * t + 1 ≤ 601024; omega, by show 1368 + 12 * t + 6 ≤ 7293034; omega⟩ (Nat.le_of_ble_eq_true rfl) rfl rfl ?_
    refine lv_iload hx hb dL_law_1002 (lv_at hl 1 rfl) ?_
    refine lv_icmp_eq (tgt := 1009) hx hb dL_law_1004 (by decide) (fun _ => ?_) (fun c_9 => absurd eF c_9)
    refine lv_iload hx hb dL_law_1009 (lv_at hl 1 rfl) ?_
    refine lv_if_ne (tgt := 1026) hx hb dL_law_1011 (by decide) (fun _ => ?_) (fun c_9 => absurd c_9 hk00)
    refine lv_goto (tgt := 1487) hx hb dL_law_1026 (by decide) ?_
    refine lv_iinc (v := nI (4 * (t + 1))) (lv' := [(4, .int (nI (4 * (t + 1)))), (6, .int (x2)), (5, .int k0), (0, .ref b), (1, .ref (gA E 83)), (2, .ref (gA E 84)), (3, .ref (gA E 89))]) hx hb dL_law_1487 hl (k := 6) rfl (by exact nI_add (4 * t) 4) (by decide) rfl (fun ls hl => ?_)
    refine lv_goto (tgt := 23) hx hb dL_law_1490 (by decide) ?_
    refine W.widen (k := 90 + 2 * (t + 1)) (n := 1368 + 12 * (t + 1)) (by omega) (by omega) ?_
    exact hk S_2 _ _ _ _ _ H locs ls (hLI.no hK2 hM2) hJ (lv_sub hl [3, 4, 5, 6, 0] rfl)
