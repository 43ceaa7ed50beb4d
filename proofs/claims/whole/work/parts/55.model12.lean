/-! MODEL: public calls (by program) -/
theorem cm_memberValue {l : Launch} {E : GE} (hE : Env0 E) {S : ST} {n : Nat} {z : Nat → Int32} {mm : Nat → Nat → Int32} (hR : RI S n z mm) (hM : MmOk n mm) (P : Nat) (hP0 : P < n) (w : Nat) (hw : w < 10) {p0 p1 : Int32} (ep : p0 = nI P) (eq : p1 = nI w) : MR l E yX7_memberValue cX7_memberValue 3 (some .int) 2 45 S [.ref (gA E 84), .int p0, .int p1] (some (.int (f_mval (gof n mm) P w))) := by subst ep; subst eq; exact c_X7_memberValue hE hR hM P hP0 w hw
theorem cm_pairValue {l : Launch} {E : GE} (hE : Env0 E) {S : ST} {n : Nat} {z : Nat → Int32} {mm : Nat → Nat → Int32} (hR : RI S n z mm) (hM : MmOk n mm) (P : Nat) (hP : P + 1 < n) (w : Nat) (hw : w < 5) {p0 p1 : Int32} (ep : p0 = nI P) (eq : p1 = nI w) : MR l E yX7_pairValue cX7_pairValue 3 (some .int) 4 85 S [.ref (gA E 84), .int p0, .int p1] (some (.int (f_pval (gof n mm) (z 3) (nI P) w))) := by subst ep; subst eq; exact c_X7_pairValue hE hR hM P hP w hw
theorem KM.s1 {S : ST} {x : Int32} : KM S (setM S (mMs (sM S) 1 x)) := ⟨rfl, rfl, rfl, fun _ h1 _ => if_neg h1, rfl, rfl, rfl⟩
theorem MI.pop {S S1 S2 : ST} {cv : LVt} {mc : Nat} {sv : Nat → LVt} (h : MI S cv mc sv) (h0 : 0 < mc) (hw : RW S S1 (rci (sM S).2.1 (76 * mc) 0 76)) (e : S2 = setM S1 (mMs (sM S1) 1 ((sM S1).1 1 - 1))) : MI S2 (sv (mc - 1)) (mc - 1) sv := by
  have h4 := h.2.2.1
  obtain ⟨a1, a2⟩ := h.2.2.2.2 (mc - 1) (by omega)
  have er : (sM S2).2.1 = rci (sM S).2.1 (76 * mc) 0 76 := by rw [e]; exact hw.2.2.2.2.2.2
  have ek : (sM S2).1 1 = nI (mc - 1) := by
    rw [e]; show (sM S1).1 1 - 1 = _
    rw [hw.2.2.2.1, h.2.2.2.1]; exact nI_pd h0
  rw [show mc - 1 + 1 = mc by omega] at a1
  refine ⟨?_, a2, by omega, ek, fun k hk => ⟨?_, (h.2.2.2.2 k (by omega)).2⟩⟩
  · unfold RI; rw [er]; exact a1.cp
  · rw [er]; exact (h.2.2.2.2 k (by omega)).1.of (by omega)
set_option maxHeartbeats 4000000 in
set_option maxRecDepth 100000 in
theorem c_X7_leave {l : Launch} {E : GE} (hE : Env0 E) {S : ST} {n : Nat} {z : Nat → Int32} {mm : Nat → Nat → Int32} {mc : Nat} {sv : Nat → LVt} (hI : MI S (n, z, mm) mc sv) (p0 : Int32) (fu : Nat) : MW l E yX7_leave cX7_leave 3 (some .int) 3 68 S [.ref (gA E 84), .int p0] (fun v S1 => MP S S1 v (f_mf (f_place (gof n mm) n p0) 1) ((f_co fu n z mm 2 p0 0 0).1) (n, z, mm) mc sv (f_co fu n z mm 2 p0 0 0).2 (f_push (n, z, mm) mc sv).1 (f_push (n, z, mm) mc sv).2) := by
  have hM : MmOk n mm := hI.2.1
  have hn : n ≤ 10 := hI.1.n10
  refine MW.of hE (by decide) (Nat.le_of_ble_eq_true rfl) ?_
  intro p e s m below meth c ls C hJ hr hl
  have hx := C.x
  have hb := C.b
  have hl : lv_has ls 3 [(0, .ref (gA E 84)), (1, .int p0)] := hl
  refine lv_aload_n hx hb dX7_leave_0 rfl (lv_at hl 0 rfl) ?_
  refine lv_aload_n hx hb dX7_leave_1 rfl (lv_at hl 0 rfl) ?_
  refine lv_iload_n hx hb dX7_leave_2 rfl (lv_at hl 1 rfl) ?_
  refine cr_X7_66 C hJ (rest := [.ref (gA E 84)]) (c_X7_whyNoMember hE hI.1 p0) dX7_leave_3 hl.1 ⟨Nat.le_of_ble_eq_true rfl, Nat.le_of_ble_eq_true rfl⟩ ⟨Nat.le_refl _, Nat.le_refl _⟩ (Nat.le_of_ble_eq_true rfl) rfl rfl ?_
  refine cw_X7_56 C hJ (rest := []) (cm_refuse hE hI (f_mf (f_place (gof n mm) n p0) 1)) dX7_leave_6 hl.1 ⟨Nat.le_of_ble_eq_true rfl, Nat.le_of_ble_eq_true rfl⟩ ⟨Nat.le_refl _, Nat.le_refl _⟩ (Nat.le_of_ble_eq_true rfl) rfl rfl (fun vr S_6 H locs hP hJ => ?_)
  obtain ⟨rfl, hI_6, hK_6, ht_6⟩ := hP
  refine lv_if_eq (tgt := 14) hx hb dX7_leave_9 (by decide) (fun c_9 => ?_) (fun c_9 => ?_)
  · skip
    have hf := ref0 c_9
    have hf0 : (f_ft (gof n mm) n 2 p0 0 0) = 0 := hf
    refine lv_aload_n hx hb dX7_leave_14 rfl (lv_at hl 0 rfl) ?_
    refine cw_X7_60 C hJ (rest := []) (cm_saves hE hI_6) dX7_leave_15 hl.1 ⟨Nat.le_of_ble_eq_true rfl, Nat.le_of_ble_eq_true rfl⟩ ⟨Nat.le_refl _, Nat.le_refl _⟩ (Nat.le_of_ble_eq_true rfl) rfl rfl (fun vr S_15 H locs hP hJ => ?_)
    obtain ⟨rfl, hI_15, hKa_15, hta_15⟩ := hP
    have hK_15 := hK_6.t hKa_15
    have ht_15 := hta_15.trans ht_6
    refine lv_aload_n hx hb dX7_leave_18 rfl (lv_at hl 0 rfl) ?_
    refine lv_iload_n hx hb dX7_leave_19 rfl (lv_at hl 1 rfl) ?_
    refine cr_X7_45 C hJ (rest := []) (c_X7_find hE hI_15.1 p0) dX7_leave_20 hl.1 ⟨Nat.le_of_ble_eq_true rfl, Nat.le_of_ble_eq_true rfl⟩ ⟨Nat.le_refl _, Nat.le_refl _⟩ (Nat.le_of_ble_eq_true rfl) rfl rfl ?_
    refine lv_istore_n (lv' := [(2, .int (f_place (gof n mm) n p0)), (0, .ref (gA E 84)), (1, .int p0)]) hx hb dX7_leave_23 rfl hl (by decide) rfl (fun ls hl => ?_)
    refine lv_aload_n hx hb dX7_leave_24 rfl (lv_at hl 1 rfl) ?_
    refine lv_iload_n hx hb dX7_leave_25 rfl (lv_at hl 0 rfl) ?_
    refine cw_X7_69 C hJ (rest := []) (cz_2 hE hI_15.1 hM (a := p0) (b := 0) (d := 0) hf0 fu) dX7_leave_26 hl.1 ⟨Nat.le_of_ble_eq_true rfl, Nat.le_of_ble_eq_true rfl⟩ ⟨Nat.le_refl _, Nat.le_refl _⟩ (Nat.le_of_ble_eq_true rfl) rfl rfl (fun vr S_26 H locs hP hJ => ?_)
    obtain ⟨rfl, hL_26⟩ := hP
    have hI_26 := hI_15.lr hL_26
    have hK_26 := hK_15.t hL_26.th.1
    have ht_26 := hL_26.th.2.trans ht_15
    refine lv_iload_n hx hb dX7_leave_29 rfl (lv_at hl 0 rfl) ?_
    exact rW_i C hJ hr rfl (MP.ok hf rfl hI_26 hK_26 ht_26) dX7_leave_30
  · skip
    have hf := ref1 c_9
    refine lv_iconst (v := 0) hx hb dX7_leave_12 (by decide) ?_
    exact rW_i C hJ hr rfl (MP.bad hf hI_6 hK_6 ht_6) dX7_leave_13
set_option maxHeartbeats 4000000 in
set_option maxRecDepth 100000 in
theorem c_X7_join {l : Launch} {E : GE} (hE : Env0 E) {S : ST} {n : Nat} {z : Nat → Int32} {mm : Nat → Nat → Int32} {mc : Nat} {sv : Nat → LVt} (hI : MI S (n, z, mm) mc sv) (p0 p1 : Int32) (fu : Nat) : MW l E yX7_join cX7_join 3 (some .int) 3 70 S [.ref (gA E 84), .int p0, .int p1] (fun v S1 => MP S S1 v (m_j (f_jf (gof n mm) n p0 p1 (nI n))) ((f_co fu n z mm 0 p0 p1 0).1) (n, z, mm) mc sv (f_co fu n z mm 0 p0 p1 0).2 (f_push (n, z, mm) mc sv).1 (f_push (n, z, mm) mc sv).2) := by
  have hM : MmOk n mm := hI.2.1
  have hn : n ≤ 10 := hI.1.n10
  refine MW.of hE (by decide) (Nat.le_of_ble_eq_true rfl) ?_
  intro p e s m below meth c ls C hJ hr hl
  have hx := C.x
  have hb := C.b
  have hl : lv_has ls 3 [(0, .ref (gA E 84)), (1, .int p0), (2, .int p1)] := hl
  refine lv_aload_n hx hb dX7_join_0 rfl (lv_at hl 0 rfl) ?_
  refine lv_aload_n hx hb dX7_join_1 rfl (lv_at hl 0 rfl) ?_
  refine lv_iload_n hx hb dX7_join_2 rfl (lv_at hl 1 rfl) ?_
  refine lv_iload_n hx hb dX7_join_3 rfl (lv_at hl 2 rfl) ?_
  refine lv_aload_n hx hb dX7_join_4 rfl (lv_at hl 0 rfl) ?_
  refine g_X7_7 C hJ dX7_join_5 ?_
  refine lv_iconst (v := 0) hx hb dX7_join_8 (by decide) ?_
  refine a_ro C hJ (P := 0) (rfl) (by decide) dX7_join_9 ?_
  rw [hI.1.many]
  · skip
    refine cr_X7_52 C hJ (rest := [.ref (gA E 84)]) (c_X7_whyNotJoin hE hI.1 hM p0 p1 (nI n)) dX7_join_10 hl.1 ⟨Nat.le_of_ble_eq_true rfl, Nat.le_of_ble_eq_true rfl⟩ ⟨Nat.le_refl _, Nat.le_refl _⟩ (Nat.le_of_ble_eq_true rfl) rfl rfl ?_
    refine cw_X7_56 C hJ (rest := []) (cm_refuse hE hI (m_j (f_jf (gof n mm) n p0 p1 (nI n)))) dX7_join_13 hl.1 ⟨Nat.le_of_ble_eq_true rfl, Nat.le_of_ble_eq_true rfl⟩ ⟨Nat.le_refl _, Nat.le_refl _⟩ (Nat.le_of_ble_eq_true rfl) rfl rfl (fun vr S_13 H locs hP hJ => ?_)
    obtain ⟨rfl, hI_13, hK_13, ht_13⟩ := hP
    refine lv_if_eq (tgt := 21) hx hb dX7_join_16 (by decide) (fun c_16 => ?_) (fun c_16 => ?_)
    · skip
      have hf := ref0 c_16
      have hf0 : (f_ft (gof n mm) n 0 p0 p1 0) = 0 := (mj0 (jf3 _ _ _ _ _)).mp hf
      refine lv_aload_n hx hb dX7_join_21 rfl (lv_at hl 0 rfl) ?_
      refine cw_X7_60 C hJ (rest := []) (cm_saves hE hI_13) dX7_join_22 hl.1 ⟨Nat.le_of_ble_eq_true rfl, Nat.le_of_ble_eq_true rfl⟩ ⟨Nat.le_refl _, Nat.le_refl _⟩ (Nat.le_of_ble_eq_true rfl) rfl rfl (fun vr S_22 H locs hP hJ => ?_)
      obtain ⟨rfl, hI_22, hKa_22, hta_22⟩ := hP
      have hK_22 := hK_13.t hKa_22
      have ht_22 := hta_22.trans ht_13
      refine lv_aload_n hx hb dX7_join_25 rfl (lv_at hl 0 rfl) ?_
      refine lv_iload_n hx hb dX7_join_26 rfl (lv_at hl 1 rfl) ?_
      refine lv_iload_n hx hb dX7_join_27 rfl (lv_at hl 2 rfl) ?_
      refine lv_aload_n hx hb dX7_join_28 rfl (lv_at hl 0 rfl) ?_
      refine g_X7_7 C hJ dX7_join_29 ?_
      refine lv_iconst (v := 0) hx hb dX7_join_32 (by decide) ?_
      refine a_ro C hJ (P := 0) (rfl) (by decide) dX7_join_33 ?_
      rw [hI_22.1.many]
      · skip
        refine cw_X7_63 C hJ (rest := []) (cz_0 hE hI_22.1 hM (d := 0) hf0 fu rfl) dX7_join_34 hl.1 ⟨Nat.le_of_ble_eq_true rfl, Nat.le_of_ble_eq_true rfl⟩ ⟨Nat.le_refl _, Nat.le_refl _⟩ (Nat.le_of_ble_eq_true rfl) rfl rfl (fun vr S_34 H locs hP hJ => ?_)
        obtain ⟨rfl, hL_34⟩ := hP
        have hI_34 := hI_22.lr hL_34
        have hK_34 := hK_22.t hL_34.th.1
        have ht_34 := hL_34.th.2.trans ht_22
        exact rW_i C hJ hr rfl (MP.ok hf rfl hI_34 hK_34 ht_34) dX7_join_37
    · skip
      have hf := ref1 c_16
      refine lv_iconst (v := 0) hx hb dX7_join_19 (by decide) ?_
      exact rW_i C hJ hr rfl (MP.bad hf hI_13 hK_13 ht_13) dX7_join_20
set_option maxHeartbeats 4000000 in
set_option maxRecDepth 100000 in
theorem c_X7_joinAt {l : Launch} {E : GE} (hE : Env0 E) {S : ST} {n : Nat} {z : Nat → Int32} {mm : Nat → Nat → Int32} {mc : Nat} {sv : Nat → LVt} (hI : MI S (n, z, mm) mc sv) (p0 p1 p2 : Int32) (fu : Nat) : MW l E yX7_joinAt cX7_joinAt 4 (some .int) 3 70 S [.ref (gA E 84), .int p0, .int p1, .int p2] (fun v S1 => MP S S1 v (m_j (f_jf (gof n mm) n p0 p1 p2)) ((f_co fu n z mm 1 p0 p1 p2).1) (n, z, mm) mc sv (f_co fu n z mm 1 p0 p1 p2).2 (f_push (n, z, mm) mc sv).1 (f_push (n, z, mm) mc sv).2) := by
  have hM : MmOk n mm := hI.2.1
  have hn : n ≤ 10 := hI.1.n10
  refine MW.of hE (by decide) (Nat.le_of_ble_eq_true rfl) ?_
  intro p e s m below meth c ls C hJ hr hl
  have hx := C.x
  have hb := C.b
  have hl : lv_has ls 4 [(0, .ref (gA E 84)), (1, .int p0), (2, .int p1), (3, .int p2)] := hl
  refine lv_aload_n hx hb dX7_joinAt_0 rfl (lv_at hl 0 rfl) ?_
  refine lv_aload_n hx hb dX7_joinAt_1 rfl (lv_at hl 0 rfl) ?_
  refine lv_iload_n hx hb dX7_joinAt_2 rfl (lv_at hl 1 rfl) ?_
  refine lv_iload_n hx hb dX7_joinAt_3 rfl (lv_at hl 2 rfl) ?_
  refine lv_iload_n hx hb dX7_joinAt_4 rfl (lv_at hl 3 rfl) ?_
  refine cr_X7_52 C hJ (rest := [.ref (gA E 84)]) (c_X7_whyNotJoin hE hI.1 hM p0 p1 p2) dX7_joinAt_5 hl.1 ⟨Nat.le_of_ble_eq_true rfl, Nat.le_of_ble_eq_true rfl⟩ ⟨Nat.le_refl _, Nat.le_refl _⟩ (Nat.le_of_ble_eq_true rfl) rfl rfl ?_
  refine cw_X7_56 C hJ (rest := []) (cm_refuse hE hI (m_j (f_jf (gof n mm) n p0 p1 p2))) dX7_joinAt_8 hl.1 ⟨Nat.le_of_ble_eq_true rfl, Nat.le_of_ble_eq_true rfl⟩ ⟨Nat.le_refl _, Nat.le_refl _⟩ (Nat.le_of_ble_eq_true rfl) rfl rfl (fun vr S_8 H locs hP hJ => ?_)
  obtain ⟨rfl, hI_8, hK_8, ht_8⟩ := hP
  refine lv_if_eq (tgt := 16) hx hb dX7_joinAt_11 (by decide) (fun c_11 => ?_) (fun c_11 => ?_)
  · skip
    have hf := ref0 c_11
    have hf0 : (f_ft (gof n mm) n 1 p0 p1 p2) = 0 := (mj0 (jf3 _ _ _ _ _)).mp hf
    refine lv_aload_n hx hb dX7_joinAt_16 rfl (lv_at hl 0 rfl) ?_
    refine cw_X7_60 C hJ (rest := []) (cm_saves hE hI_8) dX7_joinAt_17 hl.1 ⟨Nat.le_of_ble_eq_true rfl, Nat.le_of_ble_eq_true rfl⟩ ⟨Nat.le_refl _, Nat.le_refl _⟩ (Nat.le_of_ble_eq_true rfl) rfl rfl (fun vr S_17 H locs hP hJ => ?_)
    obtain ⟨rfl, hI_17, hKa_17, hta_17⟩ := hP
    have hK_17 := hK_8.t hKa_17
    have ht_17 := hta_17.trans ht_8
    refine lv_aload_n hx hb dX7_joinAt_20 rfl (lv_at hl 0 rfl) ?_
    refine lv_iload_n hx hb dX7_joinAt_21 rfl (lv_at hl 1 rfl) ?_
    refine lv_iload_n hx hb dX7_joinAt_22 rfl (lv_at hl 2 rfl) ?_
    refine lv_iload_n hx hb dX7_joinAt_23 rfl (lv_at hl 3 rfl) ?_
    refine cw_X7_63 C hJ (rest := []) (cz_1 hE hI_17.1 hM hf0 fu) dX7_joinAt_24 hl.1 ⟨Nat.le_of_ble_eq_true rfl, Nat.le_of_ble_eq_true rfl⟩ ⟨Nat.le_refl _, Nat.le_refl _⟩ (Nat.le_of_ble_eq_true rfl) rfl rfl (fun vr S_24 H locs hP hJ => ?_)
    obtain ⟨rfl, hL_24⟩ := hP
    have hI_24 := hI_17.lr hL_24
    have hK_24 := hK_17.t hL_24.th.1
    have ht_24 := hL_24.th.2.trans ht_17
    exact rW_i C hJ hr rfl (MP.ok hf rfl hI_24 hK_24 ht_24) dX7_joinAt_27
  · skip
    have hf := ref1 c_11
    refine lv_iconst (v := 0) hx hb dX7_joinAt_14 (by decide) ?_
    exact rW_i C hJ hr rfl (MP.bad hf hI_8 hK_8 ht_8) dX7_joinAt_15
set_option maxHeartbeats 4000000 in
set_option maxRecDepth 100000 in
theorem c_X7_say {l : Launch} {E : GE} (hE : Env0 E) {S : ST} {n : Nat} {z : Nat → Int32} {mm : Nat → Nat → Int32} {mc : Nat} {sv : Nat → LVt} (hI : MI S (n, z, mm) mc sv) (p0 p1 : Int32) (fu : Nat) : MW l E yX7_say cX7_say 3 (some .int) 3 68 S [.ref (gA E 84), .int p0, .int p1] (fun v S1 => MP S S1 v (f_mf (f_place (gof n mm) n p0) (bI (f_in p1 0 99))) ((f_co fu n z mm 3 p0 p1 0).1) (n, z, mm) mc sv (f_co fu n z mm 3 p0 p1 0).2 (f_push (n, z, mm) mc sv).1 (f_push (n, z, mm) mc sv).2) := by
  have hM : MmOk n mm := hI.2.1
  have hn : n ≤ 10 := hI.1.n10
  refine MW.of hE (by decide) (Nat.le_of_ble_eq_true rfl) ?_
  intro p e s m below meth c ls C hJ hr hl
  have hx := C.x
  have hb := C.b
  have hl : lv_has ls 3 [(0, .ref (gA E 84)), (1, .int p0), (2, .int p1)] := hl
  refine lv_aload_n hx hb dX7_say_0 rfl (lv_at hl 0 rfl) ?_
  refine lv_aload_n hx hb dX7_say_1 rfl (lv_at hl 0 rfl) ?_
  refine lv_iload_n hx hb dX7_say_2 rfl (lv_at hl 1 rfl) ?_
  refine lv_iload_n hx hb dX7_say_3 rfl (lv_at hl 2 rfl) ?_
  refine cr_X7_77 C hJ (rest := [.ref (gA E 84)]) (c_X7_whyNotSay hE hI.1 p0 p1) dX7_say_4 hl.1 ⟨Nat.le_of_ble_eq_true rfl, Nat.le_of_ble_eq_true rfl⟩ ⟨Nat.le_refl _, Nat.le_refl _⟩ (Nat.le_of_ble_eq_true rfl) rfl rfl ?_
  refine cw_X7_56 C hJ (rest := []) (cm_refuse hE hI (f_mf (f_place (gof n mm) n p0) (bI (f_in p1 0 99)))) dX7_say_7 hl.1 ⟨Nat.le_of_ble_eq_true rfl, Nat.le_of_ble_eq_true rfl⟩ ⟨Nat.le_refl _, Nat.le_refl _⟩ (Nat.le_of_ble_eq_true rfl) rfl rfl (fun vr S_7 H locs hP hJ => ?_)
  obtain ⟨rfl, hI_7, hK_7, ht_7⟩ := hP
  refine lv_if_eq (tgt := 15) hx hb dX7_say_10 (by decide) (fun c_10 => ?_) (fun c_10 => ?_)
  · skip
    have hf := ref0 c_10
    have hf0 : (f_ft (gof n mm) n 3 p0 p1 0) = 0 := hf
    refine lv_aload_n hx hb dX7_say_15 rfl (lv_at hl 0 rfl) ?_
    refine cw_X7_60 C hJ (rest := []) (cm_saves hE hI_7) dX7_say_16 hl.1 ⟨Nat.le_of_ble_eq_true rfl, Nat.le_of_ble_eq_true rfl⟩ ⟨Nat.le_refl _, Nat.le_refl _⟩ (Nat.le_of_ble_eq_true rfl) rfl rfl (fun vr S_16 H locs hP hJ => ?_)
    obtain ⟨rfl, hI_16, hKa_16, hta_16⟩ := hP
    have hK_16 := hK_7.t hKa_16
    have ht_16 := hta_16.trans ht_7
    refine lv_aload_n hx hb dX7_say_19 rfl (lv_at hl 0 rfl) ?_
    refine lv_iload_n hx hb dX7_say_20 rfl (lv_at hl 1 rfl) ?_
    refine lv_iload_n hx hb dX7_say_21 rfl (lv_at hl 2 rfl) ?_
    refine cw_X7_80 C hJ (rest := []) (cz_3 hE hI_16.1 hM (d := 0) hf0 fu) dX7_say_22 hl.1 ⟨Nat.le_of_ble_eq_true rfl, Nat.le_of_ble_eq_true rfl⟩ ⟨Nat.le_refl _, Nat.le_refl _⟩ (Nat.le_of_ble_eq_true rfl) rfl rfl (fun vr S_22 H locs hP hJ => ?_)
    obtain ⟨rfl, hL_22⟩ := hP
    have hI_22 := hI_16.lr hL_22
    have hK_22 := hK_16.t hL_22.th.1
    have ht_22 := hL_22.th.2.trans ht_16
    exact rW_i C hJ hr rfl (MP.ok hf rfl hI_22 hK_22 ht_22) dX7_say_25
  · skip
    have hf := ref1 c_10
    refine lv_iconst (v := 0) hx hb dX7_say_13 (by decide) ?_
    exact rW_i C hJ hr rfl (MP.bad hf hI_7 hK_7 ht_7) dX7_say_14
set_option maxHeartbeats 4000000 in
set_option maxRecDepth 100000 in
theorem c_X7_offer {l : Launch} {E : GE} (hE : Env0 E) {S : ST} {n : Nat} {z : Nat → Int32} {mm : Nat → Nat → Int32} {mc : Nat} {sv : Nat → LVt} (hI : MI S (n, z, mm) mc sv) (p0 p1 : Int32) (fu : Nat) : MW l E yX7_offer cX7_offer 3 (some .int) 3 68 S [.ref (gA E 84), .int p0, .int p1] (fun v S1 => MP S S1 v (f_of (f_place (gof n mm) n p0) p1) ((f_co fu n z mm 4 p0 p1 0).1) (n, z, mm) mc sv (f_co fu n z mm 4 p0 p1 0).2 (f_push (n, z, mm) mc sv).1 (f_push (n, z, mm) mc sv).2) := by
  have hM : MmOk n mm := hI.2.1
  have hn : n ≤ 10 := hI.1.n10
  refine MW.of hE (by decide) (Nat.le_of_ble_eq_true rfl) ?_
  intro p e s m below meth c ls C hJ hr hl
  have hx := C.x
  have hb := C.b
  have hl : lv_has ls 3 [(0, .ref (gA E 84)), (1, .int p0), (2, .int p1)] := hl
  refine lv_aload_n hx hb dX7_offer_0 rfl (lv_at hl 0 rfl) ?_
  refine lv_aload_n hx hb dX7_offer_1 rfl (lv_at hl 0 rfl) ?_
  refine lv_iload_n hx hb dX7_offer_2 rfl (lv_at hl 1 rfl) ?_
  refine lv_iload_n hx hb dX7_offer_3 rfl (lv_at hl 2 rfl) ?_
  refine cr_X7_95 C hJ (rest := [.ref (gA E 84)]) (c_X7_whyNotOffer hE hI.1 p0 p1) dX7_offer_4 hl.1 ⟨Nat.le_of_ble_eq_true rfl, Nat.le_of_ble_eq_true rfl⟩ ⟨Nat.le_refl _, Nat.le_refl _⟩ (Nat.le_of_ble_eq_true rfl) rfl rfl ?_
  refine cw_X7_56 C hJ (rest := []) (cm_refuse hE hI (f_of (f_place (gof n mm) n p0) p1)) dX7_offer_7 hl.1 ⟨Nat.le_of_ble_eq_true rfl, Nat.le_of_ble_eq_true rfl⟩ ⟨Nat.le_refl _, Nat.le_refl _⟩ (Nat.le_of_ble_eq_true rfl) rfl rfl (fun vr S_7 H locs hP hJ => ?_)
  obtain ⟨rfl, hI_7, hK_7, ht_7⟩ := hP
  refine lv_if_eq (tgt := 15) hx hb dX7_offer_10 (by decide) (fun c_10 => ?_) (fun c_10 => ?_)
  · skip
    have hf := ref0 c_10
    have hf0 : (f_ft (gof n mm) n 4 p0 p1 0) = 0 := hf
    refine lv_aload_n hx hb dX7_offer_15 rfl (lv_at hl 0 rfl) ?_
    refine cw_X7_60 C hJ (rest := []) (cm_saves hE hI_7) dX7_offer_16 hl.1 ⟨Nat.le_of_ble_eq_true rfl, Nat.le_of_ble_eq_true rfl⟩ ⟨Nat.le_refl _, Nat.le_refl _⟩ (Nat.le_of_ble_eq_true rfl) rfl rfl (fun vr S_16 H locs hP hJ => ?_)
    obtain ⟨rfl, hI_16, hKa_16, hta_16⟩ := hP
    have hK_16 := hK_7.t hKa_16
    have ht_16 := hta_16.trans ht_7
    refine lv_aload_n hx hb dX7_offer_19 rfl (lv_at hl 0 rfl) ?_
    refine lv_iload_n hx hb dX7_offer_20 rfl (lv_at hl 1 rfl) ?_
    refine lv_iload_n hx hb dX7_offer_21 rfl (lv_at hl 2 rfl) ?_
    refine cw_X7_98 C hJ (rest := []) (cz_4 hE hI_16.1 hM (d := 0) hf0 fu) dX7_offer_22 hl.1 ⟨Nat.le_of_ble_eq_true rfl, Nat.le_of_ble_eq_true rfl⟩ ⟨Nat.le_refl _, Nat.le_refl _⟩ (Nat.le_of_ble_eq_true rfl) rfl rfl (fun vr S_22 H locs hP hJ => ?_)
    obtain ⟨rfl, hL_22⟩ := hP
    have hI_22 := hI_16.lr hL_22
    have hK_22 := hK_16.t hL_22.th.1
    have ht_22 := hL_22.th.2.trans ht_16
    exact rW_i C hJ hr rfl (MP.ok hf rfl hI_22 hK_22 ht_22) dX7_offer_25
  · skip
    have hf := ref1 c_10
    refine lv_iconst (v := 0) hx hb dX7_offer_13 (by decide) ?_
    exact rW_i C hJ hr rfl (MP.bad hf hI_7 hK_7 ht_7) dX7_offer_14
set_option maxHeartbeats 4000000 in
set_option maxRecDepth 100000 in
theorem c_X7_take {l : Launch} {E : GE} (hE : Env0 E) {S : ST} {n : Nat} {z : Nat → Int32} {mm : Nat → Nat → Int32} {mc : Nat} {sv : Nat → LVt} (hI : MI S (n, z, mm) mc sv) (p0 : Int32) (fu : Nat) : MW l E yX7_take cX7_take 2 (some .int) 4 85 S [.ref (gA E 84), .int p0] (fun v S1 => MP S S1 v (m_t (f_tf (gof n mm) (f_place (gof n mm) n p0))) ((f_co fu n z mm 5 p0 0 0).1) (n, z, mm) mc sv (f_co fu n z mm 5 p0 0 0).2 (f_push (n, z, mm) mc sv).1 (f_push (n, z, mm) mc sv).2) := by
  have hM : MmOk n mm := hI.2.1
  have hn : n ≤ 10 := hI.1.n10
  refine MW.of hE (by decide) (Nat.le_of_ble_eq_true rfl) ?_
  intro p e s m below meth c ls C hJ hr hl
  have hx := C.x
  have hb := C.b
  have hl : lv_has ls 2 [(0, .ref (gA E 84)), (1, .int p0)] := hl
  refine lv_aload_n hx hb dX7_take_0 rfl (lv_at hl 0 rfl) ?_
  refine lv_aload_n hx hb dX7_take_1 rfl (lv_at hl 0 rfl) ?_
  refine lv_iload_n hx hb dX7_take_2 rfl (lv_at hl 1 rfl) ?_
  refine cr_X7_110 C hJ (rest := [.ref (gA E 84)]) (c_X7_whyNotTake hE hI.1 hM p0) dX7_take_3 hl.1 ⟨Nat.le_of_ble_eq_true rfl, Nat.le_of_ble_eq_true rfl⟩ ⟨Nat.le_refl _, Nat.le_refl _⟩ (Nat.le_of_ble_eq_true rfl) rfl rfl ?_
  refine cw_X7_56 C hJ (rest := []) (cm_refuse hE hI (m_t (f_tf (gof n mm) (f_place (gof n mm) n p0)))) dX7_take_6 hl.1 ⟨Nat.le_of_ble_eq_true rfl, Nat.le_of_ble_eq_true rfl⟩ ⟨Nat.le_refl _, Nat.le_refl _⟩ (Nat.le_of_ble_eq_true rfl) rfl rfl (fun vr S_6 H locs hP hJ => ?_)
  obtain ⟨rfl, hI_6, hK_6, ht_6⟩ := hP
  refine lv_if_eq (tgt := 14) hx hb dX7_take_9 (by decide) (fun c_9 => ?_) (fun c_9 => ?_)
  · skip
    have hf := ref0 c_9
    have hf0 : (f_ft (gof n mm) n 5 p0 0 0) = 0 := mt0.mp hf
    refine lv_aload_n hx hb dX7_take_14 rfl (lv_at hl 0 rfl) ?_
    refine cw_X7_60 C hJ (rest := []) (cm_saves hE hI_6) dX7_take_15 hl.1 ⟨Nat.le_of_ble_eq_true rfl, Nat.le_of_ble_eq_true rfl⟩ ⟨Nat.le_refl _, Nat.le_refl _⟩ (Nat.le_of_ble_eq_true rfl) rfl rfl (fun vr S_15 H locs hP hJ => ?_)
    obtain ⟨rfl, hI_15, hKa_15, hta_15⟩ := hP
    have hK_15 := hK_6.t hKa_15
    have ht_15 := hta_15.trans ht_6
    refine lv_aload_n hx hb dX7_take_18 rfl (lv_at hl 0 rfl) ?_
    refine lv_iload_n hx hb dX7_take_19 rfl (lv_at hl 1 rfl) ?_
    refine cw_X7_113 C hJ (rest := []) (cz_5 hE hI_15.1 hM (a := p0) (b := 0) (d := 0) hf0 fu) dX7_take_20 hl.1 ⟨Nat.le_of_ble_eq_true rfl, Nat.le_of_ble_eq_true rfl⟩ ⟨Nat.le_refl _, Nat.le_refl _⟩ (Nat.le_of_ble_eq_true rfl) rfl rfl (fun vr S_20 H locs hP hJ => ?_)
    obtain ⟨rfl, hL_20⟩ := hP
    have hI_20 := hI_15.lr hL_20
    have hK_20 := hK_15.t hL_20.th.1
    have ht_20 := hL_20.th.2.trans ht_15
    exact rW_i C hJ hr rfl (MP.ok hf rfl hI_20 hK_20 ht_20) dX7_take_23
  · skip
    have hf := ref1 c_9
    refine lv_iconst (v := 0) hx hb dX7_take_12 (by decide) ?_
    exact rW_i C hJ hr rfl (MP.bad hf hI_6 hK_6 ht_6) dX7_take_13
set_option maxHeartbeats 4000000 in
set_option maxRecDepth 100000 in
theorem c_X7_swap {l : Launch} {E : GE} (hE : Env0 E) {S : ST} {n : Nat} {z : Nat → Int32} {mm : Nat → Nat → Int32} {mc : Nat} {sv : Nat → LVt} (hI : MI S (n, z, mm) mc sv) (p0 : Int32) (fu : Nat) : MW l E yX7_swap cX7_swap 2 (some .int) 5 107 S [.ref (gA E 84), .int p0] (fun v S1 => MP S S1 v (m_t (f_pf n p0 (f_would (gof n mm) p0) 3)) ((f_co fu n z mm 6 p0 0 0).1) (n, z, mm) mc sv (f_co fu n z mm 6 p0 0 0).2 (f_push (n, z, mm) mc sv).1 (f_push (n, z, mm) mc sv).2) := by
  have hM : MmOk n mm := hI.2.1
  have hn : n ≤ 10 := hI.1.n10
  refine MW.of hE (by decide) (Nat.le_of_ble_eq_true rfl) ?_
  intro p e s m below meth c ls C hJ hr hl
  have hx := C.x
  have hb := C.b
  have hl : lv_has ls 2 [(0, .ref (gA E 84)), (1, .int p0)] := hl
  refine lv_aload_n hx hb dX7_swap_0 rfl (lv_at hl 0 rfl) ?_
  refine lv_aload_n hx hb dX7_swap_1 rfl (lv_at hl 0 rfl) ?_
  refine lv_iload_n hx hb dX7_swap_2 rfl (lv_at hl 1 rfl) ?_
  refine cr_X7_119 C hJ (rest := [.ref (gA E 84)]) (c_X7_whyNotSwap hE hI.1 hM p0) dX7_swap_3 hl.1 ⟨Nat.le_of_ble_eq_true rfl, Nat.le_of_ble_eq_true rfl⟩ ⟨Nat.le_refl _, Nat.le_refl _⟩ (Nat.le_of_ble_eq_true rfl) rfl rfl ?_
  refine cw_X7_56 C hJ (rest := []) (cm_refuse hE hI (m_t (f_pf n p0 (f_would (gof n mm) p0) 3))) dX7_swap_6 hl.1 ⟨Nat.le_of_ble_eq_true rfl, Nat.le_of_ble_eq_true rfl⟩ ⟨Nat.le_refl _, Nat.le_refl _⟩ (Nat.le_of_ble_eq_true rfl) rfl rfl (fun vr S_6 H locs hP hJ => ?_)
  obtain ⟨rfl, hI_6, hK_6, ht_6⟩ := hP
  refine lv_if_eq (tgt := 14) hx hb dX7_swap_9 (by decide) (fun c_9 => ?_) (fun c_9 => ?_)
  · skip
    have hf := ref0 c_9
    have hf0 : (f_ft (gof n mm) n 6 p0 0 0) = 0 := mt0.mp hf
    obtain ⟨_, P, hP, eP⟩ := pf_in hn (mt0.mp hf)
    refine lv_aload_n hx hb dX7_swap_14 rfl (lv_at hl 0 rfl) ?_
    refine cw_X7_60 C hJ (rest := []) (cm_saves hE hI_6) dX7_swap_15 hl.1 ⟨Nat.le_of_ble_eq_true rfl, Nat.le_of_ble_eq_true rfl⟩ ⟨Nat.le_refl _, Nat.le_refl _⟩ (Nat.le_of_ble_eq_true rfl) rfl rfl (fun vr S_15 H locs hP hJ => ?_)
    obtain ⟨rfl, hI_15, hKa_15, hta_15⟩ := hP
    have hK_15 := hK_6.t hKa_15
    have ht_15 := hta_15.trans ht_6
    refine lv_aload_n hx hb dX7_swap_18 rfl (lv_at hl 0 rfl) ?_
    refine lv_iload_n hx hb dX7_swap_19 rfl (lv_at hl 1 rfl) ?_
    refine lv_aload_n hx hb dX7_swap_20 rfl (lv_at hl 0 rfl) ?_
    refine lv_iload_n hx hb dX7_swap_21 rfl (lv_at hl 1 rfl) ?_
    refine cr_X7_122 C hJ (rest := [.int p0, .ref (gA E 84)]) (cm_fairPrice hE hI_15.1 P (by omega) eP) dX7_swap_22 hl.1 ⟨Nat.le_of_ble_eq_true rfl, Nat.le_of_ble_eq_true rfl⟩ ⟨Nat.le_refl _, Nat.le_refl _⟩ (Nat.le_of_ble_eq_true rfl) rfl rfl ?_
    refine cw_X7_107 C hJ (rest := []) (cz_6 hE hI_15.1 hM (a := p0) (b := 0) (d := 0) hf0 fu P hP eP) dX7_swap_25 hl.1 ⟨Nat.le_of_ble_eq_true rfl, Nat.le_of_ble_eq_true rfl⟩ ⟨Nat.le_refl _, Nat.le_refl _⟩ (Nat.le_of_ble_eq_true rfl) rfl rfl (fun vr S_25 H locs hP hJ => ?_)
    obtain ⟨rfl, hL_25⟩ := hP
    have hI_25 := hI_15.lr hL_25
    have hK_25 := hK_15.t hL_25.th.1
    have ht_25 := hL_25.th.2.trans ht_15
    exact rW_i C hJ hr rfl (MP.ok hf rfl hI_25 hK_25 ht_25) dX7_swap_28
  · skip
    have hf := ref1 c_9
    refine lv_iconst (v := 0) hx hb dX7_swap_12 (by decide) ?_
    exact rW_i C hJ hr rfl (MP.bad hf hI_6 hK_6 ht_6) dX7_swap_13
set_option maxHeartbeats 4000000 in
set_option maxRecDepth 100000 in
theorem c_X7_befriend {l : Launch} {E : GE} (hE : Env0 E) {S : ST} {n : Nat} {z : Nat → Int32} {mm : Nat → Nat → Int32} {mc : Nat} {sv : Nat → LVt} (hI : MI S (n, z, mm) mc sv) (p0 : Int32) (fu : Nat) : MW l E yX7_befriend cX7_befriend 2 (some .int) 3 66 S [.ref (gA E 84), .int p0] (fun v S1 => MP S S1 v (m_t (f_pf n p0 (if f_fr (gof n mm) p0 = 1 then 0 else 1) 3)) ((f_co fu n z mm 7 p0 0 0).1) (n, z, mm) mc sv (f_co fu n z mm 7 p0 0 0).2 (f_push (n, z, mm) mc sv).1 (f_push (n, z, mm) mc sv).2) := by
  have hM : MmOk n mm := hI.2.1
  have hn : n ≤ 10 := hI.1.n10
  refine MW.of hE (by decide) (Nat.le_of_ble_eq_true rfl) ?_
  intro p e s m below meth c ls C hJ hr hl
  have hx := C.x
  have hb := C.b
  have hl : lv_has ls 2 [(0, .ref (gA E 84)), (1, .int p0)] := hl
  refine lv_aload_n hx hb dX7_befriend_0 rfl (lv_at hl 0 rfl) ?_
  refine lv_aload_n hx hb dX7_befriend_1 rfl (lv_at hl 0 rfl) ?_
  refine lv_iload_n hx hb dX7_befriend_2 rfl (lv_at hl 1 rfl) ?_
  refine lv_iconst (v := 1) hx hb dX7_befriend_3 (by decide) ?_
  refine cr_X7_128 C hJ (rest := [.ref (gA E 84)]) (c_X7_whyNotFriends hE hI.1 hM p0 1) dX7_befriend_4 hl.1 ⟨Nat.le_of_ble_eq_true rfl, Nat.le_of_ble_eq_true rfl⟩ ⟨Nat.le_refl _, Nat.le_refl _⟩ (Nat.le_of_ble_eq_true rfl) rfl rfl ?_
  refine cw_X7_56 C hJ (rest := []) (cm_refuse hE hI (m_t (f_pf n p0 (if f_fr (gof n mm) p0 = 1 then 0 else 1) 3))) dX7_befriend_7 hl.1 ⟨Nat.le_of_ble_eq_true rfl, Nat.le_of_ble_eq_true rfl⟩ ⟨Nat.le_refl _, Nat.le_refl _⟩ (Nat.le_of_ble_eq_true rfl) rfl rfl (fun vr S_7 H locs hP hJ => ?_)
  obtain ⟨rfl, hI_7, hK_7, ht_7⟩ := hP
  refine lv_if_eq (tgt := 15) hx hb dX7_befriend_10 (by decide) (fun c_10 => ?_) (fun c_10 => ?_)
  · skip
    have hf := ref0 c_10
    have hf0 : (f_ft (gof n mm) n 7 p0 0 0) = 0 := (ft7 hn hM p0 0 0).symm.trans (mt0.mp hf)
    refine lv_aload_n hx hb dX7_befriend_15 rfl (lv_at hl 0 rfl) ?_
    refine cw_X7_60 C hJ (rest := []) (cm_saves hE hI_7) dX7_befriend_16 hl.1 ⟨Nat.le_of_ble_eq_true rfl, Nat.le_of_ble_eq_true rfl⟩ ⟨Nat.le_refl _, Nat.le_refl _⟩ (Nat.le_of_ble_eq_true rfl) rfl rfl (fun vr S_16 H locs hP hJ => ?_)
    obtain ⟨rfl, hI_16, hKa_16, hta_16⟩ := hP
    have hK_16 := hK_7.t hKa_16
    have ht_16 := hta_16.trans ht_7
    refine lv_aload_n hx hb dX7_befriend_19 rfl (lv_at hl 0 rfl) ?_
    refine lv_iload_n hx hb dX7_befriend_20 rfl (lv_at hl 1 rfl) ?_
    refine lv_iconst (v := 1) hx hb dX7_befriend_21 (by decide) ?_
    refine cw_X7_131 C hJ (rest := []) (cz_7 hE hI_16.1 hM (a := p0) (b := 0) (d := 0) hf0 fu) dX7_befriend_22 hl.1 ⟨Nat.le_of_ble_eq_true rfl, Nat.le_of_ble_eq_true rfl⟩ ⟨Nat.le_refl _, Nat.le_refl _⟩ (Nat.le_of_ble_eq_true rfl) rfl rfl (fun vr S_22 H locs hP hJ => ?_)
    obtain ⟨rfl, hL_22⟩ := hP
    have hI_22 := hI_16.lr hL_22
    have hK_22 := hK_16.t hL_22.th.1
    have ht_22 := hL_22.th.2.trans ht_16
    exact rW_i C hJ hr rfl (MP.ok hf rfl hI_22 hK_22 ht_22) dX7_befriend_25
  · skip
    have hf := ref1 c_10
    refine lv_iconst (v := 0) hx hb dX7_befriend_13 (by decide) ?_
    exact rW_i C hJ hr rfl (MP.bad hf hI_7 hK_7 ht_7) dX7_befriend_14
set_option maxHeartbeats 4000000 in
set_option maxRecDepth 100000 in
theorem c_X7_part {l : Launch} {E : GE} (hE : Env0 E) {S : ST} {n : Nat} {z : Nat → Int32} {mm : Nat → Nat → Int32} {mc : Nat} {sv : Nat → LVt} (hI : MI S (n, z, mm) mc sv) (p0 : Int32) (fu : Nat) : MW l E yX7_part cX7_part 2 (some .int) 3 66 S [.ref (gA E 84), .int p0] (fun v S1 => MP S S1 v (m_t (f_pf n p0 (if f_fr (gof n mm) p0 = 0 then 0 else 1) 3)) ((f_co fu n z mm 8 p0 0 0).1) (n, z, mm) mc sv (f_co fu n z mm 8 p0 0 0).2 (f_push (n, z, mm) mc sv).1 (f_push (n, z, mm) mc sv).2) := by
  have hM : MmOk n mm := hI.2.1
  have hn : n ≤ 10 := hI.1.n10
  refine MW.of hE (by decide) (Nat.le_of_ble_eq_true rfl) ?_
  intro p e s m below meth c ls C hJ hr hl
  have hx := C.x
  have hb := C.b
  have hl : lv_has ls 2 [(0, .ref (gA E 84)), (1, .int p0)] := hl
  refine lv_aload_n hx hb dX7_part_0 rfl (lv_at hl 0 rfl) ?_
  refine lv_aload_n hx hb dX7_part_1 rfl (lv_at hl 0 rfl) ?_
  refine lv_iload_n hx hb dX7_part_2 rfl (lv_at hl 1 rfl) ?_
  refine lv_iconst (v := 0) hx hb dX7_part_3 (by decide) ?_
  refine cr_X7_128 C hJ (rest := [.ref (gA E 84)]) (c_X7_whyNotFriends hE hI.1 hM p0 0) dX7_part_4 hl.1 ⟨Nat.le_of_ble_eq_true rfl, Nat.le_of_ble_eq_true rfl⟩ ⟨Nat.le_refl _, Nat.le_refl _⟩ (Nat.le_of_ble_eq_true rfl) rfl rfl ?_
  refine cw_X7_56 C hJ (rest := []) (cm_refuse hE hI (m_t (f_pf n p0 (if f_fr (gof n mm) p0 = 0 then 0 else 1) 3))) dX7_part_7 hl.1 ⟨Nat.le_of_ble_eq_true rfl, Nat.le_of_ble_eq_true rfl⟩ ⟨Nat.le_refl _, Nat.le_refl _⟩ (Nat.le_of_ble_eq_true rfl) rfl rfl (fun vr S_7 H locs hP hJ => ?_)
  obtain ⟨rfl, hI_7, hK_7, ht_7⟩ := hP
  refine lv_if_eq (tgt := 15) hx hb dX7_part_10 (by decide) (fun c_10 => ?_) (fun c_10 => ?_)
  · skip
    have hf := ref0 c_10
    have hf0 : (f_ft (gof n mm) n 8 p0 0 0) = 0 := (ft8 hn hM p0 0 0).symm.trans (mt0.mp hf)
    refine lv_aload_n hx hb dX7_part_15 rfl (lv_at hl 0 rfl) ?_
    refine cw_X7_60 C hJ (rest := []) (cm_saves hE hI_7) dX7_part_16 hl.1 ⟨Nat.le_of_ble_eq_true rfl, Nat.le_of_ble_eq_true rfl⟩ ⟨Nat.le_refl _, Nat.le_refl _⟩ (Nat.le_of_ble_eq_true rfl) rfl rfl (fun vr S_16 H locs hP hJ => ?_)
    obtain ⟨rfl, hI_16, hKa_16, hta_16⟩ := hP
    have hK_16 := hK_7.t hKa_16
    have ht_16 := hta_16.trans ht_7
    refine lv_aload_n hx hb dX7_part_19 rfl (lv_at hl 0 rfl) ?_
    refine lv_iload_n hx hb dX7_part_20 rfl (lv_at hl 1 rfl) ?_
    refine lv_iconst (v := 0) hx hb dX7_part_21 (by decide) ?_
    refine cw_X7_131 C hJ (rest := []) (cz_8 hE hI_16.1 hM (a := p0) (b := 0) (d := 0) hf0 fu) dX7_part_22 hl.1 ⟨Nat.le_of_ble_eq_true rfl, Nat.le_of_ble_eq_true rfl⟩ ⟨Nat.le_refl _, Nat.le_refl _⟩ (Nat.le_of_ble_eq_true rfl) rfl rfl (fun vr S_22 H locs hP hJ => ?_)
    obtain ⟨rfl, hL_22⟩ := hP
    have hI_22 := hI_16.lr hL_22
    have hK_22 := hK_16.t hL_22.th.1
    have ht_22 := hL_22.th.2.trans ht_16
    exact rW_i C hJ hr rfl (MP.ok hf rfl hI_22 hK_22 ht_22) dX7_part_25
  · skip
    have hf := ref1 c_10
    refine lv_iconst (v := 0) hx hb dX7_part_13 (by decide) ?_
    exact rW_i C hJ hr rfl (MP.bad hf hI_7 hK_7 ht_7) dX7_part_14
set_option maxHeartbeats 4000000 in
set_option maxRecDepth 100000 in
theorem c_X7_serve {l : Launch} {E : GE} (hE : Env0 E) {S : ST} {n : Nat} {z : Nat → Int32} {mm : Nat → Nat → Int32} {mc : Nat} {sv : Nat → LVt} (hI : MI S (n, z, mm) mc sv) (fu : Nat) : MW l E yX7_serve cX7_serve 1 (some .int) 4 89 S [.ref (gA E 84)] (fun v S1 => MP S S1 v (if n = 0 then 1 else 0) ((f_co fu n z mm 9 0 0 0).1) (n, z, mm) mc sv (f_co fu n z mm 9 0 0 0).2 (f_push (n, z, mm) mc sv).1 (f_push (n, z, mm) mc sv).2) := by
  have hM : MmOk n mm := hI.2.1
  have hn : n ≤ 10 := hI.1.n10
  refine MW.of hE (by decide) (Nat.le_of_ble_eq_true rfl) ?_
  intro p e s m below meth c ls C hJ hr hl
  have hx := C.x
  have hb := C.b
  have hl : lv_has ls 1 [(0, .ref (gA E 84))] := hl
  refine lv_aload_n hx hb dX7_serve_0 rfl (lv_at hl 0 rfl) ?_
  refine lv_aload_n hx hb dX7_serve_1 rfl (lv_at hl 0 rfl) ?_
  refine g_X7_7 C hJ dX7_serve_2 ?_
  refine lv_iconst (v := 0) hx hb dX7_serve_5 (by decide) ?_
  refine a_ro C hJ (P := 0) (rfl) (by decide) dX7_serve_6 ?_
  refine lv_if_ne (tgt := 14) hx hb dX7_serve_7 (by decide) (fun c_7 => ?_) (fun c_7 => ?_)
  · skip
    have h0 : ¬ n = 0 := fun q => c_7 (by rw [hI.1.many, q]; rfl)
    have hF : (if n = 0 then (1 : Int32) else 0) = 0 := if_neg h0
    have hf0 : (f_ft (gof n mm) n 9 0 0 0) = 0 := (ft9v hn 0 0 0).trans (if_neg h0)
    refine lv_iconst (v := 0) hx hb dX7_serve_14 (by decide) ?_
    refine cw_X7_56 C hJ (rest := []) (cm_refuse hE hI 0) dX7_serve_15 hl.1 ⟨Nat.le_of_ble_eq_true rfl, Nat.le_of_ble_eq_true rfl⟩ ⟨Nat.le_refl _, Nat.le_refl _⟩ (Nat.le_of_ble_eq_true rfl) rfl rfl (fun vr S_15 H locs hP hJ => ?_)
    obtain ⟨rfl, hI_15, hK_15, ht_15⟩ := hP
    refine lv_if_eq (tgt := 23) hx hb dX7_serve_18 (by decide) (fun c_18 => ?_) (fun c_18 => ?_)
    · skip
      refine lv_aload_n hx hb dX7_serve_23 rfl (lv_at hl 0 rfl) ?_
      refine cw_X7_60 C hJ (rest := []) (cm_saves hE hI_15) dX7_serve_24 hl.1 ⟨Nat.le_of_ble_eq_true rfl, Nat.le_of_ble_eq_true rfl⟩ ⟨Nat.le_refl _, Nat.le_refl _⟩ (Nat.le_of_ble_eq_true rfl) rfl rfl (fun vr S_24 H locs hP hJ => ?_)
      obtain ⟨rfl, hI_24, hKa_24, hta_24⟩ := hP
      have hK_24 := hK_15.t hKa_24
      have ht_24 := hta_24.trans ht_15
      refine lv_aload_n hx hb dX7_serve_27 rfl (lv_at hl 0 rfl) ?_
      refine cw_X7_73 C hJ (rest := []) (cz_9 hE hI_24.1 hM hf0 fu) dX7_serve_28 hl.1 ⟨Nat.le_of_ble_eq_true rfl, Nat.le_of_ble_eq_true rfl⟩ ⟨Nat.le_refl _, Nat.le_refl _⟩ (Nat.le_of_ble_eq_true rfl) rfl rfl (fun vr S_28 H locs hP hJ => ?_)
      obtain ⟨rfl, hL_28⟩ := hP
      have hI_28 := hI_24.lr hL_28
      have hK_28 := hK_24.t hL_28.th.1
      have ht_28 := hL_28.th.2.trans ht_24
      exact rW_i C hJ hr rfl (MP.ok hF rfl hI_28 hK_28 (by rw [hF]; exact ht_28)) dX7_serve_31
    · skip
      exact absurd (show (if (0 : Int32) = 0 then (0 : Int32) else 1) = 0 by decide) c_18
  · skip
    have h0 : n = 0 := by have q := c_7; rw [hI.1.many] at q; exact (nI_eq (b := 0) (by omega) (by omega)).mp q
    have hF : (if n = 0 then (1 : Int32) else 0) = 1 := if_pos h0
    refine lv_iconst (v := 1) hx hb dX7_serve_10 (by decide) ?_
    refine lv_goto (tgt := 15) hx hb dX7_serve_11 (by decide) ?_
    refine cw_X7_56 C hJ (rest := []) (cm_refuse hE hI 1) dX7_serve_15 hl.1 ⟨Nat.le_of_ble_eq_true rfl, Nat.le_of_ble_eq_true rfl⟩ ⟨Nat.le_refl _, Nat.le_refl _⟩ (Nat.le_of_ble_eq_true rfl) rfl rfl (fun vr S_15 H locs hP hJ => ?_)
    obtain ⟨rfl, hI_15, hK_15, ht_15⟩ := hP
    refine lv_if_eq (tgt := 23) hx hb dX7_serve_18 (by decide) (fun c_18 => ?_) (fun c_18 => ?_)
    · skip
      exact absurd c_18 (by decide)
    · skip
      refine lv_iconst (v := 0) hx hb dX7_serve_21 (by decide) ?_
      exact rW_i C hJ hr rfl (MP.bad (by rw [hF]; decide) hI_15 hK_15 (by rw [hF]; exact ht_15)) dX7_serve_22
set_option maxHeartbeats 4000000 in
set_option maxRecDepth 100000 in
theorem c_X7_settle {l : Launch} {E : GE} (hE : Env0 E) {S : ST} {n : Nat} {z : Nat → Int32} {mm : Nat → Nat → Int32} {mc : Nat} {sv : Nat → LVt} (hI : MI S (n, z, mm) mc sv) (fu : Nat) (hSt : Stops n fu z mm) : MW l E yX7_settle cX7_settle 1 (some .int) 5 109 S [.ref (gA E 84)] (fun v S1 => MP S S1 v 0 ((f_co fu n z mm 10 0 0 0).1) (n, z, mm) mc sv (f_co fu n z mm 10 0 0 0).2 (f_push (n, z, mm) mc sv).1 (f_push (n, z, mm) mc sv).2) := by
  have hM : MmOk n mm := hI.2.1
  have hn : n ≤ 10 := hI.1.n10
  refine MW.of hE (by decide) (Nat.le_of_ble_eq_true rfl) ?_
  intro p e s m below meth c ls C hJ hr hl
  have hx := C.x
  have hb := C.b
  have hl : lv_has ls 1 [(0, .ref (gA E 84))] := hl
  refine lv_aload_n hx hb dX7_settle_0 rfl (lv_at hl 0 rfl) ?_
  refine lv_iconst (v := 0) hx hb dX7_settle_1 (by decide) ?_
  refine p_X7_22 C hJ dX7_settle_2 (fun H locs hJ => ?_)
  obtain ⟨S_2, hS_2⟩ : ∃ z : ST, z = setM S (mMs (sM S) 2 0) := ⟨_, rfl⟩
  rw [← hS_2] at hJ
  have hI_2 : MI S_2 (n, z, mm) mc sv := by rw [hS_2]; exact hI.th 0
  have hK_2 : KM S S_2 := by rw [hS_2]; exact KM.th
  have ht_2 : (sM S_2).1 2 = 0 := by rw [hS_2]; rfl
  refine lv_aload_n hx hb dX7_settle_5 rfl (lv_at hl 0 rfl) ?_
  refine cw_X7_60 C hJ (rest := []) (cm_saves hE hI_2) dX7_settle_6 hl.1 ⟨Nat.le_of_ble_eq_true rfl, Nat.le_of_ble_eq_true rfl⟩ ⟨Nat.le_refl _, Nat.le_refl _⟩ (Nat.le_of_ble_eq_true rfl) rfl rfl (fun vr S_6 H locs hP hJ => ?_)
  obtain ⟨rfl, hI_6, hKa_6, hta_6⟩ := hP
  have hK_6 := hK_2.t hKa_6
  have ht_6 := hta_6.trans ht_2
  refine lv_aload_n hx hb dX7_settle_9 rfl (lv_at hl 0 rfl) ?_
  refine cw_X7_134 C hJ (rest := []) (cz_10 hE hI_6.1 hM (a := 0) (b := 0) (d := 0) fu hSt) dX7_settle_10 hl.1 ⟨Nat.le_of_ble_eq_true rfl, Nat.le_of_ble_eq_true rfl⟩ ⟨Nat.le_refl _, Nat.le_refl _⟩ (Nat.le_of_ble_eq_true rfl) rfl rfl (fun vr S_10 H locs hP hJ => ?_)
  obtain ⟨rfl, hL_10⟩ := hP
  have hI_10 := hI_6.lr hL_10
  have hK_10 := hK_6.t hL_10.th.1
  have ht_10 := hL_10.th.2.trans ht_6
  exact rW_i C hJ hr rfl (MP.ok rfl rfl hI_10 hK_10 ht_10) dX7_settle_13
set_option maxHeartbeats 4000000 in
set_option maxRecDepth 100000 in
theorem c_X7_setSplit {l : Launch} {E : GE} (hE : Env0 E) {S : ST} {n : Nat} {z : Nat → Int32} {mm : Nat → Nat → Int32} {mc : Nat} {sv : Nat → LVt} (hI : MI S (n, z, mm) mc sv) (p0 : Int32) : MW l E yX7_setSplit cX7_setSplit 3 (some .int) 2 44 S [.ref (gA E 84), .int p0] (fun v S1 => MP S S1 v (if f_in p0 0 100 = true then (0 : Int32) else 1) (z 3) (n, z, mm) mc sv (n, upd z 3 p0, mm) (f_push (n, z, mm) mc sv).1 (f_push (n, z, mm) mc sv).2) := by
  have hM : MmOk n mm := hI.2.1
  have hn : n ≤ 10 := hI.1.n10
  refine MW.of hE (by decide) (Nat.le_of_ble_eq_true rfl) ?_
  intro p e s m below meth c ls C hJ hr hl
  have hx := C.x
  have hb := C.b
  have hl : lv_has ls 3 [(0, .ref (gA E 84)), (1, .int p0)] := hl
  refine lv_aload_n hx hb dX7_setSplit_0 rfl (lv_at hl 0 rfl) ?_
  refine lv_iload_n hx hb dX7_setSplit_1 rfl (lv_at hl 1 rfl) ?_
  refine lv_iconst (v := 0) hx hb dX7_setSplit_2 (by decide) ?_
  refine lv_bipush (v := 100) hx hb dX7_setSplit_3 (by decide) ?_
  refine cr_X7_37 C hJ (rest := [.ref (gA E 84)]) (c_X7_in hE p0 0 100) dX7_setSplit_5 hl.1 ⟨Nat.le_of_ble_eq_true rfl, Nat.le_of_ble_eq_true rfl⟩ ⟨Nat.le_refl _, Nat.le_refl _⟩ (Nat.le_of_ble_eq_true rfl) rfl rfl ?_
  refine lv_if_eq (tgt := 15) hx hb dX7_setSplit_8 (by decide) (fun c_8 => ?_) (fun c_8 => ?_)
  · skip
    have q7 := bI_0 c_8
    have hF : (if f_in p0 0 100 = true then (0 : Int32) else 1) = 1 := if_neg (by rw [q7]; decide)
    refine lv_iconst (v := 1) hx hb dX7_setSplit_15 (by decide) ?_
    refine cw_X7_56 C hJ (rest := []) (cm_refuse hE hI 1) dX7_setSplit_16 hl.1 ⟨Nat.le_of_ble_eq_true rfl, Nat.le_of_ble_eq_true rfl⟩ ⟨Nat.le_refl _, Nat.le_refl _⟩ (Nat.le_of_ble_eq_true rfl) rfl rfl (fun vr S_16 H locs hP hJ => ?_)
    obtain ⟨rfl, hI_16, hK_16, ht_16⟩ := hP
    refine lv_if_eq (tgt := 24) hx hb dX7_setSplit_19 (by decide) (fun c_19 => ?_) (fun c_19 => ?_)
    · skip
      exact absurd c_19 (by decide)
    · skip
      refine lv_iconst (v := 0) hx hb dX7_setSplit_22 (by decide) ?_
      exact rW_i C hJ hr rfl (MP.bad (by rw [hF]; decide) hI_16 hK_16 (by rw [hF]; exact ht_16)) dX7_setSplit_23
  · skip
    have q7 := bI_1 c_8
    have hF : (if f_in p0 0 100 = true then (0 : Int32) else 1) = 0 := if_pos q7
    refine lv_iconst (v := 0) hx hb dX7_setSplit_11 (by decide) ?_
    refine lv_goto (tgt := 16) hx hb dX7_setSplit_12 (by decide) ?_
    refine cw_X7_56 C hJ (rest := []) (cm_refuse hE hI 0) dX7_setSplit_16 hl.1 ⟨Nat.le_of_ble_eq_true rfl, Nat.le_of_ble_eq_true rfl⟩ ⟨Nat.le_refl _, Nat.le_refl _⟩ (Nat.le_of_ble_eq_true rfl) rfl rfl (fun vr S_16 H locs hP hJ => ?_)
    obtain ⟨rfl, hI_16, hK_16, ht_16⟩ := hP
    refine lv_if_eq (tgt := 24) hx hb dX7_setSplit_19 (by decide) (fun c_19 => ?_) (fun c_19 => ?_)
    · skip
      refine lv_aload_n hx hb dX7_setSplit_24 rfl (lv_at hl 0 rfl) ?_
      refine cw_X7_60 C hJ (rest := []) (cm_saves hE hI_16) dX7_setSplit_25 hl.1 ⟨Nat.le_of_ble_eq_true rfl, Nat.le_of_ble_eq_true rfl⟩ ⟨Nat.le_refl _, Nat.le_refl _⟩ (Nat.le_of_ble_eq_true rfl) rfl rfl (fun vr S_25 H locs hP hJ => ?_)
      obtain ⟨rfl, hI_25, hKa_25, hta_25⟩ := hP
      have hK_25 := hK_16.t hKa_25
      have ht_25 := hta_25.trans ht_16
      refine lv_aload_n hx hb dX7_setSplit_28 rfl (lv_at hl 0 rfl) ?_
      refine g_X7_7 C hJ dX7_setSplit_29 ?_
      refine lv_iconst (v := 1) hx hb dX7_setSplit_32 (by decide) ?_
      refine a_ro C hJ (P := 1) (rfl) (by decide) dX7_setSplit_33 ?_
      refine lv_istore_n (lv' := [(2, .int ((sM S_25).2.1 1)), (0, .ref (gA E 84)), (1, .int p0)]) hx hb dX7_setSplit_34 rfl hl (by decide) rfl (fun ls hl => ?_)
      refine lv_aload_n hx hb dX7_setSplit_35 rfl (lv_at hl 1 rfl) ?_
      refine g_X7_7 C hJ dX7_setSplit_36 ?_
      refine lv_iconst (v := 1) hx hb dX7_setSplit_39 (by decide) ?_
      refine lv_iload_n hx hb dX7_setSplit_40 rfl (lv_at hl 2 rfl) ?_
      refine t_ro C hJ (P := 1) (rfl) (by decide) dX7_setSplit_41 (fun H locs hJ => ?_)
      obtain ⟨S_41, hS_41⟩ : ∃ z : ST, z = setM S_25 (mRo (sM S_25) 1 p0) := ⟨_, rfl⟩
      rw [← hS_41] at hJ
      have hL_41 : LR S_25 S_41 (n, upd z 3 p0, mm) := ⟨hI_25.1.putz (x := 1) (by decide) (by decide) hS_41, hM, RO.put (by decide) hS_41⟩
      have hI_41 := hI_25.lr hL_41
      have hK_41 := hK_25.t hL_41.th.1
      have ht_41 := hL_41.th.2.trans ht_25
      refine lv_iload_n hx hb dX7_setSplit_42 rfl (lv_at hl 0 rfl) ?_
      exact rW_i C hJ hr rfl (MP.ok hF hI_25.1.split hI_41 hK_41 (by rw [hF]; exact ht_41)) dX7_setSplit_43
    · skip
      exact absurd (show (if (0 : Int32) = 0 then (0 : Int32) else 1) = 0 by decide) c_19
set_option maxHeartbeats 4000000 in
set_option maxRecDepth 100000 in
theorem c_X7_undo {l : Launch} {E : GE} (hE : Env0 E) {S : ST} {n : Nat} {z : Nat → Int32} {mm : Nat → Nat → Int32} {mc : Nat} {sv : Nat → LVt} (hI : MI S (n, z, mm) mc sv) : MW l E yX7_undo cX7_undo 1 (some .int) 1 23 S [.ref (gA E 84)] (fun v S1 => MP S S1 v (if mc = 0 then (1 : Int32) else 0) (nI (mc - 1)) (n, z, mm) mc sv (sv (mc - 1)) (mc - 1) sv) := by
  have hM : MmOk n mm := hI.2.1
  have hn : n ≤ 10 := hI.1.n10
  refine MW.of hE (by decide) (Nat.le_of_ble_eq_true rfl) ?_
  intro p e s m below meth c ls C hJ hr hl
  have hx := C.x
  have hb := C.b
  have hl : lv_has ls 1 [(0, .ref (gA E 84))] := hl
  refine lv_aload_n hx hb dX7_undo_0 rfl (lv_at hl 0 rfl) ?_
  refine lv_aload_n hx hb dX7_undo_1 rfl (lv_at hl 0 rfl) ?_
  refine g_X7_26 C hJ dX7_undo_2 ?_
  refine lv_if_ne (tgt := 12) hx hb dX7_undo_5 (by decide) (fun c_5 => ?_) (fun c_5 => ?_)
  · skip
    have h0 : ¬ mc = 0 := fun q => c_5 (by rw [hI.2.2.2.1, q]; rfl)
    have h4 := hI.2.2.1
    have hF : (if mc = 0 then (1 : Int32) else 0) = 0 := if_neg h0
    refine lv_iconst (v := 0) hx hb dX7_undo_12 (by decide) ?_
    refine cw_X7_56 C hJ (rest := []) (cm_refuse hE hI 0) dX7_undo_13 hl.1 ⟨Nat.le_of_ble_eq_true rfl, Nat.le_of_ble_eq_true rfl⟩ ⟨Nat.le_refl _, Nat.le_refl _⟩ (Nat.le_of_ble_eq_true rfl) rfl rfl (fun vr S_13 H locs hP hJ => ?_)
    obtain ⟨rfl, hI_13, hK_13, ht_13⟩ := hP
    refine lv_if_eq (tgt := 21) hx hb dX7_undo_16 (by decide) (fun c_16 => ?_) (fun c_16 => ?_)
    · skip
      refine lv_aload_n hx hb dX7_undo_21 rfl (lv_at hl 0 rfl) ?_
      refine lv_bipush (v := 76) hx hb dX7_undo_22 (by decide) ?_
      refine lv_aload_n hx hb dX7_undo_24 rfl (lv_at hl 0 rfl) ?_
      refine g_X7_26 C hJ dX7_undo_25 ?_
      refine lv_imul hx hb dX7_undo_28 ?_
      rw [show (76 : Int32) * (sM S_13).1 1 = nI (76 * mc) from nI76 hI_13.2.2.2.1]
      · skip
        refine lv_iconst (v := 0) hx hb dX7_undo_29 (by decide) ?_
        refine cw_X7_29 C hJ (rest := []) ((show MW l E yX7_copies cX7_copies 4 none 0 0 S_13 [.ref (gA E 84), .int (nI (76 * mc)), .int 0] _ from c_X7_copies hE (S := S_13) (76 * mc) 0 (by omega) (by omega) (by omega))) dX7_undo_30 hl.1 ⟨Nat.le_of_ble_eq_true rfl, Nat.le_of_ble_eq_true rfl⟩ ⟨Nat.le_refl _, Nat.le_refl _⟩ (Nat.le_of_ble_eq_true rfl) rfl rfl (fun vr S_30 H locs hP hJ => ?_)
        obtain ⟨rfl, w_30⟩ := hP
        refine lv_aload_n hx hb dX7_undo_33 rfl (lv_at hl 0 rfl) ?_
        refine lv_dup hx hb dX7_undo_34 rfl ?_
        refine g_X7_26 C hJ dX7_undo_35 ?_
        refine lv_iconst (v := 1) hx hb dX7_undo_38 (by decide) ?_
        refine lv_isub hx hb dX7_undo_39 ?_
        refine p_X7_26 C hJ dX7_undo_40 (fun H locs hJ => ?_)
        obtain ⟨S_40, hS_40⟩ : ∃ z : ST, z = setM S_30 (mMs (sM S_30) 1 (((sM S_30).1 1) - 1)) := ⟨_, rfl⟩
        rw [← hS_40] at hJ
        have hI_40 : MI S_40 (sv (mc - 1)) (mc - 1) sv := MI.pop hI_13 (by omega) w_30 hS_40
        have hK_40 : KM S S_40 := (hK_13.t (KM.rw w_30)).t (by rw [hS_40]; exact KM.s1)
        have ht_40 : (sM S_40).1 2 = 0 := by rw [hS_40]; exact (congrFun w_30.2.2.2.1 2).trans ht_13
        refine lv_aload_n hx hb dX7_undo_43 rfl (lv_at hl 0 rfl) ?_
        refine g_X7_26 C hJ dX7_undo_44 ?_
        exact rW_i C hJ hr rfl (MP.ok hF hI_40.2.2.2.1 hI_40 hK_40 (by rw [hF]; exact ht_40)) dX7_undo_47
    · skip
      exact absurd (show (if (0 : Int32) = 0 then (0 : Int32) else 1) = 0 by decide) c_16
  · skip
    have h4 := hI.2.2.1
    have h0 : mc = 0 := by have q := c_5; rw [hI.2.2.2.1] at q; exact (nI_eq (b := 0) (by omega) (by omega)).mp q
    have hF : (if mc = 0 then (1 : Int32) else 0) = 1 := if_pos h0
    refine lv_iconst (v := 1) hx hb dX7_undo_8 (by decide) ?_
    refine lv_goto (tgt := 13) hx hb dX7_undo_9 (by decide) ?_
    refine cw_X7_56 C hJ (rest := []) (cm_refuse hE hI 1) dX7_undo_13 hl.1 ⟨Nat.le_of_ble_eq_true rfl, Nat.le_of_ble_eq_true rfl⟩ ⟨Nat.le_refl _, Nat.le_refl _⟩ (Nat.le_of_ble_eq_true rfl) rfl rfl (fun vr S_13 H locs hP hJ => ?_)
    obtain ⟨rfl, hI_13, hK_13, ht_13⟩ := hP
    refine lv_if_eq (tgt := 21) hx hb dX7_undo_16 (by decide) (fun c_16 => ?_) (fun c_16 => ?_)
    · skip
      exact absurd c_16 (by decide)
    · skip
      refine lv_iconst (v := 0) hx hb dX7_undo_19 (by decide) ?_
      exact rW_i C hJ hr rfl (MP.bad (by rw [hF]; decide) hI_13 hK_13 (by rw [hF]; exact ht_13)) dX7_undo_20
set_option maxHeartbeats 4000000 in
set_option maxRecDepth 100000 in
theorem c_X7_at {l : Launch} {E : GE} (hE : Env0 E) {S : ST} {n : Nat} {z : Nat → Int32} {mm : Nat → Nat → Int32} {mc : Nat} {sv : Nat → LVt} (hI : MI S (n, z, mm) mc sv) (p0 : Int32) : MW l E yX7_at cX7_at 2 (some .int) 1 22 S [.ref (gA E 84), .int p0] (fun v S1 => MP S S1 v (if p0 < 0 then (1 : Int32) else 0) (gof n mm p0 0) (n, z, mm) mc sv (n, z, mm) mc sv) := by
  have hM : MmOk n mm := hI.2.1
  have hn : n ≤ 10 := hI.1.n10
  refine MW.of hE (by decide) (Nat.le_of_ble_eq_true rfl) ?_
  intro p e s m below meth c ls C hJ hr hl
  have hx := C.x
  have hb := C.b
  have hl : lv_has ls 2 [(0, .ref (gA E 84)), (1, .int p0)] := hl
  refine lv_aload_n hx hb dX7_at_0 rfl (lv_at hl 0 rfl) ?_
  refine lv_iload_n hx hb dX7_at_1 rfl (lv_at hl 1 rfl) ?_
  refine lv_if_ge (tgt := 9) hx hb dX7_at_2 (by decide) (fun c_2 => ?_) (fun c_2 => ?_)
  · skip
    have hF : (if p0 < 0 then (1 : Int32) else 0) = 0 := if_neg (Int32.not_lt.mpr c_2)
    obtain ⟨P, hP31, eP⟩ := nI_of (Int32.not_lt.mpr c_2)
    refine lv_iconst (v := 0) hx hb dX7_at_9 (by decide) ?_
    refine cw_X7_56 C hJ (rest := []) (cm_refuse hE hI 0) dX7_at_10 hl.1 ⟨Nat.le_of_ble_eq_true rfl, Nat.le_of_ble_eq_true rfl⟩ ⟨Nat.le_refl _, Nat.le_refl _⟩ (Nat.le_of_ble_eq_true rfl) rfl rfl (fun vr S_10 H locs hP hJ => ?_)
    obtain ⟨rfl, hI_10, hK_10, ht_10⟩ := hP
    refine lv_if_eq (tgt := 18) hx hb dX7_at_13 (by decide) (fun c_13 => ?_) (fun c_13 => ?_)
    · skip
      refine lv_iload_n hx hb dX7_at_18 rfl (lv_at hl 1 rfl) ?_
      refine lv_aload_n hx hb dX7_at_19 rfl (lv_at hl 0 rfl) ?_
      refine g_X7_7 C hJ dX7_at_20 ?_
      refine lv_iconst (v := 0) hx hb dX7_at_23 (by decide) ?_
      refine a_ro C hJ (P := 0) (rfl) (by decide) dX7_at_24 ?_
      refine lv_icmp_ge (tgt := 37) hx hb dX7_at_25 (by decide) (fun c_25 => ?_) (fun c_25 => ?_)
      · skip
        have hge : n ≤ P := by rw [hI_10.1.many, eP] at c_25; exact (nI_leI (by omega) hP31).mp c_25
        refine lv_iconst (v := (-1)) hx hb dX7_at_37 (by decide) ?_
        exact rW_i C hJ hr rfl (MP.ok hF (by rw [eP, gof_far mm hge hP31]; rfl) hI_10 hK_10 (by rw [hF]; exact ht_10)) dX7_at_38
      · skip
        have hlt : P < n := by
          rcases Nat.lt_or_ge P n with q | q
          · exact q
          · exact absurd (by rw [hI_10.1.many, eP]; exact nI_le q hP31) c_25
        refine lv_aload_n hx hb dX7_at_28 rfl (lv_at hl 0 rfl) ?_
        refine lv_iload_n hx hb dX7_at_29 rfl (lv_at hl 1 rfl) ?_
        refine lv_iconst (v := 0) hx hb dX7_at_30 (by decide) ?_
        refine cr_X7_33 C hJ (rest := []) (cm_of hE hI_10.1 P 0 hlt (by decide) eP) dX7_at_31 hl.1 ⟨Nat.le_of_ble_eq_true rfl, Nat.le_of_ble_eq_true rfl⟩ ⟨Nat.le_refl _, Nat.le_refl _⟩ (Nat.le_of_ble_eq_true rfl) rfl rfl ?_
        refine lv_goto (tgt := 38) hx hb dX7_at_34 (by decide) ?_
        exact rW_i C hJ hr rfl (MP.ok hF (by rw [eP, gof_in mm hn hlt]) hI_10 hK_10 (by rw [hF]; exact ht_10)) dX7_at_38
    · skip
      exact absurd (show (if (0 : Int32) = 0 then (0 : Int32) else 1) = 0 by decide) c_13
  · skip
    have hF : (if p0 < 0 then (1 : Int32) else 0) = 1 := if_pos (Int32.not_le.mp c_2)
    refine lv_iconst (v := 1) hx hb dX7_at_5 (by decide) ?_
    refine lv_goto (tgt := 10) hx hb dX7_at_6 (by decide) ?_
    refine cw_X7_56 C hJ (rest := []) (cm_refuse hE hI 1) dX7_at_10 hl.1 ⟨Nat.le_of_ble_eq_true rfl, Nat.le_of_ble_eq_true rfl⟩ ⟨Nat.le_refl _, Nat.le_refl _⟩ (Nat.le_of_ble_eq_true rfl) rfl rfl (fun vr S_10 H locs hP hJ => ?_)
    obtain ⟨rfl, hI_10, hK_10, ht_10⟩ := hP
    refine lv_if_eq (tgt := 18) hx hb dX7_at_13 (by decide) (fun c_13 => ?_) (fun c_13 => ?_)
    · skip
      exact absurd c_13 (by decide)
    · skip
      refine lv_iconst (v := 0) hx hb dX7_at_16 (by decide) ?_
      exact rW_i C hJ hr rfl (MP.bad (by rw [hF]; decide) hI_10 hK_10 (by rw [hF]; exact ht_10)) dX7_at_17
set_option maxHeartbeats 4000000 in
set_option maxRecDepth 100000 in
theorem c_X7_member {l : Launch} {E : GE} (hE : Env0 E) {S : ST} {n : Nat} {z : Nat → Int32} {mm : Nat → Nat → Int32} {mc : Nat} {sv : Nat → LVt} (hI : MI S (n, z, mm) mc sv) (p0 p1 : Int32) : MW l E yX7_member cX7_member 3 (some .int) 3 67 S [.ref (gA E 84), .int p0, .int p1] (fun v S1 => MP S S1 v (f_mf (f_place (gof n mm) n p0) (bI (f_in p1 0 9))) (f_mval (gof n mm) (f_place (gof n mm) n p0).toNatClampNeg p1.toNatClampNeg) (n, z, mm) mc sv (n, z, mm) mc sv) := by
  have hM : MmOk n mm := hI.2.1
  have hn : n ≤ 10 := hI.1.n10
  refine MW.of hE (by decide) (Nat.le_of_ble_eq_true rfl) ?_
  intro p e s m below meth c ls C hJ hr hl
  have hx := C.x
  have hb := C.b
  have hl : lv_has ls 3 [(0, .ref (gA E 84)), (1, .int p0), (2, .int p1)] := hl
  refine lv_aload_n hx hb dX7_member_0 rfl (lv_at hl 0 rfl) ?_
  refine lv_aload_n hx hb dX7_member_1 rfl (lv_at hl 0 rfl) ?_
  refine lv_iload_n hx hb dX7_member_2 rfl (lv_at hl 1 rfl) ?_
  refine cr_X7_45 C hJ (rest := [.ref (gA E 84)]) (c_X7_find hE hI.1 p0) dX7_member_3 hl.1 ⟨Nat.le_of_ble_eq_true rfl, Nat.le_of_ble_eq_true rfl⟩ ⟨Nat.le_refl _, Nat.le_refl _⟩ (Nat.le_of_ble_eq_true rfl) rfl rfl ?_
  refine lv_iconst (v := (-1)) hx hb dX7_member_6 (by decide) ?_
  refine lv_icmp_ne (tgt := 14) hx hb dX7_member_7 (by decide) (fun c_7 => ?_) (fun c_7 => ?_)
  · skip
    refine lv_iload_n hx hb dX7_member_14 rfl (lv_at hl 2 rfl) ?_
    refine lv_iconst (v := 0) hx hb dX7_member_15 (by decide) ?_
    refine lv_bipush (v := 9) hx hb dX7_member_16 (by decide) ?_
    refine cr_X7_37 C hJ (rest := [.ref (gA E 84)]) (c_X7_in hE p1 0 9) dX7_member_18 hl.1 ⟨Nat.le_of_ble_eq_true rfl, Nat.le_of_ble_eq_true rfl⟩ ⟨Nat.le_refl _, Nat.le_refl _⟩ (Nat.le_of_ble_eq_true rfl) rfl rfl ?_
    refine lv_if_eq (tgt := 28) hx hb dX7_member_21 (by decide) (fun c_21 => ?_) (fun c_21 => ?_)
    · skip
      have hF : f_mf (f_place (gof n mm) n p0) (bI (f_in p1 0 9)) = 2 := by unfold f_mf; rw [if_neg c_7, if_pos c_21]
      refine lv_iconst (v := 2) hx hb dX7_member_28 (by decide) ?_
      refine cw_X7_56 C hJ (rest := []) (cm_refuse hE hI 2) dX7_member_29 hl.1 ⟨Nat.le_of_ble_eq_true rfl, Nat.le_of_ble_eq_true rfl⟩ ⟨Nat.le_refl _, Nat.le_refl _⟩ (Nat.le_of_ble_eq_true rfl) rfl rfl (fun vr S_29 H locs hP hJ => ?_)
      obtain ⟨rfl, hI_29, hK_29, ht_29⟩ := hP
      refine lv_if_eq (tgt := 37) hx hb dX7_member_32 (by decide) (fun c_32 => ?_) (fun c_32 => ?_)
      · skip
        exact absurd c_32 (by decide)
      · skip
        refine lv_iconst (v := 0) hx hb dX7_member_35 (by decide) ?_
        exact rW_i C hJ hr rfl (MP.bad (by rw [hF]; decide) hI_29 hK_29 (by rw [hF]; exact ht_29)) dX7_member_36
    · skip
      have hF : f_mf (f_place (gof n mm) n p0) (bI (f_in p1 0 9)) = 0 := by unfold f_mf; rw [if_neg c_7, if_neg c_21]
      obtain ⟨P, hP0, eP, _⟩ := mf_in hF
      have q9 : f_in p1 0 9 = true := by
        rcases Bool.eq_false_or_eq_true (f_in p1 0 9) with q | q
        · exact q
        · exfalso; have y := hF; rw [q] at y; unfold f_mf at y; rw [eP, if_neg (nI_m1 (by omega))] at y; exact absurd y (by decide)
      have hw9 := f_in_w (u_n := 9) rfl (by decide) q9
      refine lv_iconst (v := 0) hx hb dX7_member_24 (by decide) ?_
      refine lv_goto (tgt := 29) hx hb dX7_member_25 (by decide) ?_
      refine cw_X7_56 C hJ (rest := []) (cm_refuse hE hI 0) dX7_member_29 hl.1 ⟨Nat.le_of_ble_eq_true rfl, Nat.le_of_ble_eq_true rfl⟩ ⟨Nat.le_refl _, Nat.le_refl _⟩ (Nat.le_of_ble_eq_true rfl) rfl rfl (fun vr S_29 H locs hP hJ => ?_)
      obtain ⟨rfl, hI_29, hK_29, ht_29⟩ := hP
      refine lv_if_eq (tgt := 37) hx hb dX7_member_32 (by decide) (fun c_32 => ?_) (fun c_32 => ?_)
      · skip
        refine lv_aload_n hx hb dX7_member_37 rfl (lv_at hl 0 rfl) ?_
        refine lv_aload_n hx hb dX7_member_38 rfl (lv_at hl 0 rfl) ?_
        refine lv_iload_n hx hb dX7_member_39 rfl (lv_at hl 1 rfl) ?_
        refine cr_X7_45 C hJ (rest := [.ref (gA E 84)]) (c_X7_find hE hI_29.1 p0) dX7_member_40 hl.1 ⟨Nat.le_of_ble_eq_true rfl, Nat.le_of_ble_eq_true rfl⟩ ⟨Nat.le_refl _, Nat.le_refl _⟩ (Nat.le_of_ble_eq_true rfl) rfl rfl ?_
        refine lv_iload_n hx hb dX7_member_43 rfl (lv_at hl 2 rfl) ?_
        refine cr_X7_140 C hJ (rest := []) (cm_memberValue hE hI_29.1 hM P hP0 p1.toNatClampNeg (by omega) eP hw9.2) dX7_member_44 hl.1 ⟨Nat.le_of_ble_eq_true rfl, Nat.le_of_ble_eq_true rfl⟩ ⟨Nat.le_refl _, Nat.le_refl _⟩ (Nat.le_of_ble_eq_true rfl) rfl rfl ?_
        exact rW_i C hJ hr rfl (MP.ok hF (by rw [eP, nI_clamp (by omega)]) hI_29 hK_29 (by rw [hF]; exact ht_29)) dX7_member_47
      · skip
        exact absurd (show (if (0 : Int32) = 0 then (0 : Int32) else 1) = 0 by decide) c_32
  · skip
    have hF : f_mf (f_place (gof n mm) n p0) (bI (f_in p1 0 9)) = 1 := by unfold f_mf; rw [if_pos c_7]
    refine lv_iconst (v := 1) hx hb dX7_member_10 (by decide) ?_
    refine lv_goto (tgt := 29) hx hb dX7_member_11 (by decide) ?_
    refine cw_X7_56 C hJ (rest := []) (cm_refuse hE hI 1) dX7_member_29 hl.1 ⟨Nat.le_of_ble_eq_true rfl, Nat.le_of_ble_eq_true rfl⟩ ⟨Nat.le_refl _, Nat.le_refl _⟩ (Nat.le_of_ble_eq_true rfl) rfl rfl (fun vr S_29 H locs hP hJ => ?_)
    obtain ⟨rfl, hI_29, hK_29, ht_29⟩ := hP
    refine lv_if_eq (tgt := 37) hx hb dX7_member_32 (by decide) (fun c_32 => ?_) (fun c_32 => ?_)
    · skip
      exact absurd c_32 (by decide)
    · skip
      refine lv_iconst (v := 0) hx hb dX7_member_35 (by decide) ?_
      exact rW_i C hJ hr rfl (MP.bad (by rw [hF]; decide) hI_29 hK_29 (by rw [hF]; exact ht_29)) dX7_member_36
set_option maxHeartbeats 4000000 in
set_option maxRecDepth 100000 in
theorem c_X7_pair {l : Launch} {E : GE} (hE : Env0 E) {S : ST} {n : Nat} {z : Nat → Int32} {mm : Nat → Nat → Int32} {mc : Nat} {sv : Nat → LVt} (hI : MI S (n, z, mm) mc sv) (p0 p1 : Int32) : MW l E yX7_pair cX7_pair 3 (some .int) 5 107 S [.ref (gA E 84), .int p0, .int p1] (fun v S1 => MP S S1 v (f_pf n p0 (bI (f_in p1 0 4)) 2) (f_pval (gof n mm) (z 3) p0 p1.toNatClampNeg) (n, z, mm) mc sv (n, z, mm) mc sv) := by
  have hM : MmOk n mm := hI.2.1
  have hn : n ≤ 10 := hI.1.n10
  refine MW.of hE (by decide) (Nat.le_of_ble_eq_true rfl) ?_
  intro p e s m below meth c ls C hJ hr hl
  have hx := C.x
  have hb := C.b
  have hl : lv_has ls 3 [(0, .ref (gA E 84)), (1, .int p0), (2, .int p1)] := hl
  refine lv_aload_n hx hb dX7_pair_0 rfl (lv_at hl 0 rfl) ?_
  refine lv_aload_n hx hb dX7_pair_1 rfl (lv_at hl 0 rfl) ?_
  refine lv_iload_n hx hb dX7_pair_2 rfl (lv_at hl 1 rfl) ?_
  refine cr_X7_101 C hJ (rest := [.ref (gA E 84)]) (c_X7_isPair hE hI.1 p0) dX7_pair_3 hl.1 ⟨Nat.le_of_ble_eq_true rfl, Nat.le_of_ble_eq_true rfl⟩ ⟨Nat.le_refl _, Nat.le_refl _⟩ (Nat.le_of_ble_eq_true rfl) rfl rfl ?_
  refine lv_if_ne (tgt := 13) hx hb dX7_pair_6 (by decide) (fun c_6 => ?_) (fun c_6 => ?_)
  · skip
    have q6 := bI_1 c_6
    obtain ⟨P, hP, eP⟩ := (f_in_pair hn).mp q6
    refine lv_iload_n hx hb dX7_pair_13 rfl (lv_at hl 2 rfl) ?_
    refine lv_iconst (v := 0) hx hb dX7_pair_14 (by decide) ?_
    refine lv_iconst (v := 4) hx hb dX7_pair_15 (by decide) ?_
    refine cr_X7_37 C hJ (rest := [.ref (gA E 84)]) (c_X7_in hE p1 0 4) dX7_pair_16 hl.1 ⟨Nat.le_of_ble_eq_true rfl, Nat.le_of_ble_eq_true rfl⟩ ⟨Nat.le_refl _, Nat.le_refl _⟩ (Nat.le_of_ble_eq_true rfl) rfl rfl ?_
    refine lv_if_eq (tgt := 26) hx hb dX7_pair_19 (by decide) (fun c_19 => ?_) (fun c_19 => ?_)
    · skip
      have hF : f_pf n p0 (bI (f_in p1 0 4)) 2 = 2 := by unfold f_pf; rw [if_pos q6, if_pos c_19]
      refine lv_iconst (v := 2) hx hb dX7_pair_26 (by decide) ?_
      refine cw_X7_56 C hJ (rest := []) (cm_refuse hE hI 2) dX7_pair_27 hl.1 ⟨Nat.le_of_ble_eq_true rfl, Nat.le_of_ble_eq_true rfl⟩ ⟨Nat.le_refl _, Nat.le_refl _⟩ (Nat.le_of_ble_eq_true rfl) rfl rfl (fun vr S_27 H locs hP hJ => ?_)
      obtain ⟨rfl, hI_27, hK_27, ht_27⟩ := hP
      refine lv_if_eq (tgt := 35) hx hb dX7_pair_30 (by decide) (fun c_30 => ?_) (fun c_30 => ?_)
      · skip
        exact absurd c_30 (by decide)
      · skip
        refine lv_iconst (v := 0) hx hb dX7_pair_33 (by decide) ?_
        exact rW_i C hJ hr rfl (MP.bad (by rw [hF]; decide) hI_27 hK_27 (by rw [hF]; exact ht_27)) dX7_pair_34
    · skip
      have hF : f_pf n p0 (bI (f_in p1 0 4)) 2 = 0 := by unfold f_pf; rw [if_pos q6, if_neg c_19]
      have hw9 := f_in_w (u_n := 4) rfl (by decide) (bI_1 c_19)
      refine lv_iconst (v := 0) hx hb dX7_pair_22 (by decide) ?_
      refine lv_goto (tgt := 27) hx hb dX7_pair_23 (by decide) ?_
      refine cw_X7_56 C hJ (rest := []) (cm_refuse hE hI 0) dX7_pair_27 hl.1 ⟨Nat.le_of_ble_eq_true rfl, Nat.le_of_ble_eq_true rfl⟩ ⟨Nat.le_refl _, Nat.le_refl _⟩ (Nat.le_of_ble_eq_true rfl) rfl rfl (fun vr S_27 H locs hP hJ => ?_)
      obtain ⟨rfl, hI_27, hK_27, ht_27⟩ := hP
      refine lv_if_eq (tgt := 35) hx hb dX7_pair_30 (by decide) (fun c_30 => ?_) (fun c_30 => ?_)
      · skip
        refine lv_aload_n hx hb dX7_pair_35 rfl (lv_at hl 0 rfl) ?_
        refine lv_iload_n hx hb dX7_pair_36 rfl (lv_at hl 1 rfl) ?_
        refine lv_iload_n hx hb dX7_pair_37 rfl (lv_at hl 2 rfl) ?_
        refine cr_X7_143 C hJ (rest := []) (cm_pairValue hE hI_27.1 hM P hP p1.toNatClampNeg (by omega) eP hw9.2) dX7_pair_38 hl.1 ⟨Nat.le_of_ble_eq_true rfl, Nat.le_of_ble_eq_true rfl⟩ ⟨Nat.le_refl _, Nat.le_refl _⟩ (Nat.le_of_ble_eq_true rfl) rfl rfl ?_
        exact rW_i C hJ hr rfl (MP.ok hF (by rw [eP]) hI_27 hK_27 (by rw [hF]; exact ht_27)) dX7_pair_41
      · skip
        exact absurd (show (if (0 : Int32) = 0 then (0 : Int32) else 1) = 0 by decide) c_30
  · skip
    have q6 := bI_0 c_6
    have hF : f_pf n p0 (bI (f_in p1 0 4)) 2 = 1 := by unfold f_pf; rw [if_neg (by rw [q6]; decide)]
    refine lv_iconst (v := 1) hx hb dX7_pair_9 (by decide) ?_
    refine lv_goto (tgt := 27) hx hb dX7_pair_10 (by decide) ?_
    refine cw_X7_56 C hJ (rest := []) (cm_refuse hE hI 1) dX7_pair_27 hl.1 ⟨Nat.le_of_ble_eq_true rfl, Nat.le_of_ble_eq_true rfl⟩ ⟨Nat.le_refl _, Nat.le_refl _⟩ (Nat.le_of_ble_eq_true rfl) rfl rfl (fun vr S_27 H locs hP hJ => ?_)
    obtain ⟨rfl, hI_27, hK_27, ht_27⟩ := hP
    refine lv_if_eq (tgt := 35) hx hb dX7_pair_30 (by decide) (fun c_30 => ?_) (fun c_30 => ?_)
    · skip
      exact absurd c_30 (by decide)
    · skip
      refine lv_iconst (v := 0) hx hb dX7_pair_33 (by decide) ?_
      exact rW_i C hJ hr rfl (MP.bad (by rw [hF]; decide) hI_27 hK_27 (by rw [hF]; exact ht_27)) dX7_pair_34
set_option maxHeartbeats 4000000 in
set_option maxRecDepth 100000 in
theorem c_X7_reason {l : Launch} {E : GE} (hE : Env0 E) {S : ST} {n : Nat} {z : Nat → Int32} {mm : Nat → Nat → Int32} {mc : Nat} {sv : Nat → LVt} (hI : MI S (n, z, mm) mc sv) (p0 : Int32) : MW l E yX7_reason cX7_reason 2 (some .int) 4 86 S [.ref (gA E 84), .int p0] (fun v S1 => MP S S1 v (if f_in p0 0 (nI n - 2) = true then (0 : Int32) else 1) (f_hind (gof n mm) p0) (n, z, mm) mc sv (n, z, mm) mc sv) := by
  have hM : MmOk n mm := hI.2.1
  have hn : n ≤ 10 := hI.1.n10
  refine MW.of hE (by decide) (Nat.le_of_ble_eq_true rfl) ?_
  intro p e s m below meth c ls C hJ hr hl
  have hx := C.x
  have hb := C.b
  have hl : lv_has ls 2 [(0, .ref (gA E 84)), (1, .int p0)] := hl
  refine lv_aload_n hx hb dX7_reason_0 rfl (lv_at hl 0 rfl) ?_
  refine lv_aload_n hx hb dX7_reason_1 rfl (lv_at hl 0 rfl) ?_
  refine lv_iload_n hx hb dX7_reason_2 rfl (lv_at hl 1 rfl) ?_
  refine cr_X7_101 C hJ (rest := [.ref (gA E 84)]) (c_X7_isPair hE hI.1 p0) dX7_reason_3 hl.1 ⟨Nat.le_of_ble_eq_true rfl, Nat.le_of_ble_eq_true rfl⟩ ⟨Nat.le_refl _, Nat.le_refl _⟩ (Nat.le_of_ble_eq_true rfl) rfl rfl ?_
  refine lv_if_eq (tgt := 13) hx hb dX7_reason_6 (by decide) (fun c_6 => ?_) (fun c_6 => ?_)
  · skip
    have q6 := bI_0 c_6
    have hF : (if f_in p0 0 (nI n - 2) = true then (0 : Int32) else 1) = 1 := if_neg (by rw [q6]; decide)
    refine lv_iconst (v := 1) hx hb dX7_reason_13 (by decide) ?_
    refine cw_X7_56 C hJ (rest := []) (cm_refuse hE hI 1) dX7_reason_14 hl.1 ⟨Nat.le_of_ble_eq_true rfl, Nat.le_of_ble_eq_true rfl⟩ ⟨Nat.le_refl _, Nat.le_refl _⟩ (Nat.le_of_ble_eq_true rfl) rfl rfl (fun vr S_14 H locs hP hJ => ?_)
    obtain ⟨rfl, hI_14, hK_14, ht_14⟩ := hP
    refine lv_if_eq (tgt := 22) hx hb dX7_reason_17 (by decide) (fun c_17 => ?_) (fun c_17 => ?_)
    · skip
      exact absurd c_17 (by decide)
    · skip
      refine lv_iconst (v := 0) hx hb dX7_reason_20 (by decide) ?_
      exact rW_i C hJ hr rfl (MP.bad (by rw [hF]; decide) hI_14 hK_14 (by rw [hF]; exact ht_14)) dX7_reason_21
  · skip
    have q6 := bI_1 c_6
    have hF : (if f_in p0 0 (nI n - 2) = true then (0 : Int32) else 1) = 0 := if_pos q6
    obtain ⟨P, hP, eP⟩ := (f_in_pair hn).mp q6
    refine lv_iconst (v := 0) hx hb dX7_reason_9 (by decide) ?_
    refine lv_goto (tgt := 14) hx hb dX7_reason_10 (by decide) ?_
    refine cw_X7_56 C hJ (rest := []) (cm_refuse hE hI 0) dX7_reason_14 hl.1 ⟨Nat.le_of_ble_eq_true rfl, Nat.le_of_ble_eq_true rfl⟩ ⟨Nat.le_refl _, Nat.le_refl _⟩ (Nat.le_of_ble_eq_true rfl) rfl rfl (fun vr S_14 H locs hP hJ => ?_)
    obtain ⟨rfl, hI_14, hK_14, ht_14⟩ := hP
    refine lv_if_eq (tgt := 22) hx hb dX7_reason_17 (by decide) (fun c_17 => ?_) (fun c_17 => ?_)
    · skip
      refine lv_aload_n hx hb dX7_reason_22 rfl (lv_at hl 0 rfl) ?_
      refine lv_iload_n hx hb dX7_reason_23 rfl (lv_at hl 1 rfl) ?_
      refine cr_X7_116 C hJ (rest := []) (cm_reasonOf hE hI_14.1 hM P (by omega) eP) dX7_reason_24 hl.1 ⟨Nat.le_of_ble_eq_true rfl, Nat.le_of_ble_eq_true rfl⟩ ⟨Nat.le_refl _, Nat.le_refl _⟩ (Nat.le_of_ble_eq_true rfl) rfl rfl ?_
      exact rW_i C hJ hr rfl (MP.ok hF (by rw [eP]) hI_14 hK_14 (by rw [hF]; exact ht_14)) dX7_reason_27
    · skip
      exact absurd (show (if (0 : Int32) = 0 then (0 : Int32) else 1) = 0 by decide) c_17
