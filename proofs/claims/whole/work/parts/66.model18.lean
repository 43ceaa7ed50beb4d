/-! MODEL: the run of a text (by program) -/
set_option maxHeartbeats 4000000 in
set_option maxRecDepth 100000 in
theorem c_X7_runCommands {l : Launch} {E : GE} (hE : Env0 E) {S : ST} {n : Nat} {z : Nat → Int32} {mm : Nat → Nat → Int32} {mc : Nat} {sv : Nat → LVt} (hI : MI S (n, z, mm) mc sv) {u_n u_p u_k : Nat} {u_b u_g : Nat → Int32} (hT : TM S u_n u_b u_p u_k u_g) (hN : u_n ≤ 150) (hG : GOk (n, z, mm)) (fu : Nat) (hfu : fu = 1000) : MW l E yX7_runCommands cX7_runCommands 4 (some .int) 6 133 S [.ref (gA E 84)] (fun v S1 => v = some (.int (if t_flt u_n u_b 150 0 u_g = -1 then nI (t_go fu u_n u_b 150 0 u_g (n, z, mm)).1 else -10 - t_flt u_n u_b 150 0 u_g)) ∧ (if t_flt u_n u_b 150 0 u_g = -1 then MI S1 (t_go fu u_n u_b 150 0 u_g (n, z, mm)).2 (f_push (n, z, mm) mc sv).1 (f_push (n, z, mm) mc sv).2 ∧ GOk (t_go fu u_n u_b 150 0 u_g (n, z, mm)).2 else MI S1 (n, z, mm) mc sv) ∧ (∃ q7 k7 g7, TM S1 u_n u_b q7 k7 g7) ∧ KR S S1) := by
  have hM : MmOk n mm := hI.2.1
  have hn : n ≤ 10 := hI.1.n10
  refine MW.of hE (by decide) (Nat.le_of_ble_eq_true rfl) ?_
  intro p e s m below meth c ls C hJ hr hl
  have hx := C.x
  have hb := C.b
  have hl : lv_has ls 4 [(0, .ref (gA E 84))] := hl
  refine lv_aload_n hx hb dX7_runCommands_0 rfl (lv_at hl 0 rfl) ?_
  refine lv_iconst (v := 0) hx hb dX7_runCommands_1 (by decide) ?_
  refine p_X7_22 C hJ dX7_runCommands_2 (fun H locs hJ => ?_)
  obtain ⟨S_2, hS_2⟩ : ∃ z : ST, z = setM S (mMs (sM S) 2 0) := ⟨_, rfl⟩
  rw [← hS_2] at hJ
  have hI_2 : MI S_2 (n, z, mm) mc sv := by rw [hS_2]; exact hI.th 0
  have hT_2 := hT.km (S1 := S_2) (by rw [hS_2]; exact KM.th)
  have kr_2 : KR S S_2 := KR.m (by rw [hS_2]; exact KM.th)
  refine lv_aload_n hx hb dX7_runCommands_5 rfl (lv_at hl 0 rfl) ?_
  refine cw_X7_223 C hJ (rest := []) (c_X7_fault hE hT_2 hN u_g) dX7_runCommands_6 hl.1 ⟨Nat.le_of_ble_eq_true rfl, Nat.le_of_ble_eq_true rfl⟩ ⟨Nat.le_refl _, Nat.le_refl _⟩ (Nat.le_of_ble_eq_true rfl) rfl rfl (fun vr S_6 H locs hP hJ => ?_)
  obtain ⟨rfl, o_6, q7, k7, g7, hT_6⟩ := hP
  have hI_6 := hI_2.tm o_6
  have kr_6 := kr_2.t (KR.x o_6)
  refine lv_istore_n (lv' := [(1, .int (t_flt u_n u_b 150 0 u_g)), (0, .ref (gA E 84))]) hx hb dX7_runCommands_9 rfl hl (by decide) rfl (fun ls hl => ?_)
  refine lv_iload_n hx hb dX7_runCommands_10 rfl (lv_at hl 0 rfl) ?_
  refine lv_iconst (v := (-1)) hx hb dX7_runCommands_11 (by decide) ?_
  refine lv_icmp_eq (tgt := 20) hx hb dX7_runCommands_12 (by decide) (fun c_12 => ?_) (fun c_12 => ?_)
  · skip
    refine lv_aload_n hx hb dX7_runCommands_20 rfl (lv_at hl 1 rfl) ?_
    refine cw_X7_60 C hJ (rest := []) (cm_saves hE hI_6) dX7_runCommands_21 hl.1 ⟨Nat.le_of_ble_eq_true rfl, Nat.le_of_ble_eq_true rfl⟩ ⟨Nat.le_refl _, Nat.le_refl _⟩ (Nat.le_of_ble_eq_true rfl) rfl rfl (fun vr S_21 H locs hP hJ => ?_)
    obtain ⟨rfl, hI_21, hK_21, _⟩ := hP
    refine lv_aload_n hx hb dX7_runCommands_24 rfl (lv_at hl 1 rfl) ?_
    refine lv_iconst (v := 0) hx hb dX7_runCommands_25 (by decide) ?_
    refine p_X7_170 C hJ dX7_runCommands_26 (fun H locs hJ => ?_)
    obtain ⟨S_26, hS_26⟩ : ∃ z : ST, z = setM S_21 (mMs (sM S_21) 5 0) := ⟨_, rfl⟩
    rw [← hS_26] at hJ
    have hI_26 : MI S_26 (n, z, mm) (f_push (n, z, mm) mc sv).1 (f_push (n, z, mm) mc sv).2 := hI_21.tm (by rw [hS_26]; exact RTm.sc)
    have hT_26 : TM S_26 u_n u_b 0 k7 g7 := by rw [hS_26]; exact (hT_6.km hK_21).at rfl
    have kr_26 : KR S S_26 := (kr_6.t (KR.m hK_21)).t (KR.x (by rw [hS_26]; exact RTm.sc))
    refine lv_iconst (v := 0) hx hb dX7_runCommands_29 (by decide) ?_
    refine lv_istore_n (lv' := [(2, .int 0), (1, .int (t_flt u_n u_b 150 0 u_g)), (0, .ref (gA E 84))]) hx hb dX7_runCommands_30 rfl hl (by decide) rfl (fun ls hl => ?_)
    refine lv_aload_n hx hb dX7_runCommands_31 rfl (lv_at hl 2 rfl) ?_
    refine cw_X7_204 C hJ (rest := []) (c_X7_passSpaces hE hT_26 hN (Nat.zero_le _)) dX7_runCommands_32 hl.1 ⟨Nat.le_of_ble_eq_true rfl, Nat.le_of_ble_eq_true rfl⟩ ⟨Nat.le_refl _, Nat.le_refl _⟩ (Nat.le_of_ble_eq_true rfl) rfl rfl (fun vr S_32 H locs hP hJ => ?_)
    obtain ⟨rfl, hT_32, o_32⟩ := hP
    have hI_32 := hI_26.tm o_32
    have kr_32 := kr_26.t (KR.x o_32)
    have lp : ∀ (d : Nat) (i q2 k2 : Nat) (h2 : Nat → Int32) (cv : LVt) (T : ST) (H : Heap) (locs : List Loc) (ls : Array Slot), (i ≤ q2) → (q2 ≤ u_n) → (u_n < q2 + d) → (GV fu u_n u_b g7 (n, z, mm) i q2 h2 cv) → (MI T cv (f_push (n, z, mm) mc sv).1 (f_push (n, z, mm) mc sv).2) → (GOk cv) → (TM T u_n u_b (t_run spB u_n u_b q2) k2 h2) → (KR S T) → JJ E T H locs → lv_has ls 4 [(0, .ref (gA E 84)), (2, .int (nI i))] → W p l e (rmZ 6 133) s m ([.ref (gA E 84)] : List Value).toArray below meth c H locs 0 0 (WQ below ([.ref (gA E 84)] : List Value).toArray s E (fun v S1 => v = some (.int (if t_flt u_n u_b 150 0 u_g = -1 then nI (t_go fu u_n u_b 150 0 u_g (n, z, mm)).1 else -10 - t_flt u_n u_b 150 0 u_g)) ∧ (if t_flt u_n u_b 150 0 u_g = -1 then MI S1 (t_go fu u_n u_b 150 0 u_g (n, z, mm)).2 (f_push (n, z, mm) mc sv).1 (f_push (n, z, mm) mc sv).2 ∧ GOk (t_go fu u_n u_b 150 0 u_g (n, z, mm)).2 else MI S1 (n, z, mm) mc sv) ∧ (∃ q7 k7 g7, TM S1 u_n u_b q7 k7 g7) ∧ KR S S1)) (F0 m 35 ls []) := by
      intro d
      induction d with
      | zero =>
        intro i q2 k2 h2 cv T H locs ls hi hq2 hd hv hI7 hG7 hT7 kr7 hJ hl
        omega
      | succ d ih_lp =>
        intro i q2 k2 h2 cv T H locs ls hi hq2 hd hv hI7 hG7 hT7 kr7 hJ hl
        have hqs := t_run_le (u_q := spB) (u_b := u_b) hq2
        refine lv_aload_n hx hb dX7_runCommands_35 rfl (lv_at hl 0 rfl) ?_
        refine g_X7_170 C hJ dX7_runCommands_36 ?_
        refine lv_aload_n hx hb dX7_runCommands_39 rfl (lv_at hl 0 rfl) ?_
        refine g_X7_152 C hJ dX7_runCommands_40 ?_
        refine lv_icmp_ge (tgt := 112) hx hb dX7_runCommands_43 (by decide) (fun c_43 => ?_) (fun c_43 => ?_)
        · skip
          have hge : u_n ≤ (t_run spB u_n u_b q2) := by rw [hT7.1, hT7.2.1] at c_43; exact (nI_leI (by omega) (by omega)).mp c_43
          have hgg : t_go fu u_n u_b 150 0 u_g (n, z, mm) = t_go fu u_n u_b 150 0 g7 (n, z, mm) := t_go_g hN 150 0 _ _ _ (Nat.zero_le _) c_12
          have hfin : t_go fu u_n u_b 150 0 u_g (n, z, mm) = (i, cv) := by rw [hgg, hv.2, go_no (by omega)]; rfl
          refine lv_iload_n hx hb dX7_runCommands_112 rfl (lv_at hl 1 rfl) ?_
          exact rW_i C hJ hr rfl (⟨by rw [if_pos c_12, hfin], by rw [if_pos c_12, hfin]; exact ⟨hI7, hG7⟩, ⟨_, _, _, hT7⟩, kr7⟩) dX7_runCommands_113
        · skip
          have hlt : (t_run spB u_n u_b q2) < u_n := by
            rcases Nat.lt_or_ge (t_run spB u_n u_b q2) u_n with q | q
            · exact q
            · exact absurd (by rw [hT7.1, hT7.2.1]; exact nI_le q (by omega)) c_43
          have hi150 : i < 150 := by omega
          have hok := go_ok hi150 hv hq2 hN hlt
          have hle21 := t_rc_le (u_b := u_b) (u_g := h2) hqs.2
          refine lv_aload_n hx hb dX7_runCommands_46 rfl (lv_at hl 0 rfl) ?_
          refine cw_X7_220 C hJ (rest := []) (c_X7_command hE hT7 hN hqs.2) dX7_runCommands_47 hl.1 ⟨Nat.le_of_ble_eq_true rfl, Nat.le_of_ble_eq_true rfl⟩ ⟨Nat.le_refl _, Nat.le_refl _⟩ (Nat.le_of_ble_eq_true rfl) rfl rfl (fun vr S_47 H locs hP hJ => ?_)
          obtain ⟨u_r, hr9⟩ : ∃ y, y = t_rc u_n u_b (t_run spB u_n u_b q2) h2 := ⟨_, rfl⟩
          rw [← hr9] at hP hok hle21
          obtain ⟨o_47, u_v, rfl, hC⟩ := hP
          obtain ⟨_, rfl, k8, hT_47⟩ := hC.resolve_right (fun y => by rw [hok.1] at y; cases y.1)
          have hgt := hle21.2 hok.1
          have hI_47 := hI7.tm o_47
          have kr_47 := kr7.t (KR.x o_47)
          refine lv_istore_n (lv' := [(3, .int (nI (u_r.2.1 + 1))), (0, .ref (gA E 84)), (2, .int (nI i))]) hx hb dX7_runCommands_50 rfl hl (by decide) rfl (fun ls hl => ?_)
          refine lv_aload_n hx hb dX7_runCommands_51 rfl (lv_at hl 1 rfl) ?_
          refine lv_iload_n hx hb dX7_runCommands_52 rfl (lv_at hl 0 rfl) ?_
          refine lv_aload_n hx hb dX7_runCommands_53 rfl (lv_at hl 1 rfl) ?_
          refine g_X7_16 C hJ dX7_runCommands_54 ?_
          refine lv_iconst (v := 0) hx hb dX7_runCommands_57 (by decide) ?_
          refine a_gi C hJ (P := 0) (rfl) (by decide) dX7_runCommands_58 ?_
          rw [hT_47.2.2.2.2]
          · skip
            refine lv_aload_n hx hb dX7_runCommands_59 rfl (lv_at hl 1 rfl) ?_
            refine g_X7_16 C hJ dX7_runCommands_60 ?_
            refine lv_iconst (v := 1) hx hb dX7_runCommands_63 (by decide) ?_
            refine a_gi C hJ (P := 1) (rfl) (by decide) dX7_runCommands_64 ?_
            rw [hT_47.2.2.2.2]
            · skip
              refine lv_aload_n hx hb dX7_runCommands_65 rfl (lv_at hl 1 rfl) ?_
              refine g_X7_16 C hJ dX7_runCommands_66 ?_
              refine lv_iconst (v := 2) hx hb dX7_runCommands_69 (by decide) ?_
              refine a_gi C hJ (P := 2) (rfl) (by decide) dX7_runCommands_70 ?_
              rw [hT_47.2.2.2.2]
              · skip
                refine cr_X7_226 C hJ (rest := []) (c_X7_whyNot hE hI_47.1 hI_47.2.1 hgt.2 _ _ _) dX7_runCommands_71 hl.1 ⟨Nat.le_of_ble_eq_true rfl, Nat.le_of_ble_eq_true rfl⟩ ⟨Nat.le_refl _, Nat.le_refl _⟩ (Nat.le_of_ble_eq_true rfl) rfl rfl ?_
                refine lv_if_eq (tgt := 79) hx hb dX7_runCommands_74 (by decide) (fun c_74 => ?_) (fun c_74 => ?_)
                · skip
                  have hf : f_ft (gof cv.1 cv.2.2) cv.1 u_r.2.1 (u_r.2.2.2 0) (u_r.2.2.2 1) (u_r.2.2.2 2) = 0 := (mc0 _ _ _ _ _).mp c_74
                  have hv2 := go_on hi150 hv hq2 hN hlt hr9 hf
                  have hSt : Stops cv.1 fu cv.2.1 cv.2.2 := by rw [hfu]; exact hG7.2.st hG7.1 _
                  refine lv_aload_n hx hb dX7_runCommands_79 rfl (lv_at hl 1 rfl) ?_
                  refine lv_iload_n hx hb dX7_runCommands_80 rfl (lv_at hl 0 rfl) ?_
                  refine lv_aload_n hx hb dX7_runCommands_81 rfl (lv_at hl 1 rfl) ?_
                  refine g_X7_16 C hJ dX7_runCommands_82 ?_
                  refine lv_iconst (v := 0) hx hb dX7_runCommands_85 (by decide) ?_
                  refine a_gi C hJ (P := 0) (rfl) (by decide) dX7_runCommands_86 ?_
                  rw [hT_47.2.2.2.2]
                  · skip
                    refine lv_aload_n hx hb dX7_runCommands_87 rfl (lv_at hl 1 rfl) ?_
                    refine g_X7_16 C hJ dX7_runCommands_88 ?_
                    refine lv_iconst (v := 1) hx hb dX7_runCommands_91 (by decide) ?_
                    refine a_gi C hJ (P := 1) (rfl) (by decide) dX7_runCommands_92 ?_
                    rw [hT_47.2.2.2.2]
                    · skip
                      refine lv_aload_n hx hb dX7_runCommands_93 rfl (lv_at hl 1 rfl) ?_
                      refine g_X7_16 C hJ dX7_runCommands_94 ?_
                      refine lv_iconst (v := 2) hx hb dX7_runCommands_97 (by decide) ?_
                      refine a_gi C hJ (P := 2) (rfl) (by decide) dX7_runCommands_98 ?_
                      rw [hT_47.2.2.2.2]
                      · skip
                        refine cw_X7_230 C hJ (rest := []) (c_X7_does hE hI_47.1 hI_47.2.1 hgt.2 _ _ _ hf fu hSt) dX7_runCommands_99 hl.1 ⟨Nat.le_of_ble_eq_true rfl, Nat.le_of_ble_eq_true rfl⟩ ⟨Nat.le_refl _, Nat.le_refl _⟩ (Nat.le_of_ble_eq_true rfl) rfl rfl (fun vr S_99 H locs hP hJ => ?_)
                        obtain ⟨rfl, hL_99⟩ := hP
                        have hI_99 := hI_47.lr hL_99
                        have hT_99 := hT_47.km hL_99.th.1
                        have kr_99 := kr_47.t (KR.m hL_99.th.1)
                        have hG_99 : GOk (f_co fu cv.1 cv.2.1 cv.2.2 u_r.2.1 (u_r.2.2.2 0) (u_r.2.2.2 1) (u_r.2.2.2 2)).2 := GOk.co (n := cv.1) (z := cv.2.1) (mm := cv.2.2) hG7 hgt.2 hf
                        refine lv_iinc (v := nI (i + 1)) (lv' := [(2, .int (nI (i + 1))), (3, .int (nI (u_r.2.1 + 1))), (0, .ref (gA E 84))]) hx hb dX7_runCommands_102 hl (k := 2) rfl (by exact nI_1 i) (by decide) rfl (fun ls hl => ?_)
                        refine lv_aload_n hx hb dX7_runCommands_105 rfl (lv_at hl 2 rfl) ?_
                        refine cw_X7_204 C hJ (rest := []) (c_X7_passSpaces hE hT_99 hN hle21.1) dX7_runCommands_106 hl.1 ⟨Nat.le_of_ble_eq_true rfl, Nat.le_of_ble_eq_true rfl⟩ ⟨Nat.le_refl _, Nat.le_refl _⟩ (Nat.le_of_ble_eq_true rfl) rfl rfl (fun vr S_106 H locs hP hJ => ?_)
                        obtain ⟨rfl, hT_106, o_106⟩ := hP
                        have hI_106 := hI_99.tm o_106
                        have kr_106 := kr_99.t (KR.x o_106)
                        refine lv_goto (tgt := 35) hx hb dX7_runCommands_109 (by decide) ?_
                        exact ih_lp (i + 1) _ _ _ _ S_106 H locs _ (by omega) hle21.1 (by omega) hv2 hI_106 hG_99 hT_106 kr_106 hJ (lv_sub hl [2, 0] rfl)
                · skip
                  have hf : ¬ f_ft (gof cv.1 cv.2.2) cv.1 u_r.2.1 (u_r.2.2.2 0) (u_r.2.2.2 1) (u_r.2.2.2 2) = 0 := fun y => c_74 ((mc0 _ _ _ _ _).mpr y)
                  have hgg : t_go fu u_n u_b 150 0 u_g (n, z, mm) = t_go fu u_n u_b 150 0 g7 (n, z, mm) := t_go_g hN 150 0 _ _ _ (Nat.zero_le _) c_12
                  have hfin : t_go fu u_n u_b 150 0 u_g (n, z, mm) = (i, cv) := by rw [hgg]; exact go_stop hi150 hv hlt hr9 hf
                  refine lv_iload_n hx hb dX7_runCommands_77 rfl (lv_at hl 2 rfl) ?_
                  exact rW_i C hJ hr rfl (⟨by rw [if_pos c_12, hfin], by rw [if_pos c_12, hfin]; exact ⟨hI_47, hG7⟩, ⟨_, _, _, hT_47⟩, kr_47⟩) dX7_runCommands_78
    exact lp (u_n + 1) 0 0 _ _ (n, z, mm) S_32 H locs _ (Nat.le_refl _) (Nat.zero_le _) (by omega) ⟨(t_flt_g u_n u_b 150 0 _ _).trans c_12, by rw [Nat.sub_zero, Nat.zero_add]⟩ hI_32 hG hT_32 kr_32 hJ (lv_sub hl [2, 0] rfl)
  · skip
    refine lv_bipush (v := (-10)) hx hb dX7_runCommands_15 (by decide) ?_
    refine lv_iload_n hx hb dX7_runCommands_17 rfl (lv_at hl 0 rfl) ?_
    refine lv_isub hx hb dX7_runCommands_18 ?_
    exact rW_i C hJ hr rfl (⟨by rw [if_neg c_12], by rw [if_neg c_12]; exact hI_6, ⟨_, _, _, hT_6⟩, kr_6⟩) dX7_runCommands_19
