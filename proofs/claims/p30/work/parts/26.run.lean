/-! QUEUE: the run of a text (by program) -/
set_option maxHeartbeats 4000000 in
set_option maxRecDepth 100000 in
theorem c_X6_carryOutRead {l : Launch} {E : GE} (hE : Env0 E) {S : ST} {X : EX} (hX : Env1 E X) {n : Nat} {z : Nat → Int32} {mm : Nat → Nat → Int32} (h : LnIs (sL S) 0 n z mm) {u_n u_p : Nat} {u_b u_g : Nat → Int32} {u_f : Int32} {u_c : Option Nat} (hT : TX S u_n u_b u_p u_f u_c u_g) (hN : u_n ≤ 150) {u_j : Nat} (hj : u_j < 11) (fu : Nat) (hfu : fu = 1000) : MW l E yX6_carryOutRead cX6_carryOutRead 5 (some .boolean) 5 115 S [.ref (gA E 83), .ref (gN E u_j)] (fun v S1 => v = some (.int (if f_ft (gof n mm) n u_j (u_g 0) (u_g 1) (u_g 2) = 0 then 1 else 0)) ∧ (if f_ft (gof n mm) n u_j (u_g 0) (u_g 1) (u_g 2) = 0 then Up S S1 0 (f_co fu n z mm u_j (u_g 0) (u_g 1) (u_g 2)).2.1 (f_co fu n z mm u_j (u_g 0) (u_g 1) (u_g 2)).2.2.1 (f_co fu n z mm u_j (u_g 0) (u_g 1) (u_g 2)).2.2.2 else S1 = S)) := by
  refine MW.of hE (by decide) (Nat.le_of_ble_eq_true rfl) ?_
  intro p e s m below meth c ls C hJ hr hl
  have hx := C.x
  have hb := C.b
  have hl : lv_has ls 5 [(0, .ref (gA E 83)), (1, .ref (gN E u_j))] := hl
  refine lv_aload_n hx hb dX6_carryOutRead_0 rfl (lv_at hl 1 rfl) ?_
  refine lv_ifnonnull (tgt := 6) hx hb dX6_carryOutRead_1 (by decide) ?_
  refine lv_aload_n hx hb dX6_carryOutRead_6 rfl (lv_at hl 0 rfl) ?_
  refine g_X6_29 C hJ dX6_carryOutRead_7 ?_
  refine lv_iconst (v := 0) hx hb dX6_carryOutRead_10 (by decide) ?_
  refine cr_X6_204 C hJ (rest := []) (c_X2_number hE hT hN 0 (by decide)) dX6_carryOutRead_11 hl.1 ⟨Nat.le_of_ble_eq_true rfl, Nat.le_of_ble_eq_true rfl⟩ ⟨Nat.le_refl _, Nat.le_refl _⟩ (Nat.le_of_ble_eq_true rfl) rfl rfl ?_
  refine lv_istore_n (lv' := [(2, .int (u_g 0)), (0, .ref (gA E 83)), (1, .ref (gN E u_j))]) hx hb dX6_carryOutRead_14 rfl hl (by decide) rfl (fun ls hl => ?_)
  refine lv_aload_n hx hb dX6_carryOutRead_15 rfl (lv_at hl 1 rfl) ?_
  refine g_X6_29 C hJ dX6_carryOutRead_16 ?_
  refine lv_iconst (v := 1) hx hb dX6_carryOutRead_19 (by decide) ?_
  refine cr_X6_204 C hJ (rest := []) (c_X2_number hE hT hN 1 (by decide)) dX6_carryOutRead_20 hl.1 ⟨Nat.le_of_ble_eq_true rfl, Nat.le_of_ble_eq_true rfl⟩ ⟨Nat.le_refl _, Nat.le_refl _⟩ (Nat.le_of_ble_eq_true rfl) rfl rfl ?_
  refine lv_istore_n (lv' := [(3, .int (u_g 1)), (2, .int (u_g 0)), (0, .ref (gA E 83)), (1, .ref (gN E u_j))]) hx hb dX6_carryOutRead_23 rfl hl (by decide) rfl (fun ls hl => ?_)
  refine lv_aload_n hx hb dX6_carryOutRead_24 rfl (lv_at hl 2 rfl) ?_
  refine g_X6_29 C hJ dX6_carryOutRead_25 ?_
  refine lv_iconst (v := 2) hx hb dX6_carryOutRead_28 (by decide) ?_
  refine cr_X6_204 C hJ (rest := []) (c_X2_number hE hT hN 2 (by decide)) dX6_carryOutRead_29 hl.1 ⟨Nat.le_of_ble_eq_true rfl, Nat.le_of_ble_eq_true rfl⟩ ⟨Nat.le_refl _, Nat.le_refl _⟩ (Nat.le_of_ble_eq_true rfl) rfl rfl ?_
  refine lv_istore (lv' := [(4, .int (u_g 2)), (3, .int (u_g 1)), (2, .int (u_g 0)), (0, .ref (gA E 83)), (1, .ref (gN E u_j))]) hx hb dX6_carryOutRead_32 hl (by decide) rfl (fun ls hl => ?_)
  refine lv_aload_n hx hb dX6_carryOutRead_34 rfl (lv_at hl 3 rfl) ?_
  refine lv_aload_n hx hb dX6_carryOutRead_35 rfl (lv_at hl 4 rfl) ?_
  refine lv_iload_n hx hb dX6_carryOutRead_36 rfl (lv_at hl 2 rfl) ?_
  refine lv_iload_n hx hb dX6_carryOutRead_37 rfl (lv_at hl 1 rfl) ?_
  refine lv_iload hx hb dX6_carryOutRead_38 (lv_at hl 0 rfl) ?_
  refine cr_X6_198 C hJ (rest := []) (c_X6_faultOf hE hX h hj (u_g 0) (u_g 1) (u_g 2)) dX6_carryOutRead_40 hl.1 ⟨Nat.le_of_ble_eq_true rfl, Nat.le_of_ble_eq_true rfl⟩ ⟨Nat.le_refl _, Nat.le_refl _⟩ (Nat.le_of_ble_eq_true rfl) rfl rfl ?_
  refine lv_if_eq (tgt := 48) hx hb dX6_carryOutRead_43 (by decide) (fun c_43 => ?_) (fun c_43 => ?_)
  · skip
    refine lv_aload_n hx hb dX6_carryOutRead_48 rfl (lv_at hl 3 rfl) ?_
    refine lv_aload_n hx hb dX6_carryOutRead_49 rfl (lv_at hl 4 rfl) ?_
    refine lv_iload_n hx hb dX6_carryOutRead_50 rfl (lv_at hl 2 rfl) ?_
    refine lv_iload_n hx hb dX6_carryOutRead_51 rfl (lv_at hl 1 rfl) ?_
    refine lv_iload hx hb dX6_carryOutRead_52 (lv_at hl 0 rfl) ?_
    refine cw_X6_201 C hJ (rest := []) (c_X6_carryOut hE hX h hj (u_g 0) (u_g 1) (u_g 2) c_43 fu hfu) dX6_carryOutRead_54 hl.1 ⟨Nat.le_of_ble_eq_true rfl, Nat.le_of_ble_eq_true rfl⟩ ⟨Nat.le_refl _, Nat.le_refl _⟩ (Nat.le_of_ble_eq_true rfl) rfl rfl (fun vr S_54 H locs hP hJ => ?_)
    obtain ⟨rfl, hU⟩ := hP
    refine lv_pop hx hb dX6_carryOutRead_57 rfl ?_
    refine lv_iconst (v := 1) hx hb dX6_carryOutRead_58 (by decide) ?_
    exact rW_i C hJ hr rfl (⟨by rw [if_pos c_43], by rw [if_pos c_43]; exact hU⟩) dX6_carryOutRead_59
  · skip
    refine lv_iconst (v := 0) hx hb dX6_carryOutRead_46 (by decide) ?_
    exact rW_i C hJ hr rfl (⟨by rw [if_neg c_43], by rw [if_neg c_43]⟩) dX6_carryOutRead_47
set_option maxHeartbeats 4000000 in
set_option maxRecDepth 100000 in
theorem c_X6_runCommands {l : Launch} {E : GE} (hE : Env0 E) {S : ST} {X : EX} (hX : Env1 E X) {n : Nat} {z : Nat → Int32} {mm : Nat → Nat → Int32} {mc : Nat} {sv : Nat → LVt} (hXI : XI S (n, z, mm) mc sv) {u_n u_p : Nat} {u_b u_g : Nat → Int32} {u_f : Int32} {u_c : Option Nat} (hT : TX S u_n u_b u_p u_f u_c u_g) (hN : u_n ≤ 150) (fu : Nat) (hfu : fu = 1000) : MW l E yX6_runCommands cX6_runCommands 4 (some .int) 8 179 S [.ref (gA E 83)] (fun v S1 => ∃ u_h : Nat → Int32, v = some (.int (if t_flt u_n u_b 150 0 u_g = -1 then nI (t_go fu u_n u_b 150 0 u_h (n, z, mm)).1 else -10 - t_flt u_n u_b 150 0 u_g)) ∧ (if t_flt u_n u_b 150 0 u_g = -1 then XI S1 (t_go fu u_n u_b 150 0 u_h (n, z, mm)).2 (f_push (n, z, mm) mc sv).1 (f_push (n, z, mm) mc sv).2 else XI S1 (n, z, mm) mc sv) ∧ (∃ u_p1 u_f1 u_c1 u_g1, TX S1 u_n u_b u_p1 u_f1 u_c1 u_g1) ∧ S1.2.2.2 = S.2.2.2) := by
  refine MW.of hE (by decide) (Nat.le_of_ble_eq_true rfl) ?_
  intro p e s m below meth c ls C hJ hr hl
  have hx := C.x
  have hb := C.b
  have hl : lv_has ls 4 [(0, .ref (gA E 83))] := hl
  refine lv_aload_n hx hb dX6_runCommands_0 rfl (lv_at hl 0 rfl) ?_
  refine g_X6_29 C hJ dX6_runCommands_1 ?_
  refine cw_X6_148 C hJ (rest := []) (c_X2_findFault hE hX hT hN) dX6_runCommands_4 hl.1 ⟨Nat.le_of_ble_eq_true rfl, Nat.le_of_ble_eq_true rfl⟩ ⟨Nat.le_refl _, Nat.le_refl _⟩ (Nat.le_of_ble_eq_true rfl) rfl rfl (fun vr S_4 H locs hP hJ => ?_)
  obtain ⟨rfl, ⟨u_q4, u_f4, u_c4, u_h4, hq4, hT4⟩, hR4⟩ := hP
  have hX4 := hXI.rt hR4
  refine lv_istore_n (lv' := [(1, .int (t_flt u_n u_b 150 0 u_g)), (0, .ref (gA E 83))]) hx hb dX6_runCommands_7 rfl hl (by decide) rfl (fun ls hl => ?_)
  refine lv_iload_n hx hb dX6_runCommands_8 rfl (lv_at hl 0 rfl) ?_
  refine lv_iconst (v := (-1)) hx hb dX6_runCommands_9 (by decide) ?_
  refine lv_icmp_eq (tgt := 18) hx hb dX6_runCommands_10 (by decide) (fun c_10 => ?_) (fun c_10 => ?_)
  · skip
    have hGV : GV fu u_n u_b u_h4 (n, z, mm) 0 0 u_h4 (n, z, mm) := ⟨(t_flt_g u_n u_b 150 0 u_h4 u_g).trans c_10, by rw [Nat.zero_add]⟩
    refine lv_aload_n hx hb dX6_runCommands_18 rfl (lv_at hl 1 rfl) ?_
    refine g_X6_22 C hJ dX6_runCommands_19 ?_
    refine lv_aload_n hx hb dX6_runCommands_22 rfl (lv_at hl 1 rfl) ?_
    refine g_X6_10 C hJ dX6_runCommands_23 ?_
    refine cw_X6_63 C hJ (rest := []) (c_X3_push hE hX4) dX6_runCommands_26 hl.1 ⟨Nat.le_of_ble_eq_true rfl, Nat.le_of_ble_eq_true rfl⟩ ⟨Nat.le_refl _, Nat.le_refl _⟩ (Nat.le_of_ble_eq_true rfl) rfl rfl (fun vr S_26 H locs hP hJ => ?_)
    obtain ⟨rfl, hX26, hR26⟩ := hP
    have hT26 := hT4.mv hR26
    refine lv_iconst (v := 0) hx hb dX6_runCommands_29 (by decide) ?_
    refine lv_istore_n (lv' := [(2, .int 0), (1, .int (t_flt u_n u_b 150 0 u_g)), (0, .ref (gA E 83))]) hx hb dX6_runCommands_30 rfl hl (by decide) rfl (fun ls hl => ?_)
    refine lv_aload_n hx hb dX6_runCommands_31 rfl (lv_at hl 2 rfl) ?_
    refine g_X6_29 C hJ dX6_runCommands_32 ?_
    refine cw_X6_151 C hJ (rest := []) (c_X2_startReading hE hT26 hN) dX6_runCommands_35 hl.1 ⟨Nat.le_of_ble_eq_true rfl, Nat.le_of_ble_eq_true rfl⟩ ⟨Nat.le_refl _, Nat.le_refl _⟩ (Nat.le_of_ble_eq_true rfl) rfl rfl (fun vr S_35 H locs hP hJ => ?_)
    obtain ⟨rfl, hT35, hR35⟩ := hP
    have hX35 := hX26.rt hR35
    have hS35 : S_35.2.2.2 = S.2.2.2 := hR35.2.2.trans ((congrArg (fun q => q.2) hR26).trans hR4.2.2)
    refine lv_iconst (v := 0) hx hb dX6_runCommands_38 (by decide) ?_
    refine lv_istore_n (lv' := [(3, .int 0), (2, .int 0), (1, .int (t_flt u_n u_b 150 0 u_g)), (0, .ref (gA E 83))]) hx hb dX6_runCommands_39 rfl hl (by decide) rfl (fun ls hl => ?_)
    have lp : ∀ (d : Nat) (i u_q : Nat) (u_c1 : Option Nat) (u_h : Nat → Int32) (u_v : LVt) (T : ST) (H : Heap) (locs : List Loc) (ls : Array Slot), (i ≤ 150) → (150 < i + d) → (u_q ≤ u_n) → (TX T u_n u_b u_q (-1) u_c1 u_h) → (GV fu u_n u_b u_h4 (n, z, mm) i u_q u_h u_v) → (XI T u_v (f_push (n, z, mm) mc sv).1 (f_push (n, z, mm) mc sv).2) → (T.2.2.2 = S.2.2.2) → JJ E T H locs → lv_has ls 4 [(0, .ref (gA E 83)), (1, .int (t_flt u_n u_b 150 0 u_g)), (2, .int (nI i)), (3, .int (nI i))] → W p l e (rmZ 8 179) s m ([.ref (gA E 83)] : List Value).toArray below meth c H locs 0 0 (WQ below ([.ref (gA E 83)] : List Value).toArray s E (fun v S1 => ∃ u_h : Nat → Int32, v = some (.int (if t_flt u_n u_b 150 0 u_g = -1 then nI (t_go fu u_n u_b 150 0 u_h (n, z, mm)).1 else -10 - t_flt u_n u_b 150 0 u_g)) ∧ (if t_flt u_n u_b 150 0 u_g = -1 then XI S1 (t_go fu u_n u_b 150 0 u_h (n, z, mm)).2 (f_push (n, z, mm) mc sv).1 (f_push (n, z, mm) mc sv).2 else XI S1 (n, z, mm) mc sv) ∧ (∃ u_p1 u_f1 u_c1 u_g1, TX S1 u_n u_b u_p1 u_f1 u_c1 u_g1) ∧ S1.2.2.2 = S.2.2.2)) (F0 m 40 ls []) := by
      intro d
      induction d with
      | zero =>
        intro i u_q u_c1 u_h u_v T H locs ls hi hd hq3 hT7 hv hX7 hS7 hJ hl
        omega
      | succ d ih_lp =>
        intro i u_q u_c1 u_h u_v T H locs ls hi hd hq3 hT7 hv hX7 hS7 hJ hl
        refine lv_iload_n hx hb dX6_runCommands_40 rfl (lv_at hl 3 rfl) ?_
        refine lv_sipush (v := 150) hx hb dX6_runCommands_41 (by decide) ?_
        refine lv_icmp_ge (tgt := 90) hx hb dX6_runCommands_44 (by decide) (fun c_44 => ?_) (fun c_44 => ?_)
        · skip
          have e9 : i = 150 := eqOfLe (N := 150) hi (by omega) c_44
          have hfin : t_go fu u_n u_b 150 0 u_h4 (n, z, mm) = (i, u_v) := by rw [hv.2, e9, Nat.sub_self]; rfl
          have hXe := hX7
          have hTe : ∃ u_p1 u_f1 u_c1 u_g1, TX T u_n u_b u_p1 u_f1 u_c1 u_g1 := ⟨_, _, _, _, hT7⟩
          have hSe := hS7
          refine lv_iload_n hx hb dX6_runCommands_90 rfl (lv_at hl 2 rfl) ?_
          exact rW_i C hJ hr rfl (⟨u_h4, by rw [if_pos c_10, hfin], by rw [if_pos c_10, hfin]; exact hXe, hTe, hSe⟩) dX6_runCommands_91
        · skip
          have hlt : i < 150 := ltOfNle (N := 150) (by omega) c_44
          refine lv_aload_n hx hb dX6_runCommands_47 rfl (lv_at hl 0 rfl) ?_
          refine g_X6_29 C hJ dX6_runCommands_48 ?_
          refine cw_X6_154 C hJ (rest := []) (c_X2_hasCommand hE hT7 hN hq3) dX6_runCommands_51 hl.1 ⟨Nat.le_of_ble_eq_true rfl, Nat.le_of_ble_eq_true rfl⟩ ⟨Nat.le_refl _, Nat.le_refl _⟩ (Nat.le_of_ble_eq_true rfl) rfl rfl (fun vr S_51 H locs hP hJ => ?_)
          obtain ⟨rfl, hT8, hR8⟩ := hP
          refine lv_if_eq (tgt := 90) hx hb dX6_runCommands_54 (by decide) (fun c_54 => ?_) (fun c_54 => ?_)
          · skip
            have hno : ¬ t_run spB u_n u_b u_q < u_n := fun q => by rw [if_pos ⟨rfl, q⟩] at c_54; exact absurd c_54 (by decide)
            have hfin := go_end hlt hv hno
            have hXe := hX7.rt hR8
            have hTe : ∃ u_p1 u_f1 u_c1 u_g1, TX S_51 u_n u_b u_p1 u_f1 u_c1 u_g1 := ⟨_, _, _, _, hT8⟩
            have hSe : S_51.2.2.2 = S.2.2.2 := hR8.2.2.trans hS7
            refine lv_iload_n hx hb dX6_runCommands_90 rfl (lv_at hl 2 rfl) ?_
            exact rW_i C hJ hr rfl (⟨u_h4, by rw [if_pos c_10, hfin], by rw [if_pos c_10, hfin]; exact hXe, hTe, hSe⟩) dX6_runCommands_91
          · skip
            have hyes : t_run spB u_n u_b u_q < u_n := by
              rcases Classical.em (t_run spB u_n u_b u_q < u_n) with q | q
              · exact q
              · rw [if_neg (fun y => q y.2)] at c_54; exact absurd rfl c_54
            rw [if_pos rfl] at hT8
            have hq9 := (t_run_le (u_q := spB) (u_b := u_b) hq3).2
            have hok := go_ok hlt hv hq3 hN hyes
            refine lv_aload_n hx hb dX6_runCommands_57 rfl (lv_at hl 0 rfl) ?_
            refine g_X6_29 C hJ dX6_runCommands_58 ?_
            refine cw_X6_158 C hJ (rest := []) (c_X2_readCommand hE hX hT8 hN hq9) dX6_runCommands_61 hl.1 ⟨Nat.le_of_ble_eq_true rfl, Nat.le_of_ble_eq_true rfl⟩ ⟨Nat.le_refl _, Nat.le_refl _⟩ (Nat.le_of_ble_eq_true rfl) rfl rfl (fun vr S_61 H locs hP hJ => ?_)
            obtain ⟨rfl, hRc, hR9⟩ := hP
            have hT9 := hRc.elim (fun q => q.2) (fun q => absurd hok.1 (by rw [q.1]; decide))
            have hle9 := t_rc_le (u_b := u_b) (u_g := u_h) hq9
            obtain ⟨u_r, hr9⟩ : ∃ u_r, u_r = t_rc u_n u_b (t_run spB u_n u_b u_q) u_h := ⟨_, rfl⟩
            rw [← hr9] at hT9 hle9 hok
            have hj9 := (hle9.2 hok.1).2
            have hX61 := (hX7.rt hR8).rt hR9
            have hS61 : S_61.2.2.2 = S.2.2.2 := hR9.2.2.trans (hR8.2.2.trans hS7)
            refine lv_aload_n hx hb dX6_runCommands_64 rfl (lv_at hl 0 rfl) ?_
            refine lv_aload_n hx hb dX6_runCommands_65 rfl (lv_at hl 0 rfl) ?_
            refine g_X6_29 C hJ dX6_runCommands_66 ?_
            refine g_X6_161 C hJ dX6_runCommands_69 ?_
            rw [hT9.2.2.2.1]
            · skip
              refine cw_X6_164 C hJ (rest := []) (c_X6_carryOutRead hE hX hX61.1 hT9 hN hj9 fu hfu) dX6_runCommands_72 hl.1 ⟨Nat.le_of_ble_eq_true rfl, Nat.le_of_ble_eq_true rfl⟩ ⟨Nat.le_refl _, Nat.le_refl _⟩ (Nat.le_of_ble_eq_true rfl) rfl rfl (fun vr S_72 H locs hP hJ => ?_)
              obtain ⟨rfl, hC⟩ := hP
              refine lv_if_ne (tgt := 81) hx hb dX6_runCommands_75 (by decide) (fun c_75 => ?_) (fun c_75 => ?_)
              · skip
                have hf9 : f_ft (gof u_v.1 u_v.2.2) u_v.1 u_r.2.1 (u_r.2.2.2 0) (u_r.2.2.2 1) (u_r.2.2.2 2) = 0 := by
                  rcases Classical.em (f_ft (gof u_v.1 u_v.2.2) u_v.1 u_r.2.1 (u_r.2.2.2 0) (u_r.2.2.2 1) (u_r.2.2.2 2) = 0) with q | q
                  · exact q
                  · rw [if_neg q] at c_75; exact absurd rfl c_75
                rw [if_pos hf9] at hC
                have hX72 := hX61.up hC
                have hT72 := hT9.up hC
                have hv72 := go_on hlt hv hq3 hN hyes hr9 hf9
                have hS72 : S_72.2.2.2 = S.2.2.2 := (congrArg (fun q => q.2.2) hC.1).trans hS61
                refine lv_iinc (v := nI (i + 1)) (lv' := [(2, .int (nI (i + 1))), (0, .ref (gA E 83)), (1, .int (t_flt u_n u_b 150 0 u_g)), (3, .int (nI i))]) hx hb dX6_runCommands_81 hl (k := 2) rfl (by exact nI_1 i) (by decide) rfl (fun ls hl => ?_)
                refine lv_iinc (v := nI (i + 1)) (lv' := [(3, .int (nI (i + 1))), (2, .int (nI (i + 1))), (0, .ref (gA E 83)), (1, .int (t_flt u_n u_b 150 0 u_g))]) hx hb dX6_runCommands_84 hl (k := 3) rfl (by exact nI_1 i) (by decide) rfl (fun ls hl => ?_)
                refine lv_goto (tgt := 40) hx hb dX6_runCommands_87 (by decide) ?_
                exact ih_lp (i + 1) u_r.2.2.1 _ u_r.2.2.2 _ S_72 H locs _ (by omega) (by omega) hle9.1 hT72 hv72 hX72 hS72 hJ (lv_sub hl [2, 3, 1, 0] rfl)
              · skip
                have hf9 : ¬ f_ft (gof u_v.1 u_v.2.2) u_v.1 u_r.2.1 (u_r.2.2.2 0) (u_r.2.2.2 1) (u_r.2.2.2 2) = 0 := fun q => by rw [if_pos q] at c_75; exact absurd c_75 (by decide)
                rw [if_neg hf9] at hC
                have hfin := go_stop hlt hv hyes hr9 hf9
                have hXe : XI S_72 u_v (f_push (n, z, mm) mc sv).1 (f_push (n, z, mm) mc sv).2 := by rw [hC]; exact hX61
                have hTe : ∃ u_p1 u_f1 u_c1 u_g1, TX S_72 u_n u_b u_p1 u_f1 u_c1 u_g1 := ⟨_, _, _, _, by rw [hC]; exact hT9⟩
                have hSe : S_72.2.2.2 = S.2.2.2 := by rw [hC]; exact hS61
                refine lv_goto (tgt := 90) hx hb dX6_runCommands_78 (by decide) ?_
                refine lv_iload_n hx hb dX6_runCommands_90 rfl (lv_at hl 2 rfl) ?_
                exact rW_i C hJ hr rfl (⟨u_h4, by rw [if_pos c_10, hfin], by rw [if_pos c_10, hfin]; exact hXe, hTe, hSe⟩) dX6_runCommands_91
    exact lp 151 0 0 none u_h4 (n, z, mm) S_35 H locs _ (Nat.zero_le _) (by omega) (Nat.zero_le _) hT35 hGV hX35 hS35 hJ (lv_sub hl [3, 2, 1, 0] rfl)
  · skip
    refine lv_bipush (v := (-10)) hx hb dX6_runCommands_13 (by decide) ?_
    refine lv_iload_n hx hb dX6_runCommands_15 rfl (lv_at hl 0 rfl) ?_
    refine lv_isub hx hb dX6_runCommands_16 ?_
    exact rW_i C hJ hr rfl (⟨u_g, by rw [if_neg c_10], by rw [if_neg c_10]; exact hX4, ⟨_, _, _, _, hT4⟩, hR4.2.2⟩) dX6_runCommands_17
