/-! LAW: settles (by program) -/
set_option maxHeartbeats 4000000 in
set_option maxRecDepth 100000 in
theorem c_L_settles {l : Launch} {E : GE} (hE : Env0 E) {S : ST} {X : EX} (hX : Env1 E X) {k n : Nat} {z : Nat → Int32} {mm : Nat → Nat → Int32} {mc : Nat} {sv : Nat → LVt} (hXI : XI S (n, z, mm) mc sv) (hQ : QOk k (n, z, mm)) (hL : (sT S).1 1 = nI 0) {u_c : Nat} {zs : Nat → Int32} {ms : Nat → Nat → Int32} (hS : f_set n 1000 z mm = (u_c, zs, ms)) {P : Nat} (hP : P < n) : MW l E yL_settles cL_settles 12 (some .boolean) 8 173 S [.ref (gA E 83), .int (mm P 0)] (fun v S1 => v = some (.int 1) ∧ XI S1 (n, zs, ms) (f_push (n, z, mm) mc sv).1 (f_push (n, z, mm) mc sv).2 ∧ S1.2.2 = S.2.2) := by
  have hn : n ≤ 10 := hQ.1
  have hV : VOk n mm := hQ.2.1
  have hM : MmOk n mm := hQ.2.2.1
  have h : LnIs (sL S) 0 n z mm := hXI.1
  have hQs : QOk k (n, zs, ms) := by have y := QOk.set 1000 z mm hQ; rw [hS] at y; exact y
  have hMs : MmOk n ms := hQs.2.2.1
  obtain ⟨Q, hQl, ePl, eQ⟩ : ∃ Q, Q < n ∧ f_place (gof n ms) n (mm P 0) = nI Q ∧ ms Q 0 = mm P 0 := place_has hn (by have y := set_has hn (q := mm P 0) 1000 z mm ⟨P, hP, rfl⟩; rw [hS] at y; exact y)
  have hcmp := told_cmp hV hn hS
  obtain ⟨u_l, hl9, el2, el3, el4⟩ := lie_ok (fun w => f_pro 1000 n z mm P (nI w)) 99
  obtain ⟨u_t, ht9, et9⟩ := told99 hV hP
  have hpro := pro_ms hn hS hP hQl ePl
  have hz4 : zs 4 = z 4 + nI u_c := by have y := set_z4 1000 z mm hn; rw [hS] at y; exact y
  have hmny : mny n ms = mny n mm := by have y := set_mny 1000 z mm hn; rw [hS] at y; exact y
  refine MW.of hE (by decide) (Nat.le_of_ble_eq_true rfl) ?_
  intro p e s m below meth c ls C hJ hr hl
  have hx := C.x
  have hb := C.b
  have hl : lv_has ls 12 [(0, .ref (gA E 83)), (1, .int (mm P 0))] := hl
  refine lv_aload_n hx hb dL_settles_0 rfl (lv_at hl 0 rfl) ?_
  refine lv_iconst (v := 0) hx hb dL_settles_1 (by decide) ?_
  refine cr_L_8 C hJ (rest := []) (m_whole hE hXI hQ hL 0 (by decide) (b := 0) (by decide) (v := nI n) rfl) dL_settles_2 hl.1 ⟨Nat.le_of_ble_eq_true rfl, Nat.le_of_ble_eq_true rfl⟩ ⟨Nat.le_refl _, Nat.le_refl _⟩ (Nat.le_of_ble_eq_true rfl) rfl rfl ?_
  refine lv_istore_n (lv' := [(2, .int (nI n)), (0, .ref (gA E 83)), (1, .int (mm P 0))]) hx hb dL_settles_5 rfl hl (by decide) rfl (fun ls hl => ?_)
  refine lv_aload_n hx hb dL_settles_6 rfl (lv_at hl 1 rfl) ?_
  refine lv_bipush (v := 9) hx hb dL_settles_7 (by decide) ?_
  refine cr_L_8 C hJ (rest := []) (m_whole hE hXI hQ hL 9 (by decide) (b := 9) (by decide) (v := z 4) rfl) dL_settles_9 hl.1 ⟨Nat.le_of_ble_eq_true rfl, Nat.le_of_ble_eq_true rfl⟩ ⟨Nat.le_refl _, Nat.le_refl _⟩ (Nat.le_of_ble_eq_true rfl) rfl rfl ?_
  refine lv_istore_n (lv' := [(3, .int (z 4)), (2, .int (nI n)), (0, .ref (gA E 83)), (1, .int (mm P 0))]) hx hb dL_settles_12 rfl hl (by decide) rfl (fun ls hl => ?_)
  refine lv_aload_n hx hb dL_settles_13 rfl (lv_at hl 2 rfl) ?_
  refine cr_L_34 C hJ (rest := []) (c_L_money hE hXI hQ hL) dL_settles_14 hl.1 ⟨Nat.le_of_ble_eq_true rfl, Nat.le_of_ble_eq_true rfl⟩ ⟨Nat.le_refl _, Nat.le_refl _⟩ (Nat.le_of_ble_eq_true rfl) rfl rfl ?_
  refine lv_istore (lv' := [(4, .int (mny n mm)), (3, .int (z 4)), (2, .int (nI n)), (0, .ref (gA E 83)), (1, .int (mm P 0))]) hx hb dL_settles_17 hl (by decide) rfl (fun ls hl => ?_)
  refine lv_aload_n hx hb dL_settles_19 rfl (lv_at hl 3 rfl) ?_
  refine lv_iconst (v := 3) hx hb dL_settles_20 (by decide) ?_
  refine cr_L_8 C hJ (rest := []) (m_whole hE hXI hQ hL 3 (by decide) (b := 3) (by decide) (v := f_told (gof n mm) n) rfl) dL_settles_21 hl.1 ⟨Nat.le_of_ble_eq_true rfl, Nat.le_of_ble_eq_true rfl⟩ ⟨Nat.le_refl _, Nat.le_refl _⟩ (Nat.le_of_ble_eq_true rfl) rfl rfl ?_
  refine lv_istore (lv' := [(5, .int (f_told (gof n mm) n)), (4, .int (mny n mm)), (3, .int (z 4)), (2, .int (nI n)), (0, .ref (gA E 83)), (1, .int (mm P 0))]) hx hb dL_settles_24 hl (by decide) rfl (fun ls hl => ?_)
  refine lv_iload_n hx hb dL_settles_26 rfl (lv_at hl 3 rfl) ?_
  refine lv_if_le (tgt := 38) hx hb dL_settles_27 (by decide) (fun c_27 => ?_) (fun c_27 => ?_)
  · skip
    exact absurd c_27 (nI_nle (by omega) (by omega))
  · skip
    refine lv_aload_n hx hb dL_settles_30 rfl (lv_at hl 4 rfl) ?_
    refine lv_iload_n hx hb dL_settles_31 rfl (lv_at hl 5 rfl) ?_
    refine cw_L_40 C hJ (rest := []) (d_settledPlace hE hXI hQ hS hP ePl rfl) dL_settles_32 hl.1 ⟨Nat.le_of_ble_eq_true rfl, Nat.le_of_ble_eq_true rfl⟩ ⟨Nat.le_refl _, Nat.le_refl _⟩ (Nat.le_of_ble_eq_true rfl) rfl rfl (fun vr S_32 H locs hP hJ => ?_)
    obtain ⟨rfl, hX32, hS32⟩ := hP
    have hL32 : (sT S_32).1 1 = nI 0 := txt_2 hL hS32
    refine lv_goto (tgt := 39) hx hb dL_settles_35 (by decide) ?_
    refine lv_istore (lv' := [(6, .int (nI Q)), (5, .int (f_told (gof n mm) n)), (4, .int (mny n mm)), (3, .int (z 4)), (2, .int (nI n)), (0, .ref (gA E 83)), (1, .int (mm P 0))]) hx hb dL_settles_39 hl (by decide) rfl (fun ls hl => ?_)
    refine lv_iload_n hx hb dL_settles_41 rfl (lv_at hl 4 rfl) ?_
    refine lv_if_le (tgt := 59) hx hb dL_settles_42 (by decide) (fun c_42 => ?_) (fun c_42 => ?_)
    · skip
      exact absurd c_42 (nI_nle (by omega) (by omega))
    · skip
      refine lv_aload_n hx hb dL_settles_45 rfl (lv_at hl 5 rfl) ?_
      refine lv_iload_n hx hb dL_settles_46 rfl (lv_at hl 6 rfl) ?_
      refine lv_aload_n hx hb dL_settles_47 rfl (lv_at hl 5 rfl) ?_
      refine lv_iload_n hx hb dL_settles_48 rfl (lv_at hl 6 rfl) ?_
      refine lv_iconst (v := 2) hx hb dL_settles_49 (by decide) ?_
      refine cr_L_17 C hJ (rest := [.int (mm P 0), .ref (gA E 83)]) (m_mem hE hX32 hQ (P := P) hP rfl 2 (by decide) (b := 2) (by decide) (v := mm P 2) rfl) dL_settles_50 hl.1 ⟨Nat.le_of_ble_eq_true rfl, Nat.le_of_ble_eq_true rfl⟩ ⟨Nat.le_refl _, Nat.le_refl _⟩ (Nat.le_of_ble_eq_true rfl) rfl rfl ?_
      refine cw_L_43 C hJ (rest := []) (d_profit hE hX32 hQ hP rfl (b := mm P 2) (by rw [et9]; exact f_in_N ht9 (by decide))) dL_settles_53 hl.1 ⟨Nat.le_of_ble_eq_true rfl, Nat.le_of_ble_eq_true rfl⟩ ⟨Nat.le_refl _, Nat.le_refl _⟩ (Nat.le_of_ble_eq_true rfl) rfl rfl (fun vr S_53 H locs hP hJ => ?_)
      obtain ⟨rfl, hX53, hS53⟩ := hP
      have hL53 : (sT S_53).1 1 = nI 0 := txt_2 hL32 hS53
      refine lv_goto (tgt := 60) hx hb dL_settles_56 (by decide) ?_
      refine lv_istore (lv' := [(7, .int (f_pro 1000 n z mm P (mm P 2))), (6, .int (nI Q)), (5, .int (f_told (gof n mm) n)), (4, .int (mny n mm)), (3, .int (z 4)), (2, .int (nI n)), (0, .ref (gA E 83)), (1, .int (mm P 0))]) hx hb dL_settles_60 hl (by decide) rfl (fun ls hl => ?_)
      refine lv_iload_n hx hb dL_settles_62 rfl (lv_at hl 5 rfl) ?_
      refine lv_if_le (tgt := 74) hx hb dL_settles_63 (by decide) (fun c_63 => ?_) (fun c_63 => ?_)
      · skip
        exact absurd c_63 (nI_nle (by omega) (by omega))
      · skip
        refine lv_aload_n hx hb dL_settles_66 rfl (lv_at hl 6 rfl) ?_
        refine lv_iload_n hx hb dL_settles_67 rfl (lv_at hl 7 rfl) ?_
        refine cw_L_46 C hJ (rest := []) (d_bestLie hE hX53 hQ hP rfl el2) dL_settles_68 hl.1 ⟨Nat.le_of_ble_eq_true rfl, Nat.le_of_ble_eq_true rfl⟩ ⟨Nat.le_refl _, Nat.le_refl _⟩ (Nat.le_of_ble_eq_true rfl) rfl rfl (fun vr S_68 H locs hP hJ => ?_)
        obtain ⟨rfl, hX68, hS68⟩ := hP
        have hL68 : (sT S_68).1 1 = nI 0 := txt_2 hL53 hS68
        refine lv_goto (tgt := 75) hx hb dL_settles_71 (by decide) ?_
        refine lv_istore (lv' := [(8, .int (nI u_l)), (7, .int (f_pro 1000 n z mm P (mm P 2))), (6, .int (nI Q)), (5, .int (f_told (gof n mm) n)), (4, .int (mny n mm)), (3, .int (z 4)), (2, .int (nI n)), (0, .ref (gA E 83)), (1, .int (mm P 0))]) hx hb dL_settles_75 hl (by decide) rfl (fun ls hl => ?_)
        refine lv_iload_n hx hb dL_settles_77 rfl (lv_at hl 6 rfl) ?_
        refine lv_if_le (tgt := 91) hx hb dL_settles_78 (by decide) (fun c_78 => ?_) (fun c_78 => ?_)
        · skip
          exact absurd c_78 (nI_nle (by omega) (by omega))
        · skip
          refine lv_aload_n hx hb dL_settles_81 rfl (lv_at hl 7 rfl) ?_
          refine lv_iload_n hx hb dL_settles_82 rfl (lv_at hl 8 rfl) ?_
          refine lv_iload hx hb dL_settles_83 (lv_at hl 0 rfl) ?_
          refine cw_L_43 C hJ (rest := []) (d_profit hE hX68 hQ hP rfl (b := nI u_l) (f_in_N hl9 (by decide))) dL_settles_85 hl.1 ⟨Nat.le_of_ble_eq_true rfl, Nat.le_of_ble_eq_true rfl⟩ ⟨Nat.le_refl _, Nat.le_refl _⟩ (Nat.le_of_ble_eq_true rfl) rfl rfl (fun vr S_85 H locs hP hJ => ?_)
          obtain ⟨rfl, hX85, hS85⟩ := hP
          have hL85 : (sT S_85).1 1 = nI 0 := txt_2 hL68 hS85
          refine lv_goto (tgt := 92) hx hb dL_settles_88 (by decide) ?_
          refine lv_istore (lv' := [(9, .int (f_pro 1000 n z mm P (nI u_l))), (8, .int (nI u_l)), (7, .int (f_pro 1000 n z mm P (mm P 2))), (6, .int (nI Q)), (5, .int (f_told (gof n mm) n)), (4, .int (mny n mm)), (3, .int (z 4)), (2, .int (nI n)), (0, .ref (gA E 83)), (1, .int (mm P 0))]) hx hb dL_settles_92 hl (by decide) rfl (fun ls hl => ?_)
          refine lv_iload_n hx hb dL_settles_94 rfl (lv_at hl 7 rfl) ?_
          refine lv_if_le (tgt := 115) hx hb dL_settles_95 (by decide) (fun c_95 => ?_) (fun c_95 => ?_)
          · skip
            exact absurd c_95 (nI_nle (by omega) (by omega))
          · skip
            refine lv_aload_n hx hb dL_settles_98 rfl (lv_at hl 8 rfl) ?_
            refine lv_iload_n hx hb dL_settles_99 rfl (lv_at hl 9 rfl) ?_
            refine lv_bipush (v := 6) hx hb dL_settles_100 (by decide) ?_
            refine cr_L_17 C hJ (rest := []) (m_mem hE hX85 hQ (P := P) hP rfl 6 (by decide) (b := 6) (by decide) (v := mm P 4) rfl) dL_settles_102 hl.1 ⟨Nat.le_of_ble_eq_true rfl, Nat.le_of_ble_eq_true rfl⟩ ⟨Nat.le_refl _, Nat.le_refl _⟩ (Nat.le_of_ble_eq_true rfl) rfl rfl ?_
            refine lv_aload_n hx hb dL_settles_105 rfl (lv_at hl 8 rfl) ?_
            refine lv_iload_n hx hb dL_settles_106 rfl (lv_at hl 9 rfl) ?_
            refine lv_iconst (v := 5) hx hb dL_settles_107 (by decide) ?_
            refine cr_L_17 C hJ (rest := [.int (mm P 4)]) (m_mem hE hX85 hQ (P := P) hP rfl 5 (by decide) (b := 5) (by decide) (v := mm P 1 * f_wait (gof n mm) P) rfl) dL_settles_108 hl.1 ⟨Nat.le_of_ble_eq_true rfl, Nat.le_of_ble_eq_true rfl⟩ ⟨Nat.le_refl _, Nat.le_refl _⟩ (Nat.le_of_ble_eq_true rfl) rfl rfl ?_
            refine lv_isub hx hb dL_settles_111 ?_
            refine lv_goto (tgt := 116) hx hb dL_settles_112 (by decide) ?_
            refine lv_istore (lv' := [(10, .int ((mm P 4) - (mm P 1 * f_wait (gof n mm) P))), (9, .int (f_pro 1000 n z mm P (nI u_l))), (8, .int (nI u_l)), (7, .int (f_pro 1000 n z mm P (mm P 2))), (6, .int (nI Q)), (5, .int (f_told (gof n mm) n)), (4, .int (mny n mm)), (3, .int (z 4)), (2, .int (nI n)), (0, .ref (gA E 83)), (1, .int (mm P 0))]) hx hb dL_settles_116 hl (by decide) rfl (fun ls hl => ?_)
            refine lv_aload_n hx hb dL_settles_118 rfl (lv_at hl 9 rfl) ?_
            refine cw_L_49 C hJ (rest := []) (d_settle hE hX hX85 hQ hS) dL_settles_119 hl.1 ⟨Nat.le_of_ble_eq_true rfl, Nat.le_of_ble_eq_true rfl⟩ ⟨Nat.le_refl _, Nat.le_refl _⟩ (Nat.le_of_ble_eq_true rfl) rfl rfl (fun vr S_119 H locs hP hJ => ?_)
            obtain ⟨rfl, hX119, hR119⟩ := hP
            have hL119 : (sT S_119).1 1 = nI 0 := txt_k hL85 hR119
            have hR0 : S_119.2.2 = S.2.2 := hR119.trans (congrArg (fun q => q.2) (hS85.trans (hS68.trans (hS53.trans hS32))))
            refine lv_istore (lv' := [(11, .int (nI u_c)), (10, .int ((mm P 4) - (mm P 1 * f_wait (gof n mm) P))), (9, .int (f_pro 1000 n z mm P (nI u_l))), (8, .int (nI u_l)), (7, .int (f_pro 1000 n z mm P (mm P 2))), (6, .int (nI Q)), (5, .int (f_told (gof n mm) n)), (4, .int (mny n mm)), (3, .int (z 4)), (2, .int (nI n)), (0, .ref (gA E 83)), (1, .int (mm P 0))]) hx hb dL_settles_122 hl (by decide) rfl (fun ls hl => ?_)
            refine lv_iload hx hb dL_settles_124 (lv_at hl 0 rfl) ?_
            refine lv_if_lt (tgt := 206) hx hb dL_settles_126 (by decide) (fun c_126 => ?_) (fun c_126 => ?_)
            · skip
              exact absurd c_126 (nI_pos hcmp.2.2)
            · skip
              refine lv_aload_n hx hb dL_settles_129 rfl (lv_at hl 10 rfl) ?_
              refine lv_iconst (v := 5) hx hb dL_settles_130 (by decide) ?_
              refine cr_L_8 C hJ (rest := []) (m_whole hE hX119 hQs hL119 5 (by decide) (b := 5) (by decide) (v := f_willing (gof n ms) n) rfl) dL_settles_131 hl.1 ⟨Nat.le_of_ble_eq_true rfl, Nat.le_of_ble_eq_true rfl⟩ ⟨Nat.le_refl _, Nat.le_refl _⟩ (Nat.le_of_ble_eq_true rfl) rfl rfl ?_
              refine lv_if_ne (tgt := 206) hx hb dL_settles_134 (by decide) (fun c_134 => ?_) (fun c_134 => ?_)
              · skip
                exact absurd (will0 hV hn hS hMs) c_134
              · skip
                refine lv_aload_n hx hb dL_settles_137 rfl (lv_at hl 10 rfl) ?_
                refine lv_bipush (v := 9) hx hb dL_settles_138 (by decide) ?_
                refine cr_L_8 C hJ (rest := []) (m_whole hE hX119 hQs hL119 9 (by decide) (b := 9) (by decide) (v := zs 4) rfl) dL_settles_140 hl.1 ⟨Nat.le_of_ble_eq_true rfl, Nat.le_of_ble_eq_true rfl⟩ ⟨Nat.le_refl _, Nat.le_refl _⟩ (Nat.le_of_ble_eq_true rfl) rfl rfl ?_
                refine lv_iload_n hx hb dL_settles_143 rfl (lv_at hl 8 rfl) ?_
                refine lv_iload hx hb dL_settles_144 (lv_at hl 0 rfl) ?_
                refine lv_iadd hx hb dL_settles_146 ?_
                refine lv_icmp_ne (tgt := 206) hx hb dL_settles_147 (by decide) (fun c_147 => ?_) (fun c_147 => ?_)
                · skip
                  exact absurd (hz4) c_147
                · skip
                  refine lv_aload_n hx hb dL_settles_150 rfl (lv_at hl 10 rfl) ?_
                  refine cr_L_34 C hJ (rest := []) (c_L_money hE hX119 hQs hL119) dL_settles_151 hl.1 ⟨Nat.le_of_ble_eq_true rfl, Nat.le_of_ble_eq_true rfl⟩ ⟨Nat.le_refl _, Nat.le_refl _⟩ (Nat.le_of_ble_eq_true rfl) rfl rfl ?_
                  refine lv_iload hx hb dL_settles_154 (lv_at hl 7 rfl) ?_
                  refine lv_icmp_ne (tgt := 206) hx hb dL_settles_156 (by decide) (fun c_156 => ?_) (fun c_156 => ?_)
                  · skip
                    exact absurd (hmny) c_156
                  · skip
                    have J169 : ∀ (b1 : Int32) (ls : Array Slot), (b1 = if u_c = 0 then 1 else 0) → JJ E S_119 H locs → lv_has ls 12 [(11, .int (nI u_c)), (10, .int ((mm P 4) - (mm P 1 * f_wait (gof n mm) P))), (9, .int (f_pro 1000 n z mm P (nI u_l))), (8, .int (nI u_l)), (7, .int (f_pro 1000 n z mm P (mm P 2))), (6, .int (nI Q)), (5, .int (f_told (gof n mm) n)), (4, .int (mny n mm)), (3, .int (z 4)), (2, .int (nI n)), (0, .ref (gA E 83)), (1, .int (mm P 0))] → W p l e (rmZ 8 173) s m ([.ref (gA E 83), .int (mm P 0)] : List Value).toArray below meth c H locs 0 0 (WQ below ([.ref (gA E 83), .int (mm P 0)] : List Value).toArray s E (fun v S1 => v = some (.int 1) ∧ XI S1 (n, zs, ms) (f_push (n, z, mm) mc sv).1 (f_push (n, z, mm) mc sv).2 ∧ S1.2.2 = S.2.2)) (F0 m 169 ls [.int b1]) := by
                      intro b1 ls hb1 hJ hl
                      refine lv_aload_n hx hb dL_settles_169 rfl (lv_at hl 10 rfl) ?_
                      have J187 : ∀  (ls : Array Slot), JJ E S_119 H locs → lv_has ls 12 [(11, .int (nI u_c)), (10, .int ((mm P 4) - (mm P 1 * f_wait (gof n mm) P))), (9, .int (f_pro 1000 n z mm P (nI u_l))), (8, .int (nI u_l)), (7, .int (f_pro 1000 n z mm P (mm P 2))), (6, .int (nI Q)), (5, .int (f_told (gof n mm) n)), (4, .int (mny n mm)), (3, .int (z 4)), (2, .int (nI n)), (0, .ref (gA E 83)), (1, .int (mm P 0))] → W p l e (rmZ 8 173) s m ([.ref (gA E 83), .int (mm P 0)] : List Value).toArray below meth c H locs 0 0 (WQ below ([.ref (gA E 83), .int (mm P 0)] : List Value).toArray s E (fun v S1 => v = some (.int 1) ∧ XI S1 (n, zs, ms) (f_push (n, z, mm) mc sv).1 (f_push (n, z, mm) mc sv).2 ∧ S1.2.2 = S.2.2)) (F0 m 187 ls []) := by
                        intro  ls  hJ hl
                        refine lv_aload_n hx hb dL_settles_187 rfl (lv_at hl 10 rfl) ?_
                        refine lv_iconst (v := 3) hx hb dL_settles_188 (by decide) ?_
                        refine cr_L_8 C hJ (rest := []) (m_whole hE hX119 hQs hL119 3 (by decide) (b := 3) (by decide) (v := f_told (gof n ms) n) rfl) dL_settles_189 hl.1 ⟨Nat.le_of_ble_eq_true rfl, Nat.le_of_ble_eq_true rfl⟩ ⟨Nat.le_refl _, Nat.le_refl _⟩ (Nat.le_of_ble_eq_true rfl) rfl rfl ?_
                        refine lv_iload hx hb dL_settles_192 (lv_at hl 6 rfl) ?_
                        refine lv_icmp_gt (tgt := 206) hx hb dL_settles_194 (by decide) (fun c_194 => ?_) (fun c_194 => ?_)
                        · skip
                          exact absurd c_194 (Int32.not_lt.mpr hcmp.1)
                        · skip
                          refine lv_aload_n hx hb dL_settles_197 rfl (lv_at hl 10 rfl) ?_
                          refine lv_bipush (v := 8) hx hb dL_settles_198 (by decide) ?_
                          refine cr_L_8 C hJ (rest := []) (m_whole hE hX119 hQs hL119 8 (by decide) (b := 8) (by decide) (v := f_frs (gof n ms) n) rfl) dL_settles_200 hl.1 ⟨Nat.le_of_ble_eq_true rfl, Nat.le_of_ble_eq_true rfl⟩ ⟨Nat.le_refl _, Nat.le_refl _⟩ (Nat.le_of_ble_eq_true rfl) rfl rfl ?_
                          refine lv_if_ge (tgt := 208) hx hb dL_settles_203 (by decide) (fun c_203 => ?_) (fun c_203 => ?_)
                          · skip
                            refine lv_iload_n hx hb dL_settles_208 rfl (lv_at hl 9 rfl) ?_
                            refine lv_if_eq (tgt := 264) hx hb dL_settles_209 (by decide) (fun c_209 => ?_) (fun c_209 => ?_)
                            · skip
                              exact absurd c_209 (nI_ne0 (by omega) (by omega))
                            · skip
                              refine lv_aload_n hx hb dL_settles_212 rfl (lv_at hl 10 rfl) ?_
                              refine lv_iload_n hx hb dL_settles_213 rfl (lv_at hl 11 rfl) ?_
                              refine lv_iconst (v := 0) hx hb dL_settles_214 (by decide) ?_
                              refine cr_L_17 C hJ (rest := []) (m_mem hE hX119 hQs (P := Q) hQl eQ.symm 0 (by decide) (b := 0) (by decide) (v := nI Q) rfl) dL_settles_215 hl.1 ⟨Nat.le_of_ble_eq_true rfl, Nat.le_of_ble_eq_true rfl⟩ ⟨Nat.le_refl _, Nat.le_refl _⟩ (Nat.le_of_ble_eq_true rfl) rfl rfl ?_
                              refine lv_iload hx hb dL_settles_218 (lv_at hl 5 rfl) ?_
                              refine lv_icmp_ne (tgt := 268) hx hb dL_settles_220 (by decide) (fun c_220 => ?_) (fun c_220 => ?_)
                              · skip
                                exact absurd (rfl) c_220
                              · skip
                                refine lv_aload_n hx hb dL_settles_223 rfl (lv_at hl 10 rfl) ?_
                                refine lv_iload_n hx hb dL_settles_224 rfl (lv_at hl 11 rfl) ?_
                                refine lv_bipush (v := 6) hx hb dL_settles_225 (by decide) ?_
                                refine cr_L_17 C hJ (rest := []) (m_mem hE hX119 hQs (P := Q) hQl eQ.symm 6 (by decide) (b := 6) (by decide) (v := ms Q 4) rfl) dL_settles_227 hl.1 ⟨Nat.le_of_ble_eq_true rfl, Nat.le_of_ble_eq_true rfl⟩ ⟨Nat.le_refl _, Nat.le_refl _⟩ (Nat.le_of_ble_eq_true rfl) rfl rfl ?_
                                refine lv_aload_n hx hb dL_settles_230 rfl (lv_at hl 10 rfl) ?_
                                refine lv_iload_n hx hb dL_settles_231 rfl (lv_at hl 11 rfl) ?_
                                refine lv_iconst (v := 5) hx hb dL_settles_232 (by decide) ?_
                                refine cr_L_17 C hJ (rest := [.int (ms Q 4)]) (m_mem hE hX119 hQs (P := Q) hQl eQ.symm 5 (by decide) (b := 5) (by decide) (v := ms Q 1 * f_wait (gof n ms) Q) rfl) dL_settles_233 hl.1 ⟨Nat.le_of_ble_eq_true rfl, Nat.le_of_ble_eq_true rfl⟩ ⟨Nat.le_refl _, Nat.le_refl _⟩ (Nat.le_of_ble_eq_true rfl) rfl rfl ?_
                                refine lv_isub hx hb dL_settles_236 ?_
                                refine lv_iload hx hb dL_settles_237 (lv_at hl 1 rfl) ?_
                                refine lv_isub hx hb dL_settles_239 ?_
                                refine lv_iload hx hb dL_settles_240 (lv_at hl 4 rfl) ?_
                                refine lv_icmp_ne (tgt := 268) hx hb dL_settles_242 (by decide) (fun c_242 => ?_) (fun c_242 => ?_)
                                · skip
                                  exact absurd (by rw [hpro]; exact back4) c_242
                                · skip
                                  refine lv_iload hx hb dL_settles_245 (lv_at hl 2 rfl) ?_
                                  refine lv_iload hx hb dL_settles_247 (lv_at hl 4 rfl) ?_
                                  refine lv_icmp_lt (tgt := 268) hx hb dL_settles_249 (by decide) (fun c_249 => ?_) (fun c_249 => ?_)
                                  · skip
                                    exact absurd c_249 (Int32.not_lt.mpr (by rw [et9]; exact Int32.le_trans (el4 u_t ht9) (Int32.le_of_eq el3.symm)))
                                  · skip
                                    refine lv_iload hx hb dL_settles_252 (lv_at hl 3 rfl) ?_
                                    refine lv_if_lt (tgt := 268) hx hb dL_settles_254 (by decide) (fun c_254 => ?_) (fun c_254 => ?_)
                                    · skip
                                      exact absurd c_254 (nI_pos (by omega))
                                    · skip
                                      refine lv_iload hx hb dL_settles_257 (lv_at hl 3 rfl) ?_
                                      refine lv_bipush (v := 100) hx hb dL_settles_259 (by decide) ?_
                                      refine lv_icmp_ge (tgt := 268) hx hb dL_settles_261 (by decide) (fun c_261 => ?_) (fun c_261 => ?_)
                                      · skip
                                        exact absurd c_261 (nI_ge (b := 100) (by omega) (by decide))
                                      · skip
                                        refine lv_iconst (v := 1) hx hb dL_settles_264 (by decide) ?_
                                        refine lv_goto (tgt := 269) hx hb dL_settles_265 (by decide) ?_
                                        exact rW_i C hJ hr rfl (⟨rfl, hX119, hR0⟩) dL_settles_269
                          · skip
                            exact absurd (Int32.not_le.mp c_203) (frs_nn hn)
                      refine lv_iconst (v := 3) hx hb dL_settles_170 (by decide) ?_
                      refine cr_L_8 C hJ (rest := [.int b1]) (m_whole hE hX119 hQs hL119 3 (by decide) (b := 3) (by decide) (v := f_told (gof n ms) n) rfl) dL_settles_171 hl.1 ⟨Nat.le_of_ble_eq_true rfl, Nat.le_of_ble_eq_true rfl⟩ ⟨Nat.le_refl _, Nat.le_refl _⟩ (Nat.le_of_ble_eq_true rfl) rfl rfl ?_
                      refine lv_iload hx hb dL_settles_174 (lv_at hl 6 rfl) ?_
                      refine lv_icmp_ne (tgt := 183) hx hb dL_settles_176 (by decide) (fun c_176 => ?_) (fun c_176 => ?_)
                      · skip
                        have hbb : b1 = 0 := by rw [hb1, if_neg (fun y => c_176 (hcmp.2.1.mpr y))]
                        refine lv_iconst (v := 0) hx hb dL_settles_183 (by decide) ?_
                        refine lv_icmp_ne (tgt := 206) hx hb dL_settles_184 (by decide) (fun c_184 => ?_) (fun c_184 => ?_)
                        · skip
                          exact absurd (hbb) c_184
                        · skip
                          exact J187 _ hJ (lv_sub hl [0, 1, 2, 3, 4, 5, 6, 7, 8, 9, 10, 11] rfl)
                      · skip
                        have hbb : b1 = 1 := by rw [hb1, if_pos (hcmp.2.1.mp c_176)]
                        refine lv_iconst (v := 1) hx hb dL_settles_179 (by decide) ?_
                        refine lv_goto (tgt := 184) hx hb dL_settles_180 (by decide) ?_
                        refine lv_icmp_ne (tgt := 206) hx hb dL_settles_184 (by decide) (fun c_184 => ?_) (fun c_184 => ?_)
                        · skip
                          exact absurd (hbb) c_184
                        · skip
                          exact J187 _ hJ (lv_sub hl [0, 1, 2, 3, 4, 5, 6, 7, 8, 9, 10, 11] rfl)
                    refine lv_iload hx hb dL_settles_159 (lv_at hl 0 rfl) ?_
                    refine lv_if_ne (tgt := 168) hx hb dL_settles_161 (by decide) (fun c_161 => ?_) (fun c_161 => ?_)
                    · skip
                      have hb1 : (0 : Int32) = if u_c = 0 then 1 else 0 := by rw [if_neg (fun y => c_161 (by rw [y]; rfl))]
                      refine lv_iconst (v := 0) hx hb dL_settles_168 (by decide) ?_
                      exact J169 0 _ hb1 hJ (lv_sub hl [0, 1, 2, 3, 4, 5, 6, 7, 8, 9, 10, 11] rfl)
                    · skip
                      have hb1 : (1 : Int32) = if u_c = 0 then 1 else 0 := by rw [if_pos ((nI_eq (b := 0) hcmp.2.2 (by decide)).mp c_161)]
                      refine lv_iconst (v := 1) hx hb dL_settles_164 (by decide) ?_
                      refine lv_goto (tgt := 169) hx hb dL_settles_165 (by decide) ?_
                      exact J169 1 _ hb1 hJ (lv_sub hl [0, 1, 2, 3, 4, 5, 6, 7, 8, 9, 10, 11] rfl)
