/-! MODEL: words and numbers of a text (by program) -/
set_option maxHeartbeats 4000000 in
set_option maxRecDepth 100000 in
theorem c_X7_numbersOf {l : Launch} {E : GE} (hE : Env0 E) {S : ST} (p0 : Int32) : MR l E yX7_numbersOf cX7_numbersOf 1 (some .int) 0 0 S [.int p0] (some (.int (f_nof p0))) := by
  refine MR.of hE (by decide) (Nat.le_of_ble_eq_true rfl) ?_
  intro p e s m below meth c ls C hJ hr hl
  have hx := C.x
  have hb := C.b
  have hl : lv_has ls 1 [(0, .int p0)] := hl
  refine lv_iload_n hx hb dX7_numbersOf_0 rfl (lv_at hl 0 rfl) ?_
  refine lv_bipush (v := 9) hx hb dX7_numbersOf_1 (by decide) ?_
  refine lv_icmp_le (tgt := 10) hx hb dX7_numbersOf_3 (by decide) (fun c_3 => ?_) (fun c_3 => ?_)
  · skip
    have h3 : ¬ 9 < p0 := Int32.not_lt.mpr c_3
    refine lv_iload_n hx hb dX7_numbersOf_10 rfl (lv_at hl 0 rfl) ?_
    refine lv_iconst (v := 2) hx hb dX7_numbersOf_11 (by decide) ?_
    refine lv_icmp_ne (tgt := 19) hx hb dX7_numbersOf_12 (by decide) (fun c_12 => ?_) (fun c_12 => ?_)
    · skip
      refine lv_iload_n hx hb dX7_numbersOf_19 rfl (lv_at hl 0 rfl) ?_
      refine lv_iconst (v := 1) hx hb dX7_numbersOf_20 (by decide) ?_
      refine lv_icmp_eq (tgt := 34) hx hb dX7_numbersOf_21 (by decide) (fun c_21 => ?_) (fun c_21 => ?_)
      · skip
        refine lv_iconst (v := 2) hx hb dX7_numbersOf_34 (by decide) ?_
        refine lv_goto (tgt := 39) hx hb dX7_numbersOf_35 (by decide) ?_
        exact rR_i C hr rfl (by unfold f_nof; rw [if_neg h3, if_neg c_12]; first | (rw [if_pos (Or.inl c_21)]) | (rw [if_pos (Or.inr (Or.inl c_26))]) | (rw [if_pos (Or.inr (Or.inr c_31))])) dX7_numbersOf_39
      · skip
        refine lv_iload_n hx hb dX7_numbersOf_24 rfl (lv_at hl 0 rfl) ?_
        refine lv_iconst (v := 4) hx hb dX7_numbersOf_25 (by decide) ?_
        refine lv_icmp_eq (tgt := 34) hx hb dX7_numbersOf_26 (by decide) (fun c_26 => ?_) (fun c_26 => ?_)
        · skip
          refine lv_iconst (v := 2) hx hb dX7_numbersOf_34 (by decide) ?_
          refine lv_goto (tgt := 39) hx hb dX7_numbersOf_35 (by decide) ?_
          exact rR_i C hr rfl (by unfold f_nof; rw [if_neg h3, if_neg c_12]; first | (rw [if_pos (Or.inl c_21)]) | (rw [if_pos (Or.inr (Or.inl c_26))]) | (rw [if_pos (Or.inr (Or.inr c_31))])) dX7_numbersOf_39
        · skip
          refine lv_iload_n hx hb dX7_numbersOf_29 rfl (lv_at hl 0 rfl) ?_
          refine lv_iconst (v := 5) hx hb dX7_numbersOf_30 (by decide) ?_
          refine lv_icmp_ne (tgt := 38) hx hb dX7_numbersOf_31 (by decide) (fun c_31 => ?_) (fun c_31 => ?_)
          · skip
            refine lv_iconst (v := 1) hx hb dX7_numbersOf_38 (by decide) ?_
            exact rR_i C hr rfl (by unfold f_nof; rw [if_neg h3, if_neg c_12, if_neg (fun y => y.elim c_21 (fun y => y.elim c_26 c_31))]) dX7_numbersOf_39
          · skip
            refine lv_iconst (v := 2) hx hb dX7_numbersOf_34 (by decide) ?_
            refine lv_goto (tgt := 39) hx hb dX7_numbersOf_35 (by decide) ?_
            exact rR_i C hr rfl (by unfold f_nof; rw [if_neg h3, if_neg c_12]; first | (rw [if_pos (Or.inl c_21)]) | (rw [if_pos (Or.inr (Or.inl c_26))]) | (rw [if_pos (Or.inr (Or.inr c_31))])) dX7_numbersOf_39
    · skip
      refine lv_iconst (v := 3) hx hb dX7_numbersOf_15 (by decide) ?_
      refine lv_goto (tgt := 39) hx hb dX7_numbersOf_16 (by decide) ?_
      exact rR_i C hr rfl (by unfold f_nof; rw [if_neg h3, if_pos c_12]) dX7_numbersOf_39
  · skip
    have h3 : 9 < p0 := Int32.not_le.mp c_3
    refine lv_iconst (v := 0) hx hb dX7_numbersOf_6 (by decide) ?_
    refine lv_goto (tgt := 39) hx hb dX7_numbersOf_7 (by decide) ?_
    exact rR_i C hr rfl (by unfold f_nof; rw [if_pos h3]) dX7_numbersOf_39
set_option maxHeartbeats 4000000 in
set_option maxRecDepth 100000 in
theorem c_X7_word {l : Launch} {E : GE} (hE : Env0 E) {S : ST} {u_n u_p u_k : Nat} {u_b u_g : Nat → Int32} (hT : TM S u_n u_b u_p u_k u_g) (hN : u_n ≤ 150) (hP : u_p ≤ u_n) : MW l E yX7_word cX7_word 5 (some .int) 1 22 S [.ref (gA E 84)] (fun v S1 => ∃ u_v : Int32, v = some (.int u_v) ∧ RTm S S1 ∧ ((u_v = 0 ∧ t_cmd u_b u_p (t_run leB u_n u_b u_p) = none ∧ TM S1 u_n u_b u_p u_k u_g) ∨ ∃ u_j, u_j < 11 ∧ u_v = nI (u_j + 1) ∧ t_cmd u_b u_p (t_run leB u_n u_b u_p) = some u_j ∧ TM S1 u_n u_b (t_run leB u_n u_b u_p) u_k u_g)) := by
  refine MW.of hE (by decide) (Nat.le_of_ble_eq_true rfl) ?_
  intro p e s m below meth c ls C hJ hr hl
  have hx := C.x
  have hb := C.b
  have hl : lv_has ls 5 [(0, .ref (gA E 84))] := hl
  refine lv_lconst (v := 0) hx hb dX7_word_0 (by decide) ?_
  refine lv_lstore_n (lv' := [(1, .long 0), (0, .ref (gA E 84))]) hx hb dX7_word_1 rfl hl (by decide) rfl (fun ls hl => ?_)
  refine lv_aload_n hx hb dX7_word_2 rfl (lv_at hl 1 rfl) ?_
  refine g_X7_170 C hJ dX7_word_3 ?_
  rw [hT.2.1]
  · skip
    refine lv_istore_n (lv' := [(3, .int (nI u_p)), (1, .long 0), (0, .ref (gA E 84))]) hx hb dX7_word_6 rfl hl (by decide) rfl (fun ls hl => ?_)
    have lp : ∀ (d : Nat) (i : Nat) (xw : Int64) (T : ST) (H : Heap) (locs : List Loc) (ls : Array Slot), (u_p ≤ i ∧ i ≤ u_n) → (u_n < i + d) → (t_run leB u_n u_b i = t_run leB u_n u_b u_p) → (xw = t_hw u_b u_p (i - u_p)) → (∀ x, x < i - u_p → leB (u_b (u_p + x)) = true) → (TM T u_n u_b i u_k u_g) → (RTm S T) → JJ E T H locs → lv_has ls 5 [(0, .ref (gA E 84)), (1, .long xw), (3, .int (nI u_p))] → W p l e (rmZ 1 22) s m ([.ref (gA E 84)] : List Value).toArray below meth c H locs 0 0 (WQ below ([.ref (gA E 84)] : List Value).toArray s E (fun v S1 => ∃ u_v : Int32, v = some (.int u_v) ∧ RTm S S1 ∧ ((u_v = 0 ∧ t_cmd u_b u_p (t_run leB u_n u_b u_p) = none ∧ TM S1 u_n u_b u_p u_k u_g) ∨ ∃ u_j, u_j < 11 ∧ u_v = nI (u_j + 1) ∧ t_cmd u_b u_p (t_run leB u_n u_b u_p) = some u_j ∧ TM S1 u_n u_b (t_run leB u_n u_b u_p) u_k u_g))) (F0 m 7 ls []) := by
      intro d
      induction d with
      | zero =>
        intro i xw T H locs ls hi hd hr1 hw hlet hT7 ho hJ hl
        omega
      | succ d ih_lp =>
        intro i xw T H locs ls hi hd hr1 hw hlet hT7 ho hJ hl
        refine lv_aload_n hx hb dX7_word_7 rfl (lv_at hl 0 rfl) ?_
        refine cr_X7_173 C hJ (rest := []) (c_X7_here hE hT7 hN (hi.2)) dX7_word_8 hl.1 ⟨Nat.le_of_ble_eq_true rfl, Nat.le_of_ble_eq_true rfl⟩ ⟨Nat.le_refl _, Nat.le_refl _⟩ (Nat.le_of_ble_eq_true rfl) rfl rfl ?_
        refine lv_bipush (v := 97) hx hb dX7_word_11 (by decide) ?_
        refine lv_bipush (v := 122) hx hb dX7_word_13 (by decide) ?_
        refine cr_X7_37 C hJ (rest := []) (c_X7_in hE (t_at u_n u_b i) 97 122) dX7_word_15 hl.1 ⟨Nat.le_of_ble_eq_true rfl, Nat.le_of_ble_eq_true rfl⟩ ⟨Nat.le_refl _, Nat.le_refl _⟩ (Nat.le_of_ble_eq_true rfl) rfl rfl ?_
        refine lv_if_eq (tgt := 67) hx hb dX7_word_18 (by decide) (fun c_18 => ?_) (fun c_18 => ?_)
        · skip
          have hq : leB (t_at u_n u_b i) = false := bI_0 c_18
          have hfin : t_run leB u_n u_b u_p = i := by rw [← hr1]; exact t_run_e hq
          refine lv_lload_n hx hb dX7_word_67 rfl (lv_at hl 1 rfl) ?_
          refine lv_ldc2 hx hb C.ow (C.ts _ kl_X7_182) dX7_word_68 ?_
          refine W.lcmp hx hb dX7_word_71 ?_
          refine lv_if_ne (tgt := 79) hx hb dX7_word_72 (by decide) (fun c_72 => ?_) (fun c_72 => ?_)
          · skip
            refine lv_lload_n hx hb dX7_word_79 rfl (lv_at hl 1 rfl) ?_
            refine lv_ldc2 hx hb C.ow (C.ts _ kl_X7_184) dX7_word_80 ?_
            refine W.lcmp hx hb dX7_word_83 ?_
            refine lv_if_ne (tgt := 91) hx hb dX7_word_84 (by decide) (fun c_84 => ?_) (fun c_84 => ?_)
            · skip
              refine lv_lload_n hx hb dX7_word_91 rfl (lv_at hl 1 rfl) ?_
              refine lv_ldc2 hx hb C.ow (C.ts _ kl_X7_186) dX7_word_92 ?_
              refine W.lcmp hx hb dX7_word_95 ?_
              refine lv_if_ne (tgt := 103) hx hb dX7_word_96 (by decide) (fun c_96 => ?_) (fun c_96 => ?_)
              · skip
                refine lv_lload_n hx hb dX7_word_103 rfl (lv_at hl 1 rfl) ?_
                refine lv_ldc2 hx hb C.ow (C.ts _ kl_X7_188) dX7_word_104 ?_
                refine W.lcmp hx hb dX7_word_107 ?_
                refine lv_if_ne (tgt := 115) hx hb dX7_word_108 (by decide) (fun c_108 => ?_) (fun c_108 => ?_)
                · skip
                  refine lv_lload_n hx hb dX7_word_115 rfl (lv_at hl 1 rfl) ?_
                  refine lv_ldc2 hx hb C.ow (C.ts _ kl_X7_190) dX7_word_116 ?_
                  refine W.lcmp hx hb dX7_word_119 ?_
                  refine lv_if_ne (tgt := 127) hx hb dX7_word_120 (by decide) (fun c_120 => ?_) (fun c_120 => ?_)
                  · skip
                    refine lv_lload_n hx hb dX7_word_127 rfl (lv_at hl 1 rfl) ?_
                    refine lv_ldc2 hx hb C.ow (C.ts _ kl_X7_192) dX7_word_128 ?_
                    refine W.lcmp hx hb dX7_word_131 ?_
                    refine lv_if_ne (tgt := 140) hx hb dX7_word_132 (by decide) (fun c_132 => ?_) (fun c_132 => ?_)
                    · skip
                      refine lv_lload_n hx hb dX7_word_140 rfl (lv_at hl 1 rfl) ?_
                      refine lv_ldc2 hx hb C.ow (C.ts _ kl_X7_194) dX7_word_141 ?_
                      refine W.lcmp hx hb dX7_word_144 ?_
                      refine lv_if_ne (tgt := 153) hx hb dX7_word_145 (by decide) (fun c_145 => ?_) (fun c_145 => ?_)
                      · skip
                        refine lv_lload_n hx hb dX7_word_153 rfl (lv_at hl 1 rfl) ?_
                        refine lv_ldc2 hx hb C.ow (C.ts _ kl_X7_196) dX7_word_154 ?_
                        refine W.lcmp hx hb dX7_word_157 ?_
                        refine lv_if_ne (tgt := 166) hx hb dX7_word_158 (by decide) (fun c_158 => ?_) (fun c_158 => ?_)
                        · skip
                          refine lv_lload_n hx hb dX7_word_166 rfl (lv_at hl 1 rfl) ?_
                          refine lv_ldc2 hx hb C.ow (C.ts _ kl_X7_198) dX7_word_167 ?_
                          refine W.lcmp hx hb dX7_word_170 ?_
                          refine lv_if_ne (tgt := 179) hx hb dX7_word_171 (by decide) (fun c_171 => ?_) (fun c_171 => ?_)
                          · skip
                            refine lv_lload_n hx hb dX7_word_179 rfl (lv_at hl 1 rfl) ?_
                            refine lv_ldc2 hx hb C.ow (C.ts _ kl_X7_200) dX7_word_180 ?_
                            refine W.lcmp hx hb dX7_word_183 ?_
                            refine lv_if_ne (tgt := 192) hx hb dX7_word_184 (by decide) (fun c_184 => ?_) (fun c_184 => ?_)
                            · skip
                              refine lv_lload_n hx hb dX7_word_192 rfl (lv_at hl 1 rfl) ?_
                              refine lv_ldc2 hx hb C.ow (C.ts _ kl_X7_202) dX7_word_193 ?_
                              refine W.lcmp hx hb dX7_word_196 ?_
                              refine lv_if_ne (tgt := 205) hx hb dX7_word_197 (by decide) (fun c_197 => ?_) (fun c_197 => ?_)
                              · skip
                                refine lv_iconst (v := 0) hx hb dX7_word_205 (by decide) ?_
                                refine lv_istore (lv' := [(4, .int 0), (0, .ref (gA E 84)), (1, .long xw), (3, .int (nI u_p))]) hx hb dX7_word_206 hl (by decide) rfl (fun ls hl => ?_)
                                refine lv_aload_n hx hb dX7_word_208 rfl (lv_at hl 1 rfl) ?_
                                refine lv_iload hx hb dX7_word_209 (lv_at hl 0 rfl) ?_
                                refine lv_if_ne (tgt := 218) hx hb dX7_word_211 (by decide) (fun c_211 => ?_) (fun c_211 => ?_)
                                · skip
                                  exact absurd c_211 (by decide)
                                · skip
                                  refine lv_iload_n hx hb dX7_word_214 rfl (lv_at hl 3 rfl) ?_
                                  refine lv_goto (tgt := 222) hx hb dX7_word_215 (by decide) ?_
                                  refine p_X7_170 C hJ dX7_word_222 (fun H locs hJ => ?_)
                                  obtain ⟨S_222, hS_222⟩ : ∃ z : ST, z = setM T (mMs (sM T) 5 (nI u_p)) := ⟨_, rfl⟩
                                  rw [← hS_222] at hJ
                                  have ho9 : RTm S S_222 := by rw [hS_222]; exact ho.t RTm.sc
                                  refine lv_iload hx hb dX7_word_225 (lv_at hl 0 rfl) ?_
                                  exact rW_i C hJ hr rfl (⟨_, rfl, ho9, Or.inl ⟨rfl, by rw [hfin]; exact cmd_no hi.1 hlet (fun u_j hj y => by rw [← hw] at y; rcases (show u_j = 0 ∨ u_j = 1 ∨ u_j = 2 ∨ u_j = 3 ∨ u_j = 4 ∨ u_j = 5 ∨ u_j = 6 ∨ u_j = 7 ∨ u_j = 8 ∨ u_j = 9 ∨ u_j = 10 by omega) with rfl | rfl | rfl | rfl | rfl | rfl | rfl | rfl | rfl | rfl | rfl; exact c_72 (cmp0.mpr y); exact c_84 (cmp0.mpr y); exact c_96 (cmp0.mpr y); exact c_108 (cmp0.mpr y); exact c_120 (cmp0.mpr y); exact c_132 (cmp0.mpr y); exact c_145 (cmp0.mpr y); exact c_158 (cmp0.mpr y); exact c_171 (cmp0.mpr y); exact c_184 (cmp0.mpr y); exact c_197 (cmp0.mpr y)), by rw [hS_222]; exact hT7.at rfl⟩⟩) dX7_word_227
                              · skip
                                refine lv_bipush (v := 11) hx hb dX7_word_200 (by decide) ?_
                                refine lv_goto (tgt := 206) hx hb dX7_word_202 (by decide) ?_
                                refine lv_istore (lv' := [(4, .int 11), (0, .ref (gA E 84)), (1, .long xw), (3, .int (nI u_p))]) hx hb dX7_word_206 hl (by decide) rfl (fun ls hl => ?_)
                                refine lv_aload_n hx hb dX7_word_208 rfl (lv_at hl 1 rfl) ?_
                                refine lv_iload hx hb dX7_word_209 (lv_at hl 0 rfl) ?_
                                refine lv_if_ne (tgt := 218) hx hb dX7_word_211 (by decide) (fun c_211 => ?_) (fun c_211 => ?_)
                                · skip
                                  refine lv_aload_n hx hb dX7_word_218 rfl (lv_at hl 1 rfl) ?_
                                  refine g_X7_170 C hJ dX7_word_219 ?_
                                  refine p_X7_170 C hJ dX7_word_222 (fun H locs hJ => ?_)
                                  obtain ⟨S_222, hS_222⟩ : ∃ z : ST, z = setM T (mMs (sM T) 5 ((sM T).1 5)) := ⟨_, rfl⟩
                                  rw [← hS_222] at hJ
                                  have ho9 : RTm S S_222 := by rw [hS_222]; exact ho.t RTm.sc
                                  refine lv_iload hx hb dX7_word_225 (lv_at hl 0 rfl) ?_
                                  exact rW_i C hJ hr rfl (⟨_, rfl, ho9, Or.inr ⟨10, by decide, rfl, by rw [hfin]; exact cmd_of (by decide) hi.1 hlet (hw.symm.trans (cmp0.mp c_197)), by rw [hfin, hS_222]; exact hT7.at hT7.2.1⟩⟩) dX7_word_227
                                · skip
                                  exact absurd c_211 (by decide)
                            · skip
                              refine lv_bipush (v := 10) hx hb dX7_word_187 (by decide) ?_
                              refine lv_goto (tgt := 206) hx hb dX7_word_189 (by decide) ?_
                              refine lv_istore (lv' := [(4, .int 10), (0, .ref (gA E 84)), (1, .long xw), (3, .int (nI u_p))]) hx hb dX7_word_206 hl (by decide) rfl (fun ls hl => ?_)
                              refine lv_aload_n hx hb dX7_word_208 rfl (lv_at hl 1 rfl) ?_
                              refine lv_iload hx hb dX7_word_209 (lv_at hl 0 rfl) ?_
                              refine lv_if_ne (tgt := 218) hx hb dX7_word_211 (by decide) (fun c_211 => ?_) (fun c_211 => ?_)
                              · skip
                                refine lv_aload_n hx hb dX7_word_218 rfl (lv_at hl 1 rfl) ?_
                                refine g_X7_170 C hJ dX7_word_219 ?_
                                refine p_X7_170 C hJ dX7_word_222 (fun H locs hJ => ?_)
                                obtain ⟨S_222, hS_222⟩ : ∃ z : ST, z = setM T (mMs (sM T) 5 ((sM T).1 5)) := ⟨_, rfl⟩
                                rw [← hS_222] at hJ
                                have ho9 : RTm S S_222 := by rw [hS_222]; exact ho.t RTm.sc
                                refine lv_iload hx hb dX7_word_225 (lv_at hl 0 rfl) ?_
                                exact rW_i C hJ hr rfl (⟨_, rfl, ho9, Or.inr ⟨9, by decide, rfl, by rw [hfin]; exact cmd_of (by decide) hi.1 hlet (hw.symm.trans (cmp0.mp c_184)), by rw [hfin, hS_222]; exact hT7.at hT7.2.1⟩⟩) dX7_word_227
                              · skip
                                exact absurd c_211 (by decide)
                          · skip
                            refine lv_bipush (v := 9) hx hb dX7_word_174 (by decide) ?_
                            refine lv_goto (tgt := 206) hx hb dX7_word_176 (by decide) ?_
                            refine lv_istore (lv' := [(4, .int 9), (0, .ref (gA E 84)), (1, .long xw), (3, .int (nI u_p))]) hx hb dX7_word_206 hl (by decide) rfl (fun ls hl => ?_)
                            refine lv_aload_n hx hb dX7_word_208 rfl (lv_at hl 1 rfl) ?_
                            refine lv_iload hx hb dX7_word_209 (lv_at hl 0 rfl) ?_
                            refine lv_if_ne (tgt := 218) hx hb dX7_word_211 (by decide) (fun c_211 => ?_) (fun c_211 => ?_)
                            · skip
                              refine lv_aload_n hx hb dX7_word_218 rfl (lv_at hl 1 rfl) ?_
                              refine g_X7_170 C hJ dX7_word_219 ?_
                              refine p_X7_170 C hJ dX7_word_222 (fun H locs hJ => ?_)
                              obtain ⟨S_222, hS_222⟩ : ∃ z : ST, z = setM T (mMs (sM T) 5 ((sM T).1 5)) := ⟨_, rfl⟩
                              rw [← hS_222] at hJ
                              have ho9 : RTm S S_222 := by rw [hS_222]; exact ho.t RTm.sc
                              refine lv_iload hx hb dX7_word_225 (lv_at hl 0 rfl) ?_
                              exact rW_i C hJ hr rfl (⟨_, rfl, ho9, Or.inr ⟨8, by decide, rfl, by rw [hfin]; exact cmd_of (by decide) hi.1 hlet (hw.symm.trans (cmp0.mp c_171)), by rw [hfin, hS_222]; exact hT7.at hT7.2.1⟩⟩) dX7_word_227
                            · skip
                              exact absurd c_211 (by decide)
                        · skip
                          refine lv_bipush (v := 8) hx hb dX7_word_161 (by decide) ?_
                          refine lv_goto (tgt := 206) hx hb dX7_word_163 (by decide) ?_
                          refine lv_istore (lv' := [(4, .int 8), (0, .ref (gA E 84)), (1, .long xw), (3, .int (nI u_p))]) hx hb dX7_word_206 hl (by decide) rfl (fun ls hl => ?_)
                          refine lv_aload_n hx hb dX7_word_208 rfl (lv_at hl 1 rfl) ?_
                          refine lv_iload hx hb dX7_word_209 (lv_at hl 0 rfl) ?_
                          refine lv_if_ne (tgt := 218) hx hb dX7_word_211 (by decide) (fun c_211 => ?_) (fun c_211 => ?_)
                          · skip
                            refine lv_aload_n hx hb dX7_word_218 rfl (lv_at hl 1 rfl) ?_
                            refine g_X7_170 C hJ dX7_word_219 ?_
                            refine p_X7_170 C hJ dX7_word_222 (fun H locs hJ => ?_)
                            obtain ⟨S_222, hS_222⟩ : ∃ z : ST, z = setM T (mMs (sM T) 5 ((sM T).1 5)) := ⟨_, rfl⟩
                            rw [← hS_222] at hJ
                            have ho9 : RTm S S_222 := by rw [hS_222]; exact ho.t RTm.sc
                            refine lv_iload hx hb dX7_word_225 (lv_at hl 0 rfl) ?_
                            exact rW_i C hJ hr rfl (⟨_, rfl, ho9, Or.inr ⟨7, by decide, rfl, by rw [hfin]; exact cmd_of (by decide) hi.1 hlet (hw.symm.trans (cmp0.mp c_158)), by rw [hfin, hS_222]; exact hT7.at hT7.2.1⟩⟩) dX7_word_227
                          · skip
                            exact absurd c_211 (by decide)
                      · skip
                        refine lv_bipush (v := 7) hx hb dX7_word_148 (by decide) ?_
                        refine lv_goto (tgt := 206) hx hb dX7_word_150 (by decide) ?_
                        refine lv_istore (lv' := [(4, .int 7), (0, .ref (gA E 84)), (1, .long xw), (3, .int (nI u_p))]) hx hb dX7_word_206 hl (by decide) rfl (fun ls hl => ?_)
                        refine lv_aload_n hx hb dX7_word_208 rfl (lv_at hl 1 rfl) ?_
                        refine lv_iload hx hb dX7_word_209 (lv_at hl 0 rfl) ?_
                        refine lv_if_ne (tgt := 218) hx hb dX7_word_211 (by decide) (fun c_211 => ?_) (fun c_211 => ?_)
                        · skip
                          refine lv_aload_n hx hb dX7_word_218 rfl (lv_at hl 1 rfl) ?_
                          refine g_X7_170 C hJ dX7_word_219 ?_
                          refine p_X7_170 C hJ dX7_word_222 (fun H locs hJ => ?_)
                          obtain ⟨S_222, hS_222⟩ : ∃ z : ST, z = setM T (mMs (sM T) 5 ((sM T).1 5)) := ⟨_, rfl⟩
                          rw [← hS_222] at hJ
                          have ho9 : RTm S S_222 := by rw [hS_222]; exact ho.t RTm.sc
                          refine lv_iload hx hb dX7_word_225 (lv_at hl 0 rfl) ?_
                          exact rW_i C hJ hr rfl (⟨_, rfl, ho9, Or.inr ⟨6, by decide, rfl, by rw [hfin]; exact cmd_of (by decide) hi.1 hlet (hw.symm.trans (cmp0.mp c_145)), by rw [hfin, hS_222]; exact hT7.at hT7.2.1⟩⟩) dX7_word_227
                        · skip
                          exact absurd c_211 (by decide)
                    · skip
                      refine lv_bipush (v := 6) hx hb dX7_word_135 (by decide) ?_
                      refine lv_goto (tgt := 206) hx hb dX7_word_137 (by decide) ?_
                      refine lv_istore (lv' := [(4, .int 6), (0, .ref (gA E 84)), (1, .long xw), (3, .int (nI u_p))]) hx hb dX7_word_206 hl (by decide) rfl (fun ls hl => ?_)
                      refine lv_aload_n hx hb dX7_word_208 rfl (lv_at hl 1 rfl) ?_
                      refine lv_iload hx hb dX7_word_209 (lv_at hl 0 rfl) ?_
                      refine lv_if_ne (tgt := 218) hx hb dX7_word_211 (by decide) (fun c_211 => ?_) (fun c_211 => ?_)
                      · skip
                        refine lv_aload_n hx hb dX7_word_218 rfl (lv_at hl 1 rfl) ?_
                        refine g_X7_170 C hJ dX7_word_219 ?_
                        refine p_X7_170 C hJ dX7_word_222 (fun H locs hJ => ?_)
                        obtain ⟨S_222, hS_222⟩ : ∃ z : ST, z = setM T (mMs (sM T) 5 ((sM T).1 5)) := ⟨_, rfl⟩
                        rw [← hS_222] at hJ
                        have ho9 : RTm S S_222 := by rw [hS_222]; exact ho.t RTm.sc
                        refine lv_iload hx hb dX7_word_225 (lv_at hl 0 rfl) ?_
                        exact rW_i C hJ hr rfl (⟨_, rfl, ho9, Or.inr ⟨5, by decide, rfl, by rw [hfin]; exact cmd_of (by decide) hi.1 hlet (hw.symm.trans (cmp0.mp c_132)), by rw [hfin, hS_222]; exact hT7.at hT7.2.1⟩⟩) dX7_word_227
                      · skip
                        exact absurd c_211 (by decide)
                  · skip
                    refine lv_iconst (v := 5) hx hb dX7_word_123 (by decide) ?_
                    refine lv_goto (tgt := 206) hx hb dX7_word_124 (by decide) ?_
                    refine lv_istore (lv' := [(4, .int 5), (0, .ref (gA E 84)), (1, .long xw), (3, .int (nI u_p))]) hx hb dX7_word_206 hl (by decide) rfl (fun ls hl => ?_)
                    refine lv_aload_n hx hb dX7_word_208 rfl (lv_at hl 1 rfl) ?_
                    refine lv_iload hx hb dX7_word_209 (lv_at hl 0 rfl) ?_
                    refine lv_if_ne (tgt := 218) hx hb dX7_word_211 (by decide) (fun c_211 => ?_) (fun c_211 => ?_)
                    · skip
                      refine lv_aload_n hx hb dX7_word_218 rfl (lv_at hl 1 rfl) ?_
                      refine g_X7_170 C hJ dX7_word_219 ?_
                      refine p_X7_170 C hJ dX7_word_222 (fun H locs hJ => ?_)
                      obtain ⟨S_222, hS_222⟩ : ∃ z : ST, z = setM T (mMs (sM T) 5 ((sM T).1 5)) := ⟨_, rfl⟩
                      rw [← hS_222] at hJ
                      have ho9 : RTm S S_222 := by rw [hS_222]; exact ho.t RTm.sc
                      refine lv_iload hx hb dX7_word_225 (lv_at hl 0 rfl) ?_
                      exact rW_i C hJ hr rfl (⟨_, rfl, ho9, Or.inr ⟨4, by decide, rfl, by rw [hfin]; exact cmd_of (by decide) hi.1 hlet (hw.symm.trans (cmp0.mp c_120)), by rw [hfin, hS_222]; exact hT7.at hT7.2.1⟩⟩) dX7_word_227
                    · skip
                      exact absurd c_211 (by decide)
                · skip
                  refine lv_iconst (v := 4) hx hb dX7_word_111 (by decide) ?_
                  refine lv_goto (tgt := 206) hx hb dX7_word_112 (by decide) ?_
                  refine lv_istore (lv' := [(4, .int 4), (0, .ref (gA E 84)), (1, .long xw), (3, .int (nI u_p))]) hx hb dX7_word_206 hl (by decide) rfl (fun ls hl => ?_)
                  refine lv_aload_n hx hb dX7_word_208 rfl (lv_at hl 1 rfl) ?_
                  refine lv_iload hx hb dX7_word_209 (lv_at hl 0 rfl) ?_
                  refine lv_if_ne (tgt := 218) hx hb dX7_word_211 (by decide) (fun c_211 => ?_) (fun c_211 => ?_)
                  · skip
                    refine lv_aload_n hx hb dX7_word_218 rfl (lv_at hl 1 rfl) ?_
                    refine g_X7_170 C hJ dX7_word_219 ?_
                    refine p_X7_170 C hJ dX7_word_222 (fun H locs hJ => ?_)
                    obtain ⟨S_222, hS_222⟩ : ∃ z : ST, z = setM T (mMs (sM T) 5 ((sM T).1 5)) := ⟨_, rfl⟩
                    rw [← hS_222] at hJ
                    have ho9 : RTm S S_222 := by rw [hS_222]; exact ho.t RTm.sc
                    refine lv_iload hx hb dX7_word_225 (lv_at hl 0 rfl) ?_
                    exact rW_i C hJ hr rfl (⟨_, rfl, ho9, Or.inr ⟨3, by decide, rfl, by rw [hfin]; exact cmd_of (by decide) hi.1 hlet (hw.symm.trans (cmp0.mp c_108)), by rw [hfin, hS_222]; exact hT7.at hT7.2.1⟩⟩) dX7_word_227
                  · skip
                    exact absurd c_211 (by decide)
              · skip
                refine lv_iconst (v := 3) hx hb dX7_word_99 (by decide) ?_
                refine lv_goto (tgt := 206) hx hb dX7_word_100 (by decide) ?_
                refine lv_istore (lv' := [(4, .int 3), (0, .ref (gA E 84)), (1, .long xw), (3, .int (nI u_p))]) hx hb dX7_word_206 hl (by decide) rfl (fun ls hl => ?_)
                refine lv_aload_n hx hb dX7_word_208 rfl (lv_at hl 1 rfl) ?_
                refine lv_iload hx hb dX7_word_209 (lv_at hl 0 rfl) ?_
                refine lv_if_ne (tgt := 218) hx hb dX7_word_211 (by decide) (fun c_211 => ?_) (fun c_211 => ?_)
                · skip
                  refine lv_aload_n hx hb dX7_word_218 rfl (lv_at hl 1 rfl) ?_
                  refine g_X7_170 C hJ dX7_word_219 ?_
                  refine p_X7_170 C hJ dX7_word_222 (fun H locs hJ => ?_)
                  obtain ⟨S_222, hS_222⟩ : ∃ z : ST, z = setM T (mMs (sM T) 5 ((sM T).1 5)) := ⟨_, rfl⟩
                  rw [← hS_222] at hJ
                  have ho9 : RTm S S_222 := by rw [hS_222]; exact ho.t RTm.sc
                  refine lv_iload hx hb dX7_word_225 (lv_at hl 0 rfl) ?_
                  exact rW_i C hJ hr rfl (⟨_, rfl, ho9, Or.inr ⟨2, by decide, rfl, by rw [hfin]; exact cmd_of (by decide) hi.1 hlet (hw.symm.trans (cmp0.mp c_96)), by rw [hfin, hS_222]; exact hT7.at hT7.2.1⟩⟩) dX7_word_227
                · skip
                  exact absurd c_211 (by decide)
            · skip
              refine lv_iconst (v := 2) hx hb dX7_word_87 (by decide) ?_
              refine lv_goto (tgt := 206) hx hb dX7_word_88 (by decide) ?_
              refine lv_istore (lv' := [(4, .int 2), (0, .ref (gA E 84)), (1, .long xw), (3, .int (nI u_p))]) hx hb dX7_word_206 hl (by decide) rfl (fun ls hl => ?_)
              refine lv_aload_n hx hb dX7_word_208 rfl (lv_at hl 1 rfl) ?_
              refine lv_iload hx hb dX7_word_209 (lv_at hl 0 rfl) ?_
              refine lv_if_ne (tgt := 218) hx hb dX7_word_211 (by decide) (fun c_211 => ?_) (fun c_211 => ?_)
              · skip
                refine lv_aload_n hx hb dX7_word_218 rfl (lv_at hl 1 rfl) ?_
                refine g_X7_170 C hJ dX7_word_219 ?_
                refine p_X7_170 C hJ dX7_word_222 (fun H locs hJ => ?_)
                obtain ⟨S_222, hS_222⟩ : ∃ z : ST, z = setM T (mMs (sM T) 5 ((sM T).1 5)) := ⟨_, rfl⟩
                rw [← hS_222] at hJ
                have ho9 : RTm S S_222 := by rw [hS_222]; exact ho.t RTm.sc
                refine lv_iload hx hb dX7_word_225 (lv_at hl 0 rfl) ?_
                exact rW_i C hJ hr rfl (⟨_, rfl, ho9, Or.inr ⟨1, by decide, rfl, by rw [hfin]; exact cmd_of (by decide) hi.1 hlet (hw.symm.trans (cmp0.mp c_84)), by rw [hfin, hS_222]; exact hT7.at hT7.2.1⟩⟩) dX7_word_227
              · skip
                exact absurd c_211 (by decide)
          · skip
            refine lv_iconst (v := 1) hx hb dX7_word_75 (by decide) ?_
            refine lv_goto (tgt := 206) hx hb dX7_word_76 (by decide) ?_
            refine lv_istore (lv' := [(4, .int 1), (0, .ref (gA E 84)), (1, .long xw), (3, .int (nI u_p))]) hx hb dX7_word_206 hl (by decide) rfl (fun ls hl => ?_)
            refine lv_aload_n hx hb dX7_word_208 rfl (lv_at hl 1 rfl) ?_
            refine lv_iload hx hb dX7_word_209 (lv_at hl 0 rfl) ?_
            refine lv_if_ne (tgt := 218) hx hb dX7_word_211 (by decide) (fun c_211 => ?_) (fun c_211 => ?_)
            · skip
              refine lv_aload_n hx hb dX7_word_218 rfl (lv_at hl 1 rfl) ?_
              refine g_X7_170 C hJ dX7_word_219 ?_
              refine p_X7_170 C hJ dX7_word_222 (fun H locs hJ => ?_)
              obtain ⟨S_222, hS_222⟩ : ∃ z : ST, z = setM T (mMs (sM T) 5 ((sM T).1 5)) := ⟨_, rfl⟩
              rw [← hS_222] at hJ
              have ho9 : RTm S S_222 := by rw [hS_222]; exact ho.t RTm.sc
              refine lv_iload hx hb dX7_word_225 (lv_at hl 0 rfl) ?_
              exact rW_i C hJ hr rfl (⟨_, rfl, ho9, Or.inr ⟨0, by decide, rfl, by rw [hfin]; exact cmd_of (by decide) hi.1 hlet (hw.symm.trans (cmp0.mp c_72)), by rw [hfin, hS_222]; exact hT7.at hT7.2.1⟩⟩) dX7_word_227
            · skip
              exact absurd c_211 (by decide)
        · skip
          have hq : leB (t_at u_n u_b i) = true := bI_1 c_18
          have hlt := le_in hq
          have hat : t_at u_n u_b i = u_b (u_p + (i - u_p)) := by rw [show u_p + (i - u_p) = i by omega]; exact if_pos hlt
          have hlet2 : ∀ x, x < i + 1 - u_p → leB (u_b (u_p + x)) = true := fun x hx => by
            rcases Nat.lt_or_ge x (i - u_p) with q | q
            · exact hlet x q
            · rw [show x = i - u_p by omega, ← hat]; exact hq
          have e7 : i + 1 - u_p = (i - u_p) + 1 := by omega
          refine lv_aload_n hx hb dX7_word_21 rfl (lv_at hl 0 rfl) ?_
          refine g_X7_170 C hJ dX7_word_22 ?_
          rw [hT7.2.1]
          · skip
            refine lv_iload_n hx hb dX7_word_25 rfl (lv_at hl 2 rfl) ?_
            refine lv_isub hx hb dX7_word_26 ?_
            refine lv_bipush (v := 7) hx hb dX7_word_27 (by decide) ?_
            refine lv_icmp_ge (tgt := 50) hx hb dX7_word_29 (by decide) (fun c_29 => ?_) (fun c_29 => ?_)
            · skip
              have h7 : ¬ i - u_p < 7 := fun q => absurd (by have y := c_29; rw [sub_nI hi.1] at y; exact y) (nI_ge (b := 7) q (by omega))
              have hw2 : (-1 : Int64) = t_hw u_b u_p (i + 1 - u_p) := by rw [e7]; exact (if_neg h7).symm
              refine lv_ldc2 hx hb C.ow (C.ts _ kl_X7_180) dX7_word_50 ?_
              refine lv_lstore_n (lv' := [(1, .long (-1)), (0, .ref (gA E 84)), (3, .int (nI u_p))]) hx hb dX7_word_53 rfl hl (by decide) rfl (fun ls hl => ?_)
              refine lv_aload_n hx hb dX7_word_54 rfl (lv_at hl 1 rfl) ?_
              refine lv_dup hx hb dX7_word_55 rfl ?_
              refine g_X7_170 C hJ dX7_word_56 ?_
              refine lv_iconst (v := 1) hx hb dX7_word_59 (by decide) ?_
              refine lv_iadd hx hb dX7_word_60 ?_
              refine p_X7_170 C hJ dX7_word_61 (fun H locs hJ => ?_)
              obtain ⟨S_61, hS_61⟩ : ∃ z : ST, z = setM T (mMs (sM T) 5 (((sM T).1 5) + 1)) := ⟨_, rfl⟩
              rw [← hS_61] at hJ
              have hT2 : TM S_61 u_n u_b (i + 1) u_k u_g := by rw [hS_61]; exact hT7.at (by rw [hT7.2.1, nI_1])
              have ho2 : RTm S S_61 := by rw [hS_61]; exact ho.t RTm.sc
              refine lv_goto (tgt := 7) hx hb dX7_word_64 (by decide) ?_
              exact ih_lp (i + 1) _ S_61 H locs _ ⟨by omega, by omega⟩ (by omega) (by rw [← hr1, ← t_run_s hlt hq]) hw2 hlet2 hT2 ho2 hJ (lv_sub hl [1, 0, 2] rfl)
            · skip
              have h7 : i - u_p < 7 := by
                rcases Nat.lt_or_ge (i - u_p) 7 with q | q
                · exact q
                · exact absurd (by rw [sub_nI hi.1]; exact nI_le (a := 7) q (by omega)) c_29
              have hw2 : 27 * xw + (t_at u_n u_b i).toInt64 - 96 = t_hw u_b u_p (i + 1 - u_p) := by rw [e7, hw, hat]; exact (if_pos h7).symm
              refine lv_ldc2 hx hb C.ow (C.ts _ kl_X7_176) dX7_word_32 ?_
              refine lv_lload_n hx hb dX7_word_35 rfl (lv_at hl 1 rfl) ?_
              refine lv_lmul hx hb dX7_word_36 ?_
              refine lv_aload_n hx hb dX7_word_37 rfl (lv_at hl 0 rfl) ?_
              refine cr_X7_173 C hJ (rest := [.long (27 * xw)]) (c_X7_here hE hT7 hN (hi.2)) dX7_word_38 hl.1 ⟨Nat.le_of_ble_eq_true rfl, Nat.le_of_ble_eq_true rfl⟩ ⟨Nat.le_refl _, Nat.le_refl _⟩ (Nat.le_of_ble_eq_true rfl) rfl rfl ?_
              refine lv_i2l (v := (t_at u_n u_b i).toInt64) hx hb dX7_word_41 rfl ?_
              refine lv_ladd hx hb dX7_word_42 ?_
              refine lv_ldc2 hx hb C.ow (C.ts _ kl_X7_178) dX7_word_43 ?_
              refine lv_lsub hx hb dX7_word_46 ?_
              refine lv_goto (tgt := 53) hx hb dX7_word_47 (by decide) ?_
              refine lv_lstore_n (lv' := [(1, .long (((27 * xw) + ((t_at u_n u_b i).toInt64)) - 96)), (0, .ref (gA E 84)), (3, .int (nI u_p))]) hx hb dX7_word_53 rfl hl (by decide) rfl (fun ls hl => ?_)
              refine lv_aload_n hx hb dX7_word_54 rfl (lv_at hl 1 rfl) ?_
              refine lv_dup hx hb dX7_word_55 rfl ?_
              refine g_X7_170 C hJ dX7_word_56 ?_
              refine lv_iconst (v := 1) hx hb dX7_word_59 (by decide) ?_
              refine lv_iadd hx hb dX7_word_60 ?_
              refine p_X7_170 C hJ dX7_word_61 (fun H locs hJ => ?_)
              obtain ⟨S_61, hS_61⟩ : ∃ z : ST, z = setM T (mMs (sM T) 5 (((sM T).1 5) + 1)) := ⟨_, rfl⟩
              rw [← hS_61] at hJ
              have hT2 : TM S_61 u_n u_b (i + 1) u_k u_g := by rw [hS_61]; exact hT7.at (by rw [hT7.2.1, nI_1])
              have ho2 : RTm S S_61 := by rw [hS_61]; exact ho.t RTm.sc
              refine lv_goto (tgt := 7) hx hb dX7_word_64 (by decide) ?_
              exact ih_lp (i + 1) _ S_61 H locs _ ⟨by omega, by omega⟩ (by omega) (by rw [← hr1, ← t_run_s hlt hq]) hw2 hlet2 hT2 ho2 hJ (lv_sub hl [1, 0, 2] rfl)
    exact lp (u_n + 1) u_p 0 S s.heap [] _ ⟨Nat.le_refl _, hP⟩ (by omega) rfl (by rw [Nat.sub_self]; rfl) (fun x hx => absurd hx (by omega)) hT (RTm.r S) hJ (lv_sub hl [2, 1, 0] rfl)
set_option maxHeartbeats 4000000 in
set_option maxRecDepth 100000 in
theorem c_X7_isNumber {l : Launch} {E : GE} (hE : Env0 E) {S : ST} {u_n u_p u_k : Nat} {u_b u_g : Nat → Int32} (hT : TM S u_n u_b u_p u_k u_g) (hN : u_n ≤ 150) (hP : u_p ≤ u_n) (hk3 : u_k < 3) : MW l E yX7_isNumber cX7_isNumber 3 (some .boolean) 2 40 S [.ref (gA E 84)] (fun v S1 => (∃ u_v : Int32, v = some (.int u_v) ∧ RTm S S1 ∧ ((u_v = 1 ∧ (t_num u_n u_b u_p).1 = true ∧ dgB (t_at u_n u_b (t_num u_n u_b u_p).2.2) = false ∧ TM S1 u_n u_b (t_num u_n u_b u_p).2.2 (u_k + 1) (upd u_g u_k (t_num u_n u_b u_p).2.1)) ∨ (u_v = 0 ∧ ((t_num u_n u_b u_p).1 = false ∨ dgB (t_at u_n u_b (t_num u_n u_b u_p).2.2) = true) ∧ ∃ k7 g7, TM S1 u_n u_b (t_num u_n u_b u_p).2.2 k7 g7)))) := by
  have hle := hP
  refine MW.of hE (by decide) (Nat.le_of_ble_eq_true rfl) ?_
  intro p e s m below meth c ls C hJ hr hl
  have hx := C.x
  have hb := C.b
  have hl : lv_has ls 3 [(0, .ref (gA E 84))] := hl
  refine lv_aload_n hx hb dX7_isNumber_0 rfl (lv_at hl 0 rfl) ?_
  refine cr_X7_173 C hJ (rest := []) (c_X7_here hE hT hN (hP)) dX7_isNumber_1 hl.1 ⟨Nat.le_of_ble_eq_true rfl, Nat.le_of_ble_eq_true rfl⟩ ⟨Nat.le_refl _, Nat.le_refl _⟩ (Nat.le_of_ble_eq_true rfl) rfl rfl ?_
  refine lv_bipush (v := 32) hx hb dX7_isNumber_4 (by decide) ?_
  refine lv_icmp_eq (tgt := 11) hx hb dX7_isNumber_6 (by decide) (fun c_6 => ?_) (fun c_6 => ?_)
  · skip
    have hsp : spB (t_at u_n u_b u_p) = true := decide_eq_true c_6
    have hlt0 := sp_in hsp
    have hgt : u_p < (t_run spB u_n u_b u_p) := by rw [t_run_s hlt0 hsp]; have := t_run_le (u_q := spB) (u_b := u_b) (show u_p + 1 ≤ u_n by omega); omega
    refine lv_aload_n hx hb dX7_isNumber_11 rfl (lv_at hl 0 rfl) ?_
    refine cw_X7_204 C hJ (rest := []) (c_X7_passSpaces hE hT hN hP) dX7_isNumber_12 hl.1 ⟨Nat.le_of_ble_eq_true rfl, Nat.le_of_ble_eq_true rfl⟩ ⟨Nat.le_refl _, Nat.le_refl _⟩ (Nat.le_of_ble_eq_true rfl) rfl rfl (fun vr S_12 H locs hP hJ => ?_)
    obtain ⟨rfl, hT12, ho12⟩ := hP
    have hq12 := t_run_le (u_q := spB) (u_b := u_b) hle
    refine lv_aload_n hx hb dX7_isNumber_15 rfl (lv_at hl 0 rfl) ?_
    refine g_X7_170 C hJ dX7_isNumber_16 ?_
    rw [hT12.2.1]
    · skip
      refine lv_istore_n (lv' := [(1, .int (nI (t_run spB u_n u_b u_p))), (0, .ref (gA E 84))]) hx hb dX7_isNumber_19 rfl hl (by decide) rfl (fun ls hl => ?_)
      refine lv_iconst (v := 0) hx hb dX7_isNumber_20 (by decide) ?_
      refine lv_istore_n (lv' := [(2, .int 0), (1, .int (nI (t_run spB u_n u_b u_p))), (0, .ref (gA E 84))]) hx hb dX7_isNumber_21 rfl hl (by decide) rfl (fun ls hl => ?_)
      have lp : ∀ (d : Nat) (i : Nat) (xv : Int32) (T : ST) (H : Heap) (locs : List Loc) (ls : Array Slot), ((t_run spB u_n u_b u_p) ≤ i ∧ i ≤ u_n) → (i - (t_run spB u_n u_b u_p) ≤ 4) → (u_n < i + d) → (t_dig u_n u_b (4 - (i - (t_run spB u_n u_b u_p))) xv i = t_dig u_n u_b 4 0 (t_run spB u_n u_b u_p)) → (TM T u_n u_b i u_k u_g) → (RTm S T) → JJ E T H locs → lv_has ls 3 [(0, .ref (gA E 84)), (1, .int (nI (t_run spB u_n u_b u_p))), (2, .int xv)] → W p l e (rmZ 2 40) s m ([.ref (gA E 84)] : List Value).toArray below meth c H locs 0 0 (WQ below ([.ref (gA E 84)] : List Value).toArray s E (fun v S1 => (∃ u_v : Int32, v = some (.int u_v) ∧ RTm S S1 ∧ ((u_v = 1 ∧ (t_num u_n u_b u_p).1 = true ∧ dgB (t_at u_n u_b (t_num u_n u_b u_p).2.2) = false ∧ TM S1 u_n u_b (t_num u_n u_b u_p).2.2 (u_k + 1) (upd u_g u_k (t_num u_n u_b u_p).2.1)) ∨ (u_v = 0 ∧ ((t_num u_n u_b u_p).1 = false ∨ dgB (t_at u_n u_b (t_num u_n u_b u_p).2.2) = true) ∧ ∃ k7 g7, TM S1 u_n u_b (t_num u_n u_b u_p).2.2 k7 g7))))) (F0 m 22 ls []) := by
        intro d
        induction d with
        | zero =>
          intro i xv T H locs ls hi h4 hd hv hT7 ho hJ hl
          omega
        | succ d ih_lp =>
          intro i xv T H locs ls hi h4 hd hv hT7 ho hJ hl
          refine lv_aload_n hx hb dX7_isNumber_22 rfl (lv_at hl 0 rfl) ?_
          refine g_X7_170 C hJ dX7_isNumber_23 ?_
          rw [hT7.2.1]
          · skip
            refine lv_iload_n hx hb dX7_isNumber_26 rfl (lv_at hl 1 rfl) ?_
            refine lv_isub hx hb dX7_isNumber_27 ?_
            refine lv_iconst (v := 4) hx hb dX7_isNumber_28 (by decide) ?_
            refine lv_icmp_ge (tgt := 72) hx hb dX7_isNumber_29 (by decide) (fun c_29 => ?_) (fun c_29 => ?_)
            · skip
              have h4e : i - (t_run spB u_n u_b u_p) = 4 := by
                have y := c_29
                rw [sub_nI hi.1] at y
                have := (nI_leI (a := 4) (by omega) (by omega)).mp y
                omega
              have hfin : t_dig u_n u_b 4 0 (t_run spB u_n u_b u_p) = (xv, i) := by rw [← hv, h4e]; rfl
              refine lv_aload_n hx hb dX7_isNumber_72 rfl (lv_at hl 0 rfl) ?_
              refine g_X7_16 C hJ dX7_isNumber_73 ?_
              refine lv_aload_n hx hb dX7_isNumber_76 rfl (lv_at hl 0 rfl) ?_
              refine g_X7_207 C hJ dX7_isNumber_77 ?_
              refine lv_iload_n hx hb dX7_isNumber_80 rfl (lv_at hl 2 rfl) ?_
              refine t_gi C hJ (P := u_k) (hT7.2.2.1) (hk3) dX7_isNumber_81 (fun H locs hJ => ?_)
              obtain ⟨S_81, hS_81⟩ : ∃ z : ST, z = setM T (mGi (sM T) u_k xv) := ⟨_, rfl⟩
              rw [← hS_81] at hJ
              have hT8 := hT7.gi hS_81
              have ho8 : RTm S S_81 := by rw [hS_81]; exact ho.t RTm.gi
              refine lv_aload_n hx hb dX7_isNumber_82 rfl (lv_at hl 0 rfl) ?_
              refine lv_dup hx hb dX7_isNumber_83 rfl ?_
              refine g_X7_207 C hJ dX7_isNumber_84 ?_
              refine lv_iconst (v := 1) hx hb dX7_isNumber_87 (by decide) ?_
              refine lv_iadd hx hb dX7_isNumber_88 ?_
              refine p_X7_207 C hJ dX7_isNumber_89 (fun H locs hJ => ?_)
              obtain ⟨S_89, hS_89⟩ : ∃ z : ST, z = setM S_81 (mMs (sM S_81) 6 (((sM S_81).1 6) + 1)) := ⟨_, rfl⟩
              rw [← hS_89] at hJ
              have hT9 := hT8.nb (u_q := u_k + 1) hS_89 (by rw [hT8.2.2.1, nI_1])
              have ho9 : RTm S S_89 := by rw [hS_89]; exact ho8.t RTm.nb
              refine lv_aload_n hx hb dX7_isNumber_92 rfl (lv_at hl 0 rfl) ?_
              refine g_X7_170 C hJ dX7_isNumber_93 ?_
              rw [hT9.2.1]
              · skip
                refine lv_iload_n hx hb dX7_isNumber_96 rfl (lv_at hl 1 rfl) ?_
                refine lv_icmp_le (tgt := 118) hx hb dX7_isNumber_97 (by decide) (fun c_97 => ?_) (fun c_97 => ?_)
                · skip
                  have hle9 := (nI_leI (by omega) (by omega)).mp c_97
                  have hdn := dig_at (u_q := (t_run spB u_n u_b u_p)) (by rw [hfin]; exact hle9)
                  have hnum := num_f hdn
                  have e9 : i = (t_run spB u_n u_b u_p) := by omega
                  refine lv_iconst (v := 0) hx hb dX7_isNumber_118 (by decide) ?_
                  exact rW_i C hJ hr rfl (⟨_, rfl, ho9, Or.inr ⟨rfl, by first | (rw [hnum]; exact Or.inr h111) | (rw [hnum]; exact Or.inl rfl), _, _, by first | (rw [hnum]; exact hT9) | (rw [hnum, ← e9]; exact hT9)⟩⟩) dX7_isNumber_119
                · skip
                  have hgt9 : (t_run spB u_n u_b u_p) < i := by
                    rcases Nat.lt_or_ge (t_run spB u_n u_b u_p) i with q | q
                    · exact q
                    · exact absurd (nI_le q (by omega)) c_97
                  have hdy := dig_no (u_q := (t_run spB u_n u_b u_p)) (by rw [hfin]; exact hgt9)
                  have hnum : t_num u_n u_b u_p = (true, xv, i) := by rw [num_t hgt hdy, hfin]
                  refine lv_aload_n hx hb dX7_isNumber_100 rfl (lv_at hl 0 rfl) ?_
                  refine cr_X7_173 C hJ (rest := []) (c_X7_here hE hT9 hN (hi.2)) dX7_isNumber_101 hl.1 ⟨Nat.le_of_ble_eq_true rfl, Nat.le_of_ble_eq_true rfl⟩ ⟨Nat.le_refl _, Nat.le_refl _⟩ (Nat.le_of_ble_eq_true rfl) rfl rfl ?_
                  refine lv_bipush (v := 48) hx hb dX7_isNumber_104 (by decide) ?_
                  refine lv_bipush (v := 57) hx hb dX7_isNumber_106 (by decide) ?_
                  refine cr_X7_37 C hJ (rest := []) (c_X7_in hE (t_at u_n u_b i) 48 57) dX7_isNumber_108 hl.1 ⟨Nat.le_of_ble_eq_true rfl, Nat.le_of_ble_eq_true rfl⟩ ⟨Nat.le_refl _, Nat.le_refl _⟩ (Nat.le_of_ble_eq_true rfl) rfl rfl ?_
                  refine lv_if_ne (tgt := 118) hx hb dX7_isNumber_111 (by decide) (fun c_111 => ?_) (fun c_111 => ?_)
                  · skip
                    have h111 : dgB (t_at u_n u_b i) = true := bI_1 c_111
                    refine lv_iconst (v := 0) hx hb dX7_isNumber_118 (by decide) ?_
                    exact rW_i C hJ hr rfl (⟨_, rfl, ho9, Or.inr ⟨rfl, by first | (rw [hnum]; exact Or.inr h111) | (rw [hnum]; exact Or.inl rfl), _, _, by first | (rw [hnum]; exact hT9) | (rw [hnum, ← e9]; exact hT9)⟩⟩) dX7_isNumber_119
                  · skip
                    have h111 : dgB (t_at u_n u_b i) = false := bI_0 c_111
                    refine lv_iconst (v := 1) hx hb dX7_isNumber_114 (by decide) ?_
                    refine lv_goto (tgt := 119) hx hb dX7_isNumber_115 (by decide) ?_
                    exact rW_i C hJ hr rfl (⟨_, rfl, ho9, Or.inl ⟨rfl, by rw [hnum], by rw [hnum]; exact h111, by rw [hnum]; exact hT9⟩⟩) dX7_isNumber_119
            · skip
              have h4l : i - (t_run spB u_n u_b u_p) < 4 := by
                rcases Nat.lt_or_ge (i - (t_run spB u_n u_b u_p)) 4 with q | q
                · exact q
                · exact absurd (by rw [sub_nI hi.1]; exact nI_le (a := 4) q (by omega)) c_29
              refine lv_aload_n hx hb dX7_isNumber_32 rfl (lv_at hl 0 rfl) ?_
              refine cr_X7_173 C hJ (rest := []) (c_X7_here hE hT7 hN (hi.2)) dX7_isNumber_33 hl.1 ⟨Nat.le_of_ble_eq_true rfl, Nat.le_of_ble_eq_true rfl⟩ ⟨Nat.le_refl _, Nat.le_refl _⟩ (Nat.le_of_ble_eq_true rfl) rfl rfl ?_
              refine lv_bipush (v := 48) hx hb dX7_isNumber_36 (by decide) ?_
              refine lv_bipush (v := 57) hx hb dX7_isNumber_38 (by decide) ?_
              refine cr_X7_37 C hJ (rest := []) (c_X7_in hE (t_at u_n u_b i) 48 57) dX7_isNumber_40 hl.1 ⟨Nat.le_of_ble_eq_true rfl, Nat.le_of_ble_eq_true rfl⟩ ⟨Nat.le_refl _, Nat.le_refl _⟩ (Nat.le_of_ble_eq_true rfl) rfl rfl ?_
              refine lv_if_eq (tgt := 72) hx hb dX7_isNumber_43 (by decide) (fun c_43 => ?_) (fun c_43 => ?_)
              · skip
                have hq : dgB (t_at u_n u_b i) = false := bI_0 c_43
                have hfin : t_dig u_n u_b 4 0 (t_run spB u_n u_b u_p) = (xv, i) := by rw [← hv]; exact t_dig_f hq
                refine lv_aload_n hx hb dX7_isNumber_72 rfl (lv_at hl 0 rfl) ?_
                refine g_X7_16 C hJ dX7_isNumber_73 ?_
                refine lv_aload_n hx hb dX7_isNumber_76 rfl (lv_at hl 0 rfl) ?_
                refine g_X7_207 C hJ dX7_isNumber_77 ?_
                refine lv_iload_n hx hb dX7_isNumber_80 rfl (lv_at hl 2 rfl) ?_
                refine t_gi C hJ (P := u_k) (hT7.2.2.1) (hk3) dX7_isNumber_81 (fun H locs hJ => ?_)
                obtain ⟨S_81, hS_81⟩ : ∃ z : ST, z = setM T (mGi (sM T) u_k xv) := ⟨_, rfl⟩
                rw [← hS_81] at hJ
                have hT8 := hT7.gi hS_81
                have ho8 : RTm S S_81 := by rw [hS_81]; exact ho.t RTm.gi
                refine lv_aload_n hx hb dX7_isNumber_82 rfl (lv_at hl 0 rfl) ?_
                refine lv_dup hx hb dX7_isNumber_83 rfl ?_
                refine g_X7_207 C hJ dX7_isNumber_84 ?_
                refine lv_iconst (v := 1) hx hb dX7_isNumber_87 (by decide) ?_
                refine lv_iadd hx hb dX7_isNumber_88 ?_
                refine p_X7_207 C hJ dX7_isNumber_89 (fun H locs hJ => ?_)
                obtain ⟨S_89, hS_89⟩ : ∃ z : ST, z = setM S_81 (mMs (sM S_81) 6 (((sM S_81).1 6) + 1)) := ⟨_, rfl⟩
                rw [← hS_89] at hJ
                have hT9 := hT8.nb (u_q := u_k + 1) hS_89 (by rw [hT8.2.2.1, nI_1])
                have ho9 : RTm S S_89 := by rw [hS_89]; exact ho8.t RTm.nb
                refine lv_aload_n hx hb dX7_isNumber_92 rfl (lv_at hl 0 rfl) ?_
                refine g_X7_170 C hJ dX7_isNumber_93 ?_
                rw [hT9.2.1]
                · skip
                  refine lv_iload_n hx hb dX7_isNumber_96 rfl (lv_at hl 1 rfl) ?_
                  refine lv_icmp_le (tgt := 118) hx hb dX7_isNumber_97 (by decide) (fun c_97 => ?_) (fun c_97 => ?_)
                  · skip
                    have hle9 := (nI_leI (by omega) (by omega)).mp c_97
                    have hdn := dig_at (u_q := (t_run spB u_n u_b u_p)) (by rw [hfin]; exact hle9)
                    have hnum := num_f hdn
                    have e9 : i = (t_run spB u_n u_b u_p) := by omega
                    refine lv_iconst (v := 0) hx hb dX7_isNumber_118 (by decide) ?_
                    exact rW_i C hJ hr rfl (⟨_, rfl, ho9, Or.inr ⟨rfl, by first | (rw [hnum]; exact Or.inr h111) | (rw [hnum]; exact Or.inl rfl), _, _, by first | (rw [hnum]; exact hT9) | (rw [hnum, ← e9]; exact hT9)⟩⟩) dX7_isNumber_119
                  · skip
                    have hgt9 : (t_run spB u_n u_b u_p) < i := by
                      rcases Nat.lt_or_ge (t_run spB u_n u_b u_p) i with q | q
                      · exact q
                      · exact absurd (nI_le q (by omega)) c_97
                    have hdy := dig_no (u_q := (t_run spB u_n u_b u_p)) (by rw [hfin]; exact hgt9)
                    have hnum : t_num u_n u_b u_p = (true, xv, i) := by rw [num_t hgt hdy, hfin]
                    refine lv_aload_n hx hb dX7_isNumber_100 rfl (lv_at hl 0 rfl) ?_
                    refine cr_X7_173 C hJ (rest := []) (c_X7_here hE hT9 hN (hi.2)) dX7_isNumber_101 hl.1 ⟨Nat.le_of_ble_eq_true rfl, Nat.le_of_ble_eq_true rfl⟩ ⟨Nat.le_refl _, Nat.le_refl _⟩ (Nat.le_of_ble_eq_true rfl) rfl rfl ?_
                    refine lv_bipush (v := 48) hx hb dX7_isNumber_104 (by decide) ?_
                    refine lv_bipush (v := 57) hx hb dX7_isNumber_106 (by decide) ?_
                    refine cr_X7_37 C hJ (rest := []) (c_X7_in hE (t_at u_n u_b i) 48 57) dX7_isNumber_108 hl.1 ⟨Nat.le_of_ble_eq_true rfl, Nat.le_of_ble_eq_true rfl⟩ ⟨Nat.le_refl _, Nat.le_refl _⟩ (Nat.le_of_ble_eq_true rfl) rfl rfl ?_
                    refine lv_if_ne (tgt := 118) hx hb dX7_isNumber_111 (by decide) (fun c_111 => ?_) (fun c_111 => ?_)
                    · skip
                      have h111 : dgB (t_at u_n u_b i) = true := bI_1 c_111
                      refine lv_iconst (v := 0) hx hb dX7_isNumber_118 (by decide) ?_
                      exact rW_i C hJ hr rfl (⟨_, rfl, ho9, Or.inr ⟨rfl, by first | (rw [hnum]; exact Or.inr h111) | (rw [hnum]; exact Or.inl rfl), _, _, by first | (rw [hnum]; exact hT9) | (rw [hnum, ← e9]; exact hT9)⟩⟩) dX7_isNumber_119
                    · skip
                      have h111 : dgB (t_at u_n u_b i) = false := bI_0 c_111
                      refine lv_iconst (v := 1) hx hb dX7_isNumber_114 (by decide) ?_
                      refine lv_goto (tgt := 119) hx hb dX7_isNumber_115 (by decide) ?_
                      exact rW_i C hJ hr rfl (⟨_, rfl, ho9, Or.inl ⟨rfl, by rw [hnum], by rw [hnum]; exact h111, by rw [hnum]; exact hT9⟩⟩) dX7_isNumber_119
              · skip
                have hq : dgB (t_at u_n u_b i) = true := bI_1 c_43
                have hlt := dg_in hq
                have hv2 : t_dig u_n u_b (4 - (i + 1 - (t_run spB u_n u_b u_p))) (10 * xv + t_at u_n u_b i - 48) (i + 1) = t_dig u_n u_b 4 0 (t_run spB u_n u_b u_p) := by rw [← hv, show 4 - (i - (t_run spB u_n u_b u_p)) = (4 - (i + 1 - (t_run spB u_n u_b u_p))) + 1 by omega]; exact (t_dig_t hq).symm
                refine lv_bipush (v := 10) hx hb dX7_isNumber_46 (by decide) ?_
                refine lv_iload_n hx hb dX7_isNumber_48 rfl (lv_at hl 2 rfl) ?_
                refine lv_imul hx hb dX7_isNumber_49 ?_
                refine lv_aload_n hx hb dX7_isNumber_50 rfl (lv_at hl 0 rfl) ?_
                refine cr_X7_173 C hJ (rest := [.int (10 * xv)]) (c_X7_here hE hT7 hN (hi.2)) dX7_isNumber_51 hl.1 ⟨Nat.le_of_ble_eq_true rfl, Nat.le_of_ble_eq_true rfl⟩ ⟨Nat.le_refl _, Nat.le_refl _⟩ (Nat.le_of_ble_eq_true rfl) rfl rfl ?_
                refine lv_iadd hx hb dX7_isNumber_54 ?_
                refine lv_bipush (v := 48) hx hb dX7_isNumber_55 (by decide) ?_
                refine lv_isub hx hb dX7_isNumber_57 ?_
                refine lv_istore_n (lv' := [(2, .int (((10 * xv) + (t_at u_n u_b i)) - 48)), (0, .ref (gA E 84)), (1, .int (nI (t_run spB u_n u_b u_p)))]) hx hb dX7_isNumber_58 rfl hl (by decide) rfl (fun ls hl => ?_)
                refine lv_aload_n hx hb dX7_isNumber_59 rfl (lv_at hl 1 rfl) ?_
                refine lv_dup hx hb dX7_isNumber_60 rfl ?_
                refine g_X7_170 C hJ dX7_isNumber_61 ?_
                refine lv_iconst (v := 1) hx hb dX7_isNumber_64 (by decide) ?_
                refine lv_iadd hx hb dX7_isNumber_65 ?_
                refine p_X7_170 C hJ dX7_isNumber_66 (fun H locs hJ => ?_)
                obtain ⟨S_66, hS_66⟩ : ∃ z : ST, z = setM T (mMs (sM T) 5 (((sM T).1 5) + 1)) := ⟨_, rfl⟩
                rw [← hS_66] at hJ
                have hT2 : TM S_66 u_n u_b (i + 1) u_k u_g := by rw [hS_66]; exact hT7.at (by rw [hT7.2.1, nI_1])
                have ho2 : RTm S S_66 := by rw [hS_66]; exact ho.t RTm.sc
                refine lv_goto (tgt := 22) hx hb dX7_isNumber_69 (by decide) ?_
                exact ih_lp (i + 1) _ S_66 H locs _ ⟨by omega, by omega⟩ (by omega) (by omega) hv2 hT2 ho2 hJ (lv_sub hl [1, 2, 0] rfl)
      exact lp (u_n + 1) (t_run spB u_n u_b u_p) 0 S_12 H locs _ ⟨Nat.le_refl _, hq12.2⟩ (by omega) (by omega) (by rw [Nat.sub_self]) hT12 ho12 hJ (lv_sub hl [2, 1, 0] rfl)
  · skip
    have hsp : spB (t_at u_n u_b u_p) = false := decide_eq_false c_6
    have hns := num_s (t_run_e hsp)
    refine lv_iconst (v := 0) hx hb dX7_isNumber_9 (by decide) ?_
    exact rW_i C hJ hr rfl (⟨_, rfl, RTm.r S, Or.inr ⟨rfl, Or.inl (by rw [hns]), u_k, u_g, by rw [hns]; exact hT⟩⟩) dX7_isNumber_10
