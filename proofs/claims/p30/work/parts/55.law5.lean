/-! LAW: its body (by program), and the start -/
set_option maxHeartbeats 4000000 in
set_option maxRecDepth 100000 in
theorem law_body {p : Program} {l : Launch} {e : Env} {s : State} {m : MethodId} {below : List Frame} {meth : Method} {c : Code} {H : Heap} {locs : List Loc} {E : GE} {S : ST} {X : EX} {ls : Array Slot} {b L : Nat} {xs : Nat → Int32} (C : Cx E p s m meth c cL_law RL 7) (hX1 : Env1 E X) (hgs : gS E = s) (hr : meth.sig.returnType = ret) (hsc : va_X b L xs s s.heap) (hbl : b < s.heap.size) (hL : L ≤ 260) (hXI : XI S (0, z0, m00) 0 (fun _ => cv0)) {u_b u_g : Nat → Int32} {u_p : Nat} {u_f : Int32} {u_c : Option Nat} (hT : TX S 0 u_b u_p u_f u_c u_g) (hJ : JJ E S H locs) (hl : lv_has ls 7 [(0, .ref b), (1, .ref (gA E 83))]) : W p l e room_1 s m #[Value.ref b] below meth c H locs 100 2000 (lw_Z below #[Value.ref b] s) (F0 m 8 ls []) := by
  have hx := C.x
  have hb := C.b
  have hE : Env0 E := C.env
  have hsc2 : va_X b L xs (gS E) (gS E).heap := by rw [hgs]; exact hsc
  have hbl2 : b < (gS E).heap.size := by rw [hgs]; exact hbl
  refine lv_aload_n hx hb dL_law_8 rfl (lv_at hl 1 rfl) ?_
  refine lv_iconst (v := 0) hx hb dL_law_9 (by decide) ?_
  refine cr_L_8 C hJ (rest := []) (m_whole hE hXI QOk.z0 hT.1 0 (by decide) (b := 0) (by decide) (v := nI 0) rfl) dL_law_10 hl.1 ⟨Nat.le_of_ble_eq_true rfl, Nat.le_of_ble_eq_true rfl⟩ ⟨Nat.le_of_ble_eq_true rfl, Nat.le_of_ble_eq_true rfl⟩ (Nat.le_of_ble_eq_true rfl) rfl rfl ?_
  refine lv_if_ne (tgt := 70) hx hb dL_law_13 (by decide) (fun c_13 => ?_) (fun c_13 => ?_)
  · skip
    exact absurd (rfl) c_13
  · skip
    refine lv_aload_n hx hb dL_law_16 rfl (lv_at hl 1 rfl) ?_
    refine lv_iconst (v := 1) hx hb dL_law_17 (by decide) ?_
    refine cr_L_8 C hJ (rest := []) (m_whole hE hXI QOk.z0 hT.1 1 (by decide) (b := 1) (by decide) (v := z0 3) rfl) dL_law_18 hl.1 ⟨Nat.le_of_ble_eq_true rfl, Nat.le_of_ble_eq_true rfl⟩ ⟨Nat.le_of_ble_eq_true rfl, Nat.le_of_ble_eq_true rfl⟩ (Nat.le_of_ble_eq_true rfl) rfl rfl ?_
    refine lv_bipush (v := 50) hx hb dL_law_21 (by decide) ?_
    refine lv_icmp_ne (tgt := 70) hx hb dL_law_23 (by decide) (fun c_23 => ?_) (fun c_23 => ?_)
    · skip
      exact absurd (show z0 3 = 50 from rfl) c_23
    · skip
      refine lv_aload_n hx hb dL_law_26 rfl (lv_at hl 1 rfl) ?_
      refine lv_iconst (v := 0) hx hb dL_law_27 (by decide) ?_
      refine cr_L_14 C hJ (rest := []) (m_atn hE hXI QOk.z0 rfl) dL_law_28 hl.1 ⟨Nat.le_of_ble_eq_true rfl, Nat.le_of_ble_eq_true rfl⟩ ⟨Nat.le_of_ble_eq_true rfl, Nat.le_of_ble_eq_true rfl⟩ (Nat.le_of_ble_eq_true rfl) rfl rfl ?_
      refine lv_iconst (v := (-1)) hx hb dL_law_31 (by decide) ?_
      refine lv_icmp_ne (tgt := 70) hx hb dL_law_32 (by decide) (fun c_32 => ?_) (fun c_32 => ?_)
      · skip
        exact absurd (rfl) c_32
      · skip
        refine lv_aload_n hx hb dL_law_35 rfl (lv_at hl 1 rfl) ?_
        refine cw_L_94 C hJ (rest := []) (d_run hE hX1 hXI hT) dL_law_36 hl.1 ⟨Nat.le_of_ble_eq_true rfl, Nat.le_of_ble_eq_true rfl⟩ ⟨Nat.le_of_ble_eq_true rfl, Nat.le_of_ble_eq_true rfl⟩ (Nat.le_of_ble_eq_true rfl) rfl rfl (fun vr S_36 H locs hP hJ => ?_)
        obtain ⟨rfl, hX36, hL36⟩ := hP
        refine lv_if_ne (tgt := 70) hx hb dL_law_39 (by decide) (fun c_39 => ?_) (fun c_39 => ?_)
        · skip
          exact absurd (rfl) c_39
        · skip
          refine lv_aload_n hx hb dL_law_42 rfl (lv_at hl 1 rfl) ?_
          refine cw_L_97 C hJ (rest := []) (d_undo hE hX36) dL_law_43 hl.1 ⟨Nat.le_of_ble_eq_true rfl, Nat.le_of_ble_eq_true rfl⟩ ⟨Nat.le_of_ble_eq_true rfl, Nat.le_of_ble_eq_true rfl⟩ (Nat.le_of_ble_eq_true rfl) rfl rfl (fun vr S_43 H locs hP hJ => ?_)
          obtain ⟨rfl, hX43a, hR43⟩ := hP
          have hX43 : XI S_43 (0, z0, m00) 0 (f_push (0, z0, m00) 0 (fun _ => cv0)).2 := hX43a
          refine lv_if_ne (tgt := 70) hx hb dL_law_46 (by decide) (fun c_46 => ?_) (fun c_46 => ?_)
          · skip
            exact absurd (rfl) c_46
          · skip
            refine lv_aload_n hx hb dL_law_49 rfl (lv_at hl 1 rfl) ?_
            refine cw_L_49 C hJ (rest := []) (d_settle hE hX1 hX43 QOk.z0 set_z0) dL_law_50 hl.1 ⟨Nat.le_of_ble_eq_true rfl, Nat.le_of_ble_eq_true rfl⟩ ⟨Nat.le_of_ble_eq_true rfl, Nat.le_of_ble_eq_true rfl⟩ (Nat.le_of_ble_eq_true rfl) rfl rfl (fun vr S_50 H locs hP hJ => ?_)
            obtain ⟨rfl, hX50, hR50⟩ := hP
            refine lv_if_ne (tgt := 70) hx hb dL_law_53 (by decide) (fun c_53 => ?_) (fun c_53 => ?_)
            · skip
              exact absurd (rfl) c_53
            · skip
              refine lv_aload_n hx hb dL_law_56 rfl (lv_at hl 1 rfl) ?_
              refine cw_L_97 C hJ (rest := []) (d_undo hE hX50) dL_law_57 hl.1 ⟨Nat.le_of_ble_eq_true rfl, Nat.le_of_ble_eq_true rfl⟩ ⟨Nat.le_of_ble_eq_true rfl, Nat.le_of_ble_eq_true rfl⟩ (Nat.le_of_ble_eq_true rfl) rfl rfl (fun vr S_57 H locs hP hJ => ?_)
              obtain ⟨rfl, hX57a, hR57⟩ := hP
              have hX57 : XI S_57 (0, z0, m00) 0 (f_push (0, z0, m00) 0 (f_push (0, z0, m00) 0 (fun _ => cv0)).2).2 := hX57a
              have hL57 : (sT S_57).1 1 = nI 0 := txt_k (txt_k (txt_k hL36 hR43) hR50) hR57
              refine lv_if_ne (tgt := 70) hx hb dL_law_60 (by decide) (fun c_60 => ?_) (fun c_60 => ?_)
              · skip
                exact absurd (rfl) c_60
              · skip
                refine lv_aload_n hx hb dL_law_63 rfl (lv_at hl 1 rfl) ?_
                refine cr_L_27 C hJ (rest := []) (c_X6_disorder hE hX57.1) dL_law_64 hl.1 ⟨Nat.le_of_ble_eq_true rfl, Nat.le_of_ble_eq_true rfl⟩ ⟨Nat.le_of_ble_eq_true rfl, Nat.le_of_ble_eq_true rfl⟩ (Nat.le_of_ble_eq_true rfl) rfl rfl ?_
                refine lv_if_eq (tgt := 72) hx hb dL_law_67 (by decide) (fun c_67 => ?_) (fun c_67 => ?_)
                · skip
                  refine lv_iconst (v := 0) hx hb dL_law_72 (by decide) ?_
                  refine lv_istore_n (lv' := [(2, .int 0), (0, .ref b), (1, .ref (gA E 83))]) hx hb dL_law_73 rfl hl (by decide) rfl (fun ls hl => ?_)
                  have lp : ∀ (d : Nat) (t n : Nat) (z : Nat → Int32) (mm : Nat → Nat → Int32) (mc : Nat) (sv : Nat → LVt) (T : ST) (H : Heap) (locs : List Loc) (ls : Array Slot), (t ≤ 40) → (40 < t + d) → (XI T (n, z, mm) mc sv) → (QOk t (n, z, mm)) → (∀ j, j < mc → QOk t (sv j)) → ((sT T).1 1 = nI 0) → JJ E T H locs → lv_has ls 7 [(0, .ref b), (1, .ref (gA E 83)), (2, .int (nI t))] → W p l e room_1 s m #[Value.ref b] below meth c H locs 100 2000 (lw_Z below #[Value.ref b] s) (F0 m 74 ls []) := by
                    intro d
                    induction d with
                    | zero =>
                      intro t n z mm mc sv T H locs ls ht hd hXT hQT hsT hLT hJ hl
                      omega
                    | succ d ih_lp =>
                      intro t n z mm mc sv T H locs ls ht hd hXT hQT hsT hLT hJ hl
                      refine lv_iload_n hx hb dL_law_74 rfl (lv_at hl 2 rfl) ?_
                      refine lv_bipush (v := 40) hx hb dL_law_75 (by decide) ?_
                      refine lv_icmp_ge (tgt := 186) hx hb dL_law_77 (by decide) (fun c_77 => ?_) (fun c_77 => ?_)
                      · skip
                        refine lv_iconst (v := 1) hx hb dL_law_186 (by decide) ?_
                        refine va_forget (fun q hq => by have h := hJ.2.2.2 q hq; rw [← hgs]; exact h) ?_
                        refine W.widen (k := 639798) (n := 7182075) (Nat.le_of_ble_eq_true rfl) (Nat.le_of_ble_eq_true rfl) ?_
                        exact lw_ret hx hb hr C.lk dL_law_187
                      · skip
                        have ht40 : t < 40 := ltOfNle (N := 40) (by omega) c_77
                        refine lv_aload_n hx hb dL_law_80 rfl (lv_at hl 1 rfl) ?_
                        refine lv_aload_n hx hb dL_law_81 rfl (lv_at hl 0 rfl) ?_
                        refine lv_iconst (v := 2) hx hb dL_law_82 (by decide) ?_
                        refine lv_iload_n hx hb dL_law_83 rfl (lv_at hl 2 rfl) ?_
                        refine lv_imul hx hb dL_law_84 ?_
                        refine cr_L_100 C hJ (rest := [.ref (gA E 83)]) (c_L_cell hE hsc2 hbl2 hL (2 * nI t) (cell_i ht40)) dL_law_85 hl.1 ⟨Nat.le_of_ble_eq_true rfl, Nat.le_of_ble_eq_true rfl⟩ ⟨Nat.le_of_ble_eq_true rfl, Nat.le_of_ble_eq_true rfl⟩ (Nat.le_of_ble_eq_true rfl) rfl rfl ?_
                        refine lv_aload_n hx hb dL_law_88 rfl (lv_at hl 0 rfl) ?_
                        refine lv_iconst (v := 2) hx hb dL_law_89 (by decide) ?_
                        refine lv_iload_n hx hb dL_law_90 rfl (lv_at hl 2 rfl) ?_
                        refine lv_imul hx hb dL_law_91 ?_
                        refine lv_iconst (v := 1) hx hb dL_law_92 (by decide) ?_
                        refine lv_iadd hx hb dL_law_93 ?_
                        refine cr_L_100 C hJ (rest := [.int (f_cell L xs (2 * nI t)), .ref (gA E 83)]) (c_L_cell hE hsc2 hbl2 hL (2 * nI t + 1) (cell_j ht40)) dL_law_94 hl.1 ⟨Nat.le_of_ble_eq_true rfl, Nat.le_of_ble_eq_true rfl⟩ ⟨Nat.le_of_ble_eq_true rfl, Nat.le_of_ble_eq_true rfl⟩ (Nat.le_of_ble_eq_true rfl) rfl rfl ?_
                        refine cw_L_104 C hJ (rest := []) (c_L_changes hE hX1 hXT hQT hLT hsT (by omega) (f_cell L xs (2 * nI t)) (f_cell L xs (2 * nI t + 1))) dL_law_97 hl.1 ⟨Nat.le_of_ble_eq_true rfl, Nat.le_of_ble_eq_true rfl⟩ ⟨Nat.le_of_ble_eq_true rfl, Nat.le_of_ble_eq_true rfl⟩ (Nat.le_of_ble_eq_true rfl) rfl rfl (fun vr S_97 H locs hP hJ => ?_)
                        obtain ⟨rfl, ⟨n2, z2, mm2⟩, mc2, sv2, hX97, hQ97, hs97, hR97⟩ := hP
                        have hL97 : (sT S_97).1 1 = nI 0 := txt_k hLT hR97
                        refine lv_if_eq (tgt := 110) hx hb dL_law_100 (by decide) (fun c_100 => ?_) (fun c_100 => ?_)
                        · skip
                          exact absurd c_100 (by decide)
                        · skip
                          refine lv_aload_n hx hb dL_law_103 rfl (lv_at hl 1 rfl) ?_
                          refine cw_L_108 C hJ (rest := []) (c_L_rules hE hX97 hQ97 hL97) dL_law_104 hl.1 ⟨Nat.le_of_ble_eq_true rfl, Nat.le_of_ble_eq_true rfl⟩ ⟨Nat.le_of_ble_eq_true rfl, Nat.le_of_ble_eq_true rfl⟩ (Nat.le_of_ble_eq_true rfl) rfl rfl (fun vr S_104 H locs hP hJ => ?_)
                          obtain ⟨rfl, hX104, hR104⟩ := hP
                          have hL104 : (sT S_104).1 1 = nI 0 := txt_2 hL97 hR104
                          refine lv_if_ne (tgt := 112) hx hb dL_law_107 (by decide) (fun c_107 => ?_) (fun c_107 => ?_)
                          · skip
                            refine lv_aload_n hx hb dL_law_112 rfl (lv_at hl 1 rfl) ?_
                            refine cr_L_112 C hJ (rest := []) (c_X6_digest hE hX104.1 hL104 hX104.2.1.2.1) dL_law_113 hl.1 ⟨Nat.le_of_ble_eq_true rfl, Nat.le_of_ble_eq_true rfl⟩ ⟨Nat.le_of_ble_eq_true rfl, Nat.le_of_ble_eq_true rfl⟩ (Nat.le_of_ble_eq_true rfl) rfl rfl ?_
                            refine lv_lstore_n (lv' := [(3, .long (f_dig n2 z2 mm2 0 mc2)), (0, .ref b), (1, .ref (gA E 83)), (2, .int (nI t))]) hx hb dL_law_116 rfl hl (by decide) rfl (fun ls hl => ?_)
                            refine lv_aload_n hx hb dL_law_117 rfl (lv_at hl 2 rfl) ?_
                            refine lv_bipush (v := 77) hx hb dL_law_118 (by decide) ?_
                            refine cw_L_78 C hJ (rest := []) (d_setSplit hE hX104 hQ97 (a := 77) (by decide)) dL_law_120 hl.1 ⟨Nat.le_of_ble_eq_true rfl, Nat.le_of_ble_eq_true rfl⟩ ⟨Nat.le_of_ble_eq_true rfl, Nat.le_of_ble_eq_true rfl⟩ (Nat.le_of_ble_eq_true rfl) rfl rfl (fun vr S_120 H locs hP hJ => ?_)
                            obtain ⟨rfl, hX120, hR120⟩ := hP
                            have hL120 : (sT S_120).1 1 = nI 0 := txt_k hL104 hR120
                            refine lv_istore (lv' := [(5, .int (z2 3)), (3, .long (f_dig n2 z2 mm2 0 mc2)), (0, .ref b), (1, .ref (gA E 83)), (2, .int (nI t))]) hx hb dL_law_123 hl (by decide) rfl (fun ls hl => ?_)
                            refine lv_aload_n hx hb dL_law_125 rfl (lv_at hl 3 rfl) ?_
                            refine cw_L_97 C hJ (rest := []) (d_undo hE hX120) dL_law_126 hl.1 ⟨Nat.le_of_ble_eq_true rfl, Nat.le_of_ble_eq_true rfl⟩ ⟨Nat.le_of_ble_eq_true rfl, Nat.le_of_ble_eq_true rfl⟩ (Nat.le_of_ble_eq_true rfl) rfl rfl (fun vr S_126 H locs hP hJ => ?_)
                            obtain ⟨rfl, hX126, hR126⟩ := hP
                            have hL126 : (sT S_126).1 1 = nI 0 := txt_k hL120 hR126
                            have hn3 := push_n (n2, z2, mm2) hX104.le4 sv2
                            have hs3 : ∀ j, j < (f_push (n2, z2, mm2) mc2 sv2).1 - 1 → QOk (t + 1) ((f_push (n2, z2, mm2) mc2 sv2).2 j) := fun j hj => QOk.push hQ97 hs97 hX104.le4 j (by omega)
                            refine lv_istore (lv' := [(6, .int (nI ((f_push (n2, z2, mm2) mc2 sv2).1 - 1))), (5, .int (z2 3)), (3, .long (f_dig n2 z2 mm2 0 mc2)), (0, .ref b), (1, .ref (gA E 83)), (2, .int (nI t))]) hx hb dL_law_129 hl (by decide) rfl (fun ls hl => ?_)
                            refine lv_aload_n hx hb dL_law_131 rfl (lv_at hl 4 rfl) ?_
                            refine lv_iconst (v := 1) hx hb dL_law_132 (by decide) ?_
                            refine cr_L_8 C hJ (rest := []) (m_whole hE hX126 hQ97 hL126 1 (by decide) (b := 1) (by decide) (v := z2 3) rfl) dL_law_133 hl.1 ⟨Nat.le_of_ble_eq_true rfl, Nat.le_of_ble_eq_true rfl⟩ ⟨Nat.le_of_ble_eq_true rfl, Nat.le_of_ble_eq_true rfl⟩ (Nat.le_of_ble_eq_true rfl) rfl rfl ?_
                            refine lv_iload hx hb dL_law_136 (lv_at hl 1 rfl) ?_
                            refine lv_icmp_ne (tgt := 162) hx hb dL_law_138 (by decide) (fun c_138 => ?_) (fun c_138 => ?_)
                            · skip
                              exact absurd (rfl) c_138
                            · skip
                              have J164 : ∀  (ls : Array Slot), JJ E S_126 H locs → lv_has ls 7 [(6, .int (nI ((f_push (n2, z2, mm2) mc2 sv2).1 - 1))), (5, .int (z2 3)), (3, .long (f_dig n2 z2 mm2 0 mc2)), (0, .ref b), (1, .ref (gA E 83)), (2, .int (nI t))] → W p l e room_1 s m #[Value.ref b] below meth c H locs 100 2000 (lw_Z below #[Value.ref b] s) (F0 m 164 ls []) := by
                                intro  ls  hJ hl
                                refine lv_iload hx hb dL_law_164 (lv_at hl 0 rfl) ?_
                                refine lv_iconst (v := 3) hx hb dL_law_166 (by decide) ?_
                                refine lv_icmp_ne (tgt := 180) hx hb dL_law_167 (by decide) (fun c_167 => ?_) (fun c_167 => ?_)
                                · skip
                                  refine lv_iinc (v := nI (t + 1)) (lv' := [(2, .int (nI (t + 1))), (6, .int (nI ((f_push (n2, z2, mm2) mc2 sv2).1 - 1))), (5, .int (z2 3)), (3, .long (f_dig n2 z2 mm2 0 mc2)), (0, .ref b), (1, .ref (gA E 83))]) hx hb dL_law_180 hl (k := 5) rfl (by exact nI_1 t) (by decide) rfl (fun ls hl => ?_)
                                  refine lv_goto (tgt := 74) hx hb dL_law_183 (by decide) ?_
                                  exact ih_lp (t + 1) n2 z2 mm2 _ _ S_126 _ _ _ (by omega) (by omega) hX126 hQ97 hs3 hL126 hJ (lv_sub hl [4, 5, 0] rfl)
                                · skip
                                  have e3 : (f_push (n2, z2, mm2) mc2 sv2).1 - 1 = 3 := (nI_eq (b := 3) (by omega) (by decide)).mp c_167
                                  refine lv_aload_n hx hb dL_law_170 rfl (lv_at hl 4 rfl) ?_
                                  refine cw_L_97 C hJ (rest := []) (d_undo1 hE hX126 e3) dL_law_171 hl.1 ⟨Nat.le_of_ble_eq_true rfl, Nat.le_of_ble_eq_true rfl⟩ ⟨Nat.le_of_ble_eq_true rfl, Nat.le_of_ble_eq_true rfl⟩ (Nat.le_of_ble_eq_true rfl) rfl rfl (fun vr S_171 H locs hP hJ => ?_)
                                  obtain ⟨rfl, hX171, hR171⟩ := hP
                                  have hL171 : (sT S_171).1 1 = nI 0 := txt_k hL126 hR171
                                  have hQ171 : QOk (t + 1) ((f_push (n2, z2, mm2) mc2 sv2).2 2) := hs3 2 (by omega)
                                  obtain ⟨⟨n3, z3, mm3⟩, e4⟩ : ∃ u_v, u_v = (f_push (n2, z2, mm2) mc2 sv2).2 2 := ⟨_, rfl⟩
                                  rw [← e4] at hX171 hQ171
                                  refine lv_iconst (v := 2) hx hb dL_law_174 (by decide) ?_
                                  refine lv_icmp_eq (tgt := 180) hx hb dL_law_175 (by decide) (fun c_175 => ?_) (fun c_175 => ?_)
                                  · skip
                                    refine lv_iinc (v := nI (t + 1)) (lv' := [(2, .int (nI (t + 1))), (6, .int (nI ((f_push (n2, z2, mm2) mc2 sv2).1 - 1))), (5, .int (z2 3)), (3, .long (f_dig n2 z2 mm2 0 mc2)), (0, .ref b), (1, .ref (gA E 83))]) hx hb dL_law_180 hl (k := 5) rfl (by exact nI_1 t) (by decide) rfl (fun ls hl => ?_)
                                    refine lv_goto (tgt := 74) hx hb dL_law_183 (by decide) ?_
                                    exact ih_lp (t + 1) n3 z3 mm3 _ _ S_171 _ _ _ (by omega) (by omega) hX171 hQ171 (fun j hj => hs3 j (by omega)) hL171 hJ (lv_sub hl [4, 5, 0] rfl)
                                  · skip
                                    exact absurd (rfl) c_175
                              refine lv_iload hx hb dL_law_141 (lv_at hl 0 rfl) ?_
                              refine lv_iconst (v := 3) hx hb dL_law_143 (by decide) ?_
                              refine lv_icmp_gt (tgt := 162) hx hb dL_law_144 (by decide) (fun c_144 => ?_) (fun c_144 => ?_)
                              · skip
                                exact absurd c_144 (Int32.not_lt.mpr (show nI _ ≤ nI 3 from nI_le hn3.1 (by decide)))
                              · skip
                                refine lv_iload hx hb dL_law_147 (lv_at hl 0 rfl) ?_
                                refine lv_iconst (v := 3) hx hb dL_law_149 (by decide) ?_
                                refine lv_icmp_ge (tgt := 164) hx hb dL_law_150 (by decide) (fun c_150 => ?_) (fun c_150 => ?_)
                                · skip
                                  exact J164 _ hJ (lv_sub hl [0, 1, 2, 3, 4, 5] rfl)
                                · skip
                                  have hq3 : (f_push (n2, z2, mm2) mc2 sv2).1 - 1 < 3 := ltOfNle (N := 3) (by omega) c_150
                                  refine lv_aload_n hx hb dL_law_153 rfl (lv_at hl 4 rfl) ?_
                                  refine cr_L_112 C hJ (rest := []) (c_X6_digest hE hX126.1 hL126 hX126.2.1.2.1) dL_law_154 hl.1 ⟨Nat.le_of_ble_eq_true rfl, Nat.le_of_ble_eq_true rfl⟩ ⟨Nat.le_of_ble_eq_true rfl, Nat.le_of_ble_eq_true rfl⟩ (Nat.le_of_ble_eq_true rfl) rfl rfl ?_
                                  refine lv_lload_n hx hb dL_law_157 rfl (lv_at hl 2 rfl) ?_
                                  refine W.lcmp hx hb dL_law_158 ?_
                                  refine lv_if_eq (tgt := 164) hx hb dL_law_159 (by decide) (fun c_159 => ?_) (fun c_159 => ?_)
                                  · skip
                                    exact J164 _ hJ (lv_sub hl [0, 1, 2, 3, 4, 5] rfl)
                                  · skip
                                    exact absurd (by rw [← hn3.2 hq3]; exact cmp_e _) c_159
                          · skip
                            exact absurd c_107 (by decide)
                  exact lp 41 0 0 z0 m00 0 _ S_57 _ _ _ (Nat.zero_le _) (by omega) hX57 QOk.z0 (fun j hj => absurd hj (Nat.not_lt_zero _)) hL57 hJ (lv_sub hl [1, 2, 0] rfl)
                · skip
                  exact absurd (show f_wrong (gof 0 m00) 0 = 0 from rfl) c_67
theorem known_5 {args : Array Value} {s : State} (hts : ∀ w ∈ lw_tbl, w.before args s = true) : ∃ D : va_G, va_K D vwCl [] s := by
  have hp : ∀ w ∈ pw_tbl, w.before args s = true := fun w h => hts w (List.mem_filter.mp h).1
  obtain ⟨u_c0, u_i0, h0⟩ := u_known (C := RX2) (T := TX2) (N := 6) (n := 6) hp kw_X2 (hp _ kx_X2)
  obtain ⟨u_c1, u_i1, h1⟩ := u_known (C := RX3) (T := TX3) (N := 2) (n := 2) hp kw_X3 (hp _ kx_X3)
  obtain ⟨u_c2, u_i2, h2⟩ := u_known (C := RX4) (T := TX4) (N := 8) (n := 8) hp kw_X4 (hp _ kx_X4)
  obtain ⟨u_c3, u_i3, h3⟩ := u_known (C := RX5) (T := TX5) (N := 7) (n := 7) hp kw_X5 (hp _ kx_X5)
  obtain ⟨u_c4, u_i4, h4⟩ := u_known (C := RX6) (T := TX6) (N := 4) (n := 4) hp kw_X6 (hp _ kx_X6)
  refine ⟨(fun k => if k = 0 then u_c0 else if k = 1 then u_c1 else if k = 2 then u_c2 else if k = 3 then u_c3 else u_c4, fun k => if k = 0 then u_i0 else if k = 1 then u_i1 else if k = 2 then u_i2 else if k = 3 then u_i3 else u_i4), fun k q hq => ?_, fun k q h => by simp at h⟩
  match k, hq with
  | 0, hq => cases hq; exact h0
  | 1, hq => cases hq; exact h1
  | 2, hq => cases hq; exact h2
  | 3, hq => cases hq; exact h3
  | 4, hq => cases hq; exact h4
  | k + 5, hq => simp [vwCl] at hq
set_option maxHeartbeats 4000000 in
set_option maxRecDepth 100000 in
theorem whole_start {p : Program} {e : Env} {s : State} {m : MethodId} {below : List Frame} {meth : Method} {c : Code} (l : Launch) (hflags : l.flags = flags0) {b L : Nat} {xs : Nat → Int32} (hL : L ≤ 260) (C0 : lw_At p s m meth c b L xs) : W p l e room_1 s m #[Value.ref b] below meth c s.heap [] 0 0 (lw_Z below #[Value.ref b] s) (entryFrame m ([Value.ref b] : List Value).toArray 7) := by
  obtain ⟨hx, hb, hr, hml, hown, hts, hX, hbl, hlocks, hgv⟩ := C0
  obtain ⟨ad, X, henv⟩ := env_of hgv hts
  obtain ⟨D, hK0⟩ := known_5 hts
  have C : Cy (D, s, #[Value.ref b]) p s m meth c cL_law RL 7 := ⟨hx, hb, hml, hown, State.WarmedH.refl s, ⟨hK0, hts⟩, hlocks⟩
  have hA : ∀ q : Nat, s.heap.size ≤ q → (fun q : Nat => s.heap.size ≤ q) q := fun _ h => h
  have hS : va_S (fun q : Nat => s.heap.size ≤ q) s.heap s.heap [] := va_S.rf
  have hP : va_P D vwCl [] s.heap := fun k q h => by simp at h
  have hD : va_D (fun q : Nat => s.heap.size ≤ q) [] := ⟨fun i j p q h => by simp at h, fun k q h => by simp at h⟩
  have hl := lv_entry ([.ref b]) (n := 7) (Nat.le_of_ble_eq_true rfl)
  rw [lg_entry_eq]
  generalize (lg_sl ([.ref b]) ++ List.replicate (7 - (lg_sl ([.ref b])).length) Slot.unset).toArray = ls at hl ⊢
  have hl : lv_has ls 7 [(0, .ref b)] := hl
  have hK := hK0
  refine b_new (ci := 4) (N := 4) (T := TX6) (ty := tyX6) (fs := (uZ 0).2.elim (fun _ => []) (fun x => x.2)) C hK0 hP hD hS hA kw_X6 tyX6_ok kk_L_9 kx_X6 k0_X6 rfl (fun j hj => by rcases (show j = 0 ∨ j = 1 ∨ j = 2 ∨ j = 3 by omega) with rfl | rfl | rfl | rfl <;> rfl) ⟨by show _ ≤ 639798; omega, by show _ ≤ 7182075; omega⟩ dL_law_0 (fun h0 H hP hD hS => ?_)
  refine lv_dup hx hb dL_law_3 rfl ?_
  refine b_callI C (u_w := []) (e0 := (uZ 0).2) (c_X6_init C.en h0) hP hD hS hA km_L_93 ki_X6_init k0_X6 kc_X6_init rfl ⟨by decide, by decide, by decide +kernel⟩ dL_law_4 hl.1 ⟨Nat.le_of_ble_eq_true rfl, Nat.le_of_ble_eq_true rfl⟩ ⟨by show _ ≤ 639798; omega, by show _ ≤ 7182075; omega⟩ (Nat.le_of_ble_eq_true rfl) (fun w1 tys1 H locs hp hP hK9 hD hS => ?_)
  obtain ⟨a0, a1, qh, qs, a2, a3, a4, a5, qt, qb, qn, c0, c1, c2, c3, rfl, rfl⟩ := hp
  have hP : va_P D vwCl (qW h0 a0 a1 qh qs a2 a3 a4 a5 qt qb qn c0 c1 c2 c3) H := hP
  have hD : va_D (fun q : Nat => s.heap.size ≤ q) (qW h0 a0 a1 qh qs a2 a3 a4 a5 qt qb qn c0 c1 c2 c3) := hD
  obtain ⟨hP9, hD9⟩ := start_P (s := s) (av := #[Value.ref b]) (ad := ad) h0 a0 a1 qh qs a2 a3 a4 a5 qt qb qn c0 c1 c2 c3 hP hD
  obtain ⟨E, hE⟩ : ∃ E, E = EE D s #[Value.ref b] ad h0 a0 a1 qh qs a2 a3 a4 a5 qt qb qn c0 c1 c2 c3 := ⟨_, rfl⟩
  refine lv_astore_n (lv' := [(1, .ref h0), (0, .ref b)]) hx hb dL_law_7 rfl hl (by decide) rfl (fun ls hl => ?_)
  rw [← hE] at hP9 hD9
  have hgs : gS E = s := by rw [hE]; rfl
  have hE0 : Env0 E := Env0.st (D := D) (by rw [hE]; rfl) hgs (by rw [hE]; exact hK9) hD9 (by rw [hE]; exact hts)
  have hX1 := henv E hgs (by rw [hE]; rfl)
  have hJ : JJ E S0 H locs := ⟨by rw [show gD E = D by rw [hE]; rfl]; exact hP9, by rw [show gFr E = fun q : Nat => s.heap.size ≤ q by rw [hE]; rfl, hgs]; exact hS⟩
  have Cz : Cx E p s m meth c cL_law RL 7 := ⟨hx, hb, hml, hown, by rw [hgs]; exact State.WarmedH.refl s, hE0, hlocks⟩
  have hl5 : lv_has ls 7 [(0, .ref b), (1, .ref (gA E 83))] := by rw [hE]; exact lv_sub hl [1, 0] rfl
  have hT0 : TX S0 0 (fun _ => 0) 0 (-1) none (fun _ => 0) := ⟨rfl, rfl, rfl, rfl, rfl, rfl⟩
  refine W.widen (k := 100) (n := 2000) (Nat.le_of_ble_eq_true rfl) (Nat.le_of_ble_eq_true rfl) ?_
  exact law_body Cz hX1 hgs hr hX hbl hL XI.z hT0 hJ hl5
