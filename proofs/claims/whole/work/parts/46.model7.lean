/-! MODEL: settling (by program) -/
theorem gs_goE {n fu : Nat} {z z2 : Nat → Int32} {mm mm2 : Nat → Nat → Int32} {u_p u_q : Int32} {i d : Nat} (hn : n ≤ 10) (h : GS n fu z mm u_p i z2 mm2 (d + 1)) (hp : ¬ u_p = -1) {Q : Nat} (hQ : Q < n - 1) (hk : (f_kp (gof n mm2) (n - 1)).1 = nI Q) (ex : u_q = nI Q) : GS n fu z mm u_q (i + 1) (upd (upd z2 4 (z2 4 + 1)) 5 (z2 5 + f_fairc (gof n mm2) (z2 3) (nI Q))) (mswap mm2 Q (f_fairc (gof n mm2) (z2 3) (nI Q))) d := by
  subst ex; exact gs_go hn h hp hQ hk
theorem cs_swaps {l : Launch} {E : GE} (hE : Env0 E) {S : ST} {u_r : Nat → Int32} {u_u : Nat → Nat → Int32} (hU : UZ S u_r u_u) {n : Nat} (hn0 : u_r 0 = nI n) (hn : n ≤ 10) (P : Nat) (hP0 : P + 1 < n) {p0 : Int32} (ep : p0 = nI P) (p1 : Int32) : MW l E yX7_swaps cX7_swaps 5 (some .int) 1 23 S [.ref (gA E 84), .int p0, .int p1] (fun v S1 => v = some (.int p1) ∧ UZ S1 (upd (upd u_r 2 (u_r 2 + 1)) 3 (u_r 3 + p1)) (usw u_u n P p1) ∧ RO S S1) := by subst ep; exact c_X7_swaps hE hU hn0 hn P hP0 p1
set_option maxHeartbeats 4000000 in
set_option maxRecDepth 100000 in
theorem c_X7_settles {l : Launch} {E : GE} (hE : Env0 E) {S : ST} {n : Nat} {z : Nat → Int32} {mm : Nat → Nat → Int32} (hR : RI S n z mm) (hM : MmOk n mm) (fu : Nat) (hSt : Stops n fu z mm) : MW l E yX7_settles cX7_settles 4 (some .int) 4 86 S [.ref (gA E 84)] (fun v S1 => v = some (.int (nI (f_set n fu z mm).1)) ∧ RI S1 n (f_set n fu z mm).2.1 (f_set n fu z mm).2.2 ∧ MmOk n (f_set n fu z mm).2.2 ∧ RO S S1) := by
  have hn := hR.n10
  refine MW.of hE (by decide) (Nat.le_of_ble_eq_true rfl) ?_
  intro p e s m below meth c ls C hJ hr hl
  have hx := C.x
  have hb := C.b
  have hl : lv_has ls 4 [(0, .ref (gA E 84))] := hl
  refine lv_iconst (v := 0) hx hb dX7_settles_0 (by decide) ?_
  refine lv_istore_n (lv' := [(1, .int 0), (0, .ref (gA E 84))]) hx hb dX7_settles_1 rfl hl (by decide) rfl (fun ls hl => ?_)
  refine lv_iconst (v := 0) hx hb dX7_settles_2 (by decide) ?_
  refine lv_istore_n (lv' := [(2, .int 0), (1, .int 0), (0, .ref (gA E 84))]) hx hb dX7_settles_3 rfl hl (by decide) rfl (fun ls hl => ?_)
  have lp : ∀ (d : Nat) (i : Nat) (xp : Int32) (z2 : Nat → Int32) (mm2 : Nat → Nat → Int32) (T : ST) (H : Heap) (locs : List Loc) (ls : Array Slot), (GS n fu z mm xp i z2 mm2 d) → (RI T n z2 mm2) → (MmOk n mm2) → (RO S T) → JJ E T H locs → lv_has ls 4 [(0, .ref (gA E 84)), (1, .int (nI i)), (2, .int xp)] → W p l e (rmZ 4 86) s m ([.ref (gA E 84)] : List Value).toArray below meth c H locs 0 0 (WQ below ([.ref (gA E 84)] : List Value).toArray s E (fun v S1 => v = some (.int (nI (f_set n fu z mm).1)) ∧ RI S1 n (f_set n fu z mm).2.1 (f_set n fu z mm).2.2 ∧ MmOk n (f_set n fu z mm).2.2 ∧ RO S S1)) (F0 m 4 ls []) := by
    intro d
    induction d with
    | zero =>
      intro i xp z2 mm2 T H locs ls hv hR7 hM7 ho hJ hl
      exact (gs_zero hv).elim
    | succ d ih_lp =>
      intro i xp z2 mm2 T H locs ls hv hR7 hM7 ho hJ hl
      refine lv_iload_n hx hb dX7_settles_4 rfl (lv_at hl 2 rfl) ?_
      refine lv_iconst (v := (-1)) hx hb dX7_settles_5 (by decide) ?_
      refine lv_icmp_eq (tgt := 85) hx hb dX7_settles_6 (by decide) (fun c_6 => ?_) (fun c_6 => ?_)
      · skip
        have hfin := gs_end hv c_6
        refine lv_iload_n hx hb dX7_settles_85 rfl (lv_at hl 1 rfl) ?_
        exact rW_i C hJ hr rfl (⟨by rw [hfin], by rw [hfin]; exact hR7, by rw [hfin]; exact hM7, ho⟩) dX7_settles_86
      · skip
        refine lv_iconst (v := (-1)) hx hb dX7_settles_9 (by decide) ?_
        refine lv_istore_n (lv' := [(2, .int (-1)), (0, .ref (gA E 84)), (1, .int (nI i))]) hx hb dX7_settles_10 rfl hl (by decide) rfl (fun ls hl => ?_)
        refine lv_iconst (v := 0) hx hb dX7_settles_11 (by decide) ?_
        refine lv_istore_n (lv' := [(3, .int 0), (2, .int (-1)), (0, .ref (gA E 84)), (1, .int (nI i))]) hx hb dX7_settles_12 rfl hl (by decide) rfl (fun ls hl => ?_)
        have lq : ∀ (d : Nat) (k : Nat) (xq : Int32) (ls : Array Slot), (k ≤ n - 1) → (n - 1 < k + d) → (xq = (f_kp (gof n mm2) k).1) → JJ E T H locs → lv_has ls 4 [(0, .ref (gA E 84)), (1, .int (nI i)), (2, .int xq), (3, .int (nI k))] → W p l e (rmZ 4 86) s m ([.ref (gA E 84)] : List Value).toArray below meth c H locs 0 0 (WQ below ([.ref (gA E 84)] : List Value).toArray s E (fun v S1 => v = some (.int (nI (f_set n fu z mm).1)) ∧ RI S1 n (f_set n fu z mm).2.1 (f_set n fu z mm).2.2 ∧ MmOk n (f_set n fu z mm).2.2 ∧ RO S S1)) (F0 m 13 ls []) := by
          intro d
          induction d with
          | zero =>
            intro k xq ls hk1 hd2 hk hJ hl
            omega
          | succ d ih_lq =>
            intro k xq ls hk1 hd2 hk hJ hl
            refine lv_iload_n hx hb dX7_settles_13 rfl (lv_at hl 3 rfl) ?_
            refine lv_iconst (v := 1) hx hb dX7_settles_14 (by decide) ?_
            refine lv_iadd hx hb dX7_settles_15 ?_
            refine lv_aload_n hx hb dX7_settles_16 rfl (lv_at hl 0 rfl) ?_
            refine g_X7_7 C hJ dX7_settles_17 ?_
            refine lv_iconst (v := 0) hx hb dX7_settles_20 (by decide) ?_
            refine a_ro C hJ (P := 0) (rfl) (by decide) dX7_settles_21 ?_
            refine lv_icmp_ge (tgt := 63) hx hb dX7_settles_22 (by decide) (fun c_22 => ?_) (fun c_22 => ?_)
            · skip
              have e9 : k = n - 1 := by
                rw [hR7.many, nI_1] at c_22
                have := (nI_leI (by omega) (by omega)).mp c_22
                omega
              rw [e9] at hk
              refine lv_iload_n hx hb dX7_settles_63 rfl (lv_at hl 2 rfl) ?_
              refine lv_iconst (v := (-1)) hx hb dX7_settles_64 (by decide) ?_
              refine lv_icmp_eq (tgt := 4) hx hb dX7_settles_65 (by decide) (fun c_65 => ?_) (fun c_65 => ?_)
              · skip
                have hvN := gs_stop hv c_6 (hk.symm.trans c_65)
                have hRN := hR7
                have hMN := hM7
                have hoN := ho
                rw [← c_65] at hvN
                exact ih_lp _ _ _ _ T H locs _ hvN hRN hMN hoN hJ (lv_sub hl [0, 1, 2] rfl)
              · skip
                obtain ⟨Q, hQk, eQ, hQ2, hsur, hheld⟩ := (kp_inv (gof n mm2) (n - 1)).resolve_left (fun y => c_65 (hk.trans y.1))
                have eX := hk.trans eQ
                have hf0 : m_fa n mm2 Q = 0 := by
                  rw [held_in hn hM7 (by omega)] at hheld
                  rcases Classical.em (m_fa n mm2 Q = 0) with y | y
                  · exact y
                  · rw [if_neg y] at hheld; exact absurd hheld (by decide)
                have hfc : f_loss (gof n mm2) (nI Q) + f_sur (gof n mm2) (nI Q) * z2 3 / 100 = f_fairc (gof n mm2) (z2 3) (nI Q) := (if_pos hsur).symm
                refine lv_aload_n hx hb dX7_settles_68 rfl (lv_at hl 0 rfl) ?_
                refine lv_iload_n hx hb dX7_settles_69 rfl (lv_at hl 2 rfl) ?_
                refine lv_aload_n hx hb dX7_settles_70 rfl (lv_at hl 0 rfl) ?_
                refine lv_iload_n hx hb dX7_settles_71 rfl (lv_at hl 2 rfl) ?_
                refine cr_X7_122 C hJ (rest := [.int xq, .ref (gA E 84)]) (cm_fairPrice hE hR7 Q (by omega) eX) dX7_settles_72 hl.1 ⟨Nat.le_of_ble_eq_true rfl, Nat.le_of_ble_eq_true rfl⟩ ⟨Nat.le_refl _, Nat.le_refl _⟩ (Nat.le_of_ble_eq_true rfl) rfl rfl ?_
                refine cw_X7_107 C hJ (rest := []) (cs_swaps hE (UZ.rf T) hR7.many hn Q (by omega) eX _) dX7_settles_75 hl.1 ⟨Nat.le_of_ble_eq_true rfl, Nat.le_of_ble_eq_true rfl⟩ ⟨Nat.le_refl _, Nat.le_refl _⟩ (Nat.le_of_ble_eq_true rfl) rfl rfl (fun vr S_75 H locs hP hJ => ?_)
                obtain ⟨rfl, u_75, o_75⟩ := hP
                rw [hfc] at u_75
                have hRN := hR7.swp hM7 (by omega) hf0 u_75
                have hMN : MmOk n (mswap mm2 Q (f_fairc (gof n mm2) (z2 3) (nI Q))) := hM7.swp (by omega)
                have hoN := ho.t o_75
                have hvN := gs_goE hn hv c_6 hQk eQ eX
                refine lv_pop hx hb dX7_settles_78 rfl ?_
                refine lv_iinc (v := nI (i + 1)) (lv' := [(1, .int (nI (i + 1))), (0, .ref (gA E 84)), (2, .int xq), (3, .int (nI k))]) hx hb dX7_settles_79 hl (k := 1) rfl (by exact nI_1 i) (by decide) rfl (fun ls hl => ?_)
                refine lv_goto (tgt := 4) hx hb dX7_settles_82 (by decide) ?_
                exact ih_lp _ _ _ _ S_75 H locs _ hvN hRN hMN hoN hJ (lv_sub hl [1, 0, 2] rfl)
            · skip
              have hltk : k + 1 < n := by
                rcases Nat.lt_or_ge (k + 1) n with q | q
                · exact q
                · exact absurd (by rw [hR7.many, nI_1]; exact nI_le q (by omega)) c_22
              refine lv_aload_n hx hb dX7_settles_25 rfl (lv_at hl 0 rfl) ?_
              refine lv_iload_n hx hb dX7_settles_26 rfl (lv_at hl 3 rfl) ?_
              refine cr_X7_116 C hJ (rest := []) (cm_reasonOf hE hR7 hM7 k (by omega) rfl) dX7_settles_27 hl.1 ⟨Nat.le_of_ble_eq_true rfl, Nat.le_of_ble_eq_true rfl⟩ ⟨Nat.le_refl _, Nat.le_refl _⟩ (Nat.le_of_ble_eq_true rfl) rfl rfl ?_
              refine lv_if_ne (tgt := 55) hx hb dX7_settles_30 (by decide) (fun c_30 => ?_) (fun c_30 => ?_)
              · skip
                have hk2 : xq = (f_kp (gof n mm2) (k + 1)).1 := by rw [kp_keep0 hn hM7 hltk c_30]; exact hk
                refine lv_iload_n hx hb dX7_settles_55 rfl (lv_at hl 2 rfl) ?_
                refine lv_istore_n (lv' := [(2, .int xq), (0, .ref (gA E 84)), (1, .int (nI i)), (3, .int (nI k))]) hx hb dX7_settles_56 rfl hl (by decide) rfl (fun ls hl => ?_)
                refine lv_iinc (v := nI (k + 1)) (lv' := [(3, .int (nI (k + 1))), (2, .int xq), (0, .ref (gA E 84)), (1, .int (nI i))]) hx hb dX7_settles_57 hl (k := 3) rfl (by exact nI_1 k) (by decide) rfl (fun ls hl => ?_)
                refine lv_goto (tgt := 13) hx hb dX7_settles_60 (by decide) ?_
                exact ih_lq (k + 1) _ _ (by omega) (by omega) hk2 hJ (lv_sub hl [2, 3, 1, 0] rfl)
              · skip
                refine lv_iload_n hx hb dX7_settles_33 rfl (lv_at hl 2 rfl) ?_
                refine lv_iconst (v := (-1)) hx hb dX7_settles_34 (by decide) ?_
                refine lv_icmp_eq (tgt := 51) hx hb dX7_settles_35 (by decide) (fun c_35 => ?_) (fun c_35 => ?_)
                · skip
                  have hk2 : nI k = (f_kp (gof n mm2) (k + 1)).1 := (kp_take0 hn hM7 hltk c_30 (hk.symm.trans c_35)).symm
                  refine lv_iload_n hx hb dX7_settles_51 rfl (lv_at hl 3 rfl) ?_
                  refine lv_goto (tgt := 56) hx hb dX7_settles_52 (by decide) ?_
                  refine lv_istore_n (lv' := [(2, .int (nI k)), (0, .ref (gA E 84)), (1, .int (nI i)), (3, .int (nI k))]) hx hb dX7_settles_56 rfl hl (by decide) rfl (fun ls hl => ?_)
                  refine lv_iinc (v := nI (k + 1)) (lv' := [(3, .int (nI (k + 1))), (2, .int (nI k)), (0, .ref (gA E 84)), (1, .int (nI i))]) hx hb dX7_settles_57 hl (k := 3) rfl (by exact nI_1 k) (by decide) rfl (fun ls hl => ?_)
                  refine lv_goto (tgt := 13) hx hb dX7_settles_60 (by decide) ?_
                  exact ih_lq (k + 1) _ _ (by omega) (by omega) hk2 hJ (lv_sub hl [2, 3, 1, 0] rfl)
                · skip
                  obtain ⟨Q, hQk, eQ, hQ2, hsur, hheld⟩ := (kp_inv (gof n mm2) (k)).resolve_left (fun y => c_35 (hk.trans y.1))
                  have eX := hk.trans eQ
                  refine lv_aload_n hx hb dX7_settles_38 rfl (lv_at hl 0 rfl) ?_
                  refine lv_iload_n hx hb dX7_settles_39 rfl (lv_at hl 3 rfl) ?_
                  refine cr_X7_89 C hJ (rest := []) (cm_surplus hE hR7 k (by omega) rfl) dX7_settles_40 hl.1 ⟨Nat.le_of_ble_eq_true rfl, Nat.le_of_ble_eq_true rfl⟩ ⟨Nat.le_refl _, Nat.le_refl _⟩ (Nat.le_of_ble_eq_true rfl) rfl rfl ?_
                  refine lv_aload_n hx hb dX7_settles_43 rfl (lv_at hl 0 rfl) ?_
                  refine lv_iload_n hx hb dX7_settles_44 rfl (lv_at hl 2 rfl) ?_
                  refine cr_X7_89 C hJ (rest := [.int (f_sur (gof n mm2) (nI k))]) (cm_surplus hE hR7 Q (by omega) eX) dX7_settles_45 hl.1 ⟨Nat.le_of_ble_eq_true rfl, Nat.le_of_ble_eq_true rfl⟩ ⟨Nat.le_refl _, Nat.le_refl _⟩ (Nat.le_of_ble_eq_true rfl) rfl rfl ?_
                  refine lv_icmp_le (tgt := 55) hx hb dX7_settles_48 (by decide) (fun c_48 => ?_) (fun c_48 => ?_)
                  · skip
                    have hk2 : xq = (f_kp (gof n mm2) (k + 1)).1 := by rw [kp_more hn hM7 hltk c_30 eQ (by omega), if_pos c_48]; exact eX
                    refine lv_iload_n hx hb dX7_settles_55 rfl (lv_at hl 2 rfl) ?_
                    refine lv_istore_n (lv' := [(2, .int xq), (0, .ref (gA E 84)), (1, .int (nI i)), (3, .int (nI k))]) hx hb dX7_settles_56 rfl hl (by decide) rfl (fun ls hl => ?_)
                    refine lv_iinc (v := nI (k + 1)) (lv' := [(3, .int (nI (k + 1))), (2, .int xq), (0, .ref (gA E 84)), (1, .int (nI i))]) hx hb dX7_settles_57 hl (k := 3) rfl (by exact nI_1 k) (by decide) rfl (fun ls hl => ?_)
                    refine lv_goto (tgt := 13) hx hb dX7_settles_60 (by decide) ?_
                    exact ih_lq (k + 1) _ _ (by omega) (by omega) hk2 hJ (lv_sub hl [2, 3, 1, 0] rfl)
                  · skip
                    have hk2 : nI k = (f_kp (gof n mm2) (k + 1)).1 := by rw [kp_more hn hM7 hltk c_30 eQ (by omega), if_neg c_48]
                    refine lv_iload_n hx hb dX7_settles_51 rfl (lv_at hl 3 rfl) ?_
                    refine lv_goto (tgt := 56) hx hb dX7_settles_52 (by decide) ?_
                    refine lv_istore_n (lv' := [(2, .int (nI k)), (0, .ref (gA E 84)), (1, .int (nI i)), (3, .int (nI k))]) hx hb dX7_settles_56 rfl hl (by decide) rfl (fun ls hl => ?_)
                    refine lv_iinc (v := nI (k + 1)) (lv' := [(3, .int (nI (k + 1))), (2, .int (nI k)), (0, .ref (gA E 84)), (1, .int (nI i))]) hx hb dX7_settles_57 hl (k := 3) rfl (by exact nI_1 k) (by decide) rfl (fun ls hl => ?_)
                    refine lv_goto (tgt := 13) hx hb dX7_settles_60 (by decide) ?_
                    exact ih_lq (k + 1) _ _ (by omega) (by omega) hk2 hJ (lv_sub hl [2, 3, 1, 0] rfl)
        exact lq (n + 1) 0 (-1) _ (Nat.zero_le _) (by omega) rfl hJ (lv_sub hl [2, 3, 1, 0] rfl)
  exact lp (fu + 2) 0 0 z mm S s.heap [] _ (gs_init hSt) hR hM (RO.r S) hJ (lv_sub hl [2, 1, 0] rfl)
