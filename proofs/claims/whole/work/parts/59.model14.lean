/-! MODEL: the best cost, whole values, the digest (by program) -/
set_option maxHeartbeats 4000000 in
set_option maxRecDepth 100000 in
theorem c_X7_bestCost {l : Launch} {E : GE} (hE : Env0 E) {S : ST} {n : Nat} {z : Nat → Int32} {mm : Nat → Nat → Int32} (hR : RI S n z mm) (hV : VOk n mm) : MW l E yX7_bestCost cX7_bestCost 5 (some .int) 1 22 S [.ref (gA E 84)] (fun v S1 => v = some (.int (f_best (gof n mm) n)) ∧ RB S S1) := by
  have hn := hR.n10
  refine MW.of hE (by decide) (Nat.le_of_ble_eq_true rfl) ?_
  intro p e s m below meth c ls C hJ hr hl
  have hx := C.x
  have hb := C.b
  have hl : lv_has ls 5 [(0, .ref (gA E 84))] := hl
  refine lv_iconst (v := 0) hx hb dX7_bestCost_0 (by decide) ?_
  refine lv_istore_n (lv' := [(1, .int 0), (0, .ref (gA E 84))]) hx hb dX7_bestCost_1 rfl hl (by decide) rfl (fun ls hl => ?_)
  refine lv_iconst (v := 0) hx hb dX7_bestCost_2 (by decide) ?_
  refine lv_istore_n (lv' := [(2, .int 0), (1, .int 0), (0, .ref (gA E 84))]) hx hb dX7_bestCost_3 rfl hl (by decide) rfl (fun ls hl => ?_)
  refine lv_iconst (v := 0) hx hb dX7_bestCost_4 (by decide) ?_
  refine lv_istore_n (lv' := [(3, .int 0), (2, .int 0), (1, .int 0), (0, .ref (gA E 84))]) hx hb dX7_bestCost_5 rfl hl (by decide) rfl (fun ls hl => ?_)
  have lp : ∀ (d : Nat) (i : Nat) (uo : Nat → Nat) (T : ST) (H : Heap) (locs : List Loc) (ls : Array Slot), (i ≤ n) → (n < i + d) → (BO mm uo i) → (BA T uo i) → (RB S T) → JJ E T H locs → lv_has ls 5 [(0, .ref (gA E 84)), (1, .int 0), (2, .int 0), (3, .int (nI i))] → W p l e (rmZ 1 22) s m ([.ref (gA E 84)] : List Value).toArray below meth c H locs 0 0 (WQ below ([.ref (gA E 84)] : List Value).toArray s E (fun v S1 => v = some (.int (f_best (gof n mm) n)) ∧ RB S S1)) (F0 m 6 ls []) := by
    intro d
    induction d with
    | zero =>
      intro i uo T H locs ls hi hd hB hA ho hJ hl
      omega
    | succ d ih_lp =>
      intro i uo T H locs ls hi hd hB hA ho hJ hl
      refine lv_iload_n hx hb dX7_bestCost_6 rfl (lv_at hl 3 rfl) ?_
      refine lv_aload_n hx hb dX7_bestCost_7 rfl (lv_at hl 0 rfl) ?_
      refine g_X7_7 C hJ dX7_bestCost_8 ?_
      refine lv_iconst (v := 0) hx hb dX7_bestCost_11 (by decide) ?_
      refine a_ro C hJ (P := 0) (rfl) (by decide) dX7_bestCost_12 ?_
      refine lv_icmp_ge (tgt := 105) hx hb dX7_bestCost_13 (by decide) (fun c_13 => ?_) (fun c_13 => ?_)
      · skip
        have e9 : i = n := eqOfLe hi (by omega) (by have q := c_13; rw [(hR.rb ho).many] at q; exact q)
        rw [e9] at hB hA
        refine lv_iconst (v := 0) hx hb dX7_bestCost_105 (by decide) ?_
        refine lv_istore_n (lv' := [(3, .int 0), (0, .ref (gA E 84)), (1, .int 0), (2, .int 0)]) hx hb dX7_bestCost_106 rfl hl (by decide) rfl (fun ls hl => ?_)
        have lr : ∀ (d : Nat) (j : Nat) (xa xb : Int32) (ls : Array Slot), (j ≤ n) → (n < j + d) → (xa = sI (fun x => mm (uo x) 1 * sI (fun y => mm (uo y) 3) x) j) → (xb = sI (fun y => mm (uo y) 3) j) → JJ E T H locs → lv_has ls 5 [(0, .ref (gA E 84)), (1, .int xa), (2, .int xb), (3, .int (nI j))] → W p l e (rmZ 1 22) s m ([.ref (gA E 84)] : List Value).toArray below meth c H locs 0 0 (WQ below ([.ref (gA E 84)] : List Value).toArray s E (fun v S1 => v = some (.int (f_best (gof n mm) n)) ∧ RB S S1)) (F0 m 107 ls []) := by
          intro d
          induction d with
          | zero =>
            intro j xa xb ls hj hd3 ea eb hJ hl
            omega
          | succ d ih_lr =>
            intro j xa xb ls hj hd3 ea eb hJ hl
            refine lv_iload_n hx hb dX7_bestCost_107 rfl (lv_at hl 3 rfl) ?_
            refine lv_aload_n hx hb dX7_bestCost_108 rfl (lv_at hl 0 rfl) ?_
            refine g_X7_7 C hJ dX7_bestCost_109 ?_
            refine lv_iconst (v := 0) hx hb dX7_bestCost_112 (by decide) ?_
            refine a_ro C hJ (P := 0) (rfl) (by decide) dX7_bestCost_113 ?_
            refine lv_icmp_ge (tgt := 153) hx hb dX7_bestCost_114 (by decide) (fun c_114 => ?_) (fun c_114 => ?_)
            · skip
              have e8 : j = n := eqOfLe hj (by omega) (by have q := c_114; rw [(hR.rb ho).many] at q; exact q)
              refine lv_iload_n hx hb dX7_bestCost_153 rfl (lv_at hl 1 rfl) ?_
              exact rW_i C hJ hr rfl (⟨by rw [ea, e8, hB.2.2.2, best_in hn], ho⟩) dX7_bestCost_154
            · skip
              have hlt3 : j < n := ltOfNle (by omega) (by have q := c_114; rw [(hR.rb ho).many] at q; exact q)
              refine lv_iload_n hx hb dX7_bestCost_117 rfl (lv_at hl 1 rfl) ?_
              refine lv_aload_n hx hb dX7_bestCost_118 rfl (lv_at hl 0 rfl) ?_
              refine lv_aload_n hx hb dX7_bestCost_119 rfl (lv_at hl 0 rfl) ?_
              refine g_X7_19 C hJ dX7_bestCost_120 ?_
              refine lv_iload_n hx hb dX7_bestCost_123 rfl (lv_at hl 3 rfl) ?_
              refine a_be C hJ (P := j) (rfl) (by omega) dX7_bestCost_124 ?_
              refine lv_iconst (v := 1) hx hb dX7_bestCost_125 (by decide) ?_
              refine cr_X7_33 C hJ (rest := [.int xa]) (cm_of hE (hR.rb ho) (uo j) 1 (hB.1 j hlt3) (by decide) (hA j hlt3)) dX7_bestCost_126 hl.1 ⟨Nat.le_of_ble_eq_true rfl, Nat.le_of_ble_eq_true rfl⟩ ⟨Nat.le_refl _, Nat.le_refl _⟩ (Nat.le_of_ble_eq_true rfl) rfl rfl ?_
              refine lv_iload_n hx hb dX7_bestCost_129 rfl (lv_at hl 2 rfl) ?_
              refine lv_imul hx hb dX7_bestCost_130 ?_
              refine lv_iadd hx hb dX7_bestCost_131 ?_
              refine lv_istore_n (lv' := [(1, .int (xa + ((mm (uo j) 1) * xb))), (0, .ref (gA E 84)), (2, .int xb), (3, .int (nI j))]) hx hb dX7_bestCost_132 rfl hl (by decide) rfl (fun ls hl => ?_)
              refine lv_iload_n hx hb dX7_bestCost_133 rfl (lv_at hl 2 rfl) ?_
              refine lv_aload_n hx hb dX7_bestCost_134 rfl (lv_at hl 1 rfl) ?_
              refine lv_aload_n hx hb dX7_bestCost_135 rfl (lv_at hl 1 rfl) ?_
              refine g_X7_19 C hJ dX7_bestCost_136 ?_
              refine lv_iload_n hx hb dX7_bestCost_139 rfl (lv_at hl 3 rfl) ?_
              refine a_be C hJ (P := j) (rfl) (by omega) dX7_bestCost_140 ?_
              refine lv_iconst (v := 3) hx hb dX7_bestCost_141 (by decide) ?_
              refine cr_X7_33 C hJ (rest := [.int xb]) (cm_of hE (hR.rb ho) (uo j) 3 (hB.1 j hlt3) (by decide) (hA j hlt3)) dX7_bestCost_142 hl.1 ⟨Nat.le_of_ble_eq_true rfl, Nat.le_of_ble_eq_true rfl⟩ ⟨Nat.le_refl _, Nat.le_refl _⟩ (Nat.le_of_ble_eq_true rfl) rfl rfl ?_
              refine lv_iadd hx hb dX7_bestCost_145 ?_
              refine lv_istore_n (lv' := [(2, .int (xb + (mm (uo j) 3))), (1, .int (xa + ((mm (uo j) 1) * xb))), (0, .ref (gA E 84)), (3, .int (nI j))]) hx hb dX7_bestCost_146 rfl hl (by decide) rfl (fun ls hl => ?_)
              refine lv_iinc (v := nI (j + 1)) (lv' := [(3, .int (nI (j + 1))), (2, .int (xb + (mm (uo j) 3))), (1, .int (xa + ((mm (uo j) 1) * xb))), (0, .ref (gA E 84))]) hx hb dX7_bestCost_147 hl (k := 3) rfl (by exact nI_1 j) (by decide) rfl (fun ls hl => ?_)
              refine lv_goto (tgt := 107) hx hb dX7_bestCost_150 (by decide) ?_
              exact ih_lr (j + 1) _ _ _ (by omega) (by omega) (sI_u ea (by rw [eb])) (sI_u eb rfl) hJ (lv_sub hl [3, 2, 1, 0] rfl)
        exact lr (n + 1) 0 0 0 _ (Nat.zero_le _) (by omega) rfl rfl hJ (lv_sub hl [1, 2, 3, 0] rfl)
      · skip
        have hlt : i < n := ltOfNle (by omega) (by have q := c_13; rw [(hR.rb ho).many] at q; exact q)
        refine lv_iload_n hx hb dX7_bestCost_16 rfl (lv_at hl 3 rfl) ?_
        refine lv_istore (lv' := [(4, .int (nI i)), (0, .ref (gA E 84)), (1, .int 0), (2, .int 0), (3, .int (nI i))]) hx hb dX7_bestCost_17 hl (by decide) rfl (fun ls hl => ?_)
        have lq : ∀ (d : Nat) (k : Nat) (T2 : ST) (H : Heap) (locs : List Loc) (ls : Array Slot), (k ≤ i) → (k < d) → (BI T2 uo i k) → (∀ j, k ≤ j → j < i → vW mm (uo j) * vS mm i < vW mm i * vS mm (uo j)) → (RB S T2) → JJ E T2 H locs → lv_has ls 5 [(0, .ref (gA E 84)), (1, .int 0), (2, .int 0), (3, .int (nI i)), (4, .int (nI k))] → W p l e (rmZ 1 22) s m ([.ref (gA E 84)] : List Value).toArray below meth c H locs 0 0 (WQ below ([.ref (gA E 84)] : List Value).toArray s E (fun v S1 => v = some (.int (f_best (gof n mm) n)) ∧ RB S S1)) (F0 m 19 ls []) := by
          intro d
          induction d with
          | zero =>
            intro k T2 H locs ls hk hd2 hBI hgt ho2 hJ hl
            omega
          | succ d ih_lq =>
            intro k T2 H locs ls hk hd2 hBI hgt ho2 hJ hl
            have hRb := hR.rb ho2
            refine lv_iload hx hb dX7_bestCost_19 (lv_at hl 4 rfl) ?_
            refine lv_if_le (tgt := 91) hx hb dX7_bestCost_21 (by decide) (fun c_21 => ?_) (fun c_21 => ?_)
            · skip
              have hk0 : k = 0 := by
                rcases Nat.eq_zero_or_pos k with q | q
                · exact q
                · exact absurd c_21 (nI_nle q (by omega))
              have hex : k = 0 ∨ ¬ vW mm (uo (k - 1)) * vS mm i < vW mm i * vS mm (uo (k - 1)) := Or.inl hk0
              refine lv_aload_n hx hb dX7_bestCost_91 rfl (lv_at hl 0 rfl) ?_
              refine g_X7_19 C hJ dX7_bestCost_92 ?_
              refine lv_iload hx hb dX7_bestCost_95 (lv_at hl 4 rfl) ?_
              refine lv_iload_n hx hb dX7_bestCost_97 rfl (lv_at hl 3 rfl) ?_
              refine t_be C hJ (P := k) (rfl) (by omega) dX7_bestCost_98 (fun H locs hJ => ?_)
              obtain ⟨S_98, hS_98⟩ : ∃ z : ST, z = setM T2 (mBe (sM T2) k (nI i)) := ⟨_, rfl⟩
              rw [← hS_98] at hJ
              have hB9 := BO.ins hV hlt hB hk hgt hex
              have hA9 := hBI.e hk hS_98
              have ho9 := ho2.p hS_98
              refine lv_iinc (v := nI (i + 1)) (lv' := [(3, .int (nI (i + 1))), (0, .ref (gA E 84)), (1, .int 0), (2, .int 0), (4, .int (nI k))]) hx hb dX7_bestCost_99 hl (k := 3) rfl (by exact nI_1 i) (by decide) rfl (fun ls hl => ?_)
              refine lv_goto (tgt := 6) hx hb dX7_bestCost_102 (by decide) ?_
              exact ih_lp (i + 1) (oin uo k i) S_98 H locs _ (by omega) (by omega) hB9 hA9 ho9 hJ (lv_sub hl [1, 2, 3, 0] rfl)
            · skip
              have hk0 : 0 < k := by
                rcases Nat.eq_zero_or_pos k with q | q
                · exact absurd (by rw [q]; decide) c_21
                · exact q
              have hbo := hB.1 (k - 1) (by omega)
              have hcm := hV.lt (P := uo (k - 1)) (Q := i) (by omega) hlt
              refine lv_aload_n hx hb dX7_bestCost_24 rfl (lv_at hl 0 rfl) ?_
              refine lv_aload_n hx hb dX7_bestCost_25 rfl (lv_at hl 0 rfl) ?_
              refine g_X7_19 C hJ dX7_bestCost_26 ?_
              refine lv_iload hx hb dX7_bestCost_29 (lv_at hl 4 rfl) ?_
              refine lv_iconst (v := 1) hx hb dX7_bestCost_31 (by decide) ?_
              refine lv_isub hx hb dX7_bestCost_32 ?_
              refine a_be C hJ (P := k - 1) (nI_pd (by omega)) (by omega) dX7_bestCost_33 ?_
              refine lv_iconst (v := 1) hx hb dX7_bestCost_34 (by decide) ?_
              refine cr_X7_33 C hJ (rest := []) (cm_of hE hRb (uo (k - 1)) 1 (by omega) (by decide) (hBI.1 (k - 1) (by omega))) dX7_bestCost_35 hl.1 ⟨Nat.le_of_ble_eq_true rfl, Nat.le_of_ble_eq_true rfl⟩ ⟨Nat.le_refl _, Nat.le_refl _⟩ (Nat.le_of_ble_eq_true rfl) rfl rfl ?_
              refine lv_aload_n hx hb dX7_bestCost_38 rfl (lv_at hl 0 rfl) ?_
              refine lv_iload_n hx hb dX7_bestCost_39 rfl (lv_at hl 3 rfl) ?_
              refine lv_iconst (v := 3) hx hb dX7_bestCost_40 (by decide) ?_
              refine cr_X7_33 C hJ (rest := [.int (mm (uo (k - 1)) 1)]) (cm_of hE hRb i 3 hlt (by decide) rfl) dX7_bestCost_41 hl.1 ⟨Nat.le_of_ble_eq_true rfl, Nat.le_of_ble_eq_true rfl⟩ ⟨Nat.le_refl _, Nat.le_refl _⟩ (Nat.le_of_ble_eq_true rfl) rfl rfl ?_
              refine lv_imul hx hb dX7_bestCost_44 ?_
              refine lv_aload_n hx hb dX7_bestCost_45 rfl (lv_at hl 0 rfl) ?_
              refine lv_iload_n hx hb dX7_bestCost_46 rfl (lv_at hl 3 rfl) ?_
              refine lv_iconst (v := 1) hx hb dX7_bestCost_47 (by decide) ?_
              refine cr_X7_33 C hJ (rest := [.int ((mm (uo (k - 1)) 1) * (mm i 3))]) (cm_of hE hRb i 1 hlt (by decide) rfl) dX7_bestCost_48 hl.1 ⟨Nat.le_of_ble_eq_true rfl, Nat.le_of_ble_eq_true rfl⟩ ⟨Nat.le_refl _, Nat.le_refl _⟩ (Nat.le_of_ble_eq_true rfl) rfl rfl ?_
              refine lv_aload_n hx hb dX7_bestCost_51 rfl (lv_at hl 0 rfl) ?_
              refine lv_aload_n hx hb dX7_bestCost_52 rfl (lv_at hl 0 rfl) ?_
              refine g_X7_19 C hJ dX7_bestCost_53 ?_
              refine lv_iload hx hb dX7_bestCost_56 (lv_at hl 4 rfl) ?_
              refine lv_iconst (v := 1) hx hb dX7_bestCost_58 (by decide) ?_
              refine lv_isub hx hb dX7_bestCost_59 ?_
              refine a_be C hJ (P := k - 1) (nI_pd (by omega)) (by omega) dX7_bestCost_60 ?_
              refine lv_iconst (v := 3) hx hb dX7_bestCost_61 (by decide) ?_
              refine cr_X7_33 C hJ (rest := [.int (mm i 1), .int ((mm (uo (k - 1)) 1) * (mm i 3))]) (cm_of hE hRb (uo (k - 1)) 3 (by omega) (by decide) (hBI.1 (k - 1) (by omega))) dX7_bestCost_62 hl.1 ⟨Nat.le_of_ble_eq_true rfl, Nat.le_of_ble_eq_true rfl⟩ ⟨Nat.le_refl _, Nat.le_refl _⟩ (Nat.le_of_ble_eq_true rfl) rfl rfl ?_
              refine lv_imul hx hb dX7_bestCost_65 ?_
              refine lv_icmp_ge (tgt := 91) hx hb dX7_bestCost_66 (by decide) (fun c_66 => ?_) (fun c_66 => ?_)
              · skip
                have hex : k = 0 ∨ ¬ vW mm (uo (k - 1)) * vS mm i < vW mm i * vS mm (uo (k - 1)) := Or.inr (fun y => absurd (hcm.mpr y) (Int32.not_lt.mpr c_66))
                refine lv_aload_n hx hb dX7_bestCost_91 rfl (lv_at hl 0 rfl) ?_
                refine g_X7_19 C hJ dX7_bestCost_92 ?_
                refine lv_iload hx hb dX7_bestCost_95 (lv_at hl 4 rfl) ?_
                refine lv_iload_n hx hb dX7_bestCost_97 rfl (lv_at hl 3 rfl) ?_
                refine t_be C hJ (P := k) (rfl) (by omega) dX7_bestCost_98 (fun H locs hJ => ?_)
                obtain ⟨S_98, hS_98⟩ : ∃ z : ST, z = setM T2 (mBe (sM T2) k (nI i)) := ⟨_, rfl⟩
                rw [← hS_98] at hJ
                have hB9 := BO.ins hV hlt hB hk hgt hex
                have hA9 := hBI.e hk hS_98
                have ho9 := ho2.p hS_98
                refine lv_iinc (v := nI (i + 1)) (lv' := [(3, .int (nI (i + 1))), (0, .ref (gA E 84)), (1, .int 0), (2, .int 0), (4, .int (nI k))]) hx hb dX7_bestCost_99 hl (k := 3) rfl (by exact nI_1 i) (by decide) rfl (fun ls hl => ?_)
                refine lv_goto (tgt := 6) hx hb dX7_bestCost_102 (by decide) ?_
                exact ih_lp (i + 1) (oin uo k i) S_98 H locs _ (by omega) (by omega) hB9 hA9 ho9 hJ (lv_sub hl [1, 2, 3, 0] rfl)
              · skip
                have hgt2 : ∀ j, k - 1 ≤ j → j < i → vW mm (uo j) * vS mm i < vW mm i * vS mm (uo j) := fun j h1 h2 => by
                  rcases Nat.lt_or_ge j k with q | q
                  · rw [show j = k - 1 by omega]; exact hcm.mp (Int32.not_le.mp c_66)
                  · exact hgt j q h2
                refine lv_aload_n hx hb dX7_bestCost_69 rfl (lv_at hl 0 rfl) ?_
                refine g_X7_19 C hJ dX7_bestCost_70 ?_
                refine lv_iload hx hb dX7_bestCost_73 (lv_at hl 4 rfl) ?_
                refine lv_aload_n hx hb dX7_bestCost_75 rfl (lv_at hl 0 rfl) ?_
                refine g_X7_19 C hJ dX7_bestCost_76 ?_
                refine lv_iload hx hb dX7_bestCost_79 (lv_at hl 4 rfl) ?_
                refine lv_iconst (v := 1) hx hb dX7_bestCost_81 (by decide) ?_
                refine lv_isub hx hb dX7_bestCost_82 ?_
                refine a_be C hJ (P := k - 1) (nI_pd (by omega)) (by omega) dX7_bestCost_83 ?_
                refine t_be C hJ (P := k) (rfl) (by omega) dX7_bestCost_84 (fun H locs hJ => ?_)
                obtain ⟨S_84, hS_84⟩ : ∃ z : ST, z = setM T2 (mBe (sM T2) k ((sM T2).2.2.2.2 (k - 1))) := ⟨_, rfl⟩
                rw [← hS_84] at hJ
                have hBI2 := hBI.s hk0 hk hS_84
                have ho84 := ho2.p hS_84
                refine lv_iinc (v := nI (k - 1)) (lv' := [(4, .int (nI (k - 1))), (0, .ref (gA E 84)), (1, .int 0), (2, .int 0), (3, .int (nI i))]) hx hb dX7_bestCost_85 hl (k := 4) rfl (by exact nI_pm (by omega)) (by decide) rfl (fun ls hl => ?_)
                refine lv_goto (tgt := 19) hx hb dX7_bestCost_88 (by decide) ?_
                exact ih_lq (k - 1) S_84 H locs _ (by omega) (by omega) hBI2 hgt2 ho84 hJ (lv_sub hl [1, 2, 3, 4, 0] rfl)
        exact lq (i + 1) i T H locs _ (Nat.le_refl _) (by omega) ⟨fun j hj => hA j hj, fun j h1 h2 => absurd h2 (by omega)⟩ (fun j h1 h2 => absurd h2 (by omega)) ho hJ (lv_sub hl [1, 2, 3, 4, 0] rfl)
  exact lp (n + 1) 0 (fun _ => 0) S s.heap [] _ (Nat.zero_le _) (by omega) (BO.z mm _) (fun j hj => absurd hj (by omega)) (RB.r S) hJ (lv_sub hl [3, 2, 1, 0] rfl)
set_option maxHeartbeats 4000000 in
set_option maxRecDepth 100000 in
theorem c_X7_wholeValue {l : Launch} {E : GE} (hE : Env0 E) {S : ST} {n : Nat} {z : Nat → Int32} {mm : Nat → Nat → Int32} (hR : RI S n z mm) (hM : MmOk n mm) (hV : VOk n mm) {u_n : Nat} (hL : (sM S).1 4 = nI u_n) (w : Nat) (hw : w < 14) : MW l E yX7_wholeValue cX7_wholeValue 6 (some .int) 4 86 S [.ref (gA E 84), .int (nI w)] (fun v S1 => v = some (.int (f_whole n z mm u_n w)) ∧ RB S S1) := by
  have hn := hR.n10
  refine MW.of hE (by decide) (Nat.le_of_ble_eq_true rfl) ?_
  intro p e s m below meth c ls C hJ hr hl
  have hx := C.x
  have hb := C.b
  have hl : lv_has ls 6 [(0, .ref (gA E 84)), (1, .int (nI w))] := hl
  refine lv_iconst (v := 0) hx hb dX7_wholeValue_0 (by decide) ?_
  refine lv_istore_n (lv' := [(2, .int 0), (0, .ref (gA E 84)), (1, .int (nI w))]) hx hb dX7_wholeValue_1 rfl hl (by decide) rfl (fun ls hl => ?_)
  refine lv_iconst (v := 0) hx hb dX7_wholeValue_2 (by decide) ?_
  refine lv_istore_n (lv' := [(3, .int 0), (2, .int 0), (0, .ref (gA E 84)), (1, .int (nI w))]) hx hb dX7_wholeValue_3 rfl hl (by decide) rfl (fun ls hl => ?_)
  refine lv_iconst (v := 0) hx hb dX7_wholeValue_4 (by decide) ?_
  refine lv_istore (lv' := [(4, .int 0), (3, .int 0), (2, .int 0), (0, .ref (gA E 84)), (1, .int (nI w))]) hx hb dX7_wholeValue_5 hl (by decide) rfl (fun ls hl => ?_)
  refine lv_iconst (v := 0) hx hb dX7_wholeValue_7 (by decide) ?_
  refine lv_istore (lv' := [(5, .int 0), (4, .int 0), (3, .int 0), (2, .int 0), (0, .ref (gA E 84)), (1, .int (nI w))]) hx hb dX7_wholeValue_8 hl (by decide) rfl (fun ls hl => ?_)
  have lp : ∀ (d : Nat) (i : Nat) (xa xb xc : Int32) (ls : Array Slot), (i ≤ n) → (n < i + d) → (xa = sI (fun j => (if j + 1 < n ∧ f_hind (gof n mm) (nI j) = 0 then (1 : Int32) else 0)) i) → (xb = sI (fun j => (if (gof n mm) (nI j) 5 = -1 then (0 : Int32) else 1)) i) → (xc = sI (fun j => (if f_take (gof n mm) (nI j) = 0 then (0 : Int32) else 1)) i) → JJ E S s.heap [] → lv_has ls 6 [(0, .ref (gA E 84)), (1, .int (nI w)), (2, .int xa), (3, .int xb), (4, .int xc), (5, .int (nI i))] → W p l e (rmZ 4 86) s m ([.ref (gA E 84), .int (nI w)] : List Value).toArray below meth c s.heap [] 0 0 (WQ below ([.ref (gA E 84), .int (nI w)] : List Value).toArray s E (fun v S1 => v = some (.int (f_whole n z mm u_n w)) ∧ RB S S1)) (F0 m 10 ls []) := by
    intro d
    induction d with
    | zero =>
      intro i xa xb xc ls hi hd ea eb ec hJ hl
      omega
    | succ d ih_lp =>
      intro i xa xb xc ls hi hd ea eb ec hJ hl
      refine lv_iload hx hb dX7_wholeValue_10 (lv_at hl 5 rfl) ?_
      refine lv_aload_n hx hb dX7_wholeValue_12 rfl (lv_at hl 0 rfl) ?_
      refine g_X7_7 C hJ dX7_wholeValue_13 ?_
      refine lv_iconst (v := 0) hx hb dX7_wholeValue_16 (by decide) ?_
      refine a_ro C hJ (P := 0) (rfl) (by decide) dX7_wholeValue_17 ?_
      refine lv_icmp_ge (tgt := 91) hx hb dX7_wholeValue_18 (by decide) (fun c_18 => ?_) (fun c_18 => ?_)
      · skip
        have e9 : i = n := eqOfLe hi (by omega) (by have q := c_18; rw [hR.many] at q; exact q)
        refine lv_iload_n hx hb dX7_wholeValue_91 rfl (lv_at hl 1 rfl) ?_
        rcases (show w = 0 ∨ w = 1 ∨ w = 2 ∨ w = 3 ∨ w = 4 ∨ w = 5 ∨ w = 6 ∨ w = 7 ∨ w = 8 ∨ w = 9 ∨ w = 10 ∨ w = 11 ∨ w = 12 ∨ w = 13 by omega) with e_sw | e_sw | e_sw | e_sw | e_sw | e_sw | e_sw | e_sw | e_sw | e_sw | e_sw | e_sw | e_sw | e_sw
        · skip
          refine lv_tableIn (off := 68) (tgt := 160) hx hb dX7_wholeValue_92 (by rw [e_sw]; decide) (by rw [e_sw]; decide) (by rw [e_sw]; rfl) (by decide) ?_
          refine lv_aload_n hx hb dX7_wholeValue_160 rfl (lv_at hl 0 rfl) ?_
          refine g_X7_7 C hJ dX7_wholeValue_161 ?_
          refine lv_iconst (v := 0) hx hb dX7_wholeValue_164 (by decide) ?_
          refine a_ro C hJ (P := 0) (rfl) (by decide) dX7_wholeValue_165 ?_
          exact rW_i C hJ hr rfl (⟨by rw [e_sw, hR.many]; rfl, RB.r S⟩) dX7_wholeValue_166
        · skip
          refine lv_tableIn (off := 75) (tgt := 167) hx hb dX7_wholeValue_92 (by rw [e_sw]; decide) (by rw [e_sw]; decide) (by rw [e_sw]; rfl) (by decide) ?_
          refine lv_aload_n hx hb dX7_wholeValue_167 rfl (lv_at hl 0 rfl) ?_
          refine g_X7_7 C hJ dX7_wholeValue_168 ?_
          refine lv_iconst (v := 1) hx hb dX7_wholeValue_171 (by decide) ?_
          refine a_ro C hJ (P := 1) (rfl) (by decide) dX7_wholeValue_172 ?_
          exact rW_i C hJ hr rfl (⟨by rw [e_sw, show (sM S).2.1 1 = z 3 from hR.u0.1 1 (by decide) (by decide)]; rfl, RB.r S⟩) dX7_wholeValue_173
        · skip
          refine lv_tableIn (off := 82) (tgt := 174) hx hb dX7_wholeValue_92 (by rw [e_sw]; decide) (by rw [e_sw]; decide) (by rw [e_sw]; rfl) (by decide) ?_
          refine lv_aload_n hx hb dX7_wholeValue_174 rfl (lv_at hl 0 rfl) ?_
          refine lv_iconst (v := 1) hx hb dX7_wholeValue_175 (by decide) ?_
          refine cr_X7_146 C hJ (rest := []) (c_X7_costBy hE hR 1 (Or.inl rfl)) dX7_wholeValue_176 hl.1 ⟨Nat.le_of_ble_eq_true rfl, Nat.le_of_ble_eq_true rfl⟩ ⟨Nat.le_refl _, Nat.le_refl _⟩ (Nat.le_of_ble_eq_true rfl) rfl rfl ?_
          exact rW_i C hJ hr rfl (⟨by rw [e_sw]; rfl, RB.r S⟩) dX7_wholeValue_179
        · skip
          refine lv_tableIn (off := 88) (tgt := 180) hx hb dX7_wholeValue_92 (by rw [e_sw]; decide) (by rw [e_sw]; decide) (by rw [e_sw]; rfl) (by decide) ?_
          refine lv_aload_n hx hb dX7_wholeValue_180 rfl (lv_at hl 0 rfl) ?_
          refine lv_iconst (v := 2) hx hb dX7_wholeValue_181 (by decide) ?_
          refine cr_X7_146 C hJ (rest := []) (c_X7_costBy hE hR 2 (Or.inr rfl)) dX7_wholeValue_182 hl.1 ⟨Nat.le_of_ble_eq_true rfl, Nat.le_of_ble_eq_true rfl⟩ ⟨Nat.le_refl _, Nat.le_refl _⟩ (Nat.le_of_ble_eq_true rfl) rfl rfl ?_
          exact rW_i C hJ hr rfl (⟨by rw [e_sw]; rfl, RB.r S⟩) dX7_wholeValue_185
        · skip
          refine lv_tableIn (off := 94) (tgt := 186) hx hb dX7_wholeValue_92 (by rw [e_sw]; decide) (by rw [e_sw]; decide) (by rw [e_sw]; rfl) (by decide) ?_
          refine lv_aload_n hx hb dX7_wholeValue_186 rfl (lv_at hl 0 rfl) ?_
          refine cw_X7_149 C hJ (rest := []) (c_X7_bestCost hE hR hV) dX7_wholeValue_187 hl.1 ⟨Nat.le_of_ble_eq_true rfl, Nat.le_of_ble_eq_true rfl⟩ ⟨Nat.le_refl _, Nat.le_refl _⟩ (Nat.le_of_ble_eq_true rfl) rfl rfl (fun vr S_187 H locs hP hJ => ?_)
          obtain ⟨rfl, hB_187⟩ := hP
          exact rW_i C hJ hr rfl (⟨by rw [e_sw]; rfl, hB_187⟩) dX7_wholeValue_190
        · skip
          refine lv_tableIn (off := 99) (tgt := 191) hx hb dX7_wholeValue_92 (by rw [e_sw]; decide) (by rw [e_sw]; decide) (by rw [e_sw]; rfl) (by decide) ?_
          refine lv_iload_n hx hb dX7_wholeValue_191 rfl (lv_at hl 2 rfl) ?_
          exact rW_i C hJ hr rfl (⟨by rw [e_sw, ea, e9]; exact congrArg (fun q => some (Value.int q)) (sI_last (fun j hj => by by_cases y : f_hind (gof n mm) (nI j) = 0; exact (if_pos ⟨hj, y⟩).trans (if_pos y).symm; exact (if_neg (fun q => y q.2)).trans (if_neg y).symm) (fun j hj => if_neg (fun q => by omega))), RB.r S⟩) dX7_wholeValue_192
        · skip
          refine lv_tableIn (off := 101) (tgt := 193) hx hb dX7_wholeValue_92 (by rw [e_sw]; decide) (by rw [e_sw]; decide) (by rw [e_sw]; rfl) (by decide) ?_
          refine lv_iload_n hx hb dX7_wholeValue_193 rfl (lv_at hl 3 rfl) ?_
          exact rW_i C hJ hr rfl (⟨by rw [e_sw, eb, e9]; rfl, RB.r S⟩) dX7_wholeValue_194
        · skip
          refine lv_tableIn (off := 103) (tgt := 195) hx hb dX7_wholeValue_92 (by rw [e_sw]; decide) (by rw [e_sw]; decide) (by rw [e_sw]; rfl) (by decide) ?_
          refine lv_iload hx hb dX7_wholeValue_195 (lv_at hl 4 rfl) ?_
          exact rW_i C hJ hr rfl (⟨by rw [e_sw, ec, e9]; exact congrArg (fun q => some (Value.int q)) (sI_last (fun j hj => rfl) (fun j hj => if_pos (Classical.byContradiction (fun q => by have := take_in (show j < n by omega) hn q; omega)))), RB.r S⟩) dX7_wholeValue_197
        · skip
          refine lv_tableIn (off := 106) (tgt := 198) hx hb dX7_wholeValue_92 (by rw [e_sw]; decide) (by rw [e_sw]; decide) (by rw [e_sw]; rfl) (by decide) ?_
          refine lv_aload_n hx hb dX7_wholeValue_198 rfl (lv_at hl 0 rfl) ?_
          refine cr_X7_125 C hJ (rest := []) (c_X7_friends hE hR hM) dX7_wholeValue_199 hl.1 ⟨Nat.le_of_ble_eq_true rfl, Nat.le_of_ble_eq_true rfl⟩ ⟨Nat.le_refl _, Nat.le_refl _⟩ (Nat.le_of_ble_eq_true rfl) rfl rfl ?_
          exact rW_i C hJ hr rfl (⟨by rw [e_sw]; rfl, RB.r S⟩) dX7_wholeValue_202
        · skip
          refine lv_tableIn (off := 111) (tgt := 203) hx hb dX7_wholeValue_92 (by rw [e_sw]; decide) (by rw [e_sw]; decide) (by rw [e_sw]; rfl) (by decide) ?_
          refine lv_aload_n hx hb dX7_wholeValue_203 rfl (lv_at hl 0 rfl) ?_
          refine g_X7_7 C hJ dX7_wholeValue_204 ?_
          refine lv_iconst (v := 2) hx hb dX7_wholeValue_207 (by decide) ?_
          refine a_ro C hJ (P := 2) (rfl) (by decide) dX7_wholeValue_208 ?_
          exact rW_i C hJ hr rfl (⟨by rw [e_sw, show (sM S).2.1 2 = z 4 from hR.u0.1 2 (by decide) (by decide)]; rfl, RB.r S⟩) dX7_wholeValue_209
        · skip
          refine lv_tableIn (off := 118) (tgt := 210) hx hb dX7_wholeValue_92 (by rw [e_sw]; decide) (by rw [e_sw]; decide) (by rw [e_sw]; rfl) (by decide) ?_
          refine lv_aload_n hx hb dX7_wholeValue_210 rfl (lv_at hl 0 rfl) ?_
          refine g_X7_7 C hJ dX7_wholeValue_211 ?_
          refine lv_iconst (v := 3) hx hb dX7_wholeValue_214 (by decide) ?_
          refine a_ro C hJ (P := 3) (rfl) (by decide) dX7_wholeValue_215 ?_
          exact rW_i C hJ hr rfl (⟨by rw [e_sw, show (sM S).2.1 3 = z 5 from hR.u0.1 3 (by decide) (by decide)]; rfl, RB.r S⟩) dX7_wholeValue_216
        · skip
          refine lv_tableIn (off := 125) (tgt := 217) hx hb dX7_wholeValue_92 (by rw [e_sw]; decide) (by rw [e_sw]; decide) (by rw [e_sw]; rfl) (by decide) ?_
          refine lv_aload_n hx hb dX7_wholeValue_217 rfl (lv_at hl 0 rfl) ?_
          refine g_X7_7 C hJ dX7_wholeValue_218 ?_
          refine lv_iconst (v := 4) hx hb dX7_wholeValue_221 (by decide) ?_
          refine a_ro C hJ (P := 4) (rfl) (by decide) dX7_wholeValue_222 ?_
          exact rW_i C hJ hr rfl (⟨by rw [e_sw, show (sM S).2.1 4 = z 6 from hR.u0.1 4 (by decide) (by decide)]; rfl, RB.r S⟩) dX7_wholeValue_223
        · skip
          refine lv_tableIn (off := 132) (tgt := 224) hx hb dX7_wholeValue_92 (by rw [e_sw]; decide) (by rw [e_sw]; decide) (by rw [e_sw]; rfl) (by decide) ?_
          refine lv_aload_n hx hb dX7_wholeValue_224 rfl (lv_at hl 0 rfl) ?_
          refine g_X7_7 C hJ dX7_wholeValue_225 ?_
          refine lv_iconst (v := 5) hx hb dX7_wholeValue_228 (by decide) ?_
          refine a_ro C hJ (P := 5) (rfl) (by decide) dX7_wholeValue_229 ?_
          exact rW_i C hJ hr rfl (⟨by rw [e_sw, show (sM S).2.1 5 = z 7 from hR.u0.1 5 (by decide) (by decide)]; rfl, RB.r S⟩) dX7_wholeValue_230
        · skip
          refine lv_tableOut (tgt := 231) hx hb dX7_wholeValue_92 (by rw [e_sw]; decide) (by decide) ?_
          refine lv_aload_n hx hb dX7_wholeValue_231 rfl (lv_at hl 0 rfl) ?_
          refine g_X7_152 C hJ dX7_wholeValue_232 ?_
          exact rW_i C hJ hr rfl (⟨by rw [e_sw, hL]; rfl, RB.r S⟩) dX7_wholeValue_235
      · skip
        have hlt : i < n := ltOfNle (by omega) (by have q := c_18; rw [hR.many] at q; exact q)
        refine lv_iload_n hx hb dX7_wholeValue_21 rfl (lv_at hl 2 rfl) ?_
        refine lv_aload_n hx hb dX7_wholeValue_22 rfl (lv_at hl 0 rfl) ?_
        refine lv_iload hx hb dX7_wholeValue_23 (lv_at hl 5 rfl) ?_
        refine cr_X7_101 C hJ (rest := [.int xa]) (c_X7_isPair hE hR (nI i)) dX7_wholeValue_25 hl.1 ⟨Nat.le_of_ble_eq_true rfl, Nat.le_of_ble_eq_true rfl⟩ ⟨Nat.le_refl _, Nat.le_refl _⟩ (Nat.le_of_ble_eq_true rfl) rfl rfl ?_
        refine lv_if_eq (tgt := 44) hx hb dX7_wholeValue_28 (by decide) (fun c_28 => ?_) (fun c_28 => ?_)
        · skip
          have q5 := bI_0 c_28
          have hend : ¬ i + 1 < n := fun q => by rw [(f_in_pair hn).mpr ⟨i, q, rfl⟩] at q5; exact absurd q5 (by decide)
          have hva : (if i + 1 < n ∧ f_hind (gof n mm) (nI i) = 0 then (1 : Int32) else 0) = 0 := if_neg (fun y => hend y.1)
          refine lv_iconst (v := 0) hx hb dX7_wholeValue_44 (by decide) ?_
          refine lv_iadd hx hb dX7_wholeValue_45 ?_
          refine lv_istore_n (lv' := [(2, .int (xa + 0)), (0, .ref (gA E 84)), (1, .int (nI w)), (3, .int xb), (4, .int xc), (5, .int (nI i))]) hx hb dX7_wholeValue_46 rfl hl (by decide) rfl (fun ls hl => ?_)
          refine lv_iload_n hx hb dX7_wholeValue_47 rfl (lv_at hl 3 rfl) ?_
          refine lv_aload_n hx hb dX7_wholeValue_48 rfl (lv_at hl 1 rfl) ?_
          refine lv_iload hx hb dX7_wholeValue_49 (lv_at hl 5 rfl) ?_
          refine lv_iconst (v := 5) hx hb dX7_wholeValue_51 (by decide) ?_
          refine cr_X7_33 C hJ (rest := [.int xb]) (cm_of hE hR i 5 (by omega) (by decide) (rfl)) dX7_wholeValue_52 hl.1 ⟨Nat.le_of_ble_eq_true rfl, Nat.le_of_ble_eq_true rfl⟩ ⟨Nat.le_refl _, Nat.le_refl _⟩ (Nat.le_of_ble_eq_true rfl) rfl rfl ?_
          refine lv_iconst (v := (-1)) hx hb dX7_wholeValue_55 (by decide) ?_
          refine lv_icmp_eq (tgt := 63) hx hb dX7_wholeValue_56 (by decide) (fun c_56 => ?_) (fun c_56 => ?_)
          · skip
            have hvb : (if (gof n mm) (nI i) 5 = -1 then (0 : Int32) else 1) = 0 := if_pos ((g_in hn hlt 5).trans c_56)
            refine lv_iconst (v := 0) hx hb dX7_wholeValue_63 (by decide) ?_
            refine lv_iadd hx hb dX7_wholeValue_64 ?_
            refine lv_istore_n (lv' := [(3, .int (xb + 0)), (2, .int (xa + 0)), (0, .ref (gA E 84)), (1, .int (nI w)), (4, .int xc), (5, .int (nI i))]) hx hb dX7_wholeValue_65 rfl hl (by decide) rfl (fun ls hl => ?_)
            refine lv_iload hx hb dX7_wholeValue_66 (lv_at hl 4 rfl) ?_
            refine lv_aload_n hx hb dX7_wholeValue_68 rfl (lv_at hl 2 rfl) ?_
            refine lv_iload hx hb dX7_wholeValue_69 (lv_at hl 5 rfl) ?_
            refine cr_X7_104 C hJ (rest := [.int xc]) (cm_isTaken hE hR hM i (by omega) (rfl)) dX7_wholeValue_71 hl.1 ⟨Nat.le_of_ble_eq_true rfl, Nat.le_of_ble_eq_true rfl⟩ ⟨Nat.le_refl _, Nat.le_refl _⟩ (Nat.le_of_ble_eq_true rfl) rfl rfl ?_
            refine lv_if_eq (tgt := 81) hx hb dX7_wholeValue_74 (by decide) (fun c_74 => ?_) (fun c_74 => ?_)
            · skip
              have hvc : (if f_take (gof n mm) (nI i) = 0 then (0 : Int32) else 1) = 0 := if_pos c_74
              refine lv_iconst (v := 0) hx hb dX7_wholeValue_81 (by decide) ?_
              refine lv_iadd hx hb dX7_wholeValue_82 ?_
              refine lv_istore (lv' := [(4, .int (xc + 0)), (3, .int (xb + 0)), (2, .int (xa + 0)), (0, .ref (gA E 84)), (1, .int (nI w)), (5, .int (nI i))]) hx hb dX7_wholeValue_83 hl (by decide) rfl (fun ls hl => ?_)
              refine lv_iinc (v := nI (i + 1)) (lv' := [(5, .int (nI (i + 1))), (4, .int (xc + 0)), (3, .int (xb + 0)), (2, .int (xa + 0)), (0, .ref (gA E 84)), (1, .int (nI w))]) hx hb dX7_wholeValue_85 hl (k := 5) rfl (by exact nI_1 i) (by decide) rfl (fun ls hl => ?_)
              refine lv_goto (tgt := 10) hx hb dX7_wholeValue_88 (by decide) ?_
              exact ih_lp (i + 1) _ _ _ _ (by omega) (by omega) (sI_u ea hva) (sI_u eb hvb) (sI_u ec hvc) hJ (lv_sub hl [4, 5, 3, 2, 1, 0] rfl)
            · skip
              have hvc : (if f_take (gof n mm) (nI i) = 0 then (0 : Int32) else 1) = 1 := if_neg c_74
              refine lv_iconst (v := 1) hx hb dX7_wholeValue_77 (by decide) ?_
              refine lv_goto (tgt := 82) hx hb dX7_wholeValue_78 (by decide) ?_
              refine lv_iadd hx hb dX7_wholeValue_82 ?_
              refine lv_istore (lv' := [(4, .int (xc + 1)), (3, .int (xb + 0)), (2, .int (xa + 0)), (0, .ref (gA E 84)), (1, .int (nI w)), (5, .int (nI i))]) hx hb dX7_wholeValue_83 hl (by decide) rfl (fun ls hl => ?_)
              refine lv_iinc (v := nI (i + 1)) (lv' := [(5, .int (nI (i + 1))), (4, .int (xc + 1)), (3, .int (xb + 0)), (2, .int (xa + 0)), (0, .ref (gA E 84)), (1, .int (nI w))]) hx hb dX7_wholeValue_85 hl (k := 5) rfl (by exact nI_1 i) (by decide) rfl (fun ls hl => ?_)
              refine lv_goto (tgt := 10) hx hb dX7_wholeValue_88 (by decide) ?_
              exact ih_lp (i + 1) _ _ _ _ (by omega) (by omega) (sI_u ea hva) (sI_u eb hvb) (sI_u ec hvc) hJ (lv_sub hl [4, 5, 3, 2, 1, 0] rfl)
          · skip
            have hvb : (if (gof n mm) (nI i) 5 = -1 then (0 : Int32) else 1) = 1 := if_neg (fun y => c_56 ((g_in hn hlt 5).symm.trans y))
            refine lv_iconst (v := 1) hx hb dX7_wholeValue_59 (by decide) ?_
            refine lv_goto (tgt := 64) hx hb dX7_wholeValue_60 (by decide) ?_
            refine lv_iadd hx hb dX7_wholeValue_64 ?_
            refine lv_istore_n (lv' := [(3, .int (xb + 1)), (2, .int (xa + 0)), (0, .ref (gA E 84)), (1, .int (nI w)), (4, .int xc), (5, .int (nI i))]) hx hb dX7_wholeValue_65 rfl hl (by decide) rfl (fun ls hl => ?_)
            refine lv_iload hx hb dX7_wholeValue_66 (lv_at hl 4 rfl) ?_
            refine lv_aload_n hx hb dX7_wholeValue_68 rfl (lv_at hl 2 rfl) ?_
            refine lv_iload hx hb dX7_wholeValue_69 (lv_at hl 5 rfl) ?_
            refine cr_X7_104 C hJ (rest := [.int xc]) (cm_isTaken hE hR hM i (by omega) (rfl)) dX7_wholeValue_71 hl.1 ⟨Nat.le_of_ble_eq_true rfl, Nat.le_of_ble_eq_true rfl⟩ ⟨Nat.le_refl _, Nat.le_refl _⟩ (Nat.le_of_ble_eq_true rfl) rfl rfl ?_
            refine lv_if_eq (tgt := 81) hx hb dX7_wholeValue_74 (by decide) (fun c_74 => ?_) (fun c_74 => ?_)
            · skip
              have hvc : (if f_take (gof n mm) (nI i) = 0 then (0 : Int32) else 1) = 0 := if_pos c_74
              refine lv_iconst (v := 0) hx hb dX7_wholeValue_81 (by decide) ?_
              refine lv_iadd hx hb dX7_wholeValue_82 ?_
              refine lv_istore (lv' := [(4, .int (xc + 0)), (3, .int (xb + 1)), (2, .int (xa + 0)), (0, .ref (gA E 84)), (1, .int (nI w)), (5, .int (nI i))]) hx hb dX7_wholeValue_83 hl (by decide) rfl (fun ls hl => ?_)
              refine lv_iinc (v := nI (i + 1)) (lv' := [(5, .int (nI (i + 1))), (4, .int (xc + 0)), (3, .int (xb + 1)), (2, .int (xa + 0)), (0, .ref (gA E 84)), (1, .int (nI w))]) hx hb dX7_wholeValue_85 hl (k := 5) rfl (by exact nI_1 i) (by decide) rfl (fun ls hl => ?_)
              refine lv_goto (tgt := 10) hx hb dX7_wholeValue_88 (by decide) ?_
              exact ih_lp (i + 1) _ _ _ _ (by omega) (by omega) (sI_u ea hva) (sI_u eb hvb) (sI_u ec hvc) hJ (lv_sub hl [4, 5, 3, 2, 1, 0] rfl)
            · skip
              have hvc : (if f_take (gof n mm) (nI i) = 0 then (0 : Int32) else 1) = 1 := if_neg c_74
              refine lv_iconst (v := 1) hx hb dX7_wholeValue_77 (by decide) ?_
              refine lv_goto (tgt := 82) hx hb dX7_wholeValue_78 (by decide) ?_
              refine lv_iadd hx hb dX7_wholeValue_82 ?_
              refine lv_istore (lv' := [(4, .int (xc + 1)), (3, .int (xb + 1)), (2, .int (xa + 0)), (0, .ref (gA E 84)), (1, .int (nI w)), (5, .int (nI i))]) hx hb dX7_wholeValue_83 hl (by decide) rfl (fun ls hl => ?_)
              refine lv_iinc (v := nI (i + 1)) (lv' := [(5, .int (nI (i + 1))), (4, .int (xc + 1)), (3, .int (xb + 1)), (2, .int (xa + 0)), (0, .ref (gA E 84)), (1, .int (nI w))]) hx hb dX7_wholeValue_85 hl (k := 5) rfl (by exact nI_1 i) (by decide) rfl (fun ls hl => ?_)
              refine lv_goto (tgt := 10) hx hb dX7_wholeValue_88 (by decide) ?_
              exact ih_lp (i + 1) _ _ _ _ (by omega) (by omega) (sI_u ea hva) (sI_u eb hvb) (sI_u ec hvc) hJ (lv_sub hl [4, 5, 3, 2, 1, 0] rfl)
        · skip
          have q5 := bI_1 c_28
          have hP : i + 1 < n := by
            obtain ⟨Q, hQ, eQ⟩ := (f_in_pair hn).mp q5
            have := (nI_eq (by omega) (by omega)).mp eQ
            omega
          refine lv_aload_n hx hb dX7_wholeValue_31 rfl (lv_at hl 0 rfl) ?_
          refine lv_iload hx hb dX7_wholeValue_32 (lv_at hl 5 rfl) ?_
          refine cr_X7_116 C hJ (rest := [.int xa]) (cm_reasonOf hE hR hM i (by omega) (rfl)) dX7_wholeValue_34 hl.1 ⟨Nat.le_of_ble_eq_true rfl, Nat.le_of_ble_eq_true rfl⟩ ⟨Nat.le_refl _, Nat.le_refl _⟩ (Nat.le_of_ble_eq_true rfl) rfl rfl ?_
          refine lv_if_ne (tgt := 44) hx hb dX7_wholeValue_37 (by decide) (fun c_37 => ?_) (fun c_37 => ?_)
          · skip
            have hva : (if i + 1 < n ∧ f_hind (gof n mm) (nI i) = 0 then (1 : Int32) else 0) = 0 := if_neg (fun y => c_37 y.2)
            refine lv_iconst (v := 0) hx hb dX7_wholeValue_44 (by decide) ?_
            refine lv_iadd hx hb dX7_wholeValue_45 ?_
            refine lv_istore_n (lv' := [(2, .int (xa + 0)), (0, .ref (gA E 84)), (1, .int (nI w)), (3, .int xb), (4, .int xc), (5, .int (nI i))]) hx hb dX7_wholeValue_46 rfl hl (by decide) rfl (fun ls hl => ?_)
            refine lv_iload_n hx hb dX7_wholeValue_47 rfl (lv_at hl 3 rfl) ?_
            refine lv_aload_n hx hb dX7_wholeValue_48 rfl (lv_at hl 1 rfl) ?_
            refine lv_iload hx hb dX7_wholeValue_49 (lv_at hl 5 rfl) ?_
            refine lv_iconst (v := 5) hx hb dX7_wholeValue_51 (by decide) ?_
            refine cr_X7_33 C hJ (rest := [.int xb]) (cm_of hE hR i 5 (by omega) (by decide) (rfl)) dX7_wholeValue_52 hl.1 ⟨Nat.le_of_ble_eq_true rfl, Nat.le_of_ble_eq_true rfl⟩ ⟨Nat.le_refl _, Nat.le_refl _⟩ (Nat.le_of_ble_eq_true rfl) rfl rfl ?_
            refine lv_iconst (v := (-1)) hx hb dX7_wholeValue_55 (by decide) ?_
            refine lv_icmp_eq (tgt := 63) hx hb dX7_wholeValue_56 (by decide) (fun c_56 => ?_) (fun c_56 => ?_)
            · skip
              have hvb : (if (gof n mm) (nI i) 5 = -1 then (0 : Int32) else 1) = 0 := if_pos ((g_in hn hlt 5).trans c_56)
              refine lv_iconst (v := 0) hx hb dX7_wholeValue_63 (by decide) ?_
              refine lv_iadd hx hb dX7_wholeValue_64 ?_
              refine lv_istore_n (lv' := [(3, .int (xb + 0)), (2, .int (xa + 0)), (0, .ref (gA E 84)), (1, .int (nI w)), (4, .int xc), (5, .int (nI i))]) hx hb dX7_wholeValue_65 rfl hl (by decide) rfl (fun ls hl => ?_)
              refine lv_iload hx hb dX7_wholeValue_66 (lv_at hl 4 rfl) ?_
              refine lv_aload_n hx hb dX7_wholeValue_68 rfl (lv_at hl 2 rfl) ?_
              refine lv_iload hx hb dX7_wholeValue_69 (lv_at hl 5 rfl) ?_
              refine cr_X7_104 C hJ (rest := [.int xc]) (cm_isTaken hE hR hM i (by omega) (rfl)) dX7_wholeValue_71 hl.1 ⟨Nat.le_of_ble_eq_true rfl, Nat.le_of_ble_eq_true rfl⟩ ⟨Nat.le_refl _, Nat.le_refl _⟩ (Nat.le_of_ble_eq_true rfl) rfl rfl ?_
              refine lv_if_eq (tgt := 81) hx hb dX7_wholeValue_74 (by decide) (fun c_74 => ?_) (fun c_74 => ?_)
              · skip
                have hvc : (if f_take (gof n mm) (nI i) = 0 then (0 : Int32) else 1) = 0 := if_pos c_74
                refine lv_iconst (v := 0) hx hb dX7_wholeValue_81 (by decide) ?_
                refine lv_iadd hx hb dX7_wholeValue_82 ?_
                refine lv_istore (lv' := [(4, .int (xc + 0)), (3, .int (xb + 0)), (2, .int (xa + 0)), (0, .ref (gA E 84)), (1, .int (nI w)), (5, .int (nI i))]) hx hb dX7_wholeValue_83 hl (by decide) rfl (fun ls hl => ?_)
                refine lv_iinc (v := nI (i + 1)) (lv' := [(5, .int (nI (i + 1))), (4, .int (xc + 0)), (3, .int (xb + 0)), (2, .int (xa + 0)), (0, .ref (gA E 84)), (1, .int (nI w))]) hx hb dX7_wholeValue_85 hl (k := 5) rfl (by exact nI_1 i) (by decide) rfl (fun ls hl => ?_)
                refine lv_goto (tgt := 10) hx hb dX7_wholeValue_88 (by decide) ?_
                exact ih_lp (i + 1) _ _ _ _ (by omega) (by omega) (sI_u ea hva) (sI_u eb hvb) (sI_u ec hvc) hJ (lv_sub hl [4, 5, 3, 2, 1, 0] rfl)
              · skip
                have hvc : (if f_take (gof n mm) (nI i) = 0 then (0 : Int32) else 1) = 1 := if_neg c_74
                refine lv_iconst (v := 1) hx hb dX7_wholeValue_77 (by decide) ?_
                refine lv_goto (tgt := 82) hx hb dX7_wholeValue_78 (by decide) ?_
                refine lv_iadd hx hb dX7_wholeValue_82 ?_
                refine lv_istore (lv' := [(4, .int (xc + 1)), (3, .int (xb + 0)), (2, .int (xa + 0)), (0, .ref (gA E 84)), (1, .int (nI w)), (5, .int (nI i))]) hx hb dX7_wholeValue_83 hl (by decide) rfl (fun ls hl => ?_)
                refine lv_iinc (v := nI (i + 1)) (lv' := [(5, .int (nI (i + 1))), (4, .int (xc + 1)), (3, .int (xb + 0)), (2, .int (xa + 0)), (0, .ref (gA E 84)), (1, .int (nI w))]) hx hb dX7_wholeValue_85 hl (k := 5) rfl (by exact nI_1 i) (by decide) rfl (fun ls hl => ?_)
                refine lv_goto (tgt := 10) hx hb dX7_wholeValue_88 (by decide) ?_
                exact ih_lp (i + 1) _ _ _ _ (by omega) (by omega) (sI_u ea hva) (sI_u eb hvb) (sI_u ec hvc) hJ (lv_sub hl [4, 5, 3, 2, 1, 0] rfl)
            · skip
              have hvb : (if (gof n mm) (nI i) 5 = -1 then (0 : Int32) else 1) = 1 := if_neg (fun y => c_56 ((g_in hn hlt 5).symm.trans y))
              refine lv_iconst (v := 1) hx hb dX7_wholeValue_59 (by decide) ?_
              refine lv_goto (tgt := 64) hx hb dX7_wholeValue_60 (by decide) ?_
              refine lv_iadd hx hb dX7_wholeValue_64 ?_
              refine lv_istore_n (lv' := [(3, .int (xb + 1)), (2, .int (xa + 0)), (0, .ref (gA E 84)), (1, .int (nI w)), (4, .int xc), (5, .int (nI i))]) hx hb dX7_wholeValue_65 rfl hl (by decide) rfl (fun ls hl => ?_)
              refine lv_iload hx hb dX7_wholeValue_66 (lv_at hl 4 rfl) ?_
              refine lv_aload_n hx hb dX7_wholeValue_68 rfl (lv_at hl 2 rfl) ?_
              refine lv_iload hx hb dX7_wholeValue_69 (lv_at hl 5 rfl) ?_
              refine cr_X7_104 C hJ (rest := [.int xc]) (cm_isTaken hE hR hM i (by omega) (rfl)) dX7_wholeValue_71 hl.1 ⟨Nat.le_of_ble_eq_true rfl, Nat.le_of_ble_eq_true rfl⟩ ⟨Nat.le_refl _, Nat.le_refl _⟩ (Nat.le_of_ble_eq_true rfl) rfl rfl ?_
              refine lv_if_eq (tgt := 81) hx hb dX7_wholeValue_74 (by decide) (fun c_74 => ?_) (fun c_74 => ?_)
              · skip
                have hvc : (if f_take (gof n mm) (nI i) = 0 then (0 : Int32) else 1) = 0 := if_pos c_74
                refine lv_iconst (v := 0) hx hb dX7_wholeValue_81 (by decide) ?_
                refine lv_iadd hx hb dX7_wholeValue_82 ?_
                refine lv_istore (lv' := [(4, .int (xc + 0)), (3, .int (xb + 1)), (2, .int (xa + 0)), (0, .ref (gA E 84)), (1, .int (nI w)), (5, .int (nI i))]) hx hb dX7_wholeValue_83 hl (by decide) rfl (fun ls hl => ?_)
                refine lv_iinc (v := nI (i + 1)) (lv' := [(5, .int (nI (i + 1))), (4, .int (xc + 0)), (3, .int (xb + 1)), (2, .int (xa + 0)), (0, .ref (gA E 84)), (1, .int (nI w))]) hx hb dX7_wholeValue_85 hl (k := 5) rfl (by exact nI_1 i) (by decide) rfl (fun ls hl => ?_)
                refine lv_goto (tgt := 10) hx hb dX7_wholeValue_88 (by decide) ?_
                exact ih_lp (i + 1) _ _ _ _ (by omega) (by omega) (sI_u ea hva) (sI_u eb hvb) (sI_u ec hvc) hJ (lv_sub hl [4, 5, 3, 2, 1, 0] rfl)
              · skip
                have hvc : (if f_take (gof n mm) (nI i) = 0 then (0 : Int32) else 1) = 1 := if_neg c_74
                refine lv_iconst (v := 1) hx hb dX7_wholeValue_77 (by decide) ?_
                refine lv_goto (tgt := 82) hx hb dX7_wholeValue_78 (by decide) ?_
                refine lv_iadd hx hb dX7_wholeValue_82 ?_
                refine lv_istore (lv' := [(4, .int (xc + 1)), (3, .int (xb + 1)), (2, .int (xa + 0)), (0, .ref (gA E 84)), (1, .int (nI w)), (5, .int (nI i))]) hx hb dX7_wholeValue_83 hl (by decide) rfl (fun ls hl => ?_)
                refine lv_iinc (v := nI (i + 1)) (lv' := [(5, .int (nI (i + 1))), (4, .int (xc + 1)), (3, .int (xb + 1)), (2, .int (xa + 0)), (0, .ref (gA E 84)), (1, .int (nI w))]) hx hb dX7_wholeValue_85 hl (k := 5) rfl (by exact nI_1 i) (by decide) rfl (fun ls hl => ?_)
                refine lv_goto (tgt := 10) hx hb dX7_wholeValue_88 (by decide) ?_
                exact ih_lp (i + 1) _ _ _ _ (by omega) (by omega) (sI_u ea hva) (sI_u eb hvb) (sI_u ec hvc) hJ (lv_sub hl [4, 5, 3, 2, 1, 0] rfl)
          · skip
            have hva : (if i + 1 < n ∧ f_hind (gof n mm) (nI i) = 0 then (1 : Int32) else 0) = 1 := if_pos ⟨hP, c_37⟩
            refine lv_iconst (v := 1) hx hb dX7_wholeValue_40 (by decide) ?_
            refine lv_goto (tgt := 45) hx hb dX7_wholeValue_41 (by decide) ?_
            refine lv_iadd hx hb dX7_wholeValue_45 ?_
            refine lv_istore_n (lv' := [(2, .int (xa + 1)), (0, .ref (gA E 84)), (1, .int (nI w)), (3, .int xb), (4, .int xc), (5, .int (nI i))]) hx hb dX7_wholeValue_46 rfl hl (by decide) rfl (fun ls hl => ?_)
            refine lv_iload_n hx hb dX7_wholeValue_47 rfl (lv_at hl 3 rfl) ?_
            refine lv_aload_n hx hb dX7_wholeValue_48 rfl (lv_at hl 1 rfl) ?_
            refine lv_iload hx hb dX7_wholeValue_49 (lv_at hl 5 rfl) ?_
            refine lv_iconst (v := 5) hx hb dX7_wholeValue_51 (by decide) ?_
            refine cr_X7_33 C hJ (rest := [.int xb]) (cm_of hE hR i 5 (by omega) (by decide) (rfl)) dX7_wholeValue_52 hl.1 ⟨Nat.le_of_ble_eq_true rfl, Nat.le_of_ble_eq_true rfl⟩ ⟨Nat.le_refl _, Nat.le_refl _⟩ (Nat.le_of_ble_eq_true rfl) rfl rfl ?_
            refine lv_iconst (v := (-1)) hx hb dX7_wholeValue_55 (by decide) ?_
            refine lv_icmp_eq (tgt := 63) hx hb dX7_wholeValue_56 (by decide) (fun c_56 => ?_) (fun c_56 => ?_)
            · skip
              have hvb : (if (gof n mm) (nI i) 5 = -1 then (0 : Int32) else 1) = 0 := if_pos ((g_in hn hlt 5).trans c_56)
              refine lv_iconst (v := 0) hx hb dX7_wholeValue_63 (by decide) ?_
              refine lv_iadd hx hb dX7_wholeValue_64 ?_
              refine lv_istore_n (lv' := [(3, .int (xb + 0)), (2, .int (xa + 1)), (0, .ref (gA E 84)), (1, .int (nI w)), (4, .int xc), (5, .int (nI i))]) hx hb dX7_wholeValue_65 rfl hl (by decide) rfl (fun ls hl => ?_)
              refine lv_iload hx hb dX7_wholeValue_66 (lv_at hl 4 rfl) ?_
              refine lv_aload_n hx hb dX7_wholeValue_68 rfl (lv_at hl 2 rfl) ?_
              refine lv_iload hx hb dX7_wholeValue_69 (lv_at hl 5 rfl) ?_
              refine cr_X7_104 C hJ (rest := [.int xc]) (cm_isTaken hE hR hM i (by omega) (rfl)) dX7_wholeValue_71 hl.1 ⟨Nat.le_of_ble_eq_true rfl, Nat.le_of_ble_eq_true rfl⟩ ⟨Nat.le_refl _, Nat.le_refl _⟩ (Nat.le_of_ble_eq_true rfl) rfl rfl ?_
              refine lv_if_eq (tgt := 81) hx hb dX7_wholeValue_74 (by decide) (fun c_74 => ?_) (fun c_74 => ?_)
              · skip
                have hvc : (if f_take (gof n mm) (nI i) = 0 then (0 : Int32) else 1) = 0 := if_pos c_74
                refine lv_iconst (v := 0) hx hb dX7_wholeValue_81 (by decide) ?_
                refine lv_iadd hx hb dX7_wholeValue_82 ?_
                refine lv_istore (lv' := [(4, .int (xc + 0)), (3, .int (xb + 0)), (2, .int (xa + 1)), (0, .ref (gA E 84)), (1, .int (nI w)), (5, .int (nI i))]) hx hb dX7_wholeValue_83 hl (by decide) rfl (fun ls hl => ?_)
                refine lv_iinc (v := nI (i + 1)) (lv' := [(5, .int (nI (i + 1))), (4, .int (xc + 0)), (3, .int (xb + 0)), (2, .int (xa + 1)), (0, .ref (gA E 84)), (1, .int (nI w))]) hx hb dX7_wholeValue_85 hl (k := 5) rfl (by exact nI_1 i) (by decide) rfl (fun ls hl => ?_)
                refine lv_goto (tgt := 10) hx hb dX7_wholeValue_88 (by decide) ?_
                exact ih_lp (i + 1) _ _ _ _ (by omega) (by omega) (sI_u ea hva) (sI_u eb hvb) (sI_u ec hvc) hJ (lv_sub hl [4, 5, 3, 2, 1, 0] rfl)
              · skip
                have hvc : (if f_take (gof n mm) (nI i) = 0 then (0 : Int32) else 1) = 1 := if_neg c_74
                refine lv_iconst (v := 1) hx hb dX7_wholeValue_77 (by decide) ?_
                refine lv_goto (tgt := 82) hx hb dX7_wholeValue_78 (by decide) ?_
                refine lv_iadd hx hb dX7_wholeValue_82 ?_
                refine lv_istore (lv' := [(4, .int (xc + 1)), (3, .int (xb + 0)), (2, .int (xa + 1)), (0, .ref (gA E 84)), (1, .int (nI w)), (5, .int (nI i))]) hx hb dX7_wholeValue_83 hl (by decide) rfl (fun ls hl => ?_)
                refine lv_iinc (v := nI (i + 1)) (lv' := [(5, .int (nI (i + 1))), (4, .int (xc + 1)), (3, .int (xb + 0)), (2, .int (xa + 1)), (0, .ref (gA E 84)), (1, .int (nI w))]) hx hb dX7_wholeValue_85 hl (k := 5) rfl (by exact nI_1 i) (by decide) rfl (fun ls hl => ?_)
                refine lv_goto (tgt := 10) hx hb dX7_wholeValue_88 (by decide) ?_
                exact ih_lp (i + 1) _ _ _ _ (by omega) (by omega) (sI_u ea hva) (sI_u eb hvb) (sI_u ec hvc) hJ (lv_sub hl [4, 5, 3, 2, 1, 0] rfl)
            · skip
              have hvb : (if (gof n mm) (nI i) 5 = -1 then (0 : Int32) else 1) = 1 := if_neg (fun y => c_56 ((g_in hn hlt 5).symm.trans y))
              refine lv_iconst (v := 1) hx hb dX7_wholeValue_59 (by decide) ?_
              refine lv_goto (tgt := 64) hx hb dX7_wholeValue_60 (by decide) ?_
              refine lv_iadd hx hb dX7_wholeValue_64 ?_
              refine lv_istore_n (lv' := [(3, .int (xb + 1)), (2, .int (xa + 1)), (0, .ref (gA E 84)), (1, .int (nI w)), (4, .int xc), (5, .int (nI i))]) hx hb dX7_wholeValue_65 rfl hl (by decide) rfl (fun ls hl => ?_)
              refine lv_iload hx hb dX7_wholeValue_66 (lv_at hl 4 rfl) ?_
              refine lv_aload_n hx hb dX7_wholeValue_68 rfl (lv_at hl 2 rfl) ?_
              refine lv_iload hx hb dX7_wholeValue_69 (lv_at hl 5 rfl) ?_
              refine cr_X7_104 C hJ (rest := [.int xc]) (cm_isTaken hE hR hM i (by omega) (rfl)) dX7_wholeValue_71 hl.1 ⟨Nat.le_of_ble_eq_true rfl, Nat.le_of_ble_eq_true rfl⟩ ⟨Nat.le_refl _, Nat.le_refl _⟩ (Nat.le_of_ble_eq_true rfl) rfl rfl ?_
              refine lv_if_eq (tgt := 81) hx hb dX7_wholeValue_74 (by decide) (fun c_74 => ?_) (fun c_74 => ?_)
              · skip
                have hvc : (if f_take (gof n mm) (nI i) = 0 then (0 : Int32) else 1) = 0 := if_pos c_74
                refine lv_iconst (v := 0) hx hb dX7_wholeValue_81 (by decide) ?_
                refine lv_iadd hx hb dX7_wholeValue_82 ?_
                refine lv_istore (lv' := [(4, .int (xc + 0)), (3, .int (xb + 1)), (2, .int (xa + 1)), (0, .ref (gA E 84)), (1, .int (nI w)), (5, .int (nI i))]) hx hb dX7_wholeValue_83 hl (by decide) rfl (fun ls hl => ?_)
                refine lv_iinc (v := nI (i + 1)) (lv' := [(5, .int (nI (i + 1))), (4, .int (xc + 0)), (3, .int (xb + 1)), (2, .int (xa + 1)), (0, .ref (gA E 84)), (1, .int (nI w))]) hx hb dX7_wholeValue_85 hl (k := 5) rfl (by exact nI_1 i) (by decide) rfl (fun ls hl => ?_)
                refine lv_goto (tgt := 10) hx hb dX7_wholeValue_88 (by decide) ?_
                exact ih_lp (i + 1) _ _ _ _ (by omega) (by omega) (sI_u ea hva) (sI_u eb hvb) (sI_u ec hvc) hJ (lv_sub hl [4, 5, 3, 2, 1, 0] rfl)
              · skip
                have hvc : (if f_take (gof n mm) (nI i) = 0 then (0 : Int32) else 1) = 1 := if_neg c_74
                refine lv_iconst (v := 1) hx hb dX7_wholeValue_77 (by decide) ?_
                refine lv_goto (tgt := 82) hx hb dX7_wholeValue_78 (by decide) ?_
                refine lv_iadd hx hb dX7_wholeValue_82 ?_
                refine lv_istore (lv' := [(4, .int (xc + 1)), (3, .int (xb + 1)), (2, .int (xa + 1)), (0, .ref (gA E 84)), (1, .int (nI w)), (5, .int (nI i))]) hx hb dX7_wholeValue_83 hl (by decide) rfl (fun ls hl => ?_)
                refine lv_iinc (v := nI (i + 1)) (lv' := [(5, .int (nI (i + 1))), (4, .int (xc + 1)), (3, .int (xb + 1)), (2, .int (xa + 1)), (0, .ref (gA E 84)), (1, .int (nI w))]) hx hb dX7_wholeValue_85 hl (k := 5) rfl (by exact nI_1 i) (by decide) rfl (fun ls hl => ?_)
                refine lv_goto (tgt := 10) hx hb dX7_wholeValue_88 (by decide) ?_
                exact ih_lp (i + 1) _ _ _ _ (by omega) (by omega) (sI_u ea hva) (sI_u eb hvb) (sI_u ec hvc) hJ (lv_sub hl [4, 5, 3, 2, 1, 0] rfl)
  exact lp (n + 1) 0 0 0 0 _ (Nat.zero_le _) (by omega) rfl rfl rfl hJ (lv_sub hl [4, 5, 3, 2, 1, 0] rfl)
set_option maxHeartbeats 4000000 in
set_option maxRecDepth 100000 in
theorem c_X7_whole {l : Launch} {E : GE} (hE : Env0 E) {S : ST} {n : Nat} {z : Nat → Int32} {mm : Nat → Nat → Int32} {mc : Nat} {sv : Nat → LVt} (hI : MI S (n, z, mm) mc sv) (p0 : Int32) (hV : VOk n mm) {u_n : Nat} (hL : (sM S).1 4 = nI u_n) : MW l E yX7_whole cX7_whole 2 (some .int) 5 111 S [.ref (gA E 84), .int p0] (fun v S1 => MP S S1 v (if f_in p0 0 13 = true then (0 : Int32) else 1) (f_whole n z mm u_n p0.toNatClampNeg) (n, z, mm) mc sv (n, z, mm) mc sv) := by
  have hM : MmOk n mm := hI.2.1
  have hn : n ≤ 10 := hI.1.n10
  refine MW.of hE (by decide) (Nat.le_of_ble_eq_true rfl) ?_
  intro p e s m below meth c ls C hJ hr hl
  have hx := C.x
  have hb := C.b
  have hl : lv_has ls 2 [(0, .ref (gA E 84)), (1, .int p0)] := hl
  refine lv_aload_n hx hb dX7_whole_0 rfl (lv_at hl 0 rfl) ?_
  refine lv_iload_n hx hb dX7_whole_1 rfl (lv_at hl 1 rfl) ?_
  refine lv_iconst (v := 0) hx hb dX7_whole_2 (by decide) ?_
  refine lv_bipush (v := 13) hx hb dX7_whole_3 (by decide) ?_
  refine cr_X7_37 C hJ (rest := [.ref (gA E 84)]) (c_X7_in hE p0 0 13) dX7_whole_5 hl.1 ⟨Nat.le_of_ble_eq_true rfl, Nat.le_of_ble_eq_true rfl⟩ ⟨Nat.le_refl _, Nat.le_refl _⟩ (Nat.le_of_ble_eq_true rfl) rfl rfl ?_
  refine lv_if_eq (tgt := 15) hx hb dX7_whole_8 (by decide) (fun c_8 => ?_) (fun c_8 => ?_)
  · skip
    have q7 := bI_0 c_8
    have hF : (if f_in p0 0 13 = true then (0 : Int32) else 1) = 1 := if_neg (by rw [q7]; decide)
    refine lv_iconst (v := 1) hx hb dX7_whole_15 (by decide) ?_
    refine cw_X7_56 C hJ (rest := []) (cm_refuse hE hI 1) dX7_whole_16 hl.1 ⟨Nat.le_of_ble_eq_true rfl, Nat.le_of_ble_eq_true rfl⟩ ⟨Nat.le_refl _, Nat.le_refl _⟩ (Nat.le_of_ble_eq_true rfl) rfl rfl (fun vr S_16 H locs hP hJ => ?_)
    obtain ⟨rfl, hI_16, hK_16, ht_16⟩ := hP
    refine lv_if_eq (tgt := 24) hx hb dX7_whole_19 (by decide) (fun c_19 => ?_) (fun c_19 => ?_)
    · skip
      exact absurd c_19 (by decide)
    · skip
      refine lv_iconst (v := 0) hx hb dX7_whole_22 (by decide) ?_
      exact rW_i C hJ hr rfl (MP.bad (by rw [hF]; decide) hI_16 hK_16 (by rw [hF]; exact ht_16)) dX7_whole_23
  · skip
    have q7 := bI_1 c_8
    have hF : (if f_in p0 0 13 = true then (0 : Int32) else 1) = 0 := if_pos q7
    have hw9 := f_in_w (u_n := 13) rfl (by decide) q7
    refine lv_iconst (v := 0) hx hb dX7_whole_11 (by decide) ?_
    refine lv_goto (tgt := 16) hx hb dX7_whole_12 (by decide) ?_
    refine cw_X7_56 C hJ (rest := []) (cm_refuse hE hI 0) dX7_whole_16 hl.1 ⟨Nat.le_of_ble_eq_true rfl, Nat.le_of_ble_eq_true rfl⟩ ⟨Nat.le_refl _, Nat.le_refl _⟩ (Nat.le_of_ble_eq_true rfl) rfl rfl (fun vr S_16 H locs hP hJ => ?_)
    obtain ⟨rfl, hI_16, hK_16, ht_16⟩ := hP
    refine lv_if_eq (tgt := 24) hx hb dX7_whole_19 (by decide) (fun c_19 => ?_) (fun c_19 => ?_)
    · skip
      refine lv_aload_n hx hb dX7_whole_24 rfl (lv_at hl 0 rfl) ?_
      refine lv_iload_n hx hb dX7_whole_25 rfl (lv_at hl 1 rfl) ?_
      refine cw_X7_155 C hJ (rest := []) ((show MW l E yX7_wholeValue cX7_wholeValue 6 (some .int) 4 86 S_16 [.ref (gA E 84), .int p0] (fun v S1 => v = some (.int (f_whole n z mm u_n p0.toNatClampNeg)) ∧ RB S_16 S1) by have y := c_X7_wholeValue (l := l) hE hI_16.1 hM hV (hK_16.2.2.2.1 4 (by decide) (by decide) |>.trans hL) p0.toNatClampNeg (by omega); rw [← hw9.2] at y; exact y)) dX7_whole_26 hl.1 ⟨Nat.le_of_ble_eq_true rfl, Nat.le_of_ble_eq_true rfl⟩ ⟨Nat.le_refl _, Nat.le_refl _⟩ (Nat.le_of_ble_eq_true rfl) rfl rfl (fun vr S_26 H locs hP hJ => ?_)
      obtain ⟨rfl, hb_26⟩ := hP
      have hI_26 := hI_16.rb hb_26
      have hK_26 := hK_16.t hb_26.km
      have ht_26 := (congrFun hb_26.2.2.2.1 2).trans ht_16
      exact rW_i C hJ hr rfl (MP.ok hF rfl hI_26 hK_26 (by rw [hF]; exact ht_26)) dX7_whole_29
    · skip
      exact absurd (show (if (0 : Int32) = 0 then (0 : Int32) else 1) = 0 by decide) c_19
set_option maxHeartbeats 4000000 in
set_option maxRecDepth 100000 in
theorem c_X7_digest {l : Launch} {E : GE} (hE : Env0 E) {S : ST} {n : Nat} {z : Nat → Int32} {mm : Nat → Nat → Int32} {mc : Nat} {sv : Nat → LVt} (hI : MI S (n, z, mm) mc sv) (hV : VOk n mm) {u_n : Nat} (hL : (sM S).1 4 = nI u_n) : MW l E yX7_digest cX7_digest 5 (some .long) 5 111 S [.ref (gA E 84)] (fun v S1 => v = some (.long (f_dig n z mm u_n mc)) ∧ MI S1 (n, z, mm) mc sv ∧ KM S S1 ∧ (sM S1).1 2 = 0) := by
  have hM : MmOk n mm := hI.2.1
  have hn : n ≤ 10 := hI.1.n10
  refine MW.of hE (by decide) (Nat.le_of_ble_eq_true rfl) ?_
  intro p e s m below meth c ls C hJ hr hl
  have hx := C.x
  have hb := C.b
  have hl : lv_has ls 5 [(0, .ref (gA E 84))] := hl
  refine lv_aload_n hx hb dX7_digest_0 rfl (lv_at hl 0 rfl) ?_
  refine lv_iconst (v := 0) hx hb dX7_digest_1 (by decide) ?_
  refine p_X7_22 C hJ dX7_digest_2 (fun H locs hJ => ?_)
  obtain ⟨S_2, hS_2⟩ : ∃ z : ST, z = setM S (mMs (sM S) 2 0) := ⟨_, rfl⟩
  rw [← hS_2] at hJ
  have hI_2 : MI S_2 (n, z, mm) mc sv := by rw [hS_2]; exact hI.th 0
  have hK_2 : KM S S_2 := by rw [hS_2]; exact KM.th
  have ht_2 : (sM S_2).1 2 = 0 := by rw [hS_2]; rfl
  refine lv_ldc2 hx hb C.ow (C.ts _ kl_X7_234) dX7_digest_5 ?_
  refine lv_aload_n hx hb dX7_digest_8 rfl (lv_at hl 0 rfl) ?_
  refine g_X7_26 C hJ dX7_digest_9 ?_
  refine lv_i2l (v := ((sM S_2).1 1).toInt64) hx hb dX7_digest_12 rfl ?_
  refine lv_ladd hx hb dX7_digest_13 ?_
  refine lv_lstore_n (lv' := [(1, .long (1359102 + (((sM S_2).1 1).toInt64))), (0, .ref (gA E 84))]) hx hb dX7_digest_14 rfl hl (by decide) rfl (fun ls hl => ?_)
  refine lv_iconst (v := 0) hx hb dX7_digest_15 (by decide) ?_
  refine lv_istore_n (lv' := [(3, .int 0), (1, .long (1359102 + (((sM S_2).1 1).toInt64))), (0, .ref (gA E 84))]) hx hb dX7_digest_16 rfl hl (by decide) rfl (fun ls hl => ?_)
  have lp : ∀ (d : Nat) (i : Nat) (xa : Int64) (T : ST) (H : Heap) (locs : List Loc) (ls : Array Slot), (i ≤ 14) → (14 < i + d) → (xa = dI (fun w => f_whole n z mm u_n w) i (1359102 + (nI mc).toInt64)) → (MI T (n, z, mm) mc sv) → (KM S T) → ((sM T).1 2 = 0) → JJ E T H locs → lv_has ls 5 [(0, .ref (gA E 84)), (1, .long xa), (3, .int (nI i))] → W p l e (rmZ 5 111) s m ([.ref (gA E 84)] : List Value).toArray below meth c H locs 0 0 (WQ below ([.ref (gA E 84)] : List Value).toArray s E (fun v S1 => v = some (.long (f_dig n z mm u_n mc)) ∧ MI S1 (n, z, mm) mc sv ∧ KM S S1 ∧ (sM S1).1 2 = 0)) (F0 m 17 ls []) := by
    intro d
    induction d with
    | zero =>
      intro i xa T H locs ls hi hd ea hI7 hK7 ht7 hJ hl
      omega
    | succ d ih_lp =>
      intro i xa T H locs ls hi hd ea hI7 hK7 ht7 hJ hl
      refine lv_iload_n hx hb dX7_digest_17 rfl (lv_at hl 2 rfl) ?_
      refine lv_bipush (v := 14) hx hb dX7_digest_18 (by decide) ?_
      refine lv_icmp_ge (tgt := 42) hx hb dX7_digest_20 (by decide) (fun c_20 => ?_) (fun c_20 => ?_)
      · skip
        have e9 : i = 14 := eqOfLe (N := 14) hi (by omega) c_20
        refine lv_iconst (v := 0) hx hb dX7_digest_42 (by decide) ?_
        refine lv_istore_n (lv' := [(3, .int 0), (0, .ref (gA E 84)), (1, .long xa)]) hx hb dX7_digest_43 rfl hl (by decide) rfl (fun ls hl => ?_)
        have lqq : ∀ (d : Nat) (i : Nat) (xa : Int64) (ls : Array Slot), (i ≤ n) → (n < i + d) → (xa = f_dm (gof n mm) i (dI (fun w => f_whole n z mm u_n w) 14 (1359102 + (nI mc).toInt64))) → JJ E T H locs → lv_has ls 5 [(0, .ref (gA E 84)), (1, .long xa), (3, .int (nI i))] → W p l e (rmZ 5 111) s m ([.ref (gA E 84)] : List Value).toArray below meth c H locs 0 0 (WQ below ([.ref (gA E 84)] : List Value).toArray s E (fun v S1 => v = some (.long (f_dig n z mm u_n mc)) ∧ MI S1 (n, z, mm) mc sv ∧ KM S S1 ∧ (sM S1).1 2 = 0)) (F0 m 44 ls []) := by
          intro d
          induction d with
          | zero =>
            intro i xa ls hi hd2 ea hJ hl
            omega
          | succ d ih_lqq =>
            intro i xa ls hi hd2 ea hJ hl
            refine lv_iload_n hx hb dX7_digest_44 rfl (lv_at hl 2 rfl) ?_
            refine lv_aload_n hx hb dX7_digest_45 rfl (lv_at hl 0 rfl) ?_
            refine g_X7_7 C hJ dX7_digest_46 ?_
            refine lv_iconst (v := 0) hx hb dX7_digest_49 (by decide) ?_
            refine a_ro C hJ (P := 0) (rfl) (by decide) dX7_digest_50 ?_
            refine lv_icmp_ge (tgt := 105) hx hb dX7_digest_51 (by decide) (fun c_51 => ?_) (fun c_51 => ?_)
            · skip
              have e9 : i = n := eqOfLe hi (by omega) (by have q := c_51; rw [hI7.1.many] at q; exact q)
              refine lv_iconst (v := 0) hx hb dX7_digest_105 (by decide) ?_
              refine lv_istore_n (lv' := [(3, .int 0), (0, .ref (gA E 84)), (1, .long xa)]) hx hb dX7_digest_106 rfl hl (by decide) rfl (fun ls hl => ?_)
              have lss : ∀ (d : Nat) (i : Nat) (xa : Int64) (ls : Array Slot), (i ≤ n - 1) → (n - 1 < i + d) → (xa = f_dp (gof n mm) (z 3) i (f_dm (gof n mm) n (dI (fun w => f_whole n z mm u_n w) 14 (1359102 + (nI mc).toInt64)))) → JJ E T H locs → lv_has ls 5 [(0, .ref (gA E 84)), (1, .long xa), (3, .int (nI i))] → W p l e (rmZ 5 111) s m ([.ref (gA E 84)] : List Value).toArray below meth c H locs 0 0 (WQ below ([.ref (gA E 84)] : List Value).toArray s E (fun v S1 => v = some (.long (f_dig n z mm u_n mc)) ∧ MI S1 (n, z, mm) mc sv ∧ KM S S1 ∧ (sM S1).1 2 = 0)) (F0 m 107 ls []) := by
                intro d
                induction d with
                | zero =>
                  intro i xa ls hi hd4 ea hJ hl
                  omega
                | succ d ih_lss =>
                  intro i xa ls hi hd4 ea hJ hl
                  refine lv_aload_n hx hb dX7_digest_107 rfl (lv_at hl 0 rfl) ?_
                  refine lv_iload_n hx hb dX7_digest_108 rfl (lv_at hl 2 rfl) ?_
                  refine cr_X7_101 C hJ (rest := []) (c_X7_isPair hE hI7.1 (nI i)) dX7_digest_109 hl.1 ⟨Nat.le_of_ble_eq_true rfl, Nat.le_of_ble_eq_true rfl⟩ ⟨Nat.le_refl _, Nat.le_refl _⟩ (Nat.le_of_ble_eq_true rfl) rfl rfl ?_
                  refine lv_if_eq (tgt := 164) hx hb dX7_digest_112 (by decide) (fun c_112 => ?_) (fun c_112 => ?_)
                  · skip
                    have q5 := bI_0 c_112
                    have e9 : i = n - 1 := by
                      have hend : ¬ i + 1 < n := fun q => by rw [(f_in_pair hn).mpr ⟨i, q, rfl⟩] at q5; exact absurd q5 (by decide)
                      omega
                    refine lv_ldc2 hx hb C.ow (C.ts _ kl_X7_236) dX7_digest_164 ?_
                    refine lv_lload_n hx hb dX7_digest_167 rfl (lv_at hl 1 rfl) ?_
                    refine lv_lmul hx hb dX7_digest_168 ?_
                    refine lv_aload_n hx hb dX7_digest_169 rfl (lv_at hl 0 rfl) ?_
                    refine cw_X7_238 C hJ (rest := [.long (31 * xa)]) (c_X7_disorder hE hI7.1) dX7_digest_170 hl.1 ⟨Nat.le_of_ble_eq_true rfl, Nat.le_of_ble_eq_true rfl⟩ ⟨Nat.le_refl _, Nat.le_refl _⟩ (Nat.le_of_ble_eq_true rfl) rfl rfl (fun vr S_170 H locs hP hJ => ?_)
                    obtain ⟨rfl, e_170⟩ := hP
                    have hI_170 : MI S_170 (n, z, mm) mc sv := by rw [e_170]; exact hI7.th 0
                    have hK_170 : KM S S_170 := hK7.t (by rw [e_170]; exact KM.th)
                    have ht_170 : (sM S_170).1 2 = 0 := by rw [e_170]; rfl
                    refine lv_i2l (v := (f_wrong (gof n mm) n).toInt64) hx hb dX7_digest_173 rfl ?_
                    refine lv_ladd hx hb dX7_digest_174 ?_
                    exact rW_l C hJ hr (⟨by rw [ea, e9]; rfl, hI_170, hK_170, ht_170⟩) dX7_digest_175
                  · skip
                    have q5 := bI_1 c_112
                    have hP : i + 1 < n := by
                      obtain ⟨Q, hQ, eQ⟩ := (f_in_pair hn).mp q5
                      have := (nI_eq (by omega) (by omega)).mp eQ
                      omega
                    refine lv_iconst (v := 0) hx hb dX7_digest_115 (by decide) ?_
                    refine lv_istore (lv' := [(4, .int 0), (0, .ref (gA E 84)), (1, .long xa), (3, .int (nI i))]) hx hb dX7_digest_116 hl (by decide) rfl (fun ls hl => ?_)
                    have ltt : ∀ (d : Nat) (j : Nat) (xb : Int64) (ls : Array Slot), (j ≤ 5) → (5 < j + d) → (xb = dI (fun w => f_pval (gof n mm) (z 3) (nI i) w) j xa) → JJ E T H locs → lv_has ls 5 [(0, .ref (gA E 84)), (1, .long xb), (3, .int (nI i)), (4, .int (nI j))] → W p l e (rmZ 5 111) s m ([.ref (gA E 84)] : List Value).toArray below meth c H locs 0 0 (WQ below ([.ref (gA E 84)] : List Value).toArray s E (fun v S1 => v = some (.long (f_dig n z mm u_n mc)) ∧ MI S1 (n, z, mm) mc sv ∧ KM S S1 ∧ (sM S1).1 2 = 0)) (F0 m 118 ls []) := by
                      intro d
                      induction d with
                      | zero =>
                        intro j xb ls hj hd5 eb hJ hl
                        omega
                      | succ d ih_ltt =>
                        intro j xb ls hj hd5 eb hJ hl
                        refine lv_iload hx hb dX7_digest_118 (lv_at hl 3 rfl) ?_
                        refine lv_iconst (v := 5) hx hb dX7_digest_120 (by decide) ?_
                        refine lv_icmp_ge (tgt := 145) hx hb dX7_digest_121 (by decide) (fun c_121 => ?_) (fun c_121 => ?_)
                        · skip
                          have e7 : j = 5 := eqOfLe (N := 5) hj (by omega) c_121
                          rw [e7] at eb
                          refine lv_ldc2 hx hb C.ow (C.ts _ kl_X7_236) dX7_digest_145 ?_
                          refine lv_lload_n hx hb dX7_digest_148 rfl (lv_at hl 1 rfl) ?_
                          refine lv_lmul hx hb dX7_digest_149 ?_
                          refine lv_aload_n hx hb dX7_digest_150 rfl (lv_at hl 0 rfl) ?_
                          refine lv_iload_n hx hb dX7_digest_151 rfl (lv_at hl 2 rfl) ?_
                          refine cr_X7_116 C hJ (rest := [.long (31 * xb)]) (cm_reasonOf hE hI7.1 hM i hP rfl) dX7_digest_152 hl.1 ⟨Nat.le_of_ble_eq_true rfl, Nat.le_of_ble_eq_true rfl⟩ ⟨Nat.le_refl _, Nat.le_refl _⟩ (Nat.le_of_ble_eq_true rfl) rfl rfl ?_
                          refine lv_i2l (v := (f_hind (gof n mm) (nI i)).toInt64) hx hb dX7_digest_155 rfl ?_
                          refine lv_ladd hx hb dX7_digest_156 ?_
                          refine lv_lstore_n (lv' := [(1, .long ((31 * xb) + ((f_hind (gof n mm) (nI i)).toInt64))), (0, .ref (gA E 84)), (3, .int (nI i)), (4, .int (nI j))]) hx hb dX7_digest_157 rfl hl (by decide) rfl (fun ls hl => ?_)
                          refine lv_iinc (v := nI (i + 1)) (lv' := [(3, .int (nI (i + 1))), (1, .long ((31 * xb) + ((f_hind (gof n mm) (nI i)).toInt64))), (0, .ref (gA E 84)), (4, .int (nI j))]) hx hb dX7_digest_158 hl (k := 2) rfl (by exact nI_1 i) (by decide) rfl (fun ls hl => ?_)
                          refine lv_goto (tgt := 107) hx hb dX7_digest_161 (by decide) ?_
                          exact ih_lss (i + 1) _ _ (by omega) (by omega) (by rw [eb, ea]; rfl) hJ (lv_sub hl [2, 1, 0] rfl)
                        · skip
                          have hlt2 : j < 5 := ltOfNle (N := 5) (by omega) c_121
                          refine lv_ldc2 hx hb C.ow (C.ts _ kl_X7_236) dX7_digest_124 ?_
                          refine lv_lload_n hx hb dX7_digest_127 rfl (lv_at hl 1 rfl) ?_
                          refine lv_lmul hx hb dX7_digest_128 ?_
                          refine lv_aload_n hx hb dX7_digest_129 rfl (lv_at hl 0 rfl) ?_
                          refine lv_iload_n hx hb dX7_digest_130 rfl (lv_at hl 2 rfl) ?_
                          refine lv_iload hx hb dX7_digest_131 (lv_at hl 3 rfl) ?_
                          refine cr_X7_143 C hJ (rest := [.long (31 * xb)]) (c_X7_pairValue hE hI7.1 hM i hP j hlt2) dX7_digest_133 hl.1 ⟨Nat.le_of_ble_eq_true rfl, Nat.le_of_ble_eq_true rfl⟩ ⟨Nat.le_refl _, Nat.le_refl _⟩ (Nat.le_of_ble_eq_true rfl) rfl rfl ?_
                          refine lv_i2l (v := (f_pval (gof n mm) (z 3) (nI i) j).toInt64) hx hb dX7_digest_136 rfl ?_
                          refine lv_ladd hx hb dX7_digest_137 ?_
                          refine lv_lstore_n (lv' := [(1, .long ((31 * xb) + ((f_pval (gof n mm) (z 3) (nI i) j).toInt64))), (0, .ref (gA E 84)), (3, .int (nI i)), (4, .int (nI j))]) hx hb dX7_digest_138 rfl hl (by decide) rfl (fun ls hl => ?_)
                          refine lv_iinc (v := nI (j + 1)) (lv' := [(4, .int (nI (j + 1))), (1, .long ((31 * xb) + ((f_pval (gof n mm) (z 3) (nI i) j).toInt64))), (0, .ref (gA E 84)), (3, .int (nI i))]) hx hb dX7_digest_139 hl (k := 3) rfl (by exact nI_1 j) (by decide) rfl (fun ls hl => ?_)
                          refine lv_goto (tgt := 118) hx hb dX7_digest_142 (by decide) ?_
                          exact ih_ltt (j + 1) _ _ (by omega) (by omega) (by rw [eb]; rfl) hJ (lv_sub hl [2, 1, 3, 0] rfl)
                    exact ltt 6 0 _ _ (Nat.zero_le _) (by omega) rfl hJ (lv_sub hl [1, 2, 3, 0] rfl)
              exact lss (n + 1) 0 _ _ (Nat.zero_le _) (by omega) (by rw [ea, e9]; rfl) hJ (lv_sub hl [1, 2, 0] rfl)
            · skip
              have hlt : i < n := ltOfNle (by omega) (by have q := c_51; rw [hI7.1.many] at q; exact q)
              refine lv_ldc2 hx hb C.ow (C.ts _ kl_X7_236) dX7_digest_54 ?_
              refine lv_lload_n hx hb dX7_digest_57 rfl (lv_at hl 1 rfl) ?_
              refine lv_lmul hx hb dX7_digest_58 ?_
              refine lv_aload_n hx hb dX7_digest_59 rfl (lv_at hl 0 rfl) ?_
              refine lv_iload_n hx hb dX7_digest_60 rfl (lv_at hl 2 rfl) ?_
              refine lv_iconst (v := 0) hx hb dX7_digest_61 (by decide) ?_
              refine cr_X7_33 C hJ (rest := [.long (31 * xa)]) (cm_of hE hI7.1 i 0 hlt (by decide) rfl) dX7_digest_62 hl.1 ⟨Nat.le_of_ble_eq_true rfl, Nat.le_of_ble_eq_true rfl⟩ ⟨Nat.le_refl _, Nat.le_refl _⟩ (Nat.le_of_ble_eq_true rfl) rfl rfl ?_
              refine lv_i2l (v := (mm i 0).toInt64) hx hb dX7_digest_65 rfl ?_
              refine lv_ladd hx hb dX7_digest_66 ?_
              refine lv_lstore_n (lv' := [(1, .long ((31 * xa) + ((mm i 0).toInt64))), (0, .ref (gA E 84)), (3, .int (nI i))]) hx hb dX7_digest_67 rfl hl (by decide) rfl (fun ls hl => ?_)
              refine lv_iconst (v := 0) hx hb dX7_digest_68 (by decide) ?_
              refine lv_istore (lv' := [(4, .int 0), (1, .long ((31 * xa) + ((mm i 0).toInt64))), (0, .ref (gA E 84)), (3, .int (nI i))]) hx hb dX7_digest_69 hl (by decide) rfl (fun ls hl => ?_)
              have lrr : ∀ (d : Nat) (j : Nat) (xb : Int64) (ls : Array Slot), (j ≤ 10) → (10 < j + d) → (xb = dI (fun w => f_mval (gof n mm) i w) j (31 * xa + ((gof n mm) (nI i) 0).toInt64)) → JJ E T H locs → lv_has ls 5 [(0, .ref (gA E 84)), (1, .long xb), (3, .int (nI i)), (4, .int (nI j))] → W p l e (rmZ 5 111) s m ([.ref (gA E 84)] : List Value).toArray below meth c H locs 0 0 (WQ below ([.ref (gA E 84)] : List Value).toArray s E (fun v S1 => v = some (.long (f_dig n z mm u_n mc)) ∧ MI S1 (n, z, mm) mc sv ∧ KM S S1 ∧ (sM S1).1 2 = 0)) (F0 m 71 ls []) := by
                intro d
                induction d with
                | zero =>
                  intro j xb ls hj hd3 eb hJ hl
                  omega
                | succ d ih_lrr =>
                  intro j xb ls hj hd3 eb hJ hl
                  refine lv_iload hx hb dX7_digest_71 (lv_at hl 3 rfl) ?_
                  refine lv_bipush (v := 10) hx hb dX7_digest_73 (by decide) ?_
                  refine lv_icmp_ge (tgt := 99) hx hb dX7_digest_75 (by decide) (fun c_75 => ?_) (fun c_75 => ?_)
                  · skip
                    have e7 : j = 10 := eqOfLe (N := 10) hj (by omega) c_75
                    rw [e7] at eb
                    refine lv_iinc (v := nI (i + 1)) (lv' := [(3, .int (nI (i + 1))), (0, .ref (gA E 84)), (1, .long xb), (4, .int (nI j))]) hx hb dX7_digest_99 hl (k := 2) rfl (by exact nI_1 i) (by decide) rfl (fun ls hl => ?_)
                    refine lv_goto (tgt := 44) hx hb dX7_digest_102 (by decide) ?_
                    exact ih_lqq (i + 1) _ _ (by omega) (by omega) (by rw [eb, ea]; rfl) hJ (lv_sub hl [1, 2, 0] rfl)
                  · skip
                    have hlt2 : j < 10 := ltOfNle (N := 10) (by omega) c_75
                    refine lv_ldc2 hx hb C.ow (C.ts _ kl_X7_236) dX7_digest_78 ?_
                    refine lv_lload_n hx hb dX7_digest_81 rfl (lv_at hl 1 rfl) ?_
                    refine lv_lmul hx hb dX7_digest_82 ?_
                    refine lv_aload_n hx hb dX7_digest_83 rfl (lv_at hl 0 rfl) ?_
                    refine lv_iload_n hx hb dX7_digest_84 rfl (lv_at hl 2 rfl) ?_
                    refine lv_iload hx hb dX7_digest_85 (lv_at hl 3 rfl) ?_
                    refine cr_X7_140 C hJ (rest := [.long (31 * xb)]) (c_X7_memberValue hE hI7.1 hM i hlt j hlt2) dX7_digest_87 hl.1 ⟨Nat.le_of_ble_eq_true rfl, Nat.le_of_ble_eq_true rfl⟩ ⟨Nat.le_refl _, Nat.le_refl _⟩ (Nat.le_of_ble_eq_true rfl) rfl rfl ?_
                    refine lv_i2l (v := (f_mval (gof n mm) i j).toInt64) hx hb dX7_digest_90 rfl ?_
                    refine lv_ladd hx hb dX7_digest_91 ?_
                    refine lv_lstore_n (lv' := [(1, .long ((31 * xb) + ((f_mval (gof n mm) i j).toInt64))), (0, .ref (gA E 84)), (3, .int (nI i)), (4, .int (nI j))]) hx hb dX7_digest_92 rfl hl (by decide) rfl (fun ls hl => ?_)
                    refine lv_iinc (v := nI (j + 1)) (lv' := [(4, .int (nI (j + 1))), (1, .long ((31 * xb) + ((f_mval (gof n mm) i j).toInt64))), (0, .ref (gA E 84)), (3, .int (nI i))]) hx hb dX7_digest_93 hl (k := 3) rfl (by exact nI_1 j) (by decide) rfl (fun ls hl => ?_)
                    refine lv_goto (tgt := 71) hx hb dX7_digest_96 (by decide) ?_
                    exact ih_lrr (j + 1) _ _ (by omega) (by omega) (by rw [eb]; rfl) hJ (lv_sub hl [2, 1, 3, 0] rfl)
              exact lrr 11 0 _ _ (Nat.zero_le _) (by omega) (by rw [g_in hn hlt]; rfl) hJ (lv_sub hl [2, 1, 3, 0] rfl)
        exact lqq (n + 1) 0 _ _ (Nat.zero_le _) (by omega) (by rw [ea, e9]; rfl) hJ (lv_sub hl [1, 2, 0] rfl)
      · skip
        have hlt : i < 14 := ltOfNle (N := 14) (by omega) c_20
        refine lv_ldc2 hx hb C.ow (C.ts _ kl_X7_236) dX7_digest_23 ?_
        refine lv_lload_n hx hb dX7_digest_26 rfl (lv_at hl 1 rfl) ?_
        refine lv_lmul hx hb dX7_digest_27 ?_
        refine lv_aload_n hx hb dX7_digest_28 rfl (lv_at hl 0 rfl) ?_
        refine lv_iload_n hx hb dX7_digest_29 rfl (lv_at hl 2 rfl) ?_
        refine cw_X7_155 C hJ (rest := [.long (31 * xa)]) (c_X7_wholeValue hE hI7.1 hM hV ((hK7.2.2.2.1 4 (by decide) (by decide)).trans hL) i hlt) dX7_digest_30 hl.1 ⟨Nat.le_of_ble_eq_true rfl, Nat.le_of_ble_eq_true rfl⟩ ⟨Nat.le_refl _, Nat.le_refl _⟩ (Nat.le_of_ble_eq_true rfl) rfl rfl (fun vr S_30 H locs hP hJ => ?_)
        obtain ⟨rfl, hb_30⟩ := hP
        have hI_30 := hI7.rb hb_30
        have hK_30 := hK7.t hb_30.km
        have ht_30 := (congrFun hb_30.2.2.2.1 2).trans ht7
        refine lv_i2l (v := (f_whole n z mm u_n i).toInt64) hx hb dX7_digest_33 rfl ?_
        refine lv_ladd hx hb dX7_digest_34 ?_
        refine lv_lstore_n (lv' := [(1, .long ((31 * xa) + ((f_whole n z mm u_n i).toInt64))), (0, .ref (gA E 84)), (3, .int (nI i))]) hx hb dX7_digest_35 rfl hl (by decide) rfl (fun ls hl => ?_)
        refine lv_iinc (v := nI (i + 1)) (lv' := [(3, .int (nI (i + 1))), (1, .long ((31 * xa) + ((f_whole n z mm u_n i).toInt64))), (0, .ref (gA E 84))]) hx hb dX7_digest_36 hl (k := 2) rfl (by exact nI_1 i) (by decide) rfl (fun ls hl => ?_)
        refine lv_goto (tgt := 17) hx hb dX7_digest_39 (by decide) ?_
        exact ih_lp (i + 1) _ S_30 H locs _ (by omega) (by omega) (by rw [ea]; rfl) hI_30 hK_30 ht_30 hJ (lv_sub hl [2, 1, 0] rfl)
  exact lp 15 0 _ S_2 H locs _ (Nat.zero_le _) (by omega) (by rw [hI_2.2.2.2.1]; rfl) hI_2 hK_2 ht_2 hJ (lv_sub hl [2, 1, 0] rfl)
