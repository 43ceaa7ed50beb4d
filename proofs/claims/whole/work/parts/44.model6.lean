/-! MODEL: swaps (by program) -/
set_option maxHeartbeats 4000000 in
set_option maxRecDepth 100000 in
theorem c_X7_swaps {l : Launch} {E : GE} (hE : Env0 E) {S : ST} {u_r : Nat → Int32} {u_u : Nat → Nat → Int32} (hU : UZ S u_r u_u) {n : Nat} (hn0 : u_r 0 = nI n) (hn : n ≤ 10) (P : Nat) (hP0 : P + 1 < n) (p1 : Int32) : MW l E yX7_swaps cX7_swaps 5 (some .int) 1 23 S [.ref (gA E 84), .int (nI P), .int p1] (fun v S1 => v = some (.int p1) ∧ UZ S1 (upd (upd u_r 2 (u_r 2 + 1)) 3 (u_r 3 + p1)) (usw u_u n P p1) ∧ RO S S1) := by
  refine MW.of hE (by decide) (Nat.le_of_ble_eq_true rfl) ?_
  intro p e s m below meth c ls C hJ hr hl
  have hx := C.x
  have hb := C.b
  have hl : lv_has ls 5 [(0, .ref (gA E 84)), (1, .int (nI P)), (2, .int p1)] := hl
  refine lv_iconst (v := 0) hx hb dX7_swaps_0 (by decide) ?_
  refine lv_istore_n (lv' := [(3, .int 0), (0, .ref (gA E 84)), (1, .int (nI P)), (2, .int p1)]) hx hb dX7_swaps_1 rfl hl (by decide) rfl (fun ls hl => ?_)
  have lp : ∀ (d : Nat) (i : Nat) (T : ST) (H : Heap) (locs : List Loc) (ls : Array Slot), (i ≤ 7) → (7 < i + d) → (UZ T u_r (uswi u_u P i)) → (RO S T) → JJ E T H locs → lv_has ls 5 [(0, .ref (gA E 84)), (1, .int (nI P)), (2, .int p1), (3, .int (nI i))] → W p l e (rmZ 1 23) s m ([.ref (gA E 84), .int (nI P), .int p1] : List Value).toArray below meth c H locs 0 0 (WQ below ([.ref (gA E 84), .int (nI P), .int p1] : List Value).toArray s E (fun v S1 => v = some (.int p1) ∧ UZ S1 (upd (upd u_r 2 (u_r 2 + 1)) 3 (u_r 3 + p1)) (usw u_u n P p1) ∧ RO S S1)) (F0 m 2 ls []) := by
    intro d
    induction d with
    | zero =>
      intro i T H locs ls hi hd hu ho hJ hl
      omega
    | succ d ih_lp =>
      intro i T H locs ls hi hd hu ho hJ hl
      refine lv_iload_n hx hb dX7_swaps_2 rfl (lv_at hl 3 rfl) ?_
      refine lv_bipush (v := 7) hx hb dX7_swaps_3 (by decide) ?_
      refine lv_icmp_ge (tgt := 46) hx hb dX7_swaps_5 (by decide) (fun c_5 => ?_) (fun c_5 => ?_)
      · skip
        have e9 : i = 7 := eqOfLe (N := 7) hi (by omega) c_5
        rw [e9] at hu
        refine lv_aload_n hx hb dX7_swaps_46 rfl (lv_at hl 0 rfl) ?_
        refine lv_iload_n hx hb dX7_swaps_47 rfl (lv_at hl 1 rfl) ?_
        refine lv_iconst (v := 5) hx hb dX7_swaps_48 (by decide) ?_
        refine lv_iconst (v := (-1)) hx hb dX7_swaps_49 (by decide) ?_
        refine cw_X7_41 C hJ (rest := []) (c_X7_setU hE hu (P) 5 (by omega) (by decide) (rfl) (rfl) (-1)) dX7_swaps_50 hl.1 ⟨Nat.le_of_ble_eq_true rfl, Nat.le_of_ble_eq_true rfl⟩ ⟨Nat.le_refl _, Nat.le_refl _⟩ (Nat.le_of_ble_eq_true rfl) rfl rfl (fun vr S_50 H locs hP hJ => ?_)
        obtain ⟨rfl, u_50, o_50⟩ := hP
        refine lv_aload_n hx hb dX7_swaps_53 rfl (lv_at hl 0 rfl) ?_
        refine lv_iload_n hx hb dX7_swaps_54 rfl (lv_at hl 1 rfl) ?_
        refine lv_iconst (v := 1) hx hb dX7_swaps_55 (by decide) ?_
        refine lv_iadd hx hb dX7_swaps_56 ?_
        refine lv_iconst (v := 5) hx hb dX7_swaps_57 (by decide) ?_
        refine lv_iconst (v := (-1)) hx hb dX7_swaps_58 (by decide) ?_
        refine cw_X7_41 C hJ (rest := []) (c_X7_setU hE u_50 (P + 1) 5 (by omega) (by decide) (nI_1 _) (rfl) (-1)) dX7_swaps_59 hl.1 ⟨Nat.le_of_ble_eq_true rfl, Nat.le_of_ble_eq_true rfl⟩ ⟨Nat.le_refl _, Nat.le_refl _⟩ (Nat.le_of_ble_eq_true rfl) rfl rfl (fun vr S_59 H locs hP hJ => ?_)
        obtain ⟨rfl, u_59, o_59⟩ := hP
        refine lv_iload_n hx hb dX7_swaps_62 rfl (lv_at hl 1 rfl) ?_
        refine lv_iconst (v := 2) hx hb dX7_swaps_63 (by decide) ?_
        refine lv_iadd hx hb dX7_swaps_64 ?_
        refine lv_aload_n hx hb dX7_swaps_65 rfl (lv_at hl 0 rfl) ?_
        refine g_X7_7 C hJ dX7_swaps_66 ?_
        refine lv_iconst (v := 0) hx hb dX7_swaps_69 (by decide) ?_
        refine a_ro C hJ (P := 0) (rfl) (by decide) dX7_swaps_70 ?_
        refine lv_icmp_ge (tgt := 83) hx hb dX7_swaps_71 (by decide) (fun c_71 => ?_) (fun c_71 => ?_)
        · skip
          have hge : n ≤ P + 2 := by
            have q := c_71
            rw [u_59.1 0 (by decide), hn0, show nI P + 2 = nI (P + 2) from nI_add P 2] at q
            exact (nI_leI (by omega) (by omega)).mp q
          have uA : UZ S_59 u_r (us2 u_u n P) := by unfold us2; rw [if_neg (by omega)]; exact u_59
          have oA : RO S S_59 := (ho.t o_50).t o_59
          refine lv_aload_n hx hb dX7_swaps_83 rfl (lv_at hl 0 rfl) ?_
          refine lv_iload_n hx hb dX7_swaps_84 rfl (lv_at hl 1 rfl) ?_
          refine lv_bipush (v := 6) hx hb dX7_swaps_85 (by decide) ?_
          refine lv_iconst (v := 0) hx hb dX7_swaps_87 (by decide) ?_
          refine cw_X7_41 C hJ (rest := []) (c_X7_setU hE uA (P) 6 (by omega) (by decide) (rfl) (rfl) 0) dX7_swaps_88 hl.1 ⟨Nat.le_of_ble_eq_true rfl, Nat.le_of_ble_eq_true rfl⟩ ⟨Nat.le_refl _, Nat.le_refl _⟩ (Nat.le_of_ble_eq_true rfl) rfl rfl (fun vr S_88 H locs hP hJ => ?_)
          obtain ⟨rfl, u_88, o_88⟩ := hP
          refine lv_aload_n hx hb dX7_swaps_91 rfl (lv_at hl 0 rfl) ?_
          refine lv_iload_n hx hb dX7_swaps_92 rfl (lv_at hl 1 rfl) ?_
          refine lv_iconst (v := 1) hx hb dX7_swaps_93 (by decide) ?_
          refine lv_iadd hx hb dX7_swaps_94 ?_
          refine lv_bipush (v := 6) hx hb dX7_swaps_95 (by decide) ?_
          refine lv_iconst (v := 0) hx hb dX7_swaps_97 (by decide) ?_
          refine cw_X7_41 C hJ (rest := []) (c_X7_setU hE u_88 (P + 1) 6 (by omega) (by decide) (nI_1 _) (rfl) 0) dX7_swaps_98 hl.1 ⟨Nat.le_of_ble_eq_true rfl, Nat.le_of_ble_eq_true rfl⟩ ⟨Nat.le_refl _, Nat.le_refl _⟩ (Nat.le_of_ble_eq_true rfl) rfl rfl (fun vr S_98 H locs hP hJ => ?_)
          obtain ⟨rfl, u_98, o_98⟩ := hP
          have u4 : UZ S_98 u_r (us4 u_u n P) := u_98
          refine lv_aload_n hx hb dX7_swaps_101 rfl (lv_at hl 0 rfl) ?_
          refine lv_iload_n hx hb dX7_swaps_102 rfl (lv_at hl 1 rfl) ?_
          refine lv_iconst (v := 4) hx hb dX7_swaps_103 (by decide) ?_
          refine lv_aload_n hx hb dX7_swaps_104 rfl (lv_at hl 0 rfl) ?_
          refine lv_iload_n hx hb dX7_swaps_105 rfl (lv_at hl 1 rfl) ?_
          refine lv_iconst (v := 4) hx hb dX7_swaps_106 (by decide) ?_
          refine cr_X7_33 C hJ (rest := [.int 4, .int (nI P), .ref (gA E 84)]) (c_X7_of hE (S := S_98) (P) 4 (by omega) (by decide) (rfl) (rfl)) dX7_swaps_107 hl.1 ⟨Nat.le_of_ble_eq_true rfl, Nat.le_of_ble_eq_true rfl⟩ ⟨Nat.le_refl _, Nat.le_refl _⟩ (Nat.le_of_ble_eq_true rfl) rfl rfl ?_
          refine lv_iload_n hx hb dX7_swaps_110 rfl (lv_at hl 2 rfl) ?_
          refine lv_isub hx hb dX7_swaps_111 ?_
          refine cw_X7_41 C hJ (rest := []) (c_X7_setU hE u4 (P) 4 (by omega) (by decide) (rfl) (rfl) (((sM S_98).2.1 (6 + 7 * (P) + 4)) - p1)) dX7_swaps_112 hl.1 ⟨Nat.le_of_ble_eq_true rfl, Nat.le_of_ble_eq_true rfl⟩ ⟨Nat.le_refl _, Nat.le_refl _⟩ (Nat.le_of_ble_eq_true rfl) rfl rfl (fun vr S_112 H locs hP hJ => ?_)
          obtain ⟨rfl, u_112, o_112⟩ := hP
          refine lv_aload_n hx hb dX7_swaps_115 rfl (lv_at hl 0 rfl) ?_
          refine lv_iload_n hx hb dX7_swaps_116 rfl (lv_at hl 1 rfl) ?_
          refine lv_iconst (v := 1) hx hb dX7_swaps_117 (by decide) ?_
          refine lv_iadd hx hb dX7_swaps_118 ?_
          refine lv_iconst (v := 4) hx hb dX7_swaps_119 (by decide) ?_
          refine lv_aload_n hx hb dX7_swaps_120 rfl (lv_at hl 0 rfl) ?_
          refine lv_iload_n hx hb dX7_swaps_121 rfl (lv_at hl 1 rfl) ?_
          refine lv_iconst (v := 1) hx hb dX7_swaps_122 (by decide) ?_
          refine lv_iadd hx hb dX7_swaps_123 ?_
          refine lv_iconst (v := 4) hx hb dX7_swaps_124 (by decide) ?_
          refine cr_X7_33 C hJ (rest := [.int 4, .int ((nI P) + 1), .ref (gA E 84)]) (c_X7_of hE (S := S_112) (P + 1) 4 (by omega) (by decide) (nI_1 _) (rfl)) dX7_swaps_125 hl.1 ⟨Nat.le_of_ble_eq_true rfl, Nat.le_of_ble_eq_true rfl⟩ ⟨Nat.le_refl _, Nat.le_refl _⟩ (Nat.le_of_ble_eq_true rfl) rfl rfl ?_
          refine lv_iload_n hx hb dX7_swaps_128 rfl (lv_at hl 2 rfl) ?_
          refine lv_iadd hx hb dX7_swaps_129 ?_
          refine cw_X7_41 C hJ (rest := []) (c_X7_setU hE u_112 (P + 1) 4 (by omega) (by decide) (nI_1 _) (rfl) (((sM S_112).2.1 (6 + 7 * (P + 1) + 4)) + p1)) dX7_swaps_130 hl.1 ⟨Nat.le_of_ble_eq_true rfl, Nat.le_of_ble_eq_true rfl⟩ ⟨Nat.le_refl _, Nat.le_refl _⟩ (Nat.le_of_ble_eq_true rfl) rfl rfl (fun vr S_130 H locs hP hJ => ?_)
          obtain ⟨rfl, u_130, o_130⟩ := hP
          have e_a : (sM S_98).2.1 (6 + 7 * P + 4) = u_u (P + 1) 4 := (u4.2 P 4 (by omega) (by decide)).trans (us4_a u_u n P)
          have e_b : (sM S_112).2.1 (6 + 7 * (P + 1) + 4) = u_u P 4 := (u_112.2 (P + 1) 4 (by omega) (by decide)).trans ((if_neg (by omega)).trans (us4_b u_u n P))
          rw [e_a, e_b] at u_130
          have u5 : UZ S_130 u_r (usw u_u n P p1) := u_130
          refine lv_aload_n hx hb dX7_swaps_133 rfl (lv_at hl 0 rfl) ?_
          refine g_X7_7 C hJ dX7_swaps_134 ?_
          refine lv_iconst (v := 2) hx hb dX7_swaps_137 (by decide) ?_
          refine lv_dup2_11 hx hb dX7_swaps_138 rfl rfl ?_
          refine a_ro C hJ (P := 2) (rfl) (by decide) dX7_swaps_139 ?_
          refine lv_iconst (v := 1) hx hb dX7_swaps_140 (by decide) ?_
          refine lv_iadd hx hb dX7_swaps_141 ?_
          refine t_ro C hJ (P := 2) (rfl) (by decide) dX7_swaps_142 (fun H locs hJ => ?_)
          obtain ⟨S_142, hS_142⟩ : ∃ z : ST, z = setM S_130 (mRo (sM S_130) 2 (((sM S_130).2.1 2) + 1)) := ⟨_, rfl⟩
          rw [← hS_142] at hJ
          have v_142 := u5.head (x := 2) (by decide) hS_142
          rw [u5.1 2 (by decide)] at v_142
          refine lv_aload_n hx hb dX7_swaps_143 rfl (lv_at hl 0 rfl) ?_
          refine g_X7_7 C hJ dX7_swaps_144 ?_
          refine lv_iconst (v := 3) hx hb dX7_swaps_147 (by decide) ?_
          refine lv_dup2_11 hx hb dX7_swaps_148 rfl rfl ?_
          refine a_ro C hJ (P := 3) (rfl) (by decide) dX7_swaps_149 ?_
          refine lv_iload_n hx hb dX7_swaps_150 rfl (lv_at hl 2 rfl) ?_
          refine lv_iadd hx hb dX7_swaps_151 ?_
          refine t_ro C hJ (P := 3) (rfl) (by decide) dX7_swaps_152 (fun H locs hJ => ?_)
          obtain ⟨S_152, hS_152⟩ : ∃ z : ST, z = setM S_142 (mRo (sM S_142) 3 (((sM S_142).2.1 3) + p1)) := ⟨_, rfl⟩
          rw [← hS_152] at hJ
          have v_152 := v_142.head (x := 3) (by decide) hS_152
          rw [v_142.1 3 (by decide)] at v_152
          have v9 : UZ S_152 (upd (upd u_r 2 (u_r 2 + 1)) 3 (u_r 3 + p1)) (usw u_u n P p1) := v_152
          refine lv_iload_n hx hb dX7_swaps_153 rfl (lv_at hl 2 rfl) ?_
          exact rW_i C hJ hr rfl (⟨rfl, v9, (((((oA.t o_88).t o_98).t o_112).t o_130).t (RO.put (by decide) hS_142)).t (RO.put (by decide) hS_152)⟩) dX7_swaps_154
        · skip
          have hlt2 : P + 2 < n := by
            rcases Nat.lt_or_ge (P + 2) n with q | q
            · exact q
            · exact absurd (by rw [u_59.1 0 (by decide), hn0, show nI P + 2 = nI (P + 2) from nI_add P 2]; exact nI_le q (by omega)) c_71
          refine lv_aload_n hx hb dX7_swaps_74 rfl (lv_at hl 0 rfl) ?_
          refine lv_iload_n hx hb dX7_swaps_75 rfl (lv_at hl 1 rfl) ?_
          refine lv_iconst (v := 2) hx hb dX7_swaps_76 (by decide) ?_
          refine lv_iadd hx hb dX7_swaps_77 ?_
          refine lv_iconst (v := 5) hx hb dX7_swaps_78 (by decide) ?_
          refine lv_iconst (v := (-1)) hx hb dX7_swaps_79 (by decide) ?_
          refine cw_X7_41 C hJ (rest := []) (c_X7_setU hE u_59 (P + 2) 5 (by omega) (by decide) (nI_add _ 2) (rfl) (-1)) dX7_swaps_80 hl.1 ⟨Nat.le_of_ble_eq_true rfl, Nat.le_of_ble_eq_true rfl⟩ ⟨Nat.le_refl _, Nat.le_refl _⟩ (Nat.le_of_ble_eq_true rfl) rfl rfl (fun vr S_80 H locs hP hJ => ?_)
          obtain ⟨rfl, u_80, o_80⟩ := hP
          have uA : UZ S_80 u_r (us2 u_u n P) := by unfold us2; rw [if_pos hlt2]; exact u_80
          have oA : RO S S_80 := ((ho.t o_50).t o_59).t o_80
          refine lv_aload_n hx hb dX7_swaps_83 rfl (lv_at hl 0 rfl) ?_
          refine lv_iload_n hx hb dX7_swaps_84 rfl (lv_at hl 1 rfl) ?_
          refine lv_bipush (v := 6) hx hb dX7_swaps_85 (by decide) ?_
          refine lv_iconst (v := 0) hx hb dX7_swaps_87 (by decide) ?_
          refine cw_X7_41 C hJ (rest := []) (c_X7_setU hE uA (P) 6 (by omega) (by decide) (rfl) (rfl) 0) dX7_swaps_88 hl.1 ⟨Nat.le_of_ble_eq_true rfl, Nat.le_of_ble_eq_true rfl⟩ ⟨Nat.le_refl _, Nat.le_refl _⟩ (Nat.le_of_ble_eq_true rfl) rfl rfl (fun vr S_88 H locs hP hJ => ?_)
          obtain ⟨rfl, u_88, o_88⟩ := hP
          refine lv_aload_n hx hb dX7_swaps_91 rfl (lv_at hl 0 rfl) ?_
          refine lv_iload_n hx hb dX7_swaps_92 rfl (lv_at hl 1 rfl) ?_
          refine lv_iconst (v := 1) hx hb dX7_swaps_93 (by decide) ?_
          refine lv_iadd hx hb dX7_swaps_94 ?_
          refine lv_bipush (v := 6) hx hb dX7_swaps_95 (by decide) ?_
          refine lv_iconst (v := 0) hx hb dX7_swaps_97 (by decide) ?_
          refine cw_X7_41 C hJ (rest := []) (c_X7_setU hE u_88 (P + 1) 6 (by omega) (by decide) (nI_1 _) (rfl) 0) dX7_swaps_98 hl.1 ⟨Nat.le_of_ble_eq_true rfl, Nat.le_of_ble_eq_true rfl⟩ ⟨Nat.le_refl _, Nat.le_refl _⟩ (Nat.le_of_ble_eq_true rfl) rfl rfl (fun vr S_98 H locs hP hJ => ?_)
          obtain ⟨rfl, u_98, o_98⟩ := hP
          have u4 : UZ S_98 u_r (us4 u_u n P) := u_98
          refine lv_aload_n hx hb dX7_swaps_101 rfl (lv_at hl 0 rfl) ?_
          refine lv_iload_n hx hb dX7_swaps_102 rfl (lv_at hl 1 rfl) ?_
          refine lv_iconst (v := 4) hx hb dX7_swaps_103 (by decide) ?_
          refine lv_aload_n hx hb dX7_swaps_104 rfl (lv_at hl 0 rfl) ?_
          refine lv_iload_n hx hb dX7_swaps_105 rfl (lv_at hl 1 rfl) ?_
          refine lv_iconst (v := 4) hx hb dX7_swaps_106 (by decide) ?_
          refine cr_X7_33 C hJ (rest := [.int 4, .int (nI P), .ref (gA E 84)]) (c_X7_of hE (S := S_98) (P) 4 (by omega) (by decide) (rfl) (rfl)) dX7_swaps_107 hl.1 ⟨Nat.le_of_ble_eq_true rfl, Nat.le_of_ble_eq_true rfl⟩ ⟨Nat.le_refl _, Nat.le_refl _⟩ (Nat.le_of_ble_eq_true rfl) rfl rfl ?_
          refine lv_iload_n hx hb dX7_swaps_110 rfl (lv_at hl 2 rfl) ?_
          refine lv_isub hx hb dX7_swaps_111 ?_
          refine cw_X7_41 C hJ (rest := []) (c_X7_setU hE u4 (P) 4 (by omega) (by decide) (rfl) (rfl) (((sM S_98).2.1 (6 + 7 * (P) + 4)) - p1)) dX7_swaps_112 hl.1 ⟨Nat.le_of_ble_eq_true rfl, Nat.le_of_ble_eq_true rfl⟩ ⟨Nat.le_refl _, Nat.le_refl _⟩ (Nat.le_of_ble_eq_true rfl) rfl rfl (fun vr S_112 H locs hP hJ => ?_)
          obtain ⟨rfl, u_112, o_112⟩ := hP
          refine lv_aload_n hx hb dX7_swaps_115 rfl (lv_at hl 0 rfl) ?_
          refine lv_iload_n hx hb dX7_swaps_116 rfl (lv_at hl 1 rfl) ?_
          refine lv_iconst (v := 1) hx hb dX7_swaps_117 (by decide) ?_
          refine lv_iadd hx hb dX7_swaps_118 ?_
          refine lv_iconst (v := 4) hx hb dX7_swaps_119 (by decide) ?_
          refine lv_aload_n hx hb dX7_swaps_120 rfl (lv_at hl 0 rfl) ?_
          refine lv_iload_n hx hb dX7_swaps_121 rfl (lv_at hl 1 rfl) ?_
          refine lv_iconst (v := 1) hx hb dX7_swaps_122 (by decide) ?_
          refine lv_iadd hx hb dX7_swaps_123 ?_
          refine lv_iconst (v := 4) hx hb dX7_swaps_124 (by decide) ?_
          refine cr_X7_33 C hJ (rest := [.int 4, .int ((nI P) + 1), .ref (gA E 84)]) (c_X7_of hE (S := S_112) (P + 1) 4 (by omega) (by decide) (nI_1 _) (rfl)) dX7_swaps_125 hl.1 ⟨Nat.le_of_ble_eq_true rfl, Nat.le_of_ble_eq_true rfl⟩ ⟨Nat.le_refl _, Nat.le_refl _⟩ (Nat.le_of_ble_eq_true rfl) rfl rfl ?_
          refine lv_iload_n hx hb dX7_swaps_128 rfl (lv_at hl 2 rfl) ?_
          refine lv_iadd hx hb dX7_swaps_129 ?_
          refine cw_X7_41 C hJ (rest := []) (c_X7_setU hE u_112 (P + 1) 4 (by omega) (by decide) (nI_1 _) (rfl) (((sM S_112).2.1 (6 + 7 * (P + 1) + 4)) + p1)) dX7_swaps_130 hl.1 ⟨Nat.le_of_ble_eq_true rfl, Nat.le_of_ble_eq_true rfl⟩ ⟨Nat.le_refl _, Nat.le_refl _⟩ (Nat.le_of_ble_eq_true rfl) rfl rfl (fun vr S_130 H locs hP hJ => ?_)
          obtain ⟨rfl, u_130, o_130⟩ := hP
          have e_a : (sM S_98).2.1 (6 + 7 * P + 4) = u_u (P + 1) 4 := (u4.2 P 4 (by omega) (by decide)).trans (us4_a u_u n P)
          have e_b : (sM S_112).2.1 (6 + 7 * (P + 1) + 4) = u_u P 4 := (u_112.2 (P + 1) 4 (by omega) (by decide)).trans ((if_neg (by omega)).trans (us4_b u_u n P))
          rw [e_a, e_b] at u_130
          have u5 : UZ S_130 u_r (usw u_u n P p1) := u_130
          refine lv_aload_n hx hb dX7_swaps_133 rfl (lv_at hl 0 rfl) ?_
          refine g_X7_7 C hJ dX7_swaps_134 ?_
          refine lv_iconst (v := 2) hx hb dX7_swaps_137 (by decide) ?_
          refine lv_dup2_11 hx hb dX7_swaps_138 rfl rfl ?_
          refine a_ro C hJ (P := 2) (rfl) (by decide) dX7_swaps_139 ?_
          refine lv_iconst (v := 1) hx hb dX7_swaps_140 (by decide) ?_
          refine lv_iadd hx hb dX7_swaps_141 ?_
          refine t_ro C hJ (P := 2) (rfl) (by decide) dX7_swaps_142 (fun H locs hJ => ?_)
          obtain ⟨S_142, hS_142⟩ : ∃ z : ST, z = setM S_130 (mRo (sM S_130) 2 (((sM S_130).2.1 2) + 1)) := ⟨_, rfl⟩
          rw [← hS_142] at hJ
          have v_142 := u5.head (x := 2) (by decide) hS_142
          rw [u5.1 2 (by decide)] at v_142
          refine lv_aload_n hx hb dX7_swaps_143 rfl (lv_at hl 0 rfl) ?_
          refine g_X7_7 C hJ dX7_swaps_144 ?_
          refine lv_iconst (v := 3) hx hb dX7_swaps_147 (by decide) ?_
          refine lv_dup2_11 hx hb dX7_swaps_148 rfl rfl ?_
          refine a_ro C hJ (P := 3) (rfl) (by decide) dX7_swaps_149 ?_
          refine lv_iload_n hx hb dX7_swaps_150 rfl (lv_at hl 2 rfl) ?_
          refine lv_iadd hx hb dX7_swaps_151 ?_
          refine t_ro C hJ (P := 3) (rfl) (by decide) dX7_swaps_152 (fun H locs hJ => ?_)
          obtain ⟨S_152, hS_152⟩ : ∃ z : ST, z = setM S_142 (mRo (sM S_142) 3 (((sM S_142).2.1 3) + p1)) := ⟨_, rfl⟩
          rw [← hS_152] at hJ
          have v_152 := v_142.head (x := 3) (by decide) hS_152
          rw [v_142.1 3 (by decide)] at v_152
          have v9 : UZ S_152 (upd (upd u_r 2 (u_r 2 + 1)) 3 (u_r 3 + p1)) (usw u_u n P p1) := v_152
          refine lv_iload_n hx hb dX7_swaps_153 rfl (lv_at hl 2 rfl) ?_
          exact rW_i C hJ hr rfl (⟨rfl, v9, (((((oA.t o_88).t o_98).t o_112).t o_130).t (RO.put (by decide) hS_142)).t (RO.put (by decide) hS_152)⟩) dX7_swaps_154
      · skip
        have hlt : i < 7 := ltOfNle (N := 7) (by omega) c_5
        refine lv_aload_n hx hb dX7_swaps_8 rfl (lv_at hl 0 rfl) ?_
        refine lv_iload_n hx hb dX7_swaps_9 rfl (lv_at hl 1 rfl) ?_
        refine lv_iload_n hx hb dX7_swaps_10 rfl (lv_at hl 3 rfl) ?_
        refine cr_X7_33 C hJ (rest := []) (c_X7_of hE (S := T) (P) i (by omega) hlt (rfl) (rfl)) dX7_swaps_11 hl.1 ⟨Nat.le_of_ble_eq_true rfl, Nat.le_of_ble_eq_true rfl⟩ ⟨Nat.le_refl _, Nat.le_refl _⟩ (Nat.le_of_ble_eq_true rfl) rfl rfl ?_
        refine lv_istore (lv' := [(4, .int ((sM T).2.1 (6 + 7 * (P) + i))), (0, .ref (gA E 84)), (1, .int (nI P)), (2, .int p1), (3, .int (nI i))]) hx hb dX7_swaps_14 hl (by decide) rfl (fun ls hl => ?_)
        refine lv_aload_n hx hb dX7_swaps_16 rfl (lv_at hl 1 rfl) ?_
        refine lv_iload_n hx hb dX7_swaps_17 rfl (lv_at hl 2 rfl) ?_
        refine lv_iload_n hx hb dX7_swaps_18 rfl (lv_at hl 4 rfl) ?_
        refine lv_aload_n hx hb dX7_swaps_19 rfl (lv_at hl 1 rfl) ?_
        refine lv_iload_n hx hb dX7_swaps_20 rfl (lv_at hl 2 rfl) ?_
        refine lv_iconst (v := 1) hx hb dX7_swaps_21 (by decide) ?_
        refine lv_iadd hx hb dX7_swaps_22 ?_
        refine lv_iload_n hx hb dX7_swaps_23 rfl (lv_at hl 4 rfl) ?_
        refine cr_X7_33 C hJ (rest := [.int (nI i), .int (nI P), .ref (gA E 84)]) (c_X7_of hE (S := T) (P + 1) i (by omega) hlt (nI_1 _) (rfl)) dX7_swaps_24 hl.1 ⟨Nat.le_of_ble_eq_true rfl, Nat.le_of_ble_eq_true rfl⟩ ⟨Nat.le_refl _, Nat.le_refl _⟩ (Nat.le_of_ble_eq_true rfl) rfl rfl ?_
        refine cw_X7_41 C hJ (rest := []) (c_X7_setU hE hu (P) i (by omega) hlt (rfl) (rfl) ((sM T).2.1 (6 + 7 * (P + 1) + i))) dX7_swaps_27 hl.1 ⟨Nat.le_of_ble_eq_true rfl, Nat.le_of_ble_eq_true rfl⟩ ⟨Nat.le_refl _, Nat.le_refl _⟩ (Nat.le_of_ble_eq_true rfl) rfl rfl (fun vr S_27 H locs hP hJ => ?_)
        obtain ⟨rfl, u_27, o_27⟩ := hP
        refine lv_aload_n hx hb dX7_swaps_30 rfl (lv_at hl 1 rfl) ?_
        refine lv_iload_n hx hb dX7_swaps_31 rfl (lv_at hl 2 rfl) ?_
        refine lv_iconst (v := 1) hx hb dX7_swaps_32 (by decide) ?_
        refine lv_iadd hx hb dX7_swaps_33 ?_
        refine lv_iload_n hx hb dX7_swaps_34 rfl (lv_at hl 4 rfl) ?_
        refine lv_iload hx hb dX7_swaps_35 (lv_at hl 0 rfl) ?_
        refine cw_X7_41 C hJ (rest := []) (c_X7_setU hE u_27 (P + 1) i (by omega) hlt (nI_1 _) (rfl) ((sM T).2.1 (6 + 7 * (P) + i))) dX7_swaps_37 hl.1 ⟨Nat.le_of_ble_eq_true rfl, Nat.le_of_ble_eq_true rfl⟩ ⟨Nat.le_refl _, Nat.le_refl _⟩ (Nat.le_of_ble_eq_true rfl) rfl rfl (fun vr S_37 H locs hP hJ => ?_)
        obtain ⟨rfl, u_37, o_37⟩ := hP
        have hu2 : UZ S_37 u_r (uswi u_u P (i + 1)) := by
          rw [← uswi_s u_u ((hu.2 (P + 1) i (by omega) hlt).trans (uswi_a u_u P i)) ((hu.2 P i (by omega) hlt).trans (uswi_b u_u P i))]; exact u_37
        refine lv_iinc (v := nI (i + 1)) (lv' := [(3, .int (nI (i + 1))), (4, .int ((sM T).2.1 (6 + 7 * (P) + i))), (0, .ref (gA E 84)), (1, .int (nI P)), (2, .int p1)]) hx hb dX7_swaps_40 hl (k := 4) rfl (by exact nI_1 i) (by decide) rfl (fun ls hl => ?_)
        refine lv_goto (tgt := 2) hx hb dX7_swaps_43 (by decide) ?_
        exact ih_lp (i + 1) S_37 H locs _ (by omega) (by omega) hu2 ((ho.t o_27).t o_37) hJ (lv_sub hl [2, 3, 4, 0] rfl)
  exact lp 8 0 S s.heap [] _ (Nat.zero_le _) (by omega) (by rw [uswi_0]; exact hU) (RO.r S) hJ (lv_sub hl [1, 2, 3, 0] rfl)
