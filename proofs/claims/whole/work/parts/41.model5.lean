/-! MODEL: joining, going (by program) -/
set_option maxHeartbeats 4000000 in
set_option maxRecDepth 100000 in
theorem c_X7_joins {l : Launch} {E : GE} (hE : Env0 E) {S : ST} {u_r : Nat → Int32} {u_u : Nat → Nat → Int32} (hU : UZ S u_r u_u) {n : Nat} (hn0 : u_r 0 = nI n) (hn : n < 10) (p0 p1 : Int32) (P : Nat) (hP0 : P ≤ n) : MW l E yX7_joins cX7_joins 5 (some .int) 2 46 S [.ref (gA E 84), .int p0, .int p1, .int (nI P)] (fun v S1 => v = some (.int (u_r 5)) ∧ UZ S1 (upd (upd u_r 0 (nI (n + 1))) 5 (u_r 5 + 1)) (ujn u_u n P (u_r 5) p0 p1) ∧ RO S S1) := by
  refine MW.of hE (by decide) (Nat.le_of_ble_eq_true rfl) ?_
  intro p e s m below meth c ls C hJ hr hl
  have hx := C.x
  have hb := C.b
  have hl : lv_has ls 5 [(0, .ref (gA E 84)), (1, .int p0), (2, .int p1), (3, .int (nI P))] := hl
  refine lv_aload_n hx hb dX7_joins_0 rfl (lv_at hl 0 rfl) ?_
  refine g_X7_7 C hJ dX7_joins_1 ?_
  refine lv_iconst (v := 0) hx hb dX7_joins_4 (by decide) ?_
  refine a_ro C hJ (P := 0) (rfl) (by decide) dX7_joins_5 ?_
  rw [hU.1 0 (by decide), hn0]
  · skip
    refine lv_istore (lv' := [(4, .int (nI n)), (0, .ref (gA E 84)), (1, .int p0), (2, .int p1), (3, .int (nI P))]) hx hb dX7_joins_6 hl (by decide) rfl (fun ls hl => ?_)
    have lp : ∀ (d : Nat) (i : Nat) (T : ST) (H : Heap) (locs : List Loc) (ls : Array Slot), (P ≤ i ∧ i ≤ n) → (i < P + d) → (UZ T u_r (ujs u_u i n)) → (RO S T) → JJ E T H locs → lv_has ls 5 [(0, .ref (gA E 84)), (1, .int p0), (2, .int p1), (3, .int (nI P)), (4, .int (nI i))] → W p l e (rmZ 2 46) s m ([.ref (gA E 84), .int p0, .int p1, .int (nI P)] : List Value).toArray below meth c H locs 0 0 (WQ below ([.ref (gA E 84), .int p0, .int p1, .int (nI P)] : List Value).toArray s E (fun v S1 => v = some (.int (u_r 5)) ∧ UZ S1 (upd (upd u_r 0 (nI (n + 1))) 5 (u_r 5 + 1)) (ujn u_u n P (u_r 5) p0 p1) ∧ RO S S1)) (F0 m 8 ls []) := by
      intro d
      induction d with
      | zero =>
        intro i T H locs ls hi hd hu ho hJ hl
        omega
      | succ d ih_lp =>
        intro i T H locs ls hi hd hu ho hJ hl
        refine lv_iload hx hb dX7_joins_8 (lv_at hl 4 rfl) ?_
        refine lv_iload_n hx hb dX7_joins_10 rfl (lv_at hl 3 rfl) ?_
        refine lv_icmp_le (tgt := 30) hx hb dX7_joins_11 (by decide) (fun c_11 => ?_) (fun c_11 => ?_)
        · skip
          have e9 : i = P := by have := (nI_leI (by omega) (by omega)).mp c_11; omega
          rw [e9] at hu
          refine lv_iload_n hx hb dX7_joins_30 rfl (lv_at hl 3 rfl) ?_
          refine lv_aload_n hx hb dX7_joins_31 rfl (lv_at hl 0 rfl) ?_
          refine g_X7_7 C hJ dX7_joins_32 ?_
          refine lv_iconst (v := 0) hx hb dX7_joins_35 (by decide) ?_
          refine a_ro C hJ (P := 0) (rfl) (by decide) dX7_joins_36 ?_
          refine lv_icmp_ge (tgt := 49) hx hb dX7_joins_37 (by decide) (fun c_37 => ?_) (fun c_37 => ?_)
          · skip
            have hge : n ≤ P := by rw [hu.1 0 (by decide), hn0] at c_37; exact (nI_leI (by omega) (by omega)).mp c_37
            have uA : UZ T u_r (ujo u_u n P) := by unfold ujo; rw [if_neg (by omega)]; exact hu
            have oA : RO S T := ho
            refine lv_aload_n hx hb dX7_joins_49 rfl (lv_at hl 0 rfl) ?_
            refine lv_iload_n hx hb dX7_joins_50 rfl (lv_at hl 3 rfl) ?_
            refine lv_iconst (v := 0) hx hb dX7_joins_51 (by decide) ?_
            refine lv_aload_n hx hb dX7_joins_52 rfl (lv_at hl 0 rfl) ?_
            refine g_X7_7 C hJ dX7_joins_53 ?_
            refine lv_iconst (v := 5) hx hb dX7_joins_56 (by decide) ?_
            refine a_ro C hJ (P := 5) (rfl) (by decide) dX7_joins_57 ?_
            refine cw_X7_41 C hJ (rest := []) (c_X7_setU hE uA (P) 0 (by omega) (by decide) (rfl) (rfl) ((sM T).2.1 5)) dX7_joins_58 hl.1 ⟨Nat.le_of_ble_eq_true rfl, Nat.le_of_ble_eq_true rfl⟩ ⟨Nat.le_refl _, Nat.le_refl _⟩ (Nat.le_of_ble_eq_true rfl) rfl rfl (fun vr S_58 H locs hP hJ => ?_)
            obtain ⟨rfl, u_58, o_58⟩ := hP
            refine lv_aload_n hx hb dX7_joins_61 rfl (lv_at hl 0 rfl) ?_
            refine lv_iload_n hx hb dX7_joins_62 rfl (lv_at hl 3 rfl) ?_
            refine lv_iconst (v := 1) hx hb dX7_joins_63 (by decide) ?_
            refine lv_iload_n hx hb dX7_joins_64 rfl (lv_at hl 1 rfl) ?_
            refine cw_X7_41 C hJ (rest := []) (c_X7_setU hE u_58 (P) 1 (by omega) (by decide) (rfl) (rfl) p0) dX7_joins_65 hl.1 ⟨Nat.le_of_ble_eq_true rfl, Nat.le_of_ble_eq_true rfl⟩ ⟨Nat.le_refl _, Nat.le_refl _⟩ (Nat.le_of_ble_eq_true rfl) rfl rfl (fun vr S_65 H locs hP hJ => ?_)
            obtain ⟨rfl, u_65, o_65⟩ := hP
            refine lv_aload_n hx hb dX7_joins_68 rfl (lv_at hl 0 rfl) ?_
            refine lv_iload_n hx hb dX7_joins_69 rfl (lv_at hl 3 rfl) ?_
            refine lv_iconst (v := 2) hx hb dX7_joins_70 (by decide) ?_
            refine lv_iload_n hx hb dX7_joins_71 rfl (lv_at hl 1 rfl) ?_
            refine cw_X7_41 C hJ (rest := []) (c_X7_setU hE u_65 (P) 2 (by omega) (by decide) (rfl) (rfl) p0) dX7_joins_72 hl.1 ⟨Nat.le_of_ble_eq_true rfl, Nat.le_of_ble_eq_true rfl⟩ ⟨Nat.le_refl _, Nat.le_refl _⟩ (Nat.le_of_ble_eq_true rfl) rfl rfl (fun vr S_72 H locs hP hJ => ?_)
            obtain ⟨rfl, u_72, o_72⟩ := hP
            refine lv_aload_n hx hb dX7_joins_75 rfl (lv_at hl 0 rfl) ?_
            refine lv_iload_n hx hb dX7_joins_76 rfl (lv_at hl 3 rfl) ?_
            refine lv_iconst (v := 3) hx hb dX7_joins_77 (by decide) ?_
            refine lv_iload_n hx hb dX7_joins_78 rfl (lv_at hl 2 rfl) ?_
            refine cw_X7_41 C hJ (rest := []) (c_X7_setU hE u_72 (P) 3 (by omega) (by decide) (rfl) (rfl) p1) dX7_joins_79 hl.1 ⟨Nat.le_of_ble_eq_true rfl, Nat.le_of_ble_eq_true rfl⟩ ⟨Nat.le_refl _, Nat.le_refl _⟩ (Nat.le_of_ble_eq_true rfl) rfl rfl (fun vr S_79 H locs hP hJ => ?_)
            obtain ⟨rfl, u_79, o_79⟩ := hP
            refine lv_aload_n hx hb dX7_joins_82 rfl (lv_at hl 0 rfl) ?_
            refine lv_iload_n hx hb dX7_joins_83 rfl (lv_at hl 3 rfl) ?_
            refine lv_iconst (v := 4) hx hb dX7_joins_84 (by decide) ?_
            refine lv_iconst (v := 0) hx hb dX7_joins_85 (by decide) ?_
            refine cw_X7_41 C hJ (rest := []) (c_X7_setU hE u_79 (P) 4 (by omega) (by decide) (rfl) (rfl) 0) dX7_joins_86 hl.1 ⟨Nat.le_of_ble_eq_true rfl, Nat.le_of_ble_eq_true rfl⟩ ⟨Nat.le_refl _, Nat.le_refl _⟩ (Nat.le_of_ble_eq_true rfl) rfl rfl (fun vr S_86 H locs hP hJ => ?_)
            obtain ⟨rfl, u_86, o_86⟩ := hP
            refine lv_aload_n hx hb dX7_joins_89 rfl (lv_at hl 0 rfl) ?_
            refine lv_iload_n hx hb dX7_joins_90 rfl (lv_at hl 3 rfl) ?_
            refine lv_iconst (v := 5) hx hb dX7_joins_91 (by decide) ?_
            refine lv_iconst (v := (-1)) hx hb dX7_joins_92 (by decide) ?_
            refine cw_X7_41 C hJ (rest := []) (c_X7_setU hE u_86 (P) 5 (by omega) (by decide) (rfl) (rfl) (-1)) dX7_joins_93 hl.1 ⟨Nat.le_of_ble_eq_true rfl, Nat.le_of_ble_eq_true rfl⟩ ⟨Nat.le_refl _, Nat.le_refl _⟩ (Nat.le_of_ble_eq_true rfl) rfl rfl (fun vr S_93 H locs hP hJ => ?_)
            obtain ⟨rfl, u_93, o_93⟩ := hP
            refine lv_aload_n hx hb dX7_joins_96 rfl (lv_at hl 0 rfl) ?_
            refine lv_iload_n hx hb dX7_joins_97 rfl (lv_at hl 3 rfl) ?_
            refine lv_bipush (v := 6) hx hb dX7_joins_98 (by decide) ?_
            refine lv_iconst (v := 0) hx hb dX7_joins_100 (by decide) ?_
            refine cw_X7_41 C hJ (rest := []) (c_X7_setU hE u_93 (P) 6 (by omega) (by decide) (rfl) (rfl) 0) dX7_joins_101 hl.1 ⟨Nat.le_of_ble_eq_true rfl, Nat.le_of_ble_eq_true rfl⟩ ⟨Nat.le_refl _, Nat.le_refl _⟩ (Nat.le_of_ble_eq_true rfl) rfl rfl (fun vr S_101 H locs hP hJ => ?_)
            obtain ⟨rfl, u_101, o_101⟩ := hP
            refine lv_aload_n hx hb dX7_joins_104 rfl (lv_at hl 0 rfl) ?_
            refine g_X7_7 C hJ dX7_joins_105 ?_
            refine lv_iconst (v := 0) hx hb dX7_joins_108 (by decide) ?_
            refine lv_dup2_11 hx hb dX7_joins_109 rfl rfl ?_
            refine a_ro C hJ (P := 0) (rfl) (by decide) dX7_joins_110 ?_
            refine lv_iconst (v := 1) hx hb dX7_joins_111 (by decide) ?_
            refine lv_iadd hx hb dX7_joins_112 ?_
            refine t_ro C hJ (P := 0) (rfl) (by decide) dX7_joins_113 (fun H locs hJ => ?_)
            obtain ⟨S_113, hS_113⟩ : ∃ z : ST, z = setM S_101 (mRo (sM S_101) 0 (((sM S_101).2.1 0) + 1)) := ⟨_, rfl⟩
            rw [← hS_113] at hJ
            have v_113 := u_101.head (x := 0) (by decide) hS_113
            have e_113 : (sM S_101).2.1 0 + 1 = nI (n + 1) := by rw [u_101.1 0 (by decide), hn0, nI_1]
            rw [e_113] at v_113
            refine lv_aload_n hx hb dX7_joins_114 rfl (lv_at hl 0 rfl) ?_
            refine g_X7_7 C hJ dX7_joins_115 ?_
            refine lv_iconst (v := 5) hx hb dX7_joins_118 (by decide) ?_
            refine lv_dup2_11 hx hb dX7_joins_119 rfl rfl ?_
            refine a_ro C hJ (P := 5) (rfl) (by decide) dX7_joins_120 ?_
            refine lv_iconst (v := 1) hx hb dX7_joins_121 (by decide) ?_
            refine lv_iadd hx hb dX7_joins_122 ?_
            refine t_ro C hJ (P := 5) (rfl) (by decide) dX7_joins_123 (fun H locs hJ => ?_)
            obtain ⟨S_123, hS_123⟩ : ∃ z : ST, z = setM S_113 (mRo (sM S_113) 5 (((sM S_113).2.1 5) + 1)) := ⟨_, rfl⟩
            rw [← hS_123] at hJ
            have v_123 := v_113.head (x := 5) (by decide) hS_123
            have e_123 : (sM S_113).2.1 5 + 1 = u_r 5 + 1 := by rw [v_113.1 5 (by decide)]; rfl
            rw [e_123, uA.1 5 (by decide)] at v_123
            refine lv_aload_n hx hb dX7_joins_124 rfl (lv_at hl 0 rfl) ?_
            refine g_X7_7 C hJ dX7_joins_125 ?_
            refine lv_iconst (v := 5) hx hb dX7_joins_128 (by decide) ?_
            refine a_ro C hJ (P := 5) (rfl) (by decide) dX7_joins_129 ?_
            refine lv_iconst (v := 1) hx hb dX7_joins_130 (by decide) ?_
            refine lv_isub hx hb dX7_joins_131 ?_
            exact rW_i C hJ hr rfl (⟨by rw [v_123.1 5 (by decide)]; show some (Value.int (u_r 5 + 1 - 1)) = _; rw [Int32.add_sub_cancel], v_123, (((((((oA.t o_58).t o_65).t o_72).t o_79).t o_86).t o_93).t o_101).t ((RO.put (by decide) hS_113).t (RO.put (by decide) hS_123))⟩) dX7_joins_132
          · skip
            have hlt : P < n := by
              rcases Nat.lt_or_ge P n with q | q
              · exact q
              · exact absurd (by rw [hu.1 0 (by decide), hn0]; exact nI_le q (by omega)) c_37
            refine lv_aload_n hx hb dX7_joins_40 rfl (lv_at hl 0 rfl) ?_
            refine lv_iload_n hx hb dX7_joins_41 rfl (lv_at hl 3 rfl) ?_
            refine lv_iconst (v := 1) hx hb dX7_joins_42 (by decide) ?_
            refine lv_iadd hx hb dX7_joins_43 ?_
            refine lv_iconst (v := 5) hx hb dX7_joins_44 (by decide) ?_
            refine lv_iconst (v := (-1)) hx hb dX7_joins_45 (by decide) ?_
            refine cw_X7_41 C hJ (rest := []) (c_X7_setU hE hu (P + 1) 5 (by omega) (by decide) (nI_1 _) (rfl) (-1)) dX7_joins_46 hl.1 ⟨Nat.le_of_ble_eq_true rfl, Nat.le_of_ble_eq_true rfl⟩ ⟨Nat.le_refl _, Nat.le_refl _⟩ (Nat.le_of_ble_eq_true rfl) rfl rfl (fun vr S_46 H locs hP hJ => ?_)
            obtain ⟨rfl, u_46, o_46⟩ := hP
            have uA : UZ S_46 u_r (ujo u_u n P) := by unfold ujo; rw [if_pos hlt]; exact u_46
            have oA : RO S S_46 := ho.t o_46
            refine lv_aload_n hx hb dX7_joins_49 rfl (lv_at hl 0 rfl) ?_
            refine lv_iload_n hx hb dX7_joins_50 rfl (lv_at hl 3 rfl) ?_
            refine lv_iconst (v := 0) hx hb dX7_joins_51 (by decide) ?_
            refine lv_aload_n hx hb dX7_joins_52 rfl (lv_at hl 0 rfl) ?_
            refine g_X7_7 C hJ dX7_joins_53 ?_
            refine lv_iconst (v := 5) hx hb dX7_joins_56 (by decide) ?_
            refine a_ro C hJ (P := 5) (rfl) (by decide) dX7_joins_57 ?_
            refine cw_X7_41 C hJ (rest := []) (c_X7_setU hE uA (P) 0 (by omega) (by decide) (rfl) (rfl) ((sM S_46).2.1 5)) dX7_joins_58 hl.1 ⟨Nat.le_of_ble_eq_true rfl, Nat.le_of_ble_eq_true rfl⟩ ⟨Nat.le_refl _, Nat.le_refl _⟩ (Nat.le_of_ble_eq_true rfl) rfl rfl (fun vr S_58 H locs hP hJ => ?_)
            obtain ⟨rfl, u_58, o_58⟩ := hP
            refine lv_aload_n hx hb dX7_joins_61 rfl (lv_at hl 0 rfl) ?_
            refine lv_iload_n hx hb dX7_joins_62 rfl (lv_at hl 3 rfl) ?_
            refine lv_iconst (v := 1) hx hb dX7_joins_63 (by decide) ?_
            refine lv_iload_n hx hb dX7_joins_64 rfl (lv_at hl 1 rfl) ?_
            refine cw_X7_41 C hJ (rest := []) (c_X7_setU hE u_58 (P) 1 (by omega) (by decide) (rfl) (rfl) p0) dX7_joins_65 hl.1 ⟨Nat.le_of_ble_eq_true rfl, Nat.le_of_ble_eq_true rfl⟩ ⟨Nat.le_refl _, Nat.le_refl _⟩ (Nat.le_of_ble_eq_true rfl) rfl rfl (fun vr S_65 H locs hP hJ => ?_)
            obtain ⟨rfl, u_65, o_65⟩ := hP
            refine lv_aload_n hx hb dX7_joins_68 rfl (lv_at hl 0 rfl) ?_
            refine lv_iload_n hx hb dX7_joins_69 rfl (lv_at hl 3 rfl) ?_
            refine lv_iconst (v := 2) hx hb dX7_joins_70 (by decide) ?_
            refine lv_iload_n hx hb dX7_joins_71 rfl (lv_at hl 1 rfl) ?_
            refine cw_X7_41 C hJ (rest := []) (c_X7_setU hE u_65 (P) 2 (by omega) (by decide) (rfl) (rfl) p0) dX7_joins_72 hl.1 ⟨Nat.le_of_ble_eq_true rfl, Nat.le_of_ble_eq_true rfl⟩ ⟨Nat.le_refl _, Nat.le_refl _⟩ (Nat.le_of_ble_eq_true rfl) rfl rfl (fun vr S_72 H locs hP hJ => ?_)
            obtain ⟨rfl, u_72, o_72⟩ := hP
            refine lv_aload_n hx hb dX7_joins_75 rfl (lv_at hl 0 rfl) ?_
            refine lv_iload_n hx hb dX7_joins_76 rfl (lv_at hl 3 rfl) ?_
            refine lv_iconst (v := 3) hx hb dX7_joins_77 (by decide) ?_
            refine lv_iload_n hx hb dX7_joins_78 rfl (lv_at hl 2 rfl) ?_
            refine cw_X7_41 C hJ (rest := []) (c_X7_setU hE u_72 (P) 3 (by omega) (by decide) (rfl) (rfl) p1) dX7_joins_79 hl.1 ⟨Nat.le_of_ble_eq_true rfl, Nat.le_of_ble_eq_true rfl⟩ ⟨Nat.le_refl _, Nat.le_refl _⟩ (Nat.le_of_ble_eq_true rfl) rfl rfl (fun vr S_79 H locs hP hJ => ?_)
            obtain ⟨rfl, u_79, o_79⟩ := hP
            refine lv_aload_n hx hb dX7_joins_82 rfl (lv_at hl 0 rfl) ?_
            refine lv_iload_n hx hb dX7_joins_83 rfl (lv_at hl 3 rfl) ?_
            refine lv_iconst (v := 4) hx hb dX7_joins_84 (by decide) ?_
            refine lv_iconst (v := 0) hx hb dX7_joins_85 (by decide) ?_
            refine cw_X7_41 C hJ (rest := []) (c_X7_setU hE u_79 (P) 4 (by omega) (by decide) (rfl) (rfl) 0) dX7_joins_86 hl.1 ⟨Nat.le_of_ble_eq_true rfl, Nat.le_of_ble_eq_true rfl⟩ ⟨Nat.le_refl _, Nat.le_refl _⟩ (Nat.le_of_ble_eq_true rfl) rfl rfl (fun vr S_86 H locs hP hJ => ?_)
            obtain ⟨rfl, u_86, o_86⟩ := hP
            refine lv_aload_n hx hb dX7_joins_89 rfl (lv_at hl 0 rfl) ?_
            refine lv_iload_n hx hb dX7_joins_90 rfl (lv_at hl 3 rfl) ?_
            refine lv_iconst (v := 5) hx hb dX7_joins_91 (by decide) ?_
            refine lv_iconst (v := (-1)) hx hb dX7_joins_92 (by decide) ?_
            refine cw_X7_41 C hJ (rest := []) (c_X7_setU hE u_86 (P) 5 (by omega) (by decide) (rfl) (rfl) (-1)) dX7_joins_93 hl.1 ⟨Nat.le_of_ble_eq_true rfl, Nat.le_of_ble_eq_true rfl⟩ ⟨Nat.le_refl _, Nat.le_refl _⟩ (Nat.le_of_ble_eq_true rfl) rfl rfl (fun vr S_93 H locs hP hJ => ?_)
            obtain ⟨rfl, u_93, o_93⟩ := hP
            refine lv_aload_n hx hb dX7_joins_96 rfl (lv_at hl 0 rfl) ?_
            refine lv_iload_n hx hb dX7_joins_97 rfl (lv_at hl 3 rfl) ?_
            refine lv_bipush (v := 6) hx hb dX7_joins_98 (by decide) ?_
            refine lv_iconst (v := 0) hx hb dX7_joins_100 (by decide) ?_
            refine cw_X7_41 C hJ (rest := []) (c_X7_setU hE u_93 (P) 6 (by omega) (by decide) (rfl) (rfl) 0) dX7_joins_101 hl.1 ⟨Nat.le_of_ble_eq_true rfl, Nat.le_of_ble_eq_true rfl⟩ ⟨Nat.le_refl _, Nat.le_refl _⟩ (Nat.le_of_ble_eq_true rfl) rfl rfl (fun vr S_101 H locs hP hJ => ?_)
            obtain ⟨rfl, u_101, o_101⟩ := hP
            refine lv_aload_n hx hb dX7_joins_104 rfl (lv_at hl 0 rfl) ?_
            refine g_X7_7 C hJ dX7_joins_105 ?_
            refine lv_iconst (v := 0) hx hb dX7_joins_108 (by decide) ?_
            refine lv_dup2_11 hx hb dX7_joins_109 rfl rfl ?_
            refine a_ro C hJ (P := 0) (rfl) (by decide) dX7_joins_110 ?_
            refine lv_iconst (v := 1) hx hb dX7_joins_111 (by decide) ?_
            refine lv_iadd hx hb dX7_joins_112 ?_
            refine t_ro C hJ (P := 0) (rfl) (by decide) dX7_joins_113 (fun H locs hJ => ?_)
            obtain ⟨S_113, hS_113⟩ : ∃ z : ST, z = setM S_101 (mRo (sM S_101) 0 (((sM S_101).2.1 0) + 1)) := ⟨_, rfl⟩
            rw [← hS_113] at hJ
            have v_113 := u_101.head (x := 0) (by decide) hS_113
            have e_113 : (sM S_101).2.1 0 + 1 = nI (n + 1) := by rw [u_101.1 0 (by decide), hn0, nI_1]
            rw [e_113] at v_113
            refine lv_aload_n hx hb dX7_joins_114 rfl (lv_at hl 0 rfl) ?_
            refine g_X7_7 C hJ dX7_joins_115 ?_
            refine lv_iconst (v := 5) hx hb dX7_joins_118 (by decide) ?_
            refine lv_dup2_11 hx hb dX7_joins_119 rfl rfl ?_
            refine a_ro C hJ (P := 5) (rfl) (by decide) dX7_joins_120 ?_
            refine lv_iconst (v := 1) hx hb dX7_joins_121 (by decide) ?_
            refine lv_iadd hx hb dX7_joins_122 ?_
            refine t_ro C hJ (P := 5) (rfl) (by decide) dX7_joins_123 (fun H locs hJ => ?_)
            obtain ⟨S_123, hS_123⟩ : ∃ z : ST, z = setM S_113 (mRo (sM S_113) 5 (((sM S_113).2.1 5) + 1)) := ⟨_, rfl⟩
            rw [← hS_123] at hJ
            have v_123 := v_113.head (x := 5) (by decide) hS_123
            have e_123 : (sM S_113).2.1 5 + 1 = u_r 5 + 1 := by rw [v_113.1 5 (by decide)]; rfl
            rw [e_123, uA.1 5 (by decide)] at v_123
            refine lv_aload_n hx hb dX7_joins_124 rfl (lv_at hl 0 rfl) ?_
            refine g_X7_7 C hJ dX7_joins_125 ?_
            refine lv_iconst (v := 5) hx hb dX7_joins_128 (by decide) ?_
            refine a_ro C hJ (P := 5) (rfl) (by decide) dX7_joins_129 ?_
            refine lv_iconst (v := 1) hx hb dX7_joins_130 (by decide) ?_
            refine lv_isub hx hb dX7_joins_131 ?_
            exact rW_i C hJ hr rfl (⟨by rw [v_123.1 5 (by decide)]; show some (Value.int (u_r 5 + 1 - 1)) = _; rw [Int32.add_sub_cancel], v_123, (((((((oA.t o_58).t o_65).t o_72).t o_79).t o_86).t o_93).t o_101).t ((RO.put (by decide) hS_113).t (RO.put (by decide) hS_123))⟩) dX7_joins_132
        · skip
          have hlt2 : P < i := by
            rcases Nat.lt_or_ge P i with q | q
            · exact q
            · exact absurd (nI_le q (by omega)) c_11
          refine lv_aload_n hx hb dX7_joins_14 rfl (lv_at hl 0 rfl) ?_
          refine lv_iload hx hb dX7_joins_15 (lv_at hl 4 rfl) ?_
          refine lv_iconst (v := 1) hx hb dX7_joins_17 (by decide) ?_
          refine lv_isub hx hb dX7_joins_18 ?_
          refine lv_iload hx hb dX7_joins_19 (lv_at hl 4 rfl) ?_
          refine cw_X7_49 C hJ (rest := []) (c_X7_brings hE hu (i - 1) (i) (by omega) (by omega) (by omega) (nI_pd (by omega)) (rfl)) dX7_joins_21 hl.1 ⟨Nat.le_of_ble_eq_true rfl, Nat.le_of_ble_eq_true rfl⟩ ⟨Nat.le_refl _, Nat.le_refl _⟩ (Nat.le_of_ble_eq_true rfl) rfl rfl (fun vr S_21 H locs hP hJ => ?_)
          obtain ⟨rfl, u_21, o_21⟩ := hP
          have hu2 : UZ S_21 u_r (ujs u_u (i - 1) n) := by
            have y := ujs_s u_u (i := i - 1) (n := n) (by omega)
            rw [show i - 1 + 1 = i by omega] at y
            rw [← y]; exact u_21
          refine lv_iinc (v := nI (i - 1)) (lv' := [(4, .int (nI (i - 1))), (0, .ref (gA E 84)), (1, .int p0), (2, .int p1), (3, .int (nI P))]) hx hb dX7_joins_24 hl (k := 4) rfl (by exact nI_pm (by omega)) (by decide) rfl (fun ls hl => ?_)
          refine lv_goto (tgt := 8) hx hb dX7_joins_27 (by decide) ?_
          exact ih_lp (i - 1) S_21 H locs _ ⟨by omega, by omega⟩ (by omega) hu2 (ho.t o_21) hJ (lv_sub hl [1, 2, 3, 4, 0] rfl)
    exact lp (n + 1) n S s.heap [] _ ⟨hP0, Nat.le_refl _⟩ (by omega) (by rw [ujs_0]; exact hU) (RO.r S) hJ (lv_sub hl [1, 2, 3, 4, 0] rfl)
set_option maxHeartbeats 4000000 in
set_option maxRecDepth 100000 in
theorem c_X7_goes {l : Launch} {E : GE} (hE : Env0 E) {S : ST} {u_r : Nat → Int32} {u_u : Nat → Nat → Int32} (hU : UZ S u_r u_u) {n : Nat} (hn0 : u_r 0 = nI n) (hn : n ≤ 10) (P : Nat) (hP0 : P < n) : MW l E yX7_goes cX7_goes 3 (none : Option Jvm.ClassFile.FieldType) 2 46 S [.ref (gA E 84), .int (nI P)] (fun v S1 => v = none ∧ UZ S1 (upd u_r 0 (nI (n - 1))) (ugo u_u n P) ∧ RO S S1) := by
  refine MW.of hE (by decide) (Nat.le_of_ble_eq_true rfl) ?_
  intro p e s m below meth c ls C hJ hr hl
  have hx := C.x
  have hb := C.b
  have hl : lv_has ls 3 [(0, .ref (gA E 84)), (1, .int (nI P))] := hl
  refine lv_iload_n hx hb dX7_goes_0 rfl (lv_at hl 1 rfl) ?_
  refine lv_if_le (tgt := 14) hx hb dX7_goes_1 (by decide) (fun c_1 => ?_) (fun c_1 => ?_)
  · skip
    have h0 : P = 0 := by
      rcases Nat.eq_zero_or_pos P with q | q
      · exact q
      · exact absurd c_1 (nI_nle q (by omega))
    have uA : UZ S u_r (ug1 u_u P) := by unfold ug1; rw [if_neg (by omega)]; exact hU
    have oA : RO S S := RO.r S
    refine lv_aload_n hx hb dX7_goes_14 rfl (lv_at hl 0 rfl) ?_
    refine g_X7_7 C hJ dX7_goes_15 ?_
    refine lv_iconst (v := 0) hx hb dX7_goes_18 (by decide) ?_
    refine lv_dup2_11 hx hb dX7_goes_19 rfl rfl ?_
    refine a_ro C hJ (P := 0) (rfl) (by decide) dX7_goes_20 ?_
    refine lv_iconst (v := 1) hx hb dX7_goes_21 (by decide) ?_
    refine lv_isub hx hb dX7_goes_22 ?_
    refine t_ro C hJ (P := 0) (rfl) (by decide) dX7_goes_23 (fun H locs hJ => ?_)
    obtain ⟨S_23, hS_23⟩ : ∃ z : ST, z = setM S (mRo (sM S) 0 (((sM S).2.1 0) - 1)) := ⟨_, rfl⟩
    rw [← hS_23] at hJ
    have v_23 := uA.head (x := 0) (by decide) hS_23
    rw [uA.1 0 (by decide), hn0, nI_pd (by omega)] at v_23
    have oB : RO S S_23 := oA.t (RO.put (by decide) hS_23)
    refine lv_iload_n hx hb dX7_goes_24 rfl (lv_at hl 1 rfl) ?_
    refine lv_istore_n (lv' := [(2, .int (nI P)), (0, .ref (gA E 84)), (1, .int (nI P))]) hx hb dX7_goes_25 rfl hl (by decide) rfl (fun ls hl => ?_)
    have lp : ∀ (d : Nat) (i : Nat) (T : ST) (H : Heap) (locs : List Loc) (ls : Array Slot), (P ≤ i ∧ i ≤ n - 1) → (n - 1 < i + d) → (UZ T (upd u_r 0 (nI (n - 1))) (usl (ug1 u_u P) P i)) → (RO S T) → JJ E T H locs → lv_has ls 3 [(0, .ref (gA E 84)), (1, .int (nI P)), (2, .int (nI i))] → W p l e (rmZ 2 46) s m ([.ref (gA E 84), .int (nI P)] : List Value).toArray below meth c H locs 0 0 (WQ below ([.ref (gA E 84), .int (nI P)] : List Value).toArray s E (fun v S1 => v = none ∧ UZ S1 (upd u_r 0 (nI (n - 1))) (ugo u_u n P) ∧ RO S S1)) (F0 m 26 ls []) := by
      intro d
      induction d with
      | zero =>
        intro i T H locs ls hi hd hu ho hJ hl
        omega
      | succ d ih_lp =>
        intro i T H locs ls hi hd hu ho hJ hl
        refine lv_iload_n hx hb dX7_goes_26 rfl (lv_at hl 2 rfl) ?_
        refine lv_aload_n hx hb dX7_goes_27 rfl (lv_at hl 0 rfl) ?_
        refine g_X7_7 C hJ dX7_goes_28 ?_
        refine lv_iconst (v := 0) hx hb dX7_goes_31 (by decide) ?_
        refine a_ro C hJ (P := 0) (rfl) (by decide) dX7_goes_32 ?_
        refine lv_icmp_ge (tgt := 50) hx hb dX7_goes_33 (by decide) (fun c_33 => ?_) (fun c_33 => ?_)
        · skip
          have e9 : i = n - 1 := by rw [hu.1 0 (by decide)] at c_33; have := (nI_leI (a := n - 1) (b := i) (by omega) (by omega)).mp c_33; omega
          rw [e9] at hu
          refine lv_iload_n hx hb dX7_goes_50 rfl (lv_at hl 1 rfl) ?_
          refine lv_aload_n hx hb dX7_goes_51 rfl (lv_at hl 0 rfl) ?_
          refine g_X7_7 C hJ dX7_goes_52 ?_
          refine lv_iconst (v := 0) hx hb dX7_goes_55 (by decide) ?_
          refine a_ro C hJ (P := 0) (rfl) (by decide) dX7_goes_56 ?_
          refine lv_icmp_ge (tgt := 67) hx hb dX7_goes_57 (by decide) (fun c_57 => ?_) (fun c_57 => ?_)
          · skip
            have hge : n - 1 ≤ P := by rw [hu.1 0 (by decide)] at c_57; exact (nI_leI (a := n - 1) (b := P) (by omega) (by omega)).mp c_57
            exact rW_v C hJ hr (⟨rfl, by unfold ugo; rw [if_neg (by omega)]; exact hu, ho⟩) dX7_goes_67
          · skip
            have hlt9 : P < n - 1 := by
              rcases Nat.lt_or_ge P (n - 1) with q | q
              · exact q
              · exact absurd (by rw [hu.1 0 (by decide)]; exact nI_le q (by omega)) c_57
            refine lv_aload_n hx hb dX7_goes_60 rfl (lv_at hl 0 rfl) ?_
            refine lv_iload_n hx hb dX7_goes_61 rfl (lv_at hl 1 rfl) ?_
            refine lv_iconst (v := 5) hx hb dX7_goes_62 (by decide) ?_
            refine lv_iconst (v := (-1)) hx hb dX7_goes_63 (by decide) ?_
            refine cw_X7_41 C hJ (rest := []) (c_X7_setU hE hu (P) 5 (by omega) (by decide) (rfl) (rfl) (-1)) dX7_goes_64 hl.1 ⟨Nat.le_of_ble_eq_true rfl, Nat.le_of_ble_eq_true rfl⟩ ⟨Nat.le_refl _, Nat.le_refl _⟩ (Nat.le_of_ble_eq_true rfl) rfl rfl (fun vr S_64 H locs hP hJ => ?_)
            obtain ⟨rfl, u_64, o_64⟩ := hP
            exact rW_v C hJ hr (⟨rfl, by unfold ugo; rw [if_pos hlt9]; exact u_64, ho.t o_64⟩) dX7_goes_67
        · skip
          have hlt : i < n - 1 := by
            rcases Nat.lt_or_ge i (n - 1) with q | q
            · exact q
            · exact absurd (by rw [hu.1 0 (by decide)]; exact nI_le q (by omega)) c_33
          refine lv_aload_n hx hb dX7_goes_36 rfl (lv_at hl 0 rfl) ?_
          refine lv_iload_n hx hb dX7_goes_37 rfl (lv_at hl 2 rfl) ?_
          refine lv_iconst (v := 1) hx hb dX7_goes_38 (by decide) ?_
          refine lv_iadd hx hb dX7_goes_39 ?_
          refine lv_iload_n hx hb dX7_goes_40 rfl (lv_at hl 2 rfl) ?_
          refine cw_X7_49 C hJ (rest := []) (c_X7_brings hE hu (i + 1) (i) (by omega) (by omega) (by omega) (nI_1 _) (rfl)) dX7_goes_41 hl.1 ⟨Nat.le_of_ble_eq_true rfl, Nat.le_of_ble_eq_true rfl⟩ ⟨Nat.le_refl _, Nat.le_refl _⟩ (Nat.le_of_ble_eq_true rfl) rfl rfl (fun vr S_41 H locs hP hJ => ?_)
          obtain ⟨rfl, u_41, o_41⟩ := hP
          have hu2 : UZ S_41 (upd u_r 0 (nI (n - 1))) (usl (ug1 u_u P) P (i + 1)) := by rw [← usl_s _ hi.1]; exact u_41
          refine lv_iinc (v := nI (i + 1)) (lv' := [(2, .int (nI (i + 1))), (0, .ref (gA E 84)), (1, .int (nI P))]) hx hb dX7_goes_44 hl (k := 2) rfl (by exact nI_1 i) (by decide) rfl (fun ls hl => ?_)
          refine lv_goto (tgt := 26) hx hb dX7_goes_47 (by decide) ?_
          exact ih_lp (i + 1) S_41 H locs _ ⟨by omega, by omega⟩ (by omega) hu2 (ho.t o_41) hJ (lv_sub hl [1, 2, 0] rfl)
    exact lp (n + 1) P S_23 H locs _ ⟨Nat.le_refl _, by omega⟩ (by omega) (by rw [usl_0]; exact v_23) oB hJ (lv_sub hl [1, 2, 0] rfl)
  · skip
    have h0 : 0 < P := by
      rcases Nat.eq_zero_or_pos P with q | q
      · exact absurd (by rw [q]; decide) c_1
      · exact q
    refine lv_aload_n hx hb dX7_goes_4 rfl (lv_at hl 0 rfl) ?_
    refine lv_iload_n hx hb dX7_goes_5 rfl (lv_at hl 1 rfl) ?_
    refine lv_iconst (v := 1) hx hb dX7_goes_6 (by decide) ?_
    refine lv_isub hx hb dX7_goes_7 ?_
    refine lv_bipush (v := 6) hx hb dX7_goes_8 (by decide) ?_
    refine lv_iconst (v := 0) hx hb dX7_goes_10 (by decide) ?_
    refine cw_X7_41 C hJ (rest := []) (c_X7_setU hE hU (P - 1) 6 (by omega) (by decide) (nI_pd (by omega)) (rfl) 0) dX7_goes_11 hl.1 ⟨Nat.le_of_ble_eq_true rfl, Nat.le_of_ble_eq_true rfl⟩ ⟨Nat.le_refl _, Nat.le_refl _⟩ (Nat.le_of_ble_eq_true rfl) rfl rfl (fun vr S_11 H locs hP hJ => ?_)
    obtain ⟨rfl, u_11, o_11⟩ := hP
    have uA : UZ S_11 u_r (ug1 u_u P) := by unfold ug1; rw [if_pos h0]; exact u_11
    have oA : RO S S_11 := o_11
    refine lv_aload_n hx hb dX7_goes_14 rfl (lv_at hl 0 rfl) ?_
    refine g_X7_7 C hJ dX7_goes_15 ?_
    refine lv_iconst (v := 0) hx hb dX7_goes_18 (by decide) ?_
    refine lv_dup2_11 hx hb dX7_goes_19 rfl rfl ?_
    refine a_ro C hJ (P := 0) (rfl) (by decide) dX7_goes_20 ?_
    refine lv_iconst (v := 1) hx hb dX7_goes_21 (by decide) ?_
    refine lv_isub hx hb dX7_goes_22 ?_
    refine t_ro C hJ (P := 0) (rfl) (by decide) dX7_goes_23 (fun H locs hJ => ?_)
    obtain ⟨S_23, hS_23⟩ : ∃ z : ST, z = setM S_11 (mRo (sM S_11) 0 (((sM S_11).2.1 0) - 1)) := ⟨_, rfl⟩
    rw [← hS_23] at hJ
    have v_23 := uA.head (x := 0) (by decide) hS_23
    rw [uA.1 0 (by decide), hn0, nI_pd (by omega)] at v_23
    have oB : RO S S_23 := oA.t (RO.put (by decide) hS_23)
    refine lv_iload_n hx hb dX7_goes_24 rfl (lv_at hl 1 rfl) ?_
    refine lv_istore_n (lv' := [(2, .int (nI P)), (0, .ref (gA E 84)), (1, .int (nI P))]) hx hb dX7_goes_25 rfl hl (by decide) rfl (fun ls hl => ?_)
    have lp : ∀ (d : Nat) (i : Nat) (T : ST) (H : Heap) (locs : List Loc) (ls : Array Slot), (P ≤ i ∧ i ≤ n - 1) → (n - 1 < i + d) → (UZ T (upd u_r 0 (nI (n - 1))) (usl (ug1 u_u P) P i)) → (RO S T) → JJ E T H locs → lv_has ls 3 [(0, .ref (gA E 84)), (1, .int (nI P)), (2, .int (nI i))] → W p l e (rmZ 2 46) s m ([.ref (gA E 84), .int (nI P)] : List Value).toArray below meth c H locs 0 0 (WQ below ([.ref (gA E 84), .int (nI P)] : List Value).toArray s E (fun v S1 => v = none ∧ UZ S1 (upd u_r 0 (nI (n - 1))) (ugo u_u n P) ∧ RO S S1)) (F0 m 26 ls []) := by
      intro d
      induction d with
      | zero =>
        intro i T H locs ls hi hd hu ho hJ hl
        omega
      | succ d ih_lp =>
        intro i T H locs ls hi hd hu ho hJ hl
        refine lv_iload_n hx hb dX7_goes_26 rfl (lv_at hl 2 rfl) ?_
        refine lv_aload_n hx hb dX7_goes_27 rfl (lv_at hl 0 rfl) ?_
        refine g_X7_7 C hJ dX7_goes_28 ?_
        refine lv_iconst (v := 0) hx hb dX7_goes_31 (by decide) ?_
        refine a_ro C hJ (P := 0) (rfl) (by decide) dX7_goes_32 ?_
        refine lv_icmp_ge (tgt := 50) hx hb dX7_goes_33 (by decide) (fun c_33 => ?_) (fun c_33 => ?_)
        · skip
          have e9 : i = n - 1 := by rw [hu.1 0 (by decide)] at c_33; have := (nI_leI (a := n - 1) (b := i) (by omega) (by omega)).mp c_33; omega
          rw [e9] at hu
          refine lv_iload_n hx hb dX7_goes_50 rfl (lv_at hl 1 rfl) ?_
          refine lv_aload_n hx hb dX7_goes_51 rfl (lv_at hl 0 rfl) ?_
          refine g_X7_7 C hJ dX7_goes_52 ?_
          refine lv_iconst (v := 0) hx hb dX7_goes_55 (by decide) ?_
          refine a_ro C hJ (P := 0) (rfl) (by decide) dX7_goes_56 ?_
          refine lv_icmp_ge (tgt := 67) hx hb dX7_goes_57 (by decide) (fun c_57 => ?_) (fun c_57 => ?_)
          · skip
            have hge : n - 1 ≤ P := by rw [hu.1 0 (by decide)] at c_57; exact (nI_leI (a := n - 1) (b := P) (by omega) (by omega)).mp c_57
            exact rW_v C hJ hr (⟨rfl, by unfold ugo; rw [if_neg (by omega)]; exact hu, ho⟩) dX7_goes_67
          · skip
            have hlt9 : P < n - 1 := by
              rcases Nat.lt_or_ge P (n - 1) with q | q
              · exact q
              · exact absurd (by rw [hu.1 0 (by decide)]; exact nI_le q (by omega)) c_57
            refine lv_aload_n hx hb dX7_goes_60 rfl (lv_at hl 0 rfl) ?_
            refine lv_iload_n hx hb dX7_goes_61 rfl (lv_at hl 1 rfl) ?_
            refine lv_iconst (v := 5) hx hb dX7_goes_62 (by decide) ?_
            refine lv_iconst (v := (-1)) hx hb dX7_goes_63 (by decide) ?_
            refine cw_X7_41 C hJ (rest := []) (c_X7_setU hE hu (P) 5 (by omega) (by decide) (rfl) (rfl) (-1)) dX7_goes_64 hl.1 ⟨Nat.le_of_ble_eq_true rfl, Nat.le_of_ble_eq_true rfl⟩ ⟨Nat.le_refl _, Nat.le_refl _⟩ (Nat.le_of_ble_eq_true rfl) rfl rfl (fun vr S_64 H locs hP hJ => ?_)
            obtain ⟨rfl, u_64, o_64⟩ := hP
            exact rW_v C hJ hr (⟨rfl, by unfold ugo; rw [if_pos hlt9]; exact u_64, ho.t o_64⟩) dX7_goes_67
        · skip
          have hlt : i < n - 1 := by
            rcases Nat.lt_or_ge i (n - 1) with q | q
            · exact q
            · exact absurd (by rw [hu.1 0 (by decide)]; exact nI_le q (by omega)) c_33
          refine lv_aload_n hx hb dX7_goes_36 rfl (lv_at hl 0 rfl) ?_
          refine lv_iload_n hx hb dX7_goes_37 rfl (lv_at hl 2 rfl) ?_
          refine lv_iconst (v := 1) hx hb dX7_goes_38 (by decide) ?_
          refine lv_iadd hx hb dX7_goes_39 ?_
          refine lv_iload_n hx hb dX7_goes_40 rfl (lv_at hl 2 rfl) ?_
          refine cw_X7_49 C hJ (rest := []) (c_X7_brings hE hu (i + 1) (i) (by omega) (by omega) (by omega) (nI_1 _) (rfl)) dX7_goes_41 hl.1 ⟨Nat.le_of_ble_eq_true rfl, Nat.le_of_ble_eq_true rfl⟩ ⟨Nat.le_refl _, Nat.le_refl _⟩ (Nat.le_of_ble_eq_true rfl) rfl rfl (fun vr S_41 H locs hP hJ => ?_)
          obtain ⟨rfl, u_41, o_41⟩ := hP
          have hu2 : UZ S_41 (upd u_r 0 (nI (n - 1))) (usl (ug1 u_u P) P (i + 1)) := by rw [← usl_s _ hi.1]; exact u_41
          refine lv_iinc (v := nI (i + 1)) (lv' := [(2, .int (nI (i + 1))), (0, .ref (gA E 84)), (1, .int (nI P))]) hx hb dX7_goes_44 hl (k := 2) rfl (by exact nI_1 i) (by decide) rfl (fun ls hl => ?_)
          refine lv_goto (tgt := 26) hx hb dX7_goes_47 (by decide) ?_
          exact ih_lp (i + 1) S_41 H locs _ ⟨by omega, by omega⟩ (by omega) hu2 (ho.t o_41) hJ (lv_sub hl [1, 2, 0] rfl)
    exact lp (n + 1) P S_23 H locs _ ⟨Nat.le_refl _, by omega⟩ (by omega) (by rw [usl_0]; exact v_23) oB hJ (lv_sub hl [1, 2, 0] rfl)
