/-! MODEL: why a command is refused, what it does (by program) -/
set_option maxHeartbeats 4000000 in
set_option maxRecDepth 100000 in
theorem c_X7_whyNot {l : Launch} {E : GE} (hE : Env0 E) {S : ST} {n : Nat} {z : Nat → Int32} {mm : Nat → Nat → Int32} (hR : RI S n z mm) (hM : MmOk n mm) {u_j : Nat} (hj : u_j < 11) (p0 p1 p2 : Int32) : MR l E yX7_whyNot cX7_whyNot 5 (some .int) 5 107 S [.ref (gA E 84), .int (nI (u_j + 1)), .int p0, .int p1, .int p2] (some (.int (m_c u_j (f_ft (gof n mm) n u_j p0 p1 p2)))) := by
  have hn := hR.n10
  refine MR.of hE (by decide) (Nat.le_of_ble_eq_true rfl) ?_
  intro p e s m below meth c ls C hJ hr hl
  have hx := C.x
  have hb := C.b
  have hl : lv_has ls 5 [(0, .ref (gA E 84)), (1, .int (nI (u_j + 1))), (2, .int p0), (3, .int p1), (4, .int p2)] := hl
  refine lv_iload_n hx hb dX7_whyNot_0 rfl (lv_at hl 1 rfl) ?_
  rcases (show u_j = 0 ∨ u_j = 1 ∨ u_j = 2 ∨ u_j = 3 ∨ u_j = 4 ∨ u_j = 5 ∨ u_j = 6 ∨ u_j = 7 ∨ u_j = 8 ∨ u_j = 9 ∨ u_j = 10 by omega) with e_sw | e_sw | e_sw | e_sw | e_sw | e_sw | e_sw | e_sw | e_sw | e_sw | e_sw
  · skip
    refine lv_tableIn (off := 55) (tgt := 56) hx hb dX7_whyNot_1 (by rw [e_sw]; decide) (by rw [e_sw]; decide) (by rw [e_sw]; rfl) (by decide) ?_
    refine lv_aload_n hx hb dX7_whyNot_56 rfl (lv_at hl 0 rfl) ?_
    refine lv_iload_n hx hb dX7_whyNot_57 rfl (lv_at hl 2 rfl) ?_
    refine lv_iload_n hx hb dX7_whyNot_58 rfl (lv_at hl 3 rfl) ?_
    refine lv_aload_n hx hb dX7_whyNot_59 rfl (lv_at hl 0 rfl) ?_
    refine g_X7_7 C hJ dX7_whyNot_60 ?_
    refine lv_iconst (v := 0) hx hb dX7_whyNot_63 (by decide) ?_
    refine a_ro C hJ (P := 0) (rfl) (by decide) dX7_whyNot_64 ?_
    rw [hR.many]
    · skip
      refine cr_X7_52 C hJ (rest := []) (c_X7_whyNotJoin hE hR hM p0 p1 (nI n)) dX7_whyNot_65 hl.1 ⟨Nat.le_of_ble_eq_true rfl, Nat.le_of_ble_eq_true rfl⟩ ⟨Nat.le_refl _, Nat.le_refl _⟩ (Nat.le_of_ble_eq_true rfl) rfl rfl ?_
      exact rR_i C hr rfl (by rw [e_sw]; rfl) dX7_whyNot_68
  · skip
    refine lv_tableIn (off := 68) (tgt := 69) hx hb dX7_whyNot_1 (by rw [e_sw]; decide) (by rw [e_sw]; decide) (by rw [e_sw]; rfl) (by decide) ?_
    refine lv_aload_n hx hb dX7_whyNot_69 rfl (lv_at hl 0 rfl) ?_
    refine lv_iload_n hx hb dX7_whyNot_70 rfl (lv_at hl 2 rfl) ?_
    refine lv_iload_n hx hb dX7_whyNot_71 rfl (lv_at hl 3 rfl) ?_
    refine lv_iload hx hb dX7_whyNot_72 (lv_at hl 4 rfl) ?_
    refine cr_X7_52 C hJ (rest := []) (c_X7_whyNotJoin hE hR hM p0 p1 p2) dX7_whyNot_74 hl.1 ⟨Nat.le_of_ble_eq_true rfl, Nat.le_of_ble_eq_true rfl⟩ ⟨Nat.le_refl _, Nat.le_refl _⟩ (Nat.le_of_ble_eq_true rfl) rfl rfl ?_
    exact rR_i C hr rfl (by rw [e_sw]; rfl) dX7_whyNot_77
  · skip
    refine lv_tableIn (off := 77) (tgt := 78) hx hb dX7_whyNot_1 (by rw [e_sw]; decide) (by rw [e_sw]; decide) (by rw [e_sw]; rfl) (by decide) ?_
    refine lv_aload_n hx hb dX7_whyNot_78 rfl (lv_at hl 0 rfl) ?_
    refine lv_iload_n hx hb dX7_whyNot_79 rfl (lv_at hl 2 rfl) ?_
    refine cr_X7_66 C hJ (rest := []) (c_X7_whyNoMember hE hR p0) dX7_whyNot_80 hl.1 ⟨Nat.le_of_ble_eq_true rfl, Nat.le_of_ble_eq_true rfl⟩ ⟨Nat.le_refl _, Nat.le_refl _⟩ (Nat.le_of_ble_eq_true rfl) rfl rfl ?_
    exact rR_i C hr rfl (by rw [e_sw]; rfl) dX7_whyNot_83
  · skip
    refine lv_tableIn (off := 83) (tgt := 84) hx hb dX7_whyNot_1 (by rw [e_sw]; decide) (by rw [e_sw]; decide) (by rw [e_sw]; rfl) (by decide) ?_
    refine lv_aload_n hx hb dX7_whyNot_84 rfl (lv_at hl 0 rfl) ?_
    refine lv_iload_n hx hb dX7_whyNot_85 rfl (lv_at hl 2 rfl) ?_
    refine lv_iload_n hx hb dX7_whyNot_86 rfl (lv_at hl 3 rfl) ?_
    refine cr_X7_77 C hJ (rest := []) (c_X7_whyNotSay hE hR p0 p1) dX7_whyNot_87 hl.1 ⟨Nat.le_of_ble_eq_true rfl, Nat.le_of_ble_eq_true rfl⟩ ⟨Nat.le_refl _, Nat.le_refl _⟩ (Nat.le_of_ble_eq_true rfl) rfl rfl ?_
    exact rR_i C hr rfl (by rw [e_sw]; rfl) dX7_whyNot_90
  · skip
    refine lv_tableIn (off := 90) (tgt := 91) hx hb dX7_whyNot_1 (by rw [e_sw]; decide) (by rw [e_sw]; decide) (by rw [e_sw]; rfl) (by decide) ?_
    refine lv_aload_n hx hb dX7_whyNot_91 rfl (lv_at hl 0 rfl) ?_
    refine lv_iload_n hx hb dX7_whyNot_92 rfl (lv_at hl 2 rfl) ?_
    refine lv_iload_n hx hb dX7_whyNot_93 rfl (lv_at hl 3 rfl) ?_
    refine cr_X7_95 C hJ (rest := []) (c_X7_whyNotOffer hE hR p0 p1) dX7_whyNot_94 hl.1 ⟨Nat.le_of_ble_eq_true rfl, Nat.le_of_ble_eq_true rfl⟩ ⟨Nat.le_refl _, Nat.le_refl _⟩ (Nat.le_of_ble_eq_true rfl) rfl rfl ?_
    exact rR_i C hr rfl (by rw [e_sw]; rfl) dX7_whyNot_97
  · skip
    refine lv_tableIn (off := 97) (tgt := 98) hx hb dX7_whyNot_1 (by rw [e_sw]; decide) (by rw [e_sw]; decide) (by rw [e_sw]; rfl) (by decide) ?_
    refine lv_aload_n hx hb dX7_whyNot_98 rfl (lv_at hl 0 rfl) ?_
    refine lv_iload_n hx hb dX7_whyNot_99 rfl (lv_at hl 2 rfl) ?_
    refine cr_X7_110 C hJ (rest := []) (c_X7_whyNotTake hE hR hM p0) dX7_whyNot_100 hl.1 ⟨Nat.le_of_ble_eq_true rfl, Nat.le_of_ble_eq_true rfl⟩ ⟨Nat.le_refl _, Nat.le_refl _⟩ (Nat.le_of_ble_eq_true rfl) rfl rfl ?_
    exact rR_i C hr rfl (by rw [e_sw]; rfl) dX7_whyNot_103
  · skip
    refine lv_tableIn (off := 103) (tgt := 104) hx hb dX7_whyNot_1 (by rw [e_sw]; decide) (by rw [e_sw]; decide) (by rw [e_sw]; rfl) (by decide) ?_
    refine lv_aload_n hx hb dX7_whyNot_104 rfl (lv_at hl 0 rfl) ?_
    refine lv_iload_n hx hb dX7_whyNot_105 rfl (lv_at hl 2 rfl) ?_
    refine cr_X7_119 C hJ (rest := []) (c_X7_whyNotSwap hE hR hM p0) dX7_whyNot_106 hl.1 ⟨Nat.le_of_ble_eq_true rfl, Nat.le_of_ble_eq_true rfl⟩ ⟨Nat.le_refl _, Nat.le_refl _⟩ (Nat.le_of_ble_eq_true rfl) rfl rfl ?_
    exact rR_i C hr rfl (by rw [e_sw]; rfl) dX7_whyNot_109
  · skip
    refine lv_tableIn (off := 109) (tgt := 110) hx hb dX7_whyNot_1 (by rw [e_sw]; decide) (by rw [e_sw]; decide) (by rw [e_sw]; rfl) (by decide) ?_
    refine lv_aload_n hx hb dX7_whyNot_110 rfl (lv_at hl 0 rfl) ?_
    refine lv_iload_n hx hb dX7_whyNot_111 rfl (lv_at hl 2 rfl) ?_
    refine lv_iconst (v := 1) hx hb dX7_whyNot_112 (by decide) ?_
    refine cr_X7_128 C hJ (rest := []) (c_X7_whyNotFriends hE hR hM p0 1) dX7_whyNot_113 hl.1 ⟨Nat.le_of_ble_eq_true rfl, Nat.le_of_ble_eq_true rfl⟩ ⟨Nat.le_refl _, Nat.le_refl _⟩ (Nat.le_of_ble_eq_true rfl) rfl rfl ?_
    exact rR_i C hr rfl (by rw [e_sw, ft7 hn hM p0 p1 p2]; rfl) dX7_whyNot_116
  · skip
    refine lv_tableIn (off := 116) (tgt := 117) hx hb dX7_whyNot_1 (by rw [e_sw]; decide) (by rw [e_sw]; decide) (by rw [e_sw]; rfl) (by decide) ?_
    refine lv_aload_n hx hb dX7_whyNot_117 rfl (lv_at hl 0 rfl) ?_
    refine lv_iload_n hx hb dX7_whyNot_118 rfl (lv_at hl 2 rfl) ?_
    refine lv_iconst (v := 0) hx hb dX7_whyNot_119 (by decide) ?_
    refine cr_X7_128 C hJ (rest := []) (c_X7_whyNotFriends hE hR hM p0 0) dX7_whyNot_120 hl.1 ⟨Nat.le_of_ble_eq_true rfl, Nat.le_of_ble_eq_true rfl⟩ ⟨Nat.le_refl _, Nat.le_refl _⟩ (Nat.le_of_ble_eq_true rfl) rfl rfl ?_
    exact rR_i C hr rfl (by rw [e_sw, ft8 hn hM p0 p1 p2]; rfl) dX7_whyNot_123
  · skip
    refine lv_tableIn (off := 123) (tgt := 124) hx hb dX7_whyNot_1 (by rw [e_sw]; decide) (by rw [e_sw]; decide) (by rw [e_sw]; rfl) (by decide) ?_
    refine lv_aload_n hx hb dX7_whyNot_124 rfl (lv_at hl 0 rfl) ?_
    refine g_X7_7 C hJ dX7_whyNot_125 ?_
    refine lv_iconst (v := 0) hx hb dX7_whyNot_128 (by decide) ?_
    refine a_ro C hJ (P := 0) (rfl) (by decide) dX7_whyNot_129 ?_
    refine lv_if_ne (tgt := 137) hx hb dX7_whyNot_130 (by decide) (fun c_130 => ?_) (fun c_130 => ?_)
    · skip
      have h0 : ¬ n = 0 := fun q => c_130 (by rw [hR.many, q]; rfl)
      refine lv_iconst (v := 0) hx hb dX7_whyNot_137 (by decide) ?_
      exact rR_i C hr rfl (by rw [e_sw, ft9v hn p0 p1 p2, if_neg h0]; rfl) dX7_whyNot_138
    · skip
      have h0 : n = 0 := by have q := c_130; rw [hR.many] at q; exact (nI_eq (b := 0) (by omega) (by omega)).mp q
      refine lv_iconst (v := 1) hx hb dX7_whyNot_133 (by decide) ?_
      refine lv_goto (tgt := 138) hx hb dX7_whyNot_134 (by decide) ?_
      exact rR_i C hr rfl (by rw [e_sw, ft9v hn p0 p1 p2, if_pos h0]; rfl) dX7_whyNot_138
  · skip
    refine lv_tableOut (tgt := 139) hx hb dX7_whyNot_1 (by rw [e_sw]; decide) (by decide) ?_
    refine lv_iconst (v := 0) hx hb dX7_whyNot_139 (by decide) ?_
    exact rR_i C hr rfl (by rw [e_sw]; rfl) dX7_whyNot_140
set_option maxHeartbeats 4000000 in
set_option maxRecDepth 100000 in
theorem c_X7_does {l : Launch} {E : GE} (hE : Env0 E) {S : ST} {n : Nat} {z : Nat → Int32} {mm : Nat → Nat → Int32} (hR : RI S n z mm) (hM : MmOk n mm) {u_j : Nat} (hj : u_j < 11) (p0 p1 p2 : Int32) (hf : f_ft (gof n mm) n u_j p0 p1 p2 = 0) (fu : Nat) (hSt : Stops n fu z mm) : MW l E yX7_does cX7_does 5 (none : Option Jvm.ClassFile.FieldType) 5 109 S [.ref (gA E 84), .int (nI (u_j + 1)), .int p0, .int p1, .int p2] (fun v S1 => v = none ∧ LR S S1 (f_co fu n z mm u_j p0 p1 p2).2) := by
  have hn := hR.n10
  refine MW.of hE (by decide) (Nat.le_of_ble_eq_true rfl) ?_
  intro p e s m below meth c ls C hJ hr hl
  have hx := C.x
  have hb := C.b
  have hl : lv_has ls 5 [(0, .ref (gA E 84)), (1, .int (nI (u_j + 1))), (2, .int p0), (3, .int p1), (4, .int p2)] := hl
  refine lv_iload_n hx hb dX7_does_0 rfl (lv_at hl 1 rfl) ?_
  rcases (show u_j = 0 ∨ u_j = 1 ∨ u_j = 2 ∨ u_j = 3 ∨ u_j = 4 ∨ u_j = 5 ∨ u_j = 6 ∨ u_j = 7 ∨ u_j = 8 ∨ u_j = 9 ∨ u_j = 10 by omega) with e_sw | e_sw | e_sw | e_sw | e_sw | e_sw | e_sw | e_sw | e_sw | e_sw | e_sw
  · skip
    refine lv_tableIn (off := 55) (tgt := 56) hx hb dX7_does_1 (by rw [e_sw]; decide) (by rw [e_sw]; decide) (by rw [e_sw]; rfl) (by decide) ?_
    have hf1 : f_ft (gof n mm) n 0 p0 p1 p2 = 0 := by rw [← e_sw]; exact hf
    refine lv_aload_n hx hb dX7_does_56 rfl (lv_at hl 0 rfl) ?_
    refine lv_iload_n hx hb dX7_does_57 rfl (lv_at hl 2 rfl) ?_
    refine lv_iload_n hx hb dX7_does_58 rfl (lv_at hl 3 rfl) ?_
    refine lv_aload_n hx hb dX7_does_59 rfl (lv_at hl 0 rfl) ?_
    refine g_X7_7 C hJ dX7_does_60 ?_
    refine lv_iconst (v := 0) hx hb dX7_does_63 (by decide) ?_
    refine a_ro C hJ (P := 0) (rfl) (by decide) dX7_does_64 ?_
    rw [hR.many]
    · skip
      refine cw_X7_63 C hJ (rest := []) (cz_0 hE hR hM hf1 fu rfl) dX7_does_65 hl.1 ⟨Nat.le_of_ble_eq_true rfl, Nat.le_of_ble_eq_true rfl⟩ ⟨Nat.le_refl _, Nat.le_refl _⟩ (Nat.le_of_ble_eq_true rfl) rfl rfl (fun vr S_65 H locs hP hJ => ?_)
      obtain ⟨rfl, hL⟩ := hP
      refine lv_pop hx hb dX7_does_68 rfl ?_
      refine lv_goto (tgt := 172) hx hb dX7_does_69 (by decide) ?_
      exact rW_v C hJ hr (⟨rfl, by rw [e_sw]; exact hL⟩) dX7_does_172
  · skip
    refine lv_tableIn (off := 71) (tgt := 72) hx hb dX7_does_1 (by rw [e_sw]; decide) (by rw [e_sw]; decide) (by rw [e_sw]; rfl) (by decide) ?_
    have hf1 : f_ft (gof n mm) n 1 p0 p1 p2 = 0 := by rw [← e_sw]; exact hf
    refine lv_aload_n hx hb dX7_does_72 rfl (lv_at hl 0 rfl) ?_
    refine lv_iload_n hx hb dX7_does_73 rfl (lv_at hl 2 rfl) ?_
    refine lv_iload_n hx hb dX7_does_74 rfl (lv_at hl 3 rfl) ?_
    refine lv_iload hx hb dX7_does_75 (lv_at hl 4 rfl) ?_
    refine cw_X7_63 C hJ (rest := []) (cz_1 hE hR hM hf1 fu) dX7_does_77 hl.1 ⟨Nat.le_of_ble_eq_true rfl, Nat.le_of_ble_eq_true rfl⟩ ⟨Nat.le_refl _, Nat.le_refl _⟩ (Nat.le_of_ble_eq_true rfl) rfl rfl (fun vr S_77 H locs hP hJ => ?_)
    obtain ⟨rfl, hL⟩ := hP
    refine lv_pop hx hb dX7_does_80 rfl ?_
    refine lv_goto (tgt := 172) hx hb dX7_does_81 (by decide) ?_
    exact rW_v C hJ hr (⟨rfl, by rw [e_sw]; exact hL⟩) dX7_does_172
  · skip
    refine lv_tableIn (off := 83) (tgt := 84) hx hb dX7_does_1 (by rw [e_sw]; decide) (by rw [e_sw]; decide) (by rw [e_sw]; rfl) (by decide) ?_
    have hf1 : f_ft (gof n mm) n 2 p0 p1 p2 = 0 := by rw [← e_sw]; exact hf
    refine lv_aload_n hx hb dX7_does_84 rfl (lv_at hl 0 rfl) ?_
    refine lv_aload_n hx hb dX7_does_85 rfl (lv_at hl 0 rfl) ?_
    refine lv_iload_n hx hb dX7_does_86 rfl (lv_at hl 2 rfl) ?_
    refine cr_X7_45 C hJ (rest := [.ref (gA E 84)]) (c_X7_find hE hR p0) dX7_does_87 hl.1 ⟨Nat.le_of_ble_eq_true rfl, Nat.le_of_ble_eq_true rfl⟩ ⟨Nat.le_refl _, Nat.le_refl _⟩ (Nat.le_of_ble_eq_true rfl) rfl rfl ?_
    refine cw_X7_69 C hJ (rest := []) (cz_2 hE hR hM hf1 fu) dX7_does_90 hl.1 ⟨Nat.le_of_ble_eq_true rfl, Nat.le_of_ble_eq_true rfl⟩ ⟨Nat.le_refl _, Nat.le_refl _⟩ (Nat.le_of_ble_eq_true rfl) rfl rfl (fun vr S_90 H locs hP hJ => ?_)
    obtain ⟨rfl, hL⟩ := hP
    refine lv_goto (tgt := 172) hx hb dX7_does_93 (by decide) ?_
    exact rW_v C hJ hr (⟨rfl, by rw [e_sw]; exact hL⟩) dX7_does_172
  · skip
    refine lv_tableIn (off := 95) (tgt := 96) hx hb dX7_does_1 (by rw [e_sw]; decide) (by rw [e_sw]; decide) (by rw [e_sw]; rfl) (by decide) ?_
    have hf1 : f_ft (gof n mm) n 3 p0 p1 p2 = 0 := by rw [← e_sw]; exact hf
    refine lv_aload_n hx hb dX7_does_96 rfl (lv_at hl 0 rfl) ?_
    refine lv_iload_n hx hb dX7_does_97 rfl (lv_at hl 2 rfl) ?_
    refine lv_iload_n hx hb dX7_does_98 rfl (lv_at hl 3 rfl) ?_
    refine cw_X7_80 C hJ (rest := []) (cz_3 hE hR hM hf1 fu) dX7_does_99 hl.1 ⟨Nat.le_of_ble_eq_true rfl, Nat.le_of_ble_eq_true rfl⟩ ⟨Nat.le_refl _, Nat.le_refl _⟩ (Nat.le_of_ble_eq_true rfl) rfl rfl (fun vr S_99 H locs hP hJ => ?_)
    obtain ⟨rfl, hL⟩ := hP
    refine lv_pop hx hb dX7_does_102 rfl ?_
    refine lv_goto (tgt := 172) hx hb dX7_does_103 (by decide) ?_
    exact rW_v C hJ hr (⟨rfl, by rw [e_sw]; exact hL⟩) dX7_does_172
  · skip
    refine lv_tableIn (off := 105) (tgt := 106) hx hb dX7_does_1 (by rw [e_sw]; decide) (by rw [e_sw]; decide) (by rw [e_sw]; rfl) (by decide) ?_
    have hf1 : f_ft (gof n mm) n 4 p0 p1 p2 = 0 := by rw [← e_sw]; exact hf
    refine lv_aload_n hx hb dX7_does_106 rfl (lv_at hl 0 rfl) ?_
    refine lv_iload_n hx hb dX7_does_107 rfl (lv_at hl 2 rfl) ?_
    refine lv_iload_n hx hb dX7_does_108 rfl (lv_at hl 3 rfl) ?_
    refine cw_X7_98 C hJ (rest := []) (cz_4 hE hR hM hf1 fu) dX7_does_109 hl.1 ⟨Nat.le_of_ble_eq_true rfl, Nat.le_of_ble_eq_true rfl⟩ ⟨Nat.le_refl _, Nat.le_refl _⟩ (Nat.le_of_ble_eq_true rfl) rfl rfl (fun vr S_109 H locs hP hJ => ?_)
    obtain ⟨rfl, hL⟩ := hP
    refine lv_pop hx hb dX7_does_112 rfl ?_
    refine lv_goto (tgt := 172) hx hb dX7_does_113 (by decide) ?_
    exact rW_v C hJ hr (⟨rfl, by rw [e_sw]; exact hL⟩) dX7_does_172
  · skip
    refine lv_tableIn (off := 115) (tgt := 116) hx hb dX7_does_1 (by rw [e_sw]; decide) (by rw [e_sw]; decide) (by rw [e_sw]; rfl) (by decide) ?_
    have hf1 : f_ft (gof n mm) n 5 p0 p1 p2 = 0 := by rw [← e_sw]; exact hf
    refine lv_aload_n hx hb dX7_does_116 rfl (lv_at hl 0 rfl) ?_
    refine lv_iload_n hx hb dX7_does_117 rfl (lv_at hl 2 rfl) ?_
    refine cw_X7_113 C hJ (rest := []) (cz_5 hE hR hM hf1 fu) dX7_does_118 hl.1 ⟨Nat.le_of_ble_eq_true rfl, Nat.le_of_ble_eq_true rfl⟩ ⟨Nat.le_refl _, Nat.le_refl _⟩ (Nat.le_of_ble_eq_true rfl) rfl rfl (fun vr S_118 H locs hP hJ => ?_)
    obtain ⟨rfl, hL⟩ := hP
    refine lv_pop hx hb dX7_does_121 rfl ?_
    refine lv_goto (tgt := 172) hx hb dX7_does_122 (by decide) ?_
    exact rW_v C hJ hr (⟨rfl, by rw [e_sw]; exact hL⟩) dX7_does_172
  · skip
    refine lv_tableIn (off := 124) (tgt := 125) hx hb dX7_does_1 (by rw [e_sw]; decide) (by rw [e_sw]; decide) (by rw [e_sw]; rfl) (by decide) ?_
    have hf1 : f_ft (gof n mm) n 6 p0 p1 p2 = 0 := by rw [← e_sw]; exact hf
    obtain ⟨_, P, hP, eP⟩ := pf_in hn (show f_pf n p0 (f_would (gof n mm) p0) 3 = 0 from hf1)
    refine lv_aload_n hx hb dX7_does_125 rfl (lv_at hl 0 rfl) ?_
    refine lv_iload_n hx hb dX7_does_126 rfl (lv_at hl 2 rfl) ?_
    refine lv_aload_n hx hb dX7_does_127 rfl (lv_at hl 0 rfl) ?_
    refine lv_iload_n hx hb dX7_does_128 rfl (lv_at hl 2 rfl) ?_
    refine cr_X7_122 C hJ (rest := [.int p0, .ref (gA E 84)]) (cm_fairPrice hE hR P (by omega) eP) dX7_does_129 hl.1 ⟨Nat.le_of_ble_eq_true rfl, Nat.le_of_ble_eq_true rfl⟩ ⟨Nat.le_refl _, Nat.le_refl _⟩ (Nat.le_of_ble_eq_true rfl) rfl rfl ?_
    refine cw_X7_107 C hJ (rest := []) (cz_6 hE hR hM hf1 fu P hP eP) dX7_does_132 hl.1 ⟨Nat.le_of_ble_eq_true rfl, Nat.le_of_ble_eq_true rfl⟩ ⟨Nat.le_refl _, Nat.le_refl _⟩ (Nat.le_of_ble_eq_true rfl) rfl rfl (fun vr S_132 H locs hP hJ => ?_)
    obtain ⟨rfl, hL⟩ := hP
    refine lv_pop hx hb dX7_does_135 rfl ?_
    refine lv_goto (tgt := 172) hx hb dX7_does_136 (by decide) ?_
    exact rW_v C hJ hr (⟨rfl, by rw [e_sw]; exact hL⟩) dX7_does_172
  · skip
    refine lv_tableIn (off := 138) (tgt := 139) hx hb dX7_does_1 (by rw [e_sw]; decide) (by rw [e_sw]; decide) (by rw [e_sw]; rfl) (by decide) ?_
    have hf1 : f_ft (gof n mm) n 7 p0 p1 p2 = 0 := by rw [← e_sw]; exact hf
    refine lv_aload_n hx hb dX7_does_139 rfl (lv_at hl 0 rfl) ?_
    refine lv_iload_n hx hb dX7_does_140 rfl (lv_at hl 2 rfl) ?_
    refine lv_iconst (v := 1) hx hb dX7_does_141 (by decide) ?_
    refine cw_X7_131 C hJ (rest := []) (cz_7 hE hR hM hf1 fu) dX7_does_142 hl.1 ⟨Nat.le_of_ble_eq_true rfl, Nat.le_of_ble_eq_true rfl⟩ ⟨Nat.le_refl _, Nat.le_refl _⟩ (Nat.le_of_ble_eq_true rfl) rfl rfl (fun vr S_142 H locs hP hJ => ?_)
    obtain ⟨rfl, hL⟩ := hP
    refine lv_pop hx hb dX7_does_145 rfl ?_
    refine lv_goto (tgt := 172) hx hb dX7_does_146 (by decide) ?_
    exact rW_v C hJ hr (⟨rfl, by rw [e_sw]; exact hL⟩) dX7_does_172
  · skip
    refine lv_tableIn (off := 148) (tgt := 149) hx hb dX7_does_1 (by rw [e_sw]; decide) (by rw [e_sw]; decide) (by rw [e_sw]; rfl) (by decide) ?_
    have hf1 : f_ft (gof n mm) n 8 p0 p1 p2 = 0 := by rw [← e_sw]; exact hf
    refine lv_aload_n hx hb dX7_does_149 rfl (lv_at hl 0 rfl) ?_
    refine lv_iload_n hx hb dX7_does_150 rfl (lv_at hl 2 rfl) ?_
    refine lv_iconst (v := 0) hx hb dX7_does_151 (by decide) ?_
    refine cw_X7_131 C hJ (rest := []) (cz_8 hE hR hM hf1 fu) dX7_does_152 hl.1 ⟨Nat.le_of_ble_eq_true rfl, Nat.le_of_ble_eq_true rfl⟩ ⟨Nat.le_refl _, Nat.le_refl _⟩ (Nat.le_of_ble_eq_true rfl) rfl rfl (fun vr S_152 H locs hP hJ => ?_)
    obtain ⟨rfl, hL⟩ := hP
    refine lv_pop hx hb dX7_does_155 rfl ?_
    refine lv_goto (tgt := 172) hx hb dX7_does_156 (by decide) ?_
    exact rW_v C hJ hr (⟨rfl, by rw [e_sw]; exact hL⟩) dX7_does_172
  · skip
    refine lv_tableIn (off := 158) (tgt := 159) hx hb dX7_does_1 (by rw [e_sw]; decide) (by rw [e_sw]; decide) (by rw [e_sw]; rfl) (by decide) ?_
    have hf1 : f_ft (gof n mm) n 9 p0 p1 p2 = 0 := by rw [← e_sw]; exact hf
    refine lv_aload_n hx hb dX7_does_159 rfl (lv_at hl 0 rfl) ?_
    refine cw_X7_73 C hJ (rest := []) (cz_9 hE hR hM hf1 fu) dX7_does_160 hl.1 ⟨Nat.le_of_ble_eq_true rfl, Nat.le_of_ble_eq_true rfl⟩ ⟨Nat.le_refl _, Nat.le_refl _⟩ (Nat.le_of_ble_eq_true rfl) rfl rfl (fun vr S_160 H locs hP hJ => ?_)
    obtain ⟨rfl, hL⟩ := hP
    refine lv_pop hx hb dX7_does_163 rfl ?_
    refine lv_goto (tgt := 172) hx hb dX7_does_164 (by decide) ?_
    exact rW_v C hJ hr (⟨rfl, by rw [e_sw]; exact hL⟩) dX7_does_172
  · skip
    refine lv_tableOut (tgt := 167) hx hb dX7_does_1 (by rw [e_sw]; decide) (by decide) ?_
    have hf1 : f_ft (gof n mm) n 10 p0 p1 p2 = 0 := by rw [← e_sw]; exact hf
    refine lv_aload_n hx hb dX7_does_167 rfl (lv_at hl 0 rfl) ?_
    refine cw_X7_134 C hJ (rest := []) (cz_10 hE hR hM (a := p0) (b := p1) (d := p2) fu hSt) dX7_does_168 hl.1 ⟨Nat.le_of_ble_eq_true rfl, Nat.le_of_ble_eq_true rfl⟩ ⟨Nat.le_refl _, Nat.le_refl _⟩ (Nat.le_of_ble_eq_true rfl) rfl rfl (fun vr S_168 H locs hP hJ => ?_)
    obtain ⟨rfl, hL⟩ := hP
    refine lv_pop hx hb dX7_does_171 rfl ?_
    exact rW_v C hJ hr (⟨rfl, by rw [e_sw]; exact hL⟩) dX7_does_172
