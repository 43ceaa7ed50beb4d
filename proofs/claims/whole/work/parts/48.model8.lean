/-! MODEL: copies, takes, serves (by program) -/
set_option maxHeartbeats 4000000 in
set_option maxRecDepth 100000 in
theorem c_X7_copies {l : Launch} {E : GE} (hE : Env0 E) {S : ST} (u_a u_b : Nat) (hA : u_a + 76 ≤ 456) (hB : u_b + 76 ≤ 456) (hd0 : u_a + 76 ≤ u_b ∨ u_b + 76 ≤ u_a) : MW l E yX7_copies cX7_copies 4 (none : Option Jvm.ClassFile.FieldType) 0 0 S [.ref (gA E 84), .int (nI u_a), .int (nI u_b)] (fun v S1 => v = none ∧ RW S S1 (rci (sM S).2.1 u_a u_b 76)) := by
  refine MW.of hE (by decide) (Nat.le_of_ble_eq_true rfl) ?_
  intro p e s m below meth c ls C hJ hr hl
  have hx := C.x
  have hb := C.b
  have hl : lv_has ls 4 [(0, .ref (gA E 84)), (1, .int (nI u_a)), (2, .int (nI u_b))] := hl
  refine lv_iconst (v := 0) hx hb dX7_copies_0 (by decide) ?_
  refine lv_istore_n (lv' := [(3, .int 0), (0, .ref (gA E 84)), (1, .int (nI u_a)), (2, .int (nI u_b))]) hx hb dX7_copies_1 rfl hl (by decide) rfl (fun ls hl => ?_)
  have lp : ∀ (d : Nat) (i : Nat) (T : ST) (H : Heap) (locs : List Loc) (ls : Array Slot), (i ≤ 76) → (76 < i + d) → (RW S T (rci (sM S).2.1 u_a u_b i)) → JJ E T H locs → lv_has ls 4 [(0, .ref (gA E 84)), (1, .int (nI u_a)), (2, .int (nI u_b)), (3, .int (nI i))] → W p l e (rmZ 0 0) s m ([.ref (gA E 84), .int (nI u_a), .int (nI u_b)] : List Value).toArray below meth c H locs 0 0 (WQ below ([.ref (gA E 84), .int (nI u_a), .int (nI u_b)] : List Value).toArray s E (fun v S1 => v = none ∧ RW S S1 (rci (sM S).2.1 u_a u_b 76))) (F0 m 2 ls []) := by
    intro d
    induction d with
    | zero =>
      intro i T H locs ls hi hd hw hJ hl
      omega
    | succ d ih_lp =>
      intro i T H locs ls hi hd hw hJ hl
      refine lv_iload_n hx hb dX7_copies_2 rfl (lv_at hl 3 rfl) ?_
      refine lv_bipush (v := 76) hx hb dX7_copies_3 (by decide) ?_
      refine lv_icmp_ge (tgt := 30) hx hb dX7_copies_5 (by decide) (fun c_5 => ?_) (fun c_5 => ?_)
      · skip
        have e9 : i = 76 := eqOfLe (N := 76) hi (by omega) c_5
        rw [e9] at hw
        exact rW_v C hJ hr (⟨rfl, hw⟩) dX7_copies_30
      · skip
        have hlt : i < 76 := ltOfNle (N := 76) (by omega) c_5
        refine lv_aload_n hx hb dX7_copies_8 rfl (lv_at hl 0 rfl) ?_
        refine g_X7_7 C hJ dX7_copies_9 ?_
        refine lv_iload_n hx hb dX7_copies_12 rfl (lv_at hl 2 rfl) ?_
        refine lv_iload_n hx hb dX7_copies_13 rfl (lv_at hl 3 rfl) ?_
        refine lv_iadd hx hb dX7_copies_14 ?_
        refine lv_aload_n hx hb dX7_copies_15 rfl (lv_at hl 0 rfl) ?_
        refine g_X7_7 C hJ dX7_copies_16 ?_
        refine lv_iload_n hx hb dX7_copies_19 rfl (lv_at hl 1 rfl) ?_
        refine lv_iload_n hx hb dX7_copies_20 rfl (lv_at hl 3 rfl) ?_
        refine lv_iadd hx hb dX7_copies_21 ?_
        refine a_ro C hJ (P := u_a + i) (nI_add u_a i) (by omega) dX7_copies_22 ?_
        refine t_ro C hJ (P := u_b + i) (nI_add u_b i) (by omega) dX7_copies_23 (fun H locs hJ => ?_)
        obtain ⟨S_23, hS_23⟩ : ∃ z : ST, z = setM T (mRo (sM T) (u_b + i) ((sM T).2.1 (u_a + i))) := ⟨_, rfl⟩
        rw [← hS_23] at hJ
        have hw2 : RW S S_23 (rci (sM S).2.1 u_a u_b (i + 1)) := (hw.put hS_23).cg (by rw [hw.2.2.2.2.2.2]; exact rci_s _ hd0 hlt)
        refine lv_iinc (v := nI (i + 1)) (lv' := [(3, .int (nI (i + 1))), (0, .ref (gA E 84)), (1, .int (nI u_a)), (2, .int (nI u_b))]) hx hb dX7_copies_24 hl (k := 3) rfl (by exact nI_1 i) (by decide) rfl (fun ls hl => ?_)
        refine lv_goto (tgt := 2) hx hb dX7_copies_27 (by decide) ?_
        exact ih_lp (i + 1) S_23 H locs _ (by omega) (by omega) hw2 hJ (lv_sub hl [1, 2, 3, 0] rfl)
  exact lp 77 0 S s.heap [] _ (Nat.zero_le _) (by omega) (by rw [rci_0]; exact RW.r S) hJ (lv_sub hl [1, 2, 3, 0] rfl)
set_option maxHeartbeats 4000000 in
set_option maxRecDepth 100000 in
theorem c_X7_takes {l : Launch} {E : GE} (hE : Env0 E) {S : ST} {n : Nat} {z : Nat → Int32} {mm : Nat → Nat → Int32} (hR : RI S n z mm) (hM : MmOk n mm) (p0 : Int32) (P : Nat) (hP0 : P + 1 < n) (eP : f_place (gof n mm) n p0 = nI P) (hf0 : m_fa n mm P = 0) : MW l E yX7_takes cX7_takes 3 (some .int) 2 47 S [.ref (gA E 84), .int p0] (fun v S1 => v = some (.int (mm (P + 1) 5)) ∧ RI S1 n (upd (upd z 4 (z 4 + 1)) 5 (z 5 + mm (P + 1) 5)) (mswap mm P (mm (P + 1) 5)) ∧ RO S S1) := by
  have hn := hR.n10
  refine MW.of hE (by decide) (Nat.le_of_ble_eq_true rfl) ?_
  intro p e s m below meth c ls C hJ hr hl
  have hx := C.x
  have hb := C.b
  have hl : lv_has ls 3 [(0, .ref (gA E 84)), (1, .int p0)] := hl
  refine lv_aload_n hx hb dX7_takes_0 rfl (lv_at hl 0 rfl) ?_
  refine lv_iload_n hx hb dX7_takes_1 rfl (lv_at hl 1 rfl) ?_
  refine cr_X7_45 C hJ (rest := []) (c_X7_find hE hR p0) dX7_takes_2 hl.1 ⟨Nat.le_of_ble_eq_true rfl, Nat.le_of_ble_eq_true rfl⟩ ⟨Nat.le_refl _, Nat.le_refl _⟩ (Nat.le_of_ble_eq_true rfl) rfl rfl ?_
  refine lv_istore_n (lv' := [(2, .int (f_place (gof n mm) n p0)), (0, .ref (gA E 84)), (1, .int p0)]) hx hb dX7_takes_5 rfl hl (by decide) rfl (fun ls hl => ?_)
  refine lv_aload_n hx hb dX7_takes_6 rfl (lv_at hl 1 rfl) ?_
  refine lv_iload_n hx hb dX7_takes_7 rfl (lv_at hl 0 rfl) ?_
  refine lv_aload_n hx hb dX7_takes_8 rfl (lv_at hl 1 rfl) ?_
  refine lv_iload_n hx hb dX7_takes_9 rfl (lv_at hl 0 rfl) ?_
  refine lv_iconst (v := 1) hx hb dX7_takes_10 (by decide) ?_
  refine lv_iadd hx hb dX7_takes_11 ?_
  refine lv_iconst (v := 5) hx hb dX7_takes_12 (by decide) ?_
  refine cr_X7_33 C hJ (rest := [.int (f_place (gof n mm) n p0), .ref (gA E 84)]) (cm_of hE hR (P + 1) 5 (by omega) (by decide) (by rw [eP, nI_1])) dX7_takes_13 hl.1 ⟨Nat.le_of_ble_eq_true rfl, Nat.le_of_ble_eq_true rfl⟩ ⟨Nat.le_refl _, Nat.le_refl _⟩ (Nat.le_of_ble_eq_true rfl) rfl rfl ?_
  refine cw_X7_107 C hJ (rest := []) (cs_swaps hE (UZ.rf S) hR.many hn P hP0 eP (mm (P + 1) 5)) dX7_takes_16 hl.1 ⟨Nat.le_of_ble_eq_true rfl, Nat.le_of_ble_eq_true rfl⟩ ⟨Nat.le_refl _, Nat.le_refl _⟩ (Nat.le_of_ble_eq_true rfl) rfl rfl (fun vr S_16 H locs hP hJ => ?_)
  obtain ⟨rfl, u_16, o_16⟩ := hP
  exact rW_i C hJ hr rfl (⟨rfl, hR.swp hM hP0 hf0 u_16, o_16⟩) dX7_takes_19
set_option maxHeartbeats 4000000 in
set_option maxRecDepth 100000 in
theorem c_X7_serves {l : Launch} {E : GE} (hE : Env0 E) {S : ST} {n : Nat} {z : Nat → Int32} {mm : Nat → Nat → Int32} (hR : RI S n z mm) (hM : MmOk n mm) (hn0 : 0 < n) : MW l E yX7_serves cX7_serves 2 (some .int) 3 68 S [.ref (gA E 84)] (fun v S1 => v = some (.int (mm 0 0)) ∧ RI S1 (n - 1) (upd (upd z 2 (nI (n - 1))) 6 (z 6 + 1)) (mrem mm 0) ∧ RO S S1) := by
  have hn := hR.n10
  refine MW.of hE (by decide) (Nat.le_of_ble_eq_true rfl) ?_
  intro p e s m below meth c ls C hJ hr hl
  have hx := C.x
  have hb := C.b
  have hl : lv_has ls 2 [(0, .ref (gA E 84))] := hl
  refine lv_aload_n hx hb dX7_serves_0 rfl (lv_at hl 0 rfl) ?_
  refine lv_iconst (v := 0) hx hb dX7_serves_1 (by decide) ?_
  refine lv_iconst (v := 0) hx hb dX7_serves_2 (by decide) ?_
  refine cr_X7_33 C hJ (rest := []) (cm_of hE hR 0 0 (by omega) (by decide) rfl) dX7_serves_3 hl.1 ⟨Nat.le_of_ble_eq_true rfl, Nat.le_of_ble_eq_true rfl⟩ ⟨Nat.le_refl _, Nat.le_refl _⟩ (Nat.le_of_ble_eq_true rfl) rfl rfl ?_
  refine lv_istore_n (lv' := [(1, .int (mm 0 0)), (0, .ref (gA E 84))]) hx hb dX7_serves_6 rfl hl (by decide) rfl (fun ls hl => ?_)
  refine lv_aload_n hx hb dX7_serves_7 rfl (lv_at hl 1 rfl) ?_
  refine lv_iconst (v := 0) hx hb dX7_serves_8 (by decide) ?_
  refine cw_X7_69 C hJ (rest := []) (c_X7_goes hE (UZ.rf S) hR.many hn 0 hn0) dX7_serves_9 hl.1 ⟨Nat.le_of_ble_eq_true rfl, Nat.le_of_ble_eq_true rfl⟩ ⟨Nat.le_refl _, Nat.le_refl _⟩ (Nat.le_of_ble_eq_true rfl) rfl rfl (fun vr S_9 H locs hP hJ => ?_)
  obtain ⟨rfl, u_9, o_9⟩ := hP
  have hR9 := hR.go hn0 u_9
  refine lv_aload_n hx hb dX7_serves_12 rfl (lv_at hl 1 rfl) ?_
  refine g_X7_7 C hJ dX7_serves_13 ?_
  refine lv_iconst (v := 4) hx hb dX7_serves_16 (by decide) ?_
  refine lv_dup2_11 hx hb dX7_serves_17 rfl rfl ?_
  refine a_ro C hJ (P := 4) (rfl) (by decide) dX7_serves_18 ?_
  refine lv_iconst (v := 1) hx hb dX7_serves_19 (by decide) ?_
  refine lv_iadd hx hb dX7_serves_20 ?_
  refine t_ro C hJ (P := 4) (rfl) (by decide) dX7_serves_21 (fun H locs hJ => ?_)
  obtain ⟨S_21, hS_21⟩ : ∃ z : ST, z = setM S_9 (mRo (sM S_9) 4 (((sM S_9).2.1 4) + 1)) := ⟨_, rfl⟩
  rw [← hS_21] at hJ
  have hR21 := hR9.putz (x := 4) (by decide) (by decide) hS_21
  have e_21 : (sM S_9).2.1 4 + 1 = z 6 + 1 := by rw [hR9.u0.1 4 (by decide) (by decide)]; rfl
  rw [e_21] at hR21
  refine lv_iload_n hx hb dX7_serves_22 rfl (lv_at hl 0 rfl) ?_
  exact rW_i C hJ hr rfl (⟨rfl, hR21, o_9.t (RO.put (by decide) hS_21)⟩) dX7_serves_23
