/-! MODEL: places moved (by program) -/
set_option maxHeartbeats 4000000 in
set_option maxRecDepth 100000 in
theorem c_X7_setU {l : Launch} {E : GE} (hE : Env0 E) {S : ST} {u_r : Nat → Int32} {u_u : Nat → Nat → Int32} (hU : UZ S u_r u_u) {p0 p1 : Int32} (P i : Nat) (hP : P < 10) (hi : i < 7) (ep : p0 = nI P) (eq : p1 = nI i) (v0 : Int32) : MW l E yX7_set cX7_set 4 (none : Option Jvm.ClassFile.FieldType) 0 0 S [.ref (gA E 84), .int p0, .int p1, .int v0] (fun v S1 => v = none ∧ UZ S1 u_r (up2 u_u P i v0) ∧ RO S S1) := by
  refine MW.of hE (by decide) (Nat.le_of_ble_eq_true rfl) ?_
  intro p e s m below meth c ls C hJ hr hl
  have hx := C.x
  have hb := C.b
  have hl : lv_has ls 4 [(0, .ref (gA E 84)), (1, .int p0), (2, .int p1), (3, .int v0)] := hl
  refine lv_aload_n hx hb dX7_set_0 rfl (lv_at hl 0 rfl) ?_
  refine g_X7_7 C hJ dX7_set_1 ?_
  refine lv_bipush (v := 6) hx hb dX7_set_4 (by decide) ?_
  refine lv_bipush (v := 7) hx hb dX7_set_6 (by decide) ?_
  refine lv_iload_n hx hb dX7_set_8 rfl (lv_at hl 1 rfl) ?_
  refine lv_imul hx hb dX7_set_9 ?_
  refine lv_iadd hx hb dX7_set_10 ?_
  refine lv_iload_n hx hb dX7_set_11 rfl (lv_at hl 2 rfl) ?_
  refine lv_iadd hx hb dX7_set_12 ?_
  refine lv_iload_n hx hb dX7_set_13 rfl (lv_at hl 3 rfl) ?_
  refine t_ro C hJ (P := 6 + 7 * P + i) (ix7 ep eq) (by omega) dX7_set_14 (fun H locs hJ => ?_)
  obtain ⟨S_14, hS_14⟩ : ∃ z : ST, z = setM S (mRo (sM S) (6 + 7 * P + i) v0) := ⟨_, rfl⟩
  rw [← hS_14] at hJ
  exact rW_v C hJ hr (⟨rfl, hU.set hi hS_14, RO.put (by omega) hS_14⟩) dX7_set_15
set_option maxHeartbeats 4000000 in
set_option maxRecDepth 100000 in
theorem c_X7_brings {l : Launch} {E : GE} (hE : Env0 E) {S : ST} {u_r : Nat → Int32} {u_u : Nat → Nat → Int32} (hU : UZ S u_r u_u) {p0 p1 : Int32} (P Q : Nat) (hP : P < 10) (hQ : Q < 10) (hPQ : P ≠ Q) (ep : p0 = nI P) (eq : p1 = nI Q) : MW l E yX7_brings cX7_brings 4 (none : Option Jvm.ClassFile.FieldType) 1 23 S [.ref (gA E 84), .int p0, .int p1] (fun v S1 => v = none ∧ UZ S1 u_r (ubr u_u P Q) ∧ RO S S1) := by
  refine MW.of hE (by decide) (Nat.le_of_ble_eq_true rfl) ?_
  intro p e s m below meth c ls C hJ hr hl
  have hx := C.x
  have hb := C.b
  have hl : lv_has ls 4 [(0, .ref (gA E 84)), (1, .int p0), (2, .int p1)] := hl
  refine lv_iconst (v := 0) hx hb dX7_brings_0 (by decide) ?_
  refine lv_istore_n (lv' := [(3, .int 0), (0, .ref (gA E 84)), (1, .int p0), (2, .int p1)]) hx hb dX7_brings_1 rfl hl (by decide) rfl (fun ls hl => ?_)
  have lp : ∀ (d : Nat) (i : Nat) (T : ST) (H : Heap) (locs : List Loc) (ls : Array Slot), (i ≤ 7) → (7 < i + d) → (UZ T u_r (ubi u_u P Q i)) → (RO S T) → JJ E T H locs → lv_has ls 4 [(0, .ref (gA E 84)), (1, .int p0), (2, .int p1), (3, .int (nI i))] → W p l e (rmZ 1 23) s m ([.ref (gA E 84), .int p0, .int p1] : List Value).toArray below meth c H locs 0 0 (WQ below ([.ref (gA E 84), .int p0, .int p1] : List Value).toArray s E (fun v S1 => v = none ∧ UZ S1 u_r (ubr u_u P Q) ∧ RO S S1)) (F0 m 2 ls []) := by
    intro d
    induction d with
    | zero =>
      intro i T H locs ls hi hd hu ho hJ hl
      omega
    | succ d ih_lp =>
      intro i T H locs ls hi hd hu ho hJ hl
      refine lv_iload_n hx hb dX7_brings_2 rfl (lv_at hl 3 rfl) ?_
      refine lv_bipush (v := 7) hx hb dX7_brings_3 (by decide) ?_
      refine lv_icmp_ge (tgt := 26) hx hb dX7_brings_5 (by decide) (fun c_5 => ?_) (fun c_5 => ?_)
      · skip
        have e9 : i = 7 := eqOfLe (N := 7) hi (by omega) c_5
        rw [e9] at hu
        exact rW_v C hJ hr (⟨rfl, ubi_7 hu, ho⟩) dX7_brings_26
      · skip
        have hlt : i < 7 := ltOfNle (N := 7) (by omega) c_5
        refine lv_aload_n hx hb dX7_brings_8 rfl (lv_at hl 0 rfl) ?_
        refine lv_iload_n hx hb dX7_brings_9 rfl (lv_at hl 2 rfl) ?_
        refine lv_iload_n hx hb dX7_brings_10 rfl (lv_at hl 3 rfl) ?_
        refine lv_aload_n hx hb dX7_brings_11 rfl (lv_at hl 0 rfl) ?_
        refine lv_iload_n hx hb dX7_brings_12 rfl (lv_at hl 1 rfl) ?_
        refine lv_iload_n hx hb dX7_brings_13 rfl (lv_at hl 3 rfl) ?_
        refine cr_X7_33 C hJ (rest := [.int (nI i), .int p1, .ref (gA E 84)]) (c_X7_of hE (S := T) (P) i (by omega) hlt (ep) (rfl)) dX7_brings_14 hl.1 ⟨Nat.le_of_ble_eq_true rfl, Nat.le_of_ble_eq_true rfl⟩ ⟨Nat.le_refl _, Nat.le_refl _⟩ (Nat.le_of_ble_eq_true rfl) rfl rfl ?_
        refine cw_X7_41 C hJ (rest := []) (c_X7_setU hE hu (Q) i (by omega) hlt (eq) (rfl) ((sM T).2.1 (6 + 7 * (P) + i))) dX7_brings_17 hl.1 ⟨Nat.le_of_ble_eq_true rfl, Nat.le_of_ble_eq_true rfl⟩ ⟨Nat.le_refl _, Nat.le_refl _⟩ (Nat.le_of_ble_eq_true rfl) rfl rfl (fun vr S_17 H locs hP hJ => ?_)
        obtain ⟨rfl, u_17, o_17⟩ := hP
        have hu2 : UZ S_17 u_r (ubi u_u P Q (i + 1)) := by
          rw [← ubi_s u_u (v := (sM T).2.1 (6 + 7 * P + i)) (by rw [hu.2 P i hP hlt]; exact if_neg (fun y => hPQ y.1))]; exact u_17
        refine lv_iinc (v := nI (i + 1)) (lv' := [(3, .int (nI (i + 1))), (0, .ref (gA E 84)), (1, .int p0), (2, .int p1)]) hx hb dX7_brings_20 hl (k := 3) rfl (by exact nI_1 i) (by decide) rfl (fun ls hl => ?_)
        refine lv_goto (tgt := 2) hx hb dX7_brings_23 (by decide) ?_
        exact ih_lp (i + 1) S_17 H locs _ (by omega) (by omega) hu2 (ho.t o_17) hJ (lv_sub hl [1, 2, 3, 0] rfl)
  exact lp 8 0 S s.heap [] _ (Nat.zero_le _) (by omega) (by rw [ubi_0]; exact hU) (RO.r S) hJ (lv_sub hl [1, 2, 3, 0] rfl)
