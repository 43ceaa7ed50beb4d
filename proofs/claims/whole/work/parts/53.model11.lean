/-! MODEL: saving (by program) -/
set_option maxHeartbeats 4000000 in
set_option maxRecDepth 100000 in
theorem c_X7_saves {l : Launch} {E : GE} (hE : Env0 E) {S : ST} {n : Nat} {z : Nat → Int32} {mm : Nat → Nat → Int32} (hR : RI S n z mm) (hM : MmOk n mm) {mc : Nat} {sv : Nat → LVt} (hV : SV S mc sv) : MW l E yX7_saves cX7_saves 2 (none : Option Jvm.ClassFile.FieldType) 1 23 S [.ref (gA E 84)] (fun v S1 => v = none ∧ RI S1 n z mm ∧ SV S1 (f_push (n, z, mm) mc sv).1 (f_push (n, z, mm) mc sv).2 ∧ KP S S1) := by
  have h4 := hV.1
  refine MW.of hE (by decide) (Nat.le_of_ble_eq_true rfl) ?_
  intro p e s m below meth c ls C hJ hr hl
  have hx := C.x
  have hb := C.b
  have hl : lv_has ls 2 [(0, .ref (gA E 84))] := hl
  refine lv_aload_n hx hb dX7_saves_0 rfl (lv_at hl 0 rfl) ?_
  refine g_X7_26 C hJ dX7_saves_1 ?_
  refine lv_iconst (v := 4) hx hb dX7_saves_4 (by decide) ?_
  refine lv_icmp_ne (tgt := 45) hx hb dX7_saves_5 (by decide) (fun c_5 => ?_) (fun c_5 => ?_)
  · skip
    have hm : mc < 4 := by
      rcases Nat.lt_or_ge mc 4 with q | q
      · exact q
      · exact absurd (by rw [hV.2.1, show mc = 4 by omega]; rfl) c_5
    have hRa := hR
    have hKa := KP.r S
    obtain ⟨mq, sq, hmq, hsq, hka, hpu0, hpu1⟩ : ∃ (mq : Nat) (sq : Nat → LVt), mq < 4 ∧ (∀ k, k < mq → RowIs (sM S).2.1 (76 * (k + 1)) (sq k).1 (sq k).2.1 (sq k).2.2 ∧ MmOk (sq k).1 (sq k).2.2) ∧ (sM S).1 1 = nI mq ∧ (f_push (n, z, mm) mc sv).1 = mq + 1 ∧ ((f_push (n, z, mm) mc sv).2 mq = (n, z, mm) ∧ ∀ k, k < mq → (f_push (n, z, mm) mc sv).2 k = sq k) := ⟨mc, sv, hm, hV.2.2, hV.2.1, by unfold f_push; rw [if_pos hm], by unfold f_push; rw [if_pos hm]; exact ⟨if_pos rfl, fun k hk => if_neg (by omega)⟩⟩
    refine lv_aload_n hx hb dX7_saves_45 rfl (lv_at hl 0 rfl) ?_
    refine lv_dup hx hb dX7_saves_46 rfl ?_
    refine g_X7_26 C hJ dX7_saves_47 ?_
    refine lv_iconst (v := 1) hx hb dX7_saves_50 (by decide) ?_
    refine lv_iadd hx hb dX7_saves_51 ?_
    refine p_X7_26 C hJ dX7_saves_52 (fun H locs hJ => ?_)
    obtain ⟨S_52, hS_52⟩ : ∃ z : ST, z = setM S (mMs (sM S) 1 (((sM S).1 1) + 1)) := ⟨_, rfl⟩
    rw [← hS_52] at hJ
    have hk52 : (sM S_52).1 1 = nI (mq + 1) := by rw [hS_52, hka, nI_1]; rfl
    have hr52 : (sM S_52).2.1 = (sM S).2.1 := by rw [hS_52]; rfl
    have hR52 : RI S_52 n z mm := by unfold RI; rw [hr52]; exact hRa
    have hK52 : KP S S_52 := by rw [hS_52]; exact hKa.t KP.sc
    refine lv_aload_n hx hb dX7_saves_55 rfl (lv_at hl 0 rfl) ?_
    refine lv_iconst (v := 0) hx hb dX7_saves_56 (by decide) ?_
    refine lv_bipush (v := 76) hx hb dX7_saves_57 (by decide) ?_
    refine lv_aload_n hx hb dX7_saves_59 rfl (lv_at hl 0 rfl) ?_
    refine g_X7_26 C hJ dX7_saves_60 ?_
    refine lv_imul hx hb dX7_saves_63 ?_
    rw [show (76 : Int32) * (sM S_52).1 1 = nI (76 * (mq + 1)) from nI76 hk52]
    refine cw_X7_29 C hJ (rest := []) ((show MW l E yX7_copies cX7_copies 4 none 0 0 S_52 [.ref (gA E 84), .int 0, .int (nI (76 * (mq + 1)))] _ from c_X7_copies hE (S := S_52) (0) (76 * (mq + 1)) (by omega) (by omega) (by omega))) dX7_saves_64 hl.1 ⟨Nat.le_of_ble_eq_true rfl, Nat.le_of_ble_eq_true rfl⟩ ⟨Nat.le_refl _, Nat.le_refl _⟩ (Nat.le_of_ble_eq_true rfl) rfl rfl (fun vr S_64 H locs hP hJ => ?_)
    obtain ⟨rfl, w_64⟩ := hP
    have hRz := hR52.w (by omega) w_64
    have hVz := SV.more (sw := (f_push (n, z, mm) mc sv).2) hRa hM hmq hsq hk52 hr52 w_64 hpu1.1 hpu1.2
    exact rW_v C hJ hr (⟨rfl, hRz, by rw [hpu0]; exact hVz, hK52.t (KP.w w_64)⟩) dX7_saves_67
  · skip
    have e4 : mc = 4 := by have q := c_5; rw [hV.2.1] at q; exact (nI_eq (b := 4) (by omega) (by omega)).mp q
    have hD0 : SD S 1 sv := fun k hk => ⟨sv k, by rw [if_neg (by omega)], (hV.2.2 k (by omega)).1⟩
    refine lv_iconst (v := 1) hx hb dX7_saves_8 (by decide) ?_
    refine lv_istore_n (lv' := [(1, .int 1), (0, .ref (gA E 84))]) hx hb dX7_saves_9 rfl hl (by decide) rfl (fun ls hl => ?_)
    have lp : ∀ (d : Nat) (i : Nat) (T : ST) (H : Heap) (locs : List Loc) (ls : Array Slot), (1 ≤ i ∧ i ≤ 4) → (4 < i + d) → (SD T i sv) → (RI T n z mm) → (KP S T) → ((sM T).1 1 = nI 4) → JJ E T H locs → lv_has ls 2 [(0, .ref (gA E 84)), (1, .int (nI i))] → W p l e (rmZ 1 23) s m ([.ref (gA E 84)] : List Value).toArray below meth c H locs 0 0 (WQ below ([.ref (gA E 84)] : List Value).toArray s E (fun v S1 => v = none ∧ RI S1 n z mm ∧ SV S1 (f_push (n, z, mm) mc sv).1 (f_push (n, z, mm) mc sv).2 ∧ KP S S1)) (F0 m 10 ls []) := by
      intro d
      induction d with
      | zero =>
        intro i T H locs ls hi hd hD hR7 hK hk7 hJ hl
        omega
      | succ d ih_lp =>
        intro i T H locs ls hi hd hD hR7 hK hk7 hJ hl
        refine lv_iload_n hx hb dX7_saves_10 rfl (lv_at hl 1 rfl) ?_
        refine lv_iconst (v := 4) hx hb dX7_saves_11 (by decide) ?_
        refine lv_icmp_ge (tgt := 35) hx hb dX7_saves_12 (by decide) (fun c_12 => ?_) (fun c_12 => ?_)
        · skip
          have e9 : i = 4 := eqOfLe (N := 4) hi.2 (by omega) c_12
          rw [e9] at hD
          refine lv_aload_n hx hb dX7_saves_35 rfl (lv_at hl 0 rfl) ?_
          refine lv_dup hx hb dX7_saves_36 rfl ?_
          refine g_X7_26 C hJ dX7_saves_37 ?_
          refine lv_iconst (v := 1) hx hb dX7_saves_40 (by decide) ?_
          refine lv_isub hx hb dX7_saves_41 ?_
          refine p_X7_26 C hJ dX7_saves_42 (fun H locs hJ => ?_)
          obtain ⟨S_42, hS_42⟩ : ∃ z : ST, z = setM T (mMs (sM T) 1 (((sM T).1 1) - 1)) := ⟨_, rfl⟩
          rw [← hS_42] at hJ
          have hK42 : KP S S_42 := by rw [hS_42]; exact hK.t KP.sc
          have hr42 : (sM S_42).2.1 = (sM T).2.1 := by rw [hS_42]; rfl
          have hk42 : (sM S_42).1 1 = nI 3 := by rw [hS_42]; show (sM T).1 1 - 1 = _; rw [hk7]; rfl
          have hRa : RI S_42 n z mm := by unfold RI; rw [hr42]; exact hR7
          have hKa := hK42
          obtain ⟨mq, sq, hmq, hsq, hka, hpu0, hpu1⟩ : ∃ (mq : Nat) (sq : Nat → LVt), mq < 4 ∧ (∀ k, k < mq → RowIs (sM S_42).2.1 (76 * (k + 1)) (sq k).1 (sq k).2.1 (sq k).2.2 ∧ MmOk (sq k).1 (sq k).2.2) ∧ (sM S_42).1 1 = nI mq ∧ (f_push (n, z, mm) mc sv).1 = mq + 1 ∧ ((f_push (n, z, mm) mc sv).2 mq = (n, z, mm) ∧ ∀ k, k < mq → (f_push (n, z, mm) mc sv).2 k = sq k) := ⟨3, fun k => sv (k + 1), by omega, fun k hk => by
              rw [hr42]; obtain ⟨t, e1, e2⟩ := hD k (by omega); rw [if_pos (by omega)] at e1; subst e1; exact ⟨e2, (hV.2.2 (k + 1) (by omega)).2⟩, hk42, by unfold f_push; rw [if_neg (by omega)], by unfold f_push; rw [if_neg (by omega)]; exact ⟨rfl, fun k hk => by show (if k = 3 then (n, z, mm) else sv (k + 1)) = sv (k + 1); exact if_neg (by omega)⟩⟩
          refine lv_aload_n hx hb dX7_saves_45 rfl (lv_at hl 0 rfl) ?_
          refine lv_dup hx hb dX7_saves_46 rfl ?_
          refine g_X7_26 C hJ dX7_saves_47 ?_
          refine lv_iconst (v := 1) hx hb dX7_saves_50 (by decide) ?_
          refine lv_iadd hx hb dX7_saves_51 ?_
          refine p_X7_26 C hJ dX7_saves_52 (fun H locs hJ => ?_)
          obtain ⟨S_52, hS_52⟩ : ∃ z : ST, z = setM S_42 (mMs (sM S_42) 1 (((sM S_42).1 1) + 1)) := ⟨_, rfl⟩
          rw [← hS_52] at hJ
          have hk52 : (sM S_52).1 1 = nI (mq + 1) := by rw [hS_52, hka, nI_1]; rfl
          have hr52 : (sM S_52).2.1 = (sM S_42).2.1 := by rw [hS_52]; rfl
          have hR52 : RI S_52 n z mm := by unfold RI; rw [hr52]; exact hRa
          have hK52 : KP S S_52 := by rw [hS_52]; exact hKa.t KP.sc
          refine lv_aload_n hx hb dX7_saves_55 rfl (lv_at hl 0 rfl) ?_
          refine lv_iconst (v := 0) hx hb dX7_saves_56 (by decide) ?_
          refine lv_bipush (v := 76) hx hb dX7_saves_57 (by decide) ?_
          refine lv_aload_n hx hb dX7_saves_59 rfl (lv_at hl 0 rfl) ?_
          refine g_X7_26 C hJ dX7_saves_60 ?_
          refine lv_imul hx hb dX7_saves_63 ?_
          rw [show (76 : Int32) * (sM S_52).1 1 = nI (76 * (mq + 1)) from nI76 hk52]
          refine cw_X7_29 C hJ (rest := []) ((show MW l E yX7_copies cX7_copies 4 none 0 0 S_52 [.ref (gA E 84), .int 0, .int (nI (76 * (mq + 1)))] _ from c_X7_copies hE (S := S_52) (0) (76 * (mq + 1)) (by omega) (by omega) (by omega))) dX7_saves_64 hl.1 ⟨Nat.le_of_ble_eq_true rfl, Nat.le_of_ble_eq_true rfl⟩ ⟨Nat.le_refl _, Nat.le_refl _⟩ (Nat.le_of_ble_eq_true rfl) rfl rfl (fun vr S_64 H locs hP hJ => ?_)
          obtain ⟨rfl, w_64⟩ := hP
          have hRz := hR52.w (by omega) w_64
          have hVz := SV.more (sw := (f_push (n, z, mm) mc sv).2) hRa hM hmq hsq hk52 hr52 w_64 hpu1.1 hpu1.2
          exact rW_v C hJ hr (⟨rfl, hRz, by rw [hpu0]; exact hVz, hK52.t (KP.w w_64)⟩) dX7_saves_67
        · skip
          have hlt : i < 4 := ltOfNle (N := 4) (by omega) c_12
          refine lv_aload_n hx hb dX7_saves_15 rfl (lv_at hl 0 rfl) ?_
          refine lv_bipush (v := 76) hx hb dX7_saves_16 (by decide) ?_
          refine lv_iload_n hx hb dX7_saves_18 rfl (lv_at hl 1 rfl) ?_
          refine lv_iconst (v := 1) hx hb dX7_saves_19 (by decide) ?_
          refine lv_iadd hx hb dX7_saves_20 ?_
          refine lv_imul hx hb dX7_saves_21 ?_
          refine lv_bipush (v := 76) hx hb dX7_saves_22 (by decide) ?_
          refine lv_iload_n hx hb dX7_saves_24 rfl (lv_at hl 1 rfl) ?_
          refine lv_imul hx hb dX7_saves_25 ?_
          rw [show (76 : Int32) * (nI i + 1) = nI (76 * (i + 1)) from nI76 (nI_1 i)]
          rw [show (76 : Int32) * nI i = nI (76 * i) from nI76 rfl]
          refine cw_X7_29 C hJ (rest := []) ((show MW l E yX7_copies cX7_copies 4 none 0 0 T [.ref (gA E 84), .int (nI (76 * (i + 1))), .int (nI (76 * i))] _ from c_X7_copies hE (S := T) (76 * (i + 1)) (76 * i) (by omega) (by omega) (by omega))) dX7_saves_26 hl.1 ⟨Nat.le_of_ble_eq_true rfl, Nat.le_of_ble_eq_true rfl⟩ ⟨Nat.le_refl _, Nat.le_refl _⟩ (Nat.le_of_ble_eq_true rfl) rfl rfl (fun vr S_26 H locs hP hJ => ?_)
          obtain ⟨rfl, w_26⟩ := hP
          have hD2 := hD.s hi.1 hlt w_26
          have hR2 := hR7.w (by omega) w_26
          have hK2 := hK.t (KP.w w_26)
          have hk2 : (sM S_26).1 1 = nI 4 := by rw [w_26.2.2.2.1]; exact hk7
          refine lv_iinc (v := nI (i + 1)) (lv' := [(1, .int (nI (i + 1))), (0, .ref (gA E 84))]) hx hb dX7_saves_29 hl (k := 1) rfl (by exact nI_1 i) (by decide) rfl (fun ls hl => ?_)
          refine lv_goto (tgt := 10) hx hb dX7_saves_32 (by decide) ?_
          exact ih_lp (i + 1) S_26 H locs _ ⟨by omega, by omega⟩ (by omega) hD2 hR2 hK2 hk2 hJ (lv_sub hl [1, 0] rfl)
    exact lp 5 1 S s.heap [] _ ⟨by omega, by omega⟩ (by omega) hD0 hR (KP.r S) (by rw [hV.2.1, e4]) hJ (lv_sub hl [1, 0] rfl)
