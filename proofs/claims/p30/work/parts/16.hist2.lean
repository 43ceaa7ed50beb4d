/-! HISTORY, its methods (by program) -/
set_option maxHeartbeats 4000000 in
set_option maxRecDepth 100000 in
theorem c_X3_dropOldest {l : Launch} {E : GE} (hE : Env0 E) {S : ST} (h : HO (sH S) 4) : MW l E yX3_dropOldest cX3_dropOldest 3 (none : Option Jvm.ClassFile.FieldType) 0 0 S [.ref (gA E 78)] (fun v S1 => v = none ∧ S1 = setHi S (hrot (sH S).1) 3) := by
  refine MW.of hE (by decide) (Nat.le_of_ble_eq_true rfl) ?_
  intro p e s m below meth c ls C hJ hr hl
  have hx := C.x
  have hb := C.b
  have hl : lv_has ls 3 [(0, .ref (gA E 78))] := hl
  refine lv_aload_n hx hb dX3_dropOldest_0 rfl (lv_at hl 0 rfl) ?_
  refine g_X3_11 C hJ dX3_dropOldest_1 ?_
  refine lv_iconst (v := 0) hx hb dX3_dropOldest_4 (by decide) ?_
  refine a_sv C hJ (P := 0) (rfl) (by omega) dX3_dropOldest_5 ?_
  refine lv_astore_n (lv' := [(1, .ref (gA E (13 * ((sH S).1 0)))), (0, .ref (gA E 78))]) hx hb dX3_dropOldest_6 rfl hl (by decide) rfl (fun ls hl => ?_)
  refine lv_iconst (v := 1) hx hb dX3_dropOldest_7 (by decide) ?_
  refine lv_istore_n (lv' := [(2, .int 1), (1, .ref (gA E (13 * ((sH S).1 0)))), (0, .ref (gA E 78))]) hx hb dX3_dropOldest_8 rfl hl (by decide) rfl (fun ls hl => ?_)
  have lp : ∀ (d : Nat) (i : Nat) (T : ST) (H : Heap) (locs : List Loc) (ls : Array Slot), (1 ≤ i ∧ i ≤ 4) → (4 < i + d) → (T = setHi S (hsh (sH S).1 i) (sH S).2) → JJ E T H locs → lv_has ls 3 [(0, .ref (gA E 78)), (1, .ref (gA E (13 * ((sH S).1 0)))), (2, .int (nI i))] → W p l e (rmZ 0 0) s m ([.ref (gA E 78)] : List Value).toArray below meth c H locs 0 0 (WQ below ([.ref (gA E 78)] : List Value).toArray s E (fun v S1 => v = none ∧ S1 = setHi S (hrot (sH S).1) 3)) (F0 m 9 ls []) := by
    intro d
    induction d with
    | zero =>
      intro i T H locs ls hi hd hT hJ hl
      omega
    | succ d ih_lp =>
      intro i T H locs ls hi hd hT hJ hl
      refine lv_iload_n hx hb dX3_dropOldest_9 rfl (lv_at hl 2 rfl) ?_
      refine lv_aload_n hx hb dX3_dropOldest_10 rfl (lv_at hl 0 rfl) ?_
      refine g_X3_11 C hJ dX3_dropOldest_11 ?_
      refine al_sv C hJ dX3_dropOldest_14 ?_
      refine lv_icmp_ge (tgt := 38) hx hb dX3_dropOldest_15 (by decide) (fun c_15 => ?_) (fun c_15 => ?_)
      · skip
        have e9 : i = 4 := eqOfLe (N := 4) hi.2 (by omega) c_15
        refine lv_aload_n hx hb dX3_dropOldest_38 rfl (lv_at hl 0 rfl) ?_
        refine g_X3_11 C hJ dX3_dropOldest_39 ?_
        refine lv_aload_n hx hb dX3_dropOldest_42 rfl (lv_at hl 0 rfl) ?_
        refine g_X3_11 C hJ dX3_dropOldest_43 ?_
        refine al_sv C hJ dX3_dropOldest_46 ?_
        refine lv_iconst (v := 1) hx hb dX3_dropOldest_47 (by decide) ?_
        refine lv_isub hx hb dX3_dropOldest_48 ?_
        refine lv_aload_n hx hb dX3_dropOldest_49 rfl (lv_at hl 1 rfl) ?_
        refine t_sv C hJ ((h.2.2.1 0 (by decide)).2) (P := 3) (rfl) (by omega) dX3_dropOldest_50 (fun H locs hJ => ?_)
        obtain ⟨S_50, hS_50⟩ : ∃ z : ST, z = setHs T 3 ((sH S).1 0) := ⟨_, rfl⟩
        rw [← hS_50] at hJ
        refine lv_aload_n hx hb dX3_dropOldest_51 rfl (lv_at hl 0 rfl) ?_
        refine lv_aload_n hx hb dX3_dropOldest_52 rfl (lv_at hl 0 rfl) ?_
        refine g_X3_11 C hJ dX3_dropOldest_53 ?_
        refine al_sv C hJ dX3_dropOldest_56 ?_
        refine lv_iconst (v := 1) hx hb dX3_dropOldest_57 (by decide) ?_
        refine lv_isub hx hb dX3_dropOldest_58 ?_
        refine p_X3_18 C hJ dX3_dropOldest_59 (fun H locs hJ => ?_)
        obtain ⟨S_59, hS_59⟩ : ∃ z : ST, z = setHn S_50 (4 - 1) := ⟨_, rfl⟩
        rw [← hS_59] at hJ
        exact rW_v C hJ hr (⟨rfl, by rw [hS_59, hS_50, hT, e9]; show setHi S (va_up (hsh (sH S).1 4) 3 ((sH S).1 0)) _ = _; rw [hsh_e]; rfl⟩) dX3_dropOldest_62
      · skip
        have hlt : i < 4 := ltOfNle (N := 4) (by omega) c_15
        refine lv_aload_n hx hb dX3_dropOldest_18 rfl (lv_at hl 0 rfl) ?_
        refine g_X3_11 C hJ dX3_dropOldest_19 ?_
        refine lv_iload_n hx hb dX3_dropOldest_22 rfl (lv_at hl 2 rfl) ?_
        refine lv_iconst (v := 1) hx hb dX3_dropOldest_23 (by decide) ?_
        refine lv_isub hx hb dX3_dropOldest_24 ?_
        refine lv_aload_n hx hb dX3_dropOldest_25 rfl (lv_at hl 0 rfl) ?_
        refine g_X3_11 C hJ dX3_dropOldest_26 ?_
        refine lv_iload_n hx hb dX3_dropOldest_29 rfl (lv_at hl 2 rfl) ?_
        refine a_sv C hJ (P := i) (rfl) (by omega) dX3_dropOldest_30 ?_
        refine t_sv C hJ (by rw [hT]; show hsh (sH S).1 i i < 6; unfold hsh; rw [if_neg (by omega)]; exact (h.2.2.1 i (by omega)).2) (P := i - 1) (nI_pd (by omega)) (by omega) dX3_dropOldest_31 (fun H locs hJ => ?_)
        obtain ⟨S_31, hS_31⟩ : ∃ z : ST, z = setHs T (i - 1) ((sH T).1 i) := ⟨_, rfl⟩
        rw [← hS_31] at hJ
        have hT : S_31 = setHi S (hsh (sH S).1 (i + 1)) (sH S).2 := by
          rw [hS_31, hT]
          show setHi S (va_up (hsh (sH S).1 i) (i - 1) (hsh (sH S).1 i i)) (sH S).2 = _
          rw [hsh_s _ hi.1]
        refine lv_iinc (v := nI (i + 1)) (lv' := [(2, .int (nI (i + 1))), (0, .ref (gA E 78)), (1, .ref (gA E (13 * ((sH S).1 0))))]) hx hb dX3_dropOldest_32 hl (k := 2) rfl (by exact nI_1 i) (by decide) rfl (fun ls hl => ?_)
        refine lv_goto (tgt := 9) hx hb dX3_dropOldest_35 (by decide) ?_
        exact ih_lp (i + 1) S_31 H locs _ ⟨by omega, by omega⟩ (by omega) hT hJ (lv_sub hl [1, 2, 0] rfl)
  exact lp (4 + 1) 1 S s.heap [] _ ⟨by omega, by omega⟩ (by omega) (by rw [hsh_1]; rfl) hJ (lv_sub hl [2, 1, 0] rfl)
set_option maxHeartbeats 4000000 in
set_option maxRecDepth 100000 in
theorem c_X3_push {l : Launch} {E : GE} (hE : Env0 E) {S : ST} {cv : LVt} {mc : Nat} {sv : Nat → LVt} (h : XI S cv mc sv) : MW l E yX3_push cX3_push 3 (none : Option Jvm.ClassFile.FieldType) 2 44 S [.ref (gA E 78), .ref (gA E 0)] (fun v S1 => v = none ∧ XI S1 cv (f_push cv mc sv).1 (f_push cv mc sv).2 ∧ S1.2.2 = S.2.2) := by
  refine MW.of hE (by decide) (Nat.le_of_ble_eq_true rfl) ?_
  intro p e s m below meth c ls C hJ hr hl
  have hx := C.x
  have hb := C.b
  have hl : lv_has ls 3 [(0, .ref (gA E 78)), (1, .ref (gA E 0))] := hl
  refine lv_aload_n hx hb dX3_push_0 rfl (lv_at hl 0 rfl) ?_
  refine g_X3_18 C hJ dX3_push_1 ?_
  refine lv_aload_n hx hb dX3_push_4 rfl (lv_at hl 0 rfl) ?_
  refine g_X3_11 C hJ dX3_push_5 ?_
  refine al_sv C hJ dX3_push_8 ?_
  refine lv_icmp_lt (tgt := 16) hx hb dX3_push_9 (by decide) (fun c_9 => ?_) (fun c_9 => ?_)
  · skip
    have hm : mc < 4 := by
      rcases Nat.lt_or_ge mc 4 with q | q
      · exact q
      · exact absurd (by rw [h.2.1.2.1] at c_9; exact c_9) (nI_nlt (b := 4) q (by have := h.2.1.1; omega))
    have hR : S.2.2 = S.2.2 := rfl
    obtain ⟨m1, sv1, hX1, hm1, hpf⟩ : ∃ (m1 : Nat) (sv1 : Nat → LVt), XI S cv m1 sv1 ∧ m1 < 4 ∧ f_push cv mc sv = (m1 + 1, fun j => if j = m1 then cv else sv1 j) := ⟨mc, sv, h, hm, by unfold f_push; rw [if_pos hm]⟩
    refine lv_aload_n hx hb dX3_push_16 rfl (lv_at hl 0 rfl) ?_
    refine g_X3_18 C hJ dX3_push_17 ?_
    refine lv_if_lt (tgt := 35) hx hb dX3_push_20 (by decide) (fun c_20 => ?_) (fun c_20 => ?_)
    · skip
      exact absurd (by rw [hX1.2.1.2.1] at c_20; exact c_20) (nI_pos (by omega))
    · skip
      refine lv_aload_n hx hb dX3_push_23 rfl (lv_at hl 0 rfl) ?_
      refine g_X3_18 C hJ dX3_push_24 ?_
      refine lv_aload_n hx hb dX3_push_27 rfl (lv_at hl 0 rfl) ?_
      refine g_X3_11 C hJ dX3_push_28 ?_
      refine al_sv C hJ dX3_push_31 ?_
      refine lv_icmp_lt (tgt := 36) hx hb dX3_push_32 (by decide) (fun c_32 => ?_) (fun c_32 => ?_)
      · skip
        refine lv_aload_n hx hb dX3_push_36 rfl (lv_at hl 0 rfl) ?_
        refine g_X3_11 C hJ dX3_push_37 ?_
        refine lv_aload_n hx hb dX3_push_40 rfl (lv_at hl 0 rfl) ?_
        refine g_X3_18 C hJ dX3_push_41 ?_
        refine a_sv C hJ (P := m1) (hX1.2.1.2.1) (hm1) dX3_push_44 ?_
        refine lv_astore_n (lv' := [(2, .ref (gA E (13 * ((sH S).1 m1)))), (0, .ref (gA E 78)), (1, .ref (gA E 0))]) hx hb dX3_push_45 rfl hl (by decide) rfl (fun ls hl => ?_)
        refine lv_aload_n hx hb dX3_push_46 rfl (lv_at hl 0 rfl) ?_
        refine lv_ifnull hx hb dX3_push_47 ?_
        obtain ⟨tq, htq⟩ := hX1.2.2.1 _ (hX1.2.1.2.2.1 m1 hm1).2
        refine lv_aload_n hx hb dX3_push_50 rfl (lv_at hl 0 rfl) ?_
        refine lv_aload_n hx hb dX3_push_51 rfl (lv_at hl 2 rfl) ?_
        refine cw_X3_25 C hJ ((hX1.2.1.2.2.1 m1 hm1).2) (rest := []) (c_X4_copyFrom hE (hX1.2.1.2.2.1 m1 hm1).2 htq (k2 := 0) (by decide) hX1.1 (by have := (hX1.2.1.2.2.1 m1 hm1).1; omega)) dX3_push_52 hl.1 ⟨Nat.le_of_ble_eq_true rfl, Nat.le_of_ble_eq_true rfl⟩ ⟨Nat.le_refl _, Nat.le_refl _⟩ (Nat.le_of_ble_eq_true rfl) rfl rfl (fun vr S_52 H locs hP hJ => ?_)
        obtain ⟨rfl, hU⟩ := hP
        refine lv_aload_n hx hb dX3_push_55 rfl (lv_at hl 1 rfl) ?_
        refine lv_dup hx hb dX3_push_56 rfl ?_
        refine g_X3_18 C hJ dX3_push_57 ?_
        refine lv_iconst (v := 1) hx hb dX3_push_60 (by decide) ?_
        refine lv_iadd hx hb dX3_push_61 ?_
        refine p_X3_18 C hJ dX3_push_62 (fun H locs hJ => ?_)
        obtain ⟨S_62, hS_62⟩ : ∃ z : ST, z = setHn S_52 (((sH S_52).2) + 1) := ⟨_, rfl⟩
        rw [← hS_62] at hJ
        have eS : S_62 = setHn S_52 (nI (m1 + 1)) := by rw [hS_62, show (sH S_52).2 = nI m1 from (congrArg (fun q => q.1.2) hU.1).trans hX1.2.1.2.1, nI_1]
        have hF := XI.push hX1 hm1 hU eS
        exact rW_v C hJ hr (⟨rfl, by rw [hpf]; exact hF.1, hF.2.trans hR⟩) dX3_push_65
      · skip
        exact absurd (by rw [hX1.2.1.2.1]; exact nI_lt (b := 4) hm1 (by omega)) c_32
  · skip
    have e4 : mc = 4 := by
      have := h.2.1.1
      rcases Nat.lt_or_ge mc 4 with q | q
      · exact absurd (by rw [h.2.1.2.1]; exact nI_lt (b := 4) q (by omega)) c_9
      · omega
    refine lv_aload_n hx hb dX3_push_12 rfl (lv_at hl 0 rfl) ?_
    refine cw_X3_22 C hJ (rest := []) (c_X3_dropOldest hE (by have := h.2.1; rw [show mc = 4 from e4] at this; exact this)) dX3_push_13 hl.1 ⟨Nat.le_of_ble_eq_true rfl, Nat.le_of_ble_eq_true rfl⟩ ⟨Nat.le_refl _, Nat.le_refl _⟩ (Nat.le_of_ble_eq_true rfl) rfl rfl (fun vr S_13 H locs hP hJ => ?_)
    obtain ⟨rfl, hS_13⟩ := hP
    have h4 : XI S cv 4 sv := e4 ▸ h
    have hdr := XI.drop h4 hS_13
    have hR := hdr.2
    obtain ⟨m1, sv1, hX1, hm1, hpf⟩ : ∃ (m1 : Nat) (sv1 : Nat → LVt), XI S_13 cv m1 sv1 ∧ m1 < 4 ∧ f_push cv mc sv = (m1 + 1, fun j => if j = m1 then cv else sv1 j) := ⟨3, fun j => sv (j + 1), hdr.1, by omega, by unfold f_push; rw [if_neg (by omega)]⟩
    refine lv_aload_n hx hb dX3_push_16 rfl (lv_at hl 0 rfl) ?_
    refine g_X3_18 C hJ dX3_push_17 ?_
    refine lv_if_lt (tgt := 35) hx hb dX3_push_20 (by decide) (fun c_20 => ?_) (fun c_20 => ?_)
    · skip
      exact absurd (by rw [hX1.2.1.2.1] at c_20; exact c_20) (nI_pos (by omega))
    · skip
      refine lv_aload_n hx hb dX3_push_23 rfl (lv_at hl 0 rfl) ?_
      refine g_X3_18 C hJ dX3_push_24 ?_
      refine lv_aload_n hx hb dX3_push_27 rfl (lv_at hl 0 rfl) ?_
      refine g_X3_11 C hJ dX3_push_28 ?_
      refine al_sv C hJ dX3_push_31 ?_
      refine lv_icmp_lt (tgt := 36) hx hb dX3_push_32 (by decide) (fun c_32 => ?_) (fun c_32 => ?_)
      · skip
        refine lv_aload_n hx hb dX3_push_36 rfl (lv_at hl 0 rfl) ?_
        refine g_X3_11 C hJ dX3_push_37 ?_
        refine lv_aload_n hx hb dX3_push_40 rfl (lv_at hl 0 rfl) ?_
        refine g_X3_18 C hJ dX3_push_41 ?_
        refine a_sv C hJ (P := m1) (hX1.2.1.2.1) (hm1) dX3_push_44 ?_
        refine lv_astore_n (lv' := [(2, .ref (gA E (13 * ((sH S_13).1 m1)))), (0, .ref (gA E 78)), (1, .ref (gA E 0))]) hx hb dX3_push_45 rfl hl (by decide) rfl (fun ls hl => ?_)
        refine lv_aload_n hx hb dX3_push_46 rfl (lv_at hl 0 rfl) ?_
        refine lv_ifnull hx hb dX3_push_47 ?_
        obtain ⟨tq, htq⟩ := hX1.2.2.1 _ (hX1.2.1.2.2.1 m1 hm1).2
        refine lv_aload_n hx hb dX3_push_50 rfl (lv_at hl 0 rfl) ?_
        refine lv_aload_n hx hb dX3_push_51 rfl (lv_at hl 2 rfl) ?_
        refine cw_X3_25 C hJ ((hX1.2.1.2.2.1 m1 hm1).2) (rest := []) (c_X4_copyFrom hE (hX1.2.1.2.2.1 m1 hm1).2 htq (k2 := 0) (by decide) hX1.1 (by have := (hX1.2.1.2.2.1 m1 hm1).1; omega)) dX3_push_52 hl.1 ⟨Nat.le_of_ble_eq_true rfl, Nat.le_of_ble_eq_true rfl⟩ ⟨Nat.le_refl _, Nat.le_refl _⟩ (Nat.le_of_ble_eq_true rfl) rfl rfl (fun vr S_52 H locs hP hJ => ?_)
        obtain ⟨rfl, hU⟩ := hP
        refine lv_aload_n hx hb dX3_push_55 rfl (lv_at hl 1 rfl) ?_
        refine lv_dup hx hb dX3_push_56 rfl ?_
        refine g_X3_18 C hJ dX3_push_57 ?_
        refine lv_iconst (v := 1) hx hb dX3_push_60 (by decide) ?_
        refine lv_iadd hx hb dX3_push_61 ?_
        refine p_X3_18 C hJ dX3_push_62 (fun H locs hJ => ?_)
        obtain ⟨S_62, hS_62⟩ : ∃ z : ST, z = setHn S_52 (((sH S_52).2) + 1) := ⟨_, rfl⟩
        rw [← hS_62] at hJ
        have eS : S_62 = setHn S_52 (nI (m1 + 1)) := by rw [hS_62, show (sH S_52).2 = nI m1 from (congrArg (fun q => q.1.2) hU.1).trans hX1.2.1.2.1, nI_1]
        have hF := XI.push hX1 hm1 hU eS
        exact rW_v C hJ hr (⟨rfl, by rw [hpf]; exact hF.1, hF.2.trans hR⟩) dX3_push_65
      · skip
        exact absurd (by rw [hX1.2.1.2.1]; exact nI_lt (b := 4) hm1 (by omega)) c_32
set_option maxHeartbeats 4000000 in
set_option maxRecDepth 100000 in
theorem c_X3_popInto {l : Launch} {E : GE} (hE : Env0 E) {S : ST} {cv : LVt} {mc : Nat} {sv : Nat → LVt} (h : XI S cv mc sv) (hm : 0 < mc) : MW l E yX3_popInto cX3_popInto 3 (none : Option Jvm.ClassFile.FieldType) 2 44 S [.ref (gA E 78), .ref (gA E 0)] (fun v S1 => v = none ∧ XI S1 (sv (mc - 1)) (mc - 1) sv ∧ S1.2.2 = S.2.2) := by
  have hm4 := h.2.1.1
  refine MW.of hE (by decide) (Nat.le_of_ble_eq_true rfl) ?_
  intro p e s m below meth c ls C hJ hr hl
  have hx := C.x
  have hb := C.b
  have hl : lv_has ls 3 [(0, .ref (gA E 78)), (1, .ref (gA E 0))] := hl
  refine lv_aload_n hx hb dX3_popInto_0 rfl (lv_at hl 0 rfl) ?_
  refine g_X3_18 C hJ dX3_popInto_1 ?_
  refine lv_if_le (tgt := 19) hx hb dX3_popInto_4 (by decide) (fun c_4 => ?_) (fun c_4 => ?_)
  · skip
    exact absurd (by rw [h.2.1.2.1] at c_4; exact c_4) (nI_nle hm (by omega))
  · skip
    refine lv_aload_n hx hb dX3_popInto_7 rfl (lv_at hl 0 rfl) ?_
    refine g_X3_18 C hJ dX3_popInto_8 ?_
    refine lv_aload_n hx hb dX3_popInto_11 rfl (lv_at hl 0 rfl) ?_
    refine g_X3_11 C hJ dX3_popInto_12 ?_
    refine al_sv C hJ dX3_popInto_15 ?_
    refine lv_icmp_le (tgt := 20) hx hb dX3_popInto_16 (by decide) (fun c_16 => ?_) (fun c_16 => ?_)
    · skip
      refine lv_aload_n hx hb dX3_popInto_20 rfl (lv_at hl 0 rfl) ?_
      refine lv_dup hx hb dX3_popInto_21 rfl ?_
      refine g_X3_18 C hJ dX3_popInto_22 ?_
      refine lv_iconst (v := 1) hx hb dX3_popInto_25 (by decide) ?_
      refine lv_isub hx hb dX3_popInto_26 ?_
      refine p_X3_18 C hJ dX3_popInto_27 (fun H locs hJ => ?_)
      obtain ⟨S_27, hS_27⟩ : ∃ z : ST, z = setHn S (((sH S).2) - 1) := ⟨_, rfl⟩
      rw [← hS_27] at hJ
      have e27 : S_27 = setHn S (nI (mc - 1)) := by rw [hS_27, h.2.1.2.1, nI_pd hm]
      have hk2 : (sH S_27).1 (mc - 1) < 6 := by rw [e27]; exact (h.2.1.2.2.1 (mc - 1) (by omega)).2
      have h27 : LnV (sL S_27) 0 cv := by rw [e27]; exact h.1
      have h27b : LnV (sL S_27) ((sH S_27).1 (mc - 1)) (sv (mc - 1)) := by rw [e27]; exact h.2.2.2 (mc - 1) (by omega)
      refine lv_aload_n hx hb dX3_popInto_30 rfl (lv_at hl 0 rfl) ?_
      refine g_X3_11 C hJ dX3_popInto_31 ?_
      refine lv_aload_n hx hb dX3_popInto_34 rfl (lv_at hl 0 rfl) ?_
      refine g_X3_18 C hJ dX3_popInto_35 ?_
      refine a_sv C hJ (P := mc - 1) (by rw [e27]; rfl) (by omega) dX3_popInto_38 ?_
      refine lv_astore_n (lv' := [(2, .ref (gA E (13 * ((sH S_27).1 (mc - 1))))), (0, .ref (gA E 78)), (1, .ref (gA E 0))]) hx hb dX3_popInto_39 rfl hl (by decide) rfl (fun ls hl => ?_)
      refine lv_aload_n hx hb dX3_popInto_40 rfl (lv_at hl 0 rfl) ?_
      refine lv_ifnull hx hb dX3_popInto_41 ?_
      refine lv_aload_n hx hb dX3_popInto_44 rfl (lv_at hl 2 rfl) ?_
      refine lv_aload_n hx hb dX3_popInto_45 rfl (lv_at hl 0 rfl) ?_
      refine cw_X3_25 C hJ (k := 0) (by decide) (rest := []) (c_X4_copyFrom hE (k := 0) (by decide) h27 hk2 h27b (by have := (h.2.1.2.2.1 (mc - 1) (by have := h.2.1.1; omega)).1; rw [e27]; show (sH S).1 (mc - 1) ≠ 0; omega)) dX3_popInto_46 hl.1 ⟨Nat.le_of_ble_eq_true rfl, Nat.le_of_ble_eq_true rfl⟩ ⟨Nat.le_refl _, Nat.le_refl _⟩ (Nat.le_of_ble_eq_true rfl) rfl rfl (fun vr S_46 H locs hP hJ => ?_)
      obtain ⟨rfl, hU⟩ := hP
      have hF := XI.pop h hm e27 hU
      exact rW_v C hJ hr (⟨rfl, hF⟩) dX3_popInto_49
    · skip
      exact absurd (by rw [h.2.1.2.1]; exact nI_le (b := 4) (by omega) (by omega)) c_16
