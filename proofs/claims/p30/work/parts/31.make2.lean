/-! MAKING: the other constructors (by program) -/
abbrev zA (u_n : Nat) : vp_A := (u_n, .inl (fun _ => 0))
abbrev txV (qb qn : Nat) : List Value := [.ref qb, .int 0, .int 0, .int (-1), .null, .ref qn]
abbrev tW (h qb qn : Nat) (c0 c1 : ClassId) : va_W := [(h, .inr (0, txV qb qn)), (qb, .inl (c0, zA 150)), (qn, .inl (c1, zA 3))]
def TxP (h : Nat) : va_W → List (ClassId × FieldType) → Prop := fun u_w tys => ∃ (qb qn : Nat) (c0 c1 : ClassId), u_w = tW h qb qn c0 c1 ∧ tys = [(c0, .byte), (c1, .int)]
def hsL (a0 a1 a2 a3 : Nat → Nat) : Nat → Option Nat := fun j => ([some (a0 0), some (a1 0), some (a2 0), some (a3 0)] : List (Option Nat)).getD j none
abbrev hW4 (h q1 : Nat) (a0 a1 a2 a3 : Nat → Nat) (c2 c3 : ClassId) : va_W := (h, .inr (1, [.ref q1, .int 0])) :: qC q1 c2 4 (hsL a0 a1 a2 a3) :: (lnW a0 c3 ++ lnW a1 c3 ++ lnW a2 c3 ++ lnW a3 c3)
def HiP (h : Nat) : va_W → List (ClassId × FieldType) → Prop := fun u_w tys => ∃ (q1 : Nat) (a0 a1 a2 a3 : Nat → Nat) (c2 c3 : ClassId), u_w = hW4 h q1 a0 a1 a2 a3 c2 c3 ∧ tys = [(c2, .object "ConsentQueue$Line"), (c3, .object "ConsentQueue$Member")]
abbrev quV (q0 q1 q2 q3 : Nat) : List Value := [.ref q0, .ref q1, .ref q2, .ref q3]
abbrev qW (h : Nat) (a0 a1 : Nat → Nat) (qh qs : Nat) (a2 a3 a4 a5 : Nat → Nat) (qt qb qn : Nat) (c0 c1 c2 c3 : ClassId) : va_W := (h, .inr (4, quV (a0 0) (a1 0) qh qt)) :: (lnW a0 c3 ++ lnW a1 c3 ++ hW4 qh qs a2 a3 a4 a5 c2 c3 ++ tW qt qb qn c0 c1)
def QuP (h : Nat) : va_W → List (ClassId × FieldType) → Prop := fun u_w tys => ∃ (a0 a1 : Nat → Nat) (qh qs : Nat) (a2 a3 a4 a5 : Nat → Nat) (qt qb qn : Nat) (c0 c1 c2 c3 : ClassId), u_w = qW h a0 a1 qh qs a2 a3 a4 a5 qt qb qn c0 c1 c2 c3 ∧ tys = [(c0, .byte), (c1, .int), (c2, .object "ConsentQueue$Line"), (c3, .object "ConsentQueue$Member")]
set_option maxHeartbeats 4000000 in
set_option maxRecDepth 100000 in
theorem c_X2_init {l : Launch} {G : GB} (hE : B0 G) (h0 : Nat) : MB l G yX2_init cX2_init 1 1 12 2 153 [.ref h0] [tZ h0] (TxP h0) := by
  refine MB.of hE (by decide) (Nat.le_of_ble_eq_true rfl) ?_
  intro p e s m below meth c ls A C hin hP hD hA hr hl
  have hx := C.x
  have hb := C.b
  have hS : va_S A s.heap s.heap [] := va_S.rf
  have hK := C.en.1
  have hl : lv_has ls 1 [(0, .ref h0)] := hl
  refine lv_aload_n hx hb dX2_init_0 rfl (lv_at hl 0 rfl) ?_
  refine b_obj C km_X2_3 hl.1 dX2_init_1 ⟨by decide, by decide⟩ ?_
  refine lv_aload_n hx hb dX2_init_4 rfl (lv_at hl 0 rfl) ?_
  refine lv_sipush (v := 150) hx hb dX2_init_5 (by decide) ?_
  refine b_arr (atype := .byte) (ty := .byte) (u_n := 150) (a0 := zA 150) C rfl ka_byte hK hP hD hS hA (fun _ => rfl) (by decide) (by decide) (by decide) ⟨by show _ ≤ 2; omega, by show _ ≤ 153; omega⟩ dX2_init_8 (fun qb c0 H hK hP hD hS => ?_)
  have hP : va_P G.1 vwCl ([tZ h0, (qb, .inl (c0, zA 150))]) H := hP
  have hD : va_D A ([tZ h0, (qb, .inl (c0, zA 150))]) := hD
  have hK : va_K G.1 vwCl ([(c0, .byte)]) G.2.1 := hK
  refine b_putF (ci := 0) (k := 0) (N := 6) (T := TX2) (ty0 := tyX2) (ty := .array .byte) C hK hP hD hS kw_X2 tyX2_ok nmX2 rfl (by decide) kf_X2_9 rfl rfl hin rfl (by decide +kernel) rfl rfl 0 rfl (Nat.le_of_ble_eq_true rfl) dX2_init_10 (fun H locs hP hD hS => ?_)
  have hP : va_P G.1 vwCl ([(h0, .inr (0, [.ref qb, .int 0, .int 0, .int 0, .null, .null])), (qb, .inl (c0, zA 150))]) H := hP
  have hD : va_D A ([(h0, .inr (0, [.ref qb, .int 0, .int 0, .int 0, .null, .null])), (qb, .inl (c0, zA 150))]) := hD
  refine lv_aload_n hx hb dX2_init_13 rfl (lv_at hl 0 rfl) ?_
  refine lv_iconst (v := (-1)) hx hb dX2_init_14 (by decide) ?_
  refine b_put (ci := 0) (k := 3) (N := 6) (T := TX2) (ty0 := tyX2) (ty := .int) C hK hP hD hS kw_X2 tyX2_ok nmX2 rfl (by decide) kf_X2_15 rfl rfl (by decide +kernel) rfl rfl 0 rfl (Nat.le_of_ble_eq_true rfl) dX2_init_15 (fun H locs hP hD hS => ?_)
  have hP : va_P G.1 vwCl ([(h0, .inr (0, [.ref qb, .int 0, .int 0, .int (-1), .null, .null])), (qb, .inl (c0, zA 150))]) H := hP
  have hD : va_D A ([(h0, .inr (0, [.ref qb, .int 0, .int 0, .int (-1), .null, .null])), (qb, .inl (c0, zA 150))]) := hD
  refine lv_aload_n hx hb dX2_init_18 rfl (lv_at hl 0 rfl) ?_
  refine lv_iconst (v := 3) hx hb dX2_init_19 (by decide) ?_
  refine b_arr (atype := .int) (ty := .int) (u_n := 3) (a0 := zA 3) C rfl ka_int hK hP hD hS hA (fun _ => rfl) (by decide) (by decide) (by decide) ⟨by show _ ≤ 2; omega, by show _ ≤ 153; omega⟩ dX2_init_20 (fun qn c1 H hK hP hD hS => ?_)
  have hP : va_P G.1 vwCl ([(h0, .inr (0, [.ref qb, .int 0, .int 0, .int (-1), .null, .null])), (qb, .inl (c0, zA 150)), (qn, .inl (c1, zA 3))]) H := hP
  have hD : va_D A ([(h0, .inr (0, [.ref qb, .int 0, .int 0, .int (-1), .null, .null])), (qb, .inl (c0, zA 150)), (qn, .inl (c1, zA 3))]) := hD
  have hK : va_K G.1 vwCl ([(c0, .byte), (c1, .int)]) G.2.1 := hK
  refine b_putF (ci := 0) (k := 5) (N := 6) (T := TX2) (ty0 := tyX2) (ty := .array .int) C hK hP hD hS kw_X2 tyX2_ok nmX2 rfl (by decide) kf_X2_19 rfl rfl hin rfl (by decide +kernel) rfl rfl 0 rfl (Nat.le_of_ble_eq_true rfl) dX2_init_22 (fun H locs hP hD hS => ?_)
  have hP : va_P G.1 vwCl (tW h0 qb qn c0 c1) H := hP
  have hD : va_D A (tW h0 qb qn c0 c1) := hD
  exact rB_v C hr hP hD hS hK ⟨qb, qn, c0, c1, rfl, rfl⟩ dX2_init_25 ⟨by omega, by omega⟩
set_option maxHeartbeats 4000000 in
set_option maxRecDepth 100000 in
theorem c_X3_init {l : Launch} {G : GB} (hE : B0 G) (h0 : Nat) : MB l G yX3_init cX3_init 2 3 53 53 384 [.ref h0] [hZ h0] (HiP h0) := by
  refine MB.of hE (by decide) (Nat.le_of_ble_eq_true rfl) ?_
  intro p e s m below meth c ls A C hin hP hD hA hr hl
  have hx := C.x
  have hb := C.b
  have hS : va_S A s.heap s.heap [] := va_S.rf
  have hK := C.en.1
  have hl : lv_has ls 2 [(0, .ref h0)] := hl
  refine lv_aload_n hx hb dX3_init_0 rfl (lv_at hl 0 rfl) ?_
  refine b_obj C km_X3_3 hl.1 dX3_init_1 ⟨by decide, by decide⟩ ?_
  refine lv_aload_n hx hb dX3_init_4 rfl (lv_at hl 0 rfl) ?_
  refine lv_iconst (v := 4) hx hb dX3_init_5 (by decide) ?_
  refine b_arq (Cn := "ConsentQueue$Line") (u_n := 4) C kk_X3_9 ko_X4 hK hP hD hS hA (by decide) (by decide) (by decide) ⟨by show _ ≤ 53; omega, by show _ ≤ 384; omega⟩ dX3_init_6 (fun q1 c2 H hK2 hP hD hS => ?_)
  have hP : va_P G.1 vwCl ([hZ h0, qC q1 c2 4 (fun _ => none)]) H := hP
  have hD : va_D A ([hZ h0, qC q1 c2 4 (fun _ => none)]) := hD
  have hK2 : va_K G.1 vwCl [(c2, .object "ConsentQueue$Line")] G.2.1 := hK2
  refine b_putF (ci := 1) (k := 0) (N := 2) (T := TX3) (ty0 := tyX3) (ty := .array (.object "ConsentQueue$Line")) C hK hP hD hS kw_X3 tyX3_ok nmX3 rfl (by decide) kf_X3_11 rfl rfl hin rfl (by decide +kernel) rfl rfl 0 rfl (Nat.le_of_ble_eq_true rfl) dX3_init_9 (fun H locs hP hD hS => ?_)
  have hP : va_P G.1 vwCl ([(h0, .inr (1, [.ref q1, .int 0])), qC q1 c2 4 (fun _ => none)]) H := hP
  have hD : va_D A ([(h0, .inr (1, [.ref q1, .int 0])), qC q1 c2 4 (fun _ => none)]) := hD
  refine lv_iconst (v := 0) hx hb dX3_init_12 (by decide) ?_
  refine lv_istore_n (lv' := [(1, .int 0), (0, .ref h0)]) hx hb dX3_init_13 rfl hl (by decide) rfl (fun ls hl => ?_)
  refine lv_iload_n hx hb dX3_init_14 rfl (lv_at hl 0 rfl) ?_
  refine lv_aload_n hx hb dX3_init_15 rfl (lv_at hl 1 rfl) ?_
  refine b_get (ci := 1) (k := 0) (N := 2) (T := TX3) (fs := [.ref q1, .int 0]) C hK hP kw_X3 rfl (by decide) kf_X3_11 rfl 0 rfl rfl dX3_init_16 ?_
  refine va_alen C.x C.b (C.K hK2) hP 1 0 rfl rfl (v := 4) rfl dX3_init_19 ?_
  refine lv_icmp_ge (tgt := 42) hx hb dX3_init_20 (by decide) (fun c_20 => absurd c_20 (by decide)) (fun _ => ?_)
  refine lv_aload_n hx hb dX3_init_23 rfl (lv_at hl 1 rfl) ?_
  refine b_get (ci := 1) (k := 0) (N := 2) (T := TX3) (fs := [.ref q1, .int 0]) C hK hP kw_X3 rfl (by decide) kf_X3_11 rfl 0 rfl rfl dX3_init_24 ?_
  refine lv_iload_n hx hb dX3_init_27 rfl (lv_at hl 0 rfl) ?_
  refine b_new (ci := 2) (N := 8) (T := TX4) (ty := tyX4) (fs := (lZ 0).2.elim (fun _ => []) (fun x => x.2)) C hK hP hD hS hA kw_X4 tyX4_ok kk_X3_9 kx_X4 k0_X4 rfl (fun j hj => by rcases (show j = 0 ∨ j = 1 ∨ j = 2 ∨ j = 3 ∨ j = 4 ∨ j = 5 ∨ j = 6 ∨ j = 7 by omega) with rfl | rfl | rfl | rfl | rfl | rfl | rfl | rfl <;> rfl) ⟨by show _ ≤ 53; omega, by show _ ≤ 384; omega⟩ dX3_init_28 (fun qm H hP hD hS => ?_)
  refine lv_dup hx hb dX3_init_31 rfl ?_
  refine b_callN C (u_w := (h0, .inr (1, [.ref q1, .int 0])) :: qC q1 c2 4 (fun _ => none) :: ([])) (e0 := (lZ 0).2) (c_X4_init C.en qm) hP hD hS hA kN_X3_17 ki_X4_init k0_X4 kc_X4_init rfl ⟨by decide, by decide, by decide +kernel⟩ dX3_init_32 hl.1 ⟨Nat.le_of_ble_eq_true rfl, Nat.le_of_ble_eq_true rfl⟩ ⟨by show _ ≤ 53; omega, by show _ ≤ 384; omega⟩ (Nat.le_of_ble_eq_true rfl) (fun w1 tys1 H locs hp hP hK9 hD hS => ?_)
  obtain ⟨a0, c3, rfl, rfl, rfl⟩ := hp
  have hK3 := hK9
  have hP : va_P G.1 vwCl ((h0, .inr (1, [.ref q1, .int 0])) :: qC q1 c2 4 (fun _ => none) :: (lnW a0 c3)) H := hP
  have hD : va_D A ((h0, .inr (1, [.ref q1, .int 0])) :: qC q1 c2 4 (fun _ => none) :: (lnW a0 c3)) := hD
  refine va_astq C.x C.b (C.K hK2) hP hD hS 1 0 2 2 rfl rfl rfl rfl (show vp_in (nI 0) 4 from vp_in_nI (by decide) (by decide)) dX3_init_35 (fun H locs hP hD hS => ?_)
  rw [show (0 : Int32).toNatClampNeg = 0 by decide] at hP hD
  have hP : va_P G.1 vwCl ((h0, .inr (1, [.ref q1, .int 0])) :: qC q1 c2 4 (va_up (fun _ => none) 0 (some (a0 0))) :: (lnW a0 c3)) H := hP
  have hD : va_D A ((h0, .inr (1, [.ref q1, .int 0])) :: qC q1 c2 4 (va_up (fun _ => none) 0 (some (a0 0))) :: (lnW a0 c3)) := hD
  refine lv_iinc (v := 1) (lv' := [(1, .int 1), (0, .ref h0)]) hx hb dX3_init_36 hl (k := 0) rfl (by rfl) (by decide) rfl (fun ls hl => ?_)
  refine lv_goto (tgt := 14) hx hb dX3_init_39 (by decide) ?_
  refine lv_iload_n hx hb dX3_init_14 rfl (lv_at hl 0 rfl) ?_
  refine lv_aload_n hx hb dX3_init_15 rfl (lv_at hl 1 rfl) ?_
  refine b_get (ci := 1) (k := 0) (N := 2) (T := TX3) (fs := [.ref q1, .int 0]) C hK hP kw_X3 rfl (by decide) kf_X3_11 rfl 0 rfl rfl dX3_init_16 ?_
  refine va_alen C.x C.b (C.K hK2) hP 1 0 rfl rfl (v := 4) rfl dX3_init_19 ?_
  refine lv_icmp_ge (tgt := 42) hx hb dX3_init_20 (by decide) (fun c_20 => absurd c_20 (by decide)) (fun _ => ?_)
  refine lv_aload_n hx hb dX3_init_23 rfl (lv_at hl 1 rfl) ?_
  refine b_get (ci := 1) (k := 0) (N := 2) (T := TX3) (fs := [.ref q1, .int 0]) C hK hP kw_X3 rfl (by decide) kf_X3_11 rfl 0 rfl rfl dX3_init_24 ?_
  refine lv_iload_n hx hb dX3_init_27 rfl (lv_at hl 0 rfl) ?_
  refine b_new (ci := 2) (N := 8) (T := TX4) (ty := tyX4) (fs := (lZ 0).2.elim (fun _ => []) (fun x => x.2)) C hK hP hD hS hA kw_X4 tyX4_ok kk_X3_9 kx_X4 k0_X4 rfl (fun j hj => by rcases (show j = 0 ∨ j = 1 ∨ j = 2 ∨ j = 3 ∨ j = 4 ∨ j = 5 ∨ j = 6 ∨ j = 7 by omega) with rfl | rfl | rfl | rfl | rfl | rfl | rfl | rfl <;> rfl) ⟨by show _ ≤ 53; omega, by show _ ≤ 384; omega⟩ dX3_init_28 (fun qm H hP hD hS => ?_)
  refine lv_dup hx hb dX3_init_31 rfl ?_
  refine b_callN C (u_w := (h0, .inr (1, [.ref q1, .int 0])) :: qC q1 c2 4 (va_up (fun _ => none) 0 (some (a0 0))) :: (lnW a0 c3)) (e0 := (lZ 0).2) (c_X4_init C.en qm) hP hD hS hA kN_X3_17 ki_X4_init k0_X4 kc_X4_init rfl ⟨by decide, by decide, by decide +kernel⟩ dX3_init_32 hl.1 ⟨Nat.le_of_ble_eq_true rfl, Nat.le_of_ble_eq_true rfl⟩ ⟨by show _ ≤ 53; omega, by show _ ≤ 384; omega⟩ (Nat.le_of_ble_eq_true rfl) (fun w1 tys1 H locs hp hP hK9 hD hS => ?_)
  obtain ⟨a1, c3x, rfl, rfl, rfl⟩ := hp
  obtain rfl := ty_eq hK3 hK9 (i := 0) (j := 0) rfl rfl
  have hP : va_P G.1 vwCl ((h0, .inr (1, [.ref q1, .int 0])) :: qC q1 c2 4 (va_up (fun _ => none) 0 (some (a0 0))) :: (lnW a0 c3 ++ lnW a1 c3)) H := hP
  have hD : va_D A ((h0, .inr (1, [.ref q1, .int 0])) :: qC q1 c2 4 (va_up (fun _ => none) 0 (some (a0 0))) :: (lnW a0 c3 ++ lnW a1 c3)) := hD
  refine va_astq C.x C.b (C.K hK2) hP hD hS 1 0 15 2 rfl rfl rfl rfl (show vp_in (nI 1) 4 from vp_in_nI (by decide) (by decide)) dX3_init_35 (fun H locs hP hD hS => ?_)
  rw [show (1 : Int32).toNatClampNeg = 1 by decide] at hP hD
  have hP : va_P G.1 vwCl ((h0, .inr (1, [.ref q1, .int 0])) :: qC q1 c2 4 (va_up (va_up (fun _ => none) 0 (some (a0 0))) 1 (some (a1 0))) :: (lnW a0 c3 ++ lnW a1 c3)) H := hP
  have hD : va_D A ((h0, .inr (1, [.ref q1, .int 0])) :: qC q1 c2 4 (va_up (va_up (fun _ => none) 0 (some (a0 0))) 1 (some (a1 0))) :: (lnW a0 c3 ++ lnW a1 c3)) := hD
  refine lv_iinc (v := 2) (lv' := [(1, .int 2), (0, .ref h0)]) hx hb dX3_init_36 hl (k := 0) rfl (by rfl) (by decide) rfl (fun ls hl => ?_)
  refine lv_goto (tgt := 14) hx hb dX3_init_39 (by decide) ?_
  refine lv_iload_n hx hb dX3_init_14 rfl (lv_at hl 0 rfl) ?_
  refine lv_aload_n hx hb dX3_init_15 rfl (lv_at hl 1 rfl) ?_
  refine b_get (ci := 1) (k := 0) (N := 2) (T := TX3) (fs := [.ref q1, .int 0]) C hK hP kw_X3 rfl (by decide) kf_X3_11 rfl 0 rfl rfl dX3_init_16 ?_
  refine va_alen C.x C.b (C.K hK2) hP 1 0 rfl rfl (v := 4) rfl dX3_init_19 ?_
  refine lv_icmp_ge (tgt := 42) hx hb dX3_init_20 (by decide) (fun c_20 => absurd c_20 (by decide)) (fun _ => ?_)
  refine lv_aload_n hx hb dX3_init_23 rfl (lv_at hl 1 rfl) ?_
  refine b_get (ci := 1) (k := 0) (N := 2) (T := TX3) (fs := [.ref q1, .int 0]) C hK hP kw_X3 rfl (by decide) kf_X3_11 rfl 0 rfl rfl dX3_init_24 ?_
  refine lv_iload_n hx hb dX3_init_27 rfl (lv_at hl 0 rfl) ?_
  refine b_new (ci := 2) (N := 8) (T := TX4) (ty := tyX4) (fs := (lZ 0).2.elim (fun _ => []) (fun x => x.2)) C hK hP hD hS hA kw_X4 tyX4_ok kk_X3_9 kx_X4 k0_X4 rfl (fun j hj => by rcases (show j = 0 ∨ j = 1 ∨ j = 2 ∨ j = 3 ∨ j = 4 ∨ j = 5 ∨ j = 6 ∨ j = 7 by omega) with rfl | rfl | rfl | rfl | rfl | rfl | rfl | rfl <;> rfl) ⟨by show _ ≤ 53; omega, by show _ ≤ 384; omega⟩ dX3_init_28 (fun qm H hP hD hS => ?_)
  refine lv_dup hx hb dX3_init_31 rfl ?_
  refine b_callN C (u_w := (h0, .inr (1, [.ref q1, .int 0])) :: qC q1 c2 4 (va_up (va_up (fun _ => none) 0 (some (a0 0))) 1 (some (a1 0))) :: (lnW a0 c3 ++ lnW a1 c3)) (e0 := (lZ 0).2) (c_X4_init C.en qm) hP hD hS hA kN_X3_17 ki_X4_init k0_X4 kc_X4_init rfl ⟨by decide, by decide, by decide +kernel⟩ dX3_init_32 hl.1 ⟨Nat.le_of_ble_eq_true rfl, Nat.le_of_ble_eq_true rfl⟩ ⟨by show _ ≤ 53; omega, by show _ ≤ 384; omega⟩ (Nat.le_of_ble_eq_true rfl) (fun w1 tys1 H locs hp hP hK9 hD hS => ?_)
  obtain ⟨a2, c3x, rfl, rfl, rfl⟩ := hp
  obtain rfl := ty_eq hK3 hK9 (i := 0) (j := 0) rfl rfl
  have hP : va_P G.1 vwCl ((h0, .inr (1, [.ref q1, .int 0])) :: qC q1 c2 4 (va_up (va_up (fun _ => none) 0 (some (a0 0))) 1 (some (a1 0))) :: (lnW a0 c3 ++ lnW a1 c3 ++ lnW a2 c3)) H := hP
  have hD : va_D A ((h0, .inr (1, [.ref q1, .int 0])) :: qC q1 c2 4 (va_up (va_up (fun _ => none) 0 (some (a0 0))) 1 (some (a1 0))) :: (lnW a0 c3 ++ lnW a1 c3 ++ lnW a2 c3)) := hD
  refine va_astq C.x C.b (C.K hK2) hP hD hS 1 0 28 2 rfl rfl rfl rfl (show vp_in (nI 2) 4 from vp_in_nI (by decide) (by decide)) dX3_init_35 (fun H locs hP hD hS => ?_)
  rw [show (2 : Int32).toNatClampNeg = 2 by decide] at hP hD
  have hP : va_P G.1 vwCl ((h0, .inr (1, [.ref q1, .int 0])) :: qC q1 c2 4 (va_up (va_up (va_up (fun _ => none) 0 (some (a0 0))) 1 (some (a1 0))) 2 (some (a2 0))) :: (lnW a0 c3 ++ lnW a1 c3 ++ lnW a2 c3)) H := hP
  have hD : va_D A ((h0, .inr (1, [.ref q1, .int 0])) :: qC q1 c2 4 (va_up (va_up (va_up (fun _ => none) 0 (some (a0 0))) 1 (some (a1 0))) 2 (some (a2 0))) :: (lnW a0 c3 ++ lnW a1 c3 ++ lnW a2 c3)) := hD
  refine lv_iinc (v := 3) (lv' := [(1, .int 3), (0, .ref h0)]) hx hb dX3_init_36 hl (k := 0) rfl (by rfl) (by decide) rfl (fun ls hl => ?_)
  refine lv_goto (tgt := 14) hx hb dX3_init_39 (by decide) ?_
  refine lv_iload_n hx hb dX3_init_14 rfl (lv_at hl 0 rfl) ?_
  refine lv_aload_n hx hb dX3_init_15 rfl (lv_at hl 1 rfl) ?_
  refine b_get (ci := 1) (k := 0) (N := 2) (T := TX3) (fs := [.ref q1, .int 0]) C hK hP kw_X3 rfl (by decide) kf_X3_11 rfl 0 rfl rfl dX3_init_16 ?_
  refine va_alen C.x C.b (C.K hK2) hP 1 0 rfl rfl (v := 4) rfl dX3_init_19 ?_
  refine lv_icmp_ge (tgt := 42) hx hb dX3_init_20 (by decide) (fun c_20 => absurd c_20 (by decide)) (fun _ => ?_)
  refine lv_aload_n hx hb dX3_init_23 rfl (lv_at hl 1 rfl) ?_
  refine b_get (ci := 1) (k := 0) (N := 2) (T := TX3) (fs := [.ref q1, .int 0]) C hK hP kw_X3 rfl (by decide) kf_X3_11 rfl 0 rfl rfl dX3_init_24 ?_
  refine lv_iload_n hx hb dX3_init_27 rfl (lv_at hl 0 rfl) ?_
  refine b_new (ci := 2) (N := 8) (T := TX4) (ty := tyX4) (fs := (lZ 0).2.elim (fun _ => []) (fun x => x.2)) C hK hP hD hS hA kw_X4 tyX4_ok kk_X3_9 kx_X4 k0_X4 rfl (fun j hj => by rcases (show j = 0 ∨ j = 1 ∨ j = 2 ∨ j = 3 ∨ j = 4 ∨ j = 5 ∨ j = 6 ∨ j = 7 by omega) with rfl | rfl | rfl | rfl | rfl | rfl | rfl | rfl <;> rfl) ⟨by show _ ≤ 53; omega, by show _ ≤ 384; omega⟩ dX3_init_28 (fun qm H hP hD hS => ?_)
  refine lv_dup hx hb dX3_init_31 rfl ?_
  refine b_callN C (u_w := (h0, .inr (1, [.ref q1, .int 0])) :: qC q1 c2 4 (va_up (va_up (va_up (fun _ => none) 0 (some (a0 0))) 1 (some (a1 0))) 2 (some (a2 0))) :: (lnW a0 c3 ++ lnW a1 c3 ++ lnW a2 c3)) (e0 := (lZ 0).2) (c_X4_init C.en qm) hP hD hS hA kN_X3_17 ki_X4_init k0_X4 kc_X4_init rfl ⟨by decide, by decide, by decide +kernel⟩ dX3_init_32 hl.1 ⟨Nat.le_of_ble_eq_true rfl, Nat.le_of_ble_eq_true rfl⟩ ⟨by show _ ≤ 53; omega, by show _ ≤ 384; omega⟩ (Nat.le_of_ble_eq_true rfl) (fun w1 tys1 H locs hp hP hK9 hD hS => ?_)
  obtain ⟨a3, c3x, rfl, rfl, rfl⟩ := hp
  obtain rfl := ty_eq hK3 hK9 (i := 0) (j := 0) rfl rfl
  have hP : va_P G.1 vwCl ((h0, .inr (1, [.ref q1, .int 0])) :: qC q1 c2 4 (va_up (va_up (va_up (fun _ => none) 0 (some (a0 0))) 1 (some (a1 0))) 2 (some (a2 0))) :: (lnW a0 c3 ++ lnW a1 c3 ++ lnW a2 c3 ++ lnW a3 c3)) H := hP
  have hD : va_D A ((h0, .inr (1, [.ref q1, .int 0])) :: qC q1 c2 4 (va_up (va_up (va_up (fun _ => none) 0 (some (a0 0))) 1 (some (a1 0))) 2 (some (a2 0))) :: (lnW a0 c3 ++ lnW a1 c3 ++ lnW a2 c3 ++ lnW a3 c3)) := hD
  refine va_astq C.x C.b (C.K hK2) hP hD hS 1 0 41 2 rfl rfl rfl rfl (show vp_in (nI 3) 4 from vp_in_nI (by decide) (by decide)) dX3_init_35 (fun H locs hP hD hS => ?_)
  rw [show (3 : Int32).toNatClampNeg = 3 by decide] at hP hD
  have hP : va_P G.1 vwCl ((h0, .inr (1, [.ref q1, .int 0])) :: qC q1 c2 4 (va_up (va_up (va_up (va_up (fun _ => none) 0 (some (a0 0))) 1 (some (a1 0))) 2 (some (a2 0))) 3 (some (a3 0))) :: (lnW a0 c3 ++ lnW a1 c3 ++ lnW a2 c3 ++ lnW a3 c3)) H := hP
  have hD : va_D A ((h0, .inr (1, [.ref q1, .int 0])) :: qC q1 c2 4 (va_up (va_up (va_up (va_up (fun _ => none) 0 (some (a0 0))) 1 (some (a1 0))) 2 (some (a2 0))) 3 (some (a3 0))) :: (lnW a0 c3 ++ lnW a1 c3 ++ lnW a2 c3 ++ lnW a3 c3)) := hD
  refine lv_iinc (v := 4) (lv' := [(1, .int 4), (0, .ref h0)]) hx hb dX3_init_36 hl (k := 0) rfl (by rfl) (by decide) rfl (fun ls hl => ?_)
  refine lv_goto (tgt := 14) hx hb dX3_init_39 (by decide) ?_
  refine lv_iload_n hx hb dX3_init_14 rfl (lv_at hl 0 rfl) ?_
  refine lv_aload_n hx hb dX3_init_15 rfl (lv_at hl 1 rfl) ?_
  refine b_get (ci := 1) (k := 0) (N := 2) (T := TX3) (fs := [.ref q1, .int 0]) C hK hP kw_X3 rfl (by decide) kf_X3_11 rfl 0 rfl rfl dX3_init_16 ?_
  refine va_alen C.x C.b (C.K hK2) hP 1 0 rfl rfl (v := 4) rfl dX3_init_19 ?_
  refine lv_icmp_ge (tgt := 42) hx hb dX3_init_20 (by decide) (fun _ => ?_) (fun c_20 => absurd (by decide) c_20)
  have hP2 := hP.set (p := 1) hD rfl (arr_cg (g := hsL a0 a1 a2 a3) (fun j hj => by rcases (show j = 0 ∨ j = 1 ∨ j = 2 ∨ j = 3 by omega) with rfl | rfl | rfl | rfl <;> rfl) (hP 1 _ rfl)) (fun _ _ => rfl)
  have hD2 := hD.set (p := 1) (e := .inl (c2, 4, .inr (.inr (.inr (.inr (hsL a0 a1 a2 a3)))))) rfl
  exact rB_v C hr hP2 hD2 hS (hK2.app hK3) ⟨q1, a0, a1, a2, a3, c2, c3, rfl, rfl⟩ dX3_init_42 ⟨by omega, by omega⟩
set_option maxHeartbeats 4000000 in
set_option maxRecDepth 100000 in
theorem c_X6_init {l : Launch} {G : GB} (hE : B0 G) (h0 : Nat) : MB l G yX6_init cX6_init 1 4 74 83 735 [.ref h0] [uZ h0] (QuP h0) := by
  refine MB.of hE (by decide) (Nat.le_of_ble_eq_true rfl) ?_
  intro p e s m below meth c ls A C hin hP hD hA hr hl
  have hx := C.x
  have hb := C.b
  have hS : va_S A s.heap s.heap [] := va_S.rf
  have hK := C.en.1
  have hl : lv_has ls 1 [(0, .ref h0)] := hl
  refine lv_aload_n hx hb dX6_init_0 rfl (lv_at hl 0 rfl) ?_
  refine b_obj C km_X6_1 hl.1 dX6_init_1 ⟨by decide, by decide⟩ ?_
  refine lv_aload_n hx hb dX6_init_4 rfl (lv_at hl 0 rfl) ?_
  refine b_new (ci := 2) (N := 8) (T := TX4) (ty := tyX4) (fs := (lZ 0).2.elim (fun _ => []) (fun x => x.2)) C hK hP hD hS hA kw_X4 tyX4_ok kk_X6_7 kx_X4 k0_X4 rfl (fun j hj => by rcases (show j = 0 ∨ j = 1 ∨ j = 2 ∨ j = 3 ∨ j = 4 ∨ j = 5 ∨ j = 6 ∨ j = 7 by omega) with rfl | rfl | rfl | rfl | rfl | rfl | rfl | rfl <;> rfl) ⟨by show _ ≤ 83; omega, by show _ ≤ 735; omega⟩ dX6_init_5 (fun qm H hP hD hS => ?_)
  refine lv_dup hx hb dX6_init_8 rfl ?_
  refine b_callN C (u_w := [uZ h0]) (e0 := (lZ 0).2) (c_X4_init C.en qm) hP hD hS hA kN_X6_9 ki_X4_init k0_X4 kc_X4_init rfl ⟨by decide, by decide, by decide +kernel⟩ dX6_init_9 hl.1 ⟨Nat.le_of_ble_eq_true rfl, Nat.le_of_ble_eq_true rfl⟩ ⟨by show _ ≤ 83; omega, by show _ ≤ 735; omega⟩ (Nat.le_of_ble_eq_true rfl) (fun w1 tys1 H locs hp hP hK9 hD hS => ?_)
  obtain ⟨a0, c3, rfl, rfl, rfl⟩ := hp
  have hK3 := hK9
  have hP : va_P G.1 vwCl ((h0, .inr (4, [.null, .null, .null, .null])) :: lnW a0 c3) H := hP
  have hD : va_D A ((h0, .inr (4, [.null, .null, .null, .null])) :: lnW a0 c3) := hD
  refine b_putF (ci := 4) (k := 0) (N := 4) (T := TX6) (ty0 := tyX6) (ty := .object "ConsentQueue$Line") C hK hP hD hS kw_X6 tyX6_ok nmX6 rfl (by decide) kf_X6_10 rfl rfl hin rfl (by decide +kernel) rfl rfl 0 rfl (Nat.le_of_ble_eq_true rfl) dX6_init_12 (fun H locs hP hD hS => ?_)
  have hP : va_P G.1 vwCl ((h0, .inr (4, [.ref (a0 0), .null, .null, .null])) :: lnW a0 c3) H := hP
  have hD : va_D A ((h0, .inr (4, [.ref (a0 0), .null, .null, .null])) :: lnW a0 c3) := hD
  refine lv_aload_n hx hb dX6_init_15 rfl (lv_at hl 0 rfl) ?_
  refine b_new (ci := 2) (N := 8) (T := TX4) (ty := tyX4) (fs := (lZ 0).2.elim (fun _ => []) (fun x => x.2)) C hK hP hD hS hA kw_X4 tyX4_ok kk_X6_7 kx_X4 k0_X4 rfl (fun j hj => by rcases (show j = 0 ∨ j = 1 ∨ j = 2 ∨ j = 3 ∨ j = 4 ∨ j = 5 ∨ j = 6 ∨ j = 7 by omega) with rfl | rfl | rfl | rfl | rfl | rfl | rfl | rfl <;> rfl) ⟨by show _ ≤ 83; omega, by show _ ≤ 735; omega⟩ dX6_init_16 (fun qm H hP hD hS => ?_)
  refine lv_dup hx hb dX6_init_19 rfl ?_
  refine b_callN C (u_w := (h0, .inr (4, [.ref (a0 0), .null, .null, .null])) :: lnW a0 c3) (e0 := (lZ 0).2) (c_X4_init C.en qm) hP hD hS hA kN_X6_9 ki_X4_init k0_X4 kc_X4_init rfl ⟨by decide, by decide, by decide +kernel⟩ dX6_init_20 hl.1 ⟨Nat.le_of_ble_eq_true rfl, Nat.le_of_ble_eq_true rfl⟩ ⟨by show _ ≤ 83; omega, by show _ ≤ 735; omega⟩ (Nat.le_of_ble_eq_true rfl) (fun w1 tys1 H locs hp hP hK9 hD hS => ?_)
  obtain ⟨a1, c3x, rfl, rfl, rfl⟩ := hp
  obtain rfl := ty_eq hK3 hK9 (i := 0) (j := 0) rfl rfl
  have hP : va_P G.1 vwCl ((h0, .inr (4, [.ref (a0 0), .null, .null, .null])) :: (lnW a0 c3 ++ lnW a1 c3)) H := hP
  have hD : va_D A ((h0, .inr (4, [.ref (a0 0), .null, .null, .null])) :: (lnW a0 c3 ++ lnW a1 c3)) := hD
  refine b_putF (ci := 4) (k := 1) (N := 4) (T := TX6) (ty0 := tyX6) (ty := .object "ConsentQueue$Line") C hK hP hD hS kw_X6 tyX6_ok nmX6 rfl (by decide) kf_X6_16 rfl rfl hin rfl (by decide +kernel) rfl rfl 0 rfl (Nat.le_of_ble_eq_true rfl) dX6_init_23 (fun H locs hP hD hS => ?_)
  have hP : va_P G.1 vwCl ((h0, .inr (4, [.ref (a0 0), .ref (a1 0), .null, .null])) :: (lnW a0 c3 ++ lnW a1 c3)) H := hP
  have hD : va_D A ((h0, .inr (4, [.ref (a0 0), .ref (a1 0), .null, .null])) :: (lnW a0 c3 ++ lnW a1 c3)) := hD
  refine lv_aload_n hx hb dX6_init_26 rfl (lv_at hl 0 rfl) ?_
  refine b_new (ci := 1) (N := 2) (T := TX3) (ty := tyX3) (fs := (hZ 0).2.elim (fun _ => []) (fun x => x.2)) C hK hP hD hS hA kw_X3 tyX3_ok kk_X6_19 kx_X3 k0_X3 rfl (fun j hj => by rcases (show j = 0 ∨ j = 1 by omega) with rfl | rfl <;> rfl) ⟨by show _ ≤ 83; omega, by show _ ≤ 735; omega⟩ dX6_init_27 (fun qm H hP hD hS => ?_)
  refine lv_dup hx hb dX6_init_30 rfl ?_
  refine b_callN C (u_w := (h0, .inr (4, [.ref (a0 0), .ref (a1 0), .null, .null])) :: (lnW a0 c3 ++ lnW a1 c3)) (e0 := (hZ 0).2) (c_X3_init C.en qm) hP hD hS hA kN_X6_21 ki_X3_init k0_X3 kc_X3_init rfl ⟨by decide, by decide, by decide +kernel⟩ dX6_init_31 hl.1 ⟨Nat.le_of_ble_eq_true rfl, Nat.le_of_ble_eq_true rfl⟩ ⟨by show _ ≤ 83; omega, by show _ ≤ 735; omega⟩ (Nat.le_of_ble_eq_true rfl) (fun w1 tys1 H locs hp hP hK9 hD hS => ?_)
  obtain ⟨qs, a2, a3, a4, a5, c2, c3x, rfl, rfl⟩ := hp
  obtain rfl := ty_eq hK3 hK9 (i := 0) (j := 1) rfl rfl
  have hK2 := hK9
  have hK3 := hK3
  have hP : va_P G.1 vwCl ((h0, .inr (4, [.ref (a0 0), .ref (a1 0), .null, .null])) :: (lnW a0 c3 ++ lnW a1 c3 ++ hW4 qm qs a2 a3 a4 a5 c2 c3)) H := hP
  have hD : va_D A ((h0, .inr (4, [.ref (a0 0), .ref (a1 0), .null, .null])) :: (lnW a0 c3 ++ lnW a1 c3 ++ hW4 qm qs a2 a3 a4 a5 c2 c3)) := hD
  refine b_putF (ci := 4) (k := 2) (N := 4) (T := TX6) (ty0 := tyX6) (ty := .object "ConsentQueue$History") C hK hP hD hS kw_X6 tyX6_ok nmX6 rfl (by decide) kf_X6_22 rfl rfl hin rfl (by decide +kernel) rfl rfl 0 rfl (Nat.le_of_ble_eq_true rfl) dX6_init_34 (fun H locs hP hD hS => ?_)
  have hP : va_P G.1 vwCl ((h0, .inr (4, [.ref (a0 0), .ref (a1 0), .ref qm, .null])) :: (lnW a0 c3 ++ lnW a1 c3 ++ hW4 qm qs a2 a3 a4 a5 c2 c3)) H := hP
  have hD : va_D A ((h0, .inr (4, [.ref (a0 0), .ref (a1 0), .ref qm, .null])) :: (lnW a0 c3 ++ lnW a1 c3 ++ hW4 qm qs a2 a3 a4 a5 c2 c3)) := hD
  obtain ⟨qh, hqh⟩ : ∃ x, x = qm := ⟨_, rfl⟩
  rw [← hqh] at hP hD
  have hP : va_P G.1 vwCl ((h0, .inr (4, [.ref (a0 0), .ref (a1 0), .ref qh, .null])) :: (lnW a0 c3 ++ lnW a1 c3 ++ hW4 qh qs a2 a3 a4 a5 c2 c3)) H := hP
  have hD : va_D A ((h0, .inr (4, [.ref (a0 0), .ref (a1 0), .ref qh, .null])) :: (lnW a0 c3 ++ lnW a1 c3 ++ hW4 qh qs a2 a3 a4 a5 c2 c3)) := hD
  refine lv_aload_n hx hb dX6_init_37 rfl (lv_at hl 0 rfl) ?_
  refine b_new (ci := 0) (N := 6) (T := TX2) (ty := tyX2) (fs := (tZ 0).2.elim (fun _ => []) (fun x => x.2)) C hK hP hD hS hA kw_X2 tyX2_ok kk_X6_26 kx_X2 k0_X2 rfl (fun j hj => by rcases (show j = 0 ∨ j = 1 ∨ j = 2 ∨ j = 3 ∨ j = 4 ∨ j = 5 by omega) with rfl | rfl | rfl | rfl | rfl | rfl <;> rfl) ⟨by show _ ≤ 83; omega, by show _ ≤ 735; omega⟩ dX6_init_38 (fun qm H hP hD hS => ?_)
  refine lv_dup hx hb dX6_init_41 rfl ?_
  refine b_callN C (u_w := (h0, .inr (4, [.ref (a0 0), .ref (a1 0), .ref qh, .null])) :: (lnW a0 c3 ++ lnW a1 c3 ++ hW4 qh qs a2 a3 a4 a5 c2 c3)) (e0 := (tZ 0).2) (c_X2_init C.en qm) hP hD hS hA kN_X6_28 ki_X2_init k0_X2 kc_X2_init rfl ⟨by decide, by decide, by decide +kernel⟩ dX6_init_42 hl.1 ⟨Nat.le_of_ble_eq_true rfl, Nat.le_of_ble_eq_true rfl⟩ ⟨by show _ ≤ 83; omega, by show _ ≤ 735; omega⟩ (Nat.le_of_ble_eq_true rfl) (fun w1 tys1 H locs hp hP hK9 hD hS => ?_)
  obtain ⟨qb, qn, c0, c1, rfl, rfl⟩ := hp
  have hP : va_P G.1 vwCl ((h0, .inr (4, [.ref (a0 0), .ref (a1 0), .ref qh, .null])) :: (lnW a0 c3 ++ lnW a1 c3 ++ hW4 qh qs a2 a3 a4 a5 c2 c3 ++ tW qm qb qn c0 c1)) H := hP
  have hD : va_D A ((h0, .inr (4, [.ref (a0 0), .ref (a1 0), .ref qh, .null])) :: (lnW a0 c3 ++ lnW a1 c3 ++ hW4 qh qs a2 a3 a4 a5 c2 c3 ++ tW qm qb qn c0 c1)) := hD
  refine b_putF (ci := 4) (k := 3) (N := 4) (T := TX6) (ty0 := tyX6) (ty := .object "ConsentQueue$CommandText") C hK hP hD hS kw_X6 tyX6_ok nmX6 rfl (by decide) kf_X6_29 rfl rfl hin rfl (by decide +kernel) rfl rfl 0 rfl (Nat.le_of_ble_eq_true rfl) dX6_init_45 (fun H locs hP hD hS => ?_)
  have hP : va_P G.1 vwCl (qW h0 a0 a1 qh qs a2 a3 a4 a5 qm qb qn c0 c1 c2 c3) H := hP
  have hD : va_D A (qW h0 a0 a1 qh qs a2 a3 a4 a5 qm qb qn c0 c1 c2 c3) := hD
  exact rB_v C hr hP hD hS (hK9.app hK2) ⟨a0, a1, qh, qs, a2, a3, a4, a5, qm, qb, qn, c0, c1, c2, c3, rfl, rfl⟩ dX6_init_48 ⟨by omega, by omega⟩
