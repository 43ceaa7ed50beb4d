/-! MAKING: the constructors (by program) -/
abbrev mD : List Value := [.int (-1), .int 0, .int 0, .int 0, .int 0, .int (-1), .int 0]
abbrev mC (q : Nat) : Nat × va_E := (q, .inr (3, mD))
abbrev mZ (q : Nat) : Nat × va_E := (q, .inr (3, [.int 0, .int 0, .int 0, .int 0, .int 0, .int 0, .int 0]))
abbrev qC (q : Nat) (cA : ClassId) (u_n : Nat) (f : Nat → Option Nat) : Nat × va_E := (q, .inl (cA, u_n, .inr (.inr (.inr (.inr f)))))
abbrev lF (q1 q2 : Nat) (u_s : Int32) : List Value := [.ref q1, .ref q2, .int 0, .int u_s, .int 0, .int 0, .int 0, .int 0]
abbrev lZ (q : Nat) : Nat × va_E := (q, .inr (2, [.null, .null, .int 0, .int 0, .int 0, .int 0, .int 0, .int 0]))
abbrev hZ (q : Nat) : Nat × va_E := (q, .inr (1, [.null, .int 0]))
abbrev tZ (q : Nat) : Nat × va_E := (q, .inr (0, [.null, .int 0, .int 0, .int 0, .null, .null]))
abbrev uZ (q : Nat) : Nat × va_E := (q, .inr (4, [.null, .null, .null, .null]))
abbrev tyB : FieldType × FieldType := (.object "ConsentQueue$Member", .object "ConsentQueue$Line")
def arL (ad : Nat → Nat) : Nat → Option Nat := fun j => ([some (ad 2), some (ad 3), some (ad 4), some (ad 5), some (ad 6), some (ad 7), some (ad 8), some (ad 9), some (ad 10), some (ad 11)] : List (Option Nat)).getD j none
abbrev lnW (ad : Nat → Nat) (c3 : ClassId) : va_W := [(ad 0, .inr (2, lF (ad 1) (ad 12) 50)), qC (ad 1) c3 10 (arL ad), mC (ad 12), mC (ad 2), mC (ad 3), mC (ad 4), mC (ad 5), mC (ad 6), mC (ad 7), mC (ad 8), mC (ad 9), mC (ad 10), mC (ad 11)]
def LnP (h : Nat) : va_W → List (ClassId × FieldType) → Prop := fun u_w tys => ∃ (ad : Nat → Nat) (c3 : ClassId), ad 0 = h ∧ u_w = lnW ad c3 ∧ tys = [(c3, .object "ConsentQueue$Member")]
theorem rng_s (ad : Nat → Nat) (i q : Nat) : (List.range i).map (fun j => mC (ad j)) ++ [mC q] = (List.range (i + 1)).map (fun j => mC (if j = i then q else ad j)) := by
  rw [List.range_succ, List.map_append]
  congr 1
  · apply List.map_congr_left
    intro j hj
    have := List.mem_range.mp hj
    show mC (ad j) = mC (if j = i then q else ad j)
    rw [if_neg (by omega)]
  · show [mC q] = [mC (if i = i then q else ad i)]
    rw [if_pos rfl]
theorem rng_at (ad : Nat → Nat) (i q : Nat) (x y u_z : Nat × va_E) : (x :: y :: u_z :: ((List.range i).map (fun j => mC (ad j)) ++ [mC q]))[3 + i]? = some (mC q) := by
  rw [show 3 + i = ((i + 1) + 1) + 1 by omega, List.getElem?_cons_succ, List.getElem?_cons_succ, List.getElem?_cons_succ, List.getElem?_append_right (by simp)]
  simp
theorem up_f (ad : Nat → Nat) (i q : Nat) : va_up (fun j => if j < i then some (ad j) else none) i (some q) = fun j => if j < i + 1 then some (if j = i then q else ad j) else none := by
  funext j
  unfold va_up
  by_cases e : j = i
  · rw [if_pos e, if_pos (by omega), if_pos e]
  · rw [if_neg e]
    show (if j < i then some (ad j) else none) = _
    by_cases e2 : j < i
    · rw [if_pos e2, if_pos (by omega), if_neg e]
    · rw [if_neg e2, if_neg (by omega)]
theorem arL_eq (ad : Nat → Nat) (j : Nat) (h : j < 10) : arL ad j = some (ad (2 + j)) := by
  rcases (show j = 0 ∨ j = 1 ∨ j = 2 ∨ j = 3 ∨ j = 4 ∨ j = 5 ∨ j = 6 ∨ j = 7 ∨ j = 8 ∨ j = 9 by omega) with rfl | rfl | rfl | rfl | rfl | rfl | rfl | rfl | rfl | rfl <;> rfl
set_option maxHeartbeats 4000000 in
set_option maxRecDepth 100000 in
theorem c_X5_init {l : Launch} {G : GB} (hE : B0 G) (h0 : Nat) : MB l G yX5_init cX5_init 1 1 12 0 0 [.ref h0] [mZ h0] (fun u_w tys => u_w = [mC h0] ∧ tys = []) := by
  refine MB.of hE (by decide) (Nat.le_of_ble_eq_true rfl) ?_
  intro p e s m below meth c ls A C hin hP hD hA hr hl
  have hx := C.x
  have hb := C.b
  have hS : va_S A s.heap s.heap [] := va_S.rf
  have hK := C.en.1
  have hl : lv_has ls 1 [(0, .ref h0)] := hl
  refine lv_aload_n hx hb dX5_init_0 rfl (lv_at hl 0 rfl) ?_
  refine b_obj C km_X5_3 hl.1 dX5_init_1 ⟨by decide, by decide⟩ ?_
  refine lv_aload_n hx hb dX5_init_4 rfl (lv_at hl 0 rfl) ?_
  refine lv_iconst (v := (-1)) hx hb dX5_init_5 (by decide) ?_
  refine b_put (ci := 3) (k := 0) (N := 7) (T := TX5) (ty0 := tyX5) (ty := .int) C hK hP hD hS kw_X5 tyX5_ok nmX5 rfl (by decide) kf_X5_9 rfl rfl (by decide +kernel) rfl rfl 0 rfl (Nat.le_of_ble_eq_true rfl) dX5_init_6 (fun H locs hP hD hS => ?_)
  have hP : va_P G.1 vwCl ([(h0, .inr (3, [.int (-1), .int 0, .int 0, .int 0, .int 0, .int 0, .int 0]))]) H := hP
  have hD : va_D A ([(h0, .inr (3, [.int (-1), .int 0, .int 0, .int 0, .int 0, .int 0, .int 0]))]) := hD
  refine lv_aload_n hx hb dX5_init_9 rfl (lv_at hl 0 rfl) ?_
  refine lv_iconst (v := (-1)) hx hb dX5_init_10 (by decide) ?_
  refine b_put (ci := 3) (k := 5) (N := 7) (T := TX5) (ty0 := tyX5) (ty := .int) C hK hP hD hS kw_X5 tyX5_ok nmX5 rfl (by decide) kf_X5_15 rfl rfl (by decide +kernel) rfl rfl 0 rfl (Nat.le_of_ble_eq_true rfl) dX5_init_11 (fun H locs hP hD hS => ?_)
  have hP : va_P G.1 vwCl ([mC h0]) H := hP
  have hD : va_D A ([mC h0]) := hD
  exact rB_v C hr hP hD hS hK ⟨rfl, rfl⟩ dX5_init_14 ⟨by decide, by decide⟩
set_option maxHeartbeats 4000000 in
set_option maxRecDepth 100000 in
theorem c_X4_init {l : Launch} {G : GB} (hE : B0 G) (h0 : Nat) : MB l G yX4_init cX4_init 2 2 32 12 87 [.ref h0] [lZ h0] (LnP h0) := by
  refine MB.of hE (by decide) (Nat.le_of_ble_eq_true rfl) ?_
  intro p e s m below meth c ls A C hin hP hD hA hr hl
  have hx := C.x
  have hb := C.b
  have hS : va_S A s.heap s.heap [] := va_S.rf
  have hK := C.en.1
  have hl : lv_has ls 2 [(0, .ref h0)] := hl
  refine lv_aload_n hx hb dX4_init_0 rfl (lv_at hl 0 rfl) ?_
  refine b_obj C km_X4_3 hl.1 dX4_init_1 ⟨by decide, by decide⟩ ?_
  refine lv_aload_n hx hb dX4_init_4 rfl (lv_at hl 0 rfl) ?_
  refine lv_bipush (v := 10) hx hb dX4_init_5 (by decide) ?_
  refine b_arq (Cn := "ConsentQueue$Member") (u_n := 10) C kk_X4_9 ko_X5 hK hP hD hS hA (by decide) (by decide) (by decide) ⟨by decide, by decide⟩ dX4_init_7 (fun q1 c3 H hK hP hD hS => ?_)
  have hP : va_P G.1 vwCl ([lZ h0, qC q1 c3 10 (fun _ => none)]) H := hP
  have hD : va_D A ([lZ h0, qC q1 c3 10 (fun _ => none)]) := hD
  have hK : va_K G.1 vwCl [(c3, .object "ConsentQueue$Member")] G.2.1 := hK
  refine b_putF (ci := 2) (k := 0) (N := 8) (T := TX4) (ty0 := tyX4) (ty := .array (.object "ConsentQueue$Member")) C hK hP hD hS kw_X4 tyX4_ok nmX4 rfl (by decide) kf_X4_11 rfl rfl hin rfl (by decide +kernel) rfl rfl 0 rfl (Nat.le_of_ble_eq_true rfl) dX4_init_10 (fun H locs hP hD hS => ?_)
  have hP : va_P G.1 vwCl ([(h0, .inr (2, [.ref q1, .null, .int 0, .int 0, .int 0, .int 0, .int 0, .int 0])), qC q1 c3 10 (fun _ => none)]) H := hP
  have hD : va_D A ([(h0, .inr (2, [.ref q1, .null, .int 0, .int 0, .int 0, .int 0, .int 0, .int 0])), qC q1 c3 10 (fun _ => none)]) := hD
  refine lv_aload_n hx hb dX4_init_13 rfl (lv_at hl 0 rfl) ?_
  refine b_new (ci := 3) (N := 7) (T := TX5) (ty := tyX5) (fs := (mZ 0).2.elim (fun _ => []) (fun x => x.2)) C hK hP hD hS hA kw_X5 tyX5_ok kk_X4_9 kx_X5 k0_X5 rfl (fun j hj => by rcases (show j = 0 ∨ j = 1 ∨ j = 2 ∨ j = 3 ∨ j = 4 ∨ j = 5 ∨ j = 6 by omega) with rfl | rfl | rfl | rfl | rfl | rfl | rfl <;> rfl) ⟨by show _ ≤ 12; omega, by show _ ≤ 87; omega⟩ dX4_init_14 (fun qn H hP hD hS => ?_)
  refine lv_dup hx hb dX4_init_17 rfl ?_
  refine b_callN C (u_w := [(h0, .inr (2, [.ref q1, .null, .int 0, .int 0, .int 0, .int 0, .int 0, .int 0])), qC q1 c3 10 (fun _ => none)]) (e0 := (mZ 0).2) (c_X5_init C.en qn) hP hD hS hA kN_X4_17 ki_X5_init k0_X5 kc_X5_init rfl ⟨by decide, by decide, by decide +kernel⟩ dX4_init_18 hl.1 ⟨Nat.le_of_ble_eq_true rfl, Nat.le_of_ble_eq_true rfl⟩ ⟨by show _ ≤ 12; omega, by show _ ≤ 87; omega⟩ (Nat.le_of_ble_eq_true rfl) (fun w1 tys1 H locs hp hP hK1 hD hS => ?_)
  obtain ⟨rfl, rfl⟩ := hp
  have hP : va_P G.1 vwCl ((h0, .inr (2, [.ref q1, .null, .int 0, .int 0, .int 0, .int 0, .int 0, .int 0])) :: qC q1 c3 10 (fun _ => none) :: [mC qn]) H := hP
  have hD : va_D A ((h0, .inr (2, [.ref q1, .null, .int 0, .int 0, .int 0, .int 0, .int 0, .int 0])) :: qC q1 c3 10 (fun _ => none) :: [mC qn]) := hD
  refine b_putF (ci := 2) (k := 1) (N := 8) (T := TX4) (ty0 := tyX4) (ty := .object "ConsentQueue$Member") C hK hP hD hS kw_X4 tyX4_ok nmX4 rfl (by decide) kf_X4_18 rfl rfl hin rfl (by decide +kernel) rfl rfl 0 rfl (Nat.le_of_ble_eq_true rfl) dX4_init_21 (fun H locs hP hD hS => ?_)
  have hP : va_P G.1 vwCl ((h0, .inr (2, lF q1 qn 0)) :: qC q1 c3 10 (fun _ => none) :: [mC qn]) H := hP
  have hD : va_D A ((h0, .inr (2, lF q1 qn 0)) :: qC q1 c3 10 (fun _ => none) :: [mC qn]) := hD
  refine lv_aload_n hx hb dX4_init_24 rfl (lv_at hl 0 rfl) ?_
  refine lv_bipush (v := 50) hx hb dX4_init_25 (by decide) ?_
  refine b_put (ci := 2) (k := 3) (N := 8) (T := TX4) (ty0 := tyX4) (ty := .int) C hK hP hD hS kw_X4 tyX4_ok nmX4 rfl (by decide) kf_X4_22 rfl rfl (by decide +kernel) rfl rfl 0 rfl (Nat.le_of_ble_eq_true rfl) dX4_init_27 (fun H locs hP hD hS => ?_)
  have hP : va_P G.1 vwCl ((h0, .inr (2, lF q1 qn 50)) :: qC q1 c3 10 (fun _ => none) :: [mC qn]) H := hP
  have hD : va_D A ((h0, .inr (2, lF q1 qn 50)) :: qC q1 c3 10 (fun _ => none) :: [mC qn]) := hD
  refine lv_iconst (v := 0) hx hb dX4_init_30 (by decide) ?_
  refine lv_istore_n (lv' := [(1, .int 0), (0, .ref h0)]) hx hb dX4_init_31 rfl hl (by decide) rfl (fun ls hl => ?_)
  have lp : ∀ (d i : Nat) (ad : Nat → Nat) (H : Heap) (locs : List Loc) (ls : Array Slot), i ≤ 10 → 10 < i + d → va_P G.1 vwCl ((h0, .inr (2, lF q1 qn 50)) :: qC q1 c3 10 (fun j => if j < i then some (ad j) else none) :: mC qn :: (List.range i).map (fun j => mC (ad j))) H → va_D A ((h0, .inr (2, lF q1 qn 50)) :: qC q1 c3 10 (fun j => if j < i then some (ad j) else none) :: mC qn :: (List.range i).map (fun j => mC (ad j))) → va_S A s.heap H locs → lv_has ls 2 [(0, .ref h0), (1, .int (nI i))] → W p l e (rmX 2 32 12 87) s m [Value.ref h0].toArray below meth c H locs (2 + i) (17 + 7 * i) (MQ below (BQ G (LnP h0) A) [Value.ref h0].toArray s 12 87 A) (F0 m 32 ls []) := by
    intro d
    induction d with
    | zero => intro i ad H locs ls hi hd _ _ _ _; omega
    | succ d ih =>
      intro i ad H locs ls hi hd hP hD hS hl
      refine lv_iload_n hx hb dX4_init_32 rfl (lv_at hl 1 rfl) ?_
      refine lv_aload_n hx hb dX4_init_33 rfl (lv_at hl 0 rfl) ?_
      refine b_get (ci := 2) (k := 0) (N := 8) (T := TX4) (fs := lF q1 qn 50) C hK hP kw_X4 rfl (by decide) kf_X4_11 rfl 0 rfl rfl dX4_init_34 ?_
      refine va_alen C.x C.b (C.K hK) hP 1 0 rfl rfl (v := 10) rfl dX4_init_37 ?_
      refine lv_icmp_ge (tgt := 60) hx hb dX4_init_38 (by decide) (fun c_38 => ?_) (fun c_38 => ?_)
      · have e9 : i = 10 := eqOfLe (N := 10) hi (by omega) c_38
        subst e9
        have hP2 := hP.set (p := 1) hD rfl (arr_cg (g := arL (fun k => if k = 0 then h0 else if k = 1 then q1 else if k = 12 then qn else ad (k - 2))) (fun j hj => by rw [arL_eq _ j hj, if_pos hj]; show some (ad j) = some (if 2 + j = 0 then h0 else if 2 + j = 1 then q1 else if 2 + j = 12 then qn else ad (2 + j - 2)); rw [if_neg (by omega), if_neg (by omega), if_neg (by omega), show 2 + j - 2 = j by omega]) (hP 1 _ rfl)) (fun _ _ => rfl)
        have hD2 := hD.set (p := 1) (e := .inl (c3, 10, .inr (.inr (.inr (.inr (arL (fun k => if k = 0 then h0 else if k = 1 then q1 else if k = 12 then qn else ad (k - 2)))))))) rfl
        exact rB_v C hr hP2 hD2 hS hK ⟨(fun k => if k = 0 then h0 else if k = 1 then q1 else if k = 12 then qn else ad (k - 2)), c3, rfl, rfl, rfl⟩ dX4_init_60 ⟨by omega, by omega⟩
      · have hlt : i < 10 := ltOfNle (N := 10) (by omega) c_38
        refine lv_aload_n hx hb dX4_init_41 rfl (lv_at hl 0 rfl) ?_
        refine b_get (ci := 2) (k := 0) (N := 8) (T := TX4) (fs := lF q1 qn 50) C hK hP kw_X4 rfl (by decide) kf_X4_11 rfl 0 rfl rfl dX4_init_42 ?_
        refine lv_iload_n hx hb dX4_init_45 rfl (lv_at hl 1 rfl) ?_
        refine b_new (ci := 3) (N := 7) (T := TX5) (ty := tyX5) (fs := (mZ 0).2.elim (fun _ => []) (fun x => x.2)) C hK hP hD hS hA kw_X5 tyX5_ok kk_X4_9 kx_X5 k0_X5 rfl (fun j hj => by rcases (show j = 0 ∨ j = 1 ∨ j = 2 ∨ j = 3 ∨ j = 4 ∨ j = 5 ∨ j = 6 by omega) with rfl | rfl | rfl | rfl | rfl | rfl | rfl <;> rfl) ⟨by show _ ≤ 12; omega, by show _ ≤ 87; omega⟩ dX4_init_46 (fun qm H hP hD hS => ?_)
        refine lv_dup hx hb dX4_init_49 rfl ?_
        refine b_callN C (u_w := (h0, .inr (2, lF q1 qn 50)) :: qC q1 c3 10 (fun j => if j < i then some (ad j) else none) :: mC qn :: (List.range i).map (fun j => mC (ad j))) (e0 := (mZ 0).2) (c_X5_init C.en qm) hP hD hS hA kN_X4_17 ki_X5_init k0_X5 kc_X5_init rfl ⟨by decide, by decide, by decide +kernel⟩ dX4_init_50 hl.1 ⟨Nat.le_of_ble_eq_true rfl, Nat.le_of_ble_eq_true rfl⟩ ⟨by show _ ≤ 12; omega, by show _ ≤ 87; omega⟩ (Nat.le_of_ble_eq_true rfl) (fun w1 tys1 H locs hp hP hK1 hD hS => ?_)
        obtain ⟨rfl, rfl⟩ := hp
        have hP : va_P G.1 vwCl ((h0, .inr (2, lF q1 qn 50)) :: qC q1 c3 10 (fun j => if j < i then some (ad j) else none) :: mC qn :: ((List.range i).map (fun j => mC (ad j)) ++ [mC qm])) H := hP
        have hD : va_D A ((h0, .inr (2, lF q1 qn 50)) :: qC q1 c3 10 (fun j => if j < i then some (ad j) else none) :: mC qn :: ((List.range i).map (fun j => mC (ad j)) ++ [mC qm])) := hD
        refine va_astq C.x C.b (C.K hK) hP hD hS 1 0 (3 + i) 3 rfl rfl (rng_at ad i qm _ _ _) rfl (vp_in_nI hlt (by omega)) dX4_init_53 (fun H locs hP hD hS => ?_)
        rw [nI_clamp (show i < 2 ^ 31 by omega), up_f] at hP hD
        have hP : va_P G.1 vwCl ((h0, .inr (2, lF q1 qn 50)) :: qC q1 c3 10 (fun j => if j < i + 1 then some (if j = i then qm else ad j) else none) :: mC qn :: ((List.range i).map (fun j => mC (ad j)) ++ [mC qm])) H := hP
        have hD : va_D A ((h0, .inr (2, lF q1 qn 50)) :: qC q1 c3 10 (fun j => if j < i + 1 then some (if j = i then qm else ad j) else none) :: mC qn :: ((List.range i).map (fun j => mC (ad j)) ++ [mC qm])) := hD
        rw [rng_s] at hP hD
        refine lv_iinc (v := nI (i + 1)) (lv' := [(1, .int (nI (i + 1))), (0, .ref h0)]) hx hb dX4_init_54 hl (k := 1) rfl (by exact nI_1 i) (by decide) rfl (fun ls hl => ?_)
        refine lv_goto (tgt := 32) hx hb dX4_init_57 (by decide) ?_
        refine W.widen (k := 2 + (i + 1)) (n := 17 + 7 * (i + 1)) (by omega) (by omega) ?_
        exact ih (i + 1) (fun j => if j = i then qm else ad j) H locs ls (by omega) (by omega) hP hD hS (lv_sub hl [1, 0] rfl)
  refine W.widen (k := 2 + 0) (n := 17 + 7 * 0) (by omega) (by omega) ?_
  exact lp 11 0 (fun _ => 0) H locs ls (by omega) (by omega) hP hD hS (lv_sub hl [1, 0] rfl)
