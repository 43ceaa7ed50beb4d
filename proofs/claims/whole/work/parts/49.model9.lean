/-! MODEL: disorder; its text (by program) -/
def TM (S : ST) (u_n : Nat) (u_b : Nat → Int32) (u_p u_k : Nat) (u_g : Nat → Int32) : Prop := (sM S).1 4 = nI u_n ∧ (sM S).1 5 = nI u_p ∧ (sM S).1 6 = nI u_k ∧ (∀ j, j < u_n → (sM S).2.2.1 j = u_b j) ∧ (sM S).2.2.2.1 = u_g
theorem TM.at {S : ST} {u_n u_p u_k u_q : Nat} {u_b u_g : Nat → Int32} (h : TM S u_n u_b u_p u_k u_g) {x : Int32} (hx : x = nI u_q) : TM (setM S (mMs (sM S) 5 x)) u_n u_b u_q u_k u_g := ⟨h.1, hx, h.2.2.1, h.2.2.2.1, h.2.2.2.2⟩
/-- only what the model reads a text with has changed -/
def RTm (S S1 : ST) : Prop := S1.1 = S.1 ∧ S1.2.1 = S.2.1 ∧ S1.2.2.1 = S.2.2.1 ∧ (sM S1).1 1 = (sM S).1 1 ∧ (sM S1).1 2 = (sM S).1 2 ∧ (sM S1).1 4 = (sM S).1 4 ∧ (sM S1).2.1 = (sM S).2.1 ∧ (sM S1).2.2.1 = (sM S).2.2.1 ∧ sO S1 = sO S
theorem RTm.r (S : ST) : RTm S S := ⟨rfl, rfl, rfl, rfl, rfl, rfl, rfl, rfl, rfl⟩
theorem RTm.t {S S1 S2 : ST} (h : RTm S S1) (h2 : RTm S1 S2) : RTm S S2 := ⟨h2.1.trans h.1, h2.2.1.trans h.2.1, h2.2.2.1.trans h.2.2.1, h2.2.2.2.1.trans h.2.2.2.1, h2.2.2.2.2.1.trans h.2.2.2.2.1, h2.2.2.2.2.2.1.trans h.2.2.2.2.2.1, h2.2.2.2.2.2.2.1.trans h.2.2.2.2.2.2.1, h2.2.2.2.2.2.2.2.1.trans h.2.2.2.2.2.2.2.1, h2.2.2.2.2.2.2.2.2.trans h.2.2.2.2.2.2.2.2⟩
theorem RTm.sc {S : ST} {x : Int32} : RTm S (setM S (mMs (sM S) 5 x)) := ⟨rfl, rfl, rfl, rfl, rfl, rfl, rfl, rfl, rfl⟩
set_option maxHeartbeats 4000000 in
set_option maxRecDepth 100000 in
theorem c_X7_disorder {l : Launch} {E : GE} (hE : Env0 E) {S : ST} {n : Nat} {z : Nat → Int32} {mm : Nat → Nat → Int32} (hR : RI S n z mm) : MW l E yX7_disorder cX7_disorder 4 (some .int) 1 22 S [.ref (gA E 84)] (fun v S1 => v = some (.int (f_wrong (gof n mm) n)) ∧ S1 = setM S (mMs (sM S) 2 0)) := by
  have hn := hR.n10
  refine MW.of hE (by decide) (Nat.le_of_ble_eq_true rfl) ?_
  intro p e s m below meth c ls C hJ hr hl
  have hx := C.x
  have hb := C.b
  have hl : lv_has ls 4 [(0, .ref (gA E 84))] := hl
  refine lv_aload_n hx hb dX7_disorder_0 rfl (lv_at hl 0 rfl) ?_
  refine lv_iconst (v := 0) hx hb dX7_disorder_1 (by decide) ?_
  refine p_X7_22 C hJ dX7_disorder_2 (fun H locs hJ => ?_)
  obtain ⟨S_2, hS_2⟩ : ∃ z : ST, z = setM S (mMs (sM S) 2 0) := ⟨_, rfl⟩
  rw [← hS_2] at hJ
  have hR2 : RI S_2 n z mm := by rw [hS_2]; exact hR
  refine lv_iconst (v := 0) hx hb dX7_disorder_5 (by decide) ?_
  refine lv_istore_n (lv' := [(1, .int 0), (0, .ref (gA E 84))]) hx hb dX7_disorder_6 rfl hl (by decide) rfl (fun ls hl => ?_)
  refine lv_iconst (v := 0) hx hb dX7_disorder_7 (by decide) ?_
  refine lv_istore_n (lv' := [(2, .int 0), (1, .int 0), (0, .ref (gA E 84))]) hx hb dX7_disorder_8 rfl hl (by decide) rfl (fun ls hl => ?_)
  have lp : ∀ (d : Nat) (i : Nat) (xa : Int32) (ls : Array Slot), (i ≤ n) → (n < i + d) → (xa = sI (fun u_i => sI (fun u_a => (if f_wc (gof n mm) (nI u_a) (nI u_i) ≤ f_wc (gof n mm) (nI u_i) (nI u_a) then (0 : Int32) else 1)) u_i) i) → JJ E S_2 H locs → lv_has ls 4 [(0, .ref (gA E 84)), (1, .int xa), (2, .int (nI i))] → W p l e (rmZ 1 22) s m ([.ref (gA E 84)] : List Value).toArray below meth c H locs 0 0 (WQ below ([.ref (gA E 84)] : List Value).toArray s E (fun v S1 => v = some (.int (f_wrong (gof n mm) n)) ∧ S1 = setM S (mMs (sM S) 2 0))) (F0 m 9 ls []) := by
    intro d
    induction d with
    | zero =>
      intro i xa ls hi hd ea hJ hl
      omega
    | succ d ih_lp =>
      intro i xa ls hi hd ea hJ hl
      refine lv_iload_n hx hb dX7_disorder_9 rfl (lv_at hl 2 rfl) ?_
      refine lv_aload_n hx hb dX7_disorder_10 rfl (lv_at hl 0 rfl) ?_
      refine g_X7_7 C hJ dX7_disorder_11 ?_
      refine lv_iconst (v := 0) hx hb dX7_disorder_14 (by decide) ?_
      refine a_ro C hJ (P := 0) (rfl) (by decide) dX7_disorder_15 ?_
      refine lv_icmp_ge (tgt := 75) hx hb dX7_disorder_16 (by decide) (fun c_16 => ?_) (fun c_16 => ?_)
      · skip
        have e9 : i = n := eqOfLe hi (by omega) (by have q := c_16; rw [hR2.many] at q; exact q)
        refine lv_iload_n hx hb dX7_disorder_75 rfl (lv_at hl 1 rfl) ?_
        exact rW_i C hJ hr rfl (⟨by rw [ea, e9]; rfl, hS_2⟩) dX7_disorder_76
      · skip
        have hlt : i < n := ltOfNle (by omega) (by have q := c_16; rw [hR2.many] at q; exact q)
        refine lv_iconst (v := 0) hx hb dX7_disorder_19 (by decide) ?_
        refine lv_istore_n (lv' := [(3, .int 0), (0, .ref (gA E 84)), (1, .int xa), (2, .int (nI i))]) hx hb dX7_disorder_20 rfl hl (by decide) rfl (fun ls hl => ?_)
        have lq : ∀ (d : Nat) (j : Nat) (xb : Int32) (ls : Array Slot), (j ≤ i) → (i < j + d) → (xb = xa + sI (fun u_a => (if f_wc (gof n mm) (nI u_a) (nI i) ≤ f_wc (gof n mm) (nI i) (nI u_a) then (0 : Int32) else 1)) j) → JJ E S_2 H locs → lv_has ls 4 [(0, .ref (gA E 84)), (1, .int xb), (2, .int (nI i)), (3, .int (nI j))] → W p l e (rmZ 1 22) s m ([.ref (gA E 84)] : List Value).toArray below meth c H locs 0 0 (WQ below ([.ref (gA E 84)] : List Value).toArray s E (fun v S1 => v = some (.int (f_wrong (gof n mm) n)) ∧ S1 = setM S (mMs (sM S) 2 0))) (F0 m 21 ls []) := by
          intro d
          induction d with
          | zero =>
            intro j xb ls hj hd2 eb hJ hl
            omega
          | succ d ih_lq =>
            intro j xb ls hj hd2 eb hJ hl
            refine lv_iload_n hx hb dX7_disorder_21 rfl (lv_at hl 3 rfl) ?_
            refine lv_iload_n hx hb dX7_disorder_22 rfl (lv_at hl 2 rfl) ?_
            refine lv_icmp_ge (tgt := 69) hx hb dX7_disorder_23 (by decide) (fun c_23 => ?_) (fun c_23 => ?_)
            · skip
              have e7 : j = i := eqOfLe hj (by omega) c_23
              refine lv_iinc (v := nI (i + 1)) (lv' := [(2, .int (nI (i + 1))), (0, .ref (gA E 84)), (1, .int xb), (3, .int (nI j))]) hx hb dX7_disorder_69 hl (k := 2) rfl (by exact nI_1 i) (by decide) rfl (fun ls hl => ?_)
              refine lv_goto (tgt := 9) hx hb dX7_disorder_72 (by decide) ?_
              exact ih_lp (i + 1) _ _ (by omega) (by omega) (by rw [eb, e7]; exact sI_u ea rfl) hJ (lv_sub hl [1, 2, 0] rfl)
            · skip
              have hlt2 : j < i := ltOfNle (by omega) c_23
              refine lv_iload_n hx hb dX7_disorder_26 rfl (lv_at hl 1 rfl) ?_
              refine lv_aload_n hx hb dX7_disorder_27 rfl (lv_at hl 0 rfl) ?_
              refine lv_iload_n hx hb dX7_disorder_28 rfl (lv_at hl 2 rfl) ?_
              refine lv_iconst (v := 1) hx hb dX7_disorder_29 (by decide) ?_
              refine cr_X7_33 C hJ (rest := [.int xb]) (cm_of hE hR2 i 1 (by omega) (by decide) (rfl)) dX7_disorder_30 hl.1 ⟨Nat.le_of_ble_eq_true rfl, Nat.le_of_ble_eq_true rfl⟩ ⟨Nat.le_refl _, Nat.le_refl _⟩ (Nat.le_of_ble_eq_true rfl) rfl rfl ?_
              refine lv_aload_n hx hb dX7_disorder_33 rfl (lv_at hl 0 rfl) ?_
              refine lv_iload_n hx hb dX7_disorder_34 rfl (lv_at hl 3 rfl) ?_
              refine lv_iconst (v := 3) hx hb dX7_disorder_35 (by decide) ?_
              refine cr_X7_33 C hJ (rest := [.int (mm i 1), .int xb]) (cm_of hE hR2 j 3 (by omega) (by decide) (rfl)) dX7_disorder_36 hl.1 ⟨Nat.le_of_ble_eq_true rfl, Nat.le_of_ble_eq_true rfl⟩ ⟨Nat.le_refl _, Nat.le_refl _⟩ (Nat.le_of_ble_eq_true rfl) rfl rfl ?_
              refine lv_imul hx hb dX7_disorder_39 ?_
              refine lv_aload_n hx hb dX7_disorder_40 rfl (lv_at hl 0 rfl) ?_
              refine lv_iload_n hx hb dX7_disorder_41 rfl (lv_at hl 3 rfl) ?_
              refine lv_iconst (v := 1) hx hb dX7_disorder_42 (by decide) ?_
              refine cr_X7_33 C hJ (rest := [.int ((mm i 1) * (mm j 3)), .int xb]) (cm_of hE hR2 j 1 (by omega) (by decide) (rfl)) dX7_disorder_43 hl.1 ⟨Nat.le_of_ble_eq_true rfl, Nat.le_of_ble_eq_true rfl⟩ ⟨Nat.le_refl _, Nat.le_refl _⟩ (Nat.le_of_ble_eq_true rfl) rfl rfl ?_
              refine lv_aload_n hx hb dX7_disorder_46 rfl (lv_at hl 0 rfl) ?_
              refine lv_iload_n hx hb dX7_disorder_47 rfl (lv_at hl 2 rfl) ?_
              refine lv_iconst (v := 3) hx hb dX7_disorder_48 (by decide) ?_
              refine cr_X7_33 C hJ (rest := [.int (mm j 1), .int ((mm i 1) * (mm j 3)), .int xb]) (cm_of hE hR2 i 3 (by omega) (by decide) (rfl)) dX7_disorder_49 hl.1 ⟨Nat.le_of_ble_eq_true rfl, Nat.le_of_ble_eq_true rfl⟩ ⟨Nat.le_refl _, Nat.le_refl _⟩ (Nat.le_of_ble_eq_true rfl) rfl rfl ?_
              refine lv_imul hx hb dX7_disorder_52 ?_
              refine lv_icmp_le (tgt := 60) hx hb dX7_disorder_53 (by decide) (fun c_53 => ?_) (fun c_53 => ?_)
              · skip
                have hw1 : f_wc (gof n mm) (nI j) (nI i) = mm i 1 * mm j 3 := by unfold f_wc; rw [g_in hn hlt, g_in hn (by omega)]
                have hw2 : f_wc (gof n mm) (nI i) (nI j) = mm j 1 * mm i 3 := by unfold f_wc; rw [g_in hn hlt, g_in hn (by omega)]
                have hv0 : (if f_wc (gof n mm) (nI j) (nI i) ≤ f_wc (gof n mm) (nI i) (nI j) then (0 : Int32) else 1) = 0 := if_pos (by rw [hw1, hw2]; exact c_53)
                refine lv_iconst (v := 0) hx hb dX7_disorder_60 (by decide) ?_
                refine lv_iadd hx hb dX7_disorder_61 ?_
                refine lv_istore_n (lv' := [(1, .int (xb + 0)), (0, .ref (gA E 84)), (2, .int (nI i)), (3, .int (nI j))]) hx hb dX7_disorder_62 rfl hl (by decide) rfl (fun ls hl => ?_)
                refine lv_iinc (v := nI (j + 1)) (lv' := [(3, .int (nI (j + 1))), (1, .int (xb + 0)), (0, .ref (gA E 84)), (2, .int (nI i))]) hx hb dX7_disorder_63 hl (k := 3) rfl (by exact nI_1 j) (by decide) rfl (fun ls hl => ?_)
                refine lv_goto (tgt := 21) hx hb dX7_disorder_66 (by decide) ?_
                exact ih_lq (j + 1) _ _ (by omega) (by omega) (sI_t eb hv0) hJ (lv_sub hl [2, 1, 3, 0] rfl)
              · skip
                have hw1 : f_wc (gof n mm) (nI j) (nI i) = mm i 1 * mm j 3 := by unfold f_wc; rw [g_in hn hlt, g_in hn (by omega)]
                have hw2 : f_wc (gof n mm) (nI i) (nI j) = mm j 1 * mm i 3 := by unfold f_wc; rw [g_in hn hlt, g_in hn (by omega)]
                have hv0 : (if f_wc (gof n mm) (nI j) (nI i) ≤ f_wc (gof n mm) (nI i) (nI j) then (0 : Int32) else 1) = 1 := if_neg (by rw [hw1, hw2]; exact c_53)
                refine lv_iconst (v := 1) hx hb dX7_disorder_56 (by decide) ?_
                refine lv_goto (tgt := 61) hx hb dX7_disorder_57 (by decide) ?_
                refine lv_iadd hx hb dX7_disorder_61 ?_
                refine lv_istore_n (lv' := [(1, .int (xb + 1)), (0, .ref (gA E 84)), (2, .int (nI i)), (3, .int (nI j))]) hx hb dX7_disorder_62 rfl hl (by decide) rfl (fun ls hl => ?_)
                refine lv_iinc (v := nI (j + 1)) (lv' := [(3, .int (nI (j + 1))), (1, .int (xb + 1)), (0, .ref (gA E 84)), (2, .int (nI i))]) hx hb dX7_disorder_63 hl (k := 3) rfl (by exact nI_1 j) (by decide) rfl (fun ls hl => ?_)
                refine lv_goto (tgt := 21) hx hb dX7_disorder_66 (by decide) ?_
                exact ih_lq (j + 1) _ _ (by omega) (by omega) (sI_t eb hv0) hJ (lv_sub hl [2, 1, 3, 0] rfl)
        exact lq (i + 1) 0 _ _ (Nat.zero_le _) (by omega) (Int32.add_zero _).symm hJ (lv_sub hl [1, 2, 3, 0] rfl)
  exact lp (n + 1) 0 0 _ (Nat.zero_le _) (by omega) rfl hJ (lv_sub hl [2, 1, 0] rfl)
set_option maxHeartbeats 4000000 in
set_option maxRecDepth 100000 in
theorem c_X7_here {l : Launch} {E : GE} (hE : Env0 E) {S : ST} {u_n u_p u_k : Nat} {u_b u_g : Nat → Int32} (hT : TM S u_n u_b u_p u_k u_g) (hN : u_n ≤ 150) (hP : u_p ≤ u_n) : MR l E yX7_here cX7_here 1 (some .int) 0 0 S [.ref (gA E 84)] (some (.int (t_at u_n u_b u_p))) := by
  refine MR.of hE (by decide) (Nat.le_of_ble_eq_true rfl) ?_
  intro p e s m below meth c ls C hJ hr hl
  have hx := C.x
  have hb := C.b
  have hl : lv_has ls 1 [(0, .ref (gA E 84))] := hl
  refine lv_aload_n hx hb dX7_here_0 rfl (lv_at hl 0 rfl) ?_
  refine g_X7_170 C hJ dX7_here_1 ?_
  refine lv_aload_n hx hb dX7_here_4 rfl (lv_at hl 0 rfl) ?_
  refine g_X7_152 C hJ dX7_here_5 ?_
  refine lv_icmp_ge (tgt := 23) hx hb dX7_here_8 (by decide) (fun c_8 => ?_) (fun c_8 => ?_)
  · skip
    have hge : u_n ≤ u_p := by rw [hT.1, hT.2.1] at c_8; exact (nI_leI (by omega) (by omega)).mp c_8
    refine lv_iconst (v := (-1)) hx hb dX7_here_23 (by decide) ?_
    exact rR_i C hr rfl (by unfold t_at; rw [if_neg (by omega)]) dX7_here_24
  · skip
    have hlt : u_p < u_n := by
      rcases Nat.lt_or_ge u_p u_n with q | q
      · exact q
      · exact absurd (by rw [hT.1, hT.2.1]; exact nI_le q (by omega)) c_8
    refine lv_aload_n hx hb dX7_here_11 rfl (lv_at hl 0 rfl) ?_
    refine g_X7_13 C hJ dX7_here_12 ?_
    refine lv_aload_n hx hb dX7_here_15 rfl (lv_at hl 0 rfl) ?_
    refine g_X7_170 C hJ dX7_here_16 ?_
    refine a_mt C hJ (P := u_p) (hT.2.1) (by omega) dX7_here_19 ?_
    refine lv_goto (tgt := 24) hx hb dX7_here_20 (by decide) ?_
    exact rR_i C hr rfl (by unfold t_at; rw [if_pos hlt]; exact hT.2.2.2.1 u_p hlt) dX7_here_24
set_option maxHeartbeats 4000000 in
set_option maxRecDepth 100000 in
theorem c_X7_passSpaces {l : Launch} {E : GE} (hE : Env0 E) {S : ST} {u_n u_p u_k : Nat} {u_b u_g : Nat → Int32} (hT : TM S u_n u_b u_p u_k u_g) (hN : u_n ≤ 150) (hP : u_p ≤ u_n) : MW l E yX7_passSpaces cX7_passSpaces 1 (none : Option Jvm.ClassFile.FieldType) 1 20 S [.ref (gA E 84)] (fun v S1 => v = none ∧ TM S1 u_n u_b (t_run spB u_n u_b u_p) u_k u_g ∧ RTm S S1) := by
  refine MW.of hE (by decide) (Nat.le_of_ble_eq_true rfl) ?_
  intro p e s m below meth c ls C hJ hr hl
  have hx := C.x
  have hb := C.b
  have hl : lv_has ls 1 [(0, .ref (gA E 84))] := hl
  have lp : ∀ (d : Nat) (i : Nat) (T : ST) (H : Heap) (locs : List Loc) (ls : Array Slot), (i ≤ u_n) → (u_n < i + d) → (t_run spB u_n u_b i = t_run spB u_n u_b u_p) → (TM T u_n u_b i u_k u_g) → (RTm S T) → JJ E T H locs → lv_has ls 1 [(0, .ref (gA E 84))] → W p l e (rmZ 1 20) s m ([.ref (gA E 84)] : List Value).toArray below meth c H locs 0 0 (WQ below ([.ref (gA E 84)] : List Value).toArray s E (fun v S1 => v = none ∧ TM S1 u_n u_b (t_run spB u_n u_b u_p) u_k u_g ∧ RTm S S1)) (F0 m 0 ls []) := by
    intro d
    induction d with
    | zero =>
      intro i T H locs ls hi hd hr1 hT7 ho hJ hl
      omega
    | succ d ih_lp =>
      intro i T H locs ls hi hd hr1 hT7 ho hJ hl
      refine lv_aload_n hx hb dX7_passSpaces_0 rfl (lv_at hl 0 rfl) ?_
      refine cr_X7_173 C hJ (rest := []) (c_X7_here hE hT7 hN hi) dX7_passSpaces_1 hl.1 ⟨Nat.le_of_ble_eq_true rfl, Nat.le_of_ble_eq_true rfl⟩ ⟨Nat.le_refl _, Nat.le_refl _⟩ (Nat.le_of_ble_eq_true rfl) rfl rfl ?_
      refine lv_bipush (v := 32) hx hb dX7_passSpaces_4 (by decide) ?_
      refine lv_icmp_ne (tgt := 22) hx hb dX7_passSpaces_6 (by decide) (fun c_6 => ?_) (fun c_6 => ?_)
      · skip
        have hq : spB (t_at u_n u_b i) = false := decide_eq_false c_6
        have hfin : t_run spB u_n u_b u_p = i := by rw [← hr1]; exact t_run_e hq
        exact rW_v C hJ hr (⟨rfl, by rw [hfin]; exact hT7, ho⟩) dX7_passSpaces_22
      · skip
        have hq : spB (t_at u_n u_b i) = true := decide_eq_true c_6
        have hlt := sp_in hq
        refine lv_aload_n hx hb dX7_passSpaces_9 rfl (lv_at hl 0 rfl) ?_
        refine lv_dup hx hb dX7_passSpaces_10 rfl ?_
        refine g_X7_170 C hJ dX7_passSpaces_11 ?_
        refine lv_iconst (v := 1) hx hb dX7_passSpaces_14 (by decide) ?_
        refine lv_iadd hx hb dX7_passSpaces_15 ?_
        refine p_X7_170 C hJ dX7_passSpaces_16 (fun H locs hJ => ?_)
        obtain ⟨S_16, hS_16⟩ : ∃ z : ST, z = setM T (mMs (sM T) 5 (((sM T).1 5) + 1)) := ⟨_, rfl⟩
        rw [← hS_16] at hJ
        have hT2 : TM S_16 u_n u_b (i + 1) u_k u_g := by rw [hS_16]; exact hT7.at (by rw [hT7.2.1, nI_1])
        have ho2 : RTm S S_16 := by rw [hS_16]; exact ho.t RTm.sc
        refine lv_goto (tgt := 0) hx hb dX7_passSpaces_19 (by decide) ?_
        exact ih_lp (i + 1) S_16 H locs _ (by omega) (by omega) (by rw [← hr1, ← t_run_s hlt hq]) hT2 ho2 hJ (lv_sub hl [0] rfl)
  exact lp (u_n + 1) u_p S s.heap [] _ hP (by omega) rfl hT (RTm.r S) hJ (lv_sub hl [0] rfl)
