/-! LAW: low, money, rules (by program) -/
def nL (v : Int32) (u_k : Nat) : Nat := (v &&& 2147483647).toNatClampNeg % u_k
def f_low (v : Int32) (u_k : Nat) : Int32 := nI (nL v u_k)
theorem nL_lt (v : Int32) {u_k : Nat} (h : 0 < u_k) : nL v u_k < u_k := Nat.mod_lt _ h
theorem and_nn (v : Int32) : ¬ (v &&& 2147483647) < 0 := by
  intro h
  have h1 : (v.toBitVec &&& 2147483647#32).slt 0#32 = true := h
  rw [BitVec.slt_zero_eq_msb, BitVec.msb_and, show (2147483647#32).msb = false by decide, Bool.and_false] at h1
  cases h1
theorem low_e (v : Int32) {u_k : Nat} (h0 : 0 < u_k) (h : u_k < 2 ^ 31) : (v &&& 2147483647) - (v &&& 2147483647) / (nI u_k) * (nI u_k) = f_low v u_k := by
  obtain ⟨u_a, ha, e⟩ := nI_of (and_nn v)
  unfold f_low nL
  rw [e, nI_clamp ha]
  have e1 : nI u_a / nI u_k = nI (u_a / u_k) := (Int32.ofNat_div ha h).symm
  rw [e1, nI_mul]
  have e2 : u_a % u_k = u_a - u_a / u_k * u_k := by rw [Nat.mul_comm]; exact Nat.mod_eq_sub_mul_div
  rw [e2]
  exact (Int32.ofNat_sub _ _ (Nat.div_mul_le_self _ _)).symm
set_option maxHeartbeats 4000000 in
set_option maxRecDepth 100000 in
theorem c_L_low {l : Launch} {E : GE} (hE : Env0 E) {S : ST} (v : Int32) {u_k : Nat} (hk0 : 0 < u_k) (hk : u_k < 2 ^ 31) : MR l E yL_low cL_low 2 (some .int) 0 0 S [.int v, .int (nI u_k)] (some (.int (f_low v u_k))) := by
  refine MR.of hE (by decide) (Nat.le_of_ble_eq_true rfl) ?_
  intro p e s m below meth c ls C hJ hr hl
  have hx := C.x
  have hb := C.b
  have hl : lv_has ls 2 [(0, .int v), (1, .int (nI u_k))] := hl
  refine lv_iload_n hx hb dL_low_0 rfl (lv_at hl 0 rfl) ?_
  refine lv_ldc hx hb C.ow (C.ts _ kj_L_7) dL_low_1 ?_
  refine lv_iand hx hb dL_low_3 ?_
  refine lv_iload_n hx hb dL_low_4 rfl (lv_at hl 1 rfl) ?_
  refine lv_irem hx hb dL_low_5 (nI_ne0 hk0 hk) ?_
  exact rR_i C hr rfl (low_e v hk0 hk) dL_low_6
set_option maxHeartbeats 4000000 in
set_option maxRecDepth 100000 in
theorem c_L_money {l : Launch} {E : GE} (hE : Env0 E) {S : ST} {k n : Nat} {z : Nat → Int32} {mm : Nat → Nat → Int32} {mc : Nat} {sv : Nat → LVt} (hXI : XI S (n, z, mm) mc sv) (hQ : QOk k (n, z, mm)) (hL : (sT S).1 1 = nI 0) : MR l E yL_money cL_money 3 (some .int) 7 151 S [.ref (gA E 83)] (some (.int (mny n mm))) := by
  have hn : n ≤ 10 := hQ.1
  have hV : VOk n mm := hQ.2.1
  have hM : MmOk n mm := hQ.2.2.1
  have h : LnIs (sL S) 0 n z mm := hXI.1
  refine MR.of hE (by decide) (Nat.le_of_ble_eq_true rfl) ?_
  intro p e s m below meth c ls C hJ hr hl
  have hx := C.x
  have hb := C.b
  have hl : lv_has ls 3 [(0, .ref (gA E 83))] := hl
  refine lv_iconst (v := 0) hx hb dL_money_0 (by decide) ?_
  refine lv_istore_n (lv' := [(1, .int 0), (0, .ref (gA E 83))]) hx hb dL_money_1 rfl hl (by decide) rfl (fun ls hl => ?_)
  refine lv_iconst (v := 0) hx hb dL_money_2 (by decide) ?_
  refine lv_istore_n (lv' := [(2, .int 0), (1, .int 0), (0, .ref (gA E 83))]) hx hb dL_money_3 rfl hl (by decide) rfl (fun ls hl => ?_)
  have lp : ∀ (d : Nat) (i : Nat) (xs : Int32) (ls : Array Slot), (i ≤ n) → (n < i + d) → (xs = sI (fun P => mm P 4) i) → lv_has ls 3 [(0, .ref (gA E 83)), (1, .int xs), (2, .int (nI i))] → W p l e (rmZ 7 151) s m ([.ref (gA E 83)] : List Value).toArray below meth c s.heap [] 0 0 (RQ below ([.ref (gA E 83)] : List Value).toArray s (some (.int (mny n mm)))) (F0 m 4 ls []) := by
    intro d
    induction d with
    | zero =>
      intro i xs ls hi hd es hl
      omega
    | succ d ih_lp =>
      intro i xs ls hi hd es hl
      refine lv_iload_n hx hb dL_money_4 rfl (lv_at hl 2 rfl) ?_
      refine lv_aload_n hx hb dL_money_5 rfl (lv_at hl 0 rfl) ?_
      refine lv_iconst (v := 0) hx hb dL_money_6 (by decide) ?_
      refine cr_L_8 C hJ (rest := [.int (nI i)]) (m_whole hE hXI hQ hL 0 (by decide) (b := 0) (by decide) (v := nI n) rfl) dL_money_7 hl.1 ⟨Nat.le_of_ble_eq_true rfl, Nat.le_of_ble_eq_true rfl⟩ ⟨Nat.le_refl _, Nat.le_refl _⟩ (Nat.le_of_ble_eq_true rfl) rfl rfl ?_
      refine lv_icmp_ge (tgt := 33) hx hb dL_money_10 (by decide) (fun c_10 => ?_) (fun c_10 => ?_)
      · skip
        have e9 : i = n := eqOfLe hi (by omega) c_10
        refine lv_iload_n hx hb dL_money_33 rfl (lv_at hl 1 rfl) ?_
        exact rR_i C hr rfl (by rw [es, e9]; rfl) dL_money_34
      · skip
        have hlt : i < n := ltOfNle (by omega) c_10
        refine lv_iload_n hx hb dL_money_13 rfl (lv_at hl 1 rfl) ?_
        refine lv_aload_n hx hb dL_money_14 rfl (lv_at hl 0 rfl) ?_
        refine lv_aload_n hx hb dL_money_15 rfl (lv_at hl 0 rfl) ?_
        refine lv_iload_n hx hb dL_money_16 rfl (lv_at hl 2 rfl) ?_
        refine cr_L_14 C hJ (rest := [.ref (gA E 83), .int xs]) (m_at hE hXI hQ (P := i) hlt rfl) dL_money_17 hl.1 ⟨Nat.le_of_ble_eq_true rfl, Nat.le_of_ble_eq_true rfl⟩ ⟨Nat.le_refl _, Nat.le_refl _⟩ (Nat.le_of_ble_eq_true rfl) rfl rfl ?_
        refine lv_bipush (v := 6) hx hb dL_money_20 (by decide) ?_
        refine cr_L_17 C hJ (rest := [.int xs]) (m_mem hE hXI hQ (P := i) hlt rfl 6 (by decide) (b := 6) (by decide) (v := mm i 4) rfl) dL_money_22 hl.1 ⟨Nat.le_of_ble_eq_true rfl, Nat.le_of_ble_eq_true rfl⟩ ⟨Nat.le_refl _, Nat.le_refl _⟩ (Nat.le_of_ble_eq_true rfl) rfl rfl ?_
        refine lv_iadd hx hb dL_money_25 ?_
        refine lv_istore_n (lv' := [(1, .int (xs + (mm i 4))), (0, .ref (gA E 83)), (2, .int (nI i))]) hx hb dL_money_26 rfl hl (by decide) rfl (fun ls hl => ?_)
        refine lv_iinc (v := nI (i + 1)) (lv' := [(2, .int (nI (i + 1))), (1, .int (xs + (mm i 4))), (0, .ref (gA E 83))]) hx hb dL_money_27 hl (k := 2) rfl (by exact nI_1 i) (by decide) rfl (fun ls hl => ?_)
        refine lv_goto (tgt := 4) hx hb dL_money_30 (by decide) ?_
        exact ih_lp (i + 1) _ _ (by omega) (by omega) (sI_u es rfl) (lv_sub hl [2, 1, 0] rfl)
  exact lp (n + 1) 0 _ _ (Nat.zero_le _) (by omega) rfl (lv_sub hl [2, 1, 0] rfl)
set_option maxHeartbeats 4000000 in
set_option maxRecDepth 100000 in
theorem c_L_rules {l : Launch} {E : GE} (hE : Env0 E) {S : ST} {k n : Nat} {z : Nat → Int32} {mm : Nat → Nat → Int32} {mc : Nat} {sv : Nat → LVt} (hXI : XI S (n, z, mm) mc sv) (hQ : QOk k (n, z, mm)) (hL : (sT S).1 1 = nI 0) : MW l E yL_rules cL_rules 22 (some .boolean) 7 151 S [.ref (gA E 83)] (fun v S1 => v = some (.int 1) ∧ XI S1 (n, z, mm) mc sv ∧ S1.2 = S.2) := by
  have hn : n ≤ 10 := hQ.1
  have hV : VOk n mm := hQ.2.1
  have hM : MmOk n mm := hQ.2.2.1
  have h : LnIs (sL S) 0 n z mm := hXI.1
  refine MW.of hE (by decide) (Nat.le_of_ble_eq_true rfl) ?_
  intro p e s m below meth c ls C hJ hr hl
  have hx := C.x
  have hb := C.b
  have hl : lv_has ls 22 [(0, .ref (gA E 83))] := hl
  refine lv_aload_n hx hb dL_rules_0 rfl (lv_at hl 0 rfl) ?_
  refine lv_iconst (v := 0) hx hb dL_rules_1 (by decide) ?_
  refine cr_L_8 C hJ (rest := []) (m_whole hE hXI hQ hL 0 (by decide) (b := 0) (by decide) (v := nI n) rfl) dL_rules_2 hl.1 ⟨Nat.le_of_ble_eq_true rfl, Nat.le_of_ble_eq_true rfl⟩ ⟨Nat.le_refl _, Nat.le_refl _⟩ (Nat.le_of_ble_eq_true rfl) rfl rfl ?_
  refine lv_istore_n (lv' := [(1, .int (nI n)), (0, .ref (gA E 83))]) hx hb dL_rules_5 rfl hl (by decide) rfl (fun ls hl => ?_)
  refine lv_iconst (v := 0) hx hb dL_rules_6 (by decide) ?_
  refine lv_istore_n (lv' := [(2, .int 0), (1, .int (nI n)), (0, .ref (gA E 83))]) hx hb dL_rules_7 rfl hl (by decide) rfl (fun ls hl => ?_)
  refine lv_iconst (v := 0) hx hb dL_rules_8 (by decide) ?_
  refine lv_istore_n (lv' := [(3, .int 0), (2, .int 0), (1, .int (nI n)), (0, .ref (gA E 83))]) hx hb dL_rules_9 rfl hl (by decide) rfl (fun ls hl => ?_)
  refine lv_iconst (v := 0) hx hb dL_rules_10 (by decide) ?_
  refine lv_istore (lv' := [(4, .int 0), (3, .int 0), (2, .int 0), (1, .int (nI n)), (0, .ref (gA E 83))]) hx hb dL_rules_11 hl (by decide) rfl (fun ls hl => ?_)
  refine lv_iconst (v := 0) hx hb dL_rules_13 (by decide) ?_
  refine lv_istore (lv' := [(5, .int 0), (4, .int 0), (3, .int 0), (2, .int 0), (1, .int (nI n)), (0, .ref (gA E 83))]) hx hb dL_rules_14 hl (by decide) rfl (fun ls hl => ?_)
  refine lv_iconst (v := 0) hx hb dL_rules_16 (by decide) ?_
  refine lv_istore (lv' := [(6, .int 0), (5, .int 0), (4, .int 0), (3, .int 0), (2, .int 0), (1, .int (nI n)), (0, .ref (gA E 83))]) hx hb dL_rules_17 hl (by decide) rfl (fun ls hl => ?_)
  refine lv_iconst (v := 0) hx hb dL_rules_19 (by decide) ?_
  refine lv_istore (lv' := [(7, .int 0), (6, .int 0), (5, .int 0), (4, .int 0), (3, .int 0), (2, .int 0), (1, .int (nI n)), (0, .ref (gA E 83))]) hx hb dL_rules_20 hl (by decide) rfl (fun ls hl => ?_)
  refine lv_iconst (v := 0) hx hb dL_rules_22 (by decide) ?_
  refine lv_istore (lv' := [(8, .int 0), (7, .int 0), (6, .int 0), (5, .int 0), (4, .int 0), (3, .int 0), (2, .int 0), (1, .int (nI n)), (0, .ref (gA E 83))]) hx hb dL_rules_23 hl (by decide) rfl (fun ls hl => ?_)
  refine lv_iconst (v := 0) hx hb dL_rules_25 (by decide) ?_
  refine lv_istore (lv' := [(9, .int 0), (8, .int 0), (7, .int 0), (6, .int 0), (5, .int 0), (4, .int 0), (3, .int 0), (2, .int 0), (1, .int (nI n)), (0, .ref (gA E 83))]) hx hb dL_rules_26 hl (by decide) rfl (fun ls hl => ?_)
  have lp : ∀ (d : Nat) (i : Nat) (xw xc xt xb xd xo xf : Int32) (ls : Array Slot), (i ≤ n) → (n < i + d) → (xw = f_wait (gof n mm) i) → (xc = sI (fun P => f_cost (gof n mm) P) i) → (xt = sI (fun P => (gof n mm) (nI P) 2 * f_wait (gof n mm) P) i) → (xb = sI (fun b => sI (fun a => imin (f_wc (gof n mm) (nI a) (nI b)) (f_wc (gof n mm) (nI b) (nI a))) b) i) → (xd = sI (fun b => sI (fun a => if f_wc (gof n mm) (nI a) (nI b) ≤ f_wc (gof n mm) (nI b) (nI a) then 0 else 1) b) i) → (xo = sI (fun j => if (gof n mm) (nI j) 5 = -1 then 0 else 1) i) → (xf = sI (fun j => f_frn (gof n mm) (nI j)) i) → JJ E S s.heap [] → lv_has ls 22 [(0, .ref (gA E 83)), (1, .int (nI n)), (2, .int xw), (3, .int xc), (4, .int xt), (5, .int xb), (6, .int xd), (7, .int xo), (8, .int xf), (9, .int (nI i))] → W p l e (rmZ 7 151) s m ([.ref (gA E 83)] : List Value).toArray below meth c s.heap [] 0 0 (WQ below ([.ref (gA E 83)] : List Value).toArray s E (fun v S1 => v = some (.int 1) ∧ XI S1 (n, z, mm) mc sv ∧ S1.2 = S.2)) (F0 m 28 ls []) := by
    intro d
    induction d with
    | zero =>
      intro i xw xc xt xb xd xo xf ls hi hd ew ec et eb ed eo ef hJ hl
      omega
    | succ d ih_lp =>
      intro i xw xc xt xb xd xo xf ls hi hd ew ec et eb ed eo ef hJ hl
      refine lv_iload hx hb dL_rules_28 (lv_at hl 9 rfl) ?_
      refine lv_iload_n hx hb dL_rules_30 rfl (lv_at hl 1 rfl) ?_
      refine lv_icmp_ge (tgt := 292) hx hb dL_rules_31 (by decide) (fun c_31 => ?_) (fun c_31 => ?_)
      · skip
        have e9 : i = n := eqOfLe hi (by omega) c_31
        rw [e9] at ec et eb ed eo ef
        refine lv_iconst (v := 0) hx hb dL_rules_292 (by decide) ?_
        refine lv_istore (lv' := [(9, .int 0), (0, .ref (gA E 83)), (1, .int (nI n)), (2, .int xw), (3, .int xc), (4, .int xt), (5, .int xb), (6, .int xd), (7, .int xo), (8, .int xf)]) hx hb dL_rules_293 hl (by decide) rfl (fun ls hl => ?_)
        refine lv_iconst (v := 0) hx hb dL_rules_295 (by decide) ?_
        refine lv_istore (lv' := [(10, .int 0), (9, .int 0), (0, .ref (gA E 83)), (1, .int (nI n)), (2, .int xw), (3, .int xc), (4, .int xt), (5, .int xb), (6, .int xd), (7, .int xo), (8, .int xf)]) hx hb dL_rules_296 hl (by decide) rfl (fun ls hl => ?_)
        refine lv_iconst (v := 0) hx hb dL_rules_298 (by decide) ?_
        refine lv_istore (lv' := [(11, .int 0), (10, .int 0), (9, .int 0), (0, .ref (gA E 83)), (1, .int (nI n)), (2, .int xw), (3, .int xc), (4, .int xt), (5, .int xb), (6, .int xd), (7, .int xo), (8, .int xf)]) hx hb dL_rules_299 hl (by decide) rfl (fun ls hl => ?_)
        refine lv_iconst (v := 0) hx hb dL_rules_301 (by decide) ?_
        refine lv_istore (lv' := [(12, .int 0), (11, .int 0), (10, .int 0), (9, .int 0), (0, .ref (gA E 83)), (1, .int (nI n)), (2, .int xw), (3, .int xc), (4, .int xt), (5, .int xb), (6, .int xd), (7, .int xo), (8, .int xf)]) hx hb dL_rules_302 hl (by decide) rfl (fun ls hl => ?_)
        have lr : ∀ (d : Nat) (i : Nat) (xu xk xp : Int32) (ls : Array Slot), (i ≤ n - 1) → (n - 1 < i + d) → (xu = sI (fun j => if f_hind (gof n mm) (nI j) = 0 then 1 else 0) i) → (xk = sI (fun j => if f_take (gof n mm) (nI j) = 0 then 0 else 1) i) → (xp = sI (fun j => if f_fr (gof n mm) (nI j) = 0 then 0 else 1) i) → JJ E S s.heap [] → lv_has ls 22 [(0, .ref (gA E 83)), (1, .int (nI n)), (3, .int xc), (4, .int xt), (5, .int xb), (6, .int xd), (7, .int xo), (8, .int xf), (9, .int xu), (10, .int xk), (11, .int xp), (12, .int (nI i))] → W p l e (rmZ 7 151) s m ([.ref (gA E 83)] : List Value).toArray below meth c s.heap [] 0 0 (WQ below ([.ref (gA E 83)] : List Value).toArray s E (fun v S1 => v = some (.int 1) ∧ XI S1 (n, z, mm) mc sv ∧ S1.2 = S.2)) (F0 m 304 ls []) := by
          intro d
          induction d with
          | zero =>
            intro i xu xk xp ls hi hd eu ek ep hJ hl
            omega
          | succ d ih_lr =>
            intro i xu xk xp ls hi hd eu ek ep hJ hl
            refine lv_iload hx hb dL_rules_304 (lv_at hl 11 rfl) ?_
            refine lv_iconst (v := 1) hx hb dL_rules_306 (by decide) ?_
            refine lv_iadd hx hb dL_rules_307 ?_
            refine lv_iload_n hx hb dL_rules_308 rfl (lv_at hl 1 rfl) ?_
            refine lv_icmp_ge (tgt := 653) hx hb dL_rules_309 (by decide) (fun c_309 => ?_) (fun c_309 => ?_)
            · skip
              have e7 : i = n - 1 := lpE hi hn c_309
              rw [e7] at eu ek ep
              refine lv_aload_n hx hb dL_rules_653 rfl (lv_at hl 0 rfl) ?_
              refine lv_iconst (v := 2) hx hb dL_rules_654 (by decide) ?_
              refine cr_L_8 C hJ (rest := []) (m_whole hE hXI hQ hL 2 (by decide) (b := 2) (by decide) (v := f_total (gof n mm) n) rfl) dL_rules_655 hl.1 ⟨Nat.le_of_ble_eq_true rfl, Nat.le_of_ble_eq_true rfl⟩ ⟨Nat.le_refl _, Nat.le_refl _⟩ (Nat.le_of_ble_eq_true rfl) rfl rfl ?_
              refine lv_iload_n hx hb dL_rules_658 rfl (lv_at hl 2 rfl) ?_
              refine lv_icmp_ne (tgt := 738) hx hb dL_rules_659 (by decide) (fun c_659 => ?_) (fun c_659 => ?_)
              · skip
                exact absurd (show f_total (gof n mm) n = xc from ec.symm) c_659
              · skip
                refine lv_aload_n hx hb dL_rules_662 rfl (lv_at hl 0 rfl) ?_
                refine lv_iconst (v := 3) hx hb dL_rules_663 (by decide) ?_
                refine cr_L_8 C hJ (rest := []) (m_whole hE hXI hQ hL 3 (by decide) (b := 3) (by decide) (v := f_told (gof n mm) n) rfl) dL_rules_664 hl.1 ⟨Nat.le_of_ble_eq_true rfl, Nat.le_of_ble_eq_true rfl⟩ ⟨Nat.le_refl _, Nat.le_refl _⟩ (Nat.le_of_ble_eq_true rfl) rfl rfl ?_
                refine lv_iload hx hb dL_rules_667 (lv_at hl 3 rfl) ?_
                refine lv_icmp_ne (tgt := 738) hx hb dL_rules_669 (by decide) (fun c_669 => ?_) (fun c_669 => ?_)
                · skip
                  exact absurd (show f_told (gof n mm) n = xt from et.symm) c_669
                · skip
                  refine lv_aload_n hx hb dL_rules_672 rfl (lv_at hl 0 rfl) ?_
                  refine lv_iconst (v := 4) hx hb dL_rules_673 (by decide) ?_
                  refine cr_L_8 C hJ (rest := []) (m_whole hE hXI hQ hL 4 (by decide) (b := 4) (by decide) (v := f_best (gof n mm) n) rfl) dL_rules_674 hl.1 ⟨Nat.le_of_ble_eq_true rfl, Nat.le_of_ble_eq_true rfl⟩ ⟨Nat.le_refl _, Nat.le_refl _⟩ (Nat.le_of_ble_eq_true rfl) rfl rfl ?_
                  refine lv_iload hx hb dL_rules_677 (lv_at hl 4 rfl) ?_
                  refine lv_icmp_ne (tgt := 738) hx hb dL_rules_679 (by decide) (fun c_679 => ?_) (fun c_679 => ?_)
                  · skip
                    exact absurd (show f_best (gof n mm) n = xb from eb.symm) c_679
                  · skip
                    refine lv_aload_n hx hb dL_rules_682 rfl (lv_at hl 0 rfl) ?_
                    refine lv_iconst (v := 5) hx hb dL_rules_683 (by decide) ?_
                    refine cr_L_8 C hJ (rest := []) (m_whole hE hXI hQ hL 5 (by decide) (b := 5) (by decide) (v := f_willing (gof n mm) n) rfl) dL_rules_684 hl.1 ⟨Nat.le_of_ble_eq_true rfl, Nat.le_of_ble_eq_true rfl⟩ ⟨Nat.le_refl _, Nat.le_refl _⟩ (Nat.le_of_ble_eq_true rfl) rfl rfl ?_
                    refine lv_iload hx hb dL_rules_687 (lv_at hl 8 rfl) ?_
                    refine lv_icmp_ne (tgt := 738) hx hb dL_rules_689 (by decide) (fun c_689 => ?_) (fun c_689 => ?_)
                    · skip
                      exact absurd (show f_willing (gof n mm) n = xu from eu.symm) c_689
                    · skip
                      refine lv_aload_n hx hb dL_rules_692 rfl (lv_at hl 0 rfl) ?_
                      refine lv_bipush (v := 6) hx hb dL_rules_693 (by decide) ?_
                      refine cr_L_8 C hJ (rest := []) (m_whole hE hXI hQ hL 6 (by decide) (b := 6) (by decide) (v := f_offers (gof n mm) n) rfl) dL_rules_695 hl.1 ⟨Nat.le_of_ble_eq_true rfl, Nat.le_of_ble_eq_true rfl⟩ ⟨Nat.le_refl _, Nat.le_refl _⟩ (Nat.le_of_ble_eq_true rfl) rfl rfl ?_
                      refine lv_iload hx hb dL_rules_698 (lv_at hl 6 rfl) ?_
                      refine lv_icmp_ne (tgt := 738) hx hb dL_rules_700 (by decide) (fun c_700 => ?_) (fun c_700 => ?_)
                      · skip
                        exact absurd (show f_offers (gof n mm) n = xo from eo.symm) c_700
                      · skip
                        refine lv_aload_n hx hb dL_rules_703 rfl (lv_at hl 0 rfl) ?_
                        refine lv_bipush (v := 7) hx hb dL_rules_704 (by decide) ?_
                        refine cr_L_8 C hJ (rest := []) (m_whole hE hXI hQ hL 7 (by decide) (b := 7) (by decide) (v := f_welcome (gof n mm) n) rfl) dL_rules_706 hl.1 ⟨Nat.le_of_ble_eq_true rfl, Nat.le_of_ble_eq_true rfl⟩ ⟨Nat.le_refl _, Nat.le_refl _⟩ (Nat.le_of_ble_eq_true rfl) rfl rfl ?_
                        refine lv_iload hx hb dL_rules_709 (lv_at hl 9 rfl) ?_
                        refine lv_icmp_ne (tgt := 738) hx hb dL_rules_711 (by decide) (fun c_711 => ?_) (fun c_711 => ?_)
                        · skip
                          exact absurd (show f_welcome (gof n mm) n = xk from ek.symm) c_711
                        · skip
                          refine lv_aload_n hx hb dL_rules_714 rfl (lv_at hl 0 rfl) ?_
                          refine lv_bipush (v := 8) hx hb dL_rules_715 (by decide) ?_
                          refine cr_L_8 C hJ (rest := []) (m_whole hE hXI hQ hL 8 (by decide) (b := 8) (by decide) (v := f_frs (gof n mm) n) rfl) dL_rules_717 hl.1 ⟨Nat.le_of_ble_eq_true rfl, Nat.le_of_ble_eq_true rfl⟩ ⟨Nat.le_refl _, Nat.le_refl _⟩ (Nat.le_of_ble_eq_true rfl) rfl rfl ?_
                          refine lv_iload hx hb dL_rules_720 (lv_at hl 10 rfl) ?_
                          refine lv_icmp_ne (tgt := 738) hx hb dL_rules_722 (by decide) (fun c_722 => ?_) (fun c_722 => ?_)
                          · skip
                            exact absurd (show f_frs (gof n mm) n = xp from ep.symm) c_722
                          · skip
                            refine lv_iload hx hb dL_rules_725 (lv_at hl 7 rfl) ?_
                            refine lv_iconst (v := 2) hx hb dL_rules_727 (by decide) ?_
                            refine lv_iload hx hb dL_rules_728 (lv_at hl 10 rfl) ?_
                            refine lv_imul hx hb dL_rules_730 ?_
                            refine lv_icmp_ne (tgt := 738) hx hb dL_rules_731 (by decide) (fun c_731 => ?_) (fun c_731 => ?_)
                            · skip
                              exact absurd (by rw [ef, ep]; exact fr2 hn hM) c_731
                            · skip
                              refine lv_iconst (v := 1) hx hb dL_rules_734 (by decide) ?_
                              refine lv_goto (tgt := 739) hx hb dL_rules_735 (by decide) ?_
                              refine lv_istore (lv' := [(12, .int 1), (0, .ref (gA E 83)), (1, .int (nI n)), (3, .int xc), (4, .int xt), (5, .int xb), (6, .int xd), (7, .int xo), (8, .int xf), (9, .int xu), (10, .int xk), (11, .int xp)]) hx hb dL_rules_739 hl (by decide) rfl (fun ls hl => ?_)
                              refine lv_iload hx hb dL_rules_741 (lv_at hl 0 rfl) ?_
                              refine lv_if_eq (tgt := 791) hx hb dL_rules_743 (by decide) (fun c_743 => ?_) (fun c_743 => ?_)
                              · skip
                                exact absurd c_743 (by decide)
                              · skip
                                refine lv_aload_n hx hb dL_rules_746 rfl (lv_at hl 1 rfl) ?_
                                refine lv_iload_n hx hb dL_rules_747 rfl (lv_at hl 2 rfl) ?_
                                refine cr_L_14 C hJ (rest := []) (m_atn hE hXI hQ rfl) dL_rules_748 hl.1 ⟨Nat.le_of_ble_eq_true rfl, Nat.le_of_ble_eq_true rfl⟩ ⟨Nat.le_refl _, Nat.le_refl _⟩ (Nat.le_of_ble_eq_true rfl) rfl rfl ?_
                                refine lv_iconst (v := (-1)) hx hb dL_rules_751 (by decide) ?_
                                refine lv_icmp_ne (tgt := 791) hx hb dL_rules_752 (by decide) (fun c_752 => ?_) (fun c_752 => ?_)
                                · skip
                                  exact absurd (rfl) c_752
                                · skip
                                  refine lv_aload_n hx hb dL_rules_755 rfl (lv_at hl 1 rfl) ?_
                                  refine cr_L_27 C hJ (rest := []) (c_X6_disorder hE hXI.1) dL_rules_756 hl.1 ⟨Nat.le_of_ble_eq_true rfl, Nat.le_of_ble_eq_true rfl⟩ ⟨Nat.le_refl _, Nat.le_refl _⟩ (Nat.le_of_ble_eq_true rfl) rfl rfl ?_
                                  refine lv_iload hx hb dL_rules_759 (lv_at hl 6 rfl) ?_
                                  refine lv_icmp_ne (tgt := 791) hx hb dL_rules_761 (by decide) (fun c_761 => ?_) (fun c_761 => ?_)
                                  · skip
                                    exact absurd (show f_wrong (gof n mm) n = xd from ed.symm) c_761
                                  · skip
                                    refine lv_iload hx hb dL_rules_764 (lv_at hl 5 rfl) ?_
                                    refine lv_iload_n hx hb dL_rules_766 rfl (lv_at hl 3 rfl) ?_
                                    refine lv_icmp_gt (tgt := 791) hx hb dL_rules_767 (by decide) (fun c_767 => ?_) (fun c_767 => ?_)
                                    · skip
                                      exact absurd c_767 (Int32.not_lt.mpr (by rw [eb, ec]; exact hV.best_le hn))
                                    · skip
                                      refine lv_aload_n hx hb dL_rules_770 rfl (lv_at hl 1 rfl) ?_
                                      obtain ⟨n1_771, z1_771, mm1_771, h1_771⟩ := hXI.ln1
                                      refine cw_L_31 C hJ (rest := []) (c_X6_honestCost hE hXI.1 h1_771 1000 rfl) dL_rules_771 hl.1 ⟨Nat.le_of_ble_eq_true rfl, Nat.le_of_ble_eq_true rfl⟩ ⟨Nat.le_refl _, Nat.le_refl _⟩ (Nat.le_of_ble_eq_true rfl) rfl rfl (fun vr S_771 H locs hP hJ => ?_)
                                      obtain ⟨rfl, hU_771⟩ := hP
                                      have hX771 := hXI.up1 hU_771
                                      refine lv_iload hx hb dL_rules_774 (lv_at hl 5 rfl) ?_
                                      refine lv_icmp_lt (tgt := 791) hx hb dL_rules_776 (by decide) (fun c_776 => ?_) (fun c_776 => ?_)
                                      · skip
                                        exact absurd c_776 (Int32.not_lt.mpr (by rw [eb]; exact (hV.hon hn 1000 z).1))
                                      · skip
                                        refine lv_aload_n hx hb dL_rules_779 rfl (lv_at hl 1 rfl) ?_
                                        obtain ⟨n1_780, z1_780, mm1_780, h1_780⟩ := hX771.ln1
                                        refine cw_L_31 C hJ (rest := []) (c_X6_honestCost hE hX771.1 h1_780 1000 rfl) dL_rules_780 hl.1 ⟨Nat.le_of_ble_eq_true rfl, Nat.le_of_ble_eq_true rfl⟩ ⟨Nat.le_refl _, Nat.le_refl _⟩ (Nat.le_of_ble_eq_true rfl) rfl rfl (fun vr S_780 H locs hP hJ => ?_)
                                        obtain ⟨rfl, hU_780⟩ := hP
                                        have hX780 := hX771.up1 hU_780
                                        refine lv_iload_n hx hb dL_rules_783 rfl (lv_at hl 3 rfl) ?_
                                        refine lv_icmp_gt (tgt := 791) hx hb dL_rules_784 (by decide) (fun c_784 => ?_) (fun c_784 => ?_)
                                        · skip
                                          exact absurd c_784 (Int32.not_lt.mpr (by rw [ec]; exact (hV.hon hn 1000 z).2))
                                        · skip
                                          refine lv_iconst (v := 1) hx hb dL_rules_787 (by decide) ?_
                                          refine lv_goto (tgt := 792) hx hb dL_rules_788 (by decide) ?_
                                          exact rW_i C hJ hr rfl (⟨rfl, hX780, hU_780.1.trans hU_771.1⟩) dL_rules_792
            · skip
              have hi1 : i + 1 < n := lpO hi hn c_309
              have hlt : i < n := by omega
              refine lv_aload_n hx hb dL_rules_312 rfl (lv_at hl 0 rfl) ?_
              refine lv_iload hx hb dL_rules_313 (lv_at hl 11 rfl) ?_
              refine cr_L_14 C hJ (rest := []) (m_at hE hXI hQ (P := i) hlt rfl) dL_rules_315 hl.1 ⟨Nat.le_of_ble_eq_true rfl, Nat.le_of_ble_eq_true rfl⟩ ⟨Nat.le_refl _, Nat.le_refl _⟩ (Nat.le_of_ble_eq_true rfl) rfl rfl ?_
              refine lv_istore (lv' := [(13, .int (mm i 0)), (0, .ref (gA E 83)), (1, .int (nI n)), (3, .int xc), (4, .int xt), (5, .int xb), (6, .int xd), (7, .int xo), (8, .int xf), (9, .int xu), (10, .int xk), (11, .int xp), (12, .int (nI i))]) hx hb dL_rules_318 hl (by decide) rfl (fun ls hl => ?_)
              refine lv_aload_n hx hb dL_rules_320 rfl (lv_at hl 1 rfl) ?_
              refine lv_iload hx hb dL_rules_321 (lv_at hl 12 rfl) ?_
              refine lv_iconst (v := 1) hx hb dL_rules_323 (by decide) ?_
              refine lv_iadd hx hb dL_rules_324 ?_
              refine cr_L_14 C hJ (rest := []) (m_at hE hXI hQ (P := i + 1) hi1 (nI_1 i)) dL_rules_325 hl.1 ⟨Nat.le_of_ble_eq_true rfl, Nat.le_of_ble_eq_true rfl⟩ ⟨Nat.le_refl _, Nat.le_refl _⟩ (Nat.le_of_ble_eq_true rfl) rfl rfl ?_
              refine lv_istore (lv' := [(14, .int (mm (i + 1) 0)), (13, .int (mm i 0)), (0, .ref (gA E 83)), (1, .int (nI n)), (3, .int xc), (4, .int xt), (5, .int xb), (6, .int xd), (7, .int xo), (8, .int xf), (9, .int xu), (10, .int xk), (11, .int xp), (12, .int (nI i))]) hx hb dL_rules_328 hl (by decide) rfl (fun ls hl => ?_)
              refine lv_aload_n hx hb dL_rules_330 rfl (lv_at hl 2 rfl) ?_
              refine lv_iload hx hb dL_rules_331 (lv_at hl 0 rfl) ?_
              refine lv_iconst (v := 2) hx hb dL_rules_333 (by decide) ?_
              refine cr_L_17 C hJ (rest := []) (m_mem hE hXI hQ (P := i + 1) hi1 rfl 2 (by decide) (b := 2) (by decide) (v := mm (i + 1) 2) rfl) dL_rules_334 hl.1 ⟨Nat.le_of_ble_eq_true rfl, Nat.le_of_ble_eq_true rfl⟩ ⟨Nat.le_refl _, Nat.le_refl _⟩ (Nat.le_of_ble_eq_true rfl) rfl rfl ?_
              refine lv_aload_n hx hb dL_rules_337 rfl (lv_at hl 2 rfl) ?_
              refine lv_iload hx hb dL_rules_338 (lv_at hl 1 rfl) ?_
              refine lv_iconst (v := 3) hx hb dL_rules_340 (by decide) ?_
              refine cr_L_17 C hJ (rest := [.int (mm (i + 1) 2)]) (m_mem hE hXI hQ (P := i) hlt rfl 3 (by decide) (b := 3) (by decide) (v := mm i 3) rfl) dL_rules_341 hl.1 ⟨Nat.le_of_ble_eq_true rfl, Nat.le_of_ble_eq_true rfl⟩ ⟨Nat.le_refl _, Nat.le_refl _⟩ (Nat.le_of_ble_eq_true rfl) rfl rfl ?_
              refine lv_imul hx hb dL_rules_344 ?_
              obtain ⟨xg, eg⟩ : ∃ z : Int32, z = (mm (i + 1) 2) * (mm i 3) := ⟨_, rfl⟩
              rw [← eg]
              refine lv_istore (lv' := [(15, .int xg), (14, .int (mm (i + 1) 0)), (13, .int (mm i 0)), (0, .ref (gA E 83)), (1, .int (nI n)), (3, .int xc), (4, .int xt), (5, .int xb), (6, .int xd), (7, .int xo), (8, .int xf), (9, .int xu), (10, .int xk), (11, .int xp), (12, .int (nI i))]) hx hb dL_rules_345 hl (by decide) rfl (fun ls hl => ?_)
              refine lv_aload_n hx hb dL_rules_347 rfl (lv_at hl 3 rfl) ?_
              refine lv_iload hx hb dL_rules_348 (lv_at hl 2 rfl) ?_
              refine lv_iconst (v := 2) hx hb dL_rules_350 (by decide) ?_
              refine cr_L_17 C hJ (rest := []) (m_mem hE hXI hQ (P := i) hlt rfl 2 (by decide) (b := 2) (by decide) (v := mm i 2) rfl) dL_rules_351 hl.1 ⟨Nat.le_of_ble_eq_true rfl, Nat.le_of_ble_eq_true rfl⟩ ⟨Nat.le_refl _, Nat.le_refl _⟩ (Nat.le_of_ble_eq_true rfl) rfl rfl ?_
              refine lv_aload_n hx hb dL_rules_354 rfl (lv_at hl 3 rfl) ?_
              refine lv_iload hx hb dL_rules_355 (lv_at hl 1 rfl) ?_
              refine lv_iconst (v := 3) hx hb dL_rules_357 (by decide) ?_
              refine cr_L_17 C hJ (rest := [.int (mm i 2)]) (m_mem hE hXI hQ (P := i + 1) hi1 rfl 3 (by decide) (b := 3) (by decide) (v := mm (i + 1) 3) rfl) dL_rules_358 hl.1 ⟨Nat.le_of_ble_eq_true rfl, Nat.le_of_ble_eq_true rfl⟩ ⟨Nat.le_refl _, Nat.le_refl _⟩ (Nat.le_of_ble_eq_true rfl) rfl rfl ?_
              refine lv_imul hx hb dL_rules_361 ?_
              obtain ⟨xl, el⟩ : ∃ z : Int32, z = (mm i 2) * (mm (i + 1) 3) := ⟨_, rfl⟩
              rw [← el]
              refine lv_istore (lv' := [(16, .int xl), (15, .int xg), (14, .int (mm (i + 1) 0)), (13, .int (mm i 0)), (0, .ref (gA E 83)), (1, .int (nI n)), (3, .int xc), (4, .int xt), (5, .int xb), (6, .int xd), (7, .int xo), (8, .int xf), (9, .int xu), (10, .int xk), (11, .int xp), (12, .int (nI i))]) hx hb dL_rules_362 hl (by decide) rfl (fun ls hl => ?_)
              refine lv_iload hx hb dL_rules_364 (lv_at hl 1 rfl) ?_
              refine lv_iload hx hb dL_rules_366 (lv_at hl 0 rfl) ?_
              refine lv_isub hx hb dL_rules_368 ?_
              obtain ⟨xs, es⟩ : ∃ z : Int32, z = xg - xl := ⟨_, rfl⟩
              rw [← es]
              refine lv_istore (lv' := [(17, .int xs), (16, .int xl), (15, .int xg), (14, .int (mm (i + 1) 0)), (13, .int (mm i 0)), (0, .ref (gA E 83)), (1, .int (nI n)), (3, .int xc), (4, .int xt), (5, .int xb), (6, .int xd), (7, .int xo), (8, .int xf), (9, .int xu), (10, .int xk), (11, .int xp), (12, .int (nI i))]) hx hb dL_rules_369 hl (by decide) rfl (fun ls hl => ?_)
              have e2 : sv2 mm i = xs := by rw [es, eg, el]; rfl
              refine lv_aload_n hx hb dL_rules_371 rfl (lv_at hl 5 rfl) ?_
              refine lv_iload hx hb dL_rules_372 (lv_at hl 16 rfl) ?_
              refine cr_L_21 C hJ (rest := []) (m_reason hE hXI hQ (P := i) hi1 rfl) dL_rules_374 hl.1 ⟨Nat.le_of_ble_eq_true rfl, Nat.le_of_ble_eq_true rfl⟩ ⟨Nat.le_refl _, Nat.le_refl _⟩ (Nat.le_of_ble_eq_true rfl) rfl rfl ?_
              refine lv_istore (lv' := [(18, .int (f_hind (gof n mm) (nI i))), (17, .int xs), (16, .int xl), (15, .int xg), (14, .int (mm (i + 1) 0)), (13, .int (mm i 0)), (0, .ref (gA E 83)), (1, .int (nI n)), (3, .int xc), (4, .int xt), (5, .int xb), (6, .int xd), (7, .int xo), (8, .int xf), (9, .int xu), (10, .int xk), (11, .int xp), (12, .int (nI i))]) hx hb dL_rules_377 hl (by decide) rfl (fun ls hl => ?_)
              have J402 : ∀ (xa : Int32) (ls : Array Slot), (xa = mm i 6) → JJ E S s.heap [] → lv_has ls 22 [(18, .int (f_hind (gof n mm) (nI i))), (17, .int xs), (16, .int xl), (15, .int xg), (14, .int (mm (i + 1) 0)), (13, .int (mm i 0)), (0, .ref (gA E 83)), (1, .int (nI n)), (3, .int xc), (4, .int xt), (5, .int xb), (6, .int xd), (7, .int xo), (8, .int xf), (9, .int xu), (10, .int xk), (11, .int xp), (12, .int (nI i))] → W p l e (rmZ 7 151) s m ([.ref (gA E 83)] : List Value).toArray below meth c s.heap [] 0 0 (WQ below ([.ref (gA E 83)] : List Value).toArray s E (fun v S1 => v = some (.int 1) ∧ XI S1 (n, z, mm) mc sv ∧ S1.2 = S.2)) (F0 m 402 ls [.int xa]) := by
                intro xa ls ha hJ hl
                refine lv_istore (lv' := [(19, .int xa), (18, .int (f_hind (gof n mm) (nI i))), (17, .int xs), (16, .int xl), (15, .int xg), (14, .int (mm (i + 1) 0)), (13, .int (mm i 0)), (0, .ref (gA E 83)), (1, .int (nI n)), (3, .int xc), (4, .int xt), (5, .int xb), (6, .int xd), (7, .int xo), (8, .int xf), (9, .int xu), (10, .int xk), (11, .int xp), (12, .int (nI i))]) hx hb dL_rules_402 hl (by decide) rfl (fun ls hl => ?_)
                have J430 : ∀ (xe : Int32) (ls : Array Slot), (xe = mfr n mm (i + 1)) → JJ E S s.heap [] → lv_has ls 22 [(19, .int xa), (18, .int (f_hind (gof n mm) (nI i))), (17, .int xs), (16, .int xl), (15, .int xg), (14, .int (mm (i + 1) 0)), (13, .int (mm i 0)), (0, .ref (gA E 83)), (1, .int (nI n)), (3, .int xc), (4, .int xt), (5, .int xb), (6, .int xd), (7, .int xo), (8, .int xf), (9, .int xu), (10, .int xk), (11, .int xp), (12, .int (nI i))] → W p l e (rmZ 7 151) s m ([.ref (gA E 83)] : List Value).toArray below meth c s.heap [] 0 0 (WQ below ([.ref (gA E 83)] : List Value).toArray s E (fun v S1 => v = some (.int 1) ∧ XI S1 (n, z, mm) mc sv ∧ S1.2 = S.2)) (F0 m 430 ls [.int xe]) := by
                  intro xe ls he hJ hl
                  refine lv_istore (lv' := [(20, .int xe), (19, .int xa), (18, .int (f_hind (gof n mm) (nI i))), (17, .int xs), (16, .int xl), (15, .int xg), (14, .int (mm (i + 1) 0)), (13, .int (mm i 0)), (0, .ref (gA E 83)), (1, .int (nI n)), (3, .int xc), (4, .int xt), (5, .int xb), (6, .int xd), (7, .int xo), (8, .int xf), (9, .int xu), (10, .int xk), (11, .int xp), (12, .int (nI i))]) hx hb dL_rules_430 hl (by decide) rfl (fun ls hl => ?_)
                  have J475 : ∀ (xq : Int32) (ls : Array Slot), (xq = f_hind (gof n mm) (nI i)) → JJ E S s.heap [] → lv_has ls 22 [(20, .int xe), (19, .int xa), (18, .int (f_hind (gof n mm) (nI i))), (17, .int xs), (16, .int xl), (15, .int xg), (14, .int (mm (i + 1) 0)), (13, .int (mm i 0)), (0, .ref (gA E 83)), (1, .int (nI n)), (3, .int xc), (4, .int xt), (5, .int xb), (6, .int xd), (7, .int xo), (8, .int xf), (9, .int xu), (10, .int xk), (11, .int xp), (12, .int (nI i))] → W p l e (rmZ 7 151) s m ([.ref (gA E 83)] : List Value).toArray below meth c s.heap [] 0 0 (WQ below ([.ref (gA E 83)] : List Value).toArray s E (fun v S1 => v = some (.int 1) ∧ XI S1 (n, z, mm) mc sv ∧ S1.2 = S.2)) (F0 m 475 ls [.int xq]) := by
                    intro xq ls hq hJ hl
                    refine lv_istore (lv' := [(21, .int xq), (20, .int xe), (19, .int xa), (18, .int (f_hind (gof n mm) (nI i))), (17, .int xs), (16, .int xl), (15, .int xg), (14, .int (mm (i + 1) 0)), (13, .int (mm i 0)), (0, .ref (gA E 83)), (1, .int (nI n)), (3, .int xc), (4, .int xt), (5, .int xb), (6, .int xd), (7, .int xo), (8, .int xf), (9, .int xu), (10, .int xk), (11, .int xp), (12, .int (nI i))]) hx hb dL_rules_475 hl (by decide) rfl (fun ls hl => ?_)
                    refine lv_iload hx hb dL_rules_477 (lv_at hl 3 rfl) ?_
                    refine lv_iload hx hb dL_rules_479 (lv_at hl 0 rfl) ?_
                    refine lv_icmp_ne (tgt := 572) hx hb dL_rules_481 (by decide) (fun c_481 => ?_) (fun c_481 => ?_)
                    · skip
                      exact absurd (hq.symm) c_481
                    · skip
                      refine lv_aload_n hx hb dL_rules_484 rfl (lv_at hl 9 rfl) ?_
                      refine lv_iload hx hb dL_rules_485 (lv_at hl 20 rfl) ?_
                      refine lv_iconst (v := 0) hx hb dL_rules_487 (by decide) ?_
                      refine cr_L_24 C hJ (rest := []) (m_pair hE hXI hQ (P := i) hi1 rfl 0 (by decide) (b := 0) (by decide) (v := mm (i + 1) 2 * mm i 3) rfl) dL_rules_488 hl.1 ⟨Nat.le_of_ble_eq_true rfl, Nat.le_of_ble_eq_true rfl⟩ ⟨Nat.le_refl _, Nat.le_refl _⟩ (Nat.le_of_ble_eq_true rfl) rfl rfl ?_
                      refine lv_iload hx hb dL_rules_491 (lv_at hl 6 rfl) ?_
                      refine lv_icmp_ne (tgt := 572) hx hb dL_rules_493 (by decide) (fun c_493 => ?_) (fun c_493 => ?_)
                      · skip
                        exact absurd (eg.symm) c_493
                      · skip
                        refine lv_aload_n hx hb dL_rules_496 rfl (lv_at hl 9 rfl) ?_
                        refine lv_iload hx hb dL_rules_497 (lv_at hl 20 rfl) ?_
                        refine lv_iconst (v := 1) hx hb dL_rules_499 (by decide) ?_
                        refine cr_L_24 C hJ (rest := []) (m_pair hE hXI hQ (P := i) hi1 rfl 1 (by decide) (b := 1) (by decide) (v := mm i 2 * mm (i + 1) 3) rfl) dL_rules_500 hl.1 ⟨Nat.le_of_ble_eq_true rfl, Nat.le_of_ble_eq_true rfl⟩ ⟨Nat.le_refl _, Nat.le_refl _⟩ (Nat.le_of_ble_eq_true rfl) rfl rfl ?_
                        refine lv_iload hx hb dL_rules_503 (lv_at hl 5 rfl) ?_
                        refine lv_icmp_ne (tgt := 572) hx hb dL_rules_505 (by decide) (fun c_505 => ?_) (fun c_505 => ?_)
                        · skip
                          exact absurd (el.symm) c_505
                        · skip
                          refine lv_aload_n hx hb dL_rules_508 rfl (lv_at hl 9 rfl) ?_
                          refine lv_iload hx hb dL_rules_509 (lv_at hl 20 rfl) ?_
                          refine lv_iconst (v := 2) hx hb dL_rules_511 (by decide) ?_
                          refine cr_L_24 C hJ (rest := []) (m_pair hE hXI hQ (P := i) hi1 rfl 2 (by decide) (b := 2) (by decide) (v := sv2 mm i) rfl) dL_rules_512 hl.1 ⟨Nat.le_of_ble_eq_true rfl, Nat.le_of_ble_eq_true rfl⟩ ⟨Nat.le_refl _, Nat.le_refl _⟩ (Nat.le_of_ble_eq_true rfl) rfl rfl ?_
                          refine lv_iload hx hb dL_rules_515 (lv_at hl 4 rfl) ?_
                          refine lv_icmp_ne (tgt := 572) hx hb dL_rules_517 (by decide) (fun c_517 => ?_) (fun c_517 => ?_)
                          · skip
                            exact absurd (e2) c_517
                          · skip
                            have J553 : ∀  (ls : Array Slot), JJ E S s.heap [] → lv_has ls 22 [(21, .int xq), (20, .int xe), (19, .int xa), (18, .int (f_hind (gof n mm) (nI i))), (17, .int xs), (16, .int xl), (15, .int xg), (14, .int (mm (i + 1) 0)), (13, .int (mm i 0)), (0, .ref (gA E 83)), (1, .int (nI n)), (3, .int xc), (4, .int xt), (5, .int xb), (6, .int xd), (7, .int xo), (8, .int xf), (9, .int xu), (10, .int xk), (11, .int xp), (12, .int (nI i))] → W p l e (rmZ 7 151) s m ([.ref (gA E 83)] : List Value).toArray below meth c s.heap [] 0 0 (WQ below ([.ref (gA E 83)] : List Value).toArray s E (fun v S1 => v = some (.int 1) ∧ XI S1 (n, z, mm) mc sv ∧ S1.2 = S.2)) (F0 m 553 ls []) := by
                              intro  ls  hJ hl
                              refine lv_aload_n hx hb dL_rules_553 rfl (lv_at hl 9 rfl) ?_
                              refine lv_iload hx hb dL_rules_554 (lv_at hl 8 rfl) ?_
                              refine lv_bipush (v := 8) hx hb dL_rules_556 (by decide) ?_
                              refine cr_L_17 C hJ (rest := []) (m_mem hE hXI hQ (P := i) hlt rfl 8 (by decide) (b := 8) (by decide) (v := gof n mm (nI i + 1) 5) rfl) dL_rules_558 hl.1 ⟨Nat.le_of_ble_eq_true rfl, Nat.le_of_ble_eq_true rfl⟩ ⟨Nat.le_refl _, Nat.le_refl _⟩ (Nat.le_of_ble_eq_true rfl) rfl rfl ?_
                              refine lv_aload_n hx hb dL_rules_561 rfl (lv_at hl 9 rfl) ?_
                              refine lv_iload hx hb dL_rules_562 (lv_at hl 7 rfl) ?_
                              refine lv_bipush (v := 7) hx hb dL_rules_564 (by decide) ?_
                              refine cr_L_17 C hJ (rest := [.int (gof n mm (nI i + 1) 5)]) (m_mem hE hXI hQ (P := i + 1) hi1 rfl 7 (by decide) (b := 7) (by decide) (v := mm (i + 1) 5) rfl) dL_rules_566 hl.1 ⟨Nat.le_of_ble_eq_true rfl, Nat.le_of_ble_eq_true rfl⟩ ⟨Nat.le_refl _, Nat.le_refl _⟩ (Nat.le_of_ble_eq_true rfl) rfl rfl ?_
                              refine lv_icmp_eq (tgt := 574) hx hb dL_rules_569 (by decide) (fun c_569 => ?_) (fun c_569 => ?_)
                              · skip
                                refine lv_iload hx hb dL_rules_574 (lv_at hl 17 rfl) ?_
                                have J586 : ∀ (v4 : Int32) (ls : Array Slot), (v4 = if f_hind (gof n mm) (nI i) = 0 then 1 else 0) → JJ E S s.heap [] → lv_has ls 22 [(21, .int xq), (20, .int xe), (19, .int xa), (18, .int (f_hind (gof n mm) (nI i))), (17, .int xs), (16, .int xl), (15, .int xg), (14, .int (mm (i + 1) 0)), (13, .int (mm i 0)), (0, .ref (gA E 83)), (1, .int (nI n)), (3, .int xc), (4, .int xt), (5, .int xb), (6, .int xd), (7, .int xo), (8, .int xf), (9, .int xu), (10, .int xk), (11, .int xp), (12, .int (nI i))] → W p l e (rmZ 7 151) s m ([.ref (gA E 83)] : List Value).toArray below meth c s.heap [] 0 0 (WQ below ([.ref (gA E 83)] : List Value).toArray s E (fun v S1 => v = some (.int 1) ∧ XI S1 (n, z, mm) mc sv ∧ S1.2 = S.2)) (F0 m 586 ls [.int v4, .int xu]) := by
                                  intro v4 ls hv4 hJ hl
                                  refine lv_iadd hx hb dL_rules_586 ?_
                                  refine lv_istore (lv' := [(9, .int (xu + v4)), (21, .int xq), (20, .int xe), (19, .int xa), (18, .int (f_hind (gof n mm) (nI i))), (17, .int xs), (16, .int xl), (15, .int xg), (14, .int (mm (i + 1) 0)), (13, .int (mm i 0)), (0, .ref (gA E 83)), (1, .int (nI n)), (3, .int xc), (4, .int xt), (5, .int xb), (6, .int xd), (7, .int xo), (8, .int xf), (10, .int xk), (11, .int xp), (12, .int (nI i))]) hx hb dL_rules_587 hl (by decide) rfl (fun ls hl => ?_)
                                  refine lv_iload hx hb dL_rules_589 (lv_at hl 18 rfl) ?_
                                  have J632 : ∀ (v5 : Int32) (ls : Array Slot), (v5 = if f_take (gof n mm) (nI i) = 0 then 0 else 1) → JJ E S s.heap [] → lv_has ls 22 [(9, .int (xu + v4)), (21, .int xq), (20, .int xe), (19, .int xa), (18, .int (f_hind (gof n mm) (nI i))), (17, .int xs), (16, .int xl), (15, .int xg), (14, .int (mm (i + 1) 0)), (13, .int (mm i 0)), (0, .ref (gA E 83)), (1, .int (nI n)), (3, .int xc), (4, .int xt), (5, .int xb), (6, .int xd), (7, .int xo), (8, .int xf), (10, .int xk), (11, .int xp), (12, .int (nI i))] → W p l e (rmZ 7 151) s m ([.ref (gA E 83)] : List Value).toArray below meth c s.heap [] 0 0 (WQ below ([.ref (gA E 83)] : List Value).toArray s E (fun v S1 => v = some (.int 1) ∧ XI S1 (n, z, mm) mc sv ∧ S1.2 = S.2)) (F0 m 632 ls [.int v5, .int xk]) := by
                                    intro v5 ls hv5 hJ hl
                                    refine lv_iadd hx hb dL_rules_632 ?_
                                    refine lv_istore (lv' := [(10, .int (xk + v5)), (9, .int (xu + v4)), (21, .int xq), (20, .int xe), (19, .int xa), (18, .int (f_hind (gof n mm) (nI i))), (17, .int xs), (16, .int xl), (15, .int xg), (14, .int (mm (i + 1) 0)), (13, .int (mm i 0)), (0, .ref (gA E 83)), (1, .int (nI n)), (3, .int xc), (4, .int xt), (5, .int xb), (6, .int xd), (7, .int xo), (8, .int xf), (11, .int xp), (12, .int (nI i))]) hx hb dL_rules_633 hl (by decide) rfl (fun ls hl => ?_)
                                    refine lv_iload hx hb dL_rules_635 (lv_at hl 19 rfl) ?_
                                    refine lv_aload_n hx hb dL_rules_637 rfl (lv_at hl 11 rfl) ?_
                                    refine lv_iload hx hb dL_rules_638 (lv_at hl 20 rfl) ?_
                                    refine lv_iconst (v := 4) hx hb dL_rules_640 (by decide) ?_
                                    refine cr_L_24 C hJ (rest := [.int xp]) (m_pair hE hXI hQ (P := i) hi1 rfl 4 (by decide) (b := 4) (by decide) (v := mm (i + 1) 6) rfl) dL_rules_641 hl.1 ⟨Nat.le_of_ble_eq_true rfl, Nat.le_of_ble_eq_true rfl⟩ ⟨Nat.le_refl _, Nat.le_refl _⟩ (Nat.le_of_ble_eq_true rfl) rfl rfl ?_
                                    refine lv_iadd hx hb dL_rules_644 ?_
                                    refine lv_istore (lv' := [(11, .int (xp + (mm (i + 1) 6))), (10, .int (xk + v5)), (9, .int (xu + v4)), (21, .int xq), (20, .int xe), (19, .int xa), (18, .int (f_hind (gof n mm) (nI i))), (17, .int xs), (16, .int xl), (15, .int xg), (14, .int (mm (i + 1) 0)), (13, .int (mm i 0)), (0, .ref (gA E 83)), (1, .int (nI n)), (3, .int xc), (4, .int xt), (5, .int xb), (6, .int xd), (7, .int xo), (8, .int xf), (12, .int (nI i))]) hx hb dL_rules_645 hl (by decide) rfl (fun ls hl => ?_)
                                    have eu2 : xu + v4 = sI (fun j => if f_hind (gof n mm) (nI j) = 0 then 1 else 0) (i + 1) := sI_u eu hv4.symm
                                    have ek2 : xk + v5 = sI (fun j => if f_take (gof n mm) (nI j) = 0 then 0 else 1) (i + 1) := sI_u ek hv5.symm
                                    have ep2 : xp + mm (i + 1) 6 = sI (fun j => if f_fr (gof n mm) (nI j) = 0 then 0 else 1) (i + 1) := sI_u ep (by show (if f_fr (gof n mm) (nI i) = 0 then (0 : Int32) else 1) = _; rw [fr_e hn hi1]; exact bit_e (hM.2 _ hi1))
                                    refine lv_iinc (v := nI (i + 1)) (lv' := [(12, .int (nI (i + 1))), (11, .int (xp + (mm (i + 1) 6))), (10, .int (xk + v5)), (9, .int (xu + v4)), (21, .int xq), (20, .int xe), (19, .int xa), (18, .int (f_hind (gof n mm) (nI i))), (17, .int xs), (16, .int xl), (15, .int xg), (14, .int (mm (i + 1) 0)), (13, .int (mm i 0)), (0, .ref (gA E 83)), (1, .int (nI n)), (3, .int xc), (4, .int xt), (5, .int xb), (6, .int xd), (7, .int xo), (8, .int xf)]) hx hb dL_rules_647 hl (k := 20) rfl (by exact nI_1 i) (by decide) rfl (fun ls hl => ?_)
                                    refine lv_goto (tgt := 304) hx hb dL_rules_650 (by decide) ?_
                                    exact ih_lr (i + 1) _ _ _ _ (by omega) (by omega) eu2 ek2 ep2 hJ (lv_sub hl [13, 14, 15, 16, 17, 18, 19, 20, 3, 2, 1, 0] rfl)
                                  refine lv_aload_n hx hb dL_rules_591 rfl (lv_at hl 10 rfl) ?_
                                  refine lv_iload hx hb dL_rules_592 (lv_at hl 8 rfl) ?_
                                  refine lv_bipush (v := 7) hx hb dL_rules_594 (by decide) ?_
                                  refine cr_L_17 C hJ (rest := [.int xk]) (m_mem hE hXI hQ (P := i + 1) hi1 rfl 7 (by decide) (b := 7) (by decide) (v := mm (i + 1) 5) rfl) dL_rules_596 hl.1 ⟨Nat.le_of_ble_eq_true rfl, Nat.le_of_ble_eq_true rfl⟩ ⟨Nat.le_refl _, Nat.le_refl _⟩ (Nat.le_of_ble_eq_true rfl) rfl rfl ?_
                                  refine lv_iload hx hb dL_rules_599 (lv_at hl 6 rfl) ?_
                                  refine lv_icmp_lt (tgt := 631) hx hb dL_rules_601 (by decide) (fun c_601 => ?_) (fun c_601 => ?_)
                                  · skip
                                    have hv5 : (0 : Int32) = if f_take (gof n mm) (nI i) = 0 then 0 else 1 := by rw [take_v hn hM hi1]; split; rfl; rw [if_pos (by rw [← el]; exact c_601)]
                                    refine lv_iconst (v := 0) hx hb dL_rules_631 (by decide) ?_
                                    exact J632 0 _ hv5 hJ (lv_sub hl [0, 1, 2, 3, 4, 5, 6, 7, 8, 9, 10, 11, 12, 13, 14, 15, 16, 17, 18, 19, 20] rfl)
                                  · skip
                                    refine lv_aload_n hx hb dL_rules_604 rfl (lv_at hl 10 rfl) ?_
                                    refine lv_iload hx hb dL_rules_605 (lv_at hl 8 rfl) ?_
                                    refine lv_bipush (v := 7) hx hb dL_rules_607 (by decide) ?_
                                    refine cr_L_17 C hJ (rest := [.int xk]) (m_mem hE hXI hQ (P := i + 1) hi1 rfl 7 (by decide) (b := 7) (by decide) (v := mm (i + 1) 5) rfl) dL_rules_609 hl.1 ⟨Nat.le_of_ble_eq_true rfl, Nat.le_of_ble_eq_true rfl⟩ ⟨Nat.le_refl _, Nat.le_refl _⟩ (Nat.le_of_ble_eq_true rfl) rfl rfl ?_
                                    refine lv_iconst (v := (-1)) hx hb dL_rules_612 (by decide) ?_
                                    refine lv_icmp_eq (tgt := 631) hx hb dL_rules_613 (by decide) (fun c_613 => ?_) (fun c_613 => ?_)
                                    · skip
                                      have hv5 : (0 : Int32) = if f_take (gof n mm) (nI i) = 0 then 0 else 1 := by rw [take_v hn hM hi1]; rw [if_pos c_613]
                                      refine lv_iconst (v := 0) hx hb dL_rules_631 (by decide) ?_
                                      exact J632 0 _ hv5 hJ (lv_sub hl [0, 1, 2, 3, 4, 5, 6, 7, 8, 9, 10, 11, 12, 13, 14, 15, 16, 17, 18, 19, 20] rfl)
                                    · skip
                                      refine lv_iload hx hb dL_rules_616 (lv_at hl 4 rfl) ?_
                                      refine lv_if_eq (tgt := 627) hx hb dL_rules_618 (by decide) (fun c_618 => ?_) (fun c_618 => ?_)
                                      · skip
                                        have hv5 : (1 : Int32) = if f_take (gof n mm) (nI i) = 0 then 0 else 1 := by rw [take_v hn hM hi1]; rw [if_neg c_613, if_neg (by rw [← el]; exact c_601), if_pos (Or.inl c_618)]
                                        refine lv_iconst (v := 1) hx hb dL_rules_627 (by decide) ?_
                                        refine lv_goto (tgt := 632) hx hb dL_rules_628 (by decide) ?_
                                        exact J632 1 _ hv5 hJ (lv_sub hl [0, 1, 2, 3, 4, 5, 6, 7, 8, 9, 10, 11, 12, 13, 14, 15, 16, 17, 18, 19, 20] rfl)
                                      · skip
                                        refine lv_iload hx hb dL_rules_621 (lv_at hl 4 rfl) ?_
                                        refine lv_iconst (v := 4) hx hb dL_rules_623 (by decide) ?_
                                        refine lv_icmp_ne (tgt := 631) hx hb dL_rules_624 (by decide) (fun c_624 => ?_) (fun c_624 => ?_)
                                        · skip
                                          have hv5 : (0 : Int32) = if f_take (gof n mm) (nI i) = 0 then 0 else 1 := by rw [take_v hn hM hi1]; rw [if_neg c_613, if_neg (by rw [← el]; exact c_601), if_neg (fun y => y.elim c_618 c_624)]
                                          refine lv_iconst (v := 0) hx hb dL_rules_631 (by decide) ?_
                                          exact J632 0 _ hv5 hJ (lv_sub hl [0, 1, 2, 3, 4, 5, 6, 7, 8, 9, 10, 11, 12, 13, 14, 15, 16, 17, 18, 19, 20] rfl)
                                        · skip
                                          have hv5 : (1 : Int32) = if f_take (gof n mm) (nI i) = 0 then 0 else 1 := by rw [take_v hn hM hi1]; rw [if_neg c_613, if_neg (by rw [← el]; exact c_601), if_pos (Or.inr c_624)]
                                          refine lv_iconst (v := 1) hx hb dL_rules_627 (by decide) ?_
                                          refine lv_goto (tgt := 632) hx hb dL_rules_628 (by decide) ?_
                                          exact J632 1 _ hv5 hJ (lv_sub hl [0, 1, 2, 3, 4, 5, 6, 7, 8, 9, 10, 11, 12, 13, 14, 15, 16, 17, 18, 19, 20] rfl)
                                refine lv_iload hx hb dL_rules_576 (lv_at hl 3 rfl) ?_
                                refine lv_if_ne (tgt := 585) hx hb dL_rules_578 (by decide) (fun c_578 => ?_) (fun c_578 => ?_)
                                · skip
                                  have hv4 : (0 : Int32) = if f_hind (gof n mm) (nI i) = 0 then 1 else 0 := by rw [if_neg c_578]
                                  refine lv_iconst (v := 0) hx hb dL_rules_585 (by decide) ?_
                                  exact J586 0 _ hv4 hJ (lv_sub hl [0, 1, 2, 3, 4, 5, 6, 7, 8, 9, 10, 11, 12, 13, 14, 15, 16, 17, 18, 19, 20] rfl)
                                · skip
                                  have hv4 : (1 : Int32) = if f_hind (gof n mm) (nI i) = 0 then 1 else 0 := by rw [if_pos c_578]
                                  refine lv_iconst (v := 1) hx hb dL_rules_581 (by decide) ?_
                                  refine lv_goto (tgt := 586) hx hb dL_rules_582 (by decide) ?_
                                  exact J586 1 _ hv4 hJ (lv_sub hl [0, 1, 2, 3, 4, 5, 6, 7, 8, 9, 10, 11, 12, 13, 14, 15, 16, 17, 18, 19, 20] rfl)
                              · skip
                                exact absurd (g_in1 hn hi1 5) c_569
                            refine lv_aload_n hx hb dL_rules_520 rfl (lv_at hl 9 rfl) ?_
                            refine lv_iload hx hb dL_rules_521 (lv_at hl 20 rfl) ?_
                            refine lv_iconst (v := 3) hx hb dL_rules_523 (by decide) ?_
                            refine cr_L_24 C hJ (rest := []) (m_pair hE hXI hQ (P := i) hi1 rfl 3 (by decide) (b := 3) (by decide) (v := pv z mm i 3) rfl) dL_rules_524 hl.1 ⟨Nat.le_of_ble_eq_true rfl, Nat.le_of_ble_eq_true rfl⟩ ⟨Nat.le_refl _, Nat.le_refl _⟩ (Nat.le_of_ble_eq_true rfl) rfl rfl ?_
                            refine lv_iload hx hb dL_rules_527 (lv_at hl 4 rfl) ?_
                            refine lv_if_le (tgt := 549) hx hb dL_rules_529 (by decide) (fun c_529 => ?_) (fun c_529 => ?_)
                            · skip
                              have ev : pv z mm i 3 = -1 := by show (if 0 < sv2 mm i then mm i 2 * mm (i + 1) 3 + sv2 mm i * z 3 / 100 else -1) = _; rw [e2, if_neg (Int32.not_lt.mpr c_529)]
                              refine lv_iconst (v := (-1)) hx hb dL_rules_549 (by decide) ?_
                              refine lv_icmp_ne (tgt := 572) hx hb dL_rules_550 (by decide) (fun c_550 => ?_) (fun c_550 => ?_)
                              · skip
                                exact absurd (ev) c_550
                              · skip
                                exact J553 _ hJ (lv_sub hl [0, 1, 2, 3, 4, 5, 6, 7, 8, 9, 10, 11, 12, 13, 14, 15, 16, 17, 18, 19, 20] rfl)
                            · skip
                              have ev : pv z mm i 3 = xl + xs * z 3 / 100 := by show (if 0 < sv2 mm i then mm i 2 * mm (i + 1) 3 + sv2 mm i * z 3 / 100 else -1) = _; rw [e2, if_pos (Int32.not_le.mp c_529), el]
                              refine lv_iload hx hb dL_rules_532 (lv_at hl 5 rfl) ?_
                              refine lv_iload hx hb dL_rules_534 (lv_at hl 4 rfl) ?_
                              refine lv_aload_n hx hb dL_rules_536 rfl (lv_at hl 9 rfl) ?_
                              refine lv_iconst (v := 1) hx hb dL_rules_537 (by decide) ?_
                              refine cr_L_8 C hJ (rest := [.int xs, .int xl, .int (pv z mm i 3)]) (m_whole hE hXI hQ hL 1 (by decide) (b := 1) (by decide) (v := z 3) rfl) dL_rules_538 hl.1 ⟨Nat.le_of_ble_eq_true rfl, Nat.le_of_ble_eq_true rfl⟩ ⟨Nat.le_refl _, Nat.le_refl _⟩ (Nat.le_of_ble_eq_true rfl) rfl rfl ?_
                              refine lv_imul hx hb dL_rules_541 ?_
                              refine lv_bipush (v := 100) hx hb dL_rules_542 (by decide) ?_
                              refine lv_idiv hx hb dL_rules_544 (by decide) ?_
                              refine lv_iadd hx hb dL_rules_545 ?_
                              refine lv_goto (tgt := 550) hx hb dL_rules_546 (by decide) ?_
                              refine lv_icmp_ne (tgt := 572) hx hb dL_rules_550 (by decide) (fun c_550 => ?_) (fun c_550 => ?_)
                              · skip
                                exact absurd (ev) c_550
                              · skip
                                exact J553 _ hJ (lv_sub hl [0, 1, 2, 3, 4, 5, 6, 7, 8, 9, 10, 11, 12, 13, 14, 15, 16, 17, 18, 19, 20] rfl)
                  refine lv_aload_n hx hb dL_rules_432 rfl (lv_at hl 8 rfl) ?_
                  refine lv_iload hx hb dL_rules_433 (lv_at hl 19 rfl) ?_
                  refine lv_iconst (v := 4) hx hb dL_rules_435 (by decide) ?_
                  refine cr_L_24 C hJ (rest := []) (m_pair hE hXI hQ (P := i) hi1 rfl 4 (by decide) (b := 4) (by decide) (v := mm (i + 1) 6) rfl) dL_rules_436 hl.1 ⟨Nat.le_of_ble_eq_true rfl, Nat.le_of_ble_eq_true rfl⟩ ⟨Nat.le_refl _, Nat.le_refl _⟩ (Nat.le_of_ble_eq_true rfl) rfl rfl ?_
                  refine lv_iconst (v := 1) hx hb dL_rules_439 (by decide) ?_
                  refine lv_icmp_ne (tgt := 447) hx hb dL_rules_440 (by decide) (fun c_440 => ?_) (fun c_440 => ?_)
                  · skip
                    have f1 : mm (i + 1) 6 = 0 := (bit0 (hM.2 _ hi1) c_440).symm
                    refine lv_iload hx hb dL_rules_447 (lv_at hl 1 rfl) ?_
                    refine lv_if_eq (tgt := 456) hx hb dL_rules_449 (by decide) (fun c_449 => ?_) (fun c_449 => ?_)
                    · skip
                      have f2 : mm i 6 = 0 := ha.symm.trans c_449
                      refine lv_iload hx hb dL_rules_456 (lv_at hl 0 rfl) ?_
                      refine lv_if_eq (tgt := 465) hx hb dL_rules_458 (by decide) (fun c_458 => ?_) (fun c_458 => ?_)
                      · skip
                        have f3 : mfr n mm (i + 1) = 0 := he.symm.trans c_458
                        refine lv_iload hx hb dL_rules_465 (lv_at hl 3 rfl) ?_
                        refine lv_if_le (tgt := 474) hx hb dL_rules_467 (by decide) (fun c_467 => ?_) (fun c_467 => ?_)
                        · skip
                          have hq : (4 : Int32) = f_hind (gof n mm) (nI i) := by rw [hind_v hn hM hi1, if_pos f1, if_pos f2, if_pos f3, e2, if_neg (Int32.not_lt.mpr c_467)]
                          refine lv_iconst (v := 4) hx hb dL_rules_474 (by decide) ?_
                          exact J475 4 _ hq hJ (lv_sub hl [0, 1, 2, 3, 4, 5, 6, 7, 8, 9, 10, 11, 12, 13, 14, 15, 16, 17, 18, 19] rfl)
                        · skip
                          have hq : (0 : Int32) = f_hind (gof n mm) (nI i) := by rw [hind_v hn hM hi1, if_pos f1, if_pos f2, if_pos f3, e2, if_pos (Int32.not_le.mp c_467)]
                          refine lv_iconst (v := 0) hx hb dL_rules_470 (by decide) ?_
                          refine lv_goto (tgt := 475) hx hb dL_rules_471 (by decide) ?_
                          exact J475 0 _ hq hJ (lv_sub hl [0, 1, 2, 3, 4, 5, 6, 7, 8, 9, 10, 11, 12, 13, 14, 15, 16, 17, 18, 19] rfl)
                      · skip
                        have hq : (3 : Int32) = f_hind (gof n mm) (nI i) := by rw [hind_v hn hM hi1, if_pos f1, if_pos f2, if_neg (by rw [← he]; exact c_458)]
                        refine lv_iconst (v := 3) hx hb dL_rules_461 (by decide) ?_
                        refine lv_goto (tgt := 475) hx hb dL_rules_462 (by decide) ?_
                        exact J475 3 _ hq hJ (lv_sub hl [0, 1, 2, 3, 4, 5, 6, 7, 8, 9, 10, 11, 12, 13, 14, 15, 16, 17, 18, 19] rfl)
                    · skip
                      have hq : (2 : Int32) = f_hind (gof n mm) (nI i) := by rw [hind_v hn hM hi1, if_pos f1, if_neg (by rw [← ha]; exact c_449)]
                      refine lv_iconst (v := 2) hx hb dL_rules_452 (by decide) ?_
                      refine lv_goto (tgt := 475) hx hb dL_rules_453 (by decide) ?_
                      exact J475 2 _ hq hJ (lv_sub hl [0, 1, 2, 3, 4, 5, 6, 7, 8, 9, 10, 11, 12, 13, 14, 15, 16, 17, 18, 19] rfl)
                  · skip
                    have hq : (1 : Int32) = f_hind (gof n mm) (nI i) := by rw [hind_v hn hM hi1, if_neg (by rw [c_440]; decide)]
                    refine lv_iconst (v := 1) hx hb dL_rules_443 (by decide) ?_
                    refine lv_goto (tgt := 475) hx hb dL_rules_444 (by decide) ?_
                    exact J475 1 _ hq hJ (lv_sub hl [0, 1, 2, 3, 4, 5, 6, 7, 8, 9, 10, 11, 12, 13, 14, 15, 16, 17, 18, 19] rfl)
                refine lv_iload hx hb dL_rules_404 (lv_at hl 18 rfl) ?_
                refine lv_iconst (v := 2) hx hb dL_rules_406 (by decide) ?_
                refine lv_iadd hx hb dL_rules_407 ?_
                refine lv_iload_n hx hb dL_rules_408 rfl (lv_at hl 8 rfl) ?_
                refine lv_icmp_ge (tgt := 429) hx hb dL_rules_409 (by decide) (fun c_409 => ?_) (fun c_409 => ?_)
                · skip
                  have he : (0 : Int32) = mfr n mm (i + 1) := (mfr_far (by omega) hn c_409).symm
                  refine lv_iconst (v := 0) hx hb dL_rules_429 (by decide) ?_
                  exact J430 0 _ he hJ (lv_sub hl [0, 1, 2, 3, 4, 5, 6, 7, 8, 9, 10, 11, 12, 13, 14, 15, 16, 17, 18] rfl)
                · skip
                  have hi2 : i + 1 + 1 < n := mfr_near (by omega) hn c_409
                  have ef3 : mfr n mm (i + 1) = mm (i + 1 + 1) 6 := if_pos hi2
                  refine lv_aload_n hx hb dL_rules_412 rfl (lv_at hl 7 rfl) ?_
                  refine lv_iload hx hb dL_rules_413 (lv_at hl 18 rfl) ?_
                  refine lv_iconst (v := 1) hx hb dL_rules_415 (by decide) ?_
                  refine lv_iadd hx hb dL_rules_416 ?_
                  refine lv_iconst (v := 4) hx hb dL_rules_417 (by decide) ?_
                  refine cr_L_24 C hJ (rest := []) (m_pair hE hXI hQ (P := i + 1) hi2 (nI_1 i) 4 (by decide) (b := 4) (by decide) (v := mm (i + 1 + 1) 6) rfl) dL_rules_418 hl.1 ⟨Nat.le_of_ble_eq_true rfl, Nat.le_of_ble_eq_true rfl⟩ ⟨Nat.le_refl _, Nat.le_refl _⟩ (Nat.le_of_ble_eq_true rfl) rfl rfl ?_
                  refine lv_iconst (v := 1) hx hb dL_rules_421 (by decide) ?_
                  refine lv_icmp_ne (tgt := 429) hx hb dL_rules_422 (by decide) (fun c_422 => ?_) (fun c_422 => ?_)
                  · skip
                    have he : (0 : Int32) = mfr n mm (i + 1) := by rw [ef3]; exact bit0 (hM.2 _ hi2) c_422
                    refine lv_iconst (v := 0) hx hb dL_rules_429 (by decide) ?_
                    exact J430 0 _ he hJ (lv_sub hl [0, 1, 2, 3, 4, 5, 6, 7, 8, 9, 10, 11, 12, 13, 14, 15, 16, 17, 18] rfl)
                  · skip
                    have he : (1 : Int32) = mfr n mm (i + 1) := by rw [ef3]; exact c_422.symm
                    refine lv_iconst (v := 1) hx hb dL_rules_425 (by decide) ?_
                    refine lv_goto (tgt := 430) hx hb dL_rules_426 (by decide) ?_
                    exact J430 1 _ he hJ (lv_sub hl [0, 1, 2, 3, 4, 5, 6, 7, 8, 9, 10, 11, 12, 13, 14, 15, 16, 17, 18] rfl)
              refine lv_iload hx hb dL_rules_379 (lv_at hl 17 rfl) ?_
              refine lv_if_le (tgt := 401) hx hb dL_rules_381 (by decide) (fun c_381 => ?_) (fun c_381 => ?_)
              · skip
                have ha : (0 : Int32) = mm i 6 := by rw [lpp0 (by omega) c_381]; exact hM.1.symm
                refine lv_iconst (v := 0) hx hb dL_rules_401 (by decide) ?_
                exact J402 0 _ ha hJ (lv_sub hl [0, 1, 2, 3, 4, 5, 6, 7, 8, 9, 10, 11, 12, 13, 14, 15, 16, 17] rfl)
              · skip
                have h0i : 0 < i := lpp1 c_381
                have ei : i - 1 + 1 = i := by omega
                refine lv_aload_n hx hb dL_rules_384 rfl (lv_at hl 6 rfl) ?_
                refine lv_iload hx hb dL_rules_385 (lv_at hl 17 rfl) ?_
                refine lv_iconst (v := 1) hx hb dL_rules_387 (by decide) ?_
                refine lv_isub hx hb dL_rules_388 ?_
                refine lv_iconst (v := 4) hx hb dL_rules_389 (by decide) ?_
                refine cr_L_24 C hJ (rest := []) (m_pair hE hXI hQ (P := i - 1) (show i - 1 + 1 < n by omega) (nI_pd h0i) 4 (by decide) (b := 4) (by decide) (v := mm (i - 1 + 1) 6) rfl) dL_rules_390 hl.1 ⟨Nat.le_of_ble_eq_true rfl, Nat.le_of_ble_eq_true rfl⟩ ⟨Nat.le_refl _, Nat.le_refl _⟩ (Nat.le_of_ble_eq_true rfl) rfl rfl ?_
                refine lv_iconst (v := 1) hx hb dL_rules_393 (by decide) ?_
                refine lv_icmp_ne (tgt := 401) hx hb dL_rules_394 (by decide) (fun c_394 => ?_) (fun c_394 => ?_)
                · skip
                  have ha : (0 : Int32) = mm i 6 := bit0 (hM.2 i hlt) (by rw [ei] at c_394; exact c_394)
                  refine lv_iconst (v := 0) hx hb dL_rules_401 (by decide) ?_
                  exact J402 0 _ ha hJ (lv_sub hl [0, 1, 2, 3, 4, 5, 6, 7, 8, 9, 10, 11, 12, 13, 14, 15, 16, 17] rfl)
                · skip
                  have ha : (1 : Int32) = mm i 6 := by rw [ei] at c_394; exact c_394.symm
                  refine lv_iconst (v := 1) hx hb dL_rules_397 (by decide) ?_
                  refine lv_goto (tgt := 402) hx hb dL_rules_398 (by decide) ?_
                  exact J402 1 _ ha hJ (lv_sub hl [0, 1, 2, 3, 4, 5, 6, 7, 8, 9, 10, 11, 12, 13, 14, 15, 16, 17] rfl)
        exact lr (n + 1) 0 _ _ _ _ (Nat.zero_le _) (by omega) rfl rfl rfl hJ (lv_sub hl [4, 5, 7, 8, 9, 10, 11, 12, 3, 2, 1, 0] rfl)
      · skip
        have hlt : i < n := ltOfNle (by omega) c_31
        refine lv_aload_n hx hb dL_rules_34 rfl (lv_at hl 0 rfl) ?_
        refine lv_iload hx hb dL_rules_35 (lv_at hl 9 rfl) ?_
        refine cr_L_14 C hJ (rest := []) (m_at hE hXI hQ (P := i) hlt rfl) dL_rules_37 hl.1 ⟨Nat.le_of_ble_eq_true rfl, Nat.le_of_ble_eq_true rfl⟩ ⟨Nat.le_refl _, Nat.le_refl _⟩ (Nat.le_of_ble_eq_true rfl) rfl rfl ?_
        refine lv_istore (lv' := [(10, .int (mm i 0)), (0, .ref (gA E 83)), (1, .int (nI n)), (2, .int xw), (3, .int xc), (4, .int xt), (5, .int xb), (6, .int xd), (7, .int xo), (8, .int xf), (9, .int (nI i))]) hx hb dL_rules_40 hl (by decide) rfl (fun ls hl => ?_)
        refine lv_aload_n hx hb dL_rules_42 rfl (lv_at hl 1 rfl) ?_
        refine lv_iload hx hb dL_rules_43 (lv_at hl 0 rfl) ?_
        refine lv_iconst (v := 0) hx hb dL_rules_45 (by decide) ?_
        refine cr_L_17 C hJ (rest := []) (m_mem hE hXI hQ (P := i) hlt rfl 0 (by decide) (b := 0) (by decide) (v := nI i) rfl) dL_rules_46 hl.1 ⟨Nat.le_of_ble_eq_true rfl, Nat.le_of_ble_eq_true rfl⟩ ⟨Nat.le_refl _, Nat.le_refl _⟩ (Nat.le_of_ble_eq_true rfl) rfl rfl ?_
        refine lv_iload hx hb dL_rules_49 (lv_at hl 10 rfl) ?_
        refine lv_icmp_ne (tgt := 121) hx hb dL_rules_51 (by decide) (fun c_51 => ?_) (fun c_51 => ?_)
        · skip
          exact absurd (rfl) c_51
        · skip
          refine lv_aload_n hx hb dL_rules_54 rfl (lv_at hl 1 rfl) ?_
          refine lv_iload hx hb dL_rules_55 (lv_at hl 0 rfl) ?_
          refine lv_iconst (v := 4) hx hb dL_rules_57 (by decide) ?_
          refine cr_L_17 C hJ (rest := []) (m_mem hE hXI hQ (P := i) hlt rfl 4 (by decide) (b := 4) (by decide) (v := f_wait (gof n mm) i) rfl) dL_rules_58 hl.1 ⟨Nat.le_of_ble_eq_true rfl, Nat.le_of_ble_eq_true rfl⟩ ⟨Nat.le_refl _, Nat.le_refl _⟩ (Nat.le_of_ble_eq_true rfl) rfl rfl ?_
          refine lv_iload_n hx hb dL_rules_61 rfl (lv_at hl 3 rfl) ?_
          refine lv_icmp_ne (tgt := 121) hx hb dL_rules_62 (by decide) (fun c_62 => ?_) (fun c_62 => ?_)
          · skip
            exact absurd (ew.symm) c_62
          · skip
            refine lv_aload_n hx hb dL_rules_65 rfl (lv_at hl 1 rfl) ?_
            refine lv_iload hx hb dL_rules_66 (lv_at hl 0 rfl) ?_
            refine lv_iconst (v := 5) hx hb dL_rules_68 (by decide) ?_
            refine cr_L_17 C hJ (rest := []) (m_mem hE hXI hQ (P := i) hlt rfl 5 (by decide) (b := 5) (by decide) (v := mm i 1 * f_wait (gof n mm) i) rfl) dL_rules_69 hl.1 ⟨Nat.le_of_ble_eq_true rfl, Nat.le_of_ble_eq_true rfl⟩ ⟨Nat.le_refl _, Nat.le_refl _⟩ (Nat.le_of_ble_eq_true rfl) rfl rfl ?_
            refine lv_iload_n hx hb dL_rules_72 rfl (lv_at hl 3 rfl) ?_
            refine lv_aload_n hx hb dL_rules_73 rfl (lv_at hl 1 rfl) ?_
            refine lv_iload hx hb dL_rules_74 (lv_at hl 0 rfl) ?_
            refine lv_iconst (v := 1) hx hb dL_rules_76 (by decide) ?_
            refine cr_L_17 C hJ (rest := [.int xw, .int (mm i 1 * f_wait (gof n mm) i)]) (m_mem hE hXI hQ (P := i) hlt rfl 1 (by decide) (b := 1) (by decide) (v := mm i 1) rfl) dL_rules_77 hl.1 ⟨Nat.le_of_ble_eq_true rfl, Nat.le_of_ble_eq_true rfl⟩ ⟨Nat.le_refl _, Nat.le_refl _⟩ (Nat.le_of_ble_eq_true rfl) rfl rfl ?_
            refine lv_imul hx hb dL_rules_80 ?_
            refine lv_icmp_ne (tgt := 121) hx hb dL_rules_81 (by decide) (fun c_81 => ?_) (fun c_81 => ?_)
            · skip
              exact absurd (by rw [ew, Int32.mul_comm]) c_81
            · skip
              have J123 : ∀  (ls : Array Slot), JJ E S s.heap [] → lv_has ls 22 [(10, .int (mm i 0)), (0, .ref (gA E 83)), (1, .int (nI n)), (2, .int xw), (3, .int xc), (4, .int xt), (5, .int xb), (6, .int xd), (7, .int xo), (8, .int xf), (9, .int (nI i))] → W p l e (rmZ 7 151) s m ([.ref (gA E 83)] : List Value).toArray below meth c s.heap [] 0 0 (WQ below ([.ref (gA E 83)] : List Value).toArray s E (fun v S1 => v = some (.int 1) ∧ XI S1 (n, z, mm) mc sv ∧ S1.2 = S.2)) (F0 m 123 ls []) := by
                intro  ls  hJ hl
                refine lv_iconst (v := 0) hx hb dL_rules_123 (by decide) ?_
                refine lv_istore (lv' := [(11, .int 0), (10, .int (mm i 0)), (0, .ref (gA E 83)), (1, .int (nI n)), (2, .int xw), (3, .int xc), (4, .int xt), (5, .int xb), (6, .int xd), (7, .int xo), (8, .int xf), (9, .int (nI i))]) hx hb dL_rules_124 hl (by decide) rfl (fun ls hl => ?_)
                have lq : ∀ (d : Nat) (j : Nat) (yb yd : Int32) (ls : Array Slot), (j ≤ i) → (i < j + d) → (yb = xb + sI (fun a => imin (f_wc (gof n mm) (nI a) (nI i)) (f_wc (gof n mm) (nI i) (nI a))) j) → (yd = xd + sI (fun a => if f_wc (gof n mm) (nI a) (nI i) ≤ f_wc (gof n mm) (nI i) (nI a) then 0 else 1) j) → JJ E S s.heap [] → lv_has ls 22 [(0, .ref (gA E 83)), (1, .int (nI n)), (2, .int xw), (3, .int xc), (4, .int xt), (5, .int yb), (6, .int yd), (7, .int xo), (8, .int xf), (9, .int (nI i)), (10, .int (mm i 0)), (11, .int (nI j))] → W p l e (rmZ 7 151) s m ([.ref (gA E 83)] : List Value).toArray below meth c s.heap [] 0 0 (WQ below ([.ref (gA E 83)] : List Value).toArray s E (fun v S1 => v = some (.int 1) ∧ XI S1 (n, z, mm) mc sv ∧ S1.2 = S.2)) (F0 m 126 ls []) := by
                  intro d
                  induction d with
                  | zero =>
                    intro j yb yd ls hj hd2 eyb eyd hJ hl
                    omega
                  | succ d ih_lq =>
                    intro j yb yd ls hj hd2 eyb eyd hJ hl
                    refine lv_iload hx hb dL_rules_126 (lv_at hl 11 rfl) ?_
                    refine lv_iload hx hb dL_rules_128 (lv_at hl 9 rfl) ?_
                    refine lv_icmp_ge (tgt := 217) hx hb dL_rules_130 (by decide) (fun c_130 => ?_) (fun c_130 => ?_)
                    · skip
                      have e8 : j = i := eqOfLe hj (by omega) c_130
                      have eb2 : yb = sI (fun b => sI (fun a => imin (f_wc (gof n mm) (nI a) (nI b)) (f_wc (gof n mm) (nI b) (nI a))) b) (i + 1) := by rw [eyb, e8, eb]; rfl
                      have ed2 : yd = sI (fun b => sI (fun a => if f_wc (gof n mm) (nI a) (nI b) ≤ f_wc (gof n mm) (nI b) (nI a) then 0 else 1) b) (i + 1) := by rw [eyd, e8, ed]; rfl
                      refine lv_iload_n hx hb dL_rules_217 rfl (lv_at hl 3 rfl) ?_
                      refine lv_aload_n hx hb dL_rules_218 rfl (lv_at hl 0 rfl) ?_
                      refine lv_iload hx hb dL_rules_219 (lv_at hl 10 rfl) ?_
                      refine lv_iconst (v := 5) hx hb dL_rules_221 (by decide) ?_
                      refine cr_L_17 C hJ (rest := [.int xc]) (m_mem hE hXI hQ (P := i) hlt rfl 5 (by decide) (b := 5) (by decide) (v := mm i 1 * f_wait (gof n mm) i) rfl) dL_rules_222 hl.1 ⟨Nat.le_of_ble_eq_true rfl, Nat.le_of_ble_eq_true rfl⟩ ⟨Nat.le_refl _, Nat.le_refl _⟩ (Nat.le_of_ble_eq_true rfl) rfl rfl ?_
                      refine lv_iadd hx hb dL_rules_225 ?_
                      refine lv_istore_n (lv' := [(3, .int (xc + (mm i 1 * f_wait (gof n mm) i))), (0, .ref (gA E 83)), (1, .int (nI n)), (2, .int xw), (4, .int xt), (5, .int yb), (6, .int yd), (7, .int xo), (8, .int xf), (9, .int (nI i)), (10, .int (mm i 0)), (11, .int (nI j))]) hx hb dL_rules_226 rfl hl (by decide) rfl (fun ls hl => ?_)
                      refine lv_iload hx hb dL_rules_227 (lv_at hl 4 rfl) ?_
                      refine lv_iload_n hx hb dL_rules_229 rfl (lv_at hl 3 rfl) ?_
                      refine lv_aload_n hx hb dL_rules_230 rfl (lv_at hl 1 rfl) ?_
                      refine lv_iload hx hb dL_rules_231 (lv_at hl 10 rfl) ?_
                      refine lv_iconst (v := 2) hx hb dL_rules_233 (by decide) ?_
                      refine cr_L_17 C hJ (rest := [.int xw, .int xt]) (m_mem hE hXI hQ (P := i) hlt rfl 2 (by decide) (b := 2) (by decide) (v := mm i 2) rfl) dL_rules_234 hl.1 ⟨Nat.le_of_ble_eq_true rfl, Nat.le_of_ble_eq_true rfl⟩ ⟨Nat.le_refl _, Nat.le_refl _⟩ (Nat.le_of_ble_eq_true rfl) rfl rfl ?_
                      refine lv_imul hx hb dL_rules_237 ?_
                      refine lv_iadd hx hb dL_rules_238 ?_
                      refine lv_istore (lv' := [(4, .int (xt + (xw * (mm i 2)))), (3, .int (xc + (mm i 1 * f_wait (gof n mm) i))), (0, .ref (gA E 83)), (1, .int (nI n)), (2, .int xw), (5, .int yb), (6, .int yd), (7, .int xo), (8, .int xf), (9, .int (nI i)), (10, .int (mm i 0)), (11, .int (nI j))]) hx hb dL_rules_239 hl (by decide) rfl (fun ls hl => ?_)
                      refine lv_iload_n hx hb dL_rules_241 rfl (lv_at hl 4 rfl) ?_
                      refine lv_aload_n hx hb dL_rules_242 rfl (lv_at hl 2 rfl) ?_
                      refine lv_iload hx hb dL_rules_243 (lv_at hl 10 rfl) ?_
                      refine lv_iconst (v := 3) hx hb dL_rules_245 (by decide) ?_
                      refine cr_L_17 C hJ (rest := [.int xw]) (m_mem hE hXI hQ (P := i) hlt rfl 3 (by decide) (b := 3) (by decide) (v := mm i 3) rfl) dL_rules_246 hl.1 ⟨Nat.le_of_ble_eq_true rfl, Nat.le_of_ble_eq_true rfl⟩ ⟨Nat.le_refl _, Nat.le_refl _⟩ (Nat.le_of_ble_eq_true rfl) rfl rfl ?_
                      refine lv_iadd hx hb dL_rules_249 ?_
                      refine lv_istore_n (lv' := [(2, .int (xw + (mm i 3))), (4, .int (xt + (xw * (mm i 2)))), (3, .int (xc + (mm i 1 * f_wait (gof n mm) i))), (0, .ref (gA E 83)), (1, .int (nI n)), (5, .int yb), (6, .int yd), (7, .int xo), (8, .int xf), (9, .int (nI i)), (10, .int (mm i 0)), (11, .int (nI j))]) hx hb dL_rules_250 rfl hl (by decide) rfl (fun ls hl => ?_)
                      refine lv_iload hx hb dL_rules_251 (lv_at hl 7 rfl) ?_
                      have J270 : ∀ (v3 : Int32) (ls : Array Slot), (v3 = if (gof n mm) (nI i) 5 = -1 then 0 else 1) → JJ E S s.heap [] → lv_has ls 22 [(2, .int (xw + (mm i 3))), (4, .int (xt + (xw * (mm i 2)))), (3, .int (xc + (mm i 1 * f_wait (gof n mm) i))), (0, .ref (gA E 83)), (1, .int (nI n)), (5, .int yb), (6, .int yd), (7, .int xo), (8, .int xf), (9, .int (nI i)), (10, .int (mm i 0)), (11, .int (nI j))] → W p l e (rmZ 7 151) s m ([.ref (gA E 83)] : List Value).toArray below meth c s.heap [] 0 0 (WQ below ([.ref (gA E 83)] : List Value).toArray s E (fun v S1 => v = some (.int 1) ∧ XI S1 (n, z, mm) mc sv ∧ S1.2 = S.2)) (F0 m 270 ls [.int v3, .int xo]) := by
                        intro v3 ls hv3 hJ hl
                        refine lv_iadd hx hb dL_rules_270 ?_
                        refine lv_istore (lv' := [(7, .int (xo + v3)), (2, .int (xw + (mm i 3))), (4, .int (xt + (xw * (mm i 2)))), (3, .int (xc + (mm i 1 * f_wait (gof n mm) i))), (0, .ref (gA E 83)), (1, .int (nI n)), (5, .int yb), (6, .int yd), (8, .int xf), (9, .int (nI i)), (10, .int (mm i 0)), (11, .int (nI j))]) hx hb dL_rules_271 hl (by decide) rfl (fun ls hl => ?_)
                        refine lv_iload hx hb dL_rules_273 (lv_at hl 8 rfl) ?_
                        refine lv_aload_n hx hb dL_rules_275 rfl (lv_at hl 4 rfl) ?_
                        refine lv_iload hx hb dL_rules_276 (lv_at hl 10 rfl) ?_
                        refine lv_bipush (v := 9) hx hb dL_rules_278 (by decide) ?_
                        refine cr_L_17 C hJ (rest := [.int xf]) (m_mem hE hXI hQ (P := i) hlt rfl 9 (by decide) (b := 9) (by decide) (v := f_frn (gof n mm) (nI i)) rfl) dL_rules_280 hl.1 ⟨Nat.le_of_ble_eq_true rfl, Nat.le_of_ble_eq_true rfl⟩ ⟨Nat.le_refl _, Nat.le_refl _⟩ (Nat.le_of_ble_eq_true rfl) rfl rfl ?_
                        refine lv_iadd hx hb dL_rules_283 ?_
                        refine lv_istore (lv' := [(8, .int (xf + (f_frn (gof n mm) (nI i)))), (7, .int (xo + v3)), (2, .int (xw + (mm i 3))), (4, .int (xt + (xw * (mm i 2)))), (3, .int (xc + (mm i 1 * f_wait (gof n mm) i))), (0, .ref (gA E 83)), (1, .int (nI n)), (5, .int yb), (6, .int yd), (9, .int (nI i)), (10, .int (mm i 0)), (11, .int (nI j))]) hx hb dL_rules_284 hl (by decide) rfl (fun ls hl => ?_)
                        have ew2 : xw + mm i 3 = f_wait (gof n mm) (i + 1) := sI_u (f := fun j => (gof n mm) (nI j) 3) ew (g_in hn hlt 3)
                        have ec2 : xc + mm i 1 * f_wait (gof n mm) i = sI (fun P => f_cost (gof n mm) P) (i + 1) := sI_u ec (by show f_cost (gof n mm) i = _; unfold f_cost; rw [g_in hn hlt])
                        have et2 : xt + xw * mm i 2 = sI (fun P => (gof n mm) (nI P) 2 * f_wait (gof n mm) P) (i + 1) := sI_u et (by show (gof n mm) (nI i) 2 * f_wait (gof n mm) i = _; rw [g_in hn hlt, ew, Int32.mul_comm])
                        have eo2 : xo + v3 = sI (fun j => if (gof n mm) (nI j) 5 = -1 then 0 else 1) (i + 1) := sI_u eo hv3.symm
                        have ef2 : xf + f_frn (gof n mm) (nI i) = sI (fun j => f_frn (gof n mm) (nI j)) (i + 1) := sI_u ef rfl
                        refine lv_iinc (v := nI (i + 1)) (lv' := [(9, .int (nI (i + 1))), (8, .int (xf + (f_frn (gof n mm) (nI i)))), (7, .int (xo + v3)), (2, .int (xw + (mm i 3))), (4, .int (xt + (xw * (mm i 2)))), (3, .int (xc + (mm i 1 * f_wait (gof n mm) i))), (0, .ref (gA E 83)), (1, .int (nI n)), (5, .int yb), (6, .int yd), (10, .int (mm i 0)), (11, .int (nI j))]) hx hb dL_rules_286 hl (k := 9) rfl (by exact nI_1 i) (by decide) rfl (fun ls hl => ?_)
                        refine lv_goto (tgt := 28) hx hb dL_rules_289 (by decide) ?_
                        exact ih_lp (i + 1) _ _ _ _ _ _ _ _ (by omega) (by omega) ew2 ec2 et2 eb2 ed2 eo2 ef2 hJ (lv_sub hl [6, 7, 3, 5, 4, 8, 9, 2, 1, 0] rfl)
                      refine lv_aload_n hx hb dL_rules_253 rfl (lv_at hl 3 rfl) ?_
                      refine lv_iload hx hb dL_rules_254 (lv_at hl 10 rfl) ?_
                      refine lv_bipush (v := 7) hx hb dL_rules_256 (by decide) ?_
                      refine cr_L_17 C hJ (rest := [.int xo]) (m_mem hE hXI hQ (P := i) hlt rfl 7 (by decide) (b := 7) (by decide) (v := mm i 5) rfl) dL_rules_258 hl.1 ⟨Nat.le_of_ble_eq_true rfl, Nat.le_of_ble_eq_true rfl⟩ ⟨Nat.le_refl _, Nat.le_refl _⟩ (Nat.le_of_ble_eq_true rfl) rfl rfl ?_
                      refine lv_iconst (v := (-1)) hx hb dL_rules_261 (by decide) ?_
                      refine lv_icmp_eq (tgt := 269) hx hb dL_rules_262 (by decide) (fun c_262 => ?_) (fun c_262 => ?_)
                      · skip
                        have hv3 : (0 : Int32) = if (gof n mm) (nI i) 5 = -1 then 0 else 1 := by rw [g_in hn hlt, if_pos c_262]
                        refine lv_iconst (v := 0) hx hb dL_rules_269 (by decide) ?_
                        exact J270 0 _ hv3 hJ (lv_sub hl [0, 1, 2, 3, 4, 5, 6, 7, 8, 9, 10, 11] rfl)
                      · skip
                        have hv3 : (1 : Int32) = if (gof n mm) (nI i) 5 = -1 then 0 else 1 := by rw [g_in hn hlt, if_neg c_262]
                        refine lv_iconst (v := 1) hx hb dL_rules_265 (by decide) ?_
                        refine lv_goto (tgt := 270) hx hb dL_rules_266 (by decide) ?_
                        exact J270 1 _ hv3 hJ (lv_sub hl [0, 1, 2, 3, 4, 5, 6, 7, 8, 9, 10, 11] rfl)
                    · skip
                      have hjl : j < i := ltOfNle (by omega) c_130
                      have hjn : j < n := by omega
                      refine lv_aload_n hx hb dL_rules_133 rfl (lv_at hl 0 rfl) ?_
                      refine lv_iload hx hb dL_rules_134 (lv_at hl 11 rfl) ?_
                      refine cr_L_14 C hJ (rest := []) (m_at hE hXI hQ (P := j) hjn rfl) dL_rules_136 hl.1 ⟨Nat.le_of_ble_eq_true rfl, Nat.le_of_ble_eq_true rfl⟩ ⟨Nat.le_refl _, Nat.le_refl _⟩ (Nat.le_of_ble_eq_true rfl) rfl rfl ?_
                      refine lv_istore (lv' := [(12, .int (mm j 0)), (0, .ref (gA E 83)), (1, .int (nI n)), (2, .int xw), (3, .int xc), (4, .int xt), (5, .int yb), (6, .int yd), (7, .int xo), (8, .int xf), (9, .int (nI i)), (10, .int (mm i 0)), (11, .int (nI j))]) hx hb dL_rules_139 hl (by decide) rfl (fun ls hl => ?_)
                      refine lv_aload_n hx hb dL_rules_141 rfl (lv_at hl 1 rfl) ?_
                      refine lv_iload hx hb dL_rules_142 (lv_at hl 11 rfl) ?_
                      refine lv_iconst (v := 1) hx hb dL_rules_144 (by decide) ?_
                      refine cr_L_17 C hJ (rest := []) (m_mem hE hXI hQ (P := i) hlt rfl 1 (by decide) (b := 1) (by decide) (v := mm i 1) rfl) dL_rules_145 hl.1 ⟨Nat.le_of_ble_eq_true rfl, Nat.le_of_ble_eq_true rfl⟩ ⟨Nat.le_refl _, Nat.le_refl _⟩ (Nat.le_of_ble_eq_true rfl) rfl rfl ?_
                      refine lv_aload_n hx hb dL_rules_148 rfl (lv_at hl 1 rfl) ?_
                      refine lv_iload hx hb dL_rules_149 (lv_at hl 0 rfl) ?_
                      refine lv_iconst (v := 3) hx hb dL_rules_151 (by decide) ?_
                      refine cr_L_17 C hJ (rest := [.int (mm i 1)]) (m_mem hE hXI hQ (P := j) hjn rfl 3 (by decide) (b := 3) (by decide) (v := mm j 3) rfl) dL_rules_152 hl.1 ⟨Nat.le_of_ble_eq_true rfl, Nat.le_of_ble_eq_true rfl⟩ ⟨Nat.le_refl _, Nat.le_refl _⟩ (Nat.le_of_ble_eq_true rfl) rfl rfl ?_
                      refine lv_imul hx hb dL_rules_155 ?_
                      obtain ⟨y1, ey1⟩ : ∃ z : Int32, z = (mm i 1) * (mm j 3) := ⟨_, rfl⟩
                      rw [← ey1]
                      refine lv_istore (lv' := [(13, .int y1), (12, .int (mm j 0)), (0, .ref (gA E 83)), (1, .int (nI n)), (2, .int xw), (3, .int xc), (4, .int xt), (5, .int yb), (6, .int yd), (7, .int xo), (8, .int xf), (9, .int (nI i)), (10, .int (mm i 0)), (11, .int (nI j))]) hx hb dL_rules_156 hl (by decide) rfl (fun ls hl => ?_)
                      refine lv_aload_n hx hb dL_rules_158 rfl (lv_at hl 2 rfl) ?_
                      refine lv_iload hx hb dL_rules_159 (lv_at hl 1 rfl) ?_
                      refine lv_iconst (v := 1) hx hb dL_rules_161 (by decide) ?_
                      refine cr_L_17 C hJ (rest := []) (m_mem hE hXI hQ (P := j) hjn rfl 1 (by decide) (b := 1) (by decide) (v := mm j 1) rfl) dL_rules_162 hl.1 ⟨Nat.le_of_ble_eq_true rfl, Nat.le_of_ble_eq_true rfl⟩ ⟨Nat.le_refl _, Nat.le_refl _⟩ (Nat.le_of_ble_eq_true rfl) rfl rfl ?_
                      refine lv_aload_n hx hb dL_rules_165 rfl (lv_at hl 2 rfl) ?_
                      refine lv_iload hx hb dL_rules_166 (lv_at hl 12 rfl) ?_
                      refine lv_iconst (v := 3) hx hb dL_rules_168 (by decide) ?_
                      refine cr_L_17 C hJ (rest := [.int (mm j 1)]) (m_mem hE hXI hQ (P := i) hlt rfl 3 (by decide) (b := 3) (by decide) (v := mm i 3) rfl) dL_rules_169 hl.1 ⟨Nat.le_of_ble_eq_true rfl, Nat.le_of_ble_eq_true rfl⟩ ⟨Nat.le_refl _, Nat.le_refl _⟩ (Nat.le_of_ble_eq_true rfl) rfl rfl ?_
                      refine lv_imul hx hb dL_rules_172 ?_
                      obtain ⟨y2, ey2⟩ : ∃ z : Int32, z = (mm j 1) * (mm i 3) := ⟨_, rfl⟩
                      rw [← ey2]
                      refine lv_istore (lv' := [(14, .int y2), (13, .int y1), (12, .int (mm j 0)), (0, .ref (gA E 83)), (1, .int (nI n)), (2, .int xw), (3, .int xc), (4, .int xt), (5, .int yb), (6, .int yd), (7, .int xo), (8, .int xf), (9, .int (nI i)), (10, .int (mm i 0)), (11, .int (nI j))]) hx hb dL_rules_173 hl (by decide) rfl (fun ls hl => ?_)
                      have w1 : f_wc (gof n mm) (nI j) (nI i) = y1 := by unfold f_wc; rw [g_in hn hlt, g_in hn hjn, ey1]
                      have w2 : f_wc (gof n mm) (nI i) (nI j) = y2 := by unfold f_wc; rw [g_in hn hlt, g_in hn hjn, ey2]
                      refine lv_iload hx hb dL_rules_175 (lv_at hl 8 rfl) ?_
                      have J191 : ∀ (v : Int32) (ls : Array Slot), (v = imin y1 y2) → JJ E S s.heap [] → lv_has ls 22 [(14, .int y2), (13, .int y1), (12, .int (mm j 0)), (0, .ref (gA E 83)), (1, .int (nI n)), (2, .int xw), (3, .int xc), (4, .int xt), (5, .int yb), (6, .int yd), (7, .int xo), (8, .int xf), (9, .int (nI i)), (10, .int (mm i 0)), (11, .int (nI j))] → W p l e (rmZ 7 151) s m ([.ref (gA E 83)] : List Value).toArray below meth c s.heap [] 0 0 (WQ below ([.ref (gA E 83)] : List Value).toArray s E (fun v S1 => v = some (.int 1) ∧ XI S1 (n, z, mm) mc sv ∧ S1.2 = S.2)) (F0 m 191 ls [.int v, .int yb]) := by
                        intro v ls hv hJ hl
                        refine lv_iadd hx hb dL_rules_191 ?_
                        refine lv_istore (lv' := [(5, .int (yb + v)), (14, .int y2), (13, .int y1), (12, .int (mm j 0)), (0, .ref (gA E 83)), (1, .int (nI n)), (2, .int xw), (3, .int xc), (4, .int xt), (6, .int yd), (7, .int xo), (8, .int xf), (9, .int (nI i)), (10, .int (mm i 0)), (11, .int (nI j))]) hx hb dL_rules_192 hl (by decide) rfl (fun ls hl => ?_)
                        refine lv_iload hx hb dL_rules_194 (lv_at hl 9 rfl) ?_
                        have J208 : ∀ (v2 : Int32) (ls : Array Slot), (v2 = if y1 ≤ y2 then 0 else 1) → JJ E S s.heap [] → lv_has ls 22 [(5, .int (yb + v)), (14, .int y2), (13, .int y1), (12, .int (mm j 0)), (0, .ref (gA E 83)), (1, .int (nI n)), (2, .int xw), (3, .int xc), (4, .int xt), (6, .int yd), (7, .int xo), (8, .int xf), (9, .int (nI i)), (10, .int (mm i 0)), (11, .int (nI j))] → W p l e (rmZ 7 151) s m ([.ref (gA E 83)] : List Value).toArray below meth c s.heap [] 0 0 (WQ below ([.ref (gA E 83)] : List Value).toArray s E (fun v S1 => v = some (.int 1) ∧ XI S1 (n, z, mm) mc sv ∧ S1.2 = S.2)) (F0 m 208 ls [.int v2, .int yd]) := by
                          intro v2 ls hv2 hJ hl
                          refine lv_iadd hx hb dL_rules_208 ?_
                          refine lv_istore (lv' := [(6, .int (yd + v2)), (5, .int (yb + v)), (14, .int y2), (13, .int y1), (12, .int (mm j 0)), (0, .ref (gA E 83)), (1, .int (nI n)), (2, .int xw), (3, .int xc), (4, .int xt), (7, .int xo), (8, .int xf), (9, .int (nI i)), (10, .int (mm i 0)), (11, .int (nI j))]) hx hb dL_rules_209 hl (by decide) rfl (fun ls hl => ?_)
                          have eyb2 : yb + v = xb + sI (fun a => imin (f_wc (gof n mm) (nI a) (nI i)) (f_wc (gof n mm) (nI i) (nI a))) (j + 1) := sI_t eyb (by show imin (f_wc (gof n mm) (nI j) (nI i)) (f_wc (gof n mm) (nI i) (nI j)) = v; rw [w1, w2, hv])
                          have eyd2 : yd + v2 = xd + sI (fun a => if f_wc (gof n mm) (nI a) (nI i) ≤ f_wc (gof n mm) (nI i) (nI a) then 0 else 1) (j + 1) := sI_t eyd (by show (if f_wc (gof n mm) (nI j) (nI i) ≤ f_wc (gof n mm) (nI i) (nI j) then (0 : Int32) else 1) = v2; rw [w1, w2, hv2])
                          refine lv_iinc (v := nI (j + 1)) (lv' := [(11, .int (nI (j + 1))), (6, .int (yd + v2)), (5, .int (yb + v)), (14, .int y2), (13, .int y1), (12, .int (mm j 0)), (0, .ref (gA E 83)), (1, .int (nI n)), (2, .int xw), (3, .int xc), (4, .int xt), (7, .int xo), (8, .int xf), (9, .int (nI i)), (10, .int (mm i 0))]) hx hb dL_rules_211 hl (k := 14) rfl (by exact nI_1 j) (by decide) rfl (fun ls hl => ?_)
                          refine lv_goto (tgt := 126) hx hb dL_rules_214 (by decide) ?_
                          exact ih_lq (j + 1) _ _ _ (by omega) (by omega) eyb2 eyd2 hJ (lv_sub hl [6, 7, 8, 9, 10, 2, 1, 11, 12, 13, 14, 0] rfl)
                        refine lv_iload hx hb dL_rules_196 (lv_at hl 2 rfl) ?_
                        refine lv_iload hx hb dL_rules_198 (lv_at hl 1 rfl) ?_
                        refine lv_icmp_le (tgt := 207) hx hb dL_rules_200 (by decide) (fun c_200 => ?_) (fun c_200 => ?_)
                        · skip
                          have hv2 : (0 : Int32) = if y1 ≤ y2 then 0 else 1 := by rw [if_pos c_200]
                          refine lv_iconst (v := 0) hx hb dL_rules_207 (by decide) ?_
                          exact J208 0 _ hv2 hJ (lv_sub hl [0, 1, 2, 3, 4, 5, 6, 7, 8, 9, 10, 11, 12, 13, 14] rfl)
                        · skip
                          have hv2 : (1 : Int32) = if y1 ≤ y2 then 0 else 1 := by rw [if_neg c_200]
                          refine lv_iconst (v := 1) hx hb dL_rules_203 (by decide) ?_
                          refine lv_goto (tgt := 208) hx hb dL_rules_204 (by decide) ?_
                          exact J208 1 _ hv2 hJ (lv_sub hl [0, 1, 2, 3, 4, 5, 6, 7, 8, 9, 10, 11, 12, 13, 14] rfl)
                      refine lv_iload hx hb dL_rules_177 (lv_at hl 1 rfl) ?_
                      refine lv_iload hx hb dL_rules_179 (lv_at hl 0 rfl) ?_
                      refine lv_icmp_ge (tgt := 189) hx hb dL_rules_181 (by decide) (fun c_181 => ?_) (fun c_181 => ?_)
                      · skip
                        have hv : y2 = imin y1 y2 := imin_ge c_181
                        refine lv_iload hx hb dL_rules_189 (lv_at hl 0 rfl) ?_
                        exact J191 y2 _ hv hJ (lv_sub hl [0, 1, 2, 3, 4, 5, 6, 7, 8, 9, 10, 11, 12, 13, 14] rfl)
                      · skip
                        have hv : y1 = imin y1 y2 := imin_lt c_181
                        refine lv_iload hx hb dL_rules_184 (lv_at hl 1 rfl) ?_
                        refine lv_goto (tgt := 191) hx hb dL_rules_186 (by decide) ?_
                        exact J191 y1 _ hv hJ (lv_sub hl [0, 1, 2, 3, 4, 5, 6, 7, 8, 9, 10, 11, 12, 13, 14] rfl)
                exact lq (i + 1) 0 _ _ _ (Nat.zero_le _) (by omega) (Int32.add_zero _).symm (Int32.add_zero _).symm hJ (lv_sub hl [2, 3, 4, 5, 6, 7, 8, 9, 10, 11, 1, 0] rfl)
              have J101 : ∀  (ls : Array Slot), JJ E S s.heap [] → lv_has ls 22 [(10, .int (mm i 0)), (0, .ref (gA E 83)), (1, .int (nI n)), (2, .int xw), (3, .int xc), (4, .int xt), (5, .int xb), (6, .int xd), (7, .int xo), (8, .int xf), (9, .int (nI i))] → W p l e (rmZ 7 151) s m ([.ref (gA E 83)] : List Value).toArray below meth c s.heap [] 0 0 (WQ below ([.ref (gA E 83)] : List Value).toArray s E (fun v S1 => v = some (.int 1) ∧ XI S1 (n, z, mm) mc sv ∧ S1.2 = S.2)) (F0 m 101 ls []) := by
                intro  ls  hJ hl
                refine lv_iload hx hb dL_rules_101 (lv_at hl 10 rfl) ?_
                refine lv_iload_n hx hb dL_rules_103 rfl (lv_at hl 2 rfl) ?_
                refine lv_iconst (v := 1) hx hb dL_rules_104 (by decide) ?_
                refine lv_isub hx hb dL_rules_105 ?_
                refine lv_icmp_ne (tgt := 123) hx hb dL_rules_106 (by decide) (fun c_106 => ?_) (fun c_106 => ?_)
                · skip
                  exact J123 _ hJ (lv_sub hl [0, 1, 2, 3, 4, 5, 6, 7, 8, 9, 10] rfl)
                · skip
                  have e1 : i + 1 = n := lastm hn hlt c_106
                  refine lv_aload_n hx hb dL_rules_109 rfl (lv_at hl 1 rfl) ?_
                  refine lv_iload hx hb dL_rules_110 (lv_at hl 0 rfl) ?_
                  refine lv_bipush (v := 8) hx hb dL_rules_112 (by decide) ?_
                  refine cr_L_17 C hJ (rest := []) (m_mem hE hXI hQ (P := i) hlt rfl 8 (by decide) (b := 8) (by decide) (v := gof n mm (nI i + 1) 5) rfl) dL_rules_114 hl.1 ⟨Nat.le_of_ble_eq_true rfl, Nat.le_of_ble_eq_true rfl⟩ ⟨Nat.le_refl _, Nat.le_refl _⟩ (Nat.le_of_ble_eq_true rfl) rfl rfl ?_
                  refine lv_iconst (v := (-1)) hx hb dL_rules_117 (by decide) ?_
                  refine lv_icmp_eq (tgt := 123) hx hb dL_rules_118 (by decide) (fun c_118 => ?_) (fun c_118 => ?_)
                  · skip
                    exact J123 _ hJ (lv_sub hl [0, 1, 2, 3, 4, 5, 6, 7, 8, 9, 10] rfl)
                  · skip
                    exact absurd (far5 hn e1) c_118
              refine lv_iload hx hb dL_rules_84 (lv_at hl 10 rfl) ?_
              refine lv_if_ne (tgt := 101) hx hb dL_rules_86 (by decide) (fun c_86 => ?_) (fun c_86 => ?_)
              · skip
                exact J101 _ hJ (lv_sub hl [0, 1, 2, 3, 4, 5, 6, 7, 8, 9, 10] rfl)
              · skip
                have e0 : i = 0 := eq0 (by omega) c_86
                have o0 : mm i 5 = -1 := by rw [e0]; exact hQ.2.2.2.1 (show 0 < n by omega)
                refine lv_aload_n hx hb dL_rules_89 rfl (lv_at hl 1 rfl) ?_
                refine lv_iload hx hb dL_rules_90 (lv_at hl 0 rfl) ?_
                refine lv_bipush (v := 7) hx hb dL_rules_92 (by decide) ?_
                refine cr_L_17 C hJ (rest := []) (m_mem hE hXI hQ (P := i) hlt rfl 7 (by decide) (b := 7) (by decide) (v := mm i 5) rfl) dL_rules_94 hl.1 ⟨Nat.le_of_ble_eq_true rfl, Nat.le_of_ble_eq_true rfl⟩ ⟨Nat.le_refl _, Nat.le_refl _⟩ (Nat.le_of_ble_eq_true rfl) rfl rfl ?_
                refine lv_iconst (v := (-1)) hx hb dL_rules_97 (by decide) ?_
                refine lv_icmp_ne (tgt := 121) hx hb dL_rules_98 (by decide) (fun c_98 => ?_) (fun c_98 => ?_)
                · skip
                  exact absurd (o0) c_98
                · skip
                  exact J101 _ hJ (lv_sub hl [0, 1, 2, 3, 4, 5, 6, 7, 8, 9, 10] rfl)
  exact lp (n + 1) 0 _ _ _ _ _ _ _ _ (Nat.zero_le _) (by omega) rfl rfl rfl rfl rfl rfl rfl hJ (lv_sub hl [9, 8, 7, 6, 5, 4, 3, 2, 1, 0] rfl)
