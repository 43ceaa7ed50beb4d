/-! LAW: changes (by program) -/
/-! LAW: facts for changes -/
section ChF
variable {n : Nat} {z : Nat → Int32} {mm : Nat → Nat → Int32}
theorem low_ex (v : Int32) {u_k : Nat} (h : 0 < u_k) : ∃ P, P < u_k ∧ f_low v u_k = nI P := ⟨_, nL_lt v h, rfl⟩
theorem low_in (v : Int32) {u_k : Nat} (h : u_k < 2 ^ 31) : f_in (f_low v (u_k + 1)) 0 (nI u_k) = true := f_in_nI rfl ⟨Nat.lt_succ_iff.mp (nL_lt v (Nat.succ_pos _)), h⟩
theorem low_1 (v : Int32) : f_in (1 + f_low v 30) 1 30 = true := by
  have h := nL_lt v (u_k := 30) (by decide)
  have e : 1 + f_low v 30 = nI (nL v 30 + 1) := by rw [Int32.add_comm]; exact nI_1 _
  rw [e]; unfold f_in
  rw [decide_eq_true (show (1 : Int32) ≤ nI (nL v 30 + 1) from nI_le (a := 1) (by omega) (by omega)), decide_eq_true (show nI (nL v 30 + 1) ≤ (30 : Int32) from nI_le (b := 30) (by omega) (by decide))]
  rfl
theorem low_9999 (v : Int32) : f_in (f_low v 1500) 0 9999 = true := f_in_nI (u_n := 9999) rfl ⟨by have := nL_lt v (u_k := 1500) (by decide); omega, by decide⟩
theorem mins_e {P : Nat} {q a b : Int32} (i : Nat) : mins mm P (mfresh q a b) P i = mfresh q a b i := by rw [mins_at]
theorem msw_0 {P : Nat} {d : Int32} : mswap mm P d P 0 = mm (P + 1) 0 := by rw [msw_v P (by omega), sg_0]
theorem msw_1 {P : Nat} {d : Int32} : mswap mm P d (P + 1) 0 = mm P 0 := by rw [msw_v (P + 1) (by omega), sg_1]
theorem msw_4 {P : Nat} {d : Int32} : mswap mm P d P 4 = mm (P + 1) 4 - d := by unfold mswap mlose; rw [if_pos rfl]; rfl
theorem msw_5 {P : Nat} {d : Int32} : mswap mm P d P 5 = -1 := by unfold mswap mlose; rw [if_pos rfl]; rfl
theorem msw_g5 (hn : n ≤ 10) {P : Nat} {d : Int32} (hP : P + 1 < n) : gof n (mswap mm P d) (nI (P + 1) + 1) 5 = -1 := by
  by_cases h : P + 2 < n
  · rw [g_in1 hn h]
    unfold mswap mlose
    rw [if_neg (by omega), if_neg (by omega), if_pos rfl]; rfl
  · exact far5 hn (by omega)
theorem up2_at {P i : Nat} {v : Int32} : up2 mm P i v P i = v := if_pos ⟨rfl, rfl⟩
theorem up2_g5 (hn : n ≤ 10) {P : Nat} (hP : P < n) (h0 : 0 < P) {v : Int32} : gof n (up2 mm P 5 v) (nI (P - 1) + 1) 5 = v := by
  rw [nI_1, show P - 1 + 1 = P by omega, gof_in _ hn hP]; exact up2_at
theorem up2_o {P i x j : Nat} {v : Int32} (h : ¬ (x = P ∧ j = i)) : up2 mm P i v x j = mm x j := if_neg h
/-- one pair of friends more or less -/
theorem sI_one {f g : Nat → Int32} {m j : Nat} (hj : j < m) (h : ∀ i, i < m → i ≠ j → f i = g i) {d : Int32} (e : f j = g j + d) : sI f m = sI g m + d := by
  induction m with
  | zero => omega
  | succ m ih =>
    show sI f m + f m = sI g m + g m + d
    by_cases q : j = m
    · subst q
      rw [sI_congr (f := f) (g := g) (fun i hi => h i (by omega) (by omega)), e, Int32.add_assoc]
    · rw [ih (by omega) (fun i hi => h i (by omega)), h m (by omega) (by omega), Int32.add_assoc, Int32.add_comm d, ← Int32.add_assoc]
theorem frs_up (hn : n ≤ 10) {P : Nat} (hP : P + 1 < n) {v d : Int32} (hv : (if v = 0 then (0 : Int32) else 1) = (if mm (P + 1) 6 = 0 then 0 else 1) + d) : f_frs (gof n (up2 mm (P + 1) 6 v)) n = f_frs (gof n mm) n + d := by
  unfold f_frs
  refine sI_one (j := P) (by omega) (fun i hi hne => ?_) ?_
  · show (if f_fr (gof n (up2 mm (P + 1) 6 v)) (nI i) = 0 then (0 : Int32) else 1) = if f_fr (gof n mm) (nI i) = 0 then 0 else 1
    rw [fr_e hn (show i + 1 < n by omega), fr_e hn (show i + 1 < n by omega), up2_o (by omega)]
  · show (if f_fr (gof n (up2 mm (P + 1) 6 v)) (nI P) = 0 then (0 : Int32) else 1) = (if f_fr (gof n mm) (nI P) = 0 then 0 else 1) + d
    rw [fr_e hn hP, fr_e hn hP, up2_at]; exact hv
theorem part_e (hn : n ≤ 10) {P : Nat} (hP : P + 1 < n) (h : mm (P + 1) 6 = 1) : f_frs (gof n (up2 mm (P + 1) 6 0)) n = f_frs (gof n mm) n - 1 := by
  rw [Int32.sub_eq_add_neg]; exact frs_up hn hP (by rw [h]; decide)
theorem befr_e (hn : n ≤ 10) {P : Nat} (hP : P + 1 < n) (h : mm (P + 1) 6 = 0) : f_frs (gof n (up2 mm (P + 1) 6 1)) n = f_frs (gof n mm) n + 1 := frs_up hn hP (by rw [h]; decide)
theorem nI_sub1 {n : Nat} (h : 0 < n) : nI (n - 1) = nI n - 1 := (nI_pd h).symm
end ChF

set_option maxHeartbeats 4000000 in
set_option maxRecDepth 100000 in
theorem c_L_changes {l : Launch} {E : GE} (hE : Env0 E) {S : ST} {X : EX} (hX : Env1 E X) {k n : Nat} {z : Nat → Int32} {mm : Nat → Nat → Int32} {mc : Nat} {sv : Nat → LVt} (hXI : XI S (n, z, mm) mc sv) (hQ : QOk k (n, z, mm)) (hL : (sT S).1 1 = nI 0) (hsv : ∀ j, j < mc → QOk k (sv j)) (hk : k < 2 ^ 30) (ya za : Int32) : MW l E yL_changes cL_changes 15 (some .boolean) 9 204 S [.ref (gA E 83), .int ya, .int za] (fun v S1 => v = some (.int 1) ∧ LX (k + 1) S S1) := by
  have hn : n ≤ 10 := hQ.1
  have hV : VOk n mm := hQ.2.1
  have hM : MmOk n mm := hQ.2.2.1
  have h : LnIs (sL S) 0 n z mm := hXI.1
  have h4 := hXI.le4
  refine MW.of hE (by decide) (Nat.le_of_ble_eq_true rfl) ?_
  intro p e s m below meth c ls C hJ hr hl
  have hx := C.x
  have hb := C.b
  have hl : lv_has ls 15 [(0, .ref (gA E 83)), (1, .int ya), (2, .int za)] := hl
  refine lv_iload_n hx hb dL_changes_0 rfl (lv_at hl 1 rfl) ?_
  refine lv_bipush (v := 15) hx hb dL_changes_1 (by decide) ?_
  refine lv_iand hx hb dL_changes_3 ?_
  obtain ⟨kd, ekd⟩ : ∃ z : Int32, z = ya &&& 15 := ⟨_, rfl⟩
  rw [← ekd]
  refine lv_istore_n (lv' := [(3, .int kd), (0, .ref (gA E 83)), (1, .int ya), (2, .int za)]) hx hb dL_changes_4 rfl hl (by decide) rfl (fun ls hl => ?_)
  refine lv_aload_n hx hb dL_changes_5 rfl (lv_at hl 1 rfl) ?_
  refine lv_iconst (v := 0) hx hb dL_changes_6 (by decide) ?_
  refine cr_L_8 C hJ (rest := []) (m_whole hE hXI hQ hL 0 (by decide) (b := 0) (by decide) (v := nI n) rfl) dL_changes_7 hl.1 ⟨Nat.le_of_ble_eq_true rfl, Nat.le_of_ble_eq_true rfl⟩ ⟨Nat.le_refl _, Nat.le_refl _⟩ (Nat.le_of_ble_eq_true rfl) rfl rfl ?_
  refine lv_istore (lv' := [(4, .int (nI n)), (3, .int kd), (0, .ref (gA E 83)), (1, .int ya), (2, .int za)]) hx hb dL_changes_10 hl (by decide) rfl (fun ls hl => ?_)
  have J29 : ∀ (P : Nat) (ls : Array Slot), ((n = 0 ∧ P = 0) ∨ P < n) → JJ E S s.heap [] → lv_has ls 15 [(4, .int (nI n)), (3, .int kd), (0, .ref (gA E 83)), (1, .int ya), (2, .int za)] → W p l e (rmZ 9 204) s m ([.ref (gA E 83), .int ya, .int za] : List Value).toArray below meth c s.heap [] 0 0 (WQ below ([.ref (gA E 83), .int ya, .int za] : List Value).toArray s E (fun v S1 => v = some (.int 1) ∧ LX (k + 1) S S1)) (F0 m 29 ls [.int (nI P)]) := by
    intro P ls hPP hJ hl
    refine lv_istore (lv' := [(5, .int (nI P)), (4, .int (nI n)), (3, .int kd), (0, .ref (gA E 83)), (1, .int ya), (2, .int za)]) hx hb dL_changes_29 hl (by decide) rfl (fun ls hl => ?_)
    have J41 : ∀  (ls : Array Slot), JJ E S s.heap [] → lv_has ls 15 [(5, .int (nI P)), (4, .int (nI n)), (3, .int kd), (0, .ref (gA E 83)), (1, .int ya), (2, .int za)] → W p l e (rmZ 9 204) s m ([.ref (gA E 83), .int ya, .int za] : List Value).toArray below meth c s.heap [] 0 0 (WQ below ([.ref (gA E 83), .int ya, .int za] : List Value).toArray s E (fun v S1 => v = some (.int 1) ∧ LX (k + 1) S S1)) (F0 m 41 ls []) := by
      intro  ls  hJ hl
      refine lv_aload_n hx hb dL_changes_41 rfl (lv_at hl 3 rfl) ?_
      refine lv_bipush (v := 12) hx hb dL_changes_42 (by decide) ?_
      refine cr_L_8 C hJ (rest := []) (m_whole hE hXI hQ hL 12 (by decide) (b := 12) (by decide) (v := z 7) rfl) dL_changes_44 hl.1 ⟨Nat.le_of_ble_eq_true rfl, Nat.le_of_ble_eq_true rfl⟩ ⟨Nat.le_refl _, Nat.le_refl _⟩ (Nat.le_of_ble_eq_true rfl) rfl rfl ?_
      refine lv_istore (lv' := [(6, .int (z 7)), (5, .int (nI P)), (4, .int (nI n)), (3, .int kd), (0, .ref (gA E 83)), (1, .int ya), (2, .int za)]) hx hb dL_changes_47 hl (by decide) rfl (fun ls hl => ?_)
      refine lv_iload hx hb dL_changes_49 (lv_at hl 2 rfl) ?_
      refine lv_bipush (v := 10) hx hb dL_changes_51 (by decide) ?_
      refine lv_icmp_ne (tgt := 79) hx hb dL_changes_53 (by decide) (fun c_53 => ?_) (fun c_53 => ?_)
      · skip
        have h10 : n < 10 := by
          rcases Nat.lt_or_ge n 10 with q | q
          · exact q
          · exact absurd (show nI n = 10 by rw [show n = 10 by omega]; rfl) c_53
        have J111 : ∀ (xat : Int32) (ls : Array Slot), (xat = 0 ∨ (xat = 1 ∧ P < n ∧ mm P 6 = 0)) → JJ E S s.heap [] → lv_has ls 15 [(6, .int (z 7)), (5, .int (nI P)), (4, .int (nI n)), (3, .int kd), (0, .ref (gA E 83)), (1, .int ya), (2, .int za)] → W p l e (rmZ 9 204) s m ([.ref (gA E 83), .int ya, .int za] : List Value).toArray below meth c s.heap [] 0 0 (WQ below ([.ref (gA E 83), .int ya, .int za] : List Value).toArray s E (fun v S1 => v = some (.int 1) ∧ LX (k + 1) S S1)) (F0 m 111 ls [.int xat]) := by
          intro xat ls hat hJ hl
          refine lv_istore (lv' := [(7, .int xat), (6, .int (z 7)), (5, .int (nI P)), (4, .int (nI n)), (3, .int kd), (0, .ref (gA E 83)), (1, .int ya), (2, .int za)]) hx hb dL_changes_111 hl (by decide) rfl (fun ls hl => ?_)
          have J165 : ∀ (R : Nat) (TJ : ST) (H : Heap) (locs : List Loc) (ls : Array Slot), (R ≤ n ∧ ((xat = 0 ∧ R = n) ∨ (¬ xat = 0 ∧ R = P))) → (XI TJ (n + 1, zJ n z, mins mm R (mfresh (z 7) (f_low za 100) ((1 : Int32) + f_low (za >>> ((7 : Int32) &&& 31)) 30))) (f_push (n, z, mm) mc sv).1 (f_push (n, z, mm) mc sv).2) → (TJ.2.2 = S.2.2) → JJ E TJ H locs → lv_has ls 15 [(7, .int xat), (6, .int (z 7)), (5, .int (nI P)), (4, .int (nI n)), (3, .int kd), (0, .ref (gA E 83)), (1, .int ya), (2, .int za)] → W p l e (rmZ 9 204) s m ([.ref (gA E 83), .int ya, .int za] : List Value).toArray below meth c H locs 0 0 (WQ below ([.ref (gA E 83), .int ya, .int za] : List Value).toArray s E (fun v S1 => v = some (.int 1) ∧ LX (k + 1) S S1)) (F0 m 165 ls [.int (z 7)]) := by
            intro R TJ H locs ls hR hXT hRT hJ hl
            have hQT : QOk (k + 1) (n + 1, zJ n z, mins mm R (mfresh (z 7) (f_low za 100) ((1 : Int32) + f_low (za >>> ((7 : Int32) &&& 31)) 30))) := (QOk.ins hQ hR.1 h10 hk (low_in za (u_k := 99) (by decide)) (low_1 (za >>> ((7 : Int32) &&& 31))) (z2 := zJ n z) rfl)
            have hLT : (sT TJ).1 1 = nI 0 := txt_k hL hRT
            have hz7 : z 7 = mins mm R (mfresh (z 7) (f_low za 100) ((1 : Int32) + f_low (za >>> ((7 : Int32) &&& 31)) 30)) R 0 := by rw [mins_e]; rfl
            refine lv_istore (lv' := [(8, .int (z 7)), (7, .int xat), (6, .int (z 7)), (5, .int (nI P)), (4, .int (nI n)), (3, .int kd), (0, .ref (gA E 83)), (1, .int ya), (2, .int za)]) hx hb dL_changes_165 hl (by decide) rfl (fun ls hl => ?_)
            refine lv_iload hx hb dL_changes_167 (lv_at hl 0 rfl) ?_
            refine lv_iload hx hb dL_changes_169 (lv_at hl 2 rfl) ?_
            refine lv_icmp_ne (tgt := 227) hx hb dL_changes_171 (by decide) (fun c_171 => ?_) (fun c_171 => ?_)
            · skip
              exact absurd (rfl) c_171
            · skip
              refine lv_aload_n hx hb dL_changes_174 rfl (lv_at hl 6 rfl) ?_
              refine lv_iload hx hb dL_changes_175 (lv_at hl 0 rfl) ?_
              refine lv_iconst (v := 0) hx hb dL_changes_177 (by decide) ?_
              refine cr_L_17 C hJ (rest := []) (m_mem hE hXT hQT (P := R) (show R < n + 1 by have := hR.1; omega) hz7 0 (by decide) (b := 0) (by decide) (v := nI R) rfl) dL_changes_178 hl.1 ⟨Nat.le_of_ble_eq_true rfl, Nat.le_of_ble_eq_true rfl⟩ ⟨Nat.le_refl _, Nat.le_refl _⟩ (Nat.le_of_ble_eq_true rfl) rfl rfl ?_
              have J196 : ∀  (ls : Array Slot), JJ E TJ H locs → lv_has ls 15 [(8, .int (z 7)), (7, .int xat), (6, .int (z 7)), (5, .int (nI P)), (4, .int (nI n)), (3, .int kd), (0, .ref (gA E 83)), (1, .int ya), (2, .int za)] → W p l e (rmZ 9 204) s m ([.ref (gA E 83), .int ya, .int za] : List Value).toArray below meth c H locs 0 0 (WQ below ([.ref (gA E 83), .int ya, .int za] : List Value).toArray s E (fun v S1 => v = some (.int 1) ∧ LX (k + 1) S S1)) (F0 m 196 ls []) := by
                intro  ls  hJ hl
                refine lv_aload_n hx hb dL_changes_196 rfl (lv_at hl 6 rfl) ?_
                refine lv_iload hx hb dL_changes_197 (lv_at hl 0 rfl) ?_
                refine lv_iconst (v := 2) hx hb dL_changes_199 (by decide) ?_
                refine cr_L_17 C hJ (rest := []) (m_mem hE hXT hQT (P := R) (show R < n + 1 by have := hR.1; omega) hz7 2 (by decide) (b := 2) (by decide) (v := (mins mm R (mfresh (z 7) (f_low za 100) ((1 : Int32) + f_low (za >>> ((7 : Int32) &&& 31)) 30))) R 2) rfl) dL_changes_200 hl.1 ⟨Nat.le_of_ble_eq_true rfl, Nat.le_of_ble_eq_true rfl⟩ ⟨Nat.le_refl _, Nat.le_refl _⟩ (Nat.le_of_ble_eq_true rfl) rfl rfl ?_
                refine lv_iload_n hx hb dL_changes_203 rfl (lv_at hl 8 rfl) ?_
                refine lv_bipush (v := 100) hx hb dL_changes_204 (by decide) ?_
                refine cr_L_52 C hJ (rest := [.int ((mins mm R (mfresh (z 7) (f_low za 100) ((1 : Int32) + f_low (za >>> ((7 : Int32) &&& 31)) 30))) R 2)]) ((show MR l E yL_low cL_low 2 (some .int) 0 0 TJ [.int za, .int 100] (some (.int (f_low za 100))) from c_L_low hE za (u_k := 100) (by decide) (by decide))) dL_changes_206 hl.1 ⟨Nat.le_of_ble_eq_true rfl, Nat.le_of_ble_eq_true rfl⟩ ⟨Nat.le_refl _, Nat.le_refl _⟩ (Nat.le_of_ble_eq_true rfl) rfl rfl ?_
                refine lv_icmp_ne (tgt := 227) hx hb dL_changes_209 (by decide) (fun c_209 => ?_) (fun c_209 => ?_)
                · skip
                  exact absurd (show mins mm R (mfresh (z 7) (f_low za 100) ((1 : Int32) + f_low (za >>> ((7 : Int32) &&& 31)) 30)) R 2 = f_low za 100 by rw [mins_e]; rfl) c_209
                · skip
                  refine lv_aload_n hx hb dL_changes_212 rfl (lv_at hl 6 rfl) ?_
                  refine lv_iload hx hb dL_changes_213 (lv_at hl 0 rfl) ?_
                  refine lv_bipush (v := 6) hx hb dL_changes_215 (by decide) ?_
                  refine cr_L_17 C hJ (rest := []) (m_mem hE hXT hQT (P := R) (show R < n + 1 by have := hR.1; omega) hz7 6 (by decide) (b := 6) (by decide) (v := (mins mm R (mfresh (z 7) (f_low za 100) ((1 : Int32) + f_low (za >>> ((7 : Int32) &&& 31)) 30))) R 4) rfl) dL_changes_217 hl.1 ⟨Nat.le_of_ble_eq_true rfl, Nat.le_of_ble_eq_true rfl⟩ ⟨Nat.le_refl _, Nat.le_refl _⟩ (Nat.le_of_ble_eq_true rfl) rfl rfl ?_
                  refine lv_if_ne (tgt := 227) hx hb dL_changes_220 (by decide) (fun c_220 => ?_) (fun c_220 => ?_)
                  · skip
                    exact absurd (show mins mm R (mfresh (z 7) (f_low za 100) ((1 : Int32) + f_low (za >>> ((7 : Int32) &&& 31)) 30)) R 4 = 0 by rw [mins_e]; rfl) c_220
                  · skip
                    refine lv_iconst (v := 1) hx hb dL_changes_223 (by decide) ?_
                    refine lv_goto (tgt := 228) hx hb dL_changes_224 (by decide) ?_
                    exact rW_i C hJ hr rfl (⟨rfl, LX.of hXT hQT hQ hsv h4 hRT⟩) dL_changes_228
              refine lv_iload hx hb dL_changes_181 (lv_at hl 1 rfl) ?_
              refine lv_if_eq (tgt := 191) hx hb dL_changes_183 (by decide) (fun c_183 => ?_) (fun c_183 => ?_)
              · skip
                have eR : R = n := hR.2.elim (fun y => y.2) (fun y => absurd c_183 y.1)
                refine lv_iload hx hb dL_changes_191 (lv_at hl 4 rfl) ?_
                refine lv_icmp_ne (tgt := 227) hx hb dL_changes_193 (by decide) (fun c_193 => ?_) (fun c_193 => ?_)
                · skip
                  exact absurd (by rw [eR]) c_193
                · skip
                  exact J196 _ hJ (lv_sub hl [0, 1, 2, 3, 4, 5, 6, 7, 8] rfl)
              · skip
                have eR : R = P := hR.2.elim (fun y => absurd y.1 c_183) (fun y => y.2)
                refine lv_iload hx hb dL_changes_186 (lv_at hl 3 rfl) ?_
                refine lv_goto (tgt := 193) hx hb dL_changes_188 (by decide) ?_
                refine lv_icmp_ne (tgt := 227) hx hb dL_changes_193 (by decide) (fun c_193 => ?_) (fun c_193 => ?_)
                · skip
                  exact absurd (by rw [eR]) c_193
                · skip
                  exact J196 _ hJ (lv_sub hl [0, 1, 2, 3, 4, 5, 6, 7, 8] rfl)
          refine lv_iload hx hb dL_changes_113 (lv_at hl 0 rfl) ?_
          refine lv_if_eq (tgt := 144) hx hb dL_changes_115 (by decide) (fun c_115 => ?_) (fun c_115 => ?_)
          · skip
            have hR : n ≤ n ∧ ((xat = 0 ∧ n = n) ∨ (¬ xat = 0 ∧ n = P)) := ⟨Nat.le_refl _, Or.inl ⟨c_115, rfl⟩⟩
            refine lv_aload_n hx hb dL_changes_144 rfl (lv_at hl 5 rfl) ?_
            refine lv_iload_n hx hb dL_changes_145 rfl (lv_at hl 7 rfl) ?_
            refine lv_bipush (v := 100) hx hb dL_changes_146 (by decide) ?_
            refine cr_L_52 C hJ (rest := [.ref (gA E 83)]) ((show MR l E yL_low cL_low 2 (some .int) 0 0 S [.int za, .int 100] (some (.int (f_low za 100))) from c_L_low hE za (u_k := 100) (by decide) (by decide))) dL_changes_148 hl.1 ⟨Nat.le_of_ble_eq_true rfl, Nat.le_of_ble_eq_true rfl⟩ ⟨Nat.le_refl _, Nat.le_refl _⟩ (Nat.le_of_ble_eq_true rfl) rfl rfl ?_
            refine lv_iconst (v := 1) hx hb dL_changes_151 (by decide) ?_
            refine lv_iload_n hx hb dL_changes_152 rfl (lv_at hl 7 rfl) ?_
            refine lv_bipush (v := 7) hx hb dL_changes_153 (by decide) ?_
            refine lv_ishr hx hb dL_changes_155 ?_
            refine lv_bipush (v := 30) hx hb dL_changes_156 (by decide) ?_
            refine cr_L_52 C hJ (rest := [.int 1, .int (f_low za 100), .ref (gA E 83)]) ((show MR l E yL_low cL_low 2 (some .int) 0 0 S [.int (za >>> ((7 : Int32) &&& 31)), .int 30] (some (.int (f_low (za >>> ((7 : Int32) &&& 31)) 30))) from c_L_low hE (za >>> ((7 : Int32) &&& 31)) (u_k := 30) (by decide) (by decide))) dL_changes_158 hl.1 ⟨Nat.le_of_ble_eq_true rfl, Nat.le_of_ble_eq_true rfl⟩ ⟨Nat.le_refl _, Nat.le_refl _⟩ (Nat.le_of_ble_eq_true rfl) rfl rfl ?_
            refine lv_iadd hx hb dL_changes_161 ?_
            refine cw_L_62 C hJ (rest := []) (d_join hE hX hXI hQ h10 (low_in za (u_k := 99) (by decide)) (low_1 (za >>> ((7 : Int32) &&& 31)))) dL_changes_162 hl.1 ⟨Nat.le_of_ble_eq_true rfl, Nat.le_of_ble_eq_true rfl⟩ ⟨Nat.le_refl _, Nat.le_refl _⟩ (Nat.le_of_ble_eq_true rfl) rfl rfl (fun vr S_162 H locs hP hJ => ?_)
            obtain ⟨rfl, hX162, hR162⟩ := hP
            have hQ162 : QOk (k + 1) (n + 1, zJ n z, mins mm n (mfresh (z 7) (f_low za 100) ((1 : Int32) + f_low (za >>> ((7 : Int32) &&& 31)) 30))) := (QOk.ins hQ hR.1 h10 hk (low_in za (u_k := 99) (by decide)) (low_1 (za >>> ((7 : Int32) &&& 31))) (z2 := zJ n z) rfl)
            have hL162 : (sT S_162).1 1 = nI 0 := txt_k hL hR162
            exact J165 n S_162 _ _ _ hR hX162 hR162 hJ (lv_sub hl [0, 1, 2, 3, 4, 5, 6, 7] rfl)
          · skip
            have hx1 : P < n ∧ mm P 6 = 0 := hat.elim (fun y => absurd y c_115) (fun y => y.2)
            have hR : P ≤ n ∧ ((xat = 0 ∧ P = n) ∨ (¬ xat = 0 ∧ P = P)) := ⟨Nat.le_of_lt hx1.1, Or.inr ⟨c_115, rfl⟩⟩
            refine lv_aload_n hx hb dL_changes_118 rfl (lv_at hl 5 rfl) ?_
            refine lv_iload_n hx hb dL_changes_119 rfl (lv_at hl 7 rfl) ?_
            refine lv_bipush (v := 100) hx hb dL_changes_120 (by decide) ?_
            refine cr_L_52 C hJ (rest := [.ref (gA E 83)]) ((show MR l E yL_low cL_low 2 (some .int) 0 0 S [.int za, .int 100] (some (.int (f_low za 100))) from c_L_low hE za (u_k := 100) (by decide) (by decide))) dL_changes_122 hl.1 ⟨Nat.le_of_ble_eq_true rfl, Nat.le_of_ble_eq_true rfl⟩ ⟨Nat.le_refl _, Nat.le_refl _⟩ (Nat.le_of_ble_eq_true rfl) rfl rfl ?_
            refine lv_iconst (v := 1) hx hb dL_changes_125 (by decide) ?_
            refine lv_iload_n hx hb dL_changes_126 rfl (lv_at hl 7 rfl) ?_
            refine lv_bipush (v := 7) hx hb dL_changes_127 (by decide) ?_
            refine lv_ishr hx hb dL_changes_129 ?_
            refine lv_bipush (v := 30) hx hb dL_changes_130 (by decide) ?_
            refine cr_L_52 C hJ (rest := [.int 1, .int (f_low za 100), .ref (gA E 83)]) ((show MR l E yL_low cL_low 2 (some .int) 0 0 S [.int (za >>> ((7 : Int32) &&& 31)), .int 30] (some (.int (f_low (za >>> ((7 : Int32) &&& 31)) 30))) from c_L_low hE (za >>> ((7 : Int32) &&& 31)) (u_k := 30) (by decide) (by decide))) dL_changes_132 hl.1 ⟨Nat.le_of_ble_eq_true rfl, Nat.le_of_ble_eq_true rfl⟩ ⟨Nat.le_refl _, Nat.le_refl _⟩ (Nat.le_of_ble_eq_true rfl) rfl rfl ?_
            refine lv_iadd hx hb dL_changes_135 ?_
            refine lv_iload hx hb dL_changes_136 (lv_at hl 2 rfl) ?_
            refine cw_L_58 C hJ (rest := []) (d_joinAt hE hX hXI hQ h10 (low_in za (u_k := 99) (by decide)) (low_1 (za >>> ((7 : Int32) &&& 31))) hx1.1 hx1.2 rfl) dL_changes_138 hl.1 ⟨Nat.le_of_ble_eq_true rfl, Nat.le_of_ble_eq_true rfl⟩ ⟨Nat.le_refl _, Nat.le_refl _⟩ (Nat.le_of_ble_eq_true rfl) rfl rfl (fun vr S_138 H locs hP hJ => ?_)
            obtain ⟨rfl, hX138, hR138⟩ := hP
            have hQ138 : QOk (k + 1) (n + 1, zJ n z, mins mm P (mfresh (z 7) (f_low za 100) ((1 : Int32) + f_low (za >>> ((7 : Int32) &&& 31)) 30))) := (QOk.ins hQ hR.1 h10 hk (low_in za (u_k := 99) (by decide)) (low_1 (za >>> ((7 : Int32) &&& 31))) (z2 := zJ n z) rfl)
            have hL138 : (sT S_138).1 1 = nI 0 := txt_k hL hR138
            refine lv_goto (tgt := 165) hx hb dL_changes_141 (by decide) ?_
            exact J165 P S_138 _ _ _ hR hX138 hR138 hJ (lv_sub hl [0, 1, 2, 3, 4, 5, 6, 7] rfl)
        refine lv_iload_n hx hb dL_changes_79 rfl (lv_at hl 3 rfl) ?_
        refine lv_iconst (v := 1) hx hb dL_changes_80 (by decide) ?_
        refine lv_icmp_ne (tgt := 110) hx hb dL_changes_81 (by decide) (fun c_81 => ?_) (fun c_81 => ?_)
        · skip
          have hat : (0 : Int32) = 0 ∨ ((0 : Int32) = 1 ∧ P < n ∧ mm P 6 = 0) := Or.inl rfl
          refine lv_iconst (v := 0) hx hb dL_changes_110 (by decide) ?_
          exact J111 0 _ hat hJ (lv_sub hl [0, 1, 2, 3, 4, 5, 6] rfl)
        · skip
          refine lv_iload hx hb dL_changes_84 (lv_at hl 2 rfl) ?_
          refine lv_if_le (tgt := 110) hx hb dL_changes_86 (by decide) (fun c_86 => ?_) (fun c_86 => ?_)
          · skip
            have hat : (0 : Int32) = 0 ∨ ((0 : Int32) = 1 ∧ P < n ∧ mm P 6 = 0) := Or.inl rfl
            refine lv_iconst (v := 0) hx hb dL_changes_110 (by decide) ?_
            exact J111 0 _ hat hJ (lv_sub hl [0, 1, 2, 3, 4, 5, 6] rfl)
          · skip
            have h0n : 0 < n := lpp1 c_86
            have hP : P < n := by
              rcases hPP with y | y
              · omega
              · exact y
            refine lv_iload hx hb dL_changes_89 (lv_at hl 1 rfl) ?_
            refine lv_if_eq (tgt := 106) hx hb dL_changes_91 (by decide) (fun c_91 => ?_) (fun c_91 => ?_)
            · skip
              have hat : (1 : Int32) = 0 ∨ ((1 : Int32) = 1 ∧ P < n ∧ mm P 6 = 0) := Or.inr ⟨rfl, hP, by rw [eq0 (by omega) c_91]; exact hM.1⟩
              refine lv_iconst (v := 1) hx hb dL_changes_106 (by decide) ?_
              refine lv_goto (tgt := 111) hx hb dL_changes_107 (by decide) ?_
              exact J111 1 _ hat hJ (lv_sub hl [0, 1, 2, 3, 4, 5, 6] rfl)
            · skip
              have h0P : 0 < P := ne0 c_91
              have eP1 : P - 1 + 1 = P := by omega
              refine lv_aload_n hx hb dL_changes_94 rfl (lv_at hl 4 rfl) ?_
              refine lv_iload hx hb dL_changes_95 (lv_at hl 1 rfl) ?_
              refine lv_iconst (v := 1) hx hb dL_changes_97 (by decide) ?_
              refine lv_isub hx hb dL_changes_98 ?_
              refine lv_iconst (v := 4) hx hb dL_changes_99 (by decide) ?_
              refine cr_L_24 C hJ (rest := []) (m_pair hE hXI hQ (P := P - 1) (show P - 1 + 1 < n by omega) (nI_pd h0P) 4 (by decide) (b := 4) (by decide) (v := mm (P - 1 + 1) 6) rfl) dL_changes_100 hl.1 ⟨Nat.le_of_ble_eq_true rfl, Nat.le_of_ble_eq_true rfl⟩ ⟨Nat.le_refl _, Nat.le_refl _⟩ (Nat.le_of_ble_eq_true rfl) rfl rfl ?_
              refine lv_if_ne (tgt := 110) hx hb dL_changes_103 (by decide) (fun c_103 => ?_) (fun c_103 => ?_)
              · skip
                have hat : (0 : Int32) = 0 ∨ ((0 : Int32) = 1 ∧ P < n ∧ mm P 6 = 0) := Or.inl rfl
                refine lv_iconst (v := 0) hx hb dL_changes_110 (by decide) ?_
                exact J111 0 _ hat hJ (lv_sub hl [0, 1, 2, 3, 4, 5, 6] rfl)
              · skip
                have hat : (1 : Int32) = 0 ∨ ((1 : Int32) = 1 ∧ P < n ∧ mm P 6 = 0) := Or.inr ⟨rfl, hP, by rw [eP1] at c_103; exact c_103⟩
                refine lv_iconst (v := 1) hx hb dL_changes_106 (by decide) ?_
                refine lv_goto (tgt := 111) hx hb dL_changes_107 (by decide) ?_
                exact J111 1 _ hat hJ (lv_sub hl [0, 1, 2, 3, 4, 5, 6] rfl)
      · skip
        have e10 : n = 10 := (nI_eq (b := 10) (by omega) (by decide)).mp c_53
        have h0n : 0 < n := by omega
        refine lv_aload_n hx hb dL_changes_56 rfl (lv_at hl 4 rfl) ?_
        refine cw_L_55 C hJ (rest := []) (d_serve hE hX hXI hQ h0n) dL_changes_57 hl.1 ⟨Nat.le_of_ble_eq_true rfl, Nat.le_of_ble_eq_true rfl⟩ ⟨Nat.le_refl _, Nat.le_refl _⟩ (Nat.le_of_ble_eq_true rfl) rfl rfl (fun vr S_57 H locs hP hJ => ?_)
        obtain ⟨rfl, hX57, hR57⟩ := hP
        have hQ57 : QOk (k + 1) (n - 1, (upd (upd z 2 (nI (n - 1))) 6 (z 6 + 1)), mrem mm 0) := (hQ.rem h0n rfl).mono (Nat.le_succ k)
        have hL57 : (sT S_57).1 1 = nI 0 := txt_k hL hR57
        refine lv_if_lt (tgt := 77) hx hb dL_changes_60 (by decide) (fun c_60 => ?_) (fun c_60 => ?_)
        · skip
          exact absurd c_60 (hQ.num (by omega) h0n)
        · skip
          refine lv_aload_n hx hb dL_changes_63 rfl (lv_at hl 4 rfl) ?_
          refine lv_iconst (v := 0) hx hb dL_changes_64 (by decide) ?_
          refine cr_L_8 C hJ (rest := []) (m_whole hE hX57 hQ57 hL57 0 (by decide) (b := 0) (by decide) (v := nI (n - 1)) rfl) dL_changes_65 hl.1 ⟨Nat.le_of_ble_eq_true rfl, Nat.le_of_ble_eq_true rfl⟩ ⟨Nat.le_refl _, Nat.le_refl _⟩ (Nat.le_of_ble_eq_true rfl) rfl rfl ?_
          refine lv_bipush (v := 9) hx hb dL_changes_68 (by decide) ?_
          refine lv_icmp_ne (tgt := 77) hx hb dL_changes_70 (by decide) (fun c_70 => ?_) (fun c_70 => ?_)
          · skip
            exact absurd (show nI (n - 1) = 9 by rw [e10]; rfl) c_70
          · skip
            refine lv_iconst (v := 1) hx hb dL_changes_73 (by decide) ?_
            refine lv_goto (tgt := 78) hx hb dL_changes_74 (by decide) ?_
            exact rW_i C hJ hr rfl (⟨rfl, LX.of hX57 hQ57 hQ hsv h4 hR57⟩) dL_changes_78
    refine lv_iload_n hx hb dL_changes_31 rfl (lv_at hl 2 rfl) ?_
    refine lv_iconst (v := 3) hx hb dL_changes_32 (by decide) ?_
    refine lv_icmp_lt (tgt := 41) hx hb dL_changes_33 (by decide) (fun c_33 => ?_) (fun c_33 => ?_)
    · skip
      exact J41 _ hJ (lv_sub hl [0, 1, 2, 3, 4, 5] rfl)
    · skip
      refine lv_iload hx hb dL_changes_36 (lv_at hl 1 rfl) ?_
      refine lv_if_ne (tgt := 229) hx hb dL_changes_38 (by decide) (fun c_38 => ?_) (fun c_38 => ?_)
      · skip
        have hP : P < n := by
          rcases hPP with y | y
          · exact absurd (by rw [y.1]; rfl) c_38
          · exact y
        refine lv_aload_n hx hb dL_changes_229 rfl (lv_at hl 3 rfl) ?_
        refine lv_iload hx hb dL_changes_230 (lv_at hl 0 rfl) ?_
        refine cr_L_14 C hJ (rest := []) (m_at hE hXI hQ (P := P) hP rfl) dL_changes_232 hl.1 ⟨Nat.le_of_ble_eq_true rfl, Nat.le_of_ble_eq_true rfl⟩ ⟨Nat.le_refl _, Nat.le_refl _⟩ (Nat.le_of_ble_eq_true rfl) rfl rfl ?_
        refine lv_istore (lv' := [(6, .int (mm P 0)), (5, .int (nI P)), (4, .int (nI n)), (3, .int kd), (0, .ref (gA E 83)), (1, .int ya), (2, .int za)]) hx hb dL_changes_235 hl (by decide) rfl (fun ls hl => ?_)
        refine lv_iload_n hx hb dL_changes_237 rfl (lv_at hl 3 rfl) ?_
        refine lv_iconst (v := 3) hx hb dL_changes_238 (by decide) ?_
        refine lv_icmp_ne (tgt := 304) hx hb dL_changes_239 (by decide) (fun c_239 => ?_) (fun c_239 => ?_)
        · skip
          refine lv_iload_n hx hb dL_changes_304 rfl (lv_at hl 3 rfl) ?_
          refine lv_bipush (v := 6) hx hb dL_changes_305 (by decide) ?_
          refine lv_icmp_ge (tgt := 358) hx hb dL_changes_307 (by decide) (fun c_307 => ?_) (fun c_307 => ?_)
          · skip
            have J427 : ∀  (ls : Array Slot), JJ E S s.heap [] → lv_has ls 15 [(6, .int (mm P 0)), (5, .int (nI P)), (4, .int (nI n)), (3, .int kd), (0, .ref (gA E 83)), (1, .int ya), (2, .int za)] → W p l e (rmZ 9 204) s m ([.ref (gA E 83), .int ya, .int za] : List Value).toArray below meth c s.heap [] 0 0 (WQ below ([.ref (gA E 83), .int ya, .int za] : List Value).toArray s E (fun v S1 => v = some (.int 1) ∧ LX (k + 1) S S1)) (F0 m 427 ls []) := by
              intro  ls  hJ hl
              refine lv_iload_n hx hb dL_changes_427 rfl (lv_at hl 3 rfl) ?_
              refine lv_bipush (v := 9) hx hb dL_changes_428 (by decide) ?_
              refine lv_icmp_ne (tgt := 440) hx hb dL_changes_430 (by decide) (fun c_430 => ?_) (fun c_430 => ?_)
              · skip
                refine lv_iload hx hb dL_changes_440 (lv_at hl 1 rfl) ?_
                refine lv_iconst (v := 1) hx hb dL_changes_442 (by decide) ?_
                refine lv_iadd hx hb dL_changes_443 ?_
                refine lv_iload hx hb dL_changes_444 (lv_at hl 2 rfl) ?_
                refine lv_icmp_ne (tgt := 477) hx hb dL_changes_446 (by decide) (fun c_446 => ?_) (fun c_446 => ?_)
                · skip
                  have hP1 : P + 1 < n := by
                    rw [nI_1] at c_446
                    rcases Nat.lt_or_ge (P + 1) n with q | q
                    · exact q
                    · exact absurd (show nI (P + 1) = nI n by rw [show P + 1 = n by omega]) c_446
                  refine lv_aload_n hx hb dL_changes_477 rfl (lv_at hl 4 rfl) ?_
                  refine lv_iload hx hb dL_changes_478 (lv_at hl 1 rfl) ?_
                  refine lv_iconst (v := 1) hx hb dL_changes_480 (by decide) ?_
                  refine lv_iadd hx hb dL_changes_481 ?_
                  refine cr_L_14 C hJ (rest := []) (m_at hE hXI hQ (P := P + 1) hP1 (nI_1 P)) dL_changes_482 hl.1 ⟨Nat.le_of_ble_eq_true rfl, Nat.le_of_ble_eq_true rfl⟩ ⟨Nat.le_refl _, Nat.le_refl _⟩ (Nat.le_of_ble_eq_true rfl) rfl rfl ?_
                  refine lv_istore (lv' := [(7, .int (mm (P + 1) 0)), (6, .int (mm P 0)), (5, .int (nI P)), (4, .int (nI n)), (3, .int kd), (0, .ref (gA E 83)), (1, .int ya), (2, .int za)]) hx hb dL_changes_485 hl (by decide) rfl (fun ls hl => ?_)
                  refine lv_aload_n hx hb dL_changes_487 rfl (lv_at hl 5 rfl) ?_
                  refine lv_iload hx hb dL_changes_488 (lv_at hl 1 rfl) ?_
                  refine lv_bipush (v := 8) hx hb dL_changes_490 (by decide) ?_
                  refine cr_L_17 C hJ (rest := []) (m_mem hE hXI hQ (P := P) hP rfl 8 (by decide) (b := 8) (by decide) (v := gof n mm (nI P + 1) 5) rfl) dL_changes_492 hl.1 ⟨Nat.le_of_ble_eq_true rfl, Nat.le_of_ble_eq_true rfl⟩ ⟨Nat.le_refl _, Nat.le_refl _⟩ (Nat.le_of_ble_eq_true rfl) rfl rfl ?_
                  have e85 : gof n mm (nI P + 1) 5 = mm (P + 1) 5 := g_in1 hn hP1 5
                  refine lv_istore (lv' := [(8, .int (gof n mm (nI P + 1) 5)), (7, .int (mm (P + 1) 0)), (6, .int (mm P 0)), (5, .int (nI P)), (4, .int (nI n)), (3, .int kd), (0, .ref (gA E 83)), (1, .int ya), (2, .int za)]) hx hb dL_changes_495 hl (by decide) rfl (fun ls hl => ?_)
                  refine lv_aload_n hx hb dL_changes_497 rfl (lv_at hl 6 rfl) ?_
                  refine cr_L_34 C hJ (rest := []) (c_L_money hE hXI hQ hL) dL_changes_498 hl.1 ⟨Nat.le_of_ble_eq_true rfl, Nat.le_of_ble_eq_true rfl⟩ ⟨Nat.le_refl _, Nat.le_refl _⟩ (Nat.le_of_ble_eq_true rfl) rfl rfl ?_
                  refine lv_istore (lv' := [(9, .int (mny n mm)), (8, .int (gof n mm (nI P + 1) 5)), (7, .int (mm (P + 1) 0)), (6, .int (mm P 0)), (5, .int (nI P)), (4, .int (nI n)), (3, .int kd), (0, .ref (gA E 83)), (1, .int ya), (2, .int za)]) hx hb dL_changes_501 hl (by decide) rfl (fun ls hl => ?_)
                  refine lv_aload_n hx hb dL_changes_503 rfl (lv_at hl 7 rfl) ?_
                  refine lv_bipush (v := 10) hx hb dL_changes_504 (by decide) ?_
                  refine cr_L_8 C hJ (rest := []) (m_whole hE hXI hQ hL 10 (by decide) (b := 10) (by decide) (v := z 5) rfl) dL_changes_506 hl.1 ⟨Nat.le_of_ble_eq_true rfl, Nat.le_of_ble_eq_true rfl⟩ ⟨Nat.le_refl _, Nat.le_refl _⟩ (Nat.le_of_ble_eq_true rfl) rfl rfl ?_
                  refine lv_istore (lv' := [(10, .int (z 5)), (9, .int (mny n mm)), (8, .int (gof n mm (nI P + 1) 5)), (7, .int (mm (P + 1) 0)), (6, .int (mm P 0)), (5, .int (nI P)), (4, .int (nI n)), (3, .int kd), (0, .ref (gA E 83)), (1, .int ya), (2, .int za)]) hx hb dL_changes_509 hl (by decide) rfl (fun ls hl => ?_)
                  refine lv_aload_n hx hb dL_changes_511 rfl (lv_at hl 8 rfl) ?_
                  refine lv_iload hx hb dL_changes_512 (lv_at hl 3 rfl) ?_
                  refine lv_bipush (v := 6) hx hb dL_changes_514 (by decide) ?_
                  refine cr_L_17 C hJ (rest := []) (m_mem hE hXI hQ (P := P + 1) hP1 rfl 6 (by decide) (b := 6) (by decide) (v := mm (P + 1) 4) rfl) dL_changes_516 hl.1 ⟨Nat.le_of_ble_eq_true rfl, Nat.le_of_ble_eq_true rfl⟩ ⟨Nat.le_refl _, Nat.le_refl _⟩ (Nat.le_of_ble_eq_true rfl) rfl rfl ?_
                  refine lv_istore (lv' := [(11, .int (mm (P + 1) 4)), (10, .int (z 5)), (9, .int (mny n mm)), (8, .int (gof n mm (nI P + 1) 5)), (7, .int (mm (P + 1) 0)), (6, .int (mm P 0)), (5, .int (nI P)), (4, .int (nI n)), (3, .int kd), (0, .ref (gA E 83)), (1, .int ya), (2, .int za)]) hx hb dL_changes_519 hl (by decide) rfl (fun ls hl => ?_)
                  have J745 : ∀  (ls : Array Slot), JJ E S s.heap [] → lv_has ls 15 [(11, .int (mm (P + 1) 4)), (10, .int (z 5)), (9, .int (mny n mm)), (8, .int (gof n mm (nI P + 1) 5)), (7, .int (mm (P + 1) 0)), (6, .int (mm P 0)), (5, .int (nI P)), (4, .int (nI n)), (3, .int kd), (0, .ref (gA E 83)), (1, .int ya), (2, .int za)] → W p l e (rmZ 9 204) s m ([.ref (gA E 83), .int ya, .int za] : List Value).toArray below meth c s.heap [] 0 0 (WQ below ([.ref (gA E 83), .int ya, .int za] : List Value).toArray s E (fun v S1 => v = some (.int 1) ∧ LX (k + 1) S S1)) (F0 m 745 ls []) := by
                    intro  ls  hJ hl
                    refine lv_aload_n hx hb dL_changes_745 rfl (lv_at hl 9 rfl) ?_
                    refine lv_bipush (v := 8) hx hb dL_changes_746 (by decide) ?_
                    refine cr_L_8 C hJ (rest := []) (m_whole hE hXI hQ hL 8 (by decide) (b := 8) (by decide) (v := f_frs (gof n mm) n) rfl) dL_changes_748 hl.1 ⟨Nat.le_of_ble_eq_true rfl, Nat.le_of_ble_eq_true rfl⟩ ⟨Nat.le_refl _, Nat.le_refl _⟩ (Nat.le_of_ble_eq_true rfl) rfl rfl ?_
                    refine lv_istore (lv' := [(12, .int (f_frs (gof n mm) n)), (11, .int (mm (P + 1) 4)), (10, .int (z 5)), (9, .int (mny n mm)), (8, .int (gof n mm (nI P + 1) 5)), (7, .int (mm (P + 1) 0)), (6, .int (mm P 0)), (5, .int (nI P)), (4, .int (nI n)), (3, .int kd), (0, .ref (gA E 83)), (1, .int ya), (2, .int za)]) hx hb dL_changes_751 hl (by decide) rfl (fun ls hl => ?_)
                    refine lv_aload_n hx hb dL_changes_753 rfl (lv_at hl 10 rfl) ?_
                    refine lv_iload hx hb dL_changes_754 (lv_at hl 7 rfl) ?_
                    refine lv_iconst (v := 4) hx hb dL_changes_756 (by decide) ?_
                    refine cr_L_24 C hJ (rest := []) (m_pair hE hXI hQ (P := P) hP1 rfl 4 (by decide) (b := 4) (by decide) (v := mm (P + 1) 6) rfl) dL_changes_757 hl.1 ⟨Nat.le_of_ble_eq_true rfl, Nat.le_of_ble_eq_true rfl⟩ ⟨Nat.le_refl _, Nat.le_refl _⟩ (Nat.le_of_ble_eq_true rfl) rfl rfl ?_
                    refine lv_iconst (v := 1) hx hb dL_changes_760 (by decide) ?_
                    refine lv_icmp_ne (tgt := 785) hx hb dL_changes_761 (by decide) (fun c_761 => ?_) (fun c_761 => ?_)
                    · skip
                      have hf0 : mm (P + 1) 6 = 0 := (bit0 (hM.2 _ hP1) c_761).symm
                      refine lv_iload_n hx hb dL_changes_785 rfl (lv_at hl 12 rfl) ?_
                      refine lv_iconst (v := 1) hx hb dL_changes_786 (by decide) ?_
                      refine lv_iand hx hb dL_changes_787 ?_
                      refine lv_if_eq (tgt := 804) hx hb dL_changes_788 (by decide) (fun c_788 => ?_) (fun c_788 => ?_)
                      · skip
                        refine lv_iconst (v := 1) hx hb dL_changes_804 (by decide) ?_
                        refine lv_goto (tgt := 809) hx hb dL_changes_805 (by decide) ?_
                        exact rW_i C hJ hr rfl (⟨rfl, LX.id hXI hQ hsv⟩) dL_changes_809
                      · skip
                        refine lv_aload_n hx hb dL_changes_791 rfl (lv_at hl 10 rfl) ?_
                        refine lv_iload hx hb dL_changes_792 (lv_at hl 7 rfl) ?_
                        refine cw_L_90 C hJ (rest := []) (d_befriend hE hX hXI hQ hP1 rfl hf0) dL_changes_794 hl.1 ⟨Nat.le_of_ble_eq_true rfl, Nat.le_of_ble_eq_true rfl⟩ ⟨Nat.le_refl _, Nat.le_refl _⟩ (Nat.le_of_ble_eq_true rfl) rfl rfl (fun vr S_794 H locs hP hJ => ?_)
                        obtain ⟨rfl, hX794, hR794⟩ := hP
                        have hQ794 : QOk (k + 1) (n, z, up2 mm (P + 1) 6 1) := (hQ.fri (Or.inr rfl)).mono (Nat.le_succ k)
                        have hL794 : (sT S_794).1 1 = nI 0 := txt_k hL hR794
                        refine lv_iload hx hb dL_changes_797 (lv_at hl 0 rfl) ?_
                        refine lv_iconst (v := 1) hx hb dL_changes_799 (by decide) ?_
                        refine lv_iadd hx hb dL_changes_800 ?_
                        refine lv_icmp_ne (tgt := 808) hx hb dL_changes_801 (by decide) (fun c_801 => ?_) (fun c_801 => ?_)
                        · skip
                          exact absurd (befr_e hn hP1 hf0) c_801
                        · skip
                          refine lv_iconst (v := 1) hx hb dL_changes_804 (by decide) ?_
                          refine lv_goto (tgt := 809) hx hb dL_changes_805 (by decide) ?_
                          exact rW_i C hJ hr rfl (⟨rfl, LX.of hX794 hQ794 hQ hsv h4 hR794⟩) dL_changes_809
                    · skip
                      have hf1 : mm (P + 1) 6 = 1 := c_761
                      refine lv_aload_n hx hb dL_changes_764 rfl (lv_at hl 10 rfl) ?_
                      refine lv_iload hx hb dL_changes_765 (lv_at hl 7 rfl) ?_
                      refine cw_L_87 C hJ (rest := []) (d_part hE hX hXI hQ hP1 rfl hf1) dL_changes_767 hl.1 ⟨Nat.le_of_ble_eq_true rfl, Nat.le_of_ble_eq_true rfl⟩ ⟨Nat.le_refl _, Nat.le_refl _⟩ (Nat.le_of_ble_eq_true rfl) rfl rfl (fun vr S_767 H locs hP hJ => ?_)
                      obtain ⟨rfl, hX767, hR767⟩ := hP
                      have hQ767 : QOk (k + 1) (n, z, up2 mm (P + 1) 6 0) := (hQ.fri (Or.inl rfl)).mono (Nat.le_succ k)
                      have hL767 : (sT S_767).1 1 = nI 0 := txt_k hL hR767
                      refine lv_iload hx hb dL_changes_770 (lv_at hl 0 rfl) ?_
                      refine lv_iconst (v := 1) hx hb dL_changes_772 (by decide) ?_
                      refine lv_isub hx hb dL_changes_773 ?_
                      refine lv_icmp_ne (tgt := 781) hx hb dL_changes_774 (by decide) (fun c_774 => ?_) (fun c_774 => ?_)
                      · skip
                        exact absurd (part_e hn hP1 hf1) c_774
                      · skip
                        refine lv_iconst (v := 1) hx hb dL_changes_777 (by decide) ?_
                        refine lv_goto (tgt := 809) hx hb dL_changes_778 (by decide) ?_
                        exact rW_i C hJ hr rfl (⟨rfl, LX.of hX767 hQ767 hQ hsv h4 hR767⟩) dL_changes_809
                  have J579 : ∀  (ls : Array Slot), (f_hind (gof n mm) (nI P) = 0 ∨ (¬ mm (P + 1) 5 = -1 ∧ ¬ mm (P + 1) 5 < mm P 2 * mm (P + 1) 3 ∧ (f_hind (gof n mm) (nI P) = 0 ∨ f_hind (gof n mm) (nI P) = 4))) → JJ E S s.heap [] → lv_has ls 15 [(11, .int (mm (P + 1) 4)), (10, .int (z 5)), (9, .int (mny n mm)), (8, .int (gof n mm (nI P + 1) 5)), (7, .int (mm (P + 1) 0)), (6, .int (mm P 0)), (5, .int (nI P)), (4, .int (nI n)), (3, .int kd), (0, .ref (gA E 83)), (1, .int ya), (2, .int za)] → W p l e (rmZ 9 204) s m ([.ref (gA E 83), .int ya, .int za] : List Value).toArray below meth c s.heap [] 0 0 (WQ below ([.ref (gA E 83), .int ya, .int za] : List Value).toArray s E (fun v S1 => v = some (.int 1) ∧ LX (k + 1) S S1)) (F0 m 579 ls []) := by
                    intro  ls h579 hJ hl
                    refine lv_iload hx hb dL_changes_579 (lv_at hl 3 rfl) ?_
                    have J602 : ∀ (xt : Int32) (ls : Array Slot), (((xt : Int32) = 0 ∧ (mm (P + 1) 5 = -1 ∨ mm (P + 1) 5 < mm P 2 * mm (P + 1) 3)) ∨ ((xt : Int32) = 1 ∧ ¬ mm (P + 1) 5 = -1 ∧ ¬ mm (P + 1) 5 < mm P 2 * mm (P + 1) 3)) → JJ E S s.heap [] → lv_has ls 15 [(11, .int (mm (P + 1) 4)), (10, .int (z 5)), (9, .int (mny n mm)), (8, .int (gof n mm (nI P + 1) 5)), (7, .int (mm (P + 1) 0)), (6, .int (mm P 0)), (5, .int (nI P)), (4, .int (nI n)), (3, .int kd), (0, .ref (gA E 83)), (1, .int ya), (2, .int za)] → W p l e (rmZ 9 204) s m ([.ref (gA E 83), .int ya, .int za] : List Value).toArray below meth c s.heap [] 0 0 (WQ below ([.ref (gA E 83), .int ya, .int za] : List Value).toArray s E (fun v S1 => v = some (.int 1) ∧ LX (k + 1) S S1)) (F0 m 602 ls [.int xt]) := by
                      intro xt ls hxt hJ hl
                      refine lv_istore (lv' := [(12, .int xt), (11, .int (mm (P + 1) 4)), (10, .int (z 5)), (9, .int (mny n mm)), (8, .int (gof n mm (nI P + 1) 5)), (7, .int (mm (P + 1) 0)), (6, .int (mm P 0)), (5, .int (nI P)), (4, .int (nI n)), (3, .int kd), (0, .ref (gA E 83)), (1, .int ya), (2, .int za)]) hx hb dL_changes_602 hl (by decide) rfl (fun ls hl => ?_)
                      have J621 : ∀ (xd : Int32) (ls : Array Slot), ((xt = 0 ∧ xd = pv z mm P 3) ∨ (¬ xt = 0 ∧ xd = mm (P + 1) 5)) → JJ E S s.heap [] → lv_has ls 15 [(12, .int xt), (11, .int (mm (P + 1) 4)), (10, .int (z 5)), (9, .int (mny n mm)), (8, .int (gof n mm (nI P + 1) 5)), (7, .int (mm (P + 1) 0)), (6, .int (mm P 0)), (5, .int (nI P)), (4, .int (nI n)), (3, .int kd), (0, .ref (gA E 83)), (1, .int ya), (2, .int za)] → W p l e (rmZ 9 204) s m ([.ref (gA E 83), .int ya, .int za] : List Value).toArray below meth c s.heap [] 0 0 (WQ below ([.ref (gA E 83), .int ya, .int za] : List Value).toArray s E (fun v S1 => v = some (.int 1) ∧ LX (k + 1) S S1)) (F0 m 621 ls [.int xd]) := by
                        intro xd ls hxd hJ hl
                        refine lv_istore (lv' := [(13, .int xd), (12, .int xt), (11, .int (mm (P + 1) 4)), (10, .int (z 5)), (9, .int (mny n mm)), (8, .int (gof n mm (nI P + 1) 5)), (7, .int (mm (P + 1) 0)), (6, .int (mm P 0)), (5, .int (nI P)), (4, .int (nI n)), (3, .int kd), (0, .ref (gA E 83)), (1, .int ya), (2, .int za)]) hx hb dL_changes_621 hl (by decide) rfl (fun ls hl => ?_)
                        have J643 : ∀ (TK : ST) (H : Heap) (locs : List Loc) (ls : Array Slot), (XI TK (n, zS z xd, mswap mm P xd) (f_push (n, z, mm) mc sv).1 (f_push (n, z, mm) mc sv).2) → (TK.2.2 = S.2.2) → JJ E TK H locs → lv_has ls 15 [(13, .int xd), (12, .int xt), (11, .int (mm (P + 1) 4)), (10, .int (z 5)), (9, .int (mny n mm)), (8, .int (gof n mm (nI P + 1) 5)), (7, .int (mm (P + 1) 0)), (6, .int (mm P 0)), (5, .int (nI P)), (4, .int (nI n)), (3, .int kd), (0, .ref (gA E 83)), (1, .int ya), (2, .int za)] → W p l e (rmZ 9 204) s m ([.ref (gA E 83), .int ya, .int za] : List Value).toArray below meth c H locs 0 0 (WQ below ([.ref (gA E 83), .int ya, .int za] : List Value).toArray s E (fun v S1 => v = some (.int 1) ∧ LX (k + 1) S S1)) (F0 m 643 ls [.int xd]) := by
                          intro TK H locs ls hXT hRT hJ hl
                          have hQT : QOk (k + 1) (n, zS z xd, mswap mm P xd) := (hQ.swp hP1 rfl xd).mono (Nat.le_succ k)
                          have hLT : (sT TK).1 1 = nI 0 := txt_k hL hRT
                          refine lv_istore (lv' := [(14, .int xd), (13, .int xd), (12, .int xt), (11, .int (mm (P + 1) 4)), (10, .int (z 5)), (9, .int (mny n mm)), (8, .int (gof n mm (nI P + 1) 5)), (7, .int (mm (P + 1) 0)), (6, .int (mm P 0)), (5, .int (nI P)), (4, .int (nI n)), (3, .int kd), (0, .ref (gA E 83)), (1, .int ya), (2, .int za)]) hx hb dL_changes_643 hl (by decide) rfl (fun ls hl => ?_)
                          refine lv_iload hx hb dL_changes_645 (lv_at hl 0 rfl) ?_
                          refine lv_iload hx hb dL_changes_647 (lv_at hl 1 rfl) ?_
                          refine lv_icmp_ne (tgt := 743) hx hb dL_changes_649 (by decide) (fun c_649 => ?_) (fun c_649 => ?_)
                          · skip
                            exact absurd (rfl) c_649
                          · skip
                            refine lv_aload_n hx hb dL_changes_652 rfl (lv_at hl 12 rfl) ?_
                            refine lv_iload hx hb dL_changes_653 (lv_at hl 9 rfl) ?_
                            refine cr_L_14 C hJ (rest := []) (m_at hE hXT hQT (P := P) hP rfl) dL_changes_655 hl.1 ⟨Nat.le_of_ble_eq_true rfl, Nat.le_of_ble_eq_true rfl⟩ ⟨Nat.le_refl _, Nat.le_refl _⟩ (Nat.le_of_ble_eq_true rfl) rfl rfl ?_
                            refine lv_iload hx hb dL_changes_658 (lv_at hl 7 rfl) ?_
                            refine lv_icmp_ne (tgt := 743) hx hb dL_changes_660 (by decide) (fun c_660 => ?_) (fun c_660 => ?_)
                            · skip
                              exact absurd (msw_0) c_660
                            · skip
                              refine lv_aload_n hx hb dL_changes_663 rfl (lv_at hl 12 rfl) ?_
                              refine lv_iload hx hb dL_changes_664 (lv_at hl 9 rfl) ?_
                              refine lv_iconst (v := 1) hx hb dL_changes_666 (by decide) ?_
                              refine lv_iadd hx hb dL_changes_667 ?_
                              refine cr_L_14 C hJ (rest := []) (m_at hE hXT hQT (P := P + 1) hP1 (nI_1 P)) dL_changes_668 hl.1 ⟨Nat.le_of_ble_eq_true rfl, Nat.le_of_ble_eq_true rfl⟩ ⟨Nat.le_refl _, Nat.le_refl _⟩ (Nat.le_of_ble_eq_true rfl) rfl rfl ?_
                              refine lv_iload hx hb dL_changes_671 (lv_at hl 8 rfl) ?_
                              refine lv_icmp_ne (tgt := 743) hx hb dL_changes_673 (by decide) (fun c_673 => ?_) (fun c_673 => ?_)
                              · skip
                                exact absurd (msw_1) c_673
                              · skip
                                refine lv_aload_n hx hb dL_changes_676 rfl (lv_at hl 12 rfl) ?_
                                refine cr_L_34 C hJ (rest := []) (c_L_money hE hXT hQT hLT) dL_changes_677 hl.1 ⟨Nat.le_of_ble_eq_true rfl, Nat.le_of_ble_eq_true rfl⟩ ⟨Nat.le_refl _, Nat.le_refl _⟩ (Nat.le_of_ble_eq_true rfl) rfl rfl ?_
                                refine lv_iload hx hb dL_changes_680 (lv_at hl 5 rfl) ?_
                                refine lv_icmp_ne (tgt := 743) hx hb dL_changes_682 (by decide) (fun c_682 => ?_) (fun c_682 => ?_)
                                · skip
                                  exact absurd (mny_sw xd (by omega)) c_682
                                · skip
                                  refine lv_aload_n hx hb dL_changes_685 rfl (lv_at hl 12 rfl) ?_
                                  refine lv_bipush (v := 10) hx hb dL_changes_686 (by decide) ?_
                                  refine cr_L_8 C hJ (rest := []) (m_whole hE hXT hQT hLT 10 (by decide) (b := 10) (by decide) (v := (zS z xd) 5) rfl) dL_changes_688 hl.1 ⟨Nat.le_of_ble_eq_true rfl, Nat.le_of_ble_eq_true rfl⟩ ⟨Nat.le_refl _, Nat.le_refl _⟩ (Nat.le_of_ble_eq_true rfl) rfl rfl ?_
                                  refine lv_iload hx hb dL_changes_691 (lv_at hl 4 rfl) ?_
                                  refine lv_iload hx hb dL_changes_693 (lv_at hl 1 rfl) ?_
                                  refine lv_iadd hx hb dL_changes_695 ?_
                                  refine lv_icmp_ne (tgt := 743) hx hb dL_changes_696 (by decide) (fun c_696 => ?_) (fun c_696 => ?_)
                                  · skip
                                    exact absurd (show zS z xd 5 = z 5 + xd from rfl) c_696
                                  · skip
                                    refine lv_aload_n hx hb dL_changes_699 rfl (lv_at hl 12 rfl) ?_
                                    refine lv_iload hx hb dL_changes_700 (lv_at hl 7 rfl) ?_
                                    refine lv_bipush (v := 6) hx hb dL_changes_702 (by decide) ?_
                                    refine cr_L_17 C hJ (rest := []) (m_mem hE hXT hQT (P := P) hP msw_0.symm 6 (by decide) (b := 6) (by decide) (v := (mswap mm P xd) P 4) rfl) dL_changes_704 hl.1 ⟨Nat.le_of_ble_eq_true rfl, Nat.le_of_ble_eq_true rfl⟩ ⟨Nat.le_refl _, Nat.le_refl _⟩ (Nat.le_of_ble_eq_true rfl) rfl rfl ?_
                                    refine lv_iload hx hb dL_changes_707 (lv_at hl 3 rfl) ?_
                                    refine lv_iload hx hb dL_changes_709 (lv_at hl 1 rfl) ?_
                                    refine lv_isub hx hb dL_changes_711 ?_
                                    refine lv_icmp_ne (tgt := 743) hx hb dL_changes_712 (by decide) (fun c_712 => ?_) (fun c_712 => ?_)
                                    · skip
                                      exact absurd (msw_4) c_712
                                    · skip
                                      refine lv_aload_n hx hb dL_changes_715 rfl (lv_at hl 12 rfl) ?_
                                      refine lv_iload hx hb dL_changes_716 (lv_at hl 8 rfl) ?_
                                      refine lv_bipush (v := 8) hx hb dL_changes_718 (by decide) ?_
                                      refine cr_L_17 C hJ (rest := []) (m_mem hE hXT hQT (P := P + 1) hP1 msw_1.symm 8 (by decide) (b := 8) (by decide) (v := gof n (mswap mm P xd) (nI (P + 1) + 1) 5) rfl) dL_changes_720 hl.1 ⟨Nat.le_of_ble_eq_true rfl, Nat.le_of_ble_eq_true rfl⟩ ⟨Nat.le_refl _, Nat.le_refl _⟩ (Nat.le_of_ble_eq_true rfl) rfl rfl ?_
                                      refine lv_iconst (v := (-1)) hx hb dL_changes_723 (by decide) ?_
                                      refine lv_icmp_ne (tgt := 743) hx hb dL_changes_724 (by decide) (fun c_724 => ?_) (fun c_724 => ?_)
                                      · skip
                                        exact absurd (msw_g5 hn hP1) c_724
                                      · skip
                                        refine lv_aload_n hx hb dL_changes_727 rfl (lv_at hl 12 rfl) ?_
                                        refine lv_iload hx hb dL_changes_728 (lv_at hl 7 rfl) ?_
                                        refine lv_bipush (v := 7) hx hb dL_changes_730 (by decide) ?_
                                        refine cr_L_17 C hJ (rest := []) (m_mem hE hXT hQT (P := P) hP msw_0.symm 7 (by decide) (b := 7) (by decide) (v := (mswap mm P xd) P 5) rfl) dL_changes_732 hl.1 ⟨Nat.le_of_ble_eq_true rfl, Nat.le_of_ble_eq_true rfl⟩ ⟨Nat.le_refl _, Nat.le_refl _⟩ (Nat.le_of_ble_eq_true rfl) rfl rfl ?_
                                        refine lv_iconst (v := (-1)) hx hb dL_changes_735 (by decide) ?_
                                        refine lv_icmp_ne (tgt := 743) hx hb dL_changes_736 (by decide) (fun c_736 => ?_) (fun c_736 => ?_)
                                        · skip
                                          exact absurd (msw_5) c_736
                                        · skip
                                          refine lv_iconst (v := 1) hx hb dL_changes_739 (by decide) ?_
                                          refine lv_goto (tgt := 744) hx hb dL_changes_740 (by decide) ?_
                                          exact rW_i C hJ hr rfl (⟨rfl, LX.of hXT hQT hQ hsv h4 hRT⟩) dL_changes_744
                        refine lv_iload hx hb dL_changes_623 (lv_at hl 1 rfl) ?_
                        refine lv_if_eq (tgt := 637) hx hb dL_changes_625 (by decide) (fun c_625 => ?_) (fun c_625 => ?_)
                        · skip
                          have exd : xd = pv z mm P 3 := hxd.elim (fun y => y.2) (fun y => absurd c_625 y.1)
                          have hh0 : f_hind (gof n mm) (nI P) = 0 := by
                            rcases h579 with y | y
                            · exact y
                            · exfalso
                              rcases hxt with x | x
                              · exact x.2.elim y.1 y.2.1
                              · rw [c_625] at x; exact absurd x.1 (by decide)
                          refine lv_aload_n hx hb dL_changes_637 rfl (lv_at hl 11 rfl) ?_
                          refine lv_iload hx hb dL_changes_638 (lv_at hl 8 rfl) ?_
                          refine cw_L_84 C hJ (rest := []) ((show MW l E yX6_swap cX6_swap 2 (some .int) 6 139 S [.ref (gA E 83), .int (nI P)] (fun v S1 => v = some (.int xd) ∧ XI S1 (n, zS z xd, mswap mm P xd) (f_push (n, z, mm) mc sv).1 (f_push (n, z, mm) mc sv).2 ∧ S1.2.2 = S.2.2) by rw [exd]; exact d_swap hE hX hXI hQ hP1 rfl hh0)) dL_changes_640 hl.1 ⟨Nat.le_of_ble_eq_true rfl, Nat.le_of_ble_eq_true rfl⟩ ⟨Nat.le_refl _, Nat.le_refl _⟩ (Nat.le_of_ble_eq_true rfl) rfl rfl (fun vr S_640 H locs hP hJ => ?_)
                          obtain ⟨rfl, hX640, hR640⟩ := hP
                          have hQ640 : QOk (k + 1) (n, zS z xd, mswap mm P xd) := (hQ.swp hP1 rfl xd).mono (Nat.le_succ k)
                          have hL640 : (sT S_640).1 1 = nI 0 := txt_k hL hR640
                          exact J643 S_640 _ _ _ hX640 hR640 hJ (lv_sub hl [0, 1, 2, 3, 4, 5, 6, 7, 8, 9, 10, 11, 12, 13] rfl)
                        · skip
                          have exd : xd = mm (P + 1) 5 := hxd.elim (fun y => absurd y.1 c_625) (fun y => y.2)
                          have hx2 : ¬ mm (P + 1) 5 = -1 ∧ ¬ mm (P + 1) 5 < mm P 2 * mm (P + 1) 3 := hxt.elim (fun y => absurd y.1 c_625) (fun y => y.2)
                          have hh1 : f_hind (gof n mm) (nI P) = 0 ∨ f_hind (gof n mm) (nI P) = 4 := h579.elim (fun y => Or.inl y) (fun y => y.2.2)
                          refine lv_aload_n hx hb dL_changes_628 rfl (lv_at hl 11 rfl) ?_
                          refine lv_iload hx hb dL_changes_629 (lv_at hl 7 rfl) ?_
                          refine cw_L_81 C hJ (rest := []) ((show MW l E yX6_take cX6_take 2 (some .int) 6 139 S [.ref (gA E 83), .int (mm P 0)] (fun v S1 => v = some (.int xd) ∧ XI S1 (n, zS z xd, mswap mm P xd) (f_push (n, z, mm) mc sv).1 (f_push (n, z, mm) mc sv).2 ∧ S1.2.2 = S.2.2) by rw [exd]; exact d_take hE hX hXI hQ hP1 rfl hx2.1 hx2.2 hh1)) dL_changes_631 hl.1 ⟨Nat.le_of_ble_eq_true rfl, Nat.le_of_ble_eq_true rfl⟩ ⟨Nat.le_refl _, Nat.le_refl _⟩ (Nat.le_of_ble_eq_true rfl) rfl rfl (fun vr S_631 H locs hP hJ => ?_)
                          obtain ⟨rfl, hX631, hR631⟩ := hP
                          have hQ631 : QOk (k + 1) (n, zS z xd, mswap mm P xd) := (hQ.swp hP1 rfl xd).mono (Nat.le_succ k)
                          have hL631 : (sT S_631).1 1 = nI 0 := txt_k hL hR631
                          refine lv_goto (tgt := 643) hx hb dL_changes_634 (by decide) ?_
                          exact J643 S_631 _ _ _ hX631 hR631 hJ (lv_sub hl [0, 1, 2, 3, 4, 5, 6, 7, 8, 9, 10, 11, 12, 13] rfl)
                      refine lv_iload hx hb dL_changes_604 (lv_at hl 0 rfl) ?_
                      refine lv_if_eq (tgt := 614) hx hb dL_changes_606 (by decide) (fun c_606 => ?_) (fun c_606 => ?_)
                      · skip
                        have hxd : (xt = 0 ∧ pv z mm P 3 = pv z mm P 3) ∨ (¬ xt = 0 ∧ pv z mm P 3 = mm (P + 1) 5) := Or.inl ⟨c_606, rfl⟩
                        refine lv_aload_n hx hb dL_changes_614 rfl (lv_at hl 10 rfl) ?_
                        refine lv_iload hx hb dL_changes_615 (lv_at hl 7 rfl) ?_
                        refine lv_iconst (v := 3) hx hb dL_changes_617 (by decide) ?_
                        refine cr_L_24 C hJ (rest := []) (m_pair hE hXI hQ (P := P) hP1 rfl 3 (by decide) (b := 3) (by decide) (v := pv z mm P 3) rfl) dL_changes_618 hl.1 ⟨Nat.le_of_ble_eq_true rfl, Nat.le_of_ble_eq_true rfl⟩ ⟨Nat.le_refl _, Nat.le_refl _⟩ (Nat.le_of_ble_eq_true rfl) rfl rfl ?_
                        exact J621 (pv z mm P 3) _ hxd hJ (lv_sub hl [0, 1, 2, 3, 4, 5, 6, 7, 8, 9, 10, 11, 12] rfl)
                      · skip
                        have hxd : (xt = 0 ∧ gof n mm (nI P + 1) 5 = pv z mm P 3) ∨ (¬ xt = 0 ∧ gof n mm (nI P + 1) 5 = mm (P + 1) 5) := Or.inr ⟨c_606, e85⟩
                        refine lv_iload hx hb dL_changes_609 (lv_at hl 4 rfl) ?_
                        refine lv_goto (tgt := 621) hx hb dL_changes_611 (by decide) ?_
                        exact J621 (gof n mm (nI P + 1) 5) _ hxd hJ (lv_sub hl [0, 1, 2, 3, 4, 5, 6, 7, 8, 9, 10, 11, 12] rfl)
                    refine lv_aload_n hx hb dL_changes_581 rfl (lv_at hl 9 rfl) ?_
                    refine lv_iload hx hb dL_changes_582 (lv_at hl 6 rfl) ?_
                    refine lv_iconst (v := 1) hx hb dL_changes_584 (by decide) ?_
                    refine cr_L_24 C hJ (rest := [.int (gof n mm (nI P + 1) 5)]) (m_pair hE hXI hQ (P := P) hP1 rfl 1 (by decide) (b := 1) (by decide) (v := mm P 2 * mm (P + 1) 3) rfl) dL_changes_585 hl.1 ⟨Nat.le_of_ble_eq_true rfl, Nat.le_of_ble_eq_true rfl⟩ ⟨Nat.le_refl _, Nat.le_refl _⟩ (Nat.le_of_ble_eq_true rfl) rfl rfl ?_
                    refine lv_icmp_lt (tgt := 601) hx hb dL_changes_588 (by decide) (fun c_588 => ?_) (fun c_588 => ?_)
                    · skip
                      have hxt : ((0 : Int32) = 0 ∧ (mm (P + 1) 5 = -1 ∨ mm (P + 1) 5 < mm P 2 * mm (P + 1) 3)) ∨ ((0 : Int32) = 1 ∧ ¬ mm (P + 1) 5 = -1 ∧ ¬ mm (P + 1) 5 < mm P 2 * mm (P + 1) 3) := Or.inl ⟨rfl, Or.inr (by rw [← e85]; exact c_588)⟩
                      refine lv_iconst (v := 0) hx hb dL_changes_601 (by decide) ?_
                      exact J602 0 _ hxt hJ (lv_sub hl [0, 1, 2, 3, 4, 5, 6, 7, 8, 9, 10, 11] rfl)
                    · skip
                      refine lv_iload hx hb dL_changes_591 (lv_at hl 3 rfl) ?_
                      refine lv_iconst (v := (-1)) hx hb dL_changes_593 (by decide) ?_
                      refine lv_icmp_eq (tgt := 601) hx hb dL_changes_594 (by decide) (fun c_594 => ?_) (fun c_594 => ?_)
                      · skip
                        have hxt : ((0 : Int32) = 0 ∧ (mm (P + 1) 5 = -1 ∨ mm (P + 1) 5 < mm P 2 * mm (P + 1) 3)) ∨ ((0 : Int32) = 1 ∧ ¬ mm (P + 1) 5 = -1 ∧ ¬ mm (P + 1) 5 < mm P 2 * mm (P + 1) 3) := Or.inl ⟨rfl, Or.inl (by rw [← e85]; exact c_594)⟩
                        refine lv_iconst (v := 0) hx hb dL_changes_601 (by decide) ?_
                        exact J602 0 _ hxt hJ (lv_sub hl [0, 1, 2, 3, 4, 5, 6, 7, 8, 9, 10, 11] rfl)
                      · skip
                        have hxt : ((1 : Int32) = 0 ∧ (mm (P + 1) 5 = -1 ∨ mm (P + 1) 5 < mm P 2 * mm (P + 1) 3)) ∨ ((1 : Int32) = 1 ∧ ¬ mm (P + 1) 5 = -1 ∧ ¬ mm (P + 1) 5 < mm P 2 * mm (P + 1) 3) := Or.inr ⟨rfl, by rw [← e85]; exact c_594, by rw [← e85]; exact c_588⟩
                        refine lv_iconst (v := 1) hx hb dL_changes_597 (by decide) ?_
                        refine lv_goto (tgt := 602) hx hb dL_changes_598 (by decide) ?_
                        exact J602 1 _ hxt hJ (lv_sub hl [0, 1, 2, 3, 4, 5, 6, 7, 8, 9, 10, 11] rfl)
                  have J536 : ∀  (ls : Array Slot), JJ E S s.heap [] → lv_has ls 15 [(11, .int (mm (P + 1) 4)), (10, .int (z 5)), (9, .int (mny n mm)), (8, .int (gof n mm (nI P + 1) 5)), (7, .int (mm (P + 1) 0)), (6, .int (mm P 0)), (5, .int (nI P)), (4, .int (nI n)), (3, .int kd), (0, .ref (gA E 83)), (1, .int ya), (2, .int za)] → W p l e (rmZ 9 204) s m ([.ref (gA E 83), .int ya, .int za] : List Value).toArray below meth c s.heap [] 0 0 (WQ below ([.ref (gA E 83), .int ya, .int za] : List Value).toArray s E (fun v S1 => v = some (.int 1) ∧ LX (k + 1) S S1)) (F0 m 536 ls []) := by
                    intro  ls  hJ hl
                    refine lv_iload_n hx hb dL_changes_536 rfl (lv_at hl 8 rfl) ?_
                    refine lv_bipush (v := 15) hx hb dL_changes_537 (by decide) ?_
                    refine lv_icmp_ge (tgt := 745) hx hb dL_changes_539 (by decide) (fun c_539 => ?_) (fun c_539 => ?_)
                    · skip
                      exact J745 _ hJ (lv_sub hl [0, 1, 2, 3, 4, 5, 6, 7, 8, 9, 10, 11] rfl)
                    · skip
                      refine lv_iload hx hb dL_changes_542 (lv_at hl 3 rfl) ?_
                      refine lv_iconst (v := (-1)) hx hb dL_changes_544 (by decide) ?_
                      refine lv_icmp_eq (tgt := 745) hx hb dL_changes_545 (by decide) (fun c_545 => ?_) (fun c_545 => ?_)
                      · skip
                        exact J745 _ hJ (lv_sub hl [0, 1, 2, 3, 4, 5, 6, 7, 8, 9, 10, 11] rfl)
                      · skip
                        refine lv_iload hx hb dL_changes_548 (lv_at hl 3 rfl) ?_
                        refine lv_aload_n hx hb dL_changes_550 rfl (lv_at hl 9 rfl) ?_
                        refine lv_iload hx hb dL_changes_551 (lv_at hl 6 rfl) ?_
                        refine lv_iconst (v := 1) hx hb dL_changes_553 (by decide) ?_
                        refine cr_L_24 C hJ (rest := [.int (gof n mm (nI P + 1) 5)]) (m_pair hE hXI hQ (P := P) hP1 rfl 1 (by decide) (b := 1) (by decide) (v := mm P 2 * mm (P + 1) 3) rfl) dL_changes_554 hl.1 ⟨Nat.le_of_ble_eq_true rfl, Nat.le_of_ble_eq_true rfl⟩ ⟨Nat.le_refl _, Nat.le_refl _⟩ (Nat.le_of_ble_eq_true rfl) rfl rfl ?_
                        refine lv_icmp_lt (tgt := 745) hx hb dL_changes_557 (by decide) (fun c_557 => ?_) (fun c_557 => ?_)
                        · skip
                          exact J745 _ hJ (lv_sub hl [0, 1, 2, 3, 4, 5, 6, 7, 8, 9, 10, 11] rfl)
                        · skip
                          refine lv_aload_n hx hb dL_changes_560 rfl (lv_at hl 9 rfl) ?_
                          refine lv_iload hx hb dL_changes_561 (lv_at hl 6 rfl) ?_
                          refine cr_L_21 C hJ (rest := []) (m_reason hE hXI hQ (P := P) hP1 rfl) dL_changes_563 hl.1 ⟨Nat.le_of_ble_eq_true rfl, Nat.le_of_ble_eq_true rfl⟩ ⟨Nat.le_refl _, Nat.le_refl _⟩ (Nat.le_of_ble_eq_true rfl) rfl rfl ?_
                          refine lv_if_eq (tgt := 579) hx hb dL_changes_566 (by decide) (fun c_566 => ?_) (fun c_566 => ?_)
                          · skip
                            have h579 : f_hind (gof n mm) (nI P) = 0 ∨ (¬ mm (P + 1) 5 = -1 ∧ ¬ mm (P + 1) 5 < mm P 2 * mm (P + 1) 3 ∧ (f_hind (gof n mm) (nI P) = 0 ∨ f_hind (gof n mm) (nI P) = 4)) := Or.inl c_566
                            exact J579 _ h579 hJ (lv_sub hl [0, 1, 2, 3, 4, 5, 6, 7, 8, 9, 10, 11] rfl)
                          · skip
                            refine lv_aload_n hx hb dL_changes_569 rfl (lv_at hl 9 rfl) ?_
                            refine lv_iload hx hb dL_changes_570 (lv_at hl 6 rfl) ?_
                            refine cr_L_21 C hJ (rest := []) (m_reason hE hXI hQ (P := P) hP1 rfl) dL_changes_572 hl.1 ⟨Nat.le_of_ble_eq_true rfl, Nat.le_of_ble_eq_true rfl⟩ ⟨Nat.le_refl _, Nat.le_refl _⟩ (Nat.le_of_ble_eq_true rfl) rfl rfl ?_
                            refine lv_iconst (v := 4) hx hb dL_changes_575 (by decide) ?_
                            refine lv_icmp_ne (tgt := 745) hx hb dL_changes_576 (by decide) (fun c_576 => ?_) (fun c_576 => ?_)
                            · skip
                              exact J745 _ hJ (lv_sub hl [0, 1, 2, 3, 4, 5, 6, 7, 8, 9, 10, 11] rfl)
                            · skip
                              have h579 : f_hind (gof n mm) (nI P) = 0 ∨ (¬ mm (P + 1) 5 = -1 ∧ ¬ mm (P + 1) 5 < mm P 2 * mm (P + 1) 3 ∧ (f_hind (gof n mm) (nI P) = 0 ∨ f_hind (gof n mm) (nI P) = 4)) := Or.inr ⟨by rw [← e85]; exact c_545, by rw [← e85]; exact c_557, Or.inr c_576⟩
                              exact J579 _ h579 hJ (lv_sub hl [0, 1, 2, 3, 4, 5, 6, 7, 8, 9, 10, 11] rfl)
                  refine lv_iload_n hx hb dL_changes_521 rfl (lv_at hl 8 rfl) ?_
                  refine lv_bipush (v := 13) hx hb dL_changes_522 (by decide) ?_
                  refine lv_icmp_ge (tgt := 536) hx hb dL_changes_524 (by decide) (fun c_524 => ?_) (fun c_524 => ?_)
                  · skip
                    exact J536 _ hJ (lv_sub hl [0, 1, 2, 3, 4, 5, 6, 7, 8, 9, 10, 11] rfl)
                  · skip
                    refine lv_aload_n hx hb dL_changes_527 rfl (lv_at hl 9 rfl) ?_
                    refine lv_iload hx hb dL_changes_528 (lv_at hl 6 rfl) ?_
                    refine cr_L_21 C hJ (rest := []) (m_reason hE hXI hQ (P := P) hP1 rfl) dL_changes_530 hl.1 ⟨Nat.le_of_ble_eq_true rfl, Nat.le_of_ble_eq_true rfl⟩ ⟨Nat.le_refl _, Nat.le_refl _⟩ (Nat.le_of_ble_eq_true rfl) rfl rfl ?_
                    refine lv_if_eq (tgt := 579) hx hb dL_changes_533 (by decide) (fun c_533 => ?_) (fun c_533 => ?_)
                    · skip
                      have h579 : f_hind (gof n mm) (nI P) = 0 ∨ (¬ mm (P + 1) 5 = -1 ∧ ¬ mm (P + 1) 5 < mm P 2 * mm (P + 1) 3 ∧ (f_hind (gof n mm) (nI P) = 0 ∨ f_hind (gof n mm) (nI P) = 4)) := Or.inl c_533
                      exact J579 _ h579 hJ (lv_sub hl [0, 1, 2, 3, 4, 5, 6, 7, 8, 9, 10, 11] rfl)
                    · skip
                      exact J536 _ hJ (lv_sub hl [0, 1, 2, 3, 4, 5, 6, 7, 8, 9, 10, 11] rfl)
                · skip
                  refine lv_aload_n hx hb dL_changes_449 rfl (lv_at hl 4 rfl) ?_
                  refine lv_iconst (v := 1) hx hb dL_changes_450 (by decide) ?_
                  refine cr_L_8 C hJ (rest := []) (m_whole hE hXI hQ hL 1 (by decide) (b := 1) (by decide) (v := z 3) rfl) dL_changes_451 hl.1 ⟨Nat.le_of_ble_eq_true rfl, Nat.le_of_ble_eq_true rfl⟩ ⟨Nat.le_refl _, Nat.le_refl _⟩ (Nat.le_of_ble_eq_true rfl) rfl rfl ?_
                  refine lv_istore (lv' := [(7, .int (z 3)), (6, .int (mm P 0)), (5, .int (nI P)), (4, .int (nI n)), (3, .int kd), (0, .ref (gA E 83)), (1, .int ya), (2, .int za)]) hx hb dL_changes_454 hl (by decide) rfl (fun ls hl => ?_)
                  refine lv_aload_n hx hb dL_changes_456 rfl (lv_at hl 5 rfl) ?_
                  refine lv_iload_n hx hb dL_changes_457 rfl (lv_at hl 7 rfl) ?_
                  refine lv_bipush (v := 101) hx hb dL_changes_458 (by decide) ?_
                  refine cr_L_52 C hJ (rest := [.ref (gA E 83)]) ((show MR l E yL_low cL_low 2 (some .int) 0 0 S [.int za, .int 101] (some (.int (f_low za 101))) from c_L_low hE za (u_k := 101) (by decide) (by decide))) dL_changes_460 hl.1 ⟨Nat.le_of_ble_eq_true rfl, Nat.le_of_ble_eq_true rfl⟩ ⟨Nat.le_refl _, Nat.le_refl _⟩ (Nat.le_of_ble_eq_true rfl) rfl rfl ?_
                  refine cw_L_78 C hJ (rest := []) (d_setSplit hE hXI hQ (low_in za (u_k := 100) (by decide))) dL_changes_463 hl.1 ⟨Nat.le_of_ble_eq_true rfl, Nat.le_of_ble_eq_true rfl⟩ ⟨Nat.le_refl _, Nat.le_refl _⟩ (Nat.le_of_ble_eq_true rfl) rfl rfl (fun vr S_463 H locs hP hJ => ?_)
                  obtain ⟨rfl, hX463, hR463⟩ := hP
                  have hQ463 : QOk (k + 1) (n, (upd z 3 (f_low za 101)), mm) := (hQ.zz rfl).mono (Nat.le_succ k)
                  have hL463 : (sT S_463).1 1 = nI 0 := txt_k hL hR463
                  refine lv_iload hx hb dL_changes_466 (lv_at hl 0 rfl) ?_
                  refine lv_icmp_ne (tgt := 475) hx hb dL_changes_468 (by decide) (fun c_468 => ?_) (fun c_468 => ?_)
                  · skip
                    exact absurd (rfl) c_468
                  · skip
                    refine lv_iconst (v := 1) hx hb dL_changes_471 (by decide) ?_
                    refine lv_goto (tgt := 476) hx hb dL_changes_472 (by decide) ?_
                    exact rW_i C hJ hr rfl (⟨rfl, LX.of hX463 hQ463 hQ hsv h4 hR463⟩) dL_changes_476
              · skip
                refine lv_aload_n hx hb dL_changes_433 rfl (lv_at hl 4 rfl) ?_
                refine lv_iload hx hb dL_changes_434 (lv_at hl 0 rfl) ?_
                obtain ⟨u_c, zs, ms, hS⟩ : ∃ u_c zs ms, f_set n 1000 z mm = (u_c, zs, ms) := ⟨_, _, _, rfl⟩
                have hQs : QOk k (n, zs, ms) := by have y := QOk.set 1000 z mm hQ; rw [hS] at y; exact y
                refine cw_L_74 C hJ (rest := []) (c_L_settles hE hX hXI hQ hL hS hP) dL_changes_436 hl.1 ⟨Nat.le_of_ble_eq_true rfl, Nat.le_of_ble_eq_true rfl⟩ ⟨Nat.le_refl _, Nat.le_refl _⟩ (Nat.le_of_ble_eq_true rfl) rfl rfl (fun vr S_436 H locs hP hJ => ?_)
                obtain ⟨rfl, hX436, hR436⟩ := hP
                exact rW_i C hJ hr rfl (⟨rfl, LX.of hX436 (hQs.mono (Nat.le_succ k)) hQ hsv h4 hR436⟩) dL_changes_439
            refine lv_iload_n hx hb dL_changes_358 rfl (lv_at hl 3 rfl) ?_
            refine lv_bipush (v := 9) hx hb dL_changes_359 (by decide) ?_
            refine lv_icmp_ge (tgt := 427) hx hb dL_changes_361 (by decide) (fun c_361 => ?_) (fun c_361 => ?_)
            · skip
              exact J427 _ hJ (lv_sub hl [0, 1, 2, 3, 4, 5, 6] rfl)
            · skip
              refine lv_iload hx hb dL_changes_364 (lv_at hl 1 rfl) ?_
              refine lv_if_le (tgt := 427) hx hb dL_changes_366 (by decide) (fun c_366 => ?_) (fun c_366 => ?_)
              · skip
                exact J427 _ hJ (lv_sub hl [0, 1, 2, 3, 4, 5, 6] rfl)
              · skip
                have h0P : 0 < P := lpp1 c_366
                refine lv_aload_n hx hb dL_changes_369 rfl (lv_at hl 4 rfl) ?_
                refine lv_iload hx hb dL_changes_370 (lv_at hl 0 rfl) ?_
                refine lv_bipush (v := 7) hx hb dL_changes_372 (by decide) ?_
                refine cr_L_17 C hJ (rest := []) (m_mem hE hXI hQ (P := P) hP rfl 7 (by decide) (b := 7) (by decide) (v := mm P 5) rfl) dL_changes_374 hl.1 ⟨Nat.le_of_ble_eq_true rfl, Nat.le_of_ble_eq_true rfl⟩ ⟨Nat.le_refl _, Nat.le_refl _⟩ (Nat.le_of_ble_eq_true rfl) rfl rfl ?_
                refine lv_istore (lv' := [(7, .int (mm P 5)), (6, .int (mm P 0)), (5, .int (nI P)), (4, .int (nI n)), (3, .int kd), (0, .ref (gA E 83)), (1, .int ya), (2, .int za)]) hx hb dL_changes_377 hl (by decide) rfl (fun ls hl => ?_)
                refine lv_aload_n hx hb dL_changes_379 rfl (lv_at hl 5 rfl) ?_
                refine lv_iload hx hb dL_changes_380 (lv_at hl 1 rfl) ?_
                refine lv_iload_n hx hb dL_changes_382 rfl (lv_at hl 7 rfl) ?_
                refine lv_sipush (v := 1500) hx hb dL_changes_383 (by decide) ?_
                refine cr_L_52 C hJ (rest := [.int (mm P 0), .ref (gA E 83)]) ((show MR l E yL_low cL_low 2 (some .int) 0 0 S [.int za, .int 1500] (some (.int (f_low za 1500))) from c_L_low hE za (u_k := 1500) (by decide) (by decide))) dL_changes_386 hl.1 ⟨Nat.le_of_ble_eq_true rfl, Nat.le_of_ble_eq_true rfl⟩ ⟨Nat.le_refl _, Nat.le_refl _⟩ (Nat.le_of_ble_eq_true rfl) rfl rfl ?_
                refine cw_L_71 C hJ (rest := []) (d_offer hE hX hXI hQ hP h0P rfl (low_9999 za)) dL_changes_389 hl.1 ⟨Nat.le_of_ble_eq_true rfl, Nat.le_of_ble_eq_true rfl⟩ ⟨Nat.le_refl _, Nat.le_refl _⟩ (Nat.le_of_ble_eq_true rfl) rfl rfl (fun vr S_389 H locs hP hJ => ?_)
                obtain ⟨rfl, hX389, hR389⟩ := hP
                have hQ389 : QOk (k + 1) (n, z, up2 mm P 5 (f_low za 1500)) := (hQ.off h0P).mono (Nat.le_succ k)
                have hL389 : (sT S_389).1 1 = nI 0 := txt_k hL hR389
                refine lv_iload hx hb dL_changes_392 (lv_at hl 0 rfl) ?_
                refine lv_icmp_ne (tgt := 425) hx hb dL_changes_394 (by decide) (fun c_394 => ?_) (fun c_394 => ?_)
                · skip
                  exact absurd (rfl) c_394
                · skip
                  refine lv_aload_n hx hb dL_changes_397 rfl (lv_at hl 5 rfl) ?_
                  refine lv_aload_n hx hb dL_changes_398 rfl (lv_at hl 5 rfl) ?_
                  refine lv_iload hx hb dL_changes_399 (lv_at hl 2 rfl) ?_
                  refine lv_iconst (v := 1) hx hb dL_changes_401 (by decide) ?_
                  refine lv_isub hx hb dL_changes_402 ?_
                  refine cr_L_14 C hJ (rest := [.ref (gA E 83)]) (m_at hE hX389 hQ389 (P := P - 1) (show P - 1 < n by omega) (nI_pd h0P)) dL_changes_403 hl.1 ⟨Nat.le_of_ble_eq_true rfl, Nat.le_of_ble_eq_true rfl⟩ ⟨Nat.le_refl _, Nat.le_refl _⟩ (Nat.le_of_ble_eq_true rfl) rfl rfl ?_
                  refine lv_bipush (v := 8) hx hb dL_changes_406 (by decide) ?_
                  refine cr_L_17 C hJ (rest := []) (m_mem hE hX389 hQ389 (P := P - 1) (show P - 1 < n by omega) rfl 8 (by decide) (b := 8) (by decide) (v := gof n (up2 mm P 5 (f_low za 1500)) (nI (P - 1) + 1) 5) rfl) dL_changes_408 hl.1 ⟨Nat.le_of_ble_eq_true rfl, Nat.le_of_ble_eq_true rfl⟩ ⟨Nat.le_refl _, Nat.le_refl _⟩ (Nat.le_of_ble_eq_true rfl) rfl rfl ?_
                  refine lv_iload_n hx hb dL_changes_411 rfl (lv_at hl 7 rfl) ?_
                  refine lv_sipush (v := 1500) hx hb dL_changes_412 (by decide) ?_
                  refine cr_L_52 C hJ (rest := [.int (gof n (up2 mm P 5 (f_low za 1500)) (nI (P - 1) + 1) 5)]) ((show MR l E yL_low cL_low 2 (some .int) 0 0 S_389 [.int za, .int 1500] (some (.int (f_low za 1500))) from c_L_low hE za (u_k := 1500) (by decide) (by decide))) dL_changes_415 hl.1 ⟨Nat.le_of_ble_eq_true rfl, Nat.le_of_ble_eq_true rfl⟩ ⟨Nat.le_refl _, Nat.le_refl _⟩ (Nat.le_of_ble_eq_true rfl) rfl rfl ?_
                  refine lv_icmp_ne (tgt := 425) hx hb dL_changes_418 (by decide) (fun c_418 => ?_) (fun c_418 => ?_)
                  · skip
                    exact absurd (up2_g5 hn hP h0P) c_418
                  · skip
                    refine lv_iconst (v := 1) hx hb dL_changes_421 (by decide) ?_
                    refine lv_goto (tgt := 426) hx hb dL_changes_422 (by decide) ?_
                    exact rW_i C hJ hr rfl (⟨rfl, LX.of hX389 hQ389 hQ hsv h4 hR389⟩) dL_changes_426
          · skip
            refine lv_aload_n hx hb dL_changes_310 rfl (lv_at hl 4 rfl) ?_
            refine lv_iload hx hb dL_changes_311 (lv_at hl 0 rfl) ?_
            refine lv_iconst (v := 2) hx hb dL_changes_313 (by decide) ?_
            refine cr_L_17 C hJ (rest := []) (m_mem hE hXI hQ (P := P) hP rfl 2 (by decide) (b := 2) (by decide) (v := mm P 2) rfl) dL_changes_314 hl.1 ⟨Nat.le_of_ble_eq_true rfl, Nat.le_of_ble_eq_true rfl⟩ ⟨Nat.le_refl _, Nat.le_refl _⟩ (Nat.le_of_ble_eq_true rfl) rfl rfl ?_
            refine lv_istore (lv' := [(7, .int (mm P 2)), (6, .int (mm P 0)), (5, .int (nI P)), (4, .int (nI n)), (3, .int kd), (0, .ref (gA E 83)), (1, .int ya), (2, .int za)]) hx hb dL_changes_317 hl (by decide) rfl (fun ls hl => ?_)
            refine lv_aload_n hx hb dL_changes_319 rfl (lv_at hl 5 rfl) ?_
            refine lv_iload hx hb dL_changes_320 (lv_at hl 1 rfl) ?_
            refine lv_iload_n hx hb dL_changes_322 rfl (lv_at hl 7 rfl) ?_
            refine lv_bipush (v := 100) hx hb dL_changes_323 (by decide) ?_
            refine cr_L_52 C hJ (rest := [.int (mm P 0), .ref (gA E 83)]) ((show MR l E yL_low cL_low 2 (some .int) 0 0 S [.int za, .int 100] (some (.int (f_low za 100))) from c_L_low hE za (u_k := 100) (by decide) (by decide))) dL_changes_325 hl.1 ⟨Nat.le_of_ble_eq_true rfl, Nat.le_of_ble_eq_true rfl⟩ ⟨Nat.le_refl _, Nat.le_refl _⟩ (Nat.le_of_ble_eq_true rfl) rfl rfl ?_
            refine cw_L_68 C hJ (rest := []) (d_say hE hX hXI hQ hP rfl (low_in za (u_k := 99) (by decide))) dL_changes_328 hl.1 ⟨Nat.le_of_ble_eq_true rfl, Nat.le_of_ble_eq_true rfl⟩ ⟨Nat.le_refl _, Nat.le_refl _⟩ (Nat.le_of_ble_eq_true rfl) rfl rfl (fun vr S_328 H locs hP hJ => ?_)
            obtain ⟨rfl, hX328, hR328⟩ := hP
            have hQ328 : QOk (k + 1) (n, z, up2 mm P 2 (f_low za 100)) := (hQ.say (low_in za (u_k := 99) (by decide))).mono (Nat.le_succ k)
            have hL328 : (sT S_328).1 1 = nI 0 := txt_k hL hR328
            refine lv_iload hx hb dL_changes_331 (lv_at hl 0 rfl) ?_
            refine lv_icmp_ne (tgt := 356) hx hb dL_changes_333 (by decide) (fun c_333 => ?_) (fun c_333 => ?_)
            · skip
              exact absurd (rfl) c_333
            · skip
              refine lv_aload_n hx hb dL_changes_336 rfl (lv_at hl 5 rfl) ?_
              refine lv_iload hx hb dL_changes_337 (lv_at hl 1 rfl) ?_
              refine lv_iconst (v := 2) hx hb dL_changes_339 (by decide) ?_
              refine cr_L_17 C hJ (rest := []) (m_mem hE hX328 hQ328 (P := P) hP (up2_ne (by decide)).symm 2 (by decide) (b := 2) (by decide) (v := (up2 mm P 2 (f_low za 100)) P 2) rfl) dL_changes_340 hl.1 ⟨Nat.le_of_ble_eq_true rfl, Nat.le_of_ble_eq_true rfl⟩ ⟨Nat.le_refl _, Nat.le_refl _⟩ (Nat.le_of_ble_eq_true rfl) rfl rfl ?_
              refine lv_iload_n hx hb dL_changes_343 rfl (lv_at hl 7 rfl) ?_
              refine lv_bipush (v := 100) hx hb dL_changes_344 (by decide) ?_
              refine cr_L_52 C hJ (rest := [.int ((up2 mm P 2 (f_low za 100)) P 2)]) ((show MR l E yL_low cL_low 2 (some .int) 0 0 S_328 [.int za, .int 100] (some (.int (f_low za 100))) from c_L_low hE za (u_k := 100) (by decide) (by decide))) dL_changes_346 hl.1 ⟨Nat.le_of_ble_eq_true rfl, Nat.le_of_ble_eq_true rfl⟩ ⟨Nat.le_refl _, Nat.le_refl _⟩ (Nat.le_of_ble_eq_true rfl) rfl rfl ?_
              refine lv_icmp_ne (tgt := 356) hx hb dL_changes_349 (by decide) (fun c_349 => ?_) (fun c_349 => ?_)
              · skip
                exact absurd (up2_at) c_349
              · skip
                refine lv_iconst (v := 1) hx hb dL_changes_352 (by decide) ?_
                refine lv_goto (tgt := 357) hx hb dL_changes_353 (by decide) ?_
                exact rW_i C hJ hr rfl (⟨rfl, LX.of hX328 hQ328 hQ hsv h4 hR328⟩) dL_changes_357
        · skip
          refine lv_iload_n hx hb dL_changes_242 rfl (lv_at hl 6 rfl) ?_
          refine lv_iconst (v := 1) hx hb dL_changes_243 (by decide) ?_
          refine lv_iand hx hb dL_changes_244 ?_
          refine lv_if_ne (tgt := 279) hx hb dL_changes_245 (by decide) (fun c_245 => ?_) (fun c_245 => ?_)
          · skip
            refine lv_aload_n hx hb dL_changes_279 rfl (lv_at hl 4 rfl) ?_
            refine cw_L_55 C hJ (rest := []) (d_serve hE hX hXI hQ (show 0 < n by omega)) dL_changes_280 hl.1 ⟨Nat.le_of_ble_eq_true rfl, Nat.le_of_ble_eq_true rfl⟩ ⟨Nat.le_refl _, Nat.le_refl _⟩ (Nat.le_of_ble_eq_true rfl) rfl rfl (fun vr S_280 H locs hP hJ => ?_)
            obtain ⟨rfl, hX280, hR280⟩ := hP
            have hQ280 : QOk (k + 1) (n - 1, (upd (upd z 2 (nI (n - 1))) 6 (z 6 + 1)), mrem mm 0) := (hQ.rem (show 0 < n by omega) rfl).mono (Nat.le_succ k)
            have hL280 : (sT S_280).1 1 = nI 0 := txt_k hL hR280
            refine lv_if_lt (tgt := 302) hx hb dL_changes_283 (by decide) (fun c_283 => ?_) (fun c_283 => ?_)
            · skip
              exact absurd c_283 (hQ.num (by omega) (show 0 < n by omega))
            · skip
              refine lv_aload_n hx hb dL_changes_286 rfl (lv_at hl 4 rfl) ?_
              refine lv_iconst (v := 0) hx hb dL_changes_287 (by decide) ?_
              refine cr_L_8 C hJ (rest := []) (m_whole hE hX280 hQ280 hL280 0 (by decide) (b := 0) (by decide) (v := nI (n - 1)) rfl) dL_changes_288 hl.1 ⟨Nat.le_of_ble_eq_true rfl, Nat.le_of_ble_eq_true rfl⟩ ⟨Nat.le_refl _, Nat.le_refl _⟩ (Nat.le_of_ble_eq_true rfl) rfl rfl ?_
              refine lv_iload hx hb dL_changes_291 (lv_at hl 2 rfl) ?_
              refine lv_iconst (v := 1) hx hb dL_changes_293 (by decide) ?_
              refine lv_isub hx hb dL_changes_294 ?_
              refine lv_icmp_ne (tgt := 302) hx hb dL_changes_295 (by decide) (fun c_295 => ?_) (fun c_295 => ?_)
              · skip
                exact absurd (nI_sub1 (show 0 < n by omega)) c_295
              · skip
                refine lv_iconst (v := 1) hx hb dL_changes_298 (by decide) ?_
                refine lv_goto (tgt := 303) hx hb dL_changes_299 (by decide) ?_
                exact rW_i C hJ hr rfl (⟨rfl, LX.of hX280 hQ280 hQ hsv h4 hR280⟩) dL_changes_303
          · skip
            refine lv_aload_n hx hb dL_changes_248 rfl (lv_at hl 4 rfl) ?_
            refine lv_iload hx hb dL_changes_249 (lv_at hl 0 rfl) ?_
            refine cw_L_65 C hJ (rest := []) (d_leave hE hX hXI hQ hP rfl) dL_changes_251 hl.1 ⟨Nat.le_of_ble_eq_true rfl, Nat.le_of_ble_eq_true rfl⟩ ⟨Nat.le_refl _, Nat.le_refl _⟩ (Nat.le_of_ble_eq_true rfl) rfl rfl (fun vr S_251 H locs hP hJ => ?_)
            obtain ⟨rfl, hX251, hR251⟩ := hP
            have hQ251 : QOk (k + 1) (n - 1, (upd z 2 (nI (n - 1))), mrem mm P) := (hQ.rem hP rfl).mono (Nat.le_succ k)
            have hL251 : (sT S_251).1 1 = nI 0 := txt_k hL hR251
            refine lv_iload hx hb dL_changes_254 (lv_at hl 1 rfl) ?_
            refine lv_icmp_ne (tgt := 275) hx hb dL_changes_256 (by decide) (fun c_256 => ?_) (fun c_256 => ?_)
            · skip
              exact absurd (rfl) c_256
            · skip
              refine lv_aload_n hx hb dL_changes_259 rfl (lv_at hl 4 rfl) ?_
              refine lv_iconst (v := 0) hx hb dL_changes_260 (by decide) ?_
              refine cr_L_8 C hJ (rest := []) (m_whole hE hX251 hQ251 hL251 0 (by decide) (b := 0) (by decide) (v := nI (n - 1)) rfl) dL_changes_261 hl.1 ⟨Nat.le_of_ble_eq_true rfl, Nat.le_of_ble_eq_true rfl⟩ ⟨Nat.le_refl _, Nat.le_refl _⟩ (Nat.le_of_ble_eq_true rfl) rfl rfl ?_
              refine lv_iload hx hb dL_changes_264 (lv_at hl 2 rfl) ?_
              refine lv_iconst (v := 1) hx hb dL_changes_266 (by decide) ?_
              refine lv_isub hx hb dL_changes_267 ?_
              refine lv_icmp_ne (tgt := 275) hx hb dL_changes_268 (by decide) (fun c_268 => ?_) (fun c_268 => ?_)
              · skip
                exact absurd (nI_sub1 (show 0 < n by omega)) c_268
              · skip
                refine lv_iconst (v := 1) hx hb dL_changes_271 (by decide) ?_
                refine lv_goto (tgt := 303) hx hb dL_changes_272 (by decide) ?_
                exact rW_i C hJ hr rfl (⟨rfl, LX.of hX251 hQ251 hQ hsv h4 hR251⟩) dL_changes_303
      · skip
        exact J41 _ hJ (lv_sub hl [0, 1, 2, 3, 4, 5] rfl)
  refine lv_iload hx hb dL_changes_12 (lv_at hl 0 rfl) ?_
  refine lv_if_ne (tgt := 21) hx hb dL_changes_14 (by decide) (fun c_14 => ?_) (fun c_14 => ?_)
  · skip
    have h0n : 0 < n := ne0 c_14
    refine lv_iload_n hx hb dL_changes_21 rfl (lv_at hl 3 rfl) ?_
    refine lv_iconst (v := 4) hx hb dL_changes_22 (by decide) ?_
    refine lv_ishr hx hb dL_changes_23 ?_
    refine lv_iload hx hb dL_changes_24 (lv_at hl 0 rfl) ?_
    refine cr_L_52 C hJ (rest := []) ((show MR l E yL_low cL_low 2 (some .int) 0 0 S [.int (ya >>> ((4 : Int32) &&& 31)), .int (nI n)] (some (.int (f_low (ya >>> ((4 : Int32) &&& 31)) n))) from c_L_low hE (ya >>> ((4 : Int32) &&& 31)) (u_k := n) h0n (by omega))) dL_changes_26 hl.1 ⟨Nat.le_of_ble_eq_true rfl, Nat.le_of_ble_eq_true rfl⟩ ⟨Nat.le_refl _, Nat.le_refl _⟩ (Nat.le_of_ble_eq_true rfl) rfl rfl ?_
    exact J29 (nL (ya >>> ((4 : Int32) &&& 31)) n) _ (Or.inr (nL_lt _ h0n)) hJ (lv_sub hl [0, 1, 2, 3, 4] rfl)
  · skip
    have hn0 : n = 0 := eq0 (by omega) c_14
    refine lv_iconst (v := 0) hx hb dL_changes_17 (by decide) ?_
    refine lv_goto (tgt := 29) hx hb dL_changes_18 (by decide) ?_
    exact J29 0 _ (Or.inl ⟨hn0, rfl⟩) hJ (lv_sub hl [0, 1, 2, 3, 4] rfl)
