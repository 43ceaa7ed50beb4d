/-! LAW: its cases (by program) -/
def LK (p : Program) (l : Launch) (e : Env) (s : State) (m : MethodId) (b : Nat) (below : List Frame) (meth : Method) (c : Code) (E : GE) (t : Nat) : Prop :=
  ∀ (S : ST) (cv : LVt) (mc : Nat) (sv : Nat → LVt) (u_n : Nat) (u_b : Nat → Int32) (H : Heap) (locs : List Loc) (ls : Array Slot), LI S cv mc sv u_n u_b → JJ E S H locs → lv_has ls 7 [(0, .ref b), (1, .ref (gA E 83)), (2, .ref (gA E 84)), (3, .ref (gA E 89)), (4, .int (nI (4 * t)))] → W p l e room_1 s m #[Value.ref b] below meth c H locs (90 + 2 * t) (1368 + 12 * t) (lw_Z below #[Value.ref b] s) (F0 m 23 ls [])
theorem i_scv {p : Program} {l : Launch} {e : Env} {R : Room} {s : State} {m : MethodId} {args : Array Value} {below : List Frame} {meth : Method} {c : Code} {H : Heap} {locs : List Loc} {cells slots : Nat} {Q : State → Prop} {E : GE} {S : ST} {cc : ByteArray} {own : String} {nL pc : Nat} {ls : Array Slot} {rest : List Value} (C : Cx E p s m meth c cc own nL) (hgs : gS E = s) {b L : Nat} {xs : Nat → Int32} (hsc : va_X b L xs s s.heap) (hbl : b < s.heap.size) (hL : L ≤ 2048) (hJ : JJ E S H locs) {x v : Int32} {j : Nat} (hx : x = nI j) (hj : j < L) (hv : xs j = v) (hdg : decode cc pc = .ok (.iaload, 1))
    (kk : W p l e R s m args below meth c H locs cells slots Q (F0 m (pc + 1) ls (.int v :: rest))) : W p l e R s m args below meth c H locs cells slots Q (F0 m pc ls (.int x :: .ref b :: rest)) := i_scr C hgs hsc hbl hL hJ hx hj hdg (by rw [hv]; exact kk)
theorem und_c (mc : Nat) : (if mc = 0 then (1 : Int32) else 0) = m_1 (if 0 < mc then (0 : Int32) else 3) := by
  rcases Nat.eq_zero_or_pos mc with q | q
  · subst q; rfl
  · rw [if_neg (by omega), if_pos q]; rfl
set_option maxHeartbeats 4000000 in
set_option maxRecDepth 100000 in
theorem lc_0 {p : Program} {l : Launch} {e : Env} {s : State} {m : MethodId} {below : List Frame} {meth : Method} {c : Code} {b L : Nat} {xs : Nat → Int32} {E : GE} {X : EX} {u_x : Nat × Nat × Nat} (C : Cx E p s m meth c cL_law RL 7) (hX : Env1 E X) (hX2 : Env2 l E u_x) (h3 : Env3 E) (hgs : gS E = s) (hsc : va_X b L xs s s.heap) (hbl : b < s.heap.size) (hL : L ≤ 2048) {t : Nat} (ht : 4 * t + 4 ≤ L) {n : Nat} {z : Nat → Int32} {mm : Nat → Nat → Int32} {mc : Nat} {sv : Nat → LVt} {u_n : Nat} {u_b : Nat → Int32} {S : ST} (hLI : LI S (n, z, mm) mc sv u_n u_b) {H : Heap} {locs : List Loc} {ls : Array Slot} (hJ : JJ E S H locs) (hl : lv_has ls 7 [(0, .ref b), (1, .ref (gA E 83)), (2, .ref (gA E 84)), (3, .ref (gA E 89)), (4, .int (nI (4 * t)))]) (hk : LK p l e s m b below meth c E (t + 1)) : W p l e room_1 s m #[Value.ref b] below meth c H locs (90 + 2 * t) (1368 + 12 * t) (lw_Z below #[Value.ref b] s) (F0 m 160 ls []) := by
  have hE := C.env
  have hx := C.x
  have hb := C.b
  obtain ⟨hXI, hMI, hG, hGs, hN, ⟨u_p, u_f, u_c, u_g, hTX⟩, u_p2, u_k2, u_g2, hTM⟩ := id hLI
  have hn : n ≤ 10 := hG.1
  have hV : VOk n mm := hG.2
  have hm4 := hMI.2.2.1
  obtain ⟨p0, hp0⟩ : ∃ y, y = xs (4 * t + 1) := ⟨_, rfl⟩
  obtain ⟨p1, hp1⟩ : ∃ y, y = xs (4 * t + 2) := ⟨_, rfl⟩
  refine lv_aload_n hx hb dL_law_160 rfl (lv_at hl 1 rfl) ?_
  refine lv_aload_n hx hb dL_law_161 rfl (lv_at hl 0 rfl) ?_
  refine lv_iload hx hb dL_law_162 (lv_at hl 4 rfl) ?_
  refine lv_iconst (v := 1) hx hb dL_law_164 (by decide) ?_
  refine lv_iadd hx hb dL_law_165 ?_
  refine i_scv C hgs hsc hbl hL hJ (v := p0) (nI_add (4 * t) 1) (by omega) hp0.symm dL_law_166 ?_
  refine lv_aload_n hx hb dL_law_167 rfl (lv_at hl 0 rfl) ?_
  refine lv_iload hx hb dL_law_168 (lv_at hl 4 rfl) ?_
  refine lv_iconst (v := 2) hx hb dL_law_170 (by decide) ?_
  refine lv_iadd hx hb dL_law_171 ?_
  refine i_scv C hgs hsc hbl hL hJ (v := p1) (nI_add (4 * t) 2) (by omega) hp1.symm dL_law_172 ?_
  refine lv_aload_n hx hb dL_law_173 rfl (lv_at hl 3 rfl) ?_
  refine k_H hJ (r_XSW (rest := []) (n := 4) C hJ (cl_join hE hX hX2 hXI p0 p1 1000 rfl h3) km_L_86 kt_L_join k0_L kc_L_join ⟨by decide, by decide, by decide +kernel⟩ rfl dL_law_174 hl.1 ⟨Nat.le_of_ble_eq_true rfl, Nat.le_of_ble_eq_true rfl⟩ ⟨by show 90 + 2 * t + 1 ≤ 601024; omega, by show 1368 + 12 * t + 6 ≤ 7293034; omega⟩ (Nat.le_of_ble_eq_true rfl) rfl) (fun vr S_1 H locs hP hJ => ?_)
  obtain ⟨rfl, hW⟩ := hP
  obtain ⟨k0, hk0⟩ : ∃ y, y = m_j (f_ft (gof n mm) n 0 p0 p1 0) := ⟨_, rfl⟩
  rw [← hk0]
  refine lv_istore (lv' := [(5, .int k0), (0, .ref b), (1, .ref (gA E 83)), (2, .ref (gA E 84)), (3, .ref (gA E 89)), (4, .int (nI (4 * t)))]) hx hb dL_law_177 hl (by decide) rfl (fun ls hl => ?_)
  rcases hW with ⟨hF0, S_0, hR0, hS1⟩ | ⟨hF0, hS1⟩
  · skip
    obtain ⟨hX0, e0⟩ := hR0
    have hM1 : MI S_1 (n, z, mm) mc sv := hLI.m1 e0 hS1
    have hLm : (sM S_1).1 4 = nI u_n := by rw [hS1]; exact (congrArg (fun q => q.2.1.1 4) e0).trans hTM.1
    refine lv_aload_n hx hb dL_law_179 rfl (lv_at hl 3 rfl) ?_
    refine lv_aload_n hx hb dL_law_180 rfl (lv_at hl 1 rfl) ?_
    refine lv_iload hx hb dL_law_181 (lv_at hl 5 rfl) ?_
    refine lv_iconst (v := 1) hx hb dL_law_183 (by decide) ?_
    refine lv_iadd hx hb dL_law_184 ?_
    refine i_scv C hgs hsc hbl hL hJ (v := p0) (nI_add (4 * t) 1) (by omega) hp0.symm dL_law_185 ?_
    refine lv_aload_n hx hb dL_law_186 rfl (lv_at hl 1 rfl) ?_
    refine lv_iload hx hb dL_law_187 (lv_at hl 5 rfl) ?_
    refine lv_iconst (v := 2) hx hb dL_law_189 (by decide) ?_
    refine lv_iadd hx hb dL_law_190 ?_
    refine i_scv C hgs hsc hbl hL hJ (v := p1) (nI_add (4 * t) 2) (by omega) hp1.symm dL_law_191 ?_
    refine cw_L_91 C hJ (rest := []) (c_X7_join hE hM1 p0 p1 1000) dL_law_192 hl.1 ⟨Nat.le_of_ble_eq_true rfl, Nat.le_of_ble_eq_true rfl⟩ ⟨by show 90 + 2 * t + 1 ≤ 601024; omega, by show 1368 + 12 * t + 6 ≤ 7293034; omega⟩ (Nat.le_of_ble_eq_true rfl) rfl rfl (fun vr S_2 H locs hP hJ => ?_)
    obtain ⟨x2, rfl, ht2, hK2, hok, hno⟩ := hP
    have eF : (sM S_2).1 2 = k0 := by rw [ht2, hk0]; try rfl
    have hk00 : k0 = 0 := by rw [hk0, hF0]; rfl
    obtain ⟨hx2, hM2⟩ := hok (by rw [← ht2, eF, hk00])
    subst hx2
    refine lv_istore (lv' := [(6, .int ((f_co 1000 n z mm 0 p0 p1 0).1)), (5, .int k0), (0, .ref b), (1, .ref (gA E 83)), (2, .ref (gA E 84)), (3, .ref (gA E 89)), (4, .int (nI (4 * t)))]) hx hb dL_law_195 hl (by decide) rfl (fun ls hl => ?_)
    refine lv_aload_n hx hb dL_law_197 rfl (lv_at hl 4 rfl) ?_
    refine cr_L_92 C hJ (rest := []) (c_X7_thrown hE) dL_law_198 hl.1 ⟨Nat.le_of_ble_eq_true rfl, Nat.le_of_ble_eq_true rfl⟩ ⟨by show 90 + 2 * t + 1 ≤ 601024; omega, by show 1368 + 12 * t + 6 ≤ 7293034; omega⟩ (Nat.le_of_ble_eq_true rfl) rfl rfl ?_
    refine lv_iload hx hb dL_law_201 (lv_at hl 1 rfl) ?_
    refine lv_icmp_eq (tgt := 208) hx hb dL_law_203 (by decide) (fun _ => ?_) (fun c_9 => absurd eF c_9)
    refine lv_iload hx hb dL_law_208 (lv_at hl 1 rfl) ?_
    refine lv_if_ne (tgt := 225) hx hb dL_law_210 (by decide) (fun c_9 => absurd hk00 c_9) (fun _ => ?_)
    refine lv_aload_n hx hb dL_law_213 rfl (lv_at hl 5 rfl) ?_
    refine lv_iconst (v := 0) hx hb dL_law_214 (by decide) ?_
    refine a_ou C hJ dL_law_215 ?_
    refine lv_iload hx hb dL_law_216 (lv_at hl 0 rfl) ?_
    refine lv_i2l (v := ((f_co 1000 n z mm 0 p0 p1 0).1).toInt64) hx hb dL_law_218 rfl ?_
    refine W.lcmp hx hb dL_law_219 ?_
    have heq : sO S_2 0 = ((f_co 1000 n z mm 0 p0 p1 0).1).toInt64 := by rw [hK2.2.2.2.2.2.2, hS1, setO_0]
    refine lv_if_eq (tgt := 225) hx hb dL_law_220 (by decide) (fun _ => ?_) (fun c_9 => absurd (cmp0.mpr heq) c_9)
    refine lv_goto (tgt := 1487) hx hb dL_law_225 (by decide) ?_
    refine lv_iinc (v := nI (4 * (t + 1))) (lv' := [(4, .int (nI (4 * (t + 1)))), (6, .int ((f_co 1000 n z mm 0 p0 p1 0).1)), (5, .int k0), (0, .ref b), (1, .ref (gA E 83)), (2, .ref (gA E 84)), (3, .ref (gA E 89))]) hx hb dL_law_1487 hl (k := 6) rfl (by exact nI_add (4 * t) 4) (by decide) rfl (fun ls hl => ?_)
    refine lv_goto (tgt := 23) hx hb dL_law_1490 (by decide) ?_
    refine W.widen (k := 90 + 2 * (t + 1)) (n := 1368 + 12 * (t + 1)) (by omega) (by omega) ?_
    exact hk S_2 _ _ _ _ _ H locs ls (hLI.ok hX0 e0 hS1 hK2 hM2 (GOk.co (fu := 1000) hG (u_j := 0) (by decide) hF0) hLI.push) hJ (lv_sub hl [3, 4, 5, 6, 0] rfl)
  · skip
    rw [hS1] at hJ
    have hM1 := hMI
    have hLm := hTM.1
    refine lv_aload_n hx hb dL_law_179 rfl (lv_at hl 3 rfl) ?_
    refine lv_aload_n hx hb dL_law_180 rfl (lv_at hl 1 rfl) ?_
    refine lv_iload hx hb dL_law_181 (lv_at hl 5 rfl) ?_
    refine lv_iconst (v := 1) hx hb dL_law_183 (by decide) ?_
    refine lv_iadd hx hb dL_law_184 ?_
    refine i_scv C hgs hsc hbl hL hJ (v := p0) (nI_add (4 * t) 1) (by omega) hp0.symm dL_law_185 ?_
    refine lv_aload_n hx hb dL_law_186 rfl (lv_at hl 1 rfl) ?_
    refine lv_iload hx hb dL_law_187 (lv_at hl 5 rfl) ?_
    refine lv_iconst (v := 2) hx hb dL_law_189 (by decide) ?_
    refine lv_iadd hx hb dL_law_190 ?_
    refine i_scv C hgs hsc hbl hL hJ (v := p1) (nI_add (4 * t) 2) (by omega) hp1.symm dL_law_191 ?_
    refine cw_L_91 C hJ (rest := []) (c_X7_join hE hM1 p0 p1 1000) dL_law_192 hl.1 ⟨Nat.le_of_ble_eq_true rfl, Nat.le_of_ble_eq_true rfl⟩ ⟨by show 90 + 2 * t + 1 ≤ 601024; omega, by show 1368 + 12 * t + 6 ≤ 7293034; omega⟩ (Nat.le_of_ble_eq_true rfl) rfl rfl (fun vr S_2 H locs hP hJ => ?_)
    obtain ⟨x2, rfl, ht2, hK2, hok, hno⟩ := hP
    have eF : (sM S_2).1 2 = k0 := by rw [ht2, hk0]; try rfl
    have hk00 : ¬ k0 = 0 := fun y => hF0 (by rw [hk0] at y; exact (mj0 (jf3 _ _ _ _ _)).mp y)
    have hM2 := hno (fun y => hk00 (by rw [← eF, ht2, y]))
    refine lv_istore (lv' := [(6, .int (x2)), (5, .int k0), (0, .ref b), (1, .ref (gA E 83)), (2, .ref (gA E 84)), (3, .ref (gA E 89)), (4, .int (nI (4 * t)))]) hx hb dL_law_195 hl (by decide) rfl (fun ls hl => ?_)
    refine lv_aload_n hx hb dL_law_197 rfl (lv_at hl 4 rfl) ?_
    refine cr_L_92 C hJ (rest := []) (c_X7_thrown hE) dL_law_198 hl.1 ⟨Nat.le_of_ble_eq_true rfl, Nat.le_of_ble_eq_true rfl⟩ ⟨by show 90 + 2 * t + 1 ≤ 601024; omega, by show 1368 + 12 * t + 6 ≤ 7293034; omega⟩ (Nat.le_of_ble_eq_true rfl) rfl rfl ?_
    refine lv_iload hx hb dL_law_201 (lv_at hl 1 rfl) ?_
    refine lv_icmp_eq (tgt := 208) hx hb dL_law_203 (by decide) (fun _ => ?_) (fun c_9 => absurd eF c_9)
    refine lv_iload hx hb dL_law_208 (lv_at hl 1 rfl) ?_
    refine lv_if_ne (tgt := 225) hx hb dL_law_210 (by decide) (fun _ => ?_) (fun c_9 => absurd c_9 hk00)
    refine lv_goto (tgt := 1487) hx hb dL_law_225 (by decide) ?_
    refine lv_iinc (v := nI (4 * (t + 1))) (lv' := [(4, .int (nI (4 * (t + 1)))), (6, .int (x2)), (5, .int k0), (0, .ref b), (1, .ref (gA E 83)), (2, .ref (gA E 84)), (3, .ref (gA E 89))]) hx hb dL_law_1487 hl (k := 6) rfl (by exact nI_add (4 * t) 4) (by decide) rfl (fun ls hl => ?_)
    refine lv_goto (tgt := 23) hx hb dL_law_1490 (by decide) ?_
    refine W.widen (k := 90 + 2 * (t + 1)) (n := 1368 + 12 * (t + 1)) (by omega) (by omega) ?_
    exact hk S_2 _ _ _ _ _ H locs ls (hLI.no hK2 hM2) hJ (lv_sub hl [3, 4, 5, 6, 0] rfl)
set_option maxHeartbeats 4000000 in
set_option maxRecDepth 100000 in
theorem lc_1 {p : Program} {l : Launch} {e : Env} {s : State} {m : MethodId} {below : List Frame} {meth : Method} {c : Code} {b L : Nat} {xs : Nat → Int32} {E : GE} {X : EX} {u_x : Nat × Nat × Nat} (C : Cx E p s m meth c cL_law RL 7) (hX : Env1 E X) (hX2 : Env2 l E u_x) (h3 : Env3 E) (hgs : gS E = s) (hsc : va_X b L xs s s.heap) (hbl : b < s.heap.size) (hL : L ≤ 2048) {t : Nat} (ht : 4 * t + 4 ≤ L) {n : Nat} {z : Nat → Int32} {mm : Nat → Nat → Int32} {mc : Nat} {sv : Nat → LVt} {u_n : Nat} {u_b : Nat → Int32} {S : ST} (hLI : LI S (n, z, mm) mc sv u_n u_b) {H : Heap} {locs : List Loc} {ls : Array Slot} (hJ : JJ E S H locs) (hl : lv_has ls 7 [(0, .ref b), (1, .ref (gA E 83)), (2, .ref (gA E 84)), (3, .ref (gA E 89)), (4, .int (nI (4 * t)))]) (hk : LK p l e s m b below meth c E (t + 1)) : W p l e room_1 s m #[Value.ref b] below meth c H locs (90 + 2 * t) (1368 + 12 * t) (lw_Z below #[Value.ref b] s) (F0 m 228 ls []) := by
  have hE := C.env
  have hx := C.x
  have hb := C.b
  obtain ⟨hXI, hMI, hG, hGs, hN, ⟨u_p, u_f, u_c, u_g, hTX⟩, u_p2, u_k2, u_g2, hTM⟩ := id hLI
  have hn : n ≤ 10 := hG.1
  have hV : VOk n mm := hG.2
  have hm4 := hMI.2.2.1
  obtain ⟨p0, hp0⟩ : ∃ y, y = xs (4 * t + 1) := ⟨_, rfl⟩
  obtain ⟨p1, hp1⟩ : ∃ y, y = xs (4 * t + 2) := ⟨_, rfl⟩
  obtain ⟨p2, hp2⟩ : ∃ y, y = xs (4 * t + 3) := ⟨_, rfl⟩
  refine lv_aload_n hx hb dL_law_228 rfl (lv_at hl 1 rfl) ?_
  refine lv_aload_n hx hb dL_law_229 rfl (lv_at hl 0 rfl) ?_
  refine lv_iload hx hb dL_law_230 (lv_at hl 4 rfl) ?_
  refine lv_iconst (v := 1) hx hb dL_law_232 (by decide) ?_
  refine lv_iadd hx hb dL_law_233 ?_
  refine i_scv C hgs hsc hbl hL hJ (v := p0) (nI_add (4 * t) 1) (by omega) hp0.symm dL_law_234 ?_
  refine lv_aload_n hx hb dL_law_235 rfl (lv_at hl 0 rfl) ?_
  refine lv_iload hx hb dL_law_236 (lv_at hl 4 rfl) ?_
  refine lv_iconst (v := 2) hx hb dL_law_238 (by decide) ?_
  refine lv_iadd hx hb dL_law_239 ?_
  refine i_scv C hgs hsc hbl hL hJ (v := p1) (nI_add (4 * t) 2) (by omega) hp1.symm dL_law_240 ?_
  refine lv_aload_n hx hb dL_law_241 rfl (lv_at hl 0 rfl) ?_
  refine lv_iload hx hb dL_law_242 (lv_at hl 4 rfl) ?_
  refine lv_iconst (v := 3) hx hb dL_law_244 (by decide) ?_
  refine lv_iadd hx hb dL_law_245 ?_
  refine i_scv C hgs hsc hbl hL hJ (v := p2) (nI_add (4 * t) 3) (by omega) hp2.symm dL_law_246 ?_
  refine lv_aload_n hx hb dL_law_247 rfl (lv_at hl 3 rfl) ?_
  refine k_H hJ (r_XSW (rest := []) (n := 5) C hJ (cl_joinAt hE hX hX2 hXI p0 p1 p2 1000 rfl h3) km_L_95 kt_L_joinAt k0_L kc_L_joinAt ⟨by decide, by decide, by decide +kernel⟩ rfl dL_law_248 hl.1 ⟨Nat.le_of_ble_eq_true rfl, Nat.le_of_ble_eq_true rfl⟩ ⟨by show 90 + 2 * t + 1 ≤ 601024; omega, by show 1368 + 12 * t + 6 ≤ 7293034; omega⟩ (Nat.le_of_ble_eq_true rfl) rfl) (fun vr S_1 H locs hP hJ => ?_)
  obtain ⟨rfl, hW⟩ := hP
  obtain ⟨k0, hk0⟩ : ∃ y, y = m_j (f_ft (gof n mm) n 1 p0 p1 p2) := ⟨_, rfl⟩
  rw [← hk0]
  refine lv_istore (lv' := [(5, .int k0), (0, .ref b), (1, .ref (gA E 83)), (2, .ref (gA E 84)), (3, .ref (gA E 89)), (4, .int (nI (4 * t)))]) hx hb dL_law_251 hl (by decide) rfl (fun ls hl => ?_)
  rcases hW with ⟨hF0, S_0, hR0, hS1⟩ | ⟨hF0, hS1⟩
  · skip
    obtain ⟨hX0, e0⟩ := hR0
    have hM1 : MI S_1 (n, z, mm) mc sv := hLI.m1 e0 hS1
    have hLm : (sM S_1).1 4 = nI u_n := by rw [hS1]; exact (congrArg (fun q => q.2.1.1 4) e0).trans hTM.1
    refine lv_aload_n hx hb dL_law_253 rfl (lv_at hl 3 rfl) ?_
    refine lv_aload_n hx hb dL_law_254 rfl (lv_at hl 1 rfl) ?_
    refine lv_iload hx hb dL_law_255 (lv_at hl 5 rfl) ?_
    refine lv_iconst (v := 1) hx hb dL_law_257 (by decide) ?_
    refine lv_iadd hx hb dL_law_258 ?_
    refine i_scv C hgs hsc hbl hL hJ (v := p0) (nI_add (4 * t) 1) (by omega) hp0.symm dL_law_259 ?_
    refine lv_aload_n hx hb dL_law_260 rfl (lv_at hl 1 rfl) ?_
    refine lv_iload hx hb dL_law_261 (lv_at hl 5 rfl) ?_
    refine lv_iconst (v := 2) hx hb dL_law_263 (by decide) ?_
    refine lv_iadd hx hb dL_law_264 ?_
    refine i_scv C hgs hsc hbl hL hJ (v := p1) (nI_add (4 * t) 2) (by omega) hp1.symm dL_law_265 ?_
    refine lv_aload_n hx hb dL_law_266 rfl (lv_at hl 1 rfl) ?_
    refine lv_iload hx hb dL_law_267 (lv_at hl 5 rfl) ?_
    refine lv_iconst (v := 3) hx hb dL_law_269 (by decide) ?_
    refine lv_iadd hx hb dL_law_270 ?_
    refine i_scv C hgs hsc hbl hL hJ (v := p2) (nI_add (4 * t) 3) (by omega) hp2.symm dL_law_271 ?_
    refine cw_L_98 C hJ (rest := []) (c_X7_joinAt hE hM1 p0 p1 p2 1000) dL_law_272 hl.1 ⟨Nat.le_of_ble_eq_true rfl, Nat.le_of_ble_eq_true rfl⟩ ⟨by show 90 + 2 * t + 1 ≤ 601024; omega, by show 1368 + 12 * t + 6 ≤ 7293034; omega⟩ (Nat.le_of_ble_eq_true rfl) rfl rfl (fun vr S_2 H locs hP hJ => ?_)
    obtain ⟨x2, rfl, ht2, hK2, hok, hno⟩ := hP
    have eF : (sM S_2).1 2 = k0 := by rw [ht2, hk0]; try rfl
    have hk00 : k0 = 0 := by rw [hk0, hF0]; rfl
    obtain ⟨hx2, hM2⟩ := hok (by rw [← ht2, eF, hk00])
    subst hx2
    refine lv_istore (lv' := [(6, .int ((f_co 1000 n z mm 1 p0 p1 p2).1)), (5, .int k0), (0, .ref b), (1, .ref (gA E 83)), (2, .ref (gA E 84)), (3, .ref (gA E 89)), (4, .int (nI (4 * t)))]) hx hb dL_law_275 hl (by decide) rfl (fun ls hl => ?_)
    refine lv_aload_n hx hb dL_law_277 rfl (lv_at hl 4 rfl) ?_
    refine cr_L_92 C hJ (rest := []) (c_X7_thrown hE) dL_law_278 hl.1 ⟨Nat.le_of_ble_eq_true rfl, Nat.le_of_ble_eq_true rfl⟩ ⟨by show 90 + 2 * t + 1 ≤ 601024; omega, by show 1368 + 12 * t + 6 ≤ 7293034; omega⟩ (Nat.le_of_ble_eq_true rfl) rfl rfl ?_
    refine lv_iload hx hb dL_law_281 (lv_at hl 1 rfl) ?_
    refine lv_icmp_eq (tgt := 288) hx hb dL_law_283 (by decide) (fun _ => ?_) (fun c_9 => absurd eF c_9)
    refine lv_iload hx hb dL_law_288 (lv_at hl 1 rfl) ?_
    refine lv_if_ne (tgt := 305) hx hb dL_law_290 (by decide) (fun c_9 => absurd hk00 c_9) (fun _ => ?_)
    refine lv_aload_n hx hb dL_law_293 rfl (lv_at hl 5 rfl) ?_
    refine lv_iconst (v := 0) hx hb dL_law_294 (by decide) ?_
    refine a_ou C hJ dL_law_295 ?_
    refine lv_iload hx hb dL_law_296 (lv_at hl 0 rfl) ?_
    refine lv_i2l (v := ((f_co 1000 n z mm 1 p0 p1 p2).1).toInt64) hx hb dL_law_298 rfl ?_
    refine W.lcmp hx hb dL_law_299 ?_
    have heq : sO S_2 0 = ((f_co 1000 n z mm 1 p0 p1 p2).1).toInt64 := by rw [hK2.2.2.2.2.2.2, hS1, setO_0]
    refine lv_if_eq (tgt := 305) hx hb dL_law_300 (by decide) (fun _ => ?_) (fun c_9 => absurd (cmp0.mpr heq) c_9)
    refine lv_goto (tgt := 1487) hx hb dL_law_305 (by decide) ?_
    refine lv_iinc (v := nI (4 * (t + 1))) (lv' := [(4, .int (nI (4 * (t + 1)))), (6, .int ((f_co 1000 n z mm 1 p0 p1 p2).1)), (5, .int k0), (0, .ref b), (1, .ref (gA E 83)), (2, .ref (gA E 84)), (3, .ref (gA E 89))]) hx hb dL_law_1487 hl (k := 6) rfl (by exact nI_add (4 * t) 4) (by decide) rfl (fun ls hl => ?_)
    refine lv_goto (tgt := 23) hx hb dL_law_1490 (by decide) ?_
    refine W.widen (k := 90 + 2 * (t + 1)) (n := 1368 + 12 * (t + 1)) (by omega) (by omega) ?_
    exact hk S_2 _ _ _ _ _ H locs ls (hLI.ok hX0 e0 hS1 hK2 hM2 (GOk.co (fu := 1000) hG (u_j := 1) (by decide) hF0) hLI.push) hJ (lv_sub hl [3, 4, 5, 6, 0] rfl)
  · skip
    rw [hS1] at hJ
    have hM1 := hMI
    have hLm := hTM.1
    refine lv_aload_n hx hb dL_law_253 rfl (lv_at hl 3 rfl) ?_
    refine lv_aload_n hx hb dL_law_254 rfl (lv_at hl 1 rfl) ?_
    refine lv_iload hx hb dL_law_255 (lv_at hl 5 rfl) ?_
    refine lv_iconst (v := 1) hx hb dL_law_257 (by decide) ?_
    refine lv_iadd hx hb dL_law_258 ?_
    refine i_scv C hgs hsc hbl hL hJ (v := p0) (nI_add (4 * t) 1) (by omega) hp0.symm dL_law_259 ?_
    refine lv_aload_n hx hb dL_law_260 rfl (lv_at hl 1 rfl) ?_
    refine lv_iload hx hb dL_law_261 (lv_at hl 5 rfl) ?_
    refine lv_iconst (v := 2) hx hb dL_law_263 (by decide) ?_
    refine lv_iadd hx hb dL_law_264 ?_
    refine i_scv C hgs hsc hbl hL hJ (v := p1) (nI_add (4 * t) 2) (by omega) hp1.symm dL_law_265 ?_
    refine lv_aload_n hx hb dL_law_266 rfl (lv_at hl 1 rfl) ?_
    refine lv_iload hx hb dL_law_267 (lv_at hl 5 rfl) ?_
    refine lv_iconst (v := 3) hx hb dL_law_269 (by decide) ?_
    refine lv_iadd hx hb dL_law_270 ?_
    refine i_scv C hgs hsc hbl hL hJ (v := p2) (nI_add (4 * t) 3) (by omega) hp2.symm dL_law_271 ?_
    refine cw_L_98 C hJ (rest := []) (c_X7_joinAt hE hM1 p0 p1 p2 1000) dL_law_272 hl.1 ⟨Nat.le_of_ble_eq_true rfl, Nat.le_of_ble_eq_true rfl⟩ ⟨by show 90 + 2 * t + 1 ≤ 601024; omega, by show 1368 + 12 * t + 6 ≤ 7293034; omega⟩ (Nat.le_of_ble_eq_true rfl) rfl rfl (fun vr S_2 H locs hP hJ => ?_)
    obtain ⟨x2, rfl, ht2, hK2, hok, hno⟩ := hP
    have eF : (sM S_2).1 2 = k0 := by rw [ht2, hk0]; try rfl
    have hk00 : ¬ k0 = 0 := fun y => hF0 (by rw [hk0] at y; exact (mj0 (jf3 _ _ _ _ _)).mp y)
    have hM2 := hno (fun y => hk00 (by rw [← eF, ht2, y]))
    refine lv_istore (lv' := [(6, .int (x2)), (5, .int k0), (0, .ref b), (1, .ref (gA E 83)), (2, .ref (gA E 84)), (3, .ref (gA E 89)), (4, .int (nI (4 * t)))]) hx hb dL_law_275 hl (by decide) rfl (fun ls hl => ?_)
    refine lv_aload_n hx hb dL_law_277 rfl (lv_at hl 4 rfl) ?_
    refine cr_L_92 C hJ (rest := []) (c_X7_thrown hE) dL_law_278 hl.1 ⟨Nat.le_of_ble_eq_true rfl, Nat.le_of_ble_eq_true rfl⟩ ⟨by show 90 + 2 * t + 1 ≤ 601024; omega, by show 1368 + 12 * t + 6 ≤ 7293034; omega⟩ (Nat.le_of_ble_eq_true rfl) rfl rfl ?_
    refine lv_iload hx hb dL_law_281 (lv_at hl 1 rfl) ?_
    refine lv_icmp_eq (tgt := 288) hx hb dL_law_283 (by decide) (fun _ => ?_) (fun c_9 => absurd eF c_9)
    refine lv_iload hx hb dL_law_288 (lv_at hl 1 rfl) ?_
    refine lv_if_ne (tgt := 305) hx hb dL_law_290 (by decide) (fun _ => ?_) (fun c_9 => absurd c_9 hk00)
    refine lv_goto (tgt := 1487) hx hb dL_law_305 (by decide) ?_
    refine lv_iinc (v := nI (4 * (t + 1))) (lv' := [(4, .int (nI (4 * (t + 1)))), (6, .int (x2)), (5, .int k0), (0, .ref b), (1, .ref (gA E 83)), (2, .ref (gA E 84)), (3, .ref (gA E 89))]) hx hb dL_law_1487 hl (k := 6) rfl (by exact nI_add (4 * t) 4) (by decide) rfl (fun ls hl => ?_)
    refine lv_goto (tgt := 23) hx hb dL_law_1490 (by decide) ?_
    refine W.widen (k := 90 + 2 * (t + 1)) (n := 1368 + 12 * (t + 1)) (by omega) (by omega) ?_
    exact hk S_2 _ _ _ _ _ H locs ls (hLI.no hK2 hM2) hJ (lv_sub hl [3, 4, 5, 6, 0] rfl)
set_option maxHeartbeats 4000000 in
set_option maxRecDepth 100000 in
theorem lc_2 {p : Program} {l : Launch} {e : Env} {s : State} {m : MethodId} {below : List Frame} {meth : Method} {c : Code} {b L : Nat} {xs : Nat → Int32} {E : GE} {X : EX} {u_x : Nat × Nat × Nat} (C : Cx E p s m meth c cL_law RL 7) (hX : Env1 E X) (hX2 : Env2 l E u_x) (h3 : Env3 E) (hgs : gS E = s) (hsc : va_X b L xs s s.heap) (hbl : b < s.heap.size) (hL : L ≤ 2048) {t : Nat} (ht : 4 * t + 4 ≤ L) {n : Nat} {z : Nat → Int32} {mm : Nat → Nat → Int32} {mc : Nat} {sv : Nat → LVt} {u_n : Nat} {u_b : Nat → Int32} {S : ST} (hLI : LI S (n, z, mm) mc sv u_n u_b) {H : Heap} {locs : List Loc} {ls : Array Slot} (hJ : JJ E S H locs) (hl : lv_has ls 7 [(0, .ref b), (1, .ref (gA E 83)), (2, .ref (gA E 84)), (3, .ref (gA E 89)), (4, .int (nI (4 * t)))]) (hk : LK p l e s m b below meth c E (t + 1)) : W p l e room_1 s m #[Value.ref b] below meth c H locs (90 + 2 * t) (1368 + 12 * t) (lw_Z below #[Value.ref b] s) (F0 m 308 ls []) := by
  have hE := C.env
  have hx := C.x
  have hb := C.b
  obtain ⟨hXI, hMI, hG, hGs, hN, ⟨u_p, u_f, u_c, u_g, hTX⟩, u_p2, u_k2, u_g2, hTM⟩ := id hLI
  have hn : n ≤ 10 := hG.1
  have hV : VOk n mm := hG.2
  have hm4 := hMI.2.2.1
  obtain ⟨p0, hp0⟩ : ∃ y, y = xs (4 * t + 1) := ⟨_, rfl⟩
  refine lv_aload_n hx hb dL_law_308 rfl (lv_at hl 1 rfl) ?_
  refine lv_aload_n hx hb dL_law_309 rfl (lv_at hl 0 rfl) ?_
  refine lv_iload hx hb dL_law_310 (lv_at hl 4 rfl) ?_
  refine lv_iconst (v := 1) hx hb dL_law_312 (by decide) ?_
  refine lv_iadd hx hb dL_law_313 ?_
  refine i_scv C hgs hsc hbl hL hJ (v := p0) (nI_add (4 * t) 1) (by omega) hp0.symm dL_law_314 ?_
  refine lv_aload_n hx hb dL_law_315 rfl (lv_at hl 3 rfl) ?_
  refine k_H hJ (r_XSW (rest := []) (n := 3) C hJ (cl_leave hE hX hX2 hXI p0 1000 rfl h3) km_L_99 kt_L_leave k0_L kc_L_leave ⟨by decide, by decide, by decide +kernel⟩ rfl dL_law_316 hl.1 ⟨Nat.le_of_ble_eq_true rfl, Nat.le_of_ble_eq_true rfl⟩ ⟨by show 90 + 2 * t + 1 ≤ 601024; omega, by show 1368 + 12 * t + 6 ≤ 7293034; omega⟩ (Nat.le_of_ble_eq_true rfl) rfl) (fun vr S_1 H locs hP hJ => ?_)
  obtain ⟨rfl, hW⟩ := hP
  obtain ⟨k0, hk0⟩ : ∃ y, y = f_ft (gof n mm) n 2 p0 0 0 := ⟨_, rfl⟩
  rw [← hk0]
  refine lv_istore (lv' := [(5, .int k0), (0, .ref b), (1, .ref (gA E 83)), (2, .ref (gA E 84)), (3, .ref (gA E 89)), (4, .int (nI (4 * t)))]) hx hb dL_law_319 hl (by decide) rfl (fun ls hl => ?_)
  rcases hW with ⟨hF0, S_0, hR0, hS1⟩ | ⟨hF0, hS1⟩
  · skip
    obtain ⟨hX0, e0⟩ := hR0
    have hM1 : MI S_1 (n, z, mm) mc sv := hLI.m1 e0 hS1
    have hLm : (sM S_1).1 4 = nI u_n := by rw [hS1]; exact (congrArg (fun q => q.2.1.1 4) e0).trans hTM.1
    refine lv_aload_n hx hb dL_law_321 rfl (lv_at hl 3 rfl) ?_
    refine lv_aload_n hx hb dL_law_322 rfl (lv_at hl 1 rfl) ?_
    refine lv_iload hx hb dL_law_323 (lv_at hl 5 rfl) ?_
    refine lv_iconst (v := 1) hx hb dL_law_325 (by decide) ?_
    refine lv_iadd hx hb dL_law_326 ?_
    refine i_scv C hgs hsc hbl hL hJ (v := p0) (nI_add (4 * t) 1) (by omega) hp0.symm dL_law_327 ?_
    refine cw_L_102 C hJ (rest := []) (c_X7_leave hE hM1 p0 1000) dL_law_328 hl.1 ⟨Nat.le_of_ble_eq_true rfl, Nat.le_of_ble_eq_true rfl⟩ ⟨by show 90 + 2 * t + 1 ≤ 601024; omega, by show 1368 + 12 * t + 6 ≤ 7293034; omega⟩ (Nat.le_of_ble_eq_true rfl) rfl rfl (fun vr S_2 H locs hP hJ => ?_)
    obtain ⟨x2, rfl, ht2, hK2, hok, hno⟩ := hP
    have eF : (sM S_2).1 2 = k0 := by rw [ht2, hk0]; try rfl
    have hk00 : k0 = 0 := by rw [hk0, hF0]
    obtain ⟨hx2, hM2⟩ := hok (by rw [← ht2, eF, hk00])
    subst hx2
    refine lv_istore (lv' := [(6, .int ((f_co 1000 n z mm 2 p0 0 0).1)), (5, .int k0), (0, .ref b), (1, .ref (gA E 83)), (2, .ref (gA E 84)), (3, .ref (gA E 89)), (4, .int (nI (4 * t)))]) hx hb dL_law_331 hl (by decide) rfl (fun ls hl => ?_)
    refine lv_aload_n hx hb dL_law_333 rfl (lv_at hl 4 rfl) ?_
    refine cr_L_92 C hJ (rest := []) (c_X7_thrown hE) dL_law_334 hl.1 ⟨Nat.le_of_ble_eq_true rfl, Nat.le_of_ble_eq_true rfl⟩ ⟨by show 90 + 2 * t + 1 ≤ 601024; omega, by show 1368 + 12 * t + 6 ≤ 7293034; omega⟩ (Nat.le_of_ble_eq_true rfl) rfl rfl ?_
    refine lv_iload hx hb dL_law_337 (lv_at hl 1 rfl) ?_
    refine lv_icmp_eq (tgt := 344) hx hb dL_law_339 (by decide) (fun _ => ?_) (fun c_9 => absurd eF c_9)
    refine lv_iload hx hb dL_law_344 (lv_at hl 1 rfl) ?_
    refine lv_if_ne (tgt := 361) hx hb dL_law_346 (by decide) (fun c_9 => absurd hk00 c_9) (fun _ => ?_)
    refine lv_aload_n hx hb dL_law_349 rfl (lv_at hl 5 rfl) ?_
    refine lv_iconst (v := 0) hx hb dL_law_350 (by decide) ?_
    refine a_ou C hJ dL_law_351 ?_
    refine lv_iload hx hb dL_law_352 (lv_at hl 0 rfl) ?_
    refine lv_i2l (v := ((f_co 1000 n z mm 2 p0 0 0).1).toInt64) hx hb dL_law_354 rfl ?_
    refine W.lcmp hx hb dL_law_355 ?_
    have heq : sO S_2 0 = ((f_co 1000 n z mm 2 p0 0 0).1).toInt64 := by rw [hK2.2.2.2.2.2.2, hS1, setO_0]
    refine lv_if_eq (tgt := 361) hx hb dL_law_356 (by decide) (fun _ => ?_) (fun c_9 => absurd (cmp0.mpr heq) c_9)
    refine lv_goto (tgt := 1487) hx hb dL_law_361 (by decide) ?_
    refine lv_iinc (v := nI (4 * (t + 1))) (lv' := [(4, .int (nI (4 * (t + 1)))), (6, .int ((f_co 1000 n z mm 2 p0 0 0).1)), (5, .int k0), (0, .ref b), (1, .ref (gA E 83)), (2, .ref (gA E 84)), (3, .ref (gA E 89))]) hx hb dL_law_1487 hl (k := 6) rfl (by exact nI_add (4 * t) 4) (by decide) rfl (fun ls hl => ?_)
    refine lv_goto (tgt := 23) hx hb dL_law_1490 (by decide) ?_
    refine W.widen (k := 90 + 2 * (t + 1)) (n := 1368 + 12 * (t + 1)) (by omega) (by omega) ?_
    exact hk S_2 _ _ _ _ _ H locs ls (hLI.ok hX0 e0 hS1 hK2 hM2 (GOk.co (fu := 1000) hG (u_j := 2) (by decide) hF0) hLI.push) hJ (lv_sub hl [3, 4, 5, 6, 0] rfl)
  · skip
    rw [hS1] at hJ
    have hM1 := hMI
    have hLm := hTM.1
    refine lv_aload_n hx hb dL_law_321 rfl (lv_at hl 3 rfl) ?_
    refine lv_aload_n hx hb dL_law_322 rfl (lv_at hl 1 rfl) ?_
    refine lv_iload hx hb dL_law_323 (lv_at hl 5 rfl) ?_
    refine lv_iconst (v := 1) hx hb dL_law_325 (by decide) ?_
    refine lv_iadd hx hb dL_law_326 ?_
    refine i_scv C hgs hsc hbl hL hJ (v := p0) (nI_add (4 * t) 1) (by omega) hp0.symm dL_law_327 ?_
    refine cw_L_102 C hJ (rest := []) (c_X7_leave hE hM1 p0 1000) dL_law_328 hl.1 ⟨Nat.le_of_ble_eq_true rfl, Nat.le_of_ble_eq_true rfl⟩ ⟨by show 90 + 2 * t + 1 ≤ 601024; omega, by show 1368 + 12 * t + 6 ≤ 7293034; omega⟩ (Nat.le_of_ble_eq_true rfl) rfl rfl (fun vr S_2 H locs hP hJ => ?_)
    obtain ⟨x2, rfl, ht2, hK2, hok, hno⟩ := hP
    have eF : (sM S_2).1 2 = k0 := by rw [ht2, hk0]; try rfl
    have hk00 : ¬ k0 = 0 := fun y => hF0 (by rw [hk0] at y; exact y)
    have hM2 := hno (fun y => hk00 (by rw [← eF, ht2, y]))
    refine lv_istore (lv' := [(6, .int (x2)), (5, .int k0), (0, .ref b), (1, .ref (gA E 83)), (2, .ref (gA E 84)), (3, .ref (gA E 89)), (4, .int (nI (4 * t)))]) hx hb dL_law_331 hl (by decide) rfl (fun ls hl => ?_)
    refine lv_aload_n hx hb dL_law_333 rfl (lv_at hl 4 rfl) ?_
    refine cr_L_92 C hJ (rest := []) (c_X7_thrown hE) dL_law_334 hl.1 ⟨Nat.le_of_ble_eq_true rfl, Nat.le_of_ble_eq_true rfl⟩ ⟨by show 90 + 2 * t + 1 ≤ 601024; omega, by show 1368 + 12 * t + 6 ≤ 7293034; omega⟩ (Nat.le_of_ble_eq_true rfl) rfl rfl ?_
    refine lv_iload hx hb dL_law_337 (lv_at hl 1 rfl) ?_
    refine lv_icmp_eq (tgt := 344) hx hb dL_law_339 (by decide) (fun _ => ?_) (fun c_9 => absurd eF c_9)
    refine lv_iload hx hb dL_law_344 (lv_at hl 1 rfl) ?_
    refine lv_if_ne (tgt := 361) hx hb dL_law_346 (by decide) (fun _ => ?_) (fun c_9 => absurd c_9 hk00)
    refine lv_goto (tgt := 1487) hx hb dL_law_361 (by decide) ?_
    refine lv_iinc (v := nI (4 * (t + 1))) (lv' := [(4, .int (nI (4 * (t + 1)))), (6, .int (x2)), (5, .int k0), (0, .ref b), (1, .ref (gA E 83)), (2, .ref (gA E 84)), (3, .ref (gA E 89))]) hx hb dL_law_1487 hl (k := 6) rfl (by exact nI_add (4 * t) 4) (by decide) rfl (fun ls hl => ?_)
    refine lv_goto (tgt := 23) hx hb dL_law_1490 (by decide) ?_
    refine W.widen (k := 90 + 2 * (t + 1)) (n := 1368 + 12 * (t + 1)) (by omega) (by omega) ?_
    exact hk S_2 _ _ _ _ _ H locs ls (hLI.no hK2 hM2) hJ (lv_sub hl [3, 4, 5, 6, 0] rfl)
set_option maxHeartbeats 4000000 in
set_option maxRecDepth 100000 in
theorem lc_3 {p : Program} {l : Launch} {e : Env} {s : State} {m : MethodId} {below : List Frame} {meth : Method} {c : Code} {b L : Nat} {xs : Nat → Int32} {E : GE} {X : EX} {u_x : Nat × Nat × Nat} (C : Cx E p s m meth c cL_law RL 7) (hX : Env1 E X) (hX2 : Env2 l E u_x) (h3 : Env3 E) (hgs : gS E = s) (hsc : va_X b L xs s s.heap) (hbl : b < s.heap.size) (hL : L ≤ 2048) {t : Nat} (ht : 4 * t + 4 ≤ L) {n : Nat} {z : Nat → Int32} {mm : Nat → Nat → Int32} {mc : Nat} {sv : Nat → LVt} {u_n : Nat} {u_b : Nat → Int32} {S : ST} (hLI : LI S (n, z, mm) mc sv u_n u_b) {H : Heap} {locs : List Loc} {ls : Array Slot} (hJ : JJ E S H locs) (hl : lv_has ls 7 [(0, .ref b), (1, .ref (gA E 83)), (2, .ref (gA E 84)), (3, .ref (gA E 89)), (4, .int (nI (4 * t)))]) (hk : LK p l e s m b below meth c E (t + 1)) : W p l e room_1 s m #[Value.ref b] below meth c H locs (90 + 2 * t) (1368 + 12 * t) (lw_Z below #[Value.ref b] s) (F0 m 364 ls []) := by
  have hE := C.env
  have hx := C.x
  have hb := C.b
  obtain ⟨hXI, hMI, hG, hGs, hN, ⟨u_p, u_f, u_c, u_g, hTX⟩, u_p2, u_k2, u_g2, hTM⟩ := id hLI
  have hn : n ≤ 10 := hG.1
  have hV : VOk n mm := hG.2
  have hm4 := hMI.2.2.1
  refine lv_aload_n hx hb dL_law_364 rfl (lv_at hl 1 rfl) ?_
  refine lv_aload_n hx hb dL_law_365 rfl (lv_at hl 3 rfl) ?_
  refine k_H hJ (r_XSW (rest := []) (n := 2) C hJ (cl_serve hE hX hX2 hXI 1000 rfl h3) km_L_103 kt_L_serve k0_L kc_L_serve ⟨by decide, by decide, by decide +kernel⟩ rfl dL_law_366 hl.1 ⟨Nat.le_of_ble_eq_true rfl, Nat.le_of_ble_eq_true rfl⟩ ⟨by show 90 + 2 * t + 1 ≤ 601024; omega, by show 1368 + 12 * t + 6 ≤ 7293034; omega⟩ (Nat.le_of_ble_eq_true rfl) rfl) (fun vr S_1 H locs hP hJ => ?_)
  obtain ⟨rfl, hW⟩ := hP
  obtain ⟨k0, hk0⟩ : ∃ y, y = m_1 (f_ft (gof n mm) n 9 0 0 0) := ⟨_, rfl⟩
  rw [← hk0]
  refine lv_istore (lv' := [(5, .int k0), (0, .ref b), (1, .ref (gA E 83)), (2, .ref (gA E 84)), (3, .ref (gA E 89)), (4, .int (nI (4 * t)))]) hx hb dL_law_369 hl (by decide) rfl (fun ls hl => ?_)
  rcases hW with ⟨hF0, S_0, hR0, hS1⟩ | ⟨hF0, hS1⟩
  · skip
    obtain ⟨hX0, e0⟩ := hR0
    have hM1 : MI S_1 (n, z, mm) mc sv := hLI.m1 e0 hS1
    have hLm : (sM S_1).1 4 = nI u_n := by rw [hS1]; exact (congrArg (fun q => q.2.1.1 4) e0).trans hTM.1
    refine lv_aload_n hx hb dL_law_371 rfl (lv_at hl 3 rfl) ?_
    refine cw_L_106 C hJ (rest := []) (c_X7_serve hE hM1 1000) dL_law_372 hl.1 ⟨Nat.le_of_ble_eq_true rfl, Nat.le_of_ble_eq_true rfl⟩ ⟨by show 90 + 2 * t + 1 ≤ 601024; omega, by show 1368 + 12 * t + 6 ≤ 7293034; omega⟩ (Nat.le_of_ble_eq_true rfl) rfl rfl (fun vr S_2 H locs hP hJ => ?_)
    obtain ⟨x2, rfl, ht2, hK2, hok, hno⟩ := hP
    have eF : (sM S_2).1 2 = k0 := by rw [ht2, hk0]; exact by rw [ft9v hn]; split <;> rfl
    have hk00 : k0 = 0 := by rw [hk0, hF0]; rfl
    obtain ⟨hx2, hM2⟩ := hok (by rw [← ht2, eF, hk00])
    subst hx2
    refine lv_istore (lv' := [(6, .int ((f_co 1000 n z mm 9 0 0 0).1)), (5, .int k0), (0, .ref b), (1, .ref (gA E 83)), (2, .ref (gA E 84)), (3, .ref (gA E 89)), (4, .int (nI (4 * t)))]) hx hb dL_law_375 hl (by decide) rfl (fun ls hl => ?_)
    refine lv_aload_n hx hb dL_law_377 rfl (lv_at hl 4 rfl) ?_
    refine cr_L_92 C hJ (rest := []) (c_X7_thrown hE) dL_law_378 hl.1 ⟨Nat.le_of_ble_eq_true rfl, Nat.le_of_ble_eq_true rfl⟩ ⟨by show 90 + 2 * t + 1 ≤ 601024; omega, by show 1368 + 12 * t + 6 ≤ 7293034; omega⟩ (Nat.le_of_ble_eq_true rfl) rfl rfl ?_
    refine lv_iload hx hb dL_law_381 (lv_at hl 1 rfl) ?_
    refine lv_icmp_eq (tgt := 388) hx hb dL_law_383 (by decide) (fun _ => ?_) (fun c_9 => absurd eF c_9)
    refine lv_iload hx hb dL_law_388 (lv_at hl 1 rfl) ?_
    refine lv_if_ne (tgt := 405) hx hb dL_law_390 (by decide) (fun c_9 => absurd hk00 c_9) (fun _ => ?_)
    refine lv_aload_n hx hb dL_law_393 rfl (lv_at hl 5 rfl) ?_
    refine lv_iconst (v := 0) hx hb dL_law_394 (by decide) ?_
    refine a_ou C hJ dL_law_395 ?_
    refine lv_iload hx hb dL_law_396 (lv_at hl 0 rfl) ?_
    refine lv_i2l (v := ((f_co 1000 n z mm 9 0 0 0).1).toInt64) hx hb dL_law_398 rfl ?_
    refine W.lcmp hx hb dL_law_399 ?_
    have heq : sO S_2 0 = ((f_co 1000 n z mm 9 0 0 0).1).toInt64 := by rw [hK2.2.2.2.2.2.2, hS1, setO_0]
    refine lv_if_eq (tgt := 405) hx hb dL_law_400 (by decide) (fun _ => ?_) (fun c_9 => absurd (cmp0.mpr heq) c_9)
    refine lv_goto (tgt := 1487) hx hb dL_law_405 (by decide) ?_
    refine lv_iinc (v := nI (4 * (t + 1))) (lv' := [(4, .int (nI (4 * (t + 1)))), (6, .int ((f_co 1000 n z mm 9 0 0 0).1)), (5, .int k0), (0, .ref b), (1, .ref (gA E 83)), (2, .ref (gA E 84)), (3, .ref (gA E 89))]) hx hb dL_law_1487 hl (k := 6) rfl (by exact nI_add (4 * t) 4) (by decide) rfl (fun ls hl => ?_)
    refine lv_goto (tgt := 23) hx hb dL_law_1490 (by decide) ?_
    refine W.widen (k := 90 + 2 * (t + 1)) (n := 1368 + 12 * (t + 1)) (by omega) (by omega) ?_
    exact hk S_2 _ _ _ _ _ H locs ls (hLI.ok hX0 e0 hS1 hK2 hM2 (GOk.co (fu := 1000) hG (u_j := 9) (by decide) hF0) hLI.push) hJ (lv_sub hl [3, 4, 5, 6, 0] rfl)
  · skip
    rw [hS1] at hJ
    have hM1 := hMI
    have hLm := hTM.1
    refine lv_aload_n hx hb dL_law_371 rfl (lv_at hl 3 rfl) ?_
    refine cw_L_106 C hJ (rest := []) (c_X7_serve hE hM1 1000) dL_law_372 hl.1 ⟨Nat.le_of_ble_eq_true rfl, Nat.le_of_ble_eq_true rfl⟩ ⟨by show 90 + 2 * t + 1 ≤ 601024; omega, by show 1368 + 12 * t + 6 ≤ 7293034; omega⟩ (Nat.le_of_ble_eq_true rfl) rfl rfl (fun vr S_2 H locs hP hJ => ?_)
    obtain ⟨x2, rfl, ht2, hK2, hok, hno⟩ := hP
    have eF : (sM S_2).1 2 = k0 := by rw [ht2, hk0]; exact by rw [ft9v hn]; split <;> rfl
    have hk00 : ¬ k0 = 0 := fun y => hF0 (by rw [hk0] at y; exact m10.mp y)
    have hM2 := hno (fun y => hk00 (by rw [← eF, ht2, y]))
    refine lv_istore (lv' := [(6, .int (x2)), (5, .int k0), (0, .ref b), (1, .ref (gA E 83)), (2, .ref (gA E 84)), (3, .ref (gA E 89)), (4, .int (nI (4 * t)))]) hx hb dL_law_375 hl (by decide) rfl (fun ls hl => ?_)
    refine lv_aload_n hx hb dL_law_377 rfl (lv_at hl 4 rfl) ?_
    refine cr_L_92 C hJ (rest := []) (c_X7_thrown hE) dL_law_378 hl.1 ⟨Nat.le_of_ble_eq_true rfl, Nat.le_of_ble_eq_true rfl⟩ ⟨by show 90 + 2 * t + 1 ≤ 601024; omega, by show 1368 + 12 * t + 6 ≤ 7293034; omega⟩ (Nat.le_of_ble_eq_true rfl) rfl rfl ?_
    refine lv_iload hx hb dL_law_381 (lv_at hl 1 rfl) ?_
    refine lv_icmp_eq (tgt := 388) hx hb dL_law_383 (by decide) (fun _ => ?_) (fun c_9 => absurd eF c_9)
    refine lv_iload hx hb dL_law_388 (lv_at hl 1 rfl) ?_
    refine lv_if_ne (tgt := 405) hx hb dL_law_390 (by decide) (fun _ => ?_) (fun c_9 => absurd c_9 hk00)
    refine lv_goto (tgt := 1487) hx hb dL_law_405 (by decide) ?_
    refine lv_iinc (v := nI (4 * (t + 1))) (lv' := [(4, .int (nI (4 * (t + 1)))), (6, .int (x2)), (5, .int k0), (0, .ref b), (1, .ref (gA E 83)), (2, .ref (gA E 84)), (3, .ref (gA E 89))]) hx hb dL_law_1487 hl (k := 6) rfl (by exact nI_add (4 * t) 4) (by decide) rfl (fun ls hl => ?_)
    refine lv_goto (tgt := 23) hx hb dL_law_1490 (by decide) ?_
    refine W.widen (k := 90 + 2 * (t + 1)) (n := 1368 + 12 * (t + 1)) (by omega) (by omega) ?_
    exact hk S_2 _ _ _ _ _ H locs ls (hLI.no hK2 hM2) hJ (lv_sub hl [3, 4, 5, 6, 0] rfl)
set_option maxHeartbeats 4000000 in
set_option maxRecDepth 100000 in
theorem lc_4 {p : Program} {l : Launch} {e : Env} {s : State} {m : MethodId} {below : List Frame} {meth : Method} {c : Code} {b L : Nat} {xs : Nat → Int32} {E : GE} {X : EX} {u_x : Nat × Nat × Nat} (C : Cx E p s m meth c cL_law RL 7) (hX : Env1 E X) (hX2 : Env2 l E u_x) (h3 : Env3 E) (hgs : gS E = s) (hsc : va_X b L xs s s.heap) (hbl : b < s.heap.size) (hL : L ≤ 2048) {t : Nat} (ht : 4 * t + 4 ≤ L) {n : Nat} {z : Nat → Int32} {mm : Nat → Nat → Int32} {mc : Nat} {sv : Nat → LVt} {u_n : Nat} {u_b : Nat → Int32} {S : ST} (hLI : LI S (n, z, mm) mc sv u_n u_b) {H : Heap} {locs : List Loc} {ls : Array Slot} (hJ : JJ E S H locs) (hl : lv_has ls 7 [(0, .ref b), (1, .ref (gA E 83)), (2, .ref (gA E 84)), (3, .ref (gA E 89)), (4, .int (nI (4 * t)))]) (hk : LK p l e s m b below meth c E (t + 1)) : W p l e room_1 s m #[Value.ref b] below meth c H locs (90 + 2 * t) (1368 + 12 * t) (lw_Z below #[Value.ref b] s) (F0 m 408 ls []) := by
  have hE := C.env
  have hx := C.x
  have hb := C.b
  obtain ⟨hXI, hMI, hG, hGs, hN, ⟨u_p, u_f, u_c, u_g, hTX⟩, u_p2, u_k2, u_g2, hTM⟩ := id hLI
  have hn : n ≤ 10 := hG.1
  have hV : VOk n mm := hG.2
  have hm4 := hMI.2.2.1
  obtain ⟨p0, hp0⟩ : ∃ y, y = xs (4 * t + 1) := ⟨_, rfl⟩
  obtain ⟨p1, hp1⟩ : ∃ y, y = xs (4 * t + 2) := ⟨_, rfl⟩
  refine lv_aload_n hx hb dL_law_408 rfl (lv_at hl 1 rfl) ?_
  refine lv_aload_n hx hb dL_law_409 rfl (lv_at hl 0 rfl) ?_
  refine lv_iload hx hb dL_law_410 (lv_at hl 4 rfl) ?_
  refine lv_iconst (v := 1) hx hb dL_law_412 (by decide) ?_
  refine lv_iadd hx hb dL_law_413 ?_
  refine i_scv C hgs hsc hbl hL hJ (v := p0) (nI_add (4 * t) 1) (by omega) hp0.symm dL_law_414 ?_
  refine lv_aload_n hx hb dL_law_415 rfl (lv_at hl 0 rfl) ?_
  refine lv_iload hx hb dL_law_416 (lv_at hl 4 rfl) ?_
  refine lv_iconst (v := 2) hx hb dL_law_418 (by decide) ?_
  refine lv_iadd hx hb dL_law_419 ?_
  refine i_scv C hgs hsc hbl hL hJ (v := p1) (nI_add (4 * t) 2) (by omega) hp1.symm dL_law_420 ?_
  refine lv_aload_n hx hb dL_law_421 rfl (lv_at hl 3 rfl) ?_
  refine k_H hJ (r_XSW (rest := []) (n := 4) C hJ (cl_say hE hX hX2 hXI p0 p1 1000 rfl h3) km_L_107 kt_L_say k0_L kc_L_say ⟨by decide, by decide, by decide +kernel⟩ rfl dL_law_422 hl.1 ⟨Nat.le_of_ble_eq_true rfl, Nat.le_of_ble_eq_true rfl⟩ ⟨by show 90 + 2 * t + 1 ≤ 601024; omega, by show 1368 + 12 * t + 6 ≤ 7293034; omega⟩ (Nat.le_of_ble_eq_true rfl) rfl) (fun vr S_1 H locs hP hJ => ?_)
  obtain ⟨rfl, hW⟩ := hP
  obtain ⟨k0, hk0⟩ : ∃ y, y = f_ft (gof n mm) n 3 p0 p1 0 := ⟨_, rfl⟩
  rw [← hk0]
  refine lv_istore (lv' := [(5, .int k0), (0, .ref b), (1, .ref (gA E 83)), (2, .ref (gA E 84)), (3, .ref (gA E 89)), (4, .int (nI (4 * t)))]) hx hb dL_law_425 hl (by decide) rfl (fun ls hl => ?_)
  rcases hW with ⟨hF0, S_0, hR0, hS1⟩ | ⟨hF0, hS1⟩
  · skip
    obtain ⟨hX0, e0⟩ := hR0
    have hM1 : MI S_1 (n, z, mm) mc sv := hLI.m1 e0 hS1
    have hLm : (sM S_1).1 4 = nI u_n := by rw [hS1]; exact (congrArg (fun q => q.2.1.1 4) e0).trans hTM.1
    refine lv_aload_n hx hb dL_law_427 rfl (lv_at hl 3 rfl) ?_
    refine lv_aload_n hx hb dL_law_428 rfl (lv_at hl 1 rfl) ?_
    refine lv_iload hx hb dL_law_429 (lv_at hl 5 rfl) ?_
    refine lv_iconst (v := 1) hx hb dL_law_431 (by decide) ?_
    refine lv_iadd hx hb dL_law_432 ?_
    refine i_scv C hgs hsc hbl hL hJ (v := p0) (nI_add (4 * t) 1) (by omega) hp0.symm dL_law_433 ?_
    refine lv_aload_n hx hb dL_law_434 rfl (lv_at hl 1 rfl) ?_
    refine lv_iload hx hb dL_law_435 (lv_at hl 5 rfl) ?_
    refine lv_iconst (v := 2) hx hb dL_law_437 (by decide) ?_
    refine lv_iadd hx hb dL_law_438 ?_
    refine i_scv C hgs hsc hbl hL hJ (v := p1) (nI_add (4 * t) 2) (by omega) hp1.symm dL_law_439 ?_
    refine cw_L_109 C hJ (rest := []) (c_X7_say hE hM1 p0 p1 1000) dL_law_440 hl.1 ⟨Nat.le_of_ble_eq_true rfl, Nat.le_of_ble_eq_true rfl⟩ ⟨by show 90 + 2 * t + 1 ≤ 601024; omega, by show 1368 + 12 * t + 6 ≤ 7293034; omega⟩ (Nat.le_of_ble_eq_true rfl) rfl rfl (fun vr S_2 H locs hP hJ => ?_)
    obtain ⟨x2, rfl, ht2, hK2, hok, hno⟩ := hP
    have eF : (sM S_2).1 2 = k0 := by rw [ht2, hk0]; try rfl
    have hk00 : k0 = 0 := by rw [hk0, hF0]
    obtain ⟨hx2, hM2⟩ := hok (by rw [← ht2, eF, hk00])
    subst hx2
    refine lv_istore (lv' := [(6, .int ((f_co 1000 n z mm 3 p0 p1 0).1)), (5, .int k0), (0, .ref b), (1, .ref (gA E 83)), (2, .ref (gA E 84)), (3, .ref (gA E 89)), (4, .int (nI (4 * t)))]) hx hb dL_law_443 hl (by decide) rfl (fun ls hl => ?_)
    refine lv_aload_n hx hb dL_law_445 rfl (lv_at hl 4 rfl) ?_
    refine cr_L_92 C hJ (rest := []) (c_X7_thrown hE) dL_law_446 hl.1 ⟨Nat.le_of_ble_eq_true rfl, Nat.le_of_ble_eq_true rfl⟩ ⟨by show 90 + 2 * t + 1 ≤ 601024; omega, by show 1368 + 12 * t + 6 ≤ 7293034; omega⟩ (Nat.le_of_ble_eq_true rfl) rfl rfl ?_
    refine lv_iload hx hb dL_law_449 (lv_at hl 1 rfl) ?_
    refine lv_icmp_eq (tgt := 456) hx hb dL_law_451 (by decide) (fun _ => ?_) (fun c_9 => absurd eF c_9)
    refine lv_iload hx hb dL_law_456 (lv_at hl 1 rfl) ?_
    refine lv_if_ne (tgt := 473) hx hb dL_law_458 (by decide) (fun c_9 => absurd hk00 c_9) (fun _ => ?_)
    refine lv_aload_n hx hb dL_law_461 rfl (lv_at hl 5 rfl) ?_
    refine lv_iconst (v := 0) hx hb dL_law_462 (by decide) ?_
    refine a_ou C hJ dL_law_463 ?_
    refine lv_iload hx hb dL_law_464 (lv_at hl 0 rfl) ?_
    refine lv_i2l (v := ((f_co 1000 n z mm 3 p0 p1 0).1).toInt64) hx hb dL_law_466 rfl ?_
    refine W.lcmp hx hb dL_law_467 ?_
    have heq : sO S_2 0 = ((f_co 1000 n z mm 3 p0 p1 0).1).toInt64 := by rw [hK2.2.2.2.2.2.2, hS1, setO_0]
    refine lv_if_eq (tgt := 473) hx hb dL_law_468 (by decide) (fun _ => ?_) (fun c_9 => absurd (cmp0.mpr heq) c_9)
    refine lv_goto (tgt := 1487) hx hb dL_law_473 (by decide) ?_
    refine lv_iinc (v := nI (4 * (t + 1))) (lv' := [(4, .int (nI (4 * (t + 1)))), (6, .int ((f_co 1000 n z mm 3 p0 p1 0).1)), (5, .int k0), (0, .ref b), (1, .ref (gA E 83)), (2, .ref (gA E 84)), (3, .ref (gA E 89))]) hx hb dL_law_1487 hl (k := 6) rfl (by exact nI_add (4 * t) 4) (by decide) rfl (fun ls hl => ?_)
    refine lv_goto (tgt := 23) hx hb dL_law_1490 (by decide) ?_
    refine W.widen (k := 90 + 2 * (t + 1)) (n := 1368 + 12 * (t + 1)) (by omega) (by omega) ?_
    exact hk S_2 _ _ _ _ _ H locs ls (hLI.ok hX0 e0 hS1 hK2 hM2 (GOk.co (fu := 1000) hG (u_j := 3) (by decide) hF0) hLI.push) hJ (lv_sub hl [3, 4, 5, 6, 0] rfl)
  · skip
    rw [hS1] at hJ
    have hM1 := hMI
    have hLm := hTM.1
    refine lv_aload_n hx hb dL_law_427 rfl (lv_at hl 3 rfl) ?_
    refine lv_aload_n hx hb dL_law_428 rfl (lv_at hl 1 rfl) ?_
    refine lv_iload hx hb dL_law_429 (lv_at hl 5 rfl) ?_
    refine lv_iconst (v := 1) hx hb dL_law_431 (by decide) ?_
    refine lv_iadd hx hb dL_law_432 ?_
    refine i_scv C hgs hsc hbl hL hJ (v := p0) (nI_add (4 * t) 1) (by omega) hp0.symm dL_law_433 ?_
    refine lv_aload_n hx hb dL_law_434 rfl (lv_at hl 1 rfl) ?_
    refine lv_iload hx hb dL_law_435 (lv_at hl 5 rfl) ?_
    refine lv_iconst (v := 2) hx hb dL_law_437 (by decide) ?_
    refine lv_iadd hx hb dL_law_438 ?_
    refine i_scv C hgs hsc hbl hL hJ (v := p1) (nI_add (4 * t) 2) (by omega) hp1.symm dL_law_439 ?_
    refine cw_L_109 C hJ (rest := []) (c_X7_say hE hM1 p0 p1 1000) dL_law_440 hl.1 ⟨Nat.le_of_ble_eq_true rfl, Nat.le_of_ble_eq_true rfl⟩ ⟨by show 90 + 2 * t + 1 ≤ 601024; omega, by show 1368 + 12 * t + 6 ≤ 7293034; omega⟩ (Nat.le_of_ble_eq_true rfl) rfl rfl (fun vr S_2 H locs hP hJ => ?_)
    obtain ⟨x2, rfl, ht2, hK2, hok, hno⟩ := hP
    have eF : (sM S_2).1 2 = k0 := by rw [ht2, hk0]; try rfl
    have hk00 : ¬ k0 = 0 := fun y => hF0 (by rw [hk0] at y; exact y)
    have hM2 := hno (fun y => hk00 (by rw [← eF, ht2, y]))
    refine lv_istore (lv' := [(6, .int (x2)), (5, .int k0), (0, .ref b), (1, .ref (gA E 83)), (2, .ref (gA E 84)), (3, .ref (gA E 89)), (4, .int (nI (4 * t)))]) hx hb dL_law_443 hl (by decide) rfl (fun ls hl => ?_)
    refine lv_aload_n hx hb dL_law_445 rfl (lv_at hl 4 rfl) ?_
    refine cr_L_92 C hJ (rest := []) (c_X7_thrown hE) dL_law_446 hl.1 ⟨Nat.le_of_ble_eq_true rfl, Nat.le_of_ble_eq_true rfl⟩ ⟨by show 90 + 2 * t + 1 ≤ 601024; omega, by show 1368 + 12 * t + 6 ≤ 7293034; omega⟩ (Nat.le_of_ble_eq_true rfl) rfl rfl ?_
    refine lv_iload hx hb dL_law_449 (lv_at hl 1 rfl) ?_
    refine lv_icmp_eq (tgt := 456) hx hb dL_law_451 (by decide) (fun _ => ?_) (fun c_9 => absurd eF c_9)
    refine lv_iload hx hb dL_law_456 (lv_at hl 1 rfl) ?_
    refine lv_if_ne (tgt := 473) hx hb dL_law_458 (by decide) (fun _ => ?_) (fun c_9 => absurd c_9 hk00)
    refine lv_goto (tgt := 1487) hx hb dL_law_473 (by decide) ?_
    refine lv_iinc (v := nI (4 * (t + 1))) (lv' := [(4, .int (nI (4 * (t + 1)))), (6, .int (x2)), (5, .int k0), (0, .ref b), (1, .ref (gA E 83)), (2, .ref (gA E 84)), (3, .ref (gA E 89))]) hx hb dL_law_1487 hl (k := 6) rfl (by exact nI_add (4 * t) 4) (by decide) rfl (fun ls hl => ?_)
    refine lv_goto (tgt := 23) hx hb dL_law_1490 (by decide) ?_
    refine W.widen (k := 90 + 2 * (t + 1)) (n := 1368 + 12 * (t + 1)) (by omega) (by omega) ?_
    exact hk S_2 _ _ _ _ _ H locs ls (hLI.no hK2 hM2) hJ (lv_sub hl [3, 4, 5, 6, 0] rfl)
set_option maxHeartbeats 4000000 in
set_option maxRecDepth 100000 in
theorem lc_5 {p : Program} {l : Launch} {e : Env} {s : State} {m : MethodId} {below : List Frame} {meth : Method} {c : Code} {b L : Nat} {xs : Nat → Int32} {E : GE} {X : EX} {u_x : Nat × Nat × Nat} (C : Cx E p s m meth c cL_law RL 7) (hX : Env1 E X) (hX2 : Env2 l E u_x) (h3 : Env3 E) (hgs : gS E = s) (hsc : va_X b L xs s s.heap) (hbl : b < s.heap.size) (hL : L ≤ 2048) {t : Nat} (ht : 4 * t + 4 ≤ L) {n : Nat} {z : Nat → Int32} {mm : Nat → Nat → Int32} {mc : Nat} {sv : Nat → LVt} {u_n : Nat} {u_b : Nat → Int32} {S : ST} (hLI : LI S (n, z, mm) mc sv u_n u_b) {H : Heap} {locs : List Loc} {ls : Array Slot} (hJ : JJ E S H locs) (hl : lv_has ls 7 [(0, .ref b), (1, .ref (gA E 83)), (2, .ref (gA E 84)), (3, .ref (gA E 89)), (4, .int (nI (4 * t)))]) (hk : LK p l e s m b below meth c E (t + 1)) : W p l e room_1 s m #[Value.ref b] below meth c H locs (90 + 2 * t) (1368 + 12 * t) (lw_Z below #[Value.ref b] s) (F0 m 476 ls []) := by
  have hE := C.env
  have hx := C.x
  have hb := C.b
  obtain ⟨hXI, hMI, hG, hGs, hN, ⟨u_p, u_f, u_c, u_g, hTX⟩, u_p2, u_k2, u_g2, hTM⟩ := id hLI
  have hn : n ≤ 10 := hG.1
  have hV : VOk n mm := hG.2
  have hm4 := hMI.2.2.1
  obtain ⟨p0, hp0⟩ : ∃ y, y = xs (4 * t + 1) := ⟨_, rfl⟩
  refine lv_aload_n hx hb dL_law_476 rfl (lv_at hl 1 rfl) ?_
  refine lv_aload_n hx hb dL_law_477 rfl (lv_at hl 0 rfl) ?_
  refine lv_iload hx hb dL_law_478 (lv_at hl 4 rfl) ?_
  refine lv_iconst (v := 1) hx hb dL_law_480 (by decide) ?_
  refine lv_iadd hx hb dL_law_481 ?_
  refine i_scv C hgs hsc hbl hL hJ (v := p0) (nI_add (4 * t) 1) (by omega) hp0.symm dL_law_482 ?_
  refine lv_aload_n hx hb dL_law_483 rfl (lv_at hl 3 rfl) ?_
  refine k_H hJ (r_XSW (rest := []) (n := 3) C hJ (cl_setSplit hE hX2 hXI p0 h3) km_L_110 kt_L_setSplit k0_L kc_L_setSplit ⟨by decide, by decide, by decide +kernel⟩ rfl dL_law_484 hl.1 ⟨Nat.le_of_ble_eq_true rfl, Nat.le_of_ble_eq_true rfl⟩ ⟨by show 90 + 2 * t + 1 ≤ 601024; omega, by show 1368 + 12 * t + 6 ≤ 7293034; omega⟩ (Nat.le_of_ble_eq_true rfl) rfl) (fun vr S_1 H locs hP hJ => ?_)
  obtain ⟨rfl, hW⟩ := hP
  obtain ⟨k0, hk0⟩ : ∃ y, y = m_1 (if f_in p0 0 100 = true then (0 : Int32) else 2) := ⟨_, rfl⟩
  rw [← hk0]
  refine lv_istore (lv' := [(5, .int k0), (0, .ref b), (1, .ref (gA E 83)), (2, .ref (gA E 84)), (3, .ref (gA E 89)), (4, .int (nI (4 * t)))]) hx hb dL_law_487 hl (by decide) rfl (fun ls hl => ?_)
  rcases hW with ⟨hF0, S_0, hR0, hS1⟩ | ⟨hF0, hS1⟩
  · skip
    obtain ⟨hX0, e0⟩ := hR0
    have hM1 : MI S_1 (n, z, mm) mc sv := hLI.m1 e0 hS1
    have hLm : (sM S_1).1 4 = nI u_n := by rw [hS1]; exact (congrArg (fun q => q.2.1.1 4) e0).trans hTM.1
    refine lv_aload_n hx hb dL_law_489 rfl (lv_at hl 3 rfl) ?_
    refine lv_aload_n hx hb dL_law_490 rfl (lv_at hl 1 rfl) ?_
    refine lv_iload hx hb dL_law_491 (lv_at hl 5 rfl) ?_
    refine lv_iconst (v := 1) hx hb dL_law_493 (by decide) ?_
    refine lv_iadd hx hb dL_law_494 ?_
    refine i_scv C hgs hsc hbl hL hJ (v := p0) (nI_add (4 * t) 1) (by omega) hp0.symm dL_law_495 ?_
    refine cw_L_112 C hJ (rest := []) (c_X7_setSplit hE hM1 p0) dL_law_496 hl.1 ⟨Nat.le_of_ble_eq_true rfl, Nat.le_of_ble_eq_true rfl⟩ ⟨by show 90 + 2 * t + 1 ≤ 601024; omega, by show 1368 + 12 * t + 6 ≤ 7293034; omega⟩ (Nat.le_of_ble_eq_true rfl) rfl rfl (fun vr S_2 H locs hP hJ => ?_)
    obtain ⟨x2, rfl, ht2, hK2, hok, hno⟩ := hP
    have eF : (sM S_2).1 2 = k0 := by rw [ht2, hk0]; exact by split <;> rfl
    have hk00 : k0 = 0 := by rw [hk0, hF0]; rfl
    obtain ⟨hx2, hM2⟩ := hok (by rw [← ht2, eF, hk00])
    subst hx2
    refine lv_istore (lv' := [(6, .int (z 3)), (5, .int k0), (0, .ref b), (1, .ref (gA E 83)), (2, .ref (gA E 84)), (3, .ref (gA E 89)), (4, .int (nI (4 * t)))]) hx hb dL_law_499 hl (by decide) rfl (fun ls hl => ?_)
    refine lv_aload_n hx hb dL_law_501 rfl (lv_at hl 4 rfl) ?_
    refine cr_L_92 C hJ (rest := []) (c_X7_thrown hE) dL_law_502 hl.1 ⟨Nat.le_of_ble_eq_true rfl, Nat.le_of_ble_eq_true rfl⟩ ⟨by show 90 + 2 * t + 1 ≤ 601024; omega, by show 1368 + 12 * t + 6 ≤ 7293034; omega⟩ (Nat.le_of_ble_eq_true rfl) rfl rfl ?_
    refine lv_iload hx hb dL_law_505 (lv_at hl 1 rfl) ?_
    refine lv_icmp_eq (tgt := 512) hx hb dL_law_507 (by decide) (fun _ => ?_) (fun c_9 => absurd eF c_9)
    refine lv_iload hx hb dL_law_512 (lv_at hl 1 rfl) ?_
    refine lv_if_ne (tgt := 529) hx hb dL_law_514 (by decide) (fun c_9 => absurd hk00 c_9) (fun _ => ?_)
    refine lv_aload_n hx hb dL_law_517 rfl (lv_at hl 5 rfl) ?_
    refine lv_iconst (v := 0) hx hb dL_law_518 (by decide) ?_
    refine a_ou C hJ dL_law_519 ?_
    refine lv_iload hx hb dL_law_520 (lv_at hl 0 rfl) ?_
    refine lv_i2l (v := (z 3).toInt64) hx hb dL_law_522 rfl ?_
    refine W.lcmp hx hb dL_law_523 ?_
    have heq : sO S_2 0 = (z 3).toInt64 := by rw [hK2.2.2.2.2.2.2, hS1, setO_0]
    refine lv_if_eq (tgt := 529) hx hb dL_law_524 (by decide) (fun _ => ?_) (fun c_9 => absurd (cmp0.mpr heq) c_9)
    refine lv_goto (tgt := 1487) hx hb dL_law_529 (by decide) ?_
    refine lv_iinc (v := nI (4 * (t + 1))) (lv' := [(4, .int (nI (4 * (t + 1)))), (6, .int (z 3)), (5, .int k0), (0, .ref b), (1, .ref (gA E 83)), (2, .ref (gA E 84)), (3, .ref (gA E 89))]) hx hb dL_law_1487 hl (k := 6) rfl (by exact nI_add (4 * t) 4) (by decide) rfl (fun ls hl => ?_)
    refine lv_goto (tgt := 23) hx hb dL_law_1490 (by decide) ?_
    refine W.widen (k := 90 + 2 * (t + 1)) (n := 1368 + 12 * (t + 1)) (by omega) (by omega) ?_
    exact hk S_2 _ _ _ _ _ H locs ls (hLI.ok hX0 e0 hS1 hK2 hM2 (show GOk (n, upd z 3 p0, mm) from ⟨hG.1, hG.2⟩) hLI.push) hJ (lv_sub hl [3, 4, 5, 6, 0] rfl)
  · skip
    rw [hS1] at hJ
    have hM1 := hMI
    have hLm := hTM.1
    refine lv_aload_n hx hb dL_law_489 rfl (lv_at hl 3 rfl) ?_
    refine lv_aload_n hx hb dL_law_490 rfl (lv_at hl 1 rfl) ?_
    refine lv_iload hx hb dL_law_491 (lv_at hl 5 rfl) ?_
    refine lv_iconst (v := 1) hx hb dL_law_493 (by decide) ?_
    refine lv_iadd hx hb dL_law_494 ?_
    refine i_scv C hgs hsc hbl hL hJ (v := p0) (nI_add (4 * t) 1) (by omega) hp0.symm dL_law_495 ?_
    refine cw_L_112 C hJ (rest := []) (c_X7_setSplit hE hM1 p0) dL_law_496 hl.1 ⟨Nat.le_of_ble_eq_true rfl, Nat.le_of_ble_eq_true rfl⟩ ⟨by show 90 + 2 * t + 1 ≤ 601024; omega, by show 1368 + 12 * t + 6 ≤ 7293034; omega⟩ (Nat.le_of_ble_eq_true rfl) rfl rfl (fun vr S_2 H locs hP hJ => ?_)
    obtain ⟨x2, rfl, ht2, hK2, hok, hno⟩ := hP
    have eF : (sM S_2).1 2 = k0 := by rw [ht2, hk0]; exact by split <;> rfl
    have hk00 : ¬ k0 = 0 := fun y => hF0 (by rw [hk0] at y; exact m10.mp y)
    have hM2 := hno (fun y => hk00 (by rw [← eF, ht2, y]))
    refine lv_istore (lv' := [(6, .int (x2)), (5, .int k0), (0, .ref b), (1, .ref (gA E 83)), (2, .ref (gA E 84)), (3, .ref (gA E 89)), (4, .int (nI (4 * t)))]) hx hb dL_law_499 hl (by decide) rfl (fun ls hl => ?_)
    refine lv_aload_n hx hb dL_law_501 rfl (lv_at hl 4 rfl) ?_
    refine cr_L_92 C hJ (rest := []) (c_X7_thrown hE) dL_law_502 hl.1 ⟨Nat.le_of_ble_eq_true rfl, Nat.le_of_ble_eq_true rfl⟩ ⟨by show 90 + 2 * t + 1 ≤ 601024; omega, by show 1368 + 12 * t + 6 ≤ 7293034; omega⟩ (Nat.le_of_ble_eq_true rfl) rfl rfl ?_
    refine lv_iload hx hb dL_law_505 (lv_at hl 1 rfl) ?_
    refine lv_icmp_eq (tgt := 512) hx hb dL_law_507 (by decide) (fun _ => ?_) (fun c_9 => absurd eF c_9)
    refine lv_iload hx hb dL_law_512 (lv_at hl 1 rfl) ?_
    refine lv_if_ne (tgt := 529) hx hb dL_law_514 (by decide) (fun _ => ?_) (fun c_9 => absurd c_9 hk00)
    refine lv_goto (tgt := 1487) hx hb dL_law_529 (by decide) ?_
    refine lv_iinc (v := nI (4 * (t + 1))) (lv' := [(4, .int (nI (4 * (t + 1)))), (6, .int (x2)), (5, .int k0), (0, .ref b), (1, .ref (gA E 83)), (2, .ref (gA E 84)), (3, .ref (gA E 89))]) hx hb dL_law_1487 hl (k := 6) rfl (by exact nI_add (4 * t) 4) (by decide) rfl (fun ls hl => ?_)
    refine lv_goto (tgt := 23) hx hb dL_law_1490 (by decide) ?_
    refine W.widen (k := 90 + 2 * (t + 1)) (n := 1368 + 12 * (t + 1)) (by omega) (by omega) ?_
    exact hk S_2 _ _ _ _ _ H locs ls (hLI.no hK2 hM2) hJ (lv_sub hl [3, 4, 5, 6, 0] rfl)
set_option maxHeartbeats 4000000 in
set_option maxRecDepth 100000 in
theorem lc_6 {p : Program} {l : Launch} {e : Env} {s : State} {m : MethodId} {below : List Frame} {meth : Method} {c : Code} {b L : Nat} {xs : Nat → Int32} {E : GE} {X : EX} {u_x : Nat × Nat × Nat} (C : Cx E p s m meth c cL_law RL 7) (hX : Env1 E X) (hX2 : Env2 l E u_x) (h3 : Env3 E) (hgs : gS E = s) (hsc : va_X b L xs s s.heap) (hbl : b < s.heap.size) (hL : L ≤ 2048) {t : Nat} (ht : 4 * t + 4 ≤ L) {n : Nat} {z : Nat → Int32} {mm : Nat → Nat → Int32} {mc : Nat} {sv : Nat → LVt} {u_n : Nat} {u_b : Nat → Int32} {S : ST} (hLI : LI S (n, z, mm) mc sv u_n u_b) {H : Heap} {locs : List Loc} {ls : Array Slot} (hJ : JJ E S H locs) (hl : lv_has ls 7 [(0, .ref b), (1, .ref (gA E 83)), (2, .ref (gA E 84)), (3, .ref (gA E 89)), (4, .int (nI (4 * t)))]) (hk : LK p l e s m b below meth c E (t + 1)) : W p l e room_1 s m #[Value.ref b] below meth c H locs (90 + 2 * t) (1368 + 12 * t) (lw_Z below #[Value.ref b] s) (F0 m 532 ls []) := by
  have hE := C.env
  have hx := C.x
  have hb := C.b
  obtain ⟨hXI, hMI, hG, hGs, hN, ⟨u_p, u_f, u_c, u_g, hTX⟩, u_p2, u_k2, u_g2, hTM⟩ := id hLI
  have hn : n ≤ 10 := hG.1
  have hV : VOk n mm := hG.2
  have hm4 := hMI.2.2.1
  obtain ⟨p0, hp0⟩ : ∃ y, y = xs (4 * t + 1) := ⟨_, rfl⟩
  obtain ⟨p1, hp1⟩ : ∃ y, y = xs (4 * t + 2) := ⟨_, rfl⟩
  refine lv_aload_n hx hb dL_law_532 rfl (lv_at hl 1 rfl) ?_
  refine lv_aload_n hx hb dL_law_533 rfl (lv_at hl 0 rfl) ?_
  refine lv_iload hx hb dL_law_534 (lv_at hl 4 rfl) ?_
  refine lv_iconst (v := 1) hx hb dL_law_536 (by decide) ?_
  refine lv_iadd hx hb dL_law_537 ?_
  refine i_scv C hgs hsc hbl hL hJ (v := p0) (nI_add (4 * t) 1) (by omega) hp0.symm dL_law_538 ?_
  refine lv_aload_n hx hb dL_law_539 rfl (lv_at hl 0 rfl) ?_
  refine lv_iload hx hb dL_law_540 (lv_at hl 4 rfl) ?_
  refine lv_iconst (v := 2) hx hb dL_law_542 (by decide) ?_
  refine lv_iadd hx hb dL_law_543 ?_
  refine i_scv C hgs hsc hbl hL hJ (v := p1) (nI_add (4 * t) 2) (by omega) hp1.symm dL_law_544 ?_
  refine lv_aload_n hx hb dL_law_545 rfl (lv_at hl 3 rfl) ?_
  refine k_H hJ (r_XSW (rest := []) (n := 4) C hJ (cl_offer hE hX hX2 hXI p0 p1 1000 rfl h3) km_L_113 kt_L_offer k0_L kc_L_offer ⟨by decide, by decide, by decide +kernel⟩ rfl dL_law_546 hl.1 ⟨Nat.le_of_ble_eq_true rfl, Nat.le_of_ble_eq_true rfl⟩ ⟨by show 90 + 2 * t + 1 ≤ 601024; omega, by show 1368 + 12 * t + 6 ≤ 7293034; omega⟩ (Nat.le_of_ble_eq_true rfl) rfl) (fun vr S_1 H locs hP hJ => ?_)
  obtain ⟨rfl, hW⟩ := hP
  obtain ⟨k0, hk0⟩ : ∃ y, y = f_ft (gof n mm) n 4 p0 p1 0 := ⟨_, rfl⟩
  rw [← hk0]
  refine lv_istore (lv' := [(5, .int k0), (0, .ref b), (1, .ref (gA E 83)), (2, .ref (gA E 84)), (3, .ref (gA E 89)), (4, .int (nI (4 * t)))]) hx hb dL_law_549 hl (by decide) rfl (fun ls hl => ?_)
  rcases hW with ⟨hF0, S_0, hR0, hS1⟩ | ⟨hF0, hS1⟩
  · skip
    obtain ⟨hX0, e0⟩ := hR0
    have hM1 : MI S_1 (n, z, mm) mc sv := hLI.m1 e0 hS1
    have hLm : (sM S_1).1 4 = nI u_n := by rw [hS1]; exact (congrArg (fun q => q.2.1.1 4) e0).trans hTM.1
    refine lv_aload_n hx hb dL_law_551 rfl (lv_at hl 3 rfl) ?_
    refine lv_aload_n hx hb dL_law_552 rfl (lv_at hl 1 rfl) ?_
    refine lv_iload hx hb dL_law_553 (lv_at hl 5 rfl) ?_
    refine lv_iconst (v := 1) hx hb dL_law_555 (by decide) ?_
    refine lv_iadd hx hb dL_law_556 ?_
    refine i_scv C hgs hsc hbl hL hJ (v := p0) (nI_add (4 * t) 1) (by omega) hp0.symm dL_law_557 ?_
    refine lv_aload_n hx hb dL_law_558 rfl (lv_at hl 1 rfl) ?_
    refine lv_iload hx hb dL_law_559 (lv_at hl 5 rfl) ?_
    refine lv_iconst (v := 2) hx hb dL_law_561 (by decide) ?_
    refine lv_iadd hx hb dL_law_562 ?_
    refine i_scv C hgs hsc hbl hL hJ (v := p1) (nI_add (4 * t) 2) (by omega) hp1.symm dL_law_563 ?_
    refine cw_L_115 C hJ (rest := []) (c_X7_offer hE hM1 p0 p1 1000) dL_law_564 hl.1 ⟨Nat.le_of_ble_eq_true rfl, Nat.le_of_ble_eq_true rfl⟩ ⟨by show 90 + 2 * t + 1 ≤ 601024; omega, by show 1368 + 12 * t + 6 ≤ 7293034; omega⟩ (Nat.le_of_ble_eq_true rfl) rfl rfl (fun vr S_2 H locs hP hJ => ?_)
    obtain ⟨x2, rfl, ht2, hK2, hok, hno⟩ := hP
    have eF : (sM S_2).1 2 = k0 := by rw [ht2, hk0]; try rfl
    have hk00 : k0 = 0 := by rw [hk0, hF0]
    obtain ⟨hx2, hM2⟩ := hok (by rw [← ht2, eF, hk00])
    subst hx2
    refine lv_istore (lv' := [(6, .int ((f_co 1000 n z mm 4 p0 p1 0).1)), (5, .int k0), (0, .ref b), (1, .ref (gA E 83)), (2, .ref (gA E 84)), (3, .ref (gA E 89)), (4, .int (nI (4 * t)))]) hx hb dL_law_567 hl (by decide) rfl (fun ls hl => ?_)
    refine lv_aload_n hx hb dL_law_569 rfl (lv_at hl 4 rfl) ?_
    refine cr_L_92 C hJ (rest := []) (c_X7_thrown hE) dL_law_570 hl.1 ⟨Nat.le_of_ble_eq_true rfl, Nat.le_of_ble_eq_true rfl⟩ ⟨by show 90 + 2 * t + 1 ≤ 601024; omega, by show 1368 + 12 * t + 6 ≤ 7293034; omega⟩ (Nat.le_of_ble_eq_true rfl) rfl rfl ?_
    refine lv_iload hx hb dL_law_573 (lv_at hl 1 rfl) ?_
    refine lv_icmp_eq (tgt := 580) hx hb dL_law_575 (by decide) (fun _ => ?_) (fun c_9 => absurd eF c_9)
    refine lv_iload hx hb dL_law_580 (lv_at hl 1 rfl) ?_
    refine lv_if_ne (tgt := 597) hx hb dL_law_582 (by decide) (fun c_9 => absurd hk00 c_9) (fun _ => ?_)
    refine lv_aload_n hx hb dL_law_585 rfl (lv_at hl 5 rfl) ?_
    refine lv_iconst (v := 0) hx hb dL_law_586 (by decide) ?_
    refine a_ou C hJ dL_law_587 ?_
    refine lv_iload hx hb dL_law_588 (lv_at hl 0 rfl) ?_
    refine lv_i2l (v := ((f_co 1000 n z mm 4 p0 p1 0).1).toInt64) hx hb dL_law_590 rfl ?_
    refine W.lcmp hx hb dL_law_591 ?_
    have heq : sO S_2 0 = ((f_co 1000 n z mm 4 p0 p1 0).1).toInt64 := by rw [hK2.2.2.2.2.2.2, hS1, setO_0]
    refine lv_if_eq (tgt := 597) hx hb dL_law_592 (by decide) (fun _ => ?_) (fun c_9 => absurd (cmp0.mpr heq) c_9)
    refine lv_goto (tgt := 1487) hx hb dL_law_597 (by decide) ?_
    refine lv_iinc (v := nI (4 * (t + 1))) (lv' := [(4, .int (nI (4 * (t + 1)))), (6, .int ((f_co 1000 n z mm 4 p0 p1 0).1)), (5, .int k0), (0, .ref b), (1, .ref (gA E 83)), (2, .ref (gA E 84)), (3, .ref (gA E 89))]) hx hb dL_law_1487 hl (k := 6) rfl (by exact nI_add (4 * t) 4) (by decide) rfl (fun ls hl => ?_)
    refine lv_goto (tgt := 23) hx hb dL_law_1490 (by decide) ?_
    refine W.widen (k := 90 + 2 * (t + 1)) (n := 1368 + 12 * (t + 1)) (by omega) (by omega) ?_
    exact hk S_2 _ _ _ _ _ H locs ls (hLI.ok hX0 e0 hS1 hK2 hM2 (GOk.co (fu := 1000) hG (u_j := 4) (by decide) hF0) hLI.push) hJ (lv_sub hl [3, 4, 5, 6, 0] rfl)
  · skip
    rw [hS1] at hJ
    have hM1 := hMI
    have hLm := hTM.1
    refine lv_aload_n hx hb dL_law_551 rfl (lv_at hl 3 rfl) ?_
    refine lv_aload_n hx hb dL_law_552 rfl (lv_at hl 1 rfl) ?_
    refine lv_iload hx hb dL_law_553 (lv_at hl 5 rfl) ?_
    refine lv_iconst (v := 1) hx hb dL_law_555 (by decide) ?_
    refine lv_iadd hx hb dL_law_556 ?_
    refine i_scv C hgs hsc hbl hL hJ (v := p0) (nI_add (4 * t) 1) (by omega) hp0.symm dL_law_557 ?_
    refine lv_aload_n hx hb dL_law_558 rfl (lv_at hl 1 rfl) ?_
    refine lv_iload hx hb dL_law_559 (lv_at hl 5 rfl) ?_
    refine lv_iconst (v := 2) hx hb dL_law_561 (by decide) ?_
    refine lv_iadd hx hb dL_law_562 ?_
    refine i_scv C hgs hsc hbl hL hJ (v := p1) (nI_add (4 * t) 2) (by omega) hp1.symm dL_law_563 ?_
    refine cw_L_115 C hJ (rest := []) (c_X7_offer hE hM1 p0 p1 1000) dL_law_564 hl.1 ⟨Nat.le_of_ble_eq_true rfl, Nat.le_of_ble_eq_true rfl⟩ ⟨by show 90 + 2 * t + 1 ≤ 601024; omega, by show 1368 + 12 * t + 6 ≤ 7293034; omega⟩ (Nat.le_of_ble_eq_true rfl) rfl rfl (fun vr S_2 H locs hP hJ => ?_)
    obtain ⟨x2, rfl, ht2, hK2, hok, hno⟩ := hP
    have eF : (sM S_2).1 2 = k0 := by rw [ht2, hk0]; try rfl
    have hk00 : ¬ k0 = 0 := fun y => hF0 (by rw [hk0] at y; exact y)
    have hM2 := hno (fun y => hk00 (by rw [← eF, ht2, y]))
    refine lv_istore (lv' := [(6, .int (x2)), (5, .int k0), (0, .ref b), (1, .ref (gA E 83)), (2, .ref (gA E 84)), (3, .ref (gA E 89)), (4, .int (nI (4 * t)))]) hx hb dL_law_567 hl (by decide) rfl (fun ls hl => ?_)
    refine lv_aload_n hx hb dL_law_569 rfl (lv_at hl 4 rfl) ?_
    refine cr_L_92 C hJ (rest := []) (c_X7_thrown hE) dL_law_570 hl.1 ⟨Nat.le_of_ble_eq_true rfl, Nat.le_of_ble_eq_true rfl⟩ ⟨by show 90 + 2 * t + 1 ≤ 601024; omega, by show 1368 + 12 * t + 6 ≤ 7293034; omega⟩ (Nat.le_of_ble_eq_true rfl) rfl rfl ?_
    refine lv_iload hx hb dL_law_573 (lv_at hl 1 rfl) ?_
    refine lv_icmp_eq (tgt := 580) hx hb dL_law_575 (by decide) (fun _ => ?_) (fun c_9 => absurd eF c_9)
    refine lv_iload hx hb dL_law_580 (lv_at hl 1 rfl) ?_
    refine lv_if_ne (tgt := 597) hx hb dL_law_582 (by decide) (fun _ => ?_) (fun c_9 => absurd c_9 hk00)
    refine lv_goto (tgt := 1487) hx hb dL_law_597 (by decide) ?_
    refine lv_iinc (v := nI (4 * (t + 1))) (lv' := [(4, .int (nI (4 * (t + 1)))), (6, .int (x2)), (5, .int k0), (0, .ref b), (1, .ref (gA E 83)), (2, .ref (gA E 84)), (3, .ref (gA E 89))]) hx hb dL_law_1487 hl (k := 6) rfl (by exact nI_add (4 * t) 4) (by decide) rfl (fun ls hl => ?_)
    refine lv_goto (tgt := 23) hx hb dL_law_1490 (by decide) ?_
    refine W.widen (k := 90 + 2 * (t + 1)) (n := 1368 + 12 * (t + 1)) (by omega) (by omega) ?_
    exact hk S_2 _ _ _ _ _ H locs ls (hLI.no hK2 hM2) hJ (lv_sub hl [3, 4, 5, 6, 0] rfl)
