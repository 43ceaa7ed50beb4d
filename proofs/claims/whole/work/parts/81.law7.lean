/-! LAW: its loop, its start (by program) -/
set_option maxHeartbeats 4000000 in
set_option maxRecDepth 100000 in
theorem law_loop {p : Program} {l : Launch} {e : Env} {s : State} {m : MethodId} {below : List Frame} {meth : Method} {c : Code} {b L : Nat} {xs : Nat → Int32} {E : GE} {X : EX} {u_x : Nat × Nat × Nat} (C : Cx E p s m meth c cL_law RL 7) (hX : Env1 E X) (hX2 : Env2 l E u_x) (h3 : Env3 E) (hgs : gS E = s) (hr : meth.sig.returnType = ret) (hsc : va_X b L xs s s.heap) (hbl : b < s.heap.size) (hL : L ≤ 2048) : ∀ (d t : Nat), 4 * t ≤ L → L < 4 * t + d → LK p l e s m b below meth c E t := by
  intro d
  induction d with
  | zero => intro t h1 h2; omega
  | succ d ih =>
    intro t h1 h2 S cv mc sv u_n u_b H locs ls hLI hJ hl
    obtain ⟨n, z, mm⟩ := cv
    have hx := C.x
    have hb := C.b
    refine lv_iload hx hb dL_law_23 (lv_at hl 4 rfl) ?_
    refine lv_aload_n hx hb dL_law_25 rfl (lv_at hl 0 rfl) ?_
    refine i_slen C hgs hsc hbl hJ dL_law_26 ?_
    refine lv_iconst (v := 4) hx hb dL_law_27 (by decide) ?_
    refine lv_isub hx hb dL_law_28 ?_
    refine lv_icmp_gt (tgt := 1493) hx hb dL_law_29 (by decide) (fun c_29 => ?_) (fun c_29 => ?_)
    · refine lv_iconst (v := 1) hx hb dL_law_1493 (by decide) ?_
      refine va_forget (fun q hq => by have h := hJ.2.2.2 q hq; rw [← hgs]; exact h) ?_
      refine W.widen (k := 601024) (n := 7293034) (by omega) (by omega) ?_
      exact lw_ret hx hb hr C.lk dL_law_1494
    · have ht : 4 * t + 4 ≤ L := Classical.byContradiction (fun q => c_29 ((len4 hL (by omega)).mpr q))
      have hk : LK p l e s m b below meth c E (t + 1) := ih (t + 1) (by omega) (by omega)
      refine lv_aload_n hx hb dL_law_32 rfl (lv_at hl 0 rfl) ?_
      refine lv_iload hx hb dL_law_33 (lv_at hl 4 rfl) ?_
      refine i_scr C hgs hsc hbl hL hJ (j := 4 * t) rfl (by omega) dL_law_35 ?_
      refine lv_bipush (v := 31) hx hb dL_law_36 (by decide) ?_
      refine lv_iand hx hb dL_law_38 ?_
      obtain ⟨u_k, hk32, ek⟩ := and31 (xs (4 * t))
      rw [ek]
      rcases (show u_k = 0 ∨ u_k = 1 ∨ u_k = 2 ∨ u_k = 3 ∨ u_k = 4 ∨ u_k = 5 ∨ u_k = 6 ∨ u_k = 7 ∨ u_k = 8 ∨ u_k = 9 ∨ u_k = 10 ∨ u_k = 11 ∨ u_k = 12 ∨ u_k = 13 ∨ u_k = 14 ∨ u_k = 15 ∨ u_k = 16 ∨ u_k = 17 ∨ u_k = 18 ∨ u_k = 19 ∨ u_k = 20 ∨ u_k = 21 ∨ u_k = 22 ∨ u_k = 23 ∨ u_k = 24 ∨ u_k = 25 ∨ u_k = 26 ∨ u_k = 27 ∨ u_k = 28 ∨ u_k = 29 ∨ u_k = 30 ∨ u_k = 31 by omega) with rfl | rfl | rfl | rfl | rfl | rfl | rfl | rfl | rfl | rfl | rfl | rfl | rfl | rfl | rfl | rfl | rfl | rfl | rfl | rfl | rfl | rfl | rfl | rfl | rfl | rfl | rfl | rfl | rfl | rfl | rfl | rfl
      · exact lv_tableIn (off := 121) (tgt := 160) hx hb dL_law_39 (by decide) (by decide) (by rfl) (by decide) (lc_0 C hX hX2 h3 hgs hsc hbl hL ht hLI hJ hl hk)
      · exact lv_tableIn (off := 189) (tgt := 228) hx hb dL_law_39 (by decide) (by decide) (by rfl) (by decide) (lc_1 C hX hX2 h3 hgs hsc hbl hL ht hLI hJ hl hk)
      · exact lv_tableIn (off := 269) (tgt := 308) hx hb dL_law_39 (by decide) (by decide) (by rfl) (by decide) (lc_2 C hX hX2 h3 hgs hsc hbl hL ht hLI hJ hl hk)
      · exact lv_tableIn (off := 325) (tgt := 364) hx hb dL_law_39 (by decide) (by decide) (by rfl) (by decide) (lc_3 C hX hX2 h3 hgs hsc hbl hL ht hLI hJ hl hk)
      · exact lv_tableIn (off := 369) (tgt := 408) hx hb dL_law_39 (by decide) (by decide) (by rfl) (by decide) (lc_4 C hX hX2 h3 hgs hsc hbl hL ht hLI hJ hl hk)
      · exact lv_tableIn (off := 437) (tgt := 476) hx hb dL_law_39 (by decide) (by decide) (by rfl) (by decide) (lc_5 C hX hX2 h3 hgs hsc hbl hL ht hLI hJ hl hk)
      · exact lv_tableIn (off := 493) (tgt := 532) hx hb dL_law_39 (by decide) (by decide) (by rfl) (by decide) (lc_6 C hX hX2 h3 hgs hsc hbl hL ht hLI hJ hl hk)
      · exact lv_tableIn (off := 561) (tgt := 600) hx hb dL_law_39 (by decide) (by decide) (by rfl) (by decide) (lc_7 C hX hX2 h3 hgs hsc hbl hL ht hLI hJ hl hk)
      · exact lv_tableIn (off := 617) (tgt := 656) hx hb dL_law_39 (by decide) (by decide) (by rfl) (by decide) (lc_8 C hX hX2 h3 hgs hsc hbl hL ht hLI hJ hl hk)
      · exact lv_tableIn (off := 673) (tgt := 712) hx hb dL_law_39 (by decide) (by decide) (by rfl) (by decide) (lc_9 C hX hX2 h3 hgs hsc hbl hL ht hLI hJ hl hk)
      · exact lv_tableIn (off := 729) (tgt := 768) hx hb dL_law_39 (by decide) (by decide) (by rfl) (by decide) (lc_10 C hX hX2 h3 hgs hsc hbl hL ht hLI hJ hl hk)
      · exact lv_tableIn (off := 785) (tgt := 824) hx hb dL_law_39 (by decide) (by decide) (by rfl) (by decide) (lc_11 C hX hX2 h3 hgs hsc hbl hL ht hLI hJ hl hk)
      · exact lv_tableIn (off := 798) (tgt := 837) hx hb dL_law_39 (by decide) (by decide) (by rfl) (by decide) (lc_12 C hX hX2 h3 hgs hsc hbl hL ht hLI hJ hl hk)
      · exact lv_tableIn (off := 866) (tgt := 905) hx hb dL_law_39 (by decide) (by decide) (by rfl) (by decide) (lc_13 C hX hX2 h3 hgs hsc hbl hL ht hLI hJ hl hk)
      · exact lv_tableIn (off := 922) (tgt := 961) hx hb dL_law_39 (by decide) (by decide) (by rfl) (by decide) (lc_14 C hX hX2 h3 hgs hsc hbl hL ht hLI hJ hl hk)
      · exact lv_tableIn (off := 990) (tgt := 1029) hx hb dL_law_39 (by decide) (by decide) (by rfl) (by decide) (lc_15 C hX hX2 h3 hgs hsc hbl hL ht hLI hJ hl hk)
      · exact lv_tableIn (off := 1046) (tgt := 1085) hx hb dL_law_39 (by decide) (by decide) (by rfl) (by decide) (lc_16 C hX hX2 h3 hgs hsc hbl hL ht hLI hJ hl hk)
      · exact lv_tableIn (off := 1102) (tgt := 1141) hx hb dL_law_39 (by decide) (by decide) (by rfl) (by decide) (lc_17 C hX hX2 h3 hgs hsc hbl hL ht hLI hJ hl hk)
      · exact lv_tableIn (off := 1158) (tgt := 1197) hx hb dL_law_39 (by decide) (by decide) (by rfl) (by decide) (lc_18 C hX hX2 h3 hgs hsc hbl hL ht hLI hJ hl hk)
      · exact lv_tableIn (off := 1226) (tgt := 1265) hx hb dL_law_39 (by decide) (by decide) (by rfl) (by decide) (lc_19 C hX hX2 h3 hgs hsc hbl hL ht hLI hJ hl hk)
      · exact lv_tableIn (off := 1282) (tgt := 1321) hx hb dL_law_39 (by decide) (by decide) (by rfl) (by decide) (lc_20 C hX hX2 h3 hgs hsc hbl hL ht hLI hJ hl hk)
      · exact lv_tableIn (off := 1295) (tgt := 1334) hx hb dL_law_39 (by decide) (by decide) (by rfl) (by decide) (lc_21 C hX hX2 h3 hgs hsc hbl hL ht hLI hJ hl hk)
      · exact lv_tableIn (off := 1308) (tgt := 1347) hx hb dL_law_39 (by decide) (by decide) (by rfl) (by decide) (lc_22 C hX hX2 h3 hgs hsc hbl hL ht hLI hJ hl hk)
      · exact lv_tableIn (off := 1364) (tgt := 1403) hx hb dL_law_39 (by decide) (by decide) (by rfl) (by decide) (lc_23 C hX hX2 h3 hgs hsc hbl hL ht hLI hJ hl hk)
      · exact lv_tableIn (off := 1377) (tgt := 1416) hx hb dL_law_39 (by decide) (by decide) (by rfl) (by decide) (lc_24 C hX hX2 h3 hgs hsc hbl hL ht hLI hJ hl hk)
      · exact lv_tableIn (off := 1390) (tgt := 1429) hx hb dL_law_39 (by decide) (by decide) (by rfl) (by decide) (lc_25 C hX hX2 h3 hgs hsc hbl hL ht hLI hJ hl hk)
      · exact lv_tableIn (off := 1434) (tgt := 1473) hx hb dL_law_39 (by decide) (by decide) (by rfl) (by decide) (lc_26 C hX hX2 h3 hgs hsc hbl hL ht hLI hJ hl hk)
      · refine lv_tableOut (tgt := 1487) hx hb dL_law_39 (by decide) (by decide) ?_
        refine lv_iinc (v := nI (4 * (t + 1))) (lv' := [(4, .int (nI (4 * (t + 1)))), (0, .ref b), (1, .ref (gA E 83)), (2, .ref (gA E 84)), (3, .ref (gA E 89))]) hx hb dL_law_1487 hl (k := 4) rfl (by exact nI_add (4 * t) 4) (by decide) rfl (fun ls hl => ?_)
        refine lv_goto (tgt := 23) hx hb dL_law_1490 (by decide) ?_
        refine W.widen (k := 90 + 2 * (t + 1)) (n := 1368 + 12 * (t + 1)) (by omega) (by omega) ?_
        exact hk S _ _ _ _ _ H locs ls (hLI) hJ (lv_sub hl [1, 2, 3, 4, 0] rfl)
      · refine lv_tableOut (tgt := 1487) hx hb dL_law_39 (by decide) (by decide) ?_
        refine lv_iinc (v := nI (4 * (t + 1))) (lv' := [(4, .int (nI (4 * (t + 1)))), (0, .ref b), (1, .ref (gA E 83)), (2, .ref (gA E 84)), (3, .ref (gA E 89))]) hx hb dL_law_1487 hl (k := 4) rfl (by exact nI_add (4 * t) 4) (by decide) rfl (fun ls hl => ?_)
        refine lv_goto (tgt := 23) hx hb dL_law_1490 (by decide) ?_
        refine W.widen (k := 90 + 2 * (t + 1)) (n := 1368 + 12 * (t + 1)) (by omega) (by omega) ?_
        exact hk S _ _ _ _ _ H locs ls (hLI) hJ (lv_sub hl [1, 2, 3, 4, 0] rfl)
      · refine lv_tableOut (tgt := 1487) hx hb dL_law_39 (by decide) (by decide) ?_
        refine lv_iinc (v := nI (4 * (t + 1))) (lv' := [(4, .int (nI (4 * (t + 1)))), (0, .ref b), (1, .ref (gA E 83)), (2, .ref (gA E 84)), (3, .ref (gA E 89))]) hx hb dL_law_1487 hl (k := 4) rfl (by exact nI_add (4 * t) 4) (by decide) rfl (fun ls hl => ?_)
        refine lv_goto (tgt := 23) hx hb dL_law_1490 (by decide) ?_
        refine W.widen (k := 90 + 2 * (t + 1)) (n := 1368 + 12 * (t + 1)) (by omega) (by omega) ?_
        exact hk S _ _ _ _ _ H locs ls (hLI) hJ (lv_sub hl [1, 2, 3, 4, 0] rfl)
      · refine lv_tableOut (tgt := 1487) hx hb dL_law_39 (by decide) (by decide) ?_
        refine lv_iinc (v := nI (4 * (t + 1))) (lv' := [(4, .int (nI (4 * (t + 1)))), (0, .ref b), (1, .ref (gA E 83)), (2, .ref (gA E 84)), (3, .ref (gA E 89))]) hx hb dL_law_1487 hl (k := 4) rfl (by exact nI_add (4 * t) 4) (by decide) rfl (fun ls hl => ?_)
        refine lv_goto (tgt := 23) hx hb dL_law_1490 (by decide) ?_
        refine W.widen (k := 90 + 2 * (t + 1)) (n := 1368 + 12 * (t + 1)) (by omega) (by omega) ?_
        exact hk S _ _ _ _ _ H locs ls (hLI) hJ (lv_sub hl [1, 2, 3, 4, 0] rfl)
      · refine lv_tableOut (tgt := 1487) hx hb dL_law_39 (by decide) (by decide) ?_
        refine lv_iinc (v := nI (4 * (t + 1))) (lv' := [(4, .int (nI (4 * (t + 1)))), (0, .ref b), (1, .ref (gA E 83)), (2, .ref (gA E 84)), (3, .ref (gA E 89))]) hx hb dL_law_1487 hl (k := 4) rfl (by exact nI_add (4 * t) 4) (by decide) rfl (fun ls hl => ?_)
        refine lv_goto (tgt := 23) hx hb dL_law_1490 (by decide) ?_
        refine W.widen (k := 90 + 2 * (t + 1)) (n := 1368 + 12 * (t + 1)) (by omega) (by omega) ?_
        exact hk S _ _ _ _ _ H locs ls (hLI) hJ (lv_sub hl [1, 2, 3, 4, 0] rfl)
set_option maxHeartbeats 4000000 in
set_option maxRecDepth 100000 in
theorem known_6 {args : Array Value} {s : State} (hts : ∀ w ∈ lw_tbl, w.before args s = true) : ∃ D : va_G, va_K D vwCl [] s := by
  have hp : ∀ w ∈ pw_tbl, w.before args s = true := fun w h => hts w (List.mem_filter.mp h).1
  obtain ⟨u_c0, u_i0, h0⟩ := u_known (C := RX2) (T := TX2) (N := 6) (n := 6) hp kw_X2 (hp _ kx_X2)
  obtain ⟨u_c1, u_i1, h1⟩ := u_known (C := RX3) (T := TX3) (N := 2) (n := 2) hp kw_X3 (hp _ kx_X3)
  obtain ⟨u_c2, u_i2, h2⟩ := u_known (C := RX4) (T := TX4) (N := 8) (n := 8) hp kw_X4 (hp _ kx_X4)
  obtain ⟨u_c3, u_i3, h3⟩ := u_known (C := RX5) (T := TX5) (N := 7) (n := 7) hp kw_X5 (hp _ kx_X5)
  obtain ⟨u_c4, u_i4, h4⟩ := u_known (C := RX6) (T := TX6) (N := 4) (n := 4) hp kw_X6 (hp _ kx_X6)
  obtain ⟨u_c5, u_i5, h5⟩ := u_known (C := RX7) (T := TX7) (N := 9) (n := 9) hp kw_X7 (hp _ kx_X7)
  refine ⟨(fun k => if k = 0 then u_c0 else if k = 1 then u_c1 else if k = 2 then u_c2 else if k = 3 then u_c3 else if k = 4 then u_c4 else u_c5, fun k => if k = 0 then u_i0 else if k = 1 then u_i1 else if k = 2 then u_i2 else if k = 3 then u_i3 else if k = 4 then u_i4 else u_i5), fun k q hq => ?_, fun k q h => by simp at h⟩
  match k, hq with
  | 0, hq => cases hq; exact h0
  | 1, hq => cases hq; exact h1
  | 2, hq => cases hq; exact h2
  | 3, hq => cases hq; exact h3
  | 4, hq => cases hq; exact h4
  | 5, hq => cases hq; exact h5
  | k + 6, hq => simp [vwCl] at hq
set_option maxHeartbeats 4000000 in
set_option maxRecDepth 100000 in
theorem whole_start {p : Program} {e : Env} {s : State} {m : MethodId} {below : List Frame} {meth : Method} {c : Code} (l : Launch) (hflags : l.flags = flags0) {b L : Nat} {xs : Nat → Int32} (hL : L ≤ 2048) (C0 : lw_At p s m meth c b L xs) : W p l e room_1 s m #[Value.ref b] below meth c s.heap [] 0 0 (lw_Z below #[Value.ref b] s) (entryFrame m ([Value.ref b] : List Value).toArray 7) := by
  obtain ⟨hx, hb, hr, hml, hown, hts, hX, hbl, hlocks, hgv⟩ := C0
  obtain ⟨ad, X, u_x, henv⟩ := env_of hgv hts
  obtain ⟨D, hK0⟩ := known_6 hts
  have C : Cy (D, s, #[Value.ref b]) p s m meth c cL_law RL 7 := ⟨hx, hb, hml, hown, State.WarmedH.refl s, ⟨hK0, hts⟩, hlocks⟩
  have hA : ∀ q : Nat, s.heap.size ≤ q → (fun q : Nat => s.heap.size ≤ q) q := fun _ h => h
  have hS : va_S (fun q : Nat => s.heap.size ≤ q) s.heap s.heap [] := va_S.rf
  have hP : va_P D vwCl [] s.heap := fun k q h => by simp at h
  have hD : va_D (fun q : Nat => s.heap.size ≤ q) [] := ⟨fun i j p q h => by simp at h, fun k q h => by simp at h⟩
  have hl := lv_entry ([.ref b]) (n := 7) (Nat.le_of_ble_eq_true rfl)
  rw [lg_entry_eq]
  generalize (lg_sl ([.ref b]) ++ List.replicate (7 - (lg_sl ([.ref b])).length) Slot.unset).toArray = ls at hl ⊢
  have hl : lv_has ls 7 [(0, .ref b)] := hl
  have hK := hK0
  refine b_new (ci := 4) (N := 4) (T := TX6) (ty := tyX6) (fs := (uZ 0).2.elim (fun _ => []) (fun x => x.2)) C hK0 hP hD hS hA kw_X6 tyX6_ok kk_L_8 kx_X6 k0_X6 rfl (fun j hj => by rcases (show j = 0 ∨ j = 1 ∨ j = 2 ∨ j = 3 by omega) with rfl | rfl | rfl | rfl <;> rfl) ⟨by show _ ≤ 601024; omega, by show _ ≤ 7293034; omega⟩ dL_law_0 (fun h0 H hP hD hS => ?_)
  refine lv_dup hx hb dL_law_3 rfl ?_
  refine b_callI C (u_w := []) (e0 := (uZ 0).2) (c_X6_init C.en h0) hP hD hS hA km_L_82 ki_X6_init k0_X6 kc_X6_init rfl ⟨by decide, by decide, by decide +kernel⟩ dL_law_4 hl.1 ⟨Nat.le_of_ble_eq_true rfl, Nat.le_of_ble_eq_true rfl⟩ ⟨by show _ ≤ 601024; omega, by show _ ≤ 7293034; omega⟩ (Nat.le_of_ble_eq_true rfl) (fun w1 tys1 H locs hp hP hK9 hD hS => ?_)
  obtain ⟨a0, a1, qh, qs, a2, a3, a4, a5, qt, qb, qn, c0, c1, c2, c3, rfl, rfl⟩ := hp
  have hK1 := hK9
  have hP : va_P D vwCl (qW h0 a0 a1 qh qs a2 a3 a4 a5 qt qb qn c0 c1 c2 c3) H := hP
  have hD : va_D (fun q : Nat => s.heap.size ≤ q) (qW h0 a0 a1 qh qs a2 a3 a4 a5 qt qb qn c0 c1 c2 c3) := hD
  refine lv_astore_n (lv' := [(1, .ref h0), (0, .ref b)]) hx hb dL_law_7 rfl hl (by decide) rfl (fun ls hl => ?_)
  refine b_new (ci := 5) (N := 9) (T := TX7) (ty := tyX7) (fs := (oZ 0).2.elim (fun _ => []) (fun x => x.2)) C hK0 hP hD hS hA kw_X7 tyX7_ok kk_L_83 kx_X7 k0_X7 rfl (fun j hj => by rcases (show j = 0 ∨ j = 1 ∨ j = 2 ∨ j = 3 ∨ j = 4 ∨ j = 5 ∨ j = 6 ∨ j = 7 ∨ j = 8 by omega) with rfl | rfl | rfl | rfl | rfl | rfl | rfl | rfl | rfl <;> rfl) ⟨by show _ ≤ 601024; omega, by show _ ≤ 7293034; omega⟩ dL_law_8 (fun hm H hP hD hS => ?_)
  refine lv_dup hx hb dL_law_11 rfl ?_
  refine b_callI C (u_w := qW h0 a0 a1 qh qs a2 a3 a4 a5 qt qb qn c0 c1 c2 c3) (e0 := (oZ 0).2) (c_X7_init C.en hm) hP hD hS hA km_L_85 ki_X7_init k0_X7 kc_X7_init rfl ⟨by decide, by decide, by decide +kernel⟩ dL_law_12 hl.1 ⟨Nat.le_of_ble_eq_true rfl, Nat.le_of_ble_eq_true rfl⟩ ⟨by show _ ≤ 601024; omega, by show _ ≤ 7293034; omega⟩ (Nat.le_of_ble_eq_true rfl) (fun w1 tys1 H locs hp hP hK9 hD hS => ?_)
  obtain ⟨qr, qx, qg, qe, c1x, rfl, rfl⟩ := hp
  obtain rfl := ty_eq hK1 hK9 (i := 1) (j := 0) rfl rfl
  refine lv_astore_n (lv' := [(2, .ref hm), (1, .ref h0), (0, .ref b)]) hx hb dL_law_15 rfl hl (by decide) rfl (fun ls hl => ?_)
  refine lv_iconst (v := 1) hx hb dL_law_16 (by decide) ?_
  refine b_arr (atype := .long) (ty := .long) (u_n := 1) (a0 := oA) C rfl ka_long hK1 hP hD hS hA (fun _ => rfl) (by decide) (by decide) (by decide) ⟨by show _ ≤ 601024; omega, by show _ ≤ 7293034; omega⟩ dL_law_17 (fun qo c4 H hK5 hP hD hS => ?_)
  obtain ⟨hP9, hD9⟩ := start_P (s := s) (av := #[Value.ref b]) (ad := ad) h0 a0 a1 qh qs a2 a3 a4 a5 qt qb qn hm qr qx qg qe qo c0 c1 c2 c3 c4 hP hD
  obtain ⟨E, hE⟩ : ∃ E, E = EE D s #[Value.ref b] ad h0 a0 a1 qh qs a2 a3 a4 a5 qt qb qn hm qr qx qg qe qo c0 c1 c2 c3 c4 := ⟨_, rfl⟩
  refine lv_astore_n (lv' := [(3, .ref qo), (2, .ref hm), (1, .ref h0), (0, .ref b)]) hx hb dL_law_19 rfl hl (by decide) rfl (fun ls hl => ?_)
  refine lv_iconst (v := 0) hx hb dL_law_20 (by decide) ?_
  refine lv_istore (lv' := [(4, .int 0), (3, .ref qo), (2, .ref hm), (1, .ref h0), (0, .ref b)]) hx hb dL_law_21 hl (by decide) rfl (fun ls hl => ?_)
  rw [← hE] at hP9 hD9
  have hgs : gS E = s := by rw [hE]; rfl
  have hE0 : Env0 E := Env0.st (D := D) (by rw [hE]; rfl) hgs (by rw [hE]; exact hK5) hD9 (by rw [hE]; exact hts)
  obtain ⟨hX1, hX2⟩ := henv l E (no_trace hflags) hgs (by rw [hE]; rfl)
  have hJ : JJ E S0 H locs := ⟨by rw [show gD E = D by rw [hE]; rfl]; exact hP9, by rw [show gFr E = fun q : Nat => s.heap.size ≤ q by rw [hE]; rfl, hgs]; exact hS⟩
  have Cz : Cx E p s m meth c cL_law RL 7 := ⟨hx, hb, hml, hown, by rw [hgs]; exact State.WarmedH.refl s, hE0, hlocks⟩
  have hl5 : lv_has ls 7 [(0, .ref b), (1, .ref (gA E 83)), (2, .ref (gA E 84)), (3, .ref (gA E 89)), (4, .int (nI (4 * 0)))] := by rw [hE]; exact lv_sub hl [4, 3, 2, 1, 0] rfl
  refine W.widen (k := 90 + 2 * 0) (n := 1368 + 12 * 0) (by decide) (by decide) ?_
  exact law_loop Cz hX1 hX2 (Env3.of hgv hgs) hgs hr hX hbl hL (L + 1) 0 (by omega) (by omega) S0 cv0 0 (fun _ => cv0) 0 (fun _ => 0) H locs ls LI.z hJ hl5
