/-! JDK: the ordinal of a command, length and signs of its word -/
theorem cmdO_at {u_i : Nat} (h : u_i < 11) : cmdO.getD u_i 0 = nI u_i := by
  rcases (show u_i = 0 ∨ u_i = 1 ∨ u_i = 2 ∨ u_i = 3 ∨ u_i = 4 ∨ u_i = 5 ∨ u_i = 6 ∨ u_i = 7 ∨ u_i = 8 ∨ u_i = 9 ∨ u_i = 10 by omega) with rfl | rfl | rfl | rfl | rfl | rfl | rfl | rfl | rfl | rfl | rfl <;> rfl
theorem ku_212m : Cond.methodLink RX6 212 ⟨"ConsentQueue$Command", "ordinal", "()I"⟩ ∈ pw_tbl := pw_in 378 (by decide +kernel) (by decide +kernel)
theorem ku_212s : Cond.sameMethod "ConsentQueue$Command" "java/lang/Enum" "ordinal" "()I" ∈ pw_tbl := pw_in 379 (by decide +kernel) (by decide +kernel)
theorem ku_212l : Cond.selects RX1 ⟨"ConsentQueue$Command", "ordinal", "()I"⟩ yJx29ce0_ordinal_8abf5 ∈ pw_tbl := pw_in 381 (by decide +kernel) (by decide +kernel)
theorem c_ordinal {l : Launch} {E : GE} (hE : Env0 E) {S : ST} {X : EX} (hX : Env1 E X) {u_i : Nat} (hi : u_i < 11) : MR l E yJx29ce0_ordinal_8abf5 cJx29ce0_ordinal_8abf5 1 (some .int) 0 0 S [.ref (gN E u_i)] (some (.int (nI u_i))) := by
  refine MR.of hE (by decide) (Nat.le_of_ble_eq_true rfl) ?_
  intro p e s m below meth c ls C hJ hr hl
  have hx := C.x
  have hb := C.b
  have hl : lv_has ls 1 [(0, .ref (gN E u_i))] := hl
  have hf := (hX.1.1 u_i hi).2.2 ("java/lang/Enum", "ordinal", "I", cmdO) (by unfold cmdF; exact List.mem_cons_self)
  refine lv_aload_n hx hb dJx29ce0_ordinal_8abf5_0 rfl (lv_at hl 0 rfl) ?_
  refine i_OF C hJ hf kf_Jx29ce0_7 rfl dJx29ce0_ordinal_8abf5_1 ?_
  exact rR_i C hr rfl (cmdO_at hi) dJx29ce0_ordinal_8abf5_4
section Ord
variable {p : Program} {l : Launch} {e : Env} {R : Room} {s : State} {m : MethodId} {args : Array Value} {below : List Frame} {meth : Method} {c : Code} {H : Heap} {locs : List Loc} {cells slots : Nat} {Q : State → Prop} {E : GE} {S : ST} {X : EX} {cc : ByteArray} {own : String} {nL pc : Nat} {ls : Array Slot} {rest : List Value}
theorem o_212 (C : Cx E p s m meth c cc RX6 nL) (hJ : JJ E S H locs) (hX : Env1 E X) {u_i : Nat} (hi : u_i < 11) (hdg : decode cc pc = .ok (.invokevirtual 212, 3)) (hls : ls.size = nL) (hR : 1 ≤ R.frames ∧ 20 ≤ R.locals) (hf : cells ≤ R.cells ∧ slots ≤ R.slots) (hcat : (rest.map fun v => v.category).sum ≤ 8)
    (kk : W p l e R s m args below meth c H locs cells slots Q (F0 m (pc + 3) ls (.int (nI u_i) :: rest))) : W p l e R s m args below meth c H locs cells slots Q (F0 m pc ls (.ref (gN E u_i) :: rest)) :=
  k_R (v := some (.int (nI u_i))) (va_runU (Ts := pw_tbl) (As := []) (n := 0) (x := ⟨"ConsentQueue$Command", "ordinal", "()I"⟩) (owner := "java/lang/Enum") (C := RX1) ⟨C.x, C.b, C.ml, C.ow, C.ts⟩ (c_ordinal (l := l) C.env (S := S) hX hi) (va_cwU 0 C.ts (fun w hw => by
      rcases List.mem_append.mp hw with h | h
      · simp only [List.mem_cons, List.not_mem_nil, or_false] at h
        rcases h with rfl | rfl | rfl | rfl | rfl
        · exact ⟨ku_212m, pw_good ku_212m⟩
        · exact ⟨ku_212s, pw_good ku_212s⟩
        · exact ⟨ku_212l, pw_good ku_212l⟩
        · exact ⟨ki_Jx29ce0_ordinal_8abf5, pw_good ki_Jx29ce0_ordinal_8abf5⟩
        · exact ⟨k0_Jx29ce0, pw_good k0_Jx29ce0⟩
      · exact good1 kc_Jx29ce0_ordinal_8abf5 w h) rfl rfl rfl rfl ⟨by decide, by decide, by decide +kernel⟩ hR) ⟨blind _, i_rO C hJ (hX.1.1 u_i hi).2.1, fun U hU hW => ⟨rfl, HS.of C hJ hU hW⟩⟩ rfl rfl hls rfl (lv_room hcat) hdg hf) kk
theorem i_ZN (C : Cx E p s m meth c cc own nL) (hJ : JJ E S H locs) {o n d ref host : String} {v : Value} {index : Nat} (h : va_Z o n d v (gFr E) (gS E) (gS E).heap) (hl : Cond.fieldLinkNest own index ref n d host ∈ lw_tbl) (hsame : o = ref) (hdg : decode cc pc = .ok (.getstatic index, 3))
    (kk : W p l e R s m args below meth c H locs cells slots Q (F0 m (pc + 3) ls (v :: rest))) : W p l e R s m args below meth c H locs cells slots Q (F0 m pc ls rest) := by
  obtain ⟨cf, kf, fi, f, a, cell, h1, h2, h3, h4, h5, h6, h7, h8⟩ := (va_Z.moved C.hW.alike h).kept hJ.ag
  exact va_WgetsN C.x C.b C.ow (va_Nw.use rfl (va_Nw.warmF C.hW (va_Nw.of rfl (C.env.2.2.2 _ hl)))) (by rw [← hsame]; exact h1) h2 h3 h4 h5 (fun q => by rw [q] at h6; cases h6) h7 rfl hdg kk
end Ord
theorem c_coder {l : Launch} {E : GE} (hE : Env0 E) {S : ST} {X : EX} (hX : Env1 E X) {u_i : Nat} (hi : u_i < 11) : MR l E yJ0_coder_7d493 cJ0_coder_7d493 1 (some .byte) 0 0 S [.ref (X.1 u_i)] (some (.int 0)) := by
  refine MR.of hE (by decide) (Nat.le_of_ble_eq_true rfl) ?_
  intro p e s m below meth c ls C hJ hr hl
  have hx := C.x
  have hb := C.b
  have hl : lv_has ls 1 [(0, .ref (X.1 u_i))] := hl
  obtain ⟨hO, hC, hV, hT⟩ := hX.2.2.1.1 u_i hi
  refine i_Z C hJ hX.2.2.2.2.2.2.2.1 kf_J0_38 rfl dJ0_coder_7d493_0 ?_
  refine lv_if_eq (tgt := 13) hx hb dJ0_coder_7d493_3 (by decide) (fun c_3 => absurd c_3 (by decide)) (fun c_3 => ?_)
  refine lv_aload_n hx hb dJ0_coder_7d493_6 rfl (lv_at hl 0 rfl) ?_
  refine i_OF C hJ hC kf_J0_15 rfl dJ0_coder_7d493_7 ?_
  refine lv_goto (tgt := 14) hx hb dJ0_coder_7d493_10 (by decide) ?_
  exact rR_i C hr rfl rfl dJ0_coder_7d493_14
theorem c_isLatin1 {l : Launch} {E : GE} (hE : Env0 E) {S : ST} {X : EX} (hX : Env1 E X) {u_i : Nat} (hi : u_i < 11) : MR l E yJ0_isLatin1_aae02 cJ0_isLatin1_aae02 1 (some .boolean) 0 0 S [.ref (X.1 u_i)] (some (.int 1)) := by
  refine MR.of hE (by decide) (Nat.le_of_ble_eq_true rfl) ?_
  intro p e s m below meth c ls C hJ hr hl
  have hx := C.x
  have hb := C.b
  have hl : lv_has ls 1 [(0, .ref (X.1 u_i))] := hl
  obtain ⟨hO, hC, hV, hT⟩ := hX.2.2.1.1 u_i hi
  refine i_Z C hJ hX.2.2.2.2.2.2.2.1 kf_J0_38 rfl dJ0_isLatin1_aae02_0 ?_
  refine lv_if_eq (tgt := 17) hx hb dJ0_isLatin1_aae02_3 (by decide) (fun c_3 => absurd c_3 (by decide)) (fun c_3 => ?_)
  refine lv_aload_n hx hb dJ0_isLatin1_aae02_6 rfl (lv_at hl 0 rfl) ?_
  refine i_OF C hJ hC kf_J0_15 rfl dJ0_isLatin1_aae02_7 ?_
  refine lv_if_ne (tgt := 17) hx hb dJ0_isLatin1_aae02_10 (by decide) (fun c_10 => absurd rfl c_10) (fun c_10 => ?_)
  refine lv_iconst (v := 1) hx hb dJ0_isLatin1_aae02_13 (by decide) ?_
  refine lv_goto (tgt := 18) hx hb dJ0_isLatin1_aae02_14 (by decide) ?_
  exact rR_i C hr rfl rfl dJ0_isLatin1_aae02_18
theorem wLen_ok {u_i : Nat} (h : u_i < 11) : wLen.getD u_i 0 ≤ 6 := by
  rcases (show u_i = 0 ∨ u_i = 1 ∨ u_i = 2 ∨ u_i = 3 ∨ u_i = 4 ∨ u_i = 5 ∨ u_i = 6 ∨ u_i = 7 ∨ u_i = 8 ∨ u_i = 9 ∨ u_i = 10 by omega) with rfl | rfl | rfl | rfl | rfl | rfl | rfl | rfl | rfl | rfl | rfl <;> decide
theorem c_strLen {l : Launch} {E : GE} (hE : Env0 E) {S : ST} {X : EX} (hX : Env1 E X) {u_i : Nat} (hi : u_i < 11) : MR l E yJ0_length_8abf5 cJ0_length_8abf5 1 (some .int) 1 20 S [.ref (X.1 u_i)] (some (.int (nI (wLen.getD u_i 0)))) := by
  refine MR.of hE (by decide) (Nat.le_of_ble_eq_true rfl) ?_
  intro p e s m below meth c ls C hJ hr hl
  have hx := C.x
  have hb := C.b
  have hl : lv_has ls 1 [(0, .ref (X.1 u_i))] := hl
  obtain ⟨hO, hC, hV, hT⟩ := hX.2.2.1.1 u_i hi
  have h6 := wLen_ok hi
  refine lv_aload_n hx hb dJ0_length_8abf5_0 rfl (lv_at hl 0 rfl) ?_
  refine i_OF C hJ hV kf_J0_9 rfl dJ0_length_8abf5_1 ?_
  refine i_Tl C hJ hT rfl dJ0_length_8abf5_4 ?_
  refine lv_aload_n hx hb dJ0_length_8abf5_5 rfl (lv_at hl 0 rfl) ?_
  refine k_R (v := some (.int 0)) (r_VO (As := []) (n := 0) C hJ (c_coder hE hX hi) hO km_J0_335 ki_J0_coder_7d493 ks_J0_coder_7d493 k0_J0 kc_J0_coder_7d493 ⟨rfl, by decide, by decide, by decide +kernel⟩ rfl dJ0_length_8abf5_6 hl.1 ⟨Nat.le_of_ble_eq_true rfl, Nat.le_of_ble_eq_true rfl⟩ ⟨Nat.le_refl _, Nat.le_refl _⟩ (Nat.le_of_ble_eq_true rfl) rfl) ?_
  refine lv_ishr hx hb dJ0_length_8abf5_9 ?_
  exact rR_i C hr rfl (sc_shr0 (by omega)) dJ0_length_8abf5_10
theorem c_chk3 {l : Launch} {E : GE} (hE : Env0 E) {S : ST} {u_i u_n : Nat} (h : u_i < u_n) (hn : u_n ≤ 456) {u_v : Value} (hv : u_v = .null ∨ ∃ q, u_v = .ref q) : MR l E yJ3_checkIndex_8e157 cJ3_checkIndex_8e157 3 (some .int) 0 0 S [.int (nI u_i), .int (nI u_n), u_v] (some (.int (nI u_i))) := by
  rcases hv with rfl | ⟨u_q, rfl⟩
  all_goals
    refine MR.of hE (by decide) (Nat.le_of_ble_eq_true rfl) ?_
    intro p e s m below meth c ls C hJ hr hl
    have hx := C.x
    have hb := C.b
    have hl : lv_has ls 3 [(0, .int (nI u_i)), (1, .int (nI u_n)), (2, _)] := hl
    refine lv_iload_n hx hb dJ3_checkIndex_8e157_0 rfl (lv_at hl 0 rfl) ?_
    refine lv_if_lt (tgt := 9) hx hb dJ3_checkIndex_8e157_1 (by decide) (fun c_1 => absurd c_1 (nI_pos (by omega))) (fun c_1 => ?_)
    refine lv_iload_n hx hb dJ3_checkIndex_8e157_4 rfl (lv_at hl 0 rfl) ?_
    refine lv_iload_n hx hb dJ3_checkIndex_8e157_5 rfl (lv_at hl 1 rfl) ?_
    refine lv_icmp_lt (tgt := 16) hx hb dJ3_checkIndex_8e157_6 (by decide) (fun c_6 => ?_) (fun c_6 => absurd (nI_lt h (by omega)) c_6)
    refine lv_iload_n hx hb dJ3_checkIndex_8e157_16 rfl (lv_at hl 0 rfl) ?_
    exact rR_i C hr rfl rfl dJ3_checkIndex_8e157_17
theorem c_chk0 {l : Launch} {E : GE} (hE : Env0 E) {S : ST} {X : EX} (hX : Env1 E X) {u_i u_n : Nat} (h : u_i < u_n) (hn : u_n ≤ 456) : MR l E yJ0_checkIndex_df160 cJ0_checkIndex_df160 2 none 1 22 S [.int (nI u_i), .int (nI u_n)] none := by
  refine MR.of hE (by decide) (Nat.le_of_ble_eq_true rfl) ?_
  intro p e s m below meth c ls C hJ hr hl
  have hx := C.x
  have hb := C.b
  have hl : lv_has ls 2 [(0, .int (nI u_i)), (1, .int (nI u_n))] := hl
  refine lv_iload_n hx hb dJ0_checkIndex_df160_0 rfl (lv_at hl 0 rfl) ?_
  refine lv_iload_n hx hb dJ0_checkIndex_df160_1 rfl (lv_at hl 1 rfl) ?_
  have hz : ∃ u_v : Value, (u_v = .null ∨ ∃ q, u_v = .ref q) ∧ va_Z "jdk/internal/util/Preconditions" "SIOOBE_FORMATTER" "Ljava/util/function/BiFunction;" u_v (gFr E) (gS E) (gS E).heap := by
    rcases hX.2.2.2.2.2.2.2.2 with q | ⟨t, q⟩
    · exact ⟨.null, Or.inl rfl, q⟩
    · exact ⟨.ref t, Or.inr ⟨t, rfl⟩, q⟩
  obtain ⟨u_v, hv, hz⟩ := hz
  refine i_Z C hJ hz kf_J0_1053 rfl dJ0_checkIndex_df160_2 ?_
  refine k_R (v := some (.int (nI u_i))) (r_SO (As := [.int (nI u_i), .int (nI u_n), u_v]) (n := 3) C hJ (c_chk3 hE h hn hv) km_J0_1059 kt_J3_checkIndex_8e157 k0_J3 kc_J3_checkIndex_8e157 ⟨by decide, by decide, by decide +kernel⟩ rfl dJ0_checkIndex_df160_5 hl.1 ⟨Nat.le_of_ble_eq_true rfl, Nat.le_of_ble_eq_true rfl⟩ ⟨Nat.le_refl _, Nat.le_refl _⟩ (Nat.le_of_ble_eq_true rfl) rfl) ?_
  refine lv_pop hx hb dJ0_checkIndex_df160_8 rfl ?_
  exact rR_v C hr dJ0_checkIndex_df160_9
theorem wByt_ok {u_i u_j : Nat} (h : u_i < 11) (hj : u_j < wLen.getD u_i 0) : (((wByt.getD u_i []).getD u_j 0 &&& 255).toUInt32 % 65536).toInt32 = (wByt.getD u_i []).getD u_j 0 ∧ narrow .char (.int ((wByt.getD u_i []).getD u_j 0)) = .int ((wByt.getD u_i []).getD u_j 0) := by
  have h6 := wLen_ok h
  rcases (show u_i = 0 ∨ u_i = 1 ∨ u_i = 2 ∨ u_i = 3 ∨ u_i = 4 ∨ u_i = 5 ∨ u_i = 6 ∨ u_i = 7 ∨ u_i = 8 ∨ u_i = 9 ∨ u_i = 10 by omega) with rfl | rfl | rfl | rfl | rfl | rfl | rfl | rfl | rfl | rfl | rfl <;>
  rcases (show u_j = 0 ∨ u_j = 1 ∨ u_j = 2 ∨ u_j = 3 ∨ u_j = 4 ∨ u_j = 5 by omega) with rfl | rfl | rfl | rfl | rfl | rfl <;> exact ⟨by decide, by rfl⟩
theorem c_latAt {l : Launch} {E : GE} (hE : Env0 E) {S : ST} {X : EX} (hX : Env1 E X) {u_i u_j : Nat} (hi : u_i < 11) (hj : u_j < wLen.getD u_i 0) : MR l E yJ1_charAt_3b067 cJ1_charAt_3b067 2 (some .char) 2 43 S [.ref (X.2.1 u_i), .int (nI u_j)] (some (.int ((wByt.getD u_i []).getD u_j 0))) := by
  refine MR.of hE (by decide) (Nat.le_of_ble_eq_true rfl) ?_
  intro p e s m below meth c ls C hJ hr hl
  have hx := C.x
  have hb := C.b
  have hl : lv_has ls 2 [(0, .ref (X.2.1 u_i)), (1, .int (nI u_j))] := hl
  obtain ⟨hO, hC, hV, hT⟩ := hX.2.2.1.1 u_i hi
  have h6 := wLen_ok hi
  refine lv_iload_n hx hb dJ1_charAt_3b067_0 rfl (lv_at hl 1 rfl) ?_
  refine lv_aload_n hx hb dJ1_charAt_3b067_1 rfl (lv_at hl 0 rfl) ?_
  refine i_Tl C hJ hT rfl dJ1_charAt_3b067_2 ?_
  refine k_R (v := none) (r_SO (As := [.int (nI u_j), .int (nI (wLen.getD u_i 0))]) (n := 2) C hJ (c_chk0 hE hX hj (by omega)) km_J1_9 kt_J0_checkIndex_df160 k0_J0 kc_J0_checkIndex_df160 ⟨by decide, by decide, by decide +kernel⟩ rfl dJ1_charAt_3b067_3 hl.1 ⟨Nat.le_of_ble_eq_true rfl, Nat.le_of_ble_eq_true rfl⟩ ⟨Nat.le_refl _, Nat.le_refl _⟩ (Nat.le_of_ble_eq_true rfl) rfl) ?_
  refine lv_aload_n hx hb dJ1_charAt_3b067_6 rfl (lv_at hl 0 rfl) ?_
  refine lv_iload_n hx hb dJ1_charAt_3b067_7 rfl (lv_at hl 1 rfl) ?_
  refine i_Tb C hJ hT hj (by omega) rfl rfl dJ1_charAt_3b067_8 ?_
  refine lv_sipush (v := 255) hx hb dJ1_charAt_3b067_9 (by decide) ?_
  refine lv_iand hx hb dJ1_charAt_3b067_12 ?_
  refine lv_i2c (v := (wByt.getD u_i []).getD u_j 0) hx hb dJ1_charAt_3b067_13 (wByt_ok hi hj).1 ?_
  exact rR_i C hr (wByt_ok hi hj).2 rfl dJ1_charAt_3b067_14
theorem c_charAt {l : Launch} {E : GE} (hE : Env0 E) {S : ST} {X : EX} (hX : Env1 E X) {u_i u_j : Nat} (hi : u_i < 11) (hj : u_j < wLen.getD u_i 0) : MR l E yJ0_charAt_5068e cJ0_charAt_5068e 2 (some .char) 3 64 S [.ref (X.1 u_i), .int (nI u_j)] (some (.int ((wByt.getD u_i []).getD u_j 0))) := by
  refine MR.of hE (by decide) (Nat.le_of_ble_eq_true rfl) ?_
  intro p e s m below meth c ls C hJ hr hl
  have hx := C.x
  have hb := C.b
  have hl : lv_has ls 2 [(0, .ref (X.1 u_i)), (1, .int (nI u_j))] := hl
  obtain ⟨hO, hC, hV, hT⟩ := hX.2.2.1.1 u_i hi
  refine lv_aload_n hx hb dJ0_charAt_5068e_0 rfl (lv_at hl 0 rfl) ?_
  refine k_R (v := some (.int 1)) (r_VO (As := []) (n := 0) C hJ (c_isLatin1 hE hX hi) hO km_J0_492 ki_J0_isLatin1_aae02 ks_J0_isLatin1_aae02 k0_J0 kc_J0_isLatin1_aae02 ⟨rfl, by decide, by decide, by decide +kernel⟩ rfl dJ0_charAt_5068e_1 hl.1 ⟨Nat.le_of_ble_eq_true rfl, Nat.le_of_ble_eq_true rfl⟩ ⟨Nat.le_refl _, Nat.le_refl _⟩ (Nat.le_of_ble_eq_true rfl) rfl) ?_
  refine lv_if_eq (tgt := 16) hx hb dJ0_charAt_5068e_4 (by decide) (fun c_4 => absurd c_4 (by decide)) (fun c_4 => ?_)
  refine lv_aload_n hx hb dJ0_charAt_5068e_7 rfl (lv_at hl 0 rfl) ?_
  refine i_OF C hJ hV kf_J0_9 rfl dJ0_charAt_5068e_8 ?_
  refine lv_iload_n hx hb dJ0_charAt_5068e_11 rfl (lv_at hl 1 rfl) ?_
  refine k_R (v := some (.int ((wByt.getD u_i []).getD u_j 0))) (r_SO (As := [.ref (X.2.1 u_i), .int (nI u_j)]) (n := 2) C hJ (c_latAt hE hX hi hj) km_J0_495 kt_J1_charAt_3b067 k0_J1 kc_J1_charAt_3b067 ⟨by decide, by decide, by decide +kernel⟩ rfl dJ0_charAt_5068e_12 hl.1 ⟨Nat.le_of_ble_eq_true rfl, Nat.le_of_ble_eq_true rfl⟩ ⟨Nat.le_refl _, Nat.le_refl _⟩ (Nat.le_of_ble_eq_true rfl) rfl) ?_
  exact rR_i C hr (wByt_ok hi hj).2 rfl dJ0_charAt_5068e_15
