/-! LINE and MEMBER, methods that write (by program) -/
theorem c_X4_memberAtI {l : Launch} {E : GE} (hE : Env0 E) {S : ST} {k n : Nat} (hk : k < 6) (h : LnOk (sL S) k n) {P : Nat} (hP : P < n) {p : Int32} (e : p = nI P) : MR l E yX4_memberAt cX4_memberAt 3 (some (.object "ConsentQueue$Member")) 0 0 S [.ref (gA E (13 * k)), .int p] (some (.ref (gA E (13 * k + 2 + pm (sL S) k P)))) := by
  have h1 := c_X4_memberAt (l := l) hE hk h p
  rw [e] at h1 ⊢
  rw [ix_in h hP] at h1
  exact h1
theorem c_X4_memberAtE {l : Launch} {E : GE} (hE : Env0 E) {S : ST} {k n : Nat} (hk : k < 6) (h : LnOk (sL S) k n) {P : Nat} {p : Int32} (e : p = nI P) : MR l E yX4_memberAt cX4_memberAt 3 (some (.object "ConsentQueue$Member")) 0 0 S [.ref (gA E (13 * k)), .int p] (some (.ref (gA E (13 * k + 2 + ix (sL S) k (nI P))))) := by
  have h1 := c_X4_memberAt (l := l) hE hk h p
  rw [e] at h1 ⊢
  exact h1
theorem c_X4_keenestPairU {l : Launch} {E : GE} (hE : Env0 E) {S : ST} {k n : Nat} {z : Nat → Int32} {mm : Nat → Nat → Int32} (hk : k < 6) (hI : LnIs (sL S) k n z mm) : MR l E yX4_keenestPair cX4_keenestPair 5 (some .int) 2 45 S [.ref (gA E (13 * k))] (some (.int (f_kp (gof n mm) (n - 1)).1)) := by
  have h1 := c_X4_keenestPair (l := l) hE hk hI.1
  rw [hI.sgm] at h1
  exact h1
theorem eqOfLe2 {i P : Nat} (hi : P ≤ i) (hN : i < 2 ^ 31) (c : nI i ≤ nI P) : i = P := by
  rcases Nat.lt_or_ge P i with q | q
  · exact absurd c (nI_ge q hN)
  · omega
theorem cp_z {L : LT} {k n k2 n2 : Nat} {z z2 : Nat → Int32} {mm mm2 : Nat → Nat → Int32} (hI : LnIs L k n z mm) (hI2 : LnIs L k2 n2 z2 mm2) (i : Nat) : upd (upd (upd (upd (upd (upd z 2 (nI n2)) 3 (z2 3)) 4 (z2 4)) 5 (z2 5)) 6 (z2 6)) 7 (z2 7) i = z2 i := by
  have e2 : z2 2 = nI n2 := (congrFun hI2.2.1 2).symm.trans hI2.1.2.1
  unfold upd
  rcases (show i = 2 ∨ i = 3 ∨ i = 4 ∨ i = 5 ∨ i = 6 ∨ i = 7 ∨ (i < 2 ∨ 8 ≤ i) by omega) with rfl | rfl | rfl | rfl | rfl | rfl | h
  · simp [e2]
  · simp
  · simp
  · simp
  · simp
  · simp
  · rw [if_neg (by omega), if_neg (by omega), if_neg (by omega), if_neg (by omega), if_neg (by omega), if_neg (by omega)]
    rw [← hI.2.1, ← hI2.2.1, hI.2.2.2.1 i h, hI2.2.2.2.1 i h]
theorem mswap_eq (mm : Nat → Nat → Int32) (P : Nat) (pr : Int32) (X q : Nat) : (fun x => if x = P + 2 then mlose ((fun x => if x = P + 1 then mlose ((fun x => if x = P then mlose (up2 (up2 (fun x => if x = P then mm (P + 1) else if x = P + 1 then mm P else mm x) P 4 (mm (P + 1) 4 - pr)) (P + 1) 4 (mm P 4 + pr) P) else up2 (up2 (fun x => if x = P then mm (P + 1) else if x = P + 1 then mm P else mm x) P 4 (mm (P + 1) 4 - pr)) (P + 1) 4 (mm P 4 + pr) x) (P + 1)) else (fun x => if x = P then mlose (up2 (up2 (fun x => if x = P then mm (P + 1) else if x = P + 1 then mm P else mm x) P 4 (mm (P + 1) 4 - pr)) (P + 1) 4 (mm P 4 + pr) P) else up2 (up2 (fun x => if x = P then mm (P + 1) else if x = P + 1 then mm P else mm x) P 4 (mm (P + 1) 4 - pr)) (P + 1) 4 (mm P 4 + pr) x) x) (P + 2)) else (fun x => if x = P + 1 then mlose ((fun x => if x = P then mlose (up2 (up2 (fun x => if x = P then mm (P + 1) else if x = P + 1 then mm P else mm x) P 4 (mm (P + 1) 4 - pr)) (P + 1) 4 (mm P 4 + pr) P) else up2 (up2 (fun x => if x = P then mm (P + 1) else if x = P + 1 then mm P else mm x) P 4 (mm (P + 1) 4 - pr)) (P + 1) 4 (mm P 4 + pr) x) (P + 1)) else (fun x => if x = P then mlose (up2 (up2 (fun x => if x = P then mm (P + 1) else if x = P + 1 then mm P else mm x) P 4 (mm (P + 1) 4 - pr)) (P + 1) 4 (mm P 4 + pr) P) else up2 (up2 (fun x => if x = P then mm (P + 1) else if x = P + 1 then mm P else mm x) P 4 (mm (P + 1) 4 - pr)) (P + 1) 4 (mm P 4 + pr) x) x) x) X q = mswap mm P pr X q := by
  unfold mswap mlose up2
  by_cases e0 : X = P
  · subst e0
    by_cases e5 : q = 5
    · subst e5; simp
    · by_cases e6 : q = 6
      · subst e6; simp
      · by_cases e4 : q = 4
        · subst e4; simp
        · simp [e5, e6, e4]
  · by_cases e1 : X = P + 1
    · subst e1
      by_cases e5 : q = 5
      · subst e5; simp
      · by_cases e6 : q = 6
        · subst e6; simp
        · by_cases e4 : q = 4
          · subst e4; simp
          · simp [e5, e6, e4]
    · by_cases e2 : X = P + 2
      · subst e2
        by_cases e5 : q = 5
        · subst e5; simp
        · by_cases e6 : q = 6
          · subst e6; simp
          · by_cases e4 : q = 4
            · subst e4; simp
            · simp [e5, e6, e4]
      · simp [e0, e1, e2]
set_option maxHeartbeats 4000000 in
set_option maxRecDepth 100000 in
theorem c_X5_loseOneAhead {l : Launch} {E : GE} (hE : Env0 E) {S : ST} {k j : Nat} (hk : k < 6) (hj : j < 11) : MW l E yX5_loseOneAhead cX5_loseOneAhead 1 (none : Option Jvm.ClassFile.FieldType) 0 0 S [.ref (gA E (13 * k + 2 + j))] (fun v S1 => v = none ∧ S1 = setL S (mLose (sL S) k j)) := by
  refine MW.of hE (by decide) (Nat.le_of_ble_eq_true rfl) ?_
  intro p e s m below meth c ls C hJ hr hl
  have hx := C.x
  have hb := C.b
  have hl : lv_has ls 1 [(0, .ref (gA E (13 * k + 2 + j)))] := hl
  refine lv_aload_n hx hb dX5_loseOneAhead_0 rfl (lv_at hl 0 rfl) ?_
  refine lv_iconst (v := (-1)) hx hb dX5_loseOneAhead_1 (by decide) ?_
  refine p_X5_15 C hJ hk hj dX5_loseOneAhead_2 (fun H locs hJ => ?_)
  obtain ⟨S_2, hS_2⟩ : ∃ z : ST, z = setL S (lMb (sL S) k j 5 (-1)) := ⟨_, rfl⟩
  rw [← hS_2] at hJ
  refine lv_aload_n hx hb dX5_loseOneAhead_5 rfl (lv_at hl 0 rfl) ?_
  refine lv_iconst (v := 0) hx hb dX5_loseOneAhead_6 (by decide) ?_
  refine p_X5_30 C hJ hk hj (Or.inl rfl) dX5_loseOneAhead_7 (fun H locs hJ => ?_)
  obtain ⟨S_7, hS_7⟩ : ∃ z : ST, z = setL S_2 (lMb (sL S_2) k j 6 0) := ⟨_, rfl⟩
  rw [← hS_7] at hJ
  exact rW_v C hJ hr (⟨rfl, by rw [hS_7, hS_2]; rfl⟩) dX5_loseOneAhead_10
set_option maxHeartbeats 4000000 in
set_option maxRecDepth 100000 in
theorem c_X5_begin {l : Launch} {E : GE} (hE : Env0 E) {S : ST} {k j : Nat} (hk : k < 6) (hj : j < 11) (a b d : Int32) : MW l E yX5_begin cX5_begin 4 (none : Option Jvm.ClassFile.FieldType) 1 20 S [.ref (gA E (13 * k + 2 + j)), .int a, .int b, .int d] (fun v S1 => v = none ∧ S1 = setL S (mPut (sL S) k j (mfresh a b d))) := by
  refine MW.of hE (by decide) (Nat.le_of_ble_eq_true rfl) ?_
  intro p e s m below meth c ls C hJ hr hl
  have hx := C.x
  have hb := C.b
  have hl : lv_has ls 4 [(0, .ref (gA E (13 * k + 2 + j))), (1, .int a), (2, .int b), (3, .int d)] := hl
  refine lv_aload_n hx hb dX5_begin_0 rfl (lv_at hl 0 rfl) ?_
  refine lv_iload_n hx hb dX5_begin_1 rfl (lv_at hl 1 rfl) ?_
  refine p_X5_9 C hJ hk hj dX5_begin_2 (fun H locs hJ => ?_)
  obtain ⟨S_2, hS_2⟩ : ∃ z : ST, z = setL S (lMb (sL S) k j 0 a) := ⟨_, rfl⟩
  rw [← hS_2] at hJ
  refine lv_aload_n hx hb dX5_begin_5 rfl (lv_at hl 0 rfl) ?_
  refine lv_iload_n hx hb dX5_begin_6 rfl (lv_at hl 2 rfl) ?_
  refine p_X5_18 C hJ hk hj dX5_begin_7 (fun H locs hJ => ?_)
  obtain ⟨S_7, hS_7⟩ : ∃ z : ST, z = setL S_2 (lMb (sL S_2) k j 1 b) := ⟨_, rfl⟩
  rw [← hS_7] at hJ
  refine lv_aload_n hx hb dX5_begin_10 rfl (lv_at hl 0 rfl) ?_
  refine lv_iload_n hx hb dX5_begin_11 rfl (lv_at hl 2 rfl) ?_
  refine p_X5_21 C hJ hk hj dX5_begin_12 (fun H locs hJ => ?_)
  obtain ⟨S_12, hS_12⟩ : ∃ z : ST, z = setL S_7 (lMb (sL S_7) k j 2 b) := ⟨_, rfl⟩
  rw [← hS_12] at hJ
  refine lv_aload_n hx hb dX5_begin_15 rfl (lv_at hl 0 rfl) ?_
  refine lv_iload_n hx hb dX5_begin_16 rfl (lv_at hl 3 rfl) ?_
  refine p_X5_24 C hJ hk hj dX5_begin_17 (fun H locs hJ => ?_)
  obtain ⟨S_17, hS_17⟩ : ∃ z : ST, z = setL S_12 (lMb (sL S_12) k j 3 d) := ⟨_, rfl⟩
  rw [← hS_17] at hJ
  refine lv_aload_n hx hb dX5_begin_20 rfl (lv_at hl 0 rfl) ?_
  refine lv_iconst (v := 0) hx hb dX5_begin_21 (by decide) ?_
  refine p_X5_27 C hJ hk hj dX5_begin_22 (fun H locs hJ => ?_)
  obtain ⟨S_22, hS_22⟩ : ∃ z : ST, z = setL S_17 (lMb (sL S_17) k j 4 0) := ⟨_, rfl⟩
  rw [← hS_22] at hJ
  refine lv_aload_n hx hb dX5_begin_25 rfl (lv_at hl 0 rfl) ?_
  refine cw_X5_34 C hJ hk hj (rest := []) (c_X5_loseOneAhead hE hk hj) dX5_begin_26 hl.1 ⟨Nat.le_of_ble_eq_true rfl, Nat.le_of_ble_eq_true rfl⟩ ⟨Nat.le_refl _, Nat.le_refl _⟩ (Nat.le_of_ble_eq_true rfl) rfl rfl (fun vr S_26 H locs hP hJ => ?_)
  obtain ⟨rfl, hS_26⟩ := hP
  exact rW_v C hJ hr (⟨rfl, by rw [hS_26, hS_22, hS_17, hS_12, hS_7, hS_2]; exact congrArg (setL S) (put7 (sL S) k j (mfresh a b d))⟩) dX5_begin_29
set_option maxHeartbeats 4000000 in
set_option maxRecDepth 100000 in
theorem c_X5_copyFrom {l : Launch} {E : GE} (hE : Env0 E) {S : ST} {k j k2 j2 : Nat} (hk : k < 6) (hj : j < 11) (hk2 : k2 < 6) (hj2 : j2 < 11) (hne : k2 ≠ k) (hb6 : mb (sL S) k2 j2 6 = 0 ∨ mb (sL S) k2 j2 6 = 1) : MW l E yX5_copyFrom cX5_copyFrom 2 (none : Option Jvm.ClassFile.FieldType) 0 0 S [.ref (gA E (13 * k + 2 + j)), .ref (gA E (13 * k2 + 2 + j2))] (fun v S1 => v = none ∧ S1 = setL S (mPut (sL S) k j (mb (sL S) k2 j2))) := by
  refine MW.of hE (by decide) (Nat.le_of_ble_eq_true rfl) ?_
  intro p e s m below meth c ls C hJ hr hl
  have hx := C.x
  have hb := C.b
  have hl : lv_has ls 2 [(0, .ref (gA E (13 * k + 2 + j))), (1, .ref (gA E (13 * k2 + 2 + j2)))] := hl
  refine lv_aload_n hx hb dX5_copyFrom_0 rfl (lv_at hl 0 rfl) ?_
  refine lv_aload_n hx hb dX5_copyFrom_1 rfl (lv_at hl 1 rfl) ?_
  refine g_X5_9 C hJ hk2 hj2 dX5_copyFrom_2 ?_
  refine p_X5_9 C hJ hk hj dX5_copyFrom_5 (fun H locs hJ => ?_)
  obtain ⟨S_5, hS_5⟩ : ∃ z : ST, z = setL S (lMb (sL S) k j 0 (mb (sL S) k2 j2 0)) := ⟨_, rfl⟩
  rw [← hS_5] at hJ
  have e_5 : ∀ i, mb (sL S_5) k2 j2 i = mb (sL S) k2 j2 i := fun i => by
    rw [hS_5]; exact if_neg (fun q => hne q.1)
  refine lv_aload_n hx hb dX5_copyFrom_8 rfl (lv_at hl 0 rfl) ?_
  refine lv_aload_n hx hb dX5_copyFrom_9 rfl (lv_at hl 1 rfl) ?_
  refine g_X5_18 C hJ hk2 hj2 dX5_copyFrom_10 ?_
  refine p_X5_18 C hJ hk hj dX5_copyFrom_13 (fun H locs hJ => ?_)
  obtain ⟨S_13, hS_13⟩ : ∃ z : ST, z = setL S_5 (lMb (sL S_5) k j 1 (mb (sL S_5) k2 j2 1)) := ⟨_, rfl⟩
  rw [← hS_13] at hJ
  rw [e_5] at hS_13
  have e_13 : ∀ i, mb (sL S_13) k2 j2 i = mb (sL S) k2 j2 i := fun i => by
    rw [hS_13]; exact (if_neg (fun q => hne q.1)).trans (e_5 i)
  refine lv_aload_n hx hb dX5_copyFrom_16 rfl (lv_at hl 0 rfl) ?_
  refine lv_aload_n hx hb dX5_copyFrom_17 rfl (lv_at hl 1 rfl) ?_
  refine g_X5_21 C hJ hk2 hj2 dX5_copyFrom_18 ?_
  refine p_X5_21 C hJ hk hj dX5_copyFrom_21 (fun H locs hJ => ?_)
  obtain ⟨S_21, hS_21⟩ : ∃ z : ST, z = setL S_13 (lMb (sL S_13) k j 2 (mb (sL S_13) k2 j2 2)) := ⟨_, rfl⟩
  rw [← hS_21] at hJ
  rw [e_13] at hS_21
  have e_21 : ∀ i, mb (sL S_21) k2 j2 i = mb (sL S) k2 j2 i := fun i => by
    rw [hS_21]; exact (if_neg (fun q => hne q.1)).trans (e_13 i)
  refine lv_aload_n hx hb dX5_copyFrom_24 rfl (lv_at hl 0 rfl) ?_
  refine lv_aload_n hx hb dX5_copyFrom_25 rfl (lv_at hl 1 rfl) ?_
  refine g_X5_24 C hJ hk2 hj2 dX5_copyFrom_26 ?_
  refine p_X5_24 C hJ hk hj dX5_copyFrom_29 (fun H locs hJ => ?_)
  obtain ⟨S_29, hS_29⟩ : ∃ z : ST, z = setL S_21 (lMb (sL S_21) k j 3 (mb (sL S_21) k2 j2 3)) := ⟨_, rfl⟩
  rw [← hS_29] at hJ
  rw [e_21] at hS_29
  have e_29 : ∀ i, mb (sL S_29) k2 j2 i = mb (sL S) k2 j2 i := fun i => by
    rw [hS_29]; exact (if_neg (fun q => hne q.1)).trans (e_21 i)
  refine lv_aload_n hx hb dX5_copyFrom_32 rfl (lv_at hl 0 rfl) ?_
  refine lv_aload_n hx hb dX5_copyFrom_33 rfl (lv_at hl 1 rfl) ?_
  refine g_X5_27 C hJ hk2 hj2 dX5_copyFrom_34 ?_
  refine p_X5_27 C hJ hk hj dX5_copyFrom_37 (fun H locs hJ => ?_)
  obtain ⟨S_37, hS_37⟩ : ∃ z : ST, z = setL S_29 (lMb (sL S_29) k j 4 (mb (sL S_29) k2 j2 4)) := ⟨_, rfl⟩
  rw [← hS_37] at hJ
  rw [e_29] at hS_37
  have e_37 : ∀ i, mb (sL S_37) k2 j2 i = mb (sL S) k2 j2 i := fun i => by
    rw [hS_37]; exact (if_neg (fun q => hne q.1)).trans (e_29 i)
  refine lv_aload_n hx hb dX5_copyFrom_40 rfl (lv_at hl 0 rfl) ?_
  refine lv_aload_n hx hb dX5_copyFrom_41 rfl (lv_at hl 1 rfl) ?_
  refine g_X5_15 C hJ hk2 hj2 dX5_copyFrom_42 ?_
  refine p_X5_15 C hJ hk hj dX5_copyFrom_45 (fun H locs hJ => ?_)
  obtain ⟨S_45, hS_45⟩ : ∃ z : ST, z = setL S_37 (lMb (sL S_37) k j 5 (mb (sL S_37) k2 j2 5)) := ⟨_, rfl⟩
  rw [← hS_45] at hJ
  rw [e_37] at hS_45
  have e_45 : ∀ i, mb (sL S_45) k2 j2 i = mb (sL S) k2 j2 i := fun i => by
    rw [hS_45]; exact (if_neg (fun q => hne q.1)).trans (e_37 i)
  refine lv_aload_n hx hb dX5_copyFrom_48 rfl (lv_at hl 0 rfl) ?_
  refine lv_aload_n hx hb dX5_copyFrom_49 rfl (lv_at hl 1 rfl) ?_
  refine g_X5_30 C hJ hk2 hj2 dX5_copyFrom_50 ?_
  refine p_X5_30 C hJ hk hj (by rw [e_45]; exact hb6) dX5_copyFrom_53 (fun H locs hJ => ?_)
  obtain ⟨S_53, hS_53⟩ : ∃ z : ST, z = setL S_45 (lMb (sL S_45) k j 6 (mb (sL S_45) k2 j2 6)) := ⟨_, rfl⟩
  rw [← hS_53] at hJ
  rw [e_45] at hS_53
  have e_53 : ∀ i, mb (sL S_53) k2 j2 i = mb (sL S) k2 j2 i := fun i => by
    rw [hS_53]; exact (if_neg (fun q => hne q.1)).trans (e_45 i)
  exact rW_v C hJ hr (⟨rfl, by rw [hS_53, hS_45, hS_37, hS_29, hS_21, hS_13, hS_5]; exact congrArg (setL S) (put7 (sL S) k j (mb (sL S) k2 j2))⟩) dX5_copyFrom_56
set_option maxHeartbeats 4000000 in
set_option maxRecDepth 100000 in
theorem c_X4_tell {l : Launch} {E : GE} (hE : Env0 E) {S : ST} {k n : Nat} {z : Nat → Int32} {mm : Nat → Nat → Int32} (hk : k < 6) (hI : LnIs (sL S) k n z mm) (P : Nat) (hP0 : P < n) (w : Int32) : MW l E yX4_tell cX4_tell 5 (some .int) 1 22 S [.ref (gA E (13 * k)), .int (nI P), .int w] (fun v S1 => v = some (.int (mm P 2)) ∧ Up S S1 k n z (up2 mm P 2 w)) := by
  refine MW.of hE (by decide) (Nat.le_of_ble_eq_true rfl) ?_
  intro p e s m below meth c ls C hJ hr hl
  have hx := C.x
  have hb := C.b
  have hl : lv_has ls 5 [(0, .ref (gA E (13 * k))), (1, .int (nI P)), (2, .int w)] := hl
  refine lv_aload_n hx hb dX4_tell_0 rfl (lv_at hl 0 rfl) ?_
  refine lv_iload_n hx hb dX4_tell_1 rfl (lv_at hl 1 rfl) ?_
  refine cr_X4_41 C hJ hk (rest := []) (c_X4_memberAtI hE hk hI.1 (P := P) hP0 rfl) dX4_tell_2 hl.1 ⟨Nat.le_of_ble_eq_true rfl, Nat.le_of_ble_eq_true rfl⟩ ⟨Nat.le_refl _, Nat.le_refl _⟩ (Nat.le_of_ble_eq_true rfl) rfl rfl ?_
  refine lv_astore_n (lv' := [(3, .ref (gA E (13 * k + 2 + (pm (sL S) k P)))), (0, .ref (gA E (13 * k))), (1, .int (nI P)), (2, .int w)]) hx hb dX4_tell_5 rfl hl (by decide) rfl (fun ls hl => ?_)
  refine lv_aload_n hx hb dX4_tell_6 rfl (lv_at hl 0 rfl) ?_
  refine g_X4_67 C hJ hk (Nat.lt_of_lt_of_le (hI.1.2.2.1 P (by have := hI.1.1; omega)) (by omega)) dX4_tell_7 ?_
  refine lv_istore (lv' := [(4, .int (mb (sL S) k (pm (sL S) k P) 2)), (3, .ref (gA E (13 * k + 2 + (pm (sL S) k P)))), (0, .ref (gA E (13 * k))), (1, .int (nI P)), (2, .int w)]) hx hb dX4_tell_10 hl (by decide) rfl (fun ls hl => ?_)
  refine lv_aload_n hx hb dX4_tell_12 rfl (lv_at hl 1 rfl) ?_
  refine lv_iload_n hx hb dX4_tell_13 rfl (lv_at hl 4 rfl) ?_
  refine p_X4_67 C hJ hk (Nat.lt_of_lt_of_le (hI.1.2.2.1 P (by have := hI.1.1; omega)) (by omega)) dX4_tell_14 (fun H locs hJ => ?_)
  obtain ⟨S_14, hS_14⟩ : ∃ z : ST, z = setL S (lMb (sL S) k (pm (sL S) k P) 2 w) := ⟨_, rfl⟩
  rw [← hS_14] at hJ
  refine lv_iload hx hb dX4_tell_17 (lv_at hl 0 rfl) ?_
  exact rW_i C hJ hr rfl (⟨by rw [hI.2.2.1 P hP0 2], by rw [hS_14]; exact (Up.rf hI).st (OffL.omb _ _ _) (hI.smb hP0 (by omega) (by omega))⟩) dX4_tell_19
set_option maxHeartbeats 4000000 in
set_option maxRecDepth 100000 in
theorem c_X4_makeOffer {l : Launch} {E : GE} (hE : Env0 E) {S : ST} {k n : Nat} {z : Nat → Int32} {mm : Nat → Nat → Int32} (hk : k < 6) (hI : LnIs (sL S) k n z mm) (P : Nat) (hP0 : P < n) (w : Int32) : MW l E yX4_makeOffer cX4_makeOffer 5 (some .int) 1 22 S [.ref (gA E (13 * k)), .int (nI P), .int w] (fun v S1 => v = some (.int (mm P 5)) ∧ Up S S1 k n z (up2 mm P 5 w)) := by
  refine MW.of hE (by decide) (Nat.le_of_ble_eq_true rfl) ?_
  intro p e s m below meth c ls C hJ hr hl
  have hx := C.x
  have hb := C.b
  have hl : lv_has ls 5 [(0, .ref (gA E (13 * k))), (1, .int (nI P)), (2, .int w)] := hl
  refine lv_aload_n hx hb dX4_makeOffer_0 rfl (lv_at hl 0 rfl) ?_
  refine lv_iload_n hx hb dX4_makeOffer_1 rfl (lv_at hl 1 rfl) ?_
  refine cr_X4_41 C hJ hk (rest := []) (c_X4_memberAtI hE hk hI.1 (P := P) hP0 rfl) dX4_makeOffer_2 hl.1 ⟨Nat.le_of_ble_eq_true rfl, Nat.le_of_ble_eq_true rfl⟩ ⟨Nat.le_refl _, Nat.le_refl _⟩ (Nat.le_of_ble_eq_true rfl) rfl rfl ?_
  refine lv_astore_n (lv' := [(3, .ref (gA E (13 * k + 2 + (pm (sL S) k P)))), (0, .ref (gA E (13 * k))), (1, .int (nI P)), (2, .int w)]) hx hb dX4_makeOffer_5 rfl hl (by decide) rfl (fun ls hl => ?_)
  refine lv_aload_n hx hb dX4_makeOffer_6 rfl (lv_at hl 0 rfl) ?_
  refine g_X4_73 C hJ hk (Nat.lt_of_lt_of_le (hI.1.2.2.1 P (by have := hI.1.1; omega)) (by omega)) dX4_makeOffer_7 ?_
  refine lv_istore (lv' := [(4, .int (mb (sL S) k (pm (sL S) k P) 5)), (3, .ref (gA E (13 * k + 2 + (pm (sL S) k P)))), (0, .ref (gA E (13 * k))), (1, .int (nI P)), (2, .int w)]) hx hb dX4_makeOffer_10 hl (by decide) rfl (fun ls hl => ?_)
  refine lv_aload_n hx hb dX4_makeOffer_12 rfl (lv_at hl 1 rfl) ?_
  refine lv_iload_n hx hb dX4_makeOffer_13 rfl (lv_at hl 4 rfl) ?_
  refine p_X4_73 C hJ hk (Nat.lt_of_lt_of_le (hI.1.2.2.1 P (by have := hI.1.1; omega)) (by omega)) dX4_makeOffer_14 (fun H locs hJ => ?_)
  obtain ⟨S_14, hS_14⟩ : ∃ z : ST, z = setL S (lMb (sL S) k (pm (sL S) k P) 5 w) := ⟨_, rfl⟩
  rw [← hS_14] at hJ
  refine lv_iload hx hb dX4_makeOffer_17 (lv_at hl 0 rfl) ?_
  exact rW_i C hJ hr rfl (⟨by rw [hI.2.2.1 P hP0 5], by rw [hS_14]; exact (Up.rf hI).st (OffL.omb _ _ _) (hI.smb hP0 (by omega) (by omega))⟩) dX4_makeOffer_19
set_option maxHeartbeats 4000000 in
set_option maxRecDepth 100000 in
theorem c_X4_setFriends {l : Launch} {E : GE} (hE : Env0 E) {S : ST} {k n : Nat} {z : Nat → Int32} {mm : Nat → Nat → Int32} (hk : k < 6) (hI : LnIs (sL S) k n z mm) (P : Nat) (hP0 : P + 1 < n) (w : Int32) (hw : w = 0 ∨ w = 1) : MW l E yX4_setFriends cX4_setFriends 3 (some .int) 3 65 S [.ref (gA E (13 * k)), .int (nI P), .int w] (fun v S1 => v = some (.int (f_frs (gof n (up2 mm (P + 1) 6 w)) n)) ∧ Up S S1 k n z (up2 mm (P + 1) 6 w)) := by
  refine MW.of hE (by decide) (Nat.le_of_ble_eq_true rfl) ?_
  intro p e s m below meth c ls C hJ hr hl
  have hx := C.x
  have hb := C.b
  have hl : lv_has ls 3 [(0, .ref (gA E (13 * k))), (1, .int (nI P)), (2, .int w)] := hl
  refine lv_aload_n hx hb dX4_setFriends_0 rfl (lv_at hl 0 rfl) ?_
  refine lv_iload_n hx hb dX4_setFriends_1 rfl (lv_at hl 1 rfl) ?_
  refine lv_iconst (v := 1) hx hb dX4_setFriends_2 (by decide) ?_
  refine lv_iadd hx hb dX4_setFriends_3 ?_
  refine cr_X4_41 C hJ hk (rest := []) (c_X4_memberAtI hE hk hI.1 (P := P + 1) hP0 (nI_1 P)) dX4_setFriends_4 hl.1 ⟨Nat.le_of_ble_eq_true rfl, Nat.le_of_ble_eq_true rfl⟩ ⟨Nat.le_refl _, Nat.le_refl _⟩ (Nat.le_of_ble_eq_true rfl) rfl rfl ?_
  refine lv_iload_n hx hb dX4_setFriends_7 rfl (lv_at hl 2 rfl) ?_
  refine p_X4_76 C hJ hk (Nat.lt_of_lt_of_le (hI.1.2.2.1 (P + 1) (by have := hI.1.1; omega)) (by omega)) hw dX4_setFriends_8 (fun H locs hJ => ?_)
  obtain ⟨S_8, hS_8⟩ : ∃ z : ST, z = setL S (lMb (sL S) k (pm (sL S) k (P + 1)) 6 w) := ⟨_, rfl⟩
  rw [← hS_8] at hJ
  have hU : Up S S_8 k n z (up2 mm (P + 1) 6 w) := by rw [hS_8]; exact (Up.rf hI).st (OffL.omb _ _ _) (hI.smb hP0 (by omega) (fun _ => hw))
  refine lv_aload_n hx hb dX4_setFriends_11 rfl (lv_at hl 0 rfl) ?_
  refine cr_X4_80 C hJ hk (rest := []) (c_X4_friendPairs hE hk hU.2.2.1) dX4_setFriends_12 hl.1 ⟨Nat.le_of_ble_eq_true rfl, Nat.le_of_ble_eq_true rfl⟩ ⟨Nat.le_refl _, Nat.le_refl _⟩ (Nat.le_of_ble_eq_true rfl) rfl rfl ?_
  exact rW_i C hJ hr rfl (⟨by rw [hU.2.2.sgm], hU⟩) dX4_setFriends_15
set_option maxHeartbeats 4000000 in
set_option maxRecDepth 100000 in
theorem c_X4_tellTruth {l : Launch} {E : GE} (hE : Env0 E) {S : ST} {k n : Nat} {z : Nat → Int32} {mm : Nat → Nat → Int32} (hk : k < 6) (hI : LnIs (sL S) k n z mm) : MW l E yX4_tellTruth cX4_tellTruth 2 (none : Option Jvm.ClassFile.FieldType) 1 22 S [.ref (gA E (13 * k))] (fun v S1 => v = none ∧ Up S S1 k n z (mtruth mm)) := by
  refine MW.of hE (by decide) (Nat.le_of_ble_eq_true rfl) ?_
  intro p e s m below meth c ls C hJ hr hl
  have hx := C.x
  have hb := C.b
  have hl : lv_has ls 2 [(0, .ref (gA E (13 * k)))] := hl
  refine lv_iconst (v := 0) hx hb dX4_tellTruth_0 (by decide) ?_
  refine lv_istore_n (lv' := [(1, .int 0), (0, .ref (gA E (13 * k)))]) hx hb dX4_tellTruth_1 rfl hl (by decide) rfl (fun ls hl => ?_)
  have lp : ∀ (d : Nat) (i : Nat) (T : ST) (H : Heap) (locs : List Loc) (ls : Array Slot), (i ≤ n) → (n < i + d) → (Up S T k n z (fun x q => if x < i ∧ q = 2 then mm x 1 else mm x q)) → JJ E T H locs → lv_has ls 2 [(0, .ref (gA E (13 * k))), (1, .int (nI i))] → W p l e (rmZ 1 22) s m ([.ref (gA E (13 * k))] : List Value).toArray below meth c H locs 0 0 (WQ below ([.ref (gA E (13 * k))] : List Value).toArray s E (fun v S1 => v = none ∧ Up S S1 k n z (mtruth mm))) (F0 m 2 ls []) := by
    intro d
    induction d with
    | zero =>
      intro i T H locs ls hi hd hU hJ hl
      omega
    | succ d ih_lp =>
      intro i T H locs ls hi hd hU hJ hl
      refine lv_iload_n hx hb dX4_tellTruth_2 rfl (lv_at hl 1 rfl) ?_
      refine lv_aload_n hx hb dX4_tellTruth_3 rfl (lv_at hl 0 rfl) ?_
      refine g_X4_26 C hJ hk dX4_tellTruth_4 ?_
      refine lv_icmp_ge (tgt := 32) hx hb dX4_tellTruth_7 (by decide) (fun c_7 => ?_) (fun c_7 => ?_)
      · skip
        have e9 := cT hU.2.2.1 hi c_7
        exact rW_v C hJ hr (⟨rfl, hU.cg (fun _ => rfl) (fun X hX q => by unfold mtruth; subst e9; simp [hX])⟩) dX4_tellTruth_32
      · skip
        have hlt := cF hU.2.2.1 hi c_7
        refine lv_aload_n hx hb dX4_tellTruth_10 rfl (lv_at hl 0 rfl) ?_
        refine lv_iload_n hx hb dX4_tellTruth_11 rfl (lv_at hl 1 rfl) ?_
        refine cr_X4_41 C hJ hk (rest := []) (c_X4_memberAtI hE hk hU.2.2.1 (P := i) hlt rfl) dX4_tellTruth_12 hl.1 ⟨Nat.le_of_ble_eq_true rfl, Nat.le_of_ble_eq_true rfl⟩ ⟨Nat.le_refl _, Nat.le_refl _⟩ (Nat.le_of_ble_eq_true rfl) rfl rfl ?_
        refine lv_aload_n hx hb dX4_tellTruth_15 rfl (lv_at hl 0 rfl) ?_
        refine lv_iload_n hx hb dX4_tellTruth_16 rfl (lv_at hl 1 rfl) ?_
        refine cr_X4_41 C hJ hk (rest := [.ref (gA E (13 * k + 2 + (pm (sL T) k i)))]) (c_X4_memberAtI hE hk hU.2.2.1 (P := i) hlt rfl) dX4_tellTruth_17 hl.1 ⟨Nat.le_of_ble_eq_true rfl, Nat.le_of_ble_eq_true rfl⟩ ⟨Nat.le_refl _, Nat.le_refl _⟩ (Nat.le_of_ble_eq_true rfl) rfl rfl ?_
        refine g_X4_70 C hJ hk (Nat.lt_of_lt_of_le (hU.2.2.1.2.2.1 i (by have := hU.2.2.1.1; omega)) (by omega)) dX4_tellTruth_20 ?_
        refine p_X4_67 C hJ hk (Nat.lt_of_lt_of_le (hU.2.2.1.2.2.1 i (by have := hU.2.2.1.1; omega)) (by omega)) dX4_tellTruth_23 (fun H locs hJ => ?_)
        obtain ⟨S_23, hS_23⟩ : ∃ z : ST, z = setL T (lMb (sL T) k (pm (sL T) k i) 2 (mb (sL T) k (pm (sL T) k i) 1)) := ⟨_, rfl⟩
        rw [← hS_23] at hJ
        have hv : mb (sL T) k (pm (sL T) k i) 1 = mm i 1 := (hU.2.2.2.2.1 i hlt 1).trans (by simp)
        rw [hv] at hS_23
        have hU : Up S S_23 k n z (fun x q => if x < i + 1 ∧ q = 2 then mm x 1 else mm x q) := by
          rw [hS_23]
          refine (hU.st (OffL.omb _ _ _) (hU.2.2.smb hlt (by omega) (by omega))).cg (fun _ => rfl) (fun X hX q => ?_)
          unfold up2
          by_cases e : X = i ∧ q = 2
          · obtain ⟨rfl, rfl⟩ := e; simp
          · rw [if_neg e]
            show (if X < i ∧ q = 2 then mm X 1 else mm X q) = _
            by_cases e2 : X < i ∧ q = 2
            · rw [if_pos e2, if_pos ⟨by omega, e2.2⟩]
            · rw [if_neg e2, if_neg (fun y => by omega)]
        refine lv_iinc (v := nI (i + 1)) (lv' := [(1, .int (nI (i + 1))), (0, .ref (gA E (13 * k)))]) hx hb dX4_tellTruth_26 hl (k := 1) rfl (by exact nI_1 i) (by decide) rfl (fun ls hl => ?_)
        refine lv_goto (tgt := 2) hx hb dX4_tellTruth_29 (by decide) ?_
        exact ih_lp (i + 1) S_23 H locs _ (by omega) (by omega) hU hJ (lv_sub hl [1, 0] rfl)
  exact lp (n + 1) 0 S s.heap [] _ (Nat.zero_le _) (by omega) ((Up.rf hI).cg (fun _ => rfl) (fun _ _ _ => by simp)) hJ (lv_sub hl [1, 0] rfl)
set_option maxHeartbeats 4000000 in
set_option maxRecDepth 100000 in
theorem c_X4_swapAt {l : Launch} {E : GE} (hE : Env0 E) {S : ST} {k n : Nat} {z : Nat → Int32} {mm : Nat → Nat → Int32} (hk : k < 6) (hI : LnIs (sL S) k n z mm) (P : Nat) (hP0 : P + 1 < n) (pr : Int32) : MW l E yX4_swapAt cX4_swapAt 5 (some .int) 1 22 S [.ref (gA E (13 * k)), .int (nI P), .int pr] (fun v S1 => v = some (.int pr) ∧ Up S S1 k n (upd (upd z 4 (z 4 + 1)) 5 (z 5 + pr)) (mswap mm P pr)) := by
  have hn10 := hI.1.1
  refine MW.of hE (by decide) (Nat.le_of_ble_eq_true rfl) ?_
  intro p e s m below meth c ls C hJ hr hl
  have hx := C.x
  have hb := C.b
  have hl : lv_has ls 5 [(0, .ref (gA E (13 * k))), (1, .int (nI P)), (2, .int pr)] := hl
  refine lv_iload_n hx hb dX4_swapAt_0 rfl (lv_at hl 1 rfl) ?_
  refine lv_if_lt (tgt := 26) hx hb dX4_swapAt_1 (by decide) (fun c_1 => ?_) (fun c_1 => ?_)
  · skip
    exact absurd c_1 (nI_pos (by omega))
  · skip
    refine lv_iload_n hx hb dX4_swapAt_4 rfl (lv_at hl 1 rfl) ?_
    refine lv_aload_n hx hb dX4_swapAt_5 rfl (lv_at hl 0 rfl) ?_
    refine g_X4_26 C hJ hk dX4_swapAt_6 ?_
    refine lv_iconst (v := 1) hx hb dX4_swapAt_9 (by decide) ?_
    refine lv_isub hx hb dX4_swapAt_10 ?_
    refine lv_icmp_ge (tgt := 26) hx hb dX4_swapAt_11 (by decide) (fun c_11 => ?_) (fun c_11 => ?_)
    · skip
      exact absurd (cT1 hI.1 (by omega) c_11) (by omega)
    · skip
      refine lv_aload_n hx hb dX4_swapAt_14 rfl (lv_at hl 0 rfl) ?_
      refine g_X4_26 C hJ hk dX4_swapAt_15 ?_
      refine lv_aload_n hx hb dX4_swapAt_18 rfl (lv_at hl 0 rfl) ?_
      refine g_X4_11 C hJ hk dX4_swapAt_19 ?_
      refine al_ar C hJ hk dX4_swapAt_22 ?_
      refine lv_icmp_le (tgt := 28) hx hb dX4_swapAt_23 (by decide) (fun c_23 => ?_) (fun c_23 => ?_)
      · skip
        refine lv_aload_n hx hb dX4_swapAt_28 rfl (lv_at hl 0 rfl) ?_
        refine lv_iload_n hx hb dX4_swapAt_29 rfl (lv_at hl 1 rfl) ?_
        refine cr_X4_41 C hJ hk (rest := []) (c_X4_memberAtI hE hk hI.1 (P := P) (by omega) rfl) dX4_swapAt_30 hl.1 ⟨Nat.le_of_ble_eq_true rfl, Nat.le_of_ble_eq_true rfl⟩ ⟨Nat.le_refl _, Nat.le_refl _⟩ (Nat.le_of_ble_eq_true rfl) rfl rfl ?_
        refine lv_astore_n (lv' := [(3, .ref (gA E (13 * k + 2 + (pm (sL S) k P)))), (0, .ref (gA E (13 * k))), (1, .int (nI P)), (2, .int pr)]) hx hb dX4_swapAt_33 rfl hl (by decide) rfl (fun ls hl => ?_)
        refine lv_aload_n hx hb dX4_swapAt_34 rfl (lv_at hl 1 rfl) ?_
        refine lv_iload_n hx hb dX4_swapAt_35 rfl (lv_at hl 2 rfl) ?_
        refine lv_iconst (v := 1) hx hb dX4_swapAt_36 (by decide) ?_
        refine lv_iadd hx hb dX4_swapAt_37 ?_
        refine cr_X4_41 C hJ hk (rest := []) (c_X4_memberAtI hE hk hI.1 (P := P + 1) hP0 (nI_1 P)) dX4_swapAt_38 hl.1 ⟨Nat.le_of_ble_eq_true rfl, Nat.le_of_ble_eq_true rfl⟩ ⟨Nat.le_refl _, Nat.le_refl _⟩ (Nat.le_of_ble_eq_true rfl) rfl rfl ?_
        refine lv_astore (lv' := [(4, .ref (gA E (13 * k + 2 + (pm (sL S) k (P + 1))))), (3, .ref (gA E (13 * k + 2 + (pm (sL S) k P)))), (0, .ref (gA E (13 * k))), (1, .int (nI P)), (2, .int pr)]) hx hb dX4_swapAt_41 hl (by decide) rfl (fun ls hl => ?_)
        refine lv_aload_n hx hb dX4_swapAt_43 rfl (lv_at hl 2 rfl) ?_
        refine g_X4_11 C hJ hk dX4_swapAt_44 ?_
        refine lv_iload_n hx hb dX4_swapAt_47 rfl (lv_at hl 3 rfl) ?_
        refine lv_aload hx hb dX4_swapAt_48 (lv_at hl 0 rfl) ?_
        refine t_ar C hJ hk (Nat.lt_of_lt_of_le (hI.1.2.2.1 (P + 1) (by have := hI.1.1; omega)) (by omega)) (P := P) (rfl) (by omega) dX4_swapAt_50 (fun H locs hJ => ?_)
        obtain ⟨S_50, hS_50⟩ : ∃ z : ST, z = setL S (lPm (sL S) k P (pm (sL S) k (P + 1))) := ⟨_, rfl⟩
        rw [← hS_50] at hJ
        refine lv_aload_n hx hb dX4_swapAt_51 rfl (lv_at hl 2 rfl) ?_
        refine g_X4_11 C hJ hk dX4_swapAt_52 ?_
        refine lv_iload_n hx hb dX4_swapAt_55 rfl (lv_at hl 3 rfl) ?_
        refine lv_iconst (v := 1) hx hb dX4_swapAt_56 (by decide) ?_
        refine lv_iadd hx hb dX4_swapAt_57 ?_
        refine lv_aload_n hx hb dX4_swapAt_58 rfl (lv_at hl 1 rfl) ?_
        refine t_ar C hJ hk (Nat.lt_of_lt_of_le (hI.1.2.2.1 P (by have := hI.1.1; omega)) (by omega)) (P := P + 1) (nI_1 P) (by omega) dX4_swapAt_59 (fun H locs hJ => ?_)
        obtain ⟨S_59, hS_59⟩ : ∃ z : ST, z = setL S_50 (lPm (sL S_50) k (P + 1) (pm (sL S) k P)) := ⟨_, rfl⟩
        rw [← hS_59] at hJ
        have e0 : pm (sL S) k P = pm (sL S_59) k (P + 1) := by rw [hS_59, hS_50]; simp [setL, lPm, up2, pm, sL]
        have e1 : pm (sL S) k (P + 1) = pm (sL S_59) k P := by rw [hS_59, hS_50]; simp [setL, lPm, up2, pm, sL]
        have hS_x : S_59 = setL S (lPm (lPm (sL S) k P (pm (sL S) k (P + 1))) k (P + 1) (pm (sL S) k P)) := by rw [hS_59, hS_50]; rfl
        have hU := (Up.rf hI).sq hS_x ((OffL.opm P (pm (sL S) k (P + 1))).tr (OffL.opm (P + 1) (pm (sL S) k P))) (hI.spm hP0)
        refine lv_aload hx hb dX4_swapAt_60 (lv_at hl 0 rfl) ?_
        refine lv_dup hx hb dX4_swapAt_62 rfl ?_
        refine g_X4_91 C hJ hk (Nat.lt_of_lt_of_le (hI.1.2.2.1 (P + 1) (by have := hI.1.1; omega)) (by omega)) dX4_swapAt_63 ?_
        refine lv_iload_n hx hb dX4_swapAt_66 rfl (lv_at hl 4 rfl) ?_
        refine lv_isub hx hb dX4_swapAt_67 ?_
        refine p_X4_91 C hJ hk (Nat.lt_of_lt_of_le (hI.1.2.2.1 (P + 1) (by have := hI.1.1; omega)) (by omega)) dX4_swapAt_68 (fun H locs hJ => ?_)
        obtain ⟨S_68, hS_68⟩ : ∃ z : ST, z = setL S_59 (lMb (sL S_59) k (pm (sL S) k (P + 1)) 4 ((mb (sL S_59) k (pm (sL S) k (P + 1)) 4) - pr)) := ⟨_, rfl⟩
        rw [← hS_68] at hJ
        have v1 : mb (sL S_59) k (pm (sL S) k (P + 1)) 4 = mm (P + 1) 4 := by rw [e1, hU.2.2.2.2.1 P (by omega)]; simp
        rw [v1] at hS_68
        have v2 : mb (sL S_59) k (pm (sL S) k P) 4 = mm P 4 := by rw [e0, hU.2.2.2.2.1 (P + 1) (by omega)]; simp
        have v2 : mb (sL S_68) k (pm (sL S) k P) 4 = mm P 4 := by
          rw [hS_68]; refine (if_neg (fun q => ?_)).trans v2
          have := hI.1.2.2.2.1 P (P + 1) (by omega) (by omega) q.2.1; omega
        have hS_x := hS_68
        rw [e1] at hS_x
        have hU := hU.sq hS_x (OffL.omb _ _ _) (hU.2.2.smb (P := P) (i := 4) (v := mm (P + 1) 4 - pr) (by omega) (by omega) (by omega))
        have e0 : pm (sL S) k P = pm (sL S_68) k (P + 1) := by rw [hS_68]; exact e0
        have e1 : pm (sL S) k (P + 1) = pm (sL S_68) k P := by rw [hS_68]; exact e1
        refine lv_aload_n hx hb dX4_swapAt_71 rfl (lv_at hl 1 rfl) ?_
        refine lv_dup hx hb dX4_swapAt_72 rfl ?_
        refine g_X4_91 C hJ hk (Nat.lt_of_lt_of_le (hI.1.2.2.1 P (by have := hI.1.1; omega)) (by omega)) dX4_swapAt_73 ?_
        refine lv_iload_n hx hb dX4_swapAt_76 rfl (lv_at hl 4 rfl) ?_
        refine lv_iadd hx hb dX4_swapAt_77 ?_
        refine p_X4_91 C hJ hk (Nat.lt_of_lt_of_le (hI.1.2.2.1 P (by have := hI.1.1; omega)) (by omega)) dX4_swapAt_78 (fun H locs hJ => ?_)
        obtain ⟨S_78, hS_78⟩ : ∃ z : ST, z = setL S_68 (lMb (sL S_68) k (pm (sL S) k P) 4 ((mb (sL S_68) k (pm (sL S) k P) 4) + pr)) := ⟨_, rfl⟩
        rw [← hS_78] at hJ
        rw [v2] at hS_78
        have hS_x := hS_78
        rw [e0] at hS_x
        have hU := hU.sq hS_x (OffL.omb _ _ _) (hU.2.2.smb (P := P + 1) (i := 4) (v := mm P 4 + pr) (by omega) (by omega) (by omega))
        have e0 : pm (sL S) k P = pm (sL S_78) k (P + 1) := by rw [hS_78]; exact e0
        have e1 : pm (sL S) k (P + 1) = pm (sL S_78) k P := by rw [hS_78]; exact e1
        refine lv_aload hx hb dX4_swapAt_81 (lv_at hl 0 rfl) ?_
        refine cw_X4_56 C hJ hk (Nat.lt_of_lt_of_le (hI.1.2.2.1 (P + 1) (by have := hI.1.1; omega)) (by omega)) (rest := []) (c_X5_loseOneAhead hE hk (Nat.lt_of_lt_of_le (hI.1.2.2.1 (P + 1) (by have := hI.1.1; omega)) (by omega))) dX4_swapAt_83 hl.1 ⟨Nat.le_of_ble_eq_true rfl, Nat.le_of_ble_eq_true rfl⟩ ⟨Nat.le_refl _, Nat.le_refl _⟩ (Nat.le_of_ble_eq_true rfl) rfl rfl (fun vr S_83 H locs hP hJ => ?_)
        obtain ⟨rfl, hS_83⟩ := hP
        have hS_x := hS_83
        rw [e1] at hS_x
        have hU := hU.sq hS_x (OffL.lose _) (hU.2.2.lose (P := P) (by omega))
        have e0 : pm (sL S) k P = pm (sL S_83) k (P + 1) := by rw [hS_83]; exact e0
        refine lv_aload_n hx hb dX4_swapAt_86 rfl (lv_at hl 1 rfl) ?_
        refine cw_X4_56 C hJ hk (Nat.lt_of_lt_of_le (hI.1.2.2.1 P (by have := hI.1.1; omega)) (by omega)) (rest := []) (c_X5_loseOneAhead hE hk (Nat.lt_of_lt_of_le (hI.1.2.2.1 P (by have := hI.1.1; omega)) (by omega))) dX4_swapAt_87 hl.1 ⟨Nat.le_of_ble_eq_true rfl, Nat.le_of_ble_eq_true rfl⟩ ⟨Nat.le_refl _, Nat.le_refl _⟩ (Nat.le_of_ble_eq_true rfl) rfl rfl (fun vr S_87 H locs hP hJ => ?_)
        obtain ⟨rfl, hS_87⟩ := hP
        have hS_x := hS_87
        rw [e0] at hS_x
        have hU := hU.sq hS_x (OffL.lose _) (hU.2.2.lose (P := P + 1) (by omega))
        refine lv_aload_n hx hb dX4_swapAt_90 rfl (lv_at hl 2 rfl) ?_
        refine lv_iload_n hx hb dX4_swapAt_91 rfl (lv_at hl 3 rfl) ?_
        refine lv_iconst (v := 2) hx hb dX4_swapAt_92 (by decide) ?_
        refine lv_iadd hx hb dX4_swapAt_93 ?_
        refine cr_X4_41 C hJ hk (rest := []) (c_X4_memberAtE hE hk hU.2.2.1 (P := P + 2) (nI_add P 2)) dX4_swapAt_94 hl.1 ⟨Nat.le_of_ble_eq_true rfl, Nat.le_of_ble_eq_true rfl⟩ ⟨Nat.le_refl _, Nat.le_refl _⟩ (Nat.le_of_ble_eq_true rfl) rfl rfl ?_
        refine cw_X4_56 C hJ hk (ix_lt hU.2.2.1 _) (rest := []) (c_X5_loseOneAhead hE hk (ix_lt hU.2.2.1 _)) dX4_swapAt_97 hl.1 ⟨Nat.le_of_ble_eq_true rfl, Nat.le_of_ble_eq_true rfl⟩ ⟨Nat.le_refl _, Nat.le_refl _⟩ (Nat.le_of_ble_eq_true rfl) rfl rfl (fun vr S_97 H locs hP hJ => ?_)
        obtain ⟨rfl, hS_97⟩ := hP
        have hU := hU.sq hS_97 (OffL.lose _) (hU.2.2.loseAt (P := P + 2) (by omega))
        refine lv_aload_n hx hb dX4_swapAt_100 rfl (lv_at hl 2 rfl) ?_
        refine lv_dup hx hb dX4_swapAt_101 rfl ?_
        refine g_X4_29 C hJ hk dX4_swapAt_102 ?_
        refine lv_iconst (v := 1) hx hb dX4_swapAt_105 (by decide) ?_
        refine lv_iadd hx hb dX4_swapAt_106 ?_
        refine p_X4_29 C hJ hk dX4_swapAt_107 (fun H locs hJ => ?_)
        obtain ⟨S_107, hS_107⟩ : ∃ z : ST, z = setL S_97 (lSc (sL S_97) k 4 ((sc (sL S_97) k 4) + 1)) := ⟨_, rfl⟩
        rw [← hS_107] at hJ
        have v4 : sc (sL S_97) k 4 = z 4 := congrFun hU.2.2.2.1 4
        rw [v4] at hS_107
        have hU := hU.sq hS_107 (OffL.osc _ _) (hU.2.2.ssc (by omega) (by omega) _)
        refine lv_aload_n hx hb dX4_swapAt_110 rfl (lv_at hl 2 rfl) ?_
        refine lv_dup hx hb dX4_swapAt_111 rfl ?_
        refine g_X4_32 C hJ hk dX4_swapAt_112 ?_
        refine lv_iload_n hx hb dX4_swapAt_115 rfl (lv_at hl 4 rfl) ?_
        refine lv_iadd hx hb dX4_swapAt_116 ?_
        refine p_X4_32 C hJ hk dX4_swapAt_117 (fun H locs hJ => ?_)
        obtain ⟨S_117, hS_117⟩ : ∃ z : ST, z = setL S_107 (lSc (sL S_107) k 5 ((sc (sL S_107) k 5) + pr)) := ⟨_, rfl⟩
        rw [← hS_117] at hJ
        have v5 : sc (sL S_107) k 5 = z 5 := (congrFun hU.2.2.2.1 5).trans (by simp [upd])
        rw [v5] at hS_117
        have hU := hU.sq hS_117 (OffL.osc _ _) (hU.2.2.ssc (by omega) (by omega) _)
        refine lv_iload_n hx hb dX4_swapAt_120 rfl (lv_at hl 4 rfl) ?_
        exact rW_i C hJ hr rfl (⟨rfl, hU.cg (fun _ => rfl) (fun X hX q => mswap_eq mm P pr X q)⟩) dX4_swapAt_121
      · skip
        exact absurd (by rw [hI.1.2.1]; exact nI_le (b := 10) (by omega) (by omega)) c_23
set_option maxHeartbeats 4000000 in
set_option maxRecDepth 100000 in
theorem c_X4_swapAsOffered {l : Launch} {E : GE} (hE : Env0 E) {S : ST} {k n : Nat} {z : Nat → Int32} {mm : Nat → Nat → Int32} (hk : k < 6) (hI : LnIs (sL S) k n z mm) (P : Nat) (hP0 : P + 1 < n) : MW l E yX4_swapAsOffered cX4_swapAsOffered 2 (some .int) 2 46 S [.ref (gA E (13 * k)), .int (nI P)] (fun v S1 => v = some (.int (mm (P + 1) 5)) ∧ Up S S1 k n (upd (upd z 4 (z 4 + 1)) 5 (z 5 + mm (P + 1) 5)) (mswap mm P (mm (P + 1) 5))) := by
  refine MW.of hE (by decide) (Nat.le_of_ble_eq_true rfl) ?_
  intro p e s m below meth c ls C hJ hr hl
  have hx := C.x
  have hb := C.b
  have hl : lv_has ls 2 [(0, .ref (gA E (13 * k))), (1, .int (nI P))] := hl
  refine lv_aload_n hx hb dX4_swapAsOffered_0 rfl (lv_at hl 0 rfl) ?_
  refine lv_iload_n hx hb dX4_swapAsOffered_1 rfl (lv_at hl 1 rfl) ?_
  refine lv_aload_n hx hb dX4_swapAsOffered_2 rfl (lv_at hl 0 rfl) ?_
  refine lv_iload_n hx hb dX4_swapAsOffered_3 rfl (lv_at hl 1 rfl) ?_
  refine lv_iconst (v := 1) hx hb dX4_swapAsOffered_4 (by decide) ?_
  refine lv_iadd hx hb dX4_swapAsOffered_5 ?_
  refine cr_X4_41 C hJ hk (rest := [.int (nI P), .ref (gA E (13 * k))]) (c_X4_memberAtI hE hk hI.1 (P := P + 1) hP0 (nI_1 P)) dX4_swapAsOffered_6 hl.1 ⟨Nat.le_of_ble_eq_true rfl, Nat.le_of_ble_eq_true rfl⟩ ⟨Nat.le_refl _, Nat.le_refl _⟩ (Nat.le_of_ble_eq_true rfl) rfl rfl ?_
  refine g_X4_73 C hJ hk (Nat.lt_of_lt_of_le (hI.1.2.2.1 (P + 1) (by have := hI.1.1; omega)) (by omega)) dX4_swapAsOffered_9 ?_
  refine cw_X4_84 C hJ hk (rest := []) (c_X4_swapAt hE hk hI P hP0 (mb (sL S) k (pm (sL S) k (P + 1)) 5)) dX4_swapAsOffered_12 hl.1 ⟨Nat.le_of_ble_eq_true rfl, Nat.le_of_ble_eq_true rfl⟩ ⟨Nat.le_refl _, Nat.le_refl _⟩ (Nat.le_of_ble_eq_true rfl) rfl rfl (fun vr S_12 H locs hP hJ => ?_)
  obtain ⟨rfl, hU⟩ := hP
  exact rW_i C hJ hr rfl (by have e := hI.2.2.1 (P + 1) hP0 5; rw [e] at hU ⊢; exact ⟨rfl, hU⟩) dX4_swapAsOffered_15
set_option maxHeartbeats 4000000 in
set_option maxRecDepth 100000 in
theorem c_X4_swapFairly {l : Launch} {E : GE} (hE : Env0 E) {S : ST} {k n : Nat} {z : Nat → Int32} {mm : Nat → Nat → Int32} (hk : k < 6) (hI : LnIs (sL S) k n z mm) (P : Nat) (hP0 : P + 1 < n) : MW l E yX4_swapFairly cX4_swapFairly 2 (some .int) 2 47 S [.ref (gA E (13 * k)), .int (nI P)] (fun v S1 => v = some (.int (f_fairc (gof n mm) (z 3) (nI P))) ∧ Up S S1 k n (upd (upd z 4 (z 4 + 1)) 5 (z 5 + f_fairc (gof n mm) (z 3) (nI P))) (mswap mm P (f_fairc (gof n mm) (z 3) (nI P)))) := by
  refine MW.of hE (by decide) (Nat.le_of_ble_eq_true rfl) ?_
  intro p e s m below meth c ls C hJ hr hl
  have hx := C.x
  have hb := C.b
  have hl : lv_has ls 2 [(0, .ref (gA E (13 * k))), (1, .int (nI P))] := hl
  refine lv_aload_n hx hb dX4_swapFairly_0 rfl (lv_at hl 0 rfl) ?_
  refine lv_iload_n hx hb dX4_swapFairly_1 rfl (lv_at hl 1 rfl) ?_
  refine lv_aload_n hx hb dX4_swapFairly_2 rfl (lv_at hl 0 rfl) ?_
  refine lv_iload_n hx hb dX4_swapFairly_3 rfl (lv_at hl 1 rfl) ?_
  refine cr_X4_88 C hJ hk (rest := [.int (nI P), .ref (gA E (13 * k))]) (c_X4_fairPrice hE hk hI.1 (nI P)) dX4_swapFairly_4 hl.1 ⟨Nat.le_of_ble_eq_true rfl, Nat.le_of_ble_eq_true rfl⟩ ⟨Nat.le_refl _, Nat.le_refl _⟩ (Nat.le_of_ble_eq_true rfl) rfl rfl ?_
  refine cw_X4_84 C hJ hk (rest := []) (c_X4_swapAt hE hk hI P hP0 (f_fairc (gm (sL S) k) (sc (sL S) k 3) (nI P))) dX4_swapFairly_7 hl.1 ⟨Nat.le_of_ble_eq_true rfl, Nat.le_of_ble_eq_true rfl⟩ ⟨Nat.le_refl _, Nat.le_refl _⟩ (Nat.le_of_ble_eq_true rfl) rfl rfl (fun vr S_7 H locs hP hJ => ?_)
  obtain ⟨rfl, hU⟩ := hP
  exact rW_i C hJ hr rfl (by rw [hI.sgm, congrFun hI.2.1 3] at hU ⊢; exact ⟨rfl, hU⟩) dX4_swapFairly_10
theorem c_X4_swapFairlyU {l : Launch} {E : GE} (hE : Env0 E) {S : ST} {k n : Nat} {z : Nat → Int32} {mm : Nat → Nat → Int32} (hk : k < 6) (hI : LnIs (sL S) k n z mm) (P : Nat) (hP0 : P + 1 < n) {p0 : Int32} (e : p0 = nI P) : MW l E yX4_swapFairly cX4_swapFairly 2 (some .int) 2 47 S [.ref (gA E (13 * k)), .int p0] (fun v S1 => v = some (.int (f_fairc (gof n mm) (z 3) (nI P))) ∧ Up S S1 k n (upd (upd z 4 (z 4 + 1)) 5 (z 5 + f_fairc (gof n mm) (z 3) (nI P))) (mswap mm P (f_fairc (gof n mm) (z 3) (nI P)))) := by
  rw [e]; exact c_X4_swapFairly hE hk hI P hP0
set_option maxHeartbeats 4000000 in
set_option maxRecDepth 100000 in
theorem c_X4_settleDown {l : Launch} {E : GE} (hE : Env0 E) {S : ST} {k n : Nat} {z : Nat → Int32} {mm : Nat → Nat → Int32} (hk : k < 6) (hI : LnIs (sL S) k n z mm) (fu : Nat) (hfu : fu = 1000) : MW l E yX4_settleDown cX4_settleDown 3 (some .int) 3 69 S [.ref (gA E (13 * k))] (fun v S1 => v = some (.int (nI (f_set n fu z mm).1)) ∧ Up S S1 k n (f_set n fu z mm).2.1 (f_set n fu z mm).2.2) := by
  refine MW.of hE (by decide) (Nat.le_of_ble_eq_true rfl) ?_
  intro p e s m below meth c ls C hJ hr hl
  have hx := C.x
  have hb := C.b
  have hl : lv_has ls 3 [(0, .ref (gA E (13 * k)))] := hl
  refine lv_iconst (v := 0) hx hb dX4_settleDown_0 (by decide) ?_
  refine lv_istore_n (lv' := [(1, .int 0), (0, .ref (gA E (13 * k)))]) hx hb dX4_settleDown_1 rfl hl (by decide) rfl (fun ls hl => ?_)
  have lp : ∀ (d : Nat) (i : Nat) (T : ST) (zz : Nat → Int32) (mx : Nat → Nat → Int32) (H : Heap) (locs : List Loc) (ls : Array Slot), (i ≤ fu) → (fu < i + d) → (Up S T k n zz mx) → (f_set n fu z mm = (i + (f_set n (fu - i) zz mx).1, (f_set n (fu - i) zz mx).2)) → JJ E T H locs → lv_has ls 3 [(0, .ref (gA E (13 * k))), (1, .int (nI i))] → W p l e (rmZ 3 69) s m ([.ref (gA E (13 * k))] : List Value).toArray below meth c H locs 0 0 (WQ below ([.ref (gA E (13 * k))] : List Value).toArray s E (fun v S1 => v = some (.int (nI (f_set n fu z mm).1)) ∧ Up S S1 k n (f_set n fu z mm).2.1 (f_set n fu z mm).2.2)) (F0 m 2 ls []) := by
    intro d
    induction d with
    | zero =>
      intro i T zz mx H locs ls hi hd hU hF hJ hl
      omega
    | succ d ih_lp =>
      intro i T zz mx H locs ls hi hd hU hF hJ hl
      refine lv_iload_n hx hb dX4_settleDown_2 rfl (lv_at hl 1 rfl) ?_
      refine lv_sipush (v := 1000) hx hb dX4_settleDown_3 (by decide) ?_
      refine lv_icmp_ge (tgt := 34) hx hb dX4_settleDown_6 (by decide) (fun c_6 => ?_) (fun c_6 => ?_)
      · skip
        have e9 : i = 1000 := eqOfLe (N := 1000) (by omega) (by omega) c_6
        rw [show fu - i = 0 by omega] at hF
        refine lv_iload_n hx hb dX4_settleDown_34 rfl (lv_at hl 1 rfl) ?_
        exact rW_i C hJ hr rfl (⟨by rw [hF]; rfl, by rw [hF]; exact hU⟩) dX4_settleDown_35
      · skip
        have hlt : i < 1000 := ltOfNle (N := 1000) (by omega) c_6
        refine lv_aload_n hx hb dX4_settleDown_9 rfl (lv_at hl 0 rfl) ?_
        refine cr_X4_94 C hJ hk (rest := []) (c_X4_keenestPairU hE hk hU.2.2) dX4_settleDown_10 hl.1 ⟨Nat.le_of_ble_eq_true rfl, Nat.le_of_ble_eq_true rfl⟩ ⟨Nat.le_refl _, Nat.le_refl _⟩ (Nat.le_of_ble_eq_true rfl) rfl rfl ?_
        refine lv_istore_n (lv' := [(2, .int ((f_kp (gof n mx) (n - 1)).1)), (0, .ref (gA E (13 * k))), (1, .int (nI i))]) hx hb dX4_settleDown_13 rfl hl (by decide) rfl (fun ls hl => ?_)
        refine lv_iload_n hx hb dX4_settleDown_14 rfl (lv_at hl 0 rfl) ?_
        refine lv_iconst (v := (-1)) hx hb dX4_settleDown_15 (by decide) ?_
        refine lv_icmp_ne (tgt := 22) hx hb dX4_settleDown_16 (by decide) (fun c_16 => ?_) (fun c_16 => ?_)
        · skip
          obtain ⟨Q1, hQ, eQ⟩ := f_kp_some c_16
          have hn10 := hU.2.2.1.1
          refine lv_aload_n hx hb dX4_settleDown_22 rfl (lv_at hl 1 rfl) ?_
          refine lv_iload_n hx hb dX4_settleDown_23 rfl (lv_at hl 0 rfl) ?_
          refine cw_X4_97 C hJ hk (rest := []) (c_X4_swapFairlyU hE hk hU.2.2 Q1 (by omega) eQ) dX4_settleDown_24 hl.1 ⟨Nat.le_of_ble_eq_true rfl, Nat.le_of_ble_eq_true rfl⟩ ⟨Nat.le_refl _, Nat.le_refl _⟩ (Nat.le_of_ble_eq_true rfl) rfl rfl (fun vr S_24 H locs hP hJ => ?_)
          obtain ⟨rfl, hU2⟩ := hP
          have hU := hU.tr hU2
          rw [show fu - i = (fu - (i + 1)) + 1 by omega, f_set_go hn10 hQ eQ, show ∀ q : Nat, i + (q + 1) = (i + 1) + q from fun q => by omega] at hF
          refine lv_pop hx hb dX4_settleDown_27 rfl ?_
          refine lv_iinc (v := nI (i + 1)) (lv' := [(1, .int (nI (i + 1))), (2, .int ((f_kp (gof n mx) (n - 1)).1)), (0, .ref (gA E (13 * k)))]) hx hb dX4_settleDown_28 hl (k := 2) rfl (by exact nI_1 i) (by decide) rfl (fun ls hl => ?_)
          refine lv_goto (tgt := 2) hx hb dX4_settleDown_31 (by decide) ?_
          exact ih_lp (i + 1) S_24 _ _ H locs _ (by omega) (by omega) hU hF hJ (lv_sub hl [2, 0] rfl)
        · skip
          rw [f_set_stop c_16] at hF
          refine lv_goto (tgt := 34) hx hb dX4_settleDown_19 (by decide) ?_
          refine lv_iload_n hx hb dX4_settleDown_34 rfl (lv_at hl 2 rfl) ?_
          exact rW_i C hJ hr rfl (⟨by rw [hF]; rfl, by rw [hF]; exact hU⟩) dX4_settleDown_35
  exact lp (fu + 1) 0 S z mm s.heap [] _ (Nat.zero_le _) (by omega) (Up.rf hI) (by rw [Nat.sub_zero, Nat.zero_add]) hJ (lv_sub hl [1, 0] rfl)
set_option maxHeartbeats 4000000 in
set_option maxRecDepth 100000 in
theorem c_X4_insert {l : Launch} {E : GE} (hE : Env0 E) {S : ST} {k n : Nat} {z : Nat → Int32} {mm : Nat → Nat → Int32} (hk : k < 6) (hI : LnIs (sL S) k n z mm) (hn : n < 10) (P : Nat) (hP0 : P ≤ n) (w0 sv : Int32) : MW l E yX4_insert cX4_insert 6 (some .int) 2 43 S [.ref (gA E (13 * k)), .int w0, .int sv, .int (nI P)] (fun v S1 => v = some (.int (z 7)) ∧ Up S S1 k (n + 1) (upd (upd z 2 (nI (n + 1))) 7 (z 7 + 1)) (mins mm P (mfresh (z 7) w0 sv))) := by
  refine MW.of hE (by decide) (Nat.le_of_ble_eq_true rfl) ?_
  intro p e s m below meth c ls C hJ hr hl
  have hx := C.x
  have hb := C.b
  have hl : lv_has ls 6 [(0, .ref (gA E (13 * k))), (1, .int w0), (2, .int sv), (3, .int (nI P))] := hl
  refine lv_aload_n hx hb dX4_insert_0 rfl (lv_at hl 0 rfl) ?_
  refine g_X4_26 C hJ hk dX4_insert_1 ?_
  refine lv_aload_n hx hb dX4_insert_4 rfl (lv_at hl 0 rfl) ?_
  refine g_X4_11 C hJ hk dX4_insert_5 ?_
  refine al_ar C hJ hk dX4_insert_8 ?_
  refine lv_icmp_ge (tgt := 24) hx hb dX4_insert_9 (by decide) (fun c_9 => ?_) (fun c_9 => ?_)
  · skip
    exact absurd (by rw [hI.1.2.1] at c_9; exact c_9) (nI_ge (b := 10) hn (by omega))
  · skip
    refine lv_iload_n hx hb dX4_insert_12 rfl (lv_at hl 3 rfl) ?_
    refine lv_if_lt (tgt := 24) hx hb dX4_insert_13 (by decide) (fun c_13 => ?_) (fun c_13 => ?_)
    · skip
      exact absurd c_13 (nI_pos (by omega))
    · skip
      refine lv_iload_n hx hb dX4_insert_16 rfl (lv_at hl 3 rfl) ?_
      refine lv_aload_n hx hb dX4_insert_17 rfl (lv_at hl 0 rfl) ?_
      refine g_X4_26 C hJ hk dX4_insert_18 ?_
      refine lv_icmp_le (tgt := 26) hx hb dX4_insert_21 (by decide) (fun c_21 => ?_) (fun c_21 => ?_)
      · skip
        refine lv_aload_n hx hb dX4_insert_26 rfl (lv_at hl 0 rfl) ?_
        refine g_X4_11 C hJ hk dX4_insert_27 ?_
        refine lv_aload_n hx hb dX4_insert_30 rfl (lv_at hl 0 rfl) ?_
        refine g_X4_26 C hJ hk dX4_insert_31 ?_
        refine a_ar C hJ hk (P := n) (hI.1.2.1) (hn) dX4_insert_34 ?_
        refine lv_astore (lv' := [(4, .ref (gA E (13 * k + 2 + (pm (sL S) k n)))), (0, .ref (gA E (13 * k))), (1, .int w0), (2, .int sv), (3, .int (nI P))]) hx hb dX4_insert_35 hl (by decide) rfl (fun ls hl => ?_)
        refine lv_aload hx hb dX4_insert_37 (lv_at hl 0 rfl) ?_
        refine lv_ifnonnull (tgt := 44) hx hb dX4_insert_39 (by decide) ?_
        refine lv_aload_n hx hb dX4_insert_44 rfl (lv_at hl 1 rfl) ?_
        refine g_X4_26 C hJ hk dX4_insert_45 ?_
        refine lv_istore (lv' := [(5, .int (sc (sL S) k 2)), (4, .ref (gA E (13 * k + 2 + (pm (sL S) k n)))), (0, .ref (gA E (13 * k))), (1, .int w0), (2, .int sv), (3, .int (nI P))]) hx hb dX4_insert_48 hl (by decide) rfl (fun ls hl => ?_)
        have lp : ∀ (d : Nat) (i : Nat) (x5 : Int32) (T : ST) (H : Heap) (locs : List Loc) (ls : Array Slot), (P ≤ i ∧ i ≤ n) → (i < P + d) → (x5 = nI i) → (T = setL S (lPerm (sL S) k (shf (pm (sL S) k) n i))) → JJ E T H locs → lv_has ls 6 [(0, .ref (gA E (13 * k))), (1, .int w0), (2, .int sv), (3, .int (nI P)), (4, .ref (gA E (13 * k + 2 + (pm (sL S) k n)))), (5, .int x5)] → W p l e (rmZ 2 43) s m ([.ref (gA E (13 * k)), .int w0, .int sv, .int (nI P)] : List Value).toArray below meth c H locs 0 0 (WQ below ([.ref (gA E (13 * k)), .int w0, .int sv, .int (nI P)] : List Value).toArray s E (fun v S1 => v = some (.int (z 7)) ∧ Up S S1 k (n + 1) (upd (upd z 2 (nI (n + 1))) 7 (z 7 + 1)) (mins mm P (mfresh (z 7) w0 sv)))) (F0 m 50 ls []) := by
          intro d
          induction d with
          | zero =>
            intro i x5 T H locs ls hi hd e5 hT hJ hl
            omega
          | succ d ih_lp =>
            intro i x5 T H locs ls hi hd e5 hT hJ hl
            refine lv_iload hx hb dX4_insert_50 (lv_at hl 5 rfl) ?_
            refine lv_iload_n hx hb dX4_insert_52 rfl (lv_at hl 3 rfl) ?_
            refine lv_icmp_le (tgt := 78) hx hb dX4_insert_53 (by decide) (fun c_53 => ?_) (fun c_53 => ?_)
            · skip
              have e9 : i = P := eqOfLe2 hi.1 (by omega) (by rw [e5] at c_53; exact c_53)
              rw [e9] at hT
              refine lv_aload_n hx hb dX4_insert_78 rfl (lv_at hl 0 rfl) ?_
              refine g_X4_11 C hJ hk dX4_insert_79 ?_
              refine lv_iload_n hx hb dX4_insert_82 rfl (lv_at hl 3 rfl) ?_
              refine lv_aload hx hb dX4_insert_83 (lv_at hl 4 rfl) ?_
              refine t_ar C hJ hk (Nat.lt_of_lt_of_le (hI.1.2.2.1 n hn) (by omega)) (P := P) (rfl) (by omega) dX4_insert_85 (fun H locs hJ => ?_)
              obtain ⟨S_85, hS_85⟩ : ∃ z : ST, z = setL T (lPm (sL T) k P (pm (sL S) k n)) := ⟨_, rfl⟩
              rw [← hS_85] at hJ
              have hT : S_85 = setL S (lPerm (sL S) k (rotIn (pm (sL S) k) P n)) := by
                rw [hS_85, hT]
                show setL S (lPm (lPerm (sL S) k (shf (pm (sL S) k) n P)) k P (pm (sL S) k n)) = _
                rw [lPm_lPerm, shf_e]
              refine lv_aload_n hx hb dX4_insert_86 rfl (lv_at hl 0 rfl) ?_
              refine lv_dup hx hb dX4_insert_87 rfl ?_
              refine g_X4_26 C hJ hk dX4_insert_88 ?_
              refine lv_iconst (v := 1) hx hb dX4_insert_91 (by decide) ?_
              refine lv_iadd hx hb dX4_insert_92 ?_
              refine p_X4_26 C hJ hk dX4_insert_93 (fun H locs hJ => ?_)
              obtain ⟨S_93, hS_93⟩ : ∃ z : ST, z = setL S_85 (lSc (sL S_85) k 2 ((sc (sL S_85) k 2) + 1)) := ⟨_, rfl⟩
              rw [← hS_93] at hJ
              have hS_x : S_93 = setL S (lSc (lPerm (sL S) k (rotIn (pm (sL S) k) P n)) k 2 (nI (n + 1))) := by
                rw [hS_93, hT]
                show setL S (lSc _ k 2 (sc (sL S) k 2 + 1)) = _
                rw [hI.1.2.1, nI_1]; rfl
              have hU := (Up.rf hI).sq hS_x ((OffL.operm _).tr (OffL.osc _ _)) (hI.ins hP0 hn)
              have eF : pm (sL S) k n = pm (sL S_93) k P := by rw [hS_x]; show _ = pm (lPerm (sL S) k (rotIn (pm (sL S) k) P n)) k P; rw [pm_lPerm]; unfold rotIn; rw [if_pos rfl]
              have v7 : sc (sL S_93) k 7 = z 7 := (congrFun hU.2.2.2.1 7).trans (by simp [upd])
              refine lv_aload hx hb dX4_insert_96 (lv_at hl 4 rfl) ?_
              refine lv_aload_n hx hb dX4_insert_98 rfl (lv_at hl 0 rfl) ?_
              refine g_X4_38 C hJ hk dX4_insert_99 ?_
              refine lv_iload_n hx hb dX4_insert_102 rfl (lv_at hl 1 rfl) ?_
              refine lv_iload_n hx hb dX4_insert_103 rfl (lv_at hl 2 rfl) ?_
              refine cw_X4_52 C hJ hk (Nat.lt_of_lt_of_le (hI.1.2.2.1 n hn) (by omega)) (rest := []) (c_X5_begin hE hk (Nat.lt_of_lt_of_le (hI.1.2.2.1 n hn) (by omega)) (sc (sL S_93) k 7) w0 sv) dX4_insert_104 hl.1 ⟨Nat.le_of_ble_eq_true rfl, Nat.le_of_ble_eq_true rfl⟩ ⟨Nat.le_refl _, Nat.le_refl _⟩ (Nat.le_of_ble_eq_true rfl) rfl rfl (fun vr S_104 H locs hP hJ => ?_)
              obtain ⟨rfl, hS_104⟩ := hP
              rw [v7] at hS_104
              have hS_x := hS_104
              rw [eF] at hS_x
              have hU := hU.sq hS_x (OffL.oput _ _) (hU.2.2.put (P := P) (by omega) (f := mfresh (z 7) w0 sv) (Or.inl rfl) (mfresh7 _ _ _))
              have eF : pm (sL S) k n = pm (sL S_104) k P := by rw [hS_104]; exact eF
              refine lv_aload_n hx hb dX4_insert_107 rfl (lv_at hl 0 rfl) ?_
              refine lv_iload_n hx hb dX4_insert_108 rfl (lv_at hl 3 rfl) ?_
              refine lv_iconst (v := 1) hx hb dX4_insert_109 (by decide) ?_
              refine lv_iadd hx hb dX4_insert_110 ?_
              refine cr_X4_41 C hJ hk (rest := []) (c_X4_memberAtE hE hk hU.2.2.1 (P := P + 1) (nI_1 P)) dX4_insert_111 hl.1 ⟨Nat.le_of_ble_eq_true rfl, Nat.le_of_ble_eq_true rfl⟩ ⟨Nat.le_refl _, Nat.le_refl _⟩ (Nat.le_of_ble_eq_true rfl) rfl rfl ?_
              refine cw_X4_56 C hJ hk (ix_lt hU.2.2.1 _) (rest := []) (c_X5_loseOneAhead hE hk (ix_lt hU.2.2.1 _)) dX4_insert_114 hl.1 ⟨Nat.le_of_ble_eq_true rfl, Nat.le_of_ble_eq_true rfl⟩ ⟨Nat.le_refl _, Nat.le_refl _⟩ (Nat.le_of_ble_eq_true rfl) rfl rfl (fun vr S_114 H locs hP hJ => ?_)
              obtain ⟨rfl, hS_114⟩ := hP
              have hU := hU.sq hS_114 (OffL.lose _) (hU.2.2.loseAt (P := P + 1) (by omega))
              have eF : pm (sL S) k n = pm (sL S_114) k P := by rw [hS_114]; exact eF
              refine lv_aload_n hx hb dX4_insert_117 rfl (lv_at hl 0 rfl) ?_
              refine lv_dup hx hb dX4_insert_118 rfl ?_
              refine g_X4_38 C hJ hk dX4_insert_119 ?_
              refine lv_iconst (v := 1) hx hb dX4_insert_122 (by decide) ?_
              refine lv_iadd hx hb dX4_insert_123 ?_
              refine p_X4_38 C hJ hk dX4_insert_124 (fun H locs hJ => ?_)
              obtain ⟨S_124, hS_124⟩ : ∃ z : ST, z = setL S_114 (lSc (sL S_114) k 7 ((sc (sL S_114) k 7) + 1)) := ⟨_, rfl⟩
              rw [← hS_124] at hJ
              have v8 : sc (sL S_114) k 7 = z 7 := (congrFun hU.2.2.2.1 7).trans (by simp [upd])
              rw [v8] at hS_124
              have hU := hU.sq hS_124 (OffL.osc _ _) (hU.2.2.ssc (by omega) (by omega) _)
              have eF : pm (sL S) k n = pm (sL S_124) k P := by rw [hS_124]; exact eF
              have v0 : mb (sL S_124) k (pm (sL S) k n) 0 = z 7 := by rw [eF, hU.2.2.2.2.1 P (by omega)]; simp [mfresh]
              refine lv_aload hx hb dX4_insert_127 (lv_at hl 4 rfl) ?_
              refine g_X4_49 C hJ hk (Nat.lt_of_lt_of_le (hI.1.2.2.1 n hn) (by omega)) dX4_insert_129 ?_
              exact rW_i C hJ hr rfl (⟨by rw [v0], hU.cg (fun _ => rfl) (fun X hX q => mins_eq mm P _ _ X q)⟩) dX4_insert_132
            · skip
              have hlt : P < i := ltOfNle (by omega) (by rw [e5] at c_53; exact c_53)
              refine lv_aload_n hx hb dX4_insert_56 rfl (lv_at hl 0 rfl) ?_
              refine g_X4_11 C hJ hk dX4_insert_57 ?_
              refine lv_iload hx hb dX4_insert_60 (lv_at hl 5 rfl) ?_
              refine lv_aload_n hx hb dX4_insert_62 rfl (lv_at hl 0 rfl) ?_
              refine g_X4_11 C hJ hk dX4_insert_63 ?_
              refine lv_iload hx hb dX4_insert_66 (lv_at hl 5 rfl) ?_
              refine lv_iconst (v := 1) hx hb dX4_insert_68 (by decide) ?_
              refine lv_isub hx hb dX4_insert_69 ?_
              refine a_ar C hJ hk (P := i - 1) (by rw [e5]; exact nI_pd (by omega)) (by omega) dX4_insert_70 ?_
              refine t_ar C hJ hk (by rw [hT]; exact Nat.lt_of_lt_of_le (by rw [show pm (sL (setL S (lPerm (sL S) k (shf (pm (sL S) k) n i)))) k = shf (pm (sL S) k) n i from pm_lPerm _ _ _]; unfold shf; split <;> exact hI.1.2.2.1 _ (by omega)) (by omega : 10 ≤ 11)) (P := i) (e5) (by omega) dX4_insert_71 (fun H locs hJ => ?_)
              obtain ⟨S_71, hS_71⟩ : ∃ z : ST, z = setL T (lPm (sL T) k i (pm (sL T) k (i - 1))) := ⟨_, rfl⟩
              rw [← hS_71] at hJ
              have hT : S_71 = setL S (lPerm (sL S) k (shf (pm (sL S) k) n (i - 1))) := by
                rw [hS_71, hT]
                show setL S (lPm (lPerm (sL S) k (shf (pm (sL S) k) n i)) k i (pm (lPerm (sL S) k (shf (pm (sL S) k) n i)) k (i - 1))) = _
                rw [lPm_lPerm, pm_lPerm, shf_s _ (by omega) hi.2]
              refine lv_iinc (v := nI (i - 1)) (lv' := [(5, .int (nI (i - 1))), (0, .ref (gA E (13 * k))), (1, .int w0), (2, .int sv), (3, .int (nI P)), (4, .ref (gA E (13 * k + 2 + (pm (sL S) k n))))]) hx hb dX4_insert_72 hl (k := 5) rfl (by rw [e5]; exact nI_pm (by omega)) (by decide) rfl (fun ls hl => ?_)
              refine lv_goto (tgt := 50) hx hb dX4_insert_75 (by decide) ?_
              exact ih_lp (i - 1) _ S_71 H locs _ ⟨by omega, by omega⟩ (by omega) rfl hT hJ (lv_sub hl [1, 2, 3, 4, 5, 0] rfl)
        exact lp (n + 1) n _ S s.heap [] _ ⟨hP0, Nat.le_refl _⟩ (by omega) hI.1.2.1 (by rw [shf_0, lPerm_id]; rfl) hJ (lv_sub hl [2, 3, 4, 5, 1, 0] rfl)
      · skip
        exact absurd (by rw [hI.1.2.1]; exact nI_le hP0 (by omega)) c_21
set_option maxHeartbeats 4000000 in
set_option maxRecDepth 100000 in
theorem c_X4_removeAt {l : Launch} {E : GE} (hE : Env0 E) {S : ST} {k n : Nat} {z : Nat → Int32} {mm : Nat → Nat → Int32} (hk : k < 6) (hI : LnIs (sL S) k n z mm) (P : Nat) (hP0 : P < n) : MW l E yX4_removeAt cX4_removeAt 4 (none : Option Jvm.ClassFile.FieldType) 1 22 S [.ref (gA E (13 * k)), .int (nI P)] (fun v S1 => v = none ∧ Up S S1 k (n - 1) (upd z 2 (nI (n - 1))) (mrem mm P)) := by
  have hn10 := hI.1.1
  refine MW.of hE (by decide) (Nat.le_of_ble_eq_true rfl) ?_
  intro p e s m below meth c ls C hJ hr hl
  have hx := C.x
  have hb := C.b
  have hl : lv_has ls 4 [(0, .ref (gA E (13 * k))), (1, .int (nI P))] := hl
  refine lv_iload_n hx hb dX4_removeAt_0 rfl (lv_at hl 1 rfl) ?_
  refine lv_if_lt (tgt := 24) hx hb dX4_removeAt_1 (by decide) (fun c_1 => ?_) (fun c_1 => ?_)
  · skip
    exact absurd c_1 (nI_pos (by omega))
  · skip
    refine lv_iload_n hx hb dX4_removeAt_4 rfl (lv_at hl 1 rfl) ?_
    refine lv_aload_n hx hb dX4_removeAt_5 rfl (lv_at hl 0 rfl) ?_
    refine g_X4_26 C hJ hk dX4_removeAt_6 ?_
    refine lv_icmp_ge (tgt := 24) hx hb dX4_removeAt_9 (by decide) (fun c_9 => ?_) (fun c_9 => ?_)
    · skip
      exact absurd (by rw [hI.1.2.1] at c_9; exact c_9) (nI_ge hP0 (by omega))
    · skip
      refine lv_aload_n hx hb dX4_removeAt_12 rfl (lv_at hl 0 rfl) ?_
      refine g_X4_26 C hJ hk dX4_removeAt_13 ?_
      refine lv_aload_n hx hb dX4_removeAt_16 rfl (lv_at hl 0 rfl) ?_
      refine g_X4_11 C hJ hk dX4_removeAt_17 ?_
      refine al_ar C hJ hk dX4_removeAt_20 ?_
      refine lv_icmp_le (tgt := 25) hx hb dX4_removeAt_21 (by decide) (fun c_21 => ?_) (fun c_21 => ?_)
      · skip
        refine lv_aload_n hx hb dX4_removeAt_25 rfl (lv_at hl 0 rfl) ?_
        refine g_X4_11 C hJ hk dX4_removeAt_26 ?_
        refine lv_iload_n hx hb dX4_removeAt_29 rfl (lv_at hl 1 rfl) ?_
        refine a_ar C hJ hk (P := P) (rfl) (by omega) dX4_removeAt_30 ?_
        refine lv_astore_n (lv' := [(2, .ref (gA E (13 * k + 2 + (pm (sL S) k P)))), (0, .ref (gA E (13 * k))), (1, .int (nI P))]) hx hb dX4_removeAt_31 rfl hl (by decide) rfl (fun ls hl => ?_)
        refine lv_iload_n hx hb dX4_removeAt_32 rfl (lv_at hl 2 rfl) ?_
        refine lv_istore_n (lv' := [(3, .int (nI P)), (2, .ref (gA E (13 * k + 2 + (pm (sL S) k P)))), (0, .ref (gA E (13 * k))), (1, .int (nI P))]) hx hb dX4_removeAt_33 rfl hl (by decide) rfl (fun ls hl => ?_)
        have lp : ∀ (d : Nat) (i : Nat) (T : ST) (H : Heap) (locs : List Loc) (ls : Array Slot), (P ≤ i ∧ i ≤ n - 1) → (n - 1 < i + d) → (T = setL S (lPerm (sL S) k (shb (pm (sL S) k) P i))) → JJ E T H locs → lv_has ls 4 [(0, .ref (gA E (13 * k))), (1, .int (nI P)), (2, .ref (gA E (13 * k + 2 + (pm (sL S) k P)))), (3, .int (nI i))] → W p l e (rmZ 1 22) s m ([.ref (gA E (13 * k)), .int (nI P)] : List Value).toArray below meth c H locs 0 0 (WQ below ([.ref (gA E (13 * k)), .int (nI P)] : List Value).toArray s E (fun v S1 => v = none ∧ Up S S1 k (n - 1) (upd z 2 (nI (n - 1))) (mrem mm P))) (F0 m 34 ls []) := by
          intro d
          induction d with
          | zero =>
            intro i T H locs ls hi hd hT hJ hl
            omega
          | succ d ih_lp =>
            intro i T H locs ls hi hd hT hJ hl
            refine lv_iload_n hx hb dX4_removeAt_34 rfl (lv_at hl 3 rfl) ?_
            refine lv_aload_n hx hb dX4_removeAt_35 rfl (lv_at hl 0 rfl) ?_
            refine g_X4_26 C hJ hk dX4_removeAt_36 ?_
            refine lv_iconst (v := 1) hx hb dX4_removeAt_39 (by decide) ?_
            refine lv_isub hx hb dX4_removeAt_40 ?_
            refine lv_icmp_ge (tgt := 64) hx hb dX4_removeAt_41 (by decide) (fun c_41 => ?_) (fun c_41 => ?_)
            · skip
              have e9 : i = n - 1 := cT1 hI.1 hi.2 (by rw [hT] at c_41; exact c_41)
              refine lv_aload_n hx hb dX4_removeAt_64 rfl (lv_at hl 0 rfl) ?_
              refine g_X4_11 C hJ hk dX4_removeAt_65 ?_
              refine lv_aload_n hx hb dX4_removeAt_68 rfl (lv_at hl 0 rfl) ?_
              refine g_X4_26 C hJ hk dX4_removeAt_69 ?_
              refine lv_iconst (v := 1) hx hb dX4_removeAt_72 (by decide) ?_
              refine lv_isub hx hb dX4_removeAt_73 ?_
              refine lv_aload_n hx hb dX4_removeAt_74 rfl (lv_at hl 2 rfl) ?_
              refine t_ar C hJ hk (Nat.lt_of_lt_of_le (hI.1.2.2.1 P (by omega)) (by omega)) (P := n - 1) (by rw [hT]; exact (show sc (sL S) k 2 - 1 = nI (n - 1) from sc1 hI.1 (by omega))) (by omega) dX4_removeAt_75 (fun H locs hJ => ?_)
              obtain ⟨S_75, hS_75⟩ : ∃ z : ST, z = setL T (lPm (sL T) k (n - 1) (pm (sL S) k P)) := ⟨_, rfl⟩
              rw [← hS_75] at hJ
              have hT : S_75 = setL S (lPerm (sL S) k (rotOut (pm (sL S) k) P n)) := by
                rw [hS_75, hT, e9]
                show setL S (lPm (lPerm (sL S) k (shb (pm (sL S) k) P (n - 1))) k (n - 1) (pm (sL S) k P)) = _
                rw [lPm_lPerm, shb_e _ hP0]
              refine lv_aload_n hx hb dX4_removeAt_76 rfl (lv_at hl 0 rfl) ?_
              refine lv_dup hx hb dX4_removeAt_77 rfl ?_
              refine g_X4_26 C hJ hk dX4_removeAt_78 ?_
              refine lv_iconst (v := 1) hx hb dX4_removeAt_81 (by decide) ?_
              refine lv_isub hx hb dX4_removeAt_82 ?_
              refine p_X4_26 C hJ hk dX4_removeAt_83 (fun H locs hJ => ?_)
              obtain ⟨S_83, hS_83⟩ : ∃ z : ST, z = setL S_75 (lSc (sL S_75) k 2 ((sc (sL S_75) k 2) - 1)) := ⟨_, rfl⟩
              rw [← hS_83] at hJ
              have hS_x : S_83 = setL S (lSc (lPerm (sL S) k (rotOut (pm (sL S) k) P n)) k 2 (nI (n - 1))) := by
                rw [hS_83, hT]
                show setL S (lSc _ k 2 (sc (sL S) k 2 - 1)) = _
                rw [sc1 hI.1 (by omega)]; rfl
              have hU := (Up.rf hI).sq hS_x ((OffL.operm _).tr (OffL.osc _ _)) (hI.rem hP0)
              refine lv_aload_n hx hb dX4_removeAt_86 rfl (lv_at hl 0 rfl) ?_
              refine lv_iload_n hx hb dX4_removeAt_87 rfl (lv_at hl 1 rfl) ?_
              refine cr_X4_41 C hJ hk (rest := []) (c_X4_memberAtE hE hk hU.2.2.1 (P := P) rfl) dX4_removeAt_88 hl.1 ⟨Nat.le_of_ble_eq_true rfl, Nat.le_of_ble_eq_true rfl⟩ ⟨Nat.le_refl _, Nat.le_refl _⟩ (Nat.le_of_ble_eq_true rfl) rfl rfl ?_
              refine cw_X4_56 C hJ hk (ix_lt hU.2.2.1 _) (rest := []) (c_X5_loseOneAhead hE hk (ix_lt hU.2.2.1 _)) dX4_removeAt_91 hl.1 ⟨Nat.le_of_ble_eq_true rfl, Nat.le_of_ble_eq_true rfl⟩ ⟨Nat.le_refl _, Nat.le_refl _⟩ (Nat.le_of_ble_eq_true rfl) rfl rfl (fun vr S_91 H locs hP hJ => ?_)
              obtain ⟨rfl, hS_91⟩ := hP
              have hU := hU.sq hS_91 (OffL.lose _) (hU.2.2.loseAt (P := P) (by omega))
              exact rW_v C hJ hr (⟨rfl, hU.cg (fun _ => rfl) (fun X hX q => mrem_eq mm P X q)⟩) dX4_removeAt_94
            · skip
              have hlt : i < n - 1 := cF1 hI.1 hi.2 (by rw [hT] at c_41; exact c_41)
              refine lv_aload_n hx hb dX4_removeAt_44 rfl (lv_at hl 0 rfl) ?_
              refine g_X4_11 C hJ hk dX4_removeAt_45 ?_
              refine lv_iload_n hx hb dX4_removeAt_48 rfl (lv_at hl 3 rfl) ?_
              refine lv_aload_n hx hb dX4_removeAt_49 rfl (lv_at hl 0 rfl) ?_
              refine g_X4_11 C hJ hk dX4_removeAt_50 ?_
              refine lv_iload_n hx hb dX4_removeAt_53 rfl (lv_at hl 3 rfl) ?_
              refine lv_iconst (v := 1) hx hb dX4_removeAt_54 (by decide) ?_
              refine lv_iadd hx hb dX4_removeAt_55 ?_
              refine a_ar C hJ hk (P := i + 1) (nI_1 i) (by omega) dX4_removeAt_56 ?_
              refine t_ar C hJ hk (by rw [hT]; exact Nat.lt_of_lt_of_le (by rw [show pm (sL (setL S (lPerm (sL S) k (shb (pm (sL S) k) P i)))) k = shb (pm (sL S) k) P i from pm_lPerm _ _ _]; unfold shb; rw [if_neg (by omega)]; exact hI.1.2.2.1 _ (by omega)) (by omega : 10 ≤ 11)) (P := i) (rfl) (by omega) dX4_removeAt_57 (fun H locs hJ => ?_)
              obtain ⟨S_57, hS_57⟩ : ∃ z : ST, z = setL T (lPm (sL T) k i (pm (sL T) k (i + 1))) := ⟨_, rfl⟩
              rw [← hS_57] at hJ
              have hT : S_57 = setL S (lPerm (sL S) k (shb (pm (sL S) k) P (i + 1))) := by
                rw [hS_57, hT]
                show setL S (lPm (lPerm (sL S) k (shb (pm (sL S) k) P i)) k i (pm (lPerm (sL S) k (shb (pm (sL S) k) P i)) k (i + 1))) = _
                rw [lPm_lPerm, pm_lPerm, shb_s _ hi.1]
              refine lv_iinc (v := nI (i + 1)) (lv' := [(3, .int (nI (i + 1))), (0, .ref (gA E (13 * k))), (1, .int (nI P)), (2, .ref (gA E (13 * k + 2 + (pm (sL S) k P))))]) hx hb dX4_removeAt_58 hl (k := 3) rfl (by exact nI_1 i) (by decide) rfl (fun ls hl => ?_)
              refine lv_goto (tgt := 34) hx hb dX4_removeAt_61 (by decide) ?_
              exact ih_lp (i + 1) S_57 H locs _ ⟨by omega, by omega⟩ (by omega) hT hJ (lv_sub hl [1, 2, 3, 0] rfl)
        exact lp (n - 1 + 1) P S s.heap [] _ ⟨Nat.le_refl _, by omega⟩ (by omega) (by rw [shb_0, lPerm_id]; rfl) hJ (lv_sub hl [2, 3, 1, 0] rfl)
      · skip
        exact absurd (by rw [hI.1.2.1]; exact nI_le (b := 10) (by omega) (by omega)) c_21
theorem c_X4_removeAtU {l : Launch} {E : GE} (hE : Env0 E) {S : ST} {k n : Nat} {z : Nat → Int32} {mm : Nat → Nat → Int32} (hk : k < 6) (hI : LnIs (sL S) k n z mm) (P : Nat) (hP0 : P < n) {p0 : Int32} (e : p0 = nI P) : MW l E yX4_removeAt cX4_removeAt 4 none 1 22 S [.ref (gA E (13 * k)), .int p0] (fun v S1 => v = none ∧ Up S S1 k (n - 1) (upd z 2 (nI (n - 1))) (mrem mm P)) := by
  rw [e]; exact c_X4_removeAt hE hk hI P hP0
set_option maxHeartbeats 4000000 in
set_option maxRecDepth 100000 in
theorem c_X4_removeMember {l : Launch} {E : GE} (hE : Env0 E) {S : ST} {k n : Nat} {z : Nat → Int32} {mm : Nat → Nat → Int32} (hk : k < 6) (hI : LnIs (sL S) k n z mm) (q : Int32) (P : Nat) (hP0 : P < n) (hq : f_place (gof n mm) n q = nI P) : MW l E yX4_removeMember cX4_removeMember 3 (some .int) 2 45 S [.ref (gA E (13 * k)), .int q] (fun v S1 => v = some (.int (nI P)) ∧ Up S S1 k (n - 1) (upd z 2 (nI (n - 1))) (mrem mm P)) := by
  refine MW.of hE (by decide) (Nat.le_of_ble_eq_true rfl) ?_
  intro p e s m below meth c ls C hJ hr hl
  have hx := C.x
  have hb := C.b
  have hl : lv_has ls 3 [(0, .ref (gA E (13 * k))), (1, .int q)] := hl
  refine lv_aload_n hx hb dX4_removeMember_0 rfl (lv_at hl 0 rfl) ?_
  refine lv_iload_n hx hb dX4_removeMember_1 rfl (lv_at hl 1 rfl) ?_
  refine cr_X4_59 C hJ hk (rest := []) (c_X4_placeOf hE hk hI.1 q) dX4_removeMember_2 hl.1 ⟨Nat.le_of_ble_eq_true rfl, Nat.le_of_ble_eq_true rfl⟩ ⟨Nat.le_refl _, Nat.le_refl _⟩ (Nat.le_of_ble_eq_true rfl) rfl rfl ?_
  refine lv_istore_n (lv' := [(2, .int (f_place (gm (sL S) k) n q)), (0, .ref (gA E (13 * k))), (1, .int q)]) hx hb dX4_removeMember_5 rfl hl (by decide) rfl (fun ls hl => ?_)
  refine lv_aload_n hx hb dX4_removeMember_6 rfl (lv_at hl 1 rfl) ?_
  refine lv_iload_n hx hb dX4_removeMember_7 rfl (lv_at hl 0 rfl) ?_
  refine cw_X4_63 C hJ hk (rest := []) (c_X4_removeAtU hE hk hI P hP0 (by rw [hI.sgm]; exact hq)) dX4_removeMember_8 hl.1 ⟨Nat.le_of_ble_eq_true rfl, Nat.le_of_ble_eq_true rfl⟩ ⟨Nat.le_refl _, Nat.le_refl _⟩ (Nat.le_of_ble_eq_true rfl) rfl rfl (fun vr S_8 H locs hP hJ => ?_)
  obtain ⟨rfl, hU⟩ := hP
  refine lv_iload_n hx hb dX4_removeMember_11 rfl (lv_at hl 0 rfl) ?_
  exact rW_i C hJ hr rfl (⟨by rw [hI.sgm, hq], hU⟩) dX4_removeMember_12
set_option maxHeartbeats 4000000 in
set_option maxRecDepth 100000 in
theorem c_X4_serveFirst {l : Launch} {E : GE} (hE : Env0 E) {S : ST} {k n : Nat} {z : Nat → Int32} {mm : Nat → Nat → Int32} (hk : k < 6) (hI : LnIs (sL S) k n z mm) (hn0 : 0 < n) : MW l E yX4_serveFirst cX4_serveFirst 2 (some .int) 2 45 S [.ref (gA E (13 * k))] (fun v S1 => v = some (.int (mm 0 0)) ∧ Up S S1 k (n - 1) (upd (upd z 2 (nI (n - 1))) 6 (z 6 + 1)) (mrem mm 0)) := by
  refine MW.of hE (by decide) (Nat.le_of_ble_eq_true rfl) ?_
  intro p e s m below meth c ls C hJ hr hl
  have hx := C.x
  have hb := C.b
  have hl : lv_has ls 2 [(0, .ref (gA E (13 * k)))] := hl
  refine lv_aload_n hx hb dX4_serveFirst_0 rfl (lv_at hl 0 rfl) ?_
  refine lv_iconst (v := 0) hx hb dX4_serveFirst_1 (by decide) ?_
  refine cr_X4_41 C hJ hk (rest := []) (c_X4_memberAtI hE hk hI.1 (P := 0) hn0 rfl) dX4_serveFirst_2 hl.1 ⟨Nat.le_of_ble_eq_true rfl, Nat.le_of_ble_eq_true rfl⟩ ⟨Nat.le_refl _, Nat.le_refl _⟩ (Nat.le_of_ble_eq_true rfl) rfl rfl ?_
  refine g_X4_49 C hJ hk (Nat.lt_of_lt_of_le (hI.1.2.2.1 0 (by have := hI.1.1; omega)) (by omega)) dX4_serveFirst_5 ?_
  refine lv_istore_n (lv' := [(1, .int (mb (sL S) k (pm (sL S) k 0) 0)), (0, .ref (gA E (13 * k)))]) hx hb dX4_serveFirst_8 rfl hl (by decide) rfl (fun ls hl => ?_)
  refine lv_aload_n hx hb dX4_serveFirst_9 rfl (lv_at hl 1 rfl) ?_
  refine lv_iconst (v := 0) hx hb dX4_serveFirst_10 (by decide) ?_
  refine cw_X4_63 C hJ hk (rest := []) (c_X4_removeAtU hE hk hI 0 hn0 rfl) dX4_serveFirst_11 hl.1 ⟨Nat.le_of_ble_eq_true rfl, Nat.le_of_ble_eq_true rfl⟩ ⟨Nat.le_refl _, Nat.le_refl _⟩ (Nat.le_of_ble_eq_true rfl) rfl rfl (fun vr S_11 H locs hP hJ => ?_)
  obtain ⟨rfl, hU⟩ := hP
  refine lv_aload_n hx hb dX4_serveFirst_14 rfl (lv_at hl 1 rfl) ?_
  refine lv_dup hx hb dX4_serveFirst_15 rfl ?_
  refine g_X4_35 C hJ hk dX4_serveFirst_16 ?_
  refine lv_iconst (v := 1) hx hb dX4_serveFirst_19 (by decide) ?_
  refine lv_iadd hx hb dX4_serveFirst_20 ?_
  refine p_X4_35 C hJ hk dX4_serveFirst_21 (fun H locs hJ => ?_)
  obtain ⟨S_21, hS_21⟩ : ∃ z : ST, z = setL S_11 (lSc (sL S_11) k 6 ((sc (sL S_11) k 6) + 1)) := ⟨_, rfl⟩
  rw [← hS_21] at hJ
  have v6 : sc (sL S_11) k 6 = z 6 := (congrFun hU.2.2.2.1 6).trans (by simp [upd])
  rw [v6] at hS_21
  have hU := hU.sq hS_21 (OffL.osc _ _) (hU.2.2.ssc (by omega) (by omega) _)
  refine lv_iload_n hx hb dX4_serveFirst_24 rfl (lv_at hl 0 rfl) ?_
  exact rW_i C hJ hr rfl (⟨by rw [hI.2.2.1 0 hn0 0], hU⟩) dX4_serveFirst_25
set_option maxHeartbeats 4000000 in
set_option maxRecDepth 100000 in
theorem c_X4_copyFrom {l : Launch} {E : GE} (hE : Env0 E) {S : ST} {k n : Nat} {z : Nat → Int32} {mm : Nat → Nat → Int32} (hk : k < 6) (hI : LnIs (sL S) k n z mm) {k2 n2 : Nat} {z2 : Nat → Int32} {mm2 : Nat → Nat → Int32} (hk2 : k2 < 6) (hI2 : LnIs (sL S) k2 n2 z2 mm2) (hne : k2 ≠ k) : MW l E yX4_copyFrom cX4_copyFrom 3 (none : Option Jvm.ClassFile.FieldType) 1 22 S [.ref (gA E (13 * k)), .ref (gA E (13 * k2))] (fun v S1 => v = none ∧ Up S S1 k n2 z2 mm2) := by
  refine MW.of hE (by decide) (Nat.le_of_ble_eq_true rfl) ?_
  intro p e s m below meth c ls C hJ hr hl
  have hx := C.x
  have hb := C.b
  have hl : lv_has ls 3 [(0, .ref (gA E (13 * k))), (1, .ref (gA E (13 * k2)))] := hl
  refine lv_aload_n hx hb dX4_copyFrom_0 rfl (lv_at hl 0 rfl) ?_
  refine lv_aload_n hx hb dX4_copyFrom_1 rfl (lv_at hl 1 rfl) ?_
  refine g_X4_26 C hJ hk2 dX4_copyFrom_2 ?_
  refine p_X4_26 C hJ hk dX4_copyFrom_5 (fun H locs hJ => ?_)
  obtain ⟨S_5, hS_5⟩ : ∃ z : ST, z = setL S (lSc (sL S) k 2 (sc (sL S) k2 2)) := ⟨_, rfl⟩
  rw [← hS_5] at hJ
  have v2 : sc (sL S) k2 2 = z2 2 := (congrFun ((rfl) : sc (sL S) k2 = sc (sL S) k2) 2).trans (congrFun hI2.2.1 2)
  rw [v2] at hS_5
  rw [show z2 2 = nI n2 from (congrFun hI2.2.1 2).symm.trans hI2.1.2.1] at hS_5
  have hU := (Up.rf hI).sq hS_5 (OffL.osc _ _) (hI.cnt hI2.1.1)
  refine lv_aload_n hx hb dX4_copyFrom_8 rfl (lv_at hl 0 rfl) ?_
  refine lv_aload_n hx hb dX4_copyFrom_9 rfl (lv_at hl 1 rfl) ?_
  refine g_X4_22 C hJ hk2 dX4_copyFrom_10 ?_
  refine p_X4_22 C hJ hk dX4_copyFrom_13 (fun H locs hJ => ?_)
  obtain ⟨S_13, hS_13⟩ : ∃ z : ST, z = setL S_5 (lSc (sL S_5) k 3 (sc (sL S_5) k2 3)) := ⟨_, rfl⟩
  rw [← hS_13] at hJ
  have v3 : sc (sL S_5) k2 3 = z2 3 := (congrFun (((hU.2.1 k2 hne).1) : sc (sL S_5) k2 = sc (sL S) k2) 3).trans (congrFun hI2.2.1 3)
  rw [v3] at hS_13
  have hU := hU.sq hS_13 (OffL.osc _ _) (hU.2.2.ssc (by omega) (by omega) _)
  refine lv_aload_n hx hb dX4_copyFrom_16 rfl (lv_at hl 0 rfl) ?_
  refine lv_aload_n hx hb dX4_copyFrom_17 rfl (lv_at hl 1 rfl) ?_
  refine g_X4_29 C hJ hk2 dX4_copyFrom_18 ?_
  refine p_X4_29 C hJ hk dX4_copyFrom_21 (fun H locs hJ => ?_)
  obtain ⟨S_21, hS_21⟩ : ∃ z : ST, z = setL S_13 (lSc (sL S_13) k 4 (sc (sL S_13) k2 4)) := ⟨_, rfl⟩
  rw [← hS_21] at hJ
  have v4 : sc (sL S_13) k2 4 = z2 4 := (congrFun (((hU.2.1 k2 hne).1) : sc (sL S_13) k2 = sc (sL S) k2) 4).trans (congrFun hI2.2.1 4)
  rw [v4] at hS_21
  have hU := hU.sq hS_21 (OffL.osc _ _) (hU.2.2.ssc (by omega) (by omega) _)
  refine lv_aload_n hx hb dX4_copyFrom_24 rfl (lv_at hl 0 rfl) ?_
  refine lv_aload_n hx hb dX4_copyFrom_25 rfl (lv_at hl 1 rfl) ?_
  refine g_X4_32 C hJ hk2 dX4_copyFrom_26 ?_
  refine p_X4_32 C hJ hk dX4_copyFrom_29 (fun H locs hJ => ?_)
  obtain ⟨S_29, hS_29⟩ : ∃ z : ST, z = setL S_21 (lSc (sL S_21) k 5 (sc (sL S_21) k2 5)) := ⟨_, rfl⟩
  rw [← hS_29] at hJ
  have v5 : sc (sL S_21) k2 5 = z2 5 := (congrFun (((hU.2.1 k2 hne).1) : sc (sL S_21) k2 = sc (sL S) k2) 5).trans (congrFun hI2.2.1 5)
  rw [v5] at hS_29
  have hU := hU.sq hS_29 (OffL.osc _ _) (hU.2.2.ssc (by omega) (by omega) _)
  refine lv_aload_n hx hb dX4_copyFrom_32 rfl (lv_at hl 0 rfl) ?_
  refine lv_aload_n hx hb dX4_copyFrom_33 rfl (lv_at hl 1 rfl) ?_
  refine g_X4_35 C hJ hk2 dX4_copyFrom_34 ?_
  refine p_X4_35 C hJ hk dX4_copyFrom_37 (fun H locs hJ => ?_)
  obtain ⟨S_37, hS_37⟩ : ∃ z : ST, z = setL S_29 (lSc (sL S_29) k 6 (sc (sL S_29) k2 6)) := ⟨_, rfl⟩
  rw [← hS_37] at hJ
  have v6 : sc (sL S_29) k2 6 = z2 6 := (congrFun (((hU.2.1 k2 hne).1) : sc (sL S_29) k2 = sc (sL S) k2) 6).trans (congrFun hI2.2.1 6)
  rw [v6] at hS_37
  have hU := hU.sq hS_37 (OffL.osc _ _) (hU.2.2.ssc (by omega) (by omega) _)
  refine lv_aload_n hx hb dX4_copyFrom_40 rfl (lv_at hl 0 rfl) ?_
  refine lv_aload_n hx hb dX4_copyFrom_41 rfl (lv_at hl 1 rfl) ?_
  refine g_X4_38 C hJ hk2 dX4_copyFrom_42 ?_
  refine p_X4_38 C hJ hk dX4_copyFrom_45 (fun H locs hJ => ?_)
  obtain ⟨S_45, hS_45⟩ : ∃ z : ST, z = setL S_37 (lSc (sL S_37) k 7 (sc (sL S_37) k2 7)) := ⟨_, rfl⟩
  rw [← hS_45] at hJ
  have v7 : sc (sL S_37) k2 7 = z2 7 := (congrFun (((hU.2.1 k2 hne).1) : sc (sL S_37) k2 = sc (sL S) k2) 7).trans (congrFun hI2.2.1 7)
  rw [v7] at hS_45
  have hU := hU.sq hS_45 (OffL.osc _ _) (hU.2.2.ssc (by omega) (by omega) _)
  have hU := hU.cg (z' := z2) (fun i => cp_z hI hI2 i) (fun _ _ _ => rfl)
  refine lv_iconst (v := 0) hx hb dX4_copyFrom_48 (by decide) ?_
  refine lv_istore_n (lv' := [(2, .int 0), (0, .ref (gA E (13 * k))), (1, .ref (gA E (13 * k2)))]) hx hb dX4_copyFrom_49 rfl hl (by decide) rfl (fun ls hl => ?_)
  have lp : ∀ (d : Nat) (i : Nat) (T : ST) (mx : Nat → Nat → Int32) (H : Heap) (locs : List Loc) (ls : Array Slot), (i ≤ n2) → (n2 < i + d) → (Up S T k n2 z2 mx) → (∀ P, P < i → mx P = mm2 P) → JJ E T H locs → lv_has ls 3 [(0, .ref (gA E (13 * k))), (1, .ref (gA E (13 * k2))), (2, .int (nI i))] → W p l e (rmZ 1 22) s m ([.ref (gA E (13 * k)), .ref (gA E (13 * k2))] : List Value).toArray below meth c H locs 0 0 (WQ below ([.ref (gA E (13 * k)), .ref (gA E (13 * k2))] : List Value).toArray s E (fun v S1 => v = none ∧ Up S S1 k n2 z2 mm2)) (F0 m 50 ls []) := by
    intro d
    induction d with
    | zero =>
      intro i T mx H locs ls hi hd hU hE2 hJ hl
      omega
    | succ d ih_lp =>
      intro i T mx H locs ls hi hd hU hE2 hJ hl
      refine lv_iload_n hx hb dX4_copyFrom_50 rfl (lv_at hl 2 rfl) ?_
      refine lv_aload_n hx hb dX4_copyFrom_51 rfl (lv_at hl 0 rfl) ?_
      refine g_X4_26 C hJ hk dX4_copyFrom_52 ?_
      refine lv_icmp_ge (tgt := 77) hx hb dX4_copyFrom_55 (by decide) (fun c_55 => ?_) (fun c_55 => ?_)
      · skip
        have e9 := cT hU.2.2.1 hi c_55
        exact rW_v C hJ hr (⟨rfl, hU.cg (fun _ => rfl) (fun X hX q => by rw [hE2 X (by omega)])⟩) dX4_copyFrom_77
      · skip
        have hlt := cF hU.2.2.1 hi c_55
        refine lv_aload_n hx hb dX4_copyFrom_58 rfl (lv_at hl 0 rfl) ?_
        refine lv_iload_n hx hb dX4_copyFrom_59 rfl (lv_at hl 2 rfl) ?_
        refine cr_X4_41 C hJ hk (rest := []) (c_X4_memberAtI hE hk hU.2.2.1 (P := i) hlt rfl) dX4_copyFrom_60 hl.1 ⟨Nat.le_of_ble_eq_true rfl, Nat.le_of_ble_eq_true rfl⟩ ⟨Nat.le_refl _, Nat.le_refl _⟩ (Nat.le_of_ble_eq_true rfl) rfl rfl ?_
        refine lv_aload_n hx hb dX4_copyFrom_63 rfl (lv_at hl 1 rfl) ?_
        refine lv_iload_n hx hb dX4_copyFrom_64 rfl (lv_at hl 2 rfl) ?_
        refine cr_X4_41 C hJ hk2 (rest := [.ref (gA E (13 * k + 2 + (pm (sL T) k i)))]) (c_X4_memberAtI hE hk2 ((hI2.off hU.2.1 hne).1) (P := i) hlt rfl) dX4_copyFrom_65 hl.1 ⟨Nat.le_of_ble_eq_true rfl, Nat.le_of_ble_eq_true rfl⟩ ⟨Nat.le_refl _, Nat.le_refl _⟩ (Nat.le_of_ble_eq_true rfl) rfl rfl ?_
        refine cw_X4_45 C hJ hk (Nat.lt_of_lt_of_le (hU.2.2.1.2.2.1 i (by have := hU.2.2.1.1; omega)) (by omega)) (rest := []) (c_X5_copyFrom hE hk (Nat.lt_of_lt_of_le (hU.2.2.1.2.2.1 i (by have := hU.2.2.1.1; omega)) (by omega)) hk2 (Nat.lt_of_lt_of_le ((hI2.off hU.2.1 hne).1.2.2.1 i (by have := (hI2.off hU.2.1 hne).1.1; omega)) (by omega)) hne ((hI2.off hU.2.1 hne).1.2.2.2.2.2 _ (Nat.lt_of_lt_of_le ((hI2.off hU.2.1 hne).1.2.2.1 i (by have := (hI2.off hU.2.1 hne).1.1; omega)) (by omega)))) dX4_copyFrom_68 hl.1 ⟨Nat.le_of_ble_eq_true rfl, Nat.le_of_ble_eq_true rfl⟩ ⟨Nat.le_refl _, Nat.le_refl _⟩ (Nat.le_of_ble_eq_true rfl) rfl rfl (fun vr S_68 H locs hP hJ => ?_)
        obtain ⟨rfl, hS_68⟩ := hP
        have vP : mb (sL T) k2 (pm (sL T) k2 i) = mm2 i := funext ((hI2.off hU.2.1 hne).2.2.1 i hlt)
        rw [vP] at hS_68
        have b6 : mm2 i 6 = 0 ∨ mm2 i 6 = 1 := by rw [← hI2.2.2.1 i hlt 6]; exact hI2.1.2.2.2.2.2 _ (Nat.lt_of_lt_of_le (hI2.1.2.2.1 i (by have := hI2.1.1; omega)) (by omega))
        have hU := hU.sq hS_68 (OffL.oput _ _) (hU.2.2.put hlt b6 (fun q hq => by rw [← hI2.2.2.1 i hlt q]; exact hI2.2.2.2.2 _ q hq))
        have hE2 : ∀ P, P < i + 1 → (fun x => if x = i then mm2 i else mx x) P = mm2 P := fun P hP => by
          by_cases e : P = i
          · subst e; simp
          · simp only [e, if_false]; exact hE2 P (by omega)
        refine lv_iinc (v := nI (i + 1)) (lv' := [(2, .int (nI (i + 1))), (0, .ref (gA E (13 * k))), (1, .ref (gA E (13 * k2)))]) hx hb dX4_copyFrom_71 hl (k := 2) rfl (by exact nI_1 i) (by decide) rfl (fun ls hl => ?_)
        refine lv_goto (tgt := 50) hx hb dX4_copyFrom_74 (by decide) ?_
        exact ih_lp (i + 1) S_68 _ H locs _ (by omega) (by omega) hU hE2 hJ (lv_sub hl [1, 2, 0] rfl)
  exact lp (n2 + 1) 0 S_45 _ H locs _ (Nat.zero_le _) (by omega) hU (fun _ h => absurd h (by omega)) hJ (lv_sub hl [1, 2, 0] rfl)
