/-! LINE and MEMBER, methods that write (by program) -/
theorem c_X4_memberAtI {l : Launch} {E : GE} (hE : Env0 E) {S : ST} {k n : Nat} (hk : k < 6) (h : LnOk (sL S) k n) {P : Nat} (hP : P < n) {p : Int32} (e : p = nI P) : MR l E yX4_memberAt cX4_memberAt 3 (some (.object "ConsentQueue$Member")) 0 0 S [.ref (gA E (13 * k)), .int p] (some (.ref (gA E (13 * k + 2 + pm (sL S) k P)))) := by
  have h1 := c_X4_memberAt (l := l) hE hk h p
  rw [e] at h1 ⊢
  rw [ix_in h hP] at h1
  exact h1
theorem c_X4_memberAtE {l : Launch} {E : GE} (hE : Env0 E) {S : ST} {k n : Nat} (hk : k < 6) (h : LnOk (sL S) k n) {P : Nat} {p : Int32} (e : p = nI P) : MR l E yX4_memberAt cX4_memberAt 3 (some (.object "ConsentQueue$Member")) 0 0 S [.ref (gA E (13 * k)), .int p] (some (.ref (gA E (13 * k + 2 + ix (sL S) k (nI P))))) := by
  have h1 := c_X4_memberAt (l := l) hE hk h p
  rw [e] at h1 ⊢
  exact h1
theorem mswap_eq (mm : Nat → Nat → Int32) (P : Nat) (pr : Int32) (X q : Nat) : (fun x => if x = P + 2 then mlose ((fun x => if x = P + 1 then mlose ((fun x => if x = P then mlose (up2 (up2 (fun x => if x = P then mm (P + 1) else if x = P + 1 then mm P else mm x) P 4 (mm (P + 1) 4 - pr)) (P + 1) 4 (mm P 4 + pr) P) else up2 (up2 (fun x => if x = P then mm (P + 1) else if x = P + 1 then mm P else mm x) P 4 (mm (P + 1) 4 - pr)) (P + 1) 4 (mm P 4 + pr) x) (P + 1)) else (fun x => if x = P then mlose (up2 (up2 (fun x => if x = P then mm (P + 1) else if x = P + 1 then mm P else mm x) P 4 (mm (P + 1) 4 - pr)) (P + 1) 4 (mm P 4 + pr) P) else up2 (up2 (fun x => if x = P then mm (P + 1) else if x = P + 1 then mm P else mm x) P 4 (mm (P + 1) 4 - pr)) (P + 1) 4 (mm P 4 + pr) x) x) (P + 2)) else (fun x => if x = P + 1 then mlose ((fun x => if x = P then mlose (up2 (up2 (fun x => if x = P then mm (P + 1) else if x = P + 1 then mm P else mm x) P 4 (mm (P + 1) 4 - pr)) (P + 1) 4 (mm P 4 + pr) P) else up2 (up2 (fun x => if x = P then mm (P + 1) else if x = P + 1 then mm P else mm x) P 4 (mm (P + 1) 4 - pr)) (P + 1) 4 (mm P 4 + pr) x) (P + 1)) else (fun x => if x = P then mlose (up2 (up2 (fun x => if x = P then mm (P + 1) else if x = P + 1 then mm P else mm x) P 4 (mm (P + 1) 4 - pr)) (P + 1) 4 (mm P 4 + pr) P) else up2 (up2 (fun x => if x = P then mm (P + 1) else if x = P + 1 then mm P else mm x) P 4 (mm (P + 1) 4 - pr)) (P + 1) 4 (mm P 4 + pr) x) x) x) X q = mswap mm P pr X q := by
  unfold mswap mlose up2
  by_cases e0 : X = P
  · subst e0
    by_cases e5 : q = 5
    · subst e5; simp
    · by_cases e6 : q = 6
      · subst e6; simp
      · by_cases e4 : q = 4
        · subst e4; simp
        · simp [e5, e6, e4]
  · by_cases e1 : X = P + 1
    · subst e1
      by_cases e5 : q = 5
      · subst e5; simp
      · by_cases e6 : q = 6
        · subst e6; simp
        · by_cases e4 : q = 4
          · subst e4; simp
          · simp [e5, e6, e4]
    · by_cases e2 : X = P + 2
      · subst e2
        by_cases e5 : q = 5
        · subst e5; simp
        · by_cases e6 : q = 6
          · subst e6; simp
          · by_cases e4 : q = 4
            · subst e4; simp
            · simp [e5, e6, e4]
      · simp [e0, e1, e2]
set_option maxHeartbeats 4000000 in
set_option maxRecDepth 100000 in
theorem c_X5_loseOneAhead {l : Launch} {E : GE} (hE : Env0 E) {S : ST} {k j : Nat} (hk : k < 6) (hj : j < 11) : MW l E yX5_loseOneAhead cX5_loseOneAhead 1 (none : Option Jvm.ClassFile.FieldType) 0 0 S [.ref (gA E (13 * k + 2 + j))] (fun v S1 => v = none ∧ S1 = setL S (mLose (sL S) k j)) := by
  refine MW.of hE (by decide) (Nat.le_of_ble_eq_true rfl) ?_
  intro p e s m below meth c ls C hJ hr hl
  have hx := C.x
  have hb := C.b
  have hl : lv_has ls 1 [(0, .ref (gA E (13 * k + 2 + j)))] := hl
  refine lv_aload_n hx hb dX5_loseOneAhead_0 rfl (lv_at hl 0 rfl) ?_
  refine lv_iconst (v := (-1)) hx hb dX5_loseOneAhead_1 (by decide) ?_
  refine p_X5_15 C hJ hk hj dX5_loseOneAhead_2 (fun H locs hJ => ?_)
  obtain ⟨S_2, hS_2⟩ : ∃ z : ST, z = setL S (lMb (sL S) k j 5 (-1)) := ⟨_, rfl⟩
  rw [← hS_2] at hJ
  refine lv_aload_n hx hb dX5_loseOneAhead_5 rfl (lv_at hl 0 rfl) ?_
  refine lv_iconst (v := 0) hx hb dX5_loseOneAhead_6 (by decide) ?_
  refine p_X5_30 C hJ hk hj (Or.inl rfl) dX5_loseOneAhead_7 (fun H locs hJ => ?_)
  obtain ⟨S_7, hS_7⟩ : ∃ z : ST, z = setL S_2 (lMb (sL S_2) k j 6 0) := ⟨_, rfl⟩
  rw [← hS_7] at hJ
  exact rW_v C hJ hr (⟨rfl, by rw [hS_7, hS_2]; rfl⟩) dX5_loseOneAhead_10
set_option maxHeartbeats 4000000 in
set_option maxRecDepth 100000 in
theorem c_X5_begin {l : Launch} {E : GE} (hE : Env0 E) {S : ST} {k j : Nat} (hk : k < 6) (hj : j < 11) (a b d : Int32) : MW l E yX5_begin cX5_begin 4 (none : Option Jvm.ClassFile.FieldType) 1 20 S [.ref (gA E (13 * k + 2 + j)), .int a, .int b, .int d] (fun v S1 => v = none ∧ S1 = setL S (mPut (sL S) k j (mfresh a b d))) := by
  refine MW.of hE (by decide) (Nat.le_of_ble_eq_true rfl) ?_
  intro p e s m below meth c ls C hJ hr hl
  have hx := C.x
  have hb := C.b
  have hl : lv_has ls 4 [(0, .ref (gA E (13 * k + 2 + j))), (1, .int a), (2, .int b), (3, .int d)] := hl
  refine lv_aload_n hx hb dX5_begin_0 rfl (lv_at hl 0 rfl) ?_
  refine lv_iload_n hx hb dX5_begin_1 rfl (lv_at hl 1 rfl) ?_
  refine p_X5_9 C hJ hk hj dX5_begin_2 (fun H locs hJ => ?_)
  obtain ⟨S_2, hS_2⟩ : ∃ z : ST, z = setL S (lMb (sL S) k j 0 a) := ⟨_, rfl⟩
  rw [← hS_2] at hJ
  refine lv_aload_n hx hb dX5_begin_5 rfl (lv_at hl 0 rfl) ?_
  refine lv_iload_n hx hb dX5_begin_6 rfl (lv_at hl 2 rfl) ?_
  refine p_X5_18 C hJ hk hj dX5_begin_7 (fun H locs hJ => ?_)
  obtain ⟨S_7, hS_7⟩ : ∃ z : ST, z = setL S_2 (lMb (sL S_2) k j 1 b) := ⟨_, rfl⟩
  rw [← hS_7] at hJ
  refine lv_aload_n hx hb dX5_begin_10 rfl (lv_at hl 0 rfl) ?_
  refine lv_iload_n hx hb dX5_begin_11 rfl (lv_at hl 2 rfl) ?_
  refine p_X5_21 C hJ hk hj dX5_begin_12 (fun H locs hJ => ?_)
  obtain ⟨S_12, hS_12⟩ : ∃ z : ST, z = setL S_7 (lMb (sL S_7) k j 2 b) := ⟨_, rfl⟩
  rw [← hS_12] at hJ
  refine lv_aload_n hx hb dX5_begin_15 rfl (lv_at hl 0 rfl) ?_
  refine lv_iload_n hx hb dX5_begin_16 rfl (lv_at hl 3 rfl) ?_
  refine p_X5_24 C hJ hk hj dX5_begin_17 (fun H locs hJ => ?_)
  obtain ⟨S_17, hS_17⟩ : ∃ z : ST, z = setL S_12 (lMb (sL S_12) k j 3 d) := ⟨_, rfl⟩
  rw [← hS_17] at hJ
  refine lv_aload_n hx hb dX5_begin_20 rfl (lv_at hl 0 rfl) ?_
  refine lv_iconst (v := 0) hx hb dX5_begin_21 (by decide) ?_
  refine p_X5_27 C hJ hk hj dX5_begin_22 (fun H locs hJ => ?_)
  obtain ⟨S_22, hS_22⟩ : ∃ z : ST, z = setL S_17 (lMb (sL S_17) k j 4 0) := ⟨_, rfl⟩
  rw [← hS_22] at hJ
  refine lv_aload_n hx hb dX5_begin_25 rfl (lv_at hl 0 rfl) ?_
  refine cw_X5_34 C hJ hk hj (rest := []) (c_X5_loseOneAhead hE hk hj) dX5_begin_26 hl.1 ⟨Nat.le_of_ble_eq_true rfl, Nat.le_of_ble_eq_true rfl⟩ ⟨Nat.le_refl _, Nat.le_refl _⟩ (Nat.le_of_ble_eq_true rfl) rfl rfl (fun vr S_26 H locs hP hJ => ?_)
  obtain ⟨rfl, hS_26⟩ := hP
  exact rW_v C hJ hr (⟨rfl, by rw [hS_26, hS_22, hS_17, hS_12, hS_7, hS_2]; exact congrArg (setL S) (put7 (sL S) k j (mfresh a b d))⟩) dX5_begin_29
set_option maxHeartbeats 4000000 in
set_option maxRecDepth 100000 in
theorem c_X5_copyFrom {l : Launch} {E : GE} (hE : Env0 E) {S : ST} {k j k2 j2 : Nat} (hk : k < 6) (hj : j < 11) (hk2 : k2 < 6) (hj2 : j2 < 11) (hne : k2 ≠ k) (hb6 : mb (sL S) k2 j2 6 = 0 ∨ mb (sL S) k2 j2 6 = 1) : MW l E yX5_copyFrom cX5_copyFrom 2 (none : Option Jvm.ClassFile.FieldType) 0 0 S [.ref (gA E (13 * k + 2 + j)), .ref (gA E (13 * k2 + 2 + j2))] (fun v S1 => v = none ∧ S1 = setL S (mPut (sL S) k j (mb (sL S) k2 j2))) := by
  refine MW.of hE (by decide) (Nat.le_of_ble_eq_true rfl) ?_
  intro p e s m below meth c ls C hJ hr hl
  have hx := C.x
  have hb := C.b
  have hl : lv_has ls 2 [(0, .ref (gA E (13 * k + 2 + j))), (1, .ref (gA E (13 * k2 + 2 + j2)))] := hl
  refine lv_aload_n hx hb dX5_copyFrom_0 rfl (lv_at hl 0 rfl) ?_
  refine lv_aload_n hx hb dX5_copyFrom_1 rfl (lv_at hl 1 rfl) ?_
  refine g_X5_9 C hJ hk2 hj2 dX5_copyFrom_2 ?_
  refine p_X5_9 C hJ hk hj dX5_copyFrom_5 (fun H locs hJ => ?_)
  obtain ⟨S_5, hS_5⟩ : ∃ z : ST, z = setL S (lMb (sL S) k j 0 (mb (sL S) k2 j2 0)) := ⟨_, rfl⟩
  rw [← hS_5] at hJ
  have e_5 : ∀ i, mb (sL S_5) k2 j2 i = mb (sL S) k2 j2 i := fun i => by
    rw [hS_5]; exact if_neg (fun q => hne q.1)
  refine lv_aload_n hx hb dX5_copyFrom_8 rfl (lv_at hl 0 rfl) ?_
  refine lv_aload_n hx hb dX5_copyFrom_9 rfl (lv_at hl 1 rfl) ?_
  refine g_X5_18 C hJ hk2 hj2 dX5_copyFrom_10 ?_
  refine p_X5_18 C hJ hk hj dX5_copyFrom_13 (fun H locs hJ => ?_)
  obtain ⟨S_13, hS_13⟩ : ∃ z : ST, z = setL S_5 (lMb (sL S_5) k j 1 (mb (sL S_5) k2 j2 1)) := ⟨_, rfl⟩
  rw [← hS_13] at hJ
  rw [e_5] at hS_13
  have e_13 : ∀ i, mb (sL S_13) k2 j2 i = mb (sL S) k2 j2 i := fun i => by
    rw [hS_13]; exact (if_neg (fun q => hne q.1)).trans (e_5 i)
  refine lv_aload_n hx hb dX5_copyFrom_16 rfl (lv_at hl 0 rfl) ?_
  refine lv_aload_n hx hb dX5_copyFrom_17 rfl (lv_at hl 1 rfl) ?_
  refine g_X5_21 C hJ hk2 hj2 dX5_copyFrom_18 ?_
  refine p_X5_21 C hJ hk hj dX5_copyFrom_21 (fun H locs hJ => ?_)
  obtain ⟨S_21, hS_21⟩ : ∃ z : ST, z = setL S_13 (lMb (sL S_13) k j 2 (mb (sL S_13) k2 j2 2)) := ⟨_, rfl⟩
  rw [← hS_21] at hJ
  rw [e_13] at hS_21
  have e_21 : ∀ i, mb (sL S_21) k2 j2 i = mb (sL S) k2 j2 i := fun i => by
    rw [hS_21]; exact (if_neg (fun q => hne q.1)).trans (e_13 i)
  refine lv_aload_n hx hb dX5_copyFrom_24 rfl (lv_at hl 0 rfl) ?_
  refine lv_aload_n hx hb dX5_copyFrom_25 rfl (lv_at hl 1 rfl) ?_
  refine g_X5_24 C hJ hk2 hj2 dX5_copyFrom_26 ?_
  refine p_X5_24 C hJ hk hj dX5_copyFrom_29 (fun H locs hJ => ?_)
  obtain ⟨S_29, hS_29⟩ : ∃ z : ST, z = setL S_21 (lMb (sL S_21) k j 3 (mb (sL S_21) k2 j2 3)) := ⟨_, rfl⟩
  rw [← hS_29] at hJ
  rw [e_21] at hS_29
  have e_29 : ∀ i, mb (sL S_29) k2 j2 i = mb (sL S) k2 j2 i := fun i => by
    rw [hS_29]; exact (if_neg (fun q => hne q.1)).trans (e_21 i)
  refine lv_aload_n hx hb dX5_copyFrom_32 rfl (lv_at hl 0 rfl) ?_
  refine lv_aload_n hx hb dX5_copyFrom_33 rfl (lv_at hl 1 rfl) ?_
  refine g_X5_27 C hJ hk2 hj2 dX5_copyFrom_34 ?_
  refine p_X5_27 C hJ hk hj dX5_copyFrom_37 (fun H locs hJ => ?_)
  obtain ⟨S_37, hS_37⟩ : ∃ z : ST, z = setL S_29 (lMb (sL S_29) k j 4 (mb (sL S_29) k2 j2 4)) := ⟨_, rfl⟩
  rw [← hS_37] at hJ
  rw [e_29] at hS_37
  have e_37 : ∀ i, mb (sL S_37) k2 j2 i = mb (sL S) k2 j2 i := fun i => by
    rw [hS_37]; exact (if_neg (fun q => hne q.1)).trans (e_29 i)
  refine lv_aload_n hx hb dX5_copyFrom_40 rfl (lv_at hl 0 rfl) ?_
  refine lv_aload_n hx hb dX5_copyFrom_41 rfl (lv_at hl 1 rfl) ?_
  refine g_X5_15 C hJ hk2 hj2 dX5_copyFrom_42 ?_
  refine p_X5_15 C hJ hk hj dX5_copyFrom_45 (fun H locs hJ => ?_)
  obtain ⟨S_45, hS_45⟩ : ∃ z : ST, z = setL S_37 (lMb (sL S_37) k j 5 (mb (sL S_37) k2 j2 5)) := ⟨_, rfl⟩
  rw [← hS_45] at hJ
  rw [e_37] at hS_45
  have e_45 : ∀ i, mb (sL S_45) k2 j2 i = mb (sL S) k2 j2 i := fun i => by
    rw [hS_45]; exact (if_neg (fun q => hne q.1)).trans (e_37 i)
  refine lv_aload_n hx hb dX5_copyFrom_48 rfl (lv_at hl 0 rfl) ?_
  refine lv_aload_n hx hb dX5_copyFrom_49 rfl (lv_at hl 1 rfl) ?_
  refine g_X5_30 C hJ hk2 hj2 dX5_copyFrom_50 ?_
  refine p_X5_30 C hJ hk hj (by rw [e_45]; exact hb6) dX5_copyFrom_53 (fun H locs hJ => ?_)
  obtain ⟨S_53, hS_53⟩ : ∃ z : ST, z = setL S_45 (lMb (sL S_45) k j 6 (mb (sL S_45) k2 j2 6)) := ⟨_, rfl⟩
  rw [← hS_53] at hJ
  rw [e_45] at hS_53
  have e_53 : ∀ i, mb (sL S_53) k2 j2 i = mb (sL S) k2 j2 i := fun i => by
    rw [hS_53]; exact (if_neg (fun q => hne q.1)).trans (e_45 i)
  exact rW_v C hJ hr (⟨rfl, by rw [hS_53, hS_45, hS_37, hS_29, hS_21, hS_13, hS_5]; exact congrArg (setL S) (put7 (sL S) k j (mb (sL S) k2 j2))⟩) dX5_copyFrom_56
set_option maxHeartbeats 4000000 in
set_option maxRecDepth 100000 in
theorem c_X4_tell {l : Launch} {E : GE} (hE : Env0 E) {S : ST} {k n : Nat} {z : Nat → Int32} {mm : Nat → Nat → Int32} (hk : k < 6) (hI : LnIs (sL S) k n z mm) (P : Nat) (hP0 : P < n) (w : Int32) : MW l E yX4_tell cX4_tell 5 (some .int) 1 22 S [.ref (gA E (13 * k)), .int (nI P), .int w] (fun v S1 => v = some (.int (mm P 2)) ∧ Up S S1 k n z (up2 mm P 2 w)) := by
  refine MW.of hE (by decide) (Nat.le_of_ble_eq_true rfl) ?_
  intro p e s m below meth c ls C hJ hr hl
  have hx := C.x
  have hb := C.b
  have hl : lv_has ls 5 [(0, .ref (gA E (13 * k))), (1, .int (nI P)), (2, .int w)] := hl
  refine lv_aload_n hx hb dX4_tell_0 rfl (lv_at hl 0 rfl) ?_
  refine lv_iload_n hx hb dX4_tell_1 rfl (lv_at hl 1 rfl) ?_
  refine cr_X4_41 C hJ hk (rest := []) (c_X4_memberAtI hE hk hI.1 (P := P) hP0 rfl) dX4_tell_2 hl.1 ⟨Nat.le_of_ble_eq_true rfl, Nat.le_of_ble_eq_true rfl⟩ ⟨Nat.le_refl _, Nat.le_refl _⟩ (Nat.le_of_ble_eq_true rfl) rfl rfl ?_
  refine lv_astore_n (lv' := [(3, .ref (gA E (13 * k + 2 + (pm (sL S) k P)))), (0, .ref (gA E (13 * k))), (1, .int (nI P)), (2, .int w)]) hx hb dX4_tell_5 rfl hl (by decide) rfl (fun ls hl => ?_)
  refine lv_aload_n hx hb dX4_tell_6 rfl (lv_at hl 0 rfl) ?_
  refine g_X4_67 C hJ hk (Nat.lt_of_lt_of_le (hI.1.2.2.1 P (by have := hI.1.1; omega)) (by omega)) dX4_tell_7 ?_
  refine lv_istore (lv' := [(4, .int (mb (sL S) k (pm (sL S) k P) 2)), (3, .ref (gA E (13 * k + 2 + (pm (sL S) k P)))), (0, .ref (gA E (13 * k))), (1, .int (nI P)), (2, .int w)]) hx hb dX4_tell_10 hl (by decide) rfl (fun ls hl => ?_)
  refine lv_aload_n hx hb dX4_tell_12 rfl (lv_at hl 1 rfl) ?_
  refine lv_iload_n hx hb dX4_tell_13 rfl (lv_at hl 4 rfl) ?_
  refine p_X4_67 C hJ hk (Nat.lt_of_lt_of_le (hI.1.2.2.1 P (by have := hI.1.1; omega)) (by omega)) dX4_tell_14 (fun H locs hJ => ?_)
  obtain ⟨S_14, hS_14⟩ : ∃ z : ST, z = setL S (lMb (sL S) k (pm (sL S) k P) 2 w) := ⟨_, rfl⟩
  rw [← hS_14] at hJ
  refine lv_iload hx hb dX4_tell_17 (lv_at hl 0 rfl) ?_
  exact rW_i C hJ hr rfl (⟨by rw [hI.2.2.1 P hP0 2], by rw [hS_14]; exact (Up.rf hI).st (OffL.omb _ _ _) (hI.smb hP0 (by omega) (by omega))⟩) dX4_tell_19
set_option maxHeartbeats 4000000 in
set_option maxRecDepth 100000 in
theorem c_X4_makeOffer {l : Launch} {E : GE} (hE : Env0 E) {S : ST} {k n : Nat} {z : Nat → Int32} {mm : Nat → Nat → Int32} (hk : k < 6) (hI : LnIs (sL S) k n z mm) (P : Nat) (hP0 : P < n) (w : Int32) : MW l E yX4_makeOffer cX4_makeOffer 5 (some .int) 1 22 S [.ref (gA E (13 * k)), .int (nI P), .int w] (fun v S1 => v = some (.int (mm P 5)) ∧ Up S S1 k n z (up2 mm P 5 w)) := by
  refine MW.of hE (by decide) (Nat.le_of_ble_eq_true rfl) ?_
  intro p e s m below meth c ls C hJ hr hl
  have hx := C.x
  have hb := C.b
  have hl : lv_has ls 5 [(0, .ref (gA E (13 * k))), (1, .int (nI P)), (2, .int w)] := hl
  refine lv_aload_n hx hb dX4_makeOffer_0 rfl (lv_at hl 0 rfl) ?_
  refine lv_iload_n hx hb dX4_makeOffer_1 rfl (lv_at hl 1 rfl) ?_
  refine cr_X4_41 C hJ hk (rest := []) (c_X4_memberAtI hE hk hI.1 (P := P) hP0 rfl) dX4_makeOffer_2 hl.1 ⟨Nat.le_of_ble_eq_true rfl, Nat.le_of_ble_eq_true rfl⟩ ⟨Nat.le_refl _, Nat.le_refl _⟩ (Nat.le_of_ble_eq_true rfl) rfl rfl ?_
  refine lv_astore_n (lv' := [(3, .ref (gA E (13 * k + 2 + (pm (sL S) k P)))), (0, .ref (gA E (13 * k))), (1, .int (nI P)), (2, .int w)]) hx hb dX4_makeOffer_5 rfl hl (by decide) rfl (fun ls hl => ?_)
  refine lv_aload_n hx hb dX4_makeOffer_6 rfl (lv_at hl 0 rfl) ?_
  refine g_X4_73 C hJ hk (Nat.lt_of_lt_of_le (hI.1.2.2.1 P (by have := hI.1.1; omega)) (by omega)) dX4_makeOffer_7 ?_
  refine lv_istore (lv' := [(4, .int (mb (sL S) k (pm (sL S) k P) 5)), (3, .ref (gA E (13 * k + 2 + (pm (sL S) k P)))), (0, .ref (gA E (13 * k))), (1, .int (nI P)), (2, .int w)]) hx hb dX4_makeOffer_10 hl (by decide) rfl (fun ls hl => ?_)
  refine lv_aload_n hx hb dX4_makeOffer_12 rfl (lv_at hl 1 rfl) ?_
  refine lv_iload_n hx hb dX4_makeOffer_13 rfl (lv_at hl 4 rfl) ?_
  refine p_X4_73 C hJ hk (Nat.lt_of_lt_of_le (hI.1.2.2.1 P (by have := hI.1.1; omega)) (by omega)) dX4_makeOffer_14 (fun H locs hJ => ?_)
  obtain ⟨S_14, hS_14⟩ : ∃ z : ST, z = setL S (lMb (sL S) k (pm (sL S) k P) 5 w) := ⟨_, rfl⟩
  rw [← hS_14] at hJ
  refine lv_iload hx hb dX4_makeOffer_17 (lv_at hl 0 rfl) ?_
  exact rW_i C hJ hr rfl (⟨by rw [hI.2.2.1 P hP0 5], by rw [hS_14]; exact (Up.rf hI).st (OffL.omb _ _ _) (hI.smb hP0 (by omega) (by omega))⟩) dX4_makeOffer_19
set_option maxHeartbeats 4000000 in
set_option maxRecDepth 100000 in
theorem c_X4_setFriends {l : Launch} {E : GE} (hE : Env0 E) {S : ST} {k n : Nat} {z : Nat → Int32} {mm : Nat → Nat → Int32} (hk : k < 6) (hI : LnIs (sL S) k n z mm) (P : Nat) (hP0 : P + 1 < n) (w : Int32) (hw : w = 0 ∨ w = 1) : MW l E yX4_setFriends cX4_setFriends 3 (some .int) 3 65 S [.ref (gA E (13 * k)), .int (nI P), .int w] (fun v S1 => v = some (.int (f_frs (gof n (up2 mm (P + 1) 6 w)) n)) ∧ Up S S1 k n z (up2 mm (P + 1) 6 w)) := by
  refine MW.of hE (by decide) (Nat.le_of_ble_eq_true rfl) ?_
  intro p e s m below meth c ls C hJ hr hl
  have hx := C.x
  have hb := C.b
  have hl : lv_has ls 3 [(0, .ref (gA E (13 * k))), (1, .int (nI P)), (2, .int w)] := hl
  refine lv_aload_n hx hb dX4_setFriends_0 rfl (lv_at hl 0 rfl) ?_
  refine lv_iload_n hx hb dX4_setFriends_1 rfl (lv_at hl 1 rfl) ?_
  refine lv_iconst (v := 1) hx hb dX4_setFriends_2 (by decide) ?_
  refine lv_iadd hx hb dX4_setFriends_3 ?_
  refine cr_X4_41 C hJ hk (rest := []) (c_X4_memberAtI hE hk hI.1 (P := P + 1) hP0 (nI_1 P)) dX4_setFriends_4 hl.1 ⟨Nat.le_of_ble_eq_true rfl, Nat.le_of_ble_eq_true rfl⟩ ⟨Nat.le_refl _, Nat.le_refl _⟩ (Nat.le_of_ble_eq_true rfl) rfl rfl ?_
  refine lv_iload_n hx hb dX4_setFriends_7 rfl (lv_at hl 2 rfl) ?_
  refine p_X4_76 C hJ hk (Nat.lt_of_lt_of_le (hI.1.2.2.1 (P + 1) (by have := hI.1.1; omega)) (by omega)) hw dX4_setFriends_8 (fun H locs hJ => ?_)
  obtain ⟨S_8, hS_8⟩ : ∃ z : ST, z = setL S (lMb (sL S) k (pm (sL S) k (P + 1)) 6 w) := ⟨_, rfl⟩
  rw [← hS_8] at hJ
  have hU : Up S S_8 k n z (up2 mm (P + 1) 6 w) := by rw [hS_8]; exact (Up.rf hI).st (OffL.omb _ _ _) (hI.smb hP0 (by omega) (fun _ => hw))
  refine lv_aload_n hx hb dX4_setFriends_11 rfl (lv_at hl 0 rfl) ?_
  refine cr_X4_80 C hJ hk (rest := []) (c_X4_friendPairs hE hk hU.2.2.1) dX4_setFriends_12 hl.1 ⟨Nat.le_of_ble_eq_true rfl, Nat.le_of_ble_eq_true rfl⟩ ⟨Nat.le_refl _, Nat.le_refl _⟩ (Nat.le_of_ble_eq_true rfl) rfl rfl ?_
  exact rW_i C hJ hr rfl (⟨by rw [hU.2.2.sgm], hU⟩) dX4_setFriends_15
set_option maxHeartbeats 4000000 in
set_option maxRecDepth 100000 in
theorem c_X4_tellTruth {l : Launch} {E : GE} (hE : Env0 E) {S : ST} {k n : Nat} {z : Nat → Int32} {mm : Nat → Nat → Int32} (hk : k < 6) (hI : LnIs (sL S) k n z mm) : MW l E yX4_tellTruth cX4_tellTruth 2 (none : Option Jvm.ClassFile.FieldType) 1 22 S [.ref (gA E (13 * k))] (fun v S1 => v = none ∧ Up S S1 k n z (mtruth mm)) := by
  refine MW.of hE (by decide) (Nat.le_of_ble_eq_true rfl) ?_
  intro p e s m below meth c ls C hJ hr hl
  have hx := C.x
  have hb := C.b
  have hl : lv_has ls 2 [(0, .ref (gA E (13 * k)))] := hl
  refine lv_iconst (v := 0) hx hb dX4_tellTruth_0 (by decide) ?_
  refine lv_istore_n (lv' := [(1, .int 0), (0, .ref (gA E (13 * k)))]) hx hb dX4_tellTruth_1 rfl hl (by decide) rfl (fun ls hl => ?_)
  have lp : ∀ (d : Nat) (i : Nat) (T : ST) (H : Heap) (locs : List Loc) (ls : Array Slot), (i ≤ n) → (n < i + d) → (Up S T k n z (fun x q => if x < i ∧ q = 2 then mm x 1 else mm x q)) → JJ E T H locs → lv_has ls 2 [(0, .ref (gA E (13 * k))), (1, .int (nI i))] → W p l e (rmZ 1 22) s m ([.ref (gA E (13 * k))] : List Value).toArray below meth c H locs 0 0 (WQ below ([.ref (gA E (13 * k))] : List Value).toArray s E (fun v S1 => v = none ∧ Up S S1 k n z (mtruth mm))) (F0 m 2 ls []) := by
    intro d
    induction d with
    | zero =>
      intro i T H locs ls hi hd hU hJ hl
      omega
    | succ d ih_lp =>
      intro i T H locs ls hi hd hU hJ hl
      refine lv_iload_n hx hb dX4_tellTruth_2 rfl (lv_at hl 1 rfl) ?_
      refine lv_aload_n hx hb dX4_tellTruth_3 rfl (lv_at hl 0 rfl) ?_
      refine g_X4_26 C hJ hk dX4_tellTruth_4 ?_
      refine lv_icmp_ge (tgt := 32) hx hb dX4_tellTruth_7 (by decide) (fun c_7 => ?_) (fun c_7 => ?_)
      · skip
        have e9 := cT hU.2.2.1 hi c_7
        exact rW_v C hJ hr (⟨rfl, hU.cg (fun _ => rfl) (fun X hX q => by unfold mtruth; subst e9; simp [hX])⟩) dX4_tellTruth_32
      · skip
        have hlt := cF hU.2.2.1 hi c_7
        refine lv_aload_n hx hb dX4_tellTruth_10 rfl (lv_at hl 0 rfl) ?_
        refine lv_iload_n hx hb dX4_tellTruth_11 rfl (lv_at hl 1 rfl) ?_
        refine cr_X4_41 C hJ hk (rest := []) (c_X4_memberAtI hE hk hU.2.2.1 (P := i) hlt rfl) dX4_tellTruth_12 hl.1 ⟨Nat.le_of_ble_eq_true rfl, Nat.le_of_ble_eq_true rfl⟩ ⟨Nat.le_refl _, Nat.le_refl _⟩ (Nat.le_of_ble_eq_true rfl) rfl rfl ?_
        refine lv_aload_n hx hb dX4_tellTruth_15 rfl (lv_at hl 0 rfl) ?_
        refine lv_iload_n hx hb dX4_tellTruth_16 rfl (lv_at hl 1 rfl) ?_
        refine cr_X4_41 C hJ hk (rest := [.ref (gA E (13 * k + 2 + (pm (sL T) k i)))]) (c_X4_memberAtI hE hk hU.2.2.1 (P := i) hlt rfl) dX4_tellTruth_17 hl.1 ⟨Nat.le_of_ble_eq_true rfl, Nat.le_of_ble_eq_true rfl⟩ ⟨Nat.le_refl _, Nat.le_refl _⟩ (Nat.le_of_ble_eq_true rfl) rfl rfl ?_
        refine g_X4_70 C hJ hk (Nat.lt_of_lt_of_le (hU.2.2.1.2.2.1 i (by have := hU.2.2.1.1; omega)) (by omega)) dX4_tellTruth_20 ?_
        refine p_X4_67 C hJ hk (Nat.lt_of_lt_of_le (hU.2.2.1.2.2.1 i (by have := hU.2.2.1.1; omega)) (by omega)) dX4_tellTruth_23 (fun H locs hJ => ?_)
        obtain ⟨S_23, hS_23⟩ : ∃ z : ST, z = setL T (lMb (sL T) k (pm (sL T) k i) 2 (mb (sL T) k (pm (sL T) k i) 1)) := ⟨_, rfl⟩
        rw [← hS_23] at hJ
        have hv : mb (sL T) k (pm (sL T) k i) 1 = mm i 1 := (hU.2.2.2.2.1 i hlt 1).trans (by simp)
        rw [hv] at hS_23
        have hU : Up S S_23 k n z (fun x q => if x < i + 1 ∧ q = 2 then mm x 1 else mm x q) := by
          rw [hS_23]
          refine (hU.st (OffL.omb _ _ _) (hU.2.2.smb hlt (by omega) (by omega))).cg (fun _ => rfl) (fun X hX q => ?_)
          unfold up2
          by_cases e : X = i ∧ q = 2
          · obtain ⟨rfl, rfl⟩ := e; simp
          · rw [if_neg e]
            show (if X < i ∧ q = 2 then mm X 1 else mm X q) = _
            by_cases e2 : X < i ∧ q = 2
            · rw [if_pos e2, if_pos ⟨by omega, e2.2⟩]
            · rw [if_neg e2, if_neg (fun y => by omega)]
        refine lv_iinc (v := nI (i + 1)) (lv' := [(1, .int (nI (i + 1))), (0, .ref (gA E (13 * k)))]) hx hb dX4_tellTruth_26 hl (k := 1) rfl (by exact nI_1 i) (by decide) rfl (fun ls hl => ?_)
        refine lv_goto (tgt := 2) hx hb dX4_tellTruth_29 (by decide) ?_
        exact ih_lp (i + 1) S_23 H locs _ (by omega) (by omega) hU hJ (lv_sub hl [1, 0] rfl)
  exact lp (n + 1) 0 S s.heap [] _ (Nat.zero_le _) (by omega) ((Up.rf hI).cg (fun _ => rfl) (fun _ _ _ => by simp)) hJ (lv_sub hl [1, 0] rfl)
set_option maxHeartbeats 4000000 in
set_option maxRecDepth 100000 in
theorem c_X4_swapAt {l : Launch} {E : GE} (hE : Env0 E) {S : ST} {k n : Nat} {z : Nat → Int32} {mm : Nat → Nat → Int32} (hk : k < 6) (hI : LnIs (sL S) k n z mm) (P : Nat) (hP0 : P + 1 < n) (pr : Int32) : MW l E yX4_swapAt cX4_swapAt 5 (some .int) 1 22 S [.ref (gA E (13 * k)), .int (nI P), .int pr] (fun v S1 => v = some (.int pr) ∧ Up S S1 k n (upd (upd z 4 (z 4 + 1)) 5 (z 5 + pr)) (mswap mm P pr)) := by
  have hn10 := hI.1.1
  refine MW.of hE (by decide) (Nat.le_of_ble_eq_true rfl) ?_
  intro p e s m below meth c ls C hJ hr hl
  have hx := C.x
  have hb := C.b
  have hl : lv_has ls 5 [(0, .ref (gA E (13 * k))), (1, .int (nI P)), (2, .int pr)] := hl
  refine lv_iload_n hx hb dX4_swapAt_0 rfl (lv_at hl 1 rfl) ?_
  refine lv_if_lt (tgt := 26) hx hb dX4_swapAt_1 (by decide) (fun c_1 => ?_) (fun c_1 => ?_)
  · skip
    exact absurd c_1 (nI_pos (by omega))
  · skip
    refine lv_iload_n hx hb dX4_swapAt_4 rfl (lv_at hl 1 rfl) ?_
    refine lv_aload_n hx hb dX4_swapAt_5 rfl (lv_at hl 0 rfl) ?_
    refine g_X4_26 C hJ hk dX4_swapAt_6 ?_
    refine lv_iconst (v := 1) hx hb dX4_swapAt_9 (by decide) ?_
    refine lv_isub hx hb dX4_swapAt_10 ?_
    refine lv_icmp_ge (tgt := 26) hx hb dX4_swapAt_11 (by decide) (fun c_11 => ?_) (fun c_11 => ?_)
    · skip
      exact absurd (cT1 hI.1 (by omega) c_11) (by omega)
    · skip
      refine lv_aload_n hx hb dX4_swapAt_14 rfl (lv_at hl 0 rfl) ?_
      refine g_X4_26 C hJ hk dX4_swapAt_15 ?_
      refine lv_aload_n hx hb dX4_swapAt_18 rfl (lv_at hl 0 rfl) ?_
      refine g_X4_11 C hJ hk dX4_swapAt_19 ?_
      refine al_ar C hJ hk dX4_swapAt_22 ?_
      refine lv_icmp_le (tgt := 28) hx hb dX4_swapAt_23 (by decide) (fun c_23 => ?_) (fun c_23 => ?_)
      · skip
        refine lv_aload_n hx hb dX4_swapAt_28 rfl (lv_at hl 0 rfl) ?_
        refine lv_iload_n hx hb dX4_swapAt_29 rfl (lv_at hl 1 rfl) ?_
        refine cr_X4_41 C hJ hk (rest := []) (c_X4_memberAtI hE hk hI.1 (P := P) (by omega) rfl) dX4_swapAt_30 hl.1 ⟨Nat.le_of_ble_eq_true rfl, Nat.le_of_ble_eq_true rfl⟩ ⟨Nat.le_refl _, Nat.le_refl _⟩ (Nat.le_of_ble_eq_true rfl) rfl rfl ?_
        refine lv_astore_n (lv' := [(3, .ref (gA E (13 * k + 2 + (pm (sL S) k P)))), (0, .ref (gA E (13 * k))), (1, .int (nI P)), (2, .int pr)]) hx hb dX4_swapAt_33 rfl hl (by decide) rfl (fun ls hl => ?_)
        refine lv_aload_n hx hb dX4_swapAt_34 rfl (lv_at hl 1 rfl) ?_
        refine lv_iload_n hx hb dX4_swapAt_35 rfl (lv_at hl 2 rfl) ?_
        refine lv_iconst (v := 1) hx hb dX4_swapAt_36 (by decide) ?_
        refine lv_iadd hx hb dX4_swapAt_37 ?_
        refine cr_X4_41 C hJ hk (rest := []) (c_X4_memberAtI hE hk hI.1 (P := P + 1) hP0 (nI_1 P)) dX4_swapAt_38 hl.1 ⟨Nat.le_of_ble_eq_true rfl, Nat.le_of_ble_eq_true rfl⟩ ⟨Nat.le_refl _, Nat.le_refl _⟩ (Nat.le_of_ble_eq_true rfl) rfl rfl ?_
        refine lv_astore (lv' := [(4, .ref (gA E (13 * k + 2 + (pm (sL S) k (P + 1))))), (3, .ref (gA E (13 * k + 2 + (pm (sL S) k P)))), (0, .ref (gA E (13 * k))), (1, .int (nI P)), (2, .int pr)]) hx hb dX4_swapAt_41 hl (by decide) rfl (fun ls hl => ?_)
        refine lv_aload_n hx hb dX4_swapAt_43 rfl (lv_at hl 2 rfl) ?_
        refine g_X4_11 C hJ hk dX4_swapAt_44 ?_
        refine lv_iload_n hx hb dX4_swapAt_47 rfl (lv_at hl 3 rfl) ?_
        refine lv_aload hx hb dX4_swapAt_48 (lv_at hl 0 rfl) ?_
        refine t_ar C hJ hk (Nat.lt_of_lt_of_le (hI.1.2.2.1 (P + 1) (by have := hI.1.1; omega)) (by omega)) (P := P) (rfl) (by omega) dX4_swapAt_50 (fun H locs hJ => ?_)
        obtain ⟨S_50, hS_50⟩ : ∃ z : ST, z = setL S (lPm (sL S) k P (pm (sL S) k (P + 1))) := ⟨_, rfl⟩
        rw [← hS_50] at hJ
        refine lv_aload_n hx hb dX4_swapAt_51 rfl (lv_at hl 2 rfl) ?_
        refine g_X4_11 C hJ hk dX4_swapAt_52 ?_
        refine lv_iload_n hx hb dX4_swapAt_55 rfl (lv_at hl 3 rfl) ?_
        refine lv_iconst (v := 1) hx hb dX4_swapAt_56 (by decide) ?_
        refine lv_iadd hx hb dX4_swapAt_57 ?_
        refine lv_aload_n hx hb dX4_swapAt_58 rfl (lv_at hl 1 rfl) ?_
        refine t_ar C hJ hk (Nat.lt_of_lt_of_le (hI.1.2.2.1 P (by have := hI.1.1; omega)) (by omega)) (P := P + 1) (nI_1 P) (by omega) dX4_swapAt_59 (fun H locs hJ => ?_)
        obtain ⟨S_59, hS_59⟩ : ∃ z : ST, z = setL S_50 (lPm (sL S_50) k (P + 1) (pm (sL S) k P)) := ⟨_, rfl⟩
        rw [← hS_59] at hJ
        have e0 : pm (sL S) k P = pm (sL S_59) k (P + 1) := by rw [hS_59, hS_50]; simp [setL, lPm, up2, pm, sL]
        have e1 : pm (sL S) k (P + 1) = pm (sL S_59) k P := by rw [hS_59, hS_50]; simp [setL, lPm, up2, pm, sL]
        have hS_x : S_59 = setL S (lPm (lPm (sL S) k P (pm (sL S) k (P + 1))) k (P + 1) (pm (sL S) k P)) := by rw [hS_59, hS_50]; rfl
        have hU := (Up.rf hI).sq hS_x ((OffL.opm P (pm (sL S) k (P + 1))).tr (OffL.opm (P + 1) (pm (sL S) k P))) (hI.spm hP0)
        refine lv_aload hx hb dX4_swapAt_60 (lv_at hl 0 rfl) ?_
        refine lv_dup hx hb dX4_swapAt_62 rfl ?_
        refine g_X4_91 C hJ hk (Nat.lt_of_lt_of_le (hI.1.2.2.1 (P + 1) (by have := hI.1.1; omega)) (by omega)) dX4_swapAt_63 ?_
        refine lv_iload_n hx hb dX4_swapAt_66 rfl (lv_at hl 4 rfl) ?_
        refine lv_isub hx hb dX4_swapAt_67 ?_
        refine p_X4_91 C hJ hk (Nat.lt_of_lt_of_le (hI.1.2.2.1 (P + 1) (by have := hI.1.1; omega)) (by omega)) dX4_swapAt_68 (fun H locs hJ => ?_)
        obtain ⟨S_68, hS_68⟩ : ∃ z : ST, z = setL S_59 (lMb (sL S_59) k (pm (sL S) k (P + 1)) 4 ((mb (sL S_59) k (pm (sL S) k (P + 1)) 4) - pr)) := ⟨_, rfl⟩
        rw [← hS_68] at hJ
        have v1 : mb (sL S_59) k (pm (sL S) k (P + 1)) 4 = mm (P + 1) 4 := by rw [e1, hU.2.2.2.2.1 P (by omega)]; simp
        rw [v1] at hS_68
        have v2 : mb (sL S_59) k (pm (sL S) k P) 4 = mm P 4 := by rw [e0, hU.2.2.2.2.1 (P + 1) (by omega)]; simp
        have v2 : mb (sL S_68) k (pm (sL S) k P) 4 = mm P 4 := by
          rw [hS_68]; refine (if_neg (fun q => ?_)).trans v2
          have := hI.1.2.2.2.1 P (P + 1) (by omega) (by omega) q.2.1; omega
        have hS_x := hS_68
        rw [e1] at hS_x
        have hU := hU.sq hS_x (OffL.omb _ _ _) (hU.2.2.smb (P := P) (i := 4) (v := mm (P + 1) 4 - pr) (by omega) (by omega) (by omega))
        have e0 : pm (sL S) k P = pm (sL S_68) k (P + 1) := by rw [hS_68]; exact e0
        have e1 : pm (sL S) k (P + 1) = pm (sL S_68) k P := by rw [hS_68]; exact e1
        refine lv_aload_n hx hb dX4_swapAt_71 rfl (lv_at hl 1 rfl) ?_
        refine lv_dup hx hb dX4_swapAt_72 rfl ?_
        refine g_X4_91 C hJ hk (Nat.lt_of_lt_of_le (hI.1.2.2.1 P (by have := hI.1.1; omega)) (by omega)) dX4_swapAt_73 ?_
        refine lv_iload_n hx hb dX4_swapAt_76 rfl (lv_at hl 4 rfl) ?_
        refine lv_iadd hx hb dX4_swapAt_77 ?_
        refine p_X4_91 C hJ hk (Nat.lt_of_lt_of_le (hI.1.2.2.1 P (by have := hI.1.1; omega)) (by omega)) dX4_swapAt_78 (fun H locs hJ => ?_)
        obtain ⟨S_78, hS_78⟩ : ∃ z : ST, z = setL S_68 (lMb (sL S_68) k (pm (sL S) k P) 4 ((mb (sL S_68) k (pm (sL S) k P) 4) + pr)) := ⟨_, rfl⟩
        rw [← hS_78] at hJ
        rw [v2] at hS_78
        have hS_x := hS_78
        rw [e0] at hS_x
        have hU := hU.sq hS_x (OffL.omb _ _ _) (hU.2.2.smb (P := P + 1) (i := 4) (v := mm P 4 + pr) (by omega) (by omega) (by omega))
        have e0 : pm (sL S) k P = pm (sL S_78) k (P + 1) := by rw [hS_78]; exact e0
        have e1 : pm (sL S) k (P + 1) = pm (sL S_78) k P := by rw [hS_78]; exact e1
        refine lv_aload hx hb dX4_swapAt_81 (lv_at hl 0 rfl) ?_
        refine cw_X4_56 C hJ hk (Nat.lt_of_lt_of_le (hI.1.2.2.1 (P + 1) (by have := hI.1.1; omega)) (by omega)) (rest := []) (c_X5_loseOneAhead hE hk (Nat.lt_of_lt_of_le (hI.1.2.2.1 (P + 1) (by have := hI.1.1; omega)) (by omega))) dX4_swapAt_83 hl.1 ⟨Nat.le_of_ble_eq_true rfl, Nat.le_of_ble_eq_true rfl⟩ ⟨Nat.le_refl _, Nat.le_refl _⟩ (Nat.le_of_ble_eq_true rfl) rfl rfl (fun vr S_83 H locs hP hJ => ?_)
        obtain ⟨rfl, hS_83⟩ := hP
        have hS_x := hS_83
        rw [e1] at hS_x
        have hU := hU.sq hS_x (OffL.lose _) (hU.2.2.lose (P := P) (by omega))
        have e0 : pm (sL S) k P = pm (sL S_83) k (P + 1) := by rw [hS_83]; exact e0
        refine lv_aload_n hx hb dX4_swapAt_86 rfl (lv_at hl 1 rfl) ?_
        refine cw_X4_56 C hJ hk (Nat.lt_of_lt_of_le (hI.1.2.2.1 P (by have := hI.1.1; omega)) (by omega)) (rest := []) (c_X5_loseOneAhead hE hk (Nat.lt_of_lt_of_le (hI.1.2.2.1 P (by have := hI.1.1; omega)) (by omega))) dX4_swapAt_87 hl.1 ⟨Nat.le_of_ble_eq_true rfl, Nat.le_of_ble_eq_true rfl⟩ ⟨Nat.le_refl _, Nat.le_refl _⟩ (Nat.le_of_ble_eq_true rfl) rfl rfl (fun vr S_87 H locs hP hJ => ?_)
        obtain ⟨rfl, hS_87⟩ := hP
        have hS_x := hS_87
        rw [e0] at hS_x
        have hU := hU.sq hS_x (OffL.lose _) (hU.2.2.lose (P := P + 1) (by omega))
        refine lv_aload_n hx hb dX4_swapAt_90 rfl (lv_at hl 2 rfl) ?_
        refine lv_iload_n hx hb dX4_swapAt_91 rfl (lv_at hl 3 rfl) ?_
        refine lv_iconst (v := 2) hx hb dX4_swapAt_92 (by decide) ?_
        refine lv_iadd hx hb dX4_swapAt_93 ?_
        refine cr_X4_41 C hJ hk (rest := []) (c_X4_memberAtE hE hk hU.2.2.1 (P := P + 2) (nI_add P 2)) dX4_swapAt_94 hl.1 ⟨Nat.le_of_ble_eq_true rfl, Nat.le_of_ble_eq_true rfl⟩ ⟨Nat.le_refl _, Nat.le_refl _⟩ (Nat.le_of_ble_eq_true rfl) rfl rfl ?_
        refine cw_X4_56 C hJ hk (ix_lt hU.2.2.1 _) (rest := []) (c_X5_loseOneAhead hE hk (ix_lt hU.2.2.1 _)) dX4_swapAt_97 hl.1 ⟨Nat.le_of_ble_eq_true rfl, Nat.le_of_ble_eq_true rfl⟩ ⟨Nat.le_refl _, Nat.le_refl _⟩ (Nat.le_of_ble_eq_true rfl) rfl rfl (fun vr S_97 H locs hP hJ => ?_)
        obtain ⟨rfl, hS_97⟩ := hP
        have hU := hU.sq hS_97 (OffL.lose _) (hU.2.2.loseAt (P := P + 2) (by omega))
        refine lv_aload_n hx hb dX4_swapAt_100 rfl (lv_at hl 2 rfl) ?_
        refine lv_dup hx hb dX4_swapAt_101 rfl ?_
        refine g_X4_29 C hJ hk dX4_swapAt_102 ?_
        refine lv_iconst (v := 1) hx hb dX4_swapAt_105 (by decide) ?_
        refine lv_iadd hx hb dX4_swapAt_106 ?_
        refine p_X4_29 C hJ hk dX4_swapAt_107 (fun H locs hJ => ?_)
        obtain ⟨S_107, hS_107⟩ : ∃ z : ST, z = setL S_97 (lSc (sL S_97) k 4 ((sc (sL S_97) k 4) + 1)) := ⟨_, rfl⟩
        rw [← hS_107] at hJ
        have v4 : sc (sL S_97) k 4 = z 4 := congrFun hU.2.2.2.1 4
        rw [v4] at hS_107
        have hU := hU.sq hS_107 (OffL.osc _ _) (hU.2.2.ssc (by omega) (by omega) _)
        refine lv_aload_n hx hb dX4_swapAt_110 rfl (lv_at hl 2 rfl) ?_
        refine lv_dup hx hb dX4_swapAt_111 rfl ?_
        refine g_X4_32 C hJ hk dX4_swapAt_112 ?_
        refine lv_iload_n hx hb dX4_swapAt_115 rfl (lv_at hl 4 rfl) ?_
        refine lv_iadd hx hb dX4_swapAt_116 ?_
        refine p_X4_32 C hJ hk dX4_swapAt_117 (fun H locs hJ => ?_)
        obtain ⟨S_117, hS_117⟩ : ∃ z : ST, z = setL S_107 (lSc (sL S_107) k 5 ((sc (sL S_107) k 5) + pr)) := ⟨_, rfl⟩
        rw [← hS_117] at hJ
        have v5 : sc (sL S_107) k 5 = z 5 := (congrFun hU.2.2.2.1 5).trans (by simp [upd])
        rw [v5] at hS_117
        have hU := hU.sq hS_117 (OffL.osc _ _) (hU.2.2.ssc (by omega) (by omega) _)
        refine lv_iload_n hx hb dX4_swapAt_120 rfl (lv_at hl 4 rfl) ?_
        exact rW_i C hJ hr rfl (⟨rfl, hU.cg (fun _ => rfl) (fun X hX q => mswap_eq mm P pr X q)⟩) dX4_swapAt_121
      · skip
        exact absurd (by rw [hI.1.2.1]; exact nI_le (b := 10) (by omega) (by omega)) c_23
set_option maxHeartbeats 4000000 in
set_option maxRecDepth 100000 in
theorem c_X4_swapAsOffered {l : Launch} {E : GE} (hE : Env0 E) {S : ST} {k n : Nat} {z : Nat → Int32} {mm : Nat → Nat → Int32} (hk : k < 6) (hI : LnIs (sL S) k n z mm) (P : Nat) (hP0 : P + 1 < n) : MW l E yX4_swapAsOffered cX4_swapAsOffered 2 (some .int) 2 46 S [.ref (gA E (13 * k)), .int (nI P)] (fun v S1 => v = some (.int (mm (P + 1) 5)) ∧ Up S S1 k n (upd (upd z 4 (z 4 + 1)) 5 (z 5 + mm (P + 1) 5)) (mswap mm P (mm (P + 1) 5))) := by
  refine MW.of hE (by decide) (Nat.le_of_ble_eq_true rfl) ?_
  intro p e s m below meth c ls C hJ hr hl
  have hx := C.x
  have hb := C.b
  have hl : lv_has ls 2 [(0, .ref (gA E (13 * k))), (1, .int (nI P))] := hl
  refine lv_aload_n hx hb dX4_swapAsOffered_0 rfl (lv_at hl 0 rfl) ?_
  refine lv_iload_n hx hb dX4_swapAsOffered_1 rfl (lv_at hl 1 rfl) ?_
  refine lv_aload_n hx hb dX4_swapAsOffered_2 rfl (lv_at hl 0 rfl) ?_
  refine lv_iload_n hx hb dX4_swapAsOffered_3 rfl (lv_at hl 1 rfl) ?_
  refine lv_iconst (v := 1) hx hb dX4_swapAsOffered_4 (by decide) ?_
  refine lv_iadd hx hb dX4_swapAsOffered_5 ?_
  refine cr_X4_41 C hJ hk (rest := [.int (nI P), .ref (gA E (13 * k))]) (c_X4_memberAtI hE hk hI.1 (P := P + 1) hP0 (nI_1 P)) dX4_swapAsOffered_6 hl.1 ⟨Nat.le_of_ble_eq_true rfl, Nat.le_of_ble_eq_true rfl⟩ ⟨Nat.le_refl _, Nat.le_refl _⟩ (Nat.le_of_ble_eq_true rfl) rfl rfl ?_
  refine g_X4_73 C hJ hk (Nat.lt_of_lt_of_le (hI.1.2.2.1 (P + 1) (by have := hI.1.1; omega)) (by omega)) dX4_swapAsOffered_9 ?_
  refine cw_X4_84 C hJ hk (rest := []) (c_X4_swapAt hE hk hI P hP0 (mb (sL S) k (pm (sL S) k (P + 1)) 5)) dX4_swapAsOffered_12 hl.1 ⟨Nat.le_of_ble_eq_true rfl, Nat.le_of_ble_eq_true rfl⟩ ⟨Nat.le_refl _, Nat.le_refl _⟩ (Nat.le_of_ble_eq_true rfl) rfl rfl (fun vr S_12 H locs hP hJ => ?_)
  obtain ⟨rfl, hU⟩ := hP
  exact rW_i C hJ hr rfl (by have e := hI.2.2.1 (P + 1) hP0 5; rw [e] at hU ⊢; exact ⟨rfl, hU⟩) dX4_swapAsOffered_15
set_option maxHeartbeats 4000000 in
set_option maxRecDepth 100000 in
theorem c_X4_swapFairly {l : Launch} {E : GE} (hE : Env0 E) {S : ST} {k n : Nat} {z : Nat → Int32} {mm : Nat → Nat → Int32} (hk : k < 6) (hI : LnIs (sL S) k n z mm) (P : Nat) (hP0 : P + 1 < n) : MW l E yX4_swapFairly cX4_swapFairly 2 (some .int) 2 47 S [.ref (gA E (13 * k)), .int (nI P)] (fun v S1 => v = some (.int (f_fairc (gof n mm) (z 3) (nI P))) ∧ Up S S1 k n (upd (upd z 4 (z 4 + 1)) 5 (z 5 + f_fairc (gof n mm) (z 3) (nI P))) (mswap mm P (f_fairc (gof n mm) (z 3) (nI P)))) := by
  refine MW.of hE (by decide) (Nat.le_of_ble_eq_true rfl) ?_
  intro p e s m below meth c ls C hJ hr hl
  have hx := C.x
  have hb := C.b
  have hl : lv_has ls 2 [(0, .ref (gA E (13 * k))), (1, .int (nI P))] := hl
  refine lv_aload_n hx hb dX4_swapFairly_0 rfl (lv_at hl 0 rfl) ?_
  refine lv_iload_n hx hb dX4_swapFairly_1 rfl (lv_at hl 1 rfl) ?_
  refine lv_aload_n hx hb dX4_swapFairly_2 rfl (lv_at hl 0 rfl) ?_
  refine lv_iload_n hx hb dX4_swapFairly_3 rfl (lv_at hl 1 rfl) ?_
  refine cr_X4_88 C hJ hk (rest := [.int (nI P), .ref (gA E (13 * k))]) (c_X4_fairPrice hE hk hI.1 (nI P)) dX4_swapFairly_4 hl.1 ⟨Nat.le_of_ble_eq_true rfl, Nat.le_of_ble_eq_true rfl⟩ ⟨Nat.le_refl _, Nat.le_refl _⟩ (Nat.le_of_ble_eq_true rfl) rfl rfl ?_
  refine cw_X4_84 C hJ hk (rest := []) (c_X4_swapAt hE hk hI P hP0 (f_fairc (gm (sL S) k) (sc (sL S) k 3) (nI P))) dX4_swapFairly_7 hl.1 ⟨Nat.le_of_ble_eq_true rfl, Nat.le_of_ble_eq_true rfl⟩ ⟨Nat.le_refl _, Nat.le_refl _⟩ (Nat.le_of_ble_eq_true rfl) rfl rfl (fun vr S_7 H locs hP hJ => ?_)
  obtain ⟨rfl, hU⟩ := hP
  exact rW_i C hJ hr rfl (by rw [hI.sgm, congrFun hI.2.1 3] at hU ⊢; exact ⟨rfl, hU⟩) dX4_swapFairly_10
