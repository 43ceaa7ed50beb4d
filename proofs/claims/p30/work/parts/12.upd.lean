/-! UPDATES of a line: its value (how many members, its scalars, its members by places) and what each step makes of it -/
def nob (i : Nat) : Int32 := if i = 0 ∨ i = 5 then -1 else 0
/-- members by places that are ints: nobody where none stands -/
def gof (n : Nat) (mm : Nat → Nat → Int32) (p : Int32) (i : Nat) : Int32 := if ¬ p < 0 ∧ ¬ nI n ≤ p then mm p.toNatClampNeg i else nob i
theorem gof_in {n P : Nat} (mm : Nat → Nat → Int32) (hn : n ≤ 10) (hP : P < n) (i : Nat) : gof n mm (nI P) i = mm P i := by
  unfold gof; rw [if_pos ⟨nI_pos (by omega), nI_ge hP (by omega)⟩, nI_clamp (by omega)]
theorem gof_far {n P : Nat} (mm : Nat → Nat → Int32) (hP : n ≤ P) (hP2 : P < 2 ^ 31) (i : Nat) : gof n mm (nI P) i = nob i := by
  unfold gof; rw [if_neg (fun q => q.2 (nI_le hP hP2))]
theorem gof_neg {n : Nat} (mm : Nat → Nat → Int32) {p : Int32} (hp : p < 0) (i : Nat) : gof n mm p i = nob i := by
  unfold gof; rw [if_neg (fun q => q.1 hp)]
/-- line k has the value (n, z, mm); nothing lies in the places that no field has -/
def LnIs (L : LT) (k n : Nat) (z : Nat → Int32) (mm : Nat → Nat → Int32) : Prop := LnOk L k n ∧ sc L k = z ∧ (∀ P, P < n → ∀ i, mb L k (pm L k P) i = mm P i) ∧ (∀ i, i < 2 ∨ 8 ≤ i → sc L k i = 0) ∧ ∀ j i, 7 ≤ i → mb L k j i = 0
theorem nob_of {L : LT} {k n : Nat} (h : LnOk L k n) (hj : ∀ j i, 7 ≤ i → mb L k j i = 0) (i : Nat) : mb L k 10 i = nob i := by
  obtain ⟨a0, a1, a2, a3, a4, a5, a6⟩ := h.2.2.2.2.1
  unfold nob
  rcases (show i = 0 ∨ i = 1 ∨ i = 2 ∨ i = 3 ∨ i = 4 ∨ i = 5 ∨ i = 6 ∨ 7 ≤ i by omega) with rfl | rfl | rfl | rfl | rfl | rfl | rfl | h7
  · rw [a0]; rfl
  · rw [a1]; rfl
  · rw [a2]; rfl
  · rw [a3]; rfl
  · rw [a4]; rfl
  · rw [a5]; rfl
  · rw [a6]; rfl
  · rw [hj 10 i h7, if_neg (by omega)]
theorem LnIs.sgm {L : LT} {k n : Nat} {z : Nat → Int32} {mm : Nat → Nat → Int32} (h : LnIs L k n z mm) : gm L k = gof n mm := by
  funext p i
  unfold gof
  split
  · rename_i hc
    obtain ⟨P, hP, e, hix⟩ := ix_of h.1 (p := p) hc.1 (by rw [h.1.2.1]; exact hc.2)
    have := h.1.1
    show mb L k (ix L k p) i = _
    rw [hix, e, nI_clamp (by omega), h.2.2.1 P hP]
  · rename_i hc
    show mb L k (ix L k p) i = _
    have : ix L k p = 10 := by unfold ix; rw [h.1.2.1, if_neg hc]
    rw [this]; exact nob_of h.1 h.2.2.2.2 i
theorem LnIs.cg {L : LT} {k n : Nat} {z z' : Nat → Int32} {mm mm' : Nat → Nat → Int32} (h : LnIs L k n z mm) (hz : ∀ i, z i = z' i) (hm : ∀ P, P < n → ∀ i, mm P i = mm' P i) : LnIs L k n z' mm' :=
  ⟨h.1, h.2.1.trans (funext hz), fun P hP i => (h.2.2.1 P hP i).trans (hm P hP i), h.2.2.2.1, h.2.2.2.2⟩
/-- one field of one member -/
theorem LnIs.smb {L : LT} {k n : Nat} {z : Nat → Int32} {mm : Nat → Nat → Int32} (h : LnIs L k n z mm) {P i : Nat} (hP : P < n) (hi : i < 7) {v : Int32} (hv : i = 6 → v = 0 ∨ v = 1) : LnIs (lMb L k (pm L k P) i v) k n z (up2 mm P i v) := by
  obtain ⟨⟨h1, h2, h3, h4, h5, h6⟩, hz, hm, hj1, hj2⟩ := h
  have hp := h3 P (by omega)
  refine ⟨⟨h1, h2, h3, h4, ?_, ?_⟩, hz, ?_, hj1, ?_⟩
  · have hne : ∀ q : Nat, up3 L.2.2 k (pm L k P) i v k 10 q = mb L k 10 q := fun q => if_neg (fun e => by omega)
    show up3 L.2.2 k (pm L k P) i v k 10 0 = -1 ∧ up3 L.2.2 k (pm L k P) i v k 10 1 = 0 ∧ up3 L.2.2 k (pm L k P) i v k 10 2 = 0 ∧ up3 L.2.2 k (pm L k P) i v k 10 3 = 0 ∧ up3 L.2.2 k (pm L k P) i v k 10 4 = 0 ∧ up3 L.2.2 k (pm L k P) i v k 10 5 = -1 ∧ up3 L.2.2 k (pm L k P) i v k 10 6 = 0
    rw [hne, hne, hne, hne, hne, hne, hne]
    exact h5
  · intro j hj
    show up3 L.2.2 k (pm L k P) i v k j 6 = 0 ∨ up3 L.2.2 k (pm L k P) i v k j 6 = 1
    unfold up3
    by_cases e : j = pm L k P ∧ 6 = i
    · rw [if_pos ⟨rfl, e.1, e.2⟩]; exact hv e.2.symm
    · rw [if_neg (fun q => e q.2)]
      exact h6 j hj
  · intro X hX q
    show up3 L.2.2 k (pm L k P) i v k (pm L k X) q = up2 mm P i v X q
    unfold up3 up2
    by_cases e : X = P ∧ q = i
    · rw [if_pos e, if_pos ⟨rfl, by rw [e.1], e.2⟩]
    · rw [if_neg e, if_neg (fun y => e ⟨h4 X P (by omega) (by omega) y.2.1, y.2.2⟩)]
      exact hm X hX q
  · intro j q hq
    show up3 L.2.2 k (pm L k P) i v k j q = 0
    unfold up3
    rw [if_neg (fun y => by omega)]
    exact hj2 j q hq
theorem LnIs.ssc {L : LT} {k n : Nat} {z : Nat → Int32} {mm : Nat → Nat → Int32} (h : LnIs L k n z mm) {i : Nat} (h3 : 3 ≤ i) (h7 : i ≤ 7) (v : Int32) : LnIs (lSc L k i v) k n (upd z i v) mm := by
  obtain ⟨⟨a1, a2, a3, a4, a5, a6⟩, hz, hm, hj1, hj2⟩ := h
  refine ⟨⟨a1, ?_, a3, a4, a5, a6⟩, ?_, hm, ?_, hj2⟩
  · show up2 L.1 k i v k 2 = _
    unfold up2
    rw [if_neg (by omega)]; exact a2
  · funext q
    show up2 L.1 k i v k q = _
    unfold up2 upd
    by_cases e : q = i
    · rw [if_pos ⟨rfl, e⟩, if_pos e]
    · rw [if_neg (fun y => e y.2), if_neg e]; exact congrFun hz q
  · intro q hq
    show up2 L.1 k i v k q = 0
    unfold up2
    rw [if_neg (fun y => by omega)]; exact hj1 q hq
/-- two neighbours change places -/
theorem LnIs.spm {L : LT} {k n : Nat} {z : Nat → Int32} {mm : Nat → Nat → Int32} (h : LnIs L k n z mm) {P : Nat} (hP : P + 1 < n) : LnIs (lPm (lPm L k P (pm L k (P + 1))) k (P + 1) (pm L k P)) k n z (fun x => if x = P then mm (P + 1) else if x = P + 1 then mm P else mm x) := by
  obtain ⟨⟨h1, h2, h3, h4, h5, h6⟩, hz, hm, hj1, hj2⟩ := h
  have hpm : ∀ x, pm (lPm (lPm L k P (pm L k (P + 1))) k (P + 1) (pm L k P)) k x = pm L k (if x = P then P + 1 else if x = P + 1 then P else x) := by
    intro x
    simp only [pm, lPm, up2]
    by_cases e1 : x = P + 1
    · subst e1; simp
    · by_cases e2 : x = P
      · subst e2; simp
      · simp [e1, e2]
  refine ⟨⟨h1, h2, ?_, ?_, h5, h6⟩, hz, ?_, hj1, hj2⟩
  · intro j hj; rw [hpm]; apply h3; split
    · omega
    · split <;> omega
  · intro i j hi hj e
    rw [hpm, hpm] at e
    have e := h4 _ _ (by split; omega; split <;> omega) (by split; omega; split <;> omega) e
    split at e
    · split at e
      · omega
      · split at e <;> omega
    · split at e
      · split at e
        · omega
        · split at e <;> omega
      · split at e
        · omega
        · split at e <;> omega
  · intro X hX q
    rw [hpm]
    show mb L k _ q = _
    rw [hm _ (by split; omega; split <;> omega)]
    by_cases e1 : X = P
    · simp [e1]
    · by_cases e2 : X = P + 1
      · simp [e2]
      · simp [e1, e2]
/-- nothing of the other lines has changed -/
def OffL (k : Nat) (L L' : LT) : Prop := ∀ q, q ≠ k → sc L' q = sc L q ∧ pm L' q = pm L q ∧ mb L' q = mb L q
theorem OffL.rf {k : Nat} {L : LT} : OffL k L L := fun _ _ => ⟨rfl, rfl, rfl⟩
theorem OffL.tr {k : Nat} {L L' L2 : LT} (h : OffL k L L') (h2 : OffL k L' L2) : OffL k L L2 := fun q hq => ⟨(h2 q hq).1.trans (h q hq).1, (h2 q hq).2.1.trans (h q hq).2.1, (h2 q hq).2.2.trans (h q hq).2.2⟩
theorem OffL.osc {k : Nat} {L : LT} (i : Nat) (v : Int32) : OffL k L (lSc L k i v) := fun q hq => ⟨funext fun x => if_neg (fun e => hq e.1), rfl, rfl⟩
theorem OffL.opm {k : Nat} {L : LT} (i v : Nat) : OffL k L (lPm L k i v) := fun q hq => ⟨rfl, funext fun x => if_neg (fun e => hq e.1), rfl⟩
theorem OffL.omb {k : Nat} {L : LT} (j i : Nat) (v : Int32) : OffL k L (lMb L k j i v) := fun q hq => ⟨rfl, rfl, funext fun x => funext fun y => if_neg (fun e => hq e.1)⟩
theorem LnIs.off {k q n : Nat} {L L' : LT} {z : Nat → Int32} {mm : Nat → Nat → Int32} (h : LnIs L q n z mm) (ho : OffL k L L') (hq : q ≠ k) : LnIs L' q n z mm := by
  obtain ⟨e1, e2, e3⟩ := ho q hq
  unfold LnIs LnOk at *
  rw [e1, e2, e3]
  exact h
/-- line k of S' is (n, z, mm), all else is S's -/
def Up (S S' : ST) (k n : Nat) (z : Nat → Int32) (mm : Nat → Nat → Int32) : Prop := S'.2 = S.2 ∧ OffL k (sL S) (sL S') ∧ LnIs (sL S') k n z mm
theorem Up.rf {S : ST} {k n : Nat} {z : Nat → Int32} {mm : Nat → Nat → Int32} (h : LnIs (sL S) k n z mm) : Up S S k n z mm := ⟨rfl, OffL.rf, h⟩
theorem Up.tr {S S1 S2 : ST} {k n n' : Nat} {z z' : Nat → Int32} {mm mm' : Nat → Nat → Int32} (h : Up S S1 k n z mm) (h2 : Up S1 S2 k n' z' mm') : Up S S2 k n' z' mm' := ⟨h2.1.trans h.1, h.2.1.tr h2.2.1, h2.2.2⟩
theorem Up.st {S S1 : ST} {k n n' : Nat} {z z' : Nat → Int32} {mm mm' : Nat → Nat → Int32} (h : Up S S1 k n z mm) {L : LT} (ho : OffL k (sL S1) L) (hi : LnIs L k n' z' mm') : Up S (setL S1 L) k n' z' mm' := ⟨h.1, h.2.1.tr ho, hi⟩
theorem Up.sq {S S1 S2 : ST} {k n n' : Nat} {z z' : Nat → Int32} {mm mm' : Nat → Nat → Int32} (h : Up S S1 k n z mm) {L : LT} (e : S2 = setL S1 L) (ho : OffL k (sL S1) L) (hi : LnIs L k n' z' mm') : Up S S2 k n' z' mm' := by rw [e]; exact h.st ho hi
theorem Up.cg {S S1 : ST} {k n : Nat} {z z' : Nat → Int32} {mm mm' : Nat → Nat → Int32} (h : Up S S1 k n z mm) (hz : ∀ i, z i = z' i) (hm : ∀ P, P < n → ∀ i, mm P i = mm' P i) : Up S S1 k n z' mm' := ⟨h.1, h.2.1, h.2.2.cg hz hm⟩
/-- what the calls do -/
def mlose (f : Nat → Int32) : Nat → Int32 := fun i => if i = 5 then -1 else if i = 6 then 0 else f i
def mfresh (num w sv : Int32) : Nat → Int32 := fun i => if i = 0 then num else if i = 1 then w else if i = 2 then w else if i = 3 then sv else if i = 5 then -1 else 0
def mswap (mm : Nat → Nat → Int32) (P : Nat) (pr : Int32) : Nat → Nat → Int32 := fun x => if x = P then mlose (fun i => if i = 4 then mm (P + 1) 4 - pr else mm (P + 1) i) else if x = P + 1 then mlose (fun i => if i = 4 then mm P 4 + pr else mm P i) else if x = P + 2 then mlose (mm (P + 2)) else mm x
def mins (mm : Nat → Nat → Int32) (P : Nat) (f : Nat → Int32) : Nat → Nat → Int32 := fun x => if x < P then mm x else if x = P then f else if x = P + 1 then mlose (mm P) else mm (x - 1)
def mrem (mm : Nat → Nat → Int32) (P : Nat) : Nat → Nat → Int32 := fun x => if x < P then mm x else if x = P then mlose (mm (P + 1)) else mm (x + 1)
def mtruth (mm : Nat → Nat → Int32) : Nat → Nat → Int32 := fun x i => if i = 2 then mm x 1 else mm x i
/-- the one ahead is lost -/
def mLose (L : LT) (k j : Nat) : LT := lMb (lMb L k j 5 (-1)) k j 6 0
theorem OffL.lose {k : Nat} {L : LT} (j : Nat) : OffL k L (mLose L k j) := (OffL.omb j 5 (-1)).tr (OffL.omb j 6 0)
theorem LnIs.lose {L : LT} {k n : Nat} {z : Nat → Int32} {mm : Nat → Nat → Int32} (h : LnIs L k n z mm) {P : Nat} (hP : P < n) : LnIs (mLose L k (pm L k P)) k n z (fun x => if x = P then mlose (mm P) else mm x) := by
  have h1 := h.smb (i := 5) (v := -1) hP (by omega) (by omega)
  have h2 := h1.smb (i := 6) (v := 0) hP (by omega) (fun _ => Or.inl rfl)
  refine LnIs.cg (show LnIs (mLose L k (pm L k P)) k n z _ from h2) (fun _ => rfl) (fun X hX i => ?_)
  unfold up2 mlose
  by_cases e : X = P
  · subst e
    by_cases e5 : i = 5
    · subst e5; simp
    · by_cases e6 : i = 6
      · subst e6; simp
      · simp [e5, e6]
  · simp [e]
/-- .. at a place where nobody stands, perhaps -/
theorem LnIs.loseAt {L : LT} {k n : Nat} {z : Nat → Int32} {mm : Nat → Nat → Int32} (h : LnIs L k n z mm) {P : Nat} (hP : P < 2 ^ 31) : LnIs (mLose L k (ix L k (nI P))) k n z (fun x => if x = P then mlose (mm P) else mm x) := by
  by_cases hn : P < n
  · rw [ix_in h.1 hn]; exact h.lose hn
  · rw [ix_far (p := nI P) (by rw [h.1.2.1]; exact nI_le (by omega) hP)]
    obtain ⟨⟨h1, h2, h3, h4, h5, h6⟩, hz, hm, hj1, hj2⟩ := h
    have hne : ∀ X, X < 10 → pm L k X ≠ 10 := fun X hX => by have := h3 X hX; omega
    refine ⟨⟨h1, h2, h3, h4, ?_, ?_⟩, hz, ?_, hj1, ?_⟩
    · obtain ⟨a0, a1, a2, a3, a4, a5, a6⟩ := h5
      simp only [mb, mLose, lMb, up3] at *
      simp [a0, a1, a2, a3, a4]
    · intro j hj
      by_cases e : j = 10
      · subst e; left; simp [mb, mLose, lMb, up3]
      · have := h6 j hj
        simp only [mb, mLose, lMb, up3] at *
        simpa [e] using this
    · intro X hX i
      have e := hne X (by omega)
      have h7 := hm X hX i
      simp only [mb, pm, mLose, lMb, up3] at *
      rw [if_neg (fun q => e q.2.1), if_neg (fun q => e q.2.1), if_neg (by omega)]
      exact h7
    · intro j i hi
      have h7 := hj2 j i hi
      simp only [mb, mLose, lMb, up3] at *
      rw [if_neg (by omega), if_neg (by omega)]
      exact h7
