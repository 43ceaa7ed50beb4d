/-! a member is written whole; places are turned -/
def mPut (L : LT) (k j : Nat) (f : Nat → Int32) : LT := (L.1, L.2.1, fun x y i => if x = k ∧ y = j ∧ i < 7 then f i else L.2.2 x y i)
def lPerm (L : LT) (k : Nat) (f : Nat → Nat) : LT := (L.1, fun x => if x = k then f else L.2.1 x, L.2.2)
theorem lPm_lPerm (L : LT) (k : Nat) (f : Nat → Nat) (p j : Nat) : lPm (lPerm L k f) k p j = lPerm L k (fun x => if x = p then j else f x) := by
  unfold lPm lPerm
  refine congrArg (fun q => (L.1, q, L.2.2)) ?_
  funext x y
  by_cases e : x = k
  · subst e; simp [up2]
  · simp [up2, e]
theorem lPerm_id (L : LT) (k : Nat) : lPerm L k (pm L k) = L := by
  unfold lPerm
  have : (fun x => if x = k then pm L k else L.2.1 x) = L.2.1 := by funext x; by_cases e : x = k <;> simp [e, pm]
  rw [this]
theorem pm_lPerm (L : LT) (k : Nat) (f : Nat → Nat) : pm (lPerm L k f) k = f := by simp [pm, lPerm]
theorem OffL.operm {k : Nat} {L : LT} (f : Nat → Nat) : OffL k L (lPerm L k f) := fun q hq => ⟨rfl, if_neg hq, rfl⟩
theorem OffL.oput {k : Nat} {L : LT} (j : Nat) (f : Nat → Int32) : OffL k L (mPut L k j f) := fun q hq => ⟨rfl, rfl, funext fun x => funext fun y => if_neg (fun e => hq e.1)⟩
theorem LnIs.put {L : LT} {k n : Nat} {z : Nat → Int32} {mm : Nat → Nat → Int32} (h : LnIs L k n z mm) {P : Nat} (hP : P < n) {f : Nat → Int32} (h6f : f 6 = 0 ∨ f 6 = 1) (h7f : ∀ i, 7 ≤ i → f i = 0) : LnIs (mPut L k (pm L k P) f) k n z (fun x => if x = P then f else mm x) := by
  obtain ⟨⟨h1, h2, h3, h4, h5, h6⟩, hz, hm, hj1, hj2⟩ := h
  have hp := h3 P (by omega)
  have hv : ∀ y i, mb (mPut L k (pm L k P) f) k y i = if y = pm L k P then f i else mb L k y i := by
    intro y i
    show (if k = k ∧ y = pm L k P ∧ i < 7 then f i else L.2.2 k y i) = _
    by_cases e : y = pm L k P
    · by_cases e7 : i < 7
      · rw [if_pos ⟨rfl, e, e7⟩, if_pos e]
      · rw [if_neg (fun q => e7 q.2.2), if_pos e, h7f i (by omega)]
        exact hj2 y i (by omega)
    · rw [if_neg (fun q => e q.2.1), if_neg e]
  refine ⟨⟨h1, h2, h3, h4, ?_, ?_⟩, hz, ?_, hj1, ?_⟩
  · simp only [hv]
    rw [if_neg (by omega), if_neg (by omega), if_neg (by omega), if_neg (by omega), if_neg (by omega), if_neg (by omega), if_neg (by omega)]
    exact h5
  · intro j hj
    rw [hv]
    split
    · exact h6f
    · exact h6 j hj
  · intro X hX i
    rw [hv]
    by_cases e : X = P
    · subst e; rw [if_pos (show pm (mPut L k (pm L k X) f) k X = pm L k X from rfl)]; simp
    · have hne : pm L k X ≠ pm L k P := fun q => e (h4 X P (by omega) (by omega) q)
      rw [show pm (mPut L k (pm L k P) f) k X = pm L k X from rfl, if_neg hne, hm X hX i]
      simp [e]
  · intro j i hi
    rw [hv]
    split
    · exact h7f i hi
    · exact hj2 j i hi
def rotIn (f : Nat → Nat) (P n : Nat) : Nat → Nat := fun x => if x = P then f n else if P < x ∧ x ≤ n then f (x - 1) else f x
def rotOut (f : Nat → Nat) (P n : Nat) : Nat → Nat := fun x => if x = n - 1 then f P else if P ≤ x ∧ x < n - 1 then f (x + 1) else f x
/-- one more: the fresh one, from behind the last, at place P -/
theorem LnIs.ins {L : LT} {k n : Nat} {z : Nat → Int32} {mm : Nat → Nat → Int32} (h : LnIs L k n z mm) {P : Nat} (hP : P ≤ n) (hn : n < 10) : LnIs (lSc (lPerm L k (rotIn (pm L k) P n)) k 2 (nI (n + 1))) k (n + 1) (upd z 2 (nI (n + 1))) (fun x => if x < P then mm x else if x = P then mb L k (pm L k n) else mm (x - 1)) := by
  obtain ⟨⟨h1, h2, h3, h4, h5, h6⟩, hz, hm, hj1, hj2⟩ := h
  have hpm : pm (lSc (lPerm L k (rotIn (pm L k) P n)) k 2 (nI (n + 1))) k = rotIn (pm L k) P n := by simp [pm, lSc, lPerm]
  refine ⟨⟨by omega, ?_, ?_, ?_, h5, h6⟩, ?_, ?_, ?_, hj2⟩
  · simp [sc, lSc, up2]
  · intro j hj
    rw [hpm]; unfold rotIn
    split
    · exact h3 n hn
    · split
      · exact h3 _ (by omega)
      · exact h3 _ hj
  · intro i j hi hj e
    rw [hpm] at e; unfold rotIn at e
    have key : ∀ a b, a < 10 → b < 10 → pm L k a = pm L k b → a = b := fun a b ha hb => h4 a b ha hb
    split at e
    · split at e
      · omega
      · split at e
        · have := key _ _ (by omega) (by omega) e; omega
        · have := key _ _ (by omega) (by omega) e; omega
    · split at e
      · split at e
        · have := key _ _ (by omega) (by omega) e; omega
        · split at e
          · have := key _ _ (by omega) (by omega) e; omega
          · have := key _ _ (by omega) (by omega) e; omega
      · split at e
        · have := key _ _ (by omega) (by omega) e; omega
        · split at e
          · have := key _ _ (by omega) (by omega) e; omega
          · have := key _ _ (by omega) (by omega) e; omega
  · funext q
    show up2 L.1 k 2 (nI (n + 1)) k q = upd z 2 (nI (n + 1)) q
    unfold up2 upd
    by_cases e : q = 2
    · rw [if_pos ⟨rfl, e⟩, if_pos e]
    · rw [if_neg (fun y => e y.2), if_neg e]; exact congrFun hz q
  · intro X hX i
    rw [hpm]
    show mb L k _ i = _
    unfold rotIn
    by_cases e : X = P
    · subst e; rw [if_pos rfl]; simp
    · rw [if_neg e]
      by_cases e2 : P < X
      · rw [if_pos ⟨e2, by omega⟩, hm (X - 1) (by omega) i]
        simp [e, show ¬ X < P by omega]
      · rw [if_neg (fun q => e2 q.1), hm X (by omega) i]
        simp [show X < P by omega]
  · intro q hq
    show up2 L.1 k 2 (nI (n + 1)) k q = 0
    unfold up2
    rw [if_neg (fun y => by omega)]; exact hj1 q hq
/-- one less -/
theorem LnIs.rem {L : LT} {k n : Nat} {z : Nat → Int32} {mm : Nat → Nat → Int32} (h : LnIs L k n z mm) {P : Nat} (hP : P < n) : LnIs (lSc (lPerm L k (rotOut (pm L k) P n)) k 2 (nI (n - 1))) k (n - 1) (upd z 2 (nI (n - 1))) (fun x => if x < P then mm x else mm (x + 1)) := by
  obtain ⟨⟨h1, h2, h3, h4, h5, h6⟩, hz, hm, hj1, hj2⟩ := h
  have hpm : pm (lSc (lPerm L k (rotOut (pm L k) P n)) k 2 (nI (n - 1))) k = rotOut (pm L k) P n := by simp [pm, lSc, lPerm]
  refine ⟨⟨by omega, ?_, ?_, ?_, h5, h6⟩, ?_, ?_, ?_, hj2⟩
  · simp [sc, lSc, up2]
  · intro j hj
    rw [hpm]; unfold rotOut
    split
    · exact h3 _ (by omega)
    · split
      · exact h3 _ (by omega)
      · exact h3 _ hj
  · intro i j hi hj e
    rw [hpm] at e; unfold rotOut at e
    have key : ∀ a b, a < 10 → b < 10 → pm L k a = pm L k b → a = b := fun a b ha hb => h4 a b ha hb
    split at e
    · split at e
      · omega
      · split at e
        · have := key _ _ (by omega) (by omega) e; omega
        · have := key _ _ (by omega) (by omega) e; omega
    · split at e
      · split at e
        · have := key _ _ (by omega) (by omega) e; omega
        · split at e
          · have := key _ _ (by omega) (by omega) e; omega
          · have := key _ _ (by omega) (by omega) e; omega
      · split at e
        · have := key _ _ (by omega) (by omega) e; omega
        · split at e
          · have := key _ _ (by omega) (by omega) e; omega
          · have := key _ _ (by omega) (by omega) e; omega
  · funext q
    show up2 L.1 k 2 (nI (n - 1)) k q = upd z 2 (nI (n - 1)) q
    unfold up2 upd
    by_cases e : q = 2
    · rw [if_pos ⟨rfl, e⟩, if_pos e]
    · rw [if_neg (fun y => e y.2), if_neg e]; exact congrFun hz q
  · intro X hX i
    rw [hpm]
    show mb L k _ i = _
    unfold rotOut
    rw [if_neg (by omega)]
    by_cases e2 : P ≤ X
    · rw [if_pos ⟨e2, by omega⟩, hm (X + 1) (by omega) i]
      simp [show ¬ X < P by omega]
    · rw [if_neg (fun q => e2 q.1), hm X (by omega) i]
      simp [show X < P by omega]
  · intro q hq
    show up2 L.1 k 2 (nI (n - 1)) k q = 0
    unfold up2
    rw [if_neg (fun y => by omega)]; exact hj1 q hq
theorem put7 (L : LT) (k j : Nat) (f : Nat → Int32) : lMb (lMb (lMb (lMb (lMb (lMb (lMb L k j 0 (f 0)) k j 1 (f 1)) k j 2 (f 2)) k j 3 (f 3)) k j 4 (f 4)) k j 5 (f 5)) k j 6 (f 6) = mPut L k j f := by
  unfold lMb mPut
  refine congrArg (fun q => (L.1, L.2.1, q)) ?_
  funext x y i
  unfold up3
  by_cases e : x = k ∧ y = j
  · obtain ⟨rfl, rfl⟩ := e
    rcases (show i = 0 ∨ i = 1 ∨ i = 2 ∨ i = 3 ∨ i = 4 ∨ i = 5 ∨ i = 6 ∨ 7 ≤ i by omega) with rfl | rfl | rfl | rfl | rfl | rfl | rfl | h7
    · simp
    · simp
    · simp
    · simp
    · simp
    · simp
    · simp
    · simp [show ¬ i < 7 by omega, show ¬ i = 0 by omega, show ¬ i = 1 by omega, show ¬ i = 2 by omega, show ¬ i = 3 by omega, show ¬ i = 4 by omega, show ¬ i = 5 by omega, show ¬ i = 6 by omega]
  · have hn : ∀ w : Nat, ¬ (x = k ∧ y = j ∧ i = w) := fun w q => e ⟨q.1, q.2.1⟩
    have hn2 : ¬ (x = k ∧ y = j ∧ i < 7) := fun q => e ⟨q.1, q.2.1⟩
    simp only [hn, hn2, if_false]
theorem nI_pd {i : Nat} (h : 0 < i) : nI i - 1 = nI (i - 1) := by obtain ⟨q, rfl⟩ : ∃ q, i = q + 1 := ⟨i - 1, by omega⟩; exact nI_pred q
theorem nI_pm {i : Nat} (h : 0 < i) : nI i + (-1) = nI (i - 1) := by obtain ⟨q, rfl⟩ : ∃ q, i = q + 1 := ⟨i - 1, by omega⟩; exact pk_m1 q
def shf (f : Nat → Nat) (n i : Nat) : Nat → Nat := fun x => if i < x ∧ x ≤ n then f (x - 1) else f x
def shb (f : Nat → Nat) (P i : Nat) : Nat → Nat := fun x => if P ≤ x ∧ x < i then f (x + 1) else f x
theorem shf_0 (f : Nat → Nat) (n : Nat) : shf f n n = f := by funext x; unfold shf; rw [if_neg (by omega)]
theorem shb_0 (f : Nat → Nat) (P : Nat) : shb f P P = f := by funext x; unfold shb; rw [if_neg (by omega)]
theorem shf_s (f : Nat → Nat) {n i : Nat} (h0 : 0 < i) (hn : i ≤ n) : (fun x => if x = i then shf f n i (i - 1) else shf f n i x) = shf f n (i - 1) := by
  funext x; unfold shf
  by_cases e : x = i
  · subst e; rw [if_pos rfl, if_neg (by omega), if_pos ⟨by omega, hn⟩]
  · rw [if_neg e]
    by_cases e2 : i < x ∧ x ≤ n
    · rw [if_pos e2, if_pos ⟨by omega, e2.2⟩]
    · rw [if_neg e2, if_neg (by omega)]
theorem shb_s (f : Nat → Nat) {P i : Nat} (hP : P ≤ i) : (fun x => if x = i then shb f P i (i + 1) else shb f P i x) = shb f P (i + 1) := by
  funext x; unfold shb
  by_cases e : x = i
  · subst e; rw [if_pos rfl, if_neg (by omega), if_pos ⟨hP, by omega⟩]
  · rw [if_neg e]
    by_cases e2 : P ≤ x ∧ x < i
    · rw [if_pos e2, if_pos ⟨e2.1, by omega⟩]
    · rw [if_neg e2, if_neg (by omega)]
theorem shf_e (f : Nat → Nat) (P n : Nat) : (fun x => if x = P then f n else shf f n P x) = rotIn f P n := by funext x; rfl
theorem shb_e (f : Nat → Nat) {P n : Nat} (hP : P < n) : (fun x => if x = n - 1 then f P else shb f P (n - 1) x) = rotOut f P n := by funext x; rfl
theorem mfresh7 (a b d : Int32) (i : Nat) (h : 7 ≤ i) : mfresh a b d i = 0 := by
  unfold mfresh
  rw [if_neg (by omega), if_neg (by omega), if_neg (by omega), if_neg (by omega), if_neg (by omega)]
theorem LnIs.cnt {L : LT} {k n n2 : Nat} {z : Nat → Int32} {mm : Nat → Nat → Int32} (h : LnIs L k n z mm) (h2 : n2 ≤ 10) : LnIs (lSc L k 2 (nI n2)) k n2 (upd z 2 (nI n2)) (fun P i => mb L k (pm L k P) i) := by
  obtain ⟨⟨a1, a2, a3, a4, a5, a6⟩, hz, hm, hj1, hj2⟩ := h
  refine ⟨⟨h2, ?_, a3, a4, a5, a6⟩, ?_, fun _ _ _ => rfl, ?_, hj2⟩
  · simp [sc, lSc, up2]
  · funext q
    show up2 L.1 k 2 (nI n2) k q = _
    unfold up2 upd
    by_cases e : q = 2
    · rw [if_pos ⟨rfl, e⟩, if_pos e]
    · rw [if_neg (fun y => e y.2), if_neg e]; exact congrFun hz q
  · intro q hq
    show up2 L.1 k 2 (nI n2) k q = 0
    unfold up2
    rw [if_neg (fun y => by omega)]; exact hj1 q hq
/-- settling: so many swaps, and what is then -/
def f_set (n : Nat) : Nat → (Nat → Int32) → (Nat → Nat → Int32) → Nat × (Nat → Int32) × (Nat → Nat → Int32)
  | 0, z, mm => (0, z, mm)
  | f + 1, z, mm => if (f_kp (gof n mm) (n - 1)).1 = -1 then (0, z, mm) else
    let P := (f_kp (gof n mm) (n - 1)).1.toNatClampNeg
    let pr := f_fairc (gof n mm) (z 3) (nI P)
    let r := f_set n f (upd (upd z 4 (z 4 + 1)) 5 (z 5 + pr)) (mswap mm P pr)
    (r.1 + 1, r.2)
theorem f_kp_cases (g : Int32 → Nat → Int32) : ∀ m, (f_kp g m).1 = -1 ∨ ∃ Q, Q < m ∧ (f_kp g m).1 = nI Q
  | 0 => Or.inl rfl
  | m + 1 => by
    have ih := f_kp_cases g m
    unfold f_kp
    split
    · rcases ih with h | ⟨Q, hQ, e⟩
      · exact Or.inl h
      · exact Or.inr ⟨Q, by omega, e⟩
    · split
      · exact Or.inr ⟨m, by omega, rfl⟩
      · rcases ih with h | ⟨Q, hQ, e⟩
        · exact Or.inl h
        · exact Or.inr ⟨Q, by omega, e⟩
theorem f_kp_some {g : Int32 → Nat → Int32} {m : Nat} (h : ¬ (f_kp g m).1 = -1) : ∃ Q, Q < m ∧ (f_kp g m).1 = nI Q := (f_kp_cases g m).resolve_left h
theorem f_set_stop {n : Nat} {z : Nat → Int32} {mm : Nat → Nat → Int32} (h : (f_kp (gof n mm) (n - 1)).1 = -1) (f : Nat) : f_set n f z mm = (0, z, mm) := by
  cases f with
  | zero => rfl
  | succ f => unfold f_set; rw [if_pos h]
theorem f_set_go {n Q : Nat} {z : Nat → Int32} {mm : Nat → Nat → Int32} (hn : n ≤ 10) (hQ : Q < n - 1) (h : (f_kp (gof n mm) (n - 1)).1 = nI Q) (f : Nat) : f_set n (f + 1) z mm = ((f_set n f (upd (upd z 4 (z 4 + 1)) 5 (z 5 + f_fairc (gof n mm) (z 3) (nI Q))) (mswap mm Q (f_fairc (gof n mm) (z 3) (nI Q)))).1 + 1, (f_set n f (upd (upd z 4 (z 4 + 1)) 5 (z 5 + f_fairc (gof n mm) (z 3) (nI Q))) (mswap mm Q (f_fairc (gof n mm) (z 3) (nI Q)))).2) := by
  have hne : ¬ nI Q = -1 := fun e => by
    have h1 := nI_pos' (n := Q) (by omega)
    rw [e] at h1; exact absurd h1 (by decide)
  rw [f_set, h, if_neg hne, nI_clamp (by omega)]
theorem mins_eq (mm : Nat → Nat → Int32) (P : Nat) (f g : Nat → Int32) (X q : Nat) : (fun x => if x = P + 1 then mlose ((fun x => if x = P then f else (fun x => if x < P then mm x else if x = P then g else mm (x - 1)) x) (P + 1)) else (fun x => if x = P then f else (fun x => if x < P then mm x else if x = P then g else mm (x - 1)) x) x) X q = mins mm P f X q := by
  unfold mins
  by_cases e1 : X = P + 1
  · subst e1; simp [show ¬ P + 1 < P by omega]
  · by_cases e0 : X = P
    · subst e0; simp
    · by_cases e2 : X < P
      · simp [e1, e0, e2]
      · simp [e1, e0, e2]
theorem mrem_eq (mm : Nat → Nat → Int32) (P : Nat) (X q : Nat) : (fun x => if x = P then mlose ((fun x => if x < P then mm x else mm (x + 1)) P) else (fun x => if x < P then mm x else mm (x + 1)) x) X q = mrem mm P X q := by
  unfold mrem
  by_cases e0 : X = P
  · subst e0; simp
  · by_cases e2 : X < P
    · simp [e0, e2]
    · simp [e0, e2]
