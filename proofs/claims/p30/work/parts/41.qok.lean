/-! VALUES: what holds of each: ranges, numbers apart, the first has neither offer nor friend ahead -/
def Nm (k n : Nat) (z : Nat → Int32) (mm : Nat → Nat → Int32) : Prop := ∃ u_j, u_j ≤ k ∧ z 7 = nI u_j ∧ (∀ P, P < n → ∃ u_a, u_a < u_j ∧ mm P 0 = nI u_a) ∧ ∀ P Q, P < n → Q < n → mm P 0 = mm Q 0 → P = Q
def Of1 (n : Nat) (mm : Nat → Nat → Int32) : Prop := 0 < n → mm 0 5 = -1
def QOk (k : Nat) (cv : LVt) : Prop := cv.1 ≤ 10 ∧ VOk cv.1 cv.2.2 ∧ MmOk cv.1 cv.2.2 ∧ Of1 cv.1 cv.2.2 ∧ Nm k cv.1 cv.2.1 cv.2.2
theorem sg_sg (Q x : Nat) : sg Q (sg Q x) = x := by
  by_cases h1 : x = Q
  · rw [h1, sg_0, sg_1]
  · by_cases h2 : x = Q + 1
    · rw [h2, sg_1, sg_0]
    · rw [sg_o h1 h2, sg_o h1 h2]
theorem sg_lt {Q x n : Nat} (hQ : Q + 1 < n) (hx : x < n) : sg Q x < n := by
  by_cases h1 : x = Q
  · rw [h1, sg_0]; exact hQ
  · by_cases h2 : x = Q + 1
    · rw [h2, sg_1]; omega
    · rw [sg_o h1 h2]; exact hx
section QOks
variable {k n : Nat} {z z2 : Nat → Int32} {mm : Nat → Nat → Int32}
theorem Nm.map (h : Nm k n z mm) {m : Nat} {mq : Nat → Nat → Int32} (f : Nat → Nat) (hz : z2 7 = z 7) (hf : ∀ P, P < m → f P < n ∧ mq P 0 = mm (f P) 0) (hi : ∀ P Q, P < m → Q < m → f P = f Q → P = Q) : Nm k m z2 mq := by
  obtain ⟨u_j, h1, h2, h3, h4⟩ := h
  refine ⟨u_j, h1, hz.trans h2, fun P hP => ?_, fun P Q hP hQ e => ?_⟩
  · obtain ⟨h5, h6⟩ := hf P hP
    rw [h6]; exact h3 _ h5
  · obtain ⟨h5, h6⟩ := hf P hP
    obtain ⟨h7, h8⟩ := hf Q hQ
    rw [h6, h8] at e
    exact hi P Q hP hQ (h4 _ _ h5 h7 e)
theorem Of1.swp (h : Of1 n mm) {Q : Nat} {pr : Int32} : Of1 n (mswap mm Q pr) := by
  intro hn
  rcases Nat.eq_zero_or_pos Q with q | q
  · subst q; rfl
  · unfold mswap; rw [if_neg (by omega), if_neg (by omega), if_neg (by omega)]; exact h hn
theorem QOk.n10 {cv : LVt} (h : QOk k cv) : cv.1 ≤ 10 := h.1
theorem QOk.mono {cv : LVt} (h : QOk k cv) {k2 : Nat} (hk : k ≤ k2) : QOk k2 cv := by
  obtain ⟨h1, h2, h3, h4, u_j, h5, h6⟩ := h
  exact ⟨h1, h2, h3, h4, u_j, Nat.le_trans h5 hk, h6⟩
theorem QOk.zz (h : QOk k (n, z, mm)) (hz : z2 7 = z 7) : QOk k (n, z2, mm) := ⟨h.1, h.2.1, h.2.2.1, h.2.2.2.1, h.2.2.2.2.map (fun x => x) hz (fun P hP => ⟨hP, rfl⟩) (fun P Q _ _ e => e)⟩
theorem QOk.swp (h : QOk k (n, z, mm)) {Q : Nat} (hQ : Q + 1 < n) (hz : z2 7 = z 7) (pr : Int32) : QOk k (n, z2, mswap mm Q pr) :=
  ⟨h.1, h.2.1.swp hQ, h.2.2.1.swp hQ, h.2.2.2.1.swp, h.2.2.2.2.map (sg Q) hz (fun P hP => ⟨sg_lt hQ hP, msw_v P (by omega)⟩) (fun P R _ _ e => by rw [← sg_sg Q P, e, sg_sg])⟩
theorem QOk.set (fu : Nat) : ∀ (z : Nat → Int32) (mm : Nat → Nat → Int32), QOk k (n, z, mm) → QOk k (n, (f_set n fu z mm).2.1, (f_set n fu z mm).2.2) := by
  induction fu with
  | zero => intro z mm h; exact h
  | succ fu ih =>
    intro z mm h
    rcases f_kp_cases (gof n mm) (n - 1) with e | ⟨Q, hQ, e⟩
    · rw [f_set_stop e]; exact h
    · rw [f_set_go h.1 hQ e]
      exact ih _ _ (h.swp (by omega) rfl _)
theorem QOk.rem (h : QOk k (n, z, mm)) {P : Nat} (hP : P < n) (hz : z2 7 = z 7) : QOk k (n - 1, z2, mrem mm P) := by
  refine ⟨by have := h.1; show n - 1 ≤ 10; have : n ≤ 10 := h.1; omega, h.2.1.rem hP, h.2.2.1.rem hP, fun hn => ?_, h.2.2.2.2.map (fun x => if x < P then x else x + 1) hz (fun x hx => ?_) (fun x y _ _ e => ?_)⟩
  · rcases Nat.eq_zero_or_pos P with q | q
    · subst q; show mrem mm 0 0 5 = -1; rw [mrem_at]; rfl
    · show mrem mm P 0 5 = -1; rw [mrem_lo q]; exact h.2.2.2.1 (show 0 < n by omega)
  · have hx : x < n - 1 := hx
    show (if x < P then x else x + 1) < n ∧ mrem mm P x 0 = mm (if x < P then x else x + 1) 0
    rcases (show x < P ∨ x = P ∨ P < x by omega) with q | q | q
    · rw [mrem_lo q, if_pos q]; exact ⟨by omega, rfl⟩
    · subst q; rw [mrem_at, if_neg (by omega)]; exact ⟨by omega, rfl⟩
    · rw [mrem_hi q, if_neg (by omega)]; exact ⟨by omega, rfl⟩
  · have e : (if x < P then x else x + 1) = if y < P then y else y + 1 := e
    split at e
    · split at e <;> omega
    · split at e <;> omega
theorem mins_o {P X : Nat} {f : Nat → Int32} (h : X ≠ P) : mins mm P f X 0 = mm (if X < P then X else X - 1) 0 := by
  rcases (show X < P ∨ X = P + 1 ∨ P + 1 < X by omega) with q | q | q
  · rw [mins_lo q, if_pos q]
  · subst q; rw [mins_p1, if_neg (by omega)]; rfl
  · rw [mins_hi q, if_neg (by omega)]
theorem QOk.ins (h : QOk k (n, z, mm)) {P : Nat} (hP : P ≤ n) (hn : n < 10) (hk : k < 2 ^ 30) {a b : Int32} (ha : f_in a 0 99 = true) (hb : f_in b 1 30 = true) (hz : z2 7 = z 7 + 1) : QOk (k + 1) (n + 1, z2, mins mm P (mfresh (z 7) a b)) := by
  obtain ⟨h1, h2, h3, h4, u_j, h5, h6, h7, h8⟩ := h
  have h6 : z 7 = nI u_j := h6
  refine ⟨hn, h2.ins hP ha hb, h3.ins hP, fun _ => ?_, u_j + 1, by omega, ?_, fun X hX => ?_, fun X Y hX hY e => ?_⟩
  · rcases Nat.eq_zero_or_pos P with q | q
    · subst q; show mins mm 0 _ 0 5 = -1; rw [mins_at]; rfl
    · show mins mm P _ 0 5 = -1; rw [mins_lo q]; exact h4 (show 0 < n by omega)
  · show z2 7 = _; rw [hz, h6, nI_1]
  · have hX : X < n + 1 := hX
    by_cases q : X = P
    · subst q; show ∃ u_a, u_a < u_j + 1 ∧ mins mm X _ X 0 = nI u_a; rw [mins_at]; exact ⟨u_j, by omega, h6⟩
    · show ∃ u_a, u_a < u_j + 1 ∧ mins mm P _ X 0 = nI u_a
      rw [mins_o q]
      obtain ⟨u_a, g1, g2⟩ := h7 (if X < P then X else X - 1) (by show _ < n; split <;> omega)
      exact ⟨u_a, by omega, g2⟩
  · have hX : X < n + 1 := hX
    have hY : Y < n + 1 := hY
    have e : mins mm P (mfresh (z 7) a b) X 0 = mins mm P (mfresh (z 7) a b) Y 0 := e
    have new : ∀ W, W ≠ P → W < n + 1 → mins mm P (mfresh (z 7) a b) W 0 ≠ z 7 := by
      intro W q hW y
      rw [mins_o q] at y
      obtain ⟨u_a, g1, g2⟩ := h7 (if W < P then W else W - 1) (by show _ < n; split <;> omega)
      have g3 : mm (if W < P then W else W - 1) 0 = nI u_a := g2
      rw [g3, h6] at y
      have := (nI_eq (by omega) (by omega)).mp y
      omega
    by_cases q : X = P
    · by_cases r : Y = P
      · omega
      · exfalso; apply new Y r hY; rw [← e, q, mins_at]; rfl
    · by_cases r : Y = P
      · exfalso; apply new X q hX; rw [e, r, mins_at]; rfl
      · rw [mins_o q, mins_o r] at e
        have := h8 _ _ (show (if X < P then X else X - 1) < n by split <;> omega) (show (if Y < P then Y else Y - 1) < n by split <;> omega) e
        split at this
        · split at this <;> omega
        · split at this <;> omega
theorem up2_ne {P i X j : Nat} {v : Int32} (h : j ≠ i) : up2 mm P i v X j = mm X j := if_neg (fun q => h q.2)
theorem Nm.up (h : Nm k n z mm) {P i : Nat} {v : Int32} (hi : i ≠ 0) : Nm k n z (up2 mm P i v) := h.map (fun x => x) rfl (fun x hx => ⟨hx, up2_ne (Ne.symm hi)⟩) (fun _ _ _ _ e => e)
theorem Of1.up (h : Of1 n mm) {P i : Nat} {v : Int32} (hi : i ≠ 5 ∨ 0 < P) : Of1 n (up2 mm P i v) := by
  intro hn
  have : ¬ ((0 : Nat) = P ∧ 5 = i) := by omega
  exact (if_neg this).trans (h hn)
theorem QOk.say (h : QOk k (n, z, mm)) {P : Nat} {b : Int32} (hb : f_in b 0 99 = true) : QOk k (n, z, up2 mm P 2 b) := ⟨h.1, h.2.1.say hb, h.2.2.1.up (by decide), h.2.2.2.1.up (Or.inl (by decide)), h.2.2.2.2.up (by decide)⟩
theorem QOk.off (h : QOk k (n, z, mm)) {P : Nat} (hP : 0 < P) {b : Int32} : QOk k (n, z, up2 mm P 5 b) := ⟨h.1, h.2.1.ot (by omega), h.2.2.1.up (by decide), h.2.2.2.1.up (Or.inr hP), h.2.2.2.2.up (by decide)⟩
theorem QOk.fri (h : QOk k (n, z, mm)) {P : Nat} {b : Int32} (hb : b = 0 ∨ b = 1) : QOk k (n, z, up2 mm (P + 1) 6 b) := ⟨h.1, h.2.1.ot (by omega), h.2.2.1.fr hb, h.2.2.2.1.up (Or.inl (by decide)), h.2.2.2.2.up (by decide)⟩
/-- a member stands where it stands -/
theorem QOk.pl (h : QOk k (n, z, mm)) {P : Nat} (hP : P < n) : f_place (gof n mm) n (mm P 0) = nI P := by
  obtain ⟨Q, hQ, e, e2⟩ := place_has (mm := mm) (q := mm P 0) h.1 ⟨P, hP, rfl⟩
  obtain ⟨_, _, _, _, u_j, _, _, _, h8⟩ := h
  rw [e, h8 Q P hQ hP e2]
theorem QOk.num (h : QOk k (n, z, mm)) (hk : k < 2 ^ 31) {P : Nat} (hP : P < n) : ¬ mm P 0 < 0 := by
  obtain ⟨_, _, _, _, u_j, h5, _, h7, _⟩ := h
  obtain ⟨u_a, g1, g2⟩ := h7 P hP
  have g2 : mm P 0 = nI u_a := g2
  rw [g2]; exact nI_pos (by omega)
end QOks
