/-! CELLS: what a write does to the state. -/
def up2 {α : Type} (f : Nat → Nat → α) (a b : Nat) (v : α) : Nat → Nat → α := fun x y => if x = a ∧ y = b then v else f x y
def up3 {α : Type} (f : Nat → Nat → Nat → α) (a b d : Nat) (v : α) : Nat → Nat → Nat → α := fun x y z => if x = a ∧ y = b ∧ z = d then v else f x y z
def lSc (L : LT) (k i : Nat) (v : Int32) : LT := (up2 L.1 k i v, L.2)
def lPm (L : LT) (k p j : Nat) : LT := (L.1, up2 L.2.1 k p j, L.2.2)
def lMb (L : LT) (k j i : Nat) (v : Int32) : LT := (L.1, L.2.1, up3 L.2.2 k j i v)
def setL (S : ST) (L : LT) : ST := (L, S.2)
def setHs (S : ST) (i k : Nat) : ST := (S.1, (va_up (sH S).1 i k, (sH S).2), S.2.2)
def setHn (S : ST) (v : Int32) : ST := (S.1, ((sH S).1, v), S.2.2)
def setTs (S : ST) (i : Nat) (v : Int32) : ST := (S.1, S.2.1, (upd (sT S).1 i v, (sT S).2), S.2.2.2)
def setTc (S : ST) (o : Option Nat) : ST := (S.1, S.2.1, ((sT S).1, o, (sT S).2.2), S.2.2.2)
def setTb (S : ST) (i : Nat) (v : Int32) : ST := (S.1, S.2.1, ((sT S).1, (sT S).2.1, upd (sT S).2.2.1 i v, (sT S).2.2.2), S.2.2.2)
def setTn (S : ST) (i : Nat) (v : Int32) : ST := (S.1, S.2.1, ((sT S).1, (sT S).2.1, (sT S).2.2.1, upd (sT S).2.2.2 i v), S.2.2.2)
theorem up2_s {α : Type} (f : Nat → Nat → α) (a b : Nat) (v : α) : up2 f a b v a b = v := by simp [up2]
theorem up3_s {α : Type} (f : Nat → Nat → Nat → α) (a b d : Nat) (v : α) : up3 f a b d v a b d = v := by simp [up3]
theorem pE_line {E : GE} {S S' : ST} (h : S.2 = S'.2) {q : Nat} (hl : ∀ k, k < 6 → q = 13 * k → lnF E (sL S) k = lnF E (sL S') k) (ha : ∀ k, k < 6 → q = 13 * k + 1 → arF E (sL S) k = arF E (sL S') k) (hm : ∀ k j, k < 6 → j < 11 → q = 13 * k + 2 + j → mbF (sL S) k j = mbF (sL S') k j) : pE E S q = pE E S' q := by
  have h1 : sH S = sH S' := congrArg Prod.fst h
  have h2 : sT S = sT S' := congrArg (fun x => x.2.1) h
  unfold pE
  by_cases h78 : q < 78
  · rw [if_pos h78, if_pos h78]
    by_cases h0 : q % 13 = 0
    · rw [if_pos h0, if_pos h0, hl (q / 13) (by omega) (by omega)]
    · rw [if_neg h0, if_neg h0]
      by_cases h1 : q % 13 = 1
      · rw [if_pos h1, if_pos h1, ha (q / 13) (by omega) (by omega)]
      · rw [if_neg h1, if_neg h1, hm (q / 13) (q % 13 - 2) (by omega) (by omega) (by omega)]
  · rw [if_neg h78, if_neg h78, h1, h2]
theorem u_Sc (E : GE) (S : ST) {k i : Nat} (hk : k < 6) (h2 : 2 ≤ i) (h8 : i < 8) (v : Int32) : ∀ q, q < 84 → va_up (pE E S) (13 * k) (.inr (2, (lnF E (sL S) k).set i (.int v))) q = pE E (setL S (lSc (sL S) k i v)) q := by
  intro q hq
  by_cases h : q = 13 * k
  · subst h
    rw [pE_ln E _ hk]
    simp only [va_up, if_pos]
    rcases (show i = 2 ∨ i = 3 ∨ i = 4 ∨ i = 5 ∨ i = 6 ∨ i = 7 by omega) with rfl | rfl | rfl | rfl | rfl | rfl <;> simp [lnF, setL, lSc, up2, sL, sc]
  · simp only [va_up, if_neg h]
    exact pE_line (S := S) (S' := setL S (lSc (sL S) k i v)) rfl (fun k' _ e => by
      have hne : k' ≠ k := by intro e2; subst e2; exact h e
      simp [lnF, setL, lSc, up2, sL, sc, hne]) (fun _ _ _ => rfl) (fun _ _ _ _ _ => rfl)
theorem u_Pm (E : GE) (S : ST) {k : Nat} (hk : k < 6) (p j : Nat) : ∀ q, q < 84 → va_up (pE E S) (13 * k + 1) (.inl (gC E 3, 10, .inr (.inr (.inr (.inr (va_up (fun j => some (gA E (13 * k + 2 + pm (sL S) k j))) p (some (gA E (13 * k + 2 + j))))))))) q = pE E (setL S (lPm (sL S) k p j)) q := by
  intro q hq
  by_cases h : q = 13 * k + 1
  · subst h
    rw [pE_ar E _ hk]
    have hf : va_up (fun j => some (gA E (13 * k + 2 + pm (sL S) k j))) p (some (gA E (13 * k + 2 + j))) = fun x => some (gA E (13 * k + 2 + pm (lPm (sL S) k p j) k x)) := by
      funext x
      by_cases hx : x = p <;> simp [va_up, lPm, up2, pm, hx]
    rw [hf]
    simp only [va_up, if_pos]
    rfl
  · simp only [va_up, if_neg h]
    exact pE_line (S := S) (S' := setL S (lPm (sL S) k p j)) rfl (fun _ _ _ => rfl) (fun k' _ e => by
      have hne : k' ≠ k := by intro e2; subst e2; exact h e
      simp [arF, setL, lPm, up2, sL, pm, hne]) (fun _ _ _ _ _ => rfl)
theorem u_Mb (E : GE) (S : ST) {k j i : Nat} (hk : k < 6) (hj : j < 11) (hi : i < 7) (v : Int32) : ∀ q, q < 84 → va_up (pE E S) (13 * k + 2 + j) (.inr (3, (mbF (sL S) k j).set i (.int v))) q = pE E (setL S (lMb (sL S) k j i v)) q := by
  intro q hq
  by_cases h : q = 13 * k + 2 + j
  · subst h
    rw [pE_mb E _ hk hj]
    simp only [va_up, if_pos]
    rcases (show i = 0 ∨ i = 1 ∨ i = 2 ∨ i = 3 ∨ i = 4 ∨ i = 5 ∨ i = 6 by omega) with rfl | rfl | rfl | rfl | rfl | rfl | rfl <;> simp [mbF, setL, lMb, up3, sL, mb]
  · simp only [va_up, if_neg h]
    exact pE_line (S := S) (S' := setL S (lMb (sL S) k j i v)) rfl (fun _ _ _ => rfl) (fun _ _ _ => rfl) (fun k' j' h6 h11 e => by
      have hne : ¬ (k' = k ∧ j' = j) := by rintro ⟨rfl, rfl⟩; exact h e
      have hn : ∀ z w : Nat, ¬ (k' = k ∧ j' = j ∧ z = w) := fun z w h => hne ⟨h.1, h.2.1⟩
      simp [mbF, setL, lMb, up3, sL, mb, hn])
theorem pE_top {E : GE} {S S' : ST} (h : S.1 = S'.1) {q : Nat} (hq : q < 78) : pE E S q = pE E S' q := by
  unfold pE; rw [if_pos hq, if_pos hq, show sL S = sL S' from h]
theorem u_all {E : GE} {S S' : ST} {i : Nat} {en : va_E} (h : S.1 = S'.1) (hi : 78 ≤ i) (hs : pE E S' i = en) (ho : ∀ q, 78 ≤ q → q < 84 → q ≠ i → pE E S q = pE E S' q) : ∀ q, q < 84 → va_up (pE E S) i en q = pE E S' q := by
  intro q hq
  by_cases e : q = i
  · subst e; simp only [va_up, if_pos]; exact hs.symm
  · simp only [va_up, if_neg e]
    by_cases h8 : q < 78
    · exact pE_top h h8
    · exact ho q (by omega) hq e
theorem q12 {P : Nat → Prop} (h : P 78 ∧ P 79 ∧ P 80 ∧ P 81 ∧ P 82 ∧ P 83) : ∀ q, 78 ≤ q → q < 84 → P q := by
  obtain ⟨a, b, c, d, e, f⟩ := h
  intro q h1 h2
  rcases (show q = 78 ∨ q = 79 ∨ q = 80 ∨ q = 81 ∨ q = 82 ∨ q = 83 by omega) with rfl | rfl | rfl | rfl | rfl | rfl <;> assumption
theorem u_Hn (E : GE) (S : ST) (v : Int32) : ∀ q, q < 84 → va_up (pE E S) 78 (.inr (1, [Value.ref (gA E 79), .int (sH S).2].set 1 (.int v))) q = pE E (setHn S v) q :=
  u_all rfl (by omega) rfl (q12 (P := fun q => q ≠ 78 → pE E S q = pE E (setHn S v) q) ⟨fun h => absurd rfl h, fun _ => rfl, fun _ => rfl, fun _ => rfl, fun _ => rfl, fun _ => rfl⟩)
theorem u_Hs (E : GE) (S : ST) (i k : Nat) : ∀ q, q < 84 → va_up (pE E S) 79 (.inl (gC E 2, 4, .inr (.inr (.inr (.inr (va_up (fun j => some (gA E (13 * (sH S).1 j))) i (some (gA E (13 * k))))))))) q = pE E (setHs S i k) q :=
  u_all rfl (by omega) (by
    show hsF E (va_up (sH S).1 i k, (sH S).2) = _
    have hf : va_up (fun j => some (gA E (13 * (sH S).1 j))) i (some (gA E (13 * k))) = fun x => some (gA E (13 * (va_up (sH S).1 i k) x)) := by
      funext x
      by_cases hx : x = i <;> simp [va_up, hx]
    rw [hf]
    rfl) (q12 (P := fun q => q ≠ 79 → pE E S q = pE E (setHs S i k) q) ⟨fun _ => rfl, fun h => absurd rfl h, fun _ => rfl, fun _ => rfl, fun _ => rfl, fun _ => rfl⟩)
theorem u_Ts (E : GE) (S : ST) {i : Nat} (h1 : 1 ≤ i) (h3 : i ≤ 3) (v : Int32) : ∀ q, q < 84 → va_up (pE E S) 80 (.inr (0, (txF E (sT S)).set i (.int v))) q = pE E (setTs S i v) q :=
  u_all rfl (by omega) (by
    show Sum.inr (0, txF E (upd (sT S).1 i v, (sT S).2)) = _
    rcases (show i = 1 ∨ i = 2 ∨ i = 3 by omega) with rfl | rfl | rfl <;> simp [txF, upd]) (q12 (P := fun q => q ≠ 80 → pE E S q = pE E (setTs S i v) q) ⟨fun _ => rfl, fun _ => rfl, fun h => absurd rfl h, fun _ => rfl, fun _ => rfl, fun _ => rfl⟩)
theorem u_Tc (E : GE) (S : ST) (o : Option Nat) : ∀ q, q < 84 → va_up (pE E S) 80 (.inr (0, (txF E (sT S)).set 4 (va_re (gN E) o))) q = pE E (setTc S o) q :=
  u_all rfl (by omega) rfl (q12 (P := fun q => q ≠ 80 → pE E S q = pE E (setTc S o) q) ⟨fun _ => rfl, fun _ => rfl, fun h => absurd rfl h, fun _ => rfl, fun _ => rfl, fun _ => rfl⟩)
theorem u_Tb (E : GE) (S : ST) (i : Nat) (v : Int32) : ∀ q, q < 84 → va_up (pE E S) 81 (.inl (gC E 0, 150, .inl (upd (sT S).2.2.1 i v))) q = pE E (setTb S i v) q :=
  u_all rfl (by omega) rfl (q12 (P := fun q => q ≠ 81 → pE E S q = pE E (setTb S i v) q) ⟨fun _ => rfl, fun _ => rfl, fun _ => rfl, fun h => absurd rfl h, fun _ => rfl, fun _ => rfl⟩)
theorem u_Tn (E : GE) (S : ST) (i : Nat) (v : Int32) : ∀ q, q < 84 → va_up (pE E S) 82 (.inl (gC E 1, 3, .inl (upd (sT S).2.2.2 i v))) q = pE E (setTn S i v) q :=
  u_all rfl (by omega) rfl (q12 (P := fun q => q ≠ 82 → pE E S q = pE E (setTn S i v) q) ⟨fun _ => rfl, fun _ => rfl, fun _ => rfl, fun _ => rfl, fun h => absurd rfl h, fun _ => rfl⟩)
