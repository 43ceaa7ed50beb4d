/-! HISTORY: the line at work, and those that are saved -/
abbrev LVt : Type := Nat × (Nat → Int32) × (Nat → Nat → Int32)
abbrev LnV (L : LT) (k : Nat) (v : LVt) : Prop := LnIs L k v.1 v.2.1 v.2.2
/-- the saved lines are four of the six, apart; m of them are in use -/
def HO (h : HT) (m : Nat) : Prop := m ≤ 4 ∧ h.2 = nI m ∧ (∀ j, j < 4 → 2 ≤ h.1 j ∧ h.1 j < 6) ∧ ∀ i j, i < 4 → j < 4 → h.1 i = h.1 j → i = j
/-- the line at work is c, the m saved ones are sv -/
def XI (S : ST) (c : LVt) (m : Nat) (sv : Nat → LVt) : Prop := LnV (sL S) 0 c ∧ HO (sH S) m ∧ (∀ k, k < 6 → ∃ t, LnV (sL S) k t) ∧ ∀ j, j < m → LnV (sL S) ((sH S).1 j) (sv j)
def hrot (f : Nat → Nat) : Nat → Nat := fun x => if x = 3 then f 0 else if x < 3 then f (x + 1) else f x
def hsh (f : Nat → Nat) (i : Nat) : Nat → Nat := fun x => if x + 1 < i then f (x + 1) else f x
theorem hsh_1 (f : Nat → Nat) : hsh f 1 = f := by funext x; unfold hsh; rw [if_neg (by omega)]
theorem hsh_s (f : Nat → Nat) {i : Nat} (h : 1 ≤ i) : va_up (hsh f i) (i - 1) (hsh f i i) = hsh f (i + 1) := by
  funext x; unfold va_up hsh
  by_cases e : x = i - 1
  · subst e; rw [if_pos rfl, if_neg (by omega), if_pos (by omega), show i - 1 + 1 = i by omega]
  · rw [if_neg e]
    by_cases e2 : x + 1 < i
    · rw [if_pos e2, if_pos (by omega)]
    · rw [if_neg e2, if_neg (by omega)]
theorem hsh_e (f : Nat → Nat) : va_up (hsh f 4) 3 (f 0) = hrot f := by
  funext x; unfold va_up hsh hrot
  by_cases e : x = 3
  · rw [if_pos e, if_pos e]
  · rw [if_neg e, if_neg e]
    by_cases e2 : x < 3
    · rw [if_pos (by omega), if_pos e2]
    · rw [if_neg (by omega), if_neg e2]
def setHi (S : ST) (f : Nat → Nat) (v : Int32) : ST := (S.1, (f, v), S.2.2)
theorem HO.rot {h : HT} (hO : HO h 4) : HO (hrot h.1, 3) 3 := by
  obtain ⟨h1, h2, h3, h4⟩ := hO
  refine ⟨by omega, rfl, ?_, ?_⟩
  · intro j hj
    show 2 ≤ hrot h.1 j ∧ hrot h.1 j < 6
    unfold hrot
    split
    · exact h3 0 (by omega)
    · split
      · exact h3 _ (by omega)
      · exact h3 _ hj
  · intro i j hi hj e
    have e : hrot h.1 i = hrot h.1 j := e
    unfold hrot at e
    split at e
    · split at e
      · omega
      · split at e
        · have := h4 _ _ (by omega) (by omega) e; omega
        · omega
    · split at e
      · split at e
        · have := h4 _ _ (by omega) (by omega) e; omega
        · split at e
          · have := h4 _ _ (by omega) (by omega) e; omega
          · omega
      · omega
def f_push (c : LVt) (m : Nat) (sv : Nat → LVt) : Nat × (Nat → LVt) := if m < 4 then (m + 1, fun j => if j = m then c else sv j) else (4, fun j => if j = 3 then c else sv (j + 1))
theorem LnV.off {k q : Nat} {L L' : LT} {v : LVt} (h : LnV L q v) (ho : OffL k L L') (hq : q ≠ k) : LnV L' q v := LnIs.off h ho hq
/-- one line is written anew: all others stay -/
theorem XI.push {S S1 S2 : ST} {c : LVt} {m : Nat} {sv : Nat → LVt} (h : XI S c m sv) (hm : m < 4) (hU : Up S S1 ((sH S).1 m) c.1 c.2.1 c.2.2) (h2 : S2 = setHn S1 (nI (m + 1))) : XI S2 c (m + 1) (fun j => if j = m then c else sv j) ∧ S2.2.2 = S.2.2 := by
  obtain ⟨a1, ⟨b1, b2, b3, b4⟩, a3, a4⟩ := h
  obtain ⟨u1, u2, u3⟩ := hU
  have eH : sH S1 = sH S := congrArg Prod.fst u1
  have eR : S1.2.2 = S.2.2 := congrArg Prod.snd u1
  subst h2
  have hk := b3 m (by omega)
  refine ⟨⟨LnV.off a1 u2 (by omega), ⟨by omega, rfl, ?_, ?_⟩, ?_, ?_⟩, eR⟩
  · show ∀ j, j < 4 → 2 ≤ (sH S1).1 j ∧ (sH S1).1 j < 6
    rw [eH]; exact b3
  · show ∀ i j, i < 4 → j < 4 → (sH S1).1 i = (sH S1).1 j → i = j
    rw [eH]; exact b4
  · intro k hk6
    by_cases e : k = (sH S).1 m
    · exact ⟨c, by rw [e]; exact u3⟩
    · obtain ⟨t, ht⟩ := a3 k hk6
      exact ⟨t, LnV.off ht u2 e⟩
  · intro j hj
    show LnV (sL S1) ((sH S1).1 j) (if j = m then c else sv j)
    rw [eH]
    by_cases e : j = m
    · subst e; rw [if_pos rfl]; exact u3
    · rw [if_neg e]
      exact LnV.off (a4 j (by omega)) u2 (fun q => e (b4 j m (by omega) (by omega) q))
theorem XI.drop {S S1 : ST} {c : LVt} {sv : Nat → LVt} (h : XI S c 4 sv) (h1 : S1 = setHi S (hrot (sH S).1) 3) : XI S1 c 3 (fun j => sv (j + 1)) ∧ S1.2.2 = S.2.2 := by
  obtain ⟨a1, b, a3, a4⟩ := h
  subst h1
  refine ⟨⟨a1, HO.rot b, a3, ?_⟩, rfl⟩
  intro j hj
  show LnV (sL S) (hrot (sH S).1 j) (sv (j + 1))
  unfold hrot
  rw [if_neg (by omega), if_pos hj]
  exact a4 (j + 1) (by omega)
theorem XI.pop {S S1 S2 : ST} {c : LVt} {m : Nat} {sv : Nat → LVt} (h : XI S c m sv) (hm : 0 < m) (h1 : S1 = setHn S (nI (m - 1))) (hU : Up S1 S2 0 (sv (m - 1)).1 (sv (m - 1)).2.1 (sv (m - 1)).2.2) : XI S2 (sv (m - 1)) (m - 1) sv ∧ S2.2.2 = S.2.2 := by
  obtain ⟨a1, ⟨b1, b2, b3, b4⟩, a3, a4⟩ := h
  obtain ⟨u1, u2, u3⟩ := hU
  subst h1
  have eH : sH S2 = ((sH S).1, nI (m - 1)) := congrArg (fun q => q.1) u1
  have eR : S2.2.2 = S.2.2 := congrArg (fun q => q.2) u1
  refine ⟨⟨u3, ?_, ?_, ?_⟩, eR⟩
  · rw [eH]; exact ⟨by omega, rfl, b3, b4⟩
  · intro k hk6
    by_cases e : k = 0
    · subst e; exact ⟨_, u3⟩
    · obtain ⟨t, ht⟩ := a3 k hk6
      exact ⟨t, LnV.off (L := sL S) ht u2 e⟩
  · intro j hj
    rw [eH]
    exact LnV.off (L := sL S) (a4 j (by omega)) u2 (by have := b3 j (by omega); show (sH S).1 j ≠ 0; omega)
