/-! START: the state at the law's loop (by program) -/
def z0 : Nat → Int32 := fun i => if i = 3 then 50 else 0
def S0 : ST := ((fun _ => z0, fun _ j => j, fun _ _ i => if i = 0 ∨ i = 5 then -1 else 0), (fun j => 2 + j, 0), (fun i => if i = 3 then -1 else 0, none, fun _ => 0, fun _ => 0), (fun _ => 0, fun _ => 0, fun _ => 0, fun _ => 0, fun _ => 0), fun _ => 0)
def cv0 : LVt := (0, z0, fun _ _ => 0)
theorem LnV.z (k : Nat) : LnV (sL S0) k cv0 := by
  refine ⟨⟨Nat.zero_le _, rfl, fun j hj => hj, fun i j _ _ e => e, ⟨rfl, rfl, rfl, rfl, rfl, rfl, rfl⟩, fun j _ => Or.inl rfl⟩, rfl, fun P hP => absurd hP (Nat.not_lt_zero _), fun i hi => ?_, fun j i hi => ?_⟩
  · show (if i = 3 then (50 : Int32) else 0) = 0
    rw [if_neg (by omega)]
  · show (if i = 0 ∨ i = 5 then (-1 : Int32) else 0) = 0
    rw [if_neg (by omega)]
theorem XI.z : XI S0 cv0 0 (fun _ => cv0) := by
  refine ⟨LnV.z 0, ⟨Nat.zero_le _, rfl, fun j hj => ?_, fun i j _ _ e => ?_⟩, fun k _ => ⟨cv0, LnV.z k⟩, fun j hj => absurd hj (Nat.not_lt_zero _)⟩
  · show 2 ≤ 2 + j ∧ 2 + j < 6
    omega
  · have e : 2 + i = 2 + j := e
    omega
def aL (h0 : Nat) (a0 a1 : Nat → Nat) (qh qs : Nat) (a2 a3 a4 a5 : Nat → Nat) (qt qb qn : Nat) : List Nat := [a0 0, a0 1, a0 2, a0 3, a0 4, a0 5, a0 6, a0 7, a0 8, a0 9, a0 10, a0 11, a0 12, a1 0, a1 1, a1 2, a1 3, a1 4, a1 5, a1 6, a1 7, a1 8, a1 9, a1 10, a1 11, a1 12, a2 0, a2 1, a2 2, a2 3, a2 4, a2 5, a2 6, a2 7, a2 8, a2 9, a2 10, a2 11, a2 12, a3 0, a3 1, a3 2, a3 3, a3 4, a3 5, a3 6, a3 7, a3 8, a3 9, a3 10, a3 11, a3 12, a4 0, a4 1, a4 2, a4 3, a4 4, a4 5, a4 6, a4 7, a4 8, a4 9, a4 10, a4 11, a4 12, a5 0, a5 1, a5 2, a5 3, a5 4, a5 5, a5 6, a5 7, a5 8, a5 9, a5 10, a5 11, a5 12, qh, qs, qt, qb, qn, h0]
abbrev lnO (ad : Nat → Nat) (c3 : ClassId) : va_W := [(ad 0, .inr (2, lF (ad 1) (ad 12) 50)), qC (ad 1) c3 10 (arL ad), mC (ad 2), mC (ad 3), mC (ad 4), mC (ad 5), mC (ad 6), mC (ad 7), mC (ad 8), mC (ad 9), mC (ad 10), mC (ad 11), mC (ad 12)]
abbrev Wl (h0 : Nat) (a0 a1 : Nat → Nat) (qh qs : Nat) (a2 a3 a4 a5 : Nat → Nat) (qt qb qn : Nat) (c0 c1 c2 c3 : ClassId) : va_W := lnO a0 c3 ++ lnO a1 c3 ++ lnO a2 c3 ++ lnO a3 c3 ++ lnO a4 c3 ++ lnO a5 c3 ++ [(qh, .inr (1, [.ref qs, .int 0])), qC qs c2 4 (hsL a2 a3 a4 a5), (qt, .inr (0, txV qb qn)), (qb, .inl (c0, zA 150)), (qn, .inl (c1, zA 3)), (h0, .inr (4, quV (a0 0) (a1 0) qh qt))]
abbrev Wf (h0 : Nat) (a0 a1 : Nat → Nat) (qh qs : Nat) (a2 a3 a4 a5 : Nat → Nat) (qt qb qn : Nat) (c0 c1 c2 c3 : ClassId) : va_W := qW h0 a0 a1 qh qs a2 a3 a4 a5 qt qb qn c0 c1 c2 c3
def posL : List Nat := [1, 2, 4, 5, 6, 7, 8, 9, 10, 11, 12, 13, 3, 14, 15, 17, 18, 19, 20, 21, 22, 23, 24, 25, 26, 16, 29, 30, 32, 33, 34, 35, 36, 37, 38, 39, 40, 41, 31, 42, 43, 45, 46, 47, 48, 49, 50, 51, 52, 53, 54, 44, 55, 56, 58, 59, 60, 61, 62, 63, 64, 65, 66, 67, 57, 68, 69, 71, 72, 73, 74, 75, 76, 77, 78, 79, 80, 70, 27, 28, 81, 82, 83, 0]
def EE (D : va_G) (s : State) (av : Array Value) (ad : Nat → Nat) (h0 : Nat) (a0 a1 : Nat → Nat) (qh qs : Nat) (a2 a3 a4 a5 : Nat → Nat) (qt qb qn : Nat) (c0 c1 c2 c3 : ClassId) : GE := (D, fun i => [c0, c1, c2, c3].getD i c0, fun i => (aL h0 a0 a1 qh qs a2 a3 a4 a5 qt qb qn).getD i 0, s, av, ad)
set_option maxHeartbeats 8000000 in
set_option maxRecDepth 100000 in
theorem start_P {D : va_G} {s : State} {av : Array Value} {ad : Nat → Nat} (h0 : Nat) (a0 a1 : Nat → Nat) (qh qs : Nat) (a2 a3 a4 a5 : Nat → Nat) (qt qb qn : Nat) (c0 c1 c2 c3 : ClassId) {H : Heap} {A : Nat → Prop} (hP : va_P D vwCl (Wf h0 a0 a1 qh qs a2 a3 a4 a5 qt qb qn c0 c1 c2 c3) H) (hD : va_D A (Wf h0 a0 a1 qh qs a2 a3 a4 a5 qt qb qn c0 c1 c2 c3)) : va_P D vwCl (wl (EE D s av ad h0 a0 a1 qh qs a2 a3 a4 a5 qt qb qn c0 c1 c2 c3) (pE (EE D s av ad h0 a0 a1 qh qs a2 a3 a4 a5 qt qb qn c0 c1 c2 c3) S0)) H ∧ va_D A (wl (EE D s av ad h0 a0 a1 qh qs a2 a3 a4 a5 qt qb qn c0 c1 c2 c3) (pE (EE D s av ad h0 a0 a1 qh qs a2 a3 a4 a5 qt qb qn c0 c1 c2 c3) S0)) := by
  have hP := hP.sub (ws' := Wl h0 a0 a1 qh qs a2 a3 a4 a5 qt qb qn c0 c1 c2 c3) posL rfl
  have hD := hD.sub (ws' := Wl h0 a0 a1 qh qs a2 a3 a4 a5 qt qb qn c0 c1 c2 c3) posL (by decide) rfl
  have hP := hP.set (p := 1) hD rfl (arr_cg (g := (fun j => some (gA (EE D s av ad h0 a0 a1 qh qs a2 a3 a4 a5 qt qb qn c0 c1 c2 c3) (13 * 0 + 2 + j)))) (fun j hj => by rcases (show j = 0 ∨ j = 1 ∨ j = 2 ∨ j = 3 ∨ j = 4 ∨ j = 5 ∨ j = 6 ∨ j = 7 ∨ j = 8 ∨ j = 9 by omega) with rfl | rfl | rfl | rfl | rfl | rfl | rfl | rfl | rfl | rfl <;> rfl) (hP 1 _ rfl)) (fun _ _ => rfl)
  have hD := hD.set (p := 1) (e := .inl (c3, 10, .inr (.inr (.inr (.inr (fun j => some (gA (EE D s av ad h0 a0 a1 qh qs a2 a3 a4 a5 qt qb qn c0 c1 c2 c3) (13 * 0 + 2 + j)))))))) rfl
  have hP := hP.set (p := 14) hD rfl (arr_cg (g := (fun j => some (gA (EE D s av ad h0 a0 a1 qh qs a2 a3 a4 a5 qt qb qn c0 c1 c2 c3) (13 * 1 + 2 + j)))) (fun j hj => by rcases (show j = 0 ∨ j = 1 ∨ j = 2 ∨ j = 3 ∨ j = 4 ∨ j = 5 ∨ j = 6 ∨ j = 7 ∨ j = 8 ∨ j = 9 by omega) with rfl | rfl | rfl | rfl | rfl | rfl | rfl | rfl | rfl | rfl <;> rfl) (hP 14 _ rfl)) (fun _ _ => rfl)
  have hD := hD.set (p := 14) (e := .inl (c3, 10, .inr (.inr (.inr (.inr (fun j => some (gA (EE D s av ad h0 a0 a1 qh qs a2 a3 a4 a5 qt qb qn c0 c1 c2 c3) (13 * 1 + 2 + j)))))))) rfl
  have hP := hP.set (p := 27) hD rfl (arr_cg (g := (fun j => some (gA (EE D s av ad h0 a0 a1 qh qs a2 a3 a4 a5 qt qb qn c0 c1 c2 c3) (13 * 2 + 2 + j)))) (fun j hj => by rcases (show j = 0 ∨ j = 1 ∨ j = 2 ∨ j = 3 ∨ j = 4 ∨ j = 5 ∨ j = 6 ∨ j = 7 ∨ j = 8 ∨ j = 9 by omega) with rfl | rfl | rfl | rfl | rfl | rfl | rfl | rfl | rfl | rfl <;> rfl) (hP 27 _ rfl)) (fun _ _ => rfl)
  have hD := hD.set (p := 27) (e := .inl (c3, 10, .inr (.inr (.inr (.inr (fun j => some (gA (EE D s av ad h0 a0 a1 qh qs a2 a3 a4 a5 qt qb qn c0 c1 c2 c3) (13 * 2 + 2 + j)))))))) rfl
  have hP := hP.set (p := 40) hD rfl (arr_cg (g := (fun j => some (gA (EE D s av ad h0 a0 a1 qh qs a2 a3 a4 a5 qt qb qn c0 c1 c2 c3) (13 * 3 + 2 + j)))) (fun j hj => by rcases (show j = 0 ∨ j = 1 ∨ j = 2 ∨ j = 3 ∨ j = 4 ∨ j = 5 ∨ j = 6 ∨ j = 7 ∨ j = 8 ∨ j = 9 by omega) with rfl | rfl | rfl | rfl | rfl | rfl | rfl | rfl | rfl | rfl <;> rfl) (hP 40 _ rfl)) (fun _ _ => rfl)
  have hD := hD.set (p := 40) (e := .inl (c3, 10, .inr (.inr (.inr (.inr (fun j => some (gA (EE D s av ad h0 a0 a1 qh qs a2 a3 a4 a5 qt qb qn c0 c1 c2 c3) (13 * 3 + 2 + j)))))))) rfl
  have hP := hP.set (p := 53) hD rfl (arr_cg (g := (fun j => some (gA (EE D s av ad h0 a0 a1 qh qs a2 a3 a4 a5 qt qb qn c0 c1 c2 c3) (13 * 4 + 2 + j)))) (fun j hj => by rcases (show j = 0 ∨ j = 1 ∨ j = 2 ∨ j = 3 ∨ j = 4 ∨ j = 5 ∨ j = 6 ∨ j = 7 ∨ j = 8 ∨ j = 9 by omega) with rfl | rfl | rfl | rfl | rfl | rfl | rfl | rfl | rfl | rfl <;> rfl) (hP 53 _ rfl)) (fun _ _ => rfl)
  have hD := hD.set (p := 53) (e := .inl (c3, 10, .inr (.inr (.inr (.inr (fun j => some (gA (EE D s av ad h0 a0 a1 qh qs a2 a3 a4 a5 qt qb qn c0 c1 c2 c3) (13 * 4 + 2 + j)))))))) rfl
  have hP := hP.set (p := 66) hD rfl (arr_cg (g := (fun j => some (gA (EE D s av ad h0 a0 a1 qh qs a2 a3 a4 a5 qt qb qn c0 c1 c2 c3) (13 * 5 + 2 + j)))) (fun j hj => by rcases (show j = 0 ∨ j = 1 ∨ j = 2 ∨ j = 3 ∨ j = 4 ∨ j = 5 ∨ j = 6 ∨ j = 7 ∨ j = 8 ∨ j = 9 by omega) with rfl | rfl | rfl | rfl | rfl | rfl | rfl | rfl | rfl | rfl <;> rfl) (hP 66 _ rfl)) (fun _ _ => rfl)
  have hD := hD.set (p := 66) (e := .inl (c3, 10, .inr (.inr (.inr (.inr (fun j => some (gA (EE D s av ad h0 a0 a1 qh qs a2 a3 a4 a5 qt qb qn c0 c1 c2 c3) (13 * 5 + 2 + j)))))))) rfl
  have hP := hP.set (p := 79) hD rfl (arr_cg (g := (fun j => some (gA (EE D s av ad h0 a0 a1 qh qs a2 a3 a4 a5 qt qb qn c0 c1 c2 c3) (13 * (2 + j))))) (fun j hj => by rcases (show j = 0 ∨ j = 1 ∨ j = 2 ∨ j = 3 by omega) with rfl | rfl | rfl | rfl <;> rfl) (hP 79 _ rfl)) (fun _ _ => rfl)
  have hD := hD.set (p := 79) (e := .inl (c2, 4, .inr (.inr (.inr (.inr (fun j => some (gA (EE D s av ad h0 a0 a1 qh qs a2 a3 a4 a5 qt qb qn c0 c1 c2 c3) (13 * (2 + j))))))))) rfl
  exact ⟨hP, hD⟩
