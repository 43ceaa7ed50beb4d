/-! LINES: what a line is, read by places -/
/-- line k is in order, and has n members -/
def LnOk (L : LT) (k n : Nat) : Prop := n ≤ 10 ∧ sc L k 2 = nI n ∧ (∀ j, j < 10 → pm L k j < 10) ∧ (∀ i j, i < 10 → j < 10 → pm L k i = pm L k j → i = j) ∧ (mb L k 10 0 = -1 ∧ mb L k 10 1 = 0 ∧ mb L k 10 2 = 0 ∧ mb L k 10 3 = 0 ∧ mb L k 10 4 = 0 ∧ mb L k 10 5 = -1 ∧ mb L k 10 6 = 0) ∧ ∀ j, j < 11 → mb L k j 6 = 0 ∨ mb L k j 6 = 1
/-- which of its objects stands at a place: 10 is nobody -/
def ix (L : LT) (k : Nat) (p : Int32) : Nat := if ¬ p < 0 ∧ ¬ sc L k 2 ≤ p then pm L k p.toNatClampNeg else 10
def gm (L : LT) (k : Nat) (p : Int32) (i : Nat) : Int32 := mb L k (ix L k p) i
theorem ix_lt {L : LT} {k n : Nat} (h : LnOk L k n) (p : Int32) : ix L k p < 11 := by
  unfold ix
  split
  · rename_i hc
    obtain ⟨P, hP0, rfl⟩ := nI_of hc.1
    by_cases hP : P < n
    · rw [nI_clamp (by have := h.1; omega)]
      have := h.2.2.1 P (by have := h.1; omega); omega
    · exfalso
      apply hc.2
      rw [h.2.1]
      exact nI_le (by omega) hP0
  · omega
theorem ix_in {L : LT} {k n P : Nat} (h : LnOk L k n) (hP : P < n) : ix L k (nI P) = pm L k P := by
  have := h.1
  unfold ix
  rw [if_pos ⟨nI_pos (by omega), by rw [h.2.1]; exact nI_ge hP (by omega)⟩, nI_clamp (by omega)]
theorem ix_neg {L : LT} {k : Nat} {p : Int32} (h : p < 0) : ix L k p = 10 := by unfold ix; rw [if_neg (fun q => q.1 h)]
theorem ix_far {L : LT} {k : Nat} {p : Int32} (h : sc L k 2 ≤ p) : ix L k p = 10 := by unfold ix; rw [if_neg (fun q => q.2 h)]
theorem ix_of {L : LT} {k n : Nat} (h : LnOk L k n) {p : Int32} (h1 : ¬ p < 0) (h2 : ¬ sc L k 2 ≤ p) : ∃ P, P < n ∧ p = nI P ∧ ix L k p = pm L k P := by
  obtain ⟨P, hP, rfl⟩ := nI_of h1
  by_cases hn : P < n
  · exact ⟨P, hn, rfl, ix_in h hn⟩
  · exfalso; apply h2; rw [h.2.1]; exact nI_le (by omega) hP
theorem gm_b {L : LT} {k n : Nat} (h : LnOk L k n) (p : Int32) : gm L k p 6 = 0 ∨ gm L k p 6 = 1 := h.2.2.2.2.2 _ (ix_lt h p)
theorem n_lt {n : Nat} (h : n ≤ 10) : n < 2 ^ 31 := by omega
def sI (f : Nat → Int32) : Nat → Int32
  | 0 => 0
  | n + 1 => sI f n + f n
theorem cT {L : LT} {k n i : Nat} (h : LnOk L k n) (hi : i ≤ n) (c : sc L k 2 ≤ nI i) : i = n := by
  have := h.1
  rcases Nat.lt_or_ge i n with q | q
  · exact absurd (by rw [h.2.1] at c; exact c) (nI_ge q (by omega))
  · omega
theorem cF {L : LT} {k n i : Nat} (h : LnOk L k n) (hi : i ≤ n) (c : ¬ sc L k 2 ≤ nI i) : i < n := by
  have := h.1
  rcases Nat.lt_or_ge i n with q | q
  · exact q
  · exact absurd (by rw [h.2.1]; exact nI_le q (by omega)) c
theorem sc1 {L : LT} {k n : Nat} (h : LnOk L k n) (hn : 0 < n) : sc L k 2 - 1 = nI (n - 1) := by
  rw [h.2.1]; obtain ⟨q, rfl⟩ : ∃ q, n = q + 1 := ⟨n - 1, by omega⟩
  exact nI_pred q
theorem cT1 {L : LT} {k n i : Nat} (h : LnOk L k n) (hi : i ≤ n - 1) (c : sc L k 2 - 1 ≤ nI i) : i = n - 1 := by
  have := h.1
  rcases Nat.eq_zero_or_pos n with h0 | h0
  · omega
  · rw [sc1 h h0] at c
    rcases Nat.lt_or_ge i (n - 1) with q | q
    · exact absurd c (nI_ge q (by omega))
    · omega
theorem cF1 {L : LT} {k n i : Nat} (h : LnOk L k n) (hi : i ≤ n - 1) (c : ¬ sc L k 2 - 1 ≤ nI i) : i < n - 1 := by
  have := h.1
  rcases Nat.eq_zero_or_pos n with h0 | h0
  · exfalso; apply c; have h2 := h.2.1; subst h0; rw [h2, show i = 0 by omega]; decide
  · rcases Nat.lt_or_ge i (n - 1) with q | q
    · exact q
    · exact absurd (by rw [sc1 h h0]; exact nI_le q (by omega)) c
def f_gain (g : Int32 → Nat → Int32) (p : Int32) : Int32 := g (p + 1) 2 * g p 3
def f_loss (g : Int32 → Nat → Int32) (p : Int32) : Int32 := g p 2 * g (p + 1) 3
def f_sur (g : Int32 → Nat → Int32) (p : Int32) : Int32 := g (p + 1) 2 * g p 3 - g p 2 * g (p + 1) 3
def f_fairc (g : Int32 → Nat → Int32) (sp p : Int32) : Int32 := if 0 < f_sur g p then f_loss g p + f_sur g p * sp / 100 else -1
def f_fr (g : Int32 → Nat → Int32) (p : Int32) : Int32 := g (p + 1) 6
def f_held (g : Int32 → Nat → Int32) (p : Int32) : Int32 := if g p 6 = 0 ∧ g (p + 1) 6 = 0 ∧ g (p + 2) 6 = 0 then 0 else 1
def f_hind (g : Int32 → Nat → Int32) (p : Int32) : Int32 := if f_fr g p = 0 then (if f_fr g (p - 1) = 0 then (if f_fr g (p + 1) = 0 then (if 0 < f_sur g p then 0 else 4) else 3) else 2) else 1
def f_would (g : Int32 → Nat → Int32) (p : Int32) : Int32 := if f_hind g p = 0 then 1 else 0
def f_take (g : Int32 → Nat → Int32) (p : Int32) : Int32 := if g (p + 1) 5 = -1 then 0 else if g (p + 1) 5 < f_loss g p then 0 else if f_held g p = 0 then 1 else 0
def f_wait (g : Int32 → Nat → Int32) (P : Nat) : Int32 := sI (fun j => g (nI j) 3) P
def f_cost (g : Int32 → Nat → Int32) (P : Nat) : Int32 := g (nI P) 1 * f_wait g P
def f_total (g : Int32 → Nat → Int32) (n : Nat) : Int32 := sI (fun P => f_cost g P) n
def f_told (g : Int32 → Nat → Int32) (n : Nat) : Int32 := sI (fun P => g (nI P) 2 * f_wait g P) n
def f_wc (g : Int32 → Nat → Int32) (a b : Int32) : Int32 := g b 1 * g a 3
def imin (a b : Int32) : Int32 := if b < a then b else a
def f_best (g : Int32 → Nat → Int32) (n : Nat) : Int32 := sI (fun b => sI (fun a => imin (f_wc g (nI a) (nI b)) (f_wc g (nI b) (nI a))) b) n
def f_wrong (g : Int32 → Nat → Int32) (n : Nat) : Int32 := sI (fun b => sI (fun a => if f_wc g (nI a) (nI b) ≤ f_wc g (nI b) (nI a) then 0 else 1) b) n
def f_willing (g : Int32 → Nat → Int32) (n : Nat) : Int32 := sI (fun j => if f_hind g (nI j) = 0 then 1 else 0) (n - 1)
def f_offers (g : Int32 → Nat → Int32) (n : Nat) : Int32 := sI (fun j => if g (nI j) 5 = -1 then 0 else 1) n
def f_welcome (g : Int32 → Nat → Int32) (n : Nat) : Int32 := sI (fun j => if f_take g (nI j) = 0 then 0 else 1) (n - 1)
def f_frs (g : Int32 → Nat → Int32) (n : Nat) : Int32 := sI (fun j => if f_fr g (nI j) = 0 then 0 else 1) (n - 1)
def f_frn (g : Int32 → Nat → Int32) (p : Int32) : Int32 := (if f_fr g (p - 1) = 0 then 0 else 1) + (if f_fr g p = 0 then 0 else 1)
def f_kp (g : Int32 → Nat → Int32) : Nat → Int32 × Int32
  | 0 => (-1, 0)
  | i + 1 => if f_sur g (nI i) ≤ (f_kp g i).2 then f_kp g i else if f_held g (nI i) = 0 then (nI i, f_sur g (nI i)) else f_kp g i
def f_plc (g : Int32 → Nat → Int32) (q : Int32) : Nat → Nat → Int32
  | 0, _ => -1
  | d + 1, i => if g (nI i) 0 = q then nI i else f_plc g q d (i + 1)
def f_place (g : Int32 → Nat → Int32) (n : Nat) (q : Int32) : Int32 := f_plc g q n 0
def f_pval (g : Int32 → Nat → Int32) (sp p : Int32) (w : Nat) : Int32 := match w with
  | 0 => f_gain g p
  | 1 => f_loss g p
  | 2 => f_sur g p
  | 3 => f_fairc g sp p
  | _ => if f_fr g p = 0 then 0 else 1
def f_mval (g : Int32 → Nat → Int32) (P : Nat) (w : Nat) : Int32 := match w with
  | 0 => nI P
  | 1 => g (nI P) 1
  | 2 => g (nI P) 2
  | 3 => g (nI P) 3
  | 4 => f_wait g P
  | 5 => f_cost g P
  | 6 => g (nI P) 4
  | 7 => g (nI P) 5
  | 8 => g (nI P + 1) 5
  | _ => f_frn g (nI P)
def f_wval (g : Int32 → Nat → Int32) (n : Nat) (z : Nat → Int32) (w : Nat) : Int32 := match w with
  | 0 => nI n
  | 1 => z 3
  | 2 => f_total g n
  | 3 => f_told g n
  | 4 => f_best g n
  | 5 => f_willing g n
  | 6 => f_offers g n
  | 7 => f_welcome g n
  | 8 => f_frs g n
  | 9 => z 4
  | 10 => z 5
  | 11 => z 6
  | _ => z 7
theorem eqOfLe {i N : Nat} (hi : i ≤ N) (hN : N < 2 ^ 31) (c : nI N ≤ nI i) : i = N := by
  rcases Nat.lt_or_ge i N with q | q
  · exact absurd c (nI_ge q hN)
  · omega
theorem ltOfNle {i N : Nat} (hi : i < 2 ^ 31) (c : ¬ nI N ≤ nI i) : i < N := by
  rcases Nat.lt_or_ge i N with q | q
  · exact q
  · exact absurd (nI_le q hi) c
theorem sI_u {f : Nat → Int32} {a : Nat} {xa v : Int32} (ea : xa = sI f a) (hv : f a = v) : xa + v = sI f (a + 1) := by rw [ea, ← hv]; rfl
theorem sI_t {f : Nat → Int32} {a : Nat} {xa xb v : Int32} (eb : xb = xa + sI f a) (hv : f a = v) : xb + v = xa + sI f (a + 1) := by rw [eb, ← hv, Int32.add_assoc]; rfl
theorem sI_z {f : Nat → Int32} {a : Nat} {xa xb : Int32} (eb : xb = xa + sI f a) (hv : f a = 0) : xb = xa + sI f (a + 1) := by
  rw [eb]; show xa + sI f a = xa + (sI f a + f a); rw [hv, Int32.add_zero]
theorem mm_X4 {p : Program} {l : Launch} {e : Env} {R : Room} {s : State} {m : MethodId} {args : Array Value} {below : List Frame} {meth : Method} {c : Code} {H : Heap} {locs : List Loc} {cells slots : Nat} {Q : State → Prop} {E : GE} {cc : ByteArray} {nL pc : Nat} {ls : Array Slot} {rest : List Value} (C : Cx E p s m meth c cc RX4 nL) {x y : Int32} (hdg : decode cc pc = .ok (.invokestatic 134, 3)) (hls : ls.size = nL) (hR : 1 ≤ R.frames ∧ (rest.map fun v => v.category).sum + 13 ≤ R.locals) (hf : cells ≤ R.cells ∧ slots ≤ R.slots) (kk : W p l e R s m args below meth c H locs cells slots Q (F0 m (pc + 3) ls (.int (imin x y) :: rest))) : W p l e R s m args below meth c H locs cells slots Q (F0 m pc ls (.int y :: .int x :: rest)) :=
  va_mmin C.x C.b (C.ml.trans hls.symm) C.ow (C.ts _ km_X4_134) (C.ts _ kt_J9_min_7cf53) (C.ts _ k0_J9) (C.ts _ kc_J9_min_7cf53) hR.1 hR.2 hf.1 hf.2 hdg kk
