/-! PUBLIC CALLS: readers by numbers that equal places, bytes, the best lie -/
section PubU
variable {l : Launch} {E : GE} {S : ST} {n : Nat} {z : Nat → Int32} {mm : Nat → Nat → Int32} {k : Nat}
theorem cu_memberValueE (hE : Env0 E) (hk : k < 6) (h : LnIs (sL S) k n z mm) (P : Nat) (hP : P ≤ n) (w : Nat) (hw : w < 10) {a b : Int32} (ea : a = nI P) (eb : b = nI w) : MR l E yX4_memberValue cX4_memberValue 4 (some .int) 3 66 S [.ref (gA E (13 * k)), .int a, .int b] (some (.int (f_mval (gof n mm) P w))) := by
  subst ea; subst eb; exact cu_memberValue hE hk h P hP w hw
theorem cu_pairValueE (hE : Env0 E) (hk : k < 6) (h : LnIs (sL S) k n z mm) (p0 : Int32) (w : Nat) (hw : w < 5) {b : Int32} (eb : b = nI w) : MR l E yX4_pairValue cX4_pairValue 3 (some .int) 2 47 S [.ref (gA E (13 * k)), .int p0, .int b] (some (.int (f_pval (gof n mm) (z 3) p0 w))) := by
  subst eb; exact cu_pairValue hE hk h p0 w hw
end PubU
theorem f_in_w {a : Int32} {u_n : Nat} {b : Int32} (hb : b = nI u_n) (hn : u_n < 2 ^ 31) (h : f_in a 0 b = true) : a.toNatClampNeg ≤ u_n ∧ a = nI a.toNatClampNeg := by
  subst hb
  obtain ⟨P, hP, rfl⟩ := f_in_of hn h
  rw [nI_clamp (by omega)]; exact ⟨hP, rfl⟩
/-- the largest of so many, the first of its kind: its value, its place -/
def t_lie (f : Nat → Int32) : Nat → Int32 × Int32
  | 0 => (f 0, 0)
  | w + 1 => if f (w + 1) ≤ (t_lie f w).1 then t_lie f w else (f (w + 1), nI (w + 1))
theorem XI.ln1 {S : ST} {cv : LVt} {mc : Nat} {sv : Nat → LVt} (h : XI S cv mc sv) : ∃ n1 z1 mm1, LnIs (sL S) 1 n1 z1 mm1 := by
  obtain ⟨t, ht⟩ := h.2.2.1 1 (by decide)
  exact ⟨t.1, t.2.1, t.2.2, ht⟩
theorem f_in_nI {a : Int32} {w u_n : Nat} (e : a = nI w) (h : w ≤ u_n ∧ u_n < 2 ^ 31) : f_in a 0 (nI u_n) = true := by
  subst e
  unfold f_in
  rw [decide_eq_true (nI_pos' (by omega)), decide_eq_true (nI_le h.1 h.2)]; rfl
theorem mf_0 {P : Nat} (h : P < 2 ^ 31) {p1 : Int32} (hp : ¬ p1 = 0) : f_mf (nI P) p1 = 0 := by
  unfold f_mf; rw [if_neg (nI_m1 h), if_neg hp]
theorem pf_0 {n P : Nat} {a p1 t : Int32} (hn : n ≤ 10) (hP : P + 1 < n) (e : a = nI P) (hp : ¬ p1 = 0) : f_pf n a p1 t = 0 := by
  unfold f_pf; rw [if_pos ((f_in_pair hn).mpr ⟨P, hP, e⟩), if_neg hp]
