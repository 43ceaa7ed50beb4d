/-! PUBLIC CALLS: readers by numbers that equal places, bytes, the best lie -/
section PubU
variable {l : Launch} {E : GE} {S : ST} {n : Nat} {z : Nat → Int32} {mm : Nat → Nat → Int32} {k : Nat}
theorem cu_memberValueE (hE : Env0 E) (hk : k < 6) (h : LnIs (sL S) k n z mm) (P : Nat) (hP : P ≤ n) (w : Nat) (hw : w < 10) {a b : Int32} (ea : a = nI P) (eb : b = nI w) : MR l E yX4_memberValue cX4_memberValue 4 (some .int) 3 66 S [.ref (gA E (13 * k)), .int a, .int b] (some (.int (f_mval (gof n mm) P w))) := by
  subst ea; subst eb; exact cu_memberValue hE hk h P hP w hw
theorem cu_pairValueE (hE : Env0 E) (hk : k < 6) (h : LnIs (sL S) k n z mm) (p0 : Int32) (w : Nat) (hw : w < 5) {b : Int32} (eb : b = nI w) : MR l E yX4_pairValue cX4_pairValue 3 (some .int) 2 47 S [.ref (gA E (13 * k)), .int p0, .int b] (some (.int (f_pval (gof n mm) (z 3) p0 w))) := by
  subst eb; exact cu_pairValue hE hk h p0 w hw
end PubU
theorem f_in_w {a : Int32} {u_n : Nat} {b : Int32} (hb : b = nI u_n) (hn : u_n < 2 ^ 31) (h : f_in a 0 b = true) : a.toNatClampNeg ≤ u_n ∧ a = nI a.toNatClampNeg := by
  subst hb
  obtain ⟨P, hP, rfl⟩ := f_in_of hn h
  rw [nI_clamp (by omega)]; exact ⟨hP, rfl⟩
theorem by7 {u_n : Nat} (h : u_n < 128) : vp_nar .byte ((nI u_n).toInt8.toInt32) = nI u_n := by
  rw [pk_vb]
  have : ∀ u_n, u_n < 128 → (nI u_n).toInt8.toInt32 = nI u_n := by decide +kernel
  exact this u_n h
theorem TX.byt {S : ST} {u_n : Nat} {u_b : Nat → Int32} {u_p : Nat} {u_f : Int32} {u_c : Option Nat} {u_g : Nat → Int32} (h : TX S u_n u_b u_p u_f u_c u_g) (u_k : Nat) {x y : Int32} (hx : x = y) : TX (setTb S u_k x) u_n (upd u_b u_k y) u_p u_f u_c u_g := ⟨h.1, h.2.1, h.2.2.1, h.2.2.2.1, by rw [← hx]; exact congrArg (fun q => upd q u_k x) h.2.2.2.2.1, h.2.2.2.2.2⟩
/-- the largest of so many, the first of its kind: its value, its place -/
def t_lie (f : Nat → Int32) : Nat → Int32 × Int32
  | 0 => (f 0, 0)
  | w + 1 => if f (w + 1) ≤ (t_lie f w).1 then t_lie f w else (f (w + 1), nI (w + 1))
theorem XI.ln1 {S : ST} {cv : LVt} {mc : Nat} {sv : Nat → LVt} (h : XI S cv mc sv) : ∃ n1 z1 mm1, LnIs (sL S) 1 n1 z1 mm1 := by
  obtain ⟨t, ht⟩ := h.2.2.1 1 (by decide)
  exact ⟨t.1, t.2.1, t.2.2, ht⟩
