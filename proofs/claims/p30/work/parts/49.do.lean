/-! LAW: what the changes do, by values -/
def zJ (n : Nat) (z : Nat → Int32) : Nat → Int32 := upd (upd z 2 (nI (n + 1))) 7 (z 7 + 1)
def zS (z : Nat → Int32) (d : Int32) : Nat → Int32 := upd (upd z 4 (z 4 + 1)) 5 (z 5 + d)
theorem jf_0 {n P : Nat} {mm : Nat → Nat → Int32} (hn : n < 10) {a b : Int32} (ha : f_in a 0 99 = true) (hb : f_in b 1 30 = true) (hP : P ≤ n) (h6 : gof n mm (nI P) 6 = 0) : f_jf (gof n mm) n a b (nI P) = 0 := by
  unfold f_jf
  rw [if_pos ha, if_pos hb, if_pos (f_in_nI rfl ⟨hP, by omega⟩), if_neg (show ¬ (10 : Int32) ≤ nI n from nI_ge (b := 10) hn (by omega)), if_pos h6]
theorem QOk.push {k mc : Nat} {cv : LVt} {sv : Nat → LVt} (h : QOk k cv) (hs : ∀ j, j < mc → QOk k (sv j)) (h4 : mc ≤ 4) : ∀ j, j < (f_push cv mc sv).1 → QOk k ((f_push cv mc sv).2 j) := by
  intro j hj
  unfold f_push at *
  by_cases e : mc < 4
  · rw [if_pos e] at *
    show QOk k (if j = mc then cv else sv j)
    split
    · exact h
    · have hj : j < mc + 1 := hj
      exact hs j (by omega)
  · rw [if_neg e] at *
    show QOk k (if j = 3 then cv else sv (j + 1))
    split
    · exact h
    · have hj : j < 4 := hj
      exact hs (j + 1) (by omega)
/-- what a change leaves behind -/
def LX (k : Nat) (S S1 : ST) : Prop := ∃ cv mc sv, XI S1 cv mc sv ∧ QOk k cv ∧ (∀ j, j < mc → QOk k (sv j)) ∧ S1.2.2 = S.2.2
theorem LX.of {k mc : Nat} {S S1 : ST} {c cv : LVt} {sv : Nat → LVt} (hX : XI S1 cv (f_push c mc sv).1 (f_push c mc sv).2) (h : QOk (k + 1) cv) (hc : QOk k c) (hs : ∀ j, j < mc → QOk k (sv j)) (h4 : mc ≤ 4) (e : S1.2.2 = S.2.2) : LX (k + 1) S S1 :=
  ⟨cv, _, _, hX, h, QOk.push (hc.mono (Nat.le_succ k)) (fun j hj => (hs j hj).mono (Nat.le_succ k)) h4, e⟩
theorem LX.id {k mc : Nat} {S : ST} {cv : LVt} {sv : Nat → LVt} (hX : XI S cv mc sv) (h : QOk k cv) (hs : ∀ j, j < mc → QOk k (sv j)) : LX (k + 1) S S :=
  ⟨cv, mc, sv, hX, h.mono (Nat.le_succ k), fun j hj => (hs j hj).mono (Nat.le_succ k), rfl⟩
theorem txt_k {S S1 : ST} (hL : (sT S).1 1 = nI 0) (e : S1.2.2 = S.2.2) : (sT S1).1 1 = nI 0 := (congrArg (fun q => q.1.1 1) e).trans hL
theorem txt_2 {S S1 : ST} (hL : (sT S).1 1 = nI 0) (e : S1.2 = S.2) : (sT S1).1 1 = nI 0 := txt_k hL (congrArg (fun q => q.2) e)
theorem d_join {l : Launch} {E : GE} (hE : Env0 E) {S : ST} {X : EX} (hX : Env1 E X) {k n : Nat} {z : Nat → Int32} {mm : Nat → Nat → Int32} {mc : Nat} {sv : Nat → LVt} (hXI : XI S (n, z, mm) mc sv) (hQ : QOk k (n, z, mm)) (h10 : n < 10) {a b : Int32} (ha : f_in a 0 99 = true) (hb : f_in b 1 30 = true) : MW l E yX6_join cX6_join 3 (some .int) 6 139 S [.ref (gA E 83), .int a, .int b] (fun v S1 => v = some (.int (z 7)) ∧ XI S1 (n + 1, zJ n z, mins mm n (mfresh (z 7) a b)) (f_push (n, z, mm) mc sv).1 (f_push (n, z, mm) mc sv).2 ∧ S1.2.2 = S.2.2) := by
  exact c_X6_join hE hX hXI a b 1000 rfl (jf_0 h10 ha hb (Nat.le_refl n) (by rw [gof_far mm (Nat.le_refl _) (by omega)]; rfl))
theorem d_joinAt {l : Launch} {E : GE} (hE : Env0 E) {S : ST} {X : EX} (hX : Env1 E X) {k n : Nat} {z : Nat → Int32} {mm : Nat → Nat → Int32} {mc : Nat} {sv : Nat → LVt} (hXI : XI S (n, z, mm) mc sv) (hQ : QOk k (n, z, mm)) (h10 : n < 10) {a b d : Int32} (ha : f_in a 0 99 = true) (hb : f_in b 1 30 = true) {P : Nat} (hP : P < n) (h6 : mm P 6 = 0) (ed : d = nI P) : MW l E yX6_joinAt cX6_joinAt 4 (some .int) 6 139 S [.ref (gA E 83), .int a, .int b, .int d] (fun v S1 => v = some (.int (z 7)) ∧ XI S1 (n + 1, zJ n z, mins mm P (mfresh (z 7) a b)) (f_push (n, z, mm) mc sv).1 (f_push (n, z, mm) mc sv).2 ∧ S1.2.2 = S.2.2) := by
  subst ed
  have y := c_X6_joinAt (l := l) hE hX hXI a b (nI P) 1000 rfl (jf_0 h10 ha hb (Nat.le_of_lt hP) ((gof_in mm hQ.1 hP 6).trans h6))
  have e : (f_co 1000 n z mm 1 a b (nI P)).2 = (n + 1, zJ n z, mins mm P (mfresh (z 7) a b)) := by
    show (n + 1, zJ n z, mins mm (nI P).toNatClampNeg (mfresh (z 7) a b)) = _
    rw [nI_clamp (by omega)]
  rw [e] at y; exact y
theorem d_leave {l : Launch} {E : GE} (hE : Env0 E) {S : ST} {X : EX} (hX : Env1 E X) {k n : Nat} {z : Nat → Int32} {mm : Nat → Nat → Int32} {mc : Nat} {sv : Nat → LVt} (hXI : XI S (n, z, mm) mc sv) (hQ : QOk k (n, z, mm)) {P : Nat} (hP : P < n) {a : Int32} (ea : a = mm P 0) : MW l E yX6_leave cX6_leave 2 (some .int) 6 139 S [.ref (gA E 83), .int a] (fun v S1 => v = some (.int (nI P)) ∧ XI S1 (n - 1, upd z 2 (nI (n - 1)), mrem mm P) (f_push (n, z, mm) mc sv).1 (f_push (n, z, mm) mc sv).2 ∧ S1.2.2 = S.2.2) := by
  subst ea
  have hn : n ≤ 10 := hQ.1
  have e0 := hQ.pl hP
  have y := c_X6_leave (l := l) hE hX hXI (mm P 0) 1000 rfl (by show f_mf (f_place (gof n mm) n (mm P 0)) 1 = 0; rw [e0]; exact mf_0 (by omega) (by decide))
  have e : f_co 1000 n z mm 2 (mm P 0) 0 0 = (nI P, (n - 1, upd z 2 (nI (n - 1)), mrem mm P)) := by
    show (f_place (gof n mm) n (mm P 0), (n - 1, upd z 2 (nI (n - 1)), mrem mm (f_place (gof n mm) n (mm P 0)).toNatClampNeg)) = _
    rw [e0, nI_clamp (by omega)]
  rw [e] at y; exact y
theorem d_serve {l : Launch} {E : GE} (hE : Env0 E) {S : ST} {X : EX} (hX : Env1 E X) {k n : Nat} {z : Nat → Int32} {mm : Nat → Nat → Int32} {mc : Nat} {sv : Nat → LVt} (hXI : XI S (n, z, mm) mc sv) (hQ : QOk k (n, z, mm)) (h0 : 0 < n) : MW l E yX6_serve cX6_serve 1 (some .int) 6 139 S [.ref (gA E 83)] (fun v S1 => v = some (.int (mm 0 0)) ∧ XI S1 (n - 1, upd (upd z 2 (nI (n - 1))) 6 (z 6 + 1), mrem mm 0) (f_push (n, z, mm) mc sv).1 (f_push (n, z, mm) mc sv).2 ∧ S1.2.2 = S.2.2) := by
  have hn : n ≤ 10 := hQ.1
  exact c_X6_serve hE hX hXI 1000 rfl (show (if 0 < nI n then (0 : Int32) else 3) = 0 from if_pos (nI_lt (a := 0) h0 (by omega)))
theorem d_say {l : Launch} {E : GE} (hE : Env0 E) {S : ST} {X : EX} (hX : Env1 E X) {k n : Nat} {z : Nat → Int32} {mm : Nat → Nat → Int32} {mc : Nat} {sv : Nat → LVt} (hXI : XI S (n, z, mm) mc sv) (hQ : QOk k (n, z, mm)) {P : Nat} (hP : P < n) {a b : Int32} (ea : a = mm P 0) (hb : f_in b 0 99 = true) : MW l E yX6_say cX6_say 3 (some .int) 6 139 S [.ref (gA E 83), .int a, .int b] (fun v S1 => v = some (.int (mm P 2)) ∧ XI S1 (n, z, up2 mm P 2 b) (f_push (n, z, mm) mc sv).1 (f_push (n, z, mm) mc sv).2 ∧ S1.2.2 = S.2.2) := by
  subst ea
  have hn : n ≤ 10 := hQ.1
  have e0 := hQ.pl hP
  have y := c_X6_say (l := l) hE hX hXI (mm P 0) b 1000 rfl (by show f_mf (f_place (gof n mm) n (mm P 0)) (bI (f_in b 0 99)) = 0; rw [e0, hb]; exact mf_0 (by omega) (by decide))
  have e : f_co 1000 n z mm 3 (mm P 0) b 0 = (mm P 2, (n, z, up2 mm P 2 b)) := by
    show (mm (f_place (gof n mm) n (mm P 0)).toNatClampNeg 2, (n, z, up2 mm (f_place (gof n mm) n (mm P 0)).toNatClampNeg 2 b)) = _
    rw [e0, nI_clamp (by omega)]
  rw [e] at y; exact y
theorem d_offer {l : Launch} {E : GE} (hE : Env0 E) {S : ST} {X : EX} (hX : Env1 E X) {k n : Nat} {z : Nat → Int32} {mm : Nat → Nat → Int32} {mc : Nat} {sv : Nat → LVt} (hXI : XI S (n, z, mm) mc sv) (hQ : QOk k (n, z, mm)) {P : Nat} (hP : P < n) (h0 : 0 < P) {a b : Int32} (ea : a = mm P 0) (hb : f_in b 0 9999 = true) : MW l E yX6_offer cX6_offer 3 (some .int) 6 139 S [.ref (gA E 83), .int a, .int b] (fun v S1 => v = some (.int (mm P 5)) ∧ XI S1 (n, z, up2 mm P 5 b) (f_push (n, z, mm) mc sv).1 (f_push (n, z, mm) mc sv).2 ∧ S1.2.2 = S.2.2) := by
  subst ea
  have hn : n ≤ 10 := hQ.1
  have e0 := hQ.pl hP
  have e1 : f_mf (nI P) (bI (f_in b 0 9999)) = 0 := by rw [hb]; exact mf_0 (by omega) (by decide)
  have y := c_X6_offer (l := l) hE hX hXI (mm P 0) b 1000 rfl (by show f_of (f_place (gof n mm) n (mm P 0)) b = 0; rw [e0]; unfold f_of; rw [if_pos e1, if_neg (nI_ne0 h0 (by omega))]; exact e1)
  have e : f_co 1000 n z mm 4 (mm P 0) b 0 = (mm P 5, (n, z, up2 mm P 5 b)) := by
    show (mm (f_place (gof n mm) n (mm P 0)).toNatClampNeg 5, (n, z, up2 mm (f_place (gof n mm) n (mm P 0)).toNatClampNeg 5 b)) = _
    rw [e0, nI_clamp (by omega)]
  rw [e] at y; exact y
theorem d_take {l : Launch} {E : GE} (hE : Env0 E) {S : ST} {X : EX} (hX : Env1 E X) {k n : Nat} {z : Nat → Int32} {mm : Nat → Nat → Int32} {mc : Nat} {sv : Nat → LVt} (hXI : XI S (n, z, mm) mc sv) (hQ : QOk k (n, z, mm)) {P : Nat} (hP : P + 1 < n) {a : Int32} (ea : a = mm P 0) (h1 : ¬ mm (P + 1) 5 = -1) (h2 : ¬ mm (P + 1) 5 < mm P 2 * mm (P + 1) 3) (h3 : f_hind (gof n mm) (nI P) = 0 ∨ f_hind (gof n mm) (nI P) = 4) : MW l E yX6_take cX6_take 2 (some .int) 6 139 S [.ref (gA E 83), .int a] (fun v S1 => v = some (.int (mm (P + 1) 5)) ∧ XI S1 (n, zS z (mm (P + 1) 5), mswap mm P (mm (P + 1) 5)) (f_push (n, z, mm) mc sv).1 (f_push (n, z, mm) mc sv).2 ∧ S1.2.2 = S.2.2) := by
  subst ea
  have hn : n ≤ 10 := hQ.1
  have e0 := hQ.pl (show P < n by omega)
  have e1 : ¬ f_take (gof n mm) (nI P) = 0 := by
    intro q
    have y := take_v hn hQ.2.2.1 hP
    rw [if_pos q, if_neg h1, if_neg h2, if_pos h3] at y
    exact absurd y (by decide)
  have y := c_X6_take (l := l) hE hX hXI (mm P 0) 1000 rfl (by show f_tf (gof n mm) (f_place (gof n mm) n (mm P 0)) = 0; rw [e0]; unfold f_tf; rw [if_pos (mf_0 (by omega) (by decide)), if_neg e1]; exact mf_0 (by omega) (by decide))
  have e : f_co 1000 n z mm 5 (mm P 0) 0 0 = (mm (P + 1) 5, (n, zS z (mm (P + 1) 5), mswap mm P (mm (P + 1) 5))) := by
    show (mm ((f_place (gof n mm) n (mm P 0)).toNatClampNeg + 1) 5, (n, zS z (mm ((f_place (gof n mm) n (mm P 0)).toNatClampNeg + 1) 5), mswap mm (f_place (gof n mm) n (mm P 0)).toNatClampNeg (mm ((f_place (gof n mm) n (mm P 0)).toNatClampNeg + 1) 5))) = _
    rw [e0, nI_clamp (by omega)]
  rw [e] at y; exact y
theorem d_swap {l : Launch} {E : GE} (hE : Env0 E) {S : ST} {X : EX} (hX : Env1 E X) {k n : Nat} {z : Nat → Int32} {mm : Nat → Nat → Int32} {mc : Nat} {sv : Nat → LVt} (hXI : XI S (n, z, mm) mc sv) (hQ : QOk k (n, z, mm)) {P : Nat} (hP : P + 1 < n) {a : Int32} (ea : a = nI P) (h3 : f_hind (gof n mm) (nI P) = 0) : MW l E yX6_swap cX6_swap 2 (some .int) 6 139 S [.ref (gA E 83), .int a] (fun v S1 => v = some (.int (pv z mm P 3)) ∧ XI S1 (n, zS z (pv z mm P 3), mswap mm P (pv z mm P 3)) (f_push (n, z, mm) mc sv).1 (f_push (n, z, mm) mc sv).2 ∧ S1.2.2 = S.2.2) := by
  subst ea
  have hn : n ≤ 10 := hQ.1
  have y := c_X6_swap (l := l) hE hX hXI (nI P) 1000 rfl (pf_0 hn hP rfl (by unfold f_would; rw [if_pos h3]; decide))
  have e1 : f_fairc (gof n mm) (z 3) (nI P) = pv z mm P 3 := pv_e hn hQ.2.2.1 hP 3 (by decide)
  have e : f_co 1000 n z mm 6 (nI P) 0 0 = (pv z mm P 3, (n, zS z (pv z mm P 3), mswap mm P (pv z mm P 3))) := by
    show (f_fairc (gof n mm) (z 3) (nI P), (n, zS z (f_fairc (gof n mm) (z 3) (nI P)), mswap mm (nI P).toNatClampNeg (f_fairc (gof n mm) (z 3) (nI P)))) = _
    rw [e1, nI_clamp (by omega)]
  rw [e] at y; exact y
theorem d_befriend {l : Launch} {E : GE} (hE : Env0 E) {S : ST} {X : EX} (hX : Env1 E X) {k n : Nat} {z : Nat → Int32} {mm : Nat → Nat → Int32} {mc : Nat} {sv : Nat → LVt} (hXI : XI S (n, z, mm) mc sv) (hQ : QOk k (n, z, mm)) {P : Nat} (hP : P + 1 < n) {a : Int32} (ea : a = nI P) (h3 : mm (P + 1) 6 = 0) : MW l E yX6_befriend cX6_befriend 2 (some .int) 6 139 S [.ref (gA E 83), .int a] (fun v S1 => v = some (.int (f_frs (gof n (up2 mm (P + 1) 6 1)) n)) ∧ XI S1 (n, z, up2 mm (P + 1) 6 1) (f_push (n, z, mm) mc sv).1 (f_push (n, z, mm) mc sv).2 ∧ S1.2.2 = S.2.2) := by
  subst ea
  have hn : n ≤ 10 := hQ.1
  have y := c_X6_befriend (l := l) hE hX hXI (nI P) 1000 rfl (pf_0 hn hP rfl (by rw [fr_e hn hP, if_pos h3]; decide))
  have e : f_co 1000 n z mm 7 (nI P) 0 0 = (f_frs (gof n (up2 mm (P + 1) 6 1)) n, (n, z, up2 mm (P + 1) 6 1)) := by
    show (f_frs (gof n (up2 mm ((nI P).toNatClampNeg + 1) 6 1)) n, (n, z, up2 mm ((nI P).toNatClampNeg + 1) 6 1)) = _
    rw [nI_clamp (by omega)]
  rw [e] at y; exact y
theorem d_part {l : Launch} {E : GE} (hE : Env0 E) {S : ST} {X : EX} (hX : Env1 E X) {k n : Nat} {z : Nat → Int32} {mm : Nat → Nat → Int32} {mc : Nat} {sv : Nat → LVt} (hXI : XI S (n, z, mm) mc sv) (hQ : QOk k (n, z, mm)) {P : Nat} (hP : P + 1 < n) {a : Int32} (ea : a = nI P) (h3 : mm (P + 1) 6 = 1) : MW l E yX6_part cX6_part 2 (some .int) 6 139 S [.ref (gA E 83), .int a] (fun v S1 => v = some (.int (f_frs (gof n (up2 mm (P + 1) 6 0)) n)) ∧ XI S1 (n, z, up2 mm (P + 1) 6 0) (f_push (n, z, mm) mc sv).1 (f_push (n, z, mm) mc sv).2 ∧ S1.2.2 = S.2.2) := by
  subst ea
  have hn : n ≤ 10 := hQ.1
  have y := c_X6_part (l := l) hE hX hXI (nI P) 1000 rfl (pf_0 hn hP rfl (by rw [fr_e hn hP, h3]; decide))
  have e : f_co 1000 n z mm 8 (nI P) 0 0 = (f_frs (gof n (up2 mm (P + 1) 6 0)) n, (n, z, up2 mm (P + 1) 6 0)) := by
    show (f_frs (gof n (up2 mm ((nI P).toNatClampNeg + 1) 6 0)) n, (n, z, up2 mm ((nI P).toNatClampNeg + 1) 6 0)) = _
    rw [nI_clamp (by omega)]
  rw [e] at y; exact y
theorem d_settle {l : Launch} {E : GE} (hE : Env0 E) {S : ST} {X : EX} (hX : Env1 E X) {k n : Nat} {z : Nat → Int32} {mm : Nat → Nat → Int32} {mc : Nat} {sv : Nat → LVt} (hXI : XI S (n, z, mm) mc sv) (hQ : QOk k (n, z, mm)) {u_c : Nat} {zs : Nat → Int32} {ms : Nat → Nat → Int32} (hS : f_set n 1000 z mm = (u_c, zs, ms)) : MW l E yX6_settle cX6_settle 1 (some .int) 6 139 S [.ref (gA E 83)] (fun v S1 => v = some (.int (nI u_c)) ∧ XI S1 (n, zs, ms) (f_push (n, z, mm) mc sv).1 (f_push (n, z, mm) mc sv).2 ∧ S1.2.2 = S.2.2) := by
  have y := c_X6_settle (l := l) hE hX hXI 1000 rfl
  have e : f_co 1000 n z mm 10 0 0 0 = (nI u_c, (n, zs, ms)) := by
    show (nI (f_set n 1000 z mm).1, (n, (f_set n 1000 z mm).2.1, (f_set n 1000 z mm).2.2)) = _
    rw [hS]
  rw [e] at y; exact y
theorem d_setSplit {l : Launch} {E : GE} (hE : Env0 E) {S : ST} {k n : Nat} {z : Nat → Int32} {mm : Nat → Nat → Int32} {mc : Nat} {sv : Nat → LVt} (hXI : XI S (n, z, mm) mc sv) (hQ : QOk k (n, z, mm)) {a : Int32} (ha : f_in a 0 100 = true) : MW l E yX6_setSplit cX6_setSplit 3 (some .int) 3 66 S [.ref (gA E 83), .int a] (fun v S1 => v = some (.int (z 3)) ∧ XI S1 (n, upd z 3 a, mm) (f_push (n, z, mm) mc sv).1 (f_push (n, z, mm) mc sv).2 ∧ S1.2.2 = S.2.2) := by
  exact c_X6_setSplit hE hXI a (by rw [if_pos ha])
theorem d_settledPlace {l : Launch} {E : GE} (hE : Env0 E) {S : ST} {k n : Nat} {z : Nat → Int32} {mm : Nat → Nat → Int32} {mc : Nat} {sv : Nat → LVt} (hXI : XI S (n, z, mm) mc sv) (hQ : QOk k (n, z, mm)) {u_c : Nat} {zs : Nat → Int32} {ms : Nat → Nat → Int32} (hS : f_set n 1000 z mm = (u_c, zs, ms)) {P : Nat} (hP : P < n) {Q : Nat} (e1 : f_place (gof n ms) n (mm P 0) = nI Q) {a : Int32} (ea : a = mm P 0) : MW l E yX6_settledPlace cX6_settledPlace 2 (some .int) 4 91 S [.ref (gA E 83), .int a] (fun v S1 => v = some (.int (nI Q)) ∧ XI S1 (n, z, mm) mc sv ∧ S1.2 = S.2) := by
  subst ea
  have hn : n ≤ 10 := hQ.1
  have y := c_X6_settledPlace (l := l) hE hXI (mm P 0) 1000 rfl (by rw [hQ.pl hP]; exact mf_0 (by omega) (by decide))
  rw [hS] at y
  have e2 : f_place (gof n (u_c, zs, ms).2.2) n (mm P 0) = nI Q := e1
  rw [e2] at y; exact y
theorem d_profit {l : Launch} {E : GE} (hE : Env0 E) {S : ST} {k n : Nat} {z : Nat → Int32} {mm : Nat → Nat → Int32} {mc : Nat} {sv : Nat → LVt} (hXI : XI S (n, z, mm) mc sv) (hQ : QOk k (n, z, mm)) {P : Nat} (hP : P < n) {a : Int32} (ea : a = mm P 0) {b : Int32} (hb : f_in b 0 99 = true) : MW l E yX6_profit cX6_profit 4 (some .int) 5 116 S [.ref (gA E 83), .int a, .int b] (fun v S1 => v = some (.int (f_pro 1000 n z mm P b)) ∧ XI S1 (n, z, mm) mc sv ∧ S1.2 = S.2) := by
  subst ea
  exact c_X6_profit hE hXI P hP (mm P 0) (hQ.pl hP) b hb 1000 rfl
theorem d_bestLie {l : Launch} {E : GE} (hE : Env0 E) {S : ST} {k n : Nat} {z : Nat → Int32} {mm : Nat → Nat → Int32} {mc : Nat} {sv : Nat → LVt} (hXI : XI S (n, z, mm) mc sv) (hQ : QOk k (n, z, mm)) {P : Nat} (hP : P < n) {a : Int32} (ea : a = mm P 0) {v0 : Int32} (hv : (t_lie (fun w => f_pro 1000 n z mm P (nI w)) 99).2 = v0) : MW l E yX6_bestLie cX6_bestLie 7 (some .int) 5 116 S [.ref (gA E 83), .int a] (fun v S1 => v = some (.int (v0)) ∧ XI S1 (n, z, mm) mc sv ∧ S1.2 = S.2) := by
  subst ea; subst hv
  exact c_X6_bestLie hE hXI P hP (mm P 0) (hQ.pl hP) 1000 rfl
