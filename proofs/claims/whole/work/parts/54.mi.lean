/-! MODEL: the present state and the saved ones together; what its public calls keep; what a command does to it -/
def KM (S S1 : ST) : Prop := S1.1 = S.1 ∧ S1.2.1 = S.2.1 ∧ S1.2.2.1 = S.2.2.1 ∧ (∀ x, x ≠ 1 → x ≠ 2 → (sM S1).1 x = (sM S).1 x) ∧ (sM S1).2.2.1 = (sM S).2.2.1 ∧ (sM S1).2.2.2.1 = (sM S).2.2.2.1 ∧ sO S1 = sO S
theorem KM.r (S : ST) : KM S S := ⟨rfl, rfl, rfl, fun _ _ _ => rfl, rfl, rfl, rfl⟩
theorem KM.t {S S1 S2 : ST} (h : KM S S1) (h2 : KM S1 S2) : KM S S2 := ⟨h2.1.trans h.1, h2.2.1.trans h.2.1, h2.2.2.1.trans h.2.2.1, fun x hx hy => (h2.2.2.2.1 x hx hy).trans (h.2.2.2.1 x hx hy), h2.2.2.2.2.1.trans h.2.2.2.2.1, h2.2.2.2.2.2.1.trans h.2.2.2.2.2.1, h2.2.2.2.2.2.2.trans h.2.2.2.2.2.2⟩
theorem KM.ro {S S1 : ST} (h : RO S S1) : KM S S1 := ⟨h.1, h.2.1, h.2.2.1, fun x _ _ => congrFun h.2.2.2.1 x, congrArg (fun q => q.1) h.2.2.2.2.1, congrArg (fun q => q.2.1) h.2.2.2.2.1, h.2.2.2.2.2.1⟩
theorem KM.rw {S S1 : ST} {u_r : Nat → Int32} (h : RW S S1 u_r) : KM S S1 := ⟨h.1, h.2.1, h.2.2.1, fun x _ _ => congrFun h.2.2.2.1 x, congrArg (fun q => q.1) h.2.2.2.2.1, congrArg (fun q => q.2.1) h.2.2.2.2.1, h.2.2.2.2.2.1⟩
theorem KM.kp {S S1 : ST} (h : KP S S1) : KM S S1 := ⟨h.1, h.2.1, h.2.2.1, fun x h1 _ => h.2.2.2.1 x h1, congrArg (fun q => q.1) h.2.2.2.2.1, congrArg (fun q => q.2.1) h.2.2.2.2.1, h.2.2.2.2.2⟩
theorem KM.th {S : ST} {x : Int32} : KM S (setM S (mMs (sM S) 2 x)) := ⟨rfl, rfl, rfl, fun _ _ h2 => if_neg h2, rfl, rfl, rfl⟩
theorem TM.km {S S1 : ST} {u_n u_p u_k : Nat} {u_b u_g : Nat → Int32} (h : TM S u_n u_b u_p u_k u_g) (hk : KM S S1) : TM S1 u_n u_b u_p u_k u_g :=
  ⟨(hk.2.2.2.1 4 (by decide) (by decide)).trans h.1, (hk.2.2.2.1 5 (by decide) (by decide)).trans h.2.1, (hk.2.2.2.1 6 (by decide) (by decide)).trans h.2.2.1, fun j hj => by rw [hk.2.2.2.2.1]; exact h.2.2.2.1 j hj, hk.2.2.2.2.2.1.trans h.2.2.2.2⟩
/-- the present state is cv, the saved ones are sv -/
def MI (S : ST) (cv : LVt) (u_m : Nat) (sv : Nat → LVt) : Prop := RI S cv.1 cv.2.1 cv.2.2 ∧ MmOk cv.1 cv.2.2 ∧ SV S u_m sv
/-- the present state is now so, and only the row's present part has changed -/
def LR (S S1 : ST) (cv : LVt) : Prop := RI S1 cv.1 cv.2.1 cv.2.2 ∧ MmOk cv.1 cv.2.2 ∧ RO S S1
theorem MI.lr {S S1 : ST} {cv cw : LVt} {u_m : Nat} {sv : Nat → LVt} (h : MI S cv u_m sv) (h2 : LR S S1 cw) : MI S1 cw u_m sv := ⟨h2.1, h2.2.1, h.2.2.ro h2.2.2⟩
theorem MI.th {S : ST} {cv : LVt} {u_m : Nat} {sv : Nat → LVt} (h : MI S cv u_m sv) (x : Int32) : MI (setM S (mMs (sM S) 2 x)) cv u_m sv := ⟨h.1, h.2.1, h.2.2.1, show (if (1 : Nat) = 2 then x else (sM S).1 1) = _ from (if_neg (by decide)).trans h.2.2.2.1, h.2.2.2.2⟩
theorem LR.th {S S1 : ST} {cv : LVt} (h : LR S S1 cv) : KM S S1 ∧ (sM S1).1 2 = (sM S).1 2 := ⟨KM.ro h.2.2, congrFun h.2.2.2.2.2.1 2⟩
theorem ref0 {a : Int32} (h : (if a = 0 then (0 : Int32) else 1) = 0) : a = 0 := by
  rcases Classical.em (a = 0) with q | q
  · exact q
  · rw [if_neg q] at h; exact absurd h (by decide)
theorem ref1 {a : Int32} (h : ¬ (if a = 0 then (0 : Int32) else 1) = 0) : ¬ a = 0 := fun q => h (by rw [if_pos q])
/-- what a public call of the model answers and leaves -/
def MP (S S1 : ST) (v : Option Value) (u_f u_x : Int32) (cv : LVt) (u_m : Nat) (sv : Nat → LVt) (cw : LVt) (u_k : Nat) (sw : Nat → LVt) : Prop :=
  ∃ x : Int32, v = some (.int x) ∧ (sM S1).1 2 = u_f ∧ KM S S1 ∧ (u_f = 0 → x = u_x ∧ MI S1 cw u_k sw) ∧ (¬ u_f = 0 → MI S1 cv u_m sv)
section MPs
variable {S S1 : ST} {u_f u_x x : Int32} {cv cw : LVt} {u_m u_k : Nat} {sv sw : Nat → LVt}
theorem MP.bad (hF : ¬ u_f = 0) (hI : MI S1 cv u_m sv) (hK : KM S S1) (ht : (sM S1).1 2 = u_f) : MP S S1 (some (.int x)) u_f u_x cv u_m sv cw u_k sw := ⟨x, rfl, ht, hK, fun q => absurd q hF, fun _ => hI⟩
theorem MP.ok (hF : u_f = 0) (hx : x = u_x) (hI : MI S1 cw u_k sw) (hK : KM S S1) (ht : (sM S1).1 2 = u_f) : MP S S1 (some (.int x)) u_f u_x cv u_m sv cw u_k sw := ⟨x, rfl, ht, hK, fun _ => ⟨hx, hI⟩, fun q => absurd hF q⟩
end MPs
section COs
variable {l : Launch} {E : GE} {S : ST} {n : Nat} {z : Nat → Int32} {mm : Nat → Nat → Int32} {mc : Nat} {sv : Nat → LVt}
theorem cm_refuse (hE : Env0 E) (hI : MI S (n, z, mm) mc sv) (p0 : Int32) : MW l E yX7_isRefused cX7_isRefused 2 (some .boolean) 0 0 S [.ref (gA E 84), .int p0] (fun v S1 => v = some (.int (if p0 = 0 then 0 else 1)) ∧ MI S1 (n, z, mm) mc sv ∧ KM S S1 ∧ (sM S1).1 2 = p0) :=
  (c_X7_isRefused hE p0).mono (fun v S1 h => ⟨h.1, by rw [h.2]; exact hI.th p0, by rw [h.2]; exact KM.th, by rw [h.2]; rfl⟩)
theorem cm_saves (hE : Env0 E) (hI : MI S (n, z, mm) mc sv) : MW l E yX7_saves cX7_saves 2 (none : Option Jvm.ClassFile.FieldType) 1 23 S [.ref (gA E 84)] (fun v S1 => v = none ∧ MI S1 (n, z, mm) (f_push (n, z, mm) mc sv).1 (f_push (n, z, mm) mc sv).2 ∧ KM S S1 ∧ (sM S1).1 2 = (sM S).1 2) :=
  (c_X7_saves hE hI.1 hI.2.1 hI.2.2).mono (fun v S1 h => ⟨h.1, ⟨h.2.1, hI.2.1, h.2.2.1⟩, KM.kp h.2.2.2, h.2.2.2.2.2.2.1 2 (by decide)⟩)
theorem cz_joins (hE : Env0 E) (hR : RI S n z mm) (hM : MmOk n mm) (a b : Int32) {d : Int32} (P : Nat) (hP : P ≤ n) (ed : d = nI P) (hn : n < 10) (h6 : P < n → mm P 6 = 0) : MW l E yX7_joins cX7_joins 5 (some .int) 2 46 S [.ref (gA E 84), .int a, .int b, .int d] (fun v S1 => v = some (.int (z 7)) ∧ LR S S1 (n + 1, upd (upd z 2 (nI (n + 1))) 7 (z 7 + 1), mins mm P (mfresh (z 7) a b))) := by
  subst ed
  exact (c_X7_joins hE (UZ.rf S) hR.many hn a b P hP).mono (fun v S1 h => ⟨by rw [h.1, hR.u0.1 5 (by decide) (by decide)], hR.join hn hP h6 h.2.1, hM.ins hP, h.2.2⟩)
theorem cz_0 (hE : Env0 E) (hR : RI S n z mm) (hM : MmOk n mm) {a b d : Int32} (hf : f_ft (gof n mm) n 0 a b d = 0) (fu : Nat) {e : Int32} (ee : e = nI n) : MW l E yX7_joins cX7_joins 5 (some .int) 2 46 S [.ref (gA E 84), .int a, .int b, .int e] (fun v S1 => v = some (.int (f_co fu n z mm 0 a b d).1) ∧ LR S S1 (f_co fu n z mm 0 a b d).2) := by
  have h1 : f_jf (gof n mm) n a b (nI n) = 0 := hf
  exact cz_joins hE hR hM a b n (Nat.le_refl _) ee (jf_in hR.n10 h1).1 (fun q => absurd q (Nat.lt_irrefl _))
theorem cz_1 (hE : Env0 E) (hR : RI S n z mm) (hM : MmOk n mm) {a b d : Int32} (hf : f_ft (gof n mm) n 1 a b d = 0) (fu : Nat) : MW l E yX7_joins cX7_joins 5 (some .int) 2 46 S [.ref (gA E 84), .int a, .int b, .int d] (fun v S1 => v = some (.int (f_co fu n z mm 1 a b d).1) ∧ LR S S1 (f_co fu n z mm 1 a b d).2) := by
  have hn := hR.n10
  have h1 : f_jf (gof n mm) n a b d = 0 := hf
  obtain ⟨h2, _, _, h5, P, hP, e⟩ := jf_in hn h1
  have h7 := cz_joins (l := l) hE hR hM a b P hP e h2 (fun q => by rw [← gof_in mm hn q, ← e]; exact h5)
  have e9 : d.toNatClampNeg = P := by rw [e, nI_clamp (by omega)]
  refine h7.mono (fun v S1 h => ⟨h.1, ?_⟩)
  show LR S S1 (n + 1, upd (upd z 2 (nI (n + 1))) 7 (z 7 + 1), mins mm d.toNatClampNeg (mfresh (z 7) a b))
  rw [e9]; exact h.2
theorem cz_goes (hE : Env0 E) (hR : RI S n z mm) (hM : MmOk n mm) {a : Int32} (P : Nat) (hP : P < n) (ea : a = nI P) : MW l E yX7_goes cX7_goes 3 (none : Option Jvm.ClassFile.FieldType) 2 46 S [.ref (gA E 84), .int a] (fun v S1 => v = none ∧ LR S S1 (n - 1, upd z 2 (nI (n - 1)), mrem mm P)) := by
  subst ea
  exact (c_X7_goes hE (UZ.rf S) hR.many hR.n10 P hP).mono (fun v S1 h => ⟨h.1, hR.go hP h.2.1, hM.rem hP, h.2.2⟩)
theorem cz_2 (hE : Env0 E) (hR : RI S n z mm) (hM : MmOk n mm) {a b d : Int32} (hf : f_ft (gof n mm) n 2 a b d = 0) (fu : Nat) : MW l E yX7_goes cX7_goes 3 (none : Option Jvm.ClassFile.FieldType) 2 46 S [.ref (gA E 84), .int (f_place (gof n mm) n a)] (fun v S1 => v = none ∧ LR S S1 (f_co fu n z mm 2 a b d).2) := by
  have hn := hR.n10
  have h1 : f_mf (f_place (gof n mm) n a) 1 = 0 := hf
  obtain ⟨P, hP, e, _⟩ := mf_in h1
  have e9 : (f_place (gof n mm) n a).toNatClampNeg = P := by rw [e, nI_clamp (by omega)]
  refine (cz_goes (l := l) hE hR hM P hP e).mono (fun v S1 h => ⟨h.1, ?_⟩)
  show LR S S1 (n - 1, upd z 2 (nI (n - 1)), mrem mm (f_place (gof n mm) n a).toNatClampNeg)
  rw [e9]; exact h.2
theorem cz_3 (hE : Env0 E) (hR : RI S n z mm) (hM : MmOk n mm) {a b d : Int32} (hf : f_ft (gof n mm) n 3 a b d = 0) (fu : Nat) : MW l E yX7_says cX7_says 5 (some .int) 2 44 S [.ref (gA E 84), .int a, .int b] (fun v S1 => v = some (.int (f_co fu n z mm 3 a b d).1) ∧ LR S S1 (f_co fu n z mm 3 a b d).2) := by
  have hn := hR.n10
  have h1 : f_mf (f_place (gof n mm) n a) (bI (f_in b 0 99)) = 0 := hf
  obtain ⟨P, hP, e, _⟩ := mf_in h1
  have e9 : (f_place (gof n mm) n a).toNatClampNeg = P := by rw [e, nI_clamp (by omega)]
  refine (c_X7_says (l := l) hE hR a b P hP e).mono (fun v S1 h => ?_)
  show v = some (.int (mm (f_place (gof n mm) n a).toNatClampNeg 2)) ∧ LR S S1 (n, z, up2 mm (f_place (gof n mm) n a).toNatClampNeg 2 b)
  rw [e9]; exact ⟨h.1, h.2.1, hM.up (by decide), h.2.2⟩
theorem cz_4 (hE : Env0 E) (hR : RI S n z mm) (hM : MmOk n mm) {a b d : Int32} (hf : f_ft (gof n mm) n 4 a b d = 0) (fu : Nat) : MW l E yX7_offers cX7_offers 5 (some .int) 2 44 S [.ref (gA E 84), .int a, .int b] (fun v S1 => v = some (.int (f_co fu n z mm 4 a b d).1) ∧ LR S S1 (f_co fu n z mm 4 a b d).2) := by
  have hn := hR.n10
  have h1 : f_of (f_place (gof n mm) n a) b = 0 := hf
  obtain ⟨P, hP, e, _⟩ := mf_in (of_in h1).1
  have e9 : (f_place (gof n mm) n a).toNatClampNeg = P := by rw [e, nI_clamp (by omega)]
  refine (c_X7_offers (l := l) hE hR a b P hP e).mono (fun v S1 h => ?_)
  show v = some (.int (mm (f_place (gof n mm) n a).toNatClampNeg 5)) ∧ LR S S1 (n, z, up2 mm (f_place (gof n mm) n a).toNatClampNeg 5 b)
  rw [e9]; exact ⟨h.1, h.2.1, hM.up (by decide), h.2.2⟩
theorem held0 (hn : n ≤ 10) (hM : MmOk n mm) {P : Nat} (hP : P + 1 < n) (h : f_held (gof n mm) (nI P) = 0) : m_fa n mm P = 0 := by
  rw [held_in hn hM hP] at h
  rcases Classical.em (m_fa n mm P = 0) with q | q
  · exact q
  · rw [if_neg q] at h; exact absurd h (by decide)
theorem take0 {g : Int32 → Nat → Int32} {p0 : Int32} (h : ¬ f_take g p0 = 0) : f_held g p0 = 0 := by
  unfold f_take at h
  split at h
  · exact absurd rfl h
  · split at h
    · exact absurd rfl h
    · split at h
      · rename_i q; exact q
      · exact absurd rfl h
theorem cz_5 (hE : Env0 E) (hR : RI S n z mm) (hM : MmOk n mm) {a b d : Int32} (hf : f_ft (gof n mm) n 5 a b d = 0) (fu : Nat) : MW l E yX7_takes cX7_takes 3 (some .int) 2 47 S [.ref (gA E 84), .int a] (fun v S1 => v = some (.int (f_co fu n z mm 5 a b d).1) ∧ LR S S1 (f_co fu n z mm 5 a b d).2) := by
  have hn := hR.n10
  have h1 : f_tf (gof n mm) (f_place (gof n mm) n a) = 0 := hf
  obtain ⟨h2, h3⟩ := tf_in h1
  obtain ⟨P, hP, e, _⟩ := mf_in h2
  have e9 : (f_place (gof n mm) n a).toNatClampNeg = P := by rw [e, nI_clamp (by omega)]
  rw [e] at h3
  have hP1 := take_in hP hn h3
  refine (c_X7_takes (l := l) hE hR hM a P hP1 e (held0 hn hM hP1 (take0 h3))).mono (fun v S1 h => ?_)
  show v = some (.int (mm ((f_place (gof n mm) n a).toNatClampNeg + 1) 5)) ∧ LR S S1 (n, upd (upd z 4 (z 4 + 1)) 5 (z 5 + mm ((f_place (gof n mm) n a).toNatClampNeg + 1) 5), mswap mm (f_place (gof n mm) n a).toNatClampNeg (mm ((f_place (gof n mm) n a).toNatClampNeg + 1) 5))
  rw [e9]; exact ⟨h.1, h.2.1, hM.swp hP1, h.2.2⟩
theorem would0 {g : Int32 → Nat → Int32} {p0 : Int32} (h : ¬ f_would g p0 = 0) : f_hind g p0 = 0 := by
  unfold f_would at h
  split at h
  · rename_i q; exact q
  · exact absurd rfl h
theorem cz_6 (hE : Env0 E) (hR : RI S n z mm) (hM : MmOk n mm) {a b d : Int32} (hf : f_ft (gof n mm) n 6 a b d = 0) (fu : Nat) (P : Nat) (hP : P + 1 < n) (e : a = nI P) : MW l E yX7_swaps cX7_swaps 5 (some .int) 1 23 S [.ref (gA E 84), .int a, .int (f_loss (gof n mm) (nI P) + f_sur (gof n mm) (nI P) * z 3 / 100)] (fun v S1 => v = some (.int (f_co fu n z mm 6 a b d).1) ∧ LR S S1 (f_co fu n z mm 6 a b d).2) := by
  have hn := hR.n10
  have h1 : f_pf n a (f_would (gof n mm) a) 3 = 0 := hf
  have h2 := would0 (pf_in hn h1).1
  have e9 : a.toNatClampNeg = P := by rw [e, nI_clamp (by omega)]
  rw [e] at h2
  obtain ⟨h3, h4⟩ := (hind0 hn hM hP).mp h2
  have e8 : f_loss (gof n mm) (nI P) + f_sur (gof n mm) (nI P) * z 3 / 100 = f_fairc (gof n mm) (z 3) (nI P) := (if_pos h4).symm
  rw [e8]
  refine (cs_swaps (l := l) hE (UZ.rf S) hR.many hn P hP e _).mono (fun v S1 h => ?_)
  show v = some (.int (f_fairc (gof n mm) (z 3) a)) ∧ LR S S1 (n, upd (upd z 4 (z 4 + 1)) 5 (z 5 + f_fairc (gof n mm) (z 3) a), mswap mm a.toNatClampNeg (f_fairc (gof n mm) (z 3) a))
  rw [e9, e]; exact ⟨h.1, hR.swp hM hP (held0 hn hM hP h3) h.2.1, hM.swp hP, h.2.2⟩
theorem cz_fr (hE : Env0 E) (hR : RI S n z mm) (hM : MmOk n mm) {a : Int32} (P : Nat) (hP : P + 1 < n) (e : a = nI P) {d : Int32} (hd : d = 0 ∨ d = 1) : MW l E yX7_befriends cX7_befriends 3 (some .int) 2 44 S [.ref (gA E 84), .int a, .int d] (fun v S1 => v = some (.int (f_frs (gof n (up2 mm (a.toNatClampNeg + 1) 6 d)) n)) ∧ LR S S1 (n, z, up2 mm (a.toNatClampNeg + 1) 6 d)) := by
  have e9 : a.toNatClampNeg = P := by rw [e, nI_clamp (by have := hR.n10; omega)]
  rw [e9]; subst e
  exact (c_X7_befriends (l := l) hE hR (fun _ h _ _ => hM.fr h) d hd P hP).mono (fun v S1 h => ⟨h.1, h.2.1, hM.fr hd, h.2.2⟩)
theorem cz_7 (hE : Env0 E) (hR : RI S n z mm) (hM : MmOk n mm) {a b d : Int32} (hf : f_ft (gof n mm) n 7 a b d = 0) (fu : Nat) : MW l E yX7_befriends cX7_befriends 3 (some .int) 2 44 S [.ref (gA E 84), .int a, .int 1] (fun v S1 => v = some (.int (f_co fu n z mm 7 a b d).1) ∧ LR S S1 (f_co fu n z mm 7 a b d).2) := by
  have h1 : f_pf n a (if f_fr (gof n mm) a = 0 then 1 else 0) 3 = 0 := hf
  obtain ⟨_, P, hP, e⟩ := pf_in hR.n10 h1
  exact cz_fr hE hR hM P hP e (Or.inr rfl)
theorem cz_8 (hE : Env0 E) (hR : RI S n z mm) (hM : MmOk n mm) {a b d : Int32} (hf : f_ft (gof n mm) n 8 a b d = 0) (fu : Nat) : MW l E yX7_befriends cX7_befriends 3 (some .int) 2 44 S [.ref (gA E 84), .int a, .int 0] (fun v S1 => v = some (.int (f_co fu n z mm 8 a b d).1) ∧ LR S S1 (f_co fu n z mm 8 a b d).2) := by
  have h1 : f_pf n a (f_fr (gof n mm) a) 3 = 0 := hf
  obtain ⟨_, P, hP, e⟩ := pf_in hR.n10 h1
  exact cz_fr hE hR hM P hP e (Or.inl rfl)
theorem ft9 (hn : n ≤ 10) {a b d : Int32} (hf : f_ft (gof n mm) n 9 a b d = 0) : 0 < n := by
  have h1 : (if 0 < nI n then (0 : Int32) else 3) = 0 := hf
  rcases Nat.eq_zero_or_pos n with q | q
  · subst q; exact absurd h1 (by decide)
  · exact q
theorem cz_9 (hE : Env0 E) (hR : RI S n z mm) (hM : MmOk n mm) {a b d : Int32} (hf : f_ft (gof n mm) n 9 a b d = 0) (fu : Nat) : MW l E yX7_serves cX7_serves 2 (some .int) 3 68 S [.ref (gA E 84)] (fun v S1 => v = some (.int (f_co fu n z mm 9 a b d).1) ∧ LR S S1 (f_co fu n z mm 9 a b d).2) :=
  (c_X7_serves hE hR hM (ft9 hR.n10 hf)).mono (fun v S1 h => ⟨h.1, h.2.1, hM.rem (ft9 hR.n10 hf), h.2.2⟩)
theorem cz_10 (hE : Env0 E) (hR : RI S n z mm) (hM : MmOk n mm) {a b d : Int32} (fu : Nat) (hSt : Stops n fu z mm) : MW l E yX7_settles cX7_settles 4 (some .int) 4 86 S [.ref (gA E 84)] (fun v S1 => v = some (.int (f_co fu n z mm 10 a b d).1) ∧ LR S S1 (f_co fu n z mm 10 a b d).2) :=
  (c_X7_settles hE hR hM fu hSt).mono (fun v S1 h => ⟨h.1, h.2.1, h.2.2.1, h.2.2.2⟩)
end COs
/-! MODEL: its refusals as codes of the class's faults -/
def m_c (u_j : Nat) (u_f : Int32) : Int32 := if u_j < 2 then m_j u_f else if u_j < 5 then u_f else if u_j < 9 then m_t u_f else m_1 u_f
theorem fr_bit {n : Nat} {mm : Nat → Nat → Int32} (hn : n ≤ 10) (hM : MmOk n mm) (a : Int32) : f_fr (gof n mm) a = 0 ∨ f_fr (gof n mm) a = 1 := by
  unfold f_fr
  rcases Classical.em (¬ (a + 1) < 0 ∧ ¬ nI n ≤ (a + 1)) with q | q
  · obtain ⟨P, hP, e⟩ := nI_of q.1
    have hlt : P < n := by
      rcases Nat.lt_or_ge P n with y | y
      · exact y
      · exact absurd (by rw [e]; exact nI_le y hP) q.2
    rw [e, gof_in mm hn hlt]; exact hM.2 P hlt
  · left; unfold gof; rw [if_neg q]; rfl
theorem jf3 (g : Int32 → Nat → Int32) (n : Nat) (a b d : Int32) : f_jf g n a b d = 0 ∨ f_jf g n a b d = 2 ∨ f_jf g n a b d = 3 := by
  unfold f_jf
  split
  · split
    · split
      · split
        · exact Or.inr (Or.inr rfl)
        · split
          · exact Or.inl rfl
          · exact Or.inr (Or.inr rfl)
      · exact Or.inr (Or.inl rfl)
    · exact Or.inr (Or.inl rfl)
  · exact Or.inr (Or.inl rfl)
theorem mj0 {a : Int32} (h : a = 0 ∨ a = 2 ∨ a = 3) : m_j a = 0 ↔ a = 0 := by
  rcases h with h | h | h
  · rw [h]; decide
  · rw [h]; decide
  · rw [h]; decide
theorem mt0 {a : Int32} : m_t a = 0 ↔ a = 0 := by
  unfold m_t
  split
  · rename_i h; rw [h]; decide
  · exact Iff.rfl
theorem m10 {a : Int32} : m_1 a = 0 ↔ a = 0 := by
  unfold m_1
  split
  · rename_i h; exact ⟨fun _ => h, fun _ => rfl⟩
  · rename_i h; exact ⟨fun q => absurd q (by decide), fun q => absurd q h⟩
theorem mc0 (g : Int32 → Nat → Int32) (n : Nat) {u_j : Nat} (a b d : Int32) : m_c u_j (f_ft g n u_j a b d) = 0 ↔ f_ft g n u_j a b d = 0 := by
  unfold m_c
  split
  · rename_i h
    rcases (show u_j = 0 ∨ u_j = 1 by omega) with rfl | rfl
    · exact mj0 (jf3 g n a b (nI n))
    · exact mj0 (jf3 g n a b d)
  · split
    · exact Iff.rfl
    · split
      · exact mt0
      · exact m10
theorem pf_cg {n : Nat} {a x y t : Int32} (h : x = 0 ↔ y = 0) : f_pf n a x t = f_pf n a y t := by
  unfold f_pf
  split
  · by_cases q : x = 0
    · rw [if_pos q, if_pos (h.mp q)]
    · rw [if_neg q, if_neg (fun w => q (h.mpr w))]
  · rfl
theorem ft7 {n : Nat} {mm : Nat → Nat → Int32} (hn : n ≤ 10) (hM : MmOk n mm) (a b d : Int32) : f_pf n a (if f_fr (gof n mm) a = 1 then 0 else 1) 3 = f_ft (gof n mm) n 7 a b d := by
  show _ = f_pf n a (if f_fr (gof n mm) a = 0 then 1 else 0) 3
  rcases fr_bit hn hM a with q | q
  · rw [q]; rfl
  · rw [q]; rfl
theorem ft8 {n : Nat} {mm : Nat → Nat → Int32} (hn : n ≤ 10) (hM : MmOk n mm) (a b d : Int32) : f_pf n a (if f_fr (gof n mm) a = 0 then 0 else 1) 3 = f_ft (gof n mm) n 8 a b d := by
  show _ = f_pf n a (f_fr (gof n mm) a) 3
  rcases fr_bit hn hM a with q | q
  · rw [q]; rfl
  · rw [q]; rfl
theorem ft9v {n : Nat} {g : Int32 → Nat → Int32} (hn : n ≤ 10) (a b d : Int32) : f_ft g n 9 a b d = if n = 0 then 3 else 0 := by
  show (if 0 < nI n then (0 : Int32) else 3) = _
  rcases Nat.eq_zero_or_pos n with q | q
  · subst q; rfl
  · rw [if_pos (show (0 : Int32) < nI n from nI_lt (a := 0) q (by omega)), if_neg (by omega)]
