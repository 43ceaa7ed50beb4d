/-! BASE: the environment, the state of the system as numbers, the world of its 84 cells, and the rows of the machine said over it. -/
/-- the words of the tables that ride along from state to state -/
def pw_tbl : List Cond := lw_tbl.filter goodWord
theorem pw_good {w : Cond} (h : w ∈ pw_tbl) : (w.onTables && w.keeps) = true ∨ ∃ ty, w = .arrayClass ty := good_of_word (List.mem_filter.mp h).2
theorem pw_in {w : Cond} (i : Nat) (h : lw_tbl[i]? = some w) (hg : goodWord w = true) : w ∈ pw_tbl := List.mem_filter.mpr ⟨List.mem_of_getElem? h, hg⟩
/-- the environment: numbers of classes and slots, array classes, addresses of the cells, the base state, its arguments, addresses of the commands -/
abbrev GE : Type := va_G × (Nat → ClassId) × (Nat → Nat) × State × Array Value × (Nat → Nat)
abbrev gD (E : GE) : va_G := E.1
abbrev gC (E : GE) : Nat → ClassId := E.2.1
abbrev gA (E : GE) : Nat → Nat := E.2.2.1
abbrev gS (E : GE) : State := E.2.2.2.1
abbrev gV (E : GE) : Array Value := E.2.2.2.2.1
abbrev gN (E : GE) : Nat → Nat := E.2.2.2.2.2
abbrev g0 (E : GE) : Nat := (gS E).heap.size
def pt_tys (E : GE) : List (ClassId × FieldType) := [(gC E 0, .byte), (gC E 1, .int), (gC E 2, .object "ConsentQueue$Line"), (gC E 3, .object "ConsentQueue$Member")]
/-- what is known of it -/
def Env0 (E : GE) : Prop := va_K (gD E) vwCl (pt_tys E) (gS E) ∧ (∀ i j, i < 84 → j < 84 → gA E i = gA E j → i = j) ∧ (∀ i, i < 84 → g0 E ≤ gA E i) ∧ (∀ w ∈ lw_tbl, w.before (gV E) (gS E) = true)
/-- the lines (scalars by field, places, members by field), the history, the text, the model, the law's own array -/
abbrev LT : Type := (Nat → Nat → Int32) × (Nat → Nat → Nat) × (Nat → Nat → Nat → Int32)
abbrev HT : Type := (Nat → Nat) × Int32
abbrev TT : Type := (Nat → Int32) × (Option Nat) × (Nat → Int32) × (Nat → Int32)
abbrev MT : Type := (Nat → Int32) × (Nat → Int32) × (Nat → Int32) × (Nat → Int32) × (Nat → Int32)
abbrev ST : Type := LT × HT × TT × MT × (Nat → Int64)
abbrev sc (L : LT) : Nat → Nat → Int32 := L.1
abbrev pm (L : LT) : Nat → Nat → Nat := L.2.1
abbrev mb (L : LT) : Nat → Nat → Nat → Int32 := L.2.2
abbrev sL (S : ST) : LT := S.1
abbrev sH (S : ST) : HT := S.2.1
abbrev sT (S : ST) : TT := S.2.2.1
abbrev sM (S : ST) : MT := S.2.2.2.1
abbrev sO (S : ST) : Nat → Int64 := S.2.2.2.2
def lnF (E : GE) (L : LT) (k : Nat) : List Value := [.ref (gA E (13 * k + 1)), .ref (gA E (13 * k + 12)), .int (sc L k 2), .int (sc L k 3), .int (sc L k 4), .int (sc L k 5), .int (sc L k 6), .int (sc L k 7)]
def arF (E : GE) (L : LT) (k : Nat) : va_E := .inl (gC E 3, 10, .inr (.inr (.inr (.inr (fun j => some (gA E (13 * k + 2 + pm L k j)))))))
def mbF (L : LT) (k j : Nat) : List Value := [.int (mb L k j 0), .int (mb L k j 1), .int (mb L k j 2), .int (mb L k j 3), .int (mb L k j 4), .int (mb L k j 5), .int (mb L k j 6)]
def hsF (E : GE) (h : HT) : va_E := .inl (gC E 2, 4, .inr (.inr (.inr (.inr (fun j => some (gA E (13 * h.1 j)))))))
def txF (E : GE) (t : TT) : List Value := [.ref (gA E 81), .int (t.1 1), .int (t.1 2), .int (t.1 3), va_re (gN E) t.2.1, .ref (gA E 82)]
/-- what the cell of number i holds -/
def pE (E : GE) (S : ST) (i : Nat) : va_E :=
  if i < 78 then
    if i % 13 = 0 then .inr (2, lnF E (sL S) (i / 13))
    else if i % 13 = 1 then arF E (sL S) (i / 13)
    else .inr (3, mbF (sL S) (i / 13) (i % 13 - 2))
  else if i = 78 then .inr (1, [.ref (gA E 79), .int (sH S).2])
  else if i = 79 then hsF E (sH S)
  else if i = 80 then .inr (0, txF E (sT S))
  else if i = 81 then .inl (gC E 0, 150, .inl (sT S).2.2.1)
  else if i = 82 then .inl (gC E 1, 3, .inl (sT S).2.2.2)
  else .inr (4, [.ref (gA E 0), .ref (gA E 13), .ref (gA E 78), .ref (gA E 80)])
theorem pE_ln (E : GE) (S : ST) {k : Nat} (h : k < 6) : pE E S (13 * k) = .inr (2, lnF E (sL S) k) := by
  unfold pE; rw [if_pos (by omega), if_pos (by omega), show 13 * k / 13 = k by omega]
theorem pE_ar (E : GE) (S : ST) {k : Nat} (h : k < 6) : pE E S (13 * k + 1) = arF E (sL S) k := by
  unfold pE; rw [if_pos (by omega), if_neg (by omega), if_pos (by omega), show (13 * k + 1) / 13 = k by omega]
theorem pE_mb (E : GE) (S : ST) {k j : Nat} (h : k < 6) (hj : j < 11) : pE E S (13 * k + 2 + j) = .inr (3, mbF (sL S) k j) := by
  unfold pE; rw [if_pos (by omega), if_neg (by omega), if_neg (by omega), show (13 * k + 2 + j) / 13 = k by omega, show (13 * k + 2 + j) % 13 - 2 = j by omega]
theorem pE_hi (E : GE) (S : ST) : pE E S 78 = .inr (1, [.ref (gA E 79), .int (sH S).2]) := rfl
theorem pE_sv (E : GE) (S : ST) : pE E S 79 = hsF E (sH S) := rfl
theorem pE_tx (E : GE) (S : ST) : pE E S 80 = .inr (0, txF E (sT S)) := rfl
theorem pE_by (E : GE) (S : ST) : pE E S 81 = .inl (gC E 0, 150, .inl (sT S).2.2.1) := rfl
theorem pE_nu (E : GE) (S : ST) : pE E S 82 = .inl (gC E 1, 3, .inl (sT S).2.2.2) := rfl
theorem pE_qu (E : GE) (S : ST) : pE E S 83 = .inr (4, [.ref (gA E 0), .ref (gA E 13), .ref (gA E 78), .ref (gA E 80)]) := rfl
/-- the world as a list of the kit's -/
def wl (E : GE) (f : Nat → va_E) : va_W := (List.range 84).map (fun i => (gA E i, f i))
theorem wl_at (E : GE) (f : Nat → va_E) {i : Nat} (h : i < 84) : (wl E f)[i]? = some (gA E i, f i) := by
  unfold wl; rw [List.getElem?_map, List.getElem?_range h]; rfl
theorem wl_set (E : GE) (f : Nat → va_E) {i : Nat} (h : i < 84) (e : va_E) : (wl E f).set i (gA E i, e) = wl E (va_up f i e) := by
  apply List.ext_getElem?
  intro j
  rw [List.getElem?_set]
  by_cases hj : i = j
  · subst hj
    rw [if_pos rfl, wl_at E _ h]
    have : i < (wl E f).length := by unfold wl; simp; exact h
    rw [if_pos this]; simp [va_up]
  · rw [if_neg hj]
    unfold wl
    rw [List.getElem?_map, List.getElem?_map]
    by_cases hl : j < 84
    · rw [List.getElem?_range hl]; simp [va_up, Ne.symm hj]
    · rw [List.getElem?_eq_none (by simp; omega)]; rfl
theorem wl_congr {E : GE} {f g : Nat → va_E} (h : ∀ i, i < 84 → f i = g i) : wl E f = wl E g := by
  unfold wl
  apply List.map_congr_left
  intro i hi
  rw [h i (List.mem_range.mp hi)]
abbrev gFr (E : GE) : Nat → Prop := fun q => g0 E ≤ q
/-- the heap holds the state S; nothing older than the base state has changed; what was written is newer -/
def JJ (E : GE) (S : ST) (H : Heap) (locs : List Loc) : Prop := va_P (gD E) vwCl (wl E (pE E S)) H ∧ va_S (gFr E) (gS E).heap H locs
/-- a machine state in which the system's state is S -/
def HS (E : GE) (S : ST) (U : State) : Prop := (gS E).WarmedH U.vm ∧ JJ E S U.heap []
theorem wl_D {E : GE} (hE : Env0 E) (f : Nat → va_E) : va_D (gFr E) (wl E f) := by
  have lt : ∀ (k : Nat) (q : Nat × va_E), (wl E f)[k]? = some q → k < 84 ∧ q = (gA E k, f k) := by
    intro k q hq
    have h1 : k < 84 := by have := (List.getElem?_eq_some_iff.mp hq).1; unfold wl at this; simpa using this
    exact ⟨h1, (Option.some.inj ((wl_at E f h1).symm.trans hq)).symm⟩
  refine ⟨fun i j p q hp hq he => ?_, fun k q hq => ?_⟩
  · obtain ⟨h1, rfl⟩ := lt i p hp
    obtain ⟨h2, rfl⟩ := lt j q hq
    exact hE.2.1 i j h1 h2 he
  · obtain ⟨h1, rfl⟩ := lt k q hq
    exact hE.2.2.1 k h1
/-- what a method's walk stands on -/
def Cx (E : GE) (p : Program) (s : State) (m : MethodId) (meth : Method) (c : Code) (cc : ByteArray) (own : String) (nL : Nat) : Prop := p.tables.exec = Jvm.exec ∧ c.code = cc ∧ c.maxLocals = nL ∧ s.vm.findClass own = some m.cls ∧ (gS E).WarmedH s.vm ∧ Env0 E ∧ meth.locks = false
section Base
variable {p : Program} {l : Launch} {e : Env} {R : Room} {s : State} {m : MethodId} {args : Array Value} {below : List Frame} {meth : Method} {c : Code} {H : Heap} {locs : List Loc} {cells slots : Nat} {Q : State → Prop} {E : GE} {S : ST} {cc : ByteArray} {own : String} {nL pc : Nat} {ls : Array Slot} {rest : List Value}
theorem Cx.x (C : Cx E p s m meth c cc own nL) : p.tables.exec = Jvm.exec := C.1
theorem Cx.b (C : Cx E p s m meth c cc own nL) : c.code = cc := C.2.1
theorem Cx.ml (C : Cx E p s m meth c cc own nL) : c.maxLocals = nL := C.2.2.1
theorem Cx.ow (C : Cx E p s m meth c cc own nL) : s.vm.findClass own = some m.cls := C.2.2.2.1
theorem Cx.hW (C : Cx E p s m meth c cc own nL) : (gS E).WarmedH s.vm := C.2.2.2.2.1
theorem Cx.env (C : Cx E p s m meth c cc own nL) : Env0 E := C.2.2.2.2.2.1
theorem Cx.lk (C : Cx E p s m meth c cc own nL) : meth.locks = false := C.2.2.2.2.2.2
theorem Cx.ts (C : Cx E p s m meth c cc own nL) : ∀ w ∈ pw_tbl, w.before args s = true := fun w h => word_at C.hW (pw_good h) (C.env.2.2.2 w (List.mem_filter.mp h).1)
theorem Cx.K (C : Cx E p s m meth c cc own nL) : va_K (gD E) vwCl (pt_tys E) s := va_K.moved C.hW.alike C.env.1
theorem Cx.D (C : Cx E p s m meth c cc own nL) (f : Nat → va_E) : va_D (gFr E) (wl E f) := wl_D C.env f
theorem JJ.set {f : Nat → va_E} {S' : ST} {i : Nat} {en : va_E} {H1 : Heap} {locs1 : List Loc} (h : i < 84) (hP : va_P (gD E) vwCl ((wl E (pE E S)).set i (gA E i, en)) H1) (hS : va_S (gFr E) (gS E).heap H1 locs1) (he : ∀ j, j < 84 → va_up (pE E S) i en j = pE E S' j) : JJ E S' H1 locs1 := by
  rw [wl_set E _ h, wl_congr he] at hP
  exact ⟨hP, hS⟩
/-- a field of a cell is read -/
theorem i_get (C : Cx E p s m meth c cc own nL) (hJ : JJ E S H locs) {i ci k N : Nat} {fs : List Value} {Cn ref : String} {T : u_T} {index : Nat} {v : Value} (hin : ∀ w ∈ u_ws Cn T N, w ∈ pw_tbl) (hc : vwCl[ci]? = some (Cn, T, N)) (hk : k < N) (hl : Cond.fieldLink own index ref (T k).2.1 (T k).2.2.1 ∈ pw_tbl) (hsame : (T k).1 = ref) (hi : i < 84) (hr : pE E S i = .inr (ci, fs)) (hv : fs[k]? = some v) (hdg : decode cc pc = .ok (.getfield index, 3))
    (kk : W p l e R s m args below meth c H locs cells slots Q (F0 m (pc + 3) ls (v :: rest))) : W p l e R s m args below meth c H locs cells slots Q (F0 m pc ls (.ref (gA E i) :: rest)) :=
  va_get (D := gD E) (ci := ci) (v := v) (fs := fs) (C := Cn) (T := T) (N := N) C.x C.b C.ts hin C.ow C.K hJ.1 i ((wl_at E _ hi).trans (by rw [hr])) hc k hk (C.ts _ hl) (fun _ h => by rw [← hsame]; exact h) hv hdg kk
theorem i_getN (C : Cx E p s m meth c cc own nL) (hJ : JJ E S H locs) {i ci k N : Nat} {fs : List Value} {Cn ref host : String} {T : u_T} {index : Nat} {v : Value} (hin : ∀ w ∈ u_ws Cn T N, w ∈ pw_tbl) (hc : vwCl[ci]? = some (Cn, T, N)) (hk : k < N) (hl : Cond.fieldLinkNest own index ref (T k).2.1 (T k).2.2.1 host ∈ lw_tbl) (hsame : (T k).1 = ref) (hi : i < 84) (hr : pE E S i = .inr (ci, fs)) (hv : fs[k]? = some v) (hdg : decode cc pc = .ok (.getfield index, 3))
    (kk : W p l e R s m args below meth c H locs cells slots Q (F0 m (pc + 3) ls (v :: rest))) : W p l e R s m args below meth c H locs cells slots Q (F0 m pc ls (.ref (gA E i) :: rest)) :=
  va_getN (D := gD E) (ci := ci) (v := v) (fs := fs) (C := Cn) (T := T) (N := N) C.x C.b C.ts hin C.ow C.K hJ.1 i ((wl_at E _ hi).trans (by rw [hr])) hc k hk (va_Nw.use rfl (va_Nw.warmF C.hW (va_Nw.of rfl (C.env.2.2.2 _ hl)))) (fun _ h => by rw [← hsame]; exact h) hv hdg kk
/-- .. is written -/
theorem i_put (C : Cx E p s m meth c cc own nL) (hJ : JJ E S H locs) {i ci k N : Nat} {fs : List Value} {Cn ref : String} {T : u_T} {ty0 : Nat → FieldType} {ty : FieldType} {index : Nat} {v : Value} (S' : ST) (hin : ∀ w ∈ u_ws Cn T N, w ∈ pw_tbl) (hty : ∀ k, k < N → parseFieldDescriptor (T k).2.2.1 = some (ty0 k)) (hnm : ∀ a, a < N → ∀ b, b < N → a ≠ b → (T a).2.1 ≠ (T b).2.1) (hc : vwCl[ci]? = some (Cn, T, N)) (hk : k < N) (hl : Cond.fieldLink own index ref (T k).2.1 (T k).2.2.1 ∈ pw_tbl) (hsame : (T k).1 = ref) (hfin : (T k).2.2.2 = false) (hd : parseFieldDescriptor (T k).2.2.1 = some ty) (hn : narrow ty v = v) (hfit : fits ty v = true) (hi : i < 84) (hr : pE E S i = .inr (ci, fs)) (hlen : k < fs.length) (hS : ∀ j, j < 84 → va_up (pE E S) i (.inr (ci, fs.set k v)) j = pE E S' j) (hdg : decode cc pc = .ok (.putfield index, 3))
    (kk : ∀ (H1 : Heap) (locs1 : List Loc), JJ E S' H1 locs1 → W p l e R s m args below meth c H1 locs1 cells slots Q (F0 m (pc + 3) ls rest)) : W p l e R s m args below meth c H locs cells slots Q (F0 m pc ls (v :: .ref (gA E i) :: rest)) :=
  va_put (D := gD E) (ci := ci) (v := v) (ty := ty) (fs := fs) (C := Cn) (T := T) (N := N) (A := gFr E) C.x C.b C.ts hin ty0 hty hnm C.ow C.K hJ.1 (C.D _) hJ.2 i ((wl_at E _ hi).trans (by rw [hr])) hc k hk (C.ts _ hl) (fun _ h => by rw [← hsame]; exact h) hfin hd hn hfit hlen hdg (fun H1 locs1 hP _ hS1 => kk H1 locs1 (JJ.set (f := pE E S) hi hP hS1 hS))
theorem i_putN (C : Cx E p s m meth c cc own nL) (hJ : JJ E S H locs) {i ci k N : Nat} {fs : List Value} {Cn ref host : String} {T : u_T} {ty0 : Nat → FieldType} {ty : FieldType} {index : Nat} {v : Value} (S' : ST) (hin : ∀ w ∈ u_ws Cn T N, w ∈ pw_tbl) (hty : ∀ k, k < N → parseFieldDescriptor (T k).2.2.1 = some (ty0 k)) (hnm : ∀ a, a < N → ∀ b, b < N → a ≠ b → (T a).2.1 ≠ (T b).2.1) (hc : vwCl[ci]? = some (Cn, T, N)) (hk : k < N) (hl : Cond.fieldLinkNest own index ref (T k).2.1 (T k).2.2.1 host ∈ lw_tbl) (hsame : (T k).1 = ref) (hfin : (T k).2.2.2 = false) (hd : parseFieldDescriptor (T k).2.2.1 = some ty) (hn : narrow ty v = v) (hfit : fits ty v = true) (hi : i < 84) (hr : pE E S i = .inr (ci, fs)) (hlen : k < fs.length) (hS : ∀ j, j < 84 → va_up (pE E S) i (.inr (ci, fs.set k v)) j = pE E S' j) (hdg : decode cc pc = .ok (.putfield index, 3))
    (kk : ∀ (H1 : Heap) (locs1 : List Loc), JJ E S' H1 locs1 → W p l e R s m args below meth c H1 locs1 cells slots Q (F0 m (pc + 3) ls rest)) : W p l e R s m args below meth c H locs cells slots Q (F0 m pc ls (v :: .ref (gA E i) :: rest)) :=
  va_putN (D := gD E) (ci := ci) (v := v) (ty := ty) (fs := fs) (C := Cn) (T := T) (N := N) (A := gFr E) C.x C.b C.ts hin ty0 hty hnm C.ow C.K hJ.1 (C.D _) hJ.2 i ((wl_at E _ hi).trans (by rw [hr])) hc k hk (va_Nw.use rfl (va_Nw.warmF C.hW (va_Nw.of rfl (C.env.2.2.2 _ hl)))) (fun _ h => by rw [← hsame]; exact h) hfin hd hn hfit hlen hdg (fun H1 locs1 hP _ hS1 => kk H1 locs1 (JJ.set (f := pE E S) hi hP hS1 hS))
/-- arrays: read -/
theorem i_iald (C : Cx E p s m meth c cc own nL) (hJ : JJ E S H locs) {i n : Nat} {f : Nat → Int32} (hi : i < 84) (hr : pE E S i = .inl (gC E 1, n, .inl f)) {x : Int32} (hin : vp_in x n) (hdg : decode cc pc = .ok (.iaload, 1))
    (kk : W p l e R s m args below meth c H locs cells slots Q (F0 m (pc + 1) ls (.int (f x.toNatClampNeg) :: rest))) : W p l e R s m args below meth c H locs cells slots Q (F0 m pc ls (.int x :: .ref (gA E i) :: rest)) :=
  va_iald C.x C.b C.K hJ.1 i 1 ((wl_at E _ hi).trans (by rw [hr])) rfl hin hdg kk
theorem i_bald (C : Cx E p s m meth c cc own nL) (hJ : JJ E S H locs) {i n : Nat} {f : Nat → Int32} (hi : i < 84) (hr : pE E S i = .inl (gC E 0, n, .inl f)) {x : Int32} (hin : vp_in x n) (hdg : decode cc pc = .ok (.baload, 1))
    (kk : W p l e R s m args below meth c H locs cells slots Q (F0 m (pc + 1) ls (.int (f x.toNatClampNeg) :: rest))) : W p l e R s m args below meth c H locs cells slots Q (F0 m pc ls (.int x :: .ref (gA E i) :: rest)) :=
  va_bald C.x C.b C.K hJ.1 i 0 ((wl_at E _ hi).trans (by rw [hr])) rfl hin hdg kk
theorem i_aald (C : Cx E p s m meth c cc own nL) (hJ : JJ E S H locs) {i n t : Nat} {Cn : String} {cA : ClassId} {f : Nat → Option Nat} (hi : i < 84) (hr : pE E S i = .inl (cA, n, .inr (.inr (.inr (.inr f))))) (ht : (pt_tys E)[t]? = some (cA, .object Cn)) {x : Int32} (hin : vp_in x n) (hdg : decode cc pc = .ok (.aaload, 1))
    (kk : W p l e R s m args below meth c H locs cells slots Q (F0 m (pc + 1) ls (va_rf (f x.toNatClampNeg) :: rest))) : W p l e R s m args below meth c H locs cells slots Q (F0 m pc ls (.int x :: .ref (gA E i) :: rest)) :=
  va_aldq C.x C.b C.K hJ.1 i t ((wl_at E _ hi).trans (by rw [hr])) ht hin hdg kk
theorem i_alen (C : Cx E p s m meth c cc own nL) (hJ : JJ E S H locs) {i t : Nat} {cA : ClassId} {a : vp_A} {ty : FieldType} (hi : i < 84) (hr : pE E S i = .inl (cA, a)) (ht : (pt_tys E)[t]? = some (cA, ty)) {v : Int32} (hv : Int32.ofNat a.1 = v) (hdg : decode cc pc = .ok (.arraylength, 1))
    (kk : W p l e R s m args below meth c H locs cells slots Q (F0 m (pc + 1) ls (.int v :: rest))) : W p l e R s m args below meth c H locs cells slots Q (F0 m pc ls (.ref (gA E i) :: rest)) :=
  va_alen C.x C.b C.K hJ.1 i t ((wl_at E _ hi).trans (by rw [hr])) ht hv hdg kk
/-- arrays: written -/
theorem i_iast (C : Cx E p s m meth c cc own nL) (hJ : JJ E S H locs) {i n : Nat} {f : Nat → Int32} (S' : ST) (hi : i < 84) (hr : pE E S i = .inl (gC E 1, n, .inl f)) {x y : Int32} (hin : vp_in x n) (hS : ∀ j, j < 84 → va_up (pE E S) i (.inl (gC E 1, n, .inl (upd f x.toNatClampNeg y))) j = pE E S' j) (hdg : decode cc pc = .ok (.iastore, 1))
    (kk : ∀ (H1 : Heap) (locs1 : List Loc), JJ E S' H1 locs1 → W p l e R s m args below meth c H1 locs1 cells slots Q (F0 m (pc + 1) ls rest)) : W p l e R s m args below meth c H locs cells slots Q (F0 m pc ls (.int y :: .int x :: .ref (gA E i) :: rest)) :=
  va_iast C.x C.b C.K hJ.1 (C.D _) hJ.2 i 1 ((wl_at E _ hi).trans (by rw [hr])) rfl hin hdg (fun H1 locs1 hP _ hS1 => kk H1 locs1 (JJ.set (f := pE E S) hi hP hS1 hS))
theorem i_bast (C : Cx E p s m meth c cc own nL) (hJ : JJ E S H locs) {i n : Nat} {f : Nat → Int32} (S' : ST) (hi : i < 84) (hr : pE E S i = .inl (gC E 0, n, .inl f)) {x y : Int32} (hin : vp_in x n) (hS : ∀ j, j < 84 → va_up (pE E S) i (.inl (gC E 0, n, .inl (upd f x.toNatClampNeg (vp_nar .byte y)))) j = pE E S' j) (hdg : decode cc pc = .ok (.bastore, 1))
    (kk : ∀ (H1 : Heap) (locs1 : List Loc), JJ E S' H1 locs1 → W p l e R s m args below meth c H1 locs1 cells slots Q (F0 m (pc + 1) ls rest)) : W p l e R s m args below meth c H locs cells slots Q (F0 m pc ls (.int y :: .int x :: .ref (gA E i) :: rest)) :=
  va_bast C.x C.b C.K hJ.1 (C.D _) hJ.2 i 0 ((wl_at E _ hi).trans (by rw [hr])) rfl hin hdg (fun H1 locs1 hP _ hS1 => kk H1 locs1 (JJ.set (f := pE E S) hi hP hS1 hS))
theorem i_aast (C : Cx E p s m meth c cc own nL) (hJ : JJ E S H locs) {i n t v ci : Nat} {r : vw_C} {cA : ClassId} {vs : List Value} {f : Nat → Option Nat} (S' : ST) (hi : i < 84) (hr : pE E S i = .inl (cA, n, .inr (.inr (.inr (.inr f))))) (ht : (pt_tys E)[t]? = some (cA, .object r.1)) (hv : v < 84) (hrv : pE E S v = .inr (ci, vs)) (hc : vwCl[ci]? = some r) {x : Int32} (hin : vp_in x n) (hS : ∀ j, j < 84 → va_up (pE E S) i (.inl (cA, n, .inr (.inr (.inr (.inr (va_up f x.toNatClampNeg (some (gA E v)))))))) j = pE E S' j) (hdg : decode cc pc = .ok (.aastore, 1))
    (kk : ∀ (H1 : Heap) (locs1 : List Loc), JJ E S' H1 locs1 → W p l e R s m args below meth c H1 locs1 cells slots Q (F0 m (pc + 1) ls rest)) : W p l e R s m args below meth c H locs cells slots Q (F0 m pc ls (.ref (gA E v) :: .int x :: .ref (gA E i) :: rest)) :=
  va_astq C.x C.b C.K hJ.1 (C.D _) hJ.2 i t v ci ((wl_at E _ hi).trans (by rw [hr])) ht ((wl_at E _ hv).trans (by rw [hrv])) hc hin hdg (fun H1 locs1 hP _ hS1 => kk H1 locs1 (JJ.set (f := pE E S) hi hP hS1 hS))
end Base
