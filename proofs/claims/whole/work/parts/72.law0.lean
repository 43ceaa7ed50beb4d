/-! LAW: its wrappers' frame -/
def xNm : List String := ["java/lang/IndexOutOfBoundsException", "java/lang/IllegalArgumentException", "java/lang/IllegalStateException"]
def Env3 (E : GE) : Prop := ∀ i, i < 3 → ∀ j, j < 3 → i ≠ j → va_Nc (xNm.getD i "") (xNm.getD j "") (gS E)
theorem en_nc : ∀ i, i < 3 → ∀ j, j < 3 → i ≠ j → Cond.not (.castable (xNm.getD i "") (xNm.getD j "")) ∈ gvC := by decide +kernel
theorem Env3.of {args : Array Value} {s : State} (hgv : (Jvm.Cond.and given_1 narrow_1).before args s = true) {E : GE} (h : gS E = s) : Env3 E := fun i hi j hj hij => by
  rw [h]; exact va_Nc.of (flat_of_before _ hgv _ (en_nc i hi j hj hij))
theorem cst_1 : Cond.castable "java/lang/IndexOutOfBoundsException" "java/lang/IndexOutOfBoundsException" ∈ lw_tbl := List.mem_of_getElem? (i := 373) (by decide +kernel)
theorem cst_2 : Cond.castable "java/lang/IllegalArgumentException" "java/lang/IllegalArgumentException" ∈ lw_tbl := List.mem_of_getElem? (i := 440) (by decide +kernel)
theorem cst_3 : Cond.castable "java/lang/IllegalStateException" "java/lang/IllegalStateException" ∈ lw_tbl := List.mem_of_getElem? (i := 456) (by decide +kernel)
def MH (l : Launch) (E : GE) (y : MethodName) (cc : ByteArray) (mL : Nat) (hh : List (Nat × Nat × Nat × Nat)) (fr lo u_c u_s : Nat) (S : ST) (as : List Value) (P : Option Value → ST → Prop) : Prop :=
  vx_Met l y [.codeWith y cc mL (some .int) hh] (rmX fr lo u_c u_s) (va_Pc as (HS E S)) (XQc E P) (XXc E S (fun _ => False)) u_c u_s (gFr E)
def WP (S S1 : ST) (v : Option Value) (u_k u_f u_x : Int32) (R0 : ST → Prop) : Prop := v = some (.int u_k) ∧ ((u_f = 0 ∧ ∃ S0, R0 S0 ∧ S1 = setO S0 0 u_x.toInt64) ∨ (¬ u_f = 0 ∧ S1 = S))
section LawW
variable {p : Program} {l : Launch} {e : Env} {R : Room} {s : State} {m : MethodId} {args : Array Value} {below : List Frame} {meth : Method} {c : Code} {H : Heap} {locs : List Loc} {cells slots : Nat} {Q : State → Prop} {E : GE} {S : ST} {cc : ByteArray} {own : String} {nL pc : Nat} {ls : Array Slot} {rest : List Value}
theorem MH.of {y : MethodName} {mL fr lo u_c u_s : Nat} {hh : List (Nat × Nat × Nat × Nat)} {as : List Value} {P : Option Value → ST → Prop} (hE : Env0 E) (hy : plainName y.cls = true) (hlen : (lg_sl as).length ≤ mL)
    (body : ∀ (p : Program) (e : Env) (s : State) (m : MethodId) (below : List Frame) (meth : Method) (c : Code) (ls : Array Slot), Cx E p s m meth c cc y.cls mL → c.exceptionTable.toList = tableOf hh → JJ E S s.heap [] → meth.sig.returnType = some .int → lv_has ls mL (lv_args 0 as) → W p l e (rmX fr lo u_c u_s) s m as.toArray below meth c s.heap [] 0 0 (XQ below as.toArray s E P S (fun _ => False) u_c u_s) (F0 m 0 ls [])) : MH l E y cc mL hh fr lo u_c u_s S as P := by
  refine vx_ofWH (cc := cc) (maxL := mL) (ret := some .int) (hh := hh) hy rfl ?_
  intro p e s m args below meth c s₁ B hml hv
  obtain ⟨rfl, hW, hJ⟩ := hv
  have htab := vx_table (x := y) B (atoms_spec B.pre _ List.mem_cons_self)
  have hl := lv_entry as hlen
  rw [lg_entry_eq]
  generalize (lg_sl as ++ List.replicate (mL - (lg_sl as).length) Slot.unset).toArray = ls at hl ⊢
  exact body p e s m below meth c ls ⟨B.exec, B.bytes, hml, findClass_of_methodNamed B.named, hW, hE, B.notSynchronized⟩ htab hJ B.returns hl
theorem k_XH {S0 : ST} {a : Array Value} {P0 : Option Value → ST → Prop} {XP0 : String → Prop} {k_c k_s : Nat} {st0 : List Value} (hJ : JJ E S H locs)
    (hr : vx_Run p l e R s m args below meth c H locs cells slots k_c k_s (F0 m pc ls st0) rest (XQc E P0 a) (XXc E S0 XP0) (gFr E))
    (kk : ∀ (v : Option Value) (S' : ST) (H1 : Heap) (locs1 : List Loc), P0 v S' → JJ E S' H1 locs1 → W p l e R s m args below meth c H1 locs1 (cells + k_c) (slots + k_s) Q (F0 m (pc + 3) ls (v.toList ++ rest)))
    (kx : ∀ (x : String) (ce : Cell) (q : Addr) (H1 : Heap) (locs1 : List Loc), XP0 x → JJ E S0 H1 locs1 → H1[q]? = some ce → ce.vm = .none → s.vm.findClass x = some ce.cls → vx_W p l e R s m args below meth c H1 locs1 (cells + k_c) (slots + k_s) Q (F0 m pc ls rest) q) : W p l e R s m args below meth c H locs cells slots Q (F0 m pc ls st0) := by
  intro T hT X
  rcases hr T hT X with ⟨v', st₀, t, T', L, h0, X', hL, e1, e2, ⟨v, S', hv, hP, hW1, hJ1⟩, st⟩ | ⟨q, st₀, t, T', L, x, ce, h0, X', hL, e1, e2, ⟨hp, hj⟩, hce, hcv, hcl, st⟩
  · cases hv
    obtain ⟨t2, a1, b1⟩ := kk v' S' T'.heap (locs ++ L) hP (hJ.app (by rw [e1]; exact hJ1) hL) T' rfl X'
    exact ⟨t2, st t2 a1, b1⟩
  · obtain ⟨t2, a1, b1⟩ := kx x ce q T'.heap (locs ++ L) hp (hJ.app (by rw [e1]; exact hj) hL) (by rw [e1]; exact hce) hcv hcl T' rfl X'
    exact ⟨t2, st.trans a1, b1⟩
theorem Cx.cst (C : Cx E p s m meth c cc own nL) {a b : String} (h : Cond.castable a b ∈ lw_tbl) : (Cond.castable a b).before args s = true := va_Nw.use rfl (va_Nw.warmC C.hW (va_Nw.of rfl (C.env.2.2.2 _ h)))
theorem Cx.nc (C : Cx E p s m meth c cc own nL) (h3 : Env3 E) (i j : Nat) (hi : i < 3) (hj : j < 3) (hij : i ≠ j) : va_Nc (xNm.getD i "") (xNm.getD j "") s := va_Nc.moved C.hW.alike (h3 i hi j hj hij)
end LawW
theorem exO_0 : exO 0 = none := by decide
theorem exO_1 : exO 1 = some "java/lang/IndexOutOfBoundsException" := by decide
theorem exO_2 : exO 2 = some "java/lang/IllegalArgumentException" := by decide
theorem exO_3 : exO 3 = some "java/lang/IllegalStateException" := by decide
theorem fmf3 (p0 p1 : Int32) : f_mf p0 p1 = 0 ∨ f_mf p0 p1 = 1 ∨ f_mf p0 p1 = 2 := by
  unfold f_mf; split
  · exact Or.inr (Or.inl rfl)
  · split
    · exact Or.inr (Or.inr rfl)
    · exact Or.inl rfl
theorem fmf2 (p0 : Int32) : f_mf p0 1 = 0 ∨ f_mf p0 1 = 1 := by
  unfold f_mf; split
  · exact Or.inr rfl
  · exact Or.inl rfl
theorem fpf3 (n : Nat) (p0 p1 : Int32) : f_pf n p0 p1 3 = 0 ∨ f_pf n p0 p1 3 = 1 ∨ f_pf n p0 p1 3 = 3 := by
  unfold f_pf; split
  · split
    · exact Or.inr (Or.inr rfl)
    · exact Or.inl rfl
  · exact Or.inr (Or.inl rfl)
theorem fpf2 (n : Nat) (p0 p1 : Int32) : f_pf n p0 p1 2 = 0 ∨ f_pf n p0 p1 2 = 1 ∨ f_pf n p0 p1 2 = 2 := by
  unfold f_pf; split
  · split
    · exact Or.inr (Or.inr rfl)
    · exact Or.inl rfl
  · exact Or.inr (Or.inl rfl)
theorem fpf1 (n : Nat) (p0 : Int32) : f_pf n p0 1 0 = 0 ∨ f_pf n p0 1 0 = 1 := by
  unfold f_pf; split
  · split
    · exact Or.inl rfl
    · exact Or.inl rfl
  · exact Or.inr rfl
theorem fof4 (p0 p1 : Int32) : f_of p0 p1 = 0 ∨ f_of p0 p1 = 1 ∨ f_of p0 p1 = 2 ∨ f_of p0 p1 = 3 := by
  unfold f_of; split
  · split
    · exact Or.inr (Or.inr (Or.inr rfl))
    · rename_i h _; exact Or.inl h
  · rcases fmf3 p0 (bI (f_in p1 0 9999)) with h | h | h
    · exact Or.inl h
    · exact Or.inr (Or.inl h)
    · exact Or.inr (Or.inr (Or.inl h))
theorem ftf3 (g : Int32 → Nat → Int32) (p0 : Int32) : f_tf g p0 = 0 ∨ f_tf g p0 = 1 ∨ f_tf g p0 = 3 := by
  unfold f_tf; split
  · split
    · exact Or.inr (Or.inr rfl)
    · rename_i h _; exact Or.inl h
  · rcases fmf2 p0 with h | h
    · exact Or.inl h
    · exact Or.inr (Or.inl h)
theorem if2 {q : Prop} [Decidable q] {a b : Int32} : (if q then a else b) = a ∨ (if q then a else b) = b := by split; exact Or.inl rfl; exact Or.inr rfl
