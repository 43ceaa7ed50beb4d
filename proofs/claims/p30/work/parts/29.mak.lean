/-! MAKING: methods that make cells, in a world that grows -/
abbrev rmX (fr lo u_c u_s : Nat) : Room := { frames := fr, cells := u_c, slots := u_s, locals := lo }
abbrev GB : Type := va_G × State × Array Value
def B0 (G : GB) : Prop := va_K G.1 vwCl [] G.2.1 ∧ ∀ w ∈ lw_tbl, w.before G.2.2 G.2.1 = true
def Cy (G : GB) (p : Program) (s : State) (m : MethodId) (meth : Method) (c : Code) (cc : ByteArray) (own : String) (nL : Nat) : Prop := p.tables.exec = Jvm.exec ∧ c.code = cc ∧ c.maxLocals = nL ∧ s.vm.findClass own = some m.cls ∧ G.2.1.WarmedH s.vm ∧ B0 G ∧ meth.locks = false
def HB (G : GB) (u_w : va_W) (sz : Nat) (U : State) : Prop := G.2.1.WarmedH U.vm ∧ U.heap.size = sz ∧ va_P G.1 vwCl u_w U.heap ∧ va_D (fun _ => True) u_w
def BQ (G : GB) (Pw : va_W → List (ClassId × FieldType) → Prop) (A : Nat → Prop) : Array Value → State → Outcome → State → Prop :=
  va_Qv (fun _ : Unit => True) (fun _ t => ∃ u_w tys, Pw u_w tys ∧ G.2.1.WarmedH t.vm ∧ va_P G.1 vwCl u_w t.heap ∧ va_K G.1 vwCl tys G.2.1 ∧ va_D A u_w) A
def MB (l : Launch) (G : GB) (y : MethodName) (cc : ByteArray) (mL fr lo u_c u_s : Nat) (as : List Value) (u_w : va_W) (Pw : va_W → List (ClassId × FieldType) → Prop) : Prop :=
  ∀ sz : Nat, Met l y [.code y cc mL none] (rmX fr lo u_c u_s) (va_Pc as (HB G u_w sz)) (BQ G Pw (va_A u_w sz)) u_c u_s (va_A u_w sz)
section Making
variable {p : Program} {l : Launch} {e : Env} {R : Room} {s : State} {m : MethodId} {args : Array Value} {below : List Frame} {meth : Method} {c : Code} {H : Heap} {locs : List Loc} {cells slots : Nat} {Q : State → Prop} {G : GB} {cc : ByteArray} {own : String} {nL pc : Nat} {ls : Array Slot} {rest : List Value} {A : Nat → Prop} {ws : va_W} {tys : List (ClassId × FieldType)}
theorem Cy.x (C : Cy G p s m meth c cc own nL) : p.tables.exec = Jvm.exec := C.1
theorem Cy.b (C : Cy G p s m meth c cc own nL) : c.code = cc := C.2.1
theorem Cy.ml (C : Cy G p s m meth c cc own nL) : c.maxLocals = nL := C.2.2.1
theorem Cy.ow (C : Cy G p s m meth c cc own nL) : s.vm.findClass own = some m.cls := C.2.2.2.1
theorem Cy.hW (C : Cy G p s m meth c cc own nL) : G.2.1.WarmedH s.vm := C.2.2.2.2.1
theorem Cy.en (C : Cy G p s m meth c cc own nL) : B0 G := C.2.2.2.2.2.1
theorem Cy.lk (C : Cy G p s m meth c cc own nL) : meth.locks = false := C.2.2.2.2.2.2
theorem Cy.ts (C : Cy G p s m meth c cc own nL) : ∀ w ∈ pw_tbl, w.before args s = true := fun w h => word_at C.hW (pw_good h) (C.en.2 w (List.mem_filter.mp h).1)
theorem Cy.K (C : Cy G p s m meth c cc own nL) (h : va_K G.1 vwCl tys G.2.1) : va_K G.1 vwCl tys s := va_K.moved C.hW.alike h
theorem Cy.K' (C : Cy G p s m meth c cc own nL) (h : va_K G.1 vwCl tys s) : va_K G.1 vwCl tys G.2.1 := va_K.moved C.hW.alike.symm h
theorem MB.of {y : MethodName} {mL fr lo u_c u_s : Nat} {as : List Value} {u_w : va_W} {Pw : va_W → List (ClassId × FieldType) → Prop} (hE : B0 G) (hy : plainName y.cls = true) (hlen : (lg_sl as).length ≤ mL)
    (body : ∀ (p : Program) (e : Env) (s : State) (m : MethodId) (below : List Frame) (meth : Method) (c : Code) (ls : Array Slot) (A : Nat → Prop), Cy G p s m meth c cc y.cls mL → meth.name = y.name → va_P G.1 vwCl u_w s.heap → va_D A u_w → (∀ q : Nat, s.heap.size ≤ q → A q) → meth.sig.returnType = none → lv_has ls mL (lv_args 0 as) → W p l e (rmX fr lo u_c u_s) s m as.toArray below meth c s.heap [] 0 0 (MQ below (BQ G Pw A) as.toArray s u_c u_s A) (F0 m 0 ls [])) : MB l G y cc mL fr lo u_c u_s as u_w Pw := by
  intro sz
  refine Met.ofW (cc := cc) (maxL := mL) (ret := none) hy rfl ?_
  intro p e s m args below meth c s₁ B hml hv
  obtain ⟨rfl, hW, hsz, hP, hD0⟩ := hv
  subst hsz
  have hD := hD0.self (sz := s.heap.size)
  generalize hAe : va_A u_w s.heap.size = A at hD ⊢
  have hA : ∀ q : Nat, s.heap.size ≤ q → A q := fun q h => by rw [← hAe]; exact Or.inr h
  have hl := lv_entry as hlen
  rw [lg_entry_eq]
  generalize (lg_sl as ++ List.replicate (mL - (lg_sl as).length) Slot.unset).toArray = ls at hl ⊢
  exact body p e s m below meth c ls A ⟨B.exec, B.bytes, hml, findClass_of_methodNamed B.named, hW, hE, B.notSynchronized⟩ (name_of_methodNamed B.named B.method).1 hP hD hA B.returns hl
/-- its end -/
theorem rB_v (C : Cy G p s m meth c cc own nL) {Pw : va_W → List (ClassId × FieldType) → Prop} {u_c u_s : Nat} (hr : meth.sig.returnType = none) (hP : va_P G.1 vwCl ws H) (hD : va_D A ws) (hS : va_S A s.heap H locs) (hK : va_K G.1 vwCl tys G.2.1) (hp : Pw ws tys) (hdg : decode cc pc = .ok (.return_, 1)) (hc : cells ≤ u_c ∧ slots ≤ u_s) : W p l e R s m args below meth c H locs cells slots (MQ below (BQ G Pw A) args s u_c u_s A) (F0 m pc ls []) :=
  W.widen hc.1 hc.2 (W.vret C.x C.b hr (fun t ht hW => ⟨⟨(), rfl, trivial, ws, tys, hp, State.WarmedH.trans C.hW hW, by rw [ht]; exact hP, hK, hD⟩, hS.F ht⟩) hS.2.2 hdg C.lk)
theorem b_obj (C : Cy G p s m meth c cc own nL) {a idx : Nat} (hl : Cond.methodLink own idx objectInit ∈ pw_tbl) (hls : ls.size = nL) (hdg : decode cc pc = .ok (.invokespecial idx, 3)) (hR : 1 ≤ R.frames ∧ (rest.map fun v => v.category).sum + 12 ≤ R.locals)
    (kk : W p l e R s m args below meth c H locs cells slots Q (F0 m (pc + 3) ls rest)) : W p l e R s m args below meth c H locs cells slots Q (F0 m pc ls (.ref a :: rest)) :=
  W.objInit C.x C.b C.ow (C.ts _ hl) (C.ts _ ki_objectInit) (C.ts _ kc_objectInit) rfl (by rw [C.ml]; exact hls) rfl hdg hR.1 (by show 2 * 0 + _ + 12 ≤ _; rw [Nat.mul_zero, Nat.zero_add]; exact hR.2) kk
theorem b_new (C : Cy G p s m meth c cc own nL) {ci N index : Nat} {Cn : String} {T : u_T} {ty : Nat → FieldType} {fs : List Value} (hK : va_K G.1 vwCl tys G.2.1) (hP : va_P G.1 vwCl ws H) (hD : va_D A ws) (hS : va_S A s.heap H locs) (hA : ∀ q : Nat, s.heap.size ≤ q → A q)
    (hin : ∀ w ∈ u_ws Cn T N, w ∈ pw_tbl) (hty : ∀ k, k < N → parseFieldDescriptor (T k).2.2.1 = some (ty k)) (hcl : Cond.classLink own index Cn ∈ pw_tbl) (hinst : Cond.instantiable Cn N ∈ pw_tbl) (hini : Cond.initialized Cn ∈ pw_tbl) (hc : vwCl[ci]? = some (Cn, T, N)) (hfs : ∀ j, j < N → defaultValue (ty j) = vp_V fs j) (hR : cells + 1 ≤ R.cells ∧ slots + N ≤ R.slots) (hdg : decode cc pc = .ok (.new index, 3))
    (kk : ∀ (q : Nat) (H1 : Heap), va_P G.1 vwCl (ws ++ [(q, .inr (ci, fs))]) H1 → va_D A (ws ++ [(q, .inr (ci, fs))]) → va_S A s.heap H1 locs → W p l e R s m args below meth c H1 locs (cells + 1) (slots + N) Q (F0 m (pc + 3) ls (.ref q :: rest))) : W p l e R s m args below meth c H locs cells slots Q (F0 m pc ls rest) :=
  va_new (ci := ci) (fs := fs) (C := Cn) (T := T) (N := N) C.x C.b C.ts hin ty hty C.ow (C.ts _ hcl) (C.ts _ hinst) (C.ts _ hini) (C.K hK) hP hD hS hA hc hfs hR.1 hR.2 hdg kk
theorem b_putF (C : Cy G p s m meth c cc own nL) {ci N index k a : Nat} {Cn ref : String} {T : u_T} {ty0 : Nat → FieldType} {ty : FieldType} {fs : List Value} {v : Value} (hK : va_K G.1 vwCl tys G.2.1) (hP : va_P G.1 vwCl ws H) (hD : va_D A ws) (hS : va_S A s.heap H locs)
    (hin : ∀ w ∈ u_ws Cn T N, w ∈ pw_tbl) (hty : ∀ k, k < N → parseFieldDescriptor (T k).2.2.1 = some (ty0 k)) (hnm : ∀ a, a < N → ∀ b, b < N → a ≠ b → (T a).2.1 ≠ (T b).2.1) (hc : vwCl[ci]? = some (Cn, T, N)) (hk : k < N) (hl : Cond.fieldLink own index ref (T k).2.1 (T k).2.2.1 ∈ pw_tbl) (hsame : (T k).1 = ref) (hfin : (T k).2.2.2 = true) (hinit : meth.name = "<init>") (hdecl : (T k).1 = own) (hd : parseFieldDescriptor (T k).2.2.1 = some ty) (hn : narrow ty v = v) (hfit : fits ty v = true) (q0 : Nat) (he : ws[q0]? = some (a, .inr (ci, fs))) (hlen : k < fs.length) (hdg : decode cc pc = .ok (.putfield index, 3))
    (kk : ∀ (H1 : Heap) (locs1 : List Loc), va_P G.1 vwCl (ws.set q0 (a, .inr (ci, fs.set k v))) H1 → va_D A (ws.set q0 (a, .inr (ci, fs.set k v))) → va_S A s.heap H1 locs1 → W p l e R s m args below meth c H1 locs1 cells slots Q (F0 m (pc + 3) ls rest)) : W p l e R s m args below meth c H locs cells slots Q (F0 m pc ls (v :: .ref a :: rest)) :=
  va_putF (ci := ci) (v := v) (ty := ty) (C := Cn) (T := T) (N := N) C.x C.b C.ts hin ty0 hty hnm C.ow (C.K hK) hP hD hS q0 he hc k hk (C.ts _ hl) (fun _ h => by rw [← hsame]; exact h) hfin hinit hdecl hd hn hfit hlen hdg kk
theorem b_put (C : Cy G p s m meth c cc own nL) {ci N index k a : Nat} {Cn ref : String} {T : u_T} {ty0 : Nat → FieldType} {ty : FieldType} {fs : List Value} {v : Value} (hK : va_K G.1 vwCl tys G.2.1) (hP : va_P G.1 vwCl ws H) (hD : va_D A ws) (hS : va_S A s.heap H locs)
    (hin : ∀ w ∈ u_ws Cn T N, w ∈ pw_tbl) (hty : ∀ k, k < N → parseFieldDescriptor (T k).2.2.1 = some (ty0 k)) (hnm : ∀ a, a < N → ∀ b, b < N → a ≠ b → (T a).2.1 ≠ (T b).2.1) (hc : vwCl[ci]? = some (Cn, T, N)) (hk : k < N) (hl : Cond.fieldLink own index ref (T k).2.1 (T k).2.2.1 ∈ pw_tbl) (hsame : (T k).1 = ref) (hfin : (T k).2.2.2 = false) (hd : parseFieldDescriptor (T k).2.2.1 = some ty) (hn : narrow ty v = v) (hfit : fits ty v = true) (q0 : Nat) (he : ws[q0]? = some (a, .inr (ci, fs))) (hlen : k < fs.length) (hdg : decode cc pc = .ok (.putfield index, 3))
    (kk : ∀ (H1 : Heap) (locs1 : List Loc), va_P G.1 vwCl (ws.set q0 (a, .inr (ci, fs.set k v))) H1 → va_D A (ws.set q0 (a, .inr (ci, fs.set k v))) → va_S A s.heap H1 locs1 → W p l e R s m args below meth c H1 locs1 cells slots Q (F0 m (pc + 3) ls rest)) : W p l e R s m args below meth c H locs cells slots Q (F0 m pc ls (v :: .ref a :: rest)) :=
  va_put (ci := ci) (v := v) (ty := ty) (C := Cn) (T := T) (N := N) C.x C.b C.ts hin ty0 hty hnm C.ow (C.K hK) hP hD hS q0 he hc k hk (C.ts _ hl) (fun _ h => by rw [← hsame]; exact h) hfin hd hn hfit hlen hdg kk
theorem b_get (C : Cy G p s m meth c cc own nL) {ci N index k a : Nat} {Cn ref : String} {T : u_T} {fs : List Value} {v : Value} (hK : va_K G.1 vwCl tys G.2.1) (hP : va_P G.1 vwCl ws H)
    (hin : ∀ w ∈ u_ws Cn T N, w ∈ pw_tbl) (hc : vwCl[ci]? = some (Cn, T, N)) (hk : k < N) (hl : Cond.fieldLink own index ref (T k).2.1 (T k).2.2.1 ∈ pw_tbl) (hsame : (T k).1 = ref) (q0 : Nat) (he : ws[q0]? = some (a, .inr (ci, fs))) (hv : fs[k]? = some v) (hdg : decode cc pc = .ok (.getfield index, 3))
    (kk : W p l e R s m args below meth c H locs cells slots Q (F0 m (pc + 3) ls (v :: rest))) : W p l e R s m args below meth c H locs cells slots Q (F0 m pc ls (.ref a :: rest)) :=
  va_get (D := G.1) (ci := ci) (v := v) (fs := fs) (C := Cn) (T := T) (N := N) C.x C.b C.ts hin C.ow (C.K hK) hP q0 he hc k hk (C.ts _ hl) (fun _ h => by rw [← hsame]; exact h) hv hdg kk
theorem P_last {u_w : va_W} {q : Nat × va_E} (hP : va_P G.1 vwCl (u_w ++ [q]) H) : va_P G.1 vwCl [q] H := by
  intro k x hx
  have hz : k < 1 := (List.getElem?_eq_some_iff.mp hx).1
  rw [show k = 0 by omega] at hx
  cases hx
  exact hP u_w.length _ (by rw [List.getElem?_append_right (Nat.le_refl _), Nat.sub_self]; rfl)
theorem join_last {A0 : Nat → Prop} {u_w w1 : va_W} {q : Nat × va_E} {H1 : Heap} (hP : va_P G.1 vwCl (u_w ++ [q]) H) (hD : va_D A0 (u_w ++ [q]))
    (hk : ∀ x : Nat, x < H.size → ¬ va_A [q] H.size x → H1[x]? = H[x]?) (hF : ∀ x, va_A [q] H.size x → A0 x) (hP1 : va_P G.1 vwCl w1 H1) (hD1 : va_D (va_A [q] H.size) w1) : va_P G.1 vwCl (u_w ++ w1) H1 ∧ va_D A0 (u_w ++ w1) := by
  have at' : ∀ (k : Nat) (x : Nat × va_E), u_w[k]? = some x → (u_w ++ [q])[k]? = some x := fun k x hx => by
    rw [List.getElem?_append_left (List.getElem?_eq_some_iff.mp hx).1]; exact hx
  have hq : (u_w ++ [q])[u_w.length]? = some q := by rw [List.getElem?_append_right (Nat.le_refl _), Nat.sub_self]; rfl
  have apart : ∀ (k : Nat) (x : Nat × va_E), u_w[k]? = some x → x.1 < H.size ∧ ¬ va_A [q] H.size x.1 := by
    intro k x hx
    have hl := (hP k x (at' k x hx)).lt
    refine ⟨hl, fun h => ?_⟩
    rcases h with ⟨j, u_e, h⟩ | h
    · have hz : j < 1 := (List.getElem?_eq_some_iff.mp h).1
      rw [show j = 0 by omega] at h
      have h2 : q = (x.1, u_e) := Option.some.inj h
      have h3 := hD.1 k u_w.length x q (at' k x hx) hq (by rw [h2])
      have h4 := (List.getElem?_eq_some_iff.mp hx).1
      omega
    · omega
  refine ⟨va_P.app (fun k x hx => ?_) hP1, va_D.app ⟨fun i j x y hx hy he => hD.1 i j x y (at' i x hx) (at' j y hy) he, fun k x hx => hD.2 k x (at' k x hx)⟩ (hD1.weaken (fun k x _ h => hF x.1 h)) (fun i j x y hx hy hxy => ?_)⟩
  · obtain ⟨g1, g2⟩ := apart k x hx
    exact (hP k x (at' k x hx)).kept (hk x.1 g1 g2)
  · exact (apart i x hx).2 (by rw [hxy]; exact hD1.2 j y hy)
theorem blindB (as : List Value) {u_w : va_W} {sz : Nat} : FrameBlind (va_Pc as (HB G u_w sz)) := fun _ _ _ _ h => h
/-- a constructor's call on the last cell of the world -/
theorem b_callP (C : Cy G p s m meth c cc own nL) {y : MethodName} {bytes : ByteArray} {mL fr lo u_c u_s q : Nat} {e0 : va_E} {Pw : va_W → List (ClassId × FieldType) → Prop} {u_w : va_W} {st0 : List Value}
    (hP : va_P G.1 vwCl (u_w ++ [(q, e0)]) H) (hD : va_D A (u_w ++ [(q, e0)])) (hS : va_S A s.heap H locs) (hA : ∀ q : Nat, s.heap.size ≤ q → A q)
    (hr : (∀ (hp : PreS s H (va_Pc [.ref q] (HB G [(q, e0)] H.size)) [.ref q]), va_Run p l e R s m args below meth c H locs cells slots u_c u_s (F0 m pc ls st0) rest (BQ G Pw (va_A [(q, e0)] H.size) [Value.ref q].toArray) (va_A [(q, e0)] H.size)))
    (kk : ∀ (w1 : va_W) (tys1 : List (ClassId × FieldType)) (H1 : Heap) (locs1 : List Loc), Pw w1 tys1 → va_P G.1 vwCl (u_w ++ w1) H1 → va_K G.1 vwCl tys1 G.2.1 → va_D A (u_w ++ w1) → va_S A s.heap H1 locs1 → W p l e R s m args below meth c H1 locs1 (cells + u_c) (slots + u_s) Q (F0 m (pc + 3) ls rest)) : W p l e R s m args below meth c H locs cells slots Q (F0 m pc ls st0) := by
  have hPc := P_last hP
  have hq : (u_w ++ [(q, e0)])[u_w.length]? = some (q, e0) := by rw [List.getElem?_append_right (Nat.le_refl _), Nat.sub_self]; rfl
  have hF : ∀ x, va_A [(q, e0)] H.size x → A x := fun x hx => by
    rcases hx with ⟨j, u_e, h⟩ | h
    · have hz : j < 1 := (List.getElem?_eq_some_iff.mp h).1
      rw [show j = 0 by omega] at h
      have h2 : (q, e0) = (x, u_e) := Option.some.inj h
      have h3 := hD.2 u_w.length (q, e0) hq
      rw [h2] at h3; exact h3
    · exact hA x (Nat.le_trans hS.1 h)
  have hDc : va_D (fun _ => True) [(q, e0)] := ⟨fun i j x z hx hz _ => by
    have h1 : i < 1 := (List.getElem?_eq_some_iff.mp hx).1
    have h2 : j < 1 := (List.getElem?_eq_some_iff.mp hz).1
    omega, fun _ _ _ => trivial⟩
  refine va_callv (hr ⟨blindB _, fun U hU hW => ⟨rfl, State.WarmedH.trans C.hW hW, by rw [hU], by rw [hU]; exact hPc, hDc⟩⟩) hS (fun x _ h => hF x h) hF (fun u_u t H1 locs1 ht hvm hw hB hz1 hk1 hS1 => ?_)
  obtain ⟨w1, tys1, hp, hW1, hP1, hK1, hD1⟩ := hB
  rw [ht] at hP1
  obtain ⟨hP2, hD2⟩ := join_last hP hD hk1 hF hP1 hD1
  exact kk w1 tys1 H1 locs1 hp hP2 hK1 hD2 hS1
theorem b_callN (C : Cy G p s m meth c cc own nL) {y : MethodName} {bytes : ByteArray} {mL fr lo u_c u_s q index : Nat} {host : String} {e0 : va_E} {Pw : va_W → List (ClassId × FieldType) → Prop} {u_w : va_W}
    (hM : MB l G y bytes mL fr lo u_c u_s [.ref q] [(q, e0)] Pw) (hP : va_P G.1 vwCl (u_w ++ [(q, e0)]) H) (hD : va_D A (u_w ++ [(q, e0)])) (hS : va_S A s.heap H locs) (hA : ∀ q : Nat, s.heap.size ≤ q → A q)
    (h1 : Cond.methodLinkNest own index y host ∈ lw_tbl) (h2 : Cond.instanceMethod y ∈ pw_tbl) (h4 : Cond.initialized y.cls ∈ pw_tbl) (h5 : Cond.code y bytes mL none ∈ pw_tbl) (hy : y.name = "<init>")
    (hd : y.cls ≠ "java/lang/invoke/MethodHandle" ∧ y.cls ≠ "java/lang/invoke/VarHandle" ∧ (parseMethodDescriptor y.desc).map (fun d => d.parameters.length) = some 0) (hdg : decode cc pc = .ok (.invokespecial index, 3))
    (hls : ls.size = nL) (hR : fr + 1 ≤ R.frames ∧ 8 + (mL + 11) + lo ≤ R.locals) (hf : cells + u_c ≤ R.cells ∧ slots + u_s ≤ R.slots) (hcat : (rest.map fun v => v.category).sum ≤ 8)
    (kk : ∀ (w1 : va_W) (tys1 : List (ClassId × FieldType)) (H1 : Heap) (locs1 : List Loc), Pw w1 tys1 → va_P G.1 vwCl (u_w ++ w1) H1 → va_K G.1 vwCl tys1 G.2.1 → va_D A (u_w ++ w1) → va_S A s.heap H1 locs1 → W p l e R s m args below meth c H1 locs1 (cells + u_c) (slots + u_s) Q (F0 m (pc + 3) ls rest)) : W p l e R s m args below meth c H locs cells slots Q (F0 m pc ls (.ref q :: rest)) :=
  b_callP C (y := y) (bytes := bytes) (mL := mL) (fr := fr) (lo := lo) hP hD hS hA (fun hp => va_runIN (Ts := pw_tbl) (As := []) ⟨C.x, C.b, C.ml, C.ow, C.ts⟩ (hM H.size) ⟨va_cnB (own := own) (host := host) 0 C.ts (good1 h5) rfl rfl rfl (va_Nw.warmM C.hW (va_Nw.of rfl (C.en.2 _ h1))) (C.ts _ h4) hd hR, hy, C.ts _ h2⟩ hp rfl rfl hls rfl (lv_room hcat) hdg hf) kk
theorem b_callI (C : Cy G p s m meth c cc own nL) {y : MethodName} {bytes : ByteArray} {mL fr lo u_c u_s q index : Nat} {e0 : va_E} {Pw : va_W → List (ClassId × FieldType) → Prop} {u_w : va_W}
    (hM : MB l G y bytes mL fr lo u_c u_s [.ref q] [(q, e0)] Pw) (hP : va_P G.1 vwCl (u_w ++ [(q, e0)]) H) (hD : va_D A (u_w ++ [(q, e0)])) (hS : va_S A s.heap H locs) (hA : ∀ q : Nat, s.heap.size ≤ q → A q)
    (h1 : Cond.methodLink own index y ∈ pw_tbl) (h2 : Cond.instanceMethod y ∈ pw_tbl) (h4 : Cond.initialized y.cls ∈ pw_tbl) (h5 : Cond.code y bytes mL none ∈ pw_tbl) (hy : y.name = "<init>")
    (hd : y.cls ≠ "java/lang/invoke/MethodHandle" ∧ y.cls ≠ "java/lang/invoke/VarHandle" ∧ (parseMethodDescriptor y.desc).map (fun d => d.parameters.length) = some 0) (hdg : decode cc pc = .ok (.invokespecial index, 3))
    (hls : ls.size = nL) (hR : fr + 1 ≤ R.frames ∧ 8 + (mL + 11) + lo ≤ R.locals) (hf : cells + u_c ≤ R.cells ∧ slots + u_s ≤ R.slots) (hcat : (rest.map fun v => v.category).sum ≤ 8)
    (kk : ∀ (w1 : va_W) (tys1 : List (ClassId × FieldType)) (H1 : Heap) (locs1 : List Loc), Pw w1 tys1 → va_P G.1 vwCl (u_w ++ w1) H1 → va_K G.1 vwCl tys1 G.2.1 → va_D A (u_w ++ w1) → va_S A s.heap H1 locs1 → W p l e R s m args below meth c H1 locs1 (cells + u_c) (slots + u_s) Q (F0 m (pc + 3) ls rest)) : W p l e R s m args below meth c H locs cells slots Q (F0 m pc ls (.ref q :: rest)) :=
  b_callP C (y := y) (bytes := bytes) (mL := mL) (fr := fr) (lo := lo) hP hD hS hA (fun hp => va_runI (Ts := pw_tbl) (As := []) ⟨C.x, C.b, C.ml, C.ow, C.ts⟩ (hM H.size) (cwI 0 C.ts (good1 h5) rfl rfl rfl (C.ts _ h4) (C.ts _ h1) (C.ts _ h2) hy hd hR) hp rfl rfl hls rfl (lv_room hcat) hdg hf) kk
/-- an array of ints, bytes, longs; of references -/
theorem b_arr (C : Cy G p s m meth c cc own nL) {atype : ArrayType} {ty : FieldType} {n : Int32} {u_n : Nat} {a0 : vp_A} (hty : newarray.typeOf atype = ty) (harr : Cond.arrayClass (newarray.typeOf atype) ∈ pw_tbl) (hK : va_K G.1 vwCl tys G.2.1) (hP : va_P G.1 vwCl ws H) (hD : va_D A ws) (hS : va_S A s.heap H locs) (hA : ∀ q : Nat, s.heap.size ≤ q → A q)
    (ha : ∀ cA : ClassId, vp_cell cA a0 = arrV cA u_n (fun _ => defaultValue ty)) (hn : ¬ n < 0) (hN : n.toNatClampNeg = u_n) (hby : u_n * componentBytes ty ≤ 536870912) (hR : cells + 1 ≤ R.cells ∧ slots + u_n ≤ R.slots) (hdg : decode cc pc = .ok (.newarray atype, 2))
    (kk : ∀ (q : Nat) (cA : ClassId) (H1 : Heap), va_K G.1 vwCl (tys ++ [(cA, ty)]) G.2.1 → va_P G.1 vwCl (ws ++ [(q, .inl (cA, a0))]) H1 → va_D A (ws ++ [(q, .inl (cA, a0))]) → va_S A s.heap H1 locs → W p l e R s m args below meth c H1 locs (cells + 1) (slots + u_n) Q (F0 m (pc + 2) ls (.ref q :: rest))) : W p l e R s m args below meth c H locs cells slots Q (F0 m pc ls (.int n :: rest)) :=
  va_newa (atype := atype) C.x C.b (C.ts _ harr) hty (C.K hK) hP hD hS hA ha hn hN hby hR.1 hR.2 hdg (fun q cA H1 hK1 hP1 hD1 hS1 => kk q cA H1 (C.K' hK1) hP1 hD1 hS1)
theorem b_arq (C : Cy G p s m meth c cc own nL) {Cn : String} {index : Nat} {n : Int32} {u_n : Nat} (hcl : Cond.classLink own index Cn ∈ pw_tbl) (hov : Cond.arrayOver (.object Cn) ∈ lw_tbl) (hK : va_K G.1 vwCl tys G.2.1) (hP : va_P G.1 vwCl ws H) (hD : va_D A ws) (hS : va_S A s.heap H locs) (hA : ∀ q : Nat, s.heap.size ≤ q → A q)
    (hn : ¬ n < 0) (hN : n.toNatClampNeg = u_n) (hby : u_n * 4 ≤ 536870912) (hR : cells + 1 ≤ R.cells ∧ slots + u_n ≤ R.slots) (hdg : decode cc pc = .ok (.anewarray index, 3))
    (kk : ∀ (q : Nat) (cA : ClassId) (H1 : Heap), va_K G.1 vwCl (tys ++ [(cA, .object Cn)]) G.2.1 → va_P G.1 vwCl (ws ++ [(q, .inl (cA, u_n, .inr (.inr (.inr (.inr (fun _ => none))))))]) H1 → va_D A (ws ++ [(q, .inl (cA, u_n, .inr (.inr (.inr (.inr (fun _ => none))))))]) → va_S A s.heap H1 locs → W p l e R s m args below meth c H1 locs (cells + 1) (slots + u_n) Q (F0 m (pc + 3) ls (.ref q :: rest))) : W p l e R s m args below meth c H locs cells slots Q (F0 m pc ls (.int n :: rest)) :=
  va_newq (C := Cn) C.x C.b C.ow (C.ts _ hcl) (va_AO.moved C.hW.alike (va_AO.of (C.en.2 _ hov))) (C.K hK) hP hD hS hA hn hN hby hR.1 hR.2 hdg (fun q cA H1 hK1 hP1 hD1 hS1 => kk q cA H1 (C.K' hK1) hP1 hD1 hS1)
end Making
/-- a class of arrays is one -/
theorem ty_eq {D : va_G} {cl : List vw_C} {t1 t2 : List (ClassId × FieldType)} {U : State} {u_a u_b : ClassId} {ty : FieldType} (h1 : va_K D cl t1 U) (h2 : va_K D cl t2 U) {i j : Nat} (e1 : t1[i]? = some (u_a, ty)) (e2 : t2[j]? = some (u_b, ty)) : u_a = u_b := by
  have g1 := (h1.2 i _ e1).2
  have g2 := (h2.2 j _ e2).2
  cases ty with
  | object C =>
    obtain ⟨_, _, _, _, _, h3⟩ := g1
    obtain ⟨_, _, _, _, _, h4⟩ := g2
    exact Option.some.inj (h3.symm.trans h4)
  | _ => exact Option.some.inj (Eq.trans (Eq.symm g1) g2)
theorem arr_cg {D : va_G} {cl : List vw_C} {q u_n : Nat} {cA : ClassId} {f g : Nat → Option Nat} {H : Heap} (h : ∀ j, j < u_n → f j = g j) (hp : va_at D cl (q, .inl (cA, u_n, .inr (.inr (.inr (.inr f))))) H) : va_at D cl (q, .inl (cA, u_n, .inr (.inr (.inr (.inr g))))) H := by
  have e : vp_cell cA (u_n, .inr (.inr (.inr (.inr f)))) = vp_cell cA (u_n, .inr (.inr (.inr (.inr g)))) := by
    rw [vp_cell_q, vp_cell_q]
    unfold arrV
    congr 2
    funext j
    show va_rf (f j.val) = va_rf (g j.val)
    rw [h j.val j.isLt]
  show H[q]? = some (vp_cell cA (u_n, .inr (.inr (.inr (.inr g)))))
  rw [← e]; exact hp
theorem ka_byte : Cond.arrayClass (newarray.typeOf .byte) ∈ pw_tbl := pw_in 218 (by decide +kernel) (by decide +kernel)
theorem ka_int : Cond.arrayClass (newarray.typeOf .int) ∈ pw_tbl := pw_in 219 (by decide +kernel) (by decide +kernel)
theorem ko_X5 : Cond.arrayOver (.object "ConsentQueue$Member") ∈ lw_tbl := List.mem_of_getElem? (i := 108) (by decide +kernel)
theorem ko_X4 : Cond.arrayOver (.object "ConsentQueue$Line") ∈ lw_tbl := List.mem_of_getElem? (i := 181) (by decide +kernel)
