/-! CALLS: a contract that reads (MR), one that writes (MW); their bodies, ends and calls. -/
section Calls
variable {p : Program} {l : Launch} {e : Env} {R : Room} {s : State} {m : MethodId} {args : Array Value} {below : List Frame} {meth : Method} {c : Code} {H : Heap} {locs : List Loc} {cells slots : Nat} {Q : State → Prop} {E : GE} {S : ST} {cc : ByteArray} {own : String} {nL pc : Nat} {ls : Array Slot} {rest : List Value}
def RQ (below : List Frame) (args : Array Value) (s : State) (v : Option Value) : State → Prop := MQ below (fun _ st o t => o = .returned v ∧ t.heap = st.heap) args s 0 0 (fun _ => False)
def WQ (below : List Frame) (args : Array Value) (s : State) (E : GE) (P : Option Value → ST → Prop) : State → Prop := MQ below (fun _ _ o t => ∃ (v : Option Value) (S' : ST), o = .returned v ∧ P v S' ∧ HS E S' t) args s 0 0 (gFr E)
abbrev rmZ (fr lo : Nat) : Room := { frames := fr, cells := 0, slots := 0, locals := lo }
def MR (l : Launch) (E : GE) (y : MethodName) (cc : ByteArray) (mL : Nat) (ret : Option FieldType) (fr lo : Nat) (S : ST) (as : List Value) (v : Option Value) : Prop :=
  Met l y [.code y cc mL ret] (rmZ fr lo) (va_Pc as (HS E S)) (fun _ st o t => o = .returned v ∧ t.heap = st.heap) 0 0 (fun _ => False)
def MW (l : Launch) (E : GE) (y : MethodName) (cc : ByteArray) (mL : Nat) (ret : Option FieldType) (fr lo : Nat) (S : ST) (as : List Value) (P : Option Value → ST → Prop) : Prop :=
  Met l y [.code y cc mL ret] (rmZ fr lo) (va_Pc as (HS E S)) (fun _ _ o t => ∃ (v : Option Value) (S' : ST), o = .returned v ∧ P v S' ∧ HS E S' t) 0 0 (gFr E)
theorem MR.of {y : MethodName} {mL fr lo : Nat} {ret : Option FieldType} {as : List Value} {v : Option Value} (hE : Env0 E) (hy : plainName y.cls = true) (hlen : (lg_sl as).length ≤ mL)
    (body : ∀ (p : Program) (e : Env) (s : State) (m : MethodId) (below : List Frame) (meth : Method) (c : Code) (ls : Array Slot), Cx E p s m meth c cc y.cls mL → JJ E S s.heap [] → meth.sig.returnType = ret → lv_has ls mL (lv_args 0 as) → W p l e (rmZ fr lo) s m as.toArray below meth c s.heap [] 0 0 (RQ below as.toArray s v) (F0 m 0 ls [])) : MR l E y cc mL ret fr lo S as v := by
  refine Met.ofW (cc := cc) (maxL := mL) (ret := ret) hy rfl ?_
  intro p e s m args below meth c s₁ B hml hv
  obtain ⟨rfl, hW, hJ⟩ := hv
  have hl := lv_entry as hlen
  rw [lg_entry_eq]
  generalize (lg_sl as ++ List.replicate (mL - (lg_sl as).length) Slot.unset).toArray = ls at hl ⊢
  exact body p e s m below meth c ls ⟨B.exec, B.bytes, hml, findClass_of_methodNamed B.named, hW, hE, B.notSynchronized⟩ hJ B.returns hl
theorem MW.of {y : MethodName} {mL fr lo : Nat} {ret : Option FieldType} {as : List Value} {P : Option Value → ST → Prop} (hE : Env0 E) (hy : plainName y.cls = true) (hlen : (lg_sl as).length ≤ mL)
    (body : ∀ (p : Program) (e : Env) (s : State) (m : MethodId) (below : List Frame) (meth : Method) (c : Code) (ls : Array Slot), Cx E p s m meth c cc y.cls mL → JJ E S s.heap [] → meth.sig.returnType = ret → lv_has ls mL (lv_args 0 as) → W p l e (rmZ fr lo) s m as.toArray below meth c s.heap [] 0 0 (WQ below as.toArray s E P) (F0 m 0 ls [])) : MW l E y cc mL ret fr lo S as P := by
  refine Met.ofW (cc := cc) (maxL := mL) (ret := ret) hy rfl ?_
  intro p e s m args below meth c s₁ B hml hv
  obtain ⟨rfl, hW, hJ⟩ := hv
  have hl := lv_entry as hlen
  rw [lg_entry_eq]
  generalize (lg_sl as ++ List.replicate (mL - (lg_sl as).length) Slot.unset).toArray = ls at hl ⊢
  exact body p e s m below meth c ls ⟨B.exec, B.bytes, hml, findClass_of_methodNamed B.named, hW, hE, B.notSynchronized⟩ hJ B.returns hl
/-- a contract that may not write is one that may -/
theorem MW.mono {y : MethodName} {mL fr lo : Nat} {ret : Option FieldType} {as : List Value} {P P' : Option Value → ST → Prop} (h : MW l E y cc mL ret fr lo S as P) (hp : ∀ v S', P v S' → P' v S') : MW l E y cc mL ret fr lo S as P' := by
  intro p e h1 h2 h3 s m args below h4 h5 h6 h7
  obtain ⟨n, o, a1, a2, a3, ⟨v, S', b1, b2, b3⟩, b4⟩ := h p e h1 h2 h3 s m args below h4 h5 h6 h7
  exact ⟨n, o, a1, a2, a3, ⟨v, S', b1, hp v S' b2, b3⟩, b4⟩
theorem JJ.nil (h : JJ E S H locs) : JJ E S H [] := ⟨h.1, h.2.1, h.2.2.1, fun _ h => by cases h⟩
theorem JJ.app {S' : ST} {H1 : Heap} {L : List Loc} (h : JJ E S H locs) (h1 : JJ E S' H1 []) (hL : ∀ q ∈ L, gFr E q.base) : JJ E S' H1 (locs ++ L) := ⟨h1.1, h1.2.1, h1.2.2.1, fun q hq => by
  rcases List.mem_append.mp hq with h2 | h2
  · exact h.2.2.2 q h2
  · exact hL q h2⟩
theorem HS.of {t : State} (C : Cx E p s m meth c cc own nL) (hJ : JJ E S H locs) (ht : t.heap = H) (hW : s.WarmedH t.vm) : HS E S t := ⟨State.WarmedH.trans C.hW hW, by rw [ht]; exact hJ.nil⟩
/-- the ends of a method that reads -/
theorem rR_i (C : Cx E p s m meth c cc own nL) {ty : FieldType} {v v' : Int32} (hr : meth.sig.returnType = some ty) (hn : narrow ty (.int v) = .int v) (hv : v = v') (hdg : decode cc pc = .ok (.ireturn, 1)) : W p l e R s m args below meth c s.heap [] 0 0 (RQ below args s (some (.int v'))) (F0 m pc ls [.int v]) :=
  W.zret C.x C.b hr hn (fun t ht _ => ⟨by rw [hv], ht⟩) (fun _ h => by cases h) hdg C.lk
theorem rR_l (C : Cx E p s m meth c cc own nL) {v v' : Int64} (hr : meth.sig.returnType = some .long) (hv : v = v') (hdg : decode cc pc = .ok (.lreturn, 1)) : W p l e R s m args below meth c s.heap [] 0 0 (RQ below args s (some (.long v'))) (F0 m pc ls [.long v]) :=
  W.lret C.x C.b hr (fun t ht _ => ⟨by rw [hv], ht⟩) (fun _ h => by cases h) hdg C.lk
theorem rR_a (C : Cx E p s m meth c cc own nL) {rt : FieldType} {v v' : Value} (hr : meth.sig.returnType = some rt) (hrt : (∃ n, rt = .object n) ∨ ∃ t, rt = .array t) (hva : v = .null ∨ ∃ a, v = .ref a) (hv : v = v') (hdg : decode cc pc = .ok (.areturn, 1)) : W p l e R s m args below meth c s.heap [] 0 0 (RQ below args s (some v')) (F0 m pc ls [v]) :=
  W.aret C.x C.b hr hrt hva (fun t ht _ => ⟨by rw [hv], ht⟩) (fun _ h => by cases h) hdg C.lk
theorem rR_v (C : Cx E p s m meth c cc own nL) (hr : meth.sig.returnType = none) (hdg : decode cc pc = .ok (.return_, 1)) : W p l e R s m args below meth c s.heap [] 0 0 (RQ below args s none) (F0 m pc ls []) :=
  W.vret C.x C.b hr (fun t ht _ => ⟨rfl, ht⟩) (fun _ h => by cases h) hdg C.lk
/-- .. of one that writes -/
theorem rW_i (C : Cx E p s m meth c cc own nL) (hJ : JJ E S H locs) {P : Option Value → ST → Prop} {ty : FieldType} {v : Int32} (hr : meth.sig.returnType = some ty) (hn : narrow ty (.int v) = .int v) (hP : P (some (.int v)) S) (hdg : decode cc pc = .ok (.ireturn, 1)) : W p l e R s m args below meth c H locs 0 0 (WQ below args s E P) (F0 m pc ls [.int v]) :=
  W.zret C.x C.b hr hn (fun t ht hW => ⟨_, S, rfl, hP, HS.of C hJ ht hW⟩) hJ.2.2.2 hdg C.lk
theorem rW_l (C : Cx E p s m meth c cc own nL) (hJ : JJ E S H locs) {P : Option Value → ST → Prop} {v : Int64} (hr : meth.sig.returnType = some .long) (hP : P (some (.long v)) S) (hdg : decode cc pc = .ok (.lreturn, 1)) : W p l e R s m args below meth c H locs 0 0 (WQ below args s E P) (F0 m pc ls [.long v]) :=
  W.lret C.x C.b hr (fun t ht hW => ⟨_, S, rfl, hP, HS.of C hJ ht hW⟩) hJ.2.2.2 hdg C.lk
theorem rW_v (C : Cx E p s m meth c cc own nL) (hJ : JJ E S H locs) {P : Option Value → ST → Prop} (hr : meth.sig.returnType = none) (hP : P none S) (hdg : decode cc pc = .ok (.return_, 1)) : W p l e R s m args below meth c H locs 0 0 (WQ below args s E P) (F0 m pc ls []) :=
  W.vret C.x C.b hr (fun t ht hW => ⟨_, S, rfl, hP, HS.of C hJ ht hW⟩) hJ.2.2.2 hdg C.lk
/-- behind a call -/
theorem k_R {st0 : List Value} {v : Option Value} (hr : va_Run p l e R s m args below meth c H locs cells slots 0 0 (F0 m pc ls st0) rest (fun st o t => o = .returned v ∧ t.heap = st.heap) (fun _ => False))
    (kk : W p l e R s m args below meth c H locs cells slots Q (F0 m (pc + 3) ls (v.toList ++ rest))) : W p l e R s m args below meth c H locs cells slots Q (F0 m pc ls st0) := by
  intro T hT X
  obtain ⟨v', st₀, t, T', L, h0, X', hL, e1, e2, ⟨hv, hh⟩, st⟩ := hr T hT X
  cases hv
  obtain ⟨t2, a1, b1⟩ := kk T' (by rw [e1, hh, h0]) (Stand.forget X' (fun q h => (hL q h).elim))
  exact ⟨t2, st t2 a1, b1⟩
theorem k_W {st0 : List Value} {P : Option Value → ST → Prop} (hJ : JJ E S H locs) (hr : va_Run p l e R s m args below meth c H locs cells slots 0 0 (F0 m pc ls st0) rest (fun _ o t => ∃ (v : Option Value) (S' : ST), o = .returned v ∧ P v S' ∧ HS E S' t) (gFr E))
    (kk : ∀ (v : Option Value) (S' : ST) (H1 : Heap) (locs1 : List Loc), P v S' → JJ E S' H1 locs1 → W p l e R s m args below meth c H1 locs1 cells slots Q (F0 m (pc + 3) ls (v.toList ++ rest))) : W p l e R s m args below meth c H locs cells slots Q (F0 m pc ls st0) := by
  intro T hT X
  obtain ⟨v', st₀, t, T', L, h0, X', hL, e1, e2, ⟨v, S', hv, hP, hW1, hJ1⟩, st⟩ := hr T hT X
  cases hv
  obtain ⟨t2, a1, b1⟩ := kk v' S' T'.heap (locs ++ L) hP (hJ.app (by rw [e1]; exact hJ1) hL) T' rfl X'
  exact ⟨t2, st t2 a1, b1⟩
theorem blind (as : List Value) : FrameBlind (va_Pc as (HS E S)) := fun _ _ _ _ h => h
theorem good1 {y : MethodName} {bytes : ByteArray} {mL : Nat} {ret : Option FieldType} (h : Cond.code y bytes mL ret ∈ pw_tbl) : GoodIn pw_tbl [Cond.code y bytes mL ret] := fun w hw => by
  rw [List.mem_singleton.mp hw]; exact ⟨h, pw_good h⟩
/-- a call of an own method (invokevirtual), of a nest mate's, of a static one -/
theorem r_V (C : Cx E p s m meth c cc own nL) (hJ : JJ E S H locs) {y : MethodName} {bytes : ByteArray} {mL fr lo i ci N n index : Nat} {ret : Option FieldType} {As st0 fs : List Value} {Cn : String} {T : u_T} {Qc : Array Value → State → Outcome → State → Prop} {free : Addr → Prop}
    (hM : Met l y [.code y bytes mL ret] (rmZ fr lo) (va_Pc (.ref (gA E i) :: As) (HS E S)) Qc 0 0 free) (hi : i < 84) (hr : pE E S i = .inr (ci, fs)) (hc : vwCl[ci]? = some (Cn, T, N))
    (h1 : Cond.methodLink own index y ∈ pw_tbl) (h2 : Cond.instanceMethod y ∈ pw_tbl) (h3 : Cond.selects Cn y y ∈ pw_tbl) (h4 : Cond.initialized Cn ∈ pw_tbl) (h5 : Cond.code y bytes mL ret ∈ pw_tbl)
    (hd : y.cls = Cn ∧ y.cls ≠ "java/lang/invoke/MethodHandle" ∧ y.cls ≠ "java/lang/invoke/VarHandle" ∧ (parseMethodDescriptor y.desc).map (fun d => d.parameters.length) = some n) (hn : As.length = n) (hdg : decode cc pc = .ok (.invokevirtual index, 3))
    (hls : ls.size = nL) (hR : fr + 1 ≤ R.frames ∧ 8 + (mL + 11) + lo ≤ R.locals) (hf : cells ≤ R.cells ∧ slots ≤ R.slots) (hcat : (rest.map fun v => v.category).sum ≤ 8) (hstk : st0 = As.reverse ++ .ref (gA E i) :: rest) :
    va_Run p l e R s m args below meth c H locs cells slots 0 0 (F0 m pc ls st0) rest (Qc (Value.ref (gA E i) :: As).toArray) free :=
  va_runV (Ts := pw_tbl) ⟨C.x, C.b, C.ml, C.ow, C.ts⟩ hM (cwV n C.ts (fun w hw => by
      rcases List.mem_append.mp hw with h | h
      · simp only [List.mem_cons, List.not_mem_nil, or_false] at h
        rcases h with rfl | rfl | rfl | rfl
        · exact ⟨h1, pw_good h1⟩
        · exact ⟨h2, pw_good h2⟩
        · exact ⟨h3, pw_good h3⟩
        · exact ⟨h4, pw_good h4⟩
      · exact good1 h5 w h) rfl rfl rfl hd hR) ⟨blind _, va_recv C.K hJ.1 hc ((wl_at E _ hi).trans (by rw [hr])), fun U hU hW => ⟨rfl, HS.of C hJ hU hW⟩⟩ rfl hn hls hstk (lv_room hcat) hdg hf
theorem r_VN (C : Cx E p s m meth c cc own nL) (hJ : JJ E S H locs) {y : MethodName} {bytes : ByteArray} {mL fr lo i ci N n index : Nat} {ret : Option FieldType} {As st0 fs : List Value} {Cn host : String} {T : u_T} {Qc : Array Value → State → Outcome → State → Prop} {free : Addr → Prop}
    (hM : Met l y [.code y bytes mL ret] (rmZ fr lo) (va_Pc (.ref (gA E i) :: As) (HS E S)) Qc 0 0 free) (hi : i < 84) (hr : pE E S i = .inr (ci, fs)) (hc : vwCl[ci]? = some (Cn, T, N))
    (h1 : Cond.methodLinkNest own index y host ∈ lw_tbl) (h2 : Cond.instanceMethod y ∈ pw_tbl) (h3 : Cond.selects Cn y y ∈ pw_tbl) (h4 : Cond.initialized y.cls ∈ pw_tbl) (h5 : Cond.code y bytes mL ret ∈ pw_tbl)
    (hd : y.cls ≠ "java/lang/invoke/MethodHandle" ∧ y.cls ≠ "java/lang/invoke/VarHandle" ∧ (parseMethodDescriptor y.desc).map (fun d => d.parameters.length) = some n) (hn : As.length = n) (hdg : decode cc pc = .ok (.invokevirtual index, 3))
    (hls : ls.size = nL) (hR : fr + 1 ≤ R.frames ∧ 8 + (mL + 11) + lo ≤ R.locals) (hf : cells ≤ R.cells ∧ slots ≤ R.slots) (hcat : (rest.map fun v => v.category).sum ≤ 8) (hstk : st0 = As.reverse ++ .ref (gA E i) :: rest) :
    va_Run p l e R s m args below meth c H locs cells slots 0 0 (F0 m pc ls st0) rest (Qc (Value.ref (gA E i) :: As).toArray) free :=
  va_runVN (Ts := pw_tbl) ⟨C.x, C.b, C.ml, C.ow, C.ts⟩ hM ⟨va_cnB (own := own) (host := host) n C.ts (good1 h5) rfl rfl rfl (va_Nw.warmM C.hW (va_Nw.of rfl (C.env.2.2.2 _ h1))) (C.ts _ h4) hd hR, C.ts _ h2, C.ts _ h3⟩ ⟨blind _, va_recv C.K hJ.1 hc ((wl_at E _ hi).trans (by rw [hr])), fun U hU hW => ⟨rfl, HS.of C hJ hU hW⟩⟩ rfl hn hls hstk (lv_room hcat) hdg hf
theorem r_S (C : Cx E p s m meth c cc own nL) (hJ : JJ E S H locs) {y : MethodName} {bytes : ByteArray} {mL fr lo n index : Nat} {ret : Option FieldType} {As st0 : List Value} {Qc : Array Value → State → Outcome → State → Prop} {free : Addr → Prop}
    (hM : Met l y [.code y bytes mL ret] (rmZ fr lo) (va_Pc As (HS E S)) Qc 0 0 free)
    (h1 : Cond.methodLink own index y ∈ pw_tbl) (h2 : Cond.static y ∈ pw_tbl) (h4 : Cond.initialized own ∈ pw_tbl) (h5 : Cond.code y bytes mL ret ∈ pw_tbl)
    (hd : y.cls = own ∧ y.cls ≠ "java/lang/invoke/MethodHandle" ∧ y.cls ≠ "java/lang/invoke/VarHandle" ∧ (parseMethodDescriptor y.desc).map (fun d => d.parameters.length) = some n) (hn : As.length = n) (hdg : decode cc pc = .ok (.invokestatic index, 3))
    (hls : ls.size = nL) (hR : fr + 1 ≤ R.frames ∧ 8 + (mL + 11) + lo ≤ R.locals) (hf : cells ≤ R.cells ∧ slots ≤ R.slots) (hcat : (rest.map fun v => v.category).sum ≤ 8) (hstk : st0 = As.reverse ++ rest) :
    va_Run p l e R s m args below meth c H locs cells slots 0 0 (F0 m pc ls st0) rest (Qc As.toArray) free :=
  va_runS (Ts := pw_tbl) ⟨C.x, C.b, C.ml, C.ow, C.ts⟩ hM (cwS n C.ts (fun w hw => by
      rcases List.mem_append.mp hw with h | h
      · simp only [List.mem_cons, List.not_mem_nil, or_false] at h
        rcases h with rfl | rfl | rfl
        · exact ⟨h1, pw_good h1⟩
        · exact ⟨h2, pw_good h2⟩
        · exact ⟨h4, pw_good h4⟩
      · exact good1 h5 w h) rfl rfl rfl hd hR) ⟨blind _, fun U hU hW => ⟨rfl, HS.of C hJ hU hW⟩⟩ rfl hn hls hstk (lv_room hcat) hdg hf
end Calls
