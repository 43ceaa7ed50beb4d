/-! THROWS: a contract that returns or throws (MX); its ends and calls; refuse -/
/-- what a throw needs at the start: no stack traces, three texts, the statics of Throwable -/
def Env2 (l : Launch) (E : GE) (u_x : Nat × Nat × Nat) : Prop :=
  l.stackTraces = false ∧ vk_R RX6 265 "there is no such member or place" u_x.1 (gS E) ∧ vk_R RX6 272 "an argument is out of range" u_x.2.1 (gS E) ∧ vk_R RX6 277 "the queue does not allow this now" u_x.2.2 (gS E) ∧
  vx_Zq Bundle.tN "UNASSIGNED_STACK" Bundle.steD (gFr E) (gS E) (gS E).heap ∧ vx_Zq Bundle.tN "SUPPRESSED_SENTINEL" Bundle.listD (gFr E) (gS E) (gS E).heap
theorem JJ.grow {E : GE} {S : ST} {H H1 : Heap} {locs : List Loc} (hJ : JJ E S H locs) (h1 : H.size ≤ H1.size) (h2 : ∀ q : Nat, q < H.size → H1[q]? = H[q]?) : JJ E S H1 [] :=
  ⟨hJ.1.kept (fun k q hk => h2 q.1 (vx_lt hJ.1 hk)), ⟨Nat.le_trans hJ.2.1 h1, fun q h h' => (h2 q (Nat.lt_of_lt_of_le h hJ.2.1)).trans (hJ.2.2.1 q h h'), fun _ h => by cases h⟩⟩
abbrev rmX (fr lo u_c u_s : Nat) : Room := { frames := fr, cells := u_c, slots := u_s, locals := lo }
def XQc (E : GE) (P : Option Value → ST → Prop) : Array Value → State → Outcome → State → Prop := fun _ _ o t => ∃ (v : Option Value) (S' : ST), o = .returned v ∧ P v S' ∧ HS E S' t
def XXc (E : GE) (S : ST) (XP : String → Prop) : String → State → State → Prop := fun x _ t => XP x ∧ JJ E S t.heap []
def XQ (below : List Frame) (args : Array Value) (s : State) (E : GE) (P : Option Value → ST → Prop) (S : ST) (XP : String → Prop) (u_c u_s : Nat) : State → Prop := vx_MQ below (XQc E P) (XXc E S XP) args s u_c u_s (gFr E)
def MX (l : Launch) (E : GE) (y : MethodName) (cc : ByteArray) (mL : Nat) (ret : Option FieldType) (fr lo u_c u_s : Nat) (S : ST) (as : List Value) (P : Option Value → ST → Prop) (XP : String → Prop) : Prop :=
  vx_Met l y [.code y cc mL ret] (rmX fr lo u_c u_s) (va_Pc as (HS E S)) (XQc E P) (XXc E S XP) u_c u_s (gFr E)
section Throws
variable {p : Program} {l : Launch} {e : Env} {R : Room} {s : State} {m : MethodId} {args : Array Value} {below : List Frame} {meth : Method} {c : Code} {H : Heap} {locs : List Loc} {cells slots : Nat} {Q : State → Prop} {E : GE} {S : ST} {cc : ByteArray} {own : String} {nL pc : Nat} {ls : Array Slot} {rest : List Value} {P : Option Value → ST → Prop} {XP : String → Prop} {u_c u_s : Nat}
theorem MX.of {y : MethodName} {mL fr lo : Nat} {ret : Option FieldType} {as : List Value} (hE : Env0 E) (hy : plainName y.cls = true) (hlen : (lg_sl as).length ≤ mL)
    (body : ∀ (p : Program) (e : Env) (s : State) (m : MethodId) (below : List Frame) (meth : Method) (c : Code) (ls : Array Slot), Cx E p s m meth c cc y.cls mL → (∀ x ∈ c.exceptionTable.toList, False) → JJ E S s.heap [] → meth.sig.returnType = ret → lv_has ls mL (lv_args 0 as) → W p l e (rmX fr lo u_c u_s) s m as.toArray below meth c s.heap [] 0 0 (XQ below as.toArray s E P S XP u_c u_s) (F0 m 0 ls [])) : MX l E y cc mL ret fr lo u_c u_s S as P XP := by
  refine vx_ofW (cc := cc) (maxL := mL) (ret := ret) hy rfl ?_
  intro p e s m args below meth c s₁ B hml hexc hv
  obtain ⟨rfl, hW, hJ⟩ := hv
  have hl := lv_entry as hlen
  rw [lg_entry_eq]
  generalize (lg_sl as ++ List.replicate (mL - (lg_sl as).length) Slot.unset).toArray = ls at hl ⊢
  exact body p e s m below meth c ls ⟨B.exec, B.bytes, hml, findClass_of_methodNamed B.named, hW, hE, B.notSynchronized⟩ hexc hJ B.returns hl
theorem rX_i (C : Cx E p s m meth c cc own nL) (hJ : JJ E S H locs) {S0 : ST} {ty : FieldType} {v : Int32} (hr : meth.sig.returnType = some ty) (hn : narrow ty (.int v) = .int v) (hP : P (some (.int v)) S) (hdg : decode cc pc = .ok (.ireturn, 1)) (hc : cells ≤ u_c ∧ slots ≤ u_s) : W p l e R s m args below meth c H locs cells slots (XQ below args s E P S0 XP u_c u_s) (F0 m pc ls [.int v]) :=
  W.widen hc.1 hc.2 (vx_ret (W.zret C.x C.b hr hn (fun t ht hW => ⟨_, S, rfl, hP, HS.of C hJ ht hW⟩) hJ.2.2.2 hdg C.lk))
theorem rX_v (C : Cx E p s m meth c cc own nL) (hJ : JJ E S H locs) {S0 : ST} (hr : meth.sig.returnType = none) (hP : P none S) (hdg : decode cc pc = .ok (.return_, 1)) (hc : cells ≤ u_c ∧ slots ≤ u_s) : W p l e R s m args below meth c H locs cells slots (XQ below args s E P S0 XP u_c u_s) (F0 m pc ls []) :=
  W.widen hc.1 hc.2 (vx_ret (W.vret C.x C.b hr (fun t ht hW => ⟨_, S, rfl, hP, HS.of C hJ ht hW⟩) hJ.2.2.2 hdg C.lk))
/-- behind a call that may throw, in a method that may -/
theorem k_X (C : Cx E p s m meth c cc own nL) (hexc : ∀ x ∈ c.exceptionTable.toList, False) {S0 : ST} {a : Array Value} {P0 : Option Value → ST → Prop} {XP0 : String → Prop} {k_c k_s : Nat} {st0 : List Value} (hJ : JJ E S H locs)
    (hr : vx_Run p l e R s m args below meth c H locs cells slots k_c k_s (F0 m pc ls st0) rest (XQc E P0 a) (XXc E S0 XP0) (gFr E)) (hX : ∀ x, XP0 x → XP x) (hc : cells + k_c ≤ u_c ∧ slots + k_s ≤ u_s)
    (kk : ∀ (v : Option Value) (S' : ST) (H1 : Heap) (locs1 : List Loc), P0 v S' → JJ E S' H1 locs1 → W p l e R s m args below meth c H1 locs1 (cells + k_c) (slots + k_s) (XQ below args s E P S0 XP u_c u_s) (F0 m (pc + 3) ls (v.toList ++ rest))) : W p l e R s m args below meth c H locs cells slots (XQ below args s E P S0 XP u_c u_s) (F0 m pc ls st0) := by
  intro T hT X
  rcases hr T hT X with ⟨v', st₀, t, T', L, h0, X', hL, e1, e2, ⟨v, S', hv, hP, hW1, hJ1⟩, st⟩ | ⟨q, st₀, t, T', L, x, ce, h0, X', hL, e1, e2, ⟨hp, hj⟩, hce, hcv, hcl, st⟩
  · cases hv
    obtain ⟨t2, a1, b1⟩ := kk v' S' T'.heap (locs ++ L) hP (hJ.app (by rw [e1]; exact hJ1) hL) T' rfl X'
    exact ⟨t2, st t2 a1, b1⟩
  · have h9 : vx_W p l e R s m args below meth c T'.heap (locs ++ L) (cells + k_c) (slots + k_s) (XQ below args s E P S0 XP u_c u_s) (F0 m pc ls rest) q :=
      vx_out (ce := ce) (E := x) (fun z hz => (hexc z hz).elim) C.lk (by rw [e1]; exact hce) hcv hcl (fun t' ht' _ => ⟨hX x hp, by rw [ht', e1]; exact hj⟩) (fun z hz => by
        rcases List.mem_append.mp hz with h | h
        · exact hJ.2.2.2 z h
        · exact hL z h) hc.1 hc.2
    obtain ⟨t2, a1, b1⟩ := h9 T' rfl X'
    exact ⟨t2, st.trans a1, b1⟩
theorem x_throw {u_x : Nat × Nat × Nat} (C : Cx E p s m meth c cc RX6 nL) (hX2 : Env2 l E u_x) (hexc : ∀ x ∈ c.exceptionTable.toList, False) (hJ : JJ E S s.heap []) {ik is ic sa : Nat} {cls text : String} (hls : ls.size = nL)
    (hk : Cond.classLink RX6 ik cls ∈ pw_tbl) (hini : Cond.initialized cls ∈ pw_tbl) (hstr : vk_R RX6 is text sa (gS E)) (hin : ∀ w ∈ xW ic cls, w ∈ lw_tbl) (hg : (xW ic cls).all xgW = true) (hot : ∀ w ∈ Cond.classLink RX6 ik cls :: Cond.initialized cls :: xW ic cls, vx_ot w = true) (hfit : Bundle.fit cls = true)
    (d0 : decode cc pc = .ok (.new ik, 3)) (d3 : decode cc (pc + 3) = .ok (.dup, 1)) (d4 : decode cc (pc + 4) = .ok (.ldc_w is, 3)) (d7 : decode cc (pc + 7) = .ok (.invokespecial ic, 3)) (d10 : decode cc (pc + 10) = .ok (.athrow, 1))
    (hR : 5 < R.frames ∧ 82 ≤ R.locals ∧ 0 + 1 ≤ R.cells ∧ 0 + 6 ≤ R.slots) (hXP : XP cls) (hc : 0 + 1 ≤ u_c ∧ 0 + 6 ≤ u_s) : W p l e R s m args below meth c s.heap [] 0 0 (XQ below args s E P S XP u_c u_s) (F0 m pc ls []) :=
  vx_throwSW (A := gFr E) (names := xNs) C.x C.b hX2.1 C.ow hfit (by decide) (C.ts _ hk) (C.ts _ hini) (vk_R.warm C.hW hstr) (fun w hw => xgW_at C.env C.hW (hin w hw) (List.all_eq_true.mp hg w hw)) hot
    (vx_Zq.moved C.hW.alike (hX2.2.2.2.2.1.kept hJ.ag)) (vx_Zq.moved C.hW.alike (hX2.2.2.2.2.2.kept hJ.ag)) va_S.rf (hls.trans C.ml.symm) d0 d3 d4 d7 d10 (fun x hx => (hexc x hx).elim) hR.1 (by show 0 + (13 * (2 + 1) + 43) ≤ R.locals; exact hR.2.1) hR.2.2.1 hR.2.2.2 C.lk
    (fun t _ h1 h2 => ⟨hXP, hJ.grow h1 h2⟩) (fun z hz => by cases hz) hc.1 hc.2
end Throws
/-- which exception a fault is -/
def exO (p0 : Int32) : Option String := if p0 = 1 then some "java/lang/IndexOutOfBoundsException" else if p0 = 2 then some "java/lang/IllegalArgumentException" else if p0 = 3 then some "java/lang/IllegalStateException" else none
set_option maxHeartbeats 4000000 in
set_option maxRecDepth 100000 in
theorem c_X6_refuse {l : Launch} {E : GE} (hE : Env0 E) {u_x : Nat × Nat × Nat} (hX2 : Env2 l E u_x) {S : ST} (p0 : Int32) : MX l E yX6_refuse cX6_refuse 1 none 6 82 1 6 S [.int p0] (fun v S1 => v = none ∧ S1 = S ∧ exO p0 = none) (fun x => exO p0 = some x) := by
  refine MX.of hE (by decide) (Nat.le_of_ble_eq_true rfl) ?_
  intro p e s m below meth c ls C hexc hJ hr hl
  have hx := C.x
  have hb := C.b
  have hl : lv_has ls 1 [(0, .int p0)] := hl
  refine lv_iload_n hx hb dX6_refuse_0 rfl (lv_at hl 0 rfl) ?_
  refine lv_iconst (v := 1) hx hb dX6_refuse_1 (by decide) ?_
  refine lv_icmp_ne (tgt := 16) hx hb dX6_refuse_2 (by decide) (fun c_2 => ?_) (fun c_2 => ?_)
  · refine lv_iload_n hx hb dX6_refuse_16 rfl (lv_at hl 0 rfl) ?_
    refine lv_iconst (v := 2) hx hb dX6_refuse_17 (by decide) ?_
    refine lv_icmp_ne (tgt := 32) hx hb dX6_refuse_18 (by decide) (fun c_18 => ?_) (fun c_18 => ?_)
    · refine lv_iload_n hx hb dX6_refuse_32 rfl (lv_at hl 0 rfl) ?_
      refine lv_iconst (v := 3) hx hb dX6_refuse_33 (by decide) ?_
      refine lv_icmp_ne (tgt := 48) hx hb dX6_refuse_34 (by decide) (fun c_34 => ?_) (fun c_34 => ?_)
      · exact rX_v C hJ hr ⟨rfl, rfl, by unfold exO; rw [if_neg c_2, if_neg c_18, if_neg c_34]⟩ dX6_refuse_48 ⟨by decide, by decide⟩
      · exact x_throw C hX2 hexc hJ hl.1 kk_X6_275 k0_java_lang_IllegalStateException hX2.2.2.2.1 xW3_in xW3_good xW3_ot (by decide +kernel) dX6_refuse_37 dX6_refuse_40 dX6_refuse_41 dX6_refuse_44 dX6_refuse_47 ⟨by decide, by decide, by decide, by decide⟩ (by unfold exO; rw [if_neg c_2, if_neg c_18, if_pos c_34]) ⟨by decide, by decide⟩
    · exact x_throw C hX2 hexc hJ hl.1 kk_X6_270 k0_java_lang_IllegalArgumentException hX2.2.2.1 xW2_in xW2_good xW2_ot (by decide +kernel) dX6_refuse_21 dX6_refuse_24 dX6_refuse_25 dX6_refuse_28 dX6_refuse_31 ⟨by decide, by decide, by decide, by decide⟩ (by unfold exO; rw [if_neg c_2, if_pos c_18]) ⟨by decide, by decide⟩
  · exact x_throw C hX2 hexc hJ hl.1 kk_X6_263 k0_java_lang_IndexOutOfBoundsException hX2.2.1 xW1_in xW1_good xW1_ot (by decide +kernel) dX6_refuse_5 dX6_refuse_8 dX6_refuse_9 dX6_refuse_12 dX6_refuse_15 ⟨by decide, by decide, by decide, by decide⟩ (by unfold exO; rw [if_pos c_2]) ⟨by decide, by decide⟩
