/-! ENVIRONMENT: the commands, their words, the tables of switches -/
/-- addresses: the words, their bytes, the switch's table, the row of all commands -/
abbrev EX : Type := (Nat → Nat) × (Nat → Nat) × Nat × Nat
def cmdN : List String := ["JOIN", "PUSH", "LEAVE", "SAY", "OFFER", "TAKE", "SWAP", "FRIEND", "PART", "SERVE", "SETTLE"]
def cmdO : List Int32 := [0, 1, 2, 3, 4, 5, 6, 7, 8, 9, 10]
def cmdK : List Int32 := [2, 3, 1, 2, 2, 1, 1, 1, 1, 0, 0]
def cmdF : List (String × String × String × List Int32) := [("java/lang/Enum", "ordinal", "I", cmdO), ("ConsentQueue$Command", "numbers", "I", cmdK)]
def wLen : List Nat := [4, 4, 5, 3, 5, 4, 4, 6, 4, 5, 6]
def wByt : List (List Int32) := [[106, 111, 105, 110], [112, 117, 115, 104], [108, 101, 97, 118, 101], [115, 97, 121], [111, 102, 102, 101, 114], [116, 97, 107, 101], [115, 119, 97, 112], [102, 114, 105, 101, 110, 100], [112, 97, 114, 116], [115, 101, 114, 118, 101], [115, 101, 116, 116, 108, 101]]
def swm (j : Nat) : Int32 := if j = 10 then 0 else nI (j + 1)
def Env1 (E : GE) (X : EX) : Prop :=
  va_En "ConsentQueue$Command" "LConsentQueue$Command;" cmdN cmdF (gN E) (gFr E) (gS E) (gS E).heap ∧
  (∀ i, i < 11 → va_OF "ConsentQueue$Command" "word" "Ljava/lang/String;" (.ref (X.1 i)) (gN E i) (gFr E) (gS E) (gS E).heap) ∧
  vk_S 11 wLen wByt X.1 X.2.1 (gFr E) (gS E) (gS E).heap ∧
  va_Z "ConsentQueue$1" "$SwitchMap$ConsentQueue$Command" "[I" (.ref X.2.2.1) (gFr E) (gS E) (gS E).heap ∧
  va_T .int X.2.2.1 11 (fun j => .int (swm j)) (gFr E) (gS E) (gS E).heap ∧
  va_Z "ConsentQueue$Command" "ALL" "[LConsentQueue$Command;" (.ref X.2.2.2) (gFr E) (gS E) (gS E).heap ∧
  va_T (.object "ConsentQueue$Command") X.2.2.2 11 (fun j => .ref (gN E j)) (gFr E) (gS E) (gS E).heap ∧
  va_Z "java/lang/String" "COMPACT_STRINGS" "Z" (.int 1) (gFr E) (gS E) (gS E).heap ∧
  va_Zq "jdk/internal/util/Preconditions" "SIOOBE_FORMATTER" "Ljava/util/function/BiFunction;" (gFr E) (gS E) (gS E).heap
section EnvRows
variable {p : Program} {l : Launch} {e : Env} {R : Room} {s : State} {m : MethodId} {args : Array Value} {below : List Frame} {meth : Method} {c : Code} {H : Heap} {locs : List Loc} {cells slots : Nat} {Q : State → Prop} {E : GE} {S : ST} {X : EX} {cc : ByteArray} {own : String} {nL pc : Nat} {ls : Array Slot} {rest : List Value}
theorem JJ.ag (hJ : JJ E S H locs) : ∀ a : Nat, a < (gS E).heap.size → ¬ gFr E a → H[a]? = (gS E).heap[a]? := fun a h1 h2 => hJ.2.2.1 a h1 h2
/-- a field of a constant object -/
theorem i_OF (C : Cx E p s m meth c cc own nL) (hJ : JJ E S H locs) {o n d ref : String} {v : Value} {t index : Nat} (h : va_OF o n d v t (gFr E) (gS E) (gS E).heap) (hl : Cond.fieldLink own index ref n d ∈ pw_tbl) (hsame : o = ref) (hdg : decode cc pc = .ok (.getfield index, 3))
    (kk : W p l e R s m args below meth c H locs cells slots Q (F0 m (pc + 3) ls (v :: rest))) : W p l e R s m args below meth c H locs cells slots Q (F0 m pc ls (.ref t :: rest)) := by
  obtain ⟨cf, k, i, f, cell, h1, h2, h3, h4, h5, h6⟩ := (h.moved C.hW.alike).kept hJ.ag
  exact W.getf C.x C.b C.ow (C.ts _ hl) (by rw [← hsame]; exact h1) h2 h3 h4 h5 rfl rfl hdg kk
theorem i_OFN (C : Cx E p s m meth c cc own nL) (hJ : JJ E S H locs) {o n d ref host : String} {v : Value} {t index : Nat} (h : va_OF o n d v t (gFr E) (gS E) (gS E).heap) (hl : Cond.fieldLinkNest own index ref n d host ∈ lw_tbl) (hsame : o = ref) (hdg : decode cc pc = .ok (.getfield index, 3))
    (kk : W p l e R s m args below meth c H locs cells slots Q (F0 m (pc + 3) ls (v :: rest))) : W p l e R s m args below meth c H locs cells slots Q (F0 m pc ls (.ref t :: rest)) := by
  obtain ⟨cf, k, i, f, cell, h1, h2, h3, h4, h5, h6⟩ := (h.moved C.hW.alike).kept hJ.ag
  exact va_Wgetf C.x C.b C.ow (va_Nw.use rfl (va_Nw.warmF C.hW (va_Nw.of rfl (C.env.2.2.2 _ hl)))) (by rw [← hsame]; exact h1) h2 h3 h4 h5 rfl rfl hdg kk
/-- a static field -/
theorem i_Z (C : Cx E p s m meth c cc own nL) (hJ : JJ E S H locs) {o n d ref : String} {v : Value} {index : Nat} (h : va_Z o n d v (gFr E) (gS E) (gS E).heap) (hl : Cond.fieldLink own index ref n d ∈ pw_tbl) (hsame : o = ref) (hdg : decode cc pc = .ok (.getstatic index, 3))
    (kk : W p l e R s m args below meth c H locs cells slots Q (F0 m (pc + 3) ls (v :: rest))) : W p l e R s m args below meth c H locs cells slots Q (F0 m pc ls rest) := by
  obtain ⟨cf, kf, fi, f, a, cell, h1, h2, h3, h4, h5, h6, h7, h8⟩ := (va_Z.moved C.hW.alike h).kept hJ.ag
  exact W.gets C.x C.b C.ow (C.ts _ hl) (by rw [← hsame]; exact h1) h2 h3 h4 h5 (fun q => by rw [q] at h6; cases h6) h7 rfl hdg kk
/-- elements of a constant array -/
theorem i_Ti (C : Cx E p s m meth c cc own nL) (hJ : JJ E S H locs) {t N : Nat} {f : Nat → Value} (h : va_T .int t N f (gFr E) (gS E) (gS E).heap) {j : Nat} (hj : j < N) (hN : N ≤ 456) {v : Value} (hv : f j = v) {x : Int32} (hx : x = nI j) (hdg : decode cc pc = .ok (.iaload, 1))
    (kk : W p l e R s m args below meth c H locs cells slots Q (F0 m (pc + 1) ls (v :: rest))) : W p l e R s m args below meth c H locs cells slots Q (F0 m pc ls (.int x :: .ref t :: rest)) := by
  obtain ⟨cell, h1, h2, h3, h4, h5, h6, h7⟩ := (h.moved C.hW.alike).kept hJ.ag
  subst hx
  have e1 : (nI j).toNatClampNeg = j := nI_clamp (by omega)
  exact W.iald (v := v) C.x C.b h1 h2 h3 (fun q => q.elim (nI_pos (by omega)) (fun q => by rw [e1] at q; omega)) (by rw [e1, h6 j hj, hv]) rfl rfl hdg kk
theorem i_Tb (C : Cx E p s m meth c cc own nL) (hJ : JJ E S H locs) {t N : Nat} {f : Nat → Value} (h : va_T .byte t N f (gFr E) (gS E) (gS E).heap) {j : Nat} (hj : j < N) (hN : N ≤ 456) {v : Value} (hv : f j = v) {x : Int32} (hx : x = nI j) (hdg : decode cc pc = .ok (.baload, 1))
    (kk : W p l e R s m args below meth c H locs cells slots Q (F0 m (pc + 1) ls (v :: rest))) : W p l e R s m args below meth c H locs cells slots Q (F0 m pc ls (.int x :: .ref t :: rest)) := by
  obtain ⟨cell, h1, h2, h3, h4, h5, h6, h7⟩ := (h.moved C.hW.alike).kept hJ.ag
  subst hx
  have e1 : (nI j).toNatClampNeg = j := nI_clamp (by omega)
  exact W.bald (v := v) C.x C.b h1 h2 h3 (fun q => q.elim (nI_pos (by omega)) (fun q => by rw [e1] at q; omega)) (by rw [e1, h6 j hj, hv]) rfl rfl hdg kk
theorem i_Tq (C : Cx E p s m meth c cc own nL) (hJ : JJ E S H locs) {t N : Nat} {f : Nat → Value} {Cn : String} (h : va_T (.object Cn) t N f (gFr E) (gS E) (gS E).heap) {j : Nat} (hj : j < N) (hN : N ≤ 456) {v : Value} (hv : f j = v) {x : Int32} (hx : x = nI j) (hdg : decode cc pc = .ok (.aaload, 1))
    (kk : W p l e R s m args below meth c H locs cells slots Q (F0 m (pc + 1) ls (v :: rest))) : W p l e R s m args below meth c H locs cells slots Q (F0 m pc ls (.int x :: .ref t :: rest)) := by
  obtain ⟨cell, h1, h2, h3, h4, h5, h6, h7⟩ := (h.moved C.hW.alike).kept hJ.ag
  subst hx
  have e1 : (nI j).toNatClampNeg = j := nI_clamp (by omega)
  exact W.aald (v := v) (ty := .object Cn) C.x C.b h1 h2 rfl h3 (fun q => q.elim (nI_pos (by omega)) (fun q => by rw [e1] at q; omega)) (by rw [e1, h6 j hj, hv]) rfl rfl hdg kk
theorem i_Tl (C : Cx E p s m meth c cc own nL) (hJ : JJ E S H locs) {t N : Nat} {f : Nat → Value} {ty : FieldType} (h : va_T ty t N f (gFr E) (gS E) (gS E).heap) {v : Int32} (hv : Int32.ofNat N = v) (hdg : decode cc pc = .ok (.arraylength, 1))
    (kk : W p l e R s m args below meth c H locs cells slots Q (F0 m (pc + 1) ls (.int v :: rest))) : W p l e R s m args below meth c H locs cells slots Q (F0 m pc ls (.ref t :: rest)) := by
  subst hv
  obtain ⟨cell, h1, h2, h3, h4, h5, h6, h7⟩ := (h.moved C.hW.alike).kept hJ.ag
  exact W.alen (n := Int32.ofNat N) C.x C.b h1 h2 h5 rfl rfl hdg kk
theorem i_rO (C : Cx E p s m meth c cc own nL) (hJ : JJ E S H locs) {Cn : String} {t : Nat} (h : va_O Cn t (gFr E) (gS E) (gS E).heap) : ∃ cellB : Cell, H[t]? = some cellB ∧ cellB.vm.isStatics = false ∧ s.vm.findClass Cn = some cellB.cls := by
  obtain ⟨cell, h1, h2, h3, h4⟩ := (h.moved C.hW.alike).kept hJ.ag
  exact ⟨cell, h1, h2, h3⟩
/-- a call on a constant object -/
theorem r_VO (C : Cx E p s m meth c cc own nL) (hJ : JJ E S H locs) {y : MethodName} {bytes : ByteArray} {mL fr lo t n index : Nat} {ret : Option FieldType} {As st0 : List Value} {Cn : String} {Qc : Array Value → State → Outcome → State → Prop} {free : Addr → Prop}
    (hM : Met l y [.code y bytes mL ret] (rmZ fr lo) (va_Pc (.ref t :: As) (HS E S)) Qc 0 0 free) (hO : va_O Cn t (gFr E) (gS E) (gS E).heap)
    (h1 : Cond.methodLink own index y ∈ pw_tbl) (h2 : Cond.instanceMethod y ∈ pw_tbl) (h3 : Cond.selects Cn y y ∈ pw_tbl) (h4 : Cond.initialized Cn ∈ pw_tbl) (h5 : Cond.code y bytes mL ret ∈ pw_tbl)
    (hd : y.cls = Cn ∧ y.cls ≠ "java/lang/invoke/MethodHandle" ∧ y.cls ≠ "java/lang/invoke/VarHandle" ∧ (parseMethodDescriptor y.desc).map (fun d => d.parameters.length) = some n) (hn : As.length = n) (hdg : decode cc pc = .ok (.invokevirtual index, 3))
    (hls : ls.size = nL) (hR : fr + 1 ≤ R.frames ∧ 8 + (mL + 11) + lo ≤ R.locals) (hf : cells ≤ R.cells ∧ slots ≤ R.slots) (hcat : (rest.map fun v => v.category).sum ≤ 8) (hstk : st0 = As.reverse ++ .ref t :: rest) :
    va_Run p l e R s m args below meth c H locs cells slots 0 0 (F0 m pc ls st0) rest (Qc (Value.ref t :: As).toArray) free :=
  va_runV (Ts := pw_tbl) ⟨C.x, C.b, C.ml, C.ow, C.ts⟩ hM (cwV n C.ts (fun w hw => by
      rcases List.mem_append.mp hw with h | h
      · simp only [List.mem_cons, List.not_mem_nil, or_false] at h
        rcases h with rfl | rfl | rfl | rfl
        · exact ⟨h1, pw_good h1⟩
        · exact ⟨h2, pw_good h2⟩
        · exact ⟨h3, pw_good h3⟩
        · exact ⟨h4, pw_good h4⟩
      · exact good1 h5 w h) rfl rfl rfl hd hR) ⟨blind _, i_rO C hJ hO, fun U hU hW => ⟨rfl, HS.of C hJ hU hW⟩⟩ rfl hn hls hstk (lv_room hcat) hdg hf
theorem r_SO (C : Cx E p s m meth c cc own nL) (hJ : JJ E S H locs) {y : MethodName} {bytes : ByteArray} {mL fr lo n index : Nat} {ret : Option FieldType} {As st0 : List Value} {Qc : Array Value → State → Outcome → State → Prop} {free : Addr → Prop}
    (hM : Met l y [.code y bytes mL ret] (rmZ fr lo) (va_Pc As (HS E S)) Qc 0 0 free)
    (h1 : Cond.methodLink own index y ∈ pw_tbl) (h2 : Cond.static y ∈ pw_tbl) (h4 : Cond.initialized y.cls ∈ pw_tbl) (h5 : Cond.code y bytes mL ret ∈ pw_tbl)
    (hd : y.cls ≠ "java/lang/invoke/MethodHandle" ∧ y.cls ≠ "java/lang/invoke/VarHandle" ∧ (parseMethodDescriptor y.desc).map (fun d => d.parameters.length) = some n) (hn : As.length = n) (hdg : decode cc pc = .ok (.invokestatic index, 3))
    (hls : ls.size = nL) (hR : fr + 1 ≤ R.frames ∧ 8 + (mL + 11) + lo ≤ R.locals) (hf : cells ≤ R.cells ∧ slots ≤ R.slots) (hcat : (rest.map fun v => v.category).sum ≤ 8) (hstk : st0 = As.reverse ++ rest) :
    va_Run p l e R s m args below meth c H locs cells slots 0 0 (F0 m pc ls st0) rest (Qc As.toArray) free :=
  va_runS (Ts := pw_tbl) ⟨C.x, C.b, C.ml, C.ow, C.ts⟩ hM (va_cwS n C.ts (fun w hw => by
      rcases List.mem_append.mp hw with h | h
      · simp only [List.mem_cons, List.not_mem_nil, or_false] at h
        rcases h with rfl | rfl | rfl
        · exact ⟨h1, pw_good h1⟩
        · exact ⟨h2, pw_good h2⟩
        · exact ⟨h4, pw_good h4⟩
      · exact good1 h5 w h) rfl rfl rfl hd hR) ⟨blind _, fun U hU hW => ⟨rfl, HS.of C hJ hU hW⟩⟩ rfl hn hls hstk (lv_room hcat) hdg hf
end EnvRows
