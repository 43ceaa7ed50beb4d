/-! CALLS of methods that may throw -/
section XCalls
variable {p : Program} {l : Launch} {e : Env} {R : Room} {s : State} {m : MethodId} {args : Array Value} {below : List Frame} {meth : Method} {c : Code} {H : Heap} {locs : List Loc} {cells slots : Nat} {Q : State → Prop} {E : GE} {S : ST} {cc : ByteArray} {own : String} {nL pc : Nat} {ls : Array Slot} {rest : List Value} {P0 : Option Value → ST → Prop} {XP0 : String → Prop} {k_c k_s : Nat}
theorem r_XS (C : Cx E p s m meth c cc own nL) (hJ : JJ E S H locs) {y : MethodName} {bytes : ByteArray} {mL fr lo n index : Nat} {ret : Option FieldType} {As st0 : List Value}
    (hM : MX l E y bytes mL ret fr lo k_c k_s S As P0 XP0)
    (h1 : Cond.methodLink own index y ∈ pw_tbl) (h2 : Cond.static y ∈ pw_tbl) (h4 : Cond.initialized own ∈ pw_tbl) (h5 : Cond.code y bytes mL ret ∈ pw_tbl)
    (hd : y.cls = own ∧ y.cls ≠ "java/lang/invoke/MethodHandle" ∧ y.cls ≠ "java/lang/invoke/VarHandle" ∧ (parseMethodDescriptor y.desc).map (fun d => d.parameters.length) = some n) (hn : As.length = n) (hdg : decode cc pc = .ok (.invokestatic index, 3))
    (hls : ls.size = nL) (hR : fr + 1 ≤ R.frames ∧ 8 + (mL + 11) + lo ≤ R.locals) (hf : cells + k_c ≤ R.cells ∧ slots + k_s ≤ R.slots) (hcat : (rest.map fun v => v.category).sum ≤ 8) (hstk : st0 = As.reverse ++ rest) :
    vx_Run p l e R s m args below meth c H locs cells slots k_c k_s (F0 m pc ls st0) rest (XQc E P0 As.toArray) (XXc E S XP0) (gFr E) :=
  vx_runS (Ts := pw_tbl) ⟨C.x, C.b, C.ml, C.ow, C.ts⟩ hM (cwS n C.ts (fun w hw => by
      rcases List.mem_append.mp hw with h | h
      · simp only [List.mem_cons, List.not_mem_nil, or_false] at h
        rcases h with rfl | rfl | rfl
        · exact ⟨h1, pw_good h1⟩
        · exact ⟨h2, pw_good h2⟩
        · exact ⟨h4, pw_good h4⟩
      · exact good1 h5 w h) rfl rfl rfl hd hR) ⟨blind _, fun U hU hW => ⟨rfl, HS.of C hJ hU hW⟩⟩ rfl hn hls hstk (lv_room hcat) hdg hf
theorem r_XV (C : Cx E p s m meth c cc own nL) (hJ : JJ E S H locs) {y : MethodName} {bytes : ByteArray} {mL fr lo i ci N n index : Nat} {ret : Option FieldType} {As st0 fs : List Value} {Cn : String} {T : u_T}
    (hM : MX l E y bytes mL ret fr lo k_c k_s S (.ref (gA E i) :: As) P0 XP0) (hi : i < 90) (hr : pE E S i = .inr (ci, fs)) (hc : vwCl[ci]? = some (Cn, T, N))
    (h1 : Cond.methodLink own index y ∈ pw_tbl) (h2 : Cond.instanceMethod y ∈ pw_tbl) (h3 : Cond.selects Cn y y ∈ pw_tbl) (h4 : Cond.initialized Cn ∈ pw_tbl) (h5 : Cond.code y bytes mL ret ∈ pw_tbl)
    (hd : y.cls = Cn ∧ y.cls ≠ "java/lang/invoke/MethodHandle" ∧ y.cls ≠ "java/lang/invoke/VarHandle" ∧ (parseMethodDescriptor y.desc).map (fun d => d.parameters.length) = some n) (hn : As.length = n) (hdg : decode cc pc = .ok (.invokevirtual index, 3))
    (hls : ls.size = nL) (hR : fr + 1 ≤ R.frames ∧ 8 + (mL + 11) + lo ≤ R.locals) (hf : cells + k_c ≤ R.cells ∧ slots + k_s ≤ R.slots) (hcat : (rest.map fun v => v.category).sum ≤ 8) (hstk : st0 = As.reverse ++ .ref (gA E i) :: rest) :
    vx_Run p l e R s m args below meth c H locs cells slots k_c k_s (F0 m pc ls st0) rest (XQc E P0 (Value.ref (gA E i) :: As).toArray) (XXc E S XP0) (gFr E) :=
  vx_runV (Ts := pw_tbl) ⟨C.x, C.b, C.ml, C.ow, C.ts⟩ hM (cwV n C.ts (fun w hw => by
      rcases List.mem_append.mp hw with h | h
      · simp only [List.mem_cons, List.not_mem_nil, or_false] at h
        rcases h with rfl | rfl | rfl | rfl
        · exact ⟨h1, pw_good h1⟩
        · exact ⟨h2, pw_good h2⟩
        · exact ⟨h3, pw_good h3⟩
        · exact ⟨h4, pw_good h4⟩
      · exact good1 h5 w h) rfl rfl rfl hd hR) ⟨blind _, va_recv C.K hJ.1 hc ((wl_at E _ hi).trans (by rw [hr])), fun U hU hW => ⟨rfl, HS.of C hJ hU hW⟩⟩ rfl hn hls hstk (lv_room hcat) hdg hf
theorem x_59 (C : Cx E p s m meth c cc RX6 nL) (hJ : JJ E S H locs) {fr lo : Nat} {As st0 : List Value} (hM : MX l E yX6_refuse cX6_refuse 1 none fr lo k_c k_s S As P0 XP0) (hdg : decode cc pc = .ok (.invokestatic 59, 3)) (hls : ls.size = nL) (hR : fr + 1 ≤ R.frames ∧ 8 + (1 + 11) + lo ≤ R.locals) (hf : cells + k_c ≤ R.cells ∧ slots + k_s ≤ R.slots) (hcat : (rest.map fun v => v.category).sum ≤ 8) (hn : As.length = 1) (hstk : st0 = As.reverse ++ rest) : vx_Run p l e R s m args below meth c H locs cells slots k_c k_s (F0 m pc ls st0) rest (XQc E P0 As.toArray) (XXc E S XP0) (gFr E) :=
  r_XS C hJ hM km_X6_59 kt_X6_refuse k0_X6 kc_X6_refuse ⟨rfl, by decide, by decide, by decide +kernel⟩ hn hdg hls hR hf hcat hstk
theorem x_39 (C : Cx E p s m meth c cc RX6 nL) (hJ : JJ E S H locs) {fr lo : Nat} {As st0 : List Value} (hM : MX l E yX6_perform cX6_perform 5 (some .int) fr lo k_c k_s S (.ref (gA E 83) :: As) P0 XP0) (hdg : decode cc pc = .ok (.invokevirtual 39, 3)) (hls : ls.size = nL) (hR : fr + 1 ≤ R.frames ∧ 8 + (5 + 11) + lo ≤ R.locals) (hf : cells + k_c ≤ R.cells ∧ slots + k_s ≤ R.slots) (hcat : (rest.map fun v => v.category).sum ≤ 8) (hn : As.length = 4) (hstk : st0 = As.reverse ++ .ref (gA E 83) :: rest) : vx_Run p l e R s m args below meth c H locs cells slots k_c k_s (F0 m pc ls st0) rest (XQc E P0 (Value.ref (gA E 83) :: As).toArray) (XXc E S XP0) (gFr E) :=
  r_XV (i := 83) (ci := 4) (N := 4) (T := TX6) (fs := [.ref (gA E 0), .ref (gA E 13), .ref (gA E 78), .ref (gA E 80)]) C hJ hM (by omega) (pE_qu E S) rfl km_X6_39 ki_X6_perform ks_X6_perform k0_X6 kc_X6_perform ⟨rfl, by decide, by decide, by decide +kernel⟩ hn hdg hls hR hf hcat hstk
end XCalls
/-- faults are 0 to 3 -/
def fl4 (a : Int32) : Prop := a = 0 ∨ a = 1 ∨ a = 2 ∨ a = 3
theorem fl4_exO {a : Int32} (h : fl4 a) (h2 : exO a = none) : a = 0 := by
  rcases h with h | h | h | h
  · exact h
  · rw [h] at h2; exact absurd h2 (by decide)
  · rw [h] at h2; exact absurd h2 (by decide)
  · rw [h] at h2; exact absurd h2 (by decide)
theorem fl4_mf (p0 p1 : Int32) : fl4 (f_mf p0 p1) := by
  unfold f_mf fl4; split
  · exact Or.inr (Or.inl rfl)
  · split
    · exact Or.inr (Or.inr (Or.inl rfl))
    · exact Or.inl rfl
theorem fl4_pf {n : Nat} (p0 p1 : Int32) {p2 : Int32} (h : fl4 p2) : fl4 (f_pf n p0 p1 p2) := by
  unfold f_pf; split
  · split
    · exact h
    · exact Or.inl rfl
  · exact Or.inr (Or.inl rfl)
theorem fl4_jf (g : Int32 → Nat → Int32) (n : Nat) (p0 p1 p2 : Int32) : fl4 (f_jf g n p0 p1 p2) := by
  unfold f_jf fl4; split
  · split
    · split
      · split
        · exact Or.inr (Or.inr (Or.inr rfl))
        · split
          · exact Or.inl rfl
          · exact Or.inr (Or.inr (Or.inr rfl))
      · exact Or.inr (Or.inr (Or.inl rfl))
    · exact Or.inr (Or.inr (Or.inl rfl))
  · exact Or.inr (Or.inr (Or.inl rfl))
theorem fl4_of (p0 p1 : Int32) : fl4 (f_of p0 p1) := by
  unfold f_of; split
  · split
    · exact Or.inr (Or.inr (Or.inr rfl))
    · exact fl4_mf _ _
  · exact fl4_mf _ _
theorem fl4_tf (g : Int32 → Nat → Int32) (p0 : Int32) : fl4 (f_tf g p0) := by
  unfold f_tf; split
  · split
    · exact Or.inr (Or.inr (Or.inr rfl))
    · exact fl4_mf _ _
  · exact fl4_mf _ _
theorem fl4_ft (g : Int32 → Nat → Int32) (n u_j : Nat) (a b d : Int32) : fl4 (f_ft g n u_j a b d) := by
  unfold f_ft
  split
  · exact fl4_jf _ _ _ _ _
  · exact fl4_jf _ _ _ _ _
  · exact fl4_mf _ _
  · exact fl4_mf _ _
  · exact fl4_of _ _
  · exact fl4_tf _ _
  · exact fl4_pf _ _ (Or.inr (Or.inr (Or.inr rfl)))
  · exact fl4_pf _ _ (Or.inr (Or.inr (Or.inr rfl)))
  · exact fl4_pf _ _ (Or.inr (Or.inr (Or.inr rfl)))
  · split
    · exact Or.inl rfl
    · exact Or.inr (Or.inr (Or.inr rfl))
  · exact Or.inl rfl
theorem fl4_if {q : Prop} [Decidable q] {a b : Int32} (h1 : fl4 a) (h2 : fl4 b) : fl4 (if q then a else b) := by split; exact h1; exact h2
