/-! ARRAYS of the system, by places that are numbers -/
section Arr
variable {p : Program} {l : Launch} {e : Env} {R : Room} {s : State} {m : MethodId} {args : Array Value} {below : List Frame} {meth : Method} {c : Code} {H : Heap} {locs : List Loc} {cells slots : Nat} {Q : State → Prop} {E : GE} {S : ST} {cc : ByteArray} {own : String} {nL pc : Nat} {ls : Array Slot} {rest : List Value}
theorem in_nI {x : Int32} {P N : Nat} (hx : x = nI P) (hP : P < N) (hN : N ≤ 456) : vp_in x N := by rw [hx]; exact vp_in_nI hP (by omega)
theorem cl_nI {x : Int32} {P N : Nat} (hx : x = nI P) (hP : P < N) (hN : N ≤ 456) : x.toNatClampNeg = P := by rw [hx]; exact nI_clamp (by omega)
theorem a_ar (C : Cx E p s m meth c cc own nL) (hJ : JJ E S H locs) {k P : Nat} (hk : k < 6) {x : Int32} (hx : x = nI P) (hP : P < 10) (hdg : decode cc pc = .ok (.aaload, 1)) (kk : W p l e R s m args below meth c H locs cells slots Q (F0 m (pc + 1) ls (.ref (gA E (13 * k + 2 + pm (sL S) k P)) :: rest))) : W p l e R s m args below meth c H locs cells slots Q (F0 m pc ls (.int x :: .ref (gA E (13 * k + 1)) :: rest)) := by
  refine i_aald (t := 3) (n := 10) (Cn := "ConsentQueue$Member") C hJ (by omega) (pE_ar E S hk) rfl (in_nI hx hP (by omega)) hdg ?_
  rw [cl_nI hx hP (by omega)]
  exact kk
theorem a_sv (C : Cx E p s m meth c cc own nL) (hJ : JJ E S H locs) {P : Nat} {x : Int32} (hx : x = nI P) (hP : P < 4) (hdg : decode cc pc = .ok (.aaload, 1)) (kk : W p l e R s m args below meth c H locs cells slots Q (F0 m (pc + 1) ls (.ref (gA E (13 * (sH S).1 P)) :: rest))) : W p l e R s m args below meth c H locs cells slots Q (F0 m pc ls (.int x :: .ref (gA E 79) :: rest)) := by
  refine i_aald (t := 2) (n := 4) (Cn := "ConsentQueue$Line") C hJ (by omega) (pE_sv E S) rfl (in_nI hx hP (by omega)) hdg ?_
  rw [cl_nI hx hP (by omega)]
  exact kk
theorem a_by (C : Cx E p s m meth c cc own nL) (hJ : JJ E S H locs) {P : Nat} {x : Int32} (hx : x = nI P) (hP : P < 150) (hdg : decode cc pc = .ok (.baload, 1)) (kk : W p l e R s m args below meth c H locs cells slots Q (F0 m (pc + 1) ls (.int ((sT S).2.2.1 P) :: rest))) : W p l e R s m args below meth c H locs cells slots Q (F0 m pc ls (.int x :: .ref (gA E 81) :: rest)) := by
  refine i_bald C hJ (by omega) (pE_by E S) (in_nI hx hP (by omega)) hdg ?_
  rw [cl_nI hx hP (by omega)]
  exact kk
theorem a_nu (C : Cx E p s m meth c cc own nL) (hJ : JJ E S H locs) {P : Nat} {x : Int32} (hx : x = nI P) (hP : P < 3) (hdg : decode cc pc = .ok (.iaload, 1)) (kk : W p l e R s m args below meth c H locs cells slots Q (F0 m (pc + 1) ls (.int ((sT S).2.2.2 P) :: rest))) : W p l e R s m args below meth c H locs cells slots Q (F0 m pc ls (.int x :: .ref (gA E 82) :: rest)) := by
  refine i_iald C hJ (by omega) (pE_nu E S) (in_nI hx hP (by omega)) hdg ?_
  rw [cl_nI hx hP (by omega)]
  exact kk
theorem al_ar (C : Cx E p s m meth c cc own nL) (hJ : JJ E S H locs) {k : Nat} (hk : k < 6) (hdg : decode cc pc = .ok (.arraylength, 1)) (kk : W p l e R s m args below meth c H locs cells slots Q (F0 m (pc + 1) ls (.int 10 :: rest))) : W p l e R s m args below meth c H locs cells slots Q (F0 m pc ls (.ref (gA E (13 * k + 1)) :: rest)) :=
  i_alen (t := 3) C hJ (by omega) (pE_ar E S hk) rfl rfl hdg kk
theorem al_sv (C : Cx E p s m meth c cc own nL) (hJ : JJ E S H locs) (hdg : decode cc pc = .ok (.arraylength, 1)) (kk : W p l e R s m args below meth c H locs cells slots Q (F0 m (pc + 1) ls (.int 4 :: rest))) : W p l e R s m args below meth c H locs cells slots Q (F0 m pc ls (.ref (gA E 79) :: rest)) :=
  i_alen (t := 2) C hJ (by omega) (pE_sv E S) rfl rfl hdg kk
theorem al_by (C : Cx E p s m meth c cc own nL) (hJ : JJ E S H locs) (hdg : decode cc pc = .ok (.arraylength, 1)) (kk : W p l e R s m args below meth c H locs cells slots Q (F0 m (pc + 1) ls (.int 150 :: rest))) : W p l e R s m args below meth c H locs cells slots Q (F0 m pc ls (.ref (gA E 81) :: rest)) :=
  i_alen (t := 0) C hJ (by omega) (pE_by E S) rfl rfl hdg kk
theorem al_nu (C : Cx E p s m meth c cc own nL) (hJ : JJ E S H locs) (hdg : decode cc pc = .ok (.arraylength, 1)) (kk : W p l e R s m args below meth c H locs cells slots Q (F0 m (pc + 1) ls (.int 3 :: rest))) : W p l e R s m args below meth c H locs cells slots Q (F0 m pc ls (.ref (gA E 82) :: rest)) :=
  i_alen (t := 1) C hJ (by omega) (pE_nu E S) rfl rfl hdg kk
theorem t_ar (C : Cx E p s m meth c cc own nL) (hJ : JJ E S H locs) {k P j : Nat} (hk : k < 6) (hj : j < 11) {x : Int32} (hx : x = nI P) (hP : P < 10) (hdg : decode cc pc = .ok (.aastore, 1)) (kk : ∀ (H1 : Heap) (locs1 : List Loc), JJ E (setL S (lPm (sL S) k P j)) H1 locs1 → W p l e R s m args below meth c H1 locs1 cells slots Q (F0 m (pc + 1) ls rest)) : W p l e R s m args below meth c H locs cells slots Q (F0 m pc ls (.ref (gA E (13 * k + 2 + j)) :: .int x :: .ref (gA E (13 * k + 1)) :: rest)) :=
  i_aast (t := 3) (n := 10) (ci := 3) (r := (RX5, TX5, 7)) C hJ _ (by omega) (pE_ar E S hk) rfl (by omega) (pE_mb E S hk hj) rfl (in_nI hx hP (by omega)) (by rw [cl_nI hx hP (by omega)]; exact u_Pm E S hk P j) hdg kk
theorem t_sv (C : Cx E p s m meth c cc own nL) (hJ : JJ E S H locs) {k P : Nat} (hk : k < 6) {x : Int32} (hx : x = nI P) (hP : P < 4) (hdg : decode cc pc = .ok (.aastore, 1)) (kk : ∀ (H1 : Heap) (locs1 : List Loc), JJ E (setHs S P k) H1 locs1 → W p l e R s m args below meth c H1 locs1 cells slots Q (F0 m (pc + 1) ls rest)) : W p l e R s m args below meth c H locs cells slots Q (F0 m pc ls (.ref (gA E (13 * k)) :: .int x :: .ref (gA E 79) :: rest)) :=
  i_aast (t := 2) (n := 4) (ci := 2) (r := (RX4, TX4, 8)) C hJ _ (by omega) (pE_sv E S) rfl (by omega) (pE_ln E S hk) rfl (in_nI hx hP (by omega)) (by rw [cl_nI hx hP (by omega)]; exact u_Hs E S P k) hdg kk
theorem t_by (C : Cx E p s m meth c cc own nL) (hJ : JJ E S H locs) {P : Nat} {x y : Int32} (hx : x = nI P) (hP : P < 150) (hdg : decode cc pc = .ok (.bastore, 1)) (kk : ∀ (H1 : Heap) (locs1 : List Loc), JJ E (setTb S P (vp_nar .byte y)) H1 locs1 → W p l e R s m args below meth c H1 locs1 cells slots Q (F0 m (pc + 1) ls rest)) : W p l e R s m args below meth c H locs cells slots Q (F0 m pc ls (.int y :: .int x :: .ref (gA E 81) :: rest)) :=
  i_bast C hJ _ (by omega) (pE_by E S) (in_nI hx hP (by omega)) (by rw [cl_nI hx hP (by omega)]; exact u_Tb E S P _) hdg kk
theorem t_nu (C : Cx E p s m meth c cc own nL) (hJ : JJ E S H locs) {P : Nat} {x y : Int32} (hx : x = nI P) (hP : P < 3) (hdg : decode cc pc = .ok (.iastore, 1)) (kk : ∀ (H1 : Heap) (locs1 : List Loc), JJ E (setTn S P y) H1 locs1 → W p l e R s m args below meth c H1 locs1 cells slots Q (F0 m (pc + 1) ls rest)) : W p l e R s m args below meth c H locs cells slots Q (F0 m pc ls (.int y :: .int x :: .ref (gA E 82) :: rest)) :=
  i_iast C hJ _ (by omega) (pE_nu E S) (in_nI hx hP (by omega)) (by rw [cl_nI hx hP (by omega)]; exact u_Tn E S P y) hdg kk
end Arr
