/-! ENVIRONMENT: out of the start, together -/
theorem env_of {args : Array Value} {s : State} (hgv : (Jvm.Cond.and given_1 narrow_1).before args s = true) (hts : ∀ w ∈ lw_tbl, w.before args s = true) : ∃ (ad : Nat → Nat) (X : EX), ∀ (E : GE), gS E = s → gN E = ad → Env1 E X := by
  have hs := flat_of_before _ hgv
  have hA : ∀ a : Nat, a < s.heap.size → ¬ (fun q : Nat => s.heap.size ≤ q) a := fun a h => Nat.not_le.mpr h
  obtain ⟨ad, hEn, hAd⟩ := va_Enof2 (A := fun q : Nat => s.heap.size ≤ q) (E := "ConsentQueue$Command") (d := "LConsentQueue$Command;") (nm := cmdN) (F := cmdF) (fun i hi => hts _ (en_l i hi)) (hts _ (List.mem_filter.mp k0_X1).1) (fun i hi => hs _ (en_x i hi)) (fun q hq i hi => hs _ (en_f q hq i hi)) (fun i j hi hj hij => (en_d i hi j hj hij).elim (fun y => Or.inl (hs _ y)) (fun y => Or.inr (hs _ y))) hA
  obtain ⟨aK, aV, hS, hSt⟩ := vk_Sof (A := fun q : Nat => s.heap.size ≤ q) (N := 11) (tm := wT) (len := wLen) (byt := wByt) (fun i hi => Nat.lt_of_le_of_lt (wLen_ok hi) (by decide)) (fun i hi => hs _ (en_sx i hi).1) (fun i hi => hs _ (en_sx i hi).2.1) (fun i hi => hs _ (en_sx i hi).2.2.1) (fun i hi => hs _ (en_sx i hi).2.2.2) (fun i hi j hj => hs _ (en_sb i hi j hj)) (fun i j hi hj hij => (en_sd i hi j hj hij).elim (fun y => Or.inl (hs _ y)) (fun y => Or.inr (hs _ y))) hA
  obtain ⟨u_s, hs1, hs2⟩ := va_Tof (A := fun q : Nat => s.heap.size ≤ q) (tm := swT) (ty := .int) (N := 11) (f := fun j => .int (swm j)) (by decide) (hs (Cond.arrayOf swT .int) (by decide +kernel)) (va_eqt (hs (Cond.eq (.length swT) (.int 11)) (by decide +kernel))) (fun j hj => va_eqt (hs _ (en_se j hj))) hA
  obtain ⟨u_t, ht1, ht2⟩ := va_Tof (A := fun q : Nat => s.heap.size ≤ q) (tm := alT) (ty := .object "ConsentQueue$Command") (N := 11) (f := fun j => .ref (ad j)) (by decide) (hs (Cond.arrayOf alT (.object "ConsentQueue$Command")) (by decide +kernel)) (va_eqt (hs (Cond.eq (.length alT) (.int 11)) (by decide +kernel))) (fun j hj => va_eqv (hs _ (en_ae j hj)) (hAd j hj)) hA
  refine ⟨ad, (aK, aV, u_s, u_t), fun E hgS hgN => ?_⟩
  have eF : gFr E = fun q : Nat => s.heap.size ≤ q := by funext q; show ((gS E).heap.size ≤ q) = _; rw [hgS]
  unfold Env1
  rw [eF, hgS, hgN]
  refine ⟨hEn, fun i hi => vk_OFof (hAd i hi) (va_eqv (hs _ (en_w i hi)) (hSt i hi)) hA, hS, ?_, hs2, ?_, ht2, ?_, ?_⟩
  · exact va_Zref (hts _ (by decide +kernel)) (hts _ (List.mem_filter.mp k0_X0).1) hs1 hA
  · exact va_Zref (hts _ (by decide +kernel)) (hts _ (List.mem_filter.mp k0_X1).1) ht1 hA
  · exact va_Zof (hts _ (by decide +kernel)) (hts _ (List.mem_filter.mp k0_J0).1) (va_eqi (hs _ (by decide +kernel))) hA
  · exact va_Zqof (hts _ (by decide +kernel)) (hts (Cond.initialized "jdk/internal/util/Preconditions") (by decide +kernel)) (hs _ (by decide +kernel)) hA
