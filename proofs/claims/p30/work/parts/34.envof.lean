/-! ENVIRONMENT: out of the Statement's start -/
abbrev gvC : List Cond := flatC (Jvm.Cond.and given_1 narrow_1)
def cmdT (i : Nat) : Term := .static "ConsentQueue$Command" (cmdN.getD i "") "LConsentQueue$Command;"
def wIx : List Nat := [65, 71, 74, 77, 80, 83, 86, 89, 92, 95, 98]
def wT (i : Nat) : Term := .string "ConsentQueue$Command" (wIx.getD i 0)
def swT : Term := .static "ConsentQueue$1" "$SwitchMap$ConsentQueue$Command" "[I"
def alT : Term := .static "ConsentQueue$Command" "ALL" "[LConsentQueue$Command;"
theorem en_l : ∀ i, i < cmdN.length → Cond.laysStatic "ConsentQueue$Command" (cmdN.getD i "") "LConsentQueue$Command;" ∈ lw_tbl := by decide +kernel
theorem en_x : ∀ i, i < cmdN.length → Cond.exactly (.static "ConsentQueue$Command" (cmdN.getD i "") "LConsentQueue$Command;") "ConsentQueue$Command" ∈ gvC := by decide +kernel
theorem en_f : ∀ q ∈ cmdF, ∀ i, i < cmdN.length → Cond.eq (.field (.static "ConsentQueue$Command" (cmdN.getD i "") "LConsentQueue$Command;") q.1 q.2.1 q.2.2.1) (.int (q.2.2.2.getD i 0)) ∈ gvC := by decide +kernel
theorem en_d_0_1 : Cond.not (.eq (.static "ConsentQueue$Command" (cmdN.getD 0 "") "LConsentQueue$Command;") (.static "ConsentQueue$Command" (cmdN.getD 1 "") "LConsentQueue$Command;")) ∈ gvC ∨ Cond.not (.eq (.static "ConsentQueue$Command" (cmdN.getD 1 "") "LConsentQueue$Command;") (.static "ConsentQueue$Command" (cmdN.getD 0 "") "LConsentQueue$Command;")) ∈ gvC := by first | exact Or.inl (List.mem_of_getElem? (i := 62) (by decide +kernel)) | exact Or.inr (List.mem_of_getElem? (i := 62) (by decide +kernel))
theorem en_d_0_2 : Cond.not (.eq (.static "ConsentQueue$Command" (cmdN.getD 0 "") "LConsentQueue$Command;") (.static "ConsentQueue$Command" (cmdN.getD 2 "") "LConsentQueue$Command;")) ∈ gvC ∨ Cond.not (.eq (.static "ConsentQueue$Command" (cmdN.getD 2 "") "LConsentQueue$Command;") (.static "ConsentQueue$Command" (cmdN.getD 0 "") "LConsentQueue$Command;")) ∈ gvC := by first | exact Or.inl (List.mem_of_getElem? (i := 70) (by decide +kernel)) | exact Or.inr (List.mem_of_getElem? (i := 70) (by decide +kernel))
theorem en_d_0_3 : Cond.not (.eq (.static "ConsentQueue$Command" (cmdN.getD 0 "") "LConsentQueue$Command;") (.static "ConsentQueue$Command" (cmdN.getD 3 "") "LConsentQueue$Command;")) ∈ gvC ∨ Cond.not (.eq (.static "ConsentQueue$Command" (cmdN.getD 3 "") "LConsentQueue$Command;") (.static "ConsentQueue$Command" (cmdN.getD 0 "") "LConsentQueue$Command;")) ∈ gvC := by first | exact Or.inl (List.mem_of_getElem? (i := 78) (by decide +kernel)) | exact Or.inr (List.mem_of_getElem? (i := 78) (by decide +kernel))
theorem en_d_0_4 : Cond.not (.eq (.static "ConsentQueue$Command" (cmdN.getD 0 "") "LConsentQueue$Command;") (.static "ConsentQueue$Command" (cmdN.getD 4 "") "LConsentQueue$Command;")) ∈ gvC ∨ Cond.not (.eq (.static "ConsentQueue$Command" (cmdN.getD 4 "") "LConsentQueue$Command;") (.static "ConsentQueue$Command" (cmdN.getD 0 "") "LConsentQueue$Command;")) ∈ gvC := by first | exact Or.inl (List.mem_of_getElem? (i := 87) (by decide +kernel)) | exact Or.inr (List.mem_of_getElem? (i := 87) (by decide +kernel))
theorem en_d_0_5 : Cond.not (.eq (.static "ConsentQueue$Command" (cmdN.getD 0 "") "LConsentQueue$Command;") (.static "ConsentQueue$Command" (cmdN.getD 5 "") "LConsentQueue$Command;")) ∈ gvC ∨ Cond.not (.eq (.static "ConsentQueue$Command" (cmdN.getD 5 "") "LConsentQueue$Command;") (.static "ConsentQueue$Command" (cmdN.getD 0 "") "LConsentQueue$Command;")) ∈ gvC := by first | exact Or.inl (List.mem_of_getElem? (i := 97) (by decide +kernel)) | exact Or.inr (List.mem_of_getElem? (i := 97) (by decide +kernel))
theorem en_d_0_6 : Cond.not (.eq (.static "ConsentQueue$Command" (cmdN.getD 0 "") "LConsentQueue$Command;") (.static "ConsentQueue$Command" (cmdN.getD 6 "") "LConsentQueue$Command;")) ∈ gvC ∨ Cond.not (.eq (.static "ConsentQueue$Command" (cmdN.getD 6 "") "LConsentQueue$Command;") (.static "ConsentQueue$Command" (cmdN.getD 0 "") "LConsentQueue$Command;")) ∈ gvC := by first | exact Or.inl (List.mem_of_getElem? (i := 108) (by decide +kernel)) | exact Or.inr (List.mem_of_getElem? (i := 108) (by decide +kernel))
theorem en_d_0_7 : Cond.not (.eq (.static "ConsentQueue$Command" (cmdN.getD 0 "") "LConsentQueue$Command;") (.static "ConsentQueue$Command" (cmdN.getD 7 "") "LConsentQueue$Command;")) ∈ gvC ∨ Cond.not (.eq (.static "ConsentQueue$Command" (cmdN.getD 7 "") "LConsentQueue$Command;") (.static "ConsentQueue$Command" (cmdN.getD 0 "") "LConsentQueue$Command;")) ∈ gvC := by first | exact Or.inl (List.mem_of_getElem? (i := 133) (by decide +kernel)) | exact Or.inr (List.mem_of_getElem? (i := 133) (by decide +kernel))
theorem en_d_0_8 : Cond.not (.eq (.static "ConsentQueue$Command" (cmdN.getD 0 "") "LConsentQueue$Command;") (.static "ConsentQueue$Command" (cmdN.getD 8 "") "LConsentQueue$Command;")) ∈ gvC ∨ Cond.not (.eq (.static "ConsentQueue$Command" (cmdN.getD 8 "") "LConsentQueue$Command;") (.static "ConsentQueue$Command" (cmdN.getD 0 "") "LConsentQueue$Command;")) ∈ gvC := by first | exact Or.inl (List.mem_of_getElem? (i := 120) (by decide +kernel)) | exact Or.inr (List.mem_of_getElem? (i := 120) (by decide +kernel))
theorem en_d_0_9 : Cond.not (.eq (.static "ConsentQueue$Command" (cmdN.getD 0 "") "LConsentQueue$Command;") (.static "ConsentQueue$Command" (cmdN.getD 9 "") "LConsentQueue$Command;")) ∈ gvC ∨ Cond.not (.eq (.static "ConsentQueue$Command" (cmdN.getD 9 "") "LConsentQueue$Command;") (.static "ConsentQueue$Command" (cmdN.getD 0 "") "LConsentQueue$Command;")) ∈ gvC := by first | exact Or.inl (List.mem_of_getElem? (i := 61) (by decide +kernel)) | exact Or.inr (List.mem_of_getElem? (i := 61) (by decide +kernel))
theorem en_d_0_10 : Cond.not (.eq (.static "ConsentQueue$Command" (cmdN.getD 0 "") "LConsentQueue$Command;") (.static "ConsentQueue$Command" (cmdN.getD 10 "") "LConsentQueue$Command;")) ∈ gvC ∨ Cond.not (.eq (.static "ConsentQueue$Command" (cmdN.getD 10 "") "LConsentQueue$Command;") (.static "ConsentQueue$Command" (cmdN.getD 0 "") "LConsentQueue$Command;")) ∈ gvC := by first | exact Or.inl (List.mem_of_getElem? (i := 60) (by decide +kernel)) | exact Or.inr (List.mem_of_getElem? (i := 60) (by decide +kernel))
theorem en_d_1_2 : Cond.not (.eq (.static "ConsentQueue$Command" (cmdN.getD 1 "") "LConsentQueue$Command;") (.static "ConsentQueue$Command" (cmdN.getD 2 "") "LConsentQueue$Command;")) ∈ gvC ∨ Cond.not (.eq (.static "ConsentQueue$Command" (cmdN.getD 2 "") "LConsentQueue$Command;") (.static "ConsentQueue$Command" (cmdN.getD 1 "") "LConsentQueue$Command;")) ∈ gvC := by first | exact Or.inl (List.mem_of_getElem? (i := 69) (by decide +kernel)) | exact Or.inr (List.mem_of_getElem? (i := 69) (by decide +kernel))
theorem en_d_1_3 : Cond.not (.eq (.static "ConsentQueue$Command" (cmdN.getD 1 "") "LConsentQueue$Command;") (.static "ConsentQueue$Command" (cmdN.getD 3 "") "LConsentQueue$Command;")) ∈ gvC ∨ Cond.not (.eq (.static "ConsentQueue$Command" (cmdN.getD 3 "") "LConsentQueue$Command;") (.static "ConsentQueue$Command" (cmdN.getD 1 "") "LConsentQueue$Command;")) ∈ gvC := by first | exact Or.inl (List.mem_of_getElem? (i := 77) (by decide +kernel)) | exact Or.inr (List.mem_of_getElem? (i := 77) (by decide +kernel))
theorem en_d_1_4 : Cond.not (.eq (.static "ConsentQueue$Command" (cmdN.getD 1 "") "LConsentQueue$Command;") (.static "ConsentQueue$Command" (cmdN.getD 4 "") "LConsentQueue$Command;")) ∈ gvC ∨ Cond.not (.eq (.static "ConsentQueue$Command" (cmdN.getD 4 "") "LConsentQueue$Command;") (.static "ConsentQueue$Command" (cmdN.getD 1 "") "LConsentQueue$Command;")) ∈ gvC := by first | exact Or.inl (List.mem_of_getElem? (i := 86) (by decide +kernel)) | exact Or.inr (List.mem_of_getElem? (i := 86) (by decide +kernel))
theorem en_d_1_5 : Cond.not (.eq (.static "ConsentQueue$Command" (cmdN.getD 1 "") "LConsentQueue$Command;") (.static "ConsentQueue$Command" (cmdN.getD 5 "") "LConsentQueue$Command;")) ∈ gvC ∨ Cond.not (.eq (.static "ConsentQueue$Command" (cmdN.getD 5 "") "LConsentQueue$Command;") (.static "ConsentQueue$Command" (cmdN.getD 1 "") "LConsentQueue$Command;")) ∈ gvC := by first | exact Or.inl (List.mem_of_getElem? (i := 96) (by decide +kernel)) | exact Or.inr (List.mem_of_getElem? (i := 96) (by decide +kernel))
theorem en_d_1_6 : Cond.not (.eq (.static "ConsentQueue$Command" (cmdN.getD 1 "") "LConsentQueue$Command;") (.static "ConsentQueue$Command" (cmdN.getD 6 "") "LConsentQueue$Command;")) ∈ gvC ∨ Cond.not (.eq (.static "ConsentQueue$Command" (cmdN.getD 6 "") "LConsentQueue$Command;") (.static "ConsentQueue$Command" (cmdN.getD 1 "") "LConsentQueue$Command;")) ∈ gvC := by first | exact Or.inl (List.mem_of_getElem? (i := 107) (by decide +kernel)) | exact Or.inr (List.mem_of_getElem? (i := 107) (by decide +kernel))
theorem en_d_1_7 : Cond.not (.eq (.static "ConsentQueue$Command" (cmdN.getD 1 "") "LConsentQueue$Command;") (.static "ConsentQueue$Command" (cmdN.getD 7 "") "LConsentQueue$Command;")) ∈ gvC ∨ Cond.not (.eq (.static "ConsentQueue$Command" (cmdN.getD 7 "") "LConsentQueue$Command;") (.static "ConsentQueue$Command" (cmdN.getD 1 "") "LConsentQueue$Command;")) ∈ gvC := by first | exact Or.inl (List.mem_of_getElem? (i := 132) (by decide +kernel)) | exact Or.inr (List.mem_of_getElem? (i := 132) (by decide +kernel))
theorem en_d_1_8 : Cond.not (.eq (.static "ConsentQueue$Command" (cmdN.getD 1 "") "LConsentQueue$Command;") (.static "ConsentQueue$Command" (cmdN.getD 8 "") "LConsentQueue$Command;")) ∈ gvC ∨ Cond.not (.eq (.static "ConsentQueue$Command" (cmdN.getD 8 "") "LConsentQueue$Command;") (.static "ConsentQueue$Command" (cmdN.getD 1 "") "LConsentQueue$Command;")) ∈ gvC := by first | exact Or.inl (List.mem_of_getElem? (i := 119) (by decide +kernel)) | exact Or.inr (List.mem_of_getElem? (i := 119) (by decide +kernel))
theorem en_d_1_9 : Cond.not (.eq (.static "ConsentQueue$Command" (cmdN.getD 1 "") "LConsentQueue$Command;") (.static "ConsentQueue$Command" (cmdN.getD 9 "") "LConsentQueue$Command;")) ∈ gvC ∨ Cond.not (.eq (.static "ConsentQueue$Command" (cmdN.getD 9 "") "LConsentQueue$Command;") (.static "ConsentQueue$Command" (cmdN.getD 1 "") "LConsentQueue$Command;")) ∈ gvC := by first | exact Or.inl (List.mem_of_getElem? (i := 55) (by decide +kernel)) | exact Or.inr (List.mem_of_getElem? (i := 55) (by decide +kernel))
theorem en_d_1_10 : Cond.not (.eq (.static "ConsentQueue$Command" (cmdN.getD 1 "") "LConsentQueue$Command;") (.static "ConsentQueue$Command" (cmdN.getD 10 "") "LConsentQueue$Command;")) ∈ gvC ∨ Cond.not (.eq (.static "ConsentQueue$Command" (cmdN.getD 10 "") "LConsentQueue$Command;") (.static "ConsentQueue$Command" (cmdN.getD 1 "") "LConsentQueue$Command;")) ∈ gvC := by first | exact Or.inl (List.mem_of_getElem? (i := 54) (by decide +kernel)) | exact Or.inr (List.mem_of_getElem? (i := 54) (by decide +kernel))
theorem en_d_2_3 : Cond.not (.eq (.static "ConsentQueue$Command" (cmdN.getD 2 "") "LConsentQueue$Command;") (.static "ConsentQueue$Command" (cmdN.getD 3 "") "LConsentQueue$Command;")) ∈ gvC ∨ Cond.not (.eq (.static "ConsentQueue$Command" (cmdN.getD 3 "") "LConsentQueue$Command;") (.static "ConsentQueue$Command" (cmdN.getD 2 "") "LConsentQueue$Command;")) ∈ gvC := by first | exact Or.inl (List.mem_of_getElem? (i := 79) (by decide +kernel)) | exact Or.inr (List.mem_of_getElem? (i := 79) (by decide +kernel))
theorem en_d_2_4 : Cond.not (.eq (.static "ConsentQueue$Command" (cmdN.getD 2 "") "LConsentQueue$Command;") (.static "ConsentQueue$Command" (cmdN.getD 4 "") "LConsentQueue$Command;")) ∈ gvC ∨ Cond.not (.eq (.static "ConsentQueue$Command" (cmdN.getD 4 "") "LConsentQueue$Command;") (.static "ConsentQueue$Command" (cmdN.getD 2 "") "LConsentQueue$Command;")) ∈ gvC := by first | exact Or.inl (List.mem_of_getElem? (i := 88) (by decide +kernel)) | exact Or.inr (List.mem_of_getElem? (i := 88) (by decide +kernel))
theorem en_d_2_5 : Cond.not (.eq (.static "ConsentQueue$Command" (cmdN.getD 2 "") "LConsentQueue$Command;") (.static "ConsentQueue$Command" (cmdN.getD 5 "") "LConsentQueue$Command;")) ∈ gvC ∨ Cond.not (.eq (.static "ConsentQueue$Command" (cmdN.getD 5 "") "LConsentQueue$Command;") (.static "ConsentQueue$Command" (cmdN.getD 2 "") "LConsentQueue$Command;")) ∈ gvC := by first | exact Or.inl (List.mem_of_getElem? (i := 98) (by decide +kernel)) | exact Or.inr (List.mem_of_getElem? (i := 98) (by decide +kernel))
theorem en_d_2_6 : Cond.not (.eq (.static "ConsentQueue$Command" (cmdN.getD 2 "") "LConsentQueue$Command;") (.static "ConsentQueue$Command" (cmdN.getD 6 "") "LConsentQueue$Command;")) ∈ gvC ∨ Cond.not (.eq (.static "ConsentQueue$Command" (cmdN.getD 6 "") "LConsentQueue$Command;") (.static "ConsentQueue$Command" (cmdN.getD 2 "") "LConsentQueue$Command;")) ∈ gvC := by first | exact Or.inl (List.mem_of_getElem? (i := 109) (by decide +kernel)) | exact Or.inr (List.mem_of_getElem? (i := 109) (by decide +kernel))
theorem en_d_2_7 : Cond.not (.eq (.static "ConsentQueue$Command" (cmdN.getD 2 "") "LConsentQueue$Command;") (.static "ConsentQueue$Command" (cmdN.getD 7 "") "LConsentQueue$Command;")) ∈ gvC ∨ Cond.not (.eq (.static "ConsentQueue$Command" (cmdN.getD 7 "") "LConsentQueue$Command;") (.static "ConsentQueue$Command" (cmdN.getD 2 "") "LConsentQueue$Command;")) ∈ gvC := by first | exact Or.inl (List.mem_of_getElem? (i := 134) (by decide +kernel)) | exact Or.inr (List.mem_of_getElem? (i := 134) (by decide +kernel))
theorem en_d_2_8 : Cond.not (.eq (.static "ConsentQueue$Command" (cmdN.getD 2 "") "LConsentQueue$Command;") (.static "ConsentQueue$Command" (cmdN.getD 8 "") "LConsentQueue$Command;")) ∈ gvC ∨ Cond.not (.eq (.static "ConsentQueue$Command" (cmdN.getD 8 "") "LConsentQueue$Command;") (.static "ConsentQueue$Command" (cmdN.getD 2 "") "LConsentQueue$Command;")) ∈ gvC := by first | exact Or.inl (List.mem_of_getElem? (i := 121) (by decide +kernel)) | exact Or.inr (List.mem_of_getElem? (i := 121) (by decide +kernel))
theorem en_d_2_9 : Cond.not (.eq (.static "ConsentQueue$Command" (cmdN.getD 2 "") "LConsentQueue$Command;") (.static "ConsentQueue$Command" (cmdN.getD 9 "") "LConsentQueue$Command;")) ∈ gvC ∨ Cond.not (.eq (.static "ConsentQueue$Command" (cmdN.getD 9 "") "LConsentQueue$Command;") (.static "ConsentQueue$Command" (cmdN.getD 2 "") "LConsentQueue$Command;")) ∈ gvC := by first | exact Or.inl (List.mem_of_getElem? (i := 68) (by decide +kernel)) | exact Or.inr (List.mem_of_getElem? (i := 68) (by decide +kernel))
theorem en_d_2_10 : Cond.not (.eq (.static "ConsentQueue$Command" (cmdN.getD 2 "") "LConsentQueue$Command;") (.static "ConsentQueue$Command" (cmdN.getD 10 "") "LConsentQueue$Command;")) ∈ gvC ∨ Cond.not (.eq (.static "ConsentQueue$Command" (cmdN.getD 10 "") "LConsentQueue$Command;") (.static "ConsentQueue$Command" (cmdN.getD 2 "") "LConsentQueue$Command;")) ∈ gvC := by first | exact Or.inl (List.mem_of_getElem? (i := 67) (by decide +kernel)) | exact Or.inr (List.mem_of_getElem? (i := 67) (by decide +kernel))
theorem en_d_3_4 : Cond.not (.eq (.static "ConsentQueue$Command" (cmdN.getD 3 "") "LConsentQueue$Command;") (.static "ConsentQueue$Command" (cmdN.getD 4 "") "LConsentQueue$Command;")) ∈ gvC ∨ Cond.not (.eq (.static "ConsentQueue$Command" (cmdN.getD 4 "") "LConsentQueue$Command;") (.static "ConsentQueue$Command" (cmdN.getD 3 "") "LConsentQueue$Command;")) ∈ gvC := by first | exact Or.inl (List.mem_of_getElem? (i := 89) (by decide +kernel)) | exact Or.inr (List.mem_of_getElem? (i := 89) (by decide +kernel))
theorem en_d_3_5 : Cond.not (.eq (.static "ConsentQueue$Command" (cmdN.getD 3 "") "LConsentQueue$Command;") (.static "ConsentQueue$Command" (cmdN.getD 5 "") "LConsentQueue$Command;")) ∈ gvC ∨ Cond.not (.eq (.static "ConsentQueue$Command" (cmdN.getD 5 "") "LConsentQueue$Command;") (.static "ConsentQueue$Command" (cmdN.getD 3 "") "LConsentQueue$Command;")) ∈ gvC := by first | exact Or.inl (List.mem_of_getElem? (i := 99) (by decide +kernel)) | exact Or.inr (List.mem_of_getElem? (i := 99) (by decide +kernel))
theorem en_d_3_6 : Cond.not (.eq (.static "ConsentQueue$Command" (cmdN.getD 3 "") "LConsentQueue$Command;") (.static "ConsentQueue$Command" (cmdN.getD 6 "") "LConsentQueue$Command;")) ∈ gvC ∨ Cond.not (.eq (.static "ConsentQueue$Command" (cmdN.getD 6 "") "LConsentQueue$Command;") (.static "ConsentQueue$Command" (cmdN.getD 3 "") "LConsentQueue$Command;")) ∈ gvC := by first | exact Or.inl (List.mem_of_getElem? (i := 110) (by decide +kernel)) | exact Or.inr (List.mem_of_getElem? (i := 110) (by decide +kernel))
theorem en_d_3_7 : Cond.not (.eq (.static "ConsentQueue$Command" (cmdN.getD 3 "") "LConsentQueue$Command;") (.static "ConsentQueue$Command" (cmdN.getD 7 "") "LConsentQueue$Command;")) ∈ gvC ∨ Cond.not (.eq (.static "ConsentQueue$Command" (cmdN.getD 7 "") "LConsentQueue$Command;") (.static "ConsentQueue$Command" (cmdN.getD 3 "") "LConsentQueue$Command;")) ∈ gvC := by first | exact Or.inl (List.mem_of_getElem? (i := 135) (by decide +kernel)) | exact Or.inr (List.mem_of_getElem? (i := 135) (by decide +kernel))
theorem en_d_3_8 : Cond.not (.eq (.static "ConsentQueue$Command" (cmdN.getD 3 "") "LConsentQueue$Command;") (.static "ConsentQueue$Command" (cmdN.getD 8 "") "LConsentQueue$Command;")) ∈ gvC ∨ Cond.not (.eq (.static "ConsentQueue$Command" (cmdN.getD 8 "") "LConsentQueue$Command;") (.static "ConsentQueue$Command" (cmdN.getD 3 "") "LConsentQueue$Command;")) ∈ gvC := by first | exact Or.inl (List.mem_of_getElem? (i := 122) (by decide +kernel)) | exact Or.inr (List.mem_of_getElem? (i := 122) (by decide +kernel))
theorem en_d_3_9 : Cond.not (.eq (.static "ConsentQueue$Command" (cmdN.getD 3 "") "LConsentQueue$Command;") (.static "ConsentQueue$Command" (cmdN.getD 9 "") "LConsentQueue$Command;")) ∈ gvC ∨ Cond.not (.eq (.static "ConsentQueue$Command" (cmdN.getD 9 "") "LConsentQueue$Command;") (.static "ConsentQueue$Command" (cmdN.getD 3 "") "LConsentQueue$Command;")) ∈ gvC := by first | exact Or.inl (List.mem_of_getElem? (i := 76) (by decide +kernel)) | exact Or.inr (List.mem_of_getElem? (i := 76) (by decide +kernel))
theorem en_d_3_10 : Cond.not (.eq (.static "ConsentQueue$Command" (cmdN.getD 3 "") "LConsentQueue$Command;") (.static "ConsentQueue$Command" (cmdN.getD 10 "") "LConsentQueue$Command;")) ∈ gvC ∨ Cond.not (.eq (.static "ConsentQueue$Command" (cmdN.getD 10 "") "LConsentQueue$Command;") (.static "ConsentQueue$Command" (cmdN.getD 3 "") "LConsentQueue$Command;")) ∈ gvC := by first | exact Or.inl (List.mem_of_getElem? (i := 75) (by decide +kernel)) | exact Or.inr (List.mem_of_getElem? (i := 75) (by decide +kernel))
theorem en_d_4_5 : Cond.not (.eq (.static "ConsentQueue$Command" (cmdN.getD 4 "") "LConsentQueue$Command;") (.static "ConsentQueue$Command" (cmdN.getD 5 "") "LConsentQueue$Command;")) ∈ gvC ∨ Cond.not (.eq (.static "ConsentQueue$Command" (cmdN.getD 5 "") "LConsentQueue$Command;") (.static "ConsentQueue$Command" (cmdN.getD 4 "") "LConsentQueue$Command;")) ∈ gvC := by first | exact Or.inl (List.mem_of_getElem? (i := 100) (by decide +kernel)) | exact Or.inr (List.mem_of_getElem? (i := 100) (by decide +kernel))
theorem en_d_4_6 : Cond.not (.eq (.static "ConsentQueue$Command" (cmdN.getD 4 "") "LConsentQueue$Command;") (.static "ConsentQueue$Command" (cmdN.getD 6 "") "LConsentQueue$Command;")) ∈ gvC ∨ Cond.not (.eq (.static "ConsentQueue$Command" (cmdN.getD 6 "") "LConsentQueue$Command;") (.static "ConsentQueue$Command" (cmdN.getD 4 "") "LConsentQueue$Command;")) ∈ gvC := by first | exact Or.inl (List.mem_of_getElem? (i := 111) (by decide +kernel)) | exact Or.inr (List.mem_of_getElem? (i := 111) (by decide +kernel))
theorem en_d_4_7 : Cond.not (.eq (.static "ConsentQueue$Command" (cmdN.getD 4 "") "LConsentQueue$Command;") (.static "ConsentQueue$Command" (cmdN.getD 7 "") "LConsentQueue$Command;")) ∈ gvC ∨ Cond.not (.eq (.static "ConsentQueue$Command" (cmdN.getD 7 "") "LConsentQueue$Command;") (.static "ConsentQueue$Command" (cmdN.getD 4 "") "LConsentQueue$Command;")) ∈ gvC := by first | exact Or.inl (List.mem_of_getElem? (i := 136) (by decide +kernel)) | exact Or.inr (List.mem_of_getElem? (i := 136) (by decide +kernel))
theorem en_d_4_8 : Cond.not (.eq (.static "ConsentQueue$Command" (cmdN.getD 4 "") "LConsentQueue$Command;") (.static "ConsentQueue$Command" (cmdN.getD 8 "") "LConsentQueue$Command;")) ∈ gvC ∨ Cond.not (.eq (.static "ConsentQueue$Command" (cmdN.getD 8 "") "LConsentQueue$Command;") (.static "ConsentQueue$Command" (cmdN.getD 4 "") "LConsentQueue$Command;")) ∈ gvC := by first | exact Or.inl (List.mem_of_getElem? (i := 123) (by decide +kernel)) | exact Or.inr (List.mem_of_getElem? (i := 123) (by decide +kernel))
theorem en_d_4_9 : Cond.not (.eq (.static "ConsentQueue$Command" (cmdN.getD 4 "") "LConsentQueue$Command;") (.static "ConsentQueue$Command" (cmdN.getD 9 "") "LConsentQueue$Command;")) ∈ gvC ∨ Cond.not (.eq (.static "ConsentQueue$Command" (cmdN.getD 9 "") "LConsentQueue$Command;") (.static "ConsentQueue$Command" (cmdN.getD 4 "") "LConsentQueue$Command;")) ∈ gvC := by first | exact Or.inl (List.mem_of_getElem? (i := 85) (by decide +kernel)) | exact Or.inr (List.mem_of_getElem? (i := 85) (by decide +kernel))
theorem en_d_4_10 : Cond.not (.eq (.static "ConsentQueue$Command" (cmdN.getD 4 "") "LConsentQueue$Command;") (.static "ConsentQueue$Command" (cmdN.getD 10 "") "LConsentQueue$Command;")) ∈ gvC ∨ Cond.not (.eq (.static "ConsentQueue$Command" (cmdN.getD 10 "") "LConsentQueue$Command;") (.static "ConsentQueue$Command" (cmdN.getD 4 "") "LConsentQueue$Command;")) ∈ gvC := by first | exact Or.inl (List.mem_of_getElem? (i := 84) (by decide +kernel)) | exact Or.inr (List.mem_of_getElem? (i := 84) (by decide +kernel))
theorem en_d_5_6 : Cond.not (.eq (.static "ConsentQueue$Command" (cmdN.getD 5 "") "LConsentQueue$Command;") (.static "ConsentQueue$Command" (cmdN.getD 6 "") "LConsentQueue$Command;")) ∈ gvC ∨ Cond.not (.eq (.static "ConsentQueue$Command" (cmdN.getD 6 "") "LConsentQueue$Command;") (.static "ConsentQueue$Command" (cmdN.getD 5 "") "LConsentQueue$Command;")) ∈ gvC := by first | exact Or.inl (List.mem_of_getElem? (i := 112) (by decide +kernel)) | exact Or.inr (List.mem_of_getElem? (i := 112) (by decide +kernel))
theorem en_d_5_7 : Cond.not (.eq (.static "ConsentQueue$Command" (cmdN.getD 5 "") "LConsentQueue$Command;") (.static "ConsentQueue$Command" (cmdN.getD 7 "") "LConsentQueue$Command;")) ∈ gvC ∨ Cond.not (.eq (.static "ConsentQueue$Command" (cmdN.getD 7 "") "LConsentQueue$Command;") (.static "ConsentQueue$Command" (cmdN.getD 5 "") "LConsentQueue$Command;")) ∈ gvC := by first | exact Or.inl (List.mem_of_getElem? (i := 137) (by decide +kernel)) | exact Or.inr (List.mem_of_getElem? (i := 137) (by decide +kernel))
theorem en_d_5_8 : Cond.not (.eq (.static "ConsentQueue$Command" (cmdN.getD 5 "") "LConsentQueue$Command;") (.static "ConsentQueue$Command" (cmdN.getD 8 "") "LConsentQueue$Command;")) ∈ gvC ∨ Cond.not (.eq (.static "ConsentQueue$Command" (cmdN.getD 8 "") "LConsentQueue$Command;") (.static "ConsentQueue$Command" (cmdN.getD 5 "") "LConsentQueue$Command;")) ∈ gvC := by first | exact Or.inl (List.mem_of_getElem? (i := 124) (by decide +kernel)) | exact Or.inr (List.mem_of_getElem? (i := 124) (by decide +kernel))
theorem en_d_5_9 : Cond.not (.eq (.static "ConsentQueue$Command" (cmdN.getD 5 "") "LConsentQueue$Command;") (.static "ConsentQueue$Command" (cmdN.getD 9 "") "LConsentQueue$Command;")) ∈ gvC ∨ Cond.not (.eq (.static "ConsentQueue$Command" (cmdN.getD 9 "") "LConsentQueue$Command;") (.static "ConsentQueue$Command" (cmdN.getD 5 "") "LConsentQueue$Command;")) ∈ gvC := by first | exact Or.inl (List.mem_of_getElem? (i := 95) (by decide +kernel)) | exact Or.inr (List.mem_of_getElem? (i := 95) (by decide +kernel))
theorem en_d_5_10 : Cond.not (.eq (.static "ConsentQueue$Command" (cmdN.getD 5 "") "LConsentQueue$Command;") (.static "ConsentQueue$Command" (cmdN.getD 10 "") "LConsentQueue$Command;")) ∈ gvC ∨ Cond.not (.eq (.static "ConsentQueue$Command" (cmdN.getD 10 "") "LConsentQueue$Command;") (.static "ConsentQueue$Command" (cmdN.getD 5 "") "LConsentQueue$Command;")) ∈ gvC := by first | exact Or.inl (List.mem_of_getElem? (i := 94) (by decide +kernel)) | exact Or.inr (List.mem_of_getElem? (i := 94) (by decide +kernel))
theorem en_d_6_7 : Cond.not (.eq (.static "ConsentQueue$Command" (cmdN.getD 6 "") "LConsentQueue$Command;") (.static "ConsentQueue$Command" (cmdN.getD 7 "") "LConsentQueue$Command;")) ∈ gvC ∨ Cond.not (.eq (.static "ConsentQueue$Command" (cmdN.getD 7 "") "LConsentQueue$Command;") (.static "ConsentQueue$Command" (cmdN.getD 6 "") "LConsentQueue$Command;")) ∈ gvC := by first | exact Or.inl (List.mem_of_getElem? (i := 138) (by decide +kernel)) | exact Or.inr (List.mem_of_getElem? (i := 138) (by decide +kernel))
theorem en_d_6_8 : Cond.not (.eq (.static "ConsentQueue$Command" (cmdN.getD 6 "") "LConsentQueue$Command;") (.static "ConsentQueue$Command" (cmdN.getD 8 "") "LConsentQueue$Command;")) ∈ gvC ∨ Cond.not (.eq (.static "ConsentQueue$Command" (cmdN.getD 8 "") "LConsentQueue$Command;") (.static "ConsentQueue$Command" (cmdN.getD 6 "") "LConsentQueue$Command;")) ∈ gvC := by first | exact Or.inl (List.mem_of_getElem? (i := 125) (by decide +kernel)) | exact Or.inr (List.mem_of_getElem? (i := 125) (by decide +kernel))
theorem en_d_6_9 : Cond.not (.eq (.static "ConsentQueue$Command" (cmdN.getD 6 "") "LConsentQueue$Command;") (.static "ConsentQueue$Command" (cmdN.getD 9 "") "LConsentQueue$Command;")) ∈ gvC ∨ Cond.not (.eq (.static "ConsentQueue$Command" (cmdN.getD 9 "") "LConsentQueue$Command;") (.static "ConsentQueue$Command" (cmdN.getD 6 "") "LConsentQueue$Command;")) ∈ gvC := by first | exact Or.inl (List.mem_of_getElem? (i := 106) (by decide +kernel)) | exact Or.inr (List.mem_of_getElem? (i := 106) (by decide +kernel))
theorem en_d_6_10 : Cond.not (.eq (.static "ConsentQueue$Command" (cmdN.getD 6 "") "LConsentQueue$Command;") (.static "ConsentQueue$Command" (cmdN.getD 10 "") "LConsentQueue$Command;")) ∈ gvC ∨ Cond.not (.eq (.static "ConsentQueue$Command" (cmdN.getD 10 "") "LConsentQueue$Command;") (.static "ConsentQueue$Command" (cmdN.getD 6 "") "LConsentQueue$Command;")) ∈ gvC := by first | exact Or.inl (List.mem_of_getElem? (i := 105) (by decide +kernel)) | exact Or.inr (List.mem_of_getElem? (i := 105) (by decide +kernel))
theorem en_d_7_8 : Cond.not (.eq (.static "ConsentQueue$Command" (cmdN.getD 7 "") "LConsentQueue$Command;") (.static "ConsentQueue$Command" (cmdN.getD 8 "") "LConsentQueue$Command;")) ∈ gvC ∨ Cond.not (.eq (.static "ConsentQueue$Command" (cmdN.getD 8 "") "LConsentQueue$Command;") (.static "ConsentQueue$Command" (cmdN.getD 7 "") "LConsentQueue$Command;")) ∈ gvC := by first | exact Or.inl (List.mem_of_getElem? (i := 139) (by decide +kernel)) | exact Or.inr (List.mem_of_getElem? (i := 139) (by decide +kernel))
theorem en_d_7_9 : Cond.not (.eq (.static "ConsentQueue$Command" (cmdN.getD 7 "") "LConsentQueue$Command;") (.static "ConsentQueue$Command" (cmdN.getD 9 "") "LConsentQueue$Command;")) ∈ gvC ∨ Cond.not (.eq (.static "ConsentQueue$Command" (cmdN.getD 9 "") "LConsentQueue$Command;") (.static "ConsentQueue$Command" (cmdN.getD 7 "") "LConsentQueue$Command;")) ∈ gvC := by first | exact Or.inl (List.mem_of_getElem? (i := 131) (by decide +kernel)) | exact Or.inr (List.mem_of_getElem? (i := 131) (by decide +kernel))
theorem en_d_7_10 : Cond.not (.eq (.static "ConsentQueue$Command" (cmdN.getD 7 "") "LConsentQueue$Command;") (.static "ConsentQueue$Command" (cmdN.getD 10 "") "LConsentQueue$Command;")) ∈ gvC ∨ Cond.not (.eq (.static "ConsentQueue$Command" (cmdN.getD 10 "") "LConsentQueue$Command;") (.static "ConsentQueue$Command" (cmdN.getD 7 "") "LConsentQueue$Command;")) ∈ gvC := by first | exact Or.inl (List.mem_of_getElem? (i := 130) (by decide +kernel)) | exact Or.inr (List.mem_of_getElem? (i := 130) (by decide +kernel))
theorem en_d_8_9 : Cond.not (.eq (.static "ConsentQueue$Command" (cmdN.getD 8 "") "LConsentQueue$Command;") (.static "ConsentQueue$Command" (cmdN.getD 9 "") "LConsentQueue$Command;")) ∈ gvC ∨ Cond.not (.eq (.static "ConsentQueue$Command" (cmdN.getD 9 "") "LConsentQueue$Command;") (.static "ConsentQueue$Command" (cmdN.getD 8 "") "LConsentQueue$Command;")) ∈ gvC := by first | exact Or.inl (List.mem_of_getElem? (i := 118) (by decide +kernel)) | exact Or.inr (List.mem_of_getElem? (i := 118) (by decide +kernel))
theorem en_d_8_10 : Cond.not (.eq (.static "ConsentQueue$Command" (cmdN.getD 8 "") "LConsentQueue$Command;") (.static "ConsentQueue$Command" (cmdN.getD 10 "") "LConsentQueue$Command;")) ∈ gvC ∨ Cond.not (.eq (.static "ConsentQueue$Command" (cmdN.getD 10 "") "LConsentQueue$Command;") (.static "ConsentQueue$Command" (cmdN.getD 8 "") "LConsentQueue$Command;")) ∈ gvC := by first | exact Or.inl (List.mem_of_getElem? (i := 117) (by decide +kernel)) | exact Or.inr (List.mem_of_getElem? (i := 117) (by decide +kernel))
theorem en_d_9_10 : Cond.not (.eq (.static "ConsentQueue$Command" (cmdN.getD 9 "") "LConsentQueue$Command;") (.static "ConsentQueue$Command" (cmdN.getD 10 "") "LConsentQueue$Command;")) ∈ gvC ∨ Cond.not (.eq (.static "ConsentQueue$Command" (cmdN.getD 10 "") "LConsentQueue$Command;") (.static "ConsentQueue$Command" (cmdN.getD 9 "") "LConsentQueue$Command;")) ∈ gvC := by first | exact Or.inl (List.mem_of_getElem? (i := 49) (by decide +kernel)) | exact Or.inr (List.mem_of_getElem? (i := 49) (by decide +kernel))
theorem en_d : ∀ i, i < cmdN.length → ∀ j, j < cmdN.length → i ≠ j → Cond.not (.eq (.static "ConsentQueue$Command" (cmdN.getD i "") "LConsentQueue$Command;") (.static "ConsentQueue$Command" (cmdN.getD j "") "LConsentQueue$Command;")) ∈ gvC ∨ Cond.not (.eq (.static "ConsentQueue$Command" (cmdN.getD j "") "LConsentQueue$Command;") (.static "ConsentQueue$Command" (cmdN.getD i "") "LConsentQueue$Command;")) ∈ gvC := by
  intro i hi j hj hij
  have hi : i < 11 := hi
  have hj : j < 11 := hj
  rcases (show i = 0 ∨ i = 1 ∨ i = 2 ∨ i = 3 ∨ i = 4 ∨ i = 5 ∨ i = 6 ∨ i = 7 ∨ i = 8 ∨ i = 9 ∨ i = 10 by omega) with rfl | rfl | rfl | rfl | rfl | rfl | rfl | rfl | rfl | rfl | rfl
  · rcases (show j = 0 ∨ j = 1 ∨ j = 2 ∨ j = 3 ∨ j = 4 ∨ j = 5 ∨ j = 6 ∨ j = 7 ∨ j = 8 ∨ j = 9 ∨ j = 10 by omega) with rfl | rfl | rfl | rfl | rfl | rfl | rfl | rfl | rfl | rfl | rfl
    · exact absurd rfl hij
    · exact en_d_0_1
    · exact en_d_0_2
    · exact en_d_0_3
    · exact en_d_0_4
    · exact en_d_0_5
    · exact en_d_0_6
    · exact en_d_0_7
    · exact en_d_0_8
    · exact en_d_0_9
    · exact en_d_0_10
  · rcases (show j = 0 ∨ j = 1 ∨ j = 2 ∨ j = 3 ∨ j = 4 ∨ j = 5 ∨ j = 6 ∨ j = 7 ∨ j = 8 ∨ j = 9 ∨ j = 10 by omega) with rfl | rfl | rfl | rfl | rfl | rfl | rfl | rfl | rfl | rfl | rfl
    · exact en_d_0_1.symm
    · exact absurd rfl hij
    · exact en_d_1_2
    · exact en_d_1_3
    · exact en_d_1_4
    · exact en_d_1_5
    · exact en_d_1_6
    · exact en_d_1_7
    · exact en_d_1_8
    · exact en_d_1_9
    · exact en_d_1_10
  · rcases (show j = 0 ∨ j = 1 ∨ j = 2 ∨ j = 3 ∨ j = 4 ∨ j = 5 ∨ j = 6 ∨ j = 7 ∨ j = 8 ∨ j = 9 ∨ j = 10 by omega) with rfl | rfl | rfl | rfl | rfl | rfl | rfl | rfl | rfl | rfl | rfl
    · exact en_d_0_2.symm
    · exact en_d_1_2.symm
    · exact absurd rfl hij
    · exact en_d_2_3
    · exact en_d_2_4
    · exact en_d_2_5
    · exact en_d_2_6
    · exact en_d_2_7
    · exact en_d_2_8
    · exact en_d_2_9
    · exact en_d_2_10
  · rcases (show j = 0 ∨ j = 1 ∨ j = 2 ∨ j = 3 ∨ j = 4 ∨ j = 5 ∨ j = 6 ∨ j = 7 ∨ j = 8 ∨ j = 9 ∨ j = 10 by omega) with rfl | rfl | rfl | rfl | rfl | rfl | rfl | rfl | rfl | rfl | rfl
    · exact en_d_0_3.symm
    · exact en_d_1_3.symm
    · exact en_d_2_3.symm
    · exact absurd rfl hij
    · exact en_d_3_4
    · exact en_d_3_5
    · exact en_d_3_6
    · exact en_d_3_7
    · exact en_d_3_8
    · exact en_d_3_9
    · exact en_d_3_10
  · rcases (show j = 0 ∨ j = 1 ∨ j = 2 ∨ j = 3 ∨ j = 4 ∨ j = 5 ∨ j = 6 ∨ j = 7 ∨ j = 8 ∨ j = 9 ∨ j = 10 by omega) with rfl | rfl | rfl | rfl | rfl | rfl | rfl | rfl | rfl | rfl | rfl
    · exact en_d_0_4.symm
    · exact en_d_1_4.symm
    · exact en_d_2_4.symm
    · exact en_d_3_4.symm
    · exact absurd rfl hij
    · exact en_d_4_5
    · exact en_d_4_6
    · exact en_d_4_7
    · exact en_d_4_8
    · exact en_d_4_9
    · exact en_d_4_10
  · rcases (show j = 0 ∨ j = 1 ∨ j = 2 ∨ j = 3 ∨ j = 4 ∨ j = 5 ∨ j = 6 ∨ j = 7 ∨ j = 8 ∨ j = 9 ∨ j = 10 by omega) with rfl | rfl | rfl | rfl | rfl | rfl | rfl | rfl | rfl | rfl | rfl
    · exact en_d_0_5.symm
    · exact en_d_1_5.symm
    · exact en_d_2_5.symm
    · exact en_d_3_5.symm
    · exact en_d_4_5.symm
    · exact absurd rfl hij
    · exact en_d_5_6
    · exact en_d_5_7
    · exact en_d_5_8
    · exact en_d_5_9
    · exact en_d_5_10
  · rcases (show j = 0 ∨ j = 1 ∨ j = 2 ∨ j = 3 ∨ j = 4 ∨ j = 5 ∨ j = 6 ∨ j = 7 ∨ j = 8 ∨ j = 9 ∨ j = 10 by omega) with rfl | rfl | rfl | rfl | rfl | rfl | rfl | rfl | rfl | rfl | rfl
    · exact en_d_0_6.symm
    · exact en_d_1_6.symm
    · exact en_d_2_6.symm
    · exact en_d_3_6.symm
    · exact en_d_4_6.symm
    · exact en_d_5_6.symm
    · exact absurd rfl hij
    · exact en_d_6_7
    · exact en_d_6_8
    · exact en_d_6_9
    · exact en_d_6_10
  · rcases (show j = 0 ∨ j = 1 ∨ j = 2 ∨ j = 3 ∨ j = 4 ∨ j = 5 ∨ j = 6 ∨ j = 7 ∨ j = 8 ∨ j = 9 ∨ j = 10 by omega) with rfl | rfl | rfl | rfl | rfl | rfl | rfl | rfl | rfl | rfl | rfl
    · exact en_d_0_7.symm
    · exact en_d_1_7.symm
    · exact en_d_2_7.symm
    · exact en_d_3_7.symm
    · exact en_d_4_7.symm
    · exact en_d_5_7.symm
    · exact en_d_6_7.symm
    · exact absurd rfl hij
    · exact en_d_7_8
    · exact en_d_7_9
    · exact en_d_7_10
  · rcases (show j = 0 ∨ j = 1 ∨ j = 2 ∨ j = 3 ∨ j = 4 ∨ j = 5 ∨ j = 6 ∨ j = 7 ∨ j = 8 ∨ j = 9 ∨ j = 10 by omega) with rfl | rfl | rfl | rfl | rfl | rfl | rfl | rfl | rfl | rfl | rfl
    · exact en_d_0_8.symm
    · exact en_d_1_8.symm
    · exact en_d_2_8.symm
    · exact en_d_3_8.symm
    · exact en_d_4_8.symm
    · exact en_d_5_8.symm
    · exact en_d_6_8.symm
    · exact en_d_7_8.symm
    · exact absurd rfl hij
    · exact en_d_8_9
    · exact en_d_8_10
  · rcases (show j = 0 ∨ j = 1 ∨ j = 2 ∨ j = 3 ∨ j = 4 ∨ j = 5 ∨ j = 6 ∨ j = 7 ∨ j = 8 ∨ j = 9 ∨ j = 10 by omega) with rfl | rfl | rfl | rfl | rfl | rfl | rfl | rfl | rfl | rfl | rfl
    · exact en_d_0_9.symm
    · exact en_d_1_9.symm
    · exact en_d_2_9.symm
    · exact en_d_3_9.symm
    · exact en_d_4_9.symm
    · exact en_d_5_9.symm
    · exact en_d_6_9.symm
    · exact en_d_7_9.symm
    · exact en_d_8_9.symm
    · exact absurd rfl hij
    · exact en_d_9_10
  · rcases (show j = 0 ∨ j = 1 ∨ j = 2 ∨ j = 3 ∨ j = 4 ∨ j = 5 ∨ j = 6 ∨ j = 7 ∨ j = 8 ∨ j = 9 ∨ j = 10 by omega) with rfl | rfl | rfl | rfl | rfl | rfl | rfl | rfl | rfl | rfl | rfl
    · exact en_d_0_10.symm
    · exact en_d_1_10.symm
    · exact en_d_2_10.symm
    · exact en_d_3_10.symm
    · exact en_d_4_10.symm
    · exact en_d_5_10.symm
    · exact en_d_6_10.symm
    · exact en_d_7_10.symm
    · exact en_d_8_10.symm
    · exact en_d_9_10.symm
    · exact absurd rfl hij
theorem en_w : ∀ i, i < 11 → Cond.eq (.field (cmdT i) "ConsentQueue$Command" "word" "Ljava/lang/String;") (wT i) ∈ gvC := by decide +kernel
theorem en_sx : ∀ i, i < 11 → Cond.exactly (wT i) "java/lang/String" ∈ gvC ∧ Cond.eq (.field (wT i) "java/lang/String" "coder" "B") (.int 0) ∈ gvC ∧ Cond.arrayOf (.field (wT i) "java/lang/String" "value" "[B") .byte ∈ gvC ∧ Cond.eq (.length (.field (wT i) "java/lang/String" "value" "[B")) (.int (Int32.ofNat (wLen.getD i 0))) ∈ gvC := by decide +kernel
theorem en_sb : ∀ i, i < 11 → ∀ j, j < wLen.getD i 0 → Cond.eq (.elem (.field (wT i) "java/lang/String" "value" "[B") (.int (Int32.ofNat j))) (.int ((wByt.getD i []).getD j 0)) ∈ gvC := by decide +kernel
theorem en_sd_0_1 : Cond.not (.eq (wT 0) (wT 1)) ∈ gvC ∨ Cond.not (.eq (wT 1) (wT 0)) ∈ gvC := by first | exact Or.inl (List.mem_of_getElem? (i := 299) (by decide +kernel)) | exact Or.inr (List.mem_of_getElem? (i := 299) (by decide +kernel))
theorem en_sd_0_2 : Cond.not (.eq (wT 0) (wT 2)) ∈ gvC ∨ Cond.not (.eq (wT 2) (wT 0)) ∈ gvC := by first | exact Or.inl (List.mem_of_getElem? (i := 315) (by decide +kernel)) | exact Or.inr (List.mem_of_getElem? (i := 315) (by decide +kernel))
theorem en_sd_0_3 : Cond.not (.eq (wT 0) (wT 3)) ∈ gvC ∨ Cond.not (.eq (wT 3) (wT 0)) ∈ gvC := by first | exact Or.inl (List.mem_of_getElem? (i := 329) (by decide +kernel)) | exact Or.inr (List.mem_of_getElem? (i := 329) (by decide +kernel))
theorem en_sd_0_4 : Cond.not (.eq (wT 0) (wT 4)) ∈ gvC ∨ Cond.not (.eq (wT 4) (wT 0)) ∈ gvC := by first | exact Or.inl (List.mem_of_getElem? (i := 346) (by decide +kernel)) | exact Or.inr (List.mem_of_getElem? (i := 346) (by decide +kernel))
theorem en_sd_0_5 : Cond.not (.eq (wT 0) (wT 5)) ∈ gvC ∨ Cond.not (.eq (wT 5) (wT 0)) ∈ gvC := by first | exact Or.inl (List.mem_of_getElem? (i := 363) (by decide +kernel)) | exact Or.inr (List.mem_of_getElem? (i := 363) (by decide +kernel))
theorem en_sd_0_6 : Cond.not (.eq (wT 0) (wT 6)) ∈ gvC ∨ Cond.not (.eq (wT 6) (wT 0)) ∈ gvC := by first | exact Or.inl (List.mem_of_getElem? (i := 381) (by decide +kernel)) | exact Or.inr (List.mem_of_getElem? (i := 381) (by decide +kernel))
theorem en_sd_0_7 : Cond.not (.eq (wT 0) (wT 7)) ∈ gvC ∨ Cond.not (.eq (wT 7) (wT 0)) ∈ gvC := by first | exact Or.inl (List.mem_of_getElem? (i := 422) (by decide +kernel)) | exact Or.inr (List.mem_of_getElem? (i := 422) (by decide +kernel))
theorem en_sd_0_8 : Cond.not (.eq (wT 0) (wT 8)) ∈ gvC ∨ Cond.not (.eq (wT 8) (wT 0)) ∈ gvC := by first | exact Or.inl (List.mem_of_getElem? (i := 400) (by decide +kernel)) | exact Or.inr (List.mem_of_getElem? (i := 400) (by decide +kernel))
theorem en_sd_0_9 : Cond.not (.eq (wT 0) (wT 9)) ∈ gvC ∨ Cond.not (.eq (wT 9) (wT 0)) ∈ gvC := by first | exact Or.inl (List.mem_of_getElem? (i := 298) (by decide +kernel)) | exact Or.inr (List.mem_of_getElem? (i := 298) (by decide +kernel))
theorem en_sd_0_10 : Cond.not (.eq (wT 0) (wT 10)) ∈ gvC ∨ Cond.not (.eq (wT 10) (wT 0)) ∈ gvC := by first | exact Or.inl (List.mem_of_getElem? (i := 297) (by decide +kernel)) | exact Or.inr (List.mem_of_getElem? (i := 297) (by decide +kernel))
theorem en_sd_1_2 : Cond.not (.eq (wT 1) (wT 2)) ∈ gvC ∨ Cond.not (.eq (wT 2) (wT 1)) ∈ gvC := by first | exact Or.inl (List.mem_of_getElem? (i := 314) (by decide +kernel)) | exact Or.inr (List.mem_of_getElem? (i := 314) (by decide +kernel))
theorem en_sd_1_3 : Cond.not (.eq (wT 1) (wT 3)) ∈ gvC ∨ Cond.not (.eq (wT 3) (wT 1)) ∈ gvC := by first | exact Or.inl (List.mem_of_getElem? (i := 328) (by decide +kernel)) | exact Or.inr (List.mem_of_getElem? (i := 328) (by decide +kernel))
theorem en_sd_1_4 : Cond.not (.eq (wT 1) (wT 4)) ∈ gvC ∨ Cond.not (.eq (wT 4) (wT 1)) ∈ gvC := by first | exact Or.inl (List.mem_of_getElem? (i := 345) (by decide +kernel)) | exact Or.inr (List.mem_of_getElem? (i := 345) (by decide +kernel))
theorem en_sd_1_5 : Cond.not (.eq (wT 1) (wT 5)) ∈ gvC ∨ Cond.not (.eq (wT 5) (wT 1)) ∈ gvC := by first | exact Or.inl (List.mem_of_getElem? (i := 362) (by decide +kernel)) | exact Or.inr (List.mem_of_getElem? (i := 362) (by decide +kernel))
theorem en_sd_1_6 : Cond.not (.eq (wT 1) (wT 6)) ∈ gvC ∨ Cond.not (.eq (wT 6) (wT 1)) ∈ gvC := by first | exact Or.inl (List.mem_of_getElem? (i := 380) (by decide +kernel)) | exact Or.inr (List.mem_of_getElem? (i := 380) (by decide +kernel))
theorem en_sd_1_7 : Cond.not (.eq (wT 1) (wT 7)) ∈ gvC ∨ Cond.not (.eq (wT 7) (wT 1)) ∈ gvC := by first | exact Or.inl (List.mem_of_getElem? (i := 421) (by decide +kernel)) | exact Or.inr (List.mem_of_getElem? (i := 421) (by decide +kernel))
theorem en_sd_1_8 : Cond.not (.eq (wT 1) (wT 8)) ∈ gvC ∨ Cond.not (.eq (wT 8) (wT 1)) ∈ gvC := by first | exact Or.inl (List.mem_of_getElem? (i := 399) (by decide +kernel)) | exact Or.inr (List.mem_of_getElem? (i := 399) (by decide +kernel))
theorem en_sd_1_9 : Cond.not (.eq (wT 1) (wT 9)) ∈ gvC ∨ Cond.not (.eq (wT 9) (wT 1)) ∈ gvC := by first | exact Or.inl (List.mem_of_getElem? (i := 285) (by decide +kernel)) | exact Or.inr (List.mem_of_getElem? (i := 285) (by decide +kernel))
theorem en_sd_1_10 : Cond.not (.eq (wT 1) (wT 10)) ∈ gvC ∨ Cond.not (.eq (wT 10) (wT 1)) ∈ gvC := by first | exact Or.inl (List.mem_of_getElem? (i := 284) (by decide +kernel)) | exact Or.inr (List.mem_of_getElem? (i := 284) (by decide +kernel))
theorem en_sd_2_3 : Cond.not (.eq (wT 2) (wT 3)) ∈ gvC ∨ Cond.not (.eq (wT 3) (wT 2)) ∈ gvC := by first | exact Or.inl (List.mem_of_getElem? (i := 330) (by decide +kernel)) | exact Or.inr (List.mem_of_getElem? (i := 330) (by decide +kernel))
theorem en_sd_2_4 : Cond.not (.eq (wT 2) (wT 4)) ∈ gvC ∨ Cond.not (.eq (wT 4) (wT 2)) ∈ gvC := by first | exact Or.inl (List.mem_of_getElem? (i := 347) (by decide +kernel)) | exact Or.inr (List.mem_of_getElem? (i := 347) (by decide +kernel))
theorem en_sd_2_5 : Cond.not (.eq (wT 2) (wT 5)) ∈ gvC ∨ Cond.not (.eq (wT 5) (wT 2)) ∈ gvC := by first | exact Or.inl (List.mem_of_getElem? (i := 364) (by decide +kernel)) | exact Or.inr (List.mem_of_getElem? (i := 364) (by decide +kernel))
theorem en_sd_2_6 : Cond.not (.eq (wT 2) (wT 6)) ∈ gvC ∨ Cond.not (.eq (wT 6) (wT 2)) ∈ gvC := by first | exact Or.inl (List.mem_of_getElem? (i := 382) (by decide +kernel)) | exact Or.inr (List.mem_of_getElem? (i := 382) (by decide +kernel))
theorem en_sd_2_7 : Cond.not (.eq (wT 2) (wT 7)) ∈ gvC ∨ Cond.not (.eq (wT 7) (wT 2)) ∈ gvC := by first | exact Or.inl (List.mem_of_getElem? (i := 423) (by decide +kernel)) | exact Or.inr (List.mem_of_getElem? (i := 423) (by decide +kernel))
theorem en_sd_2_8 : Cond.not (.eq (wT 2) (wT 8)) ∈ gvC ∨ Cond.not (.eq (wT 8) (wT 2)) ∈ gvC := by first | exact Or.inl (List.mem_of_getElem? (i := 401) (by decide +kernel)) | exact Or.inr (List.mem_of_getElem? (i := 401) (by decide +kernel))
theorem en_sd_2_9 : Cond.not (.eq (wT 2) (wT 9)) ∈ gvC ∨ Cond.not (.eq (wT 9) (wT 2)) ∈ gvC := by first | exact Or.inl (List.mem_of_getElem? (i := 313) (by decide +kernel)) | exact Or.inr (List.mem_of_getElem? (i := 313) (by decide +kernel))
theorem en_sd_2_10 : Cond.not (.eq (wT 2) (wT 10)) ∈ gvC ∨ Cond.not (.eq (wT 10) (wT 2)) ∈ gvC := by first | exact Or.inl (List.mem_of_getElem? (i := 312) (by decide +kernel)) | exact Or.inr (List.mem_of_getElem? (i := 312) (by decide +kernel))
theorem en_sd_3_4 : Cond.not (.eq (wT 3) (wT 4)) ∈ gvC ∨ Cond.not (.eq (wT 4) (wT 3)) ∈ gvC := by first | exact Or.inl (List.mem_of_getElem? (i := 348) (by decide +kernel)) | exact Or.inr (List.mem_of_getElem? (i := 348) (by decide +kernel))
theorem en_sd_3_5 : Cond.not (.eq (wT 3) (wT 5)) ∈ gvC ∨ Cond.not (.eq (wT 5) (wT 3)) ∈ gvC := by first | exact Or.inl (List.mem_of_getElem? (i := 365) (by decide +kernel)) | exact Or.inr (List.mem_of_getElem? (i := 365) (by decide +kernel))
theorem en_sd_3_6 : Cond.not (.eq (wT 3) (wT 6)) ∈ gvC ∨ Cond.not (.eq (wT 6) (wT 3)) ∈ gvC := by first | exact Or.inl (List.mem_of_getElem? (i := 383) (by decide +kernel)) | exact Or.inr (List.mem_of_getElem? (i := 383) (by decide +kernel))
theorem en_sd_3_7 : Cond.not (.eq (wT 3) (wT 7)) ∈ gvC ∨ Cond.not (.eq (wT 7) (wT 3)) ∈ gvC := by first | exact Or.inl (List.mem_of_getElem? (i := 424) (by decide +kernel)) | exact Or.inr (List.mem_of_getElem? (i := 424) (by decide +kernel))
theorem en_sd_3_8 : Cond.not (.eq (wT 3) (wT 8)) ∈ gvC ∨ Cond.not (.eq (wT 8) (wT 3)) ∈ gvC := by first | exact Or.inl (List.mem_of_getElem? (i := 402) (by decide +kernel)) | exact Or.inr (List.mem_of_getElem? (i := 402) (by decide +kernel))
theorem en_sd_3_9 : Cond.not (.eq (wT 3) (wT 9)) ∈ gvC ∨ Cond.not (.eq (wT 9) (wT 3)) ∈ gvC := by first | exact Or.inl (List.mem_of_getElem? (i := 327) (by decide +kernel)) | exact Or.inr (List.mem_of_getElem? (i := 327) (by decide +kernel))
theorem en_sd_3_10 : Cond.not (.eq (wT 3) (wT 10)) ∈ gvC ∨ Cond.not (.eq (wT 10) (wT 3)) ∈ gvC := by first | exact Or.inl (List.mem_of_getElem? (i := 326) (by decide +kernel)) | exact Or.inr (List.mem_of_getElem? (i := 326) (by decide +kernel))
theorem en_sd_4_5 : Cond.not (.eq (wT 4) (wT 5)) ∈ gvC ∨ Cond.not (.eq (wT 5) (wT 4)) ∈ gvC := by first | exact Or.inl (List.mem_of_getElem? (i := 366) (by decide +kernel)) | exact Or.inr (List.mem_of_getElem? (i := 366) (by decide +kernel))
theorem en_sd_4_6 : Cond.not (.eq (wT 4) (wT 6)) ∈ gvC ∨ Cond.not (.eq (wT 6) (wT 4)) ∈ gvC := by first | exact Or.inl (List.mem_of_getElem? (i := 384) (by decide +kernel)) | exact Or.inr (List.mem_of_getElem? (i := 384) (by decide +kernel))
theorem en_sd_4_7 : Cond.not (.eq (wT 4) (wT 7)) ∈ gvC ∨ Cond.not (.eq (wT 7) (wT 4)) ∈ gvC := by first | exact Or.inl (List.mem_of_getElem? (i := 425) (by decide +kernel)) | exact Or.inr (List.mem_of_getElem? (i := 425) (by decide +kernel))
theorem en_sd_4_8 : Cond.not (.eq (wT 4) (wT 8)) ∈ gvC ∨ Cond.not (.eq (wT 8) (wT 4)) ∈ gvC := by first | exact Or.inl (List.mem_of_getElem? (i := 403) (by decide +kernel)) | exact Or.inr (List.mem_of_getElem? (i := 403) (by decide +kernel))
theorem en_sd_4_9 : Cond.not (.eq (wT 4) (wT 9)) ∈ gvC ∨ Cond.not (.eq (wT 9) (wT 4)) ∈ gvC := by first | exact Or.inl (List.mem_of_getElem? (i := 344) (by decide +kernel)) | exact Or.inr (List.mem_of_getElem? (i := 344) (by decide +kernel))
theorem en_sd_4_10 : Cond.not (.eq (wT 4) (wT 10)) ∈ gvC ∨ Cond.not (.eq (wT 10) (wT 4)) ∈ gvC := by first | exact Or.inl (List.mem_of_getElem? (i := 343) (by decide +kernel)) | exact Or.inr (List.mem_of_getElem? (i := 343) (by decide +kernel))
theorem en_sd_5_6 : Cond.not (.eq (wT 5) (wT 6)) ∈ gvC ∨ Cond.not (.eq (wT 6) (wT 5)) ∈ gvC := by first | exact Or.inl (List.mem_of_getElem? (i := 385) (by decide +kernel)) | exact Or.inr (List.mem_of_getElem? (i := 385) (by decide +kernel))
theorem en_sd_5_7 : Cond.not (.eq (wT 5) (wT 7)) ∈ gvC ∨ Cond.not (.eq (wT 7) (wT 5)) ∈ gvC := by first | exact Or.inl (List.mem_of_getElem? (i := 426) (by decide +kernel)) | exact Or.inr (List.mem_of_getElem? (i := 426) (by decide +kernel))
theorem en_sd_5_8 : Cond.not (.eq (wT 5) (wT 8)) ∈ gvC ∨ Cond.not (.eq (wT 8) (wT 5)) ∈ gvC := by first | exact Or.inl (List.mem_of_getElem? (i := 404) (by decide +kernel)) | exact Or.inr (List.mem_of_getElem? (i := 404) (by decide +kernel))
theorem en_sd_5_9 : Cond.not (.eq (wT 5) (wT 9)) ∈ gvC ∨ Cond.not (.eq (wT 9) (wT 5)) ∈ gvC := by first | exact Or.inl (List.mem_of_getElem? (i := 361) (by decide +kernel)) | exact Or.inr (List.mem_of_getElem? (i := 361) (by decide +kernel))
theorem en_sd_5_10 : Cond.not (.eq (wT 5) (wT 10)) ∈ gvC ∨ Cond.not (.eq (wT 10) (wT 5)) ∈ gvC := by first | exact Or.inl (List.mem_of_getElem? (i := 360) (by decide +kernel)) | exact Or.inr (List.mem_of_getElem? (i := 360) (by decide +kernel))
theorem en_sd_6_7 : Cond.not (.eq (wT 6) (wT 7)) ∈ gvC ∨ Cond.not (.eq (wT 7) (wT 6)) ∈ gvC := by first | exact Or.inl (List.mem_of_getElem? (i := 427) (by decide +kernel)) | exact Or.inr (List.mem_of_getElem? (i := 427) (by decide +kernel))
theorem en_sd_6_8 : Cond.not (.eq (wT 6) (wT 8)) ∈ gvC ∨ Cond.not (.eq (wT 8) (wT 6)) ∈ gvC := by first | exact Or.inl (List.mem_of_getElem? (i := 405) (by decide +kernel)) | exact Or.inr (List.mem_of_getElem? (i := 405) (by decide +kernel))
theorem en_sd_6_9 : Cond.not (.eq (wT 6) (wT 9)) ∈ gvC ∨ Cond.not (.eq (wT 9) (wT 6)) ∈ gvC := by first | exact Or.inl (List.mem_of_getElem? (i := 379) (by decide +kernel)) | exact Or.inr (List.mem_of_getElem? (i := 379) (by decide +kernel))
theorem en_sd_6_10 : Cond.not (.eq (wT 6) (wT 10)) ∈ gvC ∨ Cond.not (.eq (wT 10) (wT 6)) ∈ gvC := by first | exact Or.inl (List.mem_of_getElem? (i := 378) (by decide +kernel)) | exact Or.inr (List.mem_of_getElem? (i := 378) (by decide +kernel))
theorem en_sd_7_8 : Cond.not (.eq (wT 7) (wT 8)) ∈ gvC ∨ Cond.not (.eq (wT 8) (wT 7)) ∈ gvC := by first | exact Or.inl (List.mem_of_getElem? (i := 428) (by decide +kernel)) | exact Or.inr (List.mem_of_getElem? (i := 428) (by decide +kernel))
theorem en_sd_7_9 : Cond.not (.eq (wT 7) (wT 9)) ∈ gvC ∨ Cond.not (.eq (wT 9) (wT 7)) ∈ gvC := by first | exact Or.inl (List.mem_of_getElem? (i := 420) (by decide +kernel)) | exact Or.inr (List.mem_of_getElem? (i := 420) (by decide +kernel))
theorem en_sd_7_10 : Cond.not (.eq (wT 7) (wT 10)) ∈ gvC ∨ Cond.not (.eq (wT 10) (wT 7)) ∈ gvC := by first | exact Or.inl (List.mem_of_getElem? (i := 419) (by decide +kernel)) | exact Or.inr (List.mem_of_getElem? (i := 419) (by decide +kernel))
theorem en_sd_8_9 : Cond.not (.eq (wT 8) (wT 9)) ∈ gvC ∨ Cond.not (.eq (wT 9) (wT 8)) ∈ gvC := by first | exact Or.inl (List.mem_of_getElem? (i := 398) (by decide +kernel)) | exact Or.inr (List.mem_of_getElem? (i := 398) (by decide +kernel))
theorem en_sd_8_10 : Cond.not (.eq (wT 8) (wT 10)) ∈ gvC ∨ Cond.not (.eq (wT 10) (wT 8)) ∈ gvC := by first | exact Or.inl (List.mem_of_getElem? (i := 397) (by decide +kernel)) | exact Or.inr (List.mem_of_getElem? (i := 397) (by decide +kernel))
theorem en_sd_9_10 : Cond.not (.eq (wT 9) (wT 10)) ∈ gvC ∨ Cond.not (.eq (wT 10) (wT 9)) ∈ gvC := by first | exact Or.inl (List.mem_of_getElem? (i := 272) (by decide +kernel)) | exact Or.inr (List.mem_of_getElem? (i := 272) (by decide +kernel))
theorem en_sd : ∀ i, i < 11 → ∀ j, j < 11 → i ≠ j → Cond.not (Cond.eq (wT i) (wT j)) ∈ gvC ∨ Cond.not (Cond.eq (wT j) (wT i)) ∈ gvC := by
  intro i hi j hj hij
  have hi : i < 11 := hi
  have hj : j < 11 := hj
  rcases (show i = 0 ∨ i = 1 ∨ i = 2 ∨ i = 3 ∨ i = 4 ∨ i = 5 ∨ i = 6 ∨ i = 7 ∨ i = 8 ∨ i = 9 ∨ i = 10 by omega) with rfl | rfl | rfl | rfl | rfl | rfl | rfl | rfl | rfl | rfl | rfl
  · rcases (show j = 0 ∨ j = 1 ∨ j = 2 ∨ j = 3 ∨ j = 4 ∨ j = 5 ∨ j = 6 ∨ j = 7 ∨ j = 8 ∨ j = 9 ∨ j = 10 by omega) with rfl | rfl | rfl | rfl | rfl | rfl | rfl | rfl | rfl | rfl | rfl
    · exact absurd rfl hij
    · exact en_sd_0_1
    · exact en_sd_0_2
    · exact en_sd_0_3
    · exact en_sd_0_4
    · exact en_sd_0_5
    · exact en_sd_0_6
    · exact en_sd_0_7
    · exact en_sd_0_8
    · exact en_sd_0_9
    · exact en_sd_0_10
  · rcases (show j = 0 ∨ j = 1 ∨ j = 2 ∨ j = 3 ∨ j = 4 ∨ j = 5 ∨ j = 6 ∨ j = 7 ∨ j = 8 ∨ j = 9 ∨ j = 10 by omega) with rfl | rfl | rfl | rfl | rfl | rfl | rfl | rfl | rfl | rfl | rfl
    · exact en_sd_0_1.symm
    · exact absurd rfl hij
    · exact en_sd_1_2
    · exact en_sd_1_3
    · exact en_sd_1_4
    · exact en_sd_1_5
    · exact en_sd_1_6
    · exact en_sd_1_7
    · exact en_sd_1_8
    · exact en_sd_1_9
    · exact en_sd_1_10
  · rcases (show j = 0 ∨ j = 1 ∨ j = 2 ∨ j = 3 ∨ j = 4 ∨ j = 5 ∨ j = 6 ∨ j = 7 ∨ j = 8 ∨ j = 9 ∨ j = 10 by omega) with rfl | rfl | rfl | rfl | rfl | rfl | rfl | rfl | rfl | rfl | rfl
    · exact en_sd_0_2.symm
    · exact en_sd_1_2.symm
    · exact absurd rfl hij
    · exact en_sd_2_3
    · exact en_sd_2_4
    · exact en_sd_2_5
    · exact en_sd_2_6
    · exact en_sd_2_7
    · exact en_sd_2_8
    · exact en_sd_2_9
    · exact en_sd_2_10
  · rcases (show j = 0 ∨ j = 1 ∨ j = 2 ∨ j = 3 ∨ j = 4 ∨ j = 5 ∨ j = 6 ∨ j = 7 ∨ j = 8 ∨ j = 9 ∨ j = 10 by omega) with rfl | rfl | rfl | rfl | rfl | rfl | rfl | rfl | rfl | rfl | rfl
    · exact en_sd_0_3.symm
    · exact en_sd_1_3.symm
    · exact en_sd_2_3.symm
    · exact absurd rfl hij
    · exact en_sd_3_4
    · exact en_sd_3_5
    · exact en_sd_3_6
    · exact en_sd_3_7
    · exact en_sd_3_8
    · exact en_sd_3_9
    · exact en_sd_3_10
  · rcases (show j = 0 ∨ j = 1 ∨ j = 2 ∨ j = 3 ∨ j = 4 ∨ j = 5 ∨ j = 6 ∨ j = 7 ∨ j = 8 ∨ j = 9 ∨ j = 10 by omega) with rfl | rfl | rfl | rfl | rfl | rfl | rfl | rfl | rfl | rfl | rfl
    · exact en_sd_0_4.symm
    · exact en_sd_1_4.symm
    · exact en_sd_2_4.symm
    · exact en_sd_3_4.symm
    · exact absurd rfl hij
    · exact en_sd_4_5
    · exact en_sd_4_6
    · exact en_sd_4_7
    · exact en_sd_4_8
    · exact en_sd_4_9
    · exact en_sd_4_10
  · rcases (show j = 0 ∨ j = 1 ∨ j = 2 ∨ j = 3 ∨ j = 4 ∨ j = 5 ∨ j = 6 ∨ j = 7 ∨ j = 8 ∨ j = 9 ∨ j = 10 by omega) with rfl | rfl | rfl | rfl | rfl | rfl | rfl | rfl | rfl | rfl | rfl
    · exact en_sd_0_5.symm
    · exact en_sd_1_5.symm
    · exact en_sd_2_5.symm
    · exact en_sd_3_5.symm
    · exact en_sd_4_5.symm
    · exact absurd rfl hij
    · exact en_sd_5_6
    · exact en_sd_5_7
    · exact en_sd_5_8
    · exact en_sd_5_9
    · exact en_sd_5_10
  · rcases (show j = 0 ∨ j = 1 ∨ j = 2 ∨ j = 3 ∨ j = 4 ∨ j = 5 ∨ j = 6 ∨ j = 7 ∨ j = 8 ∨ j = 9 ∨ j = 10 by omega) with rfl | rfl | rfl | rfl | rfl | rfl | rfl | rfl | rfl | rfl | rfl
    · exact en_sd_0_6.symm
    · exact en_sd_1_6.symm
    · exact en_sd_2_6.symm
    · exact en_sd_3_6.symm
    · exact en_sd_4_6.symm
    · exact en_sd_5_6.symm
    · exact absurd rfl hij
    · exact en_sd_6_7
    · exact en_sd_6_8
    · exact en_sd_6_9
    · exact en_sd_6_10
  · rcases (show j = 0 ∨ j = 1 ∨ j = 2 ∨ j = 3 ∨ j = 4 ∨ j = 5 ∨ j = 6 ∨ j = 7 ∨ j = 8 ∨ j = 9 ∨ j = 10 by omega) with rfl | rfl | rfl | rfl | rfl | rfl | rfl | rfl | rfl | rfl | rfl
    · exact en_sd_0_7.symm
    · exact en_sd_1_7.symm
    · exact en_sd_2_7.symm
    · exact en_sd_3_7.symm
    · exact en_sd_4_7.symm
    · exact en_sd_5_7.symm
    · exact en_sd_6_7.symm
    · exact absurd rfl hij
    · exact en_sd_7_8
    · exact en_sd_7_9
    · exact en_sd_7_10
  · rcases (show j = 0 ∨ j = 1 ∨ j = 2 ∨ j = 3 ∨ j = 4 ∨ j = 5 ∨ j = 6 ∨ j = 7 ∨ j = 8 ∨ j = 9 ∨ j = 10 by omega) with rfl | rfl | rfl | rfl | rfl | rfl | rfl | rfl | rfl | rfl | rfl
    · exact en_sd_0_8.symm
    · exact en_sd_1_8.symm
    · exact en_sd_2_8.symm
    · exact en_sd_3_8.symm
    · exact en_sd_4_8.symm
    · exact en_sd_5_8.symm
    · exact en_sd_6_8.symm
    · exact en_sd_7_8.symm
    · exact absurd rfl hij
    · exact en_sd_8_9
    · exact en_sd_8_10
  · rcases (show j = 0 ∨ j = 1 ∨ j = 2 ∨ j = 3 ∨ j = 4 ∨ j = 5 ∨ j = 6 ∨ j = 7 ∨ j = 8 ∨ j = 9 ∨ j = 10 by omega) with rfl | rfl | rfl | rfl | rfl | rfl | rfl | rfl | rfl | rfl | rfl
    · exact en_sd_0_9.symm
    · exact en_sd_1_9.symm
    · exact en_sd_2_9.symm
    · exact en_sd_3_9.symm
    · exact en_sd_4_9.symm
    · exact en_sd_5_9.symm
    · exact en_sd_6_9.symm
    · exact en_sd_7_9.symm
    · exact en_sd_8_9.symm
    · exact absurd rfl hij
    · exact en_sd_9_10
  · rcases (show j = 0 ∨ j = 1 ∨ j = 2 ∨ j = 3 ∨ j = 4 ∨ j = 5 ∨ j = 6 ∨ j = 7 ∨ j = 8 ∨ j = 9 ∨ j = 10 by omega) with rfl | rfl | rfl | rfl | rfl | rfl | rfl | rfl | rfl | rfl | rfl
    · exact en_sd_0_10.symm
    · exact en_sd_1_10.symm
    · exact en_sd_2_10.symm
    · exact en_sd_3_10.symm
    · exact en_sd_4_10.symm
    · exact en_sd_5_10.symm
    · exact en_sd_6_10.symm
    · exact en_sd_7_10.symm
    · exact en_sd_8_10.symm
    · exact en_sd_9_10.symm
    · exact absurd rfl hij
theorem en_se : ∀ j, j < 11 → Cond.eq (.elem swT (.int (Int32.ofNat j))) (.int (swm j)) ∈ gvC := by decide +kernel
theorem en_ae : ∀ j, j < 11 → Cond.eq (.elem alT (.int (Int32.ofNat j))) (cmdT j) ∈ gvC := by decide +kernel
