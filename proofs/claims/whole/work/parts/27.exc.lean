/-! EXCEPTIONS: the words of the three classes that are thrown -/
def xNs : List String := ["java/lang/RuntimeException", "java/lang/Exception"]
def xW (ic : Nat) (cls : String) : List Cond := vx_atS RX6 ic cls xNs
def xgW (w : Cond) : Bool := goodWord w || (w.onTables && w.faceAtom)
theorem xgW_at {E : GE} {w : Cond} {s : State} {args : Array Value} (hE : Env0 E) (hW : (gS E).WarmedH s.vm) (hw : w ∈ lw_tbl) (hg : xgW w = true) : w.before args s = true := by
  have h0 := hE.2.2.2 w hw
  simp only [xgW, Bool.or_eq_true, Bool.and_eq_true] at hg
  rcases hg with h | ⟨h1, h2⟩
  · exact word_at hW (good_of_word h) h0
  · exact va_tabs h1 (rfl : ((gS E).setVm s.vm).vm = s.vm) (Cond.faceAtom_setVm hW.alike w h2 h0)
set_option maxRecDepth 100000 in
set_option maxHeartbeats 4000000 in
theorem xW1_good : (xW 267 "java/lang/IndexOutOfBoundsException").all xgW = true := by decide +kernel
set_option maxRecDepth 100000 in
set_option maxHeartbeats 4000000 in
theorem xW2_good : (xW 274 "java/lang/IllegalArgumentException").all xgW = true := by decide +kernel
set_option maxRecDepth 100000 in
set_option maxHeartbeats 4000000 in
theorem xW3_good : (xW 279 "java/lang/IllegalStateException").all xgW = true := by decide +kernel
set_option maxRecDepth 100000 in
set_option maxHeartbeats 4000000 in
theorem xW1_in : ∀ w ∈ xW 267 "java/lang/IndexOutOfBoundsException", w ∈ lw_tbl := by decide +kernel
set_option maxRecDepth 100000 in
set_option maxHeartbeats 4000000 in
theorem xW2_in : ∀ w ∈ xW 274 "java/lang/IllegalArgumentException", w ∈ lw_tbl := by decide +kernel
set_option maxRecDepth 100000 in
set_option maxHeartbeats 4000000 in
theorem xW3_in : ∀ w ∈ xW 279 "java/lang/IllegalStateException", w ∈ lw_tbl := by decide +kernel
set_option maxRecDepth 100000 in
set_option maxHeartbeats 4000000 in
theorem xW1_ot : ∀ w ∈ Cond.classLink RX6 263 "java/lang/IndexOutOfBoundsException" :: Cond.initialized "java/lang/IndexOutOfBoundsException" :: xW 267 "java/lang/IndexOutOfBoundsException", vx_ot w = true := by decide +kernel
set_option maxRecDepth 100000 in
set_option maxHeartbeats 4000000 in
theorem xW2_ot : ∀ w ∈ Cond.classLink RX6 270 "java/lang/IllegalArgumentException" :: Cond.initialized "java/lang/IllegalArgumentException" :: xW 274 "java/lang/IllegalArgumentException", vx_ot w = true := by decide +kernel
set_option maxRecDepth 100000 in
set_option maxHeartbeats 4000000 in
theorem xW3_ot : ∀ w ∈ Cond.classLink RX6 275 "java/lang/IllegalStateException" :: Cond.initialized "java/lang/IllegalStateException" :: xW 279 "java/lang/IllegalStateException", vx_ot w = true := by decide +kernel
