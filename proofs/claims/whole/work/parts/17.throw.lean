/-! EXCEPTIONS: 1 IndexOutOfBounds, 2 IllegalArgument, 3 IllegalState; 0 none -/
def exN (e : Nat) : String := eTab.getD (e - 1) ""
abbrev xNames : List String := ["java/lang/RuntimeException", "java/lang/Exception"]
theorem xa_1 : ∀ w ∈ (vx_atS RX5 298 "java/lang/IndexOutOfBoundsException" xNames).filter goodWord, w ∈ lw_tbl := by decide +kernel
theorem xa_2 : ∀ w ∈ (vx_atS RX5 140 "java/lang/IllegalArgumentException" xNames).filter goodWord, w ∈ lw_tbl := by decide +kernel
theorem xa_3 : ∀ w ∈ (vx_atS RX5 60 "java/lang/IllegalStateException" xNames).filter goodWord, w ∈ lw_tbl := by decide +kernel
theorem xb_1 : ∀ w ∈ (vx_atS RX5 298 "java/lang/IndexOutOfBoundsException" xNames).filter (fun w => !goodWord w), w ∈ Cond.castable "java/lang/IndexOutOfBoundsException" "java/lang/IndexOutOfBoundsException" :: dTab.map Cond.declares := by decide +kernel
theorem xb_2 : ∀ w ∈ (vx_atS RX5 140 "java/lang/IllegalArgumentException" xNames).filter (fun w => !goodWord w), w ∈ Cond.castable "java/lang/IllegalArgumentException" "java/lang/IllegalArgumentException" :: dTab.map Cond.declares := by decide +kernel
theorem xb_3 : ∀ w ∈ (vx_atS RX5 60 "java/lang/IllegalStateException" xNames).filter (fun w => !goodWord w), w ∈ Cond.castable "java/lang/IllegalStateException" "java/lang/IllegalStateException" :: dTab.map Cond.declares := by decide +kernel
theorem xg_1 : ∀ w ∈ vx_atS RX5 298 "java/lang/IndexOutOfBoundsException" xNames, vx_ot w = true := by decide +kernel
theorem xg_2 : ∀ w ∈ vx_atS RX5 140 "java/lang/IllegalArgumentException" xNames, vx_ot w = true := by decide +kernel
theorem xg_3 : ∀ w ∈ vx_atS RX5 60 "java/lang/IllegalStateException" xNames, vx_ot w = true := by decide +kernel
