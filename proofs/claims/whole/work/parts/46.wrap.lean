/-! THE LAW'S WRAPPERS, evaluated -/
theorem L0_append {p1 p2 p3 p4 p5 : Int32} {r : Int32} {M Mc : Mem} (h : f_X5_append p1 p2 p3 p4 p5 M = some (0, r, Mc)) : f_L_append p1 p2 p3 p4 p5 M = some (0, mput Mc 17 0 r) := by
  unfold f_L_append
  rw [h]
  rfl
theorem L3_append {p1 p2 p3 p4 p5 : Int32} {r : Int32} {M Mc : Mem} (h : f_X5_append p1 p2 p3 p4 p5 M = some (3, r, Mc)) : f_L_append p1 p2 p3 p4 p5 M = some (1, Mc) := by
  unfold f_L_append
  rw [h]
  rfl
theorem L0_count {p1 : Int32} {r : Int32} {M Mc : Mem} (h : f_X5_count p1 M = some (0, r, Mc)) : f_L_count p1 M = some (0, mput Mc 17 0 r) := by
  unfold f_L_count
  rw [h]
  rfl
theorem L2_count {p1 : Int32} {r : Int32} {M Mc : Mem} (h : f_X5_count p1 M = some (2, r, Mc)) : f_L_count p1 M = some (1, Mc) := by
  unfold f_L_count
  rw [h]
  rfl
theorem L0_account {p1 : Int32} {r : Int32} {M Mc : Mem} (h : f_X5_account p1 M = some (0, r, Mc)) : f_L_account p1 M = some (0, mput Mc 17 0 r) := by
  unfold f_L_account
  rw [h]
  rfl
theorem L2_account {p1 : Int32} {r : Int32} {M Mc : Mem} (h : f_X5_account p1 M = some (2, r, Mc)) : f_L_account p1 M = some (1, Mc) := by
  unfold f_L_account
  rw [h]
  rfl
theorem L0_monk {p1 p2 : Int32} {r : Int32} {M Mc : Mem} (h : f_X5_monk p1 p2 M = some (0, r, Mc)) : f_L_monk p1 p2 M = some (0, mput Mc 17 0 r) := by
  unfold f_L_monk
  rw [h]
  rfl
theorem L1_monk {p1 p2 : Int32} {r : Int32} {M Mc : Mem} (h : f_X5_monk p1 p2 M = some (1, r, Mc)) : f_L_monk p1 p2 M = some (1, Mc) := by
  unfold f_L_monk
  rw [h]
  rfl
theorem L2_monk {p1 p2 : Int32} {r : Int32} {M Mc : Mem} (h : f_X5_monk p1 p2 M = some (2, r, Mc)) : f_L_monk p1 p2 M = some (2, Mc) := by
  unfold f_L_monk
  rw [h]
  rfl
theorem L0_need {p1 p2 : Int32} {r : Int32} {M Mc : Mem} (h : f_X5_need p1 p2 M = some (0, r, Mc)) : f_L_need p1 p2 M = some (0, mput Mc 17 0 r) := by
  unfold f_L_need
  rw [h]
  rfl
theorem L1_need {p1 p2 : Int32} {r : Int32} {M Mc : Mem} (h : f_X5_need p1 p2 M = some (1, r, Mc)) : f_L_need p1 p2 M = some (1, Mc) := by
  unfold f_L_need
  rw [h]
  rfl
theorem L2_need {p1 p2 : Int32} {r : Int32} {M Mc : Mem} (h : f_X5_need p1 p2 M = some (2, r, Mc)) : f_L_need p1 p2 M = some (2, Mc) := by
  unfold f_L_need
  rw [h]
  rfl
theorem L0_bell {p1 : Int32} {r : Int32} {M Mc : Mem} (h : f_X5_bell p1 M = some (0, r, Mc)) : f_L_bell p1 M = some (0, mput Mc 17 0 r) := by
  unfold f_L_bell
  rw [h]
  rfl
theorem L1_bell {p1 : Int32} {r : Int32} {M Mc : Mem} (h : f_X5_bell p1 M = some (1, r, Mc)) : f_L_bell p1 M = some (1, Mc) := by
  unfold f_L_bell
  rw [h]
  rfl
theorem L0_why {p1 p2 p3 p4 p5 : Int32} {r : Int32} {M Mc : Mem} (h : f_X5_why p1 p2 p3 p4 p5 M = some (0, r, Mc)) : f_L_why p1 p2 p3 p4 p5 M = some (0, mput Mc 17 0 r) := by
  unfold f_L_why
  rw [h]
  rfl
theorem L1_why {p1 p2 p3 p4 p5 : Int32} {r : Int32} {M Mc : Mem} (h : f_X5_why p1 p2 p3 p4 p5 M = some (1, r, Mc)) : f_L_why p1 p2 p3 p4 p5 M = some (1, Mc) := by
  unfold f_L_why
  rw [h]
  rfl
theorem L2_why {p1 p2 p3 p4 p5 : Int32} {r : Int32} {M Mc : Mem} (h : f_X5_why p1 p2 p3 p4 p5 M = some (2, r, Mc)) : f_L_why p1 p2 p3 p4 p5 M = some (2, Mc) := by
  unfold f_L_why
  rw [h]
  rfl
theorem L0_bestWay {p1 p2 p3 : Int32} {r : Int32} {M Mc : Mem} (h : f_X5_bestWay p1 p2 p3 M = some (0, r, Mc)) : f_L_bestWay p1 p2 p3 M = some (0, mput Mc 17 0 r) := by
  unfold f_L_bestWay
  rw [h]
  rfl
theorem L1_bestWay {p1 p2 p3 : Int32} {r : Int32} {M Mc : Mem} (h : f_X5_bestWay p1 p2 p3 M = some (1, r, Mc)) : f_L_bestWay p1 p2 p3 M = some (1, Mc) := by
  unfold f_L_bestWay
  rw [h]
  rfl
theorem L2_bestWay {p1 p2 p3 : Int32} {r : Int32} {M Mc : Mem} (h : f_X5_bestWay p1 p2 p3 M = some (2, r, Mc)) : f_L_bestWay p1 p2 p3 M = some (2, Mc) := by
  unfold f_L_bestWay
  rw [h]
  rfl
theorem L0_fastIn {p1 : Int32} {r : Int32} {M Mc : Mem} (h : f_X5_fastIn p1 M = some (0, r, Mc)) : f_L_fastIn p1 M = some (0, mput Mc 17 0 r) := by
  unfold f_L_fastIn
  rw [h]
  rfl
theorem L2_fastIn {p1 : Int32} {r : Int32} {M Mc : Mem} (h : f_X5_fastIn p1 M = some (2, r, Mc)) : f_L_fastIn p1 M = some (1, Mc) := by
  unfold f_L_fastIn
  rw [h]
  rfl
theorem L0_freeIn {p1 : Int32} {r : Int32} {M Mc : Mem} (h : f_X5_freeIn p1 M = some (0, r, Mc)) : f_L_freeIn p1 M = some (0, mput Mc 17 0 r) := by
  unfold f_L_freeIn
  rw [h]
  rfl
theorem L1_freeIn {p1 : Int32} {r : Int32} {M Mc : Mem} (h : f_X5_freeIn p1 M = some (1, r, Mc)) : f_L_freeIn p1 M = some (1, Mc) := by
  unfold f_L_freeIn
  rw [h]
  rfl
theorem L0_want {p1 p2 : Int32} {r : Int32} {M Mc : Mem} (h : f_X5_want p1 p2 M = some (0, r, Mc)) : f_L_want p1 p2 M = some (0, mput Mc 17 0 r) := by
  unfold f_L_want
  rw [h]
  rfl
theorem L1_want {p1 p2 : Int32} {r : Int32} {M Mc : Mem} (h : f_X5_want p1 p2 M = some (1, r, Mc)) : f_L_want p1 p2 M = some (1, Mc) := by
  unfold f_L_want
  rw [h]
  rfl
theorem L0_tell {p1 p2 p3 p4 : Int32} {r : Int32} {M Mc : Mem} (h : f_X5_tell p1 p2 p3 p4 M = some (0, r, Mc)) : f_L_tell p1 p2 p3 p4 M = some (0, mput Mc 17 0 r) := by
  unfold f_L_tell
  rw [h]
  rfl
theorem L1_tell {p1 p2 p3 p4 : Int32} {r : Int32} {M Mc : Mem} (h : f_X5_tell p1 p2 p3 p4 M = some (1, r, Mc)) : f_L_tell p1 p2 p3 p4 M = some (1, Mc) := by
  unfold f_L_tell
  rw [h]
  rfl
theorem L2_tell {p1 p2 p3 p4 : Int32} {r : Int32} {M Mc : Mem} (h : f_X5_tell p1 p2 p3 p4 M = some (2, r, Mc)) : f_L_tell p1 p2 p3 p4 M = some (2, Mc) := by
  unfold f_L_tell
  rw [h]
  rfl
theorem L0_give {p1 p2 p3 : Int32} {r : Int32} {M Mc : Mem} (h : f_X5_give p1 p2 p3 M = some (0, r, Mc)) : f_L_give p1 p2 p3 M = some (0, mput Mc 17 0 r) := by
  unfold f_L_give
  rw [h]
  rfl
theorem L1_give {p1 p2 p3 : Int32} {r : Int32} {M Mc : Mem} (h : f_X5_give p1 p2 p3 M = some (1, r, Mc)) : f_L_give p1 p2 p3 M = some (1, Mc) := by
  unfold f_L_give
  rw [h]
  rfl
theorem L2_give {p1 p2 p3 : Int32} {r : Int32} {M Mc : Mem} (h : f_X5_give p1 p2 p3 M = some (2, r, Mc)) : f_L_give p1 p2 p3 M = some (2, Mc) := by
  unfold f_L_give
  rw [h]
  rfl
theorem L0_pass {p1 : Int32} {r : Int32} {M Mc : Mem} (h : f_X5_pass p1 M = some (0, r, Mc)) : f_L_pass p1 M = some (0, mput Mc 17 0 r) := by
  unfold f_L_pass
  rw [h]
  rfl
theorem L2_pass {p1 : Int32} {r : Int32} {M Mc : Mem} (h : f_X5_pass p1 M = some (2, r, Mc)) : f_L_pass p1 M = some (1, Mc) := by
  unfold f_L_pass
  rw [h]
  rfl
theorem L0_setBell {p1 p2 : Int32} {r : Int32} {M Mc : Mem} (h : f_X5_setBell p1 p2 M = some (0, r, Mc)) : f_L_setBell p1 p2 M = some (0, mput Mc 17 0 r) := by
  unfold f_L_setBell
  rw [h]
  rfl
theorem L1_setBell {p1 p2 : Int32} {r : Int32} {M Mc : Mem} (h : f_X5_setBell p1 p2 M = some (1, r, Mc)) : f_L_setBell p1 p2 M = some (1, Mc) := by
  unfold f_L_setBell
  rw [h]
  rfl
theorem L2_setBell {p1 p2 : Int32} {r : Int32} {M Mc : Mem} (h : f_X5_setBell p1 p2 M = some (2, r, Mc)) : f_L_setBell p1 p2 M = some (2, Mc) := by
  unfold f_L_setBell
  rw [h]
  rfl
theorem L0_set {p1 p2 : Int32} {r : Int32} {M Mc : Mem} (h : f_X5_set p1 p2 M = some (0, r, Mc)) : f_L_set p1 p2 M = some (0, mput Mc 17 0 r) := by
  unfold f_L_set
  rw [h]
  rfl
theorem L2_set {p1 p2 : Int32} {r : Int32} {M Mc : Mem} (h : f_X5_set p1 p2 M = some (2, r, Mc)) : f_L_set p1 p2 M = some (1, Mc) := by
  unfold f_L_set
  rw [h]
  rfl
theorem L0_undo {r : Int32} {M Mc : Mem} (h : f_X5_undo  M = some (0, r, Mc)) : f_L_undo  M = some (0, mput Mc 17 0 r) := by
  unfold f_L_undo
  rw [h]
  rfl
theorem L3_undo {r : Int32} {M Mc : Mem} (h : f_X5_undo  M = some (3, r, Mc)) : f_L_undo  M = some (1, Mc) := by
  unfold f_L_undo
  rw [h]
  rfl
theorem L0_restore {p1 : Int32} {r : Int32} {M Mc : Mem} (h : f_X5_restore p1 M = some (0, r, Mc)) : f_L_restore p1 M = some (0, mput Mc 17 0 r) := by
  unfold f_L_restore
  rw [h]
  rfl
theorem L1_restore {p1 : Int32} {r : Int32} {M Mc : Mem} (h : f_X5_restore p1 M = some (1, r, Mc)) : f_L_restore p1 M = some (1, Mc) := by
  unfold f_L_restore
  rw [h]
  rfl
theorem L3_restore {p1 : Int32} {r : Int32} {M Mc : Mem} (h : f_X5_restore p1 M = some (3, r, Mc)) : f_L_restore p1 M = some (2, Mc) := by
  unfold f_L_restore
  rw [h]
  rfl
theorem L0_writeMonk {p1 : Int32} {r : Int32} {M Mc : Mem} (h : f_X5_writeMonk p1 M = some (0, r, Mc)) : f_L_writeMonk p1 M = some (0, mput Mc 17 0 r) := by
  unfold f_L_writeMonk
  rw [h]
  rfl
theorem L1_writeMonk {p1 : Int32} {r : Int32} {M Mc : Mem} (h : f_X5_writeMonk p1 M = some (1, r, Mc)) : f_L_writeMonk p1 M = some (1, Mc) := by
  unfold f_L_writeMonk
  rw [h]
  rfl
theorem L0_writtenByte {p1 : Int32} {r : Int32} {M Mc : Mem} (h : f_X5_writtenByte p1 M = some (0, r, Mc)) : f_L_writtenByte p1 M = some (0, mput Mc 17 0 r) := by
  unfold f_L_writtenByte
  rw [h]
  rfl
theorem L1_writtenByte {p1 : Int32} {r : Int32} {M Mc : Mem} (h : f_X5_writtenByte p1 M = some (1, r, Mc)) : f_L_writtenByte p1 M = some (1, Mc) := by
  unfold f_L_writtenByte
  rw [h]
  rfl
theorem L0_has {p1 p2 p3 : Int32} {b : Bool} {M Mc : Mem} (h : f_X5_has p1 p2 p3 M = some (0, b2 b, Mc)) : f_L_has p1 p2 p3 M = some (0, mput Mc 17 0 (b2 b)) := by
  unfold f_L_has f_L_has_18
  rw [h]
  cases b <;> rfl
theorem L1_has {p1 p2 p3 r : Int32} {M Mc : Mem} (h : f_X5_has p1 p2 p3 M = some (1, r, Mc)) : f_L_has p1 p2 p3 M = some (1, Mc) := by
  unfold f_L_has
  rw [h]
  rfl
theorem L0_save {p1 r : Int32} {M Mc : Mem} (h : f_X5_save p1 M = some (0, r, Mc)) : f_L_save p1 M = some (0, Mc) := by
  unfold f_L_save
  rw [h]
  rfl
theorem L1_save {p1 r : Int32} {M Mc : Mem} (h : f_X5_save p1 M = some (1, r, Mc)) : f_L_save p1 M = some (1, Mc) := by
  unfold f_L_save
  rw [h]
  rfl
