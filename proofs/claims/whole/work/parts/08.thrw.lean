set_option maxRecDepth 20000 in
theorem m_tgI : ∀ w ∈ (vx_atS RX8 67 "java/lang/IllegalStateException" ["java/lang/RuntimeException", "java/lang/Exception"]).filter goodWord, w ∈ lw_tbl := by decide +kernel
theorem m_tnI : ∀ w ∈ (vx_atS RX8 67 "java/lang/IllegalStateException" ["java/lang/RuntimeException", "java/lang/Exception"]).filter (fun w => !goodWord w), w ∈ (Cond.castable "java/lang/IllegalStateException" "java/lang/IllegalStateException" :: m_DS.map Cond.declares) := by decide +kernel
theorem m_toI (ik : Nat) : ∀ w ∈ Cond.classLink RX8 ik "java/lang/IllegalStateException" :: Cond.initialized "java/lang/IllegalStateException" :: vx_atS RX8 67 "java/lang/IllegalStateException" ["java/lang/RuntimeException", "java/lang/Exception"], vx_ot w = true := by
  refine List.forall_mem_cons.mpr ⟨rfl, List.forall_mem_cons.mpr ⟨rfl, ?_⟩⟩
  decide +kernel
set_option maxRecDepth 20000 in
theorem m_tgB : ∀ w ∈ (vx_atS RX8 78 "java/lang/IndexOutOfBoundsException" ["java/lang/RuntimeException", "java/lang/Exception"]).filter goodWord, w ∈ lw_tbl := by decide +kernel
theorem m_tnB : ∀ w ∈ (vx_atS RX8 78 "java/lang/IndexOutOfBoundsException" ["java/lang/RuntimeException", "java/lang/Exception"]).filter (fun w => !goodWord w), w ∈ (Cond.castable "java/lang/IndexOutOfBoundsException" "java/lang/IndexOutOfBoundsException" :: m_DS.map Cond.declares) := by decide +kernel
theorem m_toB (ik : Nat) : ∀ w ∈ Cond.classLink RX8 ik "java/lang/IndexOutOfBoundsException" :: Cond.initialized "java/lang/IndexOutOfBoundsException" :: vx_atS RX8 78 "java/lang/IndexOutOfBoundsException" ["java/lang/RuntimeException", "java/lang/Exception"], vx_ot w = true := by
  refine List.forall_mem_cons.mpr ⟨rfl, List.forall_mem_cons.mpr ⟨rfl, ?_⟩⟩
  decide +kernel
set_option maxRecDepth 20000 in
theorem m_tgR : ∀ w ∈ (vx_atS RX3 225 "java/lang/IllegalArgumentException" ["java/lang/RuntimeException", "java/lang/Exception"]).filter goodWord, w ∈ lw_tbl := by decide +kernel
theorem m_tnR : ∀ w ∈ (vx_atS RX3 225 "java/lang/IllegalArgumentException" ["java/lang/RuntimeException", "java/lang/Exception"]).filter (fun w => !goodWord w), w ∈ (Cond.castable "java/lang/IllegalArgumentException" "java/lang/IllegalArgumentException" :: m_DS.map Cond.declares) := by decide +kernel
theorem m_toR (ik : Nat) : ∀ w ∈ Cond.classLink RX3 ik "java/lang/IllegalArgumentException" :: Cond.initialized "java/lang/IllegalArgumentException" :: vx_atS RX3 225 "java/lang/IllegalArgumentException" ["java/lang/RuntimeException", "java/lang/Exception"], vx_ot w = true := by
  refine List.forall_mem_cons.mpr ⟨rfl, List.forall_mem_cons.mpr ⟨rfl, ?_⟩⟩
  decide +kernel
set_option maxRecDepth 20000 in
theorem m_tgA : ∀ w ∈ (vx_atS RX8 131 "java/lang/IllegalArgumentException" ["java/lang/RuntimeException", "java/lang/Exception"]).filter goodWord, w ∈ lw_tbl := by decide +kernel
theorem m_tnA : ∀ w ∈ (vx_atS RX8 131 "java/lang/IllegalArgumentException" ["java/lang/RuntimeException", "java/lang/Exception"]).filter (fun w => !goodWord w), w ∈ (Cond.castable "java/lang/IllegalArgumentException" "java/lang/IllegalArgumentException" :: m_DS.map Cond.declares) := by decide +kernel
theorem m_toA (ik : Nat) : ∀ w ∈ Cond.classLink RX8 ik "java/lang/IllegalArgumentException" :: Cond.initialized "java/lang/IllegalArgumentException" :: vx_atS RX8 131 "java/lang/IllegalArgumentException" ["java/lang/RuntimeException", "java/lang/Exception"], vx_ot w = true := by
  refine List.forall_mem_cons.mpr ⟨rfl, List.forall_mem_cons.mpr ⟨rfl, ?_⟩⟩
  decide +kernel
set_option maxRecDepth 20000 in
theorem m_tgN : ∀ w ∈ (m_nS RX8 224 "java/util/NoSuchElementException" 13 prog_27_method_4_code "java/lang/RuntimeException" ["java/lang/Exception"]).filter goodWord, w ∈ lw_tbl := by decide +kernel
theorem m_tnN : ∀ w ∈ (m_nS RX8 224 "java/util/NoSuchElementException" 13 prog_27_method_4_code "java/lang/RuntimeException" ["java/lang/Exception"]).filter (fun w => !goodWord w), w ∈ (Cond.castable "java/util/NoSuchElementException" "java/util/NoSuchElementException" :: m_DS.map Cond.declares) := by decide +kernel
theorem m_toN (ik : Nat) : ∀ w ∈ Cond.classLink RX8 ik "java/util/NoSuchElementException" :: Cond.initialized "java/util/NoSuchElementException" :: m_nS RX8 224 "java/util/NoSuchElementException" 13 prog_27_method_4_code "java/lang/RuntimeException" ["java/lang/Exception"], vx_ot w = true := by
  refine List.forall_mem_cons.mpr ⟨rfl, List.forall_mem_cons.mpr ⟨rfl, ?_⟩⟩
  decide +kernel
