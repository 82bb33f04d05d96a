set_option maxRecDepth 20000 in
theorem rL_cut : rL_law = rL_0 ++ (rL_1 ++ (rL_2 ++ (rL_3 ++ (rL_4 ++ (rL_5 ++ (rL_6 ++ (rL_7 ++ (rL_8 ++ (rL_9 ++ (rL_10 ++ (rL_11 ++ (rL_12 ++ (rL_13 ++ (rL_14 ++ (rL_15 ++ (rL_16 ++ (rL_17))))))))))))))))) := rfl
theorem dk_L_law : ∀ e ∈ rL_law, decode cL_law e.1 = .ok (e.2.1, px_ln e.2) := by
  rw [rL_cut]
  exact List.forall_mem_append.mpr ⟨dkL_0, List.forall_mem_append.mpr ⟨dkL_1, List.forall_mem_append.mpr ⟨dkL_2, List.forall_mem_append.mpr ⟨dkL_3, List.forall_mem_append.mpr ⟨dkL_4, List.forall_mem_append.mpr ⟨dkL_5, List.forall_mem_append.mpr ⟨dkL_6, List.forall_mem_append.mpr ⟨dkL_7, List.forall_mem_append.mpr ⟨dkL_8, List.forall_mem_append.mpr ⟨dkL_9, List.forall_mem_append.mpr ⟨dkL_10, List.forall_mem_append.mpr ⟨dkL_11, List.forall_mem_append.mpr ⟨dkL_12, List.forall_mem_append.mpr ⟨dkL_13, List.forall_mem_append.mpr ⟨dkL_14, List.forall_mem_append.mpr ⟨dkL_15, List.forall_mem_append.mpr ⟨dkL_16, dkL_17⟩⟩⟩⟩⟩⟩⟩⟩⟩⟩⟩⟩⟩⟩⟩⟩⟩
theorem bk_L_law : ∀ e ∈ rL_law, px_okB mL_law e.1 e.2 = true := by decide +kernel
