theorem tj_1 : ∀ w ∈ tables_1_1, w ∈ lw_tbl := fun w h => List.mem_append_right _ (List.mem_append_left _ h)
theorem tj_2 : ∀ w ∈ tables_1_2, w ∈ lw_tbl := fun w h => List.mem_append_right _ (List.mem_append_right _ (List.mem_append_left _ h))
theorem tj_3 : ∀ w ∈ tables_1_3, w ∈ lw_tbl := fun w h => List.mem_append_right _ (List.mem_append_right _ (List.mem_append_right _ (List.mem_append_left _ h)))
theorem tj_4 : ∀ w ∈ tables_1_4, w ∈ lw_tbl := fun w h => List.mem_append_right _ (List.mem_append_right _ (List.mem_append_right _ (List.mem_append_right _ (List.mem_append_left _ h))))
theorem tj_5 : ∀ w ∈ tables_1_5, w ∈ lw_tbl := fun w h => List.mem_append_right _ (List.mem_append_right _ (List.mem_append_right _ (List.mem_append_right _ (List.mem_append_right _ (List.mem_append_left _ h)))))
theorem tj_6 : ∀ w ∈ tables_1_6, w ∈ lw_tbl := fun w h => List.mem_append_right _ (List.mem_append_right _ (List.mem_append_right _ (List.mem_append_right _ (List.mem_append_right _ (List.mem_append_right _ (List.mem_append_left _ h))))))
theorem tj_7 : ∀ w ∈ tables_1_7, w ∈ lw_tbl := fun w h => List.mem_append_right _ (List.mem_append_right _ (List.mem_append_right _ (List.mem_append_right _ (List.mem_append_right _ (List.mem_append_right _ (List.mem_append_right _ (h)))))))
theorem sel_1 : ∀ q ∈ lw_privs_1, Cond.selects q.1.cls q.1 q.1 ∈ lw_tbl := fun q h => List.mem_append_left _ (List.mem_map.mpr ⟨q, List.mem_append_left _ h, rfl⟩)
theorem sel_2 : ∀ q ∈ lw_privs_2, Cond.selects q.1.cls q.1 q.1 ∈ lw_tbl := fun q h => List.mem_append_left _ (List.mem_map.mpr ⟨q, List.mem_append_right _ (List.mem_append_left _ h), rfl⟩)
theorem sel_3 : ∀ q ∈ lw_privs_3, Cond.selects q.1.cls q.1 q.1 ∈ lw_tbl := fun q h => List.mem_append_left _ (List.mem_map.mpr ⟨q, List.mem_append_right _ (List.mem_append_right _ (List.mem_append_left _ h)), rfl⟩)
theorem sel_4 : ∀ q ∈ lw_privs_4, Cond.selects q.1.cls q.1 q.1 ∈ lw_tbl := fun q h => List.mem_append_left _ (List.mem_map.mpr ⟨q, List.mem_append_right _ (List.mem_append_right _ (List.mem_append_right _ (List.mem_append_left _ h))), rfl⟩)
theorem sel_5 : ∀ q ∈ lw_privs_5, Cond.selects q.1.cls q.1 q.1 ∈ lw_tbl := fun q h => List.mem_append_left _ (List.mem_map.mpr ⟨q, List.mem_append_right _ (List.mem_append_right _ (List.mem_append_right _ (List.mem_append_right _ (List.mem_append_left _ h)))), rfl⟩)
theorem sel_6 : ∀ q ∈ lw_privs_6, Cond.selects q.1.cls q.1 q.1 ∈ lw_tbl := fun q h => List.mem_append_left _ (List.mem_map.mpr ⟨q, List.mem_append_right _ (List.mem_append_right _ (List.mem_append_right _ (List.mem_append_right _ (List.mem_append_right _ (List.mem_append_left _ h))))), rfl⟩)
theorem sel_7 : ∀ q ∈ lw_privs_7, Cond.selects q.1.cls q.1 q.1 ∈ lw_tbl := fun q h => List.mem_append_left _ (List.mem_map.mpr ⟨q, List.mem_append_right _ (List.mem_append_right _ (List.mem_append_right _ (List.mem_append_right _ (List.mem_append_right _ (List.mem_append_right _ (List.mem_append_left _ h)))))), rfl⟩)
theorem sel_8 : ∀ q ∈ lw_privs_8, Cond.selects q.1.cls q.1 q.1 ∈ lw_tbl := fun q h => List.mem_append_left _ (List.mem_map.mpr ⟨q, List.mem_append_right _ (List.mem_append_right _ (List.mem_append_right _ (List.mem_append_right _ (List.mem_append_right _ (List.mem_append_right _ (List.mem_append_right _ (h))))))), rfl⟩)
theorem uw_X0 : ∀ w ∈ u_ws RX0 TX0 3, w ∈ tb := by decide +kernel
theorem ck_X0 : ClsOK 0 RX0 TX0 3 tyX0 := ⟨rfl, by decide +kernel, by decide, uw_X0, tyX0_ok, nmX0⟩
theorem df_X0 : ∀ k, k < 3 → defaultValue (tyX0 k) = if zft 0 k = 0 then .int 0 else if zft 0 k = 1 then .null else .long 0 := by decide +kernel
theorem uw_X1 : ∀ w ∈ u_ws RX1 TX1 5, w ∈ tb := by decide +kernel
theorem ck_X1 : ClsOK 1 RX1 TX1 5 tyX1 := ⟨rfl, by decide +kernel, by decide, uw_X1, tyX1_ok, nmX1⟩
theorem df_X1 : ∀ k, k < 5 → defaultValue (tyX1 k) = if zft 1 k = 0 then .int 0 else if zft 1 k = 1 then .null else .long 0 := by decide +kernel
theorem uw_X2 : ∀ w ∈ u_ws RX2 TX2 8, w ∈ tb := by decide +kernel
theorem ck_X2 : ClsOK 2 RX2 TX2 8 tyX2 := ⟨rfl, by decide +kernel, by decide, uw_X2, tyX2_ok, nmX2⟩
theorem df_X2 : ∀ k, k < 8 → defaultValue (tyX2 k) = if zft 2 k = 0 then .int 0 else if zft 2 k = 1 then .null else .long 0 := by decide +kernel
theorem uw_X3 : ∀ w ∈ u_ws RX3 TX3 4, w ∈ tb := by decide +kernel
theorem ck_X3 : ClsOK 3 RX3 TX3 4 tyX3 := ⟨rfl, by decide +kernel, by decide, uw_X3, tyX3_ok, nmX3⟩
theorem df_X3 : ∀ k, k < 4 → defaultValue (tyX3 k) = if zft 3 k = 0 then .int 0 else if zft 3 k = 1 then .null else .long 0 := by decide +kernel
theorem uw_X4 : ∀ w ∈ u_ws RX4 TX4 1, w ∈ tb := by decide +kernel
theorem ck_X4 : ClsOK 4 RX4 TX4 1 tyX4 := ⟨rfl, by decide +kernel, by decide, uw_X4, tyX4_ok, nmX4⟩
theorem df_X4 : ∀ k, k < 1 → defaultValue (tyX4 k) = if zft 4 k = 0 then .int 0 else if zft 4 k = 1 then .null else .long 0 := by decide +kernel
theorem uw_X5 : ∀ w ∈ u_ws RX5 TX5 4, w ∈ tb := by decide +kernel
theorem ck_X5 : ClsOK 5 RX5 TX5 4 tyX5 := ⟨rfl, by decide +kernel, by decide, uw_X5, tyX5_ok, nmX5⟩
theorem df_X5 : ∀ k, k < 4 → defaultValue (tyX5 k) = if zft 5 k = 0 then .int 0 else if zft 5 k = 1 then .null else .long 0 := by decide +kernel
theorem uw_X6 : ∀ w ∈ u_ws RX6 TX6 6, w ∈ tb := by decide +kernel
theorem ck_X6 : ClsOK 6 RX6 TX6 6 tyX6 := ⟨rfl, by decide +kernel, by decide, uw_X6, tyX6_ok, nmX6⟩
theorem df_X6 : ∀ k, k < 6 → defaultValue (tyX6 k) = if zft 6 k = 0 then .int 0 else if zft 6 k = 1 then .null else .long 0 := by decide +kernel
theorem uw_X7 : ∀ w ∈ u_ws RX7 TX7 11, w ∈ tb := by decide +kernel
theorem ck_X7 : ClsOK 7 RX7 TX7 11 tyX7 := ⟨rfl, by decide +kernel, by decide, uw_X7, tyX7_ok, nmX7⟩
theorem df_X7 : ∀ k, k < 11 → defaultValue (tyX7 k) = if zft 7 k = 0 then .int 0 else if zft 7 k = 1 then .null else .long 0 := by decide +kernel
theorem uw_X8 : ∀ w ∈ u_ws RX8 TX8 1, w ∈ tb := by decide +kernel
theorem ck_X8 : ClsOK 8 RX8 TX8 1 tyX8 := ⟨rfl, by decide +kernel, by decide, uw_X8, tyX8_ok, nmX8⟩
theorem df_X8 : ∀ k, k < 1 → defaultValue (tyX8 k) = if zft 8 k = 0 then .int 0 else if zft 8 k = 1 then .null else .long 0 := by decide +kernel
theorem uw_X9 : ∀ w ∈ u_ws RX9 TX9 12, w ∈ tb := by decide +kernel
theorem ck_X9 : ClsOK 9 RX9 TX9 12 tyX9 := ⟨rfl, by decide +kernel, by decide, uw_X9, tyX9_ok, nmX9⟩
theorem df_X9 : ∀ k, k < 12 → defaultValue (tyX9 k) = if zft 9 k = 0 then .int 0 else if zft 9 k = 1 then .null else .long 0 := by decide +kernel
theorem uw_X10 : ∀ w ∈ u_ws RX10 TX10 13, w ∈ tb := by decide +kernel
theorem ck_X10 : ClsOK 10 RX10 TX10 13 tyX10 := ⟨rfl, by decide +kernel, by decide, uw_X10, tyX10_ok, nmX10⟩
theorem df_X10 : ∀ k, k < 13 → defaultValue (tyX10 k) = if zft 10 k = 0 then .int 0 else if zft 10 k = 1 then .null else .long 0 := by decide +kernel
theorem uw_X11 : ∀ w ∈ u_ws RX11 TX11 36, w ∈ tb := by decide +kernel
theorem ck_X11 : ClsOK 11 RX11 TX11 36 tyX11 := ⟨rfl, by decide +kernel, by decide, uw_X11, tyX11_ok, nmX11⟩
theorem df_X11 : ∀ k, k < 36 → defaultValue (tyX11 k) = if zft 11 k = 0 then .int 0 else if zft 11 k = 1 then .null else .long 0 := by decide +kernel
