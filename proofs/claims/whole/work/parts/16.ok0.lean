/-! THE BYTES OF EVERY METHOD ARE ITS BLOCKS -/
set_option maxRecDepth 100000 in
theorem ok_0 : okM 0 = true := by decide +kernel
set_option maxRecDepth 100000 in
theorem ok_1 : okM 1 = true := by decide +kernel
set_option maxRecDepth 100000 in
theorem ok_2 : okM 2 = true := by decide +kernel
set_option maxRecDepth 100000 in
theorem ok_3 : okM 3 = true := by decide +kernel
set_option maxRecDepth 100000 in
theorem ok_4 : okM 4 = true := by decide +kernel
set_option maxRecDepth 100000 in
theorem ok_5 : okM 5 = true := by decide +kernel
set_option maxRecDepth 100000 in
theorem ok_6 : okM 6 = true := by decide +kernel
set_option maxRecDepth 100000 in
theorem ok_7 : okM 7 = true := by decide +kernel
set_option maxRecDepth 100000 in
theorem ok_8 : okM 8 = true := by decide +kernel
set_option maxRecDepth 100000 in
theorem ok_9 : okM 9 = true := by decide +kernel
set_option maxRecDepth 100000 in
theorem ok_10 : okM 10 = true := by decide +kernel
set_option maxRecDepth 100000 in
theorem ok_11 : okM 11 = true := by decide +kernel
set_option maxRecDepth 100000 in
theorem ok_12 : okM 12 = true := by decide +kernel
set_option maxRecDepth 100000 in
theorem ok_13 : okM 13 = true := by decide +kernel
set_option maxRecDepth 100000 in
theorem ok_14 : okM 14 = true := by decide +kernel
set_option maxRecDepth 100000 in
theorem ok_15 : okM 15 = true := by decide +kernel
set_option maxRecDepth 100000 in
theorem ok_16 : okM 16 = true := by decide +kernel
set_option maxRecDepth 100000 in
theorem ok_17 : okM 17 = true := by decide +kernel
set_option maxRecDepth 100000 in
theorem ok_18 : okM 18 = true := by decide +kernel
set_option maxRecDepth 100000 in
theorem ok_19 : okM 19 = true := by decide +kernel
set_option maxRecDepth 100000 in
theorem ok_20 : okM 20 = true := by decide +kernel
set_option maxRecDepth 100000 in
theorem ok_21 : okM 21 = true := by decide +kernel
set_option maxRecDepth 100000 in
theorem ok_22 : okM 22 = true := by decide +kernel
set_option maxRecDepth 100000 in
theorem ok_23 : okM 23 = true := by decide +kernel
set_option maxRecDepth 100000 in
theorem ok_24 : okM 24 = true := by decide +kernel
set_option maxRecDepth 100000 in
theorem ok_25 : okM 25 = true := by decide +kernel
set_option maxRecDepth 100000 in
theorem ok_26 : okM 26 = true := by decide +kernel
set_option maxRecDepth 100000 in
theorem ok_27 : okM 27 = true := by decide +kernel
set_option maxRecDepth 100000 in
theorem ok_28 : okM 28 = true := by decide +kernel
set_option maxRecDepth 100000 in
theorem ok_29 : okM 29 = true := by decide +kernel
set_option maxRecDepth 100000 in
theorem ok_30 : okM 30 = true := by decide +kernel
set_option maxRecDepth 100000 in
theorem ok_31 : okM 31 = true := by decide +kernel
set_option maxRecDepth 100000 in
theorem ok_32 : okM 32 = true := by decide +kernel
set_option maxRecDepth 100000 in
theorem ok_33 : okM 33 = true := by decide +kernel
set_option maxRecDepth 100000 in
theorem ok_34 : okM 34 = true := by decide +kernel
set_option maxRecDepth 100000 in
theorem ok_35 : okM 35 = true := by decide +kernel
set_option maxRecDepth 100000 in
theorem ok_36 : okM 36 = true := by decide +kernel
set_option maxRecDepth 100000 in
theorem ok_37 : okM 37 = true := by decide +kernel
set_option maxRecDepth 100000 in
theorem ok_38 : okM 38 = true := by decide +kernel
set_option maxRecDepth 100000 in
theorem ok_39 : okM 39 = true := by decide +kernel
set_option maxRecDepth 100000 in
theorem ok_40 : okM 40 = true := by decide +kernel
set_option maxRecDepth 100000 in
theorem ok_41 : okM 41 = true := by decide +kernel
set_option maxRecDepth 100000 in
theorem ok_42 : okM 42 = true := by decide +kernel
set_option maxRecDepth 100000 in
theorem ok_43 : okM 43 = true := by decide +kernel
set_option maxRecDepth 100000 in
theorem ok_44 : okM 44 = true := by decide +kernel
set_option maxRecDepth 100000 in
theorem ok_45 : okM 45 = true := by decide +kernel
set_option maxRecDepth 100000 in
theorem ok_46 : okM 46 = true := by decide +kernel
set_option maxRecDepth 100000 in
theorem ok_47 : okM 47 = true := by decide +kernel
set_option maxRecDepth 100000 in
theorem ok_48 : okM 48 = true := by decide +kernel
set_option maxRecDepth 100000 in
theorem ok_49 : okM 49 = true := by decide +kernel
set_option maxRecDepth 100000 in
theorem ok_50 : okM 50 = true := by decide +kernel
set_option maxRecDepth 100000 in
theorem ok_51 : okM 51 = true := by decide +kernel
set_option maxRecDepth 100000 in
theorem ok_52 : okM 52 = true := by decide +kernel
set_option maxRecDepth 100000 in
theorem ok_53 : okM 53 = true := by decide +kernel
set_option maxRecDepth 100000 in
theorem ok_54 : okM 54 = true := by decide +kernel
set_option maxRecDepth 100000 in
theorem ok_55 : okM 55 = true := by decide +kernel
set_option maxRecDepth 100000 in
theorem ok_56 : okM 56 = true := by decide +kernel
set_option maxRecDepth 100000 in
theorem ok_57 : okM 57 = true := by decide +kernel
set_option maxRecDepth 100000 in
theorem ok_58 : okM 58 = true := by decide +kernel
set_option maxRecDepth 100000 in
theorem ok_59 : okM 59 = true := by decide +kernel
theorem okA_0 : ∀ m ∈ [0, 1, 2, 3, 4, 5, 6, 7, 8, 9, 10, 11, 12, 13, 14, 15, 16, 17, 18, 19, 20, 21, 22, 23, 24, 25, 26, 27, 28, 29, 30, 31, 32, 33, 34, 35, 36, 37, 38, 39, 40, 41, 42, 43, 44, 45, 46, 47, 48, 49, 50, 51, 52, 53, 54, 55, 56, 57, 58, 59], okM m = true := List.forall_mem_cons.mpr ⟨ok_0, List.forall_mem_cons.mpr ⟨ok_1, List.forall_mem_cons.mpr ⟨ok_2, List.forall_mem_cons.mpr ⟨ok_3, List.forall_mem_cons.mpr ⟨ok_4, List.forall_mem_cons.mpr ⟨ok_5, List.forall_mem_cons.mpr ⟨ok_6, List.forall_mem_cons.mpr ⟨ok_7, List.forall_mem_cons.mpr ⟨ok_8, List.forall_mem_cons.mpr ⟨ok_9, List.forall_mem_cons.mpr ⟨ok_10, List.forall_mem_cons.mpr ⟨ok_11, List.forall_mem_cons.mpr ⟨ok_12, List.forall_mem_cons.mpr ⟨ok_13, List.forall_mem_cons.mpr ⟨ok_14, List.forall_mem_cons.mpr ⟨ok_15, List.forall_mem_cons.mpr ⟨ok_16, List.forall_mem_cons.mpr ⟨ok_17, List.forall_mem_cons.mpr ⟨ok_18, List.forall_mem_cons.mpr ⟨ok_19, List.forall_mem_cons.mpr ⟨ok_20, List.forall_mem_cons.mpr ⟨ok_21, List.forall_mem_cons.mpr ⟨ok_22, List.forall_mem_cons.mpr ⟨ok_23, List.forall_mem_cons.mpr ⟨ok_24, List.forall_mem_cons.mpr ⟨ok_25, List.forall_mem_cons.mpr ⟨ok_26, List.forall_mem_cons.mpr ⟨ok_27, List.forall_mem_cons.mpr ⟨ok_28, List.forall_mem_cons.mpr ⟨ok_29, List.forall_mem_cons.mpr ⟨ok_30, List.forall_mem_cons.mpr ⟨ok_31, List.forall_mem_cons.mpr ⟨ok_32, List.forall_mem_cons.mpr ⟨ok_33, List.forall_mem_cons.mpr ⟨ok_34, List.forall_mem_cons.mpr ⟨ok_35, List.forall_mem_cons.mpr ⟨ok_36, List.forall_mem_cons.mpr ⟨ok_37, List.forall_mem_cons.mpr ⟨ok_38, List.forall_mem_cons.mpr ⟨ok_39, List.forall_mem_cons.mpr ⟨ok_40, List.forall_mem_cons.mpr ⟨ok_41, List.forall_mem_cons.mpr ⟨ok_42, List.forall_mem_cons.mpr ⟨ok_43, List.forall_mem_cons.mpr ⟨ok_44, List.forall_mem_cons.mpr ⟨ok_45, List.forall_mem_cons.mpr ⟨ok_46, List.forall_mem_cons.mpr ⟨ok_47, List.forall_mem_cons.mpr ⟨ok_48, List.forall_mem_cons.mpr ⟨ok_49, List.forall_mem_cons.mpr ⟨ok_50, List.forall_mem_cons.mpr ⟨ok_51, List.forall_mem_cons.mpr ⟨ok_52, List.forall_mem_cons.mpr ⟨ok_53, List.forall_mem_cons.mpr ⟨ok_54, List.forall_mem_cons.mpr ⟨ok_55, List.forall_mem_cons.mpr ⟨ok_56, List.forall_mem_cons.mpr ⟨ok_57, List.forall_mem_cons.mpr ⟨ok_58, List.forall_mem_cons.mpr ⟨ok_59, (fun _ h => absurd h List.not_mem_nil)⟩⟩⟩⟩⟩⟩⟩⟩⟩⟩⟩⟩⟩⟩⟩⟩⟩⟩⟩⟩⟩⟩⟩⟩⟩⟩⟩⟩⟩⟩⟩⟩⟩⟩⟩⟩⟩⟩⟩⟩⟩⟩⟩⟩⟩⟩⟩⟩⟩⟩⟩⟩⟩⟩⟩⟩⟩⟩⟩⟩
