/-! THE BYTES OF EVERY METHOD ARE ITS BLOCKS -/
set_option maxRecDepth 100000 in
theorem ok_60 : okM 60 = true := by decide +kernel
set_option maxRecDepth 100000 in
theorem ok_61 : okM 61 = true := by decide +kernel
set_option maxRecDepth 100000 in
theorem ok_62 : okM 62 = true := by decide +kernel
set_option maxRecDepth 100000 in
theorem ok_63 : okM 63 = true := by decide +kernel
set_option maxRecDepth 100000 in
theorem ok_64 : okM 64 = true := by decide +kernel
set_option maxRecDepth 100000 in
theorem ok_65 : okM 65 = true := by decide +kernel
set_option maxRecDepth 100000 in
theorem ok_66 : okM 66 = true := by decide +kernel
set_option maxRecDepth 100000 in
theorem ok_67 : okM 67 = true := by decide +kernel
set_option maxRecDepth 100000 in
theorem ok_68 : okM 68 = true := by decide +kernel
set_option maxRecDepth 100000 in
theorem ok_69 : okM 69 = true := by decide +kernel
set_option maxRecDepth 100000 in
theorem ok_70 : okM 70 = true := by decide +kernel
set_option maxRecDepth 100000 in
theorem ok_71 : okM 71 = true := by decide +kernel
set_option maxRecDepth 100000 in
theorem ok_72 : okM 72 = true := by decide +kernel
set_option maxRecDepth 100000 in
theorem ok_73 : okM 73 = true := by decide +kernel
set_option maxRecDepth 100000 in
theorem ok_74 : okM 74 = true := by decide +kernel
set_option maxRecDepth 100000 in
theorem ok_75 : okM 75 = true := by decide +kernel
set_option maxRecDepth 100000 in
theorem ok_76 : okM 76 = true := by decide +kernel
set_option maxRecDepth 100000 in
theorem ok_77 : okM 77 = true := by decide +kernel
set_option maxRecDepth 100000 in
theorem ok_78 : okM 78 = true := by decide +kernel
set_option maxRecDepth 100000 in
theorem ok_79 : okM 79 = true := by decide +kernel
set_option maxRecDepth 100000 in
theorem ok_80 : okM 80 = true := by decide +kernel
set_option maxRecDepth 100000 in
theorem ok_81 : okM 81 = true := by decide +kernel
set_option maxRecDepth 100000 in
theorem ok_82 : okM 82 = true := by decide +kernel
set_option maxRecDepth 100000 in
theorem ok_83 : okM 83 = true := by decide +kernel
set_option maxRecDepth 100000 in
theorem ok_84 : okM 84 = true := by decide +kernel
set_option maxRecDepth 100000 in
theorem ok_85 : okM 85 = true := by decide +kernel
set_option maxRecDepth 100000 in
theorem ok_86 : okM 86 = true := by decide +kernel
set_option maxRecDepth 100000 in
theorem ok_87 : okM 87 = true := by decide +kernel
set_option maxRecDepth 100000 in
theorem ok_88 : okM 88 = true := by decide +kernel
set_option maxRecDepth 100000 in
theorem ok_89 : okM 89 = true := by decide +kernel
set_option maxRecDepth 100000 in
theorem ok_90 : okM 90 = true := by decide +kernel
set_option maxRecDepth 100000 in
theorem ok_91 : okM 91 = true := by decide +kernel
set_option maxRecDepth 100000 in
theorem ok_92 : okM 92 = true := by decide +kernel
set_option maxRecDepth 100000 in
theorem ok_93 : okM 93 = true := by decide +kernel
set_option maxRecDepth 100000 in
theorem ok_94 : okM 94 = true := by decide +kernel
set_option maxRecDepth 100000 in
theorem ok_95 : okM 95 = true := by decide +kernel
set_option maxRecDepth 100000 in
theorem ok_96 : okM 96 = true := by decide +kernel
set_option maxRecDepth 100000 in
theorem ok_97 : okM 97 = true := by decide +kernel
set_option maxRecDepth 100000 in
theorem ok_98 : okM 98 = true := by decide +kernel
set_option maxRecDepth 100000 in
theorem ok_99 : okM 99 = true := by decide +kernel
set_option maxRecDepth 100000 in
theorem ok_100 : okM 100 = true := by decide +kernel
set_option maxRecDepth 100000 in
theorem ok_101 : okM 101 = true := by decide +kernel
set_option maxRecDepth 100000 in
theorem ok_102 : okM 102 = true := by decide +kernel
set_option maxRecDepth 100000 in
theorem ok_103 : okM 103 = true := by decide +kernel
set_option maxRecDepth 100000 in
theorem ok_104 : okM 104 = true := by decide +kernel
set_option maxRecDepth 100000 in
theorem ok_105 : okM 105 = true := by decide +kernel
set_option maxRecDepth 100000 in
theorem ok_106 : okM 106 = true := by decide +kernel
set_option maxRecDepth 100000 in
theorem ok_107 : okM 107 = true := by decide +kernel
set_option maxRecDepth 100000 in
theorem ok_108 : okM 108 = true := by decide +kernel
set_option maxRecDepth 100000 in
theorem ok_109 : okM 109 = true := by decide +kernel
set_option maxRecDepth 100000 in
theorem ok_110 : okM 110 = true := by decide +kernel
set_option maxRecDepth 100000 in
theorem ok_111 : okM 111 = true := by decide +kernel
set_option maxRecDepth 100000 in
theorem ok_112 : okM 112 = true := by decide +kernel
set_option maxRecDepth 100000 in
theorem ok_113 : okM 113 = true := by decide +kernel
set_option maxRecDepth 100000 in
theorem ok_114 : okM 114 = true := by decide +kernel
set_option maxRecDepth 100000 in
theorem ok_115 : okM 115 = true := by decide +kernel
set_option maxRecDepth 100000 in
theorem ok_116 : okM 116 = true := by decide +kernel
set_option maxRecDepth 100000 in
theorem ok_117 : okM 117 = true := by decide +kernel
set_option maxRecDepth 100000 in
theorem ok_118 : okM 118 = true := by decide +kernel
set_option maxRecDepth 100000 in
theorem ok_119 : okM 119 = true := by decide +kernel
theorem okA_1 : ∀ m ∈ [60, 61, 62, 63, 64, 65, 66, 67, 68, 69, 70, 71, 72, 73, 74, 75, 76, 77, 78, 79, 80, 81, 82, 83, 84, 85, 86, 87, 88, 89, 90, 91, 92, 93, 94, 95, 96, 97, 98, 99, 100, 101, 102, 103, 104, 105, 106, 107, 108, 109, 110, 111, 112, 113, 114, 115, 116, 117, 118, 119], okM m = true := List.forall_mem_cons.mpr ⟨ok_60, List.forall_mem_cons.mpr ⟨ok_61, List.forall_mem_cons.mpr ⟨ok_62, List.forall_mem_cons.mpr ⟨ok_63, List.forall_mem_cons.mpr ⟨ok_64, List.forall_mem_cons.mpr ⟨ok_65, List.forall_mem_cons.mpr ⟨ok_66, List.forall_mem_cons.mpr ⟨ok_67, List.forall_mem_cons.mpr ⟨ok_68, List.forall_mem_cons.mpr ⟨ok_69, List.forall_mem_cons.mpr ⟨ok_70, List.forall_mem_cons.mpr ⟨ok_71, List.forall_mem_cons.mpr ⟨ok_72, List.forall_mem_cons.mpr ⟨ok_73, List.forall_mem_cons.mpr ⟨ok_74, List.forall_mem_cons.mpr ⟨ok_75, List.forall_mem_cons.mpr ⟨ok_76, List.forall_mem_cons.mpr ⟨ok_77, List.forall_mem_cons.mpr ⟨ok_78, List.forall_mem_cons.mpr ⟨ok_79, List.forall_mem_cons.mpr ⟨ok_80, List.forall_mem_cons.mpr ⟨ok_81, List.forall_mem_cons.mpr ⟨ok_82, List.forall_mem_cons.mpr ⟨ok_83, List.forall_mem_cons.mpr ⟨ok_84, List.forall_mem_cons.mpr ⟨ok_85, List.forall_mem_cons.mpr ⟨ok_86, List.forall_mem_cons.mpr ⟨ok_87, List.forall_mem_cons.mpr ⟨ok_88, List.forall_mem_cons.mpr ⟨ok_89, List.forall_mem_cons.mpr ⟨ok_90, List.forall_mem_cons.mpr ⟨ok_91, List.forall_mem_cons.mpr ⟨ok_92, List.forall_mem_cons.mpr ⟨ok_93, List.forall_mem_cons.mpr ⟨ok_94, List.forall_mem_cons.mpr ⟨ok_95, List.forall_mem_cons.mpr ⟨ok_96, List.forall_mem_cons.mpr ⟨ok_97, List.forall_mem_cons.mpr ⟨ok_98, List.forall_mem_cons.mpr ⟨ok_99, List.forall_mem_cons.mpr ⟨ok_100, List.forall_mem_cons.mpr ⟨ok_101, List.forall_mem_cons.mpr ⟨ok_102, List.forall_mem_cons.mpr ⟨ok_103, List.forall_mem_cons.mpr ⟨ok_104, List.forall_mem_cons.mpr ⟨ok_105, List.forall_mem_cons.mpr ⟨ok_106, List.forall_mem_cons.mpr ⟨ok_107, List.forall_mem_cons.mpr ⟨ok_108, List.forall_mem_cons.mpr ⟨ok_109, List.forall_mem_cons.mpr ⟨ok_110, List.forall_mem_cons.mpr ⟨ok_111, List.forall_mem_cons.mpr ⟨ok_112, List.forall_mem_cons.mpr ⟨ok_113, List.forall_mem_cons.mpr ⟨ok_114, List.forall_mem_cons.mpr ⟨ok_115, List.forall_mem_cons.mpr ⟨ok_116, List.forall_mem_cons.mpr ⟨ok_117, List.forall_mem_cons.mpr ⟨ok_118, List.forall_mem_cons.mpr ⟨ok_119, (fun _ h => absurd h List.not_mem_nil)⟩⟩⟩⟩⟩⟩⟩⟩⟩⟩⟩⟩⟩⟩⟩⟩⟩⟩⟩⟩⟩⟩⟩⟩⟩⟩⟩⟩⟩⟩⟩⟩⟩⟩⟩⟩⟩⟩⟩⟩⟩⟩⟩⟩⟩⟩⟩⟩⟩⟩⟩⟩⟩⟩⟩⟩⟩⟩⟩⟩
