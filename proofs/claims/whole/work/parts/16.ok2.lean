/-! THE BYTES OF EVERY METHOD ARE ITS BLOCKS -/
set_option maxRecDepth 100000 in
theorem ok_120 : okM 120 = true := by decide +kernel
set_option maxRecDepth 100000 in
theorem ok_121 : okM 121 = true := by decide +kernel
set_option maxRecDepth 100000 in
theorem ok_122 : okM 122 = true := by decide +kernel
set_option maxRecDepth 100000 in
theorem ok_123 : okM 123 = true := by decide +kernel
set_option maxRecDepth 100000 in
theorem ok_124 : okM 124 = true := by decide +kernel
set_option maxRecDepth 100000 in
theorem ok_125 : okM 125 = true := by decide +kernel
set_option maxRecDepth 100000 in
theorem ok_126 : okM 126 = true := by decide +kernel
set_option maxRecDepth 100000 in
theorem ok_127 : okM 127 = true := by decide +kernel
set_option maxRecDepth 100000 in
theorem ok_128 : okM 128 = true := by decide +kernel
set_option maxRecDepth 100000 in
theorem ok_129 : okM 129 = true := by decide +kernel
set_option maxRecDepth 100000 in
theorem ok_130 : okM 130 = true := by decide +kernel
set_option maxRecDepth 100000 in
theorem ok_131 : okM 131 = true := by decide +kernel
set_option maxRecDepth 100000 in
theorem ok_132 : okM 132 = true := by decide +kernel
set_option maxRecDepth 100000 in
theorem ok_133 : okM 133 = true := by decide +kernel
set_option maxRecDepth 100000 in
theorem ok_134 : okM 134 = true := by decide +kernel
set_option maxRecDepth 100000 in
theorem ok_135 : okM 135 = true := by decide +kernel
set_option maxRecDepth 100000 in
theorem ok_136 : okM 136 = true := by decide +kernel
set_option maxRecDepth 100000 in
theorem ok_137 : okM 137 = true := by decide +kernel
set_option maxRecDepth 100000 in
theorem ok_138 : okM 138 = true := by decide +kernel
set_option maxRecDepth 100000 in
theorem ok_139 : okM 139 = true := by decide +kernel
set_option maxRecDepth 100000 in
theorem ok_140 : okM 140 = true := by decide +kernel
set_option maxRecDepth 100000 in
theorem ok_141 : okM 141 = true := by decide +kernel
set_option maxRecDepth 100000 in
theorem ok_142 : okM 142 = true := by decide +kernel
set_option maxRecDepth 100000 in
theorem ok_143 : okM 143 = true := by decide +kernel
set_option maxRecDepth 100000 in
theorem ok_144 : okM 144 = true := by decide +kernel
set_option maxRecDepth 100000 in
theorem ok_145 : okM 145 = true := by decide +kernel
set_option maxRecDepth 100000 in
theorem ok_146 : okM 146 = true := by decide +kernel
set_option maxRecDepth 100000 in
theorem ok_147 : okM 147 = true := by decide +kernel
set_option maxRecDepth 100000 in
theorem ok_148 : okM 148 = true := by decide +kernel
set_option maxRecDepth 100000 in
theorem ok_149 : okM 149 = true := by decide +kernel
set_option maxRecDepth 100000 in
theorem ok_150 : okM 150 = true := by decide +kernel
set_option maxRecDepth 100000 in
theorem ok_151 : okM 151 = true := by decide +kernel
set_option maxRecDepth 100000 in
theorem ok_152 : okM 152 = true := by decide +kernel
set_option maxRecDepth 100000 in
theorem ok_153 : okM 153 = true := by decide +kernel
set_option maxRecDepth 100000 in
theorem ok_154 : okM 154 = true := by decide +kernel
set_option maxRecDepth 100000 in
theorem ok_155 : okM 155 = true := by decide +kernel
set_option maxRecDepth 100000 in
theorem ok_156 : okM 156 = true := by decide +kernel
set_option maxRecDepth 100000 in
theorem ok_157 : okM 157 = true := by decide +kernel
set_option maxRecDepth 100000 in
theorem ok_158 : okM 158 = true := by decide +kernel
set_option maxRecDepth 100000 in
theorem ok_159 : okM 159 = true := by decide +kernel
set_option maxRecDepth 100000 in
theorem ok_160 : okM 160 = true := by decide +kernel
set_option maxRecDepth 100000 in
theorem ok_161 : okM 161 = true := by decide +kernel
set_option maxRecDepth 100000 in
theorem ok_162 : okM 162 = true := by decide +kernel
set_option maxRecDepth 100000 in
theorem ok_163 : okM 163 = true := by decide +kernel
set_option maxRecDepth 100000 in
theorem ok_164 : okM 164 = true := by decide +kernel
set_option maxRecDepth 100000 in
theorem ok_165 : okM 165 = true := by decide +kernel
set_option maxRecDepth 100000 in
theorem ok_166 : okM 166 = true := by decide +kernel
set_option maxRecDepth 100000 in
theorem ok_167 : okM 167 = true := by decide +kernel
set_option maxRecDepth 100000 in
theorem ok_168 : okM 168 = true := by decide +kernel
set_option maxRecDepth 100000 in
theorem ok_169 : okM 169 = true := by decide +kernel
theorem okA_2 : ∀ m ∈ [120, 121, 122, 123, 124, 125, 126, 127, 128, 129, 130, 131, 132, 133, 134, 135, 136, 137, 138, 139, 140, 141, 142, 143, 144, 145, 146, 147, 148, 149, 150, 151, 152, 153, 154, 155, 156, 157, 158, 159, 160, 161, 162, 163, 164, 165, 166, 167, 168, 169], okM m = true := List.forall_mem_cons.mpr ⟨ok_120, List.forall_mem_cons.mpr ⟨ok_121, List.forall_mem_cons.mpr ⟨ok_122, List.forall_mem_cons.mpr ⟨ok_123, List.forall_mem_cons.mpr ⟨ok_124, List.forall_mem_cons.mpr ⟨ok_125, List.forall_mem_cons.mpr ⟨ok_126, List.forall_mem_cons.mpr ⟨ok_127, List.forall_mem_cons.mpr ⟨ok_128, List.forall_mem_cons.mpr ⟨ok_129, List.forall_mem_cons.mpr ⟨ok_130, List.forall_mem_cons.mpr ⟨ok_131, List.forall_mem_cons.mpr ⟨ok_132, List.forall_mem_cons.mpr ⟨ok_133, List.forall_mem_cons.mpr ⟨ok_134, List.forall_mem_cons.mpr ⟨ok_135, List.forall_mem_cons.mpr ⟨ok_136, List.forall_mem_cons.mpr ⟨ok_137, List.forall_mem_cons.mpr ⟨ok_138, List.forall_mem_cons.mpr ⟨ok_139, List.forall_mem_cons.mpr ⟨ok_140, List.forall_mem_cons.mpr ⟨ok_141, List.forall_mem_cons.mpr ⟨ok_142, List.forall_mem_cons.mpr ⟨ok_143, List.forall_mem_cons.mpr ⟨ok_144, List.forall_mem_cons.mpr ⟨ok_145, List.forall_mem_cons.mpr ⟨ok_146, List.forall_mem_cons.mpr ⟨ok_147, List.forall_mem_cons.mpr ⟨ok_148, List.forall_mem_cons.mpr ⟨ok_149, List.forall_mem_cons.mpr ⟨ok_150, List.forall_mem_cons.mpr ⟨ok_151, List.forall_mem_cons.mpr ⟨ok_152, List.forall_mem_cons.mpr ⟨ok_153, List.forall_mem_cons.mpr ⟨ok_154, List.forall_mem_cons.mpr ⟨ok_155, List.forall_mem_cons.mpr ⟨ok_156, List.forall_mem_cons.mpr ⟨ok_157, List.forall_mem_cons.mpr ⟨ok_158, List.forall_mem_cons.mpr ⟨ok_159, List.forall_mem_cons.mpr ⟨ok_160, List.forall_mem_cons.mpr ⟨ok_161, List.forall_mem_cons.mpr ⟨ok_162, List.forall_mem_cons.mpr ⟨ok_163, List.forall_mem_cons.mpr ⟨ok_164, List.forall_mem_cons.mpr ⟨ok_165, List.forall_mem_cons.mpr ⟨ok_166, List.forall_mem_cons.mpr ⟨ok_167, List.forall_mem_cons.mpr ⟨ok_168, List.forall_mem_cons.mpr ⟨ok_169, (fun _ h => absurd h List.not_mem_nil)⟩⟩⟩⟩⟩⟩⟩⟩⟩⟩⟩⟩⟩⟩⟩⟩⟩⟩⟩⟩⟩⟩⟩⟩⟩⟩⟩⟩⟩⟩⟩⟩⟩⟩⟩⟩⟩⟩⟩⟩⟩⟩⟩⟩⟩⟩⟩⟩⟩⟩
