/-! THE BYTES OF EVERY METHOD ARE ITS BLOCKS -/
set_option maxRecDepth 100000 in
theorem ok_170 : okM 170 = true := by decide +kernel
set_option maxRecDepth 100000 in
theorem ok_171 : okM 171 = true := by decide +kernel
set_option maxRecDepth 100000 in
theorem ok_172 : okM 172 = true := by decide +kernel
set_option maxRecDepth 100000 in
theorem ok_173 : okM 173 = true := by decide +kernel
set_option maxRecDepth 100000 in
theorem ok_174 : okM 174 = true := by decide +kernel
set_option maxRecDepth 100000 in
theorem ok_175 : okM 175 = true := by decide +kernel
set_option maxRecDepth 100000 in
theorem ok_176 : okM 176 = true := by decide +kernel
set_option maxRecDepth 100000 in
theorem ok_177 : okM 177 = true := by decide +kernel
set_option maxRecDepth 100000 in
theorem ok_178 : okM 178 = true := by decide +kernel
set_option maxRecDepth 100000 in
theorem ok_179 : okM 179 = true := by decide +kernel
set_option maxRecDepth 100000 in
theorem ok_180 : okM 180 = true := by decide +kernel
set_option maxRecDepth 100000 in
theorem ok_181 : okM 181 = true := by decide +kernel
set_option maxRecDepth 100000 in
theorem ok_182 : okM 182 = true := by decide +kernel
set_option maxRecDepth 100000 in
theorem ok_183 : okM 183 = true := by decide +kernel
set_option maxRecDepth 100000 in
theorem ok_184 : okM 184 = true := by decide +kernel
set_option maxRecDepth 100000 in
theorem ok_185 : okM 185 = true := by decide +kernel
set_option maxRecDepth 100000 in
theorem ok_186 : okM 186 = true := by decide +kernel
set_option maxRecDepth 100000 in
theorem ok_187 : okM 187 = true := by decide +kernel
set_option maxRecDepth 100000 in
theorem ok_188 : okM 188 = true := by decide +kernel
set_option maxRecDepth 100000 in
theorem ok_189 : okM 189 = true := by decide +kernel
set_option maxRecDepth 100000 in
theorem ok_190 : okM 190 = true := by decide +kernel
set_option maxRecDepth 100000 in
theorem ok_191 : okM 191 = true := by decide +kernel
set_option maxRecDepth 100000 in
theorem ok_192 : okM 192 = true := by decide +kernel
set_option maxRecDepth 100000 in
theorem ok_193 : okM 193 = true := by decide +kernel
set_option maxRecDepth 100000 in
theorem ok_194 : okM 194 = true := by decide +kernel
set_option maxRecDepth 100000 in
theorem ok_195 : okM 195 = true := by decide +kernel
set_option maxRecDepth 100000 in
theorem ok_196 : okM 196 = true := by decide +kernel
set_option maxRecDepth 100000 in
theorem ok_197 : okM 197 = true := by decide +kernel
set_option maxRecDepth 100000 in
theorem ok_198 : okM 198 = true := by decide +kernel
set_option maxRecDepth 100000 in
theorem ok_199 : okM 199 = true := by decide +kernel
set_option maxRecDepth 100000 in
theorem ok_200 : okM 200 = true := by decide +kernel
set_option maxRecDepth 100000 in
theorem ok_201 : okM 201 = true := by decide +kernel
set_option maxRecDepth 100000 in
theorem ok_202 : okM 202 = true := by decide +kernel
set_option maxRecDepth 100000 in
theorem ok_203 : okM 203 = true := by decide +kernel
set_option maxRecDepth 100000 in
theorem ok_204 : okM 204 = true := by decide +kernel
