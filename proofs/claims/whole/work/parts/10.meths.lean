def yOk (m : Nat) : Bool := decide ((mY m).cls = clS (mK m).1) && (decide ((mY m).name = (mK m).2.1) && (decide ((mK m).2.2.2.1 = (mB m).1) && (plainName (mY m).cls && (decide ((mY m).cls ≠ "java/lang/invoke/MethodHandle" ∧ (mY m).cls ≠ "java/lang/invoke/VarHandle") && (decide ((parseMethodDescriptor (mY m).desc).map (fun d => d.parameters.length) = some (mN m)) && inW (yPL.getD m (0, 0)).2 (.initialized (mY m).cls))))))
theorem yOk_0 : (List.range' 0 41).all yOk = true := by decide +kernel
theorem yOk_41 : (List.range' 41 41).all yOk = true := by decide +kernel
theorem yOk_82 : (List.range' 82 41).all yOk = true := by decide +kernel
theorem yOk_123 : (List.range' 123 41).all yOk = true := by decide +kernel
theorem yOk_164 : (List.range' 164 41).all yOk = true := by decide +kernel
theorem yOk_all (m : Nat) (h : m < 205) : yOk m = true := by
  rcases Nat.lt_or_ge m 41 with h0 | h0
  · exact List.all_eq_true.mp yOk_0 m (List.mem_range'.mpr ⟨m - 0, by omega, by omega⟩)
  rcases Nat.lt_or_ge m 82 with h1 | h1
  · exact List.all_eq_true.mp yOk_41 m (List.mem_range'.mpr ⟨m - 41, by omega, by omega⟩)
  rcases Nat.lt_or_ge m 123 with h2 | h2
  · exact List.all_eq_true.mp yOk_82 m (List.mem_range'.mpr ⟨m - 82, by omega, by omega⟩)
  rcases Nat.lt_or_ge m 164 with h3 | h3
  · exact List.all_eq_true.mp yOk_123 m (List.mem_range'.mpr ⟨m - 123, by omega, by omega⟩)
  exact List.all_eq_true.mp yOk_164 m (List.mem_range'.mpr ⟨m - 164, by omega, by omega⟩)
def cwP (m : Nat) : Prop := lw_tbl[(yPL.getD m (0, 0)).1]? = some (cW m)
set_option maxRecDepth 20000 in
theorem cw_0 : cwP 0 := by unfold cwP; rfl
set_option maxRecDepth 20000 in
theorem cw_1 : cwP 1 := by unfold cwP; rfl
set_option maxRecDepth 20000 in
theorem cw_2 : cwP 2 := by unfold cwP; rfl
set_option maxRecDepth 20000 in
theorem cw_3 : cwP 3 := by unfold cwP; rfl
set_option maxRecDepth 20000 in
theorem cw_4 : cwP 4 := by unfold cwP; rfl
set_option maxRecDepth 20000 in
theorem cw_5 : cwP 5 := by unfold cwP; rfl
set_option maxRecDepth 20000 in
theorem cw_6 : cwP 6 := by unfold cwP; rfl
set_option maxRecDepth 20000 in
theorem cw_7 : cwP 7 := by unfold cwP; rfl
set_option maxRecDepth 20000 in
theorem cw_8 : cwP 8 := by unfold cwP; rfl
set_option maxRecDepth 20000 in
theorem cw_9 : cwP 9 := by unfold cwP; rfl
set_option maxRecDepth 20000 in
theorem cw_10 : cwP 10 := by unfold cwP; rfl
set_option maxRecDepth 20000 in
theorem cw_11 : cwP 11 := by unfold cwP; rfl
set_option maxRecDepth 20000 in
theorem cw_12 : cwP 12 := by unfold cwP; rfl
set_option maxRecDepth 20000 in
theorem cw_13 : cwP 13 := by unfold cwP; rfl
set_option maxRecDepth 20000 in
theorem cw_14 : cwP 14 := by unfold cwP; rfl
set_option maxRecDepth 20000 in
theorem cw_15 : cwP 15 := by unfold cwP; rfl
set_option maxRecDepth 20000 in
theorem cw_16 : cwP 16 := by unfold cwP; rfl
set_option maxRecDepth 20000 in
theorem cw_17 : cwP 17 := by unfold cwP; rfl
set_option maxRecDepth 20000 in
theorem cw_18 : cwP 18 := by unfold cwP; rfl
set_option maxRecDepth 20000 in
theorem cw_19 : cwP 19 := by unfold cwP; rfl
set_option maxRecDepth 20000 in
theorem cw_20 : cwP 20 := by unfold cwP; rfl
set_option maxRecDepth 20000 in
theorem cw_21 : cwP 21 := by unfold cwP; rfl
set_option maxRecDepth 20000 in
theorem cw_22 : cwP 22 := by unfold cwP; rfl
set_option maxRecDepth 20000 in
theorem cw_23 : cwP 23 := by unfold cwP; rfl
set_option maxRecDepth 20000 in
theorem cw_24 : cwP 24 := by unfold cwP; rfl
set_option maxRecDepth 20000 in
theorem cw_25 : cwP 25 := by unfold cwP; rfl
set_option maxRecDepth 20000 in
theorem cw_26 : cwP 26 := by unfold cwP; rfl
set_option maxRecDepth 20000 in
theorem cw_27 : cwP 27 := by unfold cwP; rfl
set_option maxRecDepth 20000 in
theorem cw_28 : cwP 28 := by unfold cwP; rfl
set_option maxRecDepth 20000 in
theorem cw_29 : cwP 29 := by unfold cwP; rfl
set_option maxRecDepth 20000 in
theorem cw_30 : cwP 30 := by unfold cwP; rfl
set_option maxRecDepth 20000 in
theorem cw_31 : cwP 31 := by unfold cwP; rfl
set_option maxRecDepth 20000 in
theorem cw_32 : cwP 32 := by unfold cwP; rfl
set_option maxRecDepth 20000 in
theorem cw_33 : cwP 33 := by unfold cwP; rfl
set_option maxRecDepth 20000 in
theorem cw_34 : cwP 34 := by unfold cwP; rfl
set_option maxRecDepth 20000 in
theorem cw_35 : cwP 35 := by unfold cwP; rfl
set_option maxRecDepth 20000 in
theorem cw_36 : cwP 36 := by unfold cwP; rfl
set_option maxRecDepth 20000 in
theorem cw_37 : cwP 37 := by unfold cwP; rfl
set_option maxRecDepth 20000 in
theorem cw_38 : cwP 38 := by unfold cwP; rfl
set_option maxRecDepth 20000 in
theorem cw_39 : cwP 39 := by unfold cwP; rfl
set_option maxRecDepth 20000 in
theorem cw_40 : cwP 40 := by unfold cwP; rfl
set_option maxRecDepth 20000 in
theorem cw_41 : cwP 41 := by unfold cwP; rfl
set_option maxRecDepth 20000 in
theorem cw_42 : cwP 42 := by unfold cwP; rfl
set_option maxRecDepth 20000 in
theorem cw_43 : cwP 43 := by unfold cwP; rfl
set_option maxRecDepth 20000 in
theorem cw_44 : cwP 44 := by unfold cwP; rfl
set_option maxRecDepth 20000 in
theorem cw_45 : cwP 45 := by unfold cwP; rfl
set_option maxRecDepth 20000 in
theorem cw_46 : cwP 46 := by unfold cwP; rfl
set_option maxRecDepth 20000 in
theorem cw_47 : cwP 47 := by unfold cwP; rfl
set_option maxRecDepth 20000 in
theorem cw_48 : cwP 48 := by unfold cwP; rfl
set_option maxRecDepth 20000 in
theorem cw_49 : cwP 49 := by unfold cwP; rfl
set_option maxRecDepth 20000 in
theorem cw_50 : cwP 50 := by unfold cwP; rfl
set_option maxRecDepth 20000 in
theorem cw_51 : cwP 51 := by unfold cwP; rfl
set_option maxRecDepth 20000 in
theorem cw_52 : cwP 52 := by unfold cwP; rfl
set_option maxRecDepth 20000 in
theorem cw_53 : cwP 53 := by unfold cwP; rfl
set_option maxRecDepth 20000 in
theorem cw_54 : cwP 54 := by unfold cwP; rfl
set_option maxRecDepth 20000 in
theorem cw_55 : cwP 55 := by unfold cwP; rfl
set_option maxRecDepth 20000 in
theorem cw_56 : cwP 56 := by unfold cwP; rfl
set_option maxRecDepth 20000 in
theorem cw_57 : cwP 57 := by unfold cwP; rfl
set_option maxRecDepth 20000 in
theorem cw_58 : cwP 58 := by unfold cwP; rfl
set_option maxRecDepth 20000 in
theorem cw_59 : cwP 59 := by unfold cwP; rfl
set_option maxRecDepth 20000 in
theorem cw_60 : cwP 60 := by unfold cwP; rfl
set_option maxRecDepth 20000 in
theorem cw_61 : cwP 61 := by unfold cwP; rfl
set_option maxRecDepth 20000 in
theorem cw_62 : cwP 62 := by unfold cwP; rfl
set_option maxRecDepth 20000 in
theorem cw_63 : cwP 63 := by unfold cwP; rfl
set_option maxRecDepth 20000 in
theorem cw_64 : cwP 64 := by unfold cwP; rfl
set_option maxRecDepth 20000 in
theorem cw_65 : cwP 65 := by unfold cwP; rfl
set_option maxRecDepth 20000 in
theorem cw_66 : cwP 66 := by unfold cwP; rfl
set_option maxRecDepth 20000 in
theorem cw_67 : cwP 67 := by unfold cwP; rfl
set_option maxRecDepth 20000 in
theorem cw_68 : cwP 68 := by unfold cwP; rfl
set_option maxRecDepth 20000 in
theorem cw_69 : cwP 69 := by unfold cwP; rfl
set_option maxRecDepth 20000 in
theorem cw_70 : cwP 70 := by unfold cwP; rfl
set_option maxRecDepth 20000 in
theorem cw_71 : cwP 71 := by unfold cwP; rfl
set_option maxRecDepth 20000 in
theorem cw_72 : cwP 72 := by unfold cwP; rfl
set_option maxRecDepth 20000 in
theorem cw_73 : cwP 73 := by unfold cwP; rfl
set_option maxRecDepth 20000 in
theorem cw_74 : cwP 74 := by unfold cwP; rfl
set_option maxRecDepth 20000 in
theorem cw_75 : cwP 75 := by unfold cwP; rfl
set_option maxRecDepth 20000 in
theorem cw_76 : cwP 76 := by unfold cwP; rfl
set_option maxRecDepth 20000 in
theorem cw_77 : cwP 77 := by unfold cwP; rfl
set_option maxRecDepth 20000 in
theorem cw_78 : cwP 78 := by unfold cwP; rfl
set_option maxRecDepth 20000 in
theorem cw_79 : cwP 79 := by unfold cwP; rfl
set_option maxRecDepth 20000 in
theorem cw_80 : cwP 80 := by unfold cwP; rfl
set_option maxRecDepth 20000 in
theorem cw_81 : cwP 81 := by unfold cwP; rfl
set_option maxRecDepth 20000 in
theorem cw_82 : cwP 82 := by unfold cwP; rfl
set_option maxRecDepth 20000 in
theorem cw_83 : cwP 83 := by unfold cwP; rfl
set_option maxRecDepth 20000 in
theorem cw_84 : cwP 84 := by unfold cwP; rfl
set_option maxRecDepth 20000 in
theorem cw_85 : cwP 85 := by unfold cwP; rfl
set_option maxRecDepth 20000 in
theorem cw_86 : cwP 86 := by unfold cwP; rfl
set_option maxRecDepth 20000 in
theorem cw_87 : cwP 87 := by unfold cwP; rfl
set_option maxRecDepth 20000 in
theorem cw_88 : cwP 88 := by unfold cwP; rfl
set_option maxRecDepth 20000 in
theorem cw_89 : cwP 89 := by unfold cwP; rfl
set_option maxRecDepth 20000 in
theorem cw_90 : cwP 90 := by unfold cwP; rfl
set_option maxRecDepth 20000 in
theorem cw_91 : cwP 91 := by unfold cwP; rfl
set_option maxRecDepth 20000 in
theorem cw_92 : cwP 92 := by unfold cwP; rfl
set_option maxRecDepth 20000 in
theorem cw_93 : cwP 93 := by unfold cwP; rfl
set_option maxRecDepth 20000 in
theorem cw_94 : cwP 94 := by unfold cwP; rfl
set_option maxRecDepth 20000 in
theorem cw_95 : cwP 95 := by unfold cwP; rfl
set_option maxRecDepth 20000 in
theorem cw_96 : cwP 96 := by unfold cwP; rfl
set_option maxRecDepth 20000 in
theorem cw_97 : cwP 97 := by unfold cwP; rfl
set_option maxRecDepth 20000 in
theorem cw_98 : cwP 98 := by unfold cwP; rfl
set_option maxRecDepth 20000 in
theorem cw_99 : cwP 99 := by unfold cwP; rfl
set_option maxRecDepth 20000 in
theorem cw_100 : cwP 100 := by unfold cwP; rfl
set_option maxRecDepth 20000 in
theorem cw_101 : cwP 101 := by unfold cwP; rfl
set_option maxRecDepth 20000 in
theorem cw_102 : cwP 102 := by unfold cwP; rfl
set_option maxRecDepth 20000 in
theorem cw_103 : cwP 103 := by unfold cwP; rfl
set_option maxRecDepth 20000 in
theorem cw_104 : cwP 104 := by unfold cwP; rfl
set_option maxRecDepth 20000 in
theorem cw_105 : cwP 105 := by unfold cwP; rfl
set_option maxRecDepth 20000 in
theorem cw_106 : cwP 106 := by unfold cwP; rfl
set_option maxRecDepth 20000 in
theorem cw_107 : cwP 107 := by unfold cwP; rfl
set_option maxRecDepth 20000 in
theorem cw_108 : cwP 108 := by unfold cwP; rfl
set_option maxRecDepth 20000 in
theorem cw_109 : cwP 109 := by unfold cwP; rfl
set_option maxRecDepth 20000 in
theorem cw_110 : cwP 110 := by unfold cwP; rfl
set_option maxRecDepth 20000 in
theorem cw_111 : cwP 111 := by unfold cwP; rfl
set_option maxRecDepth 20000 in
theorem cw_112 : cwP 112 := by unfold cwP; rfl
set_option maxRecDepth 20000 in
theorem cw_113 : cwP 113 := by unfold cwP; rfl
set_option maxRecDepth 20000 in
theorem cw_114 : cwP 114 := by unfold cwP; rfl
set_option maxRecDepth 20000 in
theorem cw_115 : cwP 115 := by unfold cwP; rfl
set_option maxRecDepth 20000 in
theorem cw_116 : cwP 116 := by unfold cwP; rfl
set_option maxRecDepth 20000 in
theorem cw_117 : cwP 117 := by unfold cwP; rfl
set_option maxRecDepth 20000 in
theorem cw_118 : cwP 118 := by unfold cwP; rfl
set_option maxRecDepth 20000 in
theorem cw_119 : cwP 119 := by unfold cwP; rfl
set_option maxRecDepth 20000 in
theorem cw_120 : cwP 120 := by unfold cwP; rfl
set_option maxRecDepth 20000 in
theorem cw_121 : cwP 121 := by unfold cwP; rfl
set_option maxRecDepth 20000 in
theorem cw_122 : cwP 122 := by unfold cwP; rfl
set_option maxRecDepth 20000 in
theorem cw_123 : cwP 123 := by unfold cwP; rfl
set_option maxRecDepth 20000 in
theorem cw_124 : cwP 124 := by unfold cwP; rfl
set_option maxRecDepth 20000 in
theorem cw_125 : cwP 125 := by unfold cwP; rfl
set_option maxRecDepth 20000 in
theorem cw_126 : cwP 126 := by unfold cwP; rfl
set_option maxRecDepth 20000 in
theorem cw_127 : cwP 127 := by unfold cwP; rfl
set_option maxRecDepth 20000 in
theorem cw_128 : cwP 128 := by unfold cwP; rfl
set_option maxRecDepth 20000 in
theorem cw_129 : cwP 129 := by unfold cwP; rfl
set_option maxRecDepth 20000 in
theorem cw_130 : cwP 130 := by unfold cwP; rfl
set_option maxRecDepth 20000 in
theorem cw_131 : cwP 131 := by unfold cwP; rfl
set_option maxRecDepth 20000 in
theorem cw_132 : cwP 132 := by unfold cwP; rfl
set_option maxRecDepth 20000 in
theorem cw_133 : cwP 133 := by unfold cwP; rfl
set_option maxRecDepth 20000 in
theorem cw_134 : cwP 134 := by unfold cwP; rfl
set_option maxRecDepth 20000 in
theorem cw_135 : cwP 135 := by unfold cwP; rfl
set_option maxRecDepth 20000 in
theorem cw_136 : cwP 136 := by unfold cwP; rfl
set_option maxRecDepth 20000 in
theorem cw_137 : cwP 137 := by unfold cwP; rfl
set_option maxRecDepth 20000 in
theorem cw_138 : cwP 138 := by unfold cwP; rfl
set_option maxRecDepth 20000 in
theorem cw_139 : cwP 139 := by unfold cwP; rfl
set_option maxRecDepth 20000 in
theorem cw_140 : cwP 140 := by unfold cwP; rfl
set_option maxRecDepth 20000 in
theorem cw_141 : cwP 141 := by unfold cwP; rfl
set_option maxRecDepth 20000 in
theorem cw_142 : cwP 142 := by unfold cwP; rfl
set_option maxRecDepth 20000 in
theorem cw_143 : cwP 143 := by unfold cwP; rfl
set_option maxRecDepth 20000 in
theorem cw_144 : cwP 144 := by unfold cwP; rfl
set_option maxRecDepth 20000 in
theorem cw_145 : cwP 145 := by unfold cwP; rfl
set_option maxRecDepth 20000 in
theorem cw_146 : cwP 146 := by unfold cwP; rfl
set_option maxRecDepth 20000 in
theorem cw_147 : cwP 147 := by unfold cwP; rfl
set_option maxRecDepth 20000 in
theorem cw_148 : cwP 148 := by unfold cwP; rfl
set_option maxRecDepth 20000 in
theorem cw_149 : cwP 149 := by unfold cwP; rfl
set_option maxRecDepth 20000 in
theorem cw_150 : cwP 150 := by unfold cwP; rfl
set_option maxRecDepth 20000 in
theorem cw_151 : cwP 151 := by unfold cwP; rfl
set_option maxRecDepth 20000 in
theorem cw_152 : cwP 152 := by unfold cwP; rfl
set_option maxRecDepth 20000 in
theorem cw_153 : cwP 153 := by unfold cwP; rfl
set_option maxRecDepth 20000 in
theorem cw_154 : cwP 154 := by unfold cwP; rfl
set_option maxRecDepth 20000 in
theorem cw_155 : cwP 155 := by unfold cwP; rfl
set_option maxRecDepth 20000 in
theorem cw_156 : cwP 156 := by unfold cwP; rfl
set_option maxRecDepth 20000 in
theorem cw_157 : cwP 157 := by unfold cwP; rfl
set_option maxRecDepth 20000 in
theorem cw_158 : cwP 158 := by unfold cwP; rfl
set_option maxRecDepth 20000 in
theorem cw_159 : cwP 159 := by unfold cwP; rfl
set_option maxRecDepth 20000 in
theorem cw_160 : cwP 160 := by unfold cwP; rfl
set_option maxRecDepth 20000 in
theorem cw_161 : cwP 161 := by unfold cwP; rfl
set_option maxRecDepth 20000 in
theorem cw_162 : cwP 162 := by unfold cwP; rfl
set_option maxRecDepth 20000 in
theorem cw_163 : cwP 163 := by unfold cwP; rfl
set_option maxRecDepth 20000 in
theorem cw_164 : cwP 164 := by unfold cwP; rfl
set_option maxRecDepth 20000 in
theorem cw_165 : cwP 165 := by unfold cwP; rfl
set_option maxRecDepth 20000 in
theorem cw_166 : cwP 166 := by unfold cwP; rfl
set_option maxRecDepth 20000 in
theorem cw_167 : cwP 167 := by unfold cwP; rfl
set_option maxRecDepth 20000 in
theorem cw_168 : cwP 168 := by unfold cwP; rfl
set_option maxRecDepth 20000 in
theorem cw_169 : cwP 169 := by unfold cwP; rfl
set_option maxRecDepth 20000 in
theorem cw_170 : cwP 170 := by unfold cwP; rfl
set_option maxRecDepth 20000 in
theorem cw_171 : cwP 171 := by unfold cwP; rfl
set_option maxRecDepth 20000 in
theorem cw_172 : cwP 172 := by unfold cwP; rfl
set_option maxRecDepth 20000 in
theorem cw_173 : cwP 173 := by unfold cwP; rfl
set_option maxRecDepth 20000 in
theorem cw_174 : cwP 174 := by unfold cwP; rfl
set_option maxRecDepth 20000 in
theorem cw_175 : cwP 175 := by unfold cwP; rfl
set_option maxRecDepth 20000 in
theorem cw_176 : cwP 176 := by unfold cwP; rfl
set_option maxRecDepth 20000 in
theorem cw_177 : cwP 177 := by unfold cwP; rfl
set_option maxRecDepth 20000 in
theorem cw_178 : cwP 178 := by unfold cwP; rfl
set_option maxRecDepth 20000 in
theorem cw_179 : cwP 179 := by unfold cwP; rfl
set_option maxRecDepth 20000 in
theorem cw_180 : cwP 180 := by unfold cwP; rfl
set_option maxRecDepth 20000 in
theorem cw_181 : cwP 181 := by unfold cwP; rfl
set_option maxRecDepth 20000 in
theorem cw_182 : cwP 182 := by unfold cwP; rfl
set_option maxRecDepth 20000 in
theorem cw_183 : cwP 183 := by unfold cwP; rfl
set_option maxRecDepth 20000 in
theorem cw_184 : cwP 184 := by unfold cwP; rfl
set_option maxRecDepth 20000 in
theorem cw_185 : cwP 185 := by unfold cwP; rfl
set_option maxRecDepth 20000 in
theorem cw_186 : cwP 186 := by unfold cwP; rfl
set_option maxRecDepth 20000 in
theorem cw_187 : cwP 187 := by unfold cwP; rfl
set_option maxRecDepth 20000 in
theorem cw_188 : cwP 188 := by unfold cwP; rfl
set_option maxRecDepth 20000 in
theorem cw_189 : cwP 189 := by unfold cwP; rfl
set_option maxRecDepth 20000 in
theorem cw_190 : cwP 190 := by unfold cwP; rfl
set_option maxRecDepth 20000 in
theorem cw_191 : cwP 191 := by unfold cwP; rfl
set_option maxRecDepth 20000 in
theorem cw_192 : cwP 192 := by unfold cwP; rfl
set_option maxRecDepth 20000 in
theorem cw_193 : cwP 193 := by unfold cwP; rfl
set_option maxRecDepth 20000 in
theorem cw_194 : cwP 194 := by unfold cwP; rfl
set_option maxRecDepth 20000 in
theorem cw_195 : cwP 195 := by unfold cwP; rfl
set_option maxRecDepth 20000 in
theorem cw_196 : cwP 196 := by unfold cwP; rfl
set_option maxRecDepth 20000 in
theorem cw_197 : cwP 197 := by unfold cwP; rfl
set_option maxRecDepth 20000 in
theorem cw_198 : cwP 198 := by unfold cwP; rfl
set_option maxRecDepth 20000 in
theorem cw_199 : cwP 199 := by unfold cwP; rfl
set_option maxRecDepth 20000 in
theorem cw_200 : cwP 200 := by unfold cwP; rfl
set_option maxRecDepth 20000 in
theorem cw_201 : cwP 201 := by unfold cwP; rfl
set_option maxRecDepth 20000 in
theorem cw_202 : cwP 202 := by unfold cwP; rfl
set_option maxRecDepth 20000 in
theorem cw_203 : cwP 203 := by unfold cwP; rfl
set_option maxRecDepth 20000 in
theorem cw_204 : cwP 204 := by unfold cwP; rfl
theorem cwA_0 : ∀ m ∈ [0, 1, 2, 3, 4, 5, 6, 7, 8, 9, 10, 11, 12, 13, 14, 15, 16, 17, 18, 19, 20, 21, 22, 23, 24, 25, 26, 27, 28, 29, 30, 31, 32, 33, 34, 35, 36, 37, 38, 39, 40], cwP m := List.forall_mem_cons.mpr ⟨cw_0, List.forall_mem_cons.mpr ⟨cw_1, List.forall_mem_cons.mpr ⟨cw_2, List.forall_mem_cons.mpr ⟨cw_3, List.forall_mem_cons.mpr ⟨cw_4, List.forall_mem_cons.mpr ⟨cw_5, List.forall_mem_cons.mpr ⟨cw_6, List.forall_mem_cons.mpr ⟨cw_7, List.forall_mem_cons.mpr ⟨cw_8, List.forall_mem_cons.mpr ⟨cw_9, List.forall_mem_cons.mpr ⟨cw_10, List.forall_mem_cons.mpr ⟨cw_11, List.forall_mem_cons.mpr ⟨cw_12, List.forall_mem_cons.mpr ⟨cw_13, List.forall_mem_cons.mpr ⟨cw_14, List.forall_mem_cons.mpr ⟨cw_15, List.forall_mem_cons.mpr ⟨cw_16, List.forall_mem_cons.mpr ⟨cw_17, List.forall_mem_cons.mpr ⟨cw_18, List.forall_mem_cons.mpr ⟨cw_19, List.forall_mem_cons.mpr ⟨cw_20, List.forall_mem_cons.mpr ⟨cw_21, List.forall_mem_cons.mpr ⟨cw_22, List.forall_mem_cons.mpr ⟨cw_23, List.forall_mem_cons.mpr ⟨cw_24, List.forall_mem_cons.mpr ⟨cw_25, List.forall_mem_cons.mpr ⟨cw_26, List.forall_mem_cons.mpr ⟨cw_27, List.forall_mem_cons.mpr ⟨cw_28, List.forall_mem_cons.mpr ⟨cw_29, List.forall_mem_cons.mpr ⟨cw_30, List.forall_mem_cons.mpr ⟨cw_31, List.forall_mem_cons.mpr ⟨cw_32, List.forall_mem_cons.mpr ⟨cw_33, List.forall_mem_cons.mpr ⟨cw_34, List.forall_mem_cons.mpr ⟨cw_35, List.forall_mem_cons.mpr ⟨cw_36, List.forall_mem_cons.mpr ⟨cw_37, List.forall_mem_cons.mpr ⟨cw_38, List.forall_mem_cons.mpr ⟨cw_39, List.forall_mem_cons.mpr ⟨cw_40, (fun _ h => absurd h List.not_mem_nil)⟩⟩⟩⟩⟩⟩⟩⟩⟩⟩⟩⟩⟩⟩⟩⟩⟩⟩⟩⟩⟩⟩⟩⟩⟩⟩⟩⟩⟩⟩⟩⟩⟩⟩⟩⟩⟩⟩⟩⟩⟩
theorem cwA_41 : ∀ m ∈ [41, 42, 43, 44, 45, 46, 47, 48, 49, 50, 51, 52, 53, 54, 55, 56, 57, 58, 59, 60, 61, 62, 63, 64, 65, 66, 67, 68, 69, 70, 71, 72, 73, 74, 75, 76, 77, 78, 79, 80, 81], cwP m := List.forall_mem_cons.mpr ⟨cw_41, List.forall_mem_cons.mpr ⟨cw_42, List.forall_mem_cons.mpr ⟨cw_43, List.forall_mem_cons.mpr ⟨cw_44, List.forall_mem_cons.mpr ⟨cw_45, List.forall_mem_cons.mpr ⟨cw_46, List.forall_mem_cons.mpr ⟨cw_47, List.forall_mem_cons.mpr ⟨cw_48, List.forall_mem_cons.mpr ⟨cw_49, List.forall_mem_cons.mpr ⟨cw_50, List.forall_mem_cons.mpr ⟨cw_51, List.forall_mem_cons.mpr ⟨cw_52, List.forall_mem_cons.mpr ⟨cw_53, List.forall_mem_cons.mpr ⟨cw_54, List.forall_mem_cons.mpr ⟨cw_55, List.forall_mem_cons.mpr ⟨cw_56, List.forall_mem_cons.mpr ⟨cw_57, List.forall_mem_cons.mpr ⟨cw_58, List.forall_mem_cons.mpr ⟨cw_59, List.forall_mem_cons.mpr ⟨cw_60, List.forall_mem_cons.mpr ⟨cw_61, List.forall_mem_cons.mpr ⟨cw_62, List.forall_mem_cons.mpr ⟨cw_63, List.forall_mem_cons.mpr ⟨cw_64, List.forall_mem_cons.mpr ⟨cw_65, List.forall_mem_cons.mpr ⟨cw_66, List.forall_mem_cons.mpr ⟨cw_67, List.forall_mem_cons.mpr ⟨cw_68, List.forall_mem_cons.mpr ⟨cw_69, List.forall_mem_cons.mpr ⟨cw_70, List.forall_mem_cons.mpr ⟨cw_71, List.forall_mem_cons.mpr ⟨cw_72, List.forall_mem_cons.mpr ⟨cw_73, List.forall_mem_cons.mpr ⟨cw_74, List.forall_mem_cons.mpr ⟨cw_75, List.forall_mem_cons.mpr ⟨cw_76, List.forall_mem_cons.mpr ⟨cw_77, List.forall_mem_cons.mpr ⟨cw_78, List.forall_mem_cons.mpr ⟨cw_79, List.forall_mem_cons.mpr ⟨cw_80, List.forall_mem_cons.mpr ⟨cw_81, (fun _ h => absurd h List.not_mem_nil)⟩⟩⟩⟩⟩⟩⟩⟩⟩⟩⟩⟩⟩⟩⟩⟩⟩⟩⟩⟩⟩⟩⟩⟩⟩⟩⟩⟩⟩⟩⟩⟩⟩⟩⟩⟩⟩⟩⟩⟩⟩
theorem cwA_82 : ∀ m ∈ [82, 83, 84, 85, 86, 87, 88, 89, 90, 91, 92, 93, 94, 95, 96, 97, 98, 99, 100, 101, 102, 103, 104, 105, 106, 107, 108, 109, 110, 111, 112, 113, 114, 115, 116, 117, 118, 119, 120, 121, 122], cwP m := List.forall_mem_cons.mpr ⟨cw_82, List.forall_mem_cons.mpr ⟨cw_83, List.forall_mem_cons.mpr ⟨cw_84, List.forall_mem_cons.mpr ⟨cw_85, List.forall_mem_cons.mpr ⟨cw_86, List.forall_mem_cons.mpr ⟨cw_87, List.forall_mem_cons.mpr ⟨cw_88, List.forall_mem_cons.mpr ⟨cw_89, List.forall_mem_cons.mpr ⟨cw_90, List.forall_mem_cons.mpr ⟨cw_91, List.forall_mem_cons.mpr ⟨cw_92, List.forall_mem_cons.mpr ⟨cw_93, List.forall_mem_cons.mpr ⟨cw_94, List.forall_mem_cons.mpr ⟨cw_95, List.forall_mem_cons.mpr ⟨cw_96, List.forall_mem_cons.mpr ⟨cw_97, List.forall_mem_cons.mpr ⟨cw_98, List.forall_mem_cons.mpr ⟨cw_99, List.forall_mem_cons.mpr ⟨cw_100, List.forall_mem_cons.mpr ⟨cw_101, List.forall_mem_cons.mpr ⟨cw_102, List.forall_mem_cons.mpr ⟨cw_103, List.forall_mem_cons.mpr ⟨cw_104, List.forall_mem_cons.mpr ⟨cw_105, List.forall_mem_cons.mpr ⟨cw_106, List.forall_mem_cons.mpr ⟨cw_107, List.forall_mem_cons.mpr ⟨cw_108, List.forall_mem_cons.mpr ⟨cw_109, List.forall_mem_cons.mpr ⟨cw_110, List.forall_mem_cons.mpr ⟨cw_111, List.forall_mem_cons.mpr ⟨cw_112, List.forall_mem_cons.mpr ⟨cw_113, List.forall_mem_cons.mpr ⟨cw_114, List.forall_mem_cons.mpr ⟨cw_115, List.forall_mem_cons.mpr ⟨cw_116, List.forall_mem_cons.mpr ⟨cw_117, List.forall_mem_cons.mpr ⟨cw_118, List.forall_mem_cons.mpr ⟨cw_119, List.forall_mem_cons.mpr ⟨cw_120, List.forall_mem_cons.mpr ⟨cw_121, List.forall_mem_cons.mpr ⟨cw_122, (fun _ h => absurd h List.not_mem_nil)⟩⟩⟩⟩⟩⟩⟩⟩⟩⟩⟩⟩⟩⟩⟩⟩⟩⟩⟩⟩⟩⟩⟩⟩⟩⟩⟩⟩⟩⟩⟩⟩⟩⟩⟩⟩⟩⟩⟩⟩⟩
theorem cwA_123 : ∀ m ∈ [123, 124, 125, 126, 127, 128, 129, 130, 131, 132, 133, 134, 135, 136, 137, 138, 139, 140, 141, 142, 143, 144, 145, 146, 147, 148, 149, 150, 151, 152, 153, 154, 155, 156, 157, 158, 159, 160, 161, 162, 163], cwP m := List.forall_mem_cons.mpr ⟨cw_123, List.forall_mem_cons.mpr ⟨cw_124, List.forall_mem_cons.mpr ⟨cw_125, List.forall_mem_cons.mpr ⟨cw_126, List.forall_mem_cons.mpr ⟨cw_127, List.forall_mem_cons.mpr ⟨cw_128, List.forall_mem_cons.mpr ⟨cw_129, List.forall_mem_cons.mpr ⟨cw_130, List.forall_mem_cons.mpr ⟨cw_131, List.forall_mem_cons.mpr ⟨cw_132, List.forall_mem_cons.mpr ⟨cw_133, List.forall_mem_cons.mpr ⟨cw_134, List.forall_mem_cons.mpr ⟨cw_135, List.forall_mem_cons.mpr ⟨cw_136, List.forall_mem_cons.mpr ⟨cw_137, List.forall_mem_cons.mpr ⟨cw_138, List.forall_mem_cons.mpr ⟨cw_139, List.forall_mem_cons.mpr ⟨cw_140, List.forall_mem_cons.mpr ⟨cw_141, List.forall_mem_cons.mpr ⟨cw_142, List.forall_mem_cons.mpr ⟨cw_143, List.forall_mem_cons.mpr ⟨cw_144, List.forall_mem_cons.mpr ⟨cw_145, List.forall_mem_cons.mpr ⟨cw_146, List.forall_mem_cons.mpr ⟨cw_147, List.forall_mem_cons.mpr ⟨cw_148, List.forall_mem_cons.mpr ⟨cw_149, List.forall_mem_cons.mpr ⟨cw_150, List.forall_mem_cons.mpr ⟨cw_151, List.forall_mem_cons.mpr ⟨cw_152, List.forall_mem_cons.mpr ⟨cw_153, List.forall_mem_cons.mpr ⟨cw_154, List.forall_mem_cons.mpr ⟨cw_155, List.forall_mem_cons.mpr ⟨cw_156, List.forall_mem_cons.mpr ⟨cw_157, List.forall_mem_cons.mpr ⟨cw_158, List.forall_mem_cons.mpr ⟨cw_159, List.forall_mem_cons.mpr ⟨cw_160, List.forall_mem_cons.mpr ⟨cw_161, List.forall_mem_cons.mpr ⟨cw_162, List.forall_mem_cons.mpr ⟨cw_163, (fun _ h => absurd h List.not_mem_nil)⟩⟩⟩⟩⟩⟩⟩⟩⟩⟩⟩⟩⟩⟩⟩⟩⟩⟩⟩⟩⟩⟩⟩⟩⟩⟩⟩⟩⟩⟩⟩⟩⟩⟩⟩⟩⟩⟩⟩⟩⟩
theorem cwA_164 : ∀ m ∈ [164, 165, 166, 167, 168, 169, 170, 171, 172, 173, 174, 175, 176, 177, 178, 179, 180, 181, 182, 183, 184, 185, 186, 187, 188, 189, 190, 191, 192, 193, 194, 195, 196, 197, 198, 199, 200, 201, 202, 203, 204], cwP m := List.forall_mem_cons.mpr ⟨cw_164, List.forall_mem_cons.mpr ⟨cw_165, List.forall_mem_cons.mpr ⟨cw_166, List.forall_mem_cons.mpr ⟨cw_167, List.forall_mem_cons.mpr ⟨cw_168, List.forall_mem_cons.mpr ⟨cw_169, List.forall_mem_cons.mpr ⟨cw_170, List.forall_mem_cons.mpr ⟨cw_171, List.forall_mem_cons.mpr ⟨cw_172, List.forall_mem_cons.mpr ⟨cw_173, List.forall_mem_cons.mpr ⟨cw_174, List.forall_mem_cons.mpr ⟨cw_175, List.forall_mem_cons.mpr ⟨cw_176, List.forall_mem_cons.mpr ⟨cw_177, List.forall_mem_cons.mpr ⟨cw_178, List.forall_mem_cons.mpr ⟨cw_179, List.forall_mem_cons.mpr ⟨cw_180, List.forall_mem_cons.mpr ⟨cw_181, List.forall_mem_cons.mpr ⟨cw_182, List.forall_mem_cons.mpr ⟨cw_183, List.forall_mem_cons.mpr ⟨cw_184, List.forall_mem_cons.mpr ⟨cw_185, List.forall_mem_cons.mpr ⟨cw_186, List.forall_mem_cons.mpr ⟨cw_187, List.forall_mem_cons.mpr ⟨cw_188, List.forall_mem_cons.mpr ⟨cw_189, List.forall_mem_cons.mpr ⟨cw_190, List.forall_mem_cons.mpr ⟨cw_191, List.forall_mem_cons.mpr ⟨cw_192, List.forall_mem_cons.mpr ⟨cw_193, List.forall_mem_cons.mpr ⟨cw_194, List.forall_mem_cons.mpr ⟨cw_195, List.forall_mem_cons.mpr ⟨cw_196, List.forall_mem_cons.mpr ⟨cw_197, List.forall_mem_cons.mpr ⟨cw_198, List.forall_mem_cons.mpr ⟨cw_199, List.forall_mem_cons.mpr ⟨cw_200, List.forall_mem_cons.mpr ⟨cw_201, List.forall_mem_cons.mpr ⟨cw_202, List.forall_mem_cons.mpr ⟨cw_203, List.forall_mem_cons.mpr ⟨cw_204, (fun _ h => absurd h List.not_mem_nil)⟩⟩⟩⟩⟩⟩⟩⟩⟩⟩⟩⟩⟩⟩⟩⟩⟩⟩⟩⟩⟩⟩⟩⟩⟩⟩⟩⟩⟩⟩⟩⟩⟩⟩⟩⟩⟩⟩⟩⟩⟩
theorem cw_all (m : Nat) (h : m < 205) : cW m ∈ tG := by
  have h9 : cwP m := by
    rcases Nat.lt_or_ge m 41 with h0 | h0
    · exact cwA_0 m (show m ∈ List.range' 0 41 from List.mem_range'.mpr ⟨m - 0, by omega, by omega⟩)
    rcases Nat.lt_or_ge m 82 with h1 | h1
    · exact cwA_41 m (show m ∈ List.range' 41 41 from List.mem_range'.mpr ⟨m - 41, by omega, by omega⟩)
    rcases Nat.lt_or_ge m 123 with h2 | h2
    · exact cwA_82 m (show m ∈ List.range' 82 41 from List.mem_range'.mpr ⟨m - 82, by omega, by omega⟩)
    rcases Nat.lt_or_ge m 164 with h3 | h3
    · exact cwA_123 m (show m ∈ List.range' 123 41 from List.mem_range'.mpr ⟨m - 123, by omega, by omega⟩)
    exact cwA_164 m (show m ∈ List.range' 164 41 from List.mem_range'.mpr ⟨m - 164, by omega, by omega⟩)
  exact tG_of (List.mem_of_getElem? h9) rfl
theorem aW_i : Cond.arrayClass .int ∈ tG := inW_tG (p := 142) (by decide +kernel)
theorem aW_b : Cond.arrayClass .byte ∈ tG := inW_tG (p := 296) (by decide +kernel)
theorem aW_z : Cond.arrayClass .boolean ∈ tG := inW_tG (p := 938) (by decide +kernel)
