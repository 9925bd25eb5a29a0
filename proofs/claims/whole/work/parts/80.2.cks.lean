theorem ck_141_0 : mchR 141 0 64 = true := by decide +kernel
theorem ck_141 : mchA 141 := mchA_of (n := 28) (l := [0]) (by decide +kernel) (by decide) (by decide +kernel) (List.forall_mem_cons.mpr ⟨ck_141_0, fun _ h => absurd h List.not_mem_nil⟩)
theorem cm_141 : mchM 141 = true := by decide +kernel
theorem ck_142_0 : mchR 142 0 64 = true := by decide +kernel
theorem ck_142 : mchA 142 := mchA_of (n := 51) (l := [0]) (by decide +kernel) (by decide) (by decide +kernel) (List.forall_mem_cons.mpr ⟨ck_142_0, fun _ h => absurd h List.not_mem_nil⟩)
theorem cm_142 : mchM 142 = true := by decide +kernel
theorem ck_143_0 : mchR 143 0 64 = true := by decide +kernel
theorem ck_143 : mchA 143 := mchA_of (n := 56) (l := [0]) (by decide +kernel) (by decide) (by decide +kernel) (List.forall_mem_cons.mpr ⟨ck_143_0, fun _ h => absurd h List.not_mem_nil⟩)
theorem cm_143 : mchM 143 = true := by decide +kernel
theorem ck_144_0 : mchR 144 0 64 = true := by decide +kernel
theorem ck_144 : mchA 144 := mchA_of (n := 51) (l := [0]) (by decide +kernel) (by decide) (by decide +kernel) (List.forall_mem_cons.mpr ⟨ck_144_0, fun _ h => absurd h List.not_mem_nil⟩)
theorem cm_144 : mchM 144 = true := by decide +kernel
theorem ck_145_0 : mchR 145 0 64 = true := by decide +kernel
theorem ck_145 : mchA 145 := mchA_of (n := 27) (l := [0]) (by decide +kernel) (by decide) (by decide +kernel) (List.forall_mem_cons.mpr ⟨ck_145_0, fun _ h => absurd h List.not_mem_nil⟩)
theorem cm_145 : mchM 145 = true := by decide +kernel
theorem ck_146_0 : mchR 146 0 64 = true := by decide +kernel
theorem ck_146 : mchA 146 := mchA_of (n := 18) (l := [0]) (by decide +kernel) (by decide) (by decide +kernel) (List.forall_mem_cons.mpr ⟨ck_146_0, fun _ h => absurd h List.not_mem_nil⟩)
theorem cm_146 : mchM 146 = true := by decide +kernel
theorem ck_147_0 : mchR 147 0 64 = true := by decide +kernel
theorem ck_147 : mchA 147 := mchA_of (n := 22) (l := [0]) (by decide +kernel) (by decide) (by decide +kernel) (List.forall_mem_cons.mpr ⟨ck_147_0, fun _ h => absurd h List.not_mem_nil⟩)
theorem cm_147 : mchM 147 = true := by decide +kernel
theorem ck_148_0 : mchR 148 0 64 = true := by decide +kernel
theorem ck_148 : mchA 148 := mchA_of (n := 45) (l := [0]) (by decide +kernel) (by decide) (by decide +kernel) (List.forall_mem_cons.mpr ⟨ck_148_0, fun _ h => absurd h List.not_mem_nil⟩)
theorem cm_148 : mchM 148 = true := by decide +kernel
theorem ck_149_0 : mchR 149 0 64 = true := by decide +kernel
theorem ck_149 : mchA 149 := mchA_of (n := 36) (l := [0]) (by decide +kernel) (by decide) (by decide +kernel) (List.forall_mem_cons.mpr ⟨ck_149_0, fun _ h => absurd h List.not_mem_nil⟩)
theorem cm_149 : mchM 149 = true := by decide +kernel
theorem ck_150_0 : mchR 150 0 64 = true := by decide +kernel
theorem ck_150_1 : mchR 150 64 64 = true := by decide +kernel
theorem ck_150 : mchA 150 := mchA_of (n := 126) (l := [0, 1]) (by decide +kernel) (by decide) (by decide +kernel) (List.forall_mem_cons.mpr ⟨ck_150_0, List.forall_mem_cons.mpr ⟨ck_150_1, fun _ h => absurd h List.not_mem_nil⟩⟩)
theorem cm_150 : mchM 150 = true := by decide +kernel
theorem ck_151_0 : mchR 151 0 64 = true := by decide +kernel
theorem ck_151 : mchA 151 := mchA_of (n := 43) (l := [0]) (by decide +kernel) (by decide) (by decide +kernel) (List.forall_mem_cons.mpr ⟨ck_151_0, fun _ h => absurd h List.not_mem_nil⟩)
theorem cm_151 : mchM 151 = true := by decide +kernel
theorem ck_152_0 : mchR 152 0 64 = true := by decide +kernel
theorem ck_152 : mchA 152 := mchA_of (n := 20) (l := [0]) (by decide +kernel) (by decide) (by decide +kernel) (List.forall_mem_cons.mpr ⟨ck_152_0, fun _ h => absurd h List.not_mem_nil⟩)
theorem cm_152 : mchM 152 = true := by decide +kernel
theorem ck_153_0 : mchR 153 0 64 = true := by decide +kernel
theorem ck_153 : mchA 153 := mchA_of (n := 52) (l := [0]) (by decide +kernel) (by decide) (by decide +kernel) (List.forall_mem_cons.mpr ⟨ck_153_0, fun _ h => absurd h List.not_mem_nil⟩)
theorem cm_153 : mchM 153 = true := by decide +kernel
theorem ck_154_0 : mchR 154 0 64 = true := by decide +kernel
theorem ck_154 : mchA 154 := mchA_of (n := 59) (l := [0]) (by decide +kernel) (by decide) (by decide +kernel) (List.forall_mem_cons.mpr ⟨ck_154_0, fun _ h => absurd h List.not_mem_nil⟩)
theorem cm_154 : mchM 154 = true := by decide +kernel
theorem ck_155_0 : mchR 155 0 64 = true := by decide +kernel
theorem ck_155 : mchA 155 := mchA_of (n := 63) (l := [0]) (by decide +kernel) (by decide) (by decide +kernel) (List.forall_mem_cons.mpr ⟨ck_155_0, fun _ h => absurd h List.not_mem_nil⟩)
theorem cm_155 : mchM 155 = true := by decide +kernel
theorem ck_156_0 : mchR 156 0 64 = true := by decide +kernel
theorem ck_156_1 : mchR 156 64 64 = true := by decide +kernel
theorem ck_156 : mchA 156 := mchA_of (n := 70) (l := [0, 1]) (by decide +kernel) (by decide) (by decide +kernel) (List.forall_mem_cons.mpr ⟨ck_156_0, List.forall_mem_cons.mpr ⟨ck_156_1, fun _ h => absurd h List.not_mem_nil⟩⟩)
theorem cm_156 : mchM 156 = true := by decide +kernel
theorem ck_157_0 : mchR 157 0 64 = true := by decide +kernel
theorem ck_157 : mchA 157 := mchA_of (n := 46) (l := [0]) (by decide +kernel) (by decide) (by decide +kernel) (List.forall_mem_cons.mpr ⟨ck_157_0, fun _ h => absurd h List.not_mem_nil⟩)
theorem cm_157 : mchM 157 = true := by decide +kernel
theorem ck_158_0 : mchR 158 0 64 = true := by decide +kernel
theorem ck_158_1 : mchR 158 64 64 = true := by decide +kernel
theorem ck_158_2 : mchR 158 128 64 = true := by decide +kernel
theorem ck_158 : mchA 158 := mchA_of (n := 132) (l := [0, 1, 2]) (by decide +kernel) (by decide) (by decide +kernel) (List.forall_mem_cons.mpr ⟨ck_158_0, List.forall_mem_cons.mpr ⟨ck_158_1, List.forall_mem_cons.mpr ⟨ck_158_2, fun _ h => absurd h List.not_mem_nil⟩⟩⟩)
theorem cm_158 : mchM 158 = true := by decide +kernel
theorem ck_159_0 : mchR 159 0 64 = true := by decide +kernel
theorem ck_159 : mchA 159 := mchA_of (n := 17) (l := [0]) (by decide +kernel) (by decide) (by decide +kernel) (List.forall_mem_cons.mpr ⟨ck_159_0, fun _ h => absurd h List.not_mem_nil⟩)
theorem cm_159 : mchM 159 = true := by decide +kernel
theorem ck_160_0 : mchR 160 0 64 = true := by decide +kernel
theorem ck_160_1 : mchR 160 64 64 = true := by decide +kernel
theorem ck_160 : mchA 160 := mchA_of (n := 125) (l := [0, 1]) (by decide +kernel) (by decide) (by decide +kernel) (List.forall_mem_cons.mpr ⟨ck_160_0, List.forall_mem_cons.mpr ⟨ck_160_1, fun _ h => absurd h List.not_mem_nil⟩⟩)
theorem cm_160 : mchM 160 = true := by decide +kernel
theorem ck_161_0 : mchR 161 0 64 = true := by decide +kernel
theorem ck_161 : mchA 161 := mchA_of (n := 40) (l := [0]) (by decide +kernel) (by decide) (by decide +kernel) (List.forall_mem_cons.mpr ⟨ck_161_0, fun _ h => absurd h List.not_mem_nil⟩)
theorem cm_161 : mchM 161 = true := by decide +kernel
theorem ck_162_0 : mchR 162 0 64 = true := by decide +kernel
theorem ck_162 : mchA 162 := mchA_of (n := 41) (l := [0]) (by decide +kernel) (by decide) (by decide +kernel) (List.forall_mem_cons.mpr ⟨ck_162_0, fun _ h => absurd h List.not_mem_nil⟩)
theorem cm_162 : mchM 162 = true := by decide +kernel
theorem ck_163_0 : mchR 163 0 64 = true := by decide +kernel
theorem ck_163_1 : mchR 163 64 64 = true := by decide +kernel
theorem ck_163 : mchA 163 := mchA_of (n := 102) (l := [0, 1]) (by decide +kernel) (by decide) (by decide +kernel) (List.forall_mem_cons.mpr ⟨ck_163_0, List.forall_mem_cons.mpr ⟨ck_163_1, fun _ h => absurd h List.not_mem_nil⟩⟩)
theorem cm_163 : mchM 163 = true := by decide +kernel
theorem ck_164_0 : mchR 164 0 64 = true := by decide +kernel
theorem ck_164_1 : mchR 164 64 64 = true := by decide +kernel
theorem ck_164 : mchA 164 := mchA_of (n := 74) (l := [0, 1]) (by decide +kernel) (by decide) (by decide +kernel) (List.forall_mem_cons.mpr ⟨ck_164_0, List.forall_mem_cons.mpr ⟨ck_164_1, fun _ h => absurd h List.not_mem_nil⟩⟩)
theorem cm_164 : mchM 164 = true := by decide +kernel
theorem ck_165_0 : mchR 165 0 64 = true := by decide +kernel
theorem ck_165_1 : mchR 165 64 64 = true := by decide +kernel
theorem ck_165_2 : mchR 165 128 64 = true := by decide +kernel
theorem ck_165_3 : mchR 165 192 64 = true := by decide +kernel
theorem ck_165 : mchA 165 := mchA_of (n := 233) (l := [0, 1, 2, 3]) (by decide +kernel) (by decide) (by decide +kernel) (List.forall_mem_cons.mpr ⟨ck_165_0, List.forall_mem_cons.mpr ⟨ck_165_1, List.forall_mem_cons.mpr ⟨ck_165_2, List.forall_mem_cons.mpr ⟨ck_165_3, fun _ h => absurd h List.not_mem_nil⟩⟩⟩⟩)
theorem cm_165 : mchM 165 = true := by decide +kernel
theorem ck_166_0 : mchR 166 0 64 = true := by decide +kernel
theorem ck_166_1 : mchR 166 64 64 = true := by decide +kernel
theorem ck_166 : mchA 166 := mchA_of (n := 66) (l := [0, 1]) (by decide +kernel) (by decide) (by decide +kernel) (List.forall_mem_cons.mpr ⟨ck_166_0, List.forall_mem_cons.mpr ⟨ck_166_1, fun _ h => absurd h List.not_mem_nil⟩⟩)
theorem cm_166 : mchM 166 = true := by decide +kernel
theorem ck_167_0 : mchR 167 0 64 = true := by decide +kernel
theorem ck_167 : mchA 167 := mchA_of (n := 30) (l := [0]) (by decide +kernel) (by decide) (by decide +kernel) (List.forall_mem_cons.mpr ⟨ck_167_0, fun _ h => absurd h List.not_mem_nil⟩)
theorem cm_167 : mchM 167 = true := by decide +kernel
theorem ck_168_0 : mchR 168 0 64 = true := by decide +kernel
theorem ck_168 : mchA 168 := mchA_of (n := 60) (l := [0]) (by decide +kernel) (by decide) (by decide +kernel) (List.forall_mem_cons.mpr ⟨ck_168_0, fun _ h => absurd h List.not_mem_nil⟩)
theorem cm_168 : mchM 168 = true := by decide +kernel
theorem ck_169_0 : mchR 169 0 64 = true := by decide +kernel
theorem ck_169_1 : mchR 169 64 64 = true := by decide +kernel
theorem ck_169_2 : mchR 169 128 64 = true := by decide +kernel
theorem ck_169 : mchA 169 := mchA_of (n := 148) (l := [0, 1, 2]) (by decide +kernel) (by decide) (by decide +kernel) (List.forall_mem_cons.mpr ⟨ck_169_0, List.forall_mem_cons.mpr ⟨ck_169_1, List.forall_mem_cons.mpr ⟨ck_169_2, fun _ h => absurd h List.not_mem_nil⟩⟩⟩)
theorem cm_169 : mchM 169 = true := by decide +kernel
theorem ck_170_0 : mchR 170 0 64 = true := by decide +kernel
theorem ck_170_1 : mchR 170 64 64 = true := by decide +kernel
theorem ck_170_2 : mchR 170 128 64 = true := by decide +kernel
theorem ck_170 : mchA 170 := mchA_of (n := 137) (l := [0, 1, 2]) (by decide +kernel) (by decide) (by decide +kernel) (List.forall_mem_cons.mpr ⟨ck_170_0, List.forall_mem_cons.mpr ⟨ck_170_1, List.forall_mem_cons.mpr ⟨ck_170_2, fun _ h => absurd h List.not_mem_nil⟩⟩⟩)
theorem cm_170 : mchM 170 = true := by decide +kernel
theorem ck_171_0 : mchR 171 0 64 = true := by decide +kernel
theorem ck_171 : mchA 171 := mchA_of (n := 12) (l := [0]) (by decide +kernel) (by decide) (by decide +kernel) (List.forall_mem_cons.mpr ⟨ck_171_0, fun _ h => absurd h List.not_mem_nil⟩)
theorem cm_171 : mchM 171 = true := by decide +kernel
theorem ck_172_0 : mchR 172 0 64 = true := by decide +kernel
theorem ck_172_1 : mchR 172 64 64 = true := by decide +kernel
theorem ck_172 : mchA 172 := mchA_of (n := 124) (l := [0, 1]) (by decide +kernel) (by decide) (by decide +kernel) (List.forall_mem_cons.mpr ⟨ck_172_0, List.forall_mem_cons.mpr ⟨ck_172_1, fun _ h => absurd h List.not_mem_nil⟩⟩)
theorem cm_172 : mchM 172 = true := by decide +kernel
theorem ck_173_0 : mchR 173 0 64 = true := by decide +kernel
theorem ck_173_1 : mchR 173 64 64 = true := by decide +kernel
theorem ck_173_2 : mchR 173 128 64 = true := by decide +kernel
theorem ck_173_3 : mchR 173 192 64 = true := by decide +kernel
theorem ck_173 : mchA 173 := mchA_of (n := 199) (l := [0, 1, 2, 3]) (by decide +kernel) (by decide) (by decide +kernel) (List.forall_mem_cons.mpr ⟨ck_173_0, List.forall_mem_cons.mpr ⟨ck_173_1, List.forall_mem_cons.mpr ⟨ck_173_2, List.forall_mem_cons.mpr ⟨ck_173_3, fun _ h => absurd h List.not_mem_nil⟩⟩⟩⟩)
theorem cm_173 : mchM 173 = true := by decide +kernel
theorem ck_174_0 : mchR 174 0 64 = true := by decide +kernel
theorem ck_174_1 : mchR 174 64 64 = true := by decide +kernel
theorem ck_174 : mchA 174 := mchA_of (n := 66) (l := [0, 1]) (by decide +kernel) (by decide) (by decide +kernel) (List.forall_mem_cons.mpr ⟨ck_174_0, List.forall_mem_cons.mpr ⟨ck_174_1, fun _ h => absurd h List.not_mem_nil⟩⟩)
theorem cm_174 : mchM 174 = true := by decide +kernel
theorem ck_175_0 : mchR 175 0 64 = true := by decide +kernel
theorem ck_175 : mchA 175 := mchA_of (n := 25) (l := [0]) (by decide +kernel) (by decide) (by decide +kernel) (List.forall_mem_cons.mpr ⟨ck_175_0, fun _ h => absurd h List.not_mem_nil⟩)
theorem cm_175 : mchM 175 = true := by decide +kernel
theorem ck_176_0 : mchR 176 0 64 = true := by decide +kernel
theorem ck_176_1 : mchR 176 64 64 = true := by decide +kernel
theorem ck_176 : mchA 176 := mchA_of (n := 91) (l := [0, 1]) (by decide +kernel) (by decide) (by decide +kernel) (List.forall_mem_cons.mpr ⟨ck_176_0, List.forall_mem_cons.mpr ⟨ck_176_1, fun _ h => absurd h List.not_mem_nil⟩⟩)
theorem cm_176 : mchM 176 = true := by decide +kernel
theorem ck_177_0 : mchR 177 0 64 = true := by decide +kernel
theorem ck_177_1 : mchR 177 64 64 = true := by decide +kernel
theorem ck_177 : mchA 177 := mchA_of (n := 90) (l := [0, 1]) (by decide +kernel) (by decide) (by decide +kernel) (List.forall_mem_cons.mpr ⟨ck_177_0, List.forall_mem_cons.mpr ⟨ck_177_1, fun _ h => absurd h List.not_mem_nil⟩⟩)
theorem cm_177 : mchM 177 = true := by decide +kernel
theorem ck_178_0 : mchR 178 0 64 = true := by decide +kernel
theorem ck_178_1 : mchR 178 64 64 = true := by decide +kernel
theorem ck_178 : mchA 178 := mchA_of (n := 75) (l := [0, 1]) (by decide +kernel) (by decide) (by decide +kernel) (List.forall_mem_cons.mpr ⟨ck_178_0, List.forall_mem_cons.mpr ⟨ck_178_1, fun _ h => absurd h List.not_mem_nil⟩⟩)
theorem cm_178 : mchM 178 = true := by decide +kernel
theorem ck_179_0 : mchR 179 0 64 = true := by decide +kernel
theorem ck_179 : mchA 179 := mchA_of (n := 30) (l := [0]) (by decide +kernel) (by decide) (by decide +kernel) (List.forall_mem_cons.mpr ⟨ck_179_0, fun _ h => absurd h List.not_mem_nil⟩)
theorem cm_179 : mchM 179 = true := by decide +kernel
theorem ck_180_0 : mchR 180 0 64 = true := by decide +kernel
theorem ck_180_1 : mchR 180 64 64 = true := by decide +kernel
theorem ck_180 : mchA 180 := mchA_of (n := 74) (l := [0, 1]) (by decide +kernel) (by decide) (by decide +kernel) (List.forall_mem_cons.mpr ⟨ck_180_0, List.forall_mem_cons.mpr ⟨ck_180_1, fun _ h => absurd h List.not_mem_nil⟩⟩)
theorem cm_180 : mchM 180 = true := by decide +kernel
theorem ck_181_0 : mchR 181 0 64 = true := by decide +kernel
theorem ck_181_1 : mchR 181 64 64 = true := by decide +kernel
theorem ck_181 : mchA 181 := mchA_of (n := 128) (l := [0, 1]) (by decide +kernel) (by decide) (by decide +kernel) (List.forall_mem_cons.mpr ⟨ck_181_0, List.forall_mem_cons.mpr ⟨ck_181_1, fun _ h => absurd h List.not_mem_nil⟩⟩)
theorem cm_181 : mchM 181 = true := by decide +kernel
theorem ck_182_0 : mchR 182 0 64 = true := by decide +kernel
theorem ck_182_1 : mchR 182 64 64 = true := by decide +kernel
theorem ck_182_2 : mchR 182 128 64 = true := by decide +kernel
theorem ck_182_3 : mchR 182 192 64 = true := by decide +kernel
theorem ck_182_4 : mchR 182 256 64 = true := by decide +kernel
theorem ck_182 : mchA 182 := mchA_of (n := 282) (l := [0, 1, 2, 3, 4]) (by decide +kernel) (by decide) (by decide +kernel) (List.forall_mem_cons.mpr ⟨ck_182_0, List.forall_mem_cons.mpr ⟨ck_182_1, List.forall_mem_cons.mpr ⟨ck_182_2, List.forall_mem_cons.mpr ⟨ck_182_3, List.forall_mem_cons.mpr ⟨ck_182_4, fun _ h => absurd h List.not_mem_nil⟩⟩⟩⟩⟩)
theorem cm_182 : mchM 182 = true := by decide +kernel
theorem ck_183_0 : mchR 183 0 64 = true := by decide +kernel
theorem ck_183 : mchA 183 := mchA_of (n := 11) (l := [0]) (by decide +kernel) (by decide) (by decide +kernel) (List.forall_mem_cons.mpr ⟨ck_183_0, fun _ h => absurd h List.not_mem_nil⟩)
theorem cm_183 : mchM 183 = true := by decide +kernel
theorem ck_184_0 : mchR 184 0 64 = true := by decide +kernel
theorem ck_184 : mchA 184 := mchA_of (n := 11) (l := [0]) (by decide +kernel) (by decide) (by decide +kernel) (List.forall_mem_cons.mpr ⟨ck_184_0, fun _ h => absurd h List.not_mem_nil⟩)
theorem cm_184 : mchM 184 = true := by decide +kernel
theorem ck_185_0 : mchR 185 0 64 = true := by decide +kernel
theorem ck_185 : mchA 185 := mchA_of (n := 55) (l := [0]) (by decide +kernel) (by decide) (by decide +kernel) (List.forall_mem_cons.mpr ⟨ck_185_0, fun _ h => absurd h List.not_mem_nil⟩)
theorem cm_185 : mchM 185 = true := by decide +kernel
theorem ck_186_0 : mchR 186 0 64 = true := by decide +kernel
theorem ck_186_1 : mchR 186 64 64 = true := by decide +kernel
theorem ck_186 : mchA 186 := mchA_of (n := 93) (l := [0, 1]) (by decide +kernel) (by decide) (by decide +kernel) (List.forall_mem_cons.mpr ⟨ck_186_0, List.forall_mem_cons.mpr ⟨ck_186_1, fun _ h => absurd h List.not_mem_nil⟩⟩)
theorem cm_186 : mchM 186 = true := by decide +kernel
theorem ck_187_0 : mchR 187 0 64 = true := by decide +kernel
theorem ck_187 : mchA 187 := mchA_of (n := 45) (l := [0]) (by decide +kernel) (by decide) (by decide +kernel) (List.forall_mem_cons.mpr ⟨ck_187_0, fun _ h => absurd h List.not_mem_nil⟩)
theorem cm_187 : mchM 187 = true := by decide +kernel
theorem ck_188_0 : mchR 188 0 64 = true := by decide +kernel
theorem ck_188_1 : mchR 188 64 64 = true := by decide +kernel
theorem ck_188 : mchA 188 := mchA_of (n := 72) (l := [0, 1]) (by decide +kernel) (by decide) (by decide +kernel) (List.forall_mem_cons.mpr ⟨ck_188_0, List.forall_mem_cons.mpr ⟨ck_188_1, fun _ h => absurd h List.not_mem_nil⟩⟩)
theorem cm_188 : mchM 188 = true := by decide +kernel
theorem ck_189_0 : mchR 189 0 64 = true := by decide +kernel
theorem ck_189 : mchA 189 := mchA_of (n := 23) (l := [0]) (by decide +kernel) (by decide) (by decide +kernel) (List.forall_mem_cons.mpr ⟨ck_189_0, fun _ h => absurd h List.not_mem_nil⟩)
theorem cm_189 : mchM 189 = true := by decide +kernel
theorem ck_190_0 : mchR 190 0 64 = true := by decide +kernel
theorem ck_190_1 : mchR 190 64 64 = true := by decide +kernel
theorem ck_190 : mchA 190 := mchA_of (n := 85) (l := [0, 1]) (by decide +kernel) (by decide) (by decide +kernel) (List.forall_mem_cons.mpr ⟨ck_190_0, List.forall_mem_cons.mpr ⟨ck_190_1, fun _ h => absurd h List.not_mem_nil⟩⟩)
theorem cm_190 : mchM 190 = true := by decide +kernel
theorem ck_191_0 : mchR 191 0 64 = true := by decide +kernel
theorem ck_191_1 : mchR 191 64 64 = true := by decide +kernel
theorem ck_191 : mchA 191 := mchA_of (n := 83) (l := [0, 1]) (by decide +kernel) (by decide) (by decide +kernel) (List.forall_mem_cons.mpr ⟨ck_191_0, List.forall_mem_cons.mpr ⟨ck_191_1, fun _ h => absurd h List.not_mem_nil⟩⟩)
theorem cm_191 : mchM 191 = true := by decide +kernel
theorem ck_192_0 : mchR 192 0 64 = true := by decide +kernel
theorem ck_192 : mchA 192 := mchA_of (n := 50) (l := [0]) (by decide +kernel) (by decide) (by decide +kernel) (List.forall_mem_cons.mpr ⟨ck_192_0, fun _ h => absurd h List.not_mem_nil⟩)
theorem cm_192 : mchM 192 = true := by decide +kernel
theorem ck_193_0 : mchR 193 0 64 = true := by decide +kernel
theorem ck_193 : mchA 193 := mchA_of (n := 18) (l := [0]) (by decide +kernel) (by decide) (by decide +kernel) (List.forall_mem_cons.mpr ⟨ck_193_0, fun _ h => absurd h List.not_mem_nil⟩)
theorem cm_193 : mchM 193 = true := by decide +kernel
theorem ck_194_0 : mchR 194 0 64 = true := by decide +kernel
theorem ck_194 : mchA 194 := mchA_of (n := 18) (l := [0]) (by decide +kernel) (by decide) (by decide +kernel) (List.forall_mem_cons.mpr ⟨ck_194_0, fun _ h => absurd h List.not_mem_nil⟩)
theorem cm_194 : mchM 194 = true := by decide +kernel
theorem ck_195_0 : mchR 195 0 64 = true := by decide +kernel
theorem ck_195 : mchA 195 := mchA_of (n := 15) (l := [0]) (by decide +kernel) (by decide) (by decide +kernel) (List.forall_mem_cons.mpr ⟨ck_195_0, fun _ h => absurd h List.not_mem_nil⟩)
theorem cm_195 : mchM 195 = true := by decide +kernel
theorem ck_196_0 : mchR 196 0 64 = true := by decide +kernel
theorem ck_196_1 : mchR 196 64 64 = true := by decide +kernel
theorem ck_196 : mchA 196 := mchA_of (n := 105) (l := [0, 1]) (by decide +kernel) (by decide) (by decide +kernel) (List.forall_mem_cons.mpr ⟨ck_196_0, List.forall_mem_cons.mpr ⟨ck_196_1, fun _ h => absurd h List.not_mem_nil⟩⟩)
theorem cm_196 : mchM 196 = true := by decide +kernel
theorem ck_197_0 : mchR 197 0 64 = true := by decide +kernel
theorem ck_197 : mchA 197 := mchA_of (n := 38) (l := [0]) (by decide +kernel) (by decide) (by decide +kernel) (List.forall_mem_cons.mpr ⟨ck_197_0, fun _ h => absurd h List.not_mem_nil⟩)
theorem cm_197 : mchM 197 = true := by decide +kernel
theorem ck_198_0 : mchR 198 0 64 = true := by decide +kernel
theorem ck_198 : mchA 198 := mchA_of (n := 20) (l := [0]) (by decide +kernel) (by decide) (by decide +kernel) (List.forall_mem_cons.mpr ⟨ck_198_0, fun _ h => absurd h List.not_mem_nil⟩)
theorem cm_198 : mchM 198 = true := by decide +kernel
theorem ck_199_0 : mchR 199 0 64 = true := by decide +kernel
theorem ck_199 : mchA 199 := mchA_of (n := 27) (l := [0]) (by decide +kernel) (by decide) (by decide +kernel) (List.forall_mem_cons.mpr ⟨ck_199_0, fun _ h => absurd h List.not_mem_nil⟩)
theorem cm_199 : mchM 199 = true := by decide +kernel
theorem ck_200_0 : mchR 200 0 64 = true := by decide +kernel
theorem ck_200 : mchA 200 := mchA_of (n := 15) (l := [0]) (by decide +kernel) (by decide) (by decide +kernel) (List.forall_mem_cons.mpr ⟨ck_200_0, fun _ h => absurd h List.not_mem_nil⟩)
theorem cm_200 : mchM 200 = true := by decide +kernel
theorem ck_201_0 : mchR 201 0 64 = true := by decide +kernel
theorem ck_201 : mchA 201 := mchA_of (n := 22) (l := [0]) (by decide +kernel) (by decide) (by decide +kernel) (List.forall_mem_cons.mpr ⟨ck_201_0, fun _ h => absurd h List.not_mem_nil⟩)
theorem cm_201 : mchM 201 = true := by decide +kernel
theorem ck_202_0 : mchR 202 0 64 = true := by decide +kernel
theorem ck_202_1 : mchR 202 64 64 = true := by decide +kernel
theorem ck_202 : mchA 202 := mchA_of (n := 110) (l := [0, 1]) (by decide +kernel) (by decide) (by decide +kernel) (List.forall_mem_cons.mpr ⟨ck_202_0, List.forall_mem_cons.mpr ⟨ck_202_1, fun _ h => absurd h List.not_mem_nil⟩⟩)
theorem cm_202 : mchM 202 = true := by decide +kernel
theorem ck_203_0 : mchR 203 0 64 = true := by decide +kernel
theorem ck_203 : mchA 203 := mchA_of (n := 51) (l := [0]) (by decide +kernel) (by decide) (by decide +kernel) (List.forall_mem_cons.mpr ⟨ck_203_0, fun _ h => absurd h List.not_mem_nil⟩)
theorem cm_203 : mchM 203 = true := by decide +kernel
theorem ck_204_0 : mchR 204 0 64 = true := by decide +kernel
theorem ck_204 : mchA 204 := mchA_of (n := 32) (l := [0]) (by decide +kernel) (by decide) (by decide +kernel) (List.forall_mem_cons.mpr ⟨ck_204_0, fun _ h => absurd h List.not_mem_nil⟩)
theorem cm_204 : mchM 204 = true := by decide +kernel
theorem ck_205_0 : mchR 205 0 64 = true := by decide +kernel
theorem ck_205 : mchA 205 := mchA_of (n := 38) (l := [0]) (by decide +kernel) (by decide) (by decide +kernel) (List.forall_mem_cons.mpr ⟨ck_205_0, fun _ h => absurd h List.not_mem_nil⟩)
theorem cm_205 : mchM 205 = true := by decide +kernel
theorem ck_206_0 : mchR 206 0 64 = true := by decide +kernel
theorem ck_206 : mchA 206 := mchA_of (n := 20) (l := [0]) (by decide +kernel) (by decide) (by decide +kernel) (List.forall_mem_cons.mpr ⟨ck_206_0, fun _ h => absurd h List.not_mem_nil⟩)
theorem cm_206 : mchM 206 = true := by decide +kernel
theorem ck_207_0 : mchR 207 0 64 = true := by decide +kernel
theorem ck_207_1 : mchR 207 64 64 = true := by decide +kernel
theorem ck_207_2 : mchR 207 128 64 = true := by decide +kernel
theorem ck_207 : mchA 207 := mchA_of (n := 166) (l := [0, 1, 2]) (by decide +kernel) (by decide) (by decide +kernel) (List.forall_mem_cons.mpr ⟨ck_207_0, List.forall_mem_cons.mpr ⟨ck_207_1, List.forall_mem_cons.mpr ⟨ck_207_2, fun _ h => absurd h List.not_mem_nil⟩⟩⟩)
theorem cm_207 : mchM 207 = true := by decide +kernel
theorem ck_208_0 : mchR 208 0 64 = true := by decide +kernel
theorem ck_208 : mchA 208 := mchA_of (n := 63) (l := [0]) (by decide +kernel) (by decide) (by decide +kernel) (List.forall_mem_cons.mpr ⟨ck_208_0, fun _ h => absurd h List.not_mem_nil⟩)
theorem cm_208 : mchM 208 = true := by decide +kernel
theorem ck_209_0 : mchR 209 0 64 = true := by decide +kernel
theorem ck_209 : mchA 209 := mchA_of (n := 20) (l := [0]) (by decide +kernel) (by decide) (by decide +kernel) (List.forall_mem_cons.mpr ⟨ck_209_0, fun _ h => absurd h List.not_mem_nil⟩)
theorem cm_209 : mchM 209 = true := by decide +kernel
theorem ck_210_0 : mchR 210 0 64 = true := by decide +kernel
theorem ck_210_1 : mchR 210 64 64 = true := by decide +kernel
theorem ck_210 : mchA 210 := mchA_of (n := 65) (l := [0, 1]) (by decide +kernel) (by decide) (by decide +kernel) (List.forall_mem_cons.mpr ⟨ck_210_0, List.forall_mem_cons.mpr ⟨ck_210_1, fun _ h => absurd h List.not_mem_nil⟩⟩)
theorem cm_210 : mchM 210 = true := by decide +kernel
theorem ck_211_0 : mchR 211 0 64 = true := by decide +kernel
theorem ck_211_1 : mchR 211 64 64 = true := by decide +kernel
theorem ck_211 : mchA 211 := mchA_of (n := 78) (l := [0, 1]) (by decide +kernel) (by decide) (by decide +kernel) (List.forall_mem_cons.mpr ⟨ck_211_0, List.forall_mem_cons.mpr ⟨ck_211_1, fun _ h => absurd h List.not_mem_nil⟩⟩)
theorem cm_211 : mchM 211 = true := by decide +kernel
theorem ck_212_0 : mchR 212 0 64 = true := by decide +kernel
theorem ck_212 : mchA 212 := mchA_of (n := 19) (l := [0]) (by decide +kernel) (by decide) (by decide +kernel) (List.forall_mem_cons.mpr ⟨ck_212_0, fun _ h => absurd h List.not_mem_nil⟩)
theorem cm_212 : mchM 212 = true := by decide +kernel
theorem ck_213_0 : mchR 213 0 64 = true := by decide +kernel
theorem ck_213 : mchA 213 := mchA_of (n := 21) (l := [0]) (by decide +kernel) (by decide) (by decide +kernel) (List.forall_mem_cons.mpr ⟨ck_213_0, fun _ h => absurd h List.not_mem_nil⟩)
theorem cm_213 : mchM 213 = true := by decide +kernel
theorem ck_214_0 : mchR 214 0 64 = true := by decide +kernel
theorem ck_214_1 : mchR 214 64 64 = true := by decide +kernel
theorem ck_214 : mchA 214 := mchA_of (n := 88) (l := [0, 1]) (by decide +kernel) (by decide) (by decide +kernel) (List.forall_mem_cons.mpr ⟨ck_214_0, List.forall_mem_cons.mpr ⟨ck_214_1, fun _ h => absurd h List.not_mem_nil⟩⟩)
theorem cm_214 : mchM 214 = true := by decide +kernel
theorem ck_215_0 : mchR 215 0 64 = true := by decide +kernel
theorem ck_215_1 : mchR 215 64 64 = true := by decide +kernel
theorem ck_215 : mchA 215 := mchA_of (n := 109) (l := [0, 1]) (by decide +kernel) (by decide) (by decide +kernel) (List.forall_mem_cons.mpr ⟨ck_215_0, List.forall_mem_cons.mpr ⟨ck_215_1, fun _ h => absurd h List.not_mem_nil⟩⟩)
theorem cm_215 : mchM 215 = true := by decide +kernel
theorem ck_216_0 : mchR 216 0 64 = true := by decide +kernel
theorem ck_216_1 : mchR 216 64 64 = true := by decide +kernel
theorem ck_216_2 : mchR 216 128 64 = true := by decide +kernel
theorem ck_216_3 : mchR 216 192 64 = true := by decide +kernel
theorem ck_216 : mchA 216 := mchA_of (n := 251) (l := [0, 1, 2, 3]) (by decide +kernel) (by decide) (by decide +kernel) (List.forall_mem_cons.mpr ⟨ck_216_0, List.forall_mem_cons.mpr ⟨ck_216_1, List.forall_mem_cons.mpr ⟨ck_216_2, List.forall_mem_cons.mpr ⟨ck_216_3, fun _ h => absurd h List.not_mem_nil⟩⟩⟩⟩)
theorem cm_216 : mchM 216 = true := by decide +kernel
theorem ck_217_0 : mchR 217 0 64 = true := by decide +kernel
theorem ck_217_1 : mchR 217 64 64 = true := by decide +kernel
theorem ck_217 : mchA 217 := mchA_of (n := 105) (l := [0, 1]) (by decide +kernel) (by decide) (by decide +kernel) (List.forall_mem_cons.mpr ⟨ck_217_0, List.forall_mem_cons.mpr ⟨ck_217_1, fun _ h => absurd h List.not_mem_nil⟩⟩)
theorem cm_217 : mchM 217 = true := by decide +kernel
theorem ck_218_0 : mchR 218 0 64 = true := by decide +kernel
theorem ck_218_1 : mchR 218 64 64 = true := by decide +kernel
theorem ck_218 : mchA 218 := mchA_of (n := 123) (l := [0, 1]) (by decide +kernel) (by decide) (by decide +kernel) (List.forall_mem_cons.mpr ⟨ck_218_0, List.forall_mem_cons.mpr ⟨ck_218_1, fun _ h => absurd h List.not_mem_nil⟩⟩)
theorem cm_218 : mchM 218 = true := by decide +kernel
theorem ck_219_0 : mchR 219 0 64 = true := by decide +kernel
theorem ck_219_1 : mchR 219 64 64 = true := by decide +kernel
theorem ck_219_2 : mchR 219 128 64 = true := by decide +kernel
theorem ck_219 : mchA 219 := mchA_of (n := 191) (l := [0, 1, 2]) (by decide +kernel) (by decide) (by decide +kernel) (List.forall_mem_cons.mpr ⟨ck_219_0, List.forall_mem_cons.mpr ⟨ck_219_1, List.forall_mem_cons.mpr ⟨ck_219_2, fun _ h => absurd h List.not_mem_nil⟩⟩⟩)
theorem cm_219 : mchM 219 = true := by decide +kernel
theorem ck_220_0 : mchR 220 0 64 = true := by decide +kernel
theorem ck_220_1 : mchR 220 64 64 = true := by decide +kernel
theorem ck_220_2 : mchR 220 128 64 = true := by decide +kernel
theorem ck_220 : mchA 220 := mchA_of (n := 133) (l := [0, 1, 2]) (by decide +kernel) (by decide) (by decide +kernel) (List.forall_mem_cons.mpr ⟨ck_220_0, List.forall_mem_cons.mpr ⟨ck_220_1, List.forall_mem_cons.mpr ⟨ck_220_2, fun _ h => absurd h List.not_mem_nil⟩⟩⟩)
theorem cm_220 : mchM 220 = true := by decide +kernel
