/-! The tables keep to it: methods 130 to 209 -/
set_option maxRecDepth 100000 in
theorem zk_130 : zchk 130 zm_130 = true := by decide +kernel
set_option maxRecDepth 100000 in
theorem zk_131 : zchk 131 zm_131 = true := by decide +kernel
set_option maxRecDepth 100000 in
theorem zk_132 : zchk 132 zm_132 = true := by decide +kernel
set_option maxRecDepth 100000 in
theorem zk_133 : zchk 133 zm_133 = true := by decide +kernel
set_option maxRecDepth 100000 in
theorem zk_134 : zchk 134 zm_134 = true := by decide +kernel
set_option maxRecDepth 100000 in
theorem zk_135 : zchk 135 zm_135 = true := by decide +kernel
set_option maxRecDepth 100000 in
theorem zk_136 : zchk 136 zm_136 = true := by decide +kernel
set_option maxRecDepth 100000 in
theorem zk_137 : zchk 137 zm_137 = true := by decide +kernel
set_option maxRecDepth 100000 in
theorem zk_138 : zchk 138 zm_138 = true := by decide +kernel
set_option maxRecDepth 100000 in
theorem zk_139 : zchk 139 zm_139 = true := by decide +kernel
set_option maxRecDepth 100000 in
theorem zk_140 : zchk 140 zm_140 = true := by decide +kernel
set_option maxRecDepth 100000 in
theorem zk_141 : zchk 141 zm_141 = true := by decide +kernel
set_option maxRecDepth 100000 in
theorem zk_142 : zchk 142 zm_142 = true := by decide +kernel
set_option maxRecDepth 100000 in
theorem zk_143 : zchk 143 zm_143 = true := by decide +kernel
set_option maxRecDepth 100000 in
theorem zk_144 : zchk 144 zm_144 = true := by decide +kernel
set_option maxRecDepth 100000 in
theorem zk_145 : zchk 145 zm_145 = true := by decide +kernel
set_option maxRecDepth 100000 in
theorem zk_146 : zchk 146 zm_146 = true := by decide +kernel
set_option maxRecDepth 100000 in
theorem zk_147 : zchk 147 zm_147 = true := by decide +kernel
set_option maxRecDepth 100000 in
theorem zk_148 : zchk 148 zm_148 = true := by decide +kernel
set_option maxRecDepth 100000 in
theorem zk_149 : zchk 149 zm_149 = true := by decide +kernel
set_option maxRecDepth 100000 in
theorem zk_150 : zchk 150 zm_150 = true := by decide +kernel
set_option maxRecDepth 100000 in
theorem zk_151 : zchk 151 zm_151 = true := by decide +kernel
set_option maxRecDepth 100000 in
theorem zk_152 : zchk 152 zm_152 = true := by decide +kernel
set_option maxRecDepth 100000 in
theorem zk_153 : zchk 153 zm_153 = true := by decide +kernel
set_option maxRecDepth 100000 in
theorem zk_154 : zchk 154 zm_154 = true := by decide +kernel
set_option maxRecDepth 100000 in
theorem zk_155 : zchk 155 zm_155 = true := by decide +kernel
set_option maxRecDepth 100000 in
theorem zk_156 : zchk 156 zm_156 = true := by decide +kernel
set_option maxRecDepth 100000 in
theorem zk_157 : zchk 157 zm_157 = true := by decide +kernel
set_option maxRecDepth 100000 in
theorem zk_158 : zchk 158 zm_158 = true := by decide +kernel
set_option maxRecDepth 100000 in
theorem zk_159 : zchk 159 zm_159 = true := by decide +kernel
set_option maxRecDepth 100000 in
theorem zk_160 : zchk 160 zm_160 = true := by decide +kernel
set_option maxRecDepth 100000 in
theorem zk_161 : zchk 161 zm_161 = true := by decide +kernel
set_option maxRecDepth 100000 in
theorem zk_162 : zchk 162 zm_162 = true := by decide +kernel
set_option maxRecDepth 100000 in
theorem zk_163 : zchk 163 zm_163 = true := by decide +kernel
set_option maxRecDepth 100000 in
theorem zk_164 : zchk 164 zm_164 = true := by decide +kernel
set_option maxRecDepth 100000 in
theorem zk_165 : zchk 165 zm_165 = true := by decide +kernel
set_option maxRecDepth 100000 in
theorem zk_166 : zchk 166 zm_166 = true := by decide +kernel
set_option maxRecDepth 100000 in
theorem zk_167 : zchk 167 zm_167 = true := by decide +kernel
set_option maxRecDepth 100000 in
theorem zk_168 : zchk 168 zm_168 = true := by decide +kernel
set_option maxRecDepth 100000 in
theorem zk_169 : zchk 169 zm_169 = true := by decide +kernel
set_option maxRecDepth 100000 in
theorem zk_170 : zchk 170 zm_170 = true := by decide +kernel
set_option maxRecDepth 100000 in
theorem zk_171 : zchk 171 zm_171 = true := by decide +kernel
set_option maxRecDepth 100000 in
theorem zk_172 : zchk 172 zm_172 = true := by decide +kernel
set_option maxRecDepth 100000 in
theorem zk_173 : zchk 173 zm_173 = true := by decide +kernel
set_option maxRecDepth 100000 in
theorem zk_174 : zchk 174 zm_174 = true := by decide +kernel
set_option maxRecDepth 100000 in
theorem zk_175 : zchk 175 zm_175 = true := by decide +kernel
set_option maxRecDepth 100000 in
theorem zk_176 : zchk 176 zm_176 = true := by decide +kernel
set_option maxRecDepth 100000 in
theorem zk_177 : zchk 177 zm_177 = true := by decide +kernel
set_option maxRecDepth 100000 in
theorem zk_178 : zchk 178 zm_178 = true := by decide +kernel
set_option maxRecDepth 100000 in
theorem zk_179 : zchk 179 zm_179 = true := by decide +kernel
set_option maxRecDepth 100000 in
theorem zk_180 : zchk 180 zm_180 = true := by decide +kernel
set_option maxRecDepth 100000 in
theorem zk_181 : zchk 181 zm_181 = true := by decide +kernel
set_option maxRecDepth 100000 in
theorem zk_182 : zchk 182 zm_182 = true := by decide +kernel
set_option maxRecDepth 100000 in
theorem zk_183 : zchk 183 zm_183 = true := by decide +kernel
set_option maxRecDepth 100000 in
theorem zk_184 : zchk 184 zm_184 = true := by decide +kernel
set_option maxRecDepth 100000 in
theorem zk_185 : zchk 185 zm_185 = true := by decide +kernel
set_option maxRecDepth 100000 in
theorem zk_186 : zchk 186 zm_186 = true := by decide +kernel
set_option maxRecDepth 100000 in
theorem zk_187 : zchk 187 zm_187 = true := by decide +kernel
set_option maxRecDepth 100000 in
theorem zk_188 : zchk 188 zm_188 = true := by decide +kernel
set_option maxRecDepth 100000 in
theorem zk_189 : zchk 189 zm_189 = true := by decide +kernel
set_option maxRecDepth 100000 in
theorem zk_190 : zchk 190 zm_190 = true := by decide +kernel
set_option maxRecDepth 100000 in
theorem zk_191 : zchk 191 zm_191 = true := by decide +kernel
set_option maxRecDepth 100000 in
theorem zk_192 : zchk 192 zm_192 = true := by decide +kernel
set_option maxRecDepth 100000 in
theorem zk_193 : zchk 193 zm_193 = true := by decide +kernel
set_option maxRecDepth 100000 in
theorem zk_194 : zchk 194 zm_194 = true := by decide +kernel
set_option maxRecDepth 100000 in
theorem zk_195 : zchk 195 zm_195 = true := by decide +kernel
set_option maxRecDepth 100000 in
theorem zk_196 : zchk 196 zm_196 = true := by decide +kernel
set_option maxRecDepth 100000 in
theorem zk_197 : zchk 197 zm_197 = true := by decide +kernel
set_option maxRecDepth 100000 in
theorem zk_198 : zchk 198 zm_198 = true := by decide +kernel
set_option maxRecDepth 100000 in
theorem zk_199 : zchk 199 zm_199 = true := by decide +kernel
set_option maxRecDepth 100000 in
theorem zk_200 : zchk 200 zm_200 = true := by decide +kernel
set_option maxRecDepth 100000 in
theorem zk_201 : zchk 201 zm_201 = true := by decide +kernel
set_option maxRecDepth 100000 in
theorem zk_202 : zchk 202 zm_202 = true := by decide +kernel
set_option maxRecDepth 100000 in
theorem zk_203 : zchk 203 zm_203 = true := by decide +kernel
set_option maxRecDepth 100000 in
theorem zk_204 : zchk 204 zm_204 = true := by decide +kernel
set_option maxRecDepth 100000 in
theorem zk_205 : zchk 205 zm_205 = true := by decide +kernel
set_option maxRecDepth 100000 in
theorem zk_206 : zchk 206 zm_206 = true := by decide +kernel
set_option maxRecDepth 100000 in
theorem zk_207 : zchk 207 zm_207 = true := by decide +kernel
set_option maxRecDepth 100000 in
theorem zk_208 : zchk 208 zm_208 = true := by decide +kernel
set_option maxRecDepth 100000 in
theorem zk_209 : zchk 209 zm_209 = true := by decide +kernel
