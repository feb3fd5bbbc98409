set_option maxRecDepth 100000 in
theorem jmc_180 : lw_tbl[1504]? = some (.code (jY 180) (jC 180) (jM 180) (jR 180)) := rfl
theorem jm_180 : jmOK 180 = true := by decide +kernel
set_option maxRecDepth 100000 in
theorem jmc_181 : lw_tbl[1513]? = some (.code (jY 181) (jC 181) (jM 181) (jR 181)) := rfl
theorem jm_181 : jmOK 181 = true := by decide +kernel
set_option maxRecDepth 100000 in
theorem jmc_182 : lw_tbl[1532]? = some (.code (jY 182) (jC 182) (jM 182) (jR 182)) := rfl
theorem jm_182 : jmOK 182 = true := by decide +kernel
set_option maxRecDepth 100000 in
theorem jmc_183 : lw_tbl[1569]? = some (.code (jY 183) (jC 183) (jM 183) (jR 183)) := rfl
theorem jm_183 : jmOK 183 = true := by decide +kernel
set_option maxRecDepth 100000 in
theorem jmc_184 : lw_tbl[1573]? = some (.code (jY 184) (jC 184) (jM 184) (jR 184)) := rfl
theorem jm_184 : jmOK 184 = true := by decide +kernel
set_option maxRecDepth 100000 in
theorem jmc_185 : lw_tbl[1577]? = some (.code (jY 185) (jC 185) (jM 185) (jR 185)) := rfl
theorem jm_185 : jmOK 185 = true := by decide +kernel
set_option maxRecDepth 100000 in
theorem jmc_186 : lw_tbl[1582]? = some (.code (jY 186) (jC 186) (jM 186) (jR 186)) := rfl
theorem jm_186 : jmOK 186 = true := by decide +kernel
set_option maxRecDepth 100000 in
theorem jmc_187 : lw_tbl[730]? = some (.code (jY 187) (jC 187) (jM 187) (jR 187)) := rfl
theorem jm_187 : jmOK 187 = true := by decide +kernel
set_option maxRecDepth 100000 in
theorem jmc_188 : lw_tbl[1064]? = some (.code (jY 188) (jC 188) (jM 188) (jR 188)) := rfl
theorem jm_188 : jmOK 188 = true := by decide +kernel
set_option maxRecDepth 100000 in
theorem jmc_189 : lw_tbl[1076]? = some (.code (jY 189) (jC 189) (jM 189) (jR 189)) := rfl
theorem jm_189 : jmOK 189 = true := by decide +kernel
set_option maxRecDepth 100000 in
theorem jmc_190 : lw_tbl[727]? = some (.code (jY 190) (jC 190) (jM 190) (jR 190)) := rfl
theorem jm_190 : jmOK 190 = true := by decide +kernel
set_option maxRecDepth 100000 in
theorem jmc_191 : lw_tbl[1452]? = some (.code (jY 191) (jC 191) (jM 191) (jR 191)) := rfl
theorem jm_191 : jmOK 191 = true := by decide +kernel
set_option maxRecDepth 100000 in
theorem jmc_192 : lw_tbl[742]? = some (.code (jY 192) (jC 192) (jM 192) (jR 192)) := rfl
theorem jm_192 : jmOK 192 = true := by decide +kernel
set_option maxRecDepth 100000 in
theorem jmc_193 : lw_tbl[750]? = some (.code (jY 193) (jC 193) (jM 193) (jR 193)) := rfl
theorem jm_193 : jmOK 193 = true := by decide +kernel
set_option maxRecDepth 100000 in
theorem jmc_194 : lw_tbl[778]? = some (.code (jY 194) (jC 194) (jM 194) (jR 194)) := rfl
theorem jm_194 : jmOK 194 = true := by decide +kernel
set_option maxRecDepth 100000 in
theorem jmc_195 : lw_tbl[1048]? = some (.code (jY 195) (jC 195) (jM 195) (jR 195)) := rfl
theorem jm_195 : jmOK 195 = true := by decide +kernel
set_option maxRecDepth 100000 in
theorem jmc_196 : lw_tbl[1251]? = some (.code (jY 196) (jC 196) (jM 196) (jR 196)) := rfl
theorem jm_196 : jmOK 196 = true := by decide +kernel
set_option maxRecDepth 100000 in
theorem jmc_197 : lw_tbl[1104]? = some (.code (jY 197) (jC 197) (jM 197) (jR 197)) := rfl
theorem jm_197 : jmOK 197 = true := by decide +kernel
set_option maxRecDepth 100000 in
theorem jmc_198 : lw_tbl[1170]? = some (.code (jY 198) (jC 198) (jM 198) (jR 198)) := rfl
theorem jm_198 : jmOK 198 = true := by decide +kernel
set_option maxRecDepth 100000 in
theorem jmc_199 : lw_tbl[1587]? = some (.code (jY 199) (jC 199) (jM 199) (jR 199)) := rfl
theorem jm_199 : jmOK 199 = true := by decide +kernel
set_option maxRecDepth 100000 in
theorem jmc_200 : lw_tbl[1869]? = some (.code (jY 200) (jC 200) (jM 200) (jR 200)) := rfl
theorem jm_200 : jmOK 200 = true := by decide +kernel
set_option maxRecDepth 100000 in
theorem jmc_201 : lw_tbl[1861]? = some (.code (jY 201) (jC 201) (jM 201) (jR 201)) := rfl
theorem jm_201 : jmOK 201 = true := by decide +kernel
set_option maxRecDepth 100000 in
theorem jmc_202 : lw_tbl[1876]? = some (.code (jY 202) (jC 202) (jM 202) (jR 202)) := rfl
theorem jm_202 : jmOK 202 = true := by decide +kernel
set_option maxRecDepth 100000 in
theorem jmc_203 : lw_tbl[1596]? = some (.code (jY 203) (jC 203) (jM 203) (jR 203)) := rfl
theorem jm_203 : jmOK 203 = true := by decide +kernel
set_option maxRecDepth 100000 in
theorem jmc_204 : lw_tbl[1873]? = some (.code (jY 204) (jC 204) (jM 204) (jR 204)) := rfl
theorem jm_204 : jmOK 204 = true := by decide +kernel
set_option maxRecDepth 100000 in
theorem jmc_205 : lw_tbl[1884]? = some (.code (jY 205) (jC 205) (jM 205) (jR 205)) := rfl
theorem jm_205 : jmOK 205 = true := by decide +kernel
set_option maxRecDepth 100000 in
theorem jmc_206 : lw_tbl[1924]? = some (.code (jY 206) (jC 206) (jM 206) (jR 206)) := rfl
theorem jm_206 : jmOK 206 = true := by decide +kernel
set_option maxRecDepth 100000 in
theorem jmc_207 : lw_tbl[1857]? = some (.code (jY 207) (jC 207) (jM 207) (jR 207)) := rfl
theorem jm_207 : jmOK 207 = true := by decide +kernel
set_option maxRecDepth 100000 in
theorem jmc_208 : lw_tbl[1891]? = some (.code (jY 208) (jC 208) (jM 208) (jR 208)) := rfl
theorem jm_208 : jmOK 208 = true := by decide +kernel
set_option maxRecDepth 100000 in
theorem jmc_209 : lw_tbl[2156]? = some (.code (jY 209) (jC 209) (jM 209) (jR 209)) := rfl
theorem jm_209 : jmOK 209 = true := by decide +kernel
set_option maxRecDepth 100000 in
theorem jmc_210 : lw_tbl[1920]? = some (.code (jY 210) (jC 210) (jM 210) (jR 210)) := rfl
theorem jm_210 : jmOK 210 = true := by decide +kernel
set_option maxRecDepth 100000 in
theorem jmc_211 : lw_tbl[1990]? = some (.code (jY 211) (jC 211) (jM 211) (jR 211)) := rfl
theorem jm_211 : jmOK 211 = true := by decide +kernel
set_option maxRecDepth 100000 in
theorem jmc_212 : lw_tbl[1865]? = some (.code (jY 212) (jC 212) (jM 212) (jR 212)) := rfl
theorem jm_212 : jmOK 212 = true := by decide +kernel
set_option maxRecDepth 100000 in
theorem jmc_213 : lw_tbl[1880]? = some (.code (jY 213) (jC 213) (jM 213) (jR 213)) := rfl
theorem jm_213 : jmOK 213 = true := by decide +kernel
set_option maxRecDepth 100000 in
theorem jmc_214 : lw_tbl[1888]? = some (.code (jY 214) (jC 214) (jM 214) (jR 214)) := rfl
theorem jm_214 : jmOK 214 = true := by decide +kernel
set_option maxRecDepth 100000 in
theorem jmc_215 : lw_tbl[1895]? = some (.code (jY 215) (jC 215) (jM 215) (jR 215)) := rfl
theorem jm_215 : jmOK 215 = true := by decide +kernel
set_option maxRecDepth 100000 in
theorem jmc_216 : lw_tbl[1899]? = some (.code (jY 216) (jC 216) (jM 216) (jR 216)) := rfl
theorem jm_216 : jmOK 216 = true := by decide +kernel
set_option maxRecDepth 100000 in
theorem jmc_217 : lw_tbl[1908]? = some (.code (jY 217) (jC 217) (jM 217) (jR 217)) := rfl
theorem jm_217 : jmOK 217 = true := by decide +kernel
set_option maxRecDepth 100000 in
theorem jmc_218 : lw_tbl[1904]? = some (.code (jY 218) (jC 218) (jM 218) (jR 218)) := rfl
theorem jm_218 : jmOK 218 = true := by decide +kernel
set_option maxRecDepth 100000 in
theorem jmc_219 : lw_tbl[1912]? = some (.code (jY 219) (jC 219) (jM 219) (jR 219)) := rfl
theorem jm_219 : jmOK 219 = true := by decide +kernel
set_option maxRecDepth 100000 in
theorem jmc_220 : lw_tbl[1916]? = some (.code (jY 220) (jC 220) (jM 220) (jR 220)) := rfl
theorem jm_220 : jmOK 220 = true := by decide +kernel
set_option maxRecDepth 100000 in
theorem jmc_221 : lw_tbl[1928]? = some (.code (jY 221) (jC 221) (jM 221) (jR 221)) := rfl
theorem jm_221 : jmOK 221 = true := by decide +kernel
set_option maxRecDepth 100000 in
theorem jmc_222 : lw_tbl[1937]? = some (.code (jY 222) (jC 222) (jM 222) (jR 222)) := rfl
theorem jm_222 : jmOK 222 = true := by decide +kernel
set_option maxRecDepth 100000 in
theorem jmc_223 : lw_tbl[1932]? = some (.code (jY 223) (jC 223) (jM 223) (jR 223)) := rfl
theorem jm_223 : jmOK 223 = true := by decide +kernel
set_option maxRecDepth 100000 in
theorem jmc_224 : lw_tbl[1941]? = some (.code (jY 224) (jC 224) (jM 224) (jR 224)) := rfl
theorem jm_224 : jmOK 224 = true := by decide +kernel
set_option maxRecDepth 100000 in
theorem jmc_225 : lw_tbl[1950]? = some (.code (jY 225) (jC 225) (jM 225) (jR 225)) := rfl
theorem jm_225 : jmOK 225 = true := by decide +kernel
set_option maxRecDepth 100000 in
theorem jmc_226 : lw_tbl[1954]? = some (.code (jY 226) (jC 226) (jM 226) (jR 226)) := rfl
theorem jm_226 : jmOK 226 = true := by decide +kernel
set_option maxRecDepth 100000 in
theorem jmc_227 : lw_tbl[1962]? = some (.code (jY 227) (jC 227) (jM 227) (jR 227)) := rfl
theorem jm_227 : jmOK 227 = true := by decide +kernel
set_option maxRecDepth 100000 in
theorem jmc_228 : lw_tbl[1946]? = some (.code (jY 228) (jC 228) (jM 228) (jR 228)) := rfl
theorem jm_228 : jmOK 228 = true := by decide +kernel
set_option maxRecDepth 100000 in
theorem jmc_229 : lw_tbl[1958]? = some (.code (jY 229) (jC 229) (jM 229) (jR 229)) := rfl
theorem jm_229 : jmOK 229 = true := by decide +kernel
set_option maxRecDepth 100000 in
theorem jmc_230 : lw_tbl[1966]? = some (.code (jY 230) (jC 230) (jM 230) (jR 230)) := rfl
theorem jm_230 : jmOK 230 = true := by decide +kernel
set_option maxRecDepth 100000 in
theorem jmc_231 : lw_tbl[1970]? = some (.code (jY 231) (jC 231) (jM 231) (jR 231)) := rfl
theorem jm_231 : jmOK 231 = true := by decide +kernel
set_option maxRecDepth 100000 in
theorem jmc_232 : lw_tbl[1974]? = some (.code (jY 232) (jC 232) (jM 232) (jR 232)) := rfl
theorem jm_232 : jmOK 232 = true := by decide +kernel
set_option maxRecDepth 100000 in
theorem jmc_233 : lw_tbl[1986]? = some (.code (jY 233) (jC 233) (jM 233) (jR 233)) := rfl
theorem jm_233 : jmOK 233 = true := by decide +kernel
set_option maxRecDepth 100000 in
theorem jmc_234 : lw_tbl[1998]? = some (.code (jY 234) (jC 234) (jM 234) (jR 234)) := rfl
theorem jm_234 : jmOK 234 = true := by decide +kernel
set_option maxRecDepth 100000 in
theorem jmc_235 : lw_tbl[1994]? = some (.code (jY 235) (jC 235) (jM 235) (jR 235)) := rfl
theorem jm_235 : jmOK 235 = true := by decide +kernel
set_option maxRecDepth 100000 in
theorem jmc_236 : lw_tbl[1982]? = some (.code (jY 236) (jC 236) (jM 236) (jR 236)) := rfl
theorem jm_236 : jmOK 236 = true := by decide +kernel
set_option maxRecDepth 100000 in
theorem jmc_237 : lw_tbl[2002]? = some (.code (jY 237) (jC 237) (jM 237) (jR 237)) := rfl
theorem jm_237 : jmOK 237 = true := by decide +kernel
set_option maxRecDepth 100000 in
theorem jmc_238 : lw_tbl[1978]? = some (.code (jY 238) (jC 238) (jM 238) (jR 238)) := rfl
theorem jm_238 : jmOK 238 = true := by decide +kernel
set_option maxRecDepth 100000 in
theorem jmc_239 : lw_tbl[2006]? = some (.code (jY 239) (jC 239) (jM 239) (jR 239)) := rfl
theorem jm_239 : jmOK 239 = true := by decide +kernel
