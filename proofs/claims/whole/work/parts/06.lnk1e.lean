set_option maxRecDepth 100000 in
theorem jmc_240 : lw_tbl[2011]? = some (.code (jY 240) (jC 240) (jM 240) (jR 240)) := rfl
theorem jm_240 : jmOK 240 = true := by decide +kernel
set_option maxRecDepth 100000 in
theorem jmc_241 : lw_tbl[2019]? = some (.code (jY 241) (jC 241) (jM 241) (jR 241)) := rfl
theorem jm_241 : jmOK 241 = true := by decide +kernel
set_option maxRecDepth 100000 in
theorem jmc_242 : lw_tbl[2015]? = some (.code (jY 242) (jC 242) (jM 242) (jR 242)) := rfl
theorem jm_242 : jmOK 242 = true := by decide +kernel
set_option maxRecDepth 100000 in
theorem jmc_243 : lw_tbl[2039]? = some (.code (jY 243) (jC 243) (jM 243) (jR 243)) := rfl
theorem jm_243 : jmOK 243 = true := by decide +kernel
set_option maxRecDepth 100000 in
theorem jmc_244 : lw_tbl[2035]? = some (.code (jY 244) (jC 244) (jM 244) (jR 244)) := rfl
theorem jm_244 : jmOK 244 = true := by decide +kernel
set_option maxRecDepth 100000 in
theorem jmc_245 : lw_tbl[2055]? = some (.code (jY 245) (jC 245) (jM 245) (jR 245)) := rfl
theorem jm_245 : jmOK 245 = true := by decide +kernel
set_option maxRecDepth 100000 in
theorem jmc_246 : lw_tbl[2031]? = some (.code (jY 246) (jC 246) (jM 246) (jR 246)) := rfl
theorem jm_246 : jmOK 246 = true := by decide +kernel
set_option maxRecDepth 100000 in
theorem jmc_247 : lw_tbl[2027]? = some (.code (jY 247) (jC 247) (jM 247) (jR 247)) := rfl
theorem jm_247 : jmOK 247 = true := by decide +kernel
set_option maxRecDepth 100000 in
theorem jmc_248 : lw_tbl[2047]? = some (.code (jY 248) (jC 248) (jM 248) (jR 248)) := rfl
theorem jm_248 : jmOK 248 = true := by decide +kernel
set_option maxRecDepth 100000 in
theorem jmc_249 : lw_tbl[2051]? = some (.code (jY 249) (jC 249) (jM 249) (jR 249)) := rfl
theorem jm_249 : jmOK 249 = true := by decide +kernel
set_option maxRecDepth 100000 in
theorem jmc_250 : lw_tbl[2043]? = some (.code (jY 250) (jC 250) (jM 250) (jR 250)) := rfl
theorem jm_250 : jmOK 250 = true := by decide +kernel
set_option maxRecDepth 100000 in
theorem jmc_251 : lw_tbl[2059]? = some (.code (jY 251) (jC 251) (jM 251) (jR 251)) := rfl
theorem jm_251 : jmOK 251 = true := by decide +kernel
set_option maxRecDepth 100000 in
theorem jmc_252 : lw_tbl[2063]? = some (.code (jY 252) (jC 252) (jM 252) (jR 252)) := rfl
theorem jm_252 : jmOK 252 = true := by decide +kernel
set_option maxRecDepth 100000 in
theorem jmc_253 : lw_tbl[2075]? = some (.code (jY 253) (jC 253) (jM 253) (jR 253)) := rfl
theorem jm_253 : jmOK 253 = true := by decide +kernel
set_option maxRecDepth 100000 in
theorem jmc_254 : lw_tbl[2072]? = some (.code (jY 254) (jC 254) (jM 254) (jR 254)) := rfl
theorem jm_254 : jmOK 254 = true := by decide +kernel
set_option maxRecDepth 100000 in
theorem jmc_255 : lw_tbl[2023]? = some (.code (jY 255) (jC 255) (jM 255) (jR 255)) := rfl
theorem jm_255 : jmOK 255 = true := by decide +kernel
set_option maxRecDepth 100000 in
theorem jmc_256 : lw_tbl[2068]? = some (.code (jY 256) (jC 256) (jM 256) (jR 256)) := rfl
theorem jm_256 : jmOK 256 = true := by decide +kernel
set_option maxRecDepth 100000 in
theorem jmc_257 : lw_tbl[2099]? = some (.code (jY 257) (jC 257) (jM 257) (jR 257)) := rfl
theorem jm_257 : jmOK 257 = true := by decide +kernel
set_option maxRecDepth 100000 in
theorem jmc_258 : lw_tbl[2095]? = some (.code (jY 258) (jC 258) (jM 258) (jR 258)) := rfl
theorem jm_258 : jmOK 258 = true := by decide +kernel
set_option maxRecDepth 100000 in
theorem jmc_259 : lw_tbl[2087]? = some (.code (jY 259) (jC 259) (jM 259) (jR 259)) := rfl
theorem jm_259 : jmOK 259 = true := by decide +kernel
set_option maxRecDepth 100000 in
theorem jmc_260 : lw_tbl[2144]? = some (.code (jY 260) (jC 260) (jM 260) (jR 260)) := rfl
theorem jm_260 : jmOK 260 = true := by decide +kernel
set_option maxRecDepth 100000 in
theorem jmc_261 : lw_tbl[2111]? = some (.code (jY 261) (jC 261) (jM 261) (jR 261)) := rfl
theorem jm_261 : jmOK 261 = true := by decide +kernel
set_option maxRecDepth 100000 in
theorem jmc_262 : lw_tbl[2107]? = some (.code (jY 262) (jC 262) (jM 262) (jR 262)) := rfl
theorem jm_262 : jmOK 262 = true := by decide +kernel
set_option maxRecDepth 100000 in
theorem jmc_263 : lw_tbl[2103]? = some (.code (jY 263) (jC 263) (jM 263) (jR 263)) := rfl
theorem jm_263 : jmOK 263 = true := by decide +kernel
set_option maxRecDepth 100000 in
theorem jmc_264 : lw_tbl[2115]? = some (.code (jY 264) (jC 264) (jM 264) (jR 264)) := rfl
theorem jm_264 : jmOK 264 = true := by decide +kernel
set_option maxRecDepth 100000 in
theorem jmc_265 : lw_tbl[2132]? = some (.code (jY 265) (jC 265) (jM 265) (jR 265)) := rfl
theorem jm_265 : jmOK 265 = true := by decide +kernel
set_option maxRecDepth 100000 in
theorem jmc_266 : lw_tbl[2140]? = some (.code (jY 266) (jC 266) (jM 266) (jR 266)) := rfl
theorem jm_266 : jmOK 266 = true := by decide +kernel
set_option maxRecDepth 100000 in
theorem jmc_267 : lw_tbl[2136]? = some (.code (jY 267) (jC 267) (jM 267) (jR 267)) := rfl
theorem jm_267 : jmOK 267 = true := by decide +kernel
set_option maxRecDepth 100000 in
theorem jmc_268 : lw_tbl[2128]? = some (.code (jY 268) (jC 268) (jM 268) (jR 268)) := rfl
theorem jm_268 : jmOK 268 = true := by decide +kernel
set_option maxRecDepth 100000 in
theorem jmc_269 : lw_tbl[2123]? = some (.code (jY 269) (jC 269) (jM 269) (jR 269)) := rfl
theorem jm_269 : jmOK 269 = true := by decide +kernel
set_option maxRecDepth 100000 in
theorem jmc_270 : lw_tbl[2119]? = some (.code (jY 270) (jC 270) (jM 270) (jR 270)) := rfl
theorem jm_270 : jmOK 270 = true := by decide +kernel
set_option maxRecDepth 100000 in
theorem jmc_271 : lw_tbl[2091]? = some (.code (jY 271) (jC 271) (jM 271) (jR 271)) := rfl
theorem jm_271 : jmOK 271 = true := by decide +kernel
set_option maxRecDepth 100000 in
theorem jmc_272 : lw_tbl[2083]? = some (.code (jY 272) (jC 272) (jM 272) (jR 272)) := rfl
theorem jm_272 : jmOK 272 = true := by decide +kernel
set_option maxRecDepth 100000 in
theorem jmc_273 : lw_tbl[2148]? = some (.code (jY 273) (jC 273) (jM 273) (jR 273)) := rfl
theorem jm_273 : jmOK 273 = true := by decide +kernel
set_option maxRecDepth 100000 in
theorem jmc_274 : lw_tbl[2079]? = some (.code (jY 274) (jC 274) (jM 274) (jR 274)) := rfl
theorem jm_274 : jmOK 274 = true := by decide +kernel
set_option maxRecDepth 100000 in
theorem jmc_275 : lw_tbl[2168]? = some (.code (jY 275) (jC 275) (jM 275) (jR 275)) := rfl
theorem jm_275 : jmOK 275 = true := by decide +kernel
set_option maxRecDepth 100000 in
theorem jmc_276 : lw_tbl[2180]? = some (.code (jY 276) (jC 276) (jM 276) (jR 276)) := rfl
theorem jm_276 : jmOK 276 = true := by decide +kernel
set_option maxRecDepth 100000 in
theorem jmc_277 : lw_tbl[2176]? = some (.code (jY 277) (jC 277) (jM 277) (jR 277)) := rfl
theorem jm_277 : jmOK 277 = true := by decide +kernel
set_option maxRecDepth 100000 in
theorem jmc_278 : lw_tbl[2188]? = some (.code (jY 278) (jC 278) (jM 278) (jR 278)) := rfl
theorem jm_278 : jmOK 278 = true := by decide +kernel
set_option maxRecDepth 100000 in
theorem jmc_279 : lw_tbl[2184]? = some (.code (jY 279) (jC 279) (jM 279) (jR 279)) := rfl
theorem jm_279 : jmOK 279 = true := by decide +kernel
set_option maxRecDepth 100000 in
theorem jmc_280 : lw_tbl[2204]? = some (.code (jY 280) (jC 280) (jM 280) (jR 280)) := rfl
theorem jm_280 : jmOK 280 = true := by decide +kernel
set_option maxRecDepth 100000 in
theorem jmc_281 : lw_tbl[2208]? = some (.code (jY 281) (jC 281) (jM 281) (jR 281)) := rfl
theorem jm_281 : jmOK 281 = true := by decide +kernel
set_option maxRecDepth 100000 in
theorem jmc_282 : lw_tbl[2200]? = some (.code (jY 282) (jC 282) (jM 282) (jR 282)) := rfl
theorem jm_282 : jmOK 282 = true := by decide +kernel
set_option maxRecDepth 100000 in
theorem jmc_283 : lw_tbl[2212]? = some (.code (jY 283) (jC 283) (jM 283) (jR 283)) := rfl
theorem jm_283 : jmOK 283 = true := by decide +kernel
set_option maxRecDepth 100000 in
theorem jmc_284 : lw_tbl[2192]? = some (.code (jY 284) (jC 284) (jM 284) (jR 284)) := rfl
theorem jm_284 : jmOK 284 = true := by decide +kernel
set_option maxRecDepth 100000 in
theorem jmc_285 : lw_tbl[2196]? = some (.code (jY 285) (jC 285) (jM 285) (jR 285)) := rfl
theorem jm_285 : jmOK 285 = true := by decide +kernel
set_option maxRecDepth 100000 in
theorem jmc_286 : lw_tbl[2216]? = some (.code (jY 286) (jC 286) (jM 286) (jR 286)) := rfl
theorem jm_286 : jmOK 286 = true := by decide +kernel
set_option maxRecDepth 100000 in
theorem jmc_287 : lw_tbl[2220]? = some (.code (jY 287) (jC 287) (jM 287) (jR 287)) := rfl
theorem jm_287 : jmOK 287 = true := by decide +kernel
set_option maxRecDepth 100000 in
theorem jmc_288 : lw_tbl[2172]? = some (.code (jY 288) (jC 288) (jM 288) (jR 288)) := rfl
theorem jm_288 : jmOK 288 = true := by decide +kernel
set_option maxRecDepth 100000 in
theorem jmc_289 : lw_tbl[2164]? = some (.code (jY 289) (jC 289) (jM 289) (jR 289)) := rfl
theorem jm_289 : jmOK 289 = true := by decide +kernel
set_option maxRecDepth 100000 in
theorem jmc_290 : lw_tbl[2160]? = some (.code (jY 290) (jC 290) (jM 290) (jR 290)) := rfl
theorem jm_290 : jmOK 290 = true := by decide +kernel
set_option maxRecDepth 100000 in
theorem jmc_291 : lw_tbl[2228]? = some (.code (jY 291) (jC 291) (jM 291) (jR 291)) := rfl
theorem jm_291 : jmOK 291 = true := by decide +kernel
set_option maxRecDepth 100000 in
theorem jmc_292 : lw_tbl[2152]? = some (.code (jY 292) (jC 292) (jM 292) (jR 292)) := rfl
theorem jm_292 : jmOK 292 = true := by decide +kernel
set_option maxRecDepth 100000 in
theorem jmc_293 : lw_tbl[2224]? = some (.code (jY 293) (jC 293) (jM 293) (jR 293)) := rfl
theorem jm_293 : jmOK 293 = true := by decide +kernel
set_option maxRecDepth 100000 in
theorem jmc_294 : lw_tbl[2232]? = some (.code (jY 294) (jC 294) (jM 294) (jR 294)) := rfl
theorem jm_294 : jmOK 294 = true := by decide +kernel
set_option maxRecDepth 100000 in
theorem jmc_295 : lw_tbl[2236]? = some (.code (jY 295) (jC 295) (jM 295) (jR 295)) := rfl
theorem jm_295 : jmOK 295 = true := by decide +kernel
set_option maxRecDepth 100000 in
theorem jmc_296 : lw_tbl[2240]? = some (.code (jY 296) (jC 296) (jM 296) (jR 296)) := rfl
theorem jm_296 : jmOK 296 = true := by decide +kernel
set_option maxRecDepth 100000 in
theorem jmc_297 : lw_tbl[2244]? = some (.code (jY 297) (jC 297) (jM 297) (jR 297)) := rfl
theorem jm_297 : jmOK 297 = true := by decide +kernel
set_option maxRecDepth 100000 in
theorem jmc_298 : lw_tbl[2252]? = some (.code (jY 298) (jC 298) (jM 298) (jR 298)) := rfl
theorem jm_298 : jmOK 298 = true := by decide +kernel
set_option maxRecDepth 100000 in
theorem jmc_299 : lw_tbl[2248]? = some (.code (jY 299) (jC 299) (jM 299) (jR 299)) := rfl
theorem jm_299 : jmOK 299 = true := by decide +kernel
