/-! the memory behind the two constructors: which cell is what stays; what the cells hold is a function to whole numbers -/
abbrev jH : Type := Nat → Nat → Int
/-- a cell's kind: its class, or 13 .. 17 rows of int, long, boolean, Row, State -/
def sk (i : Nat) : Nat := (bif Nat.ble 186 i then (bif Nat.ble 279 i then (bif Nat.ble 336 i then (bif Nat.ble 364 i then (bif Nat.ble 381 i then (bif Nat.ble 387 i then (bif Nat.ble 419 i then (bif Nat.ble 420 i then (bif Nat.ble 434 i then 999 else 13) else 14) else (bif Nat.ble 388 i then (bif Nat.ble 389 i then 13 else 12) else 13)) else (bif Nat.ble 383 i then (bif Nat.ble 384 i then (bif Nat.ble 386 i then 8 else 13) else 3) else (bif Nat.ble 382 i then 13 else 8))) else (bif Nat.ble 376 i then (bif Nat.ble 378 i then (bif Nat.ble 379 i then (bif Nat.ble 380 i then 13 else 8) else 13) else (bif Nat.ble 377 i then 5 else 13)) else (bif Nat.ble 371 i then (bif Nat.ble 374 i then (bif Nat.ble 375 i then 8 else 2) else 13) else (bif Nat.ble 370 i then 8 else 13)))) else (bif Nat.ble 351 i then (bif Nat.ble 356 i then (bif Nat.ble 360 i then (bif Nat.ble 362 i then (bif Nat.ble 363 i then 8 else 7) else 13) else (bif Nat.ble 357 i then (bif Nat.ble 358 i then 15 else 13) else 1)) else (bif Nat.ble 353 i then (bif Nat.ble 354 i then (bif Nat.ble 355 i then 13 else 8) else 13) else (bif Nat.ble 352 i then 8 else 13))) else (bif Nat.ble 345 i then (bif Nat.ble 348 i then (bif Nat.ble 349 i then (bif Nat.ble 350 i then 8 else 13) else 8) else (bif Nat.ble 346 i then 13 else 3)) else (bif Nat.ble 338 i then (bif Nat.ble 339 i then (bif Nat.ble 340 i then 13 else 6) else 13) else (bif Nat.ble 337 i then 8 else 13))))) else (bif Nat.ble 301 i then (bif Nat.ble 320 i then (bif Nat.ble 330 i then (bif Nat.ble 333 i then (bif Nat.ble 334 i then (bif Nat.ble 335 i then 8 else 13) else 8) else (bif Nat.ble 331 i then (bif Nat.ble 332 i then 13 else 8) else 13)) else (bif Nat.ble 326 i then (bif Nat.ble 328 i then (bif Nat.ble 329 i then 8 else 4) else 13) else (bif Nat.ble 325 i then 3 else 13))) else (bif Nat.ble 309 i then (bif Nat.ble 313 i then (bif Nat.ble 314 i then (bif Nat.ble 319 i then 0 else 13) else 10) else (bif Nat.ble 310 i then 13 else 8)) else (bif Nat.ble 303 i then (bif Nat.ble 304 i then (bif Nat.ble 305 i then 13 else 15) else 13) else (bif Nat.ble 302 i then 8 else 13)))) else (bif Nat.ble 291 i then (bif Nat.ble 296 i then (bif Nat.ble 298 i then (bif Nat.ble 299 i then (bif Nat.ble 300 i then 8 else 13) else 8) else (bif Nat.ble 297 i then 16 else 13)) else (bif Nat.ble 293 i then (bif Nat.ble 294 i then (bif Nat.ble 295 i then 8 else 13) else 8) else (bif Nat.ble 292 i then 13 else 8))) else (bif Nat.ble 284 i then (bif Nat.ble 286 i then (bif Nat.ble 287 i then (bif Nat.ble 290 i then 9 else 13) else 15) else (bif Nat.ble 285 i then 13 else 8)) else (bif Nat.ble 281 i then (bif Nat.ble 282 i then (bif Nat.ble 283 i then 13 else 8) else 13) else (bif Nat.ble 280 i then 8 else 16)))))) else (bif Nat.ble 231 i then (bif Nat.ble 256 i then (bif Nat.ble 266 i then (bif Nat.ble 273 i then (bif Nat.ble 276 i then (bif Nat.ble 277 i then (bif Nat.ble 278 i then 13 else 8) else 13) else (bif Nat.ble 274 i then (bif Nat.ble 275 i then 8 else 13) else 8)) else (bif Nat.ble 268 i then (bif Nat.ble 269 i then (bif Nat.ble 272 i then 9 else 13) else 15) else (bif Nat.ble 267 i then 13 else 8))) else (bif Nat.ble 261 i then (bif Nat.ble 263 i then (bif Nat.ble 264 i then (bif Nat.ble 265 i then 13 else 8) else 13) else (bif Nat.ble 262 i then 8 else 16)) else (bif Nat.ble 258 i then (bif Nat.ble 259 i then (bif Nat.ble 260 i then 13 else 8) else 13) else (bif Nat.ble 257 i then 8 else 13)))) else (bif Nat.ble 243 i then (bif Nat.ble 248 i then (bif Nat.ble 251 i then (bif Nat.ble 254 i then (bif Nat.ble 255 i then 8 else 9) else 13) else (bif Nat.ble 249 i then (bif Nat.ble 250 i then 15 else 13) else 8)) else (bif Nat.ble 245 i then (bif Nat.ble 246 i then (bif Nat.ble 247 i then 13 else 8) else 13) else (bif Nat.ble 244 i then 8 else 16))) else (bif Nat.ble 238 i then (bif Nat.ble 240 i then (bif Nat.ble 241 i then (bif Nat.ble 242 i then 13 else 8) else 13) else (bif Nat.ble 239 i then 8 else 13)) else (bif Nat.ble 233 i then (bif Nat.ble 236 i then (bif Nat.ble 237 i then 8 else 9) else 13) else (bif Nat.ble 232 i then 15 else 13))))) else (bif Nat.ble 208 i then (bif Nat.ble 220 i then (bif Nat.ble 225 i then (bif Nat.ble 228 i then (bif Nat.ble 229 i then (bif Nat.ble 230 i then 8 else 13) else 8) else (bif Nat.ble 226 i then (bif Nat.ble 227 i then 13 else 8) else 16)) else (bif Nat.ble 222 i then (bif Nat.ble 223 i then (bif Nat.ble 224 i then 13 else 8) else 13) else (bif Nat.ble 221 i then 8 else 13))) else (bif Nat.ble 213 i then (bif Nat.ble 215 i then (bif Nat.ble 218 i then (bif Nat.ble 219 i then 8 else 9) else 13) else (bif Nat.ble 214 i then 15 else 13)) else (bif Nat.ble 210 i then (bif Nat.ble 211 i then (bif Nat.ble 212 i then 8 else 13) else 8) else (bif Nat.ble 209 i then 13 else 8)))) else (bif Nat.ble 196 i then (bif Nat.ble 203 i then (bif Nat.ble 205 i then (bif Nat.ble 206 i then (bif Nat.ble 207 i then 16 else 13) else 8) else (bif Nat.ble 204 i then 13 else 8)) else (bif Nat.ble 200 i then (bif Nat.ble 201 i then (bif Nat.ble 202 i then 13 else 8) else 9) else (bif Nat.ble 197 i then 13 else 15))) else (bif Nat.ble 191 i then (bif Nat.ble 193 i then (bif Nat.ble 194 i then (bif Nat.ble 195 i then 13 else 8) else 13) else (bif Nat.ble 192 i then 8 else 13)) else (bif Nat.ble 188 i then (bif Nat.ble 189 i then (bif Nat.ble 190 i then 8 else 16) else 13) else (bif Nat.ble 187 i then 8 else 13))))))) else (bif Nat.ble 93 i then (bif Nat.ble 138 i then (bif Nat.ble 161 i then (bif Nat.ble 173 i then (bif Nat.ble 178 i then (bif Nat.ble 183 i then (bif Nat.ble 184 i then (bif Nat.ble 185 i then 8 else 13) else 8) else (bif Nat.ble 179 i then (bif Nat.ble 182 i then 9 else 13) else 15)) else (bif Nat.ble 175 i then (bif Nat.ble 176 i then (bif Nat.ble 177 i then 13 else 8) else 13) else (bif Nat.ble 174 i then 8 else 13))) else (bif Nat.ble 168 i then (bif Nat.ble 170 i then (bif Nat.ble 171 i then (bif Nat.ble 172 i then 8 else 16) else 13) else (bif Nat.ble 169 i then 8 else 13)) else (bif Nat.ble 165 i then (bif Nat.ble 166 i then (bif Nat.ble 167 i then 8 else 13) else 8) else (bif Nat.ble 164 i then 9 else 13)))) else (bif Nat.ble 150 i then (bif Nat.ble 155 i then (bif Nat.ble 158 i then (bif Nat.ble 159 i then (bif Nat.ble 160 i then 15 else 13) else 8) else (bif Nat.ble 156 i then (bif Nat.ble 157 i then 13 else 8) else 13)) else (bif Nat.ble 152 i then (bif Nat.ble 153 i then (bif Nat.ble 154 i then 8 else 16) else 13) else (bif Nat.ble 151 i then 8 else 13))) else (bif Nat.ble 143 i then (bif Nat.ble 147 i then (bif Nat.ble 148 i then (bif Nat.ble 149 i then 8 else 13) else 8) else (bif Nat.ble 146 i then 9 else 13)) else (bif Nat.ble 140 i then (bif Nat.ble 141 i then (bif Nat.ble 142 i then 15 else 13) else 8) else (bif Nat.ble 139 i then 13 else 8))))) else (bif Nat.ble 115 i then (bif Nat.ble 125 i then (bif Nat.ble 132 i then (bif Nat.ble 135 i then (bif Nat.ble 136 i then (bif Nat.ble 137 i then 13 else 8) else 16) else (bif Nat.ble 133 i then (bif Nat.ble 134 i then 13 else 8) else 13)) else (bif Nat.ble 129 i then (bif Nat.ble 130 i then (bif Nat.ble 131 i then 8 else 13) else 8) else (bif Nat.ble 128 i then 9 else 13))) else (bif Nat.ble 120 i then (bif Nat.ble 122 i then (bif Nat.ble 123 i then (bif Nat.ble 124 i then 15 else 13) else 8) else (bif Nat.ble 121 i then 13 else 8)) else (bif Nat.ble 117 i then (bif Nat.ble 118 i then (bif Nat.ble 119 i then 13 else 8) else 16) else (bif Nat.ble 116 i then 13 else 8)))) else (bif Nat.ble 103 i then (bif Nat.ble 110 i then (bif Nat.ble 112 i then (bif Nat.ble 113 i then (bif Nat.ble 114 i then 13 else 8) else 13) else (bif Nat.ble 111 i then 8 else 9)) else (bif Nat.ble 105 i then (bif Nat.ble 106 i then (bif Nat.ble 107 i then 13 else 15) else 13) else (bif Nat.ble 104 i then 8 else 13))) else (bif Nat.ble 98 i then (bif Nat.ble 100 i then (bif Nat.ble 101 i then (bif Nat.ble 102 i then 8 else 13) else 8) else (bif Nat.ble 99 i then 16 else 13)) else (bif Nat.ble 95 i then (bif Nat.ble 96 i then (bif Nat.ble 97 i then 8 else 13) else 8) else (bif Nat.ble 94 i then 13 else 8)))))) else (bif Nat.ble 45 i then (bif Nat.ble 68 i then (bif Nat.ble 80 i then (bif Nat.ble 85 i then (bif Nat.ble 88 i then (bif Nat.ble 89 i then (bif Nat.ble 92 i then 9 else 13) else 15) else (bif Nat.ble 86 i then (bif Nat.ble 87 i then 13 else 8) else 13)) else (bif Nat.ble 82 i then (bif Nat.ble 83 i then (bif Nat.ble 84 i then 8 else 13) else 8) else (bif Nat.ble 81 i then 16 else 13))) else (bif Nat.ble 75 i then (bif Nat.ble 77 i then (bif Nat.ble 78 i then (bif Nat.ble 79 i then 8 else 13) else 8) else (bif Nat.ble 76 i then 13 else 8)) else (bif Nat.ble 70 i then (bif Nat.ble 71 i then (bif Nat.ble 74 i then 9 else 13) else 15) else (bif Nat.ble 69 i then 13 else 8)))) else (bif Nat.ble 57 i then (bif Nat.ble 62 i then (bif Nat.ble 65 i then (bif Nat.ble 66 i then (bif Nat.ble 67 i then 13 else 8) else 13) else (bif Nat.ble 63 i then (bif Nat.ble 64 i then 8 else 16) else 13)) else (bif Nat.ble 59 i then (bif Nat.ble 60 i then (bif Nat.ble 61 i then 8 else 13) else 8) else (bif Nat.ble 58 i then 13 else 8))) else (bif Nat.ble 50 i then (bif Nat.ble 52 i then (bif Nat.ble 53 i then (bif Nat.ble 56 i then 9 else 13) else 15) else (bif Nat.ble 51 i then 13 else 8)) else (bif Nat.ble 47 i then (bif Nat.ble 48 i then (bif Nat.ble 49 i then 13 else 8) else 13) else (bif Nat.ble 46 i then 8 else 16))))) else (bif Nat.ble 22 i then (bif Nat.ble 32 i then (bif Nat.ble 39 i then (bif Nat.ble 42 i then (bif Nat.ble 43 i then (bif Nat.ble 44 i then 13 else 8) else 13) else (bif Nat.ble 40 i then (bif Nat.ble 41 i then 8 else 13) else 8)) else (bif Nat.ble 34 i then (bif Nat.ble 35 i then (bif Nat.ble 38 i then 9 else 13) else 15) else (bif Nat.ble 33 i then 13 else 8))) else (bif Nat.ble 27 i then (bif Nat.ble 29 i then (bif Nat.ble 30 i then (bif Nat.ble 31 i then 13 else 8) else 13) else (bif Nat.ble 28 i then 8 else 16)) else (bif Nat.ble 24 i then (bif Nat.ble 25 i then (bif Nat.ble 26 i then 13 else 8) else 13) else (bif Nat.ble 23 i then 8 else 13)))) else (bif Nat.ble 10 i then (bif Nat.ble 15 i then (bif Nat.ble 19 i then (bif Nat.ble 20 i then (bif Nat.ble 21 i then 8 else 9) else 17) else (bif Nat.ble 16 i then 13 else 15)) else (bif Nat.ble 12 i then (bif Nat.ble 13 i then (bif Nat.ble 14 i then 13 else 8) else 13) else (bif Nat.ble 11 i then 8 else 13))) else (bif Nat.ble 5 i then (bif Nat.ble 7 i then (bif Nat.ble 8 i then (bif Nat.ble 9 i then 8 else 16) else 13) else (bif Nat.ble 6 i then 8 else 13)) else (bif Nat.ble 2 i then (bif Nat.ble 3 i then (bif Nat.ble 4 i then 8 else 13) else 8) else (bif Nat.ble 1 i then 9 else 11))))))))
/-- how many a row has -/
def sl (i : Nat) : Nat := (bif Nat.ble 207 i then (bif Nat.ble 310 i then (bif Nat.ble 371 i then (bif Nat.ble 394 i then (bif Nat.ble 417 i then (bif Nat.ble 428 i then (bif Nat.ble 432 i then (bif Nat.ble 433 i then (bif Nat.ble 434 i then 0 else 300) else 100) else (bif Nat.ble 429 i then (bif Nat.ble 431 i then 65 else 64) else 1600)) else (bif Nat.ble 420 i then (bif Nat.ble 425 i then (bif Nat.ble 426 i then 5 else 400) else 24) else (bif Nat.ble 419 i then 5 else 100))) else (bif Nat.ble 407 i then (bif Nat.ble 412 i then (bif Nat.ble 413 i then (bif Nat.ble 416 i then 8 else 64) else 2) else (bif Nat.ble 408 i then 100 else 300)) else (bif Nat.ble 403 i then (bif Nat.ble 405 i then (bif Nat.ble 406 i then 64 else 400) else 64) else (bif Nat.ble 398 i then 66 else 64)))) else (bif Nat.ble 383 i then (bif Nat.ble 389 i then (bif Nat.ble 391 i then (bif Nat.ble 392 i then (bif Nat.ble 393 i then 400 else 16) else 21712) else (bif Nat.ble 390 i then 1362 else 7)) else (bif Nat.ble 386 i then (bif Nat.ble 387 i then (bif Nat.ble 388 i then 0 else 64) else 0) else (bif Nat.ble 384 i then 64 else 0))) else (bif Nat.ble 378 i then (bif Nat.ble 380 i then (bif Nat.ble 381 i then (bif Nat.ble 382 i then 300 else 0) else 300) else (bif Nat.ble 379 i then 0 else 100)) else (bif Nat.ble 374 i then (bif Nat.ble 376 i then (bif Nat.ble 377 i then 0 else 1280) else 0) else (bif Nat.ble 372 i then 4 else 400))))) else (bif Nat.ble 339 i then (bif Nat.ble 353 i then (bif Nat.ble 361 i then (bif Nat.ble 364 i then (bif Nat.ble 365 i then (bif Nat.ble 370 i then 0 else 24) else 400) else (bif Nat.ble 362 i then 0 else 8)) else (bif Nat.ble 355 i then (bif Nat.ble 356 i then (bif Nat.ble 357 i then 100 else 0) else 64) else (bif Nat.ble 354 i then 0 else 64))) else (bif Nat.ble 348 i then (bif Nat.ble 350 i then (bif Nat.ble 351 i then (bif Nat.ble 352 i then 0 else 300) else 0) else (bif Nat.ble 349 i then 64 else 0)) else (bif Nat.ble 344 i then (bif Nat.ble 345 i then (bif Nat.ble 346 i then 64 else 0) else 2) else (bif Nat.ble 340 i then 100 else 0)))) else (bif Nat.ble 328 i then (bif Nat.ble 334 i then (bif Nat.ble 336 i then (bif Nat.ble 337 i then (bif Nat.ble 338 i then 300 else 0) else 300) else (bif Nat.ble 335 i then 0 else 64)) else (bif Nat.ble 331 i then (bif Nat.ble 332 i then (bif Nat.ble 333 i then 0 else 64) else 0) else (bif Nat.ble 330 i then 300 else 0))) else (bif Nat.ble 318 i then (bif Nat.ble 320 i then (bif Nat.ble 325 i then (bif Nat.ble 326 i then 64 else 0) else 64) else (bif Nat.ble 319 i then 0 else 65)) else (bif Nat.ble 312 i then (bif Nat.ble 313 i then (bif Nat.ble 314 i then 64 else 0) else 6) else (bif Nat.ble 311 i then 5 else 400)))))) else (bif Nat.ble 259 i then (bif Nat.ble 283 i then (bif Nat.ble 297 i then (bif Nat.ble 302 i then (bif Nat.ble 304 i then (bif Nat.ble 308 i then (bif Nat.ble 309 i then 0 else 16) else 64) else (bif Nat.ble 303 i then 300 else 0)) else (bif Nat.ble 299 i then (bif Nat.ble 300 i then (bif Nat.ble 301 i then 300 else 0) else 300) else (bif Nat.ble 298 i then 0 else 3))) else (bif Nat.ble 292 i then (bif Nat.ble 294 i then (bif Nat.ble 295 i then (bif Nat.ble 296 i then 64 else 0) else 64) else (bif Nat.ble 293 i then 0 else 64)) else (bif Nat.ble 285 i then (bif Nat.ble 286 i then (bif Nat.ble 290 i then 0 else 64) else 300) else (bif Nat.ble 284 i then 0 else 300)))) else (bif Nat.ble 272 i then (bif Nat.ble 278 i then (bif Nat.ble 280 i then (bif Nat.ble 281 i then (bif Nat.ble 282 i then 0 else 300) else 0) else (bif Nat.ble 279 i then 3 else 64)) else (bif Nat.ble 275 i then (bif Nat.ble 276 i then (bif Nat.ble 277 i then 0 else 64) else 0) else (bif Nat.ble 274 i then 64 else 0))) else (bif Nat.ble 264 i then (bif Nat.ble 266 i then (bif Nat.ble 267 i then (bif Nat.ble 268 i then 64 else 300) else 0) else (bif Nat.ble 265 i then 300 else 0)) else (bif Nat.ble 261 i then (bif Nat.ble 262 i then (bif Nat.ble 263 i then 300 else 0) else 3) else (bif Nat.ble 260 i then 64 else 0))))) else (bif Nat.ble 231 i then (bif Nat.ble 245 i then (bif Nat.ble 250 i then (bif Nat.ble 256 i then (bif Nat.ble 257 i then (bif Nat.ble 258 i then 64 else 0) else 64) else (bif Nat.ble 254 i then 0 else 64)) else (bif Nat.ble 247 i then (bif Nat.ble 248 i then (bif Nat.ble 249 i then 300 else 0) else 300) else (bif Nat.ble 246 i then 0 else 300))) else (bif Nat.ble 240 i then (bif Nat.ble 242 i then (bif Nat.ble 243 i then (bif Nat.ble 244 i then 0 else 3) else 64) else (bif Nat.ble 241 i then 0 else 64)) else (bif Nat.ble 236 i then (bif Nat.ble 238 i then (bif Nat.ble 239 i then 0 else 64) else 0) else (bif Nat.ble 232 i then 64 else 300)))) else (bif Nat.ble 221 i then (bif Nat.ble 226 i then (bif Nat.ble 228 i then (bif Nat.ble 229 i then (bif Nat.ble 230 i then 0 else 300) else 0) else (bif Nat.ble 227 i then 300 else 0)) else (bif Nat.ble 223 i then (bif Nat.ble 224 i then (bif Nat.ble 225 i then 3 else 64) else 0) else (bif Nat.ble 222 i then 64 else 0))) else (bif Nat.ble 212 i then (bif Nat.ble 214 i then (bif Nat.ble 218 i then (bif Nat.ble 220 i then 64 else 0) else 64) else (bif Nat.ble 213 i then 300 else 0)) else (bif Nat.ble 209 i then (bif Nat.ble 210 i then (bif Nat.ble 211 i then 300 else 0) else 300) else (bif Nat.ble 208 i then 0 else 3))))))) else (bif Nat.ble 102 i then (bif Nat.ble 154 i then (bif Nat.ble 178 i then (bif Nat.ble 192 i then (bif Nat.ble 200 i then (bif Nat.ble 204 i then (bif Nat.ble 205 i then (bif Nat.ble 206 i then 64 else 0) else 64) else (bif Nat.ble 202 i then (bif Nat.ble 203 i then 0 else 64) else 0)) else (bif Nat.ble 194 i then (bif Nat.ble 195 i then (bif Nat.ble 196 i then 64 else 300) else 0) else (bif Nat.ble 193 i then 300 else 0))) else (bif Nat.ble 187 i then (bif Nat.ble 189 i then (bif Nat.ble 190 i then (bif Nat.ble 191 i then 300 else 0) else 3) else (bif Nat.ble 188 i then 64 else 0)) else (bif Nat.ble 184 i then (bif Nat.ble 185 i then (bif Nat.ble 186 i then 64 else 0) else 64) else (bif Nat.ble 182 i then 0 else 64)))) else (bif Nat.ble 168 i then (bif Nat.ble 173 i then (bif Nat.ble 175 i then (bif Nat.ble 176 i then (bif Nat.ble 177 i then 300 else 0) else 300) else (bif Nat.ble 174 i then 0 else 300)) else (bif Nat.ble 170 i then (bif Nat.ble 171 i then (bif Nat.ble 172 i then 0 else 3) else 64) else (bif Nat.ble 169 i then 0 else 64))) else (bif Nat.ble 159 i then (bif Nat.ble 164 i then (bif Nat.ble 166 i then (bif Nat.ble 167 i then 0 else 64) else 0) else (bif Nat.ble 160 i then 64 else 300)) else (bif Nat.ble 156 i then (bif Nat.ble 157 i then (bif Nat.ble 158 i then 0 else 300) else 0) else (bif Nat.ble 155 i then 300 else 0))))) else (bif Nat.ble 130 i then (bif Nat.ble 140 i then (bif Nat.ble 149 i then (bif Nat.ble 151 i then (bif Nat.ble 152 i then (bif Nat.ble 153 i then 3 else 64) else 0) else (bif Nat.ble 150 i then 64 else 0)) else (bif Nat.ble 142 i then (bif Nat.ble 146 i then (bif Nat.ble 148 i then 64 else 0) else 64) else (bif Nat.ble 141 i then 300 else 0))) else (bif Nat.ble 135 i then (bif Nat.ble 137 i then (bif Nat.ble 138 i then (bif Nat.ble 139 i then 300 else 0) else 300) else (bif Nat.ble 136 i then 0 else 3)) else (bif Nat.ble 132 i then (bif Nat.ble 133 i then (bif Nat.ble 134 i then 64 else 0) else 64) else (bif Nat.ble 131 i then 0 else 64)))) else (bif Nat.ble 116 i then (bif Nat.ble 121 i then (bif Nat.ble 123 i then (bif Nat.ble 124 i then (bif Nat.ble 128 i then 0 else 64) else 300) else (bif Nat.ble 122 i then 0 else 300)) else (bif Nat.ble 118 i then (bif Nat.ble 119 i then (bif Nat.ble 120 i then 0 else 300) else 0) else (bif Nat.ble 117 i then 3 else 64))) else (bif Nat.ble 110 i then (bif Nat.ble 113 i then (bif Nat.ble 114 i then (bif Nat.ble 115 i then 0 else 64) else 0) else (bif Nat.ble 112 i then 64 else 0)) else (bif Nat.ble 104 i then (bif Nat.ble 105 i then (bif Nat.ble 106 i then 64 else 300) else 0) else (bif Nat.ble 103 i then 300 else 0)))))) else (bif Nat.ble 50 i then (bif Nat.ble 78 i then (bif Nat.ble 88 i then (bif Nat.ble 97 i then (bif Nat.ble 99 i then (bif Nat.ble 100 i then (bif Nat.ble 101 i then 300 else 0) else 3) else (bif Nat.ble 98 i then 64 else 0)) else (bif Nat.ble 94 i then (bif Nat.ble 95 i then (bif Nat.ble 96 i then 64 else 0) else 64) else (bif Nat.ble 92 i then 0 else 64))) else (bif Nat.ble 83 i then (bif Nat.ble 85 i then (bif Nat.ble 86 i then (bif Nat.ble 87 i then 300 else 0) else 300) else (bif Nat.ble 84 i then 0 else 300)) else (bif Nat.ble 80 i then (bif Nat.ble 81 i then (bif Nat.ble 82 i then 0 else 3) else 64) else (bif Nat.ble 79 i then 0 else 64)))) else (bif Nat.ble 64 i then (bif Nat.ble 69 i then (bif Nat.ble 74 i then (bif Nat.ble 76 i then (bif Nat.ble 77 i then 0 else 64) else 0) else (bif Nat.ble 70 i then 64 else 300)) else (bif Nat.ble 66 i then (bif Nat.ble 67 i then (bif Nat.ble 68 i then 0 else 300) else 0) else (bif Nat.ble 65 i then 300 else 0))) else (bif Nat.ble 59 i then (bif Nat.ble 61 i then (bif Nat.ble 62 i then (bif Nat.ble 63 i then 3 else 64) else 0) else (bif Nat.ble 60 i then 64 else 0)) else (bif Nat.ble 52 i then (bif Nat.ble 56 i then (bif Nat.ble 58 i then 64 else 0) else 64) else (bif Nat.ble 51 i then 300 else 0))))) else (bif Nat.ble 26 i then (bif Nat.ble 40 i then (bif Nat.ble 45 i then (bif Nat.ble 47 i then (bif Nat.ble 48 i then (bif Nat.ble 49 i then 300 else 0) else 300) else (bif Nat.ble 46 i then 0 else 3)) else (bif Nat.ble 42 i then (bif Nat.ble 43 i then (bif Nat.ble 44 i then 64 else 0) else 64) else (bif Nat.ble 41 i then 0 else 64))) else (bif Nat.ble 31 i then (bif Nat.ble 33 i then (bif Nat.ble 34 i then (bif Nat.ble 38 i then 0 else 64) else 300) else (bif Nat.ble 32 i then 0 else 300)) else (bif Nat.ble 28 i then (bif Nat.ble 29 i then (bif Nat.ble 30 i then 0 else 300) else 0) else (bif Nat.ble 27 i then 3 else 64)))) else (bif Nat.ble 12 i then (bif Nat.ble 20 i then (bif Nat.ble 23 i then (bif Nat.ble 24 i then (bif Nat.ble 25 i then 0 else 64) else 0) else (bif Nat.ble 22 i then 64 else 0)) else (bif Nat.ble 14 i then (bif Nat.ble 15 i then (bif Nat.ble 19 i then 16 else 64) else 300) else (bif Nat.ble 13 i then 0 else 300))) else (bif Nat.ble 7 i then (bif Nat.ble 9 i then (bif Nat.ble 10 i then (bif Nat.ble 11 i then 0 else 300) else 0) else (bif Nat.ble 8 i then 3 else 64)) else (bif Nat.ble 4 i then (bif Nat.ble 5 i then (bif Nat.ble 6 i then 0 else 64) else 0) else (bif Nat.ble 3 i then 64 else 0))))))))
/-- what a field, or a place in a row, refers to -/
def sr (i k : Nat) : Nat := (bif Nat.ble 183 i then (bif Nat.ble 275 i then (bif Nat.ble 333 i then (bif Nat.ble 362 i then (bif Nat.ble 377 i then (bif Nat.ble 383 i then (bif Nat.ble 386 i then (bif Nat.ble 388 i then (bif Nat.beq i 388 then (bif Nat.ble 42 k then (bif Nat.ble 65 k then (bif Nat.ble 75 k then (bif Nat.ble 79 k then (bif Nat.ble 80 k then (bif Nat.ble 84 k then 433 else 432) else 431) else (bif Nat.ble 77 k then (bif Nat.ble 78 k then 430 else 429) else 428)) else (bif Nat.ble 68 k then (bif Nat.ble 70 k then (bif Nat.ble 71 k then 427 else 426) else 425) else (bif Nat.ble 66 k then (bif Nat.ble 67 k then 424 else 423) else 422))) else (bif Nat.ble 50 k then (bif Nat.ble 61 k then (bif Nat.ble 63 k then (bif Nat.ble 64 k then 421 else 420) else 419) else (bif Nat.ble 52 k then (bif Nat.ble 54 k then 418 else 417) else 416)) else (bif Nat.ble 44 k then (bif Nat.ble 46 k then (bif Nat.ble 47 k then 415 else 414) else 413) else (bif Nat.ble 43 k then 412 else 411)))) else (bif Nat.ble 19 k then (bif Nat.ble 26 k then (bif Nat.ble 39 k then (bif Nat.ble 40 k then (bif Nat.ble 41 k then 410 else 409) else 408) else (bif Nat.ble 28 k then (bif Nat.ble 30 k then 407 else 406) else 405)) else (bif Nat.ble 21 k then (bif Nat.ble 23 k then (bif Nat.ble 24 k then 404 else 403) else 402) else (bif Nat.ble 20 k then 401 else 400))) else (bif Nat.ble 9 k then (bif Nat.ble 12 k then (bif Nat.ble 17 k then (bif Nat.ble 18 k then 399 else 398) else 397) else (bif Nat.ble 10 k then (bif Nat.ble 11 k then 396 else 395) else 394)) else (bif Nat.ble 4 k then (bif Nat.ble 5 k then (bif Nat.ble 7 k then 393 else 392) else 391) else (bif Nat.ble 3 k then 390 else 389))))) else 0) else (bif Nat.beq i 386 then 387 else 0)) else (bif Nat.beq i 383 then (bif Nat.ble 1 k then 385 else 384) else 0)) else (bif Nat.ble 379 i then (bif Nat.ble 381 i then (bif Nat.beq i 381 then 382 else 0) else (bif Nat.beq i 379 then 380 else 0)) else (bif Nat.beq i 377 then (bif Nat.ble 4 k then (bif Nat.ble 5 k then 381 else 379) else 378) else 0))) else (bif Nat.ble 370 i then (bif Nat.ble 374 i then (bif Nat.ble 375 i then (bif Nat.beq i 375 then 376 else 0) else (bif Nat.beq i 374 then 375 else 0)) else (bif Nat.beq i 370 then 371 else 0)) else (bif Nat.ble 363 i then (bif Nat.beq i 363 then 364 else 0) else (bif Nat.beq i 362 then (bif Nat.ble 10 k then (bif Nat.ble 12 k then (bif Nat.ble 13 k then (bif Nat.ble 14 k then 373 else 372) else 370) else (bif Nat.ble 11 k then 369 else 368)) else (bif Nat.ble 8 k then (bif Nat.ble 9 k then 367 else 366) else (bif Nat.ble 7 k then 365 else 363))) else 0)))) else (bif Nat.ble 348 i then (bif Nat.ble 352 i then (bif Nat.ble 354 i then (bif Nat.ble 356 i then (bif Nat.beq i 356 then (bif Nat.ble 7 k then (bif Nat.ble 8 k then (bif Nat.ble 10 k then 361 else 360) else 359) else (bif Nat.ble 6 k then 358 else 357)) else 0) else (bif Nat.beq i 354 then 355 else 0)) else (bif Nat.beq i 352 then 353 else 0)) else (bif Nat.ble 350 i then (bif Nat.beq i 350 then 351 else 0) else (bif Nat.beq i 348 then 349 else 0))) else (bif Nat.ble 337 i then (bif Nat.ble 339 i then (bif Nat.ble 345 i then (bif Nat.beq i 345 then (bif Nat.ble 1 k then 347 else 346) else 0) else (bif Nat.beq i 339 then (bif Nat.ble 10 k then (bif Nat.ble 12 k then (bif Nat.ble 13 k then (bif Nat.ble 14 k then 354 else 352) else 350) else (bif Nat.ble 11 k then 348 else 345)) else (bif Nat.ble 7 k then (bif Nat.ble 8 k then (bif Nat.ble 9 k then 344 else 343) else 342) else (bif Nat.ble 6 k then 341 else 340))) else 0)) else (bif Nat.beq i 337 then 338 else 0)) else (bif Nat.ble 335 i then (bif Nat.beq i 335 then 336 else 0) else (bif Nat.beq i 333 then 334 else 0))))) else (bif Nat.ble 297 i then (bif Nat.ble 313 i then (bif Nat.ble 328 i then (bif Nat.ble 329 i then (bif Nat.ble 331 i then (bif Nat.beq i 331 then 332 else 0) else (bif Nat.beq i 329 then 330 else 0)) else (bif Nat.beq i 328 then (bif Nat.ble 2 k then (bif Nat.ble 3 k then (bif Nat.ble 4 k then 337 else 335) else 333) else (bif Nat.ble 1 k then 331 else 329)) else 0)) else (bif Nat.ble 319 i then (bif Nat.ble 325 i then (bif Nat.beq i 325 then (bif Nat.ble 1 k then 327 else 326) else 0) else (bif Nat.beq i 319 then (bif Nat.ble 3 k then (bif Nat.ble 4 k then (bif Nat.ble 6 k then 325 else 324) else 323) else (bif Nat.ble 1 k then (bif Nat.ble 2 k then 322 else 321) else 320)) else 0)) else (bif Nat.beq i 313 then (bif Nat.ble 3 k then (bif Nat.ble 4 k then (bif Nat.ble 5 k then 318 else 317) else 316) else (bif Nat.ble 2 k then 315 else 314)) else 0))) else (bif Nat.ble 300 i then (bif Nat.ble 302 i then (bif Nat.ble 309 i then (bif Nat.beq i 309 then 310 else 0) else (bif Nat.beq i 302 then 303 else 0)) else (bif Nat.beq i 300 then 301 else 0)) else (bif Nat.ble 298 i then (bif Nat.beq i 298 then 299 else 0) else (bif Nat.beq i 297 then (bif Nat.ble 1 k then (bif Nat.ble 2 k then 302 else 300) else 298) else 0)))) else (bif Nat.ble 284 i then (bif Nat.ble 291 i then (bif Nat.ble 293 i then (bif Nat.ble 295 i then (bif Nat.beq i 295 then 296 else 0) else (bif Nat.beq i 293 then 294 else 0)) else (bif Nat.beq i 291 then 292 else 0)) else (bif Nat.ble 290 i then (bif Nat.beq i 290 then (bif Nat.ble 4 k then (bif Nat.ble 6 k then (bif Nat.ble 7 k then 307 else 306) else (bif Nat.ble 5 k then 305 else 304)) else (bif Nat.ble 2 k then (bif Nat.ble 3 k then 297 else 295) else (bif Nat.ble 1 k then 293 else 291))) else 0) else (bif Nat.beq i 284 then 285 else 0))) else (bif Nat.ble 279 i then (bif Nat.ble 280 i then (bif Nat.ble 282 i then (bif Nat.beq i 282 then 283 else 0) else (bif Nat.beq i 280 then 281 else 0)) else (bif Nat.beq i 279 then (bif Nat.ble 1 k then (bif Nat.ble 2 k then 284 else 282) else 280) else 0)) else (bif Nat.ble 277 i then (bif Nat.beq i 277 then 278 else 0) else (bif Nat.beq i 275 then 276 else 0)))))) else (bif Nat.ble 226 i then (bif Nat.ble 248 i then (bif Nat.ble 261 i then (bif Nat.ble 266 i then (bif Nat.ble 272 i then (bif Nat.ble 273 i then (bif Nat.beq i 273 then 274 else 0) else (bif Nat.beq i 272 then (bif Nat.ble 4 k then (bif Nat.ble 6 k then (bif Nat.ble 7 k then 289 else 288) else (bif Nat.ble 5 k then 287 else 286)) else (bif Nat.ble 2 k then (bif Nat.ble 3 k then 279 else 277) else (bif Nat.ble 1 k then 275 else 273))) else 0)) else (bif Nat.beq i 266 then 267 else 0)) else (bif Nat.ble 262 i then (bif Nat.ble 264 i then (bif Nat.beq i 264 then 265 else 0) else (bif Nat.beq i 262 then 263 else 0)) else (bif Nat.beq i 261 then (bif Nat.ble 1 k then (bif Nat.ble 2 k then 266 else 264) else 262) else 0))) else (bif Nat.ble 255 i then (bif Nat.ble 257 i then (bif Nat.ble 259 i then (bif Nat.beq i 259 then 260 else 0) else (bif Nat.beq i 257 then 258 else 0)) else (bif Nat.beq i 255 then 256 else 0)) else (bif Nat.ble 254 i then (bif Nat.beq i 254 then (bif Nat.ble 4 k then (bif Nat.ble 6 k then (bif Nat.ble 7 k then 271 else 270) else (bif Nat.ble 5 k then 269 else 268)) else (bif Nat.ble 2 k then (bif Nat.ble 3 k then 261 else 259) else (bif Nat.ble 1 k then 257 else 255))) else 0) else (bif Nat.beq i 248 then 249 else 0)))) else (bif Nat.ble 239 i then (bif Nat.ble 243 i then (bif Nat.ble 244 i then (bif Nat.ble 246 i then (bif Nat.beq i 246 then 247 else 0) else (bif Nat.beq i 244 then 245 else 0)) else (bif Nat.beq i 243 then (bif Nat.ble 1 k then (bif Nat.ble 2 k then 248 else 246) else 244) else 0)) else (bif Nat.ble 241 i then (bif Nat.beq i 241 then 242 else 0) else (bif Nat.beq i 239 then 240 else 0))) else (bif Nat.ble 230 i then (bif Nat.ble 236 i then (bif Nat.ble 237 i then (bif Nat.beq i 237 then 238 else 0) else (bif Nat.beq i 236 then (bif Nat.ble 4 k then (bif Nat.ble 6 k then (bif Nat.ble 7 k then 253 else 252) else (bif Nat.ble 5 k then 251 else 250)) else (bif Nat.ble 2 k then (bif Nat.ble 3 k then 243 else 241) else (bif Nat.ble 1 k then 239 else 237))) else 0)) else (bif Nat.beq i 230 then 231 else 0)) else (bif Nat.ble 228 i then (bif Nat.beq i 228 then 229 else 0) else (bif Nat.beq i 226 then 227 else 0))))) else (bif Nat.ble 205 i then (bif Nat.ble 218 i then (bif Nat.ble 221 i then (bif Nat.ble 223 i then (bif Nat.ble 225 i then (bif Nat.beq i 225 then (bif Nat.ble 1 k then (bif Nat.ble 2 k then 230 else 228) else 226) else 0) else (bif Nat.beq i 223 then 224 else 0)) else (bif Nat.beq i 221 then 222 else 0)) else (bif Nat.ble 219 i then (bif Nat.beq i 219 then 220 else 0) else (bif Nat.beq i 218 then (bif Nat.ble 4 k then (bif Nat.ble 6 k then (bif Nat.ble 7 k then 235 else 234) else (bif Nat.ble 5 k then 233 else 232)) else (bif Nat.ble 2 k then (bif Nat.ble 3 k then 225 else 223) else (bif Nat.ble 1 k then 221 else 219))) else 0))) else (bif Nat.ble 208 i then (bif Nat.ble 210 i then (bif Nat.ble 212 i then (bif Nat.beq i 212 then 213 else 0) else (bif Nat.beq i 210 then 211 else 0)) else (bif Nat.beq i 208 then 209 else 0)) else (bif Nat.ble 207 i then (bif Nat.beq i 207 then (bif Nat.ble 1 k then (bif Nat.ble 2 k then 212 else 210) else 208) else 0) else (bif Nat.beq i 205 then 206 else 0)))) else (bif Nat.ble 192 i then (bif Nat.ble 200 i then (bif Nat.ble 201 i then (bif Nat.ble 203 i then (bif Nat.beq i 203 then 204 else 0) else (bif Nat.beq i 201 then 202 else 0)) else (bif Nat.beq i 200 then (bif Nat.ble 4 k then (bif Nat.ble 6 k then (bif Nat.ble 7 k then 217 else 216) else (bif Nat.ble 5 k then 215 else 214)) else (bif Nat.ble 2 k then (bif Nat.ble 3 k then 207 else 205) else (bif Nat.ble 1 k then 203 else 201))) else 0)) else (bif Nat.ble 194 i then (bif Nat.beq i 194 then 195 else 0) else (bif Nat.beq i 192 then 193 else 0))) else (bif Nat.ble 187 i then (bif Nat.ble 189 i then (bif Nat.ble 190 i then (bif Nat.beq i 190 then 191 else 0) else (bif Nat.beq i 189 then (bif Nat.ble 1 k then (bif Nat.ble 2 k then 194 else 192) else 190) else 0)) else (bif Nat.beq i 187 then 188 else 0)) else (bif Nat.ble 185 i then (bif Nat.beq i 185 then 186 else 0) else (bif Nat.beq i 183 then 184 else 0))))))) else (bif Nat.ble 86 i then (bif Nat.ble 135 i then (bif Nat.ble 156 i then (bif Nat.ble 169 i then (bif Nat.ble 174 i then (bif Nat.ble 176 i then (bif Nat.ble 182 i then (bif Nat.beq i 182 then (bif Nat.ble 4 k then (bif Nat.ble 6 k then (bif Nat.ble 7 k then 199 else 198) else (bif Nat.ble 5 k then 197 else 196)) else (bif Nat.ble 2 k then (bif Nat.ble 3 k then 189 else 187) else (bif Nat.ble 1 k then 185 else 183))) else 0) else (bif Nat.beq i 176 then 177 else 0)) else (bif Nat.beq i 174 then 175 else 0)) else (bif Nat.ble 171 i then (bif Nat.ble 172 i then (bif Nat.beq i 172 then 173 else 0) else (bif Nat.beq i 171 then (bif Nat.ble 1 k then (bif Nat.ble 2 k then 176 else 174) else 172) else 0)) else (bif Nat.beq i 169 then 170 else 0))) else (bif Nat.ble 164 i then (bif Nat.ble 165 i then (bif Nat.ble 167 i then (bif Nat.beq i 167 then 168 else 0) else (bif Nat.beq i 165 then 166 else 0)) else (bif Nat.beq i 164 then (bif Nat.ble 4 k then (bif Nat.ble 6 k then (bif Nat.ble 7 k then 181 else 180) else (bif Nat.ble 5 k then 179 else 178)) else (bif Nat.ble 2 k then (bif Nat.ble 3 k then 171 else 169) else (bif Nat.ble 1 k then 167 else 165))) else 0)) else (bif Nat.ble 158 i then (bif Nat.beq i 158 then 159 else 0) else (bif Nat.beq i 156 then 157 else 0)))) else (bif Nat.ble 147 i then (bif Nat.ble 151 i then (bif Nat.ble 153 i then (bif Nat.ble 154 i then (bif Nat.beq i 154 then 155 else 0) else (bif Nat.beq i 153 then (bif Nat.ble 1 k then (bif Nat.ble 2 k then 158 else 156) else 154) else 0)) else (bif Nat.beq i 151 then 152 else 0)) else (bif Nat.ble 149 i then (bif Nat.beq i 149 then 150 else 0) else (bif Nat.beq i 147 then 148 else 0))) else (bif Nat.ble 138 i then (bif Nat.ble 140 i then (bif Nat.ble 146 i then (bif Nat.beq i 146 then (bif Nat.ble 4 k then (bif Nat.ble 6 k then (bif Nat.ble 7 k then 163 else 162) else (bif Nat.ble 5 k then 161 else 160)) else (bif Nat.ble 2 k then (bif Nat.ble 3 k then 153 else 151) else (bif Nat.ble 1 k then 149 else 147))) else 0) else (bif Nat.beq i 140 then 141 else 0)) else (bif Nat.beq i 138 then 139 else 0)) else (bif Nat.ble 136 i then (bif Nat.beq i 136 then 137 else 0) else (bif Nat.beq i 135 then (bif Nat.ble 1 k then (bif Nat.ble 2 k then 140 else 138) else 136) else 0))))) else (bif Nat.ble 111 i then (bif Nat.ble 120 i then (bif Nat.ble 129 i then (bif Nat.ble 131 i then (bif Nat.ble 133 i then (bif Nat.beq i 133 then 134 else 0) else (bif Nat.beq i 131 then 132 else 0)) else (bif Nat.beq i 129 then 130 else 0)) else (bif Nat.ble 122 i then (bif Nat.ble 128 i then (bif Nat.beq i 128 then (bif Nat.ble 4 k then (bif Nat.ble 6 k then (bif Nat.ble 7 k then 145 else 144) else (bif Nat.ble 5 k then 143 else 142)) else (bif Nat.ble 2 k then (bif Nat.ble 3 k then 135 else 133) else (bif Nat.ble 1 k then 131 else 129))) else 0) else (bif Nat.beq i 122 then 123 else 0)) else (bif Nat.beq i 120 then 121 else 0))) else (bif Nat.ble 115 i then (bif Nat.ble 117 i then (bif Nat.ble 118 i then (bif Nat.beq i 118 then 119 else 0) else (bif Nat.beq i 117 then (bif Nat.ble 1 k then (bif Nat.ble 2 k then 122 else 120) else 118) else 0)) else (bif Nat.beq i 115 then 116 else 0)) else (bif Nat.ble 113 i then (bif Nat.beq i 113 then 114 else 0) else (bif Nat.beq i 111 then 112 else 0)))) else (bif Nat.ble 99 i then (bif Nat.ble 102 i then (bif Nat.ble 104 i then (bif Nat.ble 110 i then (bif Nat.beq i 110 then (bif Nat.ble 4 k then (bif Nat.ble 6 k then (bif Nat.ble 7 k then 127 else 126) else (bif Nat.ble 5 k then 125 else 124)) else (bif Nat.ble 2 k then (bif Nat.ble 3 k then 117 else 115) else (bif Nat.ble 1 k then 113 else 111))) else 0) else (bif Nat.beq i 104 then 105 else 0)) else (bif Nat.beq i 102 then 103 else 0)) else (bif Nat.ble 100 i then (bif Nat.beq i 100 then 101 else 0) else (bif Nat.beq i 99 then (bif Nat.ble 1 k then (bif Nat.ble 2 k then 104 else 102) else 100) else 0))) else (bif Nat.ble 93 i then (bif Nat.ble 95 i then (bif Nat.ble 97 i then (bif Nat.beq i 97 then 98 else 0) else (bif Nat.beq i 95 then 96 else 0)) else (bif Nat.beq i 93 then 94 else 0)) else (bif Nat.ble 92 i then (bif Nat.beq i 92 then (bif Nat.ble 4 k then (bif Nat.ble 6 k then (bif Nat.ble 7 k then 109 else 108) else (bif Nat.ble 5 k then 107 else 106)) else (bif Nat.ble 2 k then (bif Nat.ble 3 k then 99 else 97) else (bif Nat.ble 1 k then 95 else 93))) else 0) else (bif Nat.beq i 86 then 87 else 0)))))) else (bif Nat.ble 41 i then (bif Nat.ble 63 i then (bif Nat.ble 75 i then (bif Nat.ble 81 i then (bif Nat.ble 82 i then (bif Nat.ble 84 i then (bif Nat.beq i 84 then 85 else 0) else (bif Nat.beq i 82 then 83 else 0)) else (bif Nat.beq i 81 then (bif Nat.ble 1 k then (bif Nat.ble 2 k then 86 else 84) else 82) else 0)) else (bif Nat.ble 77 i then (bif Nat.ble 79 i then (bif Nat.beq i 79 then 80 else 0) else (bif Nat.beq i 77 then 78 else 0)) else (bif Nat.beq i 75 then 76 else 0))) else (bif Nat.ble 66 i then (bif Nat.ble 68 i then (bif Nat.ble 74 i then (bif Nat.beq i 74 then (bif Nat.ble 4 k then (bif Nat.ble 6 k then (bif Nat.ble 7 k then 91 else 90) else (bif Nat.ble 5 k then 89 else 88)) else (bif Nat.ble 2 k then (bif Nat.ble 3 k then 81 else 79) else (bif Nat.ble 1 k then 77 else 75))) else 0) else (bif Nat.beq i 68 then 69 else 0)) else (bif Nat.beq i 66 then 67 else 0)) else (bif Nat.ble 64 i then (bif Nat.beq i 64 then 65 else 0) else (bif Nat.beq i 63 then (bif Nat.ble 1 k then (bif Nat.ble 2 k then 68 else 66) else 64) else 0)))) else (bif Nat.ble 50 i then (bif Nat.ble 57 i then (bif Nat.ble 59 i then (bif Nat.ble 61 i then (bif Nat.beq i 61 then 62 else 0) else (bif Nat.beq i 59 then 60 else 0)) else (bif Nat.beq i 57 then 58 else 0)) else (bif Nat.ble 56 i then (bif Nat.beq i 56 then (bif Nat.ble 4 k then (bif Nat.ble 6 k then (bif Nat.ble 7 k then 73 else 72) else (bif Nat.ble 5 k then 71 else 70)) else (bif Nat.ble 2 k then (bif Nat.ble 3 k then 63 else 61) else (bif Nat.ble 1 k then 59 else 57))) else 0) else (bif Nat.beq i 50 then 51 else 0))) else (bif Nat.ble 45 i then (bif Nat.ble 46 i then (bif Nat.ble 48 i then (bif Nat.beq i 48 then 49 else 0) else (bif Nat.beq i 46 then 47 else 0)) else (bif Nat.beq i 45 then (bif Nat.ble 1 k then (bif Nat.ble 2 k then 50 else 48) else 46) else 0)) else (bif Nat.ble 43 i then (bif Nat.beq i 43 then 44 else 0) else (bif Nat.beq i 41 then 42 else 0))))) else (bif Nat.ble 20 i then (bif Nat.ble 28 i then (bif Nat.ble 32 i then (bif Nat.ble 38 i then (bif Nat.ble 39 i then (bif Nat.beq i 39 then 40 else 0) else (bif Nat.beq i 38 then (bif Nat.ble 4 k then (bif Nat.ble 6 k then (bif Nat.ble 7 k then 55 else 54) else (bif Nat.ble 5 k then 53 else 52)) else (bif Nat.ble 2 k then (bif Nat.ble 3 k then 45 else 43) else (bif Nat.ble 1 k then 41 else 39))) else 0)) else (bif Nat.beq i 32 then 33 else 0)) else (bif Nat.ble 30 i then (bif Nat.beq i 30 then 31 else 0) else (bif Nat.beq i 28 then 29 else 0))) else (bif Nat.ble 23 i then (bif Nat.ble 25 i then (bif Nat.ble 27 i then (bif Nat.beq i 27 then (bif Nat.ble 1 k then (bif Nat.ble 2 k then 32 else 30) else 28) else 0) else (bif Nat.beq i 25 then 26 else 0)) else (bif Nat.beq i 23 then 24 else 0)) else (bif Nat.ble 21 i then (bif Nat.beq i 21 then 22 else 0) else (bif Nat.beq i 20 then (bif Nat.ble 4 k then (bif Nat.ble 6 k then (bif Nat.ble 7 k then 37 else 36) else (bif Nat.ble 5 k then 35 else 34)) else (bif Nat.ble 2 k then (bif Nat.ble 3 k then 27 else 25) else (bif Nat.ble 1 k then 23 else 21))) else 0)))) else (bif Nat.ble 8 i then (bif Nat.ble 11 i then (bif Nat.ble 13 i then (bif Nat.ble 19 i then (bif Nat.beq i 19 then (bif Nat.ble 8 k then (bif Nat.ble 12 k then (bif Nat.ble 14 k then (bif Nat.ble 15 k then 290 else 272) else (bif Nat.ble 13 k then 254 else 236)) else (bif Nat.ble 10 k then (bif Nat.ble 11 k then 218 else 200) else (bif Nat.ble 9 k then 182 else 164))) else (bif Nat.ble 4 k then (bif Nat.ble 6 k then (bif Nat.ble 7 k then 146 else 128) else (bif Nat.ble 5 k then 110 else 92)) else (bif Nat.ble 2 k then (bif Nat.ble 3 k then 74 else 56) else (bif Nat.ble 1 k then 38 else 20)))) else 0) else (bif Nat.beq i 13 then 14 else 0)) else (bif Nat.beq i 11 then 12 else 0)) else (bif Nat.ble 9 i then (bif Nat.beq i 9 then 10 else 0) else (bif Nat.beq i 8 then (bif Nat.ble 1 k then (bif Nat.ble 2 k then 13 else 11) else 9) else 0))) else (bif Nat.ble 2 i then (bif Nat.ble 4 i then (bif Nat.ble 6 i then (bif Nat.beq i 6 then 7 else 0) else (bif Nat.beq i 4 then 5 else 0)) else (bif Nat.beq i 2 then 3 else 0)) else (bif Nat.ble 1 i then (bif Nat.beq i 1 then (bif Nat.ble 4 k then (bif Nat.ble 6 k then (bif Nat.ble 7 k then 18 else 17) else (bif Nat.ble 5 k then 16 else 15)) else (bif Nat.ble 2 k then (bif Nat.ble 3 k then 8 else 6) else (bif Nat.ble 1 k then 4 else 2))) else 0) else (bif Nat.beq i 0 then (bif Nat.ble 12 k then (bif Nat.ble 16 k then (bif Nat.ble 18 k then (bif Nat.ble 19 k then 386 else 383) else (bif Nat.ble 17 k then 377 else 374)) else (bif Nat.ble 14 k then (bif Nat.ble 15 k then 362 else 356) else (bif Nat.ble 13 k then 339 else 328))) else (bif Nat.ble 6 k then (bif Nat.ble 10 k then (bif Nat.ble 11 k then 319 else 313) else (bif Nat.ble 7 k then 312 else 311)) else (bif Nat.ble 2 k then (bif Nat.ble 5 k then 309 else 308) else (bif Nat.ble 1 k then 19 else 1)))) else 0))))))))
/-- a field's kind: 0 a number, 1 a reference, 2 a long -/
def jft (c k : Nat) : Nat := (bif Nat.ble 6 c then (bif Nat.ble 9 c then (bif Nat.ble 11 c then (bif Nat.ble 12 c then (bif Nat.ble 48 k then (bif Nat.ble 62 k then (bif Nat.ble 75 k then (bif Nat.ble 77 k then (bif Nat.ble 81 k then (bif Nat.ble 84 k then 1 else 0) else 1) else (bif Nat.ble 76 k then 0 else 1)) else (bif Nat.ble 69 k then (bif Nat.ble 70 k then (bif Nat.ble 72 k then 0 else 1) else 0) else (bif Nat.ble 63 k then 1 else 0))) else (bif Nat.ble 54 k then (bif Nat.ble 58 k then (bif Nat.ble 59 k then (bif Nat.ble 61 k then 1 else 0) else 2) else (bif Nat.ble 55 k then 0 else 1)) else (bif Nat.ble 51 k then (bif Nat.ble 52 k then (bif Nat.ble 53 k then 0 else 1) else 0) else (bif Nat.ble 50 k then 1 else 0)))) else (bif Nat.ble 25 k then (bif Nat.ble 30 k then (bif Nat.ble 39 k then (bif Nat.ble 45 k then (bif Nat.ble 46 k then 1 else 0) else 1) else (bif Nat.ble 31 k then 0 else 1)) else (bif Nat.ble 27 k then (bif Nat.ble 28 k then (bif Nat.ble 29 k then 0 else 1) else 0) else (bif Nat.ble 26 k then 1 else 0))) else (bif Nat.ble 9 k then (bif Nat.ble 17 k then (bif Nat.ble 22 k then (bif Nat.ble 23 k then 1 else 0) else 1) else (bif Nat.ble 13 k then 0 else 1)) else (bif Nat.ble 6 k then (bif Nat.ble 7 k then (bif Nat.ble 8 k then 0 else 1) else 0) else (bif Nat.ble 2 k then 1 else 0))))) else (bif Nat.ble 5 k then (bif Nat.ble 8 k then (bif Nat.ble 10 k then 1 else 0) else 1) else (bif Nat.ble 3 k then 0 else 1))) else (bif Nat.ble 10 c then (bif Nat.ble 1 k then (bif Nat.ble 2 k then 1 else 0) else 1) else (bif Nat.ble 8 k then 0 else 1))) else (bif Nat.ble 7 c then (bif Nat.ble 8 c then (bif Nat.ble 1 k then 0 else 1) else (bif Nat.ble 3 k then (bif Nat.ble 7 k then (bif Nat.ble 15 k then 0 else 1) else 0) else (bif Nat.ble 2 k then 1 else 0))) else (bif Nat.ble 5 k then (bif Nat.ble 15 k then 0 else 1) else 0))) else (bif Nat.ble 3 c then (bif Nat.ble 4 c then (bif Nat.ble 5 c then (bif Nat.ble 3 k then 1 else 0) else 1) else (bif Nat.ble 2 k then 0 else 1)) else (bif Nat.ble 1 c then (bif Nat.ble 2 c then 1 else (bif Nat.ble 9 k then (bif Nat.ble 10 k then (bif Nat.ble 11 k then 0 else 1) else 0) else (bif Nat.ble 1 k then (bif Nat.ble 6 k then 1 else 0) else 1))) else (bif Nat.ble 6 k then (bif Nat.ble 7 k then 0 else 1) else (bif Nat.ble 5 k then 0 else 1)))))
def jnf (c : Nat) : Nat := (bif Nat.ble 6 c then (bif Nat.ble 9 c then (bif Nat.ble 11 c then (bif Nat.ble 12 c then 85 else 20) else (bif Nat.ble 10 c then 6 else 10)) else (bif Nat.ble 7 c then (bif Nat.ble 8 c then 2 else 16) else 18)) else (bif Nat.ble 3 c then (bif Nat.ble 4 c then (bif Nat.ble 5 c then 6 else 5) else 3) else (bif Nat.ble 1 c then (bif Nat.ble 2 c then 1 else 12) else 9)))
def jfv (h : jH) (i c k : Nat) : Value := bif Nat.beq (jft c k) 0 then .int (jI (h i k)) else bif Nat.beq (jft c k) 1 then .ref (sr i k) else .long (jl (h i k))
def jst (i k : Nat) : Int := bif Nat.beq i 3000000 then [2, 0, 1, 0, 1].getD k 0 else bif Nat.beq i 3000001 then [9, 9, 9, 9, 6].getD k 0 else [3, 1, 1, 1, 2].getD k 0
def jhd (k : Nat) : Int := [656741, 206220, 19513, 1279278, 21279923].getD k 0
/-- the cells, by what they hold -/
def jm (h : jH) : Nat → va_E := fun i => bif Nat.ble 1000000 i then (bif Nat.beq i 1000000 then .inl (100, (h 1000001 0).toNat, .inl (fun k => jI (h 1000000 k))) else bif Nat.ble 3000000 i && Nat.ble i 3000002 then .inl (100, 5, .inl (fun k => jI (jst i k))) else jJ)
  else bif Nat.ble (sk i) 12 then .inr (sk i, (List.range (jnf (sk i))).map (jfv h i (sk i)))
  else bif Nat.beq (sk i) 13 || Nat.beq (sk i) 15 then .inl (sk i, sl i, .inl (fun k => jI (h i k)))
  else bif Nat.beq (sk i) 14 then .inl (14, 5, .inr (.inl (fun k => jl (jhd k))))
  else bif Nat.beq (sk i) 16 || Nat.beq (sk i) 17 then .inl (sk i, sl i, .inr (.inr (.inr (.inr (fun k => some (sr i k))))))
  else jJ
def jNc : Nat := 434
def jNs : Nat := 58835
def jT0 (h : jH) : jG := (jm h, jNc, jNs)
def hs (h : jH) (i k : Nat) (z : Int) : jH := fun a b => if a = i ∧ b = k then z else h a b
def hw (h : jH) (i : Nat) (f : Nat → Int) : jH := fun a => if a = i then f else h a
theorem sk_lt {i : Nat} (h : sk i ≤ 17) : i < 1000000 := by
  rcases Nat.lt_or_ge i 434 with q | q
  · omega
  · have e : sk i = 999 := by
      unfold sk
      rw [show Nat.ble 186 i = true from Nat.ble_eq_true_of_le (by omega), show Nat.ble 279 i = true from Nat.ble_eq_true_of_le (by omega), show Nat.ble 336 i = true from Nat.ble_eq_true_of_le (by omega), show Nat.ble 364 i = true from Nat.ble_eq_true_of_le (by omega), show Nat.ble 381 i = true from Nat.ble_eq_true_of_le (by omega), show Nat.ble 387 i = true from Nat.ble_eq_true_of_le (by omega), show Nat.ble 419 i = true from Nat.ble_eq_true_of_le (by omega), show Nat.ble 420 i = true from Nat.ble_eq_true_of_le (by omega), show Nat.ble 434 i = true from Nat.ble_eq_true_of_le (by omega)]
      simp only [cond_true]
    omega
theorem jm_obj {h : jH} {i c : Nat} (hk : sk i = c) (hc : c ≤ 12) : jm h i = .inr (c, (List.range (jnf c)).map (jfv h i c)) := by
  have h1 := sk_lt (i := i) (by omega)
  unfold jm
  rw [show Nat.ble 1000000 i = false from Bool.eq_false_iff.mpr fun z => by have := Nat.le_of_ble_eq_true z; omega, hk, show Nat.ble c 12 = true from Nat.ble_eq_true_of_le hc]
  rfl
theorem jm_arr {h : jH} {i c : Nat} (hk : sk i = c) (hc : c = 13 ∨ c = 15) : jm h i = .inl (c, sl i, .inl (fun k => jI (h i k))) := by
  have h1 := sk_lt (i := i) (by omega)
  unfold jm
  rw [show Nat.ble 1000000 i = false from Bool.eq_false_iff.mpr fun z => by have := Nat.le_of_ble_eq_true z; omega, hk]
  rcases hc with rfl | rfl <;> rfl
theorem jm_ref {h : jH} {i c : Nat} (hk : sk i = c) (hc : c = 16 ∨ c = 17) : jm h i = .inl (c, sl i, .inr (.inr (.inr (.inr (fun k => some (sr i k)))))) := by
  have h1 := sk_lt (i := i) (by omega)
  unfold jm
  rw [show Nat.ble 1000000 i = false from Bool.eq_false_iff.mpr fun z => by have := Nat.le_of_ble_eq_true z; omega, hk]
  rcases hc with rfl | rfl <;> rfl
theorem jm_long {h : jH} {i : Nat} (hk : sk i = 14) : jm h i = .inl (14, 5, .inr (.inl (fun k => jl (jhd k)))) := by
  have h1 := sk_lt (i := i) (by omega)
  unfold jm
  rw [show Nat.ble 1000000 i = false from Bool.eq_false_iff.mpr fun z => by have := Nat.le_of_ble_eq_true z; omega, hk]
  rfl
theorem jm_off {h h' : jH} {a : Nat} (ha : a < 1000000) (e : ∀ i, i ≠ a → h' i = h i) : ∀ i, i ≠ a → jm h' i = jm h i := by
  intro i hi
  have e1 := e i hi
  have e2 := e 1000000 (by omega)
  have e3 := e 1000001 (by omega)
  have e4 : ∀ c, jfv h' i c = jfv h i c := fun c => by funext k; unfold jfv; rw [e1]
  unfold jm
  rw [e1, e2, e3, e4]
theorem jup_put {h : jH} {i c k : Nat} {w : Value} {z : Int} (hk : sk i = c) (hc : c ≤ 12) (hw9 : jfv (hs h i k z) i c k = w) : jup (jT0 h) i (.inr (c, ((List.range (jnf c)).map (jfv h i c)).set k w)) = jT0 (hs h i k z) := by
  have h1 := sk_lt (i := i) (by omega)
  show ((va_up (jm h) i _, jNc, jNs) : jG) = (jm (hs h i k z), jNc, jNs)
  congr 1
  funext a
  unfold va_up
  by_cases ha : a = i
  · subst ha
    rw [if_pos rfl, jm_obj (h := hs h a k z) hk hc]
    congr 2
    apply List.ext_getElem?
    intro q
    by_cases hq : q = k
    · subst hq
      by_cases hl : q < jnf c
      · rw [List.getElem?_set_self (by simpa using hl)]
        simp [hl, hw9]
      · rw [List.getElem?_eq_none (by simpa using hl), List.getElem?_eq_none (by simpa using hl)]
    · rw [List.getElem?_set_ne (Ne.symm hq)]
      by_cases hl : q < jnf c
      · simp only [List.getElem?_map, List.getElem?_range hl, Option.map_some]
        unfold jfv hs
        simp [hq]
      · rw [List.getElem?_eq_none (by simpa using hl), List.getElem?_eq_none (by simpa using hl)]
  · rw [if_neg ha]
    exact (jm_off h1 (fun b hb => by funext q; simp [hs, hb]) a ha).symm
theorem jup_arr {h : jH} {i c : Nat} {f : Nat → Int} (hk : sk i = c) (hc : c = 13 ∨ c = 15) : jup (jT0 h) i (.inl (c, sl i, .inl (fun k => jI (f k)))) = jT0 (hw h i f) := by
  have h1 := sk_lt (i := i) (by omega)
  show ((va_up (jm h) i _, jNc, jNs) : jG) = (jm (hw h i f), jNc, jNs)
  congr 1
  funext a
  unfold va_up
  by_cases ha : a = i
  · subst ha
    rw [if_pos rfl, jm_arr (h := hw h a f) hk hc]
    simp [hw]
  · rw [if_neg ha]
    exact (jm_off h1 (fun b hb => by simp [hw, hb]) a ha).symm
theorem hs_eq (h : jH) (i k : Nat) (z : Int) : hs h i k z = hw h i (fun b => if b = k then z else h i b) := by
  funext a b
  unfold hs hw
  by_cases ha : a = i
  · subst ha; simp
  · simp [ha]
theorem jup_ast {h : jH} {i c k : Nat} {z : Int} (hk : sk i = c) (hc : c = 13 ∨ c = 15) : jup (jT0 h) i (.inl (c, sl i, .inl (upd (fun k => jI (h i k)) k (jI z)))) = jT0 (hs h i k z) := by
  rw [hs_eq, ← jup_arr (f := fun b => if b = k then z else h i b) hk hc]
  have e : upd (fun k => jI (h i k)) k (jI z) = fun q => jI (if q = k then z else h i q) := by
    funext q
    unfold upd
    by_cases hq : q = k <;> simp [hq]
  rw [e]
/-- the judgement over such a memory, with what holds at the return -/
def jT (l : Launch) (j pc : Nat) (L : jLo) (st : List Value) (h : jH) (P : Option Value → jH → Prop) : Prop := ∃ (v : Option Value) (h' : jH), P v h' ∧ jE l j pc L st (jT0 h) v (jT0 h')
def cT (l : Launch) (j : Nat) (av : List Value) (h : jH) (P : Option Value → jH → Prop) : Prop := ∃ (v : Option Value) (h' : jH), P v h' ∧ jCl l j av (jT0 h) v (jT0 h')
def cI (l : Launch) (j : Nat) (av : List Value) (h : jH) (P : Int → jH → Prop) : Prop := cT l j av h (fun v h' => ∃ z, v = some (.int (jI z)) ∧ P z h')
def cV (l : Launch) (j : Nat) (av : List Value) (h : jH) (P : jH → Prop) : Prop := cT l j av h (fun v h' => v = none ∧ P h')
def cR (l : Launch) (j : Nat) (av : List Value) (h : jH) (P : Nat → jH → Prop) : Prop := cT l j av h (fun v h' => ∃ a, v = some (.ref a) ∧ P a h')
section TL
variable {l : Launch} {j pc : Nat} {L : jLo} {st : List Value} {h : jH} {P : Option Value → jH → Prop}
theorem tl_iconst {n : Int} (hi : jIns j pc = some (.iconst n, 1, 0)) (k : jT l j (pc + 1) L (.int (jI n) :: st) h P) : jT l j pc L (st) h P := by
  obtain ⟨v, h', hp, hE⟩ := k
  exact ⟨v, h', hp, je_iconst hi hE⟩
theorem tl_bipush {n : Int} (hi : jIns j pc = some (.bipush n, 2, 0)) (hv : (Int8.ofInt n).toInt32 = jI n) (k : jT l j (pc + 2) L (.int (jI n) :: st) h P) : jT l j pc L (st) h P := by
  obtain ⟨v, h', hp, hE⟩ := k
  exact ⟨v, h', hp, je_bipush hi hv hE⟩
theorem tl_sipush {n : Int} (hi : jIns j pc = some (.sipush n, 3, 0)) (hv : (Int16.ofInt n).toInt32 = jI n) (k : jT l j (pc + 3) L (.int (jI n) :: st) h P) : jT l j pc L (st) h P := by
  obtain ⟨v, h', hp, hE⟩ := k
  exact ⟨v, h', hp, je_sipush hi hv hE⟩
theorem tl_lconst {n : Fin 2} {z : Int} (hi : jIns j pc = some (.lconst n, 1, 0)) (hv : Int64.ofNat (n : Nat) = jl z) (k : jT l j (pc + 1) L (.long (jl z) :: st) h P) : jT l j pc L (st) h P := by
  obtain ⟨v, h', hp, hE⟩ := k
  exact ⟨v, h', hp, je_lconst hi hv hE⟩
theorem tl_iload {i : Nat} {x : Int32} (hi : jIns j pc = some (.iload i, 2, 0)) (hl : L[i]? = some (some (.int x))) (k : jT l j (pc + 2) L (.int x :: st) h P) : jT l j pc L st h P := by
  obtain ⟨v, h', hp, hE⟩ := k
  exact ⟨v, h', hp, je_iload hi hl hE⟩
theorem tl_iload_n {i : Fin 4} {x : Int32} (hi : jIns j pc = some (.iload_n i, 1, 0)) (hl : L[(i : Nat)]? = some (some (.int x))) (k : jT l j (pc + 1) L (.int x :: st) h P) : jT l j pc L st h P := by
  obtain ⟨v, h', hp, hE⟩ := k
  exact ⟨v, h', hp, je_iload_n hi hl hE⟩
theorem tl_lload {i : Nat} {x : Int64} (hi : jIns j pc = some (.lload i, 2, 0)) (hl : L[i]? = some (some (.long x))) (k : jT l j (pc + 2) L (.long x :: st) h P) : jT l j pc L st h P := by
  obtain ⟨v, h', hp, hE⟩ := k
  exact ⟨v, h', hp, je_lload hi hl hE⟩
theorem tl_lload_n {i : Fin 4} {x : Int64} (hi : jIns j pc = some (.lload_n i, 1, 0)) (hl : L[(i : Nat)]? = some (some (.long x))) (k : jT l j (pc + 1) L (.long x :: st) h P) : jT l j pc L st h P := by
  obtain ⟨v, h', hp, hE⟩ := k
  exact ⟨v, h', hp, je_lload_n hi hl hE⟩
theorem tl_aload {i : Nat} {x : Nat} (hi : jIns j pc = some (.aload i, 2, 0)) (hl : L[i]? = some (some (.ref x))) (k : jT l j (pc + 2) L (.ref x :: st) h P) : jT l j pc L st h P := by
  obtain ⟨v, h', hp, hE⟩ := k
  exact ⟨v, h', hp, je_aload hi hl hE⟩
theorem tl_aload_n {i : Fin 4} {x : Nat} (hi : jIns j pc = some (.aload_n i, 1, 0)) (hl : L[(i : Nat)]? = some (some (.ref x))) (k : jT l j (pc + 1) L (.ref x :: st) h P) : jT l j pc L st h P := by
  obtain ⟨v, h', hp, hE⟩ := k
  exact ⟨v, h', hp, je_aload_n hi hl hE⟩
theorem tl_istore {i : Nat} {x : Int32} (hi : jIns j pc = some (.istore i, 2, 0)) (h1 : i < L.length) (h2 : jnl L i = true) (k : jT l j (pc + 2) (L.set i (some (.int x))) st h P) : jT l j pc L (.int x :: st) h P := by
  obtain ⟨v, h', hp, hE⟩ := k
  exact ⟨v, h', hp, je_istore hi h1 h2 hE⟩
theorem tl_istore_n {i : Fin 4} {x : Int32} (hi : jIns j pc = some (.istore_n i, 1, 0)) (h1 : (i : Nat) < L.length) (h2 : jnl L (i : Nat) = true) (k : jT l j (pc + 1) (L.set (i : Nat) (some (.int x))) st h P) : jT l j pc L (.int x :: st) h P := by
  obtain ⟨v, h', hp, hE⟩ := k
  exact ⟨v, h', hp, je_istore_n hi h1 h2 hE⟩
theorem tl_astore {i : Nat} {x : Nat} (hi : jIns j pc = some (.astore i, 2, 0)) (h1 : i < L.length) (h2 : jnl L i = true) (k : jT l j (pc + 2) (L.set i (some (.ref x))) st h P) : jT l j pc L (.ref x :: st) h P := by
  obtain ⟨v, h', hp, hE⟩ := k
  exact ⟨v, h', hp, je_astore hi h1 h2 hE⟩
theorem tl_astore_n {i : Fin 4} {x : Nat} (hi : jIns j pc = some (.astore_n i, 1, 0)) (h1 : (i : Nat) < L.length) (h2 : jnl L (i : Nat) = true) (k : jT l j (pc + 1) (L.set (i : Nat) (some (.ref x))) st h P) : jT l j pc L (.ref x :: st) h P := by
  obtain ⟨v, h', hp, hE⟩ := k
  exact ⟨v, h', hp, je_astore_n hi h1 h2 hE⟩
theorem tl_iinc {i : Nat} {n x : Int} (hi : jIns j pc = some (.iinc i n, 3, 0)) (hl : L[i]? = some (some (.int (jI x)))) (h2 : jnl L i = true) (k : jT l j (pc + 3) (L.set i (some (.int (jI (x + n))))) st h P) : jT l j pc L st h P := by
  obtain ⟨v, h', hp, hE⟩ := k
  exact ⟨v, h', hp, je_iinc hi hl h2 hE⟩
theorem tl_iadd {x y : Int} (hi : jIns j pc = some (.iadd, 1, 0)) (k : jT l j (pc + 1) L (.int (jI (x + y)) :: st) h P) : jT l j pc L (.int (jI y) :: .int (jI x) :: st) h P := by
  obtain ⟨v, h', hp, hE⟩ := k
  exact ⟨v, h', hp, je_iadd hi hE⟩
theorem tl_isub {x y : Int} (hi : jIns j pc = some (.isub, 1, 0)) (k : jT l j (pc + 1) L (.int (jI (x - y)) :: st) h P) : jT l j pc L (.int (jI y) :: .int (jI x) :: st) h P := by
  obtain ⟨v, h', hp, hE⟩ := k
  exact ⟨v, h', hp, je_isub hi hE⟩
theorem tl_imul {x y : Int} (hi : jIns j pc = some (.imul, 1, 0)) (k : jT l j (pc + 1) L (.int (jI (x * y)) :: st) h P) : jT l j pc L (.int (jI y) :: .int (jI x) :: st) h P := by
  obtain ⟨v, h', hp, hE⟩ := k
  exact ⟨v, h', hp, je_imul hi hE⟩
theorem tl_ineg {x : Int} (hi : jIns j pc = some (.ineg, 1, 0)) (k : jT l j (pc + 1) L (.int (jI (-x)) :: st) h P) : jT l j pc L (.int (jI x) :: st) h P := by
  obtain ⟨v, h', hp, hE⟩ := k
  exact ⟨v, h', hp, je_ineg hi hE⟩
theorem tl_ladd {x y : Int} (hi : jIns j pc = some (.ladd, 1, 0)) (k : jT l j (pc + 1) L (.long (jl (x + y)) :: st) h P) : jT l j pc L (.long (jl y) :: .long (jl x) :: st) h P := by
  obtain ⟨v, h', hp, hE⟩ := k
  exact ⟨v, h', hp, je_ladd hi hE⟩
theorem tl_lsub {x y : Int} (hi : jIns j pc = some (.lsub, 1, 0)) (k : jT l j (pc + 1) L (.long (jl (x - y)) :: st) h P) : jT l j pc L (.long (jl y) :: .long (jl x) :: st) h P := by
  obtain ⟨v, h', hp, hE⟩ := k
  exact ⟨v, h', hp, je_lsub hi hE⟩
theorem tl_lmul {x y : Int} (hi : jIns j pc = some (.lmul, 1, 0)) (k : jT l j (pc + 1) L (.long (jl (x * y)) :: st) h P) : jT l j pc L (.long (jl y) :: .long (jl x) :: st) h P := by
  obtain ⟨v, h', hp, hE⟩ := k
  exact ⟨v, h', hp, je_lmul hi hE⟩
theorem tl_idiv {x y : Int} (hi : jIns j pc = some (.idiv, 1, 0)) (h1 : 0 ≤ x) (h2 : x < 2147483648) (h3 : 0 < y) (h4 : y < 2147483648) (k : jT l j (pc + 1) L (.int (jI (x / y)) :: st) h P) : jT l j pc L (.int (jI y) :: .int (jI x) :: st) h P := by
  obtain ⟨v, h', hp, hE⟩ := k
  exact ⟨v, h', hp, je_idiv hi h1 h2 h3 h4 hE⟩
theorem tl_irem {x y : Int} (hi : jIns j pc = some (.irem, 1, 0)) (h1 : 0 ≤ x) (h2 : x < 2147483648) (h3 : 0 < y) (h4 : y < 2147483648) (k : jT l j (pc + 1) L (.int (jI (x % y)) :: st) h P) : jT l j pc L (.int (jI y) :: .int (jI x) :: st) h P := by
  obtain ⟨v, h', hp, hE⟩ := k
  exact ⟨v, h', hp, je_irem hi h1 h2 h3 h4 hE⟩
theorem tl_iremT {x y : Int} (hi : jIns j pc = some (.irem, 1, 0)) (h1 : jr x) (h3 : 0 < y) (h4 : y < 2147483648) (k : jT l j (pc + 1) L (.int (jI (x.tmod y)) :: st) h P) : jT l j pc L (.int (jI y) :: .int (jI x) :: st) h P := by
  obtain ⟨v, h', hp, hE⟩ := k
  exact ⟨v, h', hp, je_iremT hi h1 h3 h4 hE⟩
theorem tl_iand {x y z : Int32} (hi : jIns j pc = some (.iand, 1, 0)) (hz : x &&& y = z) (k : jT l j (pc + 1) L (.int z :: st) h P) : jT l j pc L (.int y :: .int x :: st) h P := by
  obtain ⟨v, h', hp, hE⟩ := k
  exact ⟨v, h', hp, je_iand hi hz hE⟩
theorem tl_ixor {x y z : Int32} (hi : jIns j pc = some (.ixor, 1, 0)) (hz : x ^^^ y = z) (k : jT l j (pc + 1) L (.int z :: st) h P) : jT l j pc L (.int y :: .int x :: st) h P := by
  obtain ⟨v, h', hp, hE⟩ := k
  exact ⟨v, h', hp, je_ixor hi hz hE⟩
theorem tl_ishr {x y z : Int32} (hi : jIns j pc = some (.ishr, 1, 0)) (hz : x >>> (y &&& 31) = z) (k : jT l j (pc + 1) L (.int z :: st) h P) : jT l j pc L (.int y :: .int x :: st) h P := by
  obtain ⟨v, h', hp, hE⟩ := k
  exact ⟨v, h', hp, je_ishr hi hz hE⟩
theorem tl_i2l {x : Int} (hi : jIns j pc = some (.i2l, 1, 0)) (h1 : jr x) (k : jT l j (pc + 1) L (.long (jl x) :: st) h P) : jT l j pc L (.int (jI x) :: st) h P := by
  obtain ⟨v, h', hp, hE⟩ := k
  exact ⟨v, h', hp, je_i2l hi h1 hE⟩
theorem tl_l2i {x : Int} (hi : jIns j pc = some (.l2i, 1, 0)) (h1 : jr x) (k : jT l j (pc + 1) L (.int (jI x) :: st) h P) : jT l j pc L (.long (jl x) :: st) h P := by
  obtain ⟨v, h', hp, hE⟩ := k
  exact ⟨v, h', hp, je_l2i hi h1 hE⟩
theorem tl_dup {a : Value} (hi : jIns j pc = some (.dup, 1, 0)) (ha : a.category = 1) (k : jT l j (pc + 1) L (a :: a :: st) h P) : jT l j pc L (a :: st) h P := by
  obtain ⟨v, h', hp, hE⟩ := k
  exact ⟨v, h', hp, je_dup hi ha hE⟩
theorem tl_pop {a : Value} (hi : jIns j pc = some (.pop, 1, 0)) (ha : a.category = 1) (k : jT l j (pc + 1) L (st) h P) : jT l j pc L (a :: st) h P := by
  obtain ⟨v, h', hp, hE⟩ := k
  exact ⟨v, h', hp, je_pop hi ha hE⟩
theorem tl_dup2 {a b : Value} (hi : jIns j pc = some (.dup2, 1, 0)) (ha : a.category = 1) (hb : b.category = 1) (k : jT l j (pc + 1) L (a :: b :: a :: b :: st) h P) : jT l j pc L (a :: b :: st) h P := by
  obtain ⟨v, h', hp, hE⟩ := k
  exact ⟨v, h', hp, je_dup2 hi ha hb hE⟩
theorem tl_lcmp {x y : Int} (hi : jIns j pc = some (.lcmp, 1, 0)) (h1 : jrl x) (h2 : jrl y) (k : jT l j (pc + 1) L (.int (jI (if y < x then 1 else if x = y then 0 else -1)) :: st) h P) : jT l j pc L (.long (jl y) :: .long (jl x) :: st) h P := by
  obtain ⟨v, h', hp, hE⟩ := k
  exact ⟨v, h', hp, je_lcmp hi h1 h2 hE⟩
theorem tl_if_eq {x off : Int} {tgt : Nat} (hi : jIns j pc = some (.ifCond .eq off, 3, 0)) (ht : (pc : Int) + off = (tgt : Int)) (hx : jr x) (kt : x = 0 → jT l j tgt L st h P) (kf : ¬ (x = 0) → jT l j (pc + 3) L st h P) : jT l j pc L (.int (jI x) :: st) h P := by
  by_cases q : x = 0
  · obtain ⟨v, h', hp, hE⟩ := kt q
    exact ⟨v, h', hp, je_if_eq hi ht hx (fun _ => hE) (fun z => absurd q z)⟩
  · obtain ⟨v, h', hp, hE⟩ := kf q
    exact ⟨v, h', hp, je_if_eq hi ht hx (fun z => absurd z q) (fun _ => hE)⟩
theorem tl_icmp_eq {x y off : Int} {tgt : Nat} (hi : jIns j pc = some (.if_icmp .eq off, 3, 0)) (ht : (pc : Int) + off = (tgt : Int)) (hx : jr x) (hy : jr y) (kt : x = y → jT l j tgt L st h P) (kf : ¬ (x = y) → jT l j (pc + 3) L st h P) : jT l j pc L (.int (jI y) :: .int (jI x) :: st) h P := by
  by_cases q : x = y
  · obtain ⟨v, h', hp, hE⟩ := kt q
    exact ⟨v, h', hp, je_icmp_eq hi ht hx hy (fun _ => hE) (fun z => absurd q z)⟩
  · obtain ⟨v, h', hp, hE⟩ := kf q
    exact ⟨v, h', hp, je_icmp_eq hi ht hx hy (fun z => absurd z q) (fun _ => hE)⟩
theorem tl_if_ne {x off : Int} {tgt : Nat} (hi : jIns j pc = some (.ifCond .ne off, 3, 0)) (ht : (pc : Int) + off = (tgt : Int)) (hx : jr x) (kt : x ≠ 0 → jT l j tgt L st h P) (kf : ¬ (x ≠ 0) → jT l j (pc + 3) L st h P) : jT l j pc L (.int (jI x) :: st) h P := by
  by_cases q : x ≠ 0
  · obtain ⟨v, h', hp, hE⟩ := kt q
    exact ⟨v, h', hp, je_if_ne hi ht hx (fun _ => hE) (fun z => absurd q z)⟩
  · obtain ⟨v, h', hp, hE⟩ := kf q
    exact ⟨v, h', hp, je_if_ne hi ht hx (fun z => absurd z q) (fun _ => hE)⟩
theorem tl_icmp_ne {x y off : Int} {tgt : Nat} (hi : jIns j pc = some (.if_icmp .ne off, 3, 0)) (ht : (pc : Int) + off = (tgt : Int)) (hx : jr x) (hy : jr y) (kt : x ≠ y → jT l j tgt L st h P) (kf : ¬ (x ≠ y) → jT l j (pc + 3) L st h P) : jT l j pc L (.int (jI y) :: .int (jI x) :: st) h P := by
  by_cases q : x ≠ y
  · obtain ⟨v, h', hp, hE⟩ := kt q
    exact ⟨v, h', hp, je_icmp_ne hi ht hx hy (fun _ => hE) (fun z => absurd q z)⟩
  · obtain ⟨v, h', hp, hE⟩ := kf q
    exact ⟨v, h', hp, je_icmp_ne hi ht hx hy (fun z => absurd z q) (fun _ => hE)⟩
theorem tl_if_lt {x off : Int} {tgt : Nat} (hi : jIns j pc = some (.ifCond .lt off, 3, 0)) (ht : (pc : Int) + off = (tgt : Int)) (hx : jr x) (kt : x < 0 → jT l j tgt L st h P) (kf : ¬ (x < 0) → jT l j (pc + 3) L st h P) : jT l j pc L (.int (jI x) :: st) h P := by
  by_cases q : x < 0
  · obtain ⟨v, h', hp, hE⟩ := kt q
    exact ⟨v, h', hp, je_if_lt hi ht hx (fun _ => hE) (fun z => absurd q z)⟩
  · obtain ⟨v, h', hp, hE⟩ := kf q
    exact ⟨v, h', hp, je_if_lt hi ht hx (fun z => absurd z q) (fun _ => hE)⟩
theorem tl_icmp_lt {x y off : Int} {tgt : Nat} (hi : jIns j pc = some (.if_icmp .lt off, 3, 0)) (ht : (pc : Int) + off = (tgt : Int)) (hx : jr x) (hy : jr y) (kt : x < y → jT l j tgt L st h P) (kf : ¬ (x < y) → jT l j (pc + 3) L st h P) : jT l j pc L (.int (jI y) :: .int (jI x) :: st) h P := by
  by_cases q : x < y
  · obtain ⟨v, h', hp, hE⟩ := kt q
    exact ⟨v, h', hp, je_icmp_lt hi ht hx hy (fun _ => hE) (fun z => absurd q z)⟩
  · obtain ⟨v, h', hp, hE⟩ := kf q
    exact ⟨v, h', hp, je_icmp_lt hi ht hx hy (fun z => absurd z q) (fun _ => hE)⟩
theorem tl_if_ge {x off : Int} {tgt : Nat} (hi : jIns j pc = some (.ifCond .ge off, 3, 0)) (ht : (pc : Int) + off = (tgt : Int)) (hx : jr x) (kt : 0 ≤ x → jT l j tgt L st h P) (kf : ¬ (0 ≤ x) → jT l j (pc + 3) L st h P) : jT l j pc L (.int (jI x) :: st) h P := by
  by_cases q : 0 ≤ x
  · obtain ⟨v, h', hp, hE⟩ := kt q
    exact ⟨v, h', hp, je_if_ge hi ht hx (fun _ => hE) (fun z => absurd q z)⟩
  · obtain ⟨v, h', hp, hE⟩ := kf q
    exact ⟨v, h', hp, je_if_ge hi ht hx (fun z => absurd z q) (fun _ => hE)⟩
theorem tl_icmp_ge {x y off : Int} {tgt : Nat} (hi : jIns j pc = some (.if_icmp .ge off, 3, 0)) (ht : (pc : Int) + off = (tgt : Int)) (hx : jr x) (hy : jr y) (kt : y ≤ x → jT l j tgt L st h P) (kf : ¬ (y ≤ x) → jT l j (pc + 3) L st h P) : jT l j pc L (.int (jI y) :: .int (jI x) :: st) h P := by
  by_cases q : y ≤ x
  · obtain ⟨v, h', hp, hE⟩ := kt q
    exact ⟨v, h', hp, je_icmp_ge hi ht hx hy (fun _ => hE) (fun z => absurd q z)⟩
  · obtain ⟨v, h', hp, hE⟩ := kf q
    exact ⟨v, h', hp, je_icmp_ge hi ht hx hy (fun z => absurd z q) (fun _ => hE)⟩
theorem tl_if_gt {x off : Int} {tgt : Nat} (hi : jIns j pc = some (.ifCond .gt off, 3, 0)) (ht : (pc : Int) + off = (tgt : Int)) (hx : jr x) (kt : 0 < x → jT l j tgt L st h P) (kf : ¬ (0 < x) → jT l j (pc + 3) L st h P) : jT l j pc L (.int (jI x) :: st) h P := by
  by_cases q : 0 < x
  · obtain ⟨v, h', hp, hE⟩ := kt q
    exact ⟨v, h', hp, je_if_gt hi ht hx (fun _ => hE) (fun z => absurd q z)⟩
  · obtain ⟨v, h', hp, hE⟩ := kf q
    exact ⟨v, h', hp, je_if_gt hi ht hx (fun z => absurd z q) (fun _ => hE)⟩
theorem tl_icmp_gt {x y off : Int} {tgt : Nat} (hi : jIns j pc = some (.if_icmp .gt off, 3, 0)) (ht : (pc : Int) + off = (tgt : Int)) (hx : jr x) (hy : jr y) (kt : y < x → jT l j tgt L st h P) (kf : ¬ (y < x) → jT l j (pc + 3) L st h P) : jT l j pc L (.int (jI y) :: .int (jI x) :: st) h P := by
  by_cases q : y < x
  · obtain ⟨v, h', hp, hE⟩ := kt q
    exact ⟨v, h', hp, je_icmp_gt hi ht hx hy (fun _ => hE) (fun z => absurd q z)⟩
  · obtain ⟨v, h', hp, hE⟩ := kf q
    exact ⟨v, h', hp, je_icmp_gt hi ht hx hy (fun z => absurd z q) (fun _ => hE)⟩
theorem tl_if_le {x off : Int} {tgt : Nat} (hi : jIns j pc = some (.ifCond .le off, 3, 0)) (ht : (pc : Int) + off = (tgt : Int)) (hx : jr x) (kt : x ≤ 0 → jT l j tgt L st h P) (kf : ¬ (x ≤ 0) → jT l j (pc + 3) L st h P) : jT l j pc L (.int (jI x) :: st) h P := by
  by_cases q : x ≤ 0
  · obtain ⟨v, h', hp, hE⟩ := kt q
    exact ⟨v, h', hp, je_if_le hi ht hx (fun _ => hE) (fun z => absurd q z)⟩
  · obtain ⟨v, h', hp, hE⟩ := kf q
    exact ⟨v, h', hp, je_if_le hi ht hx (fun z => absurd z q) (fun _ => hE)⟩
theorem tl_icmp_le {x y off : Int} {tgt : Nat} (hi : jIns j pc = some (.if_icmp .le off, 3, 0)) (ht : (pc : Int) + off = (tgt : Int)) (hx : jr x) (hy : jr y) (kt : x ≤ y → jT l j tgt L st h P) (kf : ¬ (x ≤ y) → jT l j (pc + 3) L st h P) : jT l j pc L (.int (jI y) :: .int (jI x) :: st) h P := by
  by_cases q : x ≤ y
  · obtain ⟨v, h', hp, hE⟩ := kt q
    exact ⟨v, h', hp, je_icmp_le hi ht hx hy (fun _ => hE) (fun z => absurd q z)⟩
  · obtain ⟨v, h', hp, hE⟩ := kf q
    exact ⟨v, h', hp, je_icmp_le hi ht hx hy (fun z => absurd z q) (fun _ => hE)⟩
theorem tl_goto {off : Int} {tgt : Nat} (hi : jIns j pc = some (.goto off, 3, 0)) (ht : (pc : Int) + off = (tgt : Int)) (k : jT l j tgt L st h P) : jT l j pc L st h P := by
  obtain ⟨v, h', hp, hE⟩ := k
  exact ⟨v, h', hp, je_goto hi ht hE⟩
theorem tl_tabO {d lo hi9 x : Int} {offs : Array Int} {n tgt : Nat} (hi : jIns j pc = some (.tableswitch d lo hi9 offs, n, 0)) (hx : jr x) (hlo : x < lo ∨ hi9 < x) (ht : (pc : Int) + d = (tgt : Int)) (k : jT l j tgt L st h P) : jT l j pc L (.int (jI x) :: st) h P := by
  obtain ⟨v, h', hp, hE⟩ := k
  exact ⟨v, h', hp, je_tabO hi hx hlo ht hE⟩
theorem tl_tabI {d lo hi9 x off : Int} {offs : Array Int} {n tgt : Nat} (hi : jIns j pc = some (.tableswitch d lo hi9 offs, n, 0)) (hx : jr x) (h1 : ¬ x < lo) (h2 : ¬ hi9 < x) (ho : offs[(x - lo).toNat]? = some off) (ht : (pc : Int) + off = (tgt : Int)) (k : jT l j tgt L st h P) : jT l j pc L (.int (jI x) :: st) h P := by
  obtain ⟨v, h', hp, hE⟩ := k
  exact ⟨v, h', hp, je_tabI hi hx h1 h2 ho ht hE⟩
theorem tl_gets {idx q : Nat} (hi : jIns j pc = some (.getstatic idx, 3, q)) (k : jT l j (pc + 3) L (.ref (3000000 + q) :: st) h P) : jT l j pc L st h P := by
  obtain ⟨v, h', hp, hE⟩ := k
  exact ⟨v, h', hp, je_gets hi hE⟩
theorem tl_ldc {idx q : Nat} {z : Int} (hi : jIns j pc = some (.ldc idx, 2, q)) (hq : Nat.blt q 4294967296 = true) (hz : Int32.ofNat q = jI z) (k : jT l j (pc + 2) L (.int (jI z) :: st) h P) : jT l j pc L st h P := by
  obtain ⟨v, h', hp, hE⟩ := k
  exact ⟨v, h', hp, je_ldc hi hq hz hE⟩
theorem tl_ldcw {idx q : Nat} {z : Int} (hi : jIns j pc = some (.ldc_w idx, 3, q)) (hq : Nat.blt q 4294967296 = true) (hz : Int32.ofNat q = jI z) (k : jT l j (pc + 3) L (.int (jI z) :: st) h P) : jT l j pc L st h P := by
  obtain ⟨v, h', hp, hE⟩ := k
  exact ⟨v, h', hp, je_ldcw hi hq hz hE⟩
theorem tl_ldc2 {idx q : Nat} {z : Int} (hi : jIns j pc = some (.ldc2_w idx, 3, q)) (hz : Int64.ofNat q = jl z) (k : jT l j (pc + 3) L (.long (jl z) :: st) h P) : jT l j pc L st h P := by
  obtain ⟨v, h', hp, hE⟩ := k
  exact ⟨v, h', hp, je_ldc2 hi hz hE⟩
theorem tl_ldcs {idx q : Nat} (hi : jIns j pc = some (.ldc idx, 2, 4294967296 + q)) (k : jT l j (pc + 2) L (.ref (2000000 + q) :: st) h P) : jT l j pc L st h P := by
  obtain ⟨v, h', hp, hE⟩ := k
  exact ⟨v, h', hp, je_ldcs hi hE⟩
theorem tl_iret {z : Int} (hi : jIns j pc = some (.ireturn, 1, 0)) (hp : P (some (.int (jI z))) h) : jT l j pc L [.int (jI z)] h P := ⟨_, h, hp, je_iret hi⟩
theorem tl_ret (hi : jIns j pc = some (.return_, 1, 0)) (hp : P none h) : jT l j pc L [] h P := ⟨_, h, hp, je_ret hi⟩
theorem tl_aret {a : Nat} (hi : jIns j pc = some (.areturn, 1, 0)) (hp : P (some (.ref a)) h) : jT l j pc L [.ref a] h P := ⟨_, h, hp, je_aret hi⟩
theorem tl_geti {i idx c k9 : Nat} (hi : jIns j pc = some (.getfield idx, 3, 1000 * c + k9)) (hk : sk i = c) (hf : (Nat.ble c 12 && (Nat.blt k9 1000 && (Nat.blt k9 (jnf c) && Nat.beq (jft c k9) 0))) = true) (k : jT l j (pc + 3) L (.int (jI (h i k9)) :: st) h P) : jT l j pc L (.ref i :: st) h P := by
  obtain ⟨v, h', hp, hE⟩ := k
  simp only [Bool.and_eq_true] at hf
  obtain ⟨f1, f2, f3, f4⟩ := hf
  have g1 := Nat.le_of_ble_eq_true f1
  have g2 : k9 < 1000 := Nat.le_of_ble_eq_true f2
  have g3 : k9 < jnf c := Nat.le_of_ble_eq_true f3
  have e1 : (1000 * c + k9) / 1000 = c := by omega
  have e2 : (1000 * c + k9) % 1000 = k9 := by omega
  refine ⟨v, h', hp, je_getf (fs := (List.range (jnf c)).map (jfv h i c)) (w := .int (jI (h i k9))) hi ?_ ?_ hE⟩
  · rw [e1]; exact jm_obj hk g1
  · rw [e2]
    simp only [List.getElem?_map, List.getElem?_range g3, Option.map_some]
    unfold jfv
    rw [f4]
    rfl
theorem tl_getr {i idx c k9 b : Nat} (hi : jIns j pc = some (.getfield idx, 3, 1000 * c + k9)) (hk : sk i = c) (hf : (Nat.ble c 12 && (Nat.blt k9 1000 && (Nat.blt k9 (jnf c) && Nat.beq (jft c k9) 1))) = true) (hb : sr i k9 = b) (k : jT l j (pc + 3) L (.ref b :: st) h P) : jT l j pc L (.ref i :: st) h P := by
  obtain ⟨v, h', hp, hE⟩ := k
  subst hb
  simp only [Bool.and_eq_true] at hf
  obtain ⟨f1, f2, f3, f4⟩ := hf
  have g1 := Nat.le_of_ble_eq_true f1
  have g2 : k9 < 1000 := Nat.le_of_ble_eq_true f2
  have g3 : k9 < jnf c := Nat.le_of_ble_eq_true f3
  have e1 : (1000 * c + k9) / 1000 = c := by omega
  have e2 : (1000 * c + k9) % 1000 = k9 := by omega
  refine ⟨v, h', hp, je_getf (fs := (List.range (jnf c)).map (jfv h i c)) (w := .ref (sr i k9)) hi ?_ ?_ hE⟩
  · rw [e1]; exact jm_obj hk g1
  · rw [e2]
    simp only [List.getElem?_map, List.getElem?_range g3, Option.map_some]
    unfold jfv
    rw [Nat.eq_of_beq_eq_true f4]
    rfl
theorem tl_getl {i idx c k9 : Nat} (hi : jIns j pc = some (.getfield idx, 3, 1000 * c + k9)) (hk : sk i = c) (hf : (Nat.ble c 12 && (Nat.blt k9 1000 && (Nat.blt k9 (jnf c) && Nat.beq (jft c k9) 2))) = true) (k : jT l j (pc + 3) L (.long (jl (h i k9)) :: st) h P) : jT l j pc L (.ref i :: st) h P := by
  obtain ⟨v, h', hp, hE⟩ := k
  simp only [Bool.and_eq_true] at hf
  obtain ⟨f1, f2, f3, f4⟩ := hf
  have g1 := Nat.le_of_ble_eq_true f1
  have g2 : k9 < 1000 := Nat.le_of_ble_eq_true f2
  have g3 : k9 < jnf c := Nat.le_of_ble_eq_true f3
  have e1 : (1000 * c + k9) / 1000 = c := by omega
  have e2 : (1000 * c + k9) % 1000 = k9 := by omega
  refine ⟨v, h', hp, je_getf (fs := (List.range (jnf c)).map (jfv h i c)) (w := .long (jl (h i k9))) hi ?_ ?_ hE⟩
  · rw [e1]; exact jm_obj hk g1
  · rw [e2]
    simp only [List.getElem?_map, List.getElem?_range g3, Option.map_some]
    unfold jfv
    rw [Nat.eq_of_beq_eq_true f4]
    rfl
theorem tl_puti {i idx c k9 : Nat} {z : Int} {cn : String} (hi : jIns j pc = some (.putfield idx, 3, 1000 * c + k9)) (hd : jfd (1000 * c + k9) = some (cn, "I", false)) (hk : sk i = c) (hf : (Nat.ble c 12 && (Nat.blt k9 1000 && (Nat.blt k9 (jnf c) && Nat.beq (jft c k9) 0))) = true) (k : jT l j (pc + 3) L st (hs h i k9 z) P) : jT l j pc L (.int (jI z) :: .ref i :: st) h P := by
  obtain ⟨v, h', hp, hE⟩ := k
  simp only [Bool.and_eq_true] at hf
  obtain ⟨f1, f2, f3, f4⟩ := hf
  have g1 := Nat.le_of_ble_eq_true f1
  have g2 : k9 < 1000 := Nat.le_of_ble_eq_true f2
  have g3 : k9 < jnf c := Nat.le_of_ble_eq_true f3
  have e1 : (1000 * c + k9) / 1000 = c := by omega
  have e2 : (1000 * c + k9) % 1000 = k9 := by omega
  have ew : jfv (hs h i k9 z) i c k9 = .int (jI z) := by unfold jfv hs; rw [f4]; simp
  refine ⟨v, h', hp, je_puti (fs := (List.range (jnf c)).map (jfv h i c)) hi hd ?_ ?_ ?_⟩
  · rw [e1]; exact jm_obj hk g1
  · rw [e2]; simpa using g3
  · rw [e1, e2, jup_put hk g1 ew]
    exact hE
theorem tl_putz {i idx c k9 : Nat} {z : Int} {cn : String} (hi : jIns j pc = some (.putfield idx, 3, 1000 * c + k9)) (hd : jfd (1000 * c + k9) = some (cn, "Z", false)) (hz : z = 0 ∨ z = 1) (hk : sk i = c) (hf : (Nat.ble c 12 && (Nat.blt k9 1000 && (Nat.blt k9 (jnf c) && Nat.beq (jft c k9) 0))) = true) (k : jT l j (pc + 3) L st (hs h i k9 z) P) : jT l j pc L (.int (jI z) :: .ref i :: st) h P := by
  obtain ⟨v, h', hp, hE⟩ := k
  simp only [Bool.and_eq_true] at hf
  obtain ⟨f1, f2, f3, f4⟩ := hf
  have g1 := Nat.le_of_ble_eq_true f1
  have g2 : k9 < 1000 := Nat.le_of_ble_eq_true f2
  have g3 : k9 < jnf c := Nat.le_of_ble_eq_true f3
  have e1 : (1000 * c + k9) / 1000 = c := by omega
  have e2 : (1000 * c + k9) % 1000 = k9 := by omega
  have ew : jfv (hs h i k9 z) i c k9 = .int (jI z) := by unfold jfv hs; rw [f4]; simp
  have hz2 : jI z = 0 ∨ jI z = 1 := by rcases hz with rfl | rfl; exact Or.inl rfl; exact Or.inr rfl
  refine ⟨v, h', hp, je_putz (fs := (List.range (jnf c)).map (jfv h i c)) hi hd hz2 ?_ ?_ ?_⟩
  · rw [e1]; exact jm_obj hk g1
  · rw [e2]; simpa using g3
  · rw [e1, e2, jup_put hk g1 ew]
    exact hE
theorem tl_putl {i idx c k9 : Nat} {z : Int} {cn : String} (hi : jIns j pc = some (.putfield idx, 3, 1000 * c + k9)) (hd : jfd (1000 * c + k9) = some (cn, "J", false)) (hk : sk i = c) (hf : (Nat.ble c 12 && (Nat.blt k9 1000 && (Nat.blt k9 (jnf c) && Nat.beq (jft c k9) 2))) = true) (k : jT l j (pc + 3) L st (hs h i k9 z) P) : jT l j pc L (.long (jl z) :: .ref i :: st) h P := by
  obtain ⟨v, h', hp, hE⟩ := k
  simp only [Bool.and_eq_true] at hf
  obtain ⟨f1, f2, f3, f4⟩ := hf
  have g1 := Nat.le_of_ble_eq_true f1
  have g2 : k9 < 1000 := Nat.le_of_ble_eq_true f2
  have g3 : k9 < jnf c := Nat.le_of_ble_eq_true f3
  have e1 : (1000 * c + k9) / 1000 = c := by omega
  have e2 : (1000 * c + k9) % 1000 = k9 := by omega
  have ew : jfv (hs h i k9 z) i c k9 = .long (jl z) := by unfold jfv hs; rw [Nat.eq_of_beq_eq_true f4, if_pos ⟨rfl, rfl⟩]; rfl
  refine ⟨v, h', hp, je_putl (fs := (List.range (jnf c)).map (jfv h i c)) hi hd ?_ ?_ ?_⟩
  · rw [e1]; exact jm_obj hk g1
  · rw [e2]; simpa using g3
  · rw [e1, e2, jup_put hk g1 ew]
    exact hE
theorem sl_le (i : Nat) : sl i ≤ 60000 := by
  unfold sl
  repeat (first | (cases (Nat.ble _ i) <;> simp only [cond_true, cond_false]) | omega)
theorem tl_iald {a n : Nat} {z : Int} (hi : jIns j pc = some (.iaload, 1, 0)) (hk : sk a = 13) (hn : sl a = n) (h0 : 0 ≤ z) (h1 : z < (n : Int)) (k : jT l j (pc + 1) L (.int (jI (h a z.toNat)) :: st) h P) : jT l j pc L (.int (jI z) :: .ref a :: st) h P := by
  obtain ⟨v, h', hp, hE⟩ := k
  subst hn
  have := sl_le a
  exact ⟨v, h', hp, je_iald hi (jm_arr hk (Or.inl rfl)) h0 h1 (by omega) hE⟩
theorem tl_zald {a n : Nat} {z : Int} (hi : jIns j pc = some (.baload, 1, 0)) (hk : sk a = 15) (hn : sl a = n) (h0 : 0 ≤ z) (h1 : z < (n : Int)) (k : jT l j (pc + 1) L (.int (jI (h a z.toNat)) :: st) h P) : jT l j pc L (.int (jI z) :: .ref a :: st) h P := by
  obtain ⟨v, h', hp, hE⟩ := k
  subst hn
  have := sl_le a
  exact ⟨v, h', hp, je_zald hi (jm_arr hk (Or.inr rfl)) h0 h1 (by omega) hE⟩
theorem tl_lald {a : Nat} {z : Int} (hi : jIns j pc = some (.laload, 1, 0)) (hk : sk a = 14) (h0 : 0 ≤ z) (h1 : z < 5) (k : jT l j (pc + 1) L (.long (jl (jhd z.toNat)) :: st) h P) : jT l j pc L (.int (jI z) :: .ref a :: st) h P := by
  obtain ⟨v, h', hp, hE⟩ := k
  exact ⟨v, h', hp, je_lald hi (jm_long hk) h0 h1 (by omega) hE⟩
theorem tl_aald {a b n : Nat} {z : Int} (hi : jIns j pc = some (.aaload, 1, 0)) (hk : sk a = 16 ∨ sk a = 17) (hn : sl a = n) (h0 : 0 ≤ z) (h1 : z < (n : Int)) (hb : sr a z.toNat = b) (k : jT l j (pc + 1) L (.ref b :: st) h P) : jT l j pc L (.int (jI z) :: .ref a :: st) h P := by
  obtain ⟨v, h', hp, hE⟩ := k
  subst hn
  have := sl_le a
  exact ⟨v, h', hp, je_aald hi hk (jm_ref rfl hk) h0 h1 (by omega) (by rw [hb]) hE⟩
theorem tl_iast {a n : Nat} {z x : Int} (hi : jIns j pc = some (.iastore, 1, 0)) (hk : sk a = 13) (hn : sl a = n) (h0 : 0 ≤ z) (h1 : z < (n : Int)) (k : jT l j (pc + 1) L st (hs h a z.toNat x) P) : jT l j pc L (.int (jI x) :: .int (jI z) :: .ref a :: st) h P := by
  obtain ⟨v, h', hp, hE⟩ := k
  subst hn
  have := sl_le a
  refine ⟨v, h', hp, je_iast hi (jm_arr hk (Or.inl rfl)) h0 h1 (by omega) ?_⟩
  rw [jup_ast hk (Or.inl rfl)]
  exact hE
theorem tl_zast {a n : Nat} {z x : Int} (hi : jIns j pc = some (.bastore, 1, 0)) (hx : x = 0 ∨ x = 1) (hk : sk a = 15) (hn : sl a = n) (h0 : 0 ≤ z) (h1 : z < (n : Int)) (k : jT l j (pc + 1) L st (hs h a z.toNat x) P) : jT l j pc L (.int (jI x) :: .int (jI z) :: .ref a :: st) h P := by
  obtain ⟨v, h', hp, hE⟩ := k
  subst hn
  have := sl_le a
  refine ⟨v, h', hp, je_zast hi (jm_arr hk (Or.inr rfl)) h0 h1 (by omega) (by rcases hx with rfl | rfl; exact Or.inl rfl; exact Or.inr rfl) ?_⟩
  rw [jup_ast hk (Or.inr rfl)]
  exact hE
theorem tl_alen {a n : Nat} (hi : jIns j pc = some (.arraylength, 1, 0)) (hk : sk a = 13 ∨ sk a = 15) (hn : sl a = n) (k : jT l j (pc + 1) L (.int (jI (n : Int)) :: st) h P) : jT l j pc L (.ref a :: st) h P := by
  obtain ⟨v, h', hp, hE⟩ := k
  subst hn
  refine ⟨v, h', hp, je_alen (x := (sl a, .inl (fun k => jI (h a k)))) hi ?_ (jm_arr rfl hk) hE⟩
  rcases hk with q | q <;> omega
theorem tl_iald_st {q : Nat} {z : Int} (hi : jIns j pc = some (.iaload, 1, 0)) (hq : q < 3) (h0 : 0 ≤ z) (h1 : z < 5) (k : jT l j (pc + 1) L (.int (jI (jst (3000000 + q) z.toNat)) :: st) h P) : jT l j pc L (.int (jI z) :: .ref (3000000 + q) :: st) h P := by
  obtain ⟨v, h', hp, hE⟩ := k
  refine ⟨v, h', hp, je_iald_ro (n := 5) (f := fun k => jI (jst (3000000 + q) k)) hi ?_ (by omega) h0 h1 (by omega) hE⟩
  show jm h (3000000 + q) = _
  rcases (show q = 0 ∨ q = 1 ∨ q = 2 by omega) with rfl | rfl | rfl <;> rfl
theorem tl_iald_sc {z : Int} (hi : jIns j pc = some (.iaload, 1, 0)) (h0 : 0 ≤ z) (h1 : z < h 1000001 0) (hn : h 1000001 0 ≤ 3072) (k : jT l j (pc + 1) L (.int (jI (h 1000000 z.toNat)) :: st) h P) : jT l j pc L (.int (jI z) :: .ref 1000000 :: st) h P := by
  obtain ⟨v, h', hp, hE⟩ := k
  exact ⟨v, h', hp, je_iald_ro (n := (h 1000001 0).toNat) (f := fun k => jI (h 1000000 k)) hi rfl (by omega) h0 (by omega) (by omega) hE⟩
theorem tl_alen_sc (hi : jIns j pc = some (.arraylength, 1, 0)) (h0 : 0 ≤ h 1000001 0) (k : jT l j (pc + 1) L (.int (jI (h 1000001 0)) :: st) h P) : jT l j pc L (.ref 1000000 :: st) h P := by
  obtain ⟨v, h', hp, hE⟩ := k
  refine ⟨v, h', hp, je_alen_ro (n := (h 1000001 0).toNat) (f := fun k => jI (h 1000000 k)) hi rfl (by omega) ?_⟩
  rw [show (((h 1000001 0).toNat : Nat) : Int) = h 1000001 0 by omega]
  exact hE
theorem tl_copy {idx a0 a m0 m1 : Nat} {sp dp n : Int} (hi : jIns j pc = some (.invokestatic idx, 3, 10004)) (hk0 : sk a0 = 13) (hk1 : sk a = 13) (hm0 : sl a0 = m0) (hm1 : sl a = m1) (h1 : 0 ≤ sp) (h2 : 0 ≤ dp) (h3 : 0 ≤ n) (h4 : sp + n ≤ (m0 : Int)) (h5 : dp + n ≤ (m1 : Int)) (hst : (st.map fun v => v.category).sum ≤ 8) (hk : Nat.ble 1 (jK j) = true) (k : jT l j (pc + 3) L st (hw h a (va_cpy (h a0) (h a) sp.toNat dp.toNat n.toNat)) P) : jT l j pc L (.int (jI n) :: .int (jI dp) :: .ref a :: .int (jI sp) :: .ref a0 :: st) h P := by
  obtain ⟨v, h', hp, hE⟩ := k
  subst hm0 hm1
  have l0 := sl_le a0
  have l1 := sl_le a
  refine ⟨v, h', hp, je_copy (kd := 13) hi (Or.inl rfl) (jm_arr hk0 (Or.inl rfl)) (jm_arr hk1 (Or.inl rfl)) h1 h2 h3 h4 h5 (by omega) (by omega) hst hk ?_⟩
  have e : va_cpy (fun k => jI (h a0 k)) (fun k => jI (h a k)) sp.toNat dp.toNat n.toNat = fun k => jI (va_cpy (h a0) (h a) sp.toNat dp.toNat n.toNat k) := by
    funext q
    unfold va_cpy
    split <;> rfl
  rw [e, jup_arr hk1 (Or.inl rfl)]
  exact hE
theorem tl_copyz {idx a0 a m0 m1 : Nat} {sp dp n : Int} (hi : jIns j pc = some (.invokestatic idx, 3, 10004)) (hk0 : sk a0 = 15) (hk1 : sk a = 15) (hb : ∀ i, i < n.toNat → h a0 (sp.toNat + i) = 0 ∨ h a0 (sp.toNat + i) = 1) (hm0 : sl a0 = m0) (hm1 : sl a = m1) (h1 : 0 ≤ sp) (h2 : 0 ≤ dp) (h3 : 0 ≤ n) (h4 : sp + n ≤ (m0 : Int)) (h5 : dp + n ≤ (m1 : Int)) (hst : (st.map fun v => v.category).sum ≤ 8) (hk : Nat.ble 1 (jK j) = true) (k : jT l j (pc + 3) L st (hw h a (va_cpy (h a0) (h a) sp.toNat dp.toNat n.toNat)) P) : jT l j pc L (.int (jI n) :: .int (jI dp) :: .ref a :: .int (jI sp) :: .ref a0 :: st) h P := by
  obtain ⟨v, h', hp, hE⟩ := k
  subst hm0 hm1
  have l0 := sl_le a0
  have l1 := sl_le a
  refine ⟨v, h', hp, je_copy (kd := 15) hi (Or.inr ⟨rfl, fun i hi => by rcases hb i hi with q | q <;> rw [q]; exact Or.inl rfl; exact Or.inr rfl⟩) (jm_arr hk0 (Or.inr rfl)) (jm_arr hk1 (Or.inr rfl)) h1 h2 h3 h4 h5 (by omega) (by omega) hst hk ?_⟩
  have e : va_cpy (fun k => jI (h a0 k)) (fun k => jI (h a k)) sp.toNat dp.toNat n.toNat = fun k => jI (va_cpy (h a0) (h a) sp.toNat dp.toNat n.toNat k) := by
    funext q
    unfold va_cpy
    split <;> rfl
  rw [e, jup_arr hk1 (Or.inr rfl)]
  exact hE
theorem tl_callV {idx j2 o c9 : Nat} {as rest stk : List Value} {P2 : Option Value → jH → Prop} (hM : cT l j2 (.ref o :: as) h P2) (hi : jIns j pc = some (.invokevirtual idx, 3, j2)) (hj2 : (Nat.blt j2 359 && (Nat.blt (jK j2) (jK j) && Nat.ble c9 12)) = true) (hl : as.length = jNp j2) (hg : sk o = c9) (hcc : (vwCl[c9]?).map (fun r => r.1) = some (jOw j2)) (hst : (rest.map fun v => v.category).sum ≤ 8) (hsk : stk = as.reverse ++ .ref o :: rest) (k : ∀ v h', P2 v h' → jT l j (pc + 3) L (v.toList ++ rest) h' P) : jT l j pc L stk h P := by
  obtain ⟨v2, h2, hp2, hM⟩ := hM
  obtain ⟨v, h', hp, hE⟩ := k v2 h2 hp2
  simp only [Bool.and_eq_true] at hj2
  exact ⟨v, h', hp, je_callV hi (Nat.le_of_ble_eq_true hj2.1) hj2.2.1 hM hl (jm_obj hg (Nat.le_of_ble_eq_true hj2.2.2)) hcc hst (Nat.le_refl _) (Nat.le_refl _) hsk hE⟩
theorem tl_callS {idx j2 : Nat} {as rest stk : List Value} {P2 : Option Value → jH → Prop} (hM : cT l j2 as h P2) (hi : jIns j pc = some (.invokestatic idx, 3, j2)) (hj2 : (Nat.blt j2 359 && Nat.blt (jK j2) (jK j)) = true) (hl : as.length = jNp j2) (hst : (rest.map fun v => v.category).sum ≤ 8) (hsk : stk = as.reverse ++ rest) (k : ∀ v h', P2 v h' → jT l j (pc + 3) L (v.toList ++ rest) h' P) : jT l j pc L stk h P := by
  obtain ⟨v2, h2, hp2, hM⟩ := hM
  obtain ⟨v, h', hp, hE⟩ := k v2 h2 hp2
  simp only [Bool.and_eq_true] at hj2
  exact ⟨v, h', hp, je_callS hi (Nat.le_of_ble_eq_true hj2.1) hj2.2 hM hl hst (Nat.le_refl _) (Nat.le_refl _) hsk hE⟩
end TL
theorem tl_v0i {l : Launch} {j pc idx j2 o c9 : Nat} {L : jLo} {rest : List Value} {h : jH} {P : Option Value → jH → Prop} {P3 : Int → jH → Prop} (hM : cI l j2 (.ref o :: []) h P3) (hi : jIns j pc = some (.invokevirtual idx, 3, j2)) (hj2 : (Nat.blt j2 359 && (Nat.blt (jK j2) (jK j) && Nat.ble c9 12)) = true) (hl : jNp j2 = 0) (hg : sk o = c9) (hcc : (vwCl[c9]?).map (fun r => r.1) = some (jOw j2)) (hst : (rest.map fun v => v.category).sum ≤ 8) (k : ∀ z h', P3 z h' → jT l j (pc + 3) L (.int (jI z) :: rest) h' P) : jT l j pc L (.ref o :: rest) h P := by
  refine tl_callV (as := []) (rest := rest) hM hi hj2 (by rw [hl]; rfl) hg hcc hst rfl (fun v h' q => ?_)
  obtain ⟨z, rfl, q⟩ := q
  exact k z h' q
theorem tl_s0i {l : Launch} {j pc idx j2 : Nat} {L : jLo} {rest : List Value} {h : jH} {P : Option Value → jH → Prop} {P3 : Int → jH → Prop} (hM : cI l j2 [] h P3) (hi : jIns j pc = some (.invokestatic idx, 3, j2)) (hj2 : (Nat.blt j2 359 && Nat.blt (jK j2) (jK j)) = true) (hl : jNp j2 = 0) (hst : (rest.map fun v => v.category).sum ≤ 8) (k : ∀ z h', P3 z h' → jT l j (pc + 3) L (.int (jI z) :: rest) h' P) : jT l j pc L (rest) h P := by
  refine tl_callS (as := []) (rest := rest) hM hi hj2 (by rw [hl]; rfl) hst rfl (fun v h' q => ?_)
  obtain ⟨z, rfl, q⟩ := q
  exact k z h' q
theorem tl_v0v {l : Launch} {j pc idx j2 o c9 : Nat} {L : jLo} {rest : List Value} {h : jH} {P : Option Value → jH → Prop} {P3 : jH → Prop} (hM : cV l j2 (.ref o :: []) h P3) (hi : jIns j pc = some (.invokevirtual idx, 3, j2)) (hj2 : (Nat.blt j2 359 && (Nat.blt (jK j2) (jK j) && Nat.ble c9 12)) = true) (hl : jNp j2 = 0) (hg : sk o = c9) (hcc : (vwCl[c9]?).map (fun r => r.1) = some (jOw j2)) (hst : (rest.map fun v => v.category).sum ≤ 8) (k : ∀ h', P3 h' → jT l j (pc + 3) L rest h' P) : jT l j pc L (.ref o :: rest) h P := by
  refine tl_callV (as := []) (rest := rest) hM hi hj2 (by rw [hl]; rfl) hg hcc hst rfl (fun v h' q => ?_)
  obtain ⟨rfl, q⟩ := q
  exact k h' q
theorem tl_s0v {l : Launch} {j pc idx j2 : Nat} {L : jLo} {rest : List Value} {h : jH} {P : Option Value → jH → Prop} {P3 : jH → Prop} (hM : cV l j2 [] h P3) (hi : jIns j pc = some (.invokestatic idx, 3, j2)) (hj2 : (Nat.blt j2 359 && Nat.blt (jK j2) (jK j)) = true) (hl : jNp j2 = 0) (hst : (rest.map fun v => v.category).sum ≤ 8) (k : ∀ h', P3 h' → jT l j (pc + 3) L rest h' P) : jT l j pc L (rest) h P := by
  refine tl_callS (as := []) (rest := rest) hM hi hj2 (by rw [hl]; rfl) hst rfl (fun v h' q => ?_)
  obtain ⟨rfl, q⟩ := q
  exact k h' q
theorem tl_v0r {l : Launch} {j pc idx j2 o c9 : Nat} {L : jLo} {rest : List Value} {h : jH} {P : Option Value → jH → Prop} {P3 : Nat → jH → Prop} (hM : cR l j2 (.ref o :: []) h P3) (hi : jIns j pc = some (.invokevirtual idx, 3, j2)) (hj2 : (Nat.blt j2 359 && (Nat.blt (jK j2) (jK j) && Nat.ble c9 12)) = true) (hl : jNp j2 = 0) (hg : sk o = c9) (hcc : (vwCl[c9]?).map (fun r => r.1) = some (jOw j2)) (hst : (rest.map fun v => v.category).sum ≤ 8) (k : ∀ a h', P3 a h' → jT l j (pc + 3) L (.ref a :: rest) h' P) : jT l j pc L (.ref o :: rest) h P := by
  refine tl_callV (as := []) (rest := rest) hM hi hj2 (by rw [hl]; rfl) hg hcc hst rfl (fun v h' q => ?_)
  obtain ⟨z, rfl, q⟩ := q
  exact k z h' q
theorem tl_v1i {l : Launch} {j pc idx j2 o c9 : Nat} {L : jLo} {rest : List Value} {h : jH} {P : Option Value → jH → Prop} {a1 : Value} {P3 : Int → jH → Prop} (hM : cI l j2 (.ref o :: [a1]) h P3) (hi : jIns j pc = some (.invokevirtual idx, 3, j2)) (hj2 : (Nat.blt j2 359 && (Nat.blt (jK j2) (jK j) && Nat.ble c9 12)) = true) (hl : jNp j2 = 1) (hg : sk o = c9) (hcc : (vwCl[c9]?).map (fun r => r.1) = some (jOw j2)) (hst : (rest.map fun v => v.category).sum ≤ 8) (k : ∀ z h', P3 z h' → jT l j (pc + 3) L (.int (jI z) :: rest) h' P) : jT l j pc L (a1 :: .ref o :: rest) h P := by
  refine tl_callV (as := [a1]) (rest := rest) hM hi hj2 (by rw [hl]; rfl) hg hcc hst rfl (fun v h' q => ?_)
  obtain ⟨z, rfl, q⟩ := q
  exact k z h' q
theorem tl_s1i {l : Launch} {j pc idx j2 : Nat} {L : jLo} {rest : List Value} {h : jH} {P : Option Value → jH → Prop} {a1 : Value} {P3 : Int → jH → Prop} (hM : cI l j2 [a1] h P3) (hi : jIns j pc = some (.invokestatic idx, 3, j2)) (hj2 : (Nat.blt j2 359 && Nat.blt (jK j2) (jK j)) = true) (hl : jNp j2 = 1) (hst : (rest.map fun v => v.category).sum ≤ 8) (k : ∀ z h', P3 z h' → jT l j (pc + 3) L (.int (jI z) :: rest) h' P) : jT l j pc L (a1 :: rest) h P := by
  refine tl_callS (as := [a1]) (rest := rest) hM hi hj2 (by rw [hl]; rfl) hst rfl (fun v h' q => ?_)
  obtain ⟨z, rfl, q⟩ := q
  exact k z h' q
theorem tl_v1v {l : Launch} {j pc idx j2 o c9 : Nat} {L : jLo} {rest : List Value} {h : jH} {P : Option Value → jH → Prop} {a1 : Value} {P3 : jH → Prop} (hM : cV l j2 (.ref o :: [a1]) h P3) (hi : jIns j pc = some (.invokevirtual idx, 3, j2)) (hj2 : (Nat.blt j2 359 && (Nat.blt (jK j2) (jK j) && Nat.ble c9 12)) = true) (hl : jNp j2 = 1) (hg : sk o = c9) (hcc : (vwCl[c9]?).map (fun r => r.1) = some (jOw j2)) (hst : (rest.map fun v => v.category).sum ≤ 8) (k : ∀ h', P3 h' → jT l j (pc + 3) L rest h' P) : jT l j pc L (a1 :: .ref o :: rest) h P := by
  refine tl_callV (as := [a1]) (rest := rest) hM hi hj2 (by rw [hl]; rfl) hg hcc hst rfl (fun v h' q => ?_)
  obtain ⟨rfl, q⟩ := q
  exact k h' q
theorem tl_s1v {l : Launch} {j pc idx j2 : Nat} {L : jLo} {rest : List Value} {h : jH} {P : Option Value → jH → Prop} {a1 : Value} {P3 : jH → Prop} (hM : cV l j2 [a1] h P3) (hi : jIns j pc = some (.invokestatic idx, 3, j2)) (hj2 : (Nat.blt j2 359 && Nat.blt (jK j2) (jK j)) = true) (hl : jNp j2 = 1) (hst : (rest.map fun v => v.category).sum ≤ 8) (k : ∀ h', P3 h' → jT l j (pc + 3) L rest h' P) : jT l j pc L (a1 :: rest) h P := by
  refine tl_callS (as := [a1]) (rest := rest) hM hi hj2 (by rw [hl]; rfl) hst rfl (fun v h' q => ?_)
  obtain ⟨rfl, q⟩ := q
  exact k h' q
theorem tl_v1r {l : Launch} {j pc idx j2 o c9 : Nat} {L : jLo} {rest : List Value} {h : jH} {P : Option Value → jH → Prop} {a1 : Value} {P3 : Nat → jH → Prop} (hM : cR l j2 (.ref o :: [a1]) h P3) (hi : jIns j pc = some (.invokevirtual idx, 3, j2)) (hj2 : (Nat.blt j2 359 && (Nat.blt (jK j2) (jK j) && Nat.ble c9 12)) = true) (hl : jNp j2 = 1) (hg : sk o = c9) (hcc : (vwCl[c9]?).map (fun r => r.1) = some (jOw j2)) (hst : (rest.map fun v => v.category).sum ≤ 8) (k : ∀ a h', P3 a h' → jT l j (pc + 3) L (.ref a :: rest) h' P) : jT l j pc L (a1 :: .ref o :: rest) h P := by
  refine tl_callV (as := [a1]) (rest := rest) hM hi hj2 (by rw [hl]; rfl) hg hcc hst rfl (fun v h' q => ?_)
  obtain ⟨z, rfl, q⟩ := q
  exact k z h' q
theorem tl_v2i {l : Launch} {j pc idx j2 o c9 : Nat} {L : jLo} {rest : List Value} {h : jH} {P : Option Value → jH → Prop} {a1 a2 : Value} {P3 : Int → jH → Prop} (hM : cI l j2 (.ref o :: [a1, a2]) h P3) (hi : jIns j pc = some (.invokevirtual idx, 3, j2)) (hj2 : (Nat.blt j2 359 && (Nat.blt (jK j2) (jK j) && Nat.ble c9 12)) = true) (hl : jNp j2 = 2) (hg : sk o = c9) (hcc : (vwCl[c9]?).map (fun r => r.1) = some (jOw j2)) (hst : (rest.map fun v => v.category).sum ≤ 8) (k : ∀ z h', P3 z h' → jT l j (pc + 3) L (.int (jI z) :: rest) h' P) : jT l j pc L (a2 :: a1 :: .ref o :: rest) h P := by
  refine tl_callV (as := [a1, a2]) (rest := rest) hM hi hj2 (by rw [hl]; rfl) hg hcc hst rfl (fun v h' q => ?_)
  obtain ⟨z, rfl, q⟩ := q
  exact k z h' q
theorem tl_s2i {l : Launch} {j pc idx j2 : Nat} {L : jLo} {rest : List Value} {h : jH} {P : Option Value → jH → Prop} {a1 a2 : Value} {P3 : Int → jH → Prop} (hM : cI l j2 [a1, a2] h P3) (hi : jIns j pc = some (.invokestatic idx, 3, j2)) (hj2 : (Nat.blt j2 359 && Nat.blt (jK j2) (jK j)) = true) (hl : jNp j2 = 2) (hst : (rest.map fun v => v.category).sum ≤ 8) (k : ∀ z h', P3 z h' → jT l j (pc + 3) L (.int (jI z) :: rest) h' P) : jT l j pc L (a2 :: a1 :: rest) h P := by
  refine tl_callS (as := [a1, a2]) (rest := rest) hM hi hj2 (by rw [hl]; rfl) hst rfl (fun v h' q => ?_)
  obtain ⟨z, rfl, q⟩ := q
  exact k z h' q
theorem tl_v2v {l : Launch} {j pc idx j2 o c9 : Nat} {L : jLo} {rest : List Value} {h : jH} {P : Option Value → jH → Prop} {a1 a2 : Value} {P3 : jH → Prop} (hM : cV l j2 (.ref o :: [a1, a2]) h P3) (hi : jIns j pc = some (.invokevirtual idx, 3, j2)) (hj2 : (Nat.blt j2 359 && (Nat.blt (jK j2) (jK j) && Nat.ble c9 12)) = true) (hl : jNp j2 = 2) (hg : sk o = c9) (hcc : (vwCl[c9]?).map (fun r => r.1) = some (jOw j2)) (hst : (rest.map fun v => v.category).sum ≤ 8) (k : ∀ h', P3 h' → jT l j (pc + 3) L rest h' P) : jT l j pc L (a2 :: a1 :: .ref o :: rest) h P := by
  refine tl_callV (as := [a1, a2]) (rest := rest) hM hi hj2 (by rw [hl]; rfl) hg hcc hst rfl (fun v h' q => ?_)
  obtain ⟨rfl, q⟩ := q
  exact k h' q
theorem tl_s2v {l : Launch} {j pc idx j2 : Nat} {L : jLo} {rest : List Value} {h : jH} {P : Option Value → jH → Prop} {a1 a2 : Value} {P3 : jH → Prop} (hM : cV l j2 [a1, a2] h P3) (hi : jIns j pc = some (.invokestatic idx, 3, j2)) (hj2 : (Nat.blt j2 359 && Nat.blt (jK j2) (jK j)) = true) (hl : jNp j2 = 2) (hst : (rest.map fun v => v.category).sum ≤ 8) (k : ∀ h', P3 h' → jT l j (pc + 3) L rest h' P) : jT l j pc L (a2 :: a1 :: rest) h P := by
  refine tl_callS (as := [a1, a2]) (rest := rest) hM hi hj2 (by rw [hl]; rfl) hst rfl (fun v h' q => ?_)
  obtain ⟨rfl, q⟩ := q
  exact k h' q
theorem tl_v2r {l : Launch} {j pc idx j2 o c9 : Nat} {L : jLo} {rest : List Value} {h : jH} {P : Option Value → jH → Prop} {a1 a2 : Value} {P3 : Nat → jH → Prop} (hM : cR l j2 (.ref o :: [a1, a2]) h P3) (hi : jIns j pc = some (.invokevirtual idx, 3, j2)) (hj2 : (Nat.blt j2 359 && (Nat.blt (jK j2) (jK j) && Nat.ble c9 12)) = true) (hl : jNp j2 = 2) (hg : sk o = c9) (hcc : (vwCl[c9]?).map (fun r => r.1) = some (jOw j2)) (hst : (rest.map fun v => v.category).sum ≤ 8) (k : ∀ a h', P3 a h' → jT l j (pc + 3) L (.ref a :: rest) h' P) : jT l j pc L (a2 :: a1 :: .ref o :: rest) h P := by
  refine tl_callV (as := [a1, a2]) (rest := rest) hM hi hj2 (by rw [hl]; rfl) hg hcc hst rfl (fun v h' q => ?_)
  obtain ⟨z, rfl, q⟩ := q
  exact k z h' q
theorem tl_v3i {l : Launch} {j pc idx j2 o c9 : Nat} {L : jLo} {rest : List Value} {h : jH} {P : Option Value → jH → Prop} {a1 a2 a3 : Value} {P3 : Int → jH → Prop} (hM : cI l j2 (.ref o :: [a1, a2, a3]) h P3) (hi : jIns j pc = some (.invokevirtual idx, 3, j2)) (hj2 : (Nat.blt j2 359 && (Nat.blt (jK j2) (jK j) && Nat.ble c9 12)) = true) (hl : jNp j2 = 3) (hg : sk o = c9) (hcc : (vwCl[c9]?).map (fun r => r.1) = some (jOw j2)) (hst : (rest.map fun v => v.category).sum ≤ 8) (k : ∀ z h', P3 z h' → jT l j (pc + 3) L (.int (jI z) :: rest) h' P) : jT l j pc L (a3 :: a2 :: a1 :: .ref o :: rest) h P := by
  refine tl_callV (as := [a1, a2, a3]) (rest := rest) hM hi hj2 (by rw [hl]; rfl) hg hcc hst rfl (fun v h' q => ?_)
  obtain ⟨z, rfl, q⟩ := q
  exact k z h' q
theorem tl_s3i {l : Launch} {j pc idx j2 : Nat} {L : jLo} {rest : List Value} {h : jH} {P : Option Value → jH → Prop} {a1 a2 a3 : Value} {P3 : Int → jH → Prop} (hM : cI l j2 [a1, a2, a3] h P3) (hi : jIns j pc = some (.invokestatic idx, 3, j2)) (hj2 : (Nat.blt j2 359 && Nat.blt (jK j2) (jK j)) = true) (hl : jNp j2 = 3) (hst : (rest.map fun v => v.category).sum ≤ 8) (k : ∀ z h', P3 z h' → jT l j (pc + 3) L (.int (jI z) :: rest) h' P) : jT l j pc L (a3 :: a2 :: a1 :: rest) h P := by
  refine tl_callS (as := [a1, a2, a3]) (rest := rest) hM hi hj2 (by rw [hl]; rfl) hst rfl (fun v h' q => ?_)
  obtain ⟨z, rfl, q⟩ := q
  exact k z h' q
theorem tl_v3v {l : Launch} {j pc idx j2 o c9 : Nat} {L : jLo} {rest : List Value} {h : jH} {P : Option Value → jH → Prop} {a1 a2 a3 : Value} {P3 : jH → Prop} (hM : cV l j2 (.ref o :: [a1, a2, a3]) h P3) (hi : jIns j pc = some (.invokevirtual idx, 3, j2)) (hj2 : (Nat.blt j2 359 && (Nat.blt (jK j2) (jK j) && Nat.ble c9 12)) = true) (hl : jNp j2 = 3) (hg : sk o = c9) (hcc : (vwCl[c9]?).map (fun r => r.1) = some (jOw j2)) (hst : (rest.map fun v => v.category).sum ≤ 8) (k : ∀ h', P3 h' → jT l j (pc + 3) L rest h' P) : jT l j pc L (a3 :: a2 :: a1 :: .ref o :: rest) h P := by
  refine tl_callV (as := [a1, a2, a3]) (rest := rest) hM hi hj2 (by rw [hl]; rfl) hg hcc hst rfl (fun v h' q => ?_)
  obtain ⟨rfl, q⟩ := q
  exact k h' q
theorem tl_s3v {l : Launch} {j pc idx j2 : Nat} {L : jLo} {rest : List Value} {h : jH} {P : Option Value → jH → Prop} {a1 a2 a3 : Value} {P3 : jH → Prop} (hM : cV l j2 [a1, a2, a3] h P3) (hi : jIns j pc = some (.invokestatic idx, 3, j2)) (hj2 : (Nat.blt j2 359 && Nat.blt (jK j2) (jK j)) = true) (hl : jNp j2 = 3) (hst : (rest.map fun v => v.category).sum ≤ 8) (k : ∀ h', P3 h' → jT l j (pc + 3) L rest h' P) : jT l j pc L (a3 :: a2 :: a1 :: rest) h P := by
  refine tl_callS (as := [a1, a2, a3]) (rest := rest) hM hi hj2 (by rw [hl]; rfl) hst rfl (fun v h' q => ?_)
  obtain ⟨rfl, q⟩ := q
  exact k h' q
theorem tl_v3r {l : Launch} {j pc idx j2 o c9 : Nat} {L : jLo} {rest : List Value} {h : jH} {P : Option Value → jH → Prop} {a1 a2 a3 : Value} {P3 : Nat → jH → Prop} (hM : cR l j2 (.ref o :: [a1, a2, a3]) h P3) (hi : jIns j pc = some (.invokevirtual idx, 3, j2)) (hj2 : (Nat.blt j2 359 && (Nat.blt (jK j2) (jK j) && Nat.ble c9 12)) = true) (hl : jNp j2 = 3) (hg : sk o = c9) (hcc : (vwCl[c9]?).map (fun r => r.1) = some (jOw j2)) (hst : (rest.map fun v => v.category).sum ≤ 8) (k : ∀ a h', P3 a h' → jT l j (pc + 3) L (.ref a :: rest) h' P) : jT l j pc L (a3 :: a2 :: a1 :: .ref o :: rest) h P := by
  refine tl_callV (as := [a1, a2, a3]) (rest := rest) hM hi hj2 (by rw [hl]; rfl) hg hcc hst rfl (fun v h' q => ?_)
  obtain ⟨z, rfl, q⟩ := q
  exact k z h' q
theorem tl_v4i {l : Launch} {j pc idx j2 o c9 : Nat} {L : jLo} {rest : List Value} {h : jH} {P : Option Value → jH → Prop} {a1 a2 a3 a4 : Value} {P3 : Int → jH → Prop} (hM : cI l j2 (.ref o :: [a1, a2, a3, a4]) h P3) (hi : jIns j pc = some (.invokevirtual idx, 3, j2)) (hj2 : (Nat.blt j2 359 && (Nat.blt (jK j2) (jK j) && Nat.ble c9 12)) = true) (hl : jNp j2 = 4) (hg : sk o = c9) (hcc : (vwCl[c9]?).map (fun r => r.1) = some (jOw j2)) (hst : (rest.map fun v => v.category).sum ≤ 8) (k : ∀ z h', P3 z h' → jT l j (pc + 3) L (.int (jI z) :: rest) h' P) : jT l j pc L (a4 :: a3 :: a2 :: a1 :: .ref o :: rest) h P := by
  refine tl_callV (as := [a1, a2, a3, a4]) (rest := rest) hM hi hj2 (by rw [hl]; rfl) hg hcc hst rfl (fun v h' q => ?_)
  obtain ⟨z, rfl, q⟩ := q
  exact k z h' q
theorem tl_s4i {l : Launch} {j pc idx j2 : Nat} {L : jLo} {rest : List Value} {h : jH} {P : Option Value → jH → Prop} {a1 a2 a3 a4 : Value} {P3 : Int → jH → Prop} (hM : cI l j2 [a1, a2, a3, a4] h P3) (hi : jIns j pc = some (.invokestatic idx, 3, j2)) (hj2 : (Nat.blt j2 359 && Nat.blt (jK j2) (jK j)) = true) (hl : jNp j2 = 4) (hst : (rest.map fun v => v.category).sum ≤ 8) (k : ∀ z h', P3 z h' → jT l j (pc + 3) L (.int (jI z) :: rest) h' P) : jT l j pc L (a4 :: a3 :: a2 :: a1 :: rest) h P := by
  refine tl_callS (as := [a1, a2, a3, a4]) (rest := rest) hM hi hj2 (by rw [hl]; rfl) hst rfl (fun v h' q => ?_)
  obtain ⟨z, rfl, q⟩ := q
  exact k z h' q
theorem tl_v4v {l : Launch} {j pc idx j2 o c9 : Nat} {L : jLo} {rest : List Value} {h : jH} {P : Option Value → jH → Prop} {a1 a2 a3 a4 : Value} {P3 : jH → Prop} (hM : cV l j2 (.ref o :: [a1, a2, a3, a4]) h P3) (hi : jIns j pc = some (.invokevirtual idx, 3, j2)) (hj2 : (Nat.blt j2 359 && (Nat.blt (jK j2) (jK j) && Nat.ble c9 12)) = true) (hl : jNp j2 = 4) (hg : sk o = c9) (hcc : (vwCl[c9]?).map (fun r => r.1) = some (jOw j2)) (hst : (rest.map fun v => v.category).sum ≤ 8) (k : ∀ h', P3 h' → jT l j (pc + 3) L rest h' P) : jT l j pc L (a4 :: a3 :: a2 :: a1 :: .ref o :: rest) h P := by
  refine tl_callV (as := [a1, a2, a3, a4]) (rest := rest) hM hi hj2 (by rw [hl]; rfl) hg hcc hst rfl (fun v h' q => ?_)
  obtain ⟨rfl, q⟩ := q
  exact k h' q
theorem tl_s4v {l : Launch} {j pc idx j2 : Nat} {L : jLo} {rest : List Value} {h : jH} {P : Option Value → jH → Prop} {a1 a2 a3 a4 : Value} {P3 : jH → Prop} (hM : cV l j2 [a1, a2, a3, a4] h P3) (hi : jIns j pc = some (.invokestatic idx, 3, j2)) (hj2 : (Nat.blt j2 359 && Nat.blt (jK j2) (jK j)) = true) (hl : jNp j2 = 4) (hst : (rest.map fun v => v.category).sum ≤ 8) (k : ∀ h', P3 h' → jT l j (pc + 3) L rest h' P) : jT l j pc L (a4 :: a3 :: a2 :: a1 :: rest) h P := by
  refine tl_callS (as := [a1, a2, a3, a4]) (rest := rest) hM hi hj2 (by rw [hl]; rfl) hst rfl (fun v h' q => ?_)
  obtain ⟨rfl, q⟩ := q
  exact k h' q
theorem tl_v4r {l : Launch} {j pc idx j2 o c9 : Nat} {L : jLo} {rest : List Value} {h : jH} {P : Option Value → jH → Prop} {a1 a2 a3 a4 : Value} {P3 : Nat → jH → Prop} (hM : cR l j2 (.ref o :: [a1, a2, a3, a4]) h P3) (hi : jIns j pc = some (.invokevirtual idx, 3, j2)) (hj2 : (Nat.blt j2 359 && (Nat.blt (jK j2) (jK j) && Nat.ble c9 12)) = true) (hl : jNp j2 = 4) (hg : sk o = c9) (hcc : (vwCl[c9]?).map (fun r => r.1) = some (jOw j2)) (hst : (rest.map fun v => v.category).sum ≤ 8) (k : ∀ a h', P3 a h' → jT l j (pc + 3) L (.ref a :: rest) h' P) : jT l j pc L (a4 :: a3 :: a2 :: a1 :: .ref o :: rest) h P := by
  refine tl_callV (as := [a1, a2, a3, a4]) (rest := rest) hM hi hj2 (by rw [hl]; rfl) hg hcc hst rfl (fun v h' q => ?_)
  obtain ⟨z, rfl, q⟩ := q
  exact k z h' q
theorem tl_v5i {l : Launch} {j pc idx j2 o c9 : Nat} {L : jLo} {rest : List Value} {h : jH} {P : Option Value → jH → Prop} {a1 a2 a3 a4 a5 : Value} {P3 : Int → jH → Prop} (hM : cI l j2 (.ref o :: [a1, a2, a3, a4, a5]) h P3) (hi : jIns j pc = some (.invokevirtual idx, 3, j2)) (hj2 : (Nat.blt j2 359 && (Nat.blt (jK j2) (jK j) && Nat.ble c9 12)) = true) (hl : jNp j2 = 5) (hg : sk o = c9) (hcc : (vwCl[c9]?).map (fun r => r.1) = some (jOw j2)) (hst : (rest.map fun v => v.category).sum ≤ 8) (k : ∀ z h', P3 z h' → jT l j (pc + 3) L (.int (jI z) :: rest) h' P) : jT l j pc L (a5 :: a4 :: a3 :: a2 :: a1 :: .ref o :: rest) h P := by
  refine tl_callV (as := [a1, a2, a3, a4, a5]) (rest := rest) hM hi hj2 (by rw [hl]; rfl) hg hcc hst rfl (fun v h' q => ?_)
  obtain ⟨z, rfl, q⟩ := q
  exact k z h' q
theorem tl_s5i {l : Launch} {j pc idx j2 : Nat} {L : jLo} {rest : List Value} {h : jH} {P : Option Value → jH → Prop} {a1 a2 a3 a4 a5 : Value} {P3 : Int → jH → Prop} (hM : cI l j2 [a1, a2, a3, a4, a5] h P3) (hi : jIns j pc = some (.invokestatic idx, 3, j2)) (hj2 : (Nat.blt j2 359 && Nat.blt (jK j2) (jK j)) = true) (hl : jNp j2 = 5) (hst : (rest.map fun v => v.category).sum ≤ 8) (k : ∀ z h', P3 z h' → jT l j (pc + 3) L (.int (jI z) :: rest) h' P) : jT l j pc L (a5 :: a4 :: a3 :: a2 :: a1 :: rest) h P := by
  refine tl_callS (as := [a1, a2, a3, a4, a5]) (rest := rest) hM hi hj2 (by rw [hl]; rfl) hst rfl (fun v h' q => ?_)
  obtain ⟨z, rfl, q⟩ := q
  exact k z h' q
theorem tl_v5v {l : Launch} {j pc idx j2 o c9 : Nat} {L : jLo} {rest : List Value} {h : jH} {P : Option Value → jH → Prop} {a1 a2 a3 a4 a5 : Value} {P3 : jH → Prop} (hM : cV l j2 (.ref o :: [a1, a2, a3, a4, a5]) h P3) (hi : jIns j pc = some (.invokevirtual idx, 3, j2)) (hj2 : (Nat.blt j2 359 && (Nat.blt (jK j2) (jK j) && Nat.ble c9 12)) = true) (hl : jNp j2 = 5) (hg : sk o = c9) (hcc : (vwCl[c9]?).map (fun r => r.1) = some (jOw j2)) (hst : (rest.map fun v => v.category).sum ≤ 8) (k : ∀ h', P3 h' → jT l j (pc + 3) L rest h' P) : jT l j pc L (a5 :: a4 :: a3 :: a2 :: a1 :: .ref o :: rest) h P := by
  refine tl_callV (as := [a1, a2, a3, a4, a5]) (rest := rest) hM hi hj2 (by rw [hl]; rfl) hg hcc hst rfl (fun v h' q => ?_)
  obtain ⟨rfl, q⟩ := q
  exact k h' q
theorem tl_s5v {l : Launch} {j pc idx j2 : Nat} {L : jLo} {rest : List Value} {h : jH} {P : Option Value → jH → Prop} {a1 a2 a3 a4 a5 : Value} {P3 : jH → Prop} (hM : cV l j2 [a1, a2, a3, a4, a5] h P3) (hi : jIns j pc = some (.invokestatic idx, 3, j2)) (hj2 : (Nat.blt j2 359 && Nat.blt (jK j2) (jK j)) = true) (hl : jNp j2 = 5) (hst : (rest.map fun v => v.category).sum ≤ 8) (k : ∀ h', P3 h' → jT l j (pc + 3) L rest h' P) : jT l j pc L (a5 :: a4 :: a3 :: a2 :: a1 :: rest) h P := by
  refine tl_callS (as := [a1, a2, a3, a4, a5]) (rest := rest) hM hi hj2 (by rw [hl]; rfl) hst rfl (fun v h' q => ?_)
  obtain ⟨rfl, q⟩ := q
  exact k h' q
theorem tl_v5r {l : Launch} {j pc idx j2 o c9 : Nat} {L : jLo} {rest : List Value} {h : jH} {P : Option Value → jH → Prop} {a1 a2 a3 a4 a5 : Value} {P3 : Nat → jH → Prop} (hM : cR l j2 (.ref o :: [a1, a2, a3, a4, a5]) h P3) (hi : jIns j pc = some (.invokevirtual idx, 3, j2)) (hj2 : (Nat.blt j2 359 && (Nat.blt (jK j2) (jK j) && Nat.ble c9 12)) = true) (hl : jNp j2 = 5) (hg : sk o = c9) (hcc : (vwCl[c9]?).map (fun r => r.1) = some (jOw j2)) (hst : (rest.map fun v => v.category).sum ≤ 8) (k : ∀ a h', P3 a h' → jT l j (pc + 3) L (.ref a :: rest) h' P) : jT l j pc L (a5 :: a4 :: a3 :: a2 :: a1 :: .ref o :: rest) h P := by
  refine tl_callV (as := [a1, a2, a3, a4, a5]) (rest := rest) hM hi hj2 (by rw [hl]; rfl) hg hcc hst rfl (fun v h' q => ?_)
  obtain ⟨z, rfl, q⟩ := q
  exact k z h' q
theorem cI.of {l : Launch} {j : Nat} {av : List Value} {h : jH} {P : Int → jH → Prop} (hj : (Nat.blt j 359 && Nat.ble (jen av).length (jM j)) = true) (hr : jR j = some .int) (k : jT l j 0 (jent (jM j) av) [] h (fun v h' => ∃ z, v = some (.int (jI z)) ∧ P z h')) : cI l j av h P := by
  obtain ⟨v, h', ⟨z, rfl, hp⟩, hE⟩ := k
  simp only [Bool.and_eq_true] at hj
  exact ⟨_, h', ⟨z, rfl, hp⟩, jCl.of (Nat.le_of_ble_eq_true hj.1) (Nat.le_of_ble_eq_true hj.2) (Nat.le_refl _) (Nat.le_refl _) ⟨.int, hr, rfl⟩ hE⟩
theorem cI.ofZ {l : Launch} {j : Nat} {av : List Value} {h : jH} {P : Int → jH → Prop} (hj : (Nat.blt j 359 && Nat.ble (jen av).length (jM j)) = true) (hr : jR j = some .boolean) (k : jT l j 0 (jent (jM j) av) [] h (fun v h' => ∃ z, v = some (.int (jI z)) ∧ (z = 0 ∨ z = 1) ∧ P z h')) : cI l j av h P := by
  obtain ⟨v, h', ⟨z, rfl, hz, hp⟩, hE⟩ := k
  simp only [Bool.and_eq_true] at hj
  exact ⟨_, h', ⟨z, rfl, hp⟩, jCl.of (Nat.le_of_ble_eq_true hj.1) (Nat.le_of_ble_eq_true hj.2) (Nat.le_refl _) (Nat.le_refl _) ⟨.boolean, hr, by rcases hz with rfl | rfl <;> rfl⟩ hE⟩
theorem cV.of {l : Launch} {j : Nat} {av : List Value} {h : jH} {P : jH → Prop} (hj : (Nat.blt j 359 && Nat.ble (jen av).length (jM j)) = true) (hr : jR j = none) (k : jT l j 0 (jent (jM j) av) [] h (fun v h' => v = none ∧ P h')) : cV l j av h P := by
  obtain ⟨v, h', ⟨rfl, hp⟩, hE⟩ := k
  simp only [Bool.and_eq_true] at hj
  exact ⟨_, h', ⟨rfl, hp⟩, jCl.of (Nat.le_of_ble_eq_true hj.1) (Nat.le_of_ble_eq_true hj.2) (Nat.le_refl _) (Nat.le_refl _) hr hE⟩
theorem cR.of {l : Launch} {j : Nat} {av : List Value} {h : jH} {P : Nat → jH → Prop} {n : String} (hj : (Nat.blt j 359 && Nat.ble (jen av).length (jM j)) = true) (hr : jR j = some (.object n)) (k : jT l j 0 (jent (jM j) av) [] h (fun v h' => ∃ a, v = some (.ref a) ∧ P a h')) : cR l j av h P := by
  obtain ⟨v, h', ⟨a, rfl, hp⟩, hE⟩ := k
  simp only [Bool.and_eq_true] at hj
  exact ⟨_, h', ⟨a, rfl, hp⟩, jCl.of (Nat.le_of_ble_eq_true hj.1) (Nat.le_of_ble_eq_true hj.2) (Nat.le_refl _) (Nat.le_refl _) ⟨_, hr, Or.inl ⟨n, rfl⟩⟩ hE⟩
theorem cI.mono {l : Launch} {j : Nat} {av : List Value} {h : jH} {P P' : Int → jH → Prop} (hc : cI l j av h P) (i : ∀ z h', P z h' → P' z h') : cI l j av h P' := by
  obtain ⟨v, h', ⟨z, rfl, hp⟩, hM⟩ := hc
  exact ⟨_, h', ⟨z, rfl, i z h' hp⟩, hM⟩
theorem cV.mono {l : Launch} {j : Nat} {av : List Value} {h : jH} {P P' : jH → Prop} (hc : cV l j av h P) (i : ∀ h', P h' → P' h') : cV l j av h P' := by
  obtain ⟨v, h', ⟨rfl, hp⟩, hM⟩ := hc
  exact ⟨_, h', ⟨rfl, i h' hp⟩, hM⟩
