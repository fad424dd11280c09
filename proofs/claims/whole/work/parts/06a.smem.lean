/-! ===== the cells, in the order in which they are made ===== -/
def sl_ct (c : Nat) : Nat := match c with
  | 1 => 2
  | 2 => 80
  | 3 => 3
  | 4 => 2
  | 5 => 2
  | 6 => 94
  | 7 => 2
  | 8 => 1
  | 9 => 1
  | 10 => 1
  | 11 => 1
  | 20 => 94
  | 22 => 2
  | 23 => 2
  | 24 => 2
  | 25 => 2
  | 26 => 2
  | 27 => 3
  | 30 => 11
  | 40 => 1
  | 41 => 1
  | 50 => 1
  | 51 => 1
  | 52 => 1
  | 53 => 1
  | 54 => 1
  | 55 => 1
  | 56 => 1
  | 57 => 1
  | 58 => 1
  | 59 => 1
  | 60 => 1
  | 61 => 1
  | 62 => 1
  | 63 => 1
  | 64 => 1
  | 65 => 1
  | 66 => 1
  | 67 => 1
  | 68 => 1
  | 70 => 1
  | 71 => 1
  | 72 => 1
  | 73 => 1
  | _ => 0
def sl_o2 (i : Nat) : Nat := bif Nat.ble 40 i then 12 + 3 * i else 8 + 3 * i
def sl_o6 (i : Nat) : Nat := match i with
  | 0 => 290
  | 1 => 292
  | 2 => 6
  | 3 => 130
  | 4 => 259
  | 5 => 278
  | 6 => 266
  | 7 => 285
  | 8 => 269
  | 9 => 288
  | 10 => 253
  | 11 => 272
  | 12 => 255
  | 13 => 274
  | i => sl_o2 (i - 14) + 1
def sl_od (c i : Nat) : Nat := match c with
  | 1 => bif Nat.ble 1 i then (bif Nat.beq i 1 then 271 else 0) else (bif Nat.beq i 0 then 252 else 0)
  | 2 => sl_o2 i
  | 3 => bif Nat.ble 1 i then (bif Nat.ble 2 i then (bif Nat.beq i 2 then 276 else 0) else (bif Nat.beq i 1 then 257 else 0)) else (bif Nat.beq i 0 then 294 else 0)
  | 4 => bif Nat.ble 1 i then (bif Nat.beq i 1 then 128 else 0) else (bif Nat.beq i 0 then 4 else 0)
  | 5 => bif Nat.ble 1 i then (bif Nat.beq i 1 then 284 else 0) else (bif Nat.beq i 0 then 265 else 0)
  | 6 => sl_o6 i
  | 7 => bif Nat.ble 1 i then (bif Nat.beq i 1 then 277 else 0) else (bif Nat.beq i 0 then 258 else 0)
  | 8 => 1
  | 9 => 2
  | 10 => 0
  | 11 => 295
  | 20 => sl_o6 i + 1
  | 22 => bif Nat.ble 1 i then (bif Nat.beq i 1 then 129 else 0) else (bif Nat.beq i 0 then 5 else 0)
  | 23 => bif Nat.ble 1 i then (bif Nat.beq i 1 then 280 else 0) else (bif Nat.beq i 0 then 261 else 0)
  | 24 => bif Nat.ble 1 i then (bif Nat.beq i 1 then 281 else 0) else (bif Nat.beq i 0 then 262 else 0)
  | 25 => bif Nat.ble 1 i then (bif Nat.beq i 1 then 282 else 0) else (bif Nat.beq i 0 then 263 else 0)
  | 26 => bif Nat.ble 1 i then (bif Nat.beq i 1 then 283 else 0) else (bif Nat.beq i 0 then 264 else 0)
  | 27 => bif Nat.ble 1 i then (bif Nat.ble 2 i then (bif Nat.beq i 2 then 3 else 0) else (bif Nat.beq i 1 then 287 else 0)) else (bif Nat.beq i 0 then 268 else 0)
  | 30 => bif Nat.ble 5 i then (bif Nat.ble 8 i then (bif Nat.ble 9 i then (bif Nat.ble 10 i then (bif Nat.beq i 10 then 329 else 0) else (bif Nat.beq i 9 then 328 else 0)) else (bif Nat.beq i 8 then 327 else 0)) else (bif Nat.ble 6 i then (bif Nat.ble 7 i then (bif Nat.beq i 7 then 320 else 0) else (bif Nat.beq i 6 then 315 else 0)) else (bif Nat.beq i 5 then 314 else 0))) else (bif Nat.ble 2 i then (bif Nat.ble 3 i then (bif Nat.ble 4 i then (bif Nat.beq i 4 then 301 else 0) else (bif Nat.beq i 3 then 300 else 0)) else (bif Nat.beq i 2 then 299 else 0)) else (bif Nat.ble 1 i then (bif Nat.beq i 1 then 297 else 0) else (bif Nat.beq i 0 then 296 else 0)))
  | 40 => 330
  | 50 => 298
  | 51 => 302
  | 52 => 303
  | 53 => 304
  | 54 => 305
  | 55 => 306
  | 56 => 307
  | 57 => 308
  | 58 => 309
  | 59 => 310
  | 60 => 313
  | 61 => 316
  | 62 => 318
  | 63 => 319
  | 64 => 321
  | 65 => 322
  | 66 => 323
  | 67 => 324
  | 68 => 326
  | 70 => 311
  | 71 => 312
  | 72 => 317
  | 73 => 325
  | _ => 0
def sl_sq (n : Nat) : Nat × Nat := bif Nat.ble 165 n then (bif Nat.ble 248 n then (bif Nat.ble 289 n then (bif Nat.ble 310 n then (bif Nat.ble 320 n then (bif Nat.ble 325 n then (bif Nat.ble 328 n then (bif Nat.ble 329 n then (bif Nat.ble 330 n then (bif Nat.beq n 330 then (40, 0) else (0, 0)) else (bif Nat.beq n 329 then (30, 10) else (0, 0))) else (bif Nat.beq n 328 then (30, 9) else (0, 0))) else (bif Nat.ble 326 n then (bif Nat.ble 327 n then (bif Nat.beq n 327 then (30, 8) else (0, 0)) else (bif Nat.beq n 326 then (68, 0) else (0, 0))) else (bif Nat.beq n 325 then (73, 0) else (0, 0)))) else (bif Nat.ble 322 n then (bif Nat.ble 323 n then (bif Nat.ble 324 n then (bif Nat.beq n 324 then (67, 0) else (0, 0)) else (bif Nat.beq n 323 then (66, 0) else (0, 0))) else (bif Nat.beq n 322 then (65, 0) else (0, 0))) else (bif Nat.ble 321 n then (bif Nat.beq n 321 then (64, 0) else (0, 0)) else (bif Nat.beq n 320 then (30, 7) else (0, 0))))) else (bif Nat.ble 315 n then (bif Nat.ble 317 n then (bif Nat.ble 318 n then (bif Nat.ble 319 n then (bif Nat.beq n 319 then (63, 0) else (0, 0)) else (bif Nat.beq n 318 then (62, 0) else (0, 0))) else (bif Nat.beq n 317 then (72, 0) else (0, 0))) else (bif Nat.ble 316 n then (bif Nat.beq n 316 then (61, 0) else (0, 0)) else (bif Nat.beq n 315 then (30, 6) else (0, 0)))) else (bif Nat.ble 312 n then (bif Nat.ble 313 n then (bif Nat.ble 314 n then (bif Nat.beq n 314 then (30, 5) else (0, 0)) else (bif Nat.beq n 313 then (60, 0) else (0, 0))) else (bif Nat.beq n 312 then (71, 0) else (0, 0))) else (bif Nat.ble 311 n then (bif Nat.beq n 311 then (70, 0) else (0, 0)) else (bif Nat.beq n 310 then (59, 0) else (0, 0)))))) else (bif Nat.ble 299 n then (bif Nat.ble 304 n then (bif Nat.ble 307 n then (bif Nat.ble 308 n then (bif Nat.ble 309 n then (bif Nat.beq n 309 then (58, 0) else (0, 0)) else (bif Nat.beq n 308 then (57, 0) else (0, 0))) else (bif Nat.beq n 307 then (56, 0) else (0, 0))) else (bif Nat.ble 305 n then (bif Nat.ble 306 n then (bif Nat.beq n 306 then (55, 0) else (0, 0)) else (bif Nat.beq n 305 then (54, 0) else (0, 0))) else (bif Nat.beq n 304 then (53, 0) else (0, 0)))) else (bif Nat.ble 301 n then (bif Nat.ble 302 n then (bif Nat.ble 303 n then (bif Nat.beq n 303 then (52, 0) else (0, 0)) else (bif Nat.beq n 302 then (51, 0) else (0, 0))) else (bif Nat.beq n 301 then (30, 4) else (0, 0))) else (bif Nat.ble 300 n then (bif Nat.beq n 300 then (30, 3) else (0, 0)) else (bif Nat.beq n 299 then (30, 2) else (0, 0))))) else (bif Nat.ble 294 n then (bif Nat.ble 296 n then (bif Nat.ble 297 n then (bif Nat.ble 298 n then (bif Nat.beq n 298 then (50, 0) else (0, 0)) else (bif Nat.beq n 297 then (30, 1) else (0, 0))) else (bif Nat.beq n 296 then (30, 0) else (0, 0))) else (bif Nat.ble 295 n then (bif Nat.beq n 295 then (11, 0) else (0, 0)) else (bif Nat.beq n 294 then (3, 0) else (0, 0)))) else (bif Nat.ble 291 n then (bif Nat.ble 292 n then (bif Nat.ble 293 n then (bif Nat.beq n 293 then (20, 1) else (0, 0)) else (bif Nat.beq n 292 then (6, 1) else (0, 0))) else (bif Nat.beq n 291 then (20, 0) else (0, 0))) else (bif Nat.ble 290 n then (bif Nat.beq n 290 then (6, 0) else (0, 0)) else (bif Nat.beq n 289 then (20, 9) else (0, 0))))))) else (bif Nat.ble 268 n then (bif Nat.ble 278 n then (bif Nat.ble 283 n then (bif Nat.ble 286 n then (bif Nat.ble 287 n then (bif Nat.ble 288 n then (bif Nat.beq n 288 then (6, 9) else (0, 0)) else (bif Nat.beq n 287 then (27, 1) else (0, 0))) else (bif Nat.beq n 286 then (20, 7) else (0, 0))) else (bif Nat.ble 284 n then (bif Nat.ble 285 n then (bif Nat.beq n 285 then (6, 7) else (0, 0)) else (bif Nat.beq n 284 then (5, 1) else (0, 0))) else (bif Nat.beq n 283 then (26, 1) else (0, 0)))) else (bif Nat.ble 280 n then (bif Nat.ble 281 n then (bif Nat.ble 282 n then (bif Nat.beq n 282 then (25, 1) else (0, 0)) else (bif Nat.beq n 281 then (24, 1) else (0, 0))) else (bif Nat.beq n 280 then (23, 1) else (0, 0))) else (bif Nat.ble 279 n then (bif Nat.beq n 279 then (20, 5) else (0, 0)) else (bif Nat.beq n 278 then (6, 5) else (0, 0))))) else (bif Nat.ble 273 n then (bif Nat.ble 275 n then (bif Nat.ble 276 n then (bif Nat.ble 277 n then (bif Nat.beq n 277 then (7, 1) else (0, 0)) else (bif Nat.beq n 276 then (3, 2) else (0, 0))) else (bif Nat.beq n 275 then (20, 13) else (0, 0))) else (bif Nat.ble 274 n then (bif Nat.beq n 274 then (6, 13) else (0, 0)) else (bif Nat.beq n 273 then (20, 11) else (0, 0)))) else (bif Nat.ble 270 n then (bif Nat.ble 271 n then (bif Nat.ble 272 n then (bif Nat.beq n 272 then (6, 11) else (0, 0)) else (bif Nat.beq n 271 then (1, 1) else (0, 0))) else (bif Nat.beq n 270 then (20, 8) else (0, 0))) else (bif Nat.ble 269 n then (bif Nat.beq n 269 then (6, 8) else (0, 0)) else (bif Nat.beq n 268 then (27, 0) else (0, 0)))))) else (bif Nat.ble 258 n then (bif Nat.ble 263 n then (bif Nat.ble 265 n then (bif Nat.ble 266 n then (bif Nat.ble 267 n then (bif Nat.beq n 267 then (20, 6) else (0, 0)) else (bif Nat.beq n 266 then (6, 6) else (0, 0))) else (bif Nat.beq n 265 then (5, 0) else (0, 0))) else (bif Nat.ble 264 n then (bif Nat.beq n 264 then (26, 0) else (0, 0)) else (bif Nat.beq n 263 then (25, 0) else (0, 0)))) else (bif Nat.ble 260 n then (bif Nat.ble 261 n then (bif Nat.ble 262 n then (bif Nat.beq n 262 then (24, 0) else (0, 0)) else (bif Nat.beq n 261 then (23, 0) else (0, 0))) else (bif Nat.beq n 260 then (20, 4) else (0, 0))) else (bif Nat.ble 259 n then (bif Nat.beq n 259 then (6, 4) else (0, 0)) else (bif Nat.beq n 258 then (7, 0) else (0, 0))))) else (bif Nat.ble 253 n then (bif Nat.ble 255 n then (bif Nat.ble 256 n then (bif Nat.ble 257 n then (bif Nat.beq n 257 then (3, 1) else (0, 0)) else (bif Nat.beq n 256 then (20, 12) else (0, 0))) else (bif Nat.beq n 255 then (6, 12) else (0, 0))) else (bif Nat.ble 254 n then (bif Nat.beq n 254 then (20, 10) else (0, 0)) else (bif Nat.beq n 253 then (6, 10) else (0, 0)))) else (bif Nat.ble 250 n then (bif Nat.ble 251 n then (bif Nat.ble 252 n then (bif Nat.beq n 252 then (1, 0) else (0, 0)) else (bif Nat.beq n 251 then (20, 93) else (0, 0))) else (bif Nat.beq n 250 then (6, 93) else (0, 0))) else (bif Nat.ble 249 n then (bif Nat.beq n 249 then (2, 79) else (0, 0)) else (bif Nat.beq n 248 then (20, 92) else (0, 0)))))))) else (bif Nat.ble 206 n then (bif Nat.ble 227 n then (bif Nat.ble 237 n then (bif Nat.ble 242 n then (bif Nat.ble 245 n then (bif Nat.ble 246 n then (bif Nat.ble 247 n then (bif Nat.beq n 247 then (6, 92) else (0, 0)) else (bif Nat.beq n 246 then (2, 78) else (0, 0))) else (bif Nat.beq n 245 then (20, 91) else (0, 0))) else (bif Nat.ble 243 n then (bif Nat.ble 244 n then (bif Nat.beq n 244 then (6, 91) else (0, 0)) else (bif Nat.beq n 243 then (2, 77) else (0, 0))) else (bif Nat.beq n 242 then (20, 90) else (0, 0)))) else (bif Nat.ble 239 n then (bif Nat.ble 240 n then (bif Nat.ble 241 n then (bif Nat.beq n 241 then (6, 90) else (0, 0)) else (bif Nat.beq n 240 then (2, 76) else (0, 0))) else (bif Nat.beq n 239 then (20, 89) else (0, 0))) else (bif Nat.ble 238 n then (bif Nat.beq n 238 then (6, 89) else (0, 0)) else (bif Nat.beq n 237 then (2, 75) else (0, 0))))) else (bif Nat.ble 232 n then (bif Nat.ble 234 n then (bif Nat.ble 235 n then (bif Nat.ble 236 n then (bif Nat.beq n 236 then (20, 88) else (0, 0)) else (bif Nat.beq n 235 then (6, 88) else (0, 0))) else (bif Nat.beq n 234 then (2, 74) else (0, 0))) else (bif Nat.ble 233 n then (bif Nat.beq n 233 then (20, 87) else (0, 0)) else (bif Nat.beq n 232 then (6, 87) else (0, 0)))) else (bif Nat.ble 229 n then (bif Nat.ble 230 n then (bif Nat.ble 231 n then (bif Nat.beq n 231 then (2, 73) else (0, 0)) else (bif Nat.beq n 230 then (20, 86) else (0, 0))) else (bif Nat.beq n 229 then (6, 86) else (0, 0))) else (bif Nat.ble 228 n then (bif Nat.beq n 228 then (2, 72) else (0, 0)) else (bif Nat.beq n 227 then (20, 85) else (0, 0)))))) else (bif Nat.ble 216 n then (bif Nat.ble 221 n then (bif Nat.ble 224 n then (bif Nat.ble 225 n then (bif Nat.ble 226 n then (bif Nat.beq n 226 then (6, 85) else (0, 0)) else (bif Nat.beq n 225 then (2, 71) else (0, 0))) else (bif Nat.beq n 224 then (20, 84) else (0, 0))) else (bif Nat.ble 222 n then (bif Nat.ble 223 n then (bif Nat.beq n 223 then (6, 84) else (0, 0)) else (bif Nat.beq n 222 then (2, 70) else (0, 0))) else (bif Nat.beq n 221 then (20, 83) else (0, 0)))) else (bif Nat.ble 218 n then (bif Nat.ble 219 n then (bif Nat.ble 220 n then (bif Nat.beq n 220 then (6, 83) else (0, 0)) else (bif Nat.beq n 219 then (2, 69) else (0, 0))) else (bif Nat.beq n 218 then (20, 82) else (0, 0))) else (bif Nat.ble 217 n then (bif Nat.beq n 217 then (6, 82) else (0, 0)) else (bif Nat.beq n 216 then (2, 68) else (0, 0))))) else (bif Nat.ble 211 n then (bif Nat.ble 213 n then (bif Nat.ble 214 n then (bif Nat.ble 215 n then (bif Nat.beq n 215 then (20, 81) else (0, 0)) else (bif Nat.beq n 214 then (6, 81) else (0, 0))) else (bif Nat.beq n 213 then (2, 67) else (0, 0))) else (bif Nat.ble 212 n then (bif Nat.beq n 212 then (20, 80) else (0, 0)) else (bif Nat.beq n 211 then (6, 80) else (0, 0)))) else (bif Nat.ble 208 n then (bif Nat.ble 209 n then (bif Nat.ble 210 n then (bif Nat.beq n 210 then (2, 66) else (0, 0)) else (bif Nat.beq n 209 then (20, 79) else (0, 0))) else (bif Nat.beq n 208 then (6, 79) else (0, 0))) else (bif Nat.ble 207 n then (bif Nat.beq n 207 then (2, 65) else (0, 0)) else (bif Nat.beq n 206 then (20, 78) else (0, 0))))))) else (bif Nat.ble 185 n then (bif Nat.ble 195 n then (bif Nat.ble 200 n then (bif Nat.ble 203 n then (bif Nat.ble 204 n then (bif Nat.ble 205 n then (bif Nat.beq n 205 then (6, 78) else (0, 0)) else (bif Nat.beq n 204 then (2, 64) else (0, 0))) else (bif Nat.beq n 203 then (20, 77) else (0, 0))) else (bif Nat.ble 201 n then (bif Nat.ble 202 n then (bif Nat.beq n 202 then (6, 77) else (0, 0)) else (bif Nat.beq n 201 then (2, 63) else (0, 0))) else (bif Nat.beq n 200 then (20, 76) else (0, 0)))) else (bif Nat.ble 197 n then (bif Nat.ble 198 n then (bif Nat.ble 199 n then (bif Nat.beq n 199 then (6, 76) else (0, 0)) else (bif Nat.beq n 198 then (2, 62) else (0, 0))) else (bif Nat.beq n 197 then (20, 75) else (0, 0))) else (bif Nat.ble 196 n then (bif Nat.beq n 196 then (6, 75) else (0, 0)) else (bif Nat.beq n 195 then (2, 61) else (0, 0))))) else (bif Nat.ble 190 n then (bif Nat.ble 192 n then (bif Nat.ble 193 n then (bif Nat.ble 194 n then (bif Nat.beq n 194 then (20, 74) else (0, 0)) else (bif Nat.beq n 193 then (6, 74) else (0, 0))) else (bif Nat.beq n 192 then (2, 60) else (0, 0))) else (bif Nat.ble 191 n then (bif Nat.beq n 191 then (20, 73) else (0, 0)) else (bif Nat.beq n 190 then (6, 73) else (0, 0)))) else (bif Nat.ble 187 n then (bif Nat.ble 188 n then (bif Nat.ble 189 n then (bif Nat.beq n 189 then (2, 59) else (0, 0)) else (bif Nat.beq n 188 then (20, 72) else (0, 0))) else (bif Nat.beq n 187 then (6, 72) else (0, 0))) else (bif Nat.ble 186 n then (bif Nat.beq n 186 then (2, 58) else (0, 0)) else (bif Nat.beq n 185 then (20, 71) else (0, 0)))))) else (bif Nat.ble 175 n then (bif Nat.ble 180 n then (bif Nat.ble 182 n then (bif Nat.ble 183 n then (bif Nat.ble 184 n then (bif Nat.beq n 184 then (6, 71) else (0, 0)) else (bif Nat.beq n 183 then (2, 57) else (0, 0))) else (bif Nat.beq n 182 then (20, 70) else (0, 0))) else (bif Nat.ble 181 n then (bif Nat.beq n 181 then (6, 70) else (0, 0)) else (bif Nat.beq n 180 then (2, 56) else (0, 0)))) else (bif Nat.ble 177 n then (bif Nat.ble 178 n then (bif Nat.ble 179 n then (bif Nat.beq n 179 then (20, 69) else (0, 0)) else (bif Nat.beq n 178 then (6, 69) else (0, 0))) else (bif Nat.beq n 177 then (2, 55) else (0, 0))) else (bif Nat.ble 176 n then (bif Nat.beq n 176 then (20, 68) else (0, 0)) else (bif Nat.beq n 175 then (6, 68) else (0, 0))))) else (bif Nat.ble 170 n then (bif Nat.ble 172 n then (bif Nat.ble 173 n then (bif Nat.ble 174 n then (bif Nat.beq n 174 then (2, 54) else (0, 0)) else (bif Nat.beq n 173 then (20, 67) else (0, 0))) else (bif Nat.beq n 172 then (6, 67) else (0, 0))) else (bif Nat.ble 171 n then (bif Nat.beq n 171 then (2, 53) else (0, 0)) else (bif Nat.beq n 170 then (20, 66) else (0, 0)))) else (bif Nat.ble 167 n then (bif Nat.ble 168 n then (bif Nat.ble 169 n then (bif Nat.beq n 169 then (6, 66) else (0, 0)) else (bif Nat.beq n 168 then (2, 52) else (0, 0))) else (bif Nat.beq n 167 then (20, 65) else (0, 0))) else (bif Nat.ble 166 n then (bif Nat.beq n 166 then (6, 65) else (0, 0)) else (bif Nat.beq n 165 then (2, 51) else (0, 0))))))))) else (bif Nat.ble 82 n then (bif Nat.ble 123 n then (bif Nat.ble 144 n then (bif Nat.ble 154 n then (bif Nat.ble 159 n then (bif Nat.ble 162 n then (bif Nat.ble 163 n then (bif Nat.ble 164 n then (bif Nat.beq n 164 then (20, 64) else (0, 0)) else (bif Nat.beq n 163 then (6, 64) else (0, 0))) else (bif Nat.beq n 162 then (2, 50) else (0, 0))) else (bif Nat.ble 160 n then (bif Nat.ble 161 n then (bif Nat.beq n 161 then (20, 63) else (0, 0)) else (bif Nat.beq n 160 then (6, 63) else (0, 0))) else (bif Nat.beq n 159 then (2, 49) else (0, 0)))) else (bif Nat.ble 156 n then (bif Nat.ble 157 n then (bif Nat.ble 158 n then (bif Nat.beq n 158 then (20, 62) else (0, 0)) else (bif Nat.beq n 157 then (6, 62) else (0, 0))) else (bif Nat.beq n 156 then (2, 48) else (0, 0))) else (bif Nat.ble 155 n then (bif Nat.beq n 155 then (20, 61) else (0, 0)) else (bif Nat.beq n 154 then (6, 61) else (0, 0))))) else (bif Nat.ble 149 n then (bif Nat.ble 151 n then (bif Nat.ble 152 n then (bif Nat.ble 153 n then (bif Nat.beq n 153 then (2, 47) else (0, 0)) else (bif Nat.beq n 152 then (20, 60) else (0, 0))) else (bif Nat.beq n 151 then (6, 60) else (0, 0))) else (bif Nat.ble 150 n then (bif Nat.beq n 150 then (2, 46) else (0, 0)) else (bif Nat.beq n 149 then (20, 59) else (0, 0)))) else (bif Nat.ble 146 n then (bif Nat.ble 147 n then (bif Nat.ble 148 n then (bif Nat.beq n 148 then (6, 59) else (0, 0)) else (bif Nat.beq n 147 then (2, 45) else (0, 0))) else (bif Nat.beq n 146 then (20, 58) else (0, 0))) else (bif Nat.ble 145 n then (bif Nat.beq n 145 then (6, 58) else (0, 0)) else (bif Nat.beq n 144 then (2, 44) else (0, 0)))))) else (bif Nat.ble 133 n then (bif Nat.ble 138 n then (bif Nat.ble 141 n then (bif Nat.ble 142 n then (bif Nat.ble 143 n then (bif Nat.beq n 143 then (20, 57) else (0, 0)) else (bif Nat.beq n 142 then (6, 57) else (0, 0))) else (bif Nat.beq n 141 then (2, 43) else (0, 0))) else (bif Nat.ble 139 n then (bif Nat.ble 140 n then (bif Nat.beq n 140 then (20, 56) else (0, 0)) else (bif Nat.beq n 139 then (6, 56) else (0, 0))) else (bif Nat.beq n 138 then (2, 42) else (0, 0)))) else (bif Nat.ble 135 n then (bif Nat.ble 136 n then (bif Nat.ble 137 n then (bif Nat.beq n 137 then (20, 55) else (0, 0)) else (bif Nat.beq n 136 then (6, 55) else (0, 0))) else (bif Nat.beq n 135 then (2, 41) else (0, 0))) else (bif Nat.ble 134 n then (bif Nat.beq n 134 then (20, 54) else (0, 0)) else (bif Nat.beq n 133 then (6, 54) else (0, 0))))) else (bif Nat.ble 128 n then (bif Nat.ble 130 n then (bif Nat.ble 131 n then (bif Nat.ble 132 n then (bif Nat.beq n 132 then (2, 40) else (0, 0)) else (bif Nat.beq n 131 then (20, 3) else (0, 0))) else (bif Nat.beq n 130 then (6, 3) else (0, 0))) else (bif Nat.ble 129 n then (bif Nat.beq n 129 then (22, 1) else (0, 0)) else (bif Nat.beq n 128 then (4, 1) else (0, 0)))) else (bif Nat.ble 125 n then (bif Nat.ble 126 n then (bif Nat.ble 127 n then (bif Nat.beq n 127 then (20, 53) else (0, 0)) else (bif Nat.beq n 126 then (6, 53) else (0, 0))) else (bif Nat.beq n 125 then (2, 39) else (0, 0))) else (bif Nat.ble 124 n then (bif Nat.beq n 124 then (20, 52) else (0, 0)) else (bif Nat.beq n 123 then (6, 52) else (0, 0))))))) else (bif Nat.ble 102 n then (bif Nat.ble 112 n then (bif Nat.ble 117 n then (bif Nat.ble 120 n then (bif Nat.ble 121 n then (bif Nat.ble 122 n then (bif Nat.beq n 122 then (2, 38) else (0, 0)) else (bif Nat.beq n 121 then (20, 51) else (0, 0))) else (bif Nat.beq n 120 then (6, 51) else (0, 0))) else (bif Nat.ble 118 n then (bif Nat.ble 119 n then (bif Nat.beq n 119 then (2, 37) else (0, 0)) else (bif Nat.beq n 118 then (20, 50) else (0, 0))) else (bif Nat.beq n 117 then (6, 50) else (0, 0)))) else (bif Nat.ble 114 n then (bif Nat.ble 115 n then (bif Nat.ble 116 n then (bif Nat.beq n 116 then (2, 36) else (0, 0)) else (bif Nat.beq n 115 then (20, 49) else (0, 0))) else (bif Nat.beq n 114 then (6, 49) else (0, 0))) else (bif Nat.ble 113 n then (bif Nat.beq n 113 then (2, 35) else (0, 0)) else (bif Nat.beq n 112 then (20, 48) else (0, 0))))) else (bif Nat.ble 107 n then (bif Nat.ble 109 n then (bif Nat.ble 110 n then (bif Nat.ble 111 n then (bif Nat.beq n 111 then (6, 48) else (0, 0)) else (bif Nat.beq n 110 then (2, 34) else (0, 0))) else (bif Nat.beq n 109 then (20, 47) else (0, 0))) else (bif Nat.ble 108 n then (bif Nat.beq n 108 then (6, 47) else (0, 0)) else (bif Nat.beq n 107 then (2, 33) else (0, 0)))) else (bif Nat.ble 104 n then (bif Nat.ble 105 n then (bif Nat.ble 106 n then (bif Nat.beq n 106 then (20, 46) else (0, 0)) else (bif Nat.beq n 105 then (6, 46) else (0, 0))) else (bif Nat.beq n 104 then (2, 32) else (0, 0))) else (bif Nat.ble 103 n then (bif Nat.beq n 103 then (20, 45) else (0, 0)) else (bif Nat.beq n 102 then (6, 45) else (0, 0)))))) else (bif Nat.ble 92 n then (bif Nat.ble 97 n then (bif Nat.ble 99 n then (bif Nat.ble 100 n then (bif Nat.ble 101 n then (bif Nat.beq n 101 then (2, 31) else (0, 0)) else (bif Nat.beq n 100 then (20, 44) else (0, 0))) else (bif Nat.beq n 99 then (6, 44) else (0, 0))) else (bif Nat.ble 98 n then (bif Nat.beq n 98 then (2, 30) else (0, 0)) else (bif Nat.beq n 97 then (20, 43) else (0, 0)))) else (bif Nat.ble 94 n then (bif Nat.ble 95 n then (bif Nat.ble 96 n then (bif Nat.beq n 96 then (6, 43) else (0, 0)) else (bif Nat.beq n 95 then (2, 29) else (0, 0))) else (bif Nat.beq n 94 then (20, 42) else (0, 0))) else (bif Nat.ble 93 n then (bif Nat.beq n 93 then (6, 42) else (0, 0)) else (bif Nat.beq n 92 then (2, 28) else (0, 0))))) else (bif Nat.ble 87 n then (bif Nat.ble 89 n then (bif Nat.ble 90 n then (bif Nat.ble 91 n then (bif Nat.beq n 91 then (20, 41) else (0, 0)) else (bif Nat.beq n 90 then (6, 41) else (0, 0))) else (bif Nat.beq n 89 then (2, 27) else (0, 0))) else (bif Nat.ble 88 n then (bif Nat.beq n 88 then (20, 40) else (0, 0)) else (bif Nat.beq n 87 then (6, 40) else (0, 0)))) else (bif Nat.ble 84 n then (bif Nat.ble 85 n then (bif Nat.ble 86 n then (bif Nat.beq n 86 then (2, 26) else (0, 0)) else (bif Nat.beq n 85 then (20, 39) else (0, 0))) else (bif Nat.beq n 84 then (6, 39) else (0, 0))) else (bif Nat.ble 83 n then (bif Nat.beq n 83 then (2, 25) else (0, 0)) else (bif Nat.beq n 82 then (20, 38) else (0, 0)))))))) else (bif Nat.ble 41 n then (bif Nat.ble 61 n then (bif Nat.ble 71 n then (bif Nat.ble 76 n then (bif Nat.ble 79 n then (bif Nat.ble 80 n then (bif Nat.ble 81 n then (bif Nat.beq n 81 then (6, 38) else (0, 0)) else (bif Nat.beq n 80 then (2, 24) else (0, 0))) else (bif Nat.beq n 79 then (20, 37) else (0, 0))) else (bif Nat.ble 77 n then (bif Nat.ble 78 n then (bif Nat.beq n 78 then (6, 37) else (0, 0)) else (bif Nat.beq n 77 then (2, 23) else (0, 0))) else (bif Nat.beq n 76 then (20, 36) else (0, 0)))) else (bif Nat.ble 73 n then (bif Nat.ble 74 n then (bif Nat.ble 75 n then (bif Nat.beq n 75 then (6, 36) else (0, 0)) else (bif Nat.beq n 74 then (2, 22) else (0, 0))) else (bif Nat.beq n 73 then (20, 35) else (0, 0))) else (bif Nat.ble 72 n then (bif Nat.beq n 72 then (6, 35) else (0, 0)) else (bif Nat.beq n 71 then (2, 21) else (0, 0))))) else (bif Nat.ble 66 n then (bif Nat.ble 68 n then (bif Nat.ble 69 n then (bif Nat.ble 70 n then (bif Nat.beq n 70 then (20, 34) else (0, 0)) else (bif Nat.beq n 69 then (6, 34) else (0, 0))) else (bif Nat.beq n 68 then (2, 20) else (0, 0))) else (bif Nat.ble 67 n then (bif Nat.beq n 67 then (20, 33) else (0, 0)) else (bif Nat.beq n 66 then (6, 33) else (0, 0)))) else (bif Nat.ble 63 n then (bif Nat.ble 64 n then (bif Nat.ble 65 n then (bif Nat.beq n 65 then (2, 19) else (0, 0)) else (bif Nat.beq n 64 then (20, 32) else (0, 0))) else (bif Nat.beq n 63 then (6, 32) else (0, 0))) else (bif Nat.ble 62 n then (bif Nat.beq n 62 then (2, 18) else (0, 0)) else (bif Nat.beq n 61 then (20, 31) else (0, 0)))))) else (bif Nat.ble 51 n then (bif Nat.ble 56 n then (bif Nat.ble 58 n then (bif Nat.ble 59 n then (bif Nat.ble 60 n then (bif Nat.beq n 60 then (6, 31) else (0, 0)) else (bif Nat.beq n 59 then (2, 17) else (0, 0))) else (bif Nat.beq n 58 then (20, 30) else (0, 0))) else (bif Nat.ble 57 n then (bif Nat.beq n 57 then (6, 30) else (0, 0)) else (bif Nat.beq n 56 then (2, 16) else (0, 0)))) else (bif Nat.ble 53 n then (bif Nat.ble 54 n then (bif Nat.ble 55 n then (bif Nat.beq n 55 then (20, 29) else (0, 0)) else (bif Nat.beq n 54 then (6, 29) else (0, 0))) else (bif Nat.beq n 53 then (2, 15) else (0, 0))) else (bif Nat.ble 52 n then (bif Nat.beq n 52 then (20, 28) else (0, 0)) else (bif Nat.beq n 51 then (6, 28) else (0, 0))))) else (bif Nat.ble 46 n then (bif Nat.ble 48 n then (bif Nat.ble 49 n then (bif Nat.ble 50 n then (bif Nat.beq n 50 then (2, 14) else (0, 0)) else (bif Nat.beq n 49 then (20, 27) else (0, 0))) else (bif Nat.beq n 48 then (6, 27) else (0, 0))) else (bif Nat.ble 47 n then (bif Nat.beq n 47 then (2, 13) else (0, 0)) else (bif Nat.beq n 46 then (20, 26) else (0, 0)))) else (bif Nat.ble 43 n then (bif Nat.ble 44 n then (bif Nat.ble 45 n then (bif Nat.beq n 45 then (6, 26) else (0, 0)) else (bif Nat.beq n 44 then (2, 12) else (0, 0))) else (bif Nat.beq n 43 then (20, 25) else (0, 0))) else (bif Nat.ble 42 n then (bif Nat.beq n 42 then (6, 25) else (0, 0)) else (bif Nat.beq n 41 then (2, 11) else (0, 0))))))) else (bif Nat.ble 20 n then (bif Nat.ble 30 n then (bif Nat.ble 35 n then (bif Nat.ble 38 n then (bif Nat.ble 39 n then (bif Nat.ble 40 n then (bif Nat.beq n 40 then (20, 24) else (0, 0)) else (bif Nat.beq n 39 then (6, 24) else (0, 0))) else (bif Nat.beq n 38 then (2, 10) else (0, 0))) else (bif Nat.ble 36 n then (bif Nat.ble 37 n then (bif Nat.beq n 37 then (20, 23) else (0, 0)) else (bif Nat.beq n 36 then (6, 23) else (0, 0))) else (bif Nat.beq n 35 then (2, 9) else (0, 0)))) else (bif Nat.ble 32 n then (bif Nat.ble 33 n then (bif Nat.ble 34 n then (bif Nat.beq n 34 then (20, 22) else (0, 0)) else (bif Nat.beq n 33 then (6, 22) else (0, 0))) else (bif Nat.beq n 32 then (2, 8) else (0, 0))) else (bif Nat.ble 31 n then (bif Nat.beq n 31 then (20, 21) else (0, 0)) else (bif Nat.beq n 30 then (6, 21) else (0, 0))))) else (bif Nat.ble 25 n then (bif Nat.ble 27 n then (bif Nat.ble 28 n then (bif Nat.ble 29 n then (bif Nat.beq n 29 then (2, 7) else (0, 0)) else (bif Nat.beq n 28 then (20, 20) else (0, 0))) else (bif Nat.beq n 27 then (6, 20) else (0, 0))) else (bif Nat.ble 26 n then (bif Nat.beq n 26 then (2, 6) else (0, 0)) else (bif Nat.beq n 25 then (20, 19) else (0, 0)))) else (bif Nat.ble 22 n then (bif Nat.ble 23 n then (bif Nat.ble 24 n then (bif Nat.beq n 24 then (6, 19) else (0, 0)) else (bif Nat.beq n 23 then (2, 5) else (0, 0))) else (bif Nat.beq n 22 then (20, 18) else (0, 0))) else (bif Nat.ble 21 n then (bif Nat.beq n 21 then (6, 18) else (0, 0)) else (bif Nat.beq n 20 then (2, 4) else (0, 0)))))) else (bif Nat.ble 10 n then (bif Nat.ble 15 n then (bif Nat.ble 17 n then (bif Nat.ble 18 n then (bif Nat.ble 19 n then (bif Nat.beq n 19 then (20, 17) else (0, 0)) else (bif Nat.beq n 18 then (6, 17) else (0, 0))) else (bif Nat.beq n 17 then (2, 3) else (0, 0))) else (bif Nat.ble 16 n then (bif Nat.beq n 16 then (20, 16) else (0, 0)) else (bif Nat.beq n 15 then (6, 16) else (0, 0)))) else (bif Nat.ble 12 n then (bif Nat.ble 13 n then (bif Nat.ble 14 n then (bif Nat.beq n 14 then (2, 2) else (0, 0)) else (bif Nat.beq n 13 then (20, 15) else (0, 0))) else (bif Nat.beq n 12 then (6, 15) else (0, 0))) else (bif Nat.ble 11 n then (bif Nat.beq n 11 then (2, 1) else (0, 0)) else (bif Nat.beq n 10 then (20, 14) else (0, 0))))) else (bif Nat.ble 5 n then (bif Nat.ble 7 n then (bif Nat.ble 8 n then (bif Nat.ble 9 n then (bif Nat.beq n 9 then (6, 14) else (0, 0)) else (bif Nat.beq n 8 then (2, 0) else (0, 0))) else (bif Nat.beq n 7 then (20, 2) else (0, 0))) else (bif Nat.ble 6 n then (bif Nat.beq n 6 then (6, 2) else (0, 0)) else (bif Nat.beq n 5 then (22, 0) else (0, 0)))) else (bif Nat.ble 2 n then (bif Nat.ble 3 n then (bif Nat.ble 4 n then (bif Nat.beq n 4 then (4, 0) else (0, 0)) else (bif Nat.beq n 3 then (27, 2) else (0, 0))) else (bif Nat.beq n 2 then (9, 0) else (0, 0))) else (bif Nat.ble 1 n then (bif Nat.beq n 1 then (8, 0) else (0, 0)) else (bif Nat.beq n 0 then (10, 0) else (0, 0)))))))))
def sl_ad (base b c i : Nat) : Nat := bif c == 41 then b else base + sl_od c i
theorem sl_ct_le {c : Nat} (h : sl_ct c ≠ 0) : c < 74 := by
  rcases Nat.lt_or_ge c 74 with q | q
  · exact q
  · refine absurd ?_ h
    unfold sl_ct
    split <;> first | rfl | omega
theorem sl_sq_od : ∀ c, c < 74 → c ≠ 41 → ∀ i, i < sl_ct c → sl_sq (sl_od c i) = (c, i) ∧ sl_od c i < 331 := by decide +kernel
theorem sl_ct_in {c : Nat} (h : sl_ct c ≠ 0) : c = 1 ∨ c = 2 ∨ c = 3 ∨ c = 4 ∨ c = 5 ∨ c = 6 ∨ c = 7 ∨ c = 8 ∨ c = 9 ∨ c = 10 ∨ c = 11 ∨ c = 20 ∨ c = 22 ∨ c = 23 ∨ c = 24 ∨ c = 25 ∨ c = 26 ∨ c = 27 ∨ c = 30 ∨ c = 40 ∨ c = 41 ∨ c = 50 ∨ c = 51 ∨ c = 52 ∨ c = 53 ∨ c = 54 ∨ c = 55 ∨ c = 56 ∨ c = 57 ∨ c = 58 ∨ c = 59 ∨ c = 60 ∨ c = 61 ∨ c = 62 ∨ c = 63 ∨ c = 64 ∨ c = 65 ∨ c = 66 ∨ c = 67 ∨ c = 68 ∨ c = 70 ∨ c = 71 ∨ c = 72 ∨ c = 73 := by
  unfold sl_ct at h
  split at h <;> first | exact absurd rfl h | simp
def sl_VS (_ : sl_M) (q : Nat × Nat) : Prop := q.2 < sl_ct q.1
theorem sl_ap {base b : Nat} (hb : b < base) {q r : Nat × Nat} (hq : q.2 < sl_ct q.1) (hr : r.2 < sl_ct r.1) (h : sl_ad base b q.1 q.2 = sl_ad base b r.1 r.2) : q = r := by
  obtain ⟨c, i⟩ := q
  obtain ⟨c1, i1⟩ := r
  dsimp only at hq hr h
  have hc : c < 74 := sl_ct_le (by omega)
  have hc1 : c1 < 74 := sl_ct_le (by omega)
  unfold sl_ad at h
  cases e : (c == 41) with
  | true =>
    cases e1 : (c1 == 41) with
    | true =>
      have z := eq_of_beq e
      have z1 := eq_of_beq e1
      subst z; subst z1
      have y : sl_ct 41 = 1 := rfl
      rw [y] at hq hr
      rw [show i = 0 by omega, show i1 = 0 by omega]
    | false => rw [e, e1] at h; dsimp only [cond] at h; omega
  | false =>
    cases e1 : (c1 == 41) with
    | true => rw [e, e1] at h; dsimp only [cond] at h; omega
    | false =>
      rw [e, e1] at h; dsimp only [cond] at h
      have h1 := (sl_sq_od c hc (by simpa using e) i hq).1
      have h2 := (sl_sq_od c1 hc1 (by simpa using e1) i1 hr).1
      rw [show sl_od c i = sl_od c1 i1 by omega] at h1
      exact h1.symm.trans h2
theorem sl_up_at (m : sl_M) (c i k : Nat) (x : Int32) (c1 i1 k1 : Nat) : (sl_up m c i k x).1 c1 i1 k1 = if c1 = c ∧ i1 = i ∧ k1 = k then x else m.1 c1 i1 k1 := by
  show (bif c1 == c && sl_hit c i k i1 k1 then x else m.1 c1 i1 k1) = _
  by_cases h1 : c1 = c
  · by_cases h2 : i1 = i
    · by_cases h3 : k1 = k
      · cases h4 : (c == 30) <;> simp [sl_hit, h1, h2, h3, h4]
      · have b3 : (k1 == k) = false := beq_eq_false_iff_ne.mpr h3
        cases h4 : (c == 30) <;> simp [sl_hit, h1, h2, h3, b3, h4]
    · have b2 : (i1 == i) = false := beq_eq_false_iff_ne.mpr h2
      cases h4 : (c == 30) <;> simp [sl_hit, h1, h2, b2, h4]
  · have b1 : (c1 == c) = false := beq_eq_false_iff_ne.mpr h1
    simp [h1, b1]
theorem sl_up_2 (m : sl_M) (c i k : Nat) (x : Int32) : (sl_up m c i k x).2 = m.2 := rfl
theorem sl_rdc1 {m m1 : sl_M} {i k : Nat} (h : m1.1 1 i k = m.1 1 i k) : sl_rd1 m1 i k = sl_rd1 m i k := by
  unfold sl_rd1
  split <;> first | rfl | rw [h]
theorem sl_rdc2 {m m1 : sl_M} {i k : Nat} (h : m1.1 2 i k = m.1 2 i k) : sl_rd2 m1 i k = sl_rd2 m i k := by
  unfold sl_rd2
  split <;> first | rfl | rw [h]
theorem sl_rdc3 {m m1 : sl_M} {i k : Nat} (h : m1.1 3 i k = m.1 3 i k) : sl_rd3 m1 i k = sl_rd3 m i k := by
  unfold sl_rd3
  split <;> first | rfl | rw [h]
theorem sl_rdc4 {m m1 : sl_M} {i k : Nat} (h : m1.1 4 i k = m.1 4 i k) : sl_rd4 m1 i k = sl_rd4 m i k := by
  unfold sl_rd4
  split <;> first | rfl | rw [h]
theorem sl_rdc5 {m m1 : sl_M} {i k : Nat} (h : m1.1 5 i k = m.1 5 i k) : sl_rd5 m1 i k = sl_rd5 m i k := by
  unfold sl_rd5
  split <;> first | rfl | rw [h]
theorem sl_rdc6 {m m1 : sl_M} {i k : Nat} (h : m1.1 6 i k = m.1 6 i k) : sl_rd6 m1 i k = sl_rd6 m i k := by
  unfold sl_rd6
  split <;> first | rfl | rw [h]
theorem sl_rdc7 {m m1 : sl_M} {i k : Nat} (h : m1.1 7 i k = m.1 7 i k) : sl_rd7 m1 i k = sl_rd7 m i k := by
  unfold sl_rd7
  split <;> first | rfl | rw [h]
theorem sl_rdc8 {m m1 : sl_M} {i k : Nat} (h : m1.1 8 i k = m.1 8 i k) : sl_rd8 m1 i k = sl_rd8 m i k := by
  unfold sl_rd8
  split <;> first | rfl | rw [h]
theorem sl_rdc9 {m m1 : sl_M} {i k : Nat} (h : m1.1 9 i k = m.1 9 i k) : sl_rd9 m1 i k = sl_rd9 m i k := by
  unfold sl_rd9
  split <;> first | rfl | rw [h]
theorem sl_rdc10 {m m1 : sl_M} {i k : Nat} (h : m1.1 10 i k = m.1 10 i k) : sl_rd10 m1 i k = sl_rd10 m i k := by
  unfold sl_rd10
  split <;> first | rfl | rw [h]
theorem sl_rdc11 {m m1 : sl_M} {i k : Nat} (h : m1.1 11 i k = m.1 11 i k) : sl_rd11 m1 i k = sl_rd11 m i k := by
  unfold sl_rd11
  split <;> first | rfl | rw [h]
theorem sl_rdc {m m1 : sl_M} {c i k : Nat} (h : m1.1 c i k = m.1 c i k) (h2 : c = 40 → m1.2 = m.2) : sl_rd m1 c i k = sl_rd m c i k := by
  unfold sl_rd
  cases Nat.ble 70 c with
  | true => rw [cond_true, cond_true, h]
  | false =>
    cases Nat.ble 50 c with
    | true => rw [cond_false, cond_false, cond_true, cond_true, h]
    | false =>
      rw [cond_false, cond_false, cond_false, cond_false]
      split <;> first
        | exact sl_rdc1 h
        | exact sl_rdc2 h
        | exact sl_rdc3 h
        | exact sl_rdc4 h
        | exact sl_rdc5 h
        | exact sl_rdc6 h
        | exact sl_rdc7 h
        | exact sl_rdc8 h
        | exact sl_rdc9 h
        | exact sl_rdc10 h
        | exact sl_rdc11 h
        | rw [h]
        | rw [h2 rfl]
        | rfl
theorem sl_rdw {m : sl_M} {c i k : Nat} {x : Int32} (hc : i < sl_ct c) (hw : sl_wk c k = true) : sl_rd (sl_up m c i k x) c i k = sl_nf c (.inl x) := by
  have hx : (sl_up m c i k x).1 c i k = x := by rw [sl_up_at]; simp
  have hcc := sl_ct_in (c := c) (by omega)
  rcases hcc with rfl | rfl | rfl | rfl | rfl | rfl | rfl | rfl | rfl | rfl | rfl | rfl | rfl | rfl | rfl | rfl | rfl | rfl | rfl | rfl | rfl | rfl | rfl | rfl | rfl | rfl | rfl | rfl | rfl | rfl | rfl | rfl | rfl | rfl | rfl | rfl | rfl | rfl | rfl | rfl | rfl | rfl | rfl | rfl
  · have hk : k = 5 := by
      have hw : (k == 5) = true := hw
      simp only [Bool.or_eq_true, beq_iff_eq] at hw
      omega
    subst hk
    show Sum.inl _ = _
    rw [hx]; rfl
  · have hk : k = 1 ∨ k = 2 ∨ k = 3 ∨ k = 4 := by
      have hw : (k == 1 || k == 2 || k == 3 || k == 4) = true := hw
      simp only [Bool.or_eq_true, beq_iff_eq] at hw
      omega
    rcases hk with rfl | rfl | rfl | rfl <;> (show Sum.inl _ = _; rw [hx]; rfl)
  · have hk : k = 0 ∨ k = 1 := by
      have hw : (k == 0 || k == 1) = true := hw
      simp only [Bool.or_eq_true, beq_iff_eq] at hw
      omega
    rcases hk with rfl | rfl <;> (show Sum.inl _ = _; rw [hx]; rfl)
  · have hk : k = 3 ∨ k = 4 := by
      have hw : (k == 3 || k == 4) = true := hw
      simp only [Bool.or_eq_true, beq_iff_eq] at hw
      omega
    rcases hk with rfl | rfl <;> (show Sum.inl _ = _; rw [hx]; rfl)
  · have hk : k = 4 := by
      have hw : (k == 4) = true := hw
      simp only [Bool.or_eq_true, beq_iff_eq] at hw
      omega
    subst hk
    show Sum.inl _ = _
    rw [hx]; rfl
  · have hk : k = 1 := by
      have hw : (k == 1) = true := hw
      simp only [Bool.or_eq_true, beq_iff_eq] at hw
      omega
    subst hk
    show Sum.inl _ = _
    rw [hx]; rfl
  · have hk : k = 4 ∨ k = 5 ∨ k = 6 ∨ k = 7 ∨ k = 8 := by
      have hw : (k == 4 || k == 5 || k == 6 || k == 7 || k == 8) = true := hw
      simp only [Bool.or_eq_true, beq_iff_eq] at hw
      omega
    rcases hk with rfl | rfl | rfl | rfl | rfl <;> (show Sum.inl _ = _; rw [hx]; rfl)
  · have hk : k = 0 ∨ k = 1 ∨ k = 2 ∨ k = 3 ∨ k = 4 := by
      have hw : (k == 0 || k == 1 || k == 2 || k == 3 || k == 4) = true := hw
      simp only [Bool.or_eq_true, beq_iff_eq] at hw
      omega
    rcases hk with rfl | rfl | rfl | rfl | rfl <;> (show Sum.inl _ = _; rw [hx]; rfl)
  · cases hw
  · cases hw
  · have hk : k = 0 ∨ k = 2 ∨ k = 4 ∨ k = 6 ∨ k = 7 ∨ k = 9 ∨ k = 10 ∨ k = 11 ∨ k = 12 ∨ k = 13 := by
      have hw : (k == 0 || k == 2 || k == 4 || k == 6 || k == 7 || k == 9 || k == 10 || k == 11 || k == 12 || k == 13) = true := hw
      simp only [Bool.or_eq_true, beq_iff_eq] at hw
      omega
    rcases hk with rfl | rfl | rfl | rfl | rfl | rfl | rfl | rfl | rfl | rfl <;> (show Sum.inl _ = _; rw [hx]; rfl)
  · show Sum.inl (sl_sx _) = _
    rw [hx]; rfl
  · cases hw
  · show Sum.inl _ = _
    rw [hx]; rfl
  · show Sum.inl _ = _
    rw [hx]; rfl
  · show Sum.inl _ = _
    rw [hx]; rfl
  · show Sum.inl (_ &&& 1) = _
    rw [hx]; rfl
  · show Sum.inl _ = _
    rw [hx]; rfl
  · show Sum.inl (sl_sx _) = _
    rw [hx]; rfl
  · cases hw
  · cases hw
  · show Sum.inl _ = _
    rw [hx]; rfl
  · show Sum.inl _ = _
    rw [hx]; rfl
  · show Sum.inl _ = _
    rw [hx]; rfl
  · show Sum.inl _ = _
    rw [hx]; rfl
  · show Sum.inl _ = _
    rw [hx]; rfl
  · show Sum.inl _ = _
    rw [hx]; rfl
  · show Sum.inl _ = _
    rw [hx]; rfl
  · show Sum.inl _ = _
    rw [hx]; rfl
  · show Sum.inl _ = _
    rw [hx]; rfl
  · show Sum.inl _ = _
    rw [hx]; rfl
  · show Sum.inl _ = _
    rw [hx]; rfl
  · show Sum.inl _ = _
    rw [hx]; rfl
  · show Sum.inl _ = _
    rw [hx]; rfl
  · show Sum.inl _ = _
    rw [hx]; rfl
  · show Sum.inl _ = _
    rw [hx]; rfl
  · show Sum.inl _ = _
    rw [hx]; rfl
  · show Sum.inl _ = _
    rw [hx]; rfl
  · show Sum.inl _ = _
    rw [hx]; rfl
  · show Sum.inl _ = _
    rw [hx]; rfl
  · show Sum.inl (_ &&& 1) = _
    rw [hx]; rfl
  · show Sum.inl (_ &&& 1) = _
    rw [hx]; rfl
  · show Sum.inl (_ &&& 1) = _
    rw [hx]; rfl
  · show Sum.inl (_ &&& 1) = _
    rw [hx]; rfl
theorem sl_rdr {m : sl_M} {c i k : Nat} {q : Nat × Nat} (hc : i < sl_ct c) (hk : 20 ≤ c → k < sl_ln c i) (h : sl_rd m c i k = .inr (.inl (some q))) : q.2 < sl_ct q.1 := by
  have hcc := sl_ct_in (c := c) (by omega)
  rcases hcc with rfl | rfl | rfl | rfl | rfl | rfl | rfl | rfl | rfl | rfl | rfl | rfl | rfl | rfl | rfl | rfl | rfl | rfl | rfl | rfl | rfl | rfl | rfl | rfl | rfl | rfl | rfl | rfl | rfl | rfl | rfl | rfl | rfl | rfl | rfl | rfl | rfl | rfl | rfl | rfl | rfl | rfl | rfl | rfl
  · have h : sl_rd1 m i k = .inr (.inl (some q)) := h
    unfold sl_rd1 at h
    split at h <;> first | (cases h; done) | (cases h; dsimp only; first | decide | (have e1 : sl_ct 1 = 2 := rfl; rw [e1] at hc; first | exact hc | (show _ < 94; omega) | (show _ < 3; omega) | (show _ < 2; omega)))
  · have h : sl_rd2 m i k = .inr (.inl (some q)) := h
    unfold sl_rd2 at h
    split at h <;> first | (cases h; done) | (cases h; dsimp only; first | decide | (have e1 : sl_ct 2 = 80 := rfl; rw [e1] at hc; first | exact hc | (show _ < 94; omega) | (show _ < 3; omega) | (show _ < 2; omega)))
  · have h : sl_rd3 m i k = .inr (.inl (some q)) := h
    unfold sl_rd3 at h
    split at h <;> first | (cases h; done) | (cases h; dsimp only; first | decide | (have e1 : sl_ct 3 = 3 := rfl; rw [e1] at hc; first | exact hc | (show _ < 94; omega) | (show _ < 3; omega) | (show _ < 2; omega)))
  · have h : sl_rd4 m i k = .inr (.inl (some q)) := h
    unfold sl_rd4 at h
    split at h <;> first | (cases h; done) | (cases h; dsimp only; first | decide | (have e1 : sl_ct 4 = 2 := rfl; rw [e1] at hc; first | exact hc | (show _ < 94; omega) | (show _ < 3; omega) | (show _ < 2; omega)))
  · have h : sl_rd5 m i k = .inr (.inl (some q)) := h
    unfold sl_rd5 at h
    split at h <;> first | (cases h; done) | (cases h; dsimp only; first | decide | (have e1 : sl_ct 5 = 2 := rfl; rw [e1] at hc; first | exact hc | (show _ < 94; omega) | (show _ < 3; omega) | (show _ < 2; omega)))
  · have h : sl_rd6 m i k = .inr (.inl (some q)) := h
    unfold sl_rd6 at h
    split at h <;> first | (cases h; done) | (cases h; dsimp only; first | decide | (have e1 : sl_ct 6 = 94 := rfl; rw [e1] at hc; first | exact hc | (show _ < 94; omega) | (show _ < 3; omega) | (show _ < 2; omega)))
  · have h : sl_rd7 m i k = .inr (.inl (some q)) := h
    unfold sl_rd7 at h
    split at h <;> first | (cases h; done) | (cases h; dsimp only; first | decide | (have e1 : sl_ct 7 = 2 := rfl; rw [e1] at hc; first | exact hc | (show _ < 94; omega) | (show _ < 3; omega) | (show _ < 2; omega)))
  · have h : sl_rd8 m i k = .inr (.inl (some q)) := h
    unfold sl_rd8 at h
    split at h <;> first | (cases h; done) | (cases h; dsimp only; first | decide | (have e1 : sl_ct 8 = 1 := rfl; rw [e1] at hc; first | exact hc | (show _ < 94; omega) | (show _ < 3; omega) | (show _ < 2; omega)))
  · have h : sl_rd9 m i k = .inr (.inl (some q)) := h
    unfold sl_rd9 at h
    split at h <;> first | (cases h; done) | (cases h; dsimp only; first | decide | (have e1 : sl_ct 9 = 1 := rfl; rw [e1] at hc; first | exact hc | (show _ < 94; omega) | (show _ < 3; omega) | (show _ < 2; omega)))
  · have h : sl_rd10 m i k = .inr (.inl (some q)) := h
    unfold sl_rd10 at h
    split at h <;> first | (cases h; done) | (cases h; dsimp only; first | decide | (have e1 : sl_ct 10 = 1 := rfl; rw [e1] at hc; first | exact hc | (show _ < 94; omega) | (show _ < 3; omega) | (show _ < 2; omega)))
  · have h : sl_rd11 m i k = .inr (.inl (some q)) := h
    unfold sl_rd11 at h
    split at h <;> first | (cases h; done) | (cases h; dsimp only; first | decide | (have e1 : sl_ct 11 = 1 := rfl; rw [e1] at hc; first | exact hc | (show _ < 94; omega) | (show _ < 3; omega) | (show _ < 2; omega)))
  · cases h
  · have h : (Sum.inr (Sum.inl (some (2, 40 * i + k))) : sl_V) = .inr (.inl (some q)) := h
    cases h
    have e1 : sl_ct 22 = 2 := rfl
    have e2 : sl_ln 22 i = 40 := rfl
    have hk := hk (by omega)
    rw [e1] at hc; rw [e2] at hk
    show _ < 80
    omega
  · cases h
  · cases h
  · cases h
  · cases h
  · cases h
  · cases h
  · cases h
  · cases h
  · cases h
  · cases h
  · cases h
  · cases h
  · cases h
  · cases h
  · cases h
  · cases h
  · cases h
  · cases h
  · cases h
  · cases h
  · cases h
  · cases h
  · cases h
  · cases h
  · cases h
  · cases h
  · cases h
  · cases h
  · cases h
  · cases h
  · cases h
def sl_MS (_ : sl_M) : Prop := True
def sl_cS (_ : sl_M) : Nat := 331
def sl_sS (_ : sl_M) : Nat := 0
theorem sl_wr_in {m m1 : sl_M} {c i k : Nat} {v : sl_V} (h : sl_wr m c i k v = some m1) : (∃ x, v = .inl x ∧ sl_wk c k = true ∧ m1 = sl_up m c i k x) ∨ (∃ y, v = .inr (.inr y) ∧ c = 40 ∧ m1 = sl_u2 m y) := by
  unfold sl_wr at h
  split at h
  · rename_i x
    cases hw : sl_wk c k with
    | false => rw [hw] at h; cases h
    | true => rw [hw] at h; exact Or.inl ⟨x, rfl, rfl, (Option.some.inj h).symm⟩
  · rename_i y
    cases hw : (c == 40) with
    | false => rw [hw] at h; cases h
    | true => rw [hw] at h; exact Or.inr ⟨y, rfl, eq_of_beq hw, (Option.some.inj h).symm⟩
  · cases h
theorem sl_wk41 (k : Nat) : sl_wk 41 k = false := rfl
theorem sl_memS {base b : Nat} (hb : b < base) : sl_Mem (sl_ad base b) base 331 sl_ln sl_rd sl_VS sl_cS sl_wr sl_al sl_MS sl_sS := by
  refine ⟨fun m c i k v m1 hw hv hq hI hc => ?_, fun m c i k q hv _ hk h => sl_rdr hv hk h, fun m q r hq hr h => sl_ap hb hq hr h, fun m t x q m1 h => by cases h⟩
  have hv : i < sl_ct c := hv
  rcases sl_wr_in hw with ⟨x, rfl, hwk, rfl⟩ | ⟨y, rfl, rfl, rfl⟩
  · refine ⟨trivial, rfl, rfl, fun _ => Iff.rfl, ?_, fun c1 i1 _ hne => ?_, fun k1 => ?_⟩
    · unfold sl_ad
      cases e : (c == 41) with
      | true => rw [eq_of_beq e, sl_wk41] at hwk; cases hwk
      | false => exact Nat.le_add_right _ _
    · funext k1
      refine sl_rdc ?_ (fun _ => rfl)
      rw [sl_up_at, if_neg]
      rintro ⟨rfl, rfl, -⟩
      exact hne rfl
    · intro _
      by_cases hk : k1 = k
      · subst hk
        rw [if_pos rfl]
        exact sl_rdw hv hwk
      · rw [if_neg hk]
        refine sl_rdc ?_ (fun _ => rfl)
        rw [sl_up_at, if_neg]
        rintro ⟨-, -, h⟩
        exact hk h
  · refine ⟨trivial, rfl, rfl, fun _ => Iff.rfl, Nat.le_add_right _ _, fun c1 i1 h1 hne => ?_, fun k1 => ?_⟩
    · funext k1
      refine sl_rdc rfl (fun h => ?_)
      subst h
      have h1 : i1 < 1 := h1
      have hv : i < 1 := hv
      exact absurd (by rw [show i1 = 0 by omega, show i = 0 by omega]) hne
    · intro hk
      have hk := hk (by omega)
      have e2 : sl_ln 40 i = 1 := rfl
      rw [e2] at hk
      rw [if_pos (by omega)]
      rfl
theorem sl_moS : sl_Mo sl_wr sl_al sl_cS sl_sS := ⟨fun _ _ _ _ _ _ _ => ⟨rfl, rfl⟩, fun _ _ _ _ _ h => by cases h⟩
