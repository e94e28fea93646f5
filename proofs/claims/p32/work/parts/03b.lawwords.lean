def wl_in (big ws : List Cond) : Prop := ∀ w ∈ ws, w ∈ big
theorem wl_c {big : List Cond} {w : Cond} {ws : List Cond} (i : Nat) (h : big[i]? = some w) (k : wl_in big ws) : wl_in big (w :: ws) := fun x hx => by
  rcases List.mem_cons.mp hx with e | hx
  · rw [e]; exact List.mem_of_getElem? h
  · exact k x hx
theorem wl_n {big : List Cond} : wl_in big [] := fun x hx => by cases hx
set_option maxRecDepth 20000 in
theorem wsL_law0_r1_in : wl_in lw_tbl wsL_law0_r1 := wl_c 15 rfl (wl_c 16 rfl (wl_c 5 rfl (wl_c 50 rfl (wl_c 453 rfl (wl_c 405 rfl (wl_c 454 rfl (wl_c 455 rfl (wl_c 17 rfl (wl_c 18 rfl (wl_c 19 rfl (wl_c 20 rfl (wl_c 21 rfl (wl_c 22 rfl (wl_c 23 rfl (wl_c 24 rfl (wl_c 6 rfl (wl_c 58 rfl (wl_c 59 rfl (wl_c 60 rfl (wl_c 61 rfl (wl_c 62 rfl (wl_c 25 rfl (wl_c 26 rfl (wl_n))))))))))))))))))))))))
set_option maxRecDepth 20000 in
theorem wsL_law0_r2_in : wl_in lw_tbl wsL_law0_r2 := wl_c 27 rfl (wl_c 28 rfl (wl_c 32 rfl (wl_c 34 rfl (wl_c 35 rfl (wl_c 36 rfl (wl_c 51 rfl (wl_c 52 rfl (wl_c 53 rfl (wl_c 54 rfl (wl_c 29 rfl (wl_c 30 rfl (wl_c 56 rfl (wl_c 57 rfl (wl_c 450 rfl (wl_c 451 rfl (wl_c 4 rfl (wl_c 452 rfl (wl_c 391 rfl (wl_c 392 rfl (wl_c 7 rfl (wl_c 400 rfl (wl_c 402 rfl (wl_c 380 rfl (wl_n))))))))))))))))))))))))
set_option maxRecDepth 20000 in
theorem wsL_law0_r3_in : wl_in lw_tbl wsL_law0_r3 := wl_c 381 rfl (wl_c 382 rfl (wl_c 383 rfl (wl_c 387 rfl (wl_c 388 rfl (wl_c 389 rfl (wl_c 390 rfl (wl_c 393 rfl (wl_c 394 rfl (wl_c 395 rfl (wl_c 396 rfl (wl_c 403 rfl (wl_c 399 rfl (wl_c 401 rfl (wl_c 309 rfl (wl_c 407 rfl (wl_c 397 rfl (wl_c 424 rfl (wl_c 409 rfl (wl_c 425 rfl (wl_c 426 rfl (wl_c 427 rfl (wl_c 428 rfl (wl_c 78 rfl (wl_n))))))))))))))))))))))))
set_option maxRecDepth 20000 in
theorem wsL_law0_r4_in : wl_in lw_tbl wsL_law0_r4 := wl_c 11 rfl (wl_c 429 rfl (wl_c 430 rfl (wl_c 431 rfl (wl_c 384 rfl (wl_c 385 rfl (wl_c 386 rfl (wl_c 404 rfl (wl_c 410 rfl (wl_c 408 rfl (wl_c 433 rfl (wl_c 434 rfl (wl_c 435 rfl (wl_c 436 rfl (wl_c 178 rfl (wl_c 12 rfl (wl_c 31 rfl (wl_c 174 rfl (wl_c 176 rfl (wl_c 3 rfl (wl_c 177 rfl (wl_c 194 rfl (wl_c 437 rfl (wl_c 438 rfl (wl_n))))))))))))))))))))))))
set_option maxRecDepth 20000 in
theorem wsL_law0_r5_in : wl_in lw_tbl wsL_law0_r5 := wl_c 439 rfl (wl_c 440 rfl (wl_c 33 rfl (wl_c 305 rfl (wl_c 306 rfl (wl_c 307 rfl (wl_c 308 rfl (wl_c 311 rfl (wl_c 312 rfl (wl_c 313 rfl (wl_c 314 rfl (wl_c 315 rfl (wl_c 316 rfl (wl_c 317 rfl (wl_c 318 rfl (wl_c 319 rfl (wl_c 320 rfl (wl_c 321 rfl (wl_c 322 rfl (wl_c 74 rfl (wl_c 75 rfl (wl_c 76 rfl (wl_c 77 rfl (wl_c 145 rfl (wl_n))))))))))))))))))))))))
set_option maxRecDepth 20000 in
theorem wsL_law0_r6_in : wl_in lw_tbl wsL_law0_r6 := wl_c 146 rfl (wl_c 147 rfl (wl_c 148 rfl (wl_c 149 rfl (wl_c 150 rfl (wl_c 151 rfl (wl_c 152 rfl (wl_c 153 rfl (wl_c 155 rfl (wl_c 1 rfl (wl_c 156 rfl (wl_c 157 rfl (wl_c 158 rfl (wl_c 159 rfl (wl_c 160 rfl (wl_c 162 rfl (wl_c 2 rfl (wl_c 163 rfl (wl_c 164 rfl (wl_c 165 rfl (wl_c 13 rfl (wl_c 166 rfl (wl_c 167 rfl (wl_c 168 rfl (wl_n))))))))))))))))))))))))
set_option maxRecDepth 20000 in
theorem wsL_law0_r7_in : wl_in lw_tbl wsL_law0_r7 := wl_c 169 rfl (wl_c 442 rfl (wl_c 443 rfl (wl_c 444 rfl (wl_c 445 rfl (wl_c 210 rfl (wl_c 211 rfl (wl_c 212 rfl (wl_c 213 rfl (wl_c 214 rfl (wl_c 215 rfl (wl_c 195 rfl (wl_c 196 rfl (wl_c 197 rfl (wl_c 198 rfl (wl_c 199 rfl (wl_c 200 rfl (wl_c 201 rfl (wl_c 446 rfl (wl_c 447 rfl (wl_c 448 rfl (wl_c 449 rfl (wl_c 224 rfl (wl_c 225 rfl (wl_n))))))))))))))))))))))))
set_option maxRecDepth 20000 in
theorem wsL_law0_r8_in : wl_in lw_tbl wsL_law0_r8 := wl_c 226 rfl (wl_c 227 rfl (wl_c 228 rfl (wl_c 229 rfl (wl_c 230 rfl (wl_c 231 rfl (wl_c 244 rfl (wl_c 245 rfl (wl_c 246 rfl (wl_c 247 rfl (wl_c 249 rfl (wl_c 250 rfl (wl_c 251 rfl (wl_c 252 rfl (wl_c 253 rfl (wl_c 221 rfl (wl_c 222 rfl (wl_c 223 rfl (wl_c 254 rfl (wl_c 170 rfl (wl_c 171 rfl (wl_c 172 rfl (wl_c 173 rfl (wl_c 206 rfl (wl_n))))))))))))))))))))))))
set_option maxRecDepth 20000 in
theorem wsL_law0_r9_in : wl_in lw_tbl wsL_law0_r9 := wl_c 207 rfl (wl_c 208 rfl (wl_c 209 rfl (wl_c 217 rfl (wl_c 218 rfl (wl_c 219 rfl (wl_c 220 rfl (wl_c 236 rfl (wl_c 237 rfl (wl_c 238 rfl (wl_c 239 rfl (wl_c 202 rfl (wl_c 203 rfl (wl_c 204 rfl (wl_c 205 rfl (wl_c 232 rfl (wl_c 233 rfl (wl_c 234 rfl (wl_c 235 rfl (wl_c 240 rfl (wl_c 241 rfl (wl_c 242 rfl (wl_c 243 rfl (wl_c 289 rfl (wl_n))))))))))))))))))))))))
set_option maxRecDepth 20000 in
theorem wsL_law0_r10_in : wl_in lw_tbl wsL_law0_r10 := wl_c 290 rfl (wl_c 291 rfl (wl_c 292 rfl (wl_c 301 rfl (wl_c 302 rfl (wl_c 303 rfl (wl_c 304 rfl (wl_c 255 rfl (wl_c 256 rfl (wl_c 257 rfl (wl_c 258 rfl (wl_c 259 rfl (wl_c 260 rfl (wl_c 261 rfl (wl_c 262 rfl (wl_c 263 rfl (wl_c 264 rfl (wl_c 265 rfl (wl_c 267 rfl (wl_c 268 rfl (wl_c 269 rfl (wl_c 270 rfl (wl_c 271 rfl (wl_c 272 rfl (wl_n))))))))))))))))))))))))
set_option maxRecDepth 20000 in
theorem wsL_law0_r11_in : wl_in lw_tbl wsL_law0_r11 := wl_c 273 rfl (wl_c 274 rfl (wl_c 275 rfl (wl_c 276 rfl (wl_c 14 rfl (wl_c 277 rfl (wl_c 293 rfl (wl_c 294 rfl (wl_c 295 rfl (wl_c 296 rfl (wl_c 297 rfl (wl_c 298 rfl (wl_c 299 rfl (wl_c 300 rfl (wl_c 278 rfl (wl_c 279 rfl (wl_c 280 rfl (wl_c 281 rfl (wl_c 282 rfl (wl_c 283 rfl (wl_c 284 rfl (wl_c 285 rfl (wl_c 286 rfl (wl_c 287 rfl (wl_n))))))))))))))))))))))))
set_option maxRecDepth 20000 in
theorem wsL_law0_r12_in : wl_in lw_tbl wsL_law0_r12 := wl_c 288 rfl (wl_c 323 rfl (wl_c 324 rfl (wl_c 325 rfl (wl_c 326 rfl (wl_c 406 rfl (wl_c 338 rfl (wl_c 327 rfl (wl_c 328 rfl (wl_c 329 rfl (wl_c 330 rfl (wl_c 331 rfl (wl_c 332 rfl (wl_c 333 rfl (wl_c 334 rfl (wl_c 335 rfl (wl_c 336 rfl (wl_c 337 rfl (wl_c 339 rfl (wl_c 340 rfl (wl_c 341 rfl (wl_c 342 rfl (wl_c 343 rfl (wl_c 344 rfl (wl_n))))))))))))))))))))))))
set_option maxRecDepth 20000 in
theorem wsL_law0_r13_in : wl_in lw_tbl wsL_law0_r13 := wl_c 345 rfl (wl_c 346 rfl (wl_c 347 rfl (wl_c 348 rfl (wl_c 349 rfl (wl_c 350 rfl (wl_c 351 rfl (wl_c 352 rfl (wl_c 353 rfl (wl_c 354 rfl (wl_c 355 rfl (wl_c 356 rfl (wl_c 357 rfl (wl_c 358 rfl (wl_c 359 rfl (wl_c 360 rfl (wl_c 361 rfl (wl_c 362 rfl (wl_c 363 rfl (wl_c 364 rfl (wl_c 365 rfl (wl_c 366 rfl (wl_c 367 rfl (wl_c 368 rfl (wl_n))))))))))))))))))))))))
set_option maxRecDepth 20000 in
theorem wsL_law0_r14_in : wl_in lw_tbl wsL_law0_r14 := wl_c 369 rfl (wl_c 370 rfl (wl_c 371 rfl (wl_c 372 rfl (wl_c 373 rfl (wl_c 374 rfl (wl_c 375 rfl (wl_c 376 rfl (wl_c 377 rfl (wl_c 378 rfl (wl_c 379 rfl (wl_n)))))))))))
theorem z_ap {big a b : List Cond} (h1 : ∀ w ∈ a, w ∈ big) (h2 : ∀ w ∈ b, w ∈ big) : ∀ w ∈ a ++ b, w ∈ big := fun w h => (List.mem_append.mp h).elim (h1 w) (h2 w)
set_option maxRecDepth 20000 in
theorem wsX20_in : ∀ w ∈ wsX20, w ∈ lw_tbl := fun w h => (goodIn_r (big := lw_tbl) wsX20 [411, 413, 415, 417, 419, 421] (by decide +kernel) (by decide +kernel) w h).1
set_option maxRecDepth 20000 in
theorem wsX10_in : ∀ w ∈ wsX10, w ∈ lw_tbl := fun w h => (goodIn_r (big := lw_tbl) wsX10 [63, 65, 67, 69, 71] (by decide +kernel) (by decide +kernel) w h).1
set_option maxRecDepth 20000 in
theorem wsX00_in : ∀ w ∈ wsX00, w ∈ lw_tbl := fun w h => (goodIn_r (big := lw_tbl) wsX00 [37, 39, 41, 43, 45, 47] (by decide +kernel) (by decide +kernel) w h).1
theorem wsL_law_in0 : ∀ w ∈ wsL_law0, w ∈ lw_tbl := z_ap (z_ap (z_ap (z_ap (z_ap wsL_law0_r1_in (z_ap wsL_law0_r2_in (z_ap wsL_law0_r3_in (z_ap wsL_law0_r4_in (z_ap wsL_law0_r5_in (z_ap wsL_law0_r6_in (z_ap wsL_law0_r7_in (z_ap wsL_law0_r8_in (z_ap wsL_law0_r9_in (z_ap wsL_law0_r10_in (z_ap wsL_law0_r11_in (z_ap wsL_law0_r12_in (z_ap wsL_law0_r13_in (wsL_law0_r14_in)))))))))))))) wsX10_in) wsX20_in) wsX00_in) (fun w h => by cases h)
theorem wsL_law_x0 : ∀ w ∈ (vx_atS RX1 41 "java/lang/IllegalArgumentException" ["java/lang/RuntimeException", "java/lang/Exception"]).filter goodWord, w ∈ lw_tbl := by decide +kernel
theorem wsL_law_x1 : ∀ w ∈ (vx_atS RX1 55 "java/lang/IndexOutOfBoundsException" ["java/lang/RuntimeException", "java/lang/Exception"]).filter goodWord, w ∈ lw_tbl := by decide +kernel
theorem wsL_law_in : ∀ w ∈ wsL_law, w ∈ lw_tbl := fun w h => (List.mem_append.mp h).elim (fun h => (List.mem_append.mp h).elim (fun h => wsL_law_in0 w h) (fun h => wsL_law_x0 w h)) (fun h => wsL_law_x1 w h)
theorem inlX0 : ∀ w ∈ wsX00, w ∈ wsL_law := fun _ h => List.mem_append_left _ (List.mem_append_left _ (List.mem_append_left _ (List.mem_append_right _ h)))
theorem inX0 : ∀ w ∈ wsX00, w ∈ lw_tbl := fun w h => wsL_law_in w (inlX0 w h)
theorem inlX1 : ∀ w ∈ wsX10, w ∈ wsL_law := fun _ h => List.mem_append_left _ (List.mem_append_left _ (List.mem_append_left _ (List.mem_append_left _ (List.mem_append_left _ (List.mem_append_right _ h)))))
theorem inX1 : ∀ w ∈ wsX10, w ∈ lw_tbl := fun w h => wsL_law_in w (inlX1 w h)
theorem inlX2 : ∀ w ∈ wsX20, w ∈ wsL_law := fun _ h => List.mem_append_left _ (List.mem_append_left _ (List.mem_append_left _ (List.mem_append_left _ (List.mem_append_right _ h))))
theorem inX2 : ∀ w ∈ wsX20, w ∈ lw_tbl := fun w h => wsL_law_in w (inlX2 w h)
theorem inX3 : ∀ w ∈ wsX30, w ∈ lw_tbl := by decide +kernel
