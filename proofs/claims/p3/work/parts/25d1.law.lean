/-! THE LAW, a case a call (by program: wip/gen/law2.py) -/
section LAW
variable {L i : Nat} {xs : Nat → Int32} {kc ks : Nat}
set_option maxHeartbeats 4000000 in
set_option maxRecDepth 1000000 in
theorem law_c0 (hL : L ≤ 3072) (hi : i + 6 ≤ L) (next : ∀ mx mm, RR mx mm → J m_L_law true L xs 24 kc ks 1306 (zI i) [] (HH mx mm) lawQ) {mx mm : mM} (h : RR mx mm) : J m_L_law true L xs 24 kc ks 192 (zI i) [] (HH mx mm) lawQ := by
  obtain ⟨r, mx1, mm1, h1, h2, hR⟩ := op_person h ((xs (i + 1))) ((xs (i + 2))) ((xs (i + 3))) ((xs (i + 4)))
  refine J_aload_n (i := 1) (a := 1) rfl rfl (dk_L_law 192 _ rfl) ?_
  refine J_sarg (k := 1) (dk_L_law 193 _ rfl) (dk_L_law 194 _ rfl) (dk_L_law 195 _ rfl) (by decide) (dk_L_law 196 _ rfl) (dk_L_law 197 _ rfl) (by omega) (by omega) ?_
  refine J_sarg (k := 2) (dk_L_law 198 _ rfl) (dk_L_law 199 _ rfl) (dk_L_law 200 _ rfl) (by decide) (dk_L_law 201 _ rfl) (dk_L_law 202 _ rfl) (by omega) (by omega) ?_
  refine J_sarg (k := 3) (dk_L_law 203 _ rfl) (dk_L_law 204 _ rfl) (dk_L_law 205 _ rfl) (by decide) (dk_L_law 206 _ rfl) (dk_L_law 207 _ rfl) (by omega) (by omega) ?_
  refine J_sarg (k := 4) (dk_L_law 208 _ rfl) (dk_L_law 209 _ rfl) (dk_L_law 210 _ rfl) (by decide) (dk_L_law 211 _ rfl) (dk_L_law 212 _ rfl) (by omega) (by omega) ?_
  refine J_xc (ι := uI) (d' := 3) (As := [.int (xs (i + 1)), .int (xs (i + 2)), .int (xs (i + 3)), .int (xs (i + 4))]) ok_X6_person vi_X6_person cl_8_13 (n := 4) (by decide +kernel) rfl rfl (Nat.le_of_ble_eq_true rfl) (by decide) (dk_L_law 213 _ rfl) rfl (c_X6_person mx ((xs (i + 1))) ((xs (i + 2))) ((xs (i + 3))) ((xs (i + 4)))) h1 rfl ?_
  show J _ _ _ _ _ _ _ _ _ [.int r] _ _
  refine J_pop (v := .int r) rfl (dk_L_law 216 _ rfl) ?_
  refine J_aload_n (i := 2) (a := 2) rfl rfl (dk_L_law 217 _ rfl) ?_
  refine J_sarg (k := 1) (dk_L_law 218 _ rfl) (dk_L_law 219 _ rfl) (dk_L_law 220 _ rfl) (by decide) (dk_L_law 221 _ rfl) (dk_L_law 222 _ rfl) (by omega) (by omega) ?_
  refine J_sarg (k := 2) (dk_L_law 223 _ rfl) (dk_L_law 224 _ rfl) (dk_L_law 225 _ rfl) (by decide) (dk_L_law 226 _ rfl) (dk_L_law 227 _ rfl) (by omega) (by omega) ?_
  refine J_sarg (k := 3) (dk_L_law 228 _ rfl) (dk_L_law 229 _ rfl) (dk_L_law 230 _ rfl) (by decide) (dk_L_law 231 _ rfl) (dk_L_law 232 _ rfl) (by omega) (by omega) ?_
  refine J_sarg (k := 4) (dk_L_law 233 _ rfl) (dk_L_law 234 _ rfl) (dk_L_law 235 _ rfl) (by decide) (dk_L_law 236 _ rfl) (dk_L_law 237 _ rfl) (by omega) (by omega) ?_
  refine J_mc (ι := uI) (d' := 4) (As := [.int (xs (i + 1)), .int (xs (i + 2)), .int (xs (i + 3)), .int (xs (i + 4))]) ok_X7_person vi_X7_person cl_8_17 (n := 4) (by decide +kernel) rfl rfl (Nat.le_of_ble_eq_true rfl) (by decide) (dk_L_law 238 _ rfl) rfl (c_X7_person mm ((xs (i + 1))) ((xs (i + 2))) ((xs (i + 3))) ((xs (i + 4)))) h2 rfl ?_
  show J _ _ _ _ _ _ _ _ _ [.int r] _ _
  refine J_pop (v := .int r) rfl (dk_L_law 241 _ rfl) ?_
  refine J_goto (tgt := 1306) (by decide) (dk_L_law 242 _ rfl) ?_
  exact next _ _ hR
set_option maxHeartbeats 4000000 in
set_option maxRecDepth 1000000 in
theorem law_c1 (hL : L ≤ 3072) (hi : i + 6 ≤ L) (next : ∀ mx mm, RR mx mm → J m_L_law true L xs 24 kc ks 1306 (zI i) [] (HH mx mm) lawQ) {mx mm : mM} (h : RR mx mm) : J m_L_law true L xs 24 kc ks 245 (zI i) [] (HH mx mm) lawQ := by
  obtain ⟨r, mx1, mm1, h1, h2, hR⟩ := op_of h ((xs (i + 1))) ((xs (i + 2)))
  refine J_aload_n (i := 1) (a := 1) rfl rfl (dk_L_law 245 _ rfl) ?_
  refine J_sarg (k := 1) (dk_L_law 246 _ rfl) (dk_L_law 247 _ rfl) (dk_L_law 248 _ rfl) (by decide) (dk_L_law 249 _ rfl) (dk_L_law 250 _ rfl) (by omega) (by omega) ?_
  refine J_sarg (k := 2) (dk_L_law 251 _ rfl) (dk_L_law 252 _ rfl) (dk_L_law 253 _ rfl) (by decide) (dk_L_law 254 _ rfl) (dk_L_law 255 _ rfl) (by omega) (by omega) ?_
  refine J_xc (ι := uI) (d' := 6) (As := [.int (xs (i + 1)), .int (xs (i + 2))]) ok_X6_of vi_X6_of cl_8_18 (n := 2) (by decide +kernel) rfl rfl (Nat.le_of_ble_eq_true rfl) (by decide) (dk_L_law 256 _ rfl) rfl (c_X6_of mx ((xs (i + 1))) ((xs (i + 2)))) h1 rfl ?_
  show J _ _ _ _ _ _ _ _ _ [.int r] _ _
  refine J_aload_n (i := 2) (a := 2) rfl rfl (dk_L_law 259 _ rfl) ?_
  refine J_sarg (k := 1) (dk_L_law 260 _ rfl) (dk_L_law 261 _ rfl) (dk_L_law 262 _ rfl) (by decide) (dk_L_law 263 _ rfl) (dk_L_law 264 _ rfl) (by omega) (by omega) ?_
  refine J_sarg (k := 2) (dk_L_law 265 _ rfl) (dk_L_law 266 _ rfl) (dk_L_law 267 _ rfl) (by decide) (dk_L_law 268 _ rfl) (dk_L_law 269 _ rfl) (by omega) (by omega) ?_
  refine J_mc (ι := uI) (d' := 8) (As := [.int (xs (i + 1)), .int (xs (i + 2))]) ok_X7_of vi_X7_of cl_8_22 (n := 2) (by decide +kernel) rfl rfl (Nat.le_of_ble_eq_true rfl) (by decide) (dk_L_law 270 _ rfl) rfl (c_X7_of mm ((xs (i + 1))) ((xs (i + 2)))) h2 rfl ?_
  show J _ _ _ _ _ _ _ _ _ [.int r, .int r] _ _
  refine J_icT (tgt := 1306) (by decide) (dk_L_law 273 _ rfl) rfl ?_
  exact next _ _ hR
set_option maxHeartbeats 4000000 in
set_option maxRecDepth 1000000 in
theorem law_c2 (hL : L ≤ 3072) (hi : i + 6 ≤ L) (next : ∀ mx mm, RR mx mm → J m_L_law true L xs 24 kc ks 1306 (zI i) [] (HH mx mm) lawQ) {mx mm : mM} (h : RR mx mm) : J m_L_law true L xs 24 kc ks 278 (zI i) [] (HH mx mm) lawQ := by
  obtain ⟨r, mx1, mm1, h1, h2, hR⟩ := op_set h ((xs (i + 1))) ((xs (i + 2))) ((xs (i + 3)))
  refine J_aload_n (i := 1) (a := 1) rfl rfl (dk_L_law 278 _ rfl) ?_
  refine J_sarg (k := 1) (dk_L_law 279 _ rfl) (dk_L_law 280 _ rfl) (dk_L_law 281 _ rfl) (by decide) (dk_L_law 282 _ rfl) (dk_L_law 283 _ rfl) (by omega) (by omega) ?_
  refine J_sarg (k := 2) (dk_L_law 284 _ rfl) (dk_L_law 285 _ rfl) (dk_L_law 286 _ rfl) (by decide) (dk_L_law 287 _ rfl) (dk_L_law 288 _ rfl) (by omega) (by omega) ?_
  refine J_sarg (k := 3) (dk_L_law 289 _ rfl) (dk_L_law 290 _ rfl) (dk_L_law 291 _ rfl) (by decide) (dk_L_law 292 _ rfl) (dk_L_law 293 _ rfl) (by omega) (by omega) ?_
  refine J_xc (ι := uI) (d' := 3) (As := [.int (xs (i + 1)), .int (xs (i + 2)), .int (xs (i + 3))]) ok_X6_set vi_X6_set cl_8_23 (n := 3) (by decide +kernel) rfl rfl (Nat.le_of_ble_eq_true rfl) (by decide) (dk_L_law 294 _ rfl) rfl (c_X6_set mx ((xs (i + 1))) ((xs (i + 2))) ((xs (i + 3)))) h1 rfl ?_
  show J _ _ _ _ _ _ _ _ _ [.int r] _ _
  refine J_pop (v := .int r) rfl (dk_L_law 297 _ rfl) ?_
  refine J_aload_n (i := 2) (a := 2) rfl rfl (dk_L_law 298 _ rfl) ?_
  refine J_sarg (k := 1) (dk_L_law 299 _ rfl) (dk_L_law 300 _ rfl) (dk_L_law 301 _ rfl) (by decide) (dk_L_law 302 _ rfl) (dk_L_law 303 _ rfl) (by omega) (by omega) ?_
  refine J_sarg (k := 2) (dk_L_law 304 _ rfl) (dk_L_law 305 _ rfl) (dk_L_law 306 _ rfl) (by decide) (dk_L_law 307 _ rfl) (dk_L_law 308 _ rfl) (by omega) (by omega) ?_
  refine J_sarg (k := 3) (dk_L_law 309 _ rfl) (dk_L_law 310 _ rfl) (dk_L_law 311 _ rfl) (by decide) (dk_L_law 312 _ rfl) (dk_L_law 313 _ rfl) (by omega) (by omega) ?_
  refine J_mc (ι := uI) (d' := 4) (As := [.int (xs (i + 1)), .int (xs (i + 2)), .int (xs (i + 3))]) ok_X7_set vi_X7_set cl_8_27 (n := 3) (by decide +kernel) rfl rfl (Nat.le_of_ble_eq_true rfl) (by decide) (dk_L_law 314 _ rfl) rfl (c_X7_set mm ((xs (i + 1))) ((xs (i + 2))) ((xs (i + 3)))) h2 rfl ?_
  show J _ _ _ _ _ _ _ _ _ [.int r] _ _
  refine J_pop (v := .int r) rfl (dk_L_law 317 _ rfl) ?_
  refine J_goto (tgt := 1306) (by decide) (dk_L_law 318 _ rfl) ?_
  exact next _ _ hR
set_option maxHeartbeats 4000000 in
set_option maxRecDepth 1000000 in
theorem law_c3 (hL : L ≤ 3072) (hi : i + 6 ≤ L) (next : ∀ mx mm, RR mx mm → J m_L_law true L xs 24 kc ks 1306 (zI i) [] (HH mx mm) lawQ) {mx mm : mM} (h : RR mx mm) : J m_L_law true L xs 24 kc ks 321 (zI i) [] (HH mx mm) lawQ := by
  have kx : ∀ b : Int32, (b = if (xs (i + 2)) = 0 then 0 else 1) → J m_L_law true L xs 24 kc ks 340 (zI i) [.int b, .int (xs (i + 1)), .ref 0] (HH mx mm) lawQ := by
    intro b hb
    have hb2 : b = 0 ∨ b = 1 := by rw [hb]; split; exact Or.inl rfl; exact Or.inr rfl
    obtain ⟨r, mx1, mm1, h1, h2, hR⟩ := op_there h (xs (i + 1)) b hb2
    refine J_xc (ι := uI) (d' := 3) (As := [.int (xs (i + 1)), .int b]) ok_X6_there vi_X6_there cl_8_28 (n := 2) (by decide +kernel) rfl rfl (Nat.le_of_ble_eq_true rfl) (by decide) (dk_L_law 340 _ rfl) rfl (c_X6_there mx ((xs (i + 1))) (b)) h1 rfl ?_
    show J _ _ _ _ _ _ _ _ _ [.int r] _ _
    refine J_pop (v := .int r) rfl (dk_L_law 343 _ rfl) ?_
    refine J_aload_n (i := 2) (a := 2) rfl rfl (dk_L_law 344 _ rfl) ?_
    refine J_sarg (k := 1) (dk_L_law 345 _ rfl) (dk_L_law 346 _ rfl) (dk_L_law 347 _ rfl) (by decide) (dk_L_law 348 _ rfl) (dk_L_law 349 _ rfl) (by omega) (by omega) ?_
    refine J_sarg (k := 2) (dk_L_law 350 _ rfl) (dk_L_law 351 _ rfl) (dk_L_law 352 _ rfl) (by decide) (dk_L_law 353 _ rfl) (dk_L_law 354 _ rfl) (by omega) (by omega) ?_
    have km : J m_L_law true L xs 24 kc ks 363 (zI i) [.int b, .int (xs (i + 1)), .ref 94] (HH mx1 mm) lawQ := by
      refine J_mc (ι := uI) (d' := 4) (As := [.int (xs (i + 1)), .int b]) ok_X7_there vi_X7_there cl_8_32 (n := 2) (by decide +kernel) rfl rfl (Nat.le_of_ble_eq_true rfl) (by decide) (dk_L_law 363 _ rfl) rfl (c_X7_there mm ((xs (i + 1))) (b)) h2 rfl ?_
      show J _ _ _ _ _ _ _ _ _ [.int r] _ _
      refine J_pop (v := .int r) rfl (dk_L_law 366 _ rfl) ?_
      refine J_goto (tgt := 1306) (by decide) (dk_L_law 367 _ rfl) ?_
      exact next _ _ hR
    refine J_if_eq (tgt := 362) (by decide) (dk_L_law 355 _ rfl) (fun hc => ?_) (fun hc => ?_)
    · have hz : (xs (i + 2)) = 0 := hc
      refine J_iconst (v := 0) (by decide) (dk_L_law 362 _ rfl) ?_
      rw [if_pos hz] at hb; subst hb; exact km
    · have hz : ¬ (xs (i + 2)) = 0 := hc
      refine J_iconst (v := 1) (by decide) (dk_L_law 358 _ rfl) ?_
      refine J_goto (tgt := 363) (by decide) (dk_L_law 359 _ rfl) ?_
      rw [if_neg hz] at hb; subst hb; exact km
  refine J_aload_n (i := 1) (a := 1) rfl rfl (dk_L_law 321 _ rfl) ?_
  refine J_sarg (k := 1) (dk_L_law 322 _ rfl) (dk_L_law 323 _ rfl) (dk_L_law 324 _ rfl) (by decide) (dk_L_law 325 _ rfl) (dk_L_law 326 _ rfl) (by omega) (by omega) ?_
  refine J_sarg (k := 2) (dk_L_law 327 _ rfl) (dk_L_law 328 _ rfl) (dk_L_law 329 _ rfl) (by decide) (dk_L_law 330 _ rfl) (dk_L_law 331 _ rfl) (by omega) (by omega) ?_
  refine J_if_eq (tgt := 339) (by decide) (dk_L_law 332 _ rfl) (fun hc => ?_) (fun hc => ?_)
  · have hz : (xs (i + 2)) = 0 := hc
    refine J_iconst (v := 0) (by decide) (dk_L_law 339 _ rfl) ?_
    exact kx 0 (by rw [if_pos hz])
  · have hz : ¬ (xs (i + 2)) = 0 := hc
    refine J_iconst (v := 1) (by decide) (dk_L_law 335 _ rfl) ?_
    refine J_goto (tgt := 340) (by decide) (dk_L_law 336 _ rfl) ?_
    exact kx 1 (by rw [if_neg hz])
set_option maxHeartbeats 4000000 in
set_option maxRecDepth 1000000 in
theorem law_c4 (hL : L ≤ 3072) (hi : i + 6 ≤ L) (next : ∀ mx mm, RR mx mm → J m_L_law true L xs 24 kc ks 1306 (zI i) [] (HH mx mm) lawQ) {mx mm : mM} (h : RR mx mm) : J m_L_law true L xs 24 kc ks 370 (zI i) [] (HH mx mm) lawQ := by
  obtain ⟨r, mx1, mm1, h1, h2, hR⟩ := op_row h ((xs (i + 1))) ((xs (i + 2))) ((xs (i + 3)))
  refine J_aload_n (i := 1) (a := 1) rfl rfl (dk_L_law 370 _ rfl) ?_
  refine J_sarg (k := 1) (dk_L_law 371 _ rfl) (dk_L_law 372 _ rfl) (dk_L_law 373 _ rfl) (by decide) (dk_L_law 374 _ rfl) (dk_L_law 375 _ rfl) (by omega) (by omega) ?_
  refine J_sarg (k := 2) (dk_L_law 376 _ rfl) (dk_L_law 377 _ rfl) (dk_L_law 378 _ rfl) (by decide) (dk_L_law 379 _ rfl) (dk_L_law 380 _ rfl) (by omega) (by omega) ?_
  refine J_sarg (k := 3) (dk_L_law 381 _ rfl) (dk_L_law 382 _ rfl) (dk_L_law 383 _ rfl) (by decide) (dk_L_law 384 _ rfl) (dk_L_law 385 _ rfl) (by omega) (by omega) ?_
  refine J_xc (ι := uI) (d' := 3) (As := [.int (xs (i + 1)), .int (xs (i + 2)), .int (xs (i + 3))]) ok_X6_row vi_X6_row cl_8_33 (n := 3) (by decide +kernel) rfl rfl (Nat.le_of_ble_eq_true rfl) (by decide) (dk_L_law 386 _ rfl) rfl (c_X6_row mx ((xs (i + 1))) ((xs (i + 2))) ((xs (i + 3)))) h1 rfl ?_
  show J _ _ _ _ _ _ _ _ _ [.int r] _ _
  refine J_pop (v := .int r) rfl (dk_L_law 389 _ rfl) ?_
  refine J_aload_n (i := 2) (a := 2) rfl rfl (dk_L_law 390 _ rfl) ?_
  refine J_sarg (k := 1) (dk_L_law 391 _ rfl) (dk_L_law 392 _ rfl) (dk_L_law 393 _ rfl) (by decide) (dk_L_law 394 _ rfl) (dk_L_law 395 _ rfl) (by omega) (by omega) ?_
  refine J_sarg (k := 2) (dk_L_law 396 _ rfl) (dk_L_law 397 _ rfl) (dk_L_law 398 _ rfl) (by decide) (dk_L_law 399 _ rfl) (dk_L_law 400 _ rfl) (by omega) (by omega) ?_
  refine J_sarg (k := 3) (dk_L_law 401 _ rfl) (dk_L_law 402 _ rfl) (dk_L_law 403 _ rfl) (by decide) (dk_L_law 404 _ rfl) (dk_L_law 405 _ rfl) (by omega) (by omega) ?_
  refine J_mc (ι := uI) (d' := 4) (As := [.int (xs (i + 1)), .int (xs (i + 2)), .int (xs (i + 3))]) ok_X7_row vi_X7_row cl_8_36 (n := 3) (by decide +kernel) rfl rfl (Nat.le_of_ble_eq_true rfl) (by decide) (dk_L_law 406 _ rfl) rfl (c_X7_row mm ((xs (i + 1))) ((xs (i + 2))) ((xs (i + 3)))) h2 rfl ?_
  show J _ _ _ _ _ _ _ _ _ [.int r] _ _
  refine J_pop (v := .int r) rfl (dk_L_law 409 _ rfl) ?_
  refine J_goto (tgt := 1306) (by decide) (dk_L_law 410 _ rfl) ?_
  exact next _ _ hR
set_option maxHeartbeats 4000000 in
set_option maxRecDepth 1000000 in
theorem law_c5 (hL : L ≤ 3072) (hi : i + 6 ≤ L) (next : ∀ mx mm, RR mx mm → J m_L_law true L xs 24 kc ks 1306 (zI i) [] (HH mx mm) lawQ) {mx mm : mM} (h : RR mx mm) : J m_L_law true L xs 24 kc ks 413 (zI i) [] (HH mx mm) lawQ := by
  obtain ⟨r, mx1, mm1, h1, h2, hR⟩ := op_feed h ((xs (i + 1)))
  refine J_aload_n (i := 1) (a := 1) rfl rfl (dk_L_law 413 _ rfl) ?_
  refine J_sarg (k := 1) (dk_L_law 414 _ rfl) (dk_L_law 415 _ rfl) (dk_L_law 416 _ rfl) (by decide) (dk_L_law 417 _ rfl) (dk_L_law 418 _ rfl) (by omega) (by omega) ?_
  refine J_xc (ι := uI) (d' := 2) (As := [.int (xs (i + 1))]) ok_X6_feed vi_X6_feed cl_8_37 (n := 1) (by decide +kernel) rfl rfl (Nat.le_of_ble_eq_true rfl) (by decide) (dk_L_law 419 _ rfl) rfl (c_X6_feed mx ((xs (i + 1)))) h1 rfl ?_
  show J _ _ _ _ _ _ _ _ _ [.int r] _ _
  refine J_pop (v := .int r) rfl (dk_L_law 422 _ rfl) ?_
  refine J_aload_n (i := 2) (a := 2) rfl rfl (dk_L_law 423 _ rfl) ?_
  refine J_sarg (k := 1) (dk_L_law 424 _ rfl) (dk_L_law 425 _ rfl) (dk_L_law 426 _ rfl) (by decide) (dk_L_law 427 _ rfl) (dk_L_law 428 _ rfl) (by omega) (by omega) ?_
  refine J_mc (ι := uI) (d' := 3) (As := [.int (xs (i + 1))]) ok_X7_feed vi_X7_feed cl_8_41 (n := 1) (by decide +kernel) rfl rfl (Nat.le_of_ble_eq_true rfl) (by decide) (dk_L_law 429 _ rfl) rfl (c_X7_feed mm ((xs (i + 1)))) h2 rfl ?_
  show J _ _ _ _ _ _ _ _ _ [.int r] _ _
  refine J_pop (v := .int r) rfl (dk_L_law 432 _ rfl) ?_
  refine J_goto (tgt := 1306) (by decide) (dk_L_law 433 _ rfl) ?_
  exact next _ _ hR
set_option maxHeartbeats 4000000 in
set_option maxRecDepth 1000000 in
theorem law_c6 (hL : L ≤ 3072) (hi : i + 6 ≤ L) (next : ∀ mx mm, RR mx mm → J m_L_law true L xs 24 kc ks 1306 (zI i) [] (HH mx mm) lawQ) {mx mm : mM} (h : RR mx mm) : J m_L_law true L xs 24 kc ks 436 (zI i) [] (HH mx mm) lawQ := by
  obtain ⟨r, mx1, mm1, h1, h2, hR⟩ := op_town h 
  refine J_aload_n (i := 1) (a := 1) rfl rfl (dk_L_law 436 _ rfl) ?_
  refine J_xc (ι := uI) (d' := 22) (As := []) ok_X6_town vi_X6_town cl_8_42 (n := 0) (by decide +kernel) rfl rfl (Nat.le_of_ble_eq_true rfl) (by decide) (dk_L_law 437 _ rfl) rfl (c_X6_town mx ) h1 rfl ?_
  show J _ _ _ _ _ _ _ _ _ [.int r] _ _
  refine J_pop (v := .int r) rfl (dk_L_law 440 _ rfl) ?_
  refine J_aload_n (i := 2) (a := 2) rfl rfl (dk_L_law 441 _ rfl) ?_
  refine J_mc (ι := uI) (d' := 9) (As := []) ok_X7_town vi_X7_town cl_8_46 (n := 0) (by decide +kernel) rfl rfl (Nat.le_of_ble_eq_true rfl) (by decide) (dk_L_law 442 _ rfl) rfl (c_X7_town mm ) h2 rfl ?_
  show J _ _ _ _ _ _ _ _ _ [.int r] _ _
  refine J_pop (v := .int r) rfl (dk_L_law 445 _ rfl) ?_
  refine J_goto (tgt := 1306) (by decide) (dk_L_law 446 _ rfl) ?_
  exact next _ _ hR
set_option maxHeartbeats 4000000 in
set_option maxRecDepth 1000000 in
theorem law_c7 (hL : L ≤ 3072) (hi : i + 6 ≤ L) (next : ∀ mx mm, RR mx mm → J m_L_law true L xs 24 kc ks 1306 (zI i) [] (HH mx mm) lawQ) {mx mm : mM} (h : RR mx mm) : J m_L_law true L xs 24 kc ks 449 (zI i) [] (HH mx mm) lawQ := by
  obtain ⟨r, r2, mx1, mm1, h1, h2, hR⟩ := (op_told_t h ((xs (i + 1)))).1
  refine J_aload_n (i := 1) (a := 1) rfl rfl (dk_L_law 449 _ rfl) ?_
  refine J_sarg (k := 1) (dk_L_law 450 _ rfl) (dk_L_law 451 _ rfl) (dk_L_law 452 _ rfl) (by decide) (dk_L_law 453 _ rfl) (dk_L_law 454 _ rfl) (by omega) (by omega) ?_
  refine J_xc (ι := uI) (d' := 7) (As := [.int (xs (i + 1))]) ok_X6_told vi_X6_told cl_8_47 (n := 1) (by decide +kernel) rfl rfl (Nat.le_of_ble_eq_true rfl) (by decide) (dk_L_law 455 _ rfl) rfl (c_X6_told mx ((xs (i + 1)))) h1 rfl ?_
  show J _ _ _ _ _ _ _ _ _ [.int r] _ _
  refine J_pop (v := .int r) rfl (dk_L_law 458 _ rfl) ?_
  refine J_aload_n (i := 2) (a := 2) rfl rfl (dk_L_law 459 _ rfl) ?_
  refine J_sarg (k := 1) (dk_L_law 460 _ rfl) (dk_L_law 461 _ rfl) (dk_L_law 462 _ rfl) (by decide) (dk_L_law 463 _ rfl) (dk_L_law 464 _ rfl) (by omega) (by omega) ?_
  refine J_mc (ι := uI) (d' := 8) (As := [.int (xs (i + 1))]) ok_X7_told vi_X7_told cl_8_50 (n := 1) (by decide +kernel) rfl rfl (Nat.le_of_ble_eq_true rfl) (by decide) (dk_L_law 465 _ rfl) rfl (c_X7_told mm ((xs (i + 1)))) h2 rfl ?_
  show J _ _ _ _ _ _ _ _ _ [.int r2] _ _
  refine J_pop (v := .int r2) rfl (dk_L_law 468 _ rfl) ?_
  refine J_goto (tgt := 1306) (by decide) (dk_L_law 469 _ rfl) ?_
  exact next _ _ hR
set_option maxHeartbeats 4000000 in
set_option maxRecDepth 1000000 in
theorem law_c8 (hL : L ≤ 3072) (hi : i + 6 ≤ L) (next : ∀ mx mm, RR mx mm → J m_L_law true L xs 24 kc ks 1306 (zI i) [] (HH mx mm) lawQ) {mx mm : mM} (h : RR mx mm) : J m_L_law true L xs 24 kc ks 472 (zI i) [] (HH mx mm) lawQ := by
  obtain ⟨r, mx1, mm1, h1, h2, hR⟩ := op_day h 
  refine J_aload_n (i := 1) (a := 1) rfl rfl (dk_L_law 472 _ rfl) ?_
  refine J_xc (ι := uI) (d' := 7) (As := []) ok_X6_day vi_X6_day cl_8_51 (n := 0) (by decide +kernel) rfl rfl (Nat.le_of_ble_eq_true rfl) (by decide) (dk_L_law 473 _ rfl) rfl (c_X6_day mx ) h1 rfl ?_
  show J _ _ _ _ _ _ _ _ _ [.int r] _ _
  refine J_pop (v := .int r) rfl (dk_L_law 476 _ rfl) ?_
  refine J_aload_n (i := 2) (a := 2) rfl rfl (dk_L_law 477 _ rfl) ?_
  refine J_mc (ι := uI) (d' := 9) (As := []) ok_X7_day vi_X7_day cl_8_54 (n := 0) (by decide +kernel) rfl rfl (Nat.le_of_ble_eq_true rfl) (by decide) (dk_L_law 478 _ rfl) rfl (c_X7_day mm ) h2 rfl ?_
  show J _ _ _ _ _ _ _ _ _ [.int r] _ _
  refine J_pop (v := .int r) rfl (dk_L_law 481 _ rfl) ?_
  refine J_goto (tgt := 1306) (by decide) (dk_L_law 482 _ rfl) ?_
  exact next _ _ hR
set_option maxHeartbeats 4000000 in
set_option maxRecDepth 1000000 in
theorem law_c9 (hL : L ≤ 3072) (hi : i + 6 ≤ L) (next : ∀ mx mm, RR mx mm → J m_L_law true L xs 24 kc ks 1306 (zI i) [] (HH mx mm) lawQ) {mx mm : mM} (h : RR mx mm) : J m_L_law true L xs 24 kc ks 485 (zI i) [] (HH mx mm) lawQ := by
  obtain ⟨r, mx1, mm1, h1, h2, hR⟩ := op_by h ((xs (i + 1))) ((xs (i + 2))) ((xs (i + 3)))
  refine J_aload_n (i := 1) (a := 1) rfl rfl (dk_L_law 485 _ rfl) ?_
  refine J_sarg (k := 1) (dk_L_law 486 _ rfl) (dk_L_law 487 _ rfl) (dk_L_law 488 _ rfl) (by decide) (dk_L_law 489 _ rfl) (dk_L_law 490 _ rfl) (by omega) (by omega) ?_
  refine J_sarg (k := 2) (dk_L_law 491 _ rfl) (dk_L_law 492 _ rfl) (dk_L_law 493 _ rfl) (by decide) (dk_L_law 494 _ rfl) (dk_L_law 495 _ rfl) (by omega) (by omega) ?_
  refine J_sarg (k := 3) (dk_L_law 496 _ rfl) (dk_L_law 497 _ rfl) (dk_L_law 498 _ rfl) (by decide) (dk_L_law 499 _ rfl) (dk_L_law 500 _ rfl) (by omega) (by omega) ?_
  refine J_xc (ι := uI) (d' := 7) (As := [.int (xs (i + 1)), .int (xs (i + 2)), .int (xs (i + 3))]) ok_X6_by vi_X6_by cl_8_55 (n := 3) (by decide +kernel) rfl rfl (Nat.le_of_ble_eq_true rfl) (by decide) (dk_L_law 501 _ rfl) rfl (c_X6_by mx ((xs (i + 1))) ((xs (i + 2))) ((xs (i + 3)))) h1 rfl ?_
  show J _ _ _ _ _ _ _ _ _ [.int r] _ _
  refine J_pop (v := .int r) rfl (dk_L_law 504 _ rfl) ?_
  refine J_aload_n (i := 2) (a := 2) rfl rfl (dk_L_law 505 _ rfl) ?_
  refine J_sarg (k := 1) (dk_L_law 506 _ rfl) (dk_L_law 507 _ rfl) (dk_L_law 508 _ rfl) (by decide) (dk_L_law 509 _ rfl) (dk_L_law 510 _ rfl) (by omega) (by omega) ?_
  refine J_sarg (k := 2) (dk_L_law 511 _ rfl) (dk_L_law 512 _ rfl) (dk_L_law 513 _ rfl) (by decide) (dk_L_law 514 _ rfl) (dk_L_law 515 _ rfl) (by omega) (by omega) ?_
  refine J_sarg (k := 3) (dk_L_law 516 _ rfl) (dk_L_law 517 _ rfl) (dk_L_law 518 _ rfl) (by decide) (dk_L_law 519 _ rfl) (dk_L_law 520 _ rfl) (by omega) (by omega) ?_
  refine J_mc (ι := uI) (d' := 9) (As := [.int (xs (i + 1)), .int (xs (i + 2)), .int (xs (i + 3))]) ok_X7_by vi_X7_by cl_8_58 (n := 3) (by decide +kernel) rfl rfl (Nat.le_of_ble_eq_true rfl) (by decide) (dk_L_law 521 _ rfl) rfl (c_X7_by mm ((xs (i + 1))) ((xs (i + 2))) ((xs (i + 3)))) h2 rfl ?_
  show J _ _ _ _ _ _ _ _ _ [.int r] _ _
  refine J_pop (v := .int r) rfl (dk_L_law 524 _ rfl) ?_
  refine J_goto (tgt := 1306) (by decide) (dk_L_law 525 _ rfl) ?_
  exact next _ _ hR
set_option maxHeartbeats 4000000 in
set_option maxRecDepth 1000000 in
theorem law_c10 (hL : L ≤ 3072) (hi : i + 6 ≤ L) (next : ∀ mx mm, RR mx mm → J m_L_law true L xs 24 kc ks 1306 (zI i) [] (HH mx mm) lawQ) {mx mm : mM} (h : RR mx mm) : J m_L_law true L xs 24 kc ks 528 (zI i) [] (HH mx mm) lawQ := by
  obtain ⟨r, mx1, mm1, h1, h2, hR⟩ := op_years h ((xs (i + 1)))
  refine J_aload_n (i := 1) (a := 1) rfl rfl (dk_L_law 528 _ rfl) ?_
  refine J_sarg (k := 1) (dk_L_law 529 _ rfl) (dk_L_law 530 _ rfl) (dk_L_law 531 _ rfl) (by decide) (dk_L_law 532 _ rfl) (dk_L_law 533 _ rfl) (by omega) (by omega) ?_
  refine J_xc (ι := uI) (d' := 8) (As := [.int (xs (i + 1))]) ok_X6_years vi_X6_years cl_8_59 (n := 1) (by decide +kernel) rfl rfl (Nat.le_of_ble_eq_true rfl) (by decide) (dk_L_law 534 _ rfl) rfl (c_X6_years mx ((xs (i + 1)))) h1 rfl ?_
  show J _ _ _ _ _ _ _ _ _ [.int r] _ _
  refine J_pop (v := .int r) rfl (dk_L_law 537 _ rfl) ?_
  refine J_aload_n (i := 2) (a := 2) rfl rfl (dk_L_law 538 _ rfl) ?_
  refine J_sarg (k := 1) (dk_L_law 539 _ rfl) (dk_L_law 540 _ rfl) (dk_L_law 541 _ rfl) (by decide) (dk_L_law 542 _ rfl) (dk_L_law 543 _ rfl) (by omega) (by omega) ?_
  refine J_mc (ι := uI) (d' := 11) (As := [.int (xs (i + 1))]) ok_X7_years vi_X7_years cl_8_62 (n := 1) (by decide +kernel) rfl rfl (Nat.le_of_ble_eq_true rfl) (by decide) (dk_L_law 544 _ rfl) rfl (c_X7_years mm ((xs (i + 1)))) h2 rfl ?_
  show J _ _ _ _ _ _ _ _ _ [.int r] _ _
  refine J_pop (v := .int r) rfl (dk_L_law 547 _ rfl) ?_
  refine J_goto (tgt := 1306) (by decide) (dk_L_law 548 _ rfl) ?_
  exact next _ _ hR
set_option maxHeartbeats 4000000 in
set_option maxRecDepth 1000000 in
theorem law_c11 (hL : L ≤ 3072) (hi : i + 6 ≤ L) (next : ∀ mx mm, RR mx mm → J m_L_law true L xs 24 kc ks 1306 (zI i) [] (HH mx mm) lawQ) {mx mm : mM} (h : RR mx mm) : J m_L_law true L xs 24 kc ks 551 (zI i) [] (HH mx mm) lawQ := by
  obtain ⟨r, mx1, mm1, h1, h2, hR⟩ := op_birth h ((xs (i + 1))) ((xs (i + 2)))
  refine J_aload_n (i := 1) (a := 1) rfl rfl (dk_L_law 551 _ rfl) ?_
  refine J_sarg (k := 1) (dk_L_law 552 _ rfl) (dk_L_law 553 _ rfl) (dk_L_law 554 _ rfl) (by decide) (dk_L_law 555 _ rfl) (dk_L_law 556 _ rfl) (by omega) (by omega) ?_
  refine J_sarg (k := 2) (dk_L_law 557 _ rfl) (dk_L_law 558 _ rfl) (dk_L_law 559 _ rfl) (by decide) (dk_L_law 560 _ rfl) (dk_L_law 561 _ rfl) (by omega) (by omega) ?_
  refine J_xc (ι := uI) (d' := 9) (As := [.int (xs (i + 1)), .int (xs (i + 2))]) ok_X6_birth vi_X6_birth cl_8_63 (n := 2) (by decide +kernel) rfl rfl (Nat.le_of_ble_eq_true rfl) (by decide) (dk_L_law 562 _ rfl) rfl (c_X6_birth mx ((xs (i + 1))) ((xs (i + 2)))) h1 rfl ?_
  show J _ _ _ _ _ _ _ _ _ [.int r] _ _
  refine J_pop (v := .int r) rfl (dk_L_law 565 _ rfl) ?_
  refine J_aload_n (i := 2) (a := 2) rfl rfl (dk_L_law 566 _ rfl) ?_
  refine J_sarg (k := 1) (dk_L_law 567 _ rfl) (dk_L_law 568 _ rfl) (dk_L_law 569 _ rfl) (by decide) (dk_L_law 570 _ rfl) (dk_L_law 571 _ rfl) (by omega) (by omega) ?_
  refine J_sarg (k := 2) (dk_L_law 572 _ rfl) (dk_L_law 573 _ rfl) (dk_L_law 574 _ rfl) (by decide) (dk_L_law 575 _ rfl) (dk_L_law 576 _ rfl) (by omega) (by omega) ?_
  refine J_mc (ι := uI) (d' := 12) (As := [.int (xs (i + 1)), .int (xs (i + 2))]) ok_X7_birth vi_X7_birth cl_8_66 (n := 2) (by decide +kernel) rfl rfl (Nat.le_of_ble_eq_true rfl) (by decide) (dk_L_law 577 _ rfl) rfl (c_X7_birth mm ((xs (i + 1))) ((xs (i + 2)))) h2 rfl ?_
  show J _ _ _ _ _ _ _ _ _ [.int r] _ _
  refine J_pop (v := .int r) rfl (dk_L_law 580 _ rfl) ?_
  refine J_goto (tgt := 1306) (by decide) (dk_L_law 581 _ rfl) ?_
  exact next _ _ hR
set_option maxHeartbeats 4000000 in
set_option maxRecDepth 1000000 in
theorem law_c12 (hL : L ≤ 3072) (hi : i + 6 ≤ L) (next : ∀ mx mm, RR mx mm → J m_L_law true L xs 24 kc ks 1306 (zI i) [] (HH mx mm) lawQ) {mx mm : mM} (h : RR mx mm) : J m_L_law true L xs 24 kc ks 584 (zI i) [] (HH mx mm) lawQ := by
  obtain ⟨r, mx1, mm1, h1, h2, hR⟩ := op_plan h ((xs (i + 1))) ((xs (i + 2)))
  refine J_aload_n (i := 1) (a := 1) rfl rfl (dk_L_law 584 _ rfl) ?_
  refine J_sarg (k := 1) (dk_L_law 585 _ rfl) (dk_L_law 586 _ rfl) (dk_L_law 587 _ rfl) (by decide) (dk_L_law 588 _ rfl) (dk_L_law 589 _ rfl) (by omega) (by omega) ?_
  refine J_sarg (k := 2) (dk_L_law 590 _ rfl) (dk_L_law 591 _ rfl) (dk_L_law 592 _ rfl) (by decide) (dk_L_law 593 _ rfl) (dk_L_law 594 _ rfl) (by omega) (by omega) ?_
  refine J_xc (ι := uI) (d' := 9) (As := [.int (xs (i + 1)), .int (xs (i + 2))]) ok_X6_plan vi_X6_plan cl_8_67 (n := 2) (by decide +kernel) rfl rfl (Nat.le_of_ble_eq_true rfl) (by decide) (dk_L_law 595 _ rfl) rfl (c_X6_plan mx ((xs (i + 1))) ((xs (i + 2)))) h1 rfl ?_
  show J _ _ _ _ _ _ _ _ _ [.int r] _ _
  refine J_pop (v := .int r) rfl (dk_L_law 598 _ rfl) ?_
  refine J_aload_n (i := 2) (a := 2) rfl rfl (dk_L_law 599 _ rfl) ?_
  refine J_sarg (k := 1) (dk_L_law 600 _ rfl) (dk_L_law 601 _ rfl) (dk_L_law 602 _ rfl) (by decide) (dk_L_law 603 _ rfl) (dk_L_law 604 _ rfl) (by omega) (by omega) ?_
  refine J_sarg (k := 2) (dk_L_law 605 _ rfl) (dk_L_law 606 _ rfl) (dk_L_law 607 _ rfl) (by decide) (dk_L_law 608 _ rfl) (dk_L_law 609 _ rfl) (by omega) (by omega) ?_
  refine J_mc (ι := uI) (d' := 12) (As := [.int (xs (i + 1)), .int (xs (i + 2))]) ok_X7_plan vi_X7_plan cl_8_70 (n := 2) (by decide +kernel) rfl rfl (Nat.le_of_ble_eq_true rfl) (by decide) (dk_L_law 610 _ rfl) rfl (c_X7_plan mm ((xs (i + 1))) ((xs (i + 2)))) h2 rfl ?_
  show J _ _ _ _ _ _ _ _ _ [.int r] _ _
  refine J_pop (v := .int r) rfl (dk_L_law 613 _ rfl) ?_
  refine J_goto (tgt := 1306) (by decide) (dk_L_law 614 _ rfl) ?_
  exact next _ _ hR
set_option maxHeartbeats 4000000 in
set_option maxRecDepth 1000000 in
theorem law_c13 (hL : L ≤ 3072) (hi : i + 6 ≤ L) (next : ∀ mx mm, RR mx mm → J m_L_law true L xs 24 kc ks 1306 (zI i) [] (HH mx mm) lawQ) {mx mm : mM} (h : RR mx mm) : J m_L_law true L xs 24 kc ks 617 (zI i) [] (HH mx mm) lawQ := by
  obtain ⟨r, mx1, mm1, h1, h2, hR⟩ := op_quiet h 
  refine J_aload_n (i := 1) (a := 1) rfl rfl (dk_L_law 617 _ rfl) ?_
  refine J_xc (ι := uI) (d' := 6) (As := []) ok_X6_quiet vi_X6_quiet cl_8_71 (n := 0) (by decide +kernel) rfl rfl (Nat.le_of_ble_eq_true rfl) (by decide) (dk_L_law 618 _ rfl) rfl (c_X6_quiet mx ) h1 rfl ?_
  show J _ _ _ _ _ _ _ _ _ [.int r] _ _
  refine J_pop (v := .int r) rfl (dk_L_law 621 _ rfl) ?_
  refine J_aload_n (i := 2) (a := 2) rfl rfl (dk_L_law 622 _ rfl) ?_
  refine J_mc (ι := uI) (d' := 8) (As := []) ok_X7_quiet vi_X7_quiet cl_8_74 (n := 0) (by decide +kernel) rfl rfl (Nat.le_of_ble_eq_true rfl) (by decide) (dk_L_law 623 _ rfl) rfl (c_X7_quiet mm ) h2 rfl ?_
  show J _ _ _ _ _ _ _ _ _ [.int r] _ _
  refine J_pop (v := .int r) rfl (dk_L_law 626 _ rfl) ?_
  refine J_goto (tgt := 1306) (by decide) (dk_L_law 627 _ rfl) ?_
  exact next _ _ hR
set_option maxHeartbeats 4000000 in
set_option maxRecDepth 1000000 in
theorem law_c14 (hL : L ≤ 3072) (hi : i + 6 ≤ L) (next : ∀ mx mm, RR mx mm → J m_L_law true L xs 24 kc ks 1306 (zI i) [] (HH mx mm) lawQ) {mx mm : mM} (h : RR mx mm) : J m_L_law true L xs 24 kc ks 630 (zI i) [] (HH mx mm) lawQ := by
  obtain ⟨r, mx1, mm1, h1, h2, hR⟩ := op_foundling h ((xs (i + 1))) ((xs (i + 2)))
  refine J_aload_n (i := 1) (a := 1) rfl rfl (dk_L_law 630 _ rfl) ?_
  refine J_sarg (k := 1) (dk_L_law 631 _ rfl) (dk_L_law 632 _ rfl) (dk_L_law 633 _ rfl) (by decide) (dk_L_law 634 _ rfl) (dk_L_law 635 _ rfl) (by omega) (by omega) ?_
  refine J_sarg (k := 2) (dk_L_law 636 _ rfl) (dk_L_law 637 _ rfl) (dk_L_law 638 _ rfl) (by decide) (dk_L_law 639 _ rfl) (dk_L_law 640 _ rfl) (by omega) (by omega) ?_
  refine J_xc (ι := uI) (d' := 9) (As := [.int (xs (i + 1)), .int (xs (i + 2))]) ok_X6_foundling vi_X6_foundling cl_8_75 (n := 2) (by decide +kernel) rfl rfl (Nat.le_of_ble_eq_true rfl) (by decide) (dk_L_law 641 _ rfl) rfl (c_X6_foundling mx ((xs (i + 1))) ((xs (i + 2)))) h1 rfl ?_
  show J _ _ _ _ _ _ _ _ _ [.int r] _ _
  refine J_pop (v := .int r) rfl (dk_L_law 644 _ rfl) ?_
  refine J_aload_n (i := 2) (a := 2) rfl rfl (dk_L_law 645 _ rfl) ?_
  refine J_sarg (k := 1) (dk_L_law 646 _ rfl) (dk_L_law 647 _ rfl) (dk_L_law 648 _ rfl) (by decide) (dk_L_law 649 _ rfl) (dk_L_law 650 _ rfl) (by omega) (by omega) ?_
  refine J_sarg (k := 2) (dk_L_law 651 _ rfl) (dk_L_law 652 _ rfl) (dk_L_law 653 _ rfl) (by decide) (dk_L_law 654 _ rfl) (dk_L_law 655 _ rfl) (by omega) (by omega) ?_
  refine J_mc (ι := uI) (d' := 12) (As := [.int (xs (i + 1)), .int (xs (i + 2))]) ok_X7_foundling vi_X7_foundling cl_8_78 (n := 2) (by decide +kernel) rfl rfl (Nat.le_of_ble_eq_true rfl) (by decide) (dk_L_law 656 _ rfl) rfl (c_X7_foundling mm ((xs (i + 1))) ((xs (i + 2)))) h2 rfl ?_
  show J _ _ _ _ _ _ _ _ _ [.int r] _ _
  refine J_pop (v := .int r) rfl (dk_L_law 659 _ rfl) ?_
  refine J_goto (tgt := 1306) (by decide) (dk_L_law 660 _ rfl) ?_
  exact next _ _ hR
set_option maxHeartbeats 4000000 in
set_option maxRecDepth 1000000 in
theorem law_c15 (hL : L ≤ 3072) (hi : i + 6 ≤ L) (next : ∀ mx mm, RR mx mm → J m_L_law true L xs 24 kc ks 1306 (zI i) [] (HH mx mm) lawQ) {mx mm : mM} (h : RR mx mm) : J m_L_law true L xs 24 kc ks 663 (zI i) [] (HH mx mm) lawQ := by
  obtain ⟨r, mx1, mm1, h1, h2, hR⟩ := op_forged h ((xs (i + 1)))
  refine J_aload_n (i := 1) (a := 1) rfl rfl (dk_L_law 663 _ rfl) ?_
  refine J_sarg (k := 1) (dk_L_law 664 _ rfl) (dk_L_law 665 _ rfl) (dk_L_law 666 _ rfl) (by decide) (dk_L_law 667 _ rfl) (dk_L_law 668 _ rfl) (by omega) (by omega) ?_
  refine J_xc (ι := uI) (d' := 8) (As := [.int (xs (i + 1))]) ok_X6_forged vi_X6_forged cl_8_79 (n := 1) (by decide +kernel) rfl rfl (Nat.le_of_ble_eq_true rfl) (by decide) (dk_L_law 669 _ rfl) rfl (c_X6_forged mx ((xs (i + 1)))) h1 rfl ?_
  show J _ _ _ _ _ _ _ _ _ [.int r] _ _
  refine J_pop (v := .int r) rfl (dk_L_law 672 _ rfl) ?_
  refine J_aload_n (i := 2) (a := 2) rfl rfl (dk_L_law 673 _ rfl) ?_
  refine J_sarg (k := 1) (dk_L_law 674 _ rfl) (dk_L_law 675 _ rfl) (dk_L_law 676 _ rfl) (by decide) (dk_L_law 677 _ rfl) (dk_L_law 678 _ rfl) (by omega) (by omega) ?_
  refine J_mc (ι := uI) (d' := 11) (As := [.int (xs (i + 1))]) ok_X7_forged vi_X7_forged cl_8_82 (n := 1) (by decide +kernel) rfl rfl (Nat.le_of_ble_eq_true rfl) (by decide) (dk_L_law 679 _ rfl) rfl (c_X7_forged mm ((xs (i + 1)))) h2 rfl ?_
  show J _ _ _ _ _ _ _ _ _ [.int r] _ _
  refine J_pop (v := .int r) rfl (dk_L_law 682 _ rfl) ?_
  refine J_goto (tgt := 1306) (by decide) (dk_L_law 683 _ rfl) ?_
  exact next _ _ hR
set_option maxHeartbeats 4000000 in
set_option maxRecDepth 1000000 in
theorem law_c16 (hL : L ≤ 3072) (hi : i + 6 ≤ L) (next : ∀ mx mm, RR mx mm → J m_L_law true L xs 24 kc ks 1306 (zI i) [] (HH mx mm) lawQ) {mx mm : mM} (h : RR mx mm) : J m_L_law true L xs 24 kc ks 686 (zI i) [] (HH mx mm) lawQ := by
  obtain ⟨r, mx1, mm1, h1, h2, hR⟩ := op_change h ((xs (i + 1)))
  refine J_aload_n (i := 1) (a := 1) rfl rfl (dk_L_law 686 _ rfl) ?_
  refine J_sarg (k := 1) (dk_L_law 687 _ rfl) (dk_L_law 688 _ rfl) (dk_L_law 689 _ rfl) (by decide) (dk_L_law 690 _ rfl) (dk_L_law 691 _ rfl) (by omega) (by omega) ?_
  refine J_xc (ι := uI) (d' := 9) (As := [.int (xs (i + 1))]) ok_X6_change vi_X6_change cl_8_83 (n := 1) (by decide +kernel) rfl rfl (Nat.le_of_ble_eq_true rfl) (by decide) (dk_L_law 692 _ rfl) rfl (c_X6_change mx ((xs (i + 1)))) h1 rfl ?_
  show J _ _ _ _ _ _ _ _ _ [.int r] _ _
  refine J_pop (v := .int r) rfl (dk_L_law 695 _ rfl) ?_
  refine J_aload_n (i := 2) (a := 2) rfl rfl (dk_L_law 696 _ rfl) ?_
  refine J_sarg (k := 1) (dk_L_law 697 _ rfl) (dk_L_law 698 _ rfl) (dk_L_law 699 _ rfl) (by decide) (dk_L_law 700 _ rfl) (dk_L_law 701 _ rfl) (by omega) (by omega) ?_
  refine J_mc (ι := uI) (d' := 13) (As := [.int (xs (i + 1))]) ok_X7_change vi_X7_change cl_8_86 (n := 1) (by decide +kernel) rfl rfl (Nat.le_of_ble_eq_true rfl) (by decide) (dk_L_law 702 _ rfl) rfl (c_X7_change mm ((xs (i + 1)))) h2 rfl ?_
  show J _ _ _ _ _ _ _ _ _ [.int r] _ _
  refine J_pop (v := .int r) rfl (dk_L_law 705 _ rfl) ?_
  refine J_goto (tgt := 1306) (by decide) (dk_L_law 706 _ rfl) ?_
  exact next _ _ hR
set_option maxHeartbeats 4000000 in
set_option maxRecDepth 1000000 in
theorem law_c17 (hL : L ≤ 3072) (hi : i + 6 ≤ L) (next : ∀ mx mm, RR mx mm → J m_L_law true L xs 24 kc ks 1306 (zI i) [] (HH mx mm) lawQ) {mx mm : mM} (h : RR mx mm) : J m_L_law true L xs 24 kc ks 709 (zI i) [] (HH mx mm) lawQ := by
  obtain ⟨r, mx1, mm1, h1, h2, hR⟩ := op_rest h ((xs (i + 1)))
  refine J_aload_n (i := 1) (a := 1) rfl rfl (dk_L_law 709 _ rfl) ?_
  refine J_sarg (k := 1) (dk_L_law 710 _ rfl) (dk_L_law 711 _ rfl) (dk_L_law 712 _ rfl) (by decide) (dk_L_law 713 _ rfl) (dk_L_law 714 _ rfl) (by omega) (by omega) ?_
  refine J_xc (ι := uI) (d' := 9) (As := [.int (xs (i + 1))]) ok_X6_rest vi_X6_rest cl_8_87 (n := 1) (by decide +kernel) rfl rfl (Nat.le_of_ble_eq_true rfl) (by decide) (dk_L_law 715 _ rfl) rfl (c_X6_rest mx ((xs (i + 1)))) h1 rfl ?_
  show J _ _ _ _ _ _ _ _ _ [.int r] _ _
  refine J_pop (v := .int r) rfl (dk_L_law 718 _ rfl) ?_
  refine J_aload_n (i := 2) (a := 2) rfl rfl (dk_L_law 719 _ rfl) ?_
  refine J_sarg (k := 1) (dk_L_law 720 _ rfl) (dk_L_law 721 _ rfl) (dk_L_law 722 _ rfl) (by decide) (dk_L_law 723 _ rfl) (dk_L_law 724 _ rfl) (by omega) (by omega) ?_
  refine J_mc (ι := uI) (d' := 14) (As := [.int (xs (i + 1))]) ok_X7_rest vi_X7_rest cl_8_90 (n := 1) (by decide +kernel) rfl rfl (Nat.le_of_ble_eq_true rfl) (by decide) (dk_L_law 725 _ rfl) rfl (c_X7_rest mm ((xs (i + 1)))) h2 rfl ?_
  show J _ _ _ _ _ _ _ _ _ [.int r] _ _
  refine J_pop (v := .int r) rfl (dk_L_law 728 _ rfl) ?_
  refine J_goto (tgt := 1306) (by decide) (dk_L_law 729 _ rfl) ?_
  exact next _ _ hR
end LAW
