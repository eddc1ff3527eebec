-- 25d1.law.lean.txt
section
/-! THE LAW, a case a call (by program: wip/gen/law2.py) -/
section LAW
variable {L i : Nat} {xs : Nat → Int32} {kc ks : Nat}
set_option maxHeartbeats 4000000 in
set_option maxRecDepth 1000000 in
theorem law_c0 (hL : L ≤ 3072) (hi : i + 6 ≤ L) (next : ∀ mx mm, RR mx mm → J m_L_law true L xs 24 kc ks 1306 (zI i) [] (HH mx mm) lawQ) {mx mm : mM} (h : RR mx mm) : J m_L_law true L xs 24 kc ks 192 (zI i) [] (HH mx mm) lawQ := by
  obtain ⟨r, mx1, mm1, h1, h2, hR⟩ := op_person h ((xs (i + 1))) ((xs (i + 2))) ((xs (i + 3))) ((xs (i + 4)))
  refine J_aload_n (i := 1) (a := 1) rfl rfl (dk_L_law 192 _ rfl) ?_
  refine J_sarg (k := 1) (dk_L_law 193 _ rfl) (dk_L_law 194 _ rfl) (dk_L_law 195 _ rfl) (by decide) (dk_L_law 196 _ rfl) (dk_L_law 197 _ rfl) (by omega) (by omega) ?_
  refine J_sarg (k := 2) (dk_L_law 198 _ rfl) (dk_L_law 199 _ rfl) (dk_L_law 200 _ rfl) (by decide) (dk_L_law 201 _ rfl) (dk_L_law 202 _ rfl) (by omega) (by omega) ?_
  refine J_sarg (k := 3) (dk_L_law 203 _ rfl) (dk_L_law 204 _ rfl) (dk_L_law 205 _ rfl) (by decide) (dk_L_law 206 _ rfl) (dk_L_law 207 _ rfl) (by omega) (by omega) ?_
  refine J_sarg (k := 4) (dk_L_law 208 _ rfl) (dk_L_law 209 _ rfl) (dk_L_law 210 _ rfl) (by decide) (dk_L_law 211 _ rfl) (dk_L_law 212 _ rfl) (by omega) (by omega) ?_
  refine J_xc (ι := uI) (d' := 3) (As := [.int (xs (i + 1)), .int (xs (i + 2)), .int (xs (i + 3)), .int (xs (i + 4))]) ok_X6_person vi_X6_person cl_8_13 (n := 4) (by decide +kernel) rfl rfl (Nat.le_of_ble_eq_true rfl) (by decide) (dk_L_law 213 _ rfl) rfl (c_X6_person mx ((xs (i + 1))) ((xs (i + 2))) ((xs (i + 3))) ((xs (i + 4)))) h1 rfl ?_
  show J _ _ _ _ _ _ _ _ _ [.int r] _ _
  refine J_pop (v := .int r) rfl (dk_L_law 216 _ rfl) ?_
  refine J_aload_n (i := 2) (a := 2) rfl rfl (dk_L_law 217 _ rfl) ?_
  refine J_sarg (k := 1) (dk_L_law 218 _ rfl) (dk_L_law 219 _ rfl) (dk_L_law 220 _ rfl) (by decide) (dk_L_law 221 _ rfl) (dk_L_law 222 _ rfl) (by omega) (by omega) ?_
  refine J_sarg (k := 2) (dk_L_law 223 _ rfl) (dk_L_law 224 _ rfl) (dk_L_law 225 _ rfl) (by decide) (dk_L_law 226 _ rfl) (dk_L_law 227 _ rfl) (by omega) (by omega) ?_
  refine J_sarg (k := 3) (dk_L_law 228 _ rfl) (dk_L_law 229 _ rfl) (dk_L_law 230 _ rfl) (by decide) (dk_L_law 231 _ rfl) (dk_L_law 232 _ rfl) (by omega) (by omega) ?_
  refine J_sarg (k := 4) (dk_L_law 233 _ rfl) (dk_L_law 234 _ rfl) (dk_L_law 235 _ rfl) (by decide) (dk_L_law 236 _ rfl) (dk_L_law 237 _ rfl) (by omega) (by omega) ?_
  refine J_mc (ι := uI) (d' := 4) (As := [.int (xs (i + 1)), .int (xs (i + 2)), .int (xs (i + 3)), .int (xs (i + 4))]) ok_X7_person vi_X7_person cl_8_17 (n := 4) (by decide +kernel) rfl rfl (Nat.le_of_ble_eq_true rfl) (by decide) (dk_L_law 238 _ rfl) rfl (c_X7_person mm ((xs (i + 1))) ((xs (i + 2))) ((xs (i + 3))) ((xs (i + 4)))) h2 rfl ?_
  show J _ _ _ _ _ _ _ _ _ [.int r] _ _
  refine J_pop (v := .int r) rfl (dk_L_law 241 _ rfl) ?_
  refine J_goto (tgt := 1306) (by decide) (dk_L_law 242 _ rfl) ?_
  exact next _ _ hR
set_option maxHeartbeats 4000000 in
set_option maxRecDepth 1000000 in
theorem law_c1 (hL : L ≤ 3072) (hi : i + 6 ≤ L) (next : ∀ mx mm, RR mx mm → J m_L_law true L xs 24 kc ks 1306 (zI i) [] (HH mx mm) lawQ) {mx mm : mM} (h : RR mx mm) : J m_L_law true L xs 24 kc ks 245 (zI i) [] (HH mx mm) lawQ := by
  obtain ⟨r, mx1, mm1, h1, h2, hR⟩ := op_of h ((xs (i + 1))) ((xs (i + 2)))
  refine J_aload_n (i := 1) (a := 1) rfl rfl (dk_L_law 245 _ rfl) ?_
  refine J_sarg (k := 1) (dk_L_law 246 _ rfl) (dk_L_law 247 _ rfl) (dk_L_law 248 _ rfl) (by decide) (dk_L_law 249 _ rfl) (dk_L_law 250 _ rfl) (by omega) (by omega) ?_
  refine J_sarg (k := 2) (dk_L_law 251 _ rfl) (dk_L_law 252 _ rfl) (dk_L_law 253 _ rfl) (by decide) (dk_L_law 254 _ rfl) (dk_L_law 255 _ rfl) (by omega) (by omega) ?_
  refine J_xc (ι := uI) (d' := 6) (As := [.int (xs (i + 1)), .int (xs (i + 2))]) ok_X6_of vi_X6_of cl_8_18 (n := 2) (by decide +kernel) rfl rfl (Nat.le_of_ble_eq_true rfl) (by decide) (dk_L_law 256 _ rfl) rfl (c_X6_of mx ((xs (i + 1))) ((xs (i + 2)))) h1 rfl ?_
  show J _ _ _ _ _ _ _ _ _ [.int r] _ _
  refine J_pop (v := .int r) rfl (dk_L_law 259 _ rfl) ?_
  refine J_aload_n (i := 2) (a := 2) rfl rfl (dk_L_law 260 _ rfl) ?_
  refine J_sarg (k := 1) (dk_L_law 261 _ rfl) (dk_L_law 262 _ rfl) (dk_L_law 263 _ rfl) (by decide) (dk_L_law 264 _ rfl) (dk_L_law 265 _ rfl) (by omega) (by omega) ?_
  refine J_sarg (k := 2) (dk_L_law 266 _ rfl) (dk_L_law 267 _ rfl) (dk_L_law 268 _ rfl) (by decide) (dk_L_law 269 _ rfl) (dk_L_law 270 _ rfl) (by omega) (by omega) ?_
  refine J_mc (ι := uI) (d' := 8) (As := [.int (xs (i + 1)), .int (xs (i + 2))]) ok_X7_of vi_X7_of cl_8_22 (n := 2) (by decide +kernel) rfl rfl (Nat.le_of_ble_eq_true rfl) (by decide) (dk_L_law 271 _ rfl) rfl (c_X7_of mm ((xs (i + 1))) ((xs (i + 2)))) h2 rfl ?_
  show J _ _ _ _ _ _ _ _ _ [.int r] _ _
  refine J_pop (v := .int r) rfl (dk_L_law 274 _ rfl) ?_
  refine J_goto (tgt := 1306) (by decide) (dk_L_law 275 _ rfl) ?_
  exact next _ _ hR
set_option maxHeartbeats 4000000 in
set_option maxRecDepth 1000000 in
theorem law_c2 (hL : L ≤ 3072) (hi : i + 6 ≤ L) (next : ∀ mx mm, RR mx mm → J m_L_law true L xs 24 kc ks 1306 (zI i) [] (HH mx mm) lawQ) {mx mm : mM} (h : RR mx mm) : J m_L_law true L xs 24 kc ks 278 (zI i) [] (HH mx mm) lawQ := by
  obtain ⟨r, mx1, mm1, h1, h2, hR⟩ := op_set h ((xs (i + 1))) ((xs (i + 2))) ((xs (i + 3)))
  refine J_aload_n (i := 1) (a := 1) rfl rfl (dk_L_law 278 _ rfl) ?_
  refine J_sarg (k := 1) (dk_L_law 279 _ rfl) (dk_L_law 280 _ rfl) (dk_L_law 281 _ rfl) (by decide) (dk_L_law 282 _ rfl) (dk_L_law 283 _ rfl) (by omega) (by omega) ?_
  refine J_sarg (k := 2) (dk_L_law 284 _ rfl) (dk_L_law 285 _ rfl) (dk_L_law 286 _ rfl) (by decide) (dk_L_law 287 _ rfl) (dk_L_law 288 _ rfl) (by omega) (by omega) ?_
  refine J_sarg (k := 3) (dk_L_law 289 _ rfl) (dk_L_law 290 _ rfl) (dk_L_law 291 _ rfl) (by decide) (dk_L_law 292 _ rfl) (dk_L_law 293 _ rfl) (by omega) (by omega) ?_
  refine J_xc (ι := uI) (d' := 3) (As := [.int (xs (i + 1)), .int (xs (i + 2)), .int (xs (i + 3))]) ok_X6_set vi_X6_set cl_8_23 (n := 3) (by decide +kernel) rfl rfl (Nat.le_of_ble_eq_true rfl) (by decide) (dk_L_law 294 _ rfl) rfl (c_X6_set mx ((xs (i + 1))) ((xs (i + 2))) ((xs (i + 3)))) h1 rfl ?_
  show J _ _ _ _ _ _ _ _ _ [.int r] _ _
  refine J_pop (v := .int r) rfl (dk_L_law 297 _ rfl) ?_
  refine J_aload_n (i := 2) (a := 2) rfl rfl (dk_L_law 298 _ rfl) ?_
  refine J_sarg (k := 1) (dk_L_law 299 _ rfl) (dk_L_law 300 _ rfl) (dk_L_law 301 _ rfl) (by decide) (dk_L_law 302 _ rfl) (dk_L_law 303 _ rfl) (by omega) (by omega) ?_
  refine J_sarg (k := 2) (dk_L_law 304 _ rfl) (dk_L_law 305 _ rfl) (dk_L_law 306 _ rfl) (by decide) (dk_L_law 307 _ rfl) (dk_L_law 308 _ rfl) (by omega) (by omega) ?_
  refine J_sarg (k := 3) (dk_L_law 309 _ rfl) (dk_L_law 310 _ rfl) (dk_L_law 311 _ rfl) (by decide) (dk_L_law 312 _ rfl) (dk_L_law 313 _ rfl) (by omega) (by omega) ?_
  refine J_mc (ι := uI) (d' := 4) (As := [.int (xs (i + 1)), .int (xs (i + 2)), .int (xs (i + 3))]) ok_X7_set vi_X7_set cl_8_27 (n := 3) (by decide +kernel) rfl rfl (Nat.le_of_ble_eq_true rfl) (by decide) (dk_L_law 314 _ rfl) rfl (c_X7_set mm ((xs (i + 1))) ((xs (i + 2))) ((xs (i + 3)))) h2 rfl ?_
  show J _ _ _ _ _ _ _ _ _ [.int r] _ _
  refine J_pop (v := .int r) rfl (dk_L_law 317 _ rfl) ?_
  refine J_goto (tgt := 1306) (by decide) (dk_L_law 318 _ rfl) ?_
  exact next _ _ hR
set_option maxHeartbeats 4000000 in
set_option maxRecDepth 1000000 in
theorem law_c3 (hL : L ≤ 3072) (hi : i + 6 ≤ L) (next : ∀ mx mm, RR mx mm → J m_L_law true L xs 24 kc ks 1306 (zI i) [] (HH mx mm) lawQ) {mx mm : mM} (h : RR mx mm) : J m_L_law true L xs 24 kc ks 321 (zI i) [] (HH mx mm) lawQ := by
  have kx : ∀ b : Int32, (b = if (xs (i + 2)) = 0 then 0 else 1) → J m_L_law true L xs 24 kc ks 340 (zI i) [.int b, .int (xs (i + 1)), .ref 0] (HH mx mm) lawQ := by
    intro b hb
    have hb2 : b = 0 ∨ b = 1 := by rw [hb]; split; exact Or.inl rfl; exact Or.inr rfl
    obtain ⟨r, mx1, mm1, h1, h2, hR⟩ := op_there h (xs (i + 1)) b hb2
    refine J_xc (ι := uI) (d' := 3) (As := [.int (xs (i + 1)), .int b]) ok_X6_there vi_X6_there cl_8_28 (n := 2) (by decide +kernel) rfl rfl (Nat.le_of_ble_eq_true rfl) (by decide) (dk_L_law 340 _ rfl) rfl (c_X6_there mx ((xs (i + 1))) (b)) h1 rfl ?_
    show J _ _ _ _ _ _ _ _ _ [.int r] _ _
    refine J_pop (v := .int r) rfl (dk_L_law 343 _ rfl) ?_
    refine J_aload_n (i := 2) (a := 2) rfl rfl (dk_L_law 344 _ rfl) ?_
    refine J_sarg (k := 1) (dk_L_law 345 _ rfl) (dk_L_law 346 _ rfl) (dk_L_law 347 _ rfl) (by decide) (dk_L_law 348 _ rfl) (dk_L_law 349 _ rfl) (by omega) (by omega) ?_
    refine J_sarg (k := 2) (dk_L_law 350 _ rfl) (dk_L_law 351 _ rfl) (dk_L_law 352 _ rfl) (by decide) (dk_L_law 353 _ rfl) (dk_L_law 354 _ rfl) (by omega) (by omega) ?_
    have km : J m_L_law true L xs 24 kc ks 363 (zI i) [.int b, .int (xs (i + 1)), .ref 94] (HH mx1 mm) lawQ := by
      refine J_mc (ι := uI) (d' := 4) (As := [.int (xs (i + 1)), .int b]) ok_X7_there vi_X7_there cl_8_32 (n := 2) (by decide +kernel) rfl rfl (Nat.le_of_ble_eq_true rfl) (by decide) (dk_L_law 363 _ rfl) rfl (c_X7_there mm ((xs (i + 1))) (b)) h2 rfl ?_
      show J _ _ _ _ _ _ _ _ _ [.int r] _ _
      refine J_pop (v := .int r) rfl (dk_L_law 366 _ rfl) ?_
      refine J_goto (tgt := 1306) (by decide) (dk_L_law 367 _ rfl) ?_
      exact next _ _ hR
    refine J_if_eq (tgt := 362) (by decide) (dk_L_law 355 _ rfl) (fun hc => ?_) (fun hc => ?_)
    · have hz : (xs (i + 2)) = 0 := hc
      refine J_iconst (v := 0) (by decide) (dk_L_law 362 _ rfl) ?_
      rw [if_pos hz] at hb; subst hb; exact km
    · have hz : ¬ (xs (i + 2)) = 0 := hc
      refine J_iconst (v := 1) (by decide) (dk_L_law 358 _ rfl) ?_
      refine J_goto (tgt := 363) (by decide) (dk_L_law 359 _ rfl) ?_
      rw [if_neg hz] at hb; subst hb; exact km
  refine J_aload_n (i := 1) (a := 1) rfl rfl (dk_L_law 321 _ rfl) ?_
  refine J_sarg (k := 1) (dk_L_law 322 _ rfl) (dk_L_law 323 _ rfl) (dk_L_law 324 _ rfl) (by decide) (dk_L_law 325 _ rfl) (dk_L_law 326 _ rfl) (by omega) (by omega) ?_
  refine J_sarg (k := 2) (dk_L_law 327 _ rfl) (dk_L_law 328 _ rfl) (dk_L_law 329 _ rfl) (by decide) (dk_L_law 330 _ rfl) (dk_L_law 331 _ rfl) (by omega) (by omega) ?_
  refine J_if_eq (tgt := 339) (by decide) (dk_L_law 332 _ rfl) (fun hc => ?_) (fun hc => ?_)
  · have hz : (xs (i + 2)) = 0 := hc
    refine J_iconst (v := 0) (by decide) (dk_L_law 339 _ rfl) ?_
    exact kx 0 (by rw [if_pos hz])
  · have hz : ¬ (xs (i + 2)) = 0 := hc
    refine J_iconst (v := 1) (by decide) (dk_L_law 335 _ rfl) ?_
    refine J_goto (tgt := 340) (by decide) (dk_L_law 336 _ rfl) ?_
    exact kx 1 (by rw [if_neg hz])
set_option maxHeartbeats 4000000 in
set_option maxRecDepth 1000000 in
theorem law_c4 (hL : L ≤ 3072) (hi : i + 6 ≤ L) (next : ∀ mx mm, RR mx mm → J m_L_law true L xs 24 kc ks 1306 (zI i) [] (HH mx mm) lawQ) {mx mm : mM} (h : RR mx mm) : J m_L_law true L xs 24 kc ks 370 (zI i) [] (HH mx mm) lawQ := by
  obtain ⟨r, mx1, mm1, h1, h2, hR⟩ := op_row h ((xs (i + 1))) ((xs (i + 2))) ((xs (i + 3)))
  refine J_aload_n (i := 1) (a := 1) rfl rfl (dk_L_law 370 _ rfl) ?_
  refine J_sarg (k := 1) (dk_L_law 371 _ rfl) (dk_L_law 372 _ rfl) (dk_L_law 373 _ rfl) (by decide) (dk_L_law 374 _ rfl) (dk_L_law 375 _ rfl) (by omega) (by omega) ?_
  refine J_sarg (k := 2) (dk_L_law 376 _ rfl) (dk_L_law 377 _ rfl) (dk_L_law 378 _ rfl) (by decide) (dk_L_law 379 _ rfl) (dk_L_law 380 _ rfl) (by omega) (by omega) ?_
  refine J_sarg (k := 3) (dk_L_law 381 _ rfl) (dk_L_law 382 _ rfl) (dk_L_law 383 _ rfl) (by decide) (dk_L_law 384 _ rfl) (dk_L_law 385 _ rfl) (by omega) (by omega) ?_
  refine J_xc (ι := uI) (d' := 3) (As := [.int (xs (i + 1)), .int (xs (i + 2)), .int (xs (i + 3))]) ok_X6_row vi_X6_row cl_8_33 (n := 3) (by decide +kernel) rfl rfl (Nat.le_of_ble_eq_true rfl) (by decide) (dk_L_law 386 _ rfl) rfl (c_X6_row mx ((xs (i + 1))) ((xs (i + 2))) ((xs (i + 3)))) h1 rfl ?_
  show J _ _ _ _ _ _ _ _ _ [.int r] _ _
  refine J_pop (v := .int r) rfl (dk_L_law 389 _ rfl) ?_
  refine J_aload_n (i := 2) (a := 2) rfl rfl (dk_L_law 390 _ rfl) ?_
  refine J_sarg (k := 1) (dk_L_law 391 _ rfl) (dk_L_law 392 _ rfl) (dk_L_law 393 _ rfl) (by decide) (dk_L_law 394 _ rfl) (dk_L_law 395 _ rfl) (by omega) (by omega) ?_
  refine J_sarg (k := 2) (dk_L_law 396 _ rfl) (dk_L_law 397 _ rfl) (dk_L_law 398 _ rfl) (by decide) (dk_L_law 399 _ rfl) (dk_L_law 400 _ rfl) (by omega) (by omega) ?_
  refine J_sarg (k := 3) (dk_L_law 401 _ rfl) (dk_L_law 402 _ rfl) (dk_L_law 403 _ rfl) (by decide) (dk_L_law 404 _ rfl) (dk_L_law 405 _ rfl) (by omega) (by omega) ?_
  refine J_mc (ι := uI) (d' := 4) (As := [.int (xs (i + 1)), .int (xs (i + 2)), .int (xs (i + 3))]) ok_X7_row vi_X7_row cl_8_36 (n := 3) (by decide +kernel) rfl rfl (Nat.le_of_ble_eq_true rfl) (by decide) (dk_L_law 406 _ rfl) rfl (c_X7_row mm ((xs (i + 1))) ((xs (i + 2))) ((xs (i + 3)))) h2 rfl ?_
  show J _ _ _ _ _ _ _ _ _ [.int r] _ _
  refine J_pop (v := .int r) rfl (dk_L_law 409 _ rfl) ?_
  refine J_goto (tgt := 1306) (by decide) (dk_L_law 410 _ rfl) ?_
  exact next _ _ hR
set_option maxHeartbeats 4000000 in
set_option maxRecDepth 1000000 in
theorem law_c5 (hL : L ≤ 3072) (hi : i + 6 ≤ L) (next : ∀ mx mm, RR mx mm → J m_L_law true L xs 24 kc ks 1306 (zI i) [] (HH mx mm) lawQ) {mx mm : mM} (h : RR mx mm) : J m_L_law true L xs 24 kc ks 413 (zI i) [] (HH mx mm) lawQ := by
  obtain ⟨r, mx1, mm1, h1, h2, hR⟩ := op_feed h ((xs (i + 1)))
  refine J_aload_n (i := 1) (a := 1) rfl rfl (dk_L_law 413 _ rfl) ?_
  refine J_sarg (k := 1) (dk_L_law 414 _ rfl) (dk_L_law 415 _ rfl) (dk_L_law 416 _ rfl) (by decide) (dk_L_law 417 _ rfl) (dk_L_law 418 _ rfl) (by omega) (by omega) ?_
  refine J_xc (ι := uI) (d' := 2) (As := [.int (xs (i + 1))]) ok_X6_feed vi_X6_feed cl_8_37 (n := 1) (by decide +kernel) rfl rfl (Nat.le_of_ble_eq_true rfl) (by decide) (dk_L_law 419 _ rfl) rfl (c_X6_feed mx ((xs (i + 1)))) h1 rfl ?_
  show J _ _ _ _ _ _ _ _ _ [.int r] _ _
  refine J_pop (v := .int r) rfl (dk_L_law 422 _ rfl) ?_
  refine J_aload_n (i := 2) (a := 2) rfl rfl (dk_L_law 423 _ rfl) ?_
  refine J_sarg (k := 1) (dk_L_law 424 _ rfl) (dk_L_law 425 _ rfl) (dk_L_law 426 _ rfl) (by decide) (dk_L_law 427 _ rfl) (dk_L_law 428 _ rfl) (by omega) (by omega) ?_
  refine J_mc (ι := uI) (d' := 3) (As := [.int (xs (i + 1))]) ok_X7_feed vi_X7_feed cl_8_41 (n := 1) (by decide +kernel) rfl rfl (Nat.le_of_ble_eq_true rfl) (by decide) (dk_L_law 429 _ rfl) rfl (c_X7_feed mm ((xs (i + 1)))) h2 rfl ?_
  show J _ _ _ _ _ _ _ _ _ [.int r] _ _
  refine J_pop (v := .int r) rfl (dk_L_law 432 _ rfl) ?_
  refine J_goto (tgt := 1306) (by decide) (dk_L_law 433 _ rfl) ?_
  exact next _ _ hR
set_option maxHeartbeats 4000000 in
set_option maxRecDepth 1000000 in
theorem law_c6 (hL : L ≤ 3072) (hi : i + 6 ≤ L) (next : ∀ mx mm, RR mx mm → J m_L_law true L xs 24 kc ks 1306 (zI i) [] (HH mx mm) lawQ) {mx mm : mM} (h : RR mx mm) : J m_L_law true L xs 24 kc ks 436 (zI i) [] (HH mx mm) lawQ := by
  obtain ⟨r, mx1, mm1, h1, h2, hR⟩ := op_town h 
  refine J_aload_n (i := 1) (a := 1) rfl rfl (dk_L_law 436 _ rfl) ?_
  refine J_xc (ι := uI) (d' := 22) (As := []) ok_X6_town vi_X6_town cl_8_42 (n := 0) (by decide +kernel) rfl rfl (Nat.le_of_ble_eq_true rfl) (by decide) (dk_L_law 437 _ rfl) rfl (c_X6_town mx ) h1 rfl ?_
  show J _ _ _ _ _ _ _ _ _ [.int r] _ _
  refine J_pop (v := .int r) rfl (dk_L_law 440 _ rfl) ?_
  refine J_aload_n (i := 2) (a := 2) rfl rfl (dk_L_law 441 _ rfl) ?_
  refine J_mc (ι := uI) (d' := 9) (As := []) ok_X7_town vi_X7_town cl_8_46 (n := 0) (by decide +kernel) rfl rfl (Nat.le_of_ble_eq_true rfl) (by decide) (dk_L_law 442 _ rfl) rfl (c_X7_town mm ) h2 rfl ?_
  show J _ _ _ _ _ _ _ _ _ [.int r] _ _
  refine J_pop (v := .int r) rfl (dk_L_law 445 _ rfl) ?_
  refine J_goto (tgt := 1306) (by decide) (dk_L_law 446 _ rfl) ?_
  exact next _ _ hR
set_option maxHeartbeats 4000000 in
set_option maxRecDepth 1000000 in
theorem law_c7 (hL : L ≤ 3072) (hi : i + 6 ≤ L) (next : ∀ mx mm, RR mx mm → J m_L_law true L xs 24 kc ks 1306 (zI i) [] (HH mx mm) lawQ) {mx mm : mM} (h : RR mx mm) : J m_L_law true L xs 24 kc ks 449 (zI i) [] (HH mx mm) lawQ := by
  obtain ⟨r, r2, mx1, mm1, h1, h2, hR⟩ := (op_told_t h ((xs (i + 1)))).1
  refine J_aload_n (i := 1) (a := 1) rfl rfl (dk_L_law 449 _ rfl) ?_
  refine J_sarg (k := 1) (dk_L_law 450 _ rfl) (dk_L_law 451 _ rfl) (dk_L_law 452 _ rfl) (by decide) (dk_L_law 453 _ rfl) (dk_L_law 454 _ rfl) (by omega) (by omega) ?_
  refine J_xc (ι := uI) (d' := 7) (As := [.int (xs (i + 1))]) ok_X6_told vi_X6_told cl_8_47 (n := 1) (by decide +kernel) rfl rfl (Nat.le_of_ble_eq_true rfl) (by decide) (dk_L_law 455 _ rfl) rfl (c_X6_told mx ((xs (i + 1)))) h1 rfl ?_
  show J _ _ _ _ _ _ _ _ _ [.int r] _ _
  refine J_pop (v := .int r) rfl (dk_L_law 458 _ rfl) ?_
  refine J_aload_n (i := 2) (a := 2) rfl rfl (dk_L_law 459 _ rfl) ?_
  refine J_sarg (k := 1) (dk_L_law 460 _ rfl) (dk_L_law 461 _ rfl) (dk_L_law 462 _ rfl) (by decide) (dk_L_law 463 _ rfl) (dk_L_law 464 _ rfl) (by omega) (by omega) ?_
  refine J_mc (ι := uI) (d' := 8) (As := [.int (xs (i + 1))]) ok_X7_told vi_X7_told cl_8_50 (n := 1) (by decide +kernel) rfl rfl (Nat.le_of_ble_eq_true rfl) (by decide) (dk_L_law 465 _ rfl) rfl (c_X7_told mm ((xs (i + 1)))) h2 rfl ?_
  show J _ _ _ _ _ _ _ _ _ [.int r2] _ _
  refine J_pop (v := .int r2) rfl (dk_L_law 468 _ rfl) ?_
  refine J_goto (tgt := 1306) (by decide) (dk_L_law 469 _ rfl) ?_
  exact next _ _ hR
set_option maxHeartbeats 4000000 in
set_option maxRecDepth 1000000 in
theorem law_c8 (hL : L ≤ 3072) (hi : i + 6 ≤ L) (next : ∀ mx mm, RR mx mm → J m_L_law true L xs 24 kc ks 1306 (zI i) [] (HH mx mm) lawQ) {mx mm : mM} (h : RR mx mm) : J m_L_law true L xs 24 kc ks 472 (zI i) [] (HH mx mm) lawQ := by
  obtain ⟨r, mx1, mm1, h1, h2, hR⟩ := op_day h 
  refine J_aload_n (i := 1) (a := 1) rfl rfl (dk_L_law 472 _ rfl) ?_
  refine J_xc (ι := uI) (d' := 7) (As := []) ok_X6_day vi_X6_day cl_8_51 (n := 0) (by decide +kernel) rfl rfl (Nat.le_of_ble_eq_true rfl) (by decide) (dk_L_law 473 _ rfl) rfl (c_X6_day mx ) h1 rfl ?_
  show J _ _ _ _ _ _ _ _ _ [.int r] _ _
  refine J_pop (v := .int r) rfl (dk_L_law 476 _ rfl) ?_
  refine J_aload_n (i := 2) (a := 2) rfl rfl (dk_L_law 477 _ rfl) ?_
  refine J_mc (ι := uI) (d' := 9) (As := []) ok_X7_day vi_X7_day cl_8_54 (n := 0) (by decide +kernel) rfl rfl (Nat.le_of_ble_eq_true rfl) (by decide) (dk_L_law 478 _ rfl) rfl (c_X7_day mm ) h2 rfl ?_
  show J _ _ _ _ _ _ _ _ _ [.int r] _ _
  refine J_pop (v := .int r) rfl (dk_L_law 481 _ rfl) ?_
  refine J_goto (tgt := 1306) (by decide) (dk_L_law 482 _ rfl) ?_
  exact next _ _ hR
set_option maxHeartbeats 4000000 in
set_option maxRecDepth 1000000 in
theorem law_c9 (hL : L ≤ 3072) (hi : i + 6 ≤ L) (next : ∀ mx mm, RR mx mm → J m_L_law true L xs 24 kc ks 1306 (zI i) [] (HH mx mm) lawQ) {mx mm : mM} (h : RR mx mm) : J m_L_law true L xs 24 kc ks 485 (zI i) [] (HH mx mm) lawQ := by
  obtain ⟨r, mx1, mm1, h1, h2, hR⟩ := op_by h ((xs (i + 1))) ((xs (i + 2))) ((xs (i + 3)))
  refine J_aload_n (i := 1) (a := 1) rfl rfl (dk_L_law 485 _ rfl) ?_
  refine J_sarg (k := 1) (dk_L_law 486 _ rfl) (dk_L_law 487 _ rfl) (dk_L_law 488 _ rfl) (by decide) (dk_L_law 489 _ rfl) (dk_L_law 490 _ rfl) (by omega) (by omega) ?_
  refine J_sarg (k := 2) (dk_L_law 491 _ rfl) (dk_L_law 492 _ rfl) (dk_L_law 493 _ rfl) (by decide) (dk_L_law 494 _ rfl) (dk_L_law 495 _ rfl) (by omega) (by omega) ?_
  refine J_sarg (k := 3) (dk_L_law 496 _ rfl) (dk_L_law 497 _ rfl) (dk_L_law 498 _ rfl) (by decide) (dk_L_law 499 _ rfl) (dk_L_law 500 _ rfl) (by omega) (by omega) ?_
  refine J_xc (ι := uI) (d' := 7) (As := [.int (xs (i + 1)), .int (xs (i + 2)), .int (xs (i + 3))]) ok_X6_by vi_X6_by cl_8_55 (n := 3) (by decide +kernel) rfl rfl (Nat.le_of_ble_eq_true rfl) (by decide) (dk_L_law 501 _ rfl) rfl (c_X6_by mx ((xs (i + 1))) ((xs (i + 2))) ((xs (i + 3)))) h1 rfl ?_
  show J _ _ _ _ _ _ _ _ _ [.int r] _ _
  refine J_pop (v := .int r) rfl (dk_L_law 504 _ rfl) ?_
  refine J_aload_n (i := 2) (a := 2) rfl rfl (dk_L_law 505 _ rfl) ?_
  refine J_sarg (k := 1) (dk_L_law 506 _ rfl) (dk_L_law 507 _ rfl) (dk_L_law 508 _ rfl) (by decide) (dk_L_law 509 _ rfl) (dk_L_law 510 _ rfl) (by omega) (by omega) ?_
  refine J_sarg (k := 2) (dk_L_law 511 _ rfl) (dk_L_law 512 _ rfl) (dk_L_law 513 _ rfl) (by decide) (dk_L_law 514 _ rfl) (dk_L_law 515 _ rfl) (by omega) (by omega) ?_
  refine J_sarg (k := 3) (dk_L_law 516 _ rfl) (dk_L_law 517 _ rfl) (dk_L_law 518 _ rfl) (by decide) (dk_L_law 519 _ rfl) (dk_L_law 520 _ rfl) (by omega) (by omega) ?_
  refine J_mc (ι := uI) (d' := 9) (As := [.int (xs (i + 1)), .int (xs (i + 2)), .int (xs (i + 3))]) ok_X7_by vi_X7_by cl_8_58 (n := 3) (by decide +kernel) rfl rfl (Nat.le_of_ble_eq_true rfl) (by decide) (dk_L_law 521 _ rfl) rfl (c_X7_by mm ((xs (i + 1))) ((xs (i + 2))) ((xs (i + 3)))) h2 rfl ?_
  show J _ _ _ _ _ _ _ _ _ [.int r] _ _
  refine J_pop (v := .int r) rfl (dk_L_law 524 _ rfl) ?_
  refine J_goto (tgt := 1306) (by decide) (dk_L_law 525 _ rfl) ?_
  exact next _ _ hR
set_option maxHeartbeats 4000000 in
set_option maxRecDepth 1000000 in
theorem law_c10 (hL : L ≤ 3072) (hi : i + 6 ≤ L) (next : ∀ mx mm, RR mx mm → J m_L_law true L xs 24 kc ks 1306 (zI i) [] (HH mx mm) lawQ) {mx mm : mM} (h : RR mx mm) : J m_L_law true L xs 24 kc ks 528 (zI i) [] (HH mx mm) lawQ := by
  obtain ⟨r, mx1, mm1, h1, h2, hR⟩ := op_years h ((xs (i + 1)))
  refine J_aload_n (i := 1) (a := 1) rfl rfl (dk_L_law 528 _ rfl) ?_
  refine J_sarg (k := 1) (dk_L_law 529 _ rfl) (dk_L_law 530 _ rfl) (dk_L_law 531 _ rfl) (by decide) (dk_L_law 532 _ rfl) (dk_L_law 533 _ rfl) (by omega) (by omega) ?_
  refine J_xc (ι := uI) (d' := 8) (As := [.int (xs (i + 1))]) ok_X6_years vi_X6_years cl_8_59 (n := 1) (by decide +kernel) rfl rfl (Nat.le_of_ble_eq_true rfl) (by decide) (dk_L_law 534 _ rfl) rfl (c_X6_years mx ((xs (i + 1)))) h1 rfl ?_
  show J _ _ _ _ _ _ _ _ _ [.int r] _ _
  refine J_pop (v := .int r) rfl (dk_L_law 537 _ rfl) ?_
  refine J_aload_n (i := 2) (a := 2) rfl rfl (dk_L_law 538 _ rfl) ?_
  refine J_sarg (k := 1) (dk_L_law 539 _ rfl) (dk_L_law 540 _ rfl) (dk_L_law 541 _ rfl) (by decide) (dk_L_law 542 _ rfl) (dk_L_law 543 _ rfl) (by omega) (by omega) ?_
  refine J_mc (ι := uI) (d' := 11) (As := [.int (xs (i + 1))]) ok_X7_years vi_X7_years cl_8_62 (n := 1) (by decide +kernel) rfl rfl (Nat.le_of_ble_eq_true rfl) (by decide) (dk_L_law 544 _ rfl) rfl (c_X7_years mm ((xs (i + 1)))) h2 rfl ?_
  show J _ _ _ _ _ _ _ _ _ [.int r] _ _
  refine J_pop (v := .int r) rfl (dk_L_law 547 _ rfl) ?_
  refine J_goto (tgt := 1306) (by decide) (dk_L_law 548 _ rfl) ?_
  exact next _ _ hR
set_option maxHeartbeats 4000000 in
set_option maxRecDepth 1000000 in
theorem law_c11 (hL : L ≤ 3072) (hi : i + 6 ≤ L) (next : ∀ mx mm, RR mx mm → J m_L_law true L xs 24 kc ks 1306 (zI i) [] (HH mx mm) lawQ) {mx mm : mM} (h : RR mx mm) : J m_L_law true L xs 24 kc ks 551 (zI i) [] (HH mx mm) lawQ := by
  obtain ⟨r, mx1, mm1, h1, h2, hR⟩ := op_birth h ((xs (i + 1))) ((xs (i + 2)))
  refine J_aload_n (i := 1) (a := 1) rfl rfl (dk_L_law 551 _ rfl) ?_
  refine J_sarg (k := 1) (dk_L_law 552 _ rfl) (dk_L_law 553 _ rfl) (dk_L_law 554 _ rfl) (by decide) (dk_L_law 555 _ rfl) (dk_L_law 556 _ rfl) (by omega) (by omega) ?_
  refine J_sarg (k := 2) (dk_L_law 557 _ rfl) (dk_L_law 558 _ rfl) (dk_L_law 559 _ rfl) (by decide) (dk_L_law 560 _ rfl) (dk_L_law 561 _ rfl) (by omega) (by omega) ?_
  refine J_xc (ι := uI) (d' := 9) (As := [.int (xs (i + 1)), .int (xs (i + 2))]) ok_X6_birth vi_X6_birth cl_8_63 (n := 2) (by decide +kernel) rfl rfl (Nat.le_of_ble_eq_true rfl) (by decide) (dk_L_law 562 _ rfl) rfl (c_X6_birth mx ((xs (i + 1))) ((xs (i + 2)))) h1 rfl ?_
  show J _ _ _ _ _ _ _ _ _ [.int r] _ _
  refine J_pop (v := .int r) rfl (dk_L_law 565 _ rfl) ?_
  refine J_aload_n (i := 2) (a := 2) rfl rfl (dk_L_law 566 _ rfl) ?_
  refine J_sarg (k := 1) (dk_L_law 567 _ rfl) (dk_L_law 568 _ rfl) (dk_L_law 569 _ rfl) (by decide) (dk_L_law 570 _ rfl) (dk_L_law 571 _ rfl) (by omega) (by omega) ?_
  refine J_sarg (k := 2) (dk_L_law 572 _ rfl) (dk_L_law 573 _ rfl) (dk_L_law 574 _ rfl) (by decide) (dk_L_law 575 _ rfl) (dk_L_law 576 _ rfl) (by omega) (by omega) ?_
  refine J_mc (ι := uI) (d' := 12) (As := [.int (xs (i + 1)), .int (xs (i + 2))]) ok_X7_birth vi_X7_birth cl_8_66 (n := 2) (by decide +kernel) rfl rfl (Nat.le_of_ble_eq_true rfl) (by decide) (dk_L_law 577 _ rfl) rfl (c_X7_birth mm ((xs (i + 1))) ((xs (i + 2)))) h2 rfl ?_
  show J _ _ _ _ _ _ _ _ _ [.int r] _ _
  refine J_pop (v := .int r) rfl (dk_L_law 580 _ rfl) ?_
  refine J_goto (tgt := 1306) (by decide) (dk_L_law 581 _ rfl) ?_
  exact next _ _ hR
set_option maxHeartbeats 4000000 in
set_option maxRecDepth 1000000 in
theorem law_c12 (hL : L ≤ 3072) (hi : i + 6 ≤ L) (next : ∀ mx mm, RR mx mm → J m_L_law true L xs 24 kc ks 1306 (zI i) [] (HH mx mm) lawQ) {mx mm : mM} (h : RR mx mm) : J m_L_law true L xs 24 kc ks 584 (zI i) [] (HH mx mm) lawQ := by
  obtain ⟨r, mx1, mm1, h1, h2, hR⟩ := op_plan h ((xs (i + 1))) ((xs (i + 2)))
  refine J_aload_n (i := 1) (a := 1) rfl rfl (dk_L_law 584 _ rfl) ?_
  refine J_sarg (k := 1) (dk_L_law 585 _ rfl) (dk_L_law 586 _ rfl) (dk_L_law 587 _ rfl) (by decide) (dk_L_law 588 _ rfl) (dk_L_law 589 _ rfl) (by omega) (by omega) ?_
  refine J_sarg (k := 2) (dk_L_law 590 _ rfl) (dk_L_law 591 _ rfl) (dk_L_law 592 _ rfl) (by decide) (dk_L_law 593 _ rfl) (dk_L_law 594 _ rfl) (by omega) (by omega) ?_
  refine J_xc (ι := uI) (d' := 9) (As := [.int (xs (i + 1)), .int (xs (i + 2))]) ok_X6_plan vi_X6_plan cl_8_67 (n := 2) (by decide +kernel) rfl rfl (Nat.le_of_ble_eq_true rfl) (by decide) (dk_L_law 595 _ rfl) rfl (c_X6_plan mx ((xs (i + 1))) ((xs (i + 2)))) h1 rfl ?_
  show J _ _ _ _ _ _ _ _ _ [.int r] _ _
  refine J_pop (v := .int r) rfl (dk_L_law 598 _ rfl) ?_
  refine J_aload_n (i := 2) (a := 2) rfl rfl (dk_L_law 599 _ rfl) ?_
  refine J_sarg (k := 1) (dk_L_law 600 _ rfl) (dk_L_law 601 _ rfl) (dk_L_law 602 _ rfl) (by decide) (dk_L_law 603 _ rfl) (dk_L_law 604 _ rfl) (by omega) (by omega) ?_
  refine J_sarg (k := 2) (dk_L_law 605 _ rfl) (dk_L_law 606 _ rfl) (dk_L_law 607 _ rfl) (by decide) (dk_L_law 608 _ rfl) (dk_L_law 609 _ rfl) (by omega) (by omega) ?_
  refine J_mc (ι := uI) (d' := 12) (As := [.int (xs (i + 1)), .int (xs (i + 2))]) ok_X7_plan vi_X7_plan cl_8_70 (n := 2) (by decide +kernel) rfl rfl (Nat.le_of_ble_eq_true rfl) (by decide) (dk_L_law 610 _ rfl) rfl (c_X7_plan mm ((xs (i + 1))) ((xs (i + 2)))) h2 rfl ?_
  show J _ _ _ _ _ _ _ _ _ [.int r] _ _
  refine J_pop (v := .int r) rfl (dk_L_law 613 _ rfl) ?_
  refine J_goto (tgt := 1306) (by decide) (dk_L_law 614 _ rfl) ?_
  exact next _ _ hR
set_option maxHeartbeats 4000000 in
set_option maxRecDepth 1000000 in
theorem law_c13 (hL : L ≤ 3072) (hi : i + 6 ≤ L) (next : ∀ mx mm, RR mx mm → J m_L_law true L xs 24 kc ks 1306 (zI i) [] (HH mx mm) lawQ) {mx mm : mM} (h : RR mx mm) : J m_L_law true L xs 24 kc ks 617 (zI i) [] (HH mx mm) lawQ := by
  obtain ⟨r, mx1, mm1, h1, h2, hR⟩ := op_quiet h 
  refine J_aload_n (i := 1) (a := 1) rfl rfl (dk_L_law 617 _ rfl) ?_
  refine J_xc (ι := uI) (d' := 6) (As := []) ok_X6_quiet vi_X6_quiet cl_8_71 (n := 0) (by decide +kernel) rfl rfl (Nat.le_of_ble_eq_true rfl) (by decide) (dk_L_law 618 _ rfl) rfl (c_X6_quiet mx ) h1 rfl ?_
  show J _ _ _ _ _ _ _ _ _ [.int r] _ _
  refine J_pop (v := .int r) rfl (dk_L_law 621 _ rfl) ?_
  refine J_aload_n (i := 2) (a := 2) rfl rfl (dk_L_law 622 _ rfl) ?_
  refine J_mc (ι := uI) (d' := 8) (As := []) ok_X7_quiet vi_X7_quiet cl_8_74 (n := 0) (by decide +kernel) rfl rfl (Nat.le_of_ble_eq_true rfl) (by decide) (dk_L_law 623 _ rfl) rfl (c_X7_quiet mm ) h2 rfl ?_
  show J _ _ _ _ _ _ _ _ _ [.int r] _ _
  refine J_pop (v := .int r) rfl (dk_L_law 626 _ rfl) ?_
  refine J_goto (tgt := 1306) (by decide) (dk_L_law 627 _ rfl) ?_
  exact next _ _ hR
set_option maxHeartbeats 4000000 in
set_option maxRecDepth 1000000 in
theorem law_c14 (hL : L ≤ 3072) (hi : i + 6 ≤ L) (next : ∀ mx mm, RR mx mm → J m_L_law true L xs 24 kc ks 1306 (zI i) [] (HH mx mm) lawQ) {mx mm : mM} (h : RR mx mm) : J m_L_law true L xs 24 kc ks 630 (zI i) [] (HH mx mm) lawQ := by
  obtain ⟨r, mx1, mm1, h1, h2, hR⟩ := op_foundling h ((xs (i + 1))) ((xs (i + 2)))
  refine J_aload_n (i := 1) (a := 1) rfl rfl (dk_L_law 630 _ rfl) ?_
  refine J_sarg (k := 1) (dk_L_law 631 _ rfl) (dk_L_law 632 _ rfl) (dk_L_law 633 _ rfl) (by decide) (dk_L_law 634 _ rfl) (dk_L_law 635 _ rfl) (by omega) (by omega) ?_
  refine J_sarg (k := 2) (dk_L_law 636 _ rfl) (dk_L_law 637 _ rfl) (dk_L_law 638 _ rfl) (by decide) (dk_L_law 639 _ rfl) (dk_L_law 640 _ rfl) (by omega) (by omega) ?_
  refine J_xc (ι := uI) (d' := 9) (As := [.int (xs (i + 1)), .int (xs (i + 2))]) ok_X6_foundling vi_X6_foundling cl_8_75 (n := 2) (by decide +kernel) rfl rfl (Nat.le_of_ble_eq_true rfl) (by decide) (dk_L_law 641 _ rfl) rfl (c_X6_foundling mx ((xs (i + 1))) ((xs (i + 2)))) h1 rfl ?_
  show J _ _ _ _ _ _ _ _ _ [.int r] _ _
  refine J_pop (v := .int r) rfl (dk_L_law 644 _ rfl) ?_
  refine J_aload_n (i := 2) (a := 2) rfl rfl (dk_L_law 645 _ rfl) ?_
  refine J_sarg (k := 1) (dk_L_law 646 _ rfl) (dk_L_law 647 _ rfl) (dk_L_law 648 _ rfl) (by decide) (dk_L_law 649 _ rfl) (dk_L_law 650 _ rfl) (by omega) (by omega) ?_
  refine J_sarg (k := 2) (dk_L_law 651 _ rfl) (dk_L_law 652 _ rfl) (dk_L_law 653 _ rfl) (by decide) (dk_L_law 654 _ rfl) (dk_L_law 655 _ rfl) (by omega) (by omega) ?_
  refine J_mc (ι := uI) (d' := 12) (As := [.int (xs (i + 1)), .int (xs (i + 2))]) ok_X7_foundling vi_X7_foundling cl_8_78 (n := 2) (by decide +kernel) rfl rfl (Nat.le_of_ble_eq_true rfl) (by decide) (dk_L_law 656 _ rfl) rfl (c_X7_foundling mm ((xs (i + 1))) ((xs (i + 2)))) h2 rfl ?_
  show J _ _ _ _ _ _ _ _ _ [.int r] _ _
  refine J_pop (v := .int r) rfl (dk_L_law 659 _ rfl) ?_
  refine J_goto (tgt := 1306) (by decide) (dk_L_law 660 _ rfl) ?_
  exact next _ _ hR
set_option maxHeartbeats 4000000 in
set_option maxRecDepth 1000000 in
theorem law_c15 (hL : L ≤ 3072) (hi : i + 6 ≤ L) (next : ∀ mx mm, RR mx mm → J m_L_law true L xs 24 kc ks 1306 (zI i) [] (HH mx mm) lawQ) {mx mm : mM} (h : RR mx mm) : J m_L_law true L xs 24 kc ks 663 (zI i) [] (HH mx mm) lawQ := by
  obtain ⟨r, mx1, mm1, h1, h2, hR⟩ := op_forged h ((xs (i + 1)))
  refine J_aload_n (i := 1) (a := 1) rfl rfl (dk_L_law 663 _ rfl) ?_
  refine J_sarg (k := 1) (dk_L_law 664 _ rfl) (dk_L_law 665 _ rfl) (dk_L_law 666 _ rfl) (by decide) (dk_L_law 667 _ rfl) (dk_L_law 668 _ rfl) (by omega) (by omega) ?_
  refine J_xc (ι := uI) (d' := 8) (As := [.int (xs (i + 1))]) ok_X6_forged vi_X6_forged cl_8_79 (n := 1) (by decide +kernel) rfl rfl (Nat.le_of_ble_eq_true rfl) (by decide) (dk_L_law 669 _ rfl) rfl (c_X6_forged mx ((xs (i + 1)))) h1 rfl ?_
  show J _ _ _ _ _ _ _ _ _ [.int r] _ _
  refine J_pop (v := .int r) rfl (dk_L_law 672 _ rfl) ?_
  refine J_aload_n (i := 2) (a := 2) rfl rfl (dk_L_law 673 _ rfl) ?_
  refine J_sarg (k := 1) (dk_L_law 674 _ rfl) (dk_L_law 675 _ rfl) (dk_L_law 676 _ rfl) (by decide) (dk_L_law 677 _ rfl) (dk_L_law 678 _ rfl) (by omega) (by omega) ?_
  refine J_mc (ι := uI) (d' := 11) (As := [.int (xs (i + 1))]) ok_X7_forged vi_X7_forged cl_8_82 (n := 1) (by decide +kernel) rfl rfl (Nat.le_of_ble_eq_true rfl) (by decide) (dk_L_law 679 _ rfl) rfl (c_X7_forged mm ((xs (i + 1)))) h2 rfl ?_
  show J _ _ _ _ _ _ _ _ _ [.int r] _ _
  refine J_pop (v := .int r) rfl (dk_L_law 682 _ rfl) ?_
  refine J_goto (tgt := 1306) (by decide) (dk_L_law 683 _ rfl) ?_
  exact next _ _ hR
set_option maxHeartbeats 4000000 in
set_option maxRecDepth 1000000 in
theorem law_c16 (hL : L ≤ 3072) (hi : i + 6 ≤ L) (next : ∀ mx mm, RR mx mm → J m_L_law true L xs 24 kc ks 1306 (zI i) [] (HH mx mm) lawQ) {mx mm : mM} (h : RR mx mm) : J m_L_law true L xs 24 kc ks 686 (zI i) [] (HH mx mm) lawQ := by
  obtain ⟨r, mx1, mm1, h1, h2, hR⟩ := op_change h ((xs (i + 1)))
  refine J_aload_n (i := 1) (a := 1) rfl rfl (dk_L_law 686 _ rfl) ?_
  refine J_sarg (k := 1) (dk_L_law 687 _ rfl) (dk_L_law 688 _ rfl) (dk_L_law 689 _ rfl) (by decide) (dk_L_law 690 _ rfl) (dk_L_law 691 _ rfl) (by omega) (by omega) ?_
  refine J_xc (ι := uI) (d' := 9) (As := [.int (xs (i + 1))]) ok_X6_change vi_X6_change cl_8_83 (n := 1) (by decide +kernel) rfl rfl (Nat.le_of_ble_eq_true rfl) (by decide) (dk_L_law 692 _ rfl) rfl (c_X6_change mx ((xs (i + 1)))) h1 rfl ?_
  show J _ _ _ _ _ _ _ _ _ [.int r] _ _
  refine J_pop (v := .int r) rfl (dk_L_law 695 _ rfl) ?_
  refine J_aload_n (i := 2) (a := 2) rfl rfl (dk_L_law 696 _ rfl) ?_
  refine J_sarg (k := 1) (dk_L_law 697 _ rfl) (dk_L_law 698 _ rfl) (dk_L_law 699 _ rfl) (by decide) (dk_L_law 700 _ rfl) (dk_L_law 701 _ rfl) (by omega) (by omega) ?_
  refine J_mc (ι := uI) (d' := 13) (As := [.int (xs (i + 1))]) ok_X7_change vi_X7_change cl_8_86 (n := 1) (by decide +kernel) rfl rfl (Nat.le_of_ble_eq_true rfl) (by decide) (dk_L_law 702 _ rfl) rfl (c_X7_change mm ((xs (i + 1)))) h2 rfl ?_
  show J _ _ _ _ _ _ _ _ _ [.int r] _ _
  refine J_pop (v := .int r) rfl (dk_L_law 705 _ rfl) ?_
  refine J_goto (tgt := 1306) (by decide) (dk_L_law 706 _ rfl) ?_
  exact next _ _ hR
set_option maxHeartbeats 4000000 in
set_option maxRecDepth 1000000 in
theorem law_c17 (hL : L ≤ 3072) (hi : i + 6 ≤ L) (next : ∀ mx mm, RR mx mm → J m_L_law true L xs 24 kc ks 1306 (zI i) [] (HH mx mm) lawQ) {mx mm : mM} (h : RR mx mm) : J m_L_law true L xs 24 kc ks 709 (zI i) [] (HH mx mm) lawQ := by
  obtain ⟨r, mx1, mm1, h1, h2, hR⟩ := op_rest h ((xs (i + 1)))
  refine J_aload_n (i := 1) (a := 1) rfl rfl (dk_L_law 709 _ rfl) ?_
  refine J_sarg (k := 1) (dk_L_law 710 _ rfl) (dk_L_law 711 _ rfl) (dk_L_law 712 _ rfl) (by decide) (dk_L_law 713 _ rfl) (dk_L_law 714 _ rfl) (by omega) (by omega) ?_
  refine J_xc (ι := uI) (d' := 9) (As := [.int (xs (i + 1))]) ok_X6_rest vi_X6_rest cl_8_87 (n := 1) (by decide +kernel) rfl rfl (Nat.le_of_ble_eq_true rfl) (by decide) (dk_L_law 715 _ rfl) rfl (c_X6_rest mx ((xs (i + 1)))) h1 rfl ?_
  show J _ _ _ _ _ _ _ _ _ [.int r] _ _
  refine J_pop (v := .int r) rfl (dk_L_law 718 _ rfl) ?_
  refine J_aload_n (i := 2) (a := 2) rfl rfl (dk_L_law 719 _ rfl) ?_
  refine J_sarg (k := 1) (dk_L_law 720 _ rfl) (dk_L_law 721 _ rfl) (dk_L_law 722 _ rfl) (by decide) (dk_L_law 723 _ rfl) (dk_L_law 724 _ rfl) (by omega) (by omega) ?_
  refine J_mc (ι := uI) (d' := 14) (As := [.int (xs (i + 1))]) ok_X7_rest vi_X7_rest cl_8_90 (n := 1) (by decide +kernel) rfl rfl (Nat.le_of_ble_eq_true rfl) (by decide) (dk_L_law 725 _ rfl) rfl (c_X7_rest mm ((xs (i + 1)))) h2 rfl ?_
  show J _ _ _ _ _ _ _ _ _ [.int r] _ _
  refine J_pop (v := .int r) rfl (dk_L_law 728 _ rfl) ?_
  refine J_goto (tgt := 1306) (by decide) (dk_L_law 729 _ rfl) ?_
  exact next _ _ hR
end LAW
end
-- 25d2.law.lean.txt
section
/-! THE LAW, a case a call (by program: wip/gen/law2.py) -/
section LAW
variable {L i : Nat} {xs : Nat → Int32} {kc ks : Nat}
set_option maxHeartbeats 4000000 in
set_option maxRecDepth 1000000 in
theorem law_c18 (hL : L ≤ 3072) (hi : i + 6 ≤ L) (next : ∀ mx mm, RR mx mm → J m_L_law true L xs 24 kc ks 1306 (zI i) [] (HH mx mm) lawQ) {mx mm : mM} (h : RR mx mm) : J m_L_law true L xs 24 kc ks 732 (zI i) [] (HH mx mm) lawQ := by
  obtain ⟨r, mx1, mm1, h1, h2, hR⟩ := op_reckoning h ((xs (i + 1)))
  refine J_aload_n (i := 1) (a := 1) rfl rfl (dk_L_law 732 _ rfl) ?_
  refine J_sarg (k := 1) (dk_L_law 733 _ rfl) (dk_L_law 734 _ rfl) (dk_L_law 735 _ rfl) (by decide) (dk_L_law 736 _ rfl) (dk_L_law 737 _ rfl) (by omega) (by omega) ?_
  refine J_xc (ι := uI) (d' := 8) (As := [.int (xs (i + 1))]) ok_X6_reckoning vi_X6_reckoning cl_8_91 (n := 1) (by decide +kernel) rfl rfl (Nat.le_of_ble_eq_true rfl) (by decide) (dk_L_law 738 _ rfl) rfl (c_X6_reckoning mx ((xs (i + 1)))) h1 rfl ?_
  show J _ _ _ _ _ _ _ _ _ [.int r] _ _
  refine J_pop (v := .int r) rfl (dk_L_law 741 _ rfl) ?_
  refine J_aload_n (i := 2) (a := 2) rfl rfl (dk_L_law 742 _ rfl) ?_
  refine J_sarg (k := 1) (dk_L_law 743 _ rfl) (dk_L_law 744 _ rfl) (dk_L_law 745 _ rfl) (by decide) (dk_L_law 746 _ rfl) (dk_L_law 747 _ rfl) (by omega) (by omega) ?_
  refine J_mc (ι := uI) (d' := 11) (As := [.int (xs (i + 1))]) ok_X7_reckoning vi_X7_reckoning cl_8_94 (n := 1) (by decide +kernel) rfl rfl (Nat.le_of_ble_eq_true rfl) (by decide) (dk_L_law 748 _ rfl) rfl (c_X7_reckoning mm ((xs (i + 1)))) h2 rfl ?_
  show J _ _ _ _ _ _ _ _ _ [.int r] _ _
  refine J_pop (v := .int r) rfl (dk_L_law 751 _ rfl) ?_
  refine J_goto (tgt := 1306) (by decide) (dk_L_law 752 _ rfl) ?_
  exact next _ _ hR
set_option maxHeartbeats 4000000 in
set_option maxRecDepth 1000000 in
theorem law_c19 (hL : L ≤ 3072) (hi : i + 6 ≤ L) (next : ∀ mx mm, RR mx mm → J m_L_law true L xs 24 kc ks 1306 (zI i) [] (HH mx mm) lawQ) {mx mm : mM} (h : RR mx mm) : J m_L_law true L xs 24 kc ks 755 (zI i) [] (HH mx mm) lawQ := by
  obtain ⟨r, mx1, mm1, h1, h2, hR⟩ := op_high h ((xs (i + 1)))
  refine J_aload_n (i := 1) (a := 1) rfl rfl (dk_L_law 755 _ rfl) ?_
  refine J_sarg (k := 1) (dk_L_law 756 _ rfl) (dk_L_law 757 _ rfl) (dk_L_law 758 _ rfl) (by decide) (dk_L_law 759 _ rfl) (dk_L_law 760 _ rfl) (by omega) (by omega) ?_
  refine J_xc (ι := uI) (d' := 9) (As := [.int (xs (i + 1))]) ok_X6_high vi_X6_high cl_8_95 (n := 1) (by decide +kernel) rfl rfl (Nat.le_of_ble_eq_true rfl) (by decide) (dk_L_law 761 _ rfl) rfl (c_X6_high mx ((xs (i + 1)))) h1 rfl ?_
  show J _ _ _ _ _ _ _ _ _ [.int r] _ _
  refine J_pop (v := .int r) rfl (dk_L_law 764 _ rfl) ?_
  refine J_aload_n (i := 2) (a := 2) rfl rfl (dk_L_law 765 _ rfl) ?_
  refine J_sarg (k := 1) (dk_L_law 766 _ rfl) (dk_L_law 767 _ rfl) (dk_L_law 768 _ rfl) (by decide) (dk_L_law 769 _ rfl) (dk_L_law 770 _ rfl) (by omega) (by omega) ?_
  refine J_mc (ι := uI) (d' := 13) (As := [.int (xs (i + 1))]) ok_X7_high vi_X7_high cl_8_98 (n := 1) (by decide +kernel) rfl rfl (Nat.le_of_ble_eq_true rfl) (by decide) (dk_L_law 771 _ rfl) rfl (c_X7_high mm ((xs (i + 1)))) h2 rfl ?_
  show J _ _ _ _ _ _ _ _ _ [.int r] _ _
  refine J_pop (v := .int r) rfl (dk_L_law 774 _ rfl) ?_
  refine J_goto (tgt := 1306) (by decide) (dk_L_law 775 _ rfl) ?_
  exact next _ _ hR
set_option maxHeartbeats 4000000 in
set_option maxRecDepth 1000000 in
theorem law_c20 (hL : L ≤ 3072) (hi : i + 6 ≤ L) (next : ∀ mx mm, RR mx mm → J m_L_law true L xs 24 kc ks 1306 (zI i) [] (HH mx mm) lawQ) {mx mm : mM} (h : RR mx mm) : J m_L_law true L xs 24 kc ks 778 (zI i) [] (HH mx mm) lawQ := by
  obtain ⟨r, mx1, mm1, h1, h2, hR⟩ := op_last h ((xs (i + 1)))
  refine J_aload_n (i := 1) (a := 1) rfl rfl (dk_L_law 778 _ rfl) ?_
  refine J_sarg (k := 1) (dk_L_law 779 _ rfl) (dk_L_law 780 _ rfl) (dk_L_law 781 _ rfl) (by decide) (dk_L_law 782 _ rfl) (dk_L_law 783 _ rfl) (by omega) (by omega) ?_
  refine J_xc (ι := uI) (d' := 8) (As := [.int (xs (i + 1))]) ok_X6_last vi_X6_last cl_8_99 (n := 1) (by decide +kernel) rfl rfl (Nat.le_of_ble_eq_true rfl) (by decide) (dk_L_law 784 _ rfl) rfl (c_X6_last mx ((xs (i + 1)))) h1 rfl ?_
  show J _ _ _ _ _ _ _ _ _ [.int r] _ _
  refine J_pop (v := .int r) rfl (dk_L_law 787 _ rfl) ?_
  refine J_aload_n (i := 2) (a := 2) rfl rfl (dk_L_law 788 _ rfl) ?_
  refine J_sarg (k := 1) (dk_L_law 789 _ rfl) (dk_L_law 790 _ rfl) (dk_L_law 791 _ rfl) (by decide) (dk_L_law 792 _ rfl) (dk_L_law 793 _ rfl) (by omega) (by omega) ?_
  refine J_mc (ι := uI) (d' := 12) (As := [.int (xs (i + 1))]) ok_X7_last vi_X7_last cl_8_102 (n := 1) (by decide +kernel) rfl rfl (Nat.le_of_ble_eq_true rfl) (by decide) (dk_L_law 794 _ rfl) rfl (c_X7_last mm ((xs (i + 1)))) h2 rfl ?_
  show J _ _ _ _ _ _ _ _ _ [.int r] _ _
  refine J_pop (v := .int r) rfl (dk_L_law 797 _ rfl) ?_
  refine J_goto (tgt := 1306) (by decide) (dk_L_law 798 _ rfl) ?_
  exact next _ _ hR
set_option maxHeartbeats 4000000 in
set_option maxRecDepth 1000000 in
theorem law_c21 (hL : L ≤ 3072) (hi : i + 6 ≤ L) (next : ∀ mx mm, RR mx mm → J m_L_law true L xs 24 kc ks 1306 (zI i) [] (HH mx mm) lawQ) {mx mm : mM} (h : RR mx mm) : J m_L_law true L xs 24 kc ks 801 (zI i) [] (HH mx mm) lawQ := by
  obtain ⟨r, mx1, mm1, h1, h2, hR⟩ := op_odds h ((xs (i + 1))) ((xs (i + 2))) ((xs (i + 3)))
  refine J_aload_n (i := 1) (a := 1) rfl rfl (dk_L_law 801 _ rfl) ?_
  refine J_sarg (k := 1) (dk_L_law 802 _ rfl) (dk_L_law 803 _ rfl) (dk_L_law 804 _ rfl) (by decide) (dk_L_law 805 _ rfl) (dk_L_law 806 _ rfl) (by omega) (by omega) ?_
  refine J_sarg (k := 2) (dk_L_law 807 _ rfl) (dk_L_law 808 _ rfl) (dk_L_law 809 _ rfl) (by decide) (dk_L_law 810 _ rfl) (dk_L_law 811 _ rfl) (by omega) (by omega) ?_
  refine J_sarg (k := 3) (dk_L_law 812 _ rfl) (dk_L_law 813 _ rfl) (dk_L_law 814 _ rfl) (by decide) (dk_L_law 815 _ rfl) (dk_L_law 816 _ rfl) (by omega) (by omega) ?_
  refine J_xc (ι := uL) (d' := 8) (As := [.int (xs (i + 1)), .int (xs (i + 2)), .int (xs (i + 3))]) ok_X6_odds vi_X6_odds cl_8_103 (n := 3) (by decide +kernel) rfl rfl (Nat.le_of_ble_eq_true rfl) (by decide) (dk_L_law 817 _ rfl) rfl (c_X6_odds mx ((xs (i + 1))) ((xs (i + 2))) ((xs (i + 3)))) h1 rfl ?_
  show J _ _ _ _ _ _ _ _ _ [.long r] _ _
  refine J_pop2 (v := .long r) rfl (dk_L_law 820 _ rfl) ?_
  refine J_aload_n (i := 2) (a := 2) rfl rfl (dk_L_law 821 _ rfl) ?_
  refine J_sarg (k := 1) (dk_L_law 822 _ rfl) (dk_L_law 823 _ rfl) (dk_L_law 824 _ rfl) (by decide) (dk_L_law 825 _ rfl) (dk_L_law 826 _ rfl) (by omega) (by omega) ?_
  refine J_sarg (k := 2) (dk_L_law 827 _ rfl) (dk_L_law 828 _ rfl) (dk_L_law 829 _ rfl) (by decide) (dk_L_law 830 _ rfl) (dk_L_law 831 _ rfl) (by omega) (by omega) ?_
  refine J_sarg (k := 3) (dk_L_law 832 _ rfl) (dk_L_law 833 _ rfl) (dk_L_law 834 _ rfl) (by decide) (dk_L_law 835 _ rfl) (dk_L_law 836 _ rfl) (by omega) (by omega) ?_
  refine J_mc (ι := uL) (d' := 12) (As := [.int (xs (i + 1)), .int (xs (i + 2)), .int (xs (i + 3))]) ok_X7_odds vi_X7_odds cl_8_107 (n := 3) (by decide +kernel) rfl rfl (Nat.le_of_ble_eq_true rfl) (by decide) (dk_L_law 837 _ rfl) rfl (c_X7_odds mm ((xs (i + 1))) ((xs (i + 2))) ((xs (i + 3)))) h2 rfl ?_
  show J _ _ _ _ _ _ _ _ _ [.long r] _ _
  refine J_pop2 (v := .long r) rfl (dk_L_law 840 _ rfl) ?_
  refine J_goto (tgt := 1306) (by decide) (dk_L_law 841 _ rfl) ?_
  exact next _ _ hR
set_option maxHeartbeats 4000000 in
set_option maxRecDepth 1000000 in
theorem law_c22 (hL : L ≤ 3072) (hi : i + 6 ≤ L) (next : ∀ mx mm, RR mx mm → J m_L_law true L xs 24 kc ks 1306 (zI i) [] (HH mx mm) lawQ) {mx mm : mM} (h : RR mx mm) : J m_L_law true L xs 24 kc ks 844 (zI i) [] (HH mx mm) lawQ := by
  obtain ⟨r, mx1, mm1, h1, h2, hR⟩ := op_mean h ((xs (i + 1)))
  refine J_aload_n (i := 1) (a := 1) rfl rfl (dk_L_law 844 _ rfl) ?_
  refine J_sarg (k := 1) (dk_L_law 845 _ rfl) (dk_L_law 846 _ rfl) (dk_L_law 847 _ rfl) (by decide) (dk_L_law 848 _ rfl) (dk_L_law 849 _ rfl) (by omega) (by omega) ?_
  refine J_xc (ι := uL) (d' := 8) (As := [.int (xs (i + 1))]) ok_X6_mean vi_X6_mean cl_8_108 (n := 1) (by decide +kernel) rfl rfl (Nat.le_of_ble_eq_true rfl) (by decide) (dk_L_law 850 _ rfl) rfl (c_X6_mean mx ((xs (i + 1)))) h1 rfl ?_
  show J _ _ _ _ _ _ _ _ _ [.long r] _ _
  refine J_pop2 (v := .long r) rfl (dk_L_law 853 _ rfl) ?_
  refine J_aload_n (i := 2) (a := 2) rfl rfl (dk_L_law 854 _ rfl) ?_
  refine J_sarg (k := 1) (dk_L_law 855 _ rfl) (dk_L_law 856 _ rfl) (dk_L_law 857 _ rfl) (by decide) (dk_L_law 858 _ rfl) (dk_L_law 859 _ rfl) (by omega) (by omega) ?_
  refine J_mc (ι := uL) (d' := 11) (As := [.int (xs (i + 1))]) ok_X7_mean vi_X7_mean cl_8_112 (n := 1) (by decide +kernel) rfl rfl (Nat.le_of_ble_eq_true rfl) (by decide) (dk_L_law 860 _ rfl) rfl (c_X7_mean mm ((xs (i + 1)))) h2 rfl ?_
  show J _ _ _ _ _ _ _ _ _ [.long r] _ _
  refine J_pop2 (v := .long r) rfl (dk_L_law 863 _ rfl) ?_
  refine J_goto (tgt := 1306) (by decide) (dk_L_law 864 _ rfl) ?_
  exact next _ _ hR
set_option maxHeartbeats 4000000 in
set_option maxRecDepth 1000000 in
theorem law_c23 (hL : L ≤ 3072) (hi : i + 6 ≤ L) (next : ∀ mx mm, RR mx mm → J m_L_law true L xs 24 kc ks 1306 (zI i) [] (HH mx mm) lawQ) {mx mm : mM} (h : RR mx mm) : J m_L_law true L xs 24 kc ks 867 (zI i) [] (HH mx mm) lawQ := by
  obtain ⟨r, mx1, mm1, h1, h2, hR⟩ := op_book h ((xs (i + 1)))
  refine J_aload_n (i := 1) (a := 1) rfl rfl (dk_L_law 867 _ rfl) ?_
  refine J_sarg (k := 1) (dk_L_law 868 _ rfl) (dk_L_law 869 _ rfl) (dk_L_law 870 _ rfl) (by decide) (dk_L_law 871 _ rfl) (dk_L_law 872 _ rfl) (by omega) (by omega) ?_
  refine J_xc (ι := uI) (d' := 2) (As := [.int (xs (i + 1))]) ok_X6_book vi_X6_book cl_8_113 (n := 1) (by decide +kernel) rfl rfl (Nat.le_of_ble_eq_true rfl) (by decide) (dk_L_law 873 _ rfl) rfl (c_X6_book mx ((xs (i + 1)))) h1 rfl ?_
  show J _ _ _ _ _ _ _ _ _ [.int r] _ _
  refine J_pop (v := .int r) rfl (dk_L_law 876 _ rfl) ?_
  refine J_aload_n (i := 2) (a := 2) rfl rfl (dk_L_law 877 _ rfl) ?_
  refine J_sarg (k := 1) (dk_L_law 878 _ rfl) (dk_L_law 879 _ rfl) (dk_L_law 880 _ rfl) (by decide) (dk_L_law 881 _ rfl) (dk_L_law 882 _ rfl) (by omega) (by omega) ?_
  refine J_mc (ι := uI) (d' := 3) (As := [.int (xs (i + 1))]) ok_X7_book vi_X7_book cl_8_116 (n := 1) (by decide +kernel) rfl rfl (Nat.le_of_ble_eq_true rfl) (by decide) (dk_L_law 883 _ rfl) rfl (c_X7_book mm ((xs (i + 1)))) h2 rfl ?_
  show J _ _ _ _ _ _ _ _ _ [.int r] _ _
  refine J_pop (v := .int r) rfl (dk_L_law 886 _ rfl) ?_
  refine J_goto (tgt := 1306) (by decide) (dk_L_law 887 _ rfl) ?_
  exact next _ _ hR
set_option maxHeartbeats 4000000 in
set_option maxRecDepth 1000000 in
theorem law_c24 (hL : L ≤ 3072) (hi : i + 6 ≤ L) (next : ∀ mx mm, RR mx mm → J m_L_law true L xs 24 kc ks 1306 (zI i) [] (HH mx mm) lawQ) {mx mm : mM} (h : RR mx mm) : J m_L_law true L xs 24 kc ks 890 (zI i) [] (HH mx mm) lawQ := by
  obtain ⟨r, mx1, mm1, h1, h2, hR⟩ := op_looked h ((xs (i + 1)))
  refine J_aload_n (i := 1) (a := 1) rfl rfl (dk_L_law 890 _ rfl) ?_
  refine J_sarg (k := 1) (dk_L_law 891 _ rfl) (dk_L_law 892 _ rfl) (dk_L_law 893 _ rfl) (by decide) (dk_L_law 894 _ rfl) (dk_L_law 895 _ rfl) (by omega) (by omega) ?_
  refine J_xc (ι := uI) (d' := 7) (As := [.int (xs (i + 1))]) ok_X6_looked vi_X6_looked cl_8_117 (n := 1) (by decide +kernel) rfl rfl (Nat.le_of_ble_eq_true rfl) (by decide) (dk_L_law 896 _ rfl) rfl (c_X6_looked mx ((xs (i + 1)))) h1 rfl ?_
  show J _ _ _ _ _ _ _ _ _ [.int r] _ _
  refine J_pop (v := .int r) rfl (dk_L_law 899 _ rfl) ?_
  refine J_aload_n (i := 2) (a := 2) rfl rfl (dk_L_law 900 _ rfl) ?_
  refine J_sarg (k := 1) (dk_L_law 901 _ rfl) (dk_L_law 902 _ rfl) (dk_L_law 903 _ rfl) (by decide) (dk_L_law 904 _ rfl) (dk_L_law 905 _ rfl) (by omega) (by omega) ?_
  refine J_mc (ι := uI) (d' := 9) (As := [.int (xs (i + 1))]) ok_X7_looked vi_X7_looked cl_8_120 (n := 1) (by decide +kernel) rfl rfl (Nat.le_of_ble_eq_true rfl) (by decide) (dk_L_law 906 _ rfl) rfl (c_X7_looked mm ((xs (i + 1)))) h2 rfl ?_
  show J _ _ _ _ _ _ _ _ _ [.int r] _ _
  refine J_pop (v := .int r) rfl (dk_L_law 909 _ rfl) ?_
  refine J_goto (tgt := 1306) (by decide) (dk_L_law 910 _ rfl) ?_
  exact next _ _ hR
set_option maxHeartbeats 4000000 in
set_option maxRecDepth 1000000 in
theorem law_c25 (hL : L ≤ 3072) (hi : i + 6 ≤ L) (next : ∀ mx mm, RR mx mm → J m_L_law true L xs 24 kc ks 1306 (zI i) [] (HH mx mm) lawQ) {mx mm : mM} (h : RR mx mm) : J m_L_law true L xs 24 kc ks 913 (zI i) [] (HH mx mm) lawQ := by
  obtain ⟨r, mx1, mm1, h1, h2, hR⟩ := op_judge h ((xs (i + 1))) ((xs (i + 2)))
  refine J_aload_n (i := 1) (a := 1) rfl rfl (dk_L_law 913 _ rfl) ?_
  refine J_sarg (k := 1) (dk_L_law 914 _ rfl) (dk_L_law 915 _ rfl) (dk_L_law 916 _ rfl) (by decide) (dk_L_law 917 _ rfl) (dk_L_law 918 _ rfl) (by omega) (by omega) ?_
  refine J_sarg (k := 2) (dk_L_law 919 _ rfl) (dk_L_law 920 _ rfl) (dk_L_law 921 _ rfl) (by decide) (dk_L_law 922 _ rfl) (dk_L_law 923 _ rfl) (by omega) (by omega) ?_
  refine J_xc (ι := uI) (d' := 3) (As := [.int (xs (i + 1)), .int (xs (i + 2))]) ok_X6_judge vi_X6_judge cl_8_121 (n := 2) (by decide +kernel) rfl rfl (Nat.le_of_ble_eq_true rfl) (by decide) (dk_L_law 924 _ rfl) rfl (c_X6_judge mx ((xs (i + 1))) ((xs (i + 2)))) h1 rfl ?_
  show J _ _ _ _ _ _ _ _ _ [.int r] _ _
  refine J_pop (v := .int r) rfl (dk_L_law 927 _ rfl) ?_
  refine J_aload_n (i := 2) (a := 2) rfl rfl (dk_L_law 928 _ rfl) ?_
  refine J_sarg (k := 1) (dk_L_law 929 _ rfl) (dk_L_law 930 _ rfl) (dk_L_law 931 _ rfl) (by decide) (dk_L_law 932 _ rfl) (dk_L_law 933 _ rfl) (by omega) (by omega) ?_
  refine J_sarg (k := 2) (dk_L_law 934 _ rfl) (dk_L_law 935 _ rfl) (dk_L_law 936 _ rfl) (by decide) (dk_L_law 937 _ rfl) (dk_L_law 938 _ rfl) (by omega) (by omega) ?_
  refine J_mc (ι := uI) (d' := 4) (As := [.int (xs (i + 1)), .int (xs (i + 2))]) ok_X7_judge vi_X7_judge cl_8_124 (n := 2) (by decide +kernel) rfl rfl (Nat.le_of_ble_eq_true rfl) (by decide) (dk_L_law 939 _ rfl) rfl (c_X7_judge mm ((xs (i + 1))) ((xs (i + 2)))) h2 rfl ?_
  show J _ _ _ _ _ _ _ _ _ [.int r] _ _
  refine J_pop (v := .int r) rfl (dk_L_law 942 _ rfl) ?_
  refine J_goto (tgt := 1306) (by decide) (dk_L_law 943 _ rfl) ?_
  exact next _ _ hR
set_option maxHeartbeats 4000000 in
set_option maxRecDepth 1000000 in
theorem law_c26 (hL : L ≤ 3072) (hi : i + 6 ≤ L) (next : ∀ mx mm, RR mx mm → J m_L_law true L xs 24 kc ks 1306 (zI i) [] (HH mx mm) lawQ) {mx mm : mM} (h : RR mx mm) : J m_L_law true L xs 24 kc ks 946 (zI i) [] (HH mx mm) lawQ := by
  obtain ⟨r, mx1, mm1, h1, h2, hR⟩ := op_image h 
  refine J_aload_n (i := 1) (a := 1) rfl rfl (dk_L_law 946 _ rfl) ?_
  refine J_xc (ι := uI) (d' := 3) (As := []) ok_X6_image vi_X6_image cl_8_125 (n := 0) (by decide +kernel) rfl rfl (Nat.le_of_ble_eq_true rfl) (by decide) (dk_L_law 947 _ rfl) rfl (c_X6_image mx ) h1 rfl ?_
  show J _ _ _ _ _ _ _ _ _ [.int r] _ _
  refine J_pop (v := .int r) rfl (dk_L_law 950 _ rfl) ?_
  refine J_aload_n (i := 2) (a := 2) rfl rfl (dk_L_law 951 _ rfl) ?_
  refine J_mc (ι := uI) (d' := 2) (As := []) ok_X7_image vi_X7_image cl_8_128 (n := 0) (by decide +kernel) rfl rfl (Nat.le_of_ble_eq_true rfl) (by decide) (dk_L_law 952 _ rfl) rfl (c_X7_image mm ) h2 rfl ?_
  show J _ _ _ _ _ _ _ _ _ [.int r] _ _
  refine J_pop (v := .int r) rfl (dk_L_law 955 _ rfl) ?_
  refine J_goto (tgt := 1306) (by decide) (dk_L_law 956 _ rfl) ?_
  exact next _ _ hR
set_option maxHeartbeats 4000000 in
set_option maxRecDepth 1000000 in
theorem law_c27 (hL : L ≤ 3072) (hi : i + 6 ≤ L) (next : ∀ mx mm, RR mx mm → J m_L_law true L xs 24 kc ks 1306 (zI i) [] (HH mx mm) lawQ) {mx mm : mM} (h : RR mx mm) : J m_L_law true L xs 24 kc ks 959 (zI i) [] (HH mx mm) lawQ := by
  obtain ⟨r, mx1, mm1, h1, h2, hR⟩ := op_undo h 
  refine J_aload_n (i := 1) (a := 1) rfl rfl (dk_L_law 959 _ rfl) ?_
  refine J_xc (ι := uI) (d' := 3) (As := []) ok_X6_undo vi_X6_undo cl_8_129 (n := 0) (by decide +kernel) rfl rfl (Nat.le_of_ble_eq_true rfl) (by decide) (dk_L_law 960 _ rfl) rfl (c_X6_undo mx ) h1 rfl ?_
  show J _ _ _ _ _ _ _ _ _ [.int r] _ _
  refine J_pop (v := .int r) rfl (dk_L_law 963 _ rfl) ?_
  refine J_aload_n (i := 2) (a := 2) rfl rfl (dk_L_law 964 _ rfl) ?_
  refine J_mc (ι := uI) (d' := 2) (As := []) ok_X7_undo vi_X7_undo cl_8_132 (n := 0) (by decide +kernel) rfl rfl (Nat.le_of_ble_eq_true rfl) (by decide) (dk_L_law 965 _ rfl) rfl (c_X7_undo mm ) h2 rfl ?_
  show J _ _ _ _ _ _ _ _ _ [.int r] _ _
  refine J_pop (v := .int r) rfl (dk_L_law 968 _ rfl) ?_
  refine J_goto (tgt := 1306) (by decide) (dk_L_law 969 _ rfl) ?_
  exact next _ _ hR
set_option maxHeartbeats 4000000 in
set_option maxRecDepth 1000000 in
theorem law_c28 (hL : L ≤ 3072) (hi : i + 6 ≤ L) (next : ∀ mx mm, RR mx mm → J m_L_law true L xs 24 kc ks 1306 (zI i) [] (HH mx mm) lawQ) {mx mm : mM} (h : RR mx mm) : J m_L_law true L xs 24 kc ks 972 (zI i) [] (HH mx mm) lawQ := by
  obtain ⟨r, mx1, mm1, h1, h2, hR⟩ := op_act h ((xs (i + 1))) ((xs (i + 2))) ((xs (i + 3)))
  refine J_aload_n (i := 1) (a := 1) rfl rfl (dk_L_law 972 _ rfl) ?_
  refine J_sarg (k := 1) (dk_L_law 973 _ rfl) (dk_L_law 974 _ rfl) (dk_L_law 975 _ rfl) (by decide) (dk_L_law 976 _ rfl) (dk_L_law 977 _ rfl) (by omega) (by omega) ?_
  refine J_sarg (k := 2) (dk_L_law 978 _ rfl) (dk_L_law 979 _ rfl) (dk_L_law 980 _ rfl) (by decide) (dk_L_law 981 _ rfl) (dk_L_law 982 _ rfl) (by omega) (by omega) ?_
  refine J_sarg (k := 3) (dk_L_law 983 _ rfl) (dk_L_law 984 _ rfl) (dk_L_law 985 _ rfl) (by decide) (dk_L_law 986 _ rfl) (dk_L_law 987 _ rfl) (by omega) (by omega) ?_
  refine J_xc (ι := uI) (d' := 13) (As := [.int (xs (i + 1)), .int (xs (i + 2)), .int (xs (i + 3))]) ok_X6_act vi_X6_act cl_8_133 (n := 3) (by decide +kernel) rfl rfl (Nat.le_of_ble_eq_true rfl) (by decide) (dk_L_law 988 _ rfl) rfl (c_X6_act mx ((xs (i + 1))) ((xs (i + 2))) ((xs (i + 3)))) h1 rfl ?_
  show J _ _ _ _ _ _ _ _ _ [.int r] _ _
  refine J_pop (v := .int r) rfl (dk_L_law 991 _ rfl) ?_
  refine J_aload_n (i := 2) (a := 2) rfl rfl (dk_L_law 992 _ rfl) ?_
  refine J_sarg (k := 1) (dk_L_law 993 _ rfl) (dk_L_law 994 _ rfl) (dk_L_law 995 _ rfl) (by decide) (dk_L_law 996 _ rfl) (dk_L_law 997 _ rfl) (by omega) (by omega) ?_
  refine J_sarg (k := 2) (dk_L_law 998 _ rfl) (dk_L_law 999 _ rfl) (dk_L_law 1000 _ rfl) (by decide) (dk_L_law 1001 _ rfl) (dk_L_law 1002 _ rfl) (by omega) (by omega) ?_
  refine J_sarg (k := 3) (dk_L_law 1003 _ rfl) (dk_L_law 1004 _ rfl) (dk_L_law 1005 _ rfl) (by decide) (dk_L_law 1006 _ rfl) (dk_L_law 1007 _ rfl) (by omega) (by omega) ?_
  refine J_mc (ι := uI) (d' := 10) (As := [.int (xs (i + 1)), .int (xs (i + 2)), .int (xs (i + 3))]) ok_X7_act vi_X7_act cl_8_136 (n := 3) (by decide +kernel) rfl rfl (Nat.le_of_ble_eq_true rfl) (by decide) (dk_L_law 1008 _ rfl) rfl (c_X7_act mm ((xs (i + 1))) ((xs (i + 2))) ((xs (i + 3)))) h2 rfl ?_
  show J _ _ _ _ _ _ _ _ _ [.int r] _ _
  refine J_pop (v := .int r) rfl (dk_L_law 1011 _ rfl) ?_
  refine J_goto (tgt := 1306) (by decide) (dk_L_law 1012 _ rfl) ?_
  exact next _ _ hR
set_option maxHeartbeats 4000000 in
set_option maxRecDepth 1000000 in
theorem law_c29 (hL : L ≤ 3072) (hi : i + 6 ≤ L) (next : ∀ mx mm, RR mx mm → J m_L_law true L xs 24 kc ks 1306 (zI i) [] (HH mx mm) lawQ) {mx mm : mM} (h : RR mx mm) : J m_L_law true L xs 24 kc ks 1015 (zI i) [] (HH mx mm) lawQ := by
  obtain ⟨r, mx1, mm1, h1, h2, hR⟩ := op_trace h ((xs (i + 1)))
  refine J_aload_n (i := 1) (a := 1) rfl rfl (dk_L_law 1015 _ rfl) ?_
  refine J_sarg (k := 1) (dk_L_law 1016 _ rfl) (dk_L_law 1017 _ rfl) (dk_L_law 1018 _ rfl) (by decide) (dk_L_law 1019 _ rfl) (dk_L_law 1020 _ rfl) (by omega) (by omega) ?_
  refine J_xc (ι := uI) (d' := 2) (As := [.int (xs (i + 1))]) ok_X6_trace vi_X6_trace cl_8_137 (n := 1) (by decide +kernel) rfl rfl (Nat.le_of_ble_eq_true rfl) (by decide) (dk_L_law 1021 _ rfl) rfl (c_X6_trace mx ((xs (i + 1)))) h1 rfl ?_
  show J _ _ _ _ _ _ _ _ _ [.int r] _ _
  refine J_pop (v := .int r) rfl (dk_L_law 1024 _ rfl) ?_
  refine J_aload_n (i := 2) (a := 2) rfl rfl (dk_L_law 1025 _ rfl) ?_
  refine J_sarg (k := 1) (dk_L_law 1026 _ rfl) (dk_L_law 1027 _ rfl) (dk_L_law 1028 _ rfl) (by decide) (dk_L_law 1029 _ rfl) (dk_L_law 1030 _ rfl) (by omega) (by omega) ?_
  refine J_mc (ι := uI) (d' := 3) (As := [.int (xs (i + 1))]) ok_X7_trace vi_X7_trace cl_8_140 (n := 1) (by decide +kernel) rfl rfl (Nat.le_of_ble_eq_true rfl) (by decide) (dk_L_law 1031 _ rfl) rfl (c_X7_trace mm ((xs (i + 1)))) h2 rfl ?_
  show J _ _ _ _ _ _ _ _ _ [.int r] _ _
  refine J_pop (v := .int r) rfl (dk_L_law 1034 _ rfl) ?_
  refine J_goto (tgt := 1306) (by decide) (dk_L_law 1035 _ rfl) ?_
  exact next _ _ hR
set_option maxHeartbeats 4000000 in
set_option maxRecDepth 1000000 in
theorem law_c30 (hL : L ≤ 3072) (hi : i + 6 ≤ L) (next : ∀ mx mm, RR mx mm → J m_L_law true L xs 24 kc ks 1306 (zI i) [] (HH mx mm) lawQ) {mx mm : mM} (h : RR mx mm) : J m_L_law true L xs 24 kc ks 1038 (zI i) [] (HH mx mm) lawQ := by
  obtain ⟨r, mx1, mm1, h1, h2, hR⟩ := op_taken h ((xs (i + 1))) ((xs (i + 2)))
  refine J_aload_n (i := 1) (a := 1) rfl rfl (dk_L_law 1038 _ rfl) ?_
  refine J_sarg (k := 1) (dk_L_law 1039 _ rfl) (dk_L_law 1040 _ rfl) (dk_L_law 1041 _ rfl) (by decide) (dk_L_law 1042 _ rfl) (dk_L_law 1043 _ rfl) (by omega) (by omega) ?_
  refine J_sarg (k := 2) (dk_L_law 1044 _ rfl) (dk_L_law 1045 _ rfl) (dk_L_law 1046 _ rfl) (by decide) (dk_L_law 1047 _ rfl) (dk_L_law 1048 _ rfl) (by omega) (by omega) ?_
  refine J_xc (ι := uI) (d' := 3) (As := [.int (xs (i + 1)), .int (xs (i + 2))]) ok_X6_taken vi_X6_taken cl_8_141 (n := 2) (by decide +kernel) rfl rfl (Nat.le_of_ble_eq_true rfl) (by decide) (dk_L_law 1049 _ rfl) rfl (c_X6_taken mx ((xs (i + 1))) ((xs (i + 2)))) h1 rfl ?_
  show J _ _ _ _ _ _ _ _ _ [.int r] _ _
  refine J_pop (v := .int r) rfl (dk_L_law 1052 _ rfl) ?_
  refine J_aload_n (i := 2) (a := 2) rfl rfl (dk_L_law 1053 _ rfl) ?_
  refine J_sarg (k := 1) (dk_L_law 1054 _ rfl) (dk_L_law 1055 _ rfl) (dk_L_law 1056 _ rfl) (by decide) (dk_L_law 1057 _ rfl) (dk_L_law 1058 _ rfl) (by omega) (by omega) ?_
  refine J_sarg (k := 2) (dk_L_law 1059 _ rfl) (dk_L_law 1060 _ rfl) (dk_L_law 1061 _ rfl) (by decide) (dk_L_law 1062 _ rfl) (dk_L_law 1063 _ rfl) (by omega) (by omega) ?_
  refine J_mc (ι := uI) (d' := 4) (As := [.int (xs (i + 1)), .int (xs (i + 2))]) ok_X7_taken vi_X7_taken cl_8_144 (n := 2) (by decide +kernel) rfl rfl (Nat.le_of_ble_eq_true rfl) (by decide) (dk_L_law 1064 _ rfl) rfl (c_X7_taken mm ((xs (i + 1))) ((xs (i + 2)))) h2 rfl ?_
  show J _ _ _ _ _ _ _ _ _ [.int r] _ _
  refine J_pop (v := .int r) rfl (dk_L_law 1067 _ rfl) ?_
  refine J_goto (tgt := 1306) (by decide) (dk_L_law 1068 _ rfl) ?_
  exact next _ _ hR
set_option maxHeartbeats 4000000 in
set_option maxRecDepth 1000000 in
theorem law_c31 (hL : L ≤ 3072) (hi : i + 6 ≤ L) (next : ∀ mx mm, RR mx mm → J m_L_law true L xs 24 kc ks 1306 (zI i) [] (HH mx mm) lawQ) {mx mm : mM} (h : RR mx mm) : J m_L_law true L xs 24 kc ks 1071 (zI i) [] (HH mx mm) lawQ := by
  obtain ⟨r, mx1, mm1, h1, h2, hR⟩ := op_count h ((xs (i + 1)))
  refine J_aload_n (i := 1) (a := 1) rfl rfl (dk_L_law 1071 _ rfl) ?_
  refine J_sarg (k := 1) (dk_L_law 1072 _ rfl) (dk_L_law 1073 _ rfl) (dk_L_law 1074 _ rfl) (by decide) (dk_L_law 1075 _ rfl) (dk_L_law 1076 _ rfl) (by omega) (by omega) ?_
  refine J_xc (ι := uI) (d' := 2) (As := [.int (xs (i + 1))]) ok_X6_count vi_X6_count cl_8_145 (n := 1) (by decide +kernel) rfl rfl (Nat.le_of_ble_eq_true rfl) (by decide) (dk_L_law 1077 _ rfl) rfl (c_X6_count mx ((xs (i + 1)))) h1 rfl ?_
  show J _ _ _ _ _ _ _ _ _ [.int r] _ _
  refine J_pop (v := .int r) rfl (dk_L_law 1080 _ rfl) ?_
  refine J_aload_n (i := 2) (a := 2) rfl rfl (dk_L_law 1081 _ rfl) ?_
  refine J_sarg (k := 1) (dk_L_law 1082 _ rfl) (dk_L_law 1083 _ rfl) (dk_L_law 1084 _ rfl) (by decide) (dk_L_law 1085 _ rfl) (dk_L_law 1086 _ rfl) (by omega) (by omega) ?_
  refine J_mc (ι := uI) (d' := 2) (As := [.int (xs (i + 1))]) ok_X7_count vi_X7_count cl_8_148 (n := 1) (by decide +kernel) rfl rfl (Nat.le_of_ble_eq_true rfl) (by decide) (dk_L_law 1087 _ rfl) rfl (c_X7_count mm ((xs (i + 1)))) h2 rfl ?_
  show J _ _ _ _ _ _ _ _ _ [.int r] _ _
  refine J_pop (v := .int r) rfl (dk_L_law 1090 _ rfl) ?_
  refine J_goto (tgt := 1306) (by decide) (dk_L_law 1091 _ rfl) ?_
  exact next _ _ hR
set_option maxHeartbeats 4000000 in
set_option maxRecDepth 1000000 in
theorem law_c32 (hL : L ≤ 3072) (hi : i + 6 ≤ L) (next : ∀ mx mm, RR mx mm → J m_L_law true L xs 24 kc ks 1306 (zI i) [] (HH mx mm) lawQ) {mx mm : mM} (h : RR mx mm) : J m_L_law true L xs 24 kc ks 1094 (zI i) [] (HH mx mm) lawQ := by
  obtain ⟨r, mx1, mm1, h1, h2, hR⟩ := op_tape h ((xs (i + 1))) ((xs (i + 2))) ((xs (i + 3)))
  refine J_aload_n (i := 1) (a := 1) rfl rfl (dk_L_law 1094 _ rfl) ?_
  refine J_sarg (k := 1) (dk_L_law 1095 _ rfl) (dk_L_law 1096 _ rfl) (dk_L_law 1097 _ rfl) (by decide) (dk_L_law 1098 _ rfl) (dk_L_law 1099 _ rfl) (by omega) (by omega) ?_
  refine J_sarg (k := 2) (dk_L_law 1100 _ rfl) (dk_L_law 1101 _ rfl) (dk_L_law 1102 _ rfl) (by decide) (dk_L_law 1103 _ rfl) (dk_L_law 1104 _ rfl) (by omega) (by omega) ?_
  refine J_sarg (k := 3) (dk_L_law 1105 _ rfl) (dk_L_law 1106 _ rfl) (dk_L_law 1107 _ rfl) (by decide) (dk_L_law 1108 _ rfl) (dk_L_law 1109 _ rfl) (by omega) (by omega) ?_
  refine J_xc (ι := uI) (d' := 3) (As := [.int (xs (i + 1)), .int (xs (i + 2)), .int (xs (i + 3))]) ok_X6_tape vi_X6_tape cl_8_149 (n := 3) (by decide +kernel) rfl rfl (Nat.le_of_ble_eq_true rfl) (by decide) (dk_L_law 1110 _ rfl) rfl (c_X6_tape mx ((xs (i + 1))) ((xs (i + 2))) ((xs (i + 3)))) h1 rfl ?_
  show J _ _ _ _ _ _ _ _ _ [.int r] _ _
  refine J_pop (v := .int r) rfl (dk_L_law 1113 _ rfl) ?_
  refine J_aload_n (i := 2) (a := 2) rfl rfl (dk_L_law 1114 _ rfl) ?_
  refine J_sarg (k := 1) (dk_L_law 1115 _ rfl) (dk_L_law 1116 _ rfl) (dk_L_law 1117 _ rfl) (by decide) (dk_L_law 1118 _ rfl) (dk_L_law 1119 _ rfl) (by omega) (by omega) ?_
  refine J_sarg (k := 2) (dk_L_law 1120 _ rfl) (dk_L_law 1121 _ rfl) (dk_L_law 1122 _ rfl) (by decide) (dk_L_law 1123 _ rfl) (dk_L_law 1124 _ rfl) (by omega) (by omega) ?_
  refine J_sarg (k := 3) (dk_L_law 1125 _ rfl) (dk_L_law 1126 _ rfl) (dk_L_law 1127 _ rfl) (by decide) (dk_L_law 1128 _ rfl) (dk_L_law 1129 _ rfl) (by omega) (by omega) ?_
  refine J_mc (ι := uI) (d' := 4) (As := [.int (xs (i + 1)), .int (xs (i + 2)), .int (xs (i + 3))]) ok_X7_tape vi_X7_tape cl_8_152 (n := 3) (by decide +kernel) rfl rfl (Nat.le_of_ble_eq_true rfl) (by decide) (dk_L_law 1130 _ rfl) rfl (c_X7_tape mm ((xs (i + 1))) ((xs (i + 2))) ((xs (i + 3)))) h2 rfl ?_
  show J _ _ _ _ _ _ _ _ _ [.int r] _ _
  refine J_pop (v := .int r) rfl (dk_L_law 1133 _ rfl) ?_
  refine J_goto (tgt := 1306) (by decide) (dk_L_law 1134 _ rfl) ?_
  exact next _ _ hR
set_option maxHeartbeats 4000000 in
set_option maxRecDepth 1000000 in
theorem law_c33 (hL : L ≤ 3072) (hi : i + 6 ≤ L) (next : ∀ mx mm, RR mx mm → J m_L_law true L xs 24 kc ks 1306 (zI i) [] (HH mx mm) lawQ) {mx mm : mM} (h : RR mx mm) : J m_L_law true L xs 24 kc ks 1137 (zI i) [] (HH mx mm) lawQ := by
  obtain ⟨r, mx1, mm1, h1, h2, hR⟩ := op_item h ((xs (i + 1))) ((xs (i + 2))) ((((xs (i + 3)).toInt64 <<< ((32 : Int32).toInt64 &&& 63)) ||| ((xs (i + 4)).toInt64 &&& 4294967295)))
  refine J_aload_n (i := 1) (a := 1) rfl rfl (dk_L_law 1137 _ rfl) ?_
  refine J_sarg (k := 1) (dk_L_law 1138 _ rfl) (dk_L_law 1139 _ rfl) (dk_L_law 1140 _ rfl) (by decide) (dk_L_law 1141 _ rfl) (dk_L_law 1142 _ rfl) (by omega) (by omega) ?_
  refine J_sarg (k := 2) (dk_L_law 1143 _ rfl) (dk_L_law 1144 _ rfl) (dk_L_law 1145 _ rfl) (by decide) (dk_L_law 1146 _ rfl) (dk_L_law 1147 _ rfl) (by omega) (by omega) ?_
  refine J_sarg (k := 3) (dk_L_law 1148 _ rfl) (dk_L_law 1149 _ rfl) (dk_L_law 1150 _ rfl) (by decide) (dk_L_law 1151 _ rfl) (dk_L_law 1152 _ rfl) (by omega) (by omega) ?_
  refine J_i2l (dk_L_law 1153 _ rfl) ?_
  refine J_bipush (v := 32) (by decide) (dk_L_law 1154 _ rfl) ?_
  refine J_lshl rfl (dk_L_law 1156 _ rfl) ?_
  refine J_sarg (k := 4) (dk_L_law 1157 _ rfl) (dk_L_law 1158 _ rfl) (dk_L_law 1159 _ rfl) (by decide) (dk_L_law 1160 _ rfl) (dk_L_law 1161 _ rfl) (by omega) (by omega) ?_
  refine J_i2l (dk_L_law 1162 _ rfl) ?_
  refine J_ldc2 (v := 4294967295) ctl_8_153 (dk_L_law 1163 _ rfl) ?_
  refine J_land (dk_L_law 1166 _ rfl) ?_
  refine J_lor (dk_L_law 1167 _ rfl) ?_
  refine J_xc (ι := uI) (d' := 3) (As := [.int (xs (i + 1)), .int (xs (i + 2)), .long ((((xs (i + 3)).toInt64 <<< ((32 : Int32).toInt64 &&& 63)) ||| ((xs (i + 4)).toInt64 &&& 4294967295)))]) ok_X6_item vi_X6_item cl_8_155 (n := 3) (by decide +kernel) rfl rfl (Nat.le_of_ble_eq_true rfl) (by decide) (dk_L_law 1168 _ rfl) rfl (c_X6_item mx ((xs (i + 1))) ((xs (i + 2))) ((((xs (i + 3)).toInt64 <<< ((32 : Int32).toInt64 &&& 63)) ||| ((xs (i + 4)).toInt64 &&& 4294967295)))) h1 rfl ?_
  show J _ _ _ _ _ _ _ _ _ [.int r] _ _
  refine J_pop (v := .int r) rfl (dk_L_law 1171 _ rfl) ?_
  refine J_aload_n (i := 2) (a := 2) rfl rfl (dk_L_law 1172 _ rfl) ?_
  refine J_sarg (k := 1) (dk_L_law 1173 _ rfl) (dk_L_law 1174 _ rfl) (dk_L_law 1175 _ rfl) (by decide) (dk_L_law 1176 _ rfl) (dk_L_law 1177 _ rfl) (by omega) (by omega) ?_
  refine J_sarg (k := 2) (dk_L_law 1178 _ rfl) (dk_L_law 1179 _ rfl) (dk_L_law 1180 _ rfl) (by decide) (dk_L_law 1181 _ rfl) (dk_L_law 1182 _ rfl) (by omega) (by omega) ?_
  refine J_sarg (k := 3) (dk_L_law 1183 _ rfl) (dk_L_law 1184 _ rfl) (dk_L_law 1185 _ rfl) (by decide) (dk_L_law 1186 _ rfl) (dk_L_law 1187 _ rfl) (by omega) (by omega) ?_
  refine J_i2l (dk_L_law 1188 _ rfl) ?_
  refine J_bipush (v := 32) (by decide) (dk_L_law 1189 _ rfl) ?_
  refine J_lshl rfl (dk_L_law 1191 _ rfl) ?_
  refine J_sarg (k := 4) (dk_L_law 1192 _ rfl) (dk_L_law 1193 _ rfl) (dk_L_law 1194 _ rfl) (by decide) (dk_L_law 1195 _ rfl) (dk_L_law 1196 _ rfl) (by omega) (by omega) ?_
  refine J_i2l (dk_L_law 1197 _ rfl) ?_
  refine J_ldc2 (v := 4294967295) ctl_8_153 (dk_L_law 1198 _ rfl) ?_
  refine J_land (dk_L_law 1201 _ rfl) ?_
  refine J_lor (dk_L_law 1202 _ rfl) ?_
  refine J_mc (ι := uI) (d' := 4) (As := [.int (xs (i + 1)), .int (xs (i + 2)), .long ((((xs (i + 3)).toInt64 <<< ((32 : Int32).toInt64 &&& 63)) ||| ((xs (i + 4)).toInt64 &&& 4294967295)))]) ok_X7_item vi_X7_item cl_8_159 (n := 3) (by decide +kernel) rfl rfl (Nat.le_of_ble_eq_true rfl) (by decide) (dk_L_law 1203 _ rfl) rfl (c_X7_item mm ((xs (i + 1))) ((xs (i + 2))) ((((xs (i + 3)).toInt64 <<< ((32 : Int32).toInt64 &&& 63)) ||| ((xs (i + 4)).toInt64 &&& 4294967295)))) h2 rfl ?_
  show J _ _ _ _ _ _ _ _ _ [.int r] _ _
  refine J_pop (v := .int r) rfl (dk_L_law 1206 _ rfl) ?_
  refine J_goto (tgt := 1306) (by decide) (dk_L_law 1207 _ rfl) ?_
  exact next _ _ hR
set_option maxHeartbeats 4000000 in
set_option maxRecDepth 1000000 in
theorem law_c34 (hL : L ≤ 3072) (hi : i + 6 ≤ L) (next : ∀ mx mm, RR mx mm → J m_L_law true L xs 24 kc ks 1306 (zI i) [] (HH mx mm) lawQ) {mx mm : mM} (h : RR mx mm) : J m_L_law true L xs 24 kc ks 1210 (zI i) [] (HH mx mm) lawQ := by
  obtain ⟨r, mx1, mm1, h1, h2, hR⟩ := op_read h ((xs (i + 1))) ((xs (i + 2)))
  refine J_aload_n (i := 1) (a := 1) rfl rfl (dk_L_law 1210 _ rfl) ?_
  refine J_sarg (k := 1) (dk_L_law 1211 _ rfl) (dk_L_law 1212 _ rfl) (dk_L_law 1213 _ rfl) (by decide) (dk_L_law 1214 _ rfl) (dk_L_law 1215 _ rfl) (by omega) (by omega) ?_
  refine J_sarg (k := 2) (dk_L_law 1216 _ rfl) (dk_L_law 1217 _ rfl) (dk_L_law 1218 _ rfl) (by decide) (dk_L_law 1219 _ rfl) (dk_L_law 1220 _ rfl) (by omega) (by omega) ?_
  refine J_xc (ι := uL) (d' := 3) (As := [.int (xs (i + 1)), .int (xs (i + 2))]) ok_X6_read vi_X6_read cl_8_160 (n := 2) (by decide +kernel) rfl rfl (Nat.le_of_ble_eq_true rfl) (by decide) (dk_L_law 1221 _ rfl) rfl (c_X6_read mx ((xs (i + 1))) ((xs (i + 2)))) h1 rfl ?_
  show J _ _ _ _ _ _ _ _ _ [.long r] _ _
  refine J_pop2 (v := .long r) rfl (dk_L_law 1224 _ rfl) ?_
  refine J_aload_n (i := 2) (a := 2) rfl rfl (dk_L_law 1225 _ rfl) ?_
  refine J_sarg (k := 1) (dk_L_law 1226 _ rfl) (dk_L_law 1227 _ rfl) (dk_L_law 1228 _ rfl) (by decide) (dk_L_law 1229 _ rfl) (dk_L_law 1230 _ rfl) (by omega) (by omega) ?_
  refine J_sarg (k := 2) (dk_L_law 1231 _ rfl) (dk_L_law 1232 _ rfl) (dk_L_law 1233 _ rfl) (by decide) (dk_L_law 1234 _ rfl) (dk_L_law 1235 _ rfl) (by omega) (by omega) ?_
  refine J_mc (ι := uL) (d' := 4) (As := [.int (xs (i + 1)), .int (xs (i + 2))]) ok_X7_read vi_X7_read cl_8_164 (n := 2) (by decide +kernel) rfl rfl (Nat.le_of_ble_eq_true rfl) (by decide) (dk_L_law 1236 _ rfl) rfl (c_X7_read mm ((xs (i + 1))) ((xs (i + 2)))) h2 rfl ?_
  show J _ _ _ _ _ _ _ _ _ [.long r] _ _
  refine J_pop2 (v := .long r) rfl (dk_L_law 1239 _ rfl) ?_
  refine J_goto (tgt := 1306) (by decide) (dk_L_law 1240 _ rfl) ?_
  exact next _ _ hR
set_option maxHeartbeats 4000000 in
set_option maxRecDepth 1000000 in
theorem law_c35 (hL : L ≤ 3072) (hi : i + 6 ≤ L) (next : ∀ mx mm, RR mx mm → J m_L_law true L xs 24 kc ks 1306 (zI i) [] (HH mx mm) lawQ) {mx mm : mM} (h : RR mx mm) : J m_L_law true L xs 24 kc ks 1243 (zI i) [] (HH mx mm) lawQ := by
  obtain ⟨r, mx1, mm1, h1, h2, hR⟩ := op_shift h ((xs (i + 1))) ((xs (i + 2))) ((xs (i + 3))) ((xs (i + 4))) ((xs (i + 5)))
  refine J_aload_n (i := 1) (a := 1) rfl rfl (dk_L_law 1243 _ rfl) ?_
  refine J_sarg (k := 1) (dk_L_law 1244 _ rfl) (dk_L_law 1245 _ rfl) (dk_L_law 1246 _ rfl) (by decide) (dk_L_law 1247 _ rfl) (dk_L_law 1248 _ rfl) (by omega) (by omega) ?_
  refine J_sarg (k := 2) (dk_L_law 1249 _ rfl) (dk_L_law 1250 _ rfl) (dk_L_law 1251 _ rfl) (by decide) (dk_L_law 1252 _ rfl) (dk_L_law 1253 _ rfl) (by omega) (by omega) ?_
  refine J_sarg (k := 3) (dk_L_law 1254 _ rfl) (dk_L_law 1255 _ rfl) (dk_L_law 1256 _ rfl) (by decide) (dk_L_law 1257 _ rfl) (dk_L_law 1258 _ rfl) (by omega) (by omega) ?_
  refine J_sarg (k := 4) (dk_L_law 1259 _ rfl) (dk_L_law 1260 _ rfl) (dk_L_law 1261 _ rfl) (by decide) (dk_L_law 1262 _ rfl) (dk_L_law 1263 _ rfl) (by omega) (by omega) ?_
  refine J_sarg (k := 5) (dk_L_law 1264 _ rfl) (dk_L_law 1265 _ rfl) (dk_L_law 1266 _ rfl) (by decide) (dk_L_law 1267 _ rfl) (dk_L_law 1268 _ rfl) (by omega) (by omega) ?_
  refine J_xc (ι := uI) (d' := 3) (As := [.int (xs (i + 1)), .int (xs (i + 2)), .int (xs (i + 3)), .int (xs (i + 4)), .int (xs (i + 5))]) ok_X6_shift vi_X6_shift cl_8_165 (n := 5) (by decide +kernel) rfl rfl (Nat.le_of_ble_eq_true rfl) (by decide) (dk_L_law 1269 _ rfl) rfl (c_X6_shift mx ((xs (i + 1))) ((xs (i + 2))) ((xs (i + 3))) ((xs (i + 4))) ((xs (i + 5)))) h1 rfl ?_
  show J _ _ _ _ _ _ _ _ _ [.int r] _ _
  refine J_aload_n (i := 2) (a := 2) rfl rfl (dk_L_law 1272 _ rfl) ?_
  refine J_sarg (k := 1) (dk_L_law 1273 _ rfl) (dk_L_law 1274 _ rfl) (dk_L_law 1275 _ rfl) (by decide) (dk_L_law 1276 _ rfl) (dk_L_law 1277 _ rfl) (by omega) (by omega) ?_
  refine J_sarg (k := 2) (dk_L_law 1278 _ rfl) (dk_L_law 1279 _ rfl) (dk_L_law 1280 _ rfl) (by decide) (dk_L_law 1281 _ rfl) (dk_L_law 1282 _ rfl) (by omega) (by omega) ?_
  refine J_sarg (k := 3) (dk_L_law 1283 _ rfl) (dk_L_law 1284 _ rfl) (dk_L_law 1285 _ rfl) (by decide) (dk_L_law 1286 _ rfl) (dk_L_law 1287 _ rfl) (by omega) (by omega) ?_
  refine J_sarg (k := 4) (dk_L_law 1288 _ rfl) (dk_L_law 1289 _ rfl) (dk_L_law 1290 _ rfl) (by decide) (dk_L_law 1291 _ rfl) (dk_L_law 1292 _ rfl) (by omega) (by omega) ?_
  refine J_sarg (k := 5) (dk_L_law 1293 _ rfl) (dk_L_law 1294 _ rfl) (dk_L_law 1295 _ rfl) (by decide) (dk_L_law 1296 _ rfl) (dk_L_law 1297 _ rfl) (by omega) (by omega) ?_
  refine J_mc (ι := uI) (d' := 4) (As := [.int (xs (i + 1)), .int (xs (i + 2)), .int (xs (i + 3)), .int (xs (i + 4)), .int (xs (i + 5))]) ok_X7_shift vi_X7_shift cl_8_169 (n := 5) (by decide +kernel) rfl rfl (Nat.le_of_ble_eq_true rfl) (by decide) (dk_L_law 1298 _ rfl) rfl (c_X7_shift mm ((xs (i + 1))) ((xs (i + 2))) ((xs (i + 3))) ((xs (i + 4))) ((xs (i + 5)))) h2 rfl ?_
  show J _ _ _ _ _ _ _ _ _ [.int r, .int r] _ _
  refine J_icT (tgt := 1306) (by decide) (dk_L_law 1301 _ rfl) rfl ?_
  exact next _ _ hR
end LAW
end
-- 25e.loop.lean.txt
section
/-! THE LAW: its switch, its loop, its start (by program: wip/gen/law2.py) -/
section LAW2
variable {L i : Nat} {xs : Nat → Int32} {kc ks : Nat}
set_option maxHeartbeats 4000000 in
set_option maxRecDepth 1000000 in
theorem law_six (hL : L ≤ 3072) (hi : i + 6 ≤ L) (next : ∀ mx mm, RR mx mm → J m_L_law true L xs 24 kc ks 1306 (zI i) [] (HH mx mm) lawQ) {mx mm : mM} (h : RR mx mm) : J m_L_law true L xs 24 kc ks 27 (zI i) [] (HH mx mm) lawQ := by
  refine J_sload_n (i := 0) (a := 0) rfl rfl (dk_L_law 27 _ rfl) ?_
  refine J_iload_n (i := 3) (a := 3) rfl rfl (dk_L_law 28 _ rfl) ?_
  refine J_sldC (v := xs i) rfl (vp_in_nI (by omega) (by omega)) (by rw [nI_clamp (by omega)]) (dk_L_law 29 _ rfl) ?_
  refine J_bipush (v := 63) (by decide) (dk_L_law 30 _ rfl) ?_
  refine J_iand (dk_L_law 32 _ rfl) ?_
  generalize xs i &&& 63 = y
  by_cases hy : y.toInt < 0 ∨ 35 < y.toInt
  · exact J_tout (tgt := 1306) hy (by decide) (dk_L_law 33 _ rfl) (next _ _ h)
  · have h36 : y.toInt = 0 ∨ y.toInt = 1 ∨ y.toInt = 2 ∨ y.toInt = 3 ∨ y.toInt = 4 ∨ y.toInt = 5 ∨ y.toInt = 6 ∨ y.toInt = 7 ∨ y.toInt = 8 ∨ y.toInt = 9 ∨ y.toInt = 10 ∨ y.toInt = 11 ∨ y.toInt = 12 ∨ y.toInt = 13 ∨ y.toInt = 14 ∨ y.toInt = 15 ∨ y.toInt = 16 ∨ y.toInt = 17 ∨ y.toInt = 18 ∨ y.toInt = 19 ∨ y.toInt = 20 ∨ y.toInt = 21 ∨ y.toInt = 22 ∨ y.toInt = 23 ∨ y.toInt = 24 ∨ y.toInt = 25 ∨ y.toInt = 26 ∨ y.toInt = 27 ∨ y.toInt = 28 ∨ y.toInt = 29 ∨ y.toInt = 30 ∨ y.toInt = 31 ∨ y.toInt = 32 ∨ y.toInt = 33 ∨ y.toInt = 34 ∨ y.toInt = 35 := by omega
    rcases h36 with e | e | e | e | e | e | e | e | e | e | e | e | e | e | e | e | e | e | e | e | e | e | e | e | e | e | e | e | e | e | e | e | e | e | e | e
    · exact J_tin (off := 159) (tgt := 192) (by omega) (by omega) (by rw [e]; rfl) (by decide) (dk_L_law 33 _ rfl) (law_c0 hL hi next h)
    · exact J_tin (off := 212) (tgt := 245) (by omega) (by omega) (by rw [e]; rfl) (by decide) (dk_L_law 33 _ rfl) (law_c1 hL hi next h)
    · exact J_tin (off := 245) (tgt := 278) (by omega) (by omega) (by rw [e]; rfl) (by decide) (dk_L_law 33 _ rfl) (law_c2 hL hi next h)
    · exact J_tin (off := 288) (tgt := 321) (by omega) (by omega) (by rw [e]; rfl) (by decide) (dk_L_law 33 _ rfl) (law_c3 hL hi next h)
    · exact J_tin (off := 337) (tgt := 370) (by omega) (by omega) (by rw [e]; rfl) (by decide) (dk_L_law 33 _ rfl) (law_c4 hL hi next h)
    · exact J_tin (off := 380) (tgt := 413) (by omega) (by omega) (by rw [e]; rfl) (by decide) (dk_L_law 33 _ rfl) (law_c5 hL hi next h)
    · exact J_tin (off := 403) (tgt := 436) (by omega) (by omega) (by rw [e]; rfl) (by decide) (dk_L_law 33 _ rfl) (law_c6 hL hi next h)
    · exact J_tin (off := 416) (tgt := 449) (by omega) (by omega) (by rw [e]; rfl) (by decide) (dk_L_law 33 _ rfl) (law_c7 hL hi next h)
    · exact J_tin (off := 439) (tgt := 472) (by omega) (by omega) (by rw [e]; rfl) (by decide) (dk_L_law 33 _ rfl) (law_c8 hL hi next h)
    · exact J_tin (off := 452) (tgt := 485) (by omega) (by omega) (by rw [e]; rfl) (by decide) (dk_L_law 33 _ rfl) (law_c9 hL hi next h)
    · exact J_tin (off := 495) (tgt := 528) (by omega) (by omega) (by rw [e]; rfl) (by decide) (dk_L_law 33 _ rfl) (law_c10 hL hi next h)
    · exact J_tin (off := 518) (tgt := 551) (by omega) (by omega) (by rw [e]; rfl) (by decide) (dk_L_law 33 _ rfl) (law_c11 hL hi next h)
    · exact J_tin (off := 551) (tgt := 584) (by omega) (by omega) (by rw [e]; rfl) (by decide) (dk_L_law 33 _ rfl) (law_c12 hL hi next h)
    · exact J_tin (off := 584) (tgt := 617) (by omega) (by omega) (by rw [e]; rfl) (by decide) (dk_L_law 33 _ rfl) (law_c13 hL hi next h)
    · exact J_tin (off := 597) (tgt := 630) (by omega) (by omega) (by rw [e]; rfl) (by decide) (dk_L_law 33 _ rfl) (law_c14 hL hi next h)
    · exact J_tin (off := 630) (tgt := 663) (by omega) (by omega) (by rw [e]; rfl) (by decide) (dk_L_law 33 _ rfl) (law_c15 hL hi next h)
    · exact J_tin (off := 653) (tgt := 686) (by omega) (by omega) (by rw [e]; rfl) (by decide) (dk_L_law 33 _ rfl) (law_c16 hL hi next h)
    · exact J_tin (off := 676) (tgt := 709) (by omega) (by omega) (by rw [e]; rfl) (by decide) (dk_L_law 33 _ rfl) (law_c17 hL hi next h)
    · exact J_tin (off := 699) (tgt := 732) (by omega) (by omega) (by rw [e]; rfl) (by decide) (dk_L_law 33 _ rfl) (law_c18 hL hi next h)
    · exact J_tin (off := 722) (tgt := 755) (by omega) (by omega) (by rw [e]; rfl) (by decide) (dk_L_law 33 _ rfl) (law_c19 hL hi next h)
    · exact J_tin (off := 745) (tgt := 778) (by omega) (by omega) (by rw [e]; rfl) (by decide) (dk_L_law 33 _ rfl) (law_c20 hL hi next h)
    · exact J_tin (off := 768) (tgt := 801) (by omega) (by omega) (by rw [e]; rfl) (by decide) (dk_L_law 33 _ rfl) (law_c21 hL hi next h)
    · exact J_tin (off := 811) (tgt := 844) (by omega) (by omega) (by rw [e]; rfl) (by decide) (dk_L_law 33 _ rfl) (law_c22 hL hi next h)
    · exact J_tin (off := 834) (tgt := 867) (by omega) (by omega) (by rw [e]; rfl) (by decide) (dk_L_law 33 _ rfl) (law_c23 hL hi next h)
    · exact J_tin (off := 857) (tgt := 890) (by omega) (by omega) (by rw [e]; rfl) (by decide) (dk_L_law 33 _ rfl) (law_c24 hL hi next h)
    · exact J_tin (off := 880) (tgt := 913) (by omega) (by omega) (by rw [e]; rfl) (by decide) (dk_L_law 33 _ rfl) (law_c25 hL hi next h)
    · exact J_tin (off := 913) (tgt := 946) (by omega) (by omega) (by rw [e]; rfl) (by decide) (dk_L_law 33 _ rfl) (law_c26 hL hi next h)
    · exact J_tin (off := 926) (tgt := 959) (by omega) (by omega) (by rw [e]; rfl) (by decide) (dk_L_law 33 _ rfl) (law_c27 hL hi next h)
    · exact J_tin (off := 939) (tgt := 972) (by omega) (by omega) (by rw [e]; rfl) (by decide) (dk_L_law 33 _ rfl) (law_c28 hL hi next h)
    · exact J_tin (off := 982) (tgt := 1015) (by omega) (by omega) (by rw [e]; rfl) (by decide) (dk_L_law 33 _ rfl) (law_c29 hL hi next h)
    · exact J_tin (off := 1005) (tgt := 1038) (by omega) (by omega) (by rw [e]; rfl) (by decide) (dk_L_law 33 _ rfl) (law_c30 hL hi next h)
    · exact J_tin (off := 1038) (tgt := 1071) (by omega) (by omega) (by rw [e]; rfl) (by decide) (dk_L_law 33 _ rfl) (law_c31 hL hi next h)
    · exact J_tin (off := 1061) (tgt := 1094) (by omega) (by omega) (by rw [e]; rfl) (by decide) (dk_L_law 33 _ rfl) (law_c32 hL hi next h)
    · exact J_tin (off := 1104) (tgt := 1137) (by omega) (by omega) (by rw [e]; rfl) (by decide) (dk_L_law 33 _ rfl) (law_c33 hL hi next h)
    · exact J_tin (off := 1177) (tgt := 1210) (by omega) (by omega) (by rw [e]; rfl) (by decide) (dk_L_law 33 _ rfl) (law_c34 hL hi next h)
    · exact J_tin (off := 1210) (tgt := 1243) (by omega) (by omega) (by rw [e]; rfl) (by decide) (dk_L_law 33 _ rfl) (law_c35 hL hi next h)
set_option maxRecDepth 1000000 in
theorem law_loop (hL : L ≤ 3072) : ∀ (j i : Nat), L + 6 - i ≤ j → i ≤ 4000 → ∀ mx mm, RR mx mm → J m_L_law true L xs 24 kc ks 18 (zI i) [] (HH mx mm) lawQ := by
  intro j
  induction j with
  | zero =>
    intro i hj hi mx mm h
    have hs : (nI L - 6).toInt = (L : Int) - 6 := sub6 hL
    refine J_iload_n (i := 3) (a := 3) rfl rfl (dk_L_law 18 _ rfl) ?_
    refine J_sload_n (i := 0) (a := 0) rfl rfl (dk_L_law 19 _ rfl) ?_
    refine J_slen (v := nI L) rfl rfl (dk_L_law 20 _ rfl) ?_
    refine J_bipush (v := 6) (by decide) (dk_L_law 21 _ rfl) ?_
    refine J_isubC rfl (dk_L_law 23 _ rfl) ?_
    refine J_icT (tgt := 1312) (by decide) (dk_L_law 24 _ rfl) (show nI L - 6 < nI i by rw [Int32.lt_iff_toInt_lt, hs, nI_toInt (by omega)]; omega) ?_
    refine J_iconst (v := 1) (by decide) (dk_L_law 1312 _ rfl) ?_
    exact J_iret rfl rfl (dk_L_law 1313 _ rfl) rfl
  | succ j ih =>
    intro i hj hi mx mm h
    have hs : (nI L - 6).toInt = (L : Int) - 6 := sub6 hL
    refine J_iload_n (i := 3) (a := 3) rfl rfl (dk_L_law 18 _ rfl) ?_
    refine J_sload_n (i := 0) (a := 0) rfl rfl (dk_L_law 19 _ rfl) ?_
    refine J_slen (v := nI L) rfl rfl (dk_L_law 20 _ rfl) ?_
    refine J_bipush (v := 6) (by decide) (dk_L_law 21 _ rfl) ?_
    refine J_isubC rfl (dk_L_law 23 _ rfl) ?_
    by_cases hc : i + 6 ≤ L
    · refine J_icF (tgt := 1312) (by decide) (dk_L_law 24 _ rfl) (show ¬ nI L - 6 < nI i by rw [Int32.lt_iff_toInt_lt, hs, nI_toInt (by omega)]; omega) ?_
      refine law_six hL hc (fun mx mm h => ?_) h
      refine J_iinc (i := 3) (n := 6) (v := nI (i + 6)) rfl (nI_add i 6) (by decide) (dk_L_law 1306 _ rfl) ?_
      refine J_goto (tgt := 18) (by decide) (dk_L_law 1309 _ rfl) ?_
      show J _ _ _ _ _ _ _ _ (zI (i + 6)) _ _ _
      exact ih (i + 6) (by omega) (by omega) mx mm h
    · refine J_icT (tgt := 1312) (by decide) (dk_L_law 24 _ rfl) (show nI L - 6 < nI i by rw [Int32.lt_iff_toInt_lt, hs, nI_toInt (by omega)]; omega) ?_
      refine J_iconst (v := 1) (by decide) (dk_L_law 1312 _ rfl) ?_
      exact J_iret rfl rfl (dk_L_law 1313 _ rfl) rfl
set_option maxRecDepth 1000000 in
theorem law_all (hL : L ≤ 3072) : J m_L_law true L xs 24 600000 7302250 0 [(0, .retAddr 0)] [] [] lawQ := by
  refine J_new (kc := 599999) (ks := 7302239) (ci := 6) (q := (RX6, TX6, 11)) rfl kl_8_7 is_6 ic_6 (jdf_ok rfl).1 (jdf_ok rfl).2 (by decide +kernel) (by decide +kernel) (dk_L_law 0 _ rfl) ?_
  refine J_dup rfl (dk_L_law 3 _ rfl) ?_
  refine J_callI (kc' := 93) (ks' := 3168) (kc := 599906) (ks := 7299071) (As := []) (b := 0) ok_X6_init in_X6_init cl_8_9 (n := 0) (by decide +kernel) rfl (by decide) (Or.inr (by decide +kernel)) (by decide) (dk_L_law 4 _ rfl) (jev_ctA rfl r_newX) (fun r h' hq _ => ?_)
  obtain ⟨rfl, rfl⟩ := hq
  show J _ _ _ _ _ _ _ _ _ [.ref 0] _ _
  refine J_astore_n (i := 1) (a := 1) rfl (by decide) (dk_L_law 7 _ rfl) ?_
  show J _ _ _ _ _ _ _ _ [(1, .ref 0), (0, .retAddr 0)] _ _ _
  refine J_new (kc := 599905) (ks := 7299011) (ci := 7) (q := (RX7, TX7, 60)) rfl kl_8_10 is_7 ic_7 (jdf_ok rfl).1 (jdf_ok rfl).2 (by decide +kernel) (by decide +kernel) (dk_L_law 8 _ rfl) ?_
  rw [lX]
  refine J_dup rfl (dk_L_law 11 _ rfl) ?_
  refine J_callI (kc' := 36) (ks' := 1814) (kc := 599869) (ks := 7297197) (As := []) (b := 94) ok_X7_init in_X7_init cl_8_12 (n := 0) (by decide +kernel) rfl (by decide) (Or.inr (by decide +kernel)) (by decide) (dk_L_law 12 _ rfl) (jev_ctA rfl r_newM) (fun r h' hq _ => ?_)
  obtain ⟨rfl, rfl⟩ := hq
  show J _ _ _ _ _ _ _ _ _ [.ref 94] _ _
  refine J_astore_n (i := 2) (a := 2) rfl (by decide) (dk_L_law 15 _ rfl) ?_
  refine J_iconst (v := 0) (by decide) (dk_L_law 16 _ rfl) ?_
  refine J_istore_n (i := 3) (a := 3) rfl (by decide) (dk_L_law 17 _ rfl) ?_
  show J _ _ _ _ _ _ _ _ (zI 0) _ _ _
  rw [HH0]
  exact law_loop hL (L + 6) 0 (by omega) (by omega) mx0 mm0 RR0
end LAW2
end
-- 25f.out.lean.txt
section
/-! what lies outside the heap, at the start (by program: wip/gen/law2.py) -/
set_option maxRecDepth 100000 in
theorem z_above : Cond.laysStatic RX6 "ABOVE" "[I" ∈ lw_tbl := List.mem_of_getElem? (i := 743) rfl
set_option maxRecDepth 100000 in
theorem z_compact : Cond.laysStatic "java/lang/String" "COMPACT_STRINGS" "Z" ∈ lw_tbl := List.mem_of_getElem? (i := 477) rfl
set_option maxRecDepth 100000 in
theorem z_sioobe : Cond.laysStatic "jdk/internal/util/Preconditions" "SIOOBE_FORMATTER" "Ljava/util/function/BiFunction;" ∈ lw_tbl := List.mem_of_getElem? (i := 493) rfl
set_option maxRecDepth 100000 in
theorem z_i6 : Cond.initialized RX6 ∈ lw_tbl := List.mem_of_getElem? (i := 87) rfl
set_option maxRecDepth 100000 in
theorem z_iS : Cond.initialized "java/lang/String" ∈ lw_tbl := List.mem_of_getElem? (i := 95) rfl
set_option maxRecDepth 100000 in
theorem z_iP : Cond.initialized "jdk/internal/util/Preconditions" ∈ lw_tbl := List.mem_of_getElem? (i := 97) rfl
set_option maxRecDepth 100000 in
theorem z_s2 : Cond.stringRef RX4 35 ";" ∈ lw_tbl := List.mem_of_getElem? (i := 553) rfl
set_option maxRecDepth 100000 in
theorem z_s3 : Cond.stringRef RX4 53 "take " ∈ lw_tbl := List.mem_of_getElem? (i := 463) rfl
set_option maxRecDepth 100000 in
theorem z_s4 : Cond.stringRef RX4 58 " " ∈ lw_tbl := List.mem_of_getElem? (i := 520) rfl
set_option maxRecDepth 100000 in
theorem z_s5 : Cond.stringRef RX4 68 "due " ∈ lw_tbl := List.mem_of_getElem? (i := 550) rfl
set_option maxRecDepth 100000 in
theorem z_s6 : Cond.stringRef RX4 73 "cost " ∈ lw_tbl := List.mem_of_getElem? (i := 551) rfl
set_option maxRecDepth 100000 in
theorem z_s7 : Cond.stringRef RX4 78 "feast " ∈ lw_tbl := List.mem_of_getElem? (i := 552) rfl
set_option maxRecDepth 100000 in
theorem z_s8 : Cond.stringRef RX4 100 ")" ∈ lw_tbl := List.mem_of_getElem? (i := 545) rfl
def tmS : Nat → Term
  | 0 => .string RX4 35
  | 1 => .string RX4 53
  | 2 => .string RX4 58
  | 3 => .string RX4 68
  | 4 => .string RX4 73
  | 5 => .string RX4 78
  | _ => .string RX4 100
set_option maxRecDepth 100000 in
theorem tS_ex {args : Array Value} {s : State} (hs : ∀ w ∈ flatC (Jvm.Cond.and given_1 narrow_1), w.before args s = true) : ∀ i, i < 7 → (Cond.exactly (tmS i) "java/lang/String").before args s = true := fun i hi => by
  match i, hi with
  | 0, _ => exact hs _ (by decide +kernel)
  | 1, _ => exact hs _ (by decide +kernel)
  | 2, _ => exact hs _ (by decide +kernel)
  | 3, _ => exact hs _ (by decide +kernel)
  | 4, _ => exact hs _ (by decide +kernel)
  | 5, _ => exact hs _ (by decide +kernel)
  | 6, _ => exact hs _ (by decide +kernel)
set_option maxRecDepth 100000 in
theorem tS_co {args : Array Value} {s : State} (hs : ∀ w ∈ flatC (Jvm.Cond.and given_1 narrow_1), w.before args s = true) : ∀ i, i < 7 → (Cond.eq (.field (tmS i) "java/lang/String" "coder" "B") (.int 0)).before args s = true := fun i hi => by
  match i, hi with
  | 0, _ => exact hs _ (by decide +kernel)
  | 1, _ => exact hs _ (by decide +kernel)
  | 2, _ => exact hs _ (by decide +kernel)
  | 3, _ => exact hs _ (by decide +kernel)
  | 4, _ => exact hs _ (by decide +kernel)
  | 5, _ => exact hs _ (by decide +kernel)
  | 6, _ => exact hs _ (by decide +kernel)
set_option maxRecDepth 100000 in
theorem tS_ar {args : Array Value} {s : State} (hs : ∀ w ∈ flatC (Jvm.Cond.and given_1 narrow_1), w.before args s = true) : ∀ i, i < 7 → (Cond.arrayOf (.field (tmS i) "java/lang/String" "value" "[B") .byte).before args s = true := fun i hi => by
  match i, hi with
  | 0, _ => exact hs _ (by decide +kernel)
  | 1, _ => exact hs _ (by decide +kernel)
  | 2, _ => exact hs _ (by decide +kernel)
  | 3, _ => exact hs _ (by decide +kernel)
  | 4, _ => exact hs _ (by decide +kernel)
  | 5, _ => exact hs _ (by decide +kernel)
  | 6, _ => exact hs _ (by decide +kernel)
set_option maxRecDepth 100000 in
theorem tS_le {args : Array Value} {s : State} (hs : ∀ w ∈ flatC (Jvm.Cond.and given_1 narrow_1), w.before args s = true) : ∀ i, i < 7 → (Cond.eq (.length (.field (tmS i) "java/lang/String" "value" "[B")) (.int (Int32.ofNat (oxL.getD i 0)))).before args s = true := fun i hi => by
  match i, hi with
  | 0, _ => exact hs _ (by decide +kernel)
  | 1, _ => exact hs _ (by decide +kernel)
  | 2, _ => exact hs _ (by decide +kernel)
  | 3, _ => exact hs _ (by decide +kernel)
  | 4, _ => exact hs _ (by decide +kernel)
  | 5, _ => exact hs _ (by decide +kernel)
  | 6, _ => exact hs _ (by decide +kernel)
set_option maxRecDepth 100000 in
theorem tS_el {args : Array Value} {s : State} (hs : ∀ w ∈ flatC (Jvm.Cond.and given_1 narrow_1), w.before args s = true) : ∀ i, i < 7 → ∀ j, j < oxL.getD i 0 → (Cond.eq (.elem (.field (tmS i) "java/lang/String" "value" "[B") (.int (Int32.ofNat j))) (.int ((oxB.getD i []).getD j 0))).before args s = true := fun i hi j hj => by
  match i, hi with
  | 0, _ =>
    match j, hj with
    | 0, _ => exact hs _ (by decide +kernel)
  | 1, _ =>
    match j, hj with
    | 0, _ => exact hs _ (by decide +kernel)
    | 1, _ => exact hs _ (by decide +kernel)
    | 2, _ => exact hs _ (by decide +kernel)
    | 3, _ => exact hs _ (by decide +kernel)
    | 4, _ => exact hs _ (by decide +kernel)
  | 2, _ =>
    match j, hj with
    | 0, _ => exact hs _ (by decide +kernel)
  | 3, _ =>
    match j, hj with
    | 0, _ => exact hs _ (by decide +kernel)
    | 1, _ => exact hs _ (by decide +kernel)
    | 2, _ => exact hs _ (by decide +kernel)
    | 3, _ => exact hs _ (by decide +kernel)
  | 4, _ =>
    match j, hj with
    | 0, _ => exact hs _ (by decide +kernel)
    | 1, _ => exact hs _ (by decide +kernel)
    | 2, _ => exact hs _ (by decide +kernel)
    | 3, _ => exact hs _ (by decide +kernel)
    | 4, _ => exact hs _ (by decide +kernel)
  | 5, _ =>
    match j, hj with
    | 0, _ => exact hs _ (by decide +kernel)
    | 1, _ => exact hs _ (by decide +kernel)
    | 2, _ => exact hs _ (by decide +kernel)
    | 3, _ => exact hs _ (by decide +kernel)
    | 4, _ => exact hs _ (by decide +kernel)
    | 5, _ => exact hs _ (by decide +kernel)
  | 6, _ =>
    match j, hj with
    | 0, _ => exact hs _ (by decide +kernel)
set_option maxRecDepth 100000 in
theorem tS_ne {args : Array Value} {s : State} (hs : ∀ w ∈ flatC (Jvm.Cond.and given_1 narrow_1), w.before args s = true) : ∀ i j, i < 7 → j < 7 → i ≠ j → (Cond.not (Cond.eq (tmS i) (tmS j))).before args s = true ∨ (Cond.not (Cond.eq (tmS j) (tmS i))).before args s = true := fun i j hi hj hij => by
  match i, hi, j, hj with
  | 0, _, 0, _ => exact absurd rfl hij
  | 0, _, 1, _ => exact Or.inr (hs _ (by decide +kernel))
  | 0, _, 2, _ => exact Or.inr (hs _ (by decide +kernel))
  | 0, _, 3, _ => exact Or.inr (hs _ (by decide +kernel))
  | 0, _, 4, _ => exact Or.inr (hs _ (by decide +kernel))
  | 0, _, 5, _ => exact Or.inr (hs _ (by decide +kernel))
  | 0, _, 6, _ => exact Or.inr (hs _ (by decide +kernel))
  | 1, _, 0, _ => exact Or.inl (hs _ (by decide +kernel))
  | 1, _, 1, _ => exact absurd rfl hij
  | 1, _, 2, _ => exact Or.inl (hs _ (by decide +kernel))
  | 1, _, 3, _ => exact Or.inl (hs _ (by decide +kernel))
  | 1, _, 4, _ => exact Or.inl (hs _ (by decide +kernel))
  | 1, _, 5, _ => exact Or.inl (hs _ (by decide +kernel))
  | 1, _, 6, _ => exact Or.inl (hs _ (by decide +kernel))
  | 2, _, 0, _ => exact Or.inl (hs _ (by decide +kernel))
  | 2, _, 1, _ => exact Or.inr (hs _ (by decide +kernel))
  | 2, _, 2, _ => exact absurd rfl hij
  | 2, _, 3, _ => exact Or.inl (hs _ (by decide +kernel))
  | 2, _, 4, _ => exact Or.inl (hs _ (by decide +kernel))
  | 2, _, 5, _ => exact Or.inl (hs _ (by decide +kernel))
  | 2, _, 6, _ => exact Or.inl (hs _ (by decide +kernel))
  | 3, _, 0, _ => exact Or.inl (hs _ (by decide +kernel))
  | 3, _, 1, _ => exact Or.inr (hs _ (by decide +kernel))
  | 3, _, 2, _ => exact Or.inr (hs _ (by decide +kernel))
  | 3, _, 3, _ => exact absurd rfl hij
  | 3, _, 4, _ => exact Or.inl (hs _ (by decide +kernel))
  | 3, _, 5, _ => exact Or.inl (hs _ (by decide +kernel))
  | 3, _, 6, _ => exact Or.inr (hs _ (by decide +kernel))
  | 4, _, 0, _ => exact Or.inl (hs _ (by decide +kernel))
  | 4, _, 1, _ => exact Or.inr (hs _ (by decide +kernel))
  | 4, _, 2, _ => exact Or.inr (hs _ (by decide +kernel))
  | 4, _, 3, _ => exact Or.inr (hs _ (by decide +kernel))
  | 4, _, 4, _ => exact absurd rfl hij
  | 4, _, 5, _ => exact Or.inl (hs _ (by decide +kernel))
  | 4, _, 6, _ => exact Or.inr (hs _ (by decide +kernel))
  | 5, _, 0, _ => exact Or.inl (hs _ (by decide +kernel))
  | 5, _, 1, _ => exact Or.inr (hs _ (by decide +kernel))
  | 5, _, 2, _ => exact Or.inr (hs _ (by decide +kernel))
  | 5, _, 3, _ => exact Or.inr (hs _ (by decide +kernel))
  | 5, _, 4, _ => exact Or.inr (hs _ (by decide +kernel))
  | 5, _, 5, _ => exact absurd rfl hij
  | 5, _, 6, _ => exact Or.inr (hs _ (by decide +kernel))
  | 6, _, 0, _ => exact Or.inl (hs _ (by decide +kernel))
  | 6, _, 1, _ => exact Or.inr (hs _ (by decide +kernel))
  | 6, _, 2, _ => exact Or.inr (hs _ (by decide +kernel))
  | 6, _, 3, _ => exact Or.inl (hs _ (by decide +kernel))
  | 6, _, 4, _ => exact Or.inl (hs _ (by decide +kernel))
  | 6, _, 5, _ => exact Or.inl (hs _ (by decide +kernel))
  | 6, _, 6, _ => exact absurd rfl hij
set_option maxRecDepth 100000 in
theorem tA_el {args : Array Value} {s : State} (hs : ∀ w ∈ flatC (Jvm.Cond.and given_1 narrow_1), w.before args s = true) : ∀ j, j < 7 → (Cond.eq (.elem (.static RX6 "ABOVE" "[I") (.int (Int32.ofNat j))) (.int (oxA.getD j 0))).before args s = true := fun j hj => by
  match j, hj with
  | 0, _ => exact hs _ (by decide +kernel)
  | 1, _ => exact hs _ (by decide +kernel)
  | 2, _ => exact hs _ (by decide +kernel)
  | 3, _ => exact hs _ (by decide +kernel)
  | 4, _ => exact hs _ (by decide +kernel)
  | 5, _ => exact hs _ (by decide +kernel)
  | 6, _ => exact hs _ (by decide +kernel)
def sbF (b tA tF : Nat) (adK adV : Nat → Nat) : Nat → Nat := fun k => if k = 0 then b else if k = 1 then tA else if k = 50 then tF else if k < 20 then adK (k - 2) else adV (k - 20)
set_option maxRecDepth 100000 in
theorem st_O {b : Nat} {s : State} {args : Array Value} (hgv : (Jvm.Cond.and given_1 narrow_1).before args s = true) (hts : ∀ w ∈ lw_tbl, w.before args s = true) : ∃ sb : Nat → Nat, sb 0 = b ∧ jO sb (fun q => s.heap.size ≤ q) s s.heap := by
  have hs := flat_of_before _ hgv
  have hA : ∀ a : Nat, a < s.heap.size → ¬ s.heap.size ≤ a := fun a h => Nat.not_le.mpr h
  obtain ⟨tA, e1, hT⟩ := va_Tof (tm := .static RX6 "ABOVE" "[I") (ty := .int) (N := 7) (f := fun j => .int (oxA.getD j 0)) (A := fun q => s.heap.size ≤ q) (by decide) (hs _ (by decide +kernel)) (va_eqt (hs _ (by decide +kernel))) (fun j hj => va_eqt (tA_el hs j hj)) hA
  obtain ⟨adK, adV, hS, eS⟩ := vk_Sof (args := args) (s := s) (N := 7) (tm := tmS) (len := oxL) (byt := oxB) (A := fun q => s.heap.size ≤ q) (by decide) (tS_ex hs) (tS_co hs) (tS_ar hs) (tS_le hs) (tS_el hs) (tS_ne hs) hA
  have hZq := va_Zqof (hts _ z_sioobe) (hts _ z_iP) (hs _ (by decide +kernel)) hA
  have key : ∀ tF, (va_Z "jdk/internal/util/Preconditions" "SIOOBE_FORMATTER" "Ljava/util/function/BiFunction;" .null (fun q => s.heap.size ≤ q) s s.heap ∨ va_Z "jdk/internal/util/Preconditions" "SIOOBE_FORMATTER" "Ljava/util/function/BiFunction;" (.ref tF) (fun q => s.heap.size ≤ q) s s.heap) → ∃ sb : Nat → Nat, sb 0 = b ∧ jO sb (fun q => s.heap.size ≤ q) s s.heap := fun tF hF => by
    refine ⟨sbF b tA tF adK adV, rfl, va_Zref (hts _ z_above) (hts _ z_i6) e1 hA, hT, va_Zof (hts _ z_compact) (hts _ z_iS) (va_eqt (hs _ (by decide +kernel))) hA, ⟨vk_R.of (hts _ z_s2) (eS 0 (by decide)), vk_R.of (hts _ z_s3) (eS 1 (by decide)), vk_R.of (hts _ z_s4) (eS 2 (by decide)), vk_R.of (hts _ z_s5) (eS 3 (by decide)), vk_R.of (hts _ z_s6) (eS 4 (by decide)), vk_R.of (hts _ z_s7) (eS 5 (by decide)), vk_R.of (hts _ z_s8) (eS 6 (by decide))⟩, ⟨fun i hi => ?_, fun i j hi hj e => ?_⟩, hF⟩
    · have e1 : sbF b tA tF adK adV (i + 2) = adK i := by
        unfold sbF; rw [if_neg (by omega), if_neg (by omega), if_neg (by omega), if_pos (by omega), show i + 2 - 2 = i by omega]
      have e2 : sbF b tA tF adK adV (i + 20) = adV i := by
        unfold sbF; rw [if_neg (by omega), if_neg (by omega), if_neg (by omega), if_neg (by omega), show i + 20 - 20 = i by omega]
      have := hS.1 i hi
      show va_O _ (sbF b tA tF adK adV (i + 2)) _ _ _ ∧ va_OF _ _ _ _ (sbF b tA tF adK adV (i + 2)) _ _ _ ∧ va_OF _ _ _ (.ref (sbF b tA tF adK adV (i + 20))) (sbF b tA tF adK adV (i + 2)) _ _ _ ∧ va_T _ (sbF b tA tF adK adV (i + 20)) _ _ _ _ _
      rw [e1, e2]; exact this
    · have e1 : ∀ i, i < 7 → sbF b tA tF adK adV (i + 2) = adK i := fun i hi => by
        unfold sbF; rw [if_neg (by omega), if_neg (by omega), if_neg (by omega), if_pos (by omega), show i + 2 - 2 = i by omega]
      exact hS.2 i j hi hj ((e1 i hi).symm.trans (e.trans (e1 j hj)))
  rcases hZq with h | ⟨tF, h⟩
  · exact key 0 (Or.inl h)
  · exact key tF (Or.inr h)
end
