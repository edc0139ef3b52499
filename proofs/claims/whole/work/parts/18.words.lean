/-! THE ROWS ARE RIGHT: each is checked against the bytes, and against the tables' words -/
def xon (k : Nat) : String := xno.getD k ""
/-- the word that a link stands for -/
def xwd (k o idx a b : Nat) : Cond :=
  if k = 0 then .fieldLink (xon o) idx ((xcl.getD a xc0).2.1 b).1 ((xcl.getD a xc0).2.1 b).2.1 ((xcl.getD a xc0).2.1 b).2.2.1
  else if k = 1 then .methodLink (xon o) idx (xmn a)
  else if k = 2 then .classLink (xon o) idx (xcl.getD a xc0).1
  else if k = 3 then .classLink (xon o) idx (xqn a)
  else if k = 4 then .classLink (xon o) idx "[[I"
  else if k = 5 then .classLink (xon o) idx "[I"
  else if k = 6 then .methodLink (xon o) idx objectInit
  else if k = 7 then .methodLink (xon o) idx ⟨"[I", "clone", "()Ljava/lang/Object;"⟩
  else if k = 8 then .methodLink (xon o) idx arraycopyName
  else if k = 9 then .methodLink (xon o) idx Lib.Math.max.name
  else .methodLink (xon o) idx Lib.Math.min.name
theorem xwd_good (k o idx a b : Nat) : goodWord (xwd k o idx a b) = true := by
  unfold xwd
  repeat' split
  all_goals rfl
def xlok (q : Nat × Nat × Nat × Nat × Nat × Nat) : Prop := lw_tbl[q.1]? = some (xwd q.2.1 q.2.2.1 q.2.2.2.1 q.2.2.2.2.1 q.2.2.2.2.2)
def xlall : List (Nat × Nat × Nat × Nat × Nat × Nat) → Prop
  | [] => True
  | q :: r => xlok q ∧ xlall r
theorem xlall_mem : ∀ {l : List (Nat × Nat × Nat × Nat × Nat × Nat)}, xlall l → ∀ q ∈ l, xlok q
  | [], _, q, h => by cases h
  | p :: r, ⟨h1, h2⟩, q, h => by
    rcases List.mem_cons.mp h with rfl | h
    · exact h1
    · exact xlall_mem h2 q h
set_option maxRecDepth 100000 in
set_option maxHeartbeats 4000000 in
theorem xlw_ok : xlall xlw := ⟨rfl, rfl, rfl, rfl, rfl, rfl, rfl, rfl, rfl, rfl, rfl, rfl, rfl, rfl, rfl, rfl, rfl, rfl, rfl, rfl, rfl, rfl, rfl, rfl, rfl, rfl, rfl, rfl, rfl, rfl, rfl, rfl, rfl, rfl, rfl, rfl, rfl, rfl, rfl, rfl, rfl, rfl, rfl, rfl, rfl, rfl, rfl, rfl, rfl, rfl, rfl, rfl, rfl, rfl, rfl, rfl, rfl, rfl, rfl, rfl, rfl, rfl, rfl, rfl, rfl, rfl, rfl, rfl, rfl, rfl, rfl, rfl, rfl, rfl, rfl, rfl, rfl, rfl, rfl, rfl, rfl, rfl, rfl, rfl, rfl, rfl, rfl, rfl, rfl, rfl, rfl, rfl, rfl, rfl, rfl, rfl, rfl, rfl, rfl, rfl, rfl, rfl, rfl, rfl, rfl, rfl, rfl, rfl, rfl, rfl, rfl, rfl, rfl, rfl, rfl, rfl, rfl, rfl, rfl, rfl, rfl, rfl, rfl, rfl, rfl, rfl, rfl, rfl, rfl, rfl, rfl, rfl, rfl, rfl, rfl, rfl, rfl, rfl, rfl, rfl, rfl, rfl, rfl, rfl, rfl, rfl, rfl, rfl, rfl, rfl, rfl, rfl, rfl, rfl, rfl, rfl, rfl, rfl, rfl, rfl, rfl, rfl, rfl, rfl, rfl, rfl, rfl, rfl, rfl, rfl, rfl, rfl, rfl, rfl, rfl, rfl, rfl, rfl, rfl, rfl, rfl, rfl, rfl, rfl, rfl, rfl, rfl, rfl, rfl, rfl, rfl, rfl, rfl, rfl, rfl, rfl, rfl, rfl, rfl, rfl, rfl, rfl, rfl, rfl, rfl, rfl, rfl, rfl, rfl, rfl, rfl, rfl, rfl, rfl, rfl, rfl, rfl, rfl, rfl, rfl, rfl, rfl, rfl, rfl, rfl, rfl, rfl, rfl, rfl, rfl, rfl, rfl, rfl, rfl, rfl, rfl, rfl, rfl, rfl, rfl, rfl, rfl, rfl, rfl, rfl, rfl, rfl, rfl, rfl, rfl, rfl, rfl, rfl, rfl, trivial⟩
theorem xlw_in {w k o idx a b : Nat} (h : (xlw[w]?).map (fun q => q.2) = some (k, o, idx, a, b)) : xwd k o idx a b ∈ xW := by
  cases hq : xlw[w]? with
  | none => rw [hq] at h; cases h
  | some q =>
    rw [hq] at h
    have e : q.2 = (k, o, idx, a, b) := Option.some.inj h
    have := xlall_mem xlw_ok q (List.mem_of_getElem? hq)
    unfold xlok at this
    rw [e] at this
    exact xW_at _ this (xwd_good _ _ _ _ _)
def xMok (y wc wi wm ws : Nat) : Prop := lw_tbl[wc]? = some (.code (xmn y) (xmb y) (xml y) (xmr y)) ∧ lw_tbl[wi]? = some (.initialized (xmn y).cls) ∧ ((xmn y).cls ≠ "java/lang/invoke/MethodHandle" ∧ (xmn y).cls ≠ "java/lang/invoke/VarHandle") ∧ Jvm.plainName (xmn y).cls = true ∧ xon (xmo y) = (xmn y).cls ∧
  (parseMethodDescriptor (xmn y).desc).map (fun q => q.parameters.length + (if xmk y = 0 then 0 else 1)) = some (xma y) ∧
  (if xmk y = 0 then lw_tbl[wm]? = some (.static (xmn y)) else if xmk y = 1 then lw_tbl[wm]? = some (.instanceMethod (xmn y)) ∧ lw_tbl[ws]? = some (.selects (xmn y).cls (xmn y) (xmn y)) ∧ (xcl[xmc y]?).map (fun r => r.1) = some (xmn y).cls
   else lw_tbl[wm]? = some (.instanceMethod (xmn y)) ∧ (xmn y).name = "<init>" ∧ xmr y = none)
def xnums (y : Nat) : Bool := decide (xml y ≤ 21) && decide (xma y ≤ xml y)
theorem xnums_ok : ((List.range 143).all xnums) = true := by decide +kernel
set_option maxRecDepth 50000 in
theorem xg_0 : xMok 0 91 58 90 0 := ⟨rfl, rfl, ⟨by decide, by decide⟩, by decide, rfl, by decide +kernel, rfl⟩
set_option maxRecDepth 50000 in
theorem xg_1 : xMok 1 240 58 239 0 := ⟨rfl, rfl, ⟨by decide, by decide⟩, by decide, rfl, by decide +kernel, rfl⟩
set_option maxRecDepth 50000 in
theorem xg_2 : xMok 2 256 63 255 0 := ⟨rfl, rfl, ⟨by decide, by decide⟩, by decide, rfl, by decide +kernel, ⟨rfl, rfl, rfl⟩⟩
set_option maxRecDepth 50000 in
theorem xg_3 : xMok 3 333 63 332 0 := ⟨rfl, rfl, ⟨by decide, by decide⟩, by decide, rfl, by decide +kernel, rfl⟩
set_option maxRecDepth 50000 in
theorem xg_4 : xMok 4 337 63 335 336 := ⟨rfl, rfl, ⟨by decide, by decide⟩, by decide, rfl, by decide +kernel, ⟨rfl, rfl, rfl⟩⟩
set_option maxRecDepth 50000 in
theorem xg_5 : xMok 5 351 63 350 0 := ⟨rfl, rfl, ⟨by decide, by decide⟩, by decide, rfl, by decide +kernel, rfl⟩
set_option maxRecDepth 50000 in
theorem xg_6 : xMok 6 356 63 355 4 := ⟨rfl, rfl, ⟨by decide, by decide⟩, by decide, rfl, by decide +kernel, ⟨rfl, rfl, rfl⟩⟩
set_option maxRecDepth 50000 in
theorem xg_7 : xMok 7 173 61 172 0 := ⟨rfl, rfl, ⟨by decide, by decide⟩, by decide, rfl, by decide +kernel, ⟨rfl, rfl, rfl⟩⟩
set_option maxRecDepth 50000 in
theorem xg_8 : xMok 8 227 61 225 226 := ⟨rfl, rfl, ⟨by decide, by decide⟩, by decide, rfl, by decide +kernel, ⟨rfl, rfl, rfl⟩⟩
set_option maxRecDepth 50000 in
theorem xg_9 : xMok 9 232 61 230 231 := ⟨rfl, rfl, ⟨by decide, by decide⟩, by decide, rfl, by decide +kernel, ⟨rfl, rfl, rfl⟩⟩
set_option maxRecDepth 50000 in
theorem xg_10 : xMok 10 273 61 271 272 := ⟨rfl, rfl, ⟨by decide, by decide⟩, by decide, rfl, by decide +kernel, ⟨rfl, rfl, rfl⟩⟩
set_option maxRecDepth 50000 in
theorem xg_11 : xMok 11 285 61 283 284 := ⟨rfl, rfl, ⟨by decide, by decide⟩, by decide, rfl, by decide +kernel, ⟨rfl, rfl, rfl⟩⟩
set_option maxRecDepth 50000 in
theorem xg_12 : xMok 12 293 61 291 292 := ⟨rfl, rfl, ⟨by decide, by decide⟩, by decide, rfl, by decide +kernel, ⟨rfl, rfl, rfl⟩⟩
set_option maxRecDepth 50000 in
theorem xg_13 : xMok 13 317 61 315 316 := ⟨rfl, rfl, ⟨by decide, by decide⟩, by decide, rfl, by decide +kernel, ⟨rfl, rfl, rfl⟩⟩
set_option maxRecDepth 50000 in
theorem xg_14 : xMok 14 377 61 375 376 := ⟨rfl, rfl, ⟨by decide, by decide⟩, by decide, rfl, by decide +kernel, ⟨rfl, rfl, rfl⟩⟩
set_option maxRecDepth 50000 in
theorem xg_15 : xMok 15 432 61 430 431 := ⟨rfl, rfl, ⟨by decide, by decide⟩, by decide, rfl, by decide +kernel, ⟨rfl, rfl, rfl⟩⟩
set_option maxRecDepth 50000 in
theorem xg_16 : xMok 16 87 57 86 0 := ⟨rfl, rfl, ⟨by decide, by decide⟩, by decide, rfl, by decide +kernel, ⟨rfl, rfl, rfl⟩⟩
set_option maxRecDepth 50000 in
theorem xg_17 : xMok 17 313 57 311 312 := ⟨rfl, rfl, ⟨by decide, by decide⟩, by decide, rfl, by decide +kernel, ⟨rfl, rfl, rfl⟩⟩
set_option maxRecDepth 50000 in
theorem xg_18 : xMok 18 322 57 321 0 := ⟨rfl, rfl, ⟨by decide, by decide⟩, by decide, rfl, by decide +kernel, ⟨rfl, rfl, rfl⟩⟩
set_option maxRecDepth 50000 in
theorem xg_19 : xMok 19 330 57 329 1 := ⟨rfl, rfl, ⟨by decide, by decide⟩, by decide, rfl, by decide +kernel, ⟨rfl, rfl, rfl⟩⟩
set_option maxRecDepth 50000 in
theorem xg_20 : xMok 20 341 57 340 2 := ⟨rfl, rfl, ⟨by decide, by decide⟩, by decide, rfl, by decide +kernel, ⟨rfl, rfl, rfl⟩⟩
set_option maxRecDepth 50000 in
theorem xg_21 : xMok 21 345 57 344 3 := ⟨rfl, rfl, ⟨by decide, by decide⟩, by decide, rfl, by decide +kernel, ⟨rfl, rfl, rfl⟩⟩
set_option maxRecDepth 50000 in
theorem xg_22 : xMok 22 348 57 347 0 := ⟨rfl, rfl, ⟨by decide, by decide⟩, by decide, rfl, by decide +kernel, rfl⟩
set_option maxRecDepth 50000 in
theorem xg_23 : xMok 23 361 57 360 5 := ⟨rfl, rfl, ⟨by decide, by decide⟩, by decide, rfl, by decide +kernel, ⟨rfl, rfl, rfl⟩⟩
set_option maxRecDepth 50000 in
theorem xg_24 : xMok 24 364 57 363 0 := ⟨rfl, rfl, ⟨by decide, by decide⟩, by decide, rfl, by decide +kernel, rfl⟩
set_option maxRecDepth 50000 in
theorem xg_25 : xMok 25 369 57 368 6 := ⟨rfl, rfl, ⟨by decide, by decide⟩, by decide, rfl, by decide +kernel, ⟨rfl, rfl, rfl⟩⟩
set_option maxRecDepth 50000 in
theorem xg_26 : xMok 26 373 57 371 372 := ⟨rfl, rfl, ⟨by decide, by decide⟩, by decide, rfl, by decide +kernel, ⟨rfl, rfl, rfl⟩⟩
set_option maxRecDepth 50000 in
theorem xg_27 : xMok 27 382 57 381 7 := ⟨rfl, rfl, ⟨by decide, by decide⟩, by decide, rfl, by decide +kernel, ⟨rfl, rfl, rfl⟩⟩
set_option maxRecDepth 50000 in
theorem xg_28 : xMok 28 386 57 385 8 := ⟨rfl, rfl, ⟨by decide, by decide⟩, by decide, rfl, by decide +kernel, ⟨rfl, rfl, rfl⟩⟩
set_option maxRecDepth 50000 in
theorem xg_29 : xMok 29 393 57 391 392 := ⟨rfl, rfl, ⟨by decide, by decide⟩, by decide, rfl, by decide +kernel, ⟨rfl, rfl, rfl⟩⟩
set_option maxRecDepth 50000 in
theorem xg_30 : xMok 30 397 57 396 9 := ⟨rfl, rfl, ⟨by decide, by decide⟩, by decide, rfl, by decide +kernel, ⟨rfl, rfl, rfl⟩⟩
set_option maxRecDepth 50000 in
theorem xg_31 : xMok 31 401 57 399 400 := ⟨rfl, rfl, ⟨by decide, by decide⟩, by decide, rfl, by decide +kernel, ⟨rfl, rfl, rfl⟩⟩
set_option maxRecDepth 50000 in
theorem xg_32 : xMok 32 405 57 404 10 := ⟨rfl, rfl, ⟨by decide, by decide⟩, by decide, rfl, by decide +kernel, ⟨rfl, rfl, rfl⟩⟩
set_option maxRecDepth 50000 in
theorem xg_33 : xMok 33 410 57 408 409 := ⟨rfl, rfl, ⟨by decide, by decide⟩, by decide, rfl, by decide +kernel, ⟨rfl, rfl, rfl⟩⟩
set_option maxRecDepth 50000 in
theorem xg_34 : xMok 34 419 57 417 418 := ⟨rfl, rfl, ⟨by decide, by decide⟩, by decide, rfl, by decide +kernel, ⟨rfl, rfl, rfl⟩⟩
set_option maxRecDepth 50000 in
theorem xg_35 : xMok 35 424 57 422 423 := ⟨rfl, rfl, ⟨by decide, by decide⟩, by decide, rfl, by decide +kernel, ⟨rfl, rfl, rfl⟩⟩
set_option maxRecDepth 50000 in
theorem xg_36 : xMok 36 125 60 124 0 := ⟨rfl, rfl, ⟨by decide, by decide⟩, by decide, rfl, by decide +kernel, ⟨rfl, rfl, rfl⟩⟩
set_option maxRecDepth 50000 in
theorem xg_37 : xMok 37 469 60 467 468 := ⟨rfl, rfl, ⟨by decide, by decide⟩, by decide, rfl, by decide +kernel, ⟨rfl, rfl, rfl⟩⟩
set_option maxRecDepth 50000 in
theorem xg_38 : xMok 38 473 60 471 472 := ⟨rfl, rfl, ⟨by decide, by decide⟩, by decide, rfl, by decide +kernel, ⟨rfl, rfl, rfl⟩⟩
set_option maxRecDepth 50000 in
theorem xg_39 : xMok 39 481 60 479 480 := ⟨rfl, rfl, ⟨by decide, by decide⟩, by decide, rfl, by decide +kernel, ⟨rfl, rfl, rfl⟩⟩
set_option maxRecDepth 50000 in
theorem xg_40 : xMok 40 489 60 487 488 := ⟨rfl, rfl, ⟨by decide, by decide⟩, by decide, rfl, by decide +kernel, ⟨rfl, rfl, rfl⟩⟩
set_option maxRecDepth 50000 in
theorem xg_41 : xMok 41 494 60 492 493 := ⟨rfl, rfl, ⟨by decide, by decide⟩, by decide, rfl, by decide +kernel, ⟨rfl, rfl, rfl⟩⟩
set_option maxRecDepth 50000 in
theorem xg_42 : xMok 42 502 60 500 501 := ⟨rfl, rfl, ⟨by decide, by decide⟩, by decide, rfl, by decide +kernel, ⟨rfl, rfl, rfl⟩⟩
set_option maxRecDepth 50000 in
theorem xg_43 : xMok 43 117 59 116 0 := ⟨rfl, rfl, ⟨by decide, by decide⟩, by decide, rfl, by decide +kernel, ⟨rfl, rfl, rfl⟩⟩
set_option maxRecDepth 50000 in
theorem xg_44 : xMok 44 455 59 453 454 := ⟨rfl, rfl, ⟨by decide, by decide⟩, by decide, rfl, by decide +kernel, ⟨rfl, rfl, rfl⟩⟩
set_option maxRecDepth 50000 in
theorem xg_45 : xMok 45 459 59 458 15 := ⟨rfl, rfl, ⟨by decide, by decide⟩, by decide, rfl, by decide +kernel, ⟨rfl, rfl, rfl⟩⟩
set_option maxRecDepth 50000 in
theorem xg_46 : xMok 46 464 59 463 16 := ⟨rfl, rfl, ⟨by decide, by decide⟩, by decide, rfl, by decide +kernel, ⟨rfl, rfl, rfl⟩⟩
set_option maxRecDepth 50000 in
theorem xg_47 : xMok 47 477 59 476 17 := ⟨rfl, rfl, ⟨by decide, by decide⟩, by decide, rfl, by decide +kernel, ⟨rfl, rfl, rfl⟩⟩
set_option maxRecDepth 50000 in
theorem xg_48 : xMok 48 485 59 484 18 := ⟨rfl, rfl, ⟨by decide, by decide⟩, by decide, rfl, by decide +kernel, ⟨rfl, rfl, rfl⟩⟩
set_option maxRecDepth 50000 in
theorem xg_49 : xMok 49 498 59 497 19 := ⟨rfl, rfl, ⟨by decide, by decide⟩, by decide, rfl, by decide +kernel, ⟨rfl, rfl, rfl⟩⟩
set_option maxRecDepth 50000 in
theorem xg_50 : xMok 50 506 59 504 505 := ⟨rfl, rfl, ⟨by decide, by decide⟩, by decide, rfl, by decide +kernel, ⟨rfl, rfl, rfl⟩⟩
set_option maxRecDepth 50000 in
theorem xg_51 : xMok 51 511 59 509 510 := ⟨rfl, rfl, ⟨by decide, by decide⟩, by decide, rfl, by decide +kernel, ⟨rfl, rfl, rfl⟩⟩
set_option maxRecDepth 50000 in
theorem xg_52 : xMok 52 80 56 79 0 := ⟨rfl, rfl, ⟨by decide, by decide⟩, by decide, rfl, by decide +kernel, ⟨rfl, rfl, rfl⟩⟩
set_option maxRecDepth 50000 in
theorem xg_53 : xMok 53 308 56 306 307 := ⟨rfl, rfl, ⟨by decide, by decide⟩, by decide, rfl, by decide +kernel, ⟨rfl, rfl, rfl⟩⟩
set_option maxRecDepth 50000 in
theorem xg_54 : xMok 54 415 56 413 414 := ⟨rfl, rfl, ⟨by decide, by decide⟩, by decide, rfl, by decide +kernel, ⟨rfl, rfl, rfl⟩⟩
set_option maxRecDepth 50000 in
theorem xg_55 : xMok 55 428 56 427 11 := ⟨rfl, rfl, ⟨by decide, by decide⟩, by decide, rfl, by decide +kernel, ⟨rfl, rfl, rfl⟩⟩
set_option maxRecDepth 50000 in
theorem xg_56 : xMok 56 437 56 436 12 := ⟨rfl, rfl, ⟨by decide, by decide⟩, by decide, rfl, by decide +kernel, ⟨rfl, rfl, rfl⟩⟩
set_option maxRecDepth 50000 in
theorem xg_57 : xMok 57 442 56 441 13 := ⟨rfl, rfl, ⟨by decide, by decide⟩, by decide, rfl, by decide +kernel, ⟨rfl, rfl, rfl⟩⟩
set_option maxRecDepth 50000 in
theorem xg_58 : xMok 58 449 56 448 14 := ⟨rfl, rfl, ⟨by decide, by decide⟩, by decide, rfl, by decide +kernel, ⟨rfl, rfl, rfl⟩⟩
set_option maxRecDepth 50000 in
theorem xg_59 : xMok 59 517 56 515 516 := ⟨rfl, rfl, ⟨by decide, by decide⟩, by decide, rfl, by decide +kernel, ⟨rfl, rfl, rfl⟩⟩
set_option maxRecDepth 50000 in
theorem xg_60 : xMok 60 521 56 519 520 := ⟨rfl, rfl, ⟨by decide, by decide⟩, by decide, rfl, by decide +kernel, ⟨rfl, rfl, rfl⟩⟩
set_option maxRecDepth 50000 in
theorem xg_61 : xMok 61 525 56 523 524 := ⟨rfl, rfl, ⟨by decide, by decide⟩, by decide, rfl, by decide +kernel, ⟨rfl, rfl, rfl⟩⟩
set_option maxRecDepth 50000 in
theorem xg_62 : xMok 62 562 56 560 561 := ⟨rfl, rfl, ⟨by decide, by decide⟩, by decide, rfl, by decide +kernel, ⟨rfl, rfl, rfl⟩⟩
set_option maxRecDepth 50000 in
theorem xg_63 : xMok 63 574 56 572 573 := ⟨rfl, rfl, ⟨by decide, by decide⟩, by decide, rfl, by decide +kernel, ⟨rfl, rfl, rfl⟩⟩
set_option maxRecDepth 50000 in
theorem xg_64 : xMok 64 70 55 69 0 := ⟨rfl, rfl, ⟨by decide, by decide⟩, by decide, rfl, by decide +kernel, ⟨rfl, rfl, rfl⟩⟩
set_option maxRecDepth 50000 in
theorem xg_65 : xMok 65 217 55 215 216 := ⟨rfl, rfl, ⟨by decide, by decide⟩, by decide, rfl, by decide +kernel, ⟨rfl, rfl, rfl⟩⟩
set_option maxRecDepth 50000 in
theorem xg_66 : xMok 66 220 55 219 0 := ⟨rfl, rfl, ⟨by decide, by decide⟩, by decide, rfl, by decide +kernel, rfl⟩
set_option maxRecDepth 50000 in
theorem xg_67 : xMok 67 223 55 222 0 := ⟨rfl, rfl, ⟨by decide, by decide⟩, by decide, rfl, by decide +kernel, rfl⟩
set_option maxRecDepth 50000 in
theorem xg_68 : xMok 68 237 55 236 0 := ⟨rfl, rfl, ⟨by decide, by decide⟩, by decide, rfl, by decide +kernel, rfl⟩
set_option maxRecDepth 50000 in
theorem xg_69 : xMok 69 277 55 275 276 := ⟨rfl, rfl, ⟨by decide, by decide⟩, by decide, rfl, by decide +kernel, ⟨rfl, rfl, rfl⟩⟩
set_option maxRecDepth 50000 in
theorem xg_70 : xMok 70 281 55 279 280 := ⟨rfl, rfl, ⟨by decide, by decide⟩, by decide, rfl, by decide +kernel, ⟨rfl, rfl, rfl⟩⟩
set_option maxRecDepth 50000 in
theorem xg_71 : xMok 71 289 55 287 288 := ⟨rfl, rfl, ⟨by decide, by decide⟩, by decide, rfl, by decide +kernel, ⟨rfl, rfl, rfl⟩⟩
set_option maxRecDepth 50000 in
theorem xg_72 : xMok 72 300 55 298 299 := ⟨rfl, rfl, ⟨by decide, by decide⟩, by decide, rfl, by decide +kernel, ⟨rfl, rfl, rfl⟩⟩
set_option maxRecDepth 50000 in
theorem xg_73 : xMok 73 304 55 302 303 := ⟨rfl, rfl, ⟨by decide, by decide⟩, by decide, rfl, by decide +kernel, ⟨rfl, rfl, rfl⟩⟩
set_option maxRecDepth 50000 in
theorem xg_74 : xMok 74 326 55 325 0 := ⟨rfl, rfl, ⟨by decide, by decide⟩, by decide, rfl, by decide +kernel, rfl⟩
set_option maxRecDepth 50000 in
theorem xg_75 : xMok 75 389 55 388 0 := ⟨rfl, rfl, ⟨by decide, by decide⟩, by decide, rfl, by decide +kernel, rfl⟩
set_option maxRecDepth 50000 in
theorem xg_76 : xMok 76 529 55 527 528 := ⟨rfl, rfl, ⟨by decide, by decide⟩, by decide, rfl, by decide +kernel, ⟨rfl, rfl, rfl⟩⟩
set_option maxRecDepth 50000 in
theorem xg_77 : xMok 77 532 55 531 0 := ⟨rfl, rfl, ⟨by decide, by decide⟩, by decide, rfl, by decide +kernel, rfl⟩
set_option maxRecDepth 50000 in
theorem xg_78 : xMok 78 536 55 534 535 := ⟨rfl, rfl, ⟨by decide, by decide⟩, by decide, rfl, by decide +kernel, ⟨rfl, rfl, rfl⟩⟩
set_option maxRecDepth 50000 in
theorem xg_79 : xMok 79 540 55 539 20 := ⟨rfl, rfl, ⟨by decide, by decide⟩, by decide, rfl, by decide +kernel, ⟨rfl, rfl, rfl⟩⟩
set_option maxRecDepth 50000 in
theorem xg_80 : xMok 80 544 55 542 543 := ⟨rfl, rfl, ⟨by decide, by decide⟩, by decide, rfl, by decide +kernel, ⟨rfl, rfl, rfl⟩⟩
set_option maxRecDepth 50000 in
theorem xg_81 : xMok 81 548 55 546 547 := ⟨rfl, rfl, ⟨by decide, by decide⟩, by decide, rfl, by decide +kernel, ⟨rfl, rfl, rfl⟩⟩
set_option maxRecDepth 50000 in
theorem xg_82 : xMok 82 553 55 551 552 := ⟨rfl, rfl, ⟨by decide, by decide⟩, by decide, rfl, by decide +kernel, ⟨rfl, rfl, rfl⟩⟩
set_option maxRecDepth 50000 in
theorem xg_83 : xMok 83 558 55 556 557 := ⟨rfl, rfl, ⟨by decide, by decide⟩, by decide, rfl, by decide +kernel, ⟨rfl, rfl, rfl⟩⟩
set_option maxRecDepth 50000 in
theorem xg_84 : xMok 84 566 55 564 565 := ⟨rfl, rfl, ⟨by decide, by decide⟩, by decide, rfl, by decide +kernel, ⟨rfl, rfl, rfl⟩⟩
set_option maxRecDepth 50000 in
theorem xg_85 : xMok 85 570 55 568 569 := ⟨rfl, rfl, ⟨by decide, by decide⟩, by decide, rfl, by decide +kernel, ⟨rfl, rfl, rfl⟩⟩
set_option maxRecDepth 50000 in
theorem xg_86 : xMok 86 579 55 577 578 := ⟨rfl, rfl, ⟨by decide, by decide⟩, by decide, rfl, by decide +kernel, ⟨rfl, rfl, rfl⟩⟩
set_option maxRecDepth 50000 in
theorem xg_87 : xMok 87 584 55 582 583 := ⟨rfl, rfl, ⟨by decide, by decide⟩, by decide, rfl, by decide +kernel, ⟨rfl, rfl, rfl⟩⟩
set_option maxRecDepth 50000 in
theorem xg_88 : xMok 88 589 55 587 588 := ⟨rfl, rfl, ⟨by decide, by decide⟩, by decide, rfl, by decide +kernel, ⟨rfl, rfl, rfl⟩⟩
set_option maxRecDepth 50000 in
theorem xg_89 : xMok 89 598 62 597 0 := ⟨rfl, rfl, ⟨by decide, by decide⟩, by decide, rfl, by decide +kernel, ⟨rfl, rfl, rfl⟩⟩
set_option maxRecDepth 50000 in
theorem xg_90 : xMok 90 665 62 663 664 := ⟨rfl, rfl, ⟨by decide, by decide⟩, by decide, rfl, by decide +kernel, ⟨rfl, rfl, rfl⟩⟩
set_option maxRecDepth 50000 in
theorem xg_91 : xMok 91 669 62 668 21 := ⟨rfl, rfl, ⟨by decide, by decide⟩, by decide, rfl, by decide +kernel, ⟨rfl, rfl, rfl⟩⟩
set_option maxRecDepth 50000 in
theorem xg_92 : xMok 92 673 62 671 672 := ⟨rfl, rfl, ⟨by decide, by decide⟩, by decide, rfl, by decide +kernel, ⟨rfl, rfl, rfl⟩⟩
set_option maxRecDepth 50000 in
theorem xg_93 : xMok 93 677 62 676 0 := ⟨rfl, rfl, ⟨by decide, by decide⟩, by decide, rfl, by decide +kernel, rfl⟩
set_option maxRecDepth 50000 in
theorem xg_94 : xMok 94 681 62 679 680 := ⟨rfl, rfl, ⟨by decide, by decide⟩, by decide, rfl, by decide +kernel, ⟨rfl, rfl, rfl⟩⟩
set_option maxRecDepth 50000 in
theorem xg_95 : xMok 95 685 62 684 22 := ⟨rfl, rfl, ⟨by decide, by decide⟩, by decide, rfl, by decide +kernel, ⟨rfl, rfl, rfl⟩⟩
set_option maxRecDepth 50000 in
theorem xg_96 : xMok 96 689 62 687 688 := ⟨rfl, rfl, ⟨by decide, by decide⟩, by decide, rfl, by decide +kernel, ⟨rfl, rfl, rfl⟩⟩
set_option maxRecDepth 50000 in
theorem xg_97 : xMok 97 693 62 692 23 := ⟨rfl, rfl, ⟨by decide, by decide⟩, by decide, rfl, by decide +kernel, ⟨rfl, rfl, rfl⟩⟩
set_option maxRecDepth 50000 in
theorem xg_98 : xMok 98 697 62 695 696 := ⟨rfl, rfl, ⟨by decide, by decide⟩, by decide, rfl, by decide +kernel, ⟨rfl, rfl, rfl⟩⟩
set_option maxRecDepth 50000 in
theorem xg_99 : xMok 99 701 62 699 700 := ⟨rfl, rfl, ⟨by decide, by decide⟩, by decide, rfl, by decide +kernel, ⟨rfl, rfl, rfl⟩⟩
set_option maxRecDepth 50000 in
theorem xg_100 : xMok 100 705 62 703 704 := ⟨rfl, rfl, ⟨by decide, by decide⟩, by decide, rfl, by decide +kernel, ⟨rfl, rfl, rfl⟩⟩
set_option maxRecDepth 50000 in
theorem xg_101 : xMok 101 709 62 708 24 := ⟨rfl, rfl, ⟨by decide, by decide⟩, by decide, rfl, by decide +kernel, ⟨rfl, rfl, rfl⟩⟩
set_option maxRecDepth 50000 in
theorem xg_102 : xMok 102 713 62 712 25 := ⟨rfl, rfl, ⟨by decide, by decide⟩, by decide, rfl, by decide +kernel, ⟨rfl, rfl, rfl⟩⟩
set_option maxRecDepth 50000 in
theorem xg_103 : xMok 103 717 62 715 716 := ⟨rfl, rfl, ⟨by decide, by decide⟩, by decide, rfl, by decide +kernel, ⟨rfl, rfl, rfl⟩⟩
set_option maxRecDepth 50000 in
theorem xg_104 : xMok 104 721 62 720 26 := ⟨rfl, rfl, ⟨by decide, by decide⟩, by decide, rfl, by decide +kernel, ⟨rfl, rfl, rfl⟩⟩
set_option maxRecDepth 50000 in
theorem xg_105 : xMok 105 725 62 724 27 := ⟨rfl, rfl, ⟨by decide, by decide⟩, by decide, rfl, by decide +kernel, ⟨rfl, rfl, rfl⟩⟩
set_option maxRecDepth 50000 in
theorem xg_106 : xMok 106 729 62 728 28 := ⟨rfl, rfl, ⟨by decide, by decide⟩, by decide, rfl, by decide +kernel, ⟨rfl, rfl, rfl⟩⟩
set_option maxRecDepth 50000 in
theorem xg_107 : xMok 107 733 62 732 29 := ⟨rfl, rfl, ⟨by decide, by decide⟩, by decide, rfl, by decide +kernel, ⟨rfl, rfl, rfl⟩⟩
set_option maxRecDepth 50000 in
theorem xg_108 : xMok 108 737 62 736 30 := ⟨rfl, rfl, ⟨by decide, by decide⟩, by decide, rfl, by decide +kernel, ⟨rfl, rfl, rfl⟩⟩
set_option maxRecDepth 50000 in
theorem xg_109 : xMok 109 741 62 740 31 := ⟨rfl, rfl, ⟨by decide, by decide⟩, by decide, rfl, by decide +kernel, ⟨rfl, rfl, rfl⟩⟩
set_option maxRecDepth 50000 in
theorem xg_110 : xMok 110 745 62 744 32 := ⟨rfl, rfl, ⟨by decide, by decide⟩, by decide, rfl, by decide +kernel, ⟨rfl, rfl, rfl⟩⟩
set_option maxRecDepth 50000 in
theorem xg_111 : xMok 111 750 62 749 33 := ⟨rfl, rfl, ⟨by decide, by decide⟩, by decide, rfl, by decide +kernel, ⟨rfl, rfl, rfl⟩⟩
set_option maxRecDepth 50000 in
theorem xg_112 : xMok 112 754 62 753 34 := ⟨rfl, rfl, ⟨by decide, by decide⟩, by decide, rfl, by decide +kernel, ⟨rfl, rfl, rfl⟩⟩
set_option maxRecDepth 50000 in
theorem xg_113 : xMok 113 758 62 757 35 := ⟨rfl, rfl, ⟨by decide, by decide⟩, by decide, rfl, by decide +kernel, ⟨rfl, rfl, rfl⟩⟩
set_option maxRecDepth 50000 in
theorem xg_114 : xMok 114 762 62 761 36 := ⟨rfl, rfl, ⟨by decide, by decide⟩, by decide, rfl, by decide +kernel, ⟨rfl, rfl, rfl⟩⟩
set_option maxRecDepth 50000 in
theorem xg_115 : xMok 115 766 62 765 37 := ⟨rfl, rfl, ⟨by decide, by decide⟩, by decide, rfl, by decide +kernel, ⟨rfl, rfl, rfl⟩⟩
set_option maxRecDepth 50000 in
theorem xg_116 : xMok 116 770 62 769 38 := ⟨rfl, rfl, ⟨by decide, by decide⟩, by decide, rfl, by decide +kernel, ⟨rfl, rfl, rfl⟩⟩
set_option maxRecDepth 50000 in
theorem xg_117 : xMok 117 774 62 773 39 := ⟨rfl, rfl, ⟨by decide, by decide⟩, by decide, rfl, by decide +kernel, ⟨rfl, rfl, rfl⟩⟩
set_option maxRecDepth 50000 in
theorem xg_118 : xMok 118 778 62 777 40 := ⟨rfl, rfl, ⟨by decide, by decide⟩, by decide, rfl, by decide +kernel, ⟨rfl, rfl, rfl⟩⟩
set_option maxRecDepth 50000 in
theorem xg_119 : xMok 119 782 62 781 41 := ⟨rfl, rfl, ⟨by decide, by decide⟩, by decide, rfl, by decide +kernel, ⟨rfl, rfl, rfl⟩⟩
set_option maxRecDepth 50000 in
theorem xg_120 : xMok 120 786 62 785 42 := ⟨rfl, rfl, ⟨by decide, by decide⟩, by decide, rfl, by decide +kernel, ⟨rfl, rfl, rfl⟩⟩
set_option maxRecDepth 50000 in
theorem xg_121 : xMok 121 790 62 789 43 := ⟨rfl, rfl, ⟨by decide, by decide⟩, by decide, rfl, by decide +kernel, ⟨rfl, rfl, rfl⟩⟩
set_option maxRecDepth 50000 in
theorem xg_122 : xMok 122 794 62 793 44 := ⟨rfl, rfl, ⟨by decide, by decide⟩, by decide, rfl, by decide +kernel, ⟨rfl, rfl, rfl⟩⟩
set_option maxRecDepth 50000 in
theorem xg_123 : xMok 123 798 62 797 45 := ⟨rfl, rfl, ⟨by decide, by decide⟩, by decide, rfl, by decide +kernel, ⟨rfl, rfl, rfl⟩⟩
set_option maxRecDepth 50000 in
theorem xg_124 : xMok 124 802 62 801 46 := ⟨rfl, rfl, ⟨by decide, by decide⟩, by decide, rfl, by decide +kernel, ⟨rfl, rfl, rfl⟩⟩
set_option maxRecDepth 50000 in
theorem xg_125 : xMok 125 806 62 805 47 := ⟨rfl, rfl, ⟨by decide, by decide⟩, by decide, rfl, by decide +kernel, ⟨rfl, rfl, rfl⟩⟩
set_option maxRecDepth 50000 in
theorem xg_126 : xMok 126 809 62 808 0 := ⟨rfl, rfl, ⟨by decide, by decide⟩, by decide, rfl, by decide +kernel, rfl⟩
set_option maxRecDepth 50000 in
theorem xg_127 : xMok 127 813 62 812 48 := ⟨rfl, rfl, ⟨by decide, by decide⟩, by decide, rfl, by decide +kernel, ⟨rfl, rfl, rfl⟩⟩
set_option maxRecDepth 50000 in
theorem xg_128 : xMok 128 817 62 816 49 := ⟨rfl, rfl, ⟨by decide, by decide⟩, by decide, rfl, by decide +kernel, ⟨rfl, rfl, rfl⟩⟩
set_option maxRecDepth 50000 in
theorem xg_129 : xMok 129 821 62 820 50 := ⟨rfl, rfl, ⟨by decide, by decide⟩, by decide, rfl, by decide +kernel, ⟨rfl, rfl, rfl⟩⟩
set_option maxRecDepth 50000 in
theorem xg_130 : xMok 130 825 62 824 51 := ⟨rfl, rfl, ⟨by decide, by decide⟩, by decide, rfl, by decide +kernel, ⟨rfl, rfl, rfl⟩⟩
set_option maxRecDepth 50000 in
theorem xg_131 : xMok 131 829 62 828 52 := ⟨rfl, rfl, ⟨by decide, by decide⟩, by decide, rfl, by decide +kernel, ⟨rfl, rfl, rfl⟩⟩
set_option maxRecDepth 50000 in
theorem xg_132 : xMok 132 833 62 832 53 := ⟨rfl, rfl, ⟨by decide, by decide⟩, by decide, rfl, by decide +kernel, ⟨rfl, rfl, rfl⟩⟩
set_option maxRecDepth 50000 in
theorem xg_133 : xMok 133 837 62 835 836 := ⟨rfl, rfl, ⟨by decide, by decide⟩, by decide, rfl, by decide +kernel, ⟨rfl, rfl, rfl⟩⟩
set_option maxRecDepth 50000 in
theorem xg_134 : xMok 134 841 62 839 840 := ⟨rfl, rfl, ⟨by decide, by decide⟩, by decide, rfl, by decide +kernel, ⟨rfl, rfl, rfl⟩⟩
set_option maxRecDepth 50000 in
theorem xg_135 : xMok 135 845 62 843 844 := ⟨rfl, rfl, ⟨by decide, by decide⟩, by decide, rfl, by decide +kernel, ⟨rfl, rfl, rfl⟩⟩
set_option maxRecDepth 50000 in
theorem xg_136 : xMok 136 850 62 848 849 := ⟨rfl, rfl, ⟨by decide, by decide⟩, by decide, rfl, by decide +kernel, ⟨rfl, rfl, rfl⟩⟩
set_option maxRecDepth 50000 in
theorem xg_137 : xMok 137 854 62 852 853 := ⟨rfl, rfl, ⟨by decide, by decide⟩, by decide, rfl, by decide +kernel, ⟨rfl, rfl, rfl⟩⟩
set_option maxRecDepth 50000 in
theorem xg_138 : xMok 138 859 62 857 858 := ⟨rfl, rfl, ⟨by decide, by decide⟩, by decide, rfl, by decide +kernel, ⟨rfl, rfl, rfl⟩⟩
set_option maxRecDepth 50000 in
theorem xg_139 : xMok 139 864 62 862 863 := ⟨rfl, rfl, ⟨by decide, by decide⟩, by decide, rfl, by decide +kernel, ⟨rfl, rfl, rfl⟩⟩
set_option maxRecDepth 50000 in
theorem xg_140 : xMok 140 868 62 866 867 := ⟨rfl, rfl, ⟨by decide, by decide⟩, by decide, rfl, by decide +kernel, ⟨rfl, rfl, rfl⟩⟩
set_option maxRecDepth 50000 in
theorem xg_141 : xMok 141 872 62 870 871 := ⟨rfl, rfl, ⟨by decide, by decide⟩, by decide, rfl, by decide +kernel, ⟨rfl, rfl, rfl⟩⟩
set_option maxRecDepth 50000 in
theorem xg_142 : xMok 142 593 54 592 0 := ⟨rfl, rfl, ⟨by decide, by decide⟩, by decide, rfl, by decide +kernel, rfl⟩
def xMo (y : Nat) : Prop := ∃ wc wi wm ws, xMok y wc wi wm ws
def xMall : Nat → Prop
  | 0 => True
  | n + 1 => xMo n ∧ xMall n
theorem xMall_lt : ∀ {n : Nat}, xMall n → ∀ y, y < n → xMo y
  | 0, _, y, h => by omega
  | n + 1, ⟨h1, h2⟩, y, h => by
    rcases Nat.lt_or_ge y n with h3 | h3
    · exact xMall_lt h2 y h3
    · have e : y = n := by omega
      subst e
      exact h1
theorem xM_all : xMall 143 := ⟨⟨_, _, _, _, xg_142⟩, ⟨_, _, _, _, xg_141⟩, ⟨_, _, _, _, xg_140⟩, ⟨_, _, _, _, xg_139⟩, ⟨_, _, _, _, xg_138⟩, ⟨_, _, _, _, xg_137⟩, ⟨_, _, _, _, xg_136⟩, ⟨_, _, _, _, xg_135⟩, ⟨_, _, _, _, xg_134⟩, ⟨_, _, _, _, xg_133⟩, ⟨_, _, _, _, xg_132⟩, ⟨_, _, _, _, xg_131⟩, ⟨_, _, _, _, xg_130⟩, ⟨_, _, _, _, xg_129⟩, ⟨_, _, _, _, xg_128⟩, ⟨_, _, _, _, xg_127⟩, ⟨_, _, _, _, xg_126⟩, ⟨_, _, _, _, xg_125⟩, ⟨_, _, _, _, xg_124⟩, ⟨_, _, _, _, xg_123⟩, ⟨_, _, _, _, xg_122⟩, ⟨_, _, _, _, xg_121⟩, ⟨_, _, _, _, xg_120⟩, ⟨_, _, _, _, xg_119⟩, ⟨_, _, _, _, xg_118⟩, ⟨_, _, _, _, xg_117⟩, ⟨_, _, _, _, xg_116⟩, ⟨_, _, _, _, xg_115⟩, ⟨_, _, _, _, xg_114⟩, ⟨_, _, _, _, xg_113⟩, ⟨_, _, _, _, xg_112⟩, ⟨_, _, _, _, xg_111⟩, ⟨_, _, _, _, xg_110⟩, ⟨_, _, _, _, xg_109⟩, ⟨_, _, _, _, xg_108⟩, ⟨_, _, _, _, xg_107⟩, ⟨_, _, _, _, xg_106⟩, ⟨_, _, _, _, xg_105⟩, ⟨_, _, _, _, xg_104⟩, ⟨_, _, _, _, xg_103⟩, ⟨_, _, _, _, xg_102⟩, ⟨_, _, _, _, xg_101⟩, ⟨_, _, _, _, xg_100⟩, ⟨_, _, _, _, xg_99⟩, ⟨_, _, _, _, xg_98⟩, ⟨_, _, _, _, xg_97⟩, ⟨_, _, _, _, xg_96⟩, ⟨_, _, _, _, xg_95⟩, ⟨_, _, _, _, xg_94⟩, ⟨_, _, _, _, xg_93⟩, ⟨_, _, _, _, xg_92⟩, ⟨_, _, _, _, xg_91⟩, ⟨_, _, _, _, xg_90⟩, ⟨_, _, _, _, xg_89⟩, ⟨_, _, _, _, xg_88⟩, ⟨_, _, _, _, xg_87⟩, ⟨_, _, _, _, xg_86⟩, ⟨_, _, _, _, xg_85⟩, ⟨_, _, _, _, xg_84⟩, ⟨_, _, _, _, xg_83⟩, ⟨_, _, _, _, xg_82⟩, ⟨_, _, _, _, xg_81⟩, ⟨_, _, _, _, xg_80⟩, ⟨_, _, _, _, xg_79⟩, ⟨_, _, _, _, xg_78⟩, ⟨_, _, _, _, xg_77⟩, ⟨_, _, _, _, xg_76⟩, ⟨_, _, _, _, xg_75⟩, ⟨_, _, _, _, xg_74⟩, ⟨_, _, _, _, xg_73⟩, ⟨_, _, _, _, xg_72⟩, ⟨_, _, _, _, xg_71⟩, ⟨_, _, _, _, xg_70⟩, ⟨_, _, _, _, xg_69⟩, ⟨_, _, _, _, xg_68⟩, ⟨_, _, _, _, xg_67⟩, ⟨_, _, _, _, xg_66⟩, ⟨_, _, _, _, xg_65⟩, ⟨_, _, _, _, xg_64⟩, ⟨_, _, _, _, xg_63⟩, ⟨_, _, _, _, xg_62⟩, ⟨_, _, _, _, xg_61⟩, ⟨_, _, _, _, xg_60⟩, ⟨_, _, _, _, xg_59⟩, ⟨_, _, _, _, xg_58⟩, ⟨_, _, _, _, xg_57⟩, ⟨_, _, _, _, xg_56⟩, ⟨_, _, _, _, xg_55⟩, ⟨_, _, _, _, xg_54⟩, ⟨_, _, _, _, xg_53⟩, ⟨_, _, _, _, xg_52⟩, ⟨_, _, _, _, xg_51⟩, ⟨_, _, _, _, xg_50⟩, ⟨_, _, _, _, xg_49⟩, ⟨_, _, _, _, xg_48⟩, ⟨_, _, _, _, xg_47⟩, ⟨_, _, _, _, xg_46⟩, ⟨_, _, _, _, xg_45⟩, ⟨_, _, _, _, xg_44⟩, ⟨_, _, _, _, xg_43⟩, ⟨_, _, _, _, xg_42⟩, ⟨_, _, _, _, xg_41⟩, ⟨_, _, _, _, xg_40⟩, ⟨_, _, _, _, xg_39⟩, ⟨_, _, _, _, xg_38⟩, ⟨_, _, _, _, xg_37⟩, ⟨_, _, _, _, xg_36⟩, ⟨_, _, _, _, xg_35⟩, ⟨_, _, _, _, xg_34⟩, ⟨_, _, _, _, xg_33⟩, ⟨_, _, _, _, xg_32⟩, ⟨_, _, _, _, xg_31⟩, ⟨_, _, _, _, xg_30⟩, ⟨_, _, _, _, xg_29⟩, ⟨_, _, _, _, xg_28⟩, ⟨_, _, _, _, xg_27⟩, ⟨_, _, _, _, xg_26⟩, ⟨_, _, _, _, xg_25⟩, ⟨_, _, _, _, xg_24⟩, ⟨_, _, _, _, xg_23⟩, ⟨_, _, _, _, xg_22⟩, ⟨_, _, _, _, xg_21⟩, ⟨_, _, _, _, xg_20⟩, ⟨_, _, _, _, xg_19⟩, ⟨_, _, _, _, xg_18⟩, ⟨_, _, _, _, xg_17⟩, ⟨_, _, _, _, xg_16⟩, ⟨_, _, _, _, xg_15⟩, ⟨_, _, _, _, xg_14⟩, ⟨_, _, _, _, xg_13⟩, ⟨_, _, _, _, xg_12⟩, ⟨_, _, _, _, xg_11⟩, ⟨_, _, _, _, xg_10⟩, ⟨_, _, _, _, xg_9⟩, ⟨_, _, _, _, xg_8⟩, ⟨_, _, _, _, xg_7⟩, ⟨_, _, _, _, xg_6⟩, ⟨_, _, _, _, xg_5⟩, ⟨_, _, _, _, xg_4⟩, ⟨_, _, _, _, xg_3⟩, ⟨_, _, _, _, xg_2⟩, ⟨_, _, _, _, xg_1⟩, ⟨_, _, _, _, xg_0⟩, trivial⟩
