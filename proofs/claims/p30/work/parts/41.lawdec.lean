section G10
variable {p : Program} {l : Launch} {e : Env} {R : Room} {s : State} {m : MethodId} {args : Array Value} {below : List Frame} {meth : Method} {c : Code} {H : Heap} {locs : List Loc} {cells slots : Nat} {Q : State → Prop}
variable {D : va_G} {tI tJ tL : ClassId} {A : Nat → Prop} {sg ad : Nat → Nat} {n : Nat} {sL : NL} {sA : NA}
variable {cc : ByteArray} {pc : Nat} {ls : Array Slot} {rest st0 : List Value}
theorem W_keyI {P : Int32 → Prop} {g : JFrame} (G : Int32 → JFrame) (br : (∀ a, P a → W p l e R s m args below meth c H locs cells slots Q (G a)) → W p l e R s m args below meth c H locs cells slots Q g) (kk : ∀ a, P a → W p l e R s m args below meth c H locs cells slots Q (G a)) : W p l e R s m args below meth c H locs cells slots Q g := br kk
/-- a call of 'does' whose end is known -/
theorem rcSWn {y : MethodName} {bytes : ByteArray} {maxL nL index mc ms : Nat} {ret : Option FieldType} {hh : List (Nat × Nat × Nat × Nat)} {rm : Room} {own : String} {As : List Value} {F : Int32 × NL × NA} {v : Int32} {sL2 : NL} {sA2 : NA} (hx : p.tables.exec = Jvm.exec) (hb : c.code = cc) (hml : c.maxLocals = nL) (hown : s.vm.findClass own = some m.cls) (hts : ∀ w ∈ wNeed, w.before args s = true) (hC : GC D tI tJ tL A sg s) (hG : GW D tI tJ tL A ad n sL sA H) (hS : va_S A s.heap H locs)
    (hM : Met l y (Cond.codeWith y bytes maxL ret hh :: wNeed) rm (va_Pc As (GP D tI tJ tL A sg ad n sL sA)) (va_Qi (fun r (u : NL × NA) => F = (r, u.1, u.2)) (fun u t => GW D tI tJ tL A ad n u.1 u.2 t.heap) A) mc ms A) (hg : GoodIn wNeed (va_wsS own index y (Cond.codeWith y bytes maxL ret hh :: wNeed))) (hrc : rm.cells = mc) (hrs : rm.slots = ms)
    (hd : y.cls ≠ "java/lang/invoke/MethodHandle" ∧ y.cls ≠ "java/lang/invoke/VarHandle" ∧ (parseMethodDescriptor y.desc).map (fun d => d.parameters.length) = some As.length) (hR : rm.frames + 1 ≤ R.frames ∧ 8 + (maxL + 11) + rm.locals ≤ R.locals)
    (hsz : ls.size = nL) (hst : st0 = As.reverse ++ rest) (hr8 : (rest.map fun v => v.category).sum ≤ 8) (hdg : decode cc pc = .ok (.invokestatic index, 3)) (hf : cells + mc ≤ R.cells ∧ slots + ms ≤ R.slots) (hF : F = (v, sL2, sA2))
    (kk : ∀ (H1 : Heap) (locs1 : List Loc), GW D tI tJ tL A ad n sL2 sA2 H1 → va_S A s.heap H1 locs1 → W p l e R s m args below meth c H1 locs1 (cells + mc) (slots + ms) Q (F0 m (pc + 3) ls (.int v :: rest))) : W p l e R s m args below meth c H locs cells slots Q (F0 m pc ls st0) := by
  refine rcSW hx hb hml hown hts hC hG hS hM hg hrc hrs hd hR hsz hst hr8 hdg hf (fun H1 locs1 hG1 hS1 => ?_)
  rw [hF] at hG1 ⊢
  exact kk H1 locs1 hG1 hS1
end G10
/-- where the law goes on behind a deed -/
def CONT (p : Program) (l : Launch) (e : Env) (s : State) (m : MethodId) (b : Nat) (below : List Frame) (meth : Method) (c : Code) (D : va_G) (tI tJ tL : ClassId) (t Y K cells slots : Nat) : Prop :=
  ∀ (ad2 : Nat → Nat) (n2 : Nat) (sL2 : NL) (sA2 : NA) (H2 : Heap) (locs2 : List Loc) (ls2 : Array Slot), 0 < n2 → INV n2 (K + 1) sL2 sA2 → GW D tI tJ tL (A0 s) ad2 n2 sL2 sA2 H2 → va_S (A0 s) s.heap H2 locs2 → lv_has ls2 22 [(13, .int (nI Y)), (10, .int (nI t)), (9, .int 1), (8, .ref (ad2 10)), (7, .ref (ad2 9)), (6, .ref (ad2 8)), (5, .ref (ad2 7)), (4, .ref (ad2 6)), (3, .ref (ad2 5)), (2, .ref (ad2 4)), (1, .ref (ad2 0)), (0, .ref b)] →
    W p l e room_1 s m #[Value.ref b] below meth c H2 locs2 (cells + 60) (slots + 300) (lw_Z below #[Value.ref b] s) (F0 m 1500 ls2 [])
theorem dW_law_277 : decode code 277 = .ok (.iload 13, 2) := by decide +kernel
theorem dW_law_279 : decode code 279 = .ok (.iconst 4, 1) := by decide +kernel
theorem dW_law_280 : decode code 280 = .ok (.irem, 1) := by decide +kernel
theorem dW_law_281 : decode code 281 = .ok (.ifCond .ne 7, 3) := by decide +kernel
theorem dW_law_284 : decode code 284 = .ok (.iconst (-1), 1) := by decide +kernel
theorem dW_law_285 : decode code 285 = .ok (.goto 49, 3) := by decide +kernel
theorem dW_law_288 : decode code 288 = .ok (.iload 13, 2) := by decide +kernel
theorem dW_law_290 : decode code 290 = .ok (.iconst 4, 1) := by decide +kernel
theorem dW_law_291 : decode code 291 = .ok (.irem, 1) := by decide +kernel
theorem dW_law_292 : decode code 292 = .ok (.iconst 1, 1) := by decide +kernel
theorem dW_law_293 : decode code 293 = .ok (.if_icmp .ne 7, 3) := by decide +kernel
theorem dW_law_296 : decode code 296 = .ok (.iconst 0, 1) := by decide +kernel
theorem dW_law_297 : decode code 297 = .ok (.goto 37, 3) := by decide +kernel
theorem dW_law_300 : decode code 300 = .ok (.iload 13, 2) := by decide +kernel
theorem dW_law_302 : decode code 302 = .ok (.iconst 4, 1) := by decide +kernel
theorem dW_law_303 : decode code 303 = .ok (.irem, 1) := by decide +kernel
theorem dW_law_304 : decode code 304 = .ok (.iconst 2, 1) := by decide +kernel
theorem dW_law_305 : decode code 305 = .ok (.if_icmp .ne 17, 3) := by decide +kernel
theorem dW_law_308 : decode code 308 = .ok (.sipush 1920, 3) := by decide +kernel
theorem dW_law_311 : decode code 311 = .ok (.iload 13, 2) := by decide +kernel
theorem dW_law_313 : decode code 313 = .ok (.iconst 4, 1) := by decide +kernel
theorem dW_law_314 : decode code 314 = .ok (.idiv, 1) := by decide +kernel
theorem dW_law_315 : decode code 315 = .ok (.bipush 40, 2) := by decide +kernel
theorem dW_law_317 : decode code 317 = .ok (.irem, 1) := by decide +kernel
theorem dW_law_318 : decode code 318 = .ok (.iadd, 1) := by decide +kernel
theorem dW_law_319 : decode code 319 = .ok (.goto 15, 3) := by decide +kernel
theorem dW_law_322 : decode code 322 = .ok (.sipush 1800, 3) := by decide +kernel
theorem dW_law_325 : decode code 325 = .ok (.iload 13, 2) := by decide +kernel
theorem dW_law_327 : decode code 327 = .ok (.iconst 4, 1) := by decide +kernel
theorem dW_law_328 : decode code 328 = .ok (.idiv, 1) := by decide +kernel
theorem dW_law_329 : decode code 329 = .ok (.sipush 201, 3) := by decide +kernel
theorem dW_law_332 : decode code 332 = .ok (.irem, 1) := by decide +kernel
theorem dW_law_333 : decode code 333 = .ok (.iadd, 1) := by decide +kernel
theorem dW_law_334 : decode code 334 = .ok (.istore 19, 2) := by decide +kernel
theorem dW_law_336 : decode code 336 = .ok (.iload 13, 2) := by decide +kernel
theorem dW_law_338 : decode code 338 = .ok (.iconst 5, 1) := by decide +kernel
theorem dW_law_339 : decode code 339 = .ok (.irem, 1) := by decide +kernel
theorem dW_law_340 : decode code 340 = .ok (.ifCond .ne 7, 3) := by decide +kernel
theorem dW_law_343 : decode code 343 = .ok (.iconst 0, 1) := by decide +kernel
theorem dW_law_344 : decode code 344 = .ok (.goto 5, 3) := by decide +kernel
theorem dW_law_347 : decode code 347 = .ok (.iload 18, 2) := by decide +kernel
theorem dW_law_349 : decode code 349 = .ok (.istore 20, 2) := by decide +kernel
theorem dW_law_351 : decode code 351 = .ok (.aload_n 1, 1) := by decide +kernel
theorem dW_law_352 : decode code 352 = .ok (.iconst 0, 1) := by decide +kernel
theorem dW_law_353 : decode code 353 = .ok (.iload 13, 2) := by decide +kernel
theorem dW_law_355 : decode code 355 = .ok (.bipush 7, 2) := by decide +kernel
theorem dW_law_357 : decode code 357 = .ok (.idiv, 1) := by decide +kernel
theorem dW_law_358 : decode code 358 = .ok (.bipush 6, 2) := by decide +kernel
theorem dW_law_360 : decode code 360 = .ok (.irem, 1) := by decide +kernel
theorem dW_law_361 : decode code 361 = .ok (.iload 20, 2) := by decide +kernel
theorem dW_law_363 : decode code 363 = .ok (.iload 19, 2) := by decide +kernel
theorem dW_law_365 : decode code 365 = .ok (.invokestatic 131, 3) := by decide +kernel
theorem dW_law_368 : decode code 368 = .ok (.aload_n 2, 1) := by decide +kernel
theorem dW_law_369 : decode code 369 = .ok (.iconst 0, 1) := by decide +kernel
theorem dW_law_370 : decode code 370 = .ok (.iaload, 1) := by decide +kernel
theorem dW_law_371 : decode code 371 = .ok (.if_icmp .ne 7, 3) := by decide +kernel
theorem dW_law_374 : decode code 374 = .ok (.iconst 1, 1) := by decide +kernel
theorem dW_law_375 : decode code 375 = .ok (.goto 4, 3) := by decide +kernel
theorem dW_law_379 : decode code 379 = .ok (.istore 9, 2) := by decide +kernel
theorem dW_law_381 : decode code 381 = .ok (.aload_n 3, 1) := by decide +kernel
theorem dW_law_382 : decode code 382 = .ok (.bipush 10, 2) := by decide +kernel
theorem dW_law_384 : decode code 384 = .ok (.aload_n 2, 1) := by decide +kernel
theorem dW_law_385 : decode code 385 = .ok (.iconst 0, 1) := by decide +kernel
theorem dW_law_386 : decode code 386 = .ok (.iaload, 1) := by decide +kernel
theorem dW_law_387 : decode code 387 = .ok (.imul, 1) := by decide +kernel
theorem dW_law_388 : decode code 388 = .ok (.iload 13, 2) := by decide +kernel
theorem dW_law_390 : decode code 390 = .ok (.bipush 7, 2) := by decide +kernel
theorem dW_law_392 : decode code 392 = .ok (.idiv, 1) := by decide +kernel
theorem dW_law_393 : decode code 393 = .ok (.bipush 6, 2) := by decide +kernel
theorem dW_law_395 : decode code 395 = .ok (.irem, 1) := by decide +kernel
theorem dW_law_396 : decode code 396 = .ok (.iastore, 1) := by decide +kernel
theorem dW_law_397 : decode code 397 = .ok (.aload_n 3, 1) := by decide +kernel
theorem dW_law_398 : decode code 398 = .ok (.bipush 10, 2) := by decide +kernel
theorem dW_law_400 : decode code 400 = .ok (.aload_n 2, 1) := by decide +kernel
theorem dW_law_401 : decode code 401 = .ok (.iconst 0, 1) := by decide +kernel
theorem dW_law_402 : decode code 402 = .ok (.iaload, 1) := by decide +kernel
theorem dW_law_403 : decode code 403 = .ok (.imul, 1) := by decide +kernel
theorem dW_law_404 : decode code 404 = .ok (.iconst 1, 1) := by decide +kernel
theorem dW_law_405 : decode code 405 = .ok (.iadd, 1) := by decide +kernel
theorem dW_law_406 : decode code 406 = .ok (.iload 20, 2) := by decide +kernel
theorem dW_law_408 : decode code 408 = .ok (.invokestatic 8, 3) := by decide +kernel
theorem dW_law_411 : decode code 411 = .ok (.iastore, 1) := by decide +kernel
theorem dW_law_412 : decode code 412 = .ok (.aload_n 3, 1) := by decide +kernel
theorem dW_law_413 : decode code 413 = .ok (.bipush 10, 2) := by decide +kernel
theorem dW_law_415 : decode code 415 = .ok (.aload_n 2, 1) := by decide +kernel
theorem dW_law_416 : decode code 416 = .ok (.iconst 0, 1) := by decide +kernel
theorem dW_law_417 : decode code 417 = .ok (.iaload, 1) := by decide +kernel
theorem dW_law_418 : decode code 418 = .ok (.imul, 1) := by decide +kernel
theorem dW_law_419 : decode code 419 = .ok (.iconst 2, 1) := by decide +kernel
theorem dW_law_420 : decode code 420 = .ok (.iadd, 1) := by decide +kernel
theorem dW_law_421 : decode code 421 = .ok (.iload 19, 2) := by decide +kernel
theorem dW_law_423 : decode code 423 = .ok (.iastore, 1) := by decide +kernel
theorem dW_law_424 : decode code 424 = .ok (.aload_n 2, 1) := by decide +kernel
theorem dW_law_425 : decode code 425 = .ok (.iconst 0, 1) := by decide +kernel
theorem dW_law_426 : decode code 426 = .ok (.dup2, 1) := by decide +kernel
theorem dW_law_427 : decode code 427 = .ok (.iaload, 1) := by decide +kernel
theorem dW_law_428 : decode code 428 = .ok (.iconst 1, 1) := by decide +kernel
theorem dW_law_429 : decode code 429 = .ok (.iadd, 1) := by decide +kernel
theorem dW_law_430 : decode code 430 = .ok (.iastore, 1) := by decide +kernel
theorem dW_law_431 : decode code 431 = .ok (.goto 1069, 3) := by decide +kernel
theorem dW_law_441 : decode code 441 = .ok (.aload_n 1, 1) := by decide +kernel
theorem dW_law_442 : decode code 442 = .ok (.iconst 1, 1) := by decide +kernel
theorem dW_law_443 : decode code 443 = .ok (.iload 14, 2) := by decide +kernel
theorem dW_law_445 : decode code 445 = .ok (.iload 17, 2) := by decide +kernel
theorem dW_law_447 : decode code 447 = .ok (.iload 18, 2) := by decide +kernel
theorem dW_law_449 : decode code 449 = .ok (.invokestatic 131, 3) := by decide +kernel
theorem dW_law_452 : decode code 452 = .ok (.iload 16, 2) := by decide +kernel
theorem dW_law_454 : decode code 454 = .ok (.ifCond .le 8, 3) := by decide +kernel
theorem dW_law_457 : decode code 457 = .ok (.ldc 67, 2) := by decide +kernel
theorem dW_law_459 : decode code 459 = .ok (.goto 8, 3) := by decide +kernel
theorem dW_law_462 : decode code 462 = .ok (.iload 18, 2) := by decide +kernel
theorem dW_law_464 : decode code 464 = .ok (.invokestatic 8, 3) := by decide +kernel
theorem dW_law_467 : decode code 467 = .ok (.if_icmp .ne 7, 3) := by decide +kernel
theorem dW_law_470 : decode code 470 = .ok (.iconst 1, 1) := by decide +kernel
theorem dW_law_471 : decode code 471 = .ok (.goto 4, 3) := by decide +kernel
theorem dW_law_475 : decode code 475 = .ok (.istore 9, 2) := by decide +kernel
theorem dW_law_477 : decode code 477 = .ok (.iload 16, 2) := by decide +kernel
theorem dW_law_479 : decode code 479 = .ok (.ifCond .ne 1021, 3) := by decide +kernel
theorem dW_law_482 : decode code 482 = .ok (.aload 6, 2) := by decide +kernel
theorem dW_law_484 : decode code 484 = .ok (.iload 15, 2) := by decide +kernel
theorem dW_law_486 : decode code 486 = .ok (.iload 17, 2) := by decide +kernel
theorem dW_law_488 : decode code 488 = .ok (.iadd, 1) := by decide +kernel
theorem dW_law_489 : decode code 489 = .ok (.aload 5, 2) := by decide +kernel
theorem dW_law_491 : decode code 491 = .ok (.iload 15, 2) := by decide +kernel
theorem dW_law_493 : decode code 493 = .ok (.iload 17, 2) := by decide +kernel
theorem dW_law_495 : decode code 495 = .ok (.iadd, 1) := by decide +kernel
theorem dW_law_496 : decode code 496 = .ok (.iaload, 1) := by decide +kernel
theorem dW_law_497 : decode code 497 = .ok (.ifCond .le 14, 3) := by decide +kernel
theorem dW_law_500 : decode code 500 = .ok (.aload 6, 2) := by decide +kernel
theorem dW_law_502 : decode code 502 = .ok (.iload 15, 2) := by decide +kernel
theorem dW_law_504 : decode code 504 = .ok (.iload 17, 2) := by decide +kernel
theorem dW_law_506 : decode code 506 = .ok (.iadd, 1) := by decide +kernel
theorem dW_law_507 : decode code 507 = .ok (.iaload, 1) := by decide +kernel
theorem dW_law_508 : decode code 508 = .ok (.goto 6, 3) := by decide +kernel
theorem dW_law_511 : decode code 511 = .ok (.aload_n 2, 1) := by decide +kernel
theorem dW_law_512 : decode code 512 = .ok (.iconst 1, 1) := by decide +kernel
theorem dW_law_513 : decode code 513 = .ok (.iaload, 1) := by decide +kernel
theorem dW_law_514 : decode code 514 = .ok (.iastore, 1) := by decide +kernel
theorem dW_law_515 : decode code 515 = .ok (.aload 5, 2) := by decide +kernel
theorem dW_law_517 : decode code 517 = .ok (.iload 15, 2) := by decide +kernel
theorem dW_law_519 : decode code 519 = .ok (.iload 17, 2) := by decide +kernel
theorem dW_law_521 : decode code 521 = .ok (.iadd, 1) := by decide +kernel
theorem dW_law_522 : decode code 522 = .ok (.iload 18, 2) := by decide +kernel
theorem dW_law_524 : decode code 524 = .ok (.invokestatic 8, 3) := by decide +kernel
theorem dW_law_527 : decode code 527 = .ok (.iconst 1, 1) := by decide +kernel
theorem dW_law_528 : decode code 528 = .ok (.iadd, 1) := by decide +kernel
theorem dW_law_529 : decode code 529 = .ok (.iastore, 1) := by decide +kernel
theorem dW_law_530 : decode code 530 = .ok (.aload_n 2, 1) := by decide +kernel
theorem dW_law_531 : decode code 531 = .ok (.iconst 1, 1) := by decide +kernel
theorem dW_law_532 : decode code 532 = .ok (.dup2, 1) := by decide +kernel
theorem dW_law_533 : decode code 533 = .ok (.iaload, 1) := by decide +kernel
theorem dW_law_534 : decode code 534 = .ok (.iconst 1, 1) := by decide +kernel
theorem dW_law_535 : decode code 535 = .ok (.iadd, 1) := by decide +kernel
theorem dW_law_536 : decode code 536 = .ok (.iastore, 1) := by decide +kernel
theorem dW_law_537 : decode code 537 = .ok (.goto 963, 3) := by decide +kernel
theorem dW_law_547 : decode code 547 = .ok (.aload_n 1, 1) := by decide +kernel
theorem dW_law_548 : decode code 548 = .ok (.iconst 2, 1) := by decide +kernel
theorem dW_law_549 : decode code 549 = .ok (.iload 14, 2) := by decide +kernel
theorem dW_law_551 : decode code 551 = .ok (.iconst 0, 1) := by decide +kernel
theorem dW_law_552 : decode code 552 = .ok (.iconst 0, 1) := by decide +kernel
theorem dW_law_553 : decode code 553 = .ok (.invokestatic 131, 3) := by decide +kernel
theorem dW_law_556 : decode code 556 = .ok (.iload 16, 2) := by decide +kernel
theorem dW_law_558 : decode code 558 = .ok (.ifCond .le 8, 3) := by decide +kernel
theorem dW_law_561 : decode code 561 = .ok (.ldc 67, 2) := by decide +kernel
theorem dW_law_563 : decode code 563 = .ok (.goto 14, 3) := by decide +kernel
theorem dW_law_566 : decode code 566 = .ok (.aload_n 2, 1) := by decide +kernel
theorem dW_law_567 : decode code 567 = .ok (.aload_n 3, 1) := by decide +kernel
theorem dW_law_568 : decode code 568 = .ok (.aload 5, 2) := by decide +kernel
theorem dW_law_570 : decode code 570 = .ok (.aload 6, 2) := by decide +kernel
theorem dW_law_572 : decode code 572 = .ok (.iload 14, 2) := by decide +kernel
theorem dW_law_574 : decode code 574 = .ok (.invokestatic 135, 3) := by decide +kernel
theorem dW_law_577 : decode code 577 = .ok (.if_icmp .ne 7, 3) := by decide +kernel
theorem dW_law_580 : decode code 580 = .ok (.iconst 1, 1) := by decide +kernel
theorem dW_law_581 : decode code 581 = .ok (.goto 4, 3) := by decide +kernel
theorem dW_law_585 : decode code 585 = .ok (.istore 9, 2) := by decide +kernel
theorem dW_law_587 : decode code 587 = .ok (.goto 913, 3) := by decide +kernel
theorem dW_law_597 : decode code 597 = .ok (.iload 13, 2) := by decide +kernel
theorem dW_law_599 : decode code 599 = .ok (.iconst 5, 1) := by decide +kernel
theorem dW_law_600 : decode code 600 = .ok (.irem, 1) := by decide +kernel
theorem dW_law_601 : decode code 601 = .ok (.ifCond .ne 7, 3) := by decide +kernel
theorem dW_law_604 : decode code 604 = .ok (.iconst 0, 1) := by decide +kernel
theorem dW_law_605 : decode code 605 = .ok (.goto 5, 3) := by decide +kernel
theorem dW_law_608 : decode code 608 = .ok (.iload 18, 2) := by decide +kernel
theorem dW_law_610 : decode code 610 = .ok (.istore 19, 2) := by decide +kernel
theorem dW_law_612 : decode code 612 = .ok (.aload_n 1, 1) := by decide +kernel
theorem dW_law_613 : decode code 613 = .ok (.iconst 3, 1) := by decide +kernel
theorem dW_law_614 : decode code 614 = .ok (.iload 14, 2) := by decide +kernel
theorem dW_law_616 : decode code 616 = .ok (.iload 19, 2) := by decide +kernel
theorem dW_law_618 : decode code 618 = .ok (.iconst 0, 1) := by decide +kernel
theorem dW_law_619 : decode code 619 = .ok (.invokestatic 131, 3) := by decide +kernel
theorem dW_law_622 : decode code 622 = .ok (.iload 16, 2) := by decide +kernel
theorem dW_law_624 : decode code 624 = .ok (.iconst 1, 1) := by decide +kernel
theorem dW_law_625 : decode code 625 = .ok (.if_icmp .eq 8, 3) := by decide +kernel
theorem dW_law_628 : decode code 628 = .ok (.ldc 67, 2) := by decide +kernel
theorem dW_law_630 : decode code 630 = .ok (.goto 10, 3) := by decide +kernel
theorem dW_law_633 : decode code 633 = .ok (.aload 5, 2) := by decide +kernel
theorem dW_law_635 : decode code 635 = .ok (.iload 14, 2) := by decide +kernel
theorem dW_law_637 : decode code 637 = .ok (.invokestatic 139, 3) := by decide +kernel
theorem dW_law_640 : decode code 640 = .ok (.if_icmp .ne 7, 3) := by decide +kernel
theorem dW_law_643 : decode code 643 = .ok (.iconst 1, 1) := by decide +kernel
theorem dW_law_644 : decode code 644 = .ok (.goto 4, 3) := by decide +kernel
theorem dW_law_648 : decode code 648 = .ok (.istore 9, 2) := by decide +kernel
theorem dW_law_650 : decode code 650 = .ok (.iload 16, 2) := by decide +kernel
theorem dW_law_652 : decode code 652 = .ok (.iconst 1, 1) := by decide +kernel
theorem dW_law_653 : decode code 653 = .ok (.if_icmp .ne 21, 3) := by decide +kernel
theorem dW_law_656 : decode code 656 = .ok (.aload_n 3, 1) := by decide +kernel
theorem dW_law_657 : decode code 657 = .ok (.iload 15, 2) := by decide +kernel
theorem dW_law_659 : decode code 659 = .ok (.iconst 1, 1) := by decide +kernel
theorem dW_law_660 : decode code 660 = .ok (.iadd, 1) := by decide +kernel
theorem dW_law_661 : decode code 661 = .ok (.iload 19, 2) := by decide +kernel
theorem dW_law_663 : decode code 663 = .ok (.invokestatic 8, 3) := by decide +kernel
theorem dW_law_666 : decode code 666 = .ok (.iastore, 1) := by decide +kernel
theorem dW_law_667 : decode code 667 = .ok (.aload_n 3, 1) := by decide +kernel
theorem dW_law_668 : decode code 668 = .ok (.iload 15, 2) := by decide +kernel
theorem dW_law_670 : decode code 670 = .ok (.iconst 3, 1) := by decide +kernel
theorem dW_law_671 : decode code 671 = .ok (.iadd, 1) := by decide +kernel
theorem dW_law_672 : decode code 672 = .ok (.iconst 0, 1) := by decide +kernel
theorem dW_law_673 : decode code 673 = .ok (.iastore, 1) := by decide +kernel
theorem dW_law_674 : decode code 674 = .ok (.goto 826, 3) := by decide +kernel
theorem dW_law_684 : decode code 684 = .ok (.aload_n 3, 1) := by decide +kernel
theorem dW_law_685 : decode code 685 = .ok (.iload 15, 2) := by decide +kernel
theorem dW_law_687 : decode code 687 = .ok (.iconst 5, 1) := by decide +kernel
theorem dW_law_688 : decode code 688 = .ok (.iadd, 1) := by decide +kernel
theorem dW_law_689 : decode code 689 = .ok (.iaload, 1) := by decide +kernel
theorem dW_law_690 : decode code 690 = .ok (.istore 19, 2) := by decide +kernel
theorem dW_law_692 : decode code 692 = .ok (.aload_n 1, 1) := by decide +kernel
theorem dW_law_693 : decode code 693 = .ok (.iconst 4, 1) := by decide +kernel
theorem dW_law_694 : decode code 694 = .ok (.iload 14, 2) := by decide +kernel
theorem dW_law_696 : decode code 696 = .ok (.iconst 0, 1) := by decide +kernel
theorem dW_law_697 : decode code 697 = .ok (.iconst 0, 1) := by decide +kernel
theorem dW_law_698 : decode code 698 = .ok (.invokestatic 131, 3) := by decide +kernel
theorem dW_law_701 : decode code 701 = .ok (.iload 16, 2) := by decide +kernel
theorem dW_law_703 : decode code 703 = .ok (.iconst 2, 1) := by decide +kernel
theorem dW_law_704 : decode code 704 = .ok (.if_icmp .eq 8, 3) := by decide +kernel
theorem dW_law_707 : decode code 707 = .ok (.ldc 67, 2) := by decide +kernel
theorem dW_law_709 : decode code 709 = .ok (.goto 11, 3) := by decide +kernel
theorem dW_law_712 : decode code 712 = .ok (.iload 19, 2) := by decide +kernel
theorem dW_law_714 : decode code 714 = .ok (.iload 19, 2) := by decide +kernel
theorem dW_law_716 : decode code 716 = .ok (.invokestatic 96, 3) := by decide +kernel
theorem dW_law_719 : decode code 719 = .ok (.iadd, 1) := by decide +kernel
theorem dW_law_720 : decode code 720 = .ok (.if_icmp .ne 7, 3) := by decide +kernel
theorem dW_law_723 : decode code 723 = .ok (.iconst 1, 1) := by decide +kernel
theorem dW_law_724 : decode code 724 = .ok (.goto 4, 3) := by decide +kernel
theorem dW_law_728 : decode code 728 = .ok (.istore 9, 2) := by decide +kernel
theorem dW_law_730 : decode code 730 = .ok (.iload 16, 2) := by decide +kernel
theorem dW_law_732 : decode code 732 = .ok (.iconst 2, 1) := by decide +kernel
theorem dW_law_733 : decode code 733 = .ok (.if_icmp .ne 65, 3) := by decide +kernel
theorem dW_law_736 : decode code 736 = .ok (.aload_n 3, 1) := by decide +kernel
theorem dW_law_737 : decode code 737 = .ok (.iload 15, 2) := by decide +kernel
theorem dW_law_739 : decode code 739 = .ok (.iconst 3, 1) := by decide +kernel
theorem dW_law_740 : decode code 740 = .ok (.iadd, 1) := by decide +kernel
theorem dW_law_741 : decode code 741 = .ok (.iconst 3, 1) := by decide +kernel
theorem dW_law_742 : decode code 742 = .ok (.iastore, 1) := by decide +kernel
theorem dW_law_743 : decode code 743 = .ok (.aload_n 3, 1) := by decide +kernel
theorem dW_law_744 : decode code 744 = .ok (.iload 15, 2) := by decide +kernel
theorem dW_law_746 : decode code 746 = .ok (.bipush 7, 2) := by decide +kernel
theorem dW_law_748 : decode code 748 = .ok (.iadd, 1) := by decide +kernel
theorem dW_law_749 : decode code 749 = .ok (.iaload, 1) := by decide +kernel
theorem dW_law_750 : decode code 750 = .ok (.ifCond .le 40, 3) := by decide +kernel
theorem dW_law_753 : decode code 753 = .ok (.aload_n 3, 1) := by decide +kernel
theorem dW_law_754 : decode code 754 = .ok (.iload 15, 2) := by decide +kernel
theorem dW_law_756 : decode code 756 = .ok (.bipush 8, 2) := by decide +kernel
theorem dW_law_758 : decode code 758 = .ok (.iadd, 1) := by decide +kernel
theorem dW_law_759 : decode code 759 = .ok (.iaload, 1) := by decide +kernel
theorem dW_law_760 : decode code 760 = .ok (.iload 19, 2) := by decide +kernel
theorem dW_law_762 : decode code 762 = .ok (.if_icmp .le 28, 3) := by decide +kernel
theorem dW_law_765 : decode code 765 = .ok (.aload 8, 2) := by decide +kernel
theorem dW_law_767 : decode code 767 = .ok (.aload_n 3, 1) := by decide +kernel
theorem dW_law_768 : decode code 768 = .ok (.iload 15, 2) := by decide +kernel
theorem dW_law_770 : decode code 770 = .ok (.bipush 7, 2) := by decide +kernel
theorem dW_law_772 : decode code 772 = .ok (.iadd, 1) := by decide +kernel
theorem dW_law_773 : decode code 773 = .ok (.iaload, 1) := by decide +kernel
theorem dW_law_774 : decode code 774 = .ok (.iconst 1, 1) := by decide +kernel
theorem dW_law_775 : decode code 775 = .ok (.isub, 1) := by decide +kernel
theorem dW_law_776 : decode code 776 = .ok (.dup2, 1) := by decide +kernel
theorem dW_law_777 : decode code 777 = .ok (.iaload, 1) := by decide +kernel
theorem dW_law_778 : decode code 778 = .ok (.aload_n 3, 1) := by decide +kernel
theorem dW_law_779 : decode code 779 = .ok (.iload 15, 2) := by decide +kernel
theorem dW_law_781 : decode code 781 = .ok (.bipush 8, 2) := by decide +kernel
theorem dW_law_783 : decode code 783 = .ok (.iadd, 1) := by decide +kernel
theorem dW_law_784 : decode code 784 = .ok (.iaload, 1) := by decide +kernel
theorem dW_law_785 : decode code 785 = .ok (.iload 19, 2) := by decide +kernel
theorem dW_law_787 : decode code 787 = .ok (.isub, 1) := by decide +kernel
theorem dW_law_788 : decode code 788 = .ok (.iadd, 1) := by decide +kernel
theorem dW_law_789 : decode code 789 = .ok (.iastore, 1) := by decide +kernel
theorem dW_law_790 : decode code 790 = .ok (.aload_n 3, 1) := by decide +kernel
theorem dW_law_791 : decode code 791 = .ok (.iload 15, 2) := by decide +kernel
theorem dW_law_793 : decode code 793 = .ok (.bipush 7, 2) := by decide +kernel
theorem dW_law_795 : decode code 795 = .ok (.iadd, 1) := by decide +kernel
theorem dW_law_796 : decode code 796 = .ok (.iconst 0, 1) := by decide +kernel
theorem dW_law_797 : decode code 797 = .ok (.iastore, 1) := by decide +kernel
theorem dW_law_798 : decode code 798 = .ok (.goto 702, 3) := by decide +kernel
theorem dW_law_808 : decode code 808 = .ok (.aload_n 1, 1) := by decide +kernel
theorem dW_law_809 : decode code 809 = .ok (.iconst 5, 1) := by decide +kernel
theorem dW_law_810 : decode code 810 = .ok (.iload 14, 2) := by decide +kernel
theorem dW_law_812 : decode code 812 = .ok (.iconst 0, 1) := by decide +kernel
theorem dW_law_813 : decode code 813 = .ok (.iconst 0, 1) := by decide +kernel
theorem dW_law_814 : decode code 814 = .ok (.invokestatic 131, 3) := by decide +kernel
theorem dW_law_817 : decode code 817 = .ok (.iload 16, 2) := by decide +kernel
theorem dW_law_819 : decode code 819 = .ok (.iconst 2, 1) := by decide +kernel
theorem dW_law_820 : decode code 820 = .ok (.if_icmp .eq 8, 3) := by decide +kernel
theorem dW_law_823 : decode code 823 = .ok (.ldc 67, 2) := by decide +kernel
theorem dW_law_825 : decode code 825 = .ok (.goto 9, 3) := by decide +kernel
theorem dW_law_828 : decode code 828 = .ok (.aload_n 3, 1) := by decide +kernel
theorem dW_law_829 : decode code 829 = .ok (.iload 15, 2) := by decide +kernel
theorem dW_law_831 : decode code 831 = .ok (.iconst 4, 1) := by decide +kernel
theorem dW_law_832 : decode code 832 = .ok (.iadd, 1) := by decide +kernel
theorem dW_law_833 : decode code 833 = .ok (.iaload, 1) := by decide +kernel
theorem dW_law_834 : decode code 834 = .ok (.if_icmp .ne 7, 3) := by decide +kernel
theorem dW_law_837 : decode code 837 = .ok (.iconst 1, 1) := by decide +kernel
theorem dW_law_838 : decode code 838 = .ok (.goto 4, 3) := by decide +kernel
theorem dW_law_842 : decode code 842 = .ok (.istore 9, 2) := by decide +kernel
theorem dW_law_844 : decode code 844 = .ok (.iload 16, 2) := by decide +kernel
theorem dW_law_846 : decode code 846 = .ok (.iconst 2, 1) := by decide +kernel
theorem dW_law_847 : decode code 847 = .ok (.if_icmp .ne 653, 3) := by decide +kernel
theorem dW_law_850 : decode code 850 = .ok (.aload_n 3, 1) := by decide +kernel
theorem dW_law_851 : decode code 851 = .ok (.iload 15, 2) := by decide +kernel
theorem dW_law_853 : decode code 853 = .ok (.bipush 8, 2) := by decide +kernel
theorem dW_law_855 : decode code 855 = .ok (.iadd, 1) := by decide +kernel
theorem dW_law_856 : decode code 856 = .ok (.aload_n 3, 1) := by decide +kernel
theorem dW_law_857 : decode code 857 = .ok (.iload 15, 2) := by decide +kernel
theorem dW_law_859 : decode code 859 = .ok (.bipush 7, 2) := by decide +kernel
theorem dW_law_861 : decode code 861 = .ok (.iadd, 1) := by decide +kernel
theorem dW_law_862 : decode code 862 = .ok (.iaload, 1) := by decide +kernel
theorem dW_law_863 : decode code 863 = .ok (.ifCond .le 13, 3) := by decide +kernel
theorem dW_law_866 : decode code 866 = .ok (.aload_n 3, 1) := by decide +kernel
theorem dW_law_867 : decode code 867 = .ok (.iload 15, 2) := by decide +kernel
theorem dW_law_869 : decode code 869 = .ok (.bipush 8, 2) := by decide +kernel
theorem dW_law_871 : decode code 871 = .ok (.iadd, 1) := by decide +kernel
theorem dW_law_872 : decode code 872 = .ok (.iaload, 1) := by decide +kernel
theorem dW_law_873 : decode code 873 = .ok (.goto 9, 3) := by decide +kernel
theorem dW_law_876 : decode code 876 = .ok (.aload_n 3, 1) := by decide +kernel
theorem dW_law_877 : decode code 877 = .ok (.iload 15, 2) := by decide +kernel
theorem dW_law_879 : decode code 879 = .ok (.iconst 5, 1) := by decide +kernel
theorem dW_law_880 : decode code 880 = .ok (.iadd, 1) := by decide +kernel
theorem dW_law_881 : decode code 881 = .ok (.iaload, 1) := by decide +kernel
theorem dW_law_882 : decode code 882 = .ok (.iastore, 1) := by decide +kernel
theorem dW_law_883 : decode code 883 = .ok (.aload_n 3, 1) := by decide +kernel
theorem dW_law_884 : decode code 884 = .ok (.iload 15, 2) := by decide +kernel
theorem dW_law_886 : decode code 886 = .ok (.bipush 7, 2) := by decide +kernel
theorem dW_law_888 : decode code 888 = .ok (.iadd, 1) := by decide +kernel
theorem dW_law_889 : decode code 889 = .ok (.aload_n 3, 1) := by decide +kernel
theorem dW_law_890 : decode code 890 = .ok (.iload 15, 2) := by decide +kernel
theorem dW_law_892 : decode code 892 = .ok (.bipush 7, 2) := by decide +kernel
theorem dW_law_894 : decode code 894 = .ok (.iadd, 1) := by decide +kernel
theorem dW_law_895 : decode code 895 = .ok (.iaload, 1) := by decide +kernel
theorem dW_law_896 : decode code 896 = .ok (.ifCond .le 13, 3) := by decide +kernel
theorem dW_law_899 : decode code 899 = .ok (.aload_n 3, 1) := by decide +kernel
theorem dW_law_900 : decode code 900 = .ok (.iload 15, 2) := by decide +kernel
theorem dW_law_902 : decode code 902 = .ok (.bipush 7, 2) := by decide +kernel
theorem dW_law_904 : decode code 904 = .ok (.iadd, 1) := by decide +kernel
theorem dW_law_905 : decode code 905 = .ok (.iaload, 1) := by decide +kernel
theorem dW_law_906 : decode code 906 = .ok (.goto 11, 3) := by decide +kernel
theorem dW_law_909 : decode code 909 = .ok (.aload_n 3, 1) := by decide +kernel
theorem dW_law_910 : decode code 910 = .ok (.iload 15, 2) := by decide +kernel
theorem dW_law_912 : decode code 912 = .ok (.iconst 4, 1) := by decide +kernel
theorem dW_law_913 : decode code 913 = .ok (.iadd, 1) := by decide +kernel
theorem dW_law_914 : decode code 914 = .ok (.iaload, 1) := by decide +kernel
theorem dW_law_915 : decode code 915 = .ok (.iconst 1, 1) := by decide +kernel
theorem dW_law_916 : decode code 916 = .ok (.iadd, 1) := by decide +kernel
theorem dW_law_917 : decode code 917 = .ok (.iastore, 1) := by decide +kernel
theorem dW_law_918 : decode code 918 = .ok (.aload_n 3, 1) := by decide +kernel
theorem dW_law_919 : decode code 919 = .ok (.iload 15, 2) := by decide +kernel
theorem dW_law_921 : decode code 921 = .ok (.iconst 3, 1) := by decide +kernel
theorem dW_law_922 : decode code 922 = .ok (.iadd, 1) := by decide +kernel
theorem dW_law_923 : decode code 923 = .ok (.iconst 0, 1) := by decide +kernel
theorem dW_law_924 : decode code 924 = .ok (.iastore, 1) := by decide +kernel
theorem dW_law_925 : decode code 925 = .ok (.aload 5, 2) := by decide +kernel
theorem dW_law_927 : decode code 927 = .ok (.iload 14, 2) := by decide +kernel
theorem dW_law_929 : decode code 929 = .ok (.invokestatic 139, 3) := by decide +kernel
theorem dW_law_932 : decode code 932 = .ok (.istore 19, 2) := by decide +kernel
theorem dW_law_934 : decode code 934 = .ok (.goto 566, 3) := by decide +kernel
theorem dW_law_944 : decode code 944 = .ok (.iload 17, 2) := by decide +kernel
theorem dW_law_946 : decode code 946 = .ok (.istore 19, 2) := by decide +kernel
theorem dW_law_948 : decode code 948 = .ok (.iconst 0, 1) := by decide +kernel
theorem dW_law_949 : decode code 949 = .ok (.istore 20, 2) := by decide +kernel
theorem dW_law_951 : decode code 951 = .ok (.iload 20, 2) := by decide +kernel
theorem dW_law_953 : decode code 953 = .ok (.bipush 10, 2) := by decide +kernel
theorem dW_law_955 : decode code 955 = .ok (.if_icmp .ge 33, 3) := by decide +kernel
theorem dW_law_958 : decode code 958 = .ok (.iload 13, 2) := by decide +kernel
theorem dW_law_960 : decode code 960 = .ok (.iconst 3, 1) := by decide +kernel
theorem dW_law_961 : decode code 961 = .ok (.irem, 1) := by decide +kernel
theorem dW_law_962 : decode code 962 = .ok (.ifCond .le 26, 3) := by decide +kernel
theorem dW_law_965 : decode code 965 = .ok (.aload 8, 2) := by decide +kernel
theorem dW_law_967 : decode code 967 = .ok (.iload 19, 2) := by decide +kernel
theorem dW_law_969 : decode code 969 = .ok (.iaload, 1) := by decide +kernel
theorem dW_law_970 : decode code 970 = .ok (.ifCond .ne 18, 3) := by decide +kernel
theorem dW_law_973 : decode code 973 = .ok (.iload 19, 2) := by decide +kernel
theorem dW_law_975 : decode code 975 = .ok (.iconst 1, 1) := by decide +kernel
theorem dW_law_976 : decode code 976 = .ok (.iadd, 1) := by decide +kernel
theorem dW_law_977 : decode code 977 = .ok (.bipush 10, 2) := by decide +kernel
theorem dW_law_979 : decode code 979 = .ok (.irem, 1) := by decide +kernel
theorem dW_law_980 : decode code 980 = .ok (.istore 19, 2) := by decide +kernel
theorem dW_law_982 : decode code 982 = .ok (.iinc 20 1, 3) := by decide +kernel
theorem dW_law_985 : decode code 985 = .ok (.goto (-34), 3) := by decide +kernel
theorem dW_law_988 : decode code 988 = .ok (.aload_n 1, 1) := by decide +kernel
theorem dW_law_989 : decode code 989 = .ok (.bipush 6, 2) := by decide +kernel
theorem dW_law_991 : decode code 991 = .ok (.iload 19, 2) := by decide +kernel
theorem dW_law_993 : decode code 993 = .ok (.iconst 0, 1) := by decide +kernel
theorem dW_law_994 : decode code 994 = .ok (.iconst 0, 1) := by decide +kernel
theorem dW_law_995 : decode code 995 = .ok (.invokestatic 131, 3) := by decide +kernel
theorem dW_law_998 : decode code 998 = .ok (.aload 8, 2) := by decide +kernel
theorem dW_law_1000 : decode code 1000 = .ok (.iload 19, 2) := by decide +kernel
theorem dW_law_1002 : decode code 1002 = .ok (.iaload, 1) := by decide +kernel
theorem dW_law_1003 : decode code 1003 = .ok (.ifCond .ne 8, 3) := by decide +kernel
theorem dW_law_1006 : decode code 1006 = .ok (.ldc 67, 2) := by decide +kernel
theorem dW_law_1008 : decode code 1008 = .ok (.goto 8, 3) := by decide +kernel
theorem dW_law_1011 : decode code 1011 = .ok (.aload 8, 2) := by decide +kernel
theorem dW_law_1013 : decode code 1013 = .ok (.iload 19, 2) := by decide +kernel
theorem dW_law_1015 : decode code 1015 = .ok (.iaload, 1) := by decide +kernel
theorem dW_law_1016 : decode code 1016 = .ok (.if_icmp .ne 7, 3) := by decide +kernel
theorem dW_law_1019 : decode code 1019 = .ok (.iconst 1, 1) := by decide +kernel
theorem dW_law_1020 : decode code 1020 = .ok (.goto 4, 3) := by decide +kernel
theorem dW_law_1024 : decode code 1024 = .ok (.istore 9, 2) := by decide +kernel
theorem dW_law_1026 : decode code 1026 = .ok (.aload_n 2, 1) := by decide +kernel
theorem dW_law_1027 : decode code 1027 = .ok (.iconst 4, 1) := by decide +kernel
theorem dW_law_1028 : decode code 1028 = .ok (.dup2, 1) := by decide +kernel
theorem dW_law_1029 : decode code 1029 = .ok (.iaload, 1) := by decide +kernel
theorem dW_law_1030 : decode code 1030 = .ok (.aload 8, 2) := by decide +kernel
theorem dW_law_1032 : decode code 1032 = .ok (.iload 19, 2) := by decide +kernel
theorem dW_law_1034 : decode code 1034 = .ok (.iaload, 1) := by decide +kernel
theorem dW_law_1035 : decode code 1035 = .ok (.iadd, 1) := by decide +kernel
theorem dW_law_1036 : decode code 1036 = .ok (.iastore, 1) := by decide +kernel
theorem dW_law_1037 : decode code 1037 = .ok (.aload 8, 2) := by decide +kernel
theorem dW_law_1039 : decode code 1039 = .ok (.iload 19, 2) := by decide +kernel
theorem dW_law_1041 : decode code 1041 = .ok (.iconst 0, 1) := by decide +kernel
theorem dW_law_1042 : decode code 1042 = .ok (.iastore, 1) := by decide +kernel
theorem dW_law_1043 : decode code 1043 = .ok (.goto 457, 3) := by decide +kernel
theorem dW_law_1053 : decode code 1053 = .ok (.aload_n 3, 1) := by decide +kernel
theorem dW_law_1054 : decode code 1054 = .ok (.iload 15, 2) := by decide +kernel
theorem dW_law_1056 : decode code 1056 = .ok (.iconst 1, 1) := by decide +kernel
theorem dW_law_1057 : decode code 1057 = .ok (.iadd, 1) := by decide +kernel
theorem dW_law_1058 : decode code 1058 = .ok (.iaload, 1) := by decide +kernel
theorem dW_law_1059 : decode code 1059 = .ok (.iconst 2, 1) := by decide +kernel
theorem dW_law_1060 : decode code 1060 = .ok (.idiv, 1) := by decide +kernel
theorem dW_law_1061 : decode code 1061 = .ok (.istore 19, 2) := by decide +kernel
theorem dW_law_1063 : decode code 1063 = .ok (.iload 13, 2) := by decide +kernel
theorem dW_law_1065 : decode code 1065 = .ok (.iconst 4, 1) := by decide +kernel
theorem dW_law_1066 : decode code 1066 = .ok (.irem, 1) := by decide +kernel
theorem dW_law_1067 : decode code 1067 = .ok (.ifCond .ne 8, 3) := by decide +kernel
theorem dW_law_1070 : decode code 1070 = .ok (.iload 18, 2) := by decide +kernel
theorem dW_law_1072 : decode code 1072 = .ok (.goto 36, 3) := by decide +kernel
theorem dW_law_1075 : decode code 1075 = .ok (.iload 19, 2) := by decide +kernel
theorem dW_law_1077 : decode code 1077 = .ok (.iconst 1, 1) := by decide +kernel
theorem dW_law_1078 : decode code 1078 = .ok (.if_icmp .ge 7, 3) := by decide +kernel
theorem dW_law_1081 : decode code 1081 = .ok (.iconst 1, 1) := by decide +kernel
theorem dW_law_1082 : decode code 1082 = .ok (.goto 26, 3) := by decide +kernel
theorem dW_law_1085 : decode code 1085 = .ok (.iload 13, 2) := by decide +kernel
theorem dW_law_1087 : decode code 1087 = .ok (.iconst 4, 1) := by decide +kernel
theorem dW_law_1088 : decode code 1088 = .ok (.irem, 1) := by decide +kernel
theorem dW_law_1089 : decode code 1089 = .ok (.iconst 1, 1) := by decide +kernel
theorem dW_law_1090 : decode code 1090 = .ok (.if_icmp .ne 8, 3) := by decide +kernel
theorem dW_law_1093 : decode code 1093 = .ok (.iload 19, 2) := by decide +kernel
theorem dW_law_1095 : decode code 1095 = .ok (.goto 13, 3) := by decide +kernel
theorem dW_law_1098 : decode code 1098 = .ok (.iconst 1, 1) := by decide +kernel
theorem dW_law_1099 : decode code 1099 = .ok (.iload 13, 2) := by decide +kernel
theorem dW_law_1101 : decode code 1101 = .ok (.bipush 9, 2) := by decide +kernel
theorem dW_law_1103 : decode code 1103 = .ok (.idiv, 1) := by decide +kernel
theorem dW_law_1104 : decode code 1104 = .ok (.iload 19, 2) := by decide +kernel
theorem dW_law_1106 : decode code 1106 = .ok (.irem, 1) := by decide +kernel
theorem dW_law_1107 : decode code 1107 = .ok (.iadd, 1) := by decide +kernel
theorem dW_law_1108 : decode code 1108 = .ok (.istore 20, 2) := by decide +kernel
theorem dW_law_1110 : decode code 1110 = .ok (.iload 20, 2) := by decide +kernel
theorem dW_law_1112 : decode code 1112 = .ok (.iload 19, 2) := by decide +kernel
theorem dW_law_1114 : decode code 1114 = .ok (.if_icmp .le 8, 3) := by decide +kernel
theorem dW_law_1117 : decode code 1117 = .ok (.ldc 64, 2) := by decide +kernel
theorem dW_law_1119 : decode code 1119 = .ok (.goto 26, 3) := by decide +kernel
theorem dW_law_1122 : decode code 1122 = .ok (.iload 16, 2) := by decide +kernel
theorem dW_law_1124 : decode code 1124 = .ok (.iconst 2, 1) := by decide +kernel
theorem dW_law_1125 : decode code 1125 = .ok (.if_icmp .gt 13, 3) := by decide +kernel
theorem dW_law_1128 : decode code 1128 = .ok (.aload 4, 2) := by decide +kernel
theorem dW_law_1130 : decode code 1130 = .ok (.iconst 3, 1) := by decide +kernel
theorem dW_law_1131 : decode code 1131 = .ok (.iload 14, 2) := by decide +kernel
theorem dW_law_1133 : decode code 1133 = .ok (.imul, 1) := by decide +kernel
theorem dW_law_1134 : decode code 1134 = .ok (.iaload, 1) := by decide +kernel
theorem dW_law_1135 : decode code 1135 = .ok (.ifCond .le 8, 3) := by decide +kernel
theorem dW_law_1138 : decode code 1138 = .ok (.ldc 67, 2) := by decide +kernel
theorem dW_law_1140 : decode code 1140 = .ok (.goto 5, 3) := by decide +kernel
theorem dW_law_1143 : decode code 1143 = .ok (.iload 19, 2) := by decide +kernel
theorem dW_law_1145 : decode code 1145 = .ok (.istore 21, 2) := by decide +kernel
theorem dW_law_1147 : decode code 1147 = .ok (.iload 21, 2) := by decide +kernel
theorem dW_law_1149 : decode code 1149 = .ok (.ifCond .lt 24, 3) := by decide +kernel
theorem dW_law_1152 : decode code 1152 = .ok (.aload 4, 2) := by decide +kernel
theorem dW_law_1154 : decode code 1154 = .ok (.iconst 3, 1) := by decide +kernel
theorem dW_law_1155 : decode code 1155 = .ok (.iload 14, 2) := by decide +kernel
theorem dW_law_1157 : decode code 1157 = .ok (.imul, 1) := by decide +kernel
theorem dW_law_1158 : decode code 1158 = .ok (.iload 20, 2) := by decide +kernel
theorem dW_law_1160 : decode code 1160 = .ok (.iastore, 1) := by decide +kernel
theorem dW_law_1161 : decode code 1161 = .ok (.aload 4, 2) := by decide +kernel
theorem dW_law_1163 : decode code 1163 = .ok (.iconst 3, 1) := by decide +kernel
theorem dW_law_1164 : decode code 1164 = .ok (.iload 14, 2) := by decide +kernel
theorem dW_law_1166 : decode code 1166 = .ok (.imul, 1) := by decide +kernel
theorem dW_law_1167 : decode code 1167 = .ok (.iconst 1, 1) := by decide +kernel
theorem dW_law_1168 : decode code 1168 = .ok (.iadd, 1) := by decide +kernel
theorem dW_law_1169 : decode code 1169 = .ok (.aload_n 2, 1) := by decide +kernel
theorem dW_law_1170 : decode code 1170 = .ok (.iconst 2, 1) := by decide +kernel
theorem dW_law_1171 : decode code 1171 = .ok (.iaload, 1) := by decide +kernel
theorem dW_law_1172 : decode code 1172 = .ok (.iastore, 1) := by decide +kernel
theorem dW_law_1173 : decode code 1173 = .ok (.aload_n 1, 1) := by decide +kernel
theorem dW_law_1174 : decode code 1174 = .ok (.bipush 7, 2) := by decide +kernel
theorem dW_law_1176 : decode code 1176 = .ok (.iload 14, 2) := by decide +kernel
theorem dW_law_1178 : decode code 1178 = .ok (.iload 20, 2) := by decide +kernel
theorem dW_law_1180 : decode code 1180 = .ok (.iconst 0, 1) := by decide +kernel
theorem dW_law_1181 : decode code 1181 = .ok (.invokestatic 131, 3) := by decide +kernel
theorem dW_law_1184 : decode code 1184 = .ok (.iload 21, 2) := by decide +kernel
theorem dW_law_1186 : decode code 1186 = .ok (.if_icmp .ne 7, 3) := by decide +kernel
theorem dW_law_1189 : decode code 1189 = .ok (.iconst 1, 1) := by decide +kernel
theorem dW_law_1190 : decode code 1190 = .ok (.goto 4, 3) := by decide +kernel
theorem dW_law_1194 : decode code 1194 = .ok (.istore 9, 2) := by decide +kernel
theorem dW_law_1196 : decode code 1196 = .ok (.goto 304, 3) := by decide +kernel
theorem dW_law_1206 : decode code 1206 = .ok (.aload_n 2, 1) := by decide +kernel
theorem dW_law_1207 : decode code 1207 = .ok (.aload_n 3, 1) := by decide +kernel
theorem dW_law_1208 : decode code 1208 = .ok (.aload 4, 2) := by decide +kernel
theorem dW_law_1210 : decode code 1210 = .ok (.iload 14, 2) := by decide +kernel
theorem dW_law_1212 : decode code 1212 = .ok (.invokestatic 93, 3) := by decide +kernel
theorem dW_law_1215 : decode code 1215 = .ok (.istore 19, 2) := by decide +kernel
theorem dW_law_1217 : decode code 1217 = .ok (.aload_n 3, 1) := by decide +kernel
theorem dW_law_1218 : decode code 1218 = .ok (.iload 15, 2) := by decide +kernel
theorem dW_law_1220 : decode code 1220 = .ok (.iconst 5, 1) := by decide +kernel
theorem dW_law_1221 : decode code 1221 = .ok (.iadd, 1) := by decide +kernel
theorem dW_law_1222 : decode code 1222 = .ok (.iaload, 1) := by decide +kernel
theorem dW_law_1223 : decode code 1223 = .ok (.istore 20, 2) := by decide +kernel
theorem dW_law_1225 : decode code 1225 = .ok (.iload 20, 2) := by decide +kernel
theorem dW_law_1227 : decode code 1227 = .ok (.iload 20, 2) := by decide +kernel
theorem dW_law_1229 : decode code 1229 = .ok (.aload 7, 2) := by decide +kernel
theorem dW_law_1231 : decode code 1231 = .ok (.aload_n 3, 1) := by decide +kernel
theorem dW_law_1232 : decode code 1232 = .ok (.iload 15, 2) := by decide +kernel
theorem dW_law_1234 : decode code 1234 = .ok (.iaload, 1) := by decide +kernel
theorem dW_law_1235 : decode code 1235 = .ok (.iaload, 1) := by decide +kernel
theorem dW_law_1236 : decode code 1236 = .ok (.imul, 1) := by decide +kernel
theorem dW_law_1237 : decode code 1237 = .ok (.bipush 100, 2) := by decide +kernel
theorem dW_law_1239 : decode code 1239 = .ok (.idiv, 1) := by decide +kernel
theorem dW_law_1240 : decode code 1240 = .ok (.isub, 1) := by decide +kernel
theorem dW_law_1241 : decode code 1241 = .ok (.aload_n 3, 1) := by decide +kernel
theorem dW_law_1242 : decode code 1242 = .ok (.iload 14, 2) := by decide +kernel
theorem dW_law_1244 : decode code 1244 = .ok (.invokestatic 87, 3) := by decide +kernel
theorem dW_law_1247 : decode code 1247 = .ok (.isub, 1) := by decide +kernel
theorem dW_law_1248 : decode code 1248 = .ok (.aload 4, 2) := by decide +kernel
theorem dW_law_1250 : decode code 1250 = .ok (.iconst 3, 1) := by decide +kernel
theorem dW_law_1251 : decode code 1251 = .ok (.iload 14, 2) := by decide +kernel
theorem dW_law_1253 : decode code 1253 = .ok (.imul, 1) := by decide +kernel
theorem dW_law_1254 : decode code 1254 = .ok (.iaload, 1) := by decide +kernel
theorem dW_law_1255 : decode code 1255 = .ok (.isub, 1) := by decide +kernel
theorem dW_law_1256 : decode code 1256 = .ok (.iload 19, 2) := by decide +kernel
theorem dW_law_1258 : decode code 1258 = .ok (.isub, 1) := by decide +kernel
theorem dW_law_1259 : decode code 1259 = .ok (.istore 21, 2) := by decide +kernel
theorem dW_law_1261 : decode code 1261 = .ok (.aload_n 1, 1) := by decide +kernel
theorem dW_law_1262 : decode code 1262 = .ok (.bipush 8, 2) := by decide +kernel
theorem dW_law_1264 : decode code 1264 = .ok (.iload 14, 2) := by decide +kernel
theorem dW_law_1266 : decode code 1266 = .ok (.iconst 0, 1) := by decide +kernel
theorem dW_law_1267 : decode code 1267 = .ok (.iconst 0, 1) := by decide +kernel
theorem dW_law_1268 : decode code 1268 = .ok (.invokestatic 131, 3) := by decide +kernel
theorem dW_law_1271 : decode code 1271 = .ok (.iload 16, 2) := by decide +kernel
theorem dW_law_1273 : decode code 1273 = .ok (.iconst 3, 1) := by decide +kernel
theorem dW_law_1274 : decode code 1274 = .ok (.if_icmp .eq 8, 3) := by decide +kernel
theorem dW_law_1277 : decode code 1277 = .ok (.ldc 67, 2) := by decide +kernel
theorem dW_law_1279 : decode code 1279 = .ok (.goto 5, 3) := by decide +kernel
theorem dW_law_1282 : decode code 1282 = .ok (.iload 21, 2) := by decide +kernel
theorem dW_law_1284 : decode code 1284 = .ok (.if_icmp .ne 7, 3) := by decide +kernel
theorem dW_law_1287 : decode code 1287 = .ok (.iconst 1, 1) := by decide +kernel
theorem dW_law_1288 : decode code 1288 = .ok (.goto 4, 3) := by decide +kernel
theorem dW_law_1292 : decode code 1292 = .ok (.istore 9, 2) := by decide +kernel
theorem dW_law_1294 : decode code 1294 = .ok (.iload 16, 2) := by decide +kernel
theorem dW_law_1296 : decode code 1296 = .ok (.iconst 3, 1) := by decide +kernel
theorem dW_law_1297 : decode code 1297 = .ok (.if_icmp .ne 30, 3) := by decide +kernel
theorem dW_law_1300 : decode code 1300 = .ok (.aload_n 3, 1) := by decide +kernel
theorem dW_law_1301 : decode code 1301 = .ok (.iload 15, 2) := by decide +kernel
theorem dW_law_1303 : decode code 1303 = .ok (.iconst 3, 1) := by decide +kernel
theorem dW_law_1304 : decode code 1304 = .ok (.iadd, 1) := by decide +kernel
theorem dW_law_1305 : decode code 1305 = .ok (.iconst 4, 1) := by decide +kernel
theorem dW_law_1306 : decode code 1306 = .ok (.iastore, 1) := by decide +kernel
theorem dW_law_1307 : decode code 1307 = .ok (.aload_n 3, 1) := by decide +kernel
theorem dW_law_1308 : decode code 1308 = .ok (.iload 15, 2) := by decide +kernel
theorem dW_law_1310 : decode code 1310 = .ok (.bipush 9, 2) := by decide +kernel
theorem dW_law_1312 : decode code 1312 = .ok (.iadd, 1) := by decide +kernel
theorem dW_law_1313 : decode code 1313 = .ok (.iload 21, 2) := by decide +kernel
theorem dW_law_1315 : decode code 1315 = .ok (.iastore, 1) := by decide +kernel
theorem dW_law_1316 : decode code 1316 = .ok (.aload 4, 2) := by decide +kernel
theorem dW_law_1318 : decode code 1318 = .ok (.iconst 3, 1) := by decide +kernel
theorem dW_law_1319 : decode code 1319 = .ok (.iload 14, 2) := by decide +kernel
theorem dW_law_1321 : decode code 1321 = .ok (.imul, 1) := by decide +kernel
theorem dW_law_1322 : decode code 1322 = .ok (.iconst 2, 1) := by decide +kernel
theorem dW_law_1323 : decode code 1323 = .ok (.iadd, 1) := by decide +kernel
theorem dW_law_1324 : decode code 1324 = .ok (.iload 19, 2) := by decide +kernel
theorem dW_law_1326 : decode code 1326 = .ok (.iastore, 1) := by decide +kernel
theorem dW_law_1327 : decode code 1327 = .ok (.goto 173, 3) := by decide +kernel
theorem dW_law_1337 : decode code 1337 = .ok (.iload 13, 2) := by decide +kernel
theorem dW_law_1339 : decode code 1339 = .ok (.bipush 6, 2) := by decide +kernel
theorem dW_law_1341 : decode code 1341 = .ok (.irem, 1) := by decide +kernel
theorem dW_law_1342 : decode code 1342 = .ok (.istore 19, 2) := by decide +kernel
theorem dW_law_1344 : decode code 1344 = .ok (.aload_n 1, 1) := by decide +kernel
theorem dW_law_1345 : decode code 1345 = .ok (.iload 19, 2) := by decide +kernel
theorem dW_law_1347 : decode code 1347 = .ok (.iload 13, 2) := by decide +kernel
theorem dW_law_1349 : decode code 1349 = .ok (.bipush 6, 2) := by decide +kernel
theorem dW_law_1351 : decode code 1351 = .ok (.idiv, 1) := by decide +kernel
theorem dW_law_1352 : decode code 1352 = .ok (.bipush 51, 2) := by decide +kernel
theorem dW_law_1354 : decode code 1354 = .ok (.irem, 1) := by decide +kernel
theorem dW_law_1355 : decode code 1355 = .ok (.invokevirtual 142, 3) := by decide +kernel
theorem dW_law_1358 : decode code 1358 = .ok (.aload 7, 2) := by decide +kernel
theorem dW_law_1360 : decode code 1360 = .ok (.iload 19, 2) := by decide +kernel
theorem dW_law_1362 : decode code 1362 = .ok (.iaload, 1) := by decide +kernel
theorem dW_law_1363 : decode code 1363 = .ok (.if_icmp .ne 7, 3) := by decide +kernel
theorem dW_law_1366 : decode code 1366 = .ok (.iconst 1, 1) := by decide +kernel
theorem dW_law_1367 : decode code 1367 = .ok (.goto 4, 3) := by decide +kernel
theorem dW_law_1371 : decode code 1371 = .ok (.istore 9, 2) := by decide +kernel
theorem dW_law_1373 : decode code 1373 = .ok (.aload 7, 2) := by decide +kernel
theorem dW_law_1375 : decode code 1375 = .ok (.iload 19, 2) := by decide +kernel
theorem dW_law_1377 : decode code 1377 = .ok (.iload 13, 2) := by decide +kernel
theorem dW_law_1379 : decode code 1379 = .ok (.bipush 6, 2) := by decide +kernel
theorem dW_law_1381 : decode code 1381 = .ok (.idiv, 1) := by decide +kernel
theorem dW_law_1382 : decode code 1382 = .ok (.bipush 51, 2) := by decide +kernel
theorem dW_law_1384 : decode code 1384 = .ok (.irem, 1) := by decide +kernel
theorem dW_law_1385 : decode code 1385 = .ok (.iastore, 1) := by decide +kernel
theorem dW_law_1386 : decode code 1386 = .ok (.goto 114, 3) := by decide +kernel
theorem dW_law_1396 : decode code 1396 = .ok (.aload_n 1, 1) := by decide +kernel
theorem dW_law_1397 : decode code 1397 = .ok (.iload 13, 2) := by decide +kernel
theorem dW_law_1399 : decode code 1399 = .ok (.bipush 101, 2) := by decide +kernel
theorem dW_law_1401 : decode code 1401 = .ok (.irem, 1) := by decide +kernel
theorem dW_law_1402 : decode code 1402 = .ok (.invokevirtual 145, 3) := by decide +kernel
theorem dW_law_1405 : decode code 1405 = .ok (.aload_n 2, 1) := by decide +kernel
theorem dW_law_1406 : decode code 1406 = .ok (.iconst 3, 1) := by decide +kernel
theorem dW_law_1407 : decode code 1407 = .ok (.iaload, 1) := by decide +kernel
theorem dW_law_1408 : decode code 1408 = .ok (.if_icmp .ne 7, 3) := by decide +kernel
theorem dW_law_1411 : decode code 1411 = .ok (.iconst 1, 1) := by decide +kernel
theorem dW_law_1412 : decode code 1412 = .ok (.goto 4, 3) := by decide +kernel
theorem dW_law_1416 : decode code 1416 = .ok (.istore 9, 2) := by decide +kernel
theorem dW_law_1418 : decode code 1418 = .ok (.aload_n 2, 1) := by decide +kernel
theorem dW_law_1419 : decode code 1419 = .ok (.iconst 3, 1) := by decide +kernel
theorem dW_law_1420 : decode code 1420 = .ok (.iload 13, 2) := by decide +kernel
theorem dW_law_1422 : decode code 1422 = .ok (.bipush 101, 2) := by decide +kernel
theorem dW_law_1424 : decode code 1424 = .ok (.irem, 1) := by decide +kernel
theorem dW_law_1425 : decode code 1425 = .ok (.iastore, 1) := by decide +kernel
theorem dW_law_1426 : decode code 1426 = .ok (.goto 74, 3) := by decide +kernel
theorem dW_law_1429 : decode code 1429 = .ok (.iconst 1, 1) := by decide +kernel
theorem dW_law_1430 : decode code 1430 = .ok (.iload 13, 2) := by decide +kernel
theorem dW_law_1432 : decode code 1432 = .ok (.sipush 200, 3) := by decide +kernel
theorem dW_law_1435 : decode code 1435 = .ok (.irem, 1) := by decide +kernel
theorem dW_law_1436 : decode code 1436 = .ok (.iadd, 1) := by decide +kernel
theorem dW_law_1437 : decode code 1437 = .ok (.istore 19, 2) := by decide +kernel
theorem dW_law_1439 : decode code 1439 = .ok (.aload_n 2, 1) := by decide +kernel
theorem dW_law_1440 : decode code 1440 = .ok (.iconst 2, 1) := by decide +kernel
theorem dW_law_1441 : decode code 1441 = .ok (.dup2, 1) := by decide +kernel
theorem dW_law_1442 : decode code 1442 = .ok (.iaload, 1) := by decide +kernel
theorem dW_law_1443 : decode code 1443 = .ok (.iload 19, 2) := by decide +kernel
theorem dW_law_1445 : decode code 1445 = .ok (.iadd, 1) := by decide +kernel
theorem dW_law_1446 : decode code 1446 = .ok (.iastore, 1) := by decide +kernel
theorem dW_law_1447 : decode code 1447 = .ok (.aload_n 2, 1) := by decide +kernel
theorem dW_law_1448 : decode code 1448 = .ok (.iconst 2, 1) := by decide +kernel
theorem dW_law_1449 : decode code 1449 = .ok (.iaload, 1) := by decide +kernel
theorem dW_law_1450 : decode code 1450 = .ok (.sipush 7300, 3) := by decide +kernel
theorem dW_law_1453 : decode code 1453 = .ok (.if_icmp .gt 19, 3) := by decide +kernel
theorem dW_law_1456 : decode code 1456 = .ok (.aload_n 1, 1) := by decide +kernel
theorem dW_law_1457 : decode code 1457 = .ok (.bipush 9, 2) := by decide +kernel
theorem dW_law_1459 : decode code 1459 = .ok (.iload 19, 2) := by decide +kernel
theorem dW_law_1461 : decode code 1461 = .ok (.iconst 0, 1) := by decide +kernel
theorem dW_law_1462 : decode code 1462 = .ok (.iconst 0, 1) := by decide +kernel
theorem dW_law_1463 : decode code 1463 = .ok (.invokestatic 131, 3) := by decide +kernel
theorem dW_law_1466 : decode code 1466 = .ok (.aload_n 2, 1) := by decide +kernel
theorem dW_law_1467 : decode code 1467 = .ok (.iconst 2, 1) := by decide +kernel
theorem dW_law_1468 : decode code 1468 = .ok (.iaload, 1) := by decide +kernel
theorem dW_law_1469 : decode code 1469 = .ok (.if_icmp .ne 7, 3) := by decide +kernel
theorem dW_law_1472 : decode code 1472 = .ok (.iconst 1, 1) := by decide +kernel
theorem dW_law_1473 : decode code 1473 = .ok (.goto 4, 3) := by decide +kernel
theorem dW_law_1477 : decode code 1477 = .ok (.istore 9, 2) := by decide +kernel
theorem dW_law_1479 : decode code 1479 = .ok (.aload_n 2, 1) := by decide +kernel
theorem dW_law_1480 : decode code 1480 = .ok (.iconst 2, 1) := by decide +kernel
theorem dW_law_1481 : decode code 1481 = .ok (.dup2, 1) := by decide +kernel
theorem dW_law_1482 : decode code 1482 = .ok (.iaload, 1) := by decide +kernel
theorem dW_law_1483 : decode code 1483 = .ok (.aload_n 2, 1) := by decide +kernel
theorem dW_law_1484 : decode code 1484 = .ok (.iconst 2, 1) := by decide +kernel
theorem dW_law_1485 : decode code 1485 = .ok (.iaload, 1) := by decide +kernel
theorem dW_law_1486 : decode code 1486 = .ok (.sipush 7300, 3) := by decide +kernel
theorem dW_law_1489 : decode code 1489 = .ok (.if_icmp .le 8, 3) := by decide +kernel
theorem dW_law_1492 : decode code 1492 = .ok (.iload 19, 2) := by decide +kernel
theorem dW_law_1494 : decode code 1494 = .ok (.goto 4, 3) := by decide +kernel
theorem dW_law_1497 : decode code 1497 = .ok (.iconst 0, 1) := by decide +kernel
theorem dW_law_1498 : decode code 1498 = .ok (.isub, 1) := by decide +kernel
theorem dW_law_1499 : decode code 1499 = .ok (.iastore, 1) := by decide +kernel
