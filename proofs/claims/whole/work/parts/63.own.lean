def X_ISE : String := "java/lang/IllegalStateException"
def xNames_ISE : List String := ["java/lang/RuntimeException", "java/lang/Exception"]
theorem own_ISE {args : Array Value} {A : Nat → Prop} {U : State} (hT : ∀ w ∈ TB, w.before args U = true) (hE : gE A U U.heap) : ∀ w ∈ Bundle.ownAtoms "RungTouches" 198 X_ISE xNames_ISE, w.before args U = true := by
  obtain ⟨h1, h2, hX, -⟩ := hE
  simp only [Bundle.ownAtoms, Bundle.throwableAtoms, Bundle.throwableSAtoms, X_ISE, xNames_ISE, Bundle.chainSAtoms, Bundle.passSAtoms, List.cons_append, List.nil_append, List.append_nil]
  refine List.forall_mem_cons.mpr ⟨hT _ (tb_of 8 (by decide +kernel) rfl), ?_⟩
  refine List.forall_mem_cons.mpr ⟨hT _ (tb_of 408 (by decide +kernel) rfl), ?_⟩
  refine List.forall_mem_cons.mpr ⟨hT _ (tb_of 417 (by decide +kernel) rfl), ?_⟩
  refine List.forall_mem_cons.mpr ⟨hT _ (tb_of 421 (by decide +kernel) rfl), ?_⟩
  refine List.forall_mem_cons.mpr ⟨hT _ (tb_of 424 (by decide +kernel) rfl), ?_⟩
  refine List.forall_mem_cons.mpr ⟨hT _ (tb_of 426 (by decide +kernel) rfl), ?_⟩
  refine List.forall_mem_cons.mpr ⟨hT _ (tb_of 409 (by decide +kernel) rfl), ?_⟩
  refine List.forall_mem_cons.mpr ⟨hT _ (tb_of 410 (by decide +kernel) rfl), ?_⟩
  refine List.forall_mem_cons.mpr ⟨hT _ (tb_of 21 (by decide +kernel) rfl), ?_⟩
  refine List.forall_mem_cons.mpr ⟨hT _ (tb_of 22 (by decide +kernel) rfl), ?_⟩
  refine List.forall_mem_cons.mpr ⟨hT _ (tb_of 411 (by decide +kernel) rfl), ?_⟩
  refine List.forall_mem_cons.mpr ⟨hT _ (tb_of 416 (by decide +kernel) rfl), ?_⟩
  refine List.forall_mem_cons.mpr ⟨hT _ (tb_of 422 (by decide +kernel) rfl), ?_⟩
  refine List.forall_mem_cons.mpr ⟨hT _ (tb_of 442 (by decide +kernel) rfl), ?_⟩
  refine List.forall_mem_cons.mpr ⟨hT _ (tb_of 398 (by decide +kernel) rfl), ?_⟩
  refine List.forall_mem_cons.mpr ⟨hT _ (tb_of 443 (by decide +kernel) rfl), ?_⟩
  refine List.forall_mem_cons.mpr ⟨hT _ (tb_of 400 (by decide +kernel) rfl), ?_⟩
  refine List.forall_mem_cons.mpr ⟨hT _ (tb_of 444 (by decide +kernel) rfl), ?_⟩
  refine List.forall_mem_cons.mpr ⟨hT _ (tb_of 402 (by decide +kernel) rfl), ?_⟩
  refine List.forall_mem_cons.mpr ⟨hT _ (tb_of 412 (by decide +kernel) rfl), ?_⟩
  refine List.forall_mem_cons.mpr ⟨h1.lays, ?_⟩
  refine List.forall_mem_cons.mpr ⟨hT _ (tb_of 414 (by decide +kernel) rfl), ?_⟩
  refine List.forall_mem_cons.mpr ⟨h2.lays, ?_⟩
  refine List.forall_mem_cons.mpr ⟨hT _ (tb_of 404 (by decide +kernel) rfl), ?_⟩
  refine List.forall_mem_cons.mpr ⟨hT _ (tb_of 438 (by decide +kernel) rfl), ?_⟩
  refine List.forall_mem_cons.mpr ⟨hT _ (tb_of 439 (by decide +kernel) rfl), ?_⟩
  refine List.forall_mem_cons.mpr ⟨hT _ (tb_of 441 (by decide +kernel) rfl), ?_⟩
  refine List.forall_mem_cons.mpr ⟨hT _ (tb_of 404 (by decide +kernel) rfl), ?_⟩
  refine List.forall_mem_cons.mpr ⟨hT _ (tb_of 429 (by decide +kernel) rfl), ?_⟩
  refine List.forall_mem_cons.mpr ⟨hT _ (tb_of 430 (by decide +kernel) rfl), ?_⟩
  refine List.forall_mem_cons.mpr ⟨hT _ (tb_of 431 (by decide +kernel) rfl), ?_⟩
  refine List.forall_mem_cons.mpr ⟨hT _ (tb_of 432 (by decide +kernel) rfl), ?_⟩
  refine List.forall_mem_cons.mpr ⟨hX.use (List.mem_of_getElem? (i := 0) rfl), ?_⟩
  refine List.forall_mem_cons.mpr ⟨hT _ (tb_of 432 (by decide +kernel) rfl), ?_⟩
  refine List.forall_mem_cons.mpr ⟨hT _ (tb_of 433 (by decide +kernel) rfl), ?_⟩
  refine List.forall_mem_cons.mpr ⟨hT _ (tb_of 434 (by decide +kernel) rfl), ?_⟩
  refine List.forall_mem_cons.mpr ⟨hT _ (tb_of 435 (by decide +kernel) rfl), ?_⟩
  refine List.forall_mem_cons.mpr ⟨hX.use (List.mem_of_getElem? (i := 1) rfl), ?_⟩
  refine List.forall_mem_cons.mpr ⟨hT _ (tb_of 435 (by decide +kernel) rfl), ?_⟩
  refine List.forall_mem_cons.mpr ⟨hT _ (tb_of 436 (by decide +kernel) rfl), ?_⟩
  refine List.forall_mem_cons.mpr ⟨hT _ (tb_of 437 (by decide +kernel) rfl), ?_⟩
  refine List.forall_mem_cons.mpr ⟨hT _ (tb_of 438 (by decide +kernel) rfl), ?_⟩
  refine List.forall_mem_cons.mpr ⟨hX.use (List.mem_of_getElem? (i := 2) rfl), ?_⟩
  refine List.forall_mem_cons.mpr ⟨hT _ (tb_of 428 (by decide +kernel) rfl), ?_⟩
  refine List.forall_mem_cons.mpr ⟨hT _ (tb_of 387 (by decide +kernel) rfl), ?_⟩
  refine List.forall_mem_cons.mpr ⟨hX.use (List.mem_of_getElem? (i := 3) rfl), ?_⟩
  refine List.forall_mem_cons.mpr ⟨hT _ (tb_of 395 (by decide +kernel) rfl), ?_⟩
  refine List.forall_mem_cons.mpr ⟨hT _ (tb_of 396 (by decide +kernel) rfl), ?_⟩
  refine List.forall_mem_cons.mpr ⟨hT _ (tb_of 397 (by decide +kernel) rfl), ?_⟩
  refine List.forall_mem_cons.mpr ⟨hT _ (tb_of 399 (by decide +kernel) rfl), ?_⟩
  refine List.forall_mem_cons.mpr ⟨hT _ (tb_of 401 (by decide +kernel) rfl), ?_⟩
  refine List.forall_mem_cons.mpr ⟨hT _ (tb_of 403 (by decide +kernel) rfl), ?_⟩
  refine List.forall_mem_cons.mpr ⟨h1.ref, ?_⟩
  refine List.forall_mem_cons.mpr ⟨h2.ref, ?_⟩
  refine List.forall_mem_cons.mpr ⟨hT _ (tb_of 407 (by decide +kernel) rfl), ?_⟩
  refine List.forall_mem_cons.mpr ⟨hT _ (tb_of 406 (by decide +kernel) rfl), ?_⟩
  refine List.forall_mem_cons.mpr ⟨hT _ (tb_of 405 (by decide +kernel) rfl), ?_⟩
  exact fun _ h => by cases h
def X_IAE : String := "java/lang/IllegalArgumentException"
def xNames_IAE : List String := ["java/lang/RuntimeException", "java/lang/Exception"]
theorem own_IAE {args : Array Value} {A : Nat → Prop} {U : State} (hT : ∀ w ∈ TB, w.before args U = true) (hE : gE A U U.heap) : ∀ w ∈ Bundle.ownAtoms "RungTouches" 95 X_IAE xNames_IAE, w.before args U = true := by
  obtain ⟨h1, h2, hX, -⟩ := hE
  simp only [Bundle.ownAtoms, Bundle.throwableAtoms, Bundle.throwableSAtoms, X_IAE, xNames_IAE, Bundle.chainSAtoms, Bundle.passSAtoms, List.cons_append, List.nil_append, List.append_nil]
  refine List.forall_mem_cons.mpr ⟨hT _ (tb_of 8 (by decide +kernel) rfl), ?_⟩
  refine List.forall_mem_cons.mpr ⟨hT _ (tb_of 408 (by decide +kernel) rfl), ?_⟩
  refine List.forall_mem_cons.mpr ⟨hT _ (tb_of 417 (by decide +kernel) rfl), ?_⟩
  refine List.forall_mem_cons.mpr ⟨hT _ (tb_of 421 (by decide +kernel) rfl), ?_⟩
  refine List.forall_mem_cons.mpr ⟨hT _ (tb_of 424 (by decide +kernel) rfl), ?_⟩
  refine List.forall_mem_cons.mpr ⟨hT _ (tb_of 426 (by decide +kernel) rfl), ?_⟩
  refine List.forall_mem_cons.mpr ⟨hT _ (tb_of 409 (by decide +kernel) rfl), ?_⟩
  refine List.forall_mem_cons.mpr ⟨hT _ (tb_of 410 (by decide +kernel) rfl), ?_⟩
  refine List.forall_mem_cons.mpr ⟨hT _ (tb_of 21 (by decide +kernel) rfl), ?_⟩
  refine List.forall_mem_cons.mpr ⟨hT _ (tb_of 22 (by decide +kernel) rfl), ?_⟩
  refine List.forall_mem_cons.mpr ⟨hT _ (tb_of 411 (by decide +kernel) rfl), ?_⟩
  refine List.forall_mem_cons.mpr ⟨hT _ (tb_of 416 (by decide +kernel) rfl), ?_⟩
  refine List.forall_mem_cons.mpr ⟨hT _ (tb_of 422 (by decide +kernel) rfl), ?_⟩
  refine List.forall_mem_cons.mpr ⟨hT _ (tb_of 442 (by decide +kernel) rfl), ?_⟩
  refine List.forall_mem_cons.mpr ⟨hT _ (tb_of 398 (by decide +kernel) rfl), ?_⟩
  refine List.forall_mem_cons.mpr ⟨hT _ (tb_of 443 (by decide +kernel) rfl), ?_⟩
  refine List.forall_mem_cons.mpr ⟨hT _ (tb_of 400 (by decide +kernel) rfl), ?_⟩
  refine List.forall_mem_cons.mpr ⟨hT _ (tb_of 444 (by decide +kernel) rfl), ?_⟩
  refine List.forall_mem_cons.mpr ⟨hT _ (tb_of 402 (by decide +kernel) rfl), ?_⟩
  refine List.forall_mem_cons.mpr ⟨hT _ (tb_of 412 (by decide +kernel) rfl), ?_⟩
  refine List.forall_mem_cons.mpr ⟨h1.lays, ?_⟩
  refine List.forall_mem_cons.mpr ⟨hT _ (tb_of 414 (by decide +kernel) rfl), ?_⟩
  refine List.forall_mem_cons.mpr ⟨h2.lays, ?_⟩
  refine List.forall_mem_cons.mpr ⟨hT _ (tb_of 404 (by decide +kernel) rfl), ?_⟩
  refine List.forall_mem_cons.mpr ⟨hT _ (tb_of 438 (by decide +kernel) rfl), ?_⟩
  refine List.forall_mem_cons.mpr ⟨hT _ (tb_of 439 (by decide +kernel) rfl), ?_⟩
  refine List.forall_mem_cons.mpr ⟨hT _ (tb_of 441 (by decide +kernel) rfl), ?_⟩
  refine List.forall_mem_cons.mpr ⟨hT _ (tb_of 404 (by decide +kernel) rfl), ?_⟩
  refine List.forall_mem_cons.mpr ⟨hT _ (tb_of 465 (by decide +kernel) rfl), ?_⟩
  refine List.forall_mem_cons.mpr ⟨hT _ (tb_of 466 (by decide +kernel) rfl), ?_⟩
  refine List.forall_mem_cons.mpr ⟨hT _ (tb_of 467 (by decide +kernel) rfl), ?_⟩
  refine List.forall_mem_cons.mpr ⟨hT _ (tb_of 432 (by decide +kernel) rfl), ?_⟩
  refine List.forall_mem_cons.mpr ⟨hX.use (List.mem_of_getElem? (i := 0) rfl), ?_⟩
  refine List.forall_mem_cons.mpr ⟨hT _ (tb_of 432 (by decide +kernel) rfl), ?_⟩
  refine List.forall_mem_cons.mpr ⟨hT _ (tb_of 433 (by decide +kernel) rfl), ?_⟩
  refine List.forall_mem_cons.mpr ⟨hT _ (tb_of 434 (by decide +kernel) rfl), ?_⟩
  refine List.forall_mem_cons.mpr ⟨hT _ (tb_of 435 (by decide +kernel) rfl), ?_⟩
  refine List.forall_mem_cons.mpr ⟨hX.use (List.mem_of_getElem? (i := 1) rfl), ?_⟩
  refine List.forall_mem_cons.mpr ⟨hT _ (tb_of 435 (by decide +kernel) rfl), ?_⟩
  refine List.forall_mem_cons.mpr ⟨hT _ (tb_of 436 (by decide +kernel) rfl), ?_⟩
  refine List.forall_mem_cons.mpr ⟨hT _ (tb_of 437 (by decide +kernel) rfl), ?_⟩
  refine List.forall_mem_cons.mpr ⟨hT _ (tb_of 438 (by decide +kernel) rfl), ?_⟩
  refine List.forall_mem_cons.mpr ⟨hX.use (List.mem_of_getElem? (i := 2) rfl), ?_⟩
  refine List.forall_mem_cons.mpr ⟨hT _ (tb_of 464 (by decide +kernel) rfl), ?_⟩
  refine List.forall_mem_cons.mpr ⟨hT _ (tb_of 455 (by decide +kernel) rfl), ?_⟩
  refine List.forall_mem_cons.mpr ⟨hX.use (List.mem_of_getElem? (i := 4) rfl), ?_⟩
  refine List.forall_mem_cons.mpr ⟨hT _ (tb_of 457 (by decide +kernel) rfl), ?_⟩
  refine List.forall_mem_cons.mpr ⟨hT _ (tb_of 419 (by decide +kernel) rfl), ?_⟩
  refine List.forall_mem_cons.mpr ⟨hT _ (tb_of 458 (by decide +kernel) rfl), ?_⟩
  refine List.forall_mem_cons.mpr ⟨hT _ (tb_of 459 (by decide +kernel) rfl), ?_⟩
  refine List.forall_mem_cons.mpr ⟨hT _ (tb_of 460 (by decide +kernel) rfl), ?_⟩
  refine List.forall_mem_cons.mpr ⟨hT _ (tb_of 461 (by decide +kernel) rfl), ?_⟩
  refine List.forall_mem_cons.mpr ⟨h1.ref, ?_⟩
  refine List.forall_mem_cons.mpr ⟨h2.ref, ?_⟩
  refine List.forall_mem_cons.mpr ⟨hT _ (tb_of 407 (by decide +kernel) rfl), ?_⟩
  refine List.forall_mem_cons.mpr ⟨hT _ (tb_of 406 (by decide +kernel) rfl), ?_⟩
  refine List.forall_mem_cons.mpr ⟨hT _ (tb_of 462 (by decide +kernel) rfl), ?_⟩
  exact fun _ h => by cases h
def X_UOE : String := "java/lang/UnsupportedOperationException"
def xNames_UOE : List String := ["java/lang/RuntimeException", "java/lang/Exception"]
theorem own_UOE {args : Array Value} {A : Nat → Prop} {U : State} (hT : ∀ w ∈ TB, w.before args U = true) (hE : gE A U U.heap) : ∀ w ∈ Bundle.ownAtoms "RungTouches" 102 X_UOE xNames_UOE, w.before args U = true := by
  obtain ⟨h1, h2, hX, -⟩ := hE
  simp only [Bundle.ownAtoms, Bundle.throwableAtoms, Bundle.throwableSAtoms, X_UOE, xNames_UOE, Bundle.chainSAtoms, Bundle.passSAtoms, List.cons_append, List.nil_append, List.append_nil]
  refine List.forall_mem_cons.mpr ⟨hT _ (tb_of 8 (by decide +kernel) rfl), ?_⟩
  refine List.forall_mem_cons.mpr ⟨hT _ (tb_of 408 (by decide +kernel) rfl), ?_⟩
  refine List.forall_mem_cons.mpr ⟨hT _ (tb_of 417 (by decide +kernel) rfl), ?_⟩
  refine List.forall_mem_cons.mpr ⟨hT _ (tb_of 421 (by decide +kernel) rfl), ?_⟩
  refine List.forall_mem_cons.mpr ⟨hT _ (tb_of 424 (by decide +kernel) rfl), ?_⟩
  refine List.forall_mem_cons.mpr ⟨hT _ (tb_of 426 (by decide +kernel) rfl), ?_⟩
  refine List.forall_mem_cons.mpr ⟨hT _ (tb_of 409 (by decide +kernel) rfl), ?_⟩
  refine List.forall_mem_cons.mpr ⟨hT _ (tb_of 410 (by decide +kernel) rfl), ?_⟩
  refine List.forall_mem_cons.mpr ⟨hT _ (tb_of 21 (by decide +kernel) rfl), ?_⟩
  refine List.forall_mem_cons.mpr ⟨hT _ (tb_of 22 (by decide +kernel) rfl), ?_⟩
  refine List.forall_mem_cons.mpr ⟨hT _ (tb_of 411 (by decide +kernel) rfl), ?_⟩
  refine List.forall_mem_cons.mpr ⟨hT _ (tb_of 416 (by decide +kernel) rfl), ?_⟩
  refine List.forall_mem_cons.mpr ⟨hT _ (tb_of 422 (by decide +kernel) rfl), ?_⟩
  refine List.forall_mem_cons.mpr ⟨hT _ (tb_of 442 (by decide +kernel) rfl), ?_⟩
  refine List.forall_mem_cons.mpr ⟨hT _ (tb_of 398 (by decide +kernel) rfl), ?_⟩
  refine List.forall_mem_cons.mpr ⟨hT _ (tb_of 443 (by decide +kernel) rfl), ?_⟩
  refine List.forall_mem_cons.mpr ⟨hT _ (tb_of 400 (by decide +kernel) rfl), ?_⟩
  refine List.forall_mem_cons.mpr ⟨hT _ (tb_of 444 (by decide +kernel) rfl), ?_⟩
  refine List.forall_mem_cons.mpr ⟨hT _ (tb_of 402 (by decide +kernel) rfl), ?_⟩
  refine List.forall_mem_cons.mpr ⟨hT _ (tb_of 412 (by decide +kernel) rfl), ?_⟩
  refine List.forall_mem_cons.mpr ⟨h1.lays, ?_⟩
  refine List.forall_mem_cons.mpr ⟨hT _ (tb_of 414 (by decide +kernel) rfl), ?_⟩
  refine List.forall_mem_cons.mpr ⟨h2.lays, ?_⟩
  refine List.forall_mem_cons.mpr ⟨hT _ (tb_of 404 (by decide +kernel) rfl), ?_⟩
  refine List.forall_mem_cons.mpr ⟨hT _ (tb_of 438 (by decide +kernel) rfl), ?_⟩
  refine List.forall_mem_cons.mpr ⟨hT _ (tb_of 439 (by decide +kernel) rfl), ?_⟩
  refine List.forall_mem_cons.mpr ⟨hT _ (tb_of 441 (by decide +kernel) rfl), ?_⟩
  refine List.forall_mem_cons.mpr ⟨hT _ (tb_of 404 (by decide +kernel) rfl), ?_⟩
  refine List.forall_mem_cons.mpr ⟨hT _ (tb_of 481 (by decide +kernel) rfl), ?_⟩
  refine List.forall_mem_cons.mpr ⟨hT _ (tb_of 482 (by decide +kernel) rfl), ?_⟩
  refine List.forall_mem_cons.mpr ⟨hT _ (tb_of 483 (by decide +kernel) rfl), ?_⟩
  refine List.forall_mem_cons.mpr ⟨hT _ (tb_of 432 (by decide +kernel) rfl), ?_⟩
  refine List.forall_mem_cons.mpr ⟨hX.use (List.mem_of_getElem? (i := 0) rfl), ?_⟩
  refine List.forall_mem_cons.mpr ⟨hT _ (tb_of 432 (by decide +kernel) rfl), ?_⟩
  refine List.forall_mem_cons.mpr ⟨hT _ (tb_of 433 (by decide +kernel) rfl), ?_⟩
  refine List.forall_mem_cons.mpr ⟨hT _ (tb_of 434 (by decide +kernel) rfl), ?_⟩
  refine List.forall_mem_cons.mpr ⟨hT _ (tb_of 435 (by decide +kernel) rfl), ?_⟩
  refine List.forall_mem_cons.mpr ⟨hX.use (List.mem_of_getElem? (i := 1) rfl), ?_⟩
  refine List.forall_mem_cons.mpr ⟨hT _ (tb_of 435 (by decide +kernel) rfl), ?_⟩
  refine List.forall_mem_cons.mpr ⟨hT _ (tb_of 436 (by decide +kernel) rfl), ?_⟩
  refine List.forall_mem_cons.mpr ⟨hT _ (tb_of 437 (by decide +kernel) rfl), ?_⟩
  refine List.forall_mem_cons.mpr ⟨hT _ (tb_of 438 (by decide +kernel) rfl), ?_⟩
  refine List.forall_mem_cons.mpr ⟨hX.use (List.mem_of_getElem? (i := 2) rfl), ?_⟩
  refine List.forall_mem_cons.mpr ⟨hT _ (tb_of 480 (by decide +kernel) rfl), ?_⟩
  refine List.forall_mem_cons.mpr ⟨hT _ (tb_of 471 (by decide +kernel) rfl), ?_⟩
  refine List.forall_mem_cons.mpr ⟨hX.use (List.mem_of_getElem? (i := 5) rfl), ?_⟩
  refine List.forall_mem_cons.mpr ⟨hT _ (tb_of 473 (by decide +kernel) rfl), ?_⟩
  refine List.forall_mem_cons.mpr ⟨hT _ (tb_of 420 (by decide +kernel) rfl), ?_⟩
  refine List.forall_mem_cons.mpr ⟨hT _ (tb_of 474 (by decide +kernel) rfl), ?_⟩
  refine List.forall_mem_cons.mpr ⟨hT _ (tb_of 475 (by decide +kernel) rfl), ?_⟩
  refine List.forall_mem_cons.mpr ⟨hT _ (tb_of 476 (by decide +kernel) rfl), ?_⟩
  refine List.forall_mem_cons.mpr ⟨hT _ (tb_of 477 (by decide +kernel) rfl), ?_⟩
  refine List.forall_mem_cons.mpr ⟨h1.ref, ?_⟩
  refine List.forall_mem_cons.mpr ⟨h2.ref, ?_⟩
  refine List.forall_mem_cons.mpr ⟨hT _ (tb_of 407 (by decide +kernel) rfl), ?_⟩
  refine List.forall_mem_cons.mpr ⟨hT _ (tb_of 406 (by decide +kernel) rfl), ?_⟩
  refine List.forall_mem_cons.mpr ⟨hT _ (tb_of 478 (by decide +kernel) rfl), ?_⟩
  exact fun _ h => by cases h
