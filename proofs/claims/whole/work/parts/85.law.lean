/-! THE CLAIM OUT OF ONE WALK OF THE LAW'S BODY. Your part is whole_start (and what it stands on); all else here is the same for every law, but numbers. -/
def R_law : String := "LighthouseLiedToLaw"
def lw_P (b : Addr) (xs : List Int32) (args : Array Value) (s : State) : Prop := args = #[.ref b] ∧ s.IntsAt b xs ∧ xs.length ≤ 3584 ∧ (Jvm.Cond.and given_1 narrow_1).before args s = true
def lw_Q (_ : Array Value) (s : State) (o : Outcome) (t : State) : Prop := o = .returned (some (.int 1)) ∧ Framed s o t [] 600000 7302250
def lw_Z (below : List Frame) (a : Array Value) (s : State) : State → Prop := fun t => ∃ o, t.status = .running ∧ Ended t below o ∧ lw_Q a s o t
/-- the law's own end, with 1 on the stack, nothing written that was there before, its room as the claim has it -/
theorem lw_ret {p : Program} {l : Launch} {e : Env} {s : State} {m : MethodId} {below : List Frame} {meth : Method} {c : Code} {b : Nat} (hx : p.tables.exec = Jvm.exec) (hb : c.code = code) (hr : meth.sig.returnType = ret) (hlocks : meth.locks = false) {pc : Nat} {H : Heap} {ls : Array Slot} (hdg : decode code pc = .ok (.ireturn, 1)) : W p l e room_1 s m #[Value.ref b] below meth c H [] 600000 7302250 (lw_Z below #[Value.ref b] s) (F0 m pc ls [.int 1]) := by
  intro T hT X
  obtain ⟨fs, hret, hrun, hended, hW, hframe⟩ := X.leave (v := some (.int 1)) (hlocks := hlocks) (fun h => by rw [hr] at h; cases h)
  have hmeth' : T.vm.method? m = some meth := X.method'
  refine ⟨T.setFrames fs, ?_, .returned (some (.int 1)), hrun, hended, rfl, ⟨_, rfl⟩, hW, hframe⟩
  jvm_step X.here [X.here.top, hx, hb, hdg, hmeth', hr, ret, narrow_b1]
  (try refine ⟨rfl, ?_⟩); (try refine ⟨rfl, ?_⟩)
  first | (intro acts; rw [hret _ acts rfl rfl rfl]) | rw [hret _ _ rfl rfl rfl]
  exact Steps.refl _
/-- what holds at the law's entry: the machine, the code, the tables' words (any of lw_tbl by 'hts w (by decide +kernel)'), the script of L ints xs at the cell b, what the Statement gives of the start (any of its parts by flat_of_before) -/
def lw_At (p : Program) (s : State) (m : MethodId) (meth : Method) (c : Code) (b L : Nat) (xs : Nat → Int32) : Prop :=
  p.tables.exec = Jvm.exec ∧ c.code = code ∧ meth.sig.returnType = ret ∧ c.maxLocals = 4 ∧ s.vm.findClass R_law = some m.cls ∧ (∀ w ∈ lw_tbl, w.before #[Value.ref b] s = true) ∧ va_X b L xs s s.heap ∧ b < s.heap.size ∧ meth.locks = false ∧ (Jvm.Cond.and given_1 narrow_1).before #[Value.ref b] s = true
set_option maxRecDepth 100000 in
theorem q_357 : Cond.methodLink RL 13 yX4_count ∈ tb := tb_mem 357 rfl rfl
set_option maxRecDepth 100000 in
theorem q_358 : Cond.instanceMethod yX4_count ∈ tb := tb_mem 358 rfl rfl
set_option maxRecDepth 100000 in
theorem q_359 : Cond.selects RX4 yX4_count yX4_count ∈ tb := tb_mem 359 rfl rfl
set_option maxRecDepth 100000 in
theorem q_360 : Cond.code yX4_count cX4_count 2 (some .int) ∈ tb := tb_mem 360 rfl rfl
set_option maxRecDepth 100000 in
theorem q_377 : Cond.methodLink RL 18 yX4_rock ∈ tb := tb_mem 377 rfl rfl
set_option maxRecDepth 100000 in
theorem q_378 : Cond.instanceMethod yX4_rock ∈ tb := tb_mem 378 rfl rfl
set_option maxRecDepth 100000 in
theorem q_379 : Cond.selects RX4 yX4_rock yX4_rock ∈ tb := tb_mem 379 rfl rfl
set_option maxRecDepth 100000 in
theorem q_380 : Cond.code yX4_rock cX4_rock 4 (some .int) ∈ tb := tb_mem 380 rfl rfl
set_option maxRecDepth 100000 in
theorem q_392 : Cond.methodLink RL 23 yX4_tell ∈ tb := tb_mem 392 rfl rfl
set_option maxRecDepth 100000 in
theorem q_393 : Cond.instanceMethod yX4_tell ∈ tb := tb_mem 393 rfl rfl
set_option maxRecDepth 100000 in
theorem q_394 : Cond.selects RX4 yX4_tell yX4_tell ∈ tb := tb_mem 394 rfl rfl
set_option maxRecDepth 100000 in
theorem q_395 : Cond.code yX4_tell cX4_tell 3 (some .int) ∈ tb := tb_mem 395 rfl rfl
set_option maxRecDepth 100000 in
theorem q_406 : Cond.methodLink RL 27 yX4_believes ∈ tb := tb_mem 406 rfl rfl
set_option maxRecDepth 100000 in
theorem q_407 : Cond.instanceMethod yX4_believes ∈ tb := tb_mem 407 rfl rfl
set_option maxRecDepth 100000 in
theorem q_408 : Cond.selects RX4 yX4_believes yX4_believes ∈ tb := tb_mem 408 rfl rfl
set_option maxRecDepth 100000 in
theorem q_409 : Cond.code yX4_believes cX4_believes 2 (some .int) ∈ tb := tb_mem 409 rfl rfl
set_option maxRecDepth 100000 in
theorem q_410 : Cond.methodLink RL 31 yX4_doubts ∈ tb := tb_mem 410 rfl rfl
set_option maxRecDepth 100000 in
theorem q_411 : Cond.instanceMethod yX4_doubts ∈ tb := tb_mem 411 rfl rfl
set_option maxRecDepth 100000 in
theorem q_412 : Cond.selects RX4 yX4_doubts yX4_doubts ∈ tb := tb_mem 412 rfl rfl
set_option maxRecDepth 100000 in
theorem q_413 : Cond.code yX4_doubts cX4_doubts 3 (some .int) ∈ tb := tb_mem 413 rfl rfl
set_option maxRecDepth 100000 in
theorem q_414 : Cond.methodLink RL 35 yX4_feed ∈ tb := tb_mem 414 rfl rfl
set_option maxRecDepth 100000 in
theorem q_415 : Cond.instanceMethod yX4_feed ∈ tb := tb_mem 415 rfl rfl
set_option maxRecDepth 100000 in
theorem q_416 : Cond.selects RX4 yX4_feed yX4_feed ∈ tb := tb_mem 416 rfl rfl
set_option maxRecDepth 100000 in
theorem q_417 : Cond.code yX4_feed cX4_feed 8 (some .int) ∈ tb := tb_mem 417 rfl rfl
set_option maxRecDepth 100000 in
theorem q_421 : Cond.methodLink RL 40 yX4_text ∈ tb := tb_mem 421 rfl rfl
set_option maxRecDepth 100000 in
theorem q_422 : Cond.instanceMethod yX4_text ∈ tb := tb_mem 422 rfl rfl
set_option maxRecDepth 100000 in
theorem q_423 : Cond.selects RX4 yX4_text yX4_text ∈ tb := tb_mem 423 rfl rfl
set_option maxRecDepth 100000 in
theorem q_424 : Cond.code yX4_text cX4_text 2 (some .int) ∈ tb := tb_mem 424 rfl rfl
set_option maxRecDepth 100000 in
theorem q_425 : Cond.methodLink RL 45 yX4_force ∈ tb := tb_mem 425 rfl rfl
set_option maxRecDepth 100000 in
theorem q_426 : Cond.instanceMethod yX4_force ∈ tb := tb_mem 426 rfl rfl
set_option maxRecDepth 100000 in
theorem q_427 : Cond.selects RX4 yX4_force yX4_force ∈ tb := tb_mem 427 rfl rfl
set_option maxRecDepth 100000 in
theorem q_428 : Cond.code yX4_force cX4_force 3 (some .int) ∈ tb := tb_mem 428 rfl rfl
set_option maxRecDepth 100000 in
theorem q_429 : Cond.methodLink RL 49 yX4_asks ∈ tb := tb_mem 429 rfl rfl
set_option maxRecDepth 100000 in
theorem q_430 : Cond.instanceMethod yX4_asks ∈ tb := tb_mem 430 rfl rfl
set_option maxRecDepth 100000 in
theorem q_431 : Cond.selects RX4 yX4_asks yX4_asks ∈ tb := tb_mem 431 rfl rfl
set_option maxRecDepth 100000 in
theorem q_432 : Cond.code yX4_asks cX4_asks 4 (some .int) ∈ tb := tb_mem 432 rfl rfl
set_option maxRecDepth 100000 in
theorem q_451 : Cond.methodLink RL 54 yX4_ship ∈ tb := tb_mem 451 rfl rfl
set_option maxRecDepth 100000 in
theorem q_459 : Cond.methodLink RL 58 yX4_put ∈ tb := tb_mem 459 rfl rfl
set_option maxRecDepth 100000 in
theorem q_460 : Cond.instanceMethod yX4_put ∈ tb := tb_mem 460 rfl rfl
set_option maxRecDepth 100000 in
theorem q_461 : Cond.selects RX4 yX4_put yX4_put ∈ tb := tb_mem 461 rfl rfl
set_option maxRecDepth 100000 in
theorem q_462 : Cond.code yX4_put cX4_put 6 (some .int) ∈ tb := tb_mem 462 rfl rfl
set_option maxRecDepth 100000 in
theorem q_463 : Cond.methodLink RL 62 yX4_told ∈ tb := tb_mem 463 rfl rfl
set_option maxRecDepth 100000 in
theorem q_464 : Cond.instanceMethod yX4_told ∈ tb := tb_mem 464 rfl rfl
set_option maxRecDepth 100000 in
theorem q_465 : Cond.selects RX4 yX4_told yX4_told ∈ tb := tb_mem 465 rfl rfl
set_option maxRecDepth 100000 in
theorem q_466 : Cond.code yX4_told cX4_told 3 (some .int) ∈ tb := tb_mem 466 rfl rfl
set_option maxRecDepth 100000 in
theorem q_487 : Cond.methodLink RL 66 yX4_likes ∈ tb := tb_mem 487 rfl rfl
set_option maxRecDepth 100000 in
theorem q_488 : Cond.instanceMethod yX4_likes ∈ tb := tb_mem 488 rfl rfl
set_option maxRecDepth 100000 in
theorem q_489 : Cond.selects RX4 yX4_likes yX4_likes ∈ tb := tb_mem 489 rfl rfl
set_option maxRecDepth 100000 in
theorem q_490 : Cond.code yX4_likes cX4_likes 3 (some .int) ∈ tb := tb_mem 490 rfl rfl
set_option maxRecDepth 100000 in
theorem q_493 : Cond.methodLink RL 70 yX4_night ∈ tb := tb_mem 493 rfl rfl
set_option maxRecDepth 100000 in
theorem q_494 : Cond.instanceMethod yX4_night ∈ tb := tb_mem 494 rfl rfl
set_option maxRecDepth 100000 in
theorem q_495 : Cond.selects RX4 yX4_night yX4_night ∈ tb := tb_mem 495 rfl rfl
set_option maxRecDepth 100000 in
theorem q_496 : Cond.code yX4_night cX4_night 2 (some .int) ∈ tb := tb_mem 496 rfl rfl
set_option maxRecDepth 100000 in
theorem q_513 : Cond.methodLink RL 74 yX4_run ∈ tb := tb_mem 513 rfl rfl
set_option maxRecDepth 100000 in
theorem q_514 : Cond.instanceMethod yX4_run ∈ tb := tb_mem 514 rfl rfl
set_option maxRecDepth 100000 in
theorem q_515 : Cond.selects RX4 yX4_run yX4_run ∈ tb := tb_mem 515 rfl rfl
set_option maxRecDepth 100000 in
theorem q_516 : Cond.code yX4_run cX4_run 4 (some .int) ∈ tb := tb_mem 516 rfl rfl
set_option maxRecDepth 100000 in
theorem q_538 : Cond.methodLink RL 78 yX4_lostBy ∈ tb := tb_mem 538 rfl rfl
set_option maxRecDepth 100000 in
theorem q_539 : Cond.instanceMethod yX4_lostBy ∈ tb := tb_mem 539 rfl rfl
set_option maxRecDepth 100000 in
theorem q_540 : Cond.selects RX4 yX4_lostBy yX4_lostBy ∈ tb := tb_mem 540 rfl rfl
set_option maxRecDepth 100000 in
theorem q_541 : Cond.code yX4_lostBy cX4_lostBy 4 (some .int) ∈ tb := tb_mem 541 rfl rfl
set_option maxRecDepth 100000 in
theorem q_542 : Cond.methodLink RL 82 yX4_track ∈ tb := tb_mem 542 rfl rfl
set_option maxRecDepth 100000 in
theorem q_543 : Cond.instanceMethod yX4_track ∈ tb := tb_mem 543 rfl rfl
set_option maxRecDepth 100000 in
theorem q_544 : Cond.selects RX4 yX4_track yX4_track ∈ tb := tb_mem 544 rfl rfl
set_option maxRecDepth 100000 in
theorem q_545 : Cond.code yX4_track cX4_track 6 (some .long) ∈ tb := tb_mem 545 rfl rfl
set_option maxRecDepth 100000 in
theorem q_547 : Cond.methodLink RL 87 yX4_sea ∈ tb := tb_mem 547 rfl rfl
set_option maxRecDepth 100000 in
theorem q_548 : Cond.instanceMethod yX4_sea ∈ tb := tb_mem 548 rfl rfl
set_option maxRecDepth 100000 in
theorem q_549 : Cond.selects RX4 yX4_sea yX4_sea ∈ tb := tb_mem 549 rfl rfl
set_option maxRecDepth 100000 in
theorem q_550 : Cond.code yX4_sea cX4_sea 2 (some .long) ∈ tb := tb_mem 550 rfl rfl
set_option maxRecDepth 100000 in
theorem q_559 : Cond.methodLink RL 92 yX4_lie ∈ tb := tb_mem 559 rfl rfl
set_option maxRecDepth 100000 in
theorem q_560 : Cond.instanceMethod yX4_lie ∈ tb := tb_mem 560 rfl rfl
set_option maxRecDepth 100000 in
theorem q_561 : Cond.selects RX4 yX4_lie yX4_lie ∈ tb := tb_mem 561 rfl rfl
set_option maxRecDepth 100000 in
theorem q_562 : Cond.code yX4_lie cX4_lie 8 (some .int) ∈ tb := tb_mem 562 rfl rfl
set_option maxRecDepth 100000 in
theorem q_563 : Cond.methodLink RL 96 yX4_blow ∈ tb := tb_mem 563 rfl rfl
set_option maxRecDepth 100000 in
theorem q_564 : Cond.instanceMethod yX4_blow ∈ tb := tb_mem 564 rfl rfl
set_option maxRecDepth 100000 in
theorem q_565 : Cond.selects RX4 yX4_blow yX4_blow ∈ tb := tb_mem 565 rfl rfl
set_option maxRecDepth 100000 in
theorem q_566 : Cond.code yX4_blow cX4_blow 7 (some .int) ∈ tb := tb_mem 566 rfl rfl
set_option maxRecDepth 100000 in
theorem q_567 : Cond.methodLink RL 100 yX4_safe ∈ tb := tb_mem 567 rfl rfl
set_option maxRecDepth 100000 in
theorem q_568 : Cond.instanceMethod yX4_safe ∈ tb := tb_mem 568 rfl rfl
set_option maxRecDepth 100000 in
theorem q_569 : Cond.selects RX4 yX4_safe yX4_safe ∈ tb := tb_mem 569 rfl rfl
set_option maxRecDepth 100000 in
theorem q_570 : Cond.code yX4_safe cX4_safe 6 (some .long) ∈ tb := tb_mem 570 rfl rfl
set_option maxRecDepth 100000 in
theorem q_571 : Cond.methodLink RL 104 yX4_trust ∈ tb := tb_mem 571 rfl rfl
set_option maxRecDepth 100000 in
theorem q_572 : Cond.instanceMethod yX4_trust ∈ tb := tb_mem 572 rfl rfl
set_option maxRecDepth 100000 in
theorem q_573 : Cond.selects RX4 yX4_trust yX4_trust ∈ tb := tb_mem 573 rfl rfl
set_option maxRecDepth 100000 in
theorem q_574 : Cond.code yX4_trust cX4_trust 5 (some .int) ∈ tb := tb_mem 574 rfl rfl
set_option maxRecDepth 100000 in
theorem q_575 : Cond.methodLink RL 108 yX4_truth ∈ tb := tb_mem 575 rfl rfl
set_option maxRecDepth 100000 in
theorem q_576 : Cond.instanceMethod yX4_truth ∈ tb := tb_mem 576 rfl rfl
set_option maxRecDepth 100000 in
theorem q_577 : Cond.selects RX4 yX4_truth yX4_truth ∈ tb := tb_mem 577 rfl rfl
set_option maxRecDepth 100000 in
theorem q_578 : Cond.code yX4_truth cX4_truth 2 (some .long) ∈ tb := tb_mem 578 rfl rfl
set_option maxRecDepth 100000 in
theorem q_589 : Cond.methodLink RL 112 yX4_judge ∈ tb := tb_mem 589 rfl rfl
set_option maxRecDepth 100000 in
theorem q_590 : Cond.instanceMethod yX4_judge ∈ tb := tb_mem 590 rfl rfl
set_option maxRecDepth 100000 in
theorem q_591 : Cond.selects RX4 yX4_judge yX4_judge ∈ tb := tb_mem 591 rfl rfl
set_option maxRecDepth 100000 in
theorem q_592 : Cond.code yX4_judge cX4_judge 4 (some .int) ∈ tb := tb_mem 592 rfl rfl
set_option maxRecDepth 100000 in
theorem q_608 : Cond.methodLink RL 116 yX4_kinds ∈ tb := tb_mem 608 rfl rfl
set_option maxRecDepth 100000 in
theorem q_609 : Cond.instanceMethod yX4_kinds ∈ tb := tb_mem 609 rfl rfl
set_option maxRecDepth 100000 in
theorem q_610 : Cond.selects RX4 yX4_kinds yX4_kinds ∈ tb := tb_mem 610 rfl rfl
set_option maxRecDepth 100000 in
theorem q_611 : Cond.code yX4_kinds cX4_kinds 9 (some .int) ∈ tb := tb_mem 611 rfl rfl
set_option maxRecDepth 100000 in
theorem q_612 : Cond.methodLink RL 120 yX4_places ∈ tb := tb_mem 612 rfl rfl
set_option maxRecDepth 100000 in
theorem q_613 : Cond.instanceMethod yX4_places ∈ tb := tb_mem 613 rfl rfl
set_option maxRecDepth 100000 in
theorem q_614 : Cond.selects RX4 yX4_places yX4_places ∈ tb := tb_mem 614 rfl rfl
set_option maxRecDepth 100000 in
theorem q_615 : Cond.code yX4_places cX4_places 6 (some .long) ∈ tb := tb_mem 615 rfl rfl
set_option maxRecDepth 100000 in
theorem q_616 : Cond.methodLink RL 124 yX4_draughts ∈ tb := tb_mem 616 rfl rfl
set_option maxRecDepth 100000 in
theorem q_617 : Cond.instanceMethod yX4_draughts ∈ tb := tb_mem 617 rfl rfl
set_option maxRecDepth 100000 in
theorem q_618 : Cond.selects RX4 yX4_draughts yX4_draughts ∈ tb := tb_mem 618 rfl rfl
set_option maxRecDepth 100000 in
theorem q_619 : Cond.code yX4_draughts cX4_draughts 8 (some .int) ∈ tb := tb_mem 619 rfl rfl
set_option maxRecDepth 100000 in
theorem q_620 : Cond.methodLink RL 128 yX4_whose ∈ tb := tb_mem 620 rfl rfl
set_option maxRecDepth 100000 in
theorem q_621 : Cond.instanceMethod yX4_whose ∈ tb := tb_mem 621 rfl rfl
set_option maxRecDepth 100000 in
theorem q_622 : Cond.selects RX4 yX4_whose yX4_whose ∈ tb := tb_mem 622 rfl rfl
set_option maxRecDepth 100000 in
theorem q_623 : Cond.code yX4_whose cX4_whose 5 (some .int) ∈ tb := tb_mem 623 rfl rfl
set_option maxRecDepth 100000 in
theorem q_624 : Cond.methodLink RL 132 yX4_laws ∈ tb := tb_mem 624 rfl rfl
set_option maxRecDepth 100000 in
theorem q_625 : Cond.instanceMethod yX4_laws ∈ tb := tb_mem 625 rfl rfl
set_option maxRecDepth 100000 in
theorem q_626 : Cond.selects RX4 yX4_laws yX4_laws ∈ tb := tb_mem 626 rfl rfl
set_option maxRecDepth 100000 in
theorem q_627 : Cond.code yX4_laws cX4_laws 6 (some .int) ∈ tb := tb_mem 627 rfl rfl
set_option maxRecDepth 100000 in
theorem q_628 : Cond.methodLink RL 136 yX4_film ∈ tb := tb_mem 628 rfl rfl
set_option maxRecDepth 100000 in
theorem q_629 : Cond.instanceMethod yX4_film ∈ tb := tb_mem 629 rfl rfl
set_option maxRecDepth 100000 in
theorem q_630 : Cond.selects RX4 yX4_film yX4_film ∈ tb := tb_mem 630 rfl rfl
set_option maxRecDepth 100000 in
theorem q_631 : Cond.code yX4_film cX4_film 5 (some .int) ∈ tb := tb_mem 631 rfl rfl
set_option maxRecDepth 100000 in
theorem q_644 : Cond.methodLink RL 140 yX4_drawn ∈ tb := tb_mem 644 rfl rfl
set_option maxRecDepth 100000 in
theorem q_645 : Cond.instanceMethod yX4_drawn ∈ tb := tb_mem 645 rfl rfl
set_option maxRecDepth 100000 in
theorem q_646 : Cond.selects RX4 yX4_drawn yX4_drawn ∈ tb := tb_mem 646 rfl rfl
set_option maxRecDepth 100000 in
theorem q_647 : Cond.code yX4_drawn cX4_drawn 5 (some .int) ∈ tb := tb_mem 647 rfl rfl
set_option maxRecDepth 100000 in
theorem q_656 : Cond.methodLink RL 144 yX4_odds ∈ tb := tb_mem 656 rfl rfl
set_option maxRecDepth 100000 in
theorem q_657 : Cond.instanceMethod yX4_odds ∈ tb := tb_mem 657 rfl rfl
set_option maxRecDepth 100000 in
theorem q_658 : Cond.selects RX4 yX4_odds yX4_odds ∈ tb := tb_mem 658 rfl rfl
set_option maxRecDepth 100000 in
theorem q_659 : Cond.code yX4_odds cX4_odds 8 (some .long) ∈ tb := tb_mem 659 rfl rfl
set_option maxRecDepth 100000 in
theorem q_660 : Cond.methodLink RL 149 yX4_image ∈ tb := tb_mem 660 rfl rfl
set_option maxRecDepth 100000 in
theorem q_661 : Cond.instanceMethod yX4_image ∈ tb := tb_mem 661 rfl rfl
set_option maxRecDepth 100000 in
theorem q_662 : Cond.selects RX4 yX4_image yX4_image ∈ tb := tb_mem 662 rfl rfl
set_option maxRecDepth 100000 in
theorem q_663 : Cond.code yX4_image cX4_image 1 (some .int) ∈ tb := tb_mem 663 rfl rfl
set_option maxRecDepth 100000 in
theorem q_664 : Cond.methodLink RL 153 yX4_back ∈ tb := tb_mem 664 rfl rfl
set_option maxRecDepth 100000 in
theorem q_665 : Cond.instanceMethod yX4_back ∈ tb := tb_mem 665 rfl rfl
set_option maxRecDepth 100000 in
theorem q_666 : Cond.selects RX4 yX4_back yX4_back ∈ tb := tb_mem 666 rfl rfl
set_option maxRecDepth 100000 in
theorem q_667 : Cond.code yX4_back cX4_back 1 (some .int) ∈ tb := tb_mem 667 rfl rfl
set_option maxRecDepth 100000 in
theorem q_668 : Cond.methodLink RL 157 yX4_sheet ∈ tb := tb_mem 668 rfl rfl
set_option maxRecDepth 100000 in
theorem q_669 : Cond.instanceMethod yX4_sheet ∈ tb := tb_mem 669 rfl rfl
set_option maxRecDepth 100000 in
theorem q_670 : Cond.selects RX4 yX4_sheet yX4_sheet ∈ tb := tb_mem 670 rfl rfl
set_option maxRecDepth 100000 in
theorem q_671 : Cond.code yX4_sheet cX4_sheet 4 (some .int) ∈ tb := tb_mem 671 rfl rfl
set_option maxRecDepth 100000 in
theorem q_672 : Cond.methodLink RL 161 yX4_cell ∈ tb := tb_mem 672 rfl rfl
set_option maxRecDepth 100000 in
theorem q_673 : Cond.instanceMethod yX4_cell ∈ tb := tb_mem 673 rfl rfl
set_option maxRecDepth 100000 in
theorem q_674 : Cond.selects RX4 yX4_cell yX4_cell ∈ tb := tb_mem 674 rfl rfl
set_option maxRecDepth 100000 in
theorem q_675 : Cond.code yX4_cell cX4_cell 4 (some .int) ∈ tb := tb_mem 675 rfl rfl
set_option maxRecDepth 100000 in
theorem q_677 : Cond.methodLink RL 165 yX4_copy ∈ tb := tb_mem 677 rfl rfl
set_option maxRecDepth 100000 in
theorem q_678 : Cond.instanceMethod yX4_copy ∈ tb := tb_mem 678 rfl rfl
set_option maxRecDepth 100000 in
theorem q_679 : Cond.selects RX4 yX4_copy yX4_copy ∈ tb := tb_mem 679 rfl rfl
set_option maxRecDepth 100000 in
theorem q_680 : Cond.code yX4_copy cX4_copy 8 (some .int) ∈ tb := tb_mem 680 rfl rfl
set_option maxRecDepth 100000 in
theorem q_686 : Cond.methodLink RL 170 yX4_shipsBy ∈ tb := tb_mem 686 rfl rfl
set_option maxRecDepth 100000 in
theorem q_687 : Cond.instanceMethod yX4_shipsBy ∈ tb := tb_mem 687 rfl rfl
set_option maxRecDepth 100000 in
theorem q_688 : Cond.selects RX4 yX4_shipsBy yX4_shipsBy ∈ tb := tb_mem 688 rfl rfl
set_option maxRecDepth 100000 in
theorem q_689 : Cond.code yX4_shipsBy cX4_shipsBy 9 (some .int) ∈ tb := tb_mem 689 rfl rfl
set_option maxRecDepth 100000 in
theorem q_691 : Cond.methodLink RL 175 yX4_taken ∈ tb := tb_mem 691 rfl rfl
set_option maxRecDepth 100000 in
theorem q_692 : Cond.instanceMethod yX4_taken ∈ tb := tb_mem 692 rfl rfl
set_option maxRecDepth 100000 in
theorem q_693 : Cond.selects RX4 yX4_taken yX4_taken ∈ tb := tb_mem 693 rfl rfl
set_option maxRecDepth 100000 in
theorem q_694 : Cond.code yX4_taken cX4_taken 3 (some .int) ∈ tb := tb_mem 694 rfl rfl
set_option maxRecDepth 100000 in
theorem q_866 : Cond.methodLink RL 17 yX5_count ∈ tb := tb_mem 866 rfl rfl
set_option maxRecDepth 100000 in
theorem q_867 : Cond.instanceMethod yX5_count ∈ tb := tb_mem 867 rfl rfl
set_option maxRecDepth 100000 in
theorem q_868 : Cond.selects RX5 yX5_count yX5_count ∈ tb := tb_mem 868 rfl rfl
set_option maxRecDepth 100000 in
theorem q_869 : Cond.code yX5_count cX5_count 2 (some .int) ∈ tb := tb_mem 869 rfl rfl
set_option maxRecDepth 100000 in
theorem q_885 : Cond.methodLink RL 22 yX5_rock ∈ tb := tb_mem 885 rfl rfl
set_option maxRecDepth 100000 in
theorem q_886 : Cond.instanceMethod yX5_rock ∈ tb := tb_mem 886 rfl rfl
set_option maxRecDepth 100000 in
theorem q_887 : Cond.selects RX5 yX5_rock yX5_rock ∈ tb := tb_mem 887 rfl rfl
set_option maxRecDepth 100000 in
theorem q_888 : Cond.code yX5_rock cX5_rock 4 (some .int) ∈ tb := tb_mem 888 rfl rfl
set_option maxRecDepth 100000 in
theorem q_893 : Cond.methodLink RL 26 yX5_tell ∈ tb := tb_mem 893 rfl rfl
set_option maxRecDepth 100000 in
theorem q_894 : Cond.instanceMethod yX5_tell ∈ tb := tb_mem 894 rfl rfl
set_option maxRecDepth 100000 in
theorem q_895 : Cond.selects RX5 yX5_tell yX5_tell ∈ tb := tb_mem 895 rfl rfl
set_option maxRecDepth 100000 in
theorem q_896 : Cond.code yX5_tell cX5_tell 3 (some .int) ∈ tb := tb_mem 896 rfl rfl
set_option maxRecDepth 100000 in
theorem q_904 : Cond.methodLink RL 30 yX5_believes ∈ tb := tb_mem 904 rfl rfl
set_option maxRecDepth 100000 in
theorem q_905 : Cond.instanceMethod yX5_believes ∈ tb := tb_mem 905 rfl rfl
set_option maxRecDepth 100000 in
theorem q_906 : Cond.selects RX5 yX5_believes yX5_believes ∈ tb := tb_mem 906 rfl rfl
set_option maxRecDepth 100000 in
theorem q_907 : Cond.code yX5_believes cX5_believes 2 (some .int) ∈ tb := tb_mem 907 rfl rfl
set_option maxRecDepth 100000 in
theorem q_908 : Cond.methodLink RL 34 yX5_doubts ∈ tb := tb_mem 908 rfl rfl
set_option maxRecDepth 100000 in
theorem q_909 : Cond.instanceMethod yX5_doubts ∈ tb := tb_mem 909 rfl rfl
set_option maxRecDepth 100000 in
theorem q_910 : Cond.selects RX5 yX5_doubts yX5_doubts ∈ tb := tb_mem 910 rfl rfl
set_option maxRecDepth 100000 in
theorem q_911 : Cond.code yX5_doubts cX5_doubts 3 (some .int) ∈ tb := tb_mem 911 rfl rfl
set_option maxRecDepth 100000 in
theorem q_912 : Cond.methodLink RL 39 yX5_feed ∈ tb := tb_mem 912 rfl rfl
set_option maxRecDepth 100000 in
theorem q_913 : Cond.instanceMethod yX5_feed ∈ tb := tb_mem 913 rfl rfl
set_option maxRecDepth 100000 in
theorem q_914 : Cond.selects RX5 yX5_feed yX5_feed ∈ tb := tb_mem 914 rfl rfl
set_option maxRecDepth 100000 in
theorem q_915 : Cond.code yX5_feed cX5_feed 8 (some .int) ∈ tb := tb_mem 915 rfl rfl
set_option maxRecDepth 100000 in
theorem q_919 : Cond.methodLink RL 44 yX5_text ∈ tb := tb_mem 919 rfl rfl
set_option maxRecDepth 100000 in
theorem q_920 : Cond.methodLink RL 48 yX5_force ∈ tb := tb_mem 920 rfl rfl
set_option maxRecDepth 100000 in
theorem q_921 : Cond.instanceMethod yX5_force ∈ tb := tb_mem 921 rfl rfl
set_option maxRecDepth 100000 in
theorem q_922 : Cond.selects RX5 yX5_force yX5_force ∈ tb := tb_mem 922 rfl rfl
set_option maxRecDepth 100000 in
theorem q_923 : Cond.code yX5_force cX5_force 3 (some .int) ∈ tb := tb_mem 923 rfl rfl
set_option maxRecDepth 100000 in
theorem q_924 : Cond.methodLink RL 53 yX5_asks ∈ tb := tb_mem 924 rfl rfl
set_option maxRecDepth 100000 in
theorem q_925 : Cond.instanceMethod yX5_asks ∈ tb := tb_mem 925 rfl rfl
set_option maxRecDepth 100000 in
theorem q_926 : Cond.selects RX5 yX5_asks yX5_asks ∈ tb := tb_mem 926 rfl rfl
set_option maxRecDepth 100000 in
theorem q_927 : Cond.code yX5_asks cX5_asks 5 (some .int) ∈ tb := tb_mem 927 rfl rfl
set_option maxRecDepth 100000 in
theorem q_943 : Cond.methodLink RL 57 yX5_ship ∈ tb := tb_mem 943 rfl rfl
set_option maxRecDepth 100000 in
theorem q_947 : Cond.methodLink RL 61 yX5_put ∈ tb := tb_mem 947 rfl rfl
set_option maxRecDepth 100000 in
theorem q_948 : Cond.instanceMethod yX5_put ∈ tb := tb_mem 948 rfl rfl
set_option maxRecDepth 100000 in
theorem q_949 : Cond.selects RX5 yX5_put yX5_put ∈ tb := tb_mem 949 rfl rfl
set_option maxRecDepth 100000 in
theorem q_950 : Cond.code yX5_put cX5_put 5 (some .int) ∈ tb := tb_mem 950 rfl rfl
set_option maxRecDepth 100000 in
theorem q_951 : Cond.methodLink RL 65 yX5_told ∈ tb := tb_mem 951 rfl rfl
set_option maxRecDepth 100000 in
theorem q_952 : Cond.instanceMethod yX5_told ∈ tb := tb_mem 952 rfl rfl
set_option maxRecDepth 100000 in
theorem q_953 : Cond.selects RX5 yX5_told yX5_told ∈ tb := tb_mem 953 rfl rfl
set_option maxRecDepth 100000 in
theorem q_954 : Cond.code yX5_told cX5_told 3 (some .int) ∈ tb := tb_mem 954 rfl rfl
set_option maxRecDepth 100000 in
theorem q_970 : Cond.methodLink RL 69 yX5_likes ∈ tb := tb_mem 970 rfl rfl
set_option maxRecDepth 100000 in
theorem q_971 : Cond.instanceMethod yX5_likes ∈ tb := tb_mem 971 rfl rfl
set_option maxRecDepth 100000 in
theorem q_972 : Cond.selects RX5 yX5_likes yX5_likes ∈ tb := tb_mem 972 rfl rfl
set_option maxRecDepth 100000 in
theorem q_973 : Cond.code yX5_likes cX5_likes 3 (some .int) ∈ tb := tb_mem 973 rfl rfl
set_option maxRecDepth 100000 in
theorem q_975 : Cond.methodLink RL 73 yX5_night ∈ tb := tb_mem 975 rfl rfl
set_option maxRecDepth 100000 in
theorem q_976 : Cond.instanceMethod yX5_night ∈ tb := tb_mem 976 rfl rfl
set_option maxRecDepth 100000 in
theorem q_977 : Cond.selects RX5 yX5_night yX5_night ∈ tb := tb_mem 977 rfl rfl
set_option maxRecDepth 100000 in
theorem q_978 : Cond.code yX5_night cX5_night 1 (some .int) ∈ tb := tb_mem 978 rfl rfl
set_option maxRecDepth 100000 in
theorem q_991 : Cond.methodLink RL 77 yX5_run ∈ tb := tb_mem 991 rfl rfl
set_option maxRecDepth 100000 in
theorem q_992 : Cond.instanceMethod yX5_run ∈ tb := tb_mem 992 rfl rfl
set_option maxRecDepth 100000 in
theorem q_993 : Cond.selects RX5 yX5_run yX5_run ∈ tb := tb_mem 993 rfl rfl
set_option maxRecDepth 100000 in
theorem q_994 : Cond.code yX5_run cX5_run 5 (some .int) ∈ tb := tb_mem 994 rfl rfl
set_option maxRecDepth 100000 in
theorem q_1015 : Cond.methodLink RL 81 yX5_lostBy ∈ tb := tb_mem 1015 rfl rfl
set_option maxRecDepth 100000 in
theorem q_1016 : Cond.instanceMethod yX5_lostBy ∈ tb := tb_mem 1016 rfl rfl
set_option maxRecDepth 100000 in
theorem q_1017 : Cond.selects RX5 yX5_lostBy yX5_lostBy ∈ tb := tb_mem 1017 rfl rfl
set_option maxRecDepth 100000 in
theorem q_1018 : Cond.code yX5_lostBy cX5_lostBy 6 (some .int) ∈ tb := tb_mem 1018 rfl rfl
set_option maxRecDepth 100000 in
theorem q_1019 : Cond.methodLink RL 86 yX5_track ∈ tb := tb_mem 1019 rfl rfl
set_option maxRecDepth 100000 in
theorem q_1020 : Cond.instanceMethod yX5_track ∈ tb := tb_mem 1020 rfl rfl
set_option maxRecDepth 100000 in
theorem q_1021 : Cond.selects RX5 yX5_track yX5_track ∈ tb := tb_mem 1021 rfl rfl
set_option maxRecDepth 100000 in
theorem q_1022 : Cond.code yX5_track cX5_track 6 (some .long) ∈ tb := tb_mem 1022 rfl rfl
set_option maxRecDepth 100000 in
theorem q_1024 : Cond.methodLink RL 91 yX5_sea ∈ tb := tb_mem 1024 rfl rfl
set_option maxRecDepth 100000 in
theorem q_1025 : Cond.instanceMethod yX5_sea ∈ tb := tb_mem 1025 rfl rfl
set_option maxRecDepth 100000 in
theorem q_1026 : Cond.selects RX5 yX5_sea yX5_sea ∈ tb := tb_mem 1026 rfl rfl
set_option maxRecDepth 100000 in
theorem q_1027 : Cond.code yX5_sea cX5_sea 6 (some .long) ∈ tb := tb_mem 1027 rfl rfl
set_option maxRecDepth 100000 in
theorem q_1032 : Cond.methodLink RL 95 yX5_lie ∈ tb := tb_mem 1032 rfl rfl
set_option maxRecDepth 100000 in
theorem q_1033 : Cond.instanceMethod yX5_lie ∈ tb := tb_mem 1033 rfl rfl
set_option maxRecDepth 100000 in
theorem q_1034 : Cond.selects RX5 yX5_lie yX5_lie ∈ tb := tb_mem 1034 rfl rfl
set_option maxRecDepth 100000 in
theorem q_1035 : Cond.code yX5_lie cX5_lie 8 (some .int) ∈ tb := tb_mem 1035 rfl rfl
set_option maxRecDepth 100000 in
theorem q_1040 : Cond.methodLink RL 99 yX5_blow ∈ tb := tb_mem 1040 rfl rfl
set_option maxRecDepth 100000 in
theorem q_1041 : Cond.instanceMethod yX5_blow ∈ tb := tb_mem 1041 rfl rfl
set_option maxRecDepth 100000 in
theorem q_1042 : Cond.selects RX5 yX5_blow yX5_blow ∈ tb := tb_mem 1042 rfl rfl
set_option maxRecDepth 100000 in
theorem q_1043 : Cond.code yX5_blow cX5_blow 9 (some .int) ∈ tb := tb_mem 1043 rfl rfl
set_option maxRecDepth 100000 in
theorem q_1044 : Cond.methodLink RL 103 yX5_safe ∈ tb := tb_mem 1044 rfl rfl
set_option maxRecDepth 100000 in
theorem q_1045 : Cond.instanceMethod yX5_safe ∈ tb := tb_mem 1045 rfl rfl
set_option maxRecDepth 100000 in
theorem q_1046 : Cond.selects RX5 yX5_safe yX5_safe ∈ tb := tb_mem 1046 rfl rfl
set_option maxRecDepth 100000 in
theorem q_1047 : Cond.code yX5_safe cX5_safe 7 (some .long) ∈ tb := tb_mem 1047 rfl rfl
set_option maxRecDepth 100000 in
theorem q_1048 : Cond.methodLink RL 107 yX5_trust ∈ tb := tb_mem 1048 rfl rfl
set_option maxRecDepth 100000 in
theorem q_1049 : Cond.instanceMethod yX5_trust ∈ tb := tb_mem 1049 rfl rfl
set_option maxRecDepth 100000 in
theorem q_1050 : Cond.selects RX5 yX5_trust yX5_trust ∈ tb := tb_mem 1050 rfl rfl
set_option maxRecDepth 100000 in
theorem q_1051 : Cond.code yX5_trust cX5_trust 6 (some .int) ∈ tb := tb_mem 1051 rfl rfl
set_option maxRecDepth 100000 in
theorem q_1052 : Cond.methodLink RL 111 yX5_truth ∈ tb := tb_mem 1052 rfl rfl
set_option maxRecDepth 100000 in
theorem q_1053 : Cond.instanceMethod yX5_truth ∈ tb := tb_mem 1053 rfl rfl
set_option maxRecDepth 100000 in
theorem q_1054 : Cond.selects RX5 yX5_truth yX5_truth ∈ tb := tb_mem 1054 rfl rfl
set_option maxRecDepth 100000 in
theorem q_1055 : Cond.code yX5_truth cX5_truth 5 (some .long) ∈ tb := tb_mem 1055 rfl rfl
set_option maxRecDepth 100000 in
theorem q_1059 : Cond.methodLink RL 115 yX5_judge ∈ tb := tb_mem 1059 rfl rfl
set_option maxRecDepth 100000 in
theorem q_1060 : Cond.instanceMethod yX5_judge ∈ tb := tb_mem 1060 rfl rfl
set_option maxRecDepth 100000 in
theorem q_1061 : Cond.selects RX5 yX5_judge yX5_judge ∈ tb := tb_mem 1061 rfl rfl
set_option maxRecDepth 100000 in
theorem q_1062 : Cond.code yX5_judge cX5_judge 4 (some .int) ∈ tb := tb_mem 1062 rfl rfl
set_option maxRecDepth 100000 in
theorem q_1075 : Cond.methodLink RL 119 yX5_kinds ∈ tb := tb_mem 1075 rfl rfl
set_option maxRecDepth 100000 in
theorem q_1076 : Cond.instanceMethod yX5_kinds ∈ tb := tb_mem 1076 rfl rfl
set_option maxRecDepth 100000 in
theorem q_1077 : Cond.selects RX5 yX5_kinds yX5_kinds ∈ tb := tb_mem 1077 rfl rfl
set_option maxRecDepth 100000 in
theorem q_1078 : Cond.code yX5_kinds cX5_kinds 9 (some .int) ∈ tb := tb_mem 1078 rfl rfl
set_option maxRecDepth 100000 in
theorem q_1079 : Cond.methodLink RL 123 yX5_places ∈ tb := tb_mem 1079 rfl rfl
set_option maxRecDepth 100000 in
theorem q_1080 : Cond.instanceMethod yX5_places ∈ tb := tb_mem 1080 rfl rfl
set_option maxRecDepth 100000 in
theorem q_1081 : Cond.selects RX5 yX5_places yX5_places ∈ tb := tb_mem 1081 rfl rfl
set_option maxRecDepth 100000 in
theorem q_1082 : Cond.code yX5_places cX5_places 7 (some .long) ∈ tb := tb_mem 1082 rfl rfl
set_option maxRecDepth 100000 in
theorem q_1083 : Cond.methodLink RL 127 yX5_draughts ∈ tb := tb_mem 1083 rfl rfl
set_option maxRecDepth 100000 in
theorem q_1084 : Cond.instanceMethod yX5_draughts ∈ tb := tb_mem 1084 rfl rfl
set_option maxRecDepth 100000 in
theorem q_1085 : Cond.selects RX5 yX5_draughts yX5_draughts ∈ tb := tb_mem 1085 rfl rfl
set_option maxRecDepth 100000 in
theorem q_1086 : Cond.code yX5_draughts cX5_draughts 10 (some .int) ∈ tb := tb_mem 1086 rfl rfl
set_option maxRecDepth 100000 in
theorem q_1087 : Cond.methodLink RL 131 yX5_whose ∈ tb := tb_mem 1087 rfl rfl
set_option maxRecDepth 100000 in
theorem q_1088 : Cond.instanceMethod yX5_whose ∈ tb := tb_mem 1088 rfl rfl
set_option maxRecDepth 100000 in
theorem q_1089 : Cond.selects RX5 yX5_whose yX5_whose ∈ tb := tb_mem 1089 rfl rfl
set_option maxRecDepth 100000 in
theorem q_1090 : Cond.code yX5_whose cX5_whose 5 (some .int) ∈ tb := tb_mem 1090 rfl rfl
set_option maxRecDepth 100000 in
theorem q_1091 : Cond.methodLink RL 135 yX5_laws ∈ tb := tb_mem 1091 rfl rfl
set_option maxRecDepth 100000 in
theorem q_1092 : Cond.instanceMethod yX5_laws ∈ tb := tb_mem 1092 rfl rfl
set_option maxRecDepth 100000 in
theorem q_1093 : Cond.selects RX5 yX5_laws yX5_laws ∈ tb := tb_mem 1093 rfl rfl
set_option maxRecDepth 100000 in
theorem q_1094 : Cond.code yX5_laws cX5_laws 7 (some .int) ∈ tb := tb_mem 1094 rfl rfl
set_option maxRecDepth 100000 in
theorem q_1095 : Cond.methodLink RL 139 yX5_film ∈ tb := tb_mem 1095 rfl rfl
set_option maxRecDepth 100000 in
theorem q_1096 : Cond.instanceMethod yX5_film ∈ tb := tb_mem 1096 rfl rfl
set_option maxRecDepth 100000 in
theorem q_1097 : Cond.selects RX5 yX5_film yX5_film ∈ tb := tb_mem 1097 rfl rfl
set_option maxRecDepth 100000 in
theorem q_1098 : Cond.code yX5_film cX5_film 5 (some .int) ∈ tb := tb_mem 1098 rfl rfl
set_option maxRecDepth 100000 in
theorem q_1099 : Cond.methodLink RL 143 yX5_drawn ∈ tb := tb_mem 1099 rfl rfl
set_option maxRecDepth 100000 in
theorem q_1100 : Cond.instanceMethod yX5_drawn ∈ tb := tb_mem 1100 rfl rfl
set_option maxRecDepth 100000 in
theorem q_1101 : Cond.selects RX5 yX5_drawn yX5_drawn ∈ tb := tb_mem 1101 rfl rfl
set_option maxRecDepth 100000 in
theorem q_1102 : Cond.code yX5_drawn cX5_drawn 5 (some .int) ∈ tb := tb_mem 1102 rfl rfl
set_option maxRecDepth 100000 in
theorem q_1111 : Cond.methodLink RL 148 yX5_odds ∈ tb := tb_mem 1111 rfl rfl
set_option maxRecDepth 100000 in
theorem q_1112 : Cond.instanceMethod yX5_odds ∈ tb := tb_mem 1112 rfl rfl
set_option maxRecDepth 100000 in
theorem q_1113 : Cond.selects RX5 yX5_odds yX5_odds ∈ tb := tb_mem 1113 rfl rfl
set_option maxRecDepth 100000 in
theorem q_1114 : Cond.code yX5_odds cX5_odds 10 (some .long) ∈ tb := tb_mem 1114 rfl rfl
set_option maxRecDepth 100000 in
theorem q_1115 : Cond.methodLink RL 152 yX5_image ∈ tb := tb_mem 1115 rfl rfl
set_option maxRecDepth 100000 in
theorem q_1116 : Cond.instanceMethod yX5_image ∈ tb := tb_mem 1116 rfl rfl
set_option maxRecDepth 100000 in
theorem q_1117 : Cond.selects RX5 yX5_image yX5_image ∈ tb := tb_mem 1117 rfl rfl
set_option maxRecDepth 100000 in
theorem q_1118 : Cond.code yX5_image cX5_image 2 (some .int) ∈ tb := tb_mem 1118 rfl rfl
set_option maxRecDepth 100000 in
theorem q_1119 : Cond.methodLink RL 156 yX5_back ∈ tb := tb_mem 1119 rfl rfl
set_option maxRecDepth 100000 in
theorem q_1120 : Cond.instanceMethod yX5_back ∈ tb := tb_mem 1120 rfl rfl
set_option maxRecDepth 100000 in
theorem q_1121 : Cond.selects RX5 yX5_back yX5_back ∈ tb := tb_mem 1121 rfl rfl
set_option maxRecDepth 100000 in
theorem q_1122 : Cond.code yX5_back cX5_back 2 (some .int) ∈ tb := tb_mem 1122 rfl rfl
set_option maxRecDepth 100000 in
theorem q_1123 : Cond.methodLink RL 160 yX5_sheet ∈ tb := tb_mem 1123 rfl rfl
set_option maxRecDepth 100000 in
theorem q_1124 : Cond.instanceMethod yX5_sheet ∈ tb := tb_mem 1124 rfl rfl
set_option maxRecDepth 100000 in
theorem q_1125 : Cond.selects RX5 yX5_sheet yX5_sheet ∈ tb := tb_mem 1125 rfl rfl
set_option maxRecDepth 100000 in
theorem q_1126 : Cond.code yX5_sheet cX5_sheet 5 (some .int) ∈ tb := tb_mem 1126 rfl rfl
set_option maxRecDepth 100000 in
theorem q_1127 : Cond.methodLink RL 164 yX5_cell ∈ tb := tb_mem 1127 rfl rfl
set_option maxRecDepth 100000 in
theorem q_1128 : Cond.instanceMethod yX5_cell ∈ tb := tb_mem 1128 rfl rfl
set_option maxRecDepth 100000 in
theorem q_1129 : Cond.selects RX5 yX5_cell yX5_cell ∈ tb := tb_mem 1129 rfl rfl
set_option maxRecDepth 100000 in
theorem q_1130 : Cond.code yX5_cell cX5_cell 4 (some .int) ∈ tb := tb_mem 1130 rfl rfl
set_option maxRecDepth 100000 in
theorem q_1131 : Cond.methodLink RL 169 yX5_copy ∈ tb := tb_mem 1131 rfl rfl
set_option maxRecDepth 100000 in
theorem q_1132 : Cond.instanceMethod yX5_copy ∈ tb := tb_mem 1132 rfl rfl
set_option maxRecDepth 100000 in
theorem q_1133 : Cond.selects RX5 yX5_copy yX5_copy ∈ tb := tb_mem 1133 rfl rfl
set_option maxRecDepth 100000 in
theorem q_1134 : Cond.code yX5_copy cX5_copy 10 (some .int) ∈ tb := tb_mem 1134 rfl rfl
set_option maxRecDepth 100000 in
theorem q_1135 : Cond.methodLink RL 174 yX5_shipsBy ∈ tb := tb_mem 1135 rfl rfl
set_option maxRecDepth 100000 in
theorem q_1136 : Cond.instanceMethod yX5_shipsBy ∈ tb := tb_mem 1136 rfl rfl
set_option maxRecDepth 100000 in
theorem q_1137 : Cond.selects RX5 yX5_shipsBy yX5_shipsBy ∈ tb := tb_mem 1137 rfl rfl
set_option maxRecDepth 100000 in
theorem q_1138 : Cond.code yX5_shipsBy cX5_shipsBy 9 (some .int) ∈ tb := tb_mem 1138 rfl rfl
set_option maxRecDepth 100000 in
theorem q_1140 : Cond.methodLink RL 178 yX5_taken ∈ tb := tb_mem 1140 rfl rfl
set_option maxRecDepth 100000 in
theorem q_1141 : Cond.instanceMethod yX5_taken ∈ tb := tb_mem 1141 rfl rfl
set_option maxRecDepth 100000 in
theorem q_1142 : Cond.selects RX5 yX5_taken yX5_taken ∈ tb := tb_mem 1142 rfl rfl
set_option maxRecDepth 100000 in
theorem q_1143 : Cond.code yX5_taken cX5_taken 3 (some .int) ∈ tb := tb_mem 1143 rfl rfl
theorem mi_X4_count : MV yX4_count cX4_count 2 (some .int) 1 := ⟨q_360, q_50, ⟨q_358, q_359⟩, by decide +kernel, by decide⟩
theorem mi_X5_count : MV yX5_count cX5_count 2 (some .int) 1 := ⟨q_869, q_59, ⟨q_867, q_868⟩, by decide +kernel, by decide⟩
theorem mi_X4_rock : MV yX4_rock cX4_rock 4 (some .int) 2 := ⟨q_380, q_50, ⟨q_378, q_379⟩, by decide +kernel, by decide⟩
theorem mi_X5_rock : MV yX5_rock cX5_rock 4 (some .int) 2 := ⟨q_888, q_59, ⟨q_886, q_887⟩, by decide +kernel, by decide⟩
theorem mi_X4_tell : MV yX4_tell cX4_tell 3 (some .int) 2 := ⟨q_395, q_50, ⟨q_393, q_394⟩, by decide +kernel, by decide⟩
theorem mi_X5_tell : MV yX5_tell cX5_tell 3 (some .int) 2 := ⟨q_896, q_59, ⟨q_894, q_895⟩, by decide +kernel, by decide⟩
theorem mi_X4_believes : MV yX4_believes cX4_believes 2 (some .int) 1 := ⟨q_409, q_50, ⟨q_407, q_408⟩, by decide +kernel, by decide⟩
theorem mi_X5_believes : MV yX5_believes cX5_believes 2 (some .int) 1 := ⟨q_907, q_59, ⟨q_905, q_906⟩, by decide +kernel, by decide⟩
theorem mi_X4_doubts : MV yX4_doubts cX4_doubts 3 (some .int) 1 := ⟨q_413, q_50, ⟨q_411, q_412⟩, by decide +kernel, by decide⟩
theorem mi_X5_doubts : MV yX5_doubts cX5_doubts 3 (some .int) 1 := ⟨q_911, q_59, ⟨q_909, q_910⟩, by decide +kernel, by decide⟩
theorem mi_X4_feed : MV yX4_feed cX4_feed 8 (some .int) 6 := ⟨q_417, q_50, ⟨q_415, q_416⟩, by decide +kernel, by decide⟩
theorem mi_X5_feed : MV yX5_feed cX5_feed 8 (some .int) 6 := ⟨q_915, q_59, ⟨q_913, q_914⟩, by decide +kernel, by decide⟩
theorem mi_X4_text : MV yX4_text cX4_text 2 (some .int) 0 := ⟨q_424, q_50, ⟨q_422, q_423⟩, by decide +kernel, by decide⟩
theorem mi_X4_force : MV yX4_force cX4_force 3 (some .int) 1 := ⟨q_428, q_50, ⟨q_426, q_427⟩, by decide +kernel, by decide⟩
theorem mi_X5_force : MV yX5_force cX5_force 3 (some .int) 1 := ⟨q_923, q_59, ⟨q_921, q_922⟩, by decide +kernel, by decide⟩
theorem mi_X4_asks : MV yX4_asks cX4_asks 4 (some .int) 3 := ⟨q_432, q_50, ⟨q_430, q_431⟩, by decide +kernel, by decide⟩
theorem mi_X5_asks : MV yX5_asks cX5_asks 5 (some .int) 3 := ⟨q_927, q_59, ⟨q_925, q_926⟩, by decide +kernel, by decide⟩
theorem mi_X4_put : MV yX4_put cX4_put 6 (some .int) 3 := ⟨q_462, q_50, ⟨q_460, q_461⟩, by decide +kernel, by decide⟩
theorem mi_X5_put : MV yX5_put cX5_put 5 (some .int) 3 := ⟨q_950, q_59, ⟨q_948, q_949⟩, by decide +kernel, by decide⟩
theorem mi_X4_told : MV yX4_told cX4_told 3 (some .int) 2 := ⟨q_466, q_50, ⟨q_464, q_465⟩, by decide +kernel, by decide⟩
theorem mi_X5_told : MV yX5_told cX5_told 3 (some .int) 2 := ⟨q_954, q_59, ⟨q_952, q_953⟩, by decide +kernel, by decide⟩
theorem mi_X4_likes : MV yX4_likes cX4_likes 3 (some .int) 2 := ⟨q_490, q_50, ⟨q_488, q_489⟩, by decide +kernel, by decide⟩
theorem mi_X5_likes : MV yX5_likes cX5_likes 3 (some .int) 2 := ⟨q_973, q_59, ⟨q_971, q_972⟩, by decide +kernel, by decide⟩
theorem mi_X4_night : MV yX4_night cX4_night 2 (some .int) 0 := ⟨q_496, q_50, ⟨q_494, q_495⟩, by decide +kernel, by decide⟩
theorem mi_X5_night : MV yX5_night cX5_night 1 (some .int) 0 := ⟨q_978, q_59, ⟨q_976, q_977⟩, by decide +kernel, by decide⟩
theorem mi_X4_run : MV yX4_run cX4_run 4 (some .int) 2 := ⟨q_516, q_50, ⟨q_514, q_515⟩, by decide +kernel, by decide⟩
theorem mi_X5_run : MV yX5_run cX5_run 5 (some .int) 2 := ⟨q_994, q_59, ⟨q_992, q_993⟩, by decide +kernel, by decide⟩
theorem mi_X4_lostBy : MV yX4_lostBy cX4_lostBy 4 (some .int) 2 := ⟨q_541, q_50, ⟨q_539, q_540⟩, by decide +kernel, by decide⟩
theorem mi_X5_lostBy : MV yX5_lostBy cX5_lostBy 6 (some .int) 2 := ⟨q_1018, q_59, ⟨q_1016, q_1017⟩, by decide +kernel, by decide⟩
theorem mi_X4_track : MV yX4_track cX4_track 6 (some .long) 2 := ⟨q_545, q_50, ⟨q_543, q_544⟩, by decide +kernel, by decide⟩
theorem mi_X5_track : MV yX5_track cX5_track 6 (some .long) 2 := ⟨q_1022, q_59, ⟨q_1020, q_1021⟩, by decide +kernel, by decide⟩
theorem mi_X4_sea : MV yX4_sea cX4_sea 2 (some .long) 1 := ⟨q_550, q_50, ⟨q_548, q_549⟩, by decide +kernel, by decide⟩
theorem mi_X5_sea : MV yX5_sea cX5_sea 6 (some .long) 1 := ⟨q_1027, q_59, ⟨q_1025, q_1026⟩, by decide +kernel, by decide⟩
theorem mi_X4_lie : MV yX4_lie cX4_lie 8 (some .int) 3 := ⟨q_562, q_50, ⟨q_560, q_561⟩, by decide +kernel, by decide⟩
theorem mi_X5_lie : MV yX5_lie cX5_lie 8 (some .int) 3 := ⟨q_1035, q_59, ⟨q_1033, q_1034⟩, by decide +kernel, by decide⟩
theorem mi_X4_blow : MV yX4_blow cX4_blow 7 (some .int) 2 := ⟨q_566, q_50, ⟨q_564, q_565⟩, by decide +kernel, by decide⟩
theorem mi_X5_blow : MV yX5_blow cX5_blow 9 (some .int) 2 := ⟨q_1043, q_59, ⟨q_1041, q_1042⟩, by decide +kernel, by decide⟩
theorem mi_X4_safe : MV yX4_safe cX4_safe 6 (some .long) 2 := ⟨q_570, q_50, ⟨q_568, q_569⟩, by decide +kernel, by decide⟩
theorem mi_X5_safe : MV yX5_safe cX5_safe 7 (some .long) 2 := ⟨q_1047, q_59, ⟨q_1045, q_1046⟩, by decide +kernel, by decide⟩
theorem mi_X4_trust : MV yX4_trust cX4_trust 5 (some .int) 3 := ⟨q_574, q_50, ⟨q_572, q_573⟩, by decide +kernel, by decide⟩
theorem mi_X5_trust : MV yX5_trust cX5_trust 6 (some .int) 3 := ⟨q_1051, q_59, ⟨q_1049, q_1050⟩, by decide +kernel, by decide⟩
theorem mi_X4_truth : MV yX4_truth cX4_truth 2 (some .long) 1 := ⟨q_578, q_50, ⟨q_576, q_577⟩, by decide +kernel, by decide⟩
theorem mi_X5_truth : MV yX5_truth cX5_truth 5 (some .long) 1 := ⟨q_1055, q_59, ⟨q_1053, q_1054⟩, by decide +kernel, by decide⟩
theorem mi_X4_judge : MV yX4_judge cX4_judge 4 (some .int) 2 := ⟨q_592, q_50, ⟨q_590, q_591⟩, by decide +kernel, by decide⟩
theorem mi_X5_judge : MV yX5_judge cX5_judge 4 (some .int) 2 := ⟨q_1062, q_59, ⟨q_1060, q_1061⟩, by decide +kernel, by decide⟩
theorem mi_X4_kinds : MV yX4_kinds cX4_kinds 9 (some .int) 3 := ⟨q_611, q_50, ⟨q_609, q_610⟩, by decide +kernel, by decide⟩
theorem mi_X5_kinds : MV yX5_kinds cX5_kinds 9 (some .int) 3 := ⟨q_1078, q_59, ⟨q_1076, q_1077⟩, by decide +kernel, by decide⟩
theorem mi_X4_places : MV yX4_places cX4_places 6 (some .long) 2 := ⟨q_615, q_50, ⟨q_613, q_614⟩, by decide +kernel, by decide⟩
theorem mi_X5_places : MV yX5_places cX5_places 7 (some .long) 2 := ⟨q_1082, q_59, ⟨q_1080, q_1081⟩, by decide +kernel, by decide⟩
theorem mi_X4_draughts : MV yX4_draughts cX4_draughts 8 (some .int) 3 := ⟨q_619, q_50, ⟨q_617, q_618⟩, by decide +kernel, by decide⟩
theorem mi_X5_draughts : MV yX5_draughts cX5_draughts 10 (some .int) 3 := ⟨q_1086, q_59, ⟨q_1084, q_1085⟩, by decide +kernel, by decide⟩
theorem mi_X4_whose : MV yX4_whose cX4_whose 5 (some .int) 1 := ⟨q_623, q_50, ⟨q_621, q_622⟩, by decide +kernel, by decide⟩
theorem mi_X5_whose : MV yX5_whose cX5_whose 5 (some .int) 1 := ⟨q_1090, q_59, ⟨q_1088, q_1089⟩, by decide +kernel, by decide⟩
theorem mi_X4_laws : MV yX4_laws cX4_laws 6 (some .int) 2 := ⟨q_627, q_50, ⟨q_625, q_626⟩, by decide +kernel, by decide⟩
theorem mi_X5_laws : MV yX5_laws cX5_laws 7 (some .int) 2 := ⟨q_1094, q_59, ⟨q_1092, q_1093⟩, by decide +kernel, by decide⟩
theorem mi_X4_film : MV yX4_film cX4_film 5 (some .int) 3 := ⟨q_631, q_50, ⟨q_629, q_630⟩, by decide +kernel, by decide⟩
theorem mi_X5_film : MV yX5_film cX5_film 5 (some .int) 3 := ⟨q_1098, q_59, ⟨q_1096, q_1097⟩, by decide +kernel, by decide⟩
theorem mi_X4_drawn : MV yX4_drawn cX4_drawn 5 (some .int) 3 := ⟨q_647, q_50, ⟨q_645, q_646⟩, by decide +kernel, by decide⟩
theorem mi_X5_drawn : MV yX5_drawn cX5_drawn 5 (some .int) 3 := ⟨q_1102, q_59, ⟨q_1100, q_1101⟩, by decide +kernel, by decide⟩
theorem mi_X4_odds : MV yX4_odds cX4_odds 8 (some .long) 5 := ⟨q_659, q_50, ⟨q_657, q_658⟩, by decide +kernel, by decide⟩
theorem mi_X5_odds : MV yX5_odds cX5_odds 10 (some .long) 5 := ⟨q_1114, q_59, ⟨q_1112, q_1113⟩, by decide +kernel, by decide⟩
theorem mi_X4_image : MV yX4_image cX4_image 1 (some .int) 0 := ⟨q_663, q_50, ⟨q_661, q_662⟩, by decide +kernel, by decide⟩
theorem mi_X5_image : MV yX5_image cX5_image 2 (some .int) 0 := ⟨q_1118, q_59, ⟨q_1116, q_1117⟩, by decide +kernel, by decide⟩
theorem mi_X4_back : MV yX4_back cX4_back 1 (some .int) 0 := ⟨q_667, q_50, ⟨q_665, q_666⟩, by decide +kernel, by decide⟩
theorem mi_X5_back : MV yX5_back cX5_back 2 (some .int) 0 := ⟨q_1122, q_59, ⟨q_1120, q_1121⟩, by decide +kernel, by decide⟩
theorem mi_X4_sheet : MV yX4_sheet cX4_sheet 4 (some .int) 3 := ⟨q_671, q_50, ⟨q_669, q_670⟩, by decide +kernel, by decide⟩
theorem mi_X5_sheet : MV yX5_sheet cX5_sheet 5 (some .int) 3 := ⟨q_1126, q_59, ⟨q_1124, q_1125⟩, by decide +kernel, by decide⟩
theorem mi_X4_cell : MV yX4_cell cX4_cell 4 (some .int) 3 := ⟨q_675, q_50, ⟨q_673, q_674⟩, by decide +kernel, by decide⟩
theorem mi_X5_cell : MV yX5_cell cX5_cell 4 (some .int) 3 := ⟨q_1130, q_59, ⟨q_1128, q_1129⟩, by decide +kernel, by decide⟩
theorem mi_X4_copy : MV yX4_copy cX4_copy 8 (some .int) 5 := ⟨q_680, q_50, ⟨q_678, q_679⟩, by decide +kernel, by decide⟩
theorem mi_X5_copy : MV yX5_copy cX5_copy 10 (some .int) 5 := ⟨q_1134, q_59, ⟨q_1132, q_1133⟩, by decide +kernel, by decide⟩
theorem mi_X4_shipsBy : MV yX4_shipsBy cX4_shipsBy 9 (some .int) 4 := ⟨q_689, q_50, ⟨q_687, q_688⟩, by decide +kernel, by decide⟩
theorem mi_X5_shipsBy : MV yX5_shipsBy cX5_shipsBy 9 (some .int) 4 := ⟨q_1138, q_59, ⟨q_1136, q_1137⟩, by decide +kernel, by decide⟩
theorem mi_X4_taken : MV yX4_taken cX4_taken 3 (some .int) 2 := ⟨q_694, q_50, ⟨q_692, q_693⟩, by decide +kernel, by decide⟩
theorem mi_X5_taken : MV yX5_taken cX5_taken 3 (some .int) 2 := ⟨q_1143, q_59, ⟨q_1141, q_1142⟩, by decide +kernel, by decide⟩

/-! ===== the law ===== -/
abbrev Lt : Type := Program × Launch × Env × State × MethodId × List Frame × Method × Code
def LFx (g : Gt) (adx adm : Nat → Nat) (b L : Nat) (xs : Nat → Int32) (z : Lt) : Prop :=
  match z with
  | (p, _, _, s, m, _, meth, c) => p.tables.exec = Jvm.exec ∧ c.code = code ∧ meth.sig.returnType = ret ∧ c.maxLocals = 4 ∧ s.vm.findClass RL = some m.cls ∧ (∀ w ∈ tb, w.before #[Value.ref b] s = true) ∧ va_X b L xs s s.heap ∧ b < s.heap.size ∧ meth.locks = false ∧ KG g s ∧ Ex g (fun q => s.heap.size ≤ q) s s.heap ∧ (LX adx).Nodup ∧ (LM adm).Nodup ∧ (∀ a ∈ LX adx, s.heap.size ≤ a) ∧ (∀ a ∈ LM adm, s.heap.size ≤ a) ∧ (∀ a ∈ LX adx, a ∉ LM adm)
def LJ (g : Gt) (adx adm : Nat → Nat) (b L : Nat) (xs : Nat → Int32) (z : Lt) (x : GX) (μ : GM) (pc : Nat) (lv : List (Nat × Value)) (st : List Value) : Prop :=
  match z with
  | (p, l, e, s, m, below, meth, c) => LFx g adx adm b L xs (p, l, e, s, m, below, meth, c) → ∀ (H : Heap) (locs : List Loc) (ls : Array Slot), va_P g.1 classes (wX g adx x) H → va_P g.1 classes (wM g adm μ) H → va_S (fun q => s.heap.size ≤ q) s.heap H locs → lv_has ls 4 lv →
    W p l e room_1 s m #[Value.ref b] below meth c H locs 76 4862 (lw_Z below #[Value.ref b] s) (F0 m pc ls st)
section LROWS
variable {g : Gt} {adx adm : Nat → Nat} {b L : Nat} {xs : Nat → Int32} {z : Lt} {x : GX} {μ : GM} {pc : Nat} {lv lv' : List (Nat × Value)} {st rest : List Value}
theorem j_aload_n {k0 : Fin 4} {i : Nat} {y : Nat} (hd : decode code pc = .ok (.aload_n k0, 1)) (hi : (k0 : Nat) = i) (h : lk lv i = some (.ref y)) (k : LJ g adx adm b L xs z x μ (pc + 1) lv (.ref y :: st)) : LJ g adx adm b L xs z x μ pc lv st := by
  obtain ⟨p, l, e, s, m, below, meth, c⟩ := z
  intro hF H locs ls hP hM hS hl
  exact lv_aload_n hF.1 hF.2.1 hd hi (hl.2.2 _ (lk_mem h)) (k hF H locs ls hP hM hS hl)
theorem j_iload_n {k0 : Fin 4} {i : Nat} {y : Int32} (hd : decode code pc = .ok (.iload_n k0, 1)) (hi : (k0 : Nat) = i) (h : lk lv i = some (.int y)) (k : LJ g adx adm b L xs z x μ (pc + 1) lv (.int y :: st)) : LJ g adx adm b L xs z x μ pc lv st := by
  obtain ⟨p, l, e, s, m, below, meth, c⟩ := z
  intro hF H locs ls hP hM hS hl
  exact lv_iload_n hF.1 hF.2.1 hd hi (hl.2.2 _ (lk_mem h)) (k hF H locs ls hP hM hS hl)
theorem j_iconst {n : Int} {v : Int32} (hd : decode code pc = .ok (.iconst n, 1)) (hv : Int32.ofInt n = v) (k : LJ g adx adm b L xs z x μ (pc + 1) lv (.int v :: st)) : LJ g adx adm b L xs z x μ pc lv st := by
  obtain ⟨p, l, e, s, m, below, meth, c⟩ := z
  intro hF H locs ls hP hM hS hl
  exact lv_iconst hF.1 hF.2.1 hd hv (k hF H locs ls hP hM hS hl)
theorem j_bipush {n : Int} {v : Int32} (hd : decode code pc = .ok (.bipush n, 2)) (hv : (Int8.ofInt n).toInt32 = v) (k : LJ g adx adm b L xs z x μ (pc + 2) lv (.int v :: st)) : LJ g adx adm b L xs z x μ pc lv st := by
  obtain ⟨p, l, e, s, m, below, meth, c⟩ := z
  intro hF H locs ls hP hM hS hl
  exact lv_bipush hF.1 hF.2.1 hd hv (k hF H locs ls hP hM hS hl)
theorem j_iadd {y v : Int32} (hd : decode code pc = .ok (.iadd, 1)) (k : LJ g adx adm b L xs z x μ (pc + 1) lv (.int (y + v) :: st)) : LJ g adx adm b L xs z x μ pc lv (.int v :: .int y :: st) := by
  obtain ⟨p, l, e, s, m, below, meth, c⟩ := z
  intro hF H locs ls hP hM hS hl
  exact lv_iadd hF.1 hF.2.1 hd (k hF H locs ls hP hM hS hl)
theorem j_isub {y v : Int32} (hd : decode code pc = .ok (.isub, 1)) (k : LJ g adx adm b L xs z x μ (pc + 1) lv (.int (y - v) :: st)) : LJ g adx adm b L xs z x μ pc lv (.int v :: .int y :: st) := by
  obtain ⟨p, l, e, s, m, below, meth, c⟩ := z
  intro hF H locs ls hP hM hS hl
  exact lv_isub hF.1 hF.2.1 hd (k hF H locs ls hP hM hS hl)
theorem j_iand {y v : Int32} (hd : decode code pc = .ok (.iand, 1)) (k : LJ g adx adm b L xs z x μ (pc + 1) lv (.int (y &&& v) :: st)) : LJ g adx adm b L xs z x μ pc lv (.int v :: .int y :: st) := by
  obtain ⟨p, l, e, s, m, below, meth, c⟩ := z
  intro hF H locs ls hP hM hS hl
  exact lv_iand hF.1 hF.2.1 hd (k hF H locs ls hP hM hS hl)
theorem j_sld {i : Int32} (hd : decode code pc = .ok (.iaload, 1)) (hin : vp_in i L) (k : LJ g adx adm b L xs z x μ (pc + 1) lv (.int (xs i.toNatClampNeg) :: st)) : LJ g adx adm b L xs z x μ pc lv (.int i :: .ref b :: st) := by
  obtain ⟨p, l, e, s, m, below, meth, c⟩ := z
  intro hF H locs ls hP hM hS hl
  exact va_sld hF.1 hF.2.1 hF.2.2.2.2.2.2.1 hF.2.2.2.2.2.2.2.1 (Nat.not_le.mpr hF.2.2.2.2.2.2.2.1) hS hin hd (k hF H locs ls hP hM hS hl)
theorem j_slen  (hd : decode code pc = .ok (.arraylength, 1)) (k : LJ g adx adm b L xs z x μ (pc + 1) lv (.int (Int32.ofNat L) :: st)) : LJ g adx adm b L xs z x μ pc lv (.ref b :: st) := by
  obtain ⟨p, l, e, s, m, below, meth, c⟩ := z
  intro hF H locs ls hP hM hS hl
  exact va_slen hF.1 hF.2.1 hF.2.2.2.2.2.2.1 hF.2.2.2.2.2.2.2.1 (Nat.not_le.mpr hF.2.2.2.2.2.2.2.1) hS hd (k hF H locs ls hP hM hS hl)
theorem j_gt {y v : Int32} {off : Int} {tgt : Nat} (hd : decode code pc = .ok (.if_icmp .gt off, 3)) (ht : (pc : Int) + off = (tgt : Int)) (k1 : v < y → LJ g adx adm b L xs z x μ tgt lv st) (k2 : ¬ v < y → LJ g adx adm b L xs z x μ (pc + 3) lv st) : LJ g adx adm b L xs z x μ pc lv (.int v :: .int y :: st) := by
  obtain ⟨p, l, e, s, m, below, meth, c⟩ := z
  intro hF H locs ls hP hM hS hl
  exact lv_icmp_gt hF.1 hF.2.1 hd ht (fun hc => k1 hc hF H locs ls hP hM hS hl) (fun hc => k2 hc hF H locs ls hP hM hS hl)
theorem j_eqT {y : Int32} {off : Int} {tgt : Nat} (hd : decode code pc = .ok (.if_icmp .eq off, 3)) (ht : (pc : Int) + off = (tgt : Int)) (k : LJ g adx adm b L xs z x μ tgt lv st) : LJ g adx adm b L xs z x μ pc lv (.int y :: .int y :: st) := by
  obtain ⟨p, l, e, s, m, below, meth, c⟩ := z
  intro hF H locs ls hP hM hS hl
  exact lv_icmp_eq hF.1 hF.2.1 hd ht (fun _ => (k hF H locs ls hP hM hS hl)) (fun hc => absurd rfl hc)
theorem j_lcmpT {y : Int64} {off : Int} {tgt : Nat} (hd : decode code pc = .ok (.lcmp, 1)) (hd2 : decode code (pc + 1) = .ok (.ifCond .eq off, 3)) (ht : ((pc + 1 : Nat) : Int) + off = (tgt : Int)) (k : LJ g adx adm b L xs z x μ tgt lv st) : LJ g adx adm b L xs z x μ pc lv (.long y :: .long y :: st) := by
  obtain ⟨p, l, e, s, m, below, meth, c⟩ := z
  intro hF H locs ls hP hM hS hl
  refine W.lcmp hF.1 hF.2.1 hd ?_
  have h0 : lg_cmp y y = 0 := by unfold lg_cmp; simp
  rw [h0]
  exact lv_if_eq hF.1 hF.2.1 hd2 ht (fun _ => (k hF H locs ls hP hM hS hl)) (fun hc => absurd rfl hc)
theorem j_goto {off : Int} {tgt : Nat} (hd : decode code pc = .ok (.goto off, 3)) (ht : (pc : Int) + off = (tgt : Int)) (k : LJ g adx adm b L xs z x μ tgt lv st) : LJ g adx adm b L xs z x μ pc lv st := by
  obtain ⟨p, l, e, s, m, below, meth, c⟩ := z
  intro hF H locs ls hP hM hS hl
  exact lv_goto hF.1 hF.2.1 hd ht (k hF H locs ls hP hM hS hl)
theorem j_iinc {i : Nat} {n : Int} {y v : Int32} (hd : decode code pc = .ok (.iinc i n, 3)) (hx : lk lv i = some (.int y)) (hv : y + Int32.ofInt n = v) (hn : i < 4) (h : ls1 i (.int v) lv = lv') (k : LJ g adx adm b L xs z x μ (pc + 3) lv' st) : LJ g adx adm b L xs z x μ pc lv st := by
  obtain ⟨p, l, e, s, m, below, meth, c⟩ := z
  intro hF H locs ls hP hM hS hl
  obtain ⟨k0, hk0⟩ := List.getElem?_of_mem (lk_mem hx)
  exact lv_iinc hF.1 hF.2.1 hd hl hk0 hv hn h (fun ls hl => k hF H locs ls hP hM hS hl)
theorem j_tin {d lo hi : Int} {offs : Array Int} {len : Nat} {y : Int32} {off : Int} {tgt : Nat} {n : Int32} (hx : y = n) (hd : decode code pc = .ok (.tableswitch d lo hi offs, len)) (h1 : ¬ n.toInt < lo) (h2 : ¬ hi < n.toInt) (ho : offs[(n.toInt - lo).toNat]? = some off) (ht : (pc : Int) + off = (tgt : Int)) (k : LJ g adx adm b L xs z x μ tgt lv st) : LJ g adx adm b L xs z x μ pc lv (.int y :: st) := by
  subst hx
  obtain ⟨p, l, e, s, m, below, meth, c⟩ := z
  intro hF H locs ls hP hM hS hl
  exact lv_tableIn hF.1 hF.2.1 hd h1 h2 ho ht (k hF H locs ls hP hM hS hl)
theorem j_tout {d lo hi : Int} {offs : Array Int} {len : Nat} {y : Int32} {tgt : Nat} (hd : decode code pc = .ok (.tableswitch d lo hi offs, len)) (h : y.toInt < lo ∨ hi < y.toInt) (ht : (pc : Int) + d = (tgt : Int)) (k : LJ g adx adm b L xs z x μ tgt lv st) : LJ g adx adm b L xs z x μ pc lv (.int y :: st) := by
  obtain ⟨p, l, e, s, m, below, meth, c⟩ := z
  intro hF H locs ls hP hM hS hl
  exact lv_tableOut hF.1 hF.2.1 hd h ht (k hF H locs ls hP hM hS hl)
theorem j_sub (ks : List Nat) (h : lv_pick lv ks = lv') (k : LJ g adx adm b L xs z x μ pc lv' st) : LJ g adx adm b L xs z x μ pc lv st := by
  obtain ⟨p, l, e, s, m, below, meth, c⟩ := z
  intro hF H locs ls hP hM hS hl
  exact k hF H locs ls hP hM hS (lv_sub hl ks h)
theorem j_ret (hd : decode code pc = .ok (.ireturn, 1)) : LJ g adx adm b L xs z x μ pc lv [.int 1] := by
  obtain ⟨p, l, e, s, m, below, meth, c⟩ := z
  intro hF H locs ls hP hM hS hl
  refine va_forget (fun q hq => hS.2.2 q hq) ?_
  refine W.widen (k := 600000) (n := 7302250) (by decide) (by decide) ?_
  exact lw_ret hF.1 hF.2.1 hF.2.2.1 hF.2.2.2.2.2.2.2.2.1 hd
end LROWS

/-- a call of the law on one world, the other beside it -/
theorem l_call {p : Program} {l : Launch} {e : Env} {s : State} {m : MethodId} {b0 : Nat} {below : List Frame} {meth : Method} {c : Code} {H : Heap} {locs : List Loc} {Q : State → Prop} {τ ρ : Type} {g : Gt} {Ls : List Nat} {wl : τ → va_W} {inj : ρ → Option Value} {pc nc ns : Nat} {ls : Array Slot} {st rest As : List Value} {r1 : ρ} {σ σ1 : τ} {other : va_W} {f : τ → Option (ρ × τ)} {y : MethodName} {bytes : ByteArray} {maxL k n ix b : Nat} {ret2 : Option FieldType}
    (hx : p.tables.exec = Jvm.exec) (hb : c.code = code) (hml : c.maxLocals = 4) (ho : s.vm.findClass RL = some m.cls) (hts : ∀ w ∈ tb, w.before #[Value.ref b0] s = true) (hK : KG g s) (hE : Ex g (fun q => s.heap.size ≤ q) s s.heap) (hnd : Ls.Nodup) (hwl : ∀ σ : τ, (wl σ).map Prod.fst = Ls) (hge : ∀ a ∈ Ls, s.heap.size ≤ a) (hdis : ∀ a ∈ other.map Prod.fst, a ∉ Ls)
    (hP : va_P g.1 classes (wl σ) H) (hO : va_P g.1 classes other H) (hS : va_S (fun q => s.heap.size ≤ q) s.heap H locs) (hl : ls.size = 4)
    (hrc : RC wl σ b y.cls) (hc : CT g Ls y bytes maxL ret2 k (.ref b :: As) inj wl f) (hf : f σ = some (r1, σ1)) (mi : MV y bytes maxL ret2 n) (hlink : Cond.methodLink RL ix y ∈ tb) (hk : k ≤ 80) (hn : As.length = n) (hst : st = As.reverse ++ .ref b :: rest) (hrest : (rest.map fun v => v.category).sum ≤ 8) (hd : decode code pc = .ok (.invokevirtual ix, 3)) (hnc : nc ≤ 600000) (hns : ns ≤ 7302250)
    (kk : ∀ (H1 : Heap) (locs1 : List Loc), va_P g.1 classes (wl σ1) H1 → va_P g.1 classes other H1 → va_S (fun q => s.heap.size ≤ q) s.heap H1 locs1 → W p l e room_1 s m #[Value.ref b0] below meth c H1 locs1 nc ns Q (F0 m (pc + 3) ls ((inj r1).toList ++ rest))) : W p l e room_1 s m #[Value.ref b0] below meth c H locs nc ns Q (F0 m pc ls st) := by
  have hM := hc hnd hwl l σ H.size r1 σ1 hf
  have hcw := cwV (own := RL) (index := ix) (C := y.cls) (R := room_1) (bytes := bytes) (maxL := maxL) (ret := ret2) (mc := 0) (ms := 0) (Ts := tb) (ws := Cond.code y bytes maxL ret2 :: tb) (ws' := tb) (rm := rmk k) n hts (fun w hw => by
      rcases List.mem_append.mp (show w ∈ ([.methodLink RL ix y, .instanceMethod y, .selects y.cls y y, .initialized y.cls] : List Cond) ++ (Cond.code y bytes maxL ret2 :: tb) from hw) with h | h
      · rcases List.mem_cons.mp h with rfl | h
        · exact tbl_in _ hlink
        · rcases List.mem_cons.mp h with rfl | h
          · exact tbl_in _ mi.2.2.1.1
          · rcases List.mem_cons.mp h with rfl | h
            · exact tbl_in _ mi.2.2.1.2
            · rcases List.mem_cons.mp h with rfl | h
              · exact tbl_in _ mi.2.1
              · cases h
      · exact tbl_inC mi.1 _ h) rfl rfl rfl ⟨rfl, mi.2.2.2.1⟩ ⟨by show k + 1 ≤ 2048; omega, by have := mi.2.2.2.2; show 8 + (maxL + 11) + 100 * k ≤ 84000; omega⟩
  have hAm : ∀ q, AA Ls H.size q → s.heap.size ≤ q := fun q hq => hq.elim (hge q) (fun h => Nat.le_trans hS.1 h)
  obtain ⟨q0, ci, fs, qc, e1, e2, e3⟩ := hrc
  have hrecv := va_recv hK hP e2 e1
  rw [e3] at hrecv
  have hrun := va_runV (l := l) (e := e) (R := room_1) (below := below) (meth := meth) (locs := locs) (cells := nc) (slots := ns) (g := F0 m pc ls st) (b := b) (As := As) (rest := rest) ⟨hx, hb, hml, ho, hts⟩ hM hcw ⟨pre_blind _, hrecv, fun U hU hWm => ⟨rfl, by rw [hU], by rw [hU]; exact hP, va_K.moved hWm.alike hK, by rw [hU]; exact Ex.warm hWm ((hE.kept hS.2.1).narrow hAm)⟩⟩ rfl hn hl hst (lv_room hrest) hd ⟨hnc, hns⟩
  intro T hT X
  obtain ⟨v, st₀, t, T', Lc, h0, X', hL, e1, e2, ⟨hv, hp, hz, hkp⟩, stp⟩ := hrun T hT X
  have hv : v = inj r1 := by injection hv
  subst hv
  rw [h0] at hz hkp
  have hO1 : va_P g.1 classes other t.heap := by
    intro i q hq
    have h1 := hO i q hq
    refine h1.kept (hkp q.1 h1.lt (fun z => ?_))
    rcases z with z | z
    · exact hdis q.1 (List.mem_map.mpr ⟨q, List.mem_of_getElem? hq, rfl⟩) z
    · exact absurd h1.lt (Nat.not_lt.mpr z)
  obtain ⟨t2, a1, b1⟩ := kk T'.heap (locs ++ Lc) (by rw [e1]; exact hp) (by rw [e1]; exact hO1)
    ⟨Nat.le_trans hS.1 (by rw [e1]; exact hz), fun q h1 h2 => by rw [e1, hkp q (Nat.lt_of_lt_of_le h1 hS.1) (fun z => h2 (hAm q z))]; exact hS.2.1 q h1 h2, fun q hq => by
      rcases List.mem_append.mp hq with h | h
      · exact hS.2.2 q h
      · exact hAm _ (hL q h)⟩ T' rfl X'
  exact ⟨t2, stp t2 a1, b1⟩
theorem j_Xi {y : MethodName} {bytes : ByteArray} {maxL k n ix : Nat} {ret2 : Option FieldType} {As rest st : List Value} {g : Gt} {adx adm : Nat → Nat} {b L : Nat} {xs : Nat → Int32} {z : Lt} {x : GX} {μ : GM} {pc : Nat} {lv : List (Nat × Value)} {f : GX → Option (Int32 × GX)} {r : Int32} {x1 : GX} (hc : CT g (LX adx) y bytes maxL ret2 k (.ref (aMain adx) :: As) iI (wX g adx) f) (hf : f x = some (r, x1)) (hy : y.cls = RX4) (mi : MV y bytes maxL ret2 n) (hlink : Cond.methodLink RL ix y ∈ tb) (hk : k ≤ 80) (hn : As.length = n) (hst : st = As.reverse ++ .ref (aMain adx) :: rest) (hrest : (rest.map fun v => v.category).sum ≤ 8) (hd : decode code pc = .ok (.invokevirtual ix, 3)) (kk : LJ g adx adm b L xs z x1 μ (pc + 3) lv (.int r :: rest)) : LJ g adx adm b L xs z x μ pc lv st := by
  obtain ⟨p, l, e, s, m, below, meth, c⟩ := z
  intro hF H locs ls hP hM hS hl
  obtain ⟨hx, hb, hr, hml, ho, hts, hX, hbl, hlk, hK, hE, hnX, hnM, hgX, hgM, hd9⟩ := id hF
  exact l_call (other := wM g adm μ) hx hb hml ho hts hK hE hnX (wX_L g adx) hgX (fun a ha h => hd9 a h (by rw [wM_L] at ha; exact ha)) hP hM hS hl.1 (by rw [hy]; exact rcX4) hc hf mi hlink hk hn hst hrest hd (by decide) (by decide) (fun H1 locs1 h1 h2 h3 => kk hF H1 locs1 ls h1 h2 h3 hl)
theorem j_Mi {y : MethodName} {bytes : ByteArray} {maxL k n ix : Nat} {ret2 : Option FieldType} {As rest st : List Value} {g : Gt} {adx adm : Nat → Nat} {b L : Nat} {xs : Nat → Int32} {z : Lt} {x : GX} {μ : GM} {pc : Nat} {lv : List (Nat × Value)} {f : GM → Option (Int32 × GM)} {r : Int32} {μ1 : GM} (hc : CT g (LM adm) y bytes maxL ret2 k (.ref (aMo adm) :: As) iI (wM g adm) f) (hf : f μ = some (r, μ1)) (hy : y.cls = RX5) (mi : MV y bytes maxL ret2 n) (hlink : Cond.methodLink RL ix y ∈ tb) (hk : k ≤ 80) (hn : As.length = n) (hst : st = As.reverse ++ .ref (aMo adm) :: rest) (hrest : (rest.map fun v => v.category).sum ≤ 8) (hd : decode code pc = .ok (.invokevirtual ix, 3)) (kk : LJ g adx adm b L xs z x μ1 (pc + 3) lv (.int r :: rest)) : LJ g adx adm b L xs z x μ pc lv st := by
  obtain ⟨p, l, e, s, m, below, meth, c⟩ := z
  intro hF H locs ls hP hM hS hl
  obtain ⟨hx, hb, hr, hml, ho, hts, hX, hbl, hlk, hK, hE, hnX, hnM, hgX, hgM, hd9⟩ := id hF
  exact l_call (other := wX g adx x) hx hb hml ho hts hK hE hnM (wM_L g adm) hgM (fun a ha h => hd9 a (by rw [wX_L] at ha; exact ha) h) hM hP hS hl.1 (by rw [hy]; exact rcX5) hc hf mi hlink hk hn hst hrest hd (by decide) (by decide) (fun H1 locs1 h1 h2 h3 => kk hF H1 locs1 ls h2 h1 h3 hl)
theorem j_Xl {y : MethodName} {bytes : ByteArray} {maxL k n ix : Nat} {ret2 : Option FieldType} {As rest st : List Value} {g : Gt} {adx adm : Nat → Nat} {b L : Nat} {xs : Nat → Int32} {z : Lt} {x : GX} {μ : GM} {pc : Nat} {lv : List (Nat × Value)} {f : GX → Option (Int64 × GX)} {r : Int64} {x1 : GX} (hc : CT g (LX adx) y bytes maxL ret2 k (.ref (aMain adx) :: As) iL (wX g adx) f) (hf : f x = some (r, x1)) (hy : y.cls = RX4) (mi : MV y bytes maxL ret2 n) (hlink : Cond.methodLink RL ix y ∈ tb) (hk : k ≤ 80) (hn : As.length = n) (hst : st = As.reverse ++ .ref (aMain adx) :: rest) (hrest : (rest.map fun v => v.category).sum ≤ 8) (hd : decode code pc = .ok (.invokevirtual ix, 3)) (kk : LJ g adx adm b L xs z x1 μ (pc + 3) lv (.long r :: rest)) : LJ g adx adm b L xs z x μ pc lv st := by
  obtain ⟨p, l, e, s, m, below, meth, c⟩ := z
  intro hF H locs ls hP hM hS hl
  obtain ⟨hx, hb, hr, hml, ho, hts, hX, hbl, hlk, hK, hE, hnX, hnM, hgX, hgM, hd9⟩ := id hF
  exact l_call (other := wM g adm μ) hx hb hml ho hts hK hE hnX (wX_L g adx) hgX (fun a ha h => hd9 a h (by rw [wM_L] at ha; exact ha)) hP hM hS hl.1 (by rw [hy]; exact rcX4) hc hf mi hlink hk hn hst hrest hd (by decide) (by decide) (fun H1 locs1 h1 h2 h3 => kk hF H1 locs1 ls h1 h2 h3 hl)
theorem j_Ml {y : MethodName} {bytes : ByteArray} {maxL k n ix : Nat} {ret2 : Option FieldType} {As rest st : List Value} {g : Gt} {adx adm : Nat → Nat} {b L : Nat} {xs : Nat → Int32} {z : Lt} {x : GX} {μ : GM} {pc : Nat} {lv : List (Nat × Value)} {f : GM → Option (Int64 × GM)} {r : Int64} {μ1 : GM} (hc : CT g (LM adm) y bytes maxL ret2 k (.ref (aMo adm) :: As) iL (wM g adm) f) (hf : f μ = some (r, μ1)) (hy : y.cls = RX5) (mi : MV y bytes maxL ret2 n) (hlink : Cond.methodLink RL ix y ∈ tb) (hk : k ≤ 80) (hn : As.length = n) (hst : st = As.reverse ++ .ref (aMo adm) :: rest) (hrest : (rest.map fun v => v.category).sum ≤ 8) (hd : decode code pc = .ok (.invokevirtual ix, 3)) (kk : LJ g adx adm b L xs z x μ1 (pc + 3) lv (.long r :: rest)) : LJ g adx adm b L xs z x μ pc lv st := by
  obtain ⟨p, l, e, s, m, below, meth, c⟩ := z
  intro hF H locs ls hP hM hS hl
  obtain ⟨hx, hb, hr, hml, ho, hts, hX, hbl, hlk, hK, hE, hnX, hnM, hgX, hgM, hd9⟩ := id hF
  exact l_call (other := wX g adx x) hx hb hml ho hts hK hE hnM (wM_L g adm) hgM (fun a ha h => hd9 a (by rw [wX_L] at ha; exact ha) h) hM hP hS hl.1 (by rw [hy]; exact rcX5) hc hf mi hlink hk hn hst hrest hd (by decide) (by decide) (fun H1 locs1 h1 h2 h3 => kk hF H1 locs1 ls h2 h1 h3 hl)
def Eqv {ρ : Type} (RR : GX → GM → Prop) (f : GX → Option (ρ × GX)) (h : GM → Option (ρ × GM)) : Prop := ∀ (x : GX) (μ : GM), RR x μ → ∃ (r : ρ) (x1 : GX) (μ1 : GM), f x = some (r, x1) ∧ h μ = some (r, μ1) ∧ RR x1 μ1
def AllEqv (RR : GX → GM → Prop) : Prop :=
  (∀ a : Int32, Eqv RR (f_X4_count a) (f_X5_count a)) ∧
  (∀ a b : Int32, Eqv RR (f_X4_rock a b) (f_X5_rock a b)) ∧
  (∀ a b : Int32, Eqv RR (f_X4_tell a b) (f_X5_tell a b)) ∧
  (∀ a : Int32, Eqv RR (f_X4_believes a) (f_X5_believes a)) ∧
  (∀ a : Int32, Eqv RR (f_X4_doubts a) (f_X5_doubts a)) ∧
  (∀ a b c d e f : Int32, Eqv RR (f_X4_feed a b c d e f) (f_X5_feed a b c d e f)) ∧
  (Eqv RR (f_X4_text) (f_X5_text)) ∧
  (∀ a : Int32, Eqv RR (f_X4_force a) (f_X5_force a)) ∧
  (∀ a b c : Int32, Eqv RR (f_X4_asks a b c) (f_X5_asks a b c)) ∧
  (∀ a b : Int32, Eqv RR (f_X4_ship a b) (f_X5_ship a b)) ∧
  (∀ a b c : Int32, Eqv RR (f_X4_put a b c) (f_X5_put a b c)) ∧
  (∀ a b : Int32, Eqv RR (f_X4_told a b) (f_X5_told a b)) ∧
  (∀ a b : Int32, Eqv RR (f_X4_likes a b) (f_X5_likes a b)) ∧
  (Eqv RR (f_X4_night) (f_X5_night)) ∧
  (∀ a b : Int32, Eqv RR (f_X4_run a b) (f_X5_run a b)) ∧
  (∀ a b : Int32, Eqv RR (f_X4_lostBy a b) (f_X5_lostBy a b)) ∧
  (∀ a b : Int32, Eqv RR (f_X4_track a b) (f_X5_track a b)) ∧
  (∀ a : Int32, Eqv RR (f_X4_sea a) (f_X5_sea a)) ∧
  (∀ a b c : Int32, Eqv RR (f_X4_lie a b c) (f_X5_lie a b c)) ∧
  (∀ a b : Int32, Eqv RR (f_X4_blow a b) (f_X5_blow a b)) ∧
  (∀ a b : Int32, Eqv RR (f_X4_safe a b) (f_X5_safe a b)) ∧
  (∀ a b c : Int32, Eqv RR (f_X4_trust a b c) (f_X5_trust a b c)) ∧
  (∀ a : Int32, Eqv RR (f_X4_truth a) (f_X5_truth a)) ∧
  (∀ a b : Int32, Eqv RR (f_X4_judge a b) (f_X5_judge a b)) ∧
  (∀ a b c : Int32, Eqv RR (f_X4_kinds a b c) (f_X5_kinds a b c)) ∧
  (∀ a b : Int32, Eqv RR (f_X4_places a b) (f_X5_places a b)) ∧
  (∀ a b c : Int32, Eqv RR (f_X4_draughts a b c) (f_X5_draughts a b c)) ∧
  (∀ a : Int32, Eqv RR (f_X4_whose a) (f_X5_whose a)) ∧
  (∀ a b : Int32, Eqv RR (f_X4_laws a b) (f_X5_laws a b)) ∧
  (∀ a b c : Int32, Eqv RR (f_X4_film a b c) (f_X5_film a b c)) ∧
  (∀ a b c : Int32, Eqv RR (f_X4_drawn a b c) (f_X5_drawn a b c)) ∧
  (∀ a b c d e : Int32, Eqv RR (f_X4_odds a b c d e) (f_X5_odds a b c d e)) ∧
  (Eqv RR (f_X4_image) (f_X5_image)) ∧
  (Eqv RR (f_X4_back) (f_X5_back)) ∧
  (∀ a b c : Int32, Eqv RR (f_X4_sheet a b c) (f_X5_sheet a b c)) ∧
  (∀ a b c : Int32, Eqv RR (f_X4_cell a b c) (f_X5_cell a b c)) ∧
  (∀ a b c d e : Int32, Eqv RR (f_X4_copy a b c d e) (f_X5_copy a b c d e)) ∧
  (∀ a b c d : Int32, Eqv RR (f_X4_shipsBy a b c d) (f_X5_shipsBy a b c d)) ∧
  (∀ a b : Int32, Eqv RR (f_X4_taken a b) (f_X5_taken a b))
def sc (xs : Nat → Int32) (i k : Nat) : Int32 := xs (nI i + Int32.ofNat k).toNatClampNeg
theorem dL_law_0 : decode code 0 = .ok (.new 7, 3) := by decide +kernel
theorem dL_law_3 : decode code 3 = .ok (.dup, 1) := by decide +kernel
theorem dL_law_4 : decode code 4 = .ok (.invokespecial 9, 3) := by decide +kernel
theorem dL_law_7 : decode code 7 = .ok (.astore_n 1, 1) := by decide +kernel
theorem dL_law_8 : decode code 8 = .ok (.new 10, 3) := by decide +kernel
theorem dL_law_11 : decode code 11 = .ok (.dup, 1) := by decide +kernel
theorem dL_law_12 : decode code 12 = .ok (.invokespecial 12, 3) := by decide +kernel
theorem dL_law_15 : decode code 15 = .ok (.astore_n 2, 1) := by decide +kernel
theorem dL_law_16 : decode code 16 = .ok (.iconst 0, 1) := by decide +kernel
theorem dL_law_17 : decode code 17 = .ok (.istore_n 3, 1) := by decide +kernel
theorem dL_law_18 : decode code 18 = .ok (.iload_n 3, 1) := by decide +kernel
theorem dL_law_19 : decode code 19 = .ok (.aload_n 0, 1) := by decide +kernel
theorem dL_law_20 : decode code 20 = .ok (.arraylength, 1) := by decide +kernel
theorem dL_law_21 : decode code 21 = .ok (.bipush 7, 2) := by decide +kernel
theorem dL_law_23 : decode code 23 = .ok (.isub, 1) := by decide +kernel
theorem dL_law_24 : decode code 24 = .ok (.if_icmp .gt 1551, 3) := by decide +kernel
theorem dL_law_27 : decode code 27 = .ok (.aload_n 0, 1) := by decide +kernel
theorem dL_law_28 : decode code 28 = .ok (.iload_n 3, 1) := by decide +kernel
theorem dL_law_29 : decode code 29 = .ok (.iaload, 1) := by decide +kernel
theorem dL_law_30 : decode code 30 = .ok (.bipush 63, 2) := by decide +kernel
theorem dL_law_32 : decode code 32 = .ok (.iand, 1) := by decide +kernel
theorem dL_law_33 : decode code 33 = .ok (.tableswitch 1536 0 38 #[171, 194, 227, 260, 283, 306, 381, 394, 417, 460, 493, 536, 569, 602, 615, 648, 681, 715, 739, 782, 815, 849, 892, 916, 949, 992, 1026, 1069, 1092, 1125, 1168, 1211, 1275, 1288, 1301, 1344, 1387, 1450, 1503], 171) := by decide +kernel
theorem dL_law_204 : decode code 204 = .ok (.aload_n 1, 1) := by decide +kernel
theorem dL_law_205 : decode code 205 = .ok (.aload_n 0, 1) := by decide +kernel
theorem dL_law_206 : decode code 206 = .ok (.iload_n 3, 1) := by decide +kernel
theorem dL_law_207 : decode code 207 = .ok (.iconst 1, 1) := by decide +kernel
theorem dL_law_208 : decode code 208 = .ok (.iadd, 1) := by decide +kernel
theorem dL_law_209 : decode code 209 = .ok (.iaload, 1) := by decide +kernel
theorem dL_law_210 : decode code 210 = .ok (.invokevirtual 13, 3) := by decide +kernel
theorem dL_law_213 : decode code 213 = .ok (.aload_n 2, 1) := by decide +kernel
theorem dL_law_214 : decode code 214 = .ok (.aload_n 0, 1) := by decide +kernel
theorem dL_law_215 : decode code 215 = .ok (.iload_n 3, 1) := by decide +kernel
theorem dL_law_216 : decode code 216 = .ok (.iconst 1, 1) := by decide +kernel
theorem dL_law_217 : decode code 217 = .ok (.iadd, 1) := by decide +kernel
theorem dL_law_218 : decode code 218 = .ok (.iaload, 1) := by decide +kernel
theorem dL_law_219 : decode code 219 = .ok (.invokevirtual 17, 3) := by decide +kernel
theorem dL_law_222 : decode code 222 = .ok (.if_icmp .eq 1347, 3) := by decide +kernel
theorem dL_law_227 : decode code 227 = .ok (.aload_n 1, 1) := by decide +kernel
theorem dL_law_228 : decode code 228 = .ok (.aload_n 0, 1) := by decide +kernel
theorem dL_law_229 : decode code 229 = .ok (.iload_n 3, 1) := by decide +kernel
theorem dL_law_230 : decode code 230 = .ok (.iconst 1, 1) := by decide +kernel
theorem dL_law_231 : decode code 231 = .ok (.iadd, 1) := by decide +kernel
theorem dL_law_232 : decode code 232 = .ok (.iaload, 1) := by decide +kernel
theorem dL_law_233 : decode code 233 = .ok (.aload_n 0, 1) := by decide +kernel
theorem dL_law_234 : decode code 234 = .ok (.iload_n 3, 1) := by decide +kernel
theorem dL_law_235 : decode code 235 = .ok (.iconst 2, 1) := by decide +kernel
theorem dL_law_236 : decode code 236 = .ok (.iadd, 1) := by decide +kernel
theorem dL_law_237 : decode code 237 = .ok (.iaload, 1) := by decide +kernel
theorem dL_law_238 : decode code 238 = .ok (.invokevirtual 18, 3) := by decide +kernel
theorem dL_law_241 : decode code 241 = .ok (.aload_n 2, 1) := by decide +kernel
theorem dL_law_242 : decode code 242 = .ok (.aload_n 0, 1) := by decide +kernel
theorem dL_law_243 : decode code 243 = .ok (.iload_n 3, 1) := by decide +kernel
theorem dL_law_244 : decode code 244 = .ok (.iconst 1, 1) := by decide +kernel
theorem dL_law_245 : decode code 245 = .ok (.iadd, 1) := by decide +kernel
theorem dL_law_246 : decode code 246 = .ok (.iaload, 1) := by decide +kernel
theorem dL_law_247 : decode code 247 = .ok (.aload_n 0, 1) := by decide +kernel
theorem dL_law_248 : decode code 248 = .ok (.iload_n 3, 1) := by decide +kernel
theorem dL_law_249 : decode code 249 = .ok (.iconst 2, 1) := by decide +kernel
theorem dL_law_250 : decode code 250 = .ok (.iadd, 1) := by decide +kernel
theorem dL_law_251 : decode code 251 = .ok (.iaload, 1) := by decide +kernel
theorem dL_law_252 : decode code 252 = .ok (.invokevirtual 22, 3) := by decide +kernel
theorem dL_law_255 : decode code 255 = .ok (.if_icmp .eq 1314, 3) := by decide +kernel
theorem dL_law_260 : decode code 260 = .ok (.aload_n 1, 1) := by decide +kernel
theorem dL_law_261 : decode code 261 = .ok (.aload_n 0, 1) := by decide +kernel
theorem dL_law_262 : decode code 262 = .ok (.iload_n 3, 1) := by decide +kernel
theorem dL_law_263 : decode code 263 = .ok (.iconst 1, 1) := by decide +kernel
theorem dL_law_264 : decode code 264 = .ok (.iadd, 1) := by decide +kernel
theorem dL_law_265 : decode code 265 = .ok (.iaload, 1) := by decide +kernel
theorem dL_law_266 : decode code 266 = .ok (.aload_n 0, 1) := by decide +kernel
theorem dL_law_267 : decode code 267 = .ok (.iload_n 3, 1) := by decide +kernel
theorem dL_law_268 : decode code 268 = .ok (.iconst 2, 1) := by decide +kernel
theorem dL_law_269 : decode code 269 = .ok (.iadd, 1) := by decide +kernel
theorem dL_law_270 : decode code 270 = .ok (.iaload, 1) := by decide +kernel
theorem dL_law_271 : decode code 271 = .ok (.invokevirtual 23, 3) := by decide +kernel
theorem dL_law_274 : decode code 274 = .ok (.aload_n 2, 1) := by decide +kernel
theorem dL_law_275 : decode code 275 = .ok (.aload_n 0, 1) := by decide +kernel
theorem dL_law_276 : decode code 276 = .ok (.iload_n 3, 1) := by decide +kernel
theorem dL_law_277 : decode code 277 = .ok (.iconst 1, 1) := by decide +kernel
theorem dL_law_278 : decode code 278 = .ok (.iadd, 1) := by decide +kernel
theorem dL_law_279 : decode code 279 = .ok (.iaload, 1) := by decide +kernel
theorem dL_law_280 : decode code 280 = .ok (.aload_n 0, 1) := by decide +kernel
theorem dL_law_281 : decode code 281 = .ok (.iload_n 3, 1) := by decide +kernel
theorem dL_law_282 : decode code 282 = .ok (.iconst 2, 1) := by decide +kernel
theorem dL_law_283 : decode code 283 = .ok (.iadd, 1) := by decide +kernel
theorem dL_law_284 : decode code 284 = .ok (.iaload, 1) := by decide +kernel
theorem dL_law_285 : decode code 285 = .ok (.invokevirtual 26, 3) := by decide +kernel
theorem dL_law_288 : decode code 288 = .ok (.if_icmp .eq 1281, 3) := by decide +kernel
theorem dL_law_293 : decode code 293 = .ok (.aload_n 1, 1) := by decide +kernel
theorem dL_law_294 : decode code 294 = .ok (.aload_n 0, 1) := by decide +kernel
theorem dL_law_295 : decode code 295 = .ok (.iload_n 3, 1) := by decide +kernel
theorem dL_law_296 : decode code 296 = .ok (.iconst 1, 1) := by decide +kernel
theorem dL_law_297 : decode code 297 = .ok (.iadd, 1) := by decide +kernel
theorem dL_law_298 : decode code 298 = .ok (.iaload, 1) := by decide +kernel
theorem dL_law_299 : decode code 299 = .ok (.invokevirtual 27, 3) := by decide +kernel
theorem dL_law_302 : decode code 302 = .ok (.aload_n 2, 1) := by decide +kernel
theorem dL_law_303 : decode code 303 = .ok (.aload_n 0, 1) := by decide +kernel
theorem dL_law_304 : decode code 304 = .ok (.iload_n 3, 1) := by decide +kernel
theorem dL_law_305 : decode code 305 = .ok (.iconst 1, 1) := by decide +kernel
theorem dL_law_306 : decode code 306 = .ok (.iadd, 1) := by decide +kernel
theorem dL_law_307 : decode code 307 = .ok (.iaload, 1) := by decide +kernel
theorem dL_law_308 : decode code 308 = .ok (.invokevirtual 30, 3) := by decide +kernel
theorem dL_law_311 : decode code 311 = .ok (.if_icmp .eq 1258, 3) := by decide +kernel
theorem dL_law_316 : decode code 316 = .ok (.aload_n 1, 1) := by decide +kernel
theorem dL_law_317 : decode code 317 = .ok (.aload_n 0, 1) := by decide +kernel
theorem dL_law_318 : decode code 318 = .ok (.iload_n 3, 1) := by decide +kernel
theorem dL_law_319 : decode code 319 = .ok (.iconst 1, 1) := by decide +kernel
theorem dL_law_320 : decode code 320 = .ok (.iadd, 1) := by decide +kernel
theorem dL_law_321 : decode code 321 = .ok (.iaload, 1) := by decide +kernel
theorem dL_law_322 : decode code 322 = .ok (.invokevirtual 31, 3) := by decide +kernel
theorem dL_law_325 : decode code 325 = .ok (.aload_n 2, 1) := by decide +kernel
theorem dL_law_326 : decode code 326 = .ok (.aload_n 0, 1) := by decide +kernel
theorem dL_law_327 : decode code 327 = .ok (.iload_n 3, 1) := by decide +kernel
theorem dL_law_328 : decode code 328 = .ok (.iconst 1, 1) := by decide +kernel
theorem dL_law_329 : decode code 329 = .ok (.iadd, 1) := by decide +kernel
theorem dL_law_330 : decode code 330 = .ok (.iaload, 1) := by decide +kernel
theorem dL_law_331 : decode code 331 = .ok (.invokevirtual 34, 3) := by decide +kernel
theorem dL_law_334 : decode code 334 = .ok (.if_icmp .eq 1235, 3) := by decide +kernel
theorem dL_law_339 : decode code 339 = .ok (.aload_n 1, 1) := by decide +kernel
theorem dL_law_340 : decode code 340 = .ok (.aload_n 0, 1) := by decide +kernel
theorem dL_law_341 : decode code 341 = .ok (.iload_n 3, 1) := by decide +kernel
theorem dL_law_342 : decode code 342 = .ok (.iconst 1, 1) := by decide +kernel
theorem dL_law_343 : decode code 343 = .ok (.iadd, 1) := by decide +kernel
theorem dL_law_344 : decode code 344 = .ok (.iaload, 1) := by decide +kernel
theorem dL_law_345 : decode code 345 = .ok (.aload_n 0, 1) := by decide +kernel
theorem dL_law_346 : decode code 346 = .ok (.iload_n 3, 1) := by decide +kernel
theorem dL_law_347 : decode code 347 = .ok (.iconst 2, 1) := by decide +kernel
theorem dL_law_348 : decode code 348 = .ok (.iadd, 1) := by decide +kernel
theorem dL_law_349 : decode code 349 = .ok (.iaload, 1) := by decide +kernel
theorem dL_law_350 : decode code 350 = .ok (.aload_n 0, 1) := by decide +kernel
theorem dL_law_351 : decode code 351 = .ok (.iload_n 3, 1) := by decide +kernel
theorem dL_law_352 : decode code 352 = .ok (.iconst 3, 1) := by decide +kernel
theorem dL_law_353 : decode code 353 = .ok (.iadd, 1) := by decide +kernel
theorem dL_law_354 : decode code 354 = .ok (.iaload, 1) := by decide +kernel
theorem dL_law_355 : decode code 355 = .ok (.aload_n 0, 1) := by decide +kernel
theorem dL_law_356 : decode code 356 = .ok (.iload_n 3, 1) := by decide +kernel
theorem dL_law_357 : decode code 357 = .ok (.iconst 4, 1) := by decide +kernel
theorem dL_law_358 : decode code 358 = .ok (.iadd, 1) := by decide +kernel
theorem dL_law_359 : decode code 359 = .ok (.iaload, 1) := by decide +kernel
theorem dL_law_360 : decode code 360 = .ok (.aload_n 0, 1) := by decide +kernel
theorem dL_law_361 : decode code 361 = .ok (.iload_n 3, 1) := by decide +kernel
theorem dL_law_362 : decode code 362 = .ok (.iconst 5, 1) := by decide +kernel
theorem dL_law_363 : decode code 363 = .ok (.iadd, 1) := by decide +kernel
theorem dL_law_364 : decode code 364 = .ok (.iaload, 1) := by decide +kernel
theorem dL_law_365 : decode code 365 = .ok (.aload_n 0, 1) := by decide +kernel
theorem dL_law_366 : decode code 366 = .ok (.iload_n 3, 1) := by decide +kernel
theorem dL_law_367 : decode code 367 = .ok (.bipush 6, 2) := by decide +kernel
theorem dL_law_369 : decode code 369 = .ok (.iadd, 1) := by decide +kernel
theorem dL_law_370 : decode code 370 = .ok (.iaload, 1) := by decide +kernel
theorem dL_law_371 : decode code 371 = .ok (.invokevirtual 35, 3) := by decide +kernel
theorem dL_law_374 : decode code 374 = .ok (.aload_n 2, 1) := by decide +kernel
theorem dL_law_375 : decode code 375 = .ok (.aload_n 0, 1) := by decide +kernel
theorem dL_law_376 : decode code 376 = .ok (.iload_n 3, 1) := by decide +kernel
theorem dL_law_377 : decode code 377 = .ok (.iconst 1, 1) := by decide +kernel
theorem dL_law_378 : decode code 378 = .ok (.iadd, 1) := by decide +kernel
theorem dL_law_379 : decode code 379 = .ok (.iaload, 1) := by decide +kernel
theorem dL_law_380 : decode code 380 = .ok (.aload_n 0, 1) := by decide +kernel
theorem dL_law_381 : decode code 381 = .ok (.iload_n 3, 1) := by decide +kernel
theorem dL_law_382 : decode code 382 = .ok (.iconst 2, 1) := by decide +kernel
theorem dL_law_383 : decode code 383 = .ok (.iadd, 1) := by decide +kernel
theorem dL_law_384 : decode code 384 = .ok (.iaload, 1) := by decide +kernel
theorem dL_law_385 : decode code 385 = .ok (.aload_n 0, 1) := by decide +kernel
theorem dL_law_386 : decode code 386 = .ok (.iload_n 3, 1) := by decide +kernel
theorem dL_law_387 : decode code 387 = .ok (.iconst 3, 1) := by decide +kernel
theorem dL_law_388 : decode code 388 = .ok (.iadd, 1) := by decide +kernel
theorem dL_law_389 : decode code 389 = .ok (.iaload, 1) := by decide +kernel
theorem dL_law_390 : decode code 390 = .ok (.aload_n 0, 1) := by decide +kernel
theorem dL_law_391 : decode code 391 = .ok (.iload_n 3, 1) := by decide +kernel
theorem dL_law_392 : decode code 392 = .ok (.iconst 4, 1) := by decide +kernel
theorem dL_law_393 : decode code 393 = .ok (.iadd, 1) := by decide +kernel
theorem dL_law_394 : decode code 394 = .ok (.iaload, 1) := by decide +kernel
theorem dL_law_395 : decode code 395 = .ok (.aload_n 0, 1) := by decide +kernel
theorem dL_law_396 : decode code 396 = .ok (.iload_n 3, 1) := by decide +kernel
theorem dL_law_397 : decode code 397 = .ok (.iconst 5, 1) := by decide +kernel
theorem dL_law_398 : decode code 398 = .ok (.iadd, 1) := by decide +kernel
theorem dL_law_399 : decode code 399 = .ok (.iaload, 1) := by decide +kernel
theorem dL_law_400 : decode code 400 = .ok (.aload_n 0, 1) := by decide +kernel
theorem dL_law_401 : decode code 401 = .ok (.iload_n 3, 1) := by decide +kernel
theorem dL_law_402 : decode code 402 = .ok (.bipush 6, 2) := by decide +kernel
theorem dL_law_404 : decode code 404 = .ok (.iadd, 1) := by decide +kernel
theorem dL_law_405 : decode code 405 = .ok (.iaload, 1) := by decide +kernel
theorem dL_law_406 : decode code 406 = .ok (.invokevirtual 39, 3) := by decide +kernel
theorem dL_law_409 : decode code 409 = .ok (.if_icmp .eq 1160, 3) := by decide +kernel
theorem dL_law_414 : decode code 414 = .ok (.aload_n 1, 1) := by decide +kernel
theorem dL_law_415 : decode code 415 = .ok (.invokevirtual 40, 3) := by decide +kernel
theorem dL_law_418 : decode code 418 = .ok (.aload_n 2, 1) := by decide +kernel
theorem dL_law_419 : decode code 419 = .ok (.invokevirtual 44, 3) := by decide +kernel
theorem dL_law_422 : decode code 422 = .ok (.if_icmp .eq 1147, 3) := by decide +kernel
theorem dL_law_427 : decode code 427 = .ok (.aload_n 1, 1) := by decide +kernel
theorem dL_law_428 : decode code 428 = .ok (.aload_n 0, 1) := by decide +kernel
theorem dL_law_429 : decode code 429 = .ok (.iload_n 3, 1) := by decide +kernel
theorem dL_law_430 : decode code 430 = .ok (.iconst 1, 1) := by decide +kernel
theorem dL_law_431 : decode code 431 = .ok (.iadd, 1) := by decide +kernel
theorem dL_law_432 : decode code 432 = .ok (.iaload, 1) := by decide +kernel
theorem dL_law_433 : decode code 433 = .ok (.invokevirtual 45, 3) := by decide +kernel
theorem dL_law_436 : decode code 436 = .ok (.aload_n 2, 1) := by decide +kernel
theorem dL_law_437 : decode code 437 = .ok (.aload_n 0, 1) := by decide +kernel
theorem dL_law_438 : decode code 438 = .ok (.iload_n 3, 1) := by decide +kernel
theorem dL_law_439 : decode code 439 = .ok (.iconst 1, 1) := by decide +kernel
theorem dL_law_440 : decode code 440 = .ok (.iadd, 1) := by decide +kernel
theorem dL_law_441 : decode code 441 = .ok (.iaload, 1) := by decide +kernel
theorem dL_law_442 : decode code 442 = .ok (.invokevirtual 48, 3) := by decide +kernel
theorem dL_law_445 : decode code 445 = .ok (.if_icmp .eq 1124, 3) := by decide +kernel
theorem dL_law_450 : decode code 450 = .ok (.aload_n 1, 1) := by decide +kernel
theorem dL_law_451 : decode code 451 = .ok (.aload_n 0, 1) := by decide +kernel
theorem dL_law_452 : decode code 452 = .ok (.iload_n 3, 1) := by decide +kernel
theorem dL_law_453 : decode code 453 = .ok (.iconst 1, 1) := by decide +kernel
theorem dL_law_454 : decode code 454 = .ok (.iadd, 1) := by decide +kernel
theorem dL_law_455 : decode code 455 = .ok (.iaload, 1) := by decide +kernel
theorem dL_law_456 : decode code 456 = .ok (.aload_n 0, 1) := by decide +kernel
theorem dL_law_457 : decode code 457 = .ok (.iload_n 3, 1) := by decide +kernel
theorem dL_law_458 : decode code 458 = .ok (.iconst 2, 1) := by decide +kernel
theorem dL_law_459 : decode code 459 = .ok (.iadd, 1) := by decide +kernel
theorem dL_law_460 : decode code 460 = .ok (.iaload, 1) := by decide +kernel
theorem dL_law_461 : decode code 461 = .ok (.aload_n 0, 1) := by decide +kernel
theorem dL_law_462 : decode code 462 = .ok (.iload_n 3, 1) := by decide +kernel
theorem dL_law_463 : decode code 463 = .ok (.iconst 3, 1) := by decide +kernel
theorem dL_law_464 : decode code 464 = .ok (.iadd, 1) := by decide +kernel
theorem dL_law_465 : decode code 465 = .ok (.iaload, 1) := by decide +kernel
theorem dL_law_466 : decode code 466 = .ok (.invokevirtual 49, 3) := by decide +kernel
theorem dL_law_469 : decode code 469 = .ok (.aload_n 2, 1) := by decide +kernel
theorem dL_law_470 : decode code 470 = .ok (.aload_n 0, 1) := by decide +kernel
theorem dL_law_471 : decode code 471 = .ok (.iload_n 3, 1) := by decide +kernel
theorem dL_law_472 : decode code 472 = .ok (.iconst 1, 1) := by decide +kernel
theorem dL_law_473 : decode code 473 = .ok (.iadd, 1) := by decide +kernel
theorem dL_law_474 : decode code 474 = .ok (.iaload, 1) := by decide +kernel
theorem dL_law_475 : decode code 475 = .ok (.aload_n 0, 1) := by decide +kernel
theorem dL_law_476 : decode code 476 = .ok (.iload_n 3, 1) := by decide +kernel
theorem dL_law_477 : decode code 477 = .ok (.iconst 2, 1) := by decide +kernel
theorem dL_law_478 : decode code 478 = .ok (.iadd, 1) := by decide +kernel
theorem dL_law_479 : decode code 479 = .ok (.iaload, 1) := by decide +kernel
theorem dL_law_480 : decode code 480 = .ok (.aload_n 0, 1) := by decide +kernel
theorem dL_law_481 : decode code 481 = .ok (.iload_n 3, 1) := by decide +kernel
theorem dL_law_482 : decode code 482 = .ok (.iconst 3, 1) := by decide +kernel
theorem dL_law_483 : decode code 483 = .ok (.iadd, 1) := by decide +kernel
theorem dL_law_484 : decode code 484 = .ok (.iaload, 1) := by decide +kernel
theorem dL_law_485 : decode code 485 = .ok (.invokevirtual 53, 3) := by decide +kernel
theorem dL_law_488 : decode code 488 = .ok (.if_icmp .eq 1081, 3) := by decide +kernel
theorem dL_law_493 : decode code 493 = .ok (.aload_n 1, 1) := by decide +kernel
theorem dL_law_494 : decode code 494 = .ok (.aload_n 0, 1) := by decide +kernel
theorem dL_law_495 : decode code 495 = .ok (.iload_n 3, 1) := by decide +kernel
theorem dL_law_496 : decode code 496 = .ok (.iconst 1, 1) := by decide +kernel
theorem dL_law_497 : decode code 497 = .ok (.iadd, 1) := by decide +kernel
theorem dL_law_498 : decode code 498 = .ok (.iaload, 1) := by decide +kernel
theorem dL_law_499 : decode code 499 = .ok (.aload_n 0, 1) := by decide +kernel
theorem dL_law_500 : decode code 500 = .ok (.iload_n 3, 1) := by decide +kernel
theorem dL_law_501 : decode code 501 = .ok (.iconst 2, 1) := by decide +kernel
theorem dL_law_502 : decode code 502 = .ok (.iadd, 1) := by decide +kernel
theorem dL_law_503 : decode code 503 = .ok (.iaload, 1) := by decide +kernel
theorem dL_law_504 : decode code 504 = .ok (.invokevirtual 54, 3) := by decide +kernel
theorem dL_law_507 : decode code 507 = .ok (.aload_n 2, 1) := by decide +kernel
theorem dL_law_508 : decode code 508 = .ok (.aload_n 0, 1) := by decide +kernel
theorem dL_law_509 : decode code 509 = .ok (.iload_n 3, 1) := by decide +kernel
theorem dL_law_510 : decode code 510 = .ok (.iconst 1, 1) := by decide +kernel
theorem dL_law_511 : decode code 511 = .ok (.iadd, 1) := by decide +kernel
theorem dL_law_512 : decode code 512 = .ok (.iaload, 1) := by decide +kernel
theorem dL_law_513 : decode code 513 = .ok (.aload_n 0, 1) := by decide +kernel
theorem dL_law_514 : decode code 514 = .ok (.iload_n 3, 1) := by decide +kernel
theorem dL_law_515 : decode code 515 = .ok (.iconst 2, 1) := by decide +kernel
theorem dL_law_516 : decode code 516 = .ok (.iadd, 1) := by decide +kernel
theorem dL_law_517 : decode code 517 = .ok (.iaload, 1) := by decide +kernel
theorem dL_law_518 : decode code 518 = .ok (.invokevirtual 57, 3) := by decide +kernel
theorem dL_law_521 : decode code 521 = .ok (.if_icmp .eq 1048, 3) := by decide +kernel
theorem dL_law_526 : decode code 526 = .ok (.aload_n 1, 1) := by decide +kernel
theorem dL_law_527 : decode code 527 = .ok (.aload_n 0, 1) := by decide +kernel
theorem dL_law_528 : decode code 528 = .ok (.iload_n 3, 1) := by decide +kernel
theorem dL_law_529 : decode code 529 = .ok (.iconst 1, 1) := by decide +kernel
theorem dL_law_530 : decode code 530 = .ok (.iadd, 1) := by decide +kernel
theorem dL_law_531 : decode code 531 = .ok (.iaload, 1) := by decide +kernel
theorem dL_law_532 : decode code 532 = .ok (.aload_n 0, 1) := by decide +kernel
theorem dL_law_533 : decode code 533 = .ok (.iload_n 3, 1) := by decide +kernel
theorem dL_law_534 : decode code 534 = .ok (.iconst 2, 1) := by decide +kernel
theorem dL_law_535 : decode code 535 = .ok (.iadd, 1) := by decide +kernel
theorem dL_law_536 : decode code 536 = .ok (.iaload, 1) := by decide +kernel
theorem dL_law_537 : decode code 537 = .ok (.aload_n 0, 1) := by decide +kernel
theorem dL_law_538 : decode code 538 = .ok (.iload_n 3, 1) := by decide +kernel
theorem dL_law_539 : decode code 539 = .ok (.iconst 3, 1) := by decide +kernel
theorem dL_law_540 : decode code 540 = .ok (.iadd, 1) := by decide +kernel
theorem dL_law_541 : decode code 541 = .ok (.iaload, 1) := by decide +kernel
theorem dL_law_542 : decode code 542 = .ok (.invokevirtual 58, 3) := by decide +kernel
theorem dL_law_545 : decode code 545 = .ok (.aload_n 2, 1) := by decide +kernel
theorem dL_law_546 : decode code 546 = .ok (.aload_n 0, 1) := by decide +kernel
theorem dL_law_547 : decode code 547 = .ok (.iload_n 3, 1) := by decide +kernel
theorem dL_law_548 : decode code 548 = .ok (.iconst 1, 1) := by decide +kernel
theorem dL_law_549 : decode code 549 = .ok (.iadd, 1) := by decide +kernel
theorem dL_law_550 : decode code 550 = .ok (.iaload, 1) := by decide +kernel
theorem dL_law_551 : decode code 551 = .ok (.aload_n 0, 1) := by decide +kernel
theorem dL_law_552 : decode code 552 = .ok (.iload_n 3, 1) := by decide +kernel
theorem dL_law_553 : decode code 553 = .ok (.iconst 2, 1) := by decide +kernel
theorem dL_law_554 : decode code 554 = .ok (.iadd, 1) := by decide +kernel
theorem dL_law_555 : decode code 555 = .ok (.iaload, 1) := by decide +kernel
theorem dL_law_556 : decode code 556 = .ok (.aload_n 0, 1) := by decide +kernel
theorem dL_law_557 : decode code 557 = .ok (.iload_n 3, 1) := by decide +kernel
theorem dL_law_558 : decode code 558 = .ok (.iconst 3, 1) := by decide +kernel
theorem dL_law_559 : decode code 559 = .ok (.iadd, 1) := by decide +kernel
theorem dL_law_560 : decode code 560 = .ok (.iaload, 1) := by decide +kernel
theorem dL_law_561 : decode code 561 = .ok (.invokevirtual 61, 3) := by decide +kernel
theorem dL_law_564 : decode code 564 = .ok (.if_icmp .eq 1005, 3) := by decide +kernel
theorem dL_law_569 : decode code 569 = .ok (.aload_n 1, 1) := by decide +kernel
theorem dL_law_570 : decode code 570 = .ok (.aload_n 0, 1) := by decide +kernel
theorem dL_law_571 : decode code 571 = .ok (.iload_n 3, 1) := by decide +kernel
theorem dL_law_572 : decode code 572 = .ok (.iconst 1, 1) := by decide +kernel
theorem dL_law_573 : decode code 573 = .ok (.iadd, 1) := by decide +kernel
theorem dL_law_574 : decode code 574 = .ok (.iaload, 1) := by decide +kernel
theorem dL_law_575 : decode code 575 = .ok (.aload_n 0, 1) := by decide +kernel
theorem dL_law_576 : decode code 576 = .ok (.iload_n 3, 1) := by decide +kernel
theorem dL_law_577 : decode code 577 = .ok (.iconst 2, 1) := by decide +kernel
theorem dL_law_578 : decode code 578 = .ok (.iadd, 1) := by decide +kernel
theorem dL_law_579 : decode code 579 = .ok (.iaload, 1) := by decide +kernel
theorem dL_law_580 : decode code 580 = .ok (.invokevirtual 62, 3) := by decide +kernel
theorem dL_law_583 : decode code 583 = .ok (.aload_n 2, 1) := by decide +kernel
theorem dL_law_584 : decode code 584 = .ok (.aload_n 0, 1) := by decide +kernel
theorem dL_law_585 : decode code 585 = .ok (.iload_n 3, 1) := by decide +kernel
theorem dL_law_586 : decode code 586 = .ok (.iconst 1, 1) := by decide +kernel
theorem dL_law_587 : decode code 587 = .ok (.iadd, 1) := by decide +kernel
theorem dL_law_588 : decode code 588 = .ok (.iaload, 1) := by decide +kernel
theorem dL_law_589 : decode code 589 = .ok (.aload_n 0, 1) := by decide +kernel
theorem dL_law_590 : decode code 590 = .ok (.iload_n 3, 1) := by decide +kernel
theorem dL_law_591 : decode code 591 = .ok (.iconst 2, 1) := by decide +kernel
theorem dL_law_592 : decode code 592 = .ok (.iadd, 1) := by decide +kernel
theorem dL_law_593 : decode code 593 = .ok (.iaload, 1) := by decide +kernel
theorem dL_law_594 : decode code 594 = .ok (.invokevirtual 65, 3) := by decide +kernel
theorem dL_law_597 : decode code 597 = .ok (.if_icmp .eq 972, 3) := by decide +kernel
theorem dL_law_602 : decode code 602 = .ok (.aload_n 1, 1) := by decide +kernel
theorem dL_law_603 : decode code 603 = .ok (.aload_n 0, 1) := by decide +kernel
theorem dL_law_604 : decode code 604 = .ok (.iload_n 3, 1) := by decide +kernel
theorem dL_law_605 : decode code 605 = .ok (.iconst 1, 1) := by decide +kernel
theorem dL_law_606 : decode code 606 = .ok (.iadd, 1) := by decide +kernel
theorem dL_law_607 : decode code 607 = .ok (.iaload, 1) := by decide +kernel
theorem dL_law_608 : decode code 608 = .ok (.aload_n 0, 1) := by decide +kernel
theorem dL_law_609 : decode code 609 = .ok (.iload_n 3, 1) := by decide +kernel
theorem dL_law_610 : decode code 610 = .ok (.iconst 2, 1) := by decide +kernel
theorem dL_law_611 : decode code 611 = .ok (.iadd, 1) := by decide +kernel
theorem dL_law_612 : decode code 612 = .ok (.iaload, 1) := by decide +kernel
theorem dL_law_613 : decode code 613 = .ok (.invokevirtual 66, 3) := by decide +kernel
theorem dL_law_616 : decode code 616 = .ok (.aload_n 2, 1) := by decide +kernel
theorem dL_law_617 : decode code 617 = .ok (.aload_n 0, 1) := by decide +kernel
theorem dL_law_618 : decode code 618 = .ok (.iload_n 3, 1) := by decide +kernel
theorem dL_law_619 : decode code 619 = .ok (.iconst 1, 1) := by decide +kernel
theorem dL_law_620 : decode code 620 = .ok (.iadd, 1) := by decide +kernel
theorem dL_law_621 : decode code 621 = .ok (.iaload, 1) := by decide +kernel
theorem dL_law_622 : decode code 622 = .ok (.aload_n 0, 1) := by decide +kernel
theorem dL_law_623 : decode code 623 = .ok (.iload_n 3, 1) := by decide +kernel
theorem dL_law_624 : decode code 624 = .ok (.iconst 2, 1) := by decide +kernel
theorem dL_law_625 : decode code 625 = .ok (.iadd, 1) := by decide +kernel
theorem dL_law_626 : decode code 626 = .ok (.iaload, 1) := by decide +kernel
theorem dL_law_627 : decode code 627 = .ok (.invokevirtual 69, 3) := by decide +kernel
theorem dL_law_630 : decode code 630 = .ok (.if_icmp .eq 939, 3) := by decide +kernel
theorem dL_law_635 : decode code 635 = .ok (.aload_n 1, 1) := by decide +kernel
theorem dL_law_636 : decode code 636 = .ok (.invokevirtual 70, 3) := by decide +kernel
theorem dL_law_639 : decode code 639 = .ok (.aload_n 2, 1) := by decide +kernel
theorem dL_law_640 : decode code 640 = .ok (.invokevirtual 73, 3) := by decide +kernel
theorem dL_law_643 : decode code 643 = .ok (.if_icmp .eq 926, 3) := by decide +kernel
theorem dL_law_648 : decode code 648 = .ok (.aload_n 1, 1) := by decide +kernel
theorem dL_law_649 : decode code 649 = .ok (.aload_n 0, 1) := by decide +kernel
theorem dL_law_650 : decode code 650 = .ok (.iload_n 3, 1) := by decide +kernel
theorem dL_law_651 : decode code 651 = .ok (.iconst 1, 1) := by decide +kernel
theorem dL_law_652 : decode code 652 = .ok (.iadd, 1) := by decide +kernel
theorem dL_law_653 : decode code 653 = .ok (.iaload, 1) := by decide +kernel
theorem dL_law_654 : decode code 654 = .ok (.aload_n 0, 1) := by decide +kernel
theorem dL_law_655 : decode code 655 = .ok (.iload_n 3, 1) := by decide +kernel
theorem dL_law_656 : decode code 656 = .ok (.iconst 2, 1) := by decide +kernel
theorem dL_law_657 : decode code 657 = .ok (.iadd, 1) := by decide +kernel
theorem dL_law_658 : decode code 658 = .ok (.iaload, 1) := by decide +kernel
theorem dL_law_659 : decode code 659 = .ok (.invokevirtual 74, 3) := by decide +kernel
theorem dL_law_662 : decode code 662 = .ok (.aload_n 2, 1) := by decide +kernel
theorem dL_law_663 : decode code 663 = .ok (.aload_n 0, 1) := by decide +kernel
theorem dL_law_664 : decode code 664 = .ok (.iload_n 3, 1) := by decide +kernel
theorem dL_law_665 : decode code 665 = .ok (.iconst 1, 1) := by decide +kernel
theorem dL_law_666 : decode code 666 = .ok (.iadd, 1) := by decide +kernel
theorem dL_law_667 : decode code 667 = .ok (.iaload, 1) := by decide +kernel
theorem dL_law_668 : decode code 668 = .ok (.aload_n 0, 1) := by decide +kernel
theorem dL_law_669 : decode code 669 = .ok (.iload_n 3, 1) := by decide +kernel
theorem dL_law_670 : decode code 670 = .ok (.iconst 2, 1) := by decide +kernel
theorem dL_law_671 : decode code 671 = .ok (.iadd, 1) := by decide +kernel
theorem dL_law_672 : decode code 672 = .ok (.iaload, 1) := by decide +kernel
theorem dL_law_673 : decode code 673 = .ok (.invokevirtual 77, 3) := by decide +kernel
theorem dL_law_676 : decode code 676 = .ok (.if_icmp .eq 893, 3) := by decide +kernel
theorem dL_law_681 : decode code 681 = .ok (.aload_n 1, 1) := by decide +kernel
theorem dL_law_682 : decode code 682 = .ok (.aload_n 0, 1) := by decide +kernel
theorem dL_law_683 : decode code 683 = .ok (.iload_n 3, 1) := by decide +kernel
theorem dL_law_684 : decode code 684 = .ok (.iconst 1, 1) := by decide +kernel
theorem dL_law_685 : decode code 685 = .ok (.iadd, 1) := by decide +kernel
theorem dL_law_686 : decode code 686 = .ok (.iaload, 1) := by decide +kernel
theorem dL_law_687 : decode code 687 = .ok (.aload_n 0, 1) := by decide +kernel
theorem dL_law_688 : decode code 688 = .ok (.iload_n 3, 1) := by decide +kernel
theorem dL_law_689 : decode code 689 = .ok (.iconst 2, 1) := by decide +kernel
theorem dL_law_690 : decode code 690 = .ok (.iadd, 1) := by decide +kernel
theorem dL_law_691 : decode code 691 = .ok (.iaload, 1) := by decide +kernel
theorem dL_law_692 : decode code 692 = .ok (.invokevirtual 78, 3) := by decide +kernel
theorem dL_law_695 : decode code 695 = .ok (.aload_n 2, 1) := by decide +kernel
theorem dL_law_696 : decode code 696 = .ok (.aload_n 0, 1) := by decide +kernel
theorem dL_law_697 : decode code 697 = .ok (.iload_n 3, 1) := by decide +kernel
theorem dL_law_698 : decode code 698 = .ok (.iconst 1, 1) := by decide +kernel
theorem dL_law_699 : decode code 699 = .ok (.iadd, 1) := by decide +kernel
theorem dL_law_700 : decode code 700 = .ok (.iaload, 1) := by decide +kernel
theorem dL_law_701 : decode code 701 = .ok (.aload_n 0, 1) := by decide +kernel
theorem dL_law_702 : decode code 702 = .ok (.iload_n 3, 1) := by decide +kernel
theorem dL_law_703 : decode code 703 = .ok (.iconst 2, 1) := by decide +kernel
theorem dL_law_704 : decode code 704 = .ok (.iadd, 1) := by decide +kernel
theorem dL_law_705 : decode code 705 = .ok (.iaload, 1) := by decide +kernel
theorem dL_law_706 : decode code 706 = .ok (.invokevirtual 81, 3) := by decide +kernel
theorem dL_law_709 : decode code 709 = .ok (.if_icmp .eq 860, 3) := by decide +kernel
theorem dL_law_714 : decode code 714 = .ok (.aload_n 1, 1) := by decide +kernel
theorem dL_law_715 : decode code 715 = .ok (.aload_n 0, 1) := by decide +kernel
theorem dL_law_716 : decode code 716 = .ok (.iload_n 3, 1) := by decide +kernel
theorem dL_law_717 : decode code 717 = .ok (.iconst 1, 1) := by decide +kernel
theorem dL_law_718 : decode code 718 = .ok (.iadd, 1) := by decide +kernel
theorem dL_law_719 : decode code 719 = .ok (.iaload, 1) := by decide +kernel
theorem dL_law_720 : decode code 720 = .ok (.aload_n 0, 1) := by decide +kernel
theorem dL_law_721 : decode code 721 = .ok (.iload_n 3, 1) := by decide +kernel
theorem dL_law_722 : decode code 722 = .ok (.iconst 2, 1) := by decide +kernel
theorem dL_law_723 : decode code 723 = .ok (.iadd, 1) := by decide +kernel
theorem dL_law_724 : decode code 724 = .ok (.iaload, 1) := by decide +kernel
theorem dL_law_725 : decode code 725 = .ok (.invokevirtual 82, 3) := by decide +kernel
theorem dL_law_728 : decode code 728 = .ok (.aload_n 2, 1) := by decide +kernel
theorem dL_law_729 : decode code 729 = .ok (.aload_n 0, 1) := by decide +kernel
theorem dL_law_730 : decode code 730 = .ok (.iload_n 3, 1) := by decide +kernel
theorem dL_law_731 : decode code 731 = .ok (.iconst 1, 1) := by decide +kernel
theorem dL_law_732 : decode code 732 = .ok (.iadd, 1) := by decide +kernel
theorem dL_law_733 : decode code 733 = .ok (.iaload, 1) := by decide +kernel
theorem dL_law_734 : decode code 734 = .ok (.aload_n 0, 1) := by decide +kernel
theorem dL_law_735 : decode code 735 = .ok (.iload_n 3, 1) := by decide +kernel
theorem dL_law_736 : decode code 736 = .ok (.iconst 2, 1) := by decide +kernel
theorem dL_law_737 : decode code 737 = .ok (.iadd, 1) := by decide +kernel
theorem dL_law_738 : decode code 738 = .ok (.iaload, 1) := by decide +kernel
theorem dL_law_739 : decode code 739 = .ok (.invokevirtual 86, 3) := by decide +kernel
theorem dL_law_742 : decode code 742 = .ok (.lcmp, 1) := by decide +kernel
theorem dL_law_743 : decode code 743 = .ok (.ifCond .eq 826, 3) := by decide +kernel
theorem dL_law_748 : decode code 748 = .ok (.aload_n 1, 1) := by decide +kernel
theorem dL_law_749 : decode code 749 = .ok (.aload_n 0, 1) := by decide +kernel
theorem dL_law_750 : decode code 750 = .ok (.iload_n 3, 1) := by decide +kernel
theorem dL_law_751 : decode code 751 = .ok (.iconst 1, 1) := by decide +kernel
theorem dL_law_752 : decode code 752 = .ok (.iadd, 1) := by decide +kernel
theorem dL_law_753 : decode code 753 = .ok (.iaload, 1) := by decide +kernel
theorem dL_law_754 : decode code 754 = .ok (.invokevirtual 87, 3) := by decide +kernel
theorem dL_law_757 : decode code 757 = .ok (.aload_n 2, 1) := by decide +kernel
theorem dL_law_758 : decode code 758 = .ok (.aload_n 0, 1) := by decide +kernel
theorem dL_law_759 : decode code 759 = .ok (.iload_n 3, 1) := by decide +kernel
theorem dL_law_760 : decode code 760 = .ok (.iconst 1, 1) := by decide +kernel
theorem dL_law_761 : decode code 761 = .ok (.iadd, 1) := by decide +kernel
theorem dL_law_762 : decode code 762 = .ok (.iaload, 1) := by decide +kernel
theorem dL_law_763 : decode code 763 = .ok (.invokevirtual 91, 3) := by decide +kernel
theorem dL_law_766 : decode code 766 = .ok (.lcmp, 1) := by decide +kernel
theorem dL_law_767 : decode code 767 = .ok (.ifCond .eq 802, 3) := by decide +kernel
theorem dL_law_772 : decode code 772 = .ok (.aload_n 1, 1) := by decide +kernel
theorem dL_law_773 : decode code 773 = .ok (.aload_n 0, 1) := by decide +kernel
theorem dL_law_774 : decode code 774 = .ok (.iload_n 3, 1) := by decide +kernel
theorem dL_law_775 : decode code 775 = .ok (.iconst 1, 1) := by decide +kernel
theorem dL_law_776 : decode code 776 = .ok (.iadd, 1) := by decide +kernel
theorem dL_law_777 : decode code 777 = .ok (.iaload, 1) := by decide +kernel
theorem dL_law_778 : decode code 778 = .ok (.aload_n 0, 1) := by decide +kernel
theorem dL_law_779 : decode code 779 = .ok (.iload_n 3, 1) := by decide +kernel
theorem dL_law_780 : decode code 780 = .ok (.iconst 2, 1) := by decide +kernel
theorem dL_law_781 : decode code 781 = .ok (.iadd, 1) := by decide +kernel
theorem dL_law_782 : decode code 782 = .ok (.iaload, 1) := by decide +kernel
theorem dL_law_783 : decode code 783 = .ok (.aload_n 0, 1) := by decide +kernel
theorem dL_law_784 : decode code 784 = .ok (.iload_n 3, 1) := by decide +kernel
theorem dL_law_785 : decode code 785 = .ok (.iconst 3, 1) := by decide +kernel
theorem dL_law_786 : decode code 786 = .ok (.iadd, 1) := by decide +kernel
theorem dL_law_787 : decode code 787 = .ok (.iaload, 1) := by decide +kernel
theorem dL_law_788 : decode code 788 = .ok (.invokevirtual 92, 3) := by decide +kernel
theorem dL_law_791 : decode code 791 = .ok (.aload_n 2, 1) := by decide +kernel
theorem dL_law_792 : decode code 792 = .ok (.aload_n 0, 1) := by decide +kernel
theorem dL_law_793 : decode code 793 = .ok (.iload_n 3, 1) := by decide +kernel
theorem dL_law_794 : decode code 794 = .ok (.iconst 1, 1) := by decide +kernel
theorem dL_law_795 : decode code 795 = .ok (.iadd, 1) := by decide +kernel
theorem dL_law_796 : decode code 796 = .ok (.iaload, 1) := by decide +kernel
theorem dL_law_797 : decode code 797 = .ok (.aload_n 0, 1) := by decide +kernel
theorem dL_law_798 : decode code 798 = .ok (.iload_n 3, 1) := by decide +kernel
theorem dL_law_799 : decode code 799 = .ok (.iconst 2, 1) := by decide +kernel
theorem dL_law_800 : decode code 800 = .ok (.iadd, 1) := by decide +kernel
theorem dL_law_801 : decode code 801 = .ok (.iaload, 1) := by decide +kernel
theorem dL_law_802 : decode code 802 = .ok (.aload_n 0, 1) := by decide +kernel
theorem dL_law_803 : decode code 803 = .ok (.iload_n 3, 1) := by decide +kernel
theorem dL_law_804 : decode code 804 = .ok (.iconst 3, 1) := by decide +kernel
theorem dL_law_805 : decode code 805 = .ok (.iadd, 1) := by decide +kernel
theorem dL_law_806 : decode code 806 = .ok (.iaload, 1) := by decide +kernel
theorem dL_law_807 : decode code 807 = .ok (.invokevirtual 95, 3) := by decide +kernel
theorem dL_law_810 : decode code 810 = .ok (.if_icmp .eq 759, 3) := by decide +kernel
theorem dL_law_815 : decode code 815 = .ok (.aload_n 1, 1) := by decide +kernel
theorem dL_law_816 : decode code 816 = .ok (.aload_n 0, 1) := by decide +kernel
theorem dL_law_817 : decode code 817 = .ok (.iload_n 3, 1) := by decide +kernel
theorem dL_law_818 : decode code 818 = .ok (.iconst 1, 1) := by decide +kernel
theorem dL_law_819 : decode code 819 = .ok (.iadd, 1) := by decide +kernel
theorem dL_law_820 : decode code 820 = .ok (.iaload, 1) := by decide +kernel
theorem dL_law_821 : decode code 821 = .ok (.aload_n 0, 1) := by decide +kernel
theorem dL_law_822 : decode code 822 = .ok (.iload_n 3, 1) := by decide +kernel
theorem dL_law_823 : decode code 823 = .ok (.iconst 2, 1) := by decide +kernel
theorem dL_law_824 : decode code 824 = .ok (.iadd, 1) := by decide +kernel
theorem dL_law_825 : decode code 825 = .ok (.iaload, 1) := by decide +kernel
theorem dL_law_826 : decode code 826 = .ok (.invokevirtual 96, 3) := by decide +kernel
theorem dL_law_829 : decode code 829 = .ok (.aload_n 2, 1) := by decide +kernel
theorem dL_law_830 : decode code 830 = .ok (.aload_n 0, 1) := by decide +kernel
theorem dL_law_831 : decode code 831 = .ok (.iload_n 3, 1) := by decide +kernel
theorem dL_law_832 : decode code 832 = .ok (.iconst 1, 1) := by decide +kernel
theorem dL_law_833 : decode code 833 = .ok (.iadd, 1) := by decide +kernel
theorem dL_law_834 : decode code 834 = .ok (.iaload, 1) := by decide +kernel
theorem dL_law_835 : decode code 835 = .ok (.aload_n 0, 1) := by decide +kernel
theorem dL_law_836 : decode code 836 = .ok (.iload_n 3, 1) := by decide +kernel
theorem dL_law_837 : decode code 837 = .ok (.iconst 2, 1) := by decide +kernel
theorem dL_law_838 : decode code 838 = .ok (.iadd, 1) := by decide +kernel
theorem dL_law_839 : decode code 839 = .ok (.iaload, 1) := by decide +kernel
theorem dL_law_840 : decode code 840 = .ok (.invokevirtual 99, 3) := by decide +kernel
theorem dL_law_843 : decode code 843 = .ok (.if_icmp .eq 726, 3) := by decide +kernel
theorem dL_law_848 : decode code 848 = .ok (.aload_n 1, 1) := by decide +kernel
theorem dL_law_849 : decode code 849 = .ok (.aload_n 0, 1) := by decide +kernel
theorem dL_law_850 : decode code 850 = .ok (.iload_n 3, 1) := by decide +kernel
theorem dL_law_851 : decode code 851 = .ok (.iconst 1, 1) := by decide +kernel
theorem dL_law_852 : decode code 852 = .ok (.iadd, 1) := by decide +kernel
theorem dL_law_853 : decode code 853 = .ok (.iaload, 1) := by decide +kernel
theorem dL_law_854 : decode code 854 = .ok (.aload_n 0, 1) := by decide +kernel
theorem dL_law_855 : decode code 855 = .ok (.iload_n 3, 1) := by decide +kernel
theorem dL_law_856 : decode code 856 = .ok (.iconst 2, 1) := by decide +kernel
theorem dL_law_857 : decode code 857 = .ok (.iadd, 1) := by decide +kernel
theorem dL_law_858 : decode code 858 = .ok (.iaload, 1) := by decide +kernel
theorem dL_law_859 : decode code 859 = .ok (.invokevirtual 100, 3) := by decide +kernel
theorem dL_law_862 : decode code 862 = .ok (.aload_n 2, 1) := by decide +kernel
theorem dL_law_863 : decode code 863 = .ok (.aload_n 0, 1) := by decide +kernel
theorem dL_law_864 : decode code 864 = .ok (.iload_n 3, 1) := by decide +kernel
theorem dL_law_865 : decode code 865 = .ok (.iconst 1, 1) := by decide +kernel
theorem dL_law_866 : decode code 866 = .ok (.iadd, 1) := by decide +kernel
theorem dL_law_867 : decode code 867 = .ok (.iaload, 1) := by decide +kernel
theorem dL_law_868 : decode code 868 = .ok (.aload_n 0, 1) := by decide +kernel
theorem dL_law_869 : decode code 869 = .ok (.iload_n 3, 1) := by decide +kernel
theorem dL_law_870 : decode code 870 = .ok (.iconst 2, 1) := by decide +kernel
theorem dL_law_871 : decode code 871 = .ok (.iadd, 1) := by decide +kernel
theorem dL_law_872 : decode code 872 = .ok (.iaload, 1) := by decide +kernel
theorem dL_law_873 : decode code 873 = .ok (.invokevirtual 103, 3) := by decide +kernel
theorem dL_law_876 : decode code 876 = .ok (.lcmp, 1) := by decide +kernel
theorem dL_law_877 : decode code 877 = .ok (.ifCond .eq 692, 3) := by decide +kernel
theorem dL_law_882 : decode code 882 = .ok (.aload_n 1, 1) := by decide +kernel
theorem dL_law_883 : decode code 883 = .ok (.aload_n 0, 1) := by decide +kernel
theorem dL_law_884 : decode code 884 = .ok (.iload_n 3, 1) := by decide +kernel
theorem dL_law_885 : decode code 885 = .ok (.iconst 1, 1) := by decide +kernel
theorem dL_law_886 : decode code 886 = .ok (.iadd, 1) := by decide +kernel
theorem dL_law_887 : decode code 887 = .ok (.iaload, 1) := by decide +kernel
theorem dL_law_888 : decode code 888 = .ok (.aload_n 0, 1) := by decide +kernel
theorem dL_law_889 : decode code 889 = .ok (.iload_n 3, 1) := by decide +kernel
theorem dL_law_890 : decode code 890 = .ok (.iconst 2, 1) := by decide +kernel
theorem dL_law_891 : decode code 891 = .ok (.iadd, 1) := by decide +kernel
theorem dL_law_892 : decode code 892 = .ok (.iaload, 1) := by decide +kernel
theorem dL_law_893 : decode code 893 = .ok (.aload_n 0, 1) := by decide +kernel
theorem dL_law_894 : decode code 894 = .ok (.iload_n 3, 1) := by decide +kernel
theorem dL_law_895 : decode code 895 = .ok (.iconst 3, 1) := by decide +kernel
theorem dL_law_896 : decode code 896 = .ok (.iadd, 1) := by decide +kernel
theorem dL_law_897 : decode code 897 = .ok (.iaload, 1) := by decide +kernel
theorem dL_law_898 : decode code 898 = .ok (.invokevirtual 104, 3) := by decide +kernel
theorem dL_law_901 : decode code 901 = .ok (.aload_n 2, 1) := by decide +kernel
theorem dL_law_902 : decode code 902 = .ok (.aload_n 0, 1) := by decide +kernel
theorem dL_law_903 : decode code 903 = .ok (.iload_n 3, 1) := by decide +kernel
theorem dL_law_904 : decode code 904 = .ok (.iconst 1, 1) := by decide +kernel
theorem dL_law_905 : decode code 905 = .ok (.iadd, 1) := by decide +kernel
theorem dL_law_906 : decode code 906 = .ok (.iaload, 1) := by decide +kernel
theorem dL_law_907 : decode code 907 = .ok (.aload_n 0, 1) := by decide +kernel
theorem dL_law_908 : decode code 908 = .ok (.iload_n 3, 1) := by decide +kernel
theorem dL_law_909 : decode code 909 = .ok (.iconst 2, 1) := by decide +kernel
theorem dL_law_910 : decode code 910 = .ok (.iadd, 1) := by decide +kernel
theorem dL_law_911 : decode code 911 = .ok (.iaload, 1) := by decide +kernel
theorem dL_law_912 : decode code 912 = .ok (.aload_n 0, 1) := by decide +kernel
theorem dL_law_913 : decode code 913 = .ok (.iload_n 3, 1) := by decide +kernel
theorem dL_law_914 : decode code 914 = .ok (.iconst 3, 1) := by decide +kernel
theorem dL_law_915 : decode code 915 = .ok (.iadd, 1) := by decide +kernel
theorem dL_law_916 : decode code 916 = .ok (.iaload, 1) := by decide +kernel
theorem dL_law_917 : decode code 917 = .ok (.invokevirtual 107, 3) := by decide +kernel
theorem dL_law_920 : decode code 920 = .ok (.if_icmp .eq 649, 3) := by decide +kernel
theorem dL_law_925 : decode code 925 = .ok (.aload_n 1, 1) := by decide +kernel
theorem dL_law_926 : decode code 926 = .ok (.aload_n 0, 1) := by decide +kernel
theorem dL_law_927 : decode code 927 = .ok (.iload_n 3, 1) := by decide +kernel
theorem dL_law_928 : decode code 928 = .ok (.iconst 1, 1) := by decide +kernel
theorem dL_law_929 : decode code 929 = .ok (.iadd, 1) := by decide +kernel
theorem dL_law_930 : decode code 930 = .ok (.iaload, 1) := by decide +kernel
theorem dL_law_931 : decode code 931 = .ok (.invokevirtual 108, 3) := by decide +kernel
theorem dL_law_934 : decode code 934 = .ok (.aload_n 2, 1) := by decide +kernel
theorem dL_law_935 : decode code 935 = .ok (.aload_n 0, 1) := by decide +kernel
theorem dL_law_936 : decode code 936 = .ok (.iload_n 3, 1) := by decide +kernel
theorem dL_law_937 : decode code 937 = .ok (.iconst 1, 1) := by decide +kernel
theorem dL_law_938 : decode code 938 = .ok (.iadd, 1) := by decide +kernel
theorem dL_law_939 : decode code 939 = .ok (.iaload, 1) := by decide +kernel
theorem dL_law_940 : decode code 940 = .ok (.invokevirtual 111, 3) := by decide +kernel
theorem dL_law_943 : decode code 943 = .ok (.lcmp, 1) := by decide +kernel
theorem dL_law_944 : decode code 944 = .ok (.ifCond .eq 625, 3) := by decide +kernel
theorem dL_law_949 : decode code 949 = .ok (.aload_n 1, 1) := by decide +kernel
theorem dL_law_950 : decode code 950 = .ok (.aload_n 0, 1) := by decide +kernel
theorem dL_law_951 : decode code 951 = .ok (.iload_n 3, 1) := by decide +kernel
theorem dL_law_952 : decode code 952 = .ok (.iconst 1, 1) := by decide +kernel
theorem dL_law_953 : decode code 953 = .ok (.iadd, 1) := by decide +kernel
theorem dL_law_954 : decode code 954 = .ok (.iaload, 1) := by decide +kernel
theorem dL_law_955 : decode code 955 = .ok (.aload_n 0, 1) := by decide +kernel
theorem dL_law_956 : decode code 956 = .ok (.iload_n 3, 1) := by decide +kernel
theorem dL_law_957 : decode code 957 = .ok (.iconst 2, 1) := by decide +kernel
theorem dL_law_958 : decode code 958 = .ok (.iadd, 1) := by decide +kernel
theorem dL_law_959 : decode code 959 = .ok (.iaload, 1) := by decide +kernel
theorem dL_law_960 : decode code 960 = .ok (.invokevirtual 112, 3) := by decide +kernel
theorem dL_law_963 : decode code 963 = .ok (.aload_n 2, 1) := by decide +kernel
theorem dL_law_964 : decode code 964 = .ok (.aload_n 0, 1) := by decide +kernel
theorem dL_law_965 : decode code 965 = .ok (.iload_n 3, 1) := by decide +kernel
theorem dL_law_966 : decode code 966 = .ok (.iconst 1, 1) := by decide +kernel
theorem dL_law_967 : decode code 967 = .ok (.iadd, 1) := by decide +kernel
theorem dL_law_968 : decode code 968 = .ok (.iaload, 1) := by decide +kernel
theorem dL_law_969 : decode code 969 = .ok (.aload_n 0, 1) := by decide +kernel
theorem dL_law_970 : decode code 970 = .ok (.iload_n 3, 1) := by decide +kernel
theorem dL_law_971 : decode code 971 = .ok (.iconst 2, 1) := by decide +kernel
theorem dL_law_972 : decode code 972 = .ok (.iadd, 1) := by decide +kernel
theorem dL_law_973 : decode code 973 = .ok (.iaload, 1) := by decide +kernel
theorem dL_law_974 : decode code 974 = .ok (.invokevirtual 115, 3) := by decide +kernel
theorem dL_law_977 : decode code 977 = .ok (.if_icmp .eq 592, 3) := by decide +kernel
theorem dL_law_982 : decode code 982 = .ok (.aload_n 1, 1) := by decide +kernel
theorem dL_law_983 : decode code 983 = .ok (.aload_n 0, 1) := by decide +kernel
theorem dL_law_984 : decode code 984 = .ok (.iload_n 3, 1) := by decide +kernel
theorem dL_law_985 : decode code 985 = .ok (.iconst 1, 1) := by decide +kernel
theorem dL_law_986 : decode code 986 = .ok (.iadd, 1) := by decide +kernel
theorem dL_law_987 : decode code 987 = .ok (.iaload, 1) := by decide +kernel
theorem dL_law_988 : decode code 988 = .ok (.aload_n 0, 1) := by decide +kernel
theorem dL_law_989 : decode code 989 = .ok (.iload_n 3, 1) := by decide +kernel
theorem dL_law_990 : decode code 990 = .ok (.iconst 2, 1) := by decide +kernel
theorem dL_law_991 : decode code 991 = .ok (.iadd, 1) := by decide +kernel
theorem dL_law_992 : decode code 992 = .ok (.iaload, 1) := by decide +kernel
theorem dL_law_993 : decode code 993 = .ok (.aload_n 0, 1) := by decide +kernel
theorem dL_law_994 : decode code 994 = .ok (.iload_n 3, 1) := by decide +kernel
theorem dL_law_995 : decode code 995 = .ok (.iconst 3, 1) := by decide +kernel
theorem dL_law_996 : decode code 996 = .ok (.iadd, 1) := by decide +kernel
theorem dL_law_997 : decode code 997 = .ok (.iaload, 1) := by decide +kernel
theorem dL_law_998 : decode code 998 = .ok (.invokevirtual 116, 3) := by decide +kernel
theorem dL_law_1001 : decode code 1001 = .ok (.aload_n 2, 1) := by decide +kernel
theorem dL_law_1002 : decode code 1002 = .ok (.aload_n 0, 1) := by decide +kernel
theorem dL_law_1003 : decode code 1003 = .ok (.iload_n 3, 1) := by decide +kernel
theorem dL_law_1004 : decode code 1004 = .ok (.iconst 1, 1) := by decide +kernel
theorem dL_law_1005 : decode code 1005 = .ok (.iadd, 1) := by decide +kernel
theorem dL_law_1006 : decode code 1006 = .ok (.iaload, 1) := by decide +kernel
theorem dL_law_1007 : decode code 1007 = .ok (.aload_n 0, 1) := by decide +kernel
theorem dL_law_1008 : decode code 1008 = .ok (.iload_n 3, 1) := by decide +kernel
theorem dL_law_1009 : decode code 1009 = .ok (.iconst 2, 1) := by decide +kernel
theorem dL_law_1010 : decode code 1010 = .ok (.iadd, 1) := by decide +kernel
theorem dL_law_1011 : decode code 1011 = .ok (.iaload, 1) := by decide +kernel
theorem dL_law_1012 : decode code 1012 = .ok (.aload_n 0, 1) := by decide +kernel
theorem dL_law_1013 : decode code 1013 = .ok (.iload_n 3, 1) := by decide +kernel
theorem dL_law_1014 : decode code 1014 = .ok (.iconst 3, 1) := by decide +kernel
theorem dL_law_1015 : decode code 1015 = .ok (.iadd, 1) := by decide +kernel
theorem dL_law_1016 : decode code 1016 = .ok (.iaload, 1) := by decide +kernel
theorem dL_law_1017 : decode code 1017 = .ok (.invokevirtual 119, 3) := by decide +kernel
theorem dL_law_1020 : decode code 1020 = .ok (.if_icmp .eq 549, 3) := by decide +kernel
theorem dL_law_1025 : decode code 1025 = .ok (.aload_n 1, 1) := by decide +kernel
theorem dL_law_1026 : decode code 1026 = .ok (.aload_n 0, 1) := by decide +kernel
theorem dL_law_1027 : decode code 1027 = .ok (.iload_n 3, 1) := by decide +kernel
theorem dL_law_1028 : decode code 1028 = .ok (.iconst 1, 1) := by decide +kernel
theorem dL_law_1029 : decode code 1029 = .ok (.iadd, 1) := by decide +kernel
theorem dL_law_1030 : decode code 1030 = .ok (.iaload, 1) := by decide +kernel
theorem dL_law_1031 : decode code 1031 = .ok (.aload_n 0, 1) := by decide +kernel
theorem dL_law_1032 : decode code 1032 = .ok (.iload_n 3, 1) := by decide +kernel
theorem dL_law_1033 : decode code 1033 = .ok (.iconst 2, 1) := by decide +kernel
theorem dL_law_1034 : decode code 1034 = .ok (.iadd, 1) := by decide +kernel
theorem dL_law_1035 : decode code 1035 = .ok (.iaload, 1) := by decide +kernel
theorem dL_law_1036 : decode code 1036 = .ok (.invokevirtual 120, 3) := by decide +kernel
theorem dL_law_1039 : decode code 1039 = .ok (.aload_n 2, 1) := by decide +kernel
theorem dL_law_1040 : decode code 1040 = .ok (.aload_n 0, 1) := by decide +kernel
theorem dL_law_1041 : decode code 1041 = .ok (.iload_n 3, 1) := by decide +kernel
theorem dL_law_1042 : decode code 1042 = .ok (.iconst 1, 1) := by decide +kernel
theorem dL_law_1043 : decode code 1043 = .ok (.iadd, 1) := by decide +kernel
theorem dL_law_1044 : decode code 1044 = .ok (.iaload, 1) := by decide +kernel
theorem dL_law_1045 : decode code 1045 = .ok (.aload_n 0, 1) := by decide +kernel
theorem dL_law_1046 : decode code 1046 = .ok (.iload_n 3, 1) := by decide +kernel
theorem dL_law_1047 : decode code 1047 = .ok (.iconst 2, 1) := by decide +kernel
theorem dL_law_1048 : decode code 1048 = .ok (.iadd, 1) := by decide +kernel
theorem dL_law_1049 : decode code 1049 = .ok (.iaload, 1) := by decide +kernel
theorem dL_law_1050 : decode code 1050 = .ok (.invokevirtual 123, 3) := by decide +kernel
theorem dL_law_1053 : decode code 1053 = .ok (.lcmp, 1) := by decide +kernel
theorem dL_law_1054 : decode code 1054 = .ok (.ifCond .eq 515, 3) := by decide +kernel
theorem dL_law_1059 : decode code 1059 = .ok (.aload_n 1, 1) := by decide +kernel
theorem dL_law_1060 : decode code 1060 = .ok (.aload_n 0, 1) := by decide +kernel
theorem dL_law_1061 : decode code 1061 = .ok (.iload_n 3, 1) := by decide +kernel
theorem dL_law_1062 : decode code 1062 = .ok (.iconst 1, 1) := by decide +kernel
theorem dL_law_1063 : decode code 1063 = .ok (.iadd, 1) := by decide +kernel
theorem dL_law_1064 : decode code 1064 = .ok (.iaload, 1) := by decide +kernel
theorem dL_law_1065 : decode code 1065 = .ok (.aload_n 0, 1) := by decide +kernel
theorem dL_law_1066 : decode code 1066 = .ok (.iload_n 3, 1) := by decide +kernel
theorem dL_law_1067 : decode code 1067 = .ok (.iconst 2, 1) := by decide +kernel
theorem dL_law_1068 : decode code 1068 = .ok (.iadd, 1) := by decide +kernel
theorem dL_law_1069 : decode code 1069 = .ok (.iaload, 1) := by decide +kernel
theorem dL_law_1070 : decode code 1070 = .ok (.aload_n 0, 1) := by decide +kernel
theorem dL_law_1071 : decode code 1071 = .ok (.iload_n 3, 1) := by decide +kernel
theorem dL_law_1072 : decode code 1072 = .ok (.iconst 3, 1) := by decide +kernel
theorem dL_law_1073 : decode code 1073 = .ok (.iadd, 1) := by decide +kernel
theorem dL_law_1074 : decode code 1074 = .ok (.iaload, 1) := by decide +kernel
theorem dL_law_1075 : decode code 1075 = .ok (.invokevirtual 124, 3) := by decide +kernel
theorem dL_law_1078 : decode code 1078 = .ok (.aload_n 2, 1) := by decide +kernel
theorem dL_law_1079 : decode code 1079 = .ok (.aload_n 0, 1) := by decide +kernel
theorem dL_law_1080 : decode code 1080 = .ok (.iload_n 3, 1) := by decide +kernel
theorem dL_law_1081 : decode code 1081 = .ok (.iconst 1, 1) := by decide +kernel
theorem dL_law_1082 : decode code 1082 = .ok (.iadd, 1) := by decide +kernel
theorem dL_law_1083 : decode code 1083 = .ok (.iaload, 1) := by decide +kernel
theorem dL_law_1084 : decode code 1084 = .ok (.aload_n 0, 1) := by decide +kernel
theorem dL_law_1085 : decode code 1085 = .ok (.iload_n 3, 1) := by decide +kernel
theorem dL_law_1086 : decode code 1086 = .ok (.iconst 2, 1) := by decide +kernel
theorem dL_law_1087 : decode code 1087 = .ok (.iadd, 1) := by decide +kernel
theorem dL_law_1088 : decode code 1088 = .ok (.iaload, 1) := by decide +kernel
theorem dL_law_1089 : decode code 1089 = .ok (.aload_n 0, 1) := by decide +kernel
theorem dL_law_1090 : decode code 1090 = .ok (.iload_n 3, 1) := by decide +kernel
theorem dL_law_1091 : decode code 1091 = .ok (.iconst 3, 1) := by decide +kernel
theorem dL_law_1092 : decode code 1092 = .ok (.iadd, 1) := by decide +kernel
theorem dL_law_1093 : decode code 1093 = .ok (.iaload, 1) := by decide +kernel
theorem dL_law_1094 : decode code 1094 = .ok (.invokevirtual 127, 3) := by decide +kernel
theorem dL_law_1097 : decode code 1097 = .ok (.if_icmp .eq 472, 3) := by decide +kernel
theorem dL_law_1102 : decode code 1102 = .ok (.aload_n 1, 1) := by decide +kernel
theorem dL_law_1103 : decode code 1103 = .ok (.aload_n 0, 1) := by decide +kernel
theorem dL_law_1104 : decode code 1104 = .ok (.iload_n 3, 1) := by decide +kernel
theorem dL_law_1105 : decode code 1105 = .ok (.iconst 1, 1) := by decide +kernel
theorem dL_law_1106 : decode code 1106 = .ok (.iadd, 1) := by decide +kernel
theorem dL_law_1107 : decode code 1107 = .ok (.iaload, 1) := by decide +kernel
theorem dL_law_1108 : decode code 1108 = .ok (.invokevirtual 128, 3) := by decide +kernel
theorem dL_law_1111 : decode code 1111 = .ok (.aload_n 2, 1) := by decide +kernel
theorem dL_law_1112 : decode code 1112 = .ok (.aload_n 0, 1) := by decide +kernel
theorem dL_law_1113 : decode code 1113 = .ok (.iload_n 3, 1) := by decide +kernel
theorem dL_law_1114 : decode code 1114 = .ok (.iconst 1, 1) := by decide +kernel
theorem dL_law_1115 : decode code 1115 = .ok (.iadd, 1) := by decide +kernel
theorem dL_law_1116 : decode code 1116 = .ok (.iaload, 1) := by decide +kernel
theorem dL_law_1117 : decode code 1117 = .ok (.invokevirtual 131, 3) := by decide +kernel
theorem dL_law_1120 : decode code 1120 = .ok (.if_icmp .eq 449, 3) := by decide +kernel
theorem dL_law_1125 : decode code 1125 = .ok (.aload_n 1, 1) := by decide +kernel
theorem dL_law_1126 : decode code 1126 = .ok (.aload_n 0, 1) := by decide +kernel
theorem dL_law_1127 : decode code 1127 = .ok (.iload_n 3, 1) := by decide +kernel
theorem dL_law_1128 : decode code 1128 = .ok (.iconst 1, 1) := by decide +kernel
theorem dL_law_1129 : decode code 1129 = .ok (.iadd, 1) := by decide +kernel
theorem dL_law_1130 : decode code 1130 = .ok (.iaload, 1) := by decide +kernel
theorem dL_law_1131 : decode code 1131 = .ok (.aload_n 0, 1) := by decide +kernel
theorem dL_law_1132 : decode code 1132 = .ok (.iload_n 3, 1) := by decide +kernel
theorem dL_law_1133 : decode code 1133 = .ok (.iconst 2, 1) := by decide +kernel
theorem dL_law_1134 : decode code 1134 = .ok (.iadd, 1) := by decide +kernel
theorem dL_law_1135 : decode code 1135 = .ok (.iaload, 1) := by decide +kernel
theorem dL_law_1136 : decode code 1136 = .ok (.invokevirtual 132, 3) := by decide +kernel
theorem dL_law_1139 : decode code 1139 = .ok (.aload_n 2, 1) := by decide +kernel
theorem dL_law_1140 : decode code 1140 = .ok (.aload_n 0, 1) := by decide +kernel
theorem dL_law_1141 : decode code 1141 = .ok (.iload_n 3, 1) := by decide +kernel
theorem dL_law_1142 : decode code 1142 = .ok (.iconst 1, 1) := by decide +kernel
theorem dL_law_1143 : decode code 1143 = .ok (.iadd, 1) := by decide +kernel
theorem dL_law_1144 : decode code 1144 = .ok (.iaload, 1) := by decide +kernel
theorem dL_law_1145 : decode code 1145 = .ok (.aload_n 0, 1) := by decide +kernel
theorem dL_law_1146 : decode code 1146 = .ok (.iload_n 3, 1) := by decide +kernel
theorem dL_law_1147 : decode code 1147 = .ok (.iconst 2, 1) := by decide +kernel
theorem dL_law_1148 : decode code 1148 = .ok (.iadd, 1) := by decide +kernel
theorem dL_law_1149 : decode code 1149 = .ok (.iaload, 1) := by decide +kernel
theorem dL_law_1150 : decode code 1150 = .ok (.invokevirtual 135, 3) := by decide +kernel
theorem dL_law_1153 : decode code 1153 = .ok (.if_icmp .eq 416, 3) := by decide +kernel
theorem dL_law_1158 : decode code 1158 = .ok (.aload_n 1, 1) := by decide +kernel
theorem dL_law_1159 : decode code 1159 = .ok (.aload_n 0, 1) := by decide +kernel
theorem dL_law_1160 : decode code 1160 = .ok (.iload_n 3, 1) := by decide +kernel
theorem dL_law_1161 : decode code 1161 = .ok (.iconst 1, 1) := by decide +kernel
theorem dL_law_1162 : decode code 1162 = .ok (.iadd, 1) := by decide +kernel
theorem dL_law_1163 : decode code 1163 = .ok (.iaload, 1) := by decide +kernel
theorem dL_law_1164 : decode code 1164 = .ok (.aload_n 0, 1) := by decide +kernel
theorem dL_law_1165 : decode code 1165 = .ok (.iload_n 3, 1) := by decide +kernel
theorem dL_law_1166 : decode code 1166 = .ok (.iconst 2, 1) := by decide +kernel
theorem dL_law_1167 : decode code 1167 = .ok (.iadd, 1) := by decide +kernel
theorem dL_law_1168 : decode code 1168 = .ok (.iaload, 1) := by decide +kernel
theorem dL_law_1169 : decode code 1169 = .ok (.aload_n 0, 1) := by decide +kernel
theorem dL_law_1170 : decode code 1170 = .ok (.iload_n 3, 1) := by decide +kernel
theorem dL_law_1171 : decode code 1171 = .ok (.iconst 3, 1) := by decide +kernel
theorem dL_law_1172 : decode code 1172 = .ok (.iadd, 1) := by decide +kernel
theorem dL_law_1173 : decode code 1173 = .ok (.iaload, 1) := by decide +kernel
theorem dL_law_1174 : decode code 1174 = .ok (.invokevirtual 136, 3) := by decide +kernel
theorem dL_law_1177 : decode code 1177 = .ok (.aload_n 2, 1) := by decide +kernel
theorem dL_law_1178 : decode code 1178 = .ok (.aload_n 0, 1) := by decide +kernel
theorem dL_law_1179 : decode code 1179 = .ok (.iload_n 3, 1) := by decide +kernel
theorem dL_law_1180 : decode code 1180 = .ok (.iconst 1, 1) := by decide +kernel
theorem dL_law_1181 : decode code 1181 = .ok (.iadd, 1) := by decide +kernel
theorem dL_law_1182 : decode code 1182 = .ok (.iaload, 1) := by decide +kernel
theorem dL_law_1183 : decode code 1183 = .ok (.aload_n 0, 1) := by decide +kernel
theorem dL_law_1184 : decode code 1184 = .ok (.iload_n 3, 1) := by decide +kernel
theorem dL_law_1185 : decode code 1185 = .ok (.iconst 2, 1) := by decide +kernel
theorem dL_law_1186 : decode code 1186 = .ok (.iadd, 1) := by decide +kernel
theorem dL_law_1187 : decode code 1187 = .ok (.iaload, 1) := by decide +kernel
theorem dL_law_1188 : decode code 1188 = .ok (.aload_n 0, 1) := by decide +kernel
theorem dL_law_1189 : decode code 1189 = .ok (.iload_n 3, 1) := by decide +kernel
theorem dL_law_1190 : decode code 1190 = .ok (.iconst 3, 1) := by decide +kernel
theorem dL_law_1191 : decode code 1191 = .ok (.iadd, 1) := by decide +kernel
theorem dL_law_1192 : decode code 1192 = .ok (.iaload, 1) := by decide +kernel
theorem dL_law_1193 : decode code 1193 = .ok (.invokevirtual 139, 3) := by decide +kernel
theorem dL_law_1196 : decode code 1196 = .ok (.if_icmp .eq 373, 3) := by decide +kernel
theorem dL_law_1201 : decode code 1201 = .ok (.aload_n 1, 1) := by decide +kernel
theorem dL_law_1202 : decode code 1202 = .ok (.aload_n 0, 1) := by decide +kernel
theorem dL_law_1203 : decode code 1203 = .ok (.iload_n 3, 1) := by decide +kernel
theorem dL_law_1204 : decode code 1204 = .ok (.iconst 1, 1) := by decide +kernel
theorem dL_law_1205 : decode code 1205 = .ok (.iadd, 1) := by decide +kernel
theorem dL_law_1206 : decode code 1206 = .ok (.iaload, 1) := by decide +kernel
theorem dL_law_1207 : decode code 1207 = .ok (.aload_n 0, 1) := by decide +kernel
theorem dL_law_1208 : decode code 1208 = .ok (.iload_n 3, 1) := by decide +kernel
theorem dL_law_1209 : decode code 1209 = .ok (.iconst 2, 1) := by decide +kernel
theorem dL_law_1210 : decode code 1210 = .ok (.iadd, 1) := by decide +kernel
theorem dL_law_1211 : decode code 1211 = .ok (.iaload, 1) := by decide +kernel
theorem dL_law_1212 : decode code 1212 = .ok (.aload_n 0, 1) := by decide +kernel
theorem dL_law_1213 : decode code 1213 = .ok (.iload_n 3, 1) := by decide +kernel
theorem dL_law_1214 : decode code 1214 = .ok (.iconst 3, 1) := by decide +kernel
theorem dL_law_1215 : decode code 1215 = .ok (.iadd, 1) := by decide +kernel
theorem dL_law_1216 : decode code 1216 = .ok (.iaload, 1) := by decide +kernel
theorem dL_law_1217 : decode code 1217 = .ok (.invokevirtual 140, 3) := by decide +kernel
theorem dL_law_1220 : decode code 1220 = .ok (.aload_n 2, 1) := by decide +kernel
theorem dL_law_1221 : decode code 1221 = .ok (.aload_n 0, 1) := by decide +kernel
theorem dL_law_1222 : decode code 1222 = .ok (.iload_n 3, 1) := by decide +kernel
theorem dL_law_1223 : decode code 1223 = .ok (.iconst 1, 1) := by decide +kernel
theorem dL_law_1224 : decode code 1224 = .ok (.iadd, 1) := by decide +kernel
theorem dL_law_1225 : decode code 1225 = .ok (.iaload, 1) := by decide +kernel
theorem dL_law_1226 : decode code 1226 = .ok (.aload_n 0, 1) := by decide +kernel
theorem dL_law_1227 : decode code 1227 = .ok (.iload_n 3, 1) := by decide +kernel
theorem dL_law_1228 : decode code 1228 = .ok (.iconst 2, 1) := by decide +kernel
theorem dL_law_1229 : decode code 1229 = .ok (.iadd, 1) := by decide +kernel
theorem dL_law_1230 : decode code 1230 = .ok (.iaload, 1) := by decide +kernel
theorem dL_law_1231 : decode code 1231 = .ok (.aload_n 0, 1) := by decide +kernel
theorem dL_law_1232 : decode code 1232 = .ok (.iload_n 3, 1) := by decide +kernel
theorem dL_law_1233 : decode code 1233 = .ok (.iconst 3, 1) := by decide +kernel
theorem dL_law_1234 : decode code 1234 = .ok (.iadd, 1) := by decide +kernel
theorem dL_law_1235 : decode code 1235 = .ok (.iaload, 1) := by decide +kernel
theorem dL_law_1236 : decode code 1236 = .ok (.invokevirtual 143, 3) := by decide +kernel
theorem dL_law_1239 : decode code 1239 = .ok (.if_icmp .eq 330, 3) := by decide +kernel
theorem dL_law_1244 : decode code 1244 = .ok (.aload_n 1, 1) := by decide +kernel
theorem dL_law_1245 : decode code 1245 = .ok (.aload_n 0, 1) := by decide +kernel
theorem dL_law_1246 : decode code 1246 = .ok (.iload_n 3, 1) := by decide +kernel
theorem dL_law_1247 : decode code 1247 = .ok (.iconst 1, 1) := by decide +kernel
theorem dL_law_1248 : decode code 1248 = .ok (.iadd, 1) := by decide +kernel
theorem dL_law_1249 : decode code 1249 = .ok (.iaload, 1) := by decide +kernel
theorem dL_law_1250 : decode code 1250 = .ok (.aload_n 0, 1) := by decide +kernel
theorem dL_law_1251 : decode code 1251 = .ok (.iload_n 3, 1) := by decide +kernel
theorem dL_law_1252 : decode code 1252 = .ok (.iconst 2, 1) := by decide +kernel
theorem dL_law_1253 : decode code 1253 = .ok (.iadd, 1) := by decide +kernel
theorem dL_law_1254 : decode code 1254 = .ok (.iaload, 1) := by decide +kernel
theorem dL_law_1255 : decode code 1255 = .ok (.aload_n 0, 1) := by decide +kernel
theorem dL_law_1256 : decode code 1256 = .ok (.iload_n 3, 1) := by decide +kernel
theorem dL_law_1257 : decode code 1257 = .ok (.iconst 3, 1) := by decide +kernel
theorem dL_law_1258 : decode code 1258 = .ok (.iadd, 1) := by decide +kernel
theorem dL_law_1259 : decode code 1259 = .ok (.iaload, 1) := by decide +kernel
theorem dL_law_1260 : decode code 1260 = .ok (.aload_n 0, 1) := by decide +kernel
theorem dL_law_1261 : decode code 1261 = .ok (.iload_n 3, 1) := by decide +kernel
theorem dL_law_1262 : decode code 1262 = .ok (.iconst 4, 1) := by decide +kernel
theorem dL_law_1263 : decode code 1263 = .ok (.iadd, 1) := by decide +kernel
theorem dL_law_1264 : decode code 1264 = .ok (.iaload, 1) := by decide +kernel
theorem dL_law_1265 : decode code 1265 = .ok (.aload_n 0, 1) := by decide +kernel
theorem dL_law_1266 : decode code 1266 = .ok (.iload_n 3, 1) := by decide +kernel
theorem dL_law_1267 : decode code 1267 = .ok (.iconst 5, 1) := by decide +kernel
theorem dL_law_1268 : decode code 1268 = .ok (.iadd, 1) := by decide +kernel
theorem dL_law_1269 : decode code 1269 = .ok (.iaload, 1) := by decide +kernel
theorem dL_law_1270 : decode code 1270 = .ok (.invokevirtual 144, 3) := by decide +kernel
theorem dL_law_1273 : decode code 1273 = .ok (.aload_n 2, 1) := by decide +kernel
theorem dL_law_1274 : decode code 1274 = .ok (.aload_n 0, 1) := by decide +kernel
theorem dL_law_1275 : decode code 1275 = .ok (.iload_n 3, 1) := by decide +kernel
theorem dL_law_1276 : decode code 1276 = .ok (.iconst 1, 1) := by decide +kernel
theorem dL_law_1277 : decode code 1277 = .ok (.iadd, 1) := by decide +kernel
theorem dL_law_1278 : decode code 1278 = .ok (.iaload, 1) := by decide +kernel
theorem dL_law_1279 : decode code 1279 = .ok (.aload_n 0, 1) := by decide +kernel
theorem dL_law_1280 : decode code 1280 = .ok (.iload_n 3, 1) := by decide +kernel
theorem dL_law_1281 : decode code 1281 = .ok (.iconst 2, 1) := by decide +kernel
theorem dL_law_1282 : decode code 1282 = .ok (.iadd, 1) := by decide +kernel
theorem dL_law_1283 : decode code 1283 = .ok (.iaload, 1) := by decide +kernel
theorem dL_law_1284 : decode code 1284 = .ok (.aload_n 0, 1) := by decide +kernel
theorem dL_law_1285 : decode code 1285 = .ok (.iload_n 3, 1) := by decide +kernel
theorem dL_law_1286 : decode code 1286 = .ok (.iconst 3, 1) := by decide +kernel
theorem dL_law_1287 : decode code 1287 = .ok (.iadd, 1) := by decide +kernel
theorem dL_law_1288 : decode code 1288 = .ok (.iaload, 1) := by decide +kernel
theorem dL_law_1289 : decode code 1289 = .ok (.aload_n 0, 1) := by decide +kernel
theorem dL_law_1290 : decode code 1290 = .ok (.iload_n 3, 1) := by decide +kernel
theorem dL_law_1291 : decode code 1291 = .ok (.iconst 4, 1) := by decide +kernel
theorem dL_law_1292 : decode code 1292 = .ok (.iadd, 1) := by decide +kernel
theorem dL_law_1293 : decode code 1293 = .ok (.iaload, 1) := by decide +kernel
theorem dL_law_1294 : decode code 1294 = .ok (.aload_n 0, 1) := by decide +kernel
theorem dL_law_1295 : decode code 1295 = .ok (.iload_n 3, 1) := by decide +kernel
theorem dL_law_1296 : decode code 1296 = .ok (.iconst 5, 1) := by decide +kernel
theorem dL_law_1297 : decode code 1297 = .ok (.iadd, 1) := by decide +kernel
theorem dL_law_1298 : decode code 1298 = .ok (.iaload, 1) := by decide +kernel
theorem dL_law_1299 : decode code 1299 = .ok (.invokevirtual 148, 3) := by decide +kernel
theorem dL_law_1302 : decode code 1302 = .ok (.lcmp, 1) := by decide +kernel
theorem dL_law_1303 : decode code 1303 = .ok (.ifCond .eq 266, 3) := by decide +kernel
theorem dL_law_1308 : decode code 1308 = .ok (.aload_n 1, 1) := by decide +kernel
theorem dL_law_1309 : decode code 1309 = .ok (.invokevirtual 149, 3) := by decide +kernel
theorem dL_law_1312 : decode code 1312 = .ok (.aload_n 2, 1) := by decide +kernel
theorem dL_law_1313 : decode code 1313 = .ok (.invokevirtual 152, 3) := by decide +kernel
theorem dL_law_1316 : decode code 1316 = .ok (.if_icmp .eq 253, 3) := by decide +kernel
theorem dL_law_1321 : decode code 1321 = .ok (.aload_n 1, 1) := by decide +kernel
theorem dL_law_1322 : decode code 1322 = .ok (.invokevirtual 153, 3) := by decide +kernel
theorem dL_law_1325 : decode code 1325 = .ok (.aload_n 2, 1) := by decide +kernel
theorem dL_law_1326 : decode code 1326 = .ok (.invokevirtual 156, 3) := by decide +kernel
theorem dL_law_1329 : decode code 1329 = .ok (.if_icmp .eq 240, 3) := by decide +kernel
theorem dL_law_1334 : decode code 1334 = .ok (.aload_n 1, 1) := by decide +kernel
theorem dL_law_1335 : decode code 1335 = .ok (.aload_n 0, 1) := by decide +kernel
theorem dL_law_1336 : decode code 1336 = .ok (.iload_n 3, 1) := by decide +kernel
theorem dL_law_1337 : decode code 1337 = .ok (.iconst 1, 1) := by decide +kernel
theorem dL_law_1338 : decode code 1338 = .ok (.iadd, 1) := by decide +kernel
theorem dL_law_1339 : decode code 1339 = .ok (.iaload, 1) := by decide +kernel
theorem dL_law_1340 : decode code 1340 = .ok (.aload_n 0, 1) := by decide +kernel
theorem dL_law_1341 : decode code 1341 = .ok (.iload_n 3, 1) := by decide +kernel
theorem dL_law_1342 : decode code 1342 = .ok (.iconst 2, 1) := by decide +kernel
theorem dL_law_1343 : decode code 1343 = .ok (.iadd, 1) := by decide +kernel
theorem dL_law_1344 : decode code 1344 = .ok (.iaload, 1) := by decide +kernel
theorem dL_law_1345 : decode code 1345 = .ok (.aload_n 0, 1) := by decide +kernel
theorem dL_law_1346 : decode code 1346 = .ok (.iload_n 3, 1) := by decide +kernel
theorem dL_law_1347 : decode code 1347 = .ok (.iconst 3, 1) := by decide +kernel
theorem dL_law_1348 : decode code 1348 = .ok (.iadd, 1) := by decide +kernel
theorem dL_law_1349 : decode code 1349 = .ok (.iaload, 1) := by decide +kernel
theorem dL_law_1350 : decode code 1350 = .ok (.invokevirtual 157, 3) := by decide +kernel
theorem dL_law_1353 : decode code 1353 = .ok (.aload_n 2, 1) := by decide +kernel
theorem dL_law_1354 : decode code 1354 = .ok (.aload_n 0, 1) := by decide +kernel
theorem dL_law_1355 : decode code 1355 = .ok (.iload_n 3, 1) := by decide +kernel
theorem dL_law_1356 : decode code 1356 = .ok (.iconst 1, 1) := by decide +kernel
theorem dL_law_1357 : decode code 1357 = .ok (.iadd, 1) := by decide +kernel
theorem dL_law_1358 : decode code 1358 = .ok (.iaload, 1) := by decide +kernel
theorem dL_law_1359 : decode code 1359 = .ok (.aload_n 0, 1) := by decide +kernel
theorem dL_law_1360 : decode code 1360 = .ok (.iload_n 3, 1) := by decide +kernel
theorem dL_law_1361 : decode code 1361 = .ok (.iconst 2, 1) := by decide +kernel
theorem dL_law_1362 : decode code 1362 = .ok (.iadd, 1) := by decide +kernel
theorem dL_law_1363 : decode code 1363 = .ok (.iaload, 1) := by decide +kernel
theorem dL_law_1364 : decode code 1364 = .ok (.aload_n 0, 1) := by decide +kernel
theorem dL_law_1365 : decode code 1365 = .ok (.iload_n 3, 1) := by decide +kernel
theorem dL_law_1366 : decode code 1366 = .ok (.iconst 3, 1) := by decide +kernel
theorem dL_law_1367 : decode code 1367 = .ok (.iadd, 1) := by decide +kernel
theorem dL_law_1368 : decode code 1368 = .ok (.iaload, 1) := by decide +kernel
theorem dL_law_1369 : decode code 1369 = .ok (.invokevirtual 160, 3) := by decide +kernel
theorem dL_law_1372 : decode code 1372 = .ok (.if_icmp .eq 197, 3) := by decide +kernel
theorem dL_law_1377 : decode code 1377 = .ok (.aload_n 1, 1) := by decide +kernel
theorem dL_law_1378 : decode code 1378 = .ok (.aload_n 0, 1) := by decide +kernel
theorem dL_law_1379 : decode code 1379 = .ok (.iload_n 3, 1) := by decide +kernel
theorem dL_law_1380 : decode code 1380 = .ok (.iconst 1, 1) := by decide +kernel
theorem dL_law_1381 : decode code 1381 = .ok (.iadd, 1) := by decide +kernel
theorem dL_law_1382 : decode code 1382 = .ok (.iaload, 1) := by decide +kernel
theorem dL_law_1383 : decode code 1383 = .ok (.aload_n 0, 1) := by decide +kernel
theorem dL_law_1384 : decode code 1384 = .ok (.iload_n 3, 1) := by decide +kernel
theorem dL_law_1385 : decode code 1385 = .ok (.iconst 2, 1) := by decide +kernel
theorem dL_law_1386 : decode code 1386 = .ok (.iadd, 1) := by decide +kernel
theorem dL_law_1387 : decode code 1387 = .ok (.iaload, 1) := by decide +kernel
theorem dL_law_1388 : decode code 1388 = .ok (.aload_n 0, 1) := by decide +kernel
theorem dL_law_1389 : decode code 1389 = .ok (.iload_n 3, 1) := by decide +kernel
theorem dL_law_1390 : decode code 1390 = .ok (.iconst 3, 1) := by decide +kernel
theorem dL_law_1391 : decode code 1391 = .ok (.iadd, 1) := by decide +kernel
theorem dL_law_1392 : decode code 1392 = .ok (.iaload, 1) := by decide +kernel
theorem dL_law_1393 : decode code 1393 = .ok (.invokevirtual 161, 3) := by decide +kernel
theorem dL_law_1396 : decode code 1396 = .ok (.aload_n 2, 1) := by decide +kernel
theorem dL_law_1397 : decode code 1397 = .ok (.aload_n 0, 1) := by decide +kernel
theorem dL_law_1398 : decode code 1398 = .ok (.iload_n 3, 1) := by decide +kernel
theorem dL_law_1399 : decode code 1399 = .ok (.iconst 1, 1) := by decide +kernel
theorem dL_law_1400 : decode code 1400 = .ok (.iadd, 1) := by decide +kernel
theorem dL_law_1401 : decode code 1401 = .ok (.iaload, 1) := by decide +kernel
theorem dL_law_1402 : decode code 1402 = .ok (.aload_n 0, 1) := by decide +kernel
theorem dL_law_1403 : decode code 1403 = .ok (.iload_n 3, 1) := by decide +kernel
theorem dL_law_1404 : decode code 1404 = .ok (.iconst 2, 1) := by decide +kernel
theorem dL_law_1405 : decode code 1405 = .ok (.iadd, 1) := by decide +kernel
theorem dL_law_1406 : decode code 1406 = .ok (.iaload, 1) := by decide +kernel
theorem dL_law_1407 : decode code 1407 = .ok (.aload_n 0, 1) := by decide +kernel
theorem dL_law_1408 : decode code 1408 = .ok (.iload_n 3, 1) := by decide +kernel
theorem dL_law_1409 : decode code 1409 = .ok (.iconst 3, 1) := by decide +kernel
theorem dL_law_1410 : decode code 1410 = .ok (.iadd, 1) := by decide +kernel
theorem dL_law_1411 : decode code 1411 = .ok (.iaload, 1) := by decide +kernel
theorem dL_law_1412 : decode code 1412 = .ok (.invokevirtual 164, 3) := by decide +kernel
theorem dL_law_1415 : decode code 1415 = .ok (.if_icmp .eq 154, 3) := by decide +kernel
theorem dL_law_1420 : decode code 1420 = .ok (.aload_n 1, 1) := by decide +kernel
theorem dL_law_1421 : decode code 1421 = .ok (.aload_n 0, 1) := by decide +kernel
theorem dL_law_1422 : decode code 1422 = .ok (.iload_n 3, 1) := by decide +kernel
theorem dL_law_1423 : decode code 1423 = .ok (.iconst 1, 1) := by decide +kernel
theorem dL_law_1424 : decode code 1424 = .ok (.iadd, 1) := by decide +kernel
theorem dL_law_1425 : decode code 1425 = .ok (.iaload, 1) := by decide +kernel
theorem dL_law_1426 : decode code 1426 = .ok (.aload_n 0, 1) := by decide +kernel
theorem dL_law_1427 : decode code 1427 = .ok (.iload_n 3, 1) := by decide +kernel
theorem dL_law_1428 : decode code 1428 = .ok (.iconst 2, 1) := by decide +kernel
theorem dL_law_1429 : decode code 1429 = .ok (.iadd, 1) := by decide +kernel
theorem dL_law_1430 : decode code 1430 = .ok (.iaload, 1) := by decide +kernel
theorem dL_law_1431 : decode code 1431 = .ok (.aload_n 0, 1) := by decide +kernel
theorem dL_law_1432 : decode code 1432 = .ok (.iload_n 3, 1) := by decide +kernel
theorem dL_law_1433 : decode code 1433 = .ok (.iconst 3, 1) := by decide +kernel
theorem dL_law_1434 : decode code 1434 = .ok (.iadd, 1) := by decide +kernel
theorem dL_law_1435 : decode code 1435 = .ok (.iaload, 1) := by decide +kernel
theorem dL_law_1436 : decode code 1436 = .ok (.aload_n 0, 1) := by decide +kernel
theorem dL_law_1437 : decode code 1437 = .ok (.iload_n 3, 1) := by decide +kernel
theorem dL_law_1438 : decode code 1438 = .ok (.iconst 4, 1) := by decide +kernel
theorem dL_law_1439 : decode code 1439 = .ok (.iadd, 1) := by decide +kernel
theorem dL_law_1440 : decode code 1440 = .ok (.iaload, 1) := by decide +kernel
theorem dL_law_1441 : decode code 1441 = .ok (.aload_n 0, 1) := by decide +kernel
theorem dL_law_1442 : decode code 1442 = .ok (.iload_n 3, 1) := by decide +kernel
theorem dL_law_1443 : decode code 1443 = .ok (.iconst 5, 1) := by decide +kernel
theorem dL_law_1444 : decode code 1444 = .ok (.iadd, 1) := by decide +kernel
theorem dL_law_1445 : decode code 1445 = .ok (.iaload, 1) := by decide +kernel
theorem dL_law_1446 : decode code 1446 = .ok (.invokevirtual 165, 3) := by decide +kernel
theorem dL_law_1449 : decode code 1449 = .ok (.aload_n 2, 1) := by decide +kernel
theorem dL_law_1450 : decode code 1450 = .ok (.aload_n 0, 1) := by decide +kernel
theorem dL_law_1451 : decode code 1451 = .ok (.iload_n 3, 1) := by decide +kernel
theorem dL_law_1452 : decode code 1452 = .ok (.iconst 1, 1) := by decide +kernel
theorem dL_law_1453 : decode code 1453 = .ok (.iadd, 1) := by decide +kernel
theorem dL_law_1454 : decode code 1454 = .ok (.iaload, 1) := by decide +kernel
theorem dL_law_1455 : decode code 1455 = .ok (.aload_n 0, 1) := by decide +kernel
theorem dL_law_1456 : decode code 1456 = .ok (.iload_n 3, 1) := by decide +kernel
theorem dL_law_1457 : decode code 1457 = .ok (.iconst 2, 1) := by decide +kernel
theorem dL_law_1458 : decode code 1458 = .ok (.iadd, 1) := by decide +kernel
theorem dL_law_1459 : decode code 1459 = .ok (.iaload, 1) := by decide +kernel
theorem dL_law_1460 : decode code 1460 = .ok (.aload_n 0, 1) := by decide +kernel
theorem dL_law_1461 : decode code 1461 = .ok (.iload_n 3, 1) := by decide +kernel
theorem dL_law_1462 : decode code 1462 = .ok (.iconst 3, 1) := by decide +kernel
theorem dL_law_1463 : decode code 1463 = .ok (.iadd, 1) := by decide +kernel
theorem dL_law_1464 : decode code 1464 = .ok (.iaload, 1) := by decide +kernel
theorem dL_law_1465 : decode code 1465 = .ok (.aload_n 0, 1) := by decide +kernel
theorem dL_law_1466 : decode code 1466 = .ok (.iload_n 3, 1) := by decide +kernel
theorem dL_law_1467 : decode code 1467 = .ok (.iconst 4, 1) := by decide +kernel
theorem dL_law_1468 : decode code 1468 = .ok (.iadd, 1) := by decide +kernel
theorem dL_law_1469 : decode code 1469 = .ok (.iaload, 1) := by decide +kernel
theorem dL_law_1470 : decode code 1470 = .ok (.aload_n 0, 1) := by decide +kernel
theorem dL_law_1471 : decode code 1471 = .ok (.iload_n 3, 1) := by decide +kernel
theorem dL_law_1472 : decode code 1472 = .ok (.iconst 5, 1) := by decide +kernel
theorem dL_law_1473 : decode code 1473 = .ok (.iadd, 1) := by decide +kernel
theorem dL_law_1474 : decode code 1474 = .ok (.iaload, 1) := by decide +kernel
theorem dL_law_1475 : decode code 1475 = .ok (.invokevirtual 169, 3) := by decide +kernel
theorem dL_law_1478 : decode code 1478 = .ok (.if_icmp .eq 91, 3) := by decide +kernel
theorem dL_law_1483 : decode code 1483 = .ok (.aload_n 1, 1) := by decide +kernel
theorem dL_law_1484 : decode code 1484 = .ok (.aload_n 0, 1) := by decide +kernel
theorem dL_law_1485 : decode code 1485 = .ok (.iload_n 3, 1) := by decide +kernel
theorem dL_law_1486 : decode code 1486 = .ok (.iconst 1, 1) := by decide +kernel
theorem dL_law_1487 : decode code 1487 = .ok (.iadd, 1) := by decide +kernel
theorem dL_law_1488 : decode code 1488 = .ok (.iaload, 1) := by decide +kernel
theorem dL_law_1489 : decode code 1489 = .ok (.aload_n 0, 1) := by decide +kernel
theorem dL_law_1490 : decode code 1490 = .ok (.iload_n 3, 1) := by decide +kernel
theorem dL_law_1491 : decode code 1491 = .ok (.iconst 2, 1) := by decide +kernel
theorem dL_law_1492 : decode code 1492 = .ok (.iadd, 1) := by decide +kernel
theorem dL_law_1493 : decode code 1493 = .ok (.iaload, 1) := by decide +kernel
theorem dL_law_1494 : decode code 1494 = .ok (.aload_n 0, 1) := by decide +kernel
theorem dL_law_1495 : decode code 1495 = .ok (.iload_n 3, 1) := by decide +kernel
theorem dL_law_1496 : decode code 1496 = .ok (.iconst 3, 1) := by decide +kernel
theorem dL_law_1497 : decode code 1497 = .ok (.iadd, 1) := by decide +kernel
theorem dL_law_1498 : decode code 1498 = .ok (.iaload, 1) := by decide +kernel
theorem dL_law_1499 : decode code 1499 = .ok (.aload_n 0, 1) := by decide +kernel
theorem dL_law_1500 : decode code 1500 = .ok (.iload_n 3, 1) := by decide +kernel
theorem dL_law_1501 : decode code 1501 = .ok (.iconst 4, 1) := by decide +kernel
theorem dL_law_1502 : decode code 1502 = .ok (.iadd, 1) := by decide +kernel
theorem dL_law_1503 : decode code 1503 = .ok (.iaload, 1) := by decide +kernel
theorem dL_law_1504 : decode code 1504 = .ok (.invokevirtual 170, 3) := by decide +kernel
theorem dL_law_1507 : decode code 1507 = .ok (.aload_n 2, 1) := by decide +kernel
theorem dL_law_1508 : decode code 1508 = .ok (.aload_n 0, 1) := by decide +kernel
theorem dL_law_1509 : decode code 1509 = .ok (.iload_n 3, 1) := by decide +kernel
theorem dL_law_1510 : decode code 1510 = .ok (.iconst 1, 1) := by decide +kernel
theorem dL_law_1511 : decode code 1511 = .ok (.iadd, 1) := by decide +kernel
theorem dL_law_1512 : decode code 1512 = .ok (.iaload, 1) := by decide +kernel
theorem dL_law_1513 : decode code 1513 = .ok (.aload_n 0, 1) := by decide +kernel
theorem dL_law_1514 : decode code 1514 = .ok (.iload_n 3, 1) := by decide +kernel
theorem dL_law_1515 : decode code 1515 = .ok (.iconst 2, 1) := by decide +kernel
theorem dL_law_1516 : decode code 1516 = .ok (.iadd, 1) := by decide +kernel
theorem dL_law_1517 : decode code 1517 = .ok (.iaload, 1) := by decide +kernel
theorem dL_law_1518 : decode code 1518 = .ok (.aload_n 0, 1) := by decide +kernel
theorem dL_law_1519 : decode code 1519 = .ok (.iload_n 3, 1) := by decide +kernel
theorem dL_law_1520 : decode code 1520 = .ok (.iconst 3, 1) := by decide +kernel
theorem dL_law_1521 : decode code 1521 = .ok (.iadd, 1) := by decide +kernel
theorem dL_law_1522 : decode code 1522 = .ok (.iaload, 1) := by decide +kernel
theorem dL_law_1523 : decode code 1523 = .ok (.aload_n 0, 1) := by decide +kernel
theorem dL_law_1524 : decode code 1524 = .ok (.iload_n 3, 1) := by decide +kernel
theorem dL_law_1525 : decode code 1525 = .ok (.iconst 4, 1) := by decide +kernel
theorem dL_law_1526 : decode code 1526 = .ok (.iadd, 1) := by decide +kernel
theorem dL_law_1527 : decode code 1527 = .ok (.iaload, 1) := by decide +kernel
theorem dL_law_1528 : decode code 1528 = .ok (.invokevirtual 174, 3) := by decide +kernel
theorem dL_law_1531 : decode code 1531 = .ok (.if_icmp .eq 38, 3) := by decide +kernel
theorem dL_law_1536 : decode code 1536 = .ok (.aload_n 1, 1) := by decide +kernel
theorem dL_law_1537 : decode code 1537 = .ok (.aload_n 0, 1) := by decide +kernel
theorem dL_law_1538 : decode code 1538 = .ok (.iload_n 3, 1) := by decide +kernel
theorem dL_law_1539 : decode code 1539 = .ok (.iconst 1, 1) := by decide +kernel
theorem dL_law_1540 : decode code 1540 = .ok (.iadd, 1) := by decide +kernel
theorem dL_law_1541 : decode code 1541 = .ok (.iaload, 1) := by decide +kernel
theorem dL_law_1542 : decode code 1542 = .ok (.aload_n 0, 1) := by decide +kernel
theorem dL_law_1543 : decode code 1543 = .ok (.iload_n 3, 1) := by decide +kernel
theorem dL_law_1544 : decode code 1544 = .ok (.iconst 2, 1) := by decide +kernel
theorem dL_law_1545 : decode code 1545 = .ok (.iadd, 1) := by decide +kernel
theorem dL_law_1546 : decode code 1546 = .ok (.iaload, 1) := by decide +kernel
theorem dL_law_1547 : decode code 1547 = .ok (.invokevirtual 175, 3) := by decide +kernel
theorem dL_law_1550 : decode code 1550 = .ok (.aload_n 2, 1) := by decide +kernel
theorem dL_law_1551 : decode code 1551 = .ok (.aload_n 0, 1) := by decide +kernel
theorem dL_law_1552 : decode code 1552 = .ok (.iload_n 3, 1) := by decide +kernel
theorem dL_law_1553 : decode code 1553 = .ok (.iconst 1, 1) := by decide +kernel
theorem dL_law_1554 : decode code 1554 = .ok (.iadd, 1) := by decide +kernel
theorem dL_law_1555 : decode code 1555 = .ok (.iaload, 1) := by decide +kernel
theorem dL_law_1556 : decode code 1556 = .ok (.aload_n 0, 1) := by decide +kernel
theorem dL_law_1557 : decode code 1557 = .ok (.iload_n 3, 1) := by decide +kernel
theorem dL_law_1558 : decode code 1558 = .ok (.iconst 2, 1) := by decide +kernel
theorem dL_law_1559 : decode code 1559 = .ok (.iadd, 1) := by decide +kernel
theorem dL_law_1560 : decode code 1560 = .ok (.iaload, 1) := by decide +kernel
theorem dL_law_1561 : decode code 1561 = .ok (.invokevirtual 178, 3) := by decide +kernel
theorem dL_law_1564 : decode code 1564 = .ok (.if_icmp .eq 5, 3) := by decide +kernel
theorem dL_law_1569 : decode code 1569 = .ok (.iinc 3 7, 3) := by decide +kernel
theorem dL_law_1572 : decode code 1572 = .ok (.goto (-1554), 3) := by decide +kernel
theorem dL_law_1575 : decode code 1575 = .ok (.iconst 1, 1) := by decide +kernel
theorem dL_law_1576 : decode code 1576 = .ok (.ireturn, 1) := by decide +kernel
theorem lc_count {g : Gt} {adx adm : Nat → Nat} {b L : Nat} {xs : Nat → Int32} {z : Lt} {x : GX} {μ : GM} {RR : GX → GM → Prop} (hall : AllEqv RR) (hR : RR x μ) (i : Nat) (hin1 : vp_in (nI i + (1 : Int32)) L) (next : ∀ (x1 : GX) (μ1 : GM), RR x1 μ1 → LJ g adx adm b L xs z x1 μ1 1569 [(0, .ref b), (1, .ref (aMain adx)), (2, .ref (aMo adm)), (3, .int (nI i))] []) : LJ g adx adm b L xs z x μ 204 [(0, .ref b), (1, .ref (aMain adx)), (2, .ref (aMo adm)), (3, .int (nI i))] [] := by
  obtain ⟨r, x1, μ1, h1, h2, h3⟩ := hall.1 (sc xs i 1) x μ hR
  have next := next x1 μ1 h3
  (
    refine j_aload_n (pc := 204) (i := 1) dL_law_204 rfl rfl ?_
    refine j_aload_n (pc := 205) (i := 0) dL_law_205 rfl rfl ?_
    refine j_iload_n (pc := 206) (i := 3) dL_law_206 rfl rfl ?_
    refine j_iconst (pc := 207) dL_law_207 ic_1 ?_
    refine j_iadd (pc := 208) dL_law_208 ?_
    refine j_sld (pc := 209) dL_law_209 hin1 ?_
    refine j_Xi (pc := 210) (As := [.int (sc xs i 1)]) (rest := []) (ct_X4_count (sc xs i 1)) h1 rfl mi_X4_count q_357 (by decide) rfl rfl (Nat.le_of_ble_eq_true rfl) dL_law_210 ?_
    refine j_aload_n (pc := 213) (i := 2) dL_law_213 rfl rfl ?_
    refine j_aload_n (pc := 214) (i := 0) dL_law_214 rfl rfl ?_
    refine j_iload_n (pc := 215) (i := 3) dL_law_215 rfl rfl ?_
    refine j_iconst (pc := 216) dL_law_216 ic_1 ?_
    refine j_iadd (pc := 217) dL_law_217 ?_
    refine j_sld (pc := 218) dL_law_218 hin1 ?_
    refine j_Mi (pc := 219) (As := [.int (sc xs i 1)]) (rest := [.int r]) (ct_X5_count (sc xs i 1)) h2 rfl mi_X5_count q_866 (by decide) rfl rfl (Nat.le_of_ble_eq_true rfl) dL_law_219 ?_
    refine j_eqT (pc := 222) (tgt := 1569) dL_law_222 rfl ?_
    exact next)
theorem lc_rock {g : Gt} {adx adm : Nat → Nat} {b L : Nat} {xs : Nat → Int32} {z : Lt} {x : GX} {μ : GM} {RR : GX → GM → Prop} (hall : AllEqv RR) (hR : RR x μ) (i : Nat) (hin1 : vp_in (nI i + (1 : Int32)) L) (hin2 : vp_in (nI i + (2 : Int32)) L) (next : ∀ (x1 : GX) (μ1 : GM), RR x1 μ1 → LJ g adx adm b L xs z x1 μ1 1569 [(0, .ref b), (1, .ref (aMain adx)), (2, .ref (aMo adm)), (3, .int (nI i))] []) : LJ g adx adm b L xs z x μ 227 [(0, .ref b), (1, .ref (aMain adx)), (2, .ref (aMo adm)), (3, .int (nI i))] [] := by
  obtain ⟨r, x1, μ1, h1, h2, h3⟩ := hall.2.1 (sc xs i 1) (sc xs i 2) x μ hR
  have next := next x1 μ1 h3
  (
    refine j_aload_n (pc := 227) (i := 1) dL_law_227 rfl rfl ?_
    refine j_aload_n (pc := 228) (i := 0) dL_law_228 rfl rfl ?_
    refine j_iload_n (pc := 229) (i := 3) dL_law_229 rfl rfl ?_
    refine j_iconst (pc := 230) dL_law_230 ic_1 ?_
    refine j_iadd (pc := 231) dL_law_231 ?_
    refine j_sld (pc := 232) dL_law_232 hin1 ?_
    refine j_aload_n (pc := 233) (i := 0) dL_law_233 rfl rfl ?_
    refine j_iload_n (pc := 234) (i := 3) dL_law_234 rfl rfl ?_
    refine j_iconst (pc := 235) dL_law_235 ic_2 ?_
    refine j_iadd (pc := 236) dL_law_236 ?_
    refine j_sld (pc := 237) dL_law_237 hin2 ?_
    refine j_Xi (pc := 238) (As := [.int (sc xs i 1), .int (sc xs i 2)]) (rest := []) (ct_X4_rock (sc xs i 1) (sc xs i 2)) h1 rfl mi_X4_rock q_377 (by decide) rfl rfl (Nat.le_of_ble_eq_true rfl) dL_law_238 ?_
    refine j_aload_n (pc := 241) (i := 2) dL_law_241 rfl rfl ?_
    refine j_aload_n (pc := 242) (i := 0) dL_law_242 rfl rfl ?_
    refine j_iload_n (pc := 243) (i := 3) dL_law_243 rfl rfl ?_
    refine j_iconst (pc := 244) dL_law_244 ic_1 ?_
    refine j_iadd (pc := 245) dL_law_245 ?_
    refine j_sld (pc := 246) dL_law_246 hin1 ?_
    refine j_aload_n (pc := 247) (i := 0) dL_law_247 rfl rfl ?_
    refine j_iload_n (pc := 248) (i := 3) dL_law_248 rfl rfl ?_
    refine j_iconst (pc := 249) dL_law_249 ic_2 ?_
    refine j_iadd (pc := 250) dL_law_250 ?_
    refine j_sld (pc := 251) dL_law_251 hin2 ?_
    refine j_Mi (pc := 252) (As := [.int (sc xs i 1), .int (sc xs i 2)]) (rest := [.int r]) (ct_X5_rock (sc xs i 1) (sc xs i 2)) h2 rfl mi_X5_rock q_885 (by decide) rfl rfl (Nat.le_of_ble_eq_true rfl) dL_law_252 ?_
    refine j_eqT (pc := 255) (tgt := 1569) dL_law_255 rfl ?_
    exact next)
theorem lc_tell {g : Gt} {adx adm : Nat → Nat} {b L : Nat} {xs : Nat → Int32} {z : Lt} {x : GX} {μ : GM} {RR : GX → GM → Prop} (hall : AllEqv RR) (hR : RR x μ) (i : Nat) (hin1 : vp_in (nI i + (1 : Int32)) L) (hin2 : vp_in (nI i + (2 : Int32)) L) (next : ∀ (x1 : GX) (μ1 : GM), RR x1 μ1 → LJ g adx adm b L xs z x1 μ1 1569 [(0, .ref b), (1, .ref (aMain adx)), (2, .ref (aMo adm)), (3, .int (nI i))] []) : LJ g adx adm b L xs z x μ 260 [(0, .ref b), (1, .ref (aMain adx)), (2, .ref (aMo adm)), (3, .int (nI i))] [] := by
  obtain ⟨r, x1, μ1, h1, h2, h3⟩ := hall.2.2.1 (sc xs i 1) (sc xs i 2) x μ hR
  have next := next x1 μ1 h3
  (
    refine j_aload_n (pc := 260) (i := 1) dL_law_260 rfl rfl ?_
    refine j_aload_n (pc := 261) (i := 0) dL_law_261 rfl rfl ?_
    refine j_iload_n (pc := 262) (i := 3) dL_law_262 rfl rfl ?_
    refine j_iconst (pc := 263) dL_law_263 ic_1 ?_
    refine j_iadd (pc := 264) dL_law_264 ?_
    refine j_sld (pc := 265) dL_law_265 hin1 ?_
    refine j_aload_n (pc := 266) (i := 0) dL_law_266 rfl rfl ?_
    refine j_iload_n (pc := 267) (i := 3) dL_law_267 rfl rfl ?_
    refine j_iconst (pc := 268) dL_law_268 ic_2 ?_
    refine j_iadd (pc := 269) dL_law_269 ?_
    refine j_sld (pc := 270) dL_law_270 hin2 ?_
    refine j_Xi (pc := 271) (As := [.int (sc xs i 1), .int (sc xs i 2)]) (rest := []) (ct_X4_tell (sc xs i 1) (sc xs i 2)) h1 rfl mi_X4_tell q_392 (by decide) rfl rfl (Nat.le_of_ble_eq_true rfl) dL_law_271 ?_
    refine j_aload_n (pc := 274) (i := 2) dL_law_274 rfl rfl ?_
    refine j_aload_n (pc := 275) (i := 0) dL_law_275 rfl rfl ?_
    refine j_iload_n (pc := 276) (i := 3) dL_law_276 rfl rfl ?_
    refine j_iconst (pc := 277) dL_law_277 ic_1 ?_
    refine j_iadd (pc := 278) dL_law_278 ?_
    refine j_sld (pc := 279) dL_law_279 hin1 ?_
    refine j_aload_n (pc := 280) (i := 0) dL_law_280 rfl rfl ?_
    refine j_iload_n (pc := 281) (i := 3) dL_law_281 rfl rfl ?_
    refine j_iconst (pc := 282) dL_law_282 ic_2 ?_
    refine j_iadd (pc := 283) dL_law_283 ?_
    refine j_sld (pc := 284) dL_law_284 hin2 ?_
    refine j_Mi (pc := 285) (As := [.int (sc xs i 1), .int (sc xs i 2)]) (rest := [.int r]) (ct_X5_tell (sc xs i 1) (sc xs i 2)) h2 rfl mi_X5_tell q_893 (by decide) rfl rfl (Nat.le_of_ble_eq_true rfl) dL_law_285 ?_
    refine j_eqT (pc := 288) (tgt := 1569) dL_law_288 rfl ?_
    exact next)
theorem lc_believes {g : Gt} {adx adm : Nat → Nat} {b L : Nat} {xs : Nat → Int32} {z : Lt} {x : GX} {μ : GM} {RR : GX → GM → Prop} (hall : AllEqv RR) (hR : RR x μ) (i : Nat) (hin1 : vp_in (nI i + (1 : Int32)) L) (next : ∀ (x1 : GX) (μ1 : GM), RR x1 μ1 → LJ g adx adm b L xs z x1 μ1 1569 [(0, .ref b), (1, .ref (aMain adx)), (2, .ref (aMo adm)), (3, .int (nI i))] []) : LJ g adx adm b L xs z x μ 293 [(0, .ref b), (1, .ref (aMain adx)), (2, .ref (aMo adm)), (3, .int (nI i))] [] := by
  obtain ⟨r, x1, μ1, h1, h2, h3⟩ := hall.2.2.2.1 (sc xs i 1) x μ hR
  have next := next x1 μ1 h3
  (
    refine j_aload_n (pc := 293) (i := 1) dL_law_293 rfl rfl ?_
    refine j_aload_n (pc := 294) (i := 0) dL_law_294 rfl rfl ?_
    refine j_iload_n (pc := 295) (i := 3) dL_law_295 rfl rfl ?_
    refine j_iconst (pc := 296) dL_law_296 ic_1 ?_
    refine j_iadd (pc := 297) dL_law_297 ?_
    refine j_sld (pc := 298) dL_law_298 hin1 ?_
    refine j_Xi (pc := 299) (As := [.int (sc xs i 1)]) (rest := []) (ct_X4_believes (sc xs i 1)) h1 rfl mi_X4_believes q_406 (by decide) rfl rfl (Nat.le_of_ble_eq_true rfl) dL_law_299 ?_
    refine j_aload_n (pc := 302) (i := 2) dL_law_302 rfl rfl ?_
    refine j_aload_n (pc := 303) (i := 0) dL_law_303 rfl rfl ?_
    refine j_iload_n (pc := 304) (i := 3) dL_law_304 rfl rfl ?_
    refine j_iconst (pc := 305) dL_law_305 ic_1 ?_
    refine j_iadd (pc := 306) dL_law_306 ?_
    refine j_sld (pc := 307) dL_law_307 hin1 ?_
    refine j_Mi (pc := 308) (As := [.int (sc xs i 1)]) (rest := [.int r]) (ct_X5_believes (sc xs i 1)) h2 rfl mi_X5_believes q_904 (by decide) rfl rfl (Nat.le_of_ble_eq_true rfl) dL_law_308 ?_
    refine j_eqT (pc := 311) (tgt := 1569) dL_law_311 rfl ?_
    exact next)
theorem lc_doubts {g : Gt} {adx adm : Nat → Nat} {b L : Nat} {xs : Nat → Int32} {z : Lt} {x : GX} {μ : GM} {RR : GX → GM → Prop} (hall : AllEqv RR) (hR : RR x μ) (i : Nat) (hin1 : vp_in (nI i + (1 : Int32)) L) (next : ∀ (x1 : GX) (μ1 : GM), RR x1 μ1 → LJ g adx adm b L xs z x1 μ1 1569 [(0, .ref b), (1, .ref (aMain adx)), (2, .ref (aMo adm)), (3, .int (nI i))] []) : LJ g adx adm b L xs z x μ 316 [(0, .ref b), (1, .ref (aMain adx)), (2, .ref (aMo adm)), (3, .int (nI i))] [] := by
  obtain ⟨r, x1, μ1, h1, h2, h3⟩ := hall.2.2.2.2.1 (sc xs i 1) x μ hR
  have next := next x1 μ1 h3
  (
    refine j_aload_n (pc := 316) (i := 1) dL_law_316 rfl rfl ?_
    refine j_aload_n (pc := 317) (i := 0) dL_law_317 rfl rfl ?_
    refine j_iload_n (pc := 318) (i := 3) dL_law_318 rfl rfl ?_
    refine j_iconst (pc := 319) dL_law_319 ic_1 ?_
    refine j_iadd (pc := 320) dL_law_320 ?_
    refine j_sld (pc := 321) dL_law_321 hin1 ?_
    refine j_Xi (pc := 322) (As := [.int (sc xs i 1)]) (rest := []) (ct_X4_doubts (sc xs i 1)) h1 rfl mi_X4_doubts q_410 (by decide) rfl rfl (Nat.le_of_ble_eq_true rfl) dL_law_322 ?_
    refine j_aload_n (pc := 325) (i := 2) dL_law_325 rfl rfl ?_
    refine j_aload_n (pc := 326) (i := 0) dL_law_326 rfl rfl ?_
    refine j_iload_n (pc := 327) (i := 3) dL_law_327 rfl rfl ?_
    refine j_iconst (pc := 328) dL_law_328 ic_1 ?_
    refine j_iadd (pc := 329) dL_law_329 ?_
    refine j_sld (pc := 330) dL_law_330 hin1 ?_
    refine j_Mi (pc := 331) (As := [.int (sc xs i 1)]) (rest := [.int r]) (ct_X5_doubts (sc xs i 1)) h2 rfl mi_X5_doubts q_908 (by decide) rfl rfl (Nat.le_of_ble_eq_true rfl) dL_law_331 ?_
    refine j_eqT (pc := 334) (tgt := 1569) dL_law_334 rfl ?_
    exact next)
theorem lc_feed {g : Gt} {adx adm : Nat → Nat} {b L : Nat} {xs : Nat → Int32} {z : Lt} {x : GX} {μ : GM} {RR : GX → GM → Prop} (hall : AllEqv RR) (hR : RR x μ) (i : Nat) (hin1 : vp_in (nI i + (1 : Int32)) L) (hin2 : vp_in (nI i + (2 : Int32)) L) (hin3 : vp_in (nI i + (3 : Int32)) L) (hin4 : vp_in (nI i + (4 : Int32)) L) (hin5 : vp_in (nI i + (5 : Int32)) L) (hin6 : vp_in (nI i + (6 : Int32)) L) (next : ∀ (x1 : GX) (μ1 : GM), RR x1 μ1 → LJ g adx adm b L xs z x1 μ1 1569 [(0, .ref b), (1, .ref (aMain adx)), (2, .ref (aMo adm)), (3, .int (nI i))] []) : LJ g adx adm b L xs z x μ 339 [(0, .ref b), (1, .ref (aMain adx)), (2, .ref (aMo adm)), (3, .int (nI i))] [] := by
  obtain ⟨r, x1, μ1, h1, h2, h3⟩ := hall.2.2.2.2.2.1 (sc xs i 1) (sc xs i 2) (sc xs i 3) (sc xs i 4) (sc xs i 5) (sc xs i 6) x μ hR
  have next := next x1 μ1 h3
  (
    refine j_aload_n (pc := 339) (i := 1) dL_law_339 rfl rfl ?_
    refine j_aload_n (pc := 340) (i := 0) dL_law_340 rfl rfl ?_
    refine j_iload_n (pc := 341) (i := 3) dL_law_341 rfl rfl ?_
    refine j_iconst (pc := 342) dL_law_342 ic_1 ?_
    refine j_iadd (pc := 343) dL_law_343 ?_
    refine j_sld (pc := 344) dL_law_344 hin1 ?_
    refine j_aload_n (pc := 345) (i := 0) dL_law_345 rfl rfl ?_
    refine j_iload_n (pc := 346) (i := 3) dL_law_346 rfl rfl ?_
    refine j_iconst (pc := 347) dL_law_347 ic_2 ?_
    refine j_iadd (pc := 348) dL_law_348 ?_
    refine j_sld (pc := 349) dL_law_349 hin2 ?_
    refine j_aload_n (pc := 350) (i := 0) dL_law_350 rfl rfl ?_
    refine j_iload_n (pc := 351) (i := 3) dL_law_351 rfl rfl ?_
    refine j_iconst (pc := 352) dL_law_352 ic_3 ?_
    refine j_iadd (pc := 353) dL_law_353 ?_
    refine j_sld (pc := 354) dL_law_354 hin3 ?_
    refine j_aload_n (pc := 355) (i := 0) dL_law_355 rfl rfl ?_
    refine j_iload_n (pc := 356) (i := 3) dL_law_356 rfl rfl ?_
    refine j_iconst (pc := 357) dL_law_357 ic_4 ?_
    refine j_iadd (pc := 358) dL_law_358 ?_
    refine j_sld (pc := 359) dL_law_359 hin4 ?_
    refine j_aload_n (pc := 360) (i := 0) dL_law_360 rfl rfl ?_
    refine j_iload_n (pc := 361) (i := 3) dL_law_361 rfl rfl ?_
    refine j_iconst (pc := 362) dL_law_362 ic_5 ?_
    refine j_iadd (pc := 363) dL_law_363 ?_
    refine j_sld (pc := 364) dL_law_364 hin5 ?_
    refine j_aload_n (pc := 365) (i := 0) dL_law_365 rfl rfl ?_
    refine j_iload_n (pc := 366) (i := 3) dL_law_366 rfl rfl ?_
    refine j_bipush (pc := 367) dL_law_367 bp_6 ?_
    refine j_iadd (pc := 369) dL_law_369 ?_
    refine j_sld (pc := 370) dL_law_370 hin6 ?_
    refine j_Xi (pc := 371) (As := [.int (sc xs i 1), .int (sc xs i 2), .int (sc xs i 3), .int (sc xs i 4), .int (sc xs i 5), .int (sc xs i 6)]) (rest := []) (ct_X4_feed (sc xs i 1) (sc xs i 2) (sc xs i 3) (sc xs i 4) (sc xs i 5) (sc xs i 6)) h1 rfl mi_X4_feed q_414 (by decide) rfl rfl (Nat.le_of_ble_eq_true rfl) dL_law_371 ?_
    refine j_aload_n (pc := 374) (i := 2) dL_law_374 rfl rfl ?_
    refine j_aload_n (pc := 375) (i := 0) dL_law_375 rfl rfl ?_
    refine j_iload_n (pc := 376) (i := 3) dL_law_376 rfl rfl ?_
    refine j_iconst (pc := 377) dL_law_377 ic_1 ?_
    refine j_iadd (pc := 378) dL_law_378 ?_
    refine j_sld (pc := 379) dL_law_379 hin1 ?_
    refine j_aload_n (pc := 380) (i := 0) dL_law_380 rfl rfl ?_
    refine j_iload_n (pc := 381) (i := 3) dL_law_381 rfl rfl ?_
    refine j_iconst (pc := 382) dL_law_382 ic_2 ?_
    refine j_iadd (pc := 383) dL_law_383 ?_
    refine j_sld (pc := 384) dL_law_384 hin2 ?_
    refine j_aload_n (pc := 385) (i := 0) dL_law_385 rfl rfl ?_
    refine j_iload_n (pc := 386) (i := 3) dL_law_386 rfl rfl ?_
    refine j_iconst (pc := 387) dL_law_387 ic_3 ?_
    refine j_iadd (pc := 388) dL_law_388 ?_
    refine j_sld (pc := 389) dL_law_389 hin3 ?_
    refine j_aload_n (pc := 390) (i := 0) dL_law_390 rfl rfl ?_
    refine j_iload_n (pc := 391) (i := 3) dL_law_391 rfl rfl ?_
    refine j_iconst (pc := 392) dL_law_392 ic_4 ?_
    refine j_iadd (pc := 393) dL_law_393 ?_
    refine j_sld (pc := 394) dL_law_394 hin4 ?_
    refine j_aload_n (pc := 395) (i := 0) dL_law_395 rfl rfl ?_
    refine j_iload_n (pc := 396) (i := 3) dL_law_396 rfl rfl ?_
    refine j_iconst (pc := 397) dL_law_397 ic_5 ?_
    refine j_iadd (pc := 398) dL_law_398 ?_
    refine j_sld (pc := 399) dL_law_399 hin5 ?_
    refine j_aload_n (pc := 400) (i := 0) dL_law_400 rfl rfl ?_
    refine j_iload_n (pc := 401) (i := 3) dL_law_401 rfl rfl ?_
    refine j_bipush (pc := 402) dL_law_402 bp_6 ?_
    refine j_iadd (pc := 404) dL_law_404 ?_
    refine j_sld (pc := 405) dL_law_405 hin6 ?_
    refine j_Mi (pc := 406) (As := [.int (sc xs i 1), .int (sc xs i 2), .int (sc xs i 3), .int (sc xs i 4), .int (sc xs i 5), .int (sc xs i 6)]) (rest := [.int r]) (ct_X5_feed (sc xs i 1) (sc xs i 2) (sc xs i 3) (sc xs i 4) (sc xs i 5) (sc xs i 6)) h2 rfl mi_X5_feed q_912 (by decide) rfl rfl (Nat.le_of_ble_eq_true rfl) dL_law_406 ?_
    refine j_eqT (pc := 409) (tgt := 1569) dL_law_409 rfl ?_
    exact next)
theorem lc_text {g : Gt} {adx adm : Nat → Nat} {b L : Nat} {xs : Nat → Int32} {z : Lt} {x : GX} {μ : GM} {RR : GX → GM → Prop} (hall : AllEqv RR) (hR : RR x μ) (i : Nat) (next : ∀ (x1 : GX) (μ1 : GM), RR x1 μ1 → LJ g adx adm b L xs z x1 μ1 1569 [(0, .ref b), (1, .ref (aMain adx)), (2, .ref (aMo adm)), (3, .int (nI i))] []) : LJ g adx adm b L xs z x μ 414 [(0, .ref b), (1, .ref (aMain adx)), (2, .ref (aMo adm)), (3, .int (nI i))] [] := by
  obtain ⟨r, x1, μ1, h1, h2, h3⟩ := hall.2.2.2.2.2.2.1 x μ hR
  have next := next x1 μ1 h3
  (
    refine j_aload_n (pc := 414) (i := 1) dL_law_414 rfl rfl ?_
    refine j_Xi (pc := 415) (As := []) (rest := []) (ct_X4_text) h1 rfl mi_X4_text q_421 (by decide) rfl rfl (Nat.le_of_ble_eq_true rfl) dL_law_415 ?_
    refine j_aload_n (pc := 418) (i := 2) dL_law_418 rfl rfl ?_
    refine j_Mi (pc := 419) (As := []) (rest := [.int r]) (ct_X5_text) h2 rfl mi_X5_text q_919 (by decide) rfl rfl (Nat.le_of_ble_eq_true rfl) dL_law_419 ?_
    refine j_eqT (pc := 422) (tgt := 1569) dL_law_422 rfl ?_
    exact next)
theorem lc_force {g : Gt} {adx adm : Nat → Nat} {b L : Nat} {xs : Nat → Int32} {z : Lt} {x : GX} {μ : GM} {RR : GX → GM → Prop} (hall : AllEqv RR) (hR : RR x μ) (i : Nat) (hin1 : vp_in (nI i + (1 : Int32)) L) (next : ∀ (x1 : GX) (μ1 : GM), RR x1 μ1 → LJ g adx adm b L xs z x1 μ1 1569 [(0, .ref b), (1, .ref (aMain adx)), (2, .ref (aMo adm)), (3, .int (nI i))] []) : LJ g adx adm b L xs z x μ 427 [(0, .ref b), (1, .ref (aMain adx)), (2, .ref (aMo adm)), (3, .int (nI i))] [] := by
  obtain ⟨r, x1, μ1, h1, h2, h3⟩ := hall.2.2.2.2.2.2.2.1 (sc xs i 1) x μ hR
  have next := next x1 μ1 h3
  (
    refine j_aload_n (pc := 427) (i := 1) dL_law_427 rfl rfl ?_
    refine j_aload_n (pc := 428) (i := 0) dL_law_428 rfl rfl ?_
    refine j_iload_n (pc := 429) (i := 3) dL_law_429 rfl rfl ?_
    refine j_iconst (pc := 430) dL_law_430 ic_1 ?_
    refine j_iadd (pc := 431) dL_law_431 ?_
    refine j_sld (pc := 432) dL_law_432 hin1 ?_
    refine j_Xi (pc := 433) (As := [.int (sc xs i 1)]) (rest := []) (ct_X4_force (sc xs i 1)) h1 rfl mi_X4_force q_425 (by decide) rfl rfl (Nat.le_of_ble_eq_true rfl) dL_law_433 ?_
    refine j_aload_n (pc := 436) (i := 2) dL_law_436 rfl rfl ?_
    refine j_aload_n (pc := 437) (i := 0) dL_law_437 rfl rfl ?_
    refine j_iload_n (pc := 438) (i := 3) dL_law_438 rfl rfl ?_
    refine j_iconst (pc := 439) dL_law_439 ic_1 ?_
    refine j_iadd (pc := 440) dL_law_440 ?_
    refine j_sld (pc := 441) dL_law_441 hin1 ?_
    refine j_Mi (pc := 442) (As := [.int (sc xs i 1)]) (rest := [.int r]) (ct_X5_force (sc xs i 1)) h2 rfl mi_X5_force q_920 (by decide) rfl rfl (Nat.le_of_ble_eq_true rfl) dL_law_442 ?_
    refine j_eqT (pc := 445) (tgt := 1569) dL_law_445 rfl ?_
    exact next)
theorem lc_asks {g : Gt} {adx adm : Nat → Nat} {b L : Nat} {xs : Nat → Int32} {z : Lt} {x : GX} {μ : GM} {RR : GX → GM → Prop} (hall : AllEqv RR) (hR : RR x μ) (i : Nat) (hin1 : vp_in (nI i + (1 : Int32)) L) (hin2 : vp_in (nI i + (2 : Int32)) L) (hin3 : vp_in (nI i + (3 : Int32)) L) (next : ∀ (x1 : GX) (μ1 : GM), RR x1 μ1 → LJ g adx adm b L xs z x1 μ1 1569 [(0, .ref b), (1, .ref (aMain adx)), (2, .ref (aMo adm)), (3, .int (nI i))] []) : LJ g adx adm b L xs z x μ 450 [(0, .ref b), (1, .ref (aMain adx)), (2, .ref (aMo adm)), (3, .int (nI i))] [] := by
  obtain ⟨r, x1, μ1, h1, h2, h3⟩ := hall.2.2.2.2.2.2.2.2.1 (sc xs i 1) (sc xs i 2) (sc xs i 3) x μ hR
  have next := next x1 μ1 h3
  (
    refine j_aload_n (pc := 450) (i := 1) dL_law_450 rfl rfl ?_
    refine j_aload_n (pc := 451) (i := 0) dL_law_451 rfl rfl ?_
    refine j_iload_n (pc := 452) (i := 3) dL_law_452 rfl rfl ?_
    refine j_iconst (pc := 453) dL_law_453 ic_1 ?_
    refine j_iadd (pc := 454) dL_law_454 ?_
    refine j_sld (pc := 455) dL_law_455 hin1 ?_
    refine j_aload_n (pc := 456) (i := 0) dL_law_456 rfl rfl ?_
    refine j_iload_n (pc := 457) (i := 3) dL_law_457 rfl rfl ?_
    refine j_iconst (pc := 458) dL_law_458 ic_2 ?_
    refine j_iadd (pc := 459) dL_law_459 ?_
    refine j_sld (pc := 460) dL_law_460 hin2 ?_
    refine j_aload_n (pc := 461) (i := 0) dL_law_461 rfl rfl ?_
    refine j_iload_n (pc := 462) (i := 3) dL_law_462 rfl rfl ?_
    refine j_iconst (pc := 463) dL_law_463 ic_3 ?_
    refine j_iadd (pc := 464) dL_law_464 ?_
    refine j_sld (pc := 465) dL_law_465 hin3 ?_
    refine j_Xi (pc := 466) (As := [.int (sc xs i 1), .int (sc xs i 2), .int (sc xs i 3)]) (rest := []) (ct_X4_asks (sc xs i 1) (sc xs i 2) (sc xs i 3)) h1 rfl mi_X4_asks q_429 (by decide) rfl rfl (Nat.le_of_ble_eq_true rfl) dL_law_466 ?_
    refine j_aload_n (pc := 469) (i := 2) dL_law_469 rfl rfl ?_
    refine j_aload_n (pc := 470) (i := 0) dL_law_470 rfl rfl ?_
    refine j_iload_n (pc := 471) (i := 3) dL_law_471 rfl rfl ?_
    refine j_iconst (pc := 472) dL_law_472 ic_1 ?_
    refine j_iadd (pc := 473) dL_law_473 ?_
    refine j_sld (pc := 474) dL_law_474 hin1 ?_
    refine j_aload_n (pc := 475) (i := 0) dL_law_475 rfl rfl ?_
    refine j_iload_n (pc := 476) (i := 3) dL_law_476 rfl rfl ?_
    refine j_iconst (pc := 477) dL_law_477 ic_2 ?_
    refine j_iadd (pc := 478) dL_law_478 ?_
    refine j_sld (pc := 479) dL_law_479 hin2 ?_
    refine j_aload_n (pc := 480) (i := 0) dL_law_480 rfl rfl ?_
    refine j_iload_n (pc := 481) (i := 3) dL_law_481 rfl rfl ?_
    refine j_iconst (pc := 482) dL_law_482 ic_3 ?_
    refine j_iadd (pc := 483) dL_law_483 ?_
    refine j_sld (pc := 484) dL_law_484 hin3 ?_
    refine j_Mi (pc := 485) (As := [.int (sc xs i 1), .int (sc xs i 2), .int (sc xs i 3)]) (rest := [.int r]) (ct_X5_asks (sc xs i 1) (sc xs i 2) (sc xs i 3)) h2 rfl mi_X5_asks q_924 (by decide) rfl rfl (Nat.le_of_ble_eq_true rfl) dL_law_485 ?_
    refine j_eqT (pc := 488) (tgt := 1569) dL_law_488 rfl ?_
    exact next)
theorem lc_ship {g : Gt} {adx adm : Nat → Nat} {b L : Nat} {xs : Nat → Int32} {z : Lt} {x : GX} {μ : GM} {RR : GX → GM → Prop} (hall : AllEqv RR) (hR : RR x μ) (i : Nat) (hin1 : vp_in (nI i + (1 : Int32)) L) (hin2 : vp_in (nI i + (2 : Int32)) L) (next : ∀ (x1 : GX) (μ1 : GM), RR x1 μ1 → LJ g adx adm b L xs z x1 μ1 1569 [(0, .ref b), (1, .ref (aMain adx)), (2, .ref (aMo adm)), (3, .int (nI i))] []) : LJ g adx adm b L xs z x μ 493 [(0, .ref b), (1, .ref (aMain adx)), (2, .ref (aMo adm)), (3, .int (nI i))] [] := by
  obtain ⟨r, x1, μ1, h1, h2, h3⟩ := hall.2.2.2.2.2.2.2.2.2.1 (sc xs i 1) (sc xs i 2) x μ hR
  have next := next x1 μ1 h3
  (
    refine j_aload_n (pc := 493) (i := 1) dL_law_493 rfl rfl ?_
    refine j_aload_n (pc := 494) (i := 0) dL_law_494 rfl rfl ?_
    refine j_iload_n (pc := 495) (i := 3) dL_law_495 rfl rfl ?_
    refine j_iconst (pc := 496) dL_law_496 ic_1 ?_
    refine j_iadd (pc := 497) dL_law_497 ?_
    refine j_sld (pc := 498) dL_law_498 hin1 ?_
    refine j_aload_n (pc := 499) (i := 0) dL_law_499 rfl rfl ?_
    refine j_iload_n (pc := 500) (i := 3) dL_law_500 rfl rfl ?_
    refine j_iconst (pc := 501) dL_law_501 ic_2 ?_
    refine j_iadd (pc := 502) dL_law_502 ?_
    refine j_sld (pc := 503) dL_law_503 hin2 ?_
    refine j_Xi (pc := 504) (As := [.int (sc xs i 1), .int (sc xs i 2)]) (rest := []) (ct_X4_ship (sc xs i 1) (sc xs i 2)) h1 rfl mi_X4_ship q_451 (by decide) rfl rfl (Nat.le_of_ble_eq_true rfl) dL_law_504 ?_
    refine j_aload_n (pc := 507) (i := 2) dL_law_507 rfl rfl ?_
    refine j_aload_n (pc := 508) (i := 0) dL_law_508 rfl rfl ?_
    refine j_iload_n (pc := 509) (i := 3) dL_law_509 rfl rfl ?_
    refine j_iconst (pc := 510) dL_law_510 ic_1 ?_
    refine j_iadd (pc := 511) dL_law_511 ?_
    refine j_sld (pc := 512) dL_law_512 hin1 ?_
    refine j_aload_n (pc := 513) (i := 0) dL_law_513 rfl rfl ?_
    refine j_iload_n (pc := 514) (i := 3) dL_law_514 rfl rfl ?_
    refine j_iconst (pc := 515) dL_law_515 ic_2 ?_
    refine j_iadd (pc := 516) dL_law_516 ?_
    refine j_sld (pc := 517) dL_law_517 hin2 ?_
    refine j_Mi (pc := 518) (As := [.int (sc xs i 1), .int (sc xs i 2)]) (rest := [.int r]) (ct_X5_ship (sc xs i 1) (sc xs i 2)) h2 rfl mi_X5_ship q_943 (by decide) rfl rfl (Nat.le_of_ble_eq_true rfl) dL_law_518 ?_
    refine j_eqT (pc := 521) (tgt := 1569) dL_law_521 rfl ?_
    exact next)
theorem lc_put {g : Gt} {adx adm : Nat → Nat} {b L : Nat} {xs : Nat → Int32} {z : Lt} {x : GX} {μ : GM} {RR : GX → GM → Prop} (hall : AllEqv RR) (hR : RR x μ) (i : Nat) (hin1 : vp_in (nI i + (1 : Int32)) L) (hin2 : vp_in (nI i + (2 : Int32)) L) (hin3 : vp_in (nI i + (3 : Int32)) L) (next : ∀ (x1 : GX) (μ1 : GM), RR x1 μ1 → LJ g adx adm b L xs z x1 μ1 1569 [(0, .ref b), (1, .ref (aMain adx)), (2, .ref (aMo adm)), (3, .int (nI i))] []) : LJ g adx adm b L xs z x μ 526 [(0, .ref b), (1, .ref (aMain adx)), (2, .ref (aMo adm)), (3, .int (nI i))] [] := by
  obtain ⟨r, x1, μ1, h1, h2, h3⟩ := hall.2.2.2.2.2.2.2.2.2.2.1 (sc xs i 1) (sc xs i 2) (sc xs i 3) x μ hR
  have next := next x1 μ1 h3
  (
    refine j_aload_n (pc := 526) (i := 1) dL_law_526 rfl rfl ?_
    refine j_aload_n (pc := 527) (i := 0) dL_law_527 rfl rfl ?_
    refine j_iload_n (pc := 528) (i := 3) dL_law_528 rfl rfl ?_
    refine j_iconst (pc := 529) dL_law_529 ic_1 ?_
    refine j_iadd (pc := 530) dL_law_530 ?_
    refine j_sld (pc := 531) dL_law_531 hin1 ?_
    refine j_aload_n (pc := 532) (i := 0) dL_law_532 rfl rfl ?_
    refine j_iload_n (pc := 533) (i := 3) dL_law_533 rfl rfl ?_
    refine j_iconst (pc := 534) dL_law_534 ic_2 ?_
    refine j_iadd (pc := 535) dL_law_535 ?_
    refine j_sld (pc := 536) dL_law_536 hin2 ?_
    refine j_aload_n (pc := 537) (i := 0) dL_law_537 rfl rfl ?_
    refine j_iload_n (pc := 538) (i := 3) dL_law_538 rfl rfl ?_
    refine j_iconst (pc := 539) dL_law_539 ic_3 ?_
    refine j_iadd (pc := 540) dL_law_540 ?_
    refine j_sld (pc := 541) dL_law_541 hin3 ?_
    refine j_Xi (pc := 542) (As := [.int (sc xs i 1), .int (sc xs i 2), .int (sc xs i 3)]) (rest := []) (ct_X4_put (sc xs i 1) (sc xs i 2) (sc xs i 3)) h1 rfl mi_X4_put q_459 (by decide) rfl rfl (Nat.le_of_ble_eq_true rfl) dL_law_542 ?_
    refine j_aload_n (pc := 545) (i := 2) dL_law_545 rfl rfl ?_
    refine j_aload_n (pc := 546) (i := 0) dL_law_546 rfl rfl ?_
    refine j_iload_n (pc := 547) (i := 3) dL_law_547 rfl rfl ?_
    refine j_iconst (pc := 548) dL_law_548 ic_1 ?_
    refine j_iadd (pc := 549) dL_law_549 ?_
    refine j_sld (pc := 550) dL_law_550 hin1 ?_
    refine j_aload_n (pc := 551) (i := 0) dL_law_551 rfl rfl ?_
    refine j_iload_n (pc := 552) (i := 3) dL_law_552 rfl rfl ?_
    refine j_iconst (pc := 553) dL_law_553 ic_2 ?_
    refine j_iadd (pc := 554) dL_law_554 ?_
    refine j_sld (pc := 555) dL_law_555 hin2 ?_
    refine j_aload_n (pc := 556) (i := 0) dL_law_556 rfl rfl ?_
    refine j_iload_n (pc := 557) (i := 3) dL_law_557 rfl rfl ?_
    refine j_iconst (pc := 558) dL_law_558 ic_3 ?_
    refine j_iadd (pc := 559) dL_law_559 ?_
    refine j_sld (pc := 560) dL_law_560 hin3 ?_
    refine j_Mi (pc := 561) (As := [.int (sc xs i 1), .int (sc xs i 2), .int (sc xs i 3)]) (rest := [.int r]) (ct_X5_put (sc xs i 1) (sc xs i 2) (sc xs i 3)) h2 rfl mi_X5_put q_947 (by decide) rfl rfl (Nat.le_of_ble_eq_true rfl) dL_law_561 ?_
    refine j_eqT (pc := 564) (tgt := 1569) dL_law_564 rfl ?_
    exact next)
theorem lc_told {g : Gt} {adx adm : Nat → Nat} {b L : Nat} {xs : Nat → Int32} {z : Lt} {x : GX} {μ : GM} {RR : GX → GM → Prop} (hall : AllEqv RR) (hR : RR x μ) (i : Nat) (hin1 : vp_in (nI i + (1 : Int32)) L) (hin2 : vp_in (nI i + (2 : Int32)) L) (next : ∀ (x1 : GX) (μ1 : GM), RR x1 μ1 → LJ g adx adm b L xs z x1 μ1 1569 [(0, .ref b), (1, .ref (aMain adx)), (2, .ref (aMo adm)), (3, .int (nI i))] []) : LJ g adx adm b L xs z x μ 569 [(0, .ref b), (1, .ref (aMain adx)), (2, .ref (aMo adm)), (3, .int (nI i))] [] := by
  obtain ⟨r, x1, μ1, h1, h2, h3⟩ := hall.2.2.2.2.2.2.2.2.2.2.2.1 (sc xs i 1) (sc xs i 2) x μ hR
  have next := next x1 μ1 h3
  (
    refine j_aload_n (pc := 569) (i := 1) dL_law_569 rfl rfl ?_
    refine j_aload_n (pc := 570) (i := 0) dL_law_570 rfl rfl ?_
    refine j_iload_n (pc := 571) (i := 3) dL_law_571 rfl rfl ?_
    refine j_iconst (pc := 572) dL_law_572 ic_1 ?_
    refine j_iadd (pc := 573) dL_law_573 ?_
    refine j_sld (pc := 574) dL_law_574 hin1 ?_
    refine j_aload_n (pc := 575) (i := 0) dL_law_575 rfl rfl ?_
    refine j_iload_n (pc := 576) (i := 3) dL_law_576 rfl rfl ?_
    refine j_iconst (pc := 577) dL_law_577 ic_2 ?_
    refine j_iadd (pc := 578) dL_law_578 ?_
    refine j_sld (pc := 579) dL_law_579 hin2 ?_
    refine j_Xi (pc := 580) (As := [.int (sc xs i 1), .int (sc xs i 2)]) (rest := []) (ct_X4_told (sc xs i 1) (sc xs i 2)) h1 rfl mi_X4_told q_463 (by decide) rfl rfl (Nat.le_of_ble_eq_true rfl) dL_law_580 ?_
    refine j_aload_n (pc := 583) (i := 2) dL_law_583 rfl rfl ?_
    refine j_aload_n (pc := 584) (i := 0) dL_law_584 rfl rfl ?_
    refine j_iload_n (pc := 585) (i := 3) dL_law_585 rfl rfl ?_
    refine j_iconst (pc := 586) dL_law_586 ic_1 ?_
    refine j_iadd (pc := 587) dL_law_587 ?_
    refine j_sld (pc := 588) dL_law_588 hin1 ?_
    refine j_aload_n (pc := 589) (i := 0) dL_law_589 rfl rfl ?_
    refine j_iload_n (pc := 590) (i := 3) dL_law_590 rfl rfl ?_
    refine j_iconst (pc := 591) dL_law_591 ic_2 ?_
    refine j_iadd (pc := 592) dL_law_592 ?_
    refine j_sld (pc := 593) dL_law_593 hin2 ?_
    refine j_Mi (pc := 594) (As := [.int (sc xs i 1), .int (sc xs i 2)]) (rest := [.int r]) (ct_X5_told (sc xs i 1) (sc xs i 2)) h2 rfl mi_X5_told q_951 (by decide) rfl rfl (Nat.le_of_ble_eq_true rfl) dL_law_594 ?_
    refine j_eqT (pc := 597) (tgt := 1569) dL_law_597 rfl ?_
    exact next)
theorem lc_likes {g : Gt} {adx adm : Nat → Nat} {b L : Nat} {xs : Nat → Int32} {z : Lt} {x : GX} {μ : GM} {RR : GX → GM → Prop} (hall : AllEqv RR) (hR : RR x μ) (i : Nat) (hin1 : vp_in (nI i + (1 : Int32)) L) (hin2 : vp_in (nI i + (2 : Int32)) L) (next : ∀ (x1 : GX) (μ1 : GM), RR x1 μ1 → LJ g adx adm b L xs z x1 μ1 1569 [(0, .ref b), (1, .ref (aMain adx)), (2, .ref (aMo adm)), (3, .int (nI i))] []) : LJ g adx adm b L xs z x μ 602 [(0, .ref b), (1, .ref (aMain adx)), (2, .ref (aMo adm)), (3, .int (nI i))] [] := by
  obtain ⟨r, x1, μ1, h1, h2, h3⟩ := hall.2.2.2.2.2.2.2.2.2.2.2.2.1 (sc xs i 1) (sc xs i 2) x μ hR
  have next := next x1 μ1 h3
  (
    refine j_aload_n (pc := 602) (i := 1) dL_law_602 rfl rfl ?_
    refine j_aload_n (pc := 603) (i := 0) dL_law_603 rfl rfl ?_
    refine j_iload_n (pc := 604) (i := 3) dL_law_604 rfl rfl ?_
    refine j_iconst (pc := 605) dL_law_605 ic_1 ?_
    refine j_iadd (pc := 606) dL_law_606 ?_
    refine j_sld (pc := 607) dL_law_607 hin1 ?_
    refine j_aload_n (pc := 608) (i := 0) dL_law_608 rfl rfl ?_
    refine j_iload_n (pc := 609) (i := 3) dL_law_609 rfl rfl ?_
    refine j_iconst (pc := 610) dL_law_610 ic_2 ?_
    refine j_iadd (pc := 611) dL_law_611 ?_
    refine j_sld (pc := 612) dL_law_612 hin2 ?_
    refine j_Xi (pc := 613) (As := [.int (sc xs i 1), .int (sc xs i 2)]) (rest := []) (ct_X4_likes (sc xs i 1) (sc xs i 2)) h1 rfl mi_X4_likes q_487 (by decide) rfl rfl (Nat.le_of_ble_eq_true rfl) dL_law_613 ?_
    refine j_aload_n (pc := 616) (i := 2) dL_law_616 rfl rfl ?_
    refine j_aload_n (pc := 617) (i := 0) dL_law_617 rfl rfl ?_
    refine j_iload_n (pc := 618) (i := 3) dL_law_618 rfl rfl ?_
    refine j_iconst (pc := 619) dL_law_619 ic_1 ?_
    refine j_iadd (pc := 620) dL_law_620 ?_
    refine j_sld (pc := 621) dL_law_621 hin1 ?_
    refine j_aload_n (pc := 622) (i := 0) dL_law_622 rfl rfl ?_
    refine j_iload_n (pc := 623) (i := 3) dL_law_623 rfl rfl ?_
    refine j_iconst (pc := 624) dL_law_624 ic_2 ?_
    refine j_iadd (pc := 625) dL_law_625 ?_
    refine j_sld (pc := 626) dL_law_626 hin2 ?_
    refine j_Mi (pc := 627) (As := [.int (sc xs i 1), .int (sc xs i 2)]) (rest := [.int r]) (ct_X5_likes (sc xs i 1) (sc xs i 2)) h2 rfl mi_X5_likes q_970 (by decide) rfl rfl (Nat.le_of_ble_eq_true rfl) dL_law_627 ?_
    refine j_eqT (pc := 630) (tgt := 1569) dL_law_630 rfl ?_
    exact next)
theorem lc_night {g : Gt} {adx adm : Nat → Nat} {b L : Nat} {xs : Nat → Int32} {z : Lt} {x : GX} {μ : GM} {RR : GX → GM → Prop} (hall : AllEqv RR) (hR : RR x μ) (i : Nat) (next : ∀ (x1 : GX) (μ1 : GM), RR x1 μ1 → LJ g adx adm b L xs z x1 μ1 1569 [(0, .ref b), (1, .ref (aMain adx)), (2, .ref (aMo adm)), (3, .int (nI i))] []) : LJ g adx adm b L xs z x μ 635 [(0, .ref b), (1, .ref (aMain adx)), (2, .ref (aMo adm)), (3, .int (nI i))] [] := by
  obtain ⟨r, x1, μ1, h1, h2, h3⟩ := hall.2.2.2.2.2.2.2.2.2.2.2.2.2.1 x μ hR
  have next := next x1 μ1 h3
  (
    refine j_aload_n (pc := 635) (i := 1) dL_law_635 rfl rfl ?_
    refine j_Xi (pc := 636) (As := []) (rest := []) (ct_X4_night) h1 rfl mi_X4_night q_493 (by decide) rfl rfl (Nat.le_of_ble_eq_true rfl) dL_law_636 ?_
    refine j_aload_n (pc := 639) (i := 2) dL_law_639 rfl rfl ?_
    refine j_Mi (pc := 640) (As := []) (rest := [.int r]) (ct_X5_night) h2 rfl mi_X5_night q_975 (by decide) rfl rfl (Nat.le_of_ble_eq_true rfl) dL_law_640 ?_
    refine j_eqT (pc := 643) (tgt := 1569) dL_law_643 rfl ?_
    exact next)
theorem lc_run {g : Gt} {adx adm : Nat → Nat} {b L : Nat} {xs : Nat → Int32} {z : Lt} {x : GX} {μ : GM} {RR : GX → GM → Prop} (hall : AllEqv RR) (hR : RR x μ) (i : Nat) (hin1 : vp_in (nI i + (1 : Int32)) L) (hin2 : vp_in (nI i + (2 : Int32)) L) (next : ∀ (x1 : GX) (μ1 : GM), RR x1 μ1 → LJ g adx adm b L xs z x1 μ1 1569 [(0, .ref b), (1, .ref (aMain adx)), (2, .ref (aMo adm)), (3, .int (nI i))] []) : LJ g adx adm b L xs z x μ 648 [(0, .ref b), (1, .ref (aMain adx)), (2, .ref (aMo adm)), (3, .int (nI i))] [] := by
  obtain ⟨r, x1, μ1, h1, h2, h3⟩ := hall.2.2.2.2.2.2.2.2.2.2.2.2.2.2.1 (sc xs i 1) (sc xs i 2) x μ hR
  have next := next x1 μ1 h3
  (
    refine j_aload_n (pc := 648) (i := 1) dL_law_648 rfl rfl ?_
    refine j_aload_n (pc := 649) (i := 0) dL_law_649 rfl rfl ?_
    refine j_iload_n (pc := 650) (i := 3) dL_law_650 rfl rfl ?_
    refine j_iconst (pc := 651) dL_law_651 ic_1 ?_
    refine j_iadd (pc := 652) dL_law_652 ?_
    refine j_sld (pc := 653) dL_law_653 hin1 ?_
    refine j_aload_n (pc := 654) (i := 0) dL_law_654 rfl rfl ?_
    refine j_iload_n (pc := 655) (i := 3) dL_law_655 rfl rfl ?_
    refine j_iconst (pc := 656) dL_law_656 ic_2 ?_
    refine j_iadd (pc := 657) dL_law_657 ?_
    refine j_sld (pc := 658) dL_law_658 hin2 ?_
    refine j_Xi (pc := 659) (As := [.int (sc xs i 1), .int (sc xs i 2)]) (rest := []) (ct_X4_run (sc xs i 1) (sc xs i 2)) h1 rfl mi_X4_run q_513 (by decide) rfl rfl (Nat.le_of_ble_eq_true rfl) dL_law_659 ?_
    refine j_aload_n (pc := 662) (i := 2) dL_law_662 rfl rfl ?_
    refine j_aload_n (pc := 663) (i := 0) dL_law_663 rfl rfl ?_
    refine j_iload_n (pc := 664) (i := 3) dL_law_664 rfl rfl ?_
    refine j_iconst (pc := 665) dL_law_665 ic_1 ?_
    refine j_iadd (pc := 666) dL_law_666 ?_
    refine j_sld (pc := 667) dL_law_667 hin1 ?_
    refine j_aload_n (pc := 668) (i := 0) dL_law_668 rfl rfl ?_
    refine j_iload_n (pc := 669) (i := 3) dL_law_669 rfl rfl ?_
    refine j_iconst (pc := 670) dL_law_670 ic_2 ?_
    refine j_iadd (pc := 671) dL_law_671 ?_
    refine j_sld (pc := 672) dL_law_672 hin2 ?_
    refine j_Mi (pc := 673) (As := [.int (sc xs i 1), .int (sc xs i 2)]) (rest := [.int r]) (ct_X5_run (sc xs i 1) (sc xs i 2)) h2 rfl mi_X5_run q_991 (by decide) rfl rfl (Nat.le_of_ble_eq_true rfl) dL_law_673 ?_
    refine j_eqT (pc := 676) (tgt := 1569) dL_law_676 rfl ?_
    exact next)
theorem lc_lostBy {g : Gt} {adx adm : Nat → Nat} {b L : Nat} {xs : Nat → Int32} {z : Lt} {x : GX} {μ : GM} {RR : GX → GM → Prop} (hall : AllEqv RR) (hR : RR x μ) (i : Nat) (hin1 : vp_in (nI i + (1 : Int32)) L) (hin2 : vp_in (nI i + (2 : Int32)) L) (next : ∀ (x1 : GX) (μ1 : GM), RR x1 μ1 → LJ g adx adm b L xs z x1 μ1 1569 [(0, .ref b), (1, .ref (aMain adx)), (2, .ref (aMo adm)), (3, .int (nI i))] []) : LJ g adx adm b L xs z x μ 681 [(0, .ref b), (1, .ref (aMain adx)), (2, .ref (aMo adm)), (3, .int (nI i))] [] := by
  obtain ⟨r, x1, μ1, h1, h2, h3⟩ := hall.2.2.2.2.2.2.2.2.2.2.2.2.2.2.2.1 (sc xs i 1) (sc xs i 2) x μ hR
  have next := next x1 μ1 h3
  (
    refine j_aload_n (pc := 681) (i := 1) dL_law_681 rfl rfl ?_
    refine j_aload_n (pc := 682) (i := 0) dL_law_682 rfl rfl ?_
    refine j_iload_n (pc := 683) (i := 3) dL_law_683 rfl rfl ?_
    refine j_iconst (pc := 684) dL_law_684 ic_1 ?_
    refine j_iadd (pc := 685) dL_law_685 ?_
    refine j_sld (pc := 686) dL_law_686 hin1 ?_
    refine j_aload_n (pc := 687) (i := 0) dL_law_687 rfl rfl ?_
    refine j_iload_n (pc := 688) (i := 3) dL_law_688 rfl rfl ?_
    refine j_iconst (pc := 689) dL_law_689 ic_2 ?_
    refine j_iadd (pc := 690) dL_law_690 ?_
    refine j_sld (pc := 691) dL_law_691 hin2 ?_
    refine j_Xi (pc := 692) (As := [.int (sc xs i 1), .int (sc xs i 2)]) (rest := []) (ct_X4_lostBy (sc xs i 1) (sc xs i 2)) h1 rfl mi_X4_lostBy q_538 (by decide) rfl rfl (Nat.le_of_ble_eq_true rfl) dL_law_692 ?_
    refine j_aload_n (pc := 695) (i := 2) dL_law_695 rfl rfl ?_
    refine j_aload_n (pc := 696) (i := 0) dL_law_696 rfl rfl ?_
    refine j_iload_n (pc := 697) (i := 3) dL_law_697 rfl rfl ?_
    refine j_iconst (pc := 698) dL_law_698 ic_1 ?_
    refine j_iadd (pc := 699) dL_law_699 ?_
    refine j_sld (pc := 700) dL_law_700 hin1 ?_
    refine j_aload_n (pc := 701) (i := 0) dL_law_701 rfl rfl ?_
    refine j_iload_n (pc := 702) (i := 3) dL_law_702 rfl rfl ?_
    refine j_iconst (pc := 703) dL_law_703 ic_2 ?_
    refine j_iadd (pc := 704) dL_law_704 ?_
    refine j_sld (pc := 705) dL_law_705 hin2 ?_
    refine j_Mi (pc := 706) (As := [.int (sc xs i 1), .int (sc xs i 2)]) (rest := [.int r]) (ct_X5_lostBy (sc xs i 1) (sc xs i 2)) h2 rfl mi_X5_lostBy q_1015 (by decide) rfl rfl (Nat.le_of_ble_eq_true rfl) dL_law_706 ?_
    refine j_eqT (pc := 709) (tgt := 1569) dL_law_709 rfl ?_
    exact next)
theorem lc_track {g : Gt} {adx adm : Nat → Nat} {b L : Nat} {xs : Nat → Int32} {z : Lt} {x : GX} {μ : GM} {RR : GX → GM → Prop} (hall : AllEqv RR) (hR : RR x μ) (i : Nat) (hin1 : vp_in (nI i + (1 : Int32)) L) (hin2 : vp_in (nI i + (2 : Int32)) L) (next : ∀ (x1 : GX) (μ1 : GM), RR x1 μ1 → LJ g adx adm b L xs z x1 μ1 1569 [(0, .ref b), (1, .ref (aMain adx)), (2, .ref (aMo adm)), (3, .int (nI i))] []) : LJ g adx adm b L xs z x μ 714 [(0, .ref b), (1, .ref (aMain adx)), (2, .ref (aMo adm)), (3, .int (nI i))] [] := by
  obtain ⟨r, x1, μ1, h1, h2, h3⟩ := hall.2.2.2.2.2.2.2.2.2.2.2.2.2.2.2.2.1 (sc xs i 1) (sc xs i 2) x μ hR
  have next := next x1 μ1 h3
  (
    refine j_aload_n (pc := 714) (i := 1) dL_law_714 rfl rfl ?_
    refine j_aload_n (pc := 715) (i := 0) dL_law_715 rfl rfl ?_
    refine j_iload_n (pc := 716) (i := 3) dL_law_716 rfl rfl ?_
    refine j_iconst (pc := 717) dL_law_717 ic_1 ?_
    refine j_iadd (pc := 718) dL_law_718 ?_
    refine j_sld (pc := 719) dL_law_719 hin1 ?_
    refine j_aload_n (pc := 720) (i := 0) dL_law_720 rfl rfl ?_
    refine j_iload_n (pc := 721) (i := 3) dL_law_721 rfl rfl ?_
    refine j_iconst (pc := 722) dL_law_722 ic_2 ?_
    refine j_iadd (pc := 723) dL_law_723 ?_
    refine j_sld (pc := 724) dL_law_724 hin2 ?_
    refine j_Xl (pc := 725) (As := [.int (sc xs i 1), .int (sc xs i 2)]) (rest := []) (ct_X4_track (sc xs i 1) (sc xs i 2)) h1 rfl mi_X4_track q_542 (by decide) rfl rfl (Nat.le_of_ble_eq_true rfl) dL_law_725 ?_
    refine j_aload_n (pc := 728) (i := 2) dL_law_728 rfl rfl ?_
    refine j_aload_n (pc := 729) (i := 0) dL_law_729 rfl rfl ?_
    refine j_iload_n (pc := 730) (i := 3) dL_law_730 rfl rfl ?_
    refine j_iconst (pc := 731) dL_law_731 ic_1 ?_
    refine j_iadd (pc := 732) dL_law_732 ?_
    refine j_sld (pc := 733) dL_law_733 hin1 ?_
    refine j_aload_n (pc := 734) (i := 0) dL_law_734 rfl rfl ?_
    refine j_iload_n (pc := 735) (i := 3) dL_law_735 rfl rfl ?_
    refine j_iconst (pc := 736) dL_law_736 ic_2 ?_
    refine j_iadd (pc := 737) dL_law_737 ?_
    refine j_sld (pc := 738) dL_law_738 hin2 ?_
    refine j_Ml (pc := 739) (As := [.int (sc xs i 1), .int (sc xs i 2)]) (rest := [.long r]) (ct_X5_track (sc xs i 1) (sc xs i 2)) h2 rfl mi_X5_track q_1019 (by decide) rfl rfl (Nat.le_of_ble_eq_true rfl) dL_law_739 ?_
    refine j_lcmpT (pc := 742) (tgt := 1569) dL_law_742 dL_law_743 rfl ?_
    exact next)
theorem lc_sea {g : Gt} {adx adm : Nat → Nat} {b L : Nat} {xs : Nat → Int32} {z : Lt} {x : GX} {μ : GM} {RR : GX → GM → Prop} (hall : AllEqv RR) (hR : RR x μ) (i : Nat) (hin1 : vp_in (nI i + (1 : Int32)) L) (next : ∀ (x1 : GX) (μ1 : GM), RR x1 μ1 → LJ g adx adm b L xs z x1 μ1 1569 [(0, .ref b), (1, .ref (aMain adx)), (2, .ref (aMo adm)), (3, .int (nI i))] []) : LJ g adx adm b L xs z x μ 748 [(0, .ref b), (1, .ref (aMain adx)), (2, .ref (aMo adm)), (3, .int (nI i))] [] := by
  obtain ⟨r, x1, μ1, h1, h2, h3⟩ := hall.2.2.2.2.2.2.2.2.2.2.2.2.2.2.2.2.2.1 (sc xs i 1) x μ hR
  have next := next x1 μ1 h3
  (
    refine j_aload_n (pc := 748) (i := 1) dL_law_748 rfl rfl ?_
    refine j_aload_n (pc := 749) (i := 0) dL_law_749 rfl rfl ?_
    refine j_iload_n (pc := 750) (i := 3) dL_law_750 rfl rfl ?_
    refine j_iconst (pc := 751) dL_law_751 ic_1 ?_
    refine j_iadd (pc := 752) dL_law_752 ?_
    refine j_sld (pc := 753) dL_law_753 hin1 ?_
    refine j_Xl (pc := 754) (As := [.int (sc xs i 1)]) (rest := []) (ct_X4_sea (sc xs i 1)) h1 rfl mi_X4_sea q_547 (by decide) rfl rfl (Nat.le_of_ble_eq_true rfl) dL_law_754 ?_
    refine j_aload_n (pc := 757) (i := 2) dL_law_757 rfl rfl ?_
    refine j_aload_n (pc := 758) (i := 0) dL_law_758 rfl rfl ?_
    refine j_iload_n (pc := 759) (i := 3) dL_law_759 rfl rfl ?_
    refine j_iconst (pc := 760) dL_law_760 ic_1 ?_
    refine j_iadd (pc := 761) dL_law_761 ?_
    refine j_sld (pc := 762) dL_law_762 hin1 ?_
    refine j_Ml (pc := 763) (As := [.int (sc xs i 1)]) (rest := [.long r]) (ct_X5_sea (sc xs i 1)) h2 rfl mi_X5_sea q_1024 (by decide) rfl rfl (Nat.le_of_ble_eq_true rfl) dL_law_763 ?_
    refine j_lcmpT (pc := 766) (tgt := 1569) dL_law_766 dL_law_767 rfl ?_
    exact next)
theorem lc_lie {g : Gt} {adx adm : Nat → Nat} {b L : Nat} {xs : Nat → Int32} {z : Lt} {x : GX} {μ : GM} {RR : GX → GM → Prop} (hall : AllEqv RR) (hR : RR x μ) (i : Nat) (hin1 : vp_in (nI i + (1 : Int32)) L) (hin2 : vp_in (nI i + (2 : Int32)) L) (hin3 : vp_in (nI i + (3 : Int32)) L) (next : ∀ (x1 : GX) (μ1 : GM), RR x1 μ1 → LJ g adx adm b L xs z x1 μ1 1569 [(0, .ref b), (1, .ref (aMain adx)), (2, .ref (aMo adm)), (3, .int (nI i))] []) : LJ g adx adm b L xs z x μ 772 [(0, .ref b), (1, .ref (aMain adx)), (2, .ref (aMo adm)), (3, .int (nI i))] [] := by
  obtain ⟨r, x1, μ1, h1, h2, h3⟩ := hall.2.2.2.2.2.2.2.2.2.2.2.2.2.2.2.2.2.2.1 (sc xs i 1) (sc xs i 2) (sc xs i 3) x μ hR
  have next := next x1 μ1 h3
  (
    refine j_aload_n (pc := 772) (i := 1) dL_law_772 rfl rfl ?_
    refine j_aload_n (pc := 773) (i := 0) dL_law_773 rfl rfl ?_
    refine j_iload_n (pc := 774) (i := 3) dL_law_774 rfl rfl ?_
    refine j_iconst (pc := 775) dL_law_775 ic_1 ?_
    refine j_iadd (pc := 776) dL_law_776 ?_
    refine j_sld (pc := 777) dL_law_777 hin1 ?_
    refine j_aload_n (pc := 778) (i := 0) dL_law_778 rfl rfl ?_
    refine j_iload_n (pc := 779) (i := 3) dL_law_779 rfl rfl ?_
    refine j_iconst (pc := 780) dL_law_780 ic_2 ?_
    refine j_iadd (pc := 781) dL_law_781 ?_
    refine j_sld (pc := 782) dL_law_782 hin2 ?_
    refine j_aload_n (pc := 783) (i := 0) dL_law_783 rfl rfl ?_
    refine j_iload_n (pc := 784) (i := 3) dL_law_784 rfl rfl ?_
    refine j_iconst (pc := 785) dL_law_785 ic_3 ?_
    refine j_iadd (pc := 786) dL_law_786 ?_
    refine j_sld (pc := 787) dL_law_787 hin3 ?_
    refine j_Xi (pc := 788) (As := [.int (sc xs i 1), .int (sc xs i 2), .int (sc xs i 3)]) (rest := []) (ct_X4_lie (sc xs i 1) (sc xs i 2) (sc xs i 3)) h1 rfl mi_X4_lie q_559 (by decide) rfl rfl (Nat.le_of_ble_eq_true rfl) dL_law_788 ?_
    refine j_aload_n (pc := 791) (i := 2) dL_law_791 rfl rfl ?_
    refine j_aload_n (pc := 792) (i := 0) dL_law_792 rfl rfl ?_
    refine j_iload_n (pc := 793) (i := 3) dL_law_793 rfl rfl ?_
    refine j_iconst (pc := 794) dL_law_794 ic_1 ?_
    refine j_iadd (pc := 795) dL_law_795 ?_
    refine j_sld (pc := 796) dL_law_796 hin1 ?_
    refine j_aload_n (pc := 797) (i := 0) dL_law_797 rfl rfl ?_
    refine j_iload_n (pc := 798) (i := 3) dL_law_798 rfl rfl ?_
    refine j_iconst (pc := 799) dL_law_799 ic_2 ?_
    refine j_iadd (pc := 800) dL_law_800 ?_
    refine j_sld (pc := 801) dL_law_801 hin2 ?_
    refine j_aload_n (pc := 802) (i := 0) dL_law_802 rfl rfl ?_
    refine j_iload_n (pc := 803) (i := 3) dL_law_803 rfl rfl ?_
    refine j_iconst (pc := 804) dL_law_804 ic_3 ?_
    refine j_iadd (pc := 805) dL_law_805 ?_
    refine j_sld (pc := 806) dL_law_806 hin3 ?_
    refine j_Mi (pc := 807) (As := [.int (sc xs i 1), .int (sc xs i 2), .int (sc xs i 3)]) (rest := [.int r]) (ct_X5_lie (sc xs i 1) (sc xs i 2) (sc xs i 3)) h2 rfl mi_X5_lie q_1032 (by decide) rfl rfl (Nat.le_of_ble_eq_true rfl) dL_law_807 ?_
    refine j_eqT (pc := 810) (tgt := 1569) dL_law_810 rfl ?_
    exact next)
theorem lc_blow {g : Gt} {adx adm : Nat → Nat} {b L : Nat} {xs : Nat → Int32} {z : Lt} {x : GX} {μ : GM} {RR : GX → GM → Prop} (hall : AllEqv RR) (hR : RR x μ) (i : Nat) (hin1 : vp_in (nI i + (1 : Int32)) L) (hin2 : vp_in (nI i + (2 : Int32)) L) (next : ∀ (x1 : GX) (μ1 : GM), RR x1 μ1 → LJ g adx adm b L xs z x1 μ1 1569 [(0, .ref b), (1, .ref (aMain adx)), (2, .ref (aMo adm)), (3, .int (nI i))] []) : LJ g adx adm b L xs z x μ 815 [(0, .ref b), (1, .ref (aMain adx)), (2, .ref (aMo adm)), (3, .int (nI i))] [] := by
  obtain ⟨r, x1, μ1, h1, h2, h3⟩ := hall.2.2.2.2.2.2.2.2.2.2.2.2.2.2.2.2.2.2.2.1 (sc xs i 1) (sc xs i 2) x μ hR
  have next := next x1 μ1 h3
  (
    refine j_aload_n (pc := 815) (i := 1) dL_law_815 rfl rfl ?_
    refine j_aload_n (pc := 816) (i := 0) dL_law_816 rfl rfl ?_
    refine j_iload_n (pc := 817) (i := 3) dL_law_817 rfl rfl ?_
    refine j_iconst (pc := 818) dL_law_818 ic_1 ?_
    refine j_iadd (pc := 819) dL_law_819 ?_
    refine j_sld (pc := 820) dL_law_820 hin1 ?_
    refine j_aload_n (pc := 821) (i := 0) dL_law_821 rfl rfl ?_
    refine j_iload_n (pc := 822) (i := 3) dL_law_822 rfl rfl ?_
    refine j_iconst (pc := 823) dL_law_823 ic_2 ?_
    refine j_iadd (pc := 824) dL_law_824 ?_
    refine j_sld (pc := 825) dL_law_825 hin2 ?_
    refine j_Xi (pc := 826) (As := [.int (sc xs i 1), .int (sc xs i 2)]) (rest := []) (ct_X4_blow (sc xs i 1) (sc xs i 2)) h1 rfl mi_X4_blow q_563 (by decide) rfl rfl (Nat.le_of_ble_eq_true rfl) dL_law_826 ?_
    refine j_aload_n (pc := 829) (i := 2) dL_law_829 rfl rfl ?_
    refine j_aload_n (pc := 830) (i := 0) dL_law_830 rfl rfl ?_
    refine j_iload_n (pc := 831) (i := 3) dL_law_831 rfl rfl ?_
    refine j_iconst (pc := 832) dL_law_832 ic_1 ?_
    refine j_iadd (pc := 833) dL_law_833 ?_
    refine j_sld (pc := 834) dL_law_834 hin1 ?_
    refine j_aload_n (pc := 835) (i := 0) dL_law_835 rfl rfl ?_
    refine j_iload_n (pc := 836) (i := 3) dL_law_836 rfl rfl ?_
    refine j_iconst (pc := 837) dL_law_837 ic_2 ?_
    refine j_iadd (pc := 838) dL_law_838 ?_
    refine j_sld (pc := 839) dL_law_839 hin2 ?_
    refine j_Mi (pc := 840) (As := [.int (sc xs i 1), .int (sc xs i 2)]) (rest := [.int r]) (ct_X5_blow (sc xs i 1) (sc xs i 2)) h2 rfl mi_X5_blow q_1040 (by decide) rfl rfl (Nat.le_of_ble_eq_true rfl) dL_law_840 ?_
    refine j_eqT (pc := 843) (tgt := 1569) dL_law_843 rfl ?_
    exact next)
theorem lc_safe {g : Gt} {adx adm : Nat → Nat} {b L : Nat} {xs : Nat → Int32} {z : Lt} {x : GX} {μ : GM} {RR : GX → GM → Prop} (hall : AllEqv RR) (hR : RR x μ) (i : Nat) (hin1 : vp_in (nI i + (1 : Int32)) L) (hin2 : vp_in (nI i + (2 : Int32)) L) (next : ∀ (x1 : GX) (μ1 : GM), RR x1 μ1 → LJ g adx adm b L xs z x1 μ1 1569 [(0, .ref b), (1, .ref (aMain adx)), (2, .ref (aMo adm)), (3, .int (nI i))] []) : LJ g adx adm b L xs z x μ 848 [(0, .ref b), (1, .ref (aMain adx)), (2, .ref (aMo adm)), (3, .int (nI i))] [] := by
  obtain ⟨r, x1, μ1, h1, h2, h3⟩ := hall.2.2.2.2.2.2.2.2.2.2.2.2.2.2.2.2.2.2.2.2.1 (sc xs i 1) (sc xs i 2) x μ hR
  have next := next x1 μ1 h3
  (
    refine j_aload_n (pc := 848) (i := 1) dL_law_848 rfl rfl ?_
    refine j_aload_n (pc := 849) (i := 0) dL_law_849 rfl rfl ?_
    refine j_iload_n (pc := 850) (i := 3) dL_law_850 rfl rfl ?_
    refine j_iconst (pc := 851) dL_law_851 ic_1 ?_
    refine j_iadd (pc := 852) dL_law_852 ?_
    refine j_sld (pc := 853) dL_law_853 hin1 ?_
    refine j_aload_n (pc := 854) (i := 0) dL_law_854 rfl rfl ?_
    refine j_iload_n (pc := 855) (i := 3) dL_law_855 rfl rfl ?_
    refine j_iconst (pc := 856) dL_law_856 ic_2 ?_
    refine j_iadd (pc := 857) dL_law_857 ?_
    refine j_sld (pc := 858) dL_law_858 hin2 ?_
    refine j_Xl (pc := 859) (As := [.int (sc xs i 1), .int (sc xs i 2)]) (rest := []) (ct_X4_safe (sc xs i 1) (sc xs i 2)) h1 rfl mi_X4_safe q_567 (by decide) rfl rfl (Nat.le_of_ble_eq_true rfl) dL_law_859 ?_
    refine j_aload_n (pc := 862) (i := 2) dL_law_862 rfl rfl ?_
    refine j_aload_n (pc := 863) (i := 0) dL_law_863 rfl rfl ?_
    refine j_iload_n (pc := 864) (i := 3) dL_law_864 rfl rfl ?_
    refine j_iconst (pc := 865) dL_law_865 ic_1 ?_
    refine j_iadd (pc := 866) dL_law_866 ?_
    refine j_sld (pc := 867) dL_law_867 hin1 ?_
    refine j_aload_n (pc := 868) (i := 0) dL_law_868 rfl rfl ?_
    refine j_iload_n (pc := 869) (i := 3) dL_law_869 rfl rfl ?_
    refine j_iconst (pc := 870) dL_law_870 ic_2 ?_
    refine j_iadd (pc := 871) dL_law_871 ?_
    refine j_sld (pc := 872) dL_law_872 hin2 ?_
    refine j_Ml (pc := 873) (As := [.int (sc xs i 1), .int (sc xs i 2)]) (rest := [.long r]) (ct_X5_safe (sc xs i 1) (sc xs i 2)) h2 rfl mi_X5_safe q_1044 (by decide) rfl rfl (Nat.le_of_ble_eq_true rfl) dL_law_873 ?_
    refine j_lcmpT (pc := 876) (tgt := 1569) dL_law_876 dL_law_877 rfl ?_
    exact next)
theorem lc_trust {g : Gt} {adx adm : Nat → Nat} {b L : Nat} {xs : Nat → Int32} {z : Lt} {x : GX} {μ : GM} {RR : GX → GM → Prop} (hall : AllEqv RR) (hR : RR x μ) (i : Nat) (hin1 : vp_in (nI i + (1 : Int32)) L) (hin2 : vp_in (nI i + (2 : Int32)) L) (hin3 : vp_in (nI i + (3 : Int32)) L) (next : ∀ (x1 : GX) (μ1 : GM), RR x1 μ1 → LJ g adx adm b L xs z x1 μ1 1569 [(0, .ref b), (1, .ref (aMain adx)), (2, .ref (aMo adm)), (3, .int (nI i))] []) : LJ g adx adm b L xs z x μ 882 [(0, .ref b), (1, .ref (aMain adx)), (2, .ref (aMo adm)), (3, .int (nI i))] [] := by
  obtain ⟨r, x1, μ1, h1, h2, h3⟩ := hall.2.2.2.2.2.2.2.2.2.2.2.2.2.2.2.2.2.2.2.2.2.1 (sc xs i 1) (sc xs i 2) (sc xs i 3) x μ hR
  have next := next x1 μ1 h3
  (
    refine j_aload_n (pc := 882) (i := 1) dL_law_882 rfl rfl ?_
    refine j_aload_n (pc := 883) (i := 0) dL_law_883 rfl rfl ?_
    refine j_iload_n (pc := 884) (i := 3) dL_law_884 rfl rfl ?_
    refine j_iconst (pc := 885) dL_law_885 ic_1 ?_
    refine j_iadd (pc := 886) dL_law_886 ?_
    refine j_sld (pc := 887) dL_law_887 hin1 ?_
    refine j_aload_n (pc := 888) (i := 0) dL_law_888 rfl rfl ?_
    refine j_iload_n (pc := 889) (i := 3) dL_law_889 rfl rfl ?_
    refine j_iconst (pc := 890) dL_law_890 ic_2 ?_
    refine j_iadd (pc := 891) dL_law_891 ?_
    refine j_sld (pc := 892) dL_law_892 hin2 ?_
    refine j_aload_n (pc := 893) (i := 0) dL_law_893 rfl rfl ?_
    refine j_iload_n (pc := 894) (i := 3) dL_law_894 rfl rfl ?_
    refine j_iconst (pc := 895) dL_law_895 ic_3 ?_
    refine j_iadd (pc := 896) dL_law_896 ?_
    refine j_sld (pc := 897) dL_law_897 hin3 ?_
    refine j_Xi (pc := 898) (As := [.int (sc xs i 1), .int (sc xs i 2), .int (sc xs i 3)]) (rest := []) (ct_X4_trust (sc xs i 1) (sc xs i 2) (sc xs i 3)) h1 rfl mi_X4_trust q_571 (by decide) rfl rfl (Nat.le_of_ble_eq_true rfl) dL_law_898 ?_
    refine j_aload_n (pc := 901) (i := 2) dL_law_901 rfl rfl ?_
    refine j_aload_n (pc := 902) (i := 0) dL_law_902 rfl rfl ?_
    refine j_iload_n (pc := 903) (i := 3) dL_law_903 rfl rfl ?_
    refine j_iconst (pc := 904) dL_law_904 ic_1 ?_
    refine j_iadd (pc := 905) dL_law_905 ?_
    refine j_sld (pc := 906) dL_law_906 hin1 ?_
    refine j_aload_n (pc := 907) (i := 0) dL_law_907 rfl rfl ?_
    refine j_iload_n (pc := 908) (i := 3) dL_law_908 rfl rfl ?_
    refine j_iconst (pc := 909) dL_law_909 ic_2 ?_
    refine j_iadd (pc := 910) dL_law_910 ?_
    refine j_sld (pc := 911) dL_law_911 hin2 ?_
    refine j_aload_n (pc := 912) (i := 0) dL_law_912 rfl rfl ?_
    refine j_iload_n (pc := 913) (i := 3) dL_law_913 rfl rfl ?_
    refine j_iconst (pc := 914) dL_law_914 ic_3 ?_
    refine j_iadd (pc := 915) dL_law_915 ?_
    refine j_sld (pc := 916) dL_law_916 hin3 ?_
    refine j_Mi (pc := 917) (As := [.int (sc xs i 1), .int (sc xs i 2), .int (sc xs i 3)]) (rest := [.int r]) (ct_X5_trust (sc xs i 1) (sc xs i 2) (sc xs i 3)) h2 rfl mi_X5_trust q_1048 (by decide) rfl rfl (Nat.le_of_ble_eq_true rfl) dL_law_917 ?_
    refine j_eqT (pc := 920) (tgt := 1569) dL_law_920 rfl ?_
    exact next)
theorem lc_truth {g : Gt} {adx adm : Nat → Nat} {b L : Nat} {xs : Nat → Int32} {z : Lt} {x : GX} {μ : GM} {RR : GX → GM → Prop} (hall : AllEqv RR) (hR : RR x μ) (i : Nat) (hin1 : vp_in (nI i + (1 : Int32)) L) (next : ∀ (x1 : GX) (μ1 : GM), RR x1 μ1 → LJ g adx adm b L xs z x1 μ1 1569 [(0, .ref b), (1, .ref (aMain adx)), (2, .ref (aMo adm)), (3, .int (nI i))] []) : LJ g adx adm b L xs z x μ 925 [(0, .ref b), (1, .ref (aMain adx)), (2, .ref (aMo adm)), (3, .int (nI i))] [] := by
  obtain ⟨r, x1, μ1, h1, h2, h3⟩ := hall.2.2.2.2.2.2.2.2.2.2.2.2.2.2.2.2.2.2.2.2.2.2.1 (sc xs i 1) x μ hR
  have next := next x1 μ1 h3
  (
    refine j_aload_n (pc := 925) (i := 1) dL_law_925 rfl rfl ?_
    refine j_aload_n (pc := 926) (i := 0) dL_law_926 rfl rfl ?_
    refine j_iload_n (pc := 927) (i := 3) dL_law_927 rfl rfl ?_
    refine j_iconst (pc := 928) dL_law_928 ic_1 ?_
    refine j_iadd (pc := 929) dL_law_929 ?_
    refine j_sld (pc := 930) dL_law_930 hin1 ?_
    refine j_Xl (pc := 931) (As := [.int (sc xs i 1)]) (rest := []) (ct_X4_truth (sc xs i 1)) h1 rfl mi_X4_truth q_575 (by decide) rfl rfl (Nat.le_of_ble_eq_true rfl) dL_law_931 ?_
    refine j_aload_n (pc := 934) (i := 2) dL_law_934 rfl rfl ?_
    refine j_aload_n (pc := 935) (i := 0) dL_law_935 rfl rfl ?_
    refine j_iload_n (pc := 936) (i := 3) dL_law_936 rfl rfl ?_
    refine j_iconst (pc := 937) dL_law_937 ic_1 ?_
    refine j_iadd (pc := 938) dL_law_938 ?_
    refine j_sld (pc := 939) dL_law_939 hin1 ?_
    refine j_Ml (pc := 940) (As := [.int (sc xs i 1)]) (rest := [.long r]) (ct_X5_truth (sc xs i 1)) h2 rfl mi_X5_truth q_1052 (by decide) rfl rfl (Nat.le_of_ble_eq_true rfl) dL_law_940 ?_
    refine j_lcmpT (pc := 943) (tgt := 1569) dL_law_943 dL_law_944 rfl ?_
    exact next)
theorem lc_judge {g : Gt} {adx adm : Nat → Nat} {b L : Nat} {xs : Nat → Int32} {z : Lt} {x : GX} {μ : GM} {RR : GX → GM → Prop} (hall : AllEqv RR) (hR : RR x μ) (i : Nat) (hin1 : vp_in (nI i + (1 : Int32)) L) (hin2 : vp_in (nI i + (2 : Int32)) L) (next : ∀ (x1 : GX) (μ1 : GM), RR x1 μ1 → LJ g adx adm b L xs z x1 μ1 1569 [(0, .ref b), (1, .ref (aMain adx)), (2, .ref (aMo adm)), (3, .int (nI i))] []) : LJ g adx adm b L xs z x μ 949 [(0, .ref b), (1, .ref (aMain adx)), (2, .ref (aMo adm)), (3, .int (nI i))] [] := by
  obtain ⟨r, x1, μ1, h1, h2, h3⟩ := hall.2.2.2.2.2.2.2.2.2.2.2.2.2.2.2.2.2.2.2.2.2.2.2.1 (sc xs i 1) (sc xs i 2) x μ hR
  have next := next x1 μ1 h3
  (
    refine j_aload_n (pc := 949) (i := 1) dL_law_949 rfl rfl ?_
    refine j_aload_n (pc := 950) (i := 0) dL_law_950 rfl rfl ?_
    refine j_iload_n (pc := 951) (i := 3) dL_law_951 rfl rfl ?_
    refine j_iconst (pc := 952) dL_law_952 ic_1 ?_
    refine j_iadd (pc := 953) dL_law_953 ?_
    refine j_sld (pc := 954) dL_law_954 hin1 ?_
    refine j_aload_n (pc := 955) (i := 0) dL_law_955 rfl rfl ?_
    refine j_iload_n (pc := 956) (i := 3) dL_law_956 rfl rfl ?_
    refine j_iconst (pc := 957) dL_law_957 ic_2 ?_
    refine j_iadd (pc := 958) dL_law_958 ?_
    refine j_sld (pc := 959) dL_law_959 hin2 ?_
    refine j_Xi (pc := 960) (As := [.int (sc xs i 1), .int (sc xs i 2)]) (rest := []) (ct_X4_judge (sc xs i 1) (sc xs i 2)) h1 rfl mi_X4_judge q_589 (by decide) rfl rfl (Nat.le_of_ble_eq_true rfl) dL_law_960 ?_
    refine j_aload_n (pc := 963) (i := 2) dL_law_963 rfl rfl ?_
    refine j_aload_n (pc := 964) (i := 0) dL_law_964 rfl rfl ?_
    refine j_iload_n (pc := 965) (i := 3) dL_law_965 rfl rfl ?_
    refine j_iconst (pc := 966) dL_law_966 ic_1 ?_
    refine j_iadd (pc := 967) dL_law_967 ?_
    refine j_sld (pc := 968) dL_law_968 hin1 ?_
    refine j_aload_n (pc := 969) (i := 0) dL_law_969 rfl rfl ?_
    refine j_iload_n (pc := 970) (i := 3) dL_law_970 rfl rfl ?_
    refine j_iconst (pc := 971) dL_law_971 ic_2 ?_
    refine j_iadd (pc := 972) dL_law_972 ?_
    refine j_sld (pc := 973) dL_law_973 hin2 ?_
    refine j_Mi (pc := 974) (As := [.int (sc xs i 1), .int (sc xs i 2)]) (rest := [.int r]) (ct_X5_judge (sc xs i 1) (sc xs i 2)) h2 rfl mi_X5_judge q_1059 (by decide) rfl rfl (Nat.le_of_ble_eq_true rfl) dL_law_974 ?_
    refine j_eqT (pc := 977) (tgt := 1569) dL_law_977 rfl ?_
    exact next)
theorem lc_kinds {g : Gt} {adx adm : Nat → Nat} {b L : Nat} {xs : Nat → Int32} {z : Lt} {x : GX} {μ : GM} {RR : GX → GM → Prop} (hall : AllEqv RR) (hR : RR x μ) (i : Nat) (hin1 : vp_in (nI i + (1 : Int32)) L) (hin2 : vp_in (nI i + (2 : Int32)) L) (hin3 : vp_in (nI i + (3 : Int32)) L) (next : ∀ (x1 : GX) (μ1 : GM), RR x1 μ1 → LJ g adx adm b L xs z x1 μ1 1569 [(0, .ref b), (1, .ref (aMain adx)), (2, .ref (aMo adm)), (3, .int (nI i))] []) : LJ g adx adm b L xs z x μ 982 [(0, .ref b), (1, .ref (aMain adx)), (2, .ref (aMo adm)), (3, .int (nI i))] [] := by
  obtain ⟨r, x1, μ1, h1, h2, h3⟩ := hall.2.2.2.2.2.2.2.2.2.2.2.2.2.2.2.2.2.2.2.2.2.2.2.2.1 (sc xs i 1) (sc xs i 2) (sc xs i 3) x μ hR
  have next := next x1 μ1 h3
  (
    refine j_aload_n (pc := 982) (i := 1) dL_law_982 rfl rfl ?_
    refine j_aload_n (pc := 983) (i := 0) dL_law_983 rfl rfl ?_
    refine j_iload_n (pc := 984) (i := 3) dL_law_984 rfl rfl ?_
    refine j_iconst (pc := 985) dL_law_985 ic_1 ?_
    refine j_iadd (pc := 986) dL_law_986 ?_
    refine j_sld (pc := 987) dL_law_987 hin1 ?_
    refine j_aload_n (pc := 988) (i := 0) dL_law_988 rfl rfl ?_
    refine j_iload_n (pc := 989) (i := 3) dL_law_989 rfl rfl ?_
    refine j_iconst (pc := 990) dL_law_990 ic_2 ?_
    refine j_iadd (pc := 991) dL_law_991 ?_
    refine j_sld (pc := 992) dL_law_992 hin2 ?_
    refine j_aload_n (pc := 993) (i := 0) dL_law_993 rfl rfl ?_
    refine j_iload_n (pc := 994) (i := 3) dL_law_994 rfl rfl ?_
    refine j_iconst (pc := 995) dL_law_995 ic_3 ?_
    refine j_iadd (pc := 996) dL_law_996 ?_
    refine j_sld (pc := 997) dL_law_997 hin3 ?_
    refine j_Xi (pc := 998) (As := [.int (sc xs i 1), .int (sc xs i 2), .int (sc xs i 3)]) (rest := []) (ct_X4_kinds (sc xs i 1) (sc xs i 2) (sc xs i 3)) h1 rfl mi_X4_kinds q_608 (by decide) rfl rfl (Nat.le_of_ble_eq_true rfl) dL_law_998 ?_
    refine j_aload_n (pc := 1001) (i := 2) dL_law_1001 rfl rfl ?_
    refine j_aload_n (pc := 1002) (i := 0) dL_law_1002 rfl rfl ?_
    refine j_iload_n (pc := 1003) (i := 3) dL_law_1003 rfl rfl ?_
    refine j_iconst (pc := 1004) dL_law_1004 ic_1 ?_
    refine j_iadd (pc := 1005) dL_law_1005 ?_
    refine j_sld (pc := 1006) dL_law_1006 hin1 ?_
    refine j_aload_n (pc := 1007) (i := 0) dL_law_1007 rfl rfl ?_
    refine j_iload_n (pc := 1008) (i := 3) dL_law_1008 rfl rfl ?_
    refine j_iconst (pc := 1009) dL_law_1009 ic_2 ?_
    refine j_iadd (pc := 1010) dL_law_1010 ?_
    refine j_sld (pc := 1011) dL_law_1011 hin2 ?_
    refine j_aload_n (pc := 1012) (i := 0) dL_law_1012 rfl rfl ?_
    refine j_iload_n (pc := 1013) (i := 3) dL_law_1013 rfl rfl ?_
    refine j_iconst (pc := 1014) dL_law_1014 ic_3 ?_
    refine j_iadd (pc := 1015) dL_law_1015 ?_
    refine j_sld (pc := 1016) dL_law_1016 hin3 ?_
    refine j_Mi (pc := 1017) (As := [.int (sc xs i 1), .int (sc xs i 2), .int (sc xs i 3)]) (rest := [.int r]) (ct_X5_kinds (sc xs i 1) (sc xs i 2) (sc xs i 3)) h2 rfl mi_X5_kinds q_1075 (by decide) rfl rfl (Nat.le_of_ble_eq_true rfl) dL_law_1017 ?_
    refine j_eqT (pc := 1020) (tgt := 1569) dL_law_1020 rfl ?_
    exact next)
theorem lc_places {g : Gt} {adx adm : Nat → Nat} {b L : Nat} {xs : Nat → Int32} {z : Lt} {x : GX} {μ : GM} {RR : GX → GM → Prop} (hall : AllEqv RR) (hR : RR x μ) (i : Nat) (hin1 : vp_in (nI i + (1 : Int32)) L) (hin2 : vp_in (nI i + (2 : Int32)) L) (next : ∀ (x1 : GX) (μ1 : GM), RR x1 μ1 → LJ g adx adm b L xs z x1 μ1 1569 [(0, .ref b), (1, .ref (aMain adx)), (2, .ref (aMo adm)), (3, .int (nI i))] []) : LJ g adx adm b L xs z x μ 1025 [(0, .ref b), (1, .ref (aMain adx)), (2, .ref (aMo adm)), (3, .int (nI i))] [] := by
  obtain ⟨r, x1, μ1, h1, h2, h3⟩ := hall.2.2.2.2.2.2.2.2.2.2.2.2.2.2.2.2.2.2.2.2.2.2.2.2.2.1 (sc xs i 1) (sc xs i 2) x μ hR
  have next := next x1 μ1 h3
  (
    refine j_aload_n (pc := 1025) (i := 1) dL_law_1025 rfl rfl ?_
    refine j_aload_n (pc := 1026) (i := 0) dL_law_1026 rfl rfl ?_
    refine j_iload_n (pc := 1027) (i := 3) dL_law_1027 rfl rfl ?_
    refine j_iconst (pc := 1028) dL_law_1028 ic_1 ?_
    refine j_iadd (pc := 1029) dL_law_1029 ?_
    refine j_sld (pc := 1030) dL_law_1030 hin1 ?_
    refine j_aload_n (pc := 1031) (i := 0) dL_law_1031 rfl rfl ?_
    refine j_iload_n (pc := 1032) (i := 3) dL_law_1032 rfl rfl ?_
    refine j_iconst (pc := 1033) dL_law_1033 ic_2 ?_
    refine j_iadd (pc := 1034) dL_law_1034 ?_
    refine j_sld (pc := 1035) dL_law_1035 hin2 ?_
    refine j_Xl (pc := 1036) (As := [.int (sc xs i 1), .int (sc xs i 2)]) (rest := []) (ct_X4_places (sc xs i 1) (sc xs i 2)) h1 rfl mi_X4_places q_612 (by decide) rfl rfl (Nat.le_of_ble_eq_true rfl) dL_law_1036 ?_
    refine j_aload_n (pc := 1039) (i := 2) dL_law_1039 rfl rfl ?_
    refine j_aload_n (pc := 1040) (i := 0) dL_law_1040 rfl rfl ?_
    refine j_iload_n (pc := 1041) (i := 3) dL_law_1041 rfl rfl ?_
    refine j_iconst (pc := 1042) dL_law_1042 ic_1 ?_
    refine j_iadd (pc := 1043) dL_law_1043 ?_
    refine j_sld (pc := 1044) dL_law_1044 hin1 ?_
    refine j_aload_n (pc := 1045) (i := 0) dL_law_1045 rfl rfl ?_
    refine j_iload_n (pc := 1046) (i := 3) dL_law_1046 rfl rfl ?_
    refine j_iconst (pc := 1047) dL_law_1047 ic_2 ?_
    refine j_iadd (pc := 1048) dL_law_1048 ?_
    refine j_sld (pc := 1049) dL_law_1049 hin2 ?_
    refine j_Ml (pc := 1050) (As := [.int (sc xs i 1), .int (sc xs i 2)]) (rest := [.long r]) (ct_X5_places (sc xs i 1) (sc xs i 2)) h2 rfl mi_X5_places q_1079 (by decide) rfl rfl (Nat.le_of_ble_eq_true rfl) dL_law_1050 ?_
    refine j_lcmpT (pc := 1053) (tgt := 1569) dL_law_1053 dL_law_1054 rfl ?_
    exact next)
theorem lc_draughts {g : Gt} {adx adm : Nat → Nat} {b L : Nat} {xs : Nat → Int32} {z : Lt} {x : GX} {μ : GM} {RR : GX → GM → Prop} (hall : AllEqv RR) (hR : RR x μ) (i : Nat) (hin1 : vp_in (nI i + (1 : Int32)) L) (hin2 : vp_in (nI i + (2 : Int32)) L) (hin3 : vp_in (nI i + (3 : Int32)) L) (next : ∀ (x1 : GX) (μ1 : GM), RR x1 μ1 → LJ g adx adm b L xs z x1 μ1 1569 [(0, .ref b), (1, .ref (aMain adx)), (2, .ref (aMo adm)), (3, .int (nI i))] []) : LJ g adx adm b L xs z x μ 1059 [(0, .ref b), (1, .ref (aMain adx)), (2, .ref (aMo adm)), (3, .int (nI i))] [] := by
  obtain ⟨r, x1, μ1, h1, h2, h3⟩ := hall.2.2.2.2.2.2.2.2.2.2.2.2.2.2.2.2.2.2.2.2.2.2.2.2.2.2.1 (sc xs i 1) (sc xs i 2) (sc xs i 3) x μ hR
  have next := next x1 μ1 h3
  (
    refine j_aload_n (pc := 1059) (i := 1) dL_law_1059 rfl rfl ?_
    refine j_aload_n (pc := 1060) (i := 0) dL_law_1060 rfl rfl ?_
    refine j_iload_n (pc := 1061) (i := 3) dL_law_1061 rfl rfl ?_
    refine j_iconst (pc := 1062) dL_law_1062 ic_1 ?_
    refine j_iadd (pc := 1063) dL_law_1063 ?_
    refine j_sld (pc := 1064) dL_law_1064 hin1 ?_
    refine j_aload_n (pc := 1065) (i := 0) dL_law_1065 rfl rfl ?_
    refine j_iload_n (pc := 1066) (i := 3) dL_law_1066 rfl rfl ?_
    refine j_iconst (pc := 1067) dL_law_1067 ic_2 ?_
    refine j_iadd (pc := 1068) dL_law_1068 ?_
    refine j_sld (pc := 1069) dL_law_1069 hin2 ?_
    refine j_aload_n (pc := 1070) (i := 0) dL_law_1070 rfl rfl ?_
    refine j_iload_n (pc := 1071) (i := 3) dL_law_1071 rfl rfl ?_
    refine j_iconst (pc := 1072) dL_law_1072 ic_3 ?_
    refine j_iadd (pc := 1073) dL_law_1073 ?_
    refine j_sld (pc := 1074) dL_law_1074 hin3 ?_
    refine j_Xi (pc := 1075) (As := [.int (sc xs i 1), .int (sc xs i 2), .int (sc xs i 3)]) (rest := []) (ct_X4_draughts (sc xs i 1) (sc xs i 2) (sc xs i 3)) h1 rfl mi_X4_draughts q_616 (by decide) rfl rfl (Nat.le_of_ble_eq_true rfl) dL_law_1075 ?_
    refine j_aload_n (pc := 1078) (i := 2) dL_law_1078 rfl rfl ?_
    refine j_aload_n (pc := 1079) (i := 0) dL_law_1079 rfl rfl ?_
    refine j_iload_n (pc := 1080) (i := 3) dL_law_1080 rfl rfl ?_
    refine j_iconst (pc := 1081) dL_law_1081 ic_1 ?_
    refine j_iadd (pc := 1082) dL_law_1082 ?_
    refine j_sld (pc := 1083) dL_law_1083 hin1 ?_
    refine j_aload_n (pc := 1084) (i := 0) dL_law_1084 rfl rfl ?_
    refine j_iload_n (pc := 1085) (i := 3) dL_law_1085 rfl rfl ?_
    refine j_iconst (pc := 1086) dL_law_1086 ic_2 ?_
    refine j_iadd (pc := 1087) dL_law_1087 ?_
    refine j_sld (pc := 1088) dL_law_1088 hin2 ?_
    refine j_aload_n (pc := 1089) (i := 0) dL_law_1089 rfl rfl ?_
    refine j_iload_n (pc := 1090) (i := 3) dL_law_1090 rfl rfl ?_
    refine j_iconst (pc := 1091) dL_law_1091 ic_3 ?_
    refine j_iadd (pc := 1092) dL_law_1092 ?_
    refine j_sld (pc := 1093) dL_law_1093 hin3 ?_
    refine j_Mi (pc := 1094) (As := [.int (sc xs i 1), .int (sc xs i 2), .int (sc xs i 3)]) (rest := [.int r]) (ct_X5_draughts (sc xs i 1) (sc xs i 2) (sc xs i 3)) h2 rfl mi_X5_draughts q_1083 (by decide) rfl rfl (Nat.le_of_ble_eq_true rfl) dL_law_1094 ?_
    refine j_eqT (pc := 1097) (tgt := 1569) dL_law_1097 rfl ?_
    exact next)
theorem lc_whose {g : Gt} {adx adm : Nat → Nat} {b L : Nat} {xs : Nat → Int32} {z : Lt} {x : GX} {μ : GM} {RR : GX → GM → Prop} (hall : AllEqv RR) (hR : RR x μ) (i : Nat) (hin1 : vp_in (nI i + (1 : Int32)) L) (next : ∀ (x1 : GX) (μ1 : GM), RR x1 μ1 → LJ g adx adm b L xs z x1 μ1 1569 [(0, .ref b), (1, .ref (aMain adx)), (2, .ref (aMo adm)), (3, .int (nI i))] []) : LJ g adx adm b L xs z x μ 1102 [(0, .ref b), (1, .ref (aMain adx)), (2, .ref (aMo adm)), (3, .int (nI i))] [] := by
  obtain ⟨r, x1, μ1, h1, h2, h3⟩ := hall.2.2.2.2.2.2.2.2.2.2.2.2.2.2.2.2.2.2.2.2.2.2.2.2.2.2.2.1 (sc xs i 1) x μ hR
  have next := next x1 μ1 h3
  (
    refine j_aload_n (pc := 1102) (i := 1) dL_law_1102 rfl rfl ?_
    refine j_aload_n (pc := 1103) (i := 0) dL_law_1103 rfl rfl ?_
    refine j_iload_n (pc := 1104) (i := 3) dL_law_1104 rfl rfl ?_
    refine j_iconst (pc := 1105) dL_law_1105 ic_1 ?_
    refine j_iadd (pc := 1106) dL_law_1106 ?_
    refine j_sld (pc := 1107) dL_law_1107 hin1 ?_
    refine j_Xi (pc := 1108) (As := [.int (sc xs i 1)]) (rest := []) (ct_X4_whose (sc xs i 1)) h1 rfl mi_X4_whose q_620 (by decide) rfl rfl (Nat.le_of_ble_eq_true rfl) dL_law_1108 ?_
    refine j_aload_n (pc := 1111) (i := 2) dL_law_1111 rfl rfl ?_
    refine j_aload_n (pc := 1112) (i := 0) dL_law_1112 rfl rfl ?_
    refine j_iload_n (pc := 1113) (i := 3) dL_law_1113 rfl rfl ?_
    refine j_iconst (pc := 1114) dL_law_1114 ic_1 ?_
    refine j_iadd (pc := 1115) dL_law_1115 ?_
    refine j_sld (pc := 1116) dL_law_1116 hin1 ?_
    refine j_Mi (pc := 1117) (As := [.int (sc xs i 1)]) (rest := [.int r]) (ct_X5_whose (sc xs i 1)) h2 rfl mi_X5_whose q_1087 (by decide) rfl rfl (Nat.le_of_ble_eq_true rfl) dL_law_1117 ?_
    refine j_eqT (pc := 1120) (tgt := 1569) dL_law_1120 rfl ?_
    exact next)
theorem lc_laws {g : Gt} {adx adm : Nat → Nat} {b L : Nat} {xs : Nat → Int32} {z : Lt} {x : GX} {μ : GM} {RR : GX → GM → Prop} (hall : AllEqv RR) (hR : RR x μ) (i : Nat) (hin1 : vp_in (nI i + (1 : Int32)) L) (hin2 : vp_in (nI i + (2 : Int32)) L) (next : ∀ (x1 : GX) (μ1 : GM), RR x1 μ1 → LJ g adx adm b L xs z x1 μ1 1569 [(0, .ref b), (1, .ref (aMain adx)), (2, .ref (aMo adm)), (3, .int (nI i))] []) : LJ g adx adm b L xs z x μ 1125 [(0, .ref b), (1, .ref (aMain adx)), (2, .ref (aMo adm)), (3, .int (nI i))] [] := by
  obtain ⟨r, x1, μ1, h1, h2, h3⟩ := hall.2.2.2.2.2.2.2.2.2.2.2.2.2.2.2.2.2.2.2.2.2.2.2.2.2.2.2.2.1 (sc xs i 1) (sc xs i 2) x μ hR
  have next := next x1 μ1 h3
  (
    refine j_aload_n (pc := 1125) (i := 1) dL_law_1125 rfl rfl ?_
    refine j_aload_n (pc := 1126) (i := 0) dL_law_1126 rfl rfl ?_
    refine j_iload_n (pc := 1127) (i := 3) dL_law_1127 rfl rfl ?_
    refine j_iconst (pc := 1128) dL_law_1128 ic_1 ?_
    refine j_iadd (pc := 1129) dL_law_1129 ?_
    refine j_sld (pc := 1130) dL_law_1130 hin1 ?_
    refine j_aload_n (pc := 1131) (i := 0) dL_law_1131 rfl rfl ?_
    refine j_iload_n (pc := 1132) (i := 3) dL_law_1132 rfl rfl ?_
    refine j_iconst (pc := 1133) dL_law_1133 ic_2 ?_
    refine j_iadd (pc := 1134) dL_law_1134 ?_
    refine j_sld (pc := 1135) dL_law_1135 hin2 ?_
    refine j_Xi (pc := 1136) (As := [.int (sc xs i 1), .int (sc xs i 2)]) (rest := []) (ct_X4_laws (sc xs i 1) (sc xs i 2)) h1 rfl mi_X4_laws q_624 (by decide) rfl rfl (Nat.le_of_ble_eq_true rfl) dL_law_1136 ?_
    refine j_aload_n (pc := 1139) (i := 2) dL_law_1139 rfl rfl ?_
    refine j_aload_n (pc := 1140) (i := 0) dL_law_1140 rfl rfl ?_
    refine j_iload_n (pc := 1141) (i := 3) dL_law_1141 rfl rfl ?_
    refine j_iconst (pc := 1142) dL_law_1142 ic_1 ?_
    refine j_iadd (pc := 1143) dL_law_1143 ?_
    refine j_sld (pc := 1144) dL_law_1144 hin1 ?_
    refine j_aload_n (pc := 1145) (i := 0) dL_law_1145 rfl rfl ?_
    refine j_iload_n (pc := 1146) (i := 3) dL_law_1146 rfl rfl ?_
    refine j_iconst (pc := 1147) dL_law_1147 ic_2 ?_
    refine j_iadd (pc := 1148) dL_law_1148 ?_
    refine j_sld (pc := 1149) dL_law_1149 hin2 ?_
    refine j_Mi (pc := 1150) (As := [.int (sc xs i 1), .int (sc xs i 2)]) (rest := [.int r]) (ct_X5_laws (sc xs i 1) (sc xs i 2)) h2 rfl mi_X5_laws q_1091 (by decide) rfl rfl (Nat.le_of_ble_eq_true rfl) dL_law_1150 ?_
    refine j_eqT (pc := 1153) (tgt := 1569) dL_law_1153 rfl ?_
    exact next)
theorem lc_film {g : Gt} {adx adm : Nat → Nat} {b L : Nat} {xs : Nat → Int32} {z : Lt} {x : GX} {μ : GM} {RR : GX → GM → Prop} (hall : AllEqv RR) (hR : RR x μ) (i : Nat) (hin1 : vp_in (nI i + (1 : Int32)) L) (hin2 : vp_in (nI i + (2 : Int32)) L) (hin3 : vp_in (nI i + (3 : Int32)) L) (next : ∀ (x1 : GX) (μ1 : GM), RR x1 μ1 → LJ g adx adm b L xs z x1 μ1 1569 [(0, .ref b), (1, .ref (aMain adx)), (2, .ref (aMo adm)), (3, .int (nI i))] []) : LJ g adx adm b L xs z x μ 1158 [(0, .ref b), (1, .ref (aMain adx)), (2, .ref (aMo adm)), (3, .int (nI i))] [] := by
  obtain ⟨r, x1, μ1, h1, h2, h3⟩ := hall.2.2.2.2.2.2.2.2.2.2.2.2.2.2.2.2.2.2.2.2.2.2.2.2.2.2.2.2.2.1 (sc xs i 1) (sc xs i 2) (sc xs i 3) x μ hR
  have next := next x1 μ1 h3
  (
    refine j_aload_n (pc := 1158) (i := 1) dL_law_1158 rfl rfl ?_
    refine j_aload_n (pc := 1159) (i := 0) dL_law_1159 rfl rfl ?_
    refine j_iload_n (pc := 1160) (i := 3) dL_law_1160 rfl rfl ?_
    refine j_iconst (pc := 1161) dL_law_1161 ic_1 ?_
    refine j_iadd (pc := 1162) dL_law_1162 ?_
    refine j_sld (pc := 1163) dL_law_1163 hin1 ?_
    refine j_aload_n (pc := 1164) (i := 0) dL_law_1164 rfl rfl ?_
    refine j_iload_n (pc := 1165) (i := 3) dL_law_1165 rfl rfl ?_
    refine j_iconst (pc := 1166) dL_law_1166 ic_2 ?_
    refine j_iadd (pc := 1167) dL_law_1167 ?_
    refine j_sld (pc := 1168) dL_law_1168 hin2 ?_
    refine j_aload_n (pc := 1169) (i := 0) dL_law_1169 rfl rfl ?_
    refine j_iload_n (pc := 1170) (i := 3) dL_law_1170 rfl rfl ?_
    refine j_iconst (pc := 1171) dL_law_1171 ic_3 ?_
    refine j_iadd (pc := 1172) dL_law_1172 ?_
    refine j_sld (pc := 1173) dL_law_1173 hin3 ?_
    refine j_Xi (pc := 1174) (As := [.int (sc xs i 1), .int (sc xs i 2), .int (sc xs i 3)]) (rest := []) (ct_X4_film (sc xs i 1) (sc xs i 2) (sc xs i 3)) h1 rfl mi_X4_film q_628 (by decide) rfl rfl (Nat.le_of_ble_eq_true rfl) dL_law_1174 ?_
    refine j_aload_n (pc := 1177) (i := 2) dL_law_1177 rfl rfl ?_
    refine j_aload_n (pc := 1178) (i := 0) dL_law_1178 rfl rfl ?_
    refine j_iload_n (pc := 1179) (i := 3) dL_law_1179 rfl rfl ?_
    refine j_iconst (pc := 1180) dL_law_1180 ic_1 ?_
    refine j_iadd (pc := 1181) dL_law_1181 ?_
    refine j_sld (pc := 1182) dL_law_1182 hin1 ?_
    refine j_aload_n (pc := 1183) (i := 0) dL_law_1183 rfl rfl ?_
    refine j_iload_n (pc := 1184) (i := 3) dL_law_1184 rfl rfl ?_
    refine j_iconst (pc := 1185) dL_law_1185 ic_2 ?_
    refine j_iadd (pc := 1186) dL_law_1186 ?_
    refine j_sld (pc := 1187) dL_law_1187 hin2 ?_
    refine j_aload_n (pc := 1188) (i := 0) dL_law_1188 rfl rfl ?_
    refine j_iload_n (pc := 1189) (i := 3) dL_law_1189 rfl rfl ?_
    refine j_iconst (pc := 1190) dL_law_1190 ic_3 ?_
    refine j_iadd (pc := 1191) dL_law_1191 ?_
    refine j_sld (pc := 1192) dL_law_1192 hin3 ?_
    refine j_Mi (pc := 1193) (As := [.int (sc xs i 1), .int (sc xs i 2), .int (sc xs i 3)]) (rest := [.int r]) (ct_X5_film (sc xs i 1) (sc xs i 2) (sc xs i 3)) h2 rfl mi_X5_film q_1095 (by decide) rfl rfl (Nat.le_of_ble_eq_true rfl) dL_law_1193 ?_
    refine j_eqT (pc := 1196) (tgt := 1569) dL_law_1196 rfl ?_
    exact next)
theorem lc_drawn {g : Gt} {adx adm : Nat → Nat} {b L : Nat} {xs : Nat → Int32} {z : Lt} {x : GX} {μ : GM} {RR : GX → GM → Prop} (hall : AllEqv RR) (hR : RR x μ) (i : Nat) (hin1 : vp_in (nI i + (1 : Int32)) L) (hin2 : vp_in (nI i + (2 : Int32)) L) (hin3 : vp_in (nI i + (3 : Int32)) L) (next : ∀ (x1 : GX) (μ1 : GM), RR x1 μ1 → LJ g adx adm b L xs z x1 μ1 1569 [(0, .ref b), (1, .ref (aMain adx)), (2, .ref (aMo adm)), (3, .int (nI i))] []) : LJ g adx adm b L xs z x μ 1201 [(0, .ref b), (1, .ref (aMain adx)), (2, .ref (aMo adm)), (3, .int (nI i))] [] := by
  obtain ⟨r, x1, μ1, h1, h2, h3⟩ := hall.2.2.2.2.2.2.2.2.2.2.2.2.2.2.2.2.2.2.2.2.2.2.2.2.2.2.2.2.2.2.1 (sc xs i 1) (sc xs i 2) (sc xs i 3) x μ hR
  have next := next x1 μ1 h3
  (
    refine j_aload_n (pc := 1201) (i := 1) dL_law_1201 rfl rfl ?_
    refine j_aload_n (pc := 1202) (i := 0) dL_law_1202 rfl rfl ?_
    refine j_iload_n (pc := 1203) (i := 3) dL_law_1203 rfl rfl ?_
    refine j_iconst (pc := 1204) dL_law_1204 ic_1 ?_
    refine j_iadd (pc := 1205) dL_law_1205 ?_
    refine j_sld (pc := 1206) dL_law_1206 hin1 ?_
    refine j_aload_n (pc := 1207) (i := 0) dL_law_1207 rfl rfl ?_
    refine j_iload_n (pc := 1208) (i := 3) dL_law_1208 rfl rfl ?_
    refine j_iconst (pc := 1209) dL_law_1209 ic_2 ?_
    refine j_iadd (pc := 1210) dL_law_1210 ?_
    refine j_sld (pc := 1211) dL_law_1211 hin2 ?_
    refine j_aload_n (pc := 1212) (i := 0) dL_law_1212 rfl rfl ?_
    refine j_iload_n (pc := 1213) (i := 3) dL_law_1213 rfl rfl ?_
    refine j_iconst (pc := 1214) dL_law_1214 ic_3 ?_
    refine j_iadd (pc := 1215) dL_law_1215 ?_
    refine j_sld (pc := 1216) dL_law_1216 hin3 ?_
    refine j_Xi (pc := 1217) (As := [.int (sc xs i 1), .int (sc xs i 2), .int (sc xs i 3)]) (rest := []) (ct_X4_drawn (sc xs i 1) (sc xs i 2) (sc xs i 3)) h1 rfl mi_X4_drawn q_644 (by decide) rfl rfl (Nat.le_of_ble_eq_true rfl) dL_law_1217 ?_
    refine j_aload_n (pc := 1220) (i := 2) dL_law_1220 rfl rfl ?_
    refine j_aload_n (pc := 1221) (i := 0) dL_law_1221 rfl rfl ?_
    refine j_iload_n (pc := 1222) (i := 3) dL_law_1222 rfl rfl ?_
    refine j_iconst (pc := 1223) dL_law_1223 ic_1 ?_
    refine j_iadd (pc := 1224) dL_law_1224 ?_
    refine j_sld (pc := 1225) dL_law_1225 hin1 ?_
    refine j_aload_n (pc := 1226) (i := 0) dL_law_1226 rfl rfl ?_
    refine j_iload_n (pc := 1227) (i := 3) dL_law_1227 rfl rfl ?_
    refine j_iconst (pc := 1228) dL_law_1228 ic_2 ?_
    refine j_iadd (pc := 1229) dL_law_1229 ?_
    refine j_sld (pc := 1230) dL_law_1230 hin2 ?_
    refine j_aload_n (pc := 1231) (i := 0) dL_law_1231 rfl rfl ?_
    refine j_iload_n (pc := 1232) (i := 3) dL_law_1232 rfl rfl ?_
    refine j_iconst (pc := 1233) dL_law_1233 ic_3 ?_
    refine j_iadd (pc := 1234) dL_law_1234 ?_
    refine j_sld (pc := 1235) dL_law_1235 hin3 ?_
    refine j_Mi (pc := 1236) (As := [.int (sc xs i 1), .int (sc xs i 2), .int (sc xs i 3)]) (rest := [.int r]) (ct_X5_drawn (sc xs i 1) (sc xs i 2) (sc xs i 3)) h2 rfl mi_X5_drawn q_1099 (by decide) rfl rfl (Nat.le_of_ble_eq_true rfl) dL_law_1236 ?_
    refine j_eqT (pc := 1239) (tgt := 1569) dL_law_1239 rfl ?_
    exact next)
theorem lc_odds {g : Gt} {adx adm : Nat → Nat} {b L : Nat} {xs : Nat → Int32} {z : Lt} {x : GX} {μ : GM} {RR : GX → GM → Prop} (hall : AllEqv RR) (hR : RR x μ) (i : Nat) (hin1 : vp_in (nI i + (1 : Int32)) L) (hin2 : vp_in (nI i + (2 : Int32)) L) (hin3 : vp_in (nI i + (3 : Int32)) L) (hin4 : vp_in (nI i + (4 : Int32)) L) (hin5 : vp_in (nI i + (5 : Int32)) L) (next : ∀ (x1 : GX) (μ1 : GM), RR x1 μ1 → LJ g adx adm b L xs z x1 μ1 1569 [(0, .ref b), (1, .ref (aMain adx)), (2, .ref (aMo adm)), (3, .int (nI i))] []) : LJ g adx adm b L xs z x μ 1244 [(0, .ref b), (1, .ref (aMain adx)), (2, .ref (aMo adm)), (3, .int (nI i))] [] := by
  obtain ⟨r, x1, μ1, h1, h2, h3⟩ := hall.2.2.2.2.2.2.2.2.2.2.2.2.2.2.2.2.2.2.2.2.2.2.2.2.2.2.2.2.2.2.2.1 (sc xs i 1) (sc xs i 2) (sc xs i 3) (sc xs i 4) (sc xs i 5) x μ hR
  have next := next x1 μ1 h3
  (
    refine j_aload_n (pc := 1244) (i := 1) dL_law_1244 rfl rfl ?_
    refine j_aload_n (pc := 1245) (i := 0) dL_law_1245 rfl rfl ?_
    refine j_iload_n (pc := 1246) (i := 3) dL_law_1246 rfl rfl ?_
    refine j_iconst (pc := 1247) dL_law_1247 ic_1 ?_
    refine j_iadd (pc := 1248) dL_law_1248 ?_
    refine j_sld (pc := 1249) dL_law_1249 hin1 ?_
    refine j_aload_n (pc := 1250) (i := 0) dL_law_1250 rfl rfl ?_
    refine j_iload_n (pc := 1251) (i := 3) dL_law_1251 rfl rfl ?_
    refine j_iconst (pc := 1252) dL_law_1252 ic_2 ?_
    refine j_iadd (pc := 1253) dL_law_1253 ?_
    refine j_sld (pc := 1254) dL_law_1254 hin2 ?_
    refine j_aload_n (pc := 1255) (i := 0) dL_law_1255 rfl rfl ?_
    refine j_iload_n (pc := 1256) (i := 3) dL_law_1256 rfl rfl ?_
    refine j_iconst (pc := 1257) dL_law_1257 ic_3 ?_
    refine j_iadd (pc := 1258) dL_law_1258 ?_
    refine j_sld (pc := 1259) dL_law_1259 hin3 ?_
    refine j_aload_n (pc := 1260) (i := 0) dL_law_1260 rfl rfl ?_
    refine j_iload_n (pc := 1261) (i := 3) dL_law_1261 rfl rfl ?_
    refine j_iconst (pc := 1262) dL_law_1262 ic_4 ?_
    refine j_iadd (pc := 1263) dL_law_1263 ?_
    refine j_sld (pc := 1264) dL_law_1264 hin4 ?_
    refine j_aload_n (pc := 1265) (i := 0) dL_law_1265 rfl rfl ?_
    refine j_iload_n (pc := 1266) (i := 3) dL_law_1266 rfl rfl ?_
    refine j_iconst (pc := 1267) dL_law_1267 ic_5 ?_
    refine j_iadd (pc := 1268) dL_law_1268 ?_
    refine j_sld (pc := 1269) dL_law_1269 hin5 ?_
    refine j_Xl (pc := 1270) (As := [.int (sc xs i 1), .int (sc xs i 2), .int (sc xs i 3), .int (sc xs i 4), .int (sc xs i 5)]) (rest := []) (ct_X4_odds (sc xs i 1) (sc xs i 2) (sc xs i 3) (sc xs i 4) (sc xs i 5)) h1 rfl mi_X4_odds q_656 (by decide) rfl rfl (Nat.le_of_ble_eq_true rfl) dL_law_1270 ?_
    refine j_aload_n (pc := 1273) (i := 2) dL_law_1273 rfl rfl ?_
    refine j_aload_n (pc := 1274) (i := 0) dL_law_1274 rfl rfl ?_
    refine j_iload_n (pc := 1275) (i := 3) dL_law_1275 rfl rfl ?_
    refine j_iconst (pc := 1276) dL_law_1276 ic_1 ?_
    refine j_iadd (pc := 1277) dL_law_1277 ?_
    refine j_sld (pc := 1278) dL_law_1278 hin1 ?_
    refine j_aload_n (pc := 1279) (i := 0) dL_law_1279 rfl rfl ?_
    refine j_iload_n (pc := 1280) (i := 3) dL_law_1280 rfl rfl ?_
    refine j_iconst (pc := 1281) dL_law_1281 ic_2 ?_
    refine j_iadd (pc := 1282) dL_law_1282 ?_
    refine j_sld (pc := 1283) dL_law_1283 hin2 ?_
    refine j_aload_n (pc := 1284) (i := 0) dL_law_1284 rfl rfl ?_
    refine j_iload_n (pc := 1285) (i := 3) dL_law_1285 rfl rfl ?_
    refine j_iconst (pc := 1286) dL_law_1286 ic_3 ?_
    refine j_iadd (pc := 1287) dL_law_1287 ?_
    refine j_sld (pc := 1288) dL_law_1288 hin3 ?_
    refine j_aload_n (pc := 1289) (i := 0) dL_law_1289 rfl rfl ?_
    refine j_iload_n (pc := 1290) (i := 3) dL_law_1290 rfl rfl ?_
    refine j_iconst (pc := 1291) dL_law_1291 ic_4 ?_
    refine j_iadd (pc := 1292) dL_law_1292 ?_
    refine j_sld (pc := 1293) dL_law_1293 hin4 ?_
    refine j_aload_n (pc := 1294) (i := 0) dL_law_1294 rfl rfl ?_
    refine j_iload_n (pc := 1295) (i := 3) dL_law_1295 rfl rfl ?_
    refine j_iconst (pc := 1296) dL_law_1296 ic_5 ?_
    refine j_iadd (pc := 1297) dL_law_1297 ?_
    refine j_sld (pc := 1298) dL_law_1298 hin5 ?_
    refine j_Ml (pc := 1299) (As := [.int (sc xs i 1), .int (sc xs i 2), .int (sc xs i 3), .int (sc xs i 4), .int (sc xs i 5)]) (rest := [.long r]) (ct_X5_odds (sc xs i 1) (sc xs i 2) (sc xs i 3) (sc xs i 4) (sc xs i 5)) h2 rfl mi_X5_odds q_1111 (by decide) rfl rfl (Nat.le_of_ble_eq_true rfl) dL_law_1299 ?_
    refine j_lcmpT (pc := 1302) (tgt := 1569) dL_law_1302 dL_law_1303 rfl ?_
    exact next)
theorem lc_image {g : Gt} {adx adm : Nat → Nat} {b L : Nat} {xs : Nat → Int32} {z : Lt} {x : GX} {μ : GM} {RR : GX → GM → Prop} (hall : AllEqv RR) (hR : RR x μ) (i : Nat) (next : ∀ (x1 : GX) (μ1 : GM), RR x1 μ1 → LJ g adx adm b L xs z x1 μ1 1569 [(0, .ref b), (1, .ref (aMain adx)), (2, .ref (aMo adm)), (3, .int (nI i))] []) : LJ g adx adm b L xs z x μ 1308 [(0, .ref b), (1, .ref (aMain adx)), (2, .ref (aMo adm)), (3, .int (nI i))] [] := by
  obtain ⟨r, x1, μ1, h1, h2, h3⟩ := hall.2.2.2.2.2.2.2.2.2.2.2.2.2.2.2.2.2.2.2.2.2.2.2.2.2.2.2.2.2.2.2.2.1 x μ hR
  have next := next x1 μ1 h3
  (
    refine j_aload_n (pc := 1308) (i := 1) dL_law_1308 rfl rfl ?_
    refine j_Xi (pc := 1309) (As := []) (rest := []) (ct_X4_image) h1 rfl mi_X4_image q_660 (by decide) rfl rfl (Nat.le_of_ble_eq_true rfl) dL_law_1309 ?_
    refine j_aload_n (pc := 1312) (i := 2) dL_law_1312 rfl rfl ?_
    refine j_Mi (pc := 1313) (As := []) (rest := [.int r]) (ct_X5_image) h2 rfl mi_X5_image q_1115 (by decide) rfl rfl (Nat.le_of_ble_eq_true rfl) dL_law_1313 ?_
    refine j_eqT (pc := 1316) (tgt := 1569) dL_law_1316 rfl ?_
    exact next)
theorem lc_back {g : Gt} {adx adm : Nat → Nat} {b L : Nat} {xs : Nat → Int32} {z : Lt} {x : GX} {μ : GM} {RR : GX → GM → Prop} (hall : AllEqv RR) (hR : RR x μ) (i : Nat) (next : ∀ (x1 : GX) (μ1 : GM), RR x1 μ1 → LJ g adx adm b L xs z x1 μ1 1569 [(0, .ref b), (1, .ref (aMain adx)), (2, .ref (aMo adm)), (3, .int (nI i))] []) : LJ g adx adm b L xs z x μ 1321 [(0, .ref b), (1, .ref (aMain adx)), (2, .ref (aMo adm)), (3, .int (nI i))] [] := by
  obtain ⟨r, x1, μ1, h1, h2, h3⟩ := hall.2.2.2.2.2.2.2.2.2.2.2.2.2.2.2.2.2.2.2.2.2.2.2.2.2.2.2.2.2.2.2.2.2.1 x μ hR
  have next := next x1 μ1 h3
  (
    refine j_aload_n (pc := 1321) (i := 1) dL_law_1321 rfl rfl ?_
    refine j_Xi (pc := 1322) (As := []) (rest := []) (ct_X4_back) h1 rfl mi_X4_back q_664 (by decide) rfl rfl (Nat.le_of_ble_eq_true rfl) dL_law_1322 ?_
    refine j_aload_n (pc := 1325) (i := 2) dL_law_1325 rfl rfl ?_
    refine j_Mi (pc := 1326) (As := []) (rest := [.int r]) (ct_X5_back) h2 rfl mi_X5_back q_1119 (by decide) rfl rfl (Nat.le_of_ble_eq_true rfl) dL_law_1326 ?_
    refine j_eqT (pc := 1329) (tgt := 1569) dL_law_1329 rfl ?_
    exact next)
theorem lc_sheet {g : Gt} {adx adm : Nat → Nat} {b L : Nat} {xs : Nat → Int32} {z : Lt} {x : GX} {μ : GM} {RR : GX → GM → Prop} (hall : AllEqv RR) (hR : RR x μ) (i : Nat) (hin1 : vp_in (nI i + (1 : Int32)) L) (hin2 : vp_in (nI i + (2 : Int32)) L) (hin3 : vp_in (nI i + (3 : Int32)) L) (next : ∀ (x1 : GX) (μ1 : GM), RR x1 μ1 → LJ g adx adm b L xs z x1 μ1 1569 [(0, .ref b), (1, .ref (aMain adx)), (2, .ref (aMo adm)), (3, .int (nI i))] []) : LJ g adx adm b L xs z x μ 1334 [(0, .ref b), (1, .ref (aMain adx)), (2, .ref (aMo adm)), (3, .int (nI i))] [] := by
  obtain ⟨r, x1, μ1, h1, h2, h3⟩ := hall.2.2.2.2.2.2.2.2.2.2.2.2.2.2.2.2.2.2.2.2.2.2.2.2.2.2.2.2.2.2.2.2.2.2.1 (sc xs i 1) (sc xs i 2) (sc xs i 3) x μ hR
  have next := next x1 μ1 h3
  (
    refine j_aload_n (pc := 1334) (i := 1) dL_law_1334 rfl rfl ?_
    refine j_aload_n (pc := 1335) (i := 0) dL_law_1335 rfl rfl ?_
    refine j_iload_n (pc := 1336) (i := 3) dL_law_1336 rfl rfl ?_
    refine j_iconst (pc := 1337) dL_law_1337 ic_1 ?_
    refine j_iadd (pc := 1338) dL_law_1338 ?_
    refine j_sld (pc := 1339) dL_law_1339 hin1 ?_
    refine j_aload_n (pc := 1340) (i := 0) dL_law_1340 rfl rfl ?_
    refine j_iload_n (pc := 1341) (i := 3) dL_law_1341 rfl rfl ?_
    refine j_iconst (pc := 1342) dL_law_1342 ic_2 ?_
    refine j_iadd (pc := 1343) dL_law_1343 ?_
    refine j_sld (pc := 1344) dL_law_1344 hin2 ?_
    refine j_aload_n (pc := 1345) (i := 0) dL_law_1345 rfl rfl ?_
    refine j_iload_n (pc := 1346) (i := 3) dL_law_1346 rfl rfl ?_
    refine j_iconst (pc := 1347) dL_law_1347 ic_3 ?_
    refine j_iadd (pc := 1348) dL_law_1348 ?_
    refine j_sld (pc := 1349) dL_law_1349 hin3 ?_
    refine j_Xi (pc := 1350) (As := [.int (sc xs i 1), .int (sc xs i 2), .int (sc xs i 3)]) (rest := []) (ct_X4_sheet (sc xs i 1) (sc xs i 2) (sc xs i 3)) h1 rfl mi_X4_sheet q_668 (by decide) rfl rfl (Nat.le_of_ble_eq_true rfl) dL_law_1350 ?_
    refine j_aload_n (pc := 1353) (i := 2) dL_law_1353 rfl rfl ?_
    refine j_aload_n (pc := 1354) (i := 0) dL_law_1354 rfl rfl ?_
    refine j_iload_n (pc := 1355) (i := 3) dL_law_1355 rfl rfl ?_
    refine j_iconst (pc := 1356) dL_law_1356 ic_1 ?_
    refine j_iadd (pc := 1357) dL_law_1357 ?_
    refine j_sld (pc := 1358) dL_law_1358 hin1 ?_
    refine j_aload_n (pc := 1359) (i := 0) dL_law_1359 rfl rfl ?_
    refine j_iload_n (pc := 1360) (i := 3) dL_law_1360 rfl rfl ?_
    refine j_iconst (pc := 1361) dL_law_1361 ic_2 ?_
    refine j_iadd (pc := 1362) dL_law_1362 ?_
    refine j_sld (pc := 1363) dL_law_1363 hin2 ?_
    refine j_aload_n (pc := 1364) (i := 0) dL_law_1364 rfl rfl ?_
    refine j_iload_n (pc := 1365) (i := 3) dL_law_1365 rfl rfl ?_
    refine j_iconst (pc := 1366) dL_law_1366 ic_3 ?_
    refine j_iadd (pc := 1367) dL_law_1367 ?_
    refine j_sld (pc := 1368) dL_law_1368 hin3 ?_
    refine j_Mi (pc := 1369) (As := [.int (sc xs i 1), .int (sc xs i 2), .int (sc xs i 3)]) (rest := [.int r]) (ct_X5_sheet (sc xs i 1) (sc xs i 2) (sc xs i 3)) h2 rfl mi_X5_sheet q_1123 (by decide) rfl rfl (Nat.le_of_ble_eq_true rfl) dL_law_1369 ?_
    refine j_eqT (pc := 1372) (tgt := 1569) dL_law_1372 rfl ?_
    exact next)
theorem lc_cell {g : Gt} {adx adm : Nat → Nat} {b L : Nat} {xs : Nat → Int32} {z : Lt} {x : GX} {μ : GM} {RR : GX → GM → Prop} (hall : AllEqv RR) (hR : RR x μ) (i : Nat) (hin1 : vp_in (nI i + (1 : Int32)) L) (hin2 : vp_in (nI i + (2 : Int32)) L) (hin3 : vp_in (nI i + (3 : Int32)) L) (next : ∀ (x1 : GX) (μ1 : GM), RR x1 μ1 → LJ g adx adm b L xs z x1 μ1 1569 [(0, .ref b), (1, .ref (aMain adx)), (2, .ref (aMo adm)), (3, .int (nI i))] []) : LJ g adx adm b L xs z x μ 1377 [(0, .ref b), (1, .ref (aMain adx)), (2, .ref (aMo adm)), (3, .int (nI i))] [] := by
  obtain ⟨r, x1, μ1, h1, h2, h3⟩ := hall.2.2.2.2.2.2.2.2.2.2.2.2.2.2.2.2.2.2.2.2.2.2.2.2.2.2.2.2.2.2.2.2.2.2.2.1 (sc xs i 1) (sc xs i 2) (sc xs i 3) x μ hR
  have next := next x1 μ1 h3
  (
    refine j_aload_n (pc := 1377) (i := 1) dL_law_1377 rfl rfl ?_
    refine j_aload_n (pc := 1378) (i := 0) dL_law_1378 rfl rfl ?_
    refine j_iload_n (pc := 1379) (i := 3) dL_law_1379 rfl rfl ?_
    refine j_iconst (pc := 1380) dL_law_1380 ic_1 ?_
    refine j_iadd (pc := 1381) dL_law_1381 ?_
    refine j_sld (pc := 1382) dL_law_1382 hin1 ?_
    refine j_aload_n (pc := 1383) (i := 0) dL_law_1383 rfl rfl ?_
    refine j_iload_n (pc := 1384) (i := 3) dL_law_1384 rfl rfl ?_
    refine j_iconst (pc := 1385) dL_law_1385 ic_2 ?_
    refine j_iadd (pc := 1386) dL_law_1386 ?_
    refine j_sld (pc := 1387) dL_law_1387 hin2 ?_
    refine j_aload_n (pc := 1388) (i := 0) dL_law_1388 rfl rfl ?_
    refine j_iload_n (pc := 1389) (i := 3) dL_law_1389 rfl rfl ?_
    refine j_iconst (pc := 1390) dL_law_1390 ic_3 ?_
    refine j_iadd (pc := 1391) dL_law_1391 ?_
    refine j_sld (pc := 1392) dL_law_1392 hin3 ?_
    refine j_Xi (pc := 1393) (As := [.int (sc xs i 1), .int (sc xs i 2), .int (sc xs i 3)]) (rest := []) (ct_X4_cell (sc xs i 1) (sc xs i 2) (sc xs i 3)) h1 rfl mi_X4_cell q_672 (by decide) rfl rfl (Nat.le_of_ble_eq_true rfl) dL_law_1393 ?_
    refine j_aload_n (pc := 1396) (i := 2) dL_law_1396 rfl rfl ?_
    refine j_aload_n (pc := 1397) (i := 0) dL_law_1397 rfl rfl ?_
    refine j_iload_n (pc := 1398) (i := 3) dL_law_1398 rfl rfl ?_
    refine j_iconst (pc := 1399) dL_law_1399 ic_1 ?_
    refine j_iadd (pc := 1400) dL_law_1400 ?_
    refine j_sld (pc := 1401) dL_law_1401 hin1 ?_
    refine j_aload_n (pc := 1402) (i := 0) dL_law_1402 rfl rfl ?_
    refine j_iload_n (pc := 1403) (i := 3) dL_law_1403 rfl rfl ?_
    refine j_iconst (pc := 1404) dL_law_1404 ic_2 ?_
    refine j_iadd (pc := 1405) dL_law_1405 ?_
    refine j_sld (pc := 1406) dL_law_1406 hin2 ?_
    refine j_aload_n (pc := 1407) (i := 0) dL_law_1407 rfl rfl ?_
    refine j_iload_n (pc := 1408) (i := 3) dL_law_1408 rfl rfl ?_
    refine j_iconst (pc := 1409) dL_law_1409 ic_3 ?_
    refine j_iadd (pc := 1410) dL_law_1410 ?_
    refine j_sld (pc := 1411) dL_law_1411 hin3 ?_
    refine j_Mi (pc := 1412) (As := [.int (sc xs i 1), .int (sc xs i 2), .int (sc xs i 3)]) (rest := [.int r]) (ct_X5_cell (sc xs i 1) (sc xs i 2) (sc xs i 3)) h2 rfl mi_X5_cell q_1127 (by decide) rfl rfl (Nat.le_of_ble_eq_true rfl) dL_law_1412 ?_
    refine j_eqT (pc := 1415) (tgt := 1569) dL_law_1415 rfl ?_
    exact next)
theorem lc_copy {g : Gt} {adx adm : Nat → Nat} {b L : Nat} {xs : Nat → Int32} {z : Lt} {x : GX} {μ : GM} {RR : GX → GM → Prop} (hall : AllEqv RR) (hR : RR x μ) (i : Nat) (hin1 : vp_in (nI i + (1 : Int32)) L) (hin2 : vp_in (nI i + (2 : Int32)) L) (hin3 : vp_in (nI i + (3 : Int32)) L) (hin4 : vp_in (nI i + (4 : Int32)) L) (hin5 : vp_in (nI i + (5 : Int32)) L) (next : ∀ (x1 : GX) (μ1 : GM), RR x1 μ1 → LJ g adx adm b L xs z x1 μ1 1569 [(0, .ref b), (1, .ref (aMain adx)), (2, .ref (aMo adm)), (3, .int (nI i))] []) : LJ g adx adm b L xs z x μ 1420 [(0, .ref b), (1, .ref (aMain adx)), (2, .ref (aMo adm)), (3, .int (nI i))] [] := by
  obtain ⟨r, x1, μ1, h1, h2, h3⟩ := hall.2.2.2.2.2.2.2.2.2.2.2.2.2.2.2.2.2.2.2.2.2.2.2.2.2.2.2.2.2.2.2.2.2.2.2.2.1 (sc xs i 1) (sc xs i 2) (sc xs i 3) (sc xs i 4) (sc xs i 5) x μ hR
  have next := next x1 μ1 h3
  (
    refine j_aload_n (pc := 1420) (i := 1) dL_law_1420 rfl rfl ?_
    refine j_aload_n (pc := 1421) (i := 0) dL_law_1421 rfl rfl ?_
    refine j_iload_n (pc := 1422) (i := 3) dL_law_1422 rfl rfl ?_
    refine j_iconst (pc := 1423) dL_law_1423 ic_1 ?_
    refine j_iadd (pc := 1424) dL_law_1424 ?_
    refine j_sld (pc := 1425) dL_law_1425 hin1 ?_
    refine j_aload_n (pc := 1426) (i := 0) dL_law_1426 rfl rfl ?_
    refine j_iload_n (pc := 1427) (i := 3) dL_law_1427 rfl rfl ?_
    refine j_iconst (pc := 1428) dL_law_1428 ic_2 ?_
    refine j_iadd (pc := 1429) dL_law_1429 ?_
    refine j_sld (pc := 1430) dL_law_1430 hin2 ?_
    refine j_aload_n (pc := 1431) (i := 0) dL_law_1431 rfl rfl ?_
    refine j_iload_n (pc := 1432) (i := 3) dL_law_1432 rfl rfl ?_
    refine j_iconst (pc := 1433) dL_law_1433 ic_3 ?_
    refine j_iadd (pc := 1434) dL_law_1434 ?_
    refine j_sld (pc := 1435) dL_law_1435 hin3 ?_
    refine j_aload_n (pc := 1436) (i := 0) dL_law_1436 rfl rfl ?_
    refine j_iload_n (pc := 1437) (i := 3) dL_law_1437 rfl rfl ?_
    refine j_iconst (pc := 1438) dL_law_1438 ic_4 ?_
    refine j_iadd (pc := 1439) dL_law_1439 ?_
    refine j_sld (pc := 1440) dL_law_1440 hin4 ?_
    refine j_aload_n (pc := 1441) (i := 0) dL_law_1441 rfl rfl ?_
    refine j_iload_n (pc := 1442) (i := 3) dL_law_1442 rfl rfl ?_
    refine j_iconst (pc := 1443) dL_law_1443 ic_5 ?_
    refine j_iadd (pc := 1444) dL_law_1444 ?_
    refine j_sld (pc := 1445) dL_law_1445 hin5 ?_
    refine j_Xi (pc := 1446) (As := [.int (sc xs i 1), .int (sc xs i 2), .int (sc xs i 3), .int (sc xs i 4), .int (sc xs i 5)]) (rest := []) (ct_X4_copy (sc xs i 1) (sc xs i 2) (sc xs i 3) (sc xs i 4) (sc xs i 5)) h1 rfl mi_X4_copy q_677 (by decide) rfl rfl (Nat.le_of_ble_eq_true rfl) dL_law_1446 ?_
    refine j_aload_n (pc := 1449) (i := 2) dL_law_1449 rfl rfl ?_
    refine j_aload_n (pc := 1450) (i := 0) dL_law_1450 rfl rfl ?_
    refine j_iload_n (pc := 1451) (i := 3) dL_law_1451 rfl rfl ?_
    refine j_iconst (pc := 1452) dL_law_1452 ic_1 ?_
    refine j_iadd (pc := 1453) dL_law_1453 ?_
    refine j_sld (pc := 1454) dL_law_1454 hin1 ?_
    refine j_aload_n (pc := 1455) (i := 0) dL_law_1455 rfl rfl ?_
    refine j_iload_n (pc := 1456) (i := 3) dL_law_1456 rfl rfl ?_
    refine j_iconst (pc := 1457) dL_law_1457 ic_2 ?_
    refine j_iadd (pc := 1458) dL_law_1458 ?_
    refine j_sld (pc := 1459) dL_law_1459 hin2 ?_
    refine j_aload_n (pc := 1460) (i := 0) dL_law_1460 rfl rfl ?_
    refine j_iload_n (pc := 1461) (i := 3) dL_law_1461 rfl rfl ?_
    refine j_iconst (pc := 1462) dL_law_1462 ic_3 ?_
    refine j_iadd (pc := 1463) dL_law_1463 ?_
    refine j_sld (pc := 1464) dL_law_1464 hin3 ?_
    refine j_aload_n (pc := 1465) (i := 0) dL_law_1465 rfl rfl ?_
    refine j_iload_n (pc := 1466) (i := 3) dL_law_1466 rfl rfl ?_
    refine j_iconst (pc := 1467) dL_law_1467 ic_4 ?_
    refine j_iadd (pc := 1468) dL_law_1468 ?_
    refine j_sld (pc := 1469) dL_law_1469 hin4 ?_
    refine j_aload_n (pc := 1470) (i := 0) dL_law_1470 rfl rfl ?_
    refine j_iload_n (pc := 1471) (i := 3) dL_law_1471 rfl rfl ?_
    refine j_iconst (pc := 1472) dL_law_1472 ic_5 ?_
    refine j_iadd (pc := 1473) dL_law_1473 ?_
    refine j_sld (pc := 1474) dL_law_1474 hin5 ?_
    refine j_Mi (pc := 1475) (As := [.int (sc xs i 1), .int (sc xs i 2), .int (sc xs i 3), .int (sc xs i 4), .int (sc xs i 5)]) (rest := [.int r]) (ct_X5_copy (sc xs i 1) (sc xs i 2) (sc xs i 3) (sc xs i 4) (sc xs i 5)) h2 rfl mi_X5_copy q_1131 (by decide) rfl rfl (Nat.le_of_ble_eq_true rfl) dL_law_1475 ?_
    refine j_eqT (pc := 1478) (tgt := 1569) dL_law_1478 rfl ?_
    exact next)
theorem lc_shipsBy {g : Gt} {adx adm : Nat → Nat} {b L : Nat} {xs : Nat → Int32} {z : Lt} {x : GX} {μ : GM} {RR : GX → GM → Prop} (hall : AllEqv RR) (hR : RR x μ) (i : Nat) (hin1 : vp_in (nI i + (1 : Int32)) L) (hin2 : vp_in (nI i + (2 : Int32)) L) (hin3 : vp_in (nI i + (3 : Int32)) L) (hin4 : vp_in (nI i + (4 : Int32)) L) (next : ∀ (x1 : GX) (μ1 : GM), RR x1 μ1 → LJ g adx adm b L xs z x1 μ1 1569 [(0, .ref b), (1, .ref (aMain adx)), (2, .ref (aMo adm)), (3, .int (nI i))] []) : LJ g adx adm b L xs z x μ 1483 [(0, .ref b), (1, .ref (aMain adx)), (2, .ref (aMo adm)), (3, .int (nI i))] [] := by
  obtain ⟨r, x1, μ1, h1, h2, h3⟩ := hall.2.2.2.2.2.2.2.2.2.2.2.2.2.2.2.2.2.2.2.2.2.2.2.2.2.2.2.2.2.2.2.2.2.2.2.2.2.1 (sc xs i 1) (sc xs i 2) (sc xs i 3) (sc xs i 4) x μ hR
  have next := next x1 μ1 h3
  (
    refine j_aload_n (pc := 1483) (i := 1) dL_law_1483 rfl rfl ?_
    refine j_aload_n (pc := 1484) (i := 0) dL_law_1484 rfl rfl ?_
    refine j_iload_n (pc := 1485) (i := 3) dL_law_1485 rfl rfl ?_
    refine j_iconst (pc := 1486) dL_law_1486 ic_1 ?_
    refine j_iadd (pc := 1487) dL_law_1487 ?_
    refine j_sld (pc := 1488) dL_law_1488 hin1 ?_
    refine j_aload_n (pc := 1489) (i := 0) dL_law_1489 rfl rfl ?_
    refine j_iload_n (pc := 1490) (i := 3) dL_law_1490 rfl rfl ?_
    refine j_iconst (pc := 1491) dL_law_1491 ic_2 ?_
    refine j_iadd (pc := 1492) dL_law_1492 ?_
    refine j_sld (pc := 1493) dL_law_1493 hin2 ?_
    refine j_aload_n (pc := 1494) (i := 0) dL_law_1494 rfl rfl ?_
    refine j_iload_n (pc := 1495) (i := 3) dL_law_1495 rfl rfl ?_
    refine j_iconst (pc := 1496) dL_law_1496 ic_3 ?_
    refine j_iadd (pc := 1497) dL_law_1497 ?_
    refine j_sld (pc := 1498) dL_law_1498 hin3 ?_
    refine j_aload_n (pc := 1499) (i := 0) dL_law_1499 rfl rfl ?_
    refine j_iload_n (pc := 1500) (i := 3) dL_law_1500 rfl rfl ?_
    refine j_iconst (pc := 1501) dL_law_1501 ic_4 ?_
    refine j_iadd (pc := 1502) dL_law_1502 ?_
    refine j_sld (pc := 1503) dL_law_1503 hin4 ?_
    refine j_Xi (pc := 1504) (As := [.int (sc xs i 1), .int (sc xs i 2), .int (sc xs i 3), .int (sc xs i 4)]) (rest := []) (ct_X4_shipsBy (sc xs i 1) (sc xs i 2) (sc xs i 3) (sc xs i 4)) h1 rfl mi_X4_shipsBy q_686 (by decide) rfl rfl (Nat.le_of_ble_eq_true rfl) dL_law_1504 ?_
    refine j_aload_n (pc := 1507) (i := 2) dL_law_1507 rfl rfl ?_
    refine j_aload_n (pc := 1508) (i := 0) dL_law_1508 rfl rfl ?_
    refine j_iload_n (pc := 1509) (i := 3) dL_law_1509 rfl rfl ?_
    refine j_iconst (pc := 1510) dL_law_1510 ic_1 ?_
    refine j_iadd (pc := 1511) dL_law_1511 ?_
    refine j_sld (pc := 1512) dL_law_1512 hin1 ?_
    refine j_aload_n (pc := 1513) (i := 0) dL_law_1513 rfl rfl ?_
    refine j_iload_n (pc := 1514) (i := 3) dL_law_1514 rfl rfl ?_
    refine j_iconst (pc := 1515) dL_law_1515 ic_2 ?_
    refine j_iadd (pc := 1516) dL_law_1516 ?_
    refine j_sld (pc := 1517) dL_law_1517 hin2 ?_
    refine j_aload_n (pc := 1518) (i := 0) dL_law_1518 rfl rfl ?_
    refine j_iload_n (pc := 1519) (i := 3) dL_law_1519 rfl rfl ?_
    refine j_iconst (pc := 1520) dL_law_1520 ic_3 ?_
    refine j_iadd (pc := 1521) dL_law_1521 ?_
    refine j_sld (pc := 1522) dL_law_1522 hin3 ?_
    refine j_aload_n (pc := 1523) (i := 0) dL_law_1523 rfl rfl ?_
    refine j_iload_n (pc := 1524) (i := 3) dL_law_1524 rfl rfl ?_
    refine j_iconst (pc := 1525) dL_law_1525 ic_4 ?_
    refine j_iadd (pc := 1526) dL_law_1526 ?_
    refine j_sld (pc := 1527) dL_law_1527 hin4 ?_
    refine j_Mi (pc := 1528) (As := [.int (sc xs i 1), .int (sc xs i 2), .int (sc xs i 3), .int (sc xs i 4)]) (rest := [.int r]) (ct_X5_shipsBy (sc xs i 1) (sc xs i 2) (sc xs i 3) (sc xs i 4)) h2 rfl mi_X5_shipsBy q_1135 (by decide) rfl rfl (Nat.le_of_ble_eq_true rfl) dL_law_1528 ?_
    refine j_eqT (pc := 1531) (tgt := 1569) dL_law_1531 rfl ?_
    exact next)
theorem lc_taken {g : Gt} {adx adm : Nat → Nat} {b L : Nat} {xs : Nat → Int32} {z : Lt} {x : GX} {μ : GM} {RR : GX → GM → Prop} (hall : AllEqv RR) (hR : RR x μ) (i : Nat) (hin1 : vp_in (nI i + (1 : Int32)) L) (hin2 : vp_in (nI i + (2 : Int32)) L) (next : ∀ (x1 : GX) (μ1 : GM), RR x1 μ1 → LJ g adx adm b L xs z x1 μ1 1569 [(0, .ref b), (1, .ref (aMain adx)), (2, .ref (aMo adm)), (3, .int (nI i))] []) : LJ g adx adm b L xs z x μ 1536 [(0, .ref b), (1, .ref (aMain adx)), (2, .ref (aMo adm)), (3, .int (nI i))] [] := by
  obtain ⟨r, x1, μ1, h1, h2, h3⟩ := hall.2.2.2.2.2.2.2.2.2.2.2.2.2.2.2.2.2.2.2.2.2.2.2.2.2.2.2.2.2.2.2.2.2.2.2.2.2.2 (sc xs i 1) (sc xs i 2) x μ hR
  have next := next x1 μ1 h3
  (
    refine j_aload_n (pc := 1536) (i := 1) dL_law_1536 rfl rfl ?_
    refine j_aload_n (pc := 1537) (i := 0) dL_law_1537 rfl rfl ?_
    refine j_iload_n (pc := 1538) (i := 3) dL_law_1538 rfl rfl ?_
    refine j_iconst (pc := 1539) dL_law_1539 ic_1 ?_
    refine j_iadd (pc := 1540) dL_law_1540 ?_
    refine j_sld (pc := 1541) dL_law_1541 hin1 ?_
    refine j_aload_n (pc := 1542) (i := 0) dL_law_1542 rfl rfl ?_
    refine j_iload_n (pc := 1543) (i := 3) dL_law_1543 rfl rfl ?_
    refine j_iconst (pc := 1544) dL_law_1544 ic_2 ?_
    refine j_iadd (pc := 1545) dL_law_1545 ?_
    refine j_sld (pc := 1546) dL_law_1546 hin2 ?_
    refine j_Xi (pc := 1547) (As := [.int (sc xs i 1), .int (sc xs i 2)]) (rest := []) (ct_X4_taken (sc xs i 1) (sc xs i 2)) h1 rfl mi_X4_taken q_691 (by decide) rfl rfl (Nat.le_of_ble_eq_true rfl) dL_law_1547 ?_
    refine j_aload_n (pc := 1550) (i := 2) dL_law_1550 rfl rfl ?_
    refine j_aload_n (pc := 1551) (i := 0) dL_law_1551 rfl rfl ?_
    refine j_iload_n (pc := 1552) (i := 3) dL_law_1552 rfl rfl ?_
    refine j_iconst (pc := 1553) dL_law_1553 ic_1 ?_
    refine j_iadd (pc := 1554) dL_law_1554 ?_
    refine j_sld (pc := 1555) dL_law_1555 hin1 ?_
    refine j_aload_n (pc := 1556) (i := 0) dL_law_1556 rfl rfl ?_
    refine j_iload_n (pc := 1557) (i := 3) dL_law_1557 rfl rfl ?_
    refine j_iconst (pc := 1558) dL_law_1558 ic_2 ?_
    refine j_iadd (pc := 1559) dL_law_1559 ?_
    refine j_sld (pc := 1560) dL_law_1560 hin2 ?_
    refine j_Mi (pc := 1561) (As := [.int (sc xs i 1), .int (sc xs i 2)]) (rest := [.int r]) (ct_X5_taken (sc xs i 1) (sc xs i 2)) h2 rfl mi_X5_taken q_1140 (by decide) rfl rfl (Nat.le_of_ble_eq_true rfl) dL_law_1561 ?_
    refine j_eqT (pc := 1564) (tgt := 1569) dL_law_1564 rfl ?_
    exact next)
theorem law_loop {g : Gt} {adx adm : Nat → Nat} {b L : Nat} {xs : Nat → Int32} {z : Lt} {RR : GX → GM → Prop} (hall : AllEqv RR) (hL : L ≤ 3584) : ∀ (n i : Nat) (x : GX) (μ : GM), i ≤ L → L - i < n → RR x μ → LJ g adx adm b L xs z x μ 18 [(0, .ref b), (1, .ref (aMain adx)), (2, .ref (aMo adm)), (3, .int (nI i))] [] := by
  intro n
  induction n with
  | zero => intro i x μ h1 h2; omega
  | succ n ih =>
    intro i x μ hi hn hR
    refine j_iload_n (pc := 18) (i := 3) dL_law_18 rfl rfl ?_
    refine j_aload_n (pc := 19) (i := 0) dL_law_19 rfl rfl ?_
    refine j_slen (pc := 20) dL_law_20 ?_
    refine j_bipush (pc := 21) dL_law_21 bp_7 ?_
    refine j_isub (pc := 23) dL_law_23 ?_
    have e1 : (nI i).toInt = (i : Int) := nI_toInt (by omega)
    have e2 : (Int32.ofNat L - 7).toInt = (L : Int) - 7 := by
      have h9 : (Int32.ofNat L).toInt = (L : Int) := nI_toInt (n := L) (by omega)
      rw [Int32.toInt_sub, h9, show (7 : Int32).toInt = 7 from rfl]
      have hb1 : -2147483648 ≤ (L : Int) - 7 := by omega
      have hb2 : (L : Int) - 7 < 2147483648 := by omega
      rw [Int.bmod_def]; omega
    refine j_gt (pc := 24) (tgt := 1575) dL_law_24 rfl (fun _ => ?_) (fun hc => ?_)
    · refine j_iconst (pc := 1575) dL_law_1575 ic_1 ?_
      exact j_ret (pc := 1576) dL_law_1576
    · have hi7 : i + 7 ≤ L := by
        rw [Int32.lt_iff_toInt_lt, e1, e2] at hc
        omega
      have hin0 : vp_in (nI i) L := vp_in_nI (by omega) (by omega)
      have hink : ∀ k : Nat, k ≤ 6 → vp_in (nI i + Int32.ofNat k) L := by
        intro k hk
        rw [show nI i + Int32.ofNat k = nI (i + k) from nI_add i k]
        exact vp_in_nI (by omega) (by omega)
      have hin1 : vp_in (nI i + (1 : Int32)) L := hink 1 (by omega)
      have hin2 : vp_in (nI i + (2 : Int32)) L := hink 2 (by omega)
      have hin3 : vp_in (nI i + (3 : Int32)) L := hink 3 (by omega)
      have hin4 : vp_in (nI i + (4 : Int32)) L := hink 4 (by omega)
      have hin5 : vp_in (nI i + (5 : Int32)) L := hink 5 (by omega)
      have hin6 : vp_in (nI i + (6 : Int32)) L := hink 6 (by omega)
      have next : ∀ (x1 : GX) (μ1 : GM), RR x1 μ1 → LJ g adx adm b L xs z x1 μ1 1569 [(0, .ref b), (1, .ref (aMain adx)), (2, .ref (aMo adm)), (3, .int (nI i))] [] := by
        intro x1 μ1 h
        refine j_iinc (pc := 1569) (i := 3) (v := nI (i + 7)) (lv' := [(3, .int (nI (i + 7))), (0, .ref b), (1, .ref (aMain adx)), (2, .ref (aMo adm))]) dL_law_1569 rfl (nI_add i 7) (by decide) rfl ?_
        refine j_goto (pc := 1572) (tgt := 18) dL_law_1572 rfl ?_
        exact j_sub [1, 2, 3, 0] rfl (ih (i + 7) x1 μ1 (by omega) (by omega) h)
      refine j_aload_n (pc := 27) (i := 0) dL_law_27 rfl rfl ?_
      refine j_iload_n (pc := 28) (i := 3) dL_law_28 rfl rfl ?_
      refine j_sld (pc := 29) dL_law_29 hin0 ?_
      refine j_bipush (pc := 30) dL_law_30 bp_63 ?_
      refine j_iand (pc := 32) dL_law_32 ?_
      generalize xs (nI i).toNatClampNeg &&& 63 = v
      by_cases hv0 : v = (0 : Int32)
      · refine j_tin (pc := 33) (tgt := 204) (off := 171) hv0 dL_law_33 (by decide) (by decide) rfl rfl ?_
        exact lc_count hall hR i hin1 next
      by_cases hv1 : v = (1 : Int32)
      · refine j_tin (pc := 33) (tgt := 227) (off := 194) hv1 dL_law_33 (by decide) (by decide) rfl rfl ?_
        exact lc_rock hall hR i hin1 hin2 next
      by_cases hv2 : v = (2 : Int32)
      · refine j_tin (pc := 33) (tgt := 260) (off := 227) hv2 dL_law_33 (by decide) (by decide) rfl rfl ?_
        exact lc_tell hall hR i hin1 hin2 next
      by_cases hv3 : v = (3 : Int32)
      · refine j_tin (pc := 33) (tgt := 293) (off := 260) hv3 dL_law_33 (by decide) (by decide) rfl rfl ?_
        exact lc_believes hall hR i hin1 next
      by_cases hv4 : v = (4 : Int32)
      · refine j_tin (pc := 33) (tgt := 316) (off := 283) hv4 dL_law_33 (by decide) (by decide) rfl rfl ?_
        exact lc_doubts hall hR i hin1 next
      by_cases hv5 : v = (5 : Int32)
      · refine j_tin (pc := 33) (tgt := 339) (off := 306) hv5 dL_law_33 (by decide) (by decide) rfl rfl ?_
        exact lc_feed hall hR i hin1 hin2 hin3 hin4 hin5 hin6 next
      by_cases hv6 : v = (6 : Int32)
      · refine j_tin (pc := 33) (tgt := 414) (off := 381) hv6 dL_law_33 (by decide) (by decide) rfl rfl ?_
        exact lc_text hall hR i next
      by_cases hv7 : v = (7 : Int32)
      · refine j_tin (pc := 33) (tgt := 427) (off := 394) hv7 dL_law_33 (by decide) (by decide) rfl rfl ?_
        exact lc_force hall hR i hin1 next
      by_cases hv8 : v = (8 : Int32)
      · refine j_tin (pc := 33) (tgt := 450) (off := 417) hv8 dL_law_33 (by decide) (by decide) rfl rfl ?_
        exact lc_asks hall hR i hin1 hin2 hin3 next
      by_cases hv9 : v = (9 : Int32)
      · refine j_tin (pc := 33) (tgt := 493) (off := 460) hv9 dL_law_33 (by decide) (by decide) rfl rfl ?_
        exact lc_ship hall hR i hin1 hin2 next
      by_cases hv10 : v = (10 : Int32)
      · refine j_tin (pc := 33) (tgt := 526) (off := 493) hv10 dL_law_33 (by decide) (by decide) rfl rfl ?_
        exact lc_put hall hR i hin1 hin2 hin3 next
      by_cases hv11 : v = (11 : Int32)
      · refine j_tin (pc := 33) (tgt := 569) (off := 536) hv11 dL_law_33 (by decide) (by decide) rfl rfl ?_
        exact lc_told hall hR i hin1 hin2 next
      by_cases hv12 : v = (12 : Int32)
      · refine j_tin (pc := 33) (tgt := 602) (off := 569) hv12 dL_law_33 (by decide) (by decide) rfl rfl ?_
        exact lc_likes hall hR i hin1 hin2 next
      by_cases hv13 : v = (13 : Int32)
      · refine j_tin (pc := 33) (tgt := 635) (off := 602) hv13 dL_law_33 (by decide) (by decide) rfl rfl ?_
        exact lc_night hall hR i next
      by_cases hv14 : v = (14 : Int32)
      · refine j_tin (pc := 33) (tgt := 648) (off := 615) hv14 dL_law_33 (by decide) (by decide) rfl rfl ?_
        exact lc_run hall hR i hin1 hin2 next
      by_cases hv15 : v = (15 : Int32)
      · refine j_tin (pc := 33) (tgt := 681) (off := 648) hv15 dL_law_33 (by decide) (by decide) rfl rfl ?_
        exact lc_lostBy hall hR i hin1 hin2 next
      by_cases hv16 : v = (16 : Int32)
      · refine j_tin (pc := 33) (tgt := 714) (off := 681) hv16 dL_law_33 (by decide) (by decide) rfl rfl ?_
        exact lc_track hall hR i hin1 hin2 next
      by_cases hv17 : v = (17 : Int32)
      · refine j_tin (pc := 33) (tgt := 748) (off := 715) hv17 dL_law_33 (by decide) (by decide) rfl rfl ?_
        exact lc_sea hall hR i hin1 next
      by_cases hv18 : v = (18 : Int32)
      · refine j_tin (pc := 33) (tgt := 772) (off := 739) hv18 dL_law_33 (by decide) (by decide) rfl rfl ?_
        exact lc_lie hall hR i hin1 hin2 hin3 next
      by_cases hv19 : v = (19 : Int32)
      · refine j_tin (pc := 33) (tgt := 815) (off := 782) hv19 dL_law_33 (by decide) (by decide) rfl rfl ?_
        exact lc_blow hall hR i hin1 hin2 next
      by_cases hv20 : v = (20 : Int32)
      · refine j_tin (pc := 33) (tgt := 848) (off := 815) hv20 dL_law_33 (by decide) (by decide) rfl rfl ?_
        exact lc_safe hall hR i hin1 hin2 next
      by_cases hv21 : v = (21 : Int32)
      · refine j_tin (pc := 33) (tgt := 882) (off := 849) hv21 dL_law_33 (by decide) (by decide) rfl rfl ?_
        exact lc_trust hall hR i hin1 hin2 hin3 next
      by_cases hv22 : v = (22 : Int32)
      · refine j_tin (pc := 33) (tgt := 925) (off := 892) hv22 dL_law_33 (by decide) (by decide) rfl rfl ?_
        exact lc_truth hall hR i hin1 next
      by_cases hv23 : v = (23 : Int32)
      · refine j_tin (pc := 33) (tgt := 949) (off := 916) hv23 dL_law_33 (by decide) (by decide) rfl rfl ?_
        exact lc_judge hall hR i hin1 hin2 next
      by_cases hv24 : v = (24 : Int32)
      · refine j_tin (pc := 33) (tgt := 982) (off := 949) hv24 dL_law_33 (by decide) (by decide) rfl rfl ?_
        exact lc_kinds hall hR i hin1 hin2 hin3 next
      by_cases hv25 : v = (25 : Int32)
      · refine j_tin (pc := 33) (tgt := 1025) (off := 992) hv25 dL_law_33 (by decide) (by decide) rfl rfl ?_
        exact lc_places hall hR i hin1 hin2 next
      by_cases hv26 : v = (26 : Int32)
      · refine j_tin (pc := 33) (tgt := 1059) (off := 1026) hv26 dL_law_33 (by decide) (by decide) rfl rfl ?_
        exact lc_draughts hall hR i hin1 hin2 hin3 next
      by_cases hv27 : v = (27 : Int32)
      · refine j_tin (pc := 33) (tgt := 1102) (off := 1069) hv27 dL_law_33 (by decide) (by decide) rfl rfl ?_
        exact lc_whose hall hR i hin1 next
      by_cases hv28 : v = (28 : Int32)
      · refine j_tin (pc := 33) (tgt := 1125) (off := 1092) hv28 dL_law_33 (by decide) (by decide) rfl rfl ?_
        exact lc_laws hall hR i hin1 hin2 next
      by_cases hv29 : v = (29 : Int32)
      · refine j_tin (pc := 33) (tgt := 1158) (off := 1125) hv29 dL_law_33 (by decide) (by decide) rfl rfl ?_
        exact lc_film hall hR i hin1 hin2 hin3 next
      by_cases hv30 : v = (30 : Int32)
      · refine j_tin (pc := 33) (tgt := 1201) (off := 1168) hv30 dL_law_33 (by decide) (by decide) rfl rfl ?_
        exact lc_drawn hall hR i hin1 hin2 hin3 next
      by_cases hv31 : v = (31 : Int32)
      · refine j_tin (pc := 33) (tgt := 1244) (off := 1211) hv31 dL_law_33 (by decide) (by decide) rfl rfl ?_
        exact lc_odds hall hR i hin1 hin2 hin3 hin4 hin5 next
      by_cases hv32 : v = (32 : Int32)
      · refine j_tin (pc := 33) (tgt := 1308) (off := 1275) hv32 dL_law_33 (by decide) (by decide) rfl rfl ?_
        exact lc_image hall hR i next
      by_cases hv33 : v = (33 : Int32)
      · refine j_tin (pc := 33) (tgt := 1321) (off := 1288) hv33 dL_law_33 (by decide) (by decide) rfl rfl ?_
        exact lc_back hall hR i next
      by_cases hv34 : v = (34 : Int32)
      · refine j_tin (pc := 33) (tgt := 1334) (off := 1301) hv34 dL_law_33 (by decide) (by decide) rfl rfl ?_
        exact lc_sheet hall hR i hin1 hin2 hin3 next
      by_cases hv35 : v = (35 : Int32)
      · refine j_tin (pc := 33) (tgt := 1377) (off := 1344) hv35 dL_law_33 (by decide) (by decide) rfl rfl ?_
        exact lc_cell hall hR i hin1 hin2 hin3 next
      by_cases hv36 : v = (36 : Int32)
      · refine j_tin (pc := 33) (tgt := 1420) (off := 1387) hv36 dL_law_33 (by decide) (by decide) rfl rfl ?_
        exact lc_copy hall hR i hin1 hin2 hin3 hin4 hin5 next
      by_cases hv37 : v = (37 : Int32)
      · refine j_tin (pc := 33) (tgt := 1483) (off := 1450) hv37 dL_law_33 (by decide) (by decide) rfl rfl ?_
        exact lc_shipsBy hall hR i hin1 hin2 hin3 hin4 next
      by_cases hv38 : v = (38 : Int32)
      · refine j_tin (pc := 33) (tgt := 1536) (off := 1503) hv38 dL_law_33 (by decide) (by decide) rfl rfl ?_
        exact lc_taken hall hR i hin1 hin2 next
      refine j_tout (pc := 33) (tgt := 1569) dL_law_33 (by have e0 := tsw_ne (a := 0) hv0 rfl; have e1 := tsw_ne (a := 1) hv1 rfl; have e2 := tsw_ne (a := 2) hv2 rfl; have e3 := tsw_ne (a := 3) hv3 rfl; have e4 := tsw_ne (a := 4) hv4 rfl; have e5 := tsw_ne (a := 5) hv5 rfl; have e6 := tsw_ne (a := 6) hv6 rfl; have e7 := tsw_ne (a := 7) hv7 rfl; have e8 := tsw_ne (a := 8) hv8 rfl; have e9 := tsw_ne (a := 9) hv9 rfl; have e10 := tsw_ne (a := 10) hv10 rfl; have e11 := tsw_ne (a := 11) hv11 rfl; have e12 := tsw_ne (a := 12) hv12 rfl; have e13 := tsw_ne (a := 13) hv13 rfl; have e14 := tsw_ne (a := 14) hv14 rfl; have e15 := tsw_ne (a := 15) hv15 rfl; have e16 := tsw_ne (a := 16) hv16 rfl; have e17 := tsw_ne (a := 17) hv17 rfl; have e18 := tsw_ne (a := 18) hv18 rfl; have e19 := tsw_ne (a := 19) hv19 rfl; have e20 := tsw_ne (a := 20) hv20 rfl; have e21 := tsw_ne (a := 21) hv21 rfl; have e22 := tsw_ne (a := 22) hv22 rfl; have e23 := tsw_ne (a := 23) hv23 rfl; have e24 := tsw_ne (a := 24) hv24 rfl; have e25 := tsw_ne (a := 25) hv25 rfl; have e26 := tsw_ne (a := 26) hv26 rfl; have e27 := tsw_ne (a := 27) hv27 rfl; have e28 := tsw_ne (a := 28) hv28 rfl; have e29 := tsw_ne (a := 29) hv29 rfl; have e30 := tsw_ne (a := 30) hv30 rfl; have e31 := tsw_ne (a := 31) hv31 rfl; have e32 := tsw_ne (a := 32) hv32 rfl; have e33 := tsw_ne (a := 33) hv33 rfl; have e34 := tsw_ne (a := 34) hv34 rfl; have e35 := tsw_ne (a := 35) hv35 rfl; have e36 := tsw_ne (a := 36) hv36 rfl; have e37 := tsw_ne (a := 37) hv37 rfl; have e38 := tsw_ne (a := 38) hv38 rfl; omega) rfl ?_
      exact next x μ hR
