theorem w_520 : Cond.selects RX10 yX10_fault yX10_fault ∈ gT := gT_in (List.mem_of_getElem? (i := 520) (by decide +kernel)) rfl
theorem w_521 : Cond.code yX10_fault cX10_fault 1 (some .int) ∈ gT := gT_in (List.mem_of_getElem? (i := 521) (by decide +kernel)) rfl
theorem w_522 : Cond.methodLink RL 135 yX10_round ∈ gT := gT_in (List.mem_of_getElem? (i := 522) (by decide +kernel)) rfl
theorem w_523 : Cond.instanceMethod yX10_round ∈ gT := gT_in (List.mem_of_getElem? (i := 523) (by decide +kernel)) rfl
theorem w_524 : Cond.selects RX10 yX10_round yX10_round ∈ gT := gT_in (List.mem_of_getElem? (i := 524) (by decide +kernel)) rfl
theorem w_525 : Cond.code yX10_round cX10_round 1 (some .int) ∈ gT := gT_in (List.mem_of_getElem? (i := 525) (by decide +kernel)) rfl
theorem w_526 : Cond.methodLink RX10 241 yX2_ticksRound ∈ gT := gT_in (List.mem_of_getElem? (i := 526) (by decide +kernel)) rfl
theorem w_527 : Cond.instanceMethod yX2_ticksRound ∈ gT := gT_in (List.mem_of_getElem? (i := 527) (by decide +kernel)) rfl
theorem w_528 : Cond.selects RX2 yX2_ticksRound yX2_ticksRound ∈ gT := gT_in (List.mem_of_getElem? (i := 528) (by decide +kernel)) rfl
theorem w_529 : Cond.code yX2_ticksRound cX2_ticksRound 4 (some .int) ∈ gT := gT_in (List.mem_of_getElem? (i := 529) (by decide +kernel)) rfl
theorem w_530 : Cond.methodLink RX2 58 yX2_period ∈ gT := gT_in (List.mem_of_getElem? (i := 530) (by decide +kernel)) rfl
theorem w_531 : Cond.instanceMethod yX2_period ∈ gT := gT_in (List.mem_of_getElem? (i := 531) (by decide +kernel)) rfl
theorem w_532 : Cond.selects RX2 yX2_period yX2_period ∈ gT := gT_in (List.mem_of_getElem? (i := 532) (by decide +kernel)) rfl
theorem w_533 : Cond.code yX2_period cX2_period 2 (some .int) ∈ gT := gT_in (List.mem_of_getElem? (i := 533) (by decide +kernel)) rfl
theorem w_534 : Cond.methodLinkNest RX2 85 yX10_greatestCommon "PenSwings" ∈ lw_tbl := List.mem_of_getElem? (i := 534) (by decide +kernel)
theorem w_535 : Cond.static yX10_greatestCommon ∈ gT := gT_in (List.mem_of_getElem? (i := 535) (by decide +kernel)) rfl
theorem w_536 : Cond.code yX10_greatestCommon cX10_greatestCommon 6 (some .int) ∈ gT := gT_in (List.mem_of_getElem? (i := 536) (by decide +kernel)) rfl
theorem w_537 : Cond.methodLink RL 139 yX10_off ∈ gT := gT_in (List.mem_of_getElem? (i := 537) (by decide +kernel)) rfl
theorem w_538 : Cond.instanceMethod yX10_off ∈ gT := gT_in (List.mem_of_getElem? (i := 538) (by decide +kernel)) rfl
theorem w_539 : Cond.selects RX10 yX10_off yX10_off ∈ gT := gT_in (List.mem_of_getElem? (i := 539) (by decide +kernel)) rfl
theorem w_540 : Cond.code yX10_off cX10_off 2 (some .int) ∈ gT := gT_in (List.mem_of_getElem? (i := 540) (by decide +kernel)) rfl
theorem w_541 : Cond.methodLink RX10 244 yX2_swungTo ∈ gT := gT_in (List.mem_of_getElem? (i := 541) (by decide +kernel)) rfl
theorem w_542 : Cond.instanceMethod yX2_swungTo ∈ gT := gT_in (List.mem_of_getElem? (i := 542) (by decide +kernel)) rfl
theorem w_543 : Cond.selects RX2 yX2_swungTo yX2_swungTo ∈ gT := gT_in (List.mem_of_getElem? (i := 543) (by decide +kernel)) rfl
theorem w_544 : Cond.code yX2_swungTo cX2_swungTo 3 (some .int) ∈ gT := gT_in (List.mem_of_getElem? (i := 544) (by decide +kernel)) rfl
theorem w_545 : Cond.methodLink RX2 73 yX2_where ∈ gT := gT_in (List.mem_of_getElem? (i := 545) (by decide +kernel)) rfl
theorem w_546 : Cond.instanceMethod yX2_where ∈ gT := gT_in (List.mem_of_getElem? (i := 546) (by decide +kernel)) rfl
theorem w_547 : Cond.selects RX2 yX2_where yX2_where ∈ gT := gT_in (List.mem_of_getElem? (i := 547) (by decide +kernel)) rfl
theorem w_548 : Cond.code yX2_where cX2_where 7 (some .int) ∈ gT := gT_in (List.mem_of_getElem? (i := 548) (by decide +kernel)) rfl
theorem w_549 : Cond.methodLink RX2 62 yX2_fade ∈ gT := gT_in (List.mem_of_getElem? (i := 549) (by decide +kernel)) rfl
theorem w_551 : Cond.instanceMethod yX2_fade ∈ gT := gT_in (List.mem_of_getElem? (i := 551) (by decide +kernel)) rfl
theorem w_552 : Cond.code yX2_fade cX2_fade 4 none ∈ gT := gT_in (List.mem_of_getElem? (i := 552) (by decide +kernel)) rfl
theorem w_553 : Cond.methodLink RX2 66 yX2_slope ∈ gT := gT_in (List.mem_of_getElem? (i := 553) (by decide +kernel)) rfl
theorem w_554 : Cond.static yX2_slope ∈ gT := gT_in (List.mem_of_getElem? (i := 554) (by decide +kernel)) rfl
theorem w_555 : Cond.code yX2_slope cX2_slope 2 (some .int) ∈ gT := gT_in (List.mem_of_getElem? (i := 555) (by decide +kernel)) rfl
theorem w_556 : Cond.methodLink RX2 70 yX2_arch ∈ gT := gT_in (List.mem_of_getElem? (i := 556) (by decide +kernel)) rfl
theorem w_557 : Cond.static yX2_arch ∈ gT := gT_in (List.mem_of_getElem? (i := 557) (by decide +kernel)) rfl
theorem w_558 : Cond.code yX2_arch cX2_arch 3 (some .int) ∈ gT := gT_in (List.mem_of_getElem? (i := 558) (by decide +kernel)) rfl
theorem w_559 : Cond.methodLink RX10 247 yJ9_abs_0f7a4 ∈ gT := gT_in (List.mem_of_getElem? (i := 559) (by decide +kernel)) rfl
theorem w_560 : Cond.static yJ9_abs_0f7a4 ∈ gT := gT_in (List.mem_of_getElem? (i := 560) (by decide +kernel)) rfl
theorem w_561 : Cond.code yJ9_abs_0f7a4 cJ9_abs_0f7a4 1 (some .int) ∈ gT := gT_in (List.mem_of_getElem? (i := 561) (by decide +kernel)) rfl
theorem w_562 : Cond.methodLink RL 143 yX10_keep ∈ gT := gT_in (List.mem_of_getElem? (i := 562) (by decide +kernel)) rfl
theorem w_563 : Cond.instanceMethod yX10_keep ∈ gT := gT_in (List.mem_of_getElem? (i := 563) (by decide +kernel)) rfl
theorem w_564 : Cond.selects RX10 yX10_keep yX10_keep ∈ gT := gT_in (List.mem_of_getElem? (i := 564) (by decide +kernel)) rfl
theorem w_565 : Cond.code yX10_keep cX10_keep 2 (some .int) ∈ gT := gT_in (List.mem_of_getElem? (i := 565) (by decide +kernel)) rfl
theorem w_566 : Cond.methodLink RX10 209 yX10_refuse ∈ gT := gT_in (List.mem_of_getElem? (i := 566) (by decide +kernel)) rfl
theorem w_568 : Cond.instanceMethod yX10_refuse ∈ gT := gT_in (List.mem_of_getElem? (i := 568) (by decide +kernel)) rfl
theorem w_569 : Cond.code yX10_refuse cX10_refuse 2 (some .int) ∈ gT := gT_in (List.mem_of_getElem? (i := 569) (by decide +kernel)) rfl
theorem w_570 : Cond.methodLink RX10 255 ⟨"java/lang/System", "arraycopy", "(Ljava/lang/Object;ILjava/lang/Object;II)V"⟩ ∈ gT := gT_in (List.mem_of_getElem? (i := 570) (by decide +kernel)) rfl
theorem w_571 : Cond.static ⟨"java/lang/System", "arraycopy", "(Ljava/lang/Object;ILjava/lang/Object;II)V"⟩ ∈ gT := gT_in (List.mem_of_getElem? (i := 571) (by decide +kernel)) rfl
theorem w_572 : Cond.native ⟨"java/lang/System", "arraycopy", "(Ljava/lang/Object;ILjava/lang/Object;II)V"⟩ ∈ gT := gT_in (List.mem_of_getElem? (i := 572) (by decide +kernel)) rfl
theorem w_573 : Cond.methodLink RL 157 yX10_point ∈ gT := gT_in (List.mem_of_getElem? (i := 573) (by decide +kernel)) rfl
theorem w_574 : Cond.instanceMethod yX10_point ∈ gT := gT_in (List.mem_of_getElem? (i := 574) (by decide +kernel)) rfl
theorem w_575 : Cond.selects RX10 yX10_point yX10_point ∈ gT := gT_in (List.mem_of_getElem? (i := 575) (by decide +kernel)) rfl
theorem w_576 : Cond.code yX10_point cX10_point 5 (some .int) ∈ gT := gT_in (List.mem_of_getElem? (i := 576) (by decide +kernel)) rfl
theorem w_577 : Cond.methodLink RX10 274 yX10_isTick ∈ gT := gT_in (List.mem_of_getElem? (i := 577) (by decide +kernel)) rfl
theorem w_578 : Cond.static yX10_isTick ∈ gT := gT_in (List.mem_of_getElem? (i := 578) (by decide +kernel)) rfl
theorem w_579 : Cond.code yX10_isTick cX10_isTick 1 (some .boolean) ∈ gT := gT_in (List.mem_of_getElem? (i := 579) (by decide +kernel)) rfl
theorem w_580 : Cond.methodLink RX10 278 yX10_isPlace ∈ gT := gT_in (List.mem_of_getElem? (i := 580) (by decide +kernel)) rfl
theorem w_581 : Cond.static yX10_isPlace ∈ gT := gT_in (List.mem_of_getElem? (i := 581) (by decide +kernel)) rfl
theorem w_582 : Cond.code yX10_isPlace cX10_isPlace 1 (some .boolean) ∈ gT := gT_in (List.mem_of_getElem? (i := 582) (by decide +kernel)) rfl
theorem w_583 : Cond.methodLink RL 161 yX10_unpoint ∈ gT := gT_in (List.mem_of_getElem? (i := 583) (by decide +kernel)) rfl
theorem w_584 : Cond.instanceMethod yX10_unpoint ∈ gT := gT_in (List.mem_of_getElem? (i := 584) (by decide +kernel)) rfl
theorem w_585 : Cond.selects RX10 yX10_unpoint yX10_unpoint ∈ gT := gT_in (List.mem_of_getElem? (i := 585) (by decide +kernel)) rfl
theorem w_586 : Cond.code yX10_unpoint cX10_unpoint 1 (some .int) ∈ gT := gT_in (List.mem_of_getElem? (i := 586) (by decide +kernel)) rfl
theorem w_587 : Cond.methodLink RL 174 yX10_birthday ∈ gT := gT_in (List.mem_of_getElem? (i := 587) (by decide +kernel)) rfl
theorem w_588 : Cond.instanceMethod yX10_birthday ∈ gT := gT_in (List.mem_of_getElem? (i := 588) (by decide +kernel)) rfl
theorem w_589 : Cond.selects RX10 yX10_birthday yX10_birthday ∈ gT := gT_in (List.mem_of_getElem? (i := 589) (by decide +kernel)) rfl
theorem w_590 : Cond.code yX10_birthday cX10_birthday 2 (some .int) ∈ gT := gT_in (List.mem_of_getElem? (i := 590) (by decide +kernel)) rfl
theorem w_591 : Cond.methodLink RL 178 yX10_forget ∈ gT := gT_in (List.mem_of_getElem? (i := 591) (by decide +kernel)) rfl
theorem w_592 : Cond.instanceMethod yX10_forget ∈ gT := gT_in (List.mem_of_getElem? (i := 592) (by decide +kernel)) rfl
theorem w_593 : Cond.selects RX10 yX10_forget yX10_forget ∈ gT := gT_in (List.mem_of_getElem? (i := 593) (by decide +kernel)) rfl
theorem w_594 : Cond.code yX10_forget cX10_forget 2 (some .int) ∈ gT := gT_in (List.mem_of_getElem? (i := 594) (by decide +kernel)) rfl
theorem w_595 : Cond.methodLink RL 195 yX10_image ∈ gT := gT_in (List.mem_of_getElem? (i := 595) (by decide +kernel)) rfl
theorem w_596 : Cond.instanceMethod yX10_image ∈ gT := gT_in (List.mem_of_getElem? (i := 596) (by decide +kernel)) rfl
theorem w_597 : Cond.selects RX10 yX10_image yX10_image ∈ gT := gT_in (List.mem_of_getElem? (i := 597) (by decide +kernel)) rfl
theorem w_598 : Cond.code yX10_image cX10_image 1 none ∈ gT := gT_in (List.mem_of_getElem? (i := 598) (by decide +kernel)) rfl
theorem w_599 : Cond.methodLink RX10 356 yX3_copy ∈ gT := gT_in (List.mem_of_getElem? (i := 599) (by decide +kernel)) rfl
theorem w_600 : Cond.instanceMethod yX3_copy ∈ gT := gT_in (List.mem_of_getElem? (i := 600) (by decide +kernel)) rfl
theorem w_601 : Cond.selects RX3 yX3_copy yX3_copy ∈ gT := gT_in (List.mem_of_getElem? (i := 601) (by decide +kernel)) rfl
theorem w_602 : Cond.code yX3_copy cX3_copy 2 none ∈ gT := gT_in (List.mem_of_getElem? (i := 602) (by decide +kernel)) rfl
theorem w_603 : Cond.methodLink RX3 34 ⟨"java/lang/System", "arraycopy", "(Ljava/lang/Object;ILjava/lang/Object;II)V"⟩ ∈ gT := gT_in (List.mem_of_getElem? (i := 603) (by decide +kernel)) rfl
theorem w_604 : Cond.methodLink RL 199 yX10_restore ∈ gT := gT_in (List.mem_of_getElem? (i := 604) (by decide +kernel)) rfl
theorem w_605 : Cond.instanceMethod yX10_restore ∈ gT := gT_in (List.mem_of_getElem? (i := 605) (by decide +kernel)) rfl
theorem w_606 : Cond.selects RX10 yX10_restore yX10_restore ∈ gT := gT_in (List.mem_of_getElem? (i := 606) (by decide +kernel)) rfl
theorem w_607 : Cond.code yX10_restore cX10_restore 1 (some .boolean) ∈ gT := gT_in (List.mem_of_getElem? (i := 607) (by decide +kernel)) rfl
theorem w_608 : Cond.methodLink RL 89 yL_swings ∈ gT := gT_in (List.mem_of_getElem? (i := 608) (by decide +kernel)) rfl
theorem w_609 : Cond.static yL_swings ∈ gT := gT_in (List.mem_of_getElem? (i := 609) (by decide +kernel)) rfl
theorem w_611 : Cond.classLink RL 13 "java/lang/IllegalArgumentException" ∈ gT := gT_in (List.mem_of_getElem? (i := 611) (by decide +kernel)) rfl
theorem w_612 : Cond.methodLink RL 7 yX10_swings ∈ gT := gT_in (List.mem_of_getElem? (i := 612) (by decide +kernel)) rfl
theorem w_613 : Cond.instanceMethod yX10_swings ∈ gT := gT_in (List.mem_of_getElem? (i := 613) (by decide +kernel)) rfl
theorem w_614 : Cond.selects RX10 yX10_swings yX10_swings ∈ gT := gT_in (List.mem_of_getElem? (i := 614) (by decide +kernel)) rfl
theorem w_615 : Cond.code yX10_swings cX10_swings 2 (some .int) ∈ gT := gT_in (List.mem_of_getElem? (i := 615) (by decide +kernel)) rfl
theorem w_616 : Cond.methodLink RX10 110 yX10_needBytes ∈ gT := gT_in (List.mem_of_getElem? (i := 616) (by decide +kernel)) rfl
theorem w_618 : Cond.instanceMethod yX10_needBytes ∈ gT := gT_in (List.mem_of_getElem? (i := 618) (by decide +kernel)) rfl
theorem w_619 : Cond.code yX10_needBytes cX10_needBytes 2 none ∈ gT := gT_in (List.mem_of_getElem? (i := 619) (by decide +kernel)) rfl
theorem w_620 : Cond.classLink RX10 372 "java/lang/IllegalArgumentException" ∈ gT := gT_in (List.mem_of_getElem? (i := 620) (by decide +kernel)) rfl
theorem w_621 : Cond.instantiable "java/lang/IllegalArgumentException" 6 ∈ gT := gT_in (List.mem_of_getElem? (i := 621) (by decide +kernel)) rfl
theorem w_629 : Cond.selects "java/lang/IllegalArgumentException" ⟨"java/lang/Throwable", "fillInStackTrace", "(I)Ljava/lang/Throwable;"⟩ ⟨"java/lang/Throwable", "fillInStackTrace", "(I)Ljava/lang/Throwable;"⟩ ∈ gT := gT_in (List.mem_of_getElem? (i := 629) (by decide +kernel)) rfl
theorem w_630 : Cond.selects "java/lang/IllegalArgumentException" ⟨"java/lang/Throwable", "fillInStackTrace", "()Ljava/lang/Throwable;"⟩ ⟨"java/lang/Throwable", "fillInStackTrace", "()Ljava/lang/Throwable;"⟩ ∈ gT := gT_in (List.mem_of_getElem? (i := 630) (by decide +kernel)) rfl
theorem w_673 : Cond.fieldLink "java/lang/Throwable" 198 "java/lang/Throwable" "backtrace" "Ljava/lang/Object;" ∈ gT := gT_in (List.mem_of_getElem? (i := 673) (by decide +kernel)) rfl
theorem w_643 : Cond.instanceMethod ⟨"java/lang/Throwable", "<init>", "()V"⟩ ∈ gT := gT_in (List.mem_of_getElem? (i := 643) (by decide +kernel)) rfl
theorem w_644 : Cond.code ⟨"java/lang/Throwable", "<init>", "()V"⟩ prog_25_method_1_code 1 none ∈ gT := gT_in (List.mem_of_getElem? (i := 644) (by decide +kernel)) rfl
theorem w_645 : Cond.methodLink "java/lang/Throwable" 1 ⟨"java/lang/Object", "<init>", "()V"⟩ ∈ gT := gT_in (List.mem_of_getElem? (i := 645) (by decide +kernel)) rfl
theorem w_646 : Cond.fieldLink "java/lang/Throwable" 13 "java/lang/Throwable" "UNASSIGNED_STACK" "[Ljava/lang/StackTraceElement;" ∈ gT := gT_in (List.mem_of_getElem? (i := 646) (by decide +kernel)) rfl
theorem w_648 : Cond.fieldLink "java/lang/Throwable" 20 "java/lang/Throwable" "SUPPRESSED_SENTINEL" "Ljava/util/List;" ∈ gT := gT_in (List.mem_of_getElem? (i := 648) (by decide +kernel)) rfl
theorem w_650 : Cond.methodLink "java/lang/Throwable" 27 ⟨"java/lang/Throwable", "fillInStackTrace", "()Ljava/lang/Throwable;"⟩ ∈ gT := gT_in (List.mem_of_getElem? (i := 650) (by decide +kernel)) rfl
theorem w_651 : Cond.instanceMethod ⟨"java/lang/Throwable", "fillInStackTrace", "()Ljava/lang/Throwable;"⟩ ∈ gT := gT_in (List.mem_of_getElem? (i := 651) (by decide +kernel)) rfl
theorem w_653 : Cond.selects "java/util/NoSuchElementException" ⟨"java/lang/Throwable", "fillInStackTrace", "()Ljava/lang/Throwable;"⟩ ⟨"java/lang/Throwable", "fillInStackTrace", "()Ljava/lang/Throwable;"⟩ ∈ gT := gT_in (List.mem_of_getElem? (i := 653) (by decide +kernel)) rfl
theorem w_655 : Cond.methodLink "java/lang/Throwable" 202 ⟨"java/lang/Throwable", "fillInStackTrace", "(I)Ljava/lang/Throwable;"⟩ ∈ gT := gT_in (List.mem_of_getElem? (i := 655) (by decide +kernel)) rfl
theorem w_657 : Cond.instanceMethod ⟨"java/lang/Throwable", "fillInStackTrace", "(I)Ljava/lang/Throwable;"⟩ ∈ gT := gT_in (List.mem_of_getElem? (i := 657) (by decide +kernel)) rfl
theorem w_658 : Cond.instantiable "java/lang/Throwable" 6 ∈ gT := gT_in (List.mem_of_getElem? (i := 658) (by decide +kernel)) rfl
theorem w_659 : Cond.native ⟨"java/lang/Throwable", "fillInStackTrace", "(I)Ljava/lang/Throwable;"⟩ ∈ gT := gT_in (List.mem_of_getElem? (i := 659) (by decide +kernel)) rfl
theorem w_661 : Cond.methodLink RX10 376 ⟨"java/lang/IllegalArgumentException", "<init>", "(Ljava/lang/String;)V"⟩ ∈ gT := gT_in (List.mem_of_getElem? (i := 661) (by decide +kernel)) rfl
theorem w_662 : Cond.instanceMethod ⟨"java/lang/IllegalArgumentException", "<init>", "(Ljava/lang/String;)V"⟩ ∈ gT := gT_in (List.mem_of_getElem? (i := 662) (by decide +kernel)) rfl
theorem w_663 : Cond.code ⟨"java/lang/IllegalArgumentException", "<init>", "(Ljava/lang/String;)V"⟩ prog_18_method_2_code 2 none ∈ gT := gT_in (List.mem_of_getElem? (i := 663) (by decide +kernel)) rfl
theorem w_664 : Cond.methodLink "java/lang/IllegalArgumentException" 7 ⟨"java/lang/RuntimeException", "<init>", "(Ljava/lang/String;)V"⟩ ∈ gT := gT_in (List.mem_of_getElem? (i := 664) (by decide +kernel)) rfl
theorem w_665 : Cond.instanceMethod ⟨"java/lang/RuntimeException", "<init>", "(Ljava/lang/String;)V"⟩ ∈ gT := gT_in (List.mem_of_getElem? (i := 665) (by decide +kernel)) rfl
theorem w_666 : Cond.code ⟨"java/lang/RuntimeException", "<init>", "(Ljava/lang/String;)V"⟩ prog_20_method_2_code 2 none ∈ gT := gT_in (List.mem_of_getElem? (i := 666) (by decide +kernel)) rfl
theorem w_667 : Cond.methodLink "java/lang/RuntimeException" 7 ⟨"java/lang/Exception", "<init>", "(Ljava/lang/String;)V"⟩ ∈ gT := gT_in (List.mem_of_getElem? (i := 667) (by decide +kernel)) rfl
theorem w_668 : Cond.instanceMethod ⟨"java/lang/Exception", "<init>", "(Ljava/lang/String;)V"⟩ ∈ gT := gT_in (List.mem_of_getElem? (i := 668) (by decide +kernel)) rfl
theorem w_669 : Cond.code ⟨"java/lang/Exception", "<init>", "(Ljava/lang/String;)V"⟩ prog_17_method_2_code 2 none ∈ gT := gT_in (List.mem_of_getElem? (i := 669) (by decide +kernel)) rfl
theorem w_670 : Cond.methodLink "java/lang/Exception" 7 ⟨"java/lang/Throwable", "<init>", "(Ljava/lang/String;)V"⟩ ∈ gT := gT_in (List.mem_of_getElem? (i := 670) (by decide +kernel)) rfl
theorem w_671 : Cond.instanceMethod ⟨"java/lang/Throwable", "<init>", "(Ljava/lang/String;)V"⟩ ∈ gT := gT_in (List.mem_of_getElem? (i := 671) (by decide +kernel)) rfl
theorem w_672 : Cond.code ⟨"java/lang/Throwable", "<init>", "(Ljava/lang/String;)V"⟩ prog_25_method_2_code 2 none ∈ gT := gT_in (List.mem_of_getElem? (i := 672) (by decide +kernel)) rfl
theorem w_674 : Cond.fieldLink "java/lang/Throwable" 31 "java/lang/Throwable" "detailMessage" "Ljava/lang/String;" ∈ gT := gT_in (List.mem_of_getElem? (i := 674) (by decide +kernel)) rfl
theorem w_675 : Cond.fieldLink "java/lang/Throwable" 7 "java/lang/Throwable" "cause" "Ljava/lang/Throwable;" ∈ gT := gT_in (List.mem_of_getElem? (i := 675) (by decide +kernel)) rfl
theorem w_676 : Cond.fieldLink "java/lang/Throwable" 17 "java/lang/Throwable" "stackTrace" "[Ljava/lang/StackTraceElement;" ∈ gT := gT_in (List.mem_of_getElem? (i := 676) (by decide +kernel)) rfl
theorem w_677 : Cond.fieldLink "java/lang/Throwable" 24 "java/lang/Throwable" "suppressedExceptions" "Ljava/util/List;" ∈ gT := gT_in (List.mem_of_getElem? (i := 677) (by decide +kernel)) rfl
theorem w_686 : Cond.methodLink RX10 113 yX9_begin ∈ gT := gT_in (List.mem_of_getElem? (i := 686) (by decide +kernel)) rfl
theorem w_687 : Cond.instanceMethod yX9_begin ∈ gT := gT_in (List.mem_of_getElem? (i := 687) (by decide +kernel)) rfl
theorem w_688 : Cond.selects RX9 yX9_begin yX9_begin ∈ gT := gT_in (List.mem_of_getElem? (i := 688) (by decide +kernel)) rfl
theorem w_689 : Cond.code yX9_begin cX9_begin 2 none ∈ gT := gT_in (List.mem_of_getElem? (i := 689) (by decide +kernel)) rfl
theorem w_690 : Cond.methodLink RX9 22 yJ9_min_7cf53 ∈ gT := gT_in (List.mem_of_getElem? (i := 690) (by decide +kernel)) rfl
theorem w_691 : Cond.static yJ9_min_7cf53 ∈ gT := gT_in (List.mem_of_getElem? (i := 691) (by decide +kernel)) rfl
theorem w_692 : Cond.code yJ9_min_7cf53 cJ9_min_7cf53 2 (some .int) ∈ gT := gT_in (List.mem_of_getElem? (i := 692) (by decide +kernel)) rfl
theorem w_693 : Cond.methodLink RX9 28 yJ9_max_7cf53 ∈ gT := gT_in (List.mem_of_getElem? (i := 693) (by decide +kernel)) rfl
theorem w_694 : Cond.static yJ9_max_7cf53 ∈ gT := gT_in (List.mem_of_getElem? (i := 694) (by decide +kernel)) rfl
theorem w_695 : Cond.code yJ9_max_7cf53 cJ9_max_7cf53 2 (some .int) ∈ gT := gT_in (List.mem_of_getElem? (i := 695) (by decide +kernel)) rfl
theorem w_696 : Cond.methodLink RX9 40 yX9_advance ∈ gT := gT_in (List.mem_of_getElem? (i := 696) (by decide +kernel)) rfl
theorem w_697 : Cond.instanceMethod yX9_advance ∈ gT := gT_in (List.mem_of_getElem? (i := 697) (by decide +kernel)) rfl
theorem w_698 : Cond.selects RX9 yX9_advance yX9_advance ∈ gT := gT_in (List.mem_of_getElem? (i := 698) (by decide +kernel)) rfl
theorem w_699 : Cond.code yX9_advance cX9_advance 2 none ∈ gT := gT_in (List.mem_of_getElem? (i := 699) (by decide +kernel)) rfl
theorem w_700 : Cond.methodLink RX9 43 yX9_isBlank ∈ gT := gT_in (List.mem_of_getElem? (i := 700) (by decide +kernel)) rfl
theorem w_701 : Cond.static yX9_isBlank ∈ gT := gT_in (List.mem_of_getElem? (i := 701) (by decide +kernel)) rfl
theorem w_702 : Cond.code yX9_isBlank cX9_isBlank 1 (some .boolean) ∈ gT := gT_in (List.mem_of_getElem? (i := 702) (by decide +kernel)) rfl
theorem w_703 : Cond.methodLink RX9 53 yX9_isLetter ∈ gT := gT_in (List.mem_of_getElem? (i := 703) (by decide +kernel)) rfl
theorem w_704 : Cond.static yX9_isLetter ∈ gT := gT_in (List.mem_of_getElem? (i := 704) (by decide +kernel)) rfl
theorem w_705 : Cond.code yX9_isLetter cX9_isLetter 1 (some .boolean) ∈ gT := gT_in (List.mem_of_getElem? (i := 705) (by decide +kernel)) rfl
theorem w_706 : Cond.methodLink RX9 56 yX9_isDigit ∈ gT := gT_in (List.mem_of_getElem? (i := 706) (by decide +kernel)) rfl
theorem w_707 : Cond.static yX9_isDigit ∈ gT := gT_in (List.mem_of_getElem? (i := 707) (by decide +kernel)) rfl
theorem w_708 : Cond.code yX9_isDigit cX9_isDigit 1 (some .boolean) ∈ gT := gT_in (List.mem_of_getElem? (i := 708) (by decide +kernel)) rfl
theorem w_709 : Cond.methodLink RX10 116 yX8_read ∈ gT := gT_in (List.mem_of_getElem? (i := 709) (by decide +kernel)) rfl
theorem w_710 : Cond.static yX8_read ∈ gT := gT_in (List.mem_of_getElem? (i := 710) (by decide +kernel)) rfl
theorem w_711 : Cond.code yX8_read cX8_read 4 (some .boolean) ∈ gT := gT_in (List.mem_of_getElem? (i := 711) (by decide +kernel)) rfl
theorem w_712 : Cond.methodLink RX8 9 yX2_clear ∈ gT := gT_in (List.mem_of_getElem? (i := 712) (by decide +kernel)) rfl
theorem w_713 : Cond.instanceMethod yX2_clear ∈ gT := gT_in (List.mem_of_getElem? (i := 713) (by decide +kernel)) rfl
theorem w_714 : Cond.selects RX2 yX2_clear yX2_clear ∈ gT := gT_in (List.mem_of_getElem? (i := 714) (by decide +kernel)) rfl
theorem w_715 : Cond.code yX2_clear cX2_clear 1 none ∈ gT := gT_in (List.mem_of_getElem? (i := 715) (by decide +kernel)) rfl
theorem w_716 : Cond.methodLink RX8 16 yX9_isEnd ∈ gT := gT_in (List.mem_of_getElem? (i := 716) (by decide +kernel)) rfl
theorem w_717 : Cond.instanceMethod yX9_isEnd ∈ gT := gT_in (List.mem_of_getElem? (i := 717) (by decide +kernel)) rfl
theorem w_718 : Cond.selects RX9 yX9_isEnd yX9_isEnd ∈ gT := gT_in (List.mem_of_getElem? (i := 718) (by decide +kernel)) rfl
theorem w_719 : Cond.code yX9_isEnd cX9_isEnd 1 (some .boolean) ∈ gT := gT_in (List.mem_of_getElem? (i := 719) (by decide +kernel)) rfl
theorem w_721 : Cond.methodLink RX8 22 yX9_isWord ∈ gT := gT_in (List.mem_of_getElem? (i := 721) (by decide +kernel)) rfl
theorem w_722 : Cond.instanceMethod yX9_isWord ∈ gT := gT_in (List.mem_of_getElem? (i := 722) (by decide +kernel)) rfl
theorem w_723 : Cond.selects RX9 yX9_isWord yX9_isWord ∈ gT := gT_in (List.mem_of_getElem? (i := 723) (by decide +kernel)) rfl
theorem w_724 : Cond.code yX9_isWord cX9_isWord 3 (some .boolean) ∈ gT := gT_in (List.mem_of_getElem? (i := 724) (by decide +kernel)) rfl
theorem w_725 : Cond.methodLink RX9 62 yJ0_length_8abf5 ∈ gT := gT_in (List.mem_of_getElem? (i := 725) (by decide +kernel)) rfl
theorem w_726 : Cond.instanceMethod yJ0_length_8abf5 ∈ gT := gT_in (List.mem_of_getElem? (i := 726) (by decide +kernel)) rfl
theorem w_727 : Cond.selects RJ0 yJ0_length_8abf5 yJ0_length_8abf5 ∈ gT := gT_in (List.mem_of_getElem? (i := 727) (by decide +kernel)) rfl
theorem w_728 : Cond.code yJ0_length_8abf5 cJ0_length_8abf5 1 (some .int) ∈ gT := gT_in (List.mem_of_getElem? (i := 728) (by decide +kernel)) rfl
theorem w_729 : Cond.methodLink RJ0 335 yJ0_coder_7d493 ∈ gT := gT_in (List.mem_of_getElem? (i := 729) (by decide +kernel)) rfl
theorem w_730 : Cond.instanceMethod yJ0_coder_7d493 ∈ gT := gT_in (List.mem_of_getElem? (i := 730) (by decide +kernel)) rfl
theorem w_731 : Cond.selects RJ0 yJ0_coder_7d493 yJ0_coder_7d493 ∈ gT := gT_in (List.mem_of_getElem? (i := 731) (by decide +kernel)) rfl
theorem w_732 : Cond.code yJ0_coder_7d493 cJ0_coder_7d493 1 (some .byte) ∈ gT := gT_in (List.mem_of_getElem? (i := 732) (by decide +kernel)) rfl
theorem w_733 : Cond.fieldLink RJ0 38 "java/lang/String" "COMPACT_STRINGS" "Z" ∈ gT := gT_in (List.mem_of_getElem? (i := 733) (by decide +kernel)) rfl
theorem w_735 : Cond.methodLink RX9 67 yJ0_charAt_5068e ∈ gT := gT_in (List.mem_of_getElem? (i := 735) (by decide +kernel)) rfl
theorem w_736 : Cond.instanceMethod yJ0_charAt_5068e ∈ gT := gT_in (List.mem_of_getElem? (i := 736) (by decide +kernel)) rfl
theorem w_737 : Cond.selects RJ0 yJ0_charAt_5068e yJ0_charAt_5068e ∈ gT := gT_in (List.mem_of_getElem? (i := 737) (by decide +kernel)) rfl
theorem w_738 : Cond.code yJ0_charAt_5068e cJ0_charAt_5068e 2 (some .char) ∈ gT := gT_in (List.mem_of_getElem? (i := 738) (by decide +kernel)) rfl
theorem w_739 : Cond.methodLink RJ0 492 yJ0_isLatin1_aae02 ∈ gT := gT_in (List.mem_of_getElem? (i := 739) (by decide +kernel)) rfl
theorem w_740 : Cond.instanceMethod yJ0_isLatin1_aae02 ∈ gT := gT_in (List.mem_of_getElem? (i := 740) (by decide +kernel)) rfl
theorem w_741 : Cond.selects RJ0 yJ0_isLatin1_aae02 yJ0_isLatin1_aae02 ∈ gT := gT_in (List.mem_of_getElem? (i := 741) (by decide +kernel)) rfl
theorem w_742 : Cond.code yJ0_isLatin1_aae02 cJ0_isLatin1_aae02 1 (some .boolean) ∈ gT := gT_in (List.mem_of_getElem? (i := 742) (by decide +kernel)) rfl
theorem w_743 : Cond.methodLink RJ0 495 yJ1_charAt_3b067 ∈ gT := gT_in (List.mem_of_getElem? (i := 743) (by decide +kernel)) rfl
theorem w_744 : Cond.static yJ1_charAt_3b067 ∈ gT := gT_in (List.mem_of_getElem? (i := 744) (by decide +kernel)) rfl
theorem w_745 : Cond.code yJ1_charAt_3b067 cJ1_charAt_3b067 2 (some .char) ∈ gT := gT_in (List.mem_of_getElem? (i := 745) (by decide +kernel)) rfl
theorem w_746 : Cond.methodLink RJ1 9 yJ0_checkIndex_df160 ∈ gT := gT_in (List.mem_of_getElem? (i := 746) (by decide +kernel)) rfl
theorem w_747 : Cond.static yJ0_checkIndex_df160 ∈ gT := gT_in (List.mem_of_getElem? (i := 747) (by decide +kernel)) rfl
theorem w_748 : Cond.code yJ0_checkIndex_df160 cJ0_checkIndex_df160 2 none ∈ gT := gT_in (List.mem_of_getElem? (i := 748) (by decide +kernel)) rfl
theorem w_749 : Cond.fieldLink RJ0 1053 "jdk/internal/util/Preconditions" "SIOOBE_FORMATTER" "Ljava/util/function/BiFunction;" ∈ gT := gT_in (List.mem_of_getElem? (i := 749) (by decide +kernel)) rfl
theorem w_751 : Cond.methodLink RJ0 1059 yJ3_checkIndex_8e157 ∈ gT := gT_in (List.mem_of_getElem? (i := 751) (by decide +kernel)) rfl
theorem w_752 : Cond.static yJ3_checkIndex_8e157 ∈ gT := gT_in (List.mem_of_getElem? (i := 752) (by decide +kernel)) rfl
theorem w_753 : Cond.code yJ3_checkIndex_8e157 cJ3_checkIndex_8e157 3 (some .int) ∈ gT := gT_in (List.mem_of_getElem? (i := 753) (by decide +kernel)) rfl
theorem w_754 : Cond.methodLink RJ0 498 yJ2_charAt_3b067 ∈ gT := gT_in (List.mem_of_getElem? (i := 754) (by decide +kernel)) rfl
theorem w_755 : Cond.static yJ2_charAt_3b067 ∈ gT := gT_in (List.mem_of_getElem? (i := 755) (by decide +kernel)) rfl
theorem w_756 : Cond.code yJ2_charAt_3b067 cJ2_charAt_3b067 2 (some .char) ∈ gT := gT_in (List.mem_of_getElem? (i := 756) (by decide +kernel)) rfl
theorem w_757 : Cond.methodLink RJ2 67 yJ2_checkIndex_2214a ∈ gT := gT_in (List.mem_of_getElem? (i := 757) (by decide +kernel)) rfl
theorem w_758 : Cond.static yJ2_checkIndex_2214a ∈ gT := gT_in (List.mem_of_getElem? (i := 758) (by decide +kernel)) rfl
theorem w_759 : Cond.code yJ2_checkIndex_2214a cJ2_checkIndex_2214a 2 none ∈ gT := gT_in (List.mem_of_getElem? (i := 759) (by decide +kernel)) rfl
theorem w_760 : Cond.methodLink RJ2 48 yJ2_length_9d52b ∈ gT := gT_in (List.mem_of_getElem? (i := 760) (by decide +kernel)) rfl
theorem w_761 : Cond.static yJ2_length_9d52b ∈ gT := gT_in (List.mem_of_getElem? (i := 761) (by decide +kernel)) rfl
theorem w_762 : Cond.code yJ2_length_9d52b cJ2_length_9d52b 1 (some .int) ∈ gT := gT_in (List.mem_of_getElem? (i := 762) (by decide +kernel)) rfl
theorem w_763 : Cond.methodLink RJ2 414 yJ0_checkIndex_df160 ∈ gT := gT_in (List.mem_of_getElem? (i := 763) (by decide +kernel)) rfl
theorem w_764 : Cond.methodLink RJ2 71 yJ2_getChar_3b067 ∈ gT := gT_in (List.mem_of_getElem? (i := 764) (by decide +kernel)) rfl
theorem w_765 : Cond.static yJ2_getChar_3b067 ∈ gT := gT_in (List.mem_of_getElem? (i := 765) (by decide +kernel)) rfl
theorem w_766 : Cond.code yJ2_getChar_3b067 cJ2_getChar_3b067 2 (some .char) ∈ gT := gT_in (List.mem_of_getElem? (i := 766) (by decide +kernel)) rfl
theorem w_767 : Cond.fieldLink RJ2 44 "java/lang/StringUTF16" "$assertionsDisabled" "Z" ∈ gT := gT_in (List.mem_of_getElem? (i := 767) (by decide +kernel)) rfl
theorem w_769 : Cond.fieldLink RJ2 59 "java/lang/StringUTF16" "HI_BYTE_SHIFT" "I" ∈ gT := gT_in (List.mem_of_getElem? (i := 769) (by decide +kernel)) rfl
theorem w_771 : Cond.fieldLink RJ2 63 "java/lang/StringUTF16" "LO_BYTE_SHIFT" "I" ∈ gT := gT_in (List.mem_of_getElem? (i := 771) (by decide +kernel)) rfl
theorem w_773 : Cond.methodLink RX8 26 yX9_refuse ∈ gT := gT_in (List.mem_of_getElem? (i := 773) (by decide +kernel)) rfl
theorem w_774 : Cond.instanceMethod yX9_refuse ∈ gT := gT_in (List.mem_of_getElem? (i := 774) (by decide +kernel)) rfl
theorem w_775 : Cond.selects RX9 yX9_refuse yX9_refuse ∈ gT := gT_in (List.mem_of_getElem? (i := 775) (by decide +kernel)) rfl
theorem w_776 : Cond.code yX9_refuse cX9_refuse 2 (some .boolean) ∈ gT := gT_in (List.mem_of_getElem? (i := 776) (by decide +kernel)) rfl
theorem w_777 : Cond.methodLink RX8 30 yX8_readLine ∈ gT := gT_in (List.mem_of_getElem? (i := 777) (by decide +kernel)) rfl
theorem w_778 : Cond.static yX8_readLine ∈ gT := gT_in (List.mem_of_getElem? (i := 778) (by decide +kernel)) rfl
theorem w_779 : Cond.code yX8_readLine cX8_readLine 2 (some .boolean) ∈ gT := gT_in (List.mem_of_getElem? (i := 779) (by decide +kernel)) rfl
theorem w_781 : Cond.methodLink RX8 42 yX8_readPendulum ∈ gT := gT_in (List.mem_of_getElem? (i := 781) (by decide +kernel)) rfl
theorem w_782 : Cond.static yX8_readPendulum ∈ gT := gT_in (List.mem_of_getElem? (i := 782) (by decide +kernel)) rfl
theorem w_783 : Cond.code yX8_readPendulum cX8_readPendulum 4 (some .boolean) ∈ gT := gT_in (List.mem_of_getElem? (i := 783) (by decide +kernel)) rfl
theorem w_784 : Cond.methodLink RX8 57 yX9_advance ∈ gT := gT_in (List.mem_of_getElem? (i := 784) (by decide +kernel)) rfl
theorem w_785 : Cond.methodLink RX8 60 yX8_kindTold ∈ gT := gT_in (List.mem_of_getElem? (i := 785) (by decide +kernel)) rfl
theorem w_786 : Cond.static yX8_kindTold ∈ gT := gT_in (List.mem_of_getElem? (i := 786) (by decide +kernel)) rfl
theorem w_787 : Cond.code yX8_kindTold cX8_kindTold 1 (some .int) ∈ gT := gT_in (List.mem_of_getElem? (i := 787) (by decide +kernel)) rfl
theorem w_791 : Cond.methodLink RX8 71 yX8_readInto ∈ gT := gT_in (List.mem_of_getElem? (i := 791) (by decide +kernel)) rfl
theorem w_792 : Cond.static yX8_readInto ∈ gT := gT_in (List.mem_of_getElem? (i := 792) (by decide +kernel)) rfl
theorem w_793 : Cond.code yX8_readInto cX8_readInto 5 (some .boolean) ∈ gT := gT_in (List.mem_of_getElem? (i := 793) (by decide +kernel)) rfl
theorem w_794 : Cond.methodLink RX8 91 yX9_takeNumber ∈ gT := gT_in (List.mem_of_getElem? (i := 794) (by decide +kernel)) rfl
theorem w_795 : Cond.instanceMethod yX9_takeNumber ∈ gT := gT_in (List.mem_of_getElem? (i := 795) (by decide +kernel)) rfl
theorem w_796 : Cond.selects RX9 yX9_takeNumber yX9_takeNumber ∈ gT := gT_in (List.mem_of_getElem? (i := 796) (by decide +kernel)) rfl
theorem w_797 : Cond.code yX9_takeNumber cX9_takeNumber 3 (some .boolean) ∈ gT := gT_in (List.mem_of_getElem? (i := 797) (by decide +kernel)) rfl
theorem w_798 : Cond.methodLink RX9 75 yX9_refuse ∈ gT := gT_in (List.mem_of_getElem? (i := 798) (by decide +kernel)) rfl
theorem w_799 : Cond.methodLink RX8 81 yX8_countPendulum ∈ gT := gT_in (List.mem_of_getElem? (i := 799) (by decide +kernel)) rfl
theorem w_800 : Cond.static yX8_countPendulum ∈ gT := gT_in (List.mem_of_getElem? (i := 800) (by decide +kernel)) rfl
theorem w_801 : Cond.code yX8_countPendulum cX8_countPendulum 1 (some .boolean) ∈ gT := gT_in (List.mem_of_getElem? (i := 801) (by decide +kernel)) rfl
theorem w_803 : Cond.methodLink RX8 47 yX8_readCart ∈ gT := gT_in (List.mem_of_getElem? (i := 803) (by decide +kernel)) rfl
theorem w_804 : Cond.static yX8_readCart ∈ gT := gT_in (List.mem_of_getElem? (i := 804) (by decide +kernel)) rfl
theorem w_805 : Cond.code yX8_readCart cX8_readCart 4 (some .boolean) ∈ gT := gT_in (List.mem_of_getElem? (i := 805) (by decide +kernel)) rfl
theorem w_806 : Cond.methodLink RX8 104 yX9_takeSigned ∈ gT := gT_in (List.mem_of_getElem? (i := 806) (by decide +kernel)) rfl
theorem w_807 : Cond.instanceMethod yX9_takeSigned ∈ gT := gT_in (List.mem_of_getElem? (i := 807) (by decide +kernel)) rfl
theorem w_808 : Cond.selects RX9 yX9_takeSigned yX9_takeSigned ∈ gT := gT_in (List.mem_of_getElem? (i := 808) (by decide +kernel)) rfl
theorem w_809 : Cond.code yX9_takeSigned cX9_takeSigned 3 (some .boolean) ∈ gT := gT_in (List.mem_of_getElem? (i := 809) (by decide +kernel)) rfl
theorem w_810 : Cond.methodLink RX9 71 yX9_isSign ∈ gT := gT_in (List.mem_of_getElem? (i := 810) (by decide +kernel)) rfl
theorem w_811 : Cond.instanceMethod yX9_isSign ∈ gT := gT_in (List.mem_of_getElem? (i := 811) (by decide +kernel)) rfl
theorem w_812 : Cond.selects RX9 yX9_isSign yX9_isSign ∈ gT := gT_in (List.mem_of_getElem? (i := 812) (by decide +kernel)) rfl
theorem w_813 : Cond.code yX9_isSign cX9_isSign 2 (some .boolean) ∈ gT := gT_in (List.mem_of_getElem? (i := 813) (by decide +kernel)) rfl
theorem w_814 : Cond.methodLink RX9 81 yX9_takeNumber ∈ gT := gT_in (List.mem_of_getElem? (i := 814) (by decide +kernel)) rfl
theorem w_815 : Cond.methodLink RX8 50 yX8_readPennies ∈ gT := gT_in (List.mem_of_getElem? (i := 815) (by decide +kernel)) rfl
theorem w_816 : Cond.static yX8_readPennies ∈ gT := gT_in (List.mem_of_getElem? (i := 816) (by decide +kernel)) rfl
theorem w_817 : Cond.code yX8_readPennies cX8_readPennies 3 (some .boolean) ∈ gT := gT_in (List.mem_of_getElem? (i := 817) (by decide +kernel)) rfl
theorem w_818 : Cond.methodLink RX8 36 yX9_takeSign ∈ gT := gT_in (List.mem_of_getElem? (i := 818) (by decide +kernel)) rfl
theorem w_819 : Cond.instanceMethod yX9_takeSign ∈ gT := gT_in (List.mem_of_getElem? (i := 819) (by decide +kernel)) rfl
theorem w_820 : Cond.selects RX9 yX9_takeSign yX9_takeSign ∈ gT := gT_in (List.mem_of_getElem? (i := 820) (by decide +kernel)) rfl
theorem w_821 : Cond.code yX9_takeSign cX9_takeSign 2 (some .boolean) ∈ gT := gT_in (List.mem_of_getElem? (i := 821) (by decide +kernel)) rfl
theorem w_822 : Cond.methodLink RX10 122 yX2_copy ∈ gT := gT_in (List.mem_of_getElem? (i := 822) (by decide +kernel)) rfl
theorem w_823 : Cond.instanceMethod yX2_copy ∈ gT := gT_in (List.mem_of_getElem? (i := 823) (by decide +kernel)) rfl
theorem w_824 : Cond.selects RX2 yX2_copy yX2_copy ∈ gT := gT_in (List.mem_of_getElem? (i := 824) (by decide +kernel)) rfl
theorem w_825 : Cond.code yX2_copy cX2_copy 2 none ∈ gT := gT_in (List.mem_of_getElem? (i := 825) (by decide +kernel)) rfl
theorem w_826 : Cond.methodLink RX2 52 ⟨"java/lang/System", "arraycopy", "(Ljava/lang/Object;ILjava/lang/Object;II)V"⟩ ∈ gT := gT_in (List.mem_of_getElem? (i := 826) (by decide +kernel)) rfl
theorem w_827 : Cond.methodLink RX10 126 yX3_clear ∈ gT := gT_in (List.mem_of_getElem? (i := 827) (by decide +kernel)) rfl
theorem w_828 : Cond.instanceMethod yX3_clear ∈ gT := gT_in (List.mem_of_getElem? (i := 828) (by decide +kernel)) rfl
theorem w_829 : Cond.selects RX3 yX3_clear yX3_clear ∈ gT := gT_in (List.mem_of_getElem? (i := 829) (by decide +kernel)) rfl
theorem w_830 : Cond.code yX3_clear cX3_clear 1 none ∈ gT := gT_in (List.mem_of_getElem? (i := 830) (by decide +kernel)) rfl
theorem w_831 : Cond.methodLink RX10 132 yX0_clear ∈ gT := gT_in (List.mem_of_getElem? (i := 831) (by decide +kernel)) rfl
theorem w_832 : Cond.instanceMethod yX0_clear ∈ gT := gT_in (List.mem_of_getElem? (i := 832) (by decide +kernel)) rfl
theorem w_833 : Cond.selects RX0 yX0_clear yX0_clear ∈ gT := gT_in (List.mem_of_getElem? (i := 833) (by decide +kernel)) rfl
theorem w_834 : Cond.code yX0_clear cX0_clear 1 none ∈ gT := gT_in (List.mem_of_getElem? (i := 834) (by decide +kernel)) rfl
theorem w_835 : Cond.methodLink RX10 133 yX10_endOfText ∈ gT := gT_in (List.mem_of_getElem? (i := 835) (by decide +kernel)) rfl
theorem w_837 : Cond.instanceMethod yX10_endOfText ∈ gT := gT_in (List.mem_of_getElem? (i := 837) (by decide +kernel)) rfl
theorem w_838 : Cond.code yX10_endOfText cX10_endOfText 1 (some .int) ∈ gT := gT_in (List.mem_of_getElem? (i := 838) (by decide +kernel)) rfl
theorem w_839 : Cond.methodLink RL 99 yL_score ∈ gT := gT_in (List.mem_of_getElem? (i := 839) (by decide +kernel)) rfl
theorem w_840 : Cond.static yL_score ∈ gT := gT_in (List.mem_of_getElem? (i := 840) (by decide +kernel)) rfl
theorem w_842 : Cond.methodLink RL 15 yX10_score ∈ gT := gT_in (List.mem_of_getElem? (i := 842) (by decide +kernel)) rfl
theorem w_843 : Cond.instanceMethod yX10_score ∈ gT := gT_in (List.mem_of_getElem? (i := 843) (by decide +kernel)) rfl
theorem w_844 : Cond.selects RX10 yX10_score yX10_score ∈ gT := gT_in (List.mem_of_getElem? (i := 844) (by decide +kernel)) rfl
theorem w_845 : Cond.code yX10_score cX10_score 3 (some .int) ∈ gT := gT_in (List.mem_of_getElem? (i := 845) (by decide +kernel)) rfl
theorem w_846 : Cond.methodLink RX10 137 yX7_read ∈ gT := gT_in (List.mem_of_getElem? (i := 846) (by decide +kernel)) rfl
theorem w_847 : Cond.instanceMethod yX7_read ∈ gT := gT_in (List.mem_of_getElem? (i := 847) (by decide +kernel)) rfl
theorem w_848 : Cond.selects RX7 yX7_read yX7_read ∈ gT := gT_in (List.mem_of_getElem? (i := 848) (by decide +kernel)) rfl
theorem w_849 : Cond.code yX7_read cX7_read 4 (some .boolean) ∈ gT := gT_in (List.mem_of_getElem? (i := 849) (by decide +kernel)) rfl
theorem w_850 : Cond.methodLink RX7 36 yX9_isEnd ∈ gT := gT_in (List.mem_of_getElem? (i := 850) (by decide +kernel)) rfl
theorem w_851 : Cond.methodLink RX7 40 yX9_isSign ∈ gT := gT_in (List.mem_of_getElem? (i := 851) (by decide +kernel)) rfl
theorem w_852 : Cond.methodLink RX7 44 yX7_closeBlock ∈ gT := gT_in (List.mem_of_getElem? (i := 852) (by decide +kernel)) rfl
theorem w_854 : Cond.instanceMethod yX7_closeBlock ∈ gT := gT_in (List.mem_of_getElem? (i := 854) (by decide +kernel)) rfl
theorem w_855 : Cond.code yX7_closeBlock cX7_closeBlock 5 (some .boolean) ∈ gT := gT_in (List.mem_of_getElem? (i := 855) (by decide +kernel)) rfl
theorem w_856 : Cond.methodLink RX7 62 yX9_advance ∈ gT := gT_in (List.mem_of_getElem? (i := 856) (by decide +kernel)) rfl
theorem w_858 : Cond.methodLink RX7 81 yX9_isWord ∈ gT := gT_in (List.mem_of_getElem? (i := 858) (by decide +kernel)) rfl
theorem w_859 : Cond.methodLink RX7 59 yX7_addStep ∈ gT := gT_in (List.mem_of_getElem? (i := 859) (by decide +kernel)) rfl
theorem w_861 : Cond.instanceMethod yX7_addStep ∈ gT := gT_in (List.mem_of_getElem? (i := 861) (by decide +kernel)) rfl
theorem w_862 : Cond.code yX7_addStep cX7_addStep 2 (some .boolean) ∈ gT := gT_in (List.mem_of_getElem? (i := 862) (by decide +kernel)) rfl
theorem w_863 : Cond.methodLink RX7 51 yX9_refuse ∈ gT := gT_in (List.mem_of_getElem? (i := 863) (by decide +kernel)) rfl
theorem w_864 : Cond.methodLink RX7 73 yX7_openBlock ∈ gT := gT_in (List.mem_of_getElem? (i := 864) (by decide +kernel)) rfl
theorem w_866 : Cond.instanceMethod yX7_openBlock ∈ gT := gT_in (List.mem_of_getElem? (i := 866) (by decide +kernel)) rfl
theorem w_867 : Cond.code yX7_openBlock cX7_openBlock 2 (some .boolean) ∈ gT := gT_in (List.mem_of_getElem? (i := 867) (by decide +kernel)) rfl
theorem w_868 : Cond.methodLink RX7 119 yX9_takeSign ∈ gT := gT_in (List.mem_of_getElem? (i := 868) (by decide +kernel)) rfl
theorem w_869 : Cond.methodLink RX7 48 yX7_readAct ∈ gT := gT_in (List.mem_of_getElem? (i := 869) (by decide +kernel)) rfl
theorem w_871 : Cond.instanceMethod yX7_readAct ∈ gT := gT_in (List.mem_of_getElem? (i := 871) (by decide +kernel)) rfl
theorem w_872 : Cond.code yX7_readAct cX7_readAct 3 (some .boolean) ∈ gT := gT_in (List.mem_of_getElem? (i := 872) (by decide +kernel)) rfl
theorem w_873 : Cond.methodLink RX7 55 yX7_verbTold ∈ gT := gT_in (List.mem_of_getElem? (i := 873) (by decide +kernel)) rfl
theorem w_874 : Cond.static yX7_verbTold ∈ gT := gT_in (List.mem_of_getElem? (i := 874) (by decide +kernel)) rfl
theorem w_875 : Cond.code yX7_verbTold cX7_verbTold 1 (some .int) ∈ gT := gT_in (List.mem_of_getElem? (i := 875) (by decide +kernel)) rfl
theorem w_883 : Cond.methodLink RX7 65 yX7_readNumber ∈ gT := gT_in (List.mem_of_getElem? (i := 883) (by decide +kernel)) rfl
theorem w_885 : Cond.instanceMethod yX7_readNumber ∈ gT := gT_in (List.mem_of_getElem? (i := 885) (by decide +kernel)) rfl
theorem w_886 : Cond.code yX7_readNumber cX7_readNumber 4 (some .boolean) ∈ gT := gT_in (List.mem_of_getElem? (i := 886) (by decide +kernel)) rfl
theorem w_887 : Cond.methodLink RX7 96 yX9_takeNumber ∈ gT := gT_in (List.mem_of_getElem? (i := 887) (by decide +kernel)) rfl
theorem w_888 : Cond.methodLink RX7 69 yX7_readChange ∈ gT := gT_in (List.mem_of_getElem? (i := 888) (by decide +kernel)) rfl
theorem w_890 : Cond.instanceMethod yX7_readChange ∈ gT := gT_in (List.mem_of_getElem? (i := 890) (by decide +kernel)) rfl
theorem w_891 : Cond.code yX7_readChange cX7_readChange 3 (some .boolean) ∈ gT := gT_in (List.mem_of_getElem? (i := 891) (by decide +kernel)) rfl
theorem w_892 : Cond.methodLink RX7 103 yX9_takeSigned ∈ gT := gT_in (List.mem_of_getElem? (i := 892) (by decide +kernel)) rfl
theorem w_893 : Cond.methodLink RX7 76 yX7_readTest ∈ gT := gT_in (List.mem_of_getElem? (i := 893) (by decide +kernel)) rfl
theorem w_895 : Cond.instanceMethod yX7_readTest ∈ gT := gT_in (List.mem_of_getElem? (i := 895) (by decide +kernel)) rfl
theorem w_896 : Cond.code yX7_readTest cX7_readTest 4 (some .boolean) ∈ gT := gT_in (List.mem_of_getElem? (i := 896) (by decide +kernel)) rfl
theorem w_898 : Cond.methodLink RX7 108 yX7_testTold ∈ gT := gT_in (List.mem_of_getElem? (i := 898) (by decide +kernel)) rfl
theorem w_899 : Cond.static yX7_testTold ∈ gT := gT_in (List.mem_of_getElem? (i := 899) (by decide +kernel)) rfl
theorem w_900 : Cond.code yX7_testTold cX7_testTold 1 (some .int) ∈ gT := gT_in (List.mem_of_getElem? (i := 900) (by decide +kernel)) rfl
theorem w_905 : Cond.methodLink RL 102 yL_performed ∈ gT := gT_in (List.mem_of_getElem? (i := 905) (by decide +kernel)) rfl
theorem w_906 : Cond.static yL_performed ∈ gT := gT_in (List.mem_of_getElem? (i := 906) (by decide +kernel)) rfl
theorem w_908 : Cond.classLink RL 21 "java/util/NoSuchElementException" ∈ gT := gT_in (List.mem_of_getElem? (i := 908) (by decide +kernel)) rfl
theorem w_909 : Cond.methodLink RL 18 yX10_performed ∈ gT := gT_in (List.mem_of_getElem? (i := 909) (by decide +kernel)) rfl
theorem w_910 : Cond.instanceMethod yX10_performed ∈ gT := gT_in (List.mem_of_getElem? (i := 910) (by decide +kernel)) rfl
theorem w_911 : Cond.selects RX10 yX10_performed yX10_performed ∈ gT := gT_in (List.mem_of_getElem? (i := 911) (by decide +kernel)) rfl
theorem w_912 : Cond.code yX10_performed cX10_performed 2 (some .int) ∈ gT := gT_in (List.mem_of_getElem? (i := 912) (by decide +kernel)) rfl
theorem w_913 : Cond.methodLink RX10 140 yX10_needWhat ∈ gT := gT_in (List.mem_of_getElem? (i := 913) (by decide +kernel)) rfl
theorem w_914 : Cond.static yX10_needWhat ∈ gT := gT_in (List.mem_of_getElem? (i := 914) (by decide +kernel)) rfl
theorem w_915 : Cond.code yX10_needWhat cX10_needWhat 2 none ∈ gT := gT_in (List.mem_of_getElem? (i := 915) (by decide +kernel)) rfl
theorem w_916 : Cond.classLink RX10 342 "java/util/NoSuchElementException" ∈ gT := gT_in (List.mem_of_getElem? (i := 916) (by decide +kernel)) rfl
theorem w_917 : Cond.instantiable "java/util/NoSuchElementException" 6 ∈ gT := gT_in (List.mem_of_getElem? (i := 917) (by decide +kernel)) rfl
theorem w_919 : Cond.selects "java/util/NoSuchElementException" ⟨"java/lang/Throwable", "fillInStackTrace", "(I)Ljava/lang/Throwable;"⟩ ⟨"java/lang/Throwable", "fillInStackTrace", "(I)Ljava/lang/Throwable;"⟩ ∈ gT := gT_in (List.mem_of_getElem? (i := 919) (by decide +kernel)) rfl
theorem w_926 : Cond.methodLink RX10 346 ⟨"java/util/NoSuchElementException", "<init>", "(Ljava/lang/String;)V"⟩ ∈ gT := gT_in (List.mem_of_getElem? (i := 926) (by decide +kernel)) rfl
theorem w_927 : Cond.instanceMethod ⟨"java/util/NoSuchElementException", "<init>", "(Ljava/lang/String;)V"⟩ ∈ gT := gT_in (List.mem_of_getElem? (i := 927) (by decide +kernel)) rfl
theorem w_928 : Cond.code ⟨"java/util/NoSuchElementException", "<init>", "(Ljava/lang/String;)V"⟩ prog_29_method_4_code 2 none ∈ gT := gT_in (List.mem_of_getElem? (i := 928) (by decide +kernel)) rfl
theorem w_929 : Cond.methodLink "java/util/NoSuchElementException" 13 ⟨"java/lang/RuntimeException", "<init>", "(Ljava/lang/String;)V"⟩ ∈ gT := gT_in (List.mem_of_getElem? (i := 929) (by decide +kernel)) rfl
theorem w_932 : Cond.methodLink RX10 144 yX6_play ∈ gT := gT_in (List.mem_of_getElem? (i := 932) (by decide +kernel)) rfl
theorem w_933 : Cond.instanceMethod yX6_play ∈ gT := gT_in (List.mem_of_getElem? (i := 933) (by decide +kernel)) rfl
theorem w_934 : Cond.selects RX6 yX6_play yX6_play ∈ gT := gT_in (List.mem_of_getElem? (i := 934) (by decide +kernel)) rfl
theorem w_935 : Cond.code yX6_play cX6_play 7 none ∈ gT := gT_in (List.mem_of_getElem? (i := 935) (by decide +kernel)) rfl
theorem w_936 : Cond.methodLink RX6 31 yX2_copy ∈ gT := gT_in (List.mem_of_getElem? (i := 936) (by decide +kernel)) rfl
theorem w_937 : Cond.methodLink RX6 35 yJ7_fill_53178 ∈ gT := gT_in (List.mem_of_getElem? (i := 937) (by decide +kernel)) rfl
theorem w_938 : Cond.constant RX6 57 (1000000) ∈ gT := gT_in (List.mem_of_getElem? (i := 938) (by decide +kernel)) rfl
theorem w_939 : Cond.methodLink RX6 64 yX6_goesAside ∈ gT := gT_in (List.mem_of_getElem? (i := 939) (by decide +kernel)) rfl
theorem w_941 : Cond.instanceMethod yX6_goesAside ∈ gT := gT_in (List.mem_of_getElem? (i := 941) (by decide +kernel)) rfl
theorem w_942 : Cond.code yX6_goesAside cX6_goesAside 4 (some .boolean) ∈ gT := gT_in (List.mem_of_getElem? (i := 942) (by decide +kernel)) rfl
theorem w_943 : Cond.methodLink RX6 74 yX6_draw ∈ gT := gT_in (List.mem_of_getElem? (i := 943) (by decide +kernel)) rfl
theorem w_945 : Cond.instanceMethod yX6_draw ∈ gT := gT_in (List.mem_of_getElem? (i := 945) (by decide +kernel)) rfl
