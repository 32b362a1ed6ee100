theorem w_346 : Cond.methodLink "OutOrderLaw" 13 ⟨"OutOrder", "table", "(II)I"⟩ ∈ jtbl := jtbl_in 346 (by decide +kernel) (by decide +kernel)
theorem w_347 : Cond.instanceMethod ⟨"OutOrder", "table", "(II)I"⟩ ∈ jtbl := jtbl_in 347 (by decide +kernel) (by decide +kernel)
theorem w_348 : Cond.selects "OutOrder" ⟨"OutOrder", "table", "(II)I"⟩ ⟨"OutOrder", "table", "(II)I"⟩ ∈ jtbl := jtbl_in 348 (by decide +kernel) (by decide +kernel)
theorem w_349 : Cond.code ⟨"OutOrder", "table", "(II)I"⟩ prog_1_method_2_code 3 (Option.some Jvm.ClassFile.FieldType.int) ∈ jtbl := jtbl_in 349 (by decide +kernel) (by decide +kernel)
theorem w_357 : Cond.methodLink "OutOrderLaw" 18 ⟨"OutOrder", "put", "(III)I"⟩ ∈ jtbl := jtbl_in 357 (by decide +kernel) (by decide +kernel)
theorem w_358 : Cond.instanceMethod ⟨"OutOrder", "put", "(III)I"⟩ ∈ jtbl := jtbl_in 358 (by decide +kernel) (by decide +kernel)
theorem w_359 : Cond.selects "OutOrder" ⟨"OutOrder", "put", "(III)I"⟩ ⟨"OutOrder", "put", "(III)I"⟩ ∈ jtbl := jtbl_in 359 (by decide +kernel) (by decide +kernel)
theorem w_360 : Cond.code ⟨"OutOrder", "put", "(III)I"⟩ prog_1_method_3_code 5 (Option.some Jvm.ClassFile.FieldType.int) ∈ jtbl := jtbl_in 360 (by decide +kernel) (by decide +kernel)
theorem w_376 : Cond.methodLink "OutOrderLaw" 23 ⟨"OutOrder", "number", "(II)I"⟩ ∈ jtbl := jtbl_in 376 (by decide +kernel) (by decide +kernel)
theorem w_377 : Cond.instanceMethod ⟨"OutOrder", "number", "(II)I"⟩ ∈ jtbl := jtbl_in 377 (by decide +kernel) (by decide +kernel)
theorem w_378 : Cond.selects "OutOrder" ⟨"OutOrder", "number", "(II)I"⟩ ⟨"OutOrder", "number", "(II)I"⟩ ∈ jtbl := jtbl_in 378 (by decide +kernel) (by decide +kernel)
theorem w_379 : Cond.code ⟨"OutOrder", "number", "(II)I"⟩ prog_1_method_4_code 3 (Option.some Jvm.ClassFile.FieldType.int) ∈ jtbl := jtbl_in 379 (by decide +kernel) (by decide +kernel)
theorem w_380 : Cond.methodLink "OutOrderLaw" 27 ⟨"OutOrder", "hold", "(IZ)Z"⟩ ∈ jtbl := jtbl_in 380 (by decide +kernel) (by decide +kernel)
theorem w_381 : Cond.instanceMethod ⟨"OutOrder", "hold", "(IZ)Z"⟩ ∈ jtbl := jtbl_in 381 (by decide +kernel) (by decide +kernel)
theorem w_382 : Cond.selects "OutOrder" ⟨"OutOrder", "hold", "(IZ)Z"⟩ ⟨"OutOrder", "hold", "(IZ)Z"⟩ ∈ jtbl := jtbl_in 382 (by decide +kernel) (by decide +kernel)
theorem w_383 : Cond.code ⟨"OutOrder", "hold", "(IZ)Z"⟩ prog_1_method_5_code 3 (Option.some Jvm.ClassFile.FieldType.boolean) ∈ jtbl := jtbl_in 383 (by decide +kernel) (by decide +kernel)
theorem w_388 : Cond.methodLink "OutOrderLaw" 32 ⟨"OutOrder", "order", "(I)I"⟩ ∈ jtbl := jtbl_in 388 (by decide +kernel) (by decide +kernel)
theorem w_389 : Cond.instanceMethod ⟨"OutOrder", "order", "(I)I"⟩ ∈ jtbl := jtbl_in 389 (by decide +kernel) (by decide +kernel)
theorem w_390 : Cond.selects "OutOrder" ⟨"OutOrder", "order", "(I)I"⟩ ⟨"OutOrder", "order", "(I)I"⟩ ∈ jtbl := jtbl_in 390 (by decide +kernel) (by decide +kernel)
theorem w_391 : Cond.code ⟨"OutOrder", "order", "(I)I"⟩ prog_1_method_6_code 4 (Option.some Jvm.ClassFile.FieldType.int) ∈ jtbl := jtbl_in 391 (by decide +kernel) (by decide +kernel)
theorem w_524 : Cond.methodLink "OutOrderLaw" 37 ⟨"OutOrder", "swap", "(II)I"⟩ ∈ jtbl := jtbl_in 524 (by decide +kernel) (by decide +kernel)
theorem w_525 : Cond.instanceMethod ⟨"OutOrder", "swap", "(II)I"⟩ ∈ jtbl := jtbl_in 525 (by decide +kernel) (by decide +kernel)
theorem w_526 : Cond.selects "OutOrder" ⟨"OutOrder", "swap", "(II)I"⟩ ⟨"OutOrder", "swap", "(II)I"⟩ ∈ jtbl := jtbl_in 526 (by decide +kernel) (by decide +kernel)
theorem w_527 : Cond.code ⟨"OutOrder", "swap", "(II)I"⟩ prog_1_method_7_code 3 (Option.some Jvm.ClassFile.FieldType.int) ∈ jtbl := jtbl_in 527 (by decide +kernel) (by decide +kernel)
theorem w_529 : Cond.methodLink "OutOrderLaw" 41 ⟨"OutOrder", "at", "(I)I"⟩ ∈ jtbl := jtbl_in 529 (by decide +kernel) (by decide +kernel)
theorem w_530 : Cond.instanceMethod ⟨"OutOrder", "at", "(I)I"⟩ ∈ jtbl := jtbl_in 530 (by decide +kernel) (by decide +kernel)
theorem w_531 : Cond.selects "OutOrder" ⟨"OutOrder", "at", "(I)I"⟩ ⟨"OutOrder", "at", "(I)I"⟩ ∈ jtbl := jtbl_in 531 (by decide +kernel) (by decide +kernel)
theorem w_532 : Cond.code ⟨"OutOrder", "at", "(I)I"⟩ prog_1_method_8_code 2 (Option.some Jvm.ClassFile.FieldType.int) ∈ jtbl := jtbl_in 532 (by decide +kernel) (by decide +kernel)
theorem w_533 : Cond.methodLink "OutOrderLaw" 45 ⟨"OutOrder", "fills", "()I"⟩ ∈ jtbl := jtbl_in 533 (by decide +kernel) (by decide +kernel)
theorem w_534 : Cond.instanceMethod ⟨"OutOrder", "fills", "()I"⟩ ∈ jtbl := jtbl_in 534 (by decide +kernel) (by decide +kernel)
theorem w_535 : Cond.selects "OutOrder" ⟨"OutOrder", "fills", "()I"⟩ ⟨"OutOrder", "fills", "()I"⟩ ∈ jtbl := jtbl_in 535 (by decide +kernel) (by decide +kernel)
theorem w_536 : Cond.code ⟨"OutOrder", "fills", "()I"⟩ prog_1_method_9_code 1 (Option.some Jvm.ClassFile.FieldType.int) ∈ jtbl := jtbl_in 536 (by decide +kernel) (by decide +kernel)
theorem w_537 : Cond.methodLink "OutOrderLaw" 50 ⟨"OutOrder", "fill", "(I)I"⟩ ∈ jtbl := jtbl_in 537 (by decide +kernel) (by decide +kernel)
theorem w_538 : Cond.instanceMethod ⟨"OutOrder", "fill", "(I)I"⟩ ∈ jtbl := jtbl_in 538 (by decide +kernel) (by decide +kernel)
theorem w_539 : Cond.selects "OutOrder" ⟨"OutOrder", "fill", "(I)I"⟩ ⟨"OutOrder", "fill", "(I)I"⟩ ∈ jtbl := jtbl_in 539 (by decide +kernel) (by decide +kernel)
theorem w_540 : Cond.code ⟨"OutOrder", "fill", "(I)I"⟩ prog_1_method_10_code 3 (Option.some Jvm.ClassFile.FieldType.int) ∈ jtbl := jtbl_in 540 (by decide +kernel) (by decide +kernel)
theorem w_541 : Cond.methodLink "OutOrderLaw" 54 ⟨"OutOrder", "column", "(II)I"⟩ ∈ jtbl := jtbl_in 541 (by decide +kernel) (by decide +kernel)
theorem w_542 : Cond.instanceMethod ⟨"OutOrder", "column", "(II)I"⟩ ∈ jtbl := jtbl_in 542 (by decide +kernel) (by decide +kernel)
theorem w_543 : Cond.selects "OutOrder" ⟨"OutOrder", "column", "(II)I"⟩ ⟨"OutOrder", "column", "(II)I"⟩ ∈ jtbl := jtbl_in 543 (by decide +kernel) (by decide +kernel)
theorem w_544 : Cond.code ⟨"OutOrder", "column", "(II)I"⟩ prog_1_method_11_code 4 (Option.some Jvm.ClassFile.FieldType.int) ∈ jtbl := jtbl_in 544 (by decide +kernel) (by decide +kernel)
theorem w_546 : Cond.methodLink "OutOrderLaw" 58 ⟨"OutOrder", "width", "()I"⟩ ∈ jtbl := jtbl_in 546 (by decide +kernel) (by decide +kernel)
theorem w_547 : Cond.instanceMethod ⟨"OutOrder", "width", "()I"⟩ ∈ jtbl := jtbl_in 547 (by decide +kernel) (by decide +kernel)
theorem w_548 : Cond.selects "OutOrder" ⟨"OutOrder", "width", "()I"⟩ ⟨"OutOrder", "width", "()I"⟩ ∈ jtbl := jtbl_in 548 (by decide +kernel) (by decide +kernel)
theorem w_549 : Cond.code ⟨"OutOrder", "width", "()I"⟩ prog_1_method_12_code 1 (Option.some Jvm.ClassFile.FieldType.int) ∈ jtbl := jtbl_in 549 (by decide +kernel) (by decide +kernel)
theorem w_550 : Cond.methodLink "OutOrderLaw" 62 ⟨"OutOrder", "group", "(I)I"⟩ ∈ jtbl := jtbl_in 550 (by decide +kernel) (by decide +kernel)
theorem w_551 : Cond.instanceMethod ⟨"OutOrder", "group", "(I)I"⟩ ∈ jtbl := jtbl_in 551 (by decide +kernel) (by decide +kernel)
theorem w_552 : Cond.selects "OutOrder" ⟨"OutOrder", "group", "(I)I"⟩ ⟨"OutOrder", "group", "(I)I"⟩ ∈ jtbl := jtbl_in 552 (by decide +kernel) (by decide +kernel)
theorem w_553 : Cond.code ⟨"OutOrder", "group", "(I)I"⟩ prog_1_method_13_code 3 (Option.some Jvm.ClassFile.FieldType.int) ∈ jtbl := jtbl_in 553 (by decide +kernel) (by decide +kernel)
theorem w_554 : Cond.methodLink "OutOrderLaw" 66 ⟨"OutOrder", "isClean", "()Z"⟩ ∈ jtbl := jtbl_in 554 (by decide +kernel) (by decide +kernel)
theorem w_555 : Cond.instanceMethod ⟨"OutOrder", "isClean", "()Z"⟩ ∈ jtbl := jtbl_in 555 (by decide +kernel) (by decide +kernel)
theorem w_556 : Cond.selects "OutOrder" ⟨"OutOrder", "isClean", "()Z"⟩ ⟨"OutOrder", "isClean", "()Z"⟩ ∈ jtbl := jtbl_in 556 (by decide +kernel) (by decide +kernel)
theorem w_557 : Cond.code ⟨"OutOrder", "isClean", "()Z"⟩ prog_1_method_14_code 1 (Option.some Jvm.ClassFile.FieldType.boolean) ∈ jtbl := jtbl_in 557 (by decide +kernel) (by decide +kernel)
theorem w_567 : Cond.methodLink "OutOrderLaw" 71 ⟨"OutOrder", "ring", "()I"⟩ ∈ jtbl := jtbl_in 567 (by decide +kernel) (by decide +kernel)
theorem w_568 : Cond.instanceMethod ⟨"OutOrder", "ring", "()I"⟩ ∈ jtbl := jtbl_in 568 (by decide +kernel) (by decide +kernel)
theorem w_569 : Cond.selects "OutOrder" ⟨"OutOrder", "ring", "()I"⟩ ⟨"OutOrder", "ring", "()I"⟩ ∈ jtbl := jtbl_in 569 (by decide +kernel) (by decide +kernel)
theorem w_570 : Cond.code ⟨"OutOrder", "ring", "()I"⟩ prog_1_method_15_code 1 (Option.some Jvm.ClassFile.FieldType.int) ∈ jtbl := jtbl_in 570 (by decide +kernel) (by decide +kernel)
theorem w_571 : Cond.methodLink "OutOrderLaw" 75 ⟨"OutOrder", "least", "(I)I"⟩ ∈ jtbl := jtbl_in 571 (by decide +kernel) (by decide +kernel)
theorem w_572 : Cond.instanceMethod ⟨"OutOrder", "least", "(I)I"⟩ ∈ jtbl := jtbl_in 572 (by decide +kernel) (by decide +kernel)
theorem w_573 : Cond.selects "OutOrder" ⟨"OutOrder", "least", "(I)I"⟩ ⟨"OutOrder", "least", "(I)I"⟩ ∈ jtbl := jtbl_in 573 (by decide +kernel) (by decide +kernel)
theorem w_574 : Cond.code ⟨"OutOrder", "least", "(I)I"⟩ prog_1_method_16_code 3 (Option.some Jvm.ClassFile.FieldType.int) ∈ jtbl := jtbl_in 574 (by decide +kernel) (by decide +kernel)
theorem w_580 : Cond.methodLink "OutOrderLaw" 79 ⟨"OutOrder", "begin", "()I"⟩ ∈ jtbl := jtbl_in 580 (by decide +kernel) (by decide +kernel)
theorem w_581 : Cond.instanceMethod ⟨"OutOrder", "begin", "()I"⟩ ∈ jtbl := jtbl_in 581 (by decide +kernel) (by decide +kernel)
theorem w_582 : Cond.selects "OutOrder" ⟨"OutOrder", "begin", "()I"⟩ ⟨"OutOrder", "begin", "()I"⟩ ∈ jtbl := jtbl_in 582 (by decide +kernel) (by decide +kernel)
theorem w_583 : Cond.code ⟨"OutOrder", "begin", "()I"⟩ prog_1_method_17_code 1 (Option.some Jvm.ClassFile.FieldType.int) ∈ jtbl := jtbl_in 583 (by decide +kernel) (by decide +kernel)
theorem w_584 : Cond.methodLink "OutOrderLaw" 83 ⟨"OutOrder", "out", "(I)I"⟩ ∈ jtbl := jtbl_in 584 (by decide +kernel) (by decide +kernel)
theorem w_585 : Cond.instanceMethod ⟨"OutOrder", "out", "(I)I"⟩ ∈ jtbl := jtbl_in 585 (by decide +kernel) (by decide +kernel)
theorem w_586 : Cond.selects "OutOrder" ⟨"OutOrder", "out", "(I)I"⟩ ⟨"OutOrder", "out", "(I)I"⟩ ∈ jtbl := jtbl_in 586 (by decide +kernel) (by decide +kernel)
theorem w_587 : Cond.code ⟨"OutOrder", "out", "(I)I"⟩ prog_1_method_18_code 3 (Option.some Jvm.ClassFile.FieldType.int) ∈ jtbl := jtbl_in 587 (by decide +kernel) (by decide +kernel)
theorem w_595 : Cond.methodLink "OutOrderLaw" 87 ⟨"OutOrder", "going", "(II)I"⟩ ∈ jtbl := jtbl_in 595 (by decide +kernel) (by decide +kernel)
theorem w_596 : Cond.instanceMethod ⟨"OutOrder", "going", "(II)I"⟩ ∈ jtbl := jtbl_in 596 (by decide +kernel) (by decide +kernel)
theorem w_597 : Cond.selects "OutOrder" ⟨"OutOrder", "going", "(II)I"⟩ ⟨"OutOrder", "going", "(II)I"⟩ ∈ jtbl := jtbl_in 597 (by decide +kernel) (by decide +kernel)
theorem w_598 : Cond.code ⟨"OutOrder", "going", "(II)I"⟩ prog_1_method_19_code 3 (Option.some Jvm.ClassFile.FieldType.int) ∈ jtbl := jtbl_in 598 (by decide +kernel) (by decide +kernel)
theorem w_608 : Cond.methodLink "OutOrderLaw" 91 ⟨"OutOrder", "back", "()I"⟩ ∈ jtbl := jtbl_in 608 (by decide +kernel) (by decide +kernel)
theorem w_609 : Cond.instanceMethod ⟨"OutOrder", "back", "()I"⟩ ∈ jtbl := jtbl_in 609 (by decide +kernel) (by decide +kernel)
theorem w_610 : Cond.selects "OutOrder" ⟨"OutOrder", "back", "()I"⟩ ⟨"OutOrder", "back", "()I"⟩ ∈ jtbl := jtbl_in 610 (by decide +kernel) (by decide +kernel)
theorem w_611 : Cond.code ⟨"OutOrder", "back", "()I"⟩ prog_1_method_20_code 1 (Option.some Jvm.ClassFile.FieldType.int) ∈ jtbl := jtbl_in 611 (by decide +kernel) (by decide +kernel)
theorem w_616 : Cond.methodLink "OutOrderLaw" 95 ⟨"OutOrder", "work", "()I"⟩ ∈ jtbl := jtbl_in 616 (by decide +kernel) (by decide +kernel)
theorem w_617 : Cond.instanceMethod ⟨"OutOrder", "work", "()I"⟩ ∈ jtbl := jtbl_in 617 (by decide +kernel) (by decide +kernel)
theorem w_618 : Cond.selects "OutOrder" ⟨"OutOrder", "work", "()I"⟩ ⟨"OutOrder", "work", "()I"⟩ ∈ jtbl := jtbl_in 618 (by decide +kernel) (by decide +kernel)
theorem w_619 : Cond.code ⟨"OutOrder", "work", "()I"⟩ prog_1_method_21_code 1 (Option.some Jvm.ClassFile.FieldType.int) ∈ jtbl := jtbl_in 619 (by decide +kernel) (by decide +kernel)
theorem w_648 : Cond.methodLink "OutOrderLaw" 99 ⟨"OutOrder", "pivot", "(I)I"⟩ ∈ jtbl := jtbl_in 648 (by decide +kernel) (by decide +kernel)
theorem w_649 : Cond.instanceMethod ⟨"OutOrder", "pivot", "(I)I"⟩ ∈ jtbl := jtbl_in 649 (by decide +kernel) (by decide +kernel)
theorem w_650 : Cond.selects "OutOrder" ⟨"OutOrder", "pivot", "(I)I"⟩ ⟨"OutOrder", "pivot", "(I)I"⟩ ∈ jtbl := jtbl_in 650 (by decide +kernel) (by decide +kernel)
theorem w_651 : Cond.code ⟨"OutOrder", "pivot", "(I)I"⟩ prog_1_method_22_code 3 (Option.some Jvm.ClassFile.FieldType.int) ∈ jtbl := jtbl_in 651 (by decide +kernel) (by decide +kernel)
theorem w_652 : Cond.methodLink "OutOrderLaw" 103 ⟨"OutOrder", "one", "(II)I"⟩ ∈ jtbl := jtbl_in 652 (by decide +kernel) (by decide +kernel)
theorem w_653 : Cond.instanceMethod ⟨"OutOrder", "one", "(II)I"⟩ ∈ jtbl := jtbl_in 653 (by decide +kernel) (by decide +kernel)
theorem w_654 : Cond.selects "OutOrder" ⟨"OutOrder", "one", "(II)I"⟩ ⟨"OutOrder", "one", "(II)I"⟩ ∈ jtbl := jtbl_in 654 (by decide +kernel) (by decide +kernel)
theorem w_655 : Cond.code ⟨"OutOrder", "one", "(II)I"⟩ prog_1_method_23_code 3 (Option.some Jvm.ClassFile.FieldType.int) ∈ jtbl := jtbl_in 655 (by decide +kernel) (by decide +kernel)
theorem w_660 : Cond.methodLink "OutOrderLaw" 107 ⟨"OutOrder", "worth", "()I"⟩ ∈ jtbl := jtbl_in 660 (by decide +kernel) (by decide +kernel)
theorem w_661 : Cond.instanceMethod ⟨"OutOrder", "worth", "()I"⟩ ∈ jtbl := jtbl_in 661 (by decide +kernel) (by decide +kernel)
theorem w_662 : Cond.selects "OutOrder" ⟨"OutOrder", "worth", "()I"⟩ ⟨"OutOrder", "worth", "()I"⟩ ∈ jtbl := jtbl_in 662 (by decide +kernel) (by decide +kernel)
theorem w_663 : Cond.code ⟨"OutOrder", "worth", "()I"⟩ prog_1_method_24_code 1 (Option.some Jvm.ClassFile.FieldType.int) ∈ jtbl := jtbl_in 663 (by decide +kernel) (by decide +kernel)
theorem w_668 : Cond.methodLink "OutOrderLaw" 111 ⟨"OutOrder", "side", "(II)I"⟩ ∈ jtbl := jtbl_in 668 (by decide +kernel) (by decide +kernel)
theorem w_669 : Cond.instanceMethod ⟨"OutOrder", "side", "(II)I"⟩ ∈ jtbl := jtbl_in 669 (by decide +kernel) (by decide +kernel)
theorem w_670 : Cond.selects "OutOrder" ⟨"OutOrder", "side", "(II)I"⟩ ⟨"OutOrder", "side", "(II)I"⟩ ∈ jtbl := jtbl_in 670 (by decide +kernel) (by decide +kernel)
theorem w_671 : Cond.code ⟨"OutOrder", "side", "(II)I"⟩ prog_1_method_25_code 4 (Option.some Jvm.ClassFile.FieldType.int) ∈ jtbl := jtbl_in 671 (by decide +kernel) (by decide +kernel)
theorem w_673 : Cond.methodLink "OutOrderLaw" 115 ⟨"OutOrder", "solve", "(I)I"⟩ ∈ jtbl := jtbl_in 673 (by decide +kernel) (by decide +kernel)
theorem w_674 : Cond.instanceMethod ⟨"OutOrder", "solve", "(I)I"⟩ ∈ jtbl := jtbl_in 674 (by decide +kernel) (by decide +kernel)
theorem w_675 : Cond.selects "OutOrder" ⟨"OutOrder", "solve", "(I)I"⟩ ⟨"OutOrder", "solve", "(I)I"⟩ ∈ jtbl := jtbl_in 675 (by decide +kernel) (by decide +kernel)
theorem w_676 : Cond.code ⟨"OutOrder", "solve", "(I)I"⟩ prog_1_method_26_code 2 (Option.some Jvm.ClassFile.FieldType.int) ∈ jtbl := jtbl_in 676 (by decide +kernel) (by decide +kernel)
theorem w_689 : Cond.methodLink "OutOrderLaw" 119 ⟨"OutOrder", "inside", "(II)I"⟩ ∈ jtbl := jtbl_in 689 (by decide +kernel) (by decide +kernel)
theorem w_690 : Cond.instanceMethod ⟨"OutOrder", "inside", "(II)I"⟩ ∈ jtbl := jtbl_in 690 (by decide +kernel) (by decide +kernel)
theorem w_691 : Cond.selects "OutOrder" ⟨"OutOrder", "inside", "(II)I"⟩ ⟨"OutOrder", "inside", "(II)I"⟩ ∈ jtbl := jtbl_in 691 (by decide +kernel) (by decide +kernel)
theorem w_692 : Cond.code ⟨"OutOrder", "inside", "(II)I"⟩ prog_1_method_27_code 3 (Option.some Jvm.ClassFile.FieldType.int) ∈ jtbl := jtbl_in 692 (by decide +kernel) (by decide +kernel)
theorem w_697 : Cond.methodLink "OutOrderLaw" 123 ⟨"OutOrder", "plan", "(I)I"⟩ ∈ jtbl := jtbl_in 697 (by decide +kernel) (by decide +kernel)
theorem w_698 : Cond.instanceMethod ⟨"OutOrder", "plan", "(I)I"⟩ ∈ jtbl := jtbl_in 698 (by decide +kernel) (by decide +kernel)
theorem w_699 : Cond.selects "OutOrder" ⟨"OutOrder", "plan", "(I)I"⟩ ⟨"OutOrder", "plan", "(I)I"⟩ ∈ jtbl := jtbl_in 699 (by decide +kernel) (by decide +kernel)
theorem w_700 : Cond.code ⟨"OutOrder", "plan", "(I)I"⟩ prog_1_method_28_code 2 (Option.some Jvm.ClassFile.FieldType.int) ∈ jtbl := jtbl_in 700 (by decide +kernel) (by decide +kernel)
theorem w_711 : Cond.methodLink "OutOrderLaw" 127 ⟨"OutOrder", "round", "(II)I"⟩ ∈ jtbl := jtbl_in 711 (by decide +kernel) (by decide +kernel)
theorem w_712 : Cond.instanceMethod ⟨"OutOrder", "round", "(II)I"⟩ ∈ jtbl := jtbl_in 712 (by decide +kernel) (by decide +kernel)
theorem w_713 : Cond.selects "OutOrder" ⟨"OutOrder", "round", "(II)I"⟩ ⟨"OutOrder", "round", "(II)I"⟩ ∈ jtbl := jtbl_in 713 (by decide +kernel) (by decide +kernel)
theorem w_714 : Cond.code ⟨"OutOrder", "round", "(II)I"⟩ prog_1_method_29_code 3 (Option.some Jvm.ClassFile.FieldType.int) ∈ jtbl := jtbl_in 714 (by decide +kernel) (by decide +kernel)
theorem w_715 : Cond.methodLink "OutOrderLaw" 131 ⟨"OutOrder", "status", "(I)I"⟩ ∈ jtbl := jtbl_in 715 (by decide +kernel) (by decide +kernel)
theorem w_716 : Cond.instanceMethod ⟨"OutOrder", "status", "(I)I"⟩ ∈ jtbl := jtbl_in 716 (by decide +kernel) (by decide +kernel)
theorem w_717 : Cond.selects "OutOrder" ⟨"OutOrder", "status", "(I)I"⟩ ⟨"OutOrder", "status", "(I)I"⟩ ∈ jtbl := jtbl_in 717 (by decide +kernel) (by decide +kernel)
theorem w_718 : Cond.code ⟨"OutOrder", "status", "(I)I"⟩ prog_1_method_30_code 2 (Option.some Jvm.ClassFile.FieldType.int) ∈ jtbl := jtbl_in 718 (by decide +kernel) (by decide +kernel)
theorem w_803 : Cond.methodLink "OutOrderLaw" 17 ⟨"OutOrderModel", "table", "(II)I"⟩ ∈ jtbl := jtbl_in 803 (by decide +kernel) (by decide +kernel)
theorem w_804 : Cond.instanceMethod ⟨"OutOrderModel", "table", "(II)I"⟩ ∈ jtbl := jtbl_in 804 (by decide +kernel) (by decide +kernel)
theorem w_805 : Cond.selects "OutOrderModel" ⟨"OutOrderModel", "table", "(II)I"⟩ ⟨"OutOrderModel", "table", "(II)I"⟩ ∈ jtbl := jtbl_in 805 (by decide +kernel) (by decide +kernel)
theorem w_806 : Cond.code ⟨"OutOrderModel", "table", "(II)I"⟩ prog_14_method_8_code 4 (Option.some Jvm.ClassFile.FieldType.int) ∈ jtbl := jtbl_in 806 (by decide +kernel) (by decide +kernel)
theorem w_823 : Cond.methodLink "OutOrderLaw" 22 ⟨"OutOrderModel", "put", "(III)I"⟩ ∈ jtbl := jtbl_in 823 (by decide +kernel) (by decide +kernel)
theorem w_824 : Cond.instanceMethod ⟨"OutOrderModel", "put", "(III)I"⟩ ∈ jtbl := jtbl_in 824 (by decide +kernel) (by decide +kernel)
theorem w_825 : Cond.selects "OutOrderModel" ⟨"OutOrderModel", "put", "(III)I"⟩ ⟨"OutOrderModel", "put", "(III)I"⟩ ∈ jtbl := jtbl_in 825 (by decide +kernel) (by decide +kernel)
theorem w_826 : Cond.code ⟨"OutOrderModel", "put", "(III)I"⟩ prog_14_method_9_code 6 (Option.some Jvm.ClassFile.FieldType.int) ∈ jtbl := jtbl_in 826 (by decide +kernel) (by decide +kernel)
theorem w_838 : Cond.methodLink "OutOrderLaw" 26 ⟨"OutOrderModel", "number", "(II)I"⟩ ∈ jtbl := jtbl_in 838 (by decide +kernel) (by decide +kernel)
theorem w_839 : Cond.instanceMethod ⟨"OutOrderModel", "number", "(II)I"⟩ ∈ jtbl := jtbl_in 839 (by decide +kernel) (by decide +kernel)
theorem w_840 : Cond.selects "OutOrderModel" ⟨"OutOrderModel", "number", "(II)I"⟩ ⟨"OutOrderModel", "number", "(II)I"⟩ ∈ jtbl := jtbl_in 840 (by decide +kernel) (by decide +kernel)
theorem w_841 : Cond.code ⟨"OutOrderModel", "number", "(II)I"⟩ prog_14_method_10_code 3 (Option.some Jvm.ClassFile.FieldType.int) ∈ jtbl := jtbl_in 841 (by decide +kernel) (by decide +kernel)
theorem w_842 : Cond.methodLink "OutOrderLaw" 31 ⟨"OutOrderModel", "hold", "(IZ)Z"⟩ ∈ jtbl := jtbl_in 842 (by decide +kernel) (by decide +kernel)
theorem w_843 : Cond.instanceMethod ⟨"OutOrderModel", "hold", "(IZ)Z"⟩ ∈ jtbl := jtbl_in 843 (by decide +kernel) (by decide +kernel)
theorem w_844 : Cond.selects "OutOrderModel" ⟨"OutOrderModel", "hold", "(IZ)Z"⟩ ⟨"OutOrderModel", "hold", "(IZ)Z"⟩ ∈ jtbl := jtbl_in 844 (by decide +kernel) (by decide +kernel)
theorem w_845 : Cond.code ⟨"OutOrderModel", "hold", "(IZ)Z"⟩ prog_14_method_11_code 3 (Option.some Jvm.ClassFile.FieldType.boolean) ∈ jtbl := jtbl_in 845 (by decide +kernel) (by decide +kernel)
theorem w_846 : Cond.methodLink "OutOrderLaw" 36 ⟨"OutOrderModel", "order", "(I)I"⟩ ∈ jtbl := jtbl_in 846 (by decide +kernel) (by decide +kernel)
theorem w_847 : Cond.instanceMethod ⟨"OutOrderModel", "order", "(I)I"⟩ ∈ jtbl := jtbl_in 847 (by decide +kernel) (by decide +kernel)
theorem w_848 : Cond.selects "OutOrderModel" ⟨"OutOrderModel", "order", "(I)I"⟩ ⟨"OutOrderModel", "order", "(I)I"⟩ ∈ jtbl := jtbl_in 848 (by decide +kernel) (by decide +kernel)
theorem w_849 : Cond.code ⟨"OutOrderModel", "order", "(I)I"⟩ prog_14_method_25_code 4 (Option.some Jvm.ClassFile.FieldType.int) ∈ jtbl := jtbl_in 849 (by decide +kernel) (by decide +kernel)
theorem w_903 : Cond.methodLink "OutOrderLaw" 40 ⟨"OutOrderModel", "swap", "(II)I"⟩ ∈ jtbl := jtbl_in 903 (by decide +kernel) (by decide +kernel)
theorem w_904 : Cond.instanceMethod ⟨"OutOrderModel", "swap", "(II)I"⟩ ∈ jtbl := jtbl_in 904 (by decide +kernel) (by decide +kernel)
theorem w_905 : Cond.selects "OutOrderModel" ⟨"OutOrderModel", "swap", "(II)I"⟩ ⟨"OutOrderModel", "swap", "(II)I"⟩ ∈ jtbl := jtbl_in 905 (by decide +kernel) (by decide +kernel)
theorem w_906 : Cond.code ⟨"OutOrderModel", "swap", "(II)I"⟩ prog_14_method_26_code 4 (Option.some Jvm.ClassFile.FieldType.int) ∈ jtbl := jtbl_in 906 (by decide +kernel) (by decide +kernel)
theorem w_907 : Cond.methodLink "OutOrderLaw" 44 ⟨"OutOrderModel", "at", "(I)I"⟩ ∈ jtbl := jtbl_in 907 (by decide +kernel) (by decide +kernel)
theorem w_908 : Cond.instanceMethod ⟨"OutOrderModel", "at", "(I)I"⟩ ∈ jtbl := jtbl_in 908 (by decide +kernel) (by decide +kernel)
theorem w_909 : Cond.selects "OutOrderModel" ⟨"OutOrderModel", "at", "(I)I"⟩ ⟨"OutOrderModel", "at", "(I)I"⟩ ∈ jtbl := jtbl_in 909 (by decide +kernel) (by decide +kernel)
theorem w_910 : Cond.code ⟨"OutOrderModel", "at", "(I)I"⟩ prog_14_method_27_code 2 (Option.some Jvm.ClassFile.FieldType.int) ∈ jtbl := jtbl_in 910 (by decide +kernel) (by decide +kernel)
theorem w_911 : Cond.methodLink "OutOrderLaw" 49 ⟨"OutOrderModel", "fills", "()I"⟩ ∈ jtbl := jtbl_in 911 (by decide +kernel) (by decide +kernel)
theorem w_912 : Cond.methodLink "OutOrderLaw" 53 ⟨"OutOrderModel", "fill", "(I)I"⟩ ∈ jtbl := jtbl_in 912 (by decide +kernel) (by decide +kernel)
theorem w_913 : Cond.instanceMethod ⟨"OutOrderModel", "fill", "(I)I"⟩ ∈ jtbl := jtbl_in 913 (by decide +kernel) (by decide +kernel)
theorem w_914 : Cond.selects "OutOrderModel" ⟨"OutOrderModel", "fill", "(I)I"⟩ ⟨"OutOrderModel", "fill", "(I)I"⟩ ∈ jtbl := jtbl_in 914 (by decide +kernel) (by decide +kernel)
theorem w_915 : Cond.code ⟨"OutOrderModel", "fill", "(I)I"⟩ prog_14_method_29_code 2 (Option.some Jvm.ClassFile.FieldType.int) ∈ jtbl := jtbl_in 915 (by decide +kernel) (by decide +kernel)
theorem w_916 : Cond.methodLink "OutOrderLaw" 57 ⟨"OutOrderModel", "column", "(II)I"⟩ ∈ jtbl := jtbl_in 916 (by decide +kernel) (by decide +kernel)
theorem w_917 : Cond.instanceMethod ⟨"OutOrderModel", "column", "(II)I"⟩ ∈ jtbl := jtbl_in 917 (by decide +kernel) (by decide +kernel)
theorem w_918 : Cond.selects "OutOrderModel" ⟨"OutOrderModel", "column", "(II)I"⟩ ⟨"OutOrderModel", "column", "(II)I"⟩ ∈ jtbl := jtbl_in 918 (by decide +kernel) (by decide +kernel)
theorem w_919 : Cond.code ⟨"OutOrderModel", "column", "(II)I"⟩ prog_14_method_32_code 5 (Option.some Jvm.ClassFile.FieldType.int) ∈ jtbl := jtbl_in 919 (by decide +kernel) (by decide +kernel)
theorem w_928 : Cond.methodLink "OutOrderLaw" 61 ⟨"OutOrderModel", "width", "()I"⟩ ∈ jtbl := jtbl_in 928 (by decide +kernel) (by decide +kernel)
theorem w_929 : Cond.instanceMethod ⟨"OutOrderModel", "width", "()I"⟩ ∈ jtbl := jtbl_in 929 (by decide +kernel) (by decide +kernel)
theorem w_930 : Cond.selects "OutOrderModel" ⟨"OutOrderModel", "width", "()I"⟩ ⟨"OutOrderModel", "width", "()I"⟩ ∈ jtbl := jtbl_in 930 (by decide +kernel) (by decide +kernel)
theorem w_931 : Cond.code ⟨"OutOrderModel", "width", "()I"⟩ prog_14_method_33_code 3 (Option.some Jvm.ClassFile.FieldType.int) ∈ jtbl := jtbl_in 931 (by decide +kernel) (by decide +kernel)
theorem w_932 : Cond.methodLink "OutOrderLaw" 65 ⟨"OutOrderModel", "group", "(I)I"⟩ ∈ jtbl := jtbl_in 932 (by decide +kernel) (by decide +kernel)
theorem w_933 : Cond.instanceMethod ⟨"OutOrderModel", "group", "(I)I"⟩ ∈ jtbl := jtbl_in 933 (by decide +kernel) (by decide +kernel)
theorem w_934 : Cond.selects "OutOrderModel" ⟨"OutOrderModel", "group", "(I)I"⟩ ⟨"OutOrderModel", "group", "(I)I"⟩ ∈ jtbl := jtbl_in 934 (by decide +kernel) (by decide +kernel)
theorem w_935 : Cond.code ⟨"OutOrderModel", "group", "(I)I"⟩ prog_14_method_34_code 10 (Option.some Jvm.ClassFile.FieldType.int) ∈ jtbl := jtbl_in 935 (by decide +kernel) (by decide +kernel)
theorem w_936 : Cond.methodLink "OutOrderLaw" 70 ⟨"OutOrderModel", "isClean", "()Z"⟩ ∈ jtbl := jtbl_in 936 (by decide +kernel) (by decide +kernel)
theorem w_937 : Cond.instanceMethod ⟨"OutOrderModel", "isClean", "()Z"⟩ ∈ jtbl := jtbl_in 937 (by decide +kernel) (by decide +kernel)
theorem w_938 : Cond.selects "OutOrderModel" ⟨"OutOrderModel", "isClean", "()Z"⟩ ⟨"OutOrderModel", "isClean", "()Z"⟩ ∈ jtbl := jtbl_in 938 (by decide +kernel) (by decide +kernel)
theorem w_939 : Cond.code ⟨"OutOrderModel", "isClean", "()Z"⟩ prog_14_method_35_code 4 (Option.some Jvm.ClassFile.FieldType.boolean) ∈ jtbl := jtbl_in 939 (by decide +kernel) (by decide +kernel)
theorem w_940 : Cond.methodLink "OutOrderLaw" 74 ⟨"OutOrderModel", "ring", "()I"⟩ ∈ jtbl := jtbl_in 940 (by decide +kernel) (by decide +kernel)
theorem w_941 : Cond.instanceMethod ⟨"OutOrderModel", "ring", "()I"⟩ ∈ jtbl := jtbl_in 941 (by decide +kernel) (by decide +kernel)
theorem w_942 : Cond.selects "OutOrderModel" ⟨"OutOrderModel", "ring", "()I"⟩ ⟨"OutOrderModel", "ring", "()I"⟩ ∈ jtbl := jtbl_in 942 (by decide +kernel) (by decide +kernel)
theorem w_943 : Cond.code ⟨"OutOrderModel", "ring", "()I"⟩ prog_14_method_37_code 8 (Option.some Jvm.ClassFile.FieldType.int) ∈ jtbl := jtbl_in 943 (by decide +kernel) (by decide +kernel)
theorem w_948 : Cond.methodLink "OutOrderLaw" 78 ⟨"OutOrderModel", "least", "(I)I"⟩ ∈ jtbl := jtbl_in 948 (by decide +kernel) (by decide +kernel)
theorem w_949 : Cond.instanceMethod ⟨"OutOrderModel", "least", "(I)I"⟩ ∈ jtbl := jtbl_in 949 (by decide +kernel) (by decide +kernel)
theorem w_950 : Cond.selects "OutOrderModel" ⟨"OutOrderModel", "least", "(I)I"⟩ ⟨"OutOrderModel", "least", "(I)I"⟩ ∈ jtbl := jtbl_in 950 (by decide +kernel) (by decide +kernel)
theorem w_951 : Cond.code ⟨"OutOrderModel", "least", "(I)I"⟩ prog_14_method_38_code 2 (Option.some Jvm.ClassFile.FieldType.int) ∈ jtbl := jtbl_in 951 (by decide +kernel) (by decide +kernel)
theorem w_952 : Cond.methodLink "OutOrderLaw" 82 ⟨"OutOrderModel", "begin", "()I"⟩ ∈ jtbl := jtbl_in 952 (by decide +kernel) (by decide +kernel)
theorem w_953 : Cond.methodLink "OutOrderLaw" 86 ⟨"OutOrderModel", "out", "(I)I"⟩ ∈ jtbl := jtbl_in 953 (by decide +kernel) (by decide +kernel)
theorem w_954 : Cond.instanceMethod ⟨"OutOrderModel", "out", "(I)I"⟩ ∈ jtbl := jtbl_in 954 (by decide +kernel) (by decide +kernel)
theorem w_955 : Cond.selects "OutOrderModel" ⟨"OutOrderModel", "out", "(I)I"⟩ ⟨"OutOrderModel", "out", "(I)I"⟩ ∈ jtbl := jtbl_in 955 (by decide +kernel) (by decide +kernel)
theorem w_956 : Cond.code ⟨"OutOrderModel", "out", "(I)I"⟩ prog_14_method_43_code 5 (Option.some Jvm.ClassFile.FieldType.int) ∈ jtbl := jtbl_in 956 (by decide +kernel) (by decide +kernel)
theorem w_969 : Cond.methodLink "OutOrderLaw" 90 ⟨"OutOrderModel", "going", "(II)I"⟩ ∈ jtbl := jtbl_in 969 (by decide +kernel) (by decide +kernel)
theorem w_970 : Cond.instanceMethod ⟨"OutOrderModel", "going", "(II)I"⟩ ∈ jtbl := jtbl_in 970 (by decide +kernel) (by decide +kernel)
theorem w_971 : Cond.selects "OutOrderModel" ⟨"OutOrderModel", "going", "(II)I"⟩ ⟨"OutOrderModel", "going", "(II)I"⟩ ∈ jtbl := jtbl_in 971 (by decide +kernel) (by decide +kernel)
theorem w_972 : Cond.code ⟨"OutOrderModel", "going", "(II)I"⟩ prog_14_method_45_code 5 (Option.some Jvm.ClassFile.FieldType.int) ∈ jtbl := jtbl_in 972 (by decide +kernel) (by decide +kernel)
theorem w_977 : Cond.methodLink "OutOrderLaw" 94 ⟨"OutOrderModel", "back", "()I"⟩ ∈ jtbl := jtbl_in 977 (by decide +kernel) (by decide +kernel)
theorem w_978 : Cond.instanceMethod ⟨"OutOrderModel", "back", "()I"⟩ ∈ jtbl := jtbl_in 978 (by decide +kernel) (by decide +kernel)
theorem w_979 : Cond.selects "OutOrderModel" ⟨"OutOrderModel", "back", "()I"⟩ ⟨"OutOrderModel", "back", "()I"⟩ ∈ jtbl := jtbl_in 979 (by decide +kernel) (by decide +kernel)
theorem w_980 : Cond.code ⟨"OutOrderModel", "back", "()I"⟩ prog_14_method_46_code 2 (Option.some Jvm.ClassFile.FieldType.int) ∈ jtbl := jtbl_in 980 (by decide +kernel) (by decide +kernel)
theorem w_981 : Cond.methodLink "OutOrderLaw" 98 ⟨"OutOrderModel", "work", "()I"⟩ ∈ jtbl := jtbl_in 981 (by decide +kernel) (by decide +kernel)
theorem w_982 : Cond.instanceMethod ⟨"OutOrderModel", "work", "()I"⟩ ∈ jtbl := jtbl_in 982 (by decide +kernel) (by decide +kernel)
theorem w_983 : Cond.selects "OutOrderModel" ⟨"OutOrderModel", "work", "()I"⟩ ⟨"OutOrderModel", "work", "()I"⟩ ∈ jtbl := jtbl_in 983 (by decide +kernel) (by decide +kernel)
theorem w_984 : Cond.code ⟨"OutOrderModel", "work", "()I"⟩ prog_14_method_50_code 7 (Option.some Jvm.ClassFile.FieldType.int) ∈ jtbl := jtbl_in 984 (by decide +kernel) (by decide +kernel)
theorem w_993 : Cond.methodLink "OutOrderLaw" 102 ⟨"OutOrderModel", "pivot", "(I)I"⟩ ∈ jtbl := jtbl_in 993 (by decide +kernel) (by decide +kernel)
theorem w_994 : Cond.instanceMethod ⟨"OutOrderModel", "pivot", "(I)I"⟩ ∈ jtbl := jtbl_in 994 (by decide +kernel) (by decide +kernel)
theorem w_995 : Cond.selects "OutOrderModel" ⟨"OutOrderModel", "pivot", "(I)I"⟩ ⟨"OutOrderModel", "pivot", "(I)I"⟩ ∈ jtbl := jtbl_in 995 (by decide +kernel) (by decide +kernel)
theorem w_996 : Cond.code ⟨"OutOrderModel", "pivot", "(I)I"⟩ prog_14_method_52_code 2 (Option.some Jvm.ClassFile.FieldType.int) ∈ jtbl := jtbl_in 996 (by decide +kernel) (by decide +kernel)
theorem w_1001 : Cond.methodLink "OutOrderLaw" 106 ⟨"OutOrderModel", "one", "(II)I"⟩ ∈ jtbl := jtbl_in 1001 (by decide +kernel) (by decide +kernel)
theorem w_1002 : Cond.instanceMethod ⟨"OutOrderModel", "one", "(II)I"⟩ ∈ jtbl := jtbl_in 1002 (by decide +kernel) (by decide +kernel)
theorem w_1003 : Cond.selects "OutOrderModel" ⟨"OutOrderModel", "one", "(II)I"⟩ ⟨"OutOrderModel", "one", "(II)I"⟩ ∈ jtbl := jtbl_in 1003 (by decide +kernel) (by decide +kernel)
theorem w_1004 : Cond.code ⟨"OutOrderModel", "one", "(II)I"⟩ prog_14_method_53_code 3 (Option.some Jvm.ClassFile.FieldType.int) ∈ jtbl := jtbl_in 1004 (by decide +kernel) (by decide +kernel)
theorem w_1005 : Cond.methodLink "OutOrderLaw" 110 ⟨"OutOrderModel", "worth", "()I"⟩ ∈ jtbl := jtbl_in 1005 (by decide +kernel) (by decide +kernel)
theorem w_1006 : Cond.instanceMethod ⟨"OutOrderModel", "worth", "()I"⟩ ∈ jtbl := jtbl_in 1006 (by decide +kernel) (by decide +kernel)
theorem w_1007 : Cond.selects "OutOrderModel" ⟨"OutOrderModel", "worth", "()I"⟩ ⟨"OutOrderModel", "worth", "()I"⟩ ∈ jtbl := jtbl_in 1007 (by decide +kernel) (by decide +kernel)
theorem w_1008 : Cond.code ⟨"OutOrderModel", "worth", "()I"⟩ prog_14_method_54_code 4 (Option.some Jvm.ClassFile.FieldType.int) ∈ jtbl := jtbl_in 1008 (by decide +kernel) (by decide +kernel)
theorem w_1009 : Cond.methodLink "OutOrderLaw" 114 ⟨"OutOrderModel", "side", "(II)I"⟩ ∈ jtbl := jtbl_in 1009 (by decide +kernel) (by decide +kernel)
theorem w_1010 : Cond.instanceMethod ⟨"OutOrderModel", "side", "(II)I"⟩ ∈ jtbl := jtbl_in 1010 (by decide +kernel) (by decide +kernel)
theorem w_1011 : Cond.selects "OutOrderModel" ⟨"OutOrderModel", "side", "(II)I"⟩ ⟨"OutOrderModel", "side", "(II)I"⟩ ∈ jtbl := jtbl_in 1011 (by decide +kernel) (by decide +kernel)
theorem w_1012 : Cond.code ⟨"OutOrderModel", "side", "(II)I"⟩ prog_14_method_55_code 4 (Option.some Jvm.ClassFile.FieldType.int) ∈ jtbl := jtbl_in 1012 (by decide +kernel) (by decide +kernel)
theorem w_1013 : Cond.methodLink "OutOrderLaw" 118 ⟨"OutOrderModel", "solve", "(I)I"⟩ ∈ jtbl := jtbl_in 1013 (by decide +kernel) (by decide +kernel)
theorem w_1014 : Cond.instanceMethod ⟨"OutOrderModel", "solve", "(I)I"⟩ ∈ jtbl := jtbl_in 1014 (by decide +kernel) (by decide +kernel)
theorem w_1015 : Cond.selects "OutOrderModel" ⟨"OutOrderModel", "solve", "(I)I"⟩ ⟨"OutOrderModel", "solve", "(I)I"⟩ ∈ jtbl := jtbl_in 1015 (by decide +kernel) (by decide +kernel)
theorem w_1016 : Cond.code ⟨"OutOrderModel", "solve", "(I)I"⟩ prog_14_method_58_code 3 (Option.some Jvm.ClassFile.FieldType.int) ∈ jtbl := jtbl_in 1016 (by decide +kernel) (by decide +kernel)
theorem w_1025 : Cond.methodLink "OutOrderLaw" 122 ⟨"OutOrderModel", "inside", "(II)I"⟩ ∈ jtbl := jtbl_in 1025 (by decide +kernel) (by decide +kernel)
theorem w_1026 : Cond.instanceMethod ⟨"OutOrderModel", "inside", "(II)I"⟩ ∈ jtbl := jtbl_in 1026 (by decide +kernel) (by decide +kernel)
theorem w_1027 : Cond.selects "OutOrderModel" ⟨"OutOrderModel", "inside", "(II)I"⟩ ⟨"OutOrderModel", "inside", "(II)I"⟩ ∈ jtbl := jtbl_in 1027 (by decide +kernel) (by decide +kernel)
theorem w_1028 : Cond.code ⟨"OutOrderModel", "inside", "(II)I"⟩ prog_14_method_59_code 4 (Option.some Jvm.ClassFile.FieldType.int) ∈ jtbl := jtbl_in 1028 (by decide +kernel) (by decide +kernel)
theorem w_1029 : Cond.methodLink "OutOrderLaw" 126 ⟨"OutOrderModel", "plan", "(I)I"⟩ ∈ jtbl := jtbl_in 1029 (by decide +kernel) (by decide +kernel)
theorem w_1030 : Cond.instanceMethod ⟨"OutOrderModel", "plan", "(I)I"⟩ ∈ jtbl := jtbl_in 1030 (by decide +kernel) (by decide +kernel)
theorem w_1031 : Cond.selects "OutOrderModel" ⟨"OutOrderModel", "plan", "(I)I"⟩ ⟨"OutOrderModel", "plan", "(I)I"⟩ ∈ jtbl := jtbl_in 1031 (by decide +kernel) (by decide +kernel)
theorem w_1032 : Cond.code ⟨"OutOrderModel", "plan", "(I)I"⟩ prog_14_method_62_code 2 (Option.some Jvm.ClassFile.FieldType.int) ∈ jtbl := jtbl_in 1032 (by decide +kernel) (by decide +kernel)
theorem w_1041 : Cond.methodLink "OutOrderLaw" 130 ⟨"OutOrderModel", "round", "(II)I"⟩ ∈ jtbl := jtbl_in 1041 (by decide +kernel) (by decide +kernel)
theorem w_1042 : Cond.instanceMethod ⟨"OutOrderModel", "round", "(II)I"⟩ ∈ jtbl := jtbl_in 1042 (by decide +kernel) (by decide +kernel)
theorem w_1043 : Cond.selects "OutOrderModel" ⟨"OutOrderModel", "round", "(II)I"⟩ ⟨"OutOrderModel", "round", "(II)I"⟩ ∈ jtbl := jtbl_in 1043 (by decide +kernel) (by decide +kernel)
theorem w_1044 : Cond.code ⟨"OutOrderModel", "round", "(II)I"⟩ prog_14_method_63_code 5 (Option.some Jvm.ClassFile.FieldType.int) ∈ jtbl := jtbl_in 1044 (by decide +kernel) (by decide +kernel)
theorem w_1045 : Cond.methodLink "OutOrderLaw" 134 ⟨"OutOrderModel", "status", "(I)I"⟩ ∈ jtbl := jtbl_in 1045 (by decide +kernel) (by decide +kernel)
theorem w_1046 : Cond.instanceMethod ⟨"OutOrderModel", "status", "(I)I"⟩ ∈ jtbl := jtbl_in 1046 (by decide +kernel) (by decide +kernel)
theorem w_1047 : Cond.selects "OutOrderModel" ⟨"OutOrderModel", "status", "(I)I"⟩ ⟨"OutOrderModel", "status", "(I)I"⟩ ∈ jtbl := jtbl_in 1047 (by decide +kernel) (by decide +kernel)
theorem w_1048 : Cond.code ⟨"OutOrderModel", "status", "(I)I"⟩ prog_14_method_64_code 4 (Option.some Jvm.ClassFile.FieldType.int) ∈ jtbl := jtbl_in 1048 (by decide +kernel) (by decide +kernel)
theorem cw_LW_13 : jcw "OutOrderLaw" 13 ⟨"OutOrder", "table", "(II)I"⟩ prog_1_method_2_code 3 (some .int) 2 := ⟨w_349, w_346, w_1, ⟨by decide, by decide⟩, by decide +kernel⟩
theorem cw_LW_17 : jcw "OutOrderLaw" 17 ⟨"OutOrderModel", "table", "(II)I"⟩ prog_14_method_8_code 4 (some .int) 2 := ⟨w_806, w_803, w_12, ⟨by decide, by decide⟩, by decide +kernel⟩
theorem cw_LW_18 : jcw "OutOrderLaw" 18 ⟨"OutOrder", "put", "(III)I"⟩ prog_1_method_3_code 5 (some .int) 3 := ⟨w_360, w_357, w_1, ⟨by decide, by decide⟩, by decide +kernel⟩
theorem cw_LW_22 : jcw "OutOrderLaw" 22 ⟨"OutOrderModel", "put", "(III)I"⟩ prog_14_method_9_code 6 (some .int) 3 := ⟨w_826, w_823, w_12, ⟨by decide, by decide⟩, by decide +kernel⟩
theorem cw_LW_23 : jcw "OutOrderLaw" 23 ⟨"OutOrder", "number", "(II)I"⟩ prog_1_method_4_code 3 (some .int) 2 := ⟨w_379, w_376, w_1, ⟨by decide, by decide⟩, by decide +kernel⟩
theorem cw_LW_26 : jcw "OutOrderLaw" 26 ⟨"OutOrderModel", "number", "(II)I"⟩ prog_14_method_10_code 3 (some .int) 2 := ⟨w_841, w_838, w_12, ⟨by decide, by decide⟩, by decide +kernel⟩
theorem cw_LW_27 : jcw "OutOrderLaw" 27 ⟨"OutOrder", "hold", "(IZ)Z"⟩ prog_1_method_5_code 3 (some .boolean) 2 := ⟨w_383, w_380, w_1, ⟨by decide, by decide⟩, by decide +kernel⟩
theorem cw_LW_31 : jcw "OutOrderLaw" 31 ⟨"OutOrderModel", "hold", "(IZ)Z"⟩ prog_14_method_11_code 3 (some .boolean) 2 := ⟨w_845, w_842, w_12, ⟨by decide, by decide⟩, by decide +kernel⟩
theorem cw_LW_32 : jcw "OutOrderLaw" 32 ⟨"OutOrder", "order", "(I)I"⟩ prog_1_method_6_code 4 (some .int) 1 := ⟨w_391, w_388, w_1, ⟨by decide, by decide⟩, by decide +kernel⟩
theorem cw_LW_36 : jcw "OutOrderLaw" 36 ⟨"OutOrderModel", "order", "(I)I"⟩ prog_14_method_25_code 4 (some .int) 1 := ⟨w_849, w_846, w_12, ⟨by decide, by decide⟩, by decide +kernel⟩
theorem cw_LW_37 : jcw "OutOrderLaw" 37 ⟨"OutOrder", "swap", "(II)I"⟩ prog_1_method_7_code 3 (some .int) 2 := ⟨w_527, w_524, w_1, ⟨by decide, by decide⟩, by decide +kernel⟩
theorem cw_LW_40 : jcw "OutOrderLaw" 40 ⟨"OutOrderModel", "swap", "(II)I"⟩ prog_14_method_26_code 4 (some .int) 2 := ⟨w_906, w_903, w_12, ⟨by decide, by decide⟩, by decide +kernel⟩
theorem cw_LW_41 : jcw "OutOrderLaw" 41 ⟨"OutOrder", "at", "(I)I"⟩ prog_1_method_8_code 2 (some .int) 1 := ⟨w_532, w_529, w_1, ⟨by decide, by decide⟩, by decide +kernel⟩
theorem cw_LW_44 : jcw "OutOrderLaw" 44 ⟨"OutOrderModel", "at", "(I)I"⟩ prog_14_method_27_code 2 (some .int) 1 := ⟨w_910, w_907, w_12, ⟨by decide, by decide⟩, by decide +kernel⟩
theorem cw_LW_45 : jcw "OutOrderLaw" 45 ⟨"OutOrder", "fills", "()I"⟩ prog_1_method_9_code 1 (some .int) 0 := ⟨w_536, w_533, w_1, ⟨by decide, by decide⟩, by decide +kernel⟩
theorem cw_LW_49 : jcw "OutOrderLaw" 49 ⟨"OutOrderModel", "fills", "()I"⟩ prog_14_method_28_code 1 (some .int) 0 := ⟨w_898, w_911, w_12, ⟨by decide, by decide⟩, by decide +kernel⟩
theorem cw_LW_50 : jcw "OutOrderLaw" 50 ⟨"OutOrder", "fill", "(I)I"⟩ prog_1_method_10_code 3 (some .int) 1 := ⟨w_540, w_537, w_1, ⟨by decide, by decide⟩, by decide +kernel⟩
theorem cw_LW_53 : jcw "OutOrderLaw" 53 ⟨"OutOrderModel", "fill", "(I)I"⟩ prog_14_method_29_code 2 (some .int) 1 := ⟨w_915, w_912, w_12, ⟨by decide, by decide⟩, by decide +kernel⟩
theorem cw_LW_54 : jcw "OutOrderLaw" 54 ⟨"OutOrder", "column", "(II)I"⟩ prog_1_method_11_code 4 (some .int) 2 := ⟨w_544, w_541, w_1, ⟨by decide, by decide⟩, by decide +kernel⟩
theorem cw_LW_57 : jcw "OutOrderLaw" 57 ⟨"OutOrderModel", "column", "(II)I"⟩ prog_14_method_32_code 5 (some .int) 2 := ⟨w_919, w_916, w_12, ⟨by decide, by decide⟩, by decide +kernel⟩
theorem cw_LW_58 : jcw "OutOrderLaw" 58 ⟨"OutOrder", "width", "()I"⟩ prog_1_method_12_code 1 (some .int) 0 := ⟨w_549, w_546, w_1, ⟨by decide, by decide⟩, by decide +kernel⟩
theorem cw_LW_61 : jcw "OutOrderLaw" 61 ⟨"OutOrderModel", "width", "()I"⟩ prog_14_method_33_code 3 (some .int) 0 := ⟨w_931, w_928, w_12, ⟨by decide, by decide⟩, by decide +kernel⟩
theorem cw_LW_62 : jcw "OutOrderLaw" 62 ⟨"OutOrder", "group", "(I)I"⟩ prog_1_method_13_code 3 (some .int) 1 := ⟨w_553, w_550, w_1, ⟨by decide, by decide⟩, by decide +kernel⟩
theorem cw_LW_65 : jcw "OutOrderLaw" 65 ⟨"OutOrderModel", "group", "(I)I"⟩ prog_14_method_34_code 10 (some .int) 1 := ⟨w_935, w_932, w_12, ⟨by decide, by decide⟩, by decide +kernel⟩
theorem cw_LW_66 : jcw "OutOrderLaw" 66 ⟨"OutOrder", "isClean", "()Z"⟩ prog_1_method_14_code 1 (some .boolean) 0 := ⟨w_557, w_554, w_1, ⟨by decide, by decide⟩, by decide +kernel⟩
theorem cw_LW_70 : jcw "OutOrderLaw" 70 ⟨"OutOrderModel", "isClean", "()Z"⟩ prog_14_method_35_code 4 (some .boolean) 0 := ⟨w_939, w_936, w_12, ⟨by decide, by decide⟩, by decide +kernel⟩
theorem cw_LW_71 : jcw "OutOrderLaw" 71 ⟨"OutOrder", "ring", "()I"⟩ prog_1_method_15_code 1 (some .int) 0 := ⟨w_570, w_567, w_1, ⟨by decide, by decide⟩, by decide +kernel⟩
theorem cw_LW_74 : jcw "OutOrderLaw" 74 ⟨"OutOrderModel", "ring", "()I"⟩ prog_14_method_37_code 8 (some .int) 0 := ⟨w_943, w_940, w_12, ⟨by decide, by decide⟩, by decide +kernel⟩
theorem cw_LW_75 : jcw "OutOrderLaw" 75 ⟨"OutOrder", "least", "(I)I"⟩ prog_1_method_16_code 3 (some .int) 1 := ⟨w_574, w_571, w_1, ⟨by decide, by decide⟩, by decide +kernel⟩
theorem cw_LW_78 : jcw "OutOrderLaw" 78 ⟨"OutOrderModel", "least", "(I)I"⟩ prog_14_method_38_code 2 (some .int) 1 := ⟨w_951, w_948, w_12, ⟨by decide, by decide⟩, by decide +kernel⟩
theorem cw_LW_79 : jcw "OutOrderLaw" 79 ⟨"OutOrder", "begin", "()I"⟩ prog_1_method_17_code 1 (some .int) 0 := ⟨w_583, w_580, w_1, ⟨by decide, by decide⟩, by decide +kernel⟩
theorem cw_LW_82 : jcw "OutOrderLaw" 82 ⟨"OutOrderModel", "begin", "()I"⟩ prog_14_method_39_code 2 (some .int) 0 := ⟨w_818, w_952, w_12, ⟨by decide, by decide⟩, by decide +kernel⟩
theorem cw_LW_83 : jcw "OutOrderLaw" 83 ⟨"OutOrder", "out", "(I)I"⟩ prog_1_method_18_code 3 (some .int) 1 := ⟨w_587, w_584, w_1, ⟨by decide, by decide⟩, by decide +kernel⟩
theorem cw_LW_86 : jcw "OutOrderLaw" 86 ⟨"OutOrderModel", "out", "(I)I"⟩ prog_14_method_43_code 5 (some .int) 1 := ⟨w_956, w_953, w_12, ⟨by decide, by decide⟩, by decide +kernel⟩
theorem cw_LW_87 : jcw "OutOrderLaw" 87 ⟨"OutOrder", "going", "(II)I"⟩ prog_1_method_19_code 3 (some .int) 2 := ⟨w_598, w_595, w_1, ⟨by decide, by decide⟩, by decide +kernel⟩
theorem cw_LW_90 : jcw "OutOrderLaw" 90 ⟨"OutOrderModel", "going", "(II)I"⟩ prog_14_method_45_code 5 (some .int) 2 := ⟨w_972, w_969, w_12, ⟨by decide, by decide⟩, by decide +kernel⟩
theorem cw_LW_91 : jcw "OutOrderLaw" 91 ⟨"OutOrder", "back", "()I"⟩ prog_1_method_20_code 1 (some .int) 0 := ⟨w_611, w_608, w_1, ⟨by decide, by decide⟩, by decide +kernel⟩
theorem cw_LW_94 : jcw "OutOrderLaw" 94 ⟨"OutOrderModel", "back", "()I"⟩ prog_14_method_46_code 2 (some .int) 0 := ⟨w_980, w_977, w_12, ⟨by decide, by decide⟩, by decide +kernel⟩
theorem cw_LW_95 : jcw "OutOrderLaw" 95 ⟨"OutOrder", "work", "()I"⟩ prog_1_method_21_code 1 (some .int) 0 := ⟨w_619, w_616, w_1, ⟨by decide, by decide⟩, by decide +kernel⟩
theorem cw_LW_98 : jcw "OutOrderLaw" 98 ⟨"OutOrderModel", "work", "()I"⟩ prog_14_method_50_code 7 (some .int) 0 := ⟨w_984, w_981, w_12, ⟨by decide, by decide⟩, by decide +kernel⟩
theorem cw_LW_99 : jcw "OutOrderLaw" 99 ⟨"OutOrder", "pivot", "(I)I"⟩ prog_1_method_22_code 3 (some .int) 1 := ⟨w_651, w_648, w_1, ⟨by decide, by decide⟩, by decide +kernel⟩
theorem cw_LW_102 : jcw "OutOrderLaw" 102 ⟨"OutOrderModel", "pivot", "(I)I"⟩ prog_14_method_52_code 2 (some .int) 1 := ⟨w_996, w_993, w_12, ⟨by decide, by decide⟩, by decide +kernel⟩
theorem cw_LW_103 : jcw "OutOrderLaw" 103 ⟨"OutOrder", "one", "(II)I"⟩ prog_1_method_23_code 3 (some .int) 2 := ⟨w_655, w_652, w_1, ⟨by decide, by decide⟩, by decide +kernel⟩
theorem cw_LW_106 : jcw "OutOrderLaw" 106 ⟨"OutOrderModel", "one", "(II)I"⟩ prog_14_method_53_code 3 (some .int) 2 := ⟨w_1004, w_1001, w_12, ⟨by decide, by decide⟩, by decide +kernel⟩
theorem cw_LW_107 : jcw "OutOrderLaw" 107 ⟨"OutOrder", "worth", "()I"⟩ prog_1_method_24_code 1 (some .int) 0 := ⟨w_663, w_660, w_1, ⟨by decide, by decide⟩, by decide +kernel⟩
theorem cw_LW_110 : jcw "OutOrderLaw" 110 ⟨"OutOrderModel", "worth", "()I"⟩ prog_14_method_54_code 4 (some .int) 0 := ⟨w_1008, w_1005, w_12, ⟨by decide, by decide⟩, by decide +kernel⟩
theorem cw_LW_111 : jcw "OutOrderLaw" 111 ⟨"OutOrder", "side", "(II)I"⟩ prog_1_method_25_code 4 (some .int) 2 := ⟨w_671, w_668, w_1, ⟨by decide, by decide⟩, by decide +kernel⟩
theorem cw_LW_114 : jcw "OutOrderLaw" 114 ⟨"OutOrderModel", "side", "(II)I"⟩ prog_14_method_55_code 4 (some .int) 2 := ⟨w_1012, w_1009, w_12, ⟨by decide, by decide⟩, by decide +kernel⟩
theorem cw_LW_115 : jcw "OutOrderLaw" 115 ⟨"OutOrder", "solve", "(I)I"⟩ prog_1_method_26_code 2 (some .int) 1 := ⟨w_676, w_673, w_1, ⟨by decide, by decide⟩, by decide +kernel⟩
theorem cw_LW_118 : jcw "OutOrderLaw" 118 ⟨"OutOrderModel", "solve", "(I)I"⟩ prog_14_method_58_code 3 (some .int) 1 := ⟨w_1016, w_1013, w_12, ⟨by decide, by decide⟩, by decide +kernel⟩
theorem cw_LW_119 : jcw "OutOrderLaw" 119 ⟨"OutOrder", "inside", "(II)I"⟩ prog_1_method_27_code 3 (some .int) 2 := ⟨w_692, w_689, w_1, ⟨by decide, by decide⟩, by decide +kernel⟩
theorem cw_LW_122 : jcw "OutOrderLaw" 122 ⟨"OutOrderModel", "inside", "(II)I"⟩ prog_14_method_59_code 4 (some .int) 2 := ⟨w_1028, w_1025, w_12, ⟨by decide, by decide⟩, by decide +kernel⟩
theorem cw_LW_123 : jcw "OutOrderLaw" 123 ⟨"OutOrder", "plan", "(I)I"⟩ prog_1_method_28_code 2 (some .int) 1 := ⟨w_700, w_697, w_1, ⟨by decide, by decide⟩, by decide +kernel⟩
theorem cw_LW_126 : jcw "OutOrderLaw" 126 ⟨"OutOrderModel", "plan", "(I)I"⟩ prog_14_method_62_code 2 (some .int) 1 := ⟨w_1032, w_1029, w_12, ⟨by decide, by decide⟩, by decide +kernel⟩
theorem cw_LW_127 : jcw "OutOrderLaw" 127 ⟨"OutOrder", "round", "(II)I"⟩ prog_1_method_29_code 3 (some .int) 2 := ⟨w_714, w_711, w_1, ⟨by decide, by decide⟩, by decide +kernel⟩
theorem cw_LW_130 : jcw "OutOrderLaw" 130 ⟨"OutOrderModel", "round", "(II)I"⟩ prog_14_method_63_code 5 (some .int) 2 := ⟨w_1044, w_1041, w_12, ⟨by decide, by decide⟩, by decide +kernel⟩
theorem cw_LW_131 : jcw "OutOrderLaw" 131 ⟨"OutOrder", "status", "(I)I"⟩ prog_1_method_30_code 2 (some .int) 1 := ⟨w_718, w_715, w_1, ⟨by decide, by decide⟩, by decide +kernel⟩
theorem cw_LW_134 : jcw "OutOrderLaw" 134 ⟨"OutOrderModel", "status", "(I)I"⟩ prog_14_method_64_code 4 (some .int) 1 := ⟨w_1048, w_1045, w_12, ⟨by decide, by decide⟩, by decide +kernel⟩
theorem d_LW_0 : decode code 0 = .ok (.new 7, 3) := by decide +kernel
theorem d_LW_3 : decode code 3 = .ok (.dup, 1) := by decide +kernel
theorem d_LW_4 : decode code 4 = .ok (.invokespecial 9, 3) := by decide +kernel
theorem d_LW_7 : decode code 7 = .ok (.astore_n 1, 1) := by decide +kernel
theorem d_LW_8 : decode code 8 = .ok (.new 10, 3) := by decide +kernel
theorem d_LW_11 : decode code 11 = .ok (.dup, 1) := by decide +kernel
theorem d_LW_12 : decode code 12 = .ok (.invokespecial 12, 3) := by decide +kernel
theorem d_LW_15 : decode code 15 = .ok (.astore_n 2, 1) := by decide +kernel
theorem d_LW_16 : decode code 16 = .ok (.iconst 0, 1) := by decide +kernel
theorem d_LW_17 : decode code 17 = .ok (.istore_n 3, 1) := by decide +kernel
theorem d_LW_18 : decode code 18 = .ok (.iload_n 3, 1) := by decide +kernel
theorem d_LW_19 : decode code 19 = .ok (.aload_n 0, 1) := by decide +kernel
theorem d_LW_20 : decode code 20 = .ok (.arraylength, 1) := by decide +kernel
theorem d_LW_21 : decode code 21 = .ok (.iconst 4, 1) := by decide +kernel
theorem d_LW_22 : decode code 22 = .ok (.isub, 1) := by decide +kernel
theorem d_LW_23 : decode code 23 = .ok (.if_icmp .gt 870, 3) := by decide +kernel
theorem d_LW_26 : decode code 26 = .ok (.aload_n 0, 1) := by decide +kernel
theorem d_LW_27 : decode code 27 = .ok (.iload_n 3, 1) := by decide +kernel
theorem d_LW_28 : decode code 28 = .ok (.iaload, 1) := by decide +kernel
theorem d_LW_29 : decode code 29 = .ok (.bipush 31, 2) := by decide +kernel
theorem d_LW_31 : decode code 31 = .ok (.iand, 1) := by decide +kernel
theorem d_LW_32 : decode code 32 = .ok (.tableswitch 855 0 28 #[132, 165, 208, 241, 290, 313, 346, 369, 382, 405, 438, 451, 474, 487, 500, 523, 536, 559, 592, 605, 618, 641, 674, 687, 720, 743, 776, 799, 832], 132) := by decide +kernel
theorem d_LW_164 : decode code 164 = .ok (.aload_n 1, 1) := by decide +kernel
theorem d_LW_165 : decode code 165 = .ok (.aload_n 0, 1) := by decide +kernel
theorem d_LW_166 : decode code 166 = .ok (.iload_n 3, 1) := by decide +kernel
theorem d_LW_167 : decode code 167 = .ok (.iconst 1, 1) := by decide +kernel
theorem d_LW_168 : decode code 168 = .ok (.iadd, 1) := by decide +kernel
theorem d_LW_169 : decode code 169 = .ok (.iaload, 1) := by decide +kernel
theorem d_LW_170 : decode code 170 = .ok (.aload_n 0, 1) := by decide +kernel
theorem d_LW_171 : decode code 171 = .ok (.iload_n 3, 1) := by decide +kernel
theorem d_LW_172 : decode code 172 = .ok (.iconst 2, 1) := by decide +kernel
theorem d_LW_173 : decode code 173 = .ok (.iadd, 1) := by decide +kernel
theorem d_LW_174 : decode code 174 = .ok (.iaload, 1) := by decide +kernel
theorem d_LW_175 : decode code 175 = .ok (.invokevirtual 13, 3) := by decide +kernel
theorem d_LW_178 : decode code 178 = .ok (.aload_n 2, 1) := by decide +kernel
theorem d_LW_179 : decode code 179 = .ok (.aload_n 0, 1) := by decide +kernel
theorem d_LW_180 : decode code 180 = .ok (.iload_n 3, 1) := by decide +kernel
theorem d_LW_181 : decode code 181 = .ok (.iconst 1, 1) := by decide +kernel
theorem d_LW_182 : decode code 182 = .ok (.iadd, 1) := by decide +kernel
theorem d_LW_183 : decode code 183 = .ok (.iaload, 1) := by decide +kernel
theorem d_LW_184 : decode code 184 = .ok (.aload_n 0, 1) := by decide +kernel
theorem d_LW_185 : decode code 185 = .ok (.iload_n 3, 1) := by decide +kernel
theorem d_LW_186 : decode code 186 = .ok (.iconst 2, 1) := by decide +kernel
theorem d_LW_187 : decode code 187 = .ok (.iadd, 1) := by decide +kernel
theorem d_LW_188 : decode code 188 = .ok (.iaload, 1) := by decide +kernel
theorem d_LW_189 : decode code 189 = .ok (.invokevirtual 17, 3) := by decide +kernel
theorem d_LW_192 : decode code 192 = .ok (.if_icmp .eq 695, 3) := by decide +kernel
theorem d_LW_195 : decode code 195 = .ok (.iconst 0, 1) := by decide +kernel
theorem d_LW_196 : decode code 196 = .ok (.ireturn, 1) := by decide +kernel
theorem d_LW_197 : decode code 197 = .ok (.aload_n 1, 1) := by decide +kernel
theorem d_LW_198 : decode code 198 = .ok (.aload_n 0, 1) := by decide +kernel
theorem d_LW_199 : decode code 199 = .ok (.iload_n 3, 1) := by decide +kernel
theorem d_LW_200 : decode code 200 = .ok (.iconst 1, 1) := by decide +kernel
theorem d_LW_201 : decode code 201 = .ok (.iadd, 1) := by decide +kernel
theorem d_LW_202 : decode code 202 = .ok (.iaload, 1) := by decide +kernel
theorem d_LW_203 : decode code 203 = .ok (.aload_n 0, 1) := by decide +kernel
theorem d_LW_204 : decode code 204 = .ok (.iload_n 3, 1) := by decide +kernel
theorem d_LW_205 : decode code 205 = .ok (.iconst 2, 1) := by decide +kernel
theorem d_LW_206 : decode code 206 = .ok (.iadd, 1) := by decide +kernel
theorem d_LW_207 : decode code 207 = .ok (.iaload, 1) := by decide +kernel
theorem d_LW_208 : decode code 208 = .ok (.aload_n 0, 1) := by decide +kernel
theorem d_LW_209 : decode code 209 = .ok (.iload_n 3, 1) := by decide +kernel
theorem d_LW_210 : decode code 210 = .ok (.iconst 3, 1) := by decide +kernel
theorem d_LW_211 : decode code 211 = .ok (.iadd, 1) := by decide +kernel
theorem d_LW_212 : decode code 212 = .ok (.iaload, 1) := by decide +kernel
theorem d_LW_213 : decode code 213 = .ok (.invokevirtual 18, 3) := by decide +kernel
theorem d_LW_216 : decode code 216 = .ok (.aload_n 2, 1) := by decide +kernel
theorem d_LW_217 : decode code 217 = .ok (.aload_n 0, 1) := by decide +kernel
theorem d_LW_218 : decode code 218 = .ok (.iload_n 3, 1) := by decide +kernel
theorem d_LW_219 : decode code 219 = .ok (.iconst 1, 1) := by decide +kernel
theorem d_LW_220 : decode code 220 = .ok (.iadd, 1) := by decide +kernel
theorem d_LW_221 : decode code 221 = .ok (.iaload, 1) := by decide +kernel
theorem d_LW_222 : decode code 222 = .ok (.aload_n 0, 1) := by decide +kernel
theorem d_LW_223 : decode code 223 = .ok (.iload_n 3, 1) := by decide +kernel
theorem d_LW_224 : decode code 224 = .ok (.iconst 2, 1) := by decide +kernel
theorem d_LW_225 : decode code 225 = .ok (.iadd, 1) := by decide +kernel
theorem d_LW_226 : decode code 226 = .ok (.iaload, 1) := by decide +kernel
theorem d_LW_227 : decode code 227 = .ok (.aload_n 0, 1) := by decide +kernel
theorem d_LW_228 : decode code 228 = .ok (.iload_n 3, 1) := by decide +kernel
theorem d_LW_229 : decode code 229 = .ok (.iconst 3, 1) := by decide +kernel
theorem d_LW_230 : decode code 230 = .ok (.iadd, 1) := by decide +kernel
theorem d_LW_231 : decode code 231 = .ok (.iaload, 1) := by decide +kernel
theorem d_LW_232 : decode code 232 = .ok (.invokevirtual 22, 3) := by decide +kernel
theorem d_LW_235 : decode code 235 = .ok (.if_icmp .eq 652, 3) := by decide +kernel
theorem d_LW_238 : decode code 238 = .ok (.iconst 0, 1) := by decide +kernel
theorem d_LW_239 : decode code 239 = .ok (.ireturn, 1) := by decide +kernel
theorem d_LW_240 : decode code 240 = .ok (.aload_n 1, 1) := by decide +kernel
theorem d_LW_241 : decode code 241 = .ok (.aload_n 0, 1) := by decide +kernel
theorem d_LW_242 : decode code 242 = .ok (.iload_n 3, 1) := by decide +kernel
theorem d_LW_243 : decode code 243 = .ok (.iconst 1, 1) := by decide +kernel
theorem d_LW_244 : decode code 244 = .ok (.iadd, 1) := by decide +kernel
theorem d_LW_245 : decode code 245 = .ok (.iaload, 1) := by decide +kernel
theorem d_LW_246 : decode code 246 = .ok (.aload_n 0, 1) := by decide +kernel
theorem d_LW_247 : decode code 247 = .ok (.iload_n 3, 1) := by decide +kernel
theorem d_LW_248 : decode code 248 = .ok (.iconst 2, 1) := by decide +kernel
theorem d_LW_249 : decode code 249 = .ok (.iadd, 1) := by decide +kernel
theorem d_LW_250 : decode code 250 = .ok (.iaload, 1) := by decide +kernel
theorem d_LW_251 : decode code 251 = .ok (.invokevirtual 23, 3) := by decide +kernel
theorem d_LW_254 : decode code 254 = .ok (.aload_n 2, 1) := by decide +kernel
theorem d_LW_255 : decode code 255 = .ok (.aload_n 0, 1) := by decide +kernel
theorem d_LW_256 : decode code 256 = .ok (.iload_n 3, 1) := by decide +kernel
theorem d_LW_257 : decode code 257 = .ok (.iconst 1, 1) := by decide +kernel
theorem d_LW_258 : decode code 258 = .ok (.iadd, 1) := by decide +kernel
theorem d_LW_259 : decode code 259 = .ok (.iaload, 1) := by decide +kernel
theorem d_LW_260 : decode code 260 = .ok (.aload_n 0, 1) := by decide +kernel
theorem d_LW_261 : decode code 261 = .ok (.iload_n 3, 1) := by decide +kernel
theorem d_LW_262 : decode code 262 = .ok (.iconst 2, 1) := by decide +kernel
theorem d_LW_263 : decode code 263 = .ok (.iadd, 1) := by decide +kernel
theorem d_LW_264 : decode code 264 = .ok (.iaload, 1) := by decide +kernel
theorem d_LW_265 : decode code 265 = .ok (.invokevirtual 26, 3) := by decide +kernel
theorem d_LW_268 : decode code 268 = .ok (.if_icmp .eq 619, 3) := by decide +kernel
theorem d_LW_271 : decode code 271 = .ok (.iconst 0, 1) := by decide +kernel
theorem d_LW_272 : decode code 272 = .ok (.ireturn, 1) := by decide +kernel
theorem d_LW_273 : decode code 273 = .ok (.aload_n 1, 1) := by decide +kernel
theorem d_LW_274 : decode code 274 = .ok (.aload_n 0, 1) := by decide +kernel
theorem d_LW_275 : decode code 275 = .ok (.iload_n 3, 1) := by decide +kernel
theorem d_LW_276 : decode code 276 = .ok (.iconst 1, 1) := by decide +kernel
theorem d_LW_277 : decode code 277 = .ok (.iadd, 1) := by decide +kernel
theorem d_LW_278 : decode code 278 = .ok (.iaload, 1) := by decide +kernel
theorem d_LW_279 : decode code 279 = .ok (.aload_n 0, 1) := by decide +kernel
theorem d_LW_280 : decode code 280 = .ok (.iload_n 3, 1) := by decide +kernel
theorem d_LW_281 : decode code 281 = .ok (.iconst 2, 1) := by decide +kernel
theorem d_LW_282 : decode code 282 = .ok (.iadd, 1) := by decide +kernel
theorem d_LW_283 : decode code 283 = .ok (.iaload, 1) := by decide +kernel
theorem d_LW_284 : decode code 284 = .ok (.ifCond .eq 7, 3) := by decide +kernel
theorem d_LW_287 : decode code 287 = .ok (.iconst 1, 1) := by decide +kernel
theorem d_LW_288 : decode code 288 = .ok (.goto 4, 3) := by decide +kernel
theorem d_LW_291 : decode code 291 = .ok (.iconst 0, 1) := by decide +kernel
theorem d_LW_292 : decode code 292 = .ok (.invokevirtual 27, 3) := by decide +kernel
theorem d_LW_295 : decode code 295 = .ok (.aload_n 2, 1) := by decide +kernel
theorem d_LW_296 : decode code 296 = .ok (.aload_n 0, 1) := by decide +kernel
theorem d_LW_297 : decode code 297 = .ok (.iload_n 3, 1) := by decide +kernel
theorem d_LW_298 : decode code 298 = .ok (.iconst 1, 1) := by decide +kernel
theorem d_LW_299 : decode code 299 = .ok (.iadd, 1) := by decide +kernel
theorem d_LW_300 : decode code 300 = .ok (.iaload, 1) := by decide +kernel
theorem d_LW_301 : decode code 301 = .ok (.aload_n 0, 1) := by decide +kernel
theorem d_LW_302 : decode code 302 = .ok (.iload_n 3, 1) := by decide +kernel
theorem d_LW_303 : decode code 303 = .ok (.iconst 2, 1) := by decide +kernel
theorem d_LW_304 : decode code 304 = .ok (.iadd, 1) := by decide +kernel
theorem d_LW_305 : decode code 305 = .ok (.iaload, 1) := by decide +kernel
theorem d_LW_306 : decode code 306 = .ok (.ifCond .eq 7, 3) := by decide +kernel
theorem d_LW_309 : decode code 309 = .ok (.iconst 1, 1) := by decide +kernel
theorem d_LW_310 : decode code 310 = .ok (.goto 4, 3) := by decide +kernel
theorem d_LW_313 : decode code 313 = .ok (.iconst 0, 1) := by decide +kernel
theorem d_LW_314 : decode code 314 = .ok (.invokevirtual 31, 3) := by decide +kernel
theorem d_LW_317 : decode code 317 = .ok (.if_icmp .eq 570, 3) := by decide +kernel
theorem d_LW_320 : decode code 320 = .ok (.iconst 0, 1) := by decide +kernel
theorem d_LW_321 : decode code 321 = .ok (.ireturn, 1) := by decide +kernel
theorem d_LW_322 : decode code 322 = .ok (.aload_n 1, 1) := by decide +kernel
theorem d_LW_323 : decode code 323 = .ok (.aload_n 0, 1) := by decide +kernel
theorem d_LW_324 : decode code 324 = .ok (.iload_n 3, 1) := by decide +kernel
theorem d_LW_325 : decode code 325 = .ok (.iconst 1, 1) := by decide +kernel
theorem d_LW_326 : decode code 326 = .ok (.iadd, 1) := by decide +kernel
theorem d_LW_327 : decode code 327 = .ok (.iaload, 1) := by decide +kernel
theorem d_LW_328 : decode code 328 = .ok (.invokevirtual 32, 3) := by decide +kernel
theorem d_LW_331 : decode code 331 = .ok (.aload_n 2, 1) := by decide +kernel
theorem d_LW_332 : decode code 332 = .ok (.aload_n 0, 1) := by decide +kernel
theorem d_LW_333 : decode code 333 = .ok (.iload_n 3, 1) := by decide +kernel
theorem d_LW_334 : decode code 334 = .ok (.iconst 1, 1) := by decide +kernel
theorem d_LW_335 : decode code 335 = .ok (.iadd, 1) := by decide +kernel
theorem d_LW_336 : decode code 336 = .ok (.iaload, 1) := by decide +kernel
theorem d_LW_337 : decode code 337 = .ok (.invokevirtual 36, 3) := by decide +kernel
theorem d_LW_340 : decode code 340 = .ok (.if_icmp .eq 547, 3) := by decide +kernel
theorem d_LW_343 : decode code 343 = .ok (.iconst 0, 1) := by decide +kernel
theorem d_LW_344 : decode code 344 = .ok (.ireturn, 1) := by decide +kernel
theorem d_LW_345 : decode code 345 = .ok (.aload_n 1, 1) := by decide +kernel
theorem d_LW_346 : decode code 346 = .ok (.aload_n 0, 1) := by decide +kernel
theorem d_LW_347 : decode code 347 = .ok (.iload_n 3, 1) := by decide +kernel
theorem d_LW_348 : decode code 348 = .ok (.iconst 1, 1) := by decide +kernel
theorem d_LW_349 : decode code 349 = .ok (.iadd, 1) := by decide +kernel
theorem d_LW_350 : decode code 350 = .ok (.iaload, 1) := by decide +kernel
theorem d_LW_351 : decode code 351 = .ok (.aload_n 0, 1) := by decide +kernel
theorem d_LW_352 : decode code 352 = .ok (.iload_n 3, 1) := by decide +kernel
theorem d_LW_353 : decode code 353 = .ok (.iconst 2, 1) := by decide +kernel
theorem d_LW_354 : decode code 354 = .ok (.iadd, 1) := by decide +kernel
theorem d_LW_355 : decode code 355 = .ok (.iaload, 1) := by decide +kernel
theorem d_LW_356 : decode code 356 = .ok (.invokevirtual 37, 3) := by decide +kernel
theorem d_LW_359 : decode code 359 = .ok (.aload_n 2, 1) := by decide +kernel
theorem d_LW_360 : decode code 360 = .ok (.aload_n 0, 1) := by decide +kernel
theorem d_LW_361 : decode code 361 = .ok (.iload_n 3, 1) := by decide +kernel
theorem d_LW_362 : decode code 362 = .ok (.iconst 1, 1) := by decide +kernel
theorem d_LW_363 : decode code 363 = .ok (.iadd, 1) := by decide +kernel
theorem d_LW_364 : decode code 364 = .ok (.iaload, 1) := by decide +kernel
theorem d_LW_365 : decode code 365 = .ok (.aload_n 0, 1) := by decide +kernel
theorem d_LW_366 : decode code 366 = .ok (.iload_n 3, 1) := by decide +kernel
theorem d_LW_367 : decode code 367 = .ok (.iconst 2, 1) := by decide +kernel
theorem d_LW_368 : decode code 368 = .ok (.iadd, 1) := by decide +kernel
theorem d_LW_369 : decode code 369 = .ok (.iaload, 1) := by decide +kernel
theorem d_LW_370 : decode code 370 = .ok (.invokevirtual 40, 3) := by decide +kernel
theorem d_LW_373 : decode code 373 = .ok (.if_icmp .eq 514, 3) := by decide +kernel
theorem d_LW_376 : decode code 376 = .ok (.iconst 0, 1) := by decide +kernel
theorem d_LW_377 : decode code 377 = .ok (.ireturn, 1) := by decide +kernel
theorem d_LW_378 : decode code 378 = .ok (.aload_n 1, 1) := by decide +kernel
theorem d_LW_379 : decode code 379 = .ok (.aload_n 0, 1) := by decide +kernel
theorem d_LW_380 : decode code 380 = .ok (.iload_n 3, 1) := by decide +kernel
theorem d_LW_381 : decode code 381 = .ok (.iconst 1, 1) := by decide +kernel
theorem d_LW_382 : decode code 382 = .ok (.iadd, 1) := by decide +kernel
theorem d_LW_383 : decode code 383 = .ok (.iaload, 1) := by decide +kernel
theorem d_LW_384 : decode code 384 = .ok (.invokevirtual 41, 3) := by decide +kernel
theorem d_LW_387 : decode code 387 = .ok (.aload_n 2, 1) := by decide +kernel
theorem d_LW_388 : decode code 388 = .ok (.aload_n 0, 1) := by decide +kernel
theorem d_LW_389 : decode code 389 = .ok (.iload_n 3, 1) := by decide +kernel
theorem d_LW_390 : decode code 390 = .ok (.iconst 1, 1) := by decide +kernel
theorem d_LW_391 : decode code 391 = .ok (.iadd, 1) := by decide +kernel
theorem d_LW_392 : decode code 392 = .ok (.iaload, 1) := by decide +kernel
theorem d_LW_393 : decode code 393 = .ok (.invokevirtual 44, 3) := by decide +kernel
theorem d_LW_396 : decode code 396 = .ok (.if_icmp .eq 491, 3) := by decide +kernel
theorem d_LW_399 : decode code 399 = .ok (.iconst 0, 1) := by decide +kernel
theorem d_LW_400 : decode code 400 = .ok (.ireturn, 1) := by decide +kernel
theorem d_LW_401 : decode code 401 = .ok (.aload_n 1, 1) := by decide +kernel
theorem d_LW_402 : decode code 402 = .ok (.invokevirtual 45, 3) := by decide +kernel
theorem d_LW_405 : decode code 405 = .ok (.aload_n 2, 1) := by decide +kernel
theorem d_LW_406 : decode code 406 = .ok (.invokevirtual 49, 3) := by decide +kernel
theorem d_LW_409 : decode code 409 = .ok (.if_icmp .eq 478, 3) := by decide +kernel
theorem d_LW_412 : decode code 412 = .ok (.iconst 0, 1) := by decide +kernel
theorem d_LW_413 : decode code 413 = .ok (.ireturn, 1) := by decide +kernel
theorem d_LW_414 : decode code 414 = .ok (.aload_n 1, 1) := by decide +kernel
theorem d_LW_415 : decode code 415 = .ok (.aload_n 0, 1) := by decide +kernel
theorem d_LW_416 : decode code 416 = .ok (.iload_n 3, 1) := by decide +kernel
theorem d_LW_417 : decode code 417 = .ok (.iconst 1, 1) := by decide +kernel
theorem d_LW_418 : decode code 418 = .ok (.iadd, 1) := by decide +kernel
theorem d_LW_419 : decode code 419 = .ok (.iaload, 1) := by decide +kernel
theorem d_LW_420 : decode code 420 = .ok (.invokevirtual 50, 3) := by decide +kernel
theorem d_LW_423 : decode code 423 = .ok (.aload_n 2, 1) := by decide +kernel
theorem d_LW_424 : decode code 424 = .ok (.aload_n 0, 1) := by decide +kernel
theorem d_LW_425 : decode code 425 = .ok (.iload_n 3, 1) := by decide +kernel
theorem d_LW_426 : decode code 426 = .ok (.iconst 1, 1) := by decide +kernel
theorem d_LW_427 : decode code 427 = .ok (.iadd, 1) := by decide +kernel
theorem d_LW_428 : decode code 428 = .ok (.iaload, 1) := by decide +kernel
theorem d_LW_429 : decode code 429 = .ok (.invokevirtual 53, 3) := by decide +kernel
theorem d_LW_432 : decode code 432 = .ok (.if_icmp .eq 455, 3) := by decide +kernel
theorem d_LW_435 : decode code 435 = .ok (.iconst 0, 1) := by decide +kernel
theorem d_LW_436 : decode code 436 = .ok (.ireturn, 1) := by decide +kernel
theorem d_LW_437 : decode code 437 = .ok (.aload_n 1, 1) := by decide +kernel
theorem d_LW_438 : decode code 438 = .ok (.aload_n 0, 1) := by decide +kernel
theorem d_LW_439 : decode code 439 = .ok (.iload_n 3, 1) := by decide +kernel
theorem d_LW_440 : decode code 440 = .ok (.iconst 1, 1) := by decide +kernel
theorem d_LW_441 : decode code 441 = .ok (.iadd, 1) := by decide +kernel
theorem d_LW_442 : decode code 442 = .ok (.iaload, 1) := by decide +kernel
theorem d_LW_443 : decode code 443 = .ok (.aload_n 0, 1) := by decide +kernel
theorem d_LW_444 : decode code 444 = .ok (.iload_n 3, 1) := by decide +kernel
theorem d_LW_445 : decode code 445 = .ok (.iconst 2, 1) := by decide +kernel
theorem d_LW_446 : decode code 446 = .ok (.iadd, 1) := by decide +kernel
theorem d_LW_447 : decode code 447 = .ok (.iaload, 1) := by decide +kernel
theorem d_LW_448 : decode code 448 = .ok (.invokevirtual 54, 3) := by decide +kernel
theorem d_LW_451 : decode code 451 = .ok (.aload_n 2, 1) := by decide +kernel
theorem d_LW_452 : decode code 452 = .ok (.aload_n 0, 1) := by decide +kernel
theorem d_LW_453 : decode code 453 = .ok (.iload_n 3, 1) := by decide +kernel
theorem d_LW_454 : decode code 454 = .ok (.iconst 1, 1) := by decide +kernel
theorem d_LW_455 : decode code 455 = .ok (.iadd, 1) := by decide +kernel
theorem d_LW_456 : decode code 456 = .ok (.iaload, 1) := by decide +kernel
theorem d_LW_457 : decode code 457 = .ok (.aload_n 0, 1) := by decide +kernel
theorem d_LW_458 : decode code 458 = .ok (.iload_n 3, 1) := by decide +kernel
theorem d_LW_459 : decode code 459 = .ok (.iconst 2, 1) := by decide +kernel
theorem d_LW_460 : decode code 460 = .ok (.iadd, 1) := by decide +kernel
theorem d_LW_461 : decode code 461 = .ok (.iaload, 1) := by decide +kernel
theorem d_LW_462 : decode code 462 = .ok (.invokevirtual 57, 3) := by decide +kernel
theorem d_LW_465 : decode code 465 = .ok (.if_icmp .eq 422, 3) := by decide +kernel
theorem d_LW_468 : decode code 468 = .ok (.iconst 0, 1) := by decide +kernel
theorem d_LW_469 : decode code 469 = .ok (.ireturn, 1) := by decide +kernel
theorem d_LW_470 : decode code 470 = .ok (.aload_n 1, 1) := by decide +kernel
theorem d_LW_471 : decode code 471 = .ok (.invokevirtual 58, 3) := by decide +kernel
theorem d_LW_474 : decode code 474 = .ok (.aload_n 2, 1) := by decide +kernel
theorem d_LW_475 : decode code 475 = .ok (.invokevirtual 61, 3) := by decide +kernel
theorem d_LW_478 : decode code 478 = .ok (.if_icmp .eq 409, 3) := by decide +kernel
theorem d_LW_481 : decode code 481 = .ok (.iconst 0, 1) := by decide +kernel
theorem d_LW_482 : decode code 482 = .ok (.ireturn, 1) := by decide +kernel
theorem d_LW_483 : decode code 483 = .ok (.aload_n 1, 1) := by decide +kernel
theorem d_LW_484 : decode code 484 = .ok (.aload_n 0, 1) := by decide +kernel
theorem d_LW_485 : decode code 485 = .ok (.iload_n 3, 1) := by decide +kernel
theorem d_LW_486 : decode code 486 = .ok (.iconst 1, 1) := by decide +kernel
theorem d_LW_487 : decode code 487 = .ok (.iadd, 1) := by decide +kernel
theorem d_LW_488 : decode code 488 = .ok (.iaload, 1) := by decide +kernel
theorem d_LW_489 : decode code 489 = .ok (.invokevirtual 62, 3) := by decide +kernel
theorem d_LW_492 : decode code 492 = .ok (.aload_n 2, 1) := by decide +kernel
theorem d_LW_493 : decode code 493 = .ok (.aload_n 0, 1) := by decide +kernel
theorem d_LW_494 : decode code 494 = .ok (.iload_n 3, 1) := by decide +kernel
theorem d_LW_495 : decode code 495 = .ok (.iconst 1, 1) := by decide +kernel
theorem d_LW_496 : decode code 496 = .ok (.iadd, 1) := by decide +kernel
theorem d_LW_497 : decode code 497 = .ok (.iaload, 1) := by decide +kernel
theorem d_LW_498 : decode code 498 = .ok (.invokevirtual 65, 3) := by decide +kernel
theorem d_LW_501 : decode code 501 = .ok (.if_icmp .eq 386, 3) := by decide +kernel
theorem d_LW_504 : decode code 504 = .ok (.iconst 0, 1) := by decide +kernel
theorem d_LW_505 : decode code 505 = .ok (.ireturn, 1) := by decide +kernel
theorem d_LW_506 : decode code 506 = .ok (.aload_n 1, 1) := by decide +kernel
theorem d_LW_507 : decode code 507 = .ok (.invokevirtual 66, 3) := by decide +kernel
theorem d_LW_510 : decode code 510 = .ok (.aload_n 2, 1) := by decide +kernel
theorem d_LW_511 : decode code 511 = .ok (.invokevirtual 70, 3) := by decide +kernel
theorem d_LW_514 : decode code 514 = .ok (.if_icmp .eq 373, 3) := by decide +kernel
theorem d_LW_517 : decode code 517 = .ok (.iconst 0, 1) := by decide +kernel
theorem d_LW_518 : decode code 518 = .ok (.ireturn, 1) := by decide +kernel
theorem d_LW_519 : decode code 519 = .ok (.aload_n 1, 1) := by decide +kernel
theorem d_LW_520 : decode code 520 = .ok (.invokevirtual 71, 3) := by decide +kernel
theorem d_LW_523 : decode code 523 = .ok (.aload_n 2, 1) := by decide +kernel
theorem d_LW_524 : decode code 524 = .ok (.invokevirtual 74, 3) := by decide +kernel
theorem d_LW_527 : decode code 527 = .ok (.if_icmp .eq 360, 3) := by decide +kernel
theorem d_LW_530 : decode code 530 = .ok (.iconst 0, 1) := by decide +kernel
theorem d_LW_531 : decode code 531 = .ok (.ireturn, 1) := by decide +kernel
theorem d_LW_532 : decode code 532 = .ok (.aload_n 1, 1) := by decide +kernel
theorem d_LW_533 : decode code 533 = .ok (.aload_n 0, 1) := by decide +kernel
theorem d_LW_534 : decode code 534 = .ok (.iload_n 3, 1) := by decide +kernel
theorem d_LW_535 : decode code 535 = .ok (.iconst 1, 1) := by decide +kernel
theorem d_LW_536 : decode code 536 = .ok (.iadd, 1) := by decide +kernel
theorem d_LW_537 : decode code 537 = .ok (.iaload, 1) := by decide +kernel
theorem d_LW_538 : decode code 538 = .ok (.invokevirtual 75, 3) := by decide +kernel
theorem d_LW_541 : decode code 541 = .ok (.aload_n 2, 1) := by decide +kernel
theorem d_LW_542 : decode code 542 = .ok (.aload_n 0, 1) := by decide +kernel
theorem d_LW_543 : decode code 543 = .ok (.iload_n 3, 1) := by decide +kernel
theorem d_LW_544 : decode code 544 = .ok (.iconst 1, 1) := by decide +kernel
theorem d_LW_545 : decode code 545 = .ok (.iadd, 1) := by decide +kernel
theorem d_LW_546 : decode code 546 = .ok (.iaload, 1) := by decide +kernel
theorem d_LW_547 : decode code 547 = .ok (.invokevirtual 78, 3) := by decide +kernel
theorem d_LW_550 : decode code 550 = .ok (.if_icmp .eq 337, 3) := by decide +kernel
theorem d_LW_553 : decode code 553 = .ok (.iconst 0, 1) := by decide +kernel
theorem d_LW_554 : decode code 554 = .ok (.ireturn, 1) := by decide +kernel
theorem d_LW_555 : decode code 555 = .ok (.aload_n 1, 1) := by decide +kernel
theorem d_LW_556 : decode code 556 = .ok (.invokevirtual 79, 3) := by decide +kernel
theorem d_LW_559 : decode code 559 = .ok (.aload_n 2, 1) := by decide +kernel
theorem d_LW_560 : decode code 560 = .ok (.invokevirtual 82, 3) := by decide +kernel
theorem d_LW_563 : decode code 563 = .ok (.if_icmp .eq 324, 3) := by decide +kernel
theorem d_LW_566 : decode code 566 = .ok (.iconst 0, 1) := by decide +kernel
theorem d_LW_567 : decode code 567 = .ok (.ireturn, 1) := by decide +kernel
theorem d_LW_568 : decode code 568 = .ok (.aload_n 1, 1) := by decide +kernel
theorem d_LW_569 : decode code 569 = .ok (.aload_n 0, 1) := by decide +kernel
theorem d_LW_570 : decode code 570 = .ok (.iload_n 3, 1) := by decide +kernel
theorem d_LW_571 : decode code 571 = .ok (.iconst 1, 1) := by decide +kernel
theorem d_LW_572 : decode code 572 = .ok (.iadd, 1) := by decide +kernel
theorem d_LW_573 : decode code 573 = .ok (.iaload, 1) := by decide +kernel
theorem d_LW_574 : decode code 574 = .ok (.invokevirtual 83, 3) := by decide +kernel
theorem d_LW_577 : decode code 577 = .ok (.aload_n 2, 1) := by decide +kernel
theorem d_LW_578 : decode code 578 = .ok (.aload_n 0, 1) := by decide +kernel
theorem d_LW_579 : decode code 579 = .ok (.iload_n 3, 1) := by decide +kernel
theorem d_LW_580 : decode code 580 = .ok (.iconst 1, 1) := by decide +kernel
theorem d_LW_581 : decode code 581 = .ok (.iadd, 1) := by decide +kernel
theorem d_LW_582 : decode code 582 = .ok (.iaload, 1) := by decide +kernel
theorem d_LW_583 : decode code 583 = .ok (.invokevirtual 86, 3) := by decide +kernel
theorem d_LW_586 : decode code 586 = .ok (.if_icmp .eq 301, 3) := by decide +kernel
theorem d_LW_589 : decode code 589 = .ok (.iconst 0, 1) := by decide +kernel
theorem d_LW_590 : decode code 590 = .ok (.ireturn, 1) := by decide +kernel
theorem d_LW_591 : decode code 591 = .ok (.aload_n 1, 1) := by decide +kernel
theorem d_LW_592 : decode code 592 = .ok (.aload_n 0, 1) := by decide +kernel
theorem d_LW_593 : decode code 593 = .ok (.iload_n 3, 1) := by decide +kernel
theorem d_LW_594 : decode code 594 = .ok (.iconst 1, 1) := by decide +kernel
theorem d_LW_595 : decode code 595 = .ok (.iadd, 1) := by decide +kernel
theorem d_LW_596 : decode code 596 = .ok (.iaload, 1) := by decide +kernel
theorem d_LW_597 : decode code 597 = .ok (.aload_n 0, 1) := by decide +kernel
theorem d_LW_598 : decode code 598 = .ok (.iload_n 3, 1) := by decide +kernel
theorem d_LW_599 : decode code 599 = .ok (.iconst 2, 1) := by decide +kernel
theorem d_LW_600 : decode code 600 = .ok (.iadd, 1) := by decide +kernel
theorem d_LW_601 : decode code 601 = .ok (.iaload, 1) := by decide +kernel
theorem d_LW_602 : decode code 602 = .ok (.invokevirtual 87, 3) := by decide +kernel
theorem d_LW_605 : decode code 605 = .ok (.aload_n 2, 1) := by decide +kernel
theorem d_LW_606 : decode code 606 = .ok (.aload_n 0, 1) := by decide +kernel
theorem d_LW_607 : decode code 607 = .ok (.iload_n 3, 1) := by decide +kernel
theorem d_LW_608 : decode code 608 = .ok (.iconst 1, 1) := by decide +kernel
theorem d_LW_609 : decode code 609 = .ok (.iadd, 1) := by decide +kernel
theorem d_LW_610 : decode code 610 = .ok (.iaload, 1) := by decide +kernel
theorem d_LW_611 : decode code 611 = .ok (.aload_n 0, 1) := by decide +kernel
theorem d_LW_612 : decode code 612 = .ok (.iload_n 3, 1) := by decide +kernel
theorem d_LW_613 : decode code 613 = .ok (.iconst 2, 1) := by decide +kernel
theorem d_LW_614 : decode code 614 = .ok (.iadd, 1) := by decide +kernel
theorem d_LW_615 : decode code 615 = .ok (.iaload, 1) := by decide +kernel
theorem d_LW_616 : decode code 616 = .ok (.invokevirtual 90, 3) := by decide +kernel
theorem d_LW_619 : decode code 619 = .ok (.if_icmp .eq 268, 3) := by decide +kernel
theorem d_LW_622 : decode code 622 = .ok (.iconst 0, 1) := by decide +kernel
theorem d_LW_623 : decode code 623 = .ok (.ireturn, 1) := by decide +kernel
theorem d_LW_624 : decode code 624 = .ok (.aload_n 1, 1) := by decide +kernel
theorem d_LW_625 : decode code 625 = .ok (.invokevirtual 91, 3) := by decide +kernel
theorem d_LW_628 : decode code 628 = .ok (.aload_n 2, 1) := by decide +kernel
theorem d_LW_629 : decode code 629 = .ok (.invokevirtual 94, 3) := by decide +kernel
theorem d_LW_632 : decode code 632 = .ok (.if_icmp .eq 255, 3) := by decide +kernel
theorem d_LW_635 : decode code 635 = .ok (.iconst 0, 1) := by decide +kernel
theorem d_LW_636 : decode code 636 = .ok (.ireturn, 1) := by decide +kernel
theorem d_LW_637 : decode code 637 = .ok (.aload_n 1, 1) := by decide +kernel
theorem d_LW_638 : decode code 638 = .ok (.invokevirtual 95, 3) := by decide +kernel
theorem d_LW_641 : decode code 641 = .ok (.aload_n 2, 1) := by decide +kernel
theorem d_LW_642 : decode code 642 = .ok (.invokevirtual 98, 3) := by decide +kernel
theorem d_LW_645 : decode code 645 = .ok (.if_icmp .eq 242, 3) := by decide +kernel
theorem d_LW_648 : decode code 648 = .ok (.iconst 0, 1) := by decide +kernel
theorem d_LW_649 : decode code 649 = .ok (.ireturn, 1) := by decide +kernel
theorem d_LW_650 : decode code 650 = .ok (.aload_n 1, 1) := by decide +kernel
theorem d_LW_651 : decode code 651 = .ok (.aload_n 0, 1) := by decide +kernel
theorem d_LW_652 : decode code 652 = .ok (.iload_n 3, 1) := by decide +kernel
theorem d_LW_653 : decode code 653 = .ok (.iconst 1, 1) := by decide +kernel
theorem d_LW_654 : decode code 654 = .ok (.iadd, 1) := by decide +kernel
theorem d_LW_655 : decode code 655 = .ok (.iaload, 1) := by decide +kernel
theorem d_LW_656 : decode code 656 = .ok (.invokevirtual 99, 3) := by decide +kernel
theorem d_LW_659 : decode code 659 = .ok (.aload_n 2, 1) := by decide +kernel
theorem d_LW_660 : decode code 660 = .ok (.aload_n 0, 1) := by decide +kernel
theorem d_LW_661 : decode code 661 = .ok (.iload_n 3, 1) := by decide +kernel
theorem d_LW_662 : decode code 662 = .ok (.iconst 1, 1) := by decide +kernel
theorem d_LW_663 : decode code 663 = .ok (.iadd, 1) := by decide +kernel
theorem d_LW_664 : decode code 664 = .ok (.iaload, 1) := by decide +kernel
theorem d_LW_665 : decode code 665 = .ok (.invokevirtual 102, 3) := by decide +kernel
theorem d_LW_668 : decode code 668 = .ok (.if_icmp .eq 219, 3) := by decide +kernel
theorem d_LW_671 : decode code 671 = .ok (.iconst 0, 1) := by decide +kernel
theorem d_LW_672 : decode code 672 = .ok (.ireturn, 1) := by decide +kernel
theorem d_LW_673 : decode code 673 = .ok (.aload_n 1, 1) := by decide +kernel
theorem d_LW_674 : decode code 674 = .ok (.aload_n 0, 1) := by decide +kernel
theorem d_LW_675 : decode code 675 = .ok (.iload_n 3, 1) := by decide +kernel
theorem d_LW_676 : decode code 676 = .ok (.iconst 1, 1) := by decide +kernel
theorem d_LW_677 : decode code 677 = .ok (.iadd, 1) := by decide +kernel
theorem d_LW_678 : decode code 678 = .ok (.iaload, 1) := by decide +kernel
theorem d_LW_679 : decode code 679 = .ok (.aload_n 0, 1) := by decide +kernel
theorem d_LW_680 : decode code 680 = .ok (.iload_n 3, 1) := by decide +kernel
theorem d_LW_681 : decode code 681 = .ok (.iconst 2, 1) := by decide +kernel
theorem d_LW_682 : decode code 682 = .ok (.iadd, 1) := by decide +kernel
theorem d_LW_683 : decode code 683 = .ok (.iaload, 1) := by decide +kernel
theorem d_LW_684 : decode code 684 = .ok (.invokevirtual 103, 3) := by decide +kernel
theorem d_LW_687 : decode code 687 = .ok (.aload_n 2, 1) := by decide +kernel
theorem d_LW_688 : decode code 688 = .ok (.aload_n 0, 1) := by decide +kernel
theorem d_LW_689 : decode code 689 = .ok (.iload_n 3, 1) := by decide +kernel
theorem d_LW_690 : decode code 690 = .ok (.iconst 1, 1) := by decide +kernel
theorem d_LW_691 : decode code 691 = .ok (.iadd, 1) := by decide +kernel
theorem d_LW_692 : decode code 692 = .ok (.iaload, 1) := by decide +kernel
theorem d_LW_693 : decode code 693 = .ok (.aload_n 0, 1) := by decide +kernel
theorem d_LW_694 : decode code 694 = .ok (.iload_n 3, 1) := by decide +kernel
theorem d_LW_695 : decode code 695 = .ok (.iconst 2, 1) := by decide +kernel
theorem d_LW_696 : decode code 696 = .ok (.iadd, 1) := by decide +kernel
theorem d_LW_697 : decode code 697 = .ok (.iaload, 1) := by decide +kernel
theorem d_LW_698 : decode code 698 = .ok (.invokevirtual 106, 3) := by decide +kernel
theorem d_LW_701 : decode code 701 = .ok (.if_icmp .eq 186, 3) := by decide +kernel
theorem d_LW_704 : decode code 704 = .ok (.iconst 0, 1) := by decide +kernel
theorem d_LW_705 : decode code 705 = .ok (.ireturn, 1) := by decide +kernel
theorem d_LW_706 : decode code 706 = .ok (.aload_n 1, 1) := by decide +kernel
theorem d_LW_707 : decode code 707 = .ok (.invokevirtual 107, 3) := by decide +kernel
theorem d_LW_710 : decode code 710 = .ok (.aload_n 2, 1) := by decide +kernel
theorem d_LW_711 : decode code 711 = .ok (.invokevirtual 110, 3) := by decide +kernel
theorem d_LW_714 : decode code 714 = .ok (.if_icmp .eq 173, 3) := by decide +kernel
theorem d_LW_717 : decode code 717 = .ok (.iconst 0, 1) := by decide +kernel
theorem d_LW_718 : decode code 718 = .ok (.ireturn, 1) := by decide +kernel
theorem d_LW_719 : decode code 719 = .ok (.aload_n 1, 1) := by decide +kernel
theorem d_LW_720 : decode code 720 = .ok (.aload_n 0, 1) := by decide +kernel
theorem d_LW_721 : decode code 721 = .ok (.iload_n 3, 1) := by decide +kernel
theorem d_LW_722 : decode code 722 = .ok (.iconst 1, 1) := by decide +kernel
theorem d_LW_723 : decode code 723 = .ok (.iadd, 1) := by decide +kernel
theorem d_LW_724 : decode code 724 = .ok (.iaload, 1) := by decide +kernel
theorem d_LW_725 : decode code 725 = .ok (.aload_n 0, 1) := by decide +kernel
theorem d_LW_726 : decode code 726 = .ok (.iload_n 3, 1) := by decide +kernel
theorem d_LW_727 : decode code 727 = .ok (.iconst 2, 1) := by decide +kernel
theorem d_LW_728 : decode code 728 = .ok (.iadd, 1) := by decide +kernel
theorem d_LW_729 : decode code 729 = .ok (.iaload, 1) := by decide +kernel
theorem d_LW_730 : decode code 730 = .ok (.invokevirtual 111, 3) := by decide +kernel
theorem d_LW_733 : decode code 733 = .ok (.aload_n 2, 1) := by decide +kernel
theorem d_LW_734 : decode code 734 = .ok (.aload_n 0, 1) := by decide +kernel
theorem d_LW_735 : decode code 735 = .ok (.iload_n 3, 1) := by decide +kernel
theorem d_LW_736 : decode code 736 = .ok (.iconst 1, 1) := by decide +kernel
theorem d_LW_737 : decode code 737 = .ok (.iadd, 1) := by decide +kernel
theorem d_LW_738 : decode code 738 = .ok (.iaload, 1) := by decide +kernel
theorem d_LW_739 : decode code 739 = .ok (.aload_n 0, 1) := by decide +kernel
theorem d_LW_740 : decode code 740 = .ok (.iload_n 3, 1) := by decide +kernel
theorem d_LW_741 : decode code 741 = .ok (.iconst 2, 1) := by decide +kernel
theorem d_LW_742 : decode code 742 = .ok (.iadd, 1) := by decide +kernel
theorem d_LW_743 : decode code 743 = .ok (.iaload, 1) := by decide +kernel
theorem d_LW_744 : decode code 744 = .ok (.invokevirtual 114, 3) := by decide +kernel
theorem d_LW_747 : decode code 747 = .ok (.if_icmp .eq 140, 3) := by decide +kernel
theorem d_LW_750 : decode code 750 = .ok (.iconst 0, 1) := by decide +kernel
theorem d_LW_751 : decode code 751 = .ok (.ireturn, 1) := by decide +kernel
theorem d_LW_752 : decode code 752 = .ok (.aload_n 1, 1) := by decide +kernel
theorem d_LW_753 : decode code 753 = .ok (.aload_n 0, 1) := by decide +kernel
theorem d_LW_754 : decode code 754 = .ok (.iload_n 3, 1) := by decide +kernel
theorem d_LW_755 : decode code 755 = .ok (.iconst 1, 1) := by decide +kernel
theorem d_LW_756 : decode code 756 = .ok (.iadd, 1) := by decide +kernel
theorem d_LW_757 : decode code 757 = .ok (.iaload, 1) := by decide +kernel
theorem d_LW_758 : decode code 758 = .ok (.invokevirtual 115, 3) := by decide +kernel
theorem d_LW_761 : decode code 761 = .ok (.aload_n 2, 1) := by decide +kernel
theorem d_LW_762 : decode code 762 = .ok (.aload_n 0, 1) := by decide +kernel
theorem d_LW_763 : decode code 763 = .ok (.iload_n 3, 1) := by decide +kernel
theorem d_LW_764 : decode code 764 = .ok (.iconst 1, 1) := by decide +kernel
theorem d_LW_765 : decode code 765 = .ok (.iadd, 1) := by decide +kernel
theorem d_LW_766 : decode code 766 = .ok (.iaload, 1) := by decide +kernel
theorem d_LW_767 : decode code 767 = .ok (.invokevirtual 118, 3) := by decide +kernel
theorem d_LW_770 : decode code 770 = .ok (.if_icmp .eq 117, 3) := by decide +kernel
theorem d_LW_773 : decode code 773 = .ok (.iconst 0, 1) := by decide +kernel
theorem d_LW_774 : decode code 774 = .ok (.ireturn, 1) := by decide +kernel
theorem d_LW_775 : decode code 775 = .ok (.aload_n 1, 1) := by decide +kernel
theorem d_LW_776 : decode code 776 = .ok (.aload_n 0, 1) := by decide +kernel
theorem d_LW_777 : decode code 777 = .ok (.iload_n 3, 1) := by decide +kernel
theorem d_LW_778 : decode code 778 = .ok (.iconst 1, 1) := by decide +kernel
theorem d_LW_779 : decode code 779 = .ok (.iadd, 1) := by decide +kernel
theorem d_LW_780 : decode code 780 = .ok (.iaload, 1) := by decide +kernel
theorem d_LW_781 : decode code 781 = .ok (.aload_n 0, 1) := by decide +kernel
theorem d_LW_782 : decode code 782 = .ok (.iload_n 3, 1) := by decide +kernel
theorem d_LW_783 : decode code 783 = .ok (.iconst 2, 1) := by decide +kernel
theorem d_LW_784 : decode code 784 = .ok (.iadd, 1) := by decide +kernel
theorem d_LW_785 : decode code 785 = .ok (.iaload, 1) := by decide +kernel
theorem d_LW_786 : decode code 786 = .ok (.invokevirtual 119, 3) := by decide +kernel
theorem d_LW_789 : decode code 789 = .ok (.aload_n 2, 1) := by decide +kernel
theorem d_LW_790 : decode code 790 = .ok (.aload_n 0, 1) := by decide +kernel
theorem d_LW_791 : decode code 791 = .ok (.iload_n 3, 1) := by decide +kernel
theorem d_LW_792 : decode code 792 = .ok (.iconst 1, 1) := by decide +kernel
theorem d_LW_793 : decode code 793 = .ok (.iadd, 1) := by decide +kernel
theorem d_LW_794 : decode code 794 = .ok (.iaload, 1) := by decide +kernel
theorem d_LW_795 : decode code 795 = .ok (.aload_n 0, 1) := by decide +kernel
theorem d_LW_796 : decode code 796 = .ok (.iload_n 3, 1) := by decide +kernel
theorem d_LW_797 : decode code 797 = .ok (.iconst 2, 1) := by decide +kernel
theorem d_LW_798 : decode code 798 = .ok (.iadd, 1) := by decide +kernel
theorem d_LW_799 : decode code 799 = .ok (.iaload, 1) := by decide +kernel
theorem d_LW_800 : decode code 800 = .ok (.invokevirtual 122, 3) := by decide +kernel
theorem d_LW_803 : decode code 803 = .ok (.if_icmp .eq 84, 3) := by decide +kernel
theorem d_LW_806 : decode code 806 = .ok (.iconst 0, 1) := by decide +kernel
theorem d_LW_807 : decode code 807 = .ok (.ireturn, 1) := by decide +kernel
theorem d_LW_808 : decode code 808 = .ok (.aload_n 1, 1) := by decide +kernel
theorem d_LW_809 : decode code 809 = .ok (.aload_n 0, 1) := by decide +kernel
theorem d_LW_810 : decode code 810 = .ok (.iload_n 3, 1) := by decide +kernel
theorem d_LW_811 : decode code 811 = .ok (.iconst 1, 1) := by decide +kernel
theorem d_LW_812 : decode code 812 = .ok (.iadd, 1) := by decide +kernel
theorem d_LW_813 : decode code 813 = .ok (.iaload, 1) := by decide +kernel
theorem d_LW_814 : decode code 814 = .ok (.invokevirtual 123, 3) := by decide +kernel
theorem d_LW_817 : decode code 817 = .ok (.aload_n 2, 1) := by decide +kernel
theorem d_LW_818 : decode code 818 = .ok (.aload_n 0, 1) := by decide +kernel
theorem d_LW_819 : decode code 819 = .ok (.iload_n 3, 1) := by decide +kernel
theorem d_LW_820 : decode code 820 = .ok (.iconst 1, 1) := by decide +kernel
theorem d_LW_821 : decode code 821 = .ok (.iadd, 1) := by decide +kernel
theorem d_LW_822 : decode code 822 = .ok (.iaload, 1) := by decide +kernel
theorem d_LW_823 : decode code 823 = .ok (.invokevirtual 126, 3) := by decide +kernel
theorem d_LW_826 : decode code 826 = .ok (.if_icmp .eq 61, 3) := by decide +kernel
theorem d_LW_829 : decode code 829 = .ok (.iconst 0, 1) := by decide +kernel
theorem d_LW_830 : decode code 830 = .ok (.ireturn, 1) := by decide +kernel
theorem d_LW_831 : decode code 831 = .ok (.aload_n 1, 1) := by decide +kernel
theorem d_LW_832 : decode code 832 = .ok (.aload_n 0, 1) := by decide +kernel
theorem d_LW_833 : decode code 833 = .ok (.iload_n 3, 1) := by decide +kernel
theorem d_LW_834 : decode code 834 = .ok (.iconst 1, 1) := by decide +kernel
theorem d_LW_835 : decode code 835 = .ok (.iadd, 1) := by decide +kernel
theorem d_LW_836 : decode code 836 = .ok (.iaload, 1) := by decide +kernel
theorem d_LW_837 : decode code 837 = .ok (.aload_n 0, 1) := by decide +kernel
theorem d_LW_838 : decode code 838 = .ok (.iload_n 3, 1) := by decide +kernel
theorem d_LW_839 : decode code 839 = .ok (.iconst 2, 1) := by decide +kernel
theorem d_LW_840 : decode code 840 = .ok (.iadd, 1) := by decide +kernel
theorem d_LW_841 : decode code 841 = .ok (.iaload, 1) := by decide +kernel
theorem d_LW_842 : decode code 842 = .ok (.invokevirtual 127, 3) := by decide +kernel
theorem d_LW_845 : decode code 845 = .ok (.aload_n 2, 1) := by decide +kernel
theorem d_LW_846 : decode code 846 = .ok (.aload_n 0, 1) := by decide +kernel
theorem d_LW_847 : decode code 847 = .ok (.iload_n 3, 1) := by decide +kernel
theorem d_LW_848 : decode code 848 = .ok (.iconst 1, 1) := by decide +kernel
theorem d_LW_849 : decode code 849 = .ok (.iadd, 1) := by decide +kernel
theorem d_LW_850 : decode code 850 = .ok (.iaload, 1) := by decide +kernel
theorem d_LW_851 : decode code 851 = .ok (.aload_n 0, 1) := by decide +kernel
theorem d_LW_852 : decode code 852 = .ok (.iload_n 3, 1) := by decide +kernel
theorem d_LW_853 : decode code 853 = .ok (.iconst 2, 1) := by decide +kernel
theorem d_LW_854 : decode code 854 = .ok (.iadd, 1) := by decide +kernel
theorem d_LW_855 : decode code 855 = .ok (.iaload, 1) := by decide +kernel
theorem d_LW_856 : decode code 856 = .ok (.invokevirtual 130, 3) := by decide +kernel
theorem d_LW_859 : decode code 859 = .ok (.if_icmp .eq 28, 3) := by decide +kernel
theorem d_LW_862 : decode code 862 = .ok (.iconst 0, 1) := by decide +kernel
theorem d_LW_863 : decode code 863 = .ok (.ireturn, 1) := by decide +kernel
theorem d_LW_864 : decode code 864 = .ok (.aload_n 1, 1) := by decide +kernel
theorem d_LW_865 : decode code 865 = .ok (.aload_n 0, 1) := by decide +kernel
theorem d_LW_866 : decode code 866 = .ok (.iload_n 3, 1) := by decide +kernel
theorem d_LW_867 : decode code 867 = .ok (.iconst 1, 1) := by decide +kernel
theorem d_LW_868 : decode code 868 = .ok (.iadd, 1) := by decide +kernel
theorem d_LW_869 : decode code 869 = .ok (.iaload, 1) := by decide +kernel
theorem d_LW_870 : decode code 870 = .ok (.invokevirtual 131, 3) := by decide +kernel
theorem d_LW_873 : decode code 873 = .ok (.aload_n 2, 1) := by decide +kernel
theorem d_LW_874 : decode code 874 = .ok (.aload_n 0, 1) := by decide +kernel
theorem d_LW_875 : decode code 875 = .ok (.iload_n 3, 1) := by decide +kernel
theorem d_LW_876 : decode code 876 = .ok (.iconst 1, 1) := by decide +kernel
theorem d_LW_877 : decode code 877 = .ok (.iadd, 1) := by decide +kernel
theorem d_LW_878 : decode code 878 = .ok (.iaload, 1) := by decide +kernel
theorem d_LW_879 : decode code 879 = .ok (.invokevirtual 134, 3) := by decide +kernel
theorem d_LW_882 : decode code 882 = .ok (.if_icmp .eq 5, 3) := by decide +kernel
theorem d_LW_885 : decode code 885 = .ok (.iconst 0, 1) := by decide +kernel
theorem d_LW_886 : decode code 886 = .ok (.ireturn, 1) := by decide +kernel
theorem d_LW_887 : decode code 887 = .ok (.iinc 3 4, 3) := by decide +kernel
theorem d_LW_890 : decode code 890 = .ok (.goto (-872), 3) := by decide +kernel
theorem d_LW_893 : decode code 893 = .ok (.iconst 1, 1) := by decide +kernel
theorem d_LW_894 : decode code 894 = .ok (.ireturn, 1) := by decide +kernel
