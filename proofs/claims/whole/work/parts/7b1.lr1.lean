/-! THE LAW: rows of its code, 1 (printed by wip/whole/g7f.py). -/
def argD (pc j : Nat) : Prop := decode code pc = .ok (.aload_n 0, 1) ∧ decode code (pc + 1) = .ok (.iload 4, 2) ∧ decode code (pc + 3) = .ok (.iconst (j : Int), 1) ∧ decode code (pc + 4) = .ok (.iadd, 1) ∧ decode code (pc + 5) = .ok (.iaload, 1)
def tailD (T : Nat) (off : Int) : Prop := (decode code T = .ok (.aload_n 2, 1) ∧ decode code (T + 1) = .ok (.invokevirtual 77, 3) ∧ decode code (T + 4) = .ok (.iload 5, 2) ∧ decode code (T + 6) = .ok (.if_icmp .eq 5, 3)) ∧ (decode code (T + 11) = .ok (.iload 5, 2) ∧ decode code (T + 13) = .ok (.ifCond .ne 15, 3) ∧ decode code (T + 16) = .ok (.aload_n 3, 1) ∧ decode code (T + 17) = .ok (.iconst 0, 1)) ∧
  (decode code (T + 18) = .ok (.laload, 1) ∧ decode code (T + 19) = .ok (.iload 6, 2) ∧ decode code (T + 21) = .ok (.i2l, 1) ∧ decode code (T + 22) = .ok (.lcmp, 1)) ∧ decode code (T + 23) = .ok (.ifCond .eq 5, 3) ∧ decode code (T + 28) = .ok (.goto off, 3) ∧ ((T + 28 : Nat) : Int) + off = ((1655 : Nat) : Int)
theorem dw_law_176 : decode code 176 = .ok (.aload_n 1, 1) := by decide +kernel
theorem ag_177 : argD 177 1 := by unfold argD; decide +kernel
theorem ag_183 : argD 183 2 := by unfold argD; decide +kernel
theorem ag_189 : argD 189 3 := by unfold argD; decide +kernel
theorem ag_195 : argD 195 4 := by unfold argD; decide +kernel
theorem ag_201 : argD 201 5 := by unfold argD; decide +kernel
theorem dw_law_207 : decode code 207 = .ok (.invokevirtual 66, 3) := by decide +kernel
theorem dw_law_210 : decode code 210 = .ok (.aload_n 2, 1) := by decide +kernel
theorem ag_211 : argD 211 1 := by unfold argD; decide +kernel
theorem ag_217 : argD 217 2 := by unfold argD; decide +kernel
theorem ag_223 : argD 223 3 := by unfold argD; decide +kernel
theorem ag_229 : argD 229 4 := by unfold argD; decide +kernel
theorem ag_235 : argD 235 5 := by unfold argD; decide +kernel
theorem dw_law_241 : decode code 241 = .ok (.invokevirtual 70, 3) := by decide +kernel
theorem dw_law_244 : decode code 244 = .ok (.if_icmp .eq 1411, 3) := by decide +kernel
theorem dw_law_249 : decode code 249 = .ok (.aload_n 1, 1) := by decide +kernel
theorem ag_250 : argD 250 1 := by unfold argD; decide +kernel
theorem dw_law_256 : decode code 256 = .ok (.aload_n 3, 1) := by decide +kernel
theorem dw_law_257 : decode code 257 = .ok (.invokestatic 71, 3) := by decide +kernel
theorem dw_law_260 : decode code 260 = .ok (.istore 5, 2) := by decide +kernel
theorem dw_law_262 : decode code 262 = .ok (.aload_n 2, 1) := by decide +kernel
theorem ag_263 : argD 263 1 := by unfold argD; decide +kernel
theorem dw_law_269 : decode code 269 = .ok (.invokevirtual 76, 3) := by decide +kernel
theorem dw_law_272 : decode code 272 = .ok (.istore 6, 2) := by decide +kernel
theorem td_274 : tailD 274 (1353) := by unfold tailD; decide +kernel
theorem dw_law_305 : decode code 305 = .ok (.aload_n 1, 1) := by decide +kernel
theorem dw_law_306 : decode code 306 = .ok (.invokevirtual 81, 3) := by decide +kernel
theorem dw_law_309 : decode code 309 = .ok (.aload_n 2, 1) := by decide +kernel
theorem dw_law_310 : decode code 310 = .ok (.invokevirtual 84, 3) := by decide +kernel
theorem dw_law_313 : decode code 313 = .ok (.if_icmp .eq 1342, 3) := by decide +kernel
theorem dw_law_318 : decode code 318 = .ok (.aload_n 1, 1) := by decide +kernel
theorem ag_319 : argD 319 1 := by unfold argD; decide +kernel
theorem dw_law_325 : decode code 325 = .ok (.aload_n 3, 1) := by decide +kernel
theorem dw_law_326 : decode code 326 = .ok (.invokestatic 85, 3) := by decide +kernel
theorem dw_law_329 : decode code 329 = .ok (.istore 5, 2) := by decide +kernel
theorem dw_law_331 : decode code 331 = .ok (.aload_n 2, 1) := by decide +kernel
theorem ag_332 : argD 332 1 := by unfold argD; decide +kernel
theorem dw_law_338 : decode code 338 = .ok (.invokevirtual 87, 3) := by decide +kernel
theorem dw_law_341 : decode code 341 = .ok (.istore 6, 2) := by decide +kernel
theorem td_343 : tailD 343 (1284) := by unfold tailD; decide +kernel
theorem dw_law_374 : decode code 374 = .ok (.aload_n 1, 1) := by decide +kernel
theorem ag_375 : argD 375 1 := by unfold argD; decide +kernel
theorem ag_381 : argD 381 2 := by unfold argD; decide +kernel
theorem dw_law_387 : decode code 387 = .ok (.aload_n 3, 1) := by decide +kernel
theorem dw_law_388 : decode code 388 = .ok (.invokestatic 88, 3) := by decide +kernel
theorem dw_law_391 : decode code 391 = .ok (.istore 5, 2) := by decide +kernel
theorem dw_law_393 : decode code 393 = .ok (.aload_n 2, 1) := by decide +kernel
theorem ag_394 : argD 394 1 := by unfold argD; decide +kernel
theorem ag_400 : argD 400 2 := by unfold argD; decide +kernel
theorem dw_law_406 : decode code 406 = .ok (.invokevirtual 91, 3) := by decide +kernel
theorem dw_law_409 : decode code 409 = .ok (.istore 6, 2) := by decide +kernel
theorem td_411 : tailD 411 (1216) := by unfold tailD; decide +kernel
theorem dw_law_442 : decode code 442 = .ok (.aload_n 1, 1) := by decide +kernel
theorem ag_443 : argD 443 1 := by unfold argD; decide +kernel
theorem ag_449 : argD 449 2 := by unfold argD; decide +kernel
theorem dw_law_455 : decode code 455 = .ok (.aload_n 3, 1) := by decide +kernel
theorem dw_law_456 : decode code 456 = .ok (.invokestatic 92, 3) := by decide +kernel
theorem dw_law_459 : decode code 459 = .ok (.istore 5, 2) := by decide +kernel
theorem dw_law_461 : decode code 461 = .ok (.aload_n 2, 1) := by decide +kernel
theorem ag_462 : argD 462 1 := by unfold argD; decide +kernel
theorem ag_468 : argD 468 2 := by unfold argD; decide +kernel
theorem dw_law_474 : decode code 474 = .ok (.invokevirtual 94, 3) := by decide +kernel
theorem dw_law_477 : decode code 477 = .ok (.istore 6, 2) := by decide +kernel
theorem td_479 : tailD 479 (1148) := by unfold tailD; decide +kernel
theorem dw_law_510 : decode code 510 = .ok (.aload_n 1, 1) := by decide +kernel
theorem ag_511 : argD 511 1 := by unfold argD; decide +kernel
theorem ag_517 : argD 517 2 := by unfold argD; decide +kernel
theorem ag_523 : argD 523 3 := by unfold argD; decide +kernel
theorem dw_law_529 : decode code 529 = .ok (.aload_n 3, 1) := by decide +kernel
theorem dw_law_530 : decode code 530 = .ok (.invokestatic 95, 3) := by decide +kernel
theorem dw_law_533 : decode code 533 = .ok (.istore 5, 2) := by decide +kernel
theorem dw_law_535 : decode code 535 = .ok (.aload_n 2, 1) := by decide +kernel
theorem ag_536 : argD 536 1 := by unfold argD; decide +kernel
theorem ag_542 : argD 542 2 := by unfold argD; decide +kernel
theorem ag_548 : argD 548 3 := by unfold argD; decide +kernel
theorem dw_law_554 : decode code 554 = .ok (.invokevirtual 98, 3) := by decide +kernel
theorem dw_law_557 : decode code 557 = .ok (.istore 6, 2) := by decide +kernel
theorem td_559 : tailD 559 (1068) := by unfold tailD; decide +kernel
theorem dw_law_590 : decode code 590 = .ok (.aload_n 1, 1) := by decide +kernel
theorem ag_591 : argD 591 1 := by unfold argD; decide +kernel
theorem dw_law_597 : decode code 597 = .ok (.invokevirtual 99, 3) := by decide +kernel
theorem dw_law_600 : decode code 600 = .ok (.aload_n 2, 1) := by decide +kernel
theorem ag_601 : argD 601 1 := by unfold argD; decide +kernel
theorem dw_law_607 : decode code 607 = .ok (.invokevirtual 102, 3) := by decide +kernel
theorem dw_law_610 : decode code 610 = .ok (.if_icmp .eq 1045, 3) := by decide +kernel
theorem dw_law_615 : decode code 615 = .ok (.aload_n 1, 1) := by decide +kernel
theorem ag_616 : argD 616 1 := by unfold argD; decide +kernel
theorem dw_law_622 : decode code 622 = .ok (.invokevirtual 103, 3) := by decide +kernel
theorem dw_law_625 : decode code 625 = .ok (.aload_n 2, 1) := by decide +kernel
theorem ag_626 : argD 626 1 := by unfold argD; decide +kernel
theorem dw_law_632 : decode code 632 = .ok (.invokevirtual 106, 3) := by decide +kernel
theorem dw_law_635 : decode code 635 = .ok (.if_icmp .eq 1020, 3) := by decide +kernel
theorem dw_law_640 : decode code 640 = .ok (.aload_n 1, 1) := by decide +kernel
theorem ag_641 : argD 641 1 := by unfold argD; decide +kernel
theorem ag_647 : argD 647 2 := by unfold argD; decide +kernel
theorem dw_law_653 : decode code 653 = .ok (.aload_n 3, 1) := by decide +kernel
theorem dw_law_654 : decode code 654 = .ok (.invokestatic 107, 3) := by decide +kernel
theorem dw_law_657 : decode code 657 = .ok (.istore 5, 2) := by decide +kernel
theorem dw_law_659 : decode code 659 = .ok (.aload_n 2, 1) := by decide +kernel
theorem ag_660 : argD 660 1 := by unfold argD; decide +kernel
theorem ag_666 : argD 666 2 := by unfold argD; decide +kernel
theorem dw_law_672 : decode code 672 = .ok (.invokevirtual 109, 3) := by decide +kernel
theorem dw_law_675 : decode code 675 = .ok (.istore 6, 2) := by decide +kernel
theorem td_677 : tailD 677 (950) := by unfold tailD; decide +kernel
theorem dw_law_708 : decode code 708 = .ok (.aload_n 1, 1) := by decide +kernel
theorem ag_709 : argD 709 1 := by unfold argD; decide +kernel
theorem ag_715 : argD 715 2 := by unfold argD; decide +kernel
theorem ag_721 : argD 721 3 := by unfold argD; decide +kernel
theorem ag_727 : argD 727 4 := by unfold argD; decide +kernel
theorem dw_law_733 : decode code 733 = .ok (.aload_n 3, 1) := by decide +kernel
theorem dw_law_734 : decode code 734 = .ok (.invokestatic 110, 3) := by decide +kernel
theorem dw_law_737 : decode code 737 = .ok (.istore 5, 2) := by decide +kernel
theorem dw_law_739 : decode code 739 = .ok (.aload_n 2, 1) := by decide +kernel
theorem ag_740 : argD 740 1 := by unfold argD; decide +kernel
theorem ag_746 : argD 746 2 := by unfold argD; decide +kernel
theorem ag_752 : argD 752 3 := by unfold argD; decide +kernel
theorem ag_758 : argD 758 4 := by unfold argD; decide +kernel
theorem dw_law_764 : decode code 764 = .ok (.invokevirtual 113, 3) := by decide +kernel
theorem dw_law_767 : decode code 767 = .ok (.istore 6, 2) := by decide +kernel
theorem td_769 : tailD 769 (858) := by unfold tailD; decide +kernel
theorem dw_law_800 : decode code 800 = .ok (.aload_n 1, 1) := by decide +kernel
theorem ag_801 : argD 801 1 := by unfold argD; decide +kernel
theorem ag_807 : argD 807 2 := by unfold argD; decide +kernel
theorem ag_813 : argD 813 3 := by unfold argD; decide +kernel
theorem dw_law_819 : decode code 819 = .ok (.aload_n 3, 1) := by decide +kernel
theorem dw_law_820 : decode code 820 = .ok (.invokestatic 114, 3) := by decide +kernel
theorem dw_law_823 : decode code 823 = .ok (.istore 5, 2) := by decide +kernel
theorem dw_law_825 : decode code 825 = .ok (.aload_n 2, 1) := by decide +kernel
theorem ag_826 : argD 826 1 := by unfold argD; decide +kernel
theorem ag_832 : argD 832 2 := by unfold argD; decide +kernel
theorem ag_838 : argD 838 3 := by unfold argD; decide +kernel
theorem dw_law_844 : decode code 844 = .ok (.invokevirtual 116, 3) := by decide +kernel
theorem dw_law_847 : decode code 847 = .ok (.istore 6, 2) := by decide +kernel
theorem td_849 : tailD 849 (778) := by unfold tailD; decide +kernel
theorem dw_law_880 : decode code 880 = .ok (.aload_n 1, 1) := by decide +kernel
theorem ag_881 : argD 881 1 := by unfold argD; decide +kernel
theorem ag_887 : argD 887 2 := by unfold argD; decide +kernel
theorem dw_law_893 : decode code 893 = .ok (.aload_n 3, 1) := by decide +kernel
theorem dw_law_894 : decode code 894 = .ok (.invokestatic 117, 3) := by decide +kernel
theorem dw_law_897 : decode code 897 = .ok (.istore 5, 2) := by decide +kernel
theorem dw_law_899 : decode code 899 = .ok (.aload_n 2, 1) := by decide +kernel
theorem ag_900 : argD 900 1 := by unfold argD; decide +kernel
theorem ag_906 : argD 906 2 := by unfold argD; decide +kernel
theorem dw_law_912 : decode code 912 = .ok (.invokevirtual 119, 3) := by decide +kernel
theorem dw_law_915 : decode code 915 = .ok (.istore 6, 2) := by decide +kernel
theorem td_917 : tailD 917 (710) := by unfold tailD; decide +kernel
theorem dw_law_948 : decode code 948 = .ok (.aload_n 1, 1) := by decide +kernel
theorem ag_949 : argD 949 1 := by unfold argD; decide +kernel
theorem ag_955 : argD 955 2 := by unfold argD; decide +kernel
theorem dw_law_961 : decode code 961 = .ok (.aload_n 3, 1) := by decide +kernel
theorem dw_law_962 : decode code 962 = .ok (.invokestatic 120, 3) := by decide +kernel
theorem dw_law_965 : decode code 965 = .ok (.istore 5, 2) := by decide +kernel
theorem dw_law_967 : decode code 967 = .ok (.aload_n 2, 1) := by decide +kernel
theorem ag_968 : argD 968 1 := by unfold argD; decide +kernel
theorem ag_974 : argD 974 2 := by unfold argD; decide +kernel
theorem dw_law_980 : decode code 980 = .ok (.invokevirtual 122, 3) := by decide +kernel
theorem dw_law_983 : decode code 983 = .ok (.istore 6, 2) := by decide +kernel
theorem td_985 : tailD 985 (642) := by unfold tailD; decide +kernel
theorem dw_law_1016 : decode code 1016 = .ok (.aload_n 1, 1) := by decide +kernel
theorem ag_1017 : argD 1017 1 := by unfold argD; decide +kernel
theorem ag_1023 : argD 1023 2 := by unfold argD; decide +kernel
theorem dw_law_1029 : decode code 1029 = .ok (.aload_n 3, 1) := by decide +kernel
theorem dw_law_1030 : decode code 1030 = .ok (.invokestatic 123, 3) := by decide +kernel
theorem dw_law_1033 : decode code 1033 = .ok (.istore 5, 2) := by decide +kernel
theorem dw_law_1035 : decode code 1035 = .ok (.aload_n 2, 1) := by decide +kernel
theorem ag_1036 : argD 1036 1 := by unfold argD; decide +kernel
theorem ag_1042 : argD 1042 2 := by unfold argD; decide +kernel
