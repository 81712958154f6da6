theorem dX9_effect_359 : decode cX9_effect 359 = .ok (.ifCond .ne 7, 3) := by decide +kernel
theorem dX9_effect_362 : decode cX9_effect 362 = .ok (.iconst 3, 1) := by decide +kernel
theorem dX9_effect_363 : decode cX9_effect 363 = .ok (.goto 16, 3) := by decide +kernel
theorem dX9_effect_366 : decode cX9_effect 366 = .ok (.aload_n 0, 1) := by decide +kernel
theorem dX9_effect_367 : decode cX9_effect 367 = .ok (.invokevirtual 107, 3) := by decide +kernel
theorem dX9_effect_370 : decode cX9_effect 370 = .ok (.ifCond .eq 7, 3) := by decide +kernel
theorem dX9_effect_373 : decode cX9_effect 373 = .ok (.iconst 0, 1) := by decide +kernel
theorem dX9_effect_374 : decode cX9_effect 374 = .ok (.goto 5, 3) := by decide +kernel
theorem dX9_effect_377 : decode cX9_effect 377 = .ok (.bipush 6, 2) := by decide +kernel
theorem dX9_effect_379 : decode cX9_effect 379 = .ok (.ireturn, 1) := by decide +kernel
theorem dX9_effect_380 : decode cX9_effect 380 = .ok (.aload_n 0, 1) := by decide +kernel
theorem dX9_effect_381 : decode cX9_effect 381 = .ok (.iload_n 1, 1) := by decide +kernel
theorem dX9_effect_382 : decode cX9_effect 382 = .ok (.iload 4, 2) := by decide +kernel
theorem dX9_effect_384 : decode cX9_effect 384 = .ok (.invokevirtual 111, 3) := by decide +kernel
theorem dX9_effect_387 : decode cX9_effect 387 = .ok (.ifCond .eq 7, 3) := by decide +kernel
theorem dX9_effect_390 : decode cX9_effect 390 = .ok (.iconst 0, 1) := by decide +kernel
theorem dX9_effect_391 : decode cX9_effect 391 = .ok (.goto 4, 3) := by decide +kernel
theorem dX9_effect_394 : decode cX9_effect 394 = .ok (.iconst 3, 1) := by decide +kernel
theorem dX9_effect_395 : decode cX9_effect 395 = .ok (.ireturn, 1) := by decide +kernel
theorem dX9_effect_396 : decode cX9_effect 396 = .ok (.aload_n 0, 1) := by decide +kernel
theorem dX9_effect_397 : decode cX9_effect 397 = .ok (.iload 4, 2) := by decide +kernel
theorem dX9_effect_399 : decode cX9_effect 399 = .ok (.invokevirtual 87, 3) := by decide +kernel
theorem dX9_effect_402 : decode cX9_effect 402 = .ok (.ireturn, 1) := by decide +kernel
theorem dX9_effect_403 : decode cX9_effect 403 = .ok (.iload 6, 2) := by decide +kernel
theorem dX9_effect_405 : decode cX9_effect 405 = .ok (.iconst 2, 1) := by decide +kernel
theorem dX9_effect_406 : decode cX9_effect 406 = .ok (.if_icmp .lt 36, 3) := by decide +kernel
theorem dX9_effect_409 : decode cX9_effect 409 = .ok (.aload_n 0, 1) := by decide +kernel
theorem dX9_effect_410 : decode cX9_effect 410 = .ok (.getfield 29, 3) := by decide +kernel
theorem dX9_effect_413 : decode cX9_effect 413 = .ok (.iconst 2, 1) := by decide +kernel
theorem dX9_effect_414 : decode cX9_effect 414 = .ok (.iaload, 1) := by decide +kernel
theorem dX9_effect_415 : decode cX9_effect 415 = .ok (.iload 6, 2) := by decide +kernel
theorem dX9_effect_417 : decode cX9_effect 417 = .ok (.if_icmp .eq 25, 3) := by decide +kernel
theorem dX9_effect_420 : decode cX9_effect 420 = .ok (.aload_n 0, 1) := by decide +kernel
theorem dX9_effect_421 : decode cX9_effect 421 = .ok (.getfield 29, 3) := by decide +kernel
theorem dX9_effect_424 : decode cX9_effect 424 = .ok (.iconst 3, 1) := by decide +kernel
theorem dX9_effect_425 : decode cX9_effect 425 = .ok (.iaload, 1) := by decide +kernel
theorem dX9_effect_426 : decode cX9_effect 426 = .ok (.iload 6, 2) := by decide +kernel
theorem dX9_effect_428 : decode cX9_effect 428 = .ok (.if_icmp .eq 14, 3) := by decide +kernel
theorem dX9_effect_431 : decode cX9_effect 431 = .ok (.aload_n 0, 1) := by decide +kernel
theorem dX9_effect_432 : decode cX9_effect 432 = .ok (.getfield 29, 3) := by decide +kernel
theorem dX9_effect_435 : decode cX9_effect 435 = .ok (.iconst 4, 1) := by decide +kernel
theorem dX9_effect_436 : decode cX9_effect 436 = .ok (.iaload, 1) := by decide +kernel
theorem dX9_effect_437 : decode cX9_effect 437 = .ok (.iload 6, 2) := by decide +kernel
theorem dX9_effect_439 : decode cX9_effect 439 = .ok (.if_icmp .ne 6, 3) := by decide +kernel
theorem dX9_effect_442 : decode cX9_effect 442 = .ok (.bipush 8, 2) := by decide +kernel
theorem dX9_effect_444 : decode cX9_effect 444 = .ok (.ireturn, 1) := by decide +kernel
theorem dX9_effect_445 : decode cX9_effect 445 = .ok (.aload_n 0, 1) := by decide +kernel
theorem dX9_effect_446 : decode cX9_effect 446 = .ok (.iload 4, 2) := by decide +kernel
theorem dX9_effect_448 : decode cX9_effect 448 = .ok (.iload 6, 2) := by decide +kernel
theorem dX9_effect_450 : decode cX9_effect 450 = .ok (.invokevirtual 93, 3) := by decide +kernel
theorem dX9_effect_453 : decode cX9_effect 453 = .ok (.iconst 0, 1) := by decide +kernel
theorem dX9_effect_454 : decode cX9_effect 454 = .ok (.ireturn, 1) := by decide +kernel
theorem dX9_effect_455 : decode cX9_effect 455 = .ok (.iload 5, 2) := by decide +kernel
theorem dX9_effect_457 : decode cX9_effect 457 = .ok (.aload_n 0, 1) := by decide +kernel
theorem dX9_effect_458 : decode cX9_effect 458 = .ok (.getfield 29, 3) := by decide +kernel
theorem dX9_effect_461 : decode cX9_effect 461 = .ok (.iconst 0, 1) := by decide +kernel
theorem dX9_effect_462 : decode cX9_effect 462 = .ok (.iaload, 1) := by decide +kernel
theorem dX9_effect_463 : decode cX9_effect 463 = .ok (.iconst 1, 1) := by decide +kernel
theorem dX9_effect_464 : decode cX9_effect 464 = .ok (.isub, 1) := by decide +kernel
theorem dX9_effect_465 : decode cX9_effect 465 = .ok (.if_icmp .lt 8, 3) := by decide +kernel
theorem dX9_effect_468 : decode cX9_effect 468 = .ok (.bipush 8, 2) := by decide +kernel
theorem dX9_effect_470 : decode cX9_effect 470 = .ok (.goto 11, 3) := by decide +kernel
theorem dX9_effect_473 : decode cX9_effect 473 = .ok (.aload_n 0, 1) := by decide +kernel
theorem dX9_effect_474 : decode cX9_effect 474 = .ok (.iload 4, 2) := by decide +kernel
theorem dX9_effect_476 : decode cX9_effect 476 = .ok (.iload 6, 2) := by decide +kernel
theorem dX9_effect_478 : decode cX9_effect 478 = .ok (.invokevirtual 97, 3) := by decide +kernel
theorem dX9_effect_481 : decode cX9_effect 481 = .ok (.ireturn, 1) := by decide +kernel
theorem dX9_effect_482 : decode cX9_effect 482 = .ok (.iconst 0, 1) := by decide +kernel
theorem dX9_effect_483 : decode cX9_effect 483 = .ok (.ireturn, 1) := by decide +kernel
theorem dX9_learn_0 : decode cX9_learn 0 = .ok (.iconst 1, 1) := by decide +kernel
theorem dX9_learn_1 : decode cX9_learn 1 = .ok (.istore_n 2, 1) := by decide +kernel
theorem dX9_learn_2 : decode cX9_learn 2 = .ok (.iconst 0, 1) := by decide +kernel
theorem dX9_learn_3 : decode cX9_learn 3 = .ok (.istore_n 3, 1) := by decide +kernel
theorem dX9_learn_4 : decode cX9_learn 4 = .ok (.iload_n 3, 1) := by decide +kernel
theorem dX9_learn_5 : decode cX9_learn 5 = .ok (.iconst 5, 1) := by decide +kernel
theorem dX9_learn_6 : decode cX9_learn 6 = .ok (.if_icmp .ge 38, 3) := by decide +kernel
theorem dX9_learn_9 : decode cX9_learn 9 = .ok (.iload_n 2, 1) := by decide +kernel
theorem dX9_learn_10 : decode cX9_learn 10 = .ok (.ifCond .eq 26, 3) := by decide +kernel
theorem dX9_learn_13 : decode cX9_learn 13 = .ok (.aload_n 0, 1) := by decide +kernel
theorem dX9_learn_14 : decode cX9_learn 14 = .ok (.getfield 19, 3) := by decide +kernel
theorem dX9_learn_17 : decode cX9_learn 17 = .ok (.iconst 5, 1) := by decide +kernel
theorem dX9_learn_18 : decode cX9_learn 18 = .ok (.iload_n 1, 1) := by decide +kernel
theorem dX9_learn_19 : decode cX9_learn 19 = .ok (.imul, 1) := by decide +kernel
theorem dX9_learn_20 : decode cX9_learn 20 = .ok (.iload_n 3, 1) := by decide +kernel
theorem dX9_learn_21 : decode cX9_learn 21 = .ok (.iadd, 1) := by decide +kernel
theorem dX9_learn_22 : decode cX9_learn 22 = .ok (.iaload, 1) := by decide +kernel
theorem dX9_learn_23 : decode cX9_learn 23 = .ok (.aload_n 0, 1) := by decide +kernel
theorem dX9_learn_24 : decode cX9_learn 24 = .ok (.getfield 29, 3) := by decide +kernel
theorem dX9_learn_27 : decode cX9_learn 27 = .ok (.iload_n 3, 1) := by decide +kernel
theorem dX9_learn_28 : decode cX9_learn 28 = .ok (.iaload, 1) := by decide +kernel
theorem dX9_learn_29 : decode cX9_learn 29 = .ok (.if_icmp .ne 7, 3) := by decide +kernel
theorem dX9_learn_32 : decode cX9_learn 32 = .ok (.iconst 1, 1) := by decide +kernel
theorem dX9_learn_33 : decode cX9_learn 33 = .ok (.goto 4, 3) := by decide +kernel
theorem dX9_learn_36 : decode cX9_learn 36 = .ok (.iconst 0, 1) := by decide +kernel
theorem dX9_learn_37 : decode cX9_learn 37 = .ok (.istore_n 2, 1) := by decide +kernel
theorem dX9_learn_38 : decode cX9_learn 38 = .ok (.iinc 3 1, 3) := by decide +kernel
theorem dX9_learn_41 : decode cX9_learn 41 = .ok (.goto (-37), 3) := by decide +kernel
theorem dX9_learn_44 : decode cX9_learn 44 = .ok (.aload_n 0, 1) := by decide +kernel
theorem dX9_learn_45 : decode cX9_learn 45 = .ok (.getfield 19, 3) := by decide +kernel
theorem dX9_learn_48 : decode cX9_learn 48 = .ok (.iconst 5, 1) := by decide +kernel
theorem dX9_learn_49 : decode cX9_learn 49 = .ok (.iload_n 1, 1) := by decide +kernel
theorem dX9_learn_50 : decode cX9_learn 50 = .ok (.imul, 1) := by decide +kernel
theorem dX9_learn_51 : decode cX9_learn 51 = .ok (.iaload, 1) := by decide +kernel
theorem dX9_learn_52 : decode cX9_learn 52 = .ok (.ifCond .le 5, 3) := by decide +kernel
theorem dX9_learn_55 : decode cX9_learn 55 = .ok (.iload_n 2, 1) := by decide +kernel
theorem dX9_learn_56 : decode cX9_learn 56 = .ok (.ireturn, 1) := by decide +kernel
theorem dX9_learn_57 : decode cX9_learn 57 = .ok (.iconst 0, 1) := by decide +kernel
theorem dX9_learn_58 : decode cX9_learn 58 = .ok (.istore_n 3, 1) := by decide +kernel
theorem dX9_learn_59 : decode cX9_learn 59 = .ok (.iload_n 3, 1) := by decide +kernel
theorem dX9_learn_60 : decode cX9_learn 60 = .ok (.iconst 5, 1) := by decide +kernel
theorem dX9_learn_61 : decode cX9_learn 61 = .ok (.if_icmp .ge 25, 3) := by decide +kernel
theorem dX9_learn_64 : decode cX9_learn 64 = .ok (.aload_n 0, 1) := by decide +kernel
theorem dX9_learn_65 : decode cX9_learn 65 = .ok (.getfield 19, 3) := by decide +kernel
theorem dX9_learn_68 : decode cX9_learn 68 = .ok (.iconst 5, 1) := by decide +kernel
theorem dX9_learn_69 : decode cX9_learn 69 = .ok (.iload_n 1, 1) := by decide +kernel
theorem dX9_learn_70 : decode cX9_learn 70 = .ok (.imul, 1) := by decide +kernel
theorem dX9_learn_71 : decode cX9_learn 71 = .ok (.iload_n 3, 1) := by decide +kernel
theorem dX9_learn_72 : decode cX9_learn 72 = .ok (.iadd, 1) := by decide +kernel
theorem dX9_learn_73 : decode cX9_learn 73 = .ok (.aload_n 0, 1) := by decide +kernel
theorem dX9_learn_74 : decode cX9_learn 74 = .ok (.getfield 29, 3) := by decide +kernel
theorem dX9_learn_77 : decode cX9_learn 77 = .ok (.iload_n 3, 1) := by decide +kernel
theorem dX9_learn_78 : decode cX9_learn 78 = .ok (.iaload, 1) := by decide +kernel
theorem dX9_learn_79 : decode cX9_learn 79 = .ok (.iastore, 1) := by decide +kernel
theorem dX9_learn_80 : decode cX9_learn 80 = .ok (.iinc 3 1, 3) := by decide +kernel
theorem dX9_learn_83 : decode cX9_learn 83 = .ok (.goto (-24), 3) := by decide +kernel
theorem dX9_learn_86 : decode cX9_learn 86 = .ok (.iconst 1, 1) := by decide +kernel
theorem dX9_learn_87 : decode cX9_learn 87 = .ok (.ireturn, 1) := by decide +kernel
theorem dX9_findOut_0 : decode cX9_findOut 0 = .ok (.aload_n 0, 1) := by decide +kernel
theorem dX9_findOut_1 : decode cX9_findOut 1 = .ok (.getfield 13, 3) := by decide +kernel
theorem dX9_findOut_4 : decode cX9_findOut 4 = .ok (.iload_n 1, 1) := by decide +kernel
theorem dX9_findOut_5 : decode cX9_findOut 5 = .ok (.iaload, 1) := by decide +kernel
theorem dX9_findOut_6 : decode cX9_findOut 6 = .ok (.istore_n 2, 1) := by decide +kernel
theorem dX9_findOut_7 : decode cX9_findOut 7 = .ok (.aload_n 0, 1) := by decide +kernel
theorem dX9_findOut_8 : decode cX9_findOut 8 = .ok (.getfield 26, 3) := by decide +kernel
theorem dX9_findOut_11 : decode cX9_findOut 11 = .ok (.iload_n 2, 1) := by decide +kernel
theorem dX9_findOut_12 : decode cX9_findOut 12 = .ok (.iconst 1, 1) := by decide +kernel
theorem dX9_findOut_13 : decode cX9_findOut 13 = .ok (.bastore, 1) := by decide +kernel
theorem dX9_findOut_14 : decode cX9_findOut 14 = .ok (.aload_n 0, 1) := by decide +kernel
theorem dX9_findOut_15 : decode cX9_findOut 15 = .ok (.iload_n 2, 1) := by decide +kernel
theorem dX9_findOut_16 : decode cX9_findOut 16 = .ok (.aload_n 0, 1) := by decide +kernel
theorem dX9_findOut_17 : decode cX9_findOut 17 = .ok (.getfield 16, 3) := by decide +kernel
theorem dX9_findOut_20 : decode cX9_findOut 20 = .ok (.iload_n 1, 1) := by decide +kernel
theorem dX9_findOut_21 : decode cX9_findOut 21 = .ok (.iaload, 1) := by decide +kernel
theorem dX9_findOut_22 : decode cX9_findOut 22 = .ok (.invokevirtual 115, 3) := by decide +kernel
theorem dX9_findOut_25 : decode cX9_findOut 25 = .ok (.ifCond .eq 25, 3) := by decide +kernel
theorem dX9_findOut_28 : decode cX9_findOut 28 = .ok (.iload_n 2, 1) := by decide +kernel
theorem dX9_findOut_29 : decode cX9_findOut 29 = .ok (.aload_n 0, 1) := by decide +kernel
theorem dX9_findOut_30 : decode cX9_findOut 30 = .ok (.getfield 7, 3) := by decide +kernel
theorem dX9_findOut_33 : decode cX9_findOut 33 = .ok (.iload_n 2, 1) := by decide +kernel
theorem dX9_findOut_34 : decode cX9_findOut 34 = .ok (.iaload, 1) := by decide +kernel
theorem dX9_findOut_35 : decode cX9_findOut 35 = .ok (.invokestatic 79, 3) := by decide +kernel
theorem dX9_findOut_38 : decode cX9_findOut 38 = .ok (.iadd, 1) := by decide +kernel
theorem dX9_findOut_39 : decode cX9_findOut 39 = .ok (.istore_n 2, 1) := by decide +kernel
theorem dX9_findOut_40 : decode cX9_findOut 40 = .ok (.aload_n 0, 1) := by decide +kernel
theorem dX9_findOut_41 : decode cX9_findOut 41 = .ok (.getfield 26, 3) := by decide +kernel
theorem dX9_findOut_44 : decode cX9_findOut 44 = .ok (.iload_n 2, 1) := by decide +kernel
theorem dX9_findOut_45 : decode cX9_findOut 45 = .ok (.iconst 1, 1) := by decide +kernel
theorem dX9_findOut_46 : decode cX9_findOut 46 = .ok (.bastore, 1) := by decide +kernel
theorem dX9_findOut_47 : decode cX9_findOut 47 = .ok (.goto (-33), 3) := by decide +kernel
theorem dX9_findOut_50 : decode cX9_findOut 50 = .ok (.aload_n 0, 1) := by decide +kernel
theorem dX9_findOut_51 : decode cX9_findOut 51 = .ok (.getfield 29, 3) := by decide +kernel
theorem dX9_findOut_54 : decode cX9_findOut 54 = .ok (.iconst 0, 1) := by decide +kernel
theorem dX9_findOut_55 : decode cX9_findOut 55 = .ok (.iconst 1, 1) := by decide +kernel
theorem dX9_findOut_56 : decode cX9_findOut 56 = .ok (.iastore, 1) := by decide +kernel
theorem dX9_findOut_57 : decode cX9_findOut 57 = .ok (.iconst 1, 1) := by decide +kernel
theorem dX9_findOut_58 : decode cX9_findOut 58 = .ok (.istore_n 3, 1) := by decide +kernel
theorem dX9_findOut_59 : decode cX9_findOut 59 = .ok (.iload_n 3, 1) := by decide +kernel
theorem dX9_findOut_60 : decode cX9_findOut 60 = .ok (.iconst 5, 1) := by decide +kernel
theorem dX9_findOut_61 : decode cX9_findOut 61 = .ok (.if_icmp .ge 16, 3) := by decide +kernel
theorem dX9_findOut_64 : decode cX9_findOut 64 = .ok (.aload_n 0, 1) := by decide +kernel
theorem dX9_findOut_65 : decode cX9_findOut 65 = .ok (.getfield 29, 3) := by decide +kernel
theorem dX9_findOut_68 : decode cX9_findOut 68 = .ok (.iload_n 3, 1) := by decide +kernel
theorem dX9_findOut_69 : decode cX9_findOut 69 = .ok (.iconst 0, 1) := by decide +kernel
theorem dX9_findOut_70 : decode cX9_findOut 70 = .ok (.iastore, 1) := by decide +kernel
theorem dX9_findOut_71 : decode cX9_findOut 71 = .ok (.iinc 3 1, 3) := by decide +kernel
theorem dX9_findOut_74 : decode cX9_findOut 74 = .ok (.goto (-15), 3) := by decide +kernel
theorem dX9_findOut_77 : decode cX9_findOut 77 = .ok (.aload_n 0, 1) := by decide +kernel
theorem dX9_findOut_78 : decode cX9_findOut 78 = .ok (.aload_n 0, 1) := by decide +kernel
theorem dX9_findOut_79 : decode cX9_findOut 79 = .ok (.getfield 13, 3) := by decide +kernel
theorem dX9_findOut_82 : decode cX9_findOut 82 = .ok (.iload_n 1, 1) := by decide +kernel
theorem dX9_findOut_83 : decode cX9_findOut 83 = .ok (.iaload, 1) := by decide +kernel
theorem dX9_findOut_84 : decode cX9_findOut 84 = .ok (.invokevirtual 118, 3) := by decide +kernel
theorem dX9_findOut_87 : decode cX9_findOut 87 = .ok (.istore_n 3, 1) := by decide +kernel
theorem dX9_findOut_88 : decode cX9_findOut 88 = .ok (.aload_n 0, 1) := by decide +kernel
theorem dX9_findOut_89 : decode cX9_findOut 89 = .ok (.getfield 13, 3) := by decide +kernel
theorem dX9_findOut_92 : decode cX9_findOut 92 = .ok (.iload_n 1, 1) := by decide +kernel
theorem dX9_findOut_93 : decode cX9_findOut 93 = .ok (.iaload, 1) := by decide +kernel
theorem dX9_findOut_94 : decode cX9_findOut 94 = .ok (.istore 4, 2) := by decide +kernel
theorem dX9_findOut_96 : decode cX9_findOut 96 = .ok (.iload 4, 2) := by decide +kernel
theorem dX9_findOut_98 : decode cX9_findOut 98 = .ok (.aload_n 0, 1) := by decide +kernel
theorem dX9_findOut_99 : decode cX9_findOut 99 = .ok (.getfield 16, 3) := by decide +kernel
theorem dX9_findOut_102 : decode cX9_findOut 102 = .ok (.iload_n 1, 1) := by decide +kernel
theorem dX9_findOut_103 : decode cX9_findOut 103 = .ok (.iaload, 1) := by decide +kernel
theorem dX9_findOut_104 : decode cX9_findOut 104 = .ok (.if_icmp .gt 283, 3) := by decide +kernel
theorem dX9_findOut_107 : decode cX9_findOut 107 = .ok (.aload_n 0, 1) := by decide +kernel
theorem dX9_findOut_108 : decode cX9_findOut 108 = .ok (.getfield 19, 3) := by decide +kernel
theorem dX9_findOut_111 : decode cX9_findOut 111 = .ok (.iconst 5, 1) := by decide +kernel
theorem dX9_findOut_112 : decode cX9_findOut 112 = .ok (.iload 4, 2) := by decide +kernel
theorem dX9_findOut_114 : decode cX9_findOut 114 = .ok (.imul, 1) := by decide +kernel
theorem dX9_findOut_115 : decode cX9_findOut 115 = .ok (.iaload, 1) := by decide +kernel
theorem dX9_findOut_116 : decode cX9_findOut 116 = .ok (.ifCond .eq 13, 3) := by decide +kernel
theorem dX9_findOut_119 : decode cX9_findOut 119 = .ok (.aload_n 0, 1) := by decide +kernel
theorem dX9_findOut_120 : decode cX9_findOut 120 = .ok (.getfield 22, 3) := by decide +kernel
theorem dX9_findOut_123 : decode cX9_findOut 123 = .ok (.iload 4, 2) := by decide +kernel
theorem dX9_findOut_125 : decode cX9_findOut 125 = .ok (.baload, 1) := by decide +kernel
theorem dX9_findOut_126 : decode cX9_findOut 126 = .ok (.ifCond .eq 9, 3) := by decide +kernel
theorem dX9_findOut_129 : decode cX9_findOut 129 = .ok (.iinc 4 1, 3) := by decide +kernel
theorem dX9_findOut_132 : decode cX9_findOut 132 = .ok (.goto (-36), 3) := by decide +kernel
theorem dX9_findOut_135 : decode cX9_findOut 135 = .ok (.aload_n 0, 1) := by decide +kernel
theorem dX9_findOut_136 : decode cX9_findOut 136 = .ok (.getfield 22, 3) := by decide +kernel
theorem dX9_findOut_139 : decode cX9_findOut 139 = .ok (.iload 4, 2) := by decide +kernel
theorem dX9_findOut_141 : decode cX9_findOut 141 = .ok (.iconst 1, 1) := by decide +kernel
theorem dX9_findOut_142 : decode cX9_findOut 142 = .ok (.bastore, 1) := by decide +kernel
theorem dX9_findOut_143 : decode cX9_findOut 143 = .ok (.iload 4, 2) := by decide +kernel
theorem dX9_findOut_145 : decode cX9_findOut 145 = .ok (.aload_n 0, 1) := by decide +kernel
theorem dX9_findOut_146 : decode cX9_findOut 146 = .ok (.getfield 16, 3) := by decide +kernel
theorem dX9_findOut_149 : decode cX9_findOut 149 = .ok (.iload_n 1, 1) := by decide +kernel
theorem dX9_findOut_150 : decode cX9_findOut 150 = .ok (.iaload, 1) := by decide +kernel
theorem dX9_findOut_151 : decode cX9_findOut 151 = .ok (.if_icmp .ne 10, 3) := by decide +kernel
theorem dX9_findOut_154 : decode cX9_findOut 154 = .ok (.sipush 200, 3) := by decide +kernel
theorem dX9_findOut_157 : decode cX9_findOut 157 = .ok (.iload 4, 2) := by decide +kernel
theorem dX9_findOut_159 : decode cX9_findOut 159 = .ok (.iadd, 1) := by decide +kernel
theorem dX9_findOut_160 : decode cX9_findOut 160 = .ok (.ireturn, 1) := by decide +kernel
theorem dX9_findOut_161 : decode cX9_findOut 161 = .ok (.aload_n 0, 1) := by decide +kernel
theorem dX9_findOut_162 : decode cX9_findOut 162 = .ok (.iload 4, 2) := by decide +kernel
theorem dX9_findOut_164 : decode cX9_findOut 164 = .ok (.aload_n 0, 1) := by decide +kernel
theorem dX9_findOut_165 : decode cX9_findOut 165 = .ok (.getfield 16, 3) := by decide +kernel
theorem dX9_findOut_168 : decode cX9_findOut 168 = .ok (.iload_n 1, 1) := by decide +kernel
theorem dX9_findOut_169 : decode cX9_findOut 169 = .ok (.iaload, 1) := by decide +kernel
theorem dX9_findOut_170 : decode cX9_findOut 170 = .ok (.invokevirtual 115, 3) := by decide +kernel
theorem dX9_findOut_173 : decode cX9_findOut 173 = .ok (.ifCond .ne 9, 3) := by decide +kernel
theorem dX9_findOut_176 : decode cX9_findOut 176 = .ok (.bipush 100, 2) := by decide +kernel
theorem dX9_findOut_178 : decode cX9_findOut 178 = .ok (.iload 4, 2) := by decide +kernel
theorem dX9_findOut_180 : decode cX9_findOut 180 = .ok (.iadd, 1) := by decide +kernel
theorem dX9_findOut_181 : decode cX9_findOut 181 = .ok (.ireturn, 1) := by decide +kernel
theorem dX9_findOut_182 : decode cX9_findOut 182 = .ok (.iconst 0, 1) := by decide +kernel
theorem dX9_findOut_183 : decode cX9_findOut 183 = .ok (.istore 5, 2) := by decide +kernel
theorem dX9_findOut_185 : decode cX9_findOut 185 = .ok (.iload 5, 2) := by decide +kernel
theorem dX9_findOut_187 : decode cX9_findOut 187 = .ok (.iconst 5, 1) := by decide +kernel
theorem dX9_findOut_188 : decode cX9_findOut 188 = .ok (.if_icmp .ge 28, 3) := by decide +kernel
theorem dX9_findOut_191 : decode cX9_findOut 191 = .ok (.aload_n 0, 1) := by decide +kernel
theorem dX9_findOut_192 : decode cX9_findOut 192 = .ok (.getfield 29, 3) := by decide +kernel
theorem dX9_findOut_195 : decode cX9_findOut 195 = .ok (.iload 5, 2) := by decide +kernel
theorem dX9_findOut_197 : decode cX9_findOut 197 = .ok (.aload_n 0, 1) := by decide +kernel
theorem dX9_findOut_198 : decode cX9_findOut 198 = .ok (.getfield 19, 3) := by decide +kernel
theorem dX9_findOut_201 : decode cX9_findOut 201 = .ok (.iconst 5, 1) := by decide +kernel
theorem dX9_findOut_202 : decode cX9_findOut 202 = .ok (.iload 4, 2) := by decide +kernel
theorem dX9_findOut_204 : decode cX9_findOut 204 = .ok (.imul, 1) := by decide +kernel
theorem dX9_findOut_205 : decode cX9_findOut 205 = .ok (.iload 5, 2) := by decide +kernel
theorem dX9_findOut_207 : decode cX9_findOut 207 = .ok (.iadd, 1) := by decide +kernel
theorem dX9_findOut_208 : decode cX9_findOut 208 = .ok (.iaload, 1) := by decide +kernel
theorem dX9_findOut_209 : decode cX9_findOut 209 = .ok (.iastore, 1) := by decide +kernel
theorem dX9_findOut_210 : decode cX9_findOut 210 = .ok (.iinc 5 1, 3) := by decide +kernel
theorem dX9_findOut_213 : decode cX9_findOut 213 = .ok (.goto (-28), 3) := by decide +kernel
theorem dX9_findOut_216 : decode cX9_findOut 216 = .ok (.aload_n 0, 1) := by decide +kernel
theorem dX9_findOut_217 : decode cX9_findOut 217 = .ok (.iload_n 1, 1) := by decide +kernel
theorem dX9_findOut_218 : decode cX9_findOut 218 = .ok (.iload 4, 2) := by decide +kernel
theorem dX9_findOut_220 : decode cX9_findOut 220 = .ok (.invokevirtual 121, 3) := by decide +kernel
theorem dX9_findOut_223 : decode cX9_findOut 223 = .ok (.istore 5, 2) := by decide +kernel
theorem dX9_findOut_225 : decode cX9_findOut 225 = .ok (.iload 5, 2) := by decide +kernel
theorem dX9_findOut_227 : decode cX9_findOut 227 = .ok (.ifCond .le 12, 3) := by decide +kernel
theorem dX9_findOut_230 : decode cX9_findOut 230 = .ok (.bipush 100, 2) := by decide +kernel
theorem dX9_findOut_232 : decode cX9_findOut 232 = .ok (.iload 5, 2) := by decide +kernel
theorem dX9_findOut_234 : decode cX9_findOut 234 = .ok (.imul, 1) := by decide +kernel
theorem dX9_findOut_235 : decode cX9_findOut 235 = .ok (.iload 4, 2) := by decide +kernel
theorem dX9_findOut_237 : decode cX9_findOut 237 = .ok (.iadd, 1) := by decide +kernel
theorem dX9_findOut_238 : decode cX9_findOut 238 = .ok (.ireturn, 1) := by decide +kernel
theorem dX9_findOut_239 : decode cX9_findOut 239 = .ok (.aload_n 0, 1) := by decide +kernel
theorem dX9_findOut_240 : decode cX9_findOut 240 = .ok (.getfield 7, 3) := by decide +kernel
theorem dX9_findOut_243 : decode cX9_findOut 243 = .ok (.iload 4, 2) := by decide +kernel
theorem dX9_findOut_245 : decode cX9_findOut 245 = .ok (.iaload, 1) := by decide +kernel
theorem dX9_findOut_246 : decode cX9_findOut 246 = .ok (.istore 6, 2) := by decide +kernel
theorem dX9_findOut_248 : decode cX9_findOut 248 = .ok (.iload 4, 2) := by decide +kernel
theorem dX9_findOut_250 : decode cX9_findOut 250 = .ok (.iload 6, 2) := by decide +kernel
theorem dX9_findOut_252 : decode cX9_findOut 252 = .ok (.invokestatic 79, 3) := by decide +kernel
theorem dX9_findOut_255 : decode cX9_findOut 255 = .ok (.iadd, 1) := by decide +kernel
theorem dX9_findOut_256 : decode cX9_findOut 256 = .ok (.istore 7, 2) := by decide +kernel
theorem dX9_findOut_258 : decode cX9_findOut 258 = .ok (.iload 6, 2) := by decide +kernel
theorem dX9_findOut_260 : decode cX9_findOut 260 = .ok (.invokestatic 79, 3) := by decide +kernel
theorem dX9_findOut_263 : decode cX9_findOut 263 = .ok (.iconst 1, 1) := by decide +kernel
theorem dX9_findOut_264 : decode cX9_findOut 264 = .ok (.if_icmp .le 15, 3) := by decide +kernel
theorem dX9_findOut_267 : decode cX9_findOut 267 = .ok (.aload_n 0, 1) := by decide +kernel
theorem dX9_findOut_268 : decode cX9_findOut 268 = .ok (.getfield 7, 3) := by decide +kernel
theorem dX9_findOut_271 : decode cX9_findOut 271 = .ok (.iload 4, 2) := by decide +kernel
theorem dX9_findOut_273 : decode cX9_findOut 273 = .ok (.iconst 1, 1) := by decide +kernel
theorem dX9_findOut_274 : decode cX9_findOut 274 = .ok (.iadd, 1) := by decide +kernel
theorem dX9_findOut_275 : decode cX9_findOut 275 = .ok (.iaload, 1) := by decide +kernel
theorem dX9_findOut_276 : decode cX9_findOut 276 = .ok (.goto 4, 3) := by decide +kernel
theorem dX9_findOut_279 : decode cX9_findOut 279 = .ok (.iconst 0, 1) := by decide +kernel
theorem dX9_findOut_280 : decode cX9_findOut 280 = .ok (.istore 8, 2) := by decide +kernel
theorem dX9_findOut_282 : decode cX9_findOut 282 = .ok (.iload 6, 2) := by decide +kernel
theorem dX9_findOut_284 : decode cX9_findOut 284 = .ok (.bipush 8, 2) := by decide +kernel
theorem dX9_findOut_286 : decode cX9_findOut 286 = .ok (.if_icmp .eq 26, 3) := by decide +kernel
theorem dX9_findOut_289 : decode cX9_findOut 289 = .ok (.iload 6, 2) := by decide +kernel
theorem dX9_findOut_291 : decode cX9_findOut 291 = .ok (.bipush 9, 2) := by decide +kernel
theorem dX9_findOut_293 : decode cX9_findOut 293 = .ok (.if_icmp .eq 19, 3) := by decide +kernel
theorem dX9_findOut_296 : decode cX9_findOut 296 = .ok (.aload_n 0, 1) := by decide +kernel
theorem dX9_findOut_297 : decode cX9_findOut 297 = .ok (.iload 7, 2) := by decide +kernel
theorem dX9_findOut_299 : decode cX9_findOut 299 = .ok (.invokevirtual 118, 3) := by decide +kernel
theorem dX9_findOut_302 : decode cX9_findOut 302 = .ok (.ifCond .ne 10, 3) := by decide +kernel
theorem dX9_findOut_305 : decode cX9_findOut 305 = .ok (.sipush 700, 3) := by decide +kernel
theorem dX9_findOut_308 : decode cX9_findOut 308 = .ok (.iload 7, 2) := by decide +kernel
theorem dX9_findOut_310 : decode cX9_findOut 310 = .ok (.iadd, 1) := by decide +kernel
theorem dX9_findOut_311 : decode cX9_findOut 311 = .ok (.ireturn, 1) := by decide +kernel
theorem dX9_findOut_312 : decode cX9_findOut 312 = .ok (.iload 6, 2) := by decide +kernel
theorem dX9_findOut_314 : decode cX9_findOut 314 = .ok (.bipush 10, 2) := by decide +kernel
theorem dX9_findOut_316 : decode cX9_findOut 316 = .ok (.if_icmp .eq 32, 3) := by decide +kernel
theorem dX9_findOut_319 : decode cX9_findOut 319 = .ok (.iload 6, 2) := by decide +kernel
theorem dX9_findOut_321 : decode cX9_findOut 321 = .ok (.bipush 9, 2) := by decide +kernel
theorem dX9_findOut_323 : decode cX9_findOut 323 = .ok (.if_icmp .ne 29, 3) := by decide +kernel
theorem dX9_findOut_326 : decode cX9_findOut 326 = .ok (.iload 8, 2) := by decide +kernel
theorem dX9_findOut_328 : decode cX9_findOut 328 = .ok (.aload_n 0, 1) := by decide +kernel
theorem dX9_findOut_329 : decode cX9_findOut 329 = .ok (.getfield 13, 3) := by decide +kernel
theorem dX9_findOut_332 : decode cX9_findOut 332 = .ok (.iload_n 1, 1) := by decide +kernel
theorem dX9_findOut_333 : decode cX9_findOut 333 = .ok (.iaload, 1) := by decide +kernel
theorem dX9_findOut_334 : decode cX9_findOut 334 = .ok (.if_icmp .lt 18, 3) := by decide +kernel
theorem dX9_findOut_337 : decode cX9_findOut 337 = .ok (.iload 8, 2) := by decide +kernel
theorem dX9_findOut_339 : decode cX9_findOut 339 = .ok (.aload_n 0, 1) := by decide +kernel
theorem dX9_findOut_340 : decode cX9_findOut 340 = .ok (.getfield 16, 3) := by decide +kernel
theorem dX9_findOut_343 : decode cX9_findOut 343 = .ok (.iload_n 1, 1) := by decide +kernel
theorem dX9_findOut_344 : decode cX9_findOut 344 = .ok (.iaload, 1) := by decide +kernel
theorem dX9_findOut_345 : decode cX9_findOut 345 = .ok (.if_icmp .ge 7, 3) := by decide +kernel
theorem dX9_findOut_348 : decode cX9_findOut 348 = .ok (.iconst 1, 1) := by decide +kernel
theorem dX9_findOut_349 : decode cX9_findOut 349 = .ok (.goto 4, 3) := by decide +kernel
theorem dX9_findOut_352 : decode cX9_findOut 352 = .ok (.iconst 0, 1) := by decide +kernel
theorem dX9_findOut_353 : decode cX9_findOut 353 = .ok (.istore 9, 2) := by decide +kernel
theorem dX9_findOut_355 : decode cX9_findOut 355 = .ok (.iload 9, 2) := by decide +kernel
theorem dX9_findOut_357 : decode cX9_findOut 357 = .ok (.ifCond .eq 19, 3) := by decide +kernel
theorem dX9_findOut_360 : decode cX9_findOut 360 = .ok (.aload_n 0, 1) := by decide +kernel
theorem dX9_findOut_361 : decode cX9_findOut 361 = .ok (.iload 8, 2) := by decide +kernel
theorem dX9_findOut_363 : decode cX9_findOut 363 = .ok (.invokevirtual 118, 3) := by decide +kernel
theorem dX9_findOut_366 : decode cX9_findOut 366 = .ok (.ifCond .ne 10, 3) := by decide +kernel
theorem dX9_findOut_369 : decode cX9_findOut 369 = .ok (.sipush 700, 3) := by decide +kernel
theorem dX9_findOut_372 : decode cX9_findOut 372 = .ok (.iload 8, 2) := by decide +kernel
theorem dX9_findOut_374 : decode cX9_findOut 374 = .ok (.iadd, 1) := by decide +kernel
theorem dX9_findOut_375 : decode cX9_findOut 375 = .ok (.ireturn, 1) := by decide +kernel
theorem dX9_findOut_376 : decode cX9_findOut 376 = .ok (.aload_n 0, 1) := by decide +kernel
theorem dX9_findOut_377 : decode cX9_findOut 377 = .ok (.getfield 13, 3) := by decide +kernel
theorem dX9_findOut_380 : decode cX9_findOut 380 = .ok (.iload_n 1, 1) := by decide +kernel
theorem dX9_findOut_381 : decode cX9_findOut 381 = .ok (.iaload, 1) := by decide +kernel
theorem dX9_findOut_382 : decode cX9_findOut 382 = .ok (.istore 4, 2) := by decide +kernel
theorem dX9_findOut_384 : decode cX9_findOut 384 = .ok (.goto (-288), 3) := by decide +kernel
theorem dX9_findOut_387 : decode cX9_findOut 387 = .ok (.iconst 0, 1) := by decide +kernel
theorem dX9_findOut_388 : decode cX9_findOut 388 = .ok (.ireturn, 1) := by decide +kernel
theorem dX9_put_0 : decode cX9_put 0 = .ok (.aload_n 0, 1) := by decide +kernel
theorem dX9_put_1 : decode cX9_put 1 = .ok (.getfield 35, 3) := by decide +kernel
theorem dX9_put_4 : decode cX9_put 4 = .ok (.aload_n 0, 1) := by decide +kernel
theorem dX9_put_5 : decode cX9_put 5 = .ok (.getfield 124, 3) := by decide +kernel
theorem dX9_put_8 : decode cX9_put 8 = .ok (.iload_n 1, 1) := by decide +kernel
theorem dX9_put_9 : decode cX9_put 9 = .ok (.iastore, 1) := by decide +kernel
theorem dX9_put_10 : decode cX9_put 10 = .ok (.aload_n 0, 1) := by decide +kernel
theorem dX9_put_11 : decode cX9_put 11 = .ok (.dup, 1) := by decide +kernel
theorem dX9_put_12 : decode cX9_put 12 = .ok (.getfield 124, 3) := by decide +kernel
theorem dX9_put_15 : decode cX9_put 15 = .ok (.iconst 1, 1) := by decide +kernel
theorem dX9_put_16 : decode cX9_put 16 = .ok (.iadd, 1) := by decide +kernel
theorem dX9_put_17 : decode cX9_put 17 = .ok (.putfield 124, 3) := by decide +kernel
theorem dX9_put_20 : decode cX9_put 20 = .ok (.return_, 1) := by decide +kernel
theorem dX9_packPlace_0 : decode cX9_packPlace 0 = .ok (.aload_n 0, 1) := by decide +kernel
theorem dX9_packPlace_1 : decode cX9_packPlace 1 = .ok (.getfield 19, 3) := by decide +kernel
theorem dX9_packPlace_4 : decode cX9_packPlace 4 = .ok (.iconst 5, 1) := by decide +kernel
theorem dX9_packPlace_5 : decode cX9_packPlace 5 = .ok (.iload_n 1, 1) := by decide +kernel
theorem dX9_packPlace_6 : decode cX9_packPlace 6 = .ok (.imul, 1) := by decide +kernel
theorem dX9_packPlace_7 : decode cX9_packPlace 7 = .ok (.iconst 1, 1) := by decide +kernel
theorem dX9_packPlace_8 : decode cX9_packPlace 8 = .ok (.iadd, 1) := by decide +kernel
theorem dX9_packPlace_9 : decode cX9_packPlace 9 = .ok (.iaload, 1) := by decide +kernel
theorem dX9_packPlace_10 : decode cX9_packPlace 10 = .ok (.ifCond .eq 7, 3) := by decide +kernel
theorem dX9_packPlace_13 : decode cX9_packPlace 13 = .ok (.iconst 1, 1) := by decide +kernel
theorem dX9_packPlace_14 : decode cX9_packPlace 14 = .ok (.goto 4, 3) := by decide +kernel
theorem dX9_packPlace_17 : decode cX9_packPlace 17 = .ok (.iconst 0, 1) := by decide +kernel
theorem dX9_packPlace_18 : decode cX9_packPlace 18 = .ok (.istore_n 3, 1) := by decide +kernel
theorem dX9_packPlace_19 : decode cX9_packPlace 19 = .ok (.iload_n 3, 1) := by decide +kernel
theorem dX9_packPlace_20 : decode cX9_packPlace 20 = .ok (.iconst 1, 1) := by decide +kernel
theorem dX9_packPlace_21 : decode cX9_packPlace 21 = .ok (.if_icmp .ne 16, 3) := by decide +kernel
theorem dX9_packPlace_24 : decode cX9_packPlace 24 = .ok (.aload_n 0, 1) := by decide +kernel
theorem dX9_packPlace_25 : decode cX9_packPlace 25 = .ok (.getfield 19, 3) := by decide +kernel
theorem dX9_packPlace_28 : decode cX9_packPlace 28 = .ok (.iconst 5, 1) := by decide +kernel
theorem dX9_packPlace_29 : decode cX9_packPlace 29 = .ok (.iload_n 1, 1) := by decide +kernel
theorem dX9_packPlace_30 : decode cX9_packPlace 30 = .ok (.imul, 1) := by decide +kernel
theorem dX9_packPlace_31 : decode cX9_packPlace 31 = .ok (.iconst 1, 1) := by decide +kernel
theorem dX9_packPlace_32 : decode cX9_packPlace 32 = .ok (.iadd, 1) := by decide +kernel
theorem dX9_packPlace_33 : decode cX9_packPlace 33 = .ok (.iaload, 1) := by decide +kernel
theorem dX9_packPlace_34 : decode cX9_packPlace 34 = .ok (.goto 11, 3) := by decide +kernel
theorem dX9_packPlace_37 : decode cX9_packPlace 37 = .ok (.aload_n 0, 1) := by decide +kernel
theorem dX9_packPlace_38 : decode cX9_packPlace 38 = .ok (.getfield 19, 3) := by decide +kernel
theorem dX9_packPlace_41 : decode cX9_packPlace 41 = .ok (.iconst 5, 1) := by decide +kernel
theorem dX9_packPlace_42 : decode cX9_packPlace 42 = .ok (.iload_n 1, 1) := by decide +kernel
theorem dX9_packPlace_43 : decode cX9_packPlace 43 = .ok (.imul, 1) := by decide +kernel
theorem dX9_packPlace_44 : decode cX9_packPlace 44 = .ok (.iaload, 1) := by decide +kernel
theorem dX9_packPlace_45 : decode cX9_packPlace 45 = .ok (.istore 4, 2) := by decide +kernel
theorem dX9_packPlace_47 : decode cX9_packPlace 47 = .ok (.aload_n 0, 1) := by decide +kernel
theorem dX9_packPlace_48 : decode cX9_packPlace 48 = .ok (.getfield 41, 3) := by decide +kernel
theorem dX9_packPlace_51 : decode cX9_packPlace 51 = .ok (.iconst 0, 1) := by decide +kernel
theorem dX9_packPlace_52 : decode cX9_packPlace 52 = .ok (.iaload, 1) := by decide +kernel
theorem dX9_packPlace_53 : decode cX9_packPlace 53 = .ok (.iload_n 3, 1) := by decide +kernel
theorem dX9_packPlace_54 : decode cX9_packPlace 54 = .ok (.if_icmp .ne 18, 3) := by decide +kernel
theorem dX9_packPlace_57 : decode cX9_packPlace 57 = .ok (.aload_n 0, 1) := by decide +kernel
theorem dX9_packPlace_58 : decode cX9_packPlace 58 = .ok (.getfield 41, 3) := by decide +kernel
theorem dX9_packPlace_61 : decode cX9_packPlace 61 = .ok (.iconst 1, 1) := by decide +kernel
theorem dX9_packPlace_62 : decode cX9_packPlace 62 = .ok (.iaload, 1) := by decide +kernel
theorem dX9_packPlace_63 : decode cX9_packPlace 63 = .ok (.iload 4, 2) := by decide +kernel
theorem dX9_packPlace_65 : decode cX9_packPlace 65 = .ok (.if_icmp .ne 7, 3) := by decide +kernel
theorem dX9_packPlace_68 : decode cX9_packPlace 68 = .ok (.iconst 1, 1) := by decide +kernel
theorem dX9_packPlace_69 : decode cX9_packPlace 69 = .ok (.goto 4, 3) := by decide +kernel
theorem dX9_packPlace_72 : decode cX9_packPlace 72 = .ok (.iconst 0, 1) := by decide +kernel
theorem dX9_packPlace_73 : decode cX9_packPlace 73 = .ok (.istore 5, 2) := by decide +kernel
theorem dX9_packPlace_75 : decode cX9_packPlace 75 = .ok (.iconst 2, 1) := by decide +kernel
theorem dX9_packPlace_76 : decode cX9_packPlace 76 = .ok (.istore 6, 2) := by decide +kernel
theorem dX9_packPlace_78 : decode cX9_packPlace 78 = .ok (.iload 6, 2) := by decide +kernel
theorem dX9_packPlace_80 : decode cX9_packPlace 80 = .ok (.iconst 5, 1) := by decide +kernel
theorem dX9_packPlace_81 : decode cX9_packPlace 81 = .ok (.if_icmp .ge 42, 3) := by decide +kernel
theorem dX9_packPlace_84 : decode cX9_packPlace 84 = .ok (.iload 5, 2) := by decide +kernel
theorem dX9_packPlace_86 : decode cX9_packPlace 86 = .ok (.ifCond .eq 28, 3) := by decide +kernel
theorem dX9_packPlace_89 : decode cX9_packPlace 89 = .ok (.aload_n 0, 1) := by decide +kernel
theorem dX9_packPlace_90 : decode cX9_packPlace 90 = .ok (.getfield 41, 3) := by decide +kernel
theorem dX9_packPlace_93 : decode cX9_packPlace 93 = .ok (.iload 6, 2) := by decide +kernel
theorem dX9_packPlace_95 : decode cX9_packPlace 95 = .ok (.iaload, 1) := by decide +kernel
theorem dX9_packPlace_96 : decode cX9_packPlace 96 = .ok (.aload_n 0, 1) := by decide +kernel
theorem dX9_packPlace_97 : decode cX9_packPlace 97 = .ok (.getfield 19, 3) := by decide +kernel
theorem dX9_packPlace_100 : decode cX9_packPlace 100 = .ok (.iconst 5, 1) := by decide +kernel
theorem dX9_packPlace_101 : decode cX9_packPlace 101 = .ok (.iload_n 1, 1) := by decide +kernel
theorem dX9_packPlace_102 : decode cX9_packPlace 102 = .ok (.imul, 1) := by decide +kernel
theorem dX9_packPlace_103 : decode cX9_packPlace 103 = .ok (.iload 6, 2) := by decide +kernel
theorem dX9_packPlace_105 : decode cX9_packPlace 105 = .ok (.iadd, 1) := by decide +kernel
theorem dX9_packPlace_106 : decode cX9_packPlace 106 = .ok (.iaload, 1) := by decide +kernel
theorem dX9_packPlace_107 : decode cX9_packPlace 107 = .ok (.if_icmp .ne 7, 3) := by decide +kernel
theorem dX9_packPlace_110 : decode cX9_packPlace 110 = .ok (.iconst 1, 1) := by decide +kernel
theorem dX9_packPlace_111 : decode cX9_packPlace 111 = .ok (.goto 4, 3) := by decide +kernel
theorem dX9_packPlace_114 : decode cX9_packPlace 114 = .ok (.iconst 0, 1) := by decide +kernel
theorem dX9_packPlace_115 : decode cX9_packPlace 115 = .ok (.istore 5, 2) := by decide +kernel
theorem dX9_packPlace_117 : decode cX9_packPlace 117 = .ok (.iinc 6 1, 3) := by decide +kernel
theorem dX9_packPlace_120 : decode cX9_packPlace 120 = .ok (.goto (-42), 3) := by decide +kernel
theorem dX9_packPlace_123 : decode cX9_packPlace 123 = .ok (.iload 5, 2) := by decide +kernel
theorem dX9_packPlace_125 : decode cX9_packPlace 125 = .ok (.ifCond .eq 4, 3) := by decide +kernel
theorem dX9_packPlace_128 : decode cX9_packPlace 128 = .ok (.return_, 1) := by decide +kernel
theorem dX9_packPlace_129 : decode cX9_packPlace 129 = .ok (.iload_n 1, 1) := by decide +kernel
theorem dX9_packPlace_130 : decode cX9_packPlace 130 = .ok (.iload_n 2, 1) := by decide +kernel
theorem dX9_packPlace_131 : decode cX9_packPlace 131 = .ok (.isub, 1) := by decide +kernel
theorem dX9_packPlace_132 : decode cX9_packPlace 132 = .ok (.istore 6, 2) := by decide +kernel
theorem dX9_packPlace_134 : decode cX9_packPlace 134 = .ok (.aload_n 0, 1) := by decide +kernel
theorem dX9_packPlace_135 : decode cX9_packPlace 135 = .ok (.iload 6, 2) := by decide +kernel
theorem dX9_packPlace_137 : decode cX9_packPlace 137 = .ok (.bipush 64, 2) := by decide +kernel
theorem dX9_packPlace_139 : decode cX9_packPlace 139 = .ok (.if_icmp .ge 11, 3) := by decide +kernel
theorem dX9_packPlace_142 : decode cX9_packPlace 142 = .ok (.bipush 64, 2) := by decide +kernel
theorem dX9_packPlace_144 : decode cX9_packPlace 144 = .ok (.iload 6, 2) := by decide +kernel
theorem dX9_packPlace_146 : decode cX9_packPlace 146 = .ok (.iadd, 1) := by decide +kernel
theorem dX9_packPlace_147 : decode cX9_packPlace 147 = .ok (.goto 4, 3) := by decide +kernel
theorem dX9_packPlace_150 : decode cX9_packPlace 150 = .ok (.iconst 2, 1) := by decide +kernel
theorem dX9_packPlace_151 : decode cX9_packPlace 151 = .ok (.invokevirtual 127, 3) := by decide +kernel
theorem dX9_packPlace_154 : decode cX9_packPlace 154 = .ok (.iload 6, 2) := by decide +kernel
theorem dX9_packPlace_156 : decode cX9_packPlace 156 = .ok (.bipush 63, 2) := by decide +kernel
theorem dX9_packPlace_158 : decode cX9_packPlace 158 = .ok (.if_icmp .le 9, 3) := by decide +kernel
theorem dX9_packPlace_161 : decode cX9_packPlace 161 = .ok (.aload_n 0, 1) := by decide +kernel
theorem dX9_packPlace_162 : decode cX9_packPlace 162 = .ok (.iload 6, 2) := by decide +kernel
theorem dX9_packPlace_164 : decode cX9_packPlace 164 = .ok (.invokevirtual 127, 3) := by decide +kernel
theorem dX9_packPlace_167 : decode cX9_packPlace 167 = .ok (.aload_n 0, 1) := by decide +kernel
theorem dX9_packPlace_168 : decode cX9_packPlace 168 = .ok (.getfield 41, 3) := by decide +kernel
theorem dX9_packPlace_171 : decode cX9_packPlace 171 = .ok (.iconst 0, 1) := by decide +kernel
theorem dX9_packPlace_172 : decode cX9_packPlace 172 = .ok (.iaload, 1) := by decide +kernel
theorem dX9_packPlace_173 : decode cX9_packPlace 173 = .ok (.iload_n 3, 1) := by decide +kernel
theorem dX9_packPlace_174 : decode cX9_packPlace 174 = .ok (.if_icmp .eq 50, 3) := by decide +kernel
theorem dX9_packPlace_177 : decode cX9_packPlace 177 = .ok (.aload_n 0, 1) := by decide +kernel
theorem dX9_packPlace_178 : decode cX9_packPlace 178 = .ok (.aload_n 0, 1) := by decide +kernel
theorem dX9_packPlace_179 : decode cX9_packPlace 179 = .ok (.getfield 41, 3) := by decide +kernel
theorem dX9_packPlace_182 : decode cX9_packPlace 182 = .ok (.iconst 1, 1) := by decide +kernel
theorem dX9_packPlace_183 : decode cX9_packPlace 183 = .ok (.iaload, 1) := by decide +kernel
theorem dX9_packPlace_184 : decode cX9_packPlace 184 = .ok (.iload 4, 2) := by decide +kernel
theorem dX9_packPlace_186 : decode cX9_packPlace 186 = .ok (.if_icmp .eq 8, 3) := by decide +kernel
theorem dX9_packPlace_189 : decode cX9_packPlace 189 = .ok (.bipush 12, 2) := by decide +kernel
theorem dX9_packPlace_191 : decode cX9_packPlace 191 = .ok (.goto 5, 3) := by decide +kernel
theorem dX9_packPlace_194 : decode cX9_packPlace 194 = .ok (.bipush 13, 2) := by decide +kernel
theorem dX9_packPlace_196 : decode cX9_packPlace 196 = .ok (.invokevirtual 127, 3) := by decide +kernel
theorem dX9_packPlace_199 : decode cX9_packPlace 199 = .ok (.aload_n 0, 1) := by decide +kernel
theorem dX9_packPlace_200 : decode cX9_packPlace 200 = .ok (.iload_n 3, 1) := by decide +kernel
theorem dX9_packPlace_201 : decode cX9_packPlace 201 = .ok (.invokevirtual 127, 3) := by decide +kernel
theorem dX9_packPlace_204 : decode cX9_packPlace 204 = .ok (.aload_n 0, 1) := by decide +kernel
theorem dX9_packPlace_205 : decode cX9_packPlace 205 = .ok (.getfield 41, 3) := by decide +kernel
theorem dX9_packPlace_208 : decode cX9_packPlace 208 = .ok (.iconst 1, 1) := by decide +kernel
theorem dX9_packPlace_209 : decode cX9_packPlace 209 = .ok (.iaload, 1) := by decide +kernel
theorem dX9_packPlace_210 : decode cX9_packPlace 210 = .ok (.iload 4, 2) := by decide +kernel
theorem dX9_packPlace_212 : decode cX9_packPlace 212 = .ok (.if_icmp .eq 35, 3) := by decide +kernel
theorem dX9_packPlace_215 : decode cX9_packPlace 215 = .ok (.aload_n 0, 1) := by decide +kernel
theorem dX9_packPlace_216 : decode cX9_packPlace 216 = .ok (.iload 4, 2) := by decide +kernel
theorem dX9_packPlace_218 : decode cX9_packPlace 218 = .ok (.invokevirtual 127, 3) := by decide +kernel
theorem dX9_packPlace_221 : decode cX9_packPlace 221 = .ok (.goto 26, 3) := by decide +kernel
theorem dX9_packPlace_224 : decode cX9_packPlace 224 = .ok (.aload_n 0, 1) := by decide +kernel
theorem dX9_packPlace_225 : decode cX9_packPlace 225 = .ok (.getfield 41, 3) := by decide +kernel
theorem dX9_packPlace_228 : decode cX9_packPlace 228 = .ok (.iconst 1, 1) := by decide +kernel
theorem dX9_packPlace_229 : decode cX9_packPlace 229 = .ok (.iaload, 1) := by decide +kernel
theorem dX9_packPlace_230 : decode cX9_packPlace 230 = .ok (.iload 4, 2) := by decide +kernel
theorem dX9_packPlace_232 : decode cX9_packPlace 232 = .ok (.if_icmp .eq 15, 3) := by decide +kernel
theorem dX9_packPlace_235 : decode cX9_packPlace 235 = .ok (.aload_n 0, 1) := by decide +kernel
theorem dX9_packPlace_236 : decode cX9_packPlace 236 = .ok (.bipush 14, 2) := by decide +kernel
theorem dX9_packPlace_238 : decode cX9_packPlace 238 = .ok (.invokevirtual 127, 3) := by decide +kernel
theorem dX9_packPlace_241 : decode cX9_packPlace 241 = .ok (.aload_n 0, 1) := by decide +kernel
theorem dX9_packPlace_242 : decode cX9_packPlace 242 = .ok (.iload 4, 2) := by decide +kernel
theorem dX9_packPlace_244 : decode cX9_packPlace 244 = .ok (.invokevirtual 127, 3) := by decide +kernel
theorem dX9_packPlace_247 : decode cX9_packPlace 247 = .ok (.iconst 0, 1) := by decide +kernel
theorem dX9_packPlace_248 : decode cX9_packPlace 248 = .ok (.istore 7, 2) := by decide +kernel
theorem dX9_packPlace_250 : decode cX9_packPlace 250 = .ok (.iload 7, 2) := by decide +kernel
theorem dX9_packPlace_252 : decode cX9_packPlace 252 = .ok (.iconst 3, 1) := by decide +kernel
theorem dX9_packPlace_253 : decode cX9_packPlace 253 = .ok (.if_icmp .ge 84, 3) := by decide +kernel
theorem dX9_packPlace_256 : decode cX9_packPlace 256 = .ok (.aload_n 0, 1) := by decide +kernel
theorem dX9_packPlace_257 : decode cX9_packPlace 257 = .ok (.getfield 19, 3) := by decide +kernel
theorem dX9_packPlace_260 : decode cX9_packPlace 260 = .ok (.iconst 5, 1) := by decide +kernel
theorem dX9_packPlace_261 : decode cX9_packPlace 261 = .ok (.iload_n 1, 1) := by decide +kernel
theorem dX9_packPlace_262 : decode cX9_packPlace 262 = .ok (.imul, 1) := by decide +kernel
theorem dX9_packPlace_263 : decode cX9_packPlace 263 = .ok (.iconst 2, 1) := by decide +kernel
theorem dX9_packPlace_264 : decode cX9_packPlace 264 = .ok (.iadd, 1) := by decide +kernel
theorem dX9_packPlace_265 : decode cX9_packPlace 265 = .ok (.iload 7, 2) := by decide +kernel
theorem dX9_packPlace_267 : decode cX9_packPlace 267 = .ok (.iadd, 1) := by decide +kernel
theorem dX9_packPlace_268 : decode cX9_packPlace 268 = .ok (.iaload, 1) := by decide +kernel
theorem dX9_packPlace_269 : decode cX9_packPlace 269 = .ok (.istore 8, 2) := by decide +kernel
theorem dX9_packPlace_271 : decode cX9_packPlace 271 = .ok (.aload_n 0, 1) := by decide +kernel
theorem dX9_packPlace_272 : decode cX9_packPlace 272 = .ok (.getfield 41, 3) := by decide +kernel
theorem dX9_packPlace_275 : decode cX9_packPlace 275 = .ok (.iconst 2, 1) := by decide +kernel
theorem dX9_packPlace_276 : decode cX9_packPlace 276 = .ok (.iload 7, 2) := by decide +kernel
theorem dX9_packPlace_278 : decode cX9_packPlace 278 = .ok (.iadd, 1) := by decide +kernel
theorem dX9_packPlace_279 : decode cX9_packPlace 279 = .ok (.iaload, 1) := by decide +kernel
theorem dX9_packPlace_280 : decode cX9_packPlace 280 = .ok (.iload 8, 2) := by decide +kernel
theorem dX9_packPlace_282 : decode cX9_packPlace 282 = .ok (.if_icmp .eq 38, 3) := by decide +kernel
theorem dX9_packPlace_285 : decode cX9_packPlace 285 = .ok (.aload_n 0, 1) := by decide +kernel
theorem dX9_packPlace_286 : decode cX9_packPlace 286 = .ok (.iload 8, 2) := by decide +kernel
theorem dX9_packPlace_288 : decode cX9_packPlace 288 = .ok (.ifCond .le 12, 3) := by decide +kernel
theorem dX9_packPlace_291 : decode cX9_packPlace 291 = .ok (.sipush 128, 3) := by decide +kernel
theorem dX9_packPlace_294 : decode cX9_packPlace 294 = .ok (.iload 7, 2) := by decide +kernel
theorem dX9_packPlace_296 : decode cX9_packPlace 296 = .ok (.iadd, 1) := by decide +kernel
theorem dX9_packPlace_297 : decode cX9_packPlace 297 = .ok (.goto 9, 3) := by decide +kernel
theorem dX9_packPlace_300 : decode cX9_packPlace 300 = .ok (.sipush 192, 3) := by decide +kernel
theorem dX9_packPlace_303 : decode cX9_packPlace 303 = .ok (.iload 7, 2) := by decide +kernel
theorem dX9_packPlace_305 : decode cX9_packPlace 305 = .ok (.iadd, 1) := by decide +kernel
theorem dX9_packPlace_306 : decode cX9_packPlace 306 = .ok (.invokevirtual 127, 3) := by decide +kernel
theorem dX9_packPlace_309 : decode cX9_packPlace 309 = .ok (.iload 8, 2) := by decide +kernel
theorem dX9_packPlace_311 : decode cX9_packPlace 311 = .ok (.ifCond .le 9, 3) := by decide +kernel
theorem dX9_packPlace_314 : decode cX9_packPlace 314 = .ok (.aload_n 0, 1) := by decide +kernel
theorem dX9_packPlace_315 : decode cX9_packPlace 315 = .ok (.iload 8, 2) := by decide +kernel
theorem dX9_packPlace_317 : decode cX9_packPlace 317 = .ok (.invokevirtual 127, 3) := by decide +kernel
theorem dX9_packPlace_320 : decode cX9_packPlace 320 = .ok (.aload_n 0, 1) := by decide +kernel
theorem dX9_packPlace_321 : decode cX9_packPlace 321 = .ok (.getfield 41, 3) := by decide +kernel
theorem dX9_packPlace_324 : decode cX9_packPlace 324 = .ok (.iconst 2, 1) := by decide +kernel
theorem dX9_packPlace_325 : decode cX9_packPlace 325 = .ok (.iload 7, 2) := by decide +kernel
theorem dX9_packPlace_327 : decode cX9_packPlace 327 = .ok (.iadd, 1) := by decide +kernel
theorem dX9_packPlace_328 : decode cX9_packPlace 328 = .ok (.iload 8, 2) := by decide +kernel
theorem dX9_packPlace_330 : decode cX9_packPlace 330 = .ok (.iastore, 1) := by decide +kernel
theorem dX9_packPlace_331 : decode cX9_packPlace 331 = .ok (.iinc 7 1, 3) := by decide +kernel
theorem dX9_packPlace_334 : decode cX9_packPlace 334 = .ok (.goto (-84), 3) := by decide +kernel
theorem dX9_packPlace_337 : decode cX9_packPlace 337 = .ok (.aload_n 0, 1) := by decide +kernel
theorem dX9_packPlace_338 : decode cX9_packPlace 338 = .ok (.getfield 41, 3) := by decide +kernel
theorem dX9_packPlace_341 : decode cX9_packPlace 341 = .ok (.iconst 0, 1) := by decide +kernel
theorem dX9_packPlace_342 : decode cX9_packPlace 342 = .ok (.iload_n 3, 1) := by decide +kernel
theorem dX9_packPlace_343 : decode cX9_packPlace 343 = .ok (.iastore, 1) := by decide +kernel
theorem dX9_packPlace_344 : decode cX9_packPlace 344 = .ok (.aload_n 0, 1) := by decide +kernel
theorem dX9_packPlace_345 : decode cX9_packPlace 345 = .ok (.getfield 41, 3) := by decide +kernel
theorem dX9_packPlace_348 : decode cX9_packPlace 348 = .ok (.iconst 1, 1) := by decide +kernel
theorem dX9_packPlace_349 : decode cX9_packPlace 349 = .ok (.iload 4, 2) := by decide +kernel
theorem dX9_packPlace_351 : decode cX9_packPlace 351 = .ok (.iastore, 1) := by decide +kernel
theorem dX9_packPlace_352 : decode cX9_packPlace 352 = .ok (.aload_n 0, 1) := by decide +kernel
theorem dX9_packPlace_353 : decode cX9_packPlace 353 = .ok (.iload_n 1, 1) := by decide +kernel
theorem dX9_packPlace_354 : decode cX9_packPlace 354 = .ok (.putfield 131, 3) := by decide +kernel
theorem dX9_packPlace_357 : decode cX9_packPlace 357 = .ok (.return_, 1) := by decide +kernel
theorem dX9_packFunction_0 : decode cX9_packFunction 0 = .ok (.aload_n 0, 1) := by decide +kernel
theorem dX9_packFunction_1 : decode cX9_packFunction 1 = .ok (.getfield 124, 3) := by decide +kernel
theorem dX9_packFunction_4 : decode cX9_packFunction 4 = .ok (.istore_n 2, 1) := by decide +kernel
theorem dX9_packFunction_5 : decode cX9_packFunction 5 = .ok (.aload_n 0, 1) := by decide +kernel
theorem dX9_packFunction_6 : decode cX9_packFunction 6 = .ok (.iconst 0, 1) := by decide +kernel
theorem dX9_packFunction_7 : decode cX9_packFunction 7 = .ok (.invokevirtual 127, 3) := by decide +kernel
theorem dX9_packFunction_10 : decode cX9_packFunction 10 = .ok (.aload_n 0, 1) := by decide +kernel
theorem dX9_packFunction_11 : decode cX9_packFunction 11 = .ok (.iconst 0, 1) := by decide +kernel
theorem dX9_packFunction_12 : decode cX9_packFunction 12 = .ok (.invokevirtual 127, 3) := by decide +kernel
theorem dX9_packFunction_15 : decode cX9_packFunction 15 = .ok (.aload_n 0, 1) := by decide +kernel
theorem dX9_packFunction_16 : decode cX9_packFunction 16 = .ok (.aload_n 0, 1) := by decide +kernel
theorem dX9_packFunction_17 : decode cX9_packFunction 17 = .ok (.getfield 13, 3) := by decide +kernel
theorem dX9_packFunction_20 : decode cX9_packFunction 20 = .ok (.iload_n 1, 1) := by decide +kernel
theorem dX9_packFunction_21 : decode cX9_packFunction 21 = .ok (.iaload, 1) := by decide +kernel
theorem dX9_packFunction_22 : decode cX9_packFunction 22 = .ok (.invokevirtual 127, 3) := by decide +kernel
theorem dX9_packFunction_25 : decode cX9_packFunction 25 = .ok (.aload_n 0, 1) := by decide +kernel
theorem dX9_packFunction_26 : decode cX9_packFunction 26 = .ok (.aload_n 0, 1) := by decide +kernel
theorem dX9_packFunction_27 : decode cX9_packFunction 27 = .ok (.getfield 16, 3) := by decide +kernel
theorem dX9_packFunction_30 : decode cX9_packFunction 30 = .ok (.iload_n 1, 1) := by decide +kernel
theorem dX9_packFunction_31 : decode cX9_packFunction 31 = .ok (.iaload, 1) := by decide +kernel
theorem dX9_packFunction_32 : decode cX9_packFunction 32 = .ok (.aload_n 0, 1) := by decide +kernel
theorem dX9_packFunction_33 : decode cX9_packFunction 33 = .ok (.getfield 13, 3) := by decide +kernel
theorem dX9_packFunction_36 : decode cX9_packFunction 36 = .ok (.iload_n 1, 1) := by decide +kernel
theorem dX9_packFunction_37 : decode cX9_packFunction 37 = .ok (.iaload, 1) := by decide +kernel
theorem dX9_packFunction_38 : decode cX9_packFunction 38 = .ok (.isub, 1) := by decide +kernel
theorem dX9_packFunction_39 : decode cX9_packFunction 39 = .ok (.invokevirtual 127, 3) := by decide +kernel
theorem dX9_packFunction_42 : decode cX9_packFunction 42 = .ok (.aload_n 0, 1) := by decide +kernel
theorem dX9_packFunction_43 : decode cX9_packFunction 43 = .ok (.getfield 41, 3) := by decide +kernel
theorem dX9_packFunction_46 : decode cX9_packFunction 46 = .ok (.iconst 0, 1) := by decide +kernel
theorem dX9_packFunction_47 : decode cX9_packFunction 47 = .ok (.iconst 0, 1) := by decide +kernel
theorem dX9_packFunction_48 : decode cX9_packFunction 48 = .ok (.iastore, 1) := by decide +kernel
theorem dX9_packFunction_49 : decode cX9_packFunction 49 = .ok (.aload_n 0, 1) := by decide +kernel
theorem dX9_packFunction_50 : decode cX9_packFunction 50 = .ok (.getfield 41, 3) := by decide +kernel
theorem dX9_packFunction_53 : decode cX9_packFunction 53 = .ok (.iconst 1, 1) := by decide +kernel
theorem dX9_packFunction_54 : decode cX9_packFunction 54 = .ok (.iconst 1, 1) := by decide +kernel
theorem dX9_packFunction_55 : decode cX9_packFunction 55 = .ok (.iastore, 1) := by decide +kernel
theorem dX9_packFunction_56 : decode cX9_packFunction 56 = .ok (.iconst 2, 1) := by decide +kernel
theorem dX9_packFunction_57 : decode cX9_packFunction 57 = .ok (.istore_n 3, 1) := by decide +kernel
theorem dX9_packFunction_58 : decode cX9_packFunction 58 = .ok (.iload_n 3, 1) := by decide +kernel
theorem dX9_packFunction_59 : decode cX9_packFunction 59 = .ok (.iconst 5, 1) := by decide +kernel
theorem dX9_packFunction_60 : decode cX9_packFunction 60 = .ok (.if_icmp .ge 16, 3) := by decide +kernel
theorem dX9_packFunction_63 : decode cX9_packFunction 63 = .ok (.aload_n 0, 1) := by decide +kernel
theorem dX9_packFunction_64 : decode cX9_packFunction 64 = .ok (.getfield 41, 3) := by decide +kernel
theorem dX9_packFunction_67 : decode cX9_packFunction 67 = .ok (.iload_n 3, 1) := by decide +kernel
theorem dX9_packFunction_68 : decode cX9_packFunction 68 = .ok (.iconst 0, 1) := by decide +kernel
theorem dX9_packFunction_69 : decode cX9_packFunction 69 = .ok (.iastore, 1) := by decide +kernel
theorem dX9_packFunction_70 : decode cX9_packFunction 70 = .ok (.iinc 3 1, 3) := by decide +kernel
theorem dX9_packFunction_73 : decode cX9_packFunction 73 = .ok (.goto (-15), 3) := by decide +kernel
theorem dX9_packFunction_76 : decode cX9_packFunction 76 = .ok (.aload_n 0, 1) := by decide +kernel
theorem dX9_packFunction_77 : decode cX9_packFunction 77 = .ok (.aload_n 0, 1) := by decide +kernel
theorem dX9_packFunction_78 : decode cX9_packFunction 78 = .ok (.getfield 13, 3) := by decide +kernel
theorem dX9_packFunction_81 : decode cX9_packFunction 81 = .ok (.iload_n 1, 1) := by decide +kernel
theorem dX9_packFunction_82 : decode cX9_packFunction 82 = .ok (.iaload, 1) := by decide +kernel
theorem dX9_packFunction_83 : decode cX9_packFunction 83 = .ok (.putfield 131, 3) := by decide +kernel
theorem dX9_packFunction_86 : decode cX9_packFunction 86 = .ok (.aload_n 0, 1) := by decide +kernel
theorem dX9_packFunction_87 : decode cX9_packFunction 87 = .ok (.getfield 13, 3) := by decide +kernel
theorem dX9_packFunction_90 : decode cX9_packFunction 90 = .ok (.iload_n 1, 1) := by decide +kernel
theorem dX9_packFunction_91 : decode cX9_packFunction 91 = .ok (.iaload, 1) := by decide +kernel
theorem dX9_packFunction_92 : decode cX9_packFunction 92 = .ok (.istore_n 3, 1) := by decide +kernel
theorem dX9_packFunction_93 : decode cX9_packFunction 93 = .ok (.iload_n 3, 1) := by decide +kernel
theorem dX9_packFunction_94 : decode cX9_packFunction 94 = .ok (.aload_n 0, 1) := by decide +kernel
theorem dX9_packFunction_95 : decode cX9_packFunction 95 = .ok (.getfield 16, 3) := by decide +kernel
theorem dX9_packFunction_98 : decode cX9_packFunction 98 = .ok (.iload_n 1, 1) := by decide +kernel
theorem dX9_packFunction_99 : decode cX9_packFunction 99 = .ok (.iaload, 1) := by decide +kernel
theorem dX9_packFunction_100 : decode cX9_packFunction 100 = .ok (.if_icmp .ge 29, 3) := by decide +kernel
theorem dX9_packFunction_103 : decode cX9_packFunction 103 = .ok (.aload_n 0, 1) := by decide +kernel
theorem dX9_packFunction_104 : decode cX9_packFunction 104 = .ok (.getfield 19, 3) := by decide +kernel
theorem dX9_packFunction_107 : decode cX9_packFunction 107 = .ok (.iconst 5, 1) := by decide +kernel
theorem dX9_packFunction_108 : decode cX9_packFunction 108 = .ok (.iload_n 3, 1) := by decide +kernel
theorem dX9_packFunction_109 : decode cX9_packFunction 109 = .ok (.imul, 1) := by decide +kernel
theorem dX9_packFunction_110 : decode cX9_packFunction 110 = .ok (.iaload, 1) := by decide +kernel
theorem dX9_packFunction_111 : decode cX9_packFunction 111 = .ok (.ifCond .le 12, 3) := by decide +kernel
theorem dX9_packFunction_114 : decode cX9_packFunction 114 = .ok (.aload_n 0, 1) := by decide +kernel
theorem dX9_packFunction_115 : decode cX9_packFunction 115 = .ok (.iload_n 3, 1) := by decide +kernel
theorem dX9_packFunction_116 : decode cX9_packFunction 116 = .ok (.aload_n 0, 1) := by decide +kernel
theorem dX9_packFunction_117 : decode cX9_packFunction 117 = .ok (.getfield 131, 3) := by decide +kernel
theorem dX9_packFunction_120 : decode cX9_packFunction 120 = .ok (.invokevirtual 134, 3) := by decide +kernel
theorem dX9_packFunction_123 : decode cX9_packFunction 123 = .ok (.iinc 3 1, 3) := by decide +kernel
theorem dX9_packFunction_126 : decode cX9_packFunction 126 = .ok (.goto (-33), 3) := by decide +kernel
theorem dX9_packFunction_129 : decode cX9_packFunction 129 = .ok (.aload_n 0, 1) := by decide +kernel
theorem dX9_packFunction_130 : decode cX9_packFunction 130 = .ok (.getfield 124, 3) := by decide +kernel
theorem dX9_packFunction_133 : decode cX9_packFunction 133 = .ok (.iload_n 2, 1) := by decide +kernel
theorem dX9_packFunction_134 : decode cX9_packFunction 134 = .ok (.isub, 1) := by decide +kernel
theorem dX9_packFunction_135 : decode cX9_packFunction 135 = .ok (.iconst 2, 1) := by decide +kernel
theorem dX9_packFunction_136 : decode cX9_packFunction 136 = .ok (.isub, 1) := by decide +kernel
theorem dX9_packFunction_137 : decode cX9_packFunction 137 = .ok (.istore_n 3, 1) := by decide +kernel
theorem dX9_packFunction_138 : decode cX9_packFunction 138 = .ok (.aload_n 0, 1) := by decide +kernel
theorem dX9_packFunction_139 : decode cX9_packFunction 139 = .ok (.getfield 35, 3) := by decide +kernel
theorem dX9_packFunction_142 : decode cX9_packFunction 142 = .ok (.iload_n 2, 1) := by decide +kernel
theorem dX9_packFunction_143 : decode cX9_packFunction 143 = .ok (.iload_n 3, 1) := by decide +kernel
theorem dX9_packFunction_144 : decode cX9_packFunction 144 = .ok (.sipush 256, 3) := by decide +kernel
theorem dX9_packFunction_147 : decode cX9_packFunction 147 = .ok (.idiv, 1) := by decide +kernel
theorem dX9_packFunction_148 : decode cX9_packFunction 148 = .ok (.iastore, 1) := by decide +kernel
theorem dX9_packFunction_149 : decode cX9_packFunction 149 = .ok (.aload_n 0, 1) := by decide +kernel
theorem dX9_packFunction_150 : decode cX9_packFunction 150 = .ok (.getfield 35, 3) := by decide +kernel
theorem dX9_packFunction_153 : decode cX9_packFunction 153 = .ok (.iload_n 2, 1) := by decide +kernel
theorem dX9_packFunction_154 : decode cX9_packFunction 154 = .ok (.iconst 1, 1) := by decide +kernel
theorem dX9_packFunction_155 : decode cX9_packFunction 155 = .ok (.iadd, 1) := by decide +kernel
theorem dX9_packFunction_156 : decode cX9_packFunction 156 = .ok (.iload_n 3, 1) := by decide +kernel
theorem dX9_packFunction_157 : decode cX9_packFunction 157 = .ok (.sipush 256, 3) := by decide +kernel
theorem dX9_packFunction_160 : decode cX9_packFunction 160 = .ok (.irem, 1) := by decide +kernel
theorem dX9_packFunction_161 : decode cX9_packFunction 161 = .ok (.iastore, 1) := by decide +kernel
theorem dX9_packFunction_162 : decode cX9_packFunction 162 = .ok (.return_, 1) := by decide +kernel
theorem dX9_pack_0 : decode cX9_pack 0 = .ok (.aload_n 0, 1) := by decide +kernel
theorem dX9_pack_1 : decode cX9_pack 1 = .ok (.iconst 0, 1) := by decide +kernel
theorem dX9_pack_2 : decode cX9_pack 2 = .ok (.putfield 59, 3) := by decide +kernel
theorem dX9_pack_5 : decode cX9_pack 5 = .ok (.aload_n 0, 1) := by decide +kernel
theorem dX9_pack_6 : decode cX9_pack 6 = .ok (.iconst 0, 1) := by decide +kernel
theorem dX9_pack_7 : decode cX9_pack 7 = .ok (.putfield 124, 3) := by decide +kernel
theorem dX9_pack_10 : decode cX9_pack 10 = .ok (.iconst 0, 1) := by decide +kernel
theorem dX9_pack_11 : decode cX9_pack 11 = .ok (.istore_n 1, 1) := by decide +kernel
theorem dX9_pack_12 : decode cX9_pack 12 = .ok (.iload_n 1, 1) := by decide +kernel
theorem dX9_pack_13 : decode cX9_pack 13 = .ok (.aload_n 0, 1) := by decide +kernel
theorem dX9_pack_14 : decode cX9_pack 14 = .ok (.getfield 76, 3) := by decide +kernel
theorem dX9_pack_17 : decode cX9_pack 17 = .ok (.if_icmp .ge 77, 3) := by decide +kernel
theorem dX9_pack_20 : decode cX9_pack 20 = .ok (.iconst 0, 1) := by decide +kernel
theorem dX9_pack_21 : decode cX9_pack 21 = .ok (.istore_n 2, 1) := by decide +kernel
theorem dX9_pack_22 : decode cX9_pack 22 = .ok (.iload_n 2, 1) := by decide +kernel
theorem dX9_pack_23 : decode cX9_pack 23 = .ok (.sipush 485, 3) := by decide +kernel
theorem dX9_pack_26 : decode cX9_pack 26 = .ok (.if_icmp .ge 16, 3) := by decide +kernel
theorem dX9_pack_29 : decode cX9_pack 29 = .ok (.aload_n 0, 1) := by decide +kernel
theorem dX9_pack_30 : decode cX9_pack 30 = .ok (.getfield 19, 3) := by decide +kernel
theorem dX9_pack_33 : decode cX9_pack 33 = .ok (.iload_n 2, 1) := by decide +kernel
theorem dX9_pack_34 : decode cX9_pack 34 = .ok (.iconst 0, 1) := by decide +kernel
theorem dX9_pack_35 : decode cX9_pack 35 = .ok (.iastore, 1) := by decide +kernel
theorem dX9_pack_36 : decode cX9_pack 36 = .ok (.iinc 2 1, 3) := by decide +kernel
theorem dX9_pack_39 : decode cX9_pack 39 = .ok (.goto (-17), 3) := by decide +kernel
theorem dX9_pack_42 : decode cX9_pack 42 = .ok (.iconst 0, 1) := by decide +kernel
theorem dX9_pack_43 : decode cX9_pack 43 = .ok (.istore_n 2, 1) := by decide +kernel
theorem dX9_pack_44 : decode cX9_pack 44 = .ok (.iload_n 2, 1) := by decide +kernel
theorem dX9_pack_45 : decode cX9_pack 45 = .ok (.bipush 97, 2) := by decide +kernel
theorem dX9_pack_47 : decode cX9_pack 47 = .ok (.if_icmp .ge 23, 3) := by decide +kernel
theorem dX9_pack_50 : decode cX9_pack 50 = .ok (.aload_n 0, 1) := by decide +kernel
theorem dX9_pack_51 : decode cX9_pack 51 = .ok (.getfield 22, 3) := by decide +kernel
theorem dX9_pack_54 : decode cX9_pack 54 = .ok (.iload_n 2, 1) := by decide +kernel
theorem dX9_pack_55 : decode cX9_pack 55 = .ok (.iconst 0, 1) := by decide +kernel
theorem dX9_pack_56 : decode cX9_pack 56 = .ok (.bastore, 1) := by decide +kernel
theorem dX9_pack_57 : decode cX9_pack 57 = .ok (.aload_n 0, 1) := by decide +kernel
theorem dX9_pack_58 : decode cX9_pack 58 = .ok (.getfield 26, 3) := by decide +kernel
theorem dX9_pack_61 : decode cX9_pack 61 = .ok (.iload_n 2, 1) := by decide +kernel
theorem dX9_pack_62 : decode cX9_pack 62 = .ok (.iconst 0, 1) := by decide +kernel
theorem dX9_pack_63 : decode cX9_pack 63 = .ok (.bastore, 1) := by decide +kernel
theorem dX9_pack_64 : decode cX9_pack 64 = .ok (.iinc 2 1, 3) := by decide +kernel
theorem dX9_pack_67 : decode cX9_pack 67 = .ok (.goto (-23), 3) := by decide +kernel
theorem dX9_pack_70 : decode cX9_pack 70 = .ok (.aload_n 0, 1) := by decide +kernel
theorem dX9_pack_71 : decode cX9_pack 71 = .ok (.iload_n 1, 1) := by decide +kernel
theorem dX9_pack_72 : decode cX9_pack 72 = .ok (.invokevirtual 137, 3) := by decide +kernel
theorem dX9_pack_75 : decode cX9_pack 75 = .ok (.istore_n 2, 1) := by decide +kernel
theorem dX9_pack_76 : decode cX9_pack 76 = .ok (.iload_n 2, 1) := by decide +kernel
theorem dX9_pack_77 : decode cX9_pack 77 = .ok (.ifCond .le 6, 3) := by decide +kernel
theorem dX9_pack_80 : decode cX9_pack 80 = .ok (.iload_n 2, 1) := by decide +kernel
theorem dX9_pack_81 : decode cX9_pack 81 = .ok (.ineg, 1) := by decide +kernel
theorem dX9_pack_82 : decode cX9_pack 82 = .ok (.ireturn, 1) := by decide +kernel
theorem dX9_pack_83 : decode cX9_pack 83 = .ok (.aload_n 0, 1) := by decide +kernel
theorem dX9_pack_84 : decode cX9_pack 84 = .ok (.iload_n 1, 1) := by decide +kernel
theorem dX9_pack_85 : decode cX9_pack 85 = .ok (.invokevirtual 140, 3) := by decide +kernel
theorem dX9_pack_88 : decode cX9_pack 88 = .ok (.iinc 1 1, 3) := by decide +kernel
theorem dX9_pack_91 : decode cX9_pack 91 = .ok (.goto (-79), 3) := by decide +kernel
theorem dX9_pack_94 : decode cX9_pack 94 = .ok (.iconst 0, 1) := by decide +kernel
theorem dX9_pack_95 : decode cX9_pack 95 = .ok (.istore_n 1, 1) := by decide +kernel
theorem dX9_pack_96 : decode cX9_pack 96 = .ok (.iload_n 1, 1) := by decide +kernel
theorem dX9_pack_97 : decode cX9_pack 97 = .ok (.aload_n 0, 1) := by decide +kernel
theorem dX9_pack_98 : decode cX9_pack 98 = .ok (.getfield 124, 3) := by decide +kernel
theorem dX9_pack_101 : decode cX9_pack 101 = .ok (.if_icmp .ge 21, 3) := by decide +kernel
theorem dX9_pack_104 : decode cX9_pack 104 = .ok (.aload_n 0, 1) := by decide +kernel
theorem dX9_pack_105 : decode cX9_pack 105 = .ok (.getfield 32, 3) := by decide +kernel
theorem dX9_pack_108 : decode cX9_pack 108 = .ok (.iload_n 1, 1) := by decide +kernel
theorem dX9_pack_109 : decode cX9_pack 109 = .ok (.aload_n 0, 1) := by decide +kernel
theorem dX9_pack_110 : decode cX9_pack 110 = .ok (.getfield 35, 3) := by decide +kernel
theorem dX9_pack_113 : decode cX9_pack 113 = .ok (.iload_n 1, 1) := by decide +kernel
theorem dX9_pack_114 : decode cX9_pack 114 = .ok (.iaload, 1) := by decide +kernel
theorem dX9_pack_115 : decode cX9_pack 115 = .ok (.iastore, 1) := by decide +kernel
theorem dX9_pack_116 : decode cX9_pack 116 = .ok (.iinc 1 1, 3) := by decide +kernel
theorem dX9_pack_119 : decode cX9_pack 119 = .ok (.goto (-23), 3) := by decide +kernel
theorem dX9_pack_122 : decode cX9_pack 122 = .ok (.aload_n 0, 1) := by decide +kernel
theorem dX9_pack_123 : decode cX9_pack 123 = .ok (.aload_n 0, 1) := by decide +kernel
theorem dX9_pack_124 : decode cX9_pack 124 = .ok (.getfield 124, 3) := by decide +kernel
theorem dX9_pack_127 : decode cX9_pack 127 = .ok (.putfield 143, 3) := by decide +kernel
theorem dX9_pack_130 : decode cX9_pack 130 = .ok (.aload_n 0, 1) := by decide +kernel
theorem dX9_pack_131 : decode cX9_pack 131 = .ok (.getfield 143, 3) := by decide +kernel
theorem dX9_pack_134 : decode cX9_pack 134 = .ok (.ireturn, 1) := by decide +kernel
theorem dX9_section_0 : decode cX9_section 0 = .ok (.aload_n 0, 1) := by decide +kernel
theorem dX9_section_1 : decode cX9_section 1 = .ok (.iconst 0, 1) := by decide +kernel
theorem dX9_section_2 : decode cX9_section 2 = .ok (.putfield 59, 3) := by decide +kernel
theorem dX9_section_5 : decode cX9_section 5 = .ok (.iload_n 1, 1) := by decide +kernel
theorem dX9_section_6 : decode cX9_section 6 = .ok (.ifCond .lt 11, 3) := by decide +kernel
theorem dX9_section_9 : decode cX9_section 9 = .ok (.iload_n 1, 1) := by decide +kernel
theorem dX9_section_10 : decode cX9_section 10 = .ok (.aload_n 0, 1) := by decide +kernel
theorem dX9_section_11 : decode cX9_section 11 = .ok (.getfield 143, 3) := by decide +kernel
theorem dX9_section_14 : decode cX9_section 14 = .ok (.if_icmp .lt 7, 3) := by decide +kernel
theorem dX9_section_17 : decode cX9_section 17 = .ok (.iconst (-1), 1) := by decide +kernel
theorem dX9_section_18 : decode cX9_section 18 = .ok (.goto 9, 3) := by decide +kernel
theorem dX9_section_21 : decode cX9_section 21 = .ok (.aload_n 0, 1) := by decide +kernel
theorem dX9_section_22 : decode cX9_section 22 = .ok (.getfield 32, 3) := by decide +kernel
theorem dX9_section_25 : decode cX9_section 25 = .ok (.iload_n 1, 1) := by decide +kernel
theorem dX9_section_26 : decode cX9_section 26 = .ok (.iaload, 1) := by decide +kernel
theorem dX9_section_27 : decode cX9_section 27 = .ok (.ireturn, 1) := by decide +kernel
theorem dX9_poke_0 : decode cX9_poke 0 = .ok (.aload_n 0, 1) := by decide +kernel
theorem dX9_poke_1 : decode cX9_poke 1 = .ok (.iconst 0, 1) := by decide +kernel
theorem dX9_poke_2 : decode cX9_poke 2 = .ok (.putfield 59, 3) := by decide +kernel
theorem dX9_poke_5 : decode cX9_poke 5 = .ok (.iload_n 1, 1) := by decide +kernel
theorem dX9_poke_6 : decode cX9_poke 6 = .ok (.ifCond .lt 22, 3) := by decide +kernel
theorem dX9_poke_9 : decode cX9_poke 9 = .ok (.iload_n 1, 1) := by decide +kernel
theorem dX9_poke_10 : decode cX9_poke 10 = .ok (.aload_n 0, 1) := by decide +kernel
theorem dX9_poke_11 : decode cX9_poke 11 = .ok (.getfield 143, 3) := by decide +kernel
theorem dX9_poke_14 : decode cX9_poke 14 = .ok (.if_icmp .ge 14, 3) := by decide +kernel
theorem dX9_poke_17 : decode cX9_poke 17 = .ok (.iload_n 2, 1) := by decide +kernel
theorem dX9_poke_18 : decode cX9_poke 18 = .ok (.ifCond .lt 10, 3) := by decide +kernel
theorem dX9_poke_21 : decode cX9_poke 21 = .ok (.iload_n 2, 1) := by decide +kernel
theorem dX9_poke_22 : decode cX9_poke 22 = .ok (.sipush 255, 3) := by decide +kernel
theorem dX9_poke_25 : decode cX9_poke 25 = .ok (.if_icmp .le 5, 3) := by decide +kernel
theorem dX9_poke_28 : decode cX9_poke 28 = .ok (.iconst 0, 1) := by decide +kernel
theorem dX9_poke_29 : decode cX9_poke 29 = .ok (.ireturn, 1) := by decide +kernel
theorem dX9_poke_30 : decode cX9_poke 30 = .ok (.aload_n 0, 1) := by decide +kernel
theorem dX9_poke_31 : decode cX9_poke 31 = .ok (.getfield 32, 3) := by decide +kernel
theorem dX9_poke_34 : decode cX9_poke 34 = .ok (.iload_n 1, 1) := by decide +kernel
theorem dX9_poke_35 : decode cX9_poke 35 = .ok (.iload_n 2, 1) := by decide +kernel
theorem dX9_poke_36 : decode cX9_poke 36 = .ok (.iastore, 1) := by decide +kernel
theorem dX9_poke_37 : decode cX9_poke 37 = .ok (.iconst 1, 1) := by decide +kernel
theorem dX9_poke_38 : decode cX9_poke 38 = .ok (.ireturn, 1) := by decide +kernel
theorem dX9_readProgram_0 : decode cX9_readProgram 0 = .ok (.aload_n 0, 1) := by decide +kernel
theorem dX9_readProgram_1 : decode cX9_readProgram 1 = .ok (.getfield 41, 3) := by decide +kernel
theorem dX9_readProgram_4 : decode cX9_readProgram 4 = .ok (.iconst 0, 1) := by decide +kernel
theorem dX9_readProgram_5 : decode cX9_readProgram 5 = .ok (.iconst 0, 1) := by decide +kernel
theorem dX9_readProgram_6 : decode cX9_readProgram 6 = .ok (.iastore, 1) := by decide +kernel
theorem dX9_readProgram_7 : decode cX9_readProgram 7 = .ok (.aload_n 0, 1) := by decide +kernel
theorem dX9_readProgram_8 : decode cX9_readProgram 8 = .ok (.getfield 41, 3) := by decide +kernel
theorem dX9_readProgram_11 : decode cX9_readProgram 11 = .ok (.iconst 1, 1) := by decide +kernel
theorem dX9_readProgram_12 : decode cX9_readProgram 12 = .ok (.iconst 1, 1) := by decide +kernel
theorem dX9_readProgram_13 : decode cX9_readProgram 13 = .ok (.iastore, 1) := by decide +kernel
theorem dX9_readProgram_14 : decode cX9_readProgram 14 = .ok (.iconst 2, 1) := by decide +kernel
theorem dX9_readProgram_15 : decode cX9_readProgram 15 = .ok (.istore 6, 2) := by decide +kernel
theorem dX9_readProgram_17 : decode cX9_readProgram 17 = .ok (.iload 6, 2) := by decide +kernel
theorem dX9_readProgram_19 : decode cX9_readProgram 19 = .ok (.iconst 5, 1) := by decide +kernel
theorem dX9_readProgram_20 : decode cX9_readProgram 20 = .ok (.if_icmp .ge 17, 3) := by decide +kernel
theorem dX9_readProgram_23 : decode cX9_readProgram 23 = .ok (.aload_n 0, 1) := by decide +kernel
theorem dX9_readProgram_24 : decode cX9_readProgram 24 = .ok (.getfield 41, 3) := by decide +kernel
theorem dX9_readProgram_27 : decode cX9_readProgram 27 = .ok (.iload 6, 2) := by decide +kernel
theorem dX9_readProgram_29 : decode cX9_readProgram 29 = .ok (.iconst 0, 1) := by decide +kernel
theorem dX9_readProgram_30 : decode cX9_readProgram 30 = .ok (.iastore, 1) := by decide +kernel
theorem dX9_readProgram_31 : decode cX9_readProgram 31 = .ok (.iinc 6 1, 3) := by decide +kernel
theorem dX9_readProgram_34 : decode cX9_readProgram 34 = .ok (.goto (-17), 3) := by decide +kernel
theorem dX9_readProgram_37 : decode cX9_readProgram 37 = .ok (.iload_n 3, 1) := by decide +kernel
theorem dX9_readProgram_38 : decode cX9_readProgram 38 = .ok (.istore 6, 2) := by decide +kernel
theorem dX9_readProgram_40 : decode cX9_readProgram 40 = .ok (.iconst 0, 1) := by decide +kernel
theorem dX9_readProgram_41 : decode cX9_readProgram 41 = .ok (.istore 7, 2) := by decide +kernel
theorem dX9_readProgram_43 : decode cX9_readProgram 43 = .ok (.aload_n 0, 1) := by decide +kernel
theorem dX9_readProgram_44 : decode cX9_readProgram 44 = .ok (.iload 6, 2) := by decide +kernel
theorem dX9_readProgram_46 : decode cX9_readProgram 46 = .ok (.iload 5, 2) := by decide +kernel
theorem dX9_readProgram_48 : decode cX9_readProgram 48 = .ok (.if_icmp .gt 7, 3) := by decide +kernel
theorem dX9_readProgram_51 : decode cX9_readProgram 51 = .ok (.iconst 1, 1) := by decide +kernel
theorem dX9_readProgram_52 : decode cX9_readProgram 52 = .ok (.goto 4, 3) := by decide +kernel
theorem dX9_readProgram_55 : decode cX9_readProgram 55 = .ok (.iconst 0, 1) := by decide +kernel
theorem dX9_readProgram_56 : decode cX9_readProgram 56 = .ok (.invokevirtual 146, 3) := by decide +kernel
theorem dX9_readProgram_59 : decode cX9_readProgram 59 = .ok (.iload_n 1, 1) := by decide +kernel
theorem dX9_readProgram_60 : decode cX9_readProgram 60 = .ok (.istore 8, 2) := by decide +kernel
theorem dX9_readProgram_62 : decode cX9_readProgram 62 = .ok (.iload 8, 2) := by decide +kernel
theorem dX9_readProgram_64 : decode cX9_readProgram 64 = .ok (.iload_n 2, 1) := by decide +kernel
theorem dX9_readProgram_65 : decode cX9_readProgram 65 = .ok (.if_icmp .ge 436, 3) := by decide +kernel
theorem dX9_readProgram_68 : decode cX9_readProgram 68 = .ok (.aload_n 0, 1) := by decide +kernel
theorem dX9_readProgram_69 : decode cX9_readProgram 69 = .ok (.getfield 32, 3) := by decide +kernel
theorem dX9_readProgram_72 : decode cX9_readProgram 72 = .ok (.iload 8, 2) := by decide +kernel
theorem dX9_readProgram_74 : decode cX9_readProgram 74 = .ok (.iaload, 1) := by decide +kernel
theorem dX9_readProgram_75 : decode cX9_readProgram 75 = .ok (.istore 9, 2) := by decide +kernel
theorem dX9_readProgram_77 : decode cX9_readProgram 77 = .ok (.iload 9, 2) := by decide +kernel
theorem dX9_readProgram_79 : decode cX9_readProgram 79 = .ok (.iconst 2, 1) := by decide +kernel
theorem dX9_readProgram_80 : decode cX9_readProgram 80 = .ok (.if_icmp .eq 32, 3) := by decide +kernel
theorem dX9_readProgram_83 : decode cX9_readProgram 83 = .ok (.iload 9, 2) := by decide +kernel
theorem dX9_readProgram_85 : decode cX9_readProgram 85 = .ok (.bipush 13, 2) := by decide +kernel
theorem dX9_readProgram_87 : decode cX9_readProgram 87 = .ok (.if_icmp .eq 25, 3) := by decide +kernel
theorem dX9_readProgram_90 : decode cX9_readProgram 90 = .ok (.iload 9, 2) := by decide +kernel
theorem dX9_readProgram_92 : decode cX9_readProgram 92 = .ok (.bipush 14, 2) := by decide +kernel
theorem dX9_readProgram_94 : decode cX9_readProgram 94 = .ok (.if_icmp .eq 18, 3) := by decide +kernel
theorem dX9_readProgram_97 : decode cX9_readProgram 97 = .ok (.iload 9, 2) := by decide +kernel
theorem dX9_readProgram_99 : decode cX9_readProgram 99 = .ok (.bipush 127, 2) := by decide +kernel
theorem dX9_readProgram_101 : decode cX9_readProgram 101 = .ok (.if_icmp .le 15, 3) := by decide +kernel
theorem dX9_readProgram_104 : decode cX9_readProgram 104 = .ok (.iload 9, 2) := by decide +kernel
theorem dX9_readProgram_106 : decode cX9_readProgram 106 = .ok (.sipush 131, 3) := by decide +kernel
theorem dX9_readProgram_109 : decode cX9_readProgram 109 = .ok (.if_icmp .ge 7, 3) := by decide +kernel
theorem dX9_readProgram_112 : decode cX9_readProgram 112 = .ok (.iconst 1, 1) := by decide +kernel
theorem dX9_readProgram_113 : decode cX9_readProgram 113 = .ok (.goto 15, 3) := by decide +kernel
theorem dX9_readProgram_116 : decode cX9_readProgram 116 = .ok (.iload 9, 2) := by decide +kernel
theorem dX9_readProgram_118 : decode cX9_readProgram 118 = .ok (.bipush 12, 2) := by decide +kernel
theorem dX9_readProgram_120 : decode cX9_readProgram 120 = .ok (.if_icmp .ne 7, 3) := by decide +kernel
theorem dX9_readProgram_123 : decode cX9_readProgram 123 = .ok (.iconst 2, 1) := by decide +kernel
theorem dX9_readProgram_124 : decode cX9_readProgram 124 = .ok (.goto 4, 3) := by decide +kernel
theorem dX9_readProgram_127 : decode cX9_readProgram 127 = .ok (.iconst 0, 1) := by decide +kernel
theorem dX9_readProgram_128 : decode cX9_readProgram 128 = .ok (.istore 10, 2) := by decide +kernel
theorem dX9_readProgram_130 : decode cX9_readProgram 130 = .ok (.iload 8, 2) := by decide +kernel
theorem dX9_readProgram_132 : decode cX9_readProgram 132 = .ok (.iload 10, 2) := by decide +kernel
theorem dX9_readProgram_134 : decode cX9_readProgram 134 = .ok (.iadd, 1) := by decide +kernel
theorem dX9_readProgram_135 : decode cX9_readProgram 135 = .ok (.iload_n 2, 1) := by decide +kernel
theorem dX9_readProgram_136 : decode cX9_readProgram 136 = .ok (.if_icmp .lt 5, 3) := by decide +kernel
theorem dX9_readProgram_139 : decode cX9_readProgram 139 = .ok (.iconst 0, 1) := by decide +kernel
theorem dX9_readProgram_140 : decode cX9_readProgram 140 = .ok (.ireturn, 1) := by decide +kernel
theorem dX9_readProgram_141 : decode cX9_readProgram 141 = .ok (.iload 10, 2) := by decide +kernel
theorem dX9_readProgram_143 : decode cX9_readProgram 143 = .ok (.ifCond .le 15, 3) := by decide +kernel
theorem dX9_readProgram_146 : decode cX9_readProgram 146 = .ok (.aload_n 0, 1) := by decide +kernel
theorem dX9_readProgram_147 : decode cX9_readProgram 147 = .ok (.getfield 32, 3) := by decide +kernel
theorem dX9_readProgram_150 : decode cX9_readProgram 150 = .ok (.iload 8, 2) := by decide +kernel
theorem dX9_readProgram_152 : decode cX9_readProgram 152 = .ok (.iconst 1, 1) := by decide +kernel
theorem dX9_readProgram_153 : decode cX9_readProgram 153 = .ok (.iadd, 1) := by decide +kernel
theorem dX9_readProgram_154 : decode cX9_readProgram 154 = .ok (.iaload, 1) := by decide +kernel
theorem dX9_readProgram_155 : decode cX9_readProgram 155 = .ok (.goto 4, 3) := by decide +kernel
theorem dX9_readProgram_158 : decode cX9_readProgram 158 = .ok (.iconst 0, 1) := by decide +kernel
theorem dX9_readProgram_159 : decode cX9_readProgram 159 = .ok (.istore 11, 2) := by decide +kernel
theorem dX9_readProgram_161 : decode cX9_readProgram 161 = .ok (.iload 9, 2) := by decide +kernel
theorem dX9_readProgram_163 : decode cX9_readProgram 163 = .ok (.iconst 2, 1) := by decide +kernel
theorem dX9_readProgram_164 : decode cX9_readProgram 164 = .ok (.if_icmp .eq 18, 3) := by decide +kernel
theorem dX9_readProgram_167 : decode cX9_readProgram 167 = .ok (.iload 9, 2) := by decide +kernel
theorem dX9_readProgram_169 : decode cX9_readProgram 169 = .ok (.bipush 63, 2) := by decide +kernel
theorem dX9_readProgram_171 : decode cX9_readProgram 171 = .ok (.if_icmp .le 43, 3) := by decide +kernel
theorem dX9_readProgram_174 : decode cX9_readProgram 174 = .ok (.iload 9, 2) := by decide +kernel
theorem dX9_readProgram_176 : decode cX9_readProgram 176 = .ok (.sipush 128, 3) := by decide +kernel
theorem dX9_readProgram_179 : decode cX9_readProgram 179 = .ok (.if_icmp .ge 35, 3) := by decide +kernel
theorem dX9_readProgram_182 : decode cX9_readProgram 182 = .ok (.iload 6, 2) := by decide +kernel
theorem dX9_readProgram_184 : decode cX9_readProgram 184 = .ok (.iload 9, 2) := by decide +kernel
theorem dX9_readProgram_186 : decode cX9_readProgram 186 = .ok (.iconst 2, 1) := by decide +kernel
theorem dX9_readProgram_187 : decode cX9_readProgram 187 = .ok (.if_icmp .ne 8, 3) := by decide +kernel
theorem dX9_readProgram_190 : decode cX9_readProgram 190 = .ok (.iload 11, 2) := by decide +kernel
theorem dX9_readProgram_192 : decode cX9_readProgram 192 = .ok (.goto 8, 3) := by decide +kernel
theorem dX9_readProgram_195 : decode cX9_readProgram 195 = .ok (.iload 9, 2) := by decide +kernel
theorem dX9_readProgram_197 : decode cX9_readProgram 197 = .ok (.bipush 64, 2) := by decide +kernel
theorem dX9_readProgram_199 : decode cX9_readProgram 199 = .ok (.isub, 1) := by decide +kernel
theorem dX9_readProgram_200 : decode cX9_readProgram 200 = .ok (.iadd, 1) := by decide +kernel
theorem dX9_readProgram_201 : decode cX9_readProgram 201 = .ok (.istore 6, 2) := by decide +kernel
theorem dX9_readProgram_203 : decode cX9_readProgram 203 = .ok (.iload 6, 2) := by decide +kernel
theorem dX9_readProgram_205 : decode cX9_readProgram 205 = .ok (.iload_n 3, 1) := by decide +kernel
theorem dX9_readProgram_206 : decode cX9_readProgram 206 = .ok (.iload 4, 2) := by decide +kernel
theorem dX9_readProgram_208 : decode cX9_readProgram 208 = .ok (.iadd, 1) := by decide +kernel
theorem dX9_readProgram_209 : decode cX9_readProgram 209 = .ok (.if_icmp .lt 264, 3) := by decide +kernel
theorem dX9_readProgram_212 : decode cX9_readProgram 212 = .ok (.iconst 0, 1) := by decide +kernel
theorem dX9_readProgram_213 : decode cX9_readProgram 213 = .ok (.ireturn, 1) := by decide +kernel
theorem dX9_readProgram_214 : decode cX9_readProgram 214 = .ok (.iload 9, 2) := by decide +kernel
theorem dX9_readProgram_216 : decode cX9_readProgram 216 = .ok (.bipush 10, 2) := by decide +kernel
theorem dX9_readProgram_218 : decode cX9_readProgram 218 = .ok (.if_icmp .ne 51, 3) := by decide +kernel
theorem dX9_readProgram_221 : decode cX9_readProgram 221 = .ok (.iload 7, 2) := by decide +kernel
theorem dX9_readProgram_223 : decode cX9_readProgram 223 = .ok (.iconst 4, 1) := by decide +kernel
theorem dX9_readProgram_224 : decode cX9_readProgram 224 = .ok (.if_icmp .ne 5, 3) := by decide +kernel
theorem dX9_readProgram_227 : decode cX9_readProgram 227 = .ok (.iconst 0, 1) := by decide +kernel
theorem dX9_readProgram_228 : decode cX9_readProgram 228 = .ok (.ireturn, 1) := by decide +kernel
theorem dX9_readProgram_229 : decode cX9_readProgram 229 = .ok (.iconst 0, 1) := by decide +kernel
theorem dX9_readProgram_230 : decode cX9_readProgram 230 = .ok (.istore 12, 2) := by decide +kernel
theorem dX9_readProgram_232 : decode cX9_readProgram 232 = .ok (.iload 12, 2) := by decide +kernel
theorem dX9_readProgram_234 : decode cX9_readProgram 234 = .ok (.iconst 5, 1) := by decide +kernel
theorem dX9_readProgram_235 : decode cX9_readProgram 235 = .ok (.if_icmp .ge 28, 3) := by decide +kernel
theorem dX9_readProgram_238 : decode cX9_readProgram 238 = .ok (.aload_n 0, 1) := by decide +kernel
theorem dX9_readProgram_239 : decode cX9_readProgram 239 = .ok (.getfield 44, 3) := by decide +kernel
theorem dX9_readProgram_242 : decode cX9_readProgram 242 = .ok (.iconst 5, 1) := by decide +kernel
theorem dX9_readProgram_243 : decode cX9_readProgram 243 = .ok (.iload 7, 2) := by decide +kernel
theorem dX9_readProgram_245 : decode cX9_readProgram 245 = .ok (.imul, 1) := by decide +kernel
theorem dX9_readProgram_246 : decode cX9_readProgram 246 = .ok (.iload 12, 2) := by decide +kernel
theorem dX9_readProgram_248 : decode cX9_readProgram 248 = .ok (.iadd, 1) := by decide +kernel
theorem dX9_readProgram_249 : decode cX9_readProgram 249 = .ok (.aload_n 0, 1) := by decide +kernel
theorem dX9_readProgram_250 : decode cX9_readProgram 250 = .ok (.getfield 41, 3) := by decide +kernel
theorem dX9_readProgram_253 : decode cX9_readProgram 253 = .ok (.iload 12, 2) := by decide +kernel
theorem dX9_readProgram_255 : decode cX9_readProgram 255 = .ok (.iaload, 1) := by decide +kernel
theorem dX9_readProgram_256 : decode cX9_readProgram 256 = .ok (.iastore, 1) := by decide +kernel
theorem dX9_readProgram_257 : decode cX9_readProgram 257 = .ok (.iinc 12 1, 3) := by decide +kernel
theorem dX9_readProgram_260 : decode cX9_readProgram 260 = .ok (.goto (-28), 3) := by decide +kernel
theorem dX9_readProgram_263 : decode cX9_readProgram 263 = .ok (.iinc 7 1, 3) := by decide +kernel
theorem dX9_readProgram_266 : decode cX9_readProgram 266 = .ok (.goto 207, 3) := by decide +kernel
theorem dX9_readProgram_269 : decode cX9_readProgram 269 = .ok (.iload 9, 2) := by decide +kernel
theorem dX9_readProgram_271 : decode cX9_readProgram 271 = .ok (.bipush 11, 2) := by decide +kernel
theorem dX9_readProgram_273 : decode cX9_readProgram 273 = .ok (.if_icmp .ne 50, 3) := by decide +kernel
theorem dX9_readProgram_276 : decode cX9_readProgram 276 = .ok (.iload 7, 2) := by decide +kernel
theorem dX9_readProgram_278 : decode cX9_readProgram 278 = .ok (.ifCond .ne 5, 3) := by decide +kernel
theorem dX9_readProgram_281 : decode cX9_readProgram 281 = .ok (.iconst 0, 1) := by decide +kernel
theorem dX9_readProgram_282 : decode cX9_readProgram 282 = .ok (.ireturn, 1) := by decide +kernel
theorem dX9_readProgram_283 : decode cX9_readProgram 283 = .ok (.iinc 7 (-1), 3) := by decide +kernel
theorem dX9_readProgram_286 : decode cX9_readProgram 286 = .ok (.iconst 0, 1) := by decide +kernel
theorem dX9_readProgram_287 : decode cX9_readProgram 287 = .ok (.istore 12, 2) := by decide +kernel
theorem dX9_readProgram_289 : decode cX9_readProgram 289 = .ok (.iload 12, 2) := by decide +kernel
theorem dX9_readProgram_291 : decode cX9_readProgram 291 = .ok (.iconst 5, 1) := by decide +kernel
theorem dX9_readProgram_292 : decode cX9_readProgram 292 = .ok (.if_icmp .ge 28, 3) := by decide +kernel
theorem dX9_readProgram_295 : decode cX9_readProgram 295 = .ok (.aload_n 0, 1) := by decide +kernel
theorem dX9_readProgram_296 : decode cX9_readProgram 296 = .ok (.getfield 41, 3) := by decide +kernel
theorem dX9_readProgram_299 : decode cX9_readProgram 299 = .ok (.iload 12, 2) := by decide +kernel
theorem dX9_readProgram_301 : decode cX9_readProgram 301 = .ok (.aload_n 0, 1) := by decide +kernel
theorem dX9_readProgram_302 : decode cX9_readProgram 302 = .ok (.getfield 44, 3) := by decide +kernel
theorem dX9_readProgram_305 : decode cX9_readProgram 305 = .ok (.iconst 5, 1) := by decide +kernel
theorem dX9_readProgram_306 : decode cX9_readProgram 306 = .ok (.iload 7, 2) := by decide +kernel
theorem dX9_readProgram_308 : decode cX9_readProgram 308 = .ok (.imul, 1) := by decide +kernel
theorem dX9_readProgram_309 : decode cX9_readProgram 309 = .ok (.iload 12, 2) := by decide +kernel
theorem dX9_readProgram_311 : decode cX9_readProgram 311 = .ok (.iadd, 1) := by decide +kernel
theorem dX9_readProgram_312 : decode cX9_readProgram 312 = .ok (.iaload, 1) := by decide +kernel
theorem dX9_readProgram_313 : decode cX9_readProgram 313 = .ok (.iastore, 1) := by decide +kernel
theorem dX9_readProgram_314 : decode cX9_readProgram 314 = .ok (.iinc 12 1, 3) := by decide +kernel
theorem dX9_readProgram_317 : decode cX9_readProgram 317 = .ok (.goto (-28), 3) := by decide +kernel
theorem dX9_readProgram_320 : decode cX9_readProgram 320 = .ok (.goto 153, 3) := by decide +kernel
theorem dX9_readProgram_323 : decode cX9_readProgram 323 = .ok (.iload 9, 2) := by decide +kernel
theorem dX9_readProgram_325 : decode cX9_readProgram 325 = .ok (.bipush 12, 2) := by decide +kernel
theorem dX9_readProgram_327 : decode cX9_readProgram 327 = .ok (.if_icmp .eq 10, 3) := by decide +kernel
theorem dX9_readProgram_330 : decode cX9_readProgram 330 = .ok (.iload 9, 2) := by decide +kernel
theorem dX9_readProgram_332 : decode cX9_readProgram 332 = .ok (.bipush 13, 2) := by decide +kernel
theorem dX9_readProgram_334 : decode cX9_readProgram 334 = .ok (.if_icmp .ne 53, 3) := by decide +kernel
theorem dX9_readProgram_337 : decode cX9_readProgram 337 = .ok (.iload 11, 2) := by decide +kernel
theorem dX9_readProgram_339 : decode cX9_readProgram 339 = .ok (.iconst 1, 1) := by decide +kernel
theorem dX9_readProgram_340 : decode cX9_readProgram 340 = .ok (.if_icmp .le 5, 3) := by decide +kernel
theorem dX9_readProgram_343 : decode cX9_readProgram 343 = .ok (.iconst 0, 1) := by decide +kernel
theorem dX9_readProgram_344 : decode cX9_readProgram 344 = .ok (.ireturn, 1) := by decide +kernel
theorem dX9_readProgram_345 : decode cX9_readProgram 345 = .ok (.aload_n 0, 1) := by decide +kernel
theorem dX9_readProgram_346 : decode cX9_readProgram 346 = .ok (.getfield 41, 3) := by decide +kernel
theorem dX9_readProgram_349 : decode cX9_readProgram 349 = .ok (.iconst 0, 1) := by decide +kernel
theorem dX9_readProgram_350 : decode cX9_readProgram 350 = .ok (.iload 11, 2) := by decide +kernel
theorem dX9_readProgram_352 : decode cX9_readProgram 352 = .ok (.iastore, 1) := by decide +kernel
theorem dX9_readProgram_353 : decode cX9_readProgram 353 = .ok (.aload_n 0, 1) := by decide +kernel
theorem dX9_readProgram_354 : decode cX9_readProgram 354 = .ok (.getfield 41, 3) := by decide +kernel
theorem dX9_readProgram_357 : decode cX9_readProgram 357 = .ok (.iconst 1, 1) := by decide +kernel
theorem dX9_readProgram_358 : decode cX9_readProgram 358 = .ok (.iload 9, 2) := by decide +kernel
theorem dX9_readProgram_360 : decode cX9_readProgram 360 = .ok (.bipush 12, 2) := by decide +kernel
theorem dX9_readProgram_362 : decode cX9_readProgram 362 = .ok (.if_icmp .ne 15, 3) := by decide +kernel
theorem dX9_readProgram_365 : decode cX9_readProgram 365 = .ok (.aload_n 0, 1) := by decide +kernel
theorem dX9_readProgram_366 : decode cX9_readProgram 366 = .ok (.getfield 32, 3) := by decide +kernel
theorem dX9_readProgram_369 : decode cX9_readProgram 369 = .ok (.iload 8, 2) := by decide +kernel
theorem dX9_readProgram_371 : decode cX9_readProgram 371 = .ok (.iconst 2, 1) := by decide +kernel
theorem dX9_readProgram_372 : decode cX9_readProgram 372 = .ok (.iadd, 1) := by decide +kernel
theorem dX9_readProgram_373 : decode cX9_readProgram 373 = .ok (.iaload, 1) := by decide +kernel
theorem dX9_readProgram_374 : decode cX9_readProgram 374 = .ok (.goto 9, 3) := by decide +kernel
theorem dX9_readProgram_377 : decode cX9_readProgram 377 = .ok (.aload_n 0, 1) := by decide +kernel
theorem dX9_readProgram_378 : decode cX9_readProgram 378 = .ok (.getfield 41, 3) := by decide +kernel
theorem dX9_readProgram_381 : decode cX9_readProgram 381 = .ok (.iconst 1, 1) := by decide +kernel
theorem dX9_readProgram_382 : decode cX9_readProgram 382 = .ok (.iaload, 1) := by decide +kernel
theorem dX9_readProgram_383 : decode cX9_readProgram 383 = .ok (.iastore, 1) := by decide +kernel
theorem dX9_readProgram_384 : decode cX9_readProgram 384 = .ok (.goto 89, 3) := by decide +kernel
theorem dX9_readProgram_387 : decode cX9_readProgram 387 = .ok (.iload 9, 2) := by decide +kernel
theorem dX9_readProgram_389 : decode cX9_readProgram 389 = .ok (.bipush 14, 2) := by decide +kernel
theorem dX9_readProgram_391 : decode cX9_readProgram 391 = .ok (.if_icmp .ne 14, 3) := by decide +kernel
theorem dX9_readProgram_394 : decode cX9_readProgram 394 = .ok (.aload_n 0, 1) := by decide +kernel
theorem dX9_readProgram_395 : decode cX9_readProgram 395 = .ok (.getfield 41, 3) := by decide +kernel
theorem dX9_readProgram_398 : decode cX9_readProgram 398 = .ok (.iconst 1, 1) := by decide +kernel
theorem dX9_readProgram_399 : decode cX9_readProgram 399 = .ok (.iload 11, 2) := by decide +kernel
theorem dX9_readProgram_401 : decode cX9_readProgram 401 = .ok (.iastore, 1) := by decide +kernel
theorem dX9_readProgram_402 : decode cX9_readProgram 402 = .ok (.goto 71, 3) := by decide +kernel
theorem dX9_readProgram_405 : decode cX9_readProgram 405 = .ok (.iload 9, 2) := by decide +kernel
theorem dX9_readProgram_407 : decode cX9_readProgram 407 = .ok (.bipush 127, 2) := by decide +kernel
theorem dX9_readProgram_409 : decode cX9_readProgram 409 = .ok (.if_icmp .le 26, 3) := by decide +kernel
theorem dX9_readProgram_412 : decode cX9_readProgram 412 = .ok (.iload 9, 2) := by decide +kernel
theorem dX9_readProgram_414 : decode cX9_readProgram 414 = .ok (.sipush 131, 3) := by decide +kernel
theorem dX9_readProgram_417 : decode cX9_readProgram 417 = .ok (.if_icmp .ge 18, 3) := by decide +kernel
theorem dX9_readProgram_420 : decode cX9_readProgram 420 = .ok (.aload_n 0, 1) := by decide +kernel
theorem dX9_readProgram_421 : decode cX9_readProgram 421 = .ok (.getfield 41, 3) := by decide +kernel
theorem dX9_readProgram_424 : decode cX9_readProgram 424 = .ok (.iload 9, 2) := by decide +kernel
theorem dX9_readProgram_426 : decode cX9_readProgram 426 = .ok (.bipush 126, 2) := by decide +kernel
theorem dX9_readProgram_428 : decode cX9_readProgram 428 = .ok (.isub, 1) := by decide +kernel
theorem dX9_readProgram_429 : decode cX9_readProgram 429 = .ok (.iload 11, 2) := by decide +kernel
theorem dX9_readProgram_431 : decode cX9_readProgram 431 = .ok (.iastore, 1) := by decide +kernel
theorem dX9_readProgram_432 : decode cX9_readProgram 432 = .ok (.goto 41, 3) := by decide +kernel
theorem dX9_readProgram_435 : decode cX9_readProgram 435 = .ok (.iload 9, 2) := by decide +kernel
theorem dX9_readProgram_437 : decode cX9_readProgram 437 = .ok (.sipush 191, 3) := by decide +kernel
theorem dX9_readProgram_440 : decode cX9_readProgram 440 = .ok (.if_icmp .le 26, 3) := by decide +kernel
theorem dX9_readProgram_443 : decode cX9_readProgram 443 = .ok (.iload 9, 2) := by decide +kernel
theorem dX9_readProgram_445 : decode cX9_readProgram 445 = .ok (.sipush 195, 3) := by decide +kernel
theorem dX9_readProgram_448 : decode cX9_readProgram 448 = .ok (.if_icmp .ge 18, 3) := by decide +kernel
theorem dX9_readProgram_451 : decode cX9_readProgram 451 = .ok (.aload_n 0, 1) := by decide +kernel
theorem dX9_readProgram_452 : decode cX9_readProgram 452 = .ok (.getfield 41, 3) := by decide +kernel
theorem dX9_readProgram_455 : decode cX9_readProgram 455 = .ok (.iload 9, 2) := by decide +kernel
theorem dX9_readProgram_457 : decode cX9_readProgram 457 = .ok (.sipush 190, 3) := by decide +kernel
theorem dX9_readProgram_460 : decode cX9_readProgram 460 = .ok (.isub, 1) := by decide +kernel
theorem dX9_readProgram_461 : decode cX9_readProgram 461 = .ok (.iconst 0, 1) := by decide +kernel
theorem dX9_readProgram_462 : decode cX9_readProgram 462 = .ok (.iastore, 1) := by decide +kernel
theorem dX9_readProgram_463 : decode cX9_readProgram 463 = .ok (.goto 10, 3) := by decide +kernel
theorem dX9_readProgram_466 : decode cX9_readProgram 466 = .ok (.iload 9, 2) := by decide +kernel
theorem dX9_readProgram_468 : decode cX9_readProgram 468 = .ok (.ifCond .eq 5, 3) := by decide +kernel
theorem dX9_readProgram_471 : decode cX9_readProgram 471 = .ok (.iconst 0, 1) := by decide +kernel
theorem dX9_readProgram_472 : decode cX9_readProgram 472 = .ok (.ireturn, 1) := by decide +kernel
theorem dX9_readProgram_473 : decode cX9_readProgram 473 = .ok (.iload 8, 2) := by decide +kernel
theorem dX9_readProgram_475 : decode cX9_readProgram 475 = .ok (.iconst 1, 1) := by decide +kernel
theorem dX9_readProgram_476 : decode cX9_readProgram 476 = .ok (.iload 10, 2) := by decide +kernel
theorem dX9_readProgram_478 : decode cX9_readProgram 478 = .ok (.iadd, 1) := by decide +kernel
theorem dX9_readProgram_479 : decode cX9_readProgram 479 = .ok (.iadd, 1) := by decide +kernel
theorem dX9_readProgram_480 : decode cX9_readProgram 480 = .ok (.istore 8, 2) := by decide +kernel
theorem dX9_readProgram_482 : decode cX9_readProgram 482 = .ok (.aload_n 0, 1) := by decide +kernel
theorem dX9_readProgram_483 : decode cX9_readProgram 483 = .ok (.iload 6, 2) := by decide +kernel
theorem dX9_readProgram_485 : decode cX9_readProgram 485 = .ok (.iload 5, 2) := by decide +kernel
theorem dX9_readProgram_487 : decode cX9_readProgram 487 = .ok (.if_icmp .gt 7, 3) := by decide +kernel
theorem dX9_readProgram_490 : decode cX9_readProgram 490 = .ok (.iconst 1, 1) := by decide +kernel
theorem dX9_readProgram_491 : decode cX9_readProgram 491 = .ok (.goto 4, 3) := by decide +kernel
theorem dX9_readProgram_494 : decode cX9_readProgram 494 = .ok (.iconst 0, 1) := by decide +kernel
theorem dX9_readProgram_495 : decode cX9_readProgram 495 = .ok (.invokevirtual 146, 3) := by decide +kernel
theorem dX9_readProgram_498 : decode cX9_readProgram 498 = .ok (.goto (-436), 3) := by decide +kernel
theorem dX9_readProgram_501 : decode cX9_readProgram 501 = .ok (.iconst 1, 1) := by decide +kernel
theorem dX9_readProgram_502 : decode cX9_readProgram 502 = .ok (.ireturn, 1) := by decide +kernel
theorem dX9_keep_0 : decode cX9_keep 0 = .ok (.iconst 0, 1) := by decide +kernel
theorem dX9_keep_1 : decode cX9_keep 1 = .ok (.istore_n 2, 1) := by decide +kernel
theorem dX9_keep_2 : decode cX9_keep 2 = .ok (.iload_n 2, 1) := by decide +kernel
theorem dX9_keep_3 : decode cX9_keep 3 = .ok (.iconst 5, 1) := by decide +kernel
theorem dX9_keep_4 : decode cX9_keep 4 = .ok (.if_icmp .ge 25, 3) := by decide +kernel
theorem dX9_keep_7 : decode cX9_keep 7 = .ok (.iload_n 1, 1) := by decide +kernel
theorem dX9_keep_8 : decode cX9_keep 8 = .ok (.ifCond .eq 21, 3) := by decide +kernel
theorem dX9_keep_11 : decode cX9_keep 11 = .ok (.aload_n 0, 1) := by decide +kernel
theorem dX9_keep_12 : decode cX9_keep 12 = .ok (.getfield 38, 3) := by decide +kernel
theorem dX9_keep_15 : decode cX9_keep 15 = .ok (.iload_n 2, 1) := by decide +kernel
theorem dX9_keep_16 : decode cX9_keep 16 = .ok (.aload_n 0, 1) := by decide +kernel
theorem dX9_keep_17 : decode cX9_keep 17 = .ok (.getfield 41, 3) := by decide +kernel
theorem dX9_keep_20 : decode cX9_keep 20 = .ok (.iload_n 2, 1) := by decide +kernel
theorem dX9_keep_21 : decode cX9_keep 21 = .ok (.iaload, 1) := by decide +kernel
theorem dX9_keep_22 : decode cX9_keep 22 = .ok (.iastore, 1) := by decide +kernel
theorem dX9_keep_23 : decode cX9_keep 23 = .ok (.iinc 2 1, 3) := by decide +kernel
theorem dX9_keep_26 : decode cX9_keep 26 = .ok (.goto (-24), 3) := by decide +kernel
theorem dX9_keep_29 : decode cX9_keep 29 = .ok (.return_, 1) := by decide +kernel
theorem dX9_findRow_0 : decode cX9_findRow 0 = .ok (.iconst 0, 1) := by decide +kernel
theorem dX9_findRow_1 : decode cX9_findRow 1 = .ok (.istore_n 2, 1) := by decide +kernel
theorem dX9_findRow_2 : decode cX9_findRow 2 = .ok (.iload_n 2, 1) := by decide +kernel
theorem dX9_findRow_3 : decode cX9_findRow 3 = .ok (.aload_n 0, 1) := by decide +kernel
theorem dX9_findRow_4 : decode cX9_findRow 4 = .ok (.getfield 143, 3) := by decide +kernel
theorem dX9_findRow_7 : decode cX9_findRow 7 = .ok (.if_icmp .ge 124, 3) := by decide +kernel
theorem dX9_findRow_10 : decode cX9_findRow 10 = .ok (.iload_n 2, 1) := by decide +kernel
theorem dX9_findRow_11 : decode cX9_findRow 11 = .ok (.iconst 2, 1) := by decide +kernel
theorem dX9_findRow_12 : decode cX9_findRow 12 = .ok (.iadd, 1) := by decide +kernel
theorem dX9_findRow_13 : decode cX9_findRow 13 = .ok (.aload_n 0, 1) := by decide +kernel
theorem dX9_findRow_14 : decode cX9_findRow 14 = .ok (.getfield 143, 3) := by decide +kernel
theorem dX9_findRow_17 : decode cX9_findRow 17 = .ok (.if_icmp .le 5, 3) := by decide +kernel
theorem dX9_findRow_20 : decode cX9_findRow 20 = .ok (.iconst (-1), 1) := by decide +kernel
theorem dX9_findRow_21 : decode cX9_findRow 21 = .ok (.ireturn, 1) := by decide +kernel
theorem dX9_findRow_22 : decode cX9_findRow 22 = .ok (.sipush 256, 3) := by decide +kernel
theorem dX9_findRow_25 : decode cX9_findRow 25 = .ok (.aload_n 0, 1) := by decide +kernel
theorem dX9_findRow_26 : decode cX9_findRow 26 = .ok (.getfield 32, 3) := by decide +kernel
theorem dX9_findRow_29 : decode cX9_findRow 29 = .ok (.iload_n 2, 1) := by decide +kernel
theorem dX9_findRow_30 : decode cX9_findRow 30 = .ok (.iaload, 1) := by decide +kernel
theorem dX9_findRow_31 : decode cX9_findRow 31 = .ok (.imul, 1) := by decide +kernel
theorem dX9_findRow_32 : decode cX9_findRow 32 = .ok (.aload_n 0, 1) := by decide +kernel
theorem dX9_findRow_33 : decode cX9_findRow 33 = .ok (.getfield 32, 3) := by decide +kernel
theorem dX9_findRow_36 : decode cX9_findRow 36 = .ok (.iload_n 2, 1) := by decide +kernel
theorem dX9_findRow_37 : decode cX9_findRow 37 = .ok (.iconst 1, 1) := by decide +kernel
theorem dX9_findRow_38 : decode cX9_findRow 38 = .ok (.iadd, 1) := by decide +kernel
theorem dX9_findRow_39 : decode cX9_findRow 39 = .ok (.iaload, 1) := by decide +kernel
theorem dX9_findRow_40 : decode cX9_findRow 40 = .ok (.iadd, 1) := by decide +kernel
theorem dX9_findRow_41 : decode cX9_findRow 41 = .ok (.istore_n 3, 1) := by decide +kernel
theorem dX9_findRow_42 : decode cX9_findRow 42 = .ok (.iload_n 3, 1) := by decide +kernel
theorem dX9_findRow_43 : decode cX9_findRow 43 = .ok (.iconst 2, 1) := by decide +kernel
theorem dX9_findRow_44 : decode cX9_findRow 44 = .ok (.if_icmp .lt 15, 3) := by decide +kernel
theorem dX9_findRow_47 : decode cX9_findRow 47 = .ok (.iload_n 2, 1) := by decide +kernel
theorem dX9_findRow_48 : decode cX9_findRow 48 = .ok (.iconst 2, 1) := by decide +kernel
theorem dX9_findRow_49 : decode cX9_findRow 49 = .ok (.iadd, 1) := by decide +kernel
theorem dX9_findRow_50 : decode cX9_findRow 50 = .ok (.iload_n 3, 1) := by decide +kernel
theorem dX9_findRow_51 : decode cX9_findRow 51 = .ok (.iadd, 1) := by decide +kernel
theorem dX9_findRow_52 : decode cX9_findRow 52 = .ok (.aload_n 0, 1) := by decide +kernel
theorem dX9_findRow_53 : decode cX9_findRow 53 = .ok (.getfield 143, 3) := by decide +kernel
theorem dX9_findRow_56 : decode cX9_findRow 56 = .ok (.if_icmp .le 5, 3) := by decide +kernel
theorem dX9_findRow_59 : decode cX9_findRow 59 = .ok (.iconst (-1), 1) := by decide +kernel
theorem dX9_findRow_60 : decode cX9_findRow 60 = .ok (.ireturn, 1) := by decide +kernel
theorem dX9_findRow_61 : decode cX9_findRow 61 = .ok (.aload_n 0, 1) := by decide +kernel
theorem dX9_findRow_62 : decode cX9_findRow 62 = .ok (.getfield 32, 3) := by decide +kernel
theorem dX9_findRow_65 : decode cX9_findRow 65 = .ok (.iload_n 2, 1) := by decide +kernel
theorem dX9_findRow_66 : decode cX9_findRow 66 = .ok (.iconst 2, 1) := by decide +kernel
theorem dX9_findRow_67 : decode cX9_findRow 67 = .ok (.iadd, 1) := by decide +kernel
theorem dX9_findRow_68 : decode cX9_findRow 68 = .ok (.iaload, 1) := by decide +kernel
theorem dX9_findRow_69 : decode cX9_findRow 69 = .ok (.istore 4, 2) := by decide +kernel
theorem dX9_findRow_71 : decode cX9_findRow 71 = .ok (.aload_n 0, 1) := by decide +kernel
theorem dX9_findRow_72 : decode cX9_findRow 72 = .ok (.getfield 32, 3) := by decide +kernel
theorem dX9_findRow_75 : decode cX9_findRow 75 = .ok (.iload_n 2, 1) := by decide +kernel
theorem dX9_findRow_76 : decode cX9_findRow 76 = .ok (.iconst 3, 1) := by decide +kernel
theorem dX9_findRow_77 : decode cX9_findRow 77 = .ok (.iadd, 1) := by decide +kernel
theorem dX9_findRow_78 : decode cX9_findRow 78 = .ok (.iaload, 1) := by decide +kernel
theorem dX9_findRow_79 : decode cX9_findRow 79 = .ok (.istore 5, 2) := by decide +kernel
theorem dX9_findRow_81 : decode cX9_findRow 81 = .ok (.iload_n 1, 1) := by decide +kernel
theorem dX9_findRow_82 : decode cX9_findRow 82 = .ok (.iload 4, 2) := by decide +kernel
theorem dX9_findRow_84 : decode cX9_findRow 84 = .ok (.if_icmp .lt 38, 3) := by decide +kernel
theorem dX9_findRow_87 : decode cX9_findRow 87 = .ok (.iload_n 1, 1) := by decide +kernel
theorem dX9_findRow_88 : decode cX9_findRow 88 = .ok (.iload 4, 2) := by decide +kernel
theorem dX9_findRow_90 : decode cX9_findRow 90 = .ok (.iload 5, 2) := by decide +kernel
theorem dX9_findRow_92 : decode cX9_findRow 92 = .ok (.iadd, 1) := by decide +kernel
theorem dX9_findRow_93 : decode cX9_findRow 93 = .ok (.if_icmp .ge 29, 3) := by decide +kernel
theorem dX9_findRow_96 : decode cX9_findRow 96 = .ok (.aload_n 0, 1) := by decide +kernel
theorem dX9_findRow_97 : decode cX9_findRow 97 = .ok (.iload_n 2, 1) := by decide +kernel
theorem dX9_findRow_98 : decode cX9_findRow 98 = .ok (.iconst 4, 1) := by decide +kernel
theorem dX9_findRow_99 : decode cX9_findRow 99 = .ok (.iadd, 1) := by decide +kernel
theorem dX9_findRow_100 : decode cX9_findRow 100 = .ok (.iload_n 2, 1) := by decide +kernel
theorem dX9_findRow_101 : decode cX9_findRow 101 = .ok (.iconst 2, 1) := by decide +kernel
theorem dX9_findRow_102 : decode cX9_findRow 102 = .ok (.iadd, 1) := by decide +kernel
theorem dX9_findRow_103 : decode cX9_findRow 103 = .ok (.iload_n 3, 1) := by decide +kernel
theorem dX9_findRow_104 : decode cX9_findRow 104 = .ok (.iadd, 1) := by decide +kernel
theorem dX9_findRow_105 : decode cX9_findRow 105 = .ok (.iload 4, 2) := by decide +kernel
theorem dX9_findRow_107 : decode cX9_findRow 107 = .ok (.iload 5, 2) := by decide +kernel
theorem dX9_findRow_109 : decode cX9_findRow 109 = .ok (.iload_n 1, 1) := by decide +kernel
theorem dX9_findRow_110 : decode cX9_findRow 110 = .ok (.invokevirtual 150, 3) := by decide +kernel
theorem dX9_findRow_113 : decode cX9_findRow 113 = .ok (.ifCond .eq 7, 3) := by decide +kernel
theorem dX9_findRow_116 : decode cX9_findRow 116 = .ok (.iconst 1, 1) := by decide +kernel
theorem dX9_findRow_117 : decode cX9_findRow 117 = .ok (.goto 4, 3) := by decide +kernel
theorem dX9_findRow_120 : decode cX9_findRow 120 = .ok (.iconst (-1), 1) := by decide +kernel
theorem dX9_findRow_121 : decode cX9_findRow 121 = .ok (.ireturn, 1) := by decide +kernel
theorem dX9_findRow_122 : decode cX9_findRow 122 = .ok (.iload_n 2, 1) := by decide +kernel
theorem dX9_findRow_123 : decode cX9_findRow 123 = .ok (.iconst 2, 1) := by decide +kernel
theorem dX9_findRow_124 : decode cX9_findRow 124 = .ok (.iload_n 3, 1) := by decide +kernel
theorem dX9_findRow_125 : decode cX9_findRow 125 = .ok (.iadd, 1) := by decide +kernel
theorem dX9_findRow_126 : decode cX9_findRow 126 = .ok (.iadd, 1) := by decide +kernel
theorem dX9_findRow_127 : decode cX9_findRow 127 = .ok (.istore_n 2, 1) := by decide +kernel
theorem dX9_findRow_128 : decode cX9_findRow 128 = .ok (.goto (-126), 3) := by decide +kernel
theorem dX9_findRow_131 : decode cX9_findRow 131 = .ok (.iconst 0, 1) := by decide +kernel
theorem dX9_findRow_132 : decode cX9_findRow 132 = .ok (.ireturn, 1) := by decide +kernel
