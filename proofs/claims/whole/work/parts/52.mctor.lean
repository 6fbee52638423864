def mk_Md_init_14 : Nat → Int32 := upd (fun _ => 0) (0 : Int32).toNatClampNeg (7 : Int32)
def mk_Md_init_19 : Nat → Int32 := upd mk_Md_init_14 (1 : Int32).toNatClampNeg (10 : Int32)
def mk_Md_init_24 : Nat → Int32 := upd mk_Md_init_19 (2 : Int32).toNatClampNeg (15 : Int32)
def mk_Md_init_29 : Nat → Int32 := upd mk_Md_init_24 (3 : Int32).toNatClampNeg (20 : Int32)
def mk_Md_init_34 : Nat → Int32 := upd mk_Md_init_29 (4 : Int32).toNatClampNeg (26 : Int32)
def mk_Md_init_39 : Nat → Int32 := upd mk_Md_init_34 (5 : Int32).toNatClampNeg (18 : Int32)
def mk_Md_init_45 : Nat → Int32 := upd mk_Md_init_39 (6 : Int32).toNatClampNeg (20 : Int32)
def mk_Md_init_51 : Nat → Int32 := upd mk_Md_init_45 (7 : Int32).toNatClampNeg (24 : Int32)
def mk_Md_init_57 : Nat → Int32 := upd mk_Md_init_51 (8 : Int32).toNatClampNeg (30 : Int32)
def mk_Md_init_63 : Nat → Int32 := upd mk_Md_init_57 (9 : Int32).toNatClampNeg (18 : Int32)
def mk_Md_init_69 : Nat → Int32 := upd mk_Md_init_63 (10 : Int32).toNatClampNeg (20 : Int32)
def mk_Md_init_75 : Nat → Int32 := upd mk_Md_init_69 (11 : Int32).toNatClampNeg (24 : Int32)
def mk_Md_init_81 : Nat → Int32 := upd mk_Md_init_75 (12 : Int32).toNatClampNeg (26 : Int32)
def mk_Md_init_87 : Nat → Int32 := upd mk_Md_init_81 (13 : Int32).toNatClampNeg (30 : Int32)
def mk_Md_init_93 : Nat → Int32 := upd mk_Md_init_87 (14 : Int32).toNatClampNeg (22 : Int32)
def mk_Md_init_99 : Nat → Int32 := upd mk_Md_init_93 (15 : Int32).toNatClampNeg (24 : Int32)
def mk_Md_init_105 : Nat → Int32 := upd mk_Md_init_99 (16 : Int32).toNatClampNeg (28 : Int32)
def mk_Md_init_111 : Nat → Int32 := upd mk_Md_init_105 (17 : Int32).toNatClampNeg (30 : Int32)
def mk_Md_init_117 : Nat → Int32 := upd mk_Md_init_111 (18 : Int32).toNatClampNeg (28 : Int32)
def mk_Md_init_123 : Nat → Int32 := upd mk_Md_init_117 (19 : Int32).toNatClampNeg (28 : Int32)
def mk_Md_init_129 : Nat → Int32 := upd mk_Md_init_123 (20 : Int32).toNatClampNeg (28 : Int32)
def mk_Md_init_135 : Nat → Int32 := upd mk_Md_init_129 (21 : Int32).toNatClampNeg (28 : Int32)
def mk_Md_init_141 : Nat → Int32 := upd mk_Md_init_135 (22 : Int32).toNatClampNeg (30 : Int32)
def mk_Md_init_147 : Nat → Int32 := upd mk_Md_init_141 (23 : Int32).toNatClampNeg (30 : Int32)
def mk_Md_init_153 : Nat → Int32 := upd mk_Md_init_147 (24 : Int32).toNatClampNeg (26 : Int32)
def mk_Md_init_159 : Nat → Int32 := upd mk_Md_init_153 (25 : Int32).toNatClampNeg (28 : Int32)
def mk_Md_init_165 : Nat → Int32 := upd mk_Md_init_159 (26 : Int32).toNatClampNeg (30 : Int32)
def mk_Md_init_171 : Nat → Int32 := upd mk_Md_init_165 (27 : Int32).toNatClampNeg (30 : Int32)
def mk_Md_init_177 : Nat → Int32 := upd mk_Md_init_171 (28 : Int32).toNatClampNeg (30 : Int32)
def mk_Md_init_183 : Nat → Int32 := upd mk_Md_init_177 (29 : Int32).toNatClampNeg (30 : Int32)
def mk_Md_init_189 : Nat → Int32 := upd mk_Md_init_183 (30 : Int32).toNatClampNeg (30 : Int32)
def mk_Md_init_195 : Nat → Int32 := upd mk_Md_init_189 (31 : Int32).toNatClampNeg (30 : Int32)
def mk_Md_init_201 : Nat → Int32 := upd mk_Md_init_195 (32 : Int32).toNatClampNeg (30 : Int32)
def mk_Md_init_207 : Nat → Int32 := upd mk_Md_init_201 (33 : Int32).toNatClampNeg (30 : Int32)
def mk_Md_init_213 : Nat → Int32 := upd mk_Md_init_207 (34 : Int32).toNatClampNeg (30 : Int32)
def mk_Md_init_219 : Nat → Int32 := upd mk_Md_init_213 (35 : Int32).toNatClampNeg (30 : Int32)
def mk_Md_init_225 : Nat → Int32 := upd mk_Md_init_219 (36 : Int32).toNatClampNeg (30 : Int32)
def mk_Md_init_231 : Nat → Int32 := upd mk_Md_init_225 (37 : Int32).toNatClampNeg (30 : Int32)
def mk_Md_init_237 : Nat → Int32 := upd mk_Md_init_231 (38 : Int32).toNatClampNeg (30 : Int32)
def mk_Md_init_243 : Nat → Int32 := upd mk_Md_init_237 (39 : Int32).toNatClampNeg (30 : Int32)
def mk_Md_init_249 : Nat → Int32 := upd mk_Md_init_243 (40 : Int32).toNatClampNeg (10 : Int32)
def mk_Md_init_255 : Nat → Int32 := upd mk_Md_init_249 (41 : Int32).toNatClampNeg (16 : Int32)
def mk_Md_init_261 : Nat → Int32 := upd mk_Md_init_255 (42 : Int32).toNatClampNeg (26 : Int32)
def mk_Md_init_267 : Nat → Int32 := upd mk_Md_init_261 (43 : Int32).toNatClampNeg (18 : Int32)
def mk_Md_init_273 : Nat → Int32 := upd mk_Md_init_267 (44 : Int32).toNatClampNeg (24 : Int32)
def mk_Md_init_279 : Nat → Int32 := upd mk_Md_init_273 (45 : Int32).toNatClampNeg (16 : Int32)
def mk_Md_init_285 : Nat → Int32 := upd mk_Md_init_279 (46 : Int32).toNatClampNeg (18 : Int32)
def mk_Md_init_291 : Nat → Int32 := upd mk_Md_init_285 (47 : Int32).toNatClampNeg (22 : Int32)
def mk_Md_init_297 : Nat → Int32 := upd mk_Md_init_291 (48 : Int32).toNatClampNeg (22 : Int32)
def mk_Md_init_303 : Nat → Int32 := upd mk_Md_init_297 (49 : Int32).toNatClampNeg (26 : Int32)
def mk_Md_init_309 : Nat → Int32 := upd mk_Md_init_303 (50 : Int32).toNatClampNeg (30 : Int32)
def mk_Md_init_315 : Nat → Int32 := upd mk_Md_init_309 (51 : Int32).toNatClampNeg (22 : Int32)
def mk_Md_init_321 : Nat → Int32 := upd mk_Md_init_315 (52 : Int32).toNatClampNeg (22 : Int32)
def mk_Md_init_327 : Nat → Int32 := upd mk_Md_init_321 (53 : Int32).toNatClampNeg (24 : Int32)
def mk_Md_init_333 : Nat → Int32 := upd mk_Md_init_327 (54 : Int32).toNatClampNeg (24 : Int32)
def mk_Md_init_339 : Nat → Int32 := upd mk_Md_init_333 (55 : Int32).toNatClampNeg (28 : Int32)
def mk_Md_init_345 : Nat → Int32 := upd mk_Md_init_339 (56 : Int32).toNatClampNeg (28 : Int32)
def mk_Md_init_351 : Nat → Int32 := upd mk_Md_init_345 (57 : Int32).toNatClampNeg (26 : Int32)
def mk_Md_init_357 : Nat → Int32 := upd mk_Md_init_351 (58 : Int32).toNatClampNeg (26 : Int32)
def mk_Md_init_363 : Nat → Int32 := upd mk_Md_init_357 (59 : Int32).toNatClampNeg (26 : Int32)
def mk_Md_init_369 : Nat → Int32 := upd mk_Md_init_363 (60 : Int32).toNatClampNeg (26 : Int32)
def mk_Md_init_375 : Nat → Int32 := upd mk_Md_init_369 (61 : Int32).toNatClampNeg (28 : Int32)
def mk_Md_init_381 : Nat → Int32 := upd mk_Md_init_375 (62 : Int32).toNatClampNeg (28 : Int32)
def mk_Md_init_387 : Nat → Int32 := upd mk_Md_init_381 (63 : Int32).toNatClampNeg (28 : Int32)
def mk_Md_init_393 : Nat → Int32 := upd mk_Md_init_387 (64 : Int32).toNatClampNeg (28 : Int32)
def mk_Md_init_399 : Nat → Int32 := upd mk_Md_init_393 (65 : Int32).toNatClampNeg (28 : Int32)
def mk_Md_init_405 : Nat → Int32 := upd mk_Md_init_399 (66 : Int32).toNatClampNeg (28 : Int32)
def mk_Md_init_411 : Nat → Int32 := upd mk_Md_init_405 (67 : Int32).toNatClampNeg (28 : Int32)
def mk_Md_init_417 : Nat → Int32 := upd mk_Md_init_411 (68 : Int32).toNatClampNeg (28 : Int32)
def mk_Md_init_423 : Nat → Int32 := upd mk_Md_init_417 (69 : Int32).toNatClampNeg (28 : Int32)
def mk_Md_init_429 : Nat → Int32 := upd mk_Md_init_423 (70 : Int32).toNatClampNeg (28 : Int32)
def mk_Md_init_435 : Nat → Int32 := upd mk_Md_init_429 (71 : Int32).toNatClampNeg (28 : Int32)
def mk_Md_init_441 : Nat → Int32 := upd mk_Md_init_435 (72 : Int32).toNatClampNeg (28 : Int32)
def mk_Md_init_447 : Nat → Int32 := upd mk_Md_init_441 (73 : Int32).toNatClampNeg (28 : Int32)
def mk_Md_init_453 : Nat → Int32 := upd mk_Md_init_447 (74 : Int32).toNatClampNeg (28 : Int32)
def mk_Md_init_459 : Nat → Int32 := upd mk_Md_init_453 (75 : Int32).toNatClampNeg (28 : Int32)
def mk_Md_init_465 : Nat → Int32 := upd mk_Md_init_459 (76 : Int32).toNatClampNeg (28 : Int32)
def mk_Md_init_471 : Nat → Int32 := upd mk_Md_init_465 (77 : Int32).toNatClampNeg (28 : Int32)
def mk_Md_init_477 : Nat → Int32 := upd mk_Md_init_471 (78 : Int32).toNatClampNeg (28 : Int32)
def mk_Md_init_483 : Nat → Int32 := upd mk_Md_init_477 (79 : Int32).toNatClampNeg (28 : Int32)
def mk_Md_init_489 : Nat → Int32 := upd mk_Md_init_483 (80 : Int32).toNatClampNeg (13 : Int32)
def mk_Md_init_495 : Nat → Int32 := upd mk_Md_init_489 (81 : Int32).toNatClampNeg (22 : Int32)
def mk_Md_init_501 : Nat → Int32 := upd mk_Md_init_495 (82 : Int32).toNatClampNeg (18 : Int32)
def mk_Md_init_507 : Nat → Int32 := upd mk_Md_init_501 (83 : Int32).toNatClampNeg (26 : Int32)
def mk_Md_init_513 : Nat → Int32 := upd mk_Md_init_507 (84 : Int32).toNatClampNeg (18 : Int32)
def mk_Md_init_519 : Nat → Int32 := upd mk_Md_init_513 (85 : Int32).toNatClampNeg (24 : Int32)
def mk_Md_init_525 : Nat → Int32 := upd mk_Md_init_519 (86 : Int32).toNatClampNeg (18 : Int32)
def mk_Md_init_531 : Nat → Int32 := upd mk_Md_init_525 (87 : Int32).toNatClampNeg (22 : Int32)
def mk_Md_init_537 : Nat → Int32 := upd mk_Md_init_531 (88 : Int32).toNatClampNeg (20 : Int32)
def mk_Md_init_543 : Nat → Int32 := upd mk_Md_init_537 (89 : Int32).toNatClampNeg (24 : Int32)
def mk_Md_init_549 : Nat → Int32 := upd mk_Md_init_543 (90 : Int32).toNatClampNeg (28 : Int32)
def mk_Md_init_555 : Nat → Int32 := upd mk_Md_init_549 (91 : Int32).toNatClampNeg (26 : Int32)
def mk_Md_init_561 : Nat → Int32 := upd mk_Md_init_555 (92 : Int32).toNatClampNeg (24 : Int32)
def mk_Md_init_567 : Nat → Int32 := upd mk_Md_init_561 (93 : Int32).toNatClampNeg (20 : Int32)
def mk_Md_init_573 : Nat → Int32 := upd mk_Md_init_567 (94 : Int32).toNatClampNeg (30 : Int32)
def mk_Md_init_579 : Nat → Int32 := upd mk_Md_init_573 (95 : Int32).toNatClampNeg (24 : Int32)
def mk_Md_init_585 : Nat → Int32 := upd mk_Md_init_579 (96 : Int32).toNatClampNeg (28 : Int32)
def mk_Md_init_591 : Nat → Int32 := upd mk_Md_init_585 (97 : Int32).toNatClampNeg (28 : Int32)
def mk_Md_init_597 : Nat → Int32 := upd mk_Md_init_591 (98 : Int32).toNatClampNeg (26 : Int32)
def mk_Md_init_603 : Nat → Int32 := upd mk_Md_init_597 (99 : Int32).toNatClampNeg (30 : Int32)
def mk_Md_init_609 : Nat → Int32 := upd mk_Md_init_603 (100 : Int32).toNatClampNeg (28 : Int32)
def mk_Md_init_615 : Nat → Int32 := upd mk_Md_init_609 (101 : Int32).toNatClampNeg (30 : Int32)
def mk_Md_init_621 : Nat → Int32 := upd mk_Md_init_615 (102 : Int32).toNatClampNeg (30 : Int32)
def mk_Md_init_627 : Nat → Int32 := upd mk_Md_init_621 (103 : Int32).toNatClampNeg (30 : Int32)
def mk_Md_init_633 : Nat → Int32 := upd mk_Md_init_627 (104 : Int32).toNatClampNeg (30 : Int32)
def mk_Md_init_639 : Nat → Int32 := upd mk_Md_init_633 (105 : Int32).toNatClampNeg (28 : Int32)
def mk_Md_init_645 : Nat → Int32 := upd mk_Md_init_639 (106 : Int32).toNatClampNeg (30 : Int32)
def mk_Md_init_651 : Nat → Int32 := upd mk_Md_init_645 (107 : Int32).toNatClampNeg (30 : Int32)
def mk_Md_init_657 : Nat → Int32 := upd mk_Md_init_651 (108 : Int32).toNatClampNeg (30 : Int32)
def mk_Md_init_663 : Nat → Int32 := upd mk_Md_init_657 (109 : Int32).toNatClampNeg (30 : Int32)
def mk_Md_init_669 : Nat → Int32 := upd mk_Md_init_663 (110 : Int32).toNatClampNeg (30 : Int32)
def mk_Md_init_675 : Nat → Int32 := upd mk_Md_init_669 (111 : Int32).toNatClampNeg (30 : Int32)
def mk_Md_init_681 : Nat → Int32 := upd mk_Md_init_675 (112 : Int32).toNatClampNeg (30 : Int32)
def mk_Md_init_687 : Nat → Int32 := upd mk_Md_init_681 (113 : Int32).toNatClampNeg (30 : Int32)
def mk_Md_init_693 : Nat → Int32 := upd mk_Md_init_687 (114 : Int32).toNatClampNeg (30 : Int32)
def mk_Md_init_699 : Nat → Int32 := upd mk_Md_init_693 (115 : Int32).toNatClampNeg (30 : Int32)
def mk_Md_init_705 : Nat → Int32 := upd mk_Md_init_699 (116 : Int32).toNatClampNeg (30 : Int32)
def mk_Md_init_711 : Nat → Int32 := upd mk_Md_init_705 (117 : Int32).toNatClampNeg (30 : Int32)
def mk_Md_init_717 : Nat → Int32 := upd mk_Md_init_711 (118 : Int32).toNatClampNeg (30 : Int32)
def mk_Md_init_723 : Nat → Int32 := upd mk_Md_init_717 (119 : Int32).toNatClampNeg (30 : Int32)
def mk_Md_init_729 : Nat → Int32 := upd mk_Md_init_723 (120 : Int32).toNatClampNeg (17 : Int32)
def mk_Md_init_735 : Nat → Int32 := upd mk_Md_init_729 (121 : Int32).toNatClampNeg (28 : Int32)
def mk_Md_init_741 : Nat → Int32 := upd mk_Md_init_735 (122 : Int32).toNatClampNeg (22 : Int32)
def mk_Md_init_747 : Nat → Int32 := upd mk_Md_init_741 (123 : Int32).toNatClampNeg (16 : Int32)
def mk_Md_init_753 : Nat → Int32 := upd mk_Md_init_747 (124 : Int32).toNatClampNeg (22 : Int32)
def mk_Md_init_759 : Nat → Int32 := upd mk_Md_init_753 (125 : Int32).toNatClampNeg (28 : Int32)
def mk_Md_init_765 : Nat → Int32 := upd mk_Md_init_759 (126 : Int32).toNatClampNeg (26 : Int32)
def mk_Md_init_771 : Nat → Int32 := upd mk_Md_init_765 (127 : Int32).toNatClampNeg (26 : Int32)
def mk_Md_init_778 : Nat → Int32 := upd mk_Md_init_771 (128 : Int32).toNatClampNeg (24 : Int32)
def mk_Md_init_785 : Nat → Int32 := upd mk_Md_init_778 (129 : Int32).toNatClampNeg (28 : Int32)
def mk_Md_init_792 : Nat → Int32 := upd mk_Md_init_785 (130 : Int32).toNatClampNeg (24 : Int32)
def mk_Md_init_799 : Nat → Int32 := upd mk_Md_init_792 (131 : Int32).toNatClampNeg (28 : Int32)
def mk_Md_init_806 : Nat → Int32 := upd mk_Md_init_799 (132 : Int32).toNatClampNeg (22 : Int32)
def mk_Md_init_813 : Nat → Int32 := upd mk_Md_init_806 (133 : Int32).toNatClampNeg (24 : Int32)
def mk_Md_init_820 : Nat → Int32 := upd mk_Md_init_813 (134 : Int32).toNatClampNeg (24 : Int32)
def mk_Md_init_827 : Nat → Int32 := upd mk_Md_init_820 (135 : Int32).toNatClampNeg (30 : Int32)
def mk_Md_init_834 : Nat → Int32 := upd mk_Md_init_827 (136 : Int32).toNatClampNeg (28 : Int32)
def mk_Md_init_841 : Nat → Int32 := upd mk_Md_init_834 (137 : Int32).toNatClampNeg (28 : Int32)
def mk_Md_init_848 : Nat → Int32 := upd mk_Md_init_841 (138 : Int32).toNatClampNeg (26 : Int32)
def mk_Md_init_855 : Nat → Int32 := upd mk_Md_init_848 (139 : Int32).toNatClampNeg (28 : Int32)
def mk_Md_init_862 : Nat → Int32 := upd mk_Md_init_855 (140 : Int32).toNatClampNeg (30 : Int32)
def mk_Md_init_869 : Nat → Int32 := upd mk_Md_init_862 (141 : Int32).toNatClampNeg (24 : Int32)
def mk_Md_init_876 : Nat → Int32 := upd mk_Md_init_869 (142 : Int32).toNatClampNeg (30 : Int32)
def mk_Md_init_883 : Nat → Int32 := upd mk_Md_init_876 (143 : Int32).toNatClampNeg (30 : Int32)
def mk_Md_init_890 : Nat → Int32 := upd mk_Md_init_883 (144 : Int32).toNatClampNeg (30 : Int32)
def mk_Md_init_897 : Nat → Int32 := upd mk_Md_init_890 (145 : Int32).toNatClampNeg (30 : Int32)
def mk_Md_init_904 : Nat → Int32 := upd mk_Md_init_897 (146 : Int32).toNatClampNeg (30 : Int32)
def mk_Md_init_911 : Nat → Int32 := upd mk_Md_init_904 (147 : Int32).toNatClampNeg (30 : Int32)
def mk_Md_init_918 : Nat → Int32 := upd mk_Md_init_911 (148 : Int32).toNatClampNeg (30 : Int32)
def mk_Md_init_925 : Nat → Int32 := upd mk_Md_init_918 (149 : Int32).toNatClampNeg (30 : Int32)
def mk_Md_init_932 : Nat → Int32 := upd mk_Md_init_925 (150 : Int32).toNatClampNeg (30 : Int32)
def mk_Md_init_939 : Nat → Int32 := upd mk_Md_init_932 (151 : Int32).toNatClampNeg (30 : Int32)
def mk_Md_init_946 : Nat → Int32 := upd mk_Md_init_939 (152 : Int32).toNatClampNeg (30 : Int32)
def mk_Md_init_953 : Nat → Int32 := upd mk_Md_init_946 (153 : Int32).toNatClampNeg (30 : Int32)
def mk_Md_init_960 : Nat → Int32 := upd mk_Md_init_953 (154 : Int32).toNatClampNeg (30 : Int32)
def mk_Md_init_967 : Nat → Int32 := upd mk_Md_init_960 (155 : Int32).toNatClampNeg (30 : Int32)
def mk_Md_init_974 : Nat → Int32 := upd mk_Md_init_967 (156 : Int32).toNatClampNeg (30 : Int32)
def mk_Md_init_981 : Nat → Int32 := upd mk_Md_init_974 (157 : Int32).toNatClampNeg (30 : Int32)
def mk_Md_init_988 : Nat → Int32 := upd mk_Md_init_981 (158 : Int32).toNatClampNeg (30 : Int32)
def mk_Md_init_995 : Nat → Int32 := upd mk_Md_init_988 (159 : Int32).toNatClampNeg (30 : Int32)
def mk_Md_init_1008 : Nat → Int32 := upd (fun _ => 0) (0 : Int32).toNatClampNeg (1 : Int32)
def mk_Md_init_1012 : Nat → Int32 := upd mk_Md_init_1008 (1 : Int32).toNatClampNeg (1 : Int32)
def mk_Md_init_1016 : Nat → Int32 := upd mk_Md_init_1012 (2 : Int32).toNatClampNeg (1 : Int32)
def mk_Md_init_1020 : Nat → Int32 := upd mk_Md_init_1016 (3 : Int32).toNatClampNeg (1 : Int32)
def mk_Md_init_1024 : Nat → Int32 := upd mk_Md_init_1020 (4 : Int32).toNatClampNeg (1 : Int32)
def mk_Md_init_1028 : Nat → Int32 := upd mk_Md_init_1024 (5 : Int32).toNatClampNeg (2 : Int32)
def mk_Md_init_1033 : Nat → Int32 := upd mk_Md_init_1028 (6 : Int32).toNatClampNeg (2 : Int32)
def mk_Md_init_1038 : Nat → Int32 := upd mk_Md_init_1033 (7 : Int32).toNatClampNeg (2 : Int32)
def mk_Md_init_1043 : Nat → Int32 := upd mk_Md_init_1038 (8 : Int32).toNatClampNeg (2 : Int32)
def mk_Md_init_1048 : Nat → Int32 := upd mk_Md_init_1043 (9 : Int32).toNatClampNeg (4 : Int32)
def mk_Md_init_1053 : Nat → Int32 := upd mk_Md_init_1048 (10 : Int32).toNatClampNeg (4 : Int32)
def mk_Md_init_1058 : Nat → Int32 := upd mk_Md_init_1053 (11 : Int32).toNatClampNeg (4 : Int32)
def mk_Md_init_1063 : Nat → Int32 := upd mk_Md_init_1058 (12 : Int32).toNatClampNeg (4 : Int32)
def mk_Md_init_1068 : Nat → Int32 := upd mk_Md_init_1063 (13 : Int32).toNatClampNeg (4 : Int32)
def mk_Md_init_1074 : Nat → Int32 := upd mk_Md_init_1068 (14 : Int32).toNatClampNeg (6 : Int32)
def mk_Md_init_1080 : Nat → Int32 := upd mk_Md_init_1074 (15 : Int32).toNatClampNeg (6 : Int32)
def mk_Md_init_1086 : Nat → Int32 := upd mk_Md_init_1080 (16 : Int32).toNatClampNeg (6 : Int32)
def mk_Md_init_1092 : Nat → Int32 := upd mk_Md_init_1086 (17 : Int32).toNatClampNeg (6 : Int32)
def mk_Md_init_1098 : Nat → Int32 := upd mk_Md_init_1092 (18 : Int32).toNatClampNeg (7 : Int32)
def mk_Md_init_1104 : Nat → Int32 := upd mk_Md_init_1098 (19 : Int32).toNatClampNeg (8 : Int32)
def mk_Md_init_1110 : Nat → Int32 := upd mk_Md_init_1104 (20 : Int32).toNatClampNeg (8 : Int32)
def mk_Md_init_1116 : Nat → Int32 := upd mk_Md_init_1110 (21 : Int32).toNatClampNeg (9 : Int32)
def mk_Md_init_1122 : Nat → Int32 := upd mk_Md_init_1116 (22 : Int32).toNatClampNeg (9 : Int32)
def mk_Md_init_1128 : Nat → Int32 := upd mk_Md_init_1122 (23 : Int32).toNatClampNeg (10 : Int32)
def mk_Md_init_1134 : Nat → Int32 := upd mk_Md_init_1128 (24 : Int32).toNatClampNeg (12 : Int32)
def mk_Md_init_1140 : Nat → Int32 := upd mk_Md_init_1134 (25 : Int32).toNatClampNeg (12 : Int32)
def mk_Md_init_1146 : Nat → Int32 := upd mk_Md_init_1140 (26 : Int32).toNatClampNeg (12 : Int32)
def mk_Md_init_1152 : Nat → Int32 := upd mk_Md_init_1146 (27 : Int32).toNatClampNeg (13 : Int32)
def mk_Md_init_1158 : Nat → Int32 := upd mk_Md_init_1152 (28 : Int32).toNatClampNeg (14 : Int32)
def mk_Md_init_1164 : Nat → Int32 := upd mk_Md_init_1158 (29 : Int32).toNatClampNeg (15 : Int32)
def mk_Md_init_1170 : Nat → Int32 := upd mk_Md_init_1164 (30 : Int32).toNatClampNeg (16 : Int32)
def mk_Md_init_1176 : Nat → Int32 := upd mk_Md_init_1170 (31 : Int32).toNatClampNeg (17 : Int32)
def mk_Md_init_1182 : Nat → Int32 := upd mk_Md_init_1176 (32 : Int32).toNatClampNeg (18 : Int32)
def mk_Md_init_1188 : Nat → Int32 := upd mk_Md_init_1182 (33 : Int32).toNatClampNeg (19 : Int32)
def mk_Md_init_1194 : Nat → Int32 := upd mk_Md_init_1188 (34 : Int32).toNatClampNeg (19 : Int32)
def mk_Md_init_1200 : Nat → Int32 := upd mk_Md_init_1194 (35 : Int32).toNatClampNeg (20 : Int32)
def mk_Md_init_1206 : Nat → Int32 := upd mk_Md_init_1200 (36 : Int32).toNatClampNeg (21 : Int32)
def mk_Md_init_1212 : Nat → Int32 := upd mk_Md_init_1206 (37 : Int32).toNatClampNeg (22 : Int32)
def mk_Md_init_1218 : Nat → Int32 := upd mk_Md_init_1212 (38 : Int32).toNatClampNeg (24 : Int32)
def mk_Md_init_1224 : Nat → Int32 := upd mk_Md_init_1218 (39 : Int32).toNatClampNeg (25 : Int32)
def mk_Md_init_1229 : Nat → Int32 := upd mk_Md_init_1224 (40 : Int32).toNatClampNeg (1 : Int32)
def mk_Md_init_1234 : Nat → Int32 := upd mk_Md_init_1229 (41 : Int32).toNatClampNeg (1 : Int32)
def mk_Md_init_1239 : Nat → Int32 := upd mk_Md_init_1234 (42 : Int32).toNatClampNeg (1 : Int32)
def mk_Md_init_1244 : Nat → Int32 := upd mk_Md_init_1239 (43 : Int32).toNatClampNeg (2 : Int32)
def mk_Md_init_1249 : Nat → Int32 := upd mk_Md_init_1244 (44 : Int32).toNatClampNeg (2 : Int32)
def mk_Md_init_1254 : Nat → Int32 := upd mk_Md_init_1249 (45 : Int32).toNatClampNeg (4 : Int32)
def mk_Md_init_1259 : Nat → Int32 := upd mk_Md_init_1254 (46 : Int32).toNatClampNeg (4 : Int32)
def mk_Md_init_1264 : Nat → Int32 := upd mk_Md_init_1259 (47 : Int32).toNatClampNeg (4 : Int32)
def mk_Md_init_1269 : Nat → Int32 := upd mk_Md_init_1264 (48 : Int32).toNatClampNeg (5 : Int32)
def mk_Md_init_1274 : Nat → Int32 := upd mk_Md_init_1269 (49 : Int32).toNatClampNeg (5 : Int32)
def mk_Md_init_1279 : Nat → Int32 := upd mk_Md_init_1274 (50 : Int32).toNatClampNeg (5 : Int32)
def mk_Md_init_1285 : Nat → Int32 := upd mk_Md_init_1279 (51 : Int32).toNatClampNeg (8 : Int32)
def mk_Md_init_1291 : Nat → Int32 := upd mk_Md_init_1285 (52 : Int32).toNatClampNeg (9 : Int32)
def mk_Md_init_1297 : Nat → Int32 := upd mk_Md_init_1291 (53 : Int32).toNatClampNeg (9 : Int32)
def mk_Md_init_1303 : Nat → Int32 := upd mk_Md_init_1297 (54 : Int32).toNatClampNeg (10 : Int32)
def mk_Md_init_1309 : Nat → Int32 := upd mk_Md_init_1303 (55 : Int32).toNatClampNeg (10 : Int32)
def mk_Md_init_1315 : Nat → Int32 := upd mk_Md_init_1309 (56 : Int32).toNatClampNeg (11 : Int32)
def mk_Md_init_1321 : Nat → Int32 := upd mk_Md_init_1315 (57 : Int32).toNatClampNeg (13 : Int32)
def mk_Md_init_1327 : Nat → Int32 := upd mk_Md_init_1321 (58 : Int32).toNatClampNeg (14 : Int32)
def mk_Md_init_1333 : Nat → Int32 := upd mk_Md_init_1327 (59 : Int32).toNatClampNeg (16 : Int32)
def mk_Md_init_1339 : Nat → Int32 := upd mk_Md_init_1333 (60 : Int32).toNatClampNeg (17 : Int32)
def mk_Md_init_1345 : Nat → Int32 := upd mk_Md_init_1339 (61 : Int32).toNatClampNeg (17 : Int32)
def mk_Md_init_1351 : Nat → Int32 := upd mk_Md_init_1345 (62 : Int32).toNatClampNeg (18 : Int32)
def mk_Md_init_1357 : Nat → Int32 := upd mk_Md_init_1351 (63 : Int32).toNatClampNeg (20 : Int32)
def mk_Md_init_1363 : Nat → Int32 := upd mk_Md_init_1357 (64 : Int32).toNatClampNeg (21 : Int32)
def mk_Md_init_1369 : Nat → Int32 := upd mk_Md_init_1363 (65 : Int32).toNatClampNeg (23 : Int32)
def mk_Md_init_1375 : Nat → Int32 := upd mk_Md_init_1369 (66 : Int32).toNatClampNeg (25 : Int32)
def mk_Md_init_1381 : Nat → Int32 := upd mk_Md_init_1375 (67 : Int32).toNatClampNeg (26 : Int32)
def mk_Md_init_1387 : Nat → Int32 := upd mk_Md_init_1381 (68 : Int32).toNatClampNeg (28 : Int32)
def mk_Md_init_1393 : Nat → Int32 := upd mk_Md_init_1387 (69 : Int32).toNatClampNeg (29 : Int32)
def mk_Md_init_1399 : Nat → Int32 := upd mk_Md_init_1393 (70 : Int32).toNatClampNeg (31 : Int32)
def mk_Md_init_1405 : Nat → Int32 := upd mk_Md_init_1399 (71 : Int32).toNatClampNeg (33 : Int32)
def mk_Md_init_1411 : Nat → Int32 := upd mk_Md_init_1405 (72 : Int32).toNatClampNeg (35 : Int32)
def mk_Md_init_1417 : Nat → Int32 := upd mk_Md_init_1411 (73 : Int32).toNatClampNeg (37 : Int32)
def mk_Md_init_1423 : Nat → Int32 := upd mk_Md_init_1417 (74 : Int32).toNatClampNeg (38 : Int32)
def mk_Md_init_1429 : Nat → Int32 := upd mk_Md_init_1423 (75 : Int32).toNatClampNeg (40 : Int32)
def mk_Md_init_1435 : Nat → Int32 := upd mk_Md_init_1429 (76 : Int32).toNatClampNeg (43 : Int32)
def mk_Md_init_1441 : Nat → Int32 := upd mk_Md_init_1435 (77 : Int32).toNatClampNeg (45 : Int32)
def mk_Md_init_1447 : Nat → Int32 := upd mk_Md_init_1441 (78 : Int32).toNatClampNeg (47 : Int32)
def mk_Md_init_1453 : Nat → Int32 := upd mk_Md_init_1447 (79 : Int32).toNatClampNeg (49 : Int32)
def mk_Md_init_1458 : Nat → Int32 := upd mk_Md_init_1453 (80 : Int32).toNatClampNeg (1 : Int32)
def mk_Md_init_1463 : Nat → Int32 := upd mk_Md_init_1458 (81 : Int32).toNatClampNeg (1 : Int32)
def mk_Md_init_1468 : Nat → Int32 := upd mk_Md_init_1463 (82 : Int32).toNatClampNeg (2 : Int32)
def mk_Md_init_1473 : Nat → Int32 := upd mk_Md_init_1468 (83 : Int32).toNatClampNeg (2 : Int32)
def mk_Md_init_1478 : Nat → Int32 := upd mk_Md_init_1473 (84 : Int32).toNatClampNeg (4 : Int32)
def mk_Md_init_1483 : Nat → Int32 := upd mk_Md_init_1478 (85 : Int32).toNatClampNeg (4 : Int32)
def mk_Md_init_1489 : Nat → Int32 := upd mk_Md_init_1483 (86 : Int32).toNatClampNeg (6 : Int32)
def mk_Md_init_1495 : Nat → Int32 := upd mk_Md_init_1489 (87 : Int32).toNatClampNeg (6 : Int32)
def mk_Md_init_1501 : Nat → Int32 := upd mk_Md_init_1495 (88 : Int32).toNatClampNeg (8 : Int32)
def mk_Md_init_1507 : Nat → Int32 := upd mk_Md_init_1501 (89 : Int32).toNatClampNeg (8 : Int32)
def mk_Md_init_1513 : Nat → Int32 := upd mk_Md_init_1507 (90 : Int32).toNatClampNeg (8 : Int32)
def mk_Md_init_1519 : Nat → Int32 := upd mk_Md_init_1513 (91 : Int32).toNatClampNeg (10 : Int32)
def mk_Md_init_1525 : Nat → Int32 := upd mk_Md_init_1519 (92 : Int32).toNatClampNeg (12 : Int32)
def mk_Md_init_1531 : Nat → Int32 := upd mk_Md_init_1525 (93 : Int32).toNatClampNeg (16 : Int32)
def mk_Md_init_1537 : Nat → Int32 := upd mk_Md_init_1531 (94 : Int32).toNatClampNeg (12 : Int32)
def mk_Md_init_1543 : Nat → Int32 := upd mk_Md_init_1537 (95 : Int32).toNatClampNeg (17 : Int32)
def mk_Md_init_1549 : Nat → Int32 := upd mk_Md_init_1543 (96 : Int32).toNatClampNeg (16 : Int32)
def mk_Md_init_1555 : Nat → Int32 := upd mk_Md_init_1549 (97 : Int32).toNatClampNeg (18 : Int32)
def mk_Md_init_1561 : Nat → Int32 := upd mk_Md_init_1555 (98 : Int32).toNatClampNeg (21 : Int32)
def mk_Md_init_1567 : Nat → Int32 := upd mk_Md_init_1561 (99 : Int32).toNatClampNeg (20 : Int32)
def mk_Md_init_1573 : Nat → Int32 := upd mk_Md_init_1567 (100 : Int32).toNatClampNeg (23 : Int32)
def mk_Md_init_1579 : Nat → Int32 := upd mk_Md_init_1573 (101 : Int32).toNatClampNeg (23 : Int32)
def mk_Md_init_1585 : Nat → Int32 := upd mk_Md_init_1579 (102 : Int32).toNatClampNeg (25 : Int32)
def mk_Md_init_1591 : Nat → Int32 := upd mk_Md_init_1585 (103 : Int32).toNatClampNeg (27 : Int32)
def mk_Md_init_1597 : Nat → Int32 := upd mk_Md_init_1591 (104 : Int32).toNatClampNeg (29 : Int32)
def mk_Md_init_1603 : Nat → Int32 := upd mk_Md_init_1597 (105 : Int32).toNatClampNeg (34 : Int32)
def mk_Md_init_1609 : Nat → Int32 := upd mk_Md_init_1603 (106 : Int32).toNatClampNeg (34 : Int32)
def mk_Md_init_1615 : Nat → Int32 := upd mk_Md_init_1609 (107 : Int32).toNatClampNeg (35 : Int32)
def mk_Md_init_1621 : Nat → Int32 := upd mk_Md_init_1615 (108 : Int32).toNatClampNeg (38 : Int32)
def mk_Md_init_1627 : Nat → Int32 := upd mk_Md_init_1621 (109 : Int32).toNatClampNeg (40 : Int32)
def mk_Md_init_1633 : Nat → Int32 := upd mk_Md_init_1627 (110 : Int32).toNatClampNeg (43 : Int32)
def mk_Md_init_1639 : Nat → Int32 := upd mk_Md_init_1633 (111 : Int32).toNatClampNeg (45 : Int32)
def mk_Md_init_1645 : Nat → Int32 := upd mk_Md_init_1639 (112 : Int32).toNatClampNeg (48 : Int32)
def mk_Md_init_1651 : Nat → Int32 := upd mk_Md_init_1645 (113 : Int32).toNatClampNeg (51 : Int32)
def mk_Md_init_1657 : Nat → Int32 := upd mk_Md_init_1651 (114 : Int32).toNatClampNeg (53 : Int32)
def mk_Md_init_1663 : Nat → Int32 := upd mk_Md_init_1657 (115 : Int32).toNatClampNeg (56 : Int32)
def mk_Md_init_1669 : Nat → Int32 := upd mk_Md_init_1663 (116 : Int32).toNatClampNeg (59 : Int32)
def mk_Md_init_1675 : Nat → Int32 := upd mk_Md_init_1669 (117 : Int32).toNatClampNeg (62 : Int32)
def mk_Md_init_1681 : Nat → Int32 := upd mk_Md_init_1675 (118 : Int32).toNatClampNeg (65 : Int32)
def mk_Md_init_1687 : Nat → Int32 := upd mk_Md_init_1681 (119 : Int32).toNatClampNeg (68 : Int32)
def mk_Md_init_1692 : Nat → Int32 := upd mk_Md_init_1687 (120 : Int32).toNatClampNeg (1 : Int32)
def mk_Md_init_1697 : Nat → Int32 := upd mk_Md_init_1692 (121 : Int32).toNatClampNeg (1 : Int32)
def mk_Md_init_1702 : Nat → Int32 := upd mk_Md_init_1697 (122 : Int32).toNatClampNeg (2 : Int32)
def mk_Md_init_1707 : Nat → Int32 := upd mk_Md_init_1702 (123 : Int32).toNatClampNeg (4 : Int32)
def mk_Md_init_1712 : Nat → Int32 := upd mk_Md_init_1707 (124 : Int32).toNatClampNeg (4 : Int32)
def mk_Md_init_1717 : Nat → Int32 := upd mk_Md_init_1712 (125 : Int32).toNatClampNeg (4 : Int32)
def mk_Md_init_1722 : Nat → Int32 := upd mk_Md_init_1717 (126 : Int32).toNatClampNeg (5 : Int32)
def mk_Md_init_1728 : Nat → Int32 := upd mk_Md_init_1722 (127 : Int32).toNatClampNeg (6 : Int32)
def mk_Md_init_1735 : Nat → Int32 := upd mk_Md_init_1728 (128 : Int32).toNatClampNeg (8 : Int32)
def mk_Md_init_1742 : Nat → Int32 := upd mk_Md_init_1735 (129 : Int32).toNatClampNeg (8 : Int32)
def mk_Md_init_1749 : Nat → Int32 := upd mk_Md_init_1742 (130 : Int32).toNatClampNeg (11 : Int32)
def mk_Md_init_1756 : Nat → Int32 := upd mk_Md_init_1749 (131 : Int32).toNatClampNeg (11 : Int32)
def mk_Md_init_1763 : Nat → Int32 := upd mk_Md_init_1756 (132 : Int32).toNatClampNeg (16 : Int32)
def mk_Md_init_1770 : Nat → Int32 := upd mk_Md_init_1763 (133 : Int32).toNatClampNeg (16 : Int32)
def mk_Md_init_1777 : Nat → Int32 := upd mk_Md_init_1770 (134 : Int32).toNatClampNeg (18 : Int32)
def mk_Md_init_1784 : Nat → Int32 := upd mk_Md_init_1777 (135 : Int32).toNatClampNeg (16 : Int32)
def mk_Md_init_1791 : Nat → Int32 := upd mk_Md_init_1784 (136 : Int32).toNatClampNeg (19 : Int32)
def mk_Md_init_1798 : Nat → Int32 := upd mk_Md_init_1791 (137 : Int32).toNatClampNeg (21 : Int32)
def mk_Md_init_1805 : Nat → Int32 := upd mk_Md_init_1798 (138 : Int32).toNatClampNeg (25 : Int32)
def mk_Md_init_1812 : Nat → Int32 := upd mk_Md_init_1805 (139 : Int32).toNatClampNeg (25 : Int32)
def mk_Md_init_1819 : Nat → Int32 := upd mk_Md_init_1812 (140 : Int32).toNatClampNeg (25 : Int32)
def mk_Md_init_1826 : Nat → Int32 := upd mk_Md_init_1819 (141 : Int32).toNatClampNeg (34 : Int32)
def mk_Md_init_1833 : Nat → Int32 := upd mk_Md_init_1826 (142 : Int32).toNatClampNeg (30 : Int32)
def mk_Md_init_1840 : Nat → Int32 := upd mk_Md_init_1833 (143 : Int32).toNatClampNeg (32 : Int32)
def mk_Md_init_1847 : Nat → Int32 := upd mk_Md_init_1840 (144 : Int32).toNatClampNeg (35 : Int32)
def mk_Md_init_1854 : Nat → Int32 := upd mk_Md_init_1847 (145 : Int32).toNatClampNeg (37 : Int32)
def mk_Md_init_1861 : Nat → Int32 := upd mk_Md_init_1854 (146 : Int32).toNatClampNeg (40 : Int32)
def mk_Md_init_1868 : Nat → Int32 := upd mk_Md_init_1861 (147 : Int32).toNatClampNeg (42 : Int32)
def mk_Md_init_1875 : Nat → Int32 := upd mk_Md_init_1868 (148 : Int32).toNatClampNeg (45 : Int32)
def mk_Md_init_1882 : Nat → Int32 := upd mk_Md_init_1875 (149 : Int32).toNatClampNeg (48 : Int32)
def mk_Md_init_1889 : Nat → Int32 := upd mk_Md_init_1882 (150 : Int32).toNatClampNeg (51 : Int32)
def mk_Md_init_1896 : Nat → Int32 := upd mk_Md_init_1889 (151 : Int32).toNatClampNeg (54 : Int32)
def mk_Md_init_1903 : Nat → Int32 := upd mk_Md_init_1896 (152 : Int32).toNatClampNeg (57 : Int32)
def mk_Md_init_1910 : Nat → Int32 := upd mk_Md_init_1903 (153 : Int32).toNatClampNeg (60 : Int32)
def mk_Md_init_1917 : Nat → Int32 := upd mk_Md_init_1910 (154 : Int32).toNatClampNeg (63 : Int32)
def mk_Md_init_1924 : Nat → Int32 := upd mk_Md_init_1917 (155 : Int32).toNatClampNeg (66 : Int32)
def mk_Md_init_1931 : Nat → Int32 := upd mk_Md_init_1924 (156 : Int32).toNatClampNeg (70 : Int32)
def mk_Md_init_1938 : Nat → Int32 := upd mk_Md_init_1931 (157 : Int32).toNatClampNeg (74 : Int32)
def mk_Md_init_1945 : Nat → Int32 := upd mk_Md_init_1938 (158 : Int32).toNatClampNeg (77 : Int32)
def mk_Md_init_1952 : Nat → Int32 := upd mk_Md_init_1945 (159 : Int32).toNatClampNeg (81 : Int32)
def rm_Md_init : Room := { frames := 1, cells := 21, slots := 104474, locals := 12 }
abbrev qk_Md_init (dC : Nat → ClassId) (dI : Nat → Nat → Nat) (A : Nat → Prop) (qt  : Nat) : Array Value → State → Outcome → State → Prop := (va_Qv (fun (_ : Unit) => True) (fun _ t => ∃ (a_q1 a_q3 a_q5 a_q7 a_q9 a_q11 a_q13 a_q15 a_q17 a_q19 a_q21 a_q23 a_q25 a_q27 a_q29 a_q31 a_q33 a_q35 a_q37 a_q39 a_q41 : Nat) (a_c2 a_c4 a_c6 a_c8 a_c10 a_c12 a_c14 a_c16 a_c18 a_c20 a_c22 a_c24 a_c26 a_c28 a_c30 a_c32 a_c34 a_c36 a_c38 a_c40 a_c42 : ClassId), va_P (dC, dI) cl_All [(qt, .inr (10, [.int 0, .ref a_q1, .ref a_q3, .ref a_q5, .int 0, .ref a_q7, .ref a_q9, .int 0, .int 0, .int 0, .ref a_q11, .ref a_q13, .ref a_q15, .int 0, .ref a_q17, .ref a_q19, .int 0, .ref a_q21, .ref a_q23, .int 0, .ref a_q25, .ref a_q27, .ref a_q29, .ref a_q31, .ref a_q33, .ref a_q35, .ref a_q37, .ref a_q39, .int 0, .int 0, .int 0, .int 0, .int 0, .ref a_q41])), (a_q1, .inl (a_c2, 160, .inl mk_Md_init_995)), (a_q3, .inl (a_c4, 160, .inl mk_Md_init_1952)), (a_q5, .inl (a_c6, 3000, .inl (fun _ => 0))), (a_q7, .inl (a_c8, 31329, .inl (fun _ => 0))), (a_q9, .inl (a_c10, 31329, .inl (fun _ => 0))), (a_q11, .inl (a_c12, 6, .inl (fun _ => 0))), (a_q13, .inl (a_c14, 3000, .inl (fun _ => 0))), (a_q15, .inl (a_c16, 3000, .inl (fun _ => 0))), (a_q17, .inl (a_c18, 3000, .inl (fun _ => 0))), (a_q19, .inl (a_c20, 18006, .inl (fun _ => 0))), (a_q21, .inl (a_c22, 3800, .inl (fun _ => 0))), (a_q23, .inl (a_c24, 3800, .inl (fun _ => 0))), (a_q25, .inl (a_c26, 256, .inl (fun _ => 0))), (a_q27, .inl (a_c28, 256, .inl (fun _ => 0))), (a_q29, .inl (a_c30, 32, .inl (fun _ => 0))), (a_q31, .inl (a_c32, 272, .inl (fun _ => 0))), (a_q33, .inl (a_c34, 16, .inl (fun _ => 0))), (a_q35, .inl (a_c36, 16, .inl (fun _ => 0))), (a_q37, .inl (a_c38, 32, .inl (fun _ => 0))), (a_q39, .inl (a_c40, 3000, .inl (fun _ => 0))), (a_q41, .inl (a_c42, 4, .inl (fun _ => 0)))] t.heap ∧ va_K (dC, dI) cl_All [(a_c2, .int), (a_c4, .int), (a_c6, .int), (a_c8, .int), (a_c10, .int), (a_c12, .int), (a_c14, .int), (a_c16, .int), (a_c18, .int), (a_c20, .int), (a_c22, .int), (a_c24, .int), (a_c26, .int), (a_c28, .int), (a_c30, .int), (a_c32, .int), (a_c34, .int), (a_c36, .int), (a_c38, .int), (a_c40, .int), (a_c42, .int)] t ∧ va_D A [(qt, .inr (10, [.int 0, .ref a_q1, .ref a_q3, .ref a_q5, .int 0, .ref a_q7, .ref a_q9, .int 0, .int 0, .int 0, .ref a_q11, .ref a_q13, .ref a_q15, .int 0, .ref a_q17, .ref a_q19, .int 0, .ref a_q21, .ref a_q23, .int 0, .ref a_q25, .ref a_q27, .ref a_q29, .ref a_q31, .ref a_q33, .ref a_q35, .ref a_q37, .ref a_q39, .int 0, .int 0, .int 0, .int 0, .int 0, .ref a_q41])), (a_q1, .inl (a_c2, 160, .inl mk_Md_init_995)), (a_q3, .inl (a_c4, 160, .inl mk_Md_init_1952)), (a_q5, .inl (a_c6, 3000, .inl (fun _ => 0))), (a_q7, .inl (a_c8, 31329, .inl (fun _ => 0))), (a_q9, .inl (a_c10, 31329, .inl (fun _ => 0))), (a_q11, .inl (a_c12, 6, .inl (fun _ => 0))), (a_q13, .inl (a_c14, 3000, .inl (fun _ => 0))), (a_q15, .inl (a_c16, 3000, .inl (fun _ => 0))), (a_q17, .inl (a_c18, 3000, .inl (fun _ => 0))), (a_q19, .inl (a_c20, 18006, .inl (fun _ => 0))), (a_q21, .inl (a_c22, 3800, .inl (fun _ => 0))), (a_q23, .inl (a_c24, 3800, .inl (fun _ => 0))), (a_q25, .inl (a_c26, 256, .inl (fun _ => 0))), (a_q27, .inl (a_c28, 256, .inl (fun _ => 0))), (a_q29, .inl (a_c30, 32, .inl (fun _ => 0))), (a_q31, .inl (a_c32, 272, .inl (fun _ => 0))), (a_q33, .inl (a_c34, 16, .inl (fun _ => 0))), (a_q35, .inl (a_c36, 16, .inl (fun _ => 0))), (a_q37, .inl (a_c38, 32, .inl (fun _ => 0))), (a_q39, .inl (a_c40, 3000, .inl (fun _ => 0))), (a_q41, .inl (a_c42, 4, .inl (fun _ => 0)))]) A)

set_option maxHeartbeats 8000000 in
set_option maxRecDepth 100000 in
theorem kt_Md_init (l : Launch) (dC : Nat → ClassId) (dI : Nat → Nat → Nat) (qt  : Nat) (sz : Nat) : Met l y_Md_init w_Md_init rm_Md_init (va_Pc [.ref qt] (fun U => U.heap.size = sz ∧ va_P (dC, dI) cl_All [(qt, .inr (10, [.int 0, .null, .null, .null, .int 0, .null, .null, .int 0, .int 0, .int 0, .null, .null, .null, .int 0, .null, .null, .int 0, .null, .null, .int 0, .null, .null, .null, .null, .null, .null, .null, .null, .int 0, .int 0, .int 0, .int 0, .int 0, .null]))] U.heap ∧ va_K (dC, dI) cl_All [] U ∧ va_D (fun _ => True) [(qt, .inr (10, [.int 0, .null, .null, .null, .int 0, .null, .null, .int 0, .int 0, .int 0, .null, .null, .null, .int 0, .null, .null, .int 0, .null, .null, .int 0, .null, .null, .null, .null, .null, .null, .null, .null, .int 0, .int 0, .int 0, .int 0, .int 0, .null]))])) (qk_Md_init dC dI (va_A [(qt, .inr (10, [.int 0, .null, .null, .null, .int 0, .null, .null, .int 0, .int 0, .int 0, .null, .null, .null, .int 0, .null, .null, .int 0, .null, .null, .int 0, .null, .null, .null, .null, .null, .null, .null, .null, .int 0, .int 0, .int 0, .int 0, .int 0, .null]))] sz) qt  ) 21 104474 (va_A [(qt, .inr (10, [.int 0, .null, .null, .null, .int 0, .null, .null, .int 0, .int 0, .int 0, .null, .null, .null, .int 0, .null, .null, .int 0, .null, .null, .int 0, .null, .null, .null, .null, .null, .null, .null, .null, .int 0, .int 0, .int 0, .int 0, .int 0, .null]))] sz) := by
  refine Met.ofW (cc := prog_14_method_1_code) (maxL := 1) (ret := none) (by decide) rfl ?_
  intro p e s m args below meth c s₁ B hml hv
  obtain ⟨rfl, hsz, hP, hK, hD0⟩ := hv
  have hx := B.exec; have hb := B.bytes; have hr := B.returns; have hlocks := B.notSynchronized
  have ht : ∀ w ∈ lw_g, w.before _ s = true := fun w h => atoms_spec (ws := w_Md_init) B.pre w (List.mem_cons_of_mem _ h)
  have hown : s.vm.findClass "SquareSymbolsModel" = some m.cls := findClass_of_methodNamed B.named
  have hin : meth.name = "<init>" := (name_of_methodNamed B.named B.method).1
  subst hsz
  have hD := hD0.self (sz := s.heap.size)
  generalize hAe : va_A [(qt, .inr (10, [.int 0, .null, .null, .null, .int 0, .null, .null, .int 0, .int 0, .int 0, .null, .null, .null, .int 0, .null, .null, .int 0, .null, .null, .int 0, .null, .null, .null, .null, .null, .null, .null, .null, .int 0, .int 0, .int 0, .int 0, .int 0, .null]))] s.heap.size = A at hD ⊢
  have hA : ∀ q : Nat, s.heap.size ≤ q → A q := fun q h => by rw [← hAe]; exact Or.inr h
  have hS : va_S A s.heap s.heap [] := va_S.rf
  have hl := lv_entry ([.ref qt]) (n := 1) (Nat.le_of_ble_eq_true rfl)
  rw [lg_entry_eq]
  generalize (lg_sl ([.ref qt]) ++ List.replicate (1 - (lg_sl ([.ref qt])).length) Slot.unset).toArray = ls at hl ⊢
  have hl : lv_has ls 1 [(0, .ref qt)] := hl
  refine lv_aload_n hx hb d_Md_init_0 rfl (lv_at hl 0 rfl) ?_
  refine W.objInit hx hb hown (ht _ tb_1061) (ht _ tb_34) (ht _ tb_35) rfl (by rw [hml]; exact hl.1) rfl d_Md_init_1 (Nat.le_of_ble_eq_true rfl) (Nat.le_of_ble_eq_true rfl) ?_
  refine W.eq (g2 := F0 m 4 ls []) rfl ?_
  refine lv_aload_n hx hb d_Md_init_4 rfl (lv_at hl 0 rfl) ?_
  refine lv_sipush (v := (160 : Int32)) hx hb d_Md_init_5 (by decide) ?_
  refine va_newa (atype := .int) hx hb (ht _ tb_49) (ty := .int) rfl hK hP hD hS hA (N' := 160) (a0 := (160, .inl (fun _ => 0))) (fun _ => rfl) (by decide) (by decide) (by decide) (Nat.le_of_ble_eq_true rfl) (Nat.le_of_ble_eq_true rfl) d_Md_init_8 (fun a_q1 a_c2 H hK hP hD hS => ?_)
  refine W.widen (k := 1) (n := 160) (by omega) (by omega) ?_
  replace hK : va_K (dC, dI) cl_All [(a_c2, .int)] s := hK
  replace hP : va_P (dC, dI) cl_All [(qt, .inr (10, [.int 0, .null, .null, .null, .int 0, .null, .null, .int 0, .int 0, .int 0, .null, .null, .null, .int 0, .null, .null, .int 0, .null, .null, .int 0, .null, .null, .null, .null, .null, .null, .null, .null, .int 0, .int 0, .int 0, .int 0, .int 0, .null])), (a_q1, .inl (a_c2, 160, .inl (fun _ => 0)))] H := hP
  replace hD : va_D A [(qt, .inr (10, [.int 0, .null, .null, .null, .int 0, .null, .null, .int 0, .int 0, .int 0, .null, .null, .null, .int 0, .null, .null, .int 0, .null, .null, .int 0, .null, .null, .null, .null, .null, .null, .null, .null, .int 0, .int 0, .int 0, .int 0, .int 0, .null])), (a_q1, .inl (a_c2, 160, .inl (fun _ => 0)))] := hD
  refine lv_dup hx hb d_Md_init_10 rfl ?_
  refine lv_iconst (v := (0 : Int32)) hx hb d_Md_init_11 (by decide) ?_
  refine lv_bipush (v := (7 : Int32)) hx hb d_Md_init_12 (by decide) ?_
  refine va_iast hx hb hK hP hD hS 1 0 rfl rfl (i := (0 : Int32)) (by unfold vp_in; decide) d_Md_init_14 (fun H locs hP hD hS => ?_)
  replace hP : va_P (dC, dI) cl_All [(qt, .inr (10, [.int 0, .null, .null, .null, .int 0, .null, .null, .int 0, .int 0, .int 0, .null, .null, .null, .int 0, .null, .null, .int 0, .null, .null, .int 0, .null, .null, .null, .null, .null, .null, .null, .null, .int 0, .int 0, .int 0, .int 0, .int 0, .null])), (a_q1, .inl (a_c2, 160, .inl mk_Md_init_14))] H := hP
  replace hD : va_D A [(qt, .inr (10, [.int 0, .null, .null, .null, .int 0, .null, .null, .int 0, .int 0, .int 0, .null, .null, .null, .int 0, .null, .null, .int 0, .null, .null, .int 0, .null, .null, .null, .null, .null, .null, .null, .null, .int 0, .int 0, .int 0, .int 0, .int 0, .null])), (a_q1, .inl (a_c2, 160, .inl mk_Md_init_14))] := hD
  refine lv_dup hx hb d_Md_init_15 rfl ?_
  refine lv_iconst (v := (1 : Int32)) hx hb d_Md_init_16 (by decide) ?_
  refine lv_bipush (v := (10 : Int32)) hx hb d_Md_init_17 (by decide) ?_
  refine va_iast hx hb hK hP hD hS 1 0 rfl rfl (i := (1 : Int32)) (by unfold vp_in; decide) d_Md_init_19 (fun H locs hP hD hS => ?_)
  replace hP : va_P (dC, dI) cl_All [(qt, .inr (10, [.int 0, .null, .null, .null, .int 0, .null, .null, .int 0, .int 0, .int 0, .null, .null, .null, .int 0, .null, .null, .int 0, .null, .null, .int 0, .null, .null, .null, .null, .null, .null, .null, .null, .int 0, .int 0, .int 0, .int 0, .int 0, .null])), (a_q1, .inl (a_c2, 160, .inl mk_Md_init_19))] H := hP
  replace hD : va_D A [(qt, .inr (10, [.int 0, .null, .null, .null, .int 0, .null, .null, .int 0, .int 0, .int 0, .null, .null, .null, .int 0, .null, .null, .int 0, .null, .null, .int 0, .null, .null, .null, .null, .null, .null, .null, .null, .int 0, .int 0, .int 0, .int 0, .int 0, .null])), (a_q1, .inl (a_c2, 160, .inl mk_Md_init_19))] := hD
  refine lv_dup hx hb d_Md_init_20 rfl ?_
  refine lv_iconst (v := (2 : Int32)) hx hb d_Md_init_21 (by decide) ?_
  refine lv_bipush (v := (15 : Int32)) hx hb d_Md_init_22 (by decide) ?_
  refine va_iast hx hb hK hP hD hS 1 0 rfl rfl (i := (2 : Int32)) (by unfold vp_in; decide) d_Md_init_24 (fun H locs hP hD hS => ?_)
  replace hP : va_P (dC, dI) cl_All [(qt, .inr (10, [.int 0, .null, .null, .null, .int 0, .null, .null, .int 0, .int 0, .int 0, .null, .null, .null, .int 0, .null, .null, .int 0, .null, .null, .int 0, .null, .null, .null, .null, .null, .null, .null, .null, .int 0, .int 0, .int 0, .int 0, .int 0, .null])), (a_q1, .inl (a_c2, 160, .inl mk_Md_init_24))] H := hP
  replace hD : va_D A [(qt, .inr (10, [.int 0, .null, .null, .null, .int 0, .null, .null, .int 0, .int 0, .int 0, .null, .null, .null, .int 0, .null, .null, .int 0, .null, .null, .int 0, .null, .null, .null, .null, .null, .null, .null, .null, .int 0, .int 0, .int 0, .int 0, .int 0, .null])), (a_q1, .inl (a_c2, 160, .inl mk_Md_init_24))] := hD
  refine lv_dup hx hb d_Md_init_25 rfl ?_
  refine lv_iconst (v := (3 : Int32)) hx hb d_Md_init_26 (by decide) ?_
  refine lv_bipush (v := (20 : Int32)) hx hb d_Md_init_27 (by decide) ?_
  refine va_iast hx hb hK hP hD hS 1 0 rfl rfl (i := (3 : Int32)) (by unfold vp_in; decide) d_Md_init_29 (fun H locs hP hD hS => ?_)
  replace hP : va_P (dC, dI) cl_All [(qt, .inr (10, [.int 0, .null, .null, .null, .int 0, .null, .null, .int 0, .int 0, .int 0, .null, .null, .null, .int 0, .null, .null, .int 0, .null, .null, .int 0, .null, .null, .null, .null, .null, .null, .null, .null, .int 0, .int 0, .int 0, .int 0, .int 0, .null])), (a_q1, .inl (a_c2, 160, .inl mk_Md_init_29))] H := hP
  replace hD : va_D A [(qt, .inr (10, [.int 0, .null, .null, .null, .int 0, .null, .null, .int 0, .int 0, .int 0, .null, .null, .null, .int 0, .null, .null, .int 0, .null, .null, .int 0, .null, .null, .null, .null, .null, .null, .null, .null, .int 0, .int 0, .int 0, .int 0, .int 0, .null])), (a_q1, .inl (a_c2, 160, .inl mk_Md_init_29))] := hD
  refine lv_dup hx hb d_Md_init_30 rfl ?_
  refine lv_iconst (v := (4 : Int32)) hx hb d_Md_init_31 (by decide) ?_
  refine lv_bipush (v := (26 : Int32)) hx hb d_Md_init_32 (by decide) ?_
  refine va_iast hx hb hK hP hD hS 1 0 rfl rfl (i := (4 : Int32)) (by unfold vp_in; decide) d_Md_init_34 (fun H locs hP hD hS => ?_)
  replace hP : va_P (dC, dI) cl_All [(qt, .inr (10, [.int 0, .null, .null, .null, .int 0, .null, .null, .int 0, .int 0, .int 0, .null, .null, .null, .int 0, .null, .null, .int 0, .null, .null, .int 0, .null, .null, .null, .null, .null, .null, .null, .null, .int 0, .int 0, .int 0, .int 0, .int 0, .null])), (a_q1, .inl (a_c2, 160, .inl mk_Md_init_34))] H := hP
  replace hD : va_D A [(qt, .inr (10, [.int 0, .null, .null, .null, .int 0, .null, .null, .int 0, .int 0, .int 0, .null, .null, .null, .int 0, .null, .null, .int 0, .null, .null, .int 0, .null, .null, .null, .null, .null, .null, .null, .null, .int 0, .int 0, .int 0, .int 0, .int 0, .null])), (a_q1, .inl (a_c2, 160, .inl mk_Md_init_34))] := hD
  refine lv_dup hx hb d_Md_init_35 rfl ?_
  refine lv_iconst (v := (5 : Int32)) hx hb d_Md_init_36 (by decide) ?_
  refine lv_bipush (v := (18 : Int32)) hx hb d_Md_init_37 (by decide) ?_
  refine va_iast hx hb hK hP hD hS 1 0 rfl rfl (i := (5 : Int32)) (by unfold vp_in; decide) d_Md_init_39 (fun H locs hP hD hS => ?_)
  replace hP : va_P (dC, dI) cl_All [(qt, .inr (10, [.int 0, .null, .null, .null, .int 0, .null, .null, .int 0, .int 0, .int 0, .null, .null, .null, .int 0, .null, .null, .int 0, .null, .null, .int 0, .null, .null, .null, .null, .null, .null, .null, .null, .int 0, .int 0, .int 0, .int 0, .int 0, .null])), (a_q1, .inl (a_c2, 160, .inl mk_Md_init_39))] H := hP
  replace hD : va_D A [(qt, .inr (10, [.int 0, .null, .null, .null, .int 0, .null, .null, .int 0, .int 0, .int 0, .null, .null, .null, .int 0, .null, .null, .int 0, .null, .null, .int 0, .null, .null, .null, .null, .null, .null, .null, .null, .int 0, .int 0, .int 0, .int 0, .int 0, .null])), (a_q1, .inl (a_c2, 160, .inl mk_Md_init_39))] := hD
  refine lv_dup hx hb d_Md_init_40 rfl ?_
  refine lv_bipush (v := (6 : Int32)) hx hb d_Md_init_41 (by decide) ?_
  refine lv_bipush (v := (20 : Int32)) hx hb d_Md_init_43 (by decide) ?_
  refine va_iast hx hb hK hP hD hS 1 0 rfl rfl (i := (6 : Int32)) (by unfold vp_in; decide) d_Md_init_45 (fun H locs hP hD hS => ?_)
  replace hP : va_P (dC, dI) cl_All [(qt, .inr (10, [.int 0, .null, .null, .null, .int 0, .null, .null, .int 0, .int 0, .int 0, .null, .null, .null, .int 0, .null, .null, .int 0, .null, .null, .int 0, .null, .null, .null, .null, .null, .null, .null, .null, .int 0, .int 0, .int 0, .int 0, .int 0, .null])), (a_q1, .inl (a_c2, 160, .inl mk_Md_init_45))] H := hP
  replace hD : va_D A [(qt, .inr (10, [.int 0, .null, .null, .null, .int 0, .null, .null, .int 0, .int 0, .int 0, .null, .null, .null, .int 0, .null, .null, .int 0, .null, .null, .int 0, .null, .null, .null, .null, .null, .null, .null, .null, .int 0, .int 0, .int 0, .int 0, .int 0, .null])), (a_q1, .inl (a_c2, 160, .inl mk_Md_init_45))] := hD
  refine lv_dup hx hb d_Md_init_46 rfl ?_
  refine lv_bipush (v := (7 : Int32)) hx hb d_Md_init_47 (by decide) ?_
  refine lv_bipush (v := (24 : Int32)) hx hb d_Md_init_49 (by decide) ?_
  refine va_iast hx hb hK hP hD hS 1 0 rfl rfl (i := (7 : Int32)) (by unfold vp_in; decide) d_Md_init_51 (fun H locs hP hD hS => ?_)
  replace hP : va_P (dC, dI) cl_All [(qt, .inr (10, [.int 0, .null, .null, .null, .int 0, .null, .null, .int 0, .int 0, .int 0, .null, .null, .null, .int 0, .null, .null, .int 0, .null, .null, .int 0, .null, .null, .null, .null, .null, .null, .null, .null, .int 0, .int 0, .int 0, .int 0, .int 0, .null])), (a_q1, .inl (a_c2, 160, .inl mk_Md_init_51))] H := hP
  replace hD : va_D A [(qt, .inr (10, [.int 0, .null, .null, .null, .int 0, .null, .null, .int 0, .int 0, .int 0, .null, .null, .null, .int 0, .null, .null, .int 0, .null, .null, .int 0, .null, .null, .null, .null, .null, .null, .null, .null, .int 0, .int 0, .int 0, .int 0, .int 0, .null])), (a_q1, .inl (a_c2, 160, .inl mk_Md_init_51))] := hD
  refine lv_dup hx hb d_Md_init_52 rfl ?_
  refine lv_bipush (v := (8 : Int32)) hx hb d_Md_init_53 (by decide) ?_
  refine lv_bipush (v := (30 : Int32)) hx hb d_Md_init_55 (by decide) ?_
  refine va_iast hx hb hK hP hD hS 1 0 rfl rfl (i := (8 : Int32)) (by unfold vp_in; decide) d_Md_init_57 (fun H locs hP hD hS => ?_)
  replace hP : va_P (dC, dI) cl_All [(qt, .inr (10, [.int 0, .null, .null, .null, .int 0, .null, .null, .int 0, .int 0, .int 0, .null, .null, .null, .int 0, .null, .null, .int 0, .null, .null, .int 0, .null, .null, .null, .null, .null, .null, .null, .null, .int 0, .int 0, .int 0, .int 0, .int 0, .null])), (a_q1, .inl (a_c2, 160, .inl mk_Md_init_57))] H := hP
  replace hD : va_D A [(qt, .inr (10, [.int 0, .null, .null, .null, .int 0, .null, .null, .int 0, .int 0, .int 0, .null, .null, .null, .int 0, .null, .null, .int 0, .null, .null, .int 0, .null, .null, .null, .null, .null, .null, .null, .null, .int 0, .int 0, .int 0, .int 0, .int 0, .null])), (a_q1, .inl (a_c2, 160, .inl mk_Md_init_57))] := hD
  refine lv_dup hx hb d_Md_init_58 rfl ?_
  refine lv_bipush (v := (9 : Int32)) hx hb d_Md_init_59 (by decide) ?_
  refine lv_bipush (v := (18 : Int32)) hx hb d_Md_init_61 (by decide) ?_
  refine va_iast hx hb hK hP hD hS 1 0 rfl rfl (i := (9 : Int32)) (by unfold vp_in; decide) d_Md_init_63 (fun H locs hP hD hS => ?_)
  replace hP : va_P (dC, dI) cl_All [(qt, .inr (10, [.int 0, .null, .null, .null, .int 0, .null, .null, .int 0, .int 0, .int 0, .null, .null, .null, .int 0, .null, .null, .int 0, .null, .null, .int 0, .null, .null, .null, .null, .null, .null, .null, .null, .int 0, .int 0, .int 0, .int 0, .int 0, .null])), (a_q1, .inl (a_c2, 160, .inl mk_Md_init_63))] H := hP
  replace hD : va_D A [(qt, .inr (10, [.int 0, .null, .null, .null, .int 0, .null, .null, .int 0, .int 0, .int 0, .null, .null, .null, .int 0, .null, .null, .int 0, .null, .null, .int 0, .null, .null, .null, .null, .null, .null, .null, .null, .int 0, .int 0, .int 0, .int 0, .int 0, .null])), (a_q1, .inl (a_c2, 160, .inl mk_Md_init_63))] := hD
  refine lv_dup hx hb d_Md_init_64 rfl ?_
  refine lv_bipush (v := (10 : Int32)) hx hb d_Md_init_65 (by decide) ?_
  refine lv_bipush (v := (20 : Int32)) hx hb d_Md_init_67 (by decide) ?_
  refine va_iast hx hb hK hP hD hS 1 0 rfl rfl (i := (10 : Int32)) (by unfold vp_in; decide) d_Md_init_69 (fun H locs hP hD hS => ?_)
  replace hP : va_P (dC, dI) cl_All [(qt, .inr (10, [.int 0, .null, .null, .null, .int 0, .null, .null, .int 0, .int 0, .int 0, .null, .null, .null, .int 0, .null, .null, .int 0, .null, .null, .int 0, .null, .null, .null, .null, .null, .null, .null, .null, .int 0, .int 0, .int 0, .int 0, .int 0, .null])), (a_q1, .inl (a_c2, 160, .inl mk_Md_init_69))] H := hP
  replace hD : va_D A [(qt, .inr (10, [.int 0, .null, .null, .null, .int 0, .null, .null, .int 0, .int 0, .int 0, .null, .null, .null, .int 0, .null, .null, .int 0, .null, .null, .int 0, .null, .null, .null, .null, .null, .null, .null, .null, .int 0, .int 0, .int 0, .int 0, .int 0, .null])), (a_q1, .inl (a_c2, 160, .inl mk_Md_init_69))] := hD
  refine lv_dup hx hb d_Md_init_70 rfl ?_
  refine lv_bipush (v := (11 : Int32)) hx hb d_Md_init_71 (by decide) ?_
  refine lv_bipush (v := (24 : Int32)) hx hb d_Md_init_73 (by decide) ?_
  refine va_iast hx hb hK hP hD hS 1 0 rfl rfl (i := (11 : Int32)) (by unfold vp_in; decide) d_Md_init_75 (fun H locs hP hD hS => ?_)
  replace hP : va_P (dC, dI) cl_All [(qt, .inr (10, [.int 0, .null, .null, .null, .int 0, .null, .null, .int 0, .int 0, .int 0, .null, .null, .null, .int 0, .null, .null, .int 0, .null, .null, .int 0, .null, .null, .null, .null, .null, .null, .null, .null, .int 0, .int 0, .int 0, .int 0, .int 0, .null])), (a_q1, .inl (a_c2, 160, .inl mk_Md_init_75))] H := hP
  replace hD : va_D A [(qt, .inr (10, [.int 0, .null, .null, .null, .int 0, .null, .null, .int 0, .int 0, .int 0, .null, .null, .null, .int 0, .null, .null, .int 0, .null, .null, .int 0, .null, .null, .null, .null, .null, .null, .null, .null, .int 0, .int 0, .int 0, .int 0, .int 0, .null])), (a_q1, .inl (a_c2, 160, .inl mk_Md_init_75))] := hD
  refine lv_dup hx hb d_Md_init_76 rfl ?_
  refine lv_bipush (v := (12 : Int32)) hx hb d_Md_init_77 (by decide) ?_
  refine lv_bipush (v := (26 : Int32)) hx hb d_Md_init_79 (by decide) ?_
  refine va_iast hx hb hK hP hD hS 1 0 rfl rfl (i := (12 : Int32)) (by unfold vp_in; decide) d_Md_init_81 (fun H locs hP hD hS => ?_)
  replace hP : va_P (dC, dI) cl_All [(qt, .inr (10, [.int 0, .null, .null, .null, .int 0, .null, .null, .int 0, .int 0, .int 0, .null, .null, .null, .int 0, .null, .null, .int 0, .null, .null, .int 0, .null, .null, .null, .null, .null, .null, .null, .null, .int 0, .int 0, .int 0, .int 0, .int 0, .null])), (a_q1, .inl (a_c2, 160, .inl mk_Md_init_81))] H := hP
  replace hD : va_D A [(qt, .inr (10, [.int 0, .null, .null, .null, .int 0, .null, .null, .int 0, .int 0, .int 0, .null, .null, .null, .int 0, .null, .null, .int 0, .null, .null, .int 0, .null, .null, .null, .null, .null, .null, .null, .null, .int 0, .int 0, .int 0, .int 0, .int 0, .null])), (a_q1, .inl (a_c2, 160, .inl mk_Md_init_81))] := hD
  refine lv_dup hx hb d_Md_init_82 rfl ?_
  refine lv_bipush (v := (13 : Int32)) hx hb d_Md_init_83 (by decide) ?_
  refine lv_bipush (v := (30 : Int32)) hx hb d_Md_init_85 (by decide) ?_
  refine va_iast hx hb hK hP hD hS 1 0 rfl rfl (i := (13 : Int32)) (by unfold vp_in; decide) d_Md_init_87 (fun H locs hP hD hS => ?_)
  replace hP : va_P (dC, dI) cl_All [(qt, .inr (10, [.int 0, .null, .null, .null, .int 0, .null, .null, .int 0, .int 0, .int 0, .null, .null, .null, .int 0, .null, .null, .int 0, .null, .null, .int 0, .null, .null, .null, .null, .null, .null, .null, .null, .int 0, .int 0, .int 0, .int 0, .int 0, .null])), (a_q1, .inl (a_c2, 160, .inl mk_Md_init_87))] H := hP
  replace hD : va_D A [(qt, .inr (10, [.int 0, .null, .null, .null, .int 0, .null, .null, .int 0, .int 0, .int 0, .null, .null, .null, .int 0, .null, .null, .int 0, .null, .null, .int 0, .null, .null, .null, .null, .null, .null, .null, .null, .int 0, .int 0, .int 0, .int 0, .int 0, .null])), (a_q1, .inl (a_c2, 160, .inl mk_Md_init_87))] := hD
  refine lv_dup hx hb d_Md_init_88 rfl ?_
  refine lv_bipush (v := (14 : Int32)) hx hb d_Md_init_89 (by decide) ?_
  refine lv_bipush (v := (22 : Int32)) hx hb d_Md_init_91 (by decide) ?_
  refine va_iast hx hb hK hP hD hS 1 0 rfl rfl (i := (14 : Int32)) (by unfold vp_in; decide) d_Md_init_93 (fun H locs hP hD hS => ?_)
  replace hP : va_P (dC, dI) cl_All [(qt, .inr (10, [.int 0, .null, .null, .null, .int 0, .null, .null, .int 0, .int 0, .int 0, .null, .null, .null, .int 0, .null, .null, .int 0, .null, .null, .int 0, .null, .null, .null, .null, .null, .null, .null, .null, .int 0, .int 0, .int 0, .int 0, .int 0, .null])), (a_q1, .inl (a_c2, 160, .inl mk_Md_init_93))] H := hP
  replace hD : va_D A [(qt, .inr (10, [.int 0, .null, .null, .null, .int 0, .null, .null, .int 0, .int 0, .int 0, .null, .null, .null, .int 0, .null, .null, .int 0, .null, .null, .int 0, .null, .null, .null, .null, .null, .null, .null, .null, .int 0, .int 0, .int 0, .int 0, .int 0, .null])), (a_q1, .inl (a_c2, 160, .inl mk_Md_init_93))] := hD
  refine lv_dup hx hb d_Md_init_94 rfl ?_
  refine lv_bipush (v := (15 : Int32)) hx hb d_Md_init_95 (by decide) ?_
  refine lv_bipush (v := (24 : Int32)) hx hb d_Md_init_97 (by decide) ?_
  refine va_iast hx hb hK hP hD hS 1 0 rfl rfl (i := (15 : Int32)) (by unfold vp_in; decide) d_Md_init_99 (fun H locs hP hD hS => ?_)
  replace hP : va_P (dC, dI) cl_All [(qt, .inr (10, [.int 0, .null, .null, .null, .int 0, .null, .null, .int 0, .int 0, .int 0, .null, .null, .null, .int 0, .null, .null, .int 0, .null, .null, .int 0, .null, .null, .null, .null, .null, .null, .null, .null, .int 0, .int 0, .int 0, .int 0, .int 0, .null])), (a_q1, .inl (a_c2, 160, .inl mk_Md_init_99))] H := hP
  replace hD : va_D A [(qt, .inr (10, [.int 0, .null, .null, .null, .int 0, .null, .null, .int 0, .int 0, .int 0, .null, .null, .null, .int 0, .null, .null, .int 0, .null, .null, .int 0, .null, .null, .null, .null, .null, .null, .null, .null, .int 0, .int 0, .int 0, .int 0, .int 0, .null])), (a_q1, .inl (a_c2, 160, .inl mk_Md_init_99))] := hD
  refine lv_dup hx hb d_Md_init_100 rfl ?_
  refine lv_bipush (v := (16 : Int32)) hx hb d_Md_init_101 (by decide) ?_
  refine lv_bipush (v := (28 : Int32)) hx hb d_Md_init_103 (by decide) ?_
  refine va_iast hx hb hK hP hD hS 1 0 rfl rfl (i := (16 : Int32)) (by unfold vp_in; decide) d_Md_init_105 (fun H locs hP hD hS => ?_)
  replace hP : va_P (dC, dI) cl_All [(qt, .inr (10, [.int 0, .null, .null, .null, .int 0, .null, .null, .int 0, .int 0, .int 0, .null, .null, .null, .int 0, .null, .null, .int 0, .null, .null, .int 0, .null, .null, .null, .null, .null, .null, .null, .null, .int 0, .int 0, .int 0, .int 0, .int 0, .null])), (a_q1, .inl (a_c2, 160, .inl mk_Md_init_105))] H := hP
  replace hD : va_D A [(qt, .inr (10, [.int 0, .null, .null, .null, .int 0, .null, .null, .int 0, .int 0, .int 0, .null, .null, .null, .int 0, .null, .null, .int 0, .null, .null, .int 0, .null, .null, .null, .null, .null, .null, .null, .null, .int 0, .int 0, .int 0, .int 0, .int 0, .null])), (a_q1, .inl (a_c2, 160, .inl mk_Md_init_105))] := hD
  refine lv_dup hx hb d_Md_init_106 rfl ?_
  refine lv_bipush (v := (17 : Int32)) hx hb d_Md_init_107 (by decide) ?_
  refine lv_bipush (v := (30 : Int32)) hx hb d_Md_init_109 (by decide) ?_
  refine va_iast hx hb hK hP hD hS 1 0 rfl rfl (i := (17 : Int32)) (by unfold vp_in; decide) d_Md_init_111 (fun H locs hP hD hS => ?_)
  replace hP : va_P (dC, dI) cl_All [(qt, .inr (10, [.int 0, .null, .null, .null, .int 0, .null, .null, .int 0, .int 0, .int 0, .null, .null, .null, .int 0, .null, .null, .int 0, .null, .null, .int 0, .null, .null, .null, .null, .null, .null, .null, .null, .int 0, .int 0, .int 0, .int 0, .int 0, .null])), (a_q1, .inl (a_c2, 160, .inl mk_Md_init_111))] H := hP
  replace hD : va_D A [(qt, .inr (10, [.int 0, .null, .null, .null, .int 0, .null, .null, .int 0, .int 0, .int 0, .null, .null, .null, .int 0, .null, .null, .int 0, .null, .null, .int 0, .null, .null, .null, .null, .null, .null, .null, .null, .int 0, .int 0, .int 0, .int 0, .int 0, .null])), (a_q1, .inl (a_c2, 160, .inl mk_Md_init_111))] := hD
  refine lv_dup hx hb d_Md_init_112 rfl ?_
  refine lv_bipush (v := (18 : Int32)) hx hb d_Md_init_113 (by decide) ?_
  refine lv_bipush (v := (28 : Int32)) hx hb d_Md_init_115 (by decide) ?_
  refine va_iast hx hb hK hP hD hS 1 0 rfl rfl (i := (18 : Int32)) (by unfold vp_in; decide) d_Md_init_117 (fun H locs hP hD hS => ?_)
  replace hP : va_P (dC, dI) cl_All [(qt, .inr (10, [.int 0, .null, .null, .null, .int 0, .null, .null, .int 0, .int 0, .int 0, .null, .null, .null, .int 0, .null, .null, .int 0, .null, .null, .int 0, .null, .null, .null, .null, .null, .null, .null, .null, .int 0, .int 0, .int 0, .int 0, .int 0, .null])), (a_q1, .inl (a_c2, 160, .inl mk_Md_init_117))] H := hP
  replace hD : va_D A [(qt, .inr (10, [.int 0, .null, .null, .null, .int 0, .null, .null, .int 0, .int 0, .int 0, .null, .null, .null, .int 0, .null, .null, .int 0, .null, .null, .int 0, .null, .null, .null, .null, .null, .null, .null, .null, .int 0, .int 0, .int 0, .int 0, .int 0, .null])), (a_q1, .inl (a_c2, 160, .inl mk_Md_init_117))] := hD
  refine lv_dup hx hb d_Md_init_118 rfl ?_
  refine lv_bipush (v := (19 : Int32)) hx hb d_Md_init_119 (by decide) ?_
  refine lv_bipush (v := (28 : Int32)) hx hb d_Md_init_121 (by decide) ?_
  refine va_iast hx hb hK hP hD hS 1 0 rfl rfl (i := (19 : Int32)) (by unfold vp_in; decide) d_Md_init_123 (fun H locs hP hD hS => ?_)
  replace hP : va_P (dC, dI) cl_All [(qt, .inr (10, [.int 0, .null, .null, .null, .int 0, .null, .null, .int 0, .int 0, .int 0, .null, .null, .null, .int 0, .null, .null, .int 0, .null, .null, .int 0, .null, .null, .null, .null, .null, .null, .null, .null, .int 0, .int 0, .int 0, .int 0, .int 0, .null])), (a_q1, .inl (a_c2, 160, .inl mk_Md_init_123))] H := hP
  replace hD : va_D A [(qt, .inr (10, [.int 0, .null, .null, .null, .int 0, .null, .null, .int 0, .int 0, .int 0, .null, .null, .null, .int 0, .null, .null, .int 0, .null, .null, .int 0, .null, .null, .null, .null, .null, .null, .null, .null, .int 0, .int 0, .int 0, .int 0, .int 0, .null])), (a_q1, .inl (a_c2, 160, .inl mk_Md_init_123))] := hD
  refine lv_dup hx hb d_Md_init_124 rfl ?_
  refine lv_bipush (v := (20 : Int32)) hx hb d_Md_init_125 (by decide) ?_
  refine lv_bipush (v := (28 : Int32)) hx hb d_Md_init_127 (by decide) ?_
  refine va_iast hx hb hK hP hD hS 1 0 rfl rfl (i := (20 : Int32)) (by unfold vp_in; decide) d_Md_init_129 (fun H locs hP hD hS => ?_)
  replace hP : va_P (dC, dI) cl_All [(qt, .inr (10, [.int 0, .null, .null, .null, .int 0, .null, .null, .int 0, .int 0, .int 0, .null, .null, .null, .int 0, .null, .null, .int 0, .null, .null, .int 0, .null, .null, .null, .null, .null, .null, .null, .null, .int 0, .int 0, .int 0, .int 0, .int 0, .null])), (a_q1, .inl (a_c2, 160, .inl mk_Md_init_129))] H := hP
  replace hD : va_D A [(qt, .inr (10, [.int 0, .null, .null, .null, .int 0, .null, .null, .int 0, .int 0, .int 0, .null, .null, .null, .int 0, .null, .null, .int 0, .null, .null, .int 0, .null, .null, .null, .null, .null, .null, .null, .null, .int 0, .int 0, .int 0, .int 0, .int 0, .null])), (a_q1, .inl (a_c2, 160, .inl mk_Md_init_129))] := hD
  refine lv_dup hx hb d_Md_init_130 rfl ?_
  refine lv_bipush (v := (21 : Int32)) hx hb d_Md_init_131 (by decide) ?_
  refine lv_bipush (v := (28 : Int32)) hx hb d_Md_init_133 (by decide) ?_
  refine va_iast hx hb hK hP hD hS 1 0 rfl rfl (i := (21 : Int32)) (by unfold vp_in; decide) d_Md_init_135 (fun H locs hP hD hS => ?_)
  replace hP : va_P (dC, dI) cl_All [(qt, .inr (10, [.int 0, .null, .null, .null, .int 0, .null, .null, .int 0, .int 0, .int 0, .null, .null, .null, .int 0, .null, .null, .int 0, .null, .null, .int 0, .null, .null, .null, .null, .null, .null, .null, .null, .int 0, .int 0, .int 0, .int 0, .int 0, .null])), (a_q1, .inl (a_c2, 160, .inl mk_Md_init_135))] H := hP
  replace hD : va_D A [(qt, .inr (10, [.int 0, .null, .null, .null, .int 0, .null, .null, .int 0, .int 0, .int 0, .null, .null, .null, .int 0, .null, .null, .int 0, .null, .null, .int 0, .null, .null, .null, .null, .null, .null, .null, .null, .int 0, .int 0, .int 0, .int 0, .int 0, .null])), (a_q1, .inl (a_c2, 160, .inl mk_Md_init_135))] := hD
  refine lv_dup hx hb d_Md_init_136 rfl ?_
  refine lv_bipush (v := (22 : Int32)) hx hb d_Md_init_137 (by decide) ?_
  refine lv_bipush (v := (30 : Int32)) hx hb d_Md_init_139 (by decide) ?_
  refine va_iast hx hb hK hP hD hS 1 0 rfl rfl (i := (22 : Int32)) (by unfold vp_in; decide) d_Md_init_141 (fun H locs hP hD hS => ?_)
  replace hP : va_P (dC, dI) cl_All [(qt, .inr (10, [.int 0, .null, .null, .null, .int 0, .null, .null, .int 0, .int 0, .int 0, .null, .null, .null, .int 0, .null, .null, .int 0, .null, .null, .int 0, .null, .null, .null, .null, .null, .null, .null, .null, .int 0, .int 0, .int 0, .int 0, .int 0, .null])), (a_q1, .inl (a_c2, 160, .inl mk_Md_init_141))] H := hP
  replace hD : va_D A [(qt, .inr (10, [.int 0, .null, .null, .null, .int 0, .null, .null, .int 0, .int 0, .int 0, .null, .null, .null, .int 0, .null, .null, .int 0, .null, .null, .int 0, .null, .null, .null, .null, .null, .null, .null, .null, .int 0, .int 0, .int 0, .int 0, .int 0, .null])), (a_q1, .inl (a_c2, 160, .inl mk_Md_init_141))] := hD
  refine lv_dup hx hb d_Md_init_142 rfl ?_
  refine lv_bipush (v := (23 : Int32)) hx hb d_Md_init_143 (by decide) ?_
  refine lv_bipush (v := (30 : Int32)) hx hb d_Md_init_145 (by decide) ?_
  refine va_iast hx hb hK hP hD hS 1 0 rfl rfl (i := (23 : Int32)) (by unfold vp_in; decide) d_Md_init_147 (fun H locs hP hD hS => ?_)
  replace hP : va_P (dC, dI) cl_All [(qt, .inr (10, [.int 0, .null, .null, .null, .int 0, .null, .null, .int 0, .int 0, .int 0, .null, .null, .null, .int 0, .null, .null, .int 0, .null, .null, .int 0, .null, .null, .null, .null, .null, .null, .null, .null, .int 0, .int 0, .int 0, .int 0, .int 0, .null])), (a_q1, .inl (a_c2, 160, .inl mk_Md_init_147))] H := hP
  replace hD : va_D A [(qt, .inr (10, [.int 0, .null, .null, .null, .int 0, .null, .null, .int 0, .int 0, .int 0, .null, .null, .null, .int 0, .null, .null, .int 0, .null, .null, .int 0, .null, .null, .null, .null, .null, .null, .null, .null, .int 0, .int 0, .int 0, .int 0, .int 0, .null])), (a_q1, .inl (a_c2, 160, .inl mk_Md_init_147))] := hD
  refine lv_dup hx hb d_Md_init_148 rfl ?_
  refine lv_bipush (v := (24 : Int32)) hx hb d_Md_init_149 (by decide) ?_
  refine lv_bipush (v := (26 : Int32)) hx hb d_Md_init_151 (by decide) ?_
  refine va_iast hx hb hK hP hD hS 1 0 rfl rfl (i := (24 : Int32)) (by unfold vp_in; decide) d_Md_init_153 (fun H locs hP hD hS => ?_)
  replace hP : va_P (dC, dI) cl_All [(qt, .inr (10, [.int 0, .null, .null, .null, .int 0, .null, .null, .int 0, .int 0, .int 0, .null, .null, .null, .int 0, .null, .null, .int 0, .null, .null, .int 0, .null, .null, .null, .null, .null, .null, .null, .null, .int 0, .int 0, .int 0, .int 0, .int 0, .null])), (a_q1, .inl (a_c2, 160, .inl mk_Md_init_153))] H := hP
  replace hD : va_D A [(qt, .inr (10, [.int 0, .null, .null, .null, .int 0, .null, .null, .int 0, .int 0, .int 0, .null, .null, .null, .int 0, .null, .null, .int 0, .null, .null, .int 0, .null, .null, .null, .null, .null, .null, .null, .null, .int 0, .int 0, .int 0, .int 0, .int 0, .null])), (a_q1, .inl (a_c2, 160, .inl mk_Md_init_153))] := hD
  refine lv_dup hx hb d_Md_init_154 rfl ?_
  refine lv_bipush (v := (25 : Int32)) hx hb d_Md_init_155 (by decide) ?_
  refine lv_bipush (v := (28 : Int32)) hx hb d_Md_init_157 (by decide) ?_
  refine va_iast hx hb hK hP hD hS 1 0 rfl rfl (i := (25 : Int32)) (by unfold vp_in; decide) d_Md_init_159 (fun H locs hP hD hS => ?_)
  replace hP : va_P (dC, dI) cl_All [(qt, .inr (10, [.int 0, .null, .null, .null, .int 0, .null, .null, .int 0, .int 0, .int 0, .null, .null, .null, .int 0, .null, .null, .int 0, .null, .null, .int 0, .null, .null, .null, .null, .null, .null, .null, .null, .int 0, .int 0, .int 0, .int 0, .int 0, .null])), (a_q1, .inl (a_c2, 160, .inl mk_Md_init_159))] H := hP
  replace hD : va_D A [(qt, .inr (10, [.int 0, .null, .null, .null, .int 0, .null, .null, .int 0, .int 0, .int 0, .null, .null, .null, .int 0, .null, .null, .int 0, .null, .null, .int 0, .null, .null, .null, .null, .null, .null, .null, .null, .int 0, .int 0, .int 0, .int 0, .int 0, .null])), (a_q1, .inl (a_c2, 160, .inl mk_Md_init_159))] := hD
  refine lv_dup hx hb d_Md_init_160 rfl ?_
  refine lv_bipush (v := (26 : Int32)) hx hb d_Md_init_161 (by decide) ?_
  refine lv_bipush (v := (30 : Int32)) hx hb d_Md_init_163 (by decide) ?_
  refine va_iast hx hb hK hP hD hS 1 0 rfl rfl (i := (26 : Int32)) (by unfold vp_in; decide) d_Md_init_165 (fun H locs hP hD hS => ?_)
  replace hP : va_P (dC, dI) cl_All [(qt, .inr (10, [.int 0, .null, .null, .null, .int 0, .null, .null, .int 0, .int 0, .int 0, .null, .null, .null, .int 0, .null, .null, .int 0, .null, .null, .int 0, .null, .null, .null, .null, .null, .null, .null, .null, .int 0, .int 0, .int 0, .int 0, .int 0, .null])), (a_q1, .inl (a_c2, 160, .inl mk_Md_init_165))] H := hP
  replace hD : va_D A [(qt, .inr (10, [.int 0, .null, .null, .null, .int 0, .null, .null, .int 0, .int 0, .int 0, .null, .null, .null, .int 0, .null, .null, .int 0, .null, .null, .int 0, .null, .null, .null, .null, .null, .null, .null, .null, .int 0, .int 0, .int 0, .int 0, .int 0, .null])), (a_q1, .inl (a_c2, 160, .inl mk_Md_init_165))] := hD
  refine lv_dup hx hb d_Md_init_166 rfl ?_
  refine lv_bipush (v := (27 : Int32)) hx hb d_Md_init_167 (by decide) ?_
  refine lv_bipush (v := (30 : Int32)) hx hb d_Md_init_169 (by decide) ?_
  refine va_iast hx hb hK hP hD hS 1 0 rfl rfl (i := (27 : Int32)) (by unfold vp_in; decide) d_Md_init_171 (fun H locs hP hD hS => ?_)
  replace hP : va_P (dC, dI) cl_All [(qt, .inr (10, [.int 0, .null, .null, .null, .int 0, .null, .null, .int 0, .int 0, .int 0, .null, .null, .null, .int 0, .null, .null, .int 0, .null, .null, .int 0, .null, .null, .null, .null, .null, .null, .null, .null, .int 0, .int 0, .int 0, .int 0, .int 0, .null])), (a_q1, .inl (a_c2, 160, .inl mk_Md_init_171))] H := hP
  replace hD : va_D A [(qt, .inr (10, [.int 0, .null, .null, .null, .int 0, .null, .null, .int 0, .int 0, .int 0, .null, .null, .null, .int 0, .null, .null, .int 0, .null, .null, .int 0, .null, .null, .null, .null, .null, .null, .null, .null, .int 0, .int 0, .int 0, .int 0, .int 0, .null])), (a_q1, .inl (a_c2, 160, .inl mk_Md_init_171))] := hD
  refine lv_dup hx hb d_Md_init_172 rfl ?_
  refine lv_bipush (v := (28 : Int32)) hx hb d_Md_init_173 (by decide) ?_
  refine lv_bipush (v := (30 : Int32)) hx hb d_Md_init_175 (by decide) ?_
  refine va_iast hx hb hK hP hD hS 1 0 rfl rfl (i := (28 : Int32)) (by unfold vp_in; decide) d_Md_init_177 (fun H locs hP hD hS => ?_)
  replace hP : va_P (dC, dI) cl_All [(qt, .inr (10, [.int 0, .null, .null, .null, .int 0, .null, .null, .int 0, .int 0, .int 0, .null, .null, .null, .int 0, .null, .null, .int 0, .null, .null, .int 0, .null, .null, .null, .null, .null, .null, .null, .null, .int 0, .int 0, .int 0, .int 0, .int 0, .null])), (a_q1, .inl (a_c2, 160, .inl mk_Md_init_177))] H := hP
  replace hD : va_D A [(qt, .inr (10, [.int 0, .null, .null, .null, .int 0, .null, .null, .int 0, .int 0, .int 0, .null, .null, .null, .int 0, .null, .null, .int 0, .null, .null, .int 0, .null, .null, .null, .null, .null, .null, .null, .null, .int 0, .int 0, .int 0, .int 0, .int 0, .null])), (a_q1, .inl (a_c2, 160, .inl mk_Md_init_177))] := hD
  refine lv_dup hx hb d_Md_init_178 rfl ?_
  refine lv_bipush (v := (29 : Int32)) hx hb d_Md_init_179 (by decide) ?_
  refine lv_bipush (v := (30 : Int32)) hx hb d_Md_init_181 (by decide) ?_
  refine va_iast hx hb hK hP hD hS 1 0 rfl rfl (i := (29 : Int32)) (by unfold vp_in; decide) d_Md_init_183 (fun H locs hP hD hS => ?_)
  replace hP : va_P (dC, dI) cl_All [(qt, .inr (10, [.int 0, .null, .null, .null, .int 0, .null, .null, .int 0, .int 0, .int 0, .null, .null, .null, .int 0, .null, .null, .int 0, .null, .null, .int 0, .null, .null, .null, .null, .null, .null, .null, .null, .int 0, .int 0, .int 0, .int 0, .int 0, .null])), (a_q1, .inl (a_c2, 160, .inl mk_Md_init_183))] H := hP
  replace hD : va_D A [(qt, .inr (10, [.int 0, .null, .null, .null, .int 0, .null, .null, .int 0, .int 0, .int 0, .null, .null, .null, .int 0, .null, .null, .int 0, .null, .null, .int 0, .null, .null, .null, .null, .null, .null, .null, .null, .int 0, .int 0, .int 0, .int 0, .int 0, .null])), (a_q1, .inl (a_c2, 160, .inl mk_Md_init_183))] := hD
  refine lv_dup hx hb d_Md_init_184 rfl ?_
  refine lv_bipush (v := (30 : Int32)) hx hb d_Md_init_185 (by decide) ?_
  refine lv_bipush (v := (30 : Int32)) hx hb d_Md_init_187 (by decide) ?_
  refine va_iast hx hb hK hP hD hS 1 0 rfl rfl (i := (30 : Int32)) (by unfold vp_in; decide) d_Md_init_189 (fun H locs hP hD hS => ?_)
  replace hP : va_P (dC, dI) cl_All [(qt, .inr (10, [.int 0, .null, .null, .null, .int 0, .null, .null, .int 0, .int 0, .int 0, .null, .null, .null, .int 0, .null, .null, .int 0, .null, .null, .int 0, .null, .null, .null, .null, .null, .null, .null, .null, .int 0, .int 0, .int 0, .int 0, .int 0, .null])), (a_q1, .inl (a_c2, 160, .inl mk_Md_init_189))] H := hP
  replace hD : va_D A [(qt, .inr (10, [.int 0, .null, .null, .null, .int 0, .null, .null, .int 0, .int 0, .int 0, .null, .null, .null, .int 0, .null, .null, .int 0, .null, .null, .int 0, .null, .null, .null, .null, .null, .null, .null, .null, .int 0, .int 0, .int 0, .int 0, .int 0, .null])), (a_q1, .inl (a_c2, 160, .inl mk_Md_init_189))] := hD
  refine lv_dup hx hb d_Md_init_190 rfl ?_
  refine lv_bipush (v := (31 : Int32)) hx hb d_Md_init_191 (by decide) ?_
  refine lv_bipush (v := (30 : Int32)) hx hb d_Md_init_193 (by decide) ?_
  refine va_iast hx hb hK hP hD hS 1 0 rfl rfl (i := (31 : Int32)) (by unfold vp_in; decide) d_Md_init_195 (fun H locs hP hD hS => ?_)
  replace hP : va_P (dC, dI) cl_All [(qt, .inr (10, [.int 0, .null, .null, .null, .int 0, .null, .null, .int 0, .int 0, .int 0, .null, .null, .null, .int 0, .null, .null, .int 0, .null, .null, .int 0, .null, .null, .null, .null, .null, .null, .null, .null, .int 0, .int 0, .int 0, .int 0, .int 0, .null])), (a_q1, .inl (a_c2, 160, .inl mk_Md_init_195))] H := hP
  replace hD : va_D A [(qt, .inr (10, [.int 0, .null, .null, .null, .int 0, .null, .null, .int 0, .int 0, .int 0, .null, .null, .null, .int 0, .null, .null, .int 0, .null, .null, .int 0, .null, .null, .null, .null, .null, .null, .null, .null, .int 0, .int 0, .int 0, .int 0, .int 0, .null])), (a_q1, .inl (a_c2, 160, .inl mk_Md_init_195))] := hD
  refine lv_dup hx hb d_Md_init_196 rfl ?_
  refine lv_bipush (v := (32 : Int32)) hx hb d_Md_init_197 (by decide) ?_
  refine lv_bipush (v := (30 : Int32)) hx hb d_Md_init_199 (by decide) ?_
  refine va_iast hx hb hK hP hD hS 1 0 rfl rfl (i := (32 : Int32)) (by unfold vp_in; decide) d_Md_init_201 (fun H locs hP hD hS => ?_)
  replace hP : va_P (dC, dI) cl_All [(qt, .inr (10, [.int 0, .null, .null, .null, .int 0, .null, .null, .int 0, .int 0, .int 0, .null, .null, .null, .int 0, .null, .null, .int 0, .null, .null, .int 0, .null, .null, .null, .null, .null, .null, .null, .null, .int 0, .int 0, .int 0, .int 0, .int 0, .null])), (a_q1, .inl (a_c2, 160, .inl mk_Md_init_201))] H := hP
  replace hD : va_D A [(qt, .inr (10, [.int 0, .null, .null, .null, .int 0, .null, .null, .int 0, .int 0, .int 0, .null, .null, .null, .int 0, .null, .null, .int 0, .null, .null, .int 0, .null, .null, .null, .null, .null, .null, .null, .null, .int 0, .int 0, .int 0, .int 0, .int 0, .null])), (a_q1, .inl (a_c2, 160, .inl mk_Md_init_201))] := hD
  refine lv_dup hx hb d_Md_init_202 rfl ?_
  refine lv_bipush (v := (33 : Int32)) hx hb d_Md_init_203 (by decide) ?_
  refine lv_bipush (v := (30 : Int32)) hx hb d_Md_init_205 (by decide) ?_
  refine va_iast hx hb hK hP hD hS 1 0 rfl rfl (i := (33 : Int32)) (by unfold vp_in; decide) d_Md_init_207 (fun H locs hP hD hS => ?_)
  replace hP : va_P (dC, dI) cl_All [(qt, .inr (10, [.int 0, .null, .null, .null, .int 0, .null, .null, .int 0, .int 0, .int 0, .null, .null, .null, .int 0, .null, .null, .int 0, .null, .null, .int 0, .null, .null, .null, .null, .null, .null, .null, .null, .int 0, .int 0, .int 0, .int 0, .int 0, .null])), (a_q1, .inl (a_c2, 160, .inl mk_Md_init_207))] H := hP
  replace hD : va_D A [(qt, .inr (10, [.int 0, .null, .null, .null, .int 0, .null, .null, .int 0, .int 0, .int 0, .null, .null, .null, .int 0, .null, .null, .int 0, .null, .null, .int 0, .null, .null, .null, .null, .null, .null, .null, .null, .int 0, .int 0, .int 0, .int 0, .int 0, .null])), (a_q1, .inl (a_c2, 160, .inl mk_Md_init_207))] := hD
  refine lv_dup hx hb d_Md_init_208 rfl ?_
  refine lv_bipush (v := (34 : Int32)) hx hb d_Md_init_209 (by decide) ?_
  refine lv_bipush (v := (30 : Int32)) hx hb d_Md_init_211 (by decide) ?_
  refine va_iast hx hb hK hP hD hS 1 0 rfl rfl (i := (34 : Int32)) (by unfold vp_in; decide) d_Md_init_213 (fun H locs hP hD hS => ?_)
  replace hP : va_P (dC, dI) cl_All [(qt, .inr (10, [.int 0, .null, .null, .null, .int 0, .null, .null, .int 0, .int 0, .int 0, .null, .null, .null, .int 0, .null, .null, .int 0, .null, .null, .int 0, .null, .null, .null, .null, .null, .null, .null, .null, .int 0, .int 0, .int 0, .int 0, .int 0, .null])), (a_q1, .inl (a_c2, 160, .inl mk_Md_init_213))] H := hP
  replace hD : va_D A [(qt, .inr (10, [.int 0, .null, .null, .null, .int 0, .null, .null, .int 0, .int 0, .int 0, .null, .null, .null, .int 0, .null, .null, .int 0, .null, .null, .int 0, .null, .null, .null, .null, .null, .null, .null, .null, .int 0, .int 0, .int 0, .int 0, .int 0, .null])), (a_q1, .inl (a_c2, 160, .inl mk_Md_init_213))] := hD
  refine lv_dup hx hb d_Md_init_214 rfl ?_
  refine lv_bipush (v := (35 : Int32)) hx hb d_Md_init_215 (by decide) ?_
  refine lv_bipush (v := (30 : Int32)) hx hb d_Md_init_217 (by decide) ?_
  refine va_iast hx hb hK hP hD hS 1 0 rfl rfl (i := (35 : Int32)) (by unfold vp_in; decide) d_Md_init_219 (fun H locs hP hD hS => ?_)
  replace hP : va_P (dC, dI) cl_All [(qt, .inr (10, [.int 0, .null, .null, .null, .int 0, .null, .null, .int 0, .int 0, .int 0, .null, .null, .null, .int 0, .null, .null, .int 0, .null, .null, .int 0, .null, .null, .null, .null, .null, .null, .null, .null, .int 0, .int 0, .int 0, .int 0, .int 0, .null])), (a_q1, .inl (a_c2, 160, .inl mk_Md_init_219))] H := hP
  replace hD : va_D A [(qt, .inr (10, [.int 0, .null, .null, .null, .int 0, .null, .null, .int 0, .int 0, .int 0, .null, .null, .null, .int 0, .null, .null, .int 0, .null, .null, .int 0, .null, .null, .null, .null, .null, .null, .null, .null, .int 0, .int 0, .int 0, .int 0, .int 0, .null])), (a_q1, .inl (a_c2, 160, .inl mk_Md_init_219))] := hD
  refine lv_dup hx hb d_Md_init_220 rfl ?_
  refine lv_bipush (v := (36 : Int32)) hx hb d_Md_init_221 (by decide) ?_
  refine lv_bipush (v := (30 : Int32)) hx hb d_Md_init_223 (by decide) ?_
  refine va_iast hx hb hK hP hD hS 1 0 rfl rfl (i := (36 : Int32)) (by unfold vp_in; decide) d_Md_init_225 (fun H locs hP hD hS => ?_)
  replace hP : va_P (dC, dI) cl_All [(qt, .inr (10, [.int 0, .null, .null, .null, .int 0, .null, .null, .int 0, .int 0, .int 0, .null, .null, .null, .int 0, .null, .null, .int 0, .null, .null, .int 0, .null, .null, .null, .null, .null, .null, .null, .null, .int 0, .int 0, .int 0, .int 0, .int 0, .null])), (a_q1, .inl (a_c2, 160, .inl mk_Md_init_225))] H := hP
  replace hD : va_D A [(qt, .inr (10, [.int 0, .null, .null, .null, .int 0, .null, .null, .int 0, .int 0, .int 0, .null, .null, .null, .int 0, .null, .null, .int 0, .null, .null, .int 0, .null, .null, .null, .null, .null, .null, .null, .null, .int 0, .int 0, .int 0, .int 0, .int 0, .null])), (a_q1, .inl (a_c2, 160, .inl mk_Md_init_225))] := hD
  refine lv_dup hx hb d_Md_init_226 rfl ?_
  refine lv_bipush (v := (37 : Int32)) hx hb d_Md_init_227 (by decide) ?_
  refine lv_bipush (v := (30 : Int32)) hx hb d_Md_init_229 (by decide) ?_
  refine va_iast hx hb hK hP hD hS 1 0 rfl rfl (i := (37 : Int32)) (by unfold vp_in; decide) d_Md_init_231 (fun H locs hP hD hS => ?_)
  replace hP : va_P (dC, dI) cl_All [(qt, .inr (10, [.int 0, .null, .null, .null, .int 0, .null, .null, .int 0, .int 0, .int 0, .null, .null, .null, .int 0, .null, .null, .int 0, .null, .null, .int 0, .null, .null, .null, .null, .null, .null, .null, .null, .int 0, .int 0, .int 0, .int 0, .int 0, .null])), (a_q1, .inl (a_c2, 160, .inl mk_Md_init_231))] H := hP
  replace hD : va_D A [(qt, .inr (10, [.int 0, .null, .null, .null, .int 0, .null, .null, .int 0, .int 0, .int 0, .null, .null, .null, .int 0, .null, .null, .int 0, .null, .null, .int 0, .null, .null, .null, .null, .null, .null, .null, .null, .int 0, .int 0, .int 0, .int 0, .int 0, .null])), (a_q1, .inl (a_c2, 160, .inl mk_Md_init_231))] := hD
  refine lv_dup hx hb d_Md_init_232 rfl ?_
  refine lv_bipush (v := (38 : Int32)) hx hb d_Md_init_233 (by decide) ?_
  refine lv_bipush (v := (30 : Int32)) hx hb d_Md_init_235 (by decide) ?_
  refine va_iast hx hb hK hP hD hS 1 0 rfl rfl (i := (38 : Int32)) (by unfold vp_in; decide) d_Md_init_237 (fun H locs hP hD hS => ?_)
  replace hP : va_P (dC, dI) cl_All [(qt, .inr (10, [.int 0, .null, .null, .null, .int 0, .null, .null, .int 0, .int 0, .int 0, .null, .null, .null, .int 0, .null, .null, .int 0, .null, .null, .int 0, .null, .null, .null, .null, .null, .null, .null, .null, .int 0, .int 0, .int 0, .int 0, .int 0, .null])), (a_q1, .inl (a_c2, 160, .inl mk_Md_init_237))] H := hP
  replace hD : va_D A [(qt, .inr (10, [.int 0, .null, .null, .null, .int 0, .null, .null, .int 0, .int 0, .int 0, .null, .null, .null, .int 0, .null, .null, .int 0, .null, .null, .int 0, .null, .null, .null, .null, .null, .null, .null, .null, .int 0, .int 0, .int 0, .int 0, .int 0, .null])), (a_q1, .inl (a_c2, 160, .inl mk_Md_init_237))] := hD
  refine lv_dup hx hb d_Md_init_238 rfl ?_
  refine lv_bipush (v := (39 : Int32)) hx hb d_Md_init_239 (by decide) ?_
  refine lv_bipush (v := (30 : Int32)) hx hb d_Md_init_241 (by decide) ?_
  refine va_iast hx hb hK hP hD hS 1 0 rfl rfl (i := (39 : Int32)) (by unfold vp_in; decide) d_Md_init_243 (fun H locs hP hD hS => ?_)
  replace hP : va_P (dC, dI) cl_All [(qt, .inr (10, [.int 0, .null, .null, .null, .int 0, .null, .null, .int 0, .int 0, .int 0, .null, .null, .null, .int 0, .null, .null, .int 0, .null, .null, .int 0, .null, .null, .null, .null, .null, .null, .null, .null, .int 0, .int 0, .int 0, .int 0, .int 0, .null])), (a_q1, .inl (a_c2, 160, .inl mk_Md_init_243))] H := hP
  replace hD : va_D A [(qt, .inr (10, [.int 0, .null, .null, .null, .int 0, .null, .null, .int 0, .int 0, .int 0, .null, .null, .null, .int 0, .null, .null, .int 0, .null, .null, .int 0, .null, .null, .null, .null, .null, .null, .null, .null, .int 0, .int 0, .int 0, .int 0, .int 0, .null])), (a_q1, .inl (a_c2, 160, .inl mk_Md_init_243))] := hD
  refine lv_dup hx hb d_Md_init_244 rfl ?_
  refine lv_bipush (v := (40 : Int32)) hx hb d_Md_init_245 (by decide) ?_
  refine lv_bipush (v := (10 : Int32)) hx hb d_Md_init_247 (by decide) ?_
  refine va_iast hx hb hK hP hD hS 1 0 rfl rfl (i := (40 : Int32)) (by unfold vp_in; decide) d_Md_init_249 (fun H locs hP hD hS => ?_)
  replace hP : va_P (dC, dI) cl_All [(qt, .inr (10, [.int 0, .null, .null, .null, .int 0, .null, .null, .int 0, .int 0, .int 0, .null, .null, .null, .int 0, .null, .null, .int 0, .null, .null, .int 0, .null, .null, .null, .null, .null, .null, .null, .null, .int 0, .int 0, .int 0, .int 0, .int 0, .null])), (a_q1, .inl (a_c2, 160, .inl mk_Md_init_249))] H := hP
  replace hD : va_D A [(qt, .inr (10, [.int 0, .null, .null, .null, .int 0, .null, .null, .int 0, .int 0, .int 0, .null, .null, .null, .int 0, .null, .null, .int 0, .null, .null, .int 0, .null, .null, .null, .null, .null, .null, .null, .null, .int 0, .int 0, .int 0, .int 0, .int 0, .null])), (a_q1, .inl (a_c2, 160, .inl mk_Md_init_249))] := hD
  refine lv_dup hx hb d_Md_init_250 rfl ?_
  refine lv_bipush (v := (41 : Int32)) hx hb d_Md_init_251 (by decide) ?_
  refine lv_bipush (v := (16 : Int32)) hx hb d_Md_init_253 (by decide) ?_
  refine va_iast hx hb hK hP hD hS 1 0 rfl rfl (i := (41 : Int32)) (by unfold vp_in; decide) d_Md_init_255 (fun H locs hP hD hS => ?_)
  replace hP : va_P (dC, dI) cl_All [(qt, .inr (10, [.int 0, .null, .null, .null, .int 0, .null, .null, .int 0, .int 0, .int 0, .null, .null, .null, .int 0, .null, .null, .int 0, .null, .null, .int 0, .null, .null, .null, .null, .null, .null, .null, .null, .int 0, .int 0, .int 0, .int 0, .int 0, .null])), (a_q1, .inl (a_c2, 160, .inl mk_Md_init_255))] H := hP
  replace hD : va_D A [(qt, .inr (10, [.int 0, .null, .null, .null, .int 0, .null, .null, .int 0, .int 0, .int 0, .null, .null, .null, .int 0, .null, .null, .int 0, .null, .null, .int 0, .null, .null, .null, .null, .null, .null, .null, .null, .int 0, .int 0, .int 0, .int 0, .int 0, .null])), (a_q1, .inl (a_c2, 160, .inl mk_Md_init_255))] := hD
  refine lv_dup hx hb d_Md_init_256 rfl ?_
  refine lv_bipush (v := (42 : Int32)) hx hb d_Md_init_257 (by decide) ?_
  refine lv_bipush (v := (26 : Int32)) hx hb d_Md_init_259 (by decide) ?_
  refine va_iast hx hb hK hP hD hS 1 0 rfl rfl (i := (42 : Int32)) (by unfold vp_in; decide) d_Md_init_261 (fun H locs hP hD hS => ?_)
  replace hP : va_P (dC, dI) cl_All [(qt, .inr (10, [.int 0, .null, .null, .null, .int 0, .null, .null, .int 0, .int 0, .int 0, .null, .null, .null, .int 0, .null, .null, .int 0, .null, .null, .int 0, .null, .null, .null, .null, .null, .null, .null, .null, .int 0, .int 0, .int 0, .int 0, .int 0, .null])), (a_q1, .inl (a_c2, 160, .inl mk_Md_init_261))] H := hP
  replace hD : va_D A [(qt, .inr (10, [.int 0, .null, .null, .null, .int 0, .null, .null, .int 0, .int 0, .int 0, .null, .null, .null, .int 0, .null, .null, .int 0, .null, .null, .int 0, .null, .null, .null, .null, .null, .null, .null, .null, .int 0, .int 0, .int 0, .int 0, .int 0, .null])), (a_q1, .inl (a_c2, 160, .inl mk_Md_init_261))] := hD
  refine lv_dup hx hb d_Md_init_262 rfl ?_
  refine lv_bipush (v := (43 : Int32)) hx hb d_Md_init_263 (by decide) ?_
  refine lv_bipush (v := (18 : Int32)) hx hb d_Md_init_265 (by decide) ?_
  refine va_iast hx hb hK hP hD hS 1 0 rfl rfl (i := (43 : Int32)) (by unfold vp_in; decide) d_Md_init_267 (fun H locs hP hD hS => ?_)
  replace hP : va_P (dC, dI) cl_All [(qt, .inr (10, [.int 0, .null, .null, .null, .int 0, .null, .null, .int 0, .int 0, .int 0, .null, .null, .null, .int 0, .null, .null, .int 0, .null, .null, .int 0, .null, .null, .null, .null, .null, .null, .null, .null, .int 0, .int 0, .int 0, .int 0, .int 0, .null])), (a_q1, .inl (a_c2, 160, .inl mk_Md_init_267))] H := hP
  replace hD : va_D A [(qt, .inr (10, [.int 0, .null, .null, .null, .int 0, .null, .null, .int 0, .int 0, .int 0, .null, .null, .null, .int 0, .null, .null, .int 0, .null, .null, .int 0, .null, .null, .null, .null, .null, .null, .null, .null, .int 0, .int 0, .int 0, .int 0, .int 0, .null])), (a_q1, .inl (a_c2, 160, .inl mk_Md_init_267))] := hD
  refine lv_dup hx hb d_Md_init_268 rfl ?_
  refine lv_bipush (v := (44 : Int32)) hx hb d_Md_init_269 (by decide) ?_
  refine lv_bipush (v := (24 : Int32)) hx hb d_Md_init_271 (by decide) ?_
  refine va_iast hx hb hK hP hD hS 1 0 rfl rfl (i := (44 : Int32)) (by unfold vp_in; decide) d_Md_init_273 (fun H locs hP hD hS => ?_)
  replace hP : va_P (dC, dI) cl_All [(qt, .inr (10, [.int 0, .null, .null, .null, .int 0, .null, .null, .int 0, .int 0, .int 0, .null, .null, .null, .int 0, .null, .null, .int 0, .null, .null, .int 0, .null, .null, .null, .null, .null, .null, .null, .null, .int 0, .int 0, .int 0, .int 0, .int 0, .null])), (a_q1, .inl (a_c2, 160, .inl mk_Md_init_273))] H := hP
  replace hD : va_D A [(qt, .inr (10, [.int 0, .null, .null, .null, .int 0, .null, .null, .int 0, .int 0, .int 0, .null, .null, .null, .int 0, .null, .null, .int 0, .null, .null, .int 0, .null, .null, .null, .null, .null, .null, .null, .null, .int 0, .int 0, .int 0, .int 0, .int 0, .null])), (a_q1, .inl (a_c2, 160, .inl mk_Md_init_273))] := hD
  refine lv_dup hx hb d_Md_init_274 rfl ?_
  refine lv_bipush (v := (45 : Int32)) hx hb d_Md_init_275 (by decide) ?_
  refine lv_bipush (v := (16 : Int32)) hx hb d_Md_init_277 (by decide) ?_
  refine va_iast hx hb hK hP hD hS 1 0 rfl rfl (i := (45 : Int32)) (by unfold vp_in; decide) d_Md_init_279 (fun H locs hP hD hS => ?_)
  replace hP : va_P (dC, dI) cl_All [(qt, .inr (10, [.int 0, .null, .null, .null, .int 0, .null, .null, .int 0, .int 0, .int 0, .null, .null, .null, .int 0, .null, .null, .int 0, .null, .null, .int 0, .null, .null, .null, .null, .null, .null, .null, .null, .int 0, .int 0, .int 0, .int 0, .int 0, .null])), (a_q1, .inl (a_c2, 160, .inl mk_Md_init_279))] H := hP
  replace hD : va_D A [(qt, .inr (10, [.int 0, .null, .null, .null, .int 0, .null, .null, .int 0, .int 0, .int 0, .null, .null, .null, .int 0, .null, .null, .int 0, .null, .null, .int 0, .null, .null, .null, .null, .null, .null, .null, .null, .int 0, .int 0, .int 0, .int 0, .int 0, .null])), (a_q1, .inl (a_c2, 160, .inl mk_Md_init_279))] := hD
  refine lv_dup hx hb d_Md_init_280 rfl ?_
  refine lv_bipush (v := (46 : Int32)) hx hb d_Md_init_281 (by decide) ?_
  refine lv_bipush (v := (18 : Int32)) hx hb d_Md_init_283 (by decide) ?_
  refine va_iast hx hb hK hP hD hS 1 0 rfl rfl (i := (46 : Int32)) (by unfold vp_in; decide) d_Md_init_285 (fun H locs hP hD hS => ?_)
  replace hP : va_P (dC, dI) cl_All [(qt, .inr (10, [.int 0, .null, .null, .null, .int 0, .null, .null, .int 0, .int 0, .int 0, .null, .null, .null, .int 0, .null, .null, .int 0, .null, .null, .int 0, .null, .null, .null, .null, .null, .null, .null, .null, .int 0, .int 0, .int 0, .int 0, .int 0, .null])), (a_q1, .inl (a_c2, 160, .inl mk_Md_init_285))] H := hP
  replace hD : va_D A [(qt, .inr (10, [.int 0, .null, .null, .null, .int 0, .null, .null, .int 0, .int 0, .int 0, .null, .null, .null, .int 0, .null, .null, .int 0, .null, .null, .int 0, .null, .null, .null, .null, .null, .null, .null, .null, .int 0, .int 0, .int 0, .int 0, .int 0, .null])), (a_q1, .inl (a_c2, 160, .inl mk_Md_init_285))] := hD
  refine lv_dup hx hb d_Md_init_286 rfl ?_
  refine lv_bipush (v := (47 : Int32)) hx hb d_Md_init_287 (by decide) ?_
  refine lv_bipush (v := (22 : Int32)) hx hb d_Md_init_289 (by decide) ?_
  refine va_iast hx hb hK hP hD hS 1 0 rfl rfl (i := (47 : Int32)) (by unfold vp_in; decide) d_Md_init_291 (fun H locs hP hD hS => ?_)
  replace hP : va_P (dC, dI) cl_All [(qt, .inr (10, [.int 0, .null, .null, .null, .int 0, .null, .null, .int 0, .int 0, .int 0, .null, .null, .null, .int 0, .null, .null, .int 0, .null, .null, .int 0, .null, .null, .null, .null, .null, .null, .null, .null, .int 0, .int 0, .int 0, .int 0, .int 0, .null])), (a_q1, .inl (a_c2, 160, .inl mk_Md_init_291))] H := hP
  replace hD : va_D A [(qt, .inr (10, [.int 0, .null, .null, .null, .int 0, .null, .null, .int 0, .int 0, .int 0, .null, .null, .null, .int 0, .null, .null, .int 0, .null, .null, .int 0, .null, .null, .null, .null, .null, .null, .null, .null, .int 0, .int 0, .int 0, .int 0, .int 0, .null])), (a_q1, .inl (a_c2, 160, .inl mk_Md_init_291))] := hD
  refine lv_dup hx hb d_Md_init_292 rfl ?_
  refine lv_bipush (v := (48 : Int32)) hx hb d_Md_init_293 (by decide) ?_
  refine lv_bipush (v := (22 : Int32)) hx hb d_Md_init_295 (by decide) ?_
  refine va_iast hx hb hK hP hD hS 1 0 rfl rfl (i := (48 : Int32)) (by unfold vp_in; decide) d_Md_init_297 (fun H locs hP hD hS => ?_)
  replace hP : va_P (dC, dI) cl_All [(qt, .inr (10, [.int 0, .null, .null, .null, .int 0, .null, .null, .int 0, .int 0, .int 0, .null, .null, .null, .int 0, .null, .null, .int 0, .null, .null, .int 0, .null, .null, .null, .null, .null, .null, .null, .null, .int 0, .int 0, .int 0, .int 0, .int 0, .null])), (a_q1, .inl (a_c2, 160, .inl mk_Md_init_297))] H := hP
  replace hD : va_D A [(qt, .inr (10, [.int 0, .null, .null, .null, .int 0, .null, .null, .int 0, .int 0, .int 0, .null, .null, .null, .int 0, .null, .null, .int 0, .null, .null, .int 0, .null, .null, .null, .null, .null, .null, .null, .null, .int 0, .int 0, .int 0, .int 0, .int 0, .null])), (a_q1, .inl (a_c2, 160, .inl mk_Md_init_297))] := hD
  refine lv_dup hx hb d_Md_init_298 rfl ?_
  refine lv_bipush (v := (49 : Int32)) hx hb d_Md_init_299 (by decide) ?_
  refine lv_bipush (v := (26 : Int32)) hx hb d_Md_init_301 (by decide) ?_
  refine va_iast hx hb hK hP hD hS 1 0 rfl rfl (i := (49 : Int32)) (by unfold vp_in; decide) d_Md_init_303 (fun H locs hP hD hS => ?_)
  replace hP : va_P (dC, dI) cl_All [(qt, .inr (10, [.int 0, .null, .null, .null, .int 0, .null, .null, .int 0, .int 0, .int 0, .null, .null, .null, .int 0, .null, .null, .int 0, .null, .null, .int 0, .null, .null, .null, .null, .null, .null, .null, .null, .int 0, .int 0, .int 0, .int 0, .int 0, .null])), (a_q1, .inl (a_c2, 160, .inl mk_Md_init_303))] H := hP
  replace hD : va_D A [(qt, .inr (10, [.int 0, .null, .null, .null, .int 0, .null, .null, .int 0, .int 0, .int 0, .null, .null, .null, .int 0, .null, .null, .int 0, .null, .null, .int 0, .null, .null, .null, .null, .null, .null, .null, .null, .int 0, .int 0, .int 0, .int 0, .int 0, .null])), (a_q1, .inl (a_c2, 160, .inl mk_Md_init_303))] := hD
  refine lv_dup hx hb d_Md_init_304 rfl ?_
  refine lv_bipush (v := (50 : Int32)) hx hb d_Md_init_305 (by decide) ?_
  refine lv_bipush (v := (30 : Int32)) hx hb d_Md_init_307 (by decide) ?_
  refine va_iast hx hb hK hP hD hS 1 0 rfl rfl (i := (50 : Int32)) (by unfold vp_in; decide) d_Md_init_309 (fun H locs hP hD hS => ?_)
  replace hP : va_P (dC, dI) cl_All [(qt, .inr (10, [.int 0, .null, .null, .null, .int 0, .null, .null, .int 0, .int 0, .int 0, .null, .null, .null, .int 0, .null, .null, .int 0, .null, .null, .int 0, .null, .null, .null, .null, .null, .null, .null, .null, .int 0, .int 0, .int 0, .int 0, .int 0, .null])), (a_q1, .inl (a_c2, 160, .inl mk_Md_init_309))] H := hP
  replace hD : va_D A [(qt, .inr (10, [.int 0, .null, .null, .null, .int 0, .null, .null, .int 0, .int 0, .int 0, .null, .null, .null, .int 0, .null, .null, .int 0, .null, .null, .int 0, .null, .null, .null, .null, .null, .null, .null, .null, .int 0, .int 0, .int 0, .int 0, .int 0, .null])), (a_q1, .inl (a_c2, 160, .inl mk_Md_init_309))] := hD
  refine lv_dup hx hb d_Md_init_310 rfl ?_
  refine lv_bipush (v := (51 : Int32)) hx hb d_Md_init_311 (by decide) ?_
  refine lv_bipush (v := (22 : Int32)) hx hb d_Md_init_313 (by decide) ?_
  refine va_iast hx hb hK hP hD hS 1 0 rfl rfl (i := (51 : Int32)) (by unfold vp_in; decide) d_Md_init_315 (fun H locs hP hD hS => ?_)
  replace hP : va_P (dC, dI) cl_All [(qt, .inr (10, [.int 0, .null, .null, .null, .int 0, .null, .null, .int 0, .int 0, .int 0, .null, .null, .null, .int 0, .null, .null, .int 0, .null, .null, .int 0, .null, .null, .null, .null, .null, .null, .null, .null, .int 0, .int 0, .int 0, .int 0, .int 0, .null])), (a_q1, .inl (a_c2, 160, .inl mk_Md_init_315))] H := hP
  replace hD : va_D A [(qt, .inr (10, [.int 0, .null, .null, .null, .int 0, .null, .null, .int 0, .int 0, .int 0, .null, .null, .null, .int 0, .null, .null, .int 0, .null, .null, .int 0, .null, .null, .null, .null, .null, .null, .null, .null, .int 0, .int 0, .int 0, .int 0, .int 0, .null])), (a_q1, .inl (a_c2, 160, .inl mk_Md_init_315))] := hD
  refine lv_dup hx hb d_Md_init_316 rfl ?_
  refine lv_bipush (v := (52 : Int32)) hx hb d_Md_init_317 (by decide) ?_
  refine lv_bipush (v := (22 : Int32)) hx hb d_Md_init_319 (by decide) ?_
  refine va_iast hx hb hK hP hD hS 1 0 rfl rfl (i := (52 : Int32)) (by unfold vp_in; decide) d_Md_init_321 (fun H locs hP hD hS => ?_)
  replace hP : va_P (dC, dI) cl_All [(qt, .inr (10, [.int 0, .null, .null, .null, .int 0, .null, .null, .int 0, .int 0, .int 0, .null, .null, .null, .int 0, .null, .null, .int 0, .null, .null, .int 0, .null, .null, .null, .null, .null, .null, .null, .null, .int 0, .int 0, .int 0, .int 0, .int 0, .null])), (a_q1, .inl (a_c2, 160, .inl mk_Md_init_321))] H := hP
  replace hD : va_D A [(qt, .inr (10, [.int 0, .null, .null, .null, .int 0, .null, .null, .int 0, .int 0, .int 0, .null, .null, .null, .int 0, .null, .null, .int 0, .null, .null, .int 0, .null, .null, .null, .null, .null, .null, .null, .null, .int 0, .int 0, .int 0, .int 0, .int 0, .null])), (a_q1, .inl (a_c2, 160, .inl mk_Md_init_321))] := hD
  refine lv_dup hx hb d_Md_init_322 rfl ?_
  refine lv_bipush (v := (53 : Int32)) hx hb d_Md_init_323 (by decide) ?_
  refine lv_bipush (v := (24 : Int32)) hx hb d_Md_init_325 (by decide) ?_
  refine va_iast hx hb hK hP hD hS 1 0 rfl rfl (i := (53 : Int32)) (by unfold vp_in; decide) d_Md_init_327 (fun H locs hP hD hS => ?_)
  replace hP : va_P (dC, dI) cl_All [(qt, .inr (10, [.int 0, .null, .null, .null, .int 0, .null, .null, .int 0, .int 0, .int 0, .null, .null, .null, .int 0, .null, .null, .int 0, .null, .null, .int 0, .null, .null, .null, .null, .null, .null, .null, .null, .int 0, .int 0, .int 0, .int 0, .int 0, .null])), (a_q1, .inl (a_c2, 160, .inl mk_Md_init_327))] H := hP
  replace hD : va_D A [(qt, .inr (10, [.int 0, .null, .null, .null, .int 0, .null, .null, .int 0, .int 0, .int 0, .null, .null, .null, .int 0, .null, .null, .int 0, .null, .null, .int 0, .null, .null, .null, .null, .null, .null, .null, .null, .int 0, .int 0, .int 0, .int 0, .int 0, .null])), (a_q1, .inl (a_c2, 160, .inl mk_Md_init_327))] := hD
  refine lv_dup hx hb d_Md_init_328 rfl ?_
  refine lv_bipush (v := (54 : Int32)) hx hb d_Md_init_329 (by decide) ?_
  refine lv_bipush (v := (24 : Int32)) hx hb d_Md_init_331 (by decide) ?_
  refine va_iast hx hb hK hP hD hS 1 0 rfl rfl (i := (54 : Int32)) (by unfold vp_in; decide) d_Md_init_333 (fun H locs hP hD hS => ?_)
  replace hP : va_P (dC, dI) cl_All [(qt, .inr (10, [.int 0, .null, .null, .null, .int 0, .null, .null, .int 0, .int 0, .int 0, .null, .null, .null, .int 0, .null, .null, .int 0, .null, .null, .int 0, .null, .null, .null, .null, .null, .null, .null, .null, .int 0, .int 0, .int 0, .int 0, .int 0, .null])), (a_q1, .inl (a_c2, 160, .inl mk_Md_init_333))] H := hP
  replace hD : va_D A [(qt, .inr (10, [.int 0, .null, .null, .null, .int 0, .null, .null, .int 0, .int 0, .int 0, .null, .null, .null, .int 0, .null, .null, .int 0, .null, .null, .int 0, .null, .null, .null, .null, .null, .null, .null, .null, .int 0, .int 0, .int 0, .int 0, .int 0, .null])), (a_q1, .inl (a_c2, 160, .inl mk_Md_init_333))] := hD
  refine lv_dup hx hb d_Md_init_334 rfl ?_
  refine lv_bipush (v := (55 : Int32)) hx hb d_Md_init_335 (by decide) ?_
  refine lv_bipush (v := (28 : Int32)) hx hb d_Md_init_337 (by decide) ?_
  refine va_iast hx hb hK hP hD hS 1 0 rfl rfl (i := (55 : Int32)) (by unfold vp_in; decide) d_Md_init_339 (fun H locs hP hD hS => ?_)
  replace hP : va_P (dC, dI) cl_All [(qt, .inr (10, [.int 0, .null, .null, .null, .int 0, .null, .null, .int 0, .int 0, .int 0, .null, .null, .null, .int 0, .null, .null, .int 0, .null, .null, .int 0, .null, .null, .null, .null, .null, .null, .null, .null, .int 0, .int 0, .int 0, .int 0, .int 0, .null])), (a_q1, .inl (a_c2, 160, .inl mk_Md_init_339))] H := hP
  replace hD : va_D A [(qt, .inr (10, [.int 0, .null, .null, .null, .int 0, .null, .null, .int 0, .int 0, .int 0, .null, .null, .null, .int 0, .null, .null, .int 0, .null, .null, .int 0, .null, .null, .null, .null, .null, .null, .null, .null, .int 0, .int 0, .int 0, .int 0, .int 0, .null])), (a_q1, .inl (a_c2, 160, .inl mk_Md_init_339))] := hD
  refine lv_dup hx hb d_Md_init_340 rfl ?_
  refine lv_bipush (v := (56 : Int32)) hx hb d_Md_init_341 (by decide) ?_
  refine lv_bipush (v := (28 : Int32)) hx hb d_Md_init_343 (by decide) ?_
  refine va_iast hx hb hK hP hD hS 1 0 rfl rfl (i := (56 : Int32)) (by unfold vp_in; decide) d_Md_init_345 (fun H locs hP hD hS => ?_)
  replace hP : va_P (dC, dI) cl_All [(qt, .inr (10, [.int 0, .null, .null, .null, .int 0, .null, .null, .int 0, .int 0, .int 0, .null, .null, .null, .int 0, .null, .null, .int 0, .null, .null, .int 0, .null, .null, .null, .null, .null, .null, .null, .null, .int 0, .int 0, .int 0, .int 0, .int 0, .null])), (a_q1, .inl (a_c2, 160, .inl mk_Md_init_345))] H := hP
  replace hD : va_D A [(qt, .inr (10, [.int 0, .null, .null, .null, .int 0, .null, .null, .int 0, .int 0, .int 0, .null, .null, .null, .int 0, .null, .null, .int 0, .null, .null, .int 0, .null, .null, .null, .null, .null, .null, .null, .null, .int 0, .int 0, .int 0, .int 0, .int 0, .null])), (a_q1, .inl (a_c2, 160, .inl mk_Md_init_345))] := hD
  refine lv_dup hx hb d_Md_init_346 rfl ?_
  refine lv_bipush (v := (57 : Int32)) hx hb d_Md_init_347 (by decide) ?_
  refine lv_bipush (v := (26 : Int32)) hx hb d_Md_init_349 (by decide) ?_
  refine va_iast hx hb hK hP hD hS 1 0 rfl rfl (i := (57 : Int32)) (by unfold vp_in; decide) d_Md_init_351 (fun H locs hP hD hS => ?_)
  replace hP : va_P (dC, dI) cl_All [(qt, .inr (10, [.int 0, .null, .null, .null, .int 0, .null, .null, .int 0, .int 0, .int 0, .null, .null, .null, .int 0, .null, .null, .int 0, .null, .null, .int 0, .null, .null, .null, .null, .null, .null, .null, .null, .int 0, .int 0, .int 0, .int 0, .int 0, .null])), (a_q1, .inl (a_c2, 160, .inl mk_Md_init_351))] H := hP
  replace hD : va_D A [(qt, .inr (10, [.int 0, .null, .null, .null, .int 0, .null, .null, .int 0, .int 0, .int 0, .null, .null, .null, .int 0, .null, .null, .int 0, .null, .null, .int 0, .null, .null, .null, .null, .null, .null, .null, .null, .int 0, .int 0, .int 0, .int 0, .int 0, .null])), (a_q1, .inl (a_c2, 160, .inl mk_Md_init_351))] := hD
  refine lv_dup hx hb d_Md_init_352 rfl ?_
  refine lv_bipush (v := (58 : Int32)) hx hb d_Md_init_353 (by decide) ?_
  refine lv_bipush (v := (26 : Int32)) hx hb d_Md_init_355 (by decide) ?_
  refine va_iast hx hb hK hP hD hS 1 0 rfl rfl (i := (58 : Int32)) (by unfold vp_in; decide) d_Md_init_357 (fun H locs hP hD hS => ?_)
  replace hP : va_P (dC, dI) cl_All [(qt, .inr (10, [.int 0, .null, .null, .null, .int 0, .null, .null, .int 0, .int 0, .int 0, .null, .null, .null, .int 0, .null, .null, .int 0, .null, .null, .int 0, .null, .null, .null, .null, .null, .null, .null, .null, .int 0, .int 0, .int 0, .int 0, .int 0, .null])), (a_q1, .inl (a_c2, 160, .inl mk_Md_init_357))] H := hP
  replace hD : va_D A [(qt, .inr (10, [.int 0, .null, .null, .null, .int 0, .null, .null, .int 0, .int 0, .int 0, .null, .null, .null, .int 0, .null, .null, .int 0, .null, .null, .int 0, .null, .null, .null, .null, .null, .null, .null, .null, .int 0, .int 0, .int 0, .int 0, .int 0, .null])), (a_q1, .inl (a_c2, 160, .inl mk_Md_init_357))] := hD
  refine lv_dup hx hb d_Md_init_358 rfl ?_
  refine lv_bipush (v := (59 : Int32)) hx hb d_Md_init_359 (by decide) ?_
  refine lv_bipush (v := (26 : Int32)) hx hb d_Md_init_361 (by decide) ?_
  refine va_iast hx hb hK hP hD hS 1 0 rfl rfl (i := (59 : Int32)) (by unfold vp_in; decide) d_Md_init_363 (fun H locs hP hD hS => ?_)
  replace hP : va_P (dC, dI) cl_All [(qt, .inr (10, [.int 0, .null, .null, .null, .int 0, .null, .null, .int 0, .int 0, .int 0, .null, .null, .null, .int 0, .null, .null, .int 0, .null, .null, .int 0, .null, .null, .null, .null, .null, .null, .null, .null, .int 0, .int 0, .int 0, .int 0, .int 0, .null])), (a_q1, .inl (a_c2, 160, .inl mk_Md_init_363))] H := hP
  replace hD : va_D A [(qt, .inr (10, [.int 0, .null, .null, .null, .int 0, .null, .null, .int 0, .int 0, .int 0, .null, .null, .null, .int 0, .null, .null, .int 0, .null, .null, .int 0, .null, .null, .null, .null, .null, .null, .null, .null, .int 0, .int 0, .int 0, .int 0, .int 0, .null])), (a_q1, .inl (a_c2, 160, .inl mk_Md_init_363))] := hD
  refine lv_dup hx hb d_Md_init_364 rfl ?_
  refine lv_bipush (v := (60 : Int32)) hx hb d_Md_init_365 (by decide) ?_
  refine lv_bipush (v := (26 : Int32)) hx hb d_Md_init_367 (by decide) ?_
  refine va_iast hx hb hK hP hD hS 1 0 rfl rfl (i := (60 : Int32)) (by unfold vp_in; decide) d_Md_init_369 (fun H locs hP hD hS => ?_)
  replace hP : va_P (dC, dI) cl_All [(qt, .inr (10, [.int 0, .null, .null, .null, .int 0, .null, .null, .int 0, .int 0, .int 0, .null, .null, .null, .int 0, .null, .null, .int 0, .null, .null, .int 0, .null, .null, .null, .null, .null, .null, .null, .null, .int 0, .int 0, .int 0, .int 0, .int 0, .null])), (a_q1, .inl (a_c2, 160, .inl mk_Md_init_369))] H := hP
  replace hD : va_D A [(qt, .inr (10, [.int 0, .null, .null, .null, .int 0, .null, .null, .int 0, .int 0, .int 0, .null, .null, .null, .int 0, .null, .null, .int 0, .null, .null, .int 0, .null, .null, .null, .null, .null, .null, .null, .null, .int 0, .int 0, .int 0, .int 0, .int 0, .null])), (a_q1, .inl (a_c2, 160, .inl mk_Md_init_369))] := hD
  refine lv_dup hx hb d_Md_init_370 rfl ?_
  refine lv_bipush (v := (61 : Int32)) hx hb d_Md_init_371 (by decide) ?_
  refine lv_bipush (v := (28 : Int32)) hx hb d_Md_init_373 (by decide) ?_
  refine va_iast hx hb hK hP hD hS 1 0 rfl rfl (i := (61 : Int32)) (by unfold vp_in; decide) d_Md_init_375 (fun H locs hP hD hS => ?_)
  replace hP : va_P (dC, dI) cl_All [(qt, .inr (10, [.int 0, .null, .null, .null, .int 0, .null, .null, .int 0, .int 0, .int 0, .null, .null, .null, .int 0, .null, .null, .int 0, .null, .null, .int 0, .null, .null, .null, .null, .null, .null, .null, .null, .int 0, .int 0, .int 0, .int 0, .int 0, .null])), (a_q1, .inl (a_c2, 160, .inl mk_Md_init_375))] H := hP
  replace hD : va_D A [(qt, .inr (10, [.int 0, .null, .null, .null, .int 0, .null, .null, .int 0, .int 0, .int 0, .null, .null, .null, .int 0, .null, .null, .int 0, .null, .null, .int 0, .null, .null, .null, .null, .null, .null, .null, .null, .int 0, .int 0, .int 0, .int 0, .int 0, .null])), (a_q1, .inl (a_c2, 160, .inl mk_Md_init_375))] := hD
  refine lv_dup hx hb d_Md_init_376 rfl ?_
  refine lv_bipush (v := (62 : Int32)) hx hb d_Md_init_377 (by decide) ?_
  refine lv_bipush (v := (28 : Int32)) hx hb d_Md_init_379 (by decide) ?_
  refine va_iast hx hb hK hP hD hS 1 0 rfl rfl (i := (62 : Int32)) (by unfold vp_in; decide) d_Md_init_381 (fun H locs hP hD hS => ?_)
  replace hP : va_P (dC, dI) cl_All [(qt, .inr (10, [.int 0, .null, .null, .null, .int 0, .null, .null, .int 0, .int 0, .int 0, .null, .null, .null, .int 0, .null, .null, .int 0, .null, .null, .int 0, .null, .null, .null, .null, .null, .null, .null, .null, .int 0, .int 0, .int 0, .int 0, .int 0, .null])), (a_q1, .inl (a_c2, 160, .inl mk_Md_init_381))] H := hP
  replace hD : va_D A [(qt, .inr (10, [.int 0, .null, .null, .null, .int 0, .null, .null, .int 0, .int 0, .int 0, .null, .null, .null, .int 0, .null, .null, .int 0, .null, .null, .int 0, .null, .null, .null, .null, .null, .null, .null, .null, .int 0, .int 0, .int 0, .int 0, .int 0, .null])), (a_q1, .inl (a_c2, 160, .inl mk_Md_init_381))] := hD
  refine lv_dup hx hb d_Md_init_382 rfl ?_
  refine lv_bipush (v := (63 : Int32)) hx hb d_Md_init_383 (by decide) ?_
  refine lv_bipush (v := (28 : Int32)) hx hb d_Md_init_385 (by decide) ?_
  refine va_iast hx hb hK hP hD hS 1 0 rfl rfl (i := (63 : Int32)) (by unfold vp_in; decide) d_Md_init_387 (fun H locs hP hD hS => ?_)
  replace hP : va_P (dC, dI) cl_All [(qt, .inr (10, [.int 0, .null, .null, .null, .int 0, .null, .null, .int 0, .int 0, .int 0, .null, .null, .null, .int 0, .null, .null, .int 0, .null, .null, .int 0, .null, .null, .null, .null, .null, .null, .null, .null, .int 0, .int 0, .int 0, .int 0, .int 0, .null])), (a_q1, .inl (a_c2, 160, .inl mk_Md_init_387))] H := hP
  replace hD : va_D A [(qt, .inr (10, [.int 0, .null, .null, .null, .int 0, .null, .null, .int 0, .int 0, .int 0, .null, .null, .null, .int 0, .null, .null, .int 0, .null, .null, .int 0, .null, .null, .null, .null, .null, .null, .null, .null, .int 0, .int 0, .int 0, .int 0, .int 0, .null])), (a_q1, .inl (a_c2, 160, .inl mk_Md_init_387))] := hD
  refine lv_dup hx hb d_Md_init_388 rfl ?_
  refine lv_bipush (v := (64 : Int32)) hx hb d_Md_init_389 (by decide) ?_
  refine lv_bipush (v := (28 : Int32)) hx hb d_Md_init_391 (by decide) ?_
  refine va_iast hx hb hK hP hD hS 1 0 rfl rfl (i := (64 : Int32)) (by unfold vp_in; decide) d_Md_init_393 (fun H locs hP hD hS => ?_)
  replace hP : va_P (dC, dI) cl_All [(qt, .inr (10, [.int 0, .null, .null, .null, .int 0, .null, .null, .int 0, .int 0, .int 0, .null, .null, .null, .int 0, .null, .null, .int 0, .null, .null, .int 0, .null, .null, .null, .null, .null, .null, .null, .null, .int 0, .int 0, .int 0, .int 0, .int 0, .null])), (a_q1, .inl (a_c2, 160, .inl mk_Md_init_393))] H := hP
  replace hD : va_D A [(qt, .inr (10, [.int 0, .null, .null, .null, .int 0, .null, .null, .int 0, .int 0, .int 0, .null, .null, .null, .int 0, .null, .null, .int 0, .null, .null, .int 0, .null, .null, .null, .null, .null, .null, .null, .null, .int 0, .int 0, .int 0, .int 0, .int 0, .null])), (a_q1, .inl (a_c2, 160, .inl mk_Md_init_393))] := hD
  refine lv_dup hx hb d_Md_init_394 rfl ?_
  refine lv_bipush (v := (65 : Int32)) hx hb d_Md_init_395 (by decide) ?_
  refine lv_bipush (v := (28 : Int32)) hx hb d_Md_init_397 (by decide) ?_
  refine va_iast hx hb hK hP hD hS 1 0 rfl rfl (i := (65 : Int32)) (by unfold vp_in; decide) d_Md_init_399 (fun H locs hP hD hS => ?_)
  replace hP : va_P (dC, dI) cl_All [(qt, .inr (10, [.int 0, .null, .null, .null, .int 0, .null, .null, .int 0, .int 0, .int 0, .null, .null, .null, .int 0, .null, .null, .int 0, .null, .null, .int 0, .null, .null, .null, .null, .null, .null, .null, .null, .int 0, .int 0, .int 0, .int 0, .int 0, .null])), (a_q1, .inl (a_c2, 160, .inl mk_Md_init_399))] H := hP
  replace hD : va_D A [(qt, .inr (10, [.int 0, .null, .null, .null, .int 0, .null, .null, .int 0, .int 0, .int 0, .null, .null, .null, .int 0, .null, .null, .int 0, .null, .null, .int 0, .null, .null, .null, .null, .null, .null, .null, .null, .int 0, .int 0, .int 0, .int 0, .int 0, .null])), (a_q1, .inl (a_c2, 160, .inl mk_Md_init_399))] := hD
  refine lv_dup hx hb d_Md_init_400 rfl ?_
  refine lv_bipush (v := (66 : Int32)) hx hb d_Md_init_401 (by decide) ?_
  refine lv_bipush (v := (28 : Int32)) hx hb d_Md_init_403 (by decide) ?_
  refine va_iast hx hb hK hP hD hS 1 0 rfl rfl (i := (66 : Int32)) (by unfold vp_in; decide) d_Md_init_405 (fun H locs hP hD hS => ?_)
  replace hP : va_P (dC, dI) cl_All [(qt, .inr (10, [.int 0, .null, .null, .null, .int 0, .null, .null, .int 0, .int 0, .int 0, .null, .null, .null, .int 0, .null, .null, .int 0, .null, .null, .int 0, .null, .null, .null, .null, .null, .null, .null, .null, .int 0, .int 0, .int 0, .int 0, .int 0, .null])), (a_q1, .inl (a_c2, 160, .inl mk_Md_init_405))] H := hP
  replace hD : va_D A [(qt, .inr (10, [.int 0, .null, .null, .null, .int 0, .null, .null, .int 0, .int 0, .int 0, .null, .null, .null, .int 0, .null, .null, .int 0, .null, .null, .int 0, .null, .null, .null, .null, .null, .null, .null, .null, .int 0, .int 0, .int 0, .int 0, .int 0, .null])), (a_q1, .inl (a_c2, 160, .inl mk_Md_init_405))] := hD
  refine lv_dup hx hb d_Md_init_406 rfl ?_
  refine lv_bipush (v := (67 : Int32)) hx hb d_Md_init_407 (by decide) ?_
  refine lv_bipush (v := (28 : Int32)) hx hb d_Md_init_409 (by decide) ?_
  refine va_iast hx hb hK hP hD hS 1 0 rfl rfl (i := (67 : Int32)) (by unfold vp_in; decide) d_Md_init_411 (fun H locs hP hD hS => ?_)
  replace hP : va_P (dC, dI) cl_All [(qt, .inr (10, [.int 0, .null, .null, .null, .int 0, .null, .null, .int 0, .int 0, .int 0, .null, .null, .null, .int 0, .null, .null, .int 0, .null, .null, .int 0, .null, .null, .null, .null, .null, .null, .null, .null, .int 0, .int 0, .int 0, .int 0, .int 0, .null])), (a_q1, .inl (a_c2, 160, .inl mk_Md_init_411))] H := hP
  replace hD : va_D A [(qt, .inr (10, [.int 0, .null, .null, .null, .int 0, .null, .null, .int 0, .int 0, .int 0, .null, .null, .null, .int 0, .null, .null, .int 0, .null, .null, .int 0, .null, .null, .null, .null, .null, .null, .null, .null, .int 0, .int 0, .int 0, .int 0, .int 0, .null])), (a_q1, .inl (a_c2, 160, .inl mk_Md_init_411))] := hD
  refine lv_dup hx hb d_Md_init_412 rfl ?_
  refine lv_bipush (v := (68 : Int32)) hx hb d_Md_init_413 (by decide) ?_
  refine lv_bipush (v := (28 : Int32)) hx hb d_Md_init_415 (by decide) ?_
  refine va_iast hx hb hK hP hD hS 1 0 rfl rfl (i := (68 : Int32)) (by unfold vp_in; decide) d_Md_init_417 (fun H locs hP hD hS => ?_)
  replace hP : va_P (dC, dI) cl_All [(qt, .inr (10, [.int 0, .null, .null, .null, .int 0, .null, .null, .int 0, .int 0, .int 0, .null, .null, .null, .int 0, .null, .null, .int 0, .null, .null, .int 0, .null, .null, .null, .null, .null, .null, .null, .null, .int 0, .int 0, .int 0, .int 0, .int 0, .null])), (a_q1, .inl (a_c2, 160, .inl mk_Md_init_417))] H := hP
  replace hD : va_D A [(qt, .inr (10, [.int 0, .null, .null, .null, .int 0, .null, .null, .int 0, .int 0, .int 0, .null, .null, .null, .int 0, .null, .null, .int 0, .null, .null, .int 0, .null, .null, .null, .null, .null, .null, .null, .null, .int 0, .int 0, .int 0, .int 0, .int 0, .null])), (a_q1, .inl (a_c2, 160, .inl mk_Md_init_417))] := hD
  refine lv_dup hx hb d_Md_init_418 rfl ?_
  refine lv_bipush (v := (69 : Int32)) hx hb d_Md_init_419 (by decide) ?_
  refine lv_bipush (v := (28 : Int32)) hx hb d_Md_init_421 (by decide) ?_
  refine va_iast hx hb hK hP hD hS 1 0 rfl rfl (i := (69 : Int32)) (by unfold vp_in; decide) d_Md_init_423 (fun H locs hP hD hS => ?_)
  replace hP : va_P (dC, dI) cl_All [(qt, .inr (10, [.int 0, .null, .null, .null, .int 0, .null, .null, .int 0, .int 0, .int 0, .null, .null, .null, .int 0, .null, .null, .int 0, .null, .null, .int 0, .null, .null, .null, .null, .null, .null, .null, .null, .int 0, .int 0, .int 0, .int 0, .int 0, .null])), (a_q1, .inl (a_c2, 160, .inl mk_Md_init_423))] H := hP
  replace hD : va_D A [(qt, .inr (10, [.int 0, .null, .null, .null, .int 0, .null, .null, .int 0, .int 0, .int 0, .null, .null, .null, .int 0, .null, .null, .int 0, .null, .null, .int 0, .null, .null, .null, .null, .null, .null, .null, .null, .int 0, .int 0, .int 0, .int 0, .int 0, .null])), (a_q1, .inl (a_c2, 160, .inl mk_Md_init_423))] := hD
  refine lv_dup hx hb d_Md_init_424 rfl ?_
  refine lv_bipush (v := (70 : Int32)) hx hb d_Md_init_425 (by decide) ?_
  refine lv_bipush (v := (28 : Int32)) hx hb d_Md_init_427 (by decide) ?_
  refine va_iast hx hb hK hP hD hS 1 0 rfl rfl (i := (70 : Int32)) (by unfold vp_in; decide) d_Md_init_429 (fun H locs hP hD hS => ?_)
  replace hP : va_P (dC, dI) cl_All [(qt, .inr (10, [.int 0, .null, .null, .null, .int 0, .null, .null, .int 0, .int 0, .int 0, .null, .null, .null, .int 0, .null, .null, .int 0, .null, .null, .int 0, .null, .null, .null, .null, .null, .null, .null, .null, .int 0, .int 0, .int 0, .int 0, .int 0, .null])), (a_q1, .inl (a_c2, 160, .inl mk_Md_init_429))] H := hP
  replace hD : va_D A [(qt, .inr (10, [.int 0, .null, .null, .null, .int 0, .null, .null, .int 0, .int 0, .int 0, .null, .null, .null, .int 0, .null, .null, .int 0, .null, .null, .int 0, .null, .null, .null, .null, .null, .null, .null, .null, .int 0, .int 0, .int 0, .int 0, .int 0, .null])), (a_q1, .inl (a_c2, 160, .inl mk_Md_init_429))] := hD
  refine lv_dup hx hb d_Md_init_430 rfl ?_
  refine lv_bipush (v := (71 : Int32)) hx hb d_Md_init_431 (by decide) ?_
  refine lv_bipush (v := (28 : Int32)) hx hb d_Md_init_433 (by decide) ?_
  refine va_iast hx hb hK hP hD hS 1 0 rfl rfl (i := (71 : Int32)) (by unfold vp_in; decide) d_Md_init_435 (fun H locs hP hD hS => ?_)
  replace hP : va_P (dC, dI) cl_All [(qt, .inr (10, [.int 0, .null, .null, .null, .int 0, .null, .null, .int 0, .int 0, .int 0, .null, .null, .null, .int 0, .null, .null, .int 0, .null, .null, .int 0, .null, .null, .null, .null, .null, .null, .null, .null, .int 0, .int 0, .int 0, .int 0, .int 0, .null])), (a_q1, .inl (a_c2, 160, .inl mk_Md_init_435))] H := hP
  replace hD : va_D A [(qt, .inr (10, [.int 0, .null, .null, .null, .int 0, .null, .null, .int 0, .int 0, .int 0, .null, .null, .null, .int 0, .null, .null, .int 0, .null, .null, .int 0, .null, .null, .null, .null, .null, .null, .null, .null, .int 0, .int 0, .int 0, .int 0, .int 0, .null])), (a_q1, .inl (a_c2, 160, .inl mk_Md_init_435))] := hD
  refine lv_dup hx hb d_Md_init_436 rfl ?_
  refine lv_bipush (v := (72 : Int32)) hx hb d_Md_init_437 (by decide) ?_
  refine lv_bipush (v := (28 : Int32)) hx hb d_Md_init_439 (by decide) ?_
  refine va_iast hx hb hK hP hD hS 1 0 rfl rfl (i := (72 : Int32)) (by unfold vp_in; decide) d_Md_init_441 (fun H locs hP hD hS => ?_)
  replace hP : va_P (dC, dI) cl_All [(qt, .inr (10, [.int 0, .null, .null, .null, .int 0, .null, .null, .int 0, .int 0, .int 0, .null, .null, .null, .int 0, .null, .null, .int 0, .null, .null, .int 0, .null, .null, .null, .null, .null, .null, .null, .null, .int 0, .int 0, .int 0, .int 0, .int 0, .null])), (a_q1, .inl (a_c2, 160, .inl mk_Md_init_441))] H := hP
  replace hD : va_D A [(qt, .inr (10, [.int 0, .null, .null, .null, .int 0, .null, .null, .int 0, .int 0, .int 0, .null, .null, .null, .int 0, .null, .null, .int 0, .null, .null, .int 0, .null, .null, .null, .null, .null, .null, .null, .null, .int 0, .int 0, .int 0, .int 0, .int 0, .null])), (a_q1, .inl (a_c2, 160, .inl mk_Md_init_441))] := hD
  refine lv_dup hx hb d_Md_init_442 rfl ?_
  refine lv_bipush (v := (73 : Int32)) hx hb d_Md_init_443 (by decide) ?_
  refine lv_bipush (v := (28 : Int32)) hx hb d_Md_init_445 (by decide) ?_
  refine va_iast hx hb hK hP hD hS 1 0 rfl rfl (i := (73 : Int32)) (by unfold vp_in; decide) d_Md_init_447 (fun H locs hP hD hS => ?_)
  replace hP : va_P (dC, dI) cl_All [(qt, .inr (10, [.int 0, .null, .null, .null, .int 0, .null, .null, .int 0, .int 0, .int 0, .null, .null, .null, .int 0, .null, .null, .int 0, .null, .null, .int 0, .null, .null, .null, .null, .null, .null, .null, .null, .int 0, .int 0, .int 0, .int 0, .int 0, .null])), (a_q1, .inl (a_c2, 160, .inl mk_Md_init_447))] H := hP
  replace hD : va_D A [(qt, .inr (10, [.int 0, .null, .null, .null, .int 0, .null, .null, .int 0, .int 0, .int 0, .null, .null, .null, .int 0, .null, .null, .int 0, .null, .null, .int 0, .null, .null, .null, .null, .null, .null, .null, .null, .int 0, .int 0, .int 0, .int 0, .int 0, .null])), (a_q1, .inl (a_c2, 160, .inl mk_Md_init_447))] := hD
  refine lv_dup hx hb d_Md_init_448 rfl ?_
  refine lv_bipush (v := (74 : Int32)) hx hb d_Md_init_449 (by decide) ?_
  refine lv_bipush (v := (28 : Int32)) hx hb d_Md_init_451 (by decide) ?_
  refine va_iast hx hb hK hP hD hS 1 0 rfl rfl (i := (74 : Int32)) (by unfold vp_in; decide) d_Md_init_453 (fun H locs hP hD hS => ?_)
  replace hP : va_P (dC, dI) cl_All [(qt, .inr (10, [.int 0, .null, .null, .null, .int 0, .null, .null, .int 0, .int 0, .int 0, .null, .null, .null, .int 0, .null, .null, .int 0, .null, .null, .int 0, .null, .null, .null, .null, .null, .null, .null, .null, .int 0, .int 0, .int 0, .int 0, .int 0, .null])), (a_q1, .inl (a_c2, 160, .inl mk_Md_init_453))] H := hP
  replace hD : va_D A [(qt, .inr (10, [.int 0, .null, .null, .null, .int 0, .null, .null, .int 0, .int 0, .int 0, .null, .null, .null, .int 0, .null, .null, .int 0, .null, .null, .int 0, .null, .null, .null, .null, .null, .null, .null, .null, .int 0, .int 0, .int 0, .int 0, .int 0, .null])), (a_q1, .inl (a_c2, 160, .inl mk_Md_init_453))] := hD
  refine lv_dup hx hb d_Md_init_454 rfl ?_
  refine lv_bipush (v := (75 : Int32)) hx hb d_Md_init_455 (by decide) ?_
  refine lv_bipush (v := (28 : Int32)) hx hb d_Md_init_457 (by decide) ?_
  refine va_iast hx hb hK hP hD hS 1 0 rfl rfl (i := (75 : Int32)) (by unfold vp_in; decide) d_Md_init_459 (fun H locs hP hD hS => ?_)
  replace hP : va_P (dC, dI) cl_All [(qt, .inr (10, [.int 0, .null, .null, .null, .int 0, .null, .null, .int 0, .int 0, .int 0, .null, .null, .null, .int 0, .null, .null, .int 0, .null, .null, .int 0, .null, .null, .null, .null, .null, .null, .null, .null, .int 0, .int 0, .int 0, .int 0, .int 0, .null])), (a_q1, .inl (a_c2, 160, .inl mk_Md_init_459))] H := hP
  replace hD : va_D A [(qt, .inr (10, [.int 0, .null, .null, .null, .int 0, .null, .null, .int 0, .int 0, .int 0, .null, .null, .null, .int 0, .null, .null, .int 0, .null, .null, .int 0, .null, .null, .null, .null, .null, .null, .null, .null, .int 0, .int 0, .int 0, .int 0, .int 0, .null])), (a_q1, .inl (a_c2, 160, .inl mk_Md_init_459))] := hD
  refine lv_dup hx hb d_Md_init_460 rfl ?_
  refine lv_bipush (v := (76 : Int32)) hx hb d_Md_init_461 (by decide) ?_
  refine lv_bipush (v := (28 : Int32)) hx hb d_Md_init_463 (by decide) ?_
  refine va_iast hx hb hK hP hD hS 1 0 rfl rfl (i := (76 : Int32)) (by unfold vp_in; decide) d_Md_init_465 (fun H locs hP hD hS => ?_)
  replace hP : va_P (dC, dI) cl_All [(qt, .inr (10, [.int 0, .null, .null, .null, .int 0, .null, .null, .int 0, .int 0, .int 0, .null, .null, .null, .int 0, .null, .null, .int 0, .null, .null, .int 0, .null, .null, .null, .null, .null, .null, .null, .null, .int 0, .int 0, .int 0, .int 0, .int 0, .null])), (a_q1, .inl (a_c2, 160, .inl mk_Md_init_465))] H := hP
  replace hD : va_D A [(qt, .inr (10, [.int 0, .null, .null, .null, .int 0, .null, .null, .int 0, .int 0, .int 0, .null, .null, .null, .int 0, .null, .null, .int 0, .null, .null, .int 0, .null, .null, .null, .null, .null, .null, .null, .null, .int 0, .int 0, .int 0, .int 0, .int 0, .null])), (a_q1, .inl (a_c2, 160, .inl mk_Md_init_465))] := hD
  refine lv_dup hx hb d_Md_init_466 rfl ?_
  refine lv_bipush (v := (77 : Int32)) hx hb d_Md_init_467 (by decide) ?_
  refine lv_bipush (v := (28 : Int32)) hx hb d_Md_init_469 (by decide) ?_
  refine va_iast hx hb hK hP hD hS 1 0 rfl rfl (i := (77 : Int32)) (by unfold vp_in; decide) d_Md_init_471 (fun H locs hP hD hS => ?_)
  replace hP : va_P (dC, dI) cl_All [(qt, .inr (10, [.int 0, .null, .null, .null, .int 0, .null, .null, .int 0, .int 0, .int 0, .null, .null, .null, .int 0, .null, .null, .int 0, .null, .null, .int 0, .null, .null, .null, .null, .null, .null, .null, .null, .int 0, .int 0, .int 0, .int 0, .int 0, .null])), (a_q1, .inl (a_c2, 160, .inl mk_Md_init_471))] H := hP
  replace hD : va_D A [(qt, .inr (10, [.int 0, .null, .null, .null, .int 0, .null, .null, .int 0, .int 0, .int 0, .null, .null, .null, .int 0, .null, .null, .int 0, .null, .null, .int 0, .null, .null, .null, .null, .null, .null, .null, .null, .int 0, .int 0, .int 0, .int 0, .int 0, .null])), (a_q1, .inl (a_c2, 160, .inl mk_Md_init_471))] := hD
  refine lv_dup hx hb d_Md_init_472 rfl ?_
  refine lv_bipush (v := (78 : Int32)) hx hb d_Md_init_473 (by decide) ?_
  refine lv_bipush (v := (28 : Int32)) hx hb d_Md_init_475 (by decide) ?_
  refine va_iast hx hb hK hP hD hS 1 0 rfl rfl (i := (78 : Int32)) (by unfold vp_in; decide) d_Md_init_477 (fun H locs hP hD hS => ?_)
  replace hP : va_P (dC, dI) cl_All [(qt, .inr (10, [.int 0, .null, .null, .null, .int 0, .null, .null, .int 0, .int 0, .int 0, .null, .null, .null, .int 0, .null, .null, .int 0, .null, .null, .int 0, .null, .null, .null, .null, .null, .null, .null, .null, .int 0, .int 0, .int 0, .int 0, .int 0, .null])), (a_q1, .inl (a_c2, 160, .inl mk_Md_init_477))] H := hP
  replace hD : va_D A [(qt, .inr (10, [.int 0, .null, .null, .null, .int 0, .null, .null, .int 0, .int 0, .int 0, .null, .null, .null, .int 0, .null, .null, .int 0, .null, .null, .int 0, .null, .null, .null, .null, .null, .null, .null, .null, .int 0, .int 0, .int 0, .int 0, .int 0, .null])), (a_q1, .inl (a_c2, 160, .inl mk_Md_init_477))] := hD
  refine lv_dup hx hb d_Md_init_478 rfl ?_
  refine lv_bipush (v := (79 : Int32)) hx hb d_Md_init_479 (by decide) ?_
  refine lv_bipush (v := (28 : Int32)) hx hb d_Md_init_481 (by decide) ?_
  refine va_iast hx hb hK hP hD hS 1 0 rfl rfl (i := (79 : Int32)) (by unfold vp_in; decide) d_Md_init_483 (fun H locs hP hD hS => ?_)
  replace hP : va_P (dC, dI) cl_All [(qt, .inr (10, [.int 0, .null, .null, .null, .int 0, .null, .null, .int 0, .int 0, .int 0, .null, .null, .null, .int 0, .null, .null, .int 0, .null, .null, .int 0, .null, .null, .null, .null, .null, .null, .null, .null, .int 0, .int 0, .int 0, .int 0, .int 0, .null])), (a_q1, .inl (a_c2, 160, .inl mk_Md_init_483))] H := hP
  replace hD : va_D A [(qt, .inr (10, [.int 0, .null, .null, .null, .int 0, .null, .null, .int 0, .int 0, .int 0, .null, .null, .null, .int 0, .null, .null, .int 0, .null, .null, .int 0, .null, .null, .null, .null, .null, .null, .null, .null, .int 0, .int 0, .int 0, .int 0, .int 0, .null])), (a_q1, .inl (a_c2, 160, .inl mk_Md_init_483))] := hD
  refine lv_dup hx hb d_Md_init_484 rfl ?_
  refine lv_bipush (v := (80 : Int32)) hx hb d_Md_init_485 (by decide) ?_
  refine lv_bipush (v := (13 : Int32)) hx hb d_Md_init_487 (by decide) ?_
  refine va_iast hx hb hK hP hD hS 1 0 rfl rfl (i := (80 : Int32)) (by unfold vp_in; decide) d_Md_init_489 (fun H locs hP hD hS => ?_)
  replace hP : va_P (dC, dI) cl_All [(qt, .inr (10, [.int 0, .null, .null, .null, .int 0, .null, .null, .int 0, .int 0, .int 0, .null, .null, .null, .int 0, .null, .null, .int 0, .null, .null, .int 0, .null, .null, .null, .null, .null, .null, .null, .null, .int 0, .int 0, .int 0, .int 0, .int 0, .null])), (a_q1, .inl (a_c2, 160, .inl mk_Md_init_489))] H := hP
  replace hD : va_D A [(qt, .inr (10, [.int 0, .null, .null, .null, .int 0, .null, .null, .int 0, .int 0, .int 0, .null, .null, .null, .int 0, .null, .null, .int 0, .null, .null, .int 0, .null, .null, .null, .null, .null, .null, .null, .null, .int 0, .int 0, .int 0, .int 0, .int 0, .null])), (a_q1, .inl (a_c2, 160, .inl mk_Md_init_489))] := hD
  refine lv_dup hx hb d_Md_init_490 rfl ?_
  refine lv_bipush (v := (81 : Int32)) hx hb d_Md_init_491 (by decide) ?_
  refine lv_bipush (v := (22 : Int32)) hx hb d_Md_init_493 (by decide) ?_
  refine va_iast hx hb hK hP hD hS 1 0 rfl rfl (i := (81 : Int32)) (by unfold vp_in; decide) d_Md_init_495 (fun H locs hP hD hS => ?_)
  replace hP : va_P (dC, dI) cl_All [(qt, .inr (10, [.int 0, .null, .null, .null, .int 0, .null, .null, .int 0, .int 0, .int 0, .null, .null, .null, .int 0, .null, .null, .int 0, .null, .null, .int 0, .null, .null, .null, .null, .null, .null, .null, .null, .int 0, .int 0, .int 0, .int 0, .int 0, .null])), (a_q1, .inl (a_c2, 160, .inl mk_Md_init_495))] H := hP
  replace hD : va_D A [(qt, .inr (10, [.int 0, .null, .null, .null, .int 0, .null, .null, .int 0, .int 0, .int 0, .null, .null, .null, .int 0, .null, .null, .int 0, .null, .null, .int 0, .null, .null, .null, .null, .null, .null, .null, .null, .int 0, .int 0, .int 0, .int 0, .int 0, .null])), (a_q1, .inl (a_c2, 160, .inl mk_Md_init_495))] := hD
  refine lv_dup hx hb d_Md_init_496 rfl ?_
  refine lv_bipush (v := (82 : Int32)) hx hb d_Md_init_497 (by decide) ?_
  refine lv_bipush (v := (18 : Int32)) hx hb d_Md_init_499 (by decide) ?_
  refine va_iast hx hb hK hP hD hS 1 0 rfl rfl (i := (82 : Int32)) (by unfold vp_in; decide) d_Md_init_501 (fun H locs hP hD hS => ?_)
  replace hP : va_P (dC, dI) cl_All [(qt, .inr (10, [.int 0, .null, .null, .null, .int 0, .null, .null, .int 0, .int 0, .int 0, .null, .null, .null, .int 0, .null, .null, .int 0, .null, .null, .int 0, .null, .null, .null, .null, .null, .null, .null, .null, .int 0, .int 0, .int 0, .int 0, .int 0, .null])), (a_q1, .inl (a_c2, 160, .inl mk_Md_init_501))] H := hP
  replace hD : va_D A [(qt, .inr (10, [.int 0, .null, .null, .null, .int 0, .null, .null, .int 0, .int 0, .int 0, .null, .null, .null, .int 0, .null, .null, .int 0, .null, .null, .int 0, .null, .null, .null, .null, .null, .null, .null, .null, .int 0, .int 0, .int 0, .int 0, .int 0, .null])), (a_q1, .inl (a_c2, 160, .inl mk_Md_init_501))] := hD
  refine lv_dup hx hb d_Md_init_502 rfl ?_
  refine lv_bipush (v := (83 : Int32)) hx hb d_Md_init_503 (by decide) ?_
  refine lv_bipush (v := (26 : Int32)) hx hb d_Md_init_505 (by decide) ?_
  refine va_iast hx hb hK hP hD hS 1 0 rfl rfl (i := (83 : Int32)) (by unfold vp_in; decide) d_Md_init_507 (fun H locs hP hD hS => ?_)
  replace hP : va_P (dC, dI) cl_All [(qt, .inr (10, [.int 0, .null, .null, .null, .int 0, .null, .null, .int 0, .int 0, .int 0, .null, .null, .null, .int 0, .null, .null, .int 0, .null, .null, .int 0, .null, .null, .null, .null, .null, .null, .null, .null, .int 0, .int 0, .int 0, .int 0, .int 0, .null])), (a_q1, .inl (a_c2, 160, .inl mk_Md_init_507))] H := hP
  replace hD : va_D A [(qt, .inr (10, [.int 0, .null, .null, .null, .int 0, .null, .null, .int 0, .int 0, .int 0, .null, .null, .null, .int 0, .null, .null, .int 0, .null, .null, .int 0, .null, .null, .null, .null, .null, .null, .null, .null, .int 0, .int 0, .int 0, .int 0, .int 0, .null])), (a_q1, .inl (a_c2, 160, .inl mk_Md_init_507))] := hD
  refine lv_dup hx hb d_Md_init_508 rfl ?_
  refine lv_bipush (v := (84 : Int32)) hx hb d_Md_init_509 (by decide) ?_
  refine lv_bipush (v := (18 : Int32)) hx hb d_Md_init_511 (by decide) ?_
  refine va_iast hx hb hK hP hD hS 1 0 rfl rfl (i := (84 : Int32)) (by unfold vp_in; decide) d_Md_init_513 (fun H locs hP hD hS => ?_)
  replace hP : va_P (dC, dI) cl_All [(qt, .inr (10, [.int 0, .null, .null, .null, .int 0, .null, .null, .int 0, .int 0, .int 0, .null, .null, .null, .int 0, .null, .null, .int 0, .null, .null, .int 0, .null, .null, .null, .null, .null, .null, .null, .null, .int 0, .int 0, .int 0, .int 0, .int 0, .null])), (a_q1, .inl (a_c2, 160, .inl mk_Md_init_513))] H := hP
  replace hD : va_D A [(qt, .inr (10, [.int 0, .null, .null, .null, .int 0, .null, .null, .int 0, .int 0, .int 0, .null, .null, .null, .int 0, .null, .null, .int 0, .null, .null, .int 0, .null, .null, .null, .null, .null, .null, .null, .null, .int 0, .int 0, .int 0, .int 0, .int 0, .null])), (a_q1, .inl (a_c2, 160, .inl mk_Md_init_513))] := hD
  refine lv_dup hx hb d_Md_init_514 rfl ?_
  refine lv_bipush (v := (85 : Int32)) hx hb d_Md_init_515 (by decide) ?_
  refine lv_bipush (v := (24 : Int32)) hx hb d_Md_init_517 (by decide) ?_
  refine va_iast hx hb hK hP hD hS 1 0 rfl rfl (i := (85 : Int32)) (by unfold vp_in; decide) d_Md_init_519 (fun H locs hP hD hS => ?_)
  replace hP : va_P (dC, dI) cl_All [(qt, .inr (10, [.int 0, .null, .null, .null, .int 0, .null, .null, .int 0, .int 0, .int 0, .null, .null, .null, .int 0, .null, .null, .int 0, .null, .null, .int 0, .null, .null, .null, .null, .null, .null, .null, .null, .int 0, .int 0, .int 0, .int 0, .int 0, .null])), (a_q1, .inl (a_c2, 160, .inl mk_Md_init_519))] H := hP
  replace hD : va_D A [(qt, .inr (10, [.int 0, .null, .null, .null, .int 0, .null, .null, .int 0, .int 0, .int 0, .null, .null, .null, .int 0, .null, .null, .int 0, .null, .null, .int 0, .null, .null, .null, .null, .null, .null, .null, .null, .int 0, .int 0, .int 0, .int 0, .int 0, .null])), (a_q1, .inl (a_c2, 160, .inl mk_Md_init_519))] := hD
  refine lv_dup hx hb d_Md_init_520 rfl ?_
  refine lv_bipush (v := (86 : Int32)) hx hb d_Md_init_521 (by decide) ?_
  refine lv_bipush (v := (18 : Int32)) hx hb d_Md_init_523 (by decide) ?_
  refine va_iast hx hb hK hP hD hS 1 0 rfl rfl (i := (86 : Int32)) (by unfold vp_in; decide) d_Md_init_525 (fun H locs hP hD hS => ?_)
  replace hP : va_P (dC, dI) cl_All [(qt, .inr (10, [.int 0, .null, .null, .null, .int 0, .null, .null, .int 0, .int 0, .int 0, .null, .null, .null, .int 0, .null, .null, .int 0, .null, .null, .int 0, .null, .null, .null, .null, .null, .null, .null, .null, .int 0, .int 0, .int 0, .int 0, .int 0, .null])), (a_q1, .inl (a_c2, 160, .inl mk_Md_init_525))] H := hP
  replace hD : va_D A [(qt, .inr (10, [.int 0, .null, .null, .null, .int 0, .null, .null, .int 0, .int 0, .int 0, .null, .null, .null, .int 0, .null, .null, .int 0, .null, .null, .int 0, .null, .null, .null, .null, .null, .null, .null, .null, .int 0, .int 0, .int 0, .int 0, .int 0, .null])), (a_q1, .inl (a_c2, 160, .inl mk_Md_init_525))] := hD
  refine lv_dup hx hb d_Md_init_526 rfl ?_
  refine lv_bipush (v := (87 : Int32)) hx hb d_Md_init_527 (by decide) ?_
  refine lv_bipush (v := (22 : Int32)) hx hb d_Md_init_529 (by decide) ?_
  refine va_iast hx hb hK hP hD hS 1 0 rfl rfl (i := (87 : Int32)) (by unfold vp_in; decide) d_Md_init_531 (fun H locs hP hD hS => ?_)
  replace hP : va_P (dC, dI) cl_All [(qt, .inr (10, [.int 0, .null, .null, .null, .int 0, .null, .null, .int 0, .int 0, .int 0, .null, .null, .null, .int 0, .null, .null, .int 0, .null, .null, .int 0, .null, .null, .null, .null, .null, .null, .null, .null, .int 0, .int 0, .int 0, .int 0, .int 0, .null])), (a_q1, .inl (a_c2, 160, .inl mk_Md_init_531))] H := hP
  replace hD : va_D A [(qt, .inr (10, [.int 0, .null, .null, .null, .int 0, .null, .null, .int 0, .int 0, .int 0, .null, .null, .null, .int 0, .null, .null, .int 0, .null, .null, .int 0, .null, .null, .null, .null, .null, .null, .null, .null, .int 0, .int 0, .int 0, .int 0, .int 0, .null])), (a_q1, .inl (a_c2, 160, .inl mk_Md_init_531))] := hD
  refine lv_dup hx hb d_Md_init_532 rfl ?_
  refine lv_bipush (v := (88 : Int32)) hx hb d_Md_init_533 (by decide) ?_
  refine lv_bipush (v := (20 : Int32)) hx hb d_Md_init_535 (by decide) ?_
  refine va_iast hx hb hK hP hD hS 1 0 rfl rfl (i := (88 : Int32)) (by unfold vp_in; decide) d_Md_init_537 (fun H locs hP hD hS => ?_)
  replace hP : va_P (dC, dI) cl_All [(qt, .inr (10, [.int 0, .null, .null, .null, .int 0, .null, .null, .int 0, .int 0, .int 0, .null, .null, .null, .int 0, .null, .null, .int 0, .null, .null, .int 0, .null, .null, .null, .null, .null, .null, .null, .null, .int 0, .int 0, .int 0, .int 0, .int 0, .null])), (a_q1, .inl (a_c2, 160, .inl mk_Md_init_537))] H := hP
  replace hD : va_D A [(qt, .inr (10, [.int 0, .null, .null, .null, .int 0, .null, .null, .int 0, .int 0, .int 0, .null, .null, .null, .int 0, .null, .null, .int 0, .null, .null, .int 0, .null, .null, .null, .null, .null, .null, .null, .null, .int 0, .int 0, .int 0, .int 0, .int 0, .null])), (a_q1, .inl (a_c2, 160, .inl mk_Md_init_537))] := hD
  refine lv_dup hx hb d_Md_init_538 rfl ?_
  refine lv_bipush (v := (89 : Int32)) hx hb d_Md_init_539 (by decide) ?_
  refine lv_bipush (v := (24 : Int32)) hx hb d_Md_init_541 (by decide) ?_
  refine va_iast hx hb hK hP hD hS 1 0 rfl rfl (i := (89 : Int32)) (by unfold vp_in; decide) d_Md_init_543 (fun H locs hP hD hS => ?_)
  replace hP : va_P (dC, dI) cl_All [(qt, .inr (10, [.int 0, .null, .null, .null, .int 0, .null, .null, .int 0, .int 0, .int 0, .null, .null, .null, .int 0, .null, .null, .int 0, .null, .null, .int 0, .null, .null, .null, .null, .null, .null, .null, .null, .int 0, .int 0, .int 0, .int 0, .int 0, .null])), (a_q1, .inl (a_c2, 160, .inl mk_Md_init_543))] H := hP
  replace hD : va_D A [(qt, .inr (10, [.int 0, .null, .null, .null, .int 0, .null, .null, .int 0, .int 0, .int 0, .null, .null, .null, .int 0, .null, .null, .int 0, .null, .null, .int 0, .null, .null, .null, .null, .null, .null, .null, .null, .int 0, .int 0, .int 0, .int 0, .int 0, .null])), (a_q1, .inl (a_c2, 160, .inl mk_Md_init_543))] := hD
  refine lv_dup hx hb d_Md_init_544 rfl ?_
  refine lv_bipush (v := (90 : Int32)) hx hb d_Md_init_545 (by decide) ?_
  refine lv_bipush (v := (28 : Int32)) hx hb d_Md_init_547 (by decide) ?_
  refine va_iast hx hb hK hP hD hS 1 0 rfl rfl (i := (90 : Int32)) (by unfold vp_in; decide) d_Md_init_549 (fun H locs hP hD hS => ?_)
  replace hP : va_P (dC, dI) cl_All [(qt, .inr (10, [.int 0, .null, .null, .null, .int 0, .null, .null, .int 0, .int 0, .int 0, .null, .null, .null, .int 0, .null, .null, .int 0, .null, .null, .int 0, .null, .null, .null, .null, .null, .null, .null, .null, .int 0, .int 0, .int 0, .int 0, .int 0, .null])), (a_q1, .inl (a_c2, 160, .inl mk_Md_init_549))] H := hP
  replace hD : va_D A [(qt, .inr (10, [.int 0, .null, .null, .null, .int 0, .null, .null, .int 0, .int 0, .int 0, .null, .null, .null, .int 0, .null, .null, .int 0, .null, .null, .int 0, .null, .null, .null, .null, .null, .null, .null, .null, .int 0, .int 0, .int 0, .int 0, .int 0, .null])), (a_q1, .inl (a_c2, 160, .inl mk_Md_init_549))] := hD
  refine lv_dup hx hb d_Md_init_550 rfl ?_
  refine lv_bipush (v := (91 : Int32)) hx hb d_Md_init_551 (by decide) ?_
  refine lv_bipush (v := (26 : Int32)) hx hb d_Md_init_553 (by decide) ?_
  refine va_iast hx hb hK hP hD hS 1 0 rfl rfl (i := (91 : Int32)) (by unfold vp_in; decide) d_Md_init_555 (fun H locs hP hD hS => ?_)
  replace hP : va_P (dC, dI) cl_All [(qt, .inr (10, [.int 0, .null, .null, .null, .int 0, .null, .null, .int 0, .int 0, .int 0, .null, .null, .null, .int 0, .null, .null, .int 0, .null, .null, .int 0, .null, .null, .null, .null, .null, .null, .null, .null, .int 0, .int 0, .int 0, .int 0, .int 0, .null])), (a_q1, .inl (a_c2, 160, .inl mk_Md_init_555))] H := hP
  replace hD : va_D A [(qt, .inr (10, [.int 0, .null, .null, .null, .int 0, .null, .null, .int 0, .int 0, .int 0, .null, .null, .null, .int 0, .null, .null, .int 0, .null, .null, .int 0, .null, .null, .null, .null, .null, .null, .null, .null, .int 0, .int 0, .int 0, .int 0, .int 0, .null])), (a_q1, .inl (a_c2, 160, .inl mk_Md_init_555))] := hD
  refine lv_dup hx hb d_Md_init_556 rfl ?_
  refine lv_bipush (v := (92 : Int32)) hx hb d_Md_init_557 (by decide) ?_
  refine lv_bipush (v := (24 : Int32)) hx hb d_Md_init_559 (by decide) ?_
  refine va_iast hx hb hK hP hD hS 1 0 rfl rfl (i := (92 : Int32)) (by unfold vp_in; decide) d_Md_init_561 (fun H locs hP hD hS => ?_)
  replace hP : va_P (dC, dI) cl_All [(qt, .inr (10, [.int 0, .null, .null, .null, .int 0, .null, .null, .int 0, .int 0, .int 0, .null, .null, .null, .int 0, .null, .null, .int 0, .null, .null, .int 0, .null, .null, .null, .null, .null, .null, .null, .null, .int 0, .int 0, .int 0, .int 0, .int 0, .null])), (a_q1, .inl (a_c2, 160, .inl mk_Md_init_561))] H := hP
  replace hD : va_D A [(qt, .inr (10, [.int 0, .null, .null, .null, .int 0, .null, .null, .int 0, .int 0, .int 0, .null, .null, .null, .int 0, .null, .null, .int 0, .null, .null, .int 0, .null, .null, .null, .null, .null, .null, .null, .null, .int 0, .int 0, .int 0, .int 0, .int 0, .null])), (a_q1, .inl (a_c2, 160, .inl mk_Md_init_561))] := hD
  refine lv_dup hx hb d_Md_init_562 rfl ?_
  refine lv_bipush (v := (93 : Int32)) hx hb d_Md_init_563 (by decide) ?_
  refine lv_bipush (v := (20 : Int32)) hx hb d_Md_init_565 (by decide) ?_
  refine va_iast hx hb hK hP hD hS 1 0 rfl rfl (i := (93 : Int32)) (by unfold vp_in; decide) d_Md_init_567 (fun H locs hP hD hS => ?_)
  replace hP : va_P (dC, dI) cl_All [(qt, .inr (10, [.int 0, .null, .null, .null, .int 0, .null, .null, .int 0, .int 0, .int 0, .null, .null, .null, .int 0, .null, .null, .int 0, .null, .null, .int 0, .null, .null, .null, .null, .null, .null, .null, .null, .int 0, .int 0, .int 0, .int 0, .int 0, .null])), (a_q1, .inl (a_c2, 160, .inl mk_Md_init_567))] H := hP
  replace hD : va_D A [(qt, .inr (10, [.int 0, .null, .null, .null, .int 0, .null, .null, .int 0, .int 0, .int 0, .null, .null, .null, .int 0, .null, .null, .int 0, .null, .null, .int 0, .null, .null, .null, .null, .null, .null, .null, .null, .int 0, .int 0, .int 0, .int 0, .int 0, .null])), (a_q1, .inl (a_c2, 160, .inl mk_Md_init_567))] := hD
  refine lv_dup hx hb d_Md_init_568 rfl ?_
  refine lv_bipush (v := (94 : Int32)) hx hb d_Md_init_569 (by decide) ?_
  refine lv_bipush (v := (30 : Int32)) hx hb d_Md_init_571 (by decide) ?_
  refine va_iast hx hb hK hP hD hS 1 0 rfl rfl (i := (94 : Int32)) (by unfold vp_in; decide) d_Md_init_573 (fun H locs hP hD hS => ?_)
  replace hP : va_P (dC, dI) cl_All [(qt, .inr (10, [.int 0, .null, .null, .null, .int 0, .null, .null, .int 0, .int 0, .int 0, .null, .null, .null, .int 0, .null, .null, .int 0, .null, .null, .int 0, .null, .null, .null, .null, .null, .null, .null, .null, .int 0, .int 0, .int 0, .int 0, .int 0, .null])), (a_q1, .inl (a_c2, 160, .inl mk_Md_init_573))] H := hP
  replace hD : va_D A [(qt, .inr (10, [.int 0, .null, .null, .null, .int 0, .null, .null, .int 0, .int 0, .int 0, .null, .null, .null, .int 0, .null, .null, .int 0, .null, .null, .int 0, .null, .null, .null, .null, .null, .null, .null, .null, .int 0, .int 0, .int 0, .int 0, .int 0, .null])), (a_q1, .inl (a_c2, 160, .inl mk_Md_init_573))] := hD
  refine lv_dup hx hb d_Md_init_574 rfl ?_
  refine lv_bipush (v := (95 : Int32)) hx hb d_Md_init_575 (by decide) ?_
  refine lv_bipush (v := (24 : Int32)) hx hb d_Md_init_577 (by decide) ?_
  refine va_iast hx hb hK hP hD hS 1 0 rfl rfl (i := (95 : Int32)) (by unfold vp_in; decide) d_Md_init_579 (fun H locs hP hD hS => ?_)
  replace hP : va_P (dC, dI) cl_All [(qt, .inr (10, [.int 0, .null, .null, .null, .int 0, .null, .null, .int 0, .int 0, .int 0, .null, .null, .null, .int 0, .null, .null, .int 0, .null, .null, .int 0, .null, .null, .null, .null, .null, .null, .null, .null, .int 0, .int 0, .int 0, .int 0, .int 0, .null])), (a_q1, .inl (a_c2, 160, .inl mk_Md_init_579))] H := hP
  replace hD : va_D A [(qt, .inr (10, [.int 0, .null, .null, .null, .int 0, .null, .null, .int 0, .int 0, .int 0, .null, .null, .null, .int 0, .null, .null, .int 0, .null, .null, .int 0, .null, .null, .null, .null, .null, .null, .null, .null, .int 0, .int 0, .int 0, .int 0, .int 0, .null])), (a_q1, .inl (a_c2, 160, .inl mk_Md_init_579))] := hD
  refine lv_dup hx hb d_Md_init_580 rfl ?_
  refine lv_bipush (v := (96 : Int32)) hx hb d_Md_init_581 (by decide) ?_
  refine lv_bipush (v := (28 : Int32)) hx hb d_Md_init_583 (by decide) ?_
  refine va_iast hx hb hK hP hD hS 1 0 rfl rfl (i := (96 : Int32)) (by unfold vp_in; decide) d_Md_init_585 (fun H locs hP hD hS => ?_)
  replace hP : va_P (dC, dI) cl_All [(qt, .inr (10, [.int 0, .null, .null, .null, .int 0, .null, .null, .int 0, .int 0, .int 0, .null, .null, .null, .int 0, .null, .null, .int 0, .null, .null, .int 0, .null, .null, .null, .null, .null, .null, .null, .null, .int 0, .int 0, .int 0, .int 0, .int 0, .null])), (a_q1, .inl (a_c2, 160, .inl mk_Md_init_585))] H := hP
  replace hD : va_D A [(qt, .inr (10, [.int 0, .null, .null, .null, .int 0, .null, .null, .int 0, .int 0, .int 0, .null, .null, .null, .int 0, .null, .null, .int 0, .null, .null, .int 0, .null, .null, .null, .null, .null, .null, .null, .null, .int 0, .int 0, .int 0, .int 0, .int 0, .null])), (a_q1, .inl (a_c2, 160, .inl mk_Md_init_585))] := hD
  refine lv_dup hx hb d_Md_init_586 rfl ?_
  refine lv_bipush (v := (97 : Int32)) hx hb d_Md_init_587 (by decide) ?_
  refine lv_bipush (v := (28 : Int32)) hx hb d_Md_init_589 (by decide) ?_
  refine va_iast hx hb hK hP hD hS 1 0 rfl rfl (i := (97 : Int32)) (by unfold vp_in; decide) d_Md_init_591 (fun H locs hP hD hS => ?_)
  replace hP : va_P (dC, dI) cl_All [(qt, .inr (10, [.int 0, .null, .null, .null, .int 0, .null, .null, .int 0, .int 0, .int 0, .null, .null, .null, .int 0, .null, .null, .int 0, .null, .null, .int 0, .null, .null, .null, .null, .null, .null, .null, .null, .int 0, .int 0, .int 0, .int 0, .int 0, .null])), (a_q1, .inl (a_c2, 160, .inl mk_Md_init_591))] H := hP
  replace hD : va_D A [(qt, .inr (10, [.int 0, .null, .null, .null, .int 0, .null, .null, .int 0, .int 0, .int 0, .null, .null, .null, .int 0, .null, .null, .int 0, .null, .null, .int 0, .null, .null, .null, .null, .null, .null, .null, .null, .int 0, .int 0, .int 0, .int 0, .int 0, .null])), (a_q1, .inl (a_c2, 160, .inl mk_Md_init_591))] := hD
  refine lv_dup hx hb d_Md_init_592 rfl ?_
  refine lv_bipush (v := (98 : Int32)) hx hb d_Md_init_593 (by decide) ?_
  refine lv_bipush (v := (26 : Int32)) hx hb d_Md_init_595 (by decide) ?_
  refine va_iast hx hb hK hP hD hS 1 0 rfl rfl (i := (98 : Int32)) (by unfold vp_in; decide) d_Md_init_597 (fun H locs hP hD hS => ?_)
  replace hP : va_P (dC, dI) cl_All [(qt, .inr (10, [.int 0, .null, .null, .null, .int 0, .null, .null, .int 0, .int 0, .int 0, .null, .null, .null, .int 0, .null, .null, .int 0, .null, .null, .int 0, .null, .null, .null, .null, .null, .null, .null, .null, .int 0, .int 0, .int 0, .int 0, .int 0, .null])), (a_q1, .inl (a_c2, 160, .inl mk_Md_init_597))] H := hP
  replace hD : va_D A [(qt, .inr (10, [.int 0, .null, .null, .null, .int 0, .null, .null, .int 0, .int 0, .int 0, .null, .null, .null, .int 0, .null, .null, .int 0, .null, .null, .int 0, .null, .null, .null, .null, .null, .null, .null, .null, .int 0, .int 0, .int 0, .int 0, .int 0, .null])), (a_q1, .inl (a_c2, 160, .inl mk_Md_init_597))] := hD
  refine lv_dup hx hb d_Md_init_598 rfl ?_
  refine lv_bipush (v := (99 : Int32)) hx hb d_Md_init_599 (by decide) ?_
  refine lv_bipush (v := (30 : Int32)) hx hb d_Md_init_601 (by decide) ?_
  refine va_iast hx hb hK hP hD hS 1 0 rfl rfl (i := (99 : Int32)) (by unfold vp_in; decide) d_Md_init_603 (fun H locs hP hD hS => ?_)
  replace hP : va_P (dC, dI) cl_All [(qt, .inr (10, [.int 0, .null, .null, .null, .int 0, .null, .null, .int 0, .int 0, .int 0, .null, .null, .null, .int 0, .null, .null, .int 0, .null, .null, .int 0, .null, .null, .null, .null, .null, .null, .null, .null, .int 0, .int 0, .int 0, .int 0, .int 0, .null])), (a_q1, .inl (a_c2, 160, .inl mk_Md_init_603))] H := hP
  replace hD : va_D A [(qt, .inr (10, [.int 0, .null, .null, .null, .int 0, .null, .null, .int 0, .int 0, .int 0, .null, .null, .null, .int 0, .null, .null, .int 0, .null, .null, .int 0, .null, .null, .null, .null, .null, .null, .null, .null, .int 0, .int 0, .int 0, .int 0, .int 0, .null])), (a_q1, .inl (a_c2, 160, .inl mk_Md_init_603))] := hD
  refine lv_dup hx hb d_Md_init_604 rfl ?_
  refine lv_bipush (v := (100 : Int32)) hx hb d_Md_init_605 (by decide) ?_
  refine lv_bipush (v := (28 : Int32)) hx hb d_Md_init_607 (by decide) ?_
  refine va_iast hx hb hK hP hD hS 1 0 rfl rfl (i := (100 : Int32)) (by unfold vp_in; decide) d_Md_init_609 (fun H locs hP hD hS => ?_)
  replace hP : va_P (dC, dI) cl_All [(qt, .inr (10, [.int 0, .null, .null, .null, .int 0, .null, .null, .int 0, .int 0, .int 0, .null, .null, .null, .int 0, .null, .null, .int 0, .null, .null, .int 0, .null, .null, .null, .null, .null, .null, .null, .null, .int 0, .int 0, .int 0, .int 0, .int 0, .null])), (a_q1, .inl (a_c2, 160, .inl mk_Md_init_609))] H := hP
  replace hD : va_D A [(qt, .inr (10, [.int 0, .null, .null, .null, .int 0, .null, .null, .int 0, .int 0, .int 0, .null, .null, .null, .int 0, .null, .null, .int 0, .null, .null, .int 0, .null, .null, .null, .null, .null, .null, .null, .null, .int 0, .int 0, .int 0, .int 0, .int 0, .null])), (a_q1, .inl (a_c2, 160, .inl mk_Md_init_609))] := hD
  refine lv_dup hx hb d_Md_init_610 rfl ?_
  refine lv_bipush (v := (101 : Int32)) hx hb d_Md_init_611 (by decide) ?_
  refine lv_bipush (v := (30 : Int32)) hx hb d_Md_init_613 (by decide) ?_
  refine va_iast hx hb hK hP hD hS 1 0 rfl rfl (i := (101 : Int32)) (by unfold vp_in; decide) d_Md_init_615 (fun H locs hP hD hS => ?_)
  replace hP : va_P (dC, dI) cl_All [(qt, .inr (10, [.int 0, .null, .null, .null, .int 0, .null, .null, .int 0, .int 0, .int 0, .null, .null, .null, .int 0, .null, .null, .int 0, .null, .null, .int 0, .null, .null, .null, .null, .null, .null, .null, .null, .int 0, .int 0, .int 0, .int 0, .int 0, .null])), (a_q1, .inl (a_c2, 160, .inl mk_Md_init_615))] H := hP
  replace hD : va_D A [(qt, .inr (10, [.int 0, .null, .null, .null, .int 0, .null, .null, .int 0, .int 0, .int 0, .null, .null, .null, .int 0, .null, .null, .int 0, .null, .null, .int 0, .null, .null, .null, .null, .null, .null, .null, .null, .int 0, .int 0, .int 0, .int 0, .int 0, .null])), (a_q1, .inl (a_c2, 160, .inl mk_Md_init_615))] := hD
  refine lv_dup hx hb d_Md_init_616 rfl ?_
  refine lv_bipush (v := (102 : Int32)) hx hb d_Md_init_617 (by decide) ?_
  refine lv_bipush (v := (30 : Int32)) hx hb d_Md_init_619 (by decide) ?_
  refine va_iast hx hb hK hP hD hS 1 0 rfl rfl (i := (102 : Int32)) (by unfold vp_in; decide) d_Md_init_621 (fun H locs hP hD hS => ?_)
  replace hP : va_P (dC, dI) cl_All [(qt, .inr (10, [.int 0, .null, .null, .null, .int 0, .null, .null, .int 0, .int 0, .int 0, .null, .null, .null, .int 0, .null, .null, .int 0, .null, .null, .int 0, .null, .null, .null, .null, .null, .null, .null, .null, .int 0, .int 0, .int 0, .int 0, .int 0, .null])), (a_q1, .inl (a_c2, 160, .inl mk_Md_init_621))] H := hP
  replace hD : va_D A [(qt, .inr (10, [.int 0, .null, .null, .null, .int 0, .null, .null, .int 0, .int 0, .int 0, .null, .null, .null, .int 0, .null, .null, .int 0, .null, .null, .int 0, .null, .null, .null, .null, .null, .null, .null, .null, .int 0, .int 0, .int 0, .int 0, .int 0, .null])), (a_q1, .inl (a_c2, 160, .inl mk_Md_init_621))] := hD
  refine lv_dup hx hb d_Md_init_622 rfl ?_
  refine lv_bipush (v := (103 : Int32)) hx hb d_Md_init_623 (by decide) ?_
  refine lv_bipush (v := (30 : Int32)) hx hb d_Md_init_625 (by decide) ?_
  refine va_iast hx hb hK hP hD hS 1 0 rfl rfl (i := (103 : Int32)) (by unfold vp_in; decide) d_Md_init_627 (fun H locs hP hD hS => ?_)
  replace hP : va_P (dC, dI) cl_All [(qt, .inr (10, [.int 0, .null, .null, .null, .int 0, .null, .null, .int 0, .int 0, .int 0, .null, .null, .null, .int 0, .null, .null, .int 0, .null, .null, .int 0, .null, .null, .null, .null, .null, .null, .null, .null, .int 0, .int 0, .int 0, .int 0, .int 0, .null])), (a_q1, .inl (a_c2, 160, .inl mk_Md_init_627))] H := hP
  replace hD : va_D A [(qt, .inr (10, [.int 0, .null, .null, .null, .int 0, .null, .null, .int 0, .int 0, .int 0, .null, .null, .null, .int 0, .null, .null, .int 0, .null, .null, .int 0, .null, .null, .null, .null, .null, .null, .null, .null, .int 0, .int 0, .int 0, .int 0, .int 0, .null])), (a_q1, .inl (a_c2, 160, .inl mk_Md_init_627))] := hD
  refine lv_dup hx hb d_Md_init_628 rfl ?_
  refine lv_bipush (v := (104 : Int32)) hx hb d_Md_init_629 (by decide) ?_
  refine lv_bipush (v := (30 : Int32)) hx hb d_Md_init_631 (by decide) ?_
  refine va_iast hx hb hK hP hD hS 1 0 rfl rfl (i := (104 : Int32)) (by unfold vp_in; decide) d_Md_init_633 (fun H locs hP hD hS => ?_)
  replace hP : va_P (dC, dI) cl_All [(qt, .inr (10, [.int 0, .null, .null, .null, .int 0, .null, .null, .int 0, .int 0, .int 0, .null, .null, .null, .int 0, .null, .null, .int 0, .null, .null, .int 0, .null, .null, .null, .null, .null, .null, .null, .null, .int 0, .int 0, .int 0, .int 0, .int 0, .null])), (a_q1, .inl (a_c2, 160, .inl mk_Md_init_633))] H := hP
  replace hD : va_D A [(qt, .inr (10, [.int 0, .null, .null, .null, .int 0, .null, .null, .int 0, .int 0, .int 0, .null, .null, .null, .int 0, .null, .null, .int 0, .null, .null, .int 0, .null, .null, .null, .null, .null, .null, .null, .null, .int 0, .int 0, .int 0, .int 0, .int 0, .null])), (a_q1, .inl (a_c2, 160, .inl mk_Md_init_633))] := hD
  refine lv_dup hx hb d_Md_init_634 rfl ?_
  refine lv_bipush (v := (105 : Int32)) hx hb d_Md_init_635 (by decide) ?_
  refine lv_bipush (v := (28 : Int32)) hx hb d_Md_init_637 (by decide) ?_
  refine va_iast hx hb hK hP hD hS 1 0 rfl rfl (i := (105 : Int32)) (by unfold vp_in; decide) d_Md_init_639 (fun H locs hP hD hS => ?_)
  replace hP : va_P (dC, dI) cl_All [(qt, .inr (10, [.int 0, .null, .null, .null, .int 0, .null, .null, .int 0, .int 0, .int 0, .null, .null, .null, .int 0, .null, .null, .int 0, .null, .null, .int 0, .null, .null, .null, .null, .null, .null, .null, .null, .int 0, .int 0, .int 0, .int 0, .int 0, .null])), (a_q1, .inl (a_c2, 160, .inl mk_Md_init_639))] H := hP
  replace hD : va_D A [(qt, .inr (10, [.int 0, .null, .null, .null, .int 0, .null, .null, .int 0, .int 0, .int 0, .null, .null, .null, .int 0, .null, .null, .int 0, .null, .null, .int 0, .null, .null, .null, .null, .null, .null, .null, .null, .int 0, .int 0, .int 0, .int 0, .int 0, .null])), (a_q1, .inl (a_c2, 160, .inl mk_Md_init_639))] := hD
  refine lv_dup hx hb d_Md_init_640 rfl ?_
  refine lv_bipush (v := (106 : Int32)) hx hb d_Md_init_641 (by decide) ?_
  refine lv_bipush (v := (30 : Int32)) hx hb d_Md_init_643 (by decide) ?_
  refine va_iast hx hb hK hP hD hS 1 0 rfl rfl (i := (106 : Int32)) (by unfold vp_in; decide) d_Md_init_645 (fun H locs hP hD hS => ?_)
  replace hP : va_P (dC, dI) cl_All [(qt, .inr (10, [.int 0, .null, .null, .null, .int 0, .null, .null, .int 0, .int 0, .int 0, .null, .null, .null, .int 0, .null, .null, .int 0, .null, .null, .int 0, .null, .null, .null, .null, .null, .null, .null, .null, .int 0, .int 0, .int 0, .int 0, .int 0, .null])), (a_q1, .inl (a_c2, 160, .inl mk_Md_init_645))] H := hP
  replace hD : va_D A [(qt, .inr (10, [.int 0, .null, .null, .null, .int 0, .null, .null, .int 0, .int 0, .int 0, .null, .null, .null, .int 0, .null, .null, .int 0, .null, .null, .int 0, .null, .null, .null, .null, .null, .null, .null, .null, .int 0, .int 0, .int 0, .int 0, .int 0, .null])), (a_q1, .inl (a_c2, 160, .inl mk_Md_init_645))] := hD
  refine lv_dup hx hb d_Md_init_646 rfl ?_
  refine lv_bipush (v := (107 : Int32)) hx hb d_Md_init_647 (by decide) ?_
  refine lv_bipush (v := (30 : Int32)) hx hb d_Md_init_649 (by decide) ?_
  refine va_iast hx hb hK hP hD hS 1 0 rfl rfl (i := (107 : Int32)) (by unfold vp_in; decide) d_Md_init_651 (fun H locs hP hD hS => ?_)
  replace hP : va_P (dC, dI) cl_All [(qt, .inr (10, [.int 0, .null, .null, .null, .int 0, .null, .null, .int 0, .int 0, .int 0, .null, .null, .null, .int 0, .null, .null, .int 0, .null, .null, .int 0, .null, .null, .null, .null, .null, .null, .null, .null, .int 0, .int 0, .int 0, .int 0, .int 0, .null])), (a_q1, .inl (a_c2, 160, .inl mk_Md_init_651))] H := hP
  replace hD : va_D A [(qt, .inr (10, [.int 0, .null, .null, .null, .int 0, .null, .null, .int 0, .int 0, .int 0, .null, .null, .null, .int 0, .null, .null, .int 0, .null, .null, .int 0, .null, .null, .null, .null, .null, .null, .null, .null, .int 0, .int 0, .int 0, .int 0, .int 0, .null])), (a_q1, .inl (a_c2, 160, .inl mk_Md_init_651))] := hD
  refine lv_dup hx hb d_Md_init_652 rfl ?_
  refine lv_bipush (v := (108 : Int32)) hx hb d_Md_init_653 (by decide) ?_
  refine lv_bipush (v := (30 : Int32)) hx hb d_Md_init_655 (by decide) ?_
  refine va_iast hx hb hK hP hD hS 1 0 rfl rfl (i := (108 : Int32)) (by unfold vp_in; decide) d_Md_init_657 (fun H locs hP hD hS => ?_)
  replace hP : va_P (dC, dI) cl_All [(qt, .inr (10, [.int 0, .null, .null, .null, .int 0, .null, .null, .int 0, .int 0, .int 0, .null, .null, .null, .int 0, .null, .null, .int 0, .null, .null, .int 0, .null, .null, .null, .null, .null, .null, .null, .null, .int 0, .int 0, .int 0, .int 0, .int 0, .null])), (a_q1, .inl (a_c2, 160, .inl mk_Md_init_657))] H := hP
  replace hD : va_D A [(qt, .inr (10, [.int 0, .null, .null, .null, .int 0, .null, .null, .int 0, .int 0, .int 0, .null, .null, .null, .int 0, .null, .null, .int 0, .null, .null, .int 0, .null, .null, .null, .null, .null, .null, .null, .null, .int 0, .int 0, .int 0, .int 0, .int 0, .null])), (a_q1, .inl (a_c2, 160, .inl mk_Md_init_657))] := hD
  refine lv_dup hx hb d_Md_init_658 rfl ?_
  refine lv_bipush (v := (109 : Int32)) hx hb d_Md_init_659 (by decide) ?_
  refine lv_bipush (v := (30 : Int32)) hx hb d_Md_init_661 (by decide) ?_
  refine va_iast hx hb hK hP hD hS 1 0 rfl rfl (i := (109 : Int32)) (by unfold vp_in; decide) d_Md_init_663 (fun H locs hP hD hS => ?_)
  replace hP : va_P (dC, dI) cl_All [(qt, .inr (10, [.int 0, .null, .null, .null, .int 0, .null, .null, .int 0, .int 0, .int 0, .null, .null, .null, .int 0, .null, .null, .int 0, .null, .null, .int 0, .null, .null, .null, .null, .null, .null, .null, .null, .int 0, .int 0, .int 0, .int 0, .int 0, .null])), (a_q1, .inl (a_c2, 160, .inl mk_Md_init_663))] H := hP
  replace hD : va_D A [(qt, .inr (10, [.int 0, .null, .null, .null, .int 0, .null, .null, .int 0, .int 0, .int 0, .null, .null, .null, .int 0, .null, .null, .int 0, .null, .null, .int 0, .null, .null, .null, .null, .null, .null, .null, .null, .int 0, .int 0, .int 0, .int 0, .int 0, .null])), (a_q1, .inl (a_c2, 160, .inl mk_Md_init_663))] := hD
  refine lv_dup hx hb d_Md_init_664 rfl ?_
  refine lv_bipush (v := (110 : Int32)) hx hb d_Md_init_665 (by decide) ?_
  refine lv_bipush (v := (30 : Int32)) hx hb d_Md_init_667 (by decide) ?_
  refine va_iast hx hb hK hP hD hS 1 0 rfl rfl (i := (110 : Int32)) (by unfold vp_in; decide) d_Md_init_669 (fun H locs hP hD hS => ?_)
  replace hP : va_P (dC, dI) cl_All [(qt, .inr (10, [.int 0, .null, .null, .null, .int 0, .null, .null, .int 0, .int 0, .int 0, .null, .null, .null, .int 0, .null, .null, .int 0, .null, .null, .int 0, .null, .null, .null, .null, .null, .null, .null, .null, .int 0, .int 0, .int 0, .int 0, .int 0, .null])), (a_q1, .inl (a_c2, 160, .inl mk_Md_init_669))] H := hP
  replace hD : va_D A [(qt, .inr (10, [.int 0, .null, .null, .null, .int 0, .null, .null, .int 0, .int 0, .int 0, .null, .null, .null, .int 0, .null, .null, .int 0, .null, .null, .int 0, .null, .null, .null, .null, .null, .null, .null, .null, .int 0, .int 0, .int 0, .int 0, .int 0, .null])), (a_q1, .inl (a_c2, 160, .inl mk_Md_init_669))] := hD
  refine lv_dup hx hb d_Md_init_670 rfl ?_
  refine lv_bipush (v := (111 : Int32)) hx hb d_Md_init_671 (by decide) ?_
  refine lv_bipush (v := (30 : Int32)) hx hb d_Md_init_673 (by decide) ?_
  refine va_iast hx hb hK hP hD hS 1 0 rfl rfl (i := (111 : Int32)) (by unfold vp_in; decide) d_Md_init_675 (fun H locs hP hD hS => ?_)
  replace hP : va_P (dC, dI) cl_All [(qt, .inr (10, [.int 0, .null, .null, .null, .int 0, .null, .null, .int 0, .int 0, .int 0, .null, .null, .null, .int 0, .null, .null, .int 0, .null, .null, .int 0, .null, .null, .null, .null, .null, .null, .null, .null, .int 0, .int 0, .int 0, .int 0, .int 0, .null])), (a_q1, .inl (a_c2, 160, .inl mk_Md_init_675))] H := hP
  replace hD : va_D A [(qt, .inr (10, [.int 0, .null, .null, .null, .int 0, .null, .null, .int 0, .int 0, .int 0, .null, .null, .null, .int 0, .null, .null, .int 0, .null, .null, .int 0, .null, .null, .null, .null, .null, .null, .null, .null, .int 0, .int 0, .int 0, .int 0, .int 0, .null])), (a_q1, .inl (a_c2, 160, .inl mk_Md_init_675))] := hD
  refine lv_dup hx hb d_Md_init_676 rfl ?_
  refine lv_bipush (v := (112 : Int32)) hx hb d_Md_init_677 (by decide) ?_
  refine lv_bipush (v := (30 : Int32)) hx hb d_Md_init_679 (by decide) ?_
  refine va_iast hx hb hK hP hD hS 1 0 rfl rfl (i := (112 : Int32)) (by unfold vp_in; decide) d_Md_init_681 (fun H locs hP hD hS => ?_)
  replace hP : va_P (dC, dI) cl_All [(qt, .inr (10, [.int 0, .null, .null, .null, .int 0, .null, .null, .int 0, .int 0, .int 0, .null, .null, .null, .int 0, .null, .null, .int 0, .null, .null, .int 0, .null, .null, .null, .null, .null, .null, .null, .null, .int 0, .int 0, .int 0, .int 0, .int 0, .null])), (a_q1, .inl (a_c2, 160, .inl mk_Md_init_681))] H := hP
  replace hD : va_D A [(qt, .inr (10, [.int 0, .null, .null, .null, .int 0, .null, .null, .int 0, .int 0, .int 0, .null, .null, .null, .int 0, .null, .null, .int 0, .null, .null, .int 0, .null, .null, .null, .null, .null, .null, .null, .null, .int 0, .int 0, .int 0, .int 0, .int 0, .null])), (a_q1, .inl (a_c2, 160, .inl mk_Md_init_681))] := hD
  refine lv_dup hx hb d_Md_init_682 rfl ?_
  refine lv_bipush (v := (113 : Int32)) hx hb d_Md_init_683 (by decide) ?_
  refine lv_bipush (v := (30 : Int32)) hx hb d_Md_init_685 (by decide) ?_
  refine va_iast hx hb hK hP hD hS 1 0 rfl rfl (i := (113 : Int32)) (by unfold vp_in; decide) d_Md_init_687 (fun H locs hP hD hS => ?_)
  replace hP : va_P (dC, dI) cl_All [(qt, .inr (10, [.int 0, .null, .null, .null, .int 0, .null, .null, .int 0, .int 0, .int 0, .null, .null, .null, .int 0, .null, .null, .int 0, .null, .null, .int 0, .null, .null, .null, .null, .null, .null, .null, .null, .int 0, .int 0, .int 0, .int 0, .int 0, .null])), (a_q1, .inl (a_c2, 160, .inl mk_Md_init_687))] H := hP
  replace hD : va_D A [(qt, .inr (10, [.int 0, .null, .null, .null, .int 0, .null, .null, .int 0, .int 0, .int 0, .null, .null, .null, .int 0, .null, .null, .int 0, .null, .null, .int 0, .null, .null, .null, .null, .null, .null, .null, .null, .int 0, .int 0, .int 0, .int 0, .int 0, .null])), (a_q1, .inl (a_c2, 160, .inl mk_Md_init_687))] := hD
  refine lv_dup hx hb d_Md_init_688 rfl ?_
  refine lv_bipush (v := (114 : Int32)) hx hb d_Md_init_689 (by decide) ?_
  refine lv_bipush (v := (30 : Int32)) hx hb d_Md_init_691 (by decide) ?_
  refine va_iast hx hb hK hP hD hS 1 0 rfl rfl (i := (114 : Int32)) (by unfold vp_in; decide) d_Md_init_693 (fun H locs hP hD hS => ?_)
  replace hP : va_P (dC, dI) cl_All [(qt, .inr (10, [.int 0, .null, .null, .null, .int 0, .null, .null, .int 0, .int 0, .int 0, .null, .null, .null, .int 0, .null, .null, .int 0, .null, .null, .int 0, .null, .null, .null, .null, .null, .null, .null, .null, .int 0, .int 0, .int 0, .int 0, .int 0, .null])), (a_q1, .inl (a_c2, 160, .inl mk_Md_init_693))] H := hP
  replace hD : va_D A [(qt, .inr (10, [.int 0, .null, .null, .null, .int 0, .null, .null, .int 0, .int 0, .int 0, .null, .null, .null, .int 0, .null, .null, .int 0, .null, .null, .int 0, .null, .null, .null, .null, .null, .null, .null, .null, .int 0, .int 0, .int 0, .int 0, .int 0, .null])), (a_q1, .inl (a_c2, 160, .inl mk_Md_init_693))] := hD
  refine lv_dup hx hb d_Md_init_694 rfl ?_
  refine lv_bipush (v := (115 : Int32)) hx hb d_Md_init_695 (by decide) ?_
  refine lv_bipush (v := (30 : Int32)) hx hb d_Md_init_697 (by decide) ?_
  refine va_iast hx hb hK hP hD hS 1 0 rfl rfl (i := (115 : Int32)) (by unfold vp_in; decide) d_Md_init_699 (fun H locs hP hD hS => ?_)
  replace hP : va_P (dC, dI) cl_All [(qt, .inr (10, [.int 0, .null, .null, .null, .int 0, .null, .null, .int 0, .int 0, .int 0, .null, .null, .null, .int 0, .null, .null, .int 0, .null, .null, .int 0, .null, .null, .null, .null, .null, .null, .null, .null, .int 0, .int 0, .int 0, .int 0, .int 0, .null])), (a_q1, .inl (a_c2, 160, .inl mk_Md_init_699))] H := hP
  replace hD : va_D A [(qt, .inr (10, [.int 0, .null, .null, .null, .int 0, .null, .null, .int 0, .int 0, .int 0, .null, .null, .null, .int 0, .null, .null, .int 0, .null, .null, .int 0, .null, .null, .null, .null, .null, .null, .null, .null, .int 0, .int 0, .int 0, .int 0, .int 0, .null])), (a_q1, .inl (a_c2, 160, .inl mk_Md_init_699))] := hD
  refine lv_dup hx hb d_Md_init_700 rfl ?_
  refine lv_bipush (v := (116 : Int32)) hx hb d_Md_init_701 (by decide) ?_
  refine lv_bipush (v := (30 : Int32)) hx hb d_Md_init_703 (by decide) ?_
  refine va_iast hx hb hK hP hD hS 1 0 rfl rfl (i := (116 : Int32)) (by unfold vp_in; decide) d_Md_init_705 (fun H locs hP hD hS => ?_)
  replace hP : va_P (dC, dI) cl_All [(qt, .inr (10, [.int 0, .null, .null, .null, .int 0, .null, .null, .int 0, .int 0, .int 0, .null, .null, .null, .int 0, .null, .null, .int 0, .null, .null, .int 0, .null, .null, .null, .null, .null, .null, .null, .null, .int 0, .int 0, .int 0, .int 0, .int 0, .null])), (a_q1, .inl (a_c2, 160, .inl mk_Md_init_705))] H := hP
  replace hD : va_D A [(qt, .inr (10, [.int 0, .null, .null, .null, .int 0, .null, .null, .int 0, .int 0, .int 0, .null, .null, .null, .int 0, .null, .null, .int 0, .null, .null, .int 0, .null, .null, .null, .null, .null, .null, .null, .null, .int 0, .int 0, .int 0, .int 0, .int 0, .null])), (a_q1, .inl (a_c2, 160, .inl mk_Md_init_705))] := hD
  refine lv_dup hx hb d_Md_init_706 rfl ?_
  refine lv_bipush (v := (117 : Int32)) hx hb d_Md_init_707 (by decide) ?_
  refine lv_bipush (v := (30 : Int32)) hx hb d_Md_init_709 (by decide) ?_
  refine va_iast hx hb hK hP hD hS 1 0 rfl rfl (i := (117 : Int32)) (by unfold vp_in; decide) d_Md_init_711 (fun H locs hP hD hS => ?_)
  replace hP : va_P (dC, dI) cl_All [(qt, .inr (10, [.int 0, .null, .null, .null, .int 0, .null, .null, .int 0, .int 0, .int 0, .null, .null, .null, .int 0, .null, .null, .int 0, .null, .null, .int 0, .null, .null, .null, .null, .null, .null, .null, .null, .int 0, .int 0, .int 0, .int 0, .int 0, .null])), (a_q1, .inl (a_c2, 160, .inl mk_Md_init_711))] H := hP
  replace hD : va_D A [(qt, .inr (10, [.int 0, .null, .null, .null, .int 0, .null, .null, .int 0, .int 0, .int 0, .null, .null, .null, .int 0, .null, .null, .int 0, .null, .null, .int 0, .null, .null, .null, .null, .null, .null, .null, .null, .int 0, .int 0, .int 0, .int 0, .int 0, .null])), (a_q1, .inl (a_c2, 160, .inl mk_Md_init_711))] := hD
  refine lv_dup hx hb d_Md_init_712 rfl ?_
  refine lv_bipush (v := (118 : Int32)) hx hb d_Md_init_713 (by decide) ?_
  refine lv_bipush (v := (30 : Int32)) hx hb d_Md_init_715 (by decide) ?_
  refine va_iast hx hb hK hP hD hS 1 0 rfl rfl (i := (118 : Int32)) (by unfold vp_in; decide) d_Md_init_717 (fun H locs hP hD hS => ?_)
  replace hP : va_P (dC, dI) cl_All [(qt, .inr (10, [.int 0, .null, .null, .null, .int 0, .null, .null, .int 0, .int 0, .int 0, .null, .null, .null, .int 0, .null, .null, .int 0, .null, .null, .int 0, .null, .null, .null, .null, .null, .null, .null, .null, .int 0, .int 0, .int 0, .int 0, .int 0, .null])), (a_q1, .inl (a_c2, 160, .inl mk_Md_init_717))] H := hP
  replace hD : va_D A [(qt, .inr (10, [.int 0, .null, .null, .null, .int 0, .null, .null, .int 0, .int 0, .int 0, .null, .null, .null, .int 0, .null, .null, .int 0, .null, .null, .int 0, .null, .null, .null, .null, .null, .null, .null, .null, .int 0, .int 0, .int 0, .int 0, .int 0, .null])), (a_q1, .inl (a_c2, 160, .inl mk_Md_init_717))] := hD
  refine lv_dup hx hb d_Md_init_718 rfl ?_
  refine lv_bipush (v := (119 : Int32)) hx hb d_Md_init_719 (by decide) ?_
  refine lv_bipush (v := (30 : Int32)) hx hb d_Md_init_721 (by decide) ?_
  refine va_iast hx hb hK hP hD hS 1 0 rfl rfl (i := (119 : Int32)) (by unfold vp_in; decide) d_Md_init_723 (fun H locs hP hD hS => ?_)
  replace hP : va_P (dC, dI) cl_All [(qt, .inr (10, [.int 0, .null, .null, .null, .int 0, .null, .null, .int 0, .int 0, .int 0, .null, .null, .null, .int 0, .null, .null, .int 0, .null, .null, .int 0, .null, .null, .null, .null, .null, .null, .null, .null, .int 0, .int 0, .int 0, .int 0, .int 0, .null])), (a_q1, .inl (a_c2, 160, .inl mk_Md_init_723))] H := hP
  replace hD : va_D A [(qt, .inr (10, [.int 0, .null, .null, .null, .int 0, .null, .null, .int 0, .int 0, .int 0, .null, .null, .null, .int 0, .null, .null, .int 0, .null, .null, .int 0, .null, .null, .null, .null, .null, .null, .null, .null, .int 0, .int 0, .int 0, .int 0, .int 0, .null])), (a_q1, .inl (a_c2, 160, .inl mk_Md_init_723))] := hD
  refine lv_dup hx hb d_Md_init_724 rfl ?_
  refine lv_bipush (v := (120 : Int32)) hx hb d_Md_init_725 (by decide) ?_
  refine lv_bipush (v := (17 : Int32)) hx hb d_Md_init_727 (by decide) ?_
  refine va_iast hx hb hK hP hD hS 1 0 rfl rfl (i := (120 : Int32)) (by unfold vp_in; decide) d_Md_init_729 (fun H locs hP hD hS => ?_)
  replace hP : va_P (dC, dI) cl_All [(qt, .inr (10, [.int 0, .null, .null, .null, .int 0, .null, .null, .int 0, .int 0, .int 0, .null, .null, .null, .int 0, .null, .null, .int 0, .null, .null, .int 0, .null, .null, .null, .null, .null, .null, .null, .null, .int 0, .int 0, .int 0, .int 0, .int 0, .null])), (a_q1, .inl (a_c2, 160, .inl mk_Md_init_729))] H := hP
  replace hD : va_D A [(qt, .inr (10, [.int 0, .null, .null, .null, .int 0, .null, .null, .int 0, .int 0, .int 0, .null, .null, .null, .int 0, .null, .null, .int 0, .null, .null, .int 0, .null, .null, .null, .null, .null, .null, .null, .null, .int 0, .int 0, .int 0, .int 0, .int 0, .null])), (a_q1, .inl (a_c2, 160, .inl mk_Md_init_729))] := hD
  refine lv_dup hx hb d_Md_init_730 rfl ?_
  refine lv_bipush (v := (121 : Int32)) hx hb d_Md_init_731 (by decide) ?_
  refine lv_bipush (v := (28 : Int32)) hx hb d_Md_init_733 (by decide) ?_
  refine va_iast hx hb hK hP hD hS 1 0 rfl rfl (i := (121 : Int32)) (by unfold vp_in; decide) d_Md_init_735 (fun H locs hP hD hS => ?_)
  replace hP : va_P (dC, dI) cl_All [(qt, .inr (10, [.int 0, .null, .null, .null, .int 0, .null, .null, .int 0, .int 0, .int 0, .null, .null, .null, .int 0, .null, .null, .int 0, .null, .null, .int 0, .null, .null, .null, .null, .null, .null, .null, .null, .int 0, .int 0, .int 0, .int 0, .int 0, .null])), (a_q1, .inl (a_c2, 160, .inl mk_Md_init_735))] H := hP
  replace hD : va_D A [(qt, .inr (10, [.int 0, .null, .null, .null, .int 0, .null, .null, .int 0, .int 0, .int 0, .null, .null, .null, .int 0, .null, .null, .int 0, .null, .null, .int 0, .null, .null, .null, .null, .null, .null, .null, .null, .int 0, .int 0, .int 0, .int 0, .int 0, .null])), (a_q1, .inl (a_c2, 160, .inl mk_Md_init_735))] := hD
  refine lv_dup hx hb d_Md_init_736 rfl ?_
  refine lv_bipush (v := (122 : Int32)) hx hb d_Md_init_737 (by decide) ?_
  refine lv_bipush (v := (22 : Int32)) hx hb d_Md_init_739 (by decide) ?_
  refine va_iast hx hb hK hP hD hS 1 0 rfl rfl (i := (122 : Int32)) (by unfold vp_in; decide) d_Md_init_741 (fun H locs hP hD hS => ?_)
  replace hP : va_P (dC, dI) cl_All [(qt, .inr (10, [.int 0, .null, .null, .null, .int 0, .null, .null, .int 0, .int 0, .int 0, .null, .null, .null, .int 0, .null, .null, .int 0, .null, .null, .int 0, .null, .null, .null, .null, .null, .null, .null, .null, .int 0, .int 0, .int 0, .int 0, .int 0, .null])), (a_q1, .inl (a_c2, 160, .inl mk_Md_init_741))] H := hP
  replace hD : va_D A [(qt, .inr (10, [.int 0, .null, .null, .null, .int 0, .null, .null, .int 0, .int 0, .int 0, .null, .null, .null, .int 0, .null, .null, .int 0, .null, .null, .int 0, .null, .null, .null, .null, .null, .null, .null, .null, .int 0, .int 0, .int 0, .int 0, .int 0, .null])), (a_q1, .inl (a_c2, 160, .inl mk_Md_init_741))] := hD
  refine lv_dup hx hb d_Md_init_742 rfl ?_
  refine lv_bipush (v := (123 : Int32)) hx hb d_Md_init_743 (by decide) ?_
  refine lv_bipush (v := (16 : Int32)) hx hb d_Md_init_745 (by decide) ?_
  refine va_iast hx hb hK hP hD hS 1 0 rfl rfl (i := (123 : Int32)) (by unfold vp_in; decide) d_Md_init_747 (fun H locs hP hD hS => ?_)
  replace hP : va_P (dC, dI) cl_All [(qt, .inr (10, [.int 0, .null, .null, .null, .int 0, .null, .null, .int 0, .int 0, .int 0, .null, .null, .null, .int 0, .null, .null, .int 0, .null, .null, .int 0, .null, .null, .null, .null, .null, .null, .null, .null, .int 0, .int 0, .int 0, .int 0, .int 0, .null])), (a_q1, .inl (a_c2, 160, .inl mk_Md_init_747))] H := hP
  replace hD : va_D A [(qt, .inr (10, [.int 0, .null, .null, .null, .int 0, .null, .null, .int 0, .int 0, .int 0, .null, .null, .null, .int 0, .null, .null, .int 0, .null, .null, .int 0, .null, .null, .null, .null, .null, .null, .null, .null, .int 0, .int 0, .int 0, .int 0, .int 0, .null])), (a_q1, .inl (a_c2, 160, .inl mk_Md_init_747))] := hD
  refine lv_dup hx hb d_Md_init_748 rfl ?_
  refine lv_bipush (v := (124 : Int32)) hx hb d_Md_init_749 (by decide) ?_
  refine lv_bipush (v := (22 : Int32)) hx hb d_Md_init_751 (by decide) ?_
  refine va_iast hx hb hK hP hD hS 1 0 rfl rfl (i := (124 : Int32)) (by unfold vp_in; decide) d_Md_init_753 (fun H locs hP hD hS => ?_)
  replace hP : va_P (dC, dI) cl_All [(qt, .inr (10, [.int 0, .null, .null, .null, .int 0, .null, .null, .int 0, .int 0, .int 0, .null, .null, .null, .int 0, .null, .null, .int 0, .null, .null, .int 0, .null, .null, .null, .null, .null, .null, .null, .null, .int 0, .int 0, .int 0, .int 0, .int 0, .null])), (a_q1, .inl (a_c2, 160, .inl mk_Md_init_753))] H := hP
  replace hD : va_D A [(qt, .inr (10, [.int 0, .null, .null, .null, .int 0, .null, .null, .int 0, .int 0, .int 0, .null, .null, .null, .int 0, .null, .null, .int 0, .null, .null, .int 0, .null, .null, .null, .null, .null, .null, .null, .null, .int 0, .int 0, .int 0, .int 0, .int 0, .null])), (a_q1, .inl (a_c2, 160, .inl mk_Md_init_753))] := hD
  refine lv_dup hx hb d_Md_init_754 rfl ?_
  refine lv_bipush (v := (125 : Int32)) hx hb d_Md_init_755 (by decide) ?_
  refine lv_bipush (v := (28 : Int32)) hx hb d_Md_init_757 (by decide) ?_
  refine va_iast hx hb hK hP hD hS 1 0 rfl rfl (i := (125 : Int32)) (by unfold vp_in; decide) d_Md_init_759 (fun H locs hP hD hS => ?_)
  replace hP : va_P (dC, dI) cl_All [(qt, .inr (10, [.int 0, .null, .null, .null, .int 0, .null, .null, .int 0, .int 0, .int 0, .null, .null, .null, .int 0, .null, .null, .int 0, .null, .null, .int 0, .null, .null, .null, .null, .null, .null, .null, .null, .int 0, .int 0, .int 0, .int 0, .int 0, .null])), (a_q1, .inl (a_c2, 160, .inl mk_Md_init_759))] H := hP
  replace hD : va_D A [(qt, .inr (10, [.int 0, .null, .null, .null, .int 0, .null, .null, .int 0, .int 0, .int 0, .null, .null, .null, .int 0, .null, .null, .int 0, .null, .null, .int 0, .null, .null, .null, .null, .null, .null, .null, .null, .int 0, .int 0, .int 0, .int 0, .int 0, .null])), (a_q1, .inl (a_c2, 160, .inl mk_Md_init_759))] := hD
  refine lv_dup hx hb d_Md_init_760 rfl ?_
  refine lv_bipush (v := (126 : Int32)) hx hb d_Md_init_761 (by decide) ?_
  refine lv_bipush (v := (26 : Int32)) hx hb d_Md_init_763 (by decide) ?_
  refine va_iast hx hb hK hP hD hS 1 0 rfl rfl (i := (126 : Int32)) (by unfold vp_in; decide) d_Md_init_765 (fun H locs hP hD hS => ?_)
  replace hP : va_P (dC, dI) cl_All [(qt, .inr (10, [.int 0, .null, .null, .null, .int 0, .null, .null, .int 0, .int 0, .int 0, .null, .null, .null, .int 0, .null, .null, .int 0, .null, .null, .int 0, .null, .null, .null, .null, .null, .null, .null, .null, .int 0, .int 0, .int 0, .int 0, .int 0, .null])), (a_q1, .inl (a_c2, 160, .inl mk_Md_init_765))] H := hP
  replace hD : va_D A [(qt, .inr (10, [.int 0, .null, .null, .null, .int 0, .null, .null, .int 0, .int 0, .int 0, .null, .null, .null, .int 0, .null, .null, .int 0, .null, .null, .int 0, .null, .null, .null, .null, .null, .null, .null, .null, .int 0, .int 0, .int 0, .int 0, .int 0, .null])), (a_q1, .inl (a_c2, 160, .inl mk_Md_init_765))] := hD
  refine lv_dup hx hb d_Md_init_766 rfl ?_
  refine lv_bipush (v := (127 : Int32)) hx hb d_Md_init_767 (by decide) ?_
  refine lv_bipush (v := (26 : Int32)) hx hb d_Md_init_769 (by decide) ?_
  refine va_iast hx hb hK hP hD hS 1 0 rfl rfl (i := (127 : Int32)) (by unfold vp_in; decide) d_Md_init_771 (fun H locs hP hD hS => ?_)
  replace hP : va_P (dC, dI) cl_All [(qt, .inr (10, [.int 0, .null, .null, .null, .int 0, .null, .null, .int 0, .int 0, .int 0, .null, .null, .null, .int 0, .null, .null, .int 0, .null, .null, .int 0, .null, .null, .null, .null, .null, .null, .null, .null, .int 0, .int 0, .int 0, .int 0, .int 0, .null])), (a_q1, .inl (a_c2, 160, .inl mk_Md_init_771))] H := hP
  replace hD : va_D A [(qt, .inr (10, [.int 0, .null, .null, .null, .int 0, .null, .null, .int 0, .int 0, .int 0, .null, .null, .null, .int 0, .null, .null, .int 0, .null, .null, .int 0, .null, .null, .null, .null, .null, .null, .null, .null, .int 0, .int 0, .int 0, .int 0, .int 0, .null])), (a_q1, .inl (a_c2, 160, .inl mk_Md_init_771))] := hD
  refine lv_dup hx hb d_Md_init_772 rfl ?_
  refine lv_sipush (v := (128 : Int32)) hx hb d_Md_init_773 (by decide) ?_
  refine lv_bipush (v := (24 : Int32)) hx hb d_Md_init_776 (by decide) ?_
  refine va_iast hx hb hK hP hD hS 1 0 rfl rfl (i := (128 : Int32)) (by unfold vp_in; decide) d_Md_init_778 (fun H locs hP hD hS => ?_)
  replace hP : va_P (dC, dI) cl_All [(qt, .inr (10, [.int 0, .null, .null, .null, .int 0, .null, .null, .int 0, .int 0, .int 0, .null, .null, .null, .int 0, .null, .null, .int 0, .null, .null, .int 0, .null, .null, .null, .null, .null, .null, .null, .null, .int 0, .int 0, .int 0, .int 0, .int 0, .null])), (a_q1, .inl (a_c2, 160, .inl mk_Md_init_778))] H := hP
  replace hD : va_D A [(qt, .inr (10, [.int 0, .null, .null, .null, .int 0, .null, .null, .int 0, .int 0, .int 0, .null, .null, .null, .int 0, .null, .null, .int 0, .null, .null, .int 0, .null, .null, .null, .null, .null, .null, .null, .null, .int 0, .int 0, .int 0, .int 0, .int 0, .null])), (a_q1, .inl (a_c2, 160, .inl mk_Md_init_778))] := hD
  refine lv_dup hx hb d_Md_init_779 rfl ?_
  refine lv_sipush (v := (129 : Int32)) hx hb d_Md_init_780 (by decide) ?_
  refine lv_bipush (v := (28 : Int32)) hx hb d_Md_init_783 (by decide) ?_
  refine va_iast hx hb hK hP hD hS 1 0 rfl rfl (i := (129 : Int32)) (by unfold vp_in; decide) d_Md_init_785 (fun H locs hP hD hS => ?_)
  replace hP : va_P (dC, dI) cl_All [(qt, .inr (10, [.int 0, .null, .null, .null, .int 0, .null, .null, .int 0, .int 0, .int 0, .null, .null, .null, .int 0, .null, .null, .int 0, .null, .null, .int 0, .null, .null, .null, .null, .null, .null, .null, .null, .int 0, .int 0, .int 0, .int 0, .int 0, .null])), (a_q1, .inl (a_c2, 160, .inl mk_Md_init_785))] H := hP
  replace hD : va_D A [(qt, .inr (10, [.int 0, .null, .null, .null, .int 0, .null, .null, .int 0, .int 0, .int 0, .null, .null, .null, .int 0, .null, .null, .int 0, .null, .null, .int 0, .null, .null, .null, .null, .null, .null, .null, .null, .int 0, .int 0, .int 0, .int 0, .int 0, .null])), (a_q1, .inl (a_c2, 160, .inl mk_Md_init_785))] := hD
  refine lv_dup hx hb d_Md_init_786 rfl ?_
  refine lv_sipush (v := (130 : Int32)) hx hb d_Md_init_787 (by decide) ?_
  refine lv_bipush (v := (24 : Int32)) hx hb d_Md_init_790 (by decide) ?_
  refine va_iast hx hb hK hP hD hS 1 0 rfl rfl (i := (130 : Int32)) (by unfold vp_in; decide) d_Md_init_792 (fun H locs hP hD hS => ?_)
  replace hP : va_P (dC, dI) cl_All [(qt, .inr (10, [.int 0, .null, .null, .null, .int 0, .null, .null, .int 0, .int 0, .int 0, .null, .null, .null, .int 0, .null, .null, .int 0, .null, .null, .int 0, .null, .null, .null, .null, .null, .null, .null, .null, .int 0, .int 0, .int 0, .int 0, .int 0, .null])), (a_q1, .inl (a_c2, 160, .inl mk_Md_init_792))] H := hP
  replace hD : va_D A [(qt, .inr (10, [.int 0, .null, .null, .null, .int 0, .null, .null, .int 0, .int 0, .int 0, .null, .null, .null, .int 0, .null, .null, .int 0, .null, .null, .int 0, .null, .null, .null, .null, .null, .null, .null, .null, .int 0, .int 0, .int 0, .int 0, .int 0, .null])), (a_q1, .inl (a_c2, 160, .inl mk_Md_init_792))] := hD
  refine lv_dup hx hb d_Md_init_793 rfl ?_
  refine lv_sipush (v := (131 : Int32)) hx hb d_Md_init_794 (by decide) ?_
  refine lv_bipush (v := (28 : Int32)) hx hb d_Md_init_797 (by decide) ?_
  refine va_iast hx hb hK hP hD hS 1 0 rfl rfl (i := (131 : Int32)) (by unfold vp_in; decide) d_Md_init_799 (fun H locs hP hD hS => ?_)
  replace hP : va_P (dC, dI) cl_All [(qt, .inr (10, [.int 0, .null, .null, .null, .int 0, .null, .null, .int 0, .int 0, .int 0, .null, .null, .null, .int 0, .null, .null, .int 0, .null, .null, .int 0, .null, .null, .null, .null, .null, .null, .null, .null, .int 0, .int 0, .int 0, .int 0, .int 0, .null])), (a_q1, .inl (a_c2, 160, .inl mk_Md_init_799))] H := hP
  replace hD : va_D A [(qt, .inr (10, [.int 0, .null, .null, .null, .int 0, .null, .null, .int 0, .int 0, .int 0, .null, .null, .null, .int 0, .null, .null, .int 0, .null, .null, .int 0, .null, .null, .null, .null, .null, .null, .null, .null, .int 0, .int 0, .int 0, .int 0, .int 0, .null])), (a_q1, .inl (a_c2, 160, .inl mk_Md_init_799))] := hD
  refine lv_dup hx hb d_Md_init_800 rfl ?_
  refine lv_sipush (v := (132 : Int32)) hx hb d_Md_init_801 (by decide) ?_
  refine lv_bipush (v := (22 : Int32)) hx hb d_Md_init_804 (by decide) ?_
  refine va_iast hx hb hK hP hD hS 1 0 rfl rfl (i := (132 : Int32)) (by unfold vp_in; decide) d_Md_init_806 (fun H locs hP hD hS => ?_)
  replace hP : va_P (dC, dI) cl_All [(qt, .inr (10, [.int 0, .null, .null, .null, .int 0, .null, .null, .int 0, .int 0, .int 0, .null, .null, .null, .int 0, .null, .null, .int 0, .null, .null, .int 0, .null, .null, .null, .null, .null, .null, .null, .null, .int 0, .int 0, .int 0, .int 0, .int 0, .null])), (a_q1, .inl (a_c2, 160, .inl mk_Md_init_806))] H := hP
  replace hD : va_D A [(qt, .inr (10, [.int 0, .null, .null, .null, .int 0, .null, .null, .int 0, .int 0, .int 0, .null, .null, .null, .int 0, .null, .null, .int 0, .null, .null, .int 0, .null, .null, .null, .null, .null, .null, .null, .null, .int 0, .int 0, .int 0, .int 0, .int 0, .null])), (a_q1, .inl (a_c2, 160, .inl mk_Md_init_806))] := hD
  refine lv_dup hx hb d_Md_init_807 rfl ?_
  refine lv_sipush (v := (133 : Int32)) hx hb d_Md_init_808 (by decide) ?_
  refine lv_bipush (v := (24 : Int32)) hx hb d_Md_init_811 (by decide) ?_
  refine va_iast hx hb hK hP hD hS 1 0 rfl rfl (i := (133 : Int32)) (by unfold vp_in; decide) d_Md_init_813 (fun H locs hP hD hS => ?_)
  replace hP : va_P (dC, dI) cl_All [(qt, .inr (10, [.int 0, .null, .null, .null, .int 0, .null, .null, .int 0, .int 0, .int 0, .null, .null, .null, .int 0, .null, .null, .int 0, .null, .null, .int 0, .null, .null, .null, .null, .null, .null, .null, .null, .int 0, .int 0, .int 0, .int 0, .int 0, .null])), (a_q1, .inl (a_c2, 160, .inl mk_Md_init_813))] H := hP
  replace hD : va_D A [(qt, .inr (10, [.int 0, .null, .null, .null, .int 0, .null, .null, .int 0, .int 0, .int 0, .null, .null, .null, .int 0, .null, .null, .int 0, .null, .null, .int 0, .null, .null, .null, .null, .null, .null, .null, .null, .int 0, .int 0, .int 0, .int 0, .int 0, .null])), (a_q1, .inl (a_c2, 160, .inl mk_Md_init_813))] := hD
  refine lv_dup hx hb d_Md_init_814 rfl ?_
  refine lv_sipush (v := (134 : Int32)) hx hb d_Md_init_815 (by decide) ?_
  refine lv_bipush (v := (24 : Int32)) hx hb d_Md_init_818 (by decide) ?_
  refine va_iast hx hb hK hP hD hS 1 0 rfl rfl (i := (134 : Int32)) (by unfold vp_in; decide) d_Md_init_820 (fun H locs hP hD hS => ?_)
  replace hP : va_P (dC, dI) cl_All [(qt, .inr (10, [.int 0, .null, .null, .null, .int 0, .null, .null, .int 0, .int 0, .int 0, .null, .null, .null, .int 0, .null, .null, .int 0, .null, .null, .int 0, .null, .null, .null, .null, .null, .null, .null, .null, .int 0, .int 0, .int 0, .int 0, .int 0, .null])), (a_q1, .inl (a_c2, 160, .inl mk_Md_init_820))] H := hP
  replace hD : va_D A [(qt, .inr (10, [.int 0, .null, .null, .null, .int 0, .null, .null, .int 0, .int 0, .int 0, .null, .null, .null, .int 0, .null, .null, .int 0, .null, .null, .int 0, .null, .null, .null, .null, .null, .null, .null, .null, .int 0, .int 0, .int 0, .int 0, .int 0, .null])), (a_q1, .inl (a_c2, 160, .inl mk_Md_init_820))] := hD
  refine lv_dup hx hb d_Md_init_821 rfl ?_
  refine lv_sipush (v := (135 : Int32)) hx hb d_Md_init_822 (by decide) ?_
  refine lv_bipush (v := (30 : Int32)) hx hb d_Md_init_825 (by decide) ?_
  refine va_iast hx hb hK hP hD hS 1 0 rfl rfl (i := (135 : Int32)) (by unfold vp_in; decide) d_Md_init_827 (fun H locs hP hD hS => ?_)
  replace hP : va_P (dC, dI) cl_All [(qt, .inr (10, [.int 0, .null, .null, .null, .int 0, .null, .null, .int 0, .int 0, .int 0, .null, .null, .null, .int 0, .null, .null, .int 0, .null, .null, .int 0, .null, .null, .null, .null, .null, .null, .null, .null, .int 0, .int 0, .int 0, .int 0, .int 0, .null])), (a_q1, .inl (a_c2, 160, .inl mk_Md_init_827))] H := hP
  replace hD : va_D A [(qt, .inr (10, [.int 0, .null, .null, .null, .int 0, .null, .null, .int 0, .int 0, .int 0, .null, .null, .null, .int 0, .null, .null, .int 0, .null, .null, .int 0, .null, .null, .null, .null, .null, .null, .null, .null, .int 0, .int 0, .int 0, .int 0, .int 0, .null])), (a_q1, .inl (a_c2, 160, .inl mk_Md_init_827))] := hD
  refine lv_dup hx hb d_Md_init_828 rfl ?_
  refine lv_sipush (v := (136 : Int32)) hx hb d_Md_init_829 (by decide) ?_
  refine lv_bipush (v := (28 : Int32)) hx hb d_Md_init_832 (by decide) ?_
  refine va_iast hx hb hK hP hD hS 1 0 rfl rfl (i := (136 : Int32)) (by unfold vp_in; decide) d_Md_init_834 (fun H locs hP hD hS => ?_)
  replace hP : va_P (dC, dI) cl_All [(qt, .inr (10, [.int 0, .null, .null, .null, .int 0, .null, .null, .int 0, .int 0, .int 0, .null, .null, .null, .int 0, .null, .null, .int 0, .null, .null, .int 0, .null, .null, .null, .null, .null, .null, .null, .null, .int 0, .int 0, .int 0, .int 0, .int 0, .null])), (a_q1, .inl (a_c2, 160, .inl mk_Md_init_834))] H := hP
  replace hD : va_D A [(qt, .inr (10, [.int 0, .null, .null, .null, .int 0, .null, .null, .int 0, .int 0, .int 0, .null, .null, .null, .int 0, .null, .null, .int 0, .null, .null, .int 0, .null, .null, .null, .null, .null, .null, .null, .null, .int 0, .int 0, .int 0, .int 0, .int 0, .null])), (a_q1, .inl (a_c2, 160, .inl mk_Md_init_834))] := hD
  refine lv_dup hx hb d_Md_init_835 rfl ?_
  refine lv_sipush (v := (137 : Int32)) hx hb d_Md_init_836 (by decide) ?_
  refine lv_bipush (v := (28 : Int32)) hx hb d_Md_init_839 (by decide) ?_
  refine va_iast hx hb hK hP hD hS 1 0 rfl rfl (i := (137 : Int32)) (by unfold vp_in; decide) d_Md_init_841 (fun H locs hP hD hS => ?_)
  replace hP : va_P (dC, dI) cl_All [(qt, .inr (10, [.int 0, .null, .null, .null, .int 0, .null, .null, .int 0, .int 0, .int 0, .null, .null, .null, .int 0, .null, .null, .int 0, .null, .null, .int 0, .null, .null, .null, .null, .null, .null, .null, .null, .int 0, .int 0, .int 0, .int 0, .int 0, .null])), (a_q1, .inl (a_c2, 160, .inl mk_Md_init_841))] H := hP
  replace hD : va_D A [(qt, .inr (10, [.int 0, .null, .null, .null, .int 0, .null, .null, .int 0, .int 0, .int 0, .null, .null, .null, .int 0, .null, .null, .int 0, .null, .null, .int 0, .null, .null, .null, .null, .null, .null, .null, .null, .int 0, .int 0, .int 0, .int 0, .int 0, .null])), (a_q1, .inl (a_c2, 160, .inl mk_Md_init_841))] := hD
  refine lv_dup hx hb d_Md_init_842 rfl ?_
  refine lv_sipush (v := (138 : Int32)) hx hb d_Md_init_843 (by decide) ?_
  refine lv_bipush (v := (26 : Int32)) hx hb d_Md_init_846 (by decide) ?_
  refine va_iast hx hb hK hP hD hS 1 0 rfl rfl (i := (138 : Int32)) (by unfold vp_in; decide) d_Md_init_848 (fun H locs hP hD hS => ?_)
  replace hP : va_P (dC, dI) cl_All [(qt, .inr (10, [.int 0, .null, .null, .null, .int 0, .null, .null, .int 0, .int 0, .int 0, .null, .null, .null, .int 0, .null, .null, .int 0, .null, .null, .int 0, .null, .null, .null, .null, .null, .null, .null, .null, .int 0, .int 0, .int 0, .int 0, .int 0, .null])), (a_q1, .inl (a_c2, 160, .inl mk_Md_init_848))] H := hP
  replace hD : va_D A [(qt, .inr (10, [.int 0, .null, .null, .null, .int 0, .null, .null, .int 0, .int 0, .int 0, .null, .null, .null, .int 0, .null, .null, .int 0, .null, .null, .int 0, .null, .null, .null, .null, .null, .null, .null, .null, .int 0, .int 0, .int 0, .int 0, .int 0, .null])), (a_q1, .inl (a_c2, 160, .inl mk_Md_init_848))] := hD
  refine lv_dup hx hb d_Md_init_849 rfl ?_
  refine lv_sipush (v := (139 : Int32)) hx hb d_Md_init_850 (by decide) ?_
  refine lv_bipush (v := (28 : Int32)) hx hb d_Md_init_853 (by decide) ?_
  refine va_iast hx hb hK hP hD hS 1 0 rfl rfl (i := (139 : Int32)) (by unfold vp_in; decide) d_Md_init_855 (fun H locs hP hD hS => ?_)
  replace hP : va_P (dC, dI) cl_All [(qt, .inr (10, [.int 0, .null, .null, .null, .int 0, .null, .null, .int 0, .int 0, .int 0, .null, .null, .null, .int 0, .null, .null, .int 0, .null, .null, .int 0, .null, .null, .null, .null, .null, .null, .null, .null, .int 0, .int 0, .int 0, .int 0, .int 0, .null])), (a_q1, .inl (a_c2, 160, .inl mk_Md_init_855))] H := hP
  replace hD : va_D A [(qt, .inr (10, [.int 0, .null, .null, .null, .int 0, .null, .null, .int 0, .int 0, .int 0, .null, .null, .null, .int 0, .null, .null, .int 0, .null, .null, .int 0, .null, .null, .null, .null, .null, .null, .null, .null, .int 0, .int 0, .int 0, .int 0, .int 0, .null])), (a_q1, .inl (a_c2, 160, .inl mk_Md_init_855))] := hD
  refine lv_dup hx hb d_Md_init_856 rfl ?_
  refine lv_sipush (v := (140 : Int32)) hx hb d_Md_init_857 (by decide) ?_
  refine lv_bipush (v := (30 : Int32)) hx hb d_Md_init_860 (by decide) ?_
  refine va_iast hx hb hK hP hD hS 1 0 rfl rfl (i := (140 : Int32)) (by unfold vp_in; decide) d_Md_init_862 (fun H locs hP hD hS => ?_)
  replace hP : va_P (dC, dI) cl_All [(qt, .inr (10, [.int 0, .null, .null, .null, .int 0, .null, .null, .int 0, .int 0, .int 0, .null, .null, .null, .int 0, .null, .null, .int 0, .null, .null, .int 0, .null, .null, .null, .null, .null, .null, .null, .null, .int 0, .int 0, .int 0, .int 0, .int 0, .null])), (a_q1, .inl (a_c2, 160, .inl mk_Md_init_862))] H := hP
  replace hD : va_D A [(qt, .inr (10, [.int 0, .null, .null, .null, .int 0, .null, .null, .int 0, .int 0, .int 0, .null, .null, .null, .int 0, .null, .null, .int 0, .null, .null, .int 0, .null, .null, .null, .null, .null, .null, .null, .null, .int 0, .int 0, .int 0, .int 0, .int 0, .null])), (a_q1, .inl (a_c2, 160, .inl mk_Md_init_862))] := hD
  refine lv_dup hx hb d_Md_init_863 rfl ?_
  refine lv_sipush (v := (141 : Int32)) hx hb d_Md_init_864 (by decide) ?_
  refine lv_bipush (v := (24 : Int32)) hx hb d_Md_init_867 (by decide) ?_
  refine va_iast hx hb hK hP hD hS 1 0 rfl rfl (i := (141 : Int32)) (by unfold vp_in; decide) d_Md_init_869 (fun H locs hP hD hS => ?_)
  replace hP : va_P (dC, dI) cl_All [(qt, .inr (10, [.int 0, .null, .null, .null, .int 0, .null, .null, .int 0, .int 0, .int 0, .null, .null, .null, .int 0, .null, .null, .int 0, .null, .null, .int 0, .null, .null, .null, .null, .null, .null, .null, .null, .int 0, .int 0, .int 0, .int 0, .int 0, .null])), (a_q1, .inl (a_c2, 160, .inl mk_Md_init_869))] H := hP
  replace hD : va_D A [(qt, .inr (10, [.int 0, .null, .null, .null, .int 0, .null, .null, .int 0, .int 0, .int 0, .null, .null, .null, .int 0, .null, .null, .int 0, .null, .null, .int 0, .null, .null, .null, .null, .null, .null, .null, .null, .int 0, .int 0, .int 0, .int 0, .int 0, .null])), (a_q1, .inl (a_c2, 160, .inl mk_Md_init_869))] := hD
  refine lv_dup hx hb d_Md_init_870 rfl ?_
  refine lv_sipush (v := (142 : Int32)) hx hb d_Md_init_871 (by decide) ?_
  refine lv_bipush (v := (30 : Int32)) hx hb d_Md_init_874 (by decide) ?_
  refine va_iast hx hb hK hP hD hS 1 0 rfl rfl (i := (142 : Int32)) (by unfold vp_in; decide) d_Md_init_876 (fun H locs hP hD hS => ?_)
  replace hP : va_P (dC, dI) cl_All [(qt, .inr (10, [.int 0, .null, .null, .null, .int 0, .null, .null, .int 0, .int 0, .int 0, .null, .null, .null, .int 0, .null, .null, .int 0, .null, .null, .int 0, .null, .null, .null, .null, .null, .null, .null, .null, .int 0, .int 0, .int 0, .int 0, .int 0, .null])), (a_q1, .inl (a_c2, 160, .inl mk_Md_init_876))] H := hP
  replace hD : va_D A [(qt, .inr (10, [.int 0, .null, .null, .null, .int 0, .null, .null, .int 0, .int 0, .int 0, .null, .null, .null, .int 0, .null, .null, .int 0, .null, .null, .int 0, .null, .null, .null, .null, .null, .null, .null, .null, .int 0, .int 0, .int 0, .int 0, .int 0, .null])), (a_q1, .inl (a_c2, 160, .inl mk_Md_init_876))] := hD
  refine lv_dup hx hb d_Md_init_877 rfl ?_
  refine lv_sipush (v := (143 : Int32)) hx hb d_Md_init_878 (by decide) ?_
  refine lv_bipush (v := (30 : Int32)) hx hb d_Md_init_881 (by decide) ?_
  refine va_iast hx hb hK hP hD hS 1 0 rfl rfl (i := (143 : Int32)) (by unfold vp_in; decide) d_Md_init_883 (fun H locs hP hD hS => ?_)
  replace hP : va_P (dC, dI) cl_All [(qt, .inr (10, [.int 0, .null, .null, .null, .int 0, .null, .null, .int 0, .int 0, .int 0, .null, .null, .null, .int 0, .null, .null, .int 0, .null, .null, .int 0, .null, .null, .null, .null, .null, .null, .null, .null, .int 0, .int 0, .int 0, .int 0, .int 0, .null])), (a_q1, .inl (a_c2, 160, .inl mk_Md_init_883))] H := hP
  replace hD : va_D A [(qt, .inr (10, [.int 0, .null, .null, .null, .int 0, .null, .null, .int 0, .int 0, .int 0, .null, .null, .null, .int 0, .null, .null, .int 0, .null, .null, .int 0, .null, .null, .null, .null, .null, .null, .null, .null, .int 0, .int 0, .int 0, .int 0, .int 0, .null])), (a_q1, .inl (a_c2, 160, .inl mk_Md_init_883))] := hD
  refine lv_dup hx hb d_Md_init_884 rfl ?_
  refine lv_sipush (v := (144 : Int32)) hx hb d_Md_init_885 (by decide) ?_
  refine lv_bipush (v := (30 : Int32)) hx hb d_Md_init_888 (by decide) ?_
  refine va_iast hx hb hK hP hD hS 1 0 rfl rfl (i := (144 : Int32)) (by unfold vp_in; decide) d_Md_init_890 (fun H locs hP hD hS => ?_)
  replace hP : va_P (dC, dI) cl_All [(qt, .inr (10, [.int 0, .null, .null, .null, .int 0, .null, .null, .int 0, .int 0, .int 0, .null, .null, .null, .int 0, .null, .null, .int 0, .null, .null, .int 0, .null, .null, .null, .null, .null, .null, .null, .null, .int 0, .int 0, .int 0, .int 0, .int 0, .null])), (a_q1, .inl (a_c2, 160, .inl mk_Md_init_890))] H := hP
  replace hD : va_D A [(qt, .inr (10, [.int 0, .null, .null, .null, .int 0, .null, .null, .int 0, .int 0, .int 0, .null, .null, .null, .int 0, .null, .null, .int 0, .null, .null, .int 0, .null, .null, .null, .null, .null, .null, .null, .null, .int 0, .int 0, .int 0, .int 0, .int 0, .null])), (a_q1, .inl (a_c2, 160, .inl mk_Md_init_890))] := hD
  refine lv_dup hx hb d_Md_init_891 rfl ?_
  refine lv_sipush (v := (145 : Int32)) hx hb d_Md_init_892 (by decide) ?_
  refine lv_bipush (v := (30 : Int32)) hx hb d_Md_init_895 (by decide) ?_
  refine va_iast hx hb hK hP hD hS 1 0 rfl rfl (i := (145 : Int32)) (by unfold vp_in; decide) d_Md_init_897 (fun H locs hP hD hS => ?_)
  replace hP : va_P (dC, dI) cl_All [(qt, .inr (10, [.int 0, .null, .null, .null, .int 0, .null, .null, .int 0, .int 0, .int 0, .null, .null, .null, .int 0, .null, .null, .int 0, .null, .null, .int 0, .null, .null, .null, .null, .null, .null, .null, .null, .int 0, .int 0, .int 0, .int 0, .int 0, .null])), (a_q1, .inl (a_c2, 160, .inl mk_Md_init_897))] H := hP
  replace hD : va_D A [(qt, .inr (10, [.int 0, .null, .null, .null, .int 0, .null, .null, .int 0, .int 0, .int 0, .null, .null, .null, .int 0, .null, .null, .int 0, .null, .null, .int 0, .null, .null, .null, .null, .null, .null, .null, .null, .int 0, .int 0, .int 0, .int 0, .int 0, .null])), (a_q1, .inl (a_c2, 160, .inl mk_Md_init_897))] := hD
  refine lv_dup hx hb d_Md_init_898 rfl ?_
  refine lv_sipush (v := (146 : Int32)) hx hb d_Md_init_899 (by decide) ?_
  refine lv_bipush (v := (30 : Int32)) hx hb d_Md_init_902 (by decide) ?_
  refine va_iast hx hb hK hP hD hS 1 0 rfl rfl (i := (146 : Int32)) (by unfold vp_in; decide) d_Md_init_904 (fun H locs hP hD hS => ?_)
  replace hP : va_P (dC, dI) cl_All [(qt, .inr (10, [.int 0, .null, .null, .null, .int 0, .null, .null, .int 0, .int 0, .int 0, .null, .null, .null, .int 0, .null, .null, .int 0, .null, .null, .int 0, .null, .null, .null, .null, .null, .null, .null, .null, .int 0, .int 0, .int 0, .int 0, .int 0, .null])), (a_q1, .inl (a_c2, 160, .inl mk_Md_init_904))] H := hP
  replace hD : va_D A [(qt, .inr (10, [.int 0, .null, .null, .null, .int 0, .null, .null, .int 0, .int 0, .int 0, .null, .null, .null, .int 0, .null, .null, .int 0, .null, .null, .int 0, .null, .null, .null, .null, .null, .null, .null, .null, .int 0, .int 0, .int 0, .int 0, .int 0, .null])), (a_q1, .inl (a_c2, 160, .inl mk_Md_init_904))] := hD
  refine lv_dup hx hb d_Md_init_905 rfl ?_
  refine lv_sipush (v := (147 : Int32)) hx hb d_Md_init_906 (by decide) ?_
  refine lv_bipush (v := (30 : Int32)) hx hb d_Md_init_909 (by decide) ?_
  refine va_iast hx hb hK hP hD hS 1 0 rfl rfl (i := (147 : Int32)) (by unfold vp_in; decide) d_Md_init_911 (fun H locs hP hD hS => ?_)
  replace hP : va_P (dC, dI) cl_All [(qt, .inr (10, [.int 0, .null, .null, .null, .int 0, .null, .null, .int 0, .int 0, .int 0, .null, .null, .null, .int 0, .null, .null, .int 0, .null, .null, .int 0, .null, .null, .null, .null, .null, .null, .null, .null, .int 0, .int 0, .int 0, .int 0, .int 0, .null])), (a_q1, .inl (a_c2, 160, .inl mk_Md_init_911))] H := hP
  replace hD : va_D A [(qt, .inr (10, [.int 0, .null, .null, .null, .int 0, .null, .null, .int 0, .int 0, .int 0, .null, .null, .null, .int 0, .null, .null, .int 0, .null, .null, .int 0, .null, .null, .null, .null, .null, .null, .null, .null, .int 0, .int 0, .int 0, .int 0, .int 0, .null])), (a_q1, .inl (a_c2, 160, .inl mk_Md_init_911))] := hD
  refine lv_dup hx hb d_Md_init_912 rfl ?_
  refine lv_sipush (v := (148 : Int32)) hx hb d_Md_init_913 (by decide) ?_
  refine lv_bipush (v := (30 : Int32)) hx hb d_Md_init_916 (by decide) ?_
  refine va_iast hx hb hK hP hD hS 1 0 rfl rfl (i := (148 : Int32)) (by unfold vp_in; decide) d_Md_init_918 (fun H locs hP hD hS => ?_)
  replace hP : va_P (dC, dI) cl_All [(qt, .inr (10, [.int 0, .null, .null, .null, .int 0, .null, .null, .int 0, .int 0, .int 0, .null, .null, .null, .int 0, .null, .null, .int 0, .null, .null, .int 0, .null, .null, .null, .null, .null, .null, .null, .null, .int 0, .int 0, .int 0, .int 0, .int 0, .null])), (a_q1, .inl (a_c2, 160, .inl mk_Md_init_918))] H := hP
  replace hD : va_D A [(qt, .inr (10, [.int 0, .null, .null, .null, .int 0, .null, .null, .int 0, .int 0, .int 0, .null, .null, .null, .int 0, .null, .null, .int 0, .null, .null, .int 0, .null, .null, .null, .null, .null, .null, .null, .null, .int 0, .int 0, .int 0, .int 0, .int 0, .null])), (a_q1, .inl (a_c2, 160, .inl mk_Md_init_918))] := hD
  refine lv_dup hx hb d_Md_init_919 rfl ?_
  refine lv_sipush (v := (149 : Int32)) hx hb d_Md_init_920 (by decide) ?_
  refine lv_bipush (v := (30 : Int32)) hx hb d_Md_init_923 (by decide) ?_
  refine va_iast hx hb hK hP hD hS 1 0 rfl rfl (i := (149 : Int32)) (by unfold vp_in; decide) d_Md_init_925 (fun H locs hP hD hS => ?_)
  replace hP : va_P (dC, dI) cl_All [(qt, .inr (10, [.int 0, .null, .null, .null, .int 0, .null, .null, .int 0, .int 0, .int 0, .null, .null, .null, .int 0, .null, .null, .int 0, .null, .null, .int 0, .null, .null, .null, .null, .null, .null, .null, .null, .int 0, .int 0, .int 0, .int 0, .int 0, .null])), (a_q1, .inl (a_c2, 160, .inl mk_Md_init_925))] H := hP
  replace hD : va_D A [(qt, .inr (10, [.int 0, .null, .null, .null, .int 0, .null, .null, .int 0, .int 0, .int 0, .null, .null, .null, .int 0, .null, .null, .int 0, .null, .null, .int 0, .null, .null, .null, .null, .null, .null, .null, .null, .int 0, .int 0, .int 0, .int 0, .int 0, .null])), (a_q1, .inl (a_c2, 160, .inl mk_Md_init_925))] := hD
  refine lv_dup hx hb d_Md_init_926 rfl ?_
  refine lv_sipush (v := (150 : Int32)) hx hb d_Md_init_927 (by decide) ?_
  refine lv_bipush (v := (30 : Int32)) hx hb d_Md_init_930 (by decide) ?_
  refine va_iast hx hb hK hP hD hS 1 0 rfl rfl (i := (150 : Int32)) (by unfold vp_in; decide) d_Md_init_932 (fun H locs hP hD hS => ?_)
  replace hP : va_P (dC, dI) cl_All [(qt, .inr (10, [.int 0, .null, .null, .null, .int 0, .null, .null, .int 0, .int 0, .int 0, .null, .null, .null, .int 0, .null, .null, .int 0, .null, .null, .int 0, .null, .null, .null, .null, .null, .null, .null, .null, .int 0, .int 0, .int 0, .int 0, .int 0, .null])), (a_q1, .inl (a_c2, 160, .inl mk_Md_init_932))] H := hP
  replace hD : va_D A [(qt, .inr (10, [.int 0, .null, .null, .null, .int 0, .null, .null, .int 0, .int 0, .int 0, .null, .null, .null, .int 0, .null, .null, .int 0, .null, .null, .int 0, .null, .null, .null, .null, .null, .null, .null, .null, .int 0, .int 0, .int 0, .int 0, .int 0, .null])), (a_q1, .inl (a_c2, 160, .inl mk_Md_init_932))] := hD
  refine lv_dup hx hb d_Md_init_933 rfl ?_
  refine lv_sipush (v := (151 : Int32)) hx hb d_Md_init_934 (by decide) ?_
  refine lv_bipush (v := (30 : Int32)) hx hb d_Md_init_937 (by decide) ?_
  refine va_iast hx hb hK hP hD hS 1 0 rfl rfl (i := (151 : Int32)) (by unfold vp_in; decide) d_Md_init_939 (fun H locs hP hD hS => ?_)
  replace hP : va_P (dC, dI) cl_All [(qt, .inr (10, [.int 0, .null, .null, .null, .int 0, .null, .null, .int 0, .int 0, .int 0, .null, .null, .null, .int 0, .null, .null, .int 0, .null, .null, .int 0, .null, .null, .null, .null, .null, .null, .null, .null, .int 0, .int 0, .int 0, .int 0, .int 0, .null])), (a_q1, .inl (a_c2, 160, .inl mk_Md_init_939))] H := hP
  replace hD : va_D A [(qt, .inr (10, [.int 0, .null, .null, .null, .int 0, .null, .null, .int 0, .int 0, .int 0, .null, .null, .null, .int 0, .null, .null, .int 0, .null, .null, .int 0, .null, .null, .null, .null, .null, .null, .null, .null, .int 0, .int 0, .int 0, .int 0, .int 0, .null])), (a_q1, .inl (a_c2, 160, .inl mk_Md_init_939))] := hD
  refine lv_dup hx hb d_Md_init_940 rfl ?_
  refine lv_sipush (v := (152 : Int32)) hx hb d_Md_init_941 (by decide) ?_
  refine lv_bipush (v := (30 : Int32)) hx hb d_Md_init_944 (by decide) ?_
  refine va_iast hx hb hK hP hD hS 1 0 rfl rfl (i := (152 : Int32)) (by unfold vp_in; decide) d_Md_init_946 (fun H locs hP hD hS => ?_)
  replace hP : va_P (dC, dI) cl_All [(qt, .inr (10, [.int 0, .null, .null, .null, .int 0, .null, .null, .int 0, .int 0, .int 0, .null, .null, .null, .int 0, .null, .null, .int 0, .null, .null, .int 0, .null, .null, .null, .null, .null, .null, .null, .null, .int 0, .int 0, .int 0, .int 0, .int 0, .null])), (a_q1, .inl (a_c2, 160, .inl mk_Md_init_946))] H := hP
  replace hD : va_D A [(qt, .inr (10, [.int 0, .null, .null, .null, .int 0, .null, .null, .int 0, .int 0, .int 0, .null, .null, .null, .int 0, .null, .null, .int 0, .null, .null, .int 0, .null, .null, .null, .null, .null, .null, .null, .null, .int 0, .int 0, .int 0, .int 0, .int 0, .null])), (a_q1, .inl (a_c2, 160, .inl mk_Md_init_946))] := hD
  refine lv_dup hx hb d_Md_init_947 rfl ?_
  refine lv_sipush (v := (153 : Int32)) hx hb d_Md_init_948 (by decide) ?_
  refine lv_bipush (v := (30 : Int32)) hx hb d_Md_init_951 (by decide) ?_
  refine va_iast hx hb hK hP hD hS 1 0 rfl rfl (i := (153 : Int32)) (by unfold vp_in; decide) d_Md_init_953 (fun H locs hP hD hS => ?_)
  replace hP : va_P (dC, dI) cl_All [(qt, .inr (10, [.int 0, .null, .null, .null, .int 0, .null, .null, .int 0, .int 0, .int 0, .null, .null, .null, .int 0, .null, .null, .int 0, .null, .null, .int 0, .null, .null, .null, .null, .null, .null, .null, .null, .int 0, .int 0, .int 0, .int 0, .int 0, .null])), (a_q1, .inl (a_c2, 160, .inl mk_Md_init_953))] H := hP
  replace hD : va_D A [(qt, .inr (10, [.int 0, .null, .null, .null, .int 0, .null, .null, .int 0, .int 0, .int 0, .null, .null, .null, .int 0, .null, .null, .int 0, .null, .null, .int 0, .null, .null, .null, .null, .null, .null, .null, .null, .int 0, .int 0, .int 0, .int 0, .int 0, .null])), (a_q1, .inl (a_c2, 160, .inl mk_Md_init_953))] := hD
  refine lv_dup hx hb d_Md_init_954 rfl ?_
  refine lv_sipush (v := (154 : Int32)) hx hb d_Md_init_955 (by decide) ?_
  refine lv_bipush (v := (30 : Int32)) hx hb d_Md_init_958 (by decide) ?_
  refine va_iast hx hb hK hP hD hS 1 0 rfl rfl (i := (154 : Int32)) (by unfold vp_in; decide) d_Md_init_960 (fun H locs hP hD hS => ?_)
  replace hP : va_P (dC, dI) cl_All [(qt, .inr (10, [.int 0, .null, .null, .null, .int 0, .null, .null, .int 0, .int 0, .int 0, .null, .null, .null, .int 0, .null, .null, .int 0, .null, .null, .int 0, .null, .null, .null, .null, .null, .null, .null, .null, .int 0, .int 0, .int 0, .int 0, .int 0, .null])), (a_q1, .inl (a_c2, 160, .inl mk_Md_init_960))] H := hP
  replace hD : va_D A [(qt, .inr (10, [.int 0, .null, .null, .null, .int 0, .null, .null, .int 0, .int 0, .int 0, .null, .null, .null, .int 0, .null, .null, .int 0, .null, .null, .int 0, .null, .null, .null, .null, .null, .null, .null, .null, .int 0, .int 0, .int 0, .int 0, .int 0, .null])), (a_q1, .inl (a_c2, 160, .inl mk_Md_init_960))] := hD
  refine lv_dup hx hb d_Md_init_961 rfl ?_
  refine lv_sipush (v := (155 : Int32)) hx hb d_Md_init_962 (by decide) ?_
  refine lv_bipush (v := (30 : Int32)) hx hb d_Md_init_965 (by decide) ?_
  refine va_iast hx hb hK hP hD hS 1 0 rfl rfl (i := (155 : Int32)) (by unfold vp_in; decide) d_Md_init_967 (fun H locs hP hD hS => ?_)
  replace hP : va_P (dC, dI) cl_All [(qt, .inr (10, [.int 0, .null, .null, .null, .int 0, .null, .null, .int 0, .int 0, .int 0, .null, .null, .null, .int 0, .null, .null, .int 0, .null, .null, .int 0, .null, .null, .null, .null, .null, .null, .null, .null, .int 0, .int 0, .int 0, .int 0, .int 0, .null])), (a_q1, .inl (a_c2, 160, .inl mk_Md_init_967))] H := hP
  replace hD : va_D A [(qt, .inr (10, [.int 0, .null, .null, .null, .int 0, .null, .null, .int 0, .int 0, .int 0, .null, .null, .null, .int 0, .null, .null, .int 0, .null, .null, .int 0, .null, .null, .null, .null, .null, .null, .null, .null, .int 0, .int 0, .int 0, .int 0, .int 0, .null])), (a_q1, .inl (a_c2, 160, .inl mk_Md_init_967))] := hD
  refine lv_dup hx hb d_Md_init_968 rfl ?_
  refine lv_sipush (v := (156 : Int32)) hx hb d_Md_init_969 (by decide) ?_
  refine lv_bipush (v := (30 : Int32)) hx hb d_Md_init_972 (by decide) ?_
  refine va_iast hx hb hK hP hD hS 1 0 rfl rfl (i := (156 : Int32)) (by unfold vp_in; decide) d_Md_init_974 (fun H locs hP hD hS => ?_)
  replace hP : va_P (dC, dI) cl_All [(qt, .inr (10, [.int 0, .null, .null, .null, .int 0, .null, .null, .int 0, .int 0, .int 0, .null, .null, .null, .int 0, .null, .null, .int 0, .null, .null, .int 0, .null, .null, .null, .null, .null, .null, .null, .null, .int 0, .int 0, .int 0, .int 0, .int 0, .null])), (a_q1, .inl (a_c2, 160, .inl mk_Md_init_974))] H := hP
  replace hD : va_D A [(qt, .inr (10, [.int 0, .null, .null, .null, .int 0, .null, .null, .int 0, .int 0, .int 0, .null, .null, .null, .int 0, .null, .null, .int 0, .null, .null, .int 0, .null, .null, .null, .null, .null, .null, .null, .null, .int 0, .int 0, .int 0, .int 0, .int 0, .null])), (a_q1, .inl (a_c2, 160, .inl mk_Md_init_974))] := hD
  refine lv_dup hx hb d_Md_init_975 rfl ?_
  refine lv_sipush (v := (157 : Int32)) hx hb d_Md_init_976 (by decide) ?_
  refine lv_bipush (v := (30 : Int32)) hx hb d_Md_init_979 (by decide) ?_
  refine va_iast hx hb hK hP hD hS 1 0 rfl rfl (i := (157 : Int32)) (by unfold vp_in; decide) d_Md_init_981 (fun H locs hP hD hS => ?_)
  replace hP : va_P (dC, dI) cl_All [(qt, .inr (10, [.int 0, .null, .null, .null, .int 0, .null, .null, .int 0, .int 0, .int 0, .null, .null, .null, .int 0, .null, .null, .int 0, .null, .null, .int 0, .null, .null, .null, .null, .null, .null, .null, .null, .int 0, .int 0, .int 0, .int 0, .int 0, .null])), (a_q1, .inl (a_c2, 160, .inl mk_Md_init_981))] H := hP
  replace hD : va_D A [(qt, .inr (10, [.int 0, .null, .null, .null, .int 0, .null, .null, .int 0, .int 0, .int 0, .null, .null, .null, .int 0, .null, .null, .int 0, .null, .null, .int 0, .null, .null, .null, .null, .null, .null, .null, .null, .int 0, .int 0, .int 0, .int 0, .int 0, .null])), (a_q1, .inl (a_c2, 160, .inl mk_Md_init_981))] := hD
  refine lv_dup hx hb d_Md_init_982 rfl ?_
  refine lv_sipush (v := (158 : Int32)) hx hb d_Md_init_983 (by decide) ?_
  refine lv_bipush (v := (30 : Int32)) hx hb d_Md_init_986 (by decide) ?_
  refine va_iast hx hb hK hP hD hS 1 0 rfl rfl (i := (158 : Int32)) (by unfold vp_in; decide) d_Md_init_988 (fun H locs hP hD hS => ?_)
  replace hP : va_P (dC, dI) cl_All [(qt, .inr (10, [.int 0, .null, .null, .null, .int 0, .null, .null, .int 0, .int 0, .int 0, .null, .null, .null, .int 0, .null, .null, .int 0, .null, .null, .int 0, .null, .null, .null, .null, .null, .null, .null, .null, .int 0, .int 0, .int 0, .int 0, .int 0, .null])), (a_q1, .inl (a_c2, 160, .inl mk_Md_init_988))] H := hP
  replace hD : va_D A [(qt, .inr (10, [.int 0, .null, .null, .null, .int 0, .null, .null, .int 0, .int 0, .int 0, .null, .null, .null, .int 0, .null, .null, .int 0, .null, .null, .int 0, .null, .null, .null, .null, .null, .null, .null, .null, .int 0, .int 0, .int 0, .int 0, .int 0, .null])), (a_q1, .inl (a_c2, 160, .inl mk_Md_init_988))] := hD
  refine lv_dup hx hb d_Md_init_989 rfl ?_
  refine lv_sipush (v := (159 : Int32)) hx hb d_Md_init_990 (by decide) ?_
  refine lv_bipush (v := (30 : Int32)) hx hb d_Md_init_993 (by decide) ?_
  refine va_iast hx hb hK hP hD hS 1 0 rfl rfl (i := (159 : Int32)) (by unfold vp_in; decide) d_Md_init_995 (fun H locs hP hD hS => ?_)
  replace hP : va_P (dC, dI) cl_All [(qt, .inr (10, [.int 0, .null, .null, .null, .int 0, .null, .null, .int 0, .int 0, .int 0, .null, .null, .null, .int 0, .null, .null, .int 0, .null, .null, .int 0, .null, .null, .null, .null, .null, .null, .null, .null, .int 0, .int 0, .int 0, .int 0, .int 0, .null])), (a_q1, .inl (a_c2, 160, .inl mk_Md_init_995))] H := hP
  replace hD : va_D A [(qt, .inr (10, [.int 0, .null, .null, .null, .int 0, .null, .null, .int 0, .int 0, .int 0, .null, .null, .null, .int 0, .null, .null, .int 0, .null, .null, .int 0, .null, .null, .null, .null, .null, .null, .null, .null, .int 0, .int 0, .int 0, .int 0, .int 0, .null])), (a_q1, .inl (a_c2, 160, .inl mk_Md_init_995))] := hD
  refine va_putF (D := (dC, dI)) (ci := 10) (v := .ref a_q1) (ty := (.array .int)) (C := R_Md) (T := F_Md) (N := 34) hx hb ht i_Md t_Md t_Md_ok n_Md hown hK hP hD hS 0 rfl rfl 1 (by decide) (ht _ tb_1063) (fun _ h9 => h9) rfl hin rfl (by decide +kernel) rfl rfl (Nat.le_of_ble_eq_true rfl) d_Md_init_996 (fun H locs hP hD hS => ?_)
  replace hP : va_P (dC, dI) cl_All [(qt, .inr (10, [.int 0, .ref a_q1, .null, .null, .int 0, .null, .null, .int 0, .int 0, .int 0, .null, .null, .null, .int 0, .null, .null, .int 0, .null, .null, .int 0, .null, .null, .null, .null, .null, .null, .null, .null, .int 0, .int 0, .int 0, .int 0, .int 0, .null])), (a_q1, .inl (a_c2, 160, .inl mk_Md_init_995))] H := hP
  replace hD : va_D A [(qt, .inr (10, [.int 0, .ref a_q1, .null, .null, .int 0, .null, .null, .int 0, .int 0, .int 0, .null, .null, .null, .int 0, .null, .null, .int 0, .null, .null, .int 0, .null, .null, .null, .null, .null, .null, .null, .null, .int 0, .int 0, .int 0, .int 0, .int 0, .null])), (a_q1, .inl (a_c2, 160, .inl mk_Md_init_995))] := hD
  refine lv_aload_n hx hb d_Md_init_999 rfl (lv_at hl 0 rfl) ?_
  refine lv_sipush (v := (160 : Int32)) hx hb d_Md_init_1000 (by decide) ?_
  refine va_newa (atype := .int) hx hb (ht _ tb_49) (ty := .int) rfl hK hP hD hS hA (N' := 160) (a0 := (160, .inl (fun _ => 0))) (fun _ => rfl) (by decide) (by decide) (by decide) (Nat.le_of_ble_eq_true rfl) (Nat.le_of_ble_eq_true rfl) d_Md_init_1003 (fun a_q3 a_c4 H hK hP hD hS => ?_)
  refine W.widen (k := 2) (n := 320) (by omega) (by omega) ?_
  replace hK : va_K (dC, dI) cl_All [(a_c2, .int), (a_c4, .int)] s := hK
  replace hP : va_P (dC, dI) cl_All [(qt, .inr (10, [.int 0, .ref a_q1, .null, .null, .int 0, .null, .null, .int 0, .int 0, .int 0, .null, .null, .null, .int 0, .null, .null, .int 0, .null, .null, .int 0, .null, .null, .null, .null, .null, .null, .null, .null, .int 0, .int 0, .int 0, .int 0, .int 0, .null])), (a_q1, .inl (a_c2, 160, .inl mk_Md_init_995)), (a_q3, .inl (a_c4, 160, .inl (fun _ => 0)))] H := hP
  replace hD : va_D A [(qt, .inr (10, [.int 0, .ref a_q1, .null, .null, .int 0, .null, .null, .int 0, .int 0, .int 0, .null, .null, .null, .int 0, .null, .null, .int 0, .null, .null, .int 0, .null, .null, .null, .null, .null, .null, .null, .null, .int 0, .int 0, .int 0, .int 0, .int 0, .null])), (a_q1, .inl (a_c2, 160, .inl mk_Md_init_995)), (a_q3, .inl (a_c4, 160, .inl (fun _ => 0)))] := hD
  refine lv_dup hx hb d_Md_init_1005 rfl ?_
  refine lv_iconst (v := (0 : Int32)) hx hb d_Md_init_1006 (by decide) ?_
  refine lv_iconst (v := (1 : Int32)) hx hb d_Md_init_1007 (by decide) ?_
  refine va_iast hx hb hK hP hD hS 2 1 rfl rfl (i := (0 : Int32)) (by unfold vp_in; decide) d_Md_init_1008 (fun H locs hP hD hS => ?_)
  replace hP : va_P (dC, dI) cl_All [(qt, .inr (10, [.int 0, .ref a_q1, .null, .null, .int 0, .null, .null, .int 0, .int 0, .int 0, .null, .null, .null, .int 0, .null, .null, .int 0, .null, .null, .int 0, .null, .null, .null, .null, .null, .null, .null, .null, .int 0, .int 0, .int 0, .int 0, .int 0, .null])), (a_q1, .inl (a_c2, 160, .inl mk_Md_init_995)), (a_q3, .inl (a_c4, 160, .inl mk_Md_init_1008))] H := hP
  replace hD : va_D A [(qt, .inr (10, [.int 0, .ref a_q1, .null, .null, .int 0, .null, .null, .int 0, .int 0, .int 0, .null, .null, .null, .int 0, .null, .null, .int 0, .null, .null, .int 0, .null, .null, .null, .null, .null, .null, .null, .null, .int 0, .int 0, .int 0, .int 0, .int 0, .null])), (a_q1, .inl (a_c2, 160, .inl mk_Md_init_995)), (a_q3, .inl (a_c4, 160, .inl mk_Md_init_1008))] := hD
  refine lv_dup hx hb d_Md_init_1009 rfl ?_
  refine lv_iconst (v := (1 : Int32)) hx hb d_Md_init_1010 (by decide) ?_
  refine lv_iconst (v := (1 : Int32)) hx hb d_Md_init_1011 (by decide) ?_
  refine va_iast hx hb hK hP hD hS 2 1 rfl rfl (i := (1 : Int32)) (by unfold vp_in; decide) d_Md_init_1012 (fun H locs hP hD hS => ?_)
  replace hP : va_P (dC, dI) cl_All [(qt, .inr (10, [.int 0, .ref a_q1, .null, .null, .int 0, .null, .null, .int 0, .int 0, .int 0, .null, .null, .null, .int 0, .null, .null, .int 0, .null, .null, .int 0, .null, .null, .null, .null, .null, .null, .null, .null, .int 0, .int 0, .int 0, .int 0, .int 0, .null])), (a_q1, .inl (a_c2, 160, .inl mk_Md_init_995)), (a_q3, .inl (a_c4, 160, .inl mk_Md_init_1012))] H := hP
  replace hD : va_D A [(qt, .inr (10, [.int 0, .ref a_q1, .null, .null, .int 0, .null, .null, .int 0, .int 0, .int 0, .null, .null, .null, .int 0, .null, .null, .int 0, .null, .null, .int 0, .null, .null, .null, .null, .null, .null, .null, .null, .int 0, .int 0, .int 0, .int 0, .int 0, .null])), (a_q1, .inl (a_c2, 160, .inl mk_Md_init_995)), (a_q3, .inl (a_c4, 160, .inl mk_Md_init_1012))] := hD
  refine lv_dup hx hb d_Md_init_1013 rfl ?_
  refine lv_iconst (v := (2 : Int32)) hx hb d_Md_init_1014 (by decide) ?_
  refine lv_iconst (v := (1 : Int32)) hx hb d_Md_init_1015 (by decide) ?_
  refine va_iast hx hb hK hP hD hS 2 1 rfl rfl (i := (2 : Int32)) (by unfold vp_in; decide) d_Md_init_1016 (fun H locs hP hD hS => ?_)
  replace hP : va_P (dC, dI) cl_All [(qt, .inr (10, [.int 0, .ref a_q1, .null, .null, .int 0, .null, .null, .int 0, .int 0, .int 0, .null, .null, .null, .int 0, .null, .null, .int 0, .null, .null, .int 0, .null, .null, .null, .null, .null, .null, .null, .null, .int 0, .int 0, .int 0, .int 0, .int 0, .null])), (a_q1, .inl (a_c2, 160, .inl mk_Md_init_995)), (a_q3, .inl (a_c4, 160, .inl mk_Md_init_1016))] H := hP
  replace hD : va_D A [(qt, .inr (10, [.int 0, .ref a_q1, .null, .null, .int 0, .null, .null, .int 0, .int 0, .int 0, .null, .null, .null, .int 0, .null, .null, .int 0, .null, .null, .int 0, .null, .null, .null, .null, .null, .null, .null, .null, .int 0, .int 0, .int 0, .int 0, .int 0, .null])), (a_q1, .inl (a_c2, 160, .inl mk_Md_init_995)), (a_q3, .inl (a_c4, 160, .inl mk_Md_init_1016))] := hD
  refine lv_dup hx hb d_Md_init_1017 rfl ?_
  refine lv_iconst (v := (3 : Int32)) hx hb d_Md_init_1018 (by decide) ?_
  refine lv_iconst (v := (1 : Int32)) hx hb d_Md_init_1019 (by decide) ?_
  refine va_iast hx hb hK hP hD hS 2 1 rfl rfl (i := (3 : Int32)) (by unfold vp_in; decide) d_Md_init_1020 (fun H locs hP hD hS => ?_)
  replace hP : va_P (dC, dI) cl_All [(qt, .inr (10, [.int 0, .ref a_q1, .null, .null, .int 0, .null, .null, .int 0, .int 0, .int 0, .null, .null, .null, .int 0, .null, .null, .int 0, .null, .null, .int 0, .null, .null, .null, .null, .null, .null, .null, .null, .int 0, .int 0, .int 0, .int 0, .int 0, .null])), (a_q1, .inl (a_c2, 160, .inl mk_Md_init_995)), (a_q3, .inl (a_c4, 160, .inl mk_Md_init_1020))] H := hP
  replace hD : va_D A [(qt, .inr (10, [.int 0, .ref a_q1, .null, .null, .int 0, .null, .null, .int 0, .int 0, .int 0, .null, .null, .null, .int 0, .null, .null, .int 0, .null, .null, .int 0, .null, .null, .null, .null, .null, .null, .null, .null, .int 0, .int 0, .int 0, .int 0, .int 0, .null])), (a_q1, .inl (a_c2, 160, .inl mk_Md_init_995)), (a_q3, .inl (a_c4, 160, .inl mk_Md_init_1020))] := hD
  refine lv_dup hx hb d_Md_init_1021 rfl ?_
  refine lv_iconst (v := (4 : Int32)) hx hb d_Md_init_1022 (by decide) ?_
  refine lv_iconst (v := (1 : Int32)) hx hb d_Md_init_1023 (by decide) ?_
  refine va_iast hx hb hK hP hD hS 2 1 rfl rfl (i := (4 : Int32)) (by unfold vp_in; decide) d_Md_init_1024 (fun H locs hP hD hS => ?_)
  replace hP : va_P (dC, dI) cl_All [(qt, .inr (10, [.int 0, .ref a_q1, .null, .null, .int 0, .null, .null, .int 0, .int 0, .int 0, .null, .null, .null, .int 0, .null, .null, .int 0, .null, .null, .int 0, .null, .null, .null, .null, .null, .null, .null, .null, .int 0, .int 0, .int 0, .int 0, .int 0, .null])), (a_q1, .inl (a_c2, 160, .inl mk_Md_init_995)), (a_q3, .inl (a_c4, 160, .inl mk_Md_init_1024))] H := hP
  replace hD : va_D A [(qt, .inr (10, [.int 0, .ref a_q1, .null, .null, .int 0, .null, .null, .int 0, .int 0, .int 0, .null, .null, .null, .int 0, .null, .null, .int 0, .null, .null, .int 0, .null, .null, .null, .null, .null, .null, .null, .null, .int 0, .int 0, .int 0, .int 0, .int 0, .null])), (a_q1, .inl (a_c2, 160, .inl mk_Md_init_995)), (a_q3, .inl (a_c4, 160, .inl mk_Md_init_1024))] := hD
  refine lv_dup hx hb d_Md_init_1025 rfl ?_
  refine lv_iconst (v := (5 : Int32)) hx hb d_Md_init_1026 (by decide) ?_
  refine lv_iconst (v := (2 : Int32)) hx hb d_Md_init_1027 (by decide) ?_
  refine va_iast hx hb hK hP hD hS 2 1 rfl rfl (i := (5 : Int32)) (by unfold vp_in; decide) d_Md_init_1028 (fun H locs hP hD hS => ?_)
  replace hP : va_P (dC, dI) cl_All [(qt, .inr (10, [.int 0, .ref a_q1, .null, .null, .int 0, .null, .null, .int 0, .int 0, .int 0, .null, .null, .null, .int 0, .null, .null, .int 0, .null, .null, .int 0, .null, .null, .null, .null, .null, .null, .null, .null, .int 0, .int 0, .int 0, .int 0, .int 0, .null])), (a_q1, .inl (a_c2, 160, .inl mk_Md_init_995)), (a_q3, .inl (a_c4, 160, .inl mk_Md_init_1028))] H := hP
  replace hD : va_D A [(qt, .inr (10, [.int 0, .ref a_q1, .null, .null, .int 0, .null, .null, .int 0, .int 0, .int 0, .null, .null, .null, .int 0, .null, .null, .int 0, .null, .null, .int 0, .null, .null, .null, .null, .null, .null, .null, .null, .int 0, .int 0, .int 0, .int 0, .int 0, .null])), (a_q1, .inl (a_c2, 160, .inl mk_Md_init_995)), (a_q3, .inl (a_c4, 160, .inl mk_Md_init_1028))] := hD
  refine lv_dup hx hb d_Md_init_1029 rfl ?_
  refine lv_bipush (v := (6 : Int32)) hx hb d_Md_init_1030 (by decide) ?_
  refine lv_iconst (v := (2 : Int32)) hx hb d_Md_init_1032 (by decide) ?_
  refine va_iast hx hb hK hP hD hS 2 1 rfl rfl (i := (6 : Int32)) (by unfold vp_in; decide) d_Md_init_1033 (fun H locs hP hD hS => ?_)
  replace hP : va_P (dC, dI) cl_All [(qt, .inr (10, [.int 0, .ref a_q1, .null, .null, .int 0, .null, .null, .int 0, .int 0, .int 0, .null, .null, .null, .int 0, .null, .null, .int 0, .null, .null, .int 0, .null, .null, .null, .null, .null, .null, .null, .null, .int 0, .int 0, .int 0, .int 0, .int 0, .null])), (a_q1, .inl (a_c2, 160, .inl mk_Md_init_995)), (a_q3, .inl (a_c4, 160, .inl mk_Md_init_1033))] H := hP
  replace hD : va_D A [(qt, .inr (10, [.int 0, .ref a_q1, .null, .null, .int 0, .null, .null, .int 0, .int 0, .int 0, .null, .null, .null, .int 0, .null, .null, .int 0, .null, .null, .int 0, .null, .null, .null, .null, .null, .null, .null, .null, .int 0, .int 0, .int 0, .int 0, .int 0, .null])), (a_q1, .inl (a_c2, 160, .inl mk_Md_init_995)), (a_q3, .inl (a_c4, 160, .inl mk_Md_init_1033))] := hD
  refine lv_dup hx hb d_Md_init_1034 rfl ?_
  refine lv_bipush (v := (7 : Int32)) hx hb d_Md_init_1035 (by decide) ?_
  refine lv_iconst (v := (2 : Int32)) hx hb d_Md_init_1037 (by decide) ?_
  refine va_iast hx hb hK hP hD hS 2 1 rfl rfl (i := (7 : Int32)) (by unfold vp_in; decide) d_Md_init_1038 (fun H locs hP hD hS => ?_)
  replace hP : va_P (dC, dI) cl_All [(qt, .inr (10, [.int 0, .ref a_q1, .null, .null, .int 0, .null, .null, .int 0, .int 0, .int 0, .null, .null, .null, .int 0, .null, .null, .int 0, .null, .null, .int 0, .null, .null, .null, .null, .null, .null, .null, .null, .int 0, .int 0, .int 0, .int 0, .int 0, .null])), (a_q1, .inl (a_c2, 160, .inl mk_Md_init_995)), (a_q3, .inl (a_c4, 160, .inl mk_Md_init_1038))] H := hP
  replace hD : va_D A [(qt, .inr (10, [.int 0, .ref a_q1, .null, .null, .int 0, .null, .null, .int 0, .int 0, .int 0, .null, .null, .null, .int 0, .null, .null, .int 0, .null, .null, .int 0, .null, .null, .null, .null, .null, .null, .null, .null, .int 0, .int 0, .int 0, .int 0, .int 0, .null])), (a_q1, .inl (a_c2, 160, .inl mk_Md_init_995)), (a_q3, .inl (a_c4, 160, .inl mk_Md_init_1038))] := hD
  refine lv_dup hx hb d_Md_init_1039 rfl ?_
  refine lv_bipush (v := (8 : Int32)) hx hb d_Md_init_1040 (by decide) ?_
  refine lv_iconst (v := (2 : Int32)) hx hb d_Md_init_1042 (by decide) ?_
  refine va_iast hx hb hK hP hD hS 2 1 rfl rfl (i := (8 : Int32)) (by unfold vp_in; decide) d_Md_init_1043 (fun H locs hP hD hS => ?_)
  replace hP : va_P (dC, dI) cl_All [(qt, .inr (10, [.int 0, .ref a_q1, .null, .null, .int 0, .null, .null, .int 0, .int 0, .int 0, .null, .null, .null, .int 0, .null, .null, .int 0, .null, .null, .int 0, .null, .null, .null, .null, .null, .null, .null, .null, .int 0, .int 0, .int 0, .int 0, .int 0, .null])), (a_q1, .inl (a_c2, 160, .inl mk_Md_init_995)), (a_q3, .inl (a_c4, 160, .inl mk_Md_init_1043))] H := hP
  replace hD : va_D A [(qt, .inr (10, [.int 0, .ref a_q1, .null, .null, .int 0, .null, .null, .int 0, .int 0, .int 0, .null, .null, .null, .int 0, .null, .null, .int 0, .null, .null, .int 0, .null, .null, .null, .null, .null, .null, .null, .null, .int 0, .int 0, .int 0, .int 0, .int 0, .null])), (a_q1, .inl (a_c2, 160, .inl mk_Md_init_995)), (a_q3, .inl (a_c4, 160, .inl mk_Md_init_1043))] := hD
  refine lv_dup hx hb d_Md_init_1044 rfl ?_
  refine lv_bipush (v := (9 : Int32)) hx hb d_Md_init_1045 (by decide) ?_
  refine lv_iconst (v := (4 : Int32)) hx hb d_Md_init_1047 (by decide) ?_
  refine va_iast hx hb hK hP hD hS 2 1 rfl rfl (i := (9 : Int32)) (by unfold vp_in; decide) d_Md_init_1048 (fun H locs hP hD hS => ?_)
  replace hP : va_P (dC, dI) cl_All [(qt, .inr (10, [.int 0, .ref a_q1, .null, .null, .int 0, .null, .null, .int 0, .int 0, .int 0, .null, .null, .null, .int 0, .null, .null, .int 0, .null, .null, .int 0, .null, .null, .null, .null, .null, .null, .null, .null, .int 0, .int 0, .int 0, .int 0, .int 0, .null])), (a_q1, .inl (a_c2, 160, .inl mk_Md_init_995)), (a_q3, .inl (a_c4, 160, .inl mk_Md_init_1048))] H := hP
  replace hD : va_D A [(qt, .inr (10, [.int 0, .ref a_q1, .null, .null, .int 0, .null, .null, .int 0, .int 0, .int 0, .null, .null, .null, .int 0, .null, .null, .int 0, .null, .null, .int 0, .null, .null, .null, .null, .null, .null, .null, .null, .int 0, .int 0, .int 0, .int 0, .int 0, .null])), (a_q1, .inl (a_c2, 160, .inl mk_Md_init_995)), (a_q3, .inl (a_c4, 160, .inl mk_Md_init_1048))] := hD
  refine lv_dup hx hb d_Md_init_1049 rfl ?_
  refine lv_bipush (v := (10 : Int32)) hx hb d_Md_init_1050 (by decide) ?_
  refine lv_iconst (v := (4 : Int32)) hx hb d_Md_init_1052 (by decide) ?_
  refine va_iast hx hb hK hP hD hS 2 1 rfl rfl (i := (10 : Int32)) (by unfold vp_in; decide) d_Md_init_1053 (fun H locs hP hD hS => ?_)
  replace hP : va_P (dC, dI) cl_All [(qt, .inr (10, [.int 0, .ref a_q1, .null, .null, .int 0, .null, .null, .int 0, .int 0, .int 0, .null, .null, .null, .int 0, .null, .null, .int 0, .null, .null, .int 0, .null, .null, .null, .null, .null, .null, .null, .null, .int 0, .int 0, .int 0, .int 0, .int 0, .null])), (a_q1, .inl (a_c2, 160, .inl mk_Md_init_995)), (a_q3, .inl (a_c4, 160, .inl mk_Md_init_1053))] H := hP
  replace hD : va_D A [(qt, .inr (10, [.int 0, .ref a_q1, .null, .null, .int 0, .null, .null, .int 0, .int 0, .int 0, .null, .null, .null, .int 0, .null, .null, .int 0, .null, .null, .int 0, .null, .null, .null, .null, .null, .null, .null, .null, .int 0, .int 0, .int 0, .int 0, .int 0, .null])), (a_q1, .inl (a_c2, 160, .inl mk_Md_init_995)), (a_q3, .inl (a_c4, 160, .inl mk_Md_init_1053))] := hD
  refine lv_dup hx hb d_Md_init_1054 rfl ?_
  refine lv_bipush (v := (11 : Int32)) hx hb d_Md_init_1055 (by decide) ?_
  refine lv_iconst (v := (4 : Int32)) hx hb d_Md_init_1057 (by decide) ?_
  refine va_iast hx hb hK hP hD hS 2 1 rfl rfl (i := (11 : Int32)) (by unfold vp_in; decide) d_Md_init_1058 (fun H locs hP hD hS => ?_)
  replace hP : va_P (dC, dI) cl_All [(qt, .inr (10, [.int 0, .ref a_q1, .null, .null, .int 0, .null, .null, .int 0, .int 0, .int 0, .null, .null, .null, .int 0, .null, .null, .int 0, .null, .null, .int 0, .null, .null, .null, .null, .null, .null, .null, .null, .int 0, .int 0, .int 0, .int 0, .int 0, .null])), (a_q1, .inl (a_c2, 160, .inl mk_Md_init_995)), (a_q3, .inl (a_c4, 160, .inl mk_Md_init_1058))] H := hP
  replace hD : va_D A [(qt, .inr (10, [.int 0, .ref a_q1, .null, .null, .int 0, .null, .null, .int 0, .int 0, .int 0, .null, .null, .null, .int 0, .null, .null, .int 0, .null, .null, .int 0, .null, .null, .null, .null, .null, .null, .null, .null, .int 0, .int 0, .int 0, .int 0, .int 0, .null])), (a_q1, .inl (a_c2, 160, .inl mk_Md_init_995)), (a_q3, .inl (a_c4, 160, .inl mk_Md_init_1058))] := hD
  refine lv_dup hx hb d_Md_init_1059 rfl ?_
  refine lv_bipush (v := (12 : Int32)) hx hb d_Md_init_1060 (by decide) ?_
  refine lv_iconst (v := (4 : Int32)) hx hb d_Md_init_1062 (by decide) ?_
  refine va_iast hx hb hK hP hD hS 2 1 rfl rfl (i := (12 : Int32)) (by unfold vp_in; decide) d_Md_init_1063 (fun H locs hP hD hS => ?_)
  replace hP : va_P (dC, dI) cl_All [(qt, .inr (10, [.int 0, .ref a_q1, .null, .null, .int 0, .null, .null, .int 0, .int 0, .int 0, .null, .null, .null, .int 0, .null, .null, .int 0, .null, .null, .int 0, .null, .null, .null, .null, .null, .null, .null, .null, .int 0, .int 0, .int 0, .int 0, .int 0, .null])), (a_q1, .inl (a_c2, 160, .inl mk_Md_init_995)), (a_q3, .inl (a_c4, 160, .inl mk_Md_init_1063))] H := hP
  replace hD : va_D A [(qt, .inr (10, [.int 0, .ref a_q1, .null, .null, .int 0, .null, .null, .int 0, .int 0, .int 0, .null, .null, .null, .int 0, .null, .null, .int 0, .null, .null, .int 0, .null, .null, .null, .null, .null, .null, .null, .null, .int 0, .int 0, .int 0, .int 0, .int 0, .null])), (a_q1, .inl (a_c2, 160, .inl mk_Md_init_995)), (a_q3, .inl (a_c4, 160, .inl mk_Md_init_1063))] := hD
  refine lv_dup hx hb d_Md_init_1064 rfl ?_
  refine lv_bipush (v := (13 : Int32)) hx hb d_Md_init_1065 (by decide) ?_
  refine lv_iconst (v := (4 : Int32)) hx hb d_Md_init_1067 (by decide) ?_
  refine va_iast hx hb hK hP hD hS 2 1 rfl rfl (i := (13 : Int32)) (by unfold vp_in; decide) d_Md_init_1068 (fun H locs hP hD hS => ?_)
  replace hP : va_P (dC, dI) cl_All [(qt, .inr (10, [.int 0, .ref a_q1, .null, .null, .int 0, .null, .null, .int 0, .int 0, .int 0, .null, .null, .null, .int 0, .null, .null, .int 0, .null, .null, .int 0, .null, .null, .null, .null, .null, .null, .null, .null, .int 0, .int 0, .int 0, .int 0, .int 0, .null])), (a_q1, .inl (a_c2, 160, .inl mk_Md_init_995)), (a_q3, .inl (a_c4, 160, .inl mk_Md_init_1068))] H := hP
  replace hD : va_D A [(qt, .inr (10, [.int 0, .ref a_q1, .null, .null, .int 0, .null, .null, .int 0, .int 0, .int 0, .null, .null, .null, .int 0, .null, .null, .int 0, .null, .null, .int 0, .null, .null, .null, .null, .null, .null, .null, .null, .int 0, .int 0, .int 0, .int 0, .int 0, .null])), (a_q1, .inl (a_c2, 160, .inl mk_Md_init_995)), (a_q3, .inl (a_c4, 160, .inl mk_Md_init_1068))] := hD
  refine lv_dup hx hb d_Md_init_1069 rfl ?_
  refine lv_bipush (v := (14 : Int32)) hx hb d_Md_init_1070 (by decide) ?_
  refine lv_bipush (v := (6 : Int32)) hx hb d_Md_init_1072 (by decide) ?_
  refine va_iast hx hb hK hP hD hS 2 1 rfl rfl (i := (14 : Int32)) (by unfold vp_in; decide) d_Md_init_1074 (fun H locs hP hD hS => ?_)
  replace hP : va_P (dC, dI) cl_All [(qt, .inr (10, [.int 0, .ref a_q1, .null, .null, .int 0, .null, .null, .int 0, .int 0, .int 0, .null, .null, .null, .int 0, .null, .null, .int 0, .null, .null, .int 0, .null, .null, .null, .null, .null, .null, .null, .null, .int 0, .int 0, .int 0, .int 0, .int 0, .null])), (a_q1, .inl (a_c2, 160, .inl mk_Md_init_995)), (a_q3, .inl (a_c4, 160, .inl mk_Md_init_1074))] H := hP
  replace hD : va_D A [(qt, .inr (10, [.int 0, .ref a_q1, .null, .null, .int 0, .null, .null, .int 0, .int 0, .int 0, .null, .null, .null, .int 0, .null, .null, .int 0, .null, .null, .int 0, .null, .null, .null, .null, .null, .null, .null, .null, .int 0, .int 0, .int 0, .int 0, .int 0, .null])), (a_q1, .inl (a_c2, 160, .inl mk_Md_init_995)), (a_q3, .inl (a_c4, 160, .inl mk_Md_init_1074))] := hD
  refine lv_dup hx hb d_Md_init_1075 rfl ?_
  refine lv_bipush (v := (15 : Int32)) hx hb d_Md_init_1076 (by decide) ?_
  refine lv_bipush (v := (6 : Int32)) hx hb d_Md_init_1078 (by decide) ?_
  refine va_iast hx hb hK hP hD hS 2 1 rfl rfl (i := (15 : Int32)) (by unfold vp_in; decide) d_Md_init_1080 (fun H locs hP hD hS => ?_)
  replace hP : va_P (dC, dI) cl_All [(qt, .inr (10, [.int 0, .ref a_q1, .null, .null, .int 0, .null, .null, .int 0, .int 0, .int 0, .null, .null, .null, .int 0, .null, .null, .int 0, .null, .null, .int 0, .null, .null, .null, .null, .null, .null, .null, .null, .int 0, .int 0, .int 0, .int 0, .int 0, .null])), (a_q1, .inl (a_c2, 160, .inl mk_Md_init_995)), (a_q3, .inl (a_c4, 160, .inl mk_Md_init_1080))] H := hP
  replace hD : va_D A [(qt, .inr (10, [.int 0, .ref a_q1, .null, .null, .int 0, .null, .null, .int 0, .int 0, .int 0, .null, .null, .null, .int 0, .null, .null, .int 0, .null, .null, .int 0, .null, .null, .null, .null, .null, .null, .null, .null, .int 0, .int 0, .int 0, .int 0, .int 0, .null])), (a_q1, .inl (a_c2, 160, .inl mk_Md_init_995)), (a_q3, .inl (a_c4, 160, .inl mk_Md_init_1080))] := hD
  refine lv_dup hx hb d_Md_init_1081 rfl ?_
  refine lv_bipush (v := (16 : Int32)) hx hb d_Md_init_1082 (by decide) ?_
  refine lv_bipush (v := (6 : Int32)) hx hb d_Md_init_1084 (by decide) ?_
  refine va_iast hx hb hK hP hD hS 2 1 rfl rfl (i := (16 : Int32)) (by unfold vp_in; decide) d_Md_init_1086 (fun H locs hP hD hS => ?_)
  replace hP : va_P (dC, dI) cl_All [(qt, .inr (10, [.int 0, .ref a_q1, .null, .null, .int 0, .null, .null, .int 0, .int 0, .int 0, .null, .null, .null, .int 0, .null, .null, .int 0, .null, .null, .int 0, .null, .null, .null, .null, .null, .null, .null, .null, .int 0, .int 0, .int 0, .int 0, .int 0, .null])), (a_q1, .inl (a_c2, 160, .inl mk_Md_init_995)), (a_q3, .inl (a_c4, 160, .inl mk_Md_init_1086))] H := hP
  replace hD : va_D A [(qt, .inr (10, [.int 0, .ref a_q1, .null, .null, .int 0, .null, .null, .int 0, .int 0, .int 0, .null, .null, .null, .int 0, .null, .null, .int 0, .null, .null, .int 0, .null, .null, .null, .null, .null, .null, .null, .null, .int 0, .int 0, .int 0, .int 0, .int 0, .null])), (a_q1, .inl (a_c2, 160, .inl mk_Md_init_995)), (a_q3, .inl (a_c4, 160, .inl mk_Md_init_1086))] := hD
  refine lv_dup hx hb d_Md_init_1087 rfl ?_
  refine lv_bipush (v := (17 : Int32)) hx hb d_Md_init_1088 (by decide) ?_
  refine lv_bipush (v := (6 : Int32)) hx hb d_Md_init_1090 (by decide) ?_
  refine va_iast hx hb hK hP hD hS 2 1 rfl rfl (i := (17 : Int32)) (by unfold vp_in; decide) d_Md_init_1092 (fun H locs hP hD hS => ?_)
  replace hP : va_P (dC, dI) cl_All [(qt, .inr (10, [.int 0, .ref a_q1, .null, .null, .int 0, .null, .null, .int 0, .int 0, .int 0, .null, .null, .null, .int 0, .null, .null, .int 0, .null, .null, .int 0, .null, .null, .null, .null, .null, .null, .null, .null, .int 0, .int 0, .int 0, .int 0, .int 0, .null])), (a_q1, .inl (a_c2, 160, .inl mk_Md_init_995)), (a_q3, .inl (a_c4, 160, .inl mk_Md_init_1092))] H := hP
  replace hD : va_D A [(qt, .inr (10, [.int 0, .ref a_q1, .null, .null, .int 0, .null, .null, .int 0, .int 0, .int 0, .null, .null, .null, .int 0, .null, .null, .int 0, .null, .null, .int 0, .null, .null, .null, .null, .null, .null, .null, .null, .int 0, .int 0, .int 0, .int 0, .int 0, .null])), (a_q1, .inl (a_c2, 160, .inl mk_Md_init_995)), (a_q3, .inl (a_c4, 160, .inl mk_Md_init_1092))] := hD
  refine lv_dup hx hb d_Md_init_1093 rfl ?_
  refine lv_bipush (v := (18 : Int32)) hx hb d_Md_init_1094 (by decide) ?_
  refine lv_bipush (v := (7 : Int32)) hx hb d_Md_init_1096 (by decide) ?_
  refine va_iast hx hb hK hP hD hS 2 1 rfl rfl (i := (18 : Int32)) (by unfold vp_in; decide) d_Md_init_1098 (fun H locs hP hD hS => ?_)
  replace hP : va_P (dC, dI) cl_All [(qt, .inr (10, [.int 0, .ref a_q1, .null, .null, .int 0, .null, .null, .int 0, .int 0, .int 0, .null, .null, .null, .int 0, .null, .null, .int 0, .null, .null, .int 0, .null, .null, .null, .null, .null, .null, .null, .null, .int 0, .int 0, .int 0, .int 0, .int 0, .null])), (a_q1, .inl (a_c2, 160, .inl mk_Md_init_995)), (a_q3, .inl (a_c4, 160, .inl mk_Md_init_1098))] H := hP
  replace hD : va_D A [(qt, .inr (10, [.int 0, .ref a_q1, .null, .null, .int 0, .null, .null, .int 0, .int 0, .int 0, .null, .null, .null, .int 0, .null, .null, .int 0, .null, .null, .int 0, .null, .null, .null, .null, .null, .null, .null, .null, .int 0, .int 0, .int 0, .int 0, .int 0, .null])), (a_q1, .inl (a_c2, 160, .inl mk_Md_init_995)), (a_q3, .inl (a_c4, 160, .inl mk_Md_init_1098))] := hD
  refine lv_dup hx hb d_Md_init_1099 rfl ?_
  refine lv_bipush (v := (19 : Int32)) hx hb d_Md_init_1100 (by decide) ?_
  refine lv_bipush (v := (8 : Int32)) hx hb d_Md_init_1102 (by decide) ?_
  refine va_iast hx hb hK hP hD hS 2 1 rfl rfl (i := (19 : Int32)) (by unfold vp_in; decide) d_Md_init_1104 (fun H locs hP hD hS => ?_)
  replace hP : va_P (dC, dI) cl_All [(qt, .inr (10, [.int 0, .ref a_q1, .null, .null, .int 0, .null, .null, .int 0, .int 0, .int 0, .null, .null, .null, .int 0, .null, .null, .int 0, .null, .null, .int 0, .null, .null, .null, .null, .null, .null, .null, .null, .int 0, .int 0, .int 0, .int 0, .int 0, .null])), (a_q1, .inl (a_c2, 160, .inl mk_Md_init_995)), (a_q3, .inl (a_c4, 160, .inl mk_Md_init_1104))] H := hP
  replace hD : va_D A [(qt, .inr (10, [.int 0, .ref a_q1, .null, .null, .int 0, .null, .null, .int 0, .int 0, .int 0, .null, .null, .null, .int 0, .null, .null, .int 0, .null, .null, .int 0, .null, .null, .null, .null, .null, .null, .null, .null, .int 0, .int 0, .int 0, .int 0, .int 0, .null])), (a_q1, .inl (a_c2, 160, .inl mk_Md_init_995)), (a_q3, .inl (a_c4, 160, .inl mk_Md_init_1104))] := hD
  refine lv_dup hx hb d_Md_init_1105 rfl ?_
  refine lv_bipush (v := (20 : Int32)) hx hb d_Md_init_1106 (by decide) ?_
  refine lv_bipush (v := (8 : Int32)) hx hb d_Md_init_1108 (by decide) ?_
  refine va_iast hx hb hK hP hD hS 2 1 rfl rfl (i := (20 : Int32)) (by unfold vp_in; decide) d_Md_init_1110 (fun H locs hP hD hS => ?_)
  replace hP : va_P (dC, dI) cl_All [(qt, .inr (10, [.int 0, .ref a_q1, .null, .null, .int 0, .null, .null, .int 0, .int 0, .int 0, .null, .null, .null, .int 0, .null, .null, .int 0, .null, .null, .int 0, .null, .null, .null, .null, .null, .null, .null, .null, .int 0, .int 0, .int 0, .int 0, .int 0, .null])), (a_q1, .inl (a_c2, 160, .inl mk_Md_init_995)), (a_q3, .inl (a_c4, 160, .inl mk_Md_init_1110))] H := hP
  replace hD : va_D A [(qt, .inr (10, [.int 0, .ref a_q1, .null, .null, .int 0, .null, .null, .int 0, .int 0, .int 0, .null, .null, .null, .int 0, .null, .null, .int 0, .null, .null, .int 0, .null, .null, .null, .null, .null, .null, .null, .null, .int 0, .int 0, .int 0, .int 0, .int 0, .null])), (a_q1, .inl (a_c2, 160, .inl mk_Md_init_995)), (a_q3, .inl (a_c4, 160, .inl mk_Md_init_1110))] := hD
  refine lv_dup hx hb d_Md_init_1111 rfl ?_
  refine lv_bipush (v := (21 : Int32)) hx hb d_Md_init_1112 (by decide) ?_
  refine lv_bipush (v := (9 : Int32)) hx hb d_Md_init_1114 (by decide) ?_
  refine va_iast hx hb hK hP hD hS 2 1 rfl rfl (i := (21 : Int32)) (by unfold vp_in; decide) d_Md_init_1116 (fun H locs hP hD hS => ?_)
  replace hP : va_P (dC, dI) cl_All [(qt, .inr (10, [.int 0, .ref a_q1, .null, .null, .int 0, .null, .null, .int 0, .int 0, .int 0, .null, .null, .null, .int 0, .null, .null, .int 0, .null, .null, .int 0, .null, .null, .null, .null, .null, .null, .null, .null, .int 0, .int 0, .int 0, .int 0, .int 0, .null])), (a_q1, .inl (a_c2, 160, .inl mk_Md_init_995)), (a_q3, .inl (a_c4, 160, .inl mk_Md_init_1116))] H := hP
  replace hD : va_D A [(qt, .inr (10, [.int 0, .ref a_q1, .null, .null, .int 0, .null, .null, .int 0, .int 0, .int 0, .null, .null, .null, .int 0, .null, .null, .int 0, .null, .null, .int 0, .null, .null, .null, .null, .null, .null, .null, .null, .int 0, .int 0, .int 0, .int 0, .int 0, .null])), (a_q1, .inl (a_c2, 160, .inl mk_Md_init_995)), (a_q3, .inl (a_c4, 160, .inl mk_Md_init_1116))] := hD
  refine lv_dup hx hb d_Md_init_1117 rfl ?_
  refine lv_bipush (v := (22 : Int32)) hx hb d_Md_init_1118 (by decide) ?_
  refine lv_bipush (v := (9 : Int32)) hx hb d_Md_init_1120 (by decide) ?_
  refine va_iast hx hb hK hP hD hS 2 1 rfl rfl (i := (22 : Int32)) (by unfold vp_in; decide) d_Md_init_1122 (fun H locs hP hD hS => ?_)
  replace hP : va_P (dC, dI) cl_All [(qt, .inr (10, [.int 0, .ref a_q1, .null, .null, .int 0, .null, .null, .int 0, .int 0, .int 0, .null, .null, .null, .int 0, .null, .null, .int 0, .null, .null, .int 0, .null, .null, .null, .null, .null, .null, .null, .null, .int 0, .int 0, .int 0, .int 0, .int 0, .null])), (a_q1, .inl (a_c2, 160, .inl mk_Md_init_995)), (a_q3, .inl (a_c4, 160, .inl mk_Md_init_1122))] H := hP
  replace hD : va_D A [(qt, .inr (10, [.int 0, .ref a_q1, .null, .null, .int 0, .null, .null, .int 0, .int 0, .int 0, .null, .null, .null, .int 0, .null, .null, .int 0, .null, .null, .int 0, .null, .null, .null, .null, .null, .null, .null, .null, .int 0, .int 0, .int 0, .int 0, .int 0, .null])), (a_q1, .inl (a_c2, 160, .inl mk_Md_init_995)), (a_q3, .inl (a_c4, 160, .inl mk_Md_init_1122))] := hD
  refine lv_dup hx hb d_Md_init_1123 rfl ?_
  refine lv_bipush (v := (23 : Int32)) hx hb d_Md_init_1124 (by decide) ?_
  refine lv_bipush (v := (10 : Int32)) hx hb d_Md_init_1126 (by decide) ?_
  refine va_iast hx hb hK hP hD hS 2 1 rfl rfl (i := (23 : Int32)) (by unfold vp_in; decide) d_Md_init_1128 (fun H locs hP hD hS => ?_)
  replace hP : va_P (dC, dI) cl_All [(qt, .inr (10, [.int 0, .ref a_q1, .null, .null, .int 0, .null, .null, .int 0, .int 0, .int 0, .null, .null, .null, .int 0, .null, .null, .int 0, .null, .null, .int 0, .null, .null, .null, .null, .null, .null, .null, .null, .int 0, .int 0, .int 0, .int 0, .int 0, .null])), (a_q1, .inl (a_c2, 160, .inl mk_Md_init_995)), (a_q3, .inl (a_c4, 160, .inl mk_Md_init_1128))] H := hP
  replace hD : va_D A [(qt, .inr (10, [.int 0, .ref a_q1, .null, .null, .int 0, .null, .null, .int 0, .int 0, .int 0, .null, .null, .null, .int 0, .null, .null, .int 0, .null, .null, .int 0, .null, .null, .null, .null, .null, .null, .null, .null, .int 0, .int 0, .int 0, .int 0, .int 0, .null])), (a_q1, .inl (a_c2, 160, .inl mk_Md_init_995)), (a_q3, .inl (a_c4, 160, .inl mk_Md_init_1128))] := hD
  refine lv_dup hx hb d_Md_init_1129 rfl ?_
  refine lv_bipush (v := (24 : Int32)) hx hb d_Md_init_1130 (by decide) ?_
  refine lv_bipush (v := (12 : Int32)) hx hb d_Md_init_1132 (by decide) ?_
  refine va_iast hx hb hK hP hD hS 2 1 rfl rfl (i := (24 : Int32)) (by unfold vp_in; decide) d_Md_init_1134 (fun H locs hP hD hS => ?_)
  replace hP : va_P (dC, dI) cl_All [(qt, .inr (10, [.int 0, .ref a_q1, .null, .null, .int 0, .null, .null, .int 0, .int 0, .int 0, .null, .null, .null, .int 0, .null, .null, .int 0, .null, .null, .int 0, .null, .null, .null, .null, .null, .null, .null, .null, .int 0, .int 0, .int 0, .int 0, .int 0, .null])), (a_q1, .inl (a_c2, 160, .inl mk_Md_init_995)), (a_q3, .inl (a_c4, 160, .inl mk_Md_init_1134))] H := hP
  replace hD : va_D A [(qt, .inr (10, [.int 0, .ref a_q1, .null, .null, .int 0, .null, .null, .int 0, .int 0, .int 0, .null, .null, .null, .int 0, .null, .null, .int 0, .null, .null, .int 0, .null, .null, .null, .null, .null, .null, .null, .null, .int 0, .int 0, .int 0, .int 0, .int 0, .null])), (a_q1, .inl (a_c2, 160, .inl mk_Md_init_995)), (a_q3, .inl (a_c4, 160, .inl mk_Md_init_1134))] := hD
  refine lv_dup hx hb d_Md_init_1135 rfl ?_
  refine lv_bipush (v := (25 : Int32)) hx hb d_Md_init_1136 (by decide) ?_
  refine lv_bipush (v := (12 : Int32)) hx hb d_Md_init_1138 (by decide) ?_
  refine va_iast hx hb hK hP hD hS 2 1 rfl rfl (i := (25 : Int32)) (by unfold vp_in; decide) d_Md_init_1140 (fun H locs hP hD hS => ?_)
  replace hP : va_P (dC, dI) cl_All [(qt, .inr (10, [.int 0, .ref a_q1, .null, .null, .int 0, .null, .null, .int 0, .int 0, .int 0, .null, .null, .null, .int 0, .null, .null, .int 0, .null, .null, .int 0, .null, .null, .null, .null, .null, .null, .null, .null, .int 0, .int 0, .int 0, .int 0, .int 0, .null])), (a_q1, .inl (a_c2, 160, .inl mk_Md_init_995)), (a_q3, .inl (a_c4, 160, .inl mk_Md_init_1140))] H := hP
  replace hD : va_D A [(qt, .inr (10, [.int 0, .ref a_q1, .null, .null, .int 0, .null, .null, .int 0, .int 0, .int 0, .null, .null, .null, .int 0, .null, .null, .int 0, .null, .null, .int 0, .null, .null, .null, .null, .null, .null, .null, .null, .int 0, .int 0, .int 0, .int 0, .int 0, .null])), (a_q1, .inl (a_c2, 160, .inl mk_Md_init_995)), (a_q3, .inl (a_c4, 160, .inl mk_Md_init_1140))] := hD
  refine lv_dup hx hb d_Md_init_1141 rfl ?_
  refine lv_bipush (v := (26 : Int32)) hx hb d_Md_init_1142 (by decide) ?_
  refine lv_bipush (v := (12 : Int32)) hx hb d_Md_init_1144 (by decide) ?_
  refine va_iast hx hb hK hP hD hS 2 1 rfl rfl (i := (26 : Int32)) (by unfold vp_in; decide) d_Md_init_1146 (fun H locs hP hD hS => ?_)
  replace hP : va_P (dC, dI) cl_All [(qt, .inr (10, [.int 0, .ref a_q1, .null, .null, .int 0, .null, .null, .int 0, .int 0, .int 0, .null, .null, .null, .int 0, .null, .null, .int 0, .null, .null, .int 0, .null, .null, .null, .null, .null, .null, .null, .null, .int 0, .int 0, .int 0, .int 0, .int 0, .null])), (a_q1, .inl (a_c2, 160, .inl mk_Md_init_995)), (a_q3, .inl (a_c4, 160, .inl mk_Md_init_1146))] H := hP
  replace hD : va_D A [(qt, .inr (10, [.int 0, .ref a_q1, .null, .null, .int 0, .null, .null, .int 0, .int 0, .int 0, .null, .null, .null, .int 0, .null, .null, .int 0, .null, .null, .int 0, .null, .null, .null, .null, .null, .null, .null, .null, .int 0, .int 0, .int 0, .int 0, .int 0, .null])), (a_q1, .inl (a_c2, 160, .inl mk_Md_init_995)), (a_q3, .inl (a_c4, 160, .inl mk_Md_init_1146))] := hD
  refine lv_dup hx hb d_Md_init_1147 rfl ?_
  refine lv_bipush (v := (27 : Int32)) hx hb d_Md_init_1148 (by decide) ?_
  refine lv_bipush (v := (13 : Int32)) hx hb d_Md_init_1150 (by decide) ?_
  refine va_iast hx hb hK hP hD hS 2 1 rfl rfl (i := (27 : Int32)) (by unfold vp_in; decide) d_Md_init_1152 (fun H locs hP hD hS => ?_)
  replace hP : va_P (dC, dI) cl_All [(qt, .inr (10, [.int 0, .ref a_q1, .null, .null, .int 0, .null, .null, .int 0, .int 0, .int 0, .null, .null, .null, .int 0, .null, .null, .int 0, .null, .null, .int 0, .null, .null, .null, .null, .null, .null, .null, .null, .int 0, .int 0, .int 0, .int 0, .int 0, .null])), (a_q1, .inl (a_c2, 160, .inl mk_Md_init_995)), (a_q3, .inl (a_c4, 160, .inl mk_Md_init_1152))] H := hP
  replace hD : va_D A [(qt, .inr (10, [.int 0, .ref a_q1, .null, .null, .int 0, .null, .null, .int 0, .int 0, .int 0, .null, .null, .null, .int 0, .null, .null, .int 0, .null, .null, .int 0, .null, .null, .null, .null, .null, .null, .null, .null, .int 0, .int 0, .int 0, .int 0, .int 0, .null])), (a_q1, .inl (a_c2, 160, .inl mk_Md_init_995)), (a_q3, .inl (a_c4, 160, .inl mk_Md_init_1152))] := hD
  refine lv_dup hx hb d_Md_init_1153 rfl ?_
  refine lv_bipush (v := (28 : Int32)) hx hb d_Md_init_1154 (by decide) ?_
  refine lv_bipush (v := (14 : Int32)) hx hb d_Md_init_1156 (by decide) ?_
  refine va_iast hx hb hK hP hD hS 2 1 rfl rfl (i := (28 : Int32)) (by unfold vp_in; decide) d_Md_init_1158 (fun H locs hP hD hS => ?_)
  replace hP : va_P (dC, dI) cl_All [(qt, .inr (10, [.int 0, .ref a_q1, .null, .null, .int 0, .null, .null, .int 0, .int 0, .int 0, .null, .null, .null, .int 0, .null, .null, .int 0, .null, .null, .int 0, .null, .null, .null, .null, .null, .null, .null, .null, .int 0, .int 0, .int 0, .int 0, .int 0, .null])), (a_q1, .inl (a_c2, 160, .inl mk_Md_init_995)), (a_q3, .inl (a_c4, 160, .inl mk_Md_init_1158))] H := hP
  replace hD : va_D A [(qt, .inr (10, [.int 0, .ref a_q1, .null, .null, .int 0, .null, .null, .int 0, .int 0, .int 0, .null, .null, .null, .int 0, .null, .null, .int 0, .null, .null, .int 0, .null, .null, .null, .null, .null, .null, .null, .null, .int 0, .int 0, .int 0, .int 0, .int 0, .null])), (a_q1, .inl (a_c2, 160, .inl mk_Md_init_995)), (a_q3, .inl (a_c4, 160, .inl mk_Md_init_1158))] := hD
  refine lv_dup hx hb d_Md_init_1159 rfl ?_
  refine lv_bipush (v := (29 : Int32)) hx hb d_Md_init_1160 (by decide) ?_
  refine lv_bipush (v := (15 : Int32)) hx hb d_Md_init_1162 (by decide) ?_
  refine va_iast hx hb hK hP hD hS 2 1 rfl rfl (i := (29 : Int32)) (by unfold vp_in; decide) d_Md_init_1164 (fun H locs hP hD hS => ?_)
  replace hP : va_P (dC, dI) cl_All [(qt, .inr (10, [.int 0, .ref a_q1, .null, .null, .int 0, .null, .null, .int 0, .int 0, .int 0, .null, .null, .null, .int 0, .null, .null, .int 0, .null, .null, .int 0, .null, .null, .null, .null, .null, .null, .null, .null, .int 0, .int 0, .int 0, .int 0, .int 0, .null])), (a_q1, .inl (a_c2, 160, .inl mk_Md_init_995)), (a_q3, .inl (a_c4, 160, .inl mk_Md_init_1164))] H := hP
  replace hD : va_D A [(qt, .inr (10, [.int 0, .ref a_q1, .null, .null, .int 0, .null, .null, .int 0, .int 0, .int 0, .null, .null, .null, .int 0, .null, .null, .int 0, .null, .null, .int 0, .null, .null, .null, .null, .null, .null, .null, .null, .int 0, .int 0, .int 0, .int 0, .int 0, .null])), (a_q1, .inl (a_c2, 160, .inl mk_Md_init_995)), (a_q3, .inl (a_c4, 160, .inl mk_Md_init_1164))] := hD
  refine lv_dup hx hb d_Md_init_1165 rfl ?_
  refine lv_bipush (v := (30 : Int32)) hx hb d_Md_init_1166 (by decide) ?_
  refine lv_bipush (v := (16 : Int32)) hx hb d_Md_init_1168 (by decide) ?_
  refine va_iast hx hb hK hP hD hS 2 1 rfl rfl (i := (30 : Int32)) (by unfold vp_in; decide) d_Md_init_1170 (fun H locs hP hD hS => ?_)
  replace hP : va_P (dC, dI) cl_All [(qt, .inr (10, [.int 0, .ref a_q1, .null, .null, .int 0, .null, .null, .int 0, .int 0, .int 0, .null, .null, .null, .int 0, .null, .null, .int 0, .null, .null, .int 0, .null, .null, .null, .null, .null, .null, .null, .null, .int 0, .int 0, .int 0, .int 0, .int 0, .null])), (a_q1, .inl (a_c2, 160, .inl mk_Md_init_995)), (a_q3, .inl (a_c4, 160, .inl mk_Md_init_1170))] H := hP
  replace hD : va_D A [(qt, .inr (10, [.int 0, .ref a_q1, .null, .null, .int 0, .null, .null, .int 0, .int 0, .int 0, .null, .null, .null, .int 0, .null, .null, .int 0, .null, .null, .int 0, .null, .null, .null, .null, .null, .null, .null, .null, .int 0, .int 0, .int 0, .int 0, .int 0, .null])), (a_q1, .inl (a_c2, 160, .inl mk_Md_init_995)), (a_q3, .inl (a_c4, 160, .inl mk_Md_init_1170))] := hD
  refine lv_dup hx hb d_Md_init_1171 rfl ?_
  refine lv_bipush (v := (31 : Int32)) hx hb d_Md_init_1172 (by decide) ?_
  refine lv_bipush (v := (17 : Int32)) hx hb d_Md_init_1174 (by decide) ?_
  refine va_iast hx hb hK hP hD hS 2 1 rfl rfl (i := (31 : Int32)) (by unfold vp_in; decide) d_Md_init_1176 (fun H locs hP hD hS => ?_)
  replace hP : va_P (dC, dI) cl_All [(qt, .inr (10, [.int 0, .ref a_q1, .null, .null, .int 0, .null, .null, .int 0, .int 0, .int 0, .null, .null, .null, .int 0, .null, .null, .int 0, .null, .null, .int 0, .null, .null, .null, .null, .null, .null, .null, .null, .int 0, .int 0, .int 0, .int 0, .int 0, .null])), (a_q1, .inl (a_c2, 160, .inl mk_Md_init_995)), (a_q3, .inl (a_c4, 160, .inl mk_Md_init_1176))] H := hP
  replace hD : va_D A [(qt, .inr (10, [.int 0, .ref a_q1, .null, .null, .int 0, .null, .null, .int 0, .int 0, .int 0, .null, .null, .null, .int 0, .null, .null, .int 0, .null, .null, .int 0, .null, .null, .null, .null, .null, .null, .null, .null, .int 0, .int 0, .int 0, .int 0, .int 0, .null])), (a_q1, .inl (a_c2, 160, .inl mk_Md_init_995)), (a_q3, .inl (a_c4, 160, .inl mk_Md_init_1176))] := hD
  refine lv_dup hx hb d_Md_init_1177 rfl ?_
  refine lv_bipush (v := (32 : Int32)) hx hb d_Md_init_1178 (by decide) ?_
  refine lv_bipush (v := (18 : Int32)) hx hb d_Md_init_1180 (by decide) ?_
  refine va_iast hx hb hK hP hD hS 2 1 rfl rfl (i := (32 : Int32)) (by unfold vp_in; decide) d_Md_init_1182 (fun H locs hP hD hS => ?_)
  replace hP : va_P (dC, dI) cl_All [(qt, .inr (10, [.int 0, .ref a_q1, .null, .null, .int 0, .null, .null, .int 0, .int 0, .int 0, .null, .null, .null, .int 0, .null, .null, .int 0, .null, .null, .int 0, .null, .null, .null, .null, .null, .null, .null, .null, .int 0, .int 0, .int 0, .int 0, .int 0, .null])), (a_q1, .inl (a_c2, 160, .inl mk_Md_init_995)), (a_q3, .inl (a_c4, 160, .inl mk_Md_init_1182))] H := hP
  replace hD : va_D A [(qt, .inr (10, [.int 0, .ref a_q1, .null, .null, .int 0, .null, .null, .int 0, .int 0, .int 0, .null, .null, .null, .int 0, .null, .null, .int 0, .null, .null, .int 0, .null, .null, .null, .null, .null, .null, .null, .null, .int 0, .int 0, .int 0, .int 0, .int 0, .null])), (a_q1, .inl (a_c2, 160, .inl mk_Md_init_995)), (a_q3, .inl (a_c4, 160, .inl mk_Md_init_1182))] := hD
  refine lv_dup hx hb d_Md_init_1183 rfl ?_
  refine lv_bipush (v := (33 : Int32)) hx hb d_Md_init_1184 (by decide) ?_
  refine lv_bipush (v := (19 : Int32)) hx hb d_Md_init_1186 (by decide) ?_
  refine va_iast hx hb hK hP hD hS 2 1 rfl rfl (i := (33 : Int32)) (by unfold vp_in; decide) d_Md_init_1188 (fun H locs hP hD hS => ?_)
  replace hP : va_P (dC, dI) cl_All [(qt, .inr (10, [.int 0, .ref a_q1, .null, .null, .int 0, .null, .null, .int 0, .int 0, .int 0, .null, .null, .null, .int 0, .null, .null, .int 0, .null, .null, .int 0, .null, .null, .null, .null, .null, .null, .null, .null, .int 0, .int 0, .int 0, .int 0, .int 0, .null])), (a_q1, .inl (a_c2, 160, .inl mk_Md_init_995)), (a_q3, .inl (a_c4, 160, .inl mk_Md_init_1188))] H := hP
  replace hD : va_D A [(qt, .inr (10, [.int 0, .ref a_q1, .null, .null, .int 0, .null, .null, .int 0, .int 0, .int 0, .null, .null, .null, .int 0, .null, .null, .int 0, .null, .null, .int 0, .null, .null, .null, .null, .null, .null, .null, .null, .int 0, .int 0, .int 0, .int 0, .int 0, .null])), (a_q1, .inl (a_c2, 160, .inl mk_Md_init_995)), (a_q3, .inl (a_c4, 160, .inl mk_Md_init_1188))] := hD
  refine lv_dup hx hb d_Md_init_1189 rfl ?_
  refine lv_bipush (v := (34 : Int32)) hx hb d_Md_init_1190 (by decide) ?_
  refine lv_bipush (v := (19 : Int32)) hx hb d_Md_init_1192 (by decide) ?_
  refine va_iast hx hb hK hP hD hS 2 1 rfl rfl (i := (34 : Int32)) (by unfold vp_in; decide) d_Md_init_1194 (fun H locs hP hD hS => ?_)
  replace hP : va_P (dC, dI) cl_All [(qt, .inr (10, [.int 0, .ref a_q1, .null, .null, .int 0, .null, .null, .int 0, .int 0, .int 0, .null, .null, .null, .int 0, .null, .null, .int 0, .null, .null, .int 0, .null, .null, .null, .null, .null, .null, .null, .null, .int 0, .int 0, .int 0, .int 0, .int 0, .null])), (a_q1, .inl (a_c2, 160, .inl mk_Md_init_995)), (a_q3, .inl (a_c4, 160, .inl mk_Md_init_1194))] H := hP
  replace hD : va_D A [(qt, .inr (10, [.int 0, .ref a_q1, .null, .null, .int 0, .null, .null, .int 0, .int 0, .int 0, .null, .null, .null, .int 0, .null, .null, .int 0, .null, .null, .int 0, .null, .null, .null, .null, .null, .null, .null, .null, .int 0, .int 0, .int 0, .int 0, .int 0, .null])), (a_q1, .inl (a_c2, 160, .inl mk_Md_init_995)), (a_q3, .inl (a_c4, 160, .inl mk_Md_init_1194))] := hD
  refine lv_dup hx hb d_Md_init_1195 rfl ?_
  refine lv_bipush (v := (35 : Int32)) hx hb d_Md_init_1196 (by decide) ?_
  refine lv_bipush (v := (20 : Int32)) hx hb d_Md_init_1198 (by decide) ?_
  refine va_iast hx hb hK hP hD hS 2 1 rfl rfl (i := (35 : Int32)) (by unfold vp_in; decide) d_Md_init_1200 (fun H locs hP hD hS => ?_)
  replace hP : va_P (dC, dI) cl_All [(qt, .inr (10, [.int 0, .ref a_q1, .null, .null, .int 0, .null, .null, .int 0, .int 0, .int 0, .null, .null, .null, .int 0, .null, .null, .int 0, .null, .null, .int 0, .null, .null, .null, .null, .null, .null, .null, .null, .int 0, .int 0, .int 0, .int 0, .int 0, .null])), (a_q1, .inl (a_c2, 160, .inl mk_Md_init_995)), (a_q3, .inl (a_c4, 160, .inl mk_Md_init_1200))] H := hP
  replace hD : va_D A [(qt, .inr (10, [.int 0, .ref a_q1, .null, .null, .int 0, .null, .null, .int 0, .int 0, .int 0, .null, .null, .null, .int 0, .null, .null, .int 0, .null, .null, .int 0, .null, .null, .null, .null, .null, .null, .null, .null, .int 0, .int 0, .int 0, .int 0, .int 0, .null])), (a_q1, .inl (a_c2, 160, .inl mk_Md_init_995)), (a_q3, .inl (a_c4, 160, .inl mk_Md_init_1200))] := hD
  refine lv_dup hx hb d_Md_init_1201 rfl ?_
  refine lv_bipush (v := (36 : Int32)) hx hb d_Md_init_1202 (by decide) ?_
  refine lv_bipush (v := (21 : Int32)) hx hb d_Md_init_1204 (by decide) ?_
  refine va_iast hx hb hK hP hD hS 2 1 rfl rfl (i := (36 : Int32)) (by unfold vp_in; decide) d_Md_init_1206 (fun H locs hP hD hS => ?_)
  replace hP : va_P (dC, dI) cl_All [(qt, .inr (10, [.int 0, .ref a_q1, .null, .null, .int 0, .null, .null, .int 0, .int 0, .int 0, .null, .null, .null, .int 0, .null, .null, .int 0, .null, .null, .int 0, .null, .null, .null, .null, .null, .null, .null, .null, .int 0, .int 0, .int 0, .int 0, .int 0, .null])), (a_q1, .inl (a_c2, 160, .inl mk_Md_init_995)), (a_q3, .inl (a_c4, 160, .inl mk_Md_init_1206))] H := hP
  replace hD : va_D A [(qt, .inr (10, [.int 0, .ref a_q1, .null, .null, .int 0, .null, .null, .int 0, .int 0, .int 0, .null, .null, .null, .int 0, .null, .null, .int 0, .null, .null, .int 0, .null, .null, .null, .null, .null, .null, .null, .null, .int 0, .int 0, .int 0, .int 0, .int 0, .null])), (a_q1, .inl (a_c2, 160, .inl mk_Md_init_995)), (a_q3, .inl (a_c4, 160, .inl mk_Md_init_1206))] := hD
  refine lv_dup hx hb d_Md_init_1207 rfl ?_
  refine lv_bipush (v := (37 : Int32)) hx hb d_Md_init_1208 (by decide) ?_
  refine lv_bipush (v := (22 : Int32)) hx hb d_Md_init_1210 (by decide) ?_
  refine va_iast hx hb hK hP hD hS 2 1 rfl rfl (i := (37 : Int32)) (by unfold vp_in; decide) d_Md_init_1212 (fun H locs hP hD hS => ?_)
  replace hP : va_P (dC, dI) cl_All [(qt, .inr (10, [.int 0, .ref a_q1, .null, .null, .int 0, .null, .null, .int 0, .int 0, .int 0, .null, .null, .null, .int 0, .null, .null, .int 0, .null, .null, .int 0, .null, .null, .null, .null, .null, .null, .null, .null, .int 0, .int 0, .int 0, .int 0, .int 0, .null])), (a_q1, .inl (a_c2, 160, .inl mk_Md_init_995)), (a_q3, .inl (a_c4, 160, .inl mk_Md_init_1212))] H := hP
  replace hD : va_D A [(qt, .inr (10, [.int 0, .ref a_q1, .null, .null, .int 0, .null, .null, .int 0, .int 0, .int 0, .null, .null, .null, .int 0, .null, .null, .int 0, .null, .null, .int 0, .null, .null, .null, .null, .null, .null, .null, .null, .int 0, .int 0, .int 0, .int 0, .int 0, .null])), (a_q1, .inl (a_c2, 160, .inl mk_Md_init_995)), (a_q3, .inl (a_c4, 160, .inl mk_Md_init_1212))] := hD
  refine lv_dup hx hb d_Md_init_1213 rfl ?_
  refine lv_bipush (v := (38 : Int32)) hx hb d_Md_init_1214 (by decide) ?_
  refine lv_bipush (v := (24 : Int32)) hx hb d_Md_init_1216 (by decide) ?_
  refine va_iast hx hb hK hP hD hS 2 1 rfl rfl (i := (38 : Int32)) (by unfold vp_in; decide) d_Md_init_1218 (fun H locs hP hD hS => ?_)
  replace hP : va_P (dC, dI) cl_All [(qt, .inr (10, [.int 0, .ref a_q1, .null, .null, .int 0, .null, .null, .int 0, .int 0, .int 0, .null, .null, .null, .int 0, .null, .null, .int 0, .null, .null, .int 0, .null, .null, .null, .null, .null, .null, .null, .null, .int 0, .int 0, .int 0, .int 0, .int 0, .null])), (a_q1, .inl (a_c2, 160, .inl mk_Md_init_995)), (a_q3, .inl (a_c4, 160, .inl mk_Md_init_1218))] H := hP
  replace hD : va_D A [(qt, .inr (10, [.int 0, .ref a_q1, .null, .null, .int 0, .null, .null, .int 0, .int 0, .int 0, .null, .null, .null, .int 0, .null, .null, .int 0, .null, .null, .int 0, .null, .null, .null, .null, .null, .null, .null, .null, .int 0, .int 0, .int 0, .int 0, .int 0, .null])), (a_q1, .inl (a_c2, 160, .inl mk_Md_init_995)), (a_q3, .inl (a_c4, 160, .inl mk_Md_init_1218))] := hD
  refine lv_dup hx hb d_Md_init_1219 rfl ?_
  refine lv_bipush (v := (39 : Int32)) hx hb d_Md_init_1220 (by decide) ?_
  refine lv_bipush (v := (25 : Int32)) hx hb d_Md_init_1222 (by decide) ?_
  refine va_iast hx hb hK hP hD hS 2 1 rfl rfl (i := (39 : Int32)) (by unfold vp_in; decide) d_Md_init_1224 (fun H locs hP hD hS => ?_)
  replace hP : va_P (dC, dI) cl_All [(qt, .inr (10, [.int 0, .ref a_q1, .null, .null, .int 0, .null, .null, .int 0, .int 0, .int 0, .null, .null, .null, .int 0, .null, .null, .int 0, .null, .null, .int 0, .null, .null, .null, .null, .null, .null, .null, .null, .int 0, .int 0, .int 0, .int 0, .int 0, .null])), (a_q1, .inl (a_c2, 160, .inl mk_Md_init_995)), (a_q3, .inl (a_c4, 160, .inl mk_Md_init_1224))] H := hP
  replace hD : va_D A [(qt, .inr (10, [.int 0, .ref a_q1, .null, .null, .int 0, .null, .null, .int 0, .int 0, .int 0, .null, .null, .null, .int 0, .null, .null, .int 0, .null, .null, .int 0, .null, .null, .null, .null, .null, .null, .null, .null, .int 0, .int 0, .int 0, .int 0, .int 0, .null])), (a_q1, .inl (a_c2, 160, .inl mk_Md_init_995)), (a_q3, .inl (a_c4, 160, .inl mk_Md_init_1224))] := hD
  refine lv_dup hx hb d_Md_init_1225 rfl ?_
  refine lv_bipush (v := (40 : Int32)) hx hb d_Md_init_1226 (by decide) ?_
  refine lv_iconst (v := (1 : Int32)) hx hb d_Md_init_1228 (by decide) ?_
  refine va_iast hx hb hK hP hD hS 2 1 rfl rfl (i := (40 : Int32)) (by unfold vp_in; decide) d_Md_init_1229 (fun H locs hP hD hS => ?_)
  replace hP : va_P (dC, dI) cl_All [(qt, .inr (10, [.int 0, .ref a_q1, .null, .null, .int 0, .null, .null, .int 0, .int 0, .int 0, .null, .null, .null, .int 0, .null, .null, .int 0, .null, .null, .int 0, .null, .null, .null, .null, .null, .null, .null, .null, .int 0, .int 0, .int 0, .int 0, .int 0, .null])), (a_q1, .inl (a_c2, 160, .inl mk_Md_init_995)), (a_q3, .inl (a_c4, 160, .inl mk_Md_init_1229))] H := hP
  replace hD : va_D A [(qt, .inr (10, [.int 0, .ref a_q1, .null, .null, .int 0, .null, .null, .int 0, .int 0, .int 0, .null, .null, .null, .int 0, .null, .null, .int 0, .null, .null, .int 0, .null, .null, .null, .null, .null, .null, .null, .null, .int 0, .int 0, .int 0, .int 0, .int 0, .null])), (a_q1, .inl (a_c2, 160, .inl mk_Md_init_995)), (a_q3, .inl (a_c4, 160, .inl mk_Md_init_1229))] := hD
  refine lv_dup hx hb d_Md_init_1230 rfl ?_
  refine lv_bipush (v := (41 : Int32)) hx hb d_Md_init_1231 (by decide) ?_
  refine lv_iconst (v := (1 : Int32)) hx hb d_Md_init_1233 (by decide) ?_
  refine va_iast hx hb hK hP hD hS 2 1 rfl rfl (i := (41 : Int32)) (by unfold vp_in; decide) d_Md_init_1234 (fun H locs hP hD hS => ?_)
  replace hP : va_P (dC, dI) cl_All [(qt, .inr (10, [.int 0, .ref a_q1, .null, .null, .int 0, .null, .null, .int 0, .int 0, .int 0, .null, .null, .null, .int 0, .null, .null, .int 0, .null, .null, .int 0, .null, .null, .null, .null, .null, .null, .null, .null, .int 0, .int 0, .int 0, .int 0, .int 0, .null])), (a_q1, .inl (a_c2, 160, .inl mk_Md_init_995)), (a_q3, .inl (a_c4, 160, .inl mk_Md_init_1234))] H := hP
  replace hD : va_D A [(qt, .inr (10, [.int 0, .ref a_q1, .null, .null, .int 0, .null, .null, .int 0, .int 0, .int 0, .null, .null, .null, .int 0, .null, .null, .int 0, .null, .null, .int 0, .null, .null, .null, .null, .null, .null, .null, .null, .int 0, .int 0, .int 0, .int 0, .int 0, .null])), (a_q1, .inl (a_c2, 160, .inl mk_Md_init_995)), (a_q3, .inl (a_c4, 160, .inl mk_Md_init_1234))] := hD
  refine lv_dup hx hb d_Md_init_1235 rfl ?_
  refine lv_bipush (v := (42 : Int32)) hx hb d_Md_init_1236 (by decide) ?_
  refine lv_iconst (v := (1 : Int32)) hx hb d_Md_init_1238 (by decide) ?_
  refine va_iast hx hb hK hP hD hS 2 1 rfl rfl (i := (42 : Int32)) (by unfold vp_in; decide) d_Md_init_1239 (fun H locs hP hD hS => ?_)
  replace hP : va_P (dC, dI) cl_All [(qt, .inr (10, [.int 0, .ref a_q1, .null, .null, .int 0, .null, .null, .int 0, .int 0, .int 0, .null, .null, .null, .int 0, .null, .null, .int 0, .null, .null, .int 0, .null, .null, .null, .null, .null, .null, .null, .null, .int 0, .int 0, .int 0, .int 0, .int 0, .null])), (a_q1, .inl (a_c2, 160, .inl mk_Md_init_995)), (a_q3, .inl (a_c4, 160, .inl mk_Md_init_1239))] H := hP
  replace hD : va_D A [(qt, .inr (10, [.int 0, .ref a_q1, .null, .null, .int 0, .null, .null, .int 0, .int 0, .int 0, .null, .null, .null, .int 0, .null, .null, .int 0, .null, .null, .int 0, .null, .null, .null, .null, .null, .null, .null, .null, .int 0, .int 0, .int 0, .int 0, .int 0, .null])), (a_q1, .inl (a_c2, 160, .inl mk_Md_init_995)), (a_q3, .inl (a_c4, 160, .inl mk_Md_init_1239))] := hD
  refine lv_dup hx hb d_Md_init_1240 rfl ?_
  refine lv_bipush (v := (43 : Int32)) hx hb d_Md_init_1241 (by decide) ?_
  refine lv_iconst (v := (2 : Int32)) hx hb d_Md_init_1243 (by decide) ?_
  refine va_iast hx hb hK hP hD hS 2 1 rfl rfl (i := (43 : Int32)) (by unfold vp_in; decide) d_Md_init_1244 (fun H locs hP hD hS => ?_)
  replace hP : va_P (dC, dI) cl_All [(qt, .inr (10, [.int 0, .ref a_q1, .null, .null, .int 0, .null, .null, .int 0, .int 0, .int 0, .null, .null, .null, .int 0, .null, .null, .int 0, .null, .null, .int 0, .null, .null, .null, .null, .null, .null, .null, .null, .int 0, .int 0, .int 0, .int 0, .int 0, .null])), (a_q1, .inl (a_c2, 160, .inl mk_Md_init_995)), (a_q3, .inl (a_c4, 160, .inl mk_Md_init_1244))] H := hP
  replace hD : va_D A [(qt, .inr (10, [.int 0, .ref a_q1, .null, .null, .int 0, .null, .null, .int 0, .int 0, .int 0, .null, .null, .null, .int 0, .null, .null, .int 0, .null, .null, .int 0, .null, .null, .null, .null, .null, .null, .null, .null, .int 0, .int 0, .int 0, .int 0, .int 0, .null])), (a_q1, .inl (a_c2, 160, .inl mk_Md_init_995)), (a_q3, .inl (a_c4, 160, .inl mk_Md_init_1244))] := hD
  refine lv_dup hx hb d_Md_init_1245 rfl ?_
  refine lv_bipush (v := (44 : Int32)) hx hb d_Md_init_1246 (by decide) ?_
  refine lv_iconst (v := (2 : Int32)) hx hb d_Md_init_1248 (by decide) ?_
  refine va_iast hx hb hK hP hD hS 2 1 rfl rfl (i := (44 : Int32)) (by unfold vp_in; decide) d_Md_init_1249 (fun H locs hP hD hS => ?_)
  replace hP : va_P (dC, dI) cl_All [(qt, .inr (10, [.int 0, .ref a_q1, .null, .null, .int 0, .null, .null, .int 0, .int 0, .int 0, .null, .null, .null, .int 0, .null, .null, .int 0, .null, .null, .int 0, .null, .null, .null, .null, .null, .null, .null, .null, .int 0, .int 0, .int 0, .int 0, .int 0, .null])), (a_q1, .inl (a_c2, 160, .inl mk_Md_init_995)), (a_q3, .inl (a_c4, 160, .inl mk_Md_init_1249))] H := hP
  replace hD : va_D A [(qt, .inr (10, [.int 0, .ref a_q1, .null, .null, .int 0, .null, .null, .int 0, .int 0, .int 0, .null, .null, .null, .int 0, .null, .null, .int 0, .null, .null, .int 0, .null, .null, .null, .null, .null, .null, .null, .null, .int 0, .int 0, .int 0, .int 0, .int 0, .null])), (a_q1, .inl (a_c2, 160, .inl mk_Md_init_995)), (a_q3, .inl (a_c4, 160, .inl mk_Md_init_1249))] := hD
  refine lv_dup hx hb d_Md_init_1250 rfl ?_
  refine lv_bipush (v := (45 : Int32)) hx hb d_Md_init_1251 (by decide) ?_
  refine lv_iconst (v := (4 : Int32)) hx hb d_Md_init_1253 (by decide) ?_
  refine va_iast hx hb hK hP hD hS 2 1 rfl rfl (i := (45 : Int32)) (by unfold vp_in; decide) d_Md_init_1254 (fun H locs hP hD hS => ?_)
  replace hP : va_P (dC, dI) cl_All [(qt, .inr (10, [.int 0, .ref a_q1, .null, .null, .int 0, .null, .null, .int 0, .int 0, .int 0, .null, .null, .null, .int 0, .null, .null, .int 0, .null, .null, .int 0, .null, .null, .null, .null, .null, .null, .null, .null, .int 0, .int 0, .int 0, .int 0, .int 0, .null])), (a_q1, .inl (a_c2, 160, .inl mk_Md_init_995)), (a_q3, .inl (a_c4, 160, .inl mk_Md_init_1254))] H := hP
  replace hD : va_D A [(qt, .inr (10, [.int 0, .ref a_q1, .null, .null, .int 0, .null, .null, .int 0, .int 0, .int 0, .null, .null, .null, .int 0, .null, .null, .int 0, .null, .null, .int 0, .null, .null, .null, .null, .null, .null, .null, .null, .int 0, .int 0, .int 0, .int 0, .int 0, .null])), (a_q1, .inl (a_c2, 160, .inl mk_Md_init_995)), (a_q3, .inl (a_c4, 160, .inl mk_Md_init_1254))] := hD
  refine lv_dup hx hb d_Md_init_1255 rfl ?_
  refine lv_bipush (v := (46 : Int32)) hx hb d_Md_init_1256 (by decide) ?_
  refine lv_iconst (v := (4 : Int32)) hx hb d_Md_init_1258 (by decide) ?_
  refine va_iast hx hb hK hP hD hS 2 1 rfl rfl (i := (46 : Int32)) (by unfold vp_in; decide) d_Md_init_1259 (fun H locs hP hD hS => ?_)
  replace hP : va_P (dC, dI) cl_All [(qt, .inr (10, [.int 0, .ref a_q1, .null, .null, .int 0, .null, .null, .int 0, .int 0, .int 0, .null, .null, .null, .int 0, .null, .null, .int 0, .null, .null, .int 0, .null, .null, .null, .null, .null, .null, .null, .null, .int 0, .int 0, .int 0, .int 0, .int 0, .null])), (a_q1, .inl (a_c2, 160, .inl mk_Md_init_995)), (a_q3, .inl (a_c4, 160, .inl mk_Md_init_1259))] H := hP
  replace hD : va_D A [(qt, .inr (10, [.int 0, .ref a_q1, .null, .null, .int 0, .null, .null, .int 0, .int 0, .int 0, .null, .null, .null, .int 0, .null, .null, .int 0, .null, .null, .int 0, .null, .null, .null, .null, .null, .null, .null, .null, .int 0, .int 0, .int 0, .int 0, .int 0, .null])), (a_q1, .inl (a_c2, 160, .inl mk_Md_init_995)), (a_q3, .inl (a_c4, 160, .inl mk_Md_init_1259))] := hD
  refine lv_dup hx hb d_Md_init_1260 rfl ?_
  refine lv_bipush (v := (47 : Int32)) hx hb d_Md_init_1261 (by decide) ?_
  refine lv_iconst (v := (4 : Int32)) hx hb d_Md_init_1263 (by decide) ?_
  refine va_iast hx hb hK hP hD hS 2 1 rfl rfl (i := (47 : Int32)) (by unfold vp_in; decide) d_Md_init_1264 (fun H locs hP hD hS => ?_)
  replace hP : va_P (dC, dI) cl_All [(qt, .inr (10, [.int 0, .ref a_q1, .null, .null, .int 0, .null, .null, .int 0, .int 0, .int 0, .null, .null, .null, .int 0, .null, .null, .int 0, .null, .null, .int 0, .null, .null, .null, .null, .null, .null, .null, .null, .int 0, .int 0, .int 0, .int 0, .int 0, .null])), (a_q1, .inl (a_c2, 160, .inl mk_Md_init_995)), (a_q3, .inl (a_c4, 160, .inl mk_Md_init_1264))] H := hP
  replace hD : va_D A [(qt, .inr (10, [.int 0, .ref a_q1, .null, .null, .int 0, .null, .null, .int 0, .int 0, .int 0, .null, .null, .null, .int 0, .null, .null, .int 0, .null, .null, .int 0, .null, .null, .null, .null, .null, .null, .null, .null, .int 0, .int 0, .int 0, .int 0, .int 0, .null])), (a_q1, .inl (a_c2, 160, .inl mk_Md_init_995)), (a_q3, .inl (a_c4, 160, .inl mk_Md_init_1264))] := hD
  refine lv_dup hx hb d_Md_init_1265 rfl ?_
  refine lv_bipush (v := (48 : Int32)) hx hb d_Md_init_1266 (by decide) ?_
  refine lv_iconst (v := (5 : Int32)) hx hb d_Md_init_1268 (by decide) ?_
  refine va_iast hx hb hK hP hD hS 2 1 rfl rfl (i := (48 : Int32)) (by unfold vp_in; decide) d_Md_init_1269 (fun H locs hP hD hS => ?_)
  replace hP : va_P (dC, dI) cl_All [(qt, .inr (10, [.int 0, .ref a_q1, .null, .null, .int 0, .null, .null, .int 0, .int 0, .int 0, .null, .null, .null, .int 0, .null, .null, .int 0, .null, .null, .int 0, .null, .null, .null, .null, .null, .null, .null, .null, .int 0, .int 0, .int 0, .int 0, .int 0, .null])), (a_q1, .inl (a_c2, 160, .inl mk_Md_init_995)), (a_q3, .inl (a_c4, 160, .inl mk_Md_init_1269))] H := hP
  replace hD : va_D A [(qt, .inr (10, [.int 0, .ref a_q1, .null, .null, .int 0, .null, .null, .int 0, .int 0, .int 0, .null, .null, .null, .int 0, .null, .null, .int 0, .null, .null, .int 0, .null, .null, .null, .null, .null, .null, .null, .null, .int 0, .int 0, .int 0, .int 0, .int 0, .null])), (a_q1, .inl (a_c2, 160, .inl mk_Md_init_995)), (a_q3, .inl (a_c4, 160, .inl mk_Md_init_1269))] := hD
  refine lv_dup hx hb d_Md_init_1270 rfl ?_
  refine lv_bipush (v := (49 : Int32)) hx hb d_Md_init_1271 (by decide) ?_
  refine lv_iconst (v := (5 : Int32)) hx hb d_Md_init_1273 (by decide) ?_
  refine va_iast hx hb hK hP hD hS 2 1 rfl rfl (i := (49 : Int32)) (by unfold vp_in; decide) d_Md_init_1274 (fun H locs hP hD hS => ?_)
  replace hP : va_P (dC, dI) cl_All [(qt, .inr (10, [.int 0, .ref a_q1, .null, .null, .int 0, .null, .null, .int 0, .int 0, .int 0, .null, .null, .null, .int 0, .null, .null, .int 0, .null, .null, .int 0, .null, .null, .null, .null, .null, .null, .null, .null, .int 0, .int 0, .int 0, .int 0, .int 0, .null])), (a_q1, .inl (a_c2, 160, .inl mk_Md_init_995)), (a_q3, .inl (a_c4, 160, .inl mk_Md_init_1274))] H := hP
  replace hD : va_D A [(qt, .inr (10, [.int 0, .ref a_q1, .null, .null, .int 0, .null, .null, .int 0, .int 0, .int 0, .null, .null, .null, .int 0, .null, .null, .int 0, .null, .null, .int 0, .null, .null, .null, .null, .null, .null, .null, .null, .int 0, .int 0, .int 0, .int 0, .int 0, .null])), (a_q1, .inl (a_c2, 160, .inl mk_Md_init_995)), (a_q3, .inl (a_c4, 160, .inl mk_Md_init_1274))] := hD
  refine lv_dup hx hb d_Md_init_1275 rfl ?_
  refine lv_bipush (v := (50 : Int32)) hx hb d_Md_init_1276 (by decide) ?_
  refine lv_iconst (v := (5 : Int32)) hx hb d_Md_init_1278 (by decide) ?_
  refine va_iast hx hb hK hP hD hS 2 1 rfl rfl (i := (50 : Int32)) (by unfold vp_in; decide) d_Md_init_1279 (fun H locs hP hD hS => ?_)
  replace hP : va_P (dC, dI) cl_All [(qt, .inr (10, [.int 0, .ref a_q1, .null, .null, .int 0, .null, .null, .int 0, .int 0, .int 0, .null, .null, .null, .int 0, .null, .null, .int 0, .null, .null, .int 0, .null, .null, .null, .null, .null, .null, .null, .null, .int 0, .int 0, .int 0, .int 0, .int 0, .null])), (a_q1, .inl (a_c2, 160, .inl mk_Md_init_995)), (a_q3, .inl (a_c4, 160, .inl mk_Md_init_1279))] H := hP
  replace hD : va_D A [(qt, .inr (10, [.int 0, .ref a_q1, .null, .null, .int 0, .null, .null, .int 0, .int 0, .int 0, .null, .null, .null, .int 0, .null, .null, .int 0, .null, .null, .int 0, .null, .null, .null, .null, .null, .null, .null, .null, .int 0, .int 0, .int 0, .int 0, .int 0, .null])), (a_q1, .inl (a_c2, 160, .inl mk_Md_init_995)), (a_q3, .inl (a_c4, 160, .inl mk_Md_init_1279))] := hD
  refine lv_dup hx hb d_Md_init_1280 rfl ?_
  refine lv_bipush (v := (51 : Int32)) hx hb d_Md_init_1281 (by decide) ?_
  refine lv_bipush (v := (8 : Int32)) hx hb d_Md_init_1283 (by decide) ?_
  refine va_iast hx hb hK hP hD hS 2 1 rfl rfl (i := (51 : Int32)) (by unfold vp_in; decide) d_Md_init_1285 (fun H locs hP hD hS => ?_)
  replace hP : va_P (dC, dI) cl_All [(qt, .inr (10, [.int 0, .ref a_q1, .null, .null, .int 0, .null, .null, .int 0, .int 0, .int 0, .null, .null, .null, .int 0, .null, .null, .int 0, .null, .null, .int 0, .null, .null, .null, .null, .null, .null, .null, .null, .int 0, .int 0, .int 0, .int 0, .int 0, .null])), (a_q1, .inl (a_c2, 160, .inl mk_Md_init_995)), (a_q3, .inl (a_c4, 160, .inl mk_Md_init_1285))] H := hP
  replace hD : va_D A [(qt, .inr (10, [.int 0, .ref a_q1, .null, .null, .int 0, .null, .null, .int 0, .int 0, .int 0, .null, .null, .null, .int 0, .null, .null, .int 0, .null, .null, .int 0, .null, .null, .null, .null, .null, .null, .null, .null, .int 0, .int 0, .int 0, .int 0, .int 0, .null])), (a_q1, .inl (a_c2, 160, .inl mk_Md_init_995)), (a_q3, .inl (a_c4, 160, .inl mk_Md_init_1285))] := hD
  refine lv_dup hx hb d_Md_init_1286 rfl ?_
  refine lv_bipush (v := (52 : Int32)) hx hb d_Md_init_1287 (by decide) ?_
  refine lv_bipush (v := (9 : Int32)) hx hb d_Md_init_1289 (by decide) ?_
  refine va_iast hx hb hK hP hD hS 2 1 rfl rfl (i := (52 : Int32)) (by unfold vp_in; decide) d_Md_init_1291 (fun H locs hP hD hS => ?_)
  replace hP : va_P (dC, dI) cl_All [(qt, .inr (10, [.int 0, .ref a_q1, .null, .null, .int 0, .null, .null, .int 0, .int 0, .int 0, .null, .null, .null, .int 0, .null, .null, .int 0, .null, .null, .int 0, .null, .null, .null, .null, .null, .null, .null, .null, .int 0, .int 0, .int 0, .int 0, .int 0, .null])), (a_q1, .inl (a_c2, 160, .inl mk_Md_init_995)), (a_q3, .inl (a_c4, 160, .inl mk_Md_init_1291))] H := hP
  replace hD : va_D A [(qt, .inr (10, [.int 0, .ref a_q1, .null, .null, .int 0, .null, .null, .int 0, .int 0, .int 0, .null, .null, .null, .int 0, .null, .null, .int 0, .null, .null, .int 0, .null, .null, .null, .null, .null, .null, .null, .null, .int 0, .int 0, .int 0, .int 0, .int 0, .null])), (a_q1, .inl (a_c2, 160, .inl mk_Md_init_995)), (a_q3, .inl (a_c4, 160, .inl mk_Md_init_1291))] := hD
  refine lv_dup hx hb d_Md_init_1292 rfl ?_
  refine lv_bipush (v := (53 : Int32)) hx hb d_Md_init_1293 (by decide) ?_
  refine lv_bipush (v := (9 : Int32)) hx hb d_Md_init_1295 (by decide) ?_
  refine va_iast hx hb hK hP hD hS 2 1 rfl rfl (i := (53 : Int32)) (by unfold vp_in; decide) d_Md_init_1297 (fun H locs hP hD hS => ?_)
  replace hP : va_P (dC, dI) cl_All [(qt, .inr (10, [.int 0, .ref a_q1, .null, .null, .int 0, .null, .null, .int 0, .int 0, .int 0, .null, .null, .null, .int 0, .null, .null, .int 0, .null, .null, .int 0, .null, .null, .null, .null, .null, .null, .null, .null, .int 0, .int 0, .int 0, .int 0, .int 0, .null])), (a_q1, .inl (a_c2, 160, .inl mk_Md_init_995)), (a_q3, .inl (a_c4, 160, .inl mk_Md_init_1297))] H := hP
  replace hD : va_D A [(qt, .inr (10, [.int 0, .ref a_q1, .null, .null, .int 0, .null, .null, .int 0, .int 0, .int 0, .null, .null, .null, .int 0, .null, .null, .int 0, .null, .null, .int 0, .null, .null, .null, .null, .null, .null, .null, .null, .int 0, .int 0, .int 0, .int 0, .int 0, .null])), (a_q1, .inl (a_c2, 160, .inl mk_Md_init_995)), (a_q3, .inl (a_c4, 160, .inl mk_Md_init_1297))] := hD
  refine lv_dup hx hb d_Md_init_1298 rfl ?_
  refine lv_bipush (v := (54 : Int32)) hx hb d_Md_init_1299 (by decide) ?_
  refine lv_bipush (v := (10 : Int32)) hx hb d_Md_init_1301 (by decide) ?_
  refine va_iast hx hb hK hP hD hS 2 1 rfl rfl (i := (54 : Int32)) (by unfold vp_in; decide) d_Md_init_1303 (fun H locs hP hD hS => ?_)
  replace hP : va_P (dC, dI) cl_All [(qt, .inr (10, [.int 0, .ref a_q1, .null, .null, .int 0, .null, .null, .int 0, .int 0, .int 0, .null, .null, .null, .int 0, .null, .null, .int 0, .null, .null, .int 0, .null, .null, .null, .null, .null, .null, .null, .null, .int 0, .int 0, .int 0, .int 0, .int 0, .null])), (a_q1, .inl (a_c2, 160, .inl mk_Md_init_995)), (a_q3, .inl (a_c4, 160, .inl mk_Md_init_1303))] H := hP
  replace hD : va_D A [(qt, .inr (10, [.int 0, .ref a_q1, .null, .null, .int 0, .null, .null, .int 0, .int 0, .int 0, .null, .null, .null, .int 0, .null, .null, .int 0, .null, .null, .int 0, .null, .null, .null, .null, .null, .null, .null, .null, .int 0, .int 0, .int 0, .int 0, .int 0, .null])), (a_q1, .inl (a_c2, 160, .inl mk_Md_init_995)), (a_q3, .inl (a_c4, 160, .inl mk_Md_init_1303))] := hD
  refine lv_dup hx hb d_Md_init_1304 rfl ?_
  refine lv_bipush (v := (55 : Int32)) hx hb d_Md_init_1305 (by decide) ?_
  refine lv_bipush (v := (10 : Int32)) hx hb d_Md_init_1307 (by decide) ?_
  refine va_iast hx hb hK hP hD hS 2 1 rfl rfl (i := (55 : Int32)) (by unfold vp_in; decide) d_Md_init_1309 (fun H locs hP hD hS => ?_)
  replace hP : va_P (dC, dI) cl_All [(qt, .inr (10, [.int 0, .ref a_q1, .null, .null, .int 0, .null, .null, .int 0, .int 0, .int 0, .null, .null, .null, .int 0, .null, .null, .int 0, .null, .null, .int 0, .null, .null, .null, .null, .null, .null, .null, .null, .int 0, .int 0, .int 0, .int 0, .int 0, .null])), (a_q1, .inl (a_c2, 160, .inl mk_Md_init_995)), (a_q3, .inl (a_c4, 160, .inl mk_Md_init_1309))] H := hP
  replace hD : va_D A [(qt, .inr (10, [.int 0, .ref a_q1, .null, .null, .int 0, .null, .null, .int 0, .int 0, .int 0, .null, .null, .null, .int 0, .null, .null, .int 0, .null, .null, .int 0, .null, .null, .null, .null, .null, .null, .null, .null, .int 0, .int 0, .int 0, .int 0, .int 0, .null])), (a_q1, .inl (a_c2, 160, .inl mk_Md_init_995)), (a_q3, .inl (a_c4, 160, .inl mk_Md_init_1309))] := hD
  refine lv_dup hx hb d_Md_init_1310 rfl ?_
  refine lv_bipush (v := (56 : Int32)) hx hb d_Md_init_1311 (by decide) ?_
  refine lv_bipush (v := (11 : Int32)) hx hb d_Md_init_1313 (by decide) ?_
  refine va_iast hx hb hK hP hD hS 2 1 rfl rfl (i := (56 : Int32)) (by unfold vp_in; decide) d_Md_init_1315 (fun H locs hP hD hS => ?_)
  replace hP : va_P (dC, dI) cl_All [(qt, .inr (10, [.int 0, .ref a_q1, .null, .null, .int 0, .null, .null, .int 0, .int 0, .int 0, .null, .null, .null, .int 0, .null, .null, .int 0, .null, .null, .int 0, .null, .null, .null, .null, .null, .null, .null, .null, .int 0, .int 0, .int 0, .int 0, .int 0, .null])), (a_q1, .inl (a_c2, 160, .inl mk_Md_init_995)), (a_q3, .inl (a_c4, 160, .inl mk_Md_init_1315))] H := hP
  replace hD : va_D A [(qt, .inr (10, [.int 0, .ref a_q1, .null, .null, .int 0, .null, .null, .int 0, .int 0, .int 0, .null, .null, .null, .int 0, .null, .null, .int 0, .null, .null, .int 0, .null, .null, .null, .null, .null, .null, .null, .null, .int 0, .int 0, .int 0, .int 0, .int 0, .null])), (a_q1, .inl (a_c2, 160, .inl mk_Md_init_995)), (a_q3, .inl (a_c4, 160, .inl mk_Md_init_1315))] := hD
  refine lv_dup hx hb d_Md_init_1316 rfl ?_
  refine lv_bipush (v := (57 : Int32)) hx hb d_Md_init_1317 (by decide) ?_
  refine lv_bipush (v := (13 : Int32)) hx hb d_Md_init_1319 (by decide) ?_
  refine va_iast hx hb hK hP hD hS 2 1 rfl rfl (i := (57 : Int32)) (by unfold vp_in; decide) d_Md_init_1321 (fun H locs hP hD hS => ?_)
  replace hP : va_P (dC, dI) cl_All [(qt, .inr (10, [.int 0, .ref a_q1, .null, .null, .int 0, .null, .null, .int 0, .int 0, .int 0, .null, .null, .null, .int 0, .null, .null, .int 0, .null, .null, .int 0, .null, .null, .null, .null, .null, .null, .null, .null, .int 0, .int 0, .int 0, .int 0, .int 0, .null])), (a_q1, .inl (a_c2, 160, .inl mk_Md_init_995)), (a_q3, .inl (a_c4, 160, .inl mk_Md_init_1321))] H := hP
  replace hD : va_D A [(qt, .inr (10, [.int 0, .ref a_q1, .null, .null, .int 0, .null, .null, .int 0, .int 0, .int 0, .null, .null, .null, .int 0, .null, .null, .int 0, .null, .null, .int 0, .null, .null, .null, .null, .null, .null, .null, .null, .int 0, .int 0, .int 0, .int 0, .int 0, .null])), (a_q1, .inl (a_c2, 160, .inl mk_Md_init_995)), (a_q3, .inl (a_c4, 160, .inl mk_Md_init_1321))] := hD
  refine lv_dup hx hb d_Md_init_1322 rfl ?_
  refine lv_bipush (v := (58 : Int32)) hx hb d_Md_init_1323 (by decide) ?_
  refine lv_bipush (v := (14 : Int32)) hx hb d_Md_init_1325 (by decide) ?_
  refine va_iast hx hb hK hP hD hS 2 1 rfl rfl (i := (58 : Int32)) (by unfold vp_in; decide) d_Md_init_1327 (fun H locs hP hD hS => ?_)
  replace hP : va_P (dC, dI) cl_All [(qt, .inr (10, [.int 0, .ref a_q1, .null, .null, .int 0, .null, .null, .int 0, .int 0, .int 0, .null, .null, .null, .int 0, .null, .null, .int 0, .null, .null, .int 0, .null, .null, .null, .null, .null, .null, .null, .null, .int 0, .int 0, .int 0, .int 0, .int 0, .null])), (a_q1, .inl (a_c2, 160, .inl mk_Md_init_995)), (a_q3, .inl (a_c4, 160, .inl mk_Md_init_1327))] H := hP
  replace hD : va_D A [(qt, .inr (10, [.int 0, .ref a_q1, .null, .null, .int 0, .null, .null, .int 0, .int 0, .int 0, .null, .null, .null, .int 0, .null, .null, .int 0, .null, .null, .int 0, .null, .null, .null, .null, .null, .null, .null, .null, .int 0, .int 0, .int 0, .int 0, .int 0, .null])), (a_q1, .inl (a_c2, 160, .inl mk_Md_init_995)), (a_q3, .inl (a_c4, 160, .inl mk_Md_init_1327))] := hD
  refine lv_dup hx hb d_Md_init_1328 rfl ?_
  refine lv_bipush (v := (59 : Int32)) hx hb d_Md_init_1329 (by decide) ?_
  refine lv_bipush (v := (16 : Int32)) hx hb d_Md_init_1331 (by decide) ?_
  refine va_iast hx hb hK hP hD hS 2 1 rfl rfl (i := (59 : Int32)) (by unfold vp_in; decide) d_Md_init_1333 (fun H locs hP hD hS => ?_)
  replace hP : va_P (dC, dI) cl_All [(qt, .inr (10, [.int 0, .ref a_q1, .null, .null, .int 0, .null, .null, .int 0, .int 0, .int 0, .null, .null, .null, .int 0, .null, .null, .int 0, .null, .null, .int 0, .null, .null, .null, .null, .null, .null, .null, .null, .int 0, .int 0, .int 0, .int 0, .int 0, .null])), (a_q1, .inl (a_c2, 160, .inl mk_Md_init_995)), (a_q3, .inl (a_c4, 160, .inl mk_Md_init_1333))] H := hP
  replace hD : va_D A [(qt, .inr (10, [.int 0, .ref a_q1, .null, .null, .int 0, .null, .null, .int 0, .int 0, .int 0, .null, .null, .null, .int 0, .null, .null, .int 0, .null, .null, .int 0, .null, .null, .null, .null, .null, .null, .null, .null, .int 0, .int 0, .int 0, .int 0, .int 0, .null])), (a_q1, .inl (a_c2, 160, .inl mk_Md_init_995)), (a_q3, .inl (a_c4, 160, .inl mk_Md_init_1333))] := hD
  refine lv_dup hx hb d_Md_init_1334 rfl ?_
  refine lv_bipush (v := (60 : Int32)) hx hb d_Md_init_1335 (by decide) ?_
  refine lv_bipush (v := (17 : Int32)) hx hb d_Md_init_1337 (by decide) ?_
  refine va_iast hx hb hK hP hD hS 2 1 rfl rfl (i := (60 : Int32)) (by unfold vp_in; decide) d_Md_init_1339 (fun H locs hP hD hS => ?_)
  replace hP : va_P (dC, dI) cl_All [(qt, .inr (10, [.int 0, .ref a_q1, .null, .null, .int 0, .null, .null, .int 0, .int 0, .int 0, .null, .null, .null, .int 0, .null, .null, .int 0, .null, .null, .int 0, .null, .null, .null, .null, .null, .null, .null, .null, .int 0, .int 0, .int 0, .int 0, .int 0, .null])), (a_q1, .inl (a_c2, 160, .inl mk_Md_init_995)), (a_q3, .inl (a_c4, 160, .inl mk_Md_init_1339))] H := hP
  replace hD : va_D A [(qt, .inr (10, [.int 0, .ref a_q1, .null, .null, .int 0, .null, .null, .int 0, .int 0, .int 0, .null, .null, .null, .int 0, .null, .null, .int 0, .null, .null, .int 0, .null, .null, .null, .null, .null, .null, .null, .null, .int 0, .int 0, .int 0, .int 0, .int 0, .null])), (a_q1, .inl (a_c2, 160, .inl mk_Md_init_995)), (a_q3, .inl (a_c4, 160, .inl mk_Md_init_1339))] := hD
  refine lv_dup hx hb d_Md_init_1340 rfl ?_
  refine lv_bipush (v := (61 : Int32)) hx hb d_Md_init_1341 (by decide) ?_
  refine lv_bipush (v := (17 : Int32)) hx hb d_Md_init_1343 (by decide) ?_
  refine va_iast hx hb hK hP hD hS 2 1 rfl rfl (i := (61 : Int32)) (by unfold vp_in; decide) d_Md_init_1345 (fun H locs hP hD hS => ?_)
  replace hP : va_P (dC, dI) cl_All [(qt, .inr (10, [.int 0, .ref a_q1, .null, .null, .int 0, .null, .null, .int 0, .int 0, .int 0, .null, .null, .null, .int 0, .null, .null, .int 0, .null, .null, .int 0, .null, .null, .null, .null, .null, .null, .null, .null, .int 0, .int 0, .int 0, .int 0, .int 0, .null])), (a_q1, .inl (a_c2, 160, .inl mk_Md_init_995)), (a_q3, .inl (a_c4, 160, .inl mk_Md_init_1345))] H := hP
  replace hD : va_D A [(qt, .inr (10, [.int 0, .ref a_q1, .null, .null, .int 0, .null, .null, .int 0, .int 0, .int 0, .null, .null, .null, .int 0, .null, .null, .int 0, .null, .null, .int 0, .null, .null, .null, .null, .null, .null, .null, .null, .int 0, .int 0, .int 0, .int 0, .int 0, .null])), (a_q1, .inl (a_c2, 160, .inl mk_Md_init_995)), (a_q3, .inl (a_c4, 160, .inl mk_Md_init_1345))] := hD
  refine lv_dup hx hb d_Md_init_1346 rfl ?_
  refine lv_bipush (v := (62 : Int32)) hx hb d_Md_init_1347 (by decide) ?_
  refine lv_bipush (v := (18 : Int32)) hx hb d_Md_init_1349 (by decide) ?_
  refine va_iast hx hb hK hP hD hS 2 1 rfl rfl (i := (62 : Int32)) (by unfold vp_in; decide) d_Md_init_1351 (fun H locs hP hD hS => ?_)
  replace hP : va_P (dC, dI) cl_All [(qt, .inr (10, [.int 0, .ref a_q1, .null, .null, .int 0, .null, .null, .int 0, .int 0, .int 0, .null, .null, .null, .int 0, .null, .null, .int 0, .null, .null, .int 0, .null, .null, .null, .null, .null, .null, .null, .null, .int 0, .int 0, .int 0, .int 0, .int 0, .null])), (a_q1, .inl (a_c2, 160, .inl mk_Md_init_995)), (a_q3, .inl (a_c4, 160, .inl mk_Md_init_1351))] H := hP
  replace hD : va_D A [(qt, .inr (10, [.int 0, .ref a_q1, .null, .null, .int 0, .null, .null, .int 0, .int 0, .int 0, .null, .null, .null, .int 0, .null, .null, .int 0, .null, .null, .int 0, .null, .null, .null, .null, .null, .null, .null, .null, .int 0, .int 0, .int 0, .int 0, .int 0, .null])), (a_q1, .inl (a_c2, 160, .inl mk_Md_init_995)), (a_q3, .inl (a_c4, 160, .inl mk_Md_init_1351))] := hD
  refine lv_dup hx hb d_Md_init_1352 rfl ?_
  refine lv_bipush (v := (63 : Int32)) hx hb d_Md_init_1353 (by decide) ?_
  refine lv_bipush (v := (20 : Int32)) hx hb d_Md_init_1355 (by decide) ?_
  refine va_iast hx hb hK hP hD hS 2 1 rfl rfl (i := (63 : Int32)) (by unfold vp_in; decide) d_Md_init_1357 (fun H locs hP hD hS => ?_)
  replace hP : va_P (dC, dI) cl_All [(qt, .inr (10, [.int 0, .ref a_q1, .null, .null, .int 0, .null, .null, .int 0, .int 0, .int 0, .null, .null, .null, .int 0, .null, .null, .int 0, .null, .null, .int 0, .null, .null, .null, .null, .null, .null, .null, .null, .int 0, .int 0, .int 0, .int 0, .int 0, .null])), (a_q1, .inl (a_c2, 160, .inl mk_Md_init_995)), (a_q3, .inl (a_c4, 160, .inl mk_Md_init_1357))] H := hP
  replace hD : va_D A [(qt, .inr (10, [.int 0, .ref a_q1, .null, .null, .int 0, .null, .null, .int 0, .int 0, .int 0, .null, .null, .null, .int 0, .null, .null, .int 0, .null, .null, .int 0, .null, .null, .null, .null, .null, .null, .null, .null, .int 0, .int 0, .int 0, .int 0, .int 0, .null])), (a_q1, .inl (a_c2, 160, .inl mk_Md_init_995)), (a_q3, .inl (a_c4, 160, .inl mk_Md_init_1357))] := hD
  refine lv_dup hx hb d_Md_init_1358 rfl ?_
  refine lv_bipush (v := (64 : Int32)) hx hb d_Md_init_1359 (by decide) ?_
  refine lv_bipush (v := (21 : Int32)) hx hb d_Md_init_1361 (by decide) ?_
  refine va_iast hx hb hK hP hD hS 2 1 rfl rfl (i := (64 : Int32)) (by unfold vp_in; decide) d_Md_init_1363 (fun H locs hP hD hS => ?_)
  replace hP : va_P (dC, dI) cl_All [(qt, .inr (10, [.int 0, .ref a_q1, .null, .null, .int 0, .null, .null, .int 0, .int 0, .int 0, .null, .null, .null, .int 0, .null, .null, .int 0, .null, .null, .int 0, .null, .null, .null, .null, .null, .null, .null, .null, .int 0, .int 0, .int 0, .int 0, .int 0, .null])), (a_q1, .inl (a_c2, 160, .inl mk_Md_init_995)), (a_q3, .inl (a_c4, 160, .inl mk_Md_init_1363))] H := hP
  replace hD : va_D A [(qt, .inr (10, [.int 0, .ref a_q1, .null, .null, .int 0, .null, .null, .int 0, .int 0, .int 0, .null, .null, .null, .int 0, .null, .null, .int 0, .null, .null, .int 0, .null, .null, .null, .null, .null, .null, .null, .null, .int 0, .int 0, .int 0, .int 0, .int 0, .null])), (a_q1, .inl (a_c2, 160, .inl mk_Md_init_995)), (a_q3, .inl (a_c4, 160, .inl mk_Md_init_1363))] := hD
  refine lv_dup hx hb d_Md_init_1364 rfl ?_
  refine lv_bipush (v := (65 : Int32)) hx hb d_Md_init_1365 (by decide) ?_
  refine lv_bipush (v := (23 : Int32)) hx hb d_Md_init_1367 (by decide) ?_
  refine va_iast hx hb hK hP hD hS 2 1 rfl rfl (i := (65 : Int32)) (by unfold vp_in; decide) d_Md_init_1369 (fun H locs hP hD hS => ?_)
  replace hP : va_P (dC, dI) cl_All [(qt, .inr (10, [.int 0, .ref a_q1, .null, .null, .int 0, .null, .null, .int 0, .int 0, .int 0, .null, .null, .null, .int 0, .null, .null, .int 0, .null, .null, .int 0, .null, .null, .null, .null, .null, .null, .null, .null, .int 0, .int 0, .int 0, .int 0, .int 0, .null])), (a_q1, .inl (a_c2, 160, .inl mk_Md_init_995)), (a_q3, .inl (a_c4, 160, .inl mk_Md_init_1369))] H := hP
  replace hD : va_D A [(qt, .inr (10, [.int 0, .ref a_q1, .null, .null, .int 0, .null, .null, .int 0, .int 0, .int 0, .null, .null, .null, .int 0, .null, .null, .int 0, .null, .null, .int 0, .null, .null, .null, .null, .null, .null, .null, .null, .int 0, .int 0, .int 0, .int 0, .int 0, .null])), (a_q1, .inl (a_c2, 160, .inl mk_Md_init_995)), (a_q3, .inl (a_c4, 160, .inl mk_Md_init_1369))] := hD
  refine lv_dup hx hb d_Md_init_1370 rfl ?_
  refine lv_bipush (v := (66 : Int32)) hx hb d_Md_init_1371 (by decide) ?_
  refine lv_bipush (v := (25 : Int32)) hx hb d_Md_init_1373 (by decide) ?_
  refine va_iast hx hb hK hP hD hS 2 1 rfl rfl (i := (66 : Int32)) (by unfold vp_in; decide) d_Md_init_1375 (fun H locs hP hD hS => ?_)
  replace hP : va_P (dC, dI) cl_All [(qt, .inr (10, [.int 0, .ref a_q1, .null, .null, .int 0, .null, .null, .int 0, .int 0, .int 0, .null, .null, .null, .int 0, .null, .null, .int 0, .null, .null, .int 0, .null, .null, .null, .null, .null, .null, .null, .null, .int 0, .int 0, .int 0, .int 0, .int 0, .null])), (a_q1, .inl (a_c2, 160, .inl mk_Md_init_995)), (a_q3, .inl (a_c4, 160, .inl mk_Md_init_1375))] H := hP
  replace hD : va_D A [(qt, .inr (10, [.int 0, .ref a_q1, .null, .null, .int 0, .null, .null, .int 0, .int 0, .int 0, .null, .null, .null, .int 0, .null, .null, .int 0, .null, .null, .int 0, .null, .null, .null, .null, .null, .null, .null, .null, .int 0, .int 0, .int 0, .int 0, .int 0, .null])), (a_q1, .inl (a_c2, 160, .inl mk_Md_init_995)), (a_q3, .inl (a_c4, 160, .inl mk_Md_init_1375))] := hD
  refine lv_dup hx hb d_Md_init_1376 rfl ?_
  refine lv_bipush (v := (67 : Int32)) hx hb d_Md_init_1377 (by decide) ?_
  refine lv_bipush (v := (26 : Int32)) hx hb d_Md_init_1379 (by decide) ?_
  refine va_iast hx hb hK hP hD hS 2 1 rfl rfl (i := (67 : Int32)) (by unfold vp_in; decide) d_Md_init_1381 (fun H locs hP hD hS => ?_)
  replace hP : va_P (dC, dI) cl_All [(qt, .inr (10, [.int 0, .ref a_q1, .null, .null, .int 0, .null, .null, .int 0, .int 0, .int 0, .null, .null, .null, .int 0, .null, .null, .int 0, .null, .null, .int 0, .null, .null, .null, .null, .null, .null, .null, .null, .int 0, .int 0, .int 0, .int 0, .int 0, .null])), (a_q1, .inl (a_c2, 160, .inl mk_Md_init_995)), (a_q3, .inl (a_c4, 160, .inl mk_Md_init_1381))] H := hP
  replace hD : va_D A [(qt, .inr (10, [.int 0, .ref a_q1, .null, .null, .int 0, .null, .null, .int 0, .int 0, .int 0, .null, .null, .null, .int 0, .null, .null, .int 0, .null, .null, .int 0, .null, .null, .null, .null, .null, .null, .null, .null, .int 0, .int 0, .int 0, .int 0, .int 0, .null])), (a_q1, .inl (a_c2, 160, .inl mk_Md_init_995)), (a_q3, .inl (a_c4, 160, .inl mk_Md_init_1381))] := hD
  refine lv_dup hx hb d_Md_init_1382 rfl ?_
  refine lv_bipush (v := (68 : Int32)) hx hb d_Md_init_1383 (by decide) ?_
  refine lv_bipush (v := (28 : Int32)) hx hb d_Md_init_1385 (by decide) ?_
  refine va_iast hx hb hK hP hD hS 2 1 rfl rfl (i := (68 : Int32)) (by unfold vp_in; decide) d_Md_init_1387 (fun H locs hP hD hS => ?_)
  replace hP : va_P (dC, dI) cl_All [(qt, .inr (10, [.int 0, .ref a_q1, .null, .null, .int 0, .null, .null, .int 0, .int 0, .int 0, .null, .null, .null, .int 0, .null, .null, .int 0, .null, .null, .int 0, .null, .null, .null, .null, .null, .null, .null, .null, .int 0, .int 0, .int 0, .int 0, .int 0, .null])), (a_q1, .inl (a_c2, 160, .inl mk_Md_init_995)), (a_q3, .inl (a_c4, 160, .inl mk_Md_init_1387))] H := hP
  replace hD : va_D A [(qt, .inr (10, [.int 0, .ref a_q1, .null, .null, .int 0, .null, .null, .int 0, .int 0, .int 0, .null, .null, .null, .int 0, .null, .null, .int 0, .null, .null, .int 0, .null, .null, .null, .null, .null, .null, .null, .null, .int 0, .int 0, .int 0, .int 0, .int 0, .null])), (a_q1, .inl (a_c2, 160, .inl mk_Md_init_995)), (a_q3, .inl (a_c4, 160, .inl mk_Md_init_1387))] := hD
  refine lv_dup hx hb d_Md_init_1388 rfl ?_
  refine lv_bipush (v := (69 : Int32)) hx hb d_Md_init_1389 (by decide) ?_
  refine lv_bipush (v := (29 : Int32)) hx hb d_Md_init_1391 (by decide) ?_
  refine va_iast hx hb hK hP hD hS 2 1 rfl rfl (i := (69 : Int32)) (by unfold vp_in; decide) d_Md_init_1393 (fun H locs hP hD hS => ?_)
  replace hP : va_P (dC, dI) cl_All [(qt, .inr (10, [.int 0, .ref a_q1, .null, .null, .int 0, .null, .null, .int 0, .int 0, .int 0, .null, .null, .null, .int 0, .null, .null, .int 0, .null, .null, .int 0, .null, .null, .null, .null, .null, .null, .null, .null, .int 0, .int 0, .int 0, .int 0, .int 0, .null])), (a_q1, .inl (a_c2, 160, .inl mk_Md_init_995)), (a_q3, .inl (a_c4, 160, .inl mk_Md_init_1393))] H := hP
  replace hD : va_D A [(qt, .inr (10, [.int 0, .ref a_q1, .null, .null, .int 0, .null, .null, .int 0, .int 0, .int 0, .null, .null, .null, .int 0, .null, .null, .int 0, .null, .null, .int 0, .null, .null, .null, .null, .null, .null, .null, .null, .int 0, .int 0, .int 0, .int 0, .int 0, .null])), (a_q1, .inl (a_c2, 160, .inl mk_Md_init_995)), (a_q3, .inl (a_c4, 160, .inl mk_Md_init_1393))] := hD
  refine lv_dup hx hb d_Md_init_1394 rfl ?_
  refine lv_bipush (v := (70 : Int32)) hx hb d_Md_init_1395 (by decide) ?_
  refine lv_bipush (v := (31 : Int32)) hx hb d_Md_init_1397 (by decide) ?_
  refine va_iast hx hb hK hP hD hS 2 1 rfl rfl (i := (70 : Int32)) (by unfold vp_in; decide) d_Md_init_1399 (fun H locs hP hD hS => ?_)
  replace hP : va_P (dC, dI) cl_All [(qt, .inr (10, [.int 0, .ref a_q1, .null, .null, .int 0, .null, .null, .int 0, .int 0, .int 0, .null, .null, .null, .int 0, .null, .null, .int 0, .null, .null, .int 0, .null, .null, .null, .null, .null, .null, .null, .null, .int 0, .int 0, .int 0, .int 0, .int 0, .null])), (a_q1, .inl (a_c2, 160, .inl mk_Md_init_995)), (a_q3, .inl (a_c4, 160, .inl mk_Md_init_1399))] H := hP
  replace hD : va_D A [(qt, .inr (10, [.int 0, .ref a_q1, .null, .null, .int 0, .null, .null, .int 0, .int 0, .int 0, .null, .null, .null, .int 0, .null, .null, .int 0, .null, .null, .int 0, .null, .null, .null, .null, .null, .null, .null, .null, .int 0, .int 0, .int 0, .int 0, .int 0, .null])), (a_q1, .inl (a_c2, 160, .inl mk_Md_init_995)), (a_q3, .inl (a_c4, 160, .inl mk_Md_init_1399))] := hD
  refine lv_dup hx hb d_Md_init_1400 rfl ?_
  refine lv_bipush (v := (71 : Int32)) hx hb d_Md_init_1401 (by decide) ?_
  refine lv_bipush (v := (33 : Int32)) hx hb d_Md_init_1403 (by decide) ?_
  refine va_iast hx hb hK hP hD hS 2 1 rfl rfl (i := (71 : Int32)) (by unfold vp_in; decide) d_Md_init_1405 (fun H locs hP hD hS => ?_)
  replace hP : va_P (dC, dI) cl_All [(qt, .inr (10, [.int 0, .ref a_q1, .null, .null, .int 0, .null, .null, .int 0, .int 0, .int 0, .null, .null, .null, .int 0, .null, .null, .int 0, .null, .null, .int 0, .null, .null, .null, .null, .null, .null, .null, .null, .int 0, .int 0, .int 0, .int 0, .int 0, .null])), (a_q1, .inl (a_c2, 160, .inl mk_Md_init_995)), (a_q3, .inl (a_c4, 160, .inl mk_Md_init_1405))] H := hP
  replace hD : va_D A [(qt, .inr (10, [.int 0, .ref a_q1, .null, .null, .int 0, .null, .null, .int 0, .int 0, .int 0, .null, .null, .null, .int 0, .null, .null, .int 0, .null, .null, .int 0, .null, .null, .null, .null, .null, .null, .null, .null, .int 0, .int 0, .int 0, .int 0, .int 0, .null])), (a_q1, .inl (a_c2, 160, .inl mk_Md_init_995)), (a_q3, .inl (a_c4, 160, .inl mk_Md_init_1405))] := hD
  refine lv_dup hx hb d_Md_init_1406 rfl ?_
  refine lv_bipush (v := (72 : Int32)) hx hb d_Md_init_1407 (by decide) ?_
  refine lv_bipush (v := (35 : Int32)) hx hb d_Md_init_1409 (by decide) ?_
  refine va_iast hx hb hK hP hD hS 2 1 rfl rfl (i := (72 : Int32)) (by unfold vp_in; decide) d_Md_init_1411 (fun H locs hP hD hS => ?_)
  replace hP : va_P (dC, dI) cl_All [(qt, .inr (10, [.int 0, .ref a_q1, .null, .null, .int 0, .null, .null, .int 0, .int 0, .int 0, .null, .null, .null, .int 0, .null, .null, .int 0, .null, .null, .int 0, .null, .null, .null, .null, .null, .null, .null, .null, .int 0, .int 0, .int 0, .int 0, .int 0, .null])), (a_q1, .inl (a_c2, 160, .inl mk_Md_init_995)), (a_q3, .inl (a_c4, 160, .inl mk_Md_init_1411))] H := hP
  replace hD : va_D A [(qt, .inr (10, [.int 0, .ref a_q1, .null, .null, .int 0, .null, .null, .int 0, .int 0, .int 0, .null, .null, .null, .int 0, .null, .null, .int 0, .null, .null, .int 0, .null, .null, .null, .null, .null, .null, .null, .null, .int 0, .int 0, .int 0, .int 0, .int 0, .null])), (a_q1, .inl (a_c2, 160, .inl mk_Md_init_995)), (a_q3, .inl (a_c4, 160, .inl mk_Md_init_1411))] := hD
  refine lv_dup hx hb d_Md_init_1412 rfl ?_
  refine lv_bipush (v := (73 : Int32)) hx hb d_Md_init_1413 (by decide) ?_
  refine lv_bipush (v := (37 : Int32)) hx hb d_Md_init_1415 (by decide) ?_
  refine va_iast hx hb hK hP hD hS 2 1 rfl rfl (i := (73 : Int32)) (by unfold vp_in; decide) d_Md_init_1417 (fun H locs hP hD hS => ?_)
  replace hP : va_P (dC, dI) cl_All [(qt, .inr (10, [.int 0, .ref a_q1, .null, .null, .int 0, .null, .null, .int 0, .int 0, .int 0, .null, .null, .null, .int 0, .null, .null, .int 0, .null, .null, .int 0, .null, .null, .null, .null, .null, .null, .null, .null, .int 0, .int 0, .int 0, .int 0, .int 0, .null])), (a_q1, .inl (a_c2, 160, .inl mk_Md_init_995)), (a_q3, .inl (a_c4, 160, .inl mk_Md_init_1417))] H := hP
  replace hD : va_D A [(qt, .inr (10, [.int 0, .ref a_q1, .null, .null, .int 0, .null, .null, .int 0, .int 0, .int 0, .null, .null, .null, .int 0, .null, .null, .int 0, .null, .null, .int 0, .null, .null, .null, .null, .null, .null, .null, .null, .int 0, .int 0, .int 0, .int 0, .int 0, .null])), (a_q1, .inl (a_c2, 160, .inl mk_Md_init_995)), (a_q3, .inl (a_c4, 160, .inl mk_Md_init_1417))] := hD
  refine lv_dup hx hb d_Md_init_1418 rfl ?_
  refine lv_bipush (v := (74 : Int32)) hx hb d_Md_init_1419 (by decide) ?_
  refine lv_bipush (v := (38 : Int32)) hx hb d_Md_init_1421 (by decide) ?_
  refine va_iast hx hb hK hP hD hS 2 1 rfl rfl (i := (74 : Int32)) (by unfold vp_in; decide) d_Md_init_1423 (fun H locs hP hD hS => ?_)
  replace hP : va_P (dC, dI) cl_All [(qt, .inr (10, [.int 0, .ref a_q1, .null, .null, .int 0, .null, .null, .int 0, .int 0, .int 0, .null, .null, .null, .int 0, .null, .null, .int 0, .null, .null, .int 0, .null, .null, .null, .null, .null, .null, .null, .null, .int 0, .int 0, .int 0, .int 0, .int 0, .null])), (a_q1, .inl (a_c2, 160, .inl mk_Md_init_995)), (a_q3, .inl (a_c4, 160, .inl mk_Md_init_1423))] H := hP
  replace hD : va_D A [(qt, .inr (10, [.int 0, .ref a_q1, .null, .null, .int 0, .null, .null, .int 0, .int 0, .int 0, .null, .null, .null, .int 0, .null, .null, .int 0, .null, .null, .int 0, .null, .null, .null, .null, .null, .null, .null, .null, .int 0, .int 0, .int 0, .int 0, .int 0, .null])), (a_q1, .inl (a_c2, 160, .inl mk_Md_init_995)), (a_q3, .inl (a_c4, 160, .inl mk_Md_init_1423))] := hD
  refine lv_dup hx hb d_Md_init_1424 rfl ?_
  refine lv_bipush (v := (75 : Int32)) hx hb d_Md_init_1425 (by decide) ?_
  refine lv_bipush (v := (40 : Int32)) hx hb d_Md_init_1427 (by decide) ?_
  refine va_iast hx hb hK hP hD hS 2 1 rfl rfl (i := (75 : Int32)) (by unfold vp_in; decide) d_Md_init_1429 (fun H locs hP hD hS => ?_)
  replace hP : va_P (dC, dI) cl_All [(qt, .inr (10, [.int 0, .ref a_q1, .null, .null, .int 0, .null, .null, .int 0, .int 0, .int 0, .null, .null, .null, .int 0, .null, .null, .int 0, .null, .null, .int 0, .null, .null, .null, .null, .null, .null, .null, .null, .int 0, .int 0, .int 0, .int 0, .int 0, .null])), (a_q1, .inl (a_c2, 160, .inl mk_Md_init_995)), (a_q3, .inl (a_c4, 160, .inl mk_Md_init_1429))] H := hP
  replace hD : va_D A [(qt, .inr (10, [.int 0, .ref a_q1, .null, .null, .int 0, .null, .null, .int 0, .int 0, .int 0, .null, .null, .null, .int 0, .null, .null, .int 0, .null, .null, .int 0, .null, .null, .null, .null, .null, .null, .null, .null, .int 0, .int 0, .int 0, .int 0, .int 0, .null])), (a_q1, .inl (a_c2, 160, .inl mk_Md_init_995)), (a_q3, .inl (a_c4, 160, .inl mk_Md_init_1429))] := hD
  refine lv_dup hx hb d_Md_init_1430 rfl ?_
  refine lv_bipush (v := (76 : Int32)) hx hb d_Md_init_1431 (by decide) ?_
  refine lv_bipush (v := (43 : Int32)) hx hb d_Md_init_1433 (by decide) ?_
  refine va_iast hx hb hK hP hD hS 2 1 rfl rfl (i := (76 : Int32)) (by unfold vp_in; decide) d_Md_init_1435 (fun H locs hP hD hS => ?_)
  replace hP : va_P (dC, dI) cl_All [(qt, .inr (10, [.int 0, .ref a_q1, .null, .null, .int 0, .null, .null, .int 0, .int 0, .int 0, .null, .null, .null, .int 0, .null, .null, .int 0, .null, .null, .int 0, .null, .null, .null, .null, .null, .null, .null, .null, .int 0, .int 0, .int 0, .int 0, .int 0, .null])), (a_q1, .inl (a_c2, 160, .inl mk_Md_init_995)), (a_q3, .inl (a_c4, 160, .inl mk_Md_init_1435))] H := hP
  replace hD : va_D A [(qt, .inr (10, [.int 0, .ref a_q1, .null, .null, .int 0, .null, .null, .int 0, .int 0, .int 0, .null, .null, .null, .int 0, .null, .null, .int 0, .null, .null, .int 0, .null, .null, .null, .null, .null, .null, .null, .null, .int 0, .int 0, .int 0, .int 0, .int 0, .null])), (a_q1, .inl (a_c2, 160, .inl mk_Md_init_995)), (a_q3, .inl (a_c4, 160, .inl mk_Md_init_1435))] := hD
  refine lv_dup hx hb d_Md_init_1436 rfl ?_
  refine lv_bipush (v := (77 : Int32)) hx hb d_Md_init_1437 (by decide) ?_
  refine lv_bipush (v := (45 : Int32)) hx hb d_Md_init_1439 (by decide) ?_
  refine va_iast hx hb hK hP hD hS 2 1 rfl rfl (i := (77 : Int32)) (by unfold vp_in; decide) d_Md_init_1441 (fun H locs hP hD hS => ?_)
  replace hP : va_P (dC, dI) cl_All [(qt, .inr (10, [.int 0, .ref a_q1, .null, .null, .int 0, .null, .null, .int 0, .int 0, .int 0, .null, .null, .null, .int 0, .null, .null, .int 0, .null, .null, .int 0, .null, .null, .null, .null, .null, .null, .null, .null, .int 0, .int 0, .int 0, .int 0, .int 0, .null])), (a_q1, .inl (a_c2, 160, .inl mk_Md_init_995)), (a_q3, .inl (a_c4, 160, .inl mk_Md_init_1441))] H := hP
  replace hD : va_D A [(qt, .inr (10, [.int 0, .ref a_q1, .null, .null, .int 0, .null, .null, .int 0, .int 0, .int 0, .null, .null, .null, .int 0, .null, .null, .int 0, .null, .null, .int 0, .null, .null, .null, .null, .null, .null, .null, .null, .int 0, .int 0, .int 0, .int 0, .int 0, .null])), (a_q1, .inl (a_c2, 160, .inl mk_Md_init_995)), (a_q3, .inl (a_c4, 160, .inl mk_Md_init_1441))] := hD
  refine lv_dup hx hb d_Md_init_1442 rfl ?_
  refine lv_bipush (v := (78 : Int32)) hx hb d_Md_init_1443 (by decide) ?_
  refine lv_bipush (v := (47 : Int32)) hx hb d_Md_init_1445 (by decide) ?_
  refine va_iast hx hb hK hP hD hS 2 1 rfl rfl (i := (78 : Int32)) (by unfold vp_in; decide) d_Md_init_1447 (fun H locs hP hD hS => ?_)
  replace hP : va_P (dC, dI) cl_All [(qt, .inr (10, [.int 0, .ref a_q1, .null, .null, .int 0, .null, .null, .int 0, .int 0, .int 0, .null, .null, .null, .int 0, .null, .null, .int 0, .null, .null, .int 0, .null, .null, .null, .null, .null, .null, .null, .null, .int 0, .int 0, .int 0, .int 0, .int 0, .null])), (a_q1, .inl (a_c2, 160, .inl mk_Md_init_995)), (a_q3, .inl (a_c4, 160, .inl mk_Md_init_1447))] H := hP
  replace hD : va_D A [(qt, .inr (10, [.int 0, .ref a_q1, .null, .null, .int 0, .null, .null, .int 0, .int 0, .int 0, .null, .null, .null, .int 0, .null, .null, .int 0, .null, .null, .int 0, .null, .null, .null, .null, .null, .null, .null, .null, .int 0, .int 0, .int 0, .int 0, .int 0, .null])), (a_q1, .inl (a_c2, 160, .inl mk_Md_init_995)), (a_q3, .inl (a_c4, 160, .inl mk_Md_init_1447))] := hD
  refine lv_dup hx hb d_Md_init_1448 rfl ?_
  refine lv_bipush (v := (79 : Int32)) hx hb d_Md_init_1449 (by decide) ?_
  refine lv_bipush (v := (49 : Int32)) hx hb d_Md_init_1451 (by decide) ?_
  refine va_iast hx hb hK hP hD hS 2 1 rfl rfl (i := (79 : Int32)) (by unfold vp_in; decide) d_Md_init_1453 (fun H locs hP hD hS => ?_)
  replace hP : va_P (dC, dI) cl_All [(qt, .inr (10, [.int 0, .ref a_q1, .null, .null, .int 0, .null, .null, .int 0, .int 0, .int 0, .null, .null, .null, .int 0, .null, .null, .int 0, .null, .null, .int 0, .null, .null, .null, .null, .null, .null, .null, .null, .int 0, .int 0, .int 0, .int 0, .int 0, .null])), (a_q1, .inl (a_c2, 160, .inl mk_Md_init_995)), (a_q3, .inl (a_c4, 160, .inl mk_Md_init_1453))] H := hP
  replace hD : va_D A [(qt, .inr (10, [.int 0, .ref a_q1, .null, .null, .int 0, .null, .null, .int 0, .int 0, .int 0, .null, .null, .null, .int 0, .null, .null, .int 0, .null, .null, .int 0, .null, .null, .null, .null, .null, .null, .null, .null, .int 0, .int 0, .int 0, .int 0, .int 0, .null])), (a_q1, .inl (a_c2, 160, .inl mk_Md_init_995)), (a_q3, .inl (a_c4, 160, .inl mk_Md_init_1453))] := hD
  refine lv_dup hx hb d_Md_init_1454 rfl ?_
  refine lv_bipush (v := (80 : Int32)) hx hb d_Md_init_1455 (by decide) ?_
  refine lv_iconst (v := (1 : Int32)) hx hb d_Md_init_1457 (by decide) ?_
  refine va_iast hx hb hK hP hD hS 2 1 rfl rfl (i := (80 : Int32)) (by unfold vp_in; decide) d_Md_init_1458 (fun H locs hP hD hS => ?_)
  replace hP : va_P (dC, dI) cl_All [(qt, .inr (10, [.int 0, .ref a_q1, .null, .null, .int 0, .null, .null, .int 0, .int 0, .int 0, .null, .null, .null, .int 0, .null, .null, .int 0, .null, .null, .int 0, .null, .null, .null, .null, .null, .null, .null, .null, .int 0, .int 0, .int 0, .int 0, .int 0, .null])), (a_q1, .inl (a_c2, 160, .inl mk_Md_init_995)), (a_q3, .inl (a_c4, 160, .inl mk_Md_init_1458))] H := hP
  replace hD : va_D A [(qt, .inr (10, [.int 0, .ref a_q1, .null, .null, .int 0, .null, .null, .int 0, .int 0, .int 0, .null, .null, .null, .int 0, .null, .null, .int 0, .null, .null, .int 0, .null, .null, .null, .null, .null, .null, .null, .null, .int 0, .int 0, .int 0, .int 0, .int 0, .null])), (a_q1, .inl (a_c2, 160, .inl mk_Md_init_995)), (a_q3, .inl (a_c4, 160, .inl mk_Md_init_1458))] := hD
  refine lv_dup hx hb d_Md_init_1459 rfl ?_
  refine lv_bipush (v := (81 : Int32)) hx hb d_Md_init_1460 (by decide) ?_
  refine lv_iconst (v := (1 : Int32)) hx hb d_Md_init_1462 (by decide) ?_
  refine va_iast hx hb hK hP hD hS 2 1 rfl rfl (i := (81 : Int32)) (by unfold vp_in; decide) d_Md_init_1463 (fun H locs hP hD hS => ?_)
  replace hP : va_P (dC, dI) cl_All [(qt, .inr (10, [.int 0, .ref a_q1, .null, .null, .int 0, .null, .null, .int 0, .int 0, .int 0, .null, .null, .null, .int 0, .null, .null, .int 0, .null, .null, .int 0, .null, .null, .null, .null, .null, .null, .null, .null, .int 0, .int 0, .int 0, .int 0, .int 0, .null])), (a_q1, .inl (a_c2, 160, .inl mk_Md_init_995)), (a_q3, .inl (a_c4, 160, .inl mk_Md_init_1463))] H := hP
  replace hD : va_D A [(qt, .inr (10, [.int 0, .ref a_q1, .null, .null, .int 0, .null, .null, .int 0, .int 0, .int 0, .null, .null, .null, .int 0, .null, .null, .int 0, .null, .null, .int 0, .null, .null, .null, .null, .null, .null, .null, .null, .int 0, .int 0, .int 0, .int 0, .int 0, .null])), (a_q1, .inl (a_c2, 160, .inl mk_Md_init_995)), (a_q3, .inl (a_c4, 160, .inl mk_Md_init_1463))] := hD
  refine lv_dup hx hb d_Md_init_1464 rfl ?_
  refine lv_bipush (v := (82 : Int32)) hx hb d_Md_init_1465 (by decide) ?_
  refine lv_iconst (v := (2 : Int32)) hx hb d_Md_init_1467 (by decide) ?_
  refine va_iast hx hb hK hP hD hS 2 1 rfl rfl (i := (82 : Int32)) (by unfold vp_in; decide) d_Md_init_1468 (fun H locs hP hD hS => ?_)
  replace hP : va_P (dC, dI) cl_All [(qt, .inr (10, [.int 0, .ref a_q1, .null, .null, .int 0, .null, .null, .int 0, .int 0, .int 0, .null, .null, .null, .int 0, .null, .null, .int 0, .null, .null, .int 0, .null, .null, .null, .null, .null, .null, .null, .null, .int 0, .int 0, .int 0, .int 0, .int 0, .null])), (a_q1, .inl (a_c2, 160, .inl mk_Md_init_995)), (a_q3, .inl (a_c4, 160, .inl mk_Md_init_1468))] H := hP
  replace hD : va_D A [(qt, .inr (10, [.int 0, .ref a_q1, .null, .null, .int 0, .null, .null, .int 0, .int 0, .int 0, .null, .null, .null, .int 0, .null, .null, .int 0, .null, .null, .int 0, .null, .null, .null, .null, .null, .null, .null, .null, .int 0, .int 0, .int 0, .int 0, .int 0, .null])), (a_q1, .inl (a_c2, 160, .inl mk_Md_init_995)), (a_q3, .inl (a_c4, 160, .inl mk_Md_init_1468))] := hD
  refine lv_dup hx hb d_Md_init_1469 rfl ?_
  refine lv_bipush (v := (83 : Int32)) hx hb d_Md_init_1470 (by decide) ?_
  refine lv_iconst (v := (2 : Int32)) hx hb d_Md_init_1472 (by decide) ?_
  refine va_iast hx hb hK hP hD hS 2 1 rfl rfl (i := (83 : Int32)) (by unfold vp_in; decide) d_Md_init_1473 (fun H locs hP hD hS => ?_)
  replace hP : va_P (dC, dI) cl_All [(qt, .inr (10, [.int 0, .ref a_q1, .null, .null, .int 0, .null, .null, .int 0, .int 0, .int 0, .null, .null, .null, .int 0, .null, .null, .int 0, .null, .null, .int 0, .null, .null, .null, .null, .null, .null, .null, .null, .int 0, .int 0, .int 0, .int 0, .int 0, .null])), (a_q1, .inl (a_c2, 160, .inl mk_Md_init_995)), (a_q3, .inl (a_c4, 160, .inl mk_Md_init_1473))] H := hP
  replace hD : va_D A [(qt, .inr (10, [.int 0, .ref a_q1, .null, .null, .int 0, .null, .null, .int 0, .int 0, .int 0, .null, .null, .null, .int 0, .null, .null, .int 0, .null, .null, .int 0, .null, .null, .null, .null, .null, .null, .null, .null, .int 0, .int 0, .int 0, .int 0, .int 0, .null])), (a_q1, .inl (a_c2, 160, .inl mk_Md_init_995)), (a_q3, .inl (a_c4, 160, .inl mk_Md_init_1473))] := hD
  refine lv_dup hx hb d_Md_init_1474 rfl ?_
  refine lv_bipush (v := (84 : Int32)) hx hb d_Md_init_1475 (by decide) ?_
  refine lv_iconst (v := (4 : Int32)) hx hb d_Md_init_1477 (by decide) ?_
  refine va_iast hx hb hK hP hD hS 2 1 rfl rfl (i := (84 : Int32)) (by unfold vp_in; decide) d_Md_init_1478 (fun H locs hP hD hS => ?_)
  replace hP : va_P (dC, dI) cl_All [(qt, .inr (10, [.int 0, .ref a_q1, .null, .null, .int 0, .null, .null, .int 0, .int 0, .int 0, .null, .null, .null, .int 0, .null, .null, .int 0, .null, .null, .int 0, .null, .null, .null, .null, .null, .null, .null, .null, .int 0, .int 0, .int 0, .int 0, .int 0, .null])), (a_q1, .inl (a_c2, 160, .inl mk_Md_init_995)), (a_q3, .inl (a_c4, 160, .inl mk_Md_init_1478))] H := hP
  replace hD : va_D A [(qt, .inr (10, [.int 0, .ref a_q1, .null, .null, .int 0, .null, .null, .int 0, .int 0, .int 0, .null, .null, .null, .int 0, .null, .null, .int 0, .null, .null, .int 0, .null, .null, .null, .null, .null, .null, .null, .null, .int 0, .int 0, .int 0, .int 0, .int 0, .null])), (a_q1, .inl (a_c2, 160, .inl mk_Md_init_995)), (a_q3, .inl (a_c4, 160, .inl mk_Md_init_1478))] := hD
  refine lv_dup hx hb d_Md_init_1479 rfl ?_
  refine lv_bipush (v := (85 : Int32)) hx hb d_Md_init_1480 (by decide) ?_
  refine lv_iconst (v := (4 : Int32)) hx hb d_Md_init_1482 (by decide) ?_
  refine va_iast hx hb hK hP hD hS 2 1 rfl rfl (i := (85 : Int32)) (by unfold vp_in; decide) d_Md_init_1483 (fun H locs hP hD hS => ?_)
  replace hP : va_P (dC, dI) cl_All [(qt, .inr (10, [.int 0, .ref a_q1, .null, .null, .int 0, .null, .null, .int 0, .int 0, .int 0, .null, .null, .null, .int 0, .null, .null, .int 0, .null, .null, .int 0, .null, .null, .null, .null, .null, .null, .null, .null, .int 0, .int 0, .int 0, .int 0, .int 0, .null])), (a_q1, .inl (a_c2, 160, .inl mk_Md_init_995)), (a_q3, .inl (a_c4, 160, .inl mk_Md_init_1483))] H := hP
  replace hD : va_D A [(qt, .inr (10, [.int 0, .ref a_q1, .null, .null, .int 0, .null, .null, .int 0, .int 0, .int 0, .null, .null, .null, .int 0, .null, .null, .int 0, .null, .null, .int 0, .null, .null, .null, .null, .null, .null, .null, .null, .int 0, .int 0, .int 0, .int 0, .int 0, .null])), (a_q1, .inl (a_c2, 160, .inl mk_Md_init_995)), (a_q3, .inl (a_c4, 160, .inl mk_Md_init_1483))] := hD
  refine lv_dup hx hb d_Md_init_1484 rfl ?_
  refine lv_bipush (v := (86 : Int32)) hx hb d_Md_init_1485 (by decide) ?_
  refine lv_bipush (v := (6 : Int32)) hx hb d_Md_init_1487 (by decide) ?_
  refine va_iast hx hb hK hP hD hS 2 1 rfl rfl (i := (86 : Int32)) (by unfold vp_in; decide) d_Md_init_1489 (fun H locs hP hD hS => ?_)
  replace hP : va_P (dC, dI) cl_All [(qt, .inr (10, [.int 0, .ref a_q1, .null, .null, .int 0, .null, .null, .int 0, .int 0, .int 0, .null, .null, .null, .int 0, .null, .null, .int 0, .null, .null, .int 0, .null, .null, .null, .null, .null, .null, .null, .null, .int 0, .int 0, .int 0, .int 0, .int 0, .null])), (a_q1, .inl (a_c2, 160, .inl mk_Md_init_995)), (a_q3, .inl (a_c4, 160, .inl mk_Md_init_1489))] H := hP
  replace hD : va_D A [(qt, .inr (10, [.int 0, .ref a_q1, .null, .null, .int 0, .null, .null, .int 0, .int 0, .int 0, .null, .null, .null, .int 0, .null, .null, .int 0, .null, .null, .int 0, .null, .null, .null, .null, .null, .null, .null, .null, .int 0, .int 0, .int 0, .int 0, .int 0, .null])), (a_q1, .inl (a_c2, 160, .inl mk_Md_init_995)), (a_q3, .inl (a_c4, 160, .inl mk_Md_init_1489))] := hD
  refine lv_dup hx hb d_Md_init_1490 rfl ?_
  refine lv_bipush (v := (87 : Int32)) hx hb d_Md_init_1491 (by decide) ?_
  refine lv_bipush (v := (6 : Int32)) hx hb d_Md_init_1493 (by decide) ?_
  refine va_iast hx hb hK hP hD hS 2 1 rfl rfl (i := (87 : Int32)) (by unfold vp_in; decide) d_Md_init_1495 (fun H locs hP hD hS => ?_)
  replace hP : va_P (dC, dI) cl_All [(qt, .inr (10, [.int 0, .ref a_q1, .null, .null, .int 0, .null, .null, .int 0, .int 0, .int 0, .null, .null, .null, .int 0, .null, .null, .int 0, .null, .null, .int 0, .null, .null, .null, .null, .null, .null, .null, .null, .int 0, .int 0, .int 0, .int 0, .int 0, .null])), (a_q1, .inl (a_c2, 160, .inl mk_Md_init_995)), (a_q3, .inl (a_c4, 160, .inl mk_Md_init_1495))] H := hP
  replace hD : va_D A [(qt, .inr (10, [.int 0, .ref a_q1, .null, .null, .int 0, .null, .null, .int 0, .int 0, .int 0, .null, .null, .null, .int 0, .null, .null, .int 0, .null, .null, .int 0, .null, .null, .null, .null, .null, .null, .null, .null, .int 0, .int 0, .int 0, .int 0, .int 0, .null])), (a_q1, .inl (a_c2, 160, .inl mk_Md_init_995)), (a_q3, .inl (a_c4, 160, .inl mk_Md_init_1495))] := hD
  refine lv_dup hx hb d_Md_init_1496 rfl ?_
  refine lv_bipush (v := (88 : Int32)) hx hb d_Md_init_1497 (by decide) ?_
  refine lv_bipush (v := (8 : Int32)) hx hb d_Md_init_1499 (by decide) ?_
  refine va_iast hx hb hK hP hD hS 2 1 rfl rfl (i := (88 : Int32)) (by unfold vp_in; decide) d_Md_init_1501 (fun H locs hP hD hS => ?_)
  replace hP : va_P (dC, dI) cl_All [(qt, .inr (10, [.int 0, .ref a_q1, .null, .null, .int 0, .null, .null, .int 0, .int 0, .int 0, .null, .null, .null, .int 0, .null, .null, .int 0, .null, .null, .int 0, .null, .null, .null, .null, .null, .null, .null, .null, .int 0, .int 0, .int 0, .int 0, .int 0, .null])), (a_q1, .inl (a_c2, 160, .inl mk_Md_init_995)), (a_q3, .inl (a_c4, 160, .inl mk_Md_init_1501))] H := hP
  replace hD : va_D A [(qt, .inr (10, [.int 0, .ref a_q1, .null, .null, .int 0, .null, .null, .int 0, .int 0, .int 0, .null, .null, .null, .int 0, .null, .null, .int 0, .null, .null, .int 0, .null, .null, .null, .null, .null, .null, .null, .null, .int 0, .int 0, .int 0, .int 0, .int 0, .null])), (a_q1, .inl (a_c2, 160, .inl mk_Md_init_995)), (a_q3, .inl (a_c4, 160, .inl mk_Md_init_1501))] := hD
  refine lv_dup hx hb d_Md_init_1502 rfl ?_
  refine lv_bipush (v := (89 : Int32)) hx hb d_Md_init_1503 (by decide) ?_
  refine lv_bipush (v := (8 : Int32)) hx hb d_Md_init_1505 (by decide) ?_
  refine va_iast hx hb hK hP hD hS 2 1 rfl rfl (i := (89 : Int32)) (by unfold vp_in; decide) d_Md_init_1507 (fun H locs hP hD hS => ?_)
  replace hP : va_P (dC, dI) cl_All [(qt, .inr (10, [.int 0, .ref a_q1, .null, .null, .int 0, .null, .null, .int 0, .int 0, .int 0, .null, .null, .null, .int 0, .null, .null, .int 0, .null, .null, .int 0, .null, .null, .null, .null, .null, .null, .null, .null, .int 0, .int 0, .int 0, .int 0, .int 0, .null])), (a_q1, .inl (a_c2, 160, .inl mk_Md_init_995)), (a_q3, .inl (a_c4, 160, .inl mk_Md_init_1507))] H := hP
  replace hD : va_D A [(qt, .inr (10, [.int 0, .ref a_q1, .null, .null, .int 0, .null, .null, .int 0, .int 0, .int 0, .null, .null, .null, .int 0, .null, .null, .int 0, .null, .null, .int 0, .null, .null, .null, .null, .null, .null, .null, .null, .int 0, .int 0, .int 0, .int 0, .int 0, .null])), (a_q1, .inl (a_c2, 160, .inl mk_Md_init_995)), (a_q3, .inl (a_c4, 160, .inl mk_Md_init_1507))] := hD
  refine lv_dup hx hb d_Md_init_1508 rfl ?_
  refine lv_bipush (v := (90 : Int32)) hx hb d_Md_init_1509 (by decide) ?_
  refine lv_bipush (v := (8 : Int32)) hx hb d_Md_init_1511 (by decide) ?_
  refine va_iast hx hb hK hP hD hS 2 1 rfl rfl (i := (90 : Int32)) (by unfold vp_in; decide) d_Md_init_1513 (fun H locs hP hD hS => ?_)
  replace hP : va_P (dC, dI) cl_All [(qt, .inr (10, [.int 0, .ref a_q1, .null, .null, .int 0, .null, .null, .int 0, .int 0, .int 0, .null, .null, .null, .int 0, .null, .null, .int 0, .null, .null, .int 0, .null, .null, .null, .null, .null, .null, .null, .null, .int 0, .int 0, .int 0, .int 0, .int 0, .null])), (a_q1, .inl (a_c2, 160, .inl mk_Md_init_995)), (a_q3, .inl (a_c4, 160, .inl mk_Md_init_1513))] H := hP
  replace hD : va_D A [(qt, .inr (10, [.int 0, .ref a_q1, .null, .null, .int 0, .null, .null, .int 0, .int 0, .int 0, .null, .null, .null, .int 0, .null, .null, .int 0, .null, .null, .int 0, .null, .null, .null, .null, .null, .null, .null, .null, .int 0, .int 0, .int 0, .int 0, .int 0, .null])), (a_q1, .inl (a_c2, 160, .inl mk_Md_init_995)), (a_q3, .inl (a_c4, 160, .inl mk_Md_init_1513))] := hD
  refine lv_dup hx hb d_Md_init_1514 rfl ?_
  refine lv_bipush (v := (91 : Int32)) hx hb d_Md_init_1515 (by decide) ?_
  refine lv_bipush (v := (10 : Int32)) hx hb d_Md_init_1517 (by decide) ?_
  refine va_iast hx hb hK hP hD hS 2 1 rfl rfl (i := (91 : Int32)) (by unfold vp_in; decide) d_Md_init_1519 (fun H locs hP hD hS => ?_)
  replace hP : va_P (dC, dI) cl_All [(qt, .inr (10, [.int 0, .ref a_q1, .null, .null, .int 0, .null, .null, .int 0, .int 0, .int 0, .null, .null, .null, .int 0, .null, .null, .int 0, .null, .null, .int 0, .null, .null, .null, .null, .null, .null, .null, .null, .int 0, .int 0, .int 0, .int 0, .int 0, .null])), (a_q1, .inl (a_c2, 160, .inl mk_Md_init_995)), (a_q3, .inl (a_c4, 160, .inl mk_Md_init_1519))] H := hP
  replace hD : va_D A [(qt, .inr (10, [.int 0, .ref a_q1, .null, .null, .int 0, .null, .null, .int 0, .int 0, .int 0, .null, .null, .null, .int 0, .null, .null, .int 0, .null, .null, .int 0, .null, .null, .null, .null, .null, .null, .null, .null, .int 0, .int 0, .int 0, .int 0, .int 0, .null])), (a_q1, .inl (a_c2, 160, .inl mk_Md_init_995)), (a_q3, .inl (a_c4, 160, .inl mk_Md_init_1519))] := hD
  refine lv_dup hx hb d_Md_init_1520 rfl ?_
  refine lv_bipush (v := (92 : Int32)) hx hb d_Md_init_1521 (by decide) ?_
  refine lv_bipush (v := (12 : Int32)) hx hb d_Md_init_1523 (by decide) ?_
  refine va_iast hx hb hK hP hD hS 2 1 rfl rfl (i := (92 : Int32)) (by unfold vp_in; decide) d_Md_init_1525 (fun H locs hP hD hS => ?_)
  replace hP : va_P (dC, dI) cl_All [(qt, .inr (10, [.int 0, .ref a_q1, .null, .null, .int 0, .null, .null, .int 0, .int 0, .int 0, .null, .null, .null, .int 0, .null, .null, .int 0, .null, .null, .int 0, .null, .null, .null, .null, .null, .null, .null, .null, .int 0, .int 0, .int 0, .int 0, .int 0, .null])), (a_q1, .inl (a_c2, 160, .inl mk_Md_init_995)), (a_q3, .inl (a_c4, 160, .inl mk_Md_init_1525))] H := hP
  replace hD : va_D A [(qt, .inr (10, [.int 0, .ref a_q1, .null, .null, .int 0, .null, .null, .int 0, .int 0, .int 0, .null, .null, .null, .int 0, .null, .null, .int 0, .null, .null, .int 0, .null, .null, .null, .null, .null, .null, .null, .null, .int 0, .int 0, .int 0, .int 0, .int 0, .null])), (a_q1, .inl (a_c2, 160, .inl mk_Md_init_995)), (a_q3, .inl (a_c4, 160, .inl mk_Md_init_1525))] := hD
  refine lv_dup hx hb d_Md_init_1526 rfl ?_
  refine lv_bipush (v := (93 : Int32)) hx hb d_Md_init_1527 (by decide) ?_
  refine lv_bipush (v := (16 : Int32)) hx hb d_Md_init_1529 (by decide) ?_
  refine va_iast hx hb hK hP hD hS 2 1 rfl rfl (i := (93 : Int32)) (by unfold vp_in; decide) d_Md_init_1531 (fun H locs hP hD hS => ?_)
  replace hP : va_P (dC, dI) cl_All [(qt, .inr (10, [.int 0, .ref a_q1, .null, .null, .int 0, .null, .null, .int 0, .int 0, .int 0, .null, .null, .null, .int 0, .null, .null, .int 0, .null, .null, .int 0, .null, .null, .null, .null, .null, .null, .null, .null, .int 0, .int 0, .int 0, .int 0, .int 0, .null])), (a_q1, .inl (a_c2, 160, .inl mk_Md_init_995)), (a_q3, .inl (a_c4, 160, .inl mk_Md_init_1531))] H := hP
  replace hD : va_D A [(qt, .inr (10, [.int 0, .ref a_q1, .null, .null, .int 0, .null, .null, .int 0, .int 0, .int 0, .null, .null, .null, .int 0, .null, .null, .int 0, .null, .null, .int 0, .null, .null, .null, .null, .null, .null, .null, .null, .int 0, .int 0, .int 0, .int 0, .int 0, .null])), (a_q1, .inl (a_c2, 160, .inl mk_Md_init_995)), (a_q3, .inl (a_c4, 160, .inl mk_Md_init_1531))] := hD
  refine lv_dup hx hb d_Md_init_1532 rfl ?_
  refine lv_bipush (v := (94 : Int32)) hx hb d_Md_init_1533 (by decide) ?_
  refine lv_bipush (v := (12 : Int32)) hx hb d_Md_init_1535 (by decide) ?_
  refine va_iast hx hb hK hP hD hS 2 1 rfl rfl (i := (94 : Int32)) (by unfold vp_in; decide) d_Md_init_1537 (fun H locs hP hD hS => ?_)
  replace hP : va_P (dC, dI) cl_All [(qt, .inr (10, [.int 0, .ref a_q1, .null, .null, .int 0, .null, .null, .int 0, .int 0, .int 0, .null, .null, .null, .int 0, .null, .null, .int 0, .null, .null, .int 0, .null, .null, .null, .null, .null, .null, .null, .null, .int 0, .int 0, .int 0, .int 0, .int 0, .null])), (a_q1, .inl (a_c2, 160, .inl mk_Md_init_995)), (a_q3, .inl (a_c4, 160, .inl mk_Md_init_1537))] H := hP
  replace hD : va_D A [(qt, .inr (10, [.int 0, .ref a_q1, .null, .null, .int 0, .null, .null, .int 0, .int 0, .int 0, .null, .null, .null, .int 0, .null, .null, .int 0, .null, .null, .int 0, .null, .null, .null, .null, .null, .null, .null, .null, .int 0, .int 0, .int 0, .int 0, .int 0, .null])), (a_q1, .inl (a_c2, 160, .inl mk_Md_init_995)), (a_q3, .inl (a_c4, 160, .inl mk_Md_init_1537))] := hD
  refine lv_dup hx hb d_Md_init_1538 rfl ?_
  refine lv_bipush (v := (95 : Int32)) hx hb d_Md_init_1539 (by decide) ?_
  refine lv_bipush (v := (17 : Int32)) hx hb d_Md_init_1541 (by decide) ?_
  refine va_iast hx hb hK hP hD hS 2 1 rfl rfl (i := (95 : Int32)) (by unfold vp_in; decide) d_Md_init_1543 (fun H locs hP hD hS => ?_)
  replace hP : va_P (dC, dI) cl_All [(qt, .inr (10, [.int 0, .ref a_q1, .null, .null, .int 0, .null, .null, .int 0, .int 0, .int 0, .null, .null, .null, .int 0, .null, .null, .int 0, .null, .null, .int 0, .null, .null, .null, .null, .null, .null, .null, .null, .int 0, .int 0, .int 0, .int 0, .int 0, .null])), (a_q1, .inl (a_c2, 160, .inl mk_Md_init_995)), (a_q3, .inl (a_c4, 160, .inl mk_Md_init_1543))] H := hP
  replace hD : va_D A [(qt, .inr (10, [.int 0, .ref a_q1, .null, .null, .int 0, .null, .null, .int 0, .int 0, .int 0, .null, .null, .null, .int 0, .null, .null, .int 0, .null, .null, .int 0, .null, .null, .null, .null, .null, .null, .null, .null, .int 0, .int 0, .int 0, .int 0, .int 0, .null])), (a_q1, .inl (a_c2, 160, .inl mk_Md_init_995)), (a_q3, .inl (a_c4, 160, .inl mk_Md_init_1543))] := hD
  refine lv_dup hx hb d_Md_init_1544 rfl ?_
  refine lv_bipush (v := (96 : Int32)) hx hb d_Md_init_1545 (by decide) ?_
  refine lv_bipush (v := (16 : Int32)) hx hb d_Md_init_1547 (by decide) ?_
  refine va_iast hx hb hK hP hD hS 2 1 rfl rfl (i := (96 : Int32)) (by unfold vp_in; decide) d_Md_init_1549 (fun H locs hP hD hS => ?_)
  replace hP : va_P (dC, dI) cl_All [(qt, .inr (10, [.int 0, .ref a_q1, .null, .null, .int 0, .null, .null, .int 0, .int 0, .int 0, .null, .null, .null, .int 0, .null, .null, .int 0, .null, .null, .int 0, .null, .null, .null, .null, .null, .null, .null, .null, .int 0, .int 0, .int 0, .int 0, .int 0, .null])), (a_q1, .inl (a_c2, 160, .inl mk_Md_init_995)), (a_q3, .inl (a_c4, 160, .inl mk_Md_init_1549))] H := hP
  replace hD : va_D A [(qt, .inr (10, [.int 0, .ref a_q1, .null, .null, .int 0, .null, .null, .int 0, .int 0, .int 0, .null, .null, .null, .int 0, .null, .null, .int 0, .null, .null, .int 0, .null, .null, .null, .null, .null, .null, .null, .null, .int 0, .int 0, .int 0, .int 0, .int 0, .null])), (a_q1, .inl (a_c2, 160, .inl mk_Md_init_995)), (a_q3, .inl (a_c4, 160, .inl mk_Md_init_1549))] := hD
  refine lv_dup hx hb d_Md_init_1550 rfl ?_
  refine lv_bipush (v := (97 : Int32)) hx hb d_Md_init_1551 (by decide) ?_
  refine lv_bipush (v := (18 : Int32)) hx hb d_Md_init_1553 (by decide) ?_
  refine va_iast hx hb hK hP hD hS 2 1 rfl rfl (i := (97 : Int32)) (by unfold vp_in; decide) d_Md_init_1555 (fun H locs hP hD hS => ?_)
  replace hP : va_P (dC, dI) cl_All [(qt, .inr (10, [.int 0, .ref a_q1, .null, .null, .int 0, .null, .null, .int 0, .int 0, .int 0, .null, .null, .null, .int 0, .null, .null, .int 0, .null, .null, .int 0, .null, .null, .null, .null, .null, .null, .null, .null, .int 0, .int 0, .int 0, .int 0, .int 0, .null])), (a_q1, .inl (a_c2, 160, .inl mk_Md_init_995)), (a_q3, .inl (a_c4, 160, .inl mk_Md_init_1555))] H := hP
  replace hD : va_D A [(qt, .inr (10, [.int 0, .ref a_q1, .null, .null, .int 0, .null, .null, .int 0, .int 0, .int 0, .null, .null, .null, .int 0, .null, .null, .int 0, .null, .null, .int 0, .null, .null, .null, .null, .null, .null, .null, .null, .int 0, .int 0, .int 0, .int 0, .int 0, .null])), (a_q1, .inl (a_c2, 160, .inl mk_Md_init_995)), (a_q3, .inl (a_c4, 160, .inl mk_Md_init_1555))] := hD
  refine lv_dup hx hb d_Md_init_1556 rfl ?_
  refine lv_bipush (v := (98 : Int32)) hx hb d_Md_init_1557 (by decide) ?_
  refine lv_bipush (v := (21 : Int32)) hx hb d_Md_init_1559 (by decide) ?_
  refine va_iast hx hb hK hP hD hS 2 1 rfl rfl (i := (98 : Int32)) (by unfold vp_in; decide) d_Md_init_1561 (fun H locs hP hD hS => ?_)
  replace hP : va_P (dC, dI) cl_All [(qt, .inr (10, [.int 0, .ref a_q1, .null, .null, .int 0, .null, .null, .int 0, .int 0, .int 0, .null, .null, .null, .int 0, .null, .null, .int 0, .null, .null, .int 0, .null, .null, .null, .null, .null, .null, .null, .null, .int 0, .int 0, .int 0, .int 0, .int 0, .null])), (a_q1, .inl (a_c2, 160, .inl mk_Md_init_995)), (a_q3, .inl (a_c4, 160, .inl mk_Md_init_1561))] H := hP
  replace hD : va_D A [(qt, .inr (10, [.int 0, .ref a_q1, .null, .null, .int 0, .null, .null, .int 0, .int 0, .int 0, .null, .null, .null, .int 0, .null, .null, .int 0, .null, .null, .int 0, .null, .null, .null, .null, .null, .null, .null, .null, .int 0, .int 0, .int 0, .int 0, .int 0, .null])), (a_q1, .inl (a_c2, 160, .inl mk_Md_init_995)), (a_q3, .inl (a_c4, 160, .inl mk_Md_init_1561))] := hD
  refine lv_dup hx hb d_Md_init_1562 rfl ?_
  refine lv_bipush (v := (99 : Int32)) hx hb d_Md_init_1563 (by decide) ?_
  refine lv_bipush (v := (20 : Int32)) hx hb d_Md_init_1565 (by decide) ?_
  refine va_iast hx hb hK hP hD hS 2 1 rfl rfl (i := (99 : Int32)) (by unfold vp_in; decide) d_Md_init_1567 (fun H locs hP hD hS => ?_)
  replace hP : va_P (dC, dI) cl_All [(qt, .inr (10, [.int 0, .ref a_q1, .null, .null, .int 0, .null, .null, .int 0, .int 0, .int 0, .null, .null, .null, .int 0, .null, .null, .int 0, .null, .null, .int 0, .null, .null, .null, .null, .null, .null, .null, .null, .int 0, .int 0, .int 0, .int 0, .int 0, .null])), (a_q1, .inl (a_c2, 160, .inl mk_Md_init_995)), (a_q3, .inl (a_c4, 160, .inl mk_Md_init_1567))] H := hP
  replace hD : va_D A [(qt, .inr (10, [.int 0, .ref a_q1, .null, .null, .int 0, .null, .null, .int 0, .int 0, .int 0, .null, .null, .null, .int 0, .null, .null, .int 0, .null, .null, .int 0, .null, .null, .null, .null, .null, .null, .null, .null, .int 0, .int 0, .int 0, .int 0, .int 0, .null])), (a_q1, .inl (a_c2, 160, .inl mk_Md_init_995)), (a_q3, .inl (a_c4, 160, .inl mk_Md_init_1567))] := hD
  refine lv_dup hx hb d_Md_init_1568 rfl ?_
  refine lv_bipush (v := (100 : Int32)) hx hb d_Md_init_1569 (by decide) ?_
  refine lv_bipush (v := (23 : Int32)) hx hb d_Md_init_1571 (by decide) ?_
  refine va_iast hx hb hK hP hD hS 2 1 rfl rfl (i := (100 : Int32)) (by unfold vp_in; decide) d_Md_init_1573 (fun H locs hP hD hS => ?_)
  replace hP : va_P (dC, dI) cl_All [(qt, .inr (10, [.int 0, .ref a_q1, .null, .null, .int 0, .null, .null, .int 0, .int 0, .int 0, .null, .null, .null, .int 0, .null, .null, .int 0, .null, .null, .int 0, .null, .null, .null, .null, .null, .null, .null, .null, .int 0, .int 0, .int 0, .int 0, .int 0, .null])), (a_q1, .inl (a_c2, 160, .inl mk_Md_init_995)), (a_q3, .inl (a_c4, 160, .inl mk_Md_init_1573))] H := hP
  replace hD : va_D A [(qt, .inr (10, [.int 0, .ref a_q1, .null, .null, .int 0, .null, .null, .int 0, .int 0, .int 0, .null, .null, .null, .int 0, .null, .null, .int 0, .null, .null, .int 0, .null, .null, .null, .null, .null, .null, .null, .null, .int 0, .int 0, .int 0, .int 0, .int 0, .null])), (a_q1, .inl (a_c2, 160, .inl mk_Md_init_995)), (a_q3, .inl (a_c4, 160, .inl mk_Md_init_1573))] := hD
  refine lv_dup hx hb d_Md_init_1574 rfl ?_
  refine lv_bipush (v := (101 : Int32)) hx hb d_Md_init_1575 (by decide) ?_
  refine lv_bipush (v := (23 : Int32)) hx hb d_Md_init_1577 (by decide) ?_
  refine va_iast hx hb hK hP hD hS 2 1 rfl rfl (i := (101 : Int32)) (by unfold vp_in; decide) d_Md_init_1579 (fun H locs hP hD hS => ?_)
  replace hP : va_P (dC, dI) cl_All [(qt, .inr (10, [.int 0, .ref a_q1, .null, .null, .int 0, .null, .null, .int 0, .int 0, .int 0, .null, .null, .null, .int 0, .null, .null, .int 0, .null, .null, .int 0, .null, .null, .null, .null, .null, .null, .null, .null, .int 0, .int 0, .int 0, .int 0, .int 0, .null])), (a_q1, .inl (a_c2, 160, .inl mk_Md_init_995)), (a_q3, .inl (a_c4, 160, .inl mk_Md_init_1579))] H := hP
  replace hD : va_D A [(qt, .inr (10, [.int 0, .ref a_q1, .null, .null, .int 0, .null, .null, .int 0, .int 0, .int 0, .null, .null, .null, .int 0, .null, .null, .int 0, .null, .null, .int 0, .null, .null, .null, .null, .null, .null, .null, .null, .int 0, .int 0, .int 0, .int 0, .int 0, .null])), (a_q1, .inl (a_c2, 160, .inl mk_Md_init_995)), (a_q3, .inl (a_c4, 160, .inl mk_Md_init_1579))] := hD
  refine lv_dup hx hb d_Md_init_1580 rfl ?_
  refine lv_bipush (v := (102 : Int32)) hx hb d_Md_init_1581 (by decide) ?_
  refine lv_bipush (v := (25 : Int32)) hx hb d_Md_init_1583 (by decide) ?_
  refine va_iast hx hb hK hP hD hS 2 1 rfl rfl (i := (102 : Int32)) (by unfold vp_in; decide) d_Md_init_1585 (fun H locs hP hD hS => ?_)
  replace hP : va_P (dC, dI) cl_All [(qt, .inr (10, [.int 0, .ref a_q1, .null, .null, .int 0, .null, .null, .int 0, .int 0, .int 0, .null, .null, .null, .int 0, .null, .null, .int 0, .null, .null, .int 0, .null, .null, .null, .null, .null, .null, .null, .null, .int 0, .int 0, .int 0, .int 0, .int 0, .null])), (a_q1, .inl (a_c2, 160, .inl mk_Md_init_995)), (a_q3, .inl (a_c4, 160, .inl mk_Md_init_1585))] H := hP
  replace hD : va_D A [(qt, .inr (10, [.int 0, .ref a_q1, .null, .null, .int 0, .null, .null, .int 0, .int 0, .int 0, .null, .null, .null, .int 0, .null, .null, .int 0, .null, .null, .int 0, .null, .null, .null, .null, .null, .null, .null, .null, .int 0, .int 0, .int 0, .int 0, .int 0, .null])), (a_q1, .inl (a_c2, 160, .inl mk_Md_init_995)), (a_q3, .inl (a_c4, 160, .inl mk_Md_init_1585))] := hD
  refine lv_dup hx hb d_Md_init_1586 rfl ?_
  refine lv_bipush (v := (103 : Int32)) hx hb d_Md_init_1587 (by decide) ?_
  refine lv_bipush (v := (27 : Int32)) hx hb d_Md_init_1589 (by decide) ?_
  refine va_iast hx hb hK hP hD hS 2 1 rfl rfl (i := (103 : Int32)) (by unfold vp_in; decide) d_Md_init_1591 (fun H locs hP hD hS => ?_)
  replace hP : va_P (dC, dI) cl_All [(qt, .inr (10, [.int 0, .ref a_q1, .null, .null, .int 0, .null, .null, .int 0, .int 0, .int 0, .null, .null, .null, .int 0, .null, .null, .int 0, .null, .null, .int 0, .null, .null, .null, .null, .null, .null, .null, .null, .int 0, .int 0, .int 0, .int 0, .int 0, .null])), (a_q1, .inl (a_c2, 160, .inl mk_Md_init_995)), (a_q3, .inl (a_c4, 160, .inl mk_Md_init_1591))] H := hP
  replace hD : va_D A [(qt, .inr (10, [.int 0, .ref a_q1, .null, .null, .int 0, .null, .null, .int 0, .int 0, .int 0, .null, .null, .null, .int 0, .null, .null, .int 0, .null, .null, .int 0, .null, .null, .null, .null, .null, .null, .null, .null, .int 0, .int 0, .int 0, .int 0, .int 0, .null])), (a_q1, .inl (a_c2, 160, .inl mk_Md_init_995)), (a_q3, .inl (a_c4, 160, .inl mk_Md_init_1591))] := hD
  refine lv_dup hx hb d_Md_init_1592 rfl ?_
  refine lv_bipush (v := (104 : Int32)) hx hb d_Md_init_1593 (by decide) ?_
  refine lv_bipush (v := (29 : Int32)) hx hb d_Md_init_1595 (by decide) ?_
  refine va_iast hx hb hK hP hD hS 2 1 rfl rfl (i := (104 : Int32)) (by unfold vp_in; decide) d_Md_init_1597 (fun H locs hP hD hS => ?_)
  replace hP : va_P (dC, dI) cl_All [(qt, .inr (10, [.int 0, .ref a_q1, .null, .null, .int 0, .null, .null, .int 0, .int 0, .int 0, .null, .null, .null, .int 0, .null, .null, .int 0, .null, .null, .int 0, .null, .null, .null, .null, .null, .null, .null, .null, .int 0, .int 0, .int 0, .int 0, .int 0, .null])), (a_q1, .inl (a_c2, 160, .inl mk_Md_init_995)), (a_q3, .inl (a_c4, 160, .inl mk_Md_init_1597))] H := hP
  replace hD : va_D A [(qt, .inr (10, [.int 0, .ref a_q1, .null, .null, .int 0, .null, .null, .int 0, .int 0, .int 0, .null, .null, .null, .int 0, .null, .null, .int 0, .null, .null, .int 0, .null, .null, .null, .null, .null, .null, .null, .null, .int 0, .int 0, .int 0, .int 0, .int 0, .null])), (a_q1, .inl (a_c2, 160, .inl mk_Md_init_995)), (a_q3, .inl (a_c4, 160, .inl mk_Md_init_1597))] := hD
  refine lv_dup hx hb d_Md_init_1598 rfl ?_
  refine lv_bipush (v := (105 : Int32)) hx hb d_Md_init_1599 (by decide) ?_
  refine lv_bipush (v := (34 : Int32)) hx hb d_Md_init_1601 (by decide) ?_
  refine va_iast hx hb hK hP hD hS 2 1 rfl rfl (i := (105 : Int32)) (by unfold vp_in; decide) d_Md_init_1603 (fun H locs hP hD hS => ?_)
  replace hP : va_P (dC, dI) cl_All [(qt, .inr (10, [.int 0, .ref a_q1, .null, .null, .int 0, .null, .null, .int 0, .int 0, .int 0, .null, .null, .null, .int 0, .null, .null, .int 0, .null, .null, .int 0, .null, .null, .null, .null, .null, .null, .null, .null, .int 0, .int 0, .int 0, .int 0, .int 0, .null])), (a_q1, .inl (a_c2, 160, .inl mk_Md_init_995)), (a_q3, .inl (a_c4, 160, .inl mk_Md_init_1603))] H := hP
  replace hD : va_D A [(qt, .inr (10, [.int 0, .ref a_q1, .null, .null, .int 0, .null, .null, .int 0, .int 0, .int 0, .null, .null, .null, .int 0, .null, .null, .int 0, .null, .null, .int 0, .null, .null, .null, .null, .null, .null, .null, .null, .int 0, .int 0, .int 0, .int 0, .int 0, .null])), (a_q1, .inl (a_c2, 160, .inl mk_Md_init_995)), (a_q3, .inl (a_c4, 160, .inl mk_Md_init_1603))] := hD
  refine lv_dup hx hb d_Md_init_1604 rfl ?_
  refine lv_bipush (v := (106 : Int32)) hx hb d_Md_init_1605 (by decide) ?_
  refine lv_bipush (v := (34 : Int32)) hx hb d_Md_init_1607 (by decide) ?_
  refine va_iast hx hb hK hP hD hS 2 1 rfl rfl (i := (106 : Int32)) (by unfold vp_in; decide) d_Md_init_1609 (fun H locs hP hD hS => ?_)
  replace hP : va_P (dC, dI) cl_All [(qt, .inr (10, [.int 0, .ref a_q1, .null, .null, .int 0, .null, .null, .int 0, .int 0, .int 0, .null, .null, .null, .int 0, .null, .null, .int 0, .null, .null, .int 0, .null, .null, .null, .null, .null, .null, .null, .null, .int 0, .int 0, .int 0, .int 0, .int 0, .null])), (a_q1, .inl (a_c2, 160, .inl mk_Md_init_995)), (a_q3, .inl (a_c4, 160, .inl mk_Md_init_1609))] H := hP
  replace hD : va_D A [(qt, .inr (10, [.int 0, .ref a_q1, .null, .null, .int 0, .null, .null, .int 0, .int 0, .int 0, .null, .null, .null, .int 0, .null, .null, .int 0, .null, .null, .int 0, .null, .null, .null, .null, .null, .null, .null, .null, .int 0, .int 0, .int 0, .int 0, .int 0, .null])), (a_q1, .inl (a_c2, 160, .inl mk_Md_init_995)), (a_q3, .inl (a_c4, 160, .inl mk_Md_init_1609))] := hD
  refine lv_dup hx hb d_Md_init_1610 rfl ?_
  refine lv_bipush (v := (107 : Int32)) hx hb d_Md_init_1611 (by decide) ?_
  refine lv_bipush (v := (35 : Int32)) hx hb d_Md_init_1613 (by decide) ?_
  refine va_iast hx hb hK hP hD hS 2 1 rfl rfl (i := (107 : Int32)) (by unfold vp_in; decide) d_Md_init_1615 (fun H locs hP hD hS => ?_)
  replace hP : va_P (dC, dI) cl_All [(qt, .inr (10, [.int 0, .ref a_q1, .null, .null, .int 0, .null, .null, .int 0, .int 0, .int 0, .null, .null, .null, .int 0, .null, .null, .int 0, .null, .null, .int 0, .null, .null, .null, .null, .null, .null, .null, .null, .int 0, .int 0, .int 0, .int 0, .int 0, .null])), (a_q1, .inl (a_c2, 160, .inl mk_Md_init_995)), (a_q3, .inl (a_c4, 160, .inl mk_Md_init_1615))] H := hP
  replace hD : va_D A [(qt, .inr (10, [.int 0, .ref a_q1, .null, .null, .int 0, .null, .null, .int 0, .int 0, .int 0, .null, .null, .null, .int 0, .null, .null, .int 0, .null, .null, .int 0, .null, .null, .null, .null, .null, .null, .null, .null, .int 0, .int 0, .int 0, .int 0, .int 0, .null])), (a_q1, .inl (a_c2, 160, .inl mk_Md_init_995)), (a_q3, .inl (a_c4, 160, .inl mk_Md_init_1615))] := hD
  refine lv_dup hx hb d_Md_init_1616 rfl ?_
  refine lv_bipush (v := (108 : Int32)) hx hb d_Md_init_1617 (by decide) ?_
  refine lv_bipush (v := (38 : Int32)) hx hb d_Md_init_1619 (by decide) ?_
  refine va_iast hx hb hK hP hD hS 2 1 rfl rfl (i := (108 : Int32)) (by unfold vp_in; decide) d_Md_init_1621 (fun H locs hP hD hS => ?_)
  replace hP : va_P (dC, dI) cl_All [(qt, .inr (10, [.int 0, .ref a_q1, .null, .null, .int 0, .null, .null, .int 0, .int 0, .int 0, .null, .null, .null, .int 0, .null, .null, .int 0, .null, .null, .int 0, .null, .null, .null, .null, .null, .null, .null, .null, .int 0, .int 0, .int 0, .int 0, .int 0, .null])), (a_q1, .inl (a_c2, 160, .inl mk_Md_init_995)), (a_q3, .inl (a_c4, 160, .inl mk_Md_init_1621))] H := hP
  replace hD : va_D A [(qt, .inr (10, [.int 0, .ref a_q1, .null, .null, .int 0, .null, .null, .int 0, .int 0, .int 0, .null, .null, .null, .int 0, .null, .null, .int 0, .null, .null, .int 0, .null, .null, .null, .null, .null, .null, .null, .null, .int 0, .int 0, .int 0, .int 0, .int 0, .null])), (a_q1, .inl (a_c2, 160, .inl mk_Md_init_995)), (a_q3, .inl (a_c4, 160, .inl mk_Md_init_1621))] := hD
  refine lv_dup hx hb d_Md_init_1622 rfl ?_
  refine lv_bipush (v := (109 : Int32)) hx hb d_Md_init_1623 (by decide) ?_
  refine lv_bipush (v := (40 : Int32)) hx hb d_Md_init_1625 (by decide) ?_
  refine va_iast hx hb hK hP hD hS 2 1 rfl rfl (i := (109 : Int32)) (by unfold vp_in; decide) d_Md_init_1627 (fun H locs hP hD hS => ?_)
  replace hP : va_P (dC, dI) cl_All [(qt, .inr (10, [.int 0, .ref a_q1, .null, .null, .int 0, .null, .null, .int 0, .int 0, .int 0, .null, .null, .null, .int 0, .null, .null, .int 0, .null, .null, .int 0, .null, .null, .null, .null, .null, .null, .null, .null, .int 0, .int 0, .int 0, .int 0, .int 0, .null])), (a_q1, .inl (a_c2, 160, .inl mk_Md_init_995)), (a_q3, .inl (a_c4, 160, .inl mk_Md_init_1627))] H := hP
  replace hD : va_D A [(qt, .inr (10, [.int 0, .ref a_q1, .null, .null, .int 0, .null, .null, .int 0, .int 0, .int 0, .null, .null, .null, .int 0, .null, .null, .int 0, .null, .null, .int 0, .null, .null, .null, .null, .null, .null, .null, .null, .int 0, .int 0, .int 0, .int 0, .int 0, .null])), (a_q1, .inl (a_c2, 160, .inl mk_Md_init_995)), (a_q3, .inl (a_c4, 160, .inl mk_Md_init_1627))] := hD
  refine lv_dup hx hb d_Md_init_1628 rfl ?_
  refine lv_bipush (v := (110 : Int32)) hx hb d_Md_init_1629 (by decide) ?_
  refine lv_bipush (v := (43 : Int32)) hx hb d_Md_init_1631 (by decide) ?_
  refine va_iast hx hb hK hP hD hS 2 1 rfl rfl (i := (110 : Int32)) (by unfold vp_in; decide) d_Md_init_1633 (fun H locs hP hD hS => ?_)
  replace hP : va_P (dC, dI) cl_All [(qt, .inr (10, [.int 0, .ref a_q1, .null, .null, .int 0, .null, .null, .int 0, .int 0, .int 0, .null, .null, .null, .int 0, .null, .null, .int 0, .null, .null, .int 0, .null, .null, .null, .null, .null, .null, .null, .null, .int 0, .int 0, .int 0, .int 0, .int 0, .null])), (a_q1, .inl (a_c2, 160, .inl mk_Md_init_995)), (a_q3, .inl (a_c4, 160, .inl mk_Md_init_1633))] H := hP
  replace hD : va_D A [(qt, .inr (10, [.int 0, .ref a_q1, .null, .null, .int 0, .null, .null, .int 0, .int 0, .int 0, .null, .null, .null, .int 0, .null, .null, .int 0, .null, .null, .int 0, .null, .null, .null, .null, .null, .null, .null, .null, .int 0, .int 0, .int 0, .int 0, .int 0, .null])), (a_q1, .inl (a_c2, 160, .inl mk_Md_init_995)), (a_q3, .inl (a_c4, 160, .inl mk_Md_init_1633))] := hD
  refine lv_dup hx hb d_Md_init_1634 rfl ?_
  refine lv_bipush (v := (111 : Int32)) hx hb d_Md_init_1635 (by decide) ?_
  refine lv_bipush (v := (45 : Int32)) hx hb d_Md_init_1637 (by decide) ?_
  refine va_iast hx hb hK hP hD hS 2 1 rfl rfl (i := (111 : Int32)) (by unfold vp_in; decide) d_Md_init_1639 (fun H locs hP hD hS => ?_)
  replace hP : va_P (dC, dI) cl_All [(qt, .inr (10, [.int 0, .ref a_q1, .null, .null, .int 0, .null, .null, .int 0, .int 0, .int 0, .null, .null, .null, .int 0, .null, .null, .int 0, .null, .null, .int 0, .null, .null, .null, .null, .null, .null, .null, .null, .int 0, .int 0, .int 0, .int 0, .int 0, .null])), (a_q1, .inl (a_c2, 160, .inl mk_Md_init_995)), (a_q3, .inl (a_c4, 160, .inl mk_Md_init_1639))] H := hP
  replace hD : va_D A [(qt, .inr (10, [.int 0, .ref a_q1, .null, .null, .int 0, .null, .null, .int 0, .int 0, .int 0, .null, .null, .null, .int 0, .null, .null, .int 0, .null, .null, .int 0, .null, .null, .null, .null, .null, .null, .null, .null, .int 0, .int 0, .int 0, .int 0, .int 0, .null])), (a_q1, .inl (a_c2, 160, .inl mk_Md_init_995)), (a_q3, .inl (a_c4, 160, .inl mk_Md_init_1639))] := hD
  refine lv_dup hx hb d_Md_init_1640 rfl ?_
  refine lv_bipush (v := (112 : Int32)) hx hb d_Md_init_1641 (by decide) ?_
  refine lv_bipush (v := (48 : Int32)) hx hb d_Md_init_1643 (by decide) ?_
  refine va_iast hx hb hK hP hD hS 2 1 rfl rfl (i := (112 : Int32)) (by unfold vp_in; decide) d_Md_init_1645 (fun H locs hP hD hS => ?_)
  replace hP : va_P (dC, dI) cl_All [(qt, .inr (10, [.int 0, .ref a_q1, .null, .null, .int 0, .null, .null, .int 0, .int 0, .int 0, .null, .null, .null, .int 0, .null, .null, .int 0, .null, .null, .int 0, .null, .null, .null, .null, .null, .null, .null, .null, .int 0, .int 0, .int 0, .int 0, .int 0, .null])), (a_q1, .inl (a_c2, 160, .inl mk_Md_init_995)), (a_q3, .inl (a_c4, 160, .inl mk_Md_init_1645))] H := hP
  replace hD : va_D A [(qt, .inr (10, [.int 0, .ref a_q1, .null, .null, .int 0, .null, .null, .int 0, .int 0, .int 0, .null, .null, .null, .int 0, .null, .null, .int 0, .null, .null, .int 0, .null, .null, .null, .null, .null, .null, .null, .null, .int 0, .int 0, .int 0, .int 0, .int 0, .null])), (a_q1, .inl (a_c2, 160, .inl mk_Md_init_995)), (a_q3, .inl (a_c4, 160, .inl mk_Md_init_1645))] := hD
  refine lv_dup hx hb d_Md_init_1646 rfl ?_
  refine lv_bipush (v := (113 : Int32)) hx hb d_Md_init_1647 (by decide) ?_
  refine lv_bipush (v := (51 : Int32)) hx hb d_Md_init_1649 (by decide) ?_
  refine va_iast hx hb hK hP hD hS 2 1 rfl rfl (i := (113 : Int32)) (by unfold vp_in; decide) d_Md_init_1651 (fun H locs hP hD hS => ?_)
  replace hP : va_P (dC, dI) cl_All [(qt, .inr (10, [.int 0, .ref a_q1, .null, .null, .int 0, .null, .null, .int 0, .int 0, .int 0, .null, .null, .null, .int 0, .null, .null, .int 0, .null, .null, .int 0, .null, .null, .null, .null, .null, .null, .null, .null, .int 0, .int 0, .int 0, .int 0, .int 0, .null])), (a_q1, .inl (a_c2, 160, .inl mk_Md_init_995)), (a_q3, .inl (a_c4, 160, .inl mk_Md_init_1651))] H := hP
  replace hD : va_D A [(qt, .inr (10, [.int 0, .ref a_q1, .null, .null, .int 0, .null, .null, .int 0, .int 0, .int 0, .null, .null, .null, .int 0, .null, .null, .int 0, .null, .null, .int 0, .null, .null, .null, .null, .null, .null, .null, .null, .int 0, .int 0, .int 0, .int 0, .int 0, .null])), (a_q1, .inl (a_c2, 160, .inl mk_Md_init_995)), (a_q3, .inl (a_c4, 160, .inl mk_Md_init_1651))] := hD
  refine lv_dup hx hb d_Md_init_1652 rfl ?_
  refine lv_bipush (v := (114 : Int32)) hx hb d_Md_init_1653 (by decide) ?_
  refine lv_bipush (v := (53 : Int32)) hx hb d_Md_init_1655 (by decide) ?_
  refine va_iast hx hb hK hP hD hS 2 1 rfl rfl (i := (114 : Int32)) (by unfold vp_in; decide) d_Md_init_1657 (fun H locs hP hD hS => ?_)
  replace hP : va_P (dC, dI) cl_All [(qt, .inr (10, [.int 0, .ref a_q1, .null, .null, .int 0, .null, .null, .int 0, .int 0, .int 0, .null, .null, .null, .int 0, .null, .null, .int 0, .null, .null, .int 0, .null, .null, .null, .null, .null, .null, .null, .null, .int 0, .int 0, .int 0, .int 0, .int 0, .null])), (a_q1, .inl (a_c2, 160, .inl mk_Md_init_995)), (a_q3, .inl (a_c4, 160, .inl mk_Md_init_1657))] H := hP
  replace hD : va_D A [(qt, .inr (10, [.int 0, .ref a_q1, .null, .null, .int 0, .null, .null, .int 0, .int 0, .int 0, .null, .null, .null, .int 0, .null, .null, .int 0, .null, .null, .int 0, .null, .null, .null, .null, .null, .null, .null, .null, .int 0, .int 0, .int 0, .int 0, .int 0, .null])), (a_q1, .inl (a_c2, 160, .inl mk_Md_init_995)), (a_q3, .inl (a_c4, 160, .inl mk_Md_init_1657))] := hD
  refine lv_dup hx hb d_Md_init_1658 rfl ?_
  refine lv_bipush (v := (115 : Int32)) hx hb d_Md_init_1659 (by decide) ?_
  refine lv_bipush (v := (56 : Int32)) hx hb d_Md_init_1661 (by decide) ?_
  refine va_iast hx hb hK hP hD hS 2 1 rfl rfl (i := (115 : Int32)) (by unfold vp_in; decide) d_Md_init_1663 (fun H locs hP hD hS => ?_)
  replace hP : va_P (dC, dI) cl_All [(qt, .inr (10, [.int 0, .ref a_q1, .null, .null, .int 0, .null, .null, .int 0, .int 0, .int 0, .null, .null, .null, .int 0, .null, .null, .int 0, .null, .null, .int 0, .null, .null, .null, .null, .null, .null, .null, .null, .int 0, .int 0, .int 0, .int 0, .int 0, .null])), (a_q1, .inl (a_c2, 160, .inl mk_Md_init_995)), (a_q3, .inl (a_c4, 160, .inl mk_Md_init_1663))] H := hP
  replace hD : va_D A [(qt, .inr (10, [.int 0, .ref a_q1, .null, .null, .int 0, .null, .null, .int 0, .int 0, .int 0, .null, .null, .null, .int 0, .null, .null, .int 0, .null, .null, .int 0, .null, .null, .null, .null, .null, .null, .null, .null, .int 0, .int 0, .int 0, .int 0, .int 0, .null])), (a_q1, .inl (a_c2, 160, .inl mk_Md_init_995)), (a_q3, .inl (a_c4, 160, .inl mk_Md_init_1663))] := hD
  refine lv_dup hx hb d_Md_init_1664 rfl ?_
  refine lv_bipush (v := (116 : Int32)) hx hb d_Md_init_1665 (by decide) ?_
  refine lv_bipush (v := (59 : Int32)) hx hb d_Md_init_1667 (by decide) ?_
  refine va_iast hx hb hK hP hD hS 2 1 rfl rfl (i := (116 : Int32)) (by unfold vp_in; decide) d_Md_init_1669 (fun H locs hP hD hS => ?_)
  replace hP : va_P (dC, dI) cl_All [(qt, .inr (10, [.int 0, .ref a_q1, .null, .null, .int 0, .null, .null, .int 0, .int 0, .int 0, .null, .null, .null, .int 0, .null, .null, .int 0, .null, .null, .int 0, .null, .null, .null, .null, .null, .null, .null, .null, .int 0, .int 0, .int 0, .int 0, .int 0, .null])), (a_q1, .inl (a_c2, 160, .inl mk_Md_init_995)), (a_q3, .inl (a_c4, 160, .inl mk_Md_init_1669))] H := hP
  replace hD : va_D A [(qt, .inr (10, [.int 0, .ref a_q1, .null, .null, .int 0, .null, .null, .int 0, .int 0, .int 0, .null, .null, .null, .int 0, .null, .null, .int 0, .null, .null, .int 0, .null, .null, .null, .null, .null, .null, .null, .null, .int 0, .int 0, .int 0, .int 0, .int 0, .null])), (a_q1, .inl (a_c2, 160, .inl mk_Md_init_995)), (a_q3, .inl (a_c4, 160, .inl mk_Md_init_1669))] := hD
  refine lv_dup hx hb d_Md_init_1670 rfl ?_
  refine lv_bipush (v := (117 : Int32)) hx hb d_Md_init_1671 (by decide) ?_
  refine lv_bipush (v := (62 : Int32)) hx hb d_Md_init_1673 (by decide) ?_
  refine va_iast hx hb hK hP hD hS 2 1 rfl rfl (i := (117 : Int32)) (by unfold vp_in; decide) d_Md_init_1675 (fun H locs hP hD hS => ?_)
  replace hP : va_P (dC, dI) cl_All [(qt, .inr (10, [.int 0, .ref a_q1, .null, .null, .int 0, .null, .null, .int 0, .int 0, .int 0, .null, .null, .null, .int 0, .null, .null, .int 0, .null, .null, .int 0, .null, .null, .null, .null, .null, .null, .null, .null, .int 0, .int 0, .int 0, .int 0, .int 0, .null])), (a_q1, .inl (a_c2, 160, .inl mk_Md_init_995)), (a_q3, .inl (a_c4, 160, .inl mk_Md_init_1675))] H := hP
  replace hD : va_D A [(qt, .inr (10, [.int 0, .ref a_q1, .null, .null, .int 0, .null, .null, .int 0, .int 0, .int 0, .null, .null, .null, .int 0, .null, .null, .int 0, .null, .null, .int 0, .null, .null, .null, .null, .null, .null, .null, .null, .int 0, .int 0, .int 0, .int 0, .int 0, .null])), (a_q1, .inl (a_c2, 160, .inl mk_Md_init_995)), (a_q3, .inl (a_c4, 160, .inl mk_Md_init_1675))] := hD
  refine lv_dup hx hb d_Md_init_1676 rfl ?_
  refine lv_bipush (v := (118 : Int32)) hx hb d_Md_init_1677 (by decide) ?_
  refine lv_bipush (v := (65 : Int32)) hx hb d_Md_init_1679 (by decide) ?_
  refine va_iast hx hb hK hP hD hS 2 1 rfl rfl (i := (118 : Int32)) (by unfold vp_in; decide) d_Md_init_1681 (fun H locs hP hD hS => ?_)
  replace hP : va_P (dC, dI) cl_All [(qt, .inr (10, [.int 0, .ref a_q1, .null, .null, .int 0, .null, .null, .int 0, .int 0, .int 0, .null, .null, .null, .int 0, .null, .null, .int 0, .null, .null, .int 0, .null, .null, .null, .null, .null, .null, .null, .null, .int 0, .int 0, .int 0, .int 0, .int 0, .null])), (a_q1, .inl (a_c2, 160, .inl mk_Md_init_995)), (a_q3, .inl (a_c4, 160, .inl mk_Md_init_1681))] H := hP
  replace hD : va_D A [(qt, .inr (10, [.int 0, .ref a_q1, .null, .null, .int 0, .null, .null, .int 0, .int 0, .int 0, .null, .null, .null, .int 0, .null, .null, .int 0, .null, .null, .int 0, .null, .null, .null, .null, .null, .null, .null, .null, .int 0, .int 0, .int 0, .int 0, .int 0, .null])), (a_q1, .inl (a_c2, 160, .inl mk_Md_init_995)), (a_q3, .inl (a_c4, 160, .inl mk_Md_init_1681))] := hD
  refine lv_dup hx hb d_Md_init_1682 rfl ?_
  refine lv_bipush (v := (119 : Int32)) hx hb d_Md_init_1683 (by decide) ?_
  refine lv_bipush (v := (68 : Int32)) hx hb d_Md_init_1685 (by decide) ?_
  refine va_iast hx hb hK hP hD hS 2 1 rfl rfl (i := (119 : Int32)) (by unfold vp_in; decide) d_Md_init_1687 (fun H locs hP hD hS => ?_)
  replace hP : va_P (dC, dI) cl_All [(qt, .inr (10, [.int 0, .ref a_q1, .null, .null, .int 0, .null, .null, .int 0, .int 0, .int 0, .null, .null, .null, .int 0, .null, .null, .int 0, .null, .null, .int 0, .null, .null, .null, .null, .null, .null, .null, .null, .int 0, .int 0, .int 0, .int 0, .int 0, .null])), (a_q1, .inl (a_c2, 160, .inl mk_Md_init_995)), (a_q3, .inl (a_c4, 160, .inl mk_Md_init_1687))] H := hP
  replace hD : va_D A [(qt, .inr (10, [.int 0, .ref a_q1, .null, .null, .int 0, .null, .null, .int 0, .int 0, .int 0, .null, .null, .null, .int 0, .null, .null, .int 0, .null, .null, .int 0, .null, .null, .null, .null, .null, .null, .null, .null, .int 0, .int 0, .int 0, .int 0, .int 0, .null])), (a_q1, .inl (a_c2, 160, .inl mk_Md_init_995)), (a_q3, .inl (a_c4, 160, .inl mk_Md_init_1687))] := hD
  refine lv_dup hx hb d_Md_init_1688 rfl ?_
  refine lv_bipush (v := (120 : Int32)) hx hb d_Md_init_1689 (by decide) ?_
  refine lv_iconst (v := (1 : Int32)) hx hb d_Md_init_1691 (by decide) ?_
  refine va_iast hx hb hK hP hD hS 2 1 rfl rfl (i := (120 : Int32)) (by unfold vp_in; decide) d_Md_init_1692 (fun H locs hP hD hS => ?_)
  replace hP : va_P (dC, dI) cl_All [(qt, .inr (10, [.int 0, .ref a_q1, .null, .null, .int 0, .null, .null, .int 0, .int 0, .int 0, .null, .null, .null, .int 0, .null, .null, .int 0, .null, .null, .int 0, .null, .null, .null, .null, .null, .null, .null, .null, .int 0, .int 0, .int 0, .int 0, .int 0, .null])), (a_q1, .inl (a_c2, 160, .inl mk_Md_init_995)), (a_q3, .inl (a_c4, 160, .inl mk_Md_init_1692))] H := hP
  replace hD : va_D A [(qt, .inr (10, [.int 0, .ref a_q1, .null, .null, .int 0, .null, .null, .int 0, .int 0, .int 0, .null, .null, .null, .int 0, .null, .null, .int 0, .null, .null, .int 0, .null, .null, .null, .null, .null, .null, .null, .null, .int 0, .int 0, .int 0, .int 0, .int 0, .null])), (a_q1, .inl (a_c2, 160, .inl mk_Md_init_995)), (a_q3, .inl (a_c4, 160, .inl mk_Md_init_1692))] := hD
  refine lv_dup hx hb d_Md_init_1693 rfl ?_
  refine lv_bipush (v := (121 : Int32)) hx hb d_Md_init_1694 (by decide) ?_
  refine lv_iconst (v := (1 : Int32)) hx hb d_Md_init_1696 (by decide) ?_
  refine va_iast hx hb hK hP hD hS 2 1 rfl rfl (i := (121 : Int32)) (by unfold vp_in; decide) d_Md_init_1697 (fun H locs hP hD hS => ?_)
  replace hP : va_P (dC, dI) cl_All [(qt, .inr (10, [.int 0, .ref a_q1, .null, .null, .int 0, .null, .null, .int 0, .int 0, .int 0, .null, .null, .null, .int 0, .null, .null, .int 0, .null, .null, .int 0, .null, .null, .null, .null, .null, .null, .null, .null, .int 0, .int 0, .int 0, .int 0, .int 0, .null])), (a_q1, .inl (a_c2, 160, .inl mk_Md_init_995)), (a_q3, .inl (a_c4, 160, .inl mk_Md_init_1697))] H := hP
  replace hD : va_D A [(qt, .inr (10, [.int 0, .ref a_q1, .null, .null, .int 0, .null, .null, .int 0, .int 0, .int 0, .null, .null, .null, .int 0, .null, .null, .int 0, .null, .null, .int 0, .null, .null, .null, .null, .null, .null, .null, .null, .int 0, .int 0, .int 0, .int 0, .int 0, .null])), (a_q1, .inl (a_c2, 160, .inl mk_Md_init_995)), (a_q3, .inl (a_c4, 160, .inl mk_Md_init_1697))] := hD
  refine lv_dup hx hb d_Md_init_1698 rfl ?_
  refine lv_bipush (v := (122 : Int32)) hx hb d_Md_init_1699 (by decide) ?_
  refine lv_iconst (v := (2 : Int32)) hx hb d_Md_init_1701 (by decide) ?_
  refine va_iast hx hb hK hP hD hS 2 1 rfl rfl (i := (122 : Int32)) (by unfold vp_in; decide) d_Md_init_1702 (fun H locs hP hD hS => ?_)
  replace hP : va_P (dC, dI) cl_All [(qt, .inr (10, [.int 0, .ref a_q1, .null, .null, .int 0, .null, .null, .int 0, .int 0, .int 0, .null, .null, .null, .int 0, .null, .null, .int 0, .null, .null, .int 0, .null, .null, .null, .null, .null, .null, .null, .null, .int 0, .int 0, .int 0, .int 0, .int 0, .null])), (a_q1, .inl (a_c2, 160, .inl mk_Md_init_995)), (a_q3, .inl (a_c4, 160, .inl mk_Md_init_1702))] H := hP
  replace hD : va_D A [(qt, .inr (10, [.int 0, .ref a_q1, .null, .null, .int 0, .null, .null, .int 0, .int 0, .int 0, .null, .null, .null, .int 0, .null, .null, .int 0, .null, .null, .int 0, .null, .null, .null, .null, .null, .null, .null, .null, .int 0, .int 0, .int 0, .int 0, .int 0, .null])), (a_q1, .inl (a_c2, 160, .inl mk_Md_init_995)), (a_q3, .inl (a_c4, 160, .inl mk_Md_init_1702))] := hD
  refine lv_dup hx hb d_Md_init_1703 rfl ?_
  refine lv_bipush (v := (123 : Int32)) hx hb d_Md_init_1704 (by decide) ?_
  refine lv_iconst (v := (4 : Int32)) hx hb d_Md_init_1706 (by decide) ?_
  refine va_iast hx hb hK hP hD hS 2 1 rfl rfl (i := (123 : Int32)) (by unfold vp_in; decide) d_Md_init_1707 (fun H locs hP hD hS => ?_)
  replace hP : va_P (dC, dI) cl_All [(qt, .inr (10, [.int 0, .ref a_q1, .null, .null, .int 0, .null, .null, .int 0, .int 0, .int 0, .null, .null, .null, .int 0, .null, .null, .int 0, .null, .null, .int 0, .null, .null, .null, .null, .null, .null, .null, .null, .int 0, .int 0, .int 0, .int 0, .int 0, .null])), (a_q1, .inl (a_c2, 160, .inl mk_Md_init_995)), (a_q3, .inl (a_c4, 160, .inl mk_Md_init_1707))] H := hP
  replace hD : va_D A [(qt, .inr (10, [.int 0, .ref a_q1, .null, .null, .int 0, .null, .null, .int 0, .int 0, .int 0, .null, .null, .null, .int 0, .null, .null, .int 0, .null, .null, .int 0, .null, .null, .null, .null, .null, .null, .null, .null, .int 0, .int 0, .int 0, .int 0, .int 0, .null])), (a_q1, .inl (a_c2, 160, .inl mk_Md_init_995)), (a_q3, .inl (a_c4, 160, .inl mk_Md_init_1707))] := hD
  refine lv_dup hx hb d_Md_init_1708 rfl ?_
  refine lv_bipush (v := (124 : Int32)) hx hb d_Md_init_1709 (by decide) ?_
  refine lv_iconst (v := (4 : Int32)) hx hb d_Md_init_1711 (by decide) ?_
  refine va_iast hx hb hK hP hD hS 2 1 rfl rfl (i := (124 : Int32)) (by unfold vp_in; decide) d_Md_init_1712 (fun H locs hP hD hS => ?_)
  replace hP : va_P (dC, dI) cl_All [(qt, .inr (10, [.int 0, .ref a_q1, .null, .null, .int 0, .null, .null, .int 0, .int 0, .int 0, .null, .null, .null, .int 0, .null, .null, .int 0, .null, .null, .int 0, .null, .null, .null, .null, .null, .null, .null, .null, .int 0, .int 0, .int 0, .int 0, .int 0, .null])), (a_q1, .inl (a_c2, 160, .inl mk_Md_init_995)), (a_q3, .inl (a_c4, 160, .inl mk_Md_init_1712))] H := hP
  replace hD : va_D A [(qt, .inr (10, [.int 0, .ref a_q1, .null, .null, .int 0, .null, .null, .int 0, .int 0, .int 0, .null, .null, .null, .int 0, .null, .null, .int 0, .null, .null, .int 0, .null, .null, .null, .null, .null, .null, .null, .null, .int 0, .int 0, .int 0, .int 0, .int 0, .null])), (a_q1, .inl (a_c2, 160, .inl mk_Md_init_995)), (a_q3, .inl (a_c4, 160, .inl mk_Md_init_1712))] := hD
  refine lv_dup hx hb d_Md_init_1713 rfl ?_
  refine lv_bipush (v := (125 : Int32)) hx hb d_Md_init_1714 (by decide) ?_
  refine lv_iconst (v := (4 : Int32)) hx hb d_Md_init_1716 (by decide) ?_
  refine va_iast hx hb hK hP hD hS 2 1 rfl rfl (i := (125 : Int32)) (by unfold vp_in; decide) d_Md_init_1717 (fun H locs hP hD hS => ?_)
  replace hP : va_P (dC, dI) cl_All [(qt, .inr (10, [.int 0, .ref a_q1, .null, .null, .int 0, .null, .null, .int 0, .int 0, .int 0, .null, .null, .null, .int 0, .null, .null, .int 0, .null, .null, .int 0, .null, .null, .null, .null, .null, .null, .null, .null, .int 0, .int 0, .int 0, .int 0, .int 0, .null])), (a_q1, .inl (a_c2, 160, .inl mk_Md_init_995)), (a_q3, .inl (a_c4, 160, .inl mk_Md_init_1717))] H := hP
  replace hD : va_D A [(qt, .inr (10, [.int 0, .ref a_q1, .null, .null, .int 0, .null, .null, .int 0, .int 0, .int 0, .null, .null, .null, .int 0, .null, .null, .int 0, .null, .null, .int 0, .null, .null, .null, .null, .null, .null, .null, .null, .int 0, .int 0, .int 0, .int 0, .int 0, .null])), (a_q1, .inl (a_c2, 160, .inl mk_Md_init_995)), (a_q3, .inl (a_c4, 160, .inl mk_Md_init_1717))] := hD
  refine lv_dup hx hb d_Md_init_1718 rfl ?_
  refine lv_bipush (v := (126 : Int32)) hx hb d_Md_init_1719 (by decide) ?_
  refine lv_iconst (v := (5 : Int32)) hx hb d_Md_init_1721 (by decide) ?_
  refine va_iast hx hb hK hP hD hS 2 1 rfl rfl (i := (126 : Int32)) (by unfold vp_in; decide) d_Md_init_1722 (fun H locs hP hD hS => ?_)
  replace hP : va_P (dC, dI) cl_All [(qt, .inr (10, [.int 0, .ref a_q1, .null, .null, .int 0, .null, .null, .int 0, .int 0, .int 0, .null, .null, .null, .int 0, .null, .null, .int 0, .null, .null, .int 0, .null, .null, .null, .null, .null, .null, .null, .null, .int 0, .int 0, .int 0, .int 0, .int 0, .null])), (a_q1, .inl (a_c2, 160, .inl mk_Md_init_995)), (a_q3, .inl (a_c4, 160, .inl mk_Md_init_1722))] H := hP
  replace hD : va_D A [(qt, .inr (10, [.int 0, .ref a_q1, .null, .null, .int 0, .null, .null, .int 0, .int 0, .int 0, .null, .null, .null, .int 0, .null, .null, .int 0, .null, .null, .int 0, .null, .null, .null, .null, .null, .null, .null, .null, .int 0, .int 0, .int 0, .int 0, .int 0, .null])), (a_q1, .inl (a_c2, 160, .inl mk_Md_init_995)), (a_q3, .inl (a_c4, 160, .inl mk_Md_init_1722))] := hD
  refine lv_dup hx hb d_Md_init_1723 rfl ?_
  refine lv_bipush (v := (127 : Int32)) hx hb d_Md_init_1724 (by decide) ?_
  refine lv_bipush (v := (6 : Int32)) hx hb d_Md_init_1726 (by decide) ?_
  refine va_iast hx hb hK hP hD hS 2 1 rfl rfl (i := (127 : Int32)) (by unfold vp_in; decide) d_Md_init_1728 (fun H locs hP hD hS => ?_)
  replace hP : va_P (dC, dI) cl_All [(qt, .inr (10, [.int 0, .ref a_q1, .null, .null, .int 0, .null, .null, .int 0, .int 0, .int 0, .null, .null, .null, .int 0, .null, .null, .int 0, .null, .null, .int 0, .null, .null, .null, .null, .null, .null, .null, .null, .int 0, .int 0, .int 0, .int 0, .int 0, .null])), (a_q1, .inl (a_c2, 160, .inl mk_Md_init_995)), (a_q3, .inl (a_c4, 160, .inl mk_Md_init_1728))] H := hP
  replace hD : va_D A [(qt, .inr (10, [.int 0, .ref a_q1, .null, .null, .int 0, .null, .null, .int 0, .int 0, .int 0, .null, .null, .null, .int 0, .null, .null, .int 0, .null, .null, .int 0, .null, .null, .null, .null, .null, .null, .null, .null, .int 0, .int 0, .int 0, .int 0, .int 0, .null])), (a_q1, .inl (a_c2, 160, .inl mk_Md_init_995)), (a_q3, .inl (a_c4, 160, .inl mk_Md_init_1728))] := hD
  refine lv_dup hx hb d_Md_init_1729 rfl ?_
  refine lv_sipush (v := (128 : Int32)) hx hb d_Md_init_1730 (by decide) ?_
  refine lv_bipush (v := (8 : Int32)) hx hb d_Md_init_1733 (by decide) ?_
  refine va_iast hx hb hK hP hD hS 2 1 rfl rfl (i := (128 : Int32)) (by unfold vp_in; decide) d_Md_init_1735 (fun H locs hP hD hS => ?_)
  replace hP : va_P (dC, dI) cl_All [(qt, .inr (10, [.int 0, .ref a_q1, .null, .null, .int 0, .null, .null, .int 0, .int 0, .int 0, .null, .null, .null, .int 0, .null, .null, .int 0, .null, .null, .int 0, .null, .null, .null, .null, .null, .null, .null, .null, .int 0, .int 0, .int 0, .int 0, .int 0, .null])), (a_q1, .inl (a_c2, 160, .inl mk_Md_init_995)), (a_q3, .inl (a_c4, 160, .inl mk_Md_init_1735))] H := hP
  replace hD : va_D A [(qt, .inr (10, [.int 0, .ref a_q1, .null, .null, .int 0, .null, .null, .int 0, .int 0, .int 0, .null, .null, .null, .int 0, .null, .null, .int 0, .null, .null, .int 0, .null, .null, .null, .null, .null, .null, .null, .null, .int 0, .int 0, .int 0, .int 0, .int 0, .null])), (a_q1, .inl (a_c2, 160, .inl mk_Md_init_995)), (a_q3, .inl (a_c4, 160, .inl mk_Md_init_1735))] := hD
  refine lv_dup hx hb d_Md_init_1736 rfl ?_
  refine lv_sipush (v := (129 : Int32)) hx hb d_Md_init_1737 (by decide) ?_
  refine lv_bipush (v := (8 : Int32)) hx hb d_Md_init_1740 (by decide) ?_
  refine va_iast hx hb hK hP hD hS 2 1 rfl rfl (i := (129 : Int32)) (by unfold vp_in; decide) d_Md_init_1742 (fun H locs hP hD hS => ?_)
  replace hP : va_P (dC, dI) cl_All [(qt, .inr (10, [.int 0, .ref a_q1, .null, .null, .int 0, .null, .null, .int 0, .int 0, .int 0, .null, .null, .null, .int 0, .null, .null, .int 0, .null, .null, .int 0, .null, .null, .null, .null, .null, .null, .null, .null, .int 0, .int 0, .int 0, .int 0, .int 0, .null])), (a_q1, .inl (a_c2, 160, .inl mk_Md_init_995)), (a_q3, .inl (a_c4, 160, .inl mk_Md_init_1742))] H := hP
  replace hD : va_D A [(qt, .inr (10, [.int 0, .ref a_q1, .null, .null, .int 0, .null, .null, .int 0, .int 0, .int 0, .null, .null, .null, .int 0, .null, .null, .int 0, .null, .null, .int 0, .null, .null, .null, .null, .null, .null, .null, .null, .int 0, .int 0, .int 0, .int 0, .int 0, .null])), (a_q1, .inl (a_c2, 160, .inl mk_Md_init_995)), (a_q3, .inl (a_c4, 160, .inl mk_Md_init_1742))] := hD
  refine lv_dup hx hb d_Md_init_1743 rfl ?_
  refine lv_sipush (v := (130 : Int32)) hx hb d_Md_init_1744 (by decide) ?_
  refine lv_bipush (v := (11 : Int32)) hx hb d_Md_init_1747 (by decide) ?_
  refine va_iast hx hb hK hP hD hS 2 1 rfl rfl (i := (130 : Int32)) (by unfold vp_in; decide) d_Md_init_1749 (fun H locs hP hD hS => ?_)
  replace hP : va_P (dC, dI) cl_All [(qt, .inr (10, [.int 0, .ref a_q1, .null, .null, .int 0, .null, .null, .int 0, .int 0, .int 0, .null, .null, .null, .int 0, .null, .null, .int 0, .null, .null, .int 0, .null, .null, .null, .null, .null, .null, .null, .null, .int 0, .int 0, .int 0, .int 0, .int 0, .null])), (a_q1, .inl (a_c2, 160, .inl mk_Md_init_995)), (a_q3, .inl (a_c4, 160, .inl mk_Md_init_1749))] H := hP
  replace hD : va_D A [(qt, .inr (10, [.int 0, .ref a_q1, .null, .null, .int 0, .null, .null, .int 0, .int 0, .int 0, .null, .null, .null, .int 0, .null, .null, .int 0, .null, .null, .int 0, .null, .null, .null, .null, .null, .null, .null, .null, .int 0, .int 0, .int 0, .int 0, .int 0, .null])), (a_q1, .inl (a_c2, 160, .inl mk_Md_init_995)), (a_q3, .inl (a_c4, 160, .inl mk_Md_init_1749))] := hD
  refine lv_dup hx hb d_Md_init_1750 rfl ?_
  refine lv_sipush (v := (131 : Int32)) hx hb d_Md_init_1751 (by decide) ?_
  refine lv_bipush (v := (11 : Int32)) hx hb d_Md_init_1754 (by decide) ?_
  refine va_iast hx hb hK hP hD hS 2 1 rfl rfl (i := (131 : Int32)) (by unfold vp_in; decide) d_Md_init_1756 (fun H locs hP hD hS => ?_)
  replace hP : va_P (dC, dI) cl_All [(qt, .inr (10, [.int 0, .ref a_q1, .null, .null, .int 0, .null, .null, .int 0, .int 0, .int 0, .null, .null, .null, .int 0, .null, .null, .int 0, .null, .null, .int 0, .null, .null, .null, .null, .null, .null, .null, .null, .int 0, .int 0, .int 0, .int 0, .int 0, .null])), (a_q1, .inl (a_c2, 160, .inl mk_Md_init_995)), (a_q3, .inl (a_c4, 160, .inl mk_Md_init_1756))] H := hP
  replace hD : va_D A [(qt, .inr (10, [.int 0, .ref a_q1, .null, .null, .int 0, .null, .null, .int 0, .int 0, .int 0, .null, .null, .null, .int 0, .null, .null, .int 0, .null, .null, .int 0, .null, .null, .null, .null, .null, .null, .null, .null, .int 0, .int 0, .int 0, .int 0, .int 0, .null])), (a_q1, .inl (a_c2, 160, .inl mk_Md_init_995)), (a_q3, .inl (a_c4, 160, .inl mk_Md_init_1756))] := hD
  refine lv_dup hx hb d_Md_init_1757 rfl ?_
  refine lv_sipush (v := (132 : Int32)) hx hb d_Md_init_1758 (by decide) ?_
  refine lv_bipush (v := (16 : Int32)) hx hb d_Md_init_1761 (by decide) ?_
  refine va_iast hx hb hK hP hD hS 2 1 rfl rfl (i := (132 : Int32)) (by unfold vp_in; decide) d_Md_init_1763 (fun H locs hP hD hS => ?_)
  replace hP : va_P (dC, dI) cl_All [(qt, .inr (10, [.int 0, .ref a_q1, .null, .null, .int 0, .null, .null, .int 0, .int 0, .int 0, .null, .null, .null, .int 0, .null, .null, .int 0, .null, .null, .int 0, .null, .null, .null, .null, .null, .null, .null, .null, .int 0, .int 0, .int 0, .int 0, .int 0, .null])), (a_q1, .inl (a_c2, 160, .inl mk_Md_init_995)), (a_q3, .inl (a_c4, 160, .inl mk_Md_init_1763))] H := hP
  replace hD : va_D A [(qt, .inr (10, [.int 0, .ref a_q1, .null, .null, .int 0, .null, .null, .int 0, .int 0, .int 0, .null, .null, .null, .int 0, .null, .null, .int 0, .null, .null, .int 0, .null, .null, .null, .null, .null, .null, .null, .null, .int 0, .int 0, .int 0, .int 0, .int 0, .null])), (a_q1, .inl (a_c2, 160, .inl mk_Md_init_995)), (a_q3, .inl (a_c4, 160, .inl mk_Md_init_1763))] := hD
  refine lv_dup hx hb d_Md_init_1764 rfl ?_
  refine lv_sipush (v := (133 : Int32)) hx hb d_Md_init_1765 (by decide) ?_
  refine lv_bipush (v := (16 : Int32)) hx hb d_Md_init_1768 (by decide) ?_
  refine va_iast hx hb hK hP hD hS 2 1 rfl rfl (i := (133 : Int32)) (by unfold vp_in; decide) d_Md_init_1770 (fun H locs hP hD hS => ?_)
  replace hP : va_P (dC, dI) cl_All [(qt, .inr (10, [.int 0, .ref a_q1, .null, .null, .int 0, .null, .null, .int 0, .int 0, .int 0, .null, .null, .null, .int 0, .null, .null, .int 0, .null, .null, .int 0, .null, .null, .null, .null, .null, .null, .null, .null, .int 0, .int 0, .int 0, .int 0, .int 0, .null])), (a_q1, .inl (a_c2, 160, .inl mk_Md_init_995)), (a_q3, .inl (a_c4, 160, .inl mk_Md_init_1770))] H := hP
  replace hD : va_D A [(qt, .inr (10, [.int 0, .ref a_q1, .null, .null, .int 0, .null, .null, .int 0, .int 0, .int 0, .null, .null, .null, .int 0, .null, .null, .int 0, .null, .null, .int 0, .null, .null, .null, .null, .null, .null, .null, .null, .int 0, .int 0, .int 0, .int 0, .int 0, .null])), (a_q1, .inl (a_c2, 160, .inl mk_Md_init_995)), (a_q3, .inl (a_c4, 160, .inl mk_Md_init_1770))] := hD
  refine lv_dup hx hb d_Md_init_1771 rfl ?_
  refine lv_sipush (v := (134 : Int32)) hx hb d_Md_init_1772 (by decide) ?_
  refine lv_bipush (v := (18 : Int32)) hx hb d_Md_init_1775 (by decide) ?_
  refine va_iast hx hb hK hP hD hS 2 1 rfl rfl (i := (134 : Int32)) (by unfold vp_in; decide) d_Md_init_1777 (fun H locs hP hD hS => ?_)
  replace hP : va_P (dC, dI) cl_All [(qt, .inr (10, [.int 0, .ref a_q1, .null, .null, .int 0, .null, .null, .int 0, .int 0, .int 0, .null, .null, .null, .int 0, .null, .null, .int 0, .null, .null, .int 0, .null, .null, .null, .null, .null, .null, .null, .null, .int 0, .int 0, .int 0, .int 0, .int 0, .null])), (a_q1, .inl (a_c2, 160, .inl mk_Md_init_995)), (a_q3, .inl (a_c4, 160, .inl mk_Md_init_1777))] H := hP
  replace hD : va_D A [(qt, .inr (10, [.int 0, .ref a_q1, .null, .null, .int 0, .null, .null, .int 0, .int 0, .int 0, .null, .null, .null, .int 0, .null, .null, .int 0, .null, .null, .int 0, .null, .null, .null, .null, .null, .null, .null, .null, .int 0, .int 0, .int 0, .int 0, .int 0, .null])), (a_q1, .inl (a_c2, 160, .inl mk_Md_init_995)), (a_q3, .inl (a_c4, 160, .inl mk_Md_init_1777))] := hD
  refine lv_dup hx hb d_Md_init_1778 rfl ?_
  refine lv_sipush (v := (135 : Int32)) hx hb d_Md_init_1779 (by decide) ?_
  refine lv_bipush (v := (16 : Int32)) hx hb d_Md_init_1782 (by decide) ?_
  refine va_iast hx hb hK hP hD hS 2 1 rfl rfl (i := (135 : Int32)) (by unfold vp_in; decide) d_Md_init_1784 (fun H locs hP hD hS => ?_)
  replace hP : va_P (dC, dI) cl_All [(qt, .inr (10, [.int 0, .ref a_q1, .null, .null, .int 0, .null, .null, .int 0, .int 0, .int 0, .null, .null, .null, .int 0, .null, .null, .int 0, .null, .null, .int 0, .null, .null, .null, .null, .null, .null, .null, .null, .int 0, .int 0, .int 0, .int 0, .int 0, .null])), (a_q1, .inl (a_c2, 160, .inl mk_Md_init_995)), (a_q3, .inl (a_c4, 160, .inl mk_Md_init_1784))] H := hP
  replace hD : va_D A [(qt, .inr (10, [.int 0, .ref a_q1, .null, .null, .int 0, .null, .null, .int 0, .int 0, .int 0, .null, .null, .null, .int 0, .null, .null, .int 0, .null, .null, .int 0, .null, .null, .null, .null, .null, .null, .null, .null, .int 0, .int 0, .int 0, .int 0, .int 0, .null])), (a_q1, .inl (a_c2, 160, .inl mk_Md_init_995)), (a_q3, .inl (a_c4, 160, .inl mk_Md_init_1784))] := hD
  refine lv_dup hx hb d_Md_init_1785 rfl ?_
  refine lv_sipush (v := (136 : Int32)) hx hb d_Md_init_1786 (by decide) ?_
  refine lv_bipush (v := (19 : Int32)) hx hb d_Md_init_1789 (by decide) ?_
  refine va_iast hx hb hK hP hD hS 2 1 rfl rfl (i := (136 : Int32)) (by unfold vp_in; decide) d_Md_init_1791 (fun H locs hP hD hS => ?_)
  replace hP : va_P (dC, dI) cl_All [(qt, .inr (10, [.int 0, .ref a_q1, .null, .null, .int 0, .null, .null, .int 0, .int 0, .int 0, .null, .null, .null, .int 0, .null, .null, .int 0, .null, .null, .int 0, .null, .null, .null, .null, .null, .null, .null, .null, .int 0, .int 0, .int 0, .int 0, .int 0, .null])), (a_q1, .inl (a_c2, 160, .inl mk_Md_init_995)), (a_q3, .inl (a_c4, 160, .inl mk_Md_init_1791))] H := hP
  replace hD : va_D A [(qt, .inr (10, [.int 0, .ref a_q1, .null, .null, .int 0, .null, .null, .int 0, .int 0, .int 0, .null, .null, .null, .int 0, .null, .null, .int 0, .null, .null, .int 0, .null, .null, .null, .null, .null, .null, .null, .null, .int 0, .int 0, .int 0, .int 0, .int 0, .null])), (a_q1, .inl (a_c2, 160, .inl mk_Md_init_995)), (a_q3, .inl (a_c4, 160, .inl mk_Md_init_1791))] := hD
  refine lv_dup hx hb d_Md_init_1792 rfl ?_
  refine lv_sipush (v := (137 : Int32)) hx hb d_Md_init_1793 (by decide) ?_
  refine lv_bipush (v := (21 : Int32)) hx hb d_Md_init_1796 (by decide) ?_
  refine va_iast hx hb hK hP hD hS 2 1 rfl rfl (i := (137 : Int32)) (by unfold vp_in; decide) d_Md_init_1798 (fun H locs hP hD hS => ?_)
  replace hP : va_P (dC, dI) cl_All [(qt, .inr (10, [.int 0, .ref a_q1, .null, .null, .int 0, .null, .null, .int 0, .int 0, .int 0, .null, .null, .null, .int 0, .null, .null, .int 0, .null, .null, .int 0, .null, .null, .null, .null, .null, .null, .null, .null, .int 0, .int 0, .int 0, .int 0, .int 0, .null])), (a_q1, .inl (a_c2, 160, .inl mk_Md_init_995)), (a_q3, .inl (a_c4, 160, .inl mk_Md_init_1798))] H := hP
  replace hD : va_D A [(qt, .inr (10, [.int 0, .ref a_q1, .null, .null, .int 0, .null, .null, .int 0, .int 0, .int 0, .null, .null, .null, .int 0, .null, .null, .int 0, .null, .null, .int 0, .null, .null, .null, .null, .null, .null, .null, .null, .int 0, .int 0, .int 0, .int 0, .int 0, .null])), (a_q1, .inl (a_c2, 160, .inl mk_Md_init_995)), (a_q3, .inl (a_c4, 160, .inl mk_Md_init_1798))] := hD
  refine lv_dup hx hb d_Md_init_1799 rfl ?_
  refine lv_sipush (v := (138 : Int32)) hx hb d_Md_init_1800 (by decide) ?_
  refine lv_bipush (v := (25 : Int32)) hx hb d_Md_init_1803 (by decide) ?_
  refine va_iast hx hb hK hP hD hS 2 1 rfl rfl (i := (138 : Int32)) (by unfold vp_in; decide) d_Md_init_1805 (fun H locs hP hD hS => ?_)
  replace hP : va_P (dC, dI) cl_All [(qt, .inr (10, [.int 0, .ref a_q1, .null, .null, .int 0, .null, .null, .int 0, .int 0, .int 0, .null, .null, .null, .int 0, .null, .null, .int 0, .null, .null, .int 0, .null, .null, .null, .null, .null, .null, .null, .null, .int 0, .int 0, .int 0, .int 0, .int 0, .null])), (a_q1, .inl (a_c2, 160, .inl mk_Md_init_995)), (a_q3, .inl (a_c4, 160, .inl mk_Md_init_1805))] H := hP
  replace hD : va_D A [(qt, .inr (10, [.int 0, .ref a_q1, .null, .null, .int 0, .null, .null, .int 0, .int 0, .int 0, .null, .null, .null, .int 0, .null, .null, .int 0, .null, .null, .int 0, .null, .null, .null, .null, .null, .null, .null, .null, .int 0, .int 0, .int 0, .int 0, .int 0, .null])), (a_q1, .inl (a_c2, 160, .inl mk_Md_init_995)), (a_q3, .inl (a_c4, 160, .inl mk_Md_init_1805))] := hD
  refine lv_dup hx hb d_Md_init_1806 rfl ?_
  refine lv_sipush (v := (139 : Int32)) hx hb d_Md_init_1807 (by decide) ?_
  refine lv_bipush (v := (25 : Int32)) hx hb d_Md_init_1810 (by decide) ?_
  refine va_iast hx hb hK hP hD hS 2 1 rfl rfl (i := (139 : Int32)) (by unfold vp_in; decide) d_Md_init_1812 (fun H locs hP hD hS => ?_)
  replace hP : va_P (dC, dI) cl_All [(qt, .inr (10, [.int 0, .ref a_q1, .null, .null, .int 0, .null, .null, .int 0, .int 0, .int 0, .null, .null, .null, .int 0, .null, .null, .int 0, .null, .null, .int 0, .null, .null, .null, .null, .null, .null, .null, .null, .int 0, .int 0, .int 0, .int 0, .int 0, .null])), (a_q1, .inl (a_c2, 160, .inl mk_Md_init_995)), (a_q3, .inl (a_c4, 160, .inl mk_Md_init_1812))] H := hP
  replace hD : va_D A [(qt, .inr (10, [.int 0, .ref a_q1, .null, .null, .int 0, .null, .null, .int 0, .int 0, .int 0, .null, .null, .null, .int 0, .null, .null, .int 0, .null, .null, .int 0, .null, .null, .null, .null, .null, .null, .null, .null, .int 0, .int 0, .int 0, .int 0, .int 0, .null])), (a_q1, .inl (a_c2, 160, .inl mk_Md_init_995)), (a_q3, .inl (a_c4, 160, .inl mk_Md_init_1812))] := hD
  refine lv_dup hx hb d_Md_init_1813 rfl ?_
  refine lv_sipush (v := (140 : Int32)) hx hb d_Md_init_1814 (by decide) ?_
  refine lv_bipush (v := (25 : Int32)) hx hb d_Md_init_1817 (by decide) ?_
  refine va_iast hx hb hK hP hD hS 2 1 rfl rfl (i := (140 : Int32)) (by unfold vp_in; decide) d_Md_init_1819 (fun H locs hP hD hS => ?_)
  replace hP : va_P (dC, dI) cl_All [(qt, .inr (10, [.int 0, .ref a_q1, .null, .null, .int 0, .null, .null, .int 0, .int 0, .int 0, .null, .null, .null, .int 0, .null, .null, .int 0, .null, .null, .int 0, .null, .null, .null, .null, .null, .null, .null, .null, .int 0, .int 0, .int 0, .int 0, .int 0, .null])), (a_q1, .inl (a_c2, 160, .inl mk_Md_init_995)), (a_q3, .inl (a_c4, 160, .inl mk_Md_init_1819))] H := hP
  replace hD : va_D A [(qt, .inr (10, [.int 0, .ref a_q1, .null, .null, .int 0, .null, .null, .int 0, .int 0, .int 0, .null, .null, .null, .int 0, .null, .null, .int 0, .null, .null, .int 0, .null, .null, .null, .null, .null, .null, .null, .null, .int 0, .int 0, .int 0, .int 0, .int 0, .null])), (a_q1, .inl (a_c2, 160, .inl mk_Md_init_995)), (a_q3, .inl (a_c4, 160, .inl mk_Md_init_1819))] := hD
  refine lv_dup hx hb d_Md_init_1820 rfl ?_
  refine lv_sipush (v := (141 : Int32)) hx hb d_Md_init_1821 (by decide) ?_
  refine lv_bipush (v := (34 : Int32)) hx hb d_Md_init_1824 (by decide) ?_
  refine va_iast hx hb hK hP hD hS 2 1 rfl rfl (i := (141 : Int32)) (by unfold vp_in; decide) d_Md_init_1826 (fun H locs hP hD hS => ?_)
  replace hP : va_P (dC, dI) cl_All [(qt, .inr (10, [.int 0, .ref a_q1, .null, .null, .int 0, .null, .null, .int 0, .int 0, .int 0, .null, .null, .null, .int 0, .null, .null, .int 0, .null, .null, .int 0, .null, .null, .null, .null, .null, .null, .null, .null, .int 0, .int 0, .int 0, .int 0, .int 0, .null])), (a_q1, .inl (a_c2, 160, .inl mk_Md_init_995)), (a_q3, .inl (a_c4, 160, .inl mk_Md_init_1826))] H := hP
  replace hD : va_D A [(qt, .inr (10, [.int 0, .ref a_q1, .null, .null, .int 0, .null, .null, .int 0, .int 0, .int 0, .null, .null, .null, .int 0, .null, .null, .int 0, .null, .null, .int 0, .null, .null, .null, .null, .null, .null, .null, .null, .int 0, .int 0, .int 0, .int 0, .int 0, .null])), (a_q1, .inl (a_c2, 160, .inl mk_Md_init_995)), (a_q3, .inl (a_c4, 160, .inl mk_Md_init_1826))] := hD
  refine lv_dup hx hb d_Md_init_1827 rfl ?_
  refine lv_sipush (v := (142 : Int32)) hx hb d_Md_init_1828 (by decide) ?_
  refine lv_bipush (v := (30 : Int32)) hx hb d_Md_init_1831 (by decide) ?_
  refine va_iast hx hb hK hP hD hS 2 1 rfl rfl (i := (142 : Int32)) (by unfold vp_in; decide) d_Md_init_1833 (fun H locs hP hD hS => ?_)
  replace hP : va_P (dC, dI) cl_All [(qt, .inr (10, [.int 0, .ref a_q1, .null, .null, .int 0, .null, .null, .int 0, .int 0, .int 0, .null, .null, .null, .int 0, .null, .null, .int 0, .null, .null, .int 0, .null, .null, .null, .null, .null, .null, .null, .null, .int 0, .int 0, .int 0, .int 0, .int 0, .null])), (a_q1, .inl (a_c2, 160, .inl mk_Md_init_995)), (a_q3, .inl (a_c4, 160, .inl mk_Md_init_1833))] H := hP
  replace hD : va_D A [(qt, .inr (10, [.int 0, .ref a_q1, .null, .null, .int 0, .null, .null, .int 0, .int 0, .int 0, .null, .null, .null, .int 0, .null, .null, .int 0, .null, .null, .int 0, .null, .null, .null, .null, .null, .null, .null, .null, .int 0, .int 0, .int 0, .int 0, .int 0, .null])), (a_q1, .inl (a_c2, 160, .inl mk_Md_init_995)), (a_q3, .inl (a_c4, 160, .inl mk_Md_init_1833))] := hD
  refine lv_dup hx hb d_Md_init_1834 rfl ?_
  refine lv_sipush (v := (143 : Int32)) hx hb d_Md_init_1835 (by decide) ?_
  refine lv_bipush (v := (32 : Int32)) hx hb d_Md_init_1838 (by decide) ?_
  refine va_iast hx hb hK hP hD hS 2 1 rfl rfl (i := (143 : Int32)) (by unfold vp_in; decide) d_Md_init_1840 (fun H locs hP hD hS => ?_)
  replace hP : va_P (dC, dI) cl_All [(qt, .inr (10, [.int 0, .ref a_q1, .null, .null, .int 0, .null, .null, .int 0, .int 0, .int 0, .null, .null, .null, .int 0, .null, .null, .int 0, .null, .null, .int 0, .null, .null, .null, .null, .null, .null, .null, .null, .int 0, .int 0, .int 0, .int 0, .int 0, .null])), (a_q1, .inl (a_c2, 160, .inl mk_Md_init_995)), (a_q3, .inl (a_c4, 160, .inl mk_Md_init_1840))] H := hP
  replace hD : va_D A [(qt, .inr (10, [.int 0, .ref a_q1, .null, .null, .int 0, .null, .null, .int 0, .int 0, .int 0, .null, .null, .null, .int 0, .null, .null, .int 0, .null, .null, .int 0, .null, .null, .null, .null, .null, .null, .null, .null, .int 0, .int 0, .int 0, .int 0, .int 0, .null])), (a_q1, .inl (a_c2, 160, .inl mk_Md_init_995)), (a_q3, .inl (a_c4, 160, .inl mk_Md_init_1840))] := hD
  refine lv_dup hx hb d_Md_init_1841 rfl ?_
  refine lv_sipush (v := (144 : Int32)) hx hb d_Md_init_1842 (by decide) ?_
  refine lv_bipush (v := (35 : Int32)) hx hb d_Md_init_1845 (by decide) ?_
  refine va_iast hx hb hK hP hD hS 2 1 rfl rfl (i := (144 : Int32)) (by unfold vp_in; decide) d_Md_init_1847 (fun H locs hP hD hS => ?_)
  replace hP : va_P (dC, dI) cl_All [(qt, .inr (10, [.int 0, .ref a_q1, .null, .null, .int 0, .null, .null, .int 0, .int 0, .int 0, .null, .null, .null, .int 0, .null, .null, .int 0, .null, .null, .int 0, .null, .null, .null, .null, .null, .null, .null, .null, .int 0, .int 0, .int 0, .int 0, .int 0, .null])), (a_q1, .inl (a_c2, 160, .inl mk_Md_init_995)), (a_q3, .inl (a_c4, 160, .inl mk_Md_init_1847))] H := hP
  replace hD : va_D A [(qt, .inr (10, [.int 0, .ref a_q1, .null, .null, .int 0, .null, .null, .int 0, .int 0, .int 0, .null, .null, .null, .int 0, .null, .null, .int 0, .null, .null, .int 0, .null, .null, .null, .null, .null, .null, .null, .null, .int 0, .int 0, .int 0, .int 0, .int 0, .null])), (a_q1, .inl (a_c2, 160, .inl mk_Md_init_995)), (a_q3, .inl (a_c4, 160, .inl mk_Md_init_1847))] := hD
  refine lv_dup hx hb d_Md_init_1848 rfl ?_
  refine lv_sipush (v := (145 : Int32)) hx hb d_Md_init_1849 (by decide) ?_
  refine lv_bipush (v := (37 : Int32)) hx hb d_Md_init_1852 (by decide) ?_
  refine va_iast hx hb hK hP hD hS 2 1 rfl rfl (i := (145 : Int32)) (by unfold vp_in; decide) d_Md_init_1854 (fun H locs hP hD hS => ?_)
  replace hP : va_P (dC, dI) cl_All [(qt, .inr (10, [.int 0, .ref a_q1, .null, .null, .int 0, .null, .null, .int 0, .int 0, .int 0, .null, .null, .null, .int 0, .null, .null, .int 0, .null, .null, .int 0, .null, .null, .null, .null, .null, .null, .null, .null, .int 0, .int 0, .int 0, .int 0, .int 0, .null])), (a_q1, .inl (a_c2, 160, .inl mk_Md_init_995)), (a_q3, .inl (a_c4, 160, .inl mk_Md_init_1854))] H := hP
  replace hD : va_D A [(qt, .inr (10, [.int 0, .ref a_q1, .null, .null, .int 0, .null, .null, .int 0, .int 0, .int 0, .null, .null, .null, .int 0, .null, .null, .int 0, .null, .null, .int 0, .null, .null, .null, .null, .null, .null, .null, .null, .int 0, .int 0, .int 0, .int 0, .int 0, .null])), (a_q1, .inl (a_c2, 160, .inl mk_Md_init_995)), (a_q3, .inl (a_c4, 160, .inl mk_Md_init_1854))] := hD
  refine lv_dup hx hb d_Md_init_1855 rfl ?_
  refine lv_sipush (v := (146 : Int32)) hx hb d_Md_init_1856 (by decide) ?_
  refine lv_bipush (v := (40 : Int32)) hx hb d_Md_init_1859 (by decide) ?_
  refine va_iast hx hb hK hP hD hS 2 1 rfl rfl (i := (146 : Int32)) (by unfold vp_in; decide) d_Md_init_1861 (fun H locs hP hD hS => ?_)
  replace hP : va_P (dC, dI) cl_All [(qt, .inr (10, [.int 0, .ref a_q1, .null, .null, .int 0, .null, .null, .int 0, .int 0, .int 0, .null, .null, .null, .int 0, .null, .null, .int 0, .null, .null, .int 0, .null, .null, .null, .null, .null, .null, .null, .null, .int 0, .int 0, .int 0, .int 0, .int 0, .null])), (a_q1, .inl (a_c2, 160, .inl mk_Md_init_995)), (a_q3, .inl (a_c4, 160, .inl mk_Md_init_1861))] H := hP
  replace hD : va_D A [(qt, .inr (10, [.int 0, .ref a_q1, .null, .null, .int 0, .null, .null, .int 0, .int 0, .int 0, .null, .null, .null, .int 0, .null, .null, .int 0, .null, .null, .int 0, .null, .null, .null, .null, .null, .null, .null, .null, .int 0, .int 0, .int 0, .int 0, .int 0, .null])), (a_q1, .inl (a_c2, 160, .inl mk_Md_init_995)), (a_q3, .inl (a_c4, 160, .inl mk_Md_init_1861))] := hD
  refine lv_dup hx hb d_Md_init_1862 rfl ?_
  refine lv_sipush (v := (147 : Int32)) hx hb d_Md_init_1863 (by decide) ?_
  refine lv_bipush (v := (42 : Int32)) hx hb d_Md_init_1866 (by decide) ?_
  refine va_iast hx hb hK hP hD hS 2 1 rfl rfl (i := (147 : Int32)) (by unfold vp_in; decide) d_Md_init_1868 (fun H locs hP hD hS => ?_)
  replace hP : va_P (dC, dI) cl_All [(qt, .inr (10, [.int 0, .ref a_q1, .null, .null, .int 0, .null, .null, .int 0, .int 0, .int 0, .null, .null, .null, .int 0, .null, .null, .int 0, .null, .null, .int 0, .null, .null, .null, .null, .null, .null, .null, .null, .int 0, .int 0, .int 0, .int 0, .int 0, .null])), (a_q1, .inl (a_c2, 160, .inl mk_Md_init_995)), (a_q3, .inl (a_c4, 160, .inl mk_Md_init_1868))] H := hP
  replace hD : va_D A [(qt, .inr (10, [.int 0, .ref a_q1, .null, .null, .int 0, .null, .null, .int 0, .int 0, .int 0, .null, .null, .null, .int 0, .null, .null, .int 0, .null, .null, .int 0, .null, .null, .null, .null, .null, .null, .null, .null, .int 0, .int 0, .int 0, .int 0, .int 0, .null])), (a_q1, .inl (a_c2, 160, .inl mk_Md_init_995)), (a_q3, .inl (a_c4, 160, .inl mk_Md_init_1868))] := hD
  refine lv_dup hx hb d_Md_init_1869 rfl ?_
  refine lv_sipush (v := (148 : Int32)) hx hb d_Md_init_1870 (by decide) ?_
  refine lv_bipush (v := (45 : Int32)) hx hb d_Md_init_1873 (by decide) ?_
  refine va_iast hx hb hK hP hD hS 2 1 rfl rfl (i := (148 : Int32)) (by unfold vp_in; decide) d_Md_init_1875 (fun H locs hP hD hS => ?_)
  replace hP : va_P (dC, dI) cl_All [(qt, .inr (10, [.int 0, .ref a_q1, .null, .null, .int 0, .null, .null, .int 0, .int 0, .int 0, .null, .null, .null, .int 0, .null, .null, .int 0, .null, .null, .int 0, .null, .null, .null, .null, .null, .null, .null, .null, .int 0, .int 0, .int 0, .int 0, .int 0, .null])), (a_q1, .inl (a_c2, 160, .inl mk_Md_init_995)), (a_q3, .inl (a_c4, 160, .inl mk_Md_init_1875))] H := hP
  replace hD : va_D A [(qt, .inr (10, [.int 0, .ref a_q1, .null, .null, .int 0, .null, .null, .int 0, .int 0, .int 0, .null, .null, .null, .int 0, .null, .null, .int 0, .null, .null, .int 0, .null, .null, .null, .null, .null, .null, .null, .null, .int 0, .int 0, .int 0, .int 0, .int 0, .null])), (a_q1, .inl (a_c2, 160, .inl mk_Md_init_995)), (a_q3, .inl (a_c4, 160, .inl mk_Md_init_1875))] := hD
  refine lv_dup hx hb d_Md_init_1876 rfl ?_
  refine lv_sipush (v := (149 : Int32)) hx hb d_Md_init_1877 (by decide) ?_
  refine lv_bipush (v := (48 : Int32)) hx hb d_Md_init_1880 (by decide) ?_
  refine va_iast hx hb hK hP hD hS 2 1 rfl rfl (i := (149 : Int32)) (by unfold vp_in; decide) d_Md_init_1882 (fun H locs hP hD hS => ?_)
  replace hP : va_P (dC, dI) cl_All [(qt, .inr (10, [.int 0, .ref a_q1, .null, .null, .int 0, .null, .null, .int 0, .int 0, .int 0, .null, .null, .null, .int 0, .null, .null, .int 0, .null, .null, .int 0, .null, .null, .null, .null, .null, .null, .null, .null, .int 0, .int 0, .int 0, .int 0, .int 0, .null])), (a_q1, .inl (a_c2, 160, .inl mk_Md_init_995)), (a_q3, .inl (a_c4, 160, .inl mk_Md_init_1882))] H := hP
  replace hD : va_D A [(qt, .inr (10, [.int 0, .ref a_q1, .null, .null, .int 0, .null, .null, .int 0, .int 0, .int 0, .null, .null, .null, .int 0, .null, .null, .int 0, .null, .null, .int 0, .null, .null, .null, .null, .null, .null, .null, .null, .int 0, .int 0, .int 0, .int 0, .int 0, .null])), (a_q1, .inl (a_c2, 160, .inl mk_Md_init_995)), (a_q3, .inl (a_c4, 160, .inl mk_Md_init_1882))] := hD
  refine lv_dup hx hb d_Md_init_1883 rfl ?_
  refine lv_sipush (v := (150 : Int32)) hx hb d_Md_init_1884 (by decide) ?_
  refine lv_bipush (v := (51 : Int32)) hx hb d_Md_init_1887 (by decide) ?_
  refine va_iast hx hb hK hP hD hS 2 1 rfl rfl (i := (150 : Int32)) (by unfold vp_in; decide) d_Md_init_1889 (fun H locs hP hD hS => ?_)
  replace hP : va_P (dC, dI) cl_All [(qt, .inr (10, [.int 0, .ref a_q1, .null, .null, .int 0, .null, .null, .int 0, .int 0, .int 0, .null, .null, .null, .int 0, .null, .null, .int 0, .null, .null, .int 0, .null, .null, .null, .null, .null, .null, .null, .null, .int 0, .int 0, .int 0, .int 0, .int 0, .null])), (a_q1, .inl (a_c2, 160, .inl mk_Md_init_995)), (a_q3, .inl (a_c4, 160, .inl mk_Md_init_1889))] H := hP
  replace hD : va_D A [(qt, .inr (10, [.int 0, .ref a_q1, .null, .null, .int 0, .null, .null, .int 0, .int 0, .int 0, .null, .null, .null, .int 0, .null, .null, .int 0, .null, .null, .int 0, .null, .null, .null, .null, .null, .null, .null, .null, .int 0, .int 0, .int 0, .int 0, .int 0, .null])), (a_q1, .inl (a_c2, 160, .inl mk_Md_init_995)), (a_q3, .inl (a_c4, 160, .inl mk_Md_init_1889))] := hD
  refine lv_dup hx hb d_Md_init_1890 rfl ?_
  refine lv_sipush (v := (151 : Int32)) hx hb d_Md_init_1891 (by decide) ?_
  refine lv_bipush (v := (54 : Int32)) hx hb d_Md_init_1894 (by decide) ?_
  refine va_iast hx hb hK hP hD hS 2 1 rfl rfl (i := (151 : Int32)) (by unfold vp_in; decide) d_Md_init_1896 (fun H locs hP hD hS => ?_)
  replace hP : va_P (dC, dI) cl_All [(qt, .inr (10, [.int 0, .ref a_q1, .null, .null, .int 0, .null, .null, .int 0, .int 0, .int 0, .null, .null, .null, .int 0, .null, .null, .int 0, .null, .null, .int 0, .null, .null, .null, .null, .null, .null, .null, .null, .int 0, .int 0, .int 0, .int 0, .int 0, .null])), (a_q1, .inl (a_c2, 160, .inl mk_Md_init_995)), (a_q3, .inl (a_c4, 160, .inl mk_Md_init_1896))] H := hP
  replace hD : va_D A [(qt, .inr (10, [.int 0, .ref a_q1, .null, .null, .int 0, .null, .null, .int 0, .int 0, .int 0, .null, .null, .null, .int 0, .null, .null, .int 0, .null, .null, .int 0, .null, .null, .null, .null, .null, .null, .null, .null, .int 0, .int 0, .int 0, .int 0, .int 0, .null])), (a_q1, .inl (a_c2, 160, .inl mk_Md_init_995)), (a_q3, .inl (a_c4, 160, .inl mk_Md_init_1896))] := hD
  refine lv_dup hx hb d_Md_init_1897 rfl ?_
  refine lv_sipush (v := (152 : Int32)) hx hb d_Md_init_1898 (by decide) ?_
  refine lv_bipush (v := (57 : Int32)) hx hb d_Md_init_1901 (by decide) ?_
  refine va_iast hx hb hK hP hD hS 2 1 rfl rfl (i := (152 : Int32)) (by unfold vp_in; decide) d_Md_init_1903 (fun H locs hP hD hS => ?_)
  replace hP : va_P (dC, dI) cl_All [(qt, .inr (10, [.int 0, .ref a_q1, .null, .null, .int 0, .null, .null, .int 0, .int 0, .int 0, .null, .null, .null, .int 0, .null, .null, .int 0, .null, .null, .int 0, .null, .null, .null, .null, .null, .null, .null, .null, .int 0, .int 0, .int 0, .int 0, .int 0, .null])), (a_q1, .inl (a_c2, 160, .inl mk_Md_init_995)), (a_q3, .inl (a_c4, 160, .inl mk_Md_init_1903))] H := hP
  replace hD : va_D A [(qt, .inr (10, [.int 0, .ref a_q1, .null, .null, .int 0, .null, .null, .int 0, .int 0, .int 0, .null, .null, .null, .int 0, .null, .null, .int 0, .null, .null, .int 0, .null, .null, .null, .null, .null, .null, .null, .null, .int 0, .int 0, .int 0, .int 0, .int 0, .null])), (a_q1, .inl (a_c2, 160, .inl mk_Md_init_995)), (a_q3, .inl (a_c4, 160, .inl mk_Md_init_1903))] := hD
  refine lv_dup hx hb d_Md_init_1904 rfl ?_
  refine lv_sipush (v := (153 : Int32)) hx hb d_Md_init_1905 (by decide) ?_
  refine lv_bipush (v := (60 : Int32)) hx hb d_Md_init_1908 (by decide) ?_
  refine va_iast hx hb hK hP hD hS 2 1 rfl rfl (i := (153 : Int32)) (by unfold vp_in; decide) d_Md_init_1910 (fun H locs hP hD hS => ?_)
  replace hP : va_P (dC, dI) cl_All [(qt, .inr (10, [.int 0, .ref a_q1, .null, .null, .int 0, .null, .null, .int 0, .int 0, .int 0, .null, .null, .null, .int 0, .null, .null, .int 0, .null, .null, .int 0, .null, .null, .null, .null, .null, .null, .null, .null, .int 0, .int 0, .int 0, .int 0, .int 0, .null])), (a_q1, .inl (a_c2, 160, .inl mk_Md_init_995)), (a_q3, .inl (a_c4, 160, .inl mk_Md_init_1910))] H := hP
  replace hD : va_D A [(qt, .inr (10, [.int 0, .ref a_q1, .null, .null, .int 0, .null, .null, .int 0, .int 0, .int 0, .null, .null, .null, .int 0, .null, .null, .int 0, .null, .null, .int 0, .null, .null, .null, .null, .null, .null, .null, .null, .int 0, .int 0, .int 0, .int 0, .int 0, .null])), (a_q1, .inl (a_c2, 160, .inl mk_Md_init_995)), (a_q3, .inl (a_c4, 160, .inl mk_Md_init_1910))] := hD
  refine lv_dup hx hb d_Md_init_1911 rfl ?_
  refine lv_sipush (v := (154 : Int32)) hx hb d_Md_init_1912 (by decide) ?_
  refine lv_bipush (v := (63 : Int32)) hx hb d_Md_init_1915 (by decide) ?_
  refine va_iast hx hb hK hP hD hS 2 1 rfl rfl (i := (154 : Int32)) (by unfold vp_in; decide) d_Md_init_1917 (fun H locs hP hD hS => ?_)
  replace hP : va_P (dC, dI) cl_All [(qt, .inr (10, [.int 0, .ref a_q1, .null, .null, .int 0, .null, .null, .int 0, .int 0, .int 0, .null, .null, .null, .int 0, .null, .null, .int 0, .null, .null, .int 0, .null, .null, .null, .null, .null, .null, .null, .null, .int 0, .int 0, .int 0, .int 0, .int 0, .null])), (a_q1, .inl (a_c2, 160, .inl mk_Md_init_995)), (a_q3, .inl (a_c4, 160, .inl mk_Md_init_1917))] H := hP
  replace hD : va_D A [(qt, .inr (10, [.int 0, .ref a_q1, .null, .null, .int 0, .null, .null, .int 0, .int 0, .int 0, .null, .null, .null, .int 0, .null, .null, .int 0, .null, .null, .int 0, .null, .null, .null, .null, .null, .null, .null, .null, .int 0, .int 0, .int 0, .int 0, .int 0, .null])), (a_q1, .inl (a_c2, 160, .inl mk_Md_init_995)), (a_q3, .inl (a_c4, 160, .inl mk_Md_init_1917))] := hD
  refine lv_dup hx hb d_Md_init_1918 rfl ?_
  refine lv_sipush (v := (155 : Int32)) hx hb d_Md_init_1919 (by decide) ?_
  refine lv_bipush (v := (66 : Int32)) hx hb d_Md_init_1922 (by decide) ?_
  refine va_iast hx hb hK hP hD hS 2 1 rfl rfl (i := (155 : Int32)) (by unfold vp_in; decide) d_Md_init_1924 (fun H locs hP hD hS => ?_)
  replace hP : va_P (dC, dI) cl_All [(qt, .inr (10, [.int 0, .ref a_q1, .null, .null, .int 0, .null, .null, .int 0, .int 0, .int 0, .null, .null, .null, .int 0, .null, .null, .int 0, .null, .null, .int 0, .null, .null, .null, .null, .null, .null, .null, .null, .int 0, .int 0, .int 0, .int 0, .int 0, .null])), (a_q1, .inl (a_c2, 160, .inl mk_Md_init_995)), (a_q3, .inl (a_c4, 160, .inl mk_Md_init_1924))] H := hP
  replace hD : va_D A [(qt, .inr (10, [.int 0, .ref a_q1, .null, .null, .int 0, .null, .null, .int 0, .int 0, .int 0, .null, .null, .null, .int 0, .null, .null, .int 0, .null, .null, .int 0, .null, .null, .null, .null, .null, .null, .null, .null, .int 0, .int 0, .int 0, .int 0, .int 0, .null])), (a_q1, .inl (a_c2, 160, .inl mk_Md_init_995)), (a_q3, .inl (a_c4, 160, .inl mk_Md_init_1924))] := hD
  refine lv_dup hx hb d_Md_init_1925 rfl ?_
  refine lv_sipush (v := (156 : Int32)) hx hb d_Md_init_1926 (by decide) ?_
  refine lv_bipush (v := (70 : Int32)) hx hb d_Md_init_1929 (by decide) ?_
  refine va_iast hx hb hK hP hD hS 2 1 rfl rfl (i := (156 : Int32)) (by unfold vp_in; decide) d_Md_init_1931 (fun H locs hP hD hS => ?_)
  replace hP : va_P (dC, dI) cl_All [(qt, .inr (10, [.int 0, .ref a_q1, .null, .null, .int 0, .null, .null, .int 0, .int 0, .int 0, .null, .null, .null, .int 0, .null, .null, .int 0, .null, .null, .int 0, .null, .null, .null, .null, .null, .null, .null, .null, .int 0, .int 0, .int 0, .int 0, .int 0, .null])), (a_q1, .inl (a_c2, 160, .inl mk_Md_init_995)), (a_q3, .inl (a_c4, 160, .inl mk_Md_init_1931))] H := hP
  replace hD : va_D A [(qt, .inr (10, [.int 0, .ref a_q1, .null, .null, .int 0, .null, .null, .int 0, .int 0, .int 0, .null, .null, .null, .int 0, .null, .null, .int 0, .null, .null, .int 0, .null, .null, .null, .null, .null, .null, .null, .null, .int 0, .int 0, .int 0, .int 0, .int 0, .null])), (a_q1, .inl (a_c2, 160, .inl mk_Md_init_995)), (a_q3, .inl (a_c4, 160, .inl mk_Md_init_1931))] := hD
  refine lv_dup hx hb d_Md_init_1932 rfl ?_
  refine lv_sipush (v := (157 : Int32)) hx hb d_Md_init_1933 (by decide) ?_
  refine lv_bipush (v := (74 : Int32)) hx hb d_Md_init_1936 (by decide) ?_
  refine va_iast hx hb hK hP hD hS 2 1 rfl rfl (i := (157 : Int32)) (by unfold vp_in; decide) d_Md_init_1938 (fun H locs hP hD hS => ?_)
  replace hP : va_P (dC, dI) cl_All [(qt, .inr (10, [.int 0, .ref a_q1, .null, .null, .int 0, .null, .null, .int 0, .int 0, .int 0, .null, .null, .null, .int 0, .null, .null, .int 0, .null, .null, .int 0, .null, .null, .null, .null, .null, .null, .null, .null, .int 0, .int 0, .int 0, .int 0, .int 0, .null])), (a_q1, .inl (a_c2, 160, .inl mk_Md_init_995)), (a_q3, .inl (a_c4, 160, .inl mk_Md_init_1938))] H := hP
  replace hD : va_D A [(qt, .inr (10, [.int 0, .ref a_q1, .null, .null, .int 0, .null, .null, .int 0, .int 0, .int 0, .null, .null, .null, .int 0, .null, .null, .int 0, .null, .null, .int 0, .null, .null, .null, .null, .null, .null, .null, .null, .int 0, .int 0, .int 0, .int 0, .int 0, .null])), (a_q1, .inl (a_c2, 160, .inl mk_Md_init_995)), (a_q3, .inl (a_c4, 160, .inl mk_Md_init_1938))] := hD
  refine lv_dup hx hb d_Md_init_1939 rfl ?_
  refine lv_sipush (v := (158 : Int32)) hx hb d_Md_init_1940 (by decide) ?_
  refine lv_bipush (v := (77 : Int32)) hx hb d_Md_init_1943 (by decide) ?_
  refine va_iast hx hb hK hP hD hS 2 1 rfl rfl (i := (158 : Int32)) (by unfold vp_in; decide) d_Md_init_1945 (fun H locs hP hD hS => ?_)
  replace hP : va_P (dC, dI) cl_All [(qt, .inr (10, [.int 0, .ref a_q1, .null, .null, .int 0, .null, .null, .int 0, .int 0, .int 0, .null, .null, .null, .int 0, .null, .null, .int 0, .null, .null, .int 0, .null, .null, .null, .null, .null, .null, .null, .null, .int 0, .int 0, .int 0, .int 0, .int 0, .null])), (a_q1, .inl (a_c2, 160, .inl mk_Md_init_995)), (a_q3, .inl (a_c4, 160, .inl mk_Md_init_1945))] H := hP
  replace hD : va_D A [(qt, .inr (10, [.int 0, .ref a_q1, .null, .null, .int 0, .null, .null, .int 0, .int 0, .int 0, .null, .null, .null, .int 0, .null, .null, .int 0, .null, .null, .int 0, .null, .null, .null, .null, .null, .null, .null, .null, .int 0, .int 0, .int 0, .int 0, .int 0, .null])), (a_q1, .inl (a_c2, 160, .inl mk_Md_init_995)), (a_q3, .inl (a_c4, 160, .inl mk_Md_init_1945))] := hD
  refine lv_dup hx hb d_Md_init_1946 rfl ?_
  refine lv_sipush (v := (159 : Int32)) hx hb d_Md_init_1947 (by decide) ?_
  refine lv_bipush (v := (81 : Int32)) hx hb d_Md_init_1950 (by decide) ?_
  refine va_iast hx hb hK hP hD hS 2 1 rfl rfl (i := (159 : Int32)) (by unfold vp_in; decide) d_Md_init_1952 (fun H locs hP hD hS => ?_)
  replace hP : va_P (dC, dI) cl_All [(qt, .inr (10, [.int 0, .ref a_q1, .null, .null, .int 0, .null, .null, .int 0, .int 0, .int 0, .null, .null, .null, .int 0, .null, .null, .int 0, .null, .null, .int 0, .null, .null, .null, .null, .null, .null, .null, .null, .int 0, .int 0, .int 0, .int 0, .int 0, .null])), (a_q1, .inl (a_c2, 160, .inl mk_Md_init_995)), (a_q3, .inl (a_c4, 160, .inl mk_Md_init_1952))] H := hP
  replace hD : va_D A [(qt, .inr (10, [.int 0, .ref a_q1, .null, .null, .int 0, .null, .null, .int 0, .int 0, .int 0, .null, .null, .null, .int 0, .null, .null, .int 0, .null, .null, .int 0, .null, .null, .null, .null, .null, .null, .null, .null, .int 0, .int 0, .int 0, .int 0, .int 0, .null])), (a_q1, .inl (a_c2, 160, .inl mk_Md_init_995)), (a_q3, .inl (a_c4, 160, .inl mk_Md_init_1952))] := hD
  refine va_putF (D := (dC, dI)) (ci := 10) (v := .ref a_q3) (ty := (.array .int)) (C := R_Md) (T := F_Md) (N := 34) hx hb ht i_Md t_Md t_Md_ok n_Md hown hK hP hD hS 0 rfl rfl 2 (by decide) (ht _ tb_1064) (fun _ h9 => h9) rfl hin rfl (by decide +kernel) rfl rfl (Nat.le_of_ble_eq_true rfl) d_Md_init_1953 (fun H locs hP hD hS => ?_)
  replace hP : va_P (dC, dI) cl_All [(qt, .inr (10, [.int 0, .ref a_q1, .ref a_q3, .null, .int 0, .null, .null, .int 0, .int 0, .int 0, .null, .null, .null, .int 0, .null, .null, .int 0, .null, .null, .int 0, .null, .null, .null, .null, .null, .null, .null, .null, .int 0, .int 0, .int 0, .int 0, .int 0, .null])), (a_q1, .inl (a_c2, 160, .inl mk_Md_init_995)), (a_q3, .inl (a_c4, 160, .inl mk_Md_init_1952))] H := hP
  replace hD : va_D A [(qt, .inr (10, [.int 0, .ref a_q1, .ref a_q3, .null, .int 0, .null, .null, .int 0, .int 0, .int 0, .null, .null, .null, .int 0, .null, .null, .int 0, .null, .null, .int 0, .null, .null, .null, .null, .null, .null, .null, .null, .int 0, .int 0, .int 0, .int 0, .int 0, .null])), (a_q1, .inl (a_c2, 160, .inl mk_Md_init_995)), (a_q3, .inl (a_c4, 160, .inl mk_Md_init_1952))] := hD
  refine lv_aload_n hx hb d_Md_init_1956 rfl (lv_at hl 0 rfl) ?_
  refine lv_sipush (v := (3000 : Int32)) hx hb d_Md_init_1957 (by decide) ?_
  refine va_newa (atype := .int) hx hb (ht _ tb_49) (ty := .int) rfl hK hP hD hS hA (N' := 3000) (a0 := (3000, .inl (fun _ => 0))) (fun _ => rfl) (by decide) (by decide) (by decide) (Nat.le_of_ble_eq_true rfl) (Nat.le_of_ble_eq_true rfl) d_Md_init_1960 (fun a_q5 a_c6 H hK hP hD hS => ?_)
  refine W.widen (k := 3) (n := 3320) (by omega) (by omega) ?_
  replace hK : va_K (dC, dI) cl_All [(a_c2, .int), (a_c4, .int), (a_c6, .int)] s := hK
  replace hP : va_P (dC, dI) cl_All [(qt, .inr (10, [.int 0, .ref a_q1, .ref a_q3, .null, .int 0, .null, .null, .int 0, .int 0, .int 0, .null, .null, .null, .int 0, .null, .null, .int 0, .null, .null, .int 0, .null, .null, .null, .null, .null, .null, .null, .null, .int 0, .int 0, .int 0, .int 0, .int 0, .null])), (a_q1, .inl (a_c2, 160, .inl mk_Md_init_995)), (a_q3, .inl (a_c4, 160, .inl mk_Md_init_1952)), (a_q5, .inl (a_c6, 3000, .inl (fun _ => 0)))] H := hP
  replace hD : va_D A [(qt, .inr (10, [.int 0, .ref a_q1, .ref a_q3, .null, .int 0, .null, .null, .int 0, .int 0, .int 0, .null, .null, .null, .int 0, .null, .null, .int 0, .null, .null, .int 0, .null, .null, .null, .null, .null, .null, .null, .null, .int 0, .int 0, .int 0, .int 0, .int 0, .null])), (a_q1, .inl (a_c2, 160, .inl mk_Md_init_995)), (a_q3, .inl (a_c4, 160, .inl mk_Md_init_1952)), (a_q5, .inl (a_c6, 3000, .inl (fun _ => 0)))] := hD
  refine va_putF (D := (dC, dI)) (ci := 10) (v := .ref a_q5) (ty := (.array .int)) (C := R_Md) (T := F_Md) (N := 34) hx hb ht i_Md t_Md t_Md_ok n_Md hown hK hP hD hS 0 rfl rfl 3 (by decide) (ht _ tb_1065) (fun _ h9 => h9) rfl hin rfl (by decide +kernel) rfl rfl (Nat.le_of_ble_eq_true rfl) d_Md_init_1962 (fun H locs hP hD hS => ?_)
  replace hP : va_P (dC, dI) cl_All [(qt, .inr (10, [.int 0, .ref a_q1, .ref a_q3, .ref a_q5, .int 0, .null, .null, .int 0, .int 0, .int 0, .null, .null, .null, .int 0, .null, .null, .int 0, .null, .null, .int 0, .null, .null, .null, .null, .null, .null, .null, .null, .int 0, .int 0, .int 0, .int 0, .int 0, .null])), (a_q1, .inl (a_c2, 160, .inl mk_Md_init_995)), (a_q3, .inl (a_c4, 160, .inl mk_Md_init_1952)), (a_q5, .inl (a_c6, 3000, .inl (fun _ => 0)))] H := hP
  replace hD : va_D A [(qt, .inr (10, [.int 0, .ref a_q1, .ref a_q3, .ref a_q5, .int 0, .null, .null, .int 0, .int 0, .int 0, .null, .null, .null, .int 0, .null, .null, .int 0, .null, .null, .int 0, .null, .null, .null, .null, .null, .null, .null, .null, .int 0, .int 0, .int 0, .int 0, .int 0, .null])), (a_q1, .inl (a_c2, 160, .inl mk_Md_init_995)), (a_q3, .inl (a_c4, 160, .inl mk_Md_init_1952)), (a_q5, .inl (a_c6, 3000, .inl (fun _ => 0)))] := hD
  refine lv_aload_n hx hb d_Md_init_1965 rfl (lv_at hl 0 rfl) ?_
  refine lv_sipush (v := (31329 : Int32)) hx hb d_Md_init_1966 (by decide) ?_
  refine va_newa (atype := .int) hx hb (ht _ tb_49) (ty := .int) rfl hK hP hD hS hA (N' := 31329) (a0 := (31329, .inl (fun _ => 0))) (fun _ => rfl) (by decide) (by decide) (by decide) (Nat.le_of_ble_eq_true rfl) (Nat.le_of_ble_eq_true rfl) d_Md_init_1969 (fun a_q7 a_c8 H hK hP hD hS => ?_)
  refine W.widen (k := 4) (n := 34649) (by omega) (by omega) ?_
  replace hK : va_K (dC, dI) cl_All [(a_c2, .int), (a_c4, .int), (a_c6, .int), (a_c8, .int)] s := hK
  replace hP : va_P (dC, dI) cl_All [(qt, .inr (10, [.int 0, .ref a_q1, .ref a_q3, .ref a_q5, .int 0, .null, .null, .int 0, .int 0, .int 0, .null, .null, .null, .int 0, .null, .null, .int 0, .null, .null, .int 0, .null, .null, .null, .null, .null, .null, .null, .null, .int 0, .int 0, .int 0, .int 0, .int 0, .null])), (a_q1, .inl (a_c2, 160, .inl mk_Md_init_995)), (a_q3, .inl (a_c4, 160, .inl mk_Md_init_1952)), (a_q5, .inl (a_c6, 3000, .inl (fun _ => 0))), (a_q7, .inl (a_c8, 31329, .inl (fun _ => 0)))] H := hP
  replace hD : va_D A [(qt, .inr (10, [.int 0, .ref a_q1, .ref a_q3, .ref a_q5, .int 0, .null, .null, .int 0, .int 0, .int 0, .null, .null, .null, .int 0, .null, .null, .int 0, .null, .null, .int 0, .null, .null, .null, .null, .null, .null, .null, .null, .int 0, .int 0, .int 0, .int 0, .int 0, .null])), (a_q1, .inl (a_c2, 160, .inl mk_Md_init_995)), (a_q3, .inl (a_c4, 160, .inl mk_Md_init_1952)), (a_q5, .inl (a_c6, 3000, .inl (fun _ => 0))), (a_q7, .inl (a_c8, 31329, .inl (fun _ => 0)))] := hD
  refine va_putF (D := (dC, dI)) (ci := 10) (v := .ref a_q7) (ty := (.array .int)) (C := R_Md) (T := F_Md) (N := 34) hx hb ht i_Md t_Md t_Md_ok n_Md hown hK hP hD hS 0 rfl rfl 5 (by decide) (ht _ tb_1067) (fun _ h9 => h9) rfl hin rfl (by decide +kernel) rfl rfl (Nat.le_of_ble_eq_true rfl) d_Md_init_1971 (fun H locs hP hD hS => ?_)
  replace hP : va_P (dC, dI) cl_All [(qt, .inr (10, [.int 0, .ref a_q1, .ref a_q3, .ref a_q5, .int 0, .ref a_q7, .null, .int 0, .int 0, .int 0, .null, .null, .null, .int 0, .null, .null, .int 0, .null, .null, .int 0, .null, .null, .null, .null, .null, .null, .null, .null, .int 0, .int 0, .int 0, .int 0, .int 0, .null])), (a_q1, .inl (a_c2, 160, .inl mk_Md_init_995)), (a_q3, .inl (a_c4, 160, .inl mk_Md_init_1952)), (a_q5, .inl (a_c6, 3000, .inl (fun _ => 0))), (a_q7, .inl (a_c8, 31329, .inl (fun _ => 0)))] H := hP
  replace hD : va_D A [(qt, .inr (10, [.int 0, .ref a_q1, .ref a_q3, .ref a_q5, .int 0, .ref a_q7, .null, .int 0, .int 0, .int 0, .null, .null, .null, .int 0, .null, .null, .int 0, .null, .null, .int 0, .null, .null, .null, .null, .null, .null, .null, .null, .int 0, .int 0, .int 0, .int 0, .int 0, .null])), (a_q1, .inl (a_c2, 160, .inl mk_Md_init_995)), (a_q3, .inl (a_c4, 160, .inl mk_Md_init_1952)), (a_q5, .inl (a_c6, 3000, .inl (fun _ => 0))), (a_q7, .inl (a_c8, 31329, .inl (fun _ => 0)))] := hD
  refine lv_aload_n hx hb d_Md_init_1974 rfl (lv_at hl 0 rfl) ?_
  refine lv_sipush (v := (31329 : Int32)) hx hb d_Md_init_1975 (by decide) ?_
  refine va_newa (atype := .int) hx hb (ht _ tb_49) (ty := .int) rfl hK hP hD hS hA (N' := 31329) (a0 := (31329, .inl (fun _ => 0))) (fun _ => rfl) (by decide) (by decide) (by decide) (Nat.le_of_ble_eq_true rfl) (Nat.le_of_ble_eq_true rfl) d_Md_init_1978 (fun a_q9 a_c10 H hK hP hD hS => ?_)
  refine W.widen (k := 5) (n := 65978) (by omega) (by omega) ?_
  replace hK : va_K (dC, dI) cl_All [(a_c2, .int), (a_c4, .int), (a_c6, .int), (a_c8, .int), (a_c10, .int)] s := hK
  replace hP : va_P (dC, dI) cl_All [(qt, .inr (10, [.int 0, .ref a_q1, .ref a_q3, .ref a_q5, .int 0, .ref a_q7, .null, .int 0, .int 0, .int 0, .null, .null, .null, .int 0, .null, .null, .int 0, .null, .null, .int 0, .null, .null, .null, .null, .null, .null, .null, .null, .int 0, .int 0, .int 0, .int 0, .int 0, .null])), (a_q1, .inl (a_c2, 160, .inl mk_Md_init_995)), (a_q3, .inl (a_c4, 160, .inl mk_Md_init_1952)), (a_q5, .inl (a_c6, 3000, .inl (fun _ => 0))), (a_q7, .inl (a_c8, 31329, .inl (fun _ => 0))), (a_q9, .inl (a_c10, 31329, .inl (fun _ => 0)))] H := hP
  replace hD : va_D A [(qt, .inr (10, [.int 0, .ref a_q1, .ref a_q3, .ref a_q5, .int 0, .ref a_q7, .null, .int 0, .int 0, .int 0, .null, .null, .null, .int 0, .null, .null, .int 0, .null, .null, .int 0, .null, .null, .null, .null, .null, .null, .null, .null, .int 0, .int 0, .int 0, .int 0, .int 0, .null])), (a_q1, .inl (a_c2, 160, .inl mk_Md_init_995)), (a_q3, .inl (a_c4, 160, .inl mk_Md_init_1952)), (a_q5, .inl (a_c6, 3000, .inl (fun _ => 0))), (a_q7, .inl (a_c8, 31329, .inl (fun _ => 0))), (a_q9, .inl (a_c10, 31329, .inl (fun _ => 0)))] := hD
  refine va_putF (D := (dC, dI)) (ci := 10) (v := .ref a_q9) (ty := (.array .int)) (C := R_Md) (T := F_Md) (N := 34) hx hb ht i_Md t_Md t_Md_ok n_Md hown hK hP hD hS 0 rfl rfl 6 (by decide) (ht _ tb_1068) (fun _ h9 => h9) rfl hin rfl (by decide +kernel) rfl rfl (Nat.le_of_ble_eq_true rfl) d_Md_init_1980 (fun H locs hP hD hS => ?_)
  replace hP : va_P (dC, dI) cl_All [(qt, .inr (10, [.int 0, .ref a_q1, .ref a_q3, .ref a_q5, .int 0, .ref a_q7, .ref a_q9, .int 0, .int 0, .int 0, .null, .null, .null, .int 0, .null, .null, .int 0, .null, .null, .int 0, .null, .null, .null, .null, .null, .null, .null, .null, .int 0, .int 0, .int 0, .int 0, .int 0, .null])), (a_q1, .inl (a_c2, 160, .inl mk_Md_init_995)), (a_q3, .inl (a_c4, 160, .inl mk_Md_init_1952)), (a_q5, .inl (a_c6, 3000, .inl (fun _ => 0))), (a_q7, .inl (a_c8, 31329, .inl (fun _ => 0))), (a_q9, .inl (a_c10, 31329, .inl (fun _ => 0)))] H := hP
  replace hD : va_D A [(qt, .inr (10, [.int 0, .ref a_q1, .ref a_q3, .ref a_q5, .int 0, .ref a_q7, .ref a_q9, .int 0, .int 0, .int 0, .null, .null, .null, .int 0, .null, .null, .int 0, .null, .null, .int 0, .null, .null, .null, .null, .null, .null, .null, .null, .int 0, .int 0, .int 0, .int 0, .int 0, .null])), (a_q1, .inl (a_c2, 160, .inl mk_Md_init_995)), (a_q3, .inl (a_c4, 160, .inl mk_Md_init_1952)), (a_q5, .inl (a_c6, 3000, .inl (fun _ => 0))), (a_q7, .inl (a_c8, 31329, .inl (fun _ => 0))), (a_q9, .inl (a_c10, 31329, .inl (fun _ => 0)))] := hD
  refine lv_aload_n hx hb d_Md_init_1983 rfl (lv_at hl 0 rfl) ?_
  refine lv_bipush (v := (6 : Int32)) hx hb d_Md_init_1984 (by decide) ?_
  refine va_newa (atype := .int) hx hb (ht _ tb_49) (ty := .int) rfl hK hP hD hS hA (N' := 6) (a0 := (6, .inl (fun _ => 0))) (fun _ => rfl) (by decide) (by decide) (by decide) (Nat.le_of_ble_eq_true rfl) (Nat.le_of_ble_eq_true rfl) d_Md_init_1986 (fun a_q11 a_c12 H hK hP hD hS => ?_)
  refine W.widen (k := 6) (n := 65984) (by omega) (by omega) ?_
  replace hK : va_K (dC, dI) cl_All [(a_c2, .int), (a_c4, .int), (a_c6, .int), (a_c8, .int), (a_c10, .int), (a_c12, .int)] s := hK
  replace hP : va_P (dC, dI) cl_All [(qt, .inr (10, [.int 0, .ref a_q1, .ref a_q3, .ref a_q5, .int 0, .ref a_q7, .ref a_q9, .int 0, .int 0, .int 0, .null, .null, .null, .int 0, .null, .null, .int 0, .null, .null, .int 0, .null, .null, .null, .null, .null, .null, .null, .null, .int 0, .int 0, .int 0, .int 0, .int 0, .null])), (a_q1, .inl (a_c2, 160, .inl mk_Md_init_995)), (a_q3, .inl (a_c4, 160, .inl mk_Md_init_1952)), (a_q5, .inl (a_c6, 3000, .inl (fun _ => 0))), (a_q7, .inl (a_c8, 31329, .inl (fun _ => 0))), (a_q9, .inl (a_c10, 31329, .inl (fun _ => 0))), (a_q11, .inl (a_c12, 6, .inl (fun _ => 0)))] H := hP
  replace hD : va_D A [(qt, .inr (10, [.int 0, .ref a_q1, .ref a_q3, .ref a_q5, .int 0, .ref a_q7, .ref a_q9, .int 0, .int 0, .int 0, .null, .null, .null, .int 0, .null, .null, .int 0, .null, .null, .int 0, .null, .null, .null, .null, .null, .null, .null, .null, .int 0, .int 0, .int 0, .int 0, .int 0, .null])), (a_q1, .inl (a_c2, 160, .inl mk_Md_init_995)), (a_q3, .inl (a_c4, 160, .inl mk_Md_init_1952)), (a_q5, .inl (a_c6, 3000, .inl (fun _ => 0))), (a_q7, .inl (a_c8, 31329, .inl (fun _ => 0))), (a_q9, .inl (a_c10, 31329, .inl (fun _ => 0))), (a_q11, .inl (a_c12, 6, .inl (fun _ => 0)))] := hD
  refine va_putF (D := (dC, dI)) (ci := 10) (v := .ref a_q11) (ty := (.array .int)) (C := R_Md) (T := F_Md) (N := 34) hx hb ht i_Md t_Md t_Md_ok n_Md hown hK hP hD hS 0 rfl rfl 10 (by decide) (ht _ tb_1072) (fun _ h9 => h9) rfl hin rfl (by decide +kernel) rfl rfl (Nat.le_of_ble_eq_true rfl) d_Md_init_1988 (fun H locs hP hD hS => ?_)
  replace hP : va_P (dC, dI) cl_All [(qt, .inr (10, [.int 0, .ref a_q1, .ref a_q3, .ref a_q5, .int 0, .ref a_q7, .ref a_q9, .int 0, .int 0, .int 0, .ref a_q11, .null, .null, .int 0, .null, .null, .int 0, .null, .null, .int 0, .null, .null, .null, .null, .null, .null, .null, .null, .int 0, .int 0, .int 0, .int 0, .int 0, .null])), (a_q1, .inl (a_c2, 160, .inl mk_Md_init_995)), (a_q3, .inl (a_c4, 160, .inl mk_Md_init_1952)), (a_q5, .inl (a_c6, 3000, .inl (fun _ => 0))), (a_q7, .inl (a_c8, 31329, .inl (fun _ => 0))), (a_q9, .inl (a_c10, 31329, .inl (fun _ => 0))), (a_q11, .inl (a_c12, 6, .inl (fun _ => 0)))] H := hP
  replace hD : va_D A [(qt, .inr (10, [.int 0, .ref a_q1, .ref a_q3, .ref a_q5, .int 0, .ref a_q7, .ref a_q9, .int 0, .int 0, .int 0, .ref a_q11, .null, .null, .int 0, .null, .null, .int 0, .null, .null, .int 0, .null, .null, .null, .null, .null, .null, .null, .null, .int 0, .int 0, .int 0, .int 0, .int 0, .null])), (a_q1, .inl (a_c2, 160, .inl mk_Md_init_995)), (a_q3, .inl (a_c4, 160, .inl mk_Md_init_1952)), (a_q5, .inl (a_c6, 3000, .inl (fun _ => 0))), (a_q7, .inl (a_c8, 31329, .inl (fun _ => 0))), (a_q9, .inl (a_c10, 31329, .inl (fun _ => 0))), (a_q11, .inl (a_c12, 6, .inl (fun _ => 0)))] := hD
  refine lv_aload_n hx hb d_Md_init_1991 rfl (lv_at hl 0 rfl) ?_
  refine lv_sipush (v := (3000 : Int32)) hx hb d_Md_init_1992 (by decide) ?_
  refine va_newa (atype := .int) hx hb (ht _ tb_49) (ty := .int) rfl hK hP hD hS hA (N' := 3000) (a0 := (3000, .inl (fun _ => 0))) (fun _ => rfl) (by decide) (by decide) (by decide) (Nat.le_of_ble_eq_true rfl) (Nat.le_of_ble_eq_true rfl) d_Md_init_1995 (fun a_q13 a_c14 H hK hP hD hS => ?_)
  refine W.widen (k := 7) (n := 68984) (by omega) (by omega) ?_
  replace hK : va_K (dC, dI) cl_All [(a_c2, .int), (a_c4, .int), (a_c6, .int), (a_c8, .int), (a_c10, .int), (a_c12, .int), (a_c14, .int)] s := hK
  replace hP : va_P (dC, dI) cl_All [(qt, .inr (10, [.int 0, .ref a_q1, .ref a_q3, .ref a_q5, .int 0, .ref a_q7, .ref a_q9, .int 0, .int 0, .int 0, .ref a_q11, .null, .null, .int 0, .null, .null, .int 0, .null, .null, .int 0, .null, .null, .null, .null, .null, .null, .null, .null, .int 0, .int 0, .int 0, .int 0, .int 0, .null])), (a_q1, .inl (a_c2, 160, .inl mk_Md_init_995)), (a_q3, .inl (a_c4, 160, .inl mk_Md_init_1952)), (a_q5, .inl (a_c6, 3000, .inl (fun _ => 0))), (a_q7, .inl (a_c8, 31329, .inl (fun _ => 0))), (a_q9, .inl (a_c10, 31329, .inl (fun _ => 0))), (a_q11, .inl (a_c12, 6, .inl (fun _ => 0))), (a_q13, .inl (a_c14, 3000, .inl (fun _ => 0)))] H := hP
  replace hD : va_D A [(qt, .inr (10, [.int 0, .ref a_q1, .ref a_q3, .ref a_q5, .int 0, .ref a_q7, .ref a_q9, .int 0, .int 0, .int 0, .ref a_q11, .null, .null, .int 0, .null, .null, .int 0, .null, .null, .int 0, .null, .null, .null, .null, .null, .null, .null, .null, .int 0, .int 0, .int 0, .int 0, .int 0, .null])), (a_q1, .inl (a_c2, 160, .inl mk_Md_init_995)), (a_q3, .inl (a_c4, 160, .inl mk_Md_init_1952)), (a_q5, .inl (a_c6, 3000, .inl (fun _ => 0))), (a_q7, .inl (a_c8, 31329, .inl (fun _ => 0))), (a_q9, .inl (a_c10, 31329, .inl (fun _ => 0))), (a_q11, .inl (a_c12, 6, .inl (fun _ => 0))), (a_q13, .inl (a_c14, 3000, .inl (fun _ => 0)))] := hD
  refine va_putF (D := (dC, dI)) (ci := 10) (v := .ref a_q13) (ty := (.array .int)) (C := R_Md) (T := F_Md) (N := 34) hx hb ht i_Md t_Md t_Md_ok n_Md hown hK hP hD hS 0 rfl rfl 11 (by decide) (ht _ tb_1073) (fun _ h9 => h9) rfl hin rfl (by decide +kernel) rfl rfl (Nat.le_of_ble_eq_true rfl) d_Md_init_1997 (fun H locs hP hD hS => ?_)
  replace hP : va_P (dC, dI) cl_All [(qt, .inr (10, [.int 0, .ref a_q1, .ref a_q3, .ref a_q5, .int 0, .ref a_q7, .ref a_q9, .int 0, .int 0, .int 0, .ref a_q11, .ref a_q13, .null, .int 0, .null, .null, .int 0, .null, .null, .int 0, .null, .null, .null, .null, .null, .null, .null, .null, .int 0, .int 0, .int 0, .int 0, .int 0, .null])), (a_q1, .inl (a_c2, 160, .inl mk_Md_init_995)), (a_q3, .inl (a_c4, 160, .inl mk_Md_init_1952)), (a_q5, .inl (a_c6, 3000, .inl (fun _ => 0))), (a_q7, .inl (a_c8, 31329, .inl (fun _ => 0))), (a_q9, .inl (a_c10, 31329, .inl (fun _ => 0))), (a_q11, .inl (a_c12, 6, .inl (fun _ => 0))), (a_q13, .inl (a_c14, 3000, .inl (fun _ => 0)))] H := hP
  replace hD : va_D A [(qt, .inr (10, [.int 0, .ref a_q1, .ref a_q3, .ref a_q5, .int 0, .ref a_q7, .ref a_q9, .int 0, .int 0, .int 0, .ref a_q11, .ref a_q13, .null, .int 0, .null, .null, .int 0, .null, .null, .int 0, .null, .null, .null, .null, .null, .null, .null, .null, .int 0, .int 0, .int 0, .int 0, .int 0, .null])), (a_q1, .inl (a_c2, 160, .inl mk_Md_init_995)), (a_q3, .inl (a_c4, 160, .inl mk_Md_init_1952)), (a_q5, .inl (a_c6, 3000, .inl (fun _ => 0))), (a_q7, .inl (a_c8, 31329, .inl (fun _ => 0))), (a_q9, .inl (a_c10, 31329, .inl (fun _ => 0))), (a_q11, .inl (a_c12, 6, .inl (fun _ => 0))), (a_q13, .inl (a_c14, 3000, .inl (fun _ => 0)))] := hD
  refine lv_aload_n hx hb d_Md_init_2000 rfl (lv_at hl 0 rfl) ?_
  refine lv_sipush (v := (3000 : Int32)) hx hb d_Md_init_2001 (by decide) ?_
  refine va_newa (atype := .int) hx hb (ht _ tb_49) (ty := .int) rfl hK hP hD hS hA (N' := 3000) (a0 := (3000, .inl (fun _ => 0))) (fun _ => rfl) (by decide) (by decide) (by decide) (Nat.le_of_ble_eq_true rfl) (Nat.le_of_ble_eq_true rfl) d_Md_init_2004 (fun a_q15 a_c16 H hK hP hD hS => ?_)
  refine W.widen (k := 8) (n := 71984) (by omega) (by omega) ?_
  replace hK : va_K (dC, dI) cl_All [(a_c2, .int), (a_c4, .int), (a_c6, .int), (a_c8, .int), (a_c10, .int), (a_c12, .int), (a_c14, .int), (a_c16, .int)] s := hK
  replace hP : va_P (dC, dI) cl_All [(qt, .inr (10, [.int 0, .ref a_q1, .ref a_q3, .ref a_q5, .int 0, .ref a_q7, .ref a_q9, .int 0, .int 0, .int 0, .ref a_q11, .ref a_q13, .null, .int 0, .null, .null, .int 0, .null, .null, .int 0, .null, .null, .null, .null, .null, .null, .null, .null, .int 0, .int 0, .int 0, .int 0, .int 0, .null])), (a_q1, .inl (a_c2, 160, .inl mk_Md_init_995)), (a_q3, .inl (a_c4, 160, .inl mk_Md_init_1952)), (a_q5, .inl (a_c6, 3000, .inl (fun _ => 0))), (a_q7, .inl (a_c8, 31329, .inl (fun _ => 0))), (a_q9, .inl (a_c10, 31329, .inl (fun _ => 0))), (a_q11, .inl (a_c12, 6, .inl (fun _ => 0))), (a_q13, .inl (a_c14, 3000, .inl (fun _ => 0))), (a_q15, .inl (a_c16, 3000, .inl (fun _ => 0)))] H := hP
  replace hD : va_D A [(qt, .inr (10, [.int 0, .ref a_q1, .ref a_q3, .ref a_q5, .int 0, .ref a_q7, .ref a_q9, .int 0, .int 0, .int 0, .ref a_q11, .ref a_q13, .null, .int 0, .null, .null, .int 0, .null, .null, .int 0, .null, .null, .null, .null, .null, .null, .null, .null, .int 0, .int 0, .int 0, .int 0, .int 0, .null])), (a_q1, .inl (a_c2, 160, .inl mk_Md_init_995)), (a_q3, .inl (a_c4, 160, .inl mk_Md_init_1952)), (a_q5, .inl (a_c6, 3000, .inl (fun _ => 0))), (a_q7, .inl (a_c8, 31329, .inl (fun _ => 0))), (a_q9, .inl (a_c10, 31329, .inl (fun _ => 0))), (a_q11, .inl (a_c12, 6, .inl (fun _ => 0))), (a_q13, .inl (a_c14, 3000, .inl (fun _ => 0))), (a_q15, .inl (a_c16, 3000, .inl (fun _ => 0)))] := hD
  refine va_putF (D := (dC, dI)) (ci := 10) (v := .ref a_q15) (ty := (.array .int)) (C := R_Md) (T := F_Md) (N := 34) hx hb ht i_Md t_Md t_Md_ok n_Md hown hK hP hD hS 0 rfl rfl 12 (by decide) (ht _ tb_1074) (fun _ h9 => h9) rfl hin rfl (by decide +kernel) rfl rfl (Nat.le_of_ble_eq_true rfl) d_Md_init_2006 (fun H locs hP hD hS => ?_)
  replace hP : va_P (dC, dI) cl_All [(qt, .inr (10, [.int 0, .ref a_q1, .ref a_q3, .ref a_q5, .int 0, .ref a_q7, .ref a_q9, .int 0, .int 0, .int 0, .ref a_q11, .ref a_q13, .ref a_q15, .int 0, .null, .null, .int 0, .null, .null, .int 0, .null, .null, .null, .null, .null, .null, .null, .null, .int 0, .int 0, .int 0, .int 0, .int 0, .null])), (a_q1, .inl (a_c2, 160, .inl mk_Md_init_995)), (a_q3, .inl (a_c4, 160, .inl mk_Md_init_1952)), (a_q5, .inl (a_c6, 3000, .inl (fun _ => 0))), (a_q7, .inl (a_c8, 31329, .inl (fun _ => 0))), (a_q9, .inl (a_c10, 31329, .inl (fun _ => 0))), (a_q11, .inl (a_c12, 6, .inl (fun _ => 0))), (a_q13, .inl (a_c14, 3000, .inl (fun _ => 0))), (a_q15, .inl (a_c16, 3000, .inl (fun _ => 0)))] H := hP
  replace hD : va_D A [(qt, .inr (10, [.int 0, .ref a_q1, .ref a_q3, .ref a_q5, .int 0, .ref a_q7, .ref a_q9, .int 0, .int 0, .int 0, .ref a_q11, .ref a_q13, .ref a_q15, .int 0, .null, .null, .int 0, .null, .null, .int 0, .null, .null, .null, .null, .null, .null, .null, .null, .int 0, .int 0, .int 0, .int 0, .int 0, .null])), (a_q1, .inl (a_c2, 160, .inl mk_Md_init_995)), (a_q3, .inl (a_c4, 160, .inl mk_Md_init_1952)), (a_q5, .inl (a_c6, 3000, .inl (fun _ => 0))), (a_q7, .inl (a_c8, 31329, .inl (fun _ => 0))), (a_q9, .inl (a_c10, 31329, .inl (fun _ => 0))), (a_q11, .inl (a_c12, 6, .inl (fun _ => 0))), (a_q13, .inl (a_c14, 3000, .inl (fun _ => 0))), (a_q15, .inl (a_c16, 3000, .inl (fun _ => 0)))] := hD
  refine lv_aload_n hx hb d_Md_init_2009 rfl (lv_at hl 0 rfl) ?_
  refine lv_sipush (v := (3000 : Int32)) hx hb d_Md_init_2010 (by decide) ?_
  refine va_newa (atype := .int) hx hb (ht _ tb_49) (ty := .int) rfl hK hP hD hS hA (N' := 3000) (a0 := (3000, .inl (fun _ => 0))) (fun _ => rfl) (by decide) (by decide) (by decide) (Nat.le_of_ble_eq_true rfl) (Nat.le_of_ble_eq_true rfl) d_Md_init_2013 (fun a_q17 a_c18 H hK hP hD hS => ?_)
  refine W.widen (k := 9) (n := 74984) (by omega) (by omega) ?_
  replace hK : va_K (dC, dI) cl_All [(a_c2, .int), (a_c4, .int), (a_c6, .int), (a_c8, .int), (a_c10, .int), (a_c12, .int), (a_c14, .int), (a_c16, .int), (a_c18, .int)] s := hK
  replace hP : va_P (dC, dI) cl_All [(qt, .inr (10, [.int 0, .ref a_q1, .ref a_q3, .ref a_q5, .int 0, .ref a_q7, .ref a_q9, .int 0, .int 0, .int 0, .ref a_q11, .ref a_q13, .ref a_q15, .int 0, .null, .null, .int 0, .null, .null, .int 0, .null, .null, .null, .null, .null, .null, .null, .null, .int 0, .int 0, .int 0, .int 0, .int 0, .null])), (a_q1, .inl (a_c2, 160, .inl mk_Md_init_995)), (a_q3, .inl (a_c4, 160, .inl mk_Md_init_1952)), (a_q5, .inl (a_c6, 3000, .inl (fun _ => 0))), (a_q7, .inl (a_c8, 31329, .inl (fun _ => 0))), (a_q9, .inl (a_c10, 31329, .inl (fun _ => 0))), (a_q11, .inl (a_c12, 6, .inl (fun _ => 0))), (a_q13, .inl (a_c14, 3000, .inl (fun _ => 0))), (a_q15, .inl (a_c16, 3000, .inl (fun _ => 0))), (a_q17, .inl (a_c18, 3000, .inl (fun _ => 0)))] H := hP
  replace hD : va_D A [(qt, .inr (10, [.int 0, .ref a_q1, .ref a_q3, .ref a_q5, .int 0, .ref a_q7, .ref a_q9, .int 0, .int 0, .int 0, .ref a_q11, .ref a_q13, .ref a_q15, .int 0, .null, .null, .int 0, .null, .null, .int 0, .null, .null, .null, .null, .null, .null, .null, .null, .int 0, .int 0, .int 0, .int 0, .int 0, .null])), (a_q1, .inl (a_c2, 160, .inl mk_Md_init_995)), (a_q3, .inl (a_c4, 160, .inl mk_Md_init_1952)), (a_q5, .inl (a_c6, 3000, .inl (fun _ => 0))), (a_q7, .inl (a_c8, 31329, .inl (fun _ => 0))), (a_q9, .inl (a_c10, 31329, .inl (fun _ => 0))), (a_q11, .inl (a_c12, 6, .inl (fun _ => 0))), (a_q13, .inl (a_c14, 3000, .inl (fun _ => 0))), (a_q15, .inl (a_c16, 3000, .inl (fun _ => 0))), (a_q17, .inl (a_c18, 3000, .inl (fun _ => 0)))] := hD
  refine va_putF (D := (dC, dI)) (ci := 10) (v := .ref a_q17) (ty := (.array .int)) (C := R_Md) (T := F_Md) (N := 34) hx hb ht i_Md t_Md t_Md_ok n_Md hown hK hP hD hS 0 rfl rfl 14 (by decide) (ht _ tb_1076) (fun _ h9 => h9) rfl hin rfl (by decide +kernel) rfl rfl (Nat.le_of_ble_eq_true rfl) d_Md_init_2015 (fun H locs hP hD hS => ?_)
  replace hP : va_P (dC, dI) cl_All [(qt, .inr (10, [.int 0, .ref a_q1, .ref a_q3, .ref a_q5, .int 0, .ref a_q7, .ref a_q9, .int 0, .int 0, .int 0, .ref a_q11, .ref a_q13, .ref a_q15, .int 0, .ref a_q17, .null, .int 0, .null, .null, .int 0, .null, .null, .null, .null, .null, .null, .null, .null, .int 0, .int 0, .int 0, .int 0, .int 0, .null])), (a_q1, .inl (a_c2, 160, .inl mk_Md_init_995)), (a_q3, .inl (a_c4, 160, .inl mk_Md_init_1952)), (a_q5, .inl (a_c6, 3000, .inl (fun _ => 0))), (a_q7, .inl (a_c8, 31329, .inl (fun _ => 0))), (a_q9, .inl (a_c10, 31329, .inl (fun _ => 0))), (a_q11, .inl (a_c12, 6, .inl (fun _ => 0))), (a_q13, .inl (a_c14, 3000, .inl (fun _ => 0))), (a_q15, .inl (a_c16, 3000, .inl (fun _ => 0))), (a_q17, .inl (a_c18, 3000, .inl (fun _ => 0)))] H := hP
  replace hD : va_D A [(qt, .inr (10, [.int 0, .ref a_q1, .ref a_q3, .ref a_q5, .int 0, .ref a_q7, .ref a_q9, .int 0, .int 0, .int 0, .ref a_q11, .ref a_q13, .ref a_q15, .int 0, .ref a_q17, .null, .int 0, .null, .null, .int 0, .null, .null, .null, .null, .null, .null, .null, .null, .int 0, .int 0, .int 0, .int 0, .int 0, .null])), (a_q1, .inl (a_c2, 160, .inl mk_Md_init_995)), (a_q3, .inl (a_c4, 160, .inl mk_Md_init_1952)), (a_q5, .inl (a_c6, 3000, .inl (fun _ => 0))), (a_q7, .inl (a_c8, 31329, .inl (fun _ => 0))), (a_q9, .inl (a_c10, 31329, .inl (fun _ => 0))), (a_q11, .inl (a_c12, 6, .inl (fun _ => 0))), (a_q13, .inl (a_c14, 3000, .inl (fun _ => 0))), (a_q15, .inl (a_c16, 3000, .inl (fun _ => 0))), (a_q17, .inl (a_c18, 3000, .inl (fun _ => 0)))] := hD
  refine lv_aload_n hx hb d_Md_init_2018 rfl (lv_at hl 0 rfl) ?_
  refine lv_sipush (v := (18006 : Int32)) hx hb d_Md_init_2019 (by decide) ?_
  refine va_newa (atype := .int) hx hb (ht _ tb_49) (ty := .int) rfl hK hP hD hS hA (N' := 18006) (a0 := (18006, .inl (fun _ => 0))) (fun _ => rfl) (by decide) (by decide) (by decide) (Nat.le_of_ble_eq_true rfl) (Nat.le_of_ble_eq_true rfl) d_Md_init_2022 (fun a_q19 a_c20 H hK hP hD hS => ?_)
  refine W.widen (k := 10) (n := 92990) (by omega) (by omega) ?_
  replace hK : va_K (dC, dI) cl_All [(a_c2, .int), (a_c4, .int), (a_c6, .int), (a_c8, .int), (a_c10, .int), (a_c12, .int), (a_c14, .int), (a_c16, .int), (a_c18, .int), (a_c20, .int)] s := hK
  replace hP : va_P (dC, dI) cl_All [(qt, .inr (10, [.int 0, .ref a_q1, .ref a_q3, .ref a_q5, .int 0, .ref a_q7, .ref a_q9, .int 0, .int 0, .int 0, .ref a_q11, .ref a_q13, .ref a_q15, .int 0, .ref a_q17, .null, .int 0, .null, .null, .int 0, .null, .null, .null, .null, .null, .null, .null, .null, .int 0, .int 0, .int 0, .int 0, .int 0, .null])), (a_q1, .inl (a_c2, 160, .inl mk_Md_init_995)), (a_q3, .inl (a_c4, 160, .inl mk_Md_init_1952)), (a_q5, .inl (a_c6, 3000, .inl (fun _ => 0))), (a_q7, .inl (a_c8, 31329, .inl (fun _ => 0))), (a_q9, .inl (a_c10, 31329, .inl (fun _ => 0))), (a_q11, .inl (a_c12, 6, .inl (fun _ => 0))), (a_q13, .inl (a_c14, 3000, .inl (fun _ => 0))), (a_q15, .inl (a_c16, 3000, .inl (fun _ => 0))), (a_q17, .inl (a_c18, 3000, .inl (fun _ => 0))), (a_q19, .inl (a_c20, 18006, .inl (fun _ => 0)))] H := hP
  replace hD : va_D A [(qt, .inr (10, [.int 0, .ref a_q1, .ref a_q3, .ref a_q5, .int 0, .ref a_q7, .ref a_q9, .int 0, .int 0, .int 0, .ref a_q11, .ref a_q13, .ref a_q15, .int 0, .ref a_q17, .null, .int 0, .null, .null, .int 0, .null, .null, .null, .null, .null, .null, .null, .null, .int 0, .int 0, .int 0, .int 0, .int 0, .null])), (a_q1, .inl (a_c2, 160, .inl mk_Md_init_995)), (a_q3, .inl (a_c4, 160, .inl mk_Md_init_1952)), (a_q5, .inl (a_c6, 3000, .inl (fun _ => 0))), (a_q7, .inl (a_c8, 31329, .inl (fun _ => 0))), (a_q9, .inl (a_c10, 31329, .inl (fun _ => 0))), (a_q11, .inl (a_c12, 6, .inl (fun _ => 0))), (a_q13, .inl (a_c14, 3000, .inl (fun _ => 0))), (a_q15, .inl (a_c16, 3000, .inl (fun _ => 0))), (a_q17, .inl (a_c18, 3000, .inl (fun _ => 0))), (a_q19, .inl (a_c20, 18006, .inl (fun _ => 0)))] := hD
  refine va_putF (D := (dC, dI)) (ci := 10) (v := .ref a_q19) (ty := (.array .int)) (C := R_Md) (T := F_Md) (N := 34) hx hb ht i_Md t_Md t_Md_ok n_Md hown hK hP hD hS 0 rfl rfl 15 (by decide) (ht _ tb_1077) (fun _ h9 => h9) rfl hin rfl (by decide +kernel) rfl rfl (Nat.le_of_ble_eq_true rfl) d_Md_init_2024 (fun H locs hP hD hS => ?_)
  replace hP : va_P (dC, dI) cl_All [(qt, .inr (10, [.int 0, .ref a_q1, .ref a_q3, .ref a_q5, .int 0, .ref a_q7, .ref a_q9, .int 0, .int 0, .int 0, .ref a_q11, .ref a_q13, .ref a_q15, .int 0, .ref a_q17, .ref a_q19, .int 0, .null, .null, .int 0, .null, .null, .null, .null, .null, .null, .null, .null, .int 0, .int 0, .int 0, .int 0, .int 0, .null])), (a_q1, .inl (a_c2, 160, .inl mk_Md_init_995)), (a_q3, .inl (a_c4, 160, .inl mk_Md_init_1952)), (a_q5, .inl (a_c6, 3000, .inl (fun _ => 0))), (a_q7, .inl (a_c8, 31329, .inl (fun _ => 0))), (a_q9, .inl (a_c10, 31329, .inl (fun _ => 0))), (a_q11, .inl (a_c12, 6, .inl (fun _ => 0))), (a_q13, .inl (a_c14, 3000, .inl (fun _ => 0))), (a_q15, .inl (a_c16, 3000, .inl (fun _ => 0))), (a_q17, .inl (a_c18, 3000, .inl (fun _ => 0))), (a_q19, .inl (a_c20, 18006, .inl (fun _ => 0)))] H := hP
  replace hD : va_D A [(qt, .inr (10, [.int 0, .ref a_q1, .ref a_q3, .ref a_q5, .int 0, .ref a_q7, .ref a_q9, .int 0, .int 0, .int 0, .ref a_q11, .ref a_q13, .ref a_q15, .int 0, .ref a_q17, .ref a_q19, .int 0, .null, .null, .int 0, .null, .null, .null, .null, .null, .null, .null, .null, .int 0, .int 0, .int 0, .int 0, .int 0, .null])), (a_q1, .inl (a_c2, 160, .inl mk_Md_init_995)), (a_q3, .inl (a_c4, 160, .inl mk_Md_init_1952)), (a_q5, .inl (a_c6, 3000, .inl (fun _ => 0))), (a_q7, .inl (a_c8, 31329, .inl (fun _ => 0))), (a_q9, .inl (a_c10, 31329, .inl (fun _ => 0))), (a_q11, .inl (a_c12, 6, .inl (fun _ => 0))), (a_q13, .inl (a_c14, 3000, .inl (fun _ => 0))), (a_q15, .inl (a_c16, 3000, .inl (fun _ => 0))), (a_q17, .inl (a_c18, 3000, .inl (fun _ => 0))), (a_q19, .inl (a_c20, 18006, .inl (fun _ => 0)))] := hD
  refine lv_aload_n hx hb d_Md_init_2027 rfl (lv_at hl 0 rfl) ?_
  refine lv_sipush (v := (3800 : Int32)) hx hb d_Md_init_2028 (by decide) ?_
  refine va_newa (atype := .int) hx hb (ht _ tb_49) (ty := .int) rfl hK hP hD hS hA (N' := 3800) (a0 := (3800, .inl (fun _ => 0))) (fun _ => rfl) (by decide) (by decide) (by decide) (Nat.le_of_ble_eq_true rfl) (Nat.le_of_ble_eq_true rfl) d_Md_init_2031 (fun a_q21 a_c22 H hK hP hD hS => ?_)
  refine W.widen (k := 11) (n := 96790) (by omega) (by omega) ?_
  replace hK : va_K (dC, dI) cl_All [(a_c2, .int), (a_c4, .int), (a_c6, .int), (a_c8, .int), (a_c10, .int), (a_c12, .int), (a_c14, .int), (a_c16, .int), (a_c18, .int), (a_c20, .int), (a_c22, .int)] s := hK
  replace hP : va_P (dC, dI) cl_All [(qt, .inr (10, [.int 0, .ref a_q1, .ref a_q3, .ref a_q5, .int 0, .ref a_q7, .ref a_q9, .int 0, .int 0, .int 0, .ref a_q11, .ref a_q13, .ref a_q15, .int 0, .ref a_q17, .ref a_q19, .int 0, .null, .null, .int 0, .null, .null, .null, .null, .null, .null, .null, .null, .int 0, .int 0, .int 0, .int 0, .int 0, .null])), (a_q1, .inl (a_c2, 160, .inl mk_Md_init_995)), (a_q3, .inl (a_c4, 160, .inl mk_Md_init_1952)), (a_q5, .inl (a_c6, 3000, .inl (fun _ => 0))), (a_q7, .inl (a_c8, 31329, .inl (fun _ => 0))), (a_q9, .inl (a_c10, 31329, .inl (fun _ => 0))), (a_q11, .inl (a_c12, 6, .inl (fun _ => 0))), (a_q13, .inl (a_c14, 3000, .inl (fun _ => 0))), (a_q15, .inl (a_c16, 3000, .inl (fun _ => 0))), (a_q17, .inl (a_c18, 3000, .inl (fun _ => 0))), (a_q19, .inl (a_c20, 18006, .inl (fun _ => 0))), (a_q21, .inl (a_c22, 3800, .inl (fun _ => 0)))] H := hP
  replace hD : va_D A [(qt, .inr (10, [.int 0, .ref a_q1, .ref a_q3, .ref a_q5, .int 0, .ref a_q7, .ref a_q9, .int 0, .int 0, .int 0, .ref a_q11, .ref a_q13, .ref a_q15, .int 0, .ref a_q17, .ref a_q19, .int 0, .null, .null, .int 0, .null, .null, .null, .null, .null, .null, .null, .null, .int 0, .int 0, .int 0, .int 0, .int 0, .null])), (a_q1, .inl (a_c2, 160, .inl mk_Md_init_995)), (a_q3, .inl (a_c4, 160, .inl mk_Md_init_1952)), (a_q5, .inl (a_c6, 3000, .inl (fun _ => 0))), (a_q7, .inl (a_c8, 31329, .inl (fun _ => 0))), (a_q9, .inl (a_c10, 31329, .inl (fun _ => 0))), (a_q11, .inl (a_c12, 6, .inl (fun _ => 0))), (a_q13, .inl (a_c14, 3000, .inl (fun _ => 0))), (a_q15, .inl (a_c16, 3000, .inl (fun _ => 0))), (a_q17, .inl (a_c18, 3000, .inl (fun _ => 0))), (a_q19, .inl (a_c20, 18006, .inl (fun _ => 0))), (a_q21, .inl (a_c22, 3800, .inl (fun _ => 0)))] := hD
  refine va_putF (D := (dC, dI)) (ci := 10) (v := .ref a_q21) (ty := (.array .int)) (C := R_Md) (T := F_Md) (N := 34) hx hb ht i_Md t_Md t_Md_ok n_Md hown hK hP hD hS 0 rfl rfl 17 (by decide) (ht _ tb_1079) (fun _ h9 => h9) rfl hin rfl (by decide +kernel) rfl rfl (Nat.le_of_ble_eq_true rfl) d_Md_init_2033 (fun H locs hP hD hS => ?_)
  replace hP : va_P (dC, dI) cl_All [(qt, .inr (10, [.int 0, .ref a_q1, .ref a_q3, .ref a_q5, .int 0, .ref a_q7, .ref a_q9, .int 0, .int 0, .int 0, .ref a_q11, .ref a_q13, .ref a_q15, .int 0, .ref a_q17, .ref a_q19, .int 0, .ref a_q21, .null, .int 0, .null, .null, .null, .null, .null, .null, .null, .null, .int 0, .int 0, .int 0, .int 0, .int 0, .null])), (a_q1, .inl (a_c2, 160, .inl mk_Md_init_995)), (a_q3, .inl (a_c4, 160, .inl mk_Md_init_1952)), (a_q5, .inl (a_c6, 3000, .inl (fun _ => 0))), (a_q7, .inl (a_c8, 31329, .inl (fun _ => 0))), (a_q9, .inl (a_c10, 31329, .inl (fun _ => 0))), (a_q11, .inl (a_c12, 6, .inl (fun _ => 0))), (a_q13, .inl (a_c14, 3000, .inl (fun _ => 0))), (a_q15, .inl (a_c16, 3000, .inl (fun _ => 0))), (a_q17, .inl (a_c18, 3000, .inl (fun _ => 0))), (a_q19, .inl (a_c20, 18006, .inl (fun _ => 0))), (a_q21, .inl (a_c22, 3800, .inl (fun _ => 0)))] H := hP
  replace hD : va_D A [(qt, .inr (10, [.int 0, .ref a_q1, .ref a_q3, .ref a_q5, .int 0, .ref a_q7, .ref a_q9, .int 0, .int 0, .int 0, .ref a_q11, .ref a_q13, .ref a_q15, .int 0, .ref a_q17, .ref a_q19, .int 0, .ref a_q21, .null, .int 0, .null, .null, .null, .null, .null, .null, .null, .null, .int 0, .int 0, .int 0, .int 0, .int 0, .null])), (a_q1, .inl (a_c2, 160, .inl mk_Md_init_995)), (a_q3, .inl (a_c4, 160, .inl mk_Md_init_1952)), (a_q5, .inl (a_c6, 3000, .inl (fun _ => 0))), (a_q7, .inl (a_c8, 31329, .inl (fun _ => 0))), (a_q9, .inl (a_c10, 31329, .inl (fun _ => 0))), (a_q11, .inl (a_c12, 6, .inl (fun _ => 0))), (a_q13, .inl (a_c14, 3000, .inl (fun _ => 0))), (a_q15, .inl (a_c16, 3000, .inl (fun _ => 0))), (a_q17, .inl (a_c18, 3000, .inl (fun _ => 0))), (a_q19, .inl (a_c20, 18006, .inl (fun _ => 0))), (a_q21, .inl (a_c22, 3800, .inl (fun _ => 0)))] := hD
  refine lv_aload_n hx hb d_Md_init_2036 rfl (lv_at hl 0 rfl) ?_
  refine lv_sipush (v := (3800 : Int32)) hx hb d_Md_init_2037 (by decide) ?_
  refine va_newa (atype := .int) hx hb (ht _ tb_49) (ty := .int) rfl hK hP hD hS hA (N' := 3800) (a0 := (3800, .inl (fun _ => 0))) (fun _ => rfl) (by decide) (by decide) (by decide) (Nat.le_of_ble_eq_true rfl) (Nat.le_of_ble_eq_true rfl) d_Md_init_2040 (fun a_q23 a_c24 H hK hP hD hS => ?_)
  refine W.widen (k := 12) (n := 100590) (by omega) (by omega) ?_
  replace hK : va_K (dC, dI) cl_All [(a_c2, .int), (a_c4, .int), (a_c6, .int), (a_c8, .int), (a_c10, .int), (a_c12, .int), (a_c14, .int), (a_c16, .int), (a_c18, .int), (a_c20, .int), (a_c22, .int), (a_c24, .int)] s := hK
  replace hP : va_P (dC, dI) cl_All [(qt, .inr (10, [.int 0, .ref a_q1, .ref a_q3, .ref a_q5, .int 0, .ref a_q7, .ref a_q9, .int 0, .int 0, .int 0, .ref a_q11, .ref a_q13, .ref a_q15, .int 0, .ref a_q17, .ref a_q19, .int 0, .ref a_q21, .null, .int 0, .null, .null, .null, .null, .null, .null, .null, .null, .int 0, .int 0, .int 0, .int 0, .int 0, .null])), (a_q1, .inl (a_c2, 160, .inl mk_Md_init_995)), (a_q3, .inl (a_c4, 160, .inl mk_Md_init_1952)), (a_q5, .inl (a_c6, 3000, .inl (fun _ => 0))), (a_q7, .inl (a_c8, 31329, .inl (fun _ => 0))), (a_q9, .inl (a_c10, 31329, .inl (fun _ => 0))), (a_q11, .inl (a_c12, 6, .inl (fun _ => 0))), (a_q13, .inl (a_c14, 3000, .inl (fun _ => 0))), (a_q15, .inl (a_c16, 3000, .inl (fun _ => 0))), (a_q17, .inl (a_c18, 3000, .inl (fun _ => 0))), (a_q19, .inl (a_c20, 18006, .inl (fun _ => 0))), (a_q21, .inl (a_c22, 3800, .inl (fun _ => 0))), (a_q23, .inl (a_c24, 3800, .inl (fun _ => 0)))] H := hP
  replace hD : va_D A [(qt, .inr (10, [.int 0, .ref a_q1, .ref a_q3, .ref a_q5, .int 0, .ref a_q7, .ref a_q9, .int 0, .int 0, .int 0, .ref a_q11, .ref a_q13, .ref a_q15, .int 0, .ref a_q17, .ref a_q19, .int 0, .ref a_q21, .null, .int 0, .null, .null, .null, .null, .null, .null, .null, .null, .int 0, .int 0, .int 0, .int 0, .int 0, .null])), (a_q1, .inl (a_c2, 160, .inl mk_Md_init_995)), (a_q3, .inl (a_c4, 160, .inl mk_Md_init_1952)), (a_q5, .inl (a_c6, 3000, .inl (fun _ => 0))), (a_q7, .inl (a_c8, 31329, .inl (fun _ => 0))), (a_q9, .inl (a_c10, 31329, .inl (fun _ => 0))), (a_q11, .inl (a_c12, 6, .inl (fun _ => 0))), (a_q13, .inl (a_c14, 3000, .inl (fun _ => 0))), (a_q15, .inl (a_c16, 3000, .inl (fun _ => 0))), (a_q17, .inl (a_c18, 3000, .inl (fun _ => 0))), (a_q19, .inl (a_c20, 18006, .inl (fun _ => 0))), (a_q21, .inl (a_c22, 3800, .inl (fun _ => 0))), (a_q23, .inl (a_c24, 3800, .inl (fun _ => 0)))] := hD
  refine va_putF (D := (dC, dI)) (ci := 10) (v := .ref a_q23) (ty := (.array .int)) (C := R_Md) (T := F_Md) (N := 34) hx hb ht i_Md t_Md t_Md_ok n_Md hown hK hP hD hS 0 rfl rfl 18 (by decide) (ht _ tb_1080) (fun _ h9 => h9) rfl hin rfl (by decide +kernel) rfl rfl (Nat.le_of_ble_eq_true rfl) d_Md_init_2042 (fun H locs hP hD hS => ?_)
  replace hP : va_P (dC, dI) cl_All [(qt, .inr (10, [.int 0, .ref a_q1, .ref a_q3, .ref a_q5, .int 0, .ref a_q7, .ref a_q9, .int 0, .int 0, .int 0, .ref a_q11, .ref a_q13, .ref a_q15, .int 0, .ref a_q17, .ref a_q19, .int 0, .ref a_q21, .ref a_q23, .int 0, .null, .null, .null, .null, .null, .null, .null, .null, .int 0, .int 0, .int 0, .int 0, .int 0, .null])), (a_q1, .inl (a_c2, 160, .inl mk_Md_init_995)), (a_q3, .inl (a_c4, 160, .inl mk_Md_init_1952)), (a_q5, .inl (a_c6, 3000, .inl (fun _ => 0))), (a_q7, .inl (a_c8, 31329, .inl (fun _ => 0))), (a_q9, .inl (a_c10, 31329, .inl (fun _ => 0))), (a_q11, .inl (a_c12, 6, .inl (fun _ => 0))), (a_q13, .inl (a_c14, 3000, .inl (fun _ => 0))), (a_q15, .inl (a_c16, 3000, .inl (fun _ => 0))), (a_q17, .inl (a_c18, 3000, .inl (fun _ => 0))), (a_q19, .inl (a_c20, 18006, .inl (fun _ => 0))), (a_q21, .inl (a_c22, 3800, .inl (fun _ => 0))), (a_q23, .inl (a_c24, 3800, .inl (fun _ => 0)))] H := hP
  replace hD : va_D A [(qt, .inr (10, [.int 0, .ref a_q1, .ref a_q3, .ref a_q5, .int 0, .ref a_q7, .ref a_q9, .int 0, .int 0, .int 0, .ref a_q11, .ref a_q13, .ref a_q15, .int 0, .ref a_q17, .ref a_q19, .int 0, .ref a_q21, .ref a_q23, .int 0, .null, .null, .null, .null, .null, .null, .null, .null, .int 0, .int 0, .int 0, .int 0, .int 0, .null])), (a_q1, .inl (a_c2, 160, .inl mk_Md_init_995)), (a_q3, .inl (a_c4, 160, .inl mk_Md_init_1952)), (a_q5, .inl (a_c6, 3000, .inl (fun _ => 0))), (a_q7, .inl (a_c8, 31329, .inl (fun _ => 0))), (a_q9, .inl (a_c10, 31329, .inl (fun _ => 0))), (a_q11, .inl (a_c12, 6, .inl (fun _ => 0))), (a_q13, .inl (a_c14, 3000, .inl (fun _ => 0))), (a_q15, .inl (a_c16, 3000, .inl (fun _ => 0))), (a_q17, .inl (a_c18, 3000, .inl (fun _ => 0))), (a_q19, .inl (a_c20, 18006, .inl (fun _ => 0))), (a_q21, .inl (a_c22, 3800, .inl (fun _ => 0))), (a_q23, .inl (a_c24, 3800, .inl (fun _ => 0)))] := hD
  refine lv_aload_n hx hb d_Md_init_2045 rfl (lv_at hl 0 rfl) ?_
  refine lv_sipush (v := (256 : Int32)) hx hb d_Md_init_2046 (by decide) ?_
  refine va_newa (atype := .int) hx hb (ht _ tb_49) (ty := .int) rfl hK hP hD hS hA (N' := 256) (a0 := (256, .inl (fun _ => 0))) (fun _ => rfl) (by decide) (by decide) (by decide) (Nat.le_of_ble_eq_true rfl) (Nat.le_of_ble_eq_true rfl) d_Md_init_2049 (fun a_q25 a_c26 H hK hP hD hS => ?_)
  refine W.widen (k := 13) (n := 100846) (by omega) (by omega) ?_
  replace hK : va_K (dC, dI) cl_All [(a_c2, .int), (a_c4, .int), (a_c6, .int), (a_c8, .int), (a_c10, .int), (a_c12, .int), (a_c14, .int), (a_c16, .int), (a_c18, .int), (a_c20, .int), (a_c22, .int), (a_c24, .int), (a_c26, .int)] s := hK
  replace hP : va_P (dC, dI) cl_All [(qt, .inr (10, [.int 0, .ref a_q1, .ref a_q3, .ref a_q5, .int 0, .ref a_q7, .ref a_q9, .int 0, .int 0, .int 0, .ref a_q11, .ref a_q13, .ref a_q15, .int 0, .ref a_q17, .ref a_q19, .int 0, .ref a_q21, .ref a_q23, .int 0, .null, .null, .null, .null, .null, .null, .null, .null, .int 0, .int 0, .int 0, .int 0, .int 0, .null])), (a_q1, .inl (a_c2, 160, .inl mk_Md_init_995)), (a_q3, .inl (a_c4, 160, .inl mk_Md_init_1952)), (a_q5, .inl (a_c6, 3000, .inl (fun _ => 0))), (a_q7, .inl (a_c8, 31329, .inl (fun _ => 0))), (a_q9, .inl (a_c10, 31329, .inl (fun _ => 0))), (a_q11, .inl (a_c12, 6, .inl (fun _ => 0))), (a_q13, .inl (a_c14, 3000, .inl (fun _ => 0))), (a_q15, .inl (a_c16, 3000, .inl (fun _ => 0))), (a_q17, .inl (a_c18, 3000, .inl (fun _ => 0))), (a_q19, .inl (a_c20, 18006, .inl (fun _ => 0))), (a_q21, .inl (a_c22, 3800, .inl (fun _ => 0))), (a_q23, .inl (a_c24, 3800, .inl (fun _ => 0))), (a_q25, .inl (a_c26, 256, .inl (fun _ => 0)))] H := hP
  replace hD : va_D A [(qt, .inr (10, [.int 0, .ref a_q1, .ref a_q3, .ref a_q5, .int 0, .ref a_q7, .ref a_q9, .int 0, .int 0, .int 0, .ref a_q11, .ref a_q13, .ref a_q15, .int 0, .ref a_q17, .ref a_q19, .int 0, .ref a_q21, .ref a_q23, .int 0, .null, .null, .null, .null, .null, .null, .null, .null, .int 0, .int 0, .int 0, .int 0, .int 0, .null])), (a_q1, .inl (a_c2, 160, .inl mk_Md_init_995)), (a_q3, .inl (a_c4, 160, .inl mk_Md_init_1952)), (a_q5, .inl (a_c6, 3000, .inl (fun _ => 0))), (a_q7, .inl (a_c8, 31329, .inl (fun _ => 0))), (a_q9, .inl (a_c10, 31329, .inl (fun _ => 0))), (a_q11, .inl (a_c12, 6, .inl (fun _ => 0))), (a_q13, .inl (a_c14, 3000, .inl (fun _ => 0))), (a_q15, .inl (a_c16, 3000, .inl (fun _ => 0))), (a_q17, .inl (a_c18, 3000, .inl (fun _ => 0))), (a_q19, .inl (a_c20, 18006, .inl (fun _ => 0))), (a_q21, .inl (a_c22, 3800, .inl (fun _ => 0))), (a_q23, .inl (a_c24, 3800, .inl (fun _ => 0))), (a_q25, .inl (a_c26, 256, .inl (fun _ => 0)))] := hD
  refine va_putF (D := (dC, dI)) (ci := 10) (v := .ref a_q25) (ty := (.array .int)) (C := R_Md) (T := F_Md) (N := 34) hx hb ht i_Md t_Md t_Md_ok n_Md hown hK hP hD hS 0 rfl rfl 20 (by decide) (ht _ tb_1082) (fun _ h9 => h9) rfl hin rfl (by decide +kernel) rfl rfl (Nat.le_of_ble_eq_true rfl) d_Md_init_2051 (fun H locs hP hD hS => ?_)
  replace hP : va_P (dC, dI) cl_All [(qt, .inr (10, [.int 0, .ref a_q1, .ref a_q3, .ref a_q5, .int 0, .ref a_q7, .ref a_q9, .int 0, .int 0, .int 0, .ref a_q11, .ref a_q13, .ref a_q15, .int 0, .ref a_q17, .ref a_q19, .int 0, .ref a_q21, .ref a_q23, .int 0, .ref a_q25, .null, .null, .null, .null, .null, .null, .null, .int 0, .int 0, .int 0, .int 0, .int 0, .null])), (a_q1, .inl (a_c2, 160, .inl mk_Md_init_995)), (a_q3, .inl (a_c4, 160, .inl mk_Md_init_1952)), (a_q5, .inl (a_c6, 3000, .inl (fun _ => 0))), (a_q7, .inl (a_c8, 31329, .inl (fun _ => 0))), (a_q9, .inl (a_c10, 31329, .inl (fun _ => 0))), (a_q11, .inl (a_c12, 6, .inl (fun _ => 0))), (a_q13, .inl (a_c14, 3000, .inl (fun _ => 0))), (a_q15, .inl (a_c16, 3000, .inl (fun _ => 0))), (a_q17, .inl (a_c18, 3000, .inl (fun _ => 0))), (a_q19, .inl (a_c20, 18006, .inl (fun _ => 0))), (a_q21, .inl (a_c22, 3800, .inl (fun _ => 0))), (a_q23, .inl (a_c24, 3800, .inl (fun _ => 0))), (a_q25, .inl (a_c26, 256, .inl (fun _ => 0)))] H := hP
  replace hD : va_D A [(qt, .inr (10, [.int 0, .ref a_q1, .ref a_q3, .ref a_q5, .int 0, .ref a_q7, .ref a_q9, .int 0, .int 0, .int 0, .ref a_q11, .ref a_q13, .ref a_q15, .int 0, .ref a_q17, .ref a_q19, .int 0, .ref a_q21, .ref a_q23, .int 0, .ref a_q25, .null, .null, .null, .null, .null, .null, .null, .int 0, .int 0, .int 0, .int 0, .int 0, .null])), (a_q1, .inl (a_c2, 160, .inl mk_Md_init_995)), (a_q3, .inl (a_c4, 160, .inl mk_Md_init_1952)), (a_q5, .inl (a_c6, 3000, .inl (fun _ => 0))), (a_q7, .inl (a_c8, 31329, .inl (fun _ => 0))), (a_q9, .inl (a_c10, 31329, .inl (fun _ => 0))), (a_q11, .inl (a_c12, 6, .inl (fun _ => 0))), (a_q13, .inl (a_c14, 3000, .inl (fun _ => 0))), (a_q15, .inl (a_c16, 3000, .inl (fun _ => 0))), (a_q17, .inl (a_c18, 3000, .inl (fun _ => 0))), (a_q19, .inl (a_c20, 18006, .inl (fun _ => 0))), (a_q21, .inl (a_c22, 3800, .inl (fun _ => 0))), (a_q23, .inl (a_c24, 3800, .inl (fun _ => 0))), (a_q25, .inl (a_c26, 256, .inl (fun _ => 0)))] := hD
  refine lv_aload_n hx hb d_Md_init_2054 rfl (lv_at hl 0 rfl) ?_
  refine lv_sipush (v := (256 : Int32)) hx hb d_Md_init_2055 (by decide) ?_
  refine va_newa (atype := .int) hx hb (ht _ tb_49) (ty := .int) rfl hK hP hD hS hA (N' := 256) (a0 := (256, .inl (fun _ => 0))) (fun _ => rfl) (by decide) (by decide) (by decide) (Nat.le_of_ble_eq_true rfl) (Nat.le_of_ble_eq_true rfl) d_Md_init_2058 (fun a_q27 a_c28 H hK hP hD hS => ?_)
  refine W.widen (k := 14) (n := 101102) (by omega) (by omega) ?_
  replace hK : va_K (dC, dI) cl_All [(a_c2, .int), (a_c4, .int), (a_c6, .int), (a_c8, .int), (a_c10, .int), (a_c12, .int), (a_c14, .int), (a_c16, .int), (a_c18, .int), (a_c20, .int), (a_c22, .int), (a_c24, .int), (a_c26, .int), (a_c28, .int)] s := hK
  replace hP : va_P (dC, dI) cl_All [(qt, .inr (10, [.int 0, .ref a_q1, .ref a_q3, .ref a_q5, .int 0, .ref a_q7, .ref a_q9, .int 0, .int 0, .int 0, .ref a_q11, .ref a_q13, .ref a_q15, .int 0, .ref a_q17, .ref a_q19, .int 0, .ref a_q21, .ref a_q23, .int 0, .ref a_q25, .null, .null, .null, .null, .null, .null, .null, .int 0, .int 0, .int 0, .int 0, .int 0, .null])), (a_q1, .inl (a_c2, 160, .inl mk_Md_init_995)), (a_q3, .inl (a_c4, 160, .inl mk_Md_init_1952)), (a_q5, .inl (a_c6, 3000, .inl (fun _ => 0))), (a_q7, .inl (a_c8, 31329, .inl (fun _ => 0))), (a_q9, .inl (a_c10, 31329, .inl (fun _ => 0))), (a_q11, .inl (a_c12, 6, .inl (fun _ => 0))), (a_q13, .inl (a_c14, 3000, .inl (fun _ => 0))), (a_q15, .inl (a_c16, 3000, .inl (fun _ => 0))), (a_q17, .inl (a_c18, 3000, .inl (fun _ => 0))), (a_q19, .inl (a_c20, 18006, .inl (fun _ => 0))), (a_q21, .inl (a_c22, 3800, .inl (fun _ => 0))), (a_q23, .inl (a_c24, 3800, .inl (fun _ => 0))), (a_q25, .inl (a_c26, 256, .inl (fun _ => 0))), (a_q27, .inl (a_c28, 256, .inl (fun _ => 0)))] H := hP
  replace hD : va_D A [(qt, .inr (10, [.int 0, .ref a_q1, .ref a_q3, .ref a_q5, .int 0, .ref a_q7, .ref a_q9, .int 0, .int 0, .int 0, .ref a_q11, .ref a_q13, .ref a_q15, .int 0, .ref a_q17, .ref a_q19, .int 0, .ref a_q21, .ref a_q23, .int 0, .ref a_q25, .null, .null, .null, .null, .null, .null, .null, .int 0, .int 0, .int 0, .int 0, .int 0, .null])), (a_q1, .inl (a_c2, 160, .inl mk_Md_init_995)), (a_q3, .inl (a_c4, 160, .inl mk_Md_init_1952)), (a_q5, .inl (a_c6, 3000, .inl (fun _ => 0))), (a_q7, .inl (a_c8, 31329, .inl (fun _ => 0))), (a_q9, .inl (a_c10, 31329, .inl (fun _ => 0))), (a_q11, .inl (a_c12, 6, .inl (fun _ => 0))), (a_q13, .inl (a_c14, 3000, .inl (fun _ => 0))), (a_q15, .inl (a_c16, 3000, .inl (fun _ => 0))), (a_q17, .inl (a_c18, 3000, .inl (fun _ => 0))), (a_q19, .inl (a_c20, 18006, .inl (fun _ => 0))), (a_q21, .inl (a_c22, 3800, .inl (fun _ => 0))), (a_q23, .inl (a_c24, 3800, .inl (fun _ => 0))), (a_q25, .inl (a_c26, 256, .inl (fun _ => 0))), (a_q27, .inl (a_c28, 256, .inl (fun _ => 0)))] := hD
  refine va_putF (D := (dC, dI)) (ci := 10) (v := .ref a_q27) (ty := (.array .int)) (C := R_Md) (T := F_Md) (N := 34) hx hb ht i_Md t_Md t_Md_ok n_Md hown hK hP hD hS 0 rfl rfl 21 (by decide) (ht _ tb_1083) (fun _ h9 => h9) rfl hin rfl (by decide +kernel) rfl rfl (Nat.le_of_ble_eq_true rfl) d_Md_init_2060 (fun H locs hP hD hS => ?_)
  replace hP : va_P (dC, dI) cl_All [(qt, .inr (10, [.int 0, .ref a_q1, .ref a_q3, .ref a_q5, .int 0, .ref a_q7, .ref a_q9, .int 0, .int 0, .int 0, .ref a_q11, .ref a_q13, .ref a_q15, .int 0, .ref a_q17, .ref a_q19, .int 0, .ref a_q21, .ref a_q23, .int 0, .ref a_q25, .ref a_q27, .null, .null, .null, .null, .null, .null, .int 0, .int 0, .int 0, .int 0, .int 0, .null])), (a_q1, .inl (a_c2, 160, .inl mk_Md_init_995)), (a_q3, .inl (a_c4, 160, .inl mk_Md_init_1952)), (a_q5, .inl (a_c6, 3000, .inl (fun _ => 0))), (a_q7, .inl (a_c8, 31329, .inl (fun _ => 0))), (a_q9, .inl (a_c10, 31329, .inl (fun _ => 0))), (a_q11, .inl (a_c12, 6, .inl (fun _ => 0))), (a_q13, .inl (a_c14, 3000, .inl (fun _ => 0))), (a_q15, .inl (a_c16, 3000, .inl (fun _ => 0))), (a_q17, .inl (a_c18, 3000, .inl (fun _ => 0))), (a_q19, .inl (a_c20, 18006, .inl (fun _ => 0))), (a_q21, .inl (a_c22, 3800, .inl (fun _ => 0))), (a_q23, .inl (a_c24, 3800, .inl (fun _ => 0))), (a_q25, .inl (a_c26, 256, .inl (fun _ => 0))), (a_q27, .inl (a_c28, 256, .inl (fun _ => 0)))] H := hP
  replace hD : va_D A [(qt, .inr (10, [.int 0, .ref a_q1, .ref a_q3, .ref a_q5, .int 0, .ref a_q7, .ref a_q9, .int 0, .int 0, .int 0, .ref a_q11, .ref a_q13, .ref a_q15, .int 0, .ref a_q17, .ref a_q19, .int 0, .ref a_q21, .ref a_q23, .int 0, .ref a_q25, .ref a_q27, .null, .null, .null, .null, .null, .null, .int 0, .int 0, .int 0, .int 0, .int 0, .null])), (a_q1, .inl (a_c2, 160, .inl mk_Md_init_995)), (a_q3, .inl (a_c4, 160, .inl mk_Md_init_1952)), (a_q5, .inl (a_c6, 3000, .inl (fun _ => 0))), (a_q7, .inl (a_c8, 31329, .inl (fun _ => 0))), (a_q9, .inl (a_c10, 31329, .inl (fun _ => 0))), (a_q11, .inl (a_c12, 6, .inl (fun _ => 0))), (a_q13, .inl (a_c14, 3000, .inl (fun _ => 0))), (a_q15, .inl (a_c16, 3000, .inl (fun _ => 0))), (a_q17, .inl (a_c18, 3000, .inl (fun _ => 0))), (a_q19, .inl (a_c20, 18006, .inl (fun _ => 0))), (a_q21, .inl (a_c22, 3800, .inl (fun _ => 0))), (a_q23, .inl (a_c24, 3800, .inl (fun _ => 0))), (a_q25, .inl (a_c26, 256, .inl (fun _ => 0))), (a_q27, .inl (a_c28, 256, .inl (fun _ => 0)))] := hD
  refine lv_aload_n hx hb d_Md_init_2063 rfl (lv_at hl 0 rfl) ?_
  refine lv_bipush (v := (32 : Int32)) hx hb d_Md_init_2064 (by decide) ?_
  refine va_newa (atype := .int) hx hb (ht _ tb_49) (ty := .int) rfl hK hP hD hS hA (N' := 32) (a0 := (32, .inl (fun _ => 0))) (fun _ => rfl) (by decide) (by decide) (by decide) (Nat.le_of_ble_eq_true rfl) (Nat.le_of_ble_eq_true rfl) d_Md_init_2066 (fun a_q29 a_c30 H hK hP hD hS => ?_)
  refine W.widen (k := 15) (n := 101134) (by omega) (by omega) ?_
  replace hK : va_K (dC, dI) cl_All [(a_c2, .int), (a_c4, .int), (a_c6, .int), (a_c8, .int), (a_c10, .int), (a_c12, .int), (a_c14, .int), (a_c16, .int), (a_c18, .int), (a_c20, .int), (a_c22, .int), (a_c24, .int), (a_c26, .int), (a_c28, .int), (a_c30, .int)] s := hK
  replace hP : va_P (dC, dI) cl_All [(qt, .inr (10, [.int 0, .ref a_q1, .ref a_q3, .ref a_q5, .int 0, .ref a_q7, .ref a_q9, .int 0, .int 0, .int 0, .ref a_q11, .ref a_q13, .ref a_q15, .int 0, .ref a_q17, .ref a_q19, .int 0, .ref a_q21, .ref a_q23, .int 0, .ref a_q25, .ref a_q27, .null, .null, .null, .null, .null, .null, .int 0, .int 0, .int 0, .int 0, .int 0, .null])), (a_q1, .inl (a_c2, 160, .inl mk_Md_init_995)), (a_q3, .inl (a_c4, 160, .inl mk_Md_init_1952)), (a_q5, .inl (a_c6, 3000, .inl (fun _ => 0))), (a_q7, .inl (a_c8, 31329, .inl (fun _ => 0))), (a_q9, .inl (a_c10, 31329, .inl (fun _ => 0))), (a_q11, .inl (a_c12, 6, .inl (fun _ => 0))), (a_q13, .inl (a_c14, 3000, .inl (fun _ => 0))), (a_q15, .inl (a_c16, 3000, .inl (fun _ => 0))), (a_q17, .inl (a_c18, 3000, .inl (fun _ => 0))), (a_q19, .inl (a_c20, 18006, .inl (fun _ => 0))), (a_q21, .inl (a_c22, 3800, .inl (fun _ => 0))), (a_q23, .inl (a_c24, 3800, .inl (fun _ => 0))), (a_q25, .inl (a_c26, 256, .inl (fun _ => 0))), (a_q27, .inl (a_c28, 256, .inl (fun _ => 0))), (a_q29, .inl (a_c30, 32, .inl (fun _ => 0)))] H := hP
  replace hD : va_D A [(qt, .inr (10, [.int 0, .ref a_q1, .ref a_q3, .ref a_q5, .int 0, .ref a_q7, .ref a_q9, .int 0, .int 0, .int 0, .ref a_q11, .ref a_q13, .ref a_q15, .int 0, .ref a_q17, .ref a_q19, .int 0, .ref a_q21, .ref a_q23, .int 0, .ref a_q25, .ref a_q27, .null, .null, .null, .null, .null, .null, .int 0, .int 0, .int 0, .int 0, .int 0, .null])), (a_q1, .inl (a_c2, 160, .inl mk_Md_init_995)), (a_q3, .inl (a_c4, 160, .inl mk_Md_init_1952)), (a_q5, .inl (a_c6, 3000, .inl (fun _ => 0))), (a_q7, .inl (a_c8, 31329, .inl (fun _ => 0))), (a_q9, .inl (a_c10, 31329, .inl (fun _ => 0))), (a_q11, .inl (a_c12, 6, .inl (fun _ => 0))), (a_q13, .inl (a_c14, 3000, .inl (fun _ => 0))), (a_q15, .inl (a_c16, 3000, .inl (fun _ => 0))), (a_q17, .inl (a_c18, 3000, .inl (fun _ => 0))), (a_q19, .inl (a_c20, 18006, .inl (fun _ => 0))), (a_q21, .inl (a_c22, 3800, .inl (fun _ => 0))), (a_q23, .inl (a_c24, 3800, .inl (fun _ => 0))), (a_q25, .inl (a_c26, 256, .inl (fun _ => 0))), (a_q27, .inl (a_c28, 256, .inl (fun _ => 0))), (a_q29, .inl (a_c30, 32, .inl (fun _ => 0)))] := hD
  refine va_putF (D := (dC, dI)) (ci := 10) (v := .ref a_q29) (ty := (.array .int)) (C := R_Md) (T := F_Md) (N := 34) hx hb ht i_Md t_Md t_Md_ok n_Md hown hK hP hD hS 0 rfl rfl 22 (by decide) (ht _ tb_1084) (fun _ h9 => h9) rfl hin rfl (by decide +kernel) rfl rfl (Nat.le_of_ble_eq_true rfl) d_Md_init_2068 (fun H locs hP hD hS => ?_)
  replace hP : va_P (dC, dI) cl_All [(qt, .inr (10, [.int 0, .ref a_q1, .ref a_q3, .ref a_q5, .int 0, .ref a_q7, .ref a_q9, .int 0, .int 0, .int 0, .ref a_q11, .ref a_q13, .ref a_q15, .int 0, .ref a_q17, .ref a_q19, .int 0, .ref a_q21, .ref a_q23, .int 0, .ref a_q25, .ref a_q27, .ref a_q29, .null, .null, .null, .null, .null, .int 0, .int 0, .int 0, .int 0, .int 0, .null])), (a_q1, .inl (a_c2, 160, .inl mk_Md_init_995)), (a_q3, .inl (a_c4, 160, .inl mk_Md_init_1952)), (a_q5, .inl (a_c6, 3000, .inl (fun _ => 0))), (a_q7, .inl (a_c8, 31329, .inl (fun _ => 0))), (a_q9, .inl (a_c10, 31329, .inl (fun _ => 0))), (a_q11, .inl (a_c12, 6, .inl (fun _ => 0))), (a_q13, .inl (a_c14, 3000, .inl (fun _ => 0))), (a_q15, .inl (a_c16, 3000, .inl (fun _ => 0))), (a_q17, .inl (a_c18, 3000, .inl (fun _ => 0))), (a_q19, .inl (a_c20, 18006, .inl (fun _ => 0))), (a_q21, .inl (a_c22, 3800, .inl (fun _ => 0))), (a_q23, .inl (a_c24, 3800, .inl (fun _ => 0))), (a_q25, .inl (a_c26, 256, .inl (fun _ => 0))), (a_q27, .inl (a_c28, 256, .inl (fun _ => 0))), (a_q29, .inl (a_c30, 32, .inl (fun _ => 0)))] H := hP
  replace hD : va_D A [(qt, .inr (10, [.int 0, .ref a_q1, .ref a_q3, .ref a_q5, .int 0, .ref a_q7, .ref a_q9, .int 0, .int 0, .int 0, .ref a_q11, .ref a_q13, .ref a_q15, .int 0, .ref a_q17, .ref a_q19, .int 0, .ref a_q21, .ref a_q23, .int 0, .ref a_q25, .ref a_q27, .ref a_q29, .null, .null, .null, .null, .null, .int 0, .int 0, .int 0, .int 0, .int 0, .null])), (a_q1, .inl (a_c2, 160, .inl mk_Md_init_995)), (a_q3, .inl (a_c4, 160, .inl mk_Md_init_1952)), (a_q5, .inl (a_c6, 3000, .inl (fun _ => 0))), (a_q7, .inl (a_c8, 31329, .inl (fun _ => 0))), (a_q9, .inl (a_c10, 31329, .inl (fun _ => 0))), (a_q11, .inl (a_c12, 6, .inl (fun _ => 0))), (a_q13, .inl (a_c14, 3000, .inl (fun _ => 0))), (a_q15, .inl (a_c16, 3000, .inl (fun _ => 0))), (a_q17, .inl (a_c18, 3000, .inl (fun _ => 0))), (a_q19, .inl (a_c20, 18006, .inl (fun _ => 0))), (a_q21, .inl (a_c22, 3800, .inl (fun _ => 0))), (a_q23, .inl (a_c24, 3800, .inl (fun _ => 0))), (a_q25, .inl (a_c26, 256, .inl (fun _ => 0))), (a_q27, .inl (a_c28, 256, .inl (fun _ => 0))), (a_q29, .inl (a_c30, 32, .inl (fun _ => 0)))] := hD
  refine lv_aload_n hx hb d_Md_init_2071 rfl (lv_at hl 0 rfl) ?_
  refine lv_sipush (v := (272 : Int32)) hx hb d_Md_init_2072 (by decide) ?_
  refine va_newa (atype := .int) hx hb (ht _ tb_49) (ty := .int) rfl hK hP hD hS hA (N' := 272) (a0 := (272, .inl (fun _ => 0))) (fun _ => rfl) (by decide) (by decide) (by decide) (Nat.le_of_ble_eq_true rfl) (Nat.le_of_ble_eq_true rfl) d_Md_init_2075 (fun a_q31 a_c32 H hK hP hD hS => ?_)
  refine W.widen (k := 16) (n := 101406) (by omega) (by omega) ?_
  replace hK : va_K (dC, dI) cl_All [(a_c2, .int), (a_c4, .int), (a_c6, .int), (a_c8, .int), (a_c10, .int), (a_c12, .int), (a_c14, .int), (a_c16, .int), (a_c18, .int), (a_c20, .int), (a_c22, .int), (a_c24, .int), (a_c26, .int), (a_c28, .int), (a_c30, .int), (a_c32, .int)] s := hK
  replace hP : va_P (dC, dI) cl_All [(qt, .inr (10, [.int 0, .ref a_q1, .ref a_q3, .ref a_q5, .int 0, .ref a_q7, .ref a_q9, .int 0, .int 0, .int 0, .ref a_q11, .ref a_q13, .ref a_q15, .int 0, .ref a_q17, .ref a_q19, .int 0, .ref a_q21, .ref a_q23, .int 0, .ref a_q25, .ref a_q27, .ref a_q29, .null, .null, .null, .null, .null, .int 0, .int 0, .int 0, .int 0, .int 0, .null])), (a_q1, .inl (a_c2, 160, .inl mk_Md_init_995)), (a_q3, .inl (a_c4, 160, .inl mk_Md_init_1952)), (a_q5, .inl (a_c6, 3000, .inl (fun _ => 0))), (a_q7, .inl (a_c8, 31329, .inl (fun _ => 0))), (a_q9, .inl (a_c10, 31329, .inl (fun _ => 0))), (a_q11, .inl (a_c12, 6, .inl (fun _ => 0))), (a_q13, .inl (a_c14, 3000, .inl (fun _ => 0))), (a_q15, .inl (a_c16, 3000, .inl (fun _ => 0))), (a_q17, .inl (a_c18, 3000, .inl (fun _ => 0))), (a_q19, .inl (a_c20, 18006, .inl (fun _ => 0))), (a_q21, .inl (a_c22, 3800, .inl (fun _ => 0))), (a_q23, .inl (a_c24, 3800, .inl (fun _ => 0))), (a_q25, .inl (a_c26, 256, .inl (fun _ => 0))), (a_q27, .inl (a_c28, 256, .inl (fun _ => 0))), (a_q29, .inl (a_c30, 32, .inl (fun _ => 0))), (a_q31, .inl (a_c32, 272, .inl (fun _ => 0)))] H := hP
  replace hD : va_D A [(qt, .inr (10, [.int 0, .ref a_q1, .ref a_q3, .ref a_q5, .int 0, .ref a_q7, .ref a_q9, .int 0, .int 0, .int 0, .ref a_q11, .ref a_q13, .ref a_q15, .int 0, .ref a_q17, .ref a_q19, .int 0, .ref a_q21, .ref a_q23, .int 0, .ref a_q25, .ref a_q27, .ref a_q29, .null, .null, .null, .null, .null, .int 0, .int 0, .int 0, .int 0, .int 0, .null])), (a_q1, .inl (a_c2, 160, .inl mk_Md_init_995)), (a_q3, .inl (a_c4, 160, .inl mk_Md_init_1952)), (a_q5, .inl (a_c6, 3000, .inl (fun _ => 0))), (a_q7, .inl (a_c8, 31329, .inl (fun _ => 0))), (a_q9, .inl (a_c10, 31329, .inl (fun _ => 0))), (a_q11, .inl (a_c12, 6, .inl (fun _ => 0))), (a_q13, .inl (a_c14, 3000, .inl (fun _ => 0))), (a_q15, .inl (a_c16, 3000, .inl (fun _ => 0))), (a_q17, .inl (a_c18, 3000, .inl (fun _ => 0))), (a_q19, .inl (a_c20, 18006, .inl (fun _ => 0))), (a_q21, .inl (a_c22, 3800, .inl (fun _ => 0))), (a_q23, .inl (a_c24, 3800, .inl (fun _ => 0))), (a_q25, .inl (a_c26, 256, .inl (fun _ => 0))), (a_q27, .inl (a_c28, 256, .inl (fun _ => 0))), (a_q29, .inl (a_c30, 32, .inl (fun _ => 0))), (a_q31, .inl (a_c32, 272, .inl (fun _ => 0)))] := hD
  refine va_putF (D := (dC, dI)) (ci := 10) (v := .ref a_q31) (ty := (.array .int)) (C := R_Md) (T := F_Md) (N := 34) hx hb ht i_Md t_Md t_Md_ok n_Md hown hK hP hD hS 0 rfl rfl 23 (by decide) (ht _ tb_1085) (fun _ h9 => h9) rfl hin rfl (by decide +kernel) rfl rfl (Nat.le_of_ble_eq_true rfl) d_Md_init_2077 (fun H locs hP hD hS => ?_)
  replace hP : va_P (dC, dI) cl_All [(qt, .inr (10, [.int 0, .ref a_q1, .ref a_q3, .ref a_q5, .int 0, .ref a_q7, .ref a_q9, .int 0, .int 0, .int 0, .ref a_q11, .ref a_q13, .ref a_q15, .int 0, .ref a_q17, .ref a_q19, .int 0, .ref a_q21, .ref a_q23, .int 0, .ref a_q25, .ref a_q27, .ref a_q29, .ref a_q31, .null, .null, .null, .null, .int 0, .int 0, .int 0, .int 0, .int 0, .null])), (a_q1, .inl (a_c2, 160, .inl mk_Md_init_995)), (a_q3, .inl (a_c4, 160, .inl mk_Md_init_1952)), (a_q5, .inl (a_c6, 3000, .inl (fun _ => 0))), (a_q7, .inl (a_c8, 31329, .inl (fun _ => 0))), (a_q9, .inl (a_c10, 31329, .inl (fun _ => 0))), (a_q11, .inl (a_c12, 6, .inl (fun _ => 0))), (a_q13, .inl (a_c14, 3000, .inl (fun _ => 0))), (a_q15, .inl (a_c16, 3000, .inl (fun _ => 0))), (a_q17, .inl (a_c18, 3000, .inl (fun _ => 0))), (a_q19, .inl (a_c20, 18006, .inl (fun _ => 0))), (a_q21, .inl (a_c22, 3800, .inl (fun _ => 0))), (a_q23, .inl (a_c24, 3800, .inl (fun _ => 0))), (a_q25, .inl (a_c26, 256, .inl (fun _ => 0))), (a_q27, .inl (a_c28, 256, .inl (fun _ => 0))), (a_q29, .inl (a_c30, 32, .inl (fun _ => 0))), (a_q31, .inl (a_c32, 272, .inl (fun _ => 0)))] H := hP
  replace hD : va_D A [(qt, .inr (10, [.int 0, .ref a_q1, .ref a_q3, .ref a_q5, .int 0, .ref a_q7, .ref a_q9, .int 0, .int 0, .int 0, .ref a_q11, .ref a_q13, .ref a_q15, .int 0, .ref a_q17, .ref a_q19, .int 0, .ref a_q21, .ref a_q23, .int 0, .ref a_q25, .ref a_q27, .ref a_q29, .ref a_q31, .null, .null, .null, .null, .int 0, .int 0, .int 0, .int 0, .int 0, .null])), (a_q1, .inl (a_c2, 160, .inl mk_Md_init_995)), (a_q3, .inl (a_c4, 160, .inl mk_Md_init_1952)), (a_q5, .inl (a_c6, 3000, .inl (fun _ => 0))), (a_q7, .inl (a_c8, 31329, .inl (fun _ => 0))), (a_q9, .inl (a_c10, 31329, .inl (fun _ => 0))), (a_q11, .inl (a_c12, 6, .inl (fun _ => 0))), (a_q13, .inl (a_c14, 3000, .inl (fun _ => 0))), (a_q15, .inl (a_c16, 3000, .inl (fun _ => 0))), (a_q17, .inl (a_c18, 3000, .inl (fun _ => 0))), (a_q19, .inl (a_c20, 18006, .inl (fun _ => 0))), (a_q21, .inl (a_c22, 3800, .inl (fun _ => 0))), (a_q23, .inl (a_c24, 3800, .inl (fun _ => 0))), (a_q25, .inl (a_c26, 256, .inl (fun _ => 0))), (a_q27, .inl (a_c28, 256, .inl (fun _ => 0))), (a_q29, .inl (a_c30, 32, .inl (fun _ => 0))), (a_q31, .inl (a_c32, 272, .inl (fun _ => 0)))] := hD
  refine lv_aload_n hx hb d_Md_init_2080 rfl (lv_at hl 0 rfl) ?_
  refine lv_bipush (v := (16 : Int32)) hx hb d_Md_init_2081 (by decide) ?_
  refine va_newa (atype := .int) hx hb (ht _ tb_49) (ty := .int) rfl hK hP hD hS hA (N' := 16) (a0 := (16, .inl (fun _ => 0))) (fun _ => rfl) (by decide) (by decide) (by decide) (Nat.le_of_ble_eq_true rfl) (Nat.le_of_ble_eq_true rfl) d_Md_init_2083 (fun a_q33 a_c34 H hK hP hD hS => ?_)
  refine W.widen (k := 17) (n := 101422) (by omega) (by omega) ?_
  replace hK : va_K (dC, dI) cl_All [(a_c2, .int), (a_c4, .int), (a_c6, .int), (a_c8, .int), (a_c10, .int), (a_c12, .int), (a_c14, .int), (a_c16, .int), (a_c18, .int), (a_c20, .int), (a_c22, .int), (a_c24, .int), (a_c26, .int), (a_c28, .int), (a_c30, .int), (a_c32, .int), (a_c34, .int)] s := hK
  replace hP : va_P (dC, dI) cl_All [(qt, .inr (10, [.int 0, .ref a_q1, .ref a_q3, .ref a_q5, .int 0, .ref a_q7, .ref a_q9, .int 0, .int 0, .int 0, .ref a_q11, .ref a_q13, .ref a_q15, .int 0, .ref a_q17, .ref a_q19, .int 0, .ref a_q21, .ref a_q23, .int 0, .ref a_q25, .ref a_q27, .ref a_q29, .ref a_q31, .null, .null, .null, .null, .int 0, .int 0, .int 0, .int 0, .int 0, .null])), (a_q1, .inl (a_c2, 160, .inl mk_Md_init_995)), (a_q3, .inl (a_c4, 160, .inl mk_Md_init_1952)), (a_q5, .inl (a_c6, 3000, .inl (fun _ => 0))), (a_q7, .inl (a_c8, 31329, .inl (fun _ => 0))), (a_q9, .inl (a_c10, 31329, .inl (fun _ => 0))), (a_q11, .inl (a_c12, 6, .inl (fun _ => 0))), (a_q13, .inl (a_c14, 3000, .inl (fun _ => 0))), (a_q15, .inl (a_c16, 3000, .inl (fun _ => 0))), (a_q17, .inl (a_c18, 3000, .inl (fun _ => 0))), (a_q19, .inl (a_c20, 18006, .inl (fun _ => 0))), (a_q21, .inl (a_c22, 3800, .inl (fun _ => 0))), (a_q23, .inl (a_c24, 3800, .inl (fun _ => 0))), (a_q25, .inl (a_c26, 256, .inl (fun _ => 0))), (a_q27, .inl (a_c28, 256, .inl (fun _ => 0))), (a_q29, .inl (a_c30, 32, .inl (fun _ => 0))), (a_q31, .inl (a_c32, 272, .inl (fun _ => 0))), (a_q33, .inl (a_c34, 16, .inl (fun _ => 0)))] H := hP
  replace hD : va_D A [(qt, .inr (10, [.int 0, .ref a_q1, .ref a_q3, .ref a_q5, .int 0, .ref a_q7, .ref a_q9, .int 0, .int 0, .int 0, .ref a_q11, .ref a_q13, .ref a_q15, .int 0, .ref a_q17, .ref a_q19, .int 0, .ref a_q21, .ref a_q23, .int 0, .ref a_q25, .ref a_q27, .ref a_q29, .ref a_q31, .null, .null, .null, .null, .int 0, .int 0, .int 0, .int 0, .int 0, .null])), (a_q1, .inl (a_c2, 160, .inl mk_Md_init_995)), (a_q3, .inl (a_c4, 160, .inl mk_Md_init_1952)), (a_q5, .inl (a_c6, 3000, .inl (fun _ => 0))), (a_q7, .inl (a_c8, 31329, .inl (fun _ => 0))), (a_q9, .inl (a_c10, 31329, .inl (fun _ => 0))), (a_q11, .inl (a_c12, 6, .inl (fun _ => 0))), (a_q13, .inl (a_c14, 3000, .inl (fun _ => 0))), (a_q15, .inl (a_c16, 3000, .inl (fun _ => 0))), (a_q17, .inl (a_c18, 3000, .inl (fun _ => 0))), (a_q19, .inl (a_c20, 18006, .inl (fun _ => 0))), (a_q21, .inl (a_c22, 3800, .inl (fun _ => 0))), (a_q23, .inl (a_c24, 3800, .inl (fun _ => 0))), (a_q25, .inl (a_c26, 256, .inl (fun _ => 0))), (a_q27, .inl (a_c28, 256, .inl (fun _ => 0))), (a_q29, .inl (a_c30, 32, .inl (fun _ => 0))), (a_q31, .inl (a_c32, 272, .inl (fun _ => 0))), (a_q33, .inl (a_c34, 16, .inl (fun _ => 0)))] := hD
  refine va_putF (D := (dC, dI)) (ci := 10) (v := .ref a_q33) (ty := (.array .int)) (C := R_Md) (T := F_Md) (N := 34) hx hb ht i_Md t_Md t_Md_ok n_Md hown hK hP hD hS 0 rfl rfl 24 (by decide) (ht _ tb_1086) (fun _ h9 => h9) rfl hin rfl (by decide +kernel) rfl rfl (Nat.le_of_ble_eq_true rfl) d_Md_init_2085 (fun H locs hP hD hS => ?_)
  replace hP : va_P (dC, dI) cl_All [(qt, .inr (10, [.int 0, .ref a_q1, .ref a_q3, .ref a_q5, .int 0, .ref a_q7, .ref a_q9, .int 0, .int 0, .int 0, .ref a_q11, .ref a_q13, .ref a_q15, .int 0, .ref a_q17, .ref a_q19, .int 0, .ref a_q21, .ref a_q23, .int 0, .ref a_q25, .ref a_q27, .ref a_q29, .ref a_q31, .ref a_q33, .null, .null, .null, .int 0, .int 0, .int 0, .int 0, .int 0, .null])), (a_q1, .inl (a_c2, 160, .inl mk_Md_init_995)), (a_q3, .inl (a_c4, 160, .inl mk_Md_init_1952)), (a_q5, .inl (a_c6, 3000, .inl (fun _ => 0))), (a_q7, .inl (a_c8, 31329, .inl (fun _ => 0))), (a_q9, .inl (a_c10, 31329, .inl (fun _ => 0))), (a_q11, .inl (a_c12, 6, .inl (fun _ => 0))), (a_q13, .inl (a_c14, 3000, .inl (fun _ => 0))), (a_q15, .inl (a_c16, 3000, .inl (fun _ => 0))), (a_q17, .inl (a_c18, 3000, .inl (fun _ => 0))), (a_q19, .inl (a_c20, 18006, .inl (fun _ => 0))), (a_q21, .inl (a_c22, 3800, .inl (fun _ => 0))), (a_q23, .inl (a_c24, 3800, .inl (fun _ => 0))), (a_q25, .inl (a_c26, 256, .inl (fun _ => 0))), (a_q27, .inl (a_c28, 256, .inl (fun _ => 0))), (a_q29, .inl (a_c30, 32, .inl (fun _ => 0))), (a_q31, .inl (a_c32, 272, .inl (fun _ => 0))), (a_q33, .inl (a_c34, 16, .inl (fun _ => 0)))] H := hP
  replace hD : va_D A [(qt, .inr (10, [.int 0, .ref a_q1, .ref a_q3, .ref a_q5, .int 0, .ref a_q7, .ref a_q9, .int 0, .int 0, .int 0, .ref a_q11, .ref a_q13, .ref a_q15, .int 0, .ref a_q17, .ref a_q19, .int 0, .ref a_q21, .ref a_q23, .int 0, .ref a_q25, .ref a_q27, .ref a_q29, .ref a_q31, .ref a_q33, .null, .null, .null, .int 0, .int 0, .int 0, .int 0, .int 0, .null])), (a_q1, .inl (a_c2, 160, .inl mk_Md_init_995)), (a_q3, .inl (a_c4, 160, .inl mk_Md_init_1952)), (a_q5, .inl (a_c6, 3000, .inl (fun _ => 0))), (a_q7, .inl (a_c8, 31329, .inl (fun _ => 0))), (a_q9, .inl (a_c10, 31329, .inl (fun _ => 0))), (a_q11, .inl (a_c12, 6, .inl (fun _ => 0))), (a_q13, .inl (a_c14, 3000, .inl (fun _ => 0))), (a_q15, .inl (a_c16, 3000, .inl (fun _ => 0))), (a_q17, .inl (a_c18, 3000, .inl (fun _ => 0))), (a_q19, .inl (a_c20, 18006, .inl (fun _ => 0))), (a_q21, .inl (a_c22, 3800, .inl (fun _ => 0))), (a_q23, .inl (a_c24, 3800, .inl (fun _ => 0))), (a_q25, .inl (a_c26, 256, .inl (fun _ => 0))), (a_q27, .inl (a_c28, 256, .inl (fun _ => 0))), (a_q29, .inl (a_c30, 32, .inl (fun _ => 0))), (a_q31, .inl (a_c32, 272, .inl (fun _ => 0))), (a_q33, .inl (a_c34, 16, .inl (fun _ => 0)))] := hD
  refine lv_aload_n hx hb d_Md_init_2088 rfl (lv_at hl 0 rfl) ?_
  refine lv_bipush (v := (16 : Int32)) hx hb d_Md_init_2089 (by decide) ?_
  refine va_newa (atype := .int) hx hb (ht _ tb_49) (ty := .int) rfl hK hP hD hS hA (N' := 16) (a0 := (16, .inl (fun _ => 0))) (fun _ => rfl) (by decide) (by decide) (by decide) (Nat.le_of_ble_eq_true rfl) (Nat.le_of_ble_eq_true rfl) d_Md_init_2091 (fun a_q35 a_c36 H hK hP hD hS => ?_)
  refine W.widen (k := 18) (n := 101438) (by omega) (by omega) ?_
  replace hK : va_K (dC, dI) cl_All [(a_c2, .int), (a_c4, .int), (a_c6, .int), (a_c8, .int), (a_c10, .int), (a_c12, .int), (a_c14, .int), (a_c16, .int), (a_c18, .int), (a_c20, .int), (a_c22, .int), (a_c24, .int), (a_c26, .int), (a_c28, .int), (a_c30, .int), (a_c32, .int), (a_c34, .int), (a_c36, .int)] s := hK
  replace hP : va_P (dC, dI) cl_All [(qt, .inr (10, [.int 0, .ref a_q1, .ref a_q3, .ref a_q5, .int 0, .ref a_q7, .ref a_q9, .int 0, .int 0, .int 0, .ref a_q11, .ref a_q13, .ref a_q15, .int 0, .ref a_q17, .ref a_q19, .int 0, .ref a_q21, .ref a_q23, .int 0, .ref a_q25, .ref a_q27, .ref a_q29, .ref a_q31, .ref a_q33, .null, .null, .null, .int 0, .int 0, .int 0, .int 0, .int 0, .null])), (a_q1, .inl (a_c2, 160, .inl mk_Md_init_995)), (a_q3, .inl (a_c4, 160, .inl mk_Md_init_1952)), (a_q5, .inl (a_c6, 3000, .inl (fun _ => 0))), (a_q7, .inl (a_c8, 31329, .inl (fun _ => 0))), (a_q9, .inl (a_c10, 31329, .inl (fun _ => 0))), (a_q11, .inl (a_c12, 6, .inl (fun _ => 0))), (a_q13, .inl (a_c14, 3000, .inl (fun _ => 0))), (a_q15, .inl (a_c16, 3000, .inl (fun _ => 0))), (a_q17, .inl (a_c18, 3000, .inl (fun _ => 0))), (a_q19, .inl (a_c20, 18006, .inl (fun _ => 0))), (a_q21, .inl (a_c22, 3800, .inl (fun _ => 0))), (a_q23, .inl (a_c24, 3800, .inl (fun _ => 0))), (a_q25, .inl (a_c26, 256, .inl (fun _ => 0))), (a_q27, .inl (a_c28, 256, .inl (fun _ => 0))), (a_q29, .inl (a_c30, 32, .inl (fun _ => 0))), (a_q31, .inl (a_c32, 272, .inl (fun _ => 0))), (a_q33, .inl (a_c34, 16, .inl (fun _ => 0))), (a_q35, .inl (a_c36, 16, .inl (fun _ => 0)))] H := hP
  replace hD : va_D A [(qt, .inr (10, [.int 0, .ref a_q1, .ref a_q3, .ref a_q5, .int 0, .ref a_q7, .ref a_q9, .int 0, .int 0, .int 0, .ref a_q11, .ref a_q13, .ref a_q15, .int 0, .ref a_q17, .ref a_q19, .int 0, .ref a_q21, .ref a_q23, .int 0, .ref a_q25, .ref a_q27, .ref a_q29, .ref a_q31, .ref a_q33, .null, .null, .null, .int 0, .int 0, .int 0, .int 0, .int 0, .null])), (a_q1, .inl (a_c2, 160, .inl mk_Md_init_995)), (a_q3, .inl (a_c4, 160, .inl mk_Md_init_1952)), (a_q5, .inl (a_c6, 3000, .inl (fun _ => 0))), (a_q7, .inl (a_c8, 31329, .inl (fun _ => 0))), (a_q9, .inl (a_c10, 31329, .inl (fun _ => 0))), (a_q11, .inl (a_c12, 6, .inl (fun _ => 0))), (a_q13, .inl (a_c14, 3000, .inl (fun _ => 0))), (a_q15, .inl (a_c16, 3000, .inl (fun _ => 0))), (a_q17, .inl (a_c18, 3000, .inl (fun _ => 0))), (a_q19, .inl (a_c20, 18006, .inl (fun _ => 0))), (a_q21, .inl (a_c22, 3800, .inl (fun _ => 0))), (a_q23, .inl (a_c24, 3800, .inl (fun _ => 0))), (a_q25, .inl (a_c26, 256, .inl (fun _ => 0))), (a_q27, .inl (a_c28, 256, .inl (fun _ => 0))), (a_q29, .inl (a_c30, 32, .inl (fun _ => 0))), (a_q31, .inl (a_c32, 272, .inl (fun _ => 0))), (a_q33, .inl (a_c34, 16, .inl (fun _ => 0))), (a_q35, .inl (a_c36, 16, .inl (fun _ => 0)))] := hD
  refine va_putF (D := (dC, dI)) (ci := 10) (v := .ref a_q35) (ty := (.array .int)) (C := R_Md) (T := F_Md) (N := 34) hx hb ht i_Md t_Md t_Md_ok n_Md hown hK hP hD hS 0 rfl rfl 25 (by decide) (ht _ tb_1087) (fun _ h9 => h9) rfl hin rfl (by decide +kernel) rfl rfl (Nat.le_of_ble_eq_true rfl) d_Md_init_2093 (fun H locs hP hD hS => ?_)
  replace hP : va_P (dC, dI) cl_All [(qt, .inr (10, [.int 0, .ref a_q1, .ref a_q3, .ref a_q5, .int 0, .ref a_q7, .ref a_q9, .int 0, .int 0, .int 0, .ref a_q11, .ref a_q13, .ref a_q15, .int 0, .ref a_q17, .ref a_q19, .int 0, .ref a_q21, .ref a_q23, .int 0, .ref a_q25, .ref a_q27, .ref a_q29, .ref a_q31, .ref a_q33, .ref a_q35, .null, .null, .int 0, .int 0, .int 0, .int 0, .int 0, .null])), (a_q1, .inl (a_c2, 160, .inl mk_Md_init_995)), (a_q3, .inl (a_c4, 160, .inl mk_Md_init_1952)), (a_q5, .inl (a_c6, 3000, .inl (fun _ => 0))), (a_q7, .inl (a_c8, 31329, .inl (fun _ => 0))), (a_q9, .inl (a_c10, 31329, .inl (fun _ => 0))), (a_q11, .inl (a_c12, 6, .inl (fun _ => 0))), (a_q13, .inl (a_c14, 3000, .inl (fun _ => 0))), (a_q15, .inl (a_c16, 3000, .inl (fun _ => 0))), (a_q17, .inl (a_c18, 3000, .inl (fun _ => 0))), (a_q19, .inl (a_c20, 18006, .inl (fun _ => 0))), (a_q21, .inl (a_c22, 3800, .inl (fun _ => 0))), (a_q23, .inl (a_c24, 3800, .inl (fun _ => 0))), (a_q25, .inl (a_c26, 256, .inl (fun _ => 0))), (a_q27, .inl (a_c28, 256, .inl (fun _ => 0))), (a_q29, .inl (a_c30, 32, .inl (fun _ => 0))), (a_q31, .inl (a_c32, 272, .inl (fun _ => 0))), (a_q33, .inl (a_c34, 16, .inl (fun _ => 0))), (a_q35, .inl (a_c36, 16, .inl (fun _ => 0)))] H := hP
  replace hD : va_D A [(qt, .inr (10, [.int 0, .ref a_q1, .ref a_q3, .ref a_q5, .int 0, .ref a_q7, .ref a_q9, .int 0, .int 0, .int 0, .ref a_q11, .ref a_q13, .ref a_q15, .int 0, .ref a_q17, .ref a_q19, .int 0, .ref a_q21, .ref a_q23, .int 0, .ref a_q25, .ref a_q27, .ref a_q29, .ref a_q31, .ref a_q33, .ref a_q35, .null, .null, .int 0, .int 0, .int 0, .int 0, .int 0, .null])), (a_q1, .inl (a_c2, 160, .inl mk_Md_init_995)), (a_q3, .inl (a_c4, 160, .inl mk_Md_init_1952)), (a_q5, .inl (a_c6, 3000, .inl (fun _ => 0))), (a_q7, .inl (a_c8, 31329, .inl (fun _ => 0))), (a_q9, .inl (a_c10, 31329, .inl (fun _ => 0))), (a_q11, .inl (a_c12, 6, .inl (fun _ => 0))), (a_q13, .inl (a_c14, 3000, .inl (fun _ => 0))), (a_q15, .inl (a_c16, 3000, .inl (fun _ => 0))), (a_q17, .inl (a_c18, 3000, .inl (fun _ => 0))), (a_q19, .inl (a_c20, 18006, .inl (fun _ => 0))), (a_q21, .inl (a_c22, 3800, .inl (fun _ => 0))), (a_q23, .inl (a_c24, 3800, .inl (fun _ => 0))), (a_q25, .inl (a_c26, 256, .inl (fun _ => 0))), (a_q27, .inl (a_c28, 256, .inl (fun _ => 0))), (a_q29, .inl (a_c30, 32, .inl (fun _ => 0))), (a_q31, .inl (a_c32, 272, .inl (fun _ => 0))), (a_q33, .inl (a_c34, 16, .inl (fun _ => 0))), (a_q35, .inl (a_c36, 16, .inl (fun _ => 0)))] := hD
  refine lv_aload_n hx hb d_Md_init_2096 rfl (lv_at hl 0 rfl) ?_
  refine lv_bipush (v := (32 : Int32)) hx hb d_Md_init_2097 (by decide) ?_
  refine va_newa (atype := .int) hx hb (ht _ tb_49) (ty := .int) rfl hK hP hD hS hA (N' := 32) (a0 := (32, .inl (fun _ => 0))) (fun _ => rfl) (by decide) (by decide) (by decide) (Nat.le_of_ble_eq_true rfl) (Nat.le_of_ble_eq_true rfl) d_Md_init_2099 (fun a_q37 a_c38 H hK hP hD hS => ?_)
  refine W.widen (k := 19) (n := 101470) (by omega) (by omega) ?_
  replace hK : va_K (dC, dI) cl_All [(a_c2, .int), (a_c4, .int), (a_c6, .int), (a_c8, .int), (a_c10, .int), (a_c12, .int), (a_c14, .int), (a_c16, .int), (a_c18, .int), (a_c20, .int), (a_c22, .int), (a_c24, .int), (a_c26, .int), (a_c28, .int), (a_c30, .int), (a_c32, .int), (a_c34, .int), (a_c36, .int), (a_c38, .int)] s := hK
  replace hP : va_P (dC, dI) cl_All [(qt, .inr (10, [.int 0, .ref a_q1, .ref a_q3, .ref a_q5, .int 0, .ref a_q7, .ref a_q9, .int 0, .int 0, .int 0, .ref a_q11, .ref a_q13, .ref a_q15, .int 0, .ref a_q17, .ref a_q19, .int 0, .ref a_q21, .ref a_q23, .int 0, .ref a_q25, .ref a_q27, .ref a_q29, .ref a_q31, .ref a_q33, .ref a_q35, .null, .null, .int 0, .int 0, .int 0, .int 0, .int 0, .null])), (a_q1, .inl (a_c2, 160, .inl mk_Md_init_995)), (a_q3, .inl (a_c4, 160, .inl mk_Md_init_1952)), (a_q5, .inl (a_c6, 3000, .inl (fun _ => 0))), (a_q7, .inl (a_c8, 31329, .inl (fun _ => 0))), (a_q9, .inl (a_c10, 31329, .inl (fun _ => 0))), (a_q11, .inl (a_c12, 6, .inl (fun _ => 0))), (a_q13, .inl (a_c14, 3000, .inl (fun _ => 0))), (a_q15, .inl (a_c16, 3000, .inl (fun _ => 0))), (a_q17, .inl (a_c18, 3000, .inl (fun _ => 0))), (a_q19, .inl (a_c20, 18006, .inl (fun _ => 0))), (a_q21, .inl (a_c22, 3800, .inl (fun _ => 0))), (a_q23, .inl (a_c24, 3800, .inl (fun _ => 0))), (a_q25, .inl (a_c26, 256, .inl (fun _ => 0))), (a_q27, .inl (a_c28, 256, .inl (fun _ => 0))), (a_q29, .inl (a_c30, 32, .inl (fun _ => 0))), (a_q31, .inl (a_c32, 272, .inl (fun _ => 0))), (a_q33, .inl (a_c34, 16, .inl (fun _ => 0))), (a_q35, .inl (a_c36, 16, .inl (fun _ => 0))), (a_q37, .inl (a_c38, 32, .inl (fun _ => 0)))] H := hP
  replace hD : va_D A [(qt, .inr (10, [.int 0, .ref a_q1, .ref a_q3, .ref a_q5, .int 0, .ref a_q7, .ref a_q9, .int 0, .int 0, .int 0, .ref a_q11, .ref a_q13, .ref a_q15, .int 0, .ref a_q17, .ref a_q19, .int 0, .ref a_q21, .ref a_q23, .int 0, .ref a_q25, .ref a_q27, .ref a_q29, .ref a_q31, .ref a_q33, .ref a_q35, .null, .null, .int 0, .int 0, .int 0, .int 0, .int 0, .null])), (a_q1, .inl (a_c2, 160, .inl mk_Md_init_995)), (a_q3, .inl (a_c4, 160, .inl mk_Md_init_1952)), (a_q5, .inl (a_c6, 3000, .inl (fun _ => 0))), (a_q7, .inl (a_c8, 31329, .inl (fun _ => 0))), (a_q9, .inl (a_c10, 31329, .inl (fun _ => 0))), (a_q11, .inl (a_c12, 6, .inl (fun _ => 0))), (a_q13, .inl (a_c14, 3000, .inl (fun _ => 0))), (a_q15, .inl (a_c16, 3000, .inl (fun _ => 0))), (a_q17, .inl (a_c18, 3000, .inl (fun _ => 0))), (a_q19, .inl (a_c20, 18006, .inl (fun _ => 0))), (a_q21, .inl (a_c22, 3800, .inl (fun _ => 0))), (a_q23, .inl (a_c24, 3800, .inl (fun _ => 0))), (a_q25, .inl (a_c26, 256, .inl (fun _ => 0))), (a_q27, .inl (a_c28, 256, .inl (fun _ => 0))), (a_q29, .inl (a_c30, 32, .inl (fun _ => 0))), (a_q31, .inl (a_c32, 272, .inl (fun _ => 0))), (a_q33, .inl (a_c34, 16, .inl (fun _ => 0))), (a_q35, .inl (a_c36, 16, .inl (fun _ => 0))), (a_q37, .inl (a_c38, 32, .inl (fun _ => 0)))] := hD
  refine va_putF (D := (dC, dI)) (ci := 10) (v := .ref a_q37) (ty := (.array .int)) (C := R_Md) (T := F_Md) (N := 34) hx hb ht i_Md t_Md t_Md_ok n_Md hown hK hP hD hS 0 rfl rfl 26 (by decide) (ht _ tb_1088) (fun _ h9 => h9) rfl hin rfl (by decide +kernel) rfl rfl (Nat.le_of_ble_eq_true rfl) d_Md_init_2101 (fun H locs hP hD hS => ?_)
  replace hP : va_P (dC, dI) cl_All [(qt, .inr (10, [.int 0, .ref a_q1, .ref a_q3, .ref a_q5, .int 0, .ref a_q7, .ref a_q9, .int 0, .int 0, .int 0, .ref a_q11, .ref a_q13, .ref a_q15, .int 0, .ref a_q17, .ref a_q19, .int 0, .ref a_q21, .ref a_q23, .int 0, .ref a_q25, .ref a_q27, .ref a_q29, .ref a_q31, .ref a_q33, .ref a_q35, .ref a_q37, .null, .int 0, .int 0, .int 0, .int 0, .int 0, .null])), (a_q1, .inl (a_c2, 160, .inl mk_Md_init_995)), (a_q3, .inl (a_c4, 160, .inl mk_Md_init_1952)), (a_q5, .inl (a_c6, 3000, .inl (fun _ => 0))), (a_q7, .inl (a_c8, 31329, .inl (fun _ => 0))), (a_q9, .inl (a_c10, 31329, .inl (fun _ => 0))), (a_q11, .inl (a_c12, 6, .inl (fun _ => 0))), (a_q13, .inl (a_c14, 3000, .inl (fun _ => 0))), (a_q15, .inl (a_c16, 3000, .inl (fun _ => 0))), (a_q17, .inl (a_c18, 3000, .inl (fun _ => 0))), (a_q19, .inl (a_c20, 18006, .inl (fun _ => 0))), (a_q21, .inl (a_c22, 3800, .inl (fun _ => 0))), (a_q23, .inl (a_c24, 3800, .inl (fun _ => 0))), (a_q25, .inl (a_c26, 256, .inl (fun _ => 0))), (a_q27, .inl (a_c28, 256, .inl (fun _ => 0))), (a_q29, .inl (a_c30, 32, .inl (fun _ => 0))), (a_q31, .inl (a_c32, 272, .inl (fun _ => 0))), (a_q33, .inl (a_c34, 16, .inl (fun _ => 0))), (a_q35, .inl (a_c36, 16, .inl (fun _ => 0))), (a_q37, .inl (a_c38, 32, .inl (fun _ => 0)))] H := hP
  replace hD : va_D A [(qt, .inr (10, [.int 0, .ref a_q1, .ref a_q3, .ref a_q5, .int 0, .ref a_q7, .ref a_q9, .int 0, .int 0, .int 0, .ref a_q11, .ref a_q13, .ref a_q15, .int 0, .ref a_q17, .ref a_q19, .int 0, .ref a_q21, .ref a_q23, .int 0, .ref a_q25, .ref a_q27, .ref a_q29, .ref a_q31, .ref a_q33, .ref a_q35, .ref a_q37, .null, .int 0, .int 0, .int 0, .int 0, .int 0, .null])), (a_q1, .inl (a_c2, 160, .inl mk_Md_init_995)), (a_q3, .inl (a_c4, 160, .inl mk_Md_init_1952)), (a_q5, .inl (a_c6, 3000, .inl (fun _ => 0))), (a_q7, .inl (a_c8, 31329, .inl (fun _ => 0))), (a_q9, .inl (a_c10, 31329, .inl (fun _ => 0))), (a_q11, .inl (a_c12, 6, .inl (fun _ => 0))), (a_q13, .inl (a_c14, 3000, .inl (fun _ => 0))), (a_q15, .inl (a_c16, 3000, .inl (fun _ => 0))), (a_q17, .inl (a_c18, 3000, .inl (fun _ => 0))), (a_q19, .inl (a_c20, 18006, .inl (fun _ => 0))), (a_q21, .inl (a_c22, 3800, .inl (fun _ => 0))), (a_q23, .inl (a_c24, 3800, .inl (fun _ => 0))), (a_q25, .inl (a_c26, 256, .inl (fun _ => 0))), (a_q27, .inl (a_c28, 256, .inl (fun _ => 0))), (a_q29, .inl (a_c30, 32, .inl (fun _ => 0))), (a_q31, .inl (a_c32, 272, .inl (fun _ => 0))), (a_q33, .inl (a_c34, 16, .inl (fun _ => 0))), (a_q35, .inl (a_c36, 16, .inl (fun _ => 0))), (a_q37, .inl (a_c38, 32, .inl (fun _ => 0)))] := hD
  refine lv_aload_n hx hb d_Md_init_2104 rfl (lv_at hl 0 rfl) ?_
  refine lv_sipush (v := (3000 : Int32)) hx hb d_Md_init_2105 (by decide) ?_
  refine va_newa (atype := .int) hx hb (ht _ tb_49) (ty := .int) rfl hK hP hD hS hA (N' := 3000) (a0 := (3000, .inl (fun _ => 0))) (fun _ => rfl) (by decide) (by decide) (by decide) (Nat.le_of_ble_eq_true rfl) (Nat.le_of_ble_eq_true rfl) d_Md_init_2108 (fun a_q39 a_c40 H hK hP hD hS => ?_)
  refine W.widen (k := 20) (n := 104470) (by omega) (by omega) ?_
  replace hK : va_K (dC, dI) cl_All [(a_c2, .int), (a_c4, .int), (a_c6, .int), (a_c8, .int), (a_c10, .int), (a_c12, .int), (a_c14, .int), (a_c16, .int), (a_c18, .int), (a_c20, .int), (a_c22, .int), (a_c24, .int), (a_c26, .int), (a_c28, .int), (a_c30, .int), (a_c32, .int), (a_c34, .int), (a_c36, .int), (a_c38, .int), (a_c40, .int)] s := hK
  replace hP : va_P (dC, dI) cl_All [(qt, .inr (10, [.int 0, .ref a_q1, .ref a_q3, .ref a_q5, .int 0, .ref a_q7, .ref a_q9, .int 0, .int 0, .int 0, .ref a_q11, .ref a_q13, .ref a_q15, .int 0, .ref a_q17, .ref a_q19, .int 0, .ref a_q21, .ref a_q23, .int 0, .ref a_q25, .ref a_q27, .ref a_q29, .ref a_q31, .ref a_q33, .ref a_q35, .ref a_q37, .null, .int 0, .int 0, .int 0, .int 0, .int 0, .null])), (a_q1, .inl (a_c2, 160, .inl mk_Md_init_995)), (a_q3, .inl (a_c4, 160, .inl mk_Md_init_1952)), (a_q5, .inl (a_c6, 3000, .inl (fun _ => 0))), (a_q7, .inl (a_c8, 31329, .inl (fun _ => 0))), (a_q9, .inl (a_c10, 31329, .inl (fun _ => 0))), (a_q11, .inl (a_c12, 6, .inl (fun _ => 0))), (a_q13, .inl (a_c14, 3000, .inl (fun _ => 0))), (a_q15, .inl (a_c16, 3000, .inl (fun _ => 0))), (a_q17, .inl (a_c18, 3000, .inl (fun _ => 0))), (a_q19, .inl (a_c20, 18006, .inl (fun _ => 0))), (a_q21, .inl (a_c22, 3800, .inl (fun _ => 0))), (a_q23, .inl (a_c24, 3800, .inl (fun _ => 0))), (a_q25, .inl (a_c26, 256, .inl (fun _ => 0))), (a_q27, .inl (a_c28, 256, .inl (fun _ => 0))), (a_q29, .inl (a_c30, 32, .inl (fun _ => 0))), (a_q31, .inl (a_c32, 272, .inl (fun _ => 0))), (a_q33, .inl (a_c34, 16, .inl (fun _ => 0))), (a_q35, .inl (a_c36, 16, .inl (fun _ => 0))), (a_q37, .inl (a_c38, 32, .inl (fun _ => 0))), (a_q39, .inl (a_c40, 3000, .inl (fun _ => 0)))] H := hP
  replace hD : va_D A [(qt, .inr (10, [.int 0, .ref a_q1, .ref a_q3, .ref a_q5, .int 0, .ref a_q7, .ref a_q9, .int 0, .int 0, .int 0, .ref a_q11, .ref a_q13, .ref a_q15, .int 0, .ref a_q17, .ref a_q19, .int 0, .ref a_q21, .ref a_q23, .int 0, .ref a_q25, .ref a_q27, .ref a_q29, .ref a_q31, .ref a_q33, .ref a_q35, .ref a_q37, .null, .int 0, .int 0, .int 0, .int 0, .int 0, .null])), (a_q1, .inl (a_c2, 160, .inl mk_Md_init_995)), (a_q3, .inl (a_c4, 160, .inl mk_Md_init_1952)), (a_q5, .inl (a_c6, 3000, .inl (fun _ => 0))), (a_q7, .inl (a_c8, 31329, .inl (fun _ => 0))), (a_q9, .inl (a_c10, 31329, .inl (fun _ => 0))), (a_q11, .inl (a_c12, 6, .inl (fun _ => 0))), (a_q13, .inl (a_c14, 3000, .inl (fun _ => 0))), (a_q15, .inl (a_c16, 3000, .inl (fun _ => 0))), (a_q17, .inl (a_c18, 3000, .inl (fun _ => 0))), (a_q19, .inl (a_c20, 18006, .inl (fun _ => 0))), (a_q21, .inl (a_c22, 3800, .inl (fun _ => 0))), (a_q23, .inl (a_c24, 3800, .inl (fun _ => 0))), (a_q25, .inl (a_c26, 256, .inl (fun _ => 0))), (a_q27, .inl (a_c28, 256, .inl (fun _ => 0))), (a_q29, .inl (a_c30, 32, .inl (fun _ => 0))), (a_q31, .inl (a_c32, 272, .inl (fun _ => 0))), (a_q33, .inl (a_c34, 16, .inl (fun _ => 0))), (a_q35, .inl (a_c36, 16, .inl (fun _ => 0))), (a_q37, .inl (a_c38, 32, .inl (fun _ => 0))), (a_q39, .inl (a_c40, 3000, .inl (fun _ => 0)))] := hD
  refine va_putF (D := (dC, dI)) (ci := 10) (v := .ref a_q39) (ty := (.array .int)) (C := R_Md) (T := F_Md) (N := 34) hx hb ht i_Md t_Md t_Md_ok n_Md hown hK hP hD hS 0 rfl rfl 27 (by decide) (ht _ tb_1089) (fun _ h9 => h9) rfl hin rfl (by decide +kernel) rfl rfl (Nat.le_of_ble_eq_true rfl) d_Md_init_2110 (fun H locs hP hD hS => ?_)
  replace hP : va_P (dC, dI) cl_All [(qt, .inr (10, [.int 0, .ref a_q1, .ref a_q3, .ref a_q5, .int 0, .ref a_q7, .ref a_q9, .int 0, .int 0, .int 0, .ref a_q11, .ref a_q13, .ref a_q15, .int 0, .ref a_q17, .ref a_q19, .int 0, .ref a_q21, .ref a_q23, .int 0, .ref a_q25, .ref a_q27, .ref a_q29, .ref a_q31, .ref a_q33, .ref a_q35, .ref a_q37, .ref a_q39, .int 0, .int 0, .int 0, .int 0, .int 0, .null])), (a_q1, .inl (a_c2, 160, .inl mk_Md_init_995)), (a_q3, .inl (a_c4, 160, .inl mk_Md_init_1952)), (a_q5, .inl (a_c6, 3000, .inl (fun _ => 0))), (a_q7, .inl (a_c8, 31329, .inl (fun _ => 0))), (a_q9, .inl (a_c10, 31329, .inl (fun _ => 0))), (a_q11, .inl (a_c12, 6, .inl (fun _ => 0))), (a_q13, .inl (a_c14, 3000, .inl (fun _ => 0))), (a_q15, .inl (a_c16, 3000, .inl (fun _ => 0))), (a_q17, .inl (a_c18, 3000, .inl (fun _ => 0))), (a_q19, .inl (a_c20, 18006, .inl (fun _ => 0))), (a_q21, .inl (a_c22, 3800, .inl (fun _ => 0))), (a_q23, .inl (a_c24, 3800, .inl (fun _ => 0))), (a_q25, .inl (a_c26, 256, .inl (fun _ => 0))), (a_q27, .inl (a_c28, 256, .inl (fun _ => 0))), (a_q29, .inl (a_c30, 32, .inl (fun _ => 0))), (a_q31, .inl (a_c32, 272, .inl (fun _ => 0))), (a_q33, .inl (a_c34, 16, .inl (fun _ => 0))), (a_q35, .inl (a_c36, 16, .inl (fun _ => 0))), (a_q37, .inl (a_c38, 32, .inl (fun _ => 0))), (a_q39, .inl (a_c40, 3000, .inl (fun _ => 0)))] H := hP
  replace hD : va_D A [(qt, .inr (10, [.int 0, .ref a_q1, .ref a_q3, .ref a_q5, .int 0, .ref a_q7, .ref a_q9, .int 0, .int 0, .int 0, .ref a_q11, .ref a_q13, .ref a_q15, .int 0, .ref a_q17, .ref a_q19, .int 0, .ref a_q21, .ref a_q23, .int 0, .ref a_q25, .ref a_q27, .ref a_q29, .ref a_q31, .ref a_q33, .ref a_q35, .ref a_q37, .ref a_q39, .int 0, .int 0, .int 0, .int 0, .int 0, .null])), (a_q1, .inl (a_c2, 160, .inl mk_Md_init_995)), (a_q3, .inl (a_c4, 160, .inl mk_Md_init_1952)), (a_q5, .inl (a_c6, 3000, .inl (fun _ => 0))), (a_q7, .inl (a_c8, 31329, .inl (fun _ => 0))), (a_q9, .inl (a_c10, 31329, .inl (fun _ => 0))), (a_q11, .inl (a_c12, 6, .inl (fun _ => 0))), (a_q13, .inl (a_c14, 3000, .inl (fun _ => 0))), (a_q15, .inl (a_c16, 3000, .inl (fun _ => 0))), (a_q17, .inl (a_c18, 3000, .inl (fun _ => 0))), (a_q19, .inl (a_c20, 18006, .inl (fun _ => 0))), (a_q21, .inl (a_c22, 3800, .inl (fun _ => 0))), (a_q23, .inl (a_c24, 3800, .inl (fun _ => 0))), (a_q25, .inl (a_c26, 256, .inl (fun _ => 0))), (a_q27, .inl (a_c28, 256, .inl (fun _ => 0))), (a_q29, .inl (a_c30, 32, .inl (fun _ => 0))), (a_q31, .inl (a_c32, 272, .inl (fun _ => 0))), (a_q33, .inl (a_c34, 16, .inl (fun _ => 0))), (a_q35, .inl (a_c36, 16, .inl (fun _ => 0))), (a_q37, .inl (a_c38, 32, .inl (fun _ => 0))), (a_q39, .inl (a_c40, 3000, .inl (fun _ => 0)))] := hD
  refine lv_aload_n hx hb d_Md_init_2113 rfl (lv_at hl 0 rfl) ?_
  refine lv_iconst (v := (4 : Int32)) hx hb d_Md_init_2114 (by decide) ?_
  refine va_newa (atype := .int) hx hb (ht _ tb_49) (ty := .int) rfl hK hP hD hS hA (N' := 4) (a0 := (4, .inl (fun _ => 0))) (fun _ => rfl) (by decide) (by decide) (by decide) (Nat.le_of_ble_eq_true rfl) (Nat.le_of_ble_eq_true rfl) d_Md_init_2115 (fun a_q41 a_c42 H hK hP hD hS => ?_)
  refine W.widen (k := 21) (n := 104474) (by omega) (by omega) ?_
  replace hK : va_K (dC, dI) cl_All [(a_c2, .int), (a_c4, .int), (a_c6, .int), (a_c8, .int), (a_c10, .int), (a_c12, .int), (a_c14, .int), (a_c16, .int), (a_c18, .int), (a_c20, .int), (a_c22, .int), (a_c24, .int), (a_c26, .int), (a_c28, .int), (a_c30, .int), (a_c32, .int), (a_c34, .int), (a_c36, .int), (a_c38, .int), (a_c40, .int), (a_c42, .int)] s := hK
  replace hP : va_P (dC, dI) cl_All [(qt, .inr (10, [.int 0, .ref a_q1, .ref a_q3, .ref a_q5, .int 0, .ref a_q7, .ref a_q9, .int 0, .int 0, .int 0, .ref a_q11, .ref a_q13, .ref a_q15, .int 0, .ref a_q17, .ref a_q19, .int 0, .ref a_q21, .ref a_q23, .int 0, .ref a_q25, .ref a_q27, .ref a_q29, .ref a_q31, .ref a_q33, .ref a_q35, .ref a_q37, .ref a_q39, .int 0, .int 0, .int 0, .int 0, .int 0, .null])), (a_q1, .inl (a_c2, 160, .inl mk_Md_init_995)), (a_q3, .inl (a_c4, 160, .inl mk_Md_init_1952)), (a_q5, .inl (a_c6, 3000, .inl (fun _ => 0))), (a_q7, .inl (a_c8, 31329, .inl (fun _ => 0))), (a_q9, .inl (a_c10, 31329, .inl (fun _ => 0))), (a_q11, .inl (a_c12, 6, .inl (fun _ => 0))), (a_q13, .inl (a_c14, 3000, .inl (fun _ => 0))), (a_q15, .inl (a_c16, 3000, .inl (fun _ => 0))), (a_q17, .inl (a_c18, 3000, .inl (fun _ => 0))), (a_q19, .inl (a_c20, 18006, .inl (fun _ => 0))), (a_q21, .inl (a_c22, 3800, .inl (fun _ => 0))), (a_q23, .inl (a_c24, 3800, .inl (fun _ => 0))), (a_q25, .inl (a_c26, 256, .inl (fun _ => 0))), (a_q27, .inl (a_c28, 256, .inl (fun _ => 0))), (a_q29, .inl (a_c30, 32, .inl (fun _ => 0))), (a_q31, .inl (a_c32, 272, .inl (fun _ => 0))), (a_q33, .inl (a_c34, 16, .inl (fun _ => 0))), (a_q35, .inl (a_c36, 16, .inl (fun _ => 0))), (a_q37, .inl (a_c38, 32, .inl (fun _ => 0))), (a_q39, .inl (a_c40, 3000, .inl (fun _ => 0))), (a_q41, .inl (a_c42, 4, .inl (fun _ => 0)))] H := hP
  replace hD : va_D A [(qt, .inr (10, [.int 0, .ref a_q1, .ref a_q3, .ref a_q5, .int 0, .ref a_q7, .ref a_q9, .int 0, .int 0, .int 0, .ref a_q11, .ref a_q13, .ref a_q15, .int 0, .ref a_q17, .ref a_q19, .int 0, .ref a_q21, .ref a_q23, .int 0, .ref a_q25, .ref a_q27, .ref a_q29, .ref a_q31, .ref a_q33, .ref a_q35, .ref a_q37, .ref a_q39, .int 0, .int 0, .int 0, .int 0, .int 0, .null])), (a_q1, .inl (a_c2, 160, .inl mk_Md_init_995)), (a_q3, .inl (a_c4, 160, .inl mk_Md_init_1952)), (a_q5, .inl (a_c6, 3000, .inl (fun _ => 0))), (a_q7, .inl (a_c8, 31329, .inl (fun _ => 0))), (a_q9, .inl (a_c10, 31329, .inl (fun _ => 0))), (a_q11, .inl (a_c12, 6, .inl (fun _ => 0))), (a_q13, .inl (a_c14, 3000, .inl (fun _ => 0))), (a_q15, .inl (a_c16, 3000, .inl (fun _ => 0))), (a_q17, .inl (a_c18, 3000, .inl (fun _ => 0))), (a_q19, .inl (a_c20, 18006, .inl (fun _ => 0))), (a_q21, .inl (a_c22, 3800, .inl (fun _ => 0))), (a_q23, .inl (a_c24, 3800, .inl (fun _ => 0))), (a_q25, .inl (a_c26, 256, .inl (fun _ => 0))), (a_q27, .inl (a_c28, 256, .inl (fun _ => 0))), (a_q29, .inl (a_c30, 32, .inl (fun _ => 0))), (a_q31, .inl (a_c32, 272, .inl (fun _ => 0))), (a_q33, .inl (a_c34, 16, .inl (fun _ => 0))), (a_q35, .inl (a_c36, 16, .inl (fun _ => 0))), (a_q37, .inl (a_c38, 32, .inl (fun _ => 0))), (a_q39, .inl (a_c40, 3000, .inl (fun _ => 0))), (a_q41, .inl (a_c42, 4, .inl (fun _ => 0)))] := hD
  refine va_putF (D := (dC, dI)) (ci := 10) (v := .ref a_q41) (ty := (.array .int)) (C := R_Md) (T := F_Md) (N := 34) hx hb ht i_Md t_Md t_Md_ok n_Md hown hK hP hD hS 0 rfl rfl 33 (by decide) (ht _ tb_1095) (fun _ h9 => h9) rfl hin rfl (by decide +kernel) rfl rfl (Nat.le_of_ble_eq_true rfl) d_Md_init_2117 (fun H locs hP hD hS => ?_)
  replace hP : va_P (dC, dI) cl_All [(qt, .inr (10, [.int 0, .ref a_q1, .ref a_q3, .ref a_q5, .int 0, .ref a_q7, .ref a_q9, .int 0, .int 0, .int 0, .ref a_q11, .ref a_q13, .ref a_q15, .int 0, .ref a_q17, .ref a_q19, .int 0, .ref a_q21, .ref a_q23, .int 0, .ref a_q25, .ref a_q27, .ref a_q29, .ref a_q31, .ref a_q33, .ref a_q35, .ref a_q37, .ref a_q39, .int 0, .int 0, .int 0, .int 0, .int 0, .ref a_q41])), (a_q1, .inl (a_c2, 160, .inl mk_Md_init_995)), (a_q3, .inl (a_c4, 160, .inl mk_Md_init_1952)), (a_q5, .inl (a_c6, 3000, .inl (fun _ => 0))), (a_q7, .inl (a_c8, 31329, .inl (fun _ => 0))), (a_q9, .inl (a_c10, 31329, .inl (fun _ => 0))), (a_q11, .inl (a_c12, 6, .inl (fun _ => 0))), (a_q13, .inl (a_c14, 3000, .inl (fun _ => 0))), (a_q15, .inl (a_c16, 3000, .inl (fun _ => 0))), (a_q17, .inl (a_c18, 3000, .inl (fun _ => 0))), (a_q19, .inl (a_c20, 18006, .inl (fun _ => 0))), (a_q21, .inl (a_c22, 3800, .inl (fun _ => 0))), (a_q23, .inl (a_c24, 3800, .inl (fun _ => 0))), (a_q25, .inl (a_c26, 256, .inl (fun _ => 0))), (a_q27, .inl (a_c28, 256, .inl (fun _ => 0))), (a_q29, .inl (a_c30, 32, .inl (fun _ => 0))), (a_q31, .inl (a_c32, 272, .inl (fun _ => 0))), (a_q33, .inl (a_c34, 16, .inl (fun _ => 0))), (a_q35, .inl (a_c36, 16, .inl (fun _ => 0))), (a_q37, .inl (a_c38, 32, .inl (fun _ => 0))), (a_q39, .inl (a_c40, 3000, .inl (fun _ => 0))), (a_q41, .inl (a_c42, 4, .inl (fun _ => 0)))] H := hP
  replace hD : va_D A [(qt, .inr (10, [.int 0, .ref a_q1, .ref a_q3, .ref a_q5, .int 0, .ref a_q7, .ref a_q9, .int 0, .int 0, .int 0, .ref a_q11, .ref a_q13, .ref a_q15, .int 0, .ref a_q17, .ref a_q19, .int 0, .ref a_q21, .ref a_q23, .int 0, .ref a_q25, .ref a_q27, .ref a_q29, .ref a_q31, .ref a_q33, .ref a_q35, .ref a_q37, .ref a_q39, .int 0, .int 0, .int 0, .int 0, .int 0, .ref a_q41])), (a_q1, .inl (a_c2, 160, .inl mk_Md_init_995)), (a_q3, .inl (a_c4, 160, .inl mk_Md_init_1952)), (a_q5, .inl (a_c6, 3000, .inl (fun _ => 0))), (a_q7, .inl (a_c8, 31329, .inl (fun _ => 0))), (a_q9, .inl (a_c10, 31329, .inl (fun _ => 0))), (a_q11, .inl (a_c12, 6, .inl (fun _ => 0))), (a_q13, .inl (a_c14, 3000, .inl (fun _ => 0))), (a_q15, .inl (a_c16, 3000, .inl (fun _ => 0))), (a_q17, .inl (a_c18, 3000, .inl (fun _ => 0))), (a_q19, .inl (a_c20, 18006, .inl (fun _ => 0))), (a_q21, .inl (a_c22, 3800, .inl (fun _ => 0))), (a_q23, .inl (a_c24, 3800, .inl (fun _ => 0))), (a_q25, .inl (a_c26, 256, .inl (fun _ => 0))), (a_q27, .inl (a_c28, 256, .inl (fun _ => 0))), (a_q29, .inl (a_c30, 32, .inl (fun _ => 0))), (a_q31, .inl (a_c32, 272, .inl (fun _ => 0))), (a_q33, .inl (a_c34, 16, .inl (fun _ => 0))), (a_q35, .inl (a_c36, 16, .inl (fun _ => 0))), (a_q37, .inl (a_c38, 32, .inl (fun _ => 0))), (a_q39, .inl (a_c40, 3000, .inl (fun _ => 0))), (a_q41, .inl (a_c42, 4, .inl (fun _ => 0)))] := hD
  exact W.vret hx hb hr (fun t ht9 hW => ⟨⟨(), rfl, trivial, a_q1, a_q3, a_q5, a_q7, a_q9, a_q11, a_q13, a_q15, a_q17, a_q19, a_q21, a_q23, a_q25, a_q27, a_q29, a_q31, a_q33, a_q35, a_q37, a_q39, a_q41, a_c2, a_c4, a_c6, a_c8, a_c10, a_c12, a_c14, a_c16, a_c18, a_c20, a_c22, a_c24, a_c26, a_c28, a_c30, a_c32, a_c34, a_c36, a_c38, a_c40, a_c42, by rw [ht9]; exact hP, va_K.moved hW.alike hK, hD⟩, hS.F ht9⟩) hS.2.2 d_Md_init_2120
