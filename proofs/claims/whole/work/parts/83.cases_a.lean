theorem jl_L_13 : zz_KV RL 13 yX5_feed cX5_feed 2 (some .int) 1 := ⟨⟨zz_in 233 (by decide +kernel) (by decide +kernel), zz_in 234 (by decide +kernel) (by decide +kernel), zz_in 235 (by decide +kernel) (by decide +kernel), zz_in 1 (by decide +kernel) (by decide +kernel), zz_in 236 (by decide +kernel) (by decide +kernel)⟩, by decide +kernel⟩
theorem jl_L_17 : zz_KV RL 17 yX6_feed cX6_feed 2 (some .int) 1 := ⟨⟨zz_in 858 (by decide +kernel) (by decide +kernel), zz_in 859 (by decide +kernel) (by decide +kernel), zz_in 860 (by decide +kernel) (by decide +kernel), zz_in 8 (by decide +kernel) (by decide +kernel), zz_in 861 (by decide +kernel) (by decide +kernel)⟩, by decide +kernel⟩
theorem jl_L_18 : zz_KV RL 18 yX5_end cX5_end 3 (some .int) 1 := ⟨⟨zz_in 240 (by decide +kernel) (by decide +kernel), zz_in 241 (by decide +kernel) (by decide +kernel), zz_in 242 (by decide +kernel) (by decide +kernel), zz_in 1 (by decide +kernel) (by decide +kernel), zz_in 243 (by decide +kernel) (by decide +kernel)⟩, by decide +kernel⟩
theorem jl_L_21 : zz_KV RL 21 yX6_end cX6_end 3 (some .int) 1 := ⟨⟨zz_in 866 (by decide +kernel) (by decide +kernel), zz_in 867 (by decide +kernel) (by decide +kernel), zz_in 868 (by decide +kernel) (by decide +kernel), zz_in 8 (by decide +kernel) (by decide +kernel), zz_in 869 (by decide +kernel) (by decide +kernel)⟩, by decide +kernel⟩
theorem jl_L_22 : zz_KV RL 22 yX5_text cX5_text 3 (some .int) 0 := ⟨⟨zz_in 244 (by decide +kernel) (by decide +kernel), zz_in 245 (by decide +kernel) (by decide +kernel), zz_in 246 (by decide +kernel) (by decide +kernel), zz_in 1 (by decide +kernel) (by decide +kernel), zz_in 247 (by decide +kernel) (by decide +kernel)⟩, by decide +kernel⟩
theorem jl_L_26 : zz_KV RL 26 yX6_text cX6_text 2 (some .int) 0 := ⟨⟨zz_in 870 (by decide +kernel) (by decide +kernel), zz_in 871 (by decide +kernel) (by decide +kernel), zz_in 872 (by decide +kernel) (by decide +kernel), zz_in 8 (by decide +kernel) (by decide +kernel), zz_in 873 (by decide +kernel) (by decide +kernel)⟩, by decide +kernel⟩
theorem jl_L_27 : zz_KV RL 27 yX5_fault cX5_fault 1 (some .int) 0 := ⟨⟨zz_in 381 (by decide +kernel) (by decide +kernel), zz_in 382 (by decide +kernel) (by decide +kernel), zz_in 383 (by decide +kernel) (by decide +kernel), zz_in 1 (by decide +kernel) (by decide +kernel), zz_in 384 (by decide +kernel) (by decide +kernel)⟩, by decide +kernel⟩
theorem jl_L_30 : zz_KV RL 30 yX6_fault cX6_fault 1 (some .int) 0 := ⟨⟨zz_in 924 (by decide +kernel) (by decide +kernel), zz_in 925 (by decide +kernel) (by decide +kernel), zz_in 926 (by decide +kernel) (by decide +kernel), zz_in 8 (by decide +kernel) (by decide +kernel), zz_in 927 (by decide +kernel) (by decide +kernel)⟩, by decide +kernel⟩
theorem jl_L_31 : zz_KV RL 31 yX5_rule cX5_rule 2 (some .int) 1 := ⟨⟨zz_in 385 (by decide +kernel) (by decide +kernel), zz_in 386 (by decide +kernel) (by decide +kernel), zz_in 387 (by decide +kernel) (by decide +kernel), zz_in 1 (by decide +kernel) (by decide +kernel), zz_in 388 (by decide +kernel) (by decide +kernel)⟩, by decide +kernel⟩
theorem jl_L_34 : zz_KV RL 34 yX6_rule cX6_rule 2 (some .int) 1 := ⟨⟨zz_in 928 (by decide +kernel) (by decide +kernel), zz_in 929 (by decide +kernel) (by decide +kernel), zz_in 930 (by decide +kernel) (by decide +kernel), zz_in 8 (by decide +kernel) (by decide +kernel), zz_in 931 (by decide +kernel) (by decide +kernel)⟩, by decide +kernel⟩
theorem jl_L_35 : zz_KV RL 35 yX5_head cX5_head 4 (some .int) 2 := ⟨⟨zz_in 401 (by decide +kernel) (by decide +kernel), zz_in 402 (by decide +kernel) (by decide +kernel), zz_in 403 (by decide +kernel) (by decide +kernel), zz_in 1 (by decide +kernel) (by decide +kernel), zz_in 404 (by decide +kernel) (by decide +kernel)⟩, by decide +kernel⟩
theorem jl_L_39 : zz_KV RL 39 yX6_head cX6_head 3 (some .int) 2 := ⟨⟨zz_in 948 (by decide +kernel) (by decide +kernel), zz_in 949 (by decide +kernel) (by decide +kernel), zz_in 950 (by decide +kernel) (by decide +kernel), zz_in 8 (by decide +kernel) (by decide +kernel), zz_in 951 (by decide +kernel) (by decide +kernel)⟩, by decide +kernel⟩
theorem jl_L_40 : zz_KV RL 40 yX5_dot cX5_dot 5 (some .int) 3 := ⟨⟨zz_in 413 (by decide +kernel) (by decide +kernel), zz_in 414 (by decide +kernel) (by decide +kernel), zz_in 415 (by decide +kernel) (by decide +kernel), zz_in 1 (by decide +kernel) (by decide +kernel), zz_in 416 (by decide +kernel) (by decide +kernel)⟩, by decide +kernel⟩
theorem jl_L_44 : zz_KV RL 44 yX6_dot cX6_dot 4 (some .int) 3 := ⟨⟨zz_in 965 (by decide +kernel) (by decide +kernel), zz_in 966 (by decide +kernel) (by decide +kernel), zz_in 967 (by decide +kernel) (by decide +kernel), zz_in 8 (by decide +kernel) (by decide +kernel), zz_in 968 (by decide +kernel) (by decide +kernel)⟩, by decide +kernel⟩
theorem jl_L_45 : zz_KV RL 45 yX5_line cX5_line 2 (some .int) 1 := ⟨⟨zz_in 424 (by decide +kernel) (by decide +kernel), zz_in 425 (by decide +kernel) (by decide +kernel), zz_in 426 (by decide +kernel) (by decide +kernel), zz_in 1 (by decide +kernel) (by decide +kernel), zz_in 427 (by decide +kernel) (by decide +kernel)⟩, by decide +kernel⟩
theorem jl_L_48 : zz_KV RL 48 yX6_line cX6_line 2 (some .int) 1 := ⟨⟨zz_in 987 (by decide +kernel) (by decide +kernel), zz_in 988 (by decide +kernel) (by decide +kernel), zz_in 989 (by decide +kernel) (by decide +kernel), zz_in 8 (by decide +kernel) (by decide +kernel), zz_in 990 (by decide +kernel) (by decide +kernel)⟩, by decide +kernel⟩
theorem jl_L_49 : zz_KV RL 49 yX5_alter cX5_alter 6 (some .int) 3 := ⟨⟨zz_in 432 (by decide +kernel) (by decide +kernel), zz_in 433 (by decide +kernel) (by decide +kernel), zz_in 434 (by decide +kernel) (by decide +kernel), zz_in 1 (by decide +kernel) (by decide +kernel), zz_in 435 (by decide +kernel) (by decide +kernel)⟩, by decide +kernel⟩
theorem jl_L_52 : zz_KV RL 52 yX6_alter cX6_alter 5 (some .int) 3 := ⟨⟨zz_in 995 (by decide +kernel) (by decide +kernel), zz_in 996 (by decide +kernel) (by decide +kernel), zz_in 997 (by decide +kernel) (by decide +kernel), zz_in 8 (by decide +kernel) (by decide +kernel), zz_in 998 (by decide +kernel) (by decide +kernel)⟩, by decide +kernel⟩
theorem jl_L_53 : zz_KV RL 53 yX5_tell cX5_tell 4 (some .int) 2 := ⟨⟨zz_in 443 (by decide +kernel) (by decide +kernel), zz_in 444 (by decide +kernel) (by decide +kernel), zz_in 445 (by decide +kernel) (by decide +kernel), zz_in 1 (by decide +kernel) (by decide +kernel), zz_in 446 (by decide +kernel) (by decide +kernel)⟩, by decide +kernel⟩
theorem jl_L_56 : zz_KV RL 56 yX6_tell cX6_tell 3 (some .int) 2 := ⟨⟨zz_in 1004 (by decide +kernel) (by decide +kernel), zz_in 1005 (by decide +kernel) (by decide +kernel), zz_in 1006 (by decide +kernel) (by decide +kernel), zz_in 8 (by decide +kernel) (by decide +kernel), zz_in 1007 (by decide +kernel) (by decide +kernel)⟩, by decide +kernel⟩
theorem jl_L_57 : zz_KV RL 57 yX5_warm cX5_warm 5 (some .int) 3 := ⟨⟨zz_in 449 (by decide +kernel) (by decide +kernel), zz_in 450 (by decide +kernel) (by decide +kernel), zz_in 451 (by decide +kernel) (by decide +kernel), zz_in 1 (by decide +kernel) (by decide +kernel), zz_in 452 (by decide +kernel) (by decide +kernel)⟩, by decide +kernel⟩
theorem jl_L_60 : zz_KV RL 60 yX6_warm cX6_warm 4 (some .int) 3 := ⟨⟨zz_in 1009 (by decide +kernel) (by decide +kernel), zz_in 1010 (by decide +kernel) (by decide +kernel), zz_in 1011 (by decide +kernel) (by decide +kernel), zz_in 8 (by decide +kernel) (by decide +kernel), zz_in 1012 (by decide +kernel) (by decide +kernel)⟩, by decide +kernel⟩
theorem jl_L_61 : zz_KV RL 61 yX5_set cX5_set 4 (some .int) 2 := ⟨⟨zz_in 453 (by decide +kernel) (by decide +kernel), zz_in 454 (by decide +kernel) (by decide +kernel), zz_in 455 (by decide +kernel) (by decide +kernel), zz_in 1 (by decide +kernel) (by decide +kernel), zz_in 456 (by decide +kernel) (by decide +kernel)⟩, by decide +kernel⟩
theorem jl_L_64 : zz_KV RL 64 yX6_set cX6_set 3 (some .int) 2 := ⟨⟨zz_in 1014 (by decide +kernel) (by decide +kernel), zz_in 1015 (by decide +kernel) (by decide +kernel), zz_in 1016 (by decide +kernel) (by decide +kernel), zz_in 8 (by decide +kernel) (by decide +kernel), zz_in 1017 (by decide +kernel) (by decide +kernel)⟩, by decide +kernel⟩
theorem jl_L_65 : zz_KV RL 65 yX5_add cX5_add 2 (some .int) 1 := ⟨⟨zz_in 461 (by decide +kernel) (by decide +kernel), zz_in 462 (by decide +kernel) (by decide +kernel), zz_in 463 (by decide +kernel) (by decide +kernel), zz_in 1 (by decide +kernel) (by decide +kernel), zz_in 464 (by decide +kernel) (by decide +kernel)⟩, by decide +kernel⟩
theorem jl_L_68 : zz_KV RL 68 yX6_add cX6_add 2 (some .int) 1 := ⟨⟨zz_in 1019 (by decide +kernel) (by decide +kernel), zz_in 1020 (by decide +kernel) (by decide +kernel), zz_in 1021 (by decide +kernel) (by decide +kernel), zz_in 8 (by decide +kernel) (by decide +kernel), zz_in 1022 (by decide +kernel) (by decide +kernel)⟩, by decide +kernel⟩
theorem jl_L_69 : zz_KV RL 69 yX5_cut cX5_cut 3 (some .int) 1 := ⟨⟨zz_in 465 (by decide +kernel) (by decide +kernel), zz_in 466 (by decide +kernel) (by decide +kernel), zz_in 467 (by decide +kernel) (by decide +kernel), zz_in 1 (by decide +kernel) (by decide +kernel), zz_in 468 (by decide +kernel) (by decide +kernel)⟩, by decide +kernel⟩
theorem jl_L_72 : zz_KV RL 72 yX6_cut cX6_cut 2 (some .int) 1 := ⟨⟨zz_in 1023 (by decide +kernel) (by decide +kernel), zz_in 1024 (by decide +kernel) (by decide +kernel), zz_in 1025 (by decide +kernel) (by decide +kernel), zz_in 8 (by decide +kernel) (by decide +kernel), zz_in 1026 (by decide +kernel) (by decide +kernel)⟩, by decide +kernel⟩
theorem jl_L_73 : zz_KV RL 73 yX5_burn cX5_burn 4 (some .int) 1 := ⟨⟨zz_in 469 (by decide +kernel) (by decide +kernel), zz_in 470 (by decide +kernel) (by decide +kernel), zz_in 471 (by decide +kernel) (by decide +kernel), zz_in 1 (by decide +kernel) (by decide +kernel), zz_in 472 (by decide +kernel) (by decide +kernel)⟩, by decide +kernel⟩
theorem jl_L_76 : zz_KV RL 76 yX6_burn cX6_burn 2 (some .int) 1 := ⟨⟨zz_in 1027 (by decide +kernel) (by decide +kernel), zz_in 1028 (by decide +kernel) (by decide +kernel), zz_in 1029 (by decide +kernel) (by decide +kernel), zz_in 8 (by decide +kernel) (by decide +kernel), zz_in 1030 (by decide +kernel) (by decide +kernel)⟩, by decide +kernel⟩
theorem jl_L_77 : zz_KV RL 77 yX5_runs cX5_runs 9 (some .int) 2 := ⟨⟨zz_in 504 (by decide +kernel) (by decide +kernel), zz_in 505 (by decide +kernel) (by decide +kernel), zz_in 506 (by decide +kernel) (by decide +kernel), zz_in 1 (by decide +kernel) (by decide +kernel), zz_in 507 (by decide +kernel) (by decide +kernel)⟩, by decide +kernel⟩
theorem jl_L_80 : zz_KV RL 80 yX6_runs cX6_runs 3 (some .int) 2 := ⟨⟨zz_in 1069 (by decide +kernel) (by decide +kernel), zz_in 1070 (by decide +kernel) (by decide +kernel), zz_in 1071 (by decide +kernel) (by decide +kernel), zz_in 8 (by decide +kernel) (by decide +kernel), zz_in 1072 (by decide +kernel) (by decide +kernel)⟩, by decide +kernel⟩
theorem jl_L_81 : zz_KV RL 81 yX5_black cX5_black 5 (some .int) 2 := ⟨⟨zz_in 516 (by decide +kernel) (by decide +kernel), zz_in 517 (by decide +kernel) (by decide +kernel), zz_in 518 (by decide +kernel) (by decide +kernel), zz_in 1 (by decide +kernel) (by decide +kernel), zz_in 519 (by decide +kernel) (by decide +kernel)⟩, by decide +kernel⟩
theorem jl_L_84 : zz_KV RL 84 yX6_black cX6_black 3 (some .int) 2 := ⟨⟨zz_in 1073 (by decide +kernel) (by decide +kernel), zz_in 1074 (by decide +kernel) (by decide +kernel), zz_in 1075 (by decide +kernel) (by decide +kernel), zz_in 8 (by decide +kernel) (by decide +kernel), zz_in 1076 (by decide +kernel) (by decide +kernel)⟩, by decide +kernel⟩
theorem jl_L_85 : zz_KV RL 85 yX5_ahead cX5_ahead 5 (some .int) 3 := ⟨⟨zz_in 526 (by decide +kernel) (by decide +kernel), zz_in 527 (by decide +kernel) (by decide +kernel), zz_in 528 (by decide +kernel) (by decide +kernel), zz_in 1 (by decide +kernel) (by decide +kernel), zz_in 529 (by decide +kernel) (by decide +kernel)⟩, by decide +kernel⟩
theorem jl_L_88 : zz_KV RL 88 yX6_ahead cX6_ahead 4 (some .int) 3 := ⟨⟨zz_in 1077 (by decide +kernel) (by decide +kernel), zz_in 1078 (by decide +kernel) (by decide +kernel), zz_in 1079 (by decide +kernel) (by decide +kernel), zz_in 8 (by decide +kernel) (by decide +kernel), zz_in 1080 (by decide +kernel) (by decide +kernel)⟩, by decide +kernel⟩
theorem jl_L_89 : zz_KV RL 89 yX5_when cX5_when 3 (some .int) 1 := ⟨⟨zz_in 530 (by decide +kernel) (by decide +kernel), zz_in 531 (by decide +kernel) (by decide +kernel), zz_in 532 (by decide +kernel) (by decide +kernel), zz_in 1 (by decide +kernel) (by decide +kernel), zz_in 533 (by decide +kernel) (by decide +kernel)⟩, by decide +kernel⟩
theorem jl_L_92 : zz_KV RL 92 yX6_when cX6_when 3 (some .int) 1 := ⟨⟨zz_in 1081 (by decide +kernel) (by decide +kernel), zz_in 1082 (by decide +kernel) (by decide +kernel), zz_in 1083 (by decide +kernel) (by decide +kernel), zz_in 8 (by decide +kernel) (by decide +kernel), zz_in 1084 (by decide +kernel) (by decide +kernel)⟩, by decide +kernel⟩
theorem jl_L_93 : zz_KV RL 93 yX5_power cX5_power 4 (some .int) 3 := ⟨⟨zz_in 534 (by decide +kernel) (by decide +kernel), zz_in 535 (by decide +kernel) (by decide +kernel), zz_in 536 (by decide +kernel) (by decide +kernel), zz_in 1 (by decide +kernel) (by decide +kernel), zz_in 537 (by decide +kernel) (by decide +kernel)⟩, by decide +kernel⟩
theorem jl_L_96 : zz_KV RL 96 yX6_power cX6_power 4 (some .int) 3 := ⟨⟨zz_in 1085 (by decide +kernel) (by decide +kernel), zz_in 1086 (by decide +kernel) (by decide +kernel), zz_in 1087 (by decide +kernel) (by decide +kernel), zz_in 8 (by decide +kernel) (by decide +kernel), zz_in 1088 (by decide +kernel) (by decide +kernel)⟩, by decide +kernel⟩
theorem jl_L_97 : zz_KV RL 97 yX5_kind cX5_kind 4 (some .int) 3 := ⟨⟨zz_in 548 (by decide +kernel) (by decide +kernel), zz_in 549 (by decide +kernel) (by decide +kernel), zz_in 550 (by decide +kernel) (by decide +kernel), zz_in 1 (by decide +kernel) (by decide +kernel), zz_in 551 (by decide +kernel) (by decide +kernel)⟩, by decide +kernel⟩
theorem jl_L_100 : zz_KV RL 100 yX6_kind cX6_kind 4 (some .int) 3 := ⟨⟨zz_in 1105 (by decide +kernel) (by decide +kernel), zz_in 1106 (by decide +kernel) (by decide +kernel), zz_in 1107 (by decide +kernel) (by decide +kernel), zz_in 8 (by decide +kernel) (by decide +kernel), zz_in 1108 (by decide +kernel) (by decide +kernel)⟩, by decide +kernel⟩
theorem jl_L_101 : zz_KV RL 101 yX5_best cX5_best 4 (some .int) 3 := ⟨⟨zz_in 552 (by decide +kernel) (by decide +kernel), zz_in 553 (by decide +kernel) (by decide +kernel), zz_in 554 (by decide +kernel) (by decide +kernel), zz_in 1 (by decide +kernel) (by decide +kernel), zz_in 555 (by decide +kernel) (by decide +kernel)⟩, by decide +kernel⟩
theorem jl_L_104 : zz_KV RL 104 yX6_best cX6_best 5 (some .int) 3 := ⟨⟨zz_in 1109 (by decide +kernel) (by decide +kernel), zz_in 1110 (by decide +kernel) (by decide +kernel), zz_in 1111 (by decide +kernel) (by decide +kernel), zz_in 8 (by decide +kernel) (by decide +kernel), zz_in 1112 (by decide +kernel) (by decide +kernel)⟩, by decide +kernel⟩
theorem jl_L_105 : zz_KV RL 105 yX5_swap cX5_swap 8 (some .int) 2 := ⟨⟨zz_in 574 (by decide +kernel) (by decide +kernel), zz_in 575 (by decide +kernel) (by decide +kernel), zz_in 576 (by decide +kernel) (by decide +kernel), zz_in 1 (by decide +kernel) (by decide +kernel), zz_in 577 (by decide +kernel) (by decide +kernel)⟩, by decide +kernel⟩
theorem jl_L_108 : zz_KV RL 108 yX6_swap cX6_swap 5 (some .int) 2 := ⟨⟨zz_in 1117 (by decide +kernel) (by decide +kernel), zz_in 1118 (by decide +kernel) (by decide +kernel), zz_in 1119 (by decide +kernel) (by decide +kernel), zz_in 8 (by decide +kernel) (by decide +kernel), zz_in 1120 (by decide +kernel) (by decide +kernel)⟩, by decide +kernel⟩
theorem jl_L_109 : zz_KV RL 109 yX5_rest cX5_rest 7 (some .int) 2 := ⟨⟨zz_in 582 (by decide +kernel) (by decide +kernel), zz_in 583 (by decide +kernel) (by decide +kernel), zz_in 584 (by decide +kernel) (by decide +kernel), zz_in 1 (by decide +kernel) (by decide +kernel), zz_in 585 (by decide +kernel) (by decide +kernel)⟩, by decide +kernel⟩
theorem jl_L_112 : zz_KV RL 112 yX6_rest cX6_rest 4 (some .int) 2 := ⟨⟨zz_in 1121 (by decide +kernel) (by decide +kernel), zz_in 1122 (by decide +kernel) (by decide +kernel), zz_in 1123 (by decide +kernel) (by decide +kernel), zz_in 8 (by decide +kernel) (by decide +kernel), zz_in 1124 (by decide +kernel) (by decide +kernel)⟩, by decide +kernel⟩
theorem jl_L_113 : zz_KV RL 113 yX5_luck cX5_luck 12 (some .long) 4 := ⟨⟨zz_in 596 (by decide +kernel) (by decide +kernel), zz_in 597 (by decide +kernel) (by decide +kernel), zz_in 598 (by decide +kernel) (by decide +kernel), zz_in 1 (by decide +kernel) (by decide +kernel), zz_in 599 (by decide +kernel) (by decide +kernel)⟩, by decide +kernel⟩
theorem jl_L_117 : zz_KV RL 117 yX6_luck cX6_luck 5 (some .long) 4 := ⟨⟨zz_in 1125 (by decide +kernel) (by decide +kernel), zz_in 1126 (by decide +kernel) (by decide +kernel), zz_in 1127 (by decide +kernel) (by decide +kernel), zz_in 8 (by decide +kernel) (by decide +kernel), zz_in 1128 (by decide +kernel) (by decide +kernel)⟩, by decide +kernel⟩
theorem jl_L_118 : zz_KV RL 118 yX5_mean cX5_mean 11 (some .long) 3 := ⟨⟨zz_in 617 (by decide +kernel) (by decide +kernel), zz_in 618 (by decide +kernel) (by decide +kernel), zz_in 619 (by decide +kernel) (by decide +kernel), zz_in 1 (by decide +kernel) (by decide +kernel), zz_in 620 (by decide +kernel) (by decide +kernel)⟩, by decide +kernel⟩
theorem jl_L_122 : zz_KV RL 122 yX6_mean cX6_mean 4 (some .long) 3 := ⟨⟨zz_in 1142 (by decide +kernel) (by decide +kernel), zz_in 1143 (by decide +kernel) (by decide +kernel), zz_in 1144 (by decide +kernel) (by decide +kernel), zz_in 8 (by decide +kernel) (by decide +kernel), zz_in 1145 (by decide +kernel) (by decide +kernel)⟩, by decide +kernel⟩
theorem jl_L_123 : zz_KV RL 123 yX5_see cX5_see 4 (some .int) 3 := ⟨⟨zz_in 625 (by decide +kernel) (by decide +kernel), zz_in 626 (by decide +kernel) (by decide +kernel), zz_in 627 (by decide +kernel) (by decide +kernel), zz_in 1 (by decide +kernel) (by decide +kernel), zz_in 628 (by decide +kernel) (by decide +kernel)⟩, by decide +kernel⟩
theorem jl_L_126 : zz_KV RL 126 yX6_see cX6_see 5 (some .int) 3 := ⟨⟨zz_in 1146 (by decide +kernel) (by decide +kernel), zz_in 1147 (by decide +kernel) (by decide +kernel), zz_in 1148 (by decide +kernel) (by decide +kernel), zz_in 8 (by decide +kernel) (by decide +kernel), zz_in 1149 (by decide +kernel) (by decide +kernel)⟩, by decide +kernel⟩
theorem jl_L_127 : zz_KV RL 127 yX5_forget cX5_forget 3 (some .int) 1 := ⟨⟨zz_in 633 (by decide +kernel) (by decide +kernel), zz_in 634 (by decide +kernel) (by decide +kernel), zz_in 635 (by decide +kernel) (by decide +kernel), zz_in 1 (by decide +kernel) (by decide +kernel), zz_in 636 (by decide +kernel) (by decide +kernel)⟩, by decide +kernel⟩
theorem jl_L_130 : zz_KV RL 130 yX6_forget cX6_forget 2 (some .int) 1 := ⟨⟨zz_in 1151 (by decide +kernel) (by decide +kernel), zz_in 1152 (by decide +kernel) (by decide +kernel), zz_in 1153 (by decide +kernel) (by decide +kernel), zz_in 8 (by decide +kernel) (by decide +kernel), zz_in 1154 (by decide +kernel) (by decide +kernel)⟩, by decide +kernel⟩
theorem jl_L_131 : zz_KV RL 131 yX5_kinds cX5_kinds 2 (some .int) 1 := ⟨⟨zz_in 637 (by decide +kernel) (by decide +kernel), zz_in 638 (by decide +kernel) (by decide +kernel), zz_in 639 (by decide +kernel) (by decide +kernel), zz_in 1 (by decide +kernel) (by decide +kernel), zz_in 640 (by decide +kernel) (by decide +kernel)⟩, by decide +kernel⟩
theorem jl_L_134 : zz_KV RL 134 yX6_kinds cX6_kinds 2 (some .int) 1 := ⟨⟨zz_in 1155 (by decide +kernel) (by decide +kernel), zz_in 1156 (by decide +kernel) (by decide +kernel), zz_in 1157 (by decide +kernel) (by decide +kernel), zz_in 8 (by decide +kernel) (by decide +kernel), zz_in 1158 (by decide +kernel) (by decide +kernel)⟩, by decide +kernel⟩
theorem jl_L_135 : zz_KV RL 135 yX5_powers cX5_powers 2 (some .int) 1 := ⟨⟨zz_in 661 (by decide +kernel) (by decide +kernel), zz_in 662 (by decide +kernel) (by decide +kernel), zz_in 663 (by decide +kernel) (by decide +kernel), zz_in 1 (by decide +kernel) (by decide +kernel), zz_in 664 (by decide +kernel) (by decide +kernel)⟩, by decide +kernel⟩
theorem jl_L_138 : zz_KV RL 138 yX6_powers cX6_powers 2 (some .int) 1 := ⟨⟨zz_in 1167 (by decide +kernel) (by decide +kernel), zz_in 1168 (by decide +kernel) (by decide +kernel), zz_in 1169 (by decide +kernel) (by decide +kernel), zz_in 8 (by decide +kernel) (by decide +kernel), zz_in 1170 (by decide +kernel) (by decide +kernel)⟩, by decide +kernel⟩
theorem jl_L_139 : zz_KV RL 139 yX5_ask cX5_ask 8 (some .int) 2 := ⟨⟨zz_in 665 (by decide +kernel) (by decide +kernel), zz_in 666 (by decide +kernel) (by decide +kernel), zz_in 667 (by decide +kernel) (by decide +kernel), zz_in 1 (by decide +kernel) (by decide +kernel), zz_in 668 (by decide +kernel) (by decide +kernel)⟩, by decide +kernel⟩
theorem jl_L_142 : zz_KV RL 142 yX6_ask cX6_ask 9 (some .int) 2 := ⟨⟨zz_in 1171 (by decide +kernel) (by decide +kernel), zz_in 1172 (by decide +kernel) (by decide +kernel), zz_in 1173 (by decide +kernel) (by decide +kernel), zz_in 8 (by decide +kernel) (by decide +kernel), zz_in 1174 (by decide +kernel) (by decide +kernel)⟩, by decide +kernel⟩
theorem jl_L_143 : zz_KV RL 143 yX5_drift cX5_drift 8 (some .int) 3 := ⟨⟨zz_in 673 (by decide +kernel) (by decide +kernel), zz_in 674 (by decide +kernel) (by decide +kernel), zz_in 675 (by decide +kernel) (by decide +kernel), zz_in 1 (by decide +kernel) (by decide +kernel), zz_in 676 (by decide +kernel) (by decide +kernel)⟩, by decide +kernel⟩
theorem jl_L_146 : zz_KV RL 146 yX6_drift cX6_drift 8 (some .int) 3 := ⟨⟨zz_in 1175 (by decide +kernel) (by decide +kernel), zz_in 1176 (by decide +kernel) (by decide +kernel), zz_in 1177 (by decide +kernel) (by decide +kernel), zz_in 8 (by decide +kernel) (by decide +kernel), zz_in 1178 (by decide +kernel) (by decide +kernel)⟩, by decide +kernel⟩
theorem jl_L_147 : zz_KV RL 147 yX5_keep cX5_keep 3 (some .int) 1 := ⟨⟨zz_in 684 (by decide +kernel) (by decide +kernel), zz_in 685 (by decide +kernel) (by decide +kernel), zz_in 686 (by decide +kernel) (by decide +kernel), zz_in 1 (by decide +kernel) (by decide +kernel), zz_in 687 (by decide +kernel) (by decide +kernel)⟩, by decide +kernel⟩
theorem jl_L_150 : zz_KV RL 150 yX6_keep cX6_keep 3 (some .int) 1 := ⟨⟨zz_in 1180 (by decide +kernel) (by decide +kernel), zz_in 1181 (by decide +kernel) (by decide +kernel), zz_in 1182 (by decide +kernel) (by decide +kernel), zz_in 8 (by decide +kernel) (by decide +kernel), zz_in 1183 (by decide +kernel) (by decide +kernel)⟩, by decide +kernel⟩
theorem jl_L_151 : zz_KV RL 151 yX5_back cX5_back 2 (some .int) 1 := ⟨⟨zz_in 688 (by decide +kernel) (by decide +kernel), zz_in 689 (by decide +kernel) (by decide +kernel), zz_in 690 (by decide +kernel) (by decide +kernel), zz_in 1 (by decide +kernel) (by decide +kernel), zz_in 691 (by decide +kernel) (by decide +kernel)⟩, by decide +kernel⟩
theorem jl_L_154 : zz_KV RL 154 yX6_back cX6_back 2 (some .int) 1 := ⟨⟨zz_in 1188 (by decide +kernel) (by decide +kernel), zz_in 1189 (by decide +kernel) (by decide +kernel), zz_in 1190 (by decide +kernel) (by decide +kernel), zz_in 8 (by decide +kernel) (by decide +kernel), zz_in 1191 (by decide +kernel) (by decide +kernel)⟩, by decide +kernel⟩
theorem jl_L_155 : zz_KV RL 155 yX5_sheet cX5_sheet 4 (some .int) 3 := ⟨⟨zz_in 692 (by decide +kernel) (by decide +kernel), zz_in 693 (by decide +kernel) (by decide +kernel), zz_in 694 (by decide +kernel) (by decide +kernel), zz_in 1 (by decide +kernel) (by decide +kernel), zz_in 695 (by decide +kernel) (by decide +kernel)⟩, by decide +kernel⟩
theorem jl_L_158 : zz_KV RL 158 yX6_sheet cX6_sheet 5 (some .int) 3 := ⟨⟨zz_in 1192 (by decide +kernel) (by decide +kernel), zz_in 1193 (by decide +kernel) (by decide +kernel), zz_in 1194 (by decide +kernel) (by decide +kernel), zz_in 8 (by decide +kernel) (by decide +kernel), zz_in 1195 (by decide +kernel) (by decide +kernel)⟩, by decide +kernel⟩
theorem jl_L_159 : zz_KV RL 159 yX5_lay cX5_lay 6 (some .int) 3 := ⟨⟨zz_in 704 (by decide +kernel) (by decide +kernel), zz_in 705 (by decide +kernel) (by decide +kernel), zz_in 706 (by decide +kernel) (by decide +kernel), zz_in 1 (by decide +kernel) (by decide +kernel), zz_in 707 (by decide +kernel) (by decide +kernel)⟩, by decide +kernel⟩
theorem jl_L_162 : zz_KV RL 162 yX6_lay cX6_lay 4 (some .int) 3 := ⟨⟨zz_in 1199 (by decide +kernel) (by decide +kernel), zz_in 1200 (by decide +kernel) (by decide +kernel), zz_in 1201 (by decide +kernel) (by decide +kernel), zz_in 8 (by decide +kernel) (by decide +kernel), zz_in 1202 (by decide +kernel) (by decide +kernel)⟩, by decide +kernel⟩
theorem jl_L_163 : zz_KV RL 163 yX5_read cX5_read 9 (some .int) 4 := ⟨⟨zz_in 716 (by decide +kernel) (by decide +kernel), zz_in 717 (by decide +kernel) (by decide +kernel), zz_in 718 (by decide +kernel) (by decide +kernel), zz_in 1 (by decide +kernel) (by decide +kernel), zz_in 719 (by decide +kernel) (by decide +kernel)⟩, by decide +kernel⟩
theorem jl_L_167 : zz_KV RL 167 yX6_read cX6_read 11 (some .int) 4 := ⟨⟨zz_in 1203 (by decide +kernel) (by decide +kernel), zz_in 1204 (by decide +kernel) (by decide +kernel), zz_in 1205 (by decide +kernel) (by decide +kernel), zz_in 8 (by decide +kernel) (by decide +kernel), zz_in 1206 (by decide +kernel) (by decide +kernel)⟩, by decide +kernel⟩
theorem jl_L_168 : zz_KV RL 168 yX5_torn cX5_torn 1 (some .int) 0 := ⟨⟨zz_in 725 (by decide +kernel) (by decide +kernel), zz_in 726 (by decide +kernel) (by decide +kernel), zz_in 727 (by decide +kernel) (by decide +kernel), zz_in 1 (by decide +kernel) (by decide +kernel), zz_in 728 (by decide +kernel) (by decide +kernel)⟩, by decide +kernel⟩
theorem jl_L_171 : zz_KV RL 171 yX6_torn cX6_torn 1 (some .int) 0 := ⟨⟨zz_in 1209 (by decide +kernel) (by decide +kernel), zz_in 1210 (by decide +kernel) (by decide +kernel), zz_in 1211 (by decide +kernel) (by decide +kernel), zz_in 8 (by decide +kernel) (by decide +kernel), zz_in 1212 (by decide +kernel) (by decide +kernel)⟩, by decide +kernel⟩
theorem jl_L_172 : zz_KV RL 172 yX5_count cX5_count 2 (some .int) 1 := ⟨⟨zz_in 729 (by decide +kernel) (by decide +kernel), zz_in 730 (by decide +kernel) (by decide +kernel), zz_in 731 (by decide +kernel) (by decide +kernel), zz_in 1 (by decide +kernel) (by decide +kernel), zz_in 732 (by decide +kernel) (by decide +kernel)⟩, by decide +kernel⟩
theorem jl_L_175 : zz_KV RL 175 yX6_count cX6_count 4 (some .int) 1 := ⟨⟨zz_in 1213 (by decide +kernel) (by decide +kernel), zz_in 1214 (by decide +kernel) (by decide +kernel), zz_in 1215 (by decide +kernel) (by decide +kernel), zz_in 8 (by decide +kernel) (by decide +kernel), zz_in 1216 (by decide +kernel) (by decide +kernel)⟩, by decide +kernel⟩
section ZL
variable {p : Program} {l : Launch} {e : Env} {s : State} {m : MethodId} {below : List Frame} {meth : Method} {c : Code} {b L : Nat} {xs : Nat → Int32} {G : zc_G} {fx fm : Nat → Nat} {σ τ : zz_T} {S : zSt} {i : Nat}
theorem zlw_feed (C : zl_C p s m c b L xs G) (hs : sOK S) (X : RX σ S) (M : RM τ S) (hi : i + 5 ≤ L) (K : ∀ (σ2 τ2 : zz_T) (S2 : zSt), sOK S2 → RX σ2 S2 → RM τ2 S2 → zl_V p l e s m below meth c b G fx fm σ2 τ2 i 1453 []) : zl_V p l e s m below meth c b G fx fm σ τ i 204 [] := by
  obtain ⟨r, S2, ok, px, pm⟩ := b_feed hs X M (xs (i + 1))
  refine zc_aload_n C.1 dL_law_204 2 rfl rfl rfl ?_
  refine zl_arg C (k := 1) (by omega) dL_law_205 dL_law_206 dL_law_207 rfl dL_law_208 dL_law_209 ?_
  refine zl_x C [.int (xs (i + 1))] (fun hJ => kX5_feed l hJ _ rfl px) jl_L_13 ⟨rfl, rfl⟩ ⟨(Nat.le_of_ble_eq_true rfl), (Nat.le_of_ble_eq_true rfl)⟩ rfl rfl rfl (Nat.le_of_ble_eq_true rfl) dL_law_210 rfl (fun rx σ1 hx => ?_)
  obtain ⟨ex, hx⟩ := hx
  refine zc_aload_n C.1 dL_law_213 1 rfl rfl rfl ?_
  refine zl_arg C (k := 1) (by omega) dL_law_214 dL_law_215 dL_law_216 rfl dL_law_217 dL_law_218 ?_
  refine zl_m C [.int (xs (i + 1))] (fun hJ => kX6_feed l hJ _ rfl pm) jl_L_17 ⟨rfl, rfl⟩ ⟨(Nat.le_of_ble_eq_true rfl), (Nat.le_of_ble_eq_true rfl)⟩ rfl rfl rfl (Nat.le_of_ble_eq_true rfl) dL_law_219 rfl (fun rm τ1 hm => ?_)
  obtain ⟨em, hm⟩ := hm
  exact zc_icmp_eq (tgt := 1453) C.1 dL_law_222 (by decide) rfl (fun _ => K σ1 τ1 S2 ok hx hm) (fun h => absurd (by rw [ex, em]) h)
theorem zlw_end (C : zl_C p s m c b L xs G) (hs : sOK S) (X : RX σ S) (M : RM τ S) (hi : i + 5 ≤ L) (K : ∀ (σ2 τ2 : zz_T) (S2 : zSt), sOK S2 → RX σ2 S2 → RM τ2 S2 → zl_V p l e s m below meth c b G fx fm σ2 τ2 i 1453 []) : zl_V p l e s m below meth c b G fx fm σ τ i 227 [] := by
  obtain ⟨r, S2, ok, px, pm⟩ := b_end hs X M (xs (i + 1))
  refine zc_aload_n C.1 dL_law_227 2 rfl rfl rfl ?_
  refine zl_arg C (k := 1) (by omega) dL_law_228 dL_law_229 dL_law_230 rfl dL_law_231 dL_law_232 ?_
  refine zl_x C [.int (xs (i + 1))] (fun hJ => kX5_end l hJ _ rfl px) jl_L_18 ⟨rfl, rfl⟩ ⟨(Nat.le_of_ble_eq_true rfl), (Nat.le_of_ble_eq_true rfl)⟩ rfl rfl rfl (Nat.le_of_ble_eq_true rfl) dL_law_233 rfl (fun rx σ1 hx => ?_)
  obtain ⟨ex, hx⟩ := hx
  refine zc_aload_n C.1 dL_law_236 1 rfl rfl rfl ?_
  refine zl_arg C (k := 1) (by omega) dL_law_237 dL_law_238 dL_law_239 rfl dL_law_240 dL_law_241 ?_
  refine zl_m C [.int (xs (i + 1))] (fun hJ => kX6_end l hJ _ rfl pm) jl_L_21 ⟨rfl, rfl⟩ ⟨(Nat.le_of_ble_eq_true rfl), (Nat.le_of_ble_eq_true rfl)⟩ rfl rfl rfl (Nat.le_of_ble_eq_true rfl) dL_law_242 rfl (fun rm τ1 hm => ?_)
  obtain ⟨em, hm⟩ := hm
  exact zc_icmp_eq (tgt := 1453) C.1 dL_law_245 (by decide) rfl (fun _ => K σ1 τ1 S2 ok hx hm) (fun h => absurd (by rw [ex, em]) h)
theorem zlw_text (C : zl_C p s m c b L xs G) (hs : sOK S) (X : RX σ S) (M : RM τ S) (hi : i + 5 ≤ L) (K : ∀ (σ2 τ2 : zz_T) (S2 : zSt), sOK S2 → RX σ2 S2 → RM τ2 S2 → zl_V p l e s m below meth c b G fx fm σ2 τ2 i 1453 []) : zl_V p l e s m below meth c b G fx fm σ τ i 250 [] := by
  obtain ⟨r, S2, ok, px, pm⟩ := b_text hs X M 
  refine zc_aload_n C.1 dL_law_250 2 rfl rfl rfl ?_
  refine zl_x C [] (fun hJ => kX5_text l hJ  rfl px) jl_L_22 ⟨rfl, rfl⟩ ⟨(Nat.le_of_ble_eq_true rfl), (Nat.le_of_ble_eq_true rfl)⟩ rfl rfl rfl (Nat.le_of_ble_eq_true rfl) dL_law_251 rfl (fun rx σ1 hx => ?_)
  obtain ⟨ex, hx⟩ := hx
  refine zc_aload_n C.1 dL_law_254 1 rfl rfl rfl ?_
  refine zl_m C [] (fun hJ => kX6_text l hJ  rfl pm) jl_L_26 ⟨rfl, rfl⟩ ⟨(Nat.le_of_ble_eq_true rfl), (Nat.le_of_ble_eq_true rfl)⟩ rfl rfl rfl (Nat.le_of_ble_eq_true rfl) dL_law_255 rfl (fun rm τ1 hm => ?_)
  obtain ⟨em, hm⟩ := hm
  exact zc_icmp_eq (tgt := 1453) C.1 dL_law_258 (by decide) rfl (fun _ => K σ1 τ1 S2 ok hx hm) (fun h => absurd (by rw [ex, em]) h)
theorem zlw_fault (C : zl_C p s m c b L xs G) (hs : sOK S) (X : RX σ S) (M : RM τ S) (hi : i + 5 ≤ L) (K : ∀ (σ2 τ2 : zz_T) (S2 : zSt), sOK S2 → RX σ2 S2 → RM τ2 S2 → zl_V p l e s m below meth c b G fx fm σ2 τ2 i 1453 []) : zl_V p l e s m below meth c b G fx fm σ τ i 263 [] := by
  obtain ⟨r, S2, ok, px, pm⟩ := b_fault hs X M 
  refine zc_aload_n C.1 dL_law_263 2 rfl rfl rfl ?_
  refine zl_x C [] (fun hJ => kX5_fault l hJ  rfl px) jl_L_27 ⟨rfl, rfl⟩ ⟨(Nat.le_of_ble_eq_true rfl), (Nat.le_of_ble_eq_true rfl)⟩ rfl rfl rfl (Nat.le_of_ble_eq_true rfl) dL_law_264 rfl (fun rx σ1 hx => ?_)
  obtain ⟨ex, hx⟩ := hx
  refine zc_aload_n C.1 dL_law_267 1 rfl rfl rfl ?_
  refine zl_m C [] (fun hJ => kX6_fault l hJ  rfl pm) jl_L_30 ⟨rfl, rfl⟩ ⟨(Nat.le_of_ble_eq_true rfl), (Nat.le_of_ble_eq_true rfl)⟩ rfl rfl rfl (Nat.le_of_ble_eq_true rfl) dL_law_268 rfl (fun rm τ1 hm => ?_)
  obtain ⟨em, hm⟩ := hm
  exact zc_icmp_eq (tgt := 1453) C.1 dL_law_271 (by decide) rfl (fun _ => K σ1 τ1 S2 ok hx hm) (fun h => absurd (by rw [ex, em]) h)
theorem zlw_rule (C : zl_C p s m c b L xs G) (hs : sOK S) (X : RX σ S) (M : RM τ S) (hi : i + 5 ≤ L) (K : ∀ (σ2 τ2 : zz_T) (S2 : zSt), sOK S2 → RX σ2 S2 → RM τ2 S2 → zl_V p l e s m below meth c b G fx fm σ2 τ2 i 1453 []) : zl_V p l e s m below meth c b G fx fm σ τ i 276 [] := by
  obtain ⟨r, S2, ok, px, pm⟩ := b_rule hs X M (xs (i + 1))
  refine zc_aload_n C.1 dL_law_276 2 rfl rfl rfl ?_
  refine zl_arg C (k := 1) (by omega) dL_law_277 dL_law_278 dL_law_279 rfl dL_law_280 dL_law_281 ?_
  refine zl_x C [.int (xs (i + 1))] (fun hJ => kX5_rule l hJ _ rfl px) jl_L_31 ⟨rfl, rfl⟩ ⟨(Nat.le_of_ble_eq_true rfl), (Nat.le_of_ble_eq_true rfl)⟩ rfl rfl rfl (Nat.le_of_ble_eq_true rfl) dL_law_282 rfl (fun rx σ1 hx => ?_)
  obtain ⟨ex, hx⟩ := hx
  refine zc_aload_n C.1 dL_law_285 1 rfl rfl rfl ?_
  refine zl_arg C (k := 1) (by omega) dL_law_286 dL_law_287 dL_law_288 rfl dL_law_289 dL_law_290 ?_
  refine zl_m C [.int (xs (i + 1))] (fun hJ => kX6_rule l hJ _ rfl pm) jl_L_34 ⟨rfl, rfl⟩ ⟨(Nat.le_of_ble_eq_true rfl), (Nat.le_of_ble_eq_true rfl)⟩ rfl rfl rfl (Nat.le_of_ble_eq_true rfl) dL_law_291 rfl (fun rm τ1 hm => ?_)
  obtain ⟨em, hm⟩ := hm
  exact zc_icmp_eq (tgt := 1453) C.1 dL_law_294 (by decide) rfl (fun _ => K σ1 τ1 S2 ok hx hm) (fun h => absurd (by rw [ex, em]) h)
theorem zlw_head (C : zl_C p s m c b L xs G) (hs : sOK S) (X : RX σ S) (M : RM τ S) (hi : i + 5 ≤ L) (K : ∀ (σ2 τ2 : zz_T) (S2 : zSt), sOK S2 → RX σ2 S2 → RM τ2 S2 → zl_V p l e s m below meth c b G fx fm σ2 τ2 i 1453 []) : zl_V p l e s m below meth c b G fx fm σ τ i 299 [] := by
  obtain ⟨r, S2, ok, px, pm⟩ := b_head hs X M (xs (i + 1)) (xs (i + 2))
  refine zc_aload_n C.1 dL_law_299 2 rfl rfl rfl ?_
  refine zl_arg C (k := 1) (by omega) dL_law_300 dL_law_301 dL_law_302 rfl dL_law_303 dL_law_304 ?_
  refine zl_arg C (k := 2) (by omega) dL_law_305 dL_law_306 dL_law_307 rfl dL_law_308 dL_law_309 ?_
  refine zl_x C [.int (xs (i + 1)), .int (xs (i + 2))] (fun hJ => kX5_head l hJ _ _ rfl px) jl_L_35 ⟨rfl, rfl⟩ ⟨(Nat.le_of_ble_eq_true rfl), (Nat.le_of_ble_eq_true rfl)⟩ rfl rfl rfl (Nat.le_of_ble_eq_true rfl) dL_law_310 rfl (fun rx σ1 hx => ?_)
  obtain ⟨ex, hx⟩ := hx
  refine zc_aload_n C.1 dL_law_313 1 rfl rfl rfl ?_
  refine zl_arg C (k := 1) (by omega) dL_law_314 dL_law_315 dL_law_316 rfl dL_law_317 dL_law_318 ?_
  refine zl_arg C (k := 2) (by omega) dL_law_319 dL_law_320 dL_law_321 rfl dL_law_322 dL_law_323 ?_
  refine zl_m C [.int (xs (i + 1)), .int (xs (i + 2))] (fun hJ => kX6_head l hJ _ _ rfl pm) jl_L_39 ⟨rfl, rfl⟩ ⟨(Nat.le_of_ble_eq_true rfl), (Nat.le_of_ble_eq_true rfl)⟩ rfl rfl rfl (Nat.le_of_ble_eq_true rfl) dL_law_324 rfl (fun rm τ1 hm => ?_)
  obtain ⟨em, hm⟩ := hm
  exact zc_icmp_eq (tgt := 1453) C.1 dL_law_327 (by decide) rfl (fun _ => K σ1 τ1 S2 ok hx hm) (fun h => absurd (by rw [ex, em]) h)
theorem zlw_dot (C : zl_C p s m c b L xs G) (hs : sOK S) (X : RX σ S) (M : RM τ S) (hi : i + 5 ≤ L) (K : ∀ (σ2 τ2 : zz_T) (S2 : zSt), sOK S2 → RX σ2 S2 → RM τ2 S2 → zl_V p l e s m below meth c b G fx fm σ2 τ2 i 1453 []) : zl_V p l e s m below meth c b G fx fm σ τ i 332 [] := by
  obtain ⟨r, S2, ok, px, pm⟩ := b_dot hs X M (xs (i + 1)) (xs (i + 2)) (xs (i + 3))
  refine zc_aload_n C.1 dL_law_332 2 rfl rfl rfl ?_
  refine zl_arg C (k := 1) (by omega) dL_law_333 dL_law_334 dL_law_335 rfl dL_law_336 dL_law_337 ?_
  refine zl_arg C (k := 2) (by omega) dL_law_338 dL_law_339 dL_law_340 rfl dL_law_341 dL_law_342 ?_
  refine zl_arg C (k := 3) (by omega) dL_law_343 dL_law_344 dL_law_345 rfl dL_law_346 dL_law_347 ?_
  refine zl_x C [.int (xs (i + 1)), .int (xs (i + 2)), .int (xs (i + 3))] (fun hJ => kX5_dot l hJ _ _ _ rfl px) jl_L_40 ⟨rfl, rfl⟩ ⟨(Nat.le_of_ble_eq_true rfl), (Nat.le_of_ble_eq_true rfl)⟩ rfl rfl rfl (Nat.le_of_ble_eq_true rfl) dL_law_348 rfl (fun rx σ1 hx => ?_)
  obtain ⟨ex, hx⟩ := hx
  refine zc_aload_n C.1 dL_law_351 1 rfl rfl rfl ?_
  refine zl_arg C (k := 1) (by omega) dL_law_352 dL_law_353 dL_law_354 rfl dL_law_355 dL_law_356 ?_
  refine zl_arg C (k := 2) (by omega) dL_law_357 dL_law_358 dL_law_359 rfl dL_law_360 dL_law_361 ?_
  refine zl_arg C (k := 3) (by omega) dL_law_362 dL_law_363 dL_law_364 rfl dL_law_365 dL_law_366 ?_
  refine zl_m C [.int (xs (i + 1)), .int (xs (i + 2)), .int (xs (i + 3))] (fun hJ => kX6_dot l hJ _ _ _ rfl pm) jl_L_44 ⟨rfl, rfl⟩ ⟨(Nat.le_of_ble_eq_true rfl), (Nat.le_of_ble_eq_true rfl)⟩ rfl rfl rfl (Nat.le_of_ble_eq_true rfl) dL_law_367 rfl (fun rm τ1 hm => ?_)
  obtain ⟨em, hm⟩ := hm
  exact zc_icmp_eq (tgt := 1453) C.1 dL_law_370 (by decide) rfl (fun _ => K σ1 τ1 S2 ok hx hm) (fun h => absurd (by rw [ex, em]) h)
theorem zlw_line (C : zl_C p s m c b L xs G) (hs : sOK S) (X : RX σ S) (M : RM τ S) (hi : i + 5 ≤ L) (K : ∀ (σ2 τ2 : zz_T) (S2 : zSt), sOK S2 → RX σ2 S2 → RM τ2 S2 → zl_V p l e s m below meth c b G fx fm σ2 τ2 i 1453 []) : zl_V p l e s m below meth c b G fx fm σ τ i 375 [] := by
  obtain ⟨r, S2, ok, px, pm⟩ := b_line hs X M (xs (i + 1))
  refine zc_aload_n C.1 dL_law_375 2 rfl rfl rfl ?_
  refine zl_arg C (k := 1) (by omega) dL_law_376 dL_law_377 dL_law_378 rfl dL_law_379 dL_law_380 ?_
  refine zl_x C [.int (xs (i + 1))] (fun hJ => kX5_line l hJ _ rfl px) jl_L_45 ⟨rfl, rfl⟩ ⟨(Nat.le_of_ble_eq_true rfl), (Nat.le_of_ble_eq_true rfl)⟩ rfl rfl rfl (Nat.le_of_ble_eq_true rfl) dL_law_381 rfl (fun rx σ1 hx => ?_)
  obtain ⟨ex, hx⟩ := hx
  refine zc_aload_n C.1 dL_law_384 1 rfl rfl rfl ?_
  refine zl_arg C (k := 1) (by omega) dL_law_385 dL_law_386 dL_law_387 rfl dL_law_388 dL_law_389 ?_
  refine zl_m C [.int (xs (i + 1))] (fun hJ => kX6_line l hJ _ rfl pm) jl_L_48 ⟨rfl, rfl⟩ ⟨(Nat.le_of_ble_eq_true rfl), (Nat.le_of_ble_eq_true rfl)⟩ rfl rfl rfl (Nat.le_of_ble_eq_true rfl) dL_law_390 rfl (fun rm τ1 hm => ?_)
  obtain ⟨em, hm⟩ := hm
  exact zc_icmp_eq (tgt := 1453) C.1 dL_law_393 (by decide) rfl (fun _ => K σ1 τ1 S2 ok hx hm) (fun h => absurd (by rw [ex, em]) h)
theorem zlw_alter (C : zl_C p s m c b L xs G) (hs : sOK S) (X : RX σ S) (M : RM τ S) (hi : i + 5 ≤ L) (K : ∀ (σ2 τ2 : zz_T) (S2 : zSt), sOK S2 → RX σ2 S2 → RM τ2 S2 → zl_V p l e s m below meth c b G fx fm σ2 τ2 i 1453 []) : zl_V p l e s m below meth c b G fx fm σ τ i 398 [] := by
  obtain ⟨r, S2, ok, px, pm⟩ := b_alter hs X M (xs (i + 1)) (xs (i + 2)) (xs (i + 3))
  refine zc_aload_n C.1 dL_law_398 2 rfl rfl rfl ?_
  refine zl_arg C (k := 1) (by omega) dL_law_399 dL_law_400 dL_law_401 rfl dL_law_402 dL_law_403 ?_
  refine zl_arg C (k := 2) (by omega) dL_law_404 dL_law_405 dL_law_406 rfl dL_law_407 dL_law_408 ?_
  refine zl_arg C (k := 3) (by omega) dL_law_409 dL_law_410 dL_law_411 rfl dL_law_412 dL_law_413 ?_
  refine zl_x C [.int (xs (i + 1)), .int (xs (i + 2)), .int (xs (i + 3))] (fun hJ => kX5_alter l hJ _ _ _ rfl px) jl_L_49 ⟨rfl, rfl⟩ ⟨(Nat.le_of_ble_eq_true rfl), (Nat.le_of_ble_eq_true rfl)⟩ rfl rfl rfl (Nat.le_of_ble_eq_true rfl) dL_law_414 rfl (fun rx σ1 hx => ?_)
  obtain ⟨ex, hx⟩ := hx
  refine zc_aload_n C.1 dL_law_417 1 rfl rfl rfl ?_
  refine zl_arg C (k := 1) (by omega) dL_law_418 dL_law_419 dL_law_420 rfl dL_law_421 dL_law_422 ?_
  refine zl_arg C (k := 2) (by omega) dL_law_423 dL_law_424 dL_law_425 rfl dL_law_426 dL_law_427 ?_
  refine zl_arg C (k := 3) (by omega) dL_law_428 dL_law_429 dL_law_430 rfl dL_law_431 dL_law_432 ?_
  refine zl_m C [.int (xs (i + 1)), .int (xs (i + 2)), .int (xs (i + 3))] (fun hJ => kX6_alter l hJ _ _ _ rfl pm) jl_L_52 ⟨rfl, rfl⟩ ⟨(Nat.le_of_ble_eq_true rfl), (Nat.le_of_ble_eq_true rfl)⟩ rfl rfl rfl (Nat.le_of_ble_eq_true rfl) dL_law_433 rfl (fun rm τ1 hm => ?_)
  obtain ⟨em, hm⟩ := hm
  exact zc_icmp_eq (tgt := 1453) C.1 dL_law_436 (by decide) rfl (fun _ => K σ1 τ1 S2 ok hx hm) (fun h => absurd (by rw [ex, em]) h)
theorem zlw_tell (C : zl_C p s m c b L xs G) (hs : sOK S) (X : RX σ S) (M : RM τ S) (hi : i + 5 ≤ L) (K : ∀ (σ2 τ2 : zz_T) (S2 : zSt), sOK S2 → RX σ2 S2 → RM τ2 S2 → zl_V p l e s m below meth c b G fx fm σ2 τ2 i 1453 []) : zl_V p l e s m below meth c b G fx fm σ τ i 441 [] := by
  obtain ⟨r, S2, ok, px, pm⟩ := b_tell hs X M (xs (i + 1)) (xs (i + 2))
  refine zc_aload_n C.1 dL_law_441 2 rfl rfl rfl ?_
  refine zl_arg C (k := 1) (by omega) dL_law_442 dL_law_443 dL_law_444 rfl dL_law_445 dL_law_446 ?_
  refine zl_arg C (k := 2) (by omega) dL_law_447 dL_law_448 dL_law_449 rfl dL_law_450 dL_law_451 ?_
  refine zl_x C [.int (xs (i + 1)), .int (xs (i + 2))] (fun hJ => kX5_tell l hJ _ _ rfl px) jl_L_53 ⟨rfl, rfl⟩ ⟨(Nat.le_of_ble_eq_true rfl), (Nat.le_of_ble_eq_true rfl)⟩ rfl rfl rfl (Nat.le_of_ble_eq_true rfl) dL_law_452 rfl (fun rx σ1 hx => ?_)
  obtain ⟨ex, hx⟩ := hx
  refine zc_aload_n C.1 dL_law_455 1 rfl rfl rfl ?_
  refine zl_arg C (k := 1) (by omega) dL_law_456 dL_law_457 dL_law_458 rfl dL_law_459 dL_law_460 ?_
  refine zl_arg C (k := 2) (by omega) dL_law_461 dL_law_462 dL_law_463 rfl dL_law_464 dL_law_465 ?_
  refine zl_m C [.int (xs (i + 1)), .int (xs (i + 2))] (fun hJ => kX6_tell l hJ _ _ rfl pm) jl_L_56 ⟨rfl, rfl⟩ ⟨(Nat.le_of_ble_eq_true rfl), (Nat.le_of_ble_eq_true rfl)⟩ rfl rfl rfl (Nat.le_of_ble_eq_true rfl) dL_law_466 rfl (fun rm τ1 hm => ?_)
  obtain ⟨em, hm⟩ := hm
  exact zc_icmp_eq (tgt := 1453) C.1 dL_law_469 (by decide) rfl (fun _ => K σ1 τ1 S2 ok hx hm) (fun h => absurd (by rw [ex, em]) h)
theorem zlw_warm (C : zl_C p s m c b L xs G) (hs : sOK S) (X : RX σ S) (M : RM τ S) (hi : i + 5 ≤ L) (K : ∀ (σ2 τ2 : zz_T) (S2 : zSt), sOK S2 → RX σ2 S2 → RM τ2 S2 → zl_V p l e s m below meth c b G fx fm σ2 τ2 i 1453 []) : zl_V p l e s m below meth c b G fx fm σ τ i 474 [] := by
  obtain ⟨r, S2, ok, px, pm⟩ := b_warm hs X M (xs (i + 1)) (xs (i + 2)) (xs (i + 3))
  refine zc_aload_n C.1 dL_law_474 2 rfl rfl rfl ?_
  refine zl_arg C (k := 1) (by omega) dL_law_475 dL_law_476 dL_law_477 rfl dL_law_478 dL_law_479 ?_
  refine zl_arg C (k := 2) (by omega) dL_law_480 dL_law_481 dL_law_482 rfl dL_law_483 dL_law_484 ?_
  refine zl_arg C (k := 3) (by omega) dL_law_485 dL_law_486 dL_law_487 rfl dL_law_488 dL_law_489 ?_
  refine zl_x C [.int (xs (i + 1)), .int (xs (i + 2)), .int (xs (i + 3))] (fun hJ => kX5_warm l hJ _ _ _ rfl px) jl_L_57 ⟨rfl, rfl⟩ ⟨(Nat.le_of_ble_eq_true rfl), (Nat.le_of_ble_eq_true rfl)⟩ rfl rfl rfl (Nat.le_of_ble_eq_true rfl) dL_law_490 rfl (fun rx σ1 hx => ?_)
  obtain ⟨ex, hx⟩ := hx
  refine zc_aload_n C.1 dL_law_493 1 rfl rfl rfl ?_
  refine zl_arg C (k := 1) (by omega) dL_law_494 dL_law_495 dL_law_496 rfl dL_law_497 dL_law_498 ?_
  refine zl_arg C (k := 2) (by omega) dL_law_499 dL_law_500 dL_law_501 rfl dL_law_502 dL_law_503 ?_
  refine zl_arg C (k := 3) (by omega) dL_law_504 dL_law_505 dL_law_506 rfl dL_law_507 dL_law_508 ?_
  refine zl_m C [.int (xs (i + 1)), .int (xs (i + 2)), .int (xs (i + 3))] (fun hJ => kX6_warm l hJ _ _ _ rfl pm) jl_L_60 ⟨rfl, rfl⟩ ⟨(Nat.le_of_ble_eq_true rfl), (Nat.le_of_ble_eq_true rfl)⟩ rfl rfl rfl (Nat.le_of_ble_eq_true rfl) dL_law_509 rfl (fun rm τ1 hm => ?_)
  obtain ⟨em, hm⟩ := hm
  exact zc_icmp_eq (tgt := 1453) C.1 dL_law_512 (by decide) rfl (fun _ => K σ1 τ1 S2 ok hx hm) (fun h => absurd (by rw [ex, em]) h)
theorem zlw_set (C : zl_C p s m c b L xs G) (hs : sOK S) (X : RX σ S) (M : RM τ S) (hi : i + 5 ≤ L) (K : ∀ (σ2 τ2 : zz_T) (S2 : zSt), sOK S2 → RX σ2 S2 → RM τ2 S2 → zl_V p l e s m below meth c b G fx fm σ2 τ2 i 1453 []) : zl_V p l e s m below meth c b G fx fm σ τ i 517 [] := by
  obtain ⟨r, S2, ok, px, pm⟩ := b_set hs X M (xs (i + 1)) (xs (i + 2))
  refine zc_aload_n C.1 dL_law_517 2 rfl rfl rfl ?_
  refine zl_arg C (k := 1) (by omega) dL_law_518 dL_law_519 dL_law_520 rfl dL_law_521 dL_law_522 ?_
  refine zl_arg C (k := 2) (by omega) dL_law_523 dL_law_524 dL_law_525 rfl dL_law_526 dL_law_527 ?_
  refine zl_x C [.int (xs (i + 1)), .int (xs (i + 2))] (fun hJ => kX5_set l hJ _ _ rfl px) jl_L_61 ⟨rfl, rfl⟩ ⟨(Nat.le_of_ble_eq_true rfl), (Nat.le_of_ble_eq_true rfl)⟩ rfl rfl rfl (Nat.le_of_ble_eq_true rfl) dL_law_528 rfl (fun rx σ1 hx => ?_)
  obtain ⟨ex, hx⟩ := hx
  refine zc_aload_n C.1 dL_law_531 1 rfl rfl rfl ?_
  refine zl_arg C (k := 1) (by omega) dL_law_532 dL_law_533 dL_law_534 rfl dL_law_535 dL_law_536 ?_
  refine zl_arg C (k := 2) (by omega) dL_law_537 dL_law_538 dL_law_539 rfl dL_law_540 dL_law_541 ?_
  refine zl_m C [.int (xs (i + 1)), .int (xs (i + 2))] (fun hJ => kX6_set l hJ _ _ rfl pm) jl_L_64 ⟨rfl, rfl⟩ ⟨(Nat.le_of_ble_eq_true rfl), (Nat.le_of_ble_eq_true rfl)⟩ rfl rfl rfl (Nat.le_of_ble_eq_true rfl) dL_law_542 rfl (fun rm τ1 hm => ?_)
  obtain ⟨em, hm⟩ := hm
  exact zc_icmp_eq (tgt := 1453) C.1 dL_law_545 (by decide) rfl (fun _ => K σ1 τ1 S2 ok hx hm) (fun h => absurd (by rw [ex, em]) h)
theorem zlw_add (C : zl_C p s m c b L xs G) (hs : sOK S) (X : RX σ S) (M : RM τ S) (hi : i + 5 ≤ L) (K : ∀ (σ2 τ2 : zz_T) (S2 : zSt), sOK S2 → RX σ2 S2 → RM τ2 S2 → zl_V p l e s m below meth c b G fx fm σ2 τ2 i 1453 []) : zl_V p l e s m below meth c b G fx fm σ τ i 550 [] := by
  obtain ⟨r, S2, ok, px, pm⟩ := b_add hs X M (xs (i + 1))
  refine zc_aload_n C.1 dL_law_550 2 rfl rfl rfl ?_
  refine zl_arg C (k := 1) (by omega) dL_law_551 dL_law_552 dL_law_553 rfl dL_law_554 dL_law_555 ?_
  refine zl_x C [.int (xs (i + 1))] (fun hJ => kX5_add l hJ _ rfl px) jl_L_65 ⟨rfl, rfl⟩ ⟨(Nat.le_of_ble_eq_true rfl), (Nat.le_of_ble_eq_true rfl)⟩ rfl rfl rfl (Nat.le_of_ble_eq_true rfl) dL_law_556 rfl (fun rx σ1 hx => ?_)
  obtain ⟨ex, hx⟩ := hx
  refine zc_aload_n C.1 dL_law_559 1 rfl rfl rfl ?_
  refine zl_arg C (k := 1) (by omega) dL_law_560 dL_law_561 dL_law_562 rfl dL_law_563 dL_law_564 ?_
  refine zl_m C [.int (xs (i + 1))] (fun hJ => kX6_add l hJ _ rfl pm) jl_L_68 ⟨rfl, rfl⟩ ⟨(Nat.le_of_ble_eq_true rfl), (Nat.le_of_ble_eq_true rfl)⟩ rfl rfl rfl (Nat.le_of_ble_eq_true rfl) dL_law_565 rfl (fun rm τ1 hm => ?_)
  obtain ⟨em, hm⟩ := hm
  exact zc_icmp_eq (tgt := 1453) C.1 dL_law_568 (by decide) rfl (fun _ => K σ1 τ1 S2 ok hx hm) (fun h => absurd (by rw [ex, em]) h)
theorem zlw_cut (C : zl_C p s m c b L xs G) (hs : sOK S) (X : RX σ S) (M : RM τ S) (hi : i + 5 ≤ L) (K : ∀ (σ2 τ2 : zz_T) (S2 : zSt), sOK S2 → RX σ2 S2 → RM τ2 S2 → zl_V p l e s m below meth c b G fx fm σ2 τ2 i 1453 []) : zl_V p l e s m below meth c b G fx fm σ τ i 573 [] := by
  obtain ⟨r, S2, ok, px, pm⟩ := b_cut hs X M (xs (i + 1))
  refine zc_aload_n C.1 dL_law_573 2 rfl rfl rfl ?_
  refine zl_arg C (k := 1) (by omega) dL_law_574 dL_law_575 dL_law_576 rfl dL_law_577 dL_law_578 ?_
  refine zl_x C [.int (xs (i + 1))] (fun hJ => kX5_cut l hJ _ rfl px) jl_L_69 ⟨rfl, rfl⟩ ⟨(Nat.le_of_ble_eq_true rfl), (Nat.le_of_ble_eq_true rfl)⟩ rfl rfl rfl (Nat.le_of_ble_eq_true rfl) dL_law_579 rfl (fun rx σ1 hx => ?_)
  obtain ⟨ex, hx⟩ := hx
  refine zc_aload_n C.1 dL_law_582 1 rfl rfl rfl ?_
  refine zl_arg C (k := 1) (by omega) dL_law_583 dL_law_584 dL_law_585 rfl dL_law_586 dL_law_587 ?_
  refine zl_m C [.int (xs (i + 1))] (fun hJ => kX6_cut l hJ _ rfl pm) jl_L_72 ⟨rfl, rfl⟩ ⟨(Nat.le_of_ble_eq_true rfl), (Nat.le_of_ble_eq_true rfl)⟩ rfl rfl rfl (Nat.le_of_ble_eq_true rfl) dL_law_588 rfl (fun rm τ1 hm => ?_)
  obtain ⟨em, hm⟩ := hm
  exact zc_icmp_eq (tgt := 1453) C.1 dL_law_591 (by decide) rfl (fun _ => K σ1 τ1 S2 ok hx hm) (fun h => absurd (by rw [ex, em]) h)
theorem zlw_burn (C : zl_C p s m c b L xs G) (hs : sOK S) (X : RX σ S) (M : RM τ S) (hi : i + 5 ≤ L) (K : ∀ (σ2 τ2 : zz_T) (S2 : zSt), sOK S2 → RX σ2 S2 → RM τ2 S2 → zl_V p l e s m below meth c b G fx fm σ2 τ2 i 1453 []) : zl_V p l e s m below meth c b G fx fm σ τ i 596 [] := by
  obtain ⟨r, S2, ok, px, pm⟩ := b_burn hs X M (xs (i + 1))
  refine zc_aload_n C.1 dL_law_596 2 rfl rfl rfl ?_
  refine zl_arg C (k := 1) (by omega) dL_law_597 dL_law_598 dL_law_599 rfl dL_law_600 dL_law_601 ?_
  refine zl_x C [.int (xs (i + 1))] (fun hJ => kX5_burn l hJ _ rfl px) jl_L_73 ⟨rfl, rfl⟩ ⟨(Nat.le_of_ble_eq_true rfl), (Nat.le_of_ble_eq_true rfl)⟩ rfl rfl rfl (Nat.le_of_ble_eq_true rfl) dL_law_602 rfl (fun rx σ1 hx => ?_)
  obtain ⟨ex, hx⟩ := hx
  refine zc_aload_n C.1 dL_law_605 1 rfl rfl rfl ?_
  refine zl_arg C (k := 1) (by omega) dL_law_606 dL_law_607 dL_law_608 rfl dL_law_609 dL_law_610 ?_
  refine zl_m C [.int (xs (i + 1))] (fun hJ => kX6_burn l hJ _ rfl pm) jl_L_76 ⟨rfl, rfl⟩ ⟨(Nat.le_of_ble_eq_true rfl), (Nat.le_of_ble_eq_true rfl)⟩ rfl rfl rfl (Nat.le_of_ble_eq_true rfl) dL_law_611 rfl (fun rm τ1 hm => ?_)
  obtain ⟨em, hm⟩ := hm
  exact zc_icmp_eq (tgt := 1453) C.1 dL_law_614 (by decide) rfl (fun _ => K σ1 τ1 S2 ok hx hm) (fun h => absurd (by rw [ex, em]) h)
theorem zlw_runs (C : zl_C p s m c b L xs G) (hs : sOK S) (X : RX σ S) (M : RM τ S) (hi : i + 5 ≤ L) (K : ∀ (σ2 τ2 : zz_T) (S2 : zSt), sOK S2 → RX σ2 S2 → RM τ2 S2 → zl_V p l e s m below meth c b G fx fm σ2 τ2 i 1453 []) : zl_V p l e s m below meth c b G fx fm σ τ i 619 [] := by
  obtain ⟨r, S2, ok, px, pm⟩ := b_runs hs X M (xs (i + 1)) (xs (i + 2))
  refine zc_aload_n C.1 dL_law_619 2 rfl rfl rfl ?_
  refine zl_arg C (k := 1) (by omega) dL_law_620 dL_law_621 dL_law_622 rfl dL_law_623 dL_law_624 ?_
  refine zl_arg C (k := 2) (by omega) dL_law_625 dL_law_626 dL_law_627 rfl dL_law_628 dL_law_629 ?_
  refine zl_x C [.int (xs (i + 1)), .int (xs (i + 2))] (fun hJ => kX5_runs l hJ _ _ rfl px) jl_L_77 ⟨rfl, rfl⟩ ⟨(Nat.le_of_ble_eq_true rfl), (Nat.le_of_ble_eq_true rfl)⟩ rfl rfl rfl (Nat.le_of_ble_eq_true rfl) dL_law_630 rfl (fun rx σ1 hx => ?_)
  obtain ⟨ex, hx⟩ := hx
  refine zc_aload_n C.1 dL_law_633 1 rfl rfl rfl ?_
  refine zl_arg C (k := 1) (by omega) dL_law_634 dL_law_635 dL_law_636 rfl dL_law_637 dL_law_638 ?_
  refine zl_arg C (k := 2) (by omega) dL_law_639 dL_law_640 dL_law_641 rfl dL_law_642 dL_law_643 ?_
  refine zl_m C [.int (xs (i + 1)), .int (xs (i + 2))] (fun hJ => kX6_runs l hJ _ _ rfl pm) jl_L_80 ⟨rfl, rfl⟩ ⟨(Nat.le_of_ble_eq_true rfl), (Nat.le_of_ble_eq_true rfl)⟩ rfl rfl rfl (Nat.le_of_ble_eq_true rfl) dL_law_644 rfl (fun rm τ1 hm => ?_)
  obtain ⟨em, hm⟩ := hm
  exact zc_icmp_eq (tgt := 1453) C.1 dL_law_647 (by decide) rfl (fun _ => K σ1 τ1 S2 ok hx hm) (fun h => absurd (by rw [ex, em]) h)
theorem zlw_black (C : zl_C p s m c b L xs G) (hs : sOK S) (X : RX σ S) (M : RM τ S) (hi : i + 5 ≤ L) (K : ∀ (σ2 τ2 : zz_T) (S2 : zSt), sOK S2 → RX σ2 S2 → RM τ2 S2 → zl_V p l e s m below meth c b G fx fm σ2 τ2 i 1453 []) : zl_V p l e s m below meth c b G fx fm σ τ i 652 [] := by
  obtain ⟨r, S2, ok, px, pm⟩ := b_black hs X M (xs (i + 1)) (xs (i + 2))
  refine zc_aload_n C.1 dL_law_652 2 rfl rfl rfl ?_
  refine zl_arg C (k := 1) (by omega) dL_law_653 dL_law_654 dL_law_655 rfl dL_law_656 dL_law_657 ?_
  refine zl_arg C (k := 2) (by omega) dL_law_658 dL_law_659 dL_law_660 rfl dL_law_661 dL_law_662 ?_
  refine zl_x C [.int (xs (i + 1)), .int (xs (i + 2))] (fun hJ => kX5_black l hJ _ _ rfl px) jl_L_81 ⟨rfl, rfl⟩ ⟨(Nat.le_of_ble_eq_true rfl), (Nat.le_of_ble_eq_true rfl)⟩ rfl rfl rfl (Nat.le_of_ble_eq_true rfl) dL_law_663 rfl (fun rx σ1 hx => ?_)
  obtain ⟨ex, hx⟩ := hx
  refine zc_aload_n C.1 dL_law_666 1 rfl rfl rfl ?_
  refine zl_arg C (k := 1) (by omega) dL_law_667 dL_law_668 dL_law_669 rfl dL_law_670 dL_law_671 ?_
  refine zl_arg C (k := 2) (by omega) dL_law_672 dL_law_673 dL_law_674 rfl dL_law_675 dL_law_676 ?_
  refine zl_m C [.int (xs (i + 1)), .int (xs (i + 2))] (fun hJ => kX6_black l hJ _ _ rfl pm) jl_L_84 ⟨rfl, rfl⟩ ⟨(Nat.le_of_ble_eq_true rfl), (Nat.le_of_ble_eq_true rfl)⟩ rfl rfl rfl (Nat.le_of_ble_eq_true rfl) dL_law_677 rfl (fun rm τ1 hm => ?_)
  obtain ⟨em, hm⟩ := hm
  exact zc_icmp_eq (tgt := 1453) C.1 dL_law_680 (by decide) rfl (fun _ => K σ1 τ1 S2 ok hx hm) (fun h => absurd (by rw [ex, em]) h)
theorem zlw_ahead (C : zl_C p s m c b L xs G) (hs : sOK S) (X : RX σ S) (M : RM τ S) (hi : i + 5 ≤ L) (K : ∀ (σ2 τ2 : zz_T) (S2 : zSt), sOK S2 → RX σ2 S2 → RM τ2 S2 → zl_V p l e s m below meth c b G fx fm σ2 τ2 i 1453 []) : zl_V p l e s m below meth c b G fx fm σ τ i 685 [] := by
  obtain ⟨r, S2, ok, px, pm⟩ := b_ahead hs X M (xs (i + 1)) (xs (i + 2)) (xs (i + 3))
  refine zc_aload_n C.1 dL_law_685 2 rfl rfl rfl ?_
  refine zl_arg C (k := 1) (by omega) dL_law_686 dL_law_687 dL_law_688 rfl dL_law_689 dL_law_690 ?_
  refine zl_arg C (k := 2) (by omega) dL_law_691 dL_law_692 dL_law_693 rfl dL_law_694 dL_law_695 ?_
  refine zl_arg C (k := 3) (by omega) dL_law_696 dL_law_697 dL_law_698 rfl dL_law_699 dL_law_700 ?_
  refine zl_x C [.int (xs (i + 1)), .int (xs (i + 2)), .int (xs (i + 3))] (fun hJ => kX5_ahead l hJ _ _ _ rfl px) jl_L_85 ⟨rfl, rfl⟩ ⟨(Nat.le_of_ble_eq_true rfl), (Nat.le_of_ble_eq_true rfl)⟩ rfl rfl rfl (Nat.le_of_ble_eq_true rfl) dL_law_701 rfl (fun rx σ1 hx => ?_)
  obtain ⟨ex, hx⟩ := hx
  refine zc_aload_n C.1 dL_law_704 1 rfl rfl rfl ?_
  refine zl_arg C (k := 1) (by omega) dL_law_705 dL_law_706 dL_law_707 rfl dL_law_708 dL_law_709 ?_
  refine zl_arg C (k := 2) (by omega) dL_law_710 dL_law_711 dL_law_712 rfl dL_law_713 dL_law_714 ?_
  refine zl_arg C (k := 3) (by omega) dL_law_715 dL_law_716 dL_law_717 rfl dL_law_718 dL_law_719 ?_
  refine zl_m C [.int (xs (i + 1)), .int (xs (i + 2)), .int (xs (i + 3))] (fun hJ => kX6_ahead l hJ _ _ _ rfl pm) jl_L_88 ⟨rfl, rfl⟩ ⟨(Nat.le_of_ble_eq_true rfl), (Nat.le_of_ble_eq_true rfl)⟩ rfl rfl rfl (Nat.le_of_ble_eq_true rfl) dL_law_720 rfl (fun rm τ1 hm => ?_)
  obtain ⟨em, hm⟩ := hm
  exact zc_icmp_eq (tgt := 1453) C.1 dL_law_723 (by decide) rfl (fun _ => K σ1 τ1 S2 ok hx hm) (fun h => absurd (by rw [ex, em]) h)
theorem zlw_when (C : zl_C p s m c b L xs G) (hs : sOK S) (X : RX σ S) (M : RM τ S) (hi : i + 5 ≤ L) (K : ∀ (σ2 τ2 : zz_T) (S2 : zSt), sOK S2 → RX σ2 S2 → RM τ2 S2 → zl_V p l e s m below meth c b G fx fm σ2 τ2 i 1453 []) : zl_V p l e s m below meth c b G fx fm σ τ i 728 [] := by
  obtain ⟨r, S2, ok, px, pm⟩ := b_when hs X M (xs (i + 1))
  refine zc_aload_n C.1 dL_law_728 2 rfl rfl rfl ?_
  refine zl_arg C (k := 1) (by omega) dL_law_729 dL_law_730 dL_law_731 rfl dL_law_732 dL_law_733 ?_
  refine zl_x C [.int (xs (i + 1))] (fun hJ => kX5_when l hJ _ rfl px) jl_L_89 ⟨rfl, rfl⟩ ⟨(Nat.le_of_ble_eq_true rfl), (Nat.le_of_ble_eq_true rfl)⟩ rfl rfl rfl (Nat.le_of_ble_eq_true rfl) dL_law_734 rfl (fun rx σ1 hx => ?_)
  obtain ⟨ex, hx⟩ := hx
  refine zc_aload_n C.1 dL_law_737 1 rfl rfl rfl ?_
  refine zl_arg C (k := 1) (by omega) dL_law_738 dL_law_739 dL_law_740 rfl dL_law_741 dL_law_742 ?_
  refine zl_m C [.int (xs (i + 1))] (fun hJ => kX6_when l hJ _ rfl pm) jl_L_92 ⟨rfl, rfl⟩ ⟨(Nat.le_of_ble_eq_true rfl), (Nat.le_of_ble_eq_true rfl)⟩ rfl rfl rfl (Nat.le_of_ble_eq_true rfl) dL_law_743 rfl (fun rm τ1 hm => ?_)
  obtain ⟨em, hm⟩ := hm
  exact zc_icmp_eq (tgt := 1453) C.1 dL_law_746 (by decide) rfl (fun _ => K σ1 τ1 S2 ok hx hm) (fun h => absurd (by rw [ex, em]) h)
theorem zlw_power (C : zl_C p s m c b L xs G) (hs : sOK S) (X : RX σ S) (M : RM τ S) (hi : i + 5 ≤ L) (K : ∀ (σ2 τ2 : zz_T) (S2 : zSt), sOK S2 → RX σ2 S2 → RM τ2 S2 → zl_V p l e s m below meth c b G fx fm σ2 τ2 i 1453 []) : zl_V p l e s m below meth c b G fx fm σ τ i 751 [] := by
  obtain ⟨r, S2, ok, px, pm⟩ := b_power hs X M (xs (i + 1)) (xs (i + 2)) (xs (i + 3))
  refine zc_aload_n C.1 dL_law_751 2 rfl rfl rfl ?_
  refine zl_arg C (k := 1) (by omega) dL_law_752 dL_law_753 dL_law_754 rfl dL_law_755 dL_law_756 ?_
  refine zl_arg C (k := 2) (by omega) dL_law_757 dL_law_758 dL_law_759 rfl dL_law_760 dL_law_761 ?_
  refine zl_arg C (k := 3) (by omega) dL_law_762 dL_law_763 dL_law_764 rfl dL_law_765 dL_law_766 ?_
  refine zl_x C [.int (xs (i + 1)), .int (xs (i + 2)), .int (xs (i + 3))] (fun hJ => kX5_power l hJ _ _ _ rfl px) jl_L_93 ⟨rfl, rfl⟩ ⟨(Nat.le_of_ble_eq_true rfl), (Nat.le_of_ble_eq_true rfl)⟩ rfl rfl rfl (Nat.le_of_ble_eq_true rfl) dL_law_767 rfl (fun rx σ1 hx => ?_)
  obtain ⟨ex, hx⟩ := hx
  refine zc_aload_n C.1 dL_law_770 1 rfl rfl rfl ?_
  refine zl_arg C (k := 1) (by omega) dL_law_771 dL_law_772 dL_law_773 rfl dL_law_774 dL_law_775 ?_
  refine zl_arg C (k := 2) (by omega) dL_law_776 dL_law_777 dL_law_778 rfl dL_law_779 dL_law_780 ?_
  refine zl_arg C (k := 3) (by omega) dL_law_781 dL_law_782 dL_law_783 rfl dL_law_784 dL_law_785 ?_
  refine zl_m C [.int (xs (i + 1)), .int (xs (i + 2)), .int (xs (i + 3))] (fun hJ => kX6_power l hJ _ _ _ rfl pm) jl_L_96 ⟨rfl, rfl⟩ ⟨(Nat.le_of_ble_eq_true rfl), (Nat.le_of_ble_eq_true rfl)⟩ rfl rfl rfl (Nat.le_of_ble_eq_true rfl) dL_law_786 rfl (fun rm τ1 hm => ?_)
  obtain ⟨em, hm⟩ := hm
  exact zc_icmp_eq (tgt := 1453) C.1 dL_law_789 (by decide) rfl (fun _ => K σ1 τ1 S2 ok hx hm) (fun h => absurd (by rw [ex, em]) h)
end ZL
