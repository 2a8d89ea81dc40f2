/-! the calls of the law and of its helper, by their pool numbers -/
set_option maxRecDepth 100000 in
theorem lk_L_19 : kp_lnk RL 19 0 8 1 yX9_context cX9_context 2 (some .int) := kp_lnk_of 289 36 286 287 288 (by decide +kernel)
set_option maxRecDepth 100000 in
theorem lk_L_24 : kp_lnk RL 24 0 8 3 yX9_bind cX9_bind 6 (some .int) := kp_lnk_of 301 36 298 299 300 (by decide +kernel)
set_option maxRecDepth 100000 in
theorem lk_L_29 : kp_lnk RL 29 0 8 2 yX9_has cX9_has 3 (some .int) := kp_lnk_of 343 36 340 341 342 (by decide +kernel)
set_option maxRecDepth 100000 in
theorem lk_L_33 : kp_lnk RL 33 0 8 2 yX9_means cX9_means 3 (some .int) := kp_lnk_of 347 36 344 345 346 (by decide +kernel)
set_option maxRecDepth 100000 in
theorem lk_L_37 : kp_lnk RL 37 0 8 3 yX9_fight cX9_fight 4 (some .int) := kp_lnk_of 361 36 358 359 360 (by decide +kernel)
set_option maxRecDepth 100000 in
theorem lk_L_41 : kp_lnk RL 41 0 8 1 yX9_fights cX9_fights 2 (some .int) := kp_lnk_of 394 36 391 392 393 (by decide +kernel)
set_option maxRecDepth 100000 in
theorem lk_L_45 : kp_lnk RL 45 0 8 1 yX9_patience cX9_patience 2 (some .boolean) := kp_lnk_of 398 36 395 396 397 (by decide +kernel)
set_option maxRecDepth 100000 in
theorem lk_L_50 : kp_lnk RL 50 0 8 1 yX9_go cX9_go 2 (some .boolean) := kp_lnk_of 402 36 399 400 401 (by decide +kernel)
set_option maxRecDepth 100000 in
theorem lk_L_54 : kp_lnk RL 54 0 8 2 yX9_type cX9_type 3 (some .int) := kp_lnk_of 424 36 421 422 423 (by decide +kernel)
set_option maxRecDepth 100000 in
theorem lk_L_58 : kp_lnk RL 58 0 8 1 yX9_settle cX9_settle 3 (some .int) := kp_lnk_of 453 36 450 451 452 (by decide +kernel)
set_option maxRecDepth 100000 in
theorem lk_L_72 : kp_lnk RL 72 0 8 2 yX9_stretch cX9_stretch 3 (some .boolean) := kp_lnk_of 457 36 454 455 456 (by decide +kernel)
set_option maxRecDepth 100000 in
theorem lk_L_77 : kp_lnk RL 77 0 8 2 yX9_uses cX9_uses 3 (some .boolean) := kp_lnk_of 465 36 462 463 464 (by decide +kernel)
set_option maxRecDepth 100000 in
theorem lk_L_81 : kp_lnk RL 81 0 8 3 yX9_habit cX9_habit 5 (some .boolean) := kp_lnk_of 472 36 469 470 471 (by decide +kernel)
set_option maxRecDepth 100000 in
theorem lk_L_86 : kp_lnk RL 86 0 8 2 yX9_want cX9_want 3 (some .int) := kp_lnk_of 476 36 473 474 475 (by decide +kernel)
set_option maxRecDepth 100000 in
theorem lk_L_90 : kp_lnk RL 90 0 8 1 yX9_offer cX9_offer 2 (some .int) := kp_lnk_of 488 36 485 486 487 (by decide +kernel)
set_option maxRecDepth 100000 in
theorem lk_L_94 : kp_lnk RL 94 0 8 0 yX9_clear cX9_clear 1 none := kp_lnk_of 496 36 493 494 495 (by decide +kernel)
set_option maxRecDepth 100000 in
theorem lk_L_98 : kp_lnk RL 98 0 8 0 yX9_cheapest cX9_cheapest 1 (some .int) := kp_lnk_of 504 36 501 502 503 (by decide +kernel)
set_option maxRecDepth 100000 in
theorem lk_L_102 : kp_lnk RL 102 0 8 1 yX9_assigned cX9_assigned 2 (some .int) := kp_lnk_of 548 36 545 546 547 (by decide +kernel)
set_option maxRecDepth 100000 in
theorem lk_L_106 : kp_lnk RL 106 0 8 0 yX9_broken cX9_broken 1 (some .int) := kp_lnk_of 552 36 549 550 551 (by decide +kernel)
set_option maxRecDepth 100000 in
theorem lk_L_110 : kp_lnk RL 110 0 8 0 yX9_apply cX9_apply 5 (some .int) := kp_lnk_of 561 36 558 559 560 (by decide +kernel)
set_option maxRecDepth 100000 in
theorem lk_L_114 : kp_lnk RL 114 0 8 0 yX9_keep cX9_keep 1 none := kp_lnk_of 570 36 567 568 569 (by decide +kernel)
set_option maxRecDepth 100000 in
theorem lk_L_118 : kp_lnk RL 118 0 8 2 yX9_change cX9_change 5 (some .int) := kp_lnk_of 578 36 575 576 577 (by decide +kernel)
set_option maxRecDepth 100000 in
theorem lk_L_122 : kp_lnk RL 122 0 8 0 yX9_back cX9_back 2 (some .int) := kp_lnk_of 590 36 587 588 589 (by decide +kernel)
set_option maxRecDepth 100000 in
theorem lk_L_126 : kp_lnk RL 126 0 8 1 yX9_learn cX9_learn 2 (some .int) := kp_lnk_of 594 36 591 592 593 (by decide +kernel)
set_option maxRecDepth 100000 in
theorem lk_L_130 : kp_lnk RL 130 0 8 1 yX9_saves cX9_saves 2 (some .int) := kp_lnk_of 622 36 619 620 621 (by decide +kernel)
set_option maxRecDepth 100000 in
theorem lk_L_134 : kp_lnk RL 134 0 8 1 yX9_count cX9_count 2 (some .int) := kp_lnk_of 626 36 623 624 625 (by decide +kernel)
set_option maxRecDepth 100000 in
theorem lk_L_7 : kp_lnk RL 7 0 8 2 yX9_out cX9_out 3 (some .int) := kp_lnk_of 634 36 631 632 633 (by decide +kernel)
set_option maxRecDepth 100000 in
theorem lk_L_68 : kp_lnk RL 68 0 9 0 yX10_thrown cX10_thrown 1 (some .int) := kp_lnk_of 820 45 817 818 819 (by decide +kernel)
set_option maxRecDepth 100000 in
theorem lk_L_23 : kp_lnk RL 23 0 9 1 yX10_context cX10_context 2 (some .int) := kp_lnk_of 824 45 821 822 823 (by decide +kernel)
set_option maxRecDepth 100000 in
theorem lk_L_28 : kp_lnk RL 28 0 9 3 yX10_bind cX10_bind 5 (some .int) := kp_lnk_of 832 45 829 830 831 (by decide +kernel)
set_option maxRecDepth 100000 in
theorem lk_L_32 : kp_lnk RL 32 0 9 2 yX10_has cX10_has 3 (some .int) := kp_lnk_of 857 45 854 855 856 (by decide +kernel)
set_option maxRecDepth 100000 in
theorem lk_L_36 : kp_lnk RL 36 0 9 2 yX10_means cX10_means 3 (some .int) := kp_lnk_of 861 45 858 859 860 (by decide +kernel)
set_option maxRecDepth 100000 in
theorem lk_L_40 : kp_lnk RL 40 0 9 3 yX10_fight cX10_fight 4 (some .int) := kp_lnk_of 869 45 866 867 868 (by decide +kernel)
set_option maxRecDepth 100000 in
theorem lk_L_44 : kp_lnk RL 44 0 9 1 yX10_fights cX10_fights 2 (some .int) := kp_lnk_of 887 45 884 885 886 (by decide +kernel)
set_option maxRecDepth 100000 in
theorem lk_L_49 : kp_lnk RL 49 0 9 1 yX10_patience cX10_patience 2 (some .boolean) := kp_lnk_of 891 45 888 889 890 (by decide +kernel)
set_option maxRecDepth 100000 in
theorem lk_L_53 : kp_lnk RL 53 0 9 1 yX10_go cX10_go 2 (some .boolean) := kp_lnk_of 895 45 892 893 894 (by decide +kernel)
set_option maxRecDepth 100000 in
theorem lk_L_57 : kp_lnk RL 57 0 9 2 yX10_type cX10_type 3 (some .int) := kp_lnk_of 916 45 913 914 915 (by decide +kernel)
set_option maxRecDepth 100000 in
theorem lk_L_61 : kp_lnk RL 61 0 9 1 yX10_settle cX10_settle 3 (some .int) := kp_lnk_of 925 45 922 923 924 (by decide +kernel)
set_option maxRecDepth 100000 in
theorem lk_L_67 : kp_lnk RL 67 0 9 2 yX10_out cX10_out 3 (some .int) := kp_lnk_of 929 45 926 927 928 (by decide +kernel)
set_option maxRecDepth 100000 in
theorem lk_L_76 : kp_lnk RL 76 0 9 2 yX10_stretch cX10_stretch 3 (some .boolean) := kp_lnk_of 933 45 930 931 932 (by decide +kernel)
set_option maxRecDepth 100000 in
theorem lk_L_80 : kp_lnk RL 80 0 9 2 yX10_uses cX10_uses 3 (some .boolean) := kp_lnk_of 937 45 934 935 936 (by decide +kernel)
set_option maxRecDepth 100000 in
theorem lk_L_85 : kp_lnk RL 85 0 9 3 yX10_habit cX10_habit 4 (some .boolean) := kp_lnk_of 944 45 941 942 943 (by decide +kernel)
set_option maxRecDepth 100000 in
theorem lk_L_89 : kp_lnk RL 89 0 9 2 yX10_want cX10_want 4 (some .int) := kp_lnk_of 948 45 945 946 947 (by decide +kernel)
set_option maxRecDepth 100000 in
theorem lk_L_93 : kp_lnk RL 93 0 9 1 yX10_offer cX10_offer 3 (some .int) := kp_lnk_of 952 45 949 950 951 (by decide +kernel)
set_option maxRecDepth 100000 in
theorem lk_L_97 : kp_lnk RL 97 0 9 0 yX10_clear cX10_clear 1 none := kp_lnk_of 956 45 953 954 955 (by decide +kernel)
set_option maxRecDepth 100000 in
theorem lk_L_101 : kp_lnk RL 101 0 9 0 yX10_cheapest cX10_cheapest 1 (some .int) := kp_lnk_of 960 45 957 958 959 (by decide +kernel)
set_option maxRecDepth 100000 in
theorem lk_L_105 : kp_lnk RL 105 0 9 1 yX10_assigned cX10_assigned 2 (some .int) := kp_lnk_of 984 45 981 982 983 (by decide +kernel)
set_option maxRecDepth 100000 in
theorem lk_L_109 : kp_lnk RL 109 0 9 0 yX10_broken cX10_broken 3 (some .int) := kp_lnk_of 988 45 985 986 987 (by decide +kernel)
set_option maxRecDepth 100000 in
theorem lk_L_113 : kp_lnk RL 113 0 9 0 yX10_apply cX10_apply 5 (some .int) := kp_lnk_of 992 45 989 990 991 (by decide +kernel)
set_option maxRecDepth 100000 in
theorem lk_L_117 : kp_lnk RL 117 0 9 0 yX10_keep cX10_keep 2 none := kp_lnk_of 996 45 993 994 995 (by decide +kernel)
set_option maxRecDepth 100000 in
theorem lk_L_121 : kp_lnk RL 121 0 9 2 yX10_change cX10_change 5 (some .int) := kp_lnk_of 1000 45 997 998 999 (by decide +kernel)
set_option maxRecDepth 100000 in
theorem lk_L_125 : kp_lnk RL 125 0 9 0 yX10_back cX10_back 3 (some .int) := kp_lnk_of 1012 45 1009 1010 1011 (by decide +kernel)
set_option maxRecDepth 100000 in
theorem lk_L_129 : kp_lnk RL 129 0 9 1 yX10_learn cX10_learn 6 (some .int) := kp_lnk_of 1020 45 1017 1018 1019 (by decide +kernel)
set_option maxRecDepth 100000 in
theorem lk_L_133 : kp_lnk RL 133 0 9 1 yX10_saves cX10_saves 2 (some .int) := kp_lnk_of 1029 45 1026 1027 1028 (by decide +kernel)
set_option maxRecDepth 100000 in
theorem lk_L_137 : kp_lnk RL 137 0 9 1 yX10_count cX10_count 2 (some .int) := kp_lnk_of 1033 45 1030 1031 1032 (by decide +kernel)
