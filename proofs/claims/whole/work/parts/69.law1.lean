theorem z_364 : Cond.methodLink RL 13 yX6_write ∈ WB := inWB 364 (by decide +kernel) (by decide +kernel)
theorem z_365 : Cond.instanceMethod yX6_write ∈ WB := inWB 365 (by decide +kernel) (by decide +kernel)
theorem z_366 : Cond.selects RX6 yX6_write yX6_write ∈ WB := inWB 366 (by decide +kernel) (by decide +kernel)
theorem z_52 : Cond.initialized RX6 ∈ WB := inWB 52 (by decide +kernel) (by decide +kernel)
theorem z_367 : Cond.code yX6_write cX6_write 2 (some .int) ∈ WB := inWB 367 (by decide +kernel) (by decide +kernel)
theorem z_914 : Cond.methodLink RL 17 yX7_write ∈ WB := inWB 914 (by decide +kernel) (by decide +kernel)
theorem z_915 : Cond.instanceMethod yX7_write ∈ WB := inWB 915 (by decide +kernel) (by decide +kernel)
theorem z_916 : Cond.selects RX7 yX7_write yX7_write ∈ WB := inWB 916 (by decide +kernel) (by decide +kernel)
theorem z_917 : Cond.code yX7_write cX7_write 2 (some .int) ∈ WB := inWB 917 (by decide +kernel) (by decide +kernel)
theorem z_372 : Cond.methodLink RL 18 yX6_wipe ∈ WB := inWB 372 (by decide +kernel) (by decide +kernel)
theorem z_373 : Cond.instanceMethod yX6_wipe ∈ WB := inWB 373 (by decide +kernel) (by decide +kernel)
theorem z_374 : Cond.selects RX6 yX6_wipe yX6_wipe ∈ WB := inWB 374 (by decide +kernel) (by decide +kernel)
theorem z_375 : Cond.code yX6_wipe cX6_wipe 2 (some .int) ∈ WB := inWB 375 (by decide +kernel) (by decide +kernel)
theorem z_921 : Cond.methodLink RL 22 yX7_wipe ∈ WB := inWB 921 (by decide +kernel) (by decide +kernel)
theorem z_922 : Cond.instanceMethod yX7_wipe ∈ WB := inWB 922 (by decide +kernel) (by decide +kernel)
theorem z_923 : Cond.selects RX7 yX7_wipe yX7_wipe ∈ WB := inWB 923 (by decide +kernel) (by decide +kernel)
theorem z_924 : Cond.code yX7_wipe cX7_wipe 2 (some .int) ∈ WB := inWB 924 (by decide +kernel) (by decide +kernel)
theorem z_376 : Cond.methodLink RL 23 yX6_fault ∈ WB := inWB 376 (by decide +kernel) (by decide +kernel)
theorem z_377 : Cond.instanceMethod yX6_fault ∈ WB := inWB 377 (by decide +kernel) (by decide +kernel)
theorem z_378 : Cond.selects RX6 yX6_fault yX6_fault ∈ WB := inWB 378 (by decide +kernel) (by decide +kernel)
theorem z_379 : Cond.code yX6_fault cX6_fault 1 (some .int) ∈ WB := inWB 379 (by decide +kernel) (by decide +kernel)
theorem z_925 : Cond.methodLink RL 26 yX7_fault ∈ WB := inWB 925 (by decide +kernel) (by decide +kernel)
theorem z_926 : Cond.instanceMethod yX7_fault ∈ WB := inWB 926 (by decide +kernel) (by decide +kernel)
theorem z_927 : Cond.selects RX7 yX7_fault yX7_fault ∈ WB := inWB 927 (by decide +kernel) (by decide +kernel)
theorem z_928 : Cond.code yX7_fault cX7_fault 1 (some .int) ∈ WB := inWB 928 (by decide +kernel) (by decide +kernel)
theorem z_380 : Cond.methodLink RL 27 yX6_lay ∈ WB := inWB 380 (by decide +kernel) (by decide +kernel)
theorem z_381 : Cond.instanceMethod yX6_lay ∈ WB := inWB 381 (by decide +kernel) (by decide +kernel)
theorem z_382 : Cond.selects RX6 yX6_lay yX6_lay ∈ WB := inWB 382 (by decide +kernel) (by decide +kernel)
theorem z_383 : Cond.code yX6_lay cX6_lay 1 (some .int) ∈ WB := inWB 383 (by decide +kernel) (by decide +kernel)
theorem z_945 : Cond.methodLink RL 30 yX7_lay ∈ WB := inWB 945 (by decide +kernel) (by decide +kernel)
theorem z_946 : Cond.instanceMethod yX7_lay ∈ WB := inWB 946 (by decide +kernel) (by decide +kernel)
theorem z_947 : Cond.selects RX7 yX7_lay yX7_lay ∈ WB := inWB 947 (by decide +kernel) (by decide +kernel)
theorem z_948 : Cond.code yX7_lay cX7_lay 2 (some .int) ∈ WB := inWB 948 (by decide +kernel) (by decide +kernel)
theorem z_415 : Cond.methodLink RL 31 yX6_bird ∈ WB := inWB 415 (by decide +kernel) (by decide +kernel)
theorem z_416 : Cond.instanceMethod yX6_bird ∈ WB := inWB 416 (by decide +kernel) (by decide +kernel)
theorem z_417 : Cond.selects RX6 yX6_bird yX6_bird ∈ WB := inWB 417 (by decide +kernel) (by decide +kernel)
theorem z_418 : Cond.code yX6_bird cX6_bird 3 (some .int) ∈ WB := inWB 418 (by decide +kernel) (by decide +kernel)
theorem z_949 : Cond.methodLink RL 35 yX7_bird ∈ WB := inWB 949 (by decide +kernel) (by decide +kernel)
theorem z_950 : Cond.instanceMethod yX7_bird ∈ WB := inWB 950 (by decide +kernel) (by decide +kernel)
theorem z_951 : Cond.selects RX7 yX7_bird yX7_bird ∈ WB := inWB 951 (by decide +kernel) (by decide +kernel)
theorem z_952 : Cond.code yX7_bird cX7_bird 3 (some .int) ∈ WB := inWB 952 (by decide +kernel) (by decide +kernel)
theorem z_451 : Cond.methodLink RL 36 yX6_wind ∈ WB := inWB 451 (by decide +kernel) (by decide +kernel)
theorem z_452 : Cond.instanceMethod yX6_wind ∈ WB := inWB 452 (by decide +kernel) (by decide +kernel)
theorem z_453 : Cond.selects RX6 yX6_wind yX6_wind ∈ WB := inWB 453 (by decide +kernel) (by decide +kernel)
theorem z_454 : Cond.code yX6_wind cX6_wind 2 (some .int) ∈ WB := inWB 454 (by decide +kernel) (by decide +kernel)
theorem z_961 : Cond.methodLink RL 39 yX7_wind ∈ WB := inWB 961 (by decide +kernel) (by decide +kernel)
theorem z_962 : Cond.instanceMethod yX7_wind ∈ WB := inWB 962 (by decide +kernel) (by decide +kernel)
theorem z_963 : Cond.selects RX7 yX7_wind yX7_wind ∈ WB := inWB 963 (by decide +kernel) (by decide +kernel)
theorem z_964 : Cond.code yX7_wind cX7_wind 2 (some .int) ∈ WB := inWB 964 (by decide +kernel) (by decide +kernel)
theorem z_459 : Cond.methodLink RL 40 yX6_span ∈ WB := inWB 459 (by decide +kernel) (by decide +kernel)
theorem z_460 : Cond.instanceMethod yX6_span ∈ WB := inWB 460 (by decide +kernel) (by decide +kernel)
theorem z_461 : Cond.selects RX6 yX6_span yX6_span ∈ WB := inWB 461 (by decide +kernel) (by decide +kernel)
theorem z_462 : Cond.code yX6_span cX6_span 4 (some .int) ∈ WB := inWB 462 (by decide +kernel) (by decide +kernel)
theorem z_969 : Cond.methodLink RL 43 yX7_span ∈ WB := inWB 969 (by decide +kernel) (by decide +kernel)
theorem z_970 : Cond.instanceMethod yX7_span ∈ WB := inWB 970 (by decide +kernel) (by decide +kernel)
theorem z_971 : Cond.selects RX7 yX7_span yX7_span ∈ WB := inWB 971 (by decide +kernel) (by decide +kernel)
theorem z_972 : Cond.code yX7_span cX7_span 3 (some .int) ∈ WB := inWB 972 (by decide +kernel) (by decide +kernel)
theorem z_540 : Cond.methodLink RL 44 yX6_join ∈ WB := inWB 540 (by decide +kernel) (by decide +kernel)
theorem z_541 : Cond.instanceMethod yX6_join ∈ WB := inWB 541 (by decide +kernel) (by decide +kernel)
theorem z_542 : Cond.selects RX6 yX6_join yX6_join ∈ WB := inWB 542 (by decide +kernel) (by decide +kernel)
theorem z_543 : Cond.code yX6_join cX6_join 2 (some .int) ∈ WB := inWB 543 (by decide +kernel) (by decide +kernel)
theorem z_1008 : Cond.methodLink RL 47 yX7_join ∈ WB := inWB 1008 (by decide +kernel) (by decide +kernel)
theorem z_1009 : Cond.instanceMethod yX7_join ∈ WB := inWB 1009 (by decide +kernel) (by decide +kernel)
theorem z_1010 : Cond.selects RX7 yX7_join yX7_join ∈ WB := inWB 1010 (by decide +kernel) (by decide +kernel)
theorem z_1011 : Cond.code yX7_join cX7_join 2 (some .int) ∈ WB := inWB 1011 (by decide +kernel) (by decide +kernel)
theorem z_585 : Cond.methodLink RL 48 yX6_leave ∈ WB := inWB 585 (by decide +kernel) (by decide +kernel)
theorem z_586 : Cond.instanceMethod yX6_leave ∈ WB := inWB 586 (by decide +kernel) (by decide +kernel)
theorem z_587 : Cond.selects RX6 yX6_leave yX6_leave ∈ WB := inWB 587 (by decide +kernel) (by decide +kernel)
theorem z_588 : Cond.code yX6_leave cX6_leave 3 (some .int) ∈ WB := inWB 588 (by decide +kernel) (by decide +kernel)
theorem z_1035 : Cond.methodLink RL 51 yX7_leave ∈ WB := inWB 1035 (by decide +kernel) (by decide +kernel)
theorem z_1036 : Cond.instanceMethod yX7_leave ∈ WB := inWB 1036 (by decide +kernel) (by decide +kernel)
theorem z_1037 : Cond.selects RX7 yX7_leave yX7_leave ∈ WB := inWB 1037 (by decide +kernel) (by decide +kernel)
theorem z_1038 : Cond.code yX7_leave cX7_leave 1 (some .int) ∈ WB := inWB 1038 (by decide +kernel) (by decide +kernel)
theorem z_593 : Cond.methodLink RL 52 yX6_step ∈ WB := inWB 593 (by decide +kernel) (by decide +kernel)
theorem z_594 : Cond.instanceMethod yX6_step ∈ WB := inWB 594 (by decide +kernel) (by decide +kernel)
theorem z_595 : Cond.selects RX6 yX6_step yX6_step ∈ WB := inWB 595 (by decide +kernel) (by decide +kernel)
theorem z_596 : Cond.code yX6_step cX6_step 1 (some .int) ∈ WB := inWB 596 (by decide +kernel) (by decide +kernel)
theorem z_1039 : Cond.methodLink RL 55 yX7_step ∈ WB := inWB 1039 (by decide +kernel) (by decide +kernel)
theorem z_1040 : Cond.instanceMethod yX7_step ∈ WB := inWB 1040 (by decide +kernel) (by decide +kernel)
theorem z_1041 : Cond.selects RX7 yX7_step yX7_step ∈ WB := inWB 1041 (by decide +kernel) (by decide +kernel)
theorem z_1042 : Cond.code yX7_step cX7_step 1 (some .int) ∈ WB := inWB 1042 (by decide +kernel) (by decide +kernel)
theorem z_624 : Cond.methodLink RL 56 yX6_stand ∈ WB := inWB 624 (by decide +kernel) (by decide +kernel)
theorem z_625 : Cond.instanceMethod yX6_stand ∈ WB := inWB 625 (by decide +kernel) (by decide +kernel)
theorem z_626 : Cond.selects RX6 yX6_stand yX6_stand ∈ WB := inWB 626 (by decide +kernel) (by decide +kernel)
theorem z_627 : Cond.code yX6_stand cX6_stand 1 (some .int) ∈ WB := inWB 627 (by decide +kernel) (by decide +kernel)
theorem z_1055 : Cond.methodLink RL 59 yX7_stand ∈ WB := inWB 1055 (by decide +kernel) (by decide +kernel)
theorem z_1056 : Cond.instanceMethod yX7_stand ∈ WB := inWB 1056 (by decide +kernel) (by decide +kernel)
theorem z_1057 : Cond.selects RX7 yX7_stand yX7_stand ∈ WB := inWB 1057 (by decide +kernel) (by decide +kernel)
theorem z_1058 : Cond.code yX7_stand cX7_stand 1 (some .int) ∈ WB := inWB 1058 (by decide +kernel) (by decide +kernel)
theorem z_628 : Cond.methodLink RL 60 yX6_year ∈ WB := inWB 628 (by decide +kernel) (by decide +kernel)
theorem z_629 : Cond.instanceMethod yX6_year ∈ WB := inWB 629 (by decide +kernel) (by decide +kernel)
theorem z_630 : Cond.selects RX6 yX6_year yX6_year ∈ WB := inWB 630 (by decide +kernel) (by decide +kernel)
theorem z_631 : Cond.code yX6_year cX6_year 2 (some .int) ∈ WB := inWB 631 (by decide +kernel) (by decide +kernel)
theorem z_1059 : Cond.methodLink RL 63 yX7_year ∈ WB := inWB 1059 (by decide +kernel) (by decide +kernel)
theorem z_1060 : Cond.instanceMethod yX7_year ∈ WB := inWB 1060 (by decide +kernel) (by decide +kernel)
theorem z_1061 : Cond.selects RX7 yX7_year yX7_year ∈ WB := inWB 1061 (by decide +kernel) (by decide +kernel)
theorem z_1062 : Cond.code yX7_year cX7_year 2 (some .int) ∈ WB := inWB 1062 (by decide +kernel) (by decide +kernel)
theorem z_636 : Cond.methodLink RL 64 yX6_undo ∈ WB := inWB 636 (by decide +kernel) (by decide +kernel)
theorem z_637 : Cond.instanceMethod yX6_undo ∈ WB := inWB 637 (by decide +kernel) (by decide +kernel)
theorem z_638 : Cond.selects RX6 yX6_undo yX6_undo ∈ WB := inWB 638 (by decide +kernel) (by decide +kernel)
theorem z_639 : Cond.code yX6_undo cX6_undo 1 (some .int) ∈ WB := inWB 639 (by decide +kernel) (by decide +kernel)
theorem z_1063 : Cond.methodLink RL 67 yX7_undo ∈ WB := inWB 1063 (by decide +kernel) (by decide +kernel)
theorem z_1064 : Cond.instanceMethod yX7_undo ∈ WB := inWB 1064 (by decide +kernel) (by decide +kernel)
theorem z_1065 : Cond.selects RX7 yX7_undo yX7_undo ∈ WB := inWB 1065 (by decide +kernel) (by decide +kernel)
theorem z_1066 : Cond.code yX7_undo cX7_undo 1 (some .int) ∈ WB := inWB 1066 (by decide +kernel) (by decide +kernel)
theorem z_648 : Cond.methodLink RL 68 yX6_over ∈ WB := inWB 648 (by decide +kernel) (by decide +kernel)
theorem z_649 : Cond.instanceMethod yX6_over ∈ WB := inWB 649 (by decide +kernel) (by decide +kernel)
theorem z_650 : Cond.selects RX6 yX6_over yX6_over ∈ WB := inWB 650 (by decide +kernel) (by decide +kernel)
theorem z_651 : Cond.code yX6_over cX6_over 5 (some .int) ∈ WB := inWB 651 (by decide +kernel) (by decide +kernel)
theorem z_1067 : Cond.methodLink RL 71 yX7_over ∈ WB := inWB 1067 (by decide +kernel) (by decide +kernel)
theorem z_1068 : Cond.instanceMethod yX7_over ∈ WB := inWB 1068 (by decide +kernel) (by decide +kernel)
theorem z_1069 : Cond.selects RX7 yX7_over yX7_over ∈ WB := inWB 1069 (by decide +kernel) (by decide +kernel)
theorem z_1070 : Cond.code yX7_over cX7_over 2 (some .int) ∈ WB := inWB 1070 (by decide +kernel) (by decide +kernel)
theorem z_659 : Cond.methodLink RL 72 yX6_fewest ∈ WB := inWB 659 (by decide +kernel) (by decide +kernel)
theorem z_660 : Cond.instanceMethod yX6_fewest ∈ WB := inWB 660 (by decide +kernel) (by decide +kernel)
theorem z_661 : Cond.selects RX6 yX6_fewest yX6_fewest ∈ WB := inWB 661 (by decide +kernel) (by decide +kernel)
theorem z_662 : Cond.code yX6_fewest cX6_fewest 2 (some .int) ∈ WB := inWB 662 (by decide +kernel) (by decide +kernel)
theorem z_1075 : Cond.methodLink RL 75 yX7_fewest ∈ WB := inWB 1075 (by decide +kernel) (by decide +kernel)
theorem z_1076 : Cond.instanceMethod yX7_fewest ∈ WB := inWB 1076 (by decide +kernel) (by decide +kernel)
theorem z_1077 : Cond.selects RX7 yX7_fewest yX7_fewest ∈ WB := inWB 1077 (by decide +kernel) (by decide +kernel)
theorem z_1078 : Cond.code yX7_fewest cX7_fewest 2 (some .int) ∈ WB := inWB 1078 (by decide +kernel) (by decide +kernel)
theorem z_701 : Cond.methodLink RL 76 yX6_mend ∈ WB := inWB 701 (by decide +kernel) (by decide +kernel)
theorem z_702 : Cond.instanceMethod yX6_mend ∈ WB := inWB 702 (by decide +kernel) (by decide +kernel)
theorem z_703 : Cond.selects RX6 yX6_mend yX6_mend ∈ WB := inWB 703 (by decide +kernel) (by decide +kernel)
theorem z_704 : Cond.code yX6_mend cX6_mend 4 (some .int) ∈ WB := inWB 704 (by decide +kernel) (by decide +kernel)
theorem z_1091 : Cond.methodLink RL 79 yX7_mend ∈ WB := inWB 1091 (by decide +kernel) (by decide +kernel)
theorem z_1092 : Cond.instanceMethod yX7_mend ∈ WB := inWB 1092 (by decide +kernel) (by decide +kernel)
theorem z_1093 : Cond.selects RX7 yX7_mend yX7_mend ∈ WB := inWB 1093 (by decide +kernel) (by decide +kernel)
theorem z_1094 : Cond.code yX7_mend cX7_mend 3 (some .int) ∈ WB := inWB 1094 (by decide +kernel) (by decide +kernel)
theorem z_713 : Cond.methodLink RL 80 yX6_calls ∈ WB := inWB 713 (by decide +kernel) (by decide +kernel)
theorem z_714 : Cond.instanceMethod yX6_calls ∈ WB := inWB 714 (by decide +kernel) (by decide +kernel)
theorem z_715 : Cond.selects RX6 yX6_calls yX6_calls ∈ WB := inWB 715 (by decide +kernel) (by decide +kernel)
theorem z_716 : Cond.code yX6_calls cX6_calls 6 (some .int) ∈ WB := inWB 716 (by decide +kernel) (by decide +kernel)
theorem z_1095 : Cond.methodLink RL 83 yX7_calls ∈ WB := inWB 1095 (by decide +kernel) (by decide +kernel)
theorem z_1096 : Cond.instanceMethod yX7_calls ∈ WB := inWB 1096 (by decide +kernel) (by decide +kernel)
theorem z_1097 : Cond.selects RX7 yX7_calls yX7_calls ∈ WB := inWB 1097 (by decide +kernel) (by decide +kernel)
theorem z_1098 : Cond.code yX7_calls cX7_calls 8 (some .int) ∈ WB := inWB 1098 (by decide +kernel) (by decide +kernel)
theorem z_722 : Cond.methodLink RL 84 yX6_second ∈ WB := inWB 722 (by decide +kernel) (by decide +kernel)
theorem z_723 : Cond.instanceMethod yX6_second ∈ WB := inWB 723 (by decide +kernel) (by decide +kernel)
theorem z_724 : Cond.selects RX6 yX6_second yX6_second ∈ WB := inWB 724 (by decide +kernel) (by decide +kernel)
theorem z_725 : Cond.code yX6_second cX6_second 3 (some .int) ∈ WB := inWB 725 (by decide +kernel) (by decide +kernel)
theorem z_1102 : Cond.methodLink RL 87 yX7_second ∈ WB := inWB 1102 (by decide +kernel) (by decide +kernel)
theorem z_1103 : Cond.instanceMethod yX7_second ∈ WB := inWB 1103 (by decide +kernel) (by decide +kernel)
theorem z_1104 : Cond.selects RX7 yX7_second yX7_second ∈ WB := inWB 1104 (by decide +kernel) (by decide +kernel)
theorem z_1105 : Cond.code yX7_second cX7_second 3 (some .int) ∈ WB := inWB 1105 (by decide +kernel) (by decide +kernel)
theorem z_736 : Cond.methodLink RL 88 yX6_years ∈ WB := inWB 736 (by decide +kernel) (by decide +kernel)
theorem z_737 : Cond.instanceMethod yX6_years ∈ WB := inWB 737 (by decide +kernel) (by decide +kernel)
theorem z_738 : Cond.selects RX6 yX6_years yX6_years ∈ WB := inWB 738 (by decide +kernel) (by decide +kernel)
theorem z_739 : Cond.code yX6_years cX6_years 2 (some .int) ∈ WB := inWB 739 (by decide +kernel) (by decide +kernel)
theorem z_1110 : Cond.methodLink RL 91 yX7_years ∈ WB := inWB 1110 (by decide +kernel) (by decide +kernel)
theorem z_1111 : Cond.instanceMethod yX7_years ∈ WB := inWB 1111 (by decide +kernel) (by decide +kernel)
theorem z_1112 : Cond.selects RX7 yX7_years yX7_years ∈ WB := inWB 1112 (by decide +kernel) (by decide +kernel)
theorem z_1113 : Cond.code yX7_years cX7_years 2 (some .int) ∈ WB := inWB 1113 (by decide +kernel) (by decide +kernel)
theorem z_741 : Cond.methodLink RL 92 yX6_seen ∈ WB := inWB 741 (by decide +kernel) (by decide +kernel)
theorem z_742 : Cond.instanceMethod yX6_seen ∈ WB := inWB 742 (by decide +kernel) (by decide +kernel)
theorem z_743 : Cond.selects RX6 yX6_seen yX6_seen ∈ WB := inWB 743 (by decide +kernel) (by decide +kernel)
theorem z_744 : Cond.code yX6_seen cX6_seen 3 (some .int) ∈ WB := inWB 744 (by decide +kernel) (by decide +kernel)
theorem z_1114 : Cond.methodLink RL 95 yX7_seen ∈ WB := inWB 1114 (by decide +kernel) (by decide +kernel)
theorem z_1115 : Cond.instanceMethod yX7_seen ∈ WB := inWB 1115 (by decide +kernel) (by decide +kernel)
theorem z_1116 : Cond.selects RX7 yX7_seen yX7_seen ∈ WB := inWB 1116 (by decide +kernel) (by decide +kernel)
theorem z_1117 : Cond.code yX7_seen cX7_seen 3 (some .int) ∈ WB := inWB 1117 (by decide +kernel) (by decide +kernel)
theorem z_745 : Cond.methodLink RL 96 yX6_forget ∈ WB := inWB 745 (by decide +kernel) (by decide +kernel)
theorem z_746 : Cond.instanceMethod yX6_forget ∈ WB := inWB 746 (by decide +kernel) (by decide +kernel)
theorem z_747 : Cond.selects RX6 yX6_forget yX6_forget ∈ WB := inWB 747 (by decide +kernel) (by decide +kernel)
theorem z_748 : Cond.code yX6_forget cX6_forget 2 (some .int) ∈ WB := inWB 748 (by decide +kernel) (by decide +kernel)
theorem z_1118 : Cond.methodLink RL 99 yX7_forget ∈ WB := inWB 1118 (by decide +kernel) (by decide +kernel)
theorem z_1119 : Cond.instanceMethod yX7_forget ∈ WB := inWB 1119 (by decide +kernel) (by decide +kernel)
theorem z_1120 : Cond.selects RX7 yX7_forget yX7_forget ∈ WB := inWB 1120 (by decide +kernel) (by decide +kernel)
theorem z_1121 : Cond.code yX7_forget cX7_forget 2 (some .int) ∈ WB := inWB 1121 (by decide +kernel) (by decide +kernel)
theorem z_749 : Cond.methodLink RL 100 yX6_stood ∈ WB := inWB 749 (by decide +kernel) (by decide +kernel)
theorem z_750 : Cond.instanceMethod yX6_stood ∈ WB := inWB 750 (by decide +kernel) (by decide +kernel)
theorem z_751 : Cond.selects RX6 yX6_stood yX6_stood ∈ WB := inWB 751 (by decide +kernel) (by decide +kernel)
theorem z_752 : Cond.code yX6_stood cX6_stood 4 (some .int) ∈ WB := inWB 752 (by decide +kernel) (by decide +kernel)
theorem z_1122 : Cond.methodLink RL 103 yX7_stood ∈ WB := inWB 1122 (by decide +kernel) (by decide +kernel)
theorem z_1123 : Cond.instanceMethod yX7_stood ∈ WB := inWB 1123 (by decide +kernel) (by decide +kernel)
theorem z_1124 : Cond.selects RX7 yX7_stood yX7_stood ∈ WB := inWB 1124 (by decide +kernel) (by decide +kernel)
theorem z_1125 : Cond.code yX7_stood cX7_stood 4 (some .int) ∈ WB := inWB 1125 (by decide +kernel) (by decide +kernel)
theorem z_759 : Cond.methodLink RL 104 yX6_rain ∈ WB := inWB 759 (by decide +kernel) (by decide +kernel)
theorem z_760 : Cond.instanceMethod yX6_rain ∈ WB := inWB 760 (by decide +kernel) (by decide +kernel)
theorem z_761 : Cond.selects RX6 yX6_rain yX6_rain ∈ WB := inWB 761 (by decide +kernel) (by decide +kernel)
theorem z_762 : Cond.code yX6_rain cX6_rain 7 (some .int) ∈ WB := inWB 762 (by decide +kernel) (by decide +kernel)
theorem z_1130 : Cond.methodLink RL 107 yX7_rain ∈ WB := inWB 1130 (by decide +kernel) (by decide +kernel)
theorem z_1131 : Cond.instanceMethod yX7_rain ∈ WB := inWB 1131 (by decide +kernel) (by decide +kernel)
theorem z_1132 : Cond.selects RX7 yX7_rain yX7_rain ∈ WB := inWB 1132 (by decide +kernel) (by decide +kernel)
theorem z_1133 : Cond.code yX7_rain cX7_rain 7 (some .int) ∈ WB := inWB 1133 (by decide +kernel) (by decide +kernel)
theorem z_765 : Cond.methodLink RL 108 yX6_century ∈ WB := inWB 765 (by decide +kernel) (by decide +kernel)
theorem z_766 : Cond.instanceMethod yX6_century ∈ WB := inWB 766 (by decide +kernel) (by decide +kernel)
theorem z_767 : Cond.selects RX6 yX6_century yX6_century ∈ WB := inWB 767 (by decide +kernel) (by decide +kernel)
theorem z_768 : Cond.code yX6_century cX6_century 7 (some .int) ∈ WB := inWB 768 (by decide +kernel) (by decide +kernel)
theorem z_1136 : Cond.methodLink RL 112 yX7_century ∈ WB := inWB 1136 (by decide +kernel) (by decide +kernel)
theorem z_1137 : Cond.instanceMethod yX7_century ∈ WB := inWB 1137 (by decide +kernel) (by decide +kernel)
theorem z_1138 : Cond.selects RX7 yX7_century yX7_century ∈ WB := inWB 1138 (by decide +kernel) (by decide +kernel)
theorem z_1139 : Cond.code yX7_century cX7_century 8 (some .int) ∈ WB := inWB 1139 (by decide +kernel) (by decide +kernel)
theorem z_782 : Cond.methodLink RL 113 yX6_keep ∈ WB := inWB 782 (by decide +kernel) (by decide +kernel)
theorem z_783 : Cond.instanceMethod yX6_keep ∈ WB := inWB 783 (by decide +kernel) (by decide +kernel)
theorem z_784 : Cond.selects RX6 yX6_keep yX6_keep ∈ WB := inWB 784 (by decide +kernel) (by decide +kernel)
theorem z_785 : Cond.code yX6_keep cX6_keep 1 (some .int) ∈ WB := inWB 785 (by decide +kernel) (by decide +kernel)
theorem z_1150 : Cond.methodLink RL 116 yX7_keep ∈ WB := inWB 1150 (by decide +kernel) (by decide +kernel)
theorem z_1151 : Cond.instanceMethod yX7_keep ∈ WB := inWB 1151 (by decide +kernel) (by decide +kernel)
theorem z_1152 : Cond.selects RX7 yX7_keep yX7_keep ∈ WB := inWB 1152 (by decide +kernel) (by decide +kernel)
theorem z_1153 : Cond.code yX7_keep cX7_keep 1 (some .int) ∈ WB := inWB 1153 (by decide +kernel) (by decide +kernel)
theorem z_787 : Cond.methodLink RL 117 yX6_back ∈ WB := inWB 787 (by decide +kernel) (by decide +kernel)
theorem z_788 : Cond.instanceMethod yX6_back ∈ WB := inWB 788 (by decide +kernel) (by decide +kernel)
theorem z_789 : Cond.selects RX6 yX6_back yX6_back ∈ WB := inWB 789 (by decide +kernel) (by decide +kernel)
theorem z_790 : Cond.code yX6_back cX6_back 1 (some .int) ∈ WB := inWB 790 (by decide +kernel) (by decide +kernel)
theorem z_1154 : Cond.methodLink RL 120 yX7_back ∈ WB := inWB 1154 (by decide +kernel) (by decide +kernel)
theorem z_1155 : Cond.instanceMethod yX7_back ∈ WB := inWB 1155 (by decide +kernel) (by decide +kernel)
theorem z_1156 : Cond.selects RX7 yX7_back yX7_back ∈ WB := inWB 1156 (by decide +kernel) (by decide +kernel)
theorem z_1157 : Cond.code yX7_back cX7_back 1 (some .int) ∈ WB := inWB 1157 (by decide +kernel) (by decide +kernel)
theorem z_791 : Cond.methodLink RL 121 yX6_count ∈ WB := inWB 791 (by decide +kernel) (by decide +kernel)
theorem z_792 : Cond.instanceMethod yX6_count ∈ WB := inWB 792 (by decide +kernel) (by decide +kernel)
theorem z_793 : Cond.selects RX6 yX6_count yX6_count ∈ WB := inWB 793 (by decide +kernel) (by decide +kernel)
theorem z_794 : Cond.code yX6_count cX6_count 2 (some .int) ∈ WB := inWB 794 (by decide +kernel) (by decide +kernel)
theorem z_1158 : Cond.methodLink RL 124 yX7_count ∈ WB := inWB 1158 (by decide +kernel) (by decide +kernel)
theorem z_1159 : Cond.instanceMethod yX7_count ∈ WB := inWB 1159 (by decide +kernel) (by decide +kernel)
theorem z_1160 : Cond.selects RX7 yX7_count yX7_count ∈ WB := inWB 1160 (by decide +kernel) (by decide +kernel)
theorem z_1161 : Cond.code yX7_count cX7_count 2 (some .int) ∈ WB := inWB 1161 (by decide +kernel) (by decide +kernel)
section LawCases
variable {p : Program} {l : Launch} {e : Env} {s : State} {m : MethodId} {below : List Frame} {meth : Method} {c : Code} {D : va_G} {dA : Nat → ClassId} {ad : Nat → Nat} {F : HF} {b L n : Nat} {xs : Nat → Int32}
set_option maxRecDepth 100000 in
set_option maxHeartbeats 4000000 in
theorem lc_0 (Z : LX p s m meth c D dA b L xs) (hn : 4 * n + 4 ≤ L) (hI : Inv n F) (kk : ∀ F', Inv (n + 1) F' → JL p l e s m below meth c D dA b ad F' 717 (4 * n)) : JL p l e s m below meth c D dA b ad F 156 (4 * n) := by
  obtain ⟨X, hX, hbl, hL, hr⟩ := Z
  have hA : ∀ q : Nat, s.heap.size ≤ q → (fun q : Nat => s.heap.size ≤ q) q := fun _ h => h
  have hbA : ¬ (fun q : Nat => s.heap.size ≤ q) b := Nat.not_le.mpr hbl
  refine g_aload_n X 2 dL_law_156 rfl rfl ?_
  refine g_aload_n X 3 dL_law_157 rfl rfl ?_
  refine g_iload_n X 0 dL_law_158 rfl rfl ?_
  refine g_iconst X (v := nI 1) dL_law_159 (by decide) ?_
  refine g_iadd X dL_law_160 ?_
  rw [nI_add]
  refine g_sld X hX hbl hbA (vin (by omega) (by omega)) dL_law_161 ?_
  refine l_callIV X hA (np := 1) (t := 0) (As := [.int (xs (nI (4 * n + 1)).toNatClampNeg)]) (st := []) (c_X6_write BBr_RA (t_write hI (xs (nI (4 * n + 1)).toNatClampNeg))) (gV z_364 z_365 z_366 z_52 z_367) cl_X6 BBr_RA.1 (by decide +kernel) rfl rfl rfl ⟨Nat.le_of_ble_eq_true rfl, Nat.le_of_ble_eq_true rfl⟩ ⟨Nat.le_of_ble_eq_true rfl, Nat.le_of_ble_eq_true rfl⟩ rfl (Nat.le_of_ble_eq_true rfl) dL_law_162 ?_
  intro r F1 h1
  refine g_aload_n X 1 dL_law_165 rfl rfl ?_
  refine g_aload_n X 3 dL_law_166 rfl rfl ?_
  refine g_iload_n X 0 dL_law_167 rfl rfl ?_
  refine g_iconst X (v := nI 1) dL_law_168 (by decide) ?_
  refine g_iadd X dL_law_169 ?_
  rw [nI_add]
  refine g_sld X hX hbl hbA (vin (by omega) (by omega)) dL_law_170 ?_
  refine l_callIV X hA (np := 1) (t := 100) (As := [.int (xs (nI (4 * n + 1)).toNatClampNeg)]) (st := [.int r]) (c_X7_write Md_RA h1) (gV z_914 z_915 z_916 z_64 z_917) cl_X7 Md_RA.1 (by decide +kernel) rfl rfl rfl ⟨Nat.le_of_ble_eq_true rfl, Nat.le_of_ble_eq_true rfl⟩ ⟨Nat.le_of_ble_eq_true rfl, Nat.le_of_ble_eq_true rfl⟩ rfl (Nat.le_of_ble_eq_true rfl) dL_law_171 ?_
  rintro r2 F2 ⟨e2, h2⟩
  exact g_icmp_eq X (tgt := 717) dL_law_174 (by decide) (fun _ => kk F2 h2) (fun g => absurd e2 g)
set_option maxRecDepth 100000 in
set_option maxHeartbeats 4000000 in
theorem lc_1 (Z : LX p s m meth c D dA b L xs) (hn : 4 * n + 4 ≤ L) (hI : Inv n F) (kk : ∀ F', Inv (n + 1) F' → JL p l e s m below meth c D dA b ad F' 717 (4 * n)) : JL p l e s m below meth c D dA b ad F 179 (4 * n) := by
  obtain ⟨X, hX, hbl, hL, hr⟩ := Z
  have hA : ∀ q : Nat, s.heap.size ≤ q → (fun q : Nat => s.heap.size ≤ q) q := fun _ h => h
  have hbA : ¬ (fun q : Nat => s.heap.size ≤ q) b := Nat.not_le.mpr hbl
  refine g_aload_n X 2 dL_law_179 rfl rfl ?_
  refine l_callIV X hA (np := 0) (t := 0) (As := []) (st := []) (c_X6_wipe BBr_RA (t_wipe hI)) (gV z_372 z_373 z_374 z_52 z_375) cl_X6 BBr_RA.1 (by decide +kernel) rfl rfl rfl ⟨Nat.le_of_ble_eq_true rfl, Nat.le_of_ble_eq_true rfl⟩ ⟨Nat.le_of_ble_eq_true rfl, Nat.le_of_ble_eq_true rfl⟩ rfl (Nat.le_of_ble_eq_true rfl) dL_law_180 ?_
  intro r F1 h1
  refine g_aload_n X 1 dL_law_183 rfl rfl ?_
  refine l_callIV X hA (np := 0) (t := 100) (As := []) (st := [.int r]) (c_X7_wipe Md_RA h1) (gV z_921 z_922 z_923 z_64 z_924) cl_X7 Md_RA.1 (by decide +kernel) rfl rfl rfl ⟨Nat.le_of_ble_eq_true rfl, Nat.le_of_ble_eq_true rfl⟩ ⟨Nat.le_of_ble_eq_true rfl, Nat.le_of_ble_eq_true rfl⟩ rfl (Nat.le_of_ble_eq_true rfl) dL_law_184 ?_
  rintro r2 F2 ⟨e2, h2⟩
  exact g_icmp_eq X (tgt := 717) dL_law_187 (by decide) (fun _ => kk F2 h2) (fun g => absurd e2 g)
set_option maxRecDepth 100000 in
set_option maxHeartbeats 4000000 in
theorem lc_2 (Z : LX p s m meth c D dA b L xs) (hn : 4 * n + 4 ≤ L) (hI : Inv n F) (kk : ∀ F', Inv (n + 1) F' → JL p l e s m below meth c D dA b ad F' 717 (4 * n)) : JL p l e s m below meth c D dA b ad F 192 (4 * n) := by
  obtain ⟨X, hX, hbl, hL, hr⟩ := Z
  have hA : ∀ q : Nat, s.heap.size ≤ q → (fun q : Nat => s.heap.size ≤ q) q := fun _ h => h
  have hbA : ¬ (fun q : Nat => s.heap.size ≤ q) b := Nat.not_le.mpr hbl
  refine g_aload_n X 2 dL_law_192 rfl rfl ?_
  refine l_callIV X hA (np := 0) (t := 0) (As := []) (st := []) (c_X6_fault BBr_RA (t_fault hI)) (gV z_376 z_377 z_378 z_52 z_379) cl_X6 BBr_RA.1 (by decide +kernel) rfl rfl rfl ⟨Nat.le_of_ble_eq_true rfl, Nat.le_of_ble_eq_true rfl⟩ ⟨Nat.le_of_ble_eq_true rfl, Nat.le_of_ble_eq_true rfl⟩ rfl (Nat.le_of_ble_eq_true rfl) dL_law_193 ?_
  intro r F1 h1
  refine g_aload_n X 1 dL_law_196 rfl rfl ?_
  refine l_callIV X hA (np := 0) (t := 100) (As := []) (st := [.int r]) (c_X7_fault Md_RA h1) (gV z_925 z_926 z_927 z_64 z_928) cl_X7 Md_RA.1 (by decide +kernel) rfl rfl rfl ⟨Nat.le_of_ble_eq_true rfl, Nat.le_of_ble_eq_true rfl⟩ ⟨Nat.le_of_ble_eq_true rfl, Nat.le_of_ble_eq_true rfl⟩ rfl (Nat.le_of_ble_eq_true rfl) dL_law_197 ?_
  rintro r2 F2 ⟨e2, h2⟩
  exact g_icmp_eq X (tgt := 717) dL_law_200 (by decide) (fun _ => kk F2 h2) (fun g => absurd e2 g)
set_option maxRecDepth 100000 in
set_option maxHeartbeats 4000000 in
theorem lc_3 (Z : LX p s m meth c D dA b L xs) (hn : 4 * n + 4 ≤ L) (hI : Inv n F) (kk : ∀ F', Inv (n + 1) F' → JL p l e s m below meth c D dA b ad F' 717 (4 * n)) : JL p l e s m below meth c D dA b ad F 205 (4 * n) := by
  obtain ⟨X, hX, hbl, hL, hr⟩ := Z
  have hA : ∀ q : Nat, s.heap.size ≤ q → (fun q : Nat => s.heap.size ≤ q) q := fun _ h => h
  have hbA : ¬ (fun q : Nat => s.heap.size ≤ q) b := Nat.not_le.mpr hbl
  refine g_aload_n X 2 dL_law_205 rfl rfl ?_
  refine l_callIV X hA (np := 0) (t := 0) (As := []) (st := []) (c_X6_lay BBr_RA (t_lay1 hI)) (gV z_380 z_381 z_382 z_52 z_383) cl_X6 BBr_RA.1 (by decide +kernel) rfl rfl rfl ⟨Nat.le_of_ble_eq_true rfl, Nat.le_of_ble_eq_true rfl⟩ ⟨Nat.le_of_ble_eq_true rfl, Nat.le_of_ble_eq_true rfl⟩ rfl (Nat.le_of_ble_eq_true rfl) dL_law_206 ?_
  intro r F1 h1
  refine g_aload_n X 1 dL_law_209 rfl rfl ?_
  refine l_callIV X hA (np := 0) (t := 100) (As := []) (st := [.int r]) (c_X7_lay Md_RA h1) (gV z_945 z_946 z_947 z_64 z_948) cl_X7 Md_RA.1 (by decide +kernel) rfl rfl rfl ⟨Nat.le_of_ble_eq_true rfl, Nat.le_of_ble_eq_true rfl⟩ ⟨Nat.le_of_ble_eq_true rfl, Nat.le_of_ble_eq_true rfl⟩ rfl (Nat.le_of_ble_eq_true rfl) dL_law_210 ?_
  rintro r2 F2 ⟨e2, h2⟩
  exact g_icmp_eq X (tgt := 717) dL_law_213 (by decide) (fun _ => kk F2 h2) (fun g => absurd e2 g)
set_option maxRecDepth 100000 in
set_option maxHeartbeats 4000000 in
theorem lc_4 (Z : LX p s m meth c D dA b L xs) (hn : 4 * n + 4 ≤ L) (hI : Inv n F) (kk : ∀ F', Inv (n + 1) F' → JL p l e s m below meth c D dA b ad F' 717 (4 * n)) : JL p l e s m below meth c D dA b ad F 218 (4 * n) := by
  obtain ⟨X, hX, hbl, hL, hr⟩ := Z
  have hA : ∀ q : Nat, s.heap.size ≤ q → (fun q : Nat => s.heap.size ≤ q) q := fun _ h => h
  have hbA : ¬ (fun q : Nat => s.heap.size ≤ q) b := Nat.not_le.mpr hbl
  refine g_aload_n X 2 dL_law_218 rfl rfl ?_
  refine g_aload_n X 3 dL_law_219 rfl rfl ?_
  refine g_iload_n X 0 dL_law_220 rfl rfl ?_
  refine g_iconst X (v := nI 1) dL_law_221 (by decide) ?_
  refine g_iadd X dL_law_222 ?_
  rw [nI_add]
  refine g_sld X hX hbl hbA (vin (by omega) (by omega)) dL_law_223 ?_
  refine g_aload_n X 3 dL_law_224 rfl rfl ?_
  refine g_iload_n X 0 dL_law_225 rfl rfl ?_
  refine g_iconst X (v := nI 2) dL_law_226 (by decide) ?_
  refine g_iadd X dL_law_227 ?_
  rw [nI_add]
  refine g_sld X hX hbl hbA (vin (by omega) (by omega)) dL_law_228 ?_
  refine l_callIV X hA (np := 2) (t := 0) (As := [.int (xs (nI (4 * n + 1)).toNatClampNeg), .int (xs (nI (4 * n + 2)).toNatClampNeg)]) (st := []) (c_X6_bird BBr_RA (t_bird hI (xs (nI (4 * n + 1)).toNatClampNeg) (xs (nI (4 * n + 2)).toNatClampNeg))) (gV z_415 z_416 z_417 z_52 z_418) cl_X6 BBr_RA.1 (by decide +kernel) rfl rfl rfl ⟨Nat.le_of_ble_eq_true rfl, Nat.le_of_ble_eq_true rfl⟩ ⟨Nat.le_of_ble_eq_true rfl, Nat.le_of_ble_eq_true rfl⟩ rfl (Nat.le_of_ble_eq_true rfl) dL_law_229 ?_
  intro r F1 h1
  refine g_aload_n X 1 dL_law_232 rfl rfl ?_
  refine g_aload_n X 3 dL_law_233 rfl rfl ?_
  refine g_iload_n X 0 dL_law_234 rfl rfl ?_
  refine g_iconst X (v := nI 1) dL_law_235 (by decide) ?_
  refine g_iadd X dL_law_236 ?_
  rw [nI_add]
  refine g_sld X hX hbl hbA (vin (by omega) (by omega)) dL_law_237 ?_
  refine g_aload_n X 3 dL_law_238 rfl rfl ?_
  refine g_iload_n X 0 dL_law_239 rfl rfl ?_
  refine g_iconst X (v := nI 2) dL_law_240 (by decide) ?_
  refine g_iadd X dL_law_241 ?_
  rw [nI_add]
  refine g_sld X hX hbl hbA (vin (by omega) (by omega)) dL_law_242 ?_
  refine l_callIV X hA (np := 2) (t := 100) (As := [.int (xs (nI (4 * n + 1)).toNatClampNeg), .int (xs (nI (4 * n + 2)).toNatClampNeg)]) (st := [.int r]) (c_X7_bird Md_RA h1) (gV z_949 z_950 z_951 z_64 z_952) cl_X7 Md_RA.1 (by decide +kernel) rfl rfl rfl ⟨Nat.le_of_ble_eq_true rfl, Nat.le_of_ble_eq_true rfl⟩ ⟨Nat.le_of_ble_eq_true rfl, Nat.le_of_ble_eq_true rfl⟩ rfl (Nat.le_of_ble_eq_true rfl) dL_law_243 ?_
  rintro r2 F2 ⟨e2, h2⟩
  exact g_icmp_eq X (tgt := 717) dL_law_246 (by decide) (fun _ => kk F2 h2) (fun g => absurd e2 g)
set_option maxRecDepth 100000 in
set_option maxHeartbeats 4000000 in
theorem lc_5 (Z : LX p s m meth c D dA b L xs) (hn : 4 * n + 4 ≤ L) (hI : Inv n F) (kk : ∀ F', Inv (n + 1) F' → JL p l e s m below meth c D dA b ad F' 717 (4 * n)) : JL p l e s m below meth c D dA b ad F 251 (4 * n) := by
  obtain ⟨X, hX, hbl, hL, hr⟩ := Z
  have hA : ∀ q : Nat, s.heap.size ≤ q → (fun q : Nat => s.heap.size ≤ q) q := fun _ h => h
  have hbA : ¬ (fun q : Nat => s.heap.size ≤ q) b := Nat.not_le.mpr hbl
  refine g_aload_n X 2 dL_law_251 rfl rfl ?_
  refine g_aload_n X 3 dL_law_252 rfl rfl ?_
  refine g_iload_n X 0 dL_law_253 rfl rfl ?_
  refine g_iconst X (v := nI 1) dL_law_254 (by decide) ?_
  refine g_iadd X dL_law_255 ?_
  rw [nI_add]
  refine g_sld X hX hbl hbA (vin (by omega) (by omega)) dL_law_256 ?_
  refine l_callIV X hA (np := 1) (t := 0) (As := [.int (xs (nI (4 * n + 1)).toNatClampNeg)]) (st := []) (c_X6_wind BBr_RA (t_wind hI (xs (nI (4 * n + 1)).toNatClampNeg))) (gV z_451 z_452 z_453 z_52 z_454) cl_X6 BBr_RA.1 (by decide +kernel) rfl rfl rfl ⟨Nat.le_of_ble_eq_true rfl, Nat.le_of_ble_eq_true rfl⟩ ⟨Nat.le_of_ble_eq_true rfl, Nat.le_of_ble_eq_true rfl⟩ rfl (Nat.le_of_ble_eq_true rfl) dL_law_257 ?_
  intro r F1 h1
  refine g_aload_n X 1 dL_law_260 rfl rfl ?_
  refine g_aload_n X 3 dL_law_261 rfl rfl ?_
  refine g_iload_n X 0 dL_law_262 rfl rfl ?_
  refine g_iconst X (v := nI 1) dL_law_263 (by decide) ?_
  refine g_iadd X dL_law_264 ?_
  rw [nI_add]
  refine g_sld X hX hbl hbA (vin (by omega) (by omega)) dL_law_265 ?_
  refine l_callIV X hA (np := 1) (t := 100) (As := [.int (xs (nI (4 * n + 1)).toNatClampNeg)]) (st := [.int r]) (c_X7_wind Md_RA h1) (gV z_961 z_962 z_963 z_64 z_964) cl_X7 Md_RA.1 (by decide +kernel) rfl rfl rfl ⟨Nat.le_of_ble_eq_true rfl, Nat.le_of_ble_eq_true rfl⟩ ⟨Nat.le_of_ble_eq_true rfl, Nat.le_of_ble_eq_true rfl⟩ rfl (Nat.le_of_ble_eq_true rfl) dL_law_266 ?_
  rintro r2 F2 ⟨e2, h2⟩
  exact g_icmp_eq X (tgt := 717) dL_law_269 (by decide) (fun _ => kk F2 h2) (fun g => absurd e2 g)
set_option maxRecDepth 100000 in
set_option maxHeartbeats 4000000 in
theorem lc_6 (Z : LX p s m meth c D dA b L xs) (hn : 4 * n + 4 ≤ L) (hI : Inv n F) (kk : ∀ F', Inv (n + 1) F' → JL p l e s m below meth c D dA b ad F' 717 (4 * n)) : JL p l e s m below meth c D dA b ad F 274 (4 * n) := by
  obtain ⟨X, hX, hbl, hL, hr⟩ := Z
  have hA : ∀ q : Nat, s.heap.size ≤ q → (fun q : Nat => s.heap.size ≤ q) q := fun _ h => h
  have hbA : ¬ (fun q : Nat => s.heap.size ≤ q) b := Nat.not_le.mpr hbl
  refine g_aload_n X 2 dL_law_274 rfl rfl ?_
  refine g_aload_n X 3 dL_law_275 rfl rfl ?_
  refine g_iload_n X 0 dL_law_276 rfl rfl ?_
  refine g_iconst X (v := nI 1) dL_law_277 (by decide) ?_
  refine g_iadd X dL_law_278 ?_
  rw [nI_add]
  refine g_sld X hX hbl hbA (vin (by omega) (by omega)) dL_law_279 ?_
  refine g_aload_n X 3 dL_law_280 rfl rfl ?_
  refine g_iload_n X 0 dL_law_281 rfl rfl ?_
  refine g_iconst X (v := nI 2) dL_law_282 (by decide) ?_
  refine g_iadd X dL_law_283 ?_
  rw [nI_add]
  refine g_sld X hX hbl hbA (vin (by omega) (by omega)) dL_law_284 ?_
  refine l_callIV X hA (np := 2) (t := 0) (As := [.int (xs (nI (4 * n + 1)).toNatClampNeg), .int (xs (nI (4 * n + 2)).toNatClampNeg)]) (st := []) (c_X6_span BBr_RA (t_span hI (by omega) (xs (nI (4 * n + 1)).toNatClampNeg) (xs (nI (4 * n + 2)).toNatClampNeg))) (gV z_459 z_460 z_461 z_52 z_462) cl_X6 BBr_RA.1 (by decide +kernel) rfl rfl rfl ⟨Nat.le_of_ble_eq_true rfl, Nat.le_of_ble_eq_true rfl⟩ ⟨Nat.le_of_ble_eq_true rfl, Nat.le_of_ble_eq_true rfl⟩ rfl (Nat.le_of_ble_eq_true rfl) dL_law_285 ?_
  intro r F1 h1
  refine g_aload_n X 1 dL_law_288 rfl rfl ?_
  refine g_aload_n X 3 dL_law_289 rfl rfl ?_
  refine g_iload_n X 0 dL_law_290 rfl rfl ?_
  refine g_iconst X (v := nI 1) dL_law_291 (by decide) ?_
  refine g_iadd X dL_law_292 ?_
  rw [nI_add]
  refine g_sld X hX hbl hbA (vin (by omega) (by omega)) dL_law_293 ?_
  refine g_aload_n X 3 dL_law_294 rfl rfl ?_
  refine g_iload_n X 0 dL_law_295 rfl rfl ?_
  refine g_iconst X (v := nI 2) dL_law_296 (by decide) ?_
  refine g_iadd X dL_law_297 ?_
  rw [nI_add]
  refine g_sld X hX hbl hbA (vin (by omega) (by omega)) dL_law_298 ?_
  refine l_callIV X hA (np := 2) (t := 100) (As := [.int (xs (nI (4 * n + 1)).toNatClampNeg), .int (xs (nI (4 * n + 2)).toNatClampNeg)]) (st := [.int r]) (c_X7_span Md_RA h1) (gV z_969 z_970 z_971 z_64 z_972) cl_X7 Md_RA.1 (by decide +kernel) rfl rfl rfl ⟨Nat.le_of_ble_eq_true rfl, Nat.le_of_ble_eq_true rfl⟩ ⟨Nat.le_of_ble_eq_true rfl, Nat.le_of_ble_eq_true rfl⟩ rfl (Nat.le_of_ble_eq_true rfl) dL_law_299 ?_
  rintro r2 F2 ⟨e2, h2⟩
  exact g_icmp_eq X (tgt := 717) dL_law_302 (by decide) (fun _ => kk F2 h2) (fun g => absurd e2 g)
set_option maxRecDepth 100000 in
set_option maxHeartbeats 4000000 in
theorem lc_7 (Z : LX p s m meth c D dA b L xs) (hn : 4 * n + 4 ≤ L) (hI : Inv n F) (kk : ∀ F', Inv (n + 1) F' → JL p l e s m below meth c D dA b ad F' 717 (4 * n)) : JL p l e s m below meth c D dA b ad F 307 (4 * n) := by
  obtain ⟨X, hX, hbl, hL, hr⟩ := Z
  have hA : ∀ q : Nat, s.heap.size ≤ q → (fun q : Nat => s.heap.size ≤ q) q := fun _ h => h
  have hbA : ¬ (fun q : Nat => s.heap.size ≤ q) b := Nat.not_le.mpr hbl
  refine g_aload_n X 2 dL_law_307 rfl rfl ?_
  refine g_aload_n X 3 dL_law_308 rfl rfl ?_
  refine g_iload_n X 0 dL_law_309 rfl rfl ?_
  refine g_iconst X (v := nI 1) dL_law_310 (by decide) ?_
  refine g_iadd X dL_law_311 ?_
  rw [nI_add]
  refine g_sld X hX hbl hbA (vin (by omega) (by omega)) dL_law_312 ?_
  refine l_callIV X hA (np := 1) (t := 0) (As := [.int (xs (nI (4 * n + 1)).toNatClampNeg)]) (st := []) (c_X6_join BBr_RA (t_join hI (by omega) (xs (nI (4 * n + 1)).toNatClampNeg))) (gV z_540 z_541 z_542 z_52 z_543) cl_X6 BBr_RA.1 (by decide +kernel) rfl rfl rfl ⟨Nat.le_of_ble_eq_true rfl, Nat.le_of_ble_eq_true rfl⟩ ⟨Nat.le_of_ble_eq_true rfl, Nat.le_of_ble_eq_true rfl⟩ rfl (Nat.le_of_ble_eq_true rfl) dL_law_313 ?_
  intro r F1 h1
  refine g_aload_n X 1 dL_law_316 rfl rfl ?_
  refine g_aload_n X 3 dL_law_317 rfl rfl ?_
  refine g_iload_n X 0 dL_law_318 rfl rfl ?_
  refine g_iconst X (v := nI 1) dL_law_319 (by decide) ?_
  refine g_iadd X dL_law_320 ?_
  rw [nI_add]
  refine g_sld X hX hbl hbA (vin (by omega) (by omega)) dL_law_321 ?_
  refine l_callIV X hA (np := 1) (t := 100) (As := [.int (xs (nI (4 * n + 1)).toNatClampNeg)]) (st := [.int r]) (c_X7_join Md_RA h1) (gV z_1008 z_1009 z_1010 z_64 z_1011) cl_X7 Md_RA.1 (by decide +kernel) rfl rfl rfl ⟨Nat.le_of_ble_eq_true rfl, Nat.le_of_ble_eq_true rfl⟩ ⟨Nat.le_of_ble_eq_true rfl, Nat.le_of_ble_eq_true rfl⟩ rfl (Nat.le_of_ble_eq_true rfl) dL_law_322 ?_
  rintro r2 F2 ⟨e2, h2⟩
  exact g_icmp_eq X (tgt := 717) dL_law_325 (by decide) (fun _ => kk F2 h2) (fun g => absurd e2 g)
set_option maxRecDepth 100000 in
set_option maxHeartbeats 4000000 in
theorem lc_8 (Z : LX p s m meth c D dA b L xs) (hn : 4 * n + 4 ≤ L) (hI : Inv n F) (kk : ∀ F', Inv (n + 1) F' → JL p l e s m below meth c D dA b ad F' 717 (4 * n)) : JL p l e s m below meth c D dA b ad F 330 (4 * n) := by
  obtain ⟨X, hX, hbl, hL, hr⟩ := Z
  have hA : ∀ q : Nat, s.heap.size ≤ q → (fun q : Nat => s.heap.size ≤ q) q := fun _ h => h
  have hbA : ¬ (fun q : Nat => s.heap.size ≤ q) b := Nat.not_le.mpr hbl
  refine g_aload_n X 2 dL_law_330 rfl rfl ?_
  refine l_callIV X hA (np := 0) (t := 0) (As := []) (st := []) (c_X6_leave BBr_RA (t_leave hI (by omega))) (gV z_585 z_586 z_587 z_52 z_588) cl_X6 BBr_RA.1 (by decide +kernel) rfl rfl rfl ⟨Nat.le_of_ble_eq_true rfl, Nat.le_of_ble_eq_true rfl⟩ ⟨Nat.le_of_ble_eq_true rfl, Nat.le_of_ble_eq_true rfl⟩ rfl (Nat.le_of_ble_eq_true rfl) dL_law_331 ?_
  intro r F1 h1
  refine g_aload_n X 1 dL_law_334 rfl rfl ?_
  refine l_callIV X hA (np := 0) (t := 100) (As := []) (st := [.int r]) (c_X7_leave Md_RA h1) (gV z_1035 z_1036 z_1037 z_64 z_1038) cl_X7 Md_RA.1 (by decide +kernel) rfl rfl rfl ⟨Nat.le_of_ble_eq_true rfl, Nat.le_of_ble_eq_true rfl⟩ ⟨Nat.le_of_ble_eq_true rfl, Nat.le_of_ble_eq_true rfl⟩ rfl (Nat.le_of_ble_eq_true rfl) dL_law_335 ?_
  rintro r2 F2 ⟨e2, h2⟩
  exact g_icmp_eq X (tgt := 717) dL_law_338 (by decide) (fun _ => kk F2 h2) (fun g => absurd e2 g)
set_option maxRecDepth 100000 in
set_option maxHeartbeats 4000000 in
theorem lc_9 (Z : LX p s m meth c D dA b L xs) (hn : 4 * n + 4 ≤ L) (hI : Inv n F) (kk : ∀ F', Inv (n + 1) F' → JL p l e s m below meth c D dA b ad F' 717 (4 * n)) : JL p l e s m below meth c D dA b ad F 343 (4 * n) := by
  obtain ⟨X, hX, hbl, hL, hr⟩ := Z
  have hA : ∀ q : Nat, s.heap.size ≤ q → (fun q : Nat => s.heap.size ≤ q) q := fun _ h => h
  have hbA : ¬ (fun q : Nat => s.heap.size ≤ q) b := Nat.not_le.mpr hbl
  refine g_aload_n X 2 dL_law_343 rfl rfl ?_
  refine l_callIV X hA (np := 0) (t := 0) (As := []) (st := []) (c_X6_step BBr_RA (t_step hI (by omega))) (gV z_593 z_594 z_595 z_52 z_596) cl_X6 BBr_RA.1 (by decide +kernel) rfl rfl rfl ⟨Nat.le_of_ble_eq_true rfl, Nat.le_of_ble_eq_true rfl⟩ ⟨Nat.le_of_ble_eq_true rfl, Nat.le_of_ble_eq_true rfl⟩ rfl (Nat.le_of_ble_eq_true rfl) dL_law_344 ?_
  intro r F1 h1
  refine g_aload_n X 1 dL_law_347 rfl rfl ?_
  refine l_callIV X hA (np := 0) (t := 100) (As := []) (st := [.int r]) (c_X7_step Md_RA h1) (gV z_1039 z_1040 z_1041 z_64 z_1042) cl_X7 Md_RA.1 (by decide +kernel) rfl rfl rfl ⟨Nat.le_of_ble_eq_true rfl, Nat.le_of_ble_eq_true rfl⟩ ⟨Nat.le_of_ble_eq_true rfl, Nat.le_of_ble_eq_true rfl⟩ rfl (Nat.le_of_ble_eq_true rfl) dL_law_348 ?_
  rintro r2 F2 ⟨e2, h2⟩
  exact g_icmp_eq X (tgt := 717) dL_law_351 (by decide) (fun _ => kk F2 h2) (fun g => absurd e2 g)
set_option maxRecDepth 100000 in
set_option maxHeartbeats 4000000 in
theorem lc_10 (Z : LX p s m meth c D dA b L xs) (hn : 4 * n + 4 ≤ L) (hI : Inv n F) (kk : ∀ F', Inv (n + 1) F' → JL p l e s m below meth c D dA b ad F' 717 (4 * n)) : JL p l e s m below meth c D dA b ad F 356 (4 * n) := by
  obtain ⟨X, hX, hbl, hL, hr⟩ := Z
  have hA : ∀ q : Nat, s.heap.size ≤ q → (fun q : Nat => s.heap.size ≤ q) q := fun _ h => h
  have hbA : ¬ (fun q : Nat => s.heap.size ≤ q) b := Nat.not_le.mpr hbl
  refine g_aload_n X 2 dL_law_356 rfl rfl ?_
  refine l_callIV X hA (np := 0) (t := 0) (As := []) (st := []) (c_X6_stand BBr_RA (t_stand hI (by omega))) (gV z_624 z_625 z_626 z_52 z_627) cl_X6 BBr_RA.1 (by decide +kernel) rfl rfl rfl ⟨Nat.le_of_ble_eq_true rfl, Nat.le_of_ble_eq_true rfl⟩ ⟨Nat.le_of_ble_eq_true rfl, Nat.le_of_ble_eq_true rfl⟩ rfl (Nat.le_of_ble_eq_true rfl) dL_law_357 ?_
  intro r F1 h1
  refine g_aload_n X 1 dL_law_360 rfl rfl ?_
  refine l_callIV X hA (np := 0) (t := 100) (As := []) (st := [.int r]) (c_X7_stand Md_RA h1) (gV z_1055 z_1056 z_1057 z_64 z_1058) cl_X7 Md_RA.1 (by decide +kernel) rfl rfl rfl ⟨Nat.le_of_ble_eq_true rfl, Nat.le_of_ble_eq_true rfl⟩ ⟨Nat.le_of_ble_eq_true rfl, Nat.le_of_ble_eq_true rfl⟩ rfl (Nat.le_of_ble_eq_true rfl) dL_law_361 ?_
  rintro r2 F2 ⟨e2, h2⟩
  exact g_icmp_eq X (tgt := 717) dL_law_364 (by decide) (fun _ => kk F2 h2) (fun g => absurd e2 g)
set_option maxRecDepth 100000 in
set_option maxHeartbeats 4000000 in
theorem lc_11 (Z : LX p s m meth c D dA b L xs) (hn : 4 * n + 4 ≤ L) (hI : Inv n F) (kk : ∀ F', Inv (n + 1) F' → JL p l e s m below meth c D dA b ad F' 717 (4 * n)) : JL p l e s m below meth c D dA b ad F 369 (4 * n) := by
  obtain ⟨X, hX, hbl, hL, hr⟩ := Z
  have hA : ∀ q : Nat, s.heap.size ≤ q → (fun q : Nat => s.heap.size ≤ q) q := fun _ h => h
  have hbA : ¬ (fun q : Nat => s.heap.size ≤ q) b := Nat.not_le.mpr hbl
  refine g_aload_n X 2 dL_law_369 rfl rfl ?_
  refine g_aload_n X 3 dL_law_370 rfl rfl ?_
  refine g_iload_n X 0 dL_law_371 rfl rfl ?_
  refine g_iconst X (v := nI 1) dL_law_372 (by decide) ?_
  refine g_iadd X dL_law_373 ?_
  rw [nI_add]
  refine g_sld X hX hbl hbA (vin (by omega) (by omega)) dL_law_374 ?_
  refine l_callIV X hA (np := 1) (t := 0) (As := [.int (xs (nI (4 * n + 1)).toNatClampNeg)]) (st := []) (c_X6_year BBr_RA (t_year hI (by omega) (xs (nI (4 * n + 1)).toNatClampNeg))) (gV z_628 z_629 z_630 z_52 z_631) cl_X6 BBr_RA.1 (by decide +kernel) rfl rfl rfl ⟨Nat.le_of_ble_eq_true rfl, Nat.le_of_ble_eq_true rfl⟩ ⟨Nat.le_of_ble_eq_true rfl, Nat.le_of_ble_eq_true rfl⟩ rfl (Nat.le_of_ble_eq_true rfl) dL_law_375 ?_
  intro r F1 h1
  refine g_aload_n X 1 dL_law_378 rfl rfl ?_
  refine g_aload_n X 3 dL_law_379 rfl rfl ?_
  refine g_iload_n X 0 dL_law_380 rfl rfl ?_
  refine g_iconst X (v := nI 1) dL_law_381 (by decide) ?_
  refine g_iadd X dL_law_382 ?_
  rw [nI_add]
  refine g_sld X hX hbl hbA (vin (by omega) (by omega)) dL_law_383 ?_
  refine l_callIV X hA (np := 1) (t := 100) (As := [.int (xs (nI (4 * n + 1)).toNatClampNeg)]) (st := [.int r]) (c_X7_year Md_RA h1) (gV z_1059 z_1060 z_1061 z_64 z_1062) cl_X7 Md_RA.1 (by decide +kernel) rfl rfl rfl ⟨Nat.le_of_ble_eq_true rfl, Nat.le_of_ble_eq_true rfl⟩ ⟨Nat.le_of_ble_eq_true rfl, Nat.le_of_ble_eq_true rfl⟩ rfl (Nat.le_of_ble_eq_true rfl) dL_law_384 ?_
  rintro r2 F2 ⟨e2, h2⟩
  exact g_icmp_eq X (tgt := 717) dL_law_387 (by decide) (fun _ => kk F2 h2) (fun g => absurd e2 g)
set_option maxRecDepth 100000 in
set_option maxHeartbeats 4000000 in
theorem lc_12 (Z : LX p s m meth c D dA b L xs) (hn : 4 * n + 4 ≤ L) (hI : Inv n F) (kk : ∀ F', Inv (n + 1) F' → JL p l e s m below meth c D dA b ad F' 717 (4 * n)) : JL p l e s m below meth c D dA b ad F 392 (4 * n) := by
  obtain ⟨X, hX, hbl, hL, hr⟩ := Z
  have hA : ∀ q : Nat, s.heap.size ≤ q → (fun q : Nat => s.heap.size ≤ q) q := fun _ h => h
  have hbA : ¬ (fun q : Nat => s.heap.size ≤ q) b := Nat.not_le.mpr hbl
  refine g_aload_n X 2 dL_law_392 rfl rfl ?_
  refine l_callIV X hA (np := 0) (t := 0) (As := []) (st := []) (c_X6_undo BBr_RA (t_undo hI)) (gV z_636 z_637 z_638 z_52 z_639) cl_X6 BBr_RA.1 (by decide +kernel) rfl rfl rfl ⟨Nat.le_of_ble_eq_true rfl, Nat.le_of_ble_eq_true rfl⟩ ⟨Nat.le_of_ble_eq_true rfl, Nat.le_of_ble_eq_true rfl⟩ rfl (Nat.le_of_ble_eq_true rfl) dL_law_393 ?_
  intro r F1 h1
  refine g_aload_n X 1 dL_law_396 rfl rfl ?_
  refine l_callIV X hA (np := 0) (t := 100) (As := []) (st := [.int r]) (c_X7_undo Md_RA h1) (gV z_1063 z_1064 z_1065 z_64 z_1066) cl_X7 Md_RA.1 (by decide +kernel) rfl rfl rfl ⟨Nat.le_of_ble_eq_true rfl, Nat.le_of_ble_eq_true rfl⟩ ⟨Nat.le_of_ble_eq_true rfl, Nat.le_of_ble_eq_true rfl⟩ rfl (Nat.le_of_ble_eq_true rfl) dL_law_397 ?_
  rintro r2 F2 ⟨e2, h2⟩
  exact g_icmp_eq X (tgt := 717) dL_law_400 (by decide) (fun _ => kk F2 h2) (fun g => absurd e2 g)
set_option maxRecDepth 100000 in
set_option maxHeartbeats 4000000 in
theorem lc_13 (Z : LX p s m meth c D dA b L xs) (hn : 4 * n + 4 ≤ L) (hI : Inv n F) (kk : ∀ F', Inv (n + 1) F' → JL p l e s m below meth c D dA b ad F' 717 (4 * n)) : JL p l e s m below meth c D dA b ad F 405 (4 * n) := by
  obtain ⟨X, hX, hbl, hL, hr⟩ := Z
  have hA : ∀ q : Nat, s.heap.size ≤ q → (fun q : Nat => s.heap.size ≤ q) q := fun _ h => h
  have hbA : ¬ (fun q : Nat => s.heap.size ≤ q) b := Nat.not_le.mpr hbl
  refine g_aload_n X 2 dL_law_405 rfl rfl ?_
  refine g_aload_n X 3 dL_law_406 rfl rfl ?_
  refine g_iload_n X 0 dL_law_407 rfl rfl ?_
  refine g_iconst X (v := nI 1) dL_law_408 (by decide) ?_
  refine g_iadd X dL_law_409 ?_
  rw [nI_add]
  refine g_sld X hX hbl hbA (vin (by omega) (by omega)) dL_law_410 ?_
  refine l_callIV X hA (np := 1) (t := 0) (As := [.int (xs (nI (4 * n + 1)).toNatClampNeg)]) (st := []) (c_X6_over BBr_RA (t_over hI (by omega) (xs (nI (4 * n + 1)).toNatClampNeg))) (gV z_648 z_649 z_650 z_52 z_651) cl_X6 BBr_RA.1 (by decide +kernel) rfl rfl rfl ⟨Nat.le_of_ble_eq_true rfl, Nat.le_of_ble_eq_true rfl⟩ ⟨Nat.le_of_ble_eq_true rfl, Nat.le_of_ble_eq_true rfl⟩ rfl (Nat.le_of_ble_eq_true rfl) dL_law_411 ?_
  intro r F1 h1
  refine g_aload_n X 1 dL_law_414 rfl rfl ?_
  refine g_aload_n X 3 dL_law_415 rfl rfl ?_
  refine g_iload_n X 0 dL_law_416 rfl rfl ?_
  refine g_iconst X (v := nI 1) dL_law_417 (by decide) ?_
  refine g_iadd X dL_law_418 ?_
  rw [nI_add]
  refine g_sld X hX hbl hbA (vin (by omega) (by omega)) dL_law_419 ?_
  refine l_callIV X hA (np := 1) (t := 100) (As := [.int (xs (nI (4 * n + 1)).toNatClampNeg)]) (st := [.int r]) (c_X7_over Md_RA h1) (gV z_1067 z_1068 z_1069 z_64 z_1070) cl_X7 Md_RA.1 (by decide +kernel) rfl rfl rfl ⟨Nat.le_of_ble_eq_true rfl, Nat.le_of_ble_eq_true rfl⟩ ⟨Nat.le_of_ble_eq_true rfl, Nat.le_of_ble_eq_true rfl⟩ rfl (Nat.le_of_ble_eq_true rfl) dL_law_420 ?_
  rintro r2 F2 ⟨e2, h2⟩
  exact g_icmp_eq X (tgt := 717) dL_law_423 (by decide) (fun _ => kk F2 h2) (fun g => absurd e2 g)
set_option maxRecDepth 100000 in
set_option maxHeartbeats 4000000 in
theorem lc_14 (Z : LX p s m meth c D dA b L xs) (hn : 4 * n + 4 ≤ L) (hI : Inv n F) (kk : ∀ F', Inv (n + 1) F' → JL p l e s m below meth c D dA b ad F' 717 (4 * n)) : JL p l e s m below meth c D dA b ad F 428 (4 * n) := by
  obtain ⟨X, hX, hbl, hL, hr⟩ := Z
  have hA : ∀ q : Nat, s.heap.size ≤ q → (fun q : Nat => s.heap.size ≤ q) q := fun _ h => h
  have hbA : ¬ (fun q : Nat => s.heap.size ≤ q) b := Nat.not_le.mpr hbl
  refine g_aload_n X 2 dL_law_428 rfl rfl ?_
  refine g_aload_n X 3 dL_law_429 rfl rfl ?_
  refine g_iload_n X 0 dL_law_430 rfl rfl ?_
  refine g_iconst X (v := nI 1) dL_law_431 (by decide) ?_
  refine g_iadd X dL_law_432 ?_
  rw [nI_add]
  refine g_sld X hX hbl hbA (vin (by omega) (by omega)) dL_law_433 ?_
  refine l_callIV X hA (np := 1) (t := 0) (As := [.int (xs (nI (4 * n + 1)).toNatClampNeg)]) (st := []) (c_X6_fewest BBr_RA (t_fewest hI (xs (nI (4 * n + 1)).toNatClampNeg))) (gV z_659 z_660 z_661 z_52 z_662) cl_X6 BBr_RA.1 (by decide +kernel) rfl rfl rfl ⟨Nat.le_of_ble_eq_true rfl, Nat.le_of_ble_eq_true rfl⟩ ⟨Nat.le_of_ble_eq_true rfl, Nat.le_of_ble_eq_true rfl⟩ rfl (Nat.le_of_ble_eq_true rfl) dL_law_434 ?_
  intro r F1 h1
  refine g_aload_n X 1 dL_law_437 rfl rfl ?_
  refine g_aload_n X 3 dL_law_438 rfl rfl ?_
  refine g_iload_n X 0 dL_law_439 rfl rfl ?_
  refine g_iconst X (v := nI 1) dL_law_440 (by decide) ?_
  refine g_iadd X dL_law_441 ?_
  rw [nI_add]
  refine g_sld X hX hbl hbA (vin (by omega) (by omega)) dL_law_442 ?_
  refine l_callIV X hA (np := 1) (t := 100) (As := [.int (xs (nI (4 * n + 1)).toNatClampNeg)]) (st := [.int r]) (c_X7_fewest Md_RA h1) (gV z_1075 z_1076 z_1077 z_64 z_1078) cl_X7 Md_RA.1 (by decide +kernel) rfl rfl rfl ⟨Nat.le_of_ble_eq_true rfl, Nat.le_of_ble_eq_true rfl⟩ ⟨Nat.le_of_ble_eq_true rfl, Nat.le_of_ble_eq_true rfl⟩ rfl (Nat.le_of_ble_eq_true rfl) dL_law_443 ?_
  rintro r2 F2 ⟨e2, h2⟩
  exact g_icmp_eq X (tgt := 717) dL_law_446 (by decide) (fun _ => kk F2 h2) (fun g => absurd e2 g)
set_option maxRecDepth 100000 in
set_option maxHeartbeats 4000000 in
theorem lc_15 (Z : LX p s m meth c D dA b L xs) (hn : 4 * n + 4 ≤ L) (hI : Inv n F) (kk : ∀ F', Inv (n + 1) F' → JL p l e s m below meth c D dA b ad F' 717 (4 * n)) : JL p l e s m below meth c D dA b ad F 451 (4 * n) := by
  obtain ⟨X, hX, hbl, hL, hr⟩ := Z
  have hA : ∀ q : Nat, s.heap.size ≤ q → (fun q : Nat => s.heap.size ≤ q) q := fun _ h => h
  have hbA : ¬ (fun q : Nat => s.heap.size ≤ q) b := Nat.not_le.mpr hbl
  refine g_aload_n X 2 dL_law_451 rfl rfl ?_
  refine g_aload_n X 3 dL_law_452 rfl rfl ?_
  refine g_iload_n X 0 dL_law_453 rfl rfl ?_
  refine g_iconst X (v := nI 1) dL_law_454 (by decide) ?_
  refine g_iadd X dL_law_455 ?_
  rw [nI_add]
  refine g_sld X hX hbl hbA (vin (by omega) (by omega)) dL_law_456 ?_
  refine l_callIV X hA (np := 1) (t := 0) (As := [.int (xs (nI (4 * n + 1)).toNatClampNeg)]) (st := []) (c_X6_mend BBr_RA (t_mend hI (by omega) (xs (nI (4 * n + 1)).toNatClampNeg))) (gV z_701 z_702 z_703 z_52 z_704) cl_X6 BBr_RA.1 (by decide +kernel) rfl rfl rfl ⟨Nat.le_of_ble_eq_true rfl, Nat.le_of_ble_eq_true rfl⟩ ⟨Nat.le_of_ble_eq_true rfl, Nat.le_of_ble_eq_true rfl⟩ rfl (Nat.le_of_ble_eq_true rfl) dL_law_457 ?_
  intro r F1 h1
  refine g_aload_n X 1 dL_law_460 rfl rfl ?_
  refine g_aload_n X 3 dL_law_461 rfl rfl ?_
  refine g_iload_n X 0 dL_law_462 rfl rfl ?_
  refine g_iconst X (v := nI 1) dL_law_463 (by decide) ?_
  refine g_iadd X dL_law_464 ?_
  rw [nI_add]
  refine g_sld X hX hbl hbA (vin (by omega) (by omega)) dL_law_465 ?_
  refine l_callIV X hA (np := 1) (t := 100) (As := [.int (xs (nI (4 * n + 1)).toNatClampNeg)]) (st := [.int r]) (c_X7_mend Md_RA h1) (gV z_1091 z_1092 z_1093 z_64 z_1094) cl_X7 Md_RA.1 (by decide +kernel) rfl rfl rfl ⟨Nat.le_of_ble_eq_true rfl, Nat.le_of_ble_eq_true rfl⟩ ⟨Nat.le_of_ble_eq_true rfl, Nat.le_of_ble_eq_true rfl⟩ rfl (Nat.le_of_ble_eq_true rfl) dL_law_466 ?_
  rintro r2 F2 ⟨e2, h2⟩
  exact g_icmp_eq X (tgt := 717) dL_law_469 (by decide) (fun _ => kk F2 h2) (fun g => absurd e2 g)
set_option maxRecDepth 100000 in
set_option maxHeartbeats 4000000 in
theorem lc_16 (Z : LX p s m meth c D dA b L xs) (hn : 4 * n + 4 ≤ L) (hI : Inv n F) (kk : ∀ F', Inv (n + 1) F' → JL p l e s m below meth c D dA b ad F' 717 (4 * n)) : JL p l e s m below meth c D dA b ad F 474 (4 * n) := by
  obtain ⟨X, hX, hbl, hL, hr⟩ := Z
  have hA : ∀ q : Nat, s.heap.size ≤ q → (fun q : Nat => s.heap.size ≤ q) q := fun _ h => h
  have hbA : ¬ (fun q : Nat => s.heap.size ≤ q) b := Nat.not_le.mpr hbl
  refine g_aload_n X 2 dL_law_474 rfl rfl ?_
  refine g_aload_n X 3 dL_law_475 rfl rfl ?_
  refine g_iload_n X 0 dL_law_476 rfl rfl ?_
  refine g_iconst X (v := nI 1) dL_law_477 (by decide) ?_
  refine g_iadd X dL_law_478 ?_
  rw [nI_add]
  refine g_sld X hX hbl hbA (vin (by omega) (by omega)) dL_law_479 ?_
  refine l_callIV X hA (np := 1) (t := 0) (As := [.int (xs (nI (4 * n + 1)).toNatClampNeg)]) (st := []) (c_X6_calls BBr_RA (t_calls hI (xs (nI (4 * n + 1)).toNatClampNeg))) (gV z_713 z_714 z_715 z_52 z_716) cl_X6 BBr_RA.1 (by decide +kernel) rfl rfl rfl ⟨Nat.le_of_ble_eq_true rfl, Nat.le_of_ble_eq_true rfl⟩ ⟨Nat.le_of_ble_eq_true rfl, Nat.le_of_ble_eq_true rfl⟩ rfl (Nat.le_of_ble_eq_true rfl) dL_law_480 ?_
  intro r F1 h1
  refine g_aload_n X 1 dL_law_483 rfl rfl ?_
  refine g_aload_n X 3 dL_law_484 rfl rfl ?_
  refine g_iload_n X 0 dL_law_485 rfl rfl ?_
  refine g_iconst X (v := nI 1) dL_law_486 (by decide) ?_
  refine g_iadd X dL_law_487 ?_
  rw [nI_add]
  refine g_sld X hX hbl hbA (vin (by omega) (by omega)) dL_law_488 ?_
  refine l_callIV X hA (np := 1) (t := 100) (As := [.int (xs (nI (4 * n + 1)).toNatClampNeg)]) (st := [.int r]) (c_X7_calls Md_RA h1) (gV z_1095 z_1096 z_1097 z_64 z_1098) cl_X7 Md_RA.1 (by decide +kernel) rfl rfl rfl ⟨Nat.le_of_ble_eq_true rfl, Nat.le_of_ble_eq_true rfl⟩ ⟨Nat.le_of_ble_eq_true rfl, Nat.le_of_ble_eq_true rfl⟩ rfl (Nat.le_of_ble_eq_true rfl) dL_law_489 ?_
  rintro r2 F2 ⟨e2, h2⟩
  exact g_icmp_eq X (tgt := 717) dL_law_492 (by decide) (fun _ => kk F2 h2) (fun g => absurd e2 g)
set_option maxRecDepth 100000 in
set_option maxHeartbeats 4000000 in
theorem lc_17 (Z : LX p s m meth c D dA b L xs) (hn : 4 * n + 4 ≤ L) (hI : Inv n F) (kk : ∀ F', Inv (n + 1) F' → JL p l e s m below meth c D dA b ad F' 717 (4 * n)) : JL p l e s m below meth c D dA b ad F 497 (4 * n) := by
  obtain ⟨X, hX, hbl, hL, hr⟩ := Z
  have hA : ∀ q : Nat, s.heap.size ≤ q → (fun q : Nat => s.heap.size ≤ q) q := fun _ h => h
  have hbA : ¬ (fun q : Nat => s.heap.size ≤ q) b := Nat.not_le.mpr hbl
  refine g_aload_n X 2 dL_law_497 rfl rfl ?_
  refine g_aload_n X 3 dL_law_498 rfl rfl ?_
  refine g_iload_n X 0 dL_law_499 rfl rfl ?_
  refine g_iconst X (v := nI 1) dL_law_500 (by decide) ?_
  refine g_iadd X dL_law_501 ?_
  rw [nI_add]
  refine g_sld X hX hbl hbA (vin (by omega) (by omega)) dL_law_502 ?_
  refine l_callIV X hA (np := 1) (t := 0) (As := [.int (xs (nI (4 * n + 1)).toNatClampNeg)]) (st := []) (c_X6_second BBr_RA (t_second hI (xs (nI (4 * n + 1)).toNatClampNeg))) (gV z_722 z_723 z_724 z_52 z_725) cl_X6 BBr_RA.1 (by decide +kernel) rfl rfl rfl ⟨Nat.le_of_ble_eq_true rfl, Nat.le_of_ble_eq_true rfl⟩ ⟨Nat.le_of_ble_eq_true rfl, Nat.le_of_ble_eq_true rfl⟩ rfl (Nat.le_of_ble_eq_true rfl) dL_law_503 ?_
  intro r F1 h1
  refine g_aload_n X 1 dL_law_506 rfl rfl ?_
  refine g_aload_n X 3 dL_law_507 rfl rfl ?_
  refine g_iload_n X 0 dL_law_508 rfl rfl ?_
  refine g_iconst X (v := nI 1) dL_law_509 (by decide) ?_
  refine g_iadd X dL_law_510 ?_
  rw [nI_add]
  refine g_sld X hX hbl hbA (vin (by omega) (by omega)) dL_law_511 ?_
  refine l_callIV X hA (np := 1) (t := 100) (As := [.int (xs (nI (4 * n + 1)).toNatClampNeg)]) (st := [.int r]) (c_X7_second Md_RA h1) (gV z_1102 z_1103 z_1104 z_64 z_1105) cl_X7 Md_RA.1 (by decide +kernel) rfl rfl rfl ⟨Nat.le_of_ble_eq_true rfl, Nat.le_of_ble_eq_true rfl⟩ ⟨Nat.le_of_ble_eq_true rfl, Nat.le_of_ble_eq_true rfl⟩ rfl (Nat.le_of_ble_eq_true rfl) dL_law_512 ?_
  rintro r2 F2 ⟨e2, h2⟩
  exact g_icmp_eq X (tgt := 717) dL_law_515 (by decide) (fun _ => kk F2 h2) (fun g => absurd e2 g)
set_option maxRecDepth 100000 in
set_option maxHeartbeats 4000000 in
theorem lc_18 (Z : LX p s m meth c D dA b L xs) (hn : 4 * n + 4 ≤ L) (hI : Inv n F) (kk : ∀ F', Inv (n + 1) F' → JL p l e s m below meth c D dA b ad F' 717 (4 * n)) : JL p l e s m below meth c D dA b ad F 520 (4 * n) := by
  obtain ⟨X, hX, hbl, hL, hr⟩ := Z
  have hA : ∀ q : Nat, s.heap.size ≤ q → (fun q : Nat => s.heap.size ≤ q) q := fun _ h => h
  have hbA : ¬ (fun q : Nat => s.heap.size ≤ q) b := Nat.not_le.mpr hbl
  refine g_aload_n X 2 dL_law_520 rfl rfl ?_
  refine l_callIV X hA (np := 0) (t := 0) (As := []) (st := []) (c_X6_years BBr_RA (t_years hI)) (gV z_736 z_737 z_738 z_52 z_739) cl_X6 BBr_RA.1 (by decide +kernel) rfl rfl rfl ⟨Nat.le_of_ble_eq_true rfl, Nat.le_of_ble_eq_true rfl⟩ ⟨Nat.le_of_ble_eq_true rfl, Nat.le_of_ble_eq_true rfl⟩ rfl (Nat.le_of_ble_eq_true rfl) dL_law_521 ?_
  intro r F1 h1
  refine g_aload_n X 1 dL_law_524 rfl rfl ?_
  refine l_callIV X hA (np := 0) (t := 100) (As := []) (st := [.int r]) (c_X7_years Md_RA h1) (gV z_1110 z_1111 z_1112 z_64 z_1113) cl_X7 Md_RA.1 (by decide +kernel) rfl rfl rfl ⟨Nat.le_of_ble_eq_true rfl, Nat.le_of_ble_eq_true rfl⟩ ⟨Nat.le_of_ble_eq_true rfl, Nat.le_of_ble_eq_true rfl⟩ rfl (Nat.le_of_ble_eq_true rfl) dL_law_525 ?_
  rintro r2 F2 ⟨e2, h2⟩
  exact g_icmp_eq X (tgt := 717) dL_law_528 (by decide) (fun _ => kk F2 h2) (fun g => absurd e2 g)
set_option maxRecDepth 100000 in
set_option maxHeartbeats 4000000 in
theorem lc_19 (Z : LX p s m meth c D dA b L xs) (hn : 4 * n + 4 ≤ L) (hI : Inv n F) (kk : ∀ F', Inv (n + 1) F' → JL p l e s m below meth c D dA b ad F' 717 (4 * n)) : JL p l e s m below meth c D dA b ad F 533 (4 * n) := by
  obtain ⟨X, hX, hbl, hL, hr⟩ := Z
  have hA : ∀ q : Nat, s.heap.size ≤ q → (fun q : Nat => s.heap.size ≤ q) q := fun _ h => h
  have hbA : ¬ (fun q : Nat => s.heap.size ≤ q) b := Nat.not_le.mpr hbl
  refine g_aload_n X 2 dL_law_533 rfl rfl ?_
  refine g_aload_n X 3 dL_law_534 rfl rfl ?_
  refine g_iload_n X 0 dL_law_535 rfl rfl ?_
  refine g_iconst X (v := nI 1) dL_law_536 (by decide) ?_
  refine g_iadd X dL_law_537 ?_
  rw [nI_add]
  refine g_sld X hX hbl hbA (vin (by omega) (by omega)) dL_law_538 ?_
  refine g_aload_n X 3 dL_law_539 rfl rfl ?_
  refine g_iload_n X 0 dL_law_540 rfl rfl ?_
  refine g_iconst X (v := nI 2) dL_law_541 (by decide) ?_
  refine g_iadd X dL_law_542 ?_
  rw [nI_add]
  refine g_sld X hX hbl hbA (vin (by omega) (by omega)) dL_law_543 ?_
  refine l_callIV X hA (np := 2) (t := 0) (As := [.int (xs (nI (4 * n + 1)).toNatClampNeg), .int (xs (nI (4 * n + 2)).toNatClampNeg)]) (st := []) (c_X6_seen BBr_RA (t_seen hI (xs (nI (4 * n + 1)).toNatClampNeg) (xs (nI (4 * n + 2)).toNatClampNeg))) (gV z_741 z_742 z_743 z_52 z_744) cl_X6 BBr_RA.1 (by decide +kernel) rfl rfl rfl ⟨Nat.le_of_ble_eq_true rfl, Nat.le_of_ble_eq_true rfl⟩ ⟨Nat.le_of_ble_eq_true rfl, Nat.le_of_ble_eq_true rfl⟩ rfl (Nat.le_of_ble_eq_true rfl) dL_law_544 ?_
  intro r F1 h1
  refine g_aload_n X 1 dL_law_547 rfl rfl ?_
  refine g_aload_n X 3 dL_law_548 rfl rfl ?_
  refine g_iload_n X 0 dL_law_549 rfl rfl ?_
  refine g_iconst X (v := nI 1) dL_law_550 (by decide) ?_
  refine g_iadd X dL_law_551 ?_
  rw [nI_add]
  refine g_sld X hX hbl hbA (vin (by omega) (by omega)) dL_law_552 ?_
  refine g_aload_n X 3 dL_law_553 rfl rfl ?_
  refine g_iload_n X 0 dL_law_554 rfl rfl ?_
  refine g_iconst X (v := nI 2) dL_law_555 (by decide) ?_
  refine g_iadd X dL_law_556 ?_
  rw [nI_add]
  refine g_sld X hX hbl hbA (vin (by omega) (by omega)) dL_law_557 ?_
  refine l_callIV X hA (np := 2) (t := 100) (As := [.int (xs (nI (4 * n + 1)).toNatClampNeg), .int (xs (nI (4 * n + 2)).toNatClampNeg)]) (st := [.int r]) (c_X7_seen Md_RA h1) (gV z_1114 z_1115 z_1116 z_64 z_1117) cl_X7 Md_RA.1 (by decide +kernel) rfl rfl rfl ⟨Nat.le_of_ble_eq_true rfl, Nat.le_of_ble_eq_true rfl⟩ ⟨Nat.le_of_ble_eq_true rfl, Nat.le_of_ble_eq_true rfl⟩ rfl (Nat.le_of_ble_eq_true rfl) dL_law_558 ?_
  rintro r2 F2 ⟨e2, h2⟩
  exact g_icmp_eq X (tgt := 717) dL_law_561 (by decide) (fun _ => kk F2 h2) (fun g => absurd e2 g)
set_option maxRecDepth 100000 in
set_option maxHeartbeats 4000000 in
theorem lc_20 (Z : LX p s m meth c D dA b L xs) (hn : 4 * n + 4 ≤ L) (hI : Inv n F) (kk : ∀ F', Inv (n + 1) F' → JL p l e s m below meth c D dA b ad F' 717 (4 * n)) : JL p l e s m below meth c D dA b ad F 566 (4 * n) := by
  obtain ⟨X, hX, hbl, hL, hr⟩ := Z
  have hA : ∀ q : Nat, s.heap.size ≤ q → (fun q : Nat => s.heap.size ≤ q) q := fun _ h => h
  have hbA : ¬ (fun q : Nat => s.heap.size ≤ q) b := Nat.not_le.mpr hbl
  refine g_aload_n X 2 dL_law_566 rfl rfl ?_
  refine l_callIV X hA (np := 0) (t := 0) (As := []) (st := []) (c_X6_forget BBr_RA (t_forget hI)) (gV z_745 z_746 z_747 z_52 z_748) cl_X6 BBr_RA.1 (by decide +kernel) rfl rfl rfl ⟨Nat.le_of_ble_eq_true rfl, Nat.le_of_ble_eq_true rfl⟩ ⟨Nat.le_of_ble_eq_true rfl, Nat.le_of_ble_eq_true rfl⟩ rfl (Nat.le_of_ble_eq_true rfl) dL_law_567 ?_
  intro r F1 h1
  refine g_aload_n X 1 dL_law_570 rfl rfl ?_
  refine l_callIV X hA (np := 0) (t := 100) (As := []) (st := [.int r]) (c_X7_forget Md_RA h1) (gV z_1118 z_1119 z_1120 z_64 z_1121) cl_X7 Md_RA.1 (by decide +kernel) rfl rfl rfl ⟨Nat.le_of_ble_eq_true rfl, Nat.le_of_ble_eq_true rfl⟩ ⟨Nat.le_of_ble_eq_true rfl, Nat.le_of_ble_eq_true rfl⟩ rfl (Nat.le_of_ble_eq_true rfl) dL_law_571 ?_
  rintro r2 F2 ⟨e2, h2⟩
  exact g_icmp_eq X (tgt := 717) dL_law_574 (by decide) (fun _ => kk F2 h2) (fun g => absurd e2 g)
set_option maxRecDepth 100000 in
set_option maxHeartbeats 4000000 in
theorem lc_21 (Z : LX p s m meth c D dA b L xs) (hn : 4 * n + 4 ≤ L) (hI : Inv n F) (kk : ∀ F', Inv (n + 1) F' → JL p l e s m below meth c D dA b ad F' 717 (4 * n)) : JL p l e s m below meth c D dA b ad F 579 (4 * n) := by
  obtain ⟨X, hX, hbl, hL, hr⟩ := Z
  have hA : ∀ q : Nat, s.heap.size ≤ q → (fun q : Nat => s.heap.size ≤ q) q := fun _ h => h
  have hbA : ¬ (fun q : Nat => s.heap.size ≤ q) b := Nat.not_le.mpr hbl
  refine g_aload_n X 2 dL_law_579 rfl rfl ?_
  refine g_aload_n X 3 dL_law_580 rfl rfl ?_
  refine g_iload_n X 0 dL_law_581 rfl rfl ?_
  refine g_iconst X (v := nI 1) dL_law_582 (by decide) ?_
  refine g_iadd X dL_law_583 ?_
  rw [nI_add]
  refine g_sld X hX hbl hbA (vin (by omega) (by omega)) dL_law_584 ?_
  refine l_callIV X hA (np := 1) (t := 0) (As := [.int (xs (nI (4 * n + 1)).toNatClampNeg)]) (st := []) (c_X6_stood BBr_RA (t_stood hI (xs (nI (4 * n + 1)).toNatClampNeg))) (gV z_749 z_750 z_751 z_52 z_752) cl_X6 BBr_RA.1 (by decide +kernel) rfl rfl rfl ⟨Nat.le_of_ble_eq_true rfl, Nat.le_of_ble_eq_true rfl⟩ ⟨Nat.le_of_ble_eq_true rfl, Nat.le_of_ble_eq_true rfl⟩ rfl (Nat.le_of_ble_eq_true rfl) dL_law_585 ?_
  intro r F1 h1
  refine g_aload_n X 1 dL_law_588 rfl rfl ?_
  refine g_aload_n X 3 dL_law_589 rfl rfl ?_
  refine g_iload_n X 0 dL_law_590 rfl rfl ?_
  refine g_iconst X (v := nI 1) dL_law_591 (by decide) ?_
  refine g_iadd X dL_law_592 ?_
  rw [nI_add]
  refine g_sld X hX hbl hbA (vin (by omega) (by omega)) dL_law_593 ?_
  refine l_callIV X hA (np := 1) (t := 100) (As := [.int (xs (nI (4 * n + 1)).toNatClampNeg)]) (st := [.int r]) (c_X7_stood Md_RA h1) (gV z_1122 z_1123 z_1124 z_64 z_1125) cl_X7 Md_RA.1 (by decide +kernel) rfl rfl rfl ⟨Nat.le_of_ble_eq_true rfl, Nat.le_of_ble_eq_true rfl⟩ ⟨Nat.le_of_ble_eq_true rfl, Nat.le_of_ble_eq_true rfl⟩ rfl (Nat.le_of_ble_eq_true rfl) dL_law_594 ?_
  rintro r2 F2 ⟨e2, h2⟩
  exact g_icmp_eq X (tgt := 717) dL_law_597 (by decide) (fun _ => kk F2 h2) (fun g => absurd e2 g)
set_option maxRecDepth 100000 in
set_option maxHeartbeats 4000000 in
theorem lc_22 (Z : LX p s m meth c D dA b L xs) (hn : 4 * n + 4 ≤ L) (hI : Inv n F) (kk : ∀ F', Inv (n + 1) F' → JL p l e s m below meth c D dA b ad F' 717 (4 * n)) : JL p l e s m below meth c D dA b ad F 602 (4 * n) := by
  obtain ⟨X, hX, hbl, hL, hr⟩ := Z
  have hA : ∀ q : Nat, s.heap.size ≤ q → (fun q : Nat => s.heap.size ≤ q) q := fun _ h => h
  have hbA : ¬ (fun q : Nat => s.heap.size ≤ q) b := Nat.not_le.mpr hbl
  refine g_aload_n X 2 dL_law_602 rfl rfl ?_
  refine g_aload_n X 3 dL_law_603 rfl rfl ?_
  refine g_iload_n X 0 dL_law_604 rfl rfl ?_
  refine g_iconst X (v := nI 1) dL_law_605 (by decide) ?_
  refine g_iadd X dL_law_606 ?_
  rw [nI_add]
  refine g_sld X hX hbl hbA (vin (by omega) (by omega)) dL_law_607 ?_
  refine l_callIV X hA (np := 1) (t := 0) (As := [.int (xs (nI (4 * n + 1)).toNatClampNeg)]) (st := []) (c_X6_rain BBr_RA (t_rain hI (xs (nI (4 * n + 1)).toNatClampNeg))) (gV z_759 z_760 z_761 z_52 z_762) cl_X6 BBr_RA.1 (by decide +kernel) rfl rfl rfl ⟨Nat.le_of_ble_eq_true rfl, Nat.le_of_ble_eq_true rfl⟩ ⟨Nat.le_of_ble_eq_true rfl, Nat.le_of_ble_eq_true rfl⟩ rfl (Nat.le_of_ble_eq_true rfl) dL_law_608 ?_
  intro r F1 h1
  refine g_aload_n X 1 dL_law_611 rfl rfl ?_
  refine g_aload_n X 3 dL_law_612 rfl rfl ?_
  refine g_iload_n X 0 dL_law_613 rfl rfl ?_
  refine g_iconst X (v := nI 1) dL_law_614 (by decide) ?_
  refine g_iadd X dL_law_615 ?_
  rw [nI_add]
  refine g_sld X hX hbl hbA (vin (by omega) (by omega)) dL_law_616 ?_
  refine l_callIV X hA (np := 1) (t := 100) (As := [.int (xs (nI (4 * n + 1)).toNatClampNeg)]) (st := [.int r]) (c_X7_rain Md_RA h1) (gV z_1130 z_1131 z_1132 z_64 z_1133) cl_X7 Md_RA.1 (by decide +kernel) rfl rfl rfl ⟨Nat.le_of_ble_eq_true rfl, Nat.le_of_ble_eq_true rfl⟩ ⟨Nat.le_of_ble_eq_true rfl, Nat.le_of_ble_eq_true rfl⟩ rfl (Nat.le_of_ble_eq_true rfl) dL_law_617 ?_
  rintro r2 F2 ⟨e2, h2⟩
  exact g_icmp_eq X (tgt := 717) dL_law_620 (by decide) (fun _ => kk F2 h2) (fun g => absurd e2 g)
set_option maxRecDepth 100000 in
set_option maxHeartbeats 4000000 in
theorem lc_23 (Z : LX p s m meth c D dA b L xs) (hn : 4 * n + 4 ≤ L) (hI : Inv n F) (kk : ∀ F', Inv (n + 1) F' → JL p l e s m below meth c D dA b ad F' 717 (4 * n)) : JL p l e s m below meth c D dA b ad F 625 (4 * n) := by
  obtain ⟨X, hX, hbl, hL, hr⟩ := Z
  have hA : ∀ q : Nat, s.heap.size ≤ q → (fun q : Nat => s.heap.size ≤ q) q := fun _ h => h
  have hbA : ¬ (fun q : Nat => s.heap.size ≤ q) b := Nat.not_le.mpr hbl
  refine g_aload_n X 2 dL_law_625 rfl rfl ?_
  refine g_aload_n X 3 dL_law_626 rfl rfl ?_
  refine g_iload_n X 0 dL_law_627 rfl rfl ?_
  refine g_iconst X (v := nI 1) dL_law_628 (by decide) ?_
  refine g_iadd X dL_law_629 ?_
  rw [nI_add]
  refine g_sld X hX hbl hbA (vin (by omega) (by omega)) dL_law_630 ?_
  refine g_aload_n X 3 dL_law_631 rfl rfl ?_
  refine g_iload_n X 0 dL_law_632 rfl rfl ?_
  refine g_iconst X (v := nI 2) dL_law_633 (by decide) ?_
  refine g_iadd X dL_law_634 ?_
  rw [nI_add]
  refine g_sld X hX hbl hbA (vin (by omega) (by omega)) dL_law_635 ?_
  refine g_aload_n X 3 dL_law_636 rfl rfl ?_
  refine g_iload_n X 0 dL_law_637 rfl rfl ?_
  refine g_iconst X (v := nI 3) dL_law_638 (by decide) ?_
  refine g_iadd X dL_law_639 ?_
  rw [nI_add]
  refine g_sld X hX hbl hbA (vin (by omega) (by omega)) dL_law_640 ?_
  refine l_callIV X hA (np := 3) (t := 0) (As := [.int (xs (nI (4 * n + 1)).toNatClampNeg), .int (xs (nI (4 * n + 2)).toNatClampNeg), .int (xs (nI (4 * n + 3)).toNatClampNeg)]) (st := []) (c_X6_century BBr_RA (t_century hI (xs (nI (4 * n + 1)).toNatClampNeg) (xs (nI (4 * n + 2)).toNatClampNeg) (xs (nI (4 * n + 3)).toNatClampNeg))) (gV z_765 z_766 z_767 z_52 z_768) cl_X6 BBr_RA.1 (by decide +kernel) rfl rfl rfl ⟨Nat.le_of_ble_eq_true rfl, Nat.le_of_ble_eq_true rfl⟩ ⟨Nat.le_of_ble_eq_true rfl, Nat.le_of_ble_eq_true rfl⟩ rfl (Nat.le_of_ble_eq_true rfl) dL_law_641 ?_
  intro r F1 h1
  refine g_aload_n X 1 dL_law_644 rfl rfl ?_
  refine g_aload_n X 3 dL_law_645 rfl rfl ?_
  refine g_iload_n X 0 dL_law_646 rfl rfl ?_
  refine g_iconst X (v := nI 1) dL_law_647 (by decide) ?_
  refine g_iadd X dL_law_648 ?_
  rw [nI_add]
  refine g_sld X hX hbl hbA (vin (by omega) (by omega)) dL_law_649 ?_
  refine g_aload_n X 3 dL_law_650 rfl rfl ?_
  refine g_iload_n X 0 dL_law_651 rfl rfl ?_
  refine g_iconst X (v := nI 2) dL_law_652 (by decide) ?_
  refine g_iadd X dL_law_653 ?_
  rw [nI_add]
  refine g_sld X hX hbl hbA (vin (by omega) (by omega)) dL_law_654 ?_
  refine g_aload_n X 3 dL_law_655 rfl rfl ?_
  refine g_iload_n X 0 dL_law_656 rfl rfl ?_
  refine g_iconst X (v := nI 3) dL_law_657 (by decide) ?_
  refine g_iadd X dL_law_658 ?_
  rw [nI_add]
  refine g_sld X hX hbl hbA (vin (by omega) (by omega)) dL_law_659 ?_
  refine l_callIV X hA (np := 3) (t := 100) (As := [.int (xs (nI (4 * n + 1)).toNatClampNeg), .int (xs (nI (4 * n + 2)).toNatClampNeg), .int (xs (nI (4 * n + 3)).toNatClampNeg)]) (st := [.int r]) (c_X7_century Md_RA h1) (gV z_1136 z_1137 z_1138 z_64 z_1139) cl_X7 Md_RA.1 (by decide +kernel) rfl rfl rfl ⟨Nat.le_of_ble_eq_true rfl, Nat.le_of_ble_eq_true rfl⟩ ⟨Nat.le_of_ble_eq_true rfl, Nat.le_of_ble_eq_true rfl⟩ rfl (Nat.le_of_ble_eq_true rfl) dL_law_660 ?_
  rintro r2 F2 ⟨e2, h2⟩
  exact g_icmp_eq X (tgt := 717) dL_law_663 (by decide) (fun _ => kk F2 h2) (fun g => absurd e2 g)
set_option maxRecDepth 100000 in
set_option maxHeartbeats 4000000 in
theorem lc_24 (Z : LX p s m meth c D dA b L xs) (hn : 4 * n + 4 ≤ L) (hI : Inv n F) (kk : ∀ F', Inv (n + 1) F' → JL p l e s m below meth c D dA b ad F' 717 (4 * n)) : JL p l e s m below meth c D dA b ad F 668 (4 * n) := by
  obtain ⟨X, hX, hbl, hL, hr⟩ := Z
  have hA : ∀ q : Nat, s.heap.size ≤ q → (fun q : Nat => s.heap.size ≤ q) q := fun _ h => h
  have hbA : ¬ (fun q : Nat => s.heap.size ≤ q) b := Nat.not_le.mpr hbl
  refine g_aload_n X 2 dL_law_668 rfl rfl ?_
  refine l_callIV X hA (np := 0) (t := 0) (As := []) (st := []) (c_X6_keep BBr_RA (t_keep hI)) (gV z_782 z_783 z_784 z_52 z_785) cl_X6 BBr_RA.1 (by decide +kernel) rfl rfl rfl ⟨Nat.le_of_ble_eq_true rfl, Nat.le_of_ble_eq_true rfl⟩ ⟨Nat.le_of_ble_eq_true rfl, Nat.le_of_ble_eq_true rfl⟩ rfl (Nat.le_of_ble_eq_true rfl) dL_law_669 ?_
  intro r F1 h1
  refine g_aload_n X 1 dL_law_672 rfl rfl ?_
  refine l_callIV X hA (np := 0) (t := 100) (As := []) (st := [.int r]) (c_X7_keep Md_RA h1) (gV z_1150 z_1151 z_1152 z_64 z_1153) cl_X7 Md_RA.1 (by decide +kernel) rfl rfl rfl ⟨Nat.le_of_ble_eq_true rfl, Nat.le_of_ble_eq_true rfl⟩ ⟨Nat.le_of_ble_eq_true rfl, Nat.le_of_ble_eq_true rfl⟩ rfl (Nat.le_of_ble_eq_true rfl) dL_law_673 ?_
  rintro r2 F2 ⟨e2, h2⟩
  exact g_icmp_eq X (tgt := 717) dL_law_676 (by decide) (fun _ => kk F2 h2) (fun g => absurd e2 g)
set_option maxRecDepth 100000 in
set_option maxHeartbeats 4000000 in
theorem lc_25 (Z : LX p s m meth c D dA b L xs) (hn : 4 * n + 4 ≤ L) (hI : Inv n F) (kk : ∀ F', Inv (n + 1) F' → JL p l e s m below meth c D dA b ad F' 717 (4 * n)) : JL p l e s m below meth c D dA b ad F 681 (4 * n) := by
  obtain ⟨X, hX, hbl, hL, hr⟩ := Z
  have hA : ∀ q : Nat, s.heap.size ≤ q → (fun q : Nat => s.heap.size ≤ q) q := fun _ h => h
  have hbA : ¬ (fun q : Nat => s.heap.size ≤ q) b := Nat.not_le.mpr hbl
  refine g_aload_n X 2 dL_law_681 rfl rfl ?_
  refine l_callIV X hA (np := 0) (t := 0) (As := []) (st := []) (c_X6_back BBr_RA (t_back hI)) (gV z_787 z_788 z_789 z_52 z_790) cl_X6 BBr_RA.1 (by decide +kernel) rfl rfl rfl ⟨Nat.le_of_ble_eq_true rfl, Nat.le_of_ble_eq_true rfl⟩ ⟨Nat.le_of_ble_eq_true rfl, Nat.le_of_ble_eq_true rfl⟩ rfl (Nat.le_of_ble_eq_true rfl) dL_law_682 ?_
  intro r F1 h1
  refine g_aload_n X 1 dL_law_685 rfl rfl ?_
  refine l_callIV X hA (np := 0) (t := 100) (As := []) (st := [.int r]) (c_X7_back Md_RA h1) (gV z_1154 z_1155 z_1156 z_64 z_1157) cl_X7 Md_RA.1 (by decide +kernel) rfl rfl rfl ⟨Nat.le_of_ble_eq_true rfl, Nat.le_of_ble_eq_true rfl⟩ ⟨Nat.le_of_ble_eq_true rfl, Nat.le_of_ble_eq_true rfl⟩ rfl (Nat.le_of_ble_eq_true rfl) dL_law_686 ?_
  rintro r2 F2 ⟨e2, h2⟩
  exact g_icmp_eq X (tgt := 717) dL_law_689 (by decide) (fun _ => kk F2 h2) (fun g => absurd e2 g)
set_option maxRecDepth 100000 in
set_option maxHeartbeats 4000000 in
theorem lc_26 (Z : LX p s m meth c D dA b L xs) (hn : 4 * n + 4 ≤ L) (hI : Inv n F) (kk : ∀ F', Inv (n + 1) F' → JL p l e s m below meth c D dA b ad F' 717 (4 * n)) : JL p l e s m below meth c D dA b ad F 694 (4 * n) := by
  obtain ⟨X, hX, hbl, hL, hr⟩ := Z
  have hA : ∀ q : Nat, s.heap.size ≤ q → (fun q : Nat => s.heap.size ≤ q) q := fun _ h => h
  have hbA : ¬ (fun q : Nat => s.heap.size ≤ q) b := Nat.not_le.mpr hbl
  refine g_aload_n X 2 dL_law_694 rfl rfl ?_
  refine g_aload_n X 3 dL_law_695 rfl rfl ?_
  refine g_iload_n X 0 dL_law_696 rfl rfl ?_
  refine g_iconst X (v := nI 1) dL_law_697 (by decide) ?_
  refine g_iadd X dL_law_698 ?_
  rw [nI_add]
  refine g_sld X hX hbl hbA (vin (by omega) (by omega)) dL_law_699 ?_
  refine l_callIV X hA (np := 1) (t := 0) (As := [.int (xs (nI (4 * n + 1)).toNatClampNeg)]) (st := []) (c_X6_count BBr_RA (t_count hI (xs (nI (4 * n + 1)).toNatClampNeg))) (gV z_791 z_792 z_793 z_52 z_794) cl_X6 BBr_RA.1 (by decide +kernel) rfl rfl rfl ⟨Nat.le_of_ble_eq_true rfl, Nat.le_of_ble_eq_true rfl⟩ ⟨Nat.le_of_ble_eq_true rfl, Nat.le_of_ble_eq_true rfl⟩ rfl (Nat.le_of_ble_eq_true rfl) dL_law_700 ?_
  intro r F1 h1
  refine g_aload_n X 1 dL_law_703 rfl rfl ?_
  refine g_aload_n X 3 dL_law_704 rfl rfl ?_
  refine g_iload_n X 0 dL_law_705 rfl rfl ?_
  refine g_iconst X (v := nI 1) dL_law_706 (by decide) ?_
  refine g_iadd X dL_law_707 ?_
  rw [nI_add]
  refine g_sld X hX hbl hbA (vin (by omega) (by omega)) dL_law_708 ?_
  refine l_callIV X hA (np := 1) (t := 100) (As := [.int (xs (nI (4 * n + 1)).toNatClampNeg)]) (st := [.int r]) (c_X7_count Md_RA h1) (gV z_1158 z_1159 z_1160 z_64 z_1161) cl_X7 Md_RA.1 (by decide +kernel) rfl rfl rfl ⟨Nat.le_of_ble_eq_true rfl, Nat.le_of_ble_eq_true rfl⟩ ⟨Nat.le_of_ble_eq_true rfl, Nat.le_of_ble_eq_true rfl⟩ rfl (Nat.le_of_ble_eq_true rfl) dL_law_709 ?_
  rintro r2 F2 ⟨e2, h2⟩
  exact g_icmp_eq X (tgt := 717) dL_law_712 (by decide) (fun _ => kk F2 h2) (fun g => absurd e2 g)
end LawCases
