theorem z_371 : Cond.methodLink RL 13 yX6_write ∈ WB := inWB 371 (by decide +kernel) (by decide +kernel)
theorem z_372 : Cond.instanceMethod yX6_write ∈ WB := inWB 372 (by decide +kernel) (by decide +kernel)
theorem z_373 : Cond.selects RX6 yX6_write yX6_write ∈ WB := inWB 373 (by decide +kernel) (by decide +kernel)
theorem z_56 : Cond.initialized RX6 ∈ WB := inWB 56 (by decide +kernel) (by decide +kernel)
theorem z_374 : Cond.code yX6_write cX6_write 2 (some .int) ∈ WB := inWB 374 (by decide +kernel) (by decide +kernel)
theorem z_955 : Cond.methodLink RL 17 yX7_write ∈ WB := inWB 955 (by decide +kernel) (by decide +kernel)
theorem z_956 : Cond.instanceMethod yX7_write ∈ WB := inWB 956 (by decide +kernel) (by decide +kernel)
theorem z_957 : Cond.selects RX7 yX7_write yX7_write ∈ WB := inWB 957 (by decide +kernel) (by decide +kernel)
theorem z_958 : Cond.code yX7_write cX7_write 2 (some .int) ∈ WB := inWB 958 (by decide +kernel) (by decide +kernel)
theorem z_379 : Cond.methodLink RL 18 yX6_wipe ∈ WB := inWB 379 (by decide +kernel) (by decide +kernel)
theorem z_380 : Cond.instanceMethod yX6_wipe ∈ WB := inWB 380 (by decide +kernel) (by decide +kernel)
theorem z_381 : Cond.selects RX6 yX6_wipe yX6_wipe ∈ WB := inWB 381 (by decide +kernel) (by decide +kernel)
theorem z_382 : Cond.code yX6_wipe cX6_wipe 2 (some .int) ∈ WB := inWB 382 (by decide +kernel) (by decide +kernel)
theorem z_962 : Cond.methodLink RL 22 yX7_wipe ∈ WB := inWB 962 (by decide +kernel) (by decide +kernel)
theorem z_963 : Cond.instanceMethod yX7_wipe ∈ WB := inWB 963 (by decide +kernel) (by decide +kernel)
theorem z_964 : Cond.selects RX7 yX7_wipe yX7_wipe ∈ WB := inWB 964 (by decide +kernel) (by decide +kernel)
theorem z_965 : Cond.code yX7_wipe cX7_wipe 2 (some .int) ∈ WB := inWB 965 (by decide +kernel) (by decide +kernel)
theorem z_383 : Cond.methodLink RL 23 yX6_fault ∈ WB := inWB 383 (by decide +kernel) (by decide +kernel)
theorem z_384 : Cond.instanceMethod yX6_fault ∈ WB := inWB 384 (by decide +kernel) (by decide +kernel)
theorem z_385 : Cond.selects RX6 yX6_fault yX6_fault ∈ WB := inWB 385 (by decide +kernel) (by decide +kernel)
theorem z_386 : Cond.code yX6_fault cX6_fault 1 (some .int) ∈ WB := inWB 386 (by decide +kernel) (by decide +kernel)
theorem z_966 : Cond.methodLink RL 26 yX7_fault ∈ WB := inWB 966 (by decide +kernel) (by decide +kernel)
theorem z_967 : Cond.instanceMethod yX7_fault ∈ WB := inWB 967 (by decide +kernel) (by decide +kernel)
theorem z_968 : Cond.selects RX7 yX7_fault yX7_fault ∈ WB := inWB 968 (by decide +kernel) (by decide +kernel)
theorem z_969 : Cond.code yX7_fault cX7_fault 1 (some .int) ∈ WB := inWB 969 (by decide +kernel) (by decide +kernel)
theorem z_387 : Cond.methodLink RL 27 yX6_lay ∈ WB := inWB 387 (by decide +kernel) (by decide +kernel)
theorem z_388 : Cond.instanceMethod yX6_lay ∈ WB := inWB 388 (by decide +kernel) (by decide +kernel)
theorem z_389 : Cond.selects RX6 yX6_lay yX6_lay ∈ WB := inWB 389 (by decide +kernel) (by decide +kernel)
theorem z_390 : Cond.code yX6_lay cX6_lay 1 (some .int) ∈ WB := inWB 390 (by decide +kernel) (by decide +kernel)
theorem z_986 : Cond.methodLink RL 30 yX7_lay ∈ WB := inWB 986 (by decide +kernel) (by decide +kernel)
theorem z_987 : Cond.instanceMethod yX7_lay ∈ WB := inWB 987 (by decide +kernel) (by decide +kernel)
theorem z_988 : Cond.selects RX7 yX7_lay yX7_lay ∈ WB := inWB 988 (by decide +kernel) (by decide +kernel)
theorem z_989 : Cond.code yX7_lay cX7_lay 2 (some .int) ∈ WB := inWB 989 (by decide +kernel) (by decide +kernel)
theorem z_422 : Cond.methodLink RL 31 yX6_bird ∈ WB := inWB 422 (by decide +kernel) (by decide +kernel)
theorem z_423 : Cond.instanceMethod yX6_bird ∈ WB := inWB 423 (by decide +kernel) (by decide +kernel)
theorem z_424 : Cond.selects RX6 yX6_bird yX6_bird ∈ WB := inWB 424 (by decide +kernel) (by decide +kernel)
theorem z_425 : Cond.code yX6_bird cX6_bird 3 (some .int) ∈ WB := inWB 425 (by decide +kernel) (by decide +kernel)
theorem z_990 : Cond.methodLink RL 35 yX7_bird ∈ WB := inWB 990 (by decide +kernel) (by decide +kernel)
theorem z_991 : Cond.instanceMethod yX7_bird ∈ WB := inWB 991 (by decide +kernel) (by decide +kernel)
theorem z_992 : Cond.selects RX7 yX7_bird yX7_bird ∈ WB := inWB 992 (by decide +kernel) (by decide +kernel)
theorem z_993 : Cond.code yX7_bird cX7_bird 3 (some .int) ∈ WB := inWB 993 (by decide +kernel) (by decide +kernel)
theorem z_458 : Cond.methodLink RL 36 yX6_wind ∈ WB := inWB 458 (by decide +kernel) (by decide +kernel)
theorem z_459 : Cond.instanceMethod yX6_wind ∈ WB := inWB 459 (by decide +kernel) (by decide +kernel)
theorem z_460 : Cond.selects RX6 yX6_wind yX6_wind ∈ WB := inWB 460 (by decide +kernel) (by decide +kernel)
theorem z_461 : Cond.code yX6_wind cX6_wind 2 (some .int) ∈ WB := inWB 461 (by decide +kernel) (by decide +kernel)
theorem z_1002 : Cond.methodLink RL 39 yX7_wind ∈ WB := inWB 1002 (by decide +kernel) (by decide +kernel)
theorem z_1003 : Cond.instanceMethod yX7_wind ∈ WB := inWB 1003 (by decide +kernel) (by decide +kernel)
theorem z_1004 : Cond.selects RX7 yX7_wind yX7_wind ∈ WB := inWB 1004 (by decide +kernel) (by decide +kernel)
theorem z_1005 : Cond.code yX7_wind cX7_wind 2 (some .int) ∈ WB := inWB 1005 (by decide +kernel) (by decide +kernel)
theorem z_466 : Cond.methodLink RL 40 yX6_span ∈ WB := inWB 466 (by decide +kernel) (by decide +kernel)
theorem z_467 : Cond.instanceMethod yX6_span ∈ WB := inWB 467 (by decide +kernel) (by decide +kernel)
theorem z_468 : Cond.selects RX6 yX6_span yX6_span ∈ WB := inWB 468 (by decide +kernel) (by decide +kernel)
theorem z_469 : Cond.code yX6_span cX6_span 4 (some .int) ∈ WB := inWB 469 (by decide +kernel) (by decide +kernel)
theorem z_1010 : Cond.methodLink RL 43 yX7_span ∈ WB := inWB 1010 (by decide +kernel) (by decide +kernel)
theorem z_1011 : Cond.instanceMethod yX7_span ∈ WB := inWB 1011 (by decide +kernel) (by decide +kernel)
theorem z_1012 : Cond.selects RX7 yX7_span yX7_span ∈ WB := inWB 1012 (by decide +kernel) (by decide +kernel)
theorem z_1013 : Cond.code yX7_span cX7_span 3 (some .int) ∈ WB := inWB 1013 (by decide +kernel) (by decide +kernel)
theorem z_553 : Cond.methodLink RL 44 yX6_join ∈ WB := inWB 553 (by decide +kernel) (by decide +kernel)
theorem z_554 : Cond.instanceMethod yX6_join ∈ WB := inWB 554 (by decide +kernel) (by decide +kernel)
theorem z_555 : Cond.selects RX6 yX6_join yX6_join ∈ WB := inWB 555 (by decide +kernel) (by decide +kernel)
theorem z_556 : Cond.code yX6_join cX6_join 2 (some .int) ∈ WB := inWB 556 (by decide +kernel) (by decide +kernel)
theorem z_1049 : Cond.methodLink RL 47 yX7_join ∈ WB := inWB 1049 (by decide +kernel) (by decide +kernel)
theorem z_1050 : Cond.instanceMethod yX7_join ∈ WB := inWB 1050 (by decide +kernel) (by decide +kernel)
theorem z_1051 : Cond.selects RX7 yX7_join yX7_join ∈ WB := inWB 1051 (by decide +kernel) (by decide +kernel)
theorem z_1052 : Cond.code yX7_join cX7_join 2 (some .int) ∈ WB := inWB 1052 (by decide +kernel) (by decide +kernel)
theorem z_598 : Cond.methodLink RL 48 yX6_leave ∈ WB := inWB 598 (by decide +kernel) (by decide +kernel)
theorem z_599 : Cond.instanceMethod yX6_leave ∈ WB := inWB 599 (by decide +kernel) (by decide +kernel)
theorem z_600 : Cond.selects RX6 yX6_leave yX6_leave ∈ WB := inWB 600 (by decide +kernel) (by decide +kernel)
theorem z_601 : Cond.code yX6_leave cX6_leave 3 (some .int) ∈ WB := inWB 601 (by decide +kernel) (by decide +kernel)
theorem z_1076 : Cond.methodLink RL 51 yX7_leave ∈ WB := inWB 1076 (by decide +kernel) (by decide +kernel)
theorem z_1077 : Cond.instanceMethod yX7_leave ∈ WB := inWB 1077 (by decide +kernel) (by decide +kernel)
theorem z_1078 : Cond.selects RX7 yX7_leave yX7_leave ∈ WB := inWB 1078 (by decide +kernel) (by decide +kernel)
theorem z_1079 : Cond.code yX7_leave cX7_leave 1 (some .int) ∈ WB := inWB 1079 (by decide +kernel) (by decide +kernel)
theorem z_606 : Cond.methodLink RL 52 yX6_step ∈ WB := inWB 606 (by decide +kernel) (by decide +kernel)
theorem z_607 : Cond.instanceMethod yX6_step ∈ WB := inWB 607 (by decide +kernel) (by decide +kernel)
theorem z_608 : Cond.selects RX6 yX6_step yX6_step ∈ WB := inWB 608 (by decide +kernel) (by decide +kernel)
theorem z_609 : Cond.code yX6_step cX6_step 1 (some .int) ∈ WB := inWB 609 (by decide +kernel) (by decide +kernel)
theorem z_1080 : Cond.methodLink RL 55 yX7_step ∈ WB := inWB 1080 (by decide +kernel) (by decide +kernel)
theorem z_1081 : Cond.instanceMethod yX7_step ∈ WB := inWB 1081 (by decide +kernel) (by decide +kernel)
theorem z_1082 : Cond.selects RX7 yX7_step yX7_step ∈ WB := inWB 1082 (by decide +kernel) (by decide +kernel)
theorem z_1083 : Cond.code yX7_step cX7_step 1 (some .int) ∈ WB := inWB 1083 (by decide +kernel) (by decide +kernel)
theorem z_640 : Cond.methodLink RL 56 yX6_stand ∈ WB := inWB 640 (by decide +kernel) (by decide +kernel)
theorem z_641 : Cond.instanceMethod yX6_stand ∈ WB := inWB 641 (by decide +kernel) (by decide +kernel)
theorem z_642 : Cond.selects RX6 yX6_stand yX6_stand ∈ WB := inWB 642 (by decide +kernel) (by decide +kernel)
theorem z_643 : Cond.code yX6_stand cX6_stand 1 (some .int) ∈ WB := inWB 643 (by decide +kernel) (by decide +kernel)
theorem z_1096 : Cond.methodLink RL 59 yX7_stand ∈ WB := inWB 1096 (by decide +kernel) (by decide +kernel)
theorem z_1097 : Cond.instanceMethod yX7_stand ∈ WB := inWB 1097 (by decide +kernel) (by decide +kernel)
theorem z_1098 : Cond.selects RX7 yX7_stand yX7_stand ∈ WB := inWB 1098 (by decide +kernel) (by decide +kernel)
theorem z_1099 : Cond.code yX7_stand cX7_stand 1 (some .int) ∈ WB := inWB 1099 (by decide +kernel) (by decide +kernel)
theorem z_644 : Cond.methodLink RL 60 yX6_year ∈ WB := inWB 644 (by decide +kernel) (by decide +kernel)
theorem z_645 : Cond.instanceMethod yX6_year ∈ WB := inWB 645 (by decide +kernel) (by decide +kernel)
theorem z_646 : Cond.selects RX6 yX6_year yX6_year ∈ WB := inWB 646 (by decide +kernel) (by decide +kernel)
theorem z_647 : Cond.code yX6_year cX6_year 2 (some .int) ∈ WB := inWB 647 (by decide +kernel) (by decide +kernel)
theorem z_1100 : Cond.methodLink RL 63 yX7_year ∈ WB := inWB 1100 (by decide +kernel) (by decide +kernel)
theorem z_1101 : Cond.instanceMethod yX7_year ∈ WB := inWB 1101 (by decide +kernel) (by decide +kernel)
theorem z_1102 : Cond.selects RX7 yX7_year yX7_year ∈ WB := inWB 1102 (by decide +kernel) (by decide +kernel)
theorem z_1103 : Cond.code yX7_year cX7_year 2 (some .int) ∈ WB := inWB 1103 (by decide +kernel) (by decide +kernel)
theorem z_652 : Cond.methodLink RL 64 yX6_undo ∈ WB := inWB 652 (by decide +kernel) (by decide +kernel)
theorem z_653 : Cond.instanceMethod yX6_undo ∈ WB := inWB 653 (by decide +kernel) (by decide +kernel)
theorem z_654 : Cond.selects RX6 yX6_undo yX6_undo ∈ WB := inWB 654 (by decide +kernel) (by decide +kernel)
theorem z_655 : Cond.code yX6_undo cX6_undo 1 (some .int) ∈ WB := inWB 655 (by decide +kernel) (by decide +kernel)
theorem z_1104 : Cond.methodLink RL 67 yX7_undo ∈ WB := inWB 1104 (by decide +kernel) (by decide +kernel)
theorem z_1105 : Cond.instanceMethod yX7_undo ∈ WB := inWB 1105 (by decide +kernel) (by decide +kernel)
theorem z_1106 : Cond.selects RX7 yX7_undo yX7_undo ∈ WB := inWB 1106 (by decide +kernel) (by decide +kernel)
theorem z_1107 : Cond.code yX7_undo cX7_undo 1 (some .int) ∈ WB := inWB 1107 (by decide +kernel) (by decide +kernel)
theorem z_664 : Cond.methodLink RL 68 yX6_over ∈ WB := inWB 664 (by decide +kernel) (by decide +kernel)
theorem z_665 : Cond.instanceMethod yX6_over ∈ WB := inWB 665 (by decide +kernel) (by decide +kernel)
theorem z_666 : Cond.selects RX6 yX6_over yX6_over ∈ WB := inWB 666 (by decide +kernel) (by decide +kernel)
theorem z_667 : Cond.code yX6_over cX6_over 5 (some .int) ∈ WB := inWB 667 (by decide +kernel) (by decide +kernel)
theorem z_1108 : Cond.methodLink RL 71 yX7_over ∈ WB := inWB 1108 (by decide +kernel) (by decide +kernel)
theorem z_1109 : Cond.instanceMethod yX7_over ∈ WB := inWB 1109 (by decide +kernel) (by decide +kernel)
theorem z_1110 : Cond.selects RX7 yX7_over yX7_over ∈ WB := inWB 1110 (by decide +kernel) (by decide +kernel)
theorem z_1111 : Cond.code yX7_over cX7_over 2 (some .int) ∈ WB := inWB 1111 (by decide +kernel) (by decide +kernel)
theorem z_675 : Cond.methodLink RL 72 yX6_fewest ∈ WB := inWB 675 (by decide +kernel) (by decide +kernel)
theorem z_676 : Cond.instanceMethod yX6_fewest ∈ WB := inWB 676 (by decide +kernel) (by decide +kernel)
theorem z_677 : Cond.selects RX6 yX6_fewest yX6_fewest ∈ WB := inWB 677 (by decide +kernel) (by decide +kernel)
theorem z_678 : Cond.code yX6_fewest cX6_fewest 2 (some .int) ∈ WB := inWB 678 (by decide +kernel) (by decide +kernel)
theorem z_1116 : Cond.methodLink RL 75 yX7_fewest ∈ WB := inWB 1116 (by decide +kernel) (by decide +kernel)
theorem z_1117 : Cond.instanceMethod yX7_fewest ∈ WB := inWB 1117 (by decide +kernel) (by decide +kernel)
theorem z_1118 : Cond.selects RX7 yX7_fewest yX7_fewest ∈ WB := inWB 1118 (by decide +kernel) (by decide +kernel)
theorem z_1119 : Cond.code yX7_fewest cX7_fewest 2 (some .int) ∈ WB := inWB 1119 (by decide +kernel) (by decide +kernel)
theorem z_742 : Cond.methodLink RL 76 yX6_mend ∈ WB := inWB 742 (by decide +kernel) (by decide +kernel)
theorem z_743 : Cond.instanceMethod yX6_mend ∈ WB := inWB 743 (by decide +kernel) (by decide +kernel)
theorem z_744 : Cond.selects RX6 yX6_mend yX6_mend ∈ WB := inWB 744 (by decide +kernel) (by decide +kernel)
theorem z_745 : Cond.code yX6_mend cX6_mend 4 (some .int) ∈ WB := inWB 745 (by decide +kernel) (by decide +kernel)
theorem z_1132 : Cond.methodLink RL 79 yX7_mend ∈ WB := inWB 1132 (by decide +kernel) (by decide +kernel)
theorem z_1133 : Cond.instanceMethod yX7_mend ∈ WB := inWB 1133 (by decide +kernel) (by decide +kernel)
theorem z_1134 : Cond.selects RX7 yX7_mend yX7_mend ∈ WB := inWB 1134 (by decide +kernel) (by decide +kernel)
theorem z_1135 : Cond.code yX7_mend cX7_mend 3 (some .int) ∈ WB := inWB 1135 (by decide +kernel) (by decide +kernel)
theorem z_754 : Cond.methodLink RL 80 yX6_calls ∈ WB := inWB 754 (by decide +kernel) (by decide +kernel)
theorem z_755 : Cond.instanceMethod yX6_calls ∈ WB := inWB 755 (by decide +kernel) (by decide +kernel)
theorem z_756 : Cond.selects RX6 yX6_calls yX6_calls ∈ WB := inWB 756 (by decide +kernel) (by decide +kernel)
theorem z_757 : Cond.code yX6_calls cX6_calls 6 (some .int) ∈ WB := inWB 757 (by decide +kernel) (by decide +kernel)
theorem z_1136 : Cond.methodLink RL 83 yX7_calls ∈ WB := inWB 1136 (by decide +kernel) (by decide +kernel)
theorem z_1137 : Cond.instanceMethod yX7_calls ∈ WB := inWB 1137 (by decide +kernel) (by decide +kernel)
theorem z_1138 : Cond.selects RX7 yX7_calls yX7_calls ∈ WB := inWB 1138 (by decide +kernel) (by decide +kernel)
theorem z_1139 : Cond.code yX7_calls cX7_calls 8 (some .int) ∈ WB := inWB 1139 (by decide +kernel) (by decide +kernel)
theorem z_763 : Cond.methodLink RL 84 yX6_second ∈ WB := inWB 763 (by decide +kernel) (by decide +kernel)
theorem z_764 : Cond.instanceMethod yX6_second ∈ WB := inWB 764 (by decide +kernel) (by decide +kernel)
theorem z_765 : Cond.selects RX6 yX6_second yX6_second ∈ WB := inWB 765 (by decide +kernel) (by decide +kernel)
theorem z_766 : Cond.code yX6_second cX6_second 3 (some .int) ∈ WB := inWB 766 (by decide +kernel) (by decide +kernel)
theorem z_1143 : Cond.methodLink RL 87 yX7_second ∈ WB := inWB 1143 (by decide +kernel) (by decide +kernel)
theorem z_1144 : Cond.instanceMethod yX7_second ∈ WB := inWB 1144 (by decide +kernel) (by decide +kernel)
theorem z_1145 : Cond.selects RX7 yX7_second yX7_second ∈ WB := inWB 1145 (by decide +kernel) (by decide +kernel)
theorem z_1146 : Cond.code yX7_second cX7_second 3 (some .int) ∈ WB := inWB 1146 (by decide +kernel) (by decide +kernel)
theorem z_777 : Cond.methodLink RL 88 yX6_years ∈ WB := inWB 777 (by decide +kernel) (by decide +kernel)
theorem z_778 : Cond.instanceMethod yX6_years ∈ WB := inWB 778 (by decide +kernel) (by decide +kernel)
theorem z_779 : Cond.selects RX6 yX6_years yX6_years ∈ WB := inWB 779 (by decide +kernel) (by decide +kernel)
theorem z_780 : Cond.code yX6_years cX6_years 2 (some .int) ∈ WB := inWB 780 (by decide +kernel) (by decide +kernel)
theorem z_1151 : Cond.methodLink RL 91 yX7_years ∈ WB := inWB 1151 (by decide +kernel) (by decide +kernel)
theorem z_1152 : Cond.instanceMethod yX7_years ∈ WB := inWB 1152 (by decide +kernel) (by decide +kernel)
theorem z_1153 : Cond.selects RX7 yX7_years yX7_years ∈ WB := inWB 1153 (by decide +kernel) (by decide +kernel)
theorem z_1154 : Cond.code yX7_years cX7_years 2 (some .int) ∈ WB := inWB 1154 (by decide +kernel) (by decide +kernel)
theorem z_782 : Cond.methodLink RL 92 yX6_seen ∈ WB := inWB 782 (by decide +kernel) (by decide +kernel)
theorem z_783 : Cond.instanceMethod yX6_seen ∈ WB := inWB 783 (by decide +kernel) (by decide +kernel)
theorem z_784 : Cond.selects RX6 yX6_seen yX6_seen ∈ WB := inWB 784 (by decide +kernel) (by decide +kernel)
theorem z_785 : Cond.code yX6_seen cX6_seen 3 (some .int) ∈ WB := inWB 785 (by decide +kernel) (by decide +kernel)
theorem z_1155 : Cond.methodLink RL 95 yX7_seen ∈ WB := inWB 1155 (by decide +kernel) (by decide +kernel)
theorem z_1156 : Cond.instanceMethod yX7_seen ∈ WB := inWB 1156 (by decide +kernel) (by decide +kernel)
theorem z_1157 : Cond.selects RX7 yX7_seen yX7_seen ∈ WB := inWB 1157 (by decide +kernel) (by decide +kernel)
theorem z_1158 : Cond.code yX7_seen cX7_seen 3 (some .int) ∈ WB := inWB 1158 (by decide +kernel) (by decide +kernel)
theorem z_786 : Cond.methodLink RL 96 yX6_forget ∈ WB := inWB 786 (by decide +kernel) (by decide +kernel)
theorem z_787 : Cond.instanceMethod yX6_forget ∈ WB := inWB 787 (by decide +kernel) (by decide +kernel)
theorem z_788 : Cond.selects RX6 yX6_forget yX6_forget ∈ WB := inWB 788 (by decide +kernel) (by decide +kernel)
theorem z_789 : Cond.code yX6_forget cX6_forget 2 (some .int) ∈ WB := inWB 789 (by decide +kernel) (by decide +kernel)
theorem z_1159 : Cond.methodLink RL 99 yX7_forget ∈ WB := inWB 1159 (by decide +kernel) (by decide +kernel)
theorem z_1160 : Cond.instanceMethod yX7_forget ∈ WB := inWB 1160 (by decide +kernel) (by decide +kernel)
theorem z_1161 : Cond.selects RX7 yX7_forget yX7_forget ∈ WB := inWB 1161 (by decide +kernel) (by decide +kernel)
theorem z_1162 : Cond.code yX7_forget cX7_forget 2 (some .int) ∈ WB := inWB 1162 (by decide +kernel) (by decide +kernel)
theorem z_790 : Cond.methodLink RL 100 yX6_stood ∈ WB := inWB 790 (by decide +kernel) (by decide +kernel)
theorem z_791 : Cond.instanceMethod yX6_stood ∈ WB := inWB 791 (by decide +kernel) (by decide +kernel)
theorem z_792 : Cond.selects RX6 yX6_stood yX6_stood ∈ WB := inWB 792 (by decide +kernel) (by decide +kernel)
theorem z_793 : Cond.code yX6_stood cX6_stood 4 (some .int) ∈ WB := inWB 793 (by decide +kernel) (by decide +kernel)
theorem z_1163 : Cond.methodLink RL 103 yX7_stood ∈ WB := inWB 1163 (by decide +kernel) (by decide +kernel)
theorem z_1164 : Cond.instanceMethod yX7_stood ∈ WB := inWB 1164 (by decide +kernel) (by decide +kernel)
theorem z_1165 : Cond.selects RX7 yX7_stood yX7_stood ∈ WB := inWB 1165 (by decide +kernel) (by decide +kernel)
theorem z_1166 : Cond.code yX7_stood cX7_stood 4 (some .int) ∈ WB := inWB 1166 (by decide +kernel) (by decide +kernel)
theorem z_800 : Cond.methodLink RL 104 yX6_rain ∈ WB := inWB 800 (by decide +kernel) (by decide +kernel)
theorem z_801 : Cond.instanceMethod yX6_rain ∈ WB := inWB 801 (by decide +kernel) (by decide +kernel)
theorem z_802 : Cond.selects RX6 yX6_rain yX6_rain ∈ WB := inWB 802 (by decide +kernel) (by decide +kernel)
theorem z_803 : Cond.code yX6_rain cX6_rain 7 (some .int) ∈ WB := inWB 803 (by decide +kernel) (by decide +kernel)
theorem z_1171 : Cond.methodLink RL 107 yX7_rain ∈ WB := inWB 1171 (by decide +kernel) (by decide +kernel)
theorem z_1172 : Cond.instanceMethod yX7_rain ∈ WB := inWB 1172 (by decide +kernel) (by decide +kernel)
theorem z_1173 : Cond.selects RX7 yX7_rain yX7_rain ∈ WB := inWB 1173 (by decide +kernel) (by decide +kernel)
theorem z_1174 : Cond.code yX7_rain cX7_rain 7 (some .int) ∈ WB := inWB 1174 (by decide +kernel) (by decide +kernel)
theorem z_806 : Cond.methodLink RL 108 yX6_century ∈ WB := inWB 806 (by decide +kernel) (by decide +kernel)
theorem z_807 : Cond.instanceMethod yX6_century ∈ WB := inWB 807 (by decide +kernel) (by decide +kernel)
theorem z_808 : Cond.selects RX6 yX6_century yX6_century ∈ WB := inWB 808 (by decide +kernel) (by decide +kernel)
theorem z_809 : Cond.code yX6_century cX6_century 7 (some .int) ∈ WB := inWB 809 (by decide +kernel) (by decide +kernel)
theorem z_1177 : Cond.methodLink RL 112 yX7_century ∈ WB := inWB 1177 (by decide +kernel) (by decide +kernel)
theorem z_1178 : Cond.instanceMethod yX7_century ∈ WB := inWB 1178 (by decide +kernel) (by decide +kernel)
theorem z_1179 : Cond.selects RX7 yX7_century yX7_century ∈ WB := inWB 1179 (by decide +kernel) (by decide +kernel)
theorem z_1180 : Cond.code yX7_century cX7_century 8 (some .int) ∈ WB := inWB 1180 (by decide +kernel) (by decide +kernel)
theorem z_823 : Cond.methodLink RL 113 yX6_keep ∈ WB := inWB 823 (by decide +kernel) (by decide +kernel)
theorem z_824 : Cond.instanceMethod yX6_keep ∈ WB := inWB 824 (by decide +kernel) (by decide +kernel)
theorem z_825 : Cond.selects RX6 yX6_keep yX6_keep ∈ WB := inWB 825 (by decide +kernel) (by decide +kernel)
theorem z_826 : Cond.code yX6_keep cX6_keep 1 (some .int) ∈ WB := inWB 826 (by decide +kernel) (by decide +kernel)
theorem z_1191 : Cond.methodLink RL 116 yX7_keep ∈ WB := inWB 1191 (by decide +kernel) (by decide +kernel)
theorem z_1192 : Cond.instanceMethod yX7_keep ∈ WB := inWB 1192 (by decide +kernel) (by decide +kernel)
theorem z_1193 : Cond.selects RX7 yX7_keep yX7_keep ∈ WB := inWB 1193 (by decide +kernel) (by decide +kernel)
theorem z_1194 : Cond.code yX7_keep cX7_keep 1 (some .int) ∈ WB := inWB 1194 (by decide +kernel) (by decide +kernel)
theorem z_828 : Cond.methodLink RL 117 yX6_back ∈ WB := inWB 828 (by decide +kernel) (by decide +kernel)
theorem z_829 : Cond.instanceMethod yX6_back ∈ WB := inWB 829 (by decide +kernel) (by decide +kernel)
theorem z_830 : Cond.selects RX6 yX6_back yX6_back ∈ WB := inWB 830 (by decide +kernel) (by decide +kernel)
theorem z_831 : Cond.code yX6_back cX6_back 1 (some .int) ∈ WB := inWB 831 (by decide +kernel) (by decide +kernel)
theorem z_1195 : Cond.methodLink RL 120 yX7_back ∈ WB := inWB 1195 (by decide +kernel) (by decide +kernel)
theorem z_1196 : Cond.instanceMethod yX7_back ∈ WB := inWB 1196 (by decide +kernel) (by decide +kernel)
theorem z_1197 : Cond.selects RX7 yX7_back yX7_back ∈ WB := inWB 1197 (by decide +kernel) (by decide +kernel)
theorem z_1198 : Cond.code yX7_back cX7_back 1 (some .int) ∈ WB := inWB 1198 (by decide +kernel) (by decide +kernel)
theorem z_832 : Cond.methodLink RL 121 yX6_count ∈ WB := inWB 832 (by decide +kernel) (by decide +kernel)
theorem z_833 : Cond.instanceMethod yX6_count ∈ WB := inWB 833 (by decide +kernel) (by decide +kernel)
theorem z_834 : Cond.selects RX6 yX6_count yX6_count ∈ WB := inWB 834 (by decide +kernel) (by decide +kernel)
theorem z_835 : Cond.code yX6_count cX6_count 2 (some .int) ∈ WB := inWB 835 (by decide +kernel) (by decide +kernel)
theorem z_1199 : Cond.methodLink RL 124 yX7_count ∈ WB := inWB 1199 (by decide +kernel) (by decide +kernel)
theorem z_1200 : Cond.instanceMethod yX7_count ∈ WB := inWB 1200 (by decide +kernel) (by decide +kernel)
theorem z_1201 : Cond.selects RX7 yX7_count yX7_count ∈ WB := inWB 1201 (by decide +kernel) (by decide +kernel)
theorem z_1202 : Cond.code yX7_count cX7_count 2 (some .int) ∈ WB := inWB 1202 (by decide +kernel) (by decide +kernel)
section LawCases
variable {p : Program} {l : Launch} {e : Env} {s : State} {m : MethodId} {below : List Frame} {meth : Method} {c : Code} {D : va_G} {dA : Nat → ClassId} {ad : Nat → Nat} {F : HF} {b L n : Nat} {xs : Nat → Int32}
set_option maxRecDepth 100000 in
set_option maxHeartbeats 4000000 in
theorem lc_0 (Z : LX p s m meth c D dA b L xs) (hn : 4 * n + 4 ≤ L) (hI : Inv n F) (kk : ∀ F', Inv (n + 1) F' → JL p l e s m below meth c D dA b ad F' 717 (4 * n)) : JL p l e s m below meth c D dA b ad F 156 (4 * n) := by
  obtain ⟨X, hX, hbl, hL, hr⟩ := Z
  have hA : ∀ q : Nat, s.heap.size ≤ q → (fun q : Nat => s.heap.size ≤ q) q := fun _ h => h
  have hbA : ¬ (fun q : Nat => s.heap.size ≤ q) b := Nat.not_le.mpr hbl
  refine g_aload_n X 2 dL_law_156 rfl rfl ?_
  refine g_aload_n X 3 dL_law_157 rfl rfl ?_
  refine g_iload_n X 0 dL_law_158 rfl rfl ?_
  refine g_iconst X (v := nI 1) dL_law_159 (by decide) ?_
  refine g_iadd X dL_law_160 ?_
  rw [nI_add]
  refine g_sld X hX hbl hbA (vin (by omega) (by omega)) dL_law_161 ?_
  refine l_callIV X hA (np := 1) (t := 0) (As := [.int (xs (nI (4 * n + 1)).toNatClampNeg)]) (st := []) (c_X6_write BBr_RA (t_write hI (xs (nI (4 * n + 1)).toNatClampNeg))) (gV z_371 z_372 z_373 z_56 z_374) cl_X6 BBr_RA.1 (by decide +kernel) rfl rfl rfl ⟨Nat.le_of_ble_eq_true rfl, Nat.le_of_ble_eq_true rfl⟩ ⟨Nat.le_of_ble_eq_true rfl, Nat.le_of_ble_eq_true rfl⟩ rfl (Nat.le_of_ble_eq_true rfl) dL_law_162 ?_
  intro r F1 h1
  refine g_aload_n X 1 dL_law_165 rfl rfl ?_
  refine g_aload_n X 3 dL_law_166 rfl rfl ?_
  refine g_iload_n X 0 dL_law_167 rfl rfl ?_
  refine g_iconst X (v := nI 1) dL_law_168 (by decide) ?_
  refine g_iadd X dL_law_169 ?_
  rw [nI_add]
  refine g_sld X hX hbl hbA (vin (by omega) (by omega)) dL_law_170 ?_
  refine l_callIV X hA (np := 1) (t := 100) (As := [.int (xs (nI (4 * n + 1)).toNatClampNeg)]) (st := [.int r]) (c_X7_write Md_RA h1) (gV z_955 z_956 z_957 z_68 z_958) cl_X7 Md_RA.1 (by decide +kernel) rfl rfl rfl ⟨Nat.le_of_ble_eq_true rfl, Nat.le_of_ble_eq_true rfl⟩ ⟨Nat.le_of_ble_eq_true rfl, Nat.le_of_ble_eq_true rfl⟩ rfl (Nat.le_of_ble_eq_true rfl) dL_law_171 ?_
  rintro r2 F2 ⟨e2, h2⟩
  exact g_icmp_eq X (tgt := 717) dL_law_174 (by decide) (fun _ => kk F2 h2) (fun g => absurd e2 g)
set_option maxRecDepth 100000 in
set_option maxHeartbeats 4000000 in
theorem lc_1 (Z : LX p s m meth c D dA b L xs) (hn : 4 * n + 4 ≤ L) (hI : Inv n F) (kk : ∀ F', Inv (n + 1) F' → JL p l e s m below meth c D dA b ad F' 717 (4 * n)) : JL p l e s m below meth c D dA b ad F 179 (4 * n) := by
  obtain ⟨X, hX, hbl, hL, hr⟩ := Z
  have hA : ∀ q : Nat, s.heap.size ≤ q → (fun q : Nat => s.heap.size ≤ q) q := fun _ h => h
  have hbA : ¬ (fun q : Nat => s.heap.size ≤ q) b := Nat.not_le.mpr hbl
  refine g_aload_n X 2 dL_law_179 rfl rfl ?_
  refine l_callIV X hA (np := 0) (t := 0) (As := []) (st := []) (c_X6_wipe BBr_RA (t_wipe hI)) (gV z_379 z_380 z_381 z_56 z_382) cl_X6 BBr_RA.1 (by decide +kernel) rfl rfl rfl ⟨Nat.le_of_ble_eq_true rfl, Nat.le_of_ble_eq_true rfl⟩ ⟨Nat.le_of_ble_eq_true rfl, Nat.le_of_ble_eq_true rfl⟩ rfl (Nat.le_of_ble_eq_true rfl) dL_law_180 ?_
  intro r F1 h1
  refine g_aload_n X 1 dL_law_183 rfl rfl ?_
  refine l_callIV X hA (np := 0) (t := 100) (As := []) (st := [.int r]) (c_X7_wipe Md_RA h1) (gV z_962 z_963 z_964 z_68 z_965) cl_X7 Md_RA.1 (by decide +kernel) rfl rfl rfl ⟨Nat.le_of_ble_eq_true rfl, Nat.le_of_ble_eq_true rfl⟩ ⟨Nat.le_of_ble_eq_true rfl, Nat.le_of_ble_eq_true rfl⟩ rfl (Nat.le_of_ble_eq_true rfl) dL_law_184 ?_
  rintro r2 F2 ⟨e2, h2⟩
  exact g_icmp_eq X (tgt := 717) dL_law_187 (by decide) (fun _ => kk F2 h2) (fun g => absurd e2 g)
set_option maxRecDepth 100000 in
set_option maxHeartbeats 4000000 in
theorem lc_2 (Z : LX p s m meth c D dA b L xs) (hn : 4 * n + 4 ≤ L) (hI : Inv n F) (kk : ∀ F', Inv (n + 1) F' → JL p l e s m below meth c D dA b ad F' 717 (4 * n)) : JL p l e s m below meth c D dA b ad F 192 (4 * n) := by
  obtain ⟨X, hX, hbl, hL, hr⟩ := Z
  have hA : ∀ q : Nat, s.heap.size ≤ q → (fun q : Nat => s.heap.size ≤ q) q := fun _ h => h
  have hbA : ¬ (fun q : Nat => s.heap.size ≤ q) b := Nat.not_le.mpr hbl
  refine g_aload_n X 2 dL_law_192 rfl rfl ?_
  refine l_callIV X hA (np := 0) (t := 0) (As := []) (st := []) (c_X6_fault BBr_RA (t_fault hI)) (gV z_383 z_384 z_385 z_56 z_386) cl_X6 BBr_RA.1 (by decide +kernel) rfl rfl rfl ⟨Nat.le_of_ble_eq_true rfl, Nat.le_of_ble_eq_true rfl⟩ ⟨Nat.le_of_ble_eq_true rfl, Nat.le_of_ble_eq_true rfl⟩ rfl (Nat.le_of_ble_eq_true rfl) dL_law_193 ?_
  intro r F1 h1
  refine g_aload_n X 1 dL_law_196 rfl rfl ?_
  refine l_callIV X hA (np := 0) (t := 100) (As := []) (st := [.int r]) (c_X7_fault Md_RA h1) (gV z_966 z_967 z_968 z_68 z_969) cl_X7 Md_RA.1 (by decide +kernel) rfl rfl rfl ⟨Nat.le_of_ble_eq_true rfl, Nat.le_of_ble_eq_true rfl⟩ ⟨Nat.le_of_ble_eq_true rfl, Nat.le_of_ble_eq_true rfl⟩ rfl (Nat.le_of_ble_eq_true rfl) dL_law_197 ?_
  rintro r2 F2 ⟨e2, h2⟩
  exact g_icmp_eq X (tgt := 717) dL_law_200 (by decide) (fun _ => kk F2 h2) (fun g => absurd e2 g)
set_option maxRecDepth 100000 in
set_option maxHeartbeats 4000000 in
theorem lc_3 (Z : LX p s m meth c D dA b L xs) (hn : 4 * n + 4 ≤ L) (hI : Inv n F) (kk : ∀ F', Inv (n + 1) F' → JL p l e s m below meth c D dA b ad F' 717 (4 * n)) : JL p l e s m below meth c D dA b ad F 205 (4 * n) := by
  obtain ⟨X, hX, hbl, hL, hr⟩ := Z
  have hA : ∀ q : Nat, s.heap.size ≤ q → (fun q : Nat => s.heap.size ≤ q) q := fun _ h => h
  have hbA : ¬ (fun q : Nat => s.heap.size ≤ q) b := Nat.not_le.mpr hbl
  refine g_aload_n X 2 dL_law_205 rfl rfl ?_
  refine l_callIV X hA (np := 0) (t := 0) (As := []) (st := []) (c_X6_lay BBr_RA (t_lay1 hI)) (gV z_387 z_388 z_389 z_56 z_390) cl_X6 BBr_RA.1 (by decide +kernel) rfl rfl rfl ⟨Nat.le_of_ble_eq_true rfl, Nat.le_of_ble_eq_true rfl⟩ ⟨Nat.le_of_ble_eq_true rfl, Nat.le_of_ble_eq_true rfl⟩ rfl (Nat.le_of_ble_eq_true rfl) dL_law_206 ?_
  intro r F1 h1
  refine g_aload_n X 1 dL_law_209 rfl rfl ?_
  refine l_callIV X hA (np := 0) (t := 100) (As := []) (st := [.int r]) (c_X7_lay Md_RA h1) (gV z_986 z_987 z_988 z_68 z_989) cl_X7 Md_RA.1 (by decide +kernel) rfl rfl rfl ⟨Nat.le_of_ble_eq_true rfl, Nat.le_of_ble_eq_true rfl⟩ ⟨Nat.le_of_ble_eq_true rfl, Nat.le_of_ble_eq_true rfl⟩ rfl (Nat.le_of_ble_eq_true rfl) dL_law_210 ?_
  rintro r2 F2 ⟨e2, h2⟩
  exact g_icmp_eq X (tgt := 717) dL_law_213 (by decide) (fun _ => kk F2 h2) (fun g => absurd e2 g)
set_option maxRecDepth 100000 in
set_option maxHeartbeats 4000000 in
theorem lc_4 (Z : LX p s m meth c D dA b L xs) (hn : 4 * n + 4 ≤ L) (hI : Inv n F) (kk : ∀ F', Inv (n + 1) F' → JL p l e s m below meth c D dA b ad F' 717 (4 * n)) : JL p l e s m below meth c D dA b ad F 218 (4 * n) := by
  obtain ⟨X, hX, hbl, hL, hr⟩ := Z
  have hA : ∀ q : Nat, s.heap.size ≤ q → (fun q : Nat => s.heap.size ≤ q) q := fun _ h => h
  have hbA : ¬ (fun q : Nat => s.heap.size ≤ q) b := Nat.not_le.mpr hbl
  refine g_aload_n X 2 dL_law_218 rfl rfl ?_
  refine g_aload_n X 3 dL_law_219 rfl rfl ?_
  refine g_iload_n X 0 dL_law_220 rfl rfl ?_
  refine g_iconst X (v := nI 1) dL_law_221 (by decide) ?_
  refine g_iadd X dL_law_222 ?_
  rw [nI_add]
  refine g_sld X hX hbl hbA (vin (by omega) (by omega)) dL_law_223 ?_
  refine g_aload_n X 3 dL_law_224 rfl rfl ?_
  refine g_iload_n X 0 dL_law_225 rfl rfl ?_
  refine g_iconst X (v := nI 2) dL_law_226 (by decide) ?_
  refine g_iadd X dL_law_227 ?_
  rw [nI_add]
  refine g_sld X hX hbl hbA (vin (by omega) (by omega)) dL_law_228 ?_
  refine l_callIV X hA (np := 2) (t := 0) (As := [.int (xs (nI (4 * n + 1)).toNatClampNeg), .int (xs (nI (4 * n + 2)).toNatClampNeg)]) (st := []) (c_X6_bird BBr_RA (t_bird hI (xs (nI (4 * n + 1)).toNatClampNeg) (xs (nI (4 * n + 2)).toNatClampNeg))) (gV z_422 z_423 z_424 z_56 z_425) cl_X6 BBr_RA.1 (by decide +kernel) rfl rfl rfl ⟨Nat.le_of_ble_eq_true rfl, Nat.le_of_ble_eq_true rfl⟩ ⟨Nat.le_of_ble_eq_true rfl, Nat.le_of_ble_eq_true rfl⟩ rfl (Nat.le_of_ble_eq_true rfl) dL_law_229 ?_
  intro r F1 h1
  refine g_aload_n X 1 dL_law_232 rfl rfl ?_
  refine g_aload_n X 3 dL_law_233 rfl rfl ?_
  refine g_iload_n X 0 dL_law_234 rfl rfl ?_
  refine g_iconst X (v := nI 1) dL_law_235 (by decide) ?_
  refine g_iadd X dL_law_236 ?_
  rw [nI_add]
  refine g_sld X hX hbl hbA (vin (by omega) (by omega)) dL_law_237 ?_
  refine g_aload_n X 3 dL_law_238 rfl rfl ?_
  refine g_iload_n X 0 dL_law_239 rfl rfl ?_
  refine g_iconst X (v := nI 2) dL_law_240 (by decide) ?_
  refine g_iadd X dL_law_241 ?_
  rw [nI_add]
  refine g_sld X hX hbl hbA (vin (by omega) (by omega)) dL_law_242 ?_
  refine l_callIV X hA (np := 2) (t := 100) (As := [.int (xs (nI (4 * n + 1)).toNatClampNeg), .int (xs (nI (4 * n + 2)).toNatClampNeg)]) (st := [.int r]) (c_X7_bird Md_RA h1) (gV z_990 z_991 z_992 z_68 z_993) cl_X7 Md_RA.1 (by decide +kernel) rfl rfl rfl ⟨Nat.le_of_ble_eq_true rfl, Nat.le_of_ble_eq_true rfl⟩ ⟨Nat.le_of_ble_eq_true rfl, Nat.le_of_ble_eq_true rfl⟩ rfl (Nat.le_of_ble_eq_true rfl) dL_law_243 ?_
  rintro r2 F2 ⟨e2, h2⟩
  exact g_icmp_eq X (tgt := 717) dL_law_246 (by decide) (fun _ => kk F2 h2) (fun g => absurd e2 g)
set_option maxRecDepth 100000 in
set_option maxHeartbeats 4000000 in
theorem lc_5 (Z : LX p s m meth c D dA b L xs) (hn : 4 * n + 4 ≤ L) (hI : Inv n F) (kk : ∀ F', Inv (n + 1) F' → JL p l e s m below meth c D dA b ad F' 717 (4 * n)) : JL p l e s m below meth c D dA b ad F 251 (4 * n) := by
  obtain ⟨X, hX, hbl, hL, hr⟩ := Z
  have hA : ∀ q : Nat, s.heap.size ≤ q → (fun q : Nat => s.heap.size ≤ q) q := fun _ h => h
  have hbA : ¬ (fun q : Nat => s.heap.size ≤ q) b := Nat.not_le.mpr hbl
  refine g_aload_n X 2 dL_law_251 rfl rfl ?_
  refine g_aload_n X 3 dL_law_252 rfl rfl ?_
  refine g_iload_n X 0 dL_law_253 rfl rfl ?_
  refine g_iconst X (v := nI 1) dL_law_254 (by decide) ?_
  refine g_iadd X dL_law_255 ?_
  rw [nI_add]
  refine g_sld X hX hbl hbA (vin (by omega) (by omega)) dL_law_256 ?_
  refine l_callIV X hA (np := 1) (t := 0) (As := [.int (xs (nI (4 * n + 1)).toNatClampNeg)]) (st := []) (c_X6_wind BBr_RA (t_wind hI (xs (nI (4 * n + 1)).toNatClampNeg))) (gV z_458 z_459 z_460 z_56 z_461) cl_X6 BBr_RA.1 (by decide +kernel) rfl rfl rfl ⟨Nat.le_of_ble_eq_true rfl, Nat.le_of_ble_eq_true rfl⟩ ⟨Nat.le_of_ble_eq_true rfl, Nat.le_of_ble_eq_true rfl⟩ rfl (Nat.le_of_ble_eq_true rfl) dL_law_257 ?_
  intro r F1 h1
  refine g_aload_n X 1 dL_law_260 rfl rfl ?_
  refine g_aload_n X 3 dL_law_261 rfl rfl ?_
  refine g_iload_n X 0 dL_law_262 rfl rfl ?_
  refine g_iconst X (v := nI 1) dL_law_263 (by decide) ?_
  refine g_iadd X dL_law_264 ?_
  rw [nI_add]
  refine g_sld X hX hbl hbA (vin (by omega) (by omega)) dL_law_265 ?_
  refine l_callIV X hA (np := 1) (t := 100) (As := [.int (xs (nI (4 * n + 1)).toNatClampNeg)]) (st := [.int r]) (c_X7_wind Md_RA h1) (gV z_1002 z_1003 z_1004 z_68 z_1005) cl_X7 Md_RA.1 (by decide +kernel) rfl rfl rfl ⟨Nat.le_of_ble_eq_true rfl, Nat.le_of_ble_eq_true rfl⟩ ⟨Nat.le_of_ble_eq_true rfl, Nat.le_of_ble_eq_true rfl⟩ rfl (Nat.le_of_ble_eq_true rfl) dL_law_266 ?_
  rintro r2 F2 ⟨e2, h2⟩
  exact g_icmp_eq X (tgt := 717) dL_law_269 (by decide) (fun _ => kk F2 h2) (fun g => absurd e2 g)
set_option maxRecDepth 100000 in
set_option maxHeartbeats 4000000 in
theorem lc_6 (Z : LX p s m meth c D dA b L xs) (hn : 4 * n + 4 ≤ L) (hI : Inv n F) (kk : ∀ F', Inv (n + 1) F' → JL p l e s m below meth c D dA b ad F' 717 (4 * n)) : JL p l e s m below meth c D dA b ad F 274 (4 * n) := by
  obtain ⟨X, hX, hbl, hL, hr⟩ := Z
  have hA : ∀ q : Nat, s.heap.size ≤ q → (fun q : Nat => s.heap.size ≤ q) q := fun _ h => h
  have hbA : ¬ (fun q : Nat => s.heap.size ≤ q) b := Nat.not_le.mpr hbl
  refine g_aload_n X 2 dL_law_274 rfl rfl ?_
  refine g_aload_n X 3 dL_law_275 rfl rfl ?_
  refine g_iload_n X 0 dL_law_276 rfl rfl ?_
  refine g_iconst X (v := nI 1) dL_law_277 (by decide) ?_
  refine g_iadd X dL_law_278 ?_
  rw [nI_add]
  refine g_sld X hX hbl hbA (vin (by omega) (by omega)) dL_law_279 ?_
  refine g_aload_n X 3 dL_law_280 rfl rfl ?_
  refine g_iload_n X 0 dL_law_281 rfl rfl ?_
  refine g_iconst X (v := nI 2) dL_law_282 (by decide) ?_
  refine g_iadd X dL_law_283 ?_
  rw [nI_add]
  refine g_sld X hX hbl hbA (vin (by omega) (by omega)) dL_law_284 ?_
  refine l_callIV X hA (np := 2) (t := 0) (As := [.int (xs (nI (4 * n + 1)).toNatClampNeg), .int (xs (nI (4 * n + 2)).toNatClampNeg)]) (st := []) (c_X6_span BBr_RA (t_span hI (by omega) (xs (nI (4 * n + 1)).toNatClampNeg) (xs (nI (4 * n + 2)).toNatClampNeg))) (gV z_466 z_467 z_468 z_56 z_469) cl_X6 BBr_RA.1 (by decide +kernel) rfl rfl rfl ⟨Nat.le_of_ble_eq_true rfl, Nat.le_of_ble_eq_true rfl⟩ ⟨Nat.le_of_ble_eq_true rfl, Nat.le_of_ble_eq_true rfl⟩ rfl (Nat.le_of_ble_eq_true rfl) dL_law_285 ?_
  intro r F1 h1
  refine g_aload_n X 1 dL_law_288 rfl rfl ?_
  refine g_aload_n X 3 dL_law_289 rfl rfl ?_
  refine g_iload_n X 0 dL_law_290 rfl rfl ?_
  refine g_iconst X (v := nI 1) dL_law_291 (by decide) ?_
  refine g_iadd X dL_law_292 ?_
  rw [nI_add]
  refine g_sld X hX hbl hbA (vin (by omega) (by omega)) dL_law_293 ?_
  refine g_aload_n X 3 dL_law_294 rfl rfl ?_
  refine g_iload_n X 0 dL_law_295 rfl rfl ?_
  refine g_iconst X (v := nI 2) dL_law_296 (by decide) ?_
  refine g_iadd X dL_law_297 ?_
  rw [nI_add]
  refine g_sld X hX hbl hbA (vin (by omega) (by omega)) dL_law_298 ?_
  refine l_callIV X hA (np := 2) (t := 100) (As := [.int (xs (nI (4 * n + 1)).toNatClampNeg), .int (xs (nI (4 * n + 2)).toNatClampNeg)]) (st := [.int r]) (c_X7_span Md_RA h1) (gV z_1010 z_1011 z_1012 z_68 z_1013) cl_X7 Md_RA.1 (by decide +kernel) rfl rfl rfl ⟨Nat.le_of_ble_eq_true rfl, Nat.le_of_ble_eq_true rfl⟩ ⟨Nat.le_of_ble_eq_true rfl, Nat.le_of_ble_eq_true rfl⟩ rfl (Nat.le_of_ble_eq_true rfl) dL_law_299 ?_
  rintro r2 F2 ⟨e2, h2⟩
  exact g_icmp_eq X (tgt := 717) dL_law_302 (by decide) (fun _ => kk F2 h2) (fun g => absurd e2 g)
set_option maxRecDepth 100000 in
set_option maxHeartbeats 4000000 in
theorem lc_7 (Z : LX p s m meth c D dA b L xs) (hn : 4 * n + 4 ≤ L) (hI : Inv n F) (kk : ∀ F', Inv (n + 1) F' → JL p l e s m below meth c D dA b ad F' 717 (4 * n)) : JL p l e s m below meth c D dA b ad F 307 (4 * n) := by
  obtain ⟨X, hX, hbl, hL, hr⟩ := Z
  have hA : ∀ q : Nat, s.heap.size ≤ q → (fun q : Nat => s.heap.size ≤ q) q := fun _ h => h
  have hbA : ¬ (fun q : Nat => s.heap.size ≤ q) b := Nat.not_le.mpr hbl
  refine g_aload_n X 2 dL_law_307 rfl rfl ?_
  refine g_aload_n X 3 dL_law_308 rfl rfl ?_
  refine g_iload_n X 0 dL_law_309 rfl rfl ?_
  refine g_iconst X (v := nI 1) dL_law_310 (by decide) ?_
  refine g_iadd X dL_law_311 ?_
  rw [nI_add]
  refine g_sld X hX hbl hbA (vin (by omega) (by omega)) dL_law_312 ?_
  refine l_callIV X hA (np := 1) (t := 0) (As := [.int (xs (nI (4 * n + 1)).toNatClampNeg)]) (st := []) (c_X6_join BBr_RA (t_join hI (by omega) (xs (nI (4 * n + 1)).toNatClampNeg))) (gV z_553 z_554 z_555 z_56 z_556) cl_X6 BBr_RA.1 (by decide +kernel) rfl rfl rfl ⟨Nat.le_of_ble_eq_true rfl, Nat.le_of_ble_eq_true rfl⟩ ⟨Nat.le_of_ble_eq_true rfl, Nat.le_of_ble_eq_true rfl⟩ rfl (Nat.le_of_ble_eq_true rfl) dL_law_313 ?_
  intro r F1 h1
  refine g_aload_n X 1 dL_law_316 rfl rfl ?_
  refine g_aload_n X 3 dL_law_317 rfl rfl ?_
  refine g_iload_n X 0 dL_law_318 rfl rfl ?_
  refine g_iconst X (v := nI 1) dL_law_319 (by decide) ?_
  refine g_iadd X dL_law_320 ?_
  rw [nI_add]
  refine g_sld X hX hbl hbA (vin (by omega) (by omega)) dL_law_321 ?_
  refine l_callIV X hA (np := 1) (t := 100) (As := [.int (xs (nI (4 * n + 1)).toNatClampNeg)]) (st := [.int r]) (c_X7_join Md_RA h1) (gV z_1049 z_1050 z_1051 z_68 z_1052) cl_X7 Md_RA.1 (by decide +kernel) rfl rfl rfl ⟨Nat.le_of_ble_eq_true rfl, Nat.le_of_ble_eq_true rfl⟩ ⟨Nat.le_of_ble_eq_true rfl, Nat.le_of_ble_eq_true rfl⟩ rfl (Nat.le_of_ble_eq_true rfl) dL_law_322 ?_
  rintro r2 F2 ⟨e2, h2⟩
  exact g_icmp_eq X (tgt := 717) dL_law_325 (by decide) (fun _ => kk F2 h2) (fun g => absurd e2 g)
set_option maxRecDepth 100000 in
set_option maxHeartbeats 4000000 in
theorem lc_8 (Z : LX p s m meth c D dA b L xs) (hn : 4 * n + 4 ≤ L) (hI : Inv n F) (kk : ∀ F', Inv (n + 1) F' → JL p l e s m below meth c D dA b ad F' 717 (4 * n)) : JL p l e s m below meth c D dA b ad F 330 (4 * n) := by
  obtain ⟨X, hX, hbl, hL, hr⟩ := Z
  have hA : ∀ q : Nat, s.heap.size ≤ q → (fun q : Nat => s.heap.size ≤ q) q := fun _ h => h
  have hbA : ¬ (fun q : Nat => s.heap.size ≤ q) b := Nat.not_le.mpr hbl
  refine g_aload_n X 2 dL_law_330 rfl rfl ?_
  refine l_callIV X hA (np := 0) (t := 0) (As := []) (st := []) (c_X6_leave BBr_RA (t_leave hI (by omega))) (gV z_598 z_599 z_600 z_56 z_601) cl_X6 BBr_RA.1 (by decide +kernel) rfl rfl rfl ⟨Nat.le_of_ble_eq_true rfl, Nat.le_of_ble_eq_true rfl⟩ ⟨Nat.le_of_ble_eq_true rfl, Nat.le_of_ble_eq_true rfl⟩ rfl (Nat.le_of_ble_eq_true rfl) dL_law_331 ?_
  intro r F1 h1
  refine g_aload_n X 1 dL_law_334 rfl rfl ?_
  refine l_callIV X hA (np := 0) (t := 100) (As := []) (st := [.int r]) (c_X7_leave Md_RA h1) (gV z_1076 z_1077 z_1078 z_68 z_1079) cl_X7 Md_RA.1 (by decide +kernel) rfl rfl rfl ⟨Nat.le_of_ble_eq_true rfl, Nat.le_of_ble_eq_true rfl⟩ ⟨Nat.le_of_ble_eq_true rfl, Nat.le_of_ble_eq_true rfl⟩ rfl (Nat.le_of_ble_eq_true rfl) dL_law_335 ?_
  rintro r2 F2 ⟨e2, h2⟩
  exact g_icmp_eq X (tgt := 717) dL_law_338 (by decide) (fun _ => kk F2 h2) (fun g => absurd e2 g)
set_option maxRecDepth 100000 in
set_option maxHeartbeats 4000000 in
theorem lc_9 (Z : LX p s m meth c D dA b L xs) (hn : 4 * n + 4 ≤ L) (hI : Inv n F) (kk : ∀ F', Inv (n + 1) F' → JL p l e s m below meth c D dA b ad F' 717 (4 * n)) : JL p l e s m below meth c D dA b ad F 343 (4 * n) := by
  obtain ⟨X, hX, hbl, hL, hr⟩ := Z
  have hA : ∀ q : Nat, s.heap.size ≤ q → (fun q : Nat => s.heap.size ≤ q) q := fun _ h => h
  have hbA : ¬ (fun q : Nat => s.heap.size ≤ q) b := Nat.not_le.mpr hbl
  refine g_aload_n X 2 dL_law_343 rfl rfl ?_
  refine l_callIV X hA (np := 0) (t := 0) (As := []) (st := []) (c_X6_step BBr_RA (t_step hI (by omega))) (gV z_606 z_607 z_608 z_56 z_609) cl_X6 BBr_RA.1 (by decide +kernel) rfl rfl rfl ⟨Nat.le_of_ble_eq_true rfl, Nat.le_of_ble_eq_true rfl⟩ ⟨Nat.le_of_ble_eq_true rfl, Nat.le_of_ble_eq_true rfl⟩ rfl (Nat.le_of_ble_eq_true rfl) dL_law_344 ?_
  intro r F1 h1
  refine g_aload_n X 1 dL_law_347 rfl rfl ?_
  refine l_callIV X hA (np := 0) (t := 100) (As := []) (st := [.int r]) (c_X7_step Md_RA h1) (gV z_1080 z_1081 z_1082 z_68 z_1083) cl_X7 Md_RA.1 (by decide +kernel) rfl rfl rfl ⟨Nat.le_of_ble_eq_true rfl, Nat.le_of_ble_eq_true rfl⟩ ⟨Nat.le_of_ble_eq_true rfl, Nat.le_of_ble_eq_true rfl⟩ rfl (Nat.le_of_ble_eq_true rfl) dL_law_348 ?_
  rintro r2 F2 ⟨e2, h2⟩
  exact g_icmp_eq X (tgt := 717) dL_law_351 (by decide) (fun _ => kk F2 h2) (fun g => absurd e2 g)
set_option maxRecDepth 100000 in
set_option maxHeartbeats 4000000 in
theorem lc_10 (Z : LX p s m meth c D dA b L xs) (hn : 4 * n + 4 ≤ L) (hI : Inv n F) (kk : ∀ F', Inv (n + 1) F' → JL p l e s m below meth c D dA b ad F' 717 (4 * n)) : JL p l e s m below meth c D dA b ad F 356 (4 * n) := by
  obtain ⟨X, hX, hbl, hL, hr⟩ := Z
  have hA : ∀ q : Nat, s.heap.size ≤ q → (fun q : Nat => s.heap.size ≤ q) q := fun _ h => h
  have hbA : ¬ (fun q : Nat => s.heap.size ≤ q) b := Nat.not_le.mpr hbl
  refine g_aload_n X 2 dL_law_356 rfl rfl ?_
  refine l_callIV X hA (np := 0) (t := 0) (As := []) (st := []) (c_X6_stand BBr_RA (t_stand hI (by omega))) (gV z_640 z_641 z_642 z_56 z_643) cl_X6 BBr_RA.1 (by decide +kernel) rfl rfl rfl ⟨Nat.le_of_ble_eq_true rfl, Nat.le_of_ble_eq_true rfl⟩ ⟨Nat.le_of_ble_eq_true rfl, Nat.le_of_ble_eq_true rfl⟩ rfl (Nat.le_of_ble_eq_true rfl) dL_law_357 ?_
  intro r F1 h1
  refine g_aload_n X 1 dL_law_360 rfl rfl ?_
  refine l_callIV X hA (np := 0) (t := 100) (As := []) (st := [.int r]) (c_X7_stand Md_RA h1) (gV z_1096 z_1097 z_1098 z_68 z_1099) cl_X7 Md_RA.1 (by decide +kernel) rfl rfl rfl ⟨Nat.le_of_ble_eq_true rfl, Nat.le_of_ble_eq_true rfl⟩ ⟨Nat.le_of_ble_eq_true rfl, Nat.le_of_ble_eq_true rfl⟩ rfl (Nat.le_of_ble_eq_true rfl) dL_law_361 ?_
  rintro r2 F2 ⟨e2, h2⟩
  exact g_icmp_eq X (tgt := 717) dL_law_364 (by decide) (fun _ => kk F2 h2) (fun g => absurd e2 g)
set_option maxRecDepth 100000 in
set_option maxHeartbeats 4000000 in
theorem lc_11 (Z : LX p s m meth c D dA b L xs) (hn : 4 * n + 4 ≤ L) (hI : Inv n F) (kk : ∀ F', Inv (n + 1) F' → JL p l e s m below meth c D dA b ad F' 717 (4 * n)) : JL p l e s m below meth c D dA b ad F 369 (4 * n) := by
  obtain ⟨X, hX, hbl, hL, hr⟩ := Z
  have hA : ∀ q : Nat, s.heap.size ≤ q → (fun q : Nat => s.heap.size ≤ q) q := fun _ h => h
  have hbA : ¬ (fun q : Nat => s.heap.size ≤ q) b := Nat.not_le.mpr hbl
  refine g_aload_n X 2 dL_law_369 rfl rfl ?_
  refine g_aload_n X 3 dL_law_370 rfl rfl ?_
  refine g_iload_n X 0 dL_law_371 rfl rfl ?_
  refine g_iconst X (v := nI 1) dL_law_372 (by decide) ?_
  refine g_iadd X dL_law_373 ?_
  rw [nI_add]
  refine g_sld X hX hbl hbA (vin (by omega) (by omega)) dL_law_374 ?_
  refine l_callIV X hA (np := 1) (t := 0) (As := [.int (xs (nI (4 * n + 1)).toNatClampNeg)]) (st := []) (c_X6_year BBr_RA (t_year hI (by omega) (xs (nI (4 * n + 1)).toNatClampNeg))) (gV z_644 z_645 z_646 z_56 z_647) cl_X6 BBr_RA.1 (by decide +kernel) rfl rfl rfl ⟨Nat.le_of_ble_eq_true rfl, Nat.le_of_ble_eq_true rfl⟩ ⟨Nat.le_of_ble_eq_true rfl, Nat.le_of_ble_eq_true rfl⟩ rfl (Nat.le_of_ble_eq_true rfl) dL_law_375 ?_
  intro r F1 h1
  refine g_aload_n X 1 dL_law_378 rfl rfl ?_
  refine g_aload_n X 3 dL_law_379 rfl rfl ?_
  refine g_iload_n X 0 dL_law_380 rfl rfl ?_
  refine g_iconst X (v := nI 1) dL_law_381 (by decide) ?_
  refine g_iadd X dL_law_382 ?_
  rw [nI_add]
  refine g_sld X hX hbl hbA (vin (by omega) (by omega)) dL_law_383 ?_
  refine l_callIV X hA (np := 1) (t := 100) (As := [.int (xs (nI (4 * n + 1)).toNatClampNeg)]) (st := [.int r]) (c_X7_year Md_RA h1) (gV z_1100 z_1101 z_1102 z_68 z_1103) cl_X7 Md_RA.1 (by decide +kernel) rfl rfl rfl ⟨Nat.le_of_ble_eq_true rfl, Nat.le_of_ble_eq_true rfl⟩ ⟨Nat.le_of_ble_eq_true rfl, Nat.le_of_ble_eq_true rfl⟩ rfl (Nat.le_of_ble_eq_true rfl) dL_law_384 ?_
  rintro r2 F2 ⟨e2, h2⟩
  exact g_icmp_eq X (tgt := 717) dL_law_387 (by decide) (fun _ => kk F2 h2) (fun g => absurd e2 g)
set_option maxRecDepth 100000 in
set_option maxHeartbeats 4000000 in
theorem lc_12 (Z : LX p s m meth c D dA b L xs) (hn : 4 * n + 4 ≤ L) (hI : Inv n F) (kk : ∀ F', Inv (n + 1) F' → JL p l e s m below meth c D dA b ad F' 717 (4 * n)) : JL p l e s m below meth c D dA b ad F 392 (4 * n) := by
  obtain ⟨X, hX, hbl, hL, hr⟩ := Z
  have hA : ∀ q : Nat, s.heap.size ≤ q → (fun q : Nat => s.heap.size ≤ q) q := fun _ h => h
  have hbA : ¬ (fun q : Nat => s.heap.size ≤ q) b := Nat.not_le.mpr hbl
  refine g_aload_n X 2 dL_law_392 rfl rfl ?_
  refine l_callIV X hA (np := 0) (t := 0) (As := []) (st := []) (c_X6_undo BBr_RA (t_undo hI)) (gV z_652 z_653 z_654 z_56 z_655) cl_X6 BBr_RA.1 (by decide +kernel) rfl rfl rfl ⟨Nat.le_of_ble_eq_true rfl, Nat.le_of_ble_eq_true rfl⟩ ⟨Nat.le_of_ble_eq_true rfl, Nat.le_of_ble_eq_true rfl⟩ rfl (Nat.le_of_ble_eq_true rfl) dL_law_393 ?_
  intro r F1 h1
  refine g_aload_n X 1 dL_law_396 rfl rfl ?_
  refine l_callIV X hA (np := 0) (t := 100) (As := []) (st := [.int r]) (c_X7_undo Md_RA h1) (gV z_1104 z_1105 z_1106 z_68 z_1107) cl_X7 Md_RA.1 (by decide +kernel) rfl rfl rfl ⟨Nat.le_of_ble_eq_true rfl, Nat.le_of_ble_eq_true rfl⟩ ⟨Nat.le_of_ble_eq_true rfl, Nat.le_of_ble_eq_true rfl⟩ rfl (Nat.le_of_ble_eq_true rfl) dL_law_397 ?_
  rintro r2 F2 ⟨e2, h2⟩
  exact g_icmp_eq X (tgt := 717) dL_law_400 (by decide) (fun _ => kk F2 h2) (fun g => absurd e2 g)
set_option maxRecDepth 100000 in
set_option maxHeartbeats 4000000 in
theorem lc_13 (Z : LX p s m meth c D dA b L xs) (hn : 4 * n + 4 ≤ L) (hI : Inv n F) (kk : ∀ F', Inv (n + 1) F' → JL p l e s m below meth c D dA b ad F' 717 (4 * n)) : JL p l e s m below meth c D dA b ad F 405 (4 * n) := by
  obtain ⟨X, hX, hbl, hL, hr⟩ := Z
  have hA : ∀ q : Nat, s.heap.size ≤ q → (fun q : Nat => s.heap.size ≤ q) q := fun _ h => h
  have hbA : ¬ (fun q : Nat => s.heap.size ≤ q) b := Nat.not_le.mpr hbl
  refine g_aload_n X 2 dL_law_405 rfl rfl ?_
  refine g_aload_n X 3 dL_law_406 rfl rfl ?_
  refine g_iload_n X 0 dL_law_407 rfl rfl ?_
  refine g_iconst X (v := nI 1) dL_law_408 (by decide) ?_
  refine g_iadd X dL_law_409 ?_
  rw [nI_add]
  refine g_sld X hX hbl hbA (vin (by omega) (by omega)) dL_law_410 ?_
  refine l_callIV X hA (np := 1) (t := 0) (As := [.int (xs (nI (4 * n + 1)).toNatClampNeg)]) (st := []) (c_X6_over BBr_RA (t_over hI (by omega) (xs (nI (4 * n + 1)).toNatClampNeg))) (gV z_664 z_665 z_666 z_56 z_667) cl_X6 BBr_RA.1 (by decide +kernel) rfl rfl rfl ⟨Nat.le_of_ble_eq_true rfl, Nat.le_of_ble_eq_true rfl⟩ ⟨Nat.le_of_ble_eq_true rfl, Nat.le_of_ble_eq_true rfl⟩ rfl (Nat.le_of_ble_eq_true rfl) dL_law_411 ?_
  intro r F1 h1
  refine g_aload_n X 1 dL_law_414 rfl rfl ?_
  refine g_aload_n X 3 dL_law_415 rfl rfl ?_
  refine g_iload_n X 0 dL_law_416 rfl rfl ?_
  refine g_iconst X (v := nI 1) dL_law_417 (by decide) ?_
  refine g_iadd X dL_law_418 ?_
  rw [nI_add]
  refine g_sld X hX hbl hbA (vin (by omega) (by omega)) dL_law_419 ?_
  refine l_callIV X hA (np := 1) (t := 100) (As := [.int (xs (nI (4 * n + 1)).toNatClampNeg)]) (st := [.int r]) (c_X7_over Md_RA h1) (gV z_1108 z_1109 z_1110 z_68 z_1111) cl_X7 Md_RA.1 (by decide +kernel) rfl rfl rfl ⟨Nat.le_of_ble_eq_true rfl, Nat.le_of_ble_eq_true rfl⟩ ⟨Nat.le_of_ble_eq_true rfl, Nat.le_of_ble_eq_true rfl⟩ rfl (Nat.le_of_ble_eq_true rfl) dL_law_420 ?_
  rintro r2 F2 ⟨e2, h2⟩
  exact g_icmp_eq X (tgt := 717) dL_law_423 (by decide) (fun _ => kk F2 h2) (fun g => absurd e2 g)
set_option maxRecDepth 100000 in
set_option maxHeartbeats 4000000 in
theorem lc_14 (Z : LX p s m meth c D dA b L xs) (hn : 4 * n + 4 ≤ L) (hI : Inv n F) (kk : ∀ F', Inv (n + 1) F' → JL p l e s m below meth c D dA b ad F' 717 (4 * n)) : JL p l e s m below meth c D dA b ad F 428 (4 * n) := by
  obtain ⟨X, hX, hbl, hL, hr⟩ := Z
  have hA : ∀ q : Nat, s.heap.size ≤ q → (fun q : Nat => s.heap.size ≤ q) q := fun _ h => h
  have hbA : ¬ (fun q : Nat => s.heap.size ≤ q) b := Nat.not_le.mpr hbl
  refine g_aload_n X 2 dL_law_428 rfl rfl ?_
  refine g_aload_n X 3 dL_law_429 rfl rfl ?_
  refine g_iload_n X 0 dL_law_430 rfl rfl ?_
  refine g_iconst X (v := nI 1) dL_law_431 (by decide) ?_
  refine g_iadd X dL_law_432 ?_
  rw [nI_add]
  refine g_sld X hX hbl hbA (vin (by omega) (by omega)) dL_law_433 ?_
  refine l_callIV X hA (np := 1) (t := 0) (As := [.int (xs (nI (4 * n + 1)).toNatClampNeg)]) (st := []) (c_X6_fewest BBr_RA (t_fewest hI (xs (nI (4 * n + 1)).toNatClampNeg))) (gV z_675 z_676 z_677 z_56 z_678) cl_X6 BBr_RA.1 (by decide +kernel) rfl rfl rfl ⟨Nat.le_of_ble_eq_true rfl, Nat.le_of_ble_eq_true rfl⟩ ⟨Nat.le_of_ble_eq_true rfl, Nat.le_of_ble_eq_true rfl⟩ rfl (Nat.le_of_ble_eq_true rfl) dL_law_434 ?_
  intro r F1 h1
  refine g_aload_n X 1 dL_law_437 rfl rfl ?_
  refine g_aload_n X 3 dL_law_438 rfl rfl ?_
  refine g_iload_n X 0 dL_law_439 rfl rfl ?_
  refine g_iconst X (v := nI 1) dL_law_440 (by decide) ?_
  refine g_iadd X dL_law_441 ?_
  rw [nI_add]
  refine g_sld X hX hbl hbA (vin (by omega) (by omega)) dL_law_442 ?_
  refine l_callIV X hA (np := 1) (t := 100) (As := [.int (xs (nI (4 * n + 1)).toNatClampNeg)]) (st := [.int r]) (c_X7_fewest Md_RA h1) (gV z_1116 z_1117 z_1118 z_68 z_1119) cl_X7 Md_RA.1 (by decide +kernel) rfl rfl rfl ⟨Nat.le_of_ble_eq_true rfl, Nat.le_of_ble_eq_true rfl⟩ ⟨Nat.le_of_ble_eq_true rfl, Nat.le_of_ble_eq_true rfl⟩ rfl (Nat.le_of_ble_eq_true rfl) dL_law_443 ?_
  rintro r2 F2 ⟨e2, h2⟩
  exact g_icmp_eq X (tgt := 717) dL_law_446 (by decide) (fun _ => kk F2 h2) (fun g => absurd e2 g)
set_option maxRecDepth 100000 in
set_option maxHeartbeats 4000000 in
theorem lc_15 (Z : LX p s m meth c D dA b L xs) (hn : 4 * n + 4 ≤ L) (hI : Inv n F) (kk : ∀ F', Inv (n + 1) F' → JL p l e s m below meth c D dA b ad F' 717 (4 * n)) : JL p l e s m below meth c D dA b ad F 451 (4 * n) := by
  obtain ⟨X, hX, hbl, hL, hr⟩ := Z
  have hA : ∀ q : Nat, s.heap.size ≤ q → (fun q : Nat => s.heap.size ≤ q) q := fun _ h => h
  have hbA : ¬ (fun q : Nat => s.heap.size ≤ q) b := Nat.not_le.mpr hbl
  refine g_aload_n X 2 dL_law_451 rfl rfl ?_
  refine g_aload_n X 3 dL_law_452 rfl rfl ?_
  refine g_iload_n X 0 dL_law_453 rfl rfl ?_
  refine g_iconst X (v := nI 1) dL_law_454 (by decide) ?_
  refine g_iadd X dL_law_455 ?_
  rw [nI_add]
  refine g_sld X hX hbl hbA (vin (by omega) (by omega)) dL_law_456 ?_
  refine l_callIV X hA (np := 1) (t := 0) (As := [.int (xs (nI (4 * n + 1)).toNatClampNeg)]) (st := []) (c_X6_mend BBr_RA (t_mend hI (by omega) (xs (nI (4 * n + 1)).toNatClampNeg))) (gV z_742 z_743 z_744 z_56 z_745) cl_X6 BBr_RA.1 (by decide +kernel) rfl rfl rfl ⟨Nat.le_of_ble_eq_true rfl, Nat.le_of_ble_eq_true rfl⟩ ⟨Nat.le_of_ble_eq_true rfl, Nat.le_of_ble_eq_true rfl⟩ rfl (Nat.le_of_ble_eq_true rfl) dL_law_457 ?_
  intro r F1 h1
  refine g_aload_n X 1 dL_law_460 rfl rfl ?_
  refine g_aload_n X 3 dL_law_461 rfl rfl ?_
  refine g_iload_n X 0 dL_law_462 rfl rfl ?_
  refine g_iconst X (v := nI 1) dL_law_463 (by decide) ?_
  refine g_iadd X dL_law_464 ?_
  rw [nI_add]
  refine g_sld X hX hbl hbA (vin (by omega) (by omega)) dL_law_465 ?_
  refine l_callIV X hA (np := 1) (t := 100) (As := [.int (xs (nI (4 * n + 1)).toNatClampNeg)]) (st := [.int r]) (c_X7_mend Md_RA h1) (gV z_1132 z_1133 z_1134 z_68 z_1135) cl_X7 Md_RA.1 (by decide +kernel) rfl rfl rfl ⟨Nat.le_of_ble_eq_true rfl, Nat.le_of_ble_eq_true rfl⟩ ⟨Nat.le_of_ble_eq_true rfl, Nat.le_of_ble_eq_true rfl⟩ rfl (Nat.le_of_ble_eq_true rfl) dL_law_466 ?_
  rintro r2 F2 ⟨e2, h2⟩
  exact g_icmp_eq X (tgt := 717) dL_law_469 (by decide) (fun _ => kk F2 h2) (fun g => absurd e2 g)
set_option maxRecDepth 100000 in
set_option maxHeartbeats 4000000 in
theorem lc_16 (Z : LX p s m meth c D dA b L xs) (hn : 4 * n + 4 ≤ L) (hI : Inv n F) (kk : ∀ F', Inv (n + 1) F' → JL p l e s m below meth c D dA b ad F' 717 (4 * n)) : JL p l e s m below meth c D dA b ad F 474 (4 * n) := by
  obtain ⟨X, hX, hbl, hL, hr⟩ := Z
  have hA : ∀ q : Nat, s.heap.size ≤ q → (fun q : Nat => s.heap.size ≤ q) q := fun _ h => h
  have hbA : ¬ (fun q : Nat => s.heap.size ≤ q) b := Nat.not_le.mpr hbl
  refine g_aload_n X 2 dL_law_474 rfl rfl ?_
  refine g_aload_n X 3 dL_law_475 rfl rfl ?_
  refine g_iload_n X 0 dL_law_476 rfl rfl ?_
  refine g_iconst X (v := nI 1) dL_law_477 (by decide) ?_
  refine g_iadd X dL_law_478 ?_
  rw [nI_add]
  refine g_sld X hX hbl hbA (vin (by omega) (by omega)) dL_law_479 ?_
  refine l_callIV X hA (np := 1) (t := 0) (As := [.int (xs (nI (4 * n + 1)).toNatClampNeg)]) (st := []) (c_X6_calls BBr_RA (t_calls hI (xs (nI (4 * n + 1)).toNatClampNeg))) (gV z_754 z_755 z_756 z_56 z_757) cl_X6 BBr_RA.1 (by decide +kernel) rfl rfl rfl ⟨Nat.le_of_ble_eq_true rfl, Nat.le_of_ble_eq_true rfl⟩ ⟨Nat.le_of_ble_eq_true rfl, Nat.le_of_ble_eq_true rfl⟩ rfl (Nat.le_of_ble_eq_true rfl) dL_law_480 ?_
  intro r F1 h1
  refine g_aload_n X 1 dL_law_483 rfl rfl ?_
  refine g_aload_n X 3 dL_law_484 rfl rfl ?_
  refine g_iload_n X 0 dL_law_485 rfl rfl ?_
  refine g_iconst X (v := nI 1) dL_law_486 (by decide) ?_
  refine g_iadd X dL_law_487 ?_
  rw [nI_add]
  refine g_sld X hX hbl hbA (vin (by omega) (by omega)) dL_law_488 ?_
  refine l_callIV X hA (np := 1) (t := 100) (As := [.int (xs (nI (4 * n + 1)).toNatClampNeg)]) (st := [.int r]) (c_X7_calls Md_RA h1) (gV z_1136 z_1137 z_1138 z_68 z_1139) cl_X7 Md_RA.1 (by decide +kernel) rfl rfl rfl ⟨Nat.le_of_ble_eq_true rfl, Nat.le_of_ble_eq_true rfl⟩ ⟨Nat.le_of_ble_eq_true rfl, Nat.le_of_ble_eq_true rfl⟩ rfl (Nat.le_of_ble_eq_true rfl) dL_law_489 ?_
  rintro r2 F2 ⟨e2, h2⟩
  exact g_icmp_eq X (tgt := 717) dL_law_492 (by decide) (fun _ => kk F2 h2) (fun g => absurd e2 g)
set_option maxRecDepth 100000 in
set_option maxHeartbeats 4000000 in
theorem lc_17 (Z : LX p s m meth c D dA b L xs) (hn : 4 * n + 4 ≤ L) (hI : Inv n F) (kk : ∀ F', Inv (n + 1) F' → JL p l e s m below meth c D dA b ad F' 717 (4 * n)) : JL p l e s m below meth c D dA b ad F 497 (4 * n) := by
  obtain ⟨X, hX, hbl, hL, hr⟩ := Z
  have hA : ∀ q : Nat, s.heap.size ≤ q → (fun q : Nat => s.heap.size ≤ q) q := fun _ h => h
  have hbA : ¬ (fun q : Nat => s.heap.size ≤ q) b := Nat.not_le.mpr hbl
  refine g_aload_n X 2 dL_law_497 rfl rfl ?_
  refine g_aload_n X 3 dL_law_498 rfl rfl ?_
  refine g_iload_n X 0 dL_law_499 rfl rfl ?_
  refine g_iconst X (v := nI 1) dL_law_500 (by decide) ?_
  refine g_iadd X dL_law_501 ?_
  rw [nI_add]
  refine g_sld X hX hbl hbA (vin (by omega) (by omega)) dL_law_502 ?_
  refine l_callIV X hA (np := 1) (t := 0) (As := [.int (xs (nI (4 * n + 1)).toNatClampNeg)]) (st := []) (c_X6_second BBr_RA (t_second hI (xs (nI (4 * n + 1)).toNatClampNeg))) (gV z_763 z_764 z_765 z_56 z_766) cl_X6 BBr_RA.1 (by decide +kernel) rfl rfl rfl ⟨Nat.le_of_ble_eq_true rfl, Nat.le_of_ble_eq_true rfl⟩ ⟨Nat.le_of_ble_eq_true rfl, Nat.le_of_ble_eq_true rfl⟩ rfl (Nat.le_of_ble_eq_true rfl) dL_law_503 ?_
  intro r F1 h1
  refine g_aload_n X 1 dL_law_506 rfl rfl ?_
  refine g_aload_n X 3 dL_law_507 rfl rfl ?_
  refine g_iload_n X 0 dL_law_508 rfl rfl ?_
  refine g_iconst X (v := nI 1) dL_law_509 (by decide) ?_
  refine g_iadd X dL_law_510 ?_
  rw [nI_add]
  refine g_sld X hX hbl hbA (vin (by omega) (by omega)) dL_law_511 ?_
  refine l_callIV X hA (np := 1) (t := 100) (As := [.int (xs (nI (4 * n + 1)).toNatClampNeg)]) (st := [.int r]) (c_X7_second Md_RA h1) (gV z_1143 z_1144 z_1145 z_68 z_1146) cl_X7 Md_RA.1 (by decide +kernel) rfl rfl rfl ⟨Nat.le_of_ble_eq_true rfl, Nat.le_of_ble_eq_true rfl⟩ ⟨Nat.le_of_ble_eq_true rfl, Nat.le_of_ble_eq_true rfl⟩ rfl (Nat.le_of_ble_eq_true rfl) dL_law_512 ?_
  rintro r2 F2 ⟨e2, h2⟩
  exact g_icmp_eq X (tgt := 717) dL_law_515 (by decide) (fun _ => kk F2 h2) (fun g => absurd e2 g)
set_option maxRecDepth 100000 in
set_option maxHeartbeats 4000000 in
theorem lc_18 (Z : LX p s m meth c D dA b L xs) (hn : 4 * n + 4 ≤ L) (hI : Inv n F) (kk : ∀ F', Inv (n + 1) F' → JL p l e s m below meth c D dA b ad F' 717 (4 * n)) : JL p l e s m below meth c D dA b ad F 520 (4 * n) := by
  obtain ⟨X, hX, hbl, hL, hr⟩ := Z
  have hA : ∀ q : Nat, s.heap.size ≤ q → (fun q : Nat => s.heap.size ≤ q) q := fun _ h => h
  have hbA : ¬ (fun q : Nat => s.heap.size ≤ q) b := Nat.not_le.mpr hbl
  refine g_aload_n X 2 dL_law_520 rfl rfl ?_
  refine l_callIV X hA (np := 0) (t := 0) (As := []) (st := []) (c_X6_years BBr_RA (t_years hI)) (gV z_777 z_778 z_779 z_56 z_780) cl_X6 BBr_RA.1 (by decide +kernel) rfl rfl rfl ⟨Nat.le_of_ble_eq_true rfl, Nat.le_of_ble_eq_true rfl⟩ ⟨Nat.le_of_ble_eq_true rfl, Nat.le_of_ble_eq_true rfl⟩ rfl (Nat.le_of_ble_eq_true rfl) dL_law_521 ?_
  intro r F1 h1
  refine g_aload_n X 1 dL_law_524 rfl rfl ?_
  refine l_callIV X hA (np := 0) (t := 100) (As := []) (st := [.int r]) (c_X7_years Md_RA h1) (gV z_1151 z_1152 z_1153 z_68 z_1154) cl_X7 Md_RA.1 (by decide +kernel) rfl rfl rfl ⟨Nat.le_of_ble_eq_true rfl, Nat.le_of_ble_eq_true rfl⟩ ⟨Nat.le_of_ble_eq_true rfl, Nat.le_of_ble_eq_true rfl⟩ rfl (Nat.le_of_ble_eq_true rfl) dL_law_525 ?_
  rintro r2 F2 ⟨e2, h2⟩
  exact g_icmp_eq X (tgt := 717) dL_law_528 (by decide) (fun _ => kk F2 h2) (fun g => absurd e2 g)
set_option maxRecDepth 100000 in
set_option maxHeartbeats 4000000 in
theorem lc_19 (Z : LX p s m meth c D dA b L xs) (hn : 4 * n + 4 ≤ L) (hI : Inv n F) (kk : ∀ F', Inv (n + 1) F' → JL p l e s m below meth c D dA b ad F' 717 (4 * n)) : JL p l e s m below meth c D dA b ad F 533 (4 * n) := by
  obtain ⟨X, hX, hbl, hL, hr⟩ := Z
  have hA : ∀ q : Nat, s.heap.size ≤ q → (fun q : Nat => s.heap.size ≤ q) q := fun _ h => h
  have hbA : ¬ (fun q : Nat => s.heap.size ≤ q) b := Nat.not_le.mpr hbl
  refine g_aload_n X 2 dL_law_533 rfl rfl ?_
  refine g_aload_n X 3 dL_law_534 rfl rfl ?_
  refine g_iload_n X 0 dL_law_535 rfl rfl ?_
  refine g_iconst X (v := nI 1) dL_law_536 (by decide) ?_
  refine g_iadd X dL_law_537 ?_
  rw [nI_add]
  refine g_sld X hX hbl hbA (vin (by omega) (by omega)) dL_law_538 ?_
  refine g_aload_n X 3 dL_law_539 rfl rfl ?_
  refine g_iload_n X 0 dL_law_540 rfl rfl ?_
  refine g_iconst X (v := nI 2) dL_law_541 (by decide) ?_
  refine g_iadd X dL_law_542 ?_
  rw [nI_add]
  refine g_sld X hX hbl hbA (vin (by omega) (by omega)) dL_law_543 ?_
  refine l_callIV X hA (np := 2) (t := 0) (As := [.int (xs (nI (4 * n + 1)).toNatClampNeg), .int (xs (nI (4 * n + 2)).toNatClampNeg)]) (st := []) (c_X6_seen BBr_RA (t_seen hI (xs (nI (4 * n + 1)).toNatClampNeg) (xs (nI (4 * n + 2)).toNatClampNeg))) (gV z_782 z_783 z_784 z_56 z_785) cl_X6 BBr_RA.1 (by decide +kernel) rfl rfl rfl ⟨Nat.le_of_ble_eq_true rfl, Nat.le_of_ble_eq_true rfl⟩ ⟨Nat.le_of_ble_eq_true rfl, Nat.le_of_ble_eq_true rfl⟩ rfl (Nat.le_of_ble_eq_true rfl) dL_law_544 ?_
  intro r F1 h1
  refine g_aload_n X 1 dL_law_547 rfl rfl ?_
  refine g_aload_n X 3 dL_law_548 rfl rfl ?_
  refine g_iload_n X 0 dL_law_549 rfl rfl ?_
  refine g_iconst X (v := nI 1) dL_law_550 (by decide) ?_
  refine g_iadd X dL_law_551 ?_
  rw [nI_add]
  refine g_sld X hX hbl hbA (vin (by omega) (by omega)) dL_law_552 ?_
  refine g_aload_n X 3 dL_law_553 rfl rfl ?_
  refine g_iload_n X 0 dL_law_554 rfl rfl ?_
  refine g_iconst X (v := nI 2) dL_law_555 (by decide) ?_
  refine g_iadd X dL_law_556 ?_
  rw [nI_add]
  refine g_sld X hX hbl hbA (vin (by omega) (by omega)) dL_law_557 ?_
  refine l_callIV X hA (np := 2) (t := 100) (As := [.int (xs (nI (4 * n + 1)).toNatClampNeg), .int (xs (nI (4 * n + 2)).toNatClampNeg)]) (st := [.int r]) (c_X7_seen Md_RA h1) (gV z_1155 z_1156 z_1157 z_68 z_1158) cl_X7 Md_RA.1 (by decide +kernel) rfl rfl rfl ⟨Nat.le_of_ble_eq_true rfl, Nat.le_of_ble_eq_true rfl⟩ ⟨Nat.le_of_ble_eq_true rfl, Nat.le_of_ble_eq_true rfl⟩ rfl (Nat.le_of_ble_eq_true rfl) dL_law_558 ?_
  rintro r2 F2 ⟨e2, h2⟩
  exact g_icmp_eq X (tgt := 717) dL_law_561 (by decide) (fun _ => kk F2 h2) (fun g => absurd e2 g)
set_option maxRecDepth 100000 in
set_option maxHeartbeats 4000000 in
theorem lc_20 (Z : LX p s m meth c D dA b L xs) (hn : 4 * n + 4 ≤ L) (hI : Inv n F) (kk : ∀ F', Inv (n + 1) F' → JL p l e s m below meth c D dA b ad F' 717 (4 * n)) : JL p l e s m below meth c D dA b ad F 566 (4 * n) := by
  obtain ⟨X, hX, hbl, hL, hr⟩ := Z
  have hA : ∀ q : Nat, s.heap.size ≤ q → (fun q : Nat => s.heap.size ≤ q) q := fun _ h => h
  have hbA : ¬ (fun q : Nat => s.heap.size ≤ q) b := Nat.not_le.mpr hbl
  refine g_aload_n X 2 dL_law_566 rfl rfl ?_
  refine l_callIV X hA (np := 0) (t := 0) (As := []) (st := []) (c_X6_forget BBr_RA (t_forget hI)) (gV z_786 z_787 z_788 z_56 z_789) cl_X6 BBr_RA.1 (by decide +kernel) rfl rfl rfl ⟨Nat.le_of_ble_eq_true rfl, Nat.le_of_ble_eq_true rfl⟩ ⟨Nat.le_of_ble_eq_true rfl, Nat.le_of_ble_eq_true rfl⟩ rfl (Nat.le_of_ble_eq_true rfl) dL_law_567 ?_
  intro r F1 h1
  refine g_aload_n X 1 dL_law_570 rfl rfl ?_
  refine l_callIV X hA (np := 0) (t := 100) (As := []) (st := [.int r]) (c_X7_forget Md_RA h1) (gV z_1159 z_1160 z_1161 z_68 z_1162) cl_X7 Md_RA.1 (by decide +kernel) rfl rfl rfl ⟨Nat.le_of_ble_eq_true rfl, Nat.le_of_ble_eq_true rfl⟩ ⟨Nat.le_of_ble_eq_true rfl, Nat.le_of_ble_eq_true rfl⟩ rfl (Nat.le_of_ble_eq_true rfl) dL_law_571 ?_
  rintro r2 F2 ⟨e2, h2⟩
  exact g_icmp_eq X (tgt := 717) dL_law_574 (by decide) (fun _ => kk F2 h2) (fun g => absurd e2 g)
set_option maxRecDepth 100000 in
set_option maxHeartbeats 4000000 in
theorem lc_21 (Z : LX p s m meth c D dA b L xs) (hn : 4 * n + 4 ≤ L) (hI : Inv n F) (kk : ∀ F', Inv (n + 1) F' → JL p l e s m below meth c D dA b ad F' 717 (4 * n)) : JL p l e s m below meth c D dA b ad F 579 (4 * n) := by
  obtain ⟨X, hX, hbl, hL, hr⟩ := Z
  have hA : ∀ q : Nat, s.heap.size ≤ q → (fun q : Nat => s.heap.size ≤ q) q := fun _ h => h
  have hbA : ¬ (fun q : Nat => s.heap.size ≤ q) b := Nat.not_le.mpr hbl
  refine g_aload_n X 2 dL_law_579 rfl rfl ?_
  refine g_aload_n X 3 dL_law_580 rfl rfl ?_
  refine g_iload_n X 0 dL_law_581 rfl rfl ?_
  refine g_iconst X (v := nI 1) dL_law_582 (by decide) ?_
  refine g_iadd X dL_law_583 ?_
  rw [nI_add]
  refine g_sld X hX hbl hbA (vin (by omega) (by omega)) dL_law_584 ?_
  refine l_callIV X hA (np := 1) (t := 0) (As := [.int (xs (nI (4 * n + 1)).toNatClampNeg)]) (st := []) (c_X6_stood BBr_RA (t_stood hI (xs (nI (4 * n + 1)).toNatClampNeg))) (gV z_790 z_791 z_792 z_56 z_793) cl_X6 BBr_RA.1 (by decide +kernel) rfl rfl rfl ⟨Nat.le_of_ble_eq_true rfl, Nat.le_of_ble_eq_true rfl⟩ ⟨Nat.le_of_ble_eq_true rfl, Nat.le_of_ble_eq_true rfl⟩ rfl (Nat.le_of_ble_eq_true rfl) dL_law_585 ?_
  intro r F1 h1
  refine g_aload_n X 1 dL_law_588 rfl rfl ?_
  refine g_aload_n X 3 dL_law_589 rfl rfl ?_
  refine g_iload_n X 0 dL_law_590 rfl rfl ?_
  refine g_iconst X (v := nI 1) dL_law_591 (by decide) ?_
  refine g_iadd X dL_law_592 ?_
  rw [nI_add]
  refine g_sld X hX hbl hbA (vin (by omega) (by omega)) dL_law_593 ?_
  refine l_callIV X hA (np := 1) (t := 100) (As := [.int (xs (nI (4 * n + 1)).toNatClampNeg)]) (st := [.int r]) (c_X7_stood Md_RA h1) (gV z_1163 z_1164 z_1165 z_68 z_1166) cl_X7 Md_RA.1 (by decide +kernel) rfl rfl rfl ⟨Nat.le_of_ble_eq_true rfl, Nat.le_of_ble_eq_true rfl⟩ ⟨Nat.le_of_ble_eq_true rfl, Nat.le_of_ble_eq_true rfl⟩ rfl (Nat.le_of_ble_eq_true rfl) dL_law_594 ?_
  rintro r2 F2 ⟨e2, h2⟩
  exact g_icmp_eq X (tgt := 717) dL_law_597 (by decide) (fun _ => kk F2 h2) (fun g => absurd e2 g)
set_option maxRecDepth 100000 in
set_option maxHeartbeats 4000000 in
theorem lc_22 (Z : LX p s m meth c D dA b L xs) (hn : 4 * n + 4 ≤ L) (hI : Inv n F) (kk : ∀ F', Inv (n + 1) F' → JL p l e s m below meth c D dA b ad F' 717 (4 * n)) : JL p l e s m below meth c D dA b ad F 602 (4 * n) := by
  obtain ⟨X, hX, hbl, hL, hr⟩ := Z
  have hA : ∀ q : Nat, s.heap.size ≤ q → (fun q : Nat => s.heap.size ≤ q) q := fun _ h => h
  have hbA : ¬ (fun q : Nat => s.heap.size ≤ q) b := Nat.not_le.mpr hbl
  refine g_aload_n X 2 dL_law_602 rfl rfl ?_
  refine g_aload_n X 3 dL_law_603 rfl rfl ?_
  refine g_iload_n X 0 dL_law_604 rfl rfl ?_
  refine g_iconst X (v := nI 1) dL_law_605 (by decide) ?_
  refine g_iadd X dL_law_606 ?_
  rw [nI_add]
  refine g_sld X hX hbl hbA (vin (by omega) (by omega)) dL_law_607 ?_
  refine l_callIV X hA (np := 1) (t := 0) (As := [.int (xs (nI (4 * n + 1)).toNatClampNeg)]) (st := []) (c_X6_rain BBr_RA (t_rain hI (xs (nI (4 * n + 1)).toNatClampNeg))) (gV z_800 z_801 z_802 z_56 z_803) cl_X6 BBr_RA.1 (by decide +kernel) rfl rfl rfl ⟨Nat.le_of_ble_eq_true rfl, Nat.le_of_ble_eq_true rfl⟩ ⟨Nat.le_of_ble_eq_true rfl, Nat.le_of_ble_eq_true rfl⟩ rfl (Nat.le_of_ble_eq_true rfl) dL_law_608 ?_
  intro r F1 h1
  refine g_aload_n X 1 dL_law_611 rfl rfl ?_
  refine g_aload_n X 3 dL_law_612 rfl rfl ?_
  refine g_iload_n X 0 dL_law_613 rfl rfl ?_
  refine g_iconst X (v := nI 1) dL_law_614 (by decide) ?_
  refine g_iadd X dL_law_615 ?_
  rw [nI_add]
  refine g_sld X hX hbl hbA (vin (by omega) (by omega)) dL_law_616 ?_
  refine l_callIV X hA (np := 1) (t := 100) (As := [.int (xs (nI (4 * n + 1)).toNatClampNeg)]) (st := [.int r]) (c_X7_rain Md_RA h1) (gV z_1171 z_1172 z_1173 z_68 z_1174) cl_X7 Md_RA.1 (by decide +kernel) rfl rfl rfl ⟨Nat.le_of_ble_eq_true rfl, Nat.le_of_ble_eq_true rfl⟩ ⟨Nat.le_of_ble_eq_true rfl, Nat.le_of_ble_eq_true rfl⟩ rfl (Nat.le_of_ble_eq_true rfl) dL_law_617 ?_
  rintro r2 F2 ⟨e2, h2⟩
  exact g_icmp_eq X (tgt := 717) dL_law_620 (by decide) (fun _ => kk F2 h2) (fun g => absurd e2 g)
set_option maxRecDepth 100000 in
set_option maxHeartbeats 4000000 in
theorem lc_23 (Z : LX p s m meth c D dA b L xs) (hn : 4 * n + 4 ≤ L) (hI : Inv n F) (kk : ∀ F', Inv (n + 1) F' → JL p l e s m below meth c D dA b ad F' 717 (4 * n)) : JL p l e s m below meth c D dA b ad F 625 (4 * n) := by
  obtain ⟨X, hX, hbl, hL, hr⟩ := Z
  have hA : ∀ q : Nat, s.heap.size ≤ q → (fun q : Nat => s.heap.size ≤ q) q := fun _ h => h
  have hbA : ¬ (fun q : Nat => s.heap.size ≤ q) b := Nat.not_le.mpr hbl
  refine g_aload_n X 2 dL_law_625 rfl rfl ?_
  refine g_aload_n X 3 dL_law_626 rfl rfl ?_
  refine g_iload_n X 0 dL_law_627 rfl rfl ?_
  refine g_iconst X (v := nI 1) dL_law_628 (by decide) ?_
  refine g_iadd X dL_law_629 ?_
  rw [nI_add]
  refine g_sld X hX hbl hbA (vin (by omega) (by omega)) dL_law_630 ?_
  refine g_aload_n X 3 dL_law_631 rfl rfl ?_
  refine g_iload_n X 0 dL_law_632 rfl rfl ?_
  refine g_iconst X (v := nI 2) dL_law_633 (by decide) ?_
  refine g_iadd X dL_law_634 ?_
  rw [nI_add]
  refine g_sld X hX hbl hbA (vin (by omega) (by omega)) dL_law_635 ?_
  refine g_aload_n X 3 dL_law_636 rfl rfl ?_
  refine g_iload_n X 0 dL_law_637 rfl rfl ?_
  refine g_iconst X (v := nI 3) dL_law_638 (by decide) ?_
  refine g_iadd X dL_law_639 ?_
  rw [nI_add]
  refine g_sld X hX hbl hbA (vin (by omega) (by omega)) dL_law_640 ?_
  refine l_callIV X hA (np := 3) (t := 0) (As := [.int (xs (nI (4 * n + 1)).toNatClampNeg), .int (xs (nI (4 * n + 2)).toNatClampNeg), .int (xs (nI (4 * n + 3)).toNatClampNeg)]) (st := []) (c_X6_century BBr_RA (t_century hI (xs (nI (4 * n + 1)).toNatClampNeg) (xs (nI (4 * n + 2)).toNatClampNeg) (xs (nI (4 * n + 3)).toNatClampNeg))) (gV z_806 z_807 z_808 z_56 z_809) cl_X6 BBr_RA.1 (by decide +kernel) rfl rfl rfl ⟨Nat.le_of_ble_eq_true rfl, Nat.le_of_ble_eq_true rfl⟩ ⟨Nat.le_of_ble_eq_true rfl, Nat.le_of_ble_eq_true rfl⟩ rfl (Nat.le_of_ble_eq_true rfl) dL_law_641 ?_
  intro r F1 h1
  refine g_aload_n X 1 dL_law_644 rfl rfl ?_
  refine g_aload_n X 3 dL_law_645 rfl rfl ?_
  refine g_iload_n X 0 dL_law_646 rfl rfl ?_
  refine g_iconst X (v := nI 1) dL_law_647 (by decide) ?_
  refine g_iadd X dL_law_648 ?_
  rw [nI_add]
  refine g_sld X hX hbl hbA (vin (by omega) (by omega)) dL_law_649 ?_
  refine g_aload_n X 3 dL_law_650 rfl rfl ?_
  refine g_iload_n X 0 dL_law_651 rfl rfl ?_
  refine g_iconst X (v := nI 2) dL_law_652 (by decide) ?_
  refine g_iadd X dL_law_653 ?_
  rw [nI_add]
  refine g_sld X hX hbl hbA (vin (by omega) (by omega)) dL_law_654 ?_
  refine g_aload_n X 3 dL_law_655 rfl rfl ?_
  refine g_iload_n X 0 dL_law_656 rfl rfl ?_
  refine g_iconst X (v := nI 3) dL_law_657 (by decide) ?_
  refine g_iadd X dL_law_658 ?_
  rw [nI_add]
  refine g_sld X hX hbl hbA (vin (by omega) (by omega)) dL_law_659 ?_
  refine l_callIV X hA (np := 3) (t := 100) (As := [.int (xs (nI (4 * n + 1)).toNatClampNeg), .int (xs (nI (4 * n + 2)).toNatClampNeg), .int (xs (nI (4 * n + 3)).toNatClampNeg)]) (st := [.int r]) (c_X7_century Md_RA h1) (gV z_1177 z_1178 z_1179 z_68 z_1180) cl_X7 Md_RA.1 (by decide +kernel) rfl rfl rfl ⟨Nat.le_of_ble_eq_true rfl, Nat.le_of_ble_eq_true rfl⟩ ⟨Nat.le_of_ble_eq_true rfl, Nat.le_of_ble_eq_true rfl⟩ rfl (Nat.le_of_ble_eq_true rfl) dL_law_660 ?_
  rintro r2 F2 ⟨e2, h2⟩
  exact g_icmp_eq X (tgt := 717) dL_law_663 (by decide) (fun _ => kk F2 h2) (fun g => absurd e2 g)
set_option maxRecDepth 100000 in
set_option maxHeartbeats 4000000 in
theorem lc_24 (Z : LX p s m meth c D dA b L xs) (hn : 4 * n + 4 ≤ L) (hI : Inv n F) (kk : ∀ F', Inv (n + 1) F' → JL p l e s m below meth c D dA b ad F' 717 (4 * n)) : JL p l e s m below meth c D dA b ad F 668 (4 * n) := by
  obtain ⟨X, hX, hbl, hL, hr⟩ := Z
  have hA : ∀ q : Nat, s.heap.size ≤ q → (fun q : Nat => s.heap.size ≤ q) q := fun _ h => h
  have hbA : ¬ (fun q : Nat => s.heap.size ≤ q) b := Nat.not_le.mpr hbl
  refine g_aload_n X 2 dL_law_668 rfl rfl ?_
  refine l_callIV X hA (np := 0) (t := 0) (As := []) (st := []) (c_X6_keep BBr_RA (t_keep hI)) (gV z_823 z_824 z_825 z_56 z_826) cl_X6 BBr_RA.1 (by decide +kernel) rfl rfl rfl ⟨Nat.le_of_ble_eq_true rfl, Nat.le_of_ble_eq_true rfl⟩ ⟨Nat.le_of_ble_eq_true rfl, Nat.le_of_ble_eq_true rfl⟩ rfl (Nat.le_of_ble_eq_true rfl) dL_law_669 ?_
  intro r F1 h1
  refine g_aload_n X 1 dL_law_672 rfl rfl ?_
  refine l_callIV X hA (np := 0) (t := 100) (As := []) (st := [.int r]) (c_X7_keep Md_RA h1) (gV z_1191 z_1192 z_1193 z_68 z_1194) cl_X7 Md_RA.1 (by decide +kernel) rfl rfl rfl ⟨Nat.le_of_ble_eq_true rfl, Nat.le_of_ble_eq_true rfl⟩ ⟨Nat.le_of_ble_eq_true rfl, Nat.le_of_ble_eq_true rfl⟩ rfl (Nat.le_of_ble_eq_true rfl) dL_law_673 ?_
  rintro r2 F2 ⟨e2, h2⟩
  exact g_icmp_eq X (tgt := 717) dL_law_676 (by decide) (fun _ => kk F2 h2) (fun g => absurd e2 g)
set_option maxRecDepth 100000 in
set_option maxHeartbeats 4000000 in
theorem lc_25 (Z : LX p s m meth c D dA b L xs) (hn : 4 * n + 4 ≤ L) (hI : Inv n F) (kk : ∀ F', Inv (n + 1) F' → JL p l e s m below meth c D dA b ad F' 717 (4 * n)) : JL p l e s m below meth c D dA b ad F 681 (4 * n) := by
  obtain ⟨X, hX, hbl, hL, hr⟩ := Z
  have hA : ∀ q : Nat, s.heap.size ≤ q → (fun q : Nat => s.heap.size ≤ q) q := fun _ h => h
  have hbA : ¬ (fun q : Nat => s.heap.size ≤ q) b := Nat.not_le.mpr hbl
  refine g_aload_n X 2 dL_law_681 rfl rfl ?_
  refine l_callIV X hA (np := 0) (t := 0) (As := []) (st := []) (c_X6_back BBr_RA (t_back hI)) (gV z_828 z_829 z_830 z_56 z_831) cl_X6 BBr_RA.1 (by decide +kernel) rfl rfl rfl ⟨Nat.le_of_ble_eq_true rfl, Nat.le_of_ble_eq_true rfl⟩ ⟨Nat.le_of_ble_eq_true rfl, Nat.le_of_ble_eq_true rfl⟩ rfl (Nat.le_of_ble_eq_true rfl) dL_law_682 ?_
  intro r F1 h1
  refine g_aload_n X 1 dL_law_685 rfl rfl ?_
  refine l_callIV X hA (np := 0) (t := 100) (As := []) (st := [.int r]) (c_X7_back Md_RA h1) (gV z_1195 z_1196 z_1197 z_68 z_1198) cl_X7 Md_RA.1 (by decide +kernel) rfl rfl rfl ⟨Nat.le_of_ble_eq_true rfl, Nat.le_of_ble_eq_true rfl⟩ ⟨Nat.le_of_ble_eq_true rfl, Nat.le_of_ble_eq_true rfl⟩ rfl (Nat.le_of_ble_eq_true rfl) dL_law_686 ?_
  rintro r2 F2 ⟨e2, h2⟩
  exact g_icmp_eq X (tgt := 717) dL_law_689 (by decide) (fun _ => kk F2 h2) (fun g => absurd e2 g)
set_option maxRecDepth 100000 in
set_option maxHeartbeats 4000000 in
theorem lc_26 (Z : LX p s m meth c D dA b L xs) (hn : 4 * n + 4 ≤ L) (hI : Inv n F) (kk : ∀ F', Inv (n + 1) F' → JL p l e s m below meth c D dA b ad F' 717 (4 * n)) : JL p l e s m below meth c D dA b ad F 694 (4 * n) := by
  obtain ⟨X, hX, hbl, hL, hr⟩ := Z
  have hA : ∀ q : Nat, s.heap.size ≤ q → (fun q : Nat => s.heap.size ≤ q) q := fun _ h => h
  have hbA : ¬ (fun q : Nat => s.heap.size ≤ q) b := Nat.not_le.mpr hbl
  refine g_aload_n X 2 dL_law_694 rfl rfl ?_
  refine g_aload_n X 3 dL_law_695 rfl rfl ?_
  refine g_iload_n X 0 dL_law_696 rfl rfl ?_
  refine g_iconst X (v := nI 1) dL_law_697 (by decide) ?_
  refine g_iadd X dL_law_698 ?_
  rw [nI_add]
  refine g_sld X hX hbl hbA (vin (by omega) (by omega)) dL_law_699 ?_
  refine l_callIV X hA (np := 1) (t := 0) (As := [.int (xs (nI (4 * n + 1)).toNatClampNeg)]) (st := []) (c_X6_count BBr_RA (t_count hI (xs (nI (4 * n + 1)).toNatClampNeg))) (gV z_832 z_833 z_834 z_56 z_835) cl_X6 BBr_RA.1 (by decide +kernel) rfl rfl rfl ⟨Nat.le_of_ble_eq_true rfl, Nat.le_of_ble_eq_true rfl⟩ ⟨Nat.le_of_ble_eq_true rfl, Nat.le_of_ble_eq_true rfl⟩ rfl (Nat.le_of_ble_eq_true rfl) dL_law_700 ?_
  intro r F1 h1
  refine g_aload_n X 1 dL_law_703 rfl rfl ?_
  refine g_aload_n X 3 dL_law_704 rfl rfl ?_
  refine g_iload_n X 0 dL_law_705 rfl rfl ?_
  refine g_iconst X (v := nI 1) dL_law_706 (by decide) ?_
  refine g_iadd X dL_law_707 ?_
  rw [nI_add]
  refine g_sld X hX hbl hbA (vin (by omega) (by omega)) dL_law_708 ?_
  refine l_callIV X hA (np := 1) (t := 100) (As := [.int (xs (nI (4 * n + 1)).toNatClampNeg)]) (st := [.int r]) (c_X7_count Md_RA h1) (gV z_1199 z_1200 z_1201 z_68 z_1202) cl_X7 Md_RA.1 (by decide +kernel) rfl rfl rfl ⟨Nat.le_of_ble_eq_true rfl, Nat.le_of_ble_eq_true rfl⟩ ⟨Nat.le_of_ble_eq_true rfl, Nat.le_of_ble_eq_true rfl⟩ rfl (Nat.le_of_ble_eq_true rfl) dL_law_709 ?_
  rintro r2 F2 ⟨e2, h2⟩
  exact g_icmp_eq X (tgt := 717) dL_law_712 (by decide) (fun _ => kk F2 h2) (fun g => absurd e2 g)
end LawCases
