/-! own: facts, piece 4 -/
theorem se_X2_goesBy : Cond.selects RX2 yX2_goesBy yX2_goesBy ∈ lw_tbl := List.mem_append_right _ (List.mem_of_getElem? (i := 557) (by decide +kernel))
theorem ml_X8_251 : Cond.methodLink RX8 251 yX8_freeSeats ∈ lw_tbl := List.mem_append_right _ (List.mem_of_getElem? (i := 550) (by decide +kernel))
theorem im_X8_freeSeats : Cond.instanceMethod yX8_freeSeats ∈ lw_tbl := List.mem_append_right _ (List.mem_of_getElem? (i := 552) (by decide +kernel))
theorem se_X8_freeSeats : Cond.selects RX8 yX8_freeSeats yX8_freeSeats ∈ lw_tbl := List.mem_append_left _ (List.mem_of_getElem? (i := 19) (by decide +kernel))
theorem fl_X8_255 : Cond.fieldLink RX8 255 "Connectory$Booking" "made" "I" ∈ lw_tbl := List.mem_append_right _ (List.mem_of_getElem? (i := 785) (by decide +kernel))
theorem fl_X8_258 : Cond.fieldLink RX8 258 "Connectory$Journey" "size" "I" ∈ lw_tbl := List.mem_append_right _ (List.mem_of_getElem? (i := 505) (by decide +kernel))
theorem fl_X8_259 : Cond.fieldLink RX8 259 "Connectory$Journey" "end" "I" ∈ lw_tbl := List.mem_append_right _ (List.mem_of_getElem? (i := 509) (by decide +kernel))
theorem kc_X8_270 : Cond.constant RX8 270 (140000) ∈ lw_tbl := List.mem_append_right _ (List.mem_of_getElem? (i := 289) (by decide +kernel))
theorem fl_X8_275 : Cond.fieldLink RX8 275 "Connectory$Journey" "first" "LConnectory$Ride;" ∈ lw_tbl := List.mem_append_right _ (List.mem_of_getElem? (i := 503) (by decide +kernel))
theorem fl_X8_279 : Cond.fieldLink RX8 279 "Connectory$Ride" "trip" "LConnectory$Trip;" ∈ lw_tbl := List.mem_append_right _ (List.mem_of_getElem? (i := 451) (by decide +kernel))
theorem fl_X8_283 : Cond.fieldLink RX8 283 "Connectory$Ride" "day" "I" ∈ lw_tbl := List.mem_append_right _ (List.mem_of_getElem? (i := 454) (by decide +kernel))
theorem fl_X8_286 : Cond.fieldLink RX8 286 "Connectory$Ride" "next" "LConnectory$Ride;" ∈ lw_tbl := List.mem_append_right _ (List.mem_of_getElem? (i := 460) (by decide +kernel))
theorem fl_X8_289 : Cond.fieldLink RX8 289 "Connectory$Trip" "seats" "I" ∈ lw_tbl := List.mem_append_right _ (List.mem_of_getElem? (i := 890) (by decide +kernel))
theorem ml_X8_292 : Cond.methodLink RX8 292 Lib.Math.max.name ∈ lw_tbl := List.mem_append_right _ (List.mem_of_getElem? (i := 301) (by decide +kernel))
theorem ml_X8_297 : Cond.methodLink RX8 297 Lib.Math.min.name ∈ lw_tbl := List.mem_append_right _ (List.mem_of_getElem? (i := 307) (by decide +kernel))
theorem kc_L_7 : Cond.constant RL 7 (91211) ∈ lw_tbl := List.mem_append_right _ (List.mem_of_getElem? (i := 183) (by decide +kernel))
theorem kc_L_8 : Cond.constant RL 8 (1014596435) ∈ lw_tbl := List.mem_append_right _ (List.mem_of_getElem? (i := 184) (by decide +kernel))
theorem ml_L_9 : Cond.methodLink RL 9 yL_does ∈ lw_tbl := List.mem_append_right _ (List.mem_of_getElem? (i := 606) (by decide +kernel))
theorem st_L_does : Cond.static yL_does ∈ lw_tbl := List.mem_append_right _ (List.mem_of_getElem? (i := 607) (by decide +kernel))
theorem kc_L_17 : Cond.constant RL 17 (-2000000001) ∈ lw_tbl := List.mem_append_right _ (List.mem_of_getElem? (i := 536) (by decide +kernel))
theorem kc_L_20 : Cond.constant RL 20 (-2000000002) ∈ lw_tbl := List.mem_append_right _ (List.mem_of_getElem? (i := 537) (by decide +kernel))
theorem kc_L_23 : Cond.constant RL 23 (-2000000003) ∈ lw_tbl := List.mem_append_right _ (List.mem_of_getElem? (i := 867) (by decide +kernel))
theorem ml_L_24 : Cond.methodLink RL 24 yX8_stop ∈ lw_tbl := List.mem_append_right _ (List.mem_of_getElem? (i := 609) (by decide +kernel))
theorem im_X8_stop : Cond.instanceMethod yX8_stop ∈ lw_tbl := List.mem_append_right _ (List.mem_of_getElem? (i := 610) (by decide +kernel))
theorem se_X8_stop : Cond.selects RX8 yX8_stop yX8_stop ∈ lw_tbl := List.mem_append_right _ (List.mem_of_getElem? (i := 611) (by decide +kernel))
theorem ml_L_30 : Cond.methodLink RL 30 yX8_footway ∈ lw_tbl := List.mem_append_right _ (List.mem_of_getElem? (i := 634) (by decide +kernel))
theorem im_X8_footway : Cond.instanceMethod yX8_footway ∈ lw_tbl := List.mem_append_right _ (List.mem_of_getElem? (i := 635) (by decide +kernel))
theorem se_X8_footway : Cond.selects RX8 yX8_footway yX8_footway ∈ lw_tbl := List.mem_append_right _ (List.mem_of_getElem? (i := 636) (by decide +kernel))
theorem ml_L_34 : Cond.methodLink RL 34 yX8_calls ∈ lw_tbl := List.mem_append_right _ (List.mem_of_getElem? (i := 644) (by decide +kernel))
theorem im_X8_calls : Cond.instanceMethod yX8_calls ∈ lw_tbl := List.mem_append_right _ (List.mem_of_getElem? (i := 645) (by decide +kernel))
theorem se_X8_calls : Cond.selects RX8 yX8_calls yX8_calls ∈ lw_tbl := List.mem_append_right _ (List.mem_of_getElem? (i := 646) (by decide +kernel))
theorem ml_L_38 : Cond.methodLink RL 38 yX8_runs ∈ lw_tbl := List.mem_append_right _ (List.mem_of_getElem? (i := 658) (by decide +kernel))
theorem im_X8_runs : Cond.instanceMethod yX8_runs ∈ lw_tbl := List.mem_append_right _ (List.mem_of_getElem? (i := 659) (by decide +kernel))
theorem se_X8_runs : Cond.selects RX8 yX8_runs yX8_runs ∈ lw_tbl := List.mem_append_right _ (List.mem_of_getElem? (i := 660) (by decide +kernel))
theorem ml_L_42 : Cond.methodLink RL 42 yX8_delay ∈ lw_tbl := List.mem_append_right _ (List.mem_of_getElem? (i := 667) (by decide +kernel))
theorem im_X8_delay : Cond.instanceMethod yX8_delay ∈ lw_tbl := List.mem_append_right _ (List.mem_of_getElem? (i := 668) (by decide +kernel))
theorem se_X8_delay : Cond.selects RX8 yX8_delay yX8_delay ∈ lw_tbl := List.mem_append_right _ (List.mem_of_getElem? (i := 669) (by decide +kernel))
theorem ml_L_45 : Cond.methodLink RL 45 yX8_note ∈ lw_tbl := List.mem_append_right _ (List.mem_of_getElem? (i := 673) (by decide +kernel))
theorem im_X8_note : Cond.instanceMethod yX8_note ∈ lw_tbl := List.mem_append_right _ (List.mem_of_getElem? (i := 674) (by decide +kernel))
theorem se_X8_note : Cond.selects RX8 yX8_note yX8_note ∈ lw_tbl := List.mem_append_right _ (List.mem_of_getElem? (i := 675) (by decide +kernel))
theorem ml_L_49 : Cond.methodLink RL 49 yX8_prices ∈ lw_tbl := List.mem_append_right _ (List.mem_of_getElem? (i := 678) (by decide +kernel))
theorem im_X8_prices : Cond.instanceMethod yX8_prices ∈ lw_tbl := List.mem_append_right _ (List.mem_of_getElem? (i := 679) (by decide +kernel))
theorem se_X8_prices : Cond.selects RX8 yX8_prices yX8_prices ∈ lw_tbl := List.mem_append_right _ (List.mem_of_getElem? (i := 680) (by decide +kernel))
theorem ml_L_53 : Cond.methodLink RL 53 yX8_arrival ∈ lw_tbl := List.mem_append_right _ (List.mem_of_getElem? (i := 193) (by decide +kernel))
theorem im_X8_arrival : Cond.instanceMethod yX8_arrival ∈ lw_tbl := List.mem_append_right _ (List.mem_of_getElem? (i := 194) (by decide +kernel))
theorem se_X8_arrival : Cond.selects RX8 yX8_arrival yX8_arrival ∈ lw_tbl := List.mem_append_right _ (List.mem_of_getElem? (i := 195) (by decide +kernel))
theorem ml_L_56 : Cond.methodLink RL 56 yX8_arrivalAnew ∈ lw_tbl := List.mem_append_right _ (List.mem_of_getElem? (i := 691) (by decide +kernel))
theorem im_X8_arrivalAnew : Cond.instanceMethod yX8_arrivalAnew ∈ lw_tbl := List.mem_append_right _ (List.mem_of_getElem? (i := 692) (by decide +kernel))
theorem se_X8_arrivalAnew : Cond.selects RX8 yX8_arrivalAnew yX8_arrivalAnew ∈ lw_tbl := List.mem_append_right _ (List.mem_of_getElem? (i := 693) (by decide +kernel))
theorem ml_L_59 : Cond.methodLink RL 59 yX8_front ∈ lw_tbl := List.mem_append_right _ (List.mem_of_getElem? (i := 724) (by decide +kernel))
theorem im_X8_front : Cond.instanceMethod yX8_front ∈ lw_tbl := List.mem_append_right _ (List.mem_of_getElem? (i := 725) (by decide +kernel))
theorem se_X8_front : Cond.selects RX8 yX8_front yX8_front ∈ lw_tbl := List.mem_append_right _ (List.mem_of_getElem? (i := 726) (by decide +kernel))
theorem ml_L_62 : Cond.methodLink RL 62 yX8_best ∈ lw_tbl := List.mem_append_right _ (List.mem_of_getElem? (i := 728) (by decide +kernel))
theorem im_X8_best : Cond.instanceMethod yX8_best ∈ lw_tbl := List.mem_append_right _ (List.mem_of_getElem? (i := 729) (by decide +kernel))
theorem se_X8_best : Cond.selects RX8 yX8_best yX8_best ∈ lw_tbl := List.mem_append_right _ (List.mem_of_getElem? (i := 730) (by decide +kernel))
theorem ml_L_65 : Cond.methodLink RL 65 yX8_book ∈ lw_tbl := List.mem_append_right _ (List.mem_of_getElem? (i := 749) (by decide +kernel))
theorem im_X8_book : Cond.instanceMethod yX8_book ∈ lw_tbl := List.mem_append_right _ (List.mem_of_getElem? (i := 750) (by decide +kernel))
theorem se_X8_book : Cond.selects RX8 yX8_book yX8_book ∈ lw_tbl := List.mem_append_right _ (List.mem_of_getElem? (i := 751) (by decide +kernel))
theorem ml_L_68 : Cond.methodLink RL 68 yX8_buy ∈ lw_tbl := List.mem_append_right _ (List.mem_of_getElem? (i := 853) (by decide +kernel))
theorem im_X8_buy : Cond.instanceMethod yX8_buy ∈ lw_tbl := List.mem_append_right _ (List.mem_of_getElem? (i := 854) (by decide +kernel))
theorem se_X8_buy : Cond.selects RX8 yX8_buy yX8_buy ∈ lw_tbl := List.mem_append_right _ (List.mem_of_getElem? (i := 855) (by decide +kernel))
theorem ml_L_71 : Cond.methodLink RL 71 yX8_right ∈ lw_tbl := List.mem_append_right _ (List.mem_of_getElem? (i := 577) (by decide +kernel))
theorem im_X8_right : Cond.instanceMethod yX8_right ∈ lw_tbl := List.mem_append_right _ (List.mem_of_getElem? (i := 578) (by decide +kernel))
theorem se_X8_right : Cond.selects RX8 yX8_right yX8_right ∈ lw_tbl := List.mem_append_right _ (List.mem_of_getElem? (i := 579) (by decide +kernel))
theorem ml_L_74 : Cond.methodLink RL 74 yX8_claim ∈ lw_tbl := List.mem_append_right _ (List.mem_of_getElem? (i := 858) (by decide +kernel))
theorem im_X8_claim : Cond.instanceMethod yX8_claim ∈ lw_tbl := List.mem_append_right _ (List.mem_of_getElem? (i := 859) (by decide +kernel))
theorem se_X8_claim : Cond.selects RX8 yX8_claim yX8_claim ∈ lw_tbl := List.mem_append_right _ (List.mem_of_getElem? (i := 860) (by decide +kernel))
theorem ml_L_77 : Cond.methodLink RL 77 yX8_concerned ∈ lw_tbl := List.mem_append_right _ (List.mem_of_getElem? (i := 559) (by decide +kernel))
theorem im_X8_concerned : Cond.instanceMethod yX8_concerned ∈ lw_tbl := List.mem_append_right _ (List.mem_of_getElem? (i := 560) (by decide +kernel))
theorem se_X8_concerned : Cond.selects RX8 yX8_concerned yX8_concerned ∈ lw_tbl := List.mem_append_right _ (List.mem_of_getElem? (i := 561) (by decide +kernel))
theorem ml_L_80 : Cond.methodLink RL 80 yX8_seats ∈ lw_tbl := List.mem_append_right _ (List.mem_of_getElem? (i := 538) (by decide +kernel))
theorem im_X8_seats : Cond.instanceMethod yX8_seats ∈ lw_tbl := List.mem_append_right _ (List.mem_of_getElem? (i := 539) (by decide +kernel))
theorem se_X8_seats : Cond.selects RX8 yX8_seats yX8_seats ∈ lw_tbl := List.mem_append_right _ (List.mem_of_getElem? (i := 540) (by decide +kernel))
theorem ml_L_83 : Cond.methodLink RL 83 yX8_pass ∈ lw_tbl := List.mem_append_right _ (List.mem_of_getElem? (i := 863) (by decide +kernel))
theorem im_X8_pass : Cond.instanceMethod yX8_pass ∈ lw_tbl := List.mem_append_right _ (List.mem_of_getElem? (i := 864) (by decide +kernel))
theorem se_X8_pass : Cond.selects RX8 yX8_pass yX8_pass ∈ lw_tbl := List.mem_append_right _ (List.mem_of_getElem? (i := 865) (by decide +kernel))
theorem ml_L_86 : Cond.methodLink RL 86 yX8_ofBooking ∈ lw_tbl := List.mem_append_right _ (List.mem_of_getElem? (i := 568) (by decide +kernel))
theorem im_X8_ofBooking : Cond.instanceMethod yX8_ofBooking ∈ lw_tbl := List.mem_append_right _ (List.mem_of_getElem? (i := 569) (by decide +kernel))
theorem se_X8_ofBooking : Cond.selects RX8 yX8_ofBooking yX8_ofBooking ∈ lw_tbl := List.mem_append_right _ (List.mem_of_getElem? (i := 570) (by decide +kernel))
theorem ml_L_89 : Cond.methodLink RL 89 yX8_trip ∈ lw_tbl := List.mem_append_right _ (List.mem_of_getElem? (i := 872) (by decide +kernel))
theorem im_X8_trip : Cond.instanceMethod yX8_trip ∈ lw_tbl := List.mem_append_right _ (List.mem_of_getElem? (i := 873) (by decide +kernel))
theorem se_X8_trip : Cond.selects RX8 yX8_trip yX8_trip ∈ lw_tbl := List.mem_append_right _ (List.mem_of_getElem? (i := 874) (by decide +kernel))
theorem ml_L_93 : Cond.methodLink RL 93 yX8_ride ∈ lw_tbl := List.mem_append_right _ (List.mem_of_getElem? (i := 417) (by decide +kernel))
theorem im_X8_ride : Cond.instanceMethod yX8_ride ∈ lw_tbl := List.mem_append_right _ (List.mem_of_getElem? (i := 418) (by decide +kernel))
theorem se_X8_ride : Cond.selects RX8 yX8_ride yX8_ride ∈ lw_tbl := List.mem_append_right _ (List.mem_of_getElem? (i := 419) (by decide +kernel))
theorem ml_L_96 : Cond.methodLink RL 96 yX8_journey ∈ lw_tbl := List.mem_append_right _ (List.mem_of_getElem? (i := 948) (by decide +kernel))
theorem im_X8_journey : Cond.instanceMethod yX8_journey ∈ lw_tbl := List.mem_append_right _ (List.mem_of_getElem? (i := 949) (by decide +kernel))
theorem se_X8_journey : Cond.selects RX8 yX8_journey yX8_journey ∈ lw_tbl := List.mem_append_right _ (List.mem_of_getElem? (i := 950) (by decide +kernel))
theorem kc_L_100 : Cond.constantDouble RL 100 (13969547452852731904) ∈ lw_tbl := List.mem_append_right _ (List.mem_of_getElem? (i := 962) (by decide +kernel))
theorem kc_L_102 : Cond.constantDouble RL 102 (13969547452856926208) ∈ lw_tbl := List.mem_append_right _ (List.mem_of_getElem? (i := 963) (by decide +kernel))
theorem kc_L_104 : Cond.constantLong RL 104 (17) ∈ lw_tbl := List.mem_append_right _ (List.mem_of_getElem? (i := 191) (by decide +kernel))
theorem kc_L_106 : Cond.constantLong RL 106 (31) ∈ lw_tbl := List.mem_append_right _ (List.mem_of_getElem? (i := 192) (by decide +kernel))
theorem ml_L_108 : Cond.methodLink RL 108 yL_ride ∈ lw_tbl := List.mem_append_right _ (List.mem_of_getElem? (i := 412) (by decide +kernel))
theorem st_L_ride : Cond.static yL_ride ∈ lw_tbl := List.mem_append_right _ (List.mem_of_getElem? (i := 413) (by decide +kernel))
theorem kc_L_111 : Cond.constantLong RL 111 (127) ∈ lw_tbl := List.mem_append_right _ (List.mem_of_getElem? (i := 567) (by decide +kernel))
theorem ml_L_113 : Cond.methodLink RL 113 yL_call ∈ lw_tbl := List.mem_append_right _ (List.mem_of_getElem? (i := 602) (by decide +kernel))
theorem st_L_call : Cond.static yL_call ∈ lw_tbl := List.mem_append_right _ (List.mem_of_getElem? (i := 603) (by decide +kernel))
theorem kc_L_116 : Cond.constant RL 116 (-2000000099) ∈ lw_tbl := List.mem_append_right _ (List.mem_of_getElem? (i := 868) (by decide +kernel))
theorem ml_L_117 : Cond.methodLink RL 117 yL_some ∈ lw_tbl := List.mem_append_right _ (List.mem_of_getElem? (i := 185) (by decide +kernel))
theorem st_L_some : Cond.static yL_some ∈ lw_tbl := List.mem_append_right _ (List.mem_of_getElem? (i := 186) (by decide +kernel))
theorem ml_L_120 : Cond.methodLink RL 120 yL_both ∈ lw_tbl := List.mem_append_right _ (List.mem_of_getElem? (i := 599) (by decide +kernel))
theorem st_L_both : Cond.static yL_both ∈ lw_tbl := List.mem_append_right _ (List.mem_of_getElem? (i := 600) (by decide +kernel))
theorem ml_L_124 : Cond.methodLink RL 124 yL_trip ∈ lw_tbl := List.mem_append_right _ (List.mem_of_getElem? (i := 869) (by decide +kernel))
theorem st_L_trip : Cond.static yL_trip ∈ lw_tbl := List.mem_append_right _ (List.mem_of_getElem? (i := 870) (by decide +kernel))
theorem ml_L_126 : Cond.methodLink RL 126 yL_journey ∈ lw_tbl := List.mem_append_right _ (List.mem_of_getElem? (i := 945) (by decide +kernel))
theorem st_L_journey : Cond.static yL_journey ∈ lw_tbl := List.mem_append_right _ (List.mem_of_getElem? (i := 946) (by decide +kernel))
theorem kc_L_129 : Cond.constantDouble RL 129 (13830554455654793216) ∈ lw_tbl := List.mem_append_right _ (List.mem_of_getElem? (i := 964) (by decide +kernel))
theorem ml_L_131 : Cond.methodLink RL 131 yL_all ∈ lw_tbl := List.mem_append_right _ (List.mem_of_getElem? (i := 188) (by decide +kernel))
theorem st_L_all : Cond.static yL_all ∈ lw_tbl := List.mem_append_right _ (List.mem_of_getElem? (i := 189) (by decide +kernel))
theorem kc_L_135 : Cond.constant RL 135 (140001) ∈ lw_tbl := List.mem_append_right _ (List.mem_of_getElem? (i := 971) (by decide +kernel))
theorem cl_L_25 : Cond.classLink RL 25 RX8 ∈ lw_tbl := List.mem_append_right _ (List.mem_of_getElem? (i := 25) (by decide +kernel))
theorem ml_L_136 : Cond.methodLink RL 136 yX8_init ∈ lw_tbl := List.mem_append_right _ (List.mem_of_getElem? (i := 27) (by decide +kernel))
theorem im_X8_init : Cond.instanceMethod yX8_init ∈ lw_tbl := List.mem_append_right _ (List.mem_of_getElem? (i := 28) (by decide +kernel))
theorem ml_L_137 : Cond.methodLink RL 137 yL_refused ∈ lw_tbl := List.mem_append_right _ (List.mem_of_getElem? (i := 968) (by decide +kernel))
theorem st_L_refused : Cond.static yL_refused ∈ lw_tbl := List.mem_append_right _ (List.mem_of_getElem? (i := 969) (by decide +kernel))
theorem ml_L_141 : Cond.methodLink RL 141 yL_cell ∈ lw_tbl := List.mem_append_right _ (List.mem_of_getElem? (i := 180) (by decide +kernel))
theorem st_L_cell : Cond.static yL_cell ∈ lw_tbl := List.mem_append_right _ (List.mem_of_getElem? (i := 181) (by decide +kernel))
theorem ml_L_145 : Cond.methodLink RL 145 yL_land ∈ lw_tbl := List.mem_append_right _ (List.mem_of_getElem? (i := 596) (by decide +kernel))
theorem st_L_land : Cond.static yL_land ∈ lw_tbl := List.mem_append_right _ (List.mem_of_getElem? (i := 597) (by decide +kernel))
theorem ml_L_149 : Cond.methodLink RL 149 yL_runs ∈ lw_tbl := List.mem_append_right _ (List.mem_of_getElem? (i := 939) (by decide +kernel))
theorem st_L_runs : Cond.static yL_runs ∈ lw_tbl := List.mem_append_right _ (List.mem_of_getElem? (i := 940) (by decide +kernel))
theorem ml_L_151 : Cond.methodLink RL 151 yL_ways ∈ lw_tbl := List.mem_append_right _ (List.mem_of_getElem? (i := 942) (by decide +kernel))
theorem st_L_ways : Cond.static yL_ways ∈ lw_tbl := List.mem_append_right _ (List.mem_of_getElem? (i := 943) (by decide +kernel))
theorem ml_L_154 : Cond.methodLink RL 154 yL_bookings ∈ lw_tbl := List.mem_append_right _ (List.mem_of_getElem? (i := 965) (by decide +kernel))
theorem st_L_bookings : Cond.static yL_bookings ∈ lw_tbl := List.mem_append_right _ (List.mem_of_getElem? (i := 966) (by decide +kernel))
theorem in_1 : Cond.instantiable RX0 4 ∈ lw_tbl := by decide +kernel
theorem ini_1 : Cond.initialized RX0 ∈ lw_tbl := by decide +kernel
theorem in_2 : Cond.instantiable RX1 4 ∈ lw_tbl := by decide +kernel
theorem ini_2 : Cond.initialized RX1 ∈ lw_tbl := by decide +kernel
theorem in_3 : Cond.instantiable RX2 5 ∈ lw_tbl := by decide +kernel
theorem ini_3 : Cond.initialized RX2 ∈ lw_tbl := by decide +kernel
theorem in_4 : Cond.instantiable RX3 4 ∈ lw_tbl := by decide +kernel
theorem ini_4 : Cond.initialized RX3 ∈ lw_tbl := by decide +kernel
theorem in_5 : Cond.instantiable RX4 6 ∈ lw_tbl := by decide +kernel
theorem ini_5 : Cond.initialized RX4 ∈ lw_tbl := by decide +kernel
theorem in_6 : Cond.instantiable RX5 8 ∈ lw_tbl := by decide +kernel
theorem ini_6 : Cond.initialized RX5 ∈ lw_tbl := by decide +kernel
theorem in_7 : Cond.instantiable RX6 5 ∈ lw_tbl := by decide +kernel
theorem ini_7 : Cond.initialized RX6 ∈ lw_tbl := by decide +kernel
theorem in_8 : Cond.instantiable RX7 12 ∈ lw_tbl := by decide +kernel
theorem ini_8 : Cond.initialized RX7 ∈ lw_tbl := by decide +kernel
theorem in_9 : Cond.instantiable RX8 6 ∈ lw_tbl := by decide +kernel
theorem ini_9 : Cond.initialized RX8 ∈ lw_tbl := by decide +kernel
theorem carbon_w : Cond.fieldLinkNest RX2 59 "Connectory" "CARBON" "[I" "Connectory" ∈ lw_tbl := by decide +kernel
theorem arr_int : Cond.arrayClass .int ∈ lw_tbl := by decide +kernel
theorem arr_boolean : Cond.arrayClass .boolean ∈ lw_tbl := by decide +kernel
theorem exk_1 : Cond.classLink "Connectory" 72 cy_e1 ∈ lw_tbl := by decide +kernel
theorem exi_1 : Cond.initialized cy_e1 ∈ lw_tbl := by decide +kernel
theorem exa_1 : ∀ w ∈ Cond.classLink "Connectory" 72 cy_e1 :: Cond.initialized cy_e1 :: vx_atS "Connectory" 76 cy_e1 cy_sup, w ∈ lw_tbl ∧ cy_gw w = true ∧ vx_ot w = true := by decide +kernel
theorem exk_2 : Cond.classLink "Connectory" 57 cy_e2 ∈ lw_tbl := by decide +kernel
theorem exi_2 : Cond.initialized cy_e2 ∈ lw_tbl := by decide +kernel
theorem exa_2 : ∀ w ∈ Cond.classLink "Connectory" 57 cy_e2 :: Cond.initialized cy_e2 :: vx_atS "Connectory" 61 cy_e2 cy_sup, w ∈ lw_tbl ∧ cy_gw w = true ∧ vx_ot w = true := by decide +kernel
theorem exk_3 : Cond.classLink "Connectory" 261 cy_e3 ∈ lw_tbl := by decide +kernel
theorem exi_3 : Cond.initialized cy_e3 ∈ lw_tbl := by decide +kernel
theorem exa_3 : ∀ w ∈ Cond.classLink "Connectory" 261 cy_e3 :: Cond.initialized cy_e3 :: vx_atS "Connectory" 265 cy_e3 cy_sup, w ∈ lw_tbl ∧ cy_gw w = true ∧ vx_ot w = true := by decide +kernel
theorem exc_1 : Cond.castable cy_e1 cy_e1 ∈ lw_tbl := by decide +kernel
theorem exc_2 : Cond.castable cy_e2 cy_e2 ∈ lw_tbl := by decide +kernel
theorem exc_3 : Cond.castable cy_e3 cy_e3 ∈ lw_tbl := by decide +kernel
theorem exl_1 : Cond.classLink RL 18 cy_e1 ∈ lw_tbl := by decide +kernel
theorem exl_2 : Cond.classLink RL 21 cy_e2 ∈ lw_tbl := by decide +kernel
theorem exl_3 : Cond.classLink RL 15 cy_e3 ∈ lw_tbl := by decide +kernel
