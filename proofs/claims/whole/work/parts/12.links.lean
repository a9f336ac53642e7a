/-! ===== who may be called ===== -/
set_option maxRecDepth 100000 in
theorem lcX0_init : sk_lC 2 mX0_init := ⟨okX0_init, sk_wd (q := 358) rfl rfl, sk_wd (q := 85) (by decide +kernel) rfl, by decide, by decide, by decide, by decide, by decide +kernel⟩
set_option maxRecDepth 100000 in
theorem lcX0_foretell : sk_lC 2 mX0_foretell := ⟨okX0_foretell, sk_wd (q := 858) rfl rfl, sk_wd (q := 85) (by decide +kernel) rfl, by decide, by decide, by decide, by decide, by decide +kernel⟩
set_option maxRecDepth 100000 in
theorem lcX0_sweep : sk_lC 0 mX0_sweep := ⟨okX0_sweep, sk_wd (q := 908) rfl rfl, sk_wd (q := 85) (by decide +kernel) rfl, by decide, by decide, by decide, by decide, by decide +kernel⟩
set_option maxRecDepth 100000 in
theorem lcX0_makeCallersStale : sk_lC 1 mX0_makeCallersStale := ⟨okX0_makeCallersStale, sk_wd (q := 951) rfl rfl, sk_wd (q := 85) (by decide +kernel) rfl, by decide, by decide, by decide, by decide, by decide +kernel⟩
set_option maxRecDepth 100000 in
theorem lcX0_walkBlock : sk_lC 2 mX0_walkBlock := ⟨okX0_walkBlock, sk_wd (q := 913) rfl rfl, sk_wd (q := 85) (by decide +kernel) rfl, by decide, by decide, by decide, by decide, by decide +kernel⟩
set_option maxRecDepth 100000 in
theorem lcX0_walkStep : sk_lC 2 mX0_walkStep := ⟨okX0_walkStep, sk_wd (q := 918) rfl rfl, sk_wd (q := 85) (by decide +kernel) rfl, by decide, by decide, by decide, by decide, by decide +kernel⟩
set_option maxRecDepth 100000 in
theorem lcX0_walkAsk : sk_lC 2 mX0_walkAsk := ⟨okX0_walkAsk, sk_wd (q := 922) rfl rfl, sk_wd (q := 85) (by decide +kernel) rfl, by decide, by decide, by decide, by decide, by decide +kernel⟩
set_option maxRecDepth 100000 in
theorem lcX0_walkTry : sk_lC 2 mX0_walkTry := ⟨okX0_walkTry, sk_wd (q := 943) rfl rfl, sk_wd (q := 85) (by decide +kernel) rfl, by decide, by decide, by decide, by decide, by decide +kernel⟩
set_option maxRecDepth 100000 in
theorem lcX0_walkInner : sk_lC 2 mX0_walkInner := ⟨okX0_walkInner, sk_wd (q := 947) rfl rfl, sk_wd (q := 85) (by decide +kernel) rfl, by decide, by decide, by decide, by decide, by decide +kernel⟩
set_option maxRecDepth 100000 in
theorem lcX0_walkCall : sk_lC 1 mX0_walkCall := ⟨okX0_walkCall, sk_wd (q := 934) rfl rfl, sk_wd (q := 85) (by decide +kernel) rfl, by decide, by decide, by decide, by decide, by decide +kernel⟩
set_option maxRecDepth 100000 in
theorem lcX0_refuserOf : sk_lC 2 mX0_refuserOf := ⟨okX0_refuserOf, sk_wd (q := 926) rfl rfl, sk_wd (q := 85) (by decide +kernel) rfl, by decide, by decide, by decide, by decide, by decide +kernel⟩
set_option maxRecDepth 100000 in
theorem lcX0_refuserAt : sk_lC 2 mX0_refuserAt := ⟨okX0_refuserAt, sk_wd (q := 929) rfl rfl, sk_wd (q := 85) (by decide +kernel) rfl, by decide, by decide, by decide, by decide, by decide +kernel⟩
set_option maxRecDepth 100000 in
theorem lcX0_levelsAbove : sk_lC 1 mX0_levelsAbove := ⟨okX0_levelsAbove, sk_wd (q := 878) rfl rfl, sk_wd (q := 85) (by decide +kernel) rfl, by decide, by decide, by decide, by decide, by decide +kernel⟩
set_option maxRecDepth 100000 in
theorem lcX0_copyDown : sk_lC 1 mX0_copyDown := ⟨okX0_copyDown, sk_wd (q := 870) rfl rfl, sk_wd (q := 85) (by decide +kernel) rfl, by decide, by decide, by decide, by decide, by decide +kernel⟩
set_option maxRecDepth 100000 in
theorem lcX0_enterBlock : sk_lC 2 mX0_enterBlock := ⟨okX0_enterBlock, sk_wd (q := 938) rfl rfl, sk_wd (q := 85) (by decide +kernel) rfl, by decide, by decide, by decide, by decide, by decide +kernel⟩
set_option maxRecDepth 100000 in
theorem lcX0_change : sk_lC 4 mX0_change := ⟨okX0_change, sk_wd (q := 882) rfl rfl, sk_wd (q := 85) (by decide +kernel) rfl, by decide, by decide, by decide, by decide, by decide +kernel⟩
set_option maxRecDepth 100000 in
theorem lcX0_come : sk_lC 2 mX0_come := ⟨okX0_come, sk_wd (q := 866) rfl rfl, sk_wd (q := 85) (by decide +kernel) rfl, by decide, by decide, by decide, by decide, by decide +kernel⟩
set_option maxRecDepth 100000 in
theorem lcX0_placeInOrder : sk_lC 2 mX0_placeInOrder := ⟨okX0_placeInOrder, sk_wd (q := 889) rfl rfl, sk_wd (q := 85) (by decide +kernel) rfl, by decide, by decide, by decide, by decide, by decide +kernel⟩
set_option maxRecDepth 100000 in
theorem lcX0_compare : sk_lC 3 mX0_compare := ⟨okX0_compare, sk_wd (q := 893) rfl rfl, sk_wd (q := 85) (by decide +kernel) rfl, by decide, by decide, by decide, by decide, by decide +kernel⟩
set_option maxRecDepth 100000 in
theorem lcX0_insert : sk_lC 3 mX0_insert := ⟨okX0_insert, sk_wd (q := 897) rfl rfl, sk_wd (q := 85) (by decide +kernel) rfl, by decide, by decide, by decide, by decide, by decide +kernel⟩
set_option maxRecDepth 100000 in
theorem lcX0_rootCan : sk_lC 1 mX0_rootCan := ⟨okX0_rootCan, sk_wd (q := 963) rfl rfl, sk_wd (q := 85) (by decide +kernel) rfl, by decide, by decide, by decide, by decide, by decide +kernel⟩
set_option maxRecDepth 100000 in
theorem lcX0_methodsThatCame : sk_lC 0 mX0_methodsThatCame := ⟨okX0_methodsThatCame, sk_wd (q := 970) rfl rfl, sk_wd (q := 85) (by decide +kernel) rfl, by decide, by decide, by decide, by decide, by decide +kernel⟩
set_option maxRecDepth 100000 in
theorem lcX0_refuser : sk_lC 4 mX0_refuser := ⟨okX0_refuser, sk_wd (q := 978) rfl rfl, sk_wd (q := 85) (by decide +kernel) rfl, by decide, by decide, by decide, by decide, by decide +kernel⟩
set_option maxRecDepth 100000 in
theorem lcX1_init : sk_lC 0 mX1_init := ⟨okX1_init, sk_wd (q := 266) rfl rfl, sk_wd (q := 83) (by decide +kernel) rfl, by decide, by decide, by decide, by decide, by decide +kernel⟩
set_option maxRecDepth 100000 in
theorem lcX1_clear : sk_lC 0 mX1_clear := ⟨okX1_clear, sk_wd (q := 698) rfl rfl, sk_wd (q := 83) (by decide +kernel) rfl, by decide, by decide, by decide, by decide, by decide +kernel⟩
set_option maxRecDepth 100000 in
theorem lcX1_isEmpty : sk_lC 0 mX1_isEmpty := ⟨okX1_isEmpty, sk_wd (q := 709) rfl rfl, sk_wd (q := 83) (by decide +kernel) rfl, by decide, by decide, by decide, by decide, by decide +kernel⟩
set_option maxRecDepth 100000 in
theorem lcX1_push : sk_lC 4 mX1_push := ⟨okX1_push, sk_wd (q := 735) rfl rfl, sk_wd (q := 83) (by decide +kernel) rfl, by decide, by decide, by decide, by decide, by decide +kernel⟩
set_option maxRecDepth 100000 in
theorem lcX1_pop : sk_lC 0 mX1_pop := ⟨okX1_pop, sk_wd (q := 795) rfl rfl, sk_wd (q := 83) (by decide +kernel) rfl, by decide, by decide, by decide, by decide, by decide +kernel⟩
set_option maxRecDepth 100000 in
theorem lcX1_topRole : sk_lC 0 mX1_topRole := ⟨okX1_topRole, sk_wd (q := 783) rfl rfl, sk_wd (q := 83) (by decide +kernel) rfl, by decide, by decide, by decide, by decide, by decide +kernel⟩
set_option maxRecDepth 100000 in
theorem lcX1_topOpener : sk_lC 0 mX1_topOpener := ⟨okX1_topOpener, sk_wd (q := 787) rfl rfl, sk_wd (q := 83) (by decide +kernel) rfl, by decide, by decide, by decide, by decide, by decide +kernel⟩
set_option maxRecDepth 100000 in
theorem lcX1_topNext : sk_lC 0 mX1_topNext := ⟨okX1_topNext, sk_wd (q := 739) rfl rfl, sk_wd (q := 83) (by decide +kernel) rfl, by decide, by decide, by decide, by decide, by decide +kernel⟩
set_option maxRecDepth 100000 in
theorem lcX1_topStack : sk_lC 0 mX1_topStack := ⟨okX1_topStack, sk_wd (q := 752) rfl rfl, sk_wd (q := 83) (by decide +kernel) rfl, by decide, by decide, by decide, by decide, by decide +kernel⟩
set_option maxRecDepth 100000 in
theorem lcX1_topTimesLeft : sk_lC 0 mX1_topTimesLeft := ⟨okX1_topTimesLeft, sk_wd (q := 836) rfl rfl, sk_wd (q := 83) (by decide +kernel) rfl, by decide, by decide, by decide, by decide, by decide +kernel⟩
set_option maxRecDepth 100000 in
theorem lcX1_goTo : sk_lC 1 mX1_goTo := ⟨okX1_goTo, sk_wd (q := 748) rfl rfl, sk_wd (q := 83) (by decide +kernel) rfl, by decide, by decide, by decide, by decide, by decide +kernel⟩
set_option maxRecDepth 100000 in
theorem lcX1_setTimesLeft : sk_lC 1 mX1_setTimesLeft := ⟨okX1_setTimesLeft, sk_wd (q := 819) rfl rfl, sk_wd (q := 83) (by decide +kernel) rfl, by decide, by decide, by decide, by decide, by decide +kernel⟩
set_option maxRecDepth 100000 in
theorem lcX2_init : sk_lC 0 mX2_init := ⟨okX2_init, sk_wd (q := 137) rfl rfl, sk_wd (q := 79) (by decide +kernel) rfl, by decide, by decide, by decide, by decide, by decide +kernel⟩
set_option maxRecDepth 100000 in
theorem lcX2_clear : sk_lC 0 mX2_clear := ⟨okX2_clear, sk_wd (q := 484) rfl rfl, sk_wd (q := 79) (by decide +kernel) rfl, by decide, by decide, by decide, by decide, by decide +kernel⟩
set_option maxRecDepth 100000 in
theorem lcX2_addMethod : sk_lC 1 mX2_addMethod := ⟨okX2_addMethod, sk_wd (q := 594) rfl rfl, sk_wd (q := 79) (by decide +kernel) rfl, by decide, by decide, by decide, by decide, by decide +kernel⟩
set_option maxRecDepth 100000 in
theorem lcX2_addStep : sk_lC 1 mX2_addStep := ⟨okX2_addStep, sk_wd (q := 608) rfl rfl, sk_wd (q := 79) (by decide +kernel) rfl, by decide, by decide, by decide, by decide, by decide +kernel⟩
set_option maxRecDepth 100000 in
theorem lcX2_ownerOf : sk_lC 1 mX2_ownerOf := ⟨okX2_ownerOf, sk_wd (q := 769) rfl rfl, sk_wd (q := 79) (by decide +kernel) rfl, by decide, by decide, by decide, by decide, by decide +kernel⟩
set_option maxRecDepth 100000 in
theorem lcX2_startOf : sk_lC 1 mX2_startOf := ⟨okX2_startOf, sk_wd (q := 722) rfl rfl, sk_wd (q := 79) (by decide +kernel) rfl, by decide, by decide, by decide, by decide, by decide +kernel⟩
set_option maxRecDepth 100000 in
theorem lcX2_hasStep : sk_lC 1 mX2_hasStep := ⟨okX2_hasStep, sk_wd (q := 612) rfl rfl, sk_wd (q := 79) (by decide +kernel) rfl, by decide, by decide, by decide, by decide, by decide +kernel⟩
set_option maxRecDepth 100000 in
theorem lcX2_countOf : sk_lC 1 mX2_countOf := ⟨okX2_countOf, sk_wd (q := 673) rfl rfl, sk_wd (q := 79) (by decide +kernel) rfl, by decide, by decide, by decide, by decide, by decide +kernel⟩
set_option maxRecDepth 100000 in
theorem lcX2_canBeForetold : sk_lC 0 mX2_canBeForetold := ⟨okX2_canBeForetold, sk_wd (q := 853) rfl rfl, sk_wd (q := 79) (by decide +kernel) rfl, by decide, by decide, by decide, by decide, by decide +kernel⟩
set_option maxRecDepth 100000 in
theorem lcX3_init : sk_lC 1 mX3_init := ⟨okX3_init, sk_wd (q := 214) rfl rfl, sk_wd (q := 80) (by decide +kernel) rfl, by decide, by decide, by decide, by decide, by decide +kernel⟩
set_option maxRecDepth 100000 in
theorem lcX3_readInto : sk_lC 2 mX3_readInto := ⟨okX3_readInto, sk_wd (q := 480) rfl rfl, sk_wd (q := 80) (by decide +kernel) rfl, by decide, by decide, by decide, by decide, by decide +kernel⟩
set_option maxRecDepth 100000 in
theorem lcX3_broken : sk_lC 2 mX3_broken := ⟨okX3_broken, sk_wd (q := 586) rfl rfl, sk_wd (q := 80) (by decide +kernel) rfl, by decide, by decide, by decide, by decide, by decide +kernel⟩
set_option maxRecDepth 100000 in
theorem lcX3_readMethod : sk_lC 0 mX3_readMethod := ⟨okX3_readMethod, sk_wd (q := 574) rfl rfl, sk_wd (q := 80) (by decide +kernel) rfl, by decide, by decide, by decide, by decide, by decide +kernel⟩
set_option maxRecDepth 100000 in
theorem lcX3_take : sk_lC 1 mX3_take := ⟨okX3_take, sk_wd (q := 578) rfl rfl, sk_wd (q := 80) (by decide +kernel) rfl, by decide, by decide, by decide, by decide, by decide +kernel⟩
set_option maxRecDepth 100000 in
theorem lcX3_readNumber : sk_lC 1 mX3_readNumber := ⟨okX3_readNumber, sk_wd (q := 590) rfl rfl, sk_wd (q := 80) (by decide +kernel) rfl, by decide, by decide, by decide, by decide, by decide +kernel⟩
set_option maxRecDepth 100000 in
theorem lcX3_readBlock : sk_lC 1 mX3_readBlock := ⟨okX3_readBlock, sk_wd (q := 599) rfl rfl, sk_wd (q := 80) (by decide +kernel) rfl, by decide, by decide, by decide, by decide, by decide +kernel⟩
set_option maxRecDepth 100000 in
theorem lcX3_readStep : sk_lC 1 mX3_readStep := ⟨okX3_readStep, sk_wd (q := 604) rfl rfl, sk_wd (q := 80) (by decide +kernel) rfl, by decide, by decide, by decide, by decide, by decide +kernel⟩
set_option maxRecDepth 100000 in
theorem lcX3_readNumbers : sk_lC 2 mX3_readNumbers := ⟨okX3_readNumbers, sk_wd (q := 616) rfl rfl, sk_wd (q := 80) (by decide +kernel) rfl, by decide, by decide, by decide, by decide, by decide +kernel⟩
set_option maxRecDepth 100000 in
theorem lcX3_readRest : sk_lC 3 mX3_readRest := ⟨okX3_readRest, sk_wd (q := 625) rfl rfl, sk_wd (q := 80) (by decide +kernel) rfl, by decide, by decide, by decide, by decide, by decide +kernel⟩
set_option maxRecDepth 100000 in
theorem lcX3_allMethodsAreThere : sk_lC 0 mX3_allMethodsAreThere := ⟨okX3_allMethodsAreThere, sk_wd (q := 631) rfl rfl, sk_wd (q := 80) (by decide +kernel) rfl, by decide, by decide, by decide, by decide, by decide +kernel⟩
set_option maxRecDepth 100000 in
theorem lcX4_init : sk_lC 1 mX4_init := ⟨okX4_init, sk_wd (q := 104) rfl rfl, sk_wd (q := 75) (by decide +kernel) rfl, by decide, by decide, by decide, by decide, by decide +kernel⟩
set_option maxRecDepth 100000 in
theorem lcX4_hasRoomFor : sk_lC 1 mX4_hasRoomFor := ⟨okX4_hasRoomFor, sk_wd (q := 449) rfl rfl, sk_wd (q := 75) (by decide +kernel) rfl, by decide, by decide, by decide, by decide, by decide +kernel⟩
set_option maxRecDepth 100000 in
theorem lcX4_add : sk_lC 1 mX4_add := ⟨okX4_add, sk_wd (q := 457) rfl rfl, sk_wd (q := 75) (by decide +kernel) rfl, by decide, by decide, by decide, by decide, by decide +kernel⟩
set_option maxRecDepth 100000 in
theorem lcX4_at : sk_lC 1 mX4_at := ⟨okX4_at, sk_wd (q := 492) rfl rfl, sk_wd (q := 75) (by decide +kernel) rfl, by decide, by decide, by decide, by decide, by decide +kernel⟩
set_option maxRecDepth 100000 in
theorem lcX4_cutTo : sk_lC 1 mX4_cutTo := ⟨okX4_cutTo, sk_wd (q := 469) rfl rfl, sk_wd (q := 75) (by decide +kernel) rfl, by decide, by decide, by decide, by decide, by decide +kernel⟩
set_option maxRecDepth 100000 in
theorem lcX5_init : sk_lC 0 mX5_init := ⟨okX5_init, sk_wd (q := 124) rfl rfl, sk_wd (q := 77) (by decide +kernel) rfl, by decide, by decide, by decide, by decide, by decide +kernel⟩
set_option maxRecDepth 100000 in
theorem lcX5_of : sk_lC 2 mX5_of := ⟨okX5_of, sk_wd (q := 652) rfl rfl, sk_wd (q := 77) (by decide +kernel) rfl, by decide, by decide, by decide, by decide, by decide +kernel⟩
set_option maxRecDepth 100000 in
theorem lcX5_replace : sk_lC 3 mX5_replace := ⟨okX5_replace, sk_wd (q := 648) rfl rfl, sk_wd (q := 77) (by decide +kernel) rfl, by decide, by decide, by decide, by decide, by decide +kernel⟩
set_option maxRecDepth 100000 in
theorem lcX5_given : sk_lC 0 mX5_given := ⟨okX5_given, sk_wd (q := 986) rfl rfl, sk_wd (q := 77) (by decide +kernel) rfl, by decide, by decide, by decide, by decide, by decide +kernel⟩
set_option maxRecDepth 100000 in
theorem lcX6_init : sk_lC 4 mX6_init := ⟨okX6_init, sk_wd (q := 260) rfl rfl, sk_wd (q := 82) (by decide +kernel) rfl, by decide, by decide, by decide, by decide, by decide +kernel⟩
set_option maxRecDepth 100000 in
theorem lcX6_execute : sk_lC 3 mX6_execute := ⟨okX6_execute, sk_wd (q := 685) rfl rfl, sk_wd (q := 82) (by decide +kernel) rfl, by decide, by decide, by decide, by decide, by decide +kernel⟩
set_option maxRecDepth 100000 in
theorem lcX6_begin : sk_lC 2 mX6_begin := ⟨okX6_begin, sk_wd (q := 689) rfl rfl, sk_wd (q := 82) (by decide +kernel) rfl, by decide, by decide, by decide, by decide, by decide +kernel⟩
set_option maxRecDepth 100000 in
theorem lcX6_beginJob : sk_lC 0 mX6_beginJob := ⟨okX6_beginJob, sk_wd (q := 713) rfl rfl, sk_wd (q := 82) (by decide +kernel) rfl, by decide, by decide, by decide, by decide, by decide +kernel⟩
set_option maxRecDepth 100000 in
theorem lcX6_putOff : sk_lC 2 mX6_putOff := ⟨okX6_putOff, sk_wd (q := 703) rfl rfl, sk_wd (q := 82) (by decide +kernel) rfl, by decide, by decide, by decide, by decide, by decide +kernel⟩
set_option maxRecDepth 100000 in
theorem lcX6_openMethod : sk_lC 2 mX6_openMethod := ⟨okX6_openMethod, sk_wd (q := 717) rfl rfl, sk_wd (q := 82) (by decide +kernel) rfl, by decide, by decide, by decide, by decide, by decide +kernel⟩
set_option maxRecDepth 100000 in
theorem lcX6_endBlock : sk_lC 0 mX6_endBlock := ⟨okX6_endBlock, sk_wd (q := 832) rfl rfl, sk_wd (q := 82) (by decide +kernel) rfl, by decide, by decide, by decide, by decide, by decide +kernel⟩
set_option maxRecDepth 100000 in
theorem lcX6_closeBlock : sk_lC 0 mX6_closeBlock := ⟨okX6_closeBlock, sk_wd (q := 791) rfl rfl, sk_wd (q := 82) (by decide +kernel) rfl, by decide, by decide, by decide, by decide, by decide +kernel⟩
set_option maxRecDepth 100000 in
theorem lcX6_beginTurn : sk_lC 1 mX6_beginTurn := ⟨okX6_beginTurn, sk_wd (q := 744) rfl rfl, sk_wd (q := 82) (by decide +kernel) rfl, by decide, by decide, by decide, by decide, by decide +kernel⟩
set_option maxRecDepth 100000 in
theorem lcX6_doStep : sk_lC 3 mX6_doStep := ⟨okX6_doStep, sk_wd (q := 756) rfl rfl, sk_wd (q := 82) (by decide +kernel) rfl, by decide, by decide, by decide, by decide, by decide +kernel⟩
set_option maxRecDepth 100000 in
theorem lcX6_open : sk_lC 3 mX6_open := ⟨okX6_open, sk_wd (q := 799) rfl rfl, sk_wd (q := 82) (by decide +kernel) rfl, by decide, by decide, by decide, by decide, by decide +kernel⟩
set_option maxRecDepth 100000 in
theorem lcX6_judge : sk_lC 2 mX6_judge := ⟨okX6_judge, sk_wd (q := 760) rfl rfl, sk_wd (q := 82) (by decide +kernel) rfl, by decide, by decide, by decide, by decide, by decide +kernel⟩
set_option maxRecDepth 100000 in
theorem lcX6_failIfRefused : sk_lC 2 mX6_failIfRefused := ⟨okX6_failIfRefused, sk_wd (q := 774) rfl rfl, sk_wd (q := 82) (by decide +kernel) rfl, by decide, by decide, by decide, by decide, by decide +kernel⟩
set_option maxRecDepth 100000 in
theorem lcX6_keep : sk_lC 2 mX6_keep := ⟨okX6_keep, sk_wd (q := 807) rfl rfl, sk_wd (q := 82) (by decide +kernel) rfl, by decide, by decide, by decide, by decide, by decide +kernel⟩
set_option maxRecDepth 100000 in
theorem lcX6_under : sk_lC 2 mX6_under := ⟨okX6_under, sk_wd (q := 811) rfl rfl, sk_wd (q := 82) (by decide +kernel) rfl, by decide, by decide, by decide, by decide, by decide +kernel⟩
set_option maxRecDepth 100000 in
theorem lcX6_repeat : sk_lC 3 mX6_repeat := ⟨okX6_repeat, sk_wd (q := 815) rfl rfl, sk_wd (q := 82) (by decide +kernel) rfl, by decide, by decide, by decide, by decide, by decide +kernel⟩
set_option maxRecDepth 100000 in
theorem lcX6_takeBit : sk_lC 0 mX6_takeBit := ⟨okX6_takeBit, sk_wd (q := 823) rfl rfl, sk_wd (q := 82) (by decide +kernel) rfl, by decide, by decide, by decide, by decide, by decide +kernel⟩
set_option maxRecDepth 100000 in
theorem lcX6_goBack : sk_lC 0 mX6_goBack := ⟨okX6_goBack, sk_wd (q := 828) rfl rfl, sk_wd (q := 82) (by decide +kernel) rfl, by decide, by decide, by decide, by decide, by decide +kernel⟩
set_option maxRecDepth 100000 in
theorem lcX6_fail : sk_lC 2 mX6_fail := ⟨okX6_fail, sk_wd (q := 778) rfl rfl, sk_wd (q := 82) (by decide +kernel) rfl, by decide, by decide, by decide, by decide, by decide +kernel⟩
set_option maxRecDepth 100000 in
theorem lcX7_init : sk_lC 2 mX7_init := ⟨okX7_init, sk_wd (q := 291) rfl rfl, sk_wd (q := 84) (by decide +kernel) rfl, by decide, by decide, by decide, by decide, by decide +kernel⟩
set_option maxRecDepth 100000 in
theorem lcX7_clear : sk_lC 1 mX7_clear := ⟨okX7_clear, sk_wd (q := 694) rfl rfl, sk_wd (q := 84) (by decide +kernel) rfl, by decide, by decide, by decide, by decide, by decide +kernel⟩
set_option maxRecDepth 100000 in
theorem lcX7_withMethod : sk_lC 2 mX7_withMethod := ⟨okX7_withMethod, sk_wd (q := 726) rfl rfl, sk_wd (q := 84) (by decide +kernel) rfl, by decide, by decide, by decide, by decide, by decide +kernel⟩
set_option maxRecDepth 100000 in
theorem lcX7_withBlock : sk_lC 2 mX7_withBlock := ⟨okX7_withBlock, sk_wd (q := 803) rfl rfl, sk_wd (q := 84) (by decide +kernel) rfl, by decide, by decide, by decide, by decide, by decide +kernel⟩
set_option maxRecDepth 100000 in
theorem lcX7_add : sk_lC 2 mX7_add := ⟨okX7_add, sk_wd (q := 730) rfl rfl, sk_wd (q := 84) (by decide +kernel) rfl, by decide, by decide, by decide, by decide, by decide +kernel⟩
set_option maxRecDepth 100000 in
theorem lcX7_refuser : sk_lC 3 mX7_refuser := ⟨okX7_refuser, sk_wd (q := 764) rfl rfl, sk_wd (q := 84) (by decide +kernel) rfl, by decide, by decide, by decide, by decide, by decide +kernel⟩
set_option maxRecDepth 100000 in
theorem lcX8_init : sk_lC 0 mX8_init := ⟨okX8_init, sk_wd (q := 220) rfl rfl, sk_wd (q := 81) (by decide +kernel) rfl, by decide, by decide, by decide, by decide, by decide +kernel⟩
set_option maxRecDepth 100000 in
theorem lcX8_cut : sk_lC 1 mX8_cut := ⟨okX8_cut, sk_wd (q := 488) rfl rfl, sk_wd (q := 81) (by decide +kernel) rfl, by decide, by decide, by decide, by decide, by decide +kernel⟩
set_option maxRecDepth 100000 in
theorem lcX8_tokenAt : sk_lC 1 mX8_tokenAt := ⟨okX8_tokenAt, sk_wd (q := 582) rfl rfl, sk_wd (q := 81) (by decide +kernel) rfl, by decide, by decide, by decide, by decide, by decide +kernel⟩
set_option maxRecDepth 100000 in
theorem lcX8_placeOf : sk_lC 1 mX8_placeOf := ⟨okX8_placeOf, sk_wd (q := 635) rfl rfl, sk_wd (q := 81) (by decide +kernel) rfl, by decide, by decide, by decide, by decide, by decide +kernel⟩
set_option maxRecDepth 100000 in
theorem lcX8_add : sk_lC 2 mX8_add := ⟨okX8_add, sk_wd (q := 558) rfl rfl, sk_wd (q := 81) (by decide +kernel) rfl, by decide, by decide, by decide, by decide, by decide +kernel⟩
set_option maxRecDepth 100000 in
theorem lcX8_isLetter : sk_lC 1 mX8_isLetter := ⟨okX8_isLetter, sk_wd (q := 495) rfl rfl, sk_wd (q := 81) (by decide +kernel) rfl, by decide, by decide, by decide, by decide, by decide +kernel⟩
set_option maxRecDepth 100000 in
theorem lcX8_isDigit : sk_lC 1 mX8_isDigit := ⟨okX8_isDigit, sk_wd (q := 561) rfl rfl, sk_wd (q := 81) (by decide +kernel) rfl, by decide, by decide, by decide, by decide, by decide +kernel⟩
set_option maxRecDepth 100000 in
theorem lcX8_endOfWord : sk_lC 2 mX8_endOfWord := ⟨okX8_endOfWord, sk_wd (q := 498) rfl rfl, sk_wd (q := 81) (by decide +kernel) rfl, by decide, by decide, by decide, by decide, by decide +kernel⟩
set_option maxRecDepth 100000 in
theorem lcX8_endOfNumber : sk_lC 2 mX8_endOfNumber := ⟨okX8_endOfNumber, sk_wd (q := 564) rfl rfl, sk_wd (q := 81) (by decide +kernel) rfl, by decide, by decide, by decide, by decide, by decide +kernel⟩
set_option maxRecDepth 100000 in
theorem lcX8_wordOf : sk_lC 3 mX8_wordOf := ⟨okX8_wordOf, sk_wd (q := 501) rfl rfl, sk_wd (q := 81) (by decide +kernel) rfl, by decide, by decide, by decide, by decide, by decide +kernel⟩
set_option maxRecDepth 100000 in
theorem lcX8_isWord : sk_lC 4 mX8_isWord := ⟨okX8_isWord, sk_wd (q := 504) rfl rfl, sk_wd (q := 81) (by decide +kernel) rfl, by decide, by decide, by decide, by decide, by decide +kernel⟩
set_option maxRecDepth 100000 in
theorem lcX8_numberOf : sk_lC 3 mX8_numberOf := ⟨okX8_numberOf, sk_wd (q := 567) rfl rfl, sk_wd (q := 81) (by decide +kernel) rfl, by decide, by decide, by decide, by decide, by decide +kernel⟩
set_option maxRecDepth 100000 in
theorem lcX8_signOf : sk_lC 1 mX8_signOf := ⟨okX8_signOf, sk_wd (q := 570) rfl rfl, sk_wd (q := 81) (by decide +kernel) rfl, by decide, by decide, by decide, by decide, by decide +kernel⟩
set_option maxRecDepth 100000 in
theorem lcX9_init : sk_lC 0 mX9_init := ⟨okX9_init, sk_wd (q := 96) rfl rfl, sk_wd (q := 74) (by decide +kernel) rfl, by decide, by decide, by decide, by decide, by decide +kernel⟩
set_option maxRecDepth 100000 in
theorem lcX9_feed : sk_lC 5 mX9_feed := ⟨okX9_feed, sk_wd (q := 445) rfl rfl, sk_wd (q := 74) (by decide +kernel) rfl, by decide, by decide, by decide, by decide, by decide +kernel⟩
set_option maxRecDepth 100000 in
theorem lcX9_addBytes : sk_lC 1 mX9_addBytes := ⟨okX9_addBytes, sk_wd (q := 453) rfl rfl, sk_wd (q := 74) (by decide +kernel) rfl, by decide, by decide, by decide, by decide, by decide +kernel⟩
set_option maxRecDepth 100000 in
theorem lcX9_trim : sk_lC 1 mX9_trim := ⟨okX9_trim, sk_wd (q := 464) rfl rfl, sk_wd (q := 74) (by decide +kernel) rfl, by decide, by decide, by decide, by decide, by decide +kernel⟩
set_option maxRecDepth 100000 in
theorem lcX9_program : sk_lC 0 mX9_program := ⟨okX9_program, sk_wd (q := 476) rfl rfl, sk_wd (q := 74) (by decide +kernel) rfl, by decide, by decide, by decide, by decide, by decide +kernel⟩
set_option maxRecDepth 100000 in
theorem lcX9_fault : sk_lC 0 mX9_fault := ⟨okX9_fault, sk_wd (q := 640) rfl rfl, sk_wd (q := 74) (by decide +kernel) rfl, by decide, by decide, by decide, by decide, by decide +kernel⟩
set_option maxRecDepth 100000 in
theorem lcX9_rule : sk_lC 3 mX9_rule := ⟨okX9_rule, sk_wd (q := 644) rfl rfl, sk_wd (q := 74) (by decide +kernel) rfl, by decide, by decide, by decide, by decide, by decide +kernel⟩
set_option maxRecDepth 100000 in
theorem lcX9_bits : sk_lC 2 mX9_bits := ⟨okX9_bits, sk_wd (q := 657) rfl rfl, sk_wd (q := 74) (by decide +kernel) rfl, by decide, by decide, by decide, by decide, by decide +kernel⟩
set_option maxRecDepth 100000 in
theorem lcX9_forget : sk_lC 0 mX9_forget := ⟨okX9_forget, sk_wd (q := 661) rfl rfl, sk_wd (q := 74) (by decide +kernel) rfl, by decide, by decide, by decide, by decide, by decide +kernel⟩
set_option maxRecDepth 100000 in
theorem lcX9_about : sk_lC 1 mX9_about := ⟨okX9_about, sk_wd (q := 665) rfl rfl, sk_wd (q := 74) (by decide +kernel) rfl, by decide, by decide, by decide, by decide, by decide +kernel⟩
set_option maxRecDepth 100000 in
theorem lcX9_step : sk_lC 2 mX9_step := ⟨okX9_step, sk_wd (q := 677) rfl rfl, sk_wd (q := 74) (by decide +kernel) rfl, by decide, by decide, by decide, by decide, by decide +kernel⟩
set_option maxRecDepth 100000 in
theorem lcX9_run : sk_lC 2 mX9_run := ⟨okX9_run, sk_wd (q := 681) rfl rfl, sk_wd (q := 74) (by decide +kernel) rfl, by decide, by decide, by decide, by decide, by decide +kernel⟩
set_option maxRecDepth 100000 in
theorem lcX9_ran : sk_lC 1 mX9_ran := ⟨okX9_ran, sk_wd (q := 840) rfl rfl, sk_wd (q := 74) (by decide +kernel) rfl, by decide, by decide, by decide, by decide, by decide +kernel⟩
set_option maxRecDepth 100000 in
theorem lcX9_note : sk_lC 1 mX9_note := ⟨okX9_note, sk_wd (q := 844) rfl rfl, sk_wd (q := 74) (by decide +kernel) rfl, by decide, by decide, by decide, by decide, by decide +kernel⟩
set_option maxRecDepth 100000 in
theorem lcX9_ahead : sk_lC 1 mX9_ahead := ⟨okX9_ahead, sk_wd (q := 849) rfl rfl, sk_wd (q := 74) (by decide +kernel) rfl, by decide, by decide, by decide, by decide, by decide +kernel⟩
set_option maxRecDepth 100000 in
theorem lcX9_walked : sk_lC 2 mX9_walked := ⟨okX9_walked, sk_wd (q := 955) rfl rfl, sk_wd (q := 74) (by decide +kernel) rfl, by decide, by decide, by decide, by decide, by decide +kernel⟩
set_option maxRecDepth 100000 in
theorem lcX9_told : sk_lC 1 mX9_told := ⟨okX9_told, sk_wd (q := 959) rfl rfl, sk_wd (q := 74) (by decide +kernel) rfl, by decide, by decide, by decide, by decide, by decide +kernel⟩
set_option maxRecDepth 100000 in
theorem lcX9_pair : sk_lC 4 mX9_pair := ⟨okX9_pair, sk_wd (q := 974) rfl rfl, sk_wd (q := 74) (by decide +kernel) rfl, by decide, by decide, by decide, by decide, by decide +kernel⟩
set_option maxRecDepth 100000 in
theorem lcX9_count : sk_lC 1 mX9_count := ⟨okX9_count, sk_wd (q := 982) rfl rfl, sk_wd (q := 74) (by decide +kernel) rfl, by decide, by decide, by decide, by decide, by decide +kernel⟩
set_option maxRecDepth 100000 in
theorem lcX9_hasProgram : sk_lC 0 mX9_hasProgram := ⟨okX9_hasProgram, sk_wd (q := 669) rfl rfl, sk_wd (q := 74) (by decide +kernel) rfl, by decide, by decide, by decide, by decide, by decide +kernel⟩
set_option maxRecDepth 100000 in
theorem lcX9_within : sk_lC 2 mX9_within := ⟨okX9_within, sk_wd (q := 460) rfl rfl, sk_wd (q := 74) (by decide +kernel) rfl, by decide, by decide, by decide, by decide, by decide +kernel⟩
set_option maxRecDepth 100000 in
theorem lcX9_sum : sk_lC 1 mX9_sum := ⟨okX9_sum, sk_wd (q := 966) rfl rfl, sk_wd (q := 74) (by decide +kernel) rfl, by decide, by decide, by decide, by decide, by decide +kernel⟩
set_option maxRecDepth 100000 in
theorem lcX10_init : sk_lC 0 mX10_init := ⟨okX10_init, sk_wd (q := 991) rfl rfl, sk_wd (q := 86) (by decide +kernel) rfl, by decide, by decide, by decide, by decide, by decide +kernel⟩
set_option maxRecDepth 100000 in
theorem lcX10_in : sk_lC 3 mX10_in := ⟨okX10_in, sk_wd (q := 1242) rfl rfl, sk_wd (q := 86) (by decide +kernel) rfl, by decide, by decide, by decide, by decide, by decide +kernel⟩
set_option maxRecDepth 100000 in
theorem lcX10_feed : sk_lC 5 mX10_feed := ⟨okX10_feed, sk_wd (q := 1231) rfl rfl, sk_wd (q := 86) (by decide +kernel) rfl, by decide, by decide, by decide, by decide, by decide +kernel⟩
set_option maxRecDepth 100000 in
theorem lcX10_four : sk_lC 1 mX10_four := ⟨okX10_four, sk_wd (q := 1235) rfl rfl, sk_wd (q := 86) (by decide +kernel) rfl, by decide, by decide, by decide, by decide, by decide +kernel⟩
set_option maxRecDepth 100000 in
theorem lcX10_trim : sk_lC 1 mX10_trim := ⟨okX10_trim, sk_wd (q := 1239) rfl rfl, sk_wd (q := 86) (by decide +kernel) rfl, by decide, by decide, by decide, by decide, by decide +kernel⟩
set_option maxRecDepth 100000 in
theorem lcX10_rule : sk_lC 3 mX10_rule := ⟨okX10_rule, sk_wd (q := 1246) rfl rfl, sk_wd (q := 86) (by decide +kernel) rfl, by decide, by decide, by decide, by decide, by decide +kernel⟩
set_option maxRecDepth 100000 in
theorem lcX10_hasRight : sk_lC 3 mX10_hasRight := ⟨okX10_hasRight, sk_wd (q := 1346) rfl rfl, sk_wd (q := 86) (by decide +kernel) rfl, by decide, by decide, by decide, by decide, by decide +kernel⟩
set_option maxRecDepth 100000 in
theorem lcX10_bits : sk_lC 2 mX10_bits := ⟨okX10_bits, sk_wd (q := 1250) rfl rfl, sk_wd (q := 86) (by decide +kernel) rfl, by decide, by decide, by decide, by decide, by decide +kernel⟩
set_option maxRecDepth 100000 in
theorem lcX10_forget : sk_lC 0 mX10_forget := ⟨okX10_forget, sk_wd (q := 1254) rfl rfl, sk_wd (q := 86) (by decide +kernel) rfl, by decide, by decide, by decide, by decide, by decide +kernel⟩
set_option maxRecDepth 100000 in
theorem lcX10_isSmall : sk_lC 1 mX10_isSmall := ⟨okX10_isSmall, sk_wd (q := 1265) rfl rfl, sk_wd (q := 86) (by decide +kernel) rfl, by decide, by decide, by decide, by decide, by decide +kernel⟩
set_option maxRecDepth 100000 in
theorem lcX10_isDigit : sk_lC 1 mX10_isDigit := ⟨okX10_isDigit, sk_wd (q := 1274) rfl rfl, sk_wd (q := 86) (by decide +kernel) rfl, by decide, by decide, by decide, by decide, by decide +kernel⟩
set_option maxRecDepth 100000 in
theorem lcX10_wordOf : sk_lC 0 mX10_wordOf := ⟨okX10_wordOf, sk_wd (q := 1269) rfl rfl, sk_wd (q := 86) (by decide +kernel) rfl, by decide, by decide, by decide, by decide, by decide +kernel⟩
set_option maxRecDepth 100000 in
theorem lcX10_next : sk_lC 0 mX10_next := ⟨okX10_next, sk_wd (q := 1262) rfl rfl, sk_wd (q := 86) (by decide +kernel) rfl, by decide, by decide, by decide, by decide, by decide +kernel⟩
set_option maxRecDepth 100000 in
theorem lcX10_wrong : sk_lC 1 mX10_wrong := ⟨okX10_wrong, sk_wd (q := 1278) rfl rfl, sk_wd (q := 86) (by decide +kernel) rfl, by decide, by decide, by decide, by decide, by decide +kernel⟩
set_option maxRecDepth 100000 in
theorem lcX10_must : sk_lC 1 mX10_must := ⟨okX10_must, sk_wd (q := 1282) rfl rfl, sk_wd (q := 86) (by decide +kernel) rfl, by decide, by decide, by decide, by decide, by decide +kernel⟩
set_option maxRecDepth 100000 in
theorem lcX10_numberTo : sk_lC 1 mX10_numberTo := ⟨okX10_numberTo, sk_wd (q := 1286) rfl rfl, sk_wd (q := 86) (by decide +kernel) rfl, by decide, by decide, by decide, by decide, by decide +kernel⟩
set_option maxRecDepth 100000 in
theorem lcX10_block : sk_lC 1 mX10_block := ⟨okX10_block, sk_wd (q := 1290) rfl rfl, sk_wd (q := 86) (by decide +kernel) rfl, by decide, by decide, by decide, by decide, by decide +kernel⟩
set_option maxRecDepth 100000 in
theorem lcX10_step : sk_lC 1 mX10_step := ⟨okX10_step, sk_wd (q := 1294) rfl rfl, sk_wd (q := 86) (by decide +kernel) rfl, by decide, by decide, by decide, by decide, by decide +kernel⟩
set_option maxRecDepth 100000 in
theorem lcX10_program : sk_lC 0 mX10_program := ⟨okX10_program, sk_wd (q := 1258) rfl rfl, sk_wd (q := 86) (by decide +kernel) rfl, by decide, by decide, by decide, by decide, by decide +kernel⟩
set_option maxRecDepth 100000 in
theorem lcX10_fault : sk_lC 0 mX10_fault := ⟨okX10_fault, sk_wd (q := 1298) rfl rfl, sk_wd (q := 86) (by decide +kernel) rfl, by decide, by decide, by decide, by decide, by decide +kernel⟩
set_option maxRecDepth 100000 in
theorem lcX10_about : sk_lC 1 mX10_about := ⟨okX10_about, sk_wd (q := 1302) rfl rfl, sk_wd (q := 86) (by decide +kernel) rfl, by decide, by decide, by decide, by decide, by decide +kernel⟩
set_option maxRecDepth 100000 in
theorem lcX10_step_ : sk_lC 2 mX10_step_ := ⟨okX10_step_, sk_wd (q := 1306) rfl rfl, sk_wd (q := 86) (by decide +kernel) rfl, by decide, by decide, by decide, by decide, by decide +kernel⟩
set_option maxRecDepth 100000 in
theorem lcX10_enter : sk_lC 4 mX10_enter := ⟨okX10_enter, sk_wd (q := 1326) rfl rfl, sk_wd (q := 86) (by decide +kernel) rfl, by decide, by decide, by decide, by decide, by decide +kernel⟩
set_option maxRecDepth 100000 in
theorem lcX10_judge : sk_lC 3 mX10_judge := ⟨okX10_judge, sk_wd (q := 1342) rfl rfl, sk_wd (q := 86) (by decide +kernel) rfl, by decide, by decide, by decide, by decide, by decide +kernel⟩
set_option maxRecDepth 100000 in
theorem lcX10_open : sk_lC 4 mX10_open := ⟨okX10_open, sk_wd (q := 1322) rfl rfl, sk_wd (q := 86) (by decide +kernel) rfl, by decide, by decide, by decide, by decide, by decide +kernel⟩
set_option maxRecDepth 100000 in
theorem lcX10_openMethod : sk_lC 2 mX10_openMethod := ⟨okX10_openMethod, sk_wd (q := 1318) rfl rfl, sk_wd (q := 86) (by decide +kernel) rfl, by decide, by decide, by decide, by decide, by decide +kernel⟩
set_option maxRecDepth 100000 in
theorem lcX10_close : sk_lC 0 mX10_close := ⟨okX10_close, sk_wd (q := 1334) rfl rfl, sk_wd (q := 86) (by decide +kernel) rfl, by decide, by decide, by decide, by decide, by decide +kernel⟩
set_option maxRecDepth 100000 in
theorem lcX10_say : sk_lC 1 mX10_say := ⟨okX10_say, sk_wd (q := 1354) rfl rfl, sk_wd (q := 86) (by decide +kernel) rfl, by decide, by decide, by decide, by decide, by decide +kernel⟩
set_option maxRecDepth 100000 in
theorem lcX10_fail : sk_lC 2 mX10_fail := ⟨okX10_fail, sk_wd (q := 1350) rfl rfl, sk_wd (q := 86) (by decide +kernel) rfl, by decide, by decide, by decide, by decide, by decide +kernel⟩
set_option maxRecDepth 100000 in
theorem lcX10_takeBit : sk_lC 0 mX10_takeBit := ⟨okX10_takeBit, sk_wd (q := 1358) rfl rfl, sk_wd (q := 86) (by decide +kernel) rfl, by decide, by decide, by decide, by decide, by decide +kernel⟩
set_option maxRecDepth 100000 in
theorem lcX10_perform : sk_lC 1 mX10_perform := ⟨okX10_perform, sk_wd (q := 1338) rfl rfl, sk_wd (q := 86) (by decide +kernel) rfl, by decide, by decide, by decide, by decide, by decide +kernel⟩
set_option maxRecDepth 100000 in
theorem lcX10_finish : sk_lC 0 mX10_finish := ⟨okX10_finish, sk_wd (q := 1330) rfl rfl, sk_wd (q := 86) (by decide +kernel) rfl, by decide, by decide, by decide, by decide, by decide +kernel⟩
set_option maxRecDepth 100000 in
theorem lcX10_doJob : sk_lC 3 mX10_doJob := ⟨okX10_doJob, sk_wd (q := 1314) rfl rfl, sk_wd (q := 86) (by decide +kernel) rfl, by decide, by decide, by decide, by decide, by decide +kernel⟩
set_option maxRecDepth 100000 in
theorem lcX10_run : sk_lC 2 mX10_run := ⟨okX10_run, sk_wd (q := 1310) rfl rfl, sk_wd (q := 86) (by decide +kernel) rfl, by decide, by decide, by decide, by decide, by decide +kernel⟩
set_option maxRecDepth 100000 in
theorem lcX10_ran : sk_lC 1 mX10_ran := ⟨okX10_ran, sk_wd (q := 1362) rfl rfl, sk_wd (q := 86) (by decide +kernel) rfl, by decide, by decide, by decide, by decide, by decide +kernel⟩
set_option maxRecDepth 100000 in
theorem lcX10_note : sk_lC 1 mX10_note := ⟨okX10_note, sk_wd (q := 1366) rfl rfl, sk_wd (q := 86) (by decide +kernel) rfl, by decide, by decide, by decide, by decide, by decide +kernel⟩
set_option maxRecDepth 100000 in
theorem lcX10_pairOf : sk_lC 1 mX10_pairOf := ⟨okX10_pairOf, sk_wd (q := 1378) rfl rfl, sk_wd (q := 86) (by decide +kernel) rfl, by decide, by decide, by decide, by decide, by decide +kernel⟩
set_option maxRecDepth 100000 in
theorem lcX10_walk : sk_lC 2 mX10_walk := ⟨okX10_walk, sk_wd (q := 1382) rfl rfl, sk_wd (q := 86) (by decide +kernel) rfl, by decide, by decide, by decide, by decide, by decide +kernel⟩
set_option maxRecDepth 100000 in
theorem lcX10_cover : sk_lC 2 mX10_cover := ⟨okX10_cover, sk_wd (q := 1390) rfl rfl, sk_wd (q := 86) (by decide +kernel) rfl, by decide, by decide, by decide, by decide, by decide +kernel⟩
set_option maxRecDepth 100000 in
theorem lcX10_same : sk_lC 1 mX10_same := ⟨okX10_same, sk_wd (q := 1394) rfl rfl, sk_wd (q := 86) (by decide +kernel) rfl, by decide, by decide, by decide, by decide, by decide +kernel⟩
set_option maxRecDepth 100000 in
theorem lcX10_walkStep : sk_lC 2 mX10_walkStep := ⟨okX10_walkStep, sk_wd (q := 1386) rfl rfl, sk_wd (q := 86) (by decide +kernel) rfl, by decide, by decide, by decide, by decide, by decide +kernel⟩
set_option maxRecDepth 100000 in
theorem lcX10_isPlain : sk_lC 0 mX10_isPlain := ⟨okX10_isPlain, sk_wd (q := 1374) rfl rfl, sk_wd (q := 86) (by decide +kernel) rfl, by decide, by decide, by decide, by decide, by decide +kernel⟩
set_option maxRecDepth 100000 in
theorem lcX10_ahead : sk_lC 1 mX10_ahead := ⟨okX10_ahead, sk_wd (q := 1370) rfl rfl, sk_wd (q := 86) (by decide +kernel) rfl, by decide, by decide, by decide, by decide, by decide +kernel⟩
set_option maxRecDepth 100000 in
theorem lcX10_walked : sk_lC 2 mX10_walked := ⟨okX10_walked, sk_wd (q := 1398) rfl rfl, sk_wd (q := 86) (by decide +kernel) rfl, by decide, by decide, by decide, by decide, by decide +kernel⟩
set_option maxRecDepth 100000 in
theorem lcX10_told : sk_lC 1 mX10_told := ⟨okX10_told, sk_wd (q := 1402) rfl rfl, sk_wd (q := 86) (by decide +kernel) rfl, by decide, by decide, by decide, by decide, by decide +kernel⟩
set_option maxRecDepth 100000 in
theorem lcX10_isAhead : sk_lC 2 mX10_isAhead := ⟨okX10_isAhead, sk_wd (q := 1410) rfl rfl, sk_wd (q := 86) (by decide +kernel) rfl, by decide, by decide, by decide, by decide, by decide +kernel⟩
set_option maxRecDepth 100000 in
theorem lcX10_pair : sk_lC 4 mX10_pair := ⟨okX10_pair, sk_wd (q := 1406) rfl rfl, sk_wd (q := 86) (by decide +kernel) rfl, by decide, by decide, by decide, by decide, by decide +kernel⟩
set_option maxRecDepth 100000 in
theorem lcX10_count : sk_lC 1 mX10_count := ⟨okX10_count, sk_wd (q := 1414) rfl rfl, sk_wd (q := 86) (by decide +kernel) rfl, by decide, by decide, by decide, by decide, by decide +kernel⟩
set_option maxRecDepth 100000 in
theorem lcJ7_rangeCheck_23922 : sk_lC 3 mJ7_rangeCheck_23922 := ⟨okJ7_rangeCheck_23922, sk_wd (q := 903) rfl rfl, sk_wd (q := 78) (by decide +kernel) rfl, by decide, by decide, by decide, by decide, by decide +kernel⟩
set_option maxRecDepth 100000 in
theorem lcJ7_fill_d0a16 : sk_lC 2 mJ7_fill_d0a16 := ⟨okJ7_fill_d0a16, sk_wd (q := 862) rfl rfl, sk_wd (q := 78) (by decide +kernel) rfl, by decide, by decide, by decide, by decide, by decide +kernel⟩
set_option maxRecDepth 100000 in
theorem lcJ7_fill_bad5a : sk_lC 4 mJ7_fill_bad5a := ⟨okJ7_fill_bad5a, sk_wd (q := 900) rfl rfl, sk_wd (q := 78) (by decide +kernel) rfl, by decide, by decide, by decide, by decide, by decide +kernel⟩
set_option maxRecDepth 100000 in
theorem lcJ7_fill_53178 : sk_lC 2 mJ7_fill_53178 := ⟨okJ7_fill_53178, sk_wd (q := 128) rfl rfl, sk_wd (q := 78) (by decide +kernel) rfl, by decide, by decide, by decide, by decide, by decide +kernel⟩
theorem kkL_9 : sk_lI RL 9 mX9_init := ⟨sk_wd (q := 94) (by decide +kernel) rfl, sk_wd (q := 95) (by decide +kernel) rfl, rfl, rfl⟩
theorem kkX9_11 : sk_lI RX9 11 mX4_init := ⟨sk_wd (q := 102) (by decide +kernel) rfl, sk_wd (q := 103) (by decide +kernel) rfl, rfl, rfl⟩
theorem kkX9_26 : sk_lI RX9 26 mX5_init := ⟨sk_wd (q := 122) (by decide +kernel) rfl, sk_wd (q := 123) (by decide +kernel) rfl, rfl, rfl⟩
theorem kkX5_15 : sk_lS RX5 15 mJ7_fill_53178 := ⟨sk_wd (q := 126) (by decide +kernel) rfl, sk_wd (q := 127) (by decide +kernel) rfl⟩
theorem kkX9_43 : sk_lI RX9 43 mX3_init := ⟨sk_wd (q := 212) (by decide +kernel) rfl, sk_wd (q := 213) (by decide +kernel) rfl, rfl, rfl⟩
theorem kkX9_52 : sk_lI RX9 52 mX6_init := ⟨sk_wd (q := 258) (by decide +kernel) rfl, sk_wd (q := 259) (by decide +kernel) rfl, rfl, rfl⟩
theorem kkX6_44 : sk_lI RX6 44 mX7_init := ⟨sk_wd (q := 289) (by decide +kernel) rfl, sk_wd (q := 290) (by decide +kernel) rfl, rfl, rfl⟩
theorem kkX9_61 : sk_lI RX9 61 mX0_init := ⟨sk_wd (q := 356) (by decide +kernel) rfl, sk_wd (q := 357) (by decide +kernel) rfl, rfl, rfl⟩
theorem kkL_13 : sk_lV RL 13 mX9_feed := ⟨sk_wd (q := 442) (by decide +kernel) rfl, sk_wd (q := 443) (by decide +kernel) rfl, sk_wd (q := 444) (by decide +kernel) rfl⟩
theorem kkX9_68 : sk_lV RX9 68 mX4_hasRoomFor := ⟨sk_wd (q := 446) (by decide +kernel) rfl, sk_wd (q := 447) (by decide +kernel) rfl, sk_wd (q := 448) (by decide +kernel) rfl⟩
theorem kkX9_72 : sk_lV RX9 72 mX9_addBytes := ⟨sk_wd (q := 450) (by decide +kernel) rfl, sk_wd (q := 452) (by decide +kernel) rfl, sk_wd (q := 0) (by decide +kernel) rfl⟩
theorem kkX9_79 : sk_lV RX9 79 mX4_add := ⟨sk_wd (q := 454) (by decide +kernel) rfl, sk_wd (q := 455) (by decide +kernel) rfl, sk_wd (q := 456) (by decide +kernel) rfl⟩
theorem kkL_18 : sk_lV RL 18 mX9_trim := ⟨sk_wd (q := 461) (by decide +kernel) rfl, sk_wd (q := 462) (by decide +kernel) rfl, sk_wd (q := 463) (by decide +kernel) rfl⟩
theorem kkX9_82 : sk_lS RX9 82 mX9_within := ⟨sk_wd (q := 465) (by decide +kernel) rfl, sk_wd (q := 459) (by decide +kernel) rfl⟩
theorem kkX9_86 : sk_lV RX9 86 mX4_cutTo := ⟨sk_wd (q := 466) (by decide +kernel) rfl, sk_wd (q := 467) (by decide +kernel) rfl, sk_wd (q := 468) (by decide +kernel) rfl⟩
theorem kkL_23 : sk_lV RL 23 mX9_program := ⟨sk_wd (q := 473) (by decide +kernel) rfl, sk_wd (q := 474) (by decide +kernel) rfl, sk_wd (q := 475) (by decide +kernel) rfl⟩
theorem kkX9_89 : sk_lV RX9 89 mX3_readInto := ⟨sk_wd (q := 477) (by decide +kernel) rfl, sk_wd (q := 478) (by decide +kernel) rfl, sk_wd (q := 479) (by decide +kernel) rfl⟩
theorem kkX3_26 : sk_lV RX3 26 mX2_clear := ⟨sk_wd (q := 481) (by decide +kernel) rfl, sk_wd (q := 482) (by decide +kernel) rfl, sk_wd (q := 483) (by decide +kernel) rfl⟩
theorem kkX3_31 : sk_lV RX3 31 mX8_cut := ⟨sk_wd (q := 485) (by decide +kernel) rfl, sk_wd (q := 486) (by decide +kernel) rfl, sk_wd (q := 487) (by decide +kernel) rfl⟩
theorem kkX8_25 : sk_lV RX8 25 mX4_at := ⟨sk_wd (q := 489) (by decide +kernel) rfl, sk_wd (q := 490) (by decide +kernel) rfl, sk_wd (q := 491) (by decide +kernel) rfl⟩
theorem kkX8_28 : sk_lS RX8 28 mX8_isLetter := ⟨sk_wd (q := 493) (by decide +kernel) rfl, sk_wd (q := 494) (by decide +kernel) rfl⟩
theorem kkX8_32 : sk_lS RX8 32 mX8_endOfWord := ⟨sk_wd (q := 496) (by decide +kernel) rfl, sk_wd (q := 497) (by decide +kernel) rfl⟩
theorem kkX8_36 : sk_lS RX8 36 mX8_wordOf := ⟨sk_wd (q := 499) (by decide +kernel) rfl, sk_wd (q := 500) (by decide +kernel) rfl⟩
theorem kkX8_60 : sk_lS RX8 60 mX8_isWord := ⟨sk_wd (q := 502) (by decide +kernel) rfl, sk_wd (q := 503) (by decide +kernel) rfl⟩
theorem kkX8_40 : sk_lV RX8 40 mX8_add := ⟨sk_wd (q := 555) (by decide +kernel) rfl, sk_wd (q := 557) (by decide +kernel) rfl, sk_wd (q := 1) (by decide +kernel) rfl⟩
theorem kkX8_44 : sk_lS RX8 44 mX8_isDigit := ⟨sk_wd (q := 559) (by decide +kernel) rfl, sk_wd (q := 560) (by decide +kernel) rfl⟩
theorem kkX8_47 : sk_lS RX8 47 mX8_endOfNumber := ⟨sk_wd (q := 562) (by decide +kernel) rfl, sk_wd (q := 563) (by decide +kernel) rfl⟩
theorem kkX8_50 : sk_lS RX8 50 mX8_numberOf := ⟨sk_wd (q := 565) (by decide +kernel) rfl, sk_wd (q := 566) (by decide +kernel) rfl⟩
theorem kkX8_53 : sk_lS RX8 53 mX8_signOf := ⟨sk_wd (q := 568) (by decide +kernel) rfl, sk_wd (q := 569) (by decide +kernel) rfl⟩
theorem kkX3_42 : sk_lV RX3 42 mX3_readMethod := ⟨sk_wd (q := 571) (by decide +kernel) rfl, sk_wd (q := 573) (by decide +kernel) rfl, sk_wd (q := 2) (by decide +kernel) rfl⟩
theorem kkX3_62 : sk_lV RX3 62 mX3_take := ⟨sk_wd (q := 575) (by decide +kernel) rfl, sk_wd (q := 577) (by decide +kernel) rfl, sk_wd (q := 3) (by decide +kernel) rfl⟩
theorem kkX3_46 : sk_lV RX3 46 mX8_tokenAt := ⟨sk_wd (q := 579) (by decide +kernel) rfl, sk_wd (q := 580) (by decide +kernel) rfl, sk_wd (q := 581) (by decide +kernel) rfl⟩
theorem kkX3_69 : sk_lV RX3 69 mX3_broken := ⟨sk_wd (q := 583) (by decide +kernel) rfl, sk_wd (q := 585) (by decide +kernel) rfl, sk_wd (q := 4) (by decide +kernel) rfl⟩
theorem kkX3_73 : sk_lV RX3 73 mX3_readNumber := ⟨sk_wd (q := 587) (by decide +kernel) rfl, sk_wd (q := 589) (by decide +kernel) rfl, sk_wd (q := 5) (by decide +kernel) rfl⟩
theorem kkX3_76 : sk_lV RX3 76 mX2_addMethod := ⟨sk_wd (q := 591) (by decide +kernel) rfl, sk_wd (q := 592) (by decide +kernel) rfl, sk_wd (q := 593) (by decide +kernel) rfl⟩
theorem kkX3_79 : sk_lV RX3 79 mX3_readBlock := ⟨sk_wd (q := 596) (by decide +kernel) rfl, sk_wd (q := 598) (by decide +kernel) rfl, sk_wd (q := 6) (by decide +kernel) rfl⟩
theorem kkX3_97 : sk_lV RX3 97 mX3_readStep := ⟨sk_wd (q := 601) (by decide +kernel) rfl, sk_wd (q := 603) (by decide +kernel) rfl, sk_wd (q := 7) (by decide +kernel) rfl⟩
theorem kkX3_109 : sk_lV RX3 109 mX2_addStep := ⟨sk_wd (q := 605) (by decide +kernel) rfl, sk_wd (q := 606) (by decide +kernel) rfl, sk_wd (q := 607) (by decide +kernel) rfl⟩
theorem kkX3_100 : sk_lV RX3 100 mX2_hasStep := ⟨sk_wd (q := 609) (by decide +kernel) rfl, sk_wd (q := 610) (by decide +kernel) rfl, sk_wd (q := 611) (by decide +kernel) rfl⟩
theorem kkX3_112 : sk_lV RX3 112 mX3_readNumbers := ⟨sk_wd (q := 613) (by decide +kernel) rfl, sk_wd (q := 615) (by decide +kernel) rfl, sk_wd (q := 8) (by decide +kernel) rfl⟩
theorem kkX3_115 : sk_lV RX3 115 mX3_readRest := ⟨sk_wd (q := 622) (by decide +kernel) rfl, sk_wd (q := 624) (by decide +kernel) rfl, sk_wd (q := 9) (by decide +kernel) rfl⟩
theorem kkX3_50 : sk_lV RX3 50 mX3_allMethodsAreThere := ⟨sk_wd (q := 628) (by decide +kernel) rfl, sk_wd (q := 630) (by decide +kernel) rfl, sk_wd (q := 10) (by decide +kernel) rfl⟩
theorem kkX3_56 : sk_lV RX3 56 mX8_placeOf := ⟨sk_wd (q := 632) (by decide +kernel) rfl, sk_wd (q := 633) (by decide +kernel) rfl, sk_wd (q := 634) (by decide +kernel) rfl⟩
theorem kkL_28 : sk_lV RL 28 mX9_fault := ⟨sk_wd (q := 637) (by decide +kernel) rfl, sk_wd (q := 638) (by decide +kernel) rfl, sk_wd (q := 639) (by decide +kernel) rfl⟩
theorem kkL_32 : sk_lV RL 32 mX9_rule := ⟨sk_wd (q := 641) (by decide +kernel) rfl, sk_wd (q := 642) (by decide +kernel) rfl, sk_wd (q := 643) (by decide +kernel) rfl⟩
theorem kkX9_109 : sk_lV RX9 109 mX5_replace := ⟨sk_wd (q := 645) (by decide +kernel) rfl, sk_wd (q := 646) (by decide +kernel) rfl, sk_wd (q := 647) (by decide +kernel) rfl⟩
theorem kkX5_25 : sk_lV RX5 25 mX5_of := ⟨sk_wd (q := 649) (by decide +kernel) rfl, sk_wd (q := 650) (by decide +kernel) rfl, sk_wd (q := 651) (by decide +kernel) rfl⟩
theorem kkL_37 : sk_lV RL 37 mX9_bits := ⟨sk_wd (q := 654) (by decide +kernel) rfl, sk_wd (q := 655) (by decide +kernel) rfl, sk_wd (q := 656) (by decide +kernel) rfl⟩
theorem kkL_42 : sk_lV RL 42 mX9_forget := ⟨sk_wd (q := 658) (by decide +kernel) rfl, sk_wd (q := 659) (by decide +kernel) rfl, sk_wd (q := 660) (by decide +kernel) rfl⟩
theorem kkL_46 : sk_lV RL 46 mX9_about := ⟨sk_wd (q := 662) (by decide +kernel) rfl, sk_wd (q := 663) (by decide +kernel) rfl, sk_wd (q := 664) (by decide +kernel) rfl⟩
theorem kkX9_113 : sk_lV RX9 113 mX9_hasProgram := ⟨sk_wd (q := 666) (by decide +kernel) rfl, sk_wd (q := 668) (by decide +kernel) rfl, sk_wd (q := 11) (by decide +kernel) rfl⟩
theorem kkX9_120 : sk_lV RX9 120 mX2_countOf := ⟨sk_wd (q := 670) (by decide +kernel) rfl, sk_wd (q := 671) (by decide +kernel) rfl, sk_wd (q := 672) (by decide +kernel) rfl⟩
theorem kkL_50 : sk_lV RL 50 mX9_step := ⟨sk_wd (q := 674) (by decide +kernel) rfl, sk_wd (q := 675) (by decide +kernel) rfl, sk_wd (q := 676) (by decide +kernel) rfl⟩
theorem kkL_54 : sk_lV RL 54 mX9_run := ⟨sk_wd (q := 678) (by decide +kernel) rfl, sk_wd (q := 679) (by decide +kernel) rfl, sk_wd (q := 680) (by decide +kernel) rfl⟩
theorem kkX9_140 : sk_lV RX9 140 mX6_execute := ⟨sk_wd (q := 682) (by decide +kernel) rfl, sk_wd (q := 683) (by decide +kernel) rfl, sk_wd (q := 684) (by decide +kernel) rfl⟩
theorem kkX6_51 : sk_lV RX6 51 mX6_begin := ⟨sk_wd (q := 686) (by decide +kernel) rfl, sk_wd (q := 688) (by decide +kernel) rfl, sk_wd (q := 12) (by decide +kernel) rfl⟩
theorem kkX6_103 : sk_lV RX6 103 mX4_cutTo := ⟨sk_wd (q := 690) (by decide +kernel) rfl, sk_wd (q := 467) (by decide +kernel) rfl, sk_wd (q := 468) (by decide +kernel) rfl⟩
theorem kkX6_106 : sk_lV RX6 106 mX7_clear := ⟨sk_wd (q := 691) (by decide +kernel) rfl, sk_wd (q := 692) (by decide +kernel) rfl, sk_wd (q := 693) (by decide +kernel) rfl⟩
theorem kkX6_110 : sk_lV RX6 110 mX1_clear := ⟨sk_wd (q := 695) (by decide +kernel) rfl, sk_wd (q := 696) (by decide +kernel) rfl, sk_wd (q := 697) (by decide +kernel) rfl⟩
theorem kkX6_112 : sk_lS RX6 112 mJ7_fill_53178 := ⟨sk_wd (q := 699) (by decide +kernel) rfl, sk_wd (q := 127) (by decide +kernel) rfl⟩
theorem kkX6_55 : sk_lV RX6 55 mX6_putOff := ⟨sk_wd (q := 700) (by decide +kernel) rfl, sk_wd (q := 702) (by decide +kernel) rfl, sk_wd (q := 13) (by decide +kernel) rfl⟩
theorem kkX6_64 : sk_lV RX6 64 mX1_isEmpty := ⟨sk_wd (q := 706) (by decide +kernel) rfl, sk_wd (q := 707) (by decide +kernel) rfl, sk_wd (q := 708) (by decide +kernel) rfl⟩
theorem kkX6_68 : sk_lV RX6 68 mX6_beginJob := ⟨sk_wd (q := 710) (by decide +kernel) rfl, sk_wd (q := 712) (by decide +kernel) rfl, sk_wd (q := 14) (by decide +kernel) rfl⟩
theorem kkX6_125 : sk_lV RX6 125 mX6_openMethod := ⟨sk_wd (q := 714) (by decide +kernel) rfl, sk_wd (q := 716) (by decide +kernel) rfl, sk_wd (q := 15) (by decide +kernel) rfl⟩
theorem kkX6_134 : sk_lV RX6 134 mX2_startOf := ⟨sk_wd (q := 719) (by decide +kernel) rfl, sk_wd (q := 720) (by decide +kernel) rfl, sk_wd (q := 721) (by decide +kernel) rfl⟩
theorem kkX6_138 : sk_lV RX6 138 mX7_withMethod := ⟨sk_wd (q := 723) (by decide +kernel) rfl, sk_wd (q := 724) (by decide +kernel) rfl, sk_wd (q := 725) (by decide +kernel) rfl⟩
theorem kkX7_30 : sk_lV RX7 30 mX7_add := ⟨sk_wd (q := 727) (by decide +kernel) rfl, sk_wd (q := 729) (by decide +kernel) rfl, sk_wd (q := 16) (by decide +kernel) rfl⟩
theorem kkX6_141 : sk_lV RX6 141 mX1_push := ⟨sk_wd (q := 732) (by decide +kernel) rfl, sk_wd (q := 733) (by decide +kernel) rfl, sk_wd (q := 734) (by decide +kernel) rfl⟩
theorem kkX6_71 : sk_lV RX6 71 mX1_topNext := ⟨sk_wd (q := 736) (by decide +kernel) rfl, sk_wd (q := 737) (by decide +kernel) rfl, sk_wd (q := 738) (by decide +kernel) rfl⟩
theorem kkX6_75 : sk_lV RX6 75 mX2_hasStep := ⟨sk_wd (q := 740) (by decide +kernel) rfl, sk_wd (q := 610) (by decide +kernel) rfl, sk_wd (q := 611) (by decide +kernel) rfl⟩
theorem kkX6_81 : sk_lV RX6 81 mX6_beginTurn := ⟨sk_wd (q := 741) (by decide +kernel) rfl, sk_wd (q := 743) (by decide +kernel) rfl, sk_wd (q := 17) (by decide +kernel) rfl⟩
theorem kkX6_160 : sk_lV RX6 160 mX1_goTo := ⟨sk_wd (q := 745) (by decide +kernel) rfl, sk_wd (q := 746) (by decide +kernel) rfl, sk_wd (q := 747) (by decide +kernel) rfl⟩
theorem kkX6_175 : sk_lV RX6 175 mX1_topStack := ⟨sk_wd (q := 749) (by decide +kernel) rfl, sk_wd (q := 750) (by decide +kernel) rfl, sk_wd (q := 751) (by decide +kernel) rfl⟩
theorem kkX6_178 : sk_lV RX6 178 mX6_doStep := ⟨sk_wd (q := 753) (by decide +kernel) rfl, sk_wd (q := 755) (by decide +kernel) rfl, sk_wd (q := 18) (by decide +kernel) rfl⟩
theorem kkX6_185 : sk_lV RX6 185 mX6_judge := ⟨sk_wd (q := 757) (by decide +kernel) rfl, sk_wd (q := 759) (by decide +kernel) rfl, sk_wd (q := 19) (by decide +kernel) rfl⟩
theorem kkX6_221 : sk_lV RX6 221 mX7_refuser := ⟨sk_wd (q := 761) (by decide +kernel) rfl, sk_wd (q := 762) (by decide +kernel) rfl, sk_wd (q := 763) (by decide +kernel) rfl⟩
theorem kkX7_38 : sk_lV RX7 38 mX2_hasStep := ⟨sk_wd (q := 765) (by decide +kernel) rfl, sk_wd (q := 610) (by decide +kernel) rfl, sk_wd (q := 611) (by decide +kernel) rfl⟩
theorem kkX7_53 : sk_lV RX7 53 mX2_ownerOf := ⟨sk_wd (q := 766) (by decide +kernel) rfl, sk_wd (q := 767) (by decide +kernel) rfl, sk_wd (q := 768) (by decide +kernel) rfl⟩
theorem kkX7_57 : sk_lV RX7 57 mX5_of := ⟨sk_wd (q := 770) (by decide +kernel) rfl, sk_wd (q := 650) (by decide +kernel) rfl, sk_wd (q := 651) (by decide +kernel) rfl⟩
theorem kkX6_188 : sk_lV RX6 188 mX6_failIfRefused := ⟨sk_wd (q := 771) (by decide +kernel) rfl, sk_wd (q := 773) (by decide +kernel) rfl, sk_wd (q := 20) (by decide +kernel) rfl⟩
theorem kkX6_225 : sk_lV RX6 225 mX6_fail := ⟨sk_wd (q := 775) (by decide +kernel) rfl, sk_wd (q := 777) (by decide +kernel) rfl, sk_wd (q := 21) (by decide +kernel) rfl⟩
theorem kkX6_206 : sk_lV RX6 206 mX4_add := ⟨sk_wd (q := 779) (by decide +kernel) rfl, sk_wd (q := 455) (by decide +kernel) rfl, sk_wd (q := 456) (by decide +kernel) rfl⟩
theorem kkX6_151 : sk_lV RX6 151 mX1_topRole := ⟨sk_wd (q := 780) (by decide +kernel) rfl, sk_wd (q := 781) (by decide +kernel) rfl, sk_wd (q := 782) (by decide +kernel) rfl⟩
theorem kkX6_145 : sk_lV RX6 145 mX1_topOpener := ⟨sk_wd (q := 784) (by decide +kernel) rfl, sk_wd (q := 785) (by decide +kernel) rfl, sk_wd (q := 786) (by decide +kernel) rfl⟩
theorem kkX6_163 : sk_lV RX6 163 mX6_closeBlock := ⟨sk_wd (q := 788) (by decide +kernel) rfl, sk_wd (q := 790) (by decide +kernel) rfl, sk_wd (q := 22) (by decide +kernel) rfl⟩
theorem kkX6_166 : sk_lV RX6 166 mX1_pop := ⟨sk_wd (q := 792) (by decide +kernel) rfl, sk_wd (q := 793) (by decide +kernel) rfl, sk_wd (q := 794) (by decide +kernel) rfl⟩
theorem kkX6_194 : sk_lV RX6 194 mX6_open := ⟨sk_wd (q := 796) (by decide +kernel) rfl, sk_wd (q := 798) (by decide +kernel) rfl, sk_wd (q := 23) (by decide +kernel) rfl⟩
theorem kkX6_191 : sk_lV RX6 191 mX7_withBlock := ⟨sk_wd (q := 800) (by decide +kernel) rfl, sk_wd (q := 801) (by decide +kernel) rfl, sk_wd (q := 802) (by decide +kernel) rfl⟩
theorem kkX6_197 : sk_lV RX6 197 mX6_keep := ⟨sk_wd (q := 804) (by decide +kernel) rfl, sk_wd (q := 806) (by decide +kernel) rfl, sk_wd (q := 24) (by decide +kernel) rfl⟩
theorem kkX6_200 : sk_lV RX6 200 mX6_under := ⟨sk_wd (q := 808) (by decide +kernel) rfl, sk_wd (q := 810) (by decide +kernel) rfl, sk_wd (q := 25) (by decide +kernel) rfl⟩
theorem kkX6_203 : sk_lV RX6 203 mX6_repeat := ⟨sk_wd (q := 812) (by decide +kernel) rfl, sk_wd (q := 814) (by decide +kernel) rfl, sk_wd (q := 26) (by decide +kernel) rfl⟩
theorem kkX6_154 : sk_lV RX6 154 mX1_setTimesLeft := ⟨sk_wd (q := 816) (by decide +kernel) rfl, sk_wd (q := 817) (by decide +kernel) rfl, sk_wd (q := 818) (by decide +kernel) rfl⟩
theorem kkX6_212 : sk_lV RX6 212 mX6_takeBit := ⟨sk_wd (q := 820) (by decide +kernel) rfl, sk_wd (q := 822) (by decide +kernel) rfl, sk_wd (q := 27) (by decide +kernel) rfl⟩
theorem kkX6_228 : sk_lV RX6 228 mX4_at := ⟨sk_wd (q := 824) (by decide +kernel) rfl, sk_wd (q := 490) (by decide +kernel) rfl, sk_wd (q := 491) (by decide +kernel) rfl⟩
theorem kkX6_215 : sk_lV RX6 215 mX6_goBack := ⟨sk_wd (q := 825) (by decide +kernel) rfl, sk_wd (q := 827) (by decide +kernel) rfl, sk_wd (q := 28) (by decide +kernel) rfl⟩
theorem kkX6_85 : sk_lV RX6 85 mX6_endBlock := ⟨sk_wd (q := 829) (by decide +kernel) rfl, sk_wd (q := 831) (by decide +kernel) rfl, sk_wd (q := 29) (by decide +kernel) rfl⟩
theorem kkX6_148 : sk_lV RX6 148 mX1_topTimesLeft := ⟨sk_wd (q := 833) (by decide +kernel) rfl, sk_wd (q := 834) (by decide +kernel) rfl, sk_wd (q := 835) (by decide +kernel) rfl⟩
theorem kkL_58 : sk_lV RL 58 mX9_ran := ⟨sk_wd (q := 837) (by decide +kernel) rfl, sk_wd (q := 838) (by decide +kernel) rfl, sk_wd (q := 839) (by decide +kernel) rfl⟩
theorem kkL_62 : sk_lV RL 62 mX9_note := ⟨sk_wd (q := 841) (by decide +kernel) rfl, sk_wd (q := 842) (by decide +kernel) rfl, sk_wd (q := 843) (by decide +kernel) rfl⟩
theorem kkX9_147 : sk_lV RX9 147 mX4_at := ⟨sk_wd (q := 845) (by decide +kernel) rfl, sk_wd (q := 490) (by decide +kernel) rfl, sk_wd (q := 491) (by decide +kernel) rfl⟩
theorem kkL_66 : sk_lV RL 66 mX9_ahead := ⟨sk_wd (q := 846) (by decide +kernel) rfl, sk_wd (q := 847) (by decide +kernel) rfl, sk_wd (q := 848) (by decide +kernel) rfl⟩
theorem kkX9_150 : sk_lV RX9 150 mX2_canBeForetold := ⟨sk_wd (q := 850) (by decide +kernel) rfl, sk_wd (q := 851) (by decide +kernel) rfl, sk_wd (q := 852) (by decide +kernel) rfl⟩
theorem kkX2_53 : sk_lV RX2 53 mX2_countOf := ⟨sk_wd (q := 854) (by decide +kernel) rfl, sk_wd (q := 671) (by decide +kernel) rfl, sk_wd (q := 672) (by decide +kernel) rfl⟩
theorem kkX9_153 : sk_lV RX9 153 mX0_foretell := ⟨sk_wd (q := 855) (by decide +kernel) rfl, sk_wd (q := 856) (by decide +kernel) rfl, sk_wd (q := 857) (by decide +kernel) rfl⟩
theorem kkX0_60 : sk_lS RX0 60 mJ7_fill_53178 := ⟨sk_wd (q := 859) (by decide +kernel) rfl, sk_wd (q := 127) (by decide +kernel) rfl⟩
theorem kkX0_66 : sk_lS RX0 66 mJ7_fill_d0a16 := ⟨sk_wd (q := 860) (by decide +kernel) rfl, sk_wd (q := 861) (by decide +kernel) rfl⟩
theorem kkX0_69 : sk_lV RX0 69 mX0_come := ⟨sk_wd (q := 863) (by decide +kernel) rfl, sk_wd (q := 865) (by decide +kernel) rfl, sk_wd (q := 30) (by decide +kernel) rfl⟩
theorem kkX0_129 : sk_lV RX0 129 mX0_copyDown := ⟨sk_wd (q := 867) (by decide +kernel) rfl, sk_wd (q := 869) (by decide +kernel) rfl, sk_wd (q := 31) (by decide +kernel) rfl⟩
theorem kkX0_161 : sk_lV RX0 161 mX2_ownerOf := ⟨sk_wd (q := 874) (by decide +kernel) rfl, sk_wd (q := 767) (by decide +kernel) rfl, sk_wd (q := 768) (by decide +kernel) rfl⟩
theorem kkX0_176 : sk_lV RX0 176 mX5_of := ⟨sk_wd (q := 875) (by decide +kernel) rfl, sk_wd (q := 650) (by decide +kernel) rfl, sk_wd (q := 651) (by decide +kernel) rfl⟩
theorem kkX0_170 : sk_lS RX0 170 mX0_levelsAbove := ⟨sk_wd (q := 876) (by decide +kernel) rfl, sk_wd (q := 877) (by decide +kernel) rfl⟩
theorem kkX0_166 : sk_lV RX0 166 mX0_change := ⟨sk_wd (q := 879) (by decide +kernel) rfl, sk_wd (q := 881) (by decide +kernel) rfl, sk_wd (q := 32) (by decide +kernel) rfl⟩
theorem kkX0_183 : sk_lV RX0 183 mX0_placeInOrder := ⟨sk_wd (q := 886) (by decide +kernel) rfl, sk_wd (q := 888) (by decide +kernel) rfl, sk_wd (q := 33) (by decide +kernel) rfl⟩
theorem kkX0_186 : sk_lV RX0 186 mX0_compare := ⟨sk_wd (q := 890) (by decide +kernel) rfl, sk_wd (q := 892) (by decide +kernel) rfl, sk_wd (q := 34) (by decide +kernel) rfl⟩
theorem kkX0_190 : sk_lV RX0 190 mX0_insert := ⟨sk_wd (q := 894) (by decide +kernel) rfl, sk_wd (q := 896) (by decide +kernel) rfl, sk_wd (q := 35) (by decide +kernel) rfl⟩
theorem kkX0_193 : sk_lS RX0 193 mJ7_fill_bad5a := ⟨sk_wd (q := 898) (by decide +kernel) rfl, sk_wd (q := 899) (by decide +kernel) rfl⟩
theorem kkJ7_13 : sk_lS RJ7 13 mJ7_rangeCheck_23922 := ⟨sk_wd (q := 901) (by decide +kernel) rfl, sk_wd (q := 902) (by decide +kernel) rfl⟩
theorem kkX0_74 : sk_lV RX0 74 mX0_sweep := ⟨sk_wd (q := 905) (by decide +kernel) rfl, sk_wd (q := 907) (by decide +kernel) rfl, sk_wd (q := 36) (by decide +kernel) rfl⟩
theorem kkX0_90 : sk_lV RX0 90 mX2_startOf := ⟨sk_wd (q := 909) (by decide +kernel) rfl, sk_wd (q := 720) (by decide +kernel) rfl, sk_wd (q := 721) (by decide +kernel) rfl⟩
theorem kkX0_96 : sk_lV RX0 96 mX0_walkBlock := ⟨sk_wd (q := 910) (by decide +kernel) rfl, sk_wd (q := 912) (by decide +kernel) rfl, sk_wd (q := 37) (by decide +kernel) rfl⟩
theorem kkX0_107 : sk_lV RX0 107 mX2_hasStep := ⟨sk_wd (q := 914) (by decide +kernel) rfl, sk_wd (q := 610) (by decide +kernel) rfl, sk_wd (q := 611) (by decide +kernel) rfl⟩
theorem kkX0_111 : sk_lV RX0 111 mX0_walkStep := ⟨sk_wd (q := 915) (by decide +kernel) rfl, sk_wd (q := 917) (by decide +kernel) rfl, sk_wd (q := 38) (by decide +kernel) rfl⟩
theorem kkX0_120 : sk_lV RX0 120 mX0_walkAsk := ⟨sk_wd (q := 919) (by decide +kernel) rfl, sk_wd (q := 921) (by decide +kernel) rfl, sk_wd (q := 39) (by decide +kernel) rfl⟩
theorem kkX0_145 : sk_lV RX0 145 mX0_refuserOf := ⟨sk_wd (q := 923) (by decide +kernel) rfl, sk_wd (q := 925) (by decide +kernel) rfl, sk_wd (q := 40) (by decide +kernel) rfl⟩
theorem kkX0_154 : sk_lS RX0 154 mX0_refuserAt := ⟨sk_wd (q := 927) (by decide +kernel) rfl, sk_wd (q := 928) (by decide +kernel) rfl⟩
theorem kkX0_126 : sk_lV RX0 126 mX0_walkCall := ⟨sk_wd (q := 931) (by decide +kernel) rfl, sk_wd (q := 933) (by decide +kernel) rfl, sk_wd (q := 41) (by decide +kernel) rfl⟩
theorem kkX0_132 : sk_lV RX0 132 mX0_enterBlock := ⟨sk_wd (q := 935) (by decide +kernel) rfl, sk_wd (q := 937) (by decide +kernel) rfl, sk_wd (q := 42) (by decide +kernel) rfl⟩
theorem kkX0_139 : sk_lV RX0 139 mX0_walkTry := ⟨sk_wd (q := 940) (by decide +kernel) rfl, sk_wd (q := 942) (by decide +kernel) rfl, sk_wd (q := 43) (by decide +kernel) rfl⟩
theorem kkX0_142 : sk_lV RX0 142 mX0_walkInner := ⟨sk_wd (q := 944) (by decide +kernel) rfl, sk_wd (q := 946) (by decide +kernel) rfl, sk_wd (q := 44) (by decide +kernel) rfl⟩
theorem kkX0_99 : sk_lV RX0 99 mX0_makeCallersStale := ⟨sk_wd (q := 948) (by decide +kernel) rfl, sk_wd (q := 950) (by decide +kernel) rfl, sk_wd (q := 45) (by decide +kernel) rfl⟩
theorem kkL_70 : sk_lV RL 70 mX9_walked := ⟨sk_wd (q := 952) (by decide +kernel) rfl, sk_wd (q := 953) (by decide +kernel) rfl, sk_wd (q := 954) (by decide +kernel) rfl⟩
theorem kkL_74 : sk_lV RL 74 mX9_told := ⟨sk_wd (q := 956) (by decide +kernel) rfl, sk_wd (q := 957) (by decide +kernel) rfl, sk_wd (q := 958) (by decide +kernel) rfl⟩
theorem kkX9_163 : sk_lV RX9 163 mX0_rootCan := ⟨sk_wd (q := 960) (by decide +kernel) rfl, sk_wd (q := 961) (by decide +kernel) rfl, sk_wd (q := 962) (by decide +kernel) rfl⟩
theorem kkX9_166 : sk_lS RX9 166 mX9_sum := ⟨sk_wd (q := 964) (by decide +kernel) rfl, sk_wd (q := 965) (by decide +kernel) rfl⟩
theorem kkX9_170 : sk_lV RX9 170 mX0_methodsThatCame := ⟨sk_wd (q := 967) (by decide +kernel) rfl, sk_wd (q := 968) (by decide +kernel) rfl, sk_wd (q := 969) (by decide +kernel) rfl⟩
theorem kkL_78 : sk_lV RL 78 mX9_pair := ⟨sk_wd (q := 971) (by decide +kernel) rfl, sk_wd (q := 972) (by decide +kernel) rfl, sk_wd (q := 973) (by decide +kernel) rfl⟩
theorem kkX9_174 : sk_lV RX9 174 mX0_refuser := ⟨sk_wd (q := 975) (by decide +kernel) rfl, sk_wd (q := 976) (by decide +kernel) rfl, sk_wd (q := 977) (by decide +kernel) rfl⟩
theorem kkL_83 : sk_lV RL 83 mX9_count := ⟨sk_wd (q := 979) (by decide +kernel) rfl, sk_wd (q := 980) (by decide +kernel) rfl, sk_wd (q := 981) (by decide +kernel) rfl⟩
theorem kkX9_178 : sk_lV RX9 178 mX5_given := ⟨sk_wd (q := 983) (by decide +kernel) rfl, sk_wd (q := 984) (by decide +kernel) rfl, sk_wd (q := 985) (by decide +kernel) rfl⟩
theorem kkL_12 : sk_lI RL 12 mX10_init := ⟨sk_wd (q := 989) (by decide +kernel) rfl, sk_wd (q := 990) (by decide +kernel) rfl, rfl, rfl⟩
theorem kkL_17 : sk_lV RL 17 mX10_feed := ⟨sk_wd (q := 1228) (by decide +kernel) rfl, sk_wd (q := 1229) (by decide +kernel) rfl, sk_wd (q := 1230) (by decide +kernel) rfl⟩
theorem kkX10_173 : sk_lV RX10 173 mX10_four := ⟨sk_wd (q := 1232) (by decide +kernel) rfl, sk_wd (q := 1234) (by decide +kernel) rfl, sk_wd (q := 46) (by decide +kernel) rfl⟩
theorem kkL_22 : sk_lV RL 22 mX10_trim := ⟨sk_wd (q := 1236) (by decide +kernel) rfl, sk_wd (q := 1237) (by decide +kernel) rfl, sk_wd (q := 1238) (by decide +kernel) rfl⟩
theorem kkX10_177 : sk_lS RX10 177 mX10_in := ⟨sk_wd (q := 1240) (by decide +kernel) rfl, sk_wd (q := 1241) (by decide +kernel) rfl⟩
theorem kkL_36 : sk_lV RL 36 mX10_rule := ⟨sk_wd (q := 1243) (by decide +kernel) rfl, sk_wd (q := 1244) (by decide +kernel) rfl, sk_wd (q := 1245) (by decide +kernel) rfl⟩
theorem kkL_41 : sk_lV RL 41 mX10_bits := ⟨sk_wd (q := 1247) (by decide +kernel) rfl, sk_wd (q := 1248) (by decide +kernel) rfl, sk_wd (q := 1249) (by decide +kernel) rfl⟩
theorem kkL_45 : sk_lV RL 45 mX10_forget := ⟨sk_wd (q := 1251) (by decide +kernel) rfl, sk_wd (q := 1252) (by decide +kernel) rfl, sk_wd (q := 1253) (by decide +kernel) rfl⟩
theorem kkL_27 : sk_lV RL 27 mX10_program := ⟨sk_wd (q := 1255) (by decide +kernel) rfl, sk_wd (q := 1256) (by decide +kernel) rfl, sk_wd (q := 1257) (by decide +kernel) rfl⟩
theorem kkX10_223 : sk_lV RX10 223 mX10_next := ⟨sk_wd (q := 1259) (by decide +kernel) rfl, sk_wd (q := 1261) (by decide +kernel) rfl, sk_wd (q := 47) (by decide +kernel) rfl⟩
theorem kkX10_204 : sk_lS RX10 204 mX10_isSmall := ⟨sk_wd (q := 1263) (by decide +kernel) rfl, sk_wd (q := 1264) (by decide +kernel) rfl⟩
theorem kkX10_208 : sk_lV RX10 208 mX10_wordOf := ⟨sk_wd (q := 1266) (by decide +kernel) rfl, sk_wd (q := 1268) (by decide +kernel) rfl, sk_wd (q := 48) (by decide +kernel) rfl⟩
theorem kkX10_211 : sk_lS RX10 211 mX10_isDigit := ⟨sk_wd (q := 1272) (by decide +kernel) rfl, sk_wd (q := 1273) (by decide +kernel) rfl⟩
theorem kkX10_226 : sk_lV RX10 226 mX10_wrong := ⟨sk_wd (q := 1275) (by decide +kernel) rfl, sk_wd (q := 1277) (by decide +kernel) rfl, sk_wd (q := 49) (by decide +kernel) rfl⟩
theorem kkX10_228 : sk_lV RX10 228 mX10_must := ⟨sk_wd (q := 1279) (by decide +kernel) rfl, sk_wd (q := 1281) (by decide +kernel) rfl, sk_wd (q := 50) (by decide +kernel) rfl⟩
theorem kkX10_235 : sk_lV RX10 235 mX10_numberTo := ⟨sk_wd (q := 1283) (by decide +kernel) rfl, sk_wd (q := 1285) (by decide +kernel) rfl, sk_wd (q := 51) (by decide +kernel) rfl⟩
theorem kkX10_238 : sk_lV RX10 238 mX10_block := ⟨sk_wd (q := 1287) (by decide +kernel) rfl, sk_wd (q := 1289) (by decide +kernel) rfl, sk_wd (q := 52) (by decide +kernel) rfl⟩
theorem kkX10_231 : sk_lV RX10 231 mX10_step := ⟨sk_wd (q := 1291) (by decide +kernel) rfl, sk_wd (q := 1293) (by decide +kernel) rfl, sk_wd (q := 53) (by decide +kernel) rfl⟩
theorem kkL_31 : sk_lV RL 31 mX10_fault := ⟨sk_wd (q := 1295) (by decide +kernel) rfl, sk_wd (q := 1296) (by decide +kernel) rfl, sk_wd (q := 1297) (by decide +kernel) rfl⟩
theorem kkL_49 : sk_lV RL 49 mX10_about := ⟨sk_wd (q := 1299) (by decide +kernel) rfl, sk_wd (q := 1300) (by decide +kernel) rfl, sk_wd (q := 1301) (by decide +kernel) rfl⟩
theorem kkL_53 : sk_lV RL 53 mX10_step_ := ⟨sk_wd (q := 1303) (by decide +kernel) rfl, sk_wd (q := 1304) (by decide +kernel) rfl, sk_wd (q := 1305) (by decide +kernel) rfl⟩
theorem kkL_57 : sk_lV RL 57 mX10_run := ⟨sk_wd (q := 1307) (by decide +kernel) rfl, sk_wd (q := 1308) (by decide +kernel) rfl, sk_wd (q := 1309) (by decide +kernel) rfl⟩
theorem kkX10_334 : sk_lV RX10 334 mX10_doJob := ⟨sk_wd (q := 1311) (by decide +kernel) rfl, sk_wd (q := 1313) (by decide +kernel) rfl, sk_wd (q := 54) (by decide +kernel) rfl⟩
theorem kkX10_313 : sk_lV RX10 313 mX10_openMethod := ⟨sk_wd (q := 1315) (by decide +kernel) rfl, sk_wd (q := 1317) (by decide +kernel) rfl, sk_wd (q := 55) (by decide +kernel) rfl⟩
theorem kkX10_269 : sk_lV RX10 269 mX10_open := ⟨sk_wd (q := 1319) (by decide +kernel) rfl, sk_wd (q := 1321) (by decide +kernel) rfl, sk_wd (q := 56) (by decide +kernel) rfl⟩
theorem kkX10_273 : sk_lV RX10 273 mX10_enter := ⟨sk_wd (q := 1323) (by decide +kernel) rfl, sk_wd (q := 1325) (by decide +kernel) rfl, sk_wd (q := 57) (by decide +kernel) rfl⟩
theorem kkX10_325 : sk_lV RX10 325 mX10_finish := ⟨sk_wd (q := 1327) (by decide +kernel) rfl, sk_wd (q := 1329) (by decide +kernel) rfl, sk_wd (q := 58) (by decide +kernel) rfl⟩
theorem kkX10_290 : sk_lV RX10 290 mX10_close := ⟨sk_wd (q := 1331) (by decide +kernel) rfl, sk_wd (q := 1333) (by decide +kernel) rfl, sk_wd (q := 59) (by decide +kernel) rfl⟩
theorem kkX10_331 : sk_lV RX10 331 mX10_perform := ⟨sk_wd (q := 1335) (by decide +kernel) rfl, sk_wd (q := 1337) (by decide +kernel) rfl, sk_wd (q := 60) (by decide +kernel) rfl⟩
theorem kkX10_302 : sk_lV RX10 302 mX10_judge := ⟨sk_wd (q := 1339) (by decide +kernel) rfl, sk_wd (q := 1341) (by decide +kernel) rfl, sk_wd (q := 61) (by decide +kernel) rfl⟩
theorem kkX10_260 : sk_lV RX10 260 mX10_hasRight := ⟨sk_wd (q := 1343) (by decide +kernel) rfl, sk_wd (q := 1345) (by decide +kernel) rfl, sk_wd (q := 62) (by decide +kernel) rfl⟩
theorem kkX10_306 : sk_lV RX10 306 mX10_fail := ⟨sk_wd (q := 1347) (by decide +kernel) rfl, sk_wd (q := 1349) (by decide +kernel) rfl, sk_wd (q := 63) (by decide +kernel) rfl⟩
theorem kkX10_288 : sk_lV RX10 288 mX10_say := ⟨sk_wd (q := 1351) (by decide +kernel) rfl, sk_wd (q := 1353) (by decide +kernel) rfl, sk_wd (q := 64) (by decide +kernel) rfl⟩
theorem kkX10_319 : sk_lV RX10 319 mX10_takeBit := ⟨sk_wd (q := 1355) (by decide +kernel) rfl, sk_wd (q := 1357) (by decide +kernel) rfl, sk_wd (q := 65) (by decide +kernel) rfl⟩
theorem kkL_61 : sk_lV RL 61 mX10_ran := ⟨sk_wd (q := 1359) (by decide +kernel) rfl, sk_wd (q := 1360) (by decide +kernel) rfl, sk_wd (q := 1361) (by decide +kernel) rfl⟩
theorem kkL_65 : sk_lV RL 65 mX10_note := ⟨sk_wd (q := 1363) (by decide +kernel) rfl, sk_wd (q := 1364) (by decide +kernel) rfl, sk_wd (q := 1365) (by decide +kernel) rfl⟩
theorem kkL_69 : sk_lV RL 69 mX10_ahead := ⟨sk_wd (q := 1367) (by decide +kernel) rfl, sk_wd (q := 1368) (by decide +kernel) rfl, sk_wd (q := 1369) (by decide +kernel) rfl⟩
theorem kkX10_363 : sk_lV RX10 363 mX10_isPlain := ⟨sk_wd (q := 1371) (by decide +kernel) rfl, sk_wd (q := 1373) (by decide +kernel) rfl, sk_wd (q := 66) (by decide +kernel) rfl⟩
theorem kkX10_351 : sk_lV RX10 351 mX10_pairOf := ⟨sk_wd (q := 1375) (by decide +kernel) rfl, sk_wd (q := 1377) (by decide +kernel) rfl, sk_wd (q := 67) (by decide +kernel) rfl⟩
theorem kkX10_357 : sk_lV RX10 357 mX10_walk := ⟨sk_wd (q := 1379) (by decide +kernel) rfl, sk_wd (q := 1381) (by decide +kernel) rfl, sk_wd (q := 68) (by decide +kernel) rfl⟩
theorem kkX10_347 : sk_lV RX10 347 mX10_walkStep := ⟨sk_wd (q := 1383) (by decide +kernel) rfl, sk_wd (q := 1385) (by decide +kernel) rfl, sk_wd (q := 69) (by decide +kernel) rfl⟩
theorem kkX10_354 : sk_lV RX10 354 mX10_cover := ⟨sk_wd (q := 1387) (by decide +kernel) rfl, sk_wd (q := 1389) (by decide +kernel) rfl, sk_wd (q := 70) (by decide +kernel) rfl⟩
theorem kkX10_360 : sk_lV RX10 360 mX10_same := ⟨sk_wd (q := 1391) (by decide +kernel) rfl, sk_wd (q := 1393) (by decide +kernel) rfl, sk_wd (q := 71) (by decide +kernel) rfl⟩
theorem kkL_73 : sk_lV RL 73 mX10_walked := ⟨sk_wd (q := 1395) (by decide +kernel) rfl, sk_wd (q := 1396) (by decide +kernel) rfl, sk_wd (q := 1397) (by decide +kernel) rfl⟩
theorem kkL_77 : sk_lV RL 77 mX10_told := ⟨sk_wd (q := 1399) (by decide +kernel) rfl, sk_wd (q := 1400) (by decide +kernel) rfl, sk_wd (q := 1401) (by decide +kernel) rfl⟩
theorem kkL_82 : sk_lV RL 82 mX10_pair := ⟨sk_wd (q := 1403) (by decide +kernel) rfl, sk_wd (q := 1404) (by decide +kernel) rfl, sk_wd (q := 1405) (by decide +kernel) rfl⟩
theorem kkX10_367 : sk_lV RX10 367 mX10_isAhead := ⟨sk_wd (q := 1407) (by decide +kernel) rfl, sk_wd (q := 1409) (by decide +kernel) rfl, sk_wd (q := 72) (by decide +kernel) rfl⟩
theorem kkL_86 : sk_lV RL 86 mX10_count := ⟨sk_wd (q := 1411) (by decide +kernel) rfl, sk_wd (q := 1412) (by decide +kernel) rfl, sk_wd (q := 1413) (by decide +kernel) rfl⟩
theorem kkX9_33 : sk_lIN RX9 33 mX2_init := ⟨List.mem_of_getElem? (i := 0) (by decide +kernel), sk_wd (q := 136) (by decide +kernel) rfl, rfl, rfl⟩
theorem kkX3_11 : sk_lIN RX3 11 mX8_init := ⟨List.mem_of_getElem? (i := 1) (by decide +kernel), sk_wd (q := 219) (by decide +kernel) rfl, rfl, rfl⟩
theorem kkX6_11 : sk_lIN RX6 11 mX1_init := ⟨List.mem_of_getElem? (i := 2) (by decide +kernel), sk_wd (q := 265) (by decide +kernel) rfl, rfl, rfl⟩
theorem kkX4_25 : sk_lSN RX4 25 mX9_within := ⟨List.mem_of_getElem? (i := 3) (by decide +kernel), sk_wd (q := 459) (by decide +kernel) rfl⟩
theorem kkX8_56 : sk_lSN RX8 56 mX9_within := ⟨List.mem_of_getElem? (i := 4) (by decide +kernel), sk_wd (q := 459) (by decide +kernel) rfl⟩
theorem kkX2_49 : sk_lSN RX2 49 mX9_within := ⟨List.mem_of_getElem? (i := 5) (by decide +kernel), sk_wd (q := 459) (by decide +kernel) rfl⟩
theorem kkX3_82 : sk_lSN RX3 82 mX9_within := ⟨List.mem_of_getElem? (i := 6) (by decide +kernel), sk_wd (q := 459) (by decide +kernel) rfl⟩
theorem kkX5_21 : sk_lSN RX5 21 mX9_within := ⟨List.mem_of_getElem? (i := 7) (by decide +kernel), sk_wd (q := 459) (by decide +kernel) rfl⟩
theorem kkX6_118 : sk_lSN RX6 118 mX9_within := ⟨List.mem_of_getElem? (i := 8) (by decide +kernel), sk_wd (q := 459) (by decide +kernel) rfl⟩
theorem kkX7_34 : sk_lSN RX7 34 mX9_within := ⟨List.mem_of_getElem? (i := 9) (by decide +kernel), sk_wd (q := 459) (by decide +kernel) rfl⟩
theorem kkX0_103 : sk_lSN RX0 103 mX9_within := ⟨List.mem_of_getElem? (i := 10) (by decide +kernel), sk_wd (q := 459) (by decide +kernel) rfl⟩
theorem kw_oi : Cond.instanceMethod objectInit ∈ sk_gw := sk_wd (q := 98) (by decide +kernel) rfl
theorem kw_oc : Cond.code objectInit ⟨#[0xb1]⟩ 1 none ∈ sk_gw := sk_wd (q := 99) (by decide +kernel) rfl
theorem kw_maxs : Cond.static Lib.Math.max.name ∈ sk_gw := sk_wd (q := 107) (by decide +kernel) rfl
theorem kw_maxc : Cond.code Lib.Math.max.name Lib.Math.max.code 2 (some .int) ∈ sk_gw := sk_wd (q := 108) (by decide +kernel) rfl
theorem kw_mins : Cond.static Lib.Math.min.name ∈ sk_gw := sk_wd (q := 471) (by decide +kernel) rfl
theorem kw_minc : Cond.code Lib.Math.min.name Lib.Math.min.code 2 (some .int) ∈ sk_gw := sk_wd (q := 472) (by decide +kernel) rfl
theorem kw_mi : Cond.initialized "java/lang/Math" ∈ sk_gw := sk_wd (q := 76) (by decide +kernel) rfl
theorem kw_acn : Cond.native arraycopyName ∈ sk_gw := sk_wd (q := 873) (by decide +kernel) rfl
theorem kw_acs : Cond.static arraycopyName ∈ sk_gw := sk_wd (q := 872) (by decide +kernel) rfl
theorem kw_aci : Cond.initialized "java/lang/System" ∈ sk_gw := sk_wd (q := 91) (by decide +kernel) rfl
theorem kw_pX4_9 : Cond.methodLink RX4 9 Lib.Math.max.name ∈ sk_gw := sk_wd (q := 106) (by decide +kernel) rfl
theorem kw_pX4_29 : Cond.methodLink RX4 29 Lib.Math.min.name ∈ sk_gw := sk_wd (q := 470) (by decide +kernel) rfl
theorem kw_pX3_92 : Cond.methodLink RX3 92 Lib.Math.max.name ∈ sk_gw := sk_wd (q := 600) (by decide +kernel) rfl
theorem kw_pX6_128 : Cond.methodLink RX6 128 Lib.Math.max.name ∈ sk_gw := sk_wd (q := 718) (by decide +kernel) rfl
theorem kw_pX0_84 : Cond.methodLink RX0 84 arraycopyName ∈ sk_gw := sk_wd (q := 871) (by decide +kernel) rfl
theorem kw_oX9 : Cond.methodLink RX9 1 objectInit ∈ sk_gw := sk_wd (q := 97) (by decide +kernel) rfl
theorem kw_oX4 : Cond.methodLink RX4 3 objectInit ∈ sk_gw := sk_wd (q := 105) (by decide +kernel) rfl
theorem kw_oX5 : Cond.methodLink RX5 3 objectInit ∈ sk_gw := sk_wd (q := 125) (by decide +kernel) rfl
theorem kw_oX2 : Cond.methodLink RX2 3 objectInit ∈ sk_gw := sk_wd (q := 138) (by decide +kernel) rfl
theorem kw_oX3 : Cond.methodLink RX3 3 objectInit ∈ sk_gw := sk_wd (q := 215) (by decide +kernel) rfl
theorem kw_oX8 : Cond.methodLink RX8 3 objectInit ∈ sk_gw := sk_wd (q := 221) (by decide +kernel) rfl
theorem kw_oX6 : Cond.methodLink RX6 3 objectInit ∈ sk_gw := sk_wd (q := 261) (by decide +kernel) rfl
theorem kw_oX1 : Cond.methodLink RX1 3 objectInit ∈ sk_gw := sk_wd (q := 267) (by decide +kernel) rfl
theorem kw_oX7 : Cond.methodLink RX7 3 objectInit ∈ sk_gw := sk_wd (q := 292) (by decide +kernel) rfl
theorem kw_oX0 : Cond.methodLink RX0 3 objectInit ∈ sk_gw := sk_wd (q := 359) (by decide +kernel) rfl
theorem kw_oX10 : Cond.methodLink RX10 1 objectInit ∈ sk_gw := sk_wd (q := 992) (by decide +kernel) rfl
theorem kw_aint : Cond.arrayClass .int ∈ sk_gw := sk_wd (q := 119) (by decide +kernel) rfl
theorem kw_along : Cond.arrayClass .long ∈ sk_gw := sk_wd (q := 412) (by decide +kernel) rfl
theorem kw_aboolean : Cond.arrayClass .boolean ∈ sk_gw := sk_wd (q := 413) (by decide +kernel) rfl
theorem kw_abyte : Cond.arrayClass .byte ∈ sk_gw := sk_wd (q := 636) (by decide +kernel) rfl
theorem kw_lX0_174 : Cond.constantLong RX0 174 (-1) ∈ sk_gw := sk_wd (q := 884) (by decide +kernel) rfl
theorem kw_lX0_181 : Cond.constantLong RX0 181 (73300775185) ∈ sk_gw := sk_wd (q := 885) (by decide +kernel) rfl
theorem kw_lX0_158 : Cond.constantLong RX0 158 (15) ∈ sk_gw := sk_wd (q := 930) (by decide +kernel) rfl
theorem kw_lX0_164 : Cond.constantLong RX0 164 (1099511627775) ∈ sk_gw := sk_wd (q := 939) (by decide +kernel) rfl
theorem kw_sX10_55 : Cond.classLink RX10 55 "java/lang/String" ∈ sk_gw := sk_wd (q := 993) (by decide +kernel) rfl
