/-! THE LAW: its words (by law.py) -/
theorem wd_0 : Cond.initialized RL ∈ lwG := lwG_of (List.mem_of_getElem? (i := 70) (by decide +kernel)) (by decide +kernel)
theorem wd_1030 : Cond.methodLink RL 41 yX11_type ∈ lwG := lwG_of (List.mem_of_getElem? (i := 1100) (by decide +kernel)) (by decide +kernel)
theorem wd_1031 : Cond.instanceMethod yX11_type ∈ lwG := lwG_of (List.mem_of_getElem? (i := 1101) (by decide +kernel)) (by decide +kernel)
theorem wd_1032 : Cond.selects RX11 yX11_type yX11_type ∈ lwG := lwG_of (List.mem_of_getElem? (i := 1102) (by decide +kernel)) (by decide +kernel)
theorem wd_1033 : Cond.code yX11_type cX11_type 2 (some .boolean) ∈ lwG := lwG_of (List.mem_of_getElem? (i := 1103) (by decide +kernel)) (by decide +kernel)
theorem wd_1043 : Cond.methodLink RL 45 yX11_process ∈ lwG := lwG_of (List.mem_of_getElem? (i := 1113) (by decide +kernel)) (by decide +kernel)
theorem wd_1044 : Cond.instanceMethod yX11_process ∈ lwG := lwG_of (List.mem_of_getElem? (i := 1114) (by decide +kernel)) (by decide +kernel)
theorem wd_1045 : Cond.selects RX11 yX11_process yX11_process ∈ lwG := lwG_of (List.mem_of_getElem? (i := 1115) (by decide +kernel)) (by decide +kernel)
theorem wd_1046 : Cond.code yX11_process cX11_process 3 (some .int) ∈ lwG := lwG_of (List.mem_of_getElem? (i := 1116) (by decide +kernel)) (by decide +kernel)
theorem wd_1049 : Cond.methodLink RL 50 yX11_job ∈ lwG := lwG_of (List.mem_of_getElem? (i := 1119) (by decide +kernel)) (by decide +kernel)
theorem wd_1050 : Cond.instanceMethod yX11_job ∈ lwG := lwG_of (List.mem_of_getElem? (i := 1120) (by decide +kernel)) (by decide +kernel)
theorem wd_1051 : Cond.selects RX11 yX11_job yX11_job ∈ lwG := lwG_of (List.mem_of_getElem? (i := 1121) (by decide +kernel)) (by decide +kernel)
theorem wd_1052 : Cond.code yX11_job cX11_job 4 (some .int) ∈ lwG := lwG_of (List.mem_of_getElem? (i := 1122) (by decide +kernel)) (by decide +kernel)
theorem wd_1062 : Cond.methodLink RL 54 yX11_paper ∈ lwG := lwG_of (List.mem_of_getElem? (i := 1132) (by decide +kernel)) (by decide +kernel)
theorem wd_1063 : Cond.instanceMethod yX11_paper ∈ lwG := lwG_of (List.mem_of_getElem? (i := 1133) (by decide +kernel)) (by decide +kernel)
theorem wd_1064 : Cond.selects RX11 yX11_paper yX11_paper ∈ lwG := lwG_of (List.mem_of_getElem? (i := 1134) (by decide +kernel)) (by decide +kernel)
theorem wd_1065 : Cond.code yX11_paper cX11_paper 4 (some .int) ∈ lwG := lwG_of (List.mem_of_getElem? (i := 1135) (by decide +kernel)) (by decide +kernel)
theorem wd_1070 : Cond.methodLink RL 58 yX11_word ∈ lwG := lwG_of (List.mem_of_getElem? (i := 1140) (by decide +kernel)) (by decide +kernel)
theorem wd_1071 : Cond.instanceMethod yX11_word ∈ lwG := lwG_of (List.mem_of_getElem? (i := 1141) (by decide +kernel)) (by decide +kernel)
theorem wd_1072 : Cond.selects RX11 yX11_word yX11_word ∈ lwG := lwG_of (List.mem_of_getElem? (i := 1142) (by decide +kernel)) (by decide +kernel)
theorem wd_1073 : Cond.code yX11_word cX11_word 5 (some .int) ∈ lwG := lwG_of (List.mem_of_getElem? (i := 1143) (by decide +kernel)) (by decide +kernel)
theorem wd_1082 : Cond.methodLink RL 62 yX11_frame ∈ lwG := lwG_of (List.mem_of_getElem? (i := 1152) (by decide +kernel)) (by decide +kernel)
theorem wd_1083 : Cond.instanceMethod yX11_frame ∈ lwG := lwG_of (List.mem_of_getElem? (i := 1153) (by decide +kernel)) (by decide +kernel)
theorem wd_1084 : Cond.selects RX11 yX11_frame yX11_frame ∈ lwG := lwG_of (List.mem_of_getElem? (i := 1154) (by decide +kernel)) (by decide +kernel)
theorem wd_1085 : Cond.code yX11_frame cX11_frame 3 (some .int) ∈ lwG := lwG_of (List.mem_of_getElem? (i := 1155) (by decide +kernel)) (by decide +kernel)
theorem wd_1095 : Cond.methodLink RL 66 yX11_about ∈ lwG := lwG_of (List.mem_of_getElem? (i := 1165) (by decide +kernel)) (by decide +kernel)
theorem wd_1096 : Cond.instanceMethod yX11_about ∈ lwG := lwG_of (List.mem_of_getElem? (i := 1166) (by decide +kernel)) (by decide +kernel)
theorem wd_1097 : Cond.selects RX11 yX11_about yX11_about ∈ lwG := lwG_of (List.mem_of_getElem? (i := 1167) (by decide +kernel)) (by decide +kernel)
theorem wd_1098 : Cond.code yX11_about cX11_about 2 (some .int) ∈ lwG := lwG_of (List.mem_of_getElem? (i := 1168) (by decide +kernel)) (by decide +kernel)
theorem wd_1102 : Cond.methodLink RL 70 yX11_octet ∈ lwG := lwG_of (List.mem_of_getElem? (i := 1172) (by decide +kernel)) (by decide +kernel)
theorem wd_1103 : Cond.instanceMethod yX11_octet ∈ lwG := lwG_of (List.mem_of_getElem? (i := 1173) (by decide +kernel)) (by decide +kernel)
theorem wd_1104 : Cond.selects RX11 yX11_octet yX11_octet ∈ lwG := lwG_of (List.mem_of_getElem? (i := 1174) (by decide +kernel)) (by decide +kernel)
theorem wd_1105 : Cond.code yX11_octet cX11_octet 2 (some .int) ∈ lwG := lwG_of (List.mem_of_getElem? (i := 1175) (by decide +kernel)) (by decide +kernel)
theorem wd_1110 : Cond.methodLink RL 9 yL_cell ∈ lwG := lwG_of (List.mem_of_getElem? (i := 1180) (by decide +kernel)) (by decide +kernel)
theorem wd_1111 : Cond.static yL_cell ∈ lwG := lwG_of (List.mem_of_getElem? (i := 1181) (by decide +kernel)) (by decide +kernel)
theorem wd_1112 : Cond.code yL_cell cL_cell 2 (some .int) ∈ lwG := lwG_of (List.mem_of_getElem? (i := 1182) (by decide +kernel)) (by decide +kernel)
theorem wd_1113 : Cond.classLink RL 18 "DrumLayersModel" ∈ lwG := lwG_of (List.mem_of_getElem? (i := 1183) (by decide +kernel)) (by decide +kernel)
theorem wd_1114 : Cond.instantiable RX12 71 ∈ lwG := lwG_of (List.mem_of_getElem? (i := 1184) (by decide +kernel)) (by decide +kernel)
theorem wd_1115 : Cond.methodLink RL 20 yX12_init ∈ lwG := lwG_of (List.mem_of_getElem? (i := 1185) (by decide +kernel)) (by decide +kernel)
theorem wd_1116 : Cond.instanceMethod yX12_init ∈ lwG := lwG_of (List.mem_of_getElem? (i := 1186) (by decide +kernel)) (by decide +kernel)
theorem wd_1117 : Cond.code yX12_init cX12_init 5 none ∈ lwG := lwG_of (List.mem_of_getElem? (i := 1187) (by decide +kernel)) (by decide +kernel)
theorem wd_1336 : Cond.methodLink RL 25 yX12_feed ∈ lwG := lwG_of (List.mem_of_getElem? (i := 1406) (by decide +kernel)) (by decide +kernel)
theorem wd_1337 : Cond.instanceMethod yX12_feed ∈ lwG := lwG_of (List.mem_of_getElem? (i := 1407) (by decide +kernel)) (by decide +kernel)
theorem wd_1338 : Cond.selects RX12 yX12_feed yX12_feed ∈ lwG := lwG_of (List.mem_of_getElem? (i := 1408) (by decide +kernel)) (by decide +kernel)
theorem wd_1339 : Cond.code yX12_feed cX12_feed 5 (some .int) ∈ lwG := lwG_of (List.mem_of_getElem? (i := 1409) (by decide +kernel)) (by decide +kernel)
theorem wd_1340 : Cond.methodLink RL 30 yX12_submit ∈ lwG := lwG_of (List.mem_of_getElem? (i := 1410) (by decide +kernel)) (by decide +kernel)
theorem wd_1341 : Cond.instanceMethod yX12_submit ∈ lwG := lwG_of (List.mem_of_getElem? (i := 1411) (by decide +kernel)) (by decide +kernel)
theorem wd_1342 : Cond.selects RX12 yX12_submit yX12_submit ∈ lwG := lwG_of (List.mem_of_getElem? (i := 1412) (by decide +kernel)) (by decide +kernel)
theorem wd_1343 : Cond.code yX12_submit cX12_submit 10 (some .int) ∈ lwG := lwG_of (List.mem_of_getElem? (i := 1413) (by decide +kernel)) (by decide +kernel)
theorem wd_1344 : Cond.methodLink RL 35 yX12_tick ∈ lwG := lwG_of (List.mem_of_getElem? (i := 1414) (by decide +kernel)) (by decide +kernel)
theorem wd_1345 : Cond.instanceMethod yX12_tick ∈ lwG := lwG_of (List.mem_of_getElem? (i := 1415) (by decide +kernel)) (by decide +kernel)
theorem wd_1346 : Cond.selects RX12 yX12_tick yX12_tick ∈ lwG := lwG_of (List.mem_of_getElem? (i := 1416) (by decide +kernel)) (by decide +kernel)
theorem wd_1347 : Cond.code yX12_tick cX12_tick 3 (some .int) ∈ lwG := lwG_of (List.mem_of_getElem? (i := 1417) (by decide +kernel)) (by decide +kernel)
theorem wd_1492 : Cond.methodLink RL 40 yX12_done ∈ lwG := lwG_of (List.mem_of_getElem? (i := 1562) (by decide +kernel)) (by decide +kernel)
theorem wd_1493 : Cond.instanceMethod yX12_done ∈ lwG := lwG_of (List.mem_of_getElem? (i := 1563) (by decide +kernel)) (by decide +kernel)
theorem wd_1494 : Cond.selects RX12 yX12_done yX12_done ∈ lwG := lwG_of (List.mem_of_getElem? (i := 1564) (by decide +kernel)) (by decide +kernel)
theorem wd_1495 : Cond.code yX12_done cX12_done 2 (some .boolean) ∈ lwG := lwG_of (List.mem_of_getElem? (i := 1565) (by decide +kernel)) (by decide +kernel)
theorem wd_1504 : Cond.methodLink RL 44 yX12_type ∈ lwG := lwG_of (List.mem_of_getElem? (i := 1574) (by decide +kernel)) (by decide +kernel)
theorem wd_1505 : Cond.instanceMethod yX12_type ∈ lwG := lwG_of (List.mem_of_getElem? (i := 1575) (by decide +kernel)) (by decide +kernel)
theorem wd_1506 : Cond.selects RX12 yX12_type yX12_type ∈ lwG := lwG_of (List.mem_of_getElem? (i := 1576) (by decide +kernel)) (by decide +kernel)
theorem wd_1507 : Cond.code yX12_type cX12_type 3 (some .boolean) ∈ lwG := lwG_of (List.mem_of_getElem? (i := 1577) (by decide +kernel)) (by decide +kernel)
theorem wd_1508 : Cond.methodLink RL 49 yX12_process ∈ lwG := lwG_of (List.mem_of_getElem? (i := 1578) (by decide +kernel)) (by decide +kernel)
theorem wd_1509 : Cond.instanceMethod yX12_process ∈ lwG := lwG_of (List.mem_of_getElem? (i := 1579) (by decide +kernel)) (by decide +kernel)
theorem wd_1510 : Cond.selects RX12 yX12_process yX12_process ∈ lwG := lwG_of (List.mem_of_getElem? (i := 1580) (by decide +kernel)) (by decide +kernel)
theorem wd_1511 : Cond.code yX12_process cX12_process 5 (some .int) ∈ lwG := lwG_of (List.mem_of_getElem? (i := 1581) (by decide +kernel)) (by decide +kernel)
theorem wd_1512 : Cond.methodLink RL 53 yX12_job ∈ lwG := lwG_of (List.mem_of_getElem? (i := 1582) (by decide +kernel)) (by decide +kernel)
theorem wd_1513 : Cond.instanceMethod yX12_job ∈ lwG := lwG_of (List.mem_of_getElem? (i := 1583) (by decide +kernel)) (by decide +kernel)
theorem wd_1514 : Cond.selects RX12 yX12_job yX12_job ∈ lwG := lwG_of (List.mem_of_getElem? (i := 1584) (by decide +kernel)) (by decide +kernel)
theorem wd_1515 : Cond.code yX12_job cX12_job 3 (some .int) ∈ lwG := lwG_of (List.mem_of_getElem? (i := 1585) (by decide +kernel)) (by decide +kernel)
theorem wd_1516 : Cond.methodLink RL 57 yX12_paper ∈ lwG := lwG_of (List.mem_of_getElem? (i := 1586) (by decide +kernel)) (by decide +kernel)
theorem wd_1517 : Cond.instanceMethod yX12_paper ∈ lwG := lwG_of (List.mem_of_getElem? (i := 1587) (by decide +kernel)) (by decide +kernel)
theorem wd_1518 : Cond.selects RX12 yX12_paper yX12_paper ∈ lwG := lwG_of (List.mem_of_getElem? (i := 1588) (by decide +kernel)) (by decide +kernel)
theorem wd_1519 : Cond.code yX12_paper cX12_paper 3 (some .int) ∈ lwG := lwG_of (List.mem_of_getElem? (i := 1589) (by decide +kernel)) (by decide +kernel)
theorem wd_1520 : Cond.methodLink RL 61 yX12_word ∈ lwG := lwG_of (List.mem_of_getElem? (i := 1590) (by decide +kernel)) (by decide +kernel)
theorem wd_1521 : Cond.instanceMethod yX12_word ∈ lwG := lwG_of (List.mem_of_getElem? (i := 1591) (by decide +kernel)) (by decide +kernel)
theorem wd_1522 : Cond.selects RX12 yX12_word yX12_word ∈ lwG := lwG_of (List.mem_of_getElem? (i := 1592) (by decide +kernel)) (by decide +kernel)
theorem wd_1523 : Cond.code yX12_word cX12_word 4 (some .int) ∈ lwG := lwG_of (List.mem_of_getElem? (i := 1593) (by decide +kernel)) (by decide +kernel)
theorem wd_1524 : Cond.methodLink RL 65 yX12_frame ∈ lwG := lwG_of (List.mem_of_getElem? (i := 1594) (by decide +kernel)) (by decide +kernel)
theorem wd_1525 : Cond.instanceMethod yX12_frame ∈ lwG := lwG_of (List.mem_of_getElem? (i := 1595) (by decide +kernel)) (by decide +kernel)
theorem wd_1526 : Cond.selects RX12 yX12_frame yX12_frame ∈ lwG := lwG_of (List.mem_of_getElem? (i := 1596) (by decide +kernel)) (by decide +kernel)
theorem wd_1527 : Cond.code yX12_frame cX12_frame 3 (some .int) ∈ lwG := lwG_of (List.mem_of_getElem? (i := 1597) (by decide +kernel)) (by decide +kernel)
theorem wd_1528 : Cond.methodLink RL 69 yX12_about ∈ lwG := lwG_of (List.mem_of_getElem? (i := 1598) (by decide +kernel)) (by decide +kernel)
theorem wd_1529 : Cond.instanceMethod yX12_about ∈ lwG := lwG_of (List.mem_of_getElem? (i := 1599) (by decide +kernel)) (by decide +kernel)
theorem wd_1530 : Cond.selects RX12 yX12_about yX12_about ∈ lwG := lwG_of (List.mem_of_getElem? (i := 1600) (by decide +kernel)) (by decide +kernel)
theorem wd_1531 : Cond.code yX12_about cX12_about 2 (some .int) ∈ lwG := lwG_of (List.mem_of_getElem? (i := 1601) (by decide +kernel)) (by decide +kernel)
theorem wd_1532 : Cond.methodLink RL 73 yX12_octet ∈ lwG := lwG_of (List.mem_of_getElem? (i := 1602) (by decide +kernel)) (by decide +kernel)
theorem wd_1533 : Cond.instanceMethod yX12_octet ∈ lwG := lwG_of (List.mem_of_getElem? (i := 1603) (by decide +kernel)) (by decide +kernel)
theorem wd_1534 : Cond.selects RX12 yX12_octet yX12_octet ∈ lwG := lwG_of (List.mem_of_getElem? (i := 1604) (by decide +kernel)) (by decide +kernel)
theorem wd_1535 : Cond.code yX12_octet cX12_octet 2 (some .int) ∈ lwG := lwG_of (List.mem_of_getElem? (i := 1605) (by decide +kernel)) (by decide +kernel)
theorem wd_23 : Cond.classLink RL 7 "DrumLayers" ∈ lwG := lwG_of (List.mem_of_getElem? (i := 93) (by decide +kernel)) (by decide +kernel)
theorem wd_24 : Cond.instantiable RX11 10 ∈ lwG := lwG_of (List.mem_of_getElem? (i := 94) (by decide +kernel)) (by decide +kernel)
theorem wd_25 : Cond.methodLink RL 15 yX11_init ∈ lwG := lwG_of (List.mem_of_getElem? (i := 95) (by decide +kernel)) (by decide +kernel)
theorem wd_26 : Cond.instanceMethod yX11_init ∈ lwG := lwG_of (List.mem_of_getElem? (i := 96) (by decide +kernel)) (by decide +kernel)
theorem wd_27 : Cond.code yX11_init cX11_init 5 none ∈ lwG := lwG_of (List.mem_of_getElem? (i := 97) (by decide +kernel)) (by decide +kernel)
theorem wd_563 : Cond.methodLink RL 21 yX11_feed ∈ lwG := lwG_of (List.mem_of_getElem? (i := 633) (by decide +kernel)) (by decide +kernel)
theorem wd_564 : Cond.instanceMethod yX11_feed ∈ lwG := lwG_of (List.mem_of_getElem? (i := 634) (by decide +kernel)) (by decide +kernel)
theorem wd_565 : Cond.selects RX11 yX11_feed yX11_feed ∈ lwG := lwG_of (List.mem_of_getElem? (i := 635) (by decide +kernel)) (by decide +kernel)
theorem wd_566 : Cond.code yX11_feed cX11_feed 5 (some .int) ∈ lwG := lwG_of (List.mem_of_getElem? (i := 636) (by decide +kernel)) (by decide +kernel)
theorem wd_575 : Cond.methodLink RL 26 yX11_submit ∈ lwG := lwG_of (List.mem_of_getElem? (i := 645) (by decide +kernel)) (by decide +kernel)
theorem wd_576 : Cond.instanceMethod yX11_submit ∈ lwG := lwG_of (List.mem_of_getElem? (i := 646) (by decide +kernel)) (by decide +kernel)
theorem wd_577 : Cond.selects RX11 yX11_submit yX11_submit ∈ lwG := lwG_of (List.mem_of_getElem? (i := 647) (by decide +kernel)) (by decide +kernel)
theorem wd_578 : Cond.code yX11_submit cX11_submit 8 (some .int) ∈ lwG := lwG_of (List.mem_of_getElem? (i := 648) (by decide +kernel)) (by decide +kernel)
theorem wd_609 : Cond.methodLink RL 31 yX11_tick ∈ lwG := lwG_of (List.mem_of_getElem? (i := 679) (by decide +kernel)) (by decide +kernel)
theorem wd_610 : Cond.instanceMethod yX11_tick ∈ lwG := lwG_of (List.mem_of_getElem? (i := 680) (by decide +kernel)) (by decide +kernel)
theorem wd_611 : Cond.selects RX11 yX11_tick yX11_tick ∈ lwG := lwG_of (List.mem_of_getElem? (i := 681) (by decide +kernel)) (by decide +kernel)
theorem wd_612 : Cond.code yX11_tick cX11_tick 5 (some .int) ∈ lwG := lwG_of (List.mem_of_getElem? (i := 682) (by decide +kernel)) (by decide +kernel)
theorem wd_992 : Cond.methodLink RL 36 yX11_done ∈ lwG := lwG_of (List.mem_of_getElem? (i := 1062) (by decide +kernel)) (by decide +kernel)
theorem wd_993 : Cond.instanceMethod yX11_done ∈ lwG := lwG_of (List.mem_of_getElem? (i := 1063) (by decide +kernel)) (by decide +kernel)
theorem wd_994 : Cond.selects RX11 yX11_done yX11_done ∈ lwG := lwG_of (List.mem_of_getElem? (i := 1064) (by decide +kernel)) (by decide +kernel)
theorem wd_995 : Cond.code yX11_done cX11_done 2 (some .boolean) ∈ lwG := lwG_of (List.mem_of_getElem? (i := 1065) (by decide +kernel)) (by decide +kernel)
theorem wl_bool : Cond.arrayClass .boolean ∈ lwG := lwG_of (List.mem_of_getElem? (i := 464) (by decide +kernel)) (by decide +kernel)
theorem wl_byte : Cond.arrayClass .byte ∈ lwG := lwG_of (List.mem_of_getElem? (i := 574) (by decide +kernel)) (by decide +kernel)
theorem wl_int : Cond.arrayClass .int ∈ lwG := lwG_of (List.mem_of_getElem? (i := 130) (by decide +kernel)) (by decide +kernel)
theorem hd_X11_feed : yX11_feed.cls ≠ "java/lang/invoke/MethodHandle" ∧ yX11_feed.cls ≠ "java/lang/invoke/VarHandle" ∧ (parseMethodDescriptor yX11_feed.desc).map (fun d => d.parameters.length) = some 4 := by decide +kernel
theorem hd_X11_submit : yX11_submit.cls ≠ "java/lang/invoke/MethodHandle" ∧ yX11_submit.cls ≠ "java/lang/invoke/VarHandle" ∧ (parseMethodDescriptor yX11_submit.desc).map (fun d => d.parameters.length) = some 5 := by decide +kernel
theorem hd_X11_tick : yX11_tick.cls ≠ "java/lang/invoke/MethodHandle" ∧ yX11_tick.cls ≠ "java/lang/invoke/VarHandle" ∧ (parseMethodDescriptor yX11_tick.desc).map (fun d => d.parameters.length) = some 1 := by decide +kernel
theorem hd_X11_done : yX11_done.cls ≠ "java/lang/invoke/MethodHandle" ∧ yX11_done.cls ≠ "java/lang/invoke/VarHandle" ∧ (parseMethodDescriptor yX11_done.desc).map (fun d => d.parameters.length) = some 1 := by decide +kernel
theorem hd_X11_type : yX11_type.cls ≠ "java/lang/invoke/MethodHandle" ∧ yX11_type.cls ≠ "java/lang/invoke/VarHandle" ∧ (parseMethodDescriptor yX11_type.desc).map (fun d => d.parameters.length) = some 1 := by decide +kernel
theorem hd_X11_process : yX11_process.cls ≠ "java/lang/invoke/MethodHandle" ∧ yX11_process.cls ≠ "java/lang/invoke/VarHandle" ∧ (parseMethodDescriptor yX11_process.desc).map (fun d => d.parameters.length) = some 2 := by decide +kernel
theorem hd_X11_job : yX11_job.cls ≠ "java/lang/invoke/MethodHandle" ∧ yX11_job.cls ≠ "java/lang/invoke/VarHandle" ∧ (parseMethodDescriptor yX11_job.desc).map (fun d => d.parameters.length) = some 2 := by decide +kernel
theorem hd_X11_paper : yX11_paper.cls ≠ "java/lang/invoke/MethodHandle" ∧ yX11_paper.cls ≠ "java/lang/invoke/VarHandle" ∧ (parseMethodDescriptor yX11_paper.desc).map (fun d => d.parameters.length) = some 2 := by decide +kernel
theorem hd_X11_word : yX11_word.cls ≠ "java/lang/invoke/MethodHandle" ∧ yX11_word.cls ≠ "java/lang/invoke/VarHandle" ∧ (parseMethodDescriptor yX11_word.desc).map (fun d => d.parameters.length) = some 2 := by decide +kernel
theorem hd_X11_frame : yX11_frame.cls ≠ "java/lang/invoke/MethodHandle" ∧ yX11_frame.cls ≠ "java/lang/invoke/VarHandle" ∧ (parseMethodDescriptor yX11_frame.desc).map (fun d => d.parameters.length) = some 2 := by decide +kernel
theorem hd_X11_about : yX11_about.cls ≠ "java/lang/invoke/MethodHandle" ∧ yX11_about.cls ≠ "java/lang/invoke/VarHandle" ∧ (parseMethodDescriptor yX11_about.desc).map (fun d => d.parameters.length) = some 1 := by decide +kernel
theorem hd_X11_octet : yX11_octet.cls ≠ "java/lang/invoke/MethodHandle" ∧ yX11_octet.cls ≠ "java/lang/invoke/VarHandle" ∧ (parseMethodDescriptor yX11_octet.desc).map (fun d => d.parameters.length) = some 1 := by decide +kernel
theorem hd_X11_init : yX11_init.cls ≠ "java/lang/invoke/MethodHandle" ∧ yX11_init.cls ≠ "java/lang/invoke/VarHandle" ∧ (parseMethodDescriptor yX11_init.desc).map (fun d => d.parameters.length) = some 3 := by decide +kernel
theorem hd_X12_feed : yX12_feed.cls ≠ "java/lang/invoke/MethodHandle" ∧ yX12_feed.cls ≠ "java/lang/invoke/VarHandle" ∧ (parseMethodDescriptor yX12_feed.desc).map (fun d => d.parameters.length) = some 4 := by decide +kernel
theorem hd_X12_submit : yX12_submit.cls ≠ "java/lang/invoke/MethodHandle" ∧ yX12_submit.cls ≠ "java/lang/invoke/VarHandle" ∧ (parseMethodDescriptor yX12_submit.desc).map (fun d => d.parameters.length) = some 5 := by decide +kernel
theorem hd_X12_tick : yX12_tick.cls ≠ "java/lang/invoke/MethodHandle" ∧ yX12_tick.cls ≠ "java/lang/invoke/VarHandle" ∧ (parseMethodDescriptor yX12_tick.desc).map (fun d => d.parameters.length) = some 1 := by decide +kernel
theorem hd_X12_done : yX12_done.cls ≠ "java/lang/invoke/MethodHandle" ∧ yX12_done.cls ≠ "java/lang/invoke/VarHandle" ∧ (parseMethodDescriptor yX12_done.desc).map (fun d => d.parameters.length) = some 1 := by decide +kernel
theorem hd_X12_type : yX12_type.cls ≠ "java/lang/invoke/MethodHandle" ∧ yX12_type.cls ≠ "java/lang/invoke/VarHandle" ∧ (parseMethodDescriptor yX12_type.desc).map (fun d => d.parameters.length) = some 1 := by decide +kernel
theorem hd_X12_process : yX12_process.cls ≠ "java/lang/invoke/MethodHandle" ∧ yX12_process.cls ≠ "java/lang/invoke/VarHandle" ∧ (parseMethodDescriptor yX12_process.desc).map (fun d => d.parameters.length) = some 2 := by decide +kernel
theorem hd_X12_job : yX12_job.cls ≠ "java/lang/invoke/MethodHandle" ∧ yX12_job.cls ≠ "java/lang/invoke/VarHandle" ∧ (parseMethodDescriptor yX12_job.desc).map (fun d => d.parameters.length) = some 2 := by decide +kernel
theorem hd_X12_paper : yX12_paper.cls ≠ "java/lang/invoke/MethodHandle" ∧ yX12_paper.cls ≠ "java/lang/invoke/VarHandle" ∧ (parseMethodDescriptor yX12_paper.desc).map (fun d => d.parameters.length) = some 2 := by decide +kernel
theorem hd_X12_word : yX12_word.cls ≠ "java/lang/invoke/MethodHandle" ∧ yX12_word.cls ≠ "java/lang/invoke/VarHandle" ∧ (parseMethodDescriptor yX12_word.desc).map (fun d => d.parameters.length) = some 2 := by decide +kernel
theorem hd_X12_frame : yX12_frame.cls ≠ "java/lang/invoke/MethodHandle" ∧ yX12_frame.cls ≠ "java/lang/invoke/VarHandle" ∧ (parseMethodDescriptor yX12_frame.desc).map (fun d => d.parameters.length) = some 2 := by decide +kernel
theorem hd_X12_about : yX12_about.cls ≠ "java/lang/invoke/MethodHandle" ∧ yX12_about.cls ≠ "java/lang/invoke/VarHandle" ∧ (parseMethodDescriptor yX12_about.desc).map (fun d => d.parameters.length) = some 1 := by decide +kernel
theorem hd_X12_octet : yX12_octet.cls ≠ "java/lang/invoke/MethodHandle" ∧ yX12_octet.cls ≠ "java/lang/invoke/VarHandle" ∧ (parseMethodDescriptor yX12_octet.desc).map (fun d => d.parameters.length) = some 1 := by decide +kernel
theorem hd_X12_init : yX12_init.cls ≠ "java/lang/invoke/MethodHandle" ∧ yX12_init.cls ≠ "java/lang/invoke/VarHandle" ∧ (parseMethodDescriptor yX12_init.desc).map (fun d => d.parameters.length) = some 3 := by decide +kernel
theorem df_X11 : ∀ j, j < 10 → defaultValue (tyX11 j) = vp_V [.null, .null, .null, .null, .null, .null, .null, .null, .null, .int 0] j := by decide +kernel
theorem df_X12 : ∀ j, j < 71 → defaultValue (tyX12 j) = vp_V [.int 0, .int 0, .int 0, .null, .int 0, .int 0, .int 0, .int 0, .null, .null, .null, .null, .null, .null, .null, .null, .null, .null, .null, .null, .null, .null, .null, .null, .null, .int 0, .null, .null, .null, .null, .null, .null, .null, .null, .null, .null, .null, .null, .null, .null, .null, .null, .null, .null, .int 0, .int 0, .int 0, .int 0, .int 0, .int 0, .int 0, .int 0, .int 0, .int 0, .int 0, .int 0, .null, .null, .null, .null, .int 0, .int 0, .int 0, .null, .null, .null, .null, .int 0, .int 0, .int 0, .null] j := by decide +kernel
