abbrev yL_law : MethodName := x
abbrev kL_law : bz_M := (yL_law, cL_law, 4, (some .boolean))
theorem cl_L_7 : Cond.classLink RL 7 RX11 ∈ bz_tbl := bz_mem 105 (by decide +kernel) (by decide +kernel)
theorem it_11 : Cond.instantiable RX11 9 ∈ bz_tbl := bz_mem 106 (by decide +kernel) (by decide +kernel)
theorem ii_11 : Cond.initialized RX11 ∈ bz_tbl := bz_mem 84 (by decide +kernel) (by decide +kernel)
theorem df_11 (G : bz_G) : ∀ j, j < 9 → defaultValue (bz_tyOf 11 j) = vp_V (List.map (bz_v G) [.inr none, .inr none, .inl 0, .inr none, .inr none, .inr none, .inr none, .inr none, .inr none]) j := by
  intro j hj
  match j, hj with
  | 0, _ => rfl
  | 1, _ => rfl
  | 2, _ => rfl
  | 3, _ => rfl
  | 4, _ => rfl
  | 5, _ => rfl
  | 6, _ => rfl
  | 7, _ => rfl
  | 8, _ => rfl
  | n + 9, h => exact absurd h (by omega)
theorem ml_L_9 : Cond.methodLink RL 9 yX11_init ∈ bz_tbl := bz_mem 107 (by decide +kernel) (by decide +kernel)
theorem im_X11_init : Cond.instanceMethod yX11_init ∈ bz_tbl := bz_mem 108 (by decide +kernel) (by decide +kernel)
theorem cl_L_10 : Cond.classLink RL 10 RX12 ∈ bz_tbl := bz_mem 1250 (by decide +kernel) (by decide +kernel)
theorem it_12 : Cond.instantiable RX12 34 ∈ bz_tbl := bz_mem 1251 (by decide +kernel) (by decide +kernel)
theorem ii_12 : Cond.initialized RX12 ∈ bz_tbl := bz_mem 96 (by decide +kernel) (by decide +kernel)
theorem df_12 (G : bz_G) : ∀ j, j < 34 → defaultValue (bz_tyOf 12 j) = vp_V (List.map (bz_v G) [.inr none, .inr none, .inl 0, .inr none, .inr none, .inl 0, .inl 0, .inl 0, .inl 0, .inr none, .inr none, .inl 0, .inl 0, .inr none, .inl 0, .inl 0, .inl 0, .inl 0, .inl 0, .inl 0, .inl 0, .inr none, .inr none, .inr none, .inr none, .inr none, .inr none, .inr none, .inl 0, .inl 0, .inr none, .inr none, .inr none, .inr none]) j := by
  intro j hj
  match j, hj with
  | 0, _ => rfl
  | 1, _ => rfl
  | 2, _ => rfl
  | 3, _ => rfl
  | 4, _ => rfl
  | 5, _ => rfl
  | 6, _ => rfl
  | 7, _ => rfl
  | 8, _ => rfl
  | 9, _ => rfl
  | 10, _ => rfl
  | 11, _ => rfl
  | 12, _ => rfl
  | 13, _ => rfl
  | 14, _ => rfl
  | 15, _ => rfl
  | 16, _ => rfl
  | 17, _ => rfl
  | 18, _ => rfl
  | 19, _ => rfl
  | 20, _ => rfl
  | 21, _ => rfl
  | 22, _ => rfl
  | 23, _ => rfl
  | 24, _ => rfl
  | 25, _ => rfl
  | 26, _ => rfl
  | 27, _ => rfl
  | 28, _ => rfl
  | 29, _ => rfl
  | 30, _ => rfl
  | 31, _ => rfl
  | 32, _ => rfl
  | 33, _ => rfl
  | n + 34, h => exact absurd h (by omega)
theorem ml_L_12 : Cond.methodLink RL 12 yX12_init ∈ bz_tbl := bz_mem 1252 (by decide +kernel) (by decide +kernel)
theorem im_X12_init : Cond.instanceMethod yX12_init ∈ bz_tbl := bz_mem 1253 (by decide +kernel) (by decide +kernel)
theorem cb_63 : (Int8.ofInt 63).toInt32 = 63 := by decide
theorem ml_L_13 : Cond.methodLink RL 13 yX11_crossing ∈ bz_tbl := bz_mem 552 (by decide +kernel) (by decide +kernel)
theorem im_X11_crossing : Cond.instanceMethod yX11_crossing ∈ bz_tbl := bz_mem 553 (by decide +kernel) (by decide +kernel)
theorem se_X11_crossing : Cond.selects RX11 yX11_crossing yX11_crossing ∈ bz_tbl := bz_mem 554 (by decide +kernel) (by decide +kernel)
theorem ml_L_17 : Cond.methodLink RL 17 yX12_crossing ∈ bz_tbl := bz_mem 1359 (by decide +kernel) (by decide +kernel)
theorem im_X12_crossing : Cond.instanceMethod yX12_crossing ∈ bz_tbl := bz_mem 1360 (by decide +kernel) (by decide +kernel)
theorem se_X12_crossing : Cond.selects RX12 yX12_crossing yX12_crossing ∈ bz_tbl := bz_mem 1361 (by decide +kernel) (by decide +kernel)
theorem ml_L_18 : Cond.methodLink RL 18 yX11_road ∈ bz_tbl := bz_mem 594 (by decide +kernel) (by decide +kernel)
theorem im_X11_road : Cond.instanceMethod yX11_road ∈ bz_tbl := bz_mem 595 (by decide +kernel) (by decide +kernel)
theorem se_X11_road : Cond.selects RX11 yX11_road yX11_road ∈ bz_tbl := bz_mem 596 (by decide +kernel) (by decide +kernel)
theorem ml_L_21 : Cond.methodLink RL 21 yX12_road ∈ bz_tbl := bz_mem 1378 (by decide +kernel) (by decide +kernel)
theorem im_X12_road : Cond.instanceMethod yX12_road ∈ bz_tbl := bz_mem 1379 (by decide +kernel) (by decide +kernel)
theorem se_X12_road : Cond.selects RX12 yX12_road yX12_road ∈ bz_tbl := bz_mem 1380 (by decide +kernel) (by decide +kernel)
theorem ml_L_22 : Cond.methodLink RL 22 yX11_way ∈ bz_tbl := bz_mem 605 (by decide +kernel) (by decide +kernel)
theorem im_X11_way : Cond.instanceMethod yX11_way ∈ bz_tbl := bz_mem 606 (by decide +kernel) (by decide +kernel)
theorem se_X11_way : Cond.selects RX11 yX11_way yX11_way ∈ bz_tbl := bz_mem 607 (by decide +kernel) (by decide +kernel)
theorem ml_L_26 : Cond.methodLink RL 26 yX12_way ∈ bz_tbl := bz_mem 1389 (by decide +kernel) (by decide +kernel)
theorem im_X12_way : Cond.instanceMethod yX12_way ∈ bz_tbl := bz_mem 1390 (by decide +kernel) (by decide +kernel)
theorem se_X12_way : Cond.selects RX12 yX12_way yX12_way ∈ bz_tbl := bz_mem 1391 (by decide +kernel) (by decide +kernel)
theorem ml_L_27 : Cond.methodLink RL 27 yX11_minutes ∈ bz_tbl := bz_mem 611 (by decide +kernel) (by decide +kernel)
theorem im_X11_minutes : Cond.instanceMethod yX11_minutes ∈ bz_tbl := bz_mem 612 (by decide +kernel) (by decide +kernel)
theorem se_X11_minutes : Cond.selects RX11 yX11_minutes yX11_minutes ∈ bz_tbl := bz_mem 613 (by decide +kernel) (by decide +kernel)
theorem ml_L_31 : Cond.methodLink RL 31 yX12_minutes ∈ bz_tbl := bz_mem 1402 (by decide +kernel) (by decide +kernel)
theorem im_X12_minutes : Cond.instanceMethod yX12_minutes ∈ bz_tbl := bz_mem 1403 (by decide +kernel) (by decide +kernel)
theorem se_X12_minutes : Cond.selects RX12 yX12_minutes yX12_minutes ∈ bz_tbl := bz_mem 1404 (by decide +kernel) (by decide +kernel)
theorem ml_L_32 : Cond.methodLink RL 32 yX11_kitchen ∈ bz_tbl := bz_mem 616 (by decide +kernel) (by decide +kernel)
theorem im_X11_kitchen : Cond.instanceMethod yX11_kitchen ∈ bz_tbl := bz_mem 617 (by decide +kernel) (by decide +kernel)
theorem se_X11_kitchen : Cond.selects RX11 yX11_kitchen yX11_kitchen ∈ bz_tbl := bz_mem 618 (by decide +kernel) (by decide +kernel)
theorem ml_L_35 : Cond.methodLink RL 35 yX12_kitchen ∈ bz_tbl := bz_mem 1406 (by decide +kernel) (by decide +kernel)
theorem im_X12_kitchen : Cond.instanceMethod yX12_kitchen ∈ bz_tbl := bz_mem 1407 (by decide +kernel) (by decide +kernel)
theorem se_X12_kitchen : Cond.selects RX12 yX12_kitchen yX12_kitchen ∈ bz_tbl := bz_mem 1408 (by decide +kernel) (by decide +kernel)
theorem ml_L_36 : Cond.methodLink RL 36 yX11_order ∈ bz_tbl := bz_mem 630 (by decide +kernel) (by decide +kernel)
theorem im_X11_order : Cond.instanceMethod yX11_order ∈ bz_tbl := bz_mem 631 (by decide +kernel) (by decide +kernel)
theorem se_X11_order : Cond.selects RX11 yX11_order yX11_order ∈ bz_tbl := bz_mem 632 (by decide +kernel) (by decide +kernel)
theorem ml_L_40 : Cond.methodLink RL 40 yX12_order ∈ bz_tbl := bz_mem 1410 (by decide +kernel) (by decide +kernel)
theorem im_X12_order : Cond.instanceMethod yX12_order ∈ bz_tbl := bz_mem 1411 (by decide +kernel) (by decide +kernel)
theorem se_X12_order : Cond.selects RX12 yX12_order yX12_order ∈ bz_tbl := bz_mem 1412 (by decide +kernel) (by decide +kernel)
theorem ml_L_41 : Cond.methodLink RL 41 yX11_orderOf ∈ bz_tbl := bz_mem 643 (by decide +kernel) (by decide +kernel)
theorem im_X11_orderOf : Cond.instanceMethod yX11_orderOf ∈ bz_tbl := bz_mem 644 (by decide +kernel) (by decide +kernel)
theorem se_X11_orderOf : Cond.selects RX11 yX11_orderOf yX11_orderOf ∈ bz_tbl := bz_mem 645 (by decide +kernel) (by decide +kernel)
theorem ml_L_44 : Cond.methodLink RL 44 yX12_orderOf ∈ bz_tbl := bz_mem 1414 (by decide +kernel) (by decide +kernel)
theorem im_X12_orderOf : Cond.instanceMethod yX12_orderOf ∈ bz_tbl := bz_mem 1415 (by decide +kernel) (by decide +kernel)
theorem se_X12_orderOf : Cond.selects RX12 yX12_orderOf yX12_orderOf ∈ bz_tbl := bz_mem 1416 (by decide +kernel) (by decide +kernel)
theorem ml_L_45 : Cond.methodLink RL 45 yX11_callOff ∈ bz_tbl := bz_mem 661 (by decide +kernel) (by decide +kernel)
theorem im_X11_callOff : Cond.instanceMethod yX11_callOff ∈ bz_tbl := bz_mem 662 (by decide +kernel) (by decide +kernel)
theorem se_X11_callOff : Cond.selects RX11 yX11_callOff yX11_callOff ∈ bz_tbl := bz_mem 663 (by decide +kernel) (by decide +kernel)
theorem ml_L_48 : Cond.methodLink RL 48 yX12_callOff ∈ bz_tbl := bz_mem 1457 (by decide +kernel) (by decide +kernel)
theorem im_X12_callOff : Cond.instanceMethod yX12_callOff ∈ bz_tbl := bz_mem 1458 (by decide +kernel) (by decide +kernel)
theorem se_X12_callOff : Cond.selects RX12 yX12_callOff yX12_callOff ∈ bz_tbl := bz_mem 1459 (by decide +kernel) (by decide +kernel)
theorem ml_L_49 : Cond.methodLink RL 49 yX11_rider ∈ bz_tbl := bz_mem 665 (by decide +kernel) (by decide +kernel)
theorem im_X11_rider : Cond.instanceMethod yX11_rider ∈ bz_tbl := bz_mem 666 (by decide +kernel) (by decide +kernel)
theorem se_X11_rider : Cond.selects RX11 yX11_rider yX11_rider ∈ bz_tbl := bz_mem 667 (by decide +kernel) (by decide +kernel)
theorem ml_L_52 : Cond.methodLink RL 52 yX12_rider ∈ bz_tbl := bz_mem 1465 (by decide +kernel) (by decide +kernel)
theorem im_X12_rider : Cond.instanceMethod yX12_rider ∈ bz_tbl := bz_mem 1466 (by decide +kernel) (by decide +kernel)
theorem se_X12_rider : Cond.selects RX12 yX12_rider yX12_rider ∈ bz_tbl := bz_mem 1467 (by decide +kernel) (by decide +kernel)
theorem ml_L_53 : Cond.methodLink RL 53 yX11_riderOf ∈ bz_tbl := bz_mem 677 (by decide +kernel) (by decide +kernel)
theorem im_X11_riderOf : Cond.instanceMethod yX11_riderOf ∈ bz_tbl := bz_mem 678 (by decide +kernel) (by decide +kernel)
theorem se_X11_riderOf : Cond.selects RX11 yX11_riderOf yX11_riderOf ∈ bz_tbl := bz_mem 679 (by decide +kernel) (by decide +kernel)
theorem ml_L_56 : Cond.methodLink RL 56 yX12_riderOf ∈ bz_tbl := bz_mem 1469 (by decide +kernel) (by decide +kernel)
theorem im_X12_riderOf : Cond.instanceMethod yX12_riderOf ∈ bz_tbl := bz_mem 1470 (by decide +kernel) (by decide +kernel)
theorem se_X12_riderOf : Cond.selects RX12 yX12_riderOf yX12_riderOf ∈ bz_tbl := bz_mem 1471 (by decide +kernel) (by decide +kernel)
theorem ml_L_57 : Cond.methodLink RL 57 yX11_goes ∈ bz_tbl := bz_mem 702 (by decide +kernel) (by decide +kernel)
theorem im_X11_goes : Cond.instanceMethod yX11_goes ∈ bz_tbl := bz_mem 703 (by decide +kernel) (by decide +kernel)
theorem se_X11_goes : Cond.selects RX11 yX11_goes yX11_goes ∈ bz_tbl := bz_mem 704 (by decide +kernel) (by decide +kernel)
theorem ml_L_60 : Cond.methodLink RL 60 yX12_goes ∈ bz_tbl := bz_mem 1501 (by decide +kernel) (by decide +kernel)
theorem im_X12_goes : Cond.instanceMethod yX12_goes ∈ bz_tbl := bz_mem 1502 (by decide +kernel) (by decide +kernel)
theorem se_X12_goes : Cond.selects RX12 yX12_goes yX12_goes ∈ bz_tbl := bz_mem 1503 (by decide +kernel) (by decide +kernel)
theorem ml_L_61 : Cond.methodLink RL 61 yX11_trip ∈ bz_tbl := bz_mem 710 (by decide +kernel) (by decide +kernel)
theorem im_X11_trip : Cond.instanceMethod yX11_trip ∈ bz_tbl := bz_mem 711 (by decide +kernel) (by decide +kernel)
theorem se_X11_trip : Cond.selects RX11 yX11_trip yX11_trip ∈ bz_tbl := bz_mem 712 (by decide +kernel) (by decide +kernel)
theorem ml_L_64 : Cond.methodLink RL 64 yX12_trip ∈ bz_tbl := bz_mem 1512 (by decide +kernel) (by decide +kernel)
theorem im_X12_trip : Cond.instanceMethod yX12_trip ∈ bz_tbl := bz_mem 1513 (by decide +kernel) (by decide +kernel)
theorem se_X12_trip : Cond.selects RX12 yX12_trip yX12_trip ∈ bz_tbl := bz_mem 1514 (by decide +kernel) (by decide +kernel)
theorem ml_L_65 : Cond.methodLink RL 65 yX11_join ∈ bz_tbl := bz_mem 748 (by decide +kernel) (by decide +kernel)
theorem im_X11_join : Cond.instanceMethod yX11_join ∈ bz_tbl := bz_mem 749 (by decide +kernel) (by decide +kernel)
theorem se_X11_join : Cond.selects RX11 yX11_join yX11_join ∈ bz_tbl := bz_mem 750 (by decide +kernel) (by decide +kernel)
theorem ml_L_68 : Cond.methodLink RL 68 yX12_join ∈ bz_tbl := bz_mem 1548 (by decide +kernel) (by decide +kernel)
theorem im_X12_join : Cond.instanceMethod yX12_join ∈ bz_tbl := bz_mem 1549 (by decide +kernel) (by decide +kernel)
theorem se_X12_join : Cond.selects RX12 yX12_join yX12_join ∈ bz_tbl := bz_mem 1550 (by decide +kernel) (by decide +kernel)
theorem ml_L_69 : Cond.methodLink RL 69 yX11_give ∈ bz_tbl := bz_mem 761 (by decide +kernel) (by decide +kernel)
theorem im_X11_give : Cond.instanceMethod yX11_give ∈ bz_tbl := bz_mem 762 (by decide +kernel) (by decide +kernel)
theorem se_X11_give : Cond.selects RX11 yX11_give yX11_give ∈ bz_tbl := bz_mem 763 (by decide +kernel) (by decide +kernel)
theorem ml_L_72 : Cond.methodLink RL 72 yX12_give ∈ bz_tbl := bz_mem 1567 (by decide +kernel) (by decide +kernel)
theorem im_X12_give : Cond.instanceMethod yX12_give ∈ bz_tbl := bz_mem 1568 (by decide +kernel) (by decide +kernel)
theorem se_X12_give : Cond.selects RX12 yX12_give yX12_give ∈ bz_tbl := bz_mem 1569 (by decide +kernel) (by decide +kernel)
theorem ml_L_73 : Cond.methodLink RL 73 yX11_giveTwo ∈ bz_tbl := bz_mem 827 (by decide +kernel) (by decide +kernel)
theorem im_X11_giveTwo : Cond.instanceMethod yX11_giveTwo ∈ bz_tbl := bz_mem 828 (by decide +kernel) (by decide +kernel)
theorem se_X11_giveTwo : Cond.selects RX11 yX11_giveTwo yX11_giveTwo ∈ bz_tbl := bz_mem 829 (by decide +kernel) (by decide +kernel)
theorem ml_L_76 : Cond.methodLink RL 76 yX12_giveTwo ∈ bz_tbl := bz_mem 1601 (by decide +kernel) (by decide +kernel)
theorem im_X12_giveTwo : Cond.instanceMethod yX12_giveTwo ∈ bz_tbl := bz_mem 1602 (by decide +kernel) (by decide +kernel)
theorem se_X12_giveTwo : Cond.selects RX12 yX12_giveTwo yX12_giveTwo ∈ bz_tbl := bz_mem 1603 (by decide +kernel) (by decide +kernel)
theorem ml_L_77 : Cond.methodLink RL 77 yX11_feed ∈ bz_tbl := bz_mem 835 (by decide +kernel) (by decide +kernel)
theorem im_X11_feed : Cond.instanceMethod yX11_feed ∈ bz_tbl := bz_mem 836 (by decide +kernel) (by decide +kernel)
theorem se_X11_feed : Cond.selects RX11 yX11_feed yX11_feed ∈ bz_tbl := bz_mem 837 (by decide +kernel) (by decide +kernel)
theorem ml_L_80 : Cond.methodLink RL 80 yX12_feed ∈ bz_tbl := bz_mem 1605 (by decide +kernel) (by decide +kernel)
theorem im_X12_feed : Cond.instanceMethod yX12_feed ∈ bz_tbl := bz_mem 1606 (by decide +kernel) (by decide +kernel)
theorem se_X12_feed : Cond.selects RX12 yX12_feed yX12_feed ∈ bz_tbl := bz_mem 1607 (by decide +kernel) (by decide +kernel)
theorem ml_L_81 : Cond.methodLink RL 81 yX11_wipe ∈ bz_tbl := bz_mem 843 (by decide +kernel) (by decide +kernel)
theorem im_X11_wipe : Cond.instanceMethod yX11_wipe ∈ bz_tbl := bz_mem 844 (by decide +kernel) (by decide +kernel)
theorem se_X11_wipe : Cond.selects RX11 yX11_wipe yX11_wipe ∈ bz_tbl := bz_mem 845 (by decide +kernel) (by decide +kernel)
theorem ml_L_85 : Cond.methodLink RL 85 yX12_wipe ∈ bz_tbl := bz_mem 1609 (by decide +kernel) (by decide +kernel)
theorem im_X12_wipe : Cond.instanceMethod yX12_wipe ∈ bz_tbl := bz_mem 1610 (by decide +kernel) (by decide +kernel)
theorem se_X12_wipe : Cond.selects RX12 yX12_wipe yX12_wipe ∈ bz_tbl := bz_mem 1611 (by decide +kernel) (by decide +kernel)
theorem ml_L_86 : Cond.methodLink RL 86 yX11_text ∈ bz_tbl := bz_mem 847 (by decide +kernel) (by decide +kernel)
theorem im_X11_text : Cond.instanceMethod yX11_text ∈ bz_tbl := bz_mem 848 (by decide +kernel) (by decide +kernel)
theorem se_X11_text : Cond.selects RX11 yX11_text yX11_text ∈ bz_tbl := bz_mem 849 (by decide +kernel) (by decide +kernel)
theorem ml_L_89 : Cond.methodLink RL 89 yX12_text ∈ bz_tbl := bz_mem 1613 (by decide +kernel) (by decide +kernel)
theorem im_X12_text : Cond.instanceMethod yX12_text ∈ bz_tbl := bz_mem 1614 (by decide +kernel) (by decide +kernel)
theorem se_X12_text : Cond.selects RX12 yX12_text yX12_text ∈ bz_tbl := bz_mem 1615 (by decide +kernel) (by decide +kernel)
theorem ml_L_90 : Cond.methodLink RL 90 yX11_force ∈ bz_tbl := bz_mem 997 (by decide +kernel) (by decide +kernel)
theorem im_X11_force : Cond.instanceMethod yX11_force ∈ bz_tbl := bz_mem 998 (by decide +kernel) (by decide +kernel)
theorem se_X11_force : Cond.selects RX11 yX11_force yX11_force ∈ bz_tbl := bz_mem 999 (by decide +kernel) (by decide +kernel)
theorem ml_L_93 : Cond.methodLink RL 93 yX12_force ∈ bz_tbl := bz_mem 1659 (by decide +kernel) (by decide +kernel)
theorem im_X12_force : Cond.instanceMethod yX12_force ∈ bz_tbl := bz_mem 1660 (by decide +kernel) (by decide +kernel)
theorem se_X12_force : Cond.selects RX12 yX12_force yX12_force ∈ bz_tbl := bz_mem 1661 (by decide +kernel) (by decide +kernel)
theorem ml_L_94 : Cond.methodLink RL 94 yX11_says ∈ bz_tbl := bz_mem 1001 (by decide +kernel) (by decide +kernel)
theorem im_X11_says : Cond.instanceMethod yX11_says ∈ bz_tbl := bz_mem 1002 (by decide +kernel) (by decide +kernel)
theorem se_X11_says : Cond.selects RX11 yX11_says yX11_says ∈ bz_tbl := bz_mem 1003 (by decide +kernel) (by decide +kernel)
theorem ml_L_97 : Cond.methodLink RL 97 yX12_says ∈ bz_tbl := bz_mem 1667 (by decide +kernel) (by decide +kernel)
theorem im_X12_says : Cond.instanceMethod yX12_says ∈ bz_tbl := bz_mem 1668 (by decide +kernel) (by decide +kernel)
theorem se_X12_says : Cond.selects RX12 yX12_says yX12_says ∈ bz_tbl := bz_mem 1669 (by decide +kernel) (by decide +kernel)
theorem ml_L_98 : Cond.methodLink RL 98 yX11_offered ∈ bz_tbl := bz_mem 1005 (by decide +kernel) (by decide +kernel)
theorem im_X11_offered : Cond.instanceMethod yX11_offered ∈ bz_tbl := bz_mem 1006 (by decide +kernel) (by decide +kernel)
theorem se_X11_offered : Cond.selects RX11 yX11_offered yX11_offered ∈ bz_tbl := bz_mem 1007 (by decide +kernel) (by decide +kernel)
theorem ml_L_101 : Cond.methodLink RL 101 yX12_offered ∈ bz_tbl := bz_mem 1675 (by decide +kernel) (by decide +kernel)
theorem im_X12_offered : Cond.instanceMethod yX12_offered ∈ bz_tbl := bz_mem 1676 (by decide +kernel) (by decide +kernel)
theorem se_X12_offered : Cond.selects RX12 yX12_offered yX12_offered ∈ bz_tbl := bz_mem 1677 (by decide +kernel) (by decide +kernel)
theorem ml_L_102 : Cond.methodLink RL 102 yX11_refuse ∈ bz_tbl := bz_mem 1017 (by decide +kernel) (by decide +kernel)
theorem im_X11_refuse : Cond.instanceMethod yX11_refuse ∈ bz_tbl := bz_mem 1018 (by decide +kernel) (by decide +kernel)
theorem se_X11_refuse : Cond.selects RX11 yX11_refuse yX11_refuse ∈ bz_tbl := bz_mem 1019 (by decide +kernel) (by decide +kernel)
theorem ml_L_105 : Cond.methodLink RL 105 yX12_refuse ∈ bz_tbl := bz_mem 1683 (by decide +kernel) (by decide +kernel)
theorem im_X12_refuse : Cond.instanceMethod yX12_refuse ∈ bz_tbl := bz_mem 1684 (by decide +kernel) (by decide +kernel)
theorem se_X12_refuse : Cond.selects RX12 yX12_refuse yX12_refuse ∈ bz_tbl := bz_mem 1685 (by decide +kernel) (by decide +kernel)
theorem ml_L_106 : Cond.methodLink RL 106 yX11_offerAll ∈ bz_tbl := bz_mem 1021 (by decide +kernel) (by decide +kernel)
theorem im_X11_offerAll : Cond.instanceMethod yX11_offerAll ∈ bz_tbl := bz_mem 1022 (by decide +kernel) (by decide +kernel)
theorem se_X11_offerAll : Cond.selects RX11 yX11_offerAll yX11_offerAll ∈ bz_tbl := bz_mem 1023 (by decide +kernel) (by decide +kernel)
theorem ml_L_109 : Cond.methodLink RL 109 yX12_offerAll ∈ bz_tbl := bz_mem 1687 (by decide +kernel) (by decide +kernel)
theorem im_X12_offerAll : Cond.instanceMethod yX12_offerAll ∈ bz_tbl := bz_mem 1688 (by decide +kernel) (by decide +kernel)
theorem se_X12_offerAll : Cond.selects RX12 yX12_offerAll yX12_offerAll ∈ bz_tbl := bz_mem 1689 (by decide +kernel) (by decide +kernel)
theorem ml_L_110 : Cond.methodLink RL 110 yX11_rain ∈ bz_tbl := bz_mem 1025 (by decide +kernel) (by decide +kernel)
theorem im_X11_rain : Cond.instanceMethod yX11_rain ∈ bz_tbl := bz_mem 1026 (by decide +kernel) (by decide +kernel)
theorem se_X11_rain : Cond.selects RX11 yX11_rain yX11_rain ∈ bz_tbl := bz_mem 1027 (by decide +kernel) (by decide +kernel)
theorem ml_L_113 : Cond.methodLink RL 113 yX12_rain ∈ bz_tbl := bz_mem 1691 (by decide +kernel) (by decide +kernel)
theorem im_X12_rain : Cond.instanceMethod yX12_rain ∈ bz_tbl := bz_mem 1692 (by decide +kernel) (by decide +kernel)
theorem se_X12_rain : Cond.selects RX12 yX12_rain yX12_rain ∈ bz_tbl := bz_mem 1693 (by decide +kernel) (by decide +kernel)
theorem ml_L_114 : Cond.methodLink RL 114 yX11_law ∈ bz_tbl := bz_mem 1032 (by decide +kernel) (by decide +kernel)
theorem im_X11_law : Cond.instanceMethod yX11_law ∈ bz_tbl := bz_mem 1033 (by decide +kernel) (by decide +kernel)
theorem se_X11_law : Cond.selects RX11 yX11_law yX11_law ∈ bz_tbl := bz_mem 1034 (by decide +kernel) (by decide +kernel)
theorem ml_L_117 : Cond.methodLink RL 117 yX12_law ∈ bz_tbl := bz_mem 1698 (by decide +kernel) (by decide +kernel)
theorem im_X12_law : Cond.instanceMethod yX12_law ∈ bz_tbl := bz_mem 1699 (by decide +kernel) (by decide +kernel)
theorem se_X12_law : Cond.selects RX12 yX12_law yX12_law ∈ bz_tbl := bz_mem 1700 (by decide +kernel) (by decide +kernel)
theorem ml_L_118 : Cond.methodLink RL 118 yX11_app ∈ bz_tbl := bz_mem 1036 (by decide +kernel) (by decide +kernel)
theorem im_X11_app : Cond.instanceMethod yX11_app ∈ bz_tbl := bz_mem 1037 (by decide +kernel) (by decide +kernel)
theorem se_X11_app : Cond.selects RX11 yX11_app yX11_app ∈ bz_tbl := bz_mem 1038 (by decide +kernel) (by decide +kernel)
theorem ml_L_121 : Cond.methodLink RL 121 yX12_app ∈ bz_tbl := bz_mem 1702 (by decide +kernel) (by decide +kernel)
theorem im_X12_app : Cond.instanceMethod yX12_app ∈ bz_tbl := bz_mem 1703 (by decide +kernel) (by decide +kernel)
theorem se_X12_app : Cond.selects RX12 yX12_app yX12_app ∈ bz_tbl := bz_mem 1704 (by decide +kernel) (by decide +kernel)
theorem ml_L_122 : Cond.methodLink RL 122 yX11_least ∈ bz_tbl := bz_mem 1040 (by decide +kernel) (by decide +kernel)
theorem im_X11_least : Cond.instanceMethod yX11_least ∈ bz_tbl := bz_mem 1041 (by decide +kernel) (by decide +kernel)
theorem se_X11_least : Cond.selects RX11 yX11_least yX11_least ∈ bz_tbl := bz_mem 1042 (by decide +kernel) (by decide +kernel)
theorem ml_L_125 : Cond.methodLink RL 125 yX12_least ∈ bz_tbl := bz_mem 1706 (by decide +kernel) (by decide +kernel)
theorem im_X12_least : Cond.instanceMethod yX12_least ∈ bz_tbl := bz_mem 1707 (by decide +kernel) (by decide +kernel)
theorem se_X12_least : Cond.selects RX12 yX12_least yX12_least ∈ bz_tbl := bz_mem 1708 (by decide +kernel) (by decide +kernel)
theorem ml_L_126 : Cond.methodLink RL 126 yX11_lacks ∈ bz_tbl := bz_mem 1055 (by decide +kernel) (by decide +kernel)
theorem im_X11_lacks : Cond.instanceMethod yX11_lacks ∈ bz_tbl := bz_mem 1056 (by decide +kernel) (by decide +kernel)
theorem se_X11_lacks : Cond.selects RX11 yX11_lacks yX11_lacks ∈ bz_tbl := bz_mem 1057 (by decide +kernel) (by decide +kernel)
theorem ml_L_129 : Cond.methodLink RL 129 yX12_lacks ∈ bz_tbl := bz_mem 1718 (by decide +kernel) (by decide +kernel)
theorem im_X12_lacks : Cond.instanceMethod yX12_lacks ∈ bz_tbl := bz_mem 1719 (by decide +kernel) (by decide +kernel)
theorem se_X12_lacks : Cond.selects RX12 yX12_lacks yX12_lacks ∈ bz_tbl := bz_mem 1720 (by decide +kernel) (by decide +kernel)
theorem ml_L_130 : Cond.methodLink RL 130 yX11_ban ∈ bz_tbl := bz_mem 1060 (by decide +kernel) (by decide +kernel)
theorem im_X11_ban : Cond.instanceMethod yX11_ban ∈ bz_tbl := bz_mem 1061 (by decide +kernel) (by decide +kernel)
theorem se_X11_ban : Cond.selects RX11 yX11_ban yX11_ban ∈ bz_tbl := bz_mem 1062 (by decide +kernel) (by decide +kernel)
theorem ml_L_133 : Cond.methodLink RL 133 yX12_ban ∈ bz_tbl := bz_mem 1722 (by decide +kernel) (by decide +kernel)
theorem im_X12_ban : Cond.instanceMethod yX12_ban ∈ bz_tbl := bz_mem 1723 (by decide +kernel) (by decide +kernel)
theorem se_X12_ban : Cond.selects RX12 yX12_ban yX12_ban ∈ bz_tbl := bz_mem 1724 (by decide +kernel) (by decide +kernel)
theorem ml_L_134 : Cond.methodLink RL 134 yX11_seen ∈ bz_tbl := bz_mem 1072 (by decide +kernel) (by decide +kernel)
theorem im_X11_seen : Cond.instanceMethod yX11_seen ∈ bz_tbl := bz_mem 1073 (by decide +kernel) (by decide +kernel)
theorem se_X11_seen : Cond.selects RX11 yX11_seen yX11_seen ∈ bz_tbl := bz_mem 1074 (by decide +kernel) (by decide +kernel)
theorem ml_L_137 : Cond.methodLink RL 137 yX12_seen ∈ bz_tbl := bz_mem 1726 (by decide +kernel) (by decide +kernel)
theorem im_X12_seen : Cond.instanceMethod yX12_seen ∈ bz_tbl := bz_mem 1727 (by decide +kernel) (by decide +kernel)
theorem se_X12_seen : Cond.selects RX12 yX12_seen yX12_seen ∈ bz_tbl := bz_mem 1728 (by decide +kernel) (by decide +kernel)
theorem ml_L_138 : Cond.methodLink RL 138 yX11_doubles ∈ bz_tbl := bz_mem 1076 (by decide +kernel) (by decide +kernel)
theorem im_X11_doubles : Cond.instanceMethod yX11_doubles ∈ bz_tbl := bz_mem 1077 (by decide +kernel) (by decide +kernel)
theorem se_X11_doubles : Cond.selects RX11 yX11_doubles yX11_doubles ∈ bz_tbl := bz_mem 1078 (by decide +kernel) (by decide +kernel)
theorem ml_L_141 : Cond.methodLink RL 141 yX12_doubles ∈ bz_tbl := bz_mem 1730 (by decide +kernel) (by decide +kernel)
theorem im_X12_doubles : Cond.instanceMethod yX12_doubles ∈ bz_tbl := bz_mem 1731 (by decide +kernel) (by decide +kernel)
theorem se_X12_doubles : Cond.selects RX12 yX12_doubles yX12_doubles ∈ bz_tbl := bz_mem 1732 (by decide +kernel) (by decide +kernel)
theorem ml_L_142 : Cond.methodLink RL 142 yX11_zone ∈ bz_tbl := bz_mem 1088 (by decide +kernel) (by decide +kernel)
theorem im_X11_zone : Cond.instanceMethod yX11_zone ∈ bz_tbl := bz_mem 1089 (by decide +kernel) (by decide +kernel)
theorem se_X11_zone : Cond.selects RX11 yX11_zone yX11_zone ∈ bz_tbl := bz_mem 1090 (by decide +kernel) (by decide +kernel)
theorem ml_L_145 : Cond.methodLink RL 145 yX12_zone ∈ bz_tbl := bz_mem 1738 (by decide +kernel) (by decide +kernel)
theorem im_X12_zone : Cond.instanceMethod yX12_zone ∈ bz_tbl := bz_mem 1739 (by decide +kernel) (by decide +kernel)
theorem se_X12_zone : Cond.selects RX12 yX12_zone yX12_zone ∈ bz_tbl := bz_mem 1740 (by decide +kernel) (by decide +kernel)
theorem ml_L_146 : Cond.methodLink RL 146 yX11_starves ∈ bz_tbl := bz_mem 1092 (by decide +kernel) (by decide +kernel)
theorem im_X11_starves : Cond.instanceMethod yX11_starves ∈ bz_tbl := bz_mem 1093 (by decide +kernel) (by decide +kernel)
theorem se_X11_starves : Cond.selects RX11 yX11_starves yX11_starves ∈ bz_tbl := bz_mem 1094 (by decide +kernel) (by decide +kernel)
theorem ml_L_149 : Cond.methodLink RL 149 yX12_starves ∈ bz_tbl := bz_mem 1746 (by decide +kernel) (by decide +kernel)
theorem im_X12_starves : Cond.instanceMethod yX12_starves ∈ bz_tbl := bz_mem 1747 (by decide +kernel) (by decide +kernel)
theorem se_X12_starves : Cond.selects RX12 yX12_starves yX12_starves ∈ bz_tbl := bz_mem 1748 (by decide +kernel) (by decide +kernel)
theorem ml_L_150 : Cond.methodLink RL 150 yX11_night ∈ bz_tbl := bz_mem 1100 (by decide +kernel) (by decide +kernel)
theorem im_X11_night : Cond.instanceMethod yX11_night ∈ bz_tbl := bz_mem 1101 (by decide +kernel) (by decide +kernel)
theorem se_X11_night : Cond.selects RX11 yX11_night yX11_night ∈ bz_tbl := bz_mem 1102 (by decide +kernel) (by decide +kernel)
theorem ml_L_153 : Cond.methodLink RL 153 yX12_night ∈ bz_tbl := bz_mem 1750 (by decide +kernel) (by decide +kernel)
theorem im_X12_night : Cond.instanceMethod yX12_night ∈ bz_tbl := bz_mem 1751 (by decide +kernel) (by decide +kernel)
theorem se_X12_night : Cond.selects RX12 yX12_night yX12_night ∈ bz_tbl := bz_mem 1752 (by decide +kernel) (by decide +kernel)
theorem ml_L_154 : Cond.methodLink RL 154 yX11_whom ∈ bz_tbl := bz_mem 1139 (by decide +kernel) (by decide +kernel)
theorem im_X11_whom : Cond.instanceMethod yX11_whom ∈ bz_tbl := bz_mem 1140 (by decide +kernel) (by decide +kernel)
theorem se_X11_whom : Cond.selects RX11 yX11_whom yX11_whom ∈ bz_tbl := bz_mem 1141 (by decide +kernel) (by decide +kernel)
theorem ml_L_157 : Cond.methodLink RL 157 yX12_whom ∈ bz_tbl := bz_mem 1766 (by decide +kernel) (by decide +kernel)
theorem im_X12_whom : Cond.instanceMethod yX12_whom ∈ bz_tbl := bz_mem 1767 (by decide +kernel) (by decide +kernel)
theorem se_X12_whom : Cond.selects RX12 yX12_whom yX12_whom ∈ bz_tbl := bz_mem 1768 (by decide +kernel) (by decide +kernel)
theorem ml_L_158 : Cond.methodLink RL 158 yX11_hold ∈ bz_tbl := bz_mem 1143 (by decide +kernel) (by decide +kernel)
theorem im_X11_hold : Cond.instanceMethod yX11_hold ∈ bz_tbl := bz_mem 1144 (by decide +kernel) (by decide +kernel)
theorem se_X11_hold : Cond.selects RX11 yX11_hold yX11_hold ∈ bz_tbl := bz_mem 1145 (by decide +kernel) (by decide +kernel)
theorem ml_L_161 : Cond.methodLink RL 161 yX12_hold ∈ bz_tbl := bz_mem 1770 (by decide +kernel) (by decide +kernel)
theorem im_X12_hold : Cond.instanceMethod yX12_hold ∈ bz_tbl := bz_mem 1771 (by decide +kernel) (by decide +kernel)
theorem se_X12_hold : Cond.selects RX12 yX12_hold yX12_hold ∈ bz_tbl := bz_mem 1772 (by decide +kernel) (by decide +kernel)
theorem ml_L_162 : Cond.methodLink RL 162 yX11_as ∈ bz_tbl := bz_mem 1147 (by decide +kernel) (by decide +kernel)
theorem im_X11_as : Cond.instanceMethod yX11_as ∈ bz_tbl := bz_mem 1148 (by decide +kernel) (by decide +kernel)
theorem se_X11_as : Cond.selects RX11 yX11_as yX11_as ∈ bz_tbl := bz_mem 1149 (by decide +kernel) (by decide +kernel)
theorem ml_L_165 : Cond.methodLink RL 165 yX12_as ∈ bz_tbl := bz_mem 1777 (by decide +kernel) (by decide +kernel)
theorem im_X12_as : Cond.instanceMethod yX12_as ∈ bz_tbl := bz_mem 1778 (by decide +kernel) (by decide +kernel)
theorem se_X12_as : Cond.selects RX12 yX12_as yX12_as ∈ bz_tbl := bz_mem 1779 (by decide +kernel) (by decide +kernel)
theorem ml_L_166 : Cond.methodLink RL 166 yX11_sheet ∈ bz_tbl := bz_mem 1158 (by decide +kernel) (by decide +kernel)
theorem im_X11_sheet : Cond.instanceMethod yX11_sheet ∈ bz_tbl := bz_mem 1159 (by decide +kernel) (by decide +kernel)
theorem se_X11_sheet : Cond.selects RX11 yX11_sheet yX11_sheet ∈ bz_tbl := bz_mem 1160 (by decide +kernel) (by decide +kernel)
theorem ml_L_169 : Cond.methodLink RL 169 yX12_sheet ∈ bz_tbl := bz_mem 1784 (by decide +kernel) (by decide +kernel)
theorem im_X12_sheet : Cond.instanceMethod yX12_sheet ∈ bz_tbl := bz_mem 1785 (by decide +kernel) (by decide +kernel)
theorem se_X12_sheet : Cond.selects RX12 yX12_sheet yX12_sheet ∈ bz_tbl := bz_mem 1786 (by decide +kernel) (by decide +kernel)
theorem ml_L_170 : Cond.methodLink RL 170 yX11_write ∈ bz_tbl := bz_mem 1172 (by decide +kernel) (by decide +kernel)
theorem im_X11_write : Cond.instanceMethod yX11_write ∈ bz_tbl := bz_mem 1173 (by decide +kernel) (by decide +kernel)
theorem se_X11_write : Cond.selects RX11 yX11_write yX11_write ∈ bz_tbl := bz_mem 1174 (by decide +kernel) (by decide +kernel)
theorem ml_L_173 : Cond.methodLink RL 173 yX12_write ∈ bz_tbl := bz_mem 1791 (by decide +kernel) (by decide +kernel)
theorem im_X12_write : Cond.instanceMethod yX12_write ∈ bz_tbl := bz_mem 1792 (by decide +kernel) (by decide +kernel)
theorem se_X12_write : Cond.selects RX12 yX12_write yX12_write ∈ bz_tbl := bz_mem 1793 (by decide +kernel) (by decide +kernel)
theorem ml_L_174 : Cond.methodLink RL 174 yX11_copy ∈ bz_tbl := bz_mem 1184 (by decide +kernel) (by decide +kernel)
theorem im_X11_copy : Cond.instanceMethod yX11_copy ∈ bz_tbl := bz_mem 1185 (by decide +kernel) (by decide +kernel)
theorem se_X11_copy : Cond.selects RX11 yX11_copy yX11_copy ∈ bz_tbl := bz_mem 1186 (by decide +kernel) (by decide +kernel)
theorem ml_L_178 : Cond.methodLink RL 178 yX12_copy ∈ bz_tbl := bz_mem 1795 (by decide +kernel) (by decide +kernel)
theorem im_X12_copy : Cond.instanceMethod yX12_copy ∈ bz_tbl := bz_mem 1796 (by decide +kernel) (by decide +kernel)
theorem se_X12_copy : Cond.selects RX12 yX12_copy yX12_copy ∈ bz_tbl := bz_mem 1797 (by decide +kernel) (by decide +kernel)
theorem ml_L_179 : Cond.methodLink RL 179 yX11_roads ∈ bz_tbl := bz_mem 1193 (by decide +kernel) (by decide +kernel)
theorem im_X11_roads : Cond.instanceMethod yX11_roads ∈ bz_tbl := bz_mem 1194 (by decide +kernel) (by decide +kernel)
theorem se_X11_roads : Cond.selects RX11 yX11_roads yX11_roads ∈ bz_tbl := bz_mem 1195 (by decide +kernel) (by decide +kernel)
theorem ml_L_182 : Cond.methodLink RL 182 yX12_roads ∈ bz_tbl := bz_mem 1799 (by decide +kernel) (by decide +kernel)
theorem im_X12_roads : Cond.instanceMethod yX12_roads ∈ bz_tbl := bz_mem 1800 (by decide +kernel) (by decide +kernel)
theorem se_X12_roads : Cond.selects RX12 yX12_roads yX12_roads ∈ bz_tbl := bz_mem 1801 (by decide +kernel) (by decide +kernel)
theorem ml_L_183 : Cond.methodLink RL 183 yX11_judge ∈ bz_tbl := bz_mem 1197 (by decide +kernel) (by decide +kernel)
theorem im_X11_judge : Cond.instanceMethod yX11_judge ∈ bz_tbl := bz_mem 1198 (by decide +kernel) (by decide +kernel)
theorem se_X11_judge : Cond.selects RX11 yX11_judge yX11_judge ∈ bz_tbl := bz_mem 1199 (by decide +kernel) (by decide +kernel)
theorem ml_L_186 : Cond.methodLink RL 186 yX12_judge ∈ bz_tbl := bz_mem 1803 (by decide +kernel) (by decide +kernel)
theorem im_X12_judge : Cond.instanceMethod yX12_judge ∈ bz_tbl := bz_mem 1804 (by decide +kernel) (by decide +kernel)
theorem se_X12_judge : Cond.selects RX12 yX12_judge yX12_judge ∈ bz_tbl := bz_mem 1805 (by decide +kernel) (by decide +kernel)
theorem ml_L_187 : Cond.methodLink RL 187 yX11_image ∈ bz_tbl := bz_mem 1201 (by decide +kernel) (by decide +kernel)
theorem im_X11_image : Cond.instanceMethod yX11_image ∈ bz_tbl := bz_mem 1202 (by decide +kernel) (by decide +kernel)
theorem se_X11_image : Cond.selects RX11 yX11_image yX11_image ∈ bz_tbl := bz_mem 1203 (by decide +kernel) (by decide +kernel)
theorem ml_L_190 : Cond.methodLink RL 190 yX12_image ∈ bz_tbl := bz_mem 1807 (by decide +kernel) (by decide +kernel)
theorem im_X12_image : Cond.instanceMethod yX12_image ∈ bz_tbl := bz_mem 1808 (by decide +kernel) (by decide +kernel)
theorem se_X12_image : Cond.selects RX12 yX12_image yX12_image ∈ bz_tbl := bz_mem 1809 (by decide +kernel) (by decide +kernel)
theorem ml_L_191 : Cond.methodLink RL 191 yX11_undo ∈ bz_tbl := bz_mem 1230 (by decide +kernel) (by decide +kernel)
theorem im_X11_undo : Cond.instanceMethod yX11_undo ∈ bz_tbl := bz_mem 1231 (by decide +kernel) (by decide +kernel)
theorem se_X11_undo : Cond.selects RX11 yX11_undo yX11_undo ∈ bz_tbl := bz_mem 1232 (by decide +kernel) (by decide +kernel)
theorem ml_L_194 : Cond.methodLink RL 194 yX12_undo ∈ bz_tbl := bz_mem 1811 (by decide +kernel) (by decide +kernel)
theorem im_X12_undo : Cond.instanceMethod yX12_undo ∈ bz_tbl := bz_mem 1812 (by decide +kernel) (by decide +kernel)
theorem se_X12_undo : Cond.selects RX12 yX12_undo yX12_undo ∈ bz_tbl := bz_mem 1813 (by decide +kernel) (by decide +kernel)
theorem ml_L_195 : Cond.methodLink RL 195 yX11_tear ∈ bz_tbl := bz_mem 1234 (by decide +kernel) (by decide +kernel)
theorem im_X11_tear : Cond.instanceMethod yX11_tear ∈ bz_tbl := bz_mem 1235 (by decide +kernel) (by decide +kernel)
theorem se_X11_tear : Cond.selects RX11 yX11_tear yX11_tear ∈ bz_tbl := bz_mem 1236 (by decide +kernel) (by decide +kernel)
theorem ml_L_198 : Cond.methodLink RL 198 yX12_tear ∈ bz_tbl := bz_mem 1815 (by decide +kernel) (by decide +kernel)
theorem im_X12_tear : Cond.instanceMethod yX12_tear ∈ bz_tbl := bz_mem 1816 (by decide +kernel) (by decide +kernel)
theorem se_X12_tear : Cond.selects RX12 yX12_tear yX12_tear ∈ bz_tbl := bz_mem 1817 (by decide +kernel) (by decide +kernel)
theorem ml_L_199 : Cond.methodLink RL 199 yX11_count ∈ bz_tbl := bz_mem 1238 (by decide +kernel) (by decide +kernel)
theorem im_X11_count : Cond.instanceMethod yX11_count ∈ bz_tbl := bz_mem 1239 (by decide +kernel) (by decide +kernel)
theorem se_X11_count : Cond.selects RX11 yX11_count yX11_count ∈ bz_tbl := bz_mem 1240 (by decide +kernel) (by decide +kernel)
theorem ml_L_202 : Cond.methodLink RL 202 yX12_count ∈ bz_tbl := bz_mem 1819 (by decide +kernel) (by decide +kernel)
theorem im_X12_count : Cond.instanceMethod yX12_count ∈ bz_tbl := bz_mem 1820 (by decide +kernel) (by decide +kernel)
theorem se_X12_count : Cond.selects RX12 yX12_count yX12_count ∈ bz_tbl := bz_mem 1821 (by decide +kernel) (by decide +kernel)
theorem ml_L_203 : Cond.methodLink RL 203 yX11_status ∈ bz_tbl := bz_mem 1246 (by decide +kernel) (by decide +kernel)
theorem im_X11_status : Cond.instanceMethod yX11_status ∈ bz_tbl := bz_mem 1247 (by decide +kernel) (by decide +kernel)
theorem se_X11_status : Cond.selects RX11 yX11_status yX11_status ∈ bz_tbl := bz_mem 1248 (by decide +kernel) (by decide +kernel)
theorem ml_L_206 : Cond.methodLink RL 206 yX12_status ∈ bz_tbl := bz_mem 1823 (by decide +kernel) (by decide +kernel)
theorem im_X12_status : Cond.instanceMethod yX12_status ∈ bz_tbl := bz_mem 1824 (by decide +kernel) (by decide +kernel)
theorem se_X12_status : Cond.selects RX12 yX12_status yX12_status ∈ bz_tbl := bz_mem 1825 (by decide +kernel) (by decide +kernel)
def w_L_law_0 (G : bz_G) (κ : bz_K) (l : Launch) (d : Nat) (F : Option bz_V → bz_H → Prop) (bc bs : Nat) (r0 : Option Nat) (h : bz_H) : Prop := bz_al h (bz_co 11 [.inr none, .inr none, .inl 0, .inr none, .inr none, .inr none, .inr none, .inr none, .inr none]) (fun a_1 h_2 => bz_cV G l d kX11_init [.inr (some a_1)] h_2 228 5833 (fun h_4 => bz_al h_4 (bz_co 12 [.inr none, .inr none, .inl 0, .inr none, .inr none, .inl 0, .inl 0, .inl 0, .inl 0, .inr none, .inr none, .inl 0, .inl 0, .inr none, .inl 0, .inl 0, .inl 0, .inl 0, .inl 0, .inl 0, .inl 0, .inr none, .inr none, .inr none, .inr none, .inr none, .inr none, .inr none, .inl 0, .inl 0, .inr none, .inr none, .inr none, .inr none]) (fun a_5 h_6 => bz_cV G l d kX12_init [.inr (some a_5)] h_6 18 5683 (fun h_8 => bz_J G κ kL_law (d + 1) F bc bs 18 [some (.inr r0), some (.inr (some a_1)), some (.inr (some a_5)), some (.inl 0)] [] h_8))))
set_option maxRecDepth 20000 in
set_option maxHeartbeats 4000000 in
theorem g_L_law_0 {G : bz_G} {κ : bz_K} {l : Launch} {d : Nat} {F : Option bz_V → bz_H → Prop} {bc bs : Nat} (hl : κ.2.1 = l) (r0 : Option Nat) (h : bz_H) (hP0 : w_L_law_0 G κ l d F bc bs r0 h) : bz_J G κ kL_law (d + 1) F (bc + 248) (bs + 11559) 0 [some (.inr r0), none, none, none] [] h := by
  subst hl
  unfold w_L_law_0 at hP0
  refine bz_rw_new (ci := 11) (q := (RX11, TX11, 9)) (n := 9) (bc := (bc + 247)) (bs := (bs + 11550)) (pc := 0) dL_law_0 rfl cl_L_7 it_11 ii_11 rfl (df_11 G) hP0 (fun a_1 h_2 hP1 => ?_)
  clear hP0
  refine bz_dup (pc := 3) dL_law_3 ?_
  refine bz_kVI (as := []) (st := [.inr (some a_1)]) (n := 0) (mc := 228) (ms := 5833) (bc := (bc + 19)) (bs := (bs + 5717)) (yc := kX11_init) (b := a_1) (pc := 4) dL_law_4 sc_X11_init rfl ml_L_9 im_X11_init rfl rfl (Nat.le_of_ble_eq_true rfl) hP1 (fun h_4 hP2 => ?_)
  clear hP1
  refine bz_s_astore_n (pc := 7) dL_law_7 rfl (Nat.le_of_ble_eq_true rfl) [some (.inr r0), some (.inr (some a_1)), none, none] rfl ?_
  refine bz_rw_new (ci := 12) (q := (RX12, TX12, 34)) (n := 34) (bc := (bc + 18)) (bs := (bs + 5683)) (pc := 8) dL_law_8 rfl cl_L_10 it_12 ii_12 rfl (df_12 G) hP2 (fun a_5 h_6 hP3 => ?_)
  clear hP2
  refine bz_dup (pc := 11) dL_law_11 ?_
  refine bz_kVI (as := []) (st := [.inr (some a_5)]) (n := 0) (mc := 18) (ms := 5683) (bc := bc) (bs := bs) (yc := kX12_init) (b := a_5) (pc := 12) dL_law_12 sc_X12_init rfl ml_L_12 im_X12_init rfl rfl (Nat.le_of_ble_eq_true rfl) hP3 (fun h_8 hP4 => ?_)
  clear hP3
  refine bz_s_astore_n (pc := 15) dL_law_15 rfl (Nat.le_of_ble_eq_true rfl) [some (.inr r0), some (.inr (some a_1)), some (.inr (some a_5)), none] rfl ?_
  refine bz_iconst (pc := 16) dL_law_16 ci_0 ?_
  refine bz_s_istore_n (pc := 17) dL_law_17 rfl (Nat.le_of_ble_eq_true rfl) [some (.inr r0), some (.inr (some a_1)), some (.inr (some a_5)), some (.inl 0)] rfl ?_
  exact hP4
def w_L_law_18 (G : bz_G) (κ : bz_K) (l : Launch) (d : Nat) (F : Option bz_V → bz_H → Prop) (bc bs : Nat) (r0 : Option Nat) (r1 : Option Nat) (r2 : Option Nat) (x3 : Int32) (h : bz_H) : Prop := bz_nn r0 (fun a_9 => bz_rN h a_9 (fun x_10 => ((x_10 - 6) < x3 → F (some (.inl 1)) h) ∧ (¬ ((x_10 - 6) < x3) → bz_rA h a_9 x3 (fun x_11 => ((x_11 &&& 63) = 0 → bz_rA h a_9 (x3 + 1) (fun x_12 => bz_rA h a_9 (x3 + 2) (fun x_13 => bz_rA h a_9 (x3 + 3) (fun x_14 => bz_nn r1 (fun a_17 => bz_rc h a_17 11 (bz_cI G l d kX11_crossing [.inr (some a_17), .inl x_12, .inl x_13, .inl x_14] h 0 0 (fun x_15 h_16 => bz_rA h_16 a_9 (x3 + 1) (fun x_18 => bz_rA h_16 a_9 (x3 + 2) (fun x_19 => bz_rA h_16 a_9 (x3 + 3) (fun x_20 => bz_nn r2 (fun a_23 => bz_rc h_16 a_23 12 (bz_cI G l d kX12_crossing [.inr (some a_23), .inl x_18, .inl x_19, .inl x_20] h_16 0 0 (fun x_21 h_22 => (x_15 = x_21 → bz_J G κ kL_law (d + 1) F bc bs 18 [some (.inr (some a_9)), some (.inr (some a_17)), some (.inr (some a_23)), some (.inl (x3 + 6))] [] h_22) ∧ (¬ (x_15 = x_21) → F (some (.inl 0)) h_22)))))))))))))) ∧ (¬ (x_11 &&& 63) = 0 → ((x_11 &&& 63) = 1 → bz_rA h a_9 (x3 + 1) (fun x_24 => bz_rA h a_9 (x3 + 2) (fun x_25 => bz_rA h a_9 (x3 + 3) (fun x_26 => bz_nn r1 (fun a_29 => bz_rc h a_29 11 (bz_cI G l d kX11_road [.inr (some a_29), .inl x_24, .inl x_25, .inl x_26] h 0 0 (fun x_27 h_28 => bz_rA h_28 a_9 (x3 + 1) (fun x_30 => bz_rA h_28 a_9 (x3 + 2) (fun x_31 => bz_rA h_28 a_9 (x3 + 3) (fun x_32 => bz_nn r2 (fun a_35 => bz_rc h_28 a_35 12 (bz_cI G l d kX12_road [.inr (some a_35), .inl x_30, .inl x_31, .inl x_32] h_28 0 0 (fun x_33 h_34 => (x_27 = x_33 → bz_J G κ kL_law (d + 1) F bc bs 18 [some (.inr (some a_9)), some (.inr (some a_29)), some (.inr (some a_35)), some (.inl (x3 + 6))] [] h_34) ∧ (¬ (x_27 = x_33) → F (some (.inl 0)) h_34)))))))))))))) ∧ (¬ (x_11 &&& 63) = 1 → ((x_11 &&& 63) = 2 → bz_rA h a_9 (x3 + 1) (fun x_36 => bz_rA h a_9 (x3 + 2) (fun x_37 => bz_nn r1 (fun a_40 => bz_rc h a_40 11 (bz_cI G l d kX11_way [.inr (some a_40), .inl x_36, .inl x_37] h 0 0 (fun x_38 h_39 => bz_rA h_39 a_9 (x3 + 1) (fun x_41 => bz_rA h_39 a_9 (x3 + 2) (fun x_42 => bz_nn r2 (fun a_45 => bz_rc h_39 a_45 12 (bz_cI G l d kX12_way [.inr (some a_45), .inl x_41, .inl x_42] h_39 0 0 (fun x_43 h_44 => (x_38 = x_43 → bz_J G κ kL_law (d + 1) F bc bs 18 [some (.inr (some a_9)), some (.inr (some a_40)), some (.inr (some a_45)), some (.inl (x3 + 6))] [] h_44) ∧ (¬ (x_38 = x_43) → F (some (.inl 0)) h_44)))))))))))) ∧ (¬ (x_11 &&& 63) = 2 → ((x_11 &&& 63) = 3 → bz_rA h a_9 (x3 + 1) (fun x_46 => bz_nn r1 (fun a_49 => bz_rc h a_49 11 (bz_cI G l d kX11_minutes [.inr (some a_49), .inl x_46] h 0 0 (fun x_47 h_48 => bz_rA h_48 a_9 (x3 + 1) (fun x_50 => bz_nn r2 (fun a_53 => bz_rc h_48 a_53 12 (bz_cI G l d kX12_minutes [.inr (some a_53), .inl x_50] h_48 0 0 (fun x_51 h_52 => (x_47 = x_51 → bz_J G κ kL_law (d + 1) F bc bs 18 [some (.inr (some a_9)), some (.inr (some a_49)), some (.inr (some a_53)), some (.inl (x3 + 6))] [] h_52) ∧ (¬ (x_47 = x_51) → F (some (.inl 0)) h_52)))))))))) ∧ (¬ (x_11 &&& 63) = 3 → ((x_11 &&& 63) = 4 → bz_rA h a_9 (x3 + 1) (fun x_54 => bz_rA h a_9 (x3 + 2) (fun x_55 => bz_nn r1 (fun a_58 => bz_rc h a_58 11 (bz_cI G l d kX11_kitchen [.inr (some a_58), .inl x_54, .inl x_55] h 0 0 (fun x_56 h_57 => bz_rA h_57 a_9 (x3 + 1) (fun x_59 => bz_rA h_57 a_9 (x3 + 2) (fun x_60 => bz_nn r2 (fun a_63 => bz_rc h_57 a_63 12 (bz_cI G l d kX12_kitchen [.inr (some a_63), .inl x_59, .inl x_60] h_57 0 0 (fun x_61 h_62 => (x_56 = x_61 → bz_J G κ kL_law (d + 1) F bc bs 18 [some (.inr (some a_9)), some (.inr (some a_58)), some (.inr (some a_63)), some (.inl (x3 + 6))] [] h_62) ∧ (¬ (x_56 = x_61) → F (some (.inl 0)) h_62)))))))))))) ∧ (¬ (x_11 &&& 63) = 4 → ((x_11 &&& 63) = 5 → bz_rA h a_9 (x3 + 1) (fun x_64 => bz_rA h a_9 (x3 + 2) (fun x_65 => bz_rA h a_9 (x3 + 3) (fun x_66 => bz_rA h a_9 (x3 + 4) (fun x_67 => bz_nn r1 (fun a_70 => bz_rc h a_70 11 (bz_cI G l d kX11_order [.inr (some a_70), .inl x_64, .inl x_65, .inl x_66, .inl x_67] h 0 0 (fun x_68 h_69 => bz_rA h_69 a_9 (x3 + 1) (fun x_71 => bz_rA h_69 a_9 (x3 + 2) (fun x_72 => bz_rA h_69 a_9 (x3 + 3) (fun x_73 => bz_rA h_69 a_9 (x3 + 4) (fun x_74 => bz_nn r2 (fun a_77 => bz_rc h_69 a_77 12 (bz_cI G l d kX12_order [.inr (some a_77), .inl x_71, .inl x_72, .inl x_73, .inl x_74] h_69 0 0 (fun x_75 h_76 => (x_68 = x_75 → bz_J G κ kL_law (d + 1) F bc bs 18 [some (.inr (some a_9)), some (.inr (some a_70)), some (.inr (some a_77)), some (.inl (x3 + 6))] [] h_76) ∧ (¬ (x_68 = x_75) → F (some (.inl 0)) h_76)))))))))))))))) ∧ (¬ (x_11 &&& 63) = 5 → ((x_11 &&& 63) = 6 → bz_rA h a_9 (x3 + 1) (fun x_78 => bz_rA h a_9 (x3 + 2) (fun x_79 => bz_nn r1 (fun a_82 => bz_rc h a_82 11 (bz_cI G l d kX11_orderOf [.inr (some a_82), .inl x_78, .inl x_79] h 0 0 (fun x_80 h_81 => bz_rA h_81 a_9 (x3 + 1) (fun x_83 => bz_rA h_81 a_9 (x3 + 2) (fun x_84 => bz_nn r2 (fun a_87 => bz_rc h_81 a_87 12 (bz_cI G l d kX12_orderOf [.inr (some a_87), .inl x_83, .inl x_84] h_81 0 0 (fun x_85 h_86 => (x_80 = x_85 → bz_J G κ kL_law (d + 1) F bc bs 18 [some (.inr (some a_9)), some (.inr (some a_82)), some (.inr (some a_87)), some (.inl (x3 + 6))] [] h_86) ∧ (¬ (x_80 = x_85) → F (some (.inl 0)) h_86)))))))))))) ∧ (¬ (x_11 &&& 63) = 6 → ((x_11 &&& 63) = 7 → bz_rA h a_9 (x3 + 1) (fun x_88 => bz_nn r1 (fun a_91 => bz_rc h a_91 11 (bz_cI G l d kX11_callOff [.inr (some a_91), .inl x_88] h 0 0 (fun x_89 h_90 => bz_rA h_90 a_9 (x3 + 1) (fun x_92 => bz_nn r2 (fun a_95 => bz_rc h_90 a_95 12 (bz_cI G l d kX12_callOff [.inr (some a_95), .inl x_92] h_90 0 0 (fun x_93 h_94 => (x_89 = x_93 → bz_J G κ kL_law (d + 1) F bc bs 18 [some (.inr (some a_9)), some (.inr (some a_91)), some (.inr (some a_95)), some (.inl (x3 + 6))] [] h_94) ∧ (¬ (x_89 = x_93) → F (some (.inl 0)) h_94)))))))))) ∧ (¬ (x_11 &&& 63) = 7 → ((x_11 &&& 63) = 8 → bz_rA h a_9 (x3 + 1) (fun x_96 => bz_rA h a_9 (x3 + 2) (fun x_97 => bz_nn r1 (fun a_100 => bz_rc h a_100 11 (bz_cI G l d kX11_rider [.inr (some a_100), .inl x_96, .inl x_97] h 0 0 (fun x_98 h_99 => bz_rA h_99 a_9 (x3 + 1) (fun x_101 => bz_rA h_99 a_9 (x3 + 2) (fun x_102 => bz_nn r2 (fun a_105 => bz_rc h_99 a_105 12 (bz_cI G l d kX12_rider [.inr (some a_105), .inl x_101, .inl x_102] h_99 0 0 (fun x_103 h_104 => (x_98 = x_103 → bz_J G κ kL_law (d + 1) F bc bs 18 [some (.inr (some a_9)), some (.inr (some a_100)), some (.inr (some a_105)), some (.inl (x3 + 6))] [] h_104) ∧ (¬ (x_98 = x_103) → F (some (.inl 0)) h_104)))))))))))) ∧ (¬ (x_11 &&& 63) = 8 → ((x_11 &&& 63) = 9 → bz_rA h a_9 (x3 + 1) (fun x_106 => bz_rA h a_9 (x3 + 2) (fun x_107 => bz_nn r1 (fun a_110 => bz_rc h a_110 11 (bz_cI G l d kX11_riderOf [.inr (some a_110), .inl x_106, .inl x_107] h 0 0 (fun x_108 h_109 => bz_rA h_109 a_9 (x3 + 1) (fun x_111 => bz_rA h_109 a_9 (x3 + 2) (fun x_112 => bz_nn r2 (fun a_115 => bz_rc h_109 a_115 12 (bz_cI G l d kX12_riderOf [.inr (some a_115), .inl x_111, .inl x_112] h_109 0 0 (fun x_113 h_114 => (x_108 = x_113 → bz_J G κ kL_law (d + 1) F bc bs 18 [some (.inr (some a_9)), some (.inr (some a_110)), some (.inr (some a_115)), some (.inl (x3 + 6))] [] h_114) ∧ (¬ (x_108 = x_113) → F (some (.inl 0)) h_114)))))))))))) ∧ (¬ (x_11 &&& 63) = 9 → ((x_11 &&& 63) = 10 → bz_rA h a_9 (x3 + 1) (fun x_116 => bz_rA h a_9 (x3 + 2) (fun x_117 => bz_rA h a_9 (x3 + 3) (fun x_118 => bz_nn r1 (fun a_121 => bz_rc h a_121 11 (bz_cI G l d kX11_goes [.inr (some a_121), .inl x_116, .inl x_117, .inl x_118] h 0 0 (fun x_119 h_120 => bz_rA h_120 a_9 (x3 + 1) (fun x_122 => bz_rA h_120 a_9 (x3 + 2) (fun x_123 => bz_rA h_120 a_9 (x3 + 3) (fun x_124 => bz_nn r2 (fun a_127 => bz_rc h_120 a_127 12 (bz_cI G l d kX12_goes [.inr (some a_127), .inl x_122, .inl x_123, .inl x_124] h_120 0 0 (fun x_125 h_126 => (x_119 = x_125 → bz_J G κ kL_law (d + 1) F bc bs 18 [some (.inr (some a_9)), some (.inr (some a_121)), some (.inr (some a_127)), some (.inl (x3 + 6))] [] h_126) ∧ (¬ (x_119 = x_125) → F (some (.inl 0)) h_126)))))))))))))) ∧ (¬ (x_11 &&& 63) = 10 → ((x_11 &&& 63) = 11 → bz_rA h a_9 (x3 + 1) (fun x_128 => bz_rA h a_9 (x3 + 2) (fun x_129 => bz_rA h a_9 (x3 + 3) (fun x_130 => bz_nn r1 (fun a_133 => bz_rc h a_133 11 (bz_cI G l d kX11_trip [.inr (some a_133), .inl x_128, .inl x_129, .inl x_130] h 0 0 (fun x_131 h_132 => bz_rA h_132 a_9 (x3 + 1) (fun x_134 => bz_rA h_132 a_9 (x3 + 2) (fun x_135 => bz_rA h_132 a_9 (x3 + 3) (fun x_136 => bz_nn r2 (fun a_139 => bz_rc h_132 a_139 12 (bz_cI G l d kX12_trip [.inr (some a_139), .inl x_134, .inl x_135, .inl x_136] h_132 0 0 (fun x_137 h_138 => (x_131 = x_137 → bz_J G κ kL_law (d + 1) F bc bs 18 [some (.inr (some a_9)), some (.inr (some a_133)), some (.inr (some a_139)), some (.inl (x3 + 6))] [] h_138) ∧ (¬ (x_131 = x_137) → F (some (.inl 0)) h_138)))))))))))))) ∧ (¬ (x_11 &&& 63) = 11 → ((x_11 &&& 63) = 12 → bz_rA h a_9 (x3 + 1) (fun x_140 => bz_rA h a_9 (x3 + 2) (fun x_141 => bz_rA h a_9 (x3 + 3) (fun x_142 => bz_rA h a_9 (x3 + 4) (fun x_143 => bz_nn r1 (fun a_146 => bz_rc h a_146 11 (bz_cI G l d kX11_join [.inr (some a_146), .inl x_140, .inl x_141, .inl x_142, .inl x_143] h 0 0 (fun x_144 h_145 => bz_rA h_145 a_9 (x3 + 1) (fun x_147 => bz_rA h_145 a_9 (x3 + 2) (fun x_148 => bz_rA h_145 a_9 (x3 + 3) (fun x_149 => bz_rA h_145 a_9 (x3 + 4) (fun x_150 => bz_nn r2 (fun a_153 => bz_rc h_145 a_153 12 (bz_cI G l d kX12_join [.inr (some a_153), .inl x_147, .inl x_148, .inl x_149, .inl x_150] h_145 0 0 (fun x_151 h_152 => (x_144 = x_151 → bz_J G κ kL_law (d + 1) F bc bs 18 [some (.inr (some a_9)), some (.inr (some a_146)), some (.inr (some a_153)), some (.inl (x3 + 6))] [] h_152) ∧ (¬ (x_144 = x_151) → F (some (.inl 0)) h_152)))))))))))))))) ∧ (¬ (x_11 &&& 63) = 12 → ((x_11 &&& 63) = 13 → bz_rA h a_9 (x3 + 1) (fun x_154 => bz_rA h a_9 (x3 + 2) (fun x_155 => bz_nn r1 (fun a_158 => bz_rc h a_158 11 (bz_cI G l d kX11_give [.inr (some a_158), .inl x_154, .inl x_155] h 0 0 (fun x_156 h_157 => bz_rA h_157 a_9 (x3 + 1) (fun x_159 => bz_rA h_157 a_9 (x3 + 2) (fun x_160 => bz_nn r2 (fun a_163 => bz_rc h_157 a_163 12 (bz_cI G l d kX12_give [.inr (some a_163), .inl x_159, .inl x_160] h_157 0 0 (fun x_161 h_162 => (x_156 = x_161 → bz_J G κ kL_law (d + 1) F bc bs 18 [some (.inr (some a_9)), some (.inr (some a_158)), some (.inr (some a_163)), some (.inl (x3 + 6))] [] h_162) ∧ (¬ (x_156 = x_161) → F (some (.inl 0)) h_162)))))))))))) ∧ (¬ (x_11 &&& 63) = 13 → ((x_11 &&& 63) = 14 → bz_rA h a_9 (x3 + 1) (fun x_164 => bz_rA h a_9 (x3 + 2) (fun x_165 => bz_rA h a_9 (x3 + 3) (fun x_166 => bz_nn r1 (fun a_169 => bz_rc h a_169 11 (bz_cI G l d kX11_giveTwo [.inr (some a_169), .inl x_164, .inl x_165, .inl x_166] h 0 0 (fun x_167 h_168 => bz_rA h_168 a_9 (x3 + 1) (fun x_170 => bz_rA h_168 a_9 (x3 + 2) (fun x_171 => bz_rA h_168 a_9 (x3 + 3) (fun x_172 => bz_nn r2 (fun a_175 => bz_rc h_168 a_175 12 (bz_cI G l d kX12_giveTwo [.inr (some a_175), .inl x_170, .inl x_171, .inl x_172] h_168 0 0 (fun x_173 h_174 => (x_167 = x_173 → bz_J G κ kL_law (d + 1) F bc bs 18 [some (.inr (some a_9)), some (.inr (some a_169)), some (.inr (some a_175)), some (.inl (x3 + 6))] [] h_174) ∧ (¬ (x_167 = x_173) → F (some (.inl 0)) h_174)))))))))))))) ∧ (¬ (x_11 &&& 63) = 14 → ((x_11 &&& 63) = 15 → bz_rA h a_9 (x3 + 1) (fun x_176 => bz_rA h a_9 (x3 + 2) (fun x_177 => bz_nn r1 (fun a_180 => bz_rc h a_180 11 (bz_cI G l d kX11_feed [.inr (some a_180), .inl x_176, .inl x_177] h 0 0 (fun x_178 h_179 => bz_rA h_179 a_9 (x3 + 1) (fun x_181 => bz_rA h_179 a_9 (x3 + 2) (fun x_182 => bz_nn r2 (fun a_185 => bz_rc h_179 a_185 12 (bz_cI G l d kX12_feed [.inr (some a_185), .inl x_181, .inl x_182] h_179 0 0 (fun x_183 h_184 => (x_178 = x_183 → bz_J G κ kL_law (d + 1) F bc bs 18 [some (.inr (some a_9)), some (.inr (some a_180)), some (.inr (some a_185)), some (.inl (x3 + 6))] [] h_184) ∧ (¬ (x_178 = x_183) → F (some (.inl 0)) h_184)))))))))))) ∧ (¬ (x_11 &&& 63) = 15 → ((x_11 &&& 63) = 16 → bz_nn r1 (fun a_188 => bz_rc h a_188 11 (bz_cI G l d kX11_wipe [.inr (some a_188)] h 0 0 (fun x_186 h_187 => bz_nn r2 (fun a_191 => bz_rc h_187 a_191 12 (bz_cI G l d kX12_wipe [.inr (some a_191)] h_187 0 0 (fun x_189 h_190 => (x_186 = x_189 → bz_J G κ kL_law (d + 1) F bc bs 18 [some (.inr (some a_9)), some (.inr (some a_188)), some (.inr (some a_191)), some (.inl (x3 + 6))] [] h_190) ∧ (¬ (x_186 = x_189) → F (some (.inl 0)) h_190)))))))) ∧ (¬ (x_11 &&& 63) = 16 → ((x_11 &&& 63) = 17 → bz_nn r1 (fun a_194 => bz_rc h a_194 11 (bz_cI G l d kX11_text [.inr (some a_194)] h 2 81 (fun x_192 h_193 => bz_nn r2 (fun a_197 => bz_rc h_193 a_197 12 (bz_cI G l d kX12_text [.inr (some a_197)] h_193 0 0 (fun x_195 h_196 => (x_192 = x_195 → bz_J G κ kL_law (d + 1) F bc bs 18 [some (.inr (some a_9)), some (.inr (some a_194)), some (.inr (some a_197)), some (.inl (x3 + 6))] [] h_196) ∧ (¬ (x_192 = x_195) → F (some (.inl 0)) h_196)))))))) ∧ (¬ (x_11 &&& 63) = 17 → ((x_11 &&& 63) = 18 → bz_rA h a_9 (x3 + 1) (fun x_198 => bz_rA h a_9 (x3 + 2) (fun x_199 => bz_nn r1 (fun a_202 => bz_rc h a_202 11 (bz_cI G l d kX11_force [.inr (some a_202), .inl x_198, .inl x_199] h 0 0 (fun x_200 h_201 => bz_rA h_201 a_9 (x3 + 1) (fun x_203 => bz_rA h_201 a_9 (x3 + 2) (fun x_204 => bz_nn r2 (fun a_207 => bz_rc h_201 a_207 12 (bz_cI G l d kX12_force [.inr (some a_207), .inl x_203, .inl x_204] h_201 0 0 (fun x_205 h_206 => (x_200 = x_205 → bz_J G κ kL_law (d + 1) F bc bs 18 [some (.inr (some a_9)), some (.inr (some a_202)), some (.inr (some a_207)), some (.inl (x3 + 6))] [] h_206) ∧ (¬ (x_200 = x_205) → F (some (.inl 0)) h_206)))))))))))) ∧ (¬ (x_11 &&& 63) = 18 → ((x_11 &&& 63) = 19 → bz_rA h a_9 (x3 + 1) (fun x_208 => bz_rA h a_9 (x3 + 2) (fun x_209 => bz_rA h a_9 (x3 + 3) (fun x_210 => bz_nn r1 (fun a_213 => bz_rc h a_213 11 (bz_cI G l d kX11_says [.inr (some a_213), .inl x_208, .inl x_209, .inl x_210] h 0 0 (fun x_211 h_212 => bz_rA h_212 a_9 (x3 + 1) (fun x_214 => bz_rA h_212 a_9 (x3 + 2) (fun x_215 => bz_rA h_212 a_9 (x3 + 3) (fun x_216 => bz_nn r2 (fun a_219 => bz_rc h_212 a_219 12 (bz_cI G l d kX12_says [.inr (some a_219), .inl x_214, .inl x_215, .inl x_216] h_212 0 0 (fun x_217 h_218 => (x_211 = x_217 → bz_J G κ kL_law (d + 1) F bc bs 18 [some (.inr (some a_9)), some (.inr (some a_213)), some (.inr (some a_219)), some (.inl (x3 + 6))] [] h_218) ∧ (¬ (x_211 = x_217) → F (some (.inl 0)) h_218)))))))))))))) ∧ (¬ (x_11 &&& 63) = 19 → ((x_11 &&& 63) = 20 → bz_rA h a_9 (x3 + 1) (fun x_220 => bz_nn r1 (fun a_223 => bz_rc h a_223 11 (bz_cI G l d kX11_offered [.inr (some a_223), .inl x_220] h 0 0 (fun x_221 h_222 => bz_rA h_222 a_9 (x3 + 1) (fun x_224 => bz_nn r2 (fun a_227 => bz_rc h_222 a_227 12 (bz_cI G l d kX12_offered [.inr (some a_227), .inl x_224] h_222 0 0 (fun x_225 h_226 => (x_221 = x_225 → bz_J G κ kL_law (d + 1) F bc bs 18 [some (.inr (some a_9)), some (.inr (some a_223)), some (.inr (some a_227)), some (.inl (x3 + 6))] [] h_226) ∧ (¬ (x_221 = x_225) → F (some (.inl 0)) h_226)))))))))) ∧ (¬ (x_11 &&& 63) = 20 → ((x_11 &&& 63) = 21 → bz_rA h a_9 (x3 + 1) (fun x_228 => bz_rA h a_9 (x3 + 2) (fun x_229 => bz_nn r1 (fun a_232 => bz_rc h a_232 11 (bz_cI G l d kX11_refuse [.inr (some a_232), .inl x_228, .inl x_229] h 0 0 (fun x_230 h_231 => bz_rA h_231 a_9 (x3 + 1) (fun x_233 => bz_rA h_231 a_9 (x3 + 2) (fun x_234 => bz_nn r2 (fun a_237 => bz_rc h_231 a_237 12 (bz_cI G l d kX12_refuse [.inr (some a_237), .inl x_233, .inl x_234] h_231 0 0 (fun x_235 h_236 => (x_230 = x_235 → bz_J G κ kL_law (d + 1) F bc bs 18 [some (.inr (some a_9)), some (.inr (some a_232)), some (.inr (some a_237)), some (.inl (x3 + 6))] [] h_236) ∧ (¬ (x_230 = x_235) → F (some (.inl 0)) h_236)))))))))))) ∧ (¬ (x_11 &&& 63) = 21 → ((x_11 &&& 63) = 22 → bz_nn r1 (fun a_240 => bz_rc h a_240 11 (bz_cI G l d kX11_offerAll [.inr (some a_240)] h 0 0 (fun x_238 h_239 => bz_nn r2 (fun a_243 => bz_rc h_239 a_243 12 (bz_cI G l d kX12_offerAll [.inr (some a_243)] h_239 0 0 (fun x_241 h_242 => (x_238 = x_241 → bz_J G κ kL_law (d + 1) F bc bs 18 [some (.inr (some a_9)), some (.inr (some a_240)), some (.inr (some a_243)), some (.inl (x3 + 6))] [] h_242) ∧ (¬ (x_238 = x_241) → F (some (.inl 0)) h_242)))))))) ∧ (¬ (x_11 &&& 63) = 22 → ((x_11 &&& 63) = 23 → bz_rA h a_9 (x3 + 1) (fun x_244 => bz_rA h a_9 (x3 + 2) (fun x_245 => bz_rA h a_9 (x3 + 3) (fun x_246 => bz_nn r1 (fun a_249 => bz_rc h a_249 11 (bz_cI G l d kX11_rain [.inr (some a_249), .inl x_244, .inl x_245, .inl x_246] h 0 0 (fun x_247 h_248 => bz_rA h_248 a_9 (x3 + 1) (fun x_250 => bz_rA h_248 a_9 (x3 + 2) (fun x_251 => bz_rA h_248 a_9 (x3 + 3) (fun x_252 => bz_nn r2 (fun a_255 => bz_rc h_248 a_255 12 (bz_cI G l d kX12_rain [.inr (some a_255), .inl x_250, .inl x_251, .inl x_252] h_248 0 0 (fun x_253 h_254 => (x_247 = x_253 → bz_J G κ kL_law (d + 1) F bc bs 18 [some (.inr (some a_9)), some (.inr (some a_249)), some (.inr (some a_255)), some (.inl (x3 + 6))] [] h_254) ∧ (¬ (x_247 = x_253) → F (some (.inl 0)) h_254)))))))))))))) ∧ (¬ (x_11 &&& 63) = 23 → ((x_11 &&& 63) = 24 → bz_rA h a_9 (x3 + 1) (fun x_256 => bz_nn r1 (fun a_259 => bz_rc h a_259 11 (bz_cI G l d kX11_law [.inr (some a_259), .inl x_256] h 0 0 (fun x_257 h_258 => bz_rA h_258 a_9 (x3 + 1) (fun x_260 => bz_nn r2 (fun a_263 => bz_rc h_258 a_263 12 (bz_cI G l d kX12_law [.inr (some a_263), .inl x_260] h_258 0 0 (fun x_261 h_262 => (x_257 = x_261 → bz_J G κ kL_law (d + 1) F bc bs 18 [some (.inr (some a_9)), some (.inr (some a_259)), some (.inr (some a_263)), some (.inl (x3 + 6))] [] h_262) ∧ (¬ (x_257 = x_261) → F (some (.inl 0)) h_262)))))))))) ∧ (¬ (x_11 &&& 63) = 24 → ((x_11 &&& 63) = 25 → bz_rA h a_9 (x3 + 1) (fun x_264 => bz_rA h a_9 (x3 + 2) (fun x_265 => bz_rA h a_9 (x3 + 3) (fun x_266 => bz_nn r1 (fun a_269 => bz_rc h a_269 11 (bz_cI G l d kX11_app [.inr (some a_269), .inl x_264, .inl x_265, .inl x_266] h 0 0 (fun x_267 h_268 => bz_rA h_268 a_9 (x3 + 1) (fun x_270 => bz_rA h_268 a_9 (x3 + 2) (fun x_271 => bz_rA h_268 a_9 (x3 + 3) (fun x_272 => bz_nn r2 (fun a_275 => bz_rc h_268 a_275 12 (bz_cI G l d kX12_app [.inr (some a_275), .inl x_270, .inl x_271, .inl x_272] h_268 0 0 (fun x_273 h_274 => (x_267 = x_273 → bz_J G κ kL_law (d + 1) F bc bs 18 [some (.inr (some a_9)), some (.inr (some a_269)), some (.inr (some a_275)), some (.inl (x3 + 6))] [] h_274) ∧ (¬ (x_267 = x_273) → F (some (.inl 0)) h_274)))))))))))))) ∧ (¬ (x_11 &&& 63) = 25 → ((x_11 &&& 63) = 26 → bz_rA h a_9 (x3 + 1) (fun x_276 => bz_rA h a_9 (x3 + 2) (fun x_277 => bz_nn r1 (fun a_280 => bz_rc h a_280 11 (bz_cI G l d kX11_least [.inr (some a_280), .inl x_276, .inl x_277] h 0 0 (fun x_278 h_279 => bz_rA h_279 a_9 (x3 + 1) (fun x_281 => bz_rA h_279 a_9 (x3 + 2) (fun x_282 => bz_nn r2 (fun a_285 => bz_rc h_279 a_285 12 (bz_cI G l d kX12_least [.inr (some a_285), .inl x_281, .inl x_282] h_279 0 0 (fun x_283 h_284 => (x_278 = x_283 → bz_J G κ kL_law (d + 1) F bc bs 18 [some (.inr (some a_9)), some (.inr (some a_280)), some (.inr (some a_285)), some (.inl (x3 + 6))] [] h_284) ∧ (¬ (x_278 = x_283) → F (some (.inl 0)) h_284)))))))))))) ∧ (¬ (x_11 &&& 63) = 26 → ((x_11 &&& 63) = 27 → bz_rA h a_9 (x3 + 1) (fun x_286 => bz_rA h a_9 (x3 + 2) (fun x_287 => bz_nn r1 (fun a_290 => bz_rc h a_290 11 (bz_cI G l d kX11_lacks [.inr (some a_290), .inl x_286, .inl x_287] h 0 0 (fun x_288 h_289 => bz_rA h_289 a_9 (x3 + 1) (fun x_291 => bz_rA h_289 a_9 (x3 + 2) (fun x_292 => bz_nn r2 (fun a_295 => bz_rc h_289 a_295 12 (bz_cI G l d kX12_lacks [.inr (some a_295), .inl x_291, .inl x_292] h_289 0 0 (fun x_293 h_294 => (x_288 = x_293 → bz_J G κ kL_law (d + 1) F bc bs 18 [some (.inr (some a_9)), some (.inr (some a_290)), some (.inr (some a_295)), some (.inl (x3 + 6))] [] h_294) ∧ (¬ (x_288 = x_293) → F (some (.inl 0)) h_294)))))))))))) ∧ (¬ (x_11 &&& 63) = 27 → ((x_11 &&& 63) = 28 → bz_rA h a_9 (x3 + 1) (fun x_296 => bz_rA h a_9 (x3 + 2) (fun x_297 => bz_rA h a_9 (x3 + 3) (fun x_298 => bz_nn r1 (fun a_301 => bz_rc h a_301 11 (bz_cI G l d kX11_ban [.inr (some a_301), .inl x_296, .inl x_297, .inl x_298] h 0 0 (fun x_299 h_300 => bz_rA h_300 a_9 (x3 + 1) (fun x_302 => bz_rA h_300 a_9 (x3 + 2) (fun x_303 => bz_rA h_300 a_9 (x3 + 3) (fun x_304 => bz_nn r2 (fun a_307 => bz_rc h_300 a_307 12 (bz_cI G l d kX12_ban [.inr (some a_307), .inl x_302, .inl x_303, .inl x_304] h_300 0 0 (fun x_305 h_306 => (x_299 = x_305 → bz_J G κ kL_law (d + 1) F bc bs 18 [some (.inr (some a_9)), some (.inr (some a_301)), some (.inr (some a_307)), some (.inl (x3 + 6))] [] h_306) ∧ (¬ (x_299 = x_305) → F (some (.inl 0)) h_306)))))))))))))) ∧ (¬ (x_11 &&& 63) = 28 → ((x_11 &&& 63) = 29 → bz_rA h a_9 (x3 + 1) (fun x_308 => bz_rA h a_9 (x3 + 2) (fun x_309 => bz_rA h a_9 (x3 + 3) (fun x_310 => bz_nn r1 (fun a_313 => bz_rc h a_313 11 (bz_cI G l d kX11_seen [.inr (some a_313), .inl x_308, .inl x_309, .inl x_310] h 0 0 (fun x_311 h_312 => bz_rA h_312 a_9 (x3 + 1) (fun x_314 => bz_rA h_312 a_9 (x3 + 2) (fun x_315 => bz_rA h_312 a_9 (x3 + 3) (fun x_316 => bz_nn r2 (fun a_319 => bz_rc h_312 a_319 12 (bz_cI G l d kX12_seen [.inr (some a_319), .inl x_314, .inl x_315, .inl x_316] h_312 0 0 (fun x_317 h_318 => (x_311 = x_317 → bz_J G κ kL_law (d + 1) F bc bs 18 [some (.inr (some a_9)), some (.inr (some a_313)), some (.inr (some a_319)), some (.inl (x3 + 6))] [] h_318) ∧ (¬ (x_311 = x_317) → F (some (.inl 0)) h_318)))))))))))))) ∧ (¬ (x_11 &&& 63) = 29 → ((x_11 &&& 63) = 30 → bz_rA h a_9 (x3 + 1) (fun x_320 => bz_rA h a_9 (x3 + 2) (fun x_321 => bz_nn r1 (fun a_324 => bz_rc h a_324 11 (bz_cI G l d kX11_doubles [.inr (some a_324), .inl x_320, .inl x_321] h 0 0 (fun x_322 h_323 => bz_rA h_323 a_9 (x3 + 1) (fun x_325 => bz_rA h_323 a_9 (x3 + 2) (fun x_326 => bz_nn r2 (fun a_329 => bz_rc h_323 a_329 12 (bz_cI G l d kX12_doubles [.inr (some a_329), .inl x_325, .inl x_326] h_323 0 0 (fun x_327 h_328 => (x_322 = x_327 → bz_J G κ kL_law (d + 1) F bc bs 18 [some (.inr (some a_9)), some (.inr (some a_324)), some (.inr (some a_329)), some (.inl (x3 + 6))] [] h_328) ∧ (¬ (x_322 = x_327) → F (some (.inl 0)) h_328)))))))))))) ∧ (¬ (x_11 &&& 63) = 30 → ((x_11 &&& 63) = 31 → bz_rA h a_9 (x3 + 1) (fun x_330 => bz_rA h a_9 (x3 + 2) (fun x_331 => bz_nn r1 (fun a_334 => bz_rc h a_334 11 (bz_cI G l d kX11_zone [.inr (some a_334), .inl x_330, .inl x_331] h 0 0 (fun x_332 h_333 => bz_rA h_333 a_9 (x3 + 1) (fun x_335 => bz_rA h_333 a_9 (x3 + 2) (fun x_336 => bz_nn r2 (fun a_339 => bz_rc h_333 a_339 12 (bz_cI G l d kX12_zone [.inr (some a_339), .inl x_335, .inl x_336] h_333 0 0 (fun x_337 h_338 => (x_332 = x_337 → bz_J G κ kL_law (d + 1) F bc bs 18 [some (.inr (some a_9)), some (.inr (some a_334)), some (.inr (some a_339)), some (.inl (x3 + 6))] [] h_338) ∧ (¬ (x_332 = x_337) → F (some (.inl 0)) h_338)))))))))))) ∧ (¬ (x_11 &&& 63) = 31 → ((x_11 &&& 63) = 32 → bz_rA h a_9 (x3 + 1) (fun x_340 => bz_nn r1 (fun a_343 => bz_rc h a_343 11 (bz_cI G l d kX11_starves [.inr (some a_343), .inl x_340] h 0 0 (fun x_341 h_342 => bz_rA h_342 a_9 (x3 + 1) (fun x_344 => bz_nn r2 (fun a_347 => bz_rc h_342 a_347 12 (bz_cI G l d kX12_starves [.inr (some a_347), .inl x_344] h_342 0 0 (fun x_345 h_346 => (x_341 = x_345 → bz_J G κ kL_law (d + 1) F bc bs 18 [some (.inr (some a_9)), some (.inr (some a_343)), some (.inr (some a_347)), some (.inl (x3 + 6))] [] h_346) ∧ (¬ (x_341 = x_345) → F (some (.inl 0)) h_346)))))))))) ∧ (¬ (x_11 &&& 63) = 32 → ((x_11 &&& 63) = 33 → bz_rA h a_9 (x3 + 1) (fun x_348 => bz_rA h a_9 (x3 + 2) (fun x_349 => bz_nn r1 (fun a_352 => bz_rc h a_352 11 (bz_cI G l d kX11_night [.inr (some a_352), .inl x_348, .inl x_349] h 0 0 (fun x_350 h_351 => bz_rA h_351 a_9 (x3 + 1) (fun x_353 => bz_rA h_351 a_9 (x3 + 2) (fun x_354 => bz_nn r2 (fun a_357 => bz_rc h_351 a_357 12 (bz_cI G l d kX12_night [.inr (some a_357), .inl x_353, .inl x_354] h_351 0 0 (fun x_355 h_356 => (x_350 = x_355 → bz_J G κ kL_law (d + 1) F bc bs 18 [some (.inr (some a_9)), some (.inr (some a_352)), some (.inr (some a_357)), some (.inl (x3 + 6))] [] h_356) ∧ (¬ (x_350 = x_355) → F (some (.inl 0)) h_356)))))))))))) ∧ (¬ (x_11 &&& 63) = 33 → ((x_11 &&& 63) = 34 → bz_rA h a_9 (x3 + 1) (fun x_358 => bz_rA h a_9 (x3 + 2) (fun x_359 => bz_nn r1 (fun a_362 => bz_rc h a_362 11 (bz_cI G l d kX11_whom [.inr (some a_362), .inl x_358, .inl x_359] h 0 0 (fun x_360 h_361 => bz_rA h_361 a_9 (x3 + 1) (fun x_363 => bz_rA h_361 a_9 (x3 + 2) (fun x_364 => bz_nn r2 (fun a_367 => bz_rc h_361 a_367 12 (bz_cI G l d kX12_whom [.inr (some a_367), .inl x_363, .inl x_364] h_361 0 0 (fun x_365 h_366 => (x_360 = x_365 → bz_J G κ kL_law (d + 1) F bc bs 18 [some (.inr (some a_9)), some (.inr (some a_362)), some (.inr (some a_367)), some (.inl (x3 + 6))] [] h_366) ∧ (¬ (x_360 = x_365) → F (some (.inl 0)) h_366)))))))))))) ∧ (¬ (x_11 &&& 63) = 34 → ((x_11 &&& 63) = 35 → bz_rA h a_9 (x3 + 1) (fun x_368 => bz_rA h a_9 (x3 + 2) (fun x_369 => bz_nn r1 (fun a_372 => bz_rc h a_372 11 (bz_cI G l d kX11_hold [.inr (some a_372), .inl x_368, .inl x_369] h 0 0 (fun x_370 h_371 => bz_rA h_371 a_9 (x3 + 1) (fun x_373 => bz_rA h_371 a_9 (x3 + 2) (fun x_374 => bz_nn r2 (fun a_377 => bz_rc h_371 a_377 12 (bz_cI G l d kX12_hold [.inr (some a_377), .inl x_373, .inl x_374] h_371 0 0 (fun x_375 h_376 => (x_370 = x_375 → bz_J G κ kL_law (d + 1) F bc bs 18 [some (.inr (some a_9)), some (.inr (some a_372)), some (.inr (some a_377)), some (.inl (x3 + 6))] [] h_376) ∧ (¬ (x_370 = x_375) → F (some (.inl 0)) h_376)))))))))))) ∧ (¬ (x_11 &&& 63) = 35 → ((x_11 &&& 63) = 36 → bz_rA h a_9 (x3 + 1) (fun x_378 => bz_rA h a_9 (x3 + 2) (fun x_379 => bz_nn r1 (fun a_382 => bz_rc h a_382 11 (bz_cI G l d kX11_as [.inr (some a_382), .inl x_378, .inl x_379] h 0 0 (fun x_380 h_381 => bz_rA h_381 a_9 (x3 + 1) (fun x_383 => bz_rA h_381 a_9 (x3 + 2) (fun x_384 => bz_nn r2 (fun a_387 => bz_rc h_381 a_387 12 (bz_cI G l d kX12_as [.inr (some a_387), .inl x_383, .inl x_384] h_381 0 0 (fun x_385 h_386 => (x_380 = x_385 → bz_J G κ kL_law (d + 1) F bc bs 18 [some (.inr (some a_9)), some (.inr (some a_382)), some (.inr (some a_387)), some (.inl (x3 + 6))] [] h_386) ∧ (¬ (x_380 = x_385) → F (some (.inl 0)) h_386)))))))))))) ∧ (¬ (x_11 &&& 63) = 36 → ((x_11 &&& 63) = 37 → bz_rA h a_9 (x3 + 1) (fun x_388 => bz_rA h a_9 (x3 + 2) (fun x_389 => bz_rA h a_9 (x3 + 3) (fun x_390 => bz_nn r1 (fun a_393 => bz_rc h a_393 11 (bz_cI G l d kX11_sheet [.inr (some a_393), .inl x_388, .inl x_389, .inl x_390] h 0 0 (fun x_391 h_392 => bz_rA h_392 a_9 (x3 + 1) (fun x_394 => bz_rA h_392 a_9 (x3 + 2) (fun x_395 => bz_rA h_392 a_9 (x3 + 3) (fun x_396 => bz_nn r2 (fun a_399 => bz_rc h_392 a_399 12 (bz_cI G l d kX12_sheet [.inr (some a_399), .inl x_394, .inl x_395, .inl x_396] h_392 0 0 (fun x_397 h_398 => (x_391 = x_397 → bz_J G κ kL_law (d + 1) F bc bs 18 [some (.inr (some a_9)), some (.inr (some a_393)), some (.inr (some a_399)), some (.inl (x3 + 6))] [] h_398) ∧ (¬ (x_391 = x_397) → F (some (.inl 0)) h_398)))))))))))))) ∧ (¬ (x_11 &&& 63) = 37 → ((x_11 &&& 63) = 38 → bz_rA h a_9 (x3 + 1) (fun x_400 => bz_rA h a_9 (x3 + 2) (fun x_401 => bz_rA h a_9 (x3 + 3) (fun x_402 => bz_nn r1 (fun a_405 => bz_rc h a_405 11 (bz_cI G l d kX11_write [.inr (some a_405), .inl x_400, .inl x_401, .inl x_402] h 0 0 (fun x_403 h_404 => bz_rA h_404 a_9 (x3 + 1) (fun x_406 => bz_rA h_404 a_9 (x3 + 2) (fun x_407 => bz_rA h_404 a_9 (x3 + 3) (fun x_408 => bz_nn r2 (fun a_411 => bz_rc h_404 a_411 12 (bz_cI G l d kX12_write [.inr (some a_411), .inl x_406, .inl x_407, .inl x_408] h_404 0 0 (fun x_409 h_410 => (x_403 = x_409 → bz_J G κ kL_law (d + 1) F bc bs 18 [some (.inr (some a_9)), some (.inr (some a_405)), some (.inr (some a_411)), some (.inl (x3 + 6))] [] h_410) ∧ (¬ (x_403 = x_409) → F (some (.inl 0)) h_410)))))))))))))) ∧ (¬ (x_11 &&& 63) = 38 → ((x_11 &&& 63) = 39 → bz_rA h a_9 (x3 + 1) (fun x_412 => bz_rA h a_9 (x3 + 2) (fun x_413 => bz_rA h a_9 (x3 + 3) (fun x_414 => bz_rA h a_9 (x3 + 4) (fun x_415 => bz_rA h a_9 (x3 + 5) (fun x_416 => bz_nn r1 (fun a_419 => bz_rc h a_419 11 (bz_cI G l d kX11_copy [.inr (some a_419), .inl x_412, .inl x_413, .inl x_414, .inl x_415, .inl x_416] h 0 0 (fun x_417 h_418 => bz_rA h_418 a_9 (x3 + 1) (fun x_420 => bz_rA h_418 a_9 (x3 + 2) (fun x_421 => bz_rA h_418 a_9 (x3 + 3) (fun x_422 => bz_rA h_418 a_9 (x3 + 4) (fun x_423 => bz_rA h_418 a_9 (x3 + 5) (fun x_424 => bz_nn r2 (fun a_427 => bz_rc h_418 a_427 12 (bz_cI G l d kX12_copy [.inr (some a_427), .inl x_420, .inl x_421, .inl x_422, .inl x_423, .inl x_424] h_418 0 0 (fun x_425 h_426 => (x_417 = x_425 → bz_J G κ kL_law (d + 1) F bc bs 18 [some (.inr (some a_9)), some (.inr (some a_419)), some (.inr (some a_427)), some (.inl (x3 + 6))] [] h_426) ∧ (¬ (x_417 = x_425) → F (some (.inl 0)) h_426)))))))))))))))))) ∧ (¬ (x_11 &&& 63) = 39 → ((x_11 &&& 63) = 40 → bz_rA h a_9 (x3 + 1) (fun x_428 => bz_nn r1 (fun a_431 => bz_rc h a_431 11 (bz_cI G l d kX11_roads [.inr (some a_431), .inl x_428] h 0 0 (fun x_429 h_430 => bz_rA h_430 a_9 (x3 + 1) (fun x_432 => bz_nn r2 (fun a_435 => bz_rc h_430 a_435 12 (bz_cI G l d kX12_roads [.inr (some a_435), .inl x_432] h_430 0 0 (fun x_433 h_434 => (x_429 = x_433 → bz_J G κ kL_law (d + 1) F bc bs 18 [some (.inr (some a_9)), some (.inr (some a_431)), some (.inr (some a_435)), some (.inl (x3 + 6))] [] h_434) ∧ (¬ (x_429 = x_433) → F (some (.inl 0)) h_434)))))))))) ∧ (¬ (x_11 &&& 63) = 40 → ((x_11 &&& 63) = 41 → bz_rA h a_9 (x3 + 1) (fun x_436 => bz_rA h a_9 (x3 + 2) (fun x_437 => bz_nn r1 (fun a_440 => bz_rc h a_440 11 (bz_cI G l d kX11_judge [.inr (some a_440), .inl x_436, .inl x_437] h 0 0 (fun x_438 h_439 => bz_rA h_439 a_9 (x3 + 1) (fun x_441 => bz_rA h_439 a_9 (x3 + 2) (fun x_442 => bz_nn r2 (fun a_445 => bz_rc h_439 a_445 12 (bz_cI G l d kX12_judge [.inr (some a_445), .inl x_441, .inl x_442] h_439 0 0 (fun x_443 h_444 => (x_438 = x_443 → bz_J G κ kL_law (d + 1) F bc bs 18 [some (.inr (some a_9)), some (.inr (some a_440)), some (.inr (some a_445)), some (.inl (x3 + 6))] [] h_444) ∧ (¬ (x_438 = x_443) → F (some (.inl 0)) h_444)))))))))))) ∧ (¬ (x_11 &&& 63) = 41 → ((x_11 &&& 63) = 42 → bz_nn r1 (fun a_448 => bz_rc h a_448 11 (bz_cI G l d kX11_image [.inr (some a_448)] h 0 0 (fun x_446 h_447 => bz_nn r2 (fun a_451 => bz_rc h_447 a_451 12 (bz_cI G l d kX12_image [.inr (some a_451)] h_447 0 0 (fun x_449 h_450 => (x_446 = x_449 → bz_J G κ kL_law (d + 1) F bc bs 18 [some (.inr (some a_9)), some (.inr (some a_448)), some (.inr (some a_451)), some (.inl (x3 + 6))] [] h_450) ∧ (¬ (x_446 = x_449) → F (some (.inl 0)) h_450)))))))) ∧ (¬ (x_11 &&& 63) = 42 → ((x_11 &&& 63) = 43 → bz_nn r1 (fun a_454 => bz_rc h a_454 11 (bz_cI G l d kX11_undo [.inr (some a_454)] h 0 0 (fun x_452 h_453 => bz_nn r2 (fun a_457 => bz_rc h_453 a_457 12 (bz_cI G l d kX12_undo [.inr (some a_457)] h_453 0 0 (fun x_455 h_456 => (x_452 = x_455 → bz_J G κ kL_law (d + 1) F bc bs 18 [some (.inr (some a_9)), some (.inr (some a_454)), some (.inr (some a_457)), some (.inl (x3 + 6))] [] h_456) ∧ (¬ (x_452 = x_455) → F (some (.inl 0)) h_456)))))))) ∧ (¬ (x_11 &&& 63) = 43 → ((x_11 &&& 63) = 44 → bz_nn r1 (fun a_460 => bz_rc h a_460 11 (bz_cI G l d kX11_tear [.inr (some a_460)] h 0 0 (fun x_458 h_459 => bz_nn r2 (fun a_463 => bz_rc h_459 a_463 12 (bz_cI G l d kX12_tear [.inr (some a_463)] h_459 0 0 (fun x_461 h_462 => (x_458 = x_461 → bz_J G κ kL_law (d + 1) F bc bs 18 [some (.inr (some a_9)), some (.inr (some a_460)), some (.inr (some a_463)), some (.inl (x3 + 6))] [] h_462) ∧ (¬ (x_458 = x_461) → F (some (.inl 0)) h_462)))))))) ∧ (¬ (x_11 &&& 63) = 44 → ((x_11 &&& 63) = 45 → bz_rA h a_9 (x3 + 1) (fun x_464 => bz_nn r1 (fun a_467 => bz_rc h a_467 11 (bz_cI G l d kX11_count [.inr (some a_467), .inl x_464] h 0 0 (fun x_465 h_466 => bz_rA h_466 a_9 (x3 + 1) (fun x_468 => bz_nn r2 (fun a_471 => bz_rc h_466 a_471 12 (bz_cI G l d kX12_count [.inr (some a_471), .inl x_468] h_466 0 0 (fun x_469 h_470 => (x_465 = x_469 → bz_J G κ kL_law (d + 1) F bc bs 18 [some (.inr (some a_9)), some (.inr (some a_467)), some (.inr (some a_471)), some (.inl (x3 + 6))] [] h_470) ∧ (¬ (x_465 = x_469) → F (some (.inl 0)) h_470)))))))))) ∧ (¬ (x_11 &&& 63) = 45 → ((x_11 &&& 63) = 46 → bz_rA h a_9 (x3 + 1) (fun x_472 => bz_nn r1 (fun a_475 => bz_rc h a_475 11 (bz_cI G l d kX11_status [.inr (some a_475), .inl x_472] h 0 0 (fun x_473 h_474 => bz_rA h_474 a_9 (x3 + 1) (fun x_476 => bz_nn r2 (fun a_479 => bz_rc h_474 a_479 12 (bz_cI G l d kX12_status [.inr (some a_479), .inl x_476] h_474 0 0 (fun x_477 h_478 => (x_473 = x_477 → bz_J G κ kL_law (d + 1) F bc bs 18 [some (.inr (some a_9)), some (.inr (some a_475)), some (.inr (some a_479)), some (.inl (x3 + 6))] [] h_478) ∧ (¬ (x_473 = x_477) → F (some (.inl 0)) h_478)))))))))) ∧ (¬ (x_11 &&& 63) = 46 → bz_J G κ kL_law (d + 1) F bc bs 18 [some (.inr (some a_9)), some (.inr r1), some (.inr r2), some (.inl (x3 + 6))] [] h)))))))))))))))))))))))))))))))))))))))))))))))))))
set_option maxRecDepth 20000 in
set_option maxHeartbeats 4000000 in
theorem g_L_law_18 {G : bz_G} {κ : bz_K} {l : Launch} {d : Nat} {F : Option bz_V → bz_H → Prop} {bc bs : Nat} (hl : κ.2.1 = l) (r0 : Option Nat) (r1 : Option Nat) (r2 : Option Nat) (x3 : Int32) (h : bz_H) (hP0 : w_L_law_18 G κ l d F bc bs r0 r1 r2 x3 h) : bz_J G κ kL_law (d + 1) F (bc + 2) (bs + 81) 18 [some (.inr r0), some (.inr r1), some (.inr r2), some (.inl x3)] [] h := by
  subst hl
  unfold w_L_law_18 at hP0
  refine bz_iload_n (pc := 18) dL_law_18 rfl rfl ?_
  refine bz_aload_n (pc := 19) dL_law_19 rfl rfl ?_
  obtain ⟨a_9, rfl, hP1⟩ := hP0
  refine bz_rw_rN (pc := 20) dL_law_20 hP1 (fun x_10 hP2 => ?_)
  clear hP1
  refine bz_bipush (pc := 21) dL_law_21 cb_6 ?_
  refine bz_isub (pc := 23) dL_law_23 ?_
  refine bz_icmp_gt (tgt := 1783) (pc := 24) dL_law_24 rfl (fun c => ?_) (fun c => ?_)
  · have hP3 := hP2.1 c
    clear hP2
    refine bz_iconst (pc := 1783) dL_law_1783 ci_1 ?_
    exact bz_retI (pc := 1784) dL_law_1784 rfl rfl hP3
  · have hP4 := hP2.2 c
    clear hP2
    refine bz_aload_n (pc := 27) dL_law_27 rfl rfl ?_
    refine bz_iload_n (pc := 28) dL_law_28 rfl rfl ?_
    refine bz_rw_rA (pc := 29) dL_law_29 hP4 (fun x_11 hP5 => ?_)
    clear hP4
    refine bz_bipush (pc := 30) dL_law_30 cb_63 ?_
    refine bz_iand (pc := 32) dL_law_32 ?_
    refine bz_table (pc := 33) [(0, 203), (1, 246), (2, 289), (3, 322), (4, 345), (5, 378), (6, 431), (7, 464), (8, 487), (9, 520), (10, 553), (11, 596), (12, 639), (13, 692), (14, 725), (15, 768), (16, 801), (17, 814), (18, 827), (19, 860), (20, 903), (21, 926), (22, 959), (23, 972), (24, 1015), (25, 1038), (26, 1081), (27, 1114), (28, 1147), (29, 1190), (30, 1233), (31, 1266), (32, 1299), (33, 1322), (34, 1355), (35, 1388), (36, 1421), (37, 1454), (38, 1497), (39, 1540), (40, 1603), (41, 1626), (42, 1659), (43, 1672), (44, 1685), (45, 1698), (46, 1721)] dL_law_33 (by decide) (by decide) (by decide) (by decide) (by decide) ?_
    refine ⟨fun c => ?_, fun c => ?_⟩
    · have hP6 := hP5.1 c
      clear hP5
      show bz_J G κ kL_law (d + 1) F (bc + 2) (bs + 81) 236 [some (.inr (some a_9)), some (.inr r1), some (.inr r2), some (.inl x3)] [] h
      refine bz_aload_n (pc := 236) dL_law_236 rfl rfl ?_
      refine bz_aload_n (pc := 237) dL_law_237 rfl rfl ?_
      refine bz_iload_n (pc := 238) dL_law_238 rfl rfl ?_
      refine bz_iconst (pc := 239) dL_law_239 ci_1 ?_
      refine bz_iadd (pc := 240) dL_law_240 ?_
      refine bz_rw_rA (pc := 241) dL_law_241 hP6 (fun x_12 hP7 => ?_)
      clear hP6
      refine bz_aload_n (pc := 242) dL_law_242 rfl rfl ?_
      refine bz_iload_n (pc := 243) dL_law_243 rfl rfl ?_
      refine bz_iconst (pc := 244) dL_law_244 ci_2 ?_
      refine bz_iadd (pc := 245) dL_law_245 ?_
      refine bz_rw_rA (pc := 246) dL_law_246 hP7 (fun x_13 hP8 => ?_)
      clear hP7
      refine bz_aload_n (pc := 247) dL_law_247 rfl rfl ?_
      refine bz_iload_n (pc := 248) dL_law_248 rfl rfl ?_
      refine bz_iconst (pc := 249) dL_law_249 ci_3 ?_
      refine bz_iadd (pc := 250) dL_law_250 ?_
      refine bz_rw_rA (pc := 251) dL_law_251 hP8 (fun x_14 hP9 => ?_)
      clear hP8
      obtain ⟨a_17, rfl, hP10⟩ := hP9
      refine bz_kIV (as := [.inl x_12, .inl x_13, .inl x_14]) (st := []) (ci := 11) (n := 3) (mc := 0) (ms := 0) (bc := (bc + 2)) (bs := (bs + 81)) (yc := kX11_crossing) (q := (RX11, TX11, 9)) (b := a_17) (pc := 252) dL_law_252 sc_X11_crossing ml_L_13 im_X11_crossing se_X11_crossing rfl rfl rfl (Nat.le_of_ble_eq_true rfl) hP10 (fun x_15 h_16 hP11 => ?_)
      clear hP10
      refine bz_aload_n (pc := 255) dL_law_255 rfl rfl ?_
      refine bz_aload_n (pc := 256) dL_law_256 rfl rfl ?_
      refine bz_iload_n (pc := 257) dL_law_257 rfl rfl ?_
      refine bz_iconst (pc := 258) dL_law_258 ci_1 ?_
      refine bz_iadd (pc := 259) dL_law_259 ?_
      refine bz_rw_rA (pc := 260) dL_law_260 hP11 (fun x_18 hP12 => ?_)
      clear hP11
      refine bz_aload_n (pc := 261) dL_law_261 rfl rfl ?_
      refine bz_iload_n (pc := 262) dL_law_262 rfl rfl ?_
      refine bz_iconst (pc := 263) dL_law_263 ci_2 ?_
      refine bz_iadd (pc := 264) dL_law_264 ?_
      refine bz_rw_rA (pc := 265) dL_law_265 hP12 (fun x_19 hP13 => ?_)
      clear hP12
      refine bz_aload_n (pc := 266) dL_law_266 rfl rfl ?_
      refine bz_iload_n (pc := 267) dL_law_267 rfl rfl ?_
      refine bz_iconst (pc := 268) dL_law_268 ci_3 ?_
      refine bz_iadd (pc := 269) dL_law_269 ?_
      refine bz_rw_rA (pc := 270) dL_law_270 hP13 (fun x_20 hP14 => ?_)
      clear hP13
      obtain ⟨a_23, rfl, hP15⟩ := hP14
      refine bz_kIV (as := [.inl x_18, .inl x_19, .inl x_20]) (st := [.inl x_15]) (ci := 12) (n := 3) (mc := 0) (ms := 0) (bc := (bc + 2)) (bs := (bs + 81)) (yc := kX12_crossing) (q := (RX12, TX12, 34)) (b := a_23) (pc := 271) dL_law_271 sc_X12_crossing ml_L_17 im_X12_crossing se_X12_crossing rfl rfl rfl (Nat.le_of_ble_eq_true rfl) hP15 (fun x_21 h_22 hP16 => ?_)
      clear hP15
      refine bz_icmp_eq (tgt := 1777) (pc := 274) dL_law_274 rfl (fun c => ?_) (fun c => ?_)
      · have hP17 := hP16.1 c
        clear hP16
        refine bz_s_iinc (pc := 1777) dL_law_1777 (Nat.le_of_ble_eq_true rfl) rfl rfl [some (.inr (some a_9)), some (.inr (some a_17)), some (.inr (some a_23)), some (.inl (x3 + 6))] rfl ?_
        refine bz_goto (tgt := 18) (pc := 1780) dL_law_1780 rfl ?_
        exact bz_more (by omega) (by omega) hP17
      · have hP18 := hP16.2 c
        clear hP16
        refine bz_iconst (pc := 277) dL_law_277 ci_0 ?_
        exact bz_retI (pc := 278) dL_law_278 rfl rfl hP18
    · have hP19 := hP5.2 c
      clear hP5
      refine ⟨fun c => ?_, fun c => ?_⟩
      · have hP20 := hP19.1 c
        clear hP19
        show bz_J G κ kL_law (d + 1) F (bc + 2) (bs + 81) 279 [some (.inr (some a_9)), some (.inr r1), some (.inr r2), some (.inl x3)] [] h
        refine bz_aload_n (pc := 279) dL_law_279 rfl rfl ?_
        refine bz_aload_n (pc := 280) dL_law_280 rfl rfl ?_
        refine bz_iload_n (pc := 281) dL_law_281 rfl rfl ?_
        refine bz_iconst (pc := 282) dL_law_282 ci_1 ?_
        refine bz_iadd (pc := 283) dL_law_283 ?_
        refine bz_rw_rA (pc := 284) dL_law_284 hP20 (fun x_24 hP21 => ?_)
        clear hP20
        refine bz_aload_n (pc := 285) dL_law_285 rfl rfl ?_
        refine bz_iload_n (pc := 286) dL_law_286 rfl rfl ?_
        refine bz_iconst (pc := 287) dL_law_287 ci_2 ?_
        refine bz_iadd (pc := 288) dL_law_288 ?_
        refine bz_rw_rA (pc := 289) dL_law_289 hP21 (fun x_25 hP22 => ?_)
        clear hP21
        refine bz_aload_n (pc := 290) dL_law_290 rfl rfl ?_
        refine bz_iload_n (pc := 291) dL_law_291 rfl rfl ?_
        refine bz_iconst (pc := 292) dL_law_292 ci_3 ?_
        refine bz_iadd (pc := 293) dL_law_293 ?_
        refine bz_rw_rA (pc := 294) dL_law_294 hP22 (fun x_26 hP23 => ?_)
        clear hP22
        obtain ⟨a_29, rfl, hP24⟩ := hP23
        refine bz_kIV (as := [.inl x_24, .inl x_25, .inl x_26]) (st := []) (ci := 11) (n := 3) (mc := 0) (ms := 0) (bc := (bc + 2)) (bs := (bs + 81)) (yc := kX11_road) (q := (RX11, TX11, 9)) (b := a_29) (pc := 295) dL_law_295 sc_X11_road ml_L_18 im_X11_road se_X11_road rfl rfl rfl (Nat.le_of_ble_eq_true rfl) hP24 (fun x_27 h_28 hP25 => ?_)
        clear hP24
        refine bz_aload_n (pc := 298) dL_law_298 rfl rfl ?_
        refine bz_aload_n (pc := 299) dL_law_299 rfl rfl ?_
        refine bz_iload_n (pc := 300) dL_law_300 rfl rfl ?_
        refine bz_iconst (pc := 301) dL_law_301 ci_1 ?_
        refine bz_iadd (pc := 302) dL_law_302 ?_
        refine bz_rw_rA (pc := 303) dL_law_303 hP25 (fun x_30 hP26 => ?_)
        clear hP25
        refine bz_aload_n (pc := 304) dL_law_304 rfl rfl ?_
        refine bz_iload_n (pc := 305) dL_law_305 rfl rfl ?_
        refine bz_iconst (pc := 306) dL_law_306 ci_2 ?_
        refine bz_iadd (pc := 307) dL_law_307 ?_
        refine bz_rw_rA (pc := 308) dL_law_308 hP26 (fun x_31 hP27 => ?_)
        clear hP26
        refine bz_aload_n (pc := 309) dL_law_309 rfl rfl ?_
        refine bz_iload_n (pc := 310) dL_law_310 rfl rfl ?_
        refine bz_iconst (pc := 311) dL_law_311 ci_3 ?_
        refine bz_iadd (pc := 312) dL_law_312 ?_
        refine bz_rw_rA (pc := 313) dL_law_313 hP27 (fun x_32 hP28 => ?_)
        clear hP27
        obtain ⟨a_35, rfl, hP29⟩ := hP28
        refine bz_kIV (as := [.inl x_30, .inl x_31, .inl x_32]) (st := [.inl x_27]) (ci := 12) (n := 3) (mc := 0) (ms := 0) (bc := (bc + 2)) (bs := (bs + 81)) (yc := kX12_road) (q := (RX12, TX12, 34)) (b := a_35) (pc := 314) dL_law_314 sc_X12_road ml_L_21 im_X12_road se_X12_road rfl rfl rfl (Nat.le_of_ble_eq_true rfl) hP29 (fun x_33 h_34 hP30 => ?_)
        clear hP29
        refine bz_icmp_eq (tgt := 1777) (pc := 317) dL_law_317 rfl (fun c => ?_) (fun c => ?_)
        · have hP31 := hP30.1 c
          clear hP30
          refine bz_s_iinc (pc := 1777) dL_law_1777 (Nat.le_of_ble_eq_true rfl) rfl rfl [some (.inr (some a_9)), some (.inr (some a_29)), some (.inr (some a_35)), some (.inl (x3 + 6))] rfl ?_
          refine bz_goto (tgt := 18) (pc := 1780) dL_law_1780 rfl ?_
          exact bz_more (by omega) (by omega) hP31
        · have hP32 := hP30.2 c
          clear hP30
          refine bz_iconst (pc := 320) dL_law_320 ci_0 ?_
          exact bz_retI (pc := 321) dL_law_321 rfl rfl hP32
      · have hP33 := hP19.2 c
        clear hP19
        refine ⟨fun c => ?_, fun c => ?_⟩
        · have hP34 := hP33.1 c
          clear hP33
          show bz_J G κ kL_law (d + 1) F (bc + 2) (bs + 81) 322 [some (.inr (some a_9)), some (.inr r1), some (.inr r2), some (.inl x3)] [] h
          refine bz_aload_n (pc := 322) dL_law_322 rfl rfl ?_
          refine bz_aload_n (pc := 323) dL_law_323 rfl rfl ?_
          refine bz_iload_n (pc := 324) dL_law_324 rfl rfl ?_
          refine bz_iconst (pc := 325) dL_law_325 ci_1 ?_
          refine bz_iadd (pc := 326) dL_law_326 ?_
          refine bz_rw_rA (pc := 327) dL_law_327 hP34 (fun x_36 hP35 => ?_)
          clear hP34
          refine bz_aload_n (pc := 328) dL_law_328 rfl rfl ?_
          refine bz_iload_n (pc := 329) dL_law_329 rfl rfl ?_
          refine bz_iconst (pc := 330) dL_law_330 ci_2 ?_
          refine bz_iadd (pc := 331) dL_law_331 ?_
          refine bz_rw_rA (pc := 332) dL_law_332 hP35 (fun x_37 hP36 => ?_)
          clear hP35
          obtain ⟨a_40, rfl, hP37⟩ := hP36
          refine bz_kIV (as := [.inl x_36, .inl x_37]) (st := []) (ci := 11) (n := 2) (mc := 0) (ms := 0) (bc := (bc + 2)) (bs := (bs + 81)) (yc := kX11_way) (q := (RX11, TX11, 9)) (b := a_40) (pc := 333) dL_law_333 sc_X11_way ml_L_22 im_X11_way se_X11_way rfl rfl rfl (Nat.le_of_ble_eq_true rfl) hP37 (fun x_38 h_39 hP38 => ?_)
          clear hP37
          refine bz_aload_n (pc := 336) dL_law_336 rfl rfl ?_
          refine bz_aload_n (pc := 337) dL_law_337 rfl rfl ?_
          refine bz_iload_n (pc := 338) dL_law_338 rfl rfl ?_
          refine bz_iconst (pc := 339) dL_law_339 ci_1 ?_
          refine bz_iadd (pc := 340) dL_law_340 ?_
          refine bz_rw_rA (pc := 341) dL_law_341 hP38 (fun x_41 hP39 => ?_)
          clear hP38
          refine bz_aload_n (pc := 342) dL_law_342 rfl rfl ?_
          refine bz_iload_n (pc := 343) dL_law_343 rfl rfl ?_
          refine bz_iconst (pc := 344) dL_law_344 ci_2 ?_
          refine bz_iadd (pc := 345) dL_law_345 ?_
          refine bz_rw_rA (pc := 346) dL_law_346 hP39 (fun x_42 hP40 => ?_)
          clear hP39
          obtain ⟨a_45, rfl, hP41⟩ := hP40
          refine bz_kIV (as := [.inl x_41, .inl x_42]) (st := [.inl x_38]) (ci := 12) (n := 2) (mc := 0) (ms := 0) (bc := (bc + 2)) (bs := (bs + 81)) (yc := kX12_way) (q := (RX12, TX12, 34)) (b := a_45) (pc := 347) dL_law_347 sc_X12_way ml_L_26 im_X12_way se_X12_way rfl rfl rfl (Nat.le_of_ble_eq_true rfl) hP41 (fun x_43 h_44 hP42 => ?_)
          clear hP41
          refine bz_icmp_eq (tgt := 1777) (pc := 350) dL_law_350 rfl (fun c => ?_) (fun c => ?_)
          · have hP43 := hP42.1 c
            clear hP42
            refine bz_s_iinc (pc := 1777) dL_law_1777 (Nat.le_of_ble_eq_true rfl) rfl rfl [some (.inr (some a_9)), some (.inr (some a_40)), some (.inr (some a_45)), some (.inl (x3 + 6))] rfl ?_
            refine bz_goto (tgt := 18) (pc := 1780) dL_law_1780 rfl ?_
            exact bz_more (by omega) (by omega) hP43
          · have hP44 := hP42.2 c
            clear hP42
            refine bz_iconst (pc := 353) dL_law_353 ci_0 ?_
            exact bz_retI (pc := 354) dL_law_354 rfl rfl hP44
        · have hP45 := hP33.2 c
          clear hP33
          refine ⟨fun c => ?_, fun c => ?_⟩
          · have hP46 := hP45.1 c
            clear hP45
            show bz_J G κ kL_law (d + 1) F (bc + 2) (bs + 81) 355 [some (.inr (some a_9)), some (.inr r1), some (.inr r2), some (.inl x3)] [] h
            refine bz_aload_n (pc := 355) dL_law_355 rfl rfl ?_
            refine bz_aload_n (pc := 356) dL_law_356 rfl rfl ?_
            refine bz_iload_n (pc := 357) dL_law_357 rfl rfl ?_
            refine bz_iconst (pc := 358) dL_law_358 ci_1 ?_
            refine bz_iadd (pc := 359) dL_law_359 ?_
            refine bz_rw_rA (pc := 360) dL_law_360 hP46 (fun x_46 hP47 => ?_)
            clear hP46
            obtain ⟨a_49, rfl, hP48⟩ := hP47
            refine bz_kIV (as := [.inl x_46]) (st := []) (ci := 11) (n := 1) (mc := 0) (ms := 0) (bc := (bc + 2)) (bs := (bs + 81)) (yc := kX11_minutes) (q := (RX11, TX11, 9)) (b := a_49) (pc := 361) dL_law_361 sc_X11_minutes ml_L_27 im_X11_minutes se_X11_minutes rfl rfl rfl (Nat.le_of_ble_eq_true rfl) hP48 (fun x_47 h_48 hP49 => ?_)
            clear hP48
            refine bz_aload_n (pc := 364) dL_law_364 rfl rfl ?_
            refine bz_aload_n (pc := 365) dL_law_365 rfl rfl ?_
            refine bz_iload_n (pc := 366) dL_law_366 rfl rfl ?_
            refine bz_iconst (pc := 367) dL_law_367 ci_1 ?_
            refine bz_iadd (pc := 368) dL_law_368 ?_
            refine bz_rw_rA (pc := 369) dL_law_369 hP49 (fun x_50 hP50 => ?_)
            clear hP49
            obtain ⟨a_53, rfl, hP51⟩ := hP50
            refine bz_kIV (as := [.inl x_50]) (st := [.inl x_47]) (ci := 12) (n := 1) (mc := 0) (ms := 0) (bc := (bc + 2)) (bs := (bs + 81)) (yc := kX12_minutes) (q := (RX12, TX12, 34)) (b := a_53) (pc := 370) dL_law_370 sc_X12_minutes ml_L_31 im_X12_minutes se_X12_minutes rfl rfl rfl (Nat.le_of_ble_eq_true rfl) hP51 (fun x_51 h_52 hP52 => ?_)
            clear hP51
            refine bz_icmp_eq (tgt := 1777) (pc := 373) dL_law_373 rfl (fun c => ?_) (fun c => ?_)
            · have hP53 := hP52.1 c
              clear hP52
              refine bz_s_iinc (pc := 1777) dL_law_1777 (Nat.le_of_ble_eq_true rfl) rfl rfl [some (.inr (some a_9)), some (.inr (some a_49)), some (.inr (some a_53)), some (.inl (x3 + 6))] rfl ?_
              refine bz_goto (tgt := 18) (pc := 1780) dL_law_1780 rfl ?_
              exact bz_more (by omega) (by omega) hP53
            · have hP54 := hP52.2 c
              clear hP52
              refine bz_iconst (pc := 376) dL_law_376 ci_0 ?_
              exact bz_retI (pc := 377) dL_law_377 rfl rfl hP54
          · have hP55 := hP45.2 c
            clear hP45
            refine ⟨fun c => ?_, fun c => ?_⟩
            · have hP56 := hP55.1 c
              clear hP55
              show bz_J G κ kL_law (d + 1) F (bc + 2) (bs + 81) 378 [some (.inr (some a_9)), some (.inr r1), some (.inr r2), some (.inl x3)] [] h
              refine bz_aload_n (pc := 378) dL_law_378 rfl rfl ?_
              refine bz_aload_n (pc := 379) dL_law_379 rfl rfl ?_
              refine bz_iload_n (pc := 380) dL_law_380 rfl rfl ?_
              refine bz_iconst (pc := 381) dL_law_381 ci_1 ?_
              refine bz_iadd (pc := 382) dL_law_382 ?_
              refine bz_rw_rA (pc := 383) dL_law_383 hP56 (fun x_54 hP57 => ?_)
              clear hP56
              refine bz_aload_n (pc := 384) dL_law_384 rfl rfl ?_
              refine bz_iload_n (pc := 385) dL_law_385 rfl rfl ?_
              refine bz_iconst (pc := 386) dL_law_386 ci_2 ?_
              refine bz_iadd (pc := 387) dL_law_387 ?_
              refine bz_rw_rA (pc := 388) dL_law_388 hP57 (fun x_55 hP58 => ?_)
              clear hP57
              obtain ⟨a_58, rfl, hP59⟩ := hP58
              refine bz_kIV (as := [.inl x_54, .inl x_55]) (st := []) (ci := 11) (n := 2) (mc := 0) (ms := 0) (bc := (bc + 2)) (bs := (bs + 81)) (yc := kX11_kitchen) (q := (RX11, TX11, 9)) (b := a_58) (pc := 389) dL_law_389 sc_X11_kitchen ml_L_32 im_X11_kitchen se_X11_kitchen rfl rfl rfl (Nat.le_of_ble_eq_true rfl) hP59 (fun x_56 h_57 hP60 => ?_)
              clear hP59
              refine bz_aload_n (pc := 392) dL_law_392 rfl rfl ?_
              refine bz_aload_n (pc := 393) dL_law_393 rfl rfl ?_
              refine bz_iload_n (pc := 394) dL_law_394 rfl rfl ?_
              refine bz_iconst (pc := 395) dL_law_395 ci_1 ?_
              refine bz_iadd (pc := 396) dL_law_396 ?_
              refine bz_rw_rA (pc := 397) dL_law_397 hP60 (fun x_59 hP61 => ?_)
              clear hP60
              refine bz_aload_n (pc := 398) dL_law_398 rfl rfl ?_
              refine bz_iload_n (pc := 399) dL_law_399 rfl rfl ?_
              refine bz_iconst (pc := 400) dL_law_400 ci_2 ?_
              refine bz_iadd (pc := 401) dL_law_401 ?_
              refine bz_rw_rA (pc := 402) dL_law_402 hP61 (fun x_60 hP62 => ?_)
              clear hP61
              obtain ⟨a_63, rfl, hP63⟩ := hP62
              refine bz_kIV (as := [.inl x_59, .inl x_60]) (st := [.inl x_56]) (ci := 12) (n := 2) (mc := 0) (ms := 0) (bc := (bc + 2)) (bs := (bs + 81)) (yc := kX12_kitchen) (q := (RX12, TX12, 34)) (b := a_63) (pc := 403) dL_law_403 sc_X12_kitchen ml_L_35 im_X12_kitchen se_X12_kitchen rfl rfl rfl (Nat.le_of_ble_eq_true rfl) hP63 (fun x_61 h_62 hP64 => ?_)
              clear hP63
              refine bz_icmp_eq (tgt := 1777) (pc := 406) dL_law_406 rfl (fun c => ?_) (fun c => ?_)
              · have hP65 := hP64.1 c
                clear hP64
                refine bz_s_iinc (pc := 1777) dL_law_1777 (Nat.le_of_ble_eq_true rfl) rfl rfl [some (.inr (some a_9)), some (.inr (some a_58)), some (.inr (some a_63)), some (.inl (x3 + 6))] rfl ?_
                refine bz_goto (tgt := 18) (pc := 1780) dL_law_1780 rfl ?_
                exact bz_more (by omega) (by omega) hP65
              · have hP66 := hP64.2 c
                clear hP64
                refine bz_iconst (pc := 409) dL_law_409 ci_0 ?_
                exact bz_retI (pc := 410) dL_law_410 rfl rfl hP66
            · have hP67 := hP55.2 c
              clear hP55
              refine ⟨fun c => ?_, fun c => ?_⟩
              · have hP68 := hP67.1 c
                clear hP67
                show bz_J G κ kL_law (d + 1) F (bc + 2) (bs + 81) 411 [some (.inr (some a_9)), some (.inr r1), some (.inr r2), some (.inl x3)] [] h
                refine bz_aload_n (pc := 411) dL_law_411 rfl rfl ?_
                refine bz_aload_n (pc := 412) dL_law_412 rfl rfl ?_
                refine bz_iload_n (pc := 413) dL_law_413 rfl rfl ?_
                refine bz_iconst (pc := 414) dL_law_414 ci_1 ?_
                refine bz_iadd (pc := 415) dL_law_415 ?_
                refine bz_rw_rA (pc := 416) dL_law_416 hP68 (fun x_64 hP69 => ?_)
                clear hP68
                refine bz_aload_n (pc := 417) dL_law_417 rfl rfl ?_
                refine bz_iload_n (pc := 418) dL_law_418 rfl rfl ?_
                refine bz_iconst (pc := 419) dL_law_419 ci_2 ?_
                refine bz_iadd (pc := 420) dL_law_420 ?_
                refine bz_rw_rA (pc := 421) dL_law_421 hP69 (fun x_65 hP70 => ?_)
                clear hP69
                refine bz_aload_n (pc := 422) dL_law_422 rfl rfl ?_
                refine bz_iload_n (pc := 423) dL_law_423 rfl rfl ?_
                refine bz_iconst (pc := 424) dL_law_424 ci_3 ?_
                refine bz_iadd (pc := 425) dL_law_425 ?_
                refine bz_rw_rA (pc := 426) dL_law_426 hP70 (fun x_66 hP71 => ?_)
                clear hP70
                refine bz_aload_n (pc := 427) dL_law_427 rfl rfl ?_
                refine bz_iload_n (pc := 428) dL_law_428 rfl rfl ?_
                refine bz_iconst (pc := 429) dL_law_429 ci_4 ?_
                refine bz_iadd (pc := 430) dL_law_430 ?_
                refine bz_rw_rA (pc := 431) dL_law_431 hP71 (fun x_67 hP72 => ?_)
                clear hP71
                obtain ⟨a_70, rfl, hP73⟩ := hP72
                refine bz_kIV (as := [.inl x_64, .inl x_65, .inl x_66, .inl x_67]) (st := []) (ci := 11) (n := 4) (mc := 0) (ms := 0) (bc := (bc + 2)) (bs := (bs + 81)) (yc := kX11_order) (q := (RX11, TX11, 9)) (b := a_70) (pc := 432) dL_law_432 sc_X11_order ml_L_36 im_X11_order se_X11_order rfl rfl rfl (Nat.le_of_ble_eq_true rfl) hP73 (fun x_68 h_69 hP74 => ?_)
                clear hP73
                refine bz_aload_n (pc := 435) dL_law_435 rfl rfl ?_
                refine bz_aload_n (pc := 436) dL_law_436 rfl rfl ?_
                refine bz_iload_n (pc := 437) dL_law_437 rfl rfl ?_
                refine bz_iconst (pc := 438) dL_law_438 ci_1 ?_
                refine bz_iadd (pc := 439) dL_law_439 ?_
                refine bz_rw_rA (pc := 440) dL_law_440 hP74 (fun x_71 hP75 => ?_)
                clear hP74
                refine bz_aload_n (pc := 441) dL_law_441 rfl rfl ?_
                refine bz_iload_n (pc := 442) dL_law_442 rfl rfl ?_
                refine bz_iconst (pc := 443) dL_law_443 ci_2 ?_
                refine bz_iadd (pc := 444) dL_law_444 ?_
                refine bz_rw_rA (pc := 445) dL_law_445 hP75 (fun x_72 hP76 => ?_)
                clear hP75
                refine bz_aload_n (pc := 446) dL_law_446 rfl rfl ?_
                refine bz_iload_n (pc := 447) dL_law_447 rfl rfl ?_
                refine bz_iconst (pc := 448) dL_law_448 ci_3 ?_
                refine bz_iadd (pc := 449) dL_law_449 ?_
                refine bz_rw_rA (pc := 450) dL_law_450 hP76 (fun x_73 hP77 => ?_)
                clear hP76
                refine bz_aload_n (pc := 451) dL_law_451 rfl rfl ?_
                refine bz_iload_n (pc := 452) dL_law_452 rfl rfl ?_
                refine bz_iconst (pc := 453) dL_law_453 ci_4 ?_
                refine bz_iadd (pc := 454) dL_law_454 ?_
                refine bz_rw_rA (pc := 455) dL_law_455 hP77 (fun x_74 hP78 => ?_)
                clear hP77
                obtain ⟨a_77, rfl, hP79⟩ := hP78
                refine bz_kIV (as := [.inl x_71, .inl x_72, .inl x_73, .inl x_74]) (st := [.inl x_68]) (ci := 12) (n := 4) (mc := 0) (ms := 0) (bc := (bc + 2)) (bs := (bs + 81)) (yc := kX12_order) (q := (RX12, TX12, 34)) (b := a_77) (pc := 456) dL_law_456 sc_X12_order ml_L_40 im_X12_order se_X12_order rfl rfl rfl (Nat.le_of_ble_eq_true rfl) hP79 (fun x_75 h_76 hP80 => ?_)
                clear hP79
                refine bz_icmp_eq (tgt := 1777) (pc := 459) dL_law_459 rfl (fun c => ?_) (fun c => ?_)
                · have hP81 := hP80.1 c
                  clear hP80
                  refine bz_s_iinc (pc := 1777) dL_law_1777 (Nat.le_of_ble_eq_true rfl) rfl rfl [some (.inr (some a_9)), some (.inr (some a_70)), some (.inr (some a_77)), some (.inl (x3 + 6))] rfl ?_
                  refine bz_goto (tgt := 18) (pc := 1780) dL_law_1780 rfl ?_
                  exact bz_more (by omega) (by omega) hP81
                · have hP82 := hP80.2 c
                  clear hP80
                  refine bz_iconst (pc := 462) dL_law_462 ci_0 ?_
                  exact bz_retI (pc := 463) dL_law_463 rfl rfl hP82
              · have hP83 := hP67.2 c
                clear hP67
                refine ⟨fun c => ?_, fun c => ?_⟩
                · have hP84 := hP83.1 c
                  clear hP83
                  show bz_J G κ kL_law (d + 1) F (bc + 2) (bs + 81) 464 [some (.inr (some a_9)), some (.inr r1), some (.inr r2), some (.inl x3)] [] h
                  refine bz_aload_n (pc := 464) dL_law_464 rfl rfl ?_
                  refine bz_aload_n (pc := 465) dL_law_465 rfl rfl ?_
                  refine bz_iload_n (pc := 466) dL_law_466 rfl rfl ?_
                  refine bz_iconst (pc := 467) dL_law_467 ci_1 ?_
                  refine bz_iadd (pc := 468) dL_law_468 ?_
                  refine bz_rw_rA (pc := 469) dL_law_469 hP84 (fun x_78 hP85 => ?_)
                  clear hP84
                  refine bz_aload_n (pc := 470) dL_law_470 rfl rfl ?_
                  refine bz_iload_n (pc := 471) dL_law_471 rfl rfl ?_
                  refine bz_iconst (pc := 472) dL_law_472 ci_2 ?_
                  refine bz_iadd (pc := 473) dL_law_473 ?_
                  refine bz_rw_rA (pc := 474) dL_law_474 hP85 (fun x_79 hP86 => ?_)
                  clear hP85
                  obtain ⟨a_82, rfl, hP87⟩ := hP86
                  refine bz_kIV (as := [.inl x_78, .inl x_79]) (st := []) (ci := 11) (n := 2) (mc := 0) (ms := 0) (bc := (bc + 2)) (bs := (bs + 81)) (yc := kX11_orderOf) (q := (RX11, TX11, 9)) (b := a_82) (pc := 475) dL_law_475 sc_X11_orderOf ml_L_41 im_X11_orderOf se_X11_orderOf rfl rfl rfl (Nat.le_of_ble_eq_true rfl) hP87 (fun x_80 h_81 hP88 => ?_)
                  clear hP87
                  refine bz_aload_n (pc := 478) dL_law_478 rfl rfl ?_
                  refine bz_aload_n (pc := 479) dL_law_479 rfl rfl ?_
                  refine bz_iload_n (pc := 480) dL_law_480 rfl rfl ?_
                  refine bz_iconst (pc := 481) dL_law_481 ci_1 ?_
                  refine bz_iadd (pc := 482) dL_law_482 ?_
                  refine bz_rw_rA (pc := 483) dL_law_483 hP88 (fun x_83 hP89 => ?_)
                  clear hP88
                  refine bz_aload_n (pc := 484) dL_law_484 rfl rfl ?_
                  refine bz_iload_n (pc := 485) dL_law_485 rfl rfl ?_
                  refine bz_iconst (pc := 486) dL_law_486 ci_2 ?_
                  refine bz_iadd (pc := 487) dL_law_487 ?_
                  refine bz_rw_rA (pc := 488) dL_law_488 hP89 (fun x_84 hP90 => ?_)
                  clear hP89
                  obtain ⟨a_87, rfl, hP91⟩ := hP90
                  refine bz_kIV (as := [.inl x_83, .inl x_84]) (st := [.inl x_80]) (ci := 12) (n := 2) (mc := 0) (ms := 0) (bc := (bc + 2)) (bs := (bs + 81)) (yc := kX12_orderOf) (q := (RX12, TX12, 34)) (b := a_87) (pc := 489) dL_law_489 sc_X12_orderOf ml_L_44 im_X12_orderOf se_X12_orderOf rfl rfl rfl (Nat.le_of_ble_eq_true rfl) hP91 (fun x_85 h_86 hP92 => ?_)
                  clear hP91
                  refine bz_icmp_eq (tgt := 1777) (pc := 492) dL_law_492 rfl (fun c => ?_) (fun c => ?_)
                  · have hP93 := hP92.1 c
                    clear hP92
                    refine bz_s_iinc (pc := 1777) dL_law_1777 (Nat.le_of_ble_eq_true rfl) rfl rfl [some (.inr (some a_9)), some (.inr (some a_82)), some (.inr (some a_87)), some (.inl (x3 + 6))] rfl ?_
                    refine bz_goto (tgt := 18) (pc := 1780) dL_law_1780 rfl ?_
                    exact bz_more (by omega) (by omega) hP93
                  · have hP94 := hP92.2 c
                    clear hP92
                    refine bz_iconst (pc := 495) dL_law_495 ci_0 ?_
                    exact bz_retI (pc := 496) dL_law_496 rfl rfl hP94
                · have hP95 := hP83.2 c
                  clear hP83
                  refine ⟨fun c => ?_, fun c => ?_⟩
                  · have hP96 := hP95.1 c
                    clear hP95
                    show bz_J G κ kL_law (d + 1) F (bc + 2) (bs + 81) 497 [some (.inr (some a_9)), some (.inr r1), some (.inr r2), some (.inl x3)] [] h
                    refine bz_aload_n (pc := 497) dL_law_497 rfl rfl ?_
                    refine bz_aload_n (pc := 498) dL_law_498 rfl rfl ?_
                    refine bz_iload_n (pc := 499) dL_law_499 rfl rfl ?_
                    refine bz_iconst (pc := 500) dL_law_500 ci_1 ?_
                    refine bz_iadd (pc := 501) dL_law_501 ?_
                    refine bz_rw_rA (pc := 502) dL_law_502 hP96 (fun x_88 hP97 => ?_)
                    clear hP96
                    obtain ⟨a_91, rfl, hP98⟩ := hP97
                    refine bz_kIV (as := [.inl x_88]) (st := []) (ci := 11) (n := 1) (mc := 0) (ms := 0) (bc := (bc + 2)) (bs := (bs + 81)) (yc := kX11_callOff) (q := (RX11, TX11, 9)) (b := a_91) (pc := 503) dL_law_503 sc_X11_callOff ml_L_45 im_X11_callOff se_X11_callOff rfl rfl rfl (Nat.le_of_ble_eq_true rfl) hP98 (fun x_89 h_90 hP99 => ?_)
                    clear hP98
                    refine bz_aload_n (pc := 506) dL_law_506 rfl rfl ?_
                    refine bz_aload_n (pc := 507) dL_law_507 rfl rfl ?_
                    refine bz_iload_n (pc := 508) dL_law_508 rfl rfl ?_
                    refine bz_iconst (pc := 509) dL_law_509 ci_1 ?_
                    refine bz_iadd (pc := 510) dL_law_510 ?_
                    refine bz_rw_rA (pc := 511) dL_law_511 hP99 (fun x_92 hP100 => ?_)
                    clear hP99
                    obtain ⟨a_95, rfl, hP101⟩ := hP100
                    refine bz_kIV (as := [.inl x_92]) (st := [.inl x_89]) (ci := 12) (n := 1) (mc := 0) (ms := 0) (bc := (bc + 2)) (bs := (bs + 81)) (yc := kX12_callOff) (q := (RX12, TX12, 34)) (b := a_95) (pc := 512) dL_law_512 sc_X12_callOff ml_L_48 im_X12_callOff se_X12_callOff rfl rfl rfl (Nat.le_of_ble_eq_true rfl) hP101 (fun x_93 h_94 hP102 => ?_)
                    clear hP101
                    refine bz_icmp_eq (tgt := 1777) (pc := 515) dL_law_515 rfl (fun c => ?_) (fun c => ?_)
                    · have hP103 := hP102.1 c
                      clear hP102
                      refine bz_s_iinc (pc := 1777) dL_law_1777 (Nat.le_of_ble_eq_true rfl) rfl rfl [some (.inr (some a_9)), some (.inr (some a_91)), some (.inr (some a_95)), some (.inl (x3 + 6))] rfl ?_
                      refine bz_goto (tgt := 18) (pc := 1780) dL_law_1780 rfl ?_
                      exact bz_more (by omega) (by omega) hP103
                    · have hP104 := hP102.2 c
                      clear hP102
                      refine bz_iconst (pc := 518) dL_law_518 ci_0 ?_
                      exact bz_retI (pc := 519) dL_law_519 rfl rfl hP104
                  · have hP105 := hP95.2 c
                    clear hP95
                    refine ⟨fun c => ?_, fun c => ?_⟩
                    · have hP106 := hP105.1 c
                      clear hP105
                      show bz_J G κ kL_law (d + 1) F (bc + 2) (bs + 81) 520 [some (.inr (some a_9)), some (.inr r1), some (.inr r2), some (.inl x3)] [] h
                      refine bz_aload_n (pc := 520) dL_law_520 rfl rfl ?_
                      refine bz_aload_n (pc := 521) dL_law_521 rfl rfl ?_
                      refine bz_iload_n (pc := 522) dL_law_522 rfl rfl ?_
                      refine bz_iconst (pc := 523) dL_law_523 ci_1 ?_
                      refine bz_iadd (pc := 524) dL_law_524 ?_
                      refine bz_rw_rA (pc := 525) dL_law_525 hP106 (fun x_96 hP107 => ?_)
                      clear hP106
                      refine bz_aload_n (pc := 526) dL_law_526 rfl rfl ?_
                      refine bz_iload_n (pc := 527) dL_law_527 rfl rfl ?_
                      refine bz_iconst (pc := 528) dL_law_528 ci_2 ?_
                      refine bz_iadd (pc := 529) dL_law_529 ?_
                      refine bz_rw_rA (pc := 530) dL_law_530 hP107 (fun x_97 hP108 => ?_)
                      clear hP107
                      obtain ⟨a_100, rfl, hP109⟩ := hP108
                      refine bz_kIV (as := [.inl x_96, .inl x_97]) (st := []) (ci := 11) (n := 2) (mc := 0) (ms := 0) (bc := (bc + 2)) (bs := (bs + 81)) (yc := kX11_rider) (q := (RX11, TX11, 9)) (b := a_100) (pc := 531) dL_law_531 sc_X11_rider ml_L_49 im_X11_rider se_X11_rider rfl rfl rfl (Nat.le_of_ble_eq_true rfl) hP109 (fun x_98 h_99 hP110 => ?_)
                      clear hP109
                      refine bz_aload_n (pc := 534) dL_law_534 rfl rfl ?_
                      refine bz_aload_n (pc := 535) dL_law_535 rfl rfl ?_
                      refine bz_iload_n (pc := 536) dL_law_536 rfl rfl ?_
                      refine bz_iconst (pc := 537) dL_law_537 ci_1 ?_
                      refine bz_iadd (pc := 538) dL_law_538 ?_
                      refine bz_rw_rA (pc := 539) dL_law_539 hP110 (fun x_101 hP111 => ?_)
                      clear hP110
                      refine bz_aload_n (pc := 540) dL_law_540 rfl rfl ?_
                      refine bz_iload_n (pc := 541) dL_law_541 rfl rfl ?_
                      refine bz_iconst (pc := 542) dL_law_542 ci_2 ?_
                      refine bz_iadd (pc := 543) dL_law_543 ?_
                      refine bz_rw_rA (pc := 544) dL_law_544 hP111 (fun x_102 hP112 => ?_)
                      clear hP111
                      obtain ⟨a_105, rfl, hP113⟩ := hP112
                      refine bz_kIV (as := [.inl x_101, .inl x_102]) (st := [.inl x_98]) (ci := 12) (n := 2) (mc := 0) (ms := 0) (bc := (bc + 2)) (bs := (bs + 81)) (yc := kX12_rider) (q := (RX12, TX12, 34)) (b := a_105) (pc := 545) dL_law_545 sc_X12_rider ml_L_52 im_X12_rider se_X12_rider rfl rfl rfl (Nat.le_of_ble_eq_true rfl) hP113 (fun x_103 h_104 hP114 => ?_)
                      clear hP113
                      refine bz_icmp_eq (tgt := 1777) (pc := 548) dL_law_548 rfl (fun c => ?_) (fun c => ?_)
                      · have hP115 := hP114.1 c
                        clear hP114
                        refine bz_s_iinc (pc := 1777) dL_law_1777 (Nat.le_of_ble_eq_true rfl) rfl rfl [some (.inr (some a_9)), some (.inr (some a_100)), some (.inr (some a_105)), some (.inl (x3 + 6))] rfl ?_
                        refine bz_goto (tgt := 18) (pc := 1780) dL_law_1780 rfl ?_
                        exact bz_more (by omega) (by omega) hP115
                      · have hP116 := hP114.2 c
                        clear hP114
                        refine bz_iconst (pc := 551) dL_law_551 ci_0 ?_
                        exact bz_retI (pc := 552) dL_law_552 rfl rfl hP116
                    · have hP117 := hP105.2 c
                      clear hP105
                      refine ⟨fun c => ?_, fun c => ?_⟩
                      · have hP118 := hP117.1 c
                        clear hP117
                        show bz_J G κ kL_law (d + 1) F (bc + 2) (bs + 81) 553 [some (.inr (some a_9)), some (.inr r1), some (.inr r2), some (.inl x3)] [] h
                        refine bz_aload_n (pc := 553) dL_law_553 rfl rfl ?_
                        refine bz_aload_n (pc := 554) dL_law_554 rfl rfl ?_
                        refine bz_iload_n (pc := 555) dL_law_555 rfl rfl ?_
                        refine bz_iconst (pc := 556) dL_law_556 ci_1 ?_
                        refine bz_iadd (pc := 557) dL_law_557 ?_
                        refine bz_rw_rA (pc := 558) dL_law_558 hP118 (fun x_106 hP119 => ?_)
                        clear hP118
                        refine bz_aload_n (pc := 559) dL_law_559 rfl rfl ?_
                        refine bz_iload_n (pc := 560) dL_law_560 rfl rfl ?_
                        refine bz_iconst (pc := 561) dL_law_561 ci_2 ?_
                        refine bz_iadd (pc := 562) dL_law_562 ?_
                        refine bz_rw_rA (pc := 563) dL_law_563 hP119 (fun x_107 hP120 => ?_)
                        clear hP119
                        obtain ⟨a_110, rfl, hP121⟩ := hP120
                        refine bz_kIV (as := [.inl x_106, .inl x_107]) (st := []) (ci := 11) (n := 2) (mc := 0) (ms := 0) (bc := (bc + 2)) (bs := (bs + 81)) (yc := kX11_riderOf) (q := (RX11, TX11, 9)) (b := a_110) (pc := 564) dL_law_564 sc_X11_riderOf ml_L_53 im_X11_riderOf se_X11_riderOf rfl rfl rfl (Nat.le_of_ble_eq_true rfl) hP121 (fun x_108 h_109 hP122 => ?_)
                        clear hP121
                        refine bz_aload_n (pc := 567) dL_law_567 rfl rfl ?_
                        refine bz_aload_n (pc := 568) dL_law_568 rfl rfl ?_
                        refine bz_iload_n (pc := 569) dL_law_569 rfl rfl ?_
                        refine bz_iconst (pc := 570) dL_law_570 ci_1 ?_
                        refine bz_iadd (pc := 571) dL_law_571 ?_
                        refine bz_rw_rA (pc := 572) dL_law_572 hP122 (fun x_111 hP123 => ?_)
                        clear hP122
                        refine bz_aload_n (pc := 573) dL_law_573 rfl rfl ?_
                        refine bz_iload_n (pc := 574) dL_law_574 rfl rfl ?_
                        refine bz_iconst (pc := 575) dL_law_575 ci_2 ?_
                        refine bz_iadd (pc := 576) dL_law_576 ?_
                        refine bz_rw_rA (pc := 577) dL_law_577 hP123 (fun x_112 hP124 => ?_)
                        clear hP123
                        obtain ⟨a_115, rfl, hP125⟩ := hP124
                        refine bz_kIV (as := [.inl x_111, .inl x_112]) (st := [.inl x_108]) (ci := 12) (n := 2) (mc := 0) (ms := 0) (bc := (bc + 2)) (bs := (bs + 81)) (yc := kX12_riderOf) (q := (RX12, TX12, 34)) (b := a_115) (pc := 578) dL_law_578 sc_X12_riderOf ml_L_56 im_X12_riderOf se_X12_riderOf rfl rfl rfl (Nat.le_of_ble_eq_true rfl) hP125 (fun x_113 h_114 hP126 => ?_)
                        clear hP125
                        refine bz_icmp_eq (tgt := 1777) (pc := 581) dL_law_581 rfl (fun c => ?_) (fun c => ?_)
                        · have hP127 := hP126.1 c
                          clear hP126
                          refine bz_s_iinc (pc := 1777) dL_law_1777 (Nat.le_of_ble_eq_true rfl) rfl rfl [some (.inr (some a_9)), some (.inr (some a_110)), some (.inr (some a_115)), some (.inl (x3 + 6))] rfl ?_
                          refine bz_goto (tgt := 18) (pc := 1780) dL_law_1780 rfl ?_
                          exact bz_more (by omega) (by omega) hP127
                        · have hP128 := hP126.2 c
                          clear hP126
                          refine bz_iconst (pc := 584) dL_law_584 ci_0 ?_
                          exact bz_retI (pc := 585) dL_law_585 rfl rfl hP128
                      · have hP129 := hP117.2 c
                        clear hP117
                        refine ⟨fun c => ?_, fun c => ?_⟩
                        · have hP130 := hP129.1 c
                          clear hP129
                          show bz_J G κ kL_law (d + 1) F (bc + 2) (bs + 81) 586 [some (.inr (some a_9)), some (.inr r1), some (.inr r2), some (.inl x3)] [] h
                          refine bz_aload_n (pc := 586) dL_law_586 rfl rfl ?_
                          refine bz_aload_n (pc := 587) dL_law_587 rfl rfl ?_
                          refine bz_iload_n (pc := 588) dL_law_588 rfl rfl ?_
                          refine bz_iconst (pc := 589) dL_law_589 ci_1 ?_
                          refine bz_iadd (pc := 590) dL_law_590 ?_
                          refine bz_rw_rA (pc := 591) dL_law_591 hP130 (fun x_116 hP131 => ?_)
                          clear hP130
                          refine bz_aload_n (pc := 592) dL_law_592 rfl rfl ?_
                          refine bz_iload_n (pc := 593) dL_law_593 rfl rfl ?_
                          refine bz_iconst (pc := 594) dL_law_594 ci_2 ?_
                          refine bz_iadd (pc := 595) dL_law_595 ?_
                          refine bz_rw_rA (pc := 596) dL_law_596 hP131 (fun x_117 hP132 => ?_)
                          clear hP131
                          refine bz_aload_n (pc := 597) dL_law_597 rfl rfl ?_
                          refine bz_iload_n (pc := 598) dL_law_598 rfl rfl ?_
                          refine bz_iconst (pc := 599) dL_law_599 ci_3 ?_
                          refine bz_iadd (pc := 600) dL_law_600 ?_
                          refine bz_rw_rA (pc := 601) dL_law_601 hP132 (fun x_118 hP133 => ?_)
                          clear hP132
                          obtain ⟨a_121, rfl, hP134⟩ := hP133
                          refine bz_kIV (as := [.inl x_116, .inl x_117, .inl x_118]) (st := []) (ci := 11) (n := 3) (mc := 0) (ms := 0) (bc := (bc + 2)) (bs := (bs + 81)) (yc := kX11_goes) (q := (RX11, TX11, 9)) (b := a_121) (pc := 602) dL_law_602 sc_X11_goes ml_L_57 im_X11_goes se_X11_goes rfl rfl rfl (Nat.le_of_ble_eq_true rfl) hP134 (fun x_119 h_120 hP135 => ?_)
                          clear hP134
                          refine bz_aload_n (pc := 605) dL_law_605 rfl rfl ?_
                          refine bz_aload_n (pc := 606) dL_law_606 rfl rfl ?_
                          refine bz_iload_n (pc := 607) dL_law_607 rfl rfl ?_
                          refine bz_iconst (pc := 608) dL_law_608 ci_1 ?_
                          refine bz_iadd (pc := 609) dL_law_609 ?_
                          refine bz_rw_rA (pc := 610) dL_law_610 hP135 (fun x_122 hP136 => ?_)
                          clear hP135
                          refine bz_aload_n (pc := 611) dL_law_611 rfl rfl ?_
                          refine bz_iload_n (pc := 612) dL_law_612 rfl rfl ?_
                          refine bz_iconst (pc := 613) dL_law_613 ci_2 ?_
                          refine bz_iadd (pc := 614) dL_law_614 ?_
                          refine bz_rw_rA (pc := 615) dL_law_615 hP136 (fun x_123 hP137 => ?_)
                          clear hP136
                          refine bz_aload_n (pc := 616) dL_law_616 rfl rfl ?_
                          refine bz_iload_n (pc := 617) dL_law_617 rfl rfl ?_
                          refine bz_iconst (pc := 618) dL_law_618 ci_3 ?_
                          refine bz_iadd (pc := 619) dL_law_619 ?_
                          refine bz_rw_rA (pc := 620) dL_law_620 hP137 (fun x_124 hP138 => ?_)
                          clear hP137
                          obtain ⟨a_127, rfl, hP139⟩ := hP138
                          refine bz_kIV (as := [.inl x_122, .inl x_123, .inl x_124]) (st := [.inl x_119]) (ci := 12) (n := 3) (mc := 0) (ms := 0) (bc := (bc + 2)) (bs := (bs + 81)) (yc := kX12_goes) (q := (RX12, TX12, 34)) (b := a_127) (pc := 621) dL_law_621 sc_X12_goes ml_L_60 im_X12_goes se_X12_goes rfl rfl rfl (Nat.le_of_ble_eq_true rfl) hP139 (fun x_125 h_126 hP140 => ?_)
                          clear hP139
                          refine bz_icmp_eq (tgt := 1777) (pc := 624) dL_law_624 rfl (fun c => ?_) (fun c => ?_)
                          · have hP141 := hP140.1 c
                            clear hP140
                            refine bz_s_iinc (pc := 1777) dL_law_1777 (Nat.le_of_ble_eq_true rfl) rfl rfl [some (.inr (some a_9)), some (.inr (some a_121)), some (.inr (some a_127)), some (.inl (x3 + 6))] rfl ?_
                            refine bz_goto (tgt := 18) (pc := 1780) dL_law_1780 rfl ?_
                            exact bz_more (by omega) (by omega) hP141
                          · have hP142 := hP140.2 c
                            clear hP140
                            refine bz_iconst (pc := 627) dL_law_627 ci_0 ?_
                            exact bz_retI (pc := 628) dL_law_628 rfl rfl hP142
                        · have hP143 := hP129.2 c
                          clear hP129
                          refine ⟨fun c => ?_, fun c => ?_⟩
                          · have hP144 := hP143.1 c
                            clear hP143
                            show bz_J G κ kL_law (d + 1) F (bc + 2) (bs + 81) 629 [some (.inr (some a_9)), some (.inr r1), some (.inr r2), some (.inl x3)] [] h
                            refine bz_aload_n (pc := 629) dL_law_629 rfl rfl ?_
                            refine bz_aload_n (pc := 630) dL_law_630 rfl rfl ?_
                            refine bz_iload_n (pc := 631) dL_law_631 rfl rfl ?_
                            refine bz_iconst (pc := 632) dL_law_632 ci_1 ?_
                            refine bz_iadd (pc := 633) dL_law_633 ?_
                            refine bz_rw_rA (pc := 634) dL_law_634 hP144 (fun x_128 hP145 => ?_)
                            clear hP144
                            refine bz_aload_n (pc := 635) dL_law_635 rfl rfl ?_
                            refine bz_iload_n (pc := 636) dL_law_636 rfl rfl ?_
                            refine bz_iconst (pc := 637) dL_law_637 ci_2 ?_
                            refine bz_iadd (pc := 638) dL_law_638 ?_
                            refine bz_rw_rA (pc := 639) dL_law_639 hP145 (fun x_129 hP146 => ?_)
                            clear hP145
                            refine bz_aload_n (pc := 640) dL_law_640 rfl rfl ?_
                            refine bz_iload_n (pc := 641) dL_law_641 rfl rfl ?_
                            refine bz_iconst (pc := 642) dL_law_642 ci_3 ?_
                            refine bz_iadd (pc := 643) dL_law_643 ?_
                            refine bz_rw_rA (pc := 644) dL_law_644 hP146 (fun x_130 hP147 => ?_)
                            clear hP146
                            obtain ⟨a_133, rfl, hP148⟩ := hP147
                            refine bz_kIV (as := [.inl x_128, .inl x_129, .inl x_130]) (st := []) (ci := 11) (n := 3) (mc := 0) (ms := 0) (bc := (bc + 2)) (bs := (bs + 81)) (yc := kX11_trip) (q := (RX11, TX11, 9)) (b := a_133) (pc := 645) dL_law_645 sc_X11_trip ml_L_61 im_X11_trip se_X11_trip rfl rfl rfl (Nat.le_of_ble_eq_true rfl) hP148 (fun x_131 h_132 hP149 => ?_)
                            clear hP148
                            refine bz_aload_n (pc := 648) dL_law_648 rfl rfl ?_
                            refine bz_aload_n (pc := 649) dL_law_649 rfl rfl ?_
                            refine bz_iload_n (pc := 650) dL_law_650 rfl rfl ?_
                            refine bz_iconst (pc := 651) dL_law_651 ci_1 ?_
                            refine bz_iadd (pc := 652) dL_law_652 ?_
                            refine bz_rw_rA (pc := 653) dL_law_653 hP149 (fun x_134 hP150 => ?_)
                            clear hP149
                            refine bz_aload_n (pc := 654) dL_law_654 rfl rfl ?_
                            refine bz_iload_n (pc := 655) dL_law_655 rfl rfl ?_
                            refine bz_iconst (pc := 656) dL_law_656 ci_2 ?_
                            refine bz_iadd (pc := 657) dL_law_657 ?_
                            refine bz_rw_rA (pc := 658) dL_law_658 hP150 (fun x_135 hP151 => ?_)
                            clear hP150
                            refine bz_aload_n (pc := 659) dL_law_659 rfl rfl ?_
                            refine bz_iload_n (pc := 660) dL_law_660 rfl rfl ?_
                            refine bz_iconst (pc := 661) dL_law_661 ci_3 ?_
                            refine bz_iadd (pc := 662) dL_law_662 ?_
                            refine bz_rw_rA (pc := 663) dL_law_663 hP151 (fun x_136 hP152 => ?_)
                            clear hP151
                            obtain ⟨a_139, rfl, hP153⟩ := hP152
                            refine bz_kIV (as := [.inl x_134, .inl x_135, .inl x_136]) (st := [.inl x_131]) (ci := 12) (n := 3) (mc := 0) (ms := 0) (bc := (bc + 2)) (bs := (bs + 81)) (yc := kX12_trip) (q := (RX12, TX12, 34)) (b := a_139) (pc := 664) dL_law_664 sc_X12_trip ml_L_64 im_X12_trip se_X12_trip rfl rfl rfl (Nat.le_of_ble_eq_true rfl) hP153 (fun x_137 h_138 hP154 => ?_)
                            clear hP153
                            refine bz_icmp_eq (tgt := 1777) (pc := 667) dL_law_667 rfl (fun c => ?_) (fun c => ?_)
                            · have hP155 := hP154.1 c
                              clear hP154
                              refine bz_s_iinc (pc := 1777) dL_law_1777 (Nat.le_of_ble_eq_true rfl) rfl rfl [some (.inr (some a_9)), some (.inr (some a_133)), some (.inr (some a_139)), some (.inl (x3 + 6))] rfl ?_
                              refine bz_goto (tgt := 18) (pc := 1780) dL_law_1780 rfl ?_
                              exact bz_more (by omega) (by omega) hP155
                            · have hP156 := hP154.2 c
                              clear hP154
                              refine bz_iconst (pc := 670) dL_law_670 ci_0 ?_
                              exact bz_retI (pc := 671) dL_law_671 rfl rfl hP156
                          · have hP157 := hP143.2 c
                            clear hP143
                            refine ⟨fun c => ?_, fun c => ?_⟩
                            · have hP158 := hP157.1 c
                              clear hP157
                              show bz_J G κ kL_law (d + 1) F (bc + 2) (bs + 81) 672 [some (.inr (some a_9)), some (.inr r1), some (.inr r2), some (.inl x3)] [] h
                              refine bz_aload_n (pc := 672) dL_law_672 rfl rfl ?_
                              refine bz_aload_n (pc := 673) dL_law_673 rfl rfl ?_
                              refine bz_iload_n (pc := 674) dL_law_674 rfl rfl ?_
                              refine bz_iconst (pc := 675) dL_law_675 ci_1 ?_
                              refine bz_iadd (pc := 676) dL_law_676 ?_
                              refine bz_rw_rA (pc := 677) dL_law_677 hP158 (fun x_140 hP159 => ?_)
                              clear hP158
                              refine bz_aload_n (pc := 678) dL_law_678 rfl rfl ?_
                              refine bz_iload_n (pc := 679) dL_law_679 rfl rfl ?_
                              refine bz_iconst (pc := 680) dL_law_680 ci_2 ?_
                              refine bz_iadd (pc := 681) dL_law_681 ?_
                              refine bz_rw_rA (pc := 682) dL_law_682 hP159 (fun x_141 hP160 => ?_)
                              clear hP159
                              refine bz_aload_n (pc := 683) dL_law_683 rfl rfl ?_
                              refine bz_iload_n (pc := 684) dL_law_684 rfl rfl ?_
                              refine bz_iconst (pc := 685) dL_law_685 ci_3 ?_
                              refine bz_iadd (pc := 686) dL_law_686 ?_
                              refine bz_rw_rA (pc := 687) dL_law_687 hP160 (fun x_142 hP161 => ?_)
                              clear hP160
                              refine bz_aload_n (pc := 688) dL_law_688 rfl rfl ?_
                              refine bz_iload_n (pc := 689) dL_law_689 rfl rfl ?_
                              refine bz_iconst (pc := 690) dL_law_690 ci_4 ?_
                              refine bz_iadd (pc := 691) dL_law_691 ?_
                              refine bz_rw_rA (pc := 692) dL_law_692 hP161 (fun x_143 hP162 => ?_)
                              clear hP161
                              obtain ⟨a_146, rfl, hP163⟩ := hP162
                              refine bz_kIV (as := [.inl x_140, .inl x_141, .inl x_142, .inl x_143]) (st := []) (ci := 11) (n := 4) (mc := 0) (ms := 0) (bc := (bc + 2)) (bs := (bs + 81)) (yc := kX11_join) (q := (RX11, TX11, 9)) (b := a_146) (pc := 693) dL_law_693 sc_X11_join ml_L_65 im_X11_join se_X11_join rfl rfl rfl (Nat.le_of_ble_eq_true rfl) hP163 (fun x_144 h_145 hP164 => ?_)
                              clear hP163
                              refine bz_aload_n (pc := 696) dL_law_696 rfl rfl ?_
                              refine bz_aload_n (pc := 697) dL_law_697 rfl rfl ?_
                              refine bz_iload_n (pc := 698) dL_law_698 rfl rfl ?_
                              refine bz_iconst (pc := 699) dL_law_699 ci_1 ?_
                              refine bz_iadd (pc := 700) dL_law_700 ?_
                              refine bz_rw_rA (pc := 701) dL_law_701 hP164 (fun x_147 hP165 => ?_)
                              clear hP164
                              refine bz_aload_n (pc := 702) dL_law_702 rfl rfl ?_
                              refine bz_iload_n (pc := 703) dL_law_703 rfl rfl ?_
                              refine bz_iconst (pc := 704) dL_law_704 ci_2 ?_
                              refine bz_iadd (pc := 705) dL_law_705 ?_
                              refine bz_rw_rA (pc := 706) dL_law_706 hP165 (fun x_148 hP166 => ?_)
                              clear hP165
                              refine bz_aload_n (pc := 707) dL_law_707 rfl rfl ?_
                              refine bz_iload_n (pc := 708) dL_law_708 rfl rfl ?_
                              refine bz_iconst (pc := 709) dL_law_709 ci_3 ?_
                              refine bz_iadd (pc := 710) dL_law_710 ?_
                              refine bz_rw_rA (pc := 711) dL_law_711 hP166 (fun x_149 hP167 => ?_)
                              clear hP166
                              refine bz_aload_n (pc := 712) dL_law_712 rfl rfl ?_
                              refine bz_iload_n (pc := 713) dL_law_713 rfl rfl ?_
                              refine bz_iconst (pc := 714) dL_law_714 ci_4 ?_
                              refine bz_iadd (pc := 715) dL_law_715 ?_
                              refine bz_rw_rA (pc := 716) dL_law_716 hP167 (fun x_150 hP168 => ?_)
                              clear hP167
                              obtain ⟨a_153, rfl, hP169⟩ := hP168
                              refine bz_kIV (as := [.inl x_147, .inl x_148, .inl x_149, .inl x_150]) (st := [.inl x_144]) (ci := 12) (n := 4) (mc := 0) (ms := 0) (bc := (bc + 2)) (bs := (bs + 81)) (yc := kX12_join) (q := (RX12, TX12, 34)) (b := a_153) (pc := 717) dL_law_717 sc_X12_join ml_L_68 im_X12_join se_X12_join rfl rfl rfl (Nat.le_of_ble_eq_true rfl) hP169 (fun x_151 h_152 hP170 => ?_)
                              clear hP169
                              refine bz_icmp_eq (tgt := 1777) (pc := 720) dL_law_720 rfl (fun c => ?_) (fun c => ?_)
                              · have hP171 := hP170.1 c
                                clear hP170
                                refine bz_s_iinc (pc := 1777) dL_law_1777 (Nat.le_of_ble_eq_true rfl) rfl rfl [some (.inr (some a_9)), some (.inr (some a_146)), some (.inr (some a_153)), some (.inl (x3 + 6))] rfl ?_
                                refine bz_goto (tgt := 18) (pc := 1780) dL_law_1780 rfl ?_
                                exact bz_more (by omega) (by omega) hP171
                              · have hP172 := hP170.2 c
                                clear hP170
                                refine bz_iconst (pc := 723) dL_law_723 ci_0 ?_
                                exact bz_retI (pc := 724) dL_law_724 rfl rfl hP172
                            · have hP173 := hP157.2 c
                              clear hP157
                              refine ⟨fun c => ?_, fun c => ?_⟩
                              · have hP174 := hP173.1 c
                                clear hP173
                                show bz_J G κ kL_law (d + 1) F (bc + 2) (bs + 81) 725 [some (.inr (some a_9)), some (.inr r1), some (.inr r2), some (.inl x3)] [] h
                                refine bz_aload_n (pc := 725) dL_law_725 rfl rfl ?_
                                refine bz_aload_n (pc := 726) dL_law_726 rfl rfl ?_
                                refine bz_iload_n (pc := 727) dL_law_727 rfl rfl ?_
                                refine bz_iconst (pc := 728) dL_law_728 ci_1 ?_
                                refine bz_iadd (pc := 729) dL_law_729 ?_
                                refine bz_rw_rA (pc := 730) dL_law_730 hP174 (fun x_154 hP175 => ?_)
                                clear hP174
                                refine bz_aload_n (pc := 731) dL_law_731 rfl rfl ?_
                                refine bz_iload_n (pc := 732) dL_law_732 rfl rfl ?_
                                refine bz_iconst (pc := 733) dL_law_733 ci_2 ?_
                                refine bz_iadd (pc := 734) dL_law_734 ?_
                                refine bz_rw_rA (pc := 735) dL_law_735 hP175 (fun x_155 hP176 => ?_)
                                clear hP175
                                obtain ⟨a_158, rfl, hP177⟩ := hP176
                                refine bz_kIV (as := [.inl x_154, .inl x_155]) (st := []) (ci := 11) (n := 2) (mc := 0) (ms := 0) (bc := (bc + 2)) (bs := (bs + 81)) (yc := kX11_give) (q := (RX11, TX11, 9)) (b := a_158) (pc := 736) dL_law_736 sc_X11_give ml_L_69 im_X11_give se_X11_give rfl rfl rfl (Nat.le_of_ble_eq_true rfl) hP177 (fun x_156 h_157 hP178 => ?_)
                                clear hP177
                                refine bz_aload_n (pc := 739) dL_law_739 rfl rfl ?_
                                refine bz_aload_n (pc := 740) dL_law_740 rfl rfl ?_
                                refine bz_iload_n (pc := 741) dL_law_741 rfl rfl ?_
                                refine bz_iconst (pc := 742) dL_law_742 ci_1 ?_
                                refine bz_iadd (pc := 743) dL_law_743 ?_
                                refine bz_rw_rA (pc := 744) dL_law_744 hP178 (fun x_159 hP179 => ?_)
                                clear hP178
                                refine bz_aload_n (pc := 745) dL_law_745 rfl rfl ?_
                                refine bz_iload_n (pc := 746) dL_law_746 rfl rfl ?_
                                refine bz_iconst (pc := 747) dL_law_747 ci_2 ?_
                                refine bz_iadd (pc := 748) dL_law_748 ?_
                                refine bz_rw_rA (pc := 749) dL_law_749 hP179 (fun x_160 hP180 => ?_)
                                clear hP179
                                obtain ⟨a_163, rfl, hP181⟩ := hP180
                                refine bz_kIV (as := [.inl x_159, .inl x_160]) (st := [.inl x_156]) (ci := 12) (n := 2) (mc := 0) (ms := 0) (bc := (bc + 2)) (bs := (bs + 81)) (yc := kX12_give) (q := (RX12, TX12, 34)) (b := a_163) (pc := 750) dL_law_750 sc_X12_give ml_L_72 im_X12_give se_X12_give rfl rfl rfl (Nat.le_of_ble_eq_true rfl) hP181 (fun x_161 h_162 hP182 => ?_)
                                clear hP181
                                refine bz_icmp_eq (tgt := 1777) (pc := 753) dL_law_753 rfl (fun c => ?_) (fun c => ?_)
                                · have hP183 := hP182.1 c
                                  clear hP182
                                  refine bz_s_iinc (pc := 1777) dL_law_1777 (Nat.le_of_ble_eq_true rfl) rfl rfl [some (.inr (some a_9)), some (.inr (some a_158)), some (.inr (some a_163)), some (.inl (x3 + 6))] rfl ?_
                                  refine bz_goto (tgt := 18) (pc := 1780) dL_law_1780 rfl ?_
                                  exact bz_more (by omega) (by omega) hP183
                                · have hP184 := hP182.2 c
                                  clear hP182
                                  refine bz_iconst (pc := 756) dL_law_756 ci_0 ?_
                                  exact bz_retI (pc := 757) dL_law_757 rfl rfl hP184
                              · have hP185 := hP173.2 c
                                clear hP173
                                refine ⟨fun c => ?_, fun c => ?_⟩
                                · have hP186 := hP185.1 c
                                  clear hP185
                                  show bz_J G κ kL_law (d + 1) F (bc + 2) (bs + 81) 758 [some (.inr (some a_9)), some (.inr r1), some (.inr r2), some (.inl x3)] [] h
                                  refine bz_aload_n (pc := 758) dL_law_758 rfl rfl ?_
                                  refine bz_aload_n (pc := 759) dL_law_759 rfl rfl ?_
                                  refine bz_iload_n (pc := 760) dL_law_760 rfl rfl ?_
                                  refine bz_iconst (pc := 761) dL_law_761 ci_1 ?_
                                  refine bz_iadd (pc := 762) dL_law_762 ?_
                                  refine bz_rw_rA (pc := 763) dL_law_763 hP186 (fun x_164 hP187 => ?_)
                                  clear hP186
                                  refine bz_aload_n (pc := 764) dL_law_764 rfl rfl ?_
                                  refine bz_iload_n (pc := 765) dL_law_765 rfl rfl ?_
                                  refine bz_iconst (pc := 766) dL_law_766 ci_2 ?_
                                  refine bz_iadd (pc := 767) dL_law_767 ?_
                                  refine bz_rw_rA (pc := 768) dL_law_768 hP187 (fun x_165 hP188 => ?_)
                                  clear hP187
                                  refine bz_aload_n (pc := 769) dL_law_769 rfl rfl ?_
                                  refine bz_iload_n (pc := 770) dL_law_770 rfl rfl ?_
                                  refine bz_iconst (pc := 771) dL_law_771 ci_3 ?_
                                  refine bz_iadd (pc := 772) dL_law_772 ?_
                                  refine bz_rw_rA (pc := 773) dL_law_773 hP188 (fun x_166 hP189 => ?_)
                                  clear hP188
                                  obtain ⟨a_169, rfl, hP190⟩ := hP189
                                  refine bz_kIV (as := [.inl x_164, .inl x_165, .inl x_166]) (st := []) (ci := 11) (n := 3) (mc := 0) (ms := 0) (bc := (bc + 2)) (bs := (bs + 81)) (yc := kX11_giveTwo) (q := (RX11, TX11, 9)) (b := a_169) (pc := 774) dL_law_774 sc_X11_giveTwo ml_L_73 im_X11_giveTwo se_X11_giveTwo rfl rfl rfl (Nat.le_of_ble_eq_true rfl) hP190 (fun x_167 h_168 hP191 => ?_)
                                  clear hP190
                                  refine bz_aload_n (pc := 777) dL_law_777 rfl rfl ?_
                                  refine bz_aload_n (pc := 778) dL_law_778 rfl rfl ?_
                                  refine bz_iload_n (pc := 779) dL_law_779 rfl rfl ?_
                                  refine bz_iconst (pc := 780) dL_law_780 ci_1 ?_
                                  refine bz_iadd (pc := 781) dL_law_781 ?_
                                  refine bz_rw_rA (pc := 782) dL_law_782 hP191 (fun x_170 hP192 => ?_)
                                  clear hP191
                                  refine bz_aload_n (pc := 783) dL_law_783 rfl rfl ?_
                                  refine bz_iload_n (pc := 784) dL_law_784 rfl rfl ?_
                                  refine bz_iconst (pc := 785) dL_law_785 ci_2 ?_
                                  refine bz_iadd (pc := 786) dL_law_786 ?_
                                  refine bz_rw_rA (pc := 787) dL_law_787 hP192 (fun x_171 hP193 => ?_)
                                  clear hP192
                                  refine bz_aload_n (pc := 788) dL_law_788 rfl rfl ?_
                                  refine bz_iload_n (pc := 789) dL_law_789 rfl rfl ?_
                                  refine bz_iconst (pc := 790) dL_law_790 ci_3 ?_
                                  refine bz_iadd (pc := 791) dL_law_791 ?_
                                  refine bz_rw_rA (pc := 792) dL_law_792 hP193 (fun x_172 hP194 => ?_)
                                  clear hP193
                                  obtain ⟨a_175, rfl, hP195⟩ := hP194
                                  refine bz_kIV (as := [.inl x_170, .inl x_171, .inl x_172]) (st := [.inl x_167]) (ci := 12) (n := 3) (mc := 0) (ms := 0) (bc := (bc + 2)) (bs := (bs + 81)) (yc := kX12_giveTwo) (q := (RX12, TX12, 34)) (b := a_175) (pc := 793) dL_law_793 sc_X12_giveTwo ml_L_76 im_X12_giveTwo se_X12_giveTwo rfl rfl rfl (Nat.le_of_ble_eq_true rfl) hP195 (fun x_173 h_174 hP196 => ?_)
                                  clear hP195
                                  refine bz_icmp_eq (tgt := 1777) (pc := 796) dL_law_796 rfl (fun c => ?_) (fun c => ?_)
                                  · have hP197 := hP196.1 c
                                    clear hP196
                                    refine bz_s_iinc (pc := 1777) dL_law_1777 (Nat.le_of_ble_eq_true rfl) rfl rfl [some (.inr (some a_9)), some (.inr (some a_169)), some (.inr (some a_175)), some (.inl (x3 + 6))] rfl ?_
                                    refine bz_goto (tgt := 18) (pc := 1780) dL_law_1780 rfl ?_
                                    exact bz_more (by omega) (by omega) hP197
                                  · have hP198 := hP196.2 c
                                    clear hP196
                                    refine bz_iconst (pc := 799) dL_law_799 ci_0 ?_
                                    exact bz_retI (pc := 800) dL_law_800 rfl rfl hP198
                                · have hP199 := hP185.2 c
                                  clear hP185
                                  refine ⟨fun c => ?_, fun c => ?_⟩
                                  · have hP200 := hP199.1 c
                                    clear hP199
                                    show bz_J G κ kL_law (d + 1) F (bc + 2) (bs + 81) 801 [some (.inr (some a_9)), some (.inr r1), some (.inr r2), some (.inl x3)] [] h
                                    refine bz_aload_n (pc := 801) dL_law_801 rfl rfl ?_
                                    refine bz_aload_n (pc := 802) dL_law_802 rfl rfl ?_
                                    refine bz_iload_n (pc := 803) dL_law_803 rfl rfl ?_
                                    refine bz_iconst (pc := 804) dL_law_804 ci_1 ?_
                                    refine bz_iadd (pc := 805) dL_law_805 ?_
                                    refine bz_rw_rA (pc := 806) dL_law_806 hP200 (fun x_176 hP201 => ?_)
                                    clear hP200
                                    refine bz_aload_n (pc := 807) dL_law_807 rfl rfl ?_
                                    refine bz_iload_n (pc := 808) dL_law_808 rfl rfl ?_
                                    refine bz_iconst (pc := 809) dL_law_809 ci_2 ?_
                                    refine bz_iadd (pc := 810) dL_law_810 ?_
                                    refine bz_rw_rA (pc := 811) dL_law_811 hP201 (fun x_177 hP202 => ?_)
                                    clear hP201
                                    obtain ⟨a_180, rfl, hP203⟩ := hP202
                                    refine bz_kIV (as := [.inl x_176, .inl x_177]) (st := []) (ci := 11) (n := 2) (mc := 0) (ms := 0) (bc := (bc + 2)) (bs := (bs + 81)) (yc := kX11_feed) (q := (RX11, TX11, 9)) (b := a_180) (pc := 812) dL_law_812 sc_X11_feed ml_L_77 im_X11_feed se_X11_feed rfl rfl rfl (Nat.le_of_ble_eq_true rfl) hP203 (fun x_178 h_179 hP204 => ?_)
                                    clear hP203
                                    refine bz_aload_n (pc := 815) dL_law_815 rfl rfl ?_
                                    refine bz_aload_n (pc := 816) dL_law_816 rfl rfl ?_
                                    refine bz_iload_n (pc := 817) dL_law_817 rfl rfl ?_
                                    refine bz_iconst (pc := 818) dL_law_818 ci_1 ?_
                                    refine bz_iadd (pc := 819) dL_law_819 ?_
                                    refine bz_rw_rA (pc := 820) dL_law_820 hP204 (fun x_181 hP205 => ?_)
                                    clear hP204
                                    refine bz_aload_n (pc := 821) dL_law_821 rfl rfl ?_
                                    refine bz_iload_n (pc := 822) dL_law_822 rfl rfl ?_
                                    refine bz_iconst (pc := 823) dL_law_823 ci_2 ?_
                                    refine bz_iadd (pc := 824) dL_law_824 ?_
                                    refine bz_rw_rA (pc := 825) dL_law_825 hP205 (fun x_182 hP206 => ?_)
                                    clear hP205
                                    obtain ⟨a_185, rfl, hP207⟩ := hP206
                                    refine bz_kIV (as := [.inl x_181, .inl x_182]) (st := [.inl x_178]) (ci := 12) (n := 2) (mc := 0) (ms := 0) (bc := (bc + 2)) (bs := (bs + 81)) (yc := kX12_feed) (q := (RX12, TX12, 34)) (b := a_185) (pc := 826) dL_law_826 sc_X12_feed ml_L_80 im_X12_feed se_X12_feed rfl rfl rfl (Nat.le_of_ble_eq_true rfl) hP207 (fun x_183 h_184 hP208 => ?_)
                                    clear hP207
                                    refine bz_icmp_eq (tgt := 1777) (pc := 829) dL_law_829 rfl (fun c => ?_) (fun c => ?_)
                                    · have hP209 := hP208.1 c
                                      clear hP208
                                      refine bz_s_iinc (pc := 1777) dL_law_1777 (Nat.le_of_ble_eq_true rfl) rfl rfl [some (.inr (some a_9)), some (.inr (some a_180)), some (.inr (some a_185)), some (.inl (x3 + 6))] rfl ?_
                                      refine bz_goto (tgt := 18) (pc := 1780) dL_law_1780 rfl ?_
                                      exact bz_more (by omega) (by omega) hP209
                                    · have hP210 := hP208.2 c
                                      clear hP208
                                      refine bz_iconst (pc := 832) dL_law_832 ci_0 ?_
                                      exact bz_retI (pc := 833) dL_law_833 rfl rfl hP210
                                  · have hP211 := hP199.2 c
                                    clear hP199
                                    refine ⟨fun c => ?_, fun c => ?_⟩
                                    · have hP212 := hP211.1 c
                                      clear hP211
                                      show bz_J G κ kL_law (d + 1) F (bc + 2) (bs + 81) 834 [some (.inr (some a_9)), some (.inr r1), some (.inr r2), some (.inl x3)] [] h
                                      refine bz_aload_n (pc := 834) dL_law_834 rfl rfl ?_
                                      obtain ⟨a_188, rfl, hP213⟩ := hP212
                                      refine bz_kIV (as := []) (st := []) (ci := 11) (n := 0) (mc := 0) (ms := 0) (bc := (bc + 2)) (bs := (bs + 81)) (yc := kX11_wipe) (q := (RX11, TX11, 9)) (b := a_188) (pc := 835) dL_law_835 sc_X11_wipe ml_L_81 im_X11_wipe se_X11_wipe rfl rfl rfl (Nat.le_of_ble_eq_true rfl) hP213 (fun x_186 h_187 hP214 => ?_)
                                      clear hP213
                                      refine bz_aload_n (pc := 838) dL_law_838 rfl rfl ?_
                                      obtain ⟨a_191, rfl, hP215⟩ := hP214
                                      refine bz_kIV (as := []) (st := [.inl x_186]) (ci := 12) (n := 0) (mc := 0) (ms := 0) (bc := (bc + 2)) (bs := (bs + 81)) (yc := kX12_wipe) (q := (RX12, TX12, 34)) (b := a_191) (pc := 839) dL_law_839 sc_X12_wipe ml_L_85 im_X12_wipe se_X12_wipe rfl rfl rfl (Nat.le_of_ble_eq_true rfl) hP215 (fun x_189 h_190 hP216 => ?_)
                                      clear hP215
                                      refine bz_icmp_eq (tgt := 1777) (pc := 842) dL_law_842 rfl (fun c => ?_) (fun c => ?_)
                                      · have hP217 := hP216.1 c
                                        clear hP216
                                        refine bz_s_iinc (pc := 1777) dL_law_1777 (Nat.le_of_ble_eq_true rfl) rfl rfl [some (.inr (some a_9)), some (.inr (some a_188)), some (.inr (some a_191)), some (.inl (x3 + 6))] rfl ?_
                                        refine bz_goto (tgt := 18) (pc := 1780) dL_law_1780 rfl ?_
                                        exact bz_more (by omega) (by omega) hP217
                                      · have hP218 := hP216.2 c
                                        clear hP216
                                        refine bz_iconst (pc := 845) dL_law_845 ci_0 ?_
                                        exact bz_retI (pc := 846) dL_law_846 rfl rfl hP218
                                    · have hP219 := hP211.2 c
                                      clear hP211
                                      refine ⟨fun c => ?_, fun c => ?_⟩
                                      · have hP220 := hP219.1 c
                                        clear hP219
                                        show bz_J G κ kL_law (d + 1) F (bc + 2) (bs + 81) 847 [some (.inr (some a_9)), some (.inr r1), some (.inr r2), some (.inl x3)] [] h
                                        refine bz_aload_n (pc := 847) dL_law_847 rfl rfl ?_
                                        obtain ⟨a_194, rfl, hP221⟩ := hP220
                                        refine bz_kIV (as := []) (st := []) (ci := 11) (n := 0) (mc := 2) (ms := 81) (bc := bc) (bs := bs) (yc := kX11_text) (q := (RX11, TX11, 9)) (b := a_194) (pc := 848) dL_law_848 sc_X11_text ml_L_86 im_X11_text se_X11_text rfl rfl rfl (Nat.le_of_ble_eq_true rfl) hP221 (fun x_192 h_193 hP222 => ?_)
                                        clear hP221
                                        refine bz_aload_n (pc := 851) dL_law_851 rfl rfl ?_
                                        obtain ⟨a_197, rfl, hP223⟩ := hP222
                                        refine bz_kIV (as := []) (st := [.inl x_192]) (ci := 12) (n := 0) (mc := 0) (ms := 0) (bc := bc) (bs := bs) (yc := kX12_text) (q := (RX12, TX12, 34)) (b := a_197) (pc := 852) dL_law_852 sc_X12_text ml_L_89 im_X12_text se_X12_text rfl rfl rfl (Nat.le_of_ble_eq_true rfl) hP223 (fun x_195 h_196 hP224 => ?_)
                                        clear hP223
                                        refine bz_icmp_eq (tgt := 1777) (pc := 855) dL_law_855 rfl (fun c => ?_) (fun c => ?_)
                                        · have hP225 := hP224.1 c
                                          clear hP224
                                          refine bz_s_iinc (pc := 1777) dL_law_1777 (Nat.le_of_ble_eq_true rfl) rfl rfl [some (.inr (some a_9)), some (.inr (some a_194)), some (.inr (some a_197)), some (.inl (x3 + 6))] rfl ?_
                                          refine bz_goto (tgt := 18) (pc := 1780) dL_law_1780 rfl ?_
                                          exact hP225
                                        · have hP226 := hP224.2 c
                                          clear hP224
                                          refine bz_iconst (pc := 858) dL_law_858 ci_0 ?_
                                          exact bz_retI (pc := 859) dL_law_859 rfl rfl hP226
                                      · have hP227 := hP219.2 c
                                        clear hP219
                                        refine ⟨fun c => ?_, fun c => ?_⟩
                                        · have hP228 := hP227.1 c
                                          clear hP227
                                          show bz_J G κ kL_law (d + 1) F (bc + 2) (bs + 81) 860 [some (.inr (some a_9)), some (.inr r1), some (.inr r2), some (.inl x3)] [] h
                                          refine bz_aload_n (pc := 860) dL_law_860 rfl rfl ?_
                                          refine bz_aload_n (pc := 861) dL_law_861 rfl rfl ?_
                                          refine bz_iload_n (pc := 862) dL_law_862 rfl rfl ?_
                                          refine bz_iconst (pc := 863) dL_law_863 ci_1 ?_
                                          refine bz_iadd (pc := 864) dL_law_864 ?_
                                          refine bz_rw_rA (pc := 865) dL_law_865 hP228 (fun x_198 hP229 => ?_)
                                          clear hP228
                                          refine bz_aload_n (pc := 866) dL_law_866 rfl rfl ?_
                                          refine bz_iload_n (pc := 867) dL_law_867 rfl rfl ?_
                                          refine bz_iconst (pc := 868) dL_law_868 ci_2 ?_
                                          refine bz_iadd (pc := 869) dL_law_869 ?_
                                          refine bz_rw_rA (pc := 870) dL_law_870 hP229 (fun x_199 hP230 => ?_)
                                          clear hP229
                                          obtain ⟨a_202, rfl, hP231⟩ := hP230
                                          refine bz_kIV (as := [.inl x_198, .inl x_199]) (st := []) (ci := 11) (n := 2) (mc := 0) (ms := 0) (bc := (bc + 2)) (bs := (bs + 81)) (yc := kX11_force) (q := (RX11, TX11, 9)) (b := a_202) (pc := 871) dL_law_871 sc_X11_force ml_L_90 im_X11_force se_X11_force rfl rfl rfl (Nat.le_of_ble_eq_true rfl) hP231 (fun x_200 h_201 hP232 => ?_)
                                          clear hP231
                                          refine bz_aload_n (pc := 874) dL_law_874 rfl rfl ?_
                                          refine bz_aload_n (pc := 875) dL_law_875 rfl rfl ?_
                                          refine bz_iload_n (pc := 876) dL_law_876 rfl rfl ?_
                                          refine bz_iconst (pc := 877) dL_law_877 ci_1 ?_
                                          refine bz_iadd (pc := 878) dL_law_878 ?_
                                          refine bz_rw_rA (pc := 879) dL_law_879 hP232 (fun x_203 hP233 => ?_)
                                          clear hP232
                                          refine bz_aload_n (pc := 880) dL_law_880 rfl rfl ?_
                                          refine bz_iload_n (pc := 881) dL_law_881 rfl rfl ?_
                                          refine bz_iconst (pc := 882) dL_law_882 ci_2 ?_
                                          refine bz_iadd (pc := 883) dL_law_883 ?_
                                          refine bz_rw_rA (pc := 884) dL_law_884 hP233 (fun x_204 hP234 => ?_)
                                          clear hP233
                                          obtain ⟨a_207, rfl, hP235⟩ := hP234
                                          refine bz_kIV (as := [.inl x_203, .inl x_204]) (st := [.inl x_200]) (ci := 12) (n := 2) (mc := 0) (ms := 0) (bc := (bc + 2)) (bs := (bs + 81)) (yc := kX12_force) (q := (RX12, TX12, 34)) (b := a_207) (pc := 885) dL_law_885 sc_X12_force ml_L_93 im_X12_force se_X12_force rfl rfl rfl (Nat.le_of_ble_eq_true rfl) hP235 (fun x_205 h_206 hP236 => ?_)
                                          clear hP235
                                          refine bz_icmp_eq (tgt := 1777) (pc := 888) dL_law_888 rfl (fun c => ?_) (fun c => ?_)
                                          · have hP237 := hP236.1 c
                                            clear hP236
                                            refine bz_s_iinc (pc := 1777) dL_law_1777 (Nat.le_of_ble_eq_true rfl) rfl rfl [some (.inr (some a_9)), some (.inr (some a_202)), some (.inr (some a_207)), some (.inl (x3 + 6))] rfl ?_
                                            refine bz_goto (tgt := 18) (pc := 1780) dL_law_1780 rfl ?_
                                            exact bz_more (by omega) (by omega) hP237
                                          · have hP238 := hP236.2 c
                                            clear hP236
                                            refine bz_iconst (pc := 891) dL_law_891 ci_0 ?_
                                            exact bz_retI (pc := 892) dL_law_892 rfl rfl hP238
                                        · have hP239 := hP227.2 c
                                          clear hP227
                                          refine ⟨fun c => ?_, fun c => ?_⟩
                                          · have hP240 := hP239.1 c
                                            clear hP239
                                            show bz_J G κ kL_law (d + 1) F (bc + 2) (bs + 81) 893 [some (.inr (some a_9)), some (.inr r1), some (.inr r2), some (.inl x3)] [] h
                                            refine bz_aload_n (pc := 893) dL_law_893 rfl rfl ?_
                                            refine bz_aload_n (pc := 894) dL_law_894 rfl rfl ?_
                                            refine bz_iload_n (pc := 895) dL_law_895 rfl rfl ?_
                                            refine bz_iconst (pc := 896) dL_law_896 ci_1 ?_
                                            refine bz_iadd (pc := 897) dL_law_897 ?_
                                            refine bz_rw_rA (pc := 898) dL_law_898 hP240 (fun x_208 hP241 => ?_)
                                            clear hP240
                                            refine bz_aload_n (pc := 899) dL_law_899 rfl rfl ?_
                                            refine bz_iload_n (pc := 900) dL_law_900 rfl rfl ?_
                                            refine bz_iconst (pc := 901) dL_law_901 ci_2 ?_
                                            refine bz_iadd (pc := 902) dL_law_902 ?_
                                            refine bz_rw_rA (pc := 903) dL_law_903 hP241 (fun x_209 hP242 => ?_)
                                            clear hP241
                                            refine bz_aload_n (pc := 904) dL_law_904 rfl rfl ?_
                                            refine bz_iload_n (pc := 905) dL_law_905 rfl rfl ?_
                                            refine bz_iconst (pc := 906) dL_law_906 ci_3 ?_
                                            refine bz_iadd (pc := 907) dL_law_907 ?_
                                            refine bz_rw_rA (pc := 908) dL_law_908 hP242 (fun x_210 hP243 => ?_)
                                            clear hP242
                                            obtain ⟨a_213, rfl, hP244⟩ := hP243
                                            refine bz_kIV (as := [.inl x_208, .inl x_209, .inl x_210]) (st := []) (ci := 11) (n := 3) (mc := 0) (ms := 0) (bc := (bc + 2)) (bs := (bs + 81)) (yc := kX11_says) (q := (RX11, TX11, 9)) (b := a_213) (pc := 909) dL_law_909 sc_X11_says ml_L_94 im_X11_says se_X11_says rfl rfl rfl (Nat.le_of_ble_eq_true rfl) hP244 (fun x_211 h_212 hP245 => ?_)
                                            clear hP244
                                            refine bz_aload_n (pc := 912) dL_law_912 rfl rfl ?_
                                            refine bz_aload_n (pc := 913) dL_law_913 rfl rfl ?_
                                            refine bz_iload_n (pc := 914) dL_law_914 rfl rfl ?_
                                            refine bz_iconst (pc := 915) dL_law_915 ci_1 ?_
                                            refine bz_iadd (pc := 916) dL_law_916 ?_
                                            refine bz_rw_rA (pc := 917) dL_law_917 hP245 (fun x_214 hP246 => ?_)
                                            clear hP245
                                            refine bz_aload_n (pc := 918) dL_law_918 rfl rfl ?_
                                            refine bz_iload_n (pc := 919) dL_law_919 rfl rfl ?_
                                            refine bz_iconst (pc := 920) dL_law_920 ci_2 ?_
                                            refine bz_iadd (pc := 921) dL_law_921 ?_
                                            refine bz_rw_rA (pc := 922) dL_law_922 hP246 (fun x_215 hP247 => ?_)
                                            clear hP246
                                            refine bz_aload_n (pc := 923) dL_law_923 rfl rfl ?_
                                            refine bz_iload_n (pc := 924) dL_law_924 rfl rfl ?_
                                            refine bz_iconst (pc := 925) dL_law_925 ci_3 ?_
                                            refine bz_iadd (pc := 926) dL_law_926 ?_
                                            refine bz_rw_rA (pc := 927) dL_law_927 hP247 (fun x_216 hP248 => ?_)
                                            clear hP247
                                            obtain ⟨a_219, rfl, hP249⟩ := hP248
                                            refine bz_kIV (as := [.inl x_214, .inl x_215, .inl x_216]) (st := [.inl x_211]) (ci := 12) (n := 3) (mc := 0) (ms := 0) (bc := (bc + 2)) (bs := (bs + 81)) (yc := kX12_says) (q := (RX12, TX12, 34)) (b := a_219) (pc := 928) dL_law_928 sc_X12_says ml_L_97 im_X12_says se_X12_says rfl rfl rfl (Nat.le_of_ble_eq_true rfl) hP249 (fun x_217 h_218 hP250 => ?_)
                                            clear hP249
                                            refine bz_icmp_eq (tgt := 1777) (pc := 931) dL_law_931 rfl (fun c => ?_) (fun c => ?_)
                                            · have hP251 := hP250.1 c
                                              clear hP250
                                              refine bz_s_iinc (pc := 1777) dL_law_1777 (Nat.le_of_ble_eq_true rfl) rfl rfl [some (.inr (some a_9)), some (.inr (some a_213)), some (.inr (some a_219)), some (.inl (x3 + 6))] rfl ?_
                                              refine bz_goto (tgt := 18) (pc := 1780) dL_law_1780 rfl ?_
                                              exact bz_more (by omega) (by omega) hP251
                                            · have hP252 := hP250.2 c
                                              clear hP250
                                              refine bz_iconst (pc := 934) dL_law_934 ci_0 ?_
                                              exact bz_retI (pc := 935) dL_law_935 rfl rfl hP252
                                          · have hP253 := hP239.2 c
                                            clear hP239
                                            refine ⟨fun c => ?_, fun c => ?_⟩
                                            · have hP254 := hP253.1 c
                                              clear hP253
                                              show bz_J G κ kL_law (d + 1) F (bc + 2) (bs + 81) 936 [some (.inr (some a_9)), some (.inr r1), some (.inr r2), some (.inl x3)] [] h
                                              refine bz_aload_n (pc := 936) dL_law_936 rfl rfl ?_
                                              refine bz_aload_n (pc := 937) dL_law_937 rfl rfl ?_
                                              refine bz_iload_n (pc := 938) dL_law_938 rfl rfl ?_
                                              refine bz_iconst (pc := 939) dL_law_939 ci_1 ?_
                                              refine bz_iadd (pc := 940) dL_law_940 ?_
                                              refine bz_rw_rA (pc := 941) dL_law_941 hP254 (fun x_220 hP255 => ?_)
                                              clear hP254
                                              obtain ⟨a_223, rfl, hP256⟩ := hP255
                                              refine bz_kIV (as := [.inl x_220]) (st := []) (ci := 11) (n := 1) (mc := 0) (ms := 0) (bc := (bc + 2)) (bs := (bs + 81)) (yc := kX11_offered) (q := (RX11, TX11, 9)) (b := a_223) (pc := 942) dL_law_942 sc_X11_offered ml_L_98 im_X11_offered se_X11_offered rfl rfl rfl (Nat.le_of_ble_eq_true rfl) hP256 (fun x_221 h_222 hP257 => ?_)
                                              clear hP256
                                              refine bz_aload_n (pc := 945) dL_law_945 rfl rfl ?_
                                              refine bz_aload_n (pc := 946) dL_law_946 rfl rfl ?_
                                              refine bz_iload_n (pc := 947) dL_law_947 rfl rfl ?_
                                              refine bz_iconst (pc := 948) dL_law_948 ci_1 ?_
                                              refine bz_iadd (pc := 949) dL_law_949 ?_
                                              refine bz_rw_rA (pc := 950) dL_law_950 hP257 (fun x_224 hP258 => ?_)
                                              clear hP257
                                              obtain ⟨a_227, rfl, hP259⟩ := hP258
                                              refine bz_kIV (as := [.inl x_224]) (st := [.inl x_221]) (ci := 12) (n := 1) (mc := 0) (ms := 0) (bc := (bc + 2)) (bs := (bs + 81)) (yc := kX12_offered) (q := (RX12, TX12, 34)) (b := a_227) (pc := 951) dL_law_951 sc_X12_offered ml_L_101 im_X12_offered se_X12_offered rfl rfl rfl (Nat.le_of_ble_eq_true rfl) hP259 (fun x_225 h_226 hP260 => ?_)
                                              clear hP259
                                              refine bz_icmp_eq (tgt := 1777) (pc := 954) dL_law_954 rfl (fun c => ?_) (fun c => ?_)
                                              · have hP261 := hP260.1 c
                                                clear hP260
                                                refine bz_s_iinc (pc := 1777) dL_law_1777 (Nat.le_of_ble_eq_true rfl) rfl rfl [some (.inr (some a_9)), some (.inr (some a_223)), some (.inr (some a_227)), some (.inl (x3 + 6))] rfl ?_
                                                refine bz_goto (tgt := 18) (pc := 1780) dL_law_1780 rfl ?_
                                                exact bz_more (by omega) (by omega) hP261
                                              · have hP262 := hP260.2 c
                                                clear hP260
                                                refine bz_iconst (pc := 957) dL_law_957 ci_0 ?_
                                                exact bz_retI (pc := 958) dL_law_958 rfl rfl hP262
                                            · have hP263 := hP253.2 c
                                              clear hP253
                                              refine ⟨fun c => ?_, fun c => ?_⟩
                                              · have hP264 := hP263.1 c
                                                clear hP263
                                                show bz_J G κ kL_law (d + 1) F (bc + 2) (bs + 81) 959 [some (.inr (some a_9)), some (.inr r1), some (.inr r2), some (.inl x3)] [] h
                                                refine bz_aload_n (pc := 959) dL_law_959 rfl rfl ?_
                                                refine bz_aload_n (pc := 960) dL_law_960 rfl rfl ?_
                                                refine bz_iload_n (pc := 961) dL_law_961 rfl rfl ?_
                                                refine bz_iconst (pc := 962) dL_law_962 ci_1 ?_
                                                refine bz_iadd (pc := 963) dL_law_963 ?_
                                                refine bz_rw_rA (pc := 964) dL_law_964 hP264 (fun x_228 hP265 => ?_)
                                                clear hP264
                                                refine bz_aload_n (pc := 965) dL_law_965 rfl rfl ?_
                                                refine bz_iload_n (pc := 966) dL_law_966 rfl rfl ?_
                                                refine bz_iconst (pc := 967) dL_law_967 ci_2 ?_
                                                refine bz_iadd (pc := 968) dL_law_968 ?_
                                                refine bz_rw_rA (pc := 969) dL_law_969 hP265 (fun x_229 hP266 => ?_)
                                                clear hP265
                                                obtain ⟨a_232, rfl, hP267⟩ := hP266
                                                refine bz_kIV (as := [.inl x_228, .inl x_229]) (st := []) (ci := 11) (n := 2) (mc := 0) (ms := 0) (bc := (bc + 2)) (bs := (bs + 81)) (yc := kX11_refuse) (q := (RX11, TX11, 9)) (b := a_232) (pc := 970) dL_law_970 sc_X11_refuse ml_L_102 im_X11_refuse se_X11_refuse rfl rfl rfl (Nat.le_of_ble_eq_true rfl) hP267 (fun x_230 h_231 hP268 => ?_)
                                                clear hP267
                                                refine bz_aload_n (pc := 973) dL_law_973 rfl rfl ?_
                                                refine bz_aload_n (pc := 974) dL_law_974 rfl rfl ?_
                                                refine bz_iload_n (pc := 975) dL_law_975 rfl rfl ?_
                                                refine bz_iconst (pc := 976) dL_law_976 ci_1 ?_
                                                refine bz_iadd (pc := 977) dL_law_977 ?_
                                                refine bz_rw_rA (pc := 978) dL_law_978 hP268 (fun x_233 hP269 => ?_)
                                                clear hP268
                                                refine bz_aload_n (pc := 979) dL_law_979 rfl rfl ?_
                                                refine bz_iload_n (pc := 980) dL_law_980 rfl rfl ?_
                                                refine bz_iconst (pc := 981) dL_law_981 ci_2 ?_
                                                refine bz_iadd (pc := 982) dL_law_982 ?_
                                                refine bz_rw_rA (pc := 983) dL_law_983 hP269 (fun x_234 hP270 => ?_)
                                                clear hP269
                                                obtain ⟨a_237, rfl, hP271⟩ := hP270
                                                refine bz_kIV (as := [.inl x_233, .inl x_234]) (st := [.inl x_230]) (ci := 12) (n := 2) (mc := 0) (ms := 0) (bc := (bc + 2)) (bs := (bs + 81)) (yc := kX12_refuse) (q := (RX12, TX12, 34)) (b := a_237) (pc := 984) dL_law_984 sc_X12_refuse ml_L_105 im_X12_refuse se_X12_refuse rfl rfl rfl (Nat.le_of_ble_eq_true rfl) hP271 (fun x_235 h_236 hP272 => ?_)
                                                clear hP271
                                                refine bz_icmp_eq (tgt := 1777) (pc := 987) dL_law_987 rfl (fun c => ?_) (fun c => ?_)
                                                · have hP273 := hP272.1 c
                                                  clear hP272
                                                  refine bz_s_iinc (pc := 1777) dL_law_1777 (Nat.le_of_ble_eq_true rfl) rfl rfl [some (.inr (some a_9)), some (.inr (some a_232)), some (.inr (some a_237)), some (.inl (x3 + 6))] rfl ?_
                                                  refine bz_goto (tgt := 18) (pc := 1780) dL_law_1780 rfl ?_
                                                  exact bz_more (by omega) (by omega) hP273
                                                · have hP274 := hP272.2 c
                                                  clear hP272
                                                  refine bz_iconst (pc := 990) dL_law_990 ci_0 ?_
                                                  exact bz_retI (pc := 991) dL_law_991 rfl rfl hP274
                                              · have hP275 := hP263.2 c
                                                clear hP263
                                                refine ⟨fun c => ?_, fun c => ?_⟩
                                                · have hP276 := hP275.1 c
                                                  clear hP275
                                                  show bz_J G κ kL_law (d + 1) F (bc + 2) (bs + 81) 992 [some (.inr (some a_9)), some (.inr r1), some (.inr r2), some (.inl x3)] [] h
                                                  refine bz_aload_n (pc := 992) dL_law_992 rfl rfl ?_
                                                  obtain ⟨a_240, rfl, hP277⟩ := hP276
                                                  refine bz_kIV (as := []) (st := []) (ci := 11) (n := 0) (mc := 0) (ms := 0) (bc := (bc + 2)) (bs := (bs + 81)) (yc := kX11_offerAll) (q := (RX11, TX11, 9)) (b := a_240) (pc := 993) dL_law_993 sc_X11_offerAll ml_L_106 im_X11_offerAll se_X11_offerAll rfl rfl rfl (Nat.le_of_ble_eq_true rfl) hP277 (fun x_238 h_239 hP278 => ?_)
                                                  clear hP277
                                                  refine bz_aload_n (pc := 996) dL_law_996 rfl rfl ?_
                                                  obtain ⟨a_243, rfl, hP279⟩ := hP278
                                                  refine bz_kIV (as := []) (st := [.inl x_238]) (ci := 12) (n := 0) (mc := 0) (ms := 0) (bc := (bc + 2)) (bs := (bs + 81)) (yc := kX12_offerAll) (q := (RX12, TX12, 34)) (b := a_243) (pc := 997) dL_law_997 sc_X12_offerAll ml_L_109 im_X12_offerAll se_X12_offerAll rfl rfl rfl (Nat.le_of_ble_eq_true rfl) hP279 (fun x_241 h_242 hP280 => ?_)
                                                  clear hP279
                                                  refine bz_icmp_eq (tgt := 1777) (pc := 1000) dL_law_1000 rfl (fun c => ?_) (fun c => ?_)
                                                  · have hP281 := hP280.1 c
                                                    clear hP280
                                                    refine bz_s_iinc (pc := 1777) dL_law_1777 (Nat.le_of_ble_eq_true rfl) rfl rfl [some (.inr (some a_9)), some (.inr (some a_240)), some (.inr (some a_243)), some (.inl (x3 + 6))] rfl ?_
                                                    refine bz_goto (tgt := 18) (pc := 1780) dL_law_1780 rfl ?_
                                                    exact bz_more (by omega) (by omega) hP281
                                                  · have hP282 := hP280.2 c
                                                    clear hP280
                                                    refine bz_iconst (pc := 1003) dL_law_1003 ci_0 ?_
                                                    exact bz_retI (pc := 1004) dL_law_1004 rfl rfl hP282
                                                · have hP283 := hP275.2 c
                                                  clear hP275
                                                  refine ⟨fun c => ?_, fun c => ?_⟩
                                                  · have hP284 := hP283.1 c
                                                    clear hP283
                                                    show bz_J G κ kL_law (d + 1) F (bc + 2) (bs + 81) 1005 [some (.inr (some a_9)), some (.inr r1), some (.inr r2), some (.inl x3)] [] h
                                                    refine bz_aload_n (pc := 1005) dL_law_1005 rfl rfl ?_
                                                    refine bz_aload_n (pc := 1006) dL_law_1006 rfl rfl ?_
                                                    refine bz_iload_n (pc := 1007) dL_law_1007 rfl rfl ?_
                                                    refine bz_iconst (pc := 1008) dL_law_1008 ci_1 ?_
                                                    refine bz_iadd (pc := 1009) dL_law_1009 ?_
                                                    refine bz_rw_rA (pc := 1010) dL_law_1010 hP284 (fun x_244 hP285 => ?_)
                                                    clear hP284
                                                    refine bz_aload_n (pc := 1011) dL_law_1011 rfl rfl ?_
                                                    refine bz_iload_n (pc := 1012) dL_law_1012 rfl rfl ?_
                                                    refine bz_iconst (pc := 1013) dL_law_1013 ci_2 ?_
                                                    refine bz_iadd (pc := 1014) dL_law_1014 ?_
                                                    refine bz_rw_rA (pc := 1015) dL_law_1015 hP285 (fun x_245 hP286 => ?_)
                                                    clear hP285
                                                    refine bz_aload_n (pc := 1016) dL_law_1016 rfl rfl ?_
                                                    refine bz_iload_n (pc := 1017) dL_law_1017 rfl rfl ?_
                                                    refine bz_iconst (pc := 1018) dL_law_1018 ci_3 ?_
                                                    refine bz_iadd (pc := 1019) dL_law_1019 ?_
                                                    refine bz_rw_rA (pc := 1020) dL_law_1020 hP286 (fun x_246 hP287 => ?_)
                                                    clear hP286
                                                    obtain ⟨a_249, rfl, hP288⟩ := hP287
                                                    refine bz_kIV (as := [.inl x_244, .inl x_245, .inl x_246]) (st := []) (ci := 11) (n := 3) (mc := 0) (ms := 0) (bc := (bc + 2)) (bs := (bs + 81)) (yc := kX11_rain) (q := (RX11, TX11, 9)) (b := a_249) (pc := 1021) dL_law_1021 sc_X11_rain ml_L_110 im_X11_rain se_X11_rain rfl rfl rfl (Nat.le_of_ble_eq_true rfl) hP288 (fun x_247 h_248 hP289 => ?_)
                                                    clear hP288
                                                    refine bz_aload_n (pc := 1024) dL_law_1024 rfl rfl ?_
                                                    refine bz_aload_n (pc := 1025) dL_law_1025 rfl rfl ?_
                                                    refine bz_iload_n (pc := 1026) dL_law_1026 rfl rfl ?_
                                                    refine bz_iconst (pc := 1027) dL_law_1027 ci_1 ?_
                                                    refine bz_iadd (pc := 1028) dL_law_1028 ?_
                                                    refine bz_rw_rA (pc := 1029) dL_law_1029 hP289 (fun x_250 hP290 => ?_)
                                                    clear hP289
                                                    refine bz_aload_n (pc := 1030) dL_law_1030 rfl rfl ?_
                                                    refine bz_iload_n (pc := 1031) dL_law_1031 rfl rfl ?_
                                                    refine bz_iconst (pc := 1032) dL_law_1032 ci_2 ?_
                                                    refine bz_iadd (pc := 1033) dL_law_1033 ?_
                                                    refine bz_rw_rA (pc := 1034) dL_law_1034 hP290 (fun x_251 hP291 => ?_)
                                                    clear hP290
                                                    refine bz_aload_n (pc := 1035) dL_law_1035 rfl rfl ?_
                                                    refine bz_iload_n (pc := 1036) dL_law_1036 rfl rfl ?_
                                                    refine bz_iconst (pc := 1037) dL_law_1037 ci_3 ?_
                                                    refine bz_iadd (pc := 1038) dL_law_1038 ?_
                                                    refine bz_rw_rA (pc := 1039) dL_law_1039 hP291 (fun x_252 hP292 => ?_)
                                                    clear hP291
                                                    obtain ⟨a_255, rfl, hP293⟩ := hP292
                                                    refine bz_kIV (as := [.inl x_250, .inl x_251, .inl x_252]) (st := [.inl x_247]) (ci := 12) (n := 3) (mc := 0) (ms := 0) (bc := (bc + 2)) (bs := (bs + 81)) (yc := kX12_rain) (q := (RX12, TX12, 34)) (b := a_255) (pc := 1040) dL_law_1040 sc_X12_rain ml_L_113 im_X12_rain se_X12_rain rfl rfl rfl (Nat.le_of_ble_eq_true rfl) hP293 (fun x_253 h_254 hP294 => ?_)
                                                    clear hP293
                                                    refine bz_icmp_eq (tgt := 1777) (pc := 1043) dL_law_1043 rfl (fun c => ?_) (fun c => ?_)
                                                    · have hP295 := hP294.1 c
                                                      clear hP294
                                                      refine bz_s_iinc (pc := 1777) dL_law_1777 (Nat.le_of_ble_eq_true rfl) rfl rfl [some (.inr (some a_9)), some (.inr (some a_249)), some (.inr (some a_255)), some (.inl (x3 + 6))] rfl ?_
                                                      refine bz_goto (tgt := 18) (pc := 1780) dL_law_1780 rfl ?_
                                                      exact bz_more (by omega) (by omega) hP295
                                                    · have hP296 := hP294.2 c
                                                      clear hP294
                                                      refine bz_iconst (pc := 1046) dL_law_1046 ci_0 ?_
                                                      exact bz_retI (pc := 1047) dL_law_1047 rfl rfl hP296
                                                  · have hP297 := hP283.2 c
                                                    clear hP283
                                                    refine ⟨fun c => ?_, fun c => ?_⟩
                                                    · have hP298 := hP297.1 c
                                                      clear hP297
                                                      show bz_J G κ kL_law (d + 1) F (bc + 2) (bs + 81) 1048 [some (.inr (some a_9)), some (.inr r1), some (.inr r2), some (.inl x3)] [] h
                                                      refine bz_aload_n (pc := 1048) dL_law_1048 rfl rfl ?_
                                                      refine bz_aload_n (pc := 1049) dL_law_1049 rfl rfl ?_
                                                      refine bz_iload_n (pc := 1050) dL_law_1050 rfl rfl ?_
                                                      refine bz_iconst (pc := 1051) dL_law_1051 ci_1 ?_
                                                      refine bz_iadd (pc := 1052) dL_law_1052 ?_
                                                      refine bz_rw_rA (pc := 1053) dL_law_1053 hP298 (fun x_256 hP299 => ?_)
                                                      clear hP298
                                                      obtain ⟨a_259, rfl, hP300⟩ := hP299
                                                      refine bz_kIV (as := [.inl x_256]) (st := []) (ci := 11) (n := 1) (mc := 0) (ms := 0) (bc := (bc + 2)) (bs := (bs + 81)) (yc := kX11_law) (q := (RX11, TX11, 9)) (b := a_259) (pc := 1054) dL_law_1054 sc_X11_law ml_L_114 im_X11_law se_X11_law rfl rfl rfl (Nat.le_of_ble_eq_true rfl) hP300 (fun x_257 h_258 hP301 => ?_)
                                                      clear hP300
                                                      refine bz_aload_n (pc := 1057) dL_law_1057 rfl rfl ?_
                                                      refine bz_aload_n (pc := 1058) dL_law_1058 rfl rfl ?_
                                                      refine bz_iload_n (pc := 1059) dL_law_1059 rfl rfl ?_
                                                      refine bz_iconst (pc := 1060) dL_law_1060 ci_1 ?_
                                                      refine bz_iadd (pc := 1061) dL_law_1061 ?_
                                                      refine bz_rw_rA (pc := 1062) dL_law_1062 hP301 (fun x_260 hP302 => ?_)
                                                      clear hP301
                                                      obtain ⟨a_263, rfl, hP303⟩ := hP302
                                                      refine bz_kIV (as := [.inl x_260]) (st := [.inl x_257]) (ci := 12) (n := 1) (mc := 0) (ms := 0) (bc := (bc + 2)) (bs := (bs + 81)) (yc := kX12_law) (q := (RX12, TX12, 34)) (b := a_263) (pc := 1063) dL_law_1063 sc_X12_law ml_L_117 im_X12_law se_X12_law rfl rfl rfl (Nat.le_of_ble_eq_true rfl) hP303 (fun x_261 h_262 hP304 => ?_)
                                                      clear hP303
                                                      refine bz_icmp_eq (tgt := 1777) (pc := 1066) dL_law_1066 rfl (fun c => ?_) (fun c => ?_)
                                                      · have hP305 := hP304.1 c
                                                        clear hP304
                                                        refine bz_s_iinc (pc := 1777) dL_law_1777 (Nat.le_of_ble_eq_true rfl) rfl rfl [some (.inr (some a_9)), some (.inr (some a_259)), some (.inr (some a_263)), some (.inl (x3 + 6))] rfl ?_
                                                        refine bz_goto (tgt := 18) (pc := 1780) dL_law_1780 rfl ?_
                                                        exact bz_more (by omega) (by omega) hP305
                                                      · have hP306 := hP304.2 c
                                                        clear hP304
                                                        refine bz_iconst (pc := 1069) dL_law_1069 ci_0 ?_
                                                        exact bz_retI (pc := 1070) dL_law_1070 rfl rfl hP306
                                                    · have hP307 := hP297.2 c
                                                      clear hP297
                                                      refine ⟨fun c => ?_, fun c => ?_⟩
                                                      · have hP308 := hP307.1 c
                                                        clear hP307
                                                        show bz_J G κ kL_law (d + 1) F (bc + 2) (bs + 81) 1071 [some (.inr (some a_9)), some (.inr r1), some (.inr r2), some (.inl x3)] [] h
                                                        refine bz_aload_n (pc := 1071) dL_law_1071 rfl rfl ?_
                                                        refine bz_aload_n (pc := 1072) dL_law_1072 rfl rfl ?_
                                                        refine bz_iload_n (pc := 1073) dL_law_1073 rfl rfl ?_
                                                        refine bz_iconst (pc := 1074) dL_law_1074 ci_1 ?_
                                                        refine bz_iadd (pc := 1075) dL_law_1075 ?_
                                                        refine bz_rw_rA (pc := 1076) dL_law_1076 hP308 (fun x_264 hP309 => ?_)
                                                        clear hP308
                                                        refine bz_aload_n (pc := 1077) dL_law_1077 rfl rfl ?_
                                                        refine bz_iload_n (pc := 1078) dL_law_1078 rfl rfl ?_
                                                        refine bz_iconst (pc := 1079) dL_law_1079 ci_2 ?_
                                                        refine bz_iadd (pc := 1080) dL_law_1080 ?_
                                                        refine bz_rw_rA (pc := 1081) dL_law_1081 hP309 (fun x_265 hP310 => ?_)
                                                        clear hP309
                                                        refine bz_aload_n (pc := 1082) dL_law_1082 rfl rfl ?_
                                                        refine bz_iload_n (pc := 1083) dL_law_1083 rfl rfl ?_
                                                        refine bz_iconst (pc := 1084) dL_law_1084 ci_3 ?_
                                                        refine bz_iadd (pc := 1085) dL_law_1085 ?_
                                                        refine bz_rw_rA (pc := 1086) dL_law_1086 hP310 (fun x_266 hP311 => ?_)
                                                        clear hP310
                                                        obtain ⟨a_269, rfl, hP312⟩ := hP311
                                                        refine bz_kIV (as := [.inl x_264, .inl x_265, .inl x_266]) (st := []) (ci := 11) (n := 3) (mc := 0) (ms := 0) (bc := (bc + 2)) (bs := (bs + 81)) (yc := kX11_app) (q := (RX11, TX11, 9)) (b := a_269) (pc := 1087) dL_law_1087 sc_X11_app ml_L_118 im_X11_app se_X11_app rfl rfl rfl (Nat.le_of_ble_eq_true rfl) hP312 (fun x_267 h_268 hP313 => ?_)
                                                        clear hP312
                                                        refine bz_aload_n (pc := 1090) dL_law_1090 rfl rfl ?_
                                                        refine bz_aload_n (pc := 1091) dL_law_1091 rfl rfl ?_
                                                        refine bz_iload_n (pc := 1092) dL_law_1092 rfl rfl ?_
                                                        refine bz_iconst (pc := 1093) dL_law_1093 ci_1 ?_
                                                        refine bz_iadd (pc := 1094) dL_law_1094 ?_
                                                        refine bz_rw_rA (pc := 1095) dL_law_1095 hP313 (fun x_270 hP314 => ?_)
                                                        clear hP313
                                                        refine bz_aload_n (pc := 1096) dL_law_1096 rfl rfl ?_
                                                        refine bz_iload_n (pc := 1097) dL_law_1097 rfl rfl ?_
                                                        refine bz_iconst (pc := 1098) dL_law_1098 ci_2 ?_
                                                        refine bz_iadd (pc := 1099) dL_law_1099 ?_
                                                        refine bz_rw_rA (pc := 1100) dL_law_1100 hP314 (fun x_271 hP315 => ?_)
                                                        clear hP314
                                                        refine bz_aload_n (pc := 1101) dL_law_1101 rfl rfl ?_
                                                        refine bz_iload_n (pc := 1102) dL_law_1102 rfl rfl ?_
                                                        refine bz_iconst (pc := 1103) dL_law_1103 ci_3 ?_
                                                        refine bz_iadd (pc := 1104) dL_law_1104 ?_
                                                        refine bz_rw_rA (pc := 1105) dL_law_1105 hP315 (fun x_272 hP316 => ?_)
                                                        clear hP315
                                                        obtain ⟨a_275, rfl, hP317⟩ := hP316
                                                        refine bz_kIV (as := [.inl x_270, .inl x_271, .inl x_272]) (st := [.inl x_267]) (ci := 12) (n := 3) (mc := 0) (ms := 0) (bc := (bc + 2)) (bs := (bs + 81)) (yc := kX12_app) (q := (RX12, TX12, 34)) (b := a_275) (pc := 1106) dL_law_1106 sc_X12_app ml_L_121 im_X12_app se_X12_app rfl rfl rfl (Nat.le_of_ble_eq_true rfl) hP317 (fun x_273 h_274 hP318 => ?_)
                                                        clear hP317
                                                        refine bz_icmp_eq (tgt := 1777) (pc := 1109) dL_law_1109 rfl (fun c => ?_) (fun c => ?_)
                                                        · have hP319 := hP318.1 c
                                                          clear hP318
                                                          refine bz_s_iinc (pc := 1777) dL_law_1777 (Nat.le_of_ble_eq_true rfl) rfl rfl [some (.inr (some a_9)), some (.inr (some a_269)), some (.inr (some a_275)), some (.inl (x3 + 6))] rfl ?_
                                                          refine bz_goto (tgt := 18) (pc := 1780) dL_law_1780 rfl ?_
                                                          exact bz_more (by omega) (by omega) hP319
                                                        · have hP320 := hP318.2 c
                                                          clear hP318
                                                          refine bz_iconst (pc := 1112) dL_law_1112 ci_0 ?_
                                                          exact bz_retI (pc := 1113) dL_law_1113 rfl rfl hP320
                                                      · have hP321 := hP307.2 c
                                                        clear hP307
                                                        refine ⟨fun c => ?_, fun c => ?_⟩
                                                        · have hP322 := hP321.1 c
                                                          clear hP321
                                                          show bz_J G κ kL_law (d + 1) F (bc + 2) (bs + 81) 1114 [some (.inr (some a_9)), some (.inr r1), some (.inr r2), some (.inl x3)] [] h
                                                          refine bz_aload_n (pc := 1114) dL_law_1114 rfl rfl ?_
                                                          refine bz_aload_n (pc := 1115) dL_law_1115 rfl rfl ?_
                                                          refine bz_iload_n (pc := 1116) dL_law_1116 rfl rfl ?_
                                                          refine bz_iconst (pc := 1117) dL_law_1117 ci_1 ?_
                                                          refine bz_iadd (pc := 1118) dL_law_1118 ?_
                                                          refine bz_rw_rA (pc := 1119) dL_law_1119 hP322 (fun x_276 hP323 => ?_)
                                                          clear hP322
                                                          refine bz_aload_n (pc := 1120) dL_law_1120 rfl rfl ?_
                                                          refine bz_iload_n (pc := 1121) dL_law_1121 rfl rfl ?_
                                                          refine bz_iconst (pc := 1122) dL_law_1122 ci_2 ?_
                                                          refine bz_iadd (pc := 1123) dL_law_1123 ?_
                                                          refine bz_rw_rA (pc := 1124) dL_law_1124 hP323 (fun x_277 hP324 => ?_)
                                                          clear hP323
                                                          obtain ⟨a_280, rfl, hP325⟩ := hP324
                                                          refine bz_kIV (as := [.inl x_276, .inl x_277]) (st := []) (ci := 11) (n := 2) (mc := 0) (ms := 0) (bc := (bc + 2)) (bs := (bs + 81)) (yc := kX11_least) (q := (RX11, TX11, 9)) (b := a_280) (pc := 1125) dL_law_1125 sc_X11_least ml_L_122 im_X11_least se_X11_least rfl rfl rfl (Nat.le_of_ble_eq_true rfl) hP325 (fun x_278 h_279 hP326 => ?_)
                                                          clear hP325
                                                          refine bz_aload_n (pc := 1128) dL_law_1128 rfl rfl ?_
                                                          refine bz_aload_n (pc := 1129) dL_law_1129 rfl rfl ?_
                                                          refine bz_iload_n (pc := 1130) dL_law_1130 rfl rfl ?_
                                                          refine bz_iconst (pc := 1131) dL_law_1131 ci_1 ?_
                                                          refine bz_iadd (pc := 1132) dL_law_1132 ?_
                                                          refine bz_rw_rA (pc := 1133) dL_law_1133 hP326 (fun x_281 hP327 => ?_)
                                                          clear hP326
                                                          refine bz_aload_n (pc := 1134) dL_law_1134 rfl rfl ?_
                                                          refine bz_iload_n (pc := 1135) dL_law_1135 rfl rfl ?_
                                                          refine bz_iconst (pc := 1136) dL_law_1136 ci_2 ?_
                                                          refine bz_iadd (pc := 1137) dL_law_1137 ?_
                                                          refine bz_rw_rA (pc := 1138) dL_law_1138 hP327 (fun x_282 hP328 => ?_)
                                                          clear hP327
                                                          obtain ⟨a_285, rfl, hP329⟩ := hP328
                                                          refine bz_kIV (as := [.inl x_281, .inl x_282]) (st := [.inl x_278]) (ci := 12) (n := 2) (mc := 0) (ms := 0) (bc := (bc + 2)) (bs := (bs + 81)) (yc := kX12_least) (q := (RX12, TX12, 34)) (b := a_285) (pc := 1139) dL_law_1139 sc_X12_least ml_L_125 im_X12_least se_X12_least rfl rfl rfl (Nat.le_of_ble_eq_true rfl) hP329 (fun x_283 h_284 hP330 => ?_)
                                                          clear hP329
                                                          refine bz_icmp_eq (tgt := 1777) (pc := 1142) dL_law_1142 rfl (fun c => ?_) (fun c => ?_)
                                                          · have hP331 := hP330.1 c
                                                            clear hP330
                                                            refine bz_s_iinc (pc := 1777) dL_law_1777 (Nat.le_of_ble_eq_true rfl) rfl rfl [some (.inr (some a_9)), some (.inr (some a_280)), some (.inr (some a_285)), some (.inl (x3 + 6))] rfl ?_
                                                            refine bz_goto (tgt := 18) (pc := 1780) dL_law_1780 rfl ?_
                                                            exact bz_more (by omega) (by omega) hP331
                                                          · have hP332 := hP330.2 c
                                                            clear hP330
                                                            refine bz_iconst (pc := 1145) dL_law_1145 ci_0 ?_
                                                            exact bz_retI (pc := 1146) dL_law_1146 rfl rfl hP332
                                                        · have hP333 := hP321.2 c
                                                          clear hP321
                                                          refine ⟨fun c => ?_, fun c => ?_⟩
                                                          · have hP334 := hP333.1 c
                                                            clear hP333
                                                            show bz_J G κ kL_law (d + 1) F (bc + 2) (bs + 81) 1147 [some (.inr (some a_9)), some (.inr r1), some (.inr r2), some (.inl x3)] [] h
                                                            refine bz_aload_n (pc := 1147) dL_law_1147 rfl rfl ?_
                                                            refine bz_aload_n (pc := 1148) dL_law_1148 rfl rfl ?_
                                                            refine bz_iload_n (pc := 1149) dL_law_1149 rfl rfl ?_
                                                            refine bz_iconst (pc := 1150) dL_law_1150 ci_1 ?_
                                                            refine bz_iadd (pc := 1151) dL_law_1151 ?_
                                                            refine bz_rw_rA (pc := 1152) dL_law_1152 hP334 (fun x_286 hP335 => ?_)
                                                            clear hP334
                                                            refine bz_aload_n (pc := 1153) dL_law_1153 rfl rfl ?_
                                                            refine bz_iload_n (pc := 1154) dL_law_1154 rfl rfl ?_
                                                            refine bz_iconst (pc := 1155) dL_law_1155 ci_2 ?_
                                                            refine bz_iadd (pc := 1156) dL_law_1156 ?_
                                                            refine bz_rw_rA (pc := 1157) dL_law_1157 hP335 (fun x_287 hP336 => ?_)
                                                            clear hP335
                                                            obtain ⟨a_290, rfl, hP337⟩ := hP336
                                                            refine bz_kIV (as := [.inl x_286, .inl x_287]) (st := []) (ci := 11) (n := 2) (mc := 0) (ms := 0) (bc := (bc + 2)) (bs := (bs + 81)) (yc := kX11_lacks) (q := (RX11, TX11, 9)) (b := a_290) (pc := 1158) dL_law_1158 sc_X11_lacks ml_L_126 im_X11_lacks se_X11_lacks rfl rfl rfl (Nat.le_of_ble_eq_true rfl) hP337 (fun x_288 h_289 hP338 => ?_)
                                                            clear hP337
                                                            refine bz_aload_n (pc := 1161) dL_law_1161 rfl rfl ?_
                                                            refine bz_aload_n (pc := 1162) dL_law_1162 rfl rfl ?_
                                                            refine bz_iload_n (pc := 1163) dL_law_1163 rfl rfl ?_
                                                            refine bz_iconst (pc := 1164) dL_law_1164 ci_1 ?_
                                                            refine bz_iadd (pc := 1165) dL_law_1165 ?_
                                                            refine bz_rw_rA (pc := 1166) dL_law_1166 hP338 (fun x_291 hP339 => ?_)
                                                            clear hP338
                                                            refine bz_aload_n (pc := 1167) dL_law_1167 rfl rfl ?_
                                                            refine bz_iload_n (pc := 1168) dL_law_1168 rfl rfl ?_
                                                            refine bz_iconst (pc := 1169) dL_law_1169 ci_2 ?_
                                                            refine bz_iadd (pc := 1170) dL_law_1170 ?_
                                                            refine bz_rw_rA (pc := 1171) dL_law_1171 hP339 (fun x_292 hP340 => ?_)
                                                            clear hP339
                                                            obtain ⟨a_295, rfl, hP341⟩ := hP340
                                                            refine bz_kIV (as := [.inl x_291, .inl x_292]) (st := [.inl x_288]) (ci := 12) (n := 2) (mc := 0) (ms := 0) (bc := (bc + 2)) (bs := (bs + 81)) (yc := kX12_lacks) (q := (RX12, TX12, 34)) (b := a_295) (pc := 1172) dL_law_1172 sc_X12_lacks ml_L_129 im_X12_lacks se_X12_lacks rfl rfl rfl (Nat.le_of_ble_eq_true rfl) hP341 (fun x_293 h_294 hP342 => ?_)
                                                            clear hP341
                                                            refine bz_icmp_eq (tgt := 1777) (pc := 1175) dL_law_1175 rfl (fun c => ?_) (fun c => ?_)
                                                            · have hP343 := hP342.1 c
                                                              clear hP342
                                                              refine bz_s_iinc (pc := 1777) dL_law_1777 (Nat.le_of_ble_eq_true rfl) rfl rfl [some (.inr (some a_9)), some (.inr (some a_290)), some (.inr (some a_295)), some (.inl (x3 + 6))] rfl ?_
                                                              refine bz_goto (tgt := 18) (pc := 1780) dL_law_1780 rfl ?_
                                                              exact bz_more (by omega) (by omega) hP343
                                                            · have hP344 := hP342.2 c
                                                              clear hP342
                                                              refine bz_iconst (pc := 1178) dL_law_1178 ci_0 ?_
                                                              exact bz_retI (pc := 1179) dL_law_1179 rfl rfl hP344
                                                          · have hP345 := hP333.2 c
                                                            clear hP333
                                                            refine ⟨fun c => ?_, fun c => ?_⟩
                                                            · have hP346 := hP345.1 c
                                                              clear hP345
                                                              show bz_J G κ kL_law (d + 1) F (bc + 2) (bs + 81) 1180 [some (.inr (some a_9)), some (.inr r1), some (.inr r2), some (.inl x3)] [] h
                                                              refine bz_aload_n (pc := 1180) dL_law_1180 rfl rfl ?_
                                                              refine bz_aload_n (pc := 1181) dL_law_1181 rfl rfl ?_
                                                              refine bz_iload_n (pc := 1182) dL_law_1182 rfl rfl ?_
                                                              refine bz_iconst (pc := 1183) dL_law_1183 ci_1 ?_
                                                              refine bz_iadd (pc := 1184) dL_law_1184 ?_
                                                              refine bz_rw_rA (pc := 1185) dL_law_1185 hP346 (fun x_296 hP347 => ?_)
                                                              clear hP346
                                                              refine bz_aload_n (pc := 1186) dL_law_1186 rfl rfl ?_
                                                              refine bz_iload_n (pc := 1187) dL_law_1187 rfl rfl ?_
                                                              refine bz_iconst (pc := 1188) dL_law_1188 ci_2 ?_
                                                              refine bz_iadd (pc := 1189) dL_law_1189 ?_
                                                              refine bz_rw_rA (pc := 1190) dL_law_1190 hP347 (fun x_297 hP348 => ?_)
                                                              clear hP347
                                                              refine bz_aload_n (pc := 1191) dL_law_1191 rfl rfl ?_
                                                              refine bz_iload_n (pc := 1192) dL_law_1192 rfl rfl ?_
                                                              refine bz_iconst (pc := 1193) dL_law_1193 ci_3 ?_
                                                              refine bz_iadd (pc := 1194) dL_law_1194 ?_
                                                              refine bz_rw_rA (pc := 1195) dL_law_1195 hP348 (fun x_298 hP349 => ?_)
                                                              clear hP348
                                                              obtain ⟨a_301, rfl, hP350⟩ := hP349
                                                              refine bz_kIV (as := [.inl x_296, .inl x_297, .inl x_298]) (st := []) (ci := 11) (n := 3) (mc := 0) (ms := 0) (bc := (bc + 2)) (bs := (bs + 81)) (yc := kX11_ban) (q := (RX11, TX11, 9)) (b := a_301) (pc := 1196) dL_law_1196 sc_X11_ban ml_L_130 im_X11_ban se_X11_ban rfl rfl rfl (Nat.le_of_ble_eq_true rfl) hP350 (fun x_299 h_300 hP351 => ?_)
                                                              clear hP350
                                                              refine bz_aload_n (pc := 1199) dL_law_1199 rfl rfl ?_
                                                              refine bz_aload_n (pc := 1200) dL_law_1200 rfl rfl ?_
                                                              refine bz_iload_n (pc := 1201) dL_law_1201 rfl rfl ?_
                                                              refine bz_iconst (pc := 1202) dL_law_1202 ci_1 ?_
                                                              refine bz_iadd (pc := 1203) dL_law_1203 ?_
                                                              refine bz_rw_rA (pc := 1204) dL_law_1204 hP351 (fun x_302 hP352 => ?_)
                                                              clear hP351
                                                              refine bz_aload_n (pc := 1205) dL_law_1205 rfl rfl ?_
                                                              refine bz_iload_n (pc := 1206) dL_law_1206 rfl rfl ?_
                                                              refine bz_iconst (pc := 1207) dL_law_1207 ci_2 ?_
                                                              refine bz_iadd (pc := 1208) dL_law_1208 ?_
                                                              refine bz_rw_rA (pc := 1209) dL_law_1209 hP352 (fun x_303 hP353 => ?_)
                                                              clear hP352
                                                              refine bz_aload_n (pc := 1210) dL_law_1210 rfl rfl ?_
                                                              refine bz_iload_n (pc := 1211) dL_law_1211 rfl rfl ?_
                                                              refine bz_iconst (pc := 1212) dL_law_1212 ci_3 ?_
                                                              refine bz_iadd (pc := 1213) dL_law_1213 ?_
                                                              refine bz_rw_rA (pc := 1214) dL_law_1214 hP353 (fun x_304 hP354 => ?_)
                                                              clear hP353
                                                              obtain ⟨a_307, rfl, hP355⟩ := hP354
                                                              refine bz_kIV (as := [.inl x_302, .inl x_303, .inl x_304]) (st := [.inl x_299]) (ci := 12) (n := 3) (mc := 0) (ms := 0) (bc := (bc + 2)) (bs := (bs + 81)) (yc := kX12_ban) (q := (RX12, TX12, 34)) (b := a_307) (pc := 1215) dL_law_1215 sc_X12_ban ml_L_133 im_X12_ban se_X12_ban rfl rfl rfl (Nat.le_of_ble_eq_true rfl) hP355 (fun x_305 h_306 hP356 => ?_)
                                                              clear hP355
                                                              refine bz_icmp_eq (tgt := 1777) (pc := 1218) dL_law_1218 rfl (fun c => ?_) (fun c => ?_)
                                                              · have hP357 := hP356.1 c
                                                                clear hP356
                                                                refine bz_s_iinc (pc := 1777) dL_law_1777 (Nat.le_of_ble_eq_true rfl) rfl rfl [some (.inr (some a_9)), some (.inr (some a_301)), some (.inr (some a_307)), some (.inl (x3 + 6))] rfl ?_
                                                                refine bz_goto (tgt := 18) (pc := 1780) dL_law_1780 rfl ?_
                                                                exact bz_more (by omega) (by omega) hP357
                                                              · have hP358 := hP356.2 c
                                                                clear hP356
                                                                refine bz_iconst (pc := 1221) dL_law_1221 ci_0 ?_
                                                                exact bz_retI (pc := 1222) dL_law_1222 rfl rfl hP358
                                                            · have hP359 := hP345.2 c
                                                              clear hP345
                                                              refine ⟨fun c => ?_, fun c => ?_⟩
                                                              · have hP360 := hP359.1 c
                                                                clear hP359
                                                                show bz_J G κ kL_law (d + 1) F (bc + 2) (bs + 81) 1223 [some (.inr (some a_9)), some (.inr r1), some (.inr r2), some (.inl x3)] [] h
                                                                refine bz_aload_n (pc := 1223) dL_law_1223 rfl rfl ?_
                                                                refine bz_aload_n (pc := 1224) dL_law_1224 rfl rfl ?_
                                                                refine bz_iload_n (pc := 1225) dL_law_1225 rfl rfl ?_
                                                                refine bz_iconst (pc := 1226) dL_law_1226 ci_1 ?_
                                                                refine bz_iadd (pc := 1227) dL_law_1227 ?_
                                                                refine bz_rw_rA (pc := 1228) dL_law_1228 hP360 (fun x_308 hP361 => ?_)
                                                                clear hP360
                                                                refine bz_aload_n (pc := 1229) dL_law_1229 rfl rfl ?_
                                                                refine bz_iload_n (pc := 1230) dL_law_1230 rfl rfl ?_
                                                                refine bz_iconst (pc := 1231) dL_law_1231 ci_2 ?_
                                                                refine bz_iadd (pc := 1232) dL_law_1232 ?_
                                                                refine bz_rw_rA (pc := 1233) dL_law_1233 hP361 (fun x_309 hP362 => ?_)
                                                                clear hP361
                                                                refine bz_aload_n (pc := 1234) dL_law_1234 rfl rfl ?_
                                                                refine bz_iload_n (pc := 1235) dL_law_1235 rfl rfl ?_
                                                                refine bz_iconst (pc := 1236) dL_law_1236 ci_3 ?_
                                                                refine bz_iadd (pc := 1237) dL_law_1237 ?_
                                                                refine bz_rw_rA (pc := 1238) dL_law_1238 hP362 (fun x_310 hP363 => ?_)
                                                                clear hP362
                                                                obtain ⟨a_313, rfl, hP364⟩ := hP363
                                                                refine bz_kIV (as := [.inl x_308, .inl x_309, .inl x_310]) (st := []) (ci := 11) (n := 3) (mc := 0) (ms := 0) (bc := (bc + 2)) (bs := (bs + 81)) (yc := kX11_seen) (q := (RX11, TX11, 9)) (b := a_313) (pc := 1239) dL_law_1239 sc_X11_seen ml_L_134 im_X11_seen se_X11_seen rfl rfl rfl (Nat.le_of_ble_eq_true rfl) hP364 (fun x_311 h_312 hP365 => ?_)
                                                                clear hP364
                                                                refine bz_aload_n (pc := 1242) dL_law_1242 rfl rfl ?_
                                                                refine bz_aload_n (pc := 1243) dL_law_1243 rfl rfl ?_
                                                                refine bz_iload_n (pc := 1244) dL_law_1244 rfl rfl ?_
                                                                refine bz_iconst (pc := 1245) dL_law_1245 ci_1 ?_
                                                                refine bz_iadd (pc := 1246) dL_law_1246 ?_
                                                                refine bz_rw_rA (pc := 1247) dL_law_1247 hP365 (fun x_314 hP366 => ?_)
                                                                clear hP365
                                                                refine bz_aload_n (pc := 1248) dL_law_1248 rfl rfl ?_
                                                                refine bz_iload_n (pc := 1249) dL_law_1249 rfl rfl ?_
                                                                refine bz_iconst (pc := 1250) dL_law_1250 ci_2 ?_
                                                                refine bz_iadd (pc := 1251) dL_law_1251 ?_
                                                                refine bz_rw_rA (pc := 1252) dL_law_1252 hP366 (fun x_315 hP367 => ?_)
                                                                clear hP366
                                                                refine bz_aload_n (pc := 1253) dL_law_1253 rfl rfl ?_
                                                                refine bz_iload_n (pc := 1254) dL_law_1254 rfl rfl ?_
                                                                refine bz_iconst (pc := 1255) dL_law_1255 ci_3 ?_
                                                                refine bz_iadd (pc := 1256) dL_law_1256 ?_
                                                                refine bz_rw_rA (pc := 1257) dL_law_1257 hP367 (fun x_316 hP368 => ?_)
                                                                clear hP367
                                                                obtain ⟨a_319, rfl, hP369⟩ := hP368
                                                                refine bz_kIV (as := [.inl x_314, .inl x_315, .inl x_316]) (st := [.inl x_311]) (ci := 12) (n := 3) (mc := 0) (ms := 0) (bc := (bc + 2)) (bs := (bs + 81)) (yc := kX12_seen) (q := (RX12, TX12, 34)) (b := a_319) (pc := 1258) dL_law_1258 sc_X12_seen ml_L_137 im_X12_seen se_X12_seen rfl rfl rfl (Nat.le_of_ble_eq_true rfl) hP369 (fun x_317 h_318 hP370 => ?_)
                                                                clear hP369
                                                                refine bz_icmp_eq (tgt := 1777) (pc := 1261) dL_law_1261 rfl (fun c => ?_) (fun c => ?_)
                                                                · have hP371 := hP370.1 c
                                                                  clear hP370
                                                                  refine bz_s_iinc (pc := 1777) dL_law_1777 (Nat.le_of_ble_eq_true rfl) rfl rfl [some (.inr (some a_9)), some (.inr (some a_313)), some (.inr (some a_319)), some (.inl (x3 + 6))] rfl ?_
                                                                  refine bz_goto (tgt := 18) (pc := 1780) dL_law_1780 rfl ?_
                                                                  exact bz_more (by omega) (by omega) hP371
                                                                · have hP372 := hP370.2 c
                                                                  clear hP370
                                                                  refine bz_iconst (pc := 1264) dL_law_1264 ci_0 ?_
                                                                  exact bz_retI (pc := 1265) dL_law_1265 rfl rfl hP372
                                                              · have hP373 := hP359.2 c
                                                                clear hP359
                                                                refine ⟨fun c => ?_, fun c => ?_⟩
                                                                · have hP374 := hP373.1 c
                                                                  clear hP373
                                                                  show bz_J G κ kL_law (d + 1) F (bc + 2) (bs + 81) 1266 [some (.inr (some a_9)), some (.inr r1), some (.inr r2), some (.inl x3)] [] h
                                                                  refine bz_aload_n (pc := 1266) dL_law_1266 rfl rfl ?_
                                                                  refine bz_aload_n (pc := 1267) dL_law_1267 rfl rfl ?_
                                                                  refine bz_iload_n (pc := 1268) dL_law_1268 rfl rfl ?_
                                                                  refine bz_iconst (pc := 1269) dL_law_1269 ci_1 ?_
                                                                  refine bz_iadd (pc := 1270) dL_law_1270 ?_
                                                                  refine bz_rw_rA (pc := 1271) dL_law_1271 hP374 (fun x_320 hP375 => ?_)
                                                                  clear hP374
                                                                  refine bz_aload_n (pc := 1272) dL_law_1272 rfl rfl ?_
                                                                  refine bz_iload_n (pc := 1273) dL_law_1273 rfl rfl ?_
                                                                  refine bz_iconst (pc := 1274) dL_law_1274 ci_2 ?_
                                                                  refine bz_iadd (pc := 1275) dL_law_1275 ?_
                                                                  refine bz_rw_rA (pc := 1276) dL_law_1276 hP375 (fun x_321 hP376 => ?_)
                                                                  clear hP375
                                                                  obtain ⟨a_324, rfl, hP377⟩ := hP376
                                                                  refine bz_kIV (as := [.inl x_320, .inl x_321]) (st := []) (ci := 11) (n := 2) (mc := 0) (ms := 0) (bc := (bc + 2)) (bs := (bs + 81)) (yc := kX11_doubles) (q := (RX11, TX11, 9)) (b := a_324) (pc := 1277) dL_law_1277 sc_X11_doubles ml_L_138 im_X11_doubles se_X11_doubles rfl rfl rfl (Nat.le_of_ble_eq_true rfl) hP377 (fun x_322 h_323 hP378 => ?_)
                                                                  clear hP377
                                                                  refine bz_aload_n (pc := 1280) dL_law_1280 rfl rfl ?_
                                                                  refine bz_aload_n (pc := 1281) dL_law_1281 rfl rfl ?_
                                                                  refine bz_iload_n (pc := 1282) dL_law_1282 rfl rfl ?_
                                                                  refine bz_iconst (pc := 1283) dL_law_1283 ci_1 ?_
                                                                  refine bz_iadd (pc := 1284) dL_law_1284 ?_
                                                                  refine bz_rw_rA (pc := 1285) dL_law_1285 hP378 (fun x_325 hP379 => ?_)
                                                                  clear hP378
                                                                  refine bz_aload_n (pc := 1286) dL_law_1286 rfl rfl ?_
                                                                  refine bz_iload_n (pc := 1287) dL_law_1287 rfl rfl ?_
                                                                  refine bz_iconst (pc := 1288) dL_law_1288 ci_2 ?_
                                                                  refine bz_iadd (pc := 1289) dL_law_1289 ?_
                                                                  refine bz_rw_rA (pc := 1290) dL_law_1290 hP379 (fun x_326 hP380 => ?_)
                                                                  clear hP379
                                                                  obtain ⟨a_329, rfl, hP381⟩ := hP380
                                                                  refine bz_kIV (as := [.inl x_325, .inl x_326]) (st := [.inl x_322]) (ci := 12) (n := 2) (mc := 0) (ms := 0) (bc := (bc + 2)) (bs := (bs + 81)) (yc := kX12_doubles) (q := (RX12, TX12, 34)) (b := a_329) (pc := 1291) dL_law_1291 sc_X12_doubles ml_L_141 im_X12_doubles se_X12_doubles rfl rfl rfl (Nat.le_of_ble_eq_true rfl) hP381 (fun x_327 h_328 hP382 => ?_)
                                                                  clear hP381
                                                                  refine bz_icmp_eq (tgt := 1777) (pc := 1294) dL_law_1294 rfl (fun c => ?_) (fun c => ?_)
                                                                  · have hP383 := hP382.1 c
                                                                    clear hP382
                                                                    refine bz_s_iinc (pc := 1777) dL_law_1777 (Nat.le_of_ble_eq_true rfl) rfl rfl [some (.inr (some a_9)), some (.inr (some a_324)), some (.inr (some a_329)), some (.inl (x3 + 6))] rfl ?_
                                                                    refine bz_goto (tgt := 18) (pc := 1780) dL_law_1780 rfl ?_
                                                                    exact bz_more (by omega) (by omega) hP383
                                                                  · have hP384 := hP382.2 c
                                                                    clear hP382
                                                                    refine bz_iconst (pc := 1297) dL_law_1297 ci_0 ?_
                                                                    exact bz_retI (pc := 1298) dL_law_1298 rfl rfl hP384
                                                                · have hP385 := hP373.2 c
                                                                  clear hP373
                                                                  refine ⟨fun c => ?_, fun c => ?_⟩
                                                                  · have hP386 := hP385.1 c
                                                                    clear hP385
                                                                    show bz_J G κ kL_law (d + 1) F (bc + 2) (bs + 81) 1299 [some (.inr (some a_9)), some (.inr r1), some (.inr r2), some (.inl x3)] [] h
                                                                    refine bz_aload_n (pc := 1299) dL_law_1299 rfl rfl ?_
                                                                    refine bz_aload_n (pc := 1300) dL_law_1300 rfl rfl ?_
                                                                    refine bz_iload_n (pc := 1301) dL_law_1301 rfl rfl ?_
                                                                    refine bz_iconst (pc := 1302) dL_law_1302 ci_1 ?_
                                                                    refine bz_iadd (pc := 1303) dL_law_1303 ?_
                                                                    refine bz_rw_rA (pc := 1304) dL_law_1304 hP386 (fun x_330 hP387 => ?_)
                                                                    clear hP386
                                                                    refine bz_aload_n (pc := 1305) dL_law_1305 rfl rfl ?_
                                                                    refine bz_iload_n (pc := 1306) dL_law_1306 rfl rfl ?_
                                                                    refine bz_iconst (pc := 1307) dL_law_1307 ci_2 ?_
                                                                    refine bz_iadd (pc := 1308) dL_law_1308 ?_
                                                                    refine bz_rw_rA (pc := 1309) dL_law_1309 hP387 (fun x_331 hP388 => ?_)
                                                                    clear hP387
                                                                    obtain ⟨a_334, rfl, hP389⟩ := hP388
                                                                    refine bz_kIV (as := [.inl x_330, .inl x_331]) (st := []) (ci := 11) (n := 2) (mc := 0) (ms := 0) (bc := (bc + 2)) (bs := (bs + 81)) (yc := kX11_zone) (q := (RX11, TX11, 9)) (b := a_334) (pc := 1310) dL_law_1310 sc_X11_zone ml_L_142 im_X11_zone se_X11_zone rfl rfl rfl (Nat.le_of_ble_eq_true rfl) hP389 (fun x_332 h_333 hP390 => ?_)
                                                                    clear hP389
                                                                    refine bz_aload_n (pc := 1313) dL_law_1313 rfl rfl ?_
                                                                    refine bz_aload_n (pc := 1314) dL_law_1314 rfl rfl ?_
                                                                    refine bz_iload_n (pc := 1315) dL_law_1315 rfl rfl ?_
                                                                    refine bz_iconst (pc := 1316) dL_law_1316 ci_1 ?_
                                                                    refine bz_iadd (pc := 1317) dL_law_1317 ?_
                                                                    refine bz_rw_rA (pc := 1318) dL_law_1318 hP390 (fun x_335 hP391 => ?_)
                                                                    clear hP390
                                                                    refine bz_aload_n (pc := 1319) dL_law_1319 rfl rfl ?_
                                                                    refine bz_iload_n (pc := 1320) dL_law_1320 rfl rfl ?_
                                                                    refine bz_iconst (pc := 1321) dL_law_1321 ci_2 ?_
                                                                    refine bz_iadd (pc := 1322) dL_law_1322 ?_
                                                                    refine bz_rw_rA (pc := 1323) dL_law_1323 hP391 (fun x_336 hP392 => ?_)
                                                                    clear hP391
                                                                    obtain ⟨a_339, rfl, hP393⟩ := hP392
                                                                    refine bz_kIV (as := [.inl x_335, .inl x_336]) (st := [.inl x_332]) (ci := 12) (n := 2) (mc := 0) (ms := 0) (bc := (bc + 2)) (bs := (bs + 81)) (yc := kX12_zone) (q := (RX12, TX12, 34)) (b := a_339) (pc := 1324) dL_law_1324 sc_X12_zone ml_L_145 im_X12_zone se_X12_zone rfl rfl rfl (Nat.le_of_ble_eq_true rfl) hP393 (fun x_337 h_338 hP394 => ?_)
                                                                    clear hP393
                                                                    refine bz_icmp_eq (tgt := 1777) (pc := 1327) dL_law_1327 rfl (fun c => ?_) (fun c => ?_)
                                                                    · have hP395 := hP394.1 c
                                                                      clear hP394
                                                                      refine bz_s_iinc (pc := 1777) dL_law_1777 (Nat.le_of_ble_eq_true rfl) rfl rfl [some (.inr (some a_9)), some (.inr (some a_334)), some (.inr (some a_339)), some (.inl (x3 + 6))] rfl ?_
                                                                      refine bz_goto (tgt := 18) (pc := 1780) dL_law_1780 rfl ?_
                                                                      exact bz_more (by omega) (by omega) hP395
                                                                    · have hP396 := hP394.2 c
                                                                      clear hP394
                                                                      refine bz_iconst (pc := 1330) dL_law_1330 ci_0 ?_
                                                                      exact bz_retI (pc := 1331) dL_law_1331 rfl rfl hP396
                                                                  · have hP397 := hP385.2 c
                                                                    clear hP385
                                                                    refine ⟨fun c => ?_, fun c => ?_⟩
                                                                    · have hP398 := hP397.1 c
                                                                      clear hP397
                                                                      show bz_J G κ kL_law (d + 1) F (bc + 2) (bs + 81) 1332 [some (.inr (some a_9)), some (.inr r1), some (.inr r2), some (.inl x3)] [] h
                                                                      refine bz_aload_n (pc := 1332) dL_law_1332 rfl rfl ?_
                                                                      refine bz_aload_n (pc := 1333) dL_law_1333 rfl rfl ?_
                                                                      refine bz_iload_n (pc := 1334) dL_law_1334 rfl rfl ?_
                                                                      refine bz_iconst (pc := 1335) dL_law_1335 ci_1 ?_
                                                                      refine bz_iadd (pc := 1336) dL_law_1336 ?_
                                                                      refine bz_rw_rA (pc := 1337) dL_law_1337 hP398 (fun x_340 hP399 => ?_)
                                                                      clear hP398
                                                                      obtain ⟨a_343, rfl, hP400⟩ := hP399
                                                                      refine bz_kIV (as := [.inl x_340]) (st := []) (ci := 11) (n := 1) (mc := 0) (ms := 0) (bc := (bc + 2)) (bs := (bs + 81)) (yc := kX11_starves) (q := (RX11, TX11, 9)) (b := a_343) (pc := 1338) dL_law_1338 sc_X11_starves ml_L_146 im_X11_starves se_X11_starves rfl rfl rfl (Nat.le_of_ble_eq_true rfl) hP400 (fun x_341 h_342 hP401 => ?_)
                                                                      clear hP400
                                                                      refine bz_aload_n (pc := 1341) dL_law_1341 rfl rfl ?_
                                                                      refine bz_aload_n (pc := 1342) dL_law_1342 rfl rfl ?_
                                                                      refine bz_iload_n (pc := 1343) dL_law_1343 rfl rfl ?_
                                                                      refine bz_iconst (pc := 1344) dL_law_1344 ci_1 ?_
                                                                      refine bz_iadd (pc := 1345) dL_law_1345 ?_
                                                                      refine bz_rw_rA (pc := 1346) dL_law_1346 hP401 (fun x_344 hP402 => ?_)
                                                                      clear hP401
                                                                      obtain ⟨a_347, rfl, hP403⟩ := hP402
                                                                      refine bz_kIV (as := [.inl x_344]) (st := [.inl x_341]) (ci := 12) (n := 1) (mc := 0) (ms := 0) (bc := (bc + 2)) (bs := (bs + 81)) (yc := kX12_starves) (q := (RX12, TX12, 34)) (b := a_347) (pc := 1347) dL_law_1347 sc_X12_starves ml_L_149 im_X12_starves se_X12_starves rfl rfl rfl (Nat.le_of_ble_eq_true rfl) hP403 (fun x_345 h_346 hP404 => ?_)
                                                                      clear hP403
                                                                      refine bz_icmp_eq (tgt := 1777) (pc := 1350) dL_law_1350 rfl (fun c => ?_) (fun c => ?_)
                                                                      · have hP405 := hP404.1 c
                                                                        clear hP404
                                                                        refine bz_s_iinc (pc := 1777) dL_law_1777 (Nat.le_of_ble_eq_true rfl) rfl rfl [some (.inr (some a_9)), some (.inr (some a_343)), some (.inr (some a_347)), some (.inl (x3 + 6))] rfl ?_
                                                                        refine bz_goto (tgt := 18) (pc := 1780) dL_law_1780 rfl ?_
                                                                        exact bz_more (by omega) (by omega) hP405
                                                                      · have hP406 := hP404.2 c
                                                                        clear hP404
                                                                        refine bz_iconst (pc := 1353) dL_law_1353 ci_0 ?_
                                                                        exact bz_retI (pc := 1354) dL_law_1354 rfl rfl hP406
                                                                    · have hP407 := hP397.2 c
                                                                      clear hP397
                                                                      refine ⟨fun c => ?_, fun c => ?_⟩
                                                                      · have hP408 := hP407.1 c
                                                                        clear hP407
                                                                        show bz_J G κ kL_law (d + 1) F (bc + 2) (bs + 81) 1355 [some (.inr (some a_9)), some (.inr r1), some (.inr r2), some (.inl x3)] [] h
                                                                        refine bz_aload_n (pc := 1355) dL_law_1355 rfl rfl ?_
                                                                        refine bz_aload_n (pc := 1356) dL_law_1356 rfl rfl ?_
                                                                        refine bz_iload_n (pc := 1357) dL_law_1357 rfl rfl ?_
                                                                        refine bz_iconst (pc := 1358) dL_law_1358 ci_1 ?_
                                                                        refine bz_iadd (pc := 1359) dL_law_1359 ?_
                                                                        refine bz_rw_rA (pc := 1360) dL_law_1360 hP408 (fun x_348 hP409 => ?_)
                                                                        clear hP408
                                                                        refine bz_aload_n (pc := 1361) dL_law_1361 rfl rfl ?_
                                                                        refine bz_iload_n (pc := 1362) dL_law_1362 rfl rfl ?_
                                                                        refine bz_iconst (pc := 1363) dL_law_1363 ci_2 ?_
                                                                        refine bz_iadd (pc := 1364) dL_law_1364 ?_
                                                                        refine bz_rw_rA (pc := 1365) dL_law_1365 hP409 (fun x_349 hP410 => ?_)
                                                                        clear hP409
                                                                        obtain ⟨a_352, rfl, hP411⟩ := hP410
                                                                        refine bz_kIV (as := [.inl x_348, .inl x_349]) (st := []) (ci := 11) (n := 2) (mc := 0) (ms := 0) (bc := (bc + 2)) (bs := (bs + 81)) (yc := kX11_night) (q := (RX11, TX11, 9)) (b := a_352) (pc := 1366) dL_law_1366 sc_X11_night ml_L_150 im_X11_night se_X11_night rfl rfl rfl (Nat.le_of_ble_eq_true rfl) hP411 (fun x_350 h_351 hP412 => ?_)
                                                                        clear hP411
                                                                        refine bz_aload_n (pc := 1369) dL_law_1369 rfl rfl ?_
                                                                        refine bz_aload_n (pc := 1370) dL_law_1370 rfl rfl ?_
                                                                        refine bz_iload_n (pc := 1371) dL_law_1371 rfl rfl ?_
                                                                        refine bz_iconst (pc := 1372) dL_law_1372 ci_1 ?_
                                                                        refine bz_iadd (pc := 1373) dL_law_1373 ?_
                                                                        refine bz_rw_rA (pc := 1374) dL_law_1374 hP412 (fun x_353 hP413 => ?_)
                                                                        clear hP412
                                                                        refine bz_aload_n (pc := 1375) dL_law_1375 rfl rfl ?_
                                                                        refine bz_iload_n (pc := 1376) dL_law_1376 rfl rfl ?_
                                                                        refine bz_iconst (pc := 1377) dL_law_1377 ci_2 ?_
                                                                        refine bz_iadd (pc := 1378) dL_law_1378 ?_
                                                                        refine bz_rw_rA (pc := 1379) dL_law_1379 hP413 (fun x_354 hP414 => ?_)
                                                                        clear hP413
                                                                        obtain ⟨a_357, rfl, hP415⟩ := hP414
                                                                        refine bz_kIV (as := [.inl x_353, .inl x_354]) (st := [.inl x_350]) (ci := 12) (n := 2) (mc := 0) (ms := 0) (bc := (bc + 2)) (bs := (bs + 81)) (yc := kX12_night) (q := (RX12, TX12, 34)) (b := a_357) (pc := 1380) dL_law_1380 sc_X12_night ml_L_153 im_X12_night se_X12_night rfl rfl rfl (Nat.le_of_ble_eq_true rfl) hP415 (fun x_355 h_356 hP416 => ?_)
                                                                        clear hP415
                                                                        refine bz_icmp_eq (tgt := 1777) (pc := 1383) dL_law_1383 rfl (fun c => ?_) (fun c => ?_)
                                                                        · have hP417 := hP416.1 c
                                                                          clear hP416
                                                                          refine bz_s_iinc (pc := 1777) dL_law_1777 (Nat.le_of_ble_eq_true rfl) rfl rfl [some (.inr (some a_9)), some (.inr (some a_352)), some (.inr (some a_357)), some (.inl (x3 + 6))] rfl ?_
                                                                          refine bz_goto (tgt := 18) (pc := 1780) dL_law_1780 rfl ?_
                                                                          exact bz_more (by omega) (by omega) hP417
                                                                        · have hP418 := hP416.2 c
                                                                          clear hP416
                                                                          refine bz_iconst (pc := 1386) dL_law_1386 ci_0 ?_
                                                                          exact bz_retI (pc := 1387) dL_law_1387 rfl rfl hP418
                                                                      · have hP419 := hP407.2 c
                                                                        clear hP407
                                                                        refine ⟨fun c => ?_, fun c => ?_⟩
                                                                        · have hP420 := hP419.1 c
                                                                          clear hP419
                                                                          show bz_J G κ kL_law (d + 1) F (bc + 2) (bs + 81) 1388 [some (.inr (some a_9)), some (.inr r1), some (.inr r2), some (.inl x3)] [] h
                                                                          refine bz_aload_n (pc := 1388) dL_law_1388 rfl rfl ?_
                                                                          refine bz_aload_n (pc := 1389) dL_law_1389 rfl rfl ?_
                                                                          refine bz_iload_n (pc := 1390) dL_law_1390 rfl rfl ?_
                                                                          refine bz_iconst (pc := 1391) dL_law_1391 ci_1 ?_
                                                                          refine bz_iadd (pc := 1392) dL_law_1392 ?_
                                                                          refine bz_rw_rA (pc := 1393) dL_law_1393 hP420 (fun x_358 hP421 => ?_)
                                                                          clear hP420
                                                                          refine bz_aload_n (pc := 1394) dL_law_1394 rfl rfl ?_
                                                                          refine bz_iload_n (pc := 1395) dL_law_1395 rfl rfl ?_
                                                                          refine bz_iconst (pc := 1396) dL_law_1396 ci_2 ?_
                                                                          refine bz_iadd (pc := 1397) dL_law_1397 ?_
                                                                          refine bz_rw_rA (pc := 1398) dL_law_1398 hP421 (fun x_359 hP422 => ?_)
                                                                          clear hP421
                                                                          obtain ⟨a_362, rfl, hP423⟩ := hP422
                                                                          refine bz_kIV (as := [.inl x_358, .inl x_359]) (st := []) (ci := 11) (n := 2) (mc := 0) (ms := 0) (bc := (bc + 2)) (bs := (bs + 81)) (yc := kX11_whom) (q := (RX11, TX11, 9)) (b := a_362) (pc := 1399) dL_law_1399 sc_X11_whom ml_L_154 im_X11_whom se_X11_whom rfl rfl rfl (Nat.le_of_ble_eq_true rfl) hP423 (fun x_360 h_361 hP424 => ?_)
                                                                          clear hP423
                                                                          refine bz_aload_n (pc := 1402) dL_law_1402 rfl rfl ?_
                                                                          refine bz_aload_n (pc := 1403) dL_law_1403 rfl rfl ?_
                                                                          refine bz_iload_n (pc := 1404) dL_law_1404 rfl rfl ?_
                                                                          refine bz_iconst (pc := 1405) dL_law_1405 ci_1 ?_
                                                                          refine bz_iadd (pc := 1406) dL_law_1406 ?_
                                                                          refine bz_rw_rA (pc := 1407) dL_law_1407 hP424 (fun x_363 hP425 => ?_)
                                                                          clear hP424
                                                                          refine bz_aload_n (pc := 1408) dL_law_1408 rfl rfl ?_
                                                                          refine bz_iload_n (pc := 1409) dL_law_1409 rfl rfl ?_
                                                                          refine bz_iconst (pc := 1410) dL_law_1410 ci_2 ?_
                                                                          refine bz_iadd (pc := 1411) dL_law_1411 ?_
                                                                          refine bz_rw_rA (pc := 1412) dL_law_1412 hP425 (fun x_364 hP426 => ?_)
                                                                          clear hP425
                                                                          obtain ⟨a_367, rfl, hP427⟩ := hP426
                                                                          refine bz_kIV (as := [.inl x_363, .inl x_364]) (st := [.inl x_360]) (ci := 12) (n := 2) (mc := 0) (ms := 0) (bc := (bc + 2)) (bs := (bs + 81)) (yc := kX12_whom) (q := (RX12, TX12, 34)) (b := a_367) (pc := 1413) dL_law_1413 sc_X12_whom ml_L_157 im_X12_whom se_X12_whom rfl rfl rfl (Nat.le_of_ble_eq_true rfl) hP427 (fun x_365 h_366 hP428 => ?_)
                                                                          clear hP427
                                                                          refine bz_icmp_eq (tgt := 1777) (pc := 1416) dL_law_1416 rfl (fun c => ?_) (fun c => ?_)
                                                                          · have hP429 := hP428.1 c
                                                                            clear hP428
                                                                            refine bz_s_iinc (pc := 1777) dL_law_1777 (Nat.le_of_ble_eq_true rfl) rfl rfl [some (.inr (some a_9)), some (.inr (some a_362)), some (.inr (some a_367)), some (.inl (x3 + 6))] rfl ?_
                                                                            refine bz_goto (tgt := 18) (pc := 1780) dL_law_1780 rfl ?_
                                                                            exact bz_more (by omega) (by omega) hP429
                                                                          · have hP430 := hP428.2 c
                                                                            clear hP428
                                                                            refine bz_iconst (pc := 1419) dL_law_1419 ci_0 ?_
                                                                            exact bz_retI (pc := 1420) dL_law_1420 rfl rfl hP430
                                                                        · have hP431 := hP419.2 c
                                                                          clear hP419
                                                                          refine ⟨fun c => ?_, fun c => ?_⟩
                                                                          · have hP432 := hP431.1 c
                                                                            clear hP431
                                                                            show bz_J G κ kL_law (d + 1) F (bc + 2) (bs + 81) 1421 [some (.inr (some a_9)), some (.inr r1), some (.inr r2), some (.inl x3)] [] h
                                                                            refine bz_aload_n (pc := 1421) dL_law_1421 rfl rfl ?_
                                                                            refine bz_aload_n (pc := 1422) dL_law_1422 rfl rfl ?_
                                                                            refine bz_iload_n (pc := 1423) dL_law_1423 rfl rfl ?_
                                                                            refine bz_iconst (pc := 1424) dL_law_1424 ci_1 ?_
                                                                            refine bz_iadd (pc := 1425) dL_law_1425 ?_
                                                                            refine bz_rw_rA (pc := 1426) dL_law_1426 hP432 (fun x_368 hP433 => ?_)
                                                                            clear hP432
                                                                            refine bz_aload_n (pc := 1427) dL_law_1427 rfl rfl ?_
                                                                            refine bz_iload_n (pc := 1428) dL_law_1428 rfl rfl ?_
                                                                            refine bz_iconst (pc := 1429) dL_law_1429 ci_2 ?_
                                                                            refine bz_iadd (pc := 1430) dL_law_1430 ?_
                                                                            refine bz_rw_rA (pc := 1431) dL_law_1431 hP433 (fun x_369 hP434 => ?_)
                                                                            clear hP433
                                                                            obtain ⟨a_372, rfl, hP435⟩ := hP434
                                                                            refine bz_kIV (as := [.inl x_368, .inl x_369]) (st := []) (ci := 11) (n := 2) (mc := 0) (ms := 0) (bc := (bc + 2)) (bs := (bs + 81)) (yc := kX11_hold) (q := (RX11, TX11, 9)) (b := a_372) (pc := 1432) dL_law_1432 sc_X11_hold ml_L_158 im_X11_hold se_X11_hold rfl rfl rfl (Nat.le_of_ble_eq_true rfl) hP435 (fun x_370 h_371 hP436 => ?_)
                                                                            clear hP435
                                                                            refine bz_aload_n (pc := 1435) dL_law_1435 rfl rfl ?_
                                                                            refine bz_aload_n (pc := 1436) dL_law_1436 rfl rfl ?_
                                                                            refine bz_iload_n (pc := 1437) dL_law_1437 rfl rfl ?_
                                                                            refine bz_iconst (pc := 1438) dL_law_1438 ci_1 ?_
                                                                            refine bz_iadd (pc := 1439) dL_law_1439 ?_
                                                                            refine bz_rw_rA (pc := 1440) dL_law_1440 hP436 (fun x_373 hP437 => ?_)
                                                                            clear hP436
                                                                            refine bz_aload_n (pc := 1441) dL_law_1441 rfl rfl ?_
                                                                            refine bz_iload_n (pc := 1442) dL_law_1442 rfl rfl ?_
                                                                            refine bz_iconst (pc := 1443) dL_law_1443 ci_2 ?_
                                                                            refine bz_iadd (pc := 1444) dL_law_1444 ?_
                                                                            refine bz_rw_rA (pc := 1445) dL_law_1445 hP437 (fun x_374 hP438 => ?_)
                                                                            clear hP437
                                                                            obtain ⟨a_377, rfl, hP439⟩ := hP438
                                                                            refine bz_kIV (as := [.inl x_373, .inl x_374]) (st := [.inl x_370]) (ci := 12) (n := 2) (mc := 0) (ms := 0) (bc := (bc + 2)) (bs := (bs + 81)) (yc := kX12_hold) (q := (RX12, TX12, 34)) (b := a_377) (pc := 1446) dL_law_1446 sc_X12_hold ml_L_161 im_X12_hold se_X12_hold rfl rfl rfl (Nat.le_of_ble_eq_true rfl) hP439 (fun x_375 h_376 hP440 => ?_)
                                                                            clear hP439
                                                                            refine bz_icmp_eq (tgt := 1777) (pc := 1449) dL_law_1449 rfl (fun c => ?_) (fun c => ?_)
                                                                            · have hP441 := hP440.1 c
                                                                              clear hP440
                                                                              refine bz_s_iinc (pc := 1777) dL_law_1777 (Nat.le_of_ble_eq_true rfl) rfl rfl [some (.inr (some a_9)), some (.inr (some a_372)), some (.inr (some a_377)), some (.inl (x3 + 6))] rfl ?_
                                                                              refine bz_goto (tgt := 18) (pc := 1780) dL_law_1780 rfl ?_
                                                                              exact bz_more (by omega) (by omega) hP441
                                                                            · have hP442 := hP440.2 c
                                                                              clear hP440
                                                                              refine bz_iconst (pc := 1452) dL_law_1452 ci_0 ?_
                                                                              exact bz_retI (pc := 1453) dL_law_1453 rfl rfl hP442
                                                                          · have hP443 := hP431.2 c
                                                                            clear hP431
                                                                            refine ⟨fun c => ?_, fun c => ?_⟩
                                                                            · have hP444 := hP443.1 c
                                                                              clear hP443
                                                                              show bz_J G κ kL_law (d + 1) F (bc + 2) (bs + 81) 1454 [some (.inr (some a_9)), some (.inr r1), some (.inr r2), some (.inl x3)] [] h
                                                                              refine bz_aload_n (pc := 1454) dL_law_1454 rfl rfl ?_
                                                                              refine bz_aload_n (pc := 1455) dL_law_1455 rfl rfl ?_
                                                                              refine bz_iload_n (pc := 1456) dL_law_1456 rfl rfl ?_
                                                                              refine bz_iconst (pc := 1457) dL_law_1457 ci_1 ?_
                                                                              refine bz_iadd (pc := 1458) dL_law_1458 ?_
                                                                              refine bz_rw_rA (pc := 1459) dL_law_1459 hP444 (fun x_378 hP445 => ?_)
                                                                              clear hP444
                                                                              refine bz_aload_n (pc := 1460) dL_law_1460 rfl rfl ?_
                                                                              refine bz_iload_n (pc := 1461) dL_law_1461 rfl rfl ?_
                                                                              refine bz_iconst (pc := 1462) dL_law_1462 ci_2 ?_
                                                                              refine bz_iadd (pc := 1463) dL_law_1463 ?_
                                                                              refine bz_rw_rA (pc := 1464) dL_law_1464 hP445 (fun x_379 hP446 => ?_)
                                                                              clear hP445
                                                                              obtain ⟨a_382, rfl, hP447⟩ := hP446
                                                                              refine bz_kIV (as := [.inl x_378, .inl x_379]) (st := []) (ci := 11) (n := 2) (mc := 0) (ms := 0) (bc := (bc + 2)) (bs := (bs + 81)) (yc := kX11_as) (q := (RX11, TX11, 9)) (b := a_382) (pc := 1465) dL_law_1465 sc_X11_as ml_L_162 im_X11_as se_X11_as rfl rfl rfl (Nat.le_of_ble_eq_true rfl) hP447 (fun x_380 h_381 hP448 => ?_)
                                                                              clear hP447
                                                                              refine bz_aload_n (pc := 1468) dL_law_1468 rfl rfl ?_
                                                                              refine bz_aload_n (pc := 1469) dL_law_1469 rfl rfl ?_
                                                                              refine bz_iload_n (pc := 1470) dL_law_1470 rfl rfl ?_
                                                                              refine bz_iconst (pc := 1471) dL_law_1471 ci_1 ?_
                                                                              refine bz_iadd (pc := 1472) dL_law_1472 ?_
                                                                              refine bz_rw_rA (pc := 1473) dL_law_1473 hP448 (fun x_383 hP449 => ?_)
                                                                              clear hP448
                                                                              refine bz_aload_n (pc := 1474) dL_law_1474 rfl rfl ?_
                                                                              refine bz_iload_n (pc := 1475) dL_law_1475 rfl rfl ?_
                                                                              refine bz_iconst (pc := 1476) dL_law_1476 ci_2 ?_
                                                                              refine bz_iadd (pc := 1477) dL_law_1477 ?_
                                                                              refine bz_rw_rA (pc := 1478) dL_law_1478 hP449 (fun x_384 hP450 => ?_)
                                                                              clear hP449
                                                                              obtain ⟨a_387, rfl, hP451⟩ := hP450
                                                                              refine bz_kIV (as := [.inl x_383, .inl x_384]) (st := [.inl x_380]) (ci := 12) (n := 2) (mc := 0) (ms := 0) (bc := (bc + 2)) (bs := (bs + 81)) (yc := kX12_as) (q := (RX12, TX12, 34)) (b := a_387) (pc := 1479) dL_law_1479 sc_X12_as ml_L_165 im_X12_as se_X12_as rfl rfl rfl (Nat.le_of_ble_eq_true rfl) hP451 (fun x_385 h_386 hP452 => ?_)
                                                                              clear hP451
                                                                              refine bz_icmp_eq (tgt := 1777) (pc := 1482) dL_law_1482 rfl (fun c => ?_) (fun c => ?_)
                                                                              · have hP453 := hP452.1 c
                                                                                clear hP452
                                                                                refine bz_s_iinc (pc := 1777) dL_law_1777 (Nat.le_of_ble_eq_true rfl) rfl rfl [some (.inr (some a_9)), some (.inr (some a_382)), some (.inr (some a_387)), some (.inl (x3 + 6))] rfl ?_
                                                                                refine bz_goto (tgt := 18) (pc := 1780) dL_law_1780 rfl ?_
                                                                                exact bz_more (by omega) (by omega) hP453
                                                                              · have hP454 := hP452.2 c
                                                                                clear hP452
                                                                                refine bz_iconst (pc := 1485) dL_law_1485 ci_0 ?_
                                                                                exact bz_retI (pc := 1486) dL_law_1486 rfl rfl hP454
                                                                            · have hP455 := hP443.2 c
                                                                              clear hP443
                                                                              refine ⟨fun c => ?_, fun c => ?_⟩
                                                                              · have hP456 := hP455.1 c
                                                                                clear hP455
                                                                                show bz_J G κ kL_law (d + 1) F (bc + 2) (bs + 81) 1487 [some (.inr (some a_9)), some (.inr r1), some (.inr r2), some (.inl x3)] [] h
                                                                                refine bz_aload_n (pc := 1487) dL_law_1487 rfl rfl ?_
                                                                                refine bz_aload_n (pc := 1488) dL_law_1488 rfl rfl ?_
                                                                                refine bz_iload_n (pc := 1489) dL_law_1489 rfl rfl ?_
                                                                                refine bz_iconst (pc := 1490) dL_law_1490 ci_1 ?_
                                                                                refine bz_iadd (pc := 1491) dL_law_1491 ?_
                                                                                refine bz_rw_rA (pc := 1492) dL_law_1492 hP456 (fun x_388 hP457 => ?_)
                                                                                clear hP456
                                                                                refine bz_aload_n (pc := 1493) dL_law_1493 rfl rfl ?_
                                                                                refine bz_iload_n (pc := 1494) dL_law_1494 rfl rfl ?_
                                                                                refine bz_iconst (pc := 1495) dL_law_1495 ci_2 ?_
                                                                                refine bz_iadd (pc := 1496) dL_law_1496 ?_
                                                                                refine bz_rw_rA (pc := 1497) dL_law_1497 hP457 (fun x_389 hP458 => ?_)
                                                                                clear hP457
                                                                                refine bz_aload_n (pc := 1498) dL_law_1498 rfl rfl ?_
                                                                                refine bz_iload_n (pc := 1499) dL_law_1499 rfl rfl ?_
                                                                                refine bz_iconst (pc := 1500) dL_law_1500 ci_3 ?_
                                                                                refine bz_iadd (pc := 1501) dL_law_1501 ?_
                                                                                refine bz_rw_rA (pc := 1502) dL_law_1502 hP458 (fun x_390 hP459 => ?_)
                                                                                clear hP458
                                                                                obtain ⟨a_393, rfl, hP460⟩ := hP459
                                                                                refine bz_kIV (as := [.inl x_388, .inl x_389, .inl x_390]) (st := []) (ci := 11) (n := 3) (mc := 0) (ms := 0) (bc := (bc + 2)) (bs := (bs + 81)) (yc := kX11_sheet) (q := (RX11, TX11, 9)) (b := a_393) (pc := 1503) dL_law_1503 sc_X11_sheet ml_L_166 im_X11_sheet se_X11_sheet rfl rfl rfl (Nat.le_of_ble_eq_true rfl) hP460 (fun x_391 h_392 hP461 => ?_)
                                                                                clear hP460
                                                                                refine bz_aload_n (pc := 1506) dL_law_1506 rfl rfl ?_
                                                                                refine bz_aload_n (pc := 1507) dL_law_1507 rfl rfl ?_
                                                                                refine bz_iload_n (pc := 1508) dL_law_1508 rfl rfl ?_
                                                                                refine bz_iconst (pc := 1509) dL_law_1509 ci_1 ?_
                                                                                refine bz_iadd (pc := 1510) dL_law_1510 ?_
                                                                                refine bz_rw_rA (pc := 1511) dL_law_1511 hP461 (fun x_394 hP462 => ?_)
                                                                                clear hP461
                                                                                refine bz_aload_n (pc := 1512) dL_law_1512 rfl rfl ?_
                                                                                refine bz_iload_n (pc := 1513) dL_law_1513 rfl rfl ?_
                                                                                refine bz_iconst (pc := 1514) dL_law_1514 ci_2 ?_
                                                                                refine bz_iadd (pc := 1515) dL_law_1515 ?_
                                                                                refine bz_rw_rA (pc := 1516) dL_law_1516 hP462 (fun x_395 hP463 => ?_)
                                                                                clear hP462
                                                                                refine bz_aload_n (pc := 1517) dL_law_1517 rfl rfl ?_
                                                                                refine bz_iload_n (pc := 1518) dL_law_1518 rfl rfl ?_
                                                                                refine bz_iconst (pc := 1519) dL_law_1519 ci_3 ?_
                                                                                refine bz_iadd (pc := 1520) dL_law_1520 ?_
                                                                                refine bz_rw_rA (pc := 1521) dL_law_1521 hP463 (fun x_396 hP464 => ?_)
                                                                                clear hP463
                                                                                obtain ⟨a_399, rfl, hP465⟩ := hP464
                                                                                refine bz_kIV (as := [.inl x_394, .inl x_395, .inl x_396]) (st := [.inl x_391]) (ci := 12) (n := 3) (mc := 0) (ms := 0) (bc := (bc + 2)) (bs := (bs + 81)) (yc := kX12_sheet) (q := (RX12, TX12, 34)) (b := a_399) (pc := 1522) dL_law_1522 sc_X12_sheet ml_L_169 im_X12_sheet se_X12_sheet rfl rfl rfl (Nat.le_of_ble_eq_true rfl) hP465 (fun x_397 h_398 hP466 => ?_)
                                                                                clear hP465
                                                                                refine bz_icmp_eq (tgt := 1777) (pc := 1525) dL_law_1525 rfl (fun c => ?_) (fun c => ?_)
                                                                                · have hP467 := hP466.1 c
                                                                                  clear hP466
                                                                                  refine bz_s_iinc (pc := 1777) dL_law_1777 (Nat.le_of_ble_eq_true rfl) rfl rfl [some (.inr (some a_9)), some (.inr (some a_393)), some (.inr (some a_399)), some (.inl (x3 + 6))] rfl ?_
                                                                                  refine bz_goto (tgt := 18) (pc := 1780) dL_law_1780 rfl ?_
                                                                                  exact bz_more (by omega) (by omega) hP467
                                                                                · have hP468 := hP466.2 c
                                                                                  clear hP466
                                                                                  refine bz_iconst (pc := 1528) dL_law_1528 ci_0 ?_
                                                                                  exact bz_retI (pc := 1529) dL_law_1529 rfl rfl hP468
                                                                              · have hP469 := hP455.2 c
                                                                                clear hP455
                                                                                refine ⟨fun c => ?_, fun c => ?_⟩
                                                                                · have hP470 := hP469.1 c
                                                                                  clear hP469
                                                                                  show bz_J G κ kL_law (d + 1) F (bc + 2) (bs + 81) 1530 [some (.inr (some a_9)), some (.inr r1), some (.inr r2), some (.inl x3)] [] h
                                                                                  refine bz_aload_n (pc := 1530) dL_law_1530 rfl rfl ?_
                                                                                  refine bz_aload_n (pc := 1531) dL_law_1531 rfl rfl ?_
                                                                                  refine bz_iload_n (pc := 1532) dL_law_1532 rfl rfl ?_
                                                                                  refine bz_iconst (pc := 1533) dL_law_1533 ci_1 ?_
                                                                                  refine bz_iadd (pc := 1534) dL_law_1534 ?_
                                                                                  refine bz_rw_rA (pc := 1535) dL_law_1535 hP470 (fun x_400 hP471 => ?_)
                                                                                  clear hP470
                                                                                  refine bz_aload_n (pc := 1536) dL_law_1536 rfl rfl ?_
                                                                                  refine bz_iload_n (pc := 1537) dL_law_1537 rfl rfl ?_
                                                                                  refine bz_iconst (pc := 1538) dL_law_1538 ci_2 ?_
                                                                                  refine bz_iadd (pc := 1539) dL_law_1539 ?_
                                                                                  refine bz_rw_rA (pc := 1540) dL_law_1540 hP471 (fun x_401 hP472 => ?_)
                                                                                  clear hP471
                                                                                  refine bz_aload_n (pc := 1541) dL_law_1541 rfl rfl ?_
                                                                                  refine bz_iload_n (pc := 1542) dL_law_1542 rfl rfl ?_
                                                                                  refine bz_iconst (pc := 1543) dL_law_1543 ci_3 ?_
                                                                                  refine bz_iadd (pc := 1544) dL_law_1544 ?_
                                                                                  refine bz_rw_rA (pc := 1545) dL_law_1545 hP472 (fun x_402 hP473 => ?_)
                                                                                  clear hP472
                                                                                  obtain ⟨a_405, rfl, hP474⟩ := hP473
                                                                                  refine bz_kIV (as := [.inl x_400, .inl x_401, .inl x_402]) (st := []) (ci := 11) (n := 3) (mc := 0) (ms := 0) (bc := (bc + 2)) (bs := (bs + 81)) (yc := kX11_write) (q := (RX11, TX11, 9)) (b := a_405) (pc := 1546) dL_law_1546 sc_X11_write ml_L_170 im_X11_write se_X11_write rfl rfl rfl (Nat.le_of_ble_eq_true rfl) hP474 (fun x_403 h_404 hP475 => ?_)
                                                                                  clear hP474
                                                                                  refine bz_aload_n (pc := 1549) dL_law_1549 rfl rfl ?_
                                                                                  refine bz_aload_n (pc := 1550) dL_law_1550 rfl rfl ?_
                                                                                  refine bz_iload_n (pc := 1551) dL_law_1551 rfl rfl ?_
                                                                                  refine bz_iconst (pc := 1552) dL_law_1552 ci_1 ?_
                                                                                  refine bz_iadd (pc := 1553) dL_law_1553 ?_
                                                                                  refine bz_rw_rA (pc := 1554) dL_law_1554 hP475 (fun x_406 hP476 => ?_)
                                                                                  clear hP475
                                                                                  refine bz_aload_n (pc := 1555) dL_law_1555 rfl rfl ?_
                                                                                  refine bz_iload_n (pc := 1556) dL_law_1556 rfl rfl ?_
                                                                                  refine bz_iconst (pc := 1557) dL_law_1557 ci_2 ?_
                                                                                  refine bz_iadd (pc := 1558) dL_law_1558 ?_
                                                                                  refine bz_rw_rA (pc := 1559) dL_law_1559 hP476 (fun x_407 hP477 => ?_)
                                                                                  clear hP476
                                                                                  refine bz_aload_n (pc := 1560) dL_law_1560 rfl rfl ?_
                                                                                  refine bz_iload_n (pc := 1561) dL_law_1561 rfl rfl ?_
                                                                                  refine bz_iconst (pc := 1562) dL_law_1562 ci_3 ?_
                                                                                  refine bz_iadd (pc := 1563) dL_law_1563 ?_
                                                                                  refine bz_rw_rA (pc := 1564) dL_law_1564 hP477 (fun x_408 hP478 => ?_)
                                                                                  clear hP477
                                                                                  obtain ⟨a_411, rfl, hP479⟩ := hP478
                                                                                  refine bz_kIV (as := [.inl x_406, .inl x_407, .inl x_408]) (st := [.inl x_403]) (ci := 12) (n := 3) (mc := 0) (ms := 0) (bc := (bc + 2)) (bs := (bs + 81)) (yc := kX12_write) (q := (RX12, TX12, 34)) (b := a_411) (pc := 1565) dL_law_1565 sc_X12_write ml_L_173 im_X12_write se_X12_write rfl rfl rfl (Nat.le_of_ble_eq_true rfl) hP479 (fun x_409 h_410 hP480 => ?_)
                                                                                  clear hP479
                                                                                  refine bz_icmp_eq (tgt := 1777) (pc := 1568) dL_law_1568 rfl (fun c => ?_) (fun c => ?_)
                                                                                  · have hP481 := hP480.1 c
                                                                                    clear hP480
                                                                                    refine bz_s_iinc (pc := 1777) dL_law_1777 (Nat.le_of_ble_eq_true rfl) rfl rfl [some (.inr (some a_9)), some (.inr (some a_405)), some (.inr (some a_411)), some (.inl (x3 + 6))] rfl ?_
                                                                                    refine bz_goto (tgt := 18) (pc := 1780) dL_law_1780 rfl ?_
                                                                                    exact bz_more (by omega) (by omega) hP481
                                                                                  · have hP482 := hP480.2 c
                                                                                    clear hP480
                                                                                    refine bz_iconst (pc := 1571) dL_law_1571 ci_0 ?_
                                                                                    exact bz_retI (pc := 1572) dL_law_1572 rfl rfl hP482
                                                                                · have hP483 := hP469.2 c
                                                                                  clear hP469
                                                                                  refine ⟨fun c => ?_, fun c => ?_⟩
                                                                                  · have hP484 := hP483.1 c
                                                                                    clear hP483
                                                                                    show bz_J G κ kL_law (d + 1) F (bc + 2) (bs + 81) 1573 [some (.inr (some a_9)), some (.inr r1), some (.inr r2), some (.inl x3)] [] h
                                                                                    refine bz_aload_n (pc := 1573) dL_law_1573 rfl rfl ?_
                                                                                    refine bz_aload_n (pc := 1574) dL_law_1574 rfl rfl ?_
                                                                                    refine bz_iload_n (pc := 1575) dL_law_1575 rfl rfl ?_
                                                                                    refine bz_iconst (pc := 1576) dL_law_1576 ci_1 ?_
                                                                                    refine bz_iadd (pc := 1577) dL_law_1577 ?_
                                                                                    refine bz_rw_rA (pc := 1578) dL_law_1578 hP484 (fun x_412 hP485 => ?_)
                                                                                    clear hP484
                                                                                    refine bz_aload_n (pc := 1579) dL_law_1579 rfl rfl ?_
                                                                                    refine bz_iload_n (pc := 1580) dL_law_1580 rfl rfl ?_
                                                                                    refine bz_iconst (pc := 1581) dL_law_1581 ci_2 ?_
                                                                                    refine bz_iadd (pc := 1582) dL_law_1582 ?_
                                                                                    refine bz_rw_rA (pc := 1583) dL_law_1583 hP485 (fun x_413 hP486 => ?_)
                                                                                    clear hP485
                                                                                    refine bz_aload_n (pc := 1584) dL_law_1584 rfl rfl ?_
                                                                                    refine bz_iload_n (pc := 1585) dL_law_1585 rfl rfl ?_
                                                                                    refine bz_iconst (pc := 1586) dL_law_1586 ci_3 ?_
                                                                                    refine bz_iadd (pc := 1587) dL_law_1587 ?_
                                                                                    refine bz_rw_rA (pc := 1588) dL_law_1588 hP486 (fun x_414 hP487 => ?_)
                                                                                    clear hP486
                                                                                    refine bz_aload_n (pc := 1589) dL_law_1589 rfl rfl ?_
                                                                                    refine bz_iload_n (pc := 1590) dL_law_1590 rfl rfl ?_
                                                                                    refine bz_iconst (pc := 1591) dL_law_1591 ci_4 ?_
                                                                                    refine bz_iadd (pc := 1592) dL_law_1592 ?_
                                                                                    refine bz_rw_rA (pc := 1593) dL_law_1593 hP487 (fun x_415 hP488 => ?_)
                                                                                    clear hP487
                                                                                    refine bz_aload_n (pc := 1594) dL_law_1594 rfl rfl ?_
                                                                                    refine bz_iload_n (pc := 1595) dL_law_1595 rfl rfl ?_
                                                                                    refine bz_iconst (pc := 1596) dL_law_1596 ci_5 ?_
                                                                                    refine bz_iadd (pc := 1597) dL_law_1597 ?_
                                                                                    refine bz_rw_rA (pc := 1598) dL_law_1598 hP488 (fun x_416 hP489 => ?_)
                                                                                    clear hP488
                                                                                    obtain ⟨a_419, rfl, hP490⟩ := hP489
                                                                                    refine bz_kIV (as := [.inl x_412, .inl x_413, .inl x_414, .inl x_415, .inl x_416]) (st := []) (ci := 11) (n := 5) (mc := 0) (ms := 0) (bc := (bc + 2)) (bs := (bs + 81)) (yc := kX11_copy) (q := (RX11, TX11, 9)) (b := a_419) (pc := 1599) dL_law_1599 sc_X11_copy ml_L_174 im_X11_copy se_X11_copy rfl rfl rfl (Nat.le_of_ble_eq_true rfl) hP490 (fun x_417 h_418 hP491 => ?_)
                                                                                    clear hP490
                                                                                    refine bz_aload_n (pc := 1602) dL_law_1602 rfl rfl ?_
                                                                                    refine bz_aload_n (pc := 1603) dL_law_1603 rfl rfl ?_
                                                                                    refine bz_iload_n (pc := 1604) dL_law_1604 rfl rfl ?_
                                                                                    refine bz_iconst (pc := 1605) dL_law_1605 ci_1 ?_
                                                                                    refine bz_iadd (pc := 1606) dL_law_1606 ?_
                                                                                    refine bz_rw_rA (pc := 1607) dL_law_1607 hP491 (fun x_420 hP492 => ?_)
                                                                                    clear hP491
                                                                                    refine bz_aload_n (pc := 1608) dL_law_1608 rfl rfl ?_
                                                                                    refine bz_iload_n (pc := 1609) dL_law_1609 rfl rfl ?_
                                                                                    refine bz_iconst (pc := 1610) dL_law_1610 ci_2 ?_
                                                                                    refine bz_iadd (pc := 1611) dL_law_1611 ?_
                                                                                    refine bz_rw_rA (pc := 1612) dL_law_1612 hP492 (fun x_421 hP493 => ?_)
                                                                                    clear hP492
                                                                                    refine bz_aload_n (pc := 1613) dL_law_1613 rfl rfl ?_
                                                                                    refine bz_iload_n (pc := 1614) dL_law_1614 rfl rfl ?_
                                                                                    refine bz_iconst (pc := 1615) dL_law_1615 ci_3 ?_
                                                                                    refine bz_iadd (pc := 1616) dL_law_1616 ?_
                                                                                    refine bz_rw_rA (pc := 1617) dL_law_1617 hP493 (fun x_422 hP494 => ?_)
                                                                                    clear hP493
                                                                                    refine bz_aload_n (pc := 1618) dL_law_1618 rfl rfl ?_
                                                                                    refine bz_iload_n (pc := 1619) dL_law_1619 rfl rfl ?_
                                                                                    refine bz_iconst (pc := 1620) dL_law_1620 ci_4 ?_
                                                                                    refine bz_iadd (pc := 1621) dL_law_1621 ?_
                                                                                    refine bz_rw_rA (pc := 1622) dL_law_1622 hP494 (fun x_423 hP495 => ?_)
                                                                                    clear hP494
                                                                                    refine bz_aload_n (pc := 1623) dL_law_1623 rfl rfl ?_
                                                                                    refine bz_iload_n (pc := 1624) dL_law_1624 rfl rfl ?_
                                                                                    refine bz_iconst (pc := 1625) dL_law_1625 ci_5 ?_
                                                                                    refine bz_iadd (pc := 1626) dL_law_1626 ?_
                                                                                    refine bz_rw_rA (pc := 1627) dL_law_1627 hP495 (fun x_424 hP496 => ?_)
                                                                                    clear hP495
                                                                                    obtain ⟨a_427, rfl, hP497⟩ := hP496
                                                                                    refine bz_kIV (as := [.inl x_420, .inl x_421, .inl x_422, .inl x_423, .inl x_424]) (st := [.inl x_417]) (ci := 12) (n := 5) (mc := 0) (ms := 0) (bc := (bc + 2)) (bs := (bs + 81)) (yc := kX12_copy) (q := (RX12, TX12, 34)) (b := a_427) (pc := 1628) dL_law_1628 sc_X12_copy ml_L_178 im_X12_copy se_X12_copy rfl rfl rfl (Nat.le_of_ble_eq_true rfl) hP497 (fun x_425 h_426 hP498 => ?_)
                                                                                    clear hP497
                                                                                    refine bz_icmp_eq (tgt := 1777) (pc := 1631) dL_law_1631 rfl (fun c => ?_) (fun c => ?_)
                                                                                    · have hP499 := hP498.1 c
                                                                                      clear hP498
                                                                                      refine bz_s_iinc (pc := 1777) dL_law_1777 (Nat.le_of_ble_eq_true rfl) rfl rfl [some (.inr (some a_9)), some (.inr (some a_419)), some (.inr (some a_427)), some (.inl (x3 + 6))] rfl ?_
                                                                                      refine bz_goto (tgt := 18) (pc := 1780) dL_law_1780 rfl ?_
                                                                                      exact bz_more (by omega) (by omega) hP499
                                                                                    · have hP500 := hP498.2 c
                                                                                      clear hP498
                                                                                      refine bz_iconst (pc := 1634) dL_law_1634 ci_0 ?_
                                                                                      exact bz_retI (pc := 1635) dL_law_1635 rfl rfl hP500
                                                                                  · have hP501 := hP483.2 c
                                                                                    clear hP483
                                                                                    refine ⟨fun c => ?_, fun c => ?_⟩
                                                                                    · have hP502 := hP501.1 c
                                                                                      clear hP501
                                                                                      show bz_J G κ kL_law (d + 1) F (bc + 2) (bs + 81) 1636 [some (.inr (some a_9)), some (.inr r1), some (.inr r2), some (.inl x3)] [] h
                                                                                      refine bz_aload_n (pc := 1636) dL_law_1636 rfl rfl ?_
                                                                                      refine bz_aload_n (pc := 1637) dL_law_1637 rfl rfl ?_
                                                                                      refine bz_iload_n (pc := 1638) dL_law_1638 rfl rfl ?_
                                                                                      refine bz_iconst (pc := 1639) dL_law_1639 ci_1 ?_
                                                                                      refine bz_iadd (pc := 1640) dL_law_1640 ?_
                                                                                      refine bz_rw_rA (pc := 1641) dL_law_1641 hP502 (fun x_428 hP503 => ?_)
                                                                                      clear hP502
                                                                                      obtain ⟨a_431, rfl, hP504⟩ := hP503
                                                                                      refine bz_kIV (as := [.inl x_428]) (st := []) (ci := 11) (n := 1) (mc := 0) (ms := 0) (bc := (bc + 2)) (bs := (bs + 81)) (yc := kX11_roads) (q := (RX11, TX11, 9)) (b := a_431) (pc := 1642) dL_law_1642 sc_X11_roads ml_L_179 im_X11_roads se_X11_roads rfl rfl rfl (Nat.le_of_ble_eq_true rfl) hP504 (fun x_429 h_430 hP505 => ?_)
                                                                                      clear hP504
                                                                                      refine bz_aload_n (pc := 1645) dL_law_1645 rfl rfl ?_
                                                                                      refine bz_aload_n (pc := 1646) dL_law_1646 rfl rfl ?_
                                                                                      refine bz_iload_n (pc := 1647) dL_law_1647 rfl rfl ?_
                                                                                      refine bz_iconst (pc := 1648) dL_law_1648 ci_1 ?_
                                                                                      refine bz_iadd (pc := 1649) dL_law_1649 ?_
                                                                                      refine bz_rw_rA (pc := 1650) dL_law_1650 hP505 (fun x_432 hP506 => ?_)
                                                                                      clear hP505
                                                                                      obtain ⟨a_435, rfl, hP507⟩ := hP506
                                                                                      refine bz_kIV (as := [.inl x_432]) (st := [.inl x_429]) (ci := 12) (n := 1) (mc := 0) (ms := 0) (bc := (bc + 2)) (bs := (bs + 81)) (yc := kX12_roads) (q := (RX12, TX12, 34)) (b := a_435) (pc := 1651) dL_law_1651 sc_X12_roads ml_L_182 im_X12_roads se_X12_roads rfl rfl rfl (Nat.le_of_ble_eq_true rfl) hP507 (fun x_433 h_434 hP508 => ?_)
                                                                                      clear hP507
                                                                                      refine bz_icmp_eq (tgt := 1777) (pc := 1654) dL_law_1654 rfl (fun c => ?_) (fun c => ?_)
                                                                                      · have hP509 := hP508.1 c
                                                                                        clear hP508
                                                                                        refine bz_s_iinc (pc := 1777) dL_law_1777 (Nat.le_of_ble_eq_true rfl) rfl rfl [some (.inr (some a_9)), some (.inr (some a_431)), some (.inr (some a_435)), some (.inl (x3 + 6))] rfl ?_
                                                                                        refine bz_goto (tgt := 18) (pc := 1780) dL_law_1780 rfl ?_
                                                                                        exact bz_more (by omega) (by omega) hP509
                                                                                      · have hP510 := hP508.2 c
                                                                                        clear hP508
                                                                                        refine bz_iconst (pc := 1657) dL_law_1657 ci_0 ?_
                                                                                        exact bz_retI (pc := 1658) dL_law_1658 rfl rfl hP510
                                                                                    · have hP511 := hP501.2 c
                                                                                      clear hP501
                                                                                      refine ⟨fun c => ?_, fun c => ?_⟩
                                                                                      · have hP512 := hP511.1 c
                                                                                        clear hP511
                                                                                        show bz_J G κ kL_law (d + 1) F (bc + 2) (bs + 81) 1659 [some (.inr (some a_9)), some (.inr r1), some (.inr r2), some (.inl x3)] [] h
                                                                                        refine bz_aload_n (pc := 1659) dL_law_1659 rfl rfl ?_
                                                                                        refine bz_aload_n (pc := 1660) dL_law_1660 rfl rfl ?_
                                                                                        refine bz_iload_n (pc := 1661) dL_law_1661 rfl rfl ?_
                                                                                        refine bz_iconst (pc := 1662) dL_law_1662 ci_1 ?_
                                                                                        refine bz_iadd (pc := 1663) dL_law_1663 ?_
                                                                                        refine bz_rw_rA (pc := 1664) dL_law_1664 hP512 (fun x_436 hP513 => ?_)
                                                                                        clear hP512
                                                                                        refine bz_aload_n (pc := 1665) dL_law_1665 rfl rfl ?_
                                                                                        refine bz_iload_n (pc := 1666) dL_law_1666 rfl rfl ?_
                                                                                        refine bz_iconst (pc := 1667) dL_law_1667 ci_2 ?_
                                                                                        refine bz_iadd (pc := 1668) dL_law_1668 ?_
                                                                                        refine bz_rw_rA (pc := 1669) dL_law_1669 hP513 (fun x_437 hP514 => ?_)
                                                                                        clear hP513
                                                                                        obtain ⟨a_440, rfl, hP515⟩ := hP514
                                                                                        refine bz_kIV (as := [.inl x_436, .inl x_437]) (st := []) (ci := 11) (n := 2) (mc := 0) (ms := 0) (bc := (bc + 2)) (bs := (bs + 81)) (yc := kX11_judge) (q := (RX11, TX11, 9)) (b := a_440) (pc := 1670) dL_law_1670 sc_X11_judge ml_L_183 im_X11_judge se_X11_judge rfl rfl rfl (Nat.le_of_ble_eq_true rfl) hP515 (fun x_438 h_439 hP516 => ?_)
                                                                                        clear hP515
                                                                                        refine bz_aload_n (pc := 1673) dL_law_1673 rfl rfl ?_
                                                                                        refine bz_aload_n (pc := 1674) dL_law_1674 rfl rfl ?_
                                                                                        refine bz_iload_n (pc := 1675) dL_law_1675 rfl rfl ?_
                                                                                        refine bz_iconst (pc := 1676) dL_law_1676 ci_1 ?_
                                                                                        refine bz_iadd (pc := 1677) dL_law_1677 ?_
                                                                                        refine bz_rw_rA (pc := 1678) dL_law_1678 hP516 (fun x_441 hP517 => ?_)
                                                                                        clear hP516
                                                                                        refine bz_aload_n (pc := 1679) dL_law_1679 rfl rfl ?_
                                                                                        refine bz_iload_n (pc := 1680) dL_law_1680 rfl rfl ?_
                                                                                        refine bz_iconst (pc := 1681) dL_law_1681 ci_2 ?_
                                                                                        refine bz_iadd (pc := 1682) dL_law_1682 ?_
                                                                                        refine bz_rw_rA (pc := 1683) dL_law_1683 hP517 (fun x_442 hP518 => ?_)
                                                                                        clear hP517
                                                                                        obtain ⟨a_445, rfl, hP519⟩ := hP518
                                                                                        refine bz_kIV (as := [.inl x_441, .inl x_442]) (st := [.inl x_438]) (ci := 12) (n := 2) (mc := 0) (ms := 0) (bc := (bc + 2)) (bs := (bs + 81)) (yc := kX12_judge) (q := (RX12, TX12, 34)) (b := a_445) (pc := 1684) dL_law_1684 sc_X12_judge ml_L_186 im_X12_judge se_X12_judge rfl rfl rfl (Nat.le_of_ble_eq_true rfl) hP519 (fun x_443 h_444 hP520 => ?_)
                                                                                        clear hP519
                                                                                        refine bz_icmp_eq (tgt := 1777) (pc := 1687) dL_law_1687 rfl (fun c => ?_) (fun c => ?_)
                                                                                        · have hP521 := hP520.1 c
                                                                                          clear hP520
                                                                                          refine bz_s_iinc (pc := 1777) dL_law_1777 (Nat.le_of_ble_eq_true rfl) rfl rfl [some (.inr (some a_9)), some (.inr (some a_440)), some (.inr (some a_445)), some (.inl (x3 + 6))] rfl ?_
                                                                                          refine bz_goto (tgt := 18) (pc := 1780) dL_law_1780 rfl ?_
                                                                                          exact bz_more (by omega) (by omega) hP521
                                                                                        · have hP522 := hP520.2 c
                                                                                          clear hP520
                                                                                          refine bz_iconst (pc := 1690) dL_law_1690 ci_0 ?_
                                                                                          exact bz_retI (pc := 1691) dL_law_1691 rfl rfl hP522
                                                                                      · have hP523 := hP511.2 c
                                                                                        clear hP511
                                                                                        refine ⟨fun c => ?_, fun c => ?_⟩
                                                                                        · have hP524 := hP523.1 c
                                                                                          clear hP523
                                                                                          show bz_J G κ kL_law (d + 1) F (bc + 2) (bs + 81) 1692 [some (.inr (some a_9)), some (.inr r1), some (.inr r2), some (.inl x3)] [] h
                                                                                          refine bz_aload_n (pc := 1692) dL_law_1692 rfl rfl ?_
                                                                                          obtain ⟨a_448, rfl, hP525⟩ := hP524
                                                                                          refine bz_kIV (as := []) (st := []) (ci := 11) (n := 0) (mc := 0) (ms := 0) (bc := (bc + 2)) (bs := (bs + 81)) (yc := kX11_image) (q := (RX11, TX11, 9)) (b := a_448) (pc := 1693) dL_law_1693 sc_X11_image ml_L_187 im_X11_image se_X11_image rfl rfl rfl (Nat.le_of_ble_eq_true rfl) hP525 (fun x_446 h_447 hP526 => ?_)
                                                                                          clear hP525
                                                                                          refine bz_aload_n (pc := 1696) dL_law_1696 rfl rfl ?_
                                                                                          obtain ⟨a_451, rfl, hP527⟩ := hP526
                                                                                          refine bz_kIV (as := []) (st := [.inl x_446]) (ci := 12) (n := 0) (mc := 0) (ms := 0) (bc := (bc + 2)) (bs := (bs + 81)) (yc := kX12_image) (q := (RX12, TX12, 34)) (b := a_451) (pc := 1697) dL_law_1697 sc_X12_image ml_L_190 im_X12_image se_X12_image rfl rfl rfl (Nat.le_of_ble_eq_true rfl) hP527 (fun x_449 h_450 hP528 => ?_)
                                                                                          clear hP527
                                                                                          refine bz_icmp_eq (tgt := 1777) (pc := 1700) dL_law_1700 rfl (fun c => ?_) (fun c => ?_)
                                                                                          · have hP529 := hP528.1 c
                                                                                            clear hP528
                                                                                            refine bz_s_iinc (pc := 1777) dL_law_1777 (Nat.le_of_ble_eq_true rfl) rfl rfl [some (.inr (some a_9)), some (.inr (some a_448)), some (.inr (some a_451)), some (.inl (x3 + 6))] rfl ?_
                                                                                            refine bz_goto (tgt := 18) (pc := 1780) dL_law_1780 rfl ?_
                                                                                            exact bz_more (by omega) (by omega) hP529
                                                                                          · have hP530 := hP528.2 c
                                                                                            clear hP528
                                                                                            refine bz_iconst (pc := 1703) dL_law_1703 ci_0 ?_
                                                                                            exact bz_retI (pc := 1704) dL_law_1704 rfl rfl hP530
                                                                                        · have hP531 := hP523.2 c
                                                                                          clear hP523
                                                                                          refine ⟨fun c => ?_, fun c => ?_⟩
                                                                                          · have hP532 := hP531.1 c
                                                                                            clear hP531
                                                                                            show bz_J G κ kL_law (d + 1) F (bc + 2) (bs + 81) 1705 [some (.inr (some a_9)), some (.inr r1), some (.inr r2), some (.inl x3)] [] h
                                                                                            refine bz_aload_n (pc := 1705) dL_law_1705 rfl rfl ?_
                                                                                            obtain ⟨a_454, rfl, hP533⟩ := hP532
                                                                                            refine bz_kIV (as := []) (st := []) (ci := 11) (n := 0) (mc := 0) (ms := 0) (bc := (bc + 2)) (bs := (bs + 81)) (yc := kX11_undo) (q := (RX11, TX11, 9)) (b := a_454) (pc := 1706) dL_law_1706 sc_X11_undo ml_L_191 im_X11_undo se_X11_undo rfl rfl rfl (Nat.le_of_ble_eq_true rfl) hP533 (fun x_452 h_453 hP534 => ?_)
                                                                                            clear hP533
                                                                                            refine bz_aload_n (pc := 1709) dL_law_1709 rfl rfl ?_
                                                                                            obtain ⟨a_457, rfl, hP535⟩ := hP534
                                                                                            refine bz_kIV (as := []) (st := [.inl x_452]) (ci := 12) (n := 0) (mc := 0) (ms := 0) (bc := (bc + 2)) (bs := (bs + 81)) (yc := kX12_undo) (q := (RX12, TX12, 34)) (b := a_457) (pc := 1710) dL_law_1710 sc_X12_undo ml_L_194 im_X12_undo se_X12_undo rfl rfl rfl (Nat.le_of_ble_eq_true rfl) hP535 (fun x_455 h_456 hP536 => ?_)
                                                                                            clear hP535
                                                                                            refine bz_icmp_eq (tgt := 1777) (pc := 1713) dL_law_1713 rfl (fun c => ?_) (fun c => ?_)
                                                                                            · have hP537 := hP536.1 c
                                                                                              clear hP536
                                                                                              refine bz_s_iinc (pc := 1777) dL_law_1777 (Nat.le_of_ble_eq_true rfl) rfl rfl [some (.inr (some a_9)), some (.inr (some a_454)), some (.inr (some a_457)), some (.inl (x3 + 6))] rfl ?_
                                                                                              refine bz_goto (tgt := 18) (pc := 1780) dL_law_1780 rfl ?_
                                                                                              exact bz_more (by omega) (by omega) hP537
                                                                                            · have hP538 := hP536.2 c
                                                                                              clear hP536
                                                                                              refine bz_iconst (pc := 1716) dL_law_1716 ci_0 ?_
                                                                                              exact bz_retI (pc := 1717) dL_law_1717 rfl rfl hP538
                                                                                          · have hP539 := hP531.2 c
                                                                                            clear hP531
                                                                                            refine ⟨fun c => ?_, fun c => ?_⟩
                                                                                            · have hP540 := hP539.1 c
                                                                                              clear hP539
                                                                                              show bz_J G κ kL_law (d + 1) F (bc + 2) (bs + 81) 1718 [some (.inr (some a_9)), some (.inr r1), some (.inr r2), some (.inl x3)] [] h
                                                                                              refine bz_aload_n (pc := 1718) dL_law_1718 rfl rfl ?_
                                                                                              obtain ⟨a_460, rfl, hP541⟩ := hP540
                                                                                              refine bz_kIV (as := []) (st := []) (ci := 11) (n := 0) (mc := 0) (ms := 0) (bc := (bc + 2)) (bs := (bs + 81)) (yc := kX11_tear) (q := (RX11, TX11, 9)) (b := a_460) (pc := 1719) dL_law_1719 sc_X11_tear ml_L_195 im_X11_tear se_X11_tear rfl rfl rfl (Nat.le_of_ble_eq_true rfl) hP541 (fun x_458 h_459 hP542 => ?_)
                                                                                              clear hP541
                                                                                              refine bz_aload_n (pc := 1722) dL_law_1722 rfl rfl ?_
                                                                                              obtain ⟨a_463, rfl, hP543⟩ := hP542
                                                                                              refine bz_kIV (as := []) (st := [.inl x_458]) (ci := 12) (n := 0) (mc := 0) (ms := 0) (bc := (bc + 2)) (bs := (bs + 81)) (yc := kX12_tear) (q := (RX12, TX12, 34)) (b := a_463) (pc := 1723) dL_law_1723 sc_X12_tear ml_L_198 im_X12_tear se_X12_tear rfl rfl rfl (Nat.le_of_ble_eq_true rfl) hP543 (fun x_461 h_462 hP544 => ?_)
                                                                                              clear hP543
                                                                                              refine bz_icmp_eq (tgt := 1777) (pc := 1726) dL_law_1726 rfl (fun c => ?_) (fun c => ?_)
                                                                                              · have hP545 := hP544.1 c
                                                                                                clear hP544
                                                                                                refine bz_s_iinc (pc := 1777) dL_law_1777 (Nat.le_of_ble_eq_true rfl) rfl rfl [some (.inr (some a_9)), some (.inr (some a_460)), some (.inr (some a_463)), some (.inl (x3 + 6))] rfl ?_
                                                                                                refine bz_goto (tgt := 18) (pc := 1780) dL_law_1780 rfl ?_
                                                                                                exact bz_more (by omega) (by omega) hP545
                                                                                              · have hP546 := hP544.2 c
                                                                                                clear hP544
                                                                                                refine bz_iconst (pc := 1729) dL_law_1729 ci_0 ?_
                                                                                                exact bz_retI (pc := 1730) dL_law_1730 rfl rfl hP546
                                                                                            · have hP547 := hP539.2 c
                                                                                              clear hP539
                                                                                              refine ⟨fun c => ?_, fun c => ?_⟩
                                                                                              · have hP548 := hP547.1 c
                                                                                                clear hP547
                                                                                                show bz_J G κ kL_law (d + 1) F (bc + 2) (bs + 81) 1731 [some (.inr (some a_9)), some (.inr r1), some (.inr r2), some (.inl x3)] [] h
                                                                                                refine bz_aload_n (pc := 1731) dL_law_1731 rfl rfl ?_
                                                                                                refine bz_aload_n (pc := 1732) dL_law_1732 rfl rfl ?_
                                                                                                refine bz_iload_n (pc := 1733) dL_law_1733 rfl rfl ?_
                                                                                                refine bz_iconst (pc := 1734) dL_law_1734 ci_1 ?_
                                                                                                refine bz_iadd (pc := 1735) dL_law_1735 ?_
                                                                                                refine bz_rw_rA (pc := 1736) dL_law_1736 hP548 (fun x_464 hP549 => ?_)
                                                                                                clear hP548
                                                                                                obtain ⟨a_467, rfl, hP550⟩ := hP549
                                                                                                refine bz_kIV (as := [.inl x_464]) (st := []) (ci := 11) (n := 1) (mc := 0) (ms := 0) (bc := (bc + 2)) (bs := (bs + 81)) (yc := kX11_count) (q := (RX11, TX11, 9)) (b := a_467) (pc := 1737) dL_law_1737 sc_X11_count ml_L_199 im_X11_count se_X11_count rfl rfl rfl (Nat.le_of_ble_eq_true rfl) hP550 (fun x_465 h_466 hP551 => ?_)
                                                                                                clear hP550
                                                                                                refine bz_aload_n (pc := 1740) dL_law_1740 rfl rfl ?_
                                                                                                refine bz_aload_n (pc := 1741) dL_law_1741 rfl rfl ?_
                                                                                                refine bz_iload_n (pc := 1742) dL_law_1742 rfl rfl ?_
                                                                                                refine bz_iconst (pc := 1743) dL_law_1743 ci_1 ?_
                                                                                                refine bz_iadd (pc := 1744) dL_law_1744 ?_
                                                                                                refine bz_rw_rA (pc := 1745) dL_law_1745 hP551 (fun x_468 hP552 => ?_)
                                                                                                clear hP551
                                                                                                obtain ⟨a_471, rfl, hP553⟩ := hP552
                                                                                                refine bz_kIV (as := [.inl x_468]) (st := [.inl x_465]) (ci := 12) (n := 1) (mc := 0) (ms := 0) (bc := (bc + 2)) (bs := (bs + 81)) (yc := kX12_count) (q := (RX12, TX12, 34)) (b := a_471) (pc := 1746) dL_law_1746 sc_X12_count ml_L_202 im_X12_count se_X12_count rfl rfl rfl (Nat.le_of_ble_eq_true rfl) hP553 (fun x_469 h_470 hP554 => ?_)
                                                                                                clear hP553
                                                                                                refine bz_icmp_eq (tgt := 1777) (pc := 1749) dL_law_1749 rfl (fun c => ?_) (fun c => ?_)
                                                                                                · have hP555 := hP554.1 c
                                                                                                  clear hP554
                                                                                                  refine bz_s_iinc (pc := 1777) dL_law_1777 (Nat.le_of_ble_eq_true rfl) rfl rfl [some (.inr (some a_9)), some (.inr (some a_467)), some (.inr (some a_471)), some (.inl (x3 + 6))] rfl ?_
                                                                                                  refine bz_goto (tgt := 18) (pc := 1780) dL_law_1780 rfl ?_
                                                                                                  exact bz_more (by omega) (by omega) hP555
                                                                                                · have hP556 := hP554.2 c
                                                                                                  clear hP554
                                                                                                  refine bz_iconst (pc := 1752) dL_law_1752 ci_0 ?_
                                                                                                  exact bz_retI (pc := 1753) dL_law_1753 rfl rfl hP556
                                                                                              · have hP557 := hP547.2 c
                                                                                                clear hP547
                                                                                                refine ⟨fun c => ?_, fun c => ?_⟩
                                                                                                · have hP558 := hP557.1 c
                                                                                                  clear hP557
                                                                                                  show bz_J G κ kL_law (d + 1) F (bc + 2) (bs + 81) 1754 [some (.inr (some a_9)), some (.inr r1), some (.inr r2), some (.inl x3)] [] h
                                                                                                  refine bz_aload_n (pc := 1754) dL_law_1754 rfl rfl ?_
                                                                                                  refine bz_aload_n (pc := 1755) dL_law_1755 rfl rfl ?_
                                                                                                  refine bz_iload_n (pc := 1756) dL_law_1756 rfl rfl ?_
                                                                                                  refine bz_iconst (pc := 1757) dL_law_1757 ci_1 ?_
                                                                                                  refine bz_iadd (pc := 1758) dL_law_1758 ?_
                                                                                                  refine bz_rw_rA (pc := 1759) dL_law_1759 hP558 (fun x_472 hP559 => ?_)
                                                                                                  clear hP558
                                                                                                  obtain ⟨a_475, rfl, hP560⟩ := hP559
                                                                                                  refine bz_kIV (as := [.inl x_472]) (st := []) (ci := 11) (n := 1) (mc := 0) (ms := 0) (bc := (bc + 2)) (bs := (bs + 81)) (yc := kX11_status) (q := (RX11, TX11, 9)) (b := a_475) (pc := 1760) dL_law_1760 sc_X11_status ml_L_203 im_X11_status se_X11_status rfl rfl rfl (Nat.le_of_ble_eq_true rfl) hP560 (fun x_473 h_474 hP561 => ?_)
                                                                                                  clear hP560
                                                                                                  refine bz_aload_n (pc := 1763) dL_law_1763 rfl rfl ?_
                                                                                                  refine bz_aload_n (pc := 1764) dL_law_1764 rfl rfl ?_
                                                                                                  refine bz_iload_n (pc := 1765) dL_law_1765 rfl rfl ?_
                                                                                                  refine bz_iconst (pc := 1766) dL_law_1766 ci_1 ?_
                                                                                                  refine bz_iadd (pc := 1767) dL_law_1767 ?_
                                                                                                  refine bz_rw_rA (pc := 1768) dL_law_1768 hP561 (fun x_476 hP562 => ?_)
                                                                                                  clear hP561
                                                                                                  obtain ⟨a_479, rfl, hP563⟩ := hP562
                                                                                                  refine bz_kIV (as := [.inl x_476]) (st := [.inl x_473]) (ci := 12) (n := 1) (mc := 0) (ms := 0) (bc := (bc + 2)) (bs := (bs + 81)) (yc := kX12_status) (q := (RX12, TX12, 34)) (b := a_479) (pc := 1769) dL_law_1769 sc_X12_status ml_L_206 im_X12_status se_X12_status rfl rfl rfl (Nat.le_of_ble_eq_true rfl) hP563 (fun x_477 h_478 hP564 => ?_)
                                                                                                  clear hP563
                                                                                                  refine bz_icmp_eq (tgt := 1777) (pc := 1772) dL_law_1772 rfl (fun c => ?_) (fun c => ?_)
                                                                                                  · have hP565 := hP564.1 c
                                                                                                    clear hP564
                                                                                                    refine bz_s_iinc (pc := 1777) dL_law_1777 (Nat.le_of_ble_eq_true rfl) rfl rfl [some (.inr (some a_9)), some (.inr (some a_475)), some (.inr (some a_479)), some (.inl (x3 + 6))] rfl ?_
                                                                                                    refine bz_goto (tgt := 18) (pc := 1780) dL_law_1780 rfl ?_
                                                                                                    exact bz_more (by omega) (by omega) hP565
                                                                                                  · have hP566 := hP564.2 c
                                                                                                    clear hP564
                                                                                                    refine bz_iconst (pc := 1775) dL_law_1775 ci_0 ?_
                                                                                                    exact bz_retI (pc := 1776) dL_law_1776 rfl rfl hP566
                                                                                                · have hP567 := hP557.2 c
                                                                                                  clear hP557
                                                                                                  show bz_J G κ kL_law (d + 1) F (bc + 2) (bs + 81) 1777 [some (.inr (some a_9)), some (.inr r1), some (.inr r2), some (.inl x3)] [] h
                                                                                                  refine bz_s_iinc (pc := 1777) dL_law_1777 (Nat.le_of_ble_eq_true rfl) rfl rfl [some (.inr (some a_9)), some (.inr r1), some (.inr r2), some (.inl (x3 + 6))] rfl ?_
                                                                                                  refine bz_goto (tgt := 18) (pc := 1780) dL_law_1780 rfl ?_
                                                                                                  exact bz_more (by omega) (by omega) hP567
