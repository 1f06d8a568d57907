theorem cb_X11_state : j_CB yX11_state cX11_state 3 (some .int) 1 := ⟨by decide +kernel, j_in 411 (by decide +kernel) (by decide +kernel), j_in 107 (by decide +kernel) (by decide +kernel), by decide +kernel, by decide +kernel, by decide +kernel⟩
theorem cvRL_13 : j_CV RL 13 yX11_state := ⟨Or.inl (j_in 408 (by decide +kernel) (by decide +kernel)), j_in 409 (by decide +kernel) (by decide +kernel), j_in 410 (by decide +kernel) (by decide +kernel)⟩
theorem cb_X12_state : j_CB yX12_state cX12_state 3 (some .int) 1 := ⟨by decide +kernel, j_in 1278 (by decide +kernel) (by decide +kernel), j_in 114 (by decide +kernel) (by decide +kernel), by decide +kernel, by decide +kernel, by decide +kernel⟩
theorem cvRL_17 : j_CV RL 17 yX12_state := ⟨Or.inl (j_in 1275 (by decide +kernel) (by decide +kernel)), j_in 1276 (by decide +kernel) (by decide +kernel), j_in 1277 (by decide +kernel) (by decide +kernel)⟩
theorem cb_X11_set : j_CB yX11_set cX11_set 3 (some .boolean) 2 := ⟨by decide +kernel, j_in 415 (by decide +kernel) (by decide +kernel), j_in 107 (by decide +kernel) (by decide +kernel), by decide +kernel, by decide +kernel, by decide +kernel⟩
theorem cvRL_18 : j_CV RL 18 yX11_set := ⟨Or.inl (j_in 412 (by decide +kernel) (by decide +kernel)), j_in 413 (by decide +kernel) (by decide +kernel), j_in 414 (by decide +kernel) (by decide +kernel)⟩
theorem cvRL_22 : j_CV RL 22 yX12_set := ⟨Or.inl (j_in 1279 (by decide +kernel) (by decide +kernel)), j_in 1280 (by decide +kernel) (by decide +kernel), j_in 1281 (by decide +kernel) (by decide +kernel)⟩
theorem cb_X11_load : j_CB yX11_load cX11_load 3 (some .int) 2 := ⟨by decide +kernel, j_in 453 (by decide +kernel) (by decide +kernel), j_in 107 (by decide +kernel) (by decide +kernel), by decide +kernel, by decide +kernel, by decide +kernel⟩
theorem cvRL_23 : j_CV RL 23 yX11_load := ⟨Or.inl (j_in 450 (by decide +kernel) (by decide +kernel)), j_in 451 (by decide +kernel) (by decide +kernel), j_in 452 (by decide +kernel) (by decide +kernel)⟩
theorem cvRL_27 : j_CV RL 27 yX12_load := ⟨Or.inl (j_in 1290 (by decide +kernel) (by decide +kernel)), j_in 1291 (by decide +kernel) (by decide +kernel), j_in 1292 (by decide +kernel) (by decide +kernel)⟩
theorem cb_X11_store : j_CB yX11_store cX11_store 4 (some .int) 3 := ⟨by decide +kernel, j_in 529 (by decide +kernel) (by decide +kernel), j_in 107 (by decide +kernel) (by decide +kernel), by decide +kernel, by decide +kernel, by decide +kernel⟩
theorem cvRL_28 : j_CV RL 28 yX11_store := ⟨Or.inl (j_in 526 (by decide +kernel) (by decide +kernel)), j_in 527 (by decide +kernel) (by decide +kernel), j_in 528 (by decide +kernel) (by decide +kernel)⟩
theorem cvRL_32 : j_CV RL 32 yX12_store := ⟨Or.inl (j_in 1361 (by decide +kernel) (by decide +kernel)), j_in 1362 (by decide +kernel) (by decide +kernel), j_in 1363 (by decide +kernel) (by decide +kernel)⟩
theorem cb_X11_add : j_CB yX11_add cX11_add 4 (some .int) 3 := ⟨by decide +kernel, j_in 533 (by decide +kernel) (by decide +kernel), j_in 107 (by decide +kernel) (by decide +kernel), by decide +kernel, by decide +kernel, by decide +kernel⟩
theorem cvRL_33 : j_CV RL 33 yX11_add := ⟨Or.inl (j_in 530 (by decide +kernel) (by decide +kernel)), j_in 531 (by decide +kernel) (by decide +kernel), j_in 532 (by decide +kernel) (by decide +kernel)⟩
theorem cvRL_36 : j_CV RL 36 yX12_add := ⟨Or.inl (j_in 1365 (by decide +kernel) (by decide +kernel)), j_in 1366 (by decide +kernel) (by decide +kernel), j_in 1367 (by decide +kernel) (by decide +kernel)⟩
theorem cb_X11_evict : j_CB yX11_evict cX11_evict 3 (some .boolean) 2 := ⟨by decide +kernel, j_in 537 (by decide +kernel) (by decide +kernel), j_in 107 (by decide +kernel) (by decide +kernel), by decide +kernel, by decide +kernel, by decide +kernel⟩
theorem cvRL_37 : j_CV RL 37 yX11_evict := ⟨Or.inl (j_in 534 (by decide +kernel) (by decide +kernel)), j_in 535 (by decide +kernel) (by decide +kernel), j_in 536 (by decide +kernel) (by decide +kernel)⟩
theorem cvRL_40 : j_CV RL 40 yX12_evict := ⟨Or.inl (j_in 1369 (by decide +kernel) (by decide +kernel)), j_in 1370 (by decide +kernel) (by decide +kernel), j_in 1371 (by decide +kernel) (by decide +kernel)⟩
theorem cb_X11_deliver : j_CB yX11_deliver cX11_deliver 2 (some .int) 1 := ⟨by decide +kernel, j_in 564 (by decide +kernel) (by decide +kernel), j_in 107 (by decide +kernel) (by decide +kernel), by decide +kernel, by decide +kernel, by decide +kernel⟩
theorem cvRL_41 : j_CV RL 41 yX11_deliver := ⟨Or.inl (j_in 561 (by decide +kernel) (by decide +kernel)), j_in 562 (by decide +kernel) (by decide +kernel), j_in 563 (by decide +kernel) (by decide +kernel)⟩
theorem cb_X12_deliver : j_CB yX12_deliver cX12_deliver 2 (some .int) 1 := ⟨by decide +kernel, j_in 1392 (by decide +kernel) (by decide +kernel), j_in 114 (by decide +kernel) (by decide +kernel), by decide +kernel, by decide +kernel, by decide +kernel⟩
theorem cvRL_44 : j_CV RL 44 yX12_deliver := ⟨Or.inl (j_in 1389 (by decide +kernel) (by decide +kernel)), j_in 1390 (by decide +kernel) (by decide +kernel), j_in 1391 (by decide +kernel) (by decide +kernel)⟩
theorem cb_X11_tick : j_CB yX11_tick cX11_tick 2 (some .int) 1 := ⟨by decide +kernel, j_in 663 (by decide +kernel) (by decide +kernel), j_in 107 (by decide +kernel) (by decide +kernel), by decide +kernel, by decide +kernel, by decide +kernel⟩
theorem cvRL_45 : j_CV RL 45 yX11_tick := ⟨Or.inl (j_in 660 (by decide +kernel) (by decide +kernel)), j_in 661 (by decide +kernel) (by decide +kernel), j_in 662 (by decide +kernel) (by decide +kernel)⟩
theorem cvRL_48 : j_CV RL 48 yX12_tick := ⟨Or.inl (j_in 1437 (by decide +kernel) (by decide +kernel)), j_in 1438 (by decide +kernel) (by decide +kernel), j_in 1439 (by decide +kernel) (by decide +kernel)⟩
theorem cb_X11_calm : j_CB yX11_calm cX11_calm 2 (some .int) 1 := ⟨by decide +kernel, j_in 690 (by decide +kernel) (by decide +kernel), j_in 107 (by decide +kernel) (by decide +kernel), by decide +kernel, by decide +kernel, by decide +kernel⟩
theorem cvRL_49 : j_CV RL 49 yX11_calm := ⟨Or.inl (j_in 687 (by decide +kernel) (by decide +kernel)), j_in 688 (by decide +kernel) (by decide +kernel), j_in 689 (by decide +kernel) (by decide +kernel)⟩
theorem cvRL_52 : j_CV RL 52 yX12_calm := ⟨Or.inl (j_in 1457 (by decide +kernel) (by decide +kernel)), j_in 1458 (by decide +kernel) (by decide +kernel), j_in 1459 (by decide +kernel) (by decide +kernel)⟩
theorem cb_X11_feed : j_CB yX11_feed cX11_feed 6 (some .int) 5 := ⟨by decide +kernel, j_in 699 (by decide +kernel) (by decide +kernel), j_in 107 (by decide +kernel) (by decide +kernel), by decide +kernel, by decide +kernel, by decide +kernel⟩
theorem cvRL_53 : j_CV RL 53 yX11_feed := ⟨Or.inl (j_in 696 (by decide +kernel) (by decide +kernel)), j_in 697 (by decide +kernel) (by decide +kernel), j_in 698 (by decide +kernel) (by decide +kernel)⟩
theorem cb_X12_feed : j_CB yX12_feed cX12_feed 6 (some .int) 5 := ⟨by decide +kernel, j_in 1468 (by decide +kernel) (by decide +kernel), j_in 114 (by decide +kernel) (by decide +kernel), by decide +kernel, by decide +kernel, by decide +kernel⟩
theorem cvRL_57 : j_CV RL 57 yX12_feed := ⟨Or.inl (j_in 1465 (by decide +kernel) (by decide +kernel)), j_in 1466 (by decide +kernel) (by decide +kernel), j_in 1467 (by decide +kernel) (by decide +kernel)⟩
theorem cb_X11_end : j_CB yX11_end cX11_end 2 (some .boolean) 1 := ⟨by decide +kernel, j_in 711 (by decide +kernel) (by decide +kernel), j_in 107 (by decide +kernel) (by decide +kernel), by decide +kernel, by decide +kernel, by decide +kernel⟩
theorem cvRL_58 : j_CV RL 58 yX11_end := ⟨Or.inl (j_in 708 (by decide +kernel) (by decide +kernel)), j_in 709 (by decide +kernel) (by decide +kernel), j_in 710 (by decide +kernel) (by decide +kernel)⟩
theorem cb_X12_end : j_CB yX12_end cX12_end 2 (some .boolean) 1 := ⟨by decide +kernel, j_in 1476 (by decide +kernel) (by decide +kernel), j_in 114 (by decide +kernel) (by decide +kernel), by decide +kernel, by decide +kernel, by decide +kernel⟩
theorem cvRL_62 : j_CV RL 62 yX12_end := ⟨Or.inl (j_in 1473 (by decide +kernel) (by decide +kernel)), j_in 1474 (by decide +kernel) (by decide +kernel), j_in 1475 (by decide +kernel) (by decide +kernel)⟩
theorem cb_X11_text : j_CB yX11_text cX11_text 3 (some .int) 1 := ⟨by decide +kernel, j_in 719 (by decide +kernel) (by decide +kernel), j_in 107 (by decide +kernel) (by decide +kernel), by decide +kernel, by decide +kernel, by decide +kernel⟩
theorem cvRL_63 : j_CV RL 63 yX11_text := ⟨Or.inl (j_in 716 (by decide +kernel) (by decide +kernel)), j_in 717 (by decide +kernel) (by decide +kernel), j_in 718 (by decide +kernel) (by decide +kernel)⟩
theorem cb_X12_text : j_CB yX12_text cX12_text 4 (some .int) 1 := ⟨by decide +kernel, j_in 1513 (by decide +kernel) (by decide +kernel), j_in 114 (by decide +kernel) (by decide +kernel), by decide +kernel, by decide +kernel, by decide +kernel⟩
theorem cvRL_66 : j_CV RL 66 yX12_text := ⟨Or.inl (j_in 1510 (by decide +kernel) (by decide +kernel)), j_in 1511 (by decide +kernel) (by decide +kernel), j_in 1512 (by decide +kernel) (by decide +kernel)⟩
theorem cb_X11_run : j_CB yX11_run cX11_run 4 (some .int) 1 := ⟨by decide +kernel, j_in 808 (by decide +kernel) (by decide +kernel), j_in 107 (by decide +kernel) (by decide +kernel), by decide +kernel, by decide +kernel, by decide +kernel⟩
theorem cvRL_67 : j_CV RL 67 yX11_run := ⟨Or.inl (j_in 805 (by decide +kernel) (by decide +kernel)), j_in 806 (by decide +kernel) (by decide +kernel), j_in 807 (by decide +kernel) (by decide +kernel)⟩
theorem cb_X12_run : j_CB yX12_run cX12_run 5 (some .int) 1 := ⟨by decide +kernel, j_in 1480 (by decide +kernel) (by decide +kernel), j_in 114 (by decide +kernel) (by decide +kernel), by decide +kernel, by decide +kernel, by decide +kernel⟩
theorem cvRL_70 : j_CV RL 70 yX12_run := ⟨Or.inl (j_in 1477 (by decide +kernel) (by decide +kernel)), j_in 1478 (by decide +kernel) (by decide +kernel), j_in 1479 (by decide +kernel) (by decide +kernel)⟩
theorem cb_X11_fault : j_CB yX11_fault cX11_fault 2 (some .int) 1 := ⟨by decide +kernel, j_in 871 (by decide +kernel) (by decide +kernel), j_in 107 (by decide +kernel) (by decide +kernel), by decide +kernel, by decide +kernel, by decide +kernel⟩
theorem cvRL_71 : j_CV RL 71 yX11_fault := ⟨Or.inl (j_in 868 (by decide +kernel) (by decide +kernel)), j_in 869 (by decide +kernel) (by decide +kernel), j_in 870 (by decide +kernel) (by decide +kernel)⟩
theorem cb_X12_fault : j_CB yX12_fault cX12_fault 2 (some .int) 1 := ⟨by decide +kernel, j_in 1649 (by decide +kernel) (by decide +kernel), j_in 114 (by decide +kernel) (by decide +kernel), by decide +kernel, by decide +kernel, by decide +kernel⟩
theorem cvRL_74 : j_CV RL 74 yX12_fault := ⟨Or.inl (j_in 1646 (by decide +kernel) (by decide +kernel)), j_in 1647 (by decide +kernel) (by decide +kernel), j_in 1648 (by decide +kernel) (by decide +kernel)⟩
theorem cb_X11_go : j_CB yX11_go cX11_go 3 (some .int) 2 := ⟨by decide +kernel, j_in 875 (by decide +kernel) (by decide +kernel), j_in 107 (by decide +kernel) (by decide +kernel), by decide +kernel, by decide +kernel, by decide +kernel⟩
theorem cvRL_75 : j_CV RL 75 yX11_go := ⟨Or.inl (j_in 872 (by decide +kernel) (by decide +kernel)), j_in 873 (by decide +kernel) (by decide +kernel), j_in 874 (by decide +kernel) (by decide +kernel)⟩
theorem cvRL_78 : j_CV RL 78 yX12_go := ⟨Or.inl (j_in 1650 (by decide +kernel) (by decide +kernel)), j_in 1496 (by decide +kernel) (by decide +kernel), j_in 1497 (by decide +kernel) (by decide +kernel)⟩
theorem cb_X11_node : j_CB yX11_node cX11_node 5 (some .int) 3 := ⟨by decide +kernel, j_in 880 (by decide +kernel) (by decide +kernel), j_in 107 (by decide +kernel) (by decide +kernel), by decide +kernel, by decide +kernel, by decide +kernel⟩
theorem cvRL_79 : j_CV RL 79 yX11_node := ⟨Or.inl (j_in 877 (by decide +kernel) (by decide +kernel)), j_in 878 (by decide +kernel) (by decide +kernel), j_in 879 (by decide +kernel) (by decide +kernel)⟩
theorem cb_X12_node : j_CB yX12_node cX12_node 5 (some .int) 3 := ⟨by decide +kernel, j_in 1654 (by decide +kernel) (by decide +kernel), j_in 114 (by decide +kernel) (by decide +kernel), by decide +kernel, by decide +kernel, by decide +kernel⟩
theorem cvRL_82 : j_CV RL 82 yX12_node := ⟨Or.inl (j_in 1651 (by decide +kernel) (by decide +kernel)), j_in 1652 (by decide +kernel) (by decide +kernel), j_in 1653 (by decide +kernel) (by decide +kernel)⟩
theorem cb_X11_miss : j_CB yX11_miss cX11_miss 4 (some .int) 2 := ⟨by decide +kernel, j_in 899 (by decide +kernel) (by decide +kernel), j_in 107 (by decide +kernel) (by decide +kernel), by decide +kernel, by decide +kernel, by decide +kernel⟩
theorem cvRL_83 : j_CV RL 83 yX11_miss := ⟨Or.inl (j_in 896 (by decide +kernel) (by decide +kernel)), j_in 897 (by decide +kernel) (by decide +kernel), j_in 898 (by decide +kernel) (by decide +kernel)⟩
theorem cb_X12_miss : j_CB yX12_miss cX12_miss 3 (some .int) 2 := ⟨by decide +kernel, j_in 1658 (by decide +kernel) (by decide +kernel), j_in 114 (by decide +kernel) (by decide +kernel), by decide +kernel, by decide +kernel, by decide +kernel⟩
theorem cvRL_86 : j_CV RL 86 yX12_miss := ⟨Or.inl (j_in 1655 (by decide +kernel) (by decide +kernel)), j_in 1656 (by decide +kernel) (by decide +kernel), j_in 1657 (by decide +kernel) (by decide +kernel)⟩
theorem cb_X11_table : j_CB yX11_table cX11_table 5 (some .int) 3 := ⟨by decide +kernel, j_in 909 (by decide +kernel) (by decide +kernel), j_in 107 (by decide +kernel) (by decide +kernel), by decide +kernel, by decide +kernel, by decide +kernel⟩
theorem cvRL_87 : j_CV RL 87 yX11_table := ⟨Or.inl (j_in 906 (by decide +kernel) (by decide +kernel)), j_in 907 (by decide +kernel) (by decide +kernel), j_in 908 (by decide +kernel) (by decide +kernel)⟩
theorem cb_X12_table : j_CB yX12_table cX12_table 5 (some .int) 3 := ⟨by decide +kernel, j_in 1662 (by decide +kernel) (by decide +kernel), j_in 114 (by decide +kernel) (by decide +kernel), by decide +kernel, by decide +kernel, by decide +kernel⟩
theorem cvRL_90 : j_CV RL 90 yX12_table := ⟨Or.inl (j_in 1659 (by decide +kernel) (by decide +kernel)), j_in 1660 (by decide +kernel) (by decide +kernel), j_in 1661 (by decide +kernel) (by decide +kernel)⟩
theorem cb_X11_message : j_CB yX11_message cX11_message 4 (some .int) 2 := ⟨by decide +kernel, j_in 923 (by decide +kernel) (by decide +kernel), j_in 107 (by decide +kernel) (by decide +kernel), by decide +kernel, by decide +kernel, by decide +kernel⟩
theorem cvRL_91 : j_CV RL 91 yX11_message := ⟨Or.inl (j_in 920 (by decide +kernel) (by decide +kernel)), j_in 921 (by decide +kernel) (by decide +kernel), j_in 922 (by decide +kernel) (by decide +kernel)⟩
theorem cb_X12_message : j_CB yX12_message cX12_message 3 (some .int) 2 := ⟨by decide +kernel, j_in 1666 (by decide +kernel) (by decide +kernel), j_in 114 (by decide +kernel) (by decide +kernel), by decide +kernel, by decide +kernel, by decide +kernel⟩
theorem cvRL_94 : j_CV RL 94 yX12_message := ⟨Or.inl (j_in 1663 (by decide +kernel) (by decide +kernel)), j_in 1664 (by decide +kernel) (by decide +kernel), j_in 1665 (by decide +kernel) (by decide +kernel)⟩
theorem cb_X11_seen : j_CB yX11_seen cX11_seen 4 (some .int) 2 := ⟨by decide +kernel, j_in 935 (by decide +kernel) (by decide +kernel), j_in 107 (by decide +kernel) (by decide +kernel), by decide +kernel, by decide +kernel, by decide +kernel⟩
theorem cvRL_95 : j_CV RL 95 yX11_seen := ⟨Or.inl (j_in 932 (by decide +kernel) (by decide +kernel)), j_in 933 (by decide +kernel) (by decide +kernel), j_in 934 (by decide +kernel) (by decide +kernel)⟩
theorem cb_X12_seen : j_CB yX12_seen cX12_seen 3 (some .int) 2 := ⟨by decide +kernel, j_in 1670 (by decide +kernel) (by decide +kernel), j_in 114 (by decide +kernel) (by decide +kernel), by decide +kernel, by decide +kernel, by decide +kernel⟩
theorem cvRL_98 : j_CV RL 98 yX12_seen := ⟨Or.inl (j_in 1667 (by decide +kernel) (by decide +kernel)), j_in 1668 (by decide +kernel) (by decide +kernel), j_in 1669 (by decide +kernel) (by decide +kernel)⟩
theorem cb_X11_program : j_CB yX11_program cX11_program 3 (some .int) 2 := ⟨by decide +kernel, j_in 939 (by decide +kernel) (by decide +kernel), j_in 107 (by decide +kernel) (by decide +kernel), by decide +kernel, by decide +kernel, by decide +kernel⟩
theorem cvRL_99 : j_CV RL 99 yX11_program := ⟨Or.inl (j_in 936 (by decide +kernel) (by decide +kernel)), j_in 937 (by decide +kernel) (by decide +kernel), j_in 938 (by decide +kernel) (by decide +kernel)⟩
theorem cb_X12_program : j_CB yX12_program cX12_program 3 (some .int) 2 := ⟨by decide +kernel, j_in 1674 (by decide +kernel) (by decide +kernel), j_in 114 (by decide +kernel) (by decide +kernel), by decide +kernel, by decide +kernel, by decide +kernel⟩
theorem cvRL_102 : j_CV RL 102 yX12_program := ⟨Or.inl (j_in 1671 (by decide +kernel) (by decide +kernel)), j_in 1672 (by decide +kernel) (by decide +kernel), j_in 1673 (by decide +kernel) (by decide +kernel)⟩
theorem cb_X11_soon : j_CB yX11_soon cX11_soon 3 (some .int) 1 := ⟨by decide +kernel, j_in 943 (by decide +kernel) (by decide +kernel), j_in 107 (by decide +kernel) (by decide +kernel), by decide +kernel, by decide +kernel, by decide +kernel⟩
theorem cvRL_103 : j_CV RL 103 yX11_soon := ⟨Or.inl (j_in 940 (by decide +kernel) (by decide +kernel)), j_in 941 (by decide +kernel) (by decide +kernel), j_in 942 (by decide +kernel) (by decide +kernel)⟩
theorem cb_X12_soon : j_CB yX12_soon cX12_soon 4 (some .int) 1 := ⟨by decide +kernel, j_in 1730 (by decide +kernel) (by decide +kernel), j_in 114 (by decide +kernel) (by decide +kernel), by decide +kernel, by decide +kernel, by decide +kernel⟩
theorem cvRL_106 : j_CV RL 106 yX12_soon := ⟨Or.inl (j_in 1727 (by decide +kernel) (by decide +kernel)), j_in 1728 (by decide +kernel) (by decide +kernel), j_in 1729 (by decide +kernel) (by decide +kernel)⟩
theorem cb_X11_walk : j_CB yX11_walk cX11_walk 2 (some .int) 1 := ⟨by decide +kernel, j_in 959 (by decide +kernel) (by decide +kernel), j_in 107 (by decide +kernel) (by decide +kernel), by decide +kernel, by decide +kernel, by decide +kernel⟩
theorem cvRL_107 : j_CV RL 107 yX11_walk := ⟨Or.inl (j_in 956 (by decide +kernel) (by decide +kernel)), j_in 957 (by decide +kernel) (by decide +kernel), j_in 958 (by decide +kernel) (by decide +kernel)⟩
theorem cb_X12_walk : j_CB yX12_walk cX12_walk 3 (some .int) 1 := ⟨by decide +kernel, j_in 1742 (by decide +kernel) (by decide +kernel), j_in 114 (by decide +kernel) (by decide +kernel), by decide +kernel, by decide +kernel, by decide +kernel⟩
theorem cvRL_110 : j_CV RL 110 yX12_walk := ⟨Or.inl (j_in 1739 (by decide +kernel) (by decide +kernel)), j_in 1740 (by decide +kernel) (by decide +kernel), j_in 1741 (by decide +kernel) (by decide +kernel)⟩
theorem cb_X11_where : j_CB yX11_where cX11_where 3 (some .int) 2 := ⟨by decide +kernel, j_in 1066 (by decide +kernel) (by decide +kernel), j_in 107 (by decide +kernel) (by decide +kernel), by decide +kernel, by decide +kernel, by decide +kernel⟩
theorem cvRL_111 : j_CV RL 111 yX11_where := ⟨Or.inl (j_in 1063 (by decide +kernel) (by decide +kernel)), j_in 1064 (by decide +kernel) (by decide +kernel), j_in 1065 (by decide +kernel) (by decide +kernel)⟩
theorem cb_X12_where : j_CB yX12_where cX12_where 3 (some .int) 2 := ⟨by decide +kernel, j_in 1702 (by decide +kernel) (by decide +kernel), j_in 114 (by decide +kernel) (by decide +kernel), by decide +kernel, by decide +kernel, by decide +kernel⟩
theorem cvRL_114 : j_CV RL 114 yX12_where := ⟨Or.inl (j_in 1699 (by decide +kernel) (by decide +kernel)), j_in 1700 (by decide +kernel) (by decide +kernel), j_in 1701 (by decide +kernel) (by decide +kernel)⟩
theorem cb_X11_cost : j_CB yX11_cost cX11_cost 3 (some .int) 2 := ⟨by decide +kernel, j_in 1100 (by decide +kernel) (by decide +kernel), j_in 107 (by decide +kernel) (by decide +kernel), by decide +kernel, by decide +kernel, by decide +kernel⟩
theorem cvRL_115 : j_CV RL 115 yX11_cost := ⟨Or.inl (j_in 1097 (by decide +kernel) (by decide +kernel)), j_in 1098 (by decide +kernel) (by decide +kernel), j_in 1099 (by decide +kernel) (by decide +kernel)⟩
theorem cb_X12_cost : j_CB yX12_cost cX12_cost 3 (some .int) 2 := ⟨by decide +kernel, j_in 1686 (by decide +kernel) (by decide +kernel), j_in 114 (by decide +kernel) (by decide +kernel), by decide +kernel, by decide +kernel, by decide +kernel⟩
theorem cvRL_118 : j_CV RL 118 yX12_cost := ⟨Or.inl (j_in 1683 (by decide +kernel) (by decide +kernel)), j_in 1684 (by decide +kernel) (by decide +kernel), j_in 1685 (by decide +kernel) (by decide +kernel)⟩
theorem cb_X11_group : j_CB yX11_group cX11_group 3 (some .int) 2 := ⟨by decide +kernel, j_in 1104 (by decide +kernel) (by decide +kernel), j_in 107 (by decide +kernel) (by decide +kernel), by decide +kernel, by decide +kernel, by decide +kernel⟩
theorem cvRL_119 : j_CV RL 119 yX11_group := ⟨Or.inl (j_in 1101 (by decide +kernel) (by decide +kernel)), j_in 1102 (by decide +kernel) (by decide +kernel), j_in 1103 (by decide +kernel) (by decide +kernel)⟩
theorem cb_X12_group : j_CB yX12_group cX12_group 3 (some .int) 2 := ⟨by decide +kernel, j_in 1690 (by decide +kernel) (by decide +kernel), j_in 114 (by decide +kernel) (by decide +kernel), by decide +kernel, by decide +kernel, by decide +kernel⟩
theorem cvRL_122 : j_CV RL 122 yX12_group := ⟨Or.inl (j_in 1687 (by decide +kernel) (by decide +kernel)), j_in 1688 (by decide +kernel) (by decide +kernel), j_in 1689 (by decide +kernel) (by decide +kernel)⟩
theorem cb_X11_trace : j_CB yX11_trace cX11_trace 4 (some .int) 2 := ⟨by decide +kernel, j_in 1108 (by decide +kernel) (by decide +kernel), j_in 107 (by decide +kernel) (by decide +kernel), by decide +kernel, by decide +kernel, by decide +kernel⟩
theorem cvRL_123 : j_CV RL 123 yX11_trace := ⟨Or.inl (j_in 1105 (by decide +kernel) (by decide +kernel)), j_in 1106 (by decide +kernel) (by decide +kernel), j_in 1107 (by decide +kernel) (by decide +kernel)⟩
theorem cb_X12_trace : j_CB yX12_trace cX12_trace 4 (some .int) 2 := ⟨by decide +kernel, j_in 1698 (by decide +kernel) (by decide +kernel), j_in 114 (by decide +kernel) (by decide +kernel), by decide +kernel, by decide +kernel, by decide +kernel⟩
theorem cvRL_126 : j_CV RL 126 yX12_trace := ⟨Or.inl (j_in 1695 (by decide +kernel) (by decide +kernel)), j_in 1696 (by decide +kernel) (by decide +kernel), j_in 1697 (by decide +kernel) (by decide +kernel)⟩
theorem cb_X11_flow : j_CB yX11_flow cX11_flow 5 (some .int) 3 := ⟨by decide +kernel, j_in 1112 (by decide +kernel) (by decide +kernel), j_in 107 (by decide +kernel) (by decide +kernel), by decide +kernel, by decide +kernel, by decide +kernel⟩
theorem cvRL_127 : j_CV RL 127 yX11_flow := ⟨Or.inl (j_in 1109 (by decide +kernel) (by decide +kernel)), j_in 1110 (by decide +kernel) (by decide +kernel), j_in 1111 (by decide +kernel) (by decide +kernel)⟩
theorem cb_X12_flow : j_CB yX12_flow cX12_flow 4 (some .int) 3 := ⟨by decide +kernel, j_in 1694 (by decide +kernel) (by decide +kernel), j_in 114 (by decide +kernel) (by decide +kernel), by decide +kernel, by decide +kernel, by decide +kernel⟩
theorem cvRL_130 : j_CV RL 130 yX12_flow := ⟨Or.inl (j_in 1691 (by decide +kernel) (by decide +kernel)), j_in 1692 (by decide +kernel) (by decide +kernel), j_in 1693 (by decide +kernel) (by decide +kernel)⟩
theorem cb_X11_can : j_CB yX11_can cX11_can 3 (some .int) 2 := ⟨by decide +kernel, j_in 1116 (by decide +kernel) (by decide +kernel), j_in 107 (by decide +kernel) (by decide +kernel), by decide +kernel, by decide +kernel, by decide +kernel⟩
theorem cvRL_131 : j_CV RL 131 yX11_can := ⟨Or.inl (j_in 1113 (by decide +kernel) (by decide +kernel)), j_in 1114 (by decide +kernel) (by decide +kernel), j_in 1115 (by decide +kernel) (by decide +kernel)⟩
theorem cb_X12_can_ : j_CB yX12_can_ cX12_can_ 3 (some .int) 2 := ⟨by decide +kernel, j_in 1678 (by decide +kernel) (by decide +kernel), j_in 114 (by decide +kernel) (by decide +kernel), by decide +kernel, by decide +kernel, by decide +kernel⟩
theorem cvRL_134 : j_CV RL 134 yX12_can_ := ⟨Or.inl (j_in 1675 (by decide +kernel) (by decide +kernel)), j_in 1676 (by decide +kernel) (by decide +kernel), j_in 1677 (by decide +kernel) (by decide +kernel)⟩
theorem cb_X11_worth : j_CB yX11_worth cX11_worth 2 (some .int) 1 := ⟨by decide +kernel, j_in 1121 (by decide +kernel) (by decide +kernel), j_in 107 (by decide +kernel) (by decide +kernel), by decide +kernel, by decide +kernel, by decide +kernel⟩
theorem cvRL_135 : j_CV RL 135 yX11_worth := ⟨Or.inl (j_in 1118 (by decide +kernel) (by decide +kernel)), j_in 1119 (by decide +kernel) (by decide +kernel), j_in 1120 (by decide +kernel) (by decide +kernel)⟩
theorem cb_X12_worth : j_CB yX12_worth cX12_worth 3 (some .int) 1 := ⟨by decide +kernel, j_in 1682 (by decide +kernel) (by decide +kernel), j_in 114 (by decide +kernel) (by decide +kernel), by decide +kernel, by decide +kernel, by decide +kernel⟩
theorem cvRL_138 : j_CV RL 138 yX12_worth := ⟨Or.inl (j_in 1679 (by decide +kernel) (by decide +kernel)), j_in 1680 (by decide +kernel) (by decide +kernel), j_in 1681 (by decide +kernel) (by decide +kernel)⟩
theorem cb_X11_look : j_CB yX11_look cX11_look 2 (some .int) 1 := ⟨by decide +kernel, j_in 1148 (by decide +kernel) (by decide +kernel), j_in 107 (by decide +kernel) (by decide +kernel), by decide +kernel, by decide +kernel, by decide +kernel⟩
theorem cvRL_144 : j_CV RL 144 yX11_look := ⟨Or.inl (j_in 1145 (by decide +kernel) (by decide +kernel)), j_in 1146 (by decide +kernel) (by decide +kernel), j_in 1147 (by decide +kernel) (by decide +kernel)⟩
theorem cb_X12_look : j_CB yX12_look cX12_look 2 (some .int) 1 := ⟨by decide +kernel, j_in 1802 (by decide +kernel) (by decide +kernel), j_in 114 (by decide +kernel) (by decide +kernel), by decide +kernel, by decide +kernel, by decide +kernel⟩
theorem cvRL_147 : j_CV RL 147 yX12_look := ⟨Or.inl (j_in 1799 (by decide +kernel) (by decide +kernel)), j_in 1800 (by decide +kernel) (by decide +kernel), j_in 1801 (by decide +kernel) (by decide +kernel)⟩
theorem cb_X11_image : j_CB yX11_image cX11_image 2 (some .boolean) 1 := ⟨by decide +kernel, j_in 1130 (by decide +kernel) (by decide +kernel), j_in 107 (by decide +kernel) (by decide +kernel), by decide +kernel, by decide +kernel, by decide +kernel⟩
theorem cvRL_139 : j_CV RL 139 yX11_image := ⟨Or.inl (j_in 1127 (by decide +kernel) (by decide +kernel)), j_in 1128 (by decide +kernel) (by decide +kernel), j_in 1129 (by decide +kernel) (by decide +kernel)⟩
theorem cb_X12_image : j_CB yX12_image cX12_image 3 (some .boolean) 1 := ⟨by decide +kernel, j_in 1798 (by decide +kernel) (by decide +kernel), j_in 114 (by decide +kernel) (by decide +kernel), by decide +kernel, by decide +kernel, by decide +kernel⟩
theorem cvRL_143 : j_CV RL 143 yX12_image := ⟨Or.inl (j_in 1795 (by decide +kernel) (by decide +kernel)), j_in 1796 (by decide +kernel) (by decide +kernel), j_in 1797 (by decide +kernel) (by decide +kernel)⟩
theorem dL_law_16 : decode cL_law 16 = .ok (.iconst 0, 1) := by decide +kernel
theorem dL_law_17 : decode cL_law 17 = .ok (.istore_n 3, 1) := by decide +kernel
theorem dL_law_18 : decode cL_law 18 = .ok (.iload_n 3, 1) := by decide +kernel
theorem dL_law_19 : decode cL_law 19 = .ok (.aload_n 0, 1) := by decide +kernel
theorem dL_law_20 : decode cL_law 20 = .ok (.arraylength, 1) := by decide +kernel
theorem dL_law_21 : decode cL_law 21 = .ok (.bipush 6, 2) := by decide +kernel
theorem dL_law_23 : decode cL_law 23 = .ok (.isub, 1) := by decide +kernel
theorem dL_law_24 : decode cL_law 24 = .ok (.if_icmp .gt 1180, 3) := by decide +kernel
theorem dL_law_27 : decode cL_law 27 = .ok (.aload_n 0, 1) := by decide +kernel
theorem dL_law_28 : decode cL_law 28 = .ok (.iload_n 3, 1) := by decide +kernel
theorem dL_law_29 : decode cL_law 29 = .ok (.iaload, 1) := by decide +kernel
theorem dL_law_30 : decode cL_law 30 = .ok (.bipush 31, 2) := by decide +kernel
theorem dL_law_32 : decode cL_law 32 = .ok (.iand, 1) := by decide +kernel
theorem dL_law_33 : decode cL_law 33 = .ok (.tableswitch 1165 0 31 #[143, 166, 199, 232, 275, 318, 351, 374, 397, 420, 483, 506, 529, 552, 575, 608, 651, 684, 727, 760, 793, 826, 849, 872, 905, 938, 971, 1004, 1047, 1080, 1103, 1142], 143) := by decide +kernel
theorem dL_law_176 : decode cL_law 176 = .ok (.aload_n 1, 1) := by decide +kernel
theorem dL_law_177 : decode cL_law 177 = .ok (.aload_n 0, 1) := by decide +kernel
theorem dL_law_178 : decode cL_law 178 = .ok (.iload_n 3, 1) := by decide +kernel
theorem dL_law_179 : decode cL_law 179 = .ok (.iconst 1, 1) := by decide +kernel
theorem dL_law_180 : decode cL_law 180 = .ok (.iadd, 1) := by decide +kernel
theorem dL_law_181 : decode cL_law 181 = .ok (.iaload, 1) := by decide +kernel
theorem dL_law_182 : decode cL_law 182 = .ok (.invokevirtual 13, 3) := by decide +kernel
theorem dL_law_185 : decode cL_law 185 = .ok (.aload_n 2, 1) := by decide +kernel
theorem dL_law_186 : decode cL_law 186 = .ok (.aload_n 0, 1) := by decide +kernel
theorem dL_law_187 : decode cL_law 187 = .ok (.iload_n 3, 1) := by decide +kernel
theorem dL_law_188 : decode cL_law 188 = .ok (.iconst 1, 1) := by decide +kernel
theorem dL_law_189 : decode cL_law 189 = .ok (.iadd, 1) := by decide +kernel
theorem dL_law_190 : decode cL_law 190 = .ok (.iaload, 1) := by decide +kernel
theorem dL_law_191 : decode cL_law 191 = .ok (.invokevirtual 17, 3) := by decide +kernel
theorem dL_law_194 : decode cL_law 194 = .ok (.if_icmp .eq 1004, 3) := by decide +kernel
theorem dL_law_197 : decode cL_law 197 = .ok (.iconst 0, 1) := by decide +kernel
theorem dL_law_198 : decode cL_law 198 = .ok (.ireturn, 1) := by decide +kernel
theorem dL_law_199 : decode cL_law 199 = .ok (.aload_n 1, 1) := by decide +kernel
theorem dL_law_200 : decode cL_law 200 = .ok (.aload_n 0, 1) := by decide +kernel
theorem dL_law_201 : decode cL_law 201 = .ok (.iload_n 3, 1) := by decide +kernel
theorem dL_law_202 : decode cL_law 202 = .ok (.iconst 1, 1) := by decide +kernel
theorem dL_law_203 : decode cL_law 203 = .ok (.iadd, 1) := by decide +kernel
theorem dL_law_204 : decode cL_law 204 = .ok (.iaload, 1) := by decide +kernel
theorem dL_law_205 : decode cL_law 205 = .ok (.aload_n 0, 1) := by decide +kernel
theorem dL_law_206 : decode cL_law 206 = .ok (.iload_n 3, 1) := by decide +kernel
theorem dL_law_207 : decode cL_law 207 = .ok (.iconst 2, 1) := by decide +kernel
theorem dL_law_208 : decode cL_law 208 = .ok (.iadd, 1) := by decide +kernel
theorem dL_law_209 : decode cL_law 209 = .ok (.iaload, 1) := by decide +kernel
theorem dL_law_210 : decode cL_law 210 = .ok (.invokevirtual 18, 3) := by decide +kernel
theorem dL_law_213 : decode cL_law 213 = .ok (.aload_n 2, 1) := by decide +kernel
theorem dL_law_214 : decode cL_law 214 = .ok (.aload_n 0, 1) := by decide +kernel
theorem dL_law_215 : decode cL_law 215 = .ok (.iload_n 3, 1) := by decide +kernel
theorem dL_law_216 : decode cL_law 216 = .ok (.iconst 1, 1) := by decide +kernel
theorem dL_law_217 : decode cL_law 217 = .ok (.iadd, 1) := by decide +kernel
theorem dL_law_218 : decode cL_law 218 = .ok (.iaload, 1) := by decide +kernel
theorem dL_law_219 : decode cL_law 219 = .ok (.aload_n 0, 1) := by decide +kernel
theorem dL_law_220 : decode cL_law 220 = .ok (.iload_n 3, 1) := by decide +kernel
theorem dL_law_221 : decode cL_law 221 = .ok (.iconst 2, 1) := by decide +kernel
theorem dL_law_222 : decode cL_law 222 = .ok (.iadd, 1) := by decide +kernel
theorem dL_law_223 : decode cL_law 223 = .ok (.iaload, 1) := by decide +kernel
theorem dL_law_224 : decode cL_law 224 = .ok (.invokevirtual 22, 3) := by decide +kernel
theorem dL_law_227 : decode cL_law 227 = .ok (.if_icmp .eq 971, 3) := by decide +kernel
theorem dL_law_230 : decode cL_law 230 = .ok (.iconst 0, 1) := by decide +kernel
theorem dL_law_231 : decode cL_law 231 = .ok (.ireturn, 1) := by decide +kernel
theorem dL_law_232 : decode cL_law 232 = .ok (.aload_n 1, 1) := by decide +kernel
theorem dL_law_233 : decode cL_law 233 = .ok (.aload_n 0, 1) := by decide +kernel
theorem dL_law_234 : decode cL_law 234 = .ok (.iload_n 3, 1) := by decide +kernel
theorem dL_law_235 : decode cL_law 235 = .ok (.iconst 1, 1) := by decide +kernel
theorem dL_law_236 : decode cL_law 236 = .ok (.iadd, 1) := by decide +kernel
theorem dL_law_237 : decode cL_law 237 = .ok (.iaload, 1) := by decide +kernel
theorem dL_law_238 : decode cL_law 238 = .ok (.aload_n 0, 1) := by decide +kernel
theorem dL_law_239 : decode cL_law 239 = .ok (.iload_n 3, 1) := by decide +kernel
theorem dL_law_240 : decode cL_law 240 = .ok (.iconst 2, 1) := by decide +kernel
theorem dL_law_241 : decode cL_law 241 = .ok (.iadd, 1) := by decide +kernel
theorem dL_law_242 : decode cL_law 242 = .ok (.iaload, 1) := by decide +kernel
theorem dL_law_243 : decode cL_law 243 = .ok (.invokevirtual 23, 3) := by decide +kernel
theorem dL_law_246 : decode cL_law 246 = .ok (.aload_n 2, 1) := by decide +kernel
theorem dL_law_247 : decode cL_law 247 = .ok (.aload_n 0, 1) := by decide +kernel
theorem dL_law_248 : decode cL_law 248 = .ok (.iload_n 3, 1) := by decide +kernel
theorem dL_law_249 : decode cL_law 249 = .ok (.iconst 1, 1) := by decide +kernel
theorem dL_law_250 : decode cL_law 250 = .ok (.iadd, 1) := by decide +kernel
theorem dL_law_251 : decode cL_law 251 = .ok (.iaload, 1) := by decide +kernel
theorem dL_law_252 : decode cL_law 252 = .ok (.aload_n 0, 1) := by decide +kernel
theorem dL_law_253 : decode cL_law 253 = .ok (.iload_n 3, 1) := by decide +kernel
theorem dL_law_254 : decode cL_law 254 = .ok (.iconst 2, 1) := by decide +kernel
theorem dL_law_255 : decode cL_law 255 = .ok (.iadd, 1) := by decide +kernel
theorem dL_law_256 : decode cL_law 256 = .ok (.iaload, 1) := by decide +kernel
theorem dL_law_257 : decode cL_law 257 = .ok (.invokevirtual 27, 3) := by decide +kernel
theorem dL_law_260 : decode cL_law 260 = .ok (.if_icmp .eq 938, 3) := by decide +kernel
theorem dL_law_263 : decode cL_law 263 = .ok (.iconst 0, 1) := by decide +kernel
theorem dL_law_264 : decode cL_law 264 = .ok (.ireturn, 1) := by decide +kernel
theorem dL_law_265 : decode cL_law 265 = .ok (.aload_n 1, 1) := by decide +kernel
theorem dL_law_266 : decode cL_law 266 = .ok (.aload_n 0, 1) := by decide +kernel
theorem dL_law_267 : decode cL_law 267 = .ok (.iload_n 3, 1) := by decide +kernel
theorem dL_law_268 : decode cL_law 268 = .ok (.iconst 1, 1) := by decide +kernel
theorem dL_law_269 : decode cL_law 269 = .ok (.iadd, 1) := by decide +kernel
theorem dL_law_270 : decode cL_law 270 = .ok (.iaload, 1) := by decide +kernel
theorem dL_law_271 : decode cL_law 271 = .ok (.aload_n 0, 1) := by decide +kernel
theorem dL_law_272 : decode cL_law 272 = .ok (.iload_n 3, 1) := by decide +kernel
theorem dL_law_273 : decode cL_law 273 = .ok (.iconst 2, 1) := by decide +kernel
theorem dL_law_274 : decode cL_law 274 = .ok (.iadd, 1) := by decide +kernel
theorem dL_law_275 : decode cL_law 275 = .ok (.iaload, 1) := by decide +kernel
theorem dL_law_276 : decode cL_law 276 = .ok (.aload_n 0, 1) := by decide +kernel
theorem dL_law_277 : decode cL_law 277 = .ok (.iload_n 3, 1) := by decide +kernel
theorem dL_law_278 : decode cL_law 278 = .ok (.iconst 3, 1) := by decide +kernel
theorem dL_law_279 : decode cL_law 279 = .ok (.iadd, 1) := by decide +kernel
theorem dL_law_280 : decode cL_law 280 = .ok (.iaload, 1) := by decide +kernel
theorem dL_law_281 : decode cL_law 281 = .ok (.invokevirtual 28, 3) := by decide +kernel
theorem dL_law_284 : decode cL_law 284 = .ok (.aload_n 2, 1) := by decide +kernel
theorem dL_law_285 : decode cL_law 285 = .ok (.aload_n 0, 1) := by decide +kernel
theorem dL_law_286 : decode cL_law 286 = .ok (.iload_n 3, 1) := by decide +kernel
theorem dL_law_287 : decode cL_law 287 = .ok (.iconst 1, 1) := by decide +kernel
theorem dL_law_288 : decode cL_law 288 = .ok (.iadd, 1) := by decide +kernel
theorem dL_law_289 : decode cL_law 289 = .ok (.iaload, 1) := by decide +kernel
theorem dL_law_290 : decode cL_law 290 = .ok (.aload_n 0, 1) := by decide +kernel
theorem dL_law_291 : decode cL_law 291 = .ok (.iload_n 3, 1) := by decide +kernel
theorem dL_law_292 : decode cL_law 292 = .ok (.iconst 2, 1) := by decide +kernel
theorem dL_law_293 : decode cL_law 293 = .ok (.iadd, 1) := by decide +kernel
theorem dL_law_294 : decode cL_law 294 = .ok (.iaload, 1) := by decide +kernel
theorem dL_law_295 : decode cL_law 295 = .ok (.aload_n 0, 1) := by decide +kernel
theorem dL_law_296 : decode cL_law 296 = .ok (.iload_n 3, 1) := by decide +kernel
theorem dL_law_297 : decode cL_law 297 = .ok (.iconst 3, 1) := by decide +kernel
theorem dL_law_298 : decode cL_law 298 = .ok (.iadd, 1) := by decide +kernel
theorem dL_law_299 : decode cL_law 299 = .ok (.iaload, 1) := by decide +kernel
theorem dL_law_300 : decode cL_law 300 = .ok (.invokevirtual 32, 3) := by decide +kernel
theorem dL_law_303 : decode cL_law 303 = .ok (.if_icmp .eq 895, 3) := by decide +kernel
theorem dL_law_306 : decode cL_law 306 = .ok (.iconst 0, 1) := by decide +kernel
theorem dL_law_307 : decode cL_law 307 = .ok (.ireturn, 1) := by decide +kernel
theorem dL_law_308 : decode cL_law 308 = .ok (.aload_n 1, 1) := by decide +kernel
theorem dL_law_309 : decode cL_law 309 = .ok (.aload_n 0, 1) := by decide +kernel
theorem dL_law_310 : decode cL_law 310 = .ok (.iload_n 3, 1) := by decide +kernel
theorem dL_law_311 : decode cL_law 311 = .ok (.iconst 1, 1) := by decide +kernel
theorem dL_law_312 : decode cL_law 312 = .ok (.iadd, 1) := by decide +kernel
theorem dL_law_313 : decode cL_law 313 = .ok (.iaload, 1) := by decide +kernel
theorem dL_law_314 : decode cL_law 314 = .ok (.aload_n 0, 1) := by decide +kernel
theorem dL_law_315 : decode cL_law 315 = .ok (.iload_n 3, 1) := by decide +kernel
theorem dL_law_316 : decode cL_law 316 = .ok (.iconst 2, 1) := by decide +kernel
theorem dL_law_317 : decode cL_law 317 = .ok (.iadd, 1) := by decide +kernel
theorem dL_law_318 : decode cL_law 318 = .ok (.iaload, 1) := by decide +kernel
theorem dL_law_319 : decode cL_law 319 = .ok (.aload_n 0, 1) := by decide +kernel
theorem dL_law_320 : decode cL_law 320 = .ok (.iload_n 3, 1) := by decide +kernel
theorem dL_law_321 : decode cL_law 321 = .ok (.iconst 3, 1) := by decide +kernel
theorem dL_law_322 : decode cL_law 322 = .ok (.iadd, 1) := by decide +kernel
theorem dL_law_323 : decode cL_law 323 = .ok (.iaload, 1) := by decide +kernel
theorem dL_law_324 : decode cL_law 324 = .ok (.invokevirtual 33, 3) := by decide +kernel
theorem dL_law_327 : decode cL_law 327 = .ok (.aload_n 2, 1) := by decide +kernel
theorem dL_law_328 : decode cL_law 328 = .ok (.aload_n 0, 1) := by decide +kernel
theorem dL_law_329 : decode cL_law 329 = .ok (.iload_n 3, 1) := by decide +kernel
theorem dL_law_330 : decode cL_law 330 = .ok (.iconst 1, 1) := by decide +kernel
theorem dL_law_331 : decode cL_law 331 = .ok (.iadd, 1) := by decide +kernel
theorem dL_law_332 : decode cL_law 332 = .ok (.iaload, 1) := by decide +kernel
theorem dL_law_333 : decode cL_law 333 = .ok (.aload_n 0, 1) := by decide +kernel
theorem dL_law_334 : decode cL_law 334 = .ok (.iload_n 3, 1) := by decide +kernel
theorem dL_law_335 : decode cL_law 335 = .ok (.iconst 2, 1) := by decide +kernel
theorem dL_law_336 : decode cL_law 336 = .ok (.iadd, 1) := by decide +kernel
theorem dL_law_337 : decode cL_law 337 = .ok (.iaload, 1) := by decide +kernel
theorem dL_law_338 : decode cL_law 338 = .ok (.aload_n 0, 1) := by decide +kernel
theorem dL_law_339 : decode cL_law 339 = .ok (.iload_n 3, 1) := by decide +kernel
theorem dL_law_340 : decode cL_law 340 = .ok (.iconst 3, 1) := by decide +kernel
theorem dL_law_341 : decode cL_law 341 = .ok (.iadd, 1) := by decide +kernel
theorem dL_law_342 : decode cL_law 342 = .ok (.iaload, 1) := by decide +kernel
theorem dL_law_343 : decode cL_law 343 = .ok (.invokevirtual 36, 3) := by decide +kernel
theorem dL_law_346 : decode cL_law 346 = .ok (.if_icmp .eq 852, 3) := by decide +kernel
theorem dL_law_349 : decode cL_law 349 = .ok (.iconst 0, 1) := by decide +kernel
theorem dL_law_350 : decode cL_law 350 = .ok (.ireturn, 1) := by decide +kernel
theorem dL_law_351 : decode cL_law 351 = .ok (.aload_n 1, 1) := by decide +kernel
theorem dL_law_352 : decode cL_law 352 = .ok (.aload_n 0, 1) := by decide +kernel
theorem dL_law_353 : decode cL_law 353 = .ok (.iload_n 3, 1) := by decide +kernel
theorem dL_law_354 : decode cL_law 354 = .ok (.iconst 1, 1) := by decide +kernel
theorem dL_law_355 : decode cL_law 355 = .ok (.iadd, 1) := by decide +kernel
theorem dL_law_356 : decode cL_law 356 = .ok (.iaload, 1) := by decide +kernel
theorem dL_law_357 : decode cL_law 357 = .ok (.aload_n 0, 1) := by decide +kernel
theorem dL_law_358 : decode cL_law 358 = .ok (.iload_n 3, 1) := by decide +kernel
theorem dL_law_359 : decode cL_law 359 = .ok (.iconst 2, 1) := by decide +kernel
theorem dL_law_360 : decode cL_law 360 = .ok (.iadd, 1) := by decide +kernel
theorem dL_law_361 : decode cL_law 361 = .ok (.iaload, 1) := by decide +kernel
theorem dL_law_362 : decode cL_law 362 = .ok (.invokevirtual 37, 3) := by decide +kernel
theorem dL_law_365 : decode cL_law 365 = .ok (.aload_n 2, 1) := by decide +kernel
theorem dL_law_366 : decode cL_law 366 = .ok (.aload_n 0, 1) := by decide +kernel
theorem dL_law_367 : decode cL_law 367 = .ok (.iload_n 3, 1) := by decide +kernel
theorem dL_law_368 : decode cL_law 368 = .ok (.iconst 1, 1) := by decide +kernel
theorem dL_law_369 : decode cL_law 369 = .ok (.iadd, 1) := by decide +kernel
theorem dL_law_370 : decode cL_law 370 = .ok (.iaload, 1) := by decide +kernel
theorem dL_law_371 : decode cL_law 371 = .ok (.aload_n 0, 1) := by decide +kernel
theorem dL_law_372 : decode cL_law 372 = .ok (.iload_n 3, 1) := by decide +kernel
theorem dL_law_373 : decode cL_law 373 = .ok (.iconst 2, 1) := by decide +kernel
theorem dL_law_374 : decode cL_law 374 = .ok (.iadd, 1) := by decide +kernel
theorem dL_law_375 : decode cL_law 375 = .ok (.iaload, 1) := by decide +kernel
theorem dL_law_376 : decode cL_law 376 = .ok (.invokevirtual 40, 3) := by decide +kernel
theorem dL_law_379 : decode cL_law 379 = .ok (.if_icmp .eq 819, 3) := by decide +kernel
theorem dL_law_382 : decode cL_law 382 = .ok (.iconst 0, 1) := by decide +kernel
theorem dL_law_383 : decode cL_law 383 = .ok (.ireturn, 1) := by decide +kernel
theorem dL_law_384 : decode cL_law 384 = .ok (.aload_n 1, 1) := by decide +kernel
theorem dL_law_385 : decode cL_law 385 = .ok (.aload_n 0, 1) := by decide +kernel
theorem dL_law_386 : decode cL_law 386 = .ok (.iload_n 3, 1) := by decide +kernel
theorem dL_law_387 : decode cL_law 387 = .ok (.iconst 1, 1) := by decide +kernel
theorem dL_law_388 : decode cL_law 388 = .ok (.iadd, 1) := by decide +kernel
theorem dL_law_389 : decode cL_law 389 = .ok (.iaload, 1) := by decide +kernel
theorem dL_law_390 : decode cL_law 390 = .ok (.invokevirtual 41, 3) := by decide +kernel
theorem dL_law_393 : decode cL_law 393 = .ok (.aload_n 2, 1) := by decide +kernel
theorem dL_law_394 : decode cL_law 394 = .ok (.aload_n 0, 1) := by decide +kernel
theorem dL_law_395 : decode cL_law 395 = .ok (.iload_n 3, 1) := by decide +kernel
theorem dL_law_396 : decode cL_law 396 = .ok (.iconst 1, 1) := by decide +kernel
theorem dL_law_397 : decode cL_law 397 = .ok (.iadd, 1) := by decide +kernel
theorem dL_law_398 : decode cL_law 398 = .ok (.iaload, 1) := by decide +kernel
theorem dL_law_399 : decode cL_law 399 = .ok (.invokevirtual 44, 3) := by decide +kernel
theorem dL_law_402 : decode cL_law 402 = .ok (.if_icmp .eq 796, 3) := by decide +kernel
theorem dL_law_405 : decode cL_law 405 = .ok (.iconst 0, 1) := by decide +kernel
theorem dL_law_406 : decode cL_law 406 = .ok (.ireturn, 1) := by decide +kernel
theorem dL_law_407 : decode cL_law 407 = .ok (.aload_n 1, 1) := by decide +kernel
theorem dL_law_408 : decode cL_law 408 = .ok (.aload_n 0, 1) := by decide +kernel
theorem dL_law_409 : decode cL_law 409 = .ok (.iload_n 3, 1) := by decide +kernel
theorem dL_law_410 : decode cL_law 410 = .ok (.iconst 1, 1) := by decide +kernel
theorem dL_law_411 : decode cL_law 411 = .ok (.iadd, 1) := by decide +kernel
theorem dL_law_412 : decode cL_law 412 = .ok (.iaload, 1) := by decide +kernel
theorem dL_law_413 : decode cL_law 413 = .ok (.invokevirtual 45, 3) := by decide +kernel
theorem dL_law_416 : decode cL_law 416 = .ok (.aload_n 2, 1) := by decide +kernel
theorem dL_law_417 : decode cL_law 417 = .ok (.aload_n 0, 1) := by decide +kernel
theorem dL_law_418 : decode cL_law 418 = .ok (.iload_n 3, 1) := by decide +kernel
theorem dL_law_419 : decode cL_law 419 = .ok (.iconst 1, 1) := by decide +kernel
theorem dL_law_420 : decode cL_law 420 = .ok (.iadd, 1) := by decide +kernel
theorem dL_law_421 : decode cL_law 421 = .ok (.iaload, 1) := by decide +kernel
theorem dL_law_422 : decode cL_law 422 = .ok (.invokevirtual 48, 3) := by decide +kernel
theorem dL_law_425 : decode cL_law 425 = .ok (.if_icmp .eq 773, 3) := by decide +kernel
theorem dL_law_428 : decode cL_law 428 = .ok (.iconst 0, 1) := by decide +kernel
theorem dL_law_429 : decode cL_law 429 = .ok (.ireturn, 1) := by decide +kernel
theorem dL_law_430 : decode cL_law 430 = .ok (.aload_n 1, 1) := by decide +kernel
theorem dL_law_431 : decode cL_law 431 = .ok (.aload_n 0, 1) := by decide +kernel
theorem dL_law_432 : decode cL_law 432 = .ok (.iload_n 3, 1) := by decide +kernel
theorem dL_law_433 : decode cL_law 433 = .ok (.iconst 1, 1) := by decide +kernel
theorem dL_law_434 : decode cL_law 434 = .ok (.iadd, 1) := by decide +kernel
theorem dL_law_435 : decode cL_law 435 = .ok (.iaload, 1) := by decide +kernel
theorem dL_law_436 : decode cL_law 436 = .ok (.invokevirtual 49, 3) := by decide +kernel
theorem dL_law_439 : decode cL_law 439 = .ok (.aload_n 2, 1) := by decide +kernel
theorem dL_law_440 : decode cL_law 440 = .ok (.aload_n 0, 1) := by decide +kernel
theorem dL_law_441 : decode cL_law 441 = .ok (.iload_n 3, 1) := by decide +kernel
theorem dL_law_442 : decode cL_law 442 = .ok (.iconst 1, 1) := by decide +kernel
theorem dL_law_443 : decode cL_law 443 = .ok (.iadd, 1) := by decide +kernel
theorem dL_law_444 : decode cL_law 444 = .ok (.iaload, 1) := by decide +kernel
theorem dL_law_445 : decode cL_law 445 = .ok (.invokevirtual 52, 3) := by decide +kernel
theorem dL_law_448 : decode cL_law 448 = .ok (.if_icmp .eq 750, 3) := by decide +kernel
theorem dL_law_451 : decode cL_law 451 = .ok (.iconst 0, 1) := by decide +kernel
theorem dL_law_452 : decode cL_law 452 = .ok (.ireturn, 1) := by decide +kernel
theorem dL_law_453 : decode cL_law 453 = .ok (.aload_n 1, 1) := by decide +kernel
theorem dL_law_454 : decode cL_law 454 = .ok (.aload_n 0, 1) := by decide +kernel
theorem dL_law_455 : decode cL_law 455 = .ok (.iload_n 3, 1) := by decide +kernel
theorem dL_law_456 : decode cL_law 456 = .ok (.iconst 1, 1) := by decide +kernel
theorem dL_law_457 : decode cL_law 457 = .ok (.iadd, 1) := by decide +kernel
theorem dL_law_458 : decode cL_law 458 = .ok (.iaload, 1) := by decide +kernel
theorem dL_law_459 : decode cL_law 459 = .ok (.aload_n 0, 1) := by decide +kernel
theorem dL_law_460 : decode cL_law 460 = .ok (.iload_n 3, 1) := by decide +kernel
theorem dL_law_461 : decode cL_law 461 = .ok (.iconst 2, 1) := by decide +kernel
theorem dL_law_462 : decode cL_law 462 = .ok (.iadd, 1) := by decide +kernel
theorem dL_law_463 : decode cL_law 463 = .ok (.iaload, 1) := by decide +kernel
theorem dL_law_464 : decode cL_law 464 = .ok (.aload_n 0, 1) := by decide +kernel
theorem dL_law_465 : decode cL_law 465 = .ok (.iload_n 3, 1) := by decide +kernel
theorem dL_law_466 : decode cL_law 466 = .ok (.iconst 3, 1) := by decide +kernel
theorem dL_law_467 : decode cL_law 467 = .ok (.iadd, 1) := by decide +kernel
theorem dL_law_468 : decode cL_law 468 = .ok (.iaload, 1) := by decide +kernel
theorem dL_law_469 : decode cL_law 469 = .ok (.aload_n 0, 1) := by decide +kernel
theorem dL_law_470 : decode cL_law 470 = .ok (.iload_n 3, 1) := by decide +kernel
theorem dL_law_471 : decode cL_law 471 = .ok (.iconst 4, 1) := by decide +kernel
theorem dL_law_472 : decode cL_law 472 = .ok (.iadd, 1) := by decide +kernel
theorem dL_law_473 : decode cL_law 473 = .ok (.iaload, 1) := by decide +kernel
theorem dL_law_474 : decode cL_law 474 = .ok (.aload_n 0, 1) := by decide +kernel
theorem dL_law_475 : decode cL_law 475 = .ok (.iload_n 3, 1) := by decide +kernel
theorem dL_law_476 : decode cL_law 476 = .ok (.iconst 5, 1) := by decide +kernel
theorem dL_law_477 : decode cL_law 477 = .ok (.iadd, 1) := by decide +kernel
theorem dL_law_478 : decode cL_law 478 = .ok (.iaload, 1) := by decide +kernel
theorem dL_law_479 : decode cL_law 479 = .ok (.invokevirtual 53, 3) := by decide +kernel
theorem dL_law_482 : decode cL_law 482 = .ok (.aload_n 2, 1) := by decide +kernel
theorem dL_law_483 : decode cL_law 483 = .ok (.aload_n 0, 1) := by decide +kernel
theorem dL_law_484 : decode cL_law 484 = .ok (.iload_n 3, 1) := by decide +kernel
theorem dL_law_485 : decode cL_law 485 = .ok (.iconst 1, 1) := by decide +kernel
theorem dL_law_486 : decode cL_law 486 = .ok (.iadd, 1) := by decide +kernel
theorem dL_law_487 : decode cL_law 487 = .ok (.iaload, 1) := by decide +kernel
theorem dL_law_488 : decode cL_law 488 = .ok (.aload_n 0, 1) := by decide +kernel
theorem dL_law_489 : decode cL_law 489 = .ok (.iload_n 3, 1) := by decide +kernel
theorem dL_law_490 : decode cL_law 490 = .ok (.iconst 2, 1) := by decide +kernel
theorem dL_law_491 : decode cL_law 491 = .ok (.iadd, 1) := by decide +kernel
theorem dL_law_492 : decode cL_law 492 = .ok (.iaload, 1) := by decide +kernel
theorem dL_law_493 : decode cL_law 493 = .ok (.aload_n 0, 1) := by decide +kernel
theorem dL_law_494 : decode cL_law 494 = .ok (.iload_n 3, 1) := by decide +kernel
theorem dL_law_495 : decode cL_law 495 = .ok (.iconst 3, 1) := by decide +kernel
theorem dL_law_496 : decode cL_law 496 = .ok (.iadd, 1) := by decide +kernel
theorem dL_law_497 : decode cL_law 497 = .ok (.iaload, 1) := by decide +kernel
theorem dL_law_498 : decode cL_law 498 = .ok (.aload_n 0, 1) := by decide +kernel
theorem dL_law_499 : decode cL_law 499 = .ok (.iload_n 3, 1) := by decide +kernel
theorem dL_law_500 : decode cL_law 500 = .ok (.iconst 4, 1) := by decide +kernel
theorem dL_law_501 : decode cL_law 501 = .ok (.iadd, 1) := by decide +kernel
theorem dL_law_502 : decode cL_law 502 = .ok (.iaload, 1) := by decide +kernel
theorem dL_law_503 : decode cL_law 503 = .ok (.aload_n 0, 1) := by decide +kernel
theorem dL_law_504 : decode cL_law 504 = .ok (.iload_n 3, 1) := by decide +kernel
theorem dL_law_505 : decode cL_law 505 = .ok (.iconst 5, 1) := by decide +kernel
theorem dL_law_506 : decode cL_law 506 = .ok (.iadd, 1) := by decide +kernel
theorem dL_law_507 : decode cL_law 507 = .ok (.iaload, 1) := by decide +kernel
theorem dL_law_508 : decode cL_law 508 = .ok (.invokevirtual 57, 3) := by decide +kernel
theorem dL_law_511 : decode cL_law 511 = .ok (.if_icmp .eq 687, 3) := by decide +kernel
theorem dL_law_514 : decode cL_law 514 = .ok (.iconst 0, 1) := by decide +kernel
theorem dL_law_515 : decode cL_law 515 = .ok (.ireturn, 1) := by decide +kernel
theorem dL_law_516 : decode cL_law 516 = .ok (.aload_n 1, 1) := by decide +kernel
theorem dL_law_517 : decode cL_law 517 = .ok (.aload_n 0, 1) := by decide +kernel
theorem dL_law_518 : decode cL_law 518 = .ok (.iload_n 3, 1) := by decide +kernel
theorem dL_law_519 : decode cL_law 519 = .ok (.iconst 1, 1) := by decide +kernel
theorem dL_law_520 : decode cL_law 520 = .ok (.iadd, 1) := by decide +kernel
theorem dL_law_521 : decode cL_law 521 = .ok (.iaload, 1) := by decide +kernel
theorem dL_law_522 : decode cL_law 522 = .ok (.invokevirtual 58, 3) := by decide +kernel
theorem dL_law_525 : decode cL_law 525 = .ok (.aload_n 2, 1) := by decide +kernel
theorem dL_law_526 : decode cL_law 526 = .ok (.aload_n 0, 1) := by decide +kernel
theorem dL_law_527 : decode cL_law 527 = .ok (.iload_n 3, 1) := by decide +kernel
theorem dL_law_528 : decode cL_law 528 = .ok (.iconst 1, 1) := by decide +kernel
theorem dL_law_529 : decode cL_law 529 = .ok (.iadd, 1) := by decide +kernel
theorem dL_law_530 : decode cL_law 530 = .ok (.iaload, 1) := by decide +kernel
theorem dL_law_531 : decode cL_law 531 = .ok (.invokevirtual 62, 3) := by decide +kernel
theorem dL_law_534 : decode cL_law 534 = .ok (.if_icmp .eq 664, 3) := by decide +kernel
theorem dL_law_537 : decode cL_law 537 = .ok (.iconst 0, 1) := by decide +kernel
theorem dL_law_538 : decode cL_law 538 = .ok (.ireturn, 1) := by decide +kernel
theorem dL_law_539 : decode cL_law 539 = .ok (.aload_n 1, 1) := by decide +kernel
theorem dL_law_540 : decode cL_law 540 = .ok (.aload_n 0, 1) := by decide +kernel
theorem dL_law_541 : decode cL_law 541 = .ok (.iload_n 3, 1) := by decide +kernel
theorem dL_law_542 : decode cL_law 542 = .ok (.iconst 1, 1) := by decide +kernel
theorem dL_law_543 : decode cL_law 543 = .ok (.iadd, 1) := by decide +kernel
theorem dL_law_544 : decode cL_law 544 = .ok (.iaload, 1) := by decide +kernel
theorem dL_law_545 : decode cL_law 545 = .ok (.invokevirtual 63, 3) := by decide +kernel
theorem dL_law_548 : decode cL_law 548 = .ok (.aload_n 2, 1) := by decide +kernel
theorem dL_law_549 : decode cL_law 549 = .ok (.aload_n 0, 1) := by decide +kernel
theorem dL_law_550 : decode cL_law 550 = .ok (.iload_n 3, 1) := by decide +kernel
theorem dL_law_551 : decode cL_law 551 = .ok (.iconst 1, 1) := by decide +kernel
theorem dL_law_552 : decode cL_law 552 = .ok (.iadd, 1) := by decide +kernel
theorem dL_law_553 : decode cL_law 553 = .ok (.iaload, 1) := by decide +kernel
theorem dL_law_554 : decode cL_law 554 = .ok (.invokevirtual 66, 3) := by decide +kernel
theorem dL_law_557 : decode cL_law 557 = .ok (.if_icmp .eq 641, 3) := by decide +kernel
theorem dL_law_560 : decode cL_law 560 = .ok (.iconst 0, 1) := by decide +kernel
theorem dL_law_561 : decode cL_law 561 = .ok (.ireturn, 1) := by decide +kernel
theorem dL_law_562 : decode cL_law 562 = .ok (.aload_n 1, 1) := by decide +kernel
theorem dL_law_563 : decode cL_law 563 = .ok (.aload_n 0, 1) := by decide +kernel
theorem dL_law_564 : decode cL_law 564 = .ok (.iload_n 3, 1) := by decide +kernel
theorem dL_law_565 : decode cL_law 565 = .ok (.iconst 1, 1) := by decide +kernel
theorem dL_law_566 : decode cL_law 566 = .ok (.iadd, 1) := by decide +kernel
theorem dL_law_567 : decode cL_law 567 = .ok (.iaload, 1) := by decide +kernel
theorem dL_law_568 : decode cL_law 568 = .ok (.invokevirtual 67, 3) := by decide +kernel
theorem dL_law_571 : decode cL_law 571 = .ok (.aload_n 2, 1) := by decide +kernel
theorem dL_law_572 : decode cL_law 572 = .ok (.aload_n 0, 1) := by decide +kernel
theorem dL_law_573 : decode cL_law 573 = .ok (.iload_n 3, 1) := by decide +kernel
theorem dL_law_574 : decode cL_law 574 = .ok (.iconst 1, 1) := by decide +kernel
theorem dL_law_575 : decode cL_law 575 = .ok (.iadd, 1) := by decide +kernel
theorem dL_law_576 : decode cL_law 576 = .ok (.iaload, 1) := by decide +kernel
theorem dL_law_577 : decode cL_law 577 = .ok (.invokevirtual 70, 3) := by decide +kernel
theorem dL_law_580 : decode cL_law 580 = .ok (.if_icmp .eq 618, 3) := by decide +kernel
theorem dL_law_583 : decode cL_law 583 = .ok (.iconst 0, 1) := by decide +kernel
theorem dL_law_584 : decode cL_law 584 = .ok (.ireturn, 1) := by decide +kernel
theorem dL_law_585 : decode cL_law 585 = .ok (.aload_n 1, 1) := by decide +kernel
theorem dL_law_586 : decode cL_law 586 = .ok (.aload_n 0, 1) := by decide +kernel
theorem dL_law_587 : decode cL_law 587 = .ok (.iload_n 3, 1) := by decide +kernel
theorem dL_law_588 : decode cL_law 588 = .ok (.iconst 1, 1) := by decide +kernel
theorem dL_law_589 : decode cL_law 589 = .ok (.iadd, 1) := by decide +kernel
theorem dL_law_590 : decode cL_law 590 = .ok (.iaload, 1) := by decide +kernel
theorem dL_law_591 : decode cL_law 591 = .ok (.invokevirtual 71, 3) := by decide +kernel
theorem dL_law_594 : decode cL_law 594 = .ok (.aload_n 2, 1) := by decide +kernel
theorem dL_law_595 : decode cL_law 595 = .ok (.aload_n 0, 1) := by decide +kernel
theorem dL_law_596 : decode cL_law 596 = .ok (.iload_n 3, 1) := by decide +kernel
theorem dL_law_597 : decode cL_law 597 = .ok (.iconst 1, 1) := by decide +kernel
theorem dL_law_598 : decode cL_law 598 = .ok (.iadd, 1) := by decide +kernel
theorem dL_law_599 : decode cL_law 599 = .ok (.iaload, 1) := by decide +kernel
theorem dL_law_600 : decode cL_law 600 = .ok (.invokevirtual 74, 3) := by decide +kernel
theorem dL_law_603 : decode cL_law 603 = .ok (.if_icmp .eq 595, 3) := by decide +kernel
theorem dL_law_606 : decode cL_law 606 = .ok (.iconst 0, 1) := by decide +kernel
theorem dL_law_607 : decode cL_law 607 = .ok (.ireturn, 1) := by decide +kernel
theorem dL_law_608 : decode cL_law 608 = .ok (.aload_n 1, 1) := by decide +kernel
theorem dL_law_609 : decode cL_law 609 = .ok (.aload_n 0, 1) := by decide +kernel
theorem dL_law_610 : decode cL_law 610 = .ok (.iload_n 3, 1) := by decide +kernel
theorem dL_law_611 : decode cL_law 611 = .ok (.iconst 1, 1) := by decide +kernel
theorem dL_law_612 : decode cL_law 612 = .ok (.iadd, 1) := by decide +kernel
theorem dL_law_613 : decode cL_law 613 = .ok (.iaload, 1) := by decide +kernel
theorem dL_law_614 : decode cL_law 614 = .ok (.aload_n 0, 1) := by decide +kernel
theorem dL_law_615 : decode cL_law 615 = .ok (.iload_n 3, 1) := by decide +kernel
theorem dL_law_616 : decode cL_law 616 = .ok (.iconst 2, 1) := by decide +kernel
theorem dL_law_617 : decode cL_law 617 = .ok (.iadd, 1) := by decide +kernel
theorem dL_law_618 : decode cL_law 618 = .ok (.iaload, 1) := by decide +kernel
theorem dL_law_619 : decode cL_law 619 = .ok (.invokevirtual 75, 3) := by decide +kernel
theorem dL_law_622 : decode cL_law 622 = .ok (.aload_n 2, 1) := by decide +kernel
theorem dL_law_623 : decode cL_law 623 = .ok (.aload_n 0, 1) := by decide +kernel
theorem dL_law_624 : decode cL_law 624 = .ok (.iload_n 3, 1) := by decide +kernel
theorem dL_law_625 : decode cL_law 625 = .ok (.iconst 1, 1) := by decide +kernel
theorem dL_law_626 : decode cL_law 626 = .ok (.iadd, 1) := by decide +kernel
theorem dL_law_627 : decode cL_law 627 = .ok (.iaload, 1) := by decide +kernel
theorem dL_law_628 : decode cL_law 628 = .ok (.aload_n 0, 1) := by decide +kernel
theorem dL_law_629 : decode cL_law 629 = .ok (.iload_n 3, 1) := by decide +kernel
theorem dL_law_630 : decode cL_law 630 = .ok (.iconst 2, 1) := by decide +kernel
theorem dL_law_631 : decode cL_law 631 = .ok (.iadd, 1) := by decide +kernel
theorem dL_law_632 : decode cL_law 632 = .ok (.iaload, 1) := by decide +kernel
theorem dL_law_633 : decode cL_law 633 = .ok (.invokevirtual 78, 3) := by decide +kernel
theorem dL_law_636 : decode cL_law 636 = .ok (.if_icmp .eq 562, 3) := by decide +kernel
theorem dL_law_639 : decode cL_law 639 = .ok (.iconst 0, 1) := by decide +kernel
theorem dL_law_640 : decode cL_law 640 = .ok (.ireturn, 1) := by decide +kernel
theorem dL_law_641 : decode cL_law 641 = .ok (.aload_n 1, 1) := by decide +kernel
theorem dL_law_642 : decode cL_law 642 = .ok (.aload_n 0, 1) := by decide +kernel
theorem dL_law_643 : decode cL_law 643 = .ok (.iload_n 3, 1) := by decide +kernel
theorem dL_law_644 : decode cL_law 644 = .ok (.iconst 1, 1) := by decide +kernel
theorem dL_law_645 : decode cL_law 645 = .ok (.iadd, 1) := by decide +kernel
theorem dL_law_646 : decode cL_law 646 = .ok (.iaload, 1) := by decide +kernel
theorem dL_law_647 : decode cL_law 647 = .ok (.aload_n 0, 1) := by decide +kernel
theorem dL_law_648 : decode cL_law 648 = .ok (.iload_n 3, 1) := by decide +kernel
theorem dL_law_649 : decode cL_law 649 = .ok (.iconst 2, 1) := by decide +kernel
theorem dL_law_650 : decode cL_law 650 = .ok (.iadd, 1) := by decide +kernel
theorem dL_law_651 : decode cL_law 651 = .ok (.iaload, 1) := by decide +kernel
theorem dL_law_652 : decode cL_law 652 = .ok (.aload_n 0, 1) := by decide +kernel
theorem dL_law_653 : decode cL_law 653 = .ok (.iload_n 3, 1) := by decide +kernel
theorem dL_law_654 : decode cL_law 654 = .ok (.iconst 3, 1) := by decide +kernel
theorem dL_law_655 : decode cL_law 655 = .ok (.iadd, 1) := by decide +kernel
theorem dL_law_656 : decode cL_law 656 = .ok (.iaload, 1) := by decide +kernel
theorem dL_law_657 : decode cL_law 657 = .ok (.invokevirtual 79, 3) := by decide +kernel
theorem dL_law_660 : decode cL_law 660 = .ok (.aload_n 2, 1) := by decide +kernel
theorem dL_law_661 : decode cL_law 661 = .ok (.aload_n 0, 1) := by decide +kernel
theorem dL_law_662 : decode cL_law 662 = .ok (.iload_n 3, 1) := by decide +kernel
theorem dL_law_663 : decode cL_law 663 = .ok (.iconst 1, 1) := by decide +kernel
theorem dL_law_664 : decode cL_law 664 = .ok (.iadd, 1) := by decide +kernel
theorem dL_law_665 : decode cL_law 665 = .ok (.iaload, 1) := by decide +kernel
theorem dL_law_666 : decode cL_law 666 = .ok (.aload_n 0, 1) := by decide +kernel
theorem dL_law_667 : decode cL_law 667 = .ok (.iload_n 3, 1) := by decide +kernel
theorem dL_law_668 : decode cL_law 668 = .ok (.iconst 2, 1) := by decide +kernel
theorem dL_law_669 : decode cL_law 669 = .ok (.iadd, 1) := by decide +kernel
theorem dL_law_670 : decode cL_law 670 = .ok (.iaload, 1) := by decide +kernel
theorem dL_law_671 : decode cL_law 671 = .ok (.aload_n 0, 1) := by decide +kernel
theorem dL_law_672 : decode cL_law 672 = .ok (.iload_n 3, 1) := by decide +kernel
theorem dL_law_673 : decode cL_law 673 = .ok (.iconst 3, 1) := by decide +kernel
theorem dL_law_674 : decode cL_law 674 = .ok (.iadd, 1) := by decide +kernel
theorem dL_law_675 : decode cL_law 675 = .ok (.iaload, 1) := by decide +kernel
theorem dL_law_676 : decode cL_law 676 = .ok (.invokevirtual 82, 3) := by decide +kernel
theorem dL_law_679 : decode cL_law 679 = .ok (.if_icmp .eq 519, 3) := by decide +kernel
theorem dL_law_682 : decode cL_law 682 = .ok (.iconst 0, 1) := by decide +kernel
theorem dL_law_683 : decode cL_law 683 = .ok (.ireturn, 1) := by decide +kernel
theorem dL_law_684 : decode cL_law 684 = .ok (.aload_n 1, 1) := by decide +kernel
theorem dL_law_685 : decode cL_law 685 = .ok (.aload_n 0, 1) := by decide +kernel
theorem dL_law_686 : decode cL_law 686 = .ok (.iload_n 3, 1) := by decide +kernel
theorem dL_law_687 : decode cL_law 687 = .ok (.iconst 1, 1) := by decide +kernel
theorem dL_law_688 : decode cL_law 688 = .ok (.iadd, 1) := by decide +kernel
theorem dL_law_689 : decode cL_law 689 = .ok (.iaload, 1) := by decide +kernel
theorem dL_law_690 : decode cL_law 690 = .ok (.aload_n 0, 1) := by decide +kernel
theorem dL_law_691 : decode cL_law 691 = .ok (.iload_n 3, 1) := by decide +kernel
theorem dL_law_692 : decode cL_law 692 = .ok (.iconst 2, 1) := by decide +kernel
theorem dL_law_693 : decode cL_law 693 = .ok (.iadd, 1) := by decide +kernel
theorem dL_law_694 : decode cL_law 694 = .ok (.iaload, 1) := by decide +kernel
theorem dL_law_695 : decode cL_law 695 = .ok (.invokevirtual 83, 3) := by decide +kernel
theorem dL_law_698 : decode cL_law 698 = .ok (.aload_n 2, 1) := by decide +kernel
theorem dL_law_699 : decode cL_law 699 = .ok (.aload_n 0, 1) := by decide +kernel
theorem dL_law_700 : decode cL_law 700 = .ok (.iload_n 3, 1) := by decide +kernel
theorem dL_law_701 : decode cL_law 701 = .ok (.iconst 1, 1) := by decide +kernel
theorem dL_law_702 : decode cL_law 702 = .ok (.iadd, 1) := by decide +kernel
theorem dL_law_703 : decode cL_law 703 = .ok (.iaload, 1) := by decide +kernel
theorem dL_law_704 : decode cL_law 704 = .ok (.aload_n 0, 1) := by decide +kernel
theorem dL_law_705 : decode cL_law 705 = .ok (.iload_n 3, 1) := by decide +kernel
theorem dL_law_706 : decode cL_law 706 = .ok (.iconst 2, 1) := by decide +kernel
theorem dL_law_707 : decode cL_law 707 = .ok (.iadd, 1) := by decide +kernel
theorem dL_law_708 : decode cL_law 708 = .ok (.iaload, 1) := by decide +kernel
theorem dL_law_709 : decode cL_law 709 = .ok (.invokevirtual 86, 3) := by decide +kernel
theorem dL_law_712 : decode cL_law 712 = .ok (.if_icmp .eq 486, 3) := by decide +kernel
theorem dL_law_715 : decode cL_law 715 = .ok (.iconst 0, 1) := by decide +kernel
theorem dL_law_716 : decode cL_law 716 = .ok (.ireturn, 1) := by decide +kernel
theorem dL_law_717 : decode cL_law 717 = .ok (.aload_n 1, 1) := by decide +kernel
theorem dL_law_718 : decode cL_law 718 = .ok (.aload_n 0, 1) := by decide +kernel
theorem dL_law_719 : decode cL_law 719 = .ok (.iload_n 3, 1) := by decide +kernel
theorem dL_law_720 : decode cL_law 720 = .ok (.iconst 1, 1) := by decide +kernel
theorem dL_law_721 : decode cL_law 721 = .ok (.iadd, 1) := by decide +kernel
theorem dL_law_722 : decode cL_law 722 = .ok (.iaload, 1) := by decide +kernel
theorem dL_law_723 : decode cL_law 723 = .ok (.aload_n 0, 1) := by decide +kernel
theorem dL_law_724 : decode cL_law 724 = .ok (.iload_n 3, 1) := by decide +kernel
theorem dL_law_725 : decode cL_law 725 = .ok (.iconst 2, 1) := by decide +kernel
theorem dL_law_726 : decode cL_law 726 = .ok (.iadd, 1) := by decide +kernel
theorem dL_law_727 : decode cL_law 727 = .ok (.iaload, 1) := by decide +kernel
theorem dL_law_728 : decode cL_law 728 = .ok (.aload_n 0, 1) := by decide +kernel
theorem dL_law_729 : decode cL_law 729 = .ok (.iload_n 3, 1) := by decide +kernel
theorem dL_law_730 : decode cL_law 730 = .ok (.iconst 3, 1) := by decide +kernel
theorem dL_law_731 : decode cL_law 731 = .ok (.iadd, 1) := by decide +kernel
theorem dL_law_732 : decode cL_law 732 = .ok (.iaload, 1) := by decide +kernel
theorem dL_law_733 : decode cL_law 733 = .ok (.invokevirtual 87, 3) := by decide +kernel
theorem dL_law_736 : decode cL_law 736 = .ok (.aload_n 2, 1) := by decide +kernel
theorem dL_law_737 : decode cL_law 737 = .ok (.aload_n 0, 1) := by decide +kernel
theorem dL_law_738 : decode cL_law 738 = .ok (.iload_n 3, 1) := by decide +kernel
theorem dL_law_739 : decode cL_law 739 = .ok (.iconst 1, 1) := by decide +kernel
theorem dL_law_740 : decode cL_law 740 = .ok (.iadd, 1) := by decide +kernel
theorem dL_law_741 : decode cL_law 741 = .ok (.iaload, 1) := by decide +kernel
theorem dL_law_742 : decode cL_law 742 = .ok (.aload_n 0, 1) := by decide +kernel
theorem dL_law_743 : decode cL_law 743 = .ok (.iload_n 3, 1) := by decide +kernel
theorem dL_law_744 : decode cL_law 744 = .ok (.iconst 2, 1) := by decide +kernel
theorem dL_law_745 : decode cL_law 745 = .ok (.iadd, 1) := by decide +kernel
theorem dL_law_746 : decode cL_law 746 = .ok (.iaload, 1) := by decide +kernel
theorem dL_law_747 : decode cL_law 747 = .ok (.aload_n 0, 1) := by decide +kernel
theorem dL_law_748 : decode cL_law 748 = .ok (.iload_n 3, 1) := by decide +kernel
theorem dL_law_749 : decode cL_law 749 = .ok (.iconst 3, 1) := by decide +kernel
theorem dL_law_750 : decode cL_law 750 = .ok (.iadd, 1) := by decide +kernel
theorem dL_law_751 : decode cL_law 751 = .ok (.iaload, 1) := by decide +kernel
theorem dL_law_752 : decode cL_law 752 = .ok (.invokevirtual 90, 3) := by decide +kernel
theorem dL_law_755 : decode cL_law 755 = .ok (.if_icmp .eq 443, 3) := by decide +kernel
theorem dL_law_758 : decode cL_law 758 = .ok (.iconst 0, 1) := by decide +kernel
theorem dL_law_759 : decode cL_law 759 = .ok (.ireturn, 1) := by decide +kernel
theorem dL_law_760 : decode cL_law 760 = .ok (.aload_n 1, 1) := by decide +kernel
theorem dL_law_761 : decode cL_law 761 = .ok (.aload_n 0, 1) := by decide +kernel
theorem dL_law_762 : decode cL_law 762 = .ok (.iload_n 3, 1) := by decide +kernel
theorem dL_law_763 : decode cL_law 763 = .ok (.iconst 1, 1) := by decide +kernel
theorem dL_law_764 : decode cL_law 764 = .ok (.iadd, 1) := by decide +kernel
theorem dL_law_765 : decode cL_law 765 = .ok (.iaload, 1) := by decide +kernel
theorem dL_law_766 : decode cL_law 766 = .ok (.aload_n 0, 1) := by decide +kernel
theorem dL_law_767 : decode cL_law 767 = .ok (.iload_n 3, 1) := by decide +kernel
theorem dL_law_768 : decode cL_law 768 = .ok (.iconst 2, 1) := by decide +kernel
theorem dL_law_769 : decode cL_law 769 = .ok (.iadd, 1) := by decide +kernel
theorem dL_law_770 : decode cL_law 770 = .ok (.iaload, 1) := by decide +kernel
theorem dL_law_771 : decode cL_law 771 = .ok (.invokevirtual 91, 3) := by decide +kernel
theorem dL_law_774 : decode cL_law 774 = .ok (.aload_n 2, 1) := by decide +kernel
theorem dL_law_775 : decode cL_law 775 = .ok (.aload_n 0, 1) := by decide +kernel
theorem dL_law_776 : decode cL_law 776 = .ok (.iload_n 3, 1) := by decide +kernel
theorem dL_law_777 : decode cL_law 777 = .ok (.iconst 1, 1) := by decide +kernel
theorem dL_law_778 : decode cL_law 778 = .ok (.iadd, 1) := by decide +kernel
theorem dL_law_779 : decode cL_law 779 = .ok (.iaload, 1) := by decide +kernel
theorem dL_law_780 : decode cL_law 780 = .ok (.aload_n 0, 1) := by decide +kernel
theorem dL_law_781 : decode cL_law 781 = .ok (.iload_n 3, 1) := by decide +kernel
theorem dL_law_782 : decode cL_law 782 = .ok (.iconst 2, 1) := by decide +kernel
theorem dL_law_783 : decode cL_law 783 = .ok (.iadd, 1) := by decide +kernel
theorem dL_law_784 : decode cL_law 784 = .ok (.iaload, 1) := by decide +kernel
theorem dL_law_785 : decode cL_law 785 = .ok (.invokevirtual 94, 3) := by decide +kernel
theorem dL_law_788 : decode cL_law 788 = .ok (.if_icmp .eq 410, 3) := by decide +kernel
theorem dL_law_791 : decode cL_law 791 = .ok (.iconst 0, 1) := by decide +kernel
theorem dL_law_792 : decode cL_law 792 = .ok (.ireturn, 1) := by decide +kernel
theorem dL_law_793 : decode cL_law 793 = .ok (.aload_n 1, 1) := by decide +kernel
theorem dL_law_794 : decode cL_law 794 = .ok (.aload_n 0, 1) := by decide +kernel
theorem dL_law_795 : decode cL_law 795 = .ok (.iload_n 3, 1) := by decide +kernel
theorem dL_law_796 : decode cL_law 796 = .ok (.iconst 1, 1) := by decide +kernel
theorem dL_law_797 : decode cL_law 797 = .ok (.iadd, 1) := by decide +kernel
theorem dL_law_798 : decode cL_law 798 = .ok (.iaload, 1) := by decide +kernel
theorem dL_law_799 : decode cL_law 799 = .ok (.aload_n 0, 1) := by decide +kernel
theorem dL_law_800 : decode cL_law 800 = .ok (.iload_n 3, 1) := by decide +kernel
theorem dL_law_801 : decode cL_law 801 = .ok (.iconst 2, 1) := by decide +kernel
theorem dL_law_802 : decode cL_law 802 = .ok (.iadd, 1) := by decide +kernel
theorem dL_law_803 : decode cL_law 803 = .ok (.iaload, 1) := by decide +kernel
theorem dL_law_804 : decode cL_law 804 = .ok (.invokevirtual 95, 3) := by decide +kernel
theorem dL_law_807 : decode cL_law 807 = .ok (.aload_n 2, 1) := by decide +kernel
theorem dL_law_808 : decode cL_law 808 = .ok (.aload_n 0, 1) := by decide +kernel
theorem dL_law_809 : decode cL_law 809 = .ok (.iload_n 3, 1) := by decide +kernel
theorem dL_law_810 : decode cL_law 810 = .ok (.iconst 1, 1) := by decide +kernel
theorem dL_law_811 : decode cL_law 811 = .ok (.iadd, 1) := by decide +kernel
theorem dL_law_812 : decode cL_law 812 = .ok (.iaload, 1) := by decide +kernel
theorem dL_law_813 : decode cL_law 813 = .ok (.aload_n 0, 1) := by decide +kernel
theorem dL_law_814 : decode cL_law 814 = .ok (.iload_n 3, 1) := by decide +kernel
theorem dL_law_815 : decode cL_law 815 = .ok (.iconst 2, 1) := by decide +kernel
theorem dL_law_816 : decode cL_law 816 = .ok (.iadd, 1) := by decide +kernel
theorem dL_law_817 : decode cL_law 817 = .ok (.iaload, 1) := by decide +kernel
theorem dL_law_818 : decode cL_law 818 = .ok (.invokevirtual 98, 3) := by decide +kernel
theorem dL_law_821 : decode cL_law 821 = .ok (.if_icmp .eq 377, 3) := by decide +kernel
theorem dL_law_824 : decode cL_law 824 = .ok (.iconst 0, 1) := by decide +kernel
theorem dL_law_825 : decode cL_law 825 = .ok (.ireturn, 1) := by decide +kernel
theorem dL_law_826 : decode cL_law 826 = .ok (.aload_n 1, 1) := by decide +kernel
theorem dL_law_827 : decode cL_law 827 = .ok (.aload_n 0, 1) := by decide +kernel
theorem dL_law_828 : decode cL_law 828 = .ok (.iload_n 3, 1) := by decide +kernel
theorem dL_law_829 : decode cL_law 829 = .ok (.iconst 1, 1) := by decide +kernel
theorem dL_law_830 : decode cL_law 830 = .ok (.iadd, 1) := by decide +kernel
theorem dL_law_831 : decode cL_law 831 = .ok (.iaload, 1) := by decide +kernel
theorem dL_law_832 : decode cL_law 832 = .ok (.aload_n 0, 1) := by decide +kernel
theorem dL_law_833 : decode cL_law 833 = .ok (.iload_n 3, 1) := by decide +kernel
theorem dL_law_834 : decode cL_law 834 = .ok (.iconst 2, 1) := by decide +kernel
theorem dL_law_835 : decode cL_law 835 = .ok (.iadd, 1) := by decide +kernel
theorem dL_law_836 : decode cL_law 836 = .ok (.iaload, 1) := by decide +kernel
theorem dL_law_837 : decode cL_law 837 = .ok (.invokevirtual 99, 3) := by decide +kernel
theorem dL_law_840 : decode cL_law 840 = .ok (.aload_n 2, 1) := by decide +kernel
theorem dL_law_841 : decode cL_law 841 = .ok (.aload_n 0, 1) := by decide +kernel
theorem dL_law_842 : decode cL_law 842 = .ok (.iload_n 3, 1) := by decide +kernel
theorem dL_law_843 : decode cL_law 843 = .ok (.iconst 1, 1) := by decide +kernel
theorem dL_law_844 : decode cL_law 844 = .ok (.iadd, 1) := by decide +kernel
theorem dL_law_845 : decode cL_law 845 = .ok (.iaload, 1) := by decide +kernel
theorem dL_law_846 : decode cL_law 846 = .ok (.aload_n 0, 1) := by decide +kernel
theorem dL_law_847 : decode cL_law 847 = .ok (.iload_n 3, 1) := by decide +kernel
theorem dL_law_848 : decode cL_law 848 = .ok (.iconst 2, 1) := by decide +kernel
theorem dL_law_849 : decode cL_law 849 = .ok (.iadd, 1) := by decide +kernel
theorem dL_law_850 : decode cL_law 850 = .ok (.iaload, 1) := by decide +kernel
theorem dL_law_851 : decode cL_law 851 = .ok (.invokevirtual 102, 3) := by decide +kernel
theorem dL_law_854 : decode cL_law 854 = .ok (.if_icmp .eq 344, 3) := by decide +kernel
theorem dL_law_857 : decode cL_law 857 = .ok (.iconst 0, 1) := by decide +kernel
theorem dL_law_858 : decode cL_law 858 = .ok (.ireturn, 1) := by decide +kernel
theorem dL_law_859 : decode cL_law 859 = .ok (.aload_n 1, 1) := by decide +kernel
theorem dL_law_860 : decode cL_law 860 = .ok (.aload_n 0, 1) := by decide +kernel
theorem dL_law_861 : decode cL_law 861 = .ok (.iload_n 3, 1) := by decide +kernel
theorem dL_law_862 : decode cL_law 862 = .ok (.iconst 1, 1) := by decide +kernel
theorem dL_law_863 : decode cL_law 863 = .ok (.iadd, 1) := by decide +kernel
theorem dL_law_864 : decode cL_law 864 = .ok (.iaload, 1) := by decide +kernel
theorem dL_law_865 : decode cL_law 865 = .ok (.invokevirtual 103, 3) := by decide +kernel
theorem dL_law_868 : decode cL_law 868 = .ok (.aload_n 2, 1) := by decide +kernel
theorem dL_law_869 : decode cL_law 869 = .ok (.aload_n 0, 1) := by decide +kernel
theorem dL_law_870 : decode cL_law 870 = .ok (.iload_n 3, 1) := by decide +kernel
theorem dL_law_871 : decode cL_law 871 = .ok (.iconst 1, 1) := by decide +kernel
theorem dL_law_872 : decode cL_law 872 = .ok (.iadd, 1) := by decide +kernel
theorem dL_law_873 : decode cL_law 873 = .ok (.iaload, 1) := by decide +kernel
theorem dL_law_874 : decode cL_law 874 = .ok (.invokevirtual 106, 3) := by decide +kernel
theorem dL_law_877 : decode cL_law 877 = .ok (.if_icmp .eq 321, 3) := by decide +kernel
theorem dL_law_880 : decode cL_law 880 = .ok (.iconst 0, 1) := by decide +kernel
theorem dL_law_881 : decode cL_law 881 = .ok (.ireturn, 1) := by decide +kernel
theorem dL_law_882 : decode cL_law 882 = .ok (.aload_n 1, 1) := by decide +kernel
theorem dL_law_883 : decode cL_law 883 = .ok (.aload_n 0, 1) := by decide +kernel
theorem dL_law_884 : decode cL_law 884 = .ok (.iload_n 3, 1) := by decide +kernel
theorem dL_law_885 : decode cL_law 885 = .ok (.iconst 1, 1) := by decide +kernel
theorem dL_law_886 : decode cL_law 886 = .ok (.iadd, 1) := by decide +kernel
theorem dL_law_887 : decode cL_law 887 = .ok (.iaload, 1) := by decide +kernel
theorem dL_law_888 : decode cL_law 888 = .ok (.invokevirtual 107, 3) := by decide +kernel
theorem dL_law_891 : decode cL_law 891 = .ok (.aload_n 2, 1) := by decide +kernel
theorem dL_law_892 : decode cL_law 892 = .ok (.aload_n 0, 1) := by decide +kernel
theorem dL_law_893 : decode cL_law 893 = .ok (.iload_n 3, 1) := by decide +kernel
theorem dL_law_894 : decode cL_law 894 = .ok (.iconst 1, 1) := by decide +kernel
theorem dL_law_895 : decode cL_law 895 = .ok (.iadd, 1) := by decide +kernel
theorem dL_law_896 : decode cL_law 896 = .ok (.iaload, 1) := by decide +kernel
theorem dL_law_897 : decode cL_law 897 = .ok (.invokevirtual 110, 3) := by decide +kernel
theorem dL_law_900 : decode cL_law 900 = .ok (.if_icmp .eq 298, 3) := by decide +kernel
theorem dL_law_903 : decode cL_law 903 = .ok (.iconst 0, 1) := by decide +kernel
theorem dL_law_904 : decode cL_law 904 = .ok (.ireturn, 1) := by decide +kernel
theorem dL_law_905 : decode cL_law 905 = .ok (.aload_n 1, 1) := by decide +kernel
theorem dL_law_906 : decode cL_law 906 = .ok (.aload_n 0, 1) := by decide +kernel
theorem dL_law_907 : decode cL_law 907 = .ok (.iload_n 3, 1) := by decide +kernel
theorem dL_law_908 : decode cL_law 908 = .ok (.iconst 1, 1) := by decide +kernel
theorem dL_law_909 : decode cL_law 909 = .ok (.iadd, 1) := by decide +kernel
theorem dL_law_910 : decode cL_law 910 = .ok (.iaload, 1) := by decide +kernel
theorem dL_law_911 : decode cL_law 911 = .ok (.aload_n 0, 1) := by decide +kernel
theorem dL_law_912 : decode cL_law 912 = .ok (.iload_n 3, 1) := by decide +kernel
theorem dL_law_913 : decode cL_law 913 = .ok (.iconst 2, 1) := by decide +kernel
theorem dL_law_914 : decode cL_law 914 = .ok (.iadd, 1) := by decide +kernel
theorem dL_law_915 : decode cL_law 915 = .ok (.iaload, 1) := by decide +kernel
theorem dL_law_916 : decode cL_law 916 = .ok (.invokevirtual 111, 3) := by decide +kernel
theorem dL_law_919 : decode cL_law 919 = .ok (.aload_n 2, 1) := by decide +kernel
theorem dL_law_920 : decode cL_law 920 = .ok (.aload_n 0, 1) := by decide +kernel
theorem dL_law_921 : decode cL_law 921 = .ok (.iload_n 3, 1) := by decide +kernel
theorem dL_law_922 : decode cL_law 922 = .ok (.iconst 1, 1) := by decide +kernel
theorem dL_law_923 : decode cL_law 923 = .ok (.iadd, 1) := by decide +kernel
theorem dL_law_924 : decode cL_law 924 = .ok (.iaload, 1) := by decide +kernel
theorem dL_law_925 : decode cL_law 925 = .ok (.aload_n 0, 1) := by decide +kernel
theorem dL_law_926 : decode cL_law 926 = .ok (.iload_n 3, 1) := by decide +kernel
theorem dL_law_927 : decode cL_law 927 = .ok (.iconst 2, 1) := by decide +kernel
theorem dL_law_928 : decode cL_law 928 = .ok (.iadd, 1) := by decide +kernel
theorem dL_law_929 : decode cL_law 929 = .ok (.iaload, 1) := by decide +kernel
theorem dL_law_930 : decode cL_law 930 = .ok (.invokevirtual 114, 3) := by decide +kernel
theorem dL_law_933 : decode cL_law 933 = .ok (.if_icmp .eq 265, 3) := by decide +kernel
theorem dL_law_936 : decode cL_law 936 = .ok (.iconst 0, 1) := by decide +kernel
theorem dL_law_937 : decode cL_law 937 = .ok (.ireturn, 1) := by decide +kernel
theorem dL_law_938 : decode cL_law 938 = .ok (.aload_n 1, 1) := by decide +kernel
theorem dL_law_939 : decode cL_law 939 = .ok (.aload_n 0, 1) := by decide +kernel
theorem dL_law_940 : decode cL_law 940 = .ok (.iload_n 3, 1) := by decide +kernel
theorem dL_law_941 : decode cL_law 941 = .ok (.iconst 1, 1) := by decide +kernel
theorem dL_law_942 : decode cL_law 942 = .ok (.iadd, 1) := by decide +kernel
theorem dL_law_943 : decode cL_law 943 = .ok (.iaload, 1) := by decide +kernel
theorem dL_law_944 : decode cL_law 944 = .ok (.aload_n 0, 1) := by decide +kernel
theorem dL_law_945 : decode cL_law 945 = .ok (.iload_n 3, 1) := by decide +kernel
theorem dL_law_946 : decode cL_law 946 = .ok (.iconst 2, 1) := by decide +kernel
theorem dL_law_947 : decode cL_law 947 = .ok (.iadd, 1) := by decide +kernel
theorem dL_law_948 : decode cL_law 948 = .ok (.iaload, 1) := by decide +kernel
theorem dL_law_949 : decode cL_law 949 = .ok (.invokevirtual 115, 3) := by decide +kernel
theorem dL_law_952 : decode cL_law 952 = .ok (.aload_n 2, 1) := by decide +kernel
theorem dL_law_953 : decode cL_law 953 = .ok (.aload_n 0, 1) := by decide +kernel
theorem dL_law_954 : decode cL_law 954 = .ok (.iload_n 3, 1) := by decide +kernel
theorem dL_law_955 : decode cL_law 955 = .ok (.iconst 1, 1) := by decide +kernel
theorem dL_law_956 : decode cL_law 956 = .ok (.iadd, 1) := by decide +kernel
theorem dL_law_957 : decode cL_law 957 = .ok (.iaload, 1) := by decide +kernel
theorem dL_law_958 : decode cL_law 958 = .ok (.aload_n 0, 1) := by decide +kernel
theorem dL_law_959 : decode cL_law 959 = .ok (.iload_n 3, 1) := by decide +kernel
theorem dL_law_960 : decode cL_law 960 = .ok (.iconst 2, 1) := by decide +kernel
theorem dL_law_961 : decode cL_law 961 = .ok (.iadd, 1) := by decide +kernel
theorem dL_law_962 : decode cL_law 962 = .ok (.iaload, 1) := by decide +kernel
theorem dL_law_963 : decode cL_law 963 = .ok (.invokevirtual 118, 3) := by decide +kernel
theorem dL_law_966 : decode cL_law 966 = .ok (.if_icmp .eq 232, 3) := by decide +kernel
theorem dL_law_969 : decode cL_law 969 = .ok (.iconst 0, 1) := by decide +kernel
theorem dL_law_970 : decode cL_law 970 = .ok (.ireturn, 1) := by decide +kernel
theorem dL_law_971 : decode cL_law 971 = .ok (.aload_n 1, 1) := by decide +kernel
theorem dL_law_972 : decode cL_law 972 = .ok (.aload_n 0, 1) := by decide +kernel
theorem dL_law_973 : decode cL_law 973 = .ok (.iload_n 3, 1) := by decide +kernel
theorem dL_law_974 : decode cL_law 974 = .ok (.iconst 1, 1) := by decide +kernel
theorem dL_law_975 : decode cL_law 975 = .ok (.iadd, 1) := by decide +kernel
theorem dL_law_976 : decode cL_law 976 = .ok (.iaload, 1) := by decide +kernel
theorem dL_law_977 : decode cL_law 977 = .ok (.aload_n 0, 1) := by decide +kernel
theorem dL_law_978 : decode cL_law 978 = .ok (.iload_n 3, 1) := by decide +kernel
theorem dL_law_979 : decode cL_law 979 = .ok (.iconst 2, 1) := by decide +kernel
theorem dL_law_980 : decode cL_law 980 = .ok (.iadd, 1) := by decide +kernel
theorem dL_law_981 : decode cL_law 981 = .ok (.iaload, 1) := by decide +kernel
theorem dL_law_982 : decode cL_law 982 = .ok (.invokevirtual 119, 3) := by decide +kernel
theorem dL_law_985 : decode cL_law 985 = .ok (.aload_n 2, 1) := by decide +kernel
theorem dL_law_986 : decode cL_law 986 = .ok (.aload_n 0, 1) := by decide +kernel
theorem dL_law_987 : decode cL_law 987 = .ok (.iload_n 3, 1) := by decide +kernel
theorem dL_law_988 : decode cL_law 988 = .ok (.iconst 1, 1) := by decide +kernel
theorem dL_law_989 : decode cL_law 989 = .ok (.iadd, 1) := by decide +kernel
theorem dL_law_990 : decode cL_law 990 = .ok (.iaload, 1) := by decide +kernel
theorem dL_law_991 : decode cL_law 991 = .ok (.aload_n 0, 1) := by decide +kernel
theorem dL_law_992 : decode cL_law 992 = .ok (.iload_n 3, 1) := by decide +kernel
theorem dL_law_993 : decode cL_law 993 = .ok (.iconst 2, 1) := by decide +kernel
theorem dL_law_994 : decode cL_law 994 = .ok (.iadd, 1) := by decide +kernel
theorem dL_law_995 : decode cL_law 995 = .ok (.iaload, 1) := by decide +kernel
theorem dL_law_996 : decode cL_law 996 = .ok (.invokevirtual 122, 3) := by decide +kernel
theorem dL_law_999 : decode cL_law 999 = .ok (.if_icmp .eq 199, 3) := by decide +kernel
theorem dL_law_1002 : decode cL_law 1002 = .ok (.iconst 0, 1) := by decide +kernel
theorem dL_law_1003 : decode cL_law 1003 = .ok (.ireturn, 1) := by decide +kernel
theorem dL_law_1004 : decode cL_law 1004 = .ok (.aload_n 1, 1) := by decide +kernel
theorem dL_law_1005 : decode cL_law 1005 = .ok (.aload_n 0, 1) := by decide +kernel
theorem dL_law_1006 : decode cL_law 1006 = .ok (.iload_n 3, 1) := by decide +kernel
theorem dL_law_1007 : decode cL_law 1007 = .ok (.iconst 1, 1) := by decide +kernel
theorem dL_law_1008 : decode cL_law 1008 = .ok (.iadd, 1) := by decide +kernel
theorem dL_law_1009 : decode cL_law 1009 = .ok (.iaload, 1) := by decide +kernel
theorem dL_law_1010 : decode cL_law 1010 = .ok (.aload_n 0, 1) := by decide +kernel
theorem dL_law_1011 : decode cL_law 1011 = .ok (.iload_n 3, 1) := by decide +kernel
theorem dL_law_1012 : decode cL_law 1012 = .ok (.iconst 2, 1) := by decide +kernel
theorem dL_law_1013 : decode cL_law 1013 = .ok (.iadd, 1) := by decide +kernel
theorem dL_law_1014 : decode cL_law 1014 = .ok (.iaload, 1) := by decide +kernel
theorem dL_law_1015 : decode cL_law 1015 = .ok (.invokevirtual 123, 3) := by decide +kernel
theorem dL_law_1018 : decode cL_law 1018 = .ok (.aload_n 2, 1) := by decide +kernel
theorem dL_law_1019 : decode cL_law 1019 = .ok (.aload_n 0, 1) := by decide +kernel
theorem dL_law_1020 : decode cL_law 1020 = .ok (.iload_n 3, 1) := by decide +kernel
theorem dL_law_1021 : decode cL_law 1021 = .ok (.iconst 1, 1) := by decide +kernel
theorem dL_law_1022 : decode cL_law 1022 = .ok (.iadd, 1) := by decide +kernel
theorem dL_law_1023 : decode cL_law 1023 = .ok (.iaload, 1) := by decide +kernel
theorem dL_law_1024 : decode cL_law 1024 = .ok (.aload_n 0, 1) := by decide +kernel
theorem dL_law_1025 : decode cL_law 1025 = .ok (.iload_n 3, 1) := by decide +kernel
theorem dL_law_1026 : decode cL_law 1026 = .ok (.iconst 2, 1) := by decide +kernel
theorem dL_law_1027 : decode cL_law 1027 = .ok (.iadd, 1) := by decide +kernel
theorem dL_law_1028 : decode cL_law 1028 = .ok (.iaload, 1) := by decide +kernel
theorem dL_law_1029 : decode cL_law 1029 = .ok (.invokevirtual 126, 3) := by decide +kernel
theorem dL_law_1032 : decode cL_law 1032 = .ok (.if_icmp .eq 166, 3) := by decide +kernel
theorem dL_law_1035 : decode cL_law 1035 = .ok (.iconst 0, 1) := by decide +kernel
theorem dL_law_1036 : decode cL_law 1036 = .ok (.ireturn, 1) := by decide +kernel
theorem dL_law_1037 : decode cL_law 1037 = .ok (.aload_n 1, 1) := by decide +kernel
theorem dL_law_1038 : decode cL_law 1038 = .ok (.aload_n 0, 1) := by decide +kernel
theorem dL_law_1039 : decode cL_law 1039 = .ok (.iload_n 3, 1) := by decide +kernel
theorem dL_law_1040 : decode cL_law 1040 = .ok (.iconst 1, 1) := by decide +kernel
theorem dL_law_1041 : decode cL_law 1041 = .ok (.iadd, 1) := by decide +kernel
theorem dL_law_1042 : decode cL_law 1042 = .ok (.iaload, 1) := by decide +kernel
theorem dL_law_1043 : decode cL_law 1043 = .ok (.aload_n 0, 1) := by decide +kernel
theorem dL_law_1044 : decode cL_law 1044 = .ok (.iload_n 3, 1) := by decide +kernel
theorem dL_law_1045 : decode cL_law 1045 = .ok (.iconst 2, 1) := by decide +kernel
theorem dL_law_1046 : decode cL_law 1046 = .ok (.iadd, 1) := by decide +kernel
theorem dL_law_1047 : decode cL_law 1047 = .ok (.iaload, 1) := by decide +kernel
theorem dL_law_1048 : decode cL_law 1048 = .ok (.aload_n 0, 1) := by decide +kernel
theorem dL_law_1049 : decode cL_law 1049 = .ok (.iload_n 3, 1) := by decide +kernel
theorem dL_law_1050 : decode cL_law 1050 = .ok (.iconst 3, 1) := by decide +kernel
theorem dL_law_1051 : decode cL_law 1051 = .ok (.iadd, 1) := by decide +kernel
theorem dL_law_1052 : decode cL_law 1052 = .ok (.iaload, 1) := by decide +kernel
theorem dL_law_1053 : decode cL_law 1053 = .ok (.invokevirtual 127, 3) := by decide +kernel
theorem dL_law_1056 : decode cL_law 1056 = .ok (.aload_n 2, 1) := by decide +kernel
theorem dL_law_1057 : decode cL_law 1057 = .ok (.aload_n 0, 1) := by decide +kernel
theorem dL_law_1058 : decode cL_law 1058 = .ok (.iload_n 3, 1) := by decide +kernel
theorem dL_law_1059 : decode cL_law 1059 = .ok (.iconst 1, 1) := by decide +kernel
theorem dL_law_1060 : decode cL_law 1060 = .ok (.iadd, 1) := by decide +kernel
theorem dL_law_1061 : decode cL_law 1061 = .ok (.iaload, 1) := by decide +kernel
theorem dL_law_1062 : decode cL_law 1062 = .ok (.aload_n 0, 1) := by decide +kernel
theorem dL_law_1063 : decode cL_law 1063 = .ok (.iload_n 3, 1) := by decide +kernel
theorem dL_law_1064 : decode cL_law 1064 = .ok (.iconst 2, 1) := by decide +kernel
theorem dL_law_1065 : decode cL_law 1065 = .ok (.iadd, 1) := by decide +kernel
theorem dL_law_1066 : decode cL_law 1066 = .ok (.iaload, 1) := by decide +kernel
theorem dL_law_1067 : decode cL_law 1067 = .ok (.aload_n 0, 1) := by decide +kernel
theorem dL_law_1068 : decode cL_law 1068 = .ok (.iload_n 3, 1) := by decide +kernel
theorem dL_law_1069 : decode cL_law 1069 = .ok (.iconst 3, 1) := by decide +kernel
theorem dL_law_1070 : decode cL_law 1070 = .ok (.iadd, 1) := by decide +kernel
theorem dL_law_1071 : decode cL_law 1071 = .ok (.iaload, 1) := by decide +kernel
theorem dL_law_1072 : decode cL_law 1072 = .ok (.invokevirtual 130, 3) := by decide +kernel
theorem dL_law_1075 : decode cL_law 1075 = .ok (.if_icmp .eq 123, 3) := by decide +kernel
theorem dL_law_1078 : decode cL_law 1078 = .ok (.iconst 0, 1) := by decide +kernel
theorem dL_law_1079 : decode cL_law 1079 = .ok (.ireturn, 1) := by decide +kernel
theorem dL_law_1080 : decode cL_law 1080 = .ok (.aload_n 1, 1) := by decide +kernel
theorem dL_law_1081 : decode cL_law 1081 = .ok (.aload_n 0, 1) := by decide +kernel
theorem dL_law_1082 : decode cL_law 1082 = .ok (.iload_n 3, 1) := by decide +kernel
theorem dL_law_1083 : decode cL_law 1083 = .ok (.iconst 1, 1) := by decide +kernel
theorem dL_law_1084 : decode cL_law 1084 = .ok (.iadd, 1) := by decide +kernel
theorem dL_law_1085 : decode cL_law 1085 = .ok (.iaload, 1) := by decide +kernel
theorem dL_law_1086 : decode cL_law 1086 = .ok (.aload_n 0, 1) := by decide +kernel
theorem dL_law_1087 : decode cL_law 1087 = .ok (.iload_n 3, 1) := by decide +kernel
theorem dL_law_1088 : decode cL_law 1088 = .ok (.iconst 2, 1) := by decide +kernel
theorem dL_law_1089 : decode cL_law 1089 = .ok (.iadd, 1) := by decide +kernel
theorem dL_law_1090 : decode cL_law 1090 = .ok (.iaload, 1) := by decide +kernel
theorem dL_law_1091 : decode cL_law 1091 = .ok (.invokevirtual 131, 3) := by decide +kernel
theorem dL_law_1094 : decode cL_law 1094 = .ok (.aload_n 2, 1) := by decide +kernel
theorem dL_law_1095 : decode cL_law 1095 = .ok (.aload_n 0, 1) := by decide +kernel
theorem dL_law_1096 : decode cL_law 1096 = .ok (.iload_n 3, 1) := by decide +kernel
theorem dL_law_1097 : decode cL_law 1097 = .ok (.iconst 1, 1) := by decide +kernel
theorem dL_law_1098 : decode cL_law 1098 = .ok (.iadd, 1) := by decide +kernel
theorem dL_law_1099 : decode cL_law 1099 = .ok (.iaload, 1) := by decide +kernel
theorem dL_law_1100 : decode cL_law 1100 = .ok (.aload_n 0, 1) := by decide +kernel
theorem dL_law_1101 : decode cL_law 1101 = .ok (.iload_n 3, 1) := by decide +kernel
theorem dL_law_1102 : decode cL_law 1102 = .ok (.iconst 2, 1) := by decide +kernel
theorem dL_law_1103 : decode cL_law 1103 = .ok (.iadd, 1) := by decide +kernel
theorem dL_law_1104 : decode cL_law 1104 = .ok (.iaload, 1) := by decide +kernel
theorem dL_law_1105 : decode cL_law 1105 = .ok (.invokevirtual 134, 3) := by decide +kernel
theorem dL_law_1108 : decode cL_law 1108 = .ok (.if_icmp .eq 90, 3) := by decide +kernel
theorem dL_law_1111 : decode cL_law 1111 = .ok (.iconst 0, 1) := by decide +kernel
theorem dL_law_1112 : decode cL_law 1112 = .ok (.ireturn, 1) := by decide +kernel
theorem dL_law_1113 : decode cL_law 1113 = .ok (.aload_n 1, 1) := by decide +kernel
theorem dL_law_1114 : decode cL_law 1114 = .ok (.aload_n 0, 1) := by decide +kernel
theorem dL_law_1115 : decode cL_law 1115 = .ok (.iload_n 3, 1) := by decide +kernel
theorem dL_law_1116 : decode cL_law 1116 = .ok (.iconst 1, 1) := by decide +kernel
theorem dL_law_1117 : decode cL_law 1117 = .ok (.iadd, 1) := by decide +kernel
theorem dL_law_1118 : decode cL_law 1118 = .ok (.iaload, 1) := by decide +kernel
theorem dL_law_1119 : decode cL_law 1119 = .ok (.invokevirtual 135, 3) := by decide +kernel
theorem dL_law_1122 : decode cL_law 1122 = .ok (.aload_n 2, 1) := by decide +kernel
theorem dL_law_1123 : decode cL_law 1123 = .ok (.aload_n 0, 1) := by decide +kernel
theorem dL_law_1124 : decode cL_law 1124 = .ok (.iload_n 3, 1) := by decide +kernel
theorem dL_law_1125 : decode cL_law 1125 = .ok (.iconst 1, 1) := by decide +kernel
theorem dL_law_1126 : decode cL_law 1126 = .ok (.iadd, 1) := by decide +kernel
theorem dL_law_1127 : decode cL_law 1127 = .ok (.iaload, 1) := by decide +kernel
theorem dL_law_1128 : decode cL_law 1128 = .ok (.invokevirtual 138, 3) := by decide +kernel
theorem dL_law_1131 : decode cL_law 1131 = .ok (.if_icmp .eq 67, 3) := by decide +kernel
theorem dL_law_1134 : decode cL_law 1134 = .ok (.iconst 0, 1) := by decide +kernel
theorem dL_law_1135 : decode cL_law 1135 = .ok (.ireturn, 1) := by decide +kernel
theorem dL_law_1136 : decode cL_law 1136 = .ok (.aload_n 1, 1) := by decide +kernel
theorem dL_law_1137 : decode cL_law 1137 = .ok (.aload_n 0, 1) := by decide +kernel
theorem dL_law_1138 : decode cL_law 1138 = .ok (.iload_n 3, 1) := by decide +kernel
theorem dL_law_1139 : decode cL_law 1139 = .ok (.iconst 1, 1) := by decide +kernel
theorem dL_law_1140 : decode cL_law 1140 = .ok (.iadd, 1) := by decide +kernel
theorem dL_law_1141 : decode cL_law 1141 = .ok (.iaload, 1) := by decide +kernel
theorem dL_law_1142 : decode cL_law 1142 = .ok (.ifCond .eq 7, 3) := by decide +kernel
theorem dL_law_1145 : decode cL_law 1145 = .ok (.iconst 1, 1) := by decide +kernel
theorem dL_law_1146 : decode cL_law 1146 = .ok (.goto 4, 3) := by decide +kernel
theorem dL_law_1149 : decode cL_law 1149 = .ok (.iconst 0, 1) := by decide +kernel
theorem dL_law_1150 : decode cL_law 1150 = .ok (.invokevirtual 139, 3) := by decide +kernel
theorem dL_law_1153 : decode cL_law 1153 = .ok (.aload_n 2, 1) := by decide +kernel
theorem dL_law_1154 : decode cL_law 1154 = .ok (.aload_n 0, 1) := by decide +kernel
theorem dL_law_1155 : decode cL_law 1155 = .ok (.iload_n 3, 1) := by decide +kernel
theorem dL_law_1156 : decode cL_law 1156 = .ok (.iconst 1, 1) := by decide +kernel
theorem dL_law_1157 : decode cL_law 1157 = .ok (.iadd, 1) := by decide +kernel
theorem dL_law_1158 : decode cL_law 1158 = .ok (.iaload, 1) := by decide +kernel
theorem dL_law_1159 : decode cL_law 1159 = .ok (.ifCond .eq 7, 3) := by decide +kernel
theorem dL_law_1162 : decode cL_law 1162 = .ok (.iconst 1, 1) := by decide +kernel
theorem dL_law_1163 : decode cL_law 1163 = .ok (.goto 4, 3) := by decide +kernel
theorem dL_law_1166 : decode cL_law 1166 = .ok (.iconst 0, 1) := by decide +kernel
theorem dL_law_1167 : decode cL_law 1167 = .ok (.invokevirtual 143, 3) := by decide +kernel
theorem dL_law_1170 : decode cL_law 1170 = .ok (.if_icmp .eq 28, 3) := by decide +kernel
theorem dL_law_1173 : decode cL_law 1173 = .ok (.iconst 0, 1) := by decide +kernel
theorem dL_law_1174 : decode cL_law 1174 = .ok (.ireturn, 1) := by decide +kernel
theorem dL_law_1175 : decode cL_law 1175 = .ok (.aload_n 1, 1) := by decide +kernel
theorem dL_law_1176 : decode cL_law 1176 = .ok (.aload_n 0, 1) := by decide +kernel
theorem dL_law_1177 : decode cL_law 1177 = .ok (.iload_n 3, 1) := by decide +kernel
theorem dL_law_1178 : decode cL_law 1178 = .ok (.iconst 1, 1) := by decide +kernel
theorem dL_law_1179 : decode cL_law 1179 = .ok (.iadd, 1) := by decide +kernel
theorem dL_law_1180 : decode cL_law 1180 = .ok (.iaload, 1) := by decide +kernel
theorem dL_law_1181 : decode cL_law 1181 = .ok (.invokevirtual 144, 3) := by decide +kernel
theorem dL_law_1184 : decode cL_law 1184 = .ok (.aload_n 2, 1) := by decide +kernel
theorem dL_law_1185 : decode cL_law 1185 = .ok (.aload_n 0, 1) := by decide +kernel
theorem dL_law_1186 : decode cL_law 1186 = .ok (.iload_n 3, 1) := by decide +kernel
theorem dL_law_1187 : decode cL_law 1187 = .ok (.iconst 1, 1) := by decide +kernel
theorem dL_law_1188 : decode cL_law 1188 = .ok (.iadd, 1) := by decide +kernel
theorem dL_law_1189 : decode cL_law 1189 = .ok (.iaload, 1) := by decide +kernel
theorem dL_law_1190 : decode cL_law 1190 = .ok (.invokevirtual 147, 3) := by decide +kernel
theorem dL_law_1193 : decode cL_law 1193 = .ok (.if_icmp .eq 5, 3) := by decide +kernel
theorem dL_law_1196 : decode cL_law 1196 = .ok (.iconst 0, 1) := by decide +kernel
theorem dL_law_1197 : decode cL_law 1197 = .ok (.ireturn, 1) := by decide +kernel
theorem dL_law_1198 : decode cL_law 1198 = .ok (.iinc 3 6, 3) := by decide +kernel
theorem dL_law_1201 : decode cL_law 1201 = .ok (.goto (-1183), 3) := by decide +kernel
theorem dL_law_1204 : decode cL_law 1204 = .ok (.iconst 1, 1) := by decide +kernel
theorem dL_law_1205 : decode cL_law 1205 = .ok (.ireturn, 1) := by decide +kernel
def xL_law_1167 (k18 : Int32 → j_M → Option (Int32 × j_M)) (L : Nat) (l3 : Int32) (s2 : Int32) (s0 : Int32) (M : j_M) : Option (Int32 × j_M) := obi (xX12_image s0 M) fun v2 M1 => (if s2 = v2 then k18 (l3 + (nI 6)) M1 else some ((nI 0), M1))
set_option maxRecDepth 20000 in
set_option maxHeartbeats 2000000 in
theorem tL_law_1167 (k18 : Int32 → j_M → Option (Int32 × j_M)) (L : Nat) (hk18 : ∀ (l3 : Int32) (M : j_M), J (ρ := Int32 × j_M) yL_law cL_law 4 (some .boolean) 16 604 j_ei 18 [(0, .inr (3, L, 310)), (1, .inr (16, 0, 0)), (2, .inr (17, 0, 200)), (3, .inl (l3))] [] M (k18 l3 M)) (l3 : Int32) (s2 : Int32) (s0 : Int32) (M : j_M) : J (ρ := Int32 × j_M) yL_law cL_law 4 (some .boolean) 16 604 j_ei 1167 [(0, .inr (3, L, 310)), (1, .inr (16, 0, 0)), (2, .inr (17, 0, 200)), (3, .inl (l3))] [.inl (s0), .inr (17, 0, 200), .inl (s2)] M (xL_law_1167 k18 L l3 s2 s0 M) := by
  unfold xL_law_1167
  refine K_cvi (q := 1170) [.inl (s0)] dL_law_1167 cb_X12_image cvRL_143 rc_7 (show (17 : Nat) ≠ 0 by decide) rfl (Nat.le_of_ble_eq_true rfl) ⟨by decide, by decide⟩ (Nat.le_of_ble_eq_true rfl) rfl (tX12_image s0 M) rfl (fun v2 M1 => ?_)
  refine K_icmp_eq (q := 1173) (tgt := 1198) dL_law_1170 rfl ?_ rfl ?_
  · refine K_iinc (q := 1201) (v := l3 + (nI 6)) (ll' := [(3, .inl (l3 + (nI 6))), (0, .inr (3, L, 310)), (1, .inr (16, 0, 0)), (2, .inr (17, 0, 200))]) 3 dL_law_1198 rfl rfl (by decide) rfl rfl ?_
    refine J_goto (tgt := 18) dL_law_1201 rfl ?_
    exact J_sub [1, 2, 3, 0] (hk18 (l3 + (nI 6)) M1) rfl
  · refine K_iconst (q := 1174) (v := nI 0) dL_law_1173 rfl rfl ?_
    exact J_zret dL_law_1174 (by decide)
def xL_law_1150 (k18 : Int32 → j_M → Option (Int32 × j_M)) (L : Nat) (l3 : Int32) (s0 : Int32) (M : j_M) : Option (Int32 × j_M) := obi (xX11_image s0 M) fun v2 M1 => gd (l3 + (nI 1)) L (oli (M1 310 (ix (l3 + (nI 1)))) fun v3 => (if v3 = (0 : Int32) then xL_law_1167 k18 L l3 v2 (nI 0) M1 else xL_law_1167 k18 L l3 v2 (nI 1) M1))
set_option maxRecDepth 20000 in
set_option maxHeartbeats 2000000 in
theorem tL_law_1150 (k18 : Int32 → j_M → Option (Int32 × j_M)) (L : Nat) (hk18 : ∀ (l3 : Int32) (M : j_M), J (ρ := Int32 × j_M) yL_law cL_law 4 (some .boolean) 16 604 j_ei 18 [(0, .inr (3, L, 310)), (1, .inr (16, 0, 0)), (2, .inr (17, 0, 200)), (3, .inl (l3))] [] M (k18 l3 M)) (l3 : Int32) (s0 : Int32) (M : j_M) : J (ρ := Int32 × j_M) yL_law cL_law 4 (some .boolean) 16 604 j_ei 1150 [(0, .inr (3, L, 310)), (1, .inr (16, 0, 0)), (2, .inr (17, 0, 200)), (3, .inl (l3))] [.inl (s0), .inr (16, 0, 0)] M (xL_law_1150 k18 L l3 s0 M) := by
  unfold xL_law_1150
  refine K_cvi (q := 1153) [.inl (s0)] dL_law_1150 cb_X11_image cvRL_139 rc_6 (show (16 : Nat) ≠ 0 by decide) rfl (Nat.le_of_ble_eq_true rfl) ⟨by decide, by decide⟩ (Nat.le_of_ble_eq_true rfl) rfl (tX11_image s0 M) rfl (fun v2 M1 => ?_)
  refine K_aload_n (q := 1154) 2 dL_law_1153 rfl rfl rfl ?_
  refine K_aload_n (q := 1155) 0 dL_law_1154 rfl rfl rfl ?_
  refine K_iload_n (q := 1156) 3 dL_law_1155 rfl rfl rfl ?_
  refine K_iconst (q := 1157) (v := nI 1) dL_law_1156 rfl rfl ?_
  refine K_iadd (q := 1158) dL_law_1157 rfl ?_
  refine K_iald3 (q := 1159) dL_law_1158 rfl (fun v3 => ?_)
  refine K_if_eq (q := 1162) (tgt := 1166) dL_law_1159 rfl ?_ rfl ?_
  · refine K_iconst (q := 1167) (v := nI 0) dL_law_1166 rfl rfl ?_
    exact J_sub [0, 1, 2, 3] (tL_law_1167 k18 L hk18 l3 v2 (nI 0) M1) rfl
  · refine K_iconst (q := 1163) (v := nI 1) dL_law_1162 rfl rfl ?_
    refine J_goto (tgt := 1167) dL_law_1163 rfl ?_
    exact J_sub [0, 1, 2, 3] (tL_law_1167 k18 L hk18 l3 v2 (nI 1) M1) rfl
def xL_law_18  (L : Nat) : Nat → Int32 → j_M → Option (Int32 × j_M)
  | 0, _, _ => none
  | n + 1, l3, M => (if ((Int32.ofNat L) - (nI 6)) < l3 then some ((nI 1), M) else gd l3 L (oli (M 310 (ix l3)) fun v1 => osw (v1 &&& (nI 31)) [((nI 0), gd (l3 + (nI 1)) L (oli (M 310 (ix (l3 + (nI 1)))) fun v2 => obi (xX11_state v2 M) fun v4 M3 => gd (l3 + (nI 1)) L (oli (M3 310 (ix (l3 + (nI 1)))) fun v5 => obi (xX12_state v5 M3) fun v7 M6 => (if v4 = v7 then xL_law_18 L n (l3 + (nI 6)) M6 else some ((nI 0), M6))))), ((nI 1), gd (l3 + (nI 1)) L (oli (M 310 (ix (l3 + (nI 1)))) fun v8 => gd (l3 + (nI 2)) L (oli (M 310 (ix (l3 + (nI 2)))) fun v9 => obi (xX11_set v8 v9 M) fun v11 M10 => gd (l3 + (nI 1)) L (oli (M10 310 (ix (l3 + (nI 1)))) fun v12 => gd (l3 + (nI 2)) L (oli (M10 310 (ix (l3 + (nI 2)))) fun v13 => obi (xX12_set v12 v13 M10) fun v15 M14 => (if v11 = v15 then xL_law_18 L n (l3 + (nI 6)) M14 else some ((nI 0), M14))))))), ((nI 2), gd (l3 + (nI 1)) L (oli (M 310 (ix (l3 + (nI 1)))) fun v16 => gd (l3 + (nI 2)) L (oli (M 310 (ix (l3 + (nI 2)))) fun v17 => obi (xX11_load v16 v17 M) fun v19 M18 => gd (l3 + (nI 1)) L (oli (M18 310 (ix (l3 + (nI 1)))) fun v20 => gd (l3 + (nI 2)) L (oli (M18 310 (ix (l3 + (nI 2)))) fun v21 => obi (xX12_load v20 v21 M18) fun v23 M22 => (if v19 = v23 then xL_law_18 L n (l3 + (nI 6)) M22 else some ((nI 0), M22))))))), ((nI 3), gd (l3 + (nI 1)) L (oli (M 310 (ix (l3 + (nI 1)))) fun v24 => gd (l3 + (nI 2)) L (oli (M 310 (ix (l3 + (nI 2)))) fun v25 => gd (l3 + (nI 3)) L (oli (M 310 (ix (l3 + (nI 3)))) fun v26 => obi (xX11_store v24 v25 v26 M) fun v28 M27 => gd (l3 + (nI 1)) L (oli (M27 310 (ix (l3 + (nI 1)))) fun v29 => gd (l3 + (nI 2)) L (oli (M27 310 (ix (l3 + (nI 2)))) fun v30 => gd (l3 + (nI 3)) L (oli (M27 310 (ix (l3 + (nI 3)))) fun v31 => obi (xX12_store v29 v30 v31 M27) fun v33 M32 => (if v28 = v33 then xL_law_18 L n (l3 + (nI 6)) M32 else some ((nI 0), M32))))))))), ((nI 4), gd (l3 + (nI 1)) L (oli (M 310 (ix (l3 + (nI 1)))) fun v34 => gd (l3 + (nI 2)) L (oli (M 310 (ix (l3 + (nI 2)))) fun v35 => gd (l3 + (nI 3)) L (oli (M 310 (ix (l3 + (nI 3)))) fun v36 => obi (xX11_add v34 v35 v36 M) fun v38 M37 => gd (l3 + (nI 1)) L (oli (M37 310 (ix (l3 + (nI 1)))) fun v39 => gd (l3 + (nI 2)) L (oli (M37 310 (ix (l3 + (nI 2)))) fun v40 => gd (l3 + (nI 3)) L (oli (M37 310 (ix (l3 + (nI 3)))) fun v41 => obi (xX12_add v39 v40 v41 M37) fun v43 M42 => (if v38 = v43 then xL_law_18 L n (l3 + (nI 6)) M42 else some ((nI 0), M42))))))))), ((nI 5), gd (l3 + (nI 1)) L (oli (M 310 (ix (l3 + (nI 1)))) fun v44 => gd (l3 + (nI 2)) L (oli (M 310 (ix (l3 + (nI 2)))) fun v45 => obi (xX11_evict v44 v45 M) fun v47 M46 => gd (l3 + (nI 1)) L (oli (M46 310 (ix (l3 + (nI 1)))) fun v48 => gd (l3 + (nI 2)) L (oli (M46 310 (ix (l3 + (nI 2)))) fun v49 => obi (xX12_evict v48 v49 M46) fun v51 M50 => (if v47 = v51 then xL_law_18 L n (l3 + (nI 6)) M50 else some ((nI 0), M50))))))), ((nI 6), gd (l3 + (nI 1)) L (oli (M 310 (ix (l3 + (nI 1)))) fun v52 => obi (xX11_deliver v52 M) fun v54 M53 => gd (l3 + (nI 1)) L (oli (M53 310 (ix (l3 + (nI 1)))) fun v55 => obi (xX12_deliver v55 M53) fun v57 M56 => (if v54 = v57 then xL_law_18 L n (l3 + (nI 6)) M56 else some ((nI 0), M56))))), ((nI 7), gd (l3 + (nI 1)) L (oli (M 310 (ix (l3 + (nI 1)))) fun v58 => obi (xX11_tick v58 M) fun v60 M59 => gd (l3 + (nI 1)) L (oli (M59 310 (ix (l3 + (nI 1)))) fun v61 => obi (xX12_tick v61 M59) fun v63 M62 => (if v60 = v63 then xL_law_18 L n (l3 + (nI 6)) M62 else some ((nI 0), M62))))), ((nI 8), gd (l3 + (nI 1)) L (oli (M 310 (ix (l3 + (nI 1)))) fun v64 => obi (xX11_calm v64 M) fun v66 M65 => gd (l3 + (nI 1)) L (oli (M65 310 (ix (l3 + (nI 1)))) fun v67 => obi (xX12_calm v67 M65) fun v69 M68 => (if v66 = v69 then xL_law_18 L n (l3 + (nI 6)) M68 else some ((nI 0), M68))))), ((nI 9), gd (l3 + (nI 1)) L (oli (M 310 (ix (l3 + (nI 1)))) fun v70 => gd (l3 + (nI 2)) L (oli (M 310 (ix (l3 + (nI 2)))) fun v71 => gd (l3 + (nI 3)) L (oli (M 310 (ix (l3 + (nI 3)))) fun v72 => gd (l3 + (nI 4)) L (oli (M 310 (ix (l3 + (nI 4)))) fun v73 => gd (l3 + (nI 5)) L (oli (M 310 (ix (l3 + (nI 5)))) fun v74 => obi (xX11_feed v70 v71 v72 v73 v74 M) fun v76 M75 => gd (l3 + (nI 1)) L (oli (M75 310 (ix (l3 + (nI 1)))) fun v77 => gd (l3 + (nI 2)) L (oli (M75 310 (ix (l3 + (nI 2)))) fun v78 => gd (l3 + (nI 3)) L (oli (M75 310 (ix (l3 + (nI 3)))) fun v79 => gd (l3 + (nI 4)) L (oli (M75 310 (ix (l3 + (nI 4)))) fun v80 => gd (l3 + (nI 5)) L (oli (M75 310 (ix (l3 + (nI 5)))) fun v81 => obi (xX12_feed v77 v78 v79 v80 v81 M75) fun v83 M82 => (if v76 = v83 then xL_law_18 L n (l3 + (nI 6)) M82 else some ((nI 0), M82))))))))))))), ((nI 10), gd (l3 + (nI 1)) L (oli (M 310 (ix (l3 + (nI 1)))) fun v84 => obi (xX11_end v84 M) fun v86 M85 => gd (l3 + (nI 1)) L (oli (M85 310 (ix (l3 + (nI 1)))) fun v87 => obi (xX12_end v87 M85) fun v89 M88 => (if v86 = v89 then xL_law_18 L n (l3 + (nI 6)) M88 else some ((nI 0), M88))))), ((nI 11), gd (l3 + (nI 1)) L (oli (M 310 (ix (l3 + (nI 1)))) fun v90 => obi (xX11_text v90 M) fun v92 M91 => gd (l3 + (nI 1)) L (oli (M91 310 (ix (l3 + (nI 1)))) fun v93 => obi (xX12_text v93 M91) fun v95 M94 => (if v92 = v95 then xL_law_18 L n (l3 + (nI 6)) M94 else some ((nI 0), M94))))), ((nI 12), gd (l3 + (nI 1)) L (oli (M 310 (ix (l3 + (nI 1)))) fun v96 => obi (xX11_run v96 M) fun v98 M97 => gd (l3 + (nI 1)) L (oli (M97 310 (ix (l3 + (nI 1)))) fun v99 => obi (xX12_run v99 M97) fun v101 M100 => (if v98 = v101 then xL_law_18 L n (l3 + (nI 6)) M100 else some ((nI 0), M100))))), ((nI 13), gd (l3 + (nI 1)) L (oli (M 310 (ix (l3 + (nI 1)))) fun v102 => obi (xX11_fault v102 M) fun v104 M103 => gd (l3 + (nI 1)) L (oli (M103 310 (ix (l3 + (nI 1)))) fun v105 => obi (xX12_fault v105 M103) fun v107 M106 => (if v104 = v107 then xL_law_18 L n (l3 + (nI 6)) M106 else some ((nI 0), M106))))), ((nI 14), gd (l3 + (nI 1)) L (oli (M 310 (ix (l3 + (nI 1)))) fun v108 => gd (l3 + (nI 2)) L (oli (M 310 (ix (l3 + (nI 2)))) fun v109 => obi (xX11_go v108 v109 M) fun v111 M110 => gd (l3 + (nI 1)) L (oli (M110 310 (ix (l3 + (nI 1)))) fun v112 => gd (l3 + (nI 2)) L (oli (M110 310 (ix (l3 + (nI 2)))) fun v113 => obi (xX12_go v112 v113 M110) fun v115 M114 => (if v111 = v115 then xL_law_18 L n (l3 + (nI 6)) M114 else some ((nI 0), M114))))))), ((nI 15), gd (l3 + (nI 1)) L (oli (M 310 (ix (l3 + (nI 1)))) fun v116 => gd (l3 + (nI 2)) L (oli (M 310 (ix (l3 + (nI 2)))) fun v117 => gd (l3 + (nI 3)) L (oli (M 310 (ix (l3 + (nI 3)))) fun v118 => obi (xX11_node v116 v117 v118 M) fun v120 M119 => gd (l3 + (nI 1)) L (oli (M119 310 (ix (l3 + (nI 1)))) fun v121 => gd (l3 + (nI 2)) L (oli (M119 310 (ix (l3 + (nI 2)))) fun v122 => gd (l3 + (nI 3)) L (oli (M119 310 (ix (l3 + (nI 3)))) fun v123 => obi (xX12_node v121 v122 v123 M119) fun v125 M124 => (if v120 = v125 then xL_law_18 L n (l3 + (nI 6)) M124 else some ((nI 0), M124))))))))), ((nI 16), gd (l3 + (nI 1)) L (oli (M 310 (ix (l3 + (nI 1)))) fun v126 => gd (l3 + (nI 2)) L (oli (M 310 (ix (l3 + (nI 2)))) fun v127 => obi (xX11_miss v126 v127 M) fun v129 M128 => gd (l3 + (nI 1)) L (oli (M128 310 (ix (l3 + (nI 1)))) fun v130 => gd (l3 + (nI 2)) L (oli (M128 310 (ix (l3 + (nI 2)))) fun v131 => obi (xX12_miss v130 v131 M128) fun v133 M132 => (if v129 = v133 then xL_law_18 L n (l3 + (nI 6)) M132 else some ((nI 0), M132))))))), ((nI 17), gd (l3 + (nI 1)) L (oli (M 310 (ix (l3 + (nI 1)))) fun v134 => gd (l3 + (nI 2)) L (oli (M 310 (ix (l3 + (nI 2)))) fun v135 => gd (l3 + (nI 3)) L (oli (M 310 (ix (l3 + (nI 3)))) fun v136 => obi (xX11_table v134 v135 v136 M) fun v138 M137 => gd (l3 + (nI 1)) L (oli (M137 310 (ix (l3 + (nI 1)))) fun v139 => gd (l3 + (nI 2)) L (oli (M137 310 (ix (l3 + (nI 2)))) fun v140 => gd (l3 + (nI 3)) L (oli (M137 310 (ix (l3 + (nI 3)))) fun v141 => obi (xX12_table v139 v140 v141 M137) fun v143 M142 => (if v138 = v143 then xL_law_18 L n (l3 + (nI 6)) M142 else some ((nI 0), M142))))))))), ((nI 18), gd (l3 + (nI 1)) L (oli (M 310 (ix (l3 + (nI 1)))) fun v144 => gd (l3 + (nI 2)) L (oli (M 310 (ix (l3 + (nI 2)))) fun v145 => obi (xX11_message v144 v145 M) fun v147 M146 => gd (l3 + (nI 1)) L (oli (M146 310 (ix (l3 + (nI 1)))) fun v148 => gd (l3 + (nI 2)) L (oli (M146 310 (ix (l3 + (nI 2)))) fun v149 => obi (xX12_message v148 v149 M146) fun v151 M150 => (if v147 = v151 then xL_law_18 L n (l3 + (nI 6)) M150 else some ((nI 0), M150))))))), ((nI 19), gd (l3 + (nI 1)) L (oli (M 310 (ix (l3 + (nI 1)))) fun v152 => gd (l3 + (nI 2)) L (oli (M 310 (ix (l3 + (nI 2)))) fun v153 => obi (xX11_seen v152 v153 M) fun v155 M154 => gd (l3 + (nI 1)) L (oli (M154 310 (ix (l3 + (nI 1)))) fun v156 => gd (l3 + (nI 2)) L (oli (M154 310 (ix (l3 + (nI 2)))) fun v157 => obi (xX12_seen v156 v157 M154) fun v159 M158 => (if v155 = v159 then xL_law_18 L n (l3 + (nI 6)) M158 else some ((nI 0), M158))))))), ((nI 20), gd (l3 + (nI 1)) L (oli (M 310 (ix (l3 + (nI 1)))) fun v160 => gd (l3 + (nI 2)) L (oli (M 310 (ix (l3 + (nI 2)))) fun v161 => obi (xX11_program v160 v161 M) fun v163 M162 => gd (l3 + (nI 1)) L (oli (M162 310 (ix (l3 + (nI 1)))) fun v164 => gd (l3 + (nI 2)) L (oli (M162 310 (ix (l3 + (nI 2)))) fun v165 => obi (xX12_program v164 v165 M162) fun v167 M166 => (if v163 = v167 then xL_law_18 L n (l3 + (nI 6)) M166 else some ((nI 0), M166))))))), ((nI 21), gd (l3 + (nI 1)) L (oli (M 310 (ix (l3 + (nI 1)))) fun v168 => obi (xX11_soon v168 M) fun v170 M169 => gd (l3 + (nI 1)) L (oli (M169 310 (ix (l3 + (nI 1)))) fun v171 => obi (xX12_soon v171 M169) fun v173 M172 => (if v170 = v173 then xL_law_18 L n (l3 + (nI 6)) M172 else some ((nI 0), M172))))), ((nI 22), gd (l3 + (nI 1)) L (oli (M 310 (ix (l3 + (nI 1)))) fun v174 => obi (xX11_walk v174 M) fun v176 M175 => gd (l3 + (nI 1)) L (oli (M175 310 (ix (l3 + (nI 1)))) fun v177 => obi (xX12_walk v177 M175) fun v179 M178 => (if v176 = v179 then xL_law_18 L n (l3 + (nI 6)) M178 else some ((nI 0), M178))))), ((nI 23), gd (l3 + (nI 1)) L (oli (M 310 (ix (l3 + (nI 1)))) fun v180 => gd (l3 + (nI 2)) L (oli (M 310 (ix (l3 + (nI 2)))) fun v181 => obi (xX11_where v180 v181 M) fun v183 M182 => gd (l3 + (nI 1)) L (oli (M182 310 (ix (l3 + (nI 1)))) fun v184 => gd (l3 + (nI 2)) L (oli (M182 310 (ix (l3 + (nI 2)))) fun v185 => obi (xX12_where v184 v185 M182) fun v187 M186 => (if v183 = v187 then xL_law_18 L n (l3 + (nI 6)) M186 else some ((nI 0), M186))))))), ((nI 24), gd (l3 + (nI 1)) L (oli (M 310 (ix (l3 + (nI 1)))) fun v188 => gd (l3 + (nI 2)) L (oli (M 310 (ix (l3 + (nI 2)))) fun v189 => obi (xX11_cost v188 v189 M) fun v191 M190 => gd (l3 + (nI 1)) L (oli (M190 310 (ix (l3 + (nI 1)))) fun v192 => gd (l3 + (nI 2)) L (oli (M190 310 (ix (l3 + (nI 2)))) fun v193 => obi (xX12_cost v192 v193 M190) fun v195 M194 => (if v191 = v195 then xL_law_18 L n (l3 + (nI 6)) M194 else some ((nI 0), M194))))))), ((nI 25), gd (l3 + (nI 1)) L (oli (M 310 (ix (l3 + (nI 1)))) fun v196 => gd (l3 + (nI 2)) L (oli (M 310 (ix (l3 + (nI 2)))) fun v197 => obi (xX11_group v196 v197 M) fun v199 M198 => gd (l3 + (nI 1)) L (oli (M198 310 (ix (l3 + (nI 1)))) fun v200 => gd (l3 + (nI 2)) L (oli (M198 310 (ix (l3 + (nI 2)))) fun v201 => obi (xX12_group v200 v201 M198) fun v203 M202 => (if v199 = v203 then xL_law_18 L n (l3 + (nI 6)) M202 else some ((nI 0), M202))))))), ((nI 26), gd (l3 + (nI 1)) L (oli (M 310 (ix (l3 + (nI 1)))) fun v204 => gd (l3 + (nI 2)) L (oli (M 310 (ix (l3 + (nI 2)))) fun v205 => obi (xX11_trace v204 v205 M) fun v207 M206 => gd (l3 + (nI 1)) L (oli (M206 310 (ix (l3 + (nI 1)))) fun v208 => gd (l3 + (nI 2)) L (oli (M206 310 (ix (l3 + (nI 2)))) fun v209 => obi (xX12_trace v208 v209 M206) fun v211 M210 => (if v207 = v211 then xL_law_18 L n (l3 + (nI 6)) M210 else some ((nI 0), M210))))))), ((nI 27), gd (l3 + (nI 1)) L (oli (M 310 (ix (l3 + (nI 1)))) fun v212 => gd (l3 + (nI 2)) L (oli (M 310 (ix (l3 + (nI 2)))) fun v213 => gd (l3 + (nI 3)) L (oli (M 310 (ix (l3 + (nI 3)))) fun v214 => obi (xX11_flow v212 v213 v214 M) fun v216 M215 => gd (l3 + (nI 1)) L (oli (M215 310 (ix (l3 + (nI 1)))) fun v217 => gd (l3 + (nI 2)) L (oli (M215 310 (ix (l3 + (nI 2)))) fun v218 => gd (l3 + (nI 3)) L (oli (M215 310 (ix (l3 + (nI 3)))) fun v219 => obi (xX12_flow v217 v218 v219 M215) fun v221 M220 => (if v216 = v221 then xL_law_18 L n (l3 + (nI 6)) M220 else some ((nI 0), M220))))))))), ((nI 28), gd (l3 + (nI 1)) L (oli (M 310 (ix (l3 + (nI 1)))) fun v222 => gd (l3 + (nI 2)) L (oli (M 310 (ix (l3 + (nI 2)))) fun v223 => obi (xX11_can v222 v223 M) fun v225 M224 => gd (l3 + (nI 1)) L (oli (M224 310 (ix (l3 + (nI 1)))) fun v226 => gd (l3 + (nI 2)) L (oli (M224 310 (ix (l3 + (nI 2)))) fun v227 => obi (xX12_can_ v226 v227 M224) fun v229 M228 => (if v225 = v229 then xL_law_18 L n (l3 + (nI 6)) M228 else some ((nI 0), M228))))))), ((nI 29), gd (l3 + (nI 1)) L (oli (M 310 (ix (l3 + (nI 1)))) fun v230 => obi (xX11_worth v230 M) fun v232 M231 => gd (l3 + (nI 1)) L (oli (M231 310 (ix (l3 + (nI 1)))) fun v233 => obi (xX12_worth v233 M231) fun v235 M234 => (if v232 = v235 then xL_law_18 L n (l3 + (nI 6)) M234 else some ((nI 0), M234))))), ((nI 30), gd (l3 + (nI 1)) L (oli (M 310 (ix (l3 + (nI 1)))) fun v236 => (if v236 = (0 : Int32) then xL_law_1150 (xL_law_18 L n) L l3 (nI 0) M else xL_law_1150 (xL_law_18 L n) L l3 (nI 1) M))), ((nI 31), gd (l3 + (nI 1)) L (oli (M 310 (ix (l3 + (nI 1)))) fun v237 => obi (xX11_look v237 M) fun v239 M238 => gd (l3 + (nI 1)) L (oli (M238 310 (ix (l3 + (nI 1)))) fun v240 => obi (xX12_look v240 M238) fun v242 M241 => (if v239 = v242 then xL_law_18 L n (l3 + (nI 6)) M241 else some ((nI 0), M241)))))] (xL_law_18 L n (l3 + (nI 6)) M)))
set_option maxRecDepth 20000 in
set_option maxHeartbeats 2000000 in
theorem tL_law_18  (L : Nat)  : ∀ (n : Nat) (l3 : Int32) (M : j_M), J (ρ := Int32 × j_M) yL_law cL_law 4 (some .boolean) 16 604 j_ei 18 [(0, .inr (3, L, 310)), (1, .inr (16, 0, 0)), (2, .inr (17, 0, 200)), (3, .inl (l3))] [] M (xL_law_18 L n l3 M) := by
  intro n
  induction n with
  | zero => intros; exact J_none
  | succ n ih =>
    intro l3 M
    rw [xL_law_18.eq_2]
    refine K_iload_n (q := 19) 3 dL_law_18 rfl rfl rfl ?_
    refine K_aload_n (q := 20) 0 dL_law_19 rfl rfl rfl ?_
    refine K_alen3 (q := 21) (v := Int32.ofNat L) dL_law_20 rfl rfl ?_
    refine K_bipush (q := 23) (v := nI 6) dL_law_21 rfl rfl ?_
    refine K_isub (q := 24) dL_law_23 rfl ?_
    refine K_icmp_gt (q := 27) (tgt := 1204) dL_law_24 rfl ?_ rfl ?_
    · refine K_iconst (q := 1205) (v := nI 1) dL_law_1204 rfl rfl ?_
      exact J_zret dL_law_1205 (by decide)
    · refine K_aload_n (q := 28) 0 dL_law_27 rfl rfl rfl ?_
      refine K_iload_n (q := 29) 3 dL_law_28 rfl rfl rfl ?_
      refine K_iald3 (q := 30) dL_law_29 rfl (fun v1 => ?_)
      refine K_bipush (q := 32) (v := nI 31) dL_law_30 rfl rfl ?_
      refine K_iand (q := 33) dL_law_32 rfl ?_
      refine K_tsw (dt := 1198) [176, 199, 232, 265, 308, 351, 384, 407, 430, 453, 516, 539, 562, 585, 608, 641, 684, 717, 760, 793, 826, 859, 882, 905, 938, 971, 1004, 1037, 1080, 1113, 1136, 1175] dL_law_33 rfl rfl rfl rfl ⟨?_, ?_, ?_, ?_, ?_, ?_, ?_, ?_, ?_, ?_, ?_, ?_, ?_, ?_, ?_, ?_, ?_, ?_, ?_, ?_, ?_, ?_, ?_, ?_, ?_, ?_, ?_, ?_, ?_, ?_, ?_, ?_, trivial⟩ ?_
      · refine K_aload_n (q := 177) 1 dL_law_176 rfl rfl rfl ?_
        refine K_aload_n (q := 178) 0 dL_law_177 rfl rfl rfl ?_
        refine K_iload_n (q := 179) 3 dL_law_178 rfl rfl rfl ?_
        refine K_iconst (q := 180) (v := nI 1) dL_law_179 rfl rfl ?_
        refine K_iadd (q := 181) dL_law_180 rfl ?_
        refine K_iald3 (q := 182) dL_law_181 rfl (fun v2 => ?_)
        refine K_cvi (q := 185) [.inl (v2)] dL_law_182 cb_X11_state cvRL_13 rc_6 (show (16 : Nat) ≠ 0 by decide) rfl (Nat.le_of_ble_eq_true rfl) ⟨by decide, by decide⟩ (Nat.le_of_ble_eq_true rfl) rfl (tX11_state v2 M) rfl (fun v4 M3 => ?_)
        refine K_aload_n (q := 186) 2 dL_law_185 rfl rfl rfl ?_
        refine K_aload_n (q := 187) 0 dL_law_186 rfl rfl rfl ?_
        refine K_iload_n (q := 188) 3 dL_law_187 rfl rfl rfl ?_
        refine K_iconst (q := 189) (v := nI 1) dL_law_188 rfl rfl ?_
        refine K_iadd (q := 190) dL_law_189 rfl ?_
        refine K_iald3 (q := 191) dL_law_190 rfl (fun v5 => ?_)
        refine K_cvi (q := 194) [.inl (v5)] dL_law_191 cb_X12_state cvRL_17 rc_7 (show (17 : Nat) ≠ 0 by decide) rfl (Nat.le_of_ble_eq_true rfl) ⟨by decide, by decide⟩ (Nat.le_of_ble_eq_true rfl) rfl (tX12_state v5 M3) rfl (fun v7 M6 => ?_)
        refine K_icmp_eq (q := 197) (tgt := 1198) dL_law_194 rfl ?_ rfl ?_
        · refine K_iinc (q := 1201) (v := l3 + (nI 6)) (ll' := [(3, .inl (l3 + (nI 6))), (0, .inr (3, L, 310)), (1, .inr (16, 0, 0)), (2, .inr (17, 0, 200))]) 3 dL_law_1198 rfl rfl (by decide) rfl rfl ?_
          refine J_goto (tgt := 18) dL_law_1201 rfl ?_
          exact J_sub [1, 2, 3, 0] (ih (l3 + (nI 6)) M6) rfl
        · refine K_iconst (q := 198) (v := nI 0) dL_law_197 rfl rfl ?_
          exact J_zret dL_law_198 (by decide)
      · refine K_aload_n (q := 200) 1 dL_law_199 rfl rfl rfl ?_
        refine K_aload_n (q := 201) 0 dL_law_200 rfl rfl rfl ?_
        refine K_iload_n (q := 202) 3 dL_law_201 rfl rfl rfl ?_
        refine K_iconst (q := 203) (v := nI 1) dL_law_202 rfl rfl ?_
        refine K_iadd (q := 204) dL_law_203 rfl ?_
        refine K_iald3 (q := 205) dL_law_204 rfl (fun v8 => ?_)
        refine K_aload_n (q := 206) 0 dL_law_205 rfl rfl rfl ?_
        refine K_iload_n (q := 207) 3 dL_law_206 rfl rfl rfl ?_
        refine K_iconst (q := 208) (v := nI 2) dL_law_207 rfl rfl ?_
        refine K_iadd (q := 209) dL_law_208 rfl ?_
        refine K_iald3 (q := 210) dL_law_209 rfl (fun v9 => ?_)
        refine K_cvi (q := 213) [.inl (v8), .inl (v9)] dL_law_210 cb_X11_set cvRL_18 rc_6 (show (16 : Nat) ≠ 0 by decide) rfl (Nat.le_of_ble_eq_true rfl) ⟨by decide, by decide⟩ (Nat.le_of_ble_eq_true rfl) rfl (tX11_set v8 v9 M) rfl (fun v11 M10 => ?_)
        refine K_aload_n (q := 214) 2 dL_law_213 rfl rfl rfl ?_
        refine K_aload_n (q := 215) 0 dL_law_214 rfl rfl rfl ?_
        refine K_iload_n (q := 216) 3 dL_law_215 rfl rfl rfl ?_
        refine K_iconst (q := 217) (v := nI 1) dL_law_216 rfl rfl ?_
        refine K_iadd (q := 218) dL_law_217 rfl ?_
        refine K_iald3 (q := 219) dL_law_218 rfl (fun v12 => ?_)
        refine K_aload_n (q := 220) 0 dL_law_219 rfl rfl rfl ?_
        refine K_iload_n (q := 221) 3 dL_law_220 rfl rfl rfl ?_
        refine K_iconst (q := 222) (v := nI 2) dL_law_221 rfl rfl ?_
        refine K_iadd (q := 223) dL_law_222 rfl ?_
        refine K_iald3 (q := 224) dL_law_223 rfl (fun v13 => ?_)
        refine K_cvi (q := 227) [.inl (v12), .inl (v13)] dL_law_224 cb_X12_set cvRL_22 rc_7 (show (17 : Nat) ≠ 0 by decide) rfl (Nat.le_of_ble_eq_true rfl) ⟨by decide, by decide⟩ (Nat.le_of_ble_eq_true rfl) rfl (tX12_set v12 v13 M10) rfl (fun v15 M14 => ?_)
        refine K_icmp_eq (q := 230) (tgt := 1198) dL_law_227 rfl ?_ rfl ?_
        · refine K_iinc (q := 1201) (v := l3 + (nI 6)) (ll' := [(3, .inl (l3 + (nI 6))), (0, .inr (3, L, 310)), (1, .inr (16, 0, 0)), (2, .inr (17, 0, 200))]) 3 dL_law_1198 rfl rfl (by decide) rfl rfl ?_
          refine J_goto (tgt := 18) dL_law_1201 rfl ?_
          exact J_sub [1, 2, 3, 0] (ih (l3 + (nI 6)) M14) rfl
        · refine K_iconst (q := 231) (v := nI 0) dL_law_230 rfl rfl ?_
          exact J_zret dL_law_231 (by decide)
      · refine K_aload_n (q := 233) 1 dL_law_232 rfl rfl rfl ?_
        refine K_aload_n (q := 234) 0 dL_law_233 rfl rfl rfl ?_
        refine K_iload_n (q := 235) 3 dL_law_234 rfl rfl rfl ?_
        refine K_iconst (q := 236) (v := nI 1) dL_law_235 rfl rfl ?_
        refine K_iadd (q := 237) dL_law_236 rfl ?_
        refine K_iald3 (q := 238) dL_law_237 rfl (fun v16 => ?_)
        refine K_aload_n (q := 239) 0 dL_law_238 rfl rfl rfl ?_
        refine K_iload_n (q := 240) 3 dL_law_239 rfl rfl rfl ?_
        refine K_iconst (q := 241) (v := nI 2) dL_law_240 rfl rfl ?_
        refine K_iadd (q := 242) dL_law_241 rfl ?_
        refine K_iald3 (q := 243) dL_law_242 rfl (fun v17 => ?_)
        refine K_cvi (q := 246) [.inl (v16), .inl (v17)] dL_law_243 cb_X11_load cvRL_23 rc_6 (show (16 : Nat) ≠ 0 by decide) rfl (Nat.le_of_ble_eq_true rfl) ⟨by decide, by decide⟩ (Nat.le_of_ble_eq_true rfl) rfl (tX11_load v16 v17 M) rfl (fun v19 M18 => ?_)
        refine K_aload_n (q := 247) 2 dL_law_246 rfl rfl rfl ?_
        refine K_aload_n (q := 248) 0 dL_law_247 rfl rfl rfl ?_
        refine K_iload_n (q := 249) 3 dL_law_248 rfl rfl rfl ?_
        refine K_iconst (q := 250) (v := nI 1) dL_law_249 rfl rfl ?_
        refine K_iadd (q := 251) dL_law_250 rfl ?_
        refine K_iald3 (q := 252) dL_law_251 rfl (fun v20 => ?_)
        refine K_aload_n (q := 253) 0 dL_law_252 rfl rfl rfl ?_
        refine K_iload_n (q := 254) 3 dL_law_253 rfl rfl rfl ?_
        refine K_iconst (q := 255) (v := nI 2) dL_law_254 rfl rfl ?_
        refine K_iadd (q := 256) dL_law_255 rfl ?_
        refine K_iald3 (q := 257) dL_law_256 rfl (fun v21 => ?_)
        refine K_cvi (q := 260) [.inl (v20), .inl (v21)] dL_law_257 cb_X12_load cvRL_27 rc_7 (show (17 : Nat) ≠ 0 by decide) rfl (Nat.le_of_ble_eq_true rfl) ⟨by decide, by decide⟩ (Nat.le_of_ble_eq_true rfl) rfl (tX12_load v20 v21 M18) rfl (fun v23 M22 => ?_)
        refine K_icmp_eq (q := 263) (tgt := 1198) dL_law_260 rfl ?_ rfl ?_
        · refine K_iinc (q := 1201) (v := l3 + (nI 6)) (ll' := [(3, .inl (l3 + (nI 6))), (0, .inr (3, L, 310)), (1, .inr (16, 0, 0)), (2, .inr (17, 0, 200))]) 3 dL_law_1198 rfl rfl (by decide) rfl rfl ?_
          refine J_goto (tgt := 18) dL_law_1201 rfl ?_
          exact J_sub [1, 2, 3, 0] (ih (l3 + (nI 6)) M22) rfl
        · refine K_iconst (q := 264) (v := nI 0) dL_law_263 rfl rfl ?_
          exact J_zret dL_law_264 (by decide)
      · refine K_aload_n (q := 266) 1 dL_law_265 rfl rfl rfl ?_
        refine K_aload_n (q := 267) 0 dL_law_266 rfl rfl rfl ?_
        refine K_iload_n (q := 268) 3 dL_law_267 rfl rfl rfl ?_
        refine K_iconst (q := 269) (v := nI 1) dL_law_268 rfl rfl ?_
        refine K_iadd (q := 270) dL_law_269 rfl ?_
        refine K_iald3 (q := 271) dL_law_270 rfl (fun v24 => ?_)
        refine K_aload_n (q := 272) 0 dL_law_271 rfl rfl rfl ?_
        refine K_iload_n (q := 273) 3 dL_law_272 rfl rfl rfl ?_
        refine K_iconst (q := 274) (v := nI 2) dL_law_273 rfl rfl ?_
        refine K_iadd (q := 275) dL_law_274 rfl ?_
        refine K_iald3 (q := 276) dL_law_275 rfl (fun v25 => ?_)
        refine K_aload_n (q := 277) 0 dL_law_276 rfl rfl rfl ?_
        refine K_iload_n (q := 278) 3 dL_law_277 rfl rfl rfl ?_
        refine K_iconst (q := 279) (v := nI 3) dL_law_278 rfl rfl ?_
        refine K_iadd (q := 280) dL_law_279 rfl ?_
        refine K_iald3 (q := 281) dL_law_280 rfl (fun v26 => ?_)
        refine K_cvi (q := 284) [.inl (v24), .inl (v25), .inl (v26)] dL_law_281 cb_X11_store cvRL_28 rc_6 (show (16 : Nat) ≠ 0 by decide) rfl (Nat.le_of_ble_eq_true rfl) ⟨by decide, by decide⟩ (Nat.le_of_ble_eq_true rfl) rfl (tX11_store v24 v25 v26 M) rfl (fun v28 M27 => ?_)
        refine K_aload_n (q := 285) 2 dL_law_284 rfl rfl rfl ?_
        refine K_aload_n (q := 286) 0 dL_law_285 rfl rfl rfl ?_
        refine K_iload_n (q := 287) 3 dL_law_286 rfl rfl rfl ?_
        refine K_iconst (q := 288) (v := nI 1) dL_law_287 rfl rfl ?_
        refine K_iadd (q := 289) dL_law_288 rfl ?_
        refine K_iald3 (q := 290) dL_law_289 rfl (fun v29 => ?_)
        refine K_aload_n (q := 291) 0 dL_law_290 rfl rfl rfl ?_
        refine K_iload_n (q := 292) 3 dL_law_291 rfl rfl rfl ?_
        refine K_iconst (q := 293) (v := nI 2) dL_law_292 rfl rfl ?_
        refine K_iadd (q := 294) dL_law_293 rfl ?_
        refine K_iald3 (q := 295) dL_law_294 rfl (fun v30 => ?_)
        refine K_aload_n (q := 296) 0 dL_law_295 rfl rfl rfl ?_
        refine K_iload_n (q := 297) 3 dL_law_296 rfl rfl rfl ?_
        refine K_iconst (q := 298) (v := nI 3) dL_law_297 rfl rfl ?_
        refine K_iadd (q := 299) dL_law_298 rfl ?_
        refine K_iald3 (q := 300) dL_law_299 rfl (fun v31 => ?_)
        refine K_cvi (q := 303) [.inl (v29), .inl (v30), .inl (v31)] dL_law_300 cb_X12_store cvRL_32 rc_7 (show (17 : Nat) ≠ 0 by decide) rfl (Nat.le_of_ble_eq_true rfl) ⟨by decide, by decide⟩ (Nat.le_of_ble_eq_true rfl) rfl (tX12_store v29 v30 v31 M27) rfl (fun v33 M32 => ?_)
        refine K_icmp_eq (q := 306) (tgt := 1198) dL_law_303 rfl ?_ rfl ?_
        · refine K_iinc (q := 1201) (v := l3 + (nI 6)) (ll' := [(3, .inl (l3 + (nI 6))), (0, .inr (3, L, 310)), (1, .inr (16, 0, 0)), (2, .inr (17, 0, 200))]) 3 dL_law_1198 rfl rfl (by decide) rfl rfl ?_
          refine J_goto (tgt := 18) dL_law_1201 rfl ?_
          exact J_sub [1, 2, 3, 0] (ih (l3 + (nI 6)) M32) rfl
        · refine K_iconst (q := 307) (v := nI 0) dL_law_306 rfl rfl ?_
          exact J_zret dL_law_307 (by decide)
      · refine K_aload_n (q := 309) 1 dL_law_308 rfl rfl rfl ?_
        refine K_aload_n (q := 310) 0 dL_law_309 rfl rfl rfl ?_
        refine K_iload_n (q := 311) 3 dL_law_310 rfl rfl rfl ?_
        refine K_iconst (q := 312) (v := nI 1) dL_law_311 rfl rfl ?_
        refine K_iadd (q := 313) dL_law_312 rfl ?_
        refine K_iald3 (q := 314) dL_law_313 rfl (fun v34 => ?_)
        refine K_aload_n (q := 315) 0 dL_law_314 rfl rfl rfl ?_
        refine K_iload_n (q := 316) 3 dL_law_315 rfl rfl rfl ?_
        refine K_iconst (q := 317) (v := nI 2) dL_law_316 rfl rfl ?_
        refine K_iadd (q := 318) dL_law_317 rfl ?_
        refine K_iald3 (q := 319) dL_law_318 rfl (fun v35 => ?_)
        refine K_aload_n (q := 320) 0 dL_law_319 rfl rfl rfl ?_
        refine K_iload_n (q := 321) 3 dL_law_320 rfl rfl rfl ?_
        refine K_iconst (q := 322) (v := nI 3) dL_law_321 rfl rfl ?_
        refine K_iadd (q := 323) dL_law_322 rfl ?_
        refine K_iald3 (q := 324) dL_law_323 rfl (fun v36 => ?_)
        refine K_cvi (q := 327) [.inl (v34), .inl (v35), .inl (v36)] dL_law_324 cb_X11_add cvRL_33 rc_6 (show (16 : Nat) ≠ 0 by decide) rfl (Nat.le_of_ble_eq_true rfl) ⟨by decide, by decide⟩ (Nat.le_of_ble_eq_true rfl) rfl (tX11_add v34 v35 v36 M) rfl (fun v38 M37 => ?_)
        refine K_aload_n (q := 328) 2 dL_law_327 rfl rfl rfl ?_
        refine K_aload_n (q := 329) 0 dL_law_328 rfl rfl rfl ?_
        refine K_iload_n (q := 330) 3 dL_law_329 rfl rfl rfl ?_
        refine K_iconst (q := 331) (v := nI 1) dL_law_330 rfl rfl ?_
        refine K_iadd (q := 332) dL_law_331 rfl ?_
        refine K_iald3 (q := 333) dL_law_332 rfl (fun v39 => ?_)
        refine K_aload_n (q := 334) 0 dL_law_333 rfl rfl rfl ?_
        refine K_iload_n (q := 335) 3 dL_law_334 rfl rfl rfl ?_
        refine K_iconst (q := 336) (v := nI 2) dL_law_335 rfl rfl ?_
        refine K_iadd (q := 337) dL_law_336 rfl ?_
        refine K_iald3 (q := 338) dL_law_337 rfl (fun v40 => ?_)
        refine K_aload_n (q := 339) 0 dL_law_338 rfl rfl rfl ?_
        refine K_iload_n (q := 340) 3 dL_law_339 rfl rfl rfl ?_
        refine K_iconst (q := 341) (v := nI 3) dL_law_340 rfl rfl ?_
        refine K_iadd (q := 342) dL_law_341 rfl ?_
        refine K_iald3 (q := 343) dL_law_342 rfl (fun v41 => ?_)
        refine K_cvi (q := 346) [.inl (v39), .inl (v40), .inl (v41)] dL_law_343 cb_X12_add cvRL_36 rc_7 (show (17 : Nat) ≠ 0 by decide) rfl (Nat.le_of_ble_eq_true rfl) ⟨by decide, by decide⟩ (Nat.le_of_ble_eq_true rfl) rfl (tX12_add v39 v40 v41 M37) rfl (fun v43 M42 => ?_)
        refine K_icmp_eq (q := 349) (tgt := 1198) dL_law_346 rfl ?_ rfl ?_
        · refine K_iinc (q := 1201) (v := l3 + (nI 6)) (ll' := [(3, .inl (l3 + (nI 6))), (0, .inr (3, L, 310)), (1, .inr (16, 0, 0)), (2, .inr (17, 0, 200))]) 3 dL_law_1198 rfl rfl (by decide) rfl rfl ?_
          refine J_goto (tgt := 18) dL_law_1201 rfl ?_
          exact J_sub [1, 2, 3, 0] (ih (l3 + (nI 6)) M42) rfl
        · refine K_iconst (q := 350) (v := nI 0) dL_law_349 rfl rfl ?_
          exact J_zret dL_law_350 (by decide)
      · refine K_aload_n (q := 352) 1 dL_law_351 rfl rfl rfl ?_
        refine K_aload_n (q := 353) 0 dL_law_352 rfl rfl rfl ?_
        refine K_iload_n (q := 354) 3 dL_law_353 rfl rfl rfl ?_
        refine K_iconst (q := 355) (v := nI 1) dL_law_354 rfl rfl ?_
        refine K_iadd (q := 356) dL_law_355 rfl ?_
        refine K_iald3 (q := 357) dL_law_356 rfl (fun v44 => ?_)
        refine K_aload_n (q := 358) 0 dL_law_357 rfl rfl rfl ?_
        refine K_iload_n (q := 359) 3 dL_law_358 rfl rfl rfl ?_
        refine K_iconst (q := 360) (v := nI 2) dL_law_359 rfl rfl ?_
        refine K_iadd (q := 361) dL_law_360 rfl ?_
        refine K_iald3 (q := 362) dL_law_361 rfl (fun v45 => ?_)
        refine K_cvi (q := 365) [.inl (v44), .inl (v45)] dL_law_362 cb_X11_evict cvRL_37 rc_6 (show (16 : Nat) ≠ 0 by decide) rfl (Nat.le_of_ble_eq_true rfl) ⟨by decide, by decide⟩ (Nat.le_of_ble_eq_true rfl) rfl (tX11_evict v44 v45 M) rfl (fun v47 M46 => ?_)
        refine K_aload_n (q := 366) 2 dL_law_365 rfl rfl rfl ?_
        refine K_aload_n (q := 367) 0 dL_law_366 rfl rfl rfl ?_
        refine K_iload_n (q := 368) 3 dL_law_367 rfl rfl rfl ?_
        refine K_iconst (q := 369) (v := nI 1) dL_law_368 rfl rfl ?_
        refine K_iadd (q := 370) dL_law_369 rfl ?_
        refine K_iald3 (q := 371) dL_law_370 rfl (fun v48 => ?_)
        refine K_aload_n (q := 372) 0 dL_law_371 rfl rfl rfl ?_
        refine K_iload_n (q := 373) 3 dL_law_372 rfl rfl rfl ?_
        refine K_iconst (q := 374) (v := nI 2) dL_law_373 rfl rfl ?_
        refine K_iadd (q := 375) dL_law_374 rfl ?_
        refine K_iald3 (q := 376) dL_law_375 rfl (fun v49 => ?_)
        refine K_cvi (q := 379) [.inl (v48), .inl (v49)] dL_law_376 cb_X12_evict cvRL_40 rc_7 (show (17 : Nat) ≠ 0 by decide) rfl (Nat.le_of_ble_eq_true rfl) ⟨by decide, by decide⟩ (Nat.le_of_ble_eq_true rfl) rfl (tX12_evict v48 v49 M46) rfl (fun v51 M50 => ?_)
        refine K_icmp_eq (q := 382) (tgt := 1198) dL_law_379 rfl ?_ rfl ?_
        · refine K_iinc (q := 1201) (v := l3 + (nI 6)) (ll' := [(3, .inl (l3 + (nI 6))), (0, .inr (3, L, 310)), (1, .inr (16, 0, 0)), (2, .inr (17, 0, 200))]) 3 dL_law_1198 rfl rfl (by decide) rfl rfl ?_
          refine J_goto (tgt := 18) dL_law_1201 rfl ?_
          exact J_sub [1, 2, 3, 0] (ih (l3 + (nI 6)) M50) rfl
        · refine K_iconst (q := 383) (v := nI 0) dL_law_382 rfl rfl ?_
          exact J_zret dL_law_383 (by decide)
      · refine K_aload_n (q := 385) 1 dL_law_384 rfl rfl rfl ?_
        refine K_aload_n (q := 386) 0 dL_law_385 rfl rfl rfl ?_
        refine K_iload_n (q := 387) 3 dL_law_386 rfl rfl rfl ?_
        refine K_iconst (q := 388) (v := nI 1) dL_law_387 rfl rfl ?_
        refine K_iadd (q := 389) dL_law_388 rfl ?_
        refine K_iald3 (q := 390) dL_law_389 rfl (fun v52 => ?_)
        refine K_cvi (q := 393) [.inl (v52)] dL_law_390 cb_X11_deliver cvRL_41 rc_6 (show (16 : Nat) ≠ 0 by decide) rfl (Nat.le_of_ble_eq_true rfl) ⟨by decide, by decide⟩ (Nat.le_of_ble_eq_true rfl) rfl (tX11_deliver v52 M) rfl (fun v54 M53 => ?_)
        refine K_aload_n (q := 394) 2 dL_law_393 rfl rfl rfl ?_
        refine K_aload_n (q := 395) 0 dL_law_394 rfl rfl rfl ?_
        refine K_iload_n (q := 396) 3 dL_law_395 rfl rfl rfl ?_
        refine K_iconst (q := 397) (v := nI 1) dL_law_396 rfl rfl ?_
        refine K_iadd (q := 398) dL_law_397 rfl ?_
        refine K_iald3 (q := 399) dL_law_398 rfl (fun v55 => ?_)
        refine K_cvi (q := 402) [.inl (v55)] dL_law_399 cb_X12_deliver cvRL_44 rc_7 (show (17 : Nat) ≠ 0 by decide) rfl (Nat.le_of_ble_eq_true rfl) ⟨by decide, by decide⟩ (Nat.le_of_ble_eq_true rfl) rfl (tX12_deliver v55 M53) rfl (fun v57 M56 => ?_)
        refine K_icmp_eq (q := 405) (tgt := 1198) dL_law_402 rfl ?_ rfl ?_
        · refine K_iinc (q := 1201) (v := l3 + (nI 6)) (ll' := [(3, .inl (l3 + (nI 6))), (0, .inr (3, L, 310)), (1, .inr (16, 0, 0)), (2, .inr (17, 0, 200))]) 3 dL_law_1198 rfl rfl (by decide) rfl rfl ?_
          refine J_goto (tgt := 18) dL_law_1201 rfl ?_
          exact J_sub [1, 2, 3, 0] (ih (l3 + (nI 6)) M56) rfl
        · refine K_iconst (q := 406) (v := nI 0) dL_law_405 rfl rfl ?_
          exact J_zret dL_law_406 (by decide)
      · refine K_aload_n (q := 408) 1 dL_law_407 rfl rfl rfl ?_
        refine K_aload_n (q := 409) 0 dL_law_408 rfl rfl rfl ?_
        refine K_iload_n (q := 410) 3 dL_law_409 rfl rfl rfl ?_
        refine K_iconst (q := 411) (v := nI 1) dL_law_410 rfl rfl ?_
        refine K_iadd (q := 412) dL_law_411 rfl ?_
        refine K_iald3 (q := 413) dL_law_412 rfl (fun v58 => ?_)
        refine K_cvi (q := 416) [.inl (v58)] dL_law_413 cb_X11_tick cvRL_45 rc_6 (show (16 : Nat) ≠ 0 by decide) rfl (Nat.le_of_ble_eq_true rfl) ⟨by decide, by decide⟩ (Nat.le_of_ble_eq_true rfl) rfl (tX11_tick v58 M) rfl (fun v60 M59 => ?_)
        refine K_aload_n (q := 417) 2 dL_law_416 rfl rfl rfl ?_
        refine K_aload_n (q := 418) 0 dL_law_417 rfl rfl rfl ?_
        refine K_iload_n (q := 419) 3 dL_law_418 rfl rfl rfl ?_
        refine K_iconst (q := 420) (v := nI 1) dL_law_419 rfl rfl ?_
        refine K_iadd (q := 421) dL_law_420 rfl ?_
        refine K_iald3 (q := 422) dL_law_421 rfl (fun v61 => ?_)
        refine K_cvi (q := 425) [.inl (v61)] dL_law_422 cb_X12_tick cvRL_48 rc_7 (show (17 : Nat) ≠ 0 by decide) rfl (Nat.le_of_ble_eq_true rfl) ⟨by decide, by decide⟩ (Nat.le_of_ble_eq_true rfl) rfl (tX12_tick v61 M59) rfl (fun v63 M62 => ?_)
        refine K_icmp_eq (q := 428) (tgt := 1198) dL_law_425 rfl ?_ rfl ?_
        · refine K_iinc (q := 1201) (v := l3 + (nI 6)) (ll' := [(3, .inl (l3 + (nI 6))), (0, .inr (3, L, 310)), (1, .inr (16, 0, 0)), (2, .inr (17, 0, 200))]) 3 dL_law_1198 rfl rfl (by decide) rfl rfl ?_
          refine J_goto (tgt := 18) dL_law_1201 rfl ?_
          exact J_sub [1, 2, 3, 0] (ih (l3 + (nI 6)) M62) rfl
        · refine K_iconst (q := 429) (v := nI 0) dL_law_428 rfl rfl ?_
          exact J_zret dL_law_429 (by decide)
      · refine K_aload_n (q := 431) 1 dL_law_430 rfl rfl rfl ?_
        refine K_aload_n (q := 432) 0 dL_law_431 rfl rfl rfl ?_
        refine K_iload_n (q := 433) 3 dL_law_432 rfl rfl rfl ?_
        refine K_iconst (q := 434) (v := nI 1) dL_law_433 rfl rfl ?_
        refine K_iadd (q := 435) dL_law_434 rfl ?_
        refine K_iald3 (q := 436) dL_law_435 rfl (fun v64 => ?_)
        refine K_cvi (q := 439) [.inl (v64)] dL_law_436 cb_X11_calm cvRL_49 rc_6 (show (16 : Nat) ≠ 0 by decide) rfl (Nat.le_of_ble_eq_true rfl) ⟨by decide, by decide⟩ (Nat.le_of_ble_eq_true rfl) rfl (tX11_calm v64 M) rfl (fun v66 M65 => ?_)
        refine K_aload_n (q := 440) 2 dL_law_439 rfl rfl rfl ?_
        refine K_aload_n (q := 441) 0 dL_law_440 rfl rfl rfl ?_
        refine K_iload_n (q := 442) 3 dL_law_441 rfl rfl rfl ?_
        refine K_iconst (q := 443) (v := nI 1) dL_law_442 rfl rfl ?_
        refine K_iadd (q := 444) dL_law_443 rfl ?_
        refine K_iald3 (q := 445) dL_law_444 rfl (fun v67 => ?_)
        refine K_cvi (q := 448) [.inl (v67)] dL_law_445 cb_X12_calm cvRL_52 rc_7 (show (17 : Nat) ≠ 0 by decide) rfl (Nat.le_of_ble_eq_true rfl) ⟨by decide, by decide⟩ (Nat.le_of_ble_eq_true rfl) rfl (tX12_calm v67 M65) rfl (fun v69 M68 => ?_)
        refine K_icmp_eq (q := 451) (tgt := 1198) dL_law_448 rfl ?_ rfl ?_
        · refine K_iinc (q := 1201) (v := l3 + (nI 6)) (ll' := [(3, .inl (l3 + (nI 6))), (0, .inr (3, L, 310)), (1, .inr (16, 0, 0)), (2, .inr (17, 0, 200))]) 3 dL_law_1198 rfl rfl (by decide) rfl rfl ?_
          refine J_goto (tgt := 18) dL_law_1201 rfl ?_
          exact J_sub [1, 2, 3, 0] (ih (l3 + (nI 6)) M68) rfl
        · refine K_iconst (q := 452) (v := nI 0) dL_law_451 rfl rfl ?_
          exact J_zret dL_law_452 (by decide)
      · refine K_aload_n (q := 454) 1 dL_law_453 rfl rfl rfl ?_
        refine K_aload_n (q := 455) 0 dL_law_454 rfl rfl rfl ?_
        refine K_iload_n (q := 456) 3 dL_law_455 rfl rfl rfl ?_
        refine K_iconst (q := 457) (v := nI 1) dL_law_456 rfl rfl ?_
        refine K_iadd (q := 458) dL_law_457 rfl ?_
        refine K_iald3 (q := 459) dL_law_458 rfl (fun v70 => ?_)
        refine K_aload_n (q := 460) 0 dL_law_459 rfl rfl rfl ?_
        refine K_iload_n (q := 461) 3 dL_law_460 rfl rfl rfl ?_
        refine K_iconst (q := 462) (v := nI 2) dL_law_461 rfl rfl ?_
        refine K_iadd (q := 463) dL_law_462 rfl ?_
        refine K_iald3 (q := 464) dL_law_463 rfl (fun v71 => ?_)
        refine K_aload_n (q := 465) 0 dL_law_464 rfl rfl rfl ?_
        refine K_iload_n (q := 466) 3 dL_law_465 rfl rfl rfl ?_
        refine K_iconst (q := 467) (v := nI 3) dL_law_466 rfl rfl ?_
        refine K_iadd (q := 468) dL_law_467 rfl ?_
        refine K_iald3 (q := 469) dL_law_468 rfl (fun v72 => ?_)
        refine K_aload_n (q := 470) 0 dL_law_469 rfl rfl rfl ?_
        refine K_iload_n (q := 471) 3 dL_law_470 rfl rfl rfl ?_
        refine K_iconst (q := 472) (v := nI 4) dL_law_471 rfl rfl ?_
        refine K_iadd (q := 473) dL_law_472 rfl ?_
        refine K_iald3 (q := 474) dL_law_473 rfl (fun v73 => ?_)
        refine K_aload_n (q := 475) 0 dL_law_474 rfl rfl rfl ?_
        refine K_iload_n (q := 476) 3 dL_law_475 rfl rfl rfl ?_
        refine K_iconst (q := 477) (v := nI 5) dL_law_476 rfl rfl ?_
        refine K_iadd (q := 478) dL_law_477 rfl ?_
        refine K_iald3 (q := 479) dL_law_478 rfl (fun v74 => ?_)
        refine K_cvi (q := 482) [.inl (v70), .inl (v71), .inl (v72), .inl (v73), .inl (v74)] dL_law_479 cb_X11_feed cvRL_53 rc_6 (show (16 : Nat) ≠ 0 by decide) rfl (Nat.le_of_ble_eq_true rfl) ⟨by decide, by decide⟩ (Nat.le_of_ble_eq_true rfl) rfl (tX11_feed v70 v71 v72 v73 v74 M) rfl (fun v76 M75 => ?_)
        refine K_aload_n (q := 483) 2 dL_law_482 rfl rfl rfl ?_
        refine K_aload_n (q := 484) 0 dL_law_483 rfl rfl rfl ?_
        refine K_iload_n (q := 485) 3 dL_law_484 rfl rfl rfl ?_
        refine K_iconst (q := 486) (v := nI 1) dL_law_485 rfl rfl ?_
        refine K_iadd (q := 487) dL_law_486 rfl ?_
        refine K_iald3 (q := 488) dL_law_487 rfl (fun v77 => ?_)
        refine K_aload_n (q := 489) 0 dL_law_488 rfl rfl rfl ?_
        refine K_iload_n (q := 490) 3 dL_law_489 rfl rfl rfl ?_
        refine K_iconst (q := 491) (v := nI 2) dL_law_490 rfl rfl ?_
        refine K_iadd (q := 492) dL_law_491 rfl ?_
        refine K_iald3 (q := 493) dL_law_492 rfl (fun v78 => ?_)
        refine K_aload_n (q := 494) 0 dL_law_493 rfl rfl rfl ?_
        refine K_iload_n (q := 495) 3 dL_law_494 rfl rfl rfl ?_
        refine K_iconst (q := 496) (v := nI 3) dL_law_495 rfl rfl ?_
        refine K_iadd (q := 497) dL_law_496 rfl ?_
        refine K_iald3 (q := 498) dL_law_497 rfl (fun v79 => ?_)
        refine K_aload_n (q := 499) 0 dL_law_498 rfl rfl rfl ?_
        refine K_iload_n (q := 500) 3 dL_law_499 rfl rfl rfl ?_
        refine K_iconst (q := 501) (v := nI 4) dL_law_500 rfl rfl ?_
        refine K_iadd (q := 502) dL_law_501 rfl ?_
        refine K_iald3 (q := 503) dL_law_502 rfl (fun v80 => ?_)
        refine K_aload_n (q := 504) 0 dL_law_503 rfl rfl rfl ?_
        refine K_iload_n (q := 505) 3 dL_law_504 rfl rfl rfl ?_
        refine K_iconst (q := 506) (v := nI 5) dL_law_505 rfl rfl ?_
        refine K_iadd (q := 507) dL_law_506 rfl ?_
        refine K_iald3 (q := 508) dL_law_507 rfl (fun v81 => ?_)
        refine K_cvi (q := 511) [.inl (v77), .inl (v78), .inl (v79), .inl (v80), .inl (v81)] dL_law_508 cb_X12_feed cvRL_57 rc_7 (show (17 : Nat) ≠ 0 by decide) rfl (Nat.le_of_ble_eq_true rfl) ⟨by decide, by decide⟩ (Nat.le_of_ble_eq_true rfl) rfl (tX12_feed v77 v78 v79 v80 v81 M75) rfl (fun v83 M82 => ?_)
        refine K_icmp_eq (q := 514) (tgt := 1198) dL_law_511 rfl ?_ rfl ?_
        · refine K_iinc (q := 1201) (v := l3 + (nI 6)) (ll' := [(3, .inl (l3 + (nI 6))), (0, .inr (3, L, 310)), (1, .inr (16, 0, 0)), (2, .inr (17, 0, 200))]) 3 dL_law_1198 rfl rfl (by decide) rfl rfl ?_
          refine J_goto (tgt := 18) dL_law_1201 rfl ?_
          exact J_sub [1, 2, 3, 0] (ih (l3 + (nI 6)) M82) rfl
        · refine K_iconst (q := 515) (v := nI 0) dL_law_514 rfl rfl ?_
          exact J_zret dL_law_515 (by decide)
      · refine K_aload_n (q := 517) 1 dL_law_516 rfl rfl rfl ?_
        refine K_aload_n (q := 518) 0 dL_law_517 rfl rfl rfl ?_
        refine K_iload_n (q := 519) 3 dL_law_518 rfl rfl rfl ?_
        refine K_iconst (q := 520) (v := nI 1) dL_law_519 rfl rfl ?_
        refine K_iadd (q := 521) dL_law_520 rfl ?_
        refine K_iald3 (q := 522) dL_law_521 rfl (fun v84 => ?_)
        refine K_cvi (q := 525) [.inl (v84)] dL_law_522 cb_X11_end cvRL_58 rc_6 (show (16 : Nat) ≠ 0 by decide) rfl (Nat.le_of_ble_eq_true rfl) ⟨by decide, by decide⟩ (Nat.le_of_ble_eq_true rfl) rfl (tX11_end v84 M) rfl (fun v86 M85 => ?_)
        refine K_aload_n (q := 526) 2 dL_law_525 rfl rfl rfl ?_
        refine K_aload_n (q := 527) 0 dL_law_526 rfl rfl rfl ?_
        refine K_iload_n (q := 528) 3 dL_law_527 rfl rfl rfl ?_
        refine K_iconst (q := 529) (v := nI 1) dL_law_528 rfl rfl ?_
        refine K_iadd (q := 530) dL_law_529 rfl ?_
        refine K_iald3 (q := 531) dL_law_530 rfl (fun v87 => ?_)
        refine K_cvi (q := 534) [.inl (v87)] dL_law_531 cb_X12_end cvRL_62 rc_7 (show (17 : Nat) ≠ 0 by decide) rfl (Nat.le_of_ble_eq_true rfl) ⟨by decide, by decide⟩ (Nat.le_of_ble_eq_true rfl) rfl (tX12_end v87 M85) rfl (fun v89 M88 => ?_)
        refine K_icmp_eq (q := 537) (tgt := 1198) dL_law_534 rfl ?_ rfl ?_
        · refine K_iinc (q := 1201) (v := l3 + (nI 6)) (ll' := [(3, .inl (l3 + (nI 6))), (0, .inr (3, L, 310)), (1, .inr (16, 0, 0)), (2, .inr (17, 0, 200))]) 3 dL_law_1198 rfl rfl (by decide) rfl rfl ?_
          refine J_goto (tgt := 18) dL_law_1201 rfl ?_
          exact J_sub [1, 2, 3, 0] (ih (l3 + (nI 6)) M88) rfl
        · refine K_iconst (q := 538) (v := nI 0) dL_law_537 rfl rfl ?_
          exact J_zret dL_law_538 (by decide)
      · refine K_aload_n (q := 540) 1 dL_law_539 rfl rfl rfl ?_
        refine K_aload_n (q := 541) 0 dL_law_540 rfl rfl rfl ?_
        refine K_iload_n (q := 542) 3 dL_law_541 rfl rfl rfl ?_
        refine K_iconst (q := 543) (v := nI 1) dL_law_542 rfl rfl ?_
        refine K_iadd (q := 544) dL_law_543 rfl ?_
        refine K_iald3 (q := 545) dL_law_544 rfl (fun v90 => ?_)
        refine K_cvi (q := 548) [.inl (v90)] dL_law_545 cb_X11_text cvRL_63 rc_6 (show (16 : Nat) ≠ 0 by decide) rfl (Nat.le_of_ble_eq_true rfl) ⟨by decide, by decide⟩ (Nat.le_of_ble_eq_true rfl) rfl (tX11_text v90 M) rfl (fun v92 M91 => ?_)
        refine K_aload_n (q := 549) 2 dL_law_548 rfl rfl rfl ?_
        refine K_aload_n (q := 550) 0 dL_law_549 rfl rfl rfl ?_
        refine K_iload_n (q := 551) 3 dL_law_550 rfl rfl rfl ?_
        refine K_iconst (q := 552) (v := nI 1) dL_law_551 rfl rfl ?_
        refine K_iadd (q := 553) dL_law_552 rfl ?_
        refine K_iald3 (q := 554) dL_law_553 rfl (fun v93 => ?_)
        refine K_cvi (q := 557) [.inl (v93)] dL_law_554 cb_X12_text cvRL_66 rc_7 (show (17 : Nat) ≠ 0 by decide) rfl (Nat.le_of_ble_eq_true rfl) ⟨by decide, by decide⟩ (Nat.le_of_ble_eq_true rfl) rfl (tX12_text v93 M91) rfl (fun v95 M94 => ?_)
        refine K_icmp_eq (q := 560) (tgt := 1198) dL_law_557 rfl ?_ rfl ?_
        · refine K_iinc (q := 1201) (v := l3 + (nI 6)) (ll' := [(3, .inl (l3 + (nI 6))), (0, .inr (3, L, 310)), (1, .inr (16, 0, 0)), (2, .inr (17, 0, 200))]) 3 dL_law_1198 rfl rfl (by decide) rfl rfl ?_
          refine J_goto (tgt := 18) dL_law_1201 rfl ?_
          exact J_sub [1, 2, 3, 0] (ih (l3 + (nI 6)) M94) rfl
        · refine K_iconst (q := 561) (v := nI 0) dL_law_560 rfl rfl ?_
          exact J_zret dL_law_561 (by decide)
      · refine K_aload_n (q := 563) 1 dL_law_562 rfl rfl rfl ?_
        refine K_aload_n (q := 564) 0 dL_law_563 rfl rfl rfl ?_
        refine K_iload_n (q := 565) 3 dL_law_564 rfl rfl rfl ?_
        refine K_iconst (q := 566) (v := nI 1) dL_law_565 rfl rfl ?_
        refine K_iadd (q := 567) dL_law_566 rfl ?_
        refine K_iald3 (q := 568) dL_law_567 rfl (fun v96 => ?_)
        refine K_cvi (q := 571) [.inl (v96)] dL_law_568 cb_X11_run cvRL_67 rc_6 (show (16 : Nat) ≠ 0 by decide) rfl (Nat.le_of_ble_eq_true rfl) ⟨by decide, by decide⟩ (Nat.le_of_ble_eq_true rfl) rfl (tX11_run v96 M) rfl (fun v98 M97 => ?_)
        refine K_aload_n (q := 572) 2 dL_law_571 rfl rfl rfl ?_
        refine K_aload_n (q := 573) 0 dL_law_572 rfl rfl rfl ?_
        refine K_iload_n (q := 574) 3 dL_law_573 rfl rfl rfl ?_
        refine K_iconst (q := 575) (v := nI 1) dL_law_574 rfl rfl ?_
        refine K_iadd (q := 576) dL_law_575 rfl ?_
        refine K_iald3 (q := 577) dL_law_576 rfl (fun v99 => ?_)
        refine K_cvi (q := 580) [.inl (v99)] dL_law_577 cb_X12_run cvRL_70 rc_7 (show (17 : Nat) ≠ 0 by decide) rfl (Nat.le_of_ble_eq_true rfl) ⟨by decide, by decide⟩ (Nat.le_of_ble_eq_true rfl) rfl (tX12_run v99 M97) rfl (fun v101 M100 => ?_)
        refine K_icmp_eq (q := 583) (tgt := 1198) dL_law_580 rfl ?_ rfl ?_
        · refine K_iinc (q := 1201) (v := l3 + (nI 6)) (ll' := [(3, .inl (l3 + (nI 6))), (0, .inr (3, L, 310)), (1, .inr (16, 0, 0)), (2, .inr (17, 0, 200))]) 3 dL_law_1198 rfl rfl (by decide) rfl rfl ?_
          refine J_goto (tgt := 18) dL_law_1201 rfl ?_
          exact J_sub [1, 2, 3, 0] (ih (l3 + (nI 6)) M100) rfl
        · refine K_iconst (q := 584) (v := nI 0) dL_law_583 rfl rfl ?_
          exact J_zret dL_law_584 (by decide)
      · refine K_aload_n (q := 586) 1 dL_law_585 rfl rfl rfl ?_
        refine K_aload_n (q := 587) 0 dL_law_586 rfl rfl rfl ?_
        refine K_iload_n (q := 588) 3 dL_law_587 rfl rfl rfl ?_
        refine K_iconst (q := 589) (v := nI 1) dL_law_588 rfl rfl ?_
        refine K_iadd (q := 590) dL_law_589 rfl ?_
        refine K_iald3 (q := 591) dL_law_590 rfl (fun v102 => ?_)
        refine K_cvi (q := 594) [.inl (v102)] dL_law_591 cb_X11_fault cvRL_71 rc_6 (show (16 : Nat) ≠ 0 by decide) rfl (Nat.le_of_ble_eq_true rfl) ⟨by decide, by decide⟩ (Nat.le_of_ble_eq_true rfl) rfl (tX11_fault v102 M) rfl (fun v104 M103 => ?_)
        refine K_aload_n (q := 595) 2 dL_law_594 rfl rfl rfl ?_
        refine K_aload_n (q := 596) 0 dL_law_595 rfl rfl rfl ?_
        refine K_iload_n (q := 597) 3 dL_law_596 rfl rfl rfl ?_
        refine K_iconst (q := 598) (v := nI 1) dL_law_597 rfl rfl ?_
        refine K_iadd (q := 599) dL_law_598 rfl ?_
        refine K_iald3 (q := 600) dL_law_599 rfl (fun v105 => ?_)
        refine K_cvi (q := 603) [.inl (v105)] dL_law_600 cb_X12_fault cvRL_74 rc_7 (show (17 : Nat) ≠ 0 by decide) rfl (Nat.le_of_ble_eq_true rfl) ⟨by decide, by decide⟩ (Nat.le_of_ble_eq_true rfl) rfl (tX12_fault v105 M103) rfl (fun v107 M106 => ?_)
        refine K_icmp_eq (q := 606) (tgt := 1198) dL_law_603 rfl ?_ rfl ?_
        · refine K_iinc (q := 1201) (v := l3 + (nI 6)) (ll' := [(3, .inl (l3 + (nI 6))), (0, .inr (3, L, 310)), (1, .inr (16, 0, 0)), (2, .inr (17, 0, 200))]) 3 dL_law_1198 rfl rfl (by decide) rfl rfl ?_
          refine J_goto (tgt := 18) dL_law_1201 rfl ?_
          exact J_sub [1, 2, 3, 0] (ih (l3 + (nI 6)) M106) rfl
        · refine K_iconst (q := 607) (v := nI 0) dL_law_606 rfl rfl ?_
          exact J_zret dL_law_607 (by decide)
      · refine K_aload_n (q := 609) 1 dL_law_608 rfl rfl rfl ?_
        refine K_aload_n (q := 610) 0 dL_law_609 rfl rfl rfl ?_
        refine K_iload_n (q := 611) 3 dL_law_610 rfl rfl rfl ?_
        refine K_iconst (q := 612) (v := nI 1) dL_law_611 rfl rfl ?_
        refine K_iadd (q := 613) dL_law_612 rfl ?_
        refine K_iald3 (q := 614) dL_law_613 rfl (fun v108 => ?_)
        refine K_aload_n (q := 615) 0 dL_law_614 rfl rfl rfl ?_
        refine K_iload_n (q := 616) 3 dL_law_615 rfl rfl rfl ?_
        refine K_iconst (q := 617) (v := nI 2) dL_law_616 rfl rfl ?_
        refine K_iadd (q := 618) dL_law_617 rfl ?_
        refine K_iald3 (q := 619) dL_law_618 rfl (fun v109 => ?_)
        refine K_cvi (q := 622) [.inl (v108), .inl (v109)] dL_law_619 cb_X11_go cvRL_75 rc_6 (show (16 : Nat) ≠ 0 by decide) rfl (Nat.le_of_ble_eq_true rfl) ⟨by decide, by decide⟩ (Nat.le_of_ble_eq_true rfl) rfl (tX11_go v108 v109 M) rfl (fun v111 M110 => ?_)
        refine K_aload_n (q := 623) 2 dL_law_622 rfl rfl rfl ?_
        refine K_aload_n (q := 624) 0 dL_law_623 rfl rfl rfl ?_
        refine K_iload_n (q := 625) 3 dL_law_624 rfl rfl rfl ?_
        refine K_iconst (q := 626) (v := nI 1) dL_law_625 rfl rfl ?_
        refine K_iadd (q := 627) dL_law_626 rfl ?_
        refine K_iald3 (q := 628) dL_law_627 rfl (fun v112 => ?_)
        refine K_aload_n (q := 629) 0 dL_law_628 rfl rfl rfl ?_
        refine K_iload_n (q := 630) 3 dL_law_629 rfl rfl rfl ?_
        refine K_iconst (q := 631) (v := nI 2) dL_law_630 rfl rfl ?_
        refine K_iadd (q := 632) dL_law_631 rfl ?_
        refine K_iald3 (q := 633) dL_law_632 rfl (fun v113 => ?_)
        refine K_cvi (q := 636) [.inl (v112), .inl (v113)] dL_law_633 cb_X12_go cvRL_78 rc_7 (show (17 : Nat) ≠ 0 by decide) rfl (Nat.le_of_ble_eq_true rfl) ⟨by decide, by decide⟩ (Nat.le_of_ble_eq_true rfl) rfl (tX12_go v112 v113 M110) rfl (fun v115 M114 => ?_)
        refine K_icmp_eq (q := 639) (tgt := 1198) dL_law_636 rfl ?_ rfl ?_
        · refine K_iinc (q := 1201) (v := l3 + (nI 6)) (ll' := [(3, .inl (l3 + (nI 6))), (0, .inr (3, L, 310)), (1, .inr (16, 0, 0)), (2, .inr (17, 0, 200))]) 3 dL_law_1198 rfl rfl (by decide) rfl rfl ?_
          refine J_goto (tgt := 18) dL_law_1201 rfl ?_
          exact J_sub [1, 2, 3, 0] (ih (l3 + (nI 6)) M114) rfl
        · refine K_iconst (q := 640) (v := nI 0) dL_law_639 rfl rfl ?_
          exact J_zret dL_law_640 (by decide)
      · refine K_aload_n (q := 642) 1 dL_law_641 rfl rfl rfl ?_
        refine K_aload_n (q := 643) 0 dL_law_642 rfl rfl rfl ?_
        refine K_iload_n (q := 644) 3 dL_law_643 rfl rfl rfl ?_
        refine K_iconst (q := 645) (v := nI 1) dL_law_644 rfl rfl ?_
        refine K_iadd (q := 646) dL_law_645 rfl ?_
        refine K_iald3 (q := 647) dL_law_646 rfl (fun v116 => ?_)
        refine K_aload_n (q := 648) 0 dL_law_647 rfl rfl rfl ?_
        refine K_iload_n (q := 649) 3 dL_law_648 rfl rfl rfl ?_
        refine K_iconst (q := 650) (v := nI 2) dL_law_649 rfl rfl ?_
        refine K_iadd (q := 651) dL_law_650 rfl ?_
        refine K_iald3 (q := 652) dL_law_651 rfl (fun v117 => ?_)
        refine K_aload_n (q := 653) 0 dL_law_652 rfl rfl rfl ?_
        refine K_iload_n (q := 654) 3 dL_law_653 rfl rfl rfl ?_
        refine K_iconst (q := 655) (v := nI 3) dL_law_654 rfl rfl ?_
        refine K_iadd (q := 656) dL_law_655 rfl ?_
        refine K_iald3 (q := 657) dL_law_656 rfl (fun v118 => ?_)
        refine K_cvi (q := 660) [.inl (v116), .inl (v117), .inl (v118)] dL_law_657 cb_X11_node cvRL_79 rc_6 (show (16 : Nat) ≠ 0 by decide) rfl (Nat.le_of_ble_eq_true rfl) ⟨by decide, by decide⟩ (Nat.le_of_ble_eq_true rfl) rfl (tX11_node v116 v117 v118 M) rfl (fun v120 M119 => ?_)
        refine K_aload_n (q := 661) 2 dL_law_660 rfl rfl rfl ?_
        refine K_aload_n (q := 662) 0 dL_law_661 rfl rfl rfl ?_
        refine K_iload_n (q := 663) 3 dL_law_662 rfl rfl rfl ?_
        refine K_iconst (q := 664) (v := nI 1) dL_law_663 rfl rfl ?_
        refine K_iadd (q := 665) dL_law_664 rfl ?_
        refine K_iald3 (q := 666) dL_law_665 rfl (fun v121 => ?_)
        refine K_aload_n (q := 667) 0 dL_law_666 rfl rfl rfl ?_
        refine K_iload_n (q := 668) 3 dL_law_667 rfl rfl rfl ?_
        refine K_iconst (q := 669) (v := nI 2) dL_law_668 rfl rfl ?_
        refine K_iadd (q := 670) dL_law_669 rfl ?_
        refine K_iald3 (q := 671) dL_law_670 rfl (fun v122 => ?_)
        refine K_aload_n (q := 672) 0 dL_law_671 rfl rfl rfl ?_
        refine K_iload_n (q := 673) 3 dL_law_672 rfl rfl rfl ?_
        refine K_iconst (q := 674) (v := nI 3) dL_law_673 rfl rfl ?_
        refine K_iadd (q := 675) dL_law_674 rfl ?_
        refine K_iald3 (q := 676) dL_law_675 rfl (fun v123 => ?_)
        refine K_cvi (q := 679) [.inl (v121), .inl (v122), .inl (v123)] dL_law_676 cb_X12_node cvRL_82 rc_7 (show (17 : Nat) ≠ 0 by decide) rfl (Nat.le_of_ble_eq_true rfl) ⟨by decide, by decide⟩ (Nat.le_of_ble_eq_true rfl) rfl (tX12_node v121 v122 v123 M119) rfl (fun v125 M124 => ?_)
        refine K_icmp_eq (q := 682) (tgt := 1198) dL_law_679 rfl ?_ rfl ?_
        · refine K_iinc (q := 1201) (v := l3 + (nI 6)) (ll' := [(3, .inl (l3 + (nI 6))), (0, .inr (3, L, 310)), (1, .inr (16, 0, 0)), (2, .inr (17, 0, 200))]) 3 dL_law_1198 rfl rfl (by decide) rfl rfl ?_
          refine J_goto (tgt := 18) dL_law_1201 rfl ?_
          exact J_sub [1, 2, 3, 0] (ih (l3 + (nI 6)) M124) rfl
        · refine K_iconst (q := 683) (v := nI 0) dL_law_682 rfl rfl ?_
          exact J_zret dL_law_683 (by decide)
      · refine K_aload_n (q := 685) 1 dL_law_684 rfl rfl rfl ?_
        refine K_aload_n (q := 686) 0 dL_law_685 rfl rfl rfl ?_
        refine K_iload_n (q := 687) 3 dL_law_686 rfl rfl rfl ?_
        refine K_iconst (q := 688) (v := nI 1) dL_law_687 rfl rfl ?_
        refine K_iadd (q := 689) dL_law_688 rfl ?_
        refine K_iald3 (q := 690) dL_law_689 rfl (fun v126 => ?_)
        refine K_aload_n (q := 691) 0 dL_law_690 rfl rfl rfl ?_
        refine K_iload_n (q := 692) 3 dL_law_691 rfl rfl rfl ?_
        refine K_iconst (q := 693) (v := nI 2) dL_law_692 rfl rfl ?_
        refine K_iadd (q := 694) dL_law_693 rfl ?_
        refine K_iald3 (q := 695) dL_law_694 rfl (fun v127 => ?_)
        refine K_cvi (q := 698) [.inl (v126), .inl (v127)] dL_law_695 cb_X11_miss cvRL_83 rc_6 (show (16 : Nat) ≠ 0 by decide) rfl (Nat.le_of_ble_eq_true rfl) ⟨by decide, by decide⟩ (Nat.le_of_ble_eq_true rfl) rfl (tX11_miss v126 v127 M) rfl (fun v129 M128 => ?_)
        refine K_aload_n (q := 699) 2 dL_law_698 rfl rfl rfl ?_
        refine K_aload_n (q := 700) 0 dL_law_699 rfl rfl rfl ?_
        refine K_iload_n (q := 701) 3 dL_law_700 rfl rfl rfl ?_
        refine K_iconst (q := 702) (v := nI 1) dL_law_701 rfl rfl ?_
        refine K_iadd (q := 703) dL_law_702 rfl ?_
        refine K_iald3 (q := 704) dL_law_703 rfl (fun v130 => ?_)
        refine K_aload_n (q := 705) 0 dL_law_704 rfl rfl rfl ?_
        refine K_iload_n (q := 706) 3 dL_law_705 rfl rfl rfl ?_
        refine K_iconst (q := 707) (v := nI 2) dL_law_706 rfl rfl ?_
        refine K_iadd (q := 708) dL_law_707 rfl ?_
        refine K_iald3 (q := 709) dL_law_708 rfl (fun v131 => ?_)
        refine K_cvi (q := 712) [.inl (v130), .inl (v131)] dL_law_709 cb_X12_miss cvRL_86 rc_7 (show (17 : Nat) ≠ 0 by decide) rfl (Nat.le_of_ble_eq_true rfl) ⟨by decide, by decide⟩ (Nat.le_of_ble_eq_true rfl) rfl (tX12_miss v130 v131 M128) rfl (fun v133 M132 => ?_)
        refine K_icmp_eq (q := 715) (tgt := 1198) dL_law_712 rfl ?_ rfl ?_
        · refine K_iinc (q := 1201) (v := l3 + (nI 6)) (ll' := [(3, .inl (l3 + (nI 6))), (0, .inr (3, L, 310)), (1, .inr (16, 0, 0)), (2, .inr (17, 0, 200))]) 3 dL_law_1198 rfl rfl (by decide) rfl rfl ?_
          refine J_goto (tgt := 18) dL_law_1201 rfl ?_
          exact J_sub [1, 2, 3, 0] (ih (l3 + (nI 6)) M132) rfl
        · refine K_iconst (q := 716) (v := nI 0) dL_law_715 rfl rfl ?_
          exact J_zret dL_law_716 (by decide)
      · refine K_aload_n (q := 718) 1 dL_law_717 rfl rfl rfl ?_
        refine K_aload_n (q := 719) 0 dL_law_718 rfl rfl rfl ?_
        refine K_iload_n (q := 720) 3 dL_law_719 rfl rfl rfl ?_
        refine K_iconst (q := 721) (v := nI 1) dL_law_720 rfl rfl ?_
        refine K_iadd (q := 722) dL_law_721 rfl ?_
        refine K_iald3 (q := 723) dL_law_722 rfl (fun v134 => ?_)
        refine K_aload_n (q := 724) 0 dL_law_723 rfl rfl rfl ?_
        refine K_iload_n (q := 725) 3 dL_law_724 rfl rfl rfl ?_
        refine K_iconst (q := 726) (v := nI 2) dL_law_725 rfl rfl ?_
        refine K_iadd (q := 727) dL_law_726 rfl ?_
        refine K_iald3 (q := 728) dL_law_727 rfl (fun v135 => ?_)
        refine K_aload_n (q := 729) 0 dL_law_728 rfl rfl rfl ?_
        refine K_iload_n (q := 730) 3 dL_law_729 rfl rfl rfl ?_
        refine K_iconst (q := 731) (v := nI 3) dL_law_730 rfl rfl ?_
        refine K_iadd (q := 732) dL_law_731 rfl ?_
        refine K_iald3 (q := 733) dL_law_732 rfl (fun v136 => ?_)
        refine K_cvi (q := 736) [.inl (v134), .inl (v135), .inl (v136)] dL_law_733 cb_X11_table cvRL_87 rc_6 (show (16 : Nat) ≠ 0 by decide) rfl (Nat.le_of_ble_eq_true rfl) ⟨by decide, by decide⟩ (Nat.le_of_ble_eq_true rfl) rfl (tX11_table v134 v135 v136 M) rfl (fun v138 M137 => ?_)
        refine K_aload_n (q := 737) 2 dL_law_736 rfl rfl rfl ?_
        refine K_aload_n (q := 738) 0 dL_law_737 rfl rfl rfl ?_
        refine K_iload_n (q := 739) 3 dL_law_738 rfl rfl rfl ?_
        refine K_iconst (q := 740) (v := nI 1) dL_law_739 rfl rfl ?_
        refine K_iadd (q := 741) dL_law_740 rfl ?_
        refine K_iald3 (q := 742) dL_law_741 rfl (fun v139 => ?_)
        refine K_aload_n (q := 743) 0 dL_law_742 rfl rfl rfl ?_
        refine K_iload_n (q := 744) 3 dL_law_743 rfl rfl rfl ?_
        refine K_iconst (q := 745) (v := nI 2) dL_law_744 rfl rfl ?_
        refine K_iadd (q := 746) dL_law_745 rfl ?_
        refine K_iald3 (q := 747) dL_law_746 rfl (fun v140 => ?_)
        refine K_aload_n (q := 748) 0 dL_law_747 rfl rfl rfl ?_
        refine K_iload_n (q := 749) 3 dL_law_748 rfl rfl rfl ?_
        refine K_iconst (q := 750) (v := nI 3) dL_law_749 rfl rfl ?_
        refine K_iadd (q := 751) dL_law_750 rfl ?_
        refine K_iald3 (q := 752) dL_law_751 rfl (fun v141 => ?_)
        refine K_cvi (q := 755) [.inl (v139), .inl (v140), .inl (v141)] dL_law_752 cb_X12_table cvRL_90 rc_7 (show (17 : Nat) ≠ 0 by decide) rfl (Nat.le_of_ble_eq_true rfl) ⟨by decide, by decide⟩ (Nat.le_of_ble_eq_true rfl) rfl (tX12_table v139 v140 v141 M137) rfl (fun v143 M142 => ?_)
        refine K_icmp_eq (q := 758) (tgt := 1198) dL_law_755 rfl ?_ rfl ?_
        · refine K_iinc (q := 1201) (v := l3 + (nI 6)) (ll' := [(3, .inl (l3 + (nI 6))), (0, .inr (3, L, 310)), (1, .inr (16, 0, 0)), (2, .inr (17, 0, 200))]) 3 dL_law_1198 rfl rfl (by decide) rfl rfl ?_
          refine J_goto (tgt := 18) dL_law_1201 rfl ?_
          exact J_sub [1, 2, 3, 0] (ih (l3 + (nI 6)) M142) rfl
        · refine K_iconst (q := 759) (v := nI 0) dL_law_758 rfl rfl ?_
          exact J_zret dL_law_759 (by decide)
      · refine K_aload_n (q := 761) 1 dL_law_760 rfl rfl rfl ?_
        refine K_aload_n (q := 762) 0 dL_law_761 rfl rfl rfl ?_
        refine K_iload_n (q := 763) 3 dL_law_762 rfl rfl rfl ?_
        refine K_iconst (q := 764) (v := nI 1) dL_law_763 rfl rfl ?_
        refine K_iadd (q := 765) dL_law_764 rfl ?_
        refine K_iald3 (q := 766) dL_law_765 rfl (fun v144 => ?_)
        refine K_aload_n (q := 767) 0 dL_law_766 rfl rfl rfl ?_
        refine K_iload_n (q := 768) 3 dL_law_767 rfl rfl rfl ?_
        refine K_iconst (q := 769) (v := nI 2) dL_law_768 rfl rfl ?_
        refine K_iadd (q := 770) dL_law_769 rfl ?_
        refine K_iald3 (q := 771) dL_law_770 rfl (fun v145 => ?_)
        refine K_cvi (q := 774) [.inl (v144), .inl (v145)] dL_law_771 cb_X11_message cvRL_91 rc_6 (show (16 : Nat) ≠ 0 by decide) rfl (Nat.le_of_ble_eq_true rfl) ⟨by decide, by decide⟩ (Nat.le_of_ble_eq_true rfl) rfl (tX11_message v144 v145 M) rfl (fun v147 M146 => ?_)
        refine K_aload_n (q := 775) 2 dL_law_774 rfl rfl rfl ?_
        refine K_aload_n (q := 776) 0 dL_law_775 rfl rfl rfl ?_
        refine K_iload_n (q := 777) 3 dL_law_776 rfl rfl rfl ?_
        refine K_iconst (q := 778) (v := nI 1) dL_law_777 rfl rfl ?_
        refine K_iadd (q := 779) dL_law_778 rfl ?_
        refine K_iald3 (q := 780) dL_law_779 rfl (fun v148 => ?_)
        refine K_aload_n (q := 781) 0 dL_law_780 rfl rfl rfl ?_
        refine K_iload_n (q := 782) 3 dL_law_781 rfl rfl rfl ?_
        refine K_iconst (q := 783) (v := nI 2) dL_law_782 rfl rfl ?_
        refine K_iadd (q := 784) dL_law_783 rfl ?_
        refine K_iald3 (q := 785) dL_law_784 rfl (fun v149 => ?_)
        refine K_cvi (q := 788) [.inl (v148), .inl (v149)] dL_law_785 cb_X12_message cvRL_94 rc_7 (show (17 : Nat) ≠ 0 by decide) rfl (Nat.le_of_ble_eq_true rfl) ⟨by decide, by decide⟩ (Nat.le_of_ble_eq_true rfl) rfl (tX12_message v148 v149 M146) rfl (fun v151 M150 => ?_)
        refine K_icmp_eq (q := 791) (tgt := 1198) dL_law_788 rfl ?_ rfl ?_
        · refine K_iinc (q := 1201) (v := l3 + (nI 6)) (ll' := [(3, .inl (l3 + (nI 6))), (0, .inr (3, L, 310)), (1, .inr (16, 0, 0)), (2, .inr (17, 0, 200))]) 3 dL_law_1198 rfl rfl (by decide) rfl rfl ?_
          refine J_goto (tgt := 18) dL_law_1201 rfl ?_
          exact J_sub [1, 2, 3, 0] (ih (l3 + (nI 6)) M150) rfl
        · refine K_iconst (q := 792) (v := nI 0) dL_law_791 rfl rfl ?_
          exact J_zret dL_law_792 (by decide)
      · refine K_aload_n (q := 794) 1 dL_law_793 rfl rfl rfl ?_
        refine K_aload_n (q := 795) 0 dL_law_794 rfl rfl rfl ?_
        refine K_iload_n (q := 796) 3 dL_law_795 rfl rfl rfl ?_
        refine K_iconst (q := 797) (v := nI 1) dL_law_796 rfl rfl ?_
        refine K_iadd (q := 798) dL_law_797 rfl ?_
        refine K_iald3 (q := 799) dL_law_798 rfl (fun v152 => ?_)
        refine K_aload_n (q := 800) 0 dL_law_799 rfl rfl rfl ?_
        refine K_iload_n (q := 801) 3 dL_law_800 rfl rfl rfl ?_
        refine K_iconst (q := 802) (v := nI 2) dL_law_801 rfl rfl ?_
        refine K_iadd (q := 803) dL_law_802 rfl ?_
        refine K_iald3 (q := 804) dL_law_803 rfl (fun v153 => ?_)
        refine K_cvi (q := 807) [.inl (v152), .inl (v153)] dL_law_804 cb_X11_seen cvRL_95 rc_6 (show (16 : Nat) ≠ 0 by decide) rfl (Nat.le_of_ble_eq_true rfl) ⟨by decide, by decide⟩ (Nat.le_of_ble_eq_true rfl) rfl (tX11_seen v152 v153 M) rfl (fun v155 M154 => ?_)
        refine K_aload_n (q := 808) 2 dL_law_807 rfl rfl rfl ?_
        refine K_aload_n (q := 809) 0 dL_law_808 rfl rfl rfl ?_
        refine K_iload_n (q := 810) 3 dL_law_809 rfl rfl rfl ?_
        refine K_iconst (q := 811) (v := nI 1) dL_law_810 rfl rfl ?_
        refine K_iadd (q := 812) dL_law_811 rfl ?_
        refine K_iald3 (q := 813) dL_law_812 rfl (fun v156 => ?_)
        refine K_aload_n (q := 814) 0 dL_law_813 rfl rfl rfl ?_
        refine K_iload_n (q := 815) 3 dL_law_814 rfl rfl rfl ?_
        refine K_iconst (q := 816) (v := nI 2) dL_law_815 rfl rfl ?_
        refine K_iadd (q := 817) dL_law_816 rfl ?_
        refine K_iald3 (q := 818) dL_law_817 rfl (fun v157 => ?_)
        refine K_cvi (q := 821) [.inl (v156), .inl (v157)] dL_law_818 cb_X12_seen cvRL_98 rc_7 (show (17 : Nat) ≠ 0 by decide) rfl (Nat.le_of_ble_eq_true rfl) ⟨by decide, by decide⟩ (Nat.le_of_ble_eq_true rfl) rfl (tX12_seen v156 v157 M154) rfl (fun v159 M158 => ?_)
        refine K_icmp_eq (q := 824) (tgt := 1198) dL_law_821 rfl ?_ rfl ?_
        · refine K_iinc (q := 1201) (v := l3 + (nI 6)) (ll' := [(3, .inl (l3 + (nI 6))), (0, .inr (3, L, 310)), (1, .inr (16, 0, 0)), (2, .inr (17, 0, 200))]) 3 dL_law_1198 rfl rfl (by decide) rfl rfl ?_
          refine J_goto (tgt := 18) dL_law_1201 rfl ?_
          exact J_sub [1, 2, 3, 0] (ih (l3 + (nI 6)) M158) rfl
        · refine K_iconst (q := 825) (v := nI 0) dL_law_824 rfl rfl ?_
          exact J_zret dL_law_825 (by decide)
      · refine K_aload_n (q := 827) 1 dL_law_826 rfl rfl rfl ?_
        refine K_aload_n (q := 828) 0 dL_law_827 rfl rfl rfl ?_
        refine K_iload_n (q := 829) 3 dL_law_828 rfl rfl rfl ?_
        refine K_iconst (q := 830) (v := nI 1) dL_law_829 rfl rfl ?_
        refine K_iadd (q := 831) dL_law_830 rfl ?_
        refine K_iald3 (q := 832) dL_law_831 rfl (fun v160 => ?_)
        refine K_aload_n (q := 833) 0 dL_law_832 rfl rfl rfl ?_
        refine K_iload_n (q := 834) 3 dL_law_833 rfl rfl rfl ?_
        refine K_iconst (q := 835) (v := nI 2) dL_law_834 rfl rfl ?_
        refine K_iadd (q := 836) dL_law_835 rfl ?_
        refine K_iald3 (q := 837) dL_law_836 rfl (fun v161 => ?_)
        refine K_cvi (q := 840) [.inl (v160), .inl (v161)] dL_law_837 cb_X11_program cvRL_99 rc_6 (show (16 : Nat) ≠ 0 by decide) rfl (Nat.le_of_ble_eq_true rfl) ⟨by decide, by decide⟩ (Nat.le_of_ble_eq_true rfl) rfl (tX11_program v160 v161 M) rfl (fun v163 M162 => ?_)
        refine K_aload_n (q := 841) 2 dL_law_840 rfl rfl rfl ?_
        refine K_aload_n (q := 842) 0 dL_law_841 rfl rfl rfl ?_
        refine K_iload_n (q := 843) 3 dL_law_842 rfl rfl rfl ?_
        refine K_iconst (q := 844) (v := nI 1) dL_law_843 rfl rfl ?_
        refine K_iadd (q := 845) dL_law_844 rfl ?_
        refine K_iald3 (q := 846) dL_law_845 rfl (fun v164 => ?_)
        refine K_aload_n (q := 847) 0 dL_law_846 rfl rfl rfl ?_
        refine K_iload_n (q := 848) 3 dL_law_847 rfl rfl rfl ?_
        refine K_iconst (q := 849) (v := nI 2) dL_law_848 rfl rfl ?_
        refine K_iadd (q := 850) dL_law_849 rfl ?_
        refine K_iald3 (q := 851) dL_law_850 rfl (fun v165 => ?_)
        refine K_cvi (q := 854) [.inl (v164), .inl (v165)] dL_law_851 cb_X12_program cvRL_102 rc_7 (show (17 : Nat) ≠ 0 by decide) rfl (Nat.le_of_ble_eq_true rfl) ⟨by decide, by decide⟩ (Nat.le_of_ble_eq_true rfl) rfl (tX12_program v164 v165 M162) rfl (fun v167 M166 => ?_)
        refine K_icmp_eq (q := 857) (tgt := 1198) dL_law_854 rfl ?_ rfl ?_
        · refine K_iinc (q := 1201) (v := l3 + (nI 6)) (ll' := [(3, .inl (l3 + (nI 6))), (0, .inr (3, L, 310)), (1, .inr (16, 0, 0)), (2, .inr (17, 0, 200))]) 3 dL_law_1198 rfl rfl (by decide) rfl rfl ?_
          refine J_goto (tgt := 18) dL_law_1201 rfl ?_
          exact J_sub [1, 2, 3, 0] (ih (l3 + (nI 6)) M166) rfl
        · refine K_iconst (q := 858) (v := nI 0) dL_law_857 rfl rfl ?_
          exact J_zret dL_law_858 (by decide)
      · refine K_aload_n (q := 860) 1 dL_law_859 rfl rfl rfl ?_
        refine K_aload_n (q := 861) 0 dL_law_860 rfl rfl rfl ?_
        refine K_iload_n (q := 862) 3 dL_law_861 rfl rfl rfl ?_
        refine K_iconst (q := 863) (v := nI 1) dL_law_862 rfl rfl ?_
        refine K_iadd (q := 864) dL_law_863 rfl ?_
        refine K_iald3 (q := 865) dL_law_864 rfl (fun v168 => ?_)
        refine K_cvi (q := 868) [.inl (v168)] dL_law_865 cb_X11_soon cvRL_103 rc_6 (show (16 : Nat) ≠ 0 by decide) rfl (Nat.le_of_ble_eq_true rfl) ⟨by decide, by decide⟩ (Nat.le_of_ble_eq_true rfl) rfl (tX11_soon v168 M) rfl (fun v170 M169 => ?_)
        refine K_aload_n (q := 869) 2 dL_law_868 rfl rfl rfl ?_
        refine K_aload_n (q := 870) 0 dL_law_869 rfl rfl rfl ?_
        refine K_iload_n (q := 871) 3 dL_law_870 rfl rfl rfl ?_
        refine K_iconst (q := 872) (v := nI 1) dL_law_871 rfl rfl ?_
        refine K_iadd (q := 873) dL_law_872 rfl ?_
        refine K_iald3 (q := 874) dL_law_873 rfl (fun v171 => ?_)
        refine K_cvi (q := 877) [.inl (v171)] dL_law_874 cb_X12_soon cvRL_106 rc_7 (show (17 : Nat) ≠ 0 by decide) rfl (Nat.le_of_ble_eq_true rfl) ⟨by decide, by decide⟩ (Nat.le_of_ble_eq_true rfl) rfl (tX12_soon v171 M169) rfl (fun v173 M172 => ?_)
        refine K_icmp_eq (q := 880) (tgt := 1198) dL_law_877 rfl ?_ rfl ?_
        · refine K_iinc (q := 1201) (v := l3 + (nI 6)) (ll' := [(3, .inl (l3 + (nI 6))), (0, .inr (3, L, 310)), (1, .inr (16, 0, 0)), (2, .inr (17, 0, 200))]) 3 dL_law_1198 rfl rfl (by decide) rfl rfl ?_
          refine J_goto (tgt := 18) dL_law_1201 rfl ?_
          exact J_sub [1, 2, 3, 0] (ih (l3 + (nI 6)) M172) rfl
        · refine K_iconst (q := 881) (v := nI 0) dL_law_880 rfl rfl ?_
          exact J_zret dL_law_881 (by decide)
      · refine K_aload_n (q := 883) 1 dL_law_882 rfl rfl rfl ?_
        refine K_aload_n (q := 884) 0 dL_law_883 rfl rfl rfl ?_
        refine K_iload_n (q := 885) 3 dL_law_884 rfl rfl rfl ?_
        refine K_iconst (q := 886) (v := nI 1) dL_law_885 rfl rfl ?_
        refine K_iadd (q := 887) dL_law_886 rfl ?_
        refine K_iald3 (q := 888) dL_law_887 rfl (fun v174 => ?_)
        refine K_cvi (q := 891) [.inl (v174)] dL_law_888 cb_X11_walk cvRL_107 rc_6 (show (16 : Nat) ≠ 0 by decide) rfl (Nat.le_of_ble_eq_true rfl) ⟨by decide, by decide⟩ (Nat.le_of_ble_eq_true rfl) rfl (tX11_walk v174 M) rfl (fun v176 M175 => ?_)
        refine K_aload_n (q := 892) 2 dL_law_891 rfl rfl rfl ?_
        refine K_aload_n (q := 893) 0 dL_law_892 rfl rfl rfl ?_
        refine K_iload_n (q := 894) 3 dL_law_893 rfl rfl rfl ?_
        refine K_iconst (q := 895) (v := nI 1) dL_law_894 rfl rfl ?_
        refine K_iadd (q := 896) dL_law_895 rfl ?_
        refine K_iald3 (q := 897) dL_law_896 rfl (fun v177 => ?_)
        refine K_cvi (q := 900) [.inl (v177)] dL_law_897 cb_X12_walk cvRL_110 rc_7 (show (17 : Nat) ≠ 0 by decide) rfl (Nat.le_of_ble_eq_true rfl) ⟨by decide, by decide⟩ (Nat.le_of_ble_eq_true rfl) rfl (tX12_walk v177 M175) rfl (fun v179 M178 => ?_)
        refine K_icmp_eq (q := 903) (tgt := 1198) dL_law_900 rfl ?_ rfl ?_
        · refine K_iinc (q := 1201) (v := l3 + (nI 6)) (ll' := [(3, .inl (l3 + (nI 6))), (0, .inr (3, L, 310)), (1, .inr (16, 0, 0)), (2, .inr (17, 0, 200))]) 3 dL_law_1198 rfl rfl (by decide) rfl rfl ?_
          refine J_goto (tgt := 18) dL_law_1201 rfl ?_
          exact J_sub [1, 2, 3, 0] (ih (l3 + (nI 6)) M178) rfl
        · refine K_iconst (q := 904) (v := nI 0) dL_law_903 rfl rfl ?_
          exact J_zret dL_law_904 (by decide)
      · refine K_aload_n (q := 906) 1 dL_law_905 rfl rfl rfl ?_
        refine K_aload_n (q := 907) 0 dL_law_906 rfl rfl rfl ?_
        refine K_iload_n (q := 908) 3 dL_law_907 rfl rfl rfl ?_
        refine K_iconst (q := 909) (v := nI 1) dL_law_908 rfl rfl ?_
        refine K_iadd (q := 910) dL_law_909 rfl ?_
        refine K_iald3 (q := 911) dL_law_910 rfl (fun v180 => ?_)
        refine K_aload_n (q := 912) 0 dL_law_911 rfl rfl rfl ?_
        refine K_iload_n (q := 913) 3 dL_law_912 rfl rfl rfl ?_
        refine K_iconst (q := 914) (v := nI 2) dL_law_913 rfl rfl ?_
        refine K_iadd (q := 915) dL_law_914 rfl ?_
        refine K_iald3 (q := 916) dL_law_915 rfl (fun v181 => ?_)
        refine K_cvi (q := 919) [.inl (v180), .inl (v181)] dL_law_916 cb_X11_where cvRL_111 rc_6 (show (16 : Nat) ≠ 0 by decide) rfl (Nat.le_of_ble_eq_true rfl) ⟨by decide, by decide⟩ (Nat.le_of_ble_eq_true rfl) rfl (tX11_where v180 v181 M) rfl (fun v183 M182 => ?_)
        refine K_aload_n (q := 920) 2 dL_law_919 rfl rfl rfl ?_
        refine K_aload_n (q := 921) 0 dL_law_920 rfl rfl rfl ?_
        refine K_iload_n (q := 922) 3 dL_law_921 rfl rfl rfl ?_
        refine K_iconst (q := 923) (v := nI 1) dL_law_922 rfl rfl ?_
        refine K_iadd (q := 924) dL_law_923 rfl ?_
        refine K_iald3 (q := 925) dL_law_924 rfl (fun v184 => ?_)
        refine K_aload_n (q := 926) 0 dL_law_925 rfl rfl rfl ?_
        refine K_iload_n (q := 927) 3 dL_law_926 rfl rfl rfl ?_
        refine K_iconst (q := 928) (v := nI 2) dL_law_927 rfl rfl ?_
        refine K_iadd (q := 929) dL_law_928 rfl ?_
        refine K_iald3 (q := 930) dL_law_929 rfl (fun v185 => ?_)
        refine K_cvi (q := 933) [.inl (v184), .inl (v185)] dL_law_930 cb_X12_where cvRL_114 rc_7 (show (17 : Nat) ≠ 0 by decide) rfl (Nat.le_of_ble_eq_true rfl) ⟨by decide, by decide⟩ (Nat.le_of_ble_eq_true rfl) rfl (tX12_where v184 v185 M182) rfl (fun v187 M186 => ?_)
        refine K_icmp_eq (q := 936) (tgt := 1198) dL_law_933 rfl ?_ rfl ?_
        · refine K_iinc (q := 1201) (v := l3 + (nI 6)) (ll' := [(3, .inl (l3 + (nI 6))), (0, .inr (3, L, 310)), (1, .inr (16, 0, 0)), (2, .inr (17, 0, 200))]) 3 dL_law_1198 rfl rfl (by decide) rfl rfl ?_
          refine J_goto (tgt := 18) dL_law_1201 rfl ?_
          exact J_sub [1, 2, 3, 0] (ih (l3 + (nI 6)) M186) rfl
        · refine K_iconst (q := 937) (v := nI 0) dL_law_936 rfl rfl ?_
          exact J_zret dL_law_937 (by decide)
      · refine K_aload_n (q := 939) 1 dL_law_938 rfl rfl rfl ?_
        refine K_aload_n (q := 940) 0 dL_law_939 rfl rfl rfl ?_
        refine K_iload_n (q := 941) 3 dL_law_940 rfl rfl rfl ?_
        refine K_iconst (q := 942) (v := nI 1) dL_law_941 rfl rfl ?_
        refine K_iadd (q := 943) dL_law_942 rfl ?_
        refine K_iald3 (q := 944) dL_law_943 rfl (fun v188 => ?_)
        refine K_aload_n (q := 945) 0 dL_law_944 rfl rfl rfl ?_
        refine K_iload_n (q := 946) 3 dL_law_945 rfl rfl rfl ?_
        refine K_iconst (q := 947) (v := nI 2) dL_law_946 rfl rfl ?_
        refine K_iadd (q := 948) dL_law_947 rfl ?_
        refine K_iald3 (q := 949) dL_law_948 rfl (fun v189 => ?_)
        refine K_cvi (q := 952) [.inl (v188), .inl (v189)] dL_law_949 cb_X11_cost cvRL_115 rc_6 (show (16 : Nat) ≠ 0 by decide) rfl (Nat.le_of_ble_eq_true rfl) ⟨by decide, by decide⟩ (Nat.le_of_ble_eq_true rfl) rfl (tX11_cost v188 v189 M) rfl (fun v191 M190 => ?_)
        refine K_aload_n (q := 953) 2 dL_law_952 rfl rfl rfl ?_
        refine K_aload_n (q := 954) 0 dL_law_953 rfl rfl rfl ?_
        refine K_iload_n (q := 955) 3 dL_law_954 rfl rfl rfl ?_
        refine K_iconst (q := 956) (v := nI 1) dL_law_955 rfl rfl ?_
        refine K_iadd (q := 957) dL_law_956 rfl ?_
        refine K_iald3 (q := 958) dL_law_957 rfl (fun v192 => ?_)
        refine K_aload_n (q := 959) 0 dL_law_958 rfl rfl rfl ?_
        refine K_iload_n (q := 960) 3 dL_law_959 rfl rfl rfl ?_
        refine K_iconst (q := 961) (v := nI 2) dL_law_960 rfl rfl ?_
        refine K_iadd (q := 962) dL_law_961 rfl ?_
        refine K_iald3 (q := 963) dL_law_962 rfl (fun v193 => ?_)
        refine K_cvi (q := 966) [.inl (v192), .inl (v193)] dL_law_963 cb_X12_cost cvRL_118 rc_7 (show (17 : Nat) ≠ 0 by decide) rfl (Nat.le_of_ble_eq_true rfl) ⟨by decide, by decide⟩ (Nat.le_of_ble_eq_true rfl) rfl (tX12_cost v192 v193 M190) rfl (fun v195 M194 => ?_)
        refine K_icmp_eq (q := 969) (tgt := 1198) dL_law_966 rfl ?_ rfl ?_
        · refine K_iinc (q := 1201) (v := l3 + (nI 6)) (ll' := [(3, .inl (l3 + (nI 6))), (0, .inr (3, L, 310)), (1, .inr (16, 0, 0)), (2, .inr (17, 0, 200))]) 3 dL_law_1198 rfl rfl (by decide) rfl rfl ?_
          refine J_goto (tgt := 18) dL_law_1201 rfl ?_
          exact J_sub [1, 2, 3, 0] (ih (l3 + (nI 6)) M194) rfl
        · refine K_iconst (q := 970) (v := nI 0) dL_law_969 rfl rfl ?_
          exact J_zret dL_law_970 (by decide)
      · refine K_aload_n (q := 972) 1 dL_law_971 rfl rfl rfl ?_
        refine K_aload_n (q := 973) 0 dL_law_972 rfl rfl rfl ?_
        refine K_iload_n (q := 974) 3 dL_law_973 rfl rfl rfl ?_
        refine K_iconst (q := 975) (v := nI 1) dL_law_974 rfl rfl ?_
        refine K_iadd (q := 976) dL_law_975 rfl ?_
        refine K_iald3 (q := 977) dL_law_976 rfl (fun v196 => ?_)
        refine K_aload_n (q := 978) 0 dL_law_977 rfl rfl rfl ?_
        refine K_iload_n (q := 979) 3 dL_law_978 rfl rfl rfl ?_
        refine K_iconst (q := 980) (v := nI 2) dL_law_979 rfl rfl ?_
        refine K_iadd (q := 981) dL_law_980 rfl ?_
        refine K_iald3 (q := 982) dL_law_981 rfl (fun v197 => ?_)
        refine K_cvi (q := 985) [.inl (v196), .inl (v197)] dL_law_982 cb_X11_group cvRL_119 rc_6 (show (16 : Nat) ≠ 0 by decide) rfl (Nat.le_of_ble_eq_true rfl) ⟨by decide, by decide⟩ (Nat.le_of_ble_eq_true rfl) rfl (tX11_group v196 v197 M) rfl (fun v199 M198 => ?_)
        refine K_aload_n (q := 986) 2 dL_law_985 rfl rfl rfl ?_
        refine K_aload_n (q := 987) 0 dL_law_986 rfl rfl rfl ?_
        refine K_iload_n (q := 988) 3 dL_law_987 rfl rfl rfl ?_
        refine K_iconst (q := 989) (v := nI 1) dL_law_988 rfl rfl ?_
        refine K_iadd (q := 990) dL_law_989 rfl ?_
        refine K_iald3 (q := 991) dL_law_990 rfl (fun v200 => ?_)
        refine K_aload_n (q := 992) 0 dL_law_991 rfl rfl rfl ?_
        refine K_iload_n (q := 993) 3 dL_law_992 rfl rfl rfl ?_
        refine K_iconst (q := 994) (v := nI 2) dL_law_993 rfl rfl ?_
        refine K_iadd (q := 995) dL_law_994 rfl ?_
        refine K_iald3 (q := 996) dL_law_995 rfl (fun v201 => ?_)
        refine K_cvi (q := 999) [.inl (v200), .inl (v201)] dL_law_996 cb_X12_group cvRL_122 rc_7 (show (17 : Nat) ≠ 0 by decide) rfl (Nat.le_of_ble_eq_true rfl) ⟨by decide, by decide⟩ (Nat.le_of_ble_eq_true rfl) rfl (tX12_group v200 v201 M198) rfl (fun v203 M202 => ?_)
        refine K_icmp_eq (q := 1002) (tgt := 1198) dL_law_999 rfl ?_ rfl ?_
        · refine K_iinc (q := 1201) (v := l3 + (nI 6)) (ll' := [(3, .inl (l3 + (nI 6))), (0, .inr (3, L, 310)), (1, .inr (16, 0, 0)), (2, .inr (17, 0, 200))]) 3 dL_law_1198 rfl rfl (by decide) rfl rfl ?_
          refine J_goto (tgt := 18) dL_law_1201 rfl ?_
          exact J_sub [1, 2, 3, 0] (ih (l3 + (nI 6)) M202) rfl
        · refine K_iconst (q := 1003) (v := nI 0) dL_law_1002 rfl rfl ?_
          exact J_zret dL_law_1003 (by decide)
      · refine K_aload_n (q := 1005) 1 dL_law_1004 rfl rfl rfl ?_
        refine K_aload_n (q := 1006) 0 dL_law_1005 rfl rfl rfl ?_
        refine K_iload_n (q := 1007) 3 dL_law_1006 rfl rfl rfl ?_
        refine K_iconst (q := 1008) (v := nI 1) dL_law_1007 rfl rfl ?_
        refine K_iadd (q := 1009) dL_law_1008 rfl ?_
        refine K_iald3 (q := 1010) dL_law_1009 rfl (fun v204 => ?_)
        refine K_aload_n (q := 1011) 0 dL_law_1010 rfl rfl rfl ?_
        refine K_iload_n (q := 1012) 3 dL_law_1011 rfl rfl rfl ?_
        refine K_iconst (q := 1013) (v := nI 2) dL_law_1012 rfl rfl ?_
        refine K_iadd (q := 1014) dL_law_1013 rfl ?_
        refine K_iald3 (q := 1015) dL_law_1014 rfl (fun v205 => ?_)
        refine K_cvi (q := 1018) [.inl (v204), .inl (v205)] dL_law_1015 cb_X11_trace cvRL_123 rc_6 (show (16 : Nat) ≠ 0 by decide) rfl (Nat.le_of_ble_eq_true rfl) ⟨by decide, by decide⟩ (Nat.le_of_ble_eq_true rfl) rfl (tX11_trace v204 v205 M) rfl (fun v207 M206 => ?_)
        refine K_aload_n (q := 1019) 2 dL_law_1018 rfl rfl rfl ?_
        refine K_aload_n (q := 1020) 0 dL_law_1019 rfl rfl rfl ?_
        refine K_iload_n (q := 1021) 3 dL_law_1020 rfl rfl rfl ?_
        refine K_iconst (q := 1022) (v := nI 1) dL_law_1021 rfl rfl ?_
        refine K_iadd (q := 1023) dL_law_1022 rfl ?_
        refine K_iald3 (q := 1024) dL_law_1023 rfl (fun v208 => ?_)
        refine K_aload_n (q := 1025) 0 dL_law_1024 rfl rfl rfl ?_
        refine K_iload_n (q := 1026) 3 dL_law_1025 rfl rfl rfl ?_
        refine K_iconst (q := 1027) (v := nI 2) dL_law_1026 rfl rfl ?_
        refine K_iadd (q := 1028) dL_law_1027 rfl ?_
        refine K_iald3 (q := 1029) dL_law_1028 rfl (fun v209 => ?_)
        refine K_cvi (q := 1032) [.inl (v208), .inl (v209)] dL_law_1029 cb_X12_trace cvRL_126 rc_7 (show (17 : Nat) ≠ 0 by decide) rfl (Nat.le_of_ble_eq_true rfl) ⟨by decide, by decide⟩ (Nat.le_of_ble_eq_true rfl) rfl (tX12_trace v208 v209 M206) rfl (fun v211 M210 => ?_)
        refine K_icmp_eq (q := 1035) (tgt := 1198) dL_law_1032 rfl ?_ rfl ?_
        · refine K_iinc (q := 1201) (v := l3 + (nI 6)) (ll' := [(3, .inl (l3 + (nI 6))), (0, .inr (3, L, 310)), (1, .inr (16, 0, 0)), (2, .inr (17, 0, 200))]) 3 dL_law_1198 rfl rfl (by decide) rfl rfl ?_
          refine J_goto (tgt := 18) dL_law_1201 rfl ?_
          exact J_sub [1, 2, 3, 0] (ih (l3 + (nI 6)) M210) rfl
        · refine K_iconst (q := 1036) (v := nI 0) dL_law_1035 rfl rfl ?_
          exact J_zret dL_law_1036 (by decide)
      · refine K_aload_n (q := 1038) 1 dL_law_1037 rfl rfl rfl ?_
        refine K_aload_n (q := 1039) 0 dL_law_1038 rfl rfl rfl ?_
        refine K_iload_n (q := 1040) 3 dL_law_1039 rfl rfl rfl ?_
        refine K_iconst (q := 1041) (v := nI 1) dL_law_1040 rfl rfl ?_
        refine K_iadd (q := 1042) dL_law_1041 rfl ?_
        refine K_iald3 (q := 1043) dL_law_1042 rfl (fun v212 => ?_)
        refine K_aload_n (q := 1044) 0 dL_law_1043 rfl rfl rfl ?_
        refine K_iload_n (q := 1045) 3 dL_law_1044 rfl rfl rfl ?_
        refine K_iconst (q := 1046) (v := nI 2) dL_law_1045 rfl rfl ?_
        refine K_iadd (q := 1047) dL_law_1046 rfl ?_
        refine K_iald3 (q := 1048) dL_law_1047 rfl (fun v213 => ?_)
        refine K_aload_n (q := 1049) 0 dL_law_1048 rfl rfl rfl ?_
        refine K_iload_n (q := 1050) 3 dL_law_1049 rfl rfl rfl ?_
        refine K_iconst (q := 1051) (v := nI 3) dL_law_1050 rfl rfl ?_
        refine K_iadd (q := 1052) dL_law_1051 rfl ?_
        refine K_iald3 (q := 1053) dL_law_1052 rfl (fun v214 => ?_)
        refine K_cvi (q := 1056) [.inl (v212), .inl (v213), .inl (v214)] dL_law_1053 cb_X11_flow cvRL_127 rc_6 (show (16 : Nat) ≠ 0 by decide) rfl (Nat.le_of_ble_eq_true rfl) ⟨by decide, by decide⟩ (Nat.le_of_ble_eq_true rfl) rfl (tX11_flow v212 v213 v214 M) rfl (fun v216 M215 => ?_)
        refine K_aload_n (q := 1057) 2 dL_law_1056 rfl rfl rfl ?_
        refine K_aload_n (q := 1058) 0 dL_law_1057 rfl rfl rfl ?_
        refine K_iload_n (q := 1059) 3 dL_law_1058 rfl rfl rfl ?_
        refine K_iconst (q := 1060) (v := nI 1) dL_law_1059 rfl rfl ?_
        refine K_iadd (q := 1061) dL_law_1060 rfl ?_
        refine K_iald3 (q := 1062) dL_law_1061 rfl (fun v217 => ?_)
        refine K_aload_n (q := 1063) 0 dL_law_1062 rfl rfl rfl ?_
        refine K_iload_n (q := 1064) 3 dL_law_1063 rfl rfl rfl ?_
        refine K_iconst (q := 1065) (v := nI 2) dL_law_1064 rfl rfl ?_
        refine K_iadd (q := 1066) dL_law_1065 rfl ?_
        refine K_iald3 (q := 1067) dL_law_1066 rfl (fun v218 => ?_)
        refine K_aload_n (q := 1068) 0 dL_law_1067 rfl rfl rfl ?_
        refine K_iload_n (q := 1069) 3 dL_law_1068 rfl rfl rfl ?_
        refine K_iconst (q := 1070) (v := nI 3) dL_law_1069 rfl rfl ?_
        refine K_iadd (q := 1071) dL_law_1070 rfl ?_
        refine K_iald3 (q := 1072) dL_law_1071 rfl (fun v219 => ?_)
        refine K_cvi (q := 1075) [.inl (v217), .inl (v218), .inl (v219)] dL_law_1072 cb_X12_flow cvRL_130 rc_7 (show (17 : Nat) ≠ 0 by decide) rfl (Nat.le_of_ble_eq_true rfl) ⟨by decide, by decide⟩ (Nat.le_of_ble_eq_true rfl) rfl (tX12_flow v217 v218 v219 M215) rfl (fun v221 M220 => ?_)
        refine K_icmp_eq (q := 1078) (tgt := 1198) dL_law_1075 rfl ?_ rfl ?_
        · refine K_iinc (q := 1201) (v := l3 + (nI 6)) (ll' := [(3, .inl (l3 + (nI 6))), (0, .inr (3, L, 310)), (1, .inr (16, 0, 0)), (2, .inr (17, 0, 200))]) 3 dL_law_1198 rfl rfl (by decide) rfl rfl ?_
          refine J_goto (tgt := 18) dL_law_1201 rfl ?_
          exact J_sub [1, 2, 3, 0] (ih (l3 + (nI 6)) M220) rfl
        · refine K_iconst (q := 1079) (v := nI 0) dL_law_1078 rfl rfl ?_
          exact J_zret dL_law_1079 (by decide)
      · refine K_aload_n (q := 1081) 1 dL_law_1080 rfl rfl rfl ?_
        refine K_aload_n (q := 1082) 0 dL_law_1081 rfl rfl rfl ?_
        refine K_iload_n (q := 1083) 3 dL_law_1082 rfl rfl rfl ?_
        refine K_iconst (q := 1084) (v := nI 1) dL_law_1083 rfl rfl ?_
        refine K_iadd (q := 1085) dL_law_1084 rfl ?_
        refine K_iald3 (q := 1086) dL_law_1085 rfl (fun v222 => ?_)
        refine K_aload_n (q := 1087) 0 dL_law_1086 rfl rfl rfl ?_
        refine K_iload_n (q := 1088) 3 dL_law_1087 rfl rfl rfl ?_
        refine K_iconst (q := 1089) (v := nI 2) dL_law_1088 rfl rfl ?_
        refine K_iadd (q := 1090) dL_law_1089 rfl ?_
        refine K_iald3 (q := 1091) dL_law_1090 rfl (fun v223 => ?_)
        refine K_cvi (q := 1094) [.inl (v222), .inl (v223)] dL_law_1091 cb_X11_can cvRL_131 rc_6 (show (16 : Nat) ≠ 0 by decide) rfl (Nat.le_of_ble_eq_true rfl) ⟨by decide, by decide⟩ (Nat.le_of_ble_eq_true rfl) rfl (tX11_can v222 v223 M) rfl (fun v225 M224 => ?_)
        refine K_aload_n (q := 1095) 2 dL_law_1094 rfl rfl rfl ?_
        refine K_aload_n (q := 1096) 0 dL_law_1095 rfl rfl rfl ?_
        refine K_iload_n (q := 1097) 3 dL_law_1096 rfl rfl rfl ?_
        refine K_iconst (q := 1098) (v := nI 1) dL_law_1097 rfl rfl ?_
        refine K_iadd (q := 1099) dL_law_1098 rfl ?_
        refine K_iald3 (q := 1100) dL_law_1099 rfl (fun v226 => ?_)
        refine K_aload_n (q := 1101) 0 dL_law_1100 rfl rfl rfl ?_
        refine K_iload_n (q := 1102) 3 dL_law_1101 rfl rfl rfl ?_
        refine K_iconst (q := 1103) (v := nI 2) dL_law_1102 rfl rfl ?_
        refine K_iadd (q := 1104) dL_law_1103 rfl ?_
        refine K_iald3 (q := 1105) dL_law_1104 rfl (fun v227 => ?_)
        refine K_cvi (q := 1108) [.inl (v226), .inl (v227)] dL_law_1105 cb_X12_can_ cvRL_134 rc_7 (show (17 : Nat) ≠ 0 by decide) rfl (Nat.le_of_ble_eq_true rfl) ⟨by decide, by decide⟩ (Nat.le_of_ble_eq_true rfl) rfl (tX12_can_ v226 v227 M224) rfl (fun v229 M228 => ?_)
        refine K_icmp_eq (q := 1111) (tgt := 1198) dL_law_1108 rfl ?_ rfl ?_
        · refine K_iinc (q := 1201) (v := l3 + (nI 6)) (ll' := [(3, .inl (l3 + (nI 6))), (0, .inr (3, L, 310)), (1, .inr (16, 0, 0)), (2, .inr (17, 0, 200))]) 3 dL_law_1198 rfl rfl (by decide) rfl rfl ?_
          refine J_goto (tgt := 18) dL_law_1201 rfl ?_
          exact J_sub [1, 2, 3, 0] (ih (l3 + (nI 6)) M228) rfl
        · refine K_iconst (q := 1112) (v := nI 0) dL_law_1111 rfl rfl ?_
          exact J_zret dL_law_1112 (by decide)
      · refine K_aload_n (q := 1114) 1 dL_law_1113 rfl rfl rfl ?_
        refine K_aload_n (q := 1115) 0 dL_law_1114 rfl rfl rfl ?_
        refine K_iload_n (q := 1116) 3 dL_law_1115 rfl rfl rfl ?_
        refine K_iconst (q := 1117) (v := nI 1) dL_law_1116 rfl rfl ?_
        refine K_iadd (q := 1118) dL_law_1117 rfl ?_
        refine K_iald3 (q := 1119) dL_law_1118 rfl (fun v230 => ?_)
        refine K_cvi (q := 1122) [.inl (v230)] dL_law_1119 cb_X11_worth cvRL_135 rc_6 (show (16 : Nat) ≠ 0 by decide) rfl (Nat.le_of_ble_eq_true rfl) ⟨by decide, by decide⟩ (Nat.le_of_ble_eq_true rfl) rfl (tX11_worth v230 M) rfl (fun v232 M231 => ?_)
        refine K_aload_n (q := 1123) 2 dL_law_1122 rfl rfl rfl ?_
        refine K_aload_n (q := 1124) 0 dL_law_1123 rfl rfl rfl ?_
        refine K_iload_n (q := 1125) 3 dL_law_1124 rfl rfl rfl ?_
        refine K_iconst (q := 1126) (v := nI 1) dL_law_1125 rfl rfl ?_
        refine K_iadd (q := 1127) dL_law_1126 rfl ?_
        refine K_iald3 (q := 1128) dL_law_1127 rfl (fun v233 => ?_)
        refine K_cvi (q := 1131) [.inl (v233)] dL_law_1128 cb_X12_worth cvRL_138 rc_7 (show (17 : Nat) ≠ 0 by decide) rfl (Nat.le_of_ble_eq_true rfl) ⟨by decide, by decide⟩ (Nat.le_of_ble_eq_true rfl) rfl (tX12_worth v233 M231) rfl (fun v235 M234 => ?_)
        refine K_icmp_eq (q := 1134) (tgt := 1198) dL_law_1131 rfl ?_ rfl ?_
        · refine K_iinc (q := 1201) (v := l3 + (nI 6)) (ll' := [(3, .inl (l3 + (nI 6))), (0, .inr (3, L, 310)), (1, .inr (16, 0, 0)), (2, .inr (17, 0, 200))]) 3 dL_law_1198 rfl rfl (by decide) rfl rfl ?_
          refine J_goto (tgt := 18) dL_law_1201 rfl ?_
          exact J_sub [1, 2, 3, 0] (ih (l3 + (nI 6)) M234) rfl
        · refine K_iconst (q := 1135) (v := nI 0) dL_law_1134 rfl rfl ?_
          exact J_zret dL_law_1135 (by decide)
      · refine K_aload_n (q := 1137) 1 dL_law_1136 rfl rfl rfl ?_
        refine K_aload_n (q := 1138) 0 dL_law_1137 rfl rfl rfl ?_
        refine K_iload_n (q := 1139) 3 dL_law_1138 rfl rfl rfl ?_
        refine K_iconst (q := 1140) (v := nI 1) dL_law_1139 rfl rfl ?_
        refine K_iadd (q := 1141) dL_law_1140 rfl ?_
        refine K_iald3 (q := 1142) dL_law_1141 rfl (fun v236 => ?_)
        refine K_if_eq (q := 1145) (tgt := 1149) dL_law_1142 rfl ?_ rfl ?_
        · refine K_iconst (q := 1150) (v := nI 0) dL_law_1149 rfl rfl ?_
          exact J_sub [0, 1, 2, 3] (tL_law_1150 (xL_law_18 L n) L ih l3 (nI 0) M) rfl
        · refine K_iconst (q := 1146) (v := nI 1) dL_law_1145 rfl rfl ?_
          refine J_goto (tgt := 1150) dL_law_1146 rfl ?_
          exact J_sub [0, 1, 2, 3] (tL_law_1150 (xL_law_18 L n) L ih l3 (nI 1) M) rfl
      · refine K_aload_n (q := 1176) 1 dL_law_1175 rfl rfl rfl ?_
        refine K_aload_n (q := 1177) 0 dL_law_1176 rfl rfl rfl ?_
        refine K_iload_n (q := 1178) 3 dL_law_1177 rfl rfl rfl ?_
        refine K_iconst (q := 1179) (v := nI 1) dL_law_1178 rfl rfl ?_
        refine K_iadd (q := 1180) dL_law_1179 rfl ?_
        refine K_iald3 (q := 1181) dL_law_1180 rfl (fun v237 => ?_)
        refine K_cvi (q := 1184) [.inl (v237)] dL_law_1181 cb_X11_look cvRL_144 rc_6 (show (16 : Nat) ≠ 0 by decide) rfl (Nat.le_of_ble_eq_true rfl) ⟨by decide, by decide⟩ (Nat.le_of_ble_eq_true rfl) rfl (tX11_look v237 M) rfl (fun v239 M238 => ?_)
        refine K_aload_n (q := 1185) 2 dL_law_1184 rfl rfl rfl ?_
        refine K_aload_n (q := 1186) 0 dL_law_1185 rfl rfl rfl ?_
        refine K_iload_n (q := 1187) 3 dL_law_1186 rfl rfl rfl ?_
        refine K_iconst (q := 1188) (v := nI 1) dL_law_1187 rfl rfl ?_
        refine K_iadd (q := 1189) dL_law_1188 rfl ?_
        refine K_iald3 (q := 1190) dL_law_1189 rfl (fun v240 => ?_)
        refine K_cvi (q := 1193) [.inl (v240)] dL_law_1190 cb_X12_look cvRL_147 rc_7 (show (17 : Nat) ≠ 0 by decide) rfl (Nat.le_of_ble_eq_true rfl) ⟨by decide, by decide⟩ (Nat.le_of_ble_eq_true rfl) rfl (tX12_look v240 M238) rfl (fun v242 M241 => ?_)
        refine K_icmp_eq (q := 1196) (tgt := 1198) dL_law_1193 rfl ?_ rfl ?_
        · refine K_iinc (q := 1201) (v := l3 + (nI 6)) (ll' := [(3, .inl (l3 + (nI 6))), (0, .inr (3, L, 310)), (1, .inr (16, 0, 0)), (2, .inr (17, 0, 200))]) 3 dL_law_1198 rfl rfl (by decide) rfl rfl ?_
          refine J_goto (tgt := 18) dL_law_1201 rfl ?_
          exact J_sub [1, 2, 3, 0] (ih (l3 + (nI 6)) M241) rfl
        · refine K_iconst (q := 1197) (v := nI 0) dL_law_1196 rfl rfl ?_
          exact J_zret dL_law_1197 (by decide)
      · refine K_iinc (q := 1201) (v := l3 + (nI 6)) (ll' := [(3, .inl (l3 + (nI 6))), (0, .inr (3, L, 310)), (1, .inr (16, 0, 0)), (2, .inr (17, 0, 200))]) 3 dL_law_1198 rfl rfl (by decide) rfl rfl ?_
        refine J_goto (tgt := 18) dL_law_1201 rfl ?_
        exact J_sub [1, 2, 3, 0] (ih (l3 + (nI 6)) M) rfl
def xL_law (L : Nat)  (M : j_M) : Option (Int32 × j_M) := xL_law_18 L fu (nI 0) M
set_option maxRecDepth 20000 in
set_option maxHeartbeats 2000000 in
theorem tL_law (L : Nat)  (M : j_M) : J (ρ := Int32 × j_M) yL_law cL_law 4 (some .boolean) 16 604 j_ei 16 [(0, .inr (3, L, 310)), (1, .inr (16, 0, 0)), (2, .inr (17, 0, 200))] [] M (xL_law L  M) := by
  unfold xL_law
  refine K_iconst (q := 17) (v := nI 0) dL_law_16 rfl rfl ?_
  refine K_istore_n (q := 18) (ll' := [(3, .inl ((nI 0))), (0, .inr (3, L, 310)), (1, .inr (16, 0, 0)), (2, .inr (17, 0, 200))]) dL_law_17 rfl (by decide) rfl rfl ?_
  exact J_sub [1, 2, 3, 0] (tL_law_18 L fu (nI 0) M) rfl
