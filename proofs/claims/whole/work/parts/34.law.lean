theorem ml_L_19 : Cond.methodLink "GrainShiftLaw" 19 yX11_feed ∈ gs_tbl := gs_t 361 (by decide +kernel) (by decide +kernel)
theorem im_X11_feed : Cond.instanceMethod yX11_feed ∈ gs_tbl := gs_t 362 (by decide +kernel) (by decide +kernel)
theorem se_10_RX11_X11_feed : Cond.selects RX11 yX11_feed yX11_feed ∈ gs_tbl := gs_t 363 (by decide +kernel) (by decide +kernel)
theorem ml_L_23 : Cond.methodLink "GrainShiftLaw" 23 yX12_feed ∈ gs_tbl := gs_t 1286 (by decide +kernel) (by decide +kernel)
theorem im_X12_feed : Cond.instanceMethod yX12_feed ∈ gs_tbl := gs_t 1287 (by decide +kernel) (by decide +kernel)
theorem se_11_RX12_X12_feed : Cond.selects RX12 yX12_feed yX12_feed ∈ gs_tbl := gs_t 1288 (by decide +kernel) (by decide +kernel)
theorem ml_L_24 : Cond.methodLink "GrainShiftLaw" 24 yX11_end ∈ gs_tbl := gs_t 372 (by decide +kernel) (by decide +kernel)
theorem im_X11_end : Cond.instanceMethod yX11_end ∈ gs_tbl := gs_t 373 (by decide +kernel) (by decide +kernel)
theorem se_10_RX11_X11_end : Cond.selects RX11 yX11_end yX11_end ∈ gs_tbl := gs_t 374 (by decide +kernel) (by decide +kernel)
theorem ml_L_28 : Cond.methodLink "GrainShiftLaw" 28 yX12_end ∈ gs_tbl := gs_t 1297 (by decide +kernel) (by decide +kernel)
theorem im_X12_end : Cond.instanceMethod yX12_end ∈ gs_tbl := gs_t 1298 (by decide +kernel) (by decide +kernel)
theorem se_11_RX12_X12_end : Cond.selects RX12 yX12_end yX12_end ∈ gs_tbl := gs_t 1299 (by decide +kernel) (by decide +kernel)
theorem ml_L_29 : Cond.methodLink "GrainShiftLaw" 29 yX11_fault ∈ gs_tbl := gs_t 379 (by decide +kernel) (by decide +kernel)
theorem im_X11_fault : Cond.instanceMethod yX11_fault ∈ gs_tbl := gs_t 380 (by decide +kernel) (by decide +kernel)
theorem se_10_RX11_X11_fault : Cond.selects RX11 yX11_fault yX11_fault ∈ gs_tbl := gs_t 381 (by decide +kernel) (by decide +kernel)
theorem ml_L_33 : Cond.methodLink "GrainShiftLaw" 33 yX12_fault ∈ gs_tbl := gs_t 1301 (by decide +kernel) (by decide +kernel)
theorem ml_L_34 : Cond.methodLink "GrainShiftLaw" 34 yX11_text ∈ gs_tbl := gs_t 545 (by decide +kernel) (by decide +kernel)
theorem im_X11_text : Cond.instanceMethod yX11_text ∈ gs_tbl := gs_t 546 (by decide +kernel) (by decide +kernel)
theorem se_10_RX11_X11_text : Cond.selects RX11 yX11_text yX11_text ∈ gs_tbl := gs_t 547 (by decide +kernel) (by decide +kernel)
theorem ml_L_37 : Cond.methodLink "GrainShiftLaw" 37 yX12_text ∈ gs_tbl := gs_t 1471 (by decide +kernel) (by decide +kernel)
theorem im_X12_text : Cond.instanceMethod yX12_text ∈ gs_tbl := gs_t 1472 (by decide +kernel) (by decide +kernel)
theorem se_11_RX12_X12_text : Cond.selects RX12 yX12_text yX12_text ∈ gs_tbl := gs_t 1473 (by decide +kernel) (by decide +kernel)
theorem ml_L_48 : Cond.methodLink "GrainShiftLaw" 48 yX11_ship ∈ gs_tbl := gs_t 561 (by decide +kernel) (by decide +kernel)
theorem im_X11_ship : Cond.instanceMethod yX11_ship ∈ gs_tbl := gs_t 562 (by decide +kernel) (by decide +kernel)
theorem se_10_RX11_X11_ship : Cond.selects RX11 yX11_ship yX11_ship ∈ gs_tbl := gs_t 563 (by decide +kernel) (by decide +kernel)
theorem ml_L_52 : Cond.methodLink "GrainShiftLaw" 52 yX12_ship ∈ gs_tbl := gs_t 1492 (by decide +kernel) (by decide +kernel)
theorem im_X12_ship : Cond.instanceMethod yX12_ship ∈ gs_tbl := gs_t 1493 (by decide +kernel) (by decide +kernel)
theorem se_11_RX12_X12_ship : Cond.selects RX12 yX12_ship yX12_ship ∈ gs_tbl := gs_t 1494 (by decide +kernel) (by decide +kernel)
theorem ml_L_53 : Cond.methodLink "GrainShiftLaw" 53 yX11_plan ∈ gs_tbl := gs_t 579 (by decide +kernel) (by decide +kernel)
theorem im_X11_plan : Cond.instanceMethod yX11_plan ∈ gs_tbl := gs_t 580 (by decide +kernel) (by decide +kernel)
theorem se_10_RX11_X11_plan : Cond.selects RX11 yX11_plan yX11_plan ∈ gs_tbl := gs_t 581 (by decide +kernel) (by decide +kernel)
theorem ml_L_56 : Cond.methodLink "GrainShiftLaw" 56 yX12_plan ∈ gs_tbl := gs_t 1504 (by decide +kernel) (by decide +kernel)
theorem im_X12_plan : Cond.instanceMethod yX12_plan ∈ gs_tbl := gs_t 1505 (by decide +kernel) (by decide +kernel)
theorem se_11_RX12_X12_plan : Cond.selects RX12 yX12_plan yX12_plan ∈ gs_tbl := gs_t 1506 (by decide +kernel) (by decide +kernel)
theorem ml_L_57 : Cond.methodLink "GrainShiftLaw" 57 yX11_set ∈ gs_tbl := gs_t 583 (by decide +kernel) (by decide +kernel)
theorem im_X11_set : Cond.instanceMethod yX11_set ∈ gs_tbl := gs_t 584 (by decide +kernel) (by decide +kernel)
theorem se_10_RX11_X11_set : Cond.selects RX11 yX11_set yX11_set ∈ gs_tbl := gs_t 585 (by decide +kernel) (by decide +kernel)
theorem ml_L_61 : Cond.methodLink "GrainShiftLaw" 61 yX12_set ∈ gs_tbl := gs_t 1516 (by decide +kernel) (by decide +kernel)
theorem im_X12_set : Cond.instanceMethod yX12_set ∈ gs_tbl := gs_t 1517 (by decide +kernel) (by decide +kernel)
theorem se_11_RX12_X12_set : Cond.selects RX12 yX12_set yX12_set ∈ gs_tbl := gs_t 1518 (by decide +kernel) (by decide +kernel)
theorem kl_L_62 : Cond.constantLong "GrainShiftLaw" 62 4294967295 ∈ gs_tbl := gs_t 1857 (by decide +kernel) (by decide +kernel)
theorem ml_L_64 : Cond.methodLink "GrainShiftLaw" 64 yX11_load ∈ gs_tbl := gs_t 587 (by decide +kernel) (by decide +kernel)
theorem im_X11_load : Cond.instanceMethod yX11_load ∈ gs_tbl := gs_t 588 (by decide +kernel) (by decide +kernel)
theorem se_10_RX11_X11_load : Cond.selects RX11 yX11_load yX11_load ∈ gs_tbl := gs_t 589 (by decide +kernel) (by decide +kernel)
theorem ml_L_68 : Cond.methodLink "GrainShiftLaw" 68 yX12_load ∈ gs_tbl := gs_t 1520 (by decide +kernel) (by decide +kernel)
theorem im_X12_load : Cond.instanceMethod yX12_load ∈ gs_tbl := gs_t 1521 (by decide +kernel) (by decide +kernel)
theorem se_11_RX12_X12_load : Cond.selects RX12 yX12_load yX12_load ∈ gs_tbl := gs_t 1522 (by decide +kernel) (by decide +kernel)
theorem ml_L_69 : Cond.methodLink "GrainShiftLaw" 69 yX11_roll ∈ gs_tbl := gs_t 655 (by decide +kernel) (by decide +kernel)
theorem im_X11_roll : Cond.instanceMethod yX11_roll ∈ gs_tbl := gs_t 656 (by decide +kernel) (by decide +kernel)
theorem se_10_RX11_X11_roll : Cond.selects RX11 yX11_roll yX11_roll ∈ gs_tbl := gs_t 657 (by decide +kernel) (by decide +kernel)
theorem ml_L_72 : Cond.methodLink "GrainShiftLaw" 72 yX12_roll ∈ gs_tbl := gs_t 1586 (by decide +kernel) (by decide +kernel)
theorem im_X12_roll : Cond.instanceMethod yX12_roll ∈ gs_tbl := gs_t 1587 (by decide +kernel) (by decide +kernel)
theorem se_11_RX12_X12_roll : Cond.selects RX12 yX12_roll yX12_roll ∈ gs_tbl := gs_t 1588 (by decide +kernel) (by decide +kernel)
theorem ml_L_73 : Cond.methodLink "GrainShiftLaw" 73 yX11_day ∈ gs_tbl := gs_t 710 (by decide +kernel) (by decide +kernel)
theorem im_X11_day : Cond.instanceMethod yX11_day ∈ gs_tbl := gs_t 711 (by decide +kernel) (by decide +kernel)
theorem se_10_RX11_X11_day : Cond.selects RX11 yX11_day yX11_day ∈ gs_tbl := gs_t 712 (by decide +kernel) (by decide +kernel)
theorem ml_L_76 : Cond.methodLink "GrainShiftLaw" 76 yX12_day ∈ gs_tbl := gs_t 1611 (by decide +kernel) (by decide +kernel)
theorem im_X12_day : Cond.instanceMethod yX12_day ∈ gs_tbl := gs_t 1612 (by decide +kernel) (by decide +kernel)
theorem se_11_RX12_X12_day : Cond.selects RX12 yX12_day yX12_day ∈ gs_tbl := gs_t 1613 (by decide +kernel) (by decide +kernel)
theorem ml_L_77 : Cond.methodLink "GrainShiftLaw" 77 yX11_column ∈ gs_tbl := gs_t 730 (by decide +kernel) (by decide +kernel)
theorem im_X11_column : Cond.instanceMethod yX11_column ∈ gs_tbl := gs_t 731 (by decide +kernel) (by decide +kernel)
theorem se_10_RX11_X11_column : Cond.selects RX11 yX11_column yX11_column ∈ gs_tbl := gs_t 732 (by decide +kernel) (by decide +kernel)
theorem ml_L_80 : Cond.methodLink "GrainShiftLaw" 80 yX12_column ∈ gs_tbl := gs_t 1626 (by decide +kernel) (by decide +kernel)
theorem im_X12_column : Cond.instanceMethod yX12_column ∈ gs_tbl := gs_t 1627 (by decide +kernel) (by decide +kernel)
theorem se_11_RX12_X12_column : Cond.selects RX12 yX12_column yX12_column ∈ gs_tbl := gs_t 1628 (by decide +kernel) (by decide +kernel)
theorem ml_L_81 : Cond.methodLink "GrainShiftLaw" 81 yX11_hold ∈ gs_tbl := gs_t 747 (by decide +kernel) (by decide +kernel)
theorem im_X11_hold : Cond.instanceMethod yX11_hold ∈ gs_tbl := gs_t 748 (by decide +kernel) (by decide +kernel)
theorem se_10_RX11_X11_hold : Cond.selects RX11 yX11_hold yX11_hold ∈ gs_tbl := gs_t 749 (by decide +kernel) (by decide +kernel)
theorem ml_L_84 : Cond.methodLink "GrainShiftLaw" 84 yX12_hold ∈ gs_tbl := gs_t 1634 (by decide +kernel) (by decide +kernel)
theorem im_X12_hold : Cond.instanceMethod yX12_hold ∈ gs_tbl := gs_t 1635 (by decide +kernel) (by decide +kernel)
theorem se_11_RX12_X12_hold : Cond.selects RX12 yX12_hold yX12_hold ∈ gs_tbl := gs_t 1636 (by decide +kernel) (by decide +kernel)
theorem ml_L_85 : Cond.methodLink "GrainShiftLaw" 85 yX11_about ∈ gs_tbl := gs_t 768 (by decide +kernel) (by decide +kernel)
theorem im_X11_about : Cond.instanceMethod yX11_about ∈ gs_tbl := gs_t 769 (by decide +kernel) (by decide +kernel)
theorem se_10_RX11_X11_about : Cond.selects RX11 yX11_about yX11_about ∈ gs_tbl := gs_t 770 (by decide +kernel) (by decide +kernel)
theorem ml_L_88 : Cond.methodLink "GrainShiftLaw" 88 yX12_about ∈ gs_tbl := gs_t 1639 (by decide +kernel) (by decide +kernel)
theorem im_X12_about : Cond.instanceMethod yX12_about ∈ gs_tbl := gs_t 1640 (by decide +kernel) (by decide +kernel)
theorem se_11_RX12_X12_about : Cond.selects RX12 yX12_about yX12_about ∈ gs_tbl := gs_t 1641 (by decide +kernel) (by decide +kernel)
theorem ml_L_89 : Cond.methodLink "GrainShiftLaw" 89 yX11_goes ∈ gs_tbl := gs_t 774 (by decide +kernel) (by decide +kernel)
theorem im_X11_goes : Cond.instanceMethod yX11_goes ∈ gs_tbl := gs_t 775 (by decide +kernel) (by decide +kernel)
theorem se_10_RX11_X11_goes : Cond.selects RX11 yX11_goes yX11_goes ∈ gs_tbl := gs_t 776 (by decide +kernel) (by decide +kernel)
theorem ml_L_92 : Cond.methodLink "GrainShiftLaw" 92 yX12_goes ∈ gs_tbl := gs_t 1643 (by decide +kernel) (by decide +kernel)
theorem im_X12_goes : Cond.instanceMethod yX12_goes ∈ gs_tbl := gs_t 1644 (by decide +kernel) (by decide +kernel)
theorem se_11_RX12_X12_goes : Cond.selects RX12 yX12_goes yX12_goes ∈ gs_tbl := gs_t 1645 (by decide +kernel) (by decide +kernel)
theorem ml_L_93 : Cond.methodLink "GrainShiftLaw" 93 yX11_least ∈ gs_tbl := gs_t 792 (by decide +kernel) (by decide +kernel)
theorem im_X11_least : Cond.instanceMethod yX11_least ∈ gs_tbl := gs_t 793 (by decide +kernel) (by decide +kernel)
theorem se_10_RX11_X11_least : Cond.selects RX11 yX11_least yX11_least ∈ gs_tbl := gs_t 794 (by decide +kernel) (by decide +kernel)
theorem ml_L_96 : Cond.methodLink "GrainShiftLaw" 96 yX12_least ∈ gs_tbl := gs_t 1658 (by decide +kernel) (by decide +kernel)
theorem im_X12_least : Cond.instanceMethod yX12_least ∈ gs_tbl := gs_t 1659 (by decide +kernel) (by decide +kernel)
theorem se_11_RX12_X12_least : Cond.selects RX12 yX12_least yX12_least ∈ gs_tbl := gs_t 1660 (by decide +kernel) (by decide +kernel)
theorem ml_L_97 : Cond.methodLink "GrainShiftLaw" 97 yX11_runs ∈ gs_tbl := gs_t 796 (by decide +kernel) (by decide +kernel)
theorem im_X11_runs : Cond.instanceMethod yX11_runs ∈ gs_tbl := gs_t 797 (by decide +kernel) (by decide +kernel)
theorem se_10_RX11_X11_runs : Cond.selects RX11 yX11_runs yX11_runs ∈ gs_tbl := gs_t 798 (by decide +kernel) (by decide +kernel)
theorem ml_L_100 : Cond.methodLink "GrainShiftLaw" 100 yX12_runs ∈ gs_tbl := gs_t 1662 (by decide +kernel) (by decide +kernel)
theorem im_X12_runs : Cond.instanceMethod yX12_runs ∈ gs_tbl := gs_t 1663 (by decide +kernel) (by decide +kernel)
theorem se_11_RX12_X12_runs : Cond.selects RX12 yX12_runs yX12_runs ∈ gs_tbl := gs_t 1664 (by decide +kernel) (by decide +kernel)
theorem ml_L_101 : Cond.methodLink "GrainShiftLaw" 101 yX11_ballast ∈ gs_tbl := gs_t 800 (by decide +kernel) (by decide +kernel)
theorem im_X11_ballast : Cond.instanceMethod yX11_ballast ∈ gs_tbl := gs_t 801 (by decide +kernel) (by decide +kernel)
theorem se_10_RX11_X11_ballast : Cond.selects RX11 yX11_ballast yX11_ballast ∈ gs_tbl := gs_t 802 (by decide +kernel) (by decide +kernel)
theorem ml_L_104 : Cond.methodLink "GrainShiftLaw" 104 yX12_ballast ∈ gs_tbl := gs_t 1666 (by decide +kernel) (by decide +kernel)
theorem im_X12_ballast : Cond.instanceMethod yX12_ballast ∈ gs_tbl := gs_t 1667 (by decide +kernel) (by decide +kernel)
theorem se_11_RX12_X12_ballast : Cond.selects RX12 yX12_ballast yX12_ballast ∈ gs_tbl := gs_t 1668 (by decide +kernel) (by decide +kernel)
theorem ml_L_105 : Cond.methodLink "GrainShiftLaw" 105 yX11_course ∈ gs_tbl := gs_t 809 (by decide +kernel) (by decide +kernel)
theorem im_X11_course : Cond.instanceMethod yX11_course ∈ gs_tbl := gs_t 810 (by decide +kernel) (by decide +kernel)
theorem se_10_RX11_X11_course : Cond.selects RX11 yX11_course yX11_course ∈ gs_tbl := gs_t 811 (by decide +kernel) (by decide +kernel)
theorem ml_L_108 : Cond.methodLink "GrainShiftLaw" 108 yX12_course ∈ gs_tbl := gs_t 1677 (by decide +kernel) (by decide +kernel)
theorem im_X12_course : Cond.instanceMethod yX12_course ∈ gs_tbl := gs_t 1678 (by decide +kernel) (by decide +kernel)
theorem se_11_RX12_X12_course : Cond.selects RX12 yX12_course yX12_course ∈ gs_tbl := gs_t 1679 (by decide +kernel) (by decide +kernel)
theorem ml_L_109 : Cond.methodLink "GrainShiftLaw" 109 yX11_best ∈ gs_tbl := gs_t 817 (by decide +kernel) (by decide +kernel)
theorem im_X11_best : Cond.instanceMethod yX11_best ∈ gs_tbl := gs_t 818 (by decide +kernel) (by decide +kernel)
theorem se_10_RX11_X11_best : Cond.selects RX11 yX11_best yX11_best ∈ gs_tbl := gs_t 819 (by decide +kernel) (by decide +kernel)
theorem ml_L_112 : Cond.methodLink "GrainShiftLaw" 112 yX12_best ∈ gs_tbl := gs_t 1681 (by decide +kernel) (by decide +kernel)
theorem im_X12_best : Cond.instanceMethod yX12_best ∈ gs_tbl := gs_t 1682 (by decide +kernel) (by decide +kernel)
theorem se_11_RX12_X12_best : Cond.selects RX12 yX12_best yX12_best ∈ gs_tbl := gs_t 1683 (by decide +kernel) (by decide +kernel)
theorem ml_L_113 : Cond.methodLink "GrainShiftLaw" 113 yX11_cost ∈ gs_tbl := gs_t 821 (by decide +kernel) (by decide +kernel)
theorem ml_L_116 : Cond.methodLink "GrainShiftLaw" 116 yX12_cost ∈ gs_tbl := gs_t 1689 (by decide +kernel) (by decide +kernel)
theorem im_X12_cost : Cond.instanceMethod yX12_cost ∈ gs_tbl := gs_t 1690 (by decide +kernel) (by decide +kernel)
theorem se_11_RX12_X12_cost : Cond.selects RX12 yX12_cost yX12_cost ∈ gs_tbl := gs_t 1691 (by decide +kernel) (by decide +kernel)
theorem ml_L_117 : Cond.methodLink "GrainShiftLaw" 117 yX11_safe ∈ gs_tbl := gs_t 829 (by decide +kernel) (by decide +kernel)
theorem im_X11_safe : Cond.instanceMethod yX11_safe ∈ gs_tbl := gs_t 830 (by decide +kernel) (by decide +kernel)
theorem se_10_RX11_X11_safe : Cond.selects RX11 yX11_safe yX11_safe ∈ gs_tbl := gs_t 831 (by decide +kernel) (by decide +kernel)
theorem ml_L_120 : Cond.methodLink "GrainShiftLaw" 120 yX12_safe ∈ gs_tbl := gs_t 1697 (by decide +kernel) (by decide +kernel)
theorem im_X12_safe : Cond.instanceMethod yX12_safe ∈ gs_tbl := gs_t 1698 (by decide +kernel) (by decide +kernel)
theorem se_11_RX12_X12_safe : Cond.selects RX12 yX12_safe yX12_safe ∈ gs_tbl := gs_t 1699 (by decide +kernel) (by decide +kernel)
theorem ml_L_121 : Cond.methodLink "GrainShiftLaw" 121 yX11_cheapest ∈ gs_tbl := gs_t 840 (by decide +kernel) (by decide +kernel)
theorem im_X11_cheapest : Cond.instanceMethod yX11_cheapest ∈ gs_tbl := gs_t 841 (by decide +kernel) (by decide +kernel)
theorem se_10_RX11_X11_cheapest : Cond.selects RX11 yX11_cheapest yX11_cheapest ∈ gs_tbl := gs_t 842 (by decide +kernel) (by decide +kernel)
theorem ml_L_124 : Cond.methodLink "GrainShiftLaw" 124 yX12_cheapest ∈ gs_tbl := gs_t 1708 (by decide +kernel) (by decide +kernel)
theorem im_X12_cheapest : Cond.instanceMethod yX12_cheapest ∈ gs_tbl := gs_t 1709 (by decide +kernel) (by decide +kernel)
theorem se_11_RX12_X12_cheapest : Cond.selects RX12 yX12_cheapest yX12_cheapest ∈ gs_tbl := gs_t 1710 (by decide +kernel) (by decide +kernel)
theorem ml_L_125 : Cond.methodLink "GrainShiftLaw" 125 yX11_fitted ∈ gs_tbl := gs_t 845 (by decide +kernel) (by decide +kernel)
theorem im_X11_fitted : Cond.instanceMethod yX11_fitted ∈ gs_tbl := gs_t 846 (by decide +kernel) (by decide +kernel)
theorem se_10_RX11_X11_fitted : Cond.selects RX11 yX11_fitted yX11_fitted ∈ gs_tbl := gs_t 847 (by decide +kernel) (by decide +kernel)
theorem ml_L_129 : Cond.methodLink "GrainShiftLaw" 129 yX12_fitted ∈ gs_tbl := gs_t 1712 (by decide +kernel) (by decide +kernel)
theorem im_X12_fitted : Cond.instanceMethod yX12_fitted ∈ gs_tbl := gs_t 1713 (by decide +kernel) (by decide +kernel)
theorem se_11_RX12_X12_fitted : Cond.selects RX12 yX12_fitted yX12_fitted ∈ gs_tbl := gs_t 1714 (by decide +kernel) (by decide +kernel)
theorem ml_L_130 : Cond.methodLink "GrainShiftLaw" 130 yX11_log ∈ gs_tbl := gs_t 849 (by decide +kernel) (by decide +kernel)
theorem im_X11_log : Cond.instanceMethod yX11_log ∈ gs_tbl := gs_t 850 (by decide +kernel) (by decide +kernel)
theorem se_10_RX11_X11_log : Cond.selects RX11 yX11_log yX11_log ∈ gs_tbl := gs_t 851 (by decide +kernel) (by decide +kernel)
theorem ml_L_133 : Cond.methodLink "GrainShiftLaw" 133 yX12_log ∈ gs_tbl := gs_t 1716 (by decide +kernel) (by decide +kernel)
theorem im_X12_log : Cond.instanceMethod yX12_log ∈ gs_tbl := gs_t 1717 (by decide +kernel) (by decide +kernel)
theorem se_11_RX12_X12_log : Cond.selects RX12 yX12_log yX12_log ∈ gs_tbl := gs_t 1718 (by decide +kernel) (by decide +kernel)
theorem ml_L_134 : Cond.methodLink "GrainShiftLaw" 134 yX11_agree ∈ gs_tbl := gs_t 853 (by decide +kernel) (by decide +kernel)
theorem im_X11_agree : Cond.instanceMethod yX11_agree ∈ gs_tbl := gs_t 854 (by decide +kernel) (by decide +kernel)
theorem se_10_RX11_X11_agree : Cond.selects RX11 yX11_agree yX11_agree ∈ gs_tbl := gs_t 855 (by decide +kernel) (by decide +kernel)
theorem ml_L_137 : Cond.methodLink "GrainShiftLaw" 137 yX12_agree ∈ gs_tbl := gs_t 1720 (by decide +kernel) (by decide +kernel)
theorem im_X12_agree : Cond.instanceMethod yX12_agree ∈ gs_tbl := gs_t 1721 (by decide +kernel) (by decide +kernel)
theorem se_11_RX12_X12_agree : Cond.selects RX12 yX12_agree yX12_agree ∈ gs_tbl := gs_t 1722 (by decide +kernel) (by decide +kernel)
theorem ml_L_138 : Cond.methodLink "GrainShiftLaw" 138 yX11_heap ∈ gs_tbl := gs_t 861 (by decide +kernel) (by decide +kernel)
theorem im_X11_heap : Cond.instanceMethod yX11_heap ∈ gs_tbl := gs_t 862 (by decide +kernel) (by decide +kernel)
theorem se_10_RX11_X11_heap : Cond.selects RX11 yX11_heap yX11_heap ∈ gs_tbl := gs_t 863 (by decide +kernel) (by decide +kernel)
theorem ml_L_141 : Cond.methodLink "GrainShiftLaw" 141 yX12_heap ∈ gs_tbl := gs_t 1724 (by decide +kernel) (by decide +kernel)
theorem im_X12_heap : Cond.instanceMethod yX12_heap ∈ gs_tbl := gs_t 1725 (by decide +kernel) (by decide +kernel)
theorem se_11_RX12_X12_heap : Cond.selects RX12 yX12_heap yX12_heap ∈ gs_tbl := gs_t 1726 (by decide +kernel) (by decide +kernel)
theorem ml_L_142 : Cond.methodLink "GrainShiftLaw" 142 yX11_miss ∈ gs_tbl := gs_t 869 (by decide +kernel) (by decide +kernel)
theorem im_X11_miss : Cond.instanceMethod yX11_miss ∈ gs_tbl := gs_t 870 (by decide +kernel) (by decide +kernel)
theorem se_10_RX11_X11_miss : Cond.selects RX11 yX11_miss yX11_miss ∈ gs_tbl := gs_t 871 (by decide +kernel) (by decide +kernel)
theorem ml_L_145 : Cond.methodLink "GrainShiftLaw" 145 yX12_miss ∈ gs_tbl := gs_t 1728 (by decide +kernel) (by decide +kernel)
theorem im_X12_miss : Cond.instanceMethod yX12_miss ∈ gs_tbl := gs_t 1729 (by decide +kernel) (by decide +kernel)
theorem se_11_RX12_X12_miss : Cond.selects RX12 yX12_miss yX12_miss ∈ gs_tbl := gs_t 1730 (by decide +kernel) (by decide +kernel)
theorem ml_L_146 : Cond.methodLink "GrainShiftLaw" 146 yX11_enough ∈ gs_tbl := gs_t 886 (by decide +kernel) (by decide +kernel)
theorem im_X11_enough : Cond.instanceMethod yX11_enough ∈ gs_tbl := gs_t 887 (by decide +kernel) (by decide +kernel)
theorem se_10_RX11_X11_enough : Cond.selects RX11 yX11_enough yX11_enough ∈ gs_tbl := gs_t 888 (by decide +kernel) (by decide +kernel)
theorem ml_L_149 : Cond.methodLink "GrainShiftLaw" 149 yX12_enough ∈ gs_tbl := gs_t 1747 (by decide +kernel) (by decide +kernel)
theorem im_X12_enough : Cond.instanceMethod yX12_enough ∈ gs_tbl := gs_t 1748 (by decide +kernel) (by decide +kernel)
theorem se_11_RX12_X12_enough : Cond.selects RX12 yX12_enough yX12_enough ∈ gs_tbl := gs_t 1749 (by decide +kernel) (by decide +kernel)
theorem ml_L_150 : Cond.methodLink "GrainShiftLaw" 150 yX11_refuse ∈ gs_tbl := gs_t 891 (by decide +kernel) (by decide +kernel)
theorem im_X11_refuse : Cond.instanceMethod yX11_refuse ∈ gs_tbl := gs_t 892 (by decide +kernel) (by decide +kernel)
theorem se_10_RX11_X11_refuse : Cond.selects RX11 yX11_refuse yX11_refuse ∈ gs_tbl := gs_t 893 (by decide +kernel) (by decide +kernel)
theorem ml_L_154 : Cond.methodLink "GrainShiftLaw" 154 yX12_refuse ∈ gs_tbl := gs_t 1752 (by decide +kernel) (by decide +kernel)
theorem im_X12_refuse : Cond.instanceMethod yX12_refuse ∈ gs_tbl := gs_t 1753 (by decide +kernel) (by decide +kernel)
theorem se_11_RX12_X12_refuse : Cond.selects RX12 yX12_refuse yX12_refuse ∈ gs_tbl := gs_t 1754 (by decide +kernel) (by decide +kernel)
theorem ml_L_155 : Cond.methodLink "GrainShiftLaw" 155 yX11_image ∈ gs_tbl := gs_t 898 (by decide +kernel) (by decide +kernel)
theorem im_X11_image : Cond.instanceMethod yX11_image ∈ gs_tbl := gs_t 899 (by decide +kernel) (by decide +kernel)
theorem se_10_RX11_X11_image : Cond.selects RX11 yX11_image yX11_image ∈ gs_tbl := gs_t 900 (by decide +kernel) (by decide +kernel)
theorem ml_L_158 : Cond.methodLink "GrainShiftLaw" 158 yX12_image ∈ gs_tbl := gs_t 1845 (by decide +kernel) (by decide +kernel)
theorem im_X12_image : Cond.instanceMethod yX12_image ∈ gs_tbl := gs_t 1846 (by decide +kernel) (by decide +kernel)
theorem se_11_RX12_X12_image : Cond.selects RX12 yX12_image yX12_image ∈ gs_tbl := gs_t 1847 (by decide +kernel) (by decide +kernel)
theorem ml_L_159 : Cond.methodLink "GrainShiftLaw" 159 yX11_back ∈ gs_tbl := gs_t 902 (by decide +kernel) (by decide +kernel)
theorem im_X11_back : Cond.instanceMethod yX11_back ∈ gs_tbl := gs_t 903 (by decide +kernel) (by decide +kernel)
theorem se_10_RX11_X11_back : Cond.selects RX11 yX11_back yX11_back ∈ gs_tbl := gs_t 904 (by decide +kernel) (by decide +kernel)
theorem ml_L_162 : Cond.methodLink "GrainShiftLaw" 162 yX12_back ∈ gs_tbl := gs_t 1849 (by decide +kernel) (by decide +kernel)
theorem im_X12_back : Cond.instanceMethod yX12_back ∈ gs_tbl := gs_t 1850 (by decide +kernel) (by decide +kernel)
theorem se_11_RX12_X12_back : Cond.selects RX12 yX12_back yX12_back ∈ gs_tbl := gs_t 1851 (by decide +kernel) (by decide +kernel)
theorem ml_L_163 : Cond.methodLink "GrainShiftLaw" 163 yX11_trim ∈ gs_tbl := gs_t 906 (by decide +kernel) (by decide +kernel)
theorem im_X11_trim : Cond.instanceMethod yX11_trim ∈ gs_tbl := gs_t 907 (by decide +kernel) (by decide +kernel)
theorem se_10_RX11_X11_trim : Cond.selects RX11 yX11_trim yX11_trim ∈ gs_tbl := gs_t 908 (by decide +kernel) (by decide +kernel)
theorem ml_L_166 : Cond.methodLink "GrainShiftLaw" 166 yX12_trim ∈ gs_tbl := gs_t 1757 (by decide +kernel) (by decide +kernel)
theorem im_X12_trim : Cond.instanceMethod yX12_trim ∈ gs_tbl := gs_t 1758 (by decide +kernel) (by decide +kernel)
theorem se_11_RX12_X12_trim : Cond.selects RX12 yX12_trim yX12_trim ∈ gs_tbl := gs_t 1759 (by decide +kernel) (by decide +kernel)
theorem ml_L_167 : Cond.methodLink "GrainShiftLaw" 167 yX11_pour ∈ gs_tbl := gs_t 914 (by decide +kernel) (by decide +kernel)
theorem im_X11_pour : Cond.instanceMethod yX11_pour ∈ gs_tbl := gs_t 915 (by decide +kernel) (by decide +kernel)
theorem se_10_RX11_X11_pour : Cond.selects RX11 yX11_pour yX11_pour ∈ gs_tbl := gs_t 916 (by decide +kernel) (by decide +kernel)
theorem ml_L_170 : Cond.methodLink "GrainShiftLaw" 170 yX12_pour ∈ gs_tbl := gs_t 1765 (by decide +kernel) (by decide +kernel)
theorem im_X12_pour : Cond.instanceMethod yX12_pour ∈ gs_tbl := gs_t 1766 (by decide +kernel) (by decide +kernel)
theorem se_11_RX12_X12_pour : Cond.selects RX12 yX12_pour yX12_pour ∈ gs_tbl := gs_t 1767 (by decide +kernel) (by decide +kernel)
theorem ml_L_171 : Cond.methodLink "GrainShiftLaw" 171 yX11_take ∈ gs_tbl := gs_t 921 (by decide +kernel) (by decide +kernel)
theorem im_X11_take : Cond.instanceMethod yX11_take ∈ gs_tbl := gs_t 922 (by decide +kernel) (by decide +kernel)
theorem se_10_RX11_X11_take : Cond.selects RX11 yX11_take yX11_take ∈ gs_tbl := gs_t 923 (by decide +kernel) (by decide +kernel)
theorem ml_L_174 : Cond.methodLink "GrainShiftLaw" 174 yX12_take ∈ gs_tbl := gs_t 1773 (by decide +kernel) (by decide +kernel)
theorem im_X12_take : Cond.instanceMethod yX12_take ∈ gs_tbl := gs_t 1774 (by decide +kernel) (by decide +kernel)
theorem se_11_RX12_X12_take : Cond.selects RX12 yX12_take yX12_take ∈ gs_tbl := gs_t 1775 (by decide +kernel) (by decide +kernel)
theorem ml_L_175 : Cond.methodLink "GrainShiftLaw" 175 yX11_heel ∈ gs_tbl := gs_t 926 (by decide +kernel) (by decide +kernel)
theorem im_X11_heel : Cond.instanceMethod yX11_heel ∈ gs_tbl := gs_t 927 (by decide +kernel) (by decide +kernel)
theorem se_10_RX11_X11_heel : Cond.selects RX11 yX11_heel yX11_heel ∈ gs_tbl := gs_t 928 (by decide +kernel) (by decide +kernel)
theorem ml_L_178 : Cond.methodLink "GrainShiftLaw" 178 yX12_heel ∈ gs_tbl := gs_t 1777 (by decide +kernel) (by decide +kernel)
theorem im_X12_heel : Cond.instanceMethod yX12_heel ∈ gs_tbl := gs_t 1778 (by decide +kernel) (by decide +kernel)
theorem se_11_RX12_X12_heel : Cond.selects RX12 yX12_heel yX12_heel ∈ gs_tbl := gs_t 1779 (by decide +kernel) (by decide +kernel)
theorem ml_L_179 : Cond.methodLink "GrainShiftLaw" 179 yX11_tilt ∈ gs_tbl := gs_t 934 (by decide +kernel) (by decide +kernel)
theorem im_X11_tilt : Cond.instanceMethod yX11_tilt ∈ gs_tbl := gs_t 935 (by decide +kernel) (by decide +kernel)
theorem se_10_RX11_X11_tilt : Cond.selects RX11 yX11_tilt yX11_tilt ∈ gs_tbl := gs_t 936 (by decide +kernel) (by decide +kernel)
theorem ml_L_182 : Cond.methodLink "GrainShiftLaw" 182 yX12_tilt ∈ gs_tbl := gs_t 1781 (by decide +kernel) (by decide +kernel)
theorem im_X12_tilt : Cond.instanceMethod yX12_tilt ∈ gs_tbl := gs_t 1782 (by decide +kernel) (by decide +kernel)
theorem se_11_RX12_X12_tilt : Cond.selects RX12 yX12_tilt yX12_tilt ∈ gs_tbl := gs_t 1783 (by decide +kernel) (by decide +kernel)
theorem ml_L_183 : Cond.methodLink "GrainShiftLaw" 183 yX11_ripens ∈ gs_tbl := gs_t 938 (by decide +kernel) (by decide +kernel)
theorem im_X11_ripens : Cond.instanceMethod yX11_ripens ∈ gs_tbl := gs_t 939 (by decide +kernel) (by decide +kernel)
theorem se_10_RX11_X11_ripens : Cond.selects RX11 yX11_ripens yX11_ripens ∈ gs_tbl := gs_t 940 (by decide +kernel) (by decide +kernel)
theorem ml_L_186 : Cond.methodLink "GrainShiftLaw" 186 yX12_ripens ∈ gs_tbl := gs_t 1785 (by decide +kernel) (by decide +kernel)
theorem im_X12_ripens : Cond.instanceMethod yX12_ripens ∈ gs_tbl := gs_t 1786 (by decide +kernel) (by decide +kernel)
theorem se_11_RX12_X12_ripens : Cond.selects RX12 yX12_ripens yX12_ripens ∈ gs_tbl := gs_t 1787 (by decide +kernel) (by decide +kernel)
theorem ml_L_187 : Cond.methodLink "GrainShiftLaw" 187 yX11_slide ∈ gs_tbl := gs_t 942 (by decide +kernel) (by decide +kernel)
theorem im_X11_slide : Cond.instanceMethod yX11_slide ∈ gs_tbl := gs_t 943 (by decide +kernel) (by decide +kernel)
theorem se_10_RX11_X11_slide : Cond.selects RX11 yX11_slide yX11_slide ∈ gs_tbl := gs_t 944 (by decide +kernel) (by decide +kernel)
theorem ml_L_190 : Cond.methodLink "GrainShiftLaw" 190 yX12_slide ∈ gs_tbl := gs_t 1789 (by decide +kernel) (by decide +kernel)
theorem im_X12_slide : Cond.instanceMethod yX12_slide ∈ gs_tbl := gs_t 1790 (by decide +kernel) (by decide +kernel)
theorem se_11_RX12_X12_slide : Cond.selects RX12 yX12_slide yX12_slide ∈ gs_tbl := gs_t 1791 (by decide +kernel) (by decide +kernel)
theorem ml_L_191 : Cond.methodLink "GrainShiftLaw" 191 yX11_port ∈ gs_tbl := gs_t 946 (by decide +kernel) (by decide +kernel)
theorem im_X11_port : Cond.instanceMethod yX11_port ∈ gs_tbl := gs_t 947 (by decide +kernel) (by decide +kernel)
theorem se_10_RX11_X11_port : Cond.selects RX11 yX11_port yX11_port ∈ gs_tbl := gs_t 948 (by decide +kernel) (by decide +kernel)
theorem ml_L_194 : Cond.methodLink "GrainShiftLaw" 194 yX12_port ∈ gs_tbl := gs_t 1793 (by decide +kernel) (by decide +kernel)
theorem im_X12_port : Cond.instanceMethod yX12_port ∈ gs_tbl := gs_t 1794 (by decide +kernel) (by decide +kernel)
theorem se_11_RX12_X12_port : Cond.selects RX12 yX12_port yX12_port ∈ gs_tbl := gs_t 1795 (by decide +kernel) (by decide +kernel)
theorem ml_L_195 : Cond.methodLink "GrainShiftLaw" 195 yX11_reach ∈ gs_tbl := gs_t 950 (by decide +kernel) (by decide +kernel)
theorem im_X11_reach : Cond.instanceMethod yX11_reach ∈ gs_tbl := gs_t 951 (by decide +kernel) (by decide +kernel)
theorem se_10_RX11_X11_reach : Cond.selects RX11 yX11_reach yX11_reach ∈ gs_tbl := gs_t 952 (by decide +kernel) (by decide +kernel)
theorem ml_L_198 : Cond.methodLink "GrainShiftLaw" 198 yX12_reach ∈ gs_tbl := gs_t 1797 (by decide +kernel) (by decide +kernel)
theorem im_X12_reach : Cond.instanceMethod yX12_reach ∈ gs_tbl := gs_t 1798 (by decide +kernel) (by decide +kernel)
theorem se_11_RX12_X12_reach : Cond.selects RX12 yX12_reach yX12_reach ∈ gs_tbl := gs_t 1799 (by decide +kernel) (by decide +kernel)
theorem ml_L_199 : Cond.methodLink "GrainShiftLaw" 199 yX11_over ∈ gs_tbl := gs_t 962 (by decide +kernel) (by decide +kernel)
theorem im_X11_over : Cond.instanceMethod yX11_over ∈ gs_tbl := gs_t 963 (by decide +kernel) (by decide +kernel)
theorem se_10_RX11_X11_over : Cond.selects RX11 yX11_over yX11_over ∈ gs_tbl := gs_t 964 (by decide +kernel) (by decide +kernel)
theorem ml_L_202 : Cond.methodLink "GrainShiftLaw" 202 yX12_over ∈ gs_tbl := gs_t 1805 (by decide +kernel) (by decide +kernel)
theorem im_X12_over : Cond.instanceMethod yX12_over ∈ gs_tbl := gs_t 1806 (by decide +kernel) (by decide +kernel)
theorem se_11_RX12_X12_over : Cond.selects RX12 yX12_over yX12_over ∈ gs_tbl := gs_t 1807 (by decide +kernel) (by decide +kernel)
theorem ml_L_203 : Cond.methodLink "GrainShiftLaw" 203 yX11_soonest ∈ gs_tbl := gs_t 967 (by decide +kernel) (by decide +kernel)
theorem im_X11_soonest : Cond.instanceMethod yX11_soonest ∈ gs_tbl := gs_t 968 (by decide +kernel) (by decide +kernel)
theorem se_10_RX11_X11_soonest : Cond.selects RX11 yX11_soonest yX11_soonest ∈ gs_tbl := gs_t 969 (by decide +kernel) (by decide +kernel)
theorem ml_L_206 : Cond.methodLink "GrainShiftLaw" 206 yX12_soonest ∈ gs_tbl := gs_t 1809 (by decide +kernel) (by decide +kernel)
theorem im_X12_soonest : Cond.instanceMethod yX12_soonest ∈ gs_tbl := gs_t 1810 (by decide +kernel) (by decide +kernel)
theorem se_11_RX12_X12_soonest : Cond.selects RX12 yX12_soonest yX12_soonest ∈ gs_tbl := gs_t 1811 (by decide +kernel) (by decide +kernel)
theorem ml_L_207 : Cond.methodLink "GrainShiftLaw" 207 yX11_book ∈ gs_tbl := gs_t 971 (by decide +kernel) (by decide +kernel)
theorem im_X11_book : Cond.instanceMethod yX11_book ∈ gs_tbl := gs_t 972 (by decide +kernel) (by decide +kernel)
theorem se_10_RX11_X11_book : Cond.selects RX11 yX11_book yX11_book ∈ gs_tbl := gs_t 973 (by decide +kernel) (by decide +kernel)
theorem ml_L_210 : Cond.methodLink "GrainShiftLaw" 210 yX12_book ∈ gs_tbl := gs_t 1813 (by decide +kernel) (by decide +kernel)
theorem im_X12_book : Cond.instanceMethod yX12_book ∈ gs_tbl := gs_t 1814 (by decide +kernel) (by decide +kernel)
theorem se_11_RX12_X12_book : Cond.selects RX12 yX12_book yX12_book ∈ gs_tbl := gs_t 1815 (by decide +kernel) (by decide +kernel)
theorem ml_L_211 : Cond.methodLink "GrainShiftLaw" 211 yX11_follow ∈ gs_tbl := gs_t 983 (by decide +kernel) (by decide +kernel)
theorem im_X11_follow : Cond.instanceMethod yX11_follow ∈ gs_tbl := gs_t 984 (by decide +kernel) (by decide +kernel)
theorem se_10_RX11_X11_follow : Cond.selects RX11 yX11_follow yX11_follow ∈ gs_tbl := gs_t 985 (by decide +kernel) (by decide +kernel)
theorem ml_L_214 : Cond.methodLink "GrainShiftLaw" 214 yX12_follow ∈ gs_tbl := gs_t 1821 (by decide +kernel) (by decide +kernel)
theorem im_X12_follow : Cond.instanceMethod yX12_follow ∈ gs_tbl := gs_t 1822 (by decide +kernel) (by decide +kernel)
theorem se_11_RX12_X12_follow : Cond.selects RX12 yX12_follow yX12_follow ∈ gs_tbl := gs_t 1823 (by decide +kernel) (by decide +kernel)
theorem ml_L_215 : Cond.methodLink "GrainShiftLaw" 215 yX11_better ∈ gs_tbl := gs_t 1026 (by decide +kernel) (by decide +kernel)
theorem im_X11_better : Cond.instanceMethod yX11_better ∈ gs_tbl := gs_t 1027 (by decide +kernel) (by decide +kernel)
theorem se_10_RX11_X11_better : Cond.selects RX11 yX11_better yX11_better ∈ gs_tbl := gs_t 1028 (by decide +kernel) (by decide +kernel)
theorem ml_L_218 : Cond.methodLink "GrainShiftLaw" 218 yX12_better ∈ gs_tbl := gs_t 1837 (by decide +kernel) (by decide +kernel)
theorem im_X12_better : Cond.instanceMethod yX12_better ∈ gs_tbl := gs_t 1838 (by decide +kernel) (by decide +kernel)
theorem se_11_RX12_X12_better : Cond.selects RX12 yX12_better yX12_better ∈ gs_tbl := gs_t 1839 (by decide +kernel) (by decide +kernel)
theorem ml_L_219 : Cond.methodLink "GrainShiftLaw" 219 yX11_rules ∈ gs_tbl := gs_t 1034 (by decide +kernel) (by decide +kernel)
theorem im_X11_rules : Cond.instanceMethod yX11_rules ∈ gs_tbl := gs_t 1035 (by decide +kernel) (by decide +kernel)
theorem se_10_RX11_X11_rules : Cond.selects RX11 yX11_rules yX11_rules ∈ gs_tbl := gs_t 1036 (by decide +kernel) (by decide +kernel)
theorem ml_L_222 : Cond.methodLink "GrainShiftLaw" 222 yX12_rules ∈ gs_tbl := gs_t 1841 (by decide +kernel) (by decide +kernel)
theorem im_X12_rules : Cond.instanceMethod yX12_rules ∈ gs_tbl := gs_t 1842 (by decide +kernel) (by decide +kernel)
theorem se_11_RX12_X12_rules : Cond.selects RX12 yX12_rules yX12_rules ∈ gs_tbl := gs_t 1843 (by decide +kernel) (by decide +kernel)
theorem ml_L_223 : Cond.methodLink "GrainShiftLaw" 223 yX11_count ∈ gs_tbl := gs_t 1038 (by decide +kernel) (by decide +kernel)
theorem im_X11_count : Cond.instanceMethod yX11_count ∈ gs_tbl := gs_t 1039 (by decide +kernel) (by decide +kernel)
theorem se_10_RX11_X11_count : Cond.selects RX11 yX11_count yX11_count ∈ gs_tbl := gs_t 1040 (by decide +kernel) (by decide +kernel)
theorem ml_L_226 : Cond.methodLink "GrainShiftLaw" 226 yX12_count ∈ gs_tbl := gs_t 1853 (by decide +kernel) (by decide +kernel)
theorem im_X12_count : Cond.instanceMethod yX12_count ∈ gs_tbl := gs_t 1854 (by decide +kernel) (by decide +kernel)
theorem se_11_RX12_X12_count : Cond.selects RX12 yX12_count yX12_count ∈ gs_tbl := gs_t 1855 (by decide +kernel) (by decide +kernel)
theorem d_law_0 : gd code 0 (.new 8) 3 3 := ⟨by decide +kernel, rfl⟩
theorem d_law_3 : gd code 3 .dup 1 4 := ⟨by decide +kernel, rfl⟩
theorem d_law_4 : gd code 4 (.invokespecial 15) 3 7 := ⟨by decide +kernel, rfl⟩
theorem d_law_7 : gd code 7 (.astore_n 1) 1 8 := ⟨by decide +kernel, rfl⟩
theorem d_law_8 : gd code 8 (.new 16) 3 11 := ⟨by decide +kernel, rfl⟩
theorem d_law_11 : gd code 11 .dup 1 12 := ⟨by decide +kernel, rfl⟩
theorem d_law_12 : gd code 12 (.invokespecial 18) 3 15 := ⟨by decide +kernel, rfl⟩
theorem d_law_15 : gd code 15 (.astore_n 2) 1 16 := ⟨by decide +kernel, rfl⟩
theorem d_law_16 : gd code 16 (.iconst 1) 1 17 := ⟨by decide +kernel, rfl⟩
theorem d_law_17 : gd code 17 (.newarray .long) 2 19 := ⟨by decide +kernel, rfl⟩
theorem d_law_19 : gd code 19 (.astore_n 3) 1 20 := ⟨by decide +kernel, rfl⟩
theorem d_law_20 : gd code 20 (.iconst 0) 1 21 := ⟨by decide +kernel, rfl⟩
theorem d_law_21 : gd code 21 (.istore 4) 2 23 := ⟨by decide +kernel, rfl⟩
theorem d_law_23 : gd code 23 (.iload 4) 2 25 := ⟨by decide +kernel, rfl⟩
theorem d_law_25 : gd code 25 (.aload_n 0) 1 26 := ⟨by decide +kernel, rfl⟩
theorem d_law_26 : gd code 26 .arraylength 1 27 := ⟨by decide +kernel, rfl⟩
theorem d_law_27 : gd code 27 (.bipush 8) 2 29 := ⟨by decide +kernel, rfl⟩
theorem d_law_29 : gd code 29 .isub 1 30 := ⟨by decide +kernel, rfl⟩
theorem d_law_30 : gd code 30 (.if_icmp .gt 2163) 3 33 := ⟨by decide +kernel, rfl⟩
theorem d_law_33 : gd code 33 (.aload_n 0) 1 34 := ⟨by decide +kernel, rfl⟩
theorem d_law_34 : gd code 34 (.iload 4) 2 36 := ⟨by decide +kernel, rfl⟩
theorem d_law_36 : gd code 36 .iaload 1 37 := ⟨by decide +kernel, rfl⟩
theorem d_law_37 : gd code 37 (.bipush 63) 2 39 := ⟨by decide +kernel, rfl⟩
theorem d_law_39 : gd code 39 .iand 1 40 := ⟨by decide +kernel, rfl⟩
theorem d_law_40 : gd code 40 (.tableswitch 2147 0 47 #[208, 281, 306, 331, 356, 424, 473, 522, 559, 640, 665, 690, 739, 776, 801, 838, 851, 888, 913, 950, 975, 1012, 1085, 1158, 1259, 1284, 1333, 1358, 1395, 1432, 1493, 1506, 1519, 1556, 1605, 1654, 1679, 1728, 1765, 1802, 1839, 1876, 1937, 1962, 1987, 2060, 2109, 2122]) 208 248 := ⟨by decide +kernel, rfl⟩
theorem d_law_248 : gd code 248 (.aload_n 1) 1 249 := ⟨by decide +kernel, rfl⟩
theorem d_law_249 : gd code 249 (.aload_n 0) 1 250 := ⟨by decide +kernel, rfl⟩
theorem d_law_250 : gd code 250 (.iload 4) 2 252 := ⟨by decide +kernel, rfl⟩
theorem d_law_252 : gd code 252 (.iconst 1) 1 253 := ⟨by decide +kernel, rfl⟩
theorem d_law_253 : gd code 253 .iadd 1 254 := ⟨by decide +kernel, rfl⟩
theorem d_law_254 : gd code 254 .iaload 1 255 := ⟨by decide +kernel, rfl⟩
theorem d_law_255 : gd code 255 (.aload_n 0) 1 256 := ⟨by decide +kernel, rfl⟩
theorem d_law_256 : gd code 256 (.iload 4) 2 258 := ⟨by decide +kernel, rfl⟩
theorem d_law_258 : gd code 258 (.iconst 2) 1 259 := ⟨by decide +kernel, rfl⟩
theorem d_law_259 : gd code 259 .iadd 1 260 := ⟨by decide +kernel, rfl⟩
theorem d_law_260 : gd code 260 .iaload 1 261 := ⟨by decide +kernel, rfl⟩
theorem d_law_261 : gd code 261 (.aload_n 0) 1 262 := ⟨by decide +kernel, rfl⟩
theorem d_law_262 : gd code 262 (.iload 4) 2 264 := ⟨by decide +kernel, rfl⟩
theorem d_law_264 : gd code 264 (.iconst 3) 1 265 := ⟨by decide +kernel, rfl⟩
theorem d_law_265 : gd code 265 .iadd 1 266 := ⟨by decide +kernel, rfl⟩
theorem d_law_266 : gd code 266 .iaload 1 267 := ⟨by decide +kernel, rfl⟩
theorem d_law_267 : gd code 267 (.aload_n 0) 1 268 := ⟨by decide +kernel, rfl⟩
theorem d_law_268 : gd code 268 (.iload 4) 2 270 := ⟨by decide +kernel, rfl⟩
theorem d_law_270 : gd code 270 (.iconst 4) 1 271 := ⟨by decide +kernel, rfl⟩
theorem d_law_271 : gd code 271 .iadd 1 272 := ⟨by decide +kernel, rfl⟩
theorem d_law_272 : gd code 272 .iaload 1 273 := ⟨by decide +kernel, rfl⟩
theorem d_law_273 : gd code 273 (.aload_n 0) 1 274 := ⟨by decide +kernel, rfl⟩
theorem d_law_274 : gd code 274 (.iload 4) 2 276 := ⟨by decide +kernel, rfl⟩
theorem d_law_276 : gd code 276 (.iconst 5) 1 277 := ⟨by decide +kernel, rfl⟩
theorem d_law_277 : gd code 277 .iadd 1 278 := ⟨by decide +kernel, rfl⟩
theorem d_law_278 : gd code 278 .iaload 1 279 := ⟨by decide +kernel, rfl⟩
theorem d_law_279 : gd code 279 (.invokevirtual 19) 3 282 := ⟨by decide +kernel, rfl⟩
theorem d_law_282 : gd code 282 (.aload_n 2) 1 283 := ⟨by decide +kernel, rfl⟩
theorem d_law_283 : gd code 283 (.aload_n 0) 1 284 := ⟨by decide +kernel, rfl⟩
theorem d_law_284 : gd code 284 (.iload 4) 2 286 := ⟨by decide +kernel, rfl⟩
theorem d_law_286 : gd code 286 (.iconst 1) 1 287 := ⟨by decide +kernel, rfl⟩
theorem d_law_287 : gd code 287 .iadd 1 288 := ⟨by decide +kernel, rfl⟩
theorem d_law_288 : gd code 288 .iaload 1 289 := ⟨by decide +kernel, rfl⟩
theorem d_law_289 : gd code 289 (.aload_n 0) 1 290 := ⟨by decide +kernel, rfl⟩
theorem d_law_290 : gd code 290 (.iload 4) 2 292 := ⟨by decide +kernel, rfl⟩
theorem d_law_292 : gd code 292 (.iconst 2) 1 293 := ⟨by decide +kernel, rfl⟩
theorem d_law_293 : gd code 293 .iadd 1 294 := ⟨by decide +kernel, rfl⟩
theorem d_law_294 : gd code 294 .iaload 1 295 := ⟨by decide +kernel, rfl⟩
theorem d_law_295 : gd code 295 (.aload_n 0) 1 296 := ⟨by decide +kernel, rfl⟩
theorem d_law_296 : gd code 296 (.iload 4) 2 298 := ⟨by decide +kernel, rfl⟩
theorem d_law_298 : gd code 298 (.iconst 3) 1 299 := ⟨by decide +kernel, rfl⟩
theorem d_law_299 : gd code 299 .iadd 1 300 := ⟨by decide +kernel, rfl⟩
theorem d_law_300 : gd code 300 .iaload 1 301 := ⟨by decide +kernel, rfl⟩
theorem d_law_301 : gd code 301 (.aload_n 0) 1 302 := ⟨by decide +kernel, rfl⟩
theorem d_law_302 : gd code 302 (.iload 4) 2 304 := ⟨by decide +kernel, rfl⟩
theorem d_law_304 : gd code 304 (.iconst 4) 1 305 := ⟨by decide +kernel, rfl⟩
theorem d_law_305 : gd code 305 .iadd 1 306 := ⟨by decide +kernel, rfl⟩
theorem d_law_306 : gd code 306 .iaload 1 307 := ⟨by decide +kernel, rfl⟩
theorem d_law_307 : gd code 307 (.aload_n 0) 1 308 := ⟨by decide +kernel, rfl⟩
theorem d_law_308 : gd code 308 (.iload 4) 2 310 := ⟨by decide +kernel, rfl⟩
theorem d_law_310 : gd code 310 (.iconst 5) 1 311 := ⟨by decide +kernel, rfl⟩
theorem d_law_311 : gd code 311 .iadd 1 312 := ⟨by decide +kernel, rfl⟩
theorem d_law_312 : gd code 312 .iaload 1 313 := ⟨by decide +kernel, rfl⟩
theorem d_law_313 : gd code 313 (.invokevirtual 23) 3 316 := ⟨by decide +kernel, rfl⟩
theorem d_law_316 : gd code 316 (.if_icmp .eq 1871) 3 319 := ⟨by decide +kernel, rfl⟩
theorem d_law_319 : gd code 319 (.iconst 0) 1 320 := ⟨by decide +kernel, rfl⟩
theorem d_law_320 : gd code 320 .ireturn 1 321 := ⟨by decide +kernel, rfl⟩
theorem d_law_321 : gd code 321 (.aload_n 1) 1 322 := ⟨by decide +kernel, rfl⟩
theorem d_law_322 : gd code 322 (.aload_n 0) 1 323 := ⟨by decide +kernel, rfl⟩
theorem d_law_323 : gd code 323 (.iload 4) 2 325 := ⟨by decide +kernel, rfl⟩
theorem d_law_325 : gd code 325 (.iconst 1) 1 326 := ⟨by decide +kernel, rfl⟩
theorem d_law_326 : gd code 326 .iadd 1 327 := ⟨by decide +kernel, rfl⟩
theorem d_law_327 : gd code 327 .iaload 1 328 := ⟨by decide +kernel, rfl⟩
theorem d_law_328 : gd code 328 (.invokevirtual 24) 3 331 := ⟨by decide +kernel, rfl⟩
theorem d_law_331 : gd code 331 (.aload_n 2) 1 332 := ⟨by decide +kernel, rfl⟩
theorem d_law_332 : gd code 332 (.aload_n 0) 1 333 := ⟨by decide +kernel, rfl⟩
theorem d_law_333 : gd code 333 (.iload 4) 2 335 := ⟨by decide +kernel, rfl⟩
theorem d_law_335 : gd code 335 (.iconst 1) 1 336 := ⟨by decide +kernel, rfl⟩
theorem d_law_336 : gd code 336 .iadd 1 337 := ⟨by decide +kernel, rfl⟩
theorem d_law_337 : gd code 337 .iaload 1 338 := ⟨by decide +kernel, rfl⟩
theorem d_law_338 : gd code 338 (.invokevirtual 28) 3 341 := ⟨by decide +kernel, rfl⟩
theorem d_law_341 : gd code 341 (.if_icmp .eq 1846) 3 344 := ⟨by decide +kernel, rfl⟩
theorem d_law_344 : gd code 344 (.iconst 0) 1 345 := ⟨by decide +kernel, rfl⟩
theorem d_law_345 : gd code 345 .ireturn 1 346 := ⟨by decide +kernel, rfl⟩
theorem d_law_346 : gd code 346 (.aload_n 1) 1 347 := ⟨by decide +kernel, rfl⟩
theorem d_law_347 : gd code 347 (.aload_n 0) 1 348 := ⟨by decide +kernel, rfl⟩
theorem d_law_348 : gd code 348 (.iload 4) 2 350 := ⟨by decide +kernel, rfl⟩
theorem d_law_350 : gd code 350 (.iconst 1) 1 351 := ⟨by decide +kernel, rfl⟩
theorem d_law_351 : gd code 351 .iadd 1 352 := ⟨by decide +kernel, rfl⟩
theorem d_law_352 : gd code 352 .iaload 1 353 := ⟨by decide +kernel, rfl⟩
theorem d_law_353 : gd code 353 (.invokevirtual 29) 3 356 := ⟨by decide +kernel, rfl⟩
theorem d_law_356 : gd code 356 (.aload_n 2) 1 357 := ⟨by decide +kernel, rfl⟩
theorem d_law_357 : gd code 357 (.aload_n 0) 1 358 := ⟨by decide +kernel, rfl⟩
theorem d_law_358 : gd code 358 (.iload 4) 2 360 := ⟨by decide +kernel, rfl⟩
theorem d_law_360 : gd code 360 (.iconst 1) 1 361 := ⟨by decide +kernel, rfl⟩
theorem d_law_361 : gd code 361 .iadd 1 362 := ⟨by decide +kernel, rfl⟩
theorem d_law_362 : gd code 362 .iaload 1 363 := ⟨by decide +kernel, rfl⟩
theorem d_law_363 : gd code 363 (.invokevirtual 33) 3 366 := ⟨by decide +kernel, rfl⟩
theorem d_law_366 : gd code 366 (.if_icmp .eq 1821) 3 369 := ⟨by decide +kernel, rfl⟩
theorem d_law_369 : gd code 369 (.iconst 0) 1 370 := ⟨by decide +kernel, rfl⟩
theorem d_law_370 : gd code 370 .ireturn 1 371 := ⟨by decide +kernel, rfl⟩
theorem d_law_371 : gd code 371 (.aload_n 1) 1 372 := ⟨by decide +kernel, rfl⟩
theorem d_law_372 : gd code 372 (.aload_n 0) 1 373 := ⟨by decide +kernel, rfl⟩
theorem d_law_373 : gd code 373 (.iload 4) 2 375 := ⟨by decide +kernel, rfl⟩
theorem d_law_375 : gd code 375 (.iconst 1) 1 376 := ⟨by decide +kernel, rfl⟩
theorem d_law_376 : gd code 376 .iadd 1 377 := ⟨by decide +kernel, rfl⟩
theorem d_law_377 : gd code 377 .iaload 1 378 := ⟨by decide +kernel, rfl⟩
theorem d_law_378 : gd code 378 (.invokevirtual 34) 3 381 := ⟨by decide +kernel, rfl⟩
theorem d_law_381 : gd code 381 (.aload_n 2) 1 382 := ⟨by decide +kernel, rfl⟩
theorem d_law_382 : gd code 382 (.aload_n 0) 1 383 := ⟨by decide +kernel, rfl⟩
theorem d_law_383 : gd code 383 (.iload 4) 2 385 := ⟨by decide +kernel, rfl⟩
theorem d_law_385 : gd code 385 (.iconst 1) 1 386 := ⟨by decide +kernel, rfl⟩
theorem d_law_386 : gd code 386 .iadd 1 387 := ⟨by decide +kernel, rfl⟩
theorem d_law_387 : gd code 387 .iaload 1 388 := ⟨by decide +kernel, rfl⟩
theorem d_law_388 : gd code 388 (.invokevirtual 37) 3 391 := ⟨by decide +kernel, rfl⟩
theorem d_law_391 : gd code 391 (.if_icmp .eq 1796) 3 394 := ⟨by decide +kernel, rfl⟩
theorem d_law_394 : gd code 394 (.iconst 0) 1 395 := ⟨by decide +kernel, rfl⟩
theorem d_law_395 : gd code 395 .ireturn 1 396 := ⟨by decide +kernel, rfl⟩
theorem d_law_396 : gd code 396 (.aload_n 1) 1 397 := ⟨by decide +kernel, rfl⟩
theorem d_law_397 : gd code 397 (.aload_n 0) 1 398 := ⟨by decide +kernel, rfl⟩
theorem d_law_398 : gd code 398 (.iload 4) 2 400 := ⟨by decide +kernel, rfl⟩
theorem d_law_400 : gd code 400 (.iconst 1) 1 401 := ⟨by decide +kernel, rfl⟩
theorem d_law_401 : gd code 401 .iadd 1 402 := ⟨by decide +kernel, rfl⟩
theorem d_law_402 : gd code 402 .iaload 1 403 := ⟨by decide +kernel, rfl⟩
theorem d_law_403 : gd code 403 (.aload_n 0) 1 404 := ⟨by decide +kernel, rfl⟩
theorem d_law_404 : gd code 404 (.iload 4) 2 406 := ⟨by decide +kernel, rfl⟩
theorem d_law_406 : gd code 406 (.iconst 2) 1 407 := ⟨by decide +kernel, rfl⟩
theorem d_law_407 : gd code 407 .iadd 1 408 := ⟨by decide +kernel, rfl⟩
theorem d_law_408 : gd code 408 .iaload 1 409 := ⟨by decide +kernel, rfl⟩
theorem d_law_409 : gd code 409 (.aload_n 3) 1 410 := ⟨by decide +kernel, rfl⟩
theorem d_law_410 : gd code 410 (.invokestatic 38) 3 413 := ⟨by decide +kernel, rfl⟩
theorem d_law_413 : gd code 413 (.istore 5) 2 415 := ⟨by decide +kernel, rfl⟩
theorem d_law_415 : gd code 415 (.aload_n 2) 1 416 := ⟨by decide +kernel, rfl⟩
theorem d_law_416 : gd code 416 (.aload_n 0) 1 417 := ⟨by decide +kernel, rfl⟩
theorem d_law_417 : gd code 417 (.iload 4) 2 419 := ⟨by decide +kernel, rfl⟩
theorem d_law_419 : gd code 419 (.iconst 1) 1 420 := ⟨by decide +kernel, rfl⟩
theorem d_law_420 : gd code 420 .iadd 1 421 := ⟨by decide +kernel, rfl⟩
theorem d_law_421 : gd code 421 .iaload 1 422 := ⟨by decide +kernel, rfl⟩
theorem d_law_422 : gd code 422 (.aload_n 0) 1 423 := ⟨by decide +kernel, rfl⟩
theorem d_law_423 : gd code 423 (.iload 4) 2 425 := ⟨by decide +kernel, rfl⟩
theorem d_law_425 : gd code 425 (.iconst 2) 1 426 := ⟨by decide +kernel, rfl⟩
theorem d_law_426 : gd code 426 .iadd 1 427 := ⟨by decide +kernel, rfl⟩
theorem d_law_427 : gd code 427 .iaload 1 428 := ⟨by decide +kernel, rfl⟩
theorem d_law_428 : gd code 428 (.invokevirtual 43) 3 431 := ⟨by decide +kernel, rfl⟩
theorem d_law_431 : gd code 431 (.istore 6) 2 433 := ⟨by decide +kernel, rfl⟩
theorem d_law_433 : gd code 433 (.aload_n 2) 1 434 := ⟨by decide +kernel, rfl⟩
theorem d_law_434 : gd code 434 (.invokevirtual 44) 3 437 := ⟨by decide +kernel, rfl⟩
theorem d_law_437 : gd code 437 (.iload 5) 2 439 := ⟨by decide +kernel, rfl⟩
theorem d_law_439 : gd code 439 (.if_icmp .eq 5) 3 442 := ⟨by decide +kernel, rfl⟩
theorem d_law_442 : gd code 442 (.iconst 0) 1 443 := ⟨by decide +kernel, rfl⟩
theorem d_law_443 : gd code 443 .ireturn 1 444 := ⟨by decide +kernel, rfl⟩
theorem d_law_444 : gd code 444 (.iload 5) 2 446 := ⟨by decide +kernel, rfl⟩
theorem d_law_446 : gd code 446 (.ifCond .ne 15) 3 449 := ⟨by decide +kernel, rfl⟩
theorem d_law_449 : gd code 449 (.aload_n 3) 1 450 := ⟨by decide +kernel, rfl⟩
theorem d_law_450 : gd code 450 (.iconst 0) 1 451 := ⟨by decide +kernel, rfl⟩
theorem d_law_451 : gd code 451 .laload 1 452 := ⟨by decide +kernel, rfl⟩
theorem d_law_452 : gd code 452 (.iload 6) 2 454 := ⟨by decide +kernel, rfl⟩
theorem d_law_454 : gd code 454 .i2l 1 455 := ⟨by decide +kernel, rfl⟩
theorem d_law_455 : gd code 455 .lcmp 1 456 := ⟨by decide +kernel, rfl⟩
theorem d_law_456 : gd code 456 (.ifCond .eq 5) 3 459 := ⟨by decide +kernel, rfl⟩
theorem d_law_459 : gd code 459 (.iconst 0) 1 460 := ⟨by decide +kernel, rfl⟩
theorem d_law_460 : gd code 460 .ireturn 1 461 := ⟨by decide +kernel, rfl⟩
theorem d_law_461 : gd code 461 (.goto 1726) 3 464 := ⟨by decide +kernel, rfl⟩
theorem d_law_464 : gd code 464 (.aload_n 1) 1 465 := ⟨by decide +kernel, rfl⟩
theorem d_law_465 : gd code 465 (.aload_n 0) 1 466 := ⟨by decide +kernel, rfl⟩
theorem d_law_466 : gd code 466 (.iload 4) 2 468 := ⟨by decide +kernel, rfl⟩
theorem d_law_468 : gd code 468 (.iconst 1) 1 469 := ⟨by decide +kernel, rfl⟩
theorem d_law_469 : gd code 469 .iadd 1 470 := ⟨by decide +kernel, rfl⟩
theorem d_law_470 : gd code 470 .iaload 1 471 := ⟨by decide +kernel, rfl⟩
theorem d_law_471 : gd code 471 (.aload_n 0) 1 472 := ⟨by decide +kernel, rfl⟩
theorem d_law_472 : gd code 472 (.iload 4) 2 474 := ⟨by decide +kernel, rfl⟩
theorem d_law_474 : gd code 474 (.iconst 2) 1 475 := ⟨by decide +kernel, rfl⟩
theorem d_law_475 : gd code 475 .iadd 1 476 := ⟨by decide +kernel, rfl⟩
theorem d_law_476 : gd code 476 .iaload 1 477 := ⟨by decide +kernel, rfl⟩
theorem d_law_477 : gd code 477 (.aload_n 0) 1 478 := ⟨by decide +kernel, rfl⟩
theorem d_law_478 : gd code 478 (.iload 4) 2 480 := ⟨by decide +kernel, rfl⟩
theorem d_law_480 : gd code 480 (.iconst 3) 1 481 := ⟨by decide +kernel, rfl⟩
theorem d_law_481 : gd code 481 .iadd 1 482 := ⟨by decide +kernel, rfl⟩
theorem d_law_482 : gd code 482 .iaload 1 483 := ⟨by decide +kernel, rfl⟩
theorem d_law_483 : gd code 483 (.invokevirtual 48) 3 486 := ⟨by decide +kernel, rfl⟩
theorem d_law_486 : gd code 486 (.aload_n 2) 1 487 := ⟨by decide +kernel, rfl⟩
theorem d_law_487 : gd code 487 (.aload_n 0) 1 488 := ⟨by decide +kernel, rfl⟩
theorem d_law_488 : gd code 488 (.iload 4) 2 490 := ⟨by decide +kernel, rfl⟩
theorem d_law_490 : gd code 490 (.iconst 1) 1 491 := ⟨by decide +kernel, rfl⟩
theorem d_law_491 : gd code 491 .iadd 1 492 := ⟨by decide +kernel, rfl⟩
theorem d_law_492 : gd code 492 .iaload 1 493 := ⟨by decide +kernel, rfl⟩
theorem d_law_493 : gd code 493 (.aload_n 0) 1 494 := ⟨by decide +kernel, rfl⟩
theorem d_law_494 : gd code 494 (.iload 4) 2 496 := ⟨by decide +kernel, rfl⟩
theorem d_law_496 : gd code 496 (.iconst 2) 1 497 := ⟨by decide +kernel, rfl⟩
theorem d_law_497 : gd code 497 .iadd 1 498 := ⟨by decide +kernel, rfl⟩
theorem d_law_498 : gd code 498 .iaload 1 499 := ⟨by decide +kernel, rfl⟩
theorem d_law_499 : gd code 499 (.aload_n 0) 1 500 := ⟨by decide +kernel, rfl⟩
theorem d_law_500 : gd code 500 (.iload 4) 2 502 := ⟨by decide +kernel, rfl⟩
theorem d_law_502 : gd code 502 (.iconst 3) 1 503 := ⟨by decide +kernel, rfl⟩
theorem d_law_503 : gd code 503 .iadd 1 504 := ⟨by decide +kernel, rfl⟩
theorem d_law_504 : gd code 504 .iaload 1 505 := ⟨by decide +kernel, rfl⟩
theorem d_law_505 : gd code 505 (.invokevirtual 52) 3 508 := ⟨by decide +kernel, rfl⟩
theorem d_law_508 : gd code 508 (.if_icmp .eq 1679) 3 511 := ⟨by decide +kernel, rfl⟩
theorem d_law_511 : gd code 511 (.iconst 0) 1 512 := ⟨by decide +kernel, rfl⟩
theorem d_law_512 : gd code 512 .ireturn 1 513 := ⟨by decide +kernel, rfl⟩
theorem d_law_513 : gd code 513 (.aload_n 1) 1 514 := ⟨by decide +kernel, rfl⟩
theorem d_law_514 : gd code 514 (.aload_n 0) 1 515 := ⟨by decide +kernel, rfl⟩
theorem d_law_515 : gd code 515 (.iload 4) 2 517 := ⟨by decide +kernel, rfl⟩
theorem d_law_517 : gd code 517 (.iconst 1) 1 518 := ⟨by decide +kernel, rfl⟩
theorem d_law_518 : gd code 518 .iadd 1 519 := ⟨by decide +kernel, rfl⟩
theorem d_law_519 : gd code 519 .iaload 1 520 := ⟨by decide +kernel, rfl⟩
theorem d_law_520 : gd code 520 (.aload_n 0) 1 521 := ⟨by decide +kernel, rfl⟩
theorem d_law_521 : gd code 521 (.iload 4) 2 523 := ⟨by decide +kernel, rfl⟩
theorem d_law_523 : gd code 523 (.iconst 2) 1 524 := ⟨by decide +kernel, rfl⟩
theorem d_law_524 : gd code 524 .iadd 1 525 := ⟨by decide +kernel, rfl⟩
theorem d_law_525 : gd code 525 .iaload 1 526 := ⟨by decide +kernel, rfl⟩
theorem d_law_526 : gd code 526 (.aload_n 0) 1 527 := ⟨by decide +kernel, rfl⟩
theorem d_law_527 : gd code 527 (.iload 4) 2 529 := ⟨by decide +kernel, rfl⟩
theorem d_law_529 : gd code 529 (.iconst 3) 1 530 := ⟨by decide +kernel, rfl⟩
theorem d_law_530 : gd code 530 .iadd 1 531 := ⟨by decide +kernel, rfl⟩
theorem d_law_531 : gd code 531 .iaload 1 532 := ⟨by decide +kernel, rfl⟩
theorem d_law_532 : gd code 532 (.invokevirtual 53) 3 535 := ⟨by decide +kernel, rfl⟩
theorem d_law_535 : gd code 535 (.aload_n 2) 1 536 := ⟨by decide +kernel, rfl⟩
theorem d_law_536 : gd code 536 (.aload_n 0) 1 537 := ⟨by decide +kernel, rfl⟩
theorem d_law_537 : gd code 537 (.iload 4) 2 539 := ⟨by decide +kernel, rfl⟩
theorem d_law_539 : gd code 539 (.iconst 1) 1 540 := ⟨by decide +kernel, rfl⟩
theorem d_law_540 : gd code 540 .iadd 1 541 := ⟨by decide +kernel, rfl⟩
theorem d_law_541 : gd code 541 .iaload 1 542 := ⟨by decide +kernel, rfl⟩
theorem d_law_542 : gd code 542 (.aload_n 0) 1 543 := ⟨by decide +kernel, rfl⟩
theorem d_law_543 : gd code 543 (.iload 4) 2 545 := ⟨by decide +kernel, rfl⟩
theorem d_law_545 : gd code 545 (.iconst 2) 1 546 := ⟨by decide +kernel, rfl⟩
theorem d_law_546 : gd code 546 .iadd 1 547 := ⟨by decide +kernel, rfl⟩
theorem d_law_547 : gd code 547 .iaload 1 548 := ⟨by decide +kernel, rfl⟩
theorem d_law_548 : gd code 548 (.aload_n 0) 1 549 := ⟨by decide +kernel, rfl⟩
theorem d_law_549 : gd code 549 (.iload 4) 2 551 := ⟨by decide +kernel, rfl⟩
theorem d_law_551 : gd code 551 (.iconst 3) 1 552 := ⟨by decide +kernel, rfl⟩
theorem d_law_552 : gd code 552 .iadd 1 553 := ⟨by decide +kernel, rfl⟩
theorem d_law_553 : gd code 553 .iaload 1 554 := ⟨by decide +kernel, rfl⟩
theorem d_law_554 : gd code 554 (.invokevirtual 56) 3 557 := ⟨by decide +kernel, rfl⟩
theorem d_law_557 : gd code 557 (.if_icmp .eq 1630) 3 560 := ⟨by decide +kernel, rfl⟩
theorem d_law_560 : gd code 560 (.iconst 0) 1 561 := ⟨by decide +kernel, rfl⟩
theorem d_law_561 : gd code 561 .ireturn 1 562 := ⟨by decide +kernel, rfl⟩
theorem d_law_562 : gd code 562 (.aload_n 1) 1 563 := ⟨by decide +kernel, rfl⟩
theorem d_law_563 : gd code 563 (.aload_n 0) 1 564 := ⟨by decide +kernel, rfl⟩
theorem d_law_564 : gd code 564 (.iload 4) 2 566 := ⟨by decide +kernel, rfl⟩
theorem d_law_566 : gd code 566 (.iconst 1) 1 567 := ⟨by decide +kernel, rfl⟩
theorem d_law_567 : gd code 567 .iadd 1 568 := ⟨by decide +kernel, rfl⟩
theorem d_law_568 : gd code 568 .iaload 1 569 := ⟨by decide +kernel, rfl⟩
theorem d_law_569 : gd code 569 (.aload_n 0) 1 570 := ⟨by decide +kernel, rfl⟩
theorem d_law_570 : gd code 570 (.iload 4) 2 572 := ⟨by decide +kernel, rfl⟩
theorem d_law_572 : gd code 572 (.iconst 2) 1 573 := ⟨by decide +kernel, rfl⟩
theorem d_law_573 : gd code 573 .iadd 1 574 := ⟨by decide +kernel, rfl⟩
theorem d_law_574 : gd code 574 .iaload 1 575 := ⟨by decide +kernel, rfl⟩
theorem d_law_575 : gd code 575 (.invokevirtual 57) 3 578 := ⟨by decide +kernel, rfl⟩
theorem d_law_578 : gd code 578 (.aload_n 2) 1 579 := ⟨by decide +kernel, rfl⟩
theorem d_law_579 : gd code 579 (.aload_n 0) 1 580 := ⟨by decide +kernel, rfl⟩
theorem d_law_580 : gd code 580 (.iload 4) 2 582 := ⟨by decide +kernel, rfl⟩
theorem d_law_582 : gd code 582 (.iconst 1) 1 583 := ⟨by decide +kernel, rfl⟩
theorem d_law_583 : gd code 583 .iadd 1 584 := ⟨by decide +kernel, rfl⟩
theorem d_law_584 : gd code 584 .iaload 1 585 := ⟨by decide +kernel, rfl⟩
theorem d_law_585 : gd code 585 (.aload_n 0) 1 586 := ⟨by decide +kernel, rfl⟩
theorem d_law_586 : gd code 586 (.iload 4) 2 588 := ⟨by decide +kernel, rfl⟩
theorem d_law_588 : gd code 588 (.iconst 2) 1 589 := ⟨by decide +kernel, rfl⟩
theorem d_law_589 : gd code 589 .iadd 1 590 := ⟨by decide +kernel, rfl⟩
theorem d_law_590 : gd code 590 .iaload 1 591 := ⟨by decide +kernel, rfl⟩
theorem d_law_591 : gd code 591 (.invokevirtual 61) 3 594 := ⟨by decide +kernel, rfl⟩
theorem d_law_594 : gd code 594 (.if_icmp .eq 1593) 3 597 := ⟨by decide +kernel, rfl⟩
theorem d_law_597 : gd code 597 (.iconst 0) 1 598 := ⟨by decide +kernel, rfl⟩
theorem d_law_598 : gd code 598 .ireturn 1 599 := ⟨by decide +kernel, rfl⟩
theorem d_law_599 : gd code 599 (.aload_n 1) 1 600 := ⟨by decide +kernel, rfl⟩
theorem d_law_600 : gd code 600 (.aload_n 0) 1 601 := ⟨by decide +kernel, rfl⟩
theorem d_law_601 : gd code 601 (.iload 4) 2 603 := ⟨by decide +kernel, rfl⟩
theorem d_law_603 : gd code 603 (.iconst 1) 1 604 := ⟨by decide +kernel, rfl⟩
theorem d_law_604 : gd code 604 .iadd 1 605 := ⟨by decide +kernel, rfl⟩
theorem d_law_605 : gd code 605 .iaload 1 606 := ⟨by decide +kernel, rfl⟩
theorem d_law_606 : gd code 606 (.aload_n 0) 1 607 := ⟨by decide +kernel, rfl⟩
theorem d_law_607 : gd code 607 (.iload 4) 2 609 := ⟨by decide +kernel, rfl⟩
theorem d_law_609 : gd code 609 (.iconst 2) 1 610 := ⟨by decide +kernel, rfl⟩
theorem d_law_610 : gd code 610 .iadd 1 611 := ⟨by decide +kernel, rfl⟩
theorem d_law_611 : gd code 611 .iaload 1 612 := ⟨by decide +kernel, rfl⟩
theorem d_law_612 : gd code 612 (.aload_n 0) 1 613 := ⟨by decide +kernel, rfl⟩
theorem d_law_613 : gd code 613 (.iload 4) 2 615 := ⟨by decide +kernel, rfl⟩
theorem d_law_615 : gd code 615 (.iconst 3) 1 616 := ⟨by decide +kernel, rfl⟩
theorem d_law_616 : gd code 616 .iadd 1 617 := ⟨by decide +kernel, rfl⟩
theorem d_law_617 : gd code 617 .iaload 1 618 := ⟨by decide +kernel, rfl⟩
theorem d_law_618 : gd code 618 .i2l 1 619 := ⟨by decide +kernel, rfl⟩
theorem d_law_619 : gd code 619 (.bipush 32) 2 621 := ⟨by decide +kernel, rfl⟩
theorem d_law_621 : gd code 621 .lshl 1 622 := ⟨by decide +kernel, rfl⟩
theorem d_law_622 : gd code 622 (.aload_n 0) 1 623 := ⟨by decide +kernel, rfl⟩
theorem d_law_623 : gd code 623 (.iload 4) 2 625 := ⟨by decide +kernel, rfl⟩
theorem d_law_625 : gd code 625 (.iconst 4) 1 626 := ⟨by decide +kernel, rfl⟩
theorem d_law_626 : gd code 626 .iadd 1 627 := ⟨by decide +kernel, rfl⟩
theorem d_law_627 : gd code 627 .iaload 1 628 := ⟨by decide +kernel, rfl⟩
theorem d_law_628 : gd code 628 .i2l 1 629 := ⟨by decide +kernel, rfl⟩
theorem d_law_629 : gd code 629 (.ldc2_w 62) 3 632 := ⟨by decide +kernel, rfl⟩
theorem d_law_632 : gd code 632 .land 1 633 := ⟨by decide +kernel, rfl⟩
theorem d_law_633 : gd code 633 .lor 1 634 := ⟨by decide +kernel, rfl⟩
theorem d_law_634 : gd code 634 (.invokevirtual 64) 3 637 := ⟨by decide +kernel, rfl⟩
theorem d_law_637 : gd code 637 (.aload_n 2) 1 638 := ⟨by decide +kernel, rfl⟩
theorem d_law_638 : gd code 638 (.aload_n 0) 1 639 := ⟨by decide +kernel, rfl⟩
theorem d_law_639 : gd code 639 (.iload 4) 2 641 := ⟨by decide +kernel, rfl⟩
theorem d_law_641 : gd code 641 (.iconst 1) 1 642 := ⟨by decide +kernel, rfl⟩
theorem d_law_642 : gd code 642 .iadd 1 643 := ⟨by decide +kernel, rfl⟩
theorem d_law_643 : gd code 643 .iaload 1 644 := ⟨by decide +kernel, rfl⟩
theorem d_law_644 : gd code 644 (.aload_n 0) 1 645 := ⟨by decide +kernel, rfl⟩
theorem d_law_645 : gd code 645 (.iload 4) 2 647 := ⟨by decide +kernel, rfl⟩
theorem d_law_647 : gd code 647 (.iconst 2) 1 648 := ⟨by decide +kernel, rfl⟩
theorem d_law_648 : gd code 648 .iadd 1 649 := ⟨by decide +kernel, rfl⟩
theorem d_law_649 : gd code 649 .iaload 1 650 := ⟨by decide +kernel, rfl⟩
theorem d_law_650 : gd code 650 (.aload_n 0) 1 651 := ⟨by decide +kernel, rfl⟩
theorem d_law_651 : gd code 651 (.iload 4) 2 653 := ⟨by decide +kernel, rfl⟩
theorem d_law_653 : gd code 653 (.iconst 3) 1 654 := ⟨by decide +kernel, rfl⟩
theorem d_law_654 : gd code 654 .iadd 1 655 := ⟨by decide +kernel, rfl⟩
theorem d_law_655 : gd code 655 .iaload 1 656 := ⟨by decide +kernel, rfl⟩
theorem d_law_656 : gd code 656 .i2l 1 657 := ⟨by decide +kernel, rfl⟩
theorem d_law_657 : gd code 657 (.bipush 32) 2 659 := ⟨by decide +kernel, rfl⟩
theorem d_law_659 : gd code 659 .lshl 1 660 := ⟨by decide +kernel, rfl⟩
theorem d_law_660 : gd code 660 (.aload_n 0) 1 661 := ⟨by decide +kernel, rfl⟩
theorem d_law_661 : gd code 661 (.iload 4) 2 663 := ⟨by decide +kernel, rfl⟩
theorem d_law_663 : gd code 663 (.iconst 4) 1 664 := ⟨by decide +kernel, rfl⟩
theorem d_law_664 : gd code 664 .iadd 1 665 := ⟨by decide +kernel, rfl⟩
theorem d_law_665 : gd code 665 .iaload 1 666 := ⟨by decide +kernel, rfl⟩
theorem d_law_666 : gd code 666 .i2l 1 667 := ⟨by decide +kernel, rfl⟩
theorem d_law_667 : gd code 667 (.ldc2_w 62) 3 670 := ⟨by decide +kernel, rfl⟩
theorem d_law_670 : gd code 670 .land 1 671 := ⟨by decide +kernel, rfl⟩
theorem d_law_671 : gd code 671 .lor 1 672 := ⟨by decide +kernel, rfl⟩
theorem d_law_672 : gd code 672 (.invokevirtual 68) 3 675 := ⟨by decide +kernel, rfl⟩
theorem d_law_675 : gd code 675 (.if_icmp .eq 1512) 3 678 := ⟨by decide +kernel, rfl⟩
theorem d_law_678 : gd code 678 (.iconst 0) 1 679 := ⟨by decide +kernel, rfl⟩
theorem d_law_679 : gd code 679 .ireturn 1 680 := ⟨by decide +kernel, rfl⟩
theorem d_law_680 : gd code 680 (.aload_n 1) 1 681 := ⟨by decide +kernel, rfl⟩
theorem d_law_681 : gd code 681 (.aload_n 0) 1 682 := ⟨by decide +kernel, rfl⟩
theorem d_law_682 : gd code 682 (.iload 4) 2 684 := ⟨by decide +kernel, rfl⟩
theorem d_law_684 : gd code 684 (.iconst 1) 1 685 := ⟨by decide +kernel, rfl⟩
theorem d_law_685 : gd code 685 .iadd 1 686 := ⟨by decide +kernel, rfl⟩
theorem d_law_686 : gd code 686 .iaload 1 687 := ⟨by decide +kernel, rfl⟩
theorem d_law_687 : gd code 687 (.invokevirtual 69) 3 690 := ⟨by decide +kernel, rfl⟩
theorem d_law_690 : gd code 690 (.aload_n 2) 1 691 := ⟨by decide +kernel, rfl⟩
theorem d_law_691 : gd code 691 (.aload_n 0) 1 692 := ⟨by decide +kernel, rfl⟩
theorem d_law_692 : gd code 692 (.iload 4) 2 694 := ⟨by decide +kernel, rfl⟩
theorem d_law_694 : gd code 694 (.iconst 1) 1 695 := ⟨by decide +kernel, rfl⟩
theorem d_law_695 : gd code 695 .iadd 1 696 := ⟨by decide +kernel, rfl⟩
theorem d_law_696 : gd code 696 .iaload 1 697 := ⟨by decide +kernel, rfl⟩
theorem d_law_697 : gd code 697 (.invokevirtual 72) 3 700 := ⟨by decide +kernel, rfl⟩
theorem d_law_700 : gd code 700 (.if_icmp .eq 1487) 3 703 := ⟨by decide +kernel, rfl⟩
theorem d_law_703 : gd code 703 (.iconst 0) 1 704 := ⟨by decide +kernel, rfl⟩
theorem d_law_704 : gd code 704 .ireturn 1 705 := ⟨by decide +kernel, rfl⟩
theorem d_law_705 : gd code 705 (.aload_n 1) 1 706 := ⟨by decide +kernel, rfl⟩
theorem d_law_706 : gd code 706 (.aload_n 0) 1 707 := ⟨by decide +kernel, rfl⟩
theorem d_law_707 : gd code 707 (.iload 4) 2 709 := ⟨by decide +kernel, rfl⟩
theorem d_law_709 : gd code 709 (.iconst 1) 1 710 := ⟨by decide +kernel, rfl⟩
theorem d_law_710 : gd code 710 .iadd 1 711 := ⟨by decide +kernel, rfl⟩
theorem d_law_711 : gd code 711 .iaload 1 712 := ⟨by decide +kernel, rfl⟩
theorem d_law_712 : gd code 712 (.invokevirtual 73) 3 715 := ⟨by decide +kernel, rfl⟩
theorem d_law_715 : gd code 715 (.aload_n 2) 1 716 := ⟨by decide +kernel, rfl⟩
theorem d_law_716 : gd code 716 (.aload_n 0) 1 717 := ⟨by decide +kernel, rfl⟩
theorem d_law_717 : gd code 717 (.iload 4) 2 719 := ⟨by decide +kernel, rfl⟩
theorem d_law_719 : gd code 719 (.iconst 1) 1 720 := ⟨by decide +kernel, rfl⟩
theorem d_law_720 : gd code 720 .iadd 1 721 := ⟨by decide +kernel, rfl⟩
theorem d_law_721 : gd code 721 .iaload 1 722 := ⟨by decide +kernel, rfl⟩
theorem d_law_722 : gd code 722 (.invokevirtual 76) 3 725 := ⟨by decide +kernel, rfl⟩
theorem d_law_725 : gd code 725 (.if_icmp .eq 1462) 3 728 := ⟨by decide +kernel, rfl⟩
theorem d_law_728 : gd code 728 (.iconst 0) 1 729 := ⟨by decide +kernel, rfl⟩
theorem d_law_729 : gd code 729 .ireturn 1 730 := ⟨by decide +kernel, rfl⟩
theorem d_law_730 : gd code 730 (.aload_n 1) 1 731 := ⟨by decide +kernel, rfl⟩
theorem d_law_731 : gd code 731 (.aload_n 0) 1 732 := ⟨by decide +kernel, rfl⟩
theorem d_law_732 : gd code 732 (.iload 4) 2 734 := ⟨by decide +kernel, rfl⟩
theorem d_law_734 : gd code 734 (.iconst 1) 1 735 := ⟨by decide +kernel, rfl⟩
theorem d_law_735 : gd code 735 .iadd 1 736 := ⟨by decide +kernel, rfl⟩
theorem d_law_736 : gd code 736 .iaload 1 737 := ⟨by decide +kernel, rfl⟩
theorem d_law_737 : gd code 737 (.aload_n 0) 1 738 := ⟨by decide +kernel, rfl⟩
theorem d_law_738 : gd code 738 (.iload 4) 2 740 := ⟨by decide +kernel, rfl⟩
theorem d_law_740 : gd code 740 (.iconst 2) 1 741 := ⟨by decide +kernel, rfl⟩
theorem d_law_741 : gd code 741 .iadd 1 742 := ⟨by decide +kernel, rfl⟩
theorem d_law_742 : gd code 742 .iaload 1 743 := ⟨by decide +kernel, rfl⟩
theorem d_law_743 : gd code 743 (.aload_n 0) 1 744 := ⟨by decide +kernel, rfl⟩
theorem d_law_744 : gd code 744 (.iload 4) 2 746 := ⟨by decide +kernel, rfl⟩
theorem d_law_746 : gd code 746 (.iconst 3) 1 747 := ⟨by decide +kernel, rfl⟩
theorem d_law_747 : gd code 747 .iadd 1 748 := ⟨by decide +kernel, rfl⟩
theorem d_law_748 : gd code 748 .iaload 1 749 := ⟨by decide +kernel, rfl⟩
theorem d_law_749 : gd code 749 (.invokevirtual 77) 3 752 := ⟨by decide +kernel, rfl⟩
theorem d_law_752 : gd code 752 (.aload_n 2) 1 753 := ⟨by decide +kernel, rfl⟩
theorem d_law_753 : gd code 753 (.aload_n 0) 1 754 := ⟨by decide +kernel, rfl⟩
theorem d_law_754 : gd code 754 (.iload 4) 2 756 := ⟨by decide +kernel, rfl⟩
theorem d_law_756 : gd code 756 (.iconst 1) 1 757 := ⟨by decide +kernel, rfl⟩
theorem d_law_757 : gd code 757 .iadd 1 758 := ⟨by decide +kernel, rfl⟩
theorem d_law_758 : gd code 758 .iaload 1 759 := ⟨by decide +kernel, rfl⟩
theorem d_law_759 : gd code 759 (.aload_n 0) 1 760 := ⟨by decide +kernel, rfl⟩
theorem d_law_760 : gd code 760 (.iload 4) 2 762 := ⟨by decide +kernel, rfl⟩
theorem d_law_762 : gd code 762 (.iconst 2) 1 763 := ⟨by decide +kernel, rfl⟩
theorem d_law_763 : gd code 763 .iadd 1 764 := ⟨by decide +kernel, rfl⟩
theorem d_law_764 : gd code 764 .iaload 1 765 := ⟨by decide +kernel, rfl⟩
theorem d_law_765 : gd code 765 (.aload_n 0) 1 766 := ⟨by decide +kernel, rfl⟩
theorem d_law_766 : gd code 766 (.iload 4) 2 768 := ⟨by decide +kernel, rfl⟩
theorem d_law_768 : gd code 768 (.iconst 3) 1 769 := ⟨by decide +kernel, rfl⟩
theorem d_law_769 : gd code 769 .iadd 1 770 := ⟨by decide +kernel, rfl⟩
theorem d_law_770 : gd code 770 .iaload 1 771 := ⟨by decide +kernel, rfl⟩
theorem d_law_771 : gd code 771 (.invokevirtual 80) 3 774 := ⟨by decide +kernel, rfl⟩
theorem d_law_774 : gd code 774 (.if_icmp .eq 1413) 3 777 := ⟨by decide +kernel, rfl⟩
theorem d_law_777 : gd code 777 (.iconst 0) 1 778 := ⟨by decide +kernel, rfl⟩
theorem d_law_778 : gd code 778 .ireturn 1 779 := ⟨by decide +kernel, rfl⟩
theorem d_law_779 : gd code 779 (.aload_n 1) 1 780 := ⟨by decide +kernel, rfl⟩
theorem d_law_780 : gd code 780 (.aload_n 0) 1 781 := ⟨by decide +kernel, rfl⟩
theorem d_law_781 : gd code 781 (.iload 4) 2 783 := ⟨by decide +kernel, rfl⟩
theorem d_law_783 : gd code 783 (.iconst 1) 1 784 := ⟨by decide +kernel, rfl⟩
theorem d_law_784 : gd code 784 .iadd 1 785 := ⟨by decide +kernel, rfl⟩
theorem d_law_785 : gd code 785 .iaload 1 786 := ⟨by decide +kernel, rfl⟩
theorem d_law_786 : gd code 786 (.aload_n 0) 1 787 := ⟨by decide +kernel, rfl⟩
theorem d_law_787 : gd code 787 (.iload 4) 2 789 := ⟨by decide +kernel, rfl⟩
theorem d_law_789 : gd code 789 (.iconst 2) 1 790 := ⟨by decide +kernel, rfl⟩
theorem d_law_790 : gd code 790 .iadd 1 791 := ⟨by decide +kernel, rfl⟩
theorem d_law_791 : gd code 791 .iaload 1 792 := ⟨by decide +kernel, rfl⟩
theorem d_law_792 : gd code 792 (.invokevirtual 81) 3 795 := ⟨by decide +kernel, rfl⟩
theorem d_law_795 : gd code 795 (.aload_n 2) 1 796 := ⟨by decide +kernel, rfl⟩
theorem d_law_796 : gd code 796 (.aload_n 0) 1 797 := ⟨by decide +kernel, rfl⟩
theorem d_law_797 : gd code 797 (.iload 4) 2 799 := ⟨by decide +kernel, rfl⟩
theorem d_law_799 : gd code 799 (.iconst 1) 1 800 := ⟨by decide +kernel, rfl⟩
theorem d_law_800 : gd code 800 .iadd 1 801 := ⟨by decide +kernel, rfl⟩
theorem d_law_801 : gd code 801 .iaload 1 802 := ⟨by decide +kernel, rfl⟩
theorem d_law_802 : gd code 802 (.aload_n 0) 1 803 := ⟨by decide +kernel, rfl⟩
theorem d_law_803 : gd code 803 (.iload 4) 2 805 := ⟨by decide +kernel, rfl⟩
theorem d_law_805 : gd code 805 (.iconst 2) 1 806 := ⟨by decide +kernel, rfl⟩
theorem d_law_806 : gd code 806 .iadd 1 807 := ⟨by decide +kernel, rfl⟩
theorem d_law_807 : gd code 807 .iaload 1 808 := ⟨by decide +kernel, rfl⟩
theorem d_law_808 : gd code 808 (.invokevirtual 84) 3 811 := ⟨by decide +kernel, rfl⟩
theorem d_law_811 : gd code 811 (.if_icmp .eq 1376) 3 814 := ⟨by decide +kernel, rfl⟩
theorem d_law_814 : gd code 814 (.iconst 0) 1 815 := ⟨by decide +kernel, rfl⟩
theorem d_law_815 : gd code 815 .ireturn 1 816 := ⟨by decide +kernel, rfl⟩
theorem d_law_816 : gd code 816 (.aload_n 1) 1 817 := ⟨by decide +kernel, rfl⟩
theorem d_law_817 : gd code 817 (.aload_n 0) 1 818 := ⟨by decide +kernel, rfl⟩
theorem d_law_818 : gd code 818 (.iload 4) 2 820 := ⟨by decide +kernel, rfl⟩
theorem d_law_820 : gd code 820 (.iconst 1) 1 821 := ⟨by decide +kernel, rfl⟩
theorem d_law_821 : gd code 821 .iadd 1 822 := ⟨by decide +kernel, rfl⟩
theorem d_law_822 : gd code 822 .iaload 1 823 := ⟨by decide +kernel, rfl⟩
theorem d_law_823 : gd code 823 (.invokevirtual 85) 3 826 := ⟨by decide +kernel, rfl⟩
theorem d_law_826 : gd code 826 (.aload_n 2) 1 827 := ⟨by decide +kernel, rfl⟩
theorem d_law_827 : gd code 827 (.aload_n 0) 1 828 := ⟨by decide +kernel, rfl⟩
theorem d_law_828 : gd code 828 (.iload 4) 2 830 := ⟨by decide +kernel, rfl⟩
theorem d_law_830 : gd code 830 (.iconst 1) 1 831 := ⟨by decide +kernel, rfl⟩
theorem d_law_831 : gd code 831 .iadd 1 832 := ⟨by decide +kernel, rfl⟩
theorem d_law_832 : gd code 832 .iaload 1 833 := ⟨by decide +kernel, rfl⟩
theorem d_law_833 : gd code 833 (.invokevirtual 88) 3 836 := ⟨by decide +kernel, rfl⟩
theorem d_law_836 : gd code 836 (.if_icmp .eq 1351) 3 839 := ⟨by decide +kernel, rfl⟩
theorem d_law_839 : gd code 839 (.iconst 0) 1 840 := ⟨by decide +kernel, rfl⟩
theorem d_law_840 : gd code 840 .ireturn 1 841 := ⟨by decide +kernel, rfl⟩
theorem d_law_841 : gd code 841 (.aload_n 1) 1 842 := ⟨by decide +kernel, rfl⟩
theorem d_law_842 : gd code 842 (.aload_n 0) 1 843 := ⟨by decide +kernel, rfl⟩
theorem d_law_843 : gd code 843 (.iload 4) 2 845 := ⟨by decide +kernel, rfl⟩
theorem d_law_845 : gd code 845 (.iconst 1) 1 846 := ⟨by decide +kernel, rfl⟩
theorem d_law_846 : gd code 846 .iadd 1 847 := ⟨by decide +kernel, rfl⟩
theorem d_law_847 : gd code 847 .iaload 1 848 := ⟨by decide +kernel, rfl⟩
theorem d_law_848 : gd code 848 (.aload_n 0) 1 849 := ⟨by decide +kernel, rfl⟩
theorem d_law_849 : gd code 849 (.iload 4) 2 851 := ⟨by decide +kernel, rfl⟩
theorem d_law_851 : gd code 851 (.iconst 2) 1 852 := ⟨by decide +kernel, rfl⟩
theorem d_law_852 : gd code 852 .iadd 1 853 := ⟨by decide +kernel, rfl⟩
theorem d_law_853 : gd code 853 .iaload 1 854 := ⟨by decide +kernel, rfl⟩
theorem d_law_854 : gd code 854 (.invokevirtual 89) 3 857 := ⟨by decide +kernel, rfl⟩
theorem d_law_857 : gd code 857 (.aload_n 2) 1 858 := ⟨by decide +kernel, rfl⟩
theorem d_law_858 : gd code 858 (.aload_n 0) 1 859 := ⟨by decide +kernel, rfl⟩
theorem d_law_859 : gd code 859 (.iload 4) 2 861 := ⟨by decide +kernel, rfl⟩
theorem d_law_861 : gd code 861 (.iconst 1) 1 862 := ⟨by decide +kernel, rfl⟩
theorem d_law_862 : gd code 862 .iadd 1 863 := ⟨by decide +kernel, rfl⟩
theorem d_law_863 : gd code 863 .iaload 1 864 := ⟨by decide +kernel, rfl⟩
theorem d_law_864 : gd code 864 (.aload_n 0) 1 865 := ⟨by decide +kernel, rfl⟩
theorem d_law_865 : gd code 865 (.iload 4) 2 867 := ⟨by decide +kernel, rfl⟩
theorem d_law_867 : gd code 867 (.iconst 2) 1 868 := ⟨by decide +kernel, rfl⟩
theorem d_law_868 : gd code 868 .iadd 1 869 := ⟨by decide +kernel, rfl⟩
theorem d_law_869 : gd code 869 .iaload 1 870 := ⟨by decide +kernel, rfl⟩
theorem d_law_870 : gd code 870 (.invokevirtual 92) 3 873 := ⟨by decide +kernel, rfl⟩
theorem d_law_873 : gd code 873 (.if_icmp .eq 1314) 3 876 := ⟨by decide +kernel, rfl⟩
theorem d_law_876 : gd code 876 (.iconst 0) 1 877 := ⟨by decide +kernel, rfl⟩
theorem d_law_877 : gd code 877 .ireturn 1 878 := ⟨by decide +kernel, rfl⟩
theorem d_law_878 : gd code 878 (.aload_n 1) 1 879 := ⟨by decide +kernel, rfl⟩
theorem d_law_879 : gd code 879 (.invokevirtual 93) 3 882 := ⟨by decide +kernel, rfl⟩
theorem d_law_882 : gd code 882 (.aload_n 2) 1 883 := ⟨by decide +kernel, rfl⟩
theorem d_law_883 : gd code 883 (.invokevirtual 96) 3 886 := ⟨by decide +kernel, rfl⟩
theorem d_law_886 : gd code 886 (.if_icmp .eq 1301) 3 889 := ⟨by decide +kernel, rfl⟩
theorem d_law_889 : gd code 889 (.iconst 0) 1 890 := ⟨by decide +kernel, rfl⟩
theorem d_law_890 : gd code 890 .ireturn 1 891 := ⟨by decide +kernel, rfl⟩
theorem d_law_891 : gd code 891 (.aload_n 1) 1 892 := ⟨by decide +kernel, rfl⟩
theorem d_law_892 : gd code 892 (.aload_n 0) 1 893 := ⟨by decide +kernel, rfl⟩
theorem d_law_893 : gd code 893 (.iload 4) 2 895 := ⟨by decide +kernel, rfl⟩
theorem d_law_895 : gd code 895 (.iconst 1) 1 896 := ⟨by decide +kernel, rfl⟩
theorem d_law_896 : gd code 896 .iadd 1 897 := ⟨by decide +kernel, rfl⟩
theorem d_law_897 : gd code 897 .iaload 1 898 := ⟨by decide +kernel, rfl⟩
theorem d_law_898 : gd code 898 (.aload_n 0) 1 899 := ⟨by decide +kernel, rfl⟩
theorem d_law_899 : gd code 899 (.iload 4) 2 901 := ⟨by decide +kernel, rfl⟩
theorem d_law_901 : gd code 901 (.iconst 2) 1 902 := ⟨by decide +kernel, rfl⟩
theorem d_law_902 : gd code 902 .iadd 1 903 := ⟨by decide +kernel, rfl⟩
theorem d_law_903 : gd code 903 .iaload 1 904 := ⟨by decide +kernel, rfl⟩
theorem d_law_904 : gd code 904 (.invokevirtual 97) 3 907 := ⟨by decide +kernel, rfl⟩
theorem d_law_907 : gd code 907 (.aload_n 2) 1 908 := ⟨by decide +kernel, rfl⟩
theorem d_law_908 : gd code 908 (.aload_n 0) 1 909 := ⟨by decide +kernel, rfl⟩
theorem d_law_909 : gd code 909 (.iload 4) 2 911 := ⟨by decide +kernel, rfl⟩
theorem d_law_911 : gd code 911 (.iconst 1) 1 912 := ⟨by decide +kernel, rfl⟩
theorem d_law_912 : gd code 912 .iadd 1 913 := ⟨by decide +kernel, rfl⟩
theorem d_law_913 : gd code 913 .iaload 1 914 := ⟨by decide +kernel, rfl⟩
theorem d_law_914 : gd code 914 (.aload_n 0) 1 915 := ⟨by decide +kernel, rfl⟩
theorem d_law_915 : gd code 915 (.iload 4) 2 917 := ⟨by decide +kernel, rfl⟩
theorem d_law_917 : gd code 917 (.iconst 2) 1 918 := ⟨by decide +kernel, rfl⟩
theorem d_law_918 : gd code 918 .iadd 1 919 := ⟨by decide +kernel, rfl⟩
theorem d_law_919 : gd code 919 .iaload 1 920 := ⟨by decide +kernel, rfl⟩
theorem d_law_920 : gd code 920 (.invokevirtual 100) 3 923 := ⟨by decide +kernel, rfl⟩
theorem d_law_923 : gd code 923 (.if_icmp .eq 1264) 3 926 := ⟨by decide +kernel, rfl⟩
theorem d_law_926 : gd code 926 (.iconst 0) 1 927 := ⟨by decide +kernel, rfl⟩
theorem d_law_927 : gd code 927 .ireturn 1 928 := ⟨by decide +kernel, rfl⟩
theorem d_law_928 : gd code 928 (.aload_n 1) 1 929 := ⟨by decide +kernel, rfl⟩
theorem d_law_929 : gd code 929 (.aload_n 0) 1 930 := ⟨by decide +kernel, rfl⟩
theorem d_law_930 : gd code 930 (.iload 4) 2 932 := ⟨by decide +kernel, rfl⟩
theorem d_law_932 : gd code 932 (.iconst 1) 1 933 := ⟨by decide +kernel, rfl⟩
theorem d_law_933 : gd code 933 .iadd 1 934 := ⟨by decide +kernel, rfl⟩
theorem d_law_934 : gd code 934 .iaload 1 935 := ⟨by decide +kernel, rfl⟩
theorem d_law_935 : gd code 935 (.invokevirtual 101) 3 938 := ⟨by decide +kernel, rfl⟩
theorem d_law_938 : gd code 938 (.aload_n 2) 1 939 := ⟨by decide +kernel, rfl⟩
theorem d_law_939 : gd code 939 (.aload_n 0) 1 940 := ⟨by decide +kernel, rfl⟩
theorem d_law_940 : gd code 940 (.iload 4) 2 942 := ⟨by decide +kernel, rfl⟩
theorem d_law_942 : gd code 942 (.iconst 1) 1 943 := ⟨by decide +kernel, rfl⟩
theorem d_law_943 : gd code 943 .iadd 1 944 := ⟨by decide +kernel, rfl⟩
theorem d_law_944 : gd code 944 .iaload 1 945 := ⟨by decide +kernel, rfl⟩
theorem d_law_945 : gd code 945 (.invokevirtual 104) 3 948 := ⟨by decide +kernel, rfl⟩
theorem d_law_948 : gd code 948 (.if_icmp .eq 1239) 3 951 := ⟨by decide +kernel, rfl⟩
theorem d_law_951 : gd code 951 (.iconst 0) 1 952 := ⟨by decide +kernel, rfl⟩
theorem d_law_952 : gd code 952 .ireturn 1 953 := ⟨by decide +kernel, rfl⟩
theorem d_law_953 : gd code 953 (.aload_n 1) 1 954 := ⟨by decide +kernel, rfl⟩
theorem d_law_954 : gd code 954 (.aload_n 0) 1 955 := ⟨by decide +kernel, rfl⟩
theorem d_law_955 : gd code 955 (.iload 4) 2 957 := ⟨by decide +kernel, rfl⟩
theorem d_law_957 : gd code 957 (.iconst 1) 1 958 := ⟨by decide +kernel, rfl⟩
theorem d_law_958 : gd code 958 .iadd 1 959 := ⟨by decide +kernel, rfl⟩
theorem d_law_959 : gd code 959 .iaload 1 960 := ⟨by decide +kernel, rfl⟩
theorem d_law_960 : gd code 960 (.aload_n 0) 1 961 := ⟨by decide +kernel, rfl⟩
theorem d_law_961 : gd code 961 (.iload 4) 2 963 := ⟨by decide +kernel, rfl⟩
theorem d_law_963 : gd code 963 (.iconst 2) 1 964 := ⟨by decide +kernel, rfl⟩
theorem d_law_964 : gd code 964 .iadd 1 965 := ⟨by decide +kernel, rfl⟩
theorem d_law_965 : gd code 965 .iaload 1 966 := ⟨by decide +kernel, rfl⟩
theorem d_law_966 : gd code 966 (.invokevirtual 105) 3 969 := ⟨by decide +kernel, rfl⟩
theorem d_law_969 : gd code 969 (.aload_n 2) 1 970 := ⟨by decide +kernel, rfl⟩
theorem d_law_970 : gd code 970 (.aload_n 0) 1 971 := ⟨by decide +kernel, rfl⟩
theorem d_law_971 : gd code 971 (.iload 4) 2 973 := ⟨by decide +kernel, rfl⟩
theorem d_law_973 : gd code 973 (.iconst 1) 1 974 := ⟨by decide +kernel, rfl⟩
theorem d_law_974 : gd code 974 .iadd 1 975 := ⟨by decide +kernel, rfl⟩
theorem d_law_975 : gd code 975 .iaload 1 976 := ⟨by decide +kernel, rfl⟩
theorem d_law_976 : gd code 976 (.aload_n 0) 1 977 := ⟨by decide +kernel, rfl⟩
theorem d_law_977 : gd code 977 (.iload 4) 2 979 := ⟨by decide +kernel, rfl⟩
theorem d_law_979 : gd code 979 (.iconst 2) 1 980 := ⟨by decide +kernel, rfl⟩
theorem d_law_980 : gd code 980 .iadd 1 981 := ⟨by decide +kernel, rfl⟩
theorem d_law_981 : gd code 981 .iaload 1 982 := ⟨by decide +kernel, rfl⟩
theorem d_law_982 : gd code 982 (.invokevirtual 108) 3 985 := ⟨by decide +kernel, rfl⟩
theorem d_law_985 : gd code 985 (.if_icmp .eq 1202) 3 988 := ⟨by decide +kernel, rfl⟩
theorem d_law_988 : gd code 988 (.iconst 0) 1 989 := ⟨by decide +kernel, rfl⟩
theorem d_law_989 : gd code 989 .ireturn 1 990 := ⟨by decide +kernel, rfl⟩
theorem d_law_990 : gd code 990 (.aload_n 1) 1 991 := ⟨by decide +kernel, rfl⟩
theorem d_law_991 : gd code 991 (.aload_n 0) 1 992 := ⟨by decide +kernel, rfl⟩
theorem d_law_992 : gd code 992 (.iload 4) 2 994 := ⟨by decide +kernel, rfl⟩
theorem d_law_994 : gd code 994 (.iconst 1) 1 995 := ⟨by decide +kernel, rfl⟩
theorem d_law_995 : gd code 995 .iadd 1 996 := ⟨by decide +kernel, rfl⟩
theorem d_law_996 : gd code 996 .iaload 1 997 := ⟨by decide +kernel, rfl⟩
theorem d_law_997 : gd code 997 (.invokevirtual 109) 3 1000 := ⟨by decide +kernel, rfl⟩
theorem d_law_1000 : gd code 1000 (.aload_n 2) 1 1001 := ⟨by decide +kernel, rfl⟩
theorem d_law_1001 : gd code 1001 (.aload_n 0) 1 1002 := ⟨by decide +kernel, rfl⟩
theorem d_law_1002 : gd code 1002 (.iload 4) 2 1004 := ⟨by decide +kernel, rfl⟩
theorem d_law_1004 : gd code 1004 (.iconst 1) 1 1005 := ⟨by decide +kernel, rfl⟩
theorem d_law_1005 : gd code 1005 .iadd 1 1006 := ⟨by decide +kernel, rfl⟩
theorem d_law_1006 : gd code 1006 .iaload 1 1007 := ⟨by decide +kernel, rfl⟩
theorem d_law_1007 : gd code 1007 (.invokevirtual 112) 3 1010 := ⟨by decide +kernel, rfl⟩
theorem d_law_1010 : gd code 1010 (.if_icmp .eq 1177) 3 1013 := ⟨by decide +kernel, rfl⟩
theorem d_law_1013 : gd code 1013 (.iconst 0) 1 1014 := ⟨by decide +kernel, rfl⟩
theorem d_law_1014 : gd code 1014 .ireturn 1 1015 := ⟨by decide +kernel, rfl⟩
theorem d_law_1015 : gd code 1015 (.aload_n 1) 1 1016 := ⟨by decide +kernel, rfl⟩
theorem d_law_1016 : gd code 1016 (.aload_n 0) 1 1017 := ⟨by decide +kernel, rfl⟩
theorem d_law_1017 : gd code 1017 (.iload 4) 2 1019 := ⟨by decide +kernel, rfl⟩
theorem d_law_1019 : gd code 1019 (.iconst 1) 1 1020 := ⟨by decide +kernel, rfl⟩
theorem d_law_1020 : gd code 1020 .iadd 1 1021 := ⟨by decide +kernel, rfl⟩
theorem d_law_1021 : gd code 1021 .iaload 1 1022 := ⟨by decide +kernel, rfl⟩
theorem d_law_1022 : gd code 1022 (.aload_n 0) 1 1023 := ⟨by decide +kernel, rfl⟩
theorem d_law_1023 : gd code 1023 (.iload 4) 2 1025 := ⟨by decide +kernel, rfl⟩
theorem d_law_1025 : gd code 1025 (.iconst 2) 1 1026 := ⟨by decide +kernel, rfl⟩
theorem d_law_1026 : gd code 1026 .iadd 1 1027 := ⟨by decide +kernel, rfl⟩
theorem d_law_1027 : gd code 1027 .iaload 1 1028 := ⟨by decide +kernel, rfl⟩
theorem d_law_1028 : gd code 1028 (.invokevirtual 113) 3 1031 := ⟨by decide +kernel, rfl⟩
theorem d_law_1031 : gd code 1031 (.aload_n 2) 1 1032 := ⟨by decide +kernel, rfl⟩
theorem d_law_1032 : gd code 1032 (.aload_n 0) 1 1033 := ⟨by decide +kernel, rfl⟩
theorem d_law_1033 : gd code 1033 (.iload 4) 2 1035 := ⟨by decide +kernel, rfl⟩
theorem d_law_1035 : gd code 1035 (.iconst 1) 1 1036 := ⟨by decide +kernel, rfl⟩
theorem d_law_1036 : gd code 1036 .iadd 1 1037 := ⟨by decide +kernel, rfl⟩
theorem d_law_1037 : gd code 1037 .iaload 1 1038 := ⟨by decide +kernel, rfl⟩
theorem d_law_1038 : gd code 1038 (.aload_n 0) 1 1039 := ⟨by decide +kernel, rfl⟩
theorem d_law_1039 : gd code 1039 (.iload 4) 2 1041 := ⟨by decide +kernel, rfl⟩
theorem d_law_1041 : gd code 1041 (.iconst 2) 1 1042 := ⟨by decide +kernel, rfl⟩
theorem d_law_1042 : gd code 1042 .iadd 1 1043 := ⟨by decide +kernel, rfl⟩
theorem d_law_1043 : gd code 1043 .iaload 1 1044 := ⟨by decide +kernel, rfl⟩
theorem d_law_1044 : gd code 1044 (.invokevirtual 116) 3 1047 := ⟨by decide +kernel, rfl⟩
theorem d_law_1047 : gd code 1047 (.if_icmp .eq 1140) 3 1050 := ⟨by decide +kernel, rfl⟩
theorem d_law_1050 : gd code 1050 (.iconst 0) 1 1051 := ⟨by decide +kernel, rfl⟩
theorem d_law_1051 : gd code 1051 .ireturn 1 1052 := ⟨by decide +kernel, rfl⟩
theorem d_law_1052 : gd code 1052 (.aload_n 1) 1 1053 := ⟨by decide +kernel, rfl⟩
theorem d_law_1053 : gd code 1053 (.aload_n 0) 1 1054 := ⟨by decide +kernel, rfl⟩
theorem d_law_1054 : gd code 1054 (.iload 4) 2 1056 := ⟨by decide +kernel, rfl⟩
theorem d_law_1056 : gd code 1056 (.iconst 1) 1 1057 := ⟨by decide +kernel, rfl⟩
theorem d_law_1057 : gd code 1057 .iadd 1 1058 := ⟨by decide +kernel, rfl⟩
theorem d_law_1058 : gd code 1058 .iaload 1 1059 := ⟨by decide +kernel, rfl⟩
theorem d_law_1059 : gd code 1059 (.aload_n 0) 1 1060 := ⟨by decide +kernel, rfl⟩
theorem d_law_1060 : gd code 1060 (.iload 4) 2 1062 := ⟨by decide +kernel, rfl⟩
theorem d_law_1062 : gd code 1062 (.iconst 2) 1 1063 := ⟨by decide +kernel, rfl⟩
theorem d_law_1063 : gd code 1063 .iadd 1 1064 := ⟨by decide +kernel, rfl⟩
theorem d_law_1064 : gd code 1064 .iaload 1 1065 := ⟨by decide +kernel, rfl⟩
theorem d_law_1065 : gd code 1065 (.aload_n 0) 1 1066 := ⟨by decide +kernel, rfl⟩
theorem d_law_1066 : gd code 1066 (.iload 4) 2 1068 := ⟨by decide +kernel, rfl⟩
theorem d_law_1068 : gd code 1068 (.iconst 3) 1 1069 := ⟨by decide +kernel, rfl⟩
theorem d_law_1069 : gd code 1069 .iadd 1 1070 := ⟨by decide +kernel, rfl⟩
theorem d_law_1070 : gd code 1070 .iaload 1 1071 := ⟨by decide +kernel, rfl⟩
theorem d_law_1071 : gd code 1071 (.aload_n 0) 1 1072 := ⟨by decide +kernel, rfl⟩
theorem d_law_1072 : gd code 1072 (.iload 4) 2 1074 := ⟨by decide +kernel, rfl⟩
theorem d_law_1074 : gd code 1074 (.iconst 4) 1 1075 := ⟨by decide +kernel, rfl⟩
theorem d_law_1075 : gd code 1075 .iadd 1 1076 := ⟨by decide +kernel, rfl⟩
theorem d_law_1076 : gd code 1076 .iaload 1 1077 := ⟨by decide +kernel, rfl⟩
theorem d_law_1077 : gd code 1077 (.aload_n 0) 1 1078 := ⟨by decide +kernel, rfl⟩
theorem d_law_1078 : gd code 1078 (.iload 4) 2 1080 := ⟨by decide +kernel, rfl⟩
theorem d_law_1080 : gd code 1080 (.iconst 5) 1 1081 := ⟨by decide +kernel, rfl⟩
theorem d_law_1081 : gd code 1081 .iadd 1 1082 := ⟨by decide +kernel, rfl⟩
theorem d_law_1082 : gd code 1082 .iaload 1 1083 := ⟨by decide +kernel, rfl⟩
theorem d_law_1083 : gd code 1083 (.invokevirtual 117) 3 1086 := ⟨by decide +kernel, rfl⟩
theorem d_law_1086 : gd code 1086 (.aload_n 2) 1 1087 := ⟨by decide +kernel, rfl⟩
theorem d_law_1087 : gd code 1087 (.aload_n 0) 1 1088 := ⟨by decide +kernel, rfl⟩
theorem d_law_1088 : gd code 1088 (.iload 4) 2 1090 := ⟨by decide +kernel, rfl⟩
theorem d_law_1090 : gd code 1090 (.iconst 1) 1 1091 := ⟨by decide +kernel, rfl⟩
theorem d_law_1091 : gd code 1091 .iadd 1 1092 := ⟨by decide +kernel, rfl⟩
theorem d_law_1092 : gd code 1092 .iaload 1 1093 := ⟨by decide +kernel, rfl⟩
theorem d_law_1093 : gd code 1093 (.aload_n 0) 1 1094 := ⟨by decide +kernel, rfl⟩
theorem d_law_1094 : gd code 1094 (.iload 4) 2 1096 := ⟨by decide +kernel, rfl⟩
theorem d_law_1096 : gd code 1096 (.iconst 2) 1 1097 := ⟨by decide +kernel, rfl⟩
theorem d_law_1097 : gd code 1097 .iadd 1 1098 := ⟨by decide +kernel, rfl⟩
theorem d_law_1098 : gd code 1098 .iaload 1 1099 := ⟨by decide +kernel, rfl⟩
theorem d_law_1099 : gd code 1099 (.aload_n 0) 1 1100 := ⟨by decide +kernel, rfl⟩
theorem d_law_1100 : gd code 1100 (.iload 4) 2 1102 := ⟨by decide +kernel, rfl⟩
theorem d_law_1102 : gd code 1102 (.iconst 3) 1 1103 := ⟨by decide +kernel, rfl⟩
theorem d_law_1103 : gd code 1103 .iadd 1 1104 := ⟨by decide +kernel, rfl⟩
theorem d_law_1104 : gd code 1104 .iaload 1 1105 := ⟨by decide +kernel, rfl⟩
theorem d_law_1105 : gd code 1105 (.aload_n 0) 1 1106 := ⟨by decide +kernel, rfl⟩
theorem d_law_1106 : gd code 1106 (.iload 4) 2 1108 := ⟨by decide +kernel, rfl⟩
theorem d_law_1108 : gd code 1108 (.iconst 4) 1 1109 := ⟨by decide +kernel, rfl⟩
theorem d_law_1109 : gd code 1109 .iadd 1 1110 := ⟨by decide +kernel, rfl⟩
theorem d_law_1110 : gd code 1110 .iaload 1 1111 := ⟨by decide +kernel, rfl⟩
theorem d_law_1111 : gd code 1111 (.aload_n 0) 1 1112 := ⟨by decide +kernel, rfl⟩
theorem d_law_1112 : gd code 1112 (.iload 4) 2 1114 := ⟨by decide +kernel, rfl⟩
theorem d_law_1114 : gd code 1114 (.iconst 5) 1 1115 := ⟨by decide +kernel, rfl⟩
theorem d_law_1115 : gd code 1115 .iadd 1 1116 := ⟨by decide +kernel, rfl⟩
theorem d_law_1116 : gd code 1116 .iaload 1 1117 := ⟨by decide +kernel, rfl⟩
theorem d_law_1117 : gd code 1117 (.invokevirtual 120) 3 1120 := ⟨by decide +kernel, rfl⟩
theorem d_law_1120 : gd code 1120 (.if_icmp .eq 1067) 3 1123 := ⟨by decide +kernel, rfl⟩
theorem d_law_1123 : gd code 1123 (.iconst 0) 1 1124 := ⟨by decide +kernel, rfl⟩
theorem d_law_1124 : gd code 1124 .ireturn 1 1125 := ⟨by decide +kernel, rfl⟩
theorem d_law_1125 : gd code 1125 (.aload_n 1) 1 1126 := ⟨by decide +kernel, rfl⟩
theorem d_law_1126 : gd code 1126 (.aload_n 0) 1 1127 := ⟨by decide +kernel, rfl⟩
theorem d_law_1127 : gd code 1127 (.iload 4) 2 1129 := ⟨by decide +kernel, rfl⟩
theorem d_law_1129 : gd code 1129 (.iconst 1) 1 1130 := ⟨by decide +kernel, rfl⟩
theorem d_law_1130 : gd code 1130 .iadd 1 1131 := ⟨by decide +kernel, rfl⟩
theorem d_law_1131 : gd code 1131 .iaload 1 1132 := ⟨by decide +kernel, rfl⟩
theorem d_law_1132 : gd code 1132 (.aload_n 0) 1 1133 := ⟨by decide +kernel, rfl⟩
theorem d_law_1133 : gd code 1133 (.iload 4) 2 1135 := ⟨by decide +kernel, rfl⟩
theorem d_law_1135 : gd code 1135 (.iconst 2) 1 1136 := ⟨by decide +kernel, rfl⟩
theorem d_law_1136 : gd code 1136 .iadd 1 1137 := ⟨by decide +kernel, rfl⟩
theorem d_law_1137 : gd code 1137 .iaload 1 1138 := ⟨by decide +kernel, rfl⟩
theorem d_law_1138 : gd code 1138 (.aload_n 0) 1 1139 := ⟨by decide +kernel, rfl⟩
theorem d_law_1139 : gd code 1139 (.iload 4) 2 1141 := ⟨by decide +kernel, rfl⟩
theorem d_law_1141 : gd code 1141 (.iconst 3) 1 1142 := ⟨by decide +kernel, rfl⟩
theorem d_law_1142 : gd code 1142 .iadd 1 1143 := ⟨by decide +kernel, rfl⟩
theorem d_law_1143 : gd code 1143 .iaload 1 1144 := ⟨by decide +kernel, rfl⟩
theorem d_law_1144 : gd code 1144 (.aload_n 0) 1 1145 := ⟨by decide +kernel, rfl⟩
theorem d_law_1145 : gd code 1145 (.iload 4) 2 1147 := ⟨by decide +kernel, rfl⟩
theorem d_law_1147 : gd code 1147 (.iconst 4) 1 1148 := ⟨by decide +kernel, rfl⟩
theorem d_law_1148 : gd code 1148 .iadd 1 1149 := ⟨by decide +kernel, rfl⟩
theorem d_law_1149 : gd code 1149 .iaload 1 1150 := ⟨by decide +kernel, rfl⟩
theorem d_law_1150 : gd code 1150 (.aload_n 0) 1 1151 := ⟨by decide +kernel, rfl⟩
theorem d_law_1151 : gd code 1151 (.iload 4) 2 1153 := ⟨by decide +kernel, rfl⟩
theorem d_law_1153 : gd code 1153 (.iconst 5) 1 1154 := ⟨by decide +kernel, rfl⟩
theorem d_law_1154 : gd code 1154 .iadd 1 1155 := ⟨by decide +kernel, rfl⟩
theorem d_law_1155 : gd code 1155 .iaload 1 1156 := ⟨by decide +kernel, rfl⟩
theorem d_law_1156 : gd code 1156 (.invokevirtual 121) 3 1159 := ⟨by decide +kernel, rfl⟩
theorem d_law_1159 : gd code 1159 (.aload_n 2) 1 1160 := ⟨by decide +kernel, rfl⟩
theorem d_law_1160 : gd code 1160 (.aload_n 0) 1 1161 := ⟨by decide +kernel, rfl⟩
theorem d_law_1161 : gd code 1161 (.iload 4) 2 1163 := ⟨by decide +kernel, rfl⟩
theorem d_law_1163 : gd code 1163 (.iconst 1) 1 1164 := ⟨by decide +kernel, rfl⟩
theorem d_law_1164 : gd code 1164 .iadd 1 1165 := ⟨by decide +kernel, rfl⟩
theorem d_law_1165 : gd code 1165 .iaload 1 1166 := ⟨by decide +kernel, rfl⟩
theorem d_law_1166 : gd code 1166 (.aload_n 0) 1 1167 := ⟨by decide +kernel, rfl⟩
theorem d_law_1167 : gd code 1167 (.iload 4) 2 1169 := ⟨by decide +kernel, rfl⟩
theorem d_law_1169 : gd code 1169 (.iconst 2) 1 1170 := ⟨by decide +kernel, rfl⟩
theorem d_law_1170 : gd code 1170 .iadd 1 1171 := ⟨by decide +kernel, rfl⟩
theorem d_law_1171 : gd code 1171 .iaload 1 1172 := ⟨by decide +kernel, rfl⟩
theorem d_law_1172 : gd code 1172 (.aload_n 0) 1 1173 := ⟨by decide +kernel, rfl⟩
theorem d_law_1173 : gd code 1173 (.iload 4) 2 1175 := ⟨by decide +kernel, rfl⟩
theorem d_law_1175 : gd code 1175 (.iconst 3) 1 1176 := ⟨by decide +kernel, rfl⟩
theorem d_law_1176 : gd code 1176 .iadd 1 1177 := ⟨by decide +kernel, rfl⟩
theorem d_law_1177 : gd code 1177 .iaload 1 1178 := ⟨by decide +kernel, rfl⟩
theorem d_law_1178 : gd code 1178 (.aload_n 0) 1 1179 := ⟨by decide +kernel, rfl⟩
theorem d_law_1179 : gd code 1179 (.iload 4) 2 1181 := ⟨by decide +kernel, rfl⟩
theorem d_law_1181 : gd code 1181 (.iconst 4) 1 1182 := ⟨by decide +kernel, rfl⟩
theorem d_law_1182 : gd code 1182 .iadd 1 1183 := ⟨by decide +kernel, rfl⟩
theorem d_law_1183 : gd code 1183 .iaload 1 1184 := ⟨by decide +kernel, rfl⟩
theorem d_law_1184 : gd code 1184 (.aload_n 0) 1 1185 := ⟨by decide +kernel, rfl⟩
theorem d_law_1185 : gd code 1185 (.iload 4) 2 1187 := ⟨by decide +kernel, rfl⟩
theorem d_law_1187 : gd code 1187 (.iconst 5) 1 1188 := ⟨by decide +kernel, rfl⟩
theorem d_law_1188 : gd code 1188 .iadd 1 1189 := ⟨by decide +kernel, rfl⟩
theorem d_law_1189 : gd code 1189 .iaload 1 1190 := ⟨by decide +kernel, rfl⟩
theorem d_law_1190 : gd code 1190 (.invokevirtual 124) 3 1193 := ⟨by decide +kernel, rfl⟩
theorem d_law_1193 : gd code 1193 (.if_icmp .eq 994) 3 1196 := ⟨by decide +kernel, rfl⟩
theorem d_law_1196 : gd code 1196 (.iconst 0) 1 1197 := ⟨by decide +kernel, rfl⟩
theorem d_law_1197 : gd code 1197 .ireturn 1 1198 := ⟨by decide +kernel, rfl⟩
theorem d_law_1198 : gd code 1198 (.aload_n 1) 1 1199 := ⟨by decide +kernel, rfl⟩
theorem d_law_1199 : gd code 1199 (.aload_n 0) 1 1200 := ⟨by decide +kernel, rfl⟩
theorem d_law_1200 : gd code 1200 (.iload 4) 2 1202 := ⟨by decide +kernel, rfl⟩
theorem d_law_1202 : gd code 1202 (.iconst 1) 1 1203 := ⟨by decide +kernel, rfl⟩
theorem d_law_1203 : gd code 1203 .iadd 1 1204 := ⟨by decide +kernel, rfl⟩
theorem d_law_1204 : gd code 1204 .iaload 1 1205 := ⟨by decide +kernel, rfl⟩
theorem d_law_1205 : gd code 1205 (.aload_n 0) 1 1206 := ⟨by decide +kernel, rfl⟩
theorem d_law_1206 : gd code 1206 (.iload 4) 2 1208 := ⟨by decide +kernel, rfl⟩
theorem d_law_1208 : gd code 1208 (.iconst 2) 1 1209 := ⟨by decide +kernel, rfl⟩
theorem d_law_1209 : gd code 1209 .iadd 1 1210 := ⟨by decide +kernel, rfl⟩
theorem d_law_1210 : gd code 1210 .iaload 1 1211 := ⟨by decide +kernel, rfl⟩
theorem d_law_1211 : gd code 1211 (.aload_n 0) 1 1212 := ⟨by decide +kernel, rfl⟩
theorem d_law_1212 : gd code 1212 (.iload 4) 2 1214 := ⟨by decide +kernel, rfl⟩
theorem d_law_1214 : gd code 1214 (.iconst 3) 1 1215 := ⟨by decide +kernel, rfl⟩
theorem d_law_1215 : gd code 1215 .iadd 1 1216 := ⟨by decide +kernel, rfl⟩
theorem d_law_1216 : gd code 1216 .iaload 1 1217 := ⟨by decide +kernel, rfl⟩
theorem d_law_1217 : gd code 1217 (.aload_n 0) 1 1218 := ⟨by decide +kernel, rfl⟩
theorem d_law_1218 : gd code 1218 (.iload 4) 2 1220 := ⟨by decide +kernel, rfl⟩
theorem d_law_1220 : gd code 1220 (.iconst 4) 1 1221 := ⟨by decide +kernel, rfl⟩
theorem d_law_1221 : gd code 1221 .iadd 1 1222 := ⟨by decide +kernel, rfl⟩
theorem d_law_1222 : gd code 1222 .iaload 1 1223 := ⟨by decide +kernel, rfl⟩
theorem d_law_1223 : gd code 1223 (.aload_n 0) 1 1224 := ⟨by decide +kernel, rfl⟩
theorem d_law_1224 : gd code 1224 (.iload 4) 2 1226 := ⟨by decide +kernel, rfl⟩
theorem d_law_1226 : gd code 1226 (.iconst 5) 1 1227 := ⟨by decide +kernel, rfl⟩
theorem d_law_1227 : gd code 1227 .iadd 1 1228 := ⟨by decide +kernel, rfl⟩
theorem d_law_1228 : gd code 1228 .iaload 1 1229 := ⟨by decide +kernel, rfl⟩
theorem d_law_1229 : gd code 1229 (.aload_n 0) 1 1230 := ⟨by decide +kernel, rfl⟩
theorem d_law_1230 : gd code 1230 (.iload 4) 2 1232 := ⟨by decide +kernel, rfl⟩
theorem d_law_1232 : gd code 1232 (.bipush 6) 2 1234 := ⟨by decide +kernel, rfl⟩
theorem d_law_1234 : gd code 1234 .iadd 1 1235 := ⟨by decide +kernel, rfl⟩
theorem d_law_1235 : gd code 1235 .iaload 1 1236 := ⟨by decide +kernel, rfl⟩
theorem d_law_1236 : gd code 1236 (.aload_n 0) 1 1237 := ⟨by decide +kernel, rfl⟩
theorem d_law_1237 : gd code 1237 (.iload 4) 2 1239 := ⟨by decide +kernel, rfl⟩
theorem d_law_1239 : gd code 1239 (.bipush 7) 2 1241 := ⟨by decide +kernel, rfl⟩
theorem d_law_1241 : gd code 1241 .iadd 1 1242 := ⟨by decide +kernel, rfl⟩
theorem d_law_1242 : gd code 1242 .iaload 1 1243 := ⟨by decide +kernel, rfl⟩
theorem d_law_1243 : gd code 1243 (.invokevirtual 125) 3 1246 := ⟨by decide +kernel, rfl⟩
theorem d_law_1246 : gd code 1246 (.aload_n 2) 1 1247 := ⟨by decide +kernel, rfl⟩
theorem d_law_1247 : gd code 1247 (.aload_n 0) 1 1248 := ⟨by decide +kernel, rfl⟩
theorem d_law_1248 : gd code 1248 (.iload 4) 2 1250 := ⟨by decide +kernel, rfl⟩
theorem d_law_1250 : gd code 1250 (.iconst 1) 1 1251 := ⟨by decide +kernel, rfl⟩
theorem d_law_1251 : gd code 1251 .iadd 1 1252 := ⟨by decide +kernel, rfl⟩
theorem d_law_1252 : gd code 1252 .iaload 1 1253 := ⟨by decide +kernel, rfl⟩
theorem d_law_1253 : gd code 1253 (.aload_n 0) 1 1254 := ⟨by decide +kernel, rfl⟩
theorem d_law_1254 : gd code 1254 (.iload 4) 2 1256 := ⟨by decide +kernel, rfl⟩
theorem d_law_1256 : gd code 1256 (.iconst 2) 1 1257 := ⟨by decide +kernel, rfl⟩
theorem d_law_1257 : gd code 1257 .iadd 1 1258 := ⟨by decide +kernel, rfl⟩
theorem d_law_1258 : gd code 1258 .iaload 1 1259 := ⟨by decide +kernel, rfl⟩
theorem d_law_1259 : gd code 1259 (.aload_n 0) 1 1260 := ⟨by decide +kernel, rfl⟩
theorem d_law_1260 : gd code 1260 (.iload 4) 2 1262 := ⟨by decide +kernel, rfl⟩
theorem d_law_1262 : gd code 1262 (.iconst 3) 1 1263 := ⟨by decide +kernel, rfl⟩
theorem d_law_1263 : gd code 1263 .iadd 1 1264 := ⟨by decide +kernel, rfl⟩
theorem d_law_1264 : gd code 1264 .iaload 1 1265 := ⟨by decide +kernel, rfl⟩
theorem d_law_1265 : gd code 1265 (.aload_n 0) 1 1266 := ⟨by decide +kernel, rfl⟩
theorem d_law_1266 : gd code 1266 (.iload 4) 2 1268 := ⟨by decide +kernel, rfl⟩
theorem d_law_1268 : gd code 1268 (.iconst 4) 1 1269 := ⟨by decide +kernel, rfl⟩
theorem d_law_1269 : gd code 1269 .iadd 1 1270 := ⟨by decide +kernel, rfl⟩
theorem d_law_1270 : gd code 1270 .iaload 1 1271 := ⟨by decide +kernel, rfl⟩
theorem d_law_1271 : gd code 1271 (.aload_n 0) 1 1272 := ⟨by decide +kernel, rfl⟩
theorem d_law_1272 : gd code 1272 (.iload 4) 2 1274 := ⟨by decide +kernel, rfl⟩
theorem d_law_1274 : gd code 1274 (.iconst 5) 1 1275 := ⟨by decide +kernel, rfl⟩
theorem d_law_1275 : gd code 1275 .iadd 1 1276 := ⟨by decide +kernel, rfl⟩
theorem d_law_1276 : gd code 1276 .iaload 1 1277 := ⟨by decide +kernel, rfl⟩
theorem d_law_1277 : gd code 1277 (.aload_n 0) 1 1278 := ⟨by decide +kernel, rfl⟩
theorem d_law_1278 : gd code 1278 (.iload 4) 2 1280 := ⟨by decide +kernel, rfl⟩
theorem d_law_1280 : gd code 1280 (.bipush 6) 2 1282 := ⟨by decide +kernel, rfl⟩
theorem d_law_1282 : gd code 1282 .iadd 1 1283 := ⟨by decide +kernel, rfl⟩
theorem d_law_1283 : gd code 1283 .iaload 1 1284 := ⟨by decide +kernel, rfl⟩
theorem d_law_1284 : gd code 1284 (.aload_n 0) 1 1285 := ⟨by decide +kernel, rfl⟩
theorem d_law_1285 : gd code 1285 (.iload 4) 2 1287 := ⟨by decide +kernel, rfl⟩
theorem d_law_1287 : gd code 1287 (.bipush 7) 2 1289 := ⟨by decide +kernel, rfl⟩
theorem d_law_1289 : gd code 1289 .iadd 1 1290 := ⟨by decide +kernel, rfl⟩
theorem d_law_1290 : gd code 1290 .iaload 1 1291 := ⟨by decide +kernel, rfl⟩
theorem d_law_1291 : gd code 1291 (.invokevirtual 129) 3 1294 := ⟨by decide +kernel, rfl⟩
theorem d_law_1294 : gd code 1294 (.if_icmp .eq 893) 3 1297 := ⟨by decide +kernel, rfl⟩
theorem d_law_1297 : gd code 1297 (.iconst 0) 1 1298 := ⟨by decide +kernel, rfl⟩
theorem d_law_1298 : gd code 1298 .ireturn 1 1299 := ⟨by decide +kernel, rfl⟩
theorem d_law_1299 : gd code 1299 (.aload_n 1) 1 1300 := ⟨by decide +kernel, rfl⟩
theorem d_law_1300 : gd code 1300 (.aload_n 0) 1 1301 := ⟨by decide +kernel, rfl⟩
theorem d_law_1301 : gd code 1301 (.iload 4) 2 1303 := ⟨by decide +kernel, rfl⟩
theorem d_law_1303 : gd code 1303 (.iconst 1) 1 1304 := ⟨by decide +kernel, rfl⟩
theorem d_law_1304 : gd code 1304 .iadd 1 1305 := ⟨by decide +kernel, rfl⟩
theorem d_law_1305 : gd code 1305 .iaload 1 1306 := ⟨by decide +kernel, rfl⟩
theorem d_law_1306 : gd code 1306 (.invokevirtual 130) 3 1309 := ⟨by decide +kernel, rfl⟩
theorem d_law_1309 : gd code 1309 (.aload_n 2) 1 1310 := ⟨by decide +kernel, rfl⟩
theorem d_law_1310 : gd code 1310 (.aload_n 0) 1 1311 := ⟨by decide +kernel, rfl⟩
theorem d_law_1311 : gd code 1311 (.iload 4) 2 1313 := ⟨by decide +kernel, rfl⟩
theorem d_law_1313 : gd code 1313 (.iconst 1) 1 1314 := ⟨by decide +kernel, rfl⟩
theorem d_law_1314 : gd code 1314 .iadd 1 1315 := ⟨by decide +kernel, rfl⟩
theorem d_law_1315 : gd code 1315 .iaload 1 1316 := ⟨by decide +kernel, rfl⟩
theorem d_law_1316 : gd code 1316 (.invokevirtual 133) 3 1319 := ⟨by decide +kernel, rfl⟩
theorem d_law_1319 : gd code 1319 (.if_icmp .eq 868) 3 1322 := ⟨by decide +kernel, rfl⟩
theorem d_law_1322 : gd code 1322 (.iconst 0) 1 1323 := ⟨by decide +kernel, rfl⟩
theorem d_law_1323 : gd code 1323 .ireturn 1 1324 := ⟨by decide +kernel, rfl⟩
theorem d_law_1324 : gd code 1324 (.aload_n 1) 1 1325 := ⟨by decide +kernel, rfl⟩
theorem d_law_1325 : gd code 1325 (.aload_n 0) 1 1326 := ⟨by decide +kernel, rfl⟩
theorem d_law_1326 : gd code 1326 (.iload 4) 2 1328 := ⟨by decide +kernel, rfl⟩
theorem d_law_1328 : gd code 1328 (.iconst 1) 1 1329 := ⟨by decide +kernel, rfl⟩
theorem d_law_1329 : gd code 1329 .iadd 1 1330 := ⟨by decide +kernel, rfl⟩
theorem d_law_1330 : gd code 1330 .iaload 1 1331 := ⟨by decide +kernel, rfl⟩
theorem d_law_1331 : gd code 1331 (.aload_n 0) 1 1332 := ⟨by decide +kernel, rfl⟩
theorem d_law_1332 : gd code 1332 (.iload 4) 2 1334 := ⟨by decide +kernel, rfl⟩
theorem d_law_1334 : gd code 1334 (.iconst 2) 1 1335 := ⟨by decide +kernel, rfl⟩
theorem d_law_1335 : gd code 1335 .iadd 1 1336 := ⟨by decide +kernel, rfl⟩
theorem d_law_1336 : gd code 1336 .iaload 1 1337 := ⟨by decide +kernel, rfl⟩
theorem d_law_1337 : gd code 1337 (.aload_n 0) 1 1338 := ⟨by decide +kernel, rfl⟩
theorem d_law_1338 : gd code 1338 (.iload 4) 2 1340 := ⟨by decide +kernel, rfl⟩
theorem d_law_1340 : gd code 1340 (.iconst 3) 1 1341 := ⟨by decide +kernel, rfl⟩
theorem d_law_1341 : gd code 1341 .iadd 1 1342 := ⟨by decide +kernel, rfl⟩
theorem d_law_1342 : gd code 1342 .iaload 1 1343 := ⟨by decide +kernel, rfl⟩
theorem d_law_1343 : gd code 1343 (.invokevirtual 134) 3 1346 := ⟨by decide +kernel, rfl⟩
theorem d_law_1346 : gd code 1346 (.aload_n 2) 1 1347 := ⟨by decide +kernel, rfl⟩
theorem d_law_1347 : gd code 1347 (.aload_n 0) 1 1348 := ⟨by decide +kernel, rfl⟩
theorem d_law_1348 : gd code 1348 (.iload 4) 2 1350 := ⟨by decide +kernel, rfl⟩
theorem d_law_1350 : gd code 1350 (.iconst 1) 1 1351 := ⟨by decide +kernel, rfl⟩
theorem d_law_1351 : gd code 1351 .iadd 1 1352 := ⟨by decide +kernel, rfl⟩
theorem d_law_1352 : gd code 1352 .iaload 1 1353 := ⟨by decide +kernel, rfl⟩
theorem d_law_1353 : gd code 1353 (.aload_n 0) 1 1354 := ⟨by decide +kernel, rfl⟩
theorem d_law_1354 : gd code 1354 (.iload 4) 2 1356 := ⟨by decide +kernel, rfl⟩
theorem d_law_1356 : gd code 1356 (.iconst 2) 1 1357 := ⟨by decide +kernel, rfl⟩
theorem d_law_1357 : gd code 1357 .iadd 1 1358 := ⟨by decide +kernel, rfl⟩
theorem d_law_1358 : gd code 1358 .iaload 1 1359 := ⟨by decide +kernel, rfl⟩
theorem d_law_1359 : gd code 1359 (.aload_n 0) 1 1360 := ⟨by decide +kernel, rfl⟩
theorem d_law_1360 : gd code 1360 (.iload 4) 2 1362 := ⟨by decide +kernel, rfl⟩
theorem d_law_1362 : gd code 1362 (.iconst 3) 1 1363 := ⟨by decide +kernel, rfl⟩
theorem d_law_1363 : gd code 1363 .iadd 1 1364 := ⟨by decide +kernel, rfl⟩
theorem d_law_1364 : gd code 1364 .iaload 1 1365 := ⟨by decide +kernel, rfl⟩
theorem d_law_1365 : gd code 1365 (.invokevirtual 137) 3 1368 := ⟨by decide +kernel, rfl⟩
theorem d_law_1368 : gd code 1368 (.if_icmp .eq 819) 3 1371 := ⟨by decide +kernel, rfl⟩
theorem d_law_1371 : gd code 1371 (.iconst 0) 1 1372 := ⟨by decide +kernel, rfl⟩
theorem d_law_1372 : gd code 1372 .ireturn 1 1373 := ⟨by decide +kernel, rfl⟩
theorem d_law_1373 : gd code 1373 (.aload_n 1) 1 1374 := ⟨by decide +kernel, rfl⟩
theorem d_law_1374 : gd code 1374 (.aload_n 0) 1 1375 := ⟨by decide +kernel, rfl⟩
theorem d_law_1375 : gd code 1375 (.iload 4) 2 1377 := ⟨by decide +kernel, rfl⟩
theorem d_law_1377 : gd code 1377 (.iconst 1) 1 1378 := ⟨by decide +kernel, rfl⟩
theorem d_law_1378 : gd code 1378 .iadd 1 1379 := ⟨by decide +kernel, rfl⟩
theorem d_law_1379 : gd code 1379 .iaload 1 1380 := ⟨by decide +kernel, rfl⟩
theorem d_law_1380 : gd code 1380 (.invokevirtual 138) 3 1383 := ⟨by decide +kernel, rfl⟩
theorem d_law_1383 : gd code 1383 (.aload_n 2) 1 1384 := ⟨by decide +kernel, rfl⟩
theorem d_law_1384 : gd code 1384 (.aload_n 0) 1 1385 := ⟨by decide +kernel, rfl⟩
theorem d_law_1385 : gd code 1385 (.iload 4) 2 1387 := ⟨by decide +kernel, rfl⟩
theorem d_law_1387 : gd code 1387 (.iconst 1) 1 1388 := ⟨by decide +kernel, rfl⟩
theorem d_law_1388 : gd code 1388 .iadd 1 1389 := ⟨by decide +kernel, rfl⟩
theorem d_law_1389 : gd code 1389 .iaload 1 1390 := ⟨by decide +kernel, rfl⟩
theorem d_law_1390 : gd code 1390 (.invokevirtual 141) 3 1393 := ⟨by decide +kernel, rfl⟩
theorem d_law_1393 : gd code 1393 (.if_icmp .eq 794) 3 1396 := ⟨by decide +kernel, rfl⟩
theorem d_law_1396 : gd code 1396 (.iconst 0) 1 1397 := ⟨by decide +kernel, rfl⟩
theorem d_law_1397 : gd code 1397 .ireturn 1 1398 := ⟨by decide +kernel, rfl⟩
theorem d_law_1398 : gd code 1398 (.aload_n 1) 1 1399 := ⟨by decide +kernel, rfl⟩
theorem d_law_1399 : gd code 1399 (.aload_n 0) 1 1400 := ⟨by decide +kernel, rfl⟩
theorem d_law_1400 : gd code 1400 (.iload 4) 2 1402 := ⟨by decide +kernel, rfl⟩
theorem d_law_1402 : gd code 1402 (.iconst 1) 1 1403 := ⟨by decide +kernel, rfl⟩
theorem d_law_1403 : gd code 1403 .iadd 1 1404 := ⟨by decide +kernel, rfl⟩
theorem d_law_1404 : gd code 1404 .iaload 1 1405 := ⟨by decide +kernel, rfl⟩
theorem d_law_1405 : gd code 1405 (.aload_n 0) 1 1406 := ⟨by decide +kernel, rfl⟩
theorem d_law_1406 : gd code 1406 (.iload 4) 2 1408 := ⟨by decide +kernel, rfl⟩
theorem d_law_1408 : gd code 1408 (.iconst 2) 1 1409 := ⟨by decide +kernel, rfl⟩
theorem d_law_1409 : gd code 1409 .iadd 1 1410 := ⟨by decide +kernel, rfl⟩
theorem d_law_1410 : gd code 1410 .iaload 1 1411 := ⟨by decide +kernel, rfl⟩
theorem d_law_1411 : gd code 1411 (.invokevirtual 142) 3 1414 := ⟨by decide +kernel, rfl⟩
theorem d_law_1414 : gd code 1414 (.aload_n 2) 1 1415 := ⟨by decide +kernel, rfl⟩
theorem d_law_1415 : gd code 1415 (.aload_n 0) 1 1416 := ⟨by decide +kernel, rfl⟩
theorem d_law_1416 : gd code 1416 (.iload 4) 2 1418 := ⟨by decide +kernel, rfl⟩
theorem d_law_1418 : gd code 1418 (.iconst 1) 1 1419 := ⟨by decide +kernel, rfl⟩
theorem d_law_1419 : gd code 1419 .iadd 1 1420 := ⟨by decide +kernel, rfl⟩
theorem d_law_1420 : gd code 1420 .iaload 1 1421 := ⟨by decide +kernel, rfl⟩
theorem d_law_1421 : gd code 1421 (.aload_n 0) 1 1422 := ⟨by decide +kernel, rfl⟩
theorem d_law_1422 : gd code 1422 (.iload 4) 2 1424 := ⟨by decide +kernel, rfl⟩
theorem d_law_1424 : gd code 1424 (.iconst 2) 1 1425 := ⟨by decide +kernel, rfl⟩
theorem d_law_1425 : gd code 1425 .iadd 1 1426 := ⟨by decide +kernel, rfl⟩
theorem d_law_1426 : gd code 1426 .iaload 1 1427 := ⟨by decide +kernel, rfl⟩
theorem d_law_1427 : gd code 1427 (.invokevirtual 145) 3 1430 := ⟨by decide +kernel, rfl⟩
theorem d_law_1430 : gd code 1430 (.if_icmp .eq 757) 3 1433 := ⟨by decide +kernel, rfl⟩
theorem d_law_1433 : gd code 1433 (.iconst 0) 1 1434 := ⟨by decide +kernel, rfl⟩
theorem d_law_1434 : gd code 1434 .ireturn 1 1435 := ⟨by decide +kernel, rfl⟩
theorem d_law_1435 : gd code 1435 (.aload_n 1) 1 1436 := ⟨by decide +kernel, rfl⟩
theorem d_law_1436 : gd code 1436 (.aload_n 0) 1 1437 := ⟨by decide +kernel, rfl⟩
theorem d_law_1437 : gd code 1437 (.iload 4) 2 1439 := ⟨by decide +kernel, rfl⟩
theorem d_law_1439 : gd code 1439 (.iconst 1) 1 1440 := ⟨by decide +kernel, rfl⟩
theorem d_law_1440 : gd code 1440 .iadd 1 1441 := ⟨by decide +kernel, rfl⟩
theorem d_law_1441 : gd code 1441 .iaload 1 1442 := ⟨by decide +kernel, rfl⟩
theorem d_law_1442 : gd code 1442 (.aload_n 0) 1 1443 := ⟨by decide +kernel, rfl⟩
theorem d_law_1443 : gd code 1443 (.iload 4) 2 1445 := ⟨by decide +kernel, rfl⟩
theorem d_law_1445 : gd code 1445 (.iconst 2) 1 1446 := ⟨by decide +kernel, rfl⟩
theorem d_law_1446 : gd code 1446 .iadd 1 1447 := ⟨by decide +kernel, rfl⟩
theorem d_law_1447 : gd code 1447 .iaload 1 1448 := ⟨by decide +kernel, rfl⟩
theorem d_law_1448 : gd code 1448 (.invokevirtual 146) 3 1451 := ⟨by decide +kernel, rfl⟩
theorem d_law_1451 : gd code 1451 (.aload_n 2) 1 1452 := ⟨by decide +kernel, rfl⟩
theorem d_law_1452 : gd code 1452 (.aload_n 0) 1 1453 := ⟨by decide +kernel, rfl⟩
theorem d_law_1453 : gd code 1453 (.iload 4) 2 1455 := ⟨by decide +kernel, rfl⟩
theorem d_law_1455 : gd code 1455 (.iconst 1) 1 1456 := ⟨by decide +kernel, rfl⟩
theorem d_law_1456 : gd code 1456 .iadd 1 1457 := ⟨by decide +kernel, rfl⟩
theorem d_law_1457 : gd code 1457 .iaload 1 1458 := ⟨by decide +kernel, rfl⟩
theorem d_law_1458 : gd code 1458 (.aload_n 0) 1 1459 := ⟨by decide +kernel, rfl⟩
theorem d_law_1459 : gd code 1459 (.iload 4) 2 1461 := ⟨by decide +kernel, rfl⟩
theorem d_law_1461 : gd code 1461 (.iconst 2) 1 1462 := ⟨by decide +kernel, rfl⟩
theorem d_law_1462 : gd code 1462 .iadd 1 1463 := ⟨by decide +kernel, rfl⟩
theorem d_law_1463 : gd code 1463 .iaload 1 1464 := ⟨by decide +kernel, rfl⟩
theorem d_law_1464 : gd code 1464 (.invokevirtual 149) 3 1467 := ⟨by decide +kernel, rfl⟩
theorem d_law_1467 : gd code 1467 (.if_icmp .eq 720) 3 1470 := ⟨by decide +kernel, rfl⟩
theorem d_law_1470 : gd code 1470 (.iconst 0) 1 1471 := ⟨by decide +kernel, rfl⟩
theorem d_law_1471 : gd code 1471 .ireturn 1 1472 := ⟨by decide +kernel, rfl⟩
theorem d_law_1472 : gd code 1472 (.aload_n 1) 1 1473 := ⟨by decide +kernel, rfl⟩
theorem d_law_1473 : gd code 1473 (.aload_n 0) 1 1474 := ⟨by decide +kernel, rfl⟩
theorem d_law_1474 : gd code 1474 (.iload 4) 2 1476 := ⟨by decide +kernel, rfl⟩
theorem d_law_1476 : gd code 1476 (.iconst 1) 1 1477 := ⟨by decide +kernel, rfl⟩
theorem d_law_1477 : gd code 1477 .iadd 1 1478 := ⟨by decide +kernel, rfl⟩
theorem d_law_1478 : gd code 1478 .iaload 1 1479 := ⟨by decide +kernel, rfl⟩
theorem d_law_1479 : gd code 1479 (.aload_n 0) 1 1480 := ⟨by decide +kernel, rfl⟩
theorem d_law_1480 : gd code 1480 (.iload 4) 2 1482 := ⟨by decide +kernel, rfl⟩
theorem d_law_1482 : gd code 1482 (.iconst 2) 1 1483 := ⟨by decide +kernel, rfl⟩
theorem d_law_1483 : gd code 1483 .iadd 1 1484 := ⟨by decide +kernel, rfl⟩
theorem d_law_1484 : gd code 1484 .iaload 1 1485 := ⟨by decide +kernel, rfl⟩
theorem d_law_1485 : gd code 1485 (.aload_n 0) 1 1486 := ⟨by decide +kernel, rfl⟩
theorem d_law_1486 : gd code 1486 (.iload 4) 2 1488 := ⟨by decide +kernel, rfl⟩
theorem d_law_1488 : gd code 1488 (.iconst 3) 1 1489 := ⟨by decide +kernel, rfl⟩
theorem d_law_1489 : gd code 1489 .iadd 1 1490 := ⟨by decide +kernel, rfl⟩
theorem d_law_1490 : gd code 1490 .iaload 1 1491 := ⟨by decide +kernel, rfl⟩
theorem d_law_1491 : gd code 1491 (.aload_n 0) 1 1492 := ⟨by decide +kernel, rfl⟩
theorem d_law_1492 : gd code 1492 (.iload 4) 2 1494 := ⟨by decide +kernel, rfl⟩
theorem d_law_1494 : gd code 1494 (.iconst 4) 1 1495 := ⟨by decide +kernel, rfl⟩
theorem d_law_1495 : gd code 1495 .iadd 1 1496 := ⟨by decide +kernel, rfl⟩
theorem d_law_1496 : gd code 1496 .iaload 1 1497 := ⟨by decide +kernel, rfl⟩
theorem d_law_1497 : gd code 1497 (.invokevirtual 150) 3 1500 := ⟨by decide +kernel, rfl⟩
theorem d_law_1500 : gd code 1500 (.aload_n 2) 1 1501 := ⟨by decide +kernel, rfl⟩
theorem d_law_1501 : gd code 1501 (.aload_n 0) 1 1502 := ⟨by decide +kernel, rfl⟩
theorem d_law_1502 : gd code 1502 (.iload 4) 2 1504 := ⟨by decide +kernel, rfl⟩
theorem d_law_1504 : gd code 1504 (.iconst 1) 1 1505 := ⟨by decide +kernel, rfl⟩
theorem d_law_1505 : gd code 1505 .iadd 1 1506 := ⟨by decide +kernel, rfl⟩
theorem d_law_1506 : gd code 1506 .iaload 1 1507 := ⟨by decide +kernel, rfl⟩
theorem d_law_1507 : gd code 1507 (.aload_n 0) 1 1508 := ⟨by decide +kernel, rfl⟩
theorem d_law_1508 : gd code 1508 (.iload 4) 2 1510 := ⟨by decide +kernel, rfl⟩
theorem d_law_1510 : gd code 1510 (.iconst 2) 1 1511 := ⟨by decide +kernel, rfl⟩
theorem d_law_1511 : gd code 1511 .iadd 1 1512 := ⟨by decide +kernel, rfl⟩
theorem d_law_1512 : gd code 1512 .iaload 1 1513 := ⟨by decide +kernel, rfl⟩
theorem d_law_1513 : gd code 1513 (.aload_n 0) 1 1514 := ⟨by decide +kernel, rfl⟩
theorem d_law_1514 : gd code 1514 (.iload 4) 2 1516 := ⟨by decide +kernel, rfl⟩
theorem d_law_1516 : gd code 1516 (.iconst 3) 1 1517 := ⟨by decide +kernel, rfl⟩
theorem d_law_1517 : gd code 1517 .iadd 1 1518 := ⟨by decide +kernel, rfl⟩
theorem d_law_1518 : gd code 1518 .iaload 1 1519 := ⟨by decide +kernel, rfl⟩
theorem d_law_1519 : gd code 1519 (.aload_n 0) 1 1520 := ⟨by decide +kernel, rfl⟩
theorem d_law_1520 : gd code 1520 (.iload 4) 2 1522 := ⟨by decide +kernel, rfl⟩
theorem d_law_1522 : gd code 1522 (.iconst 4) 1 1523 := ⟨by decide +kernel, rfl⟩
theorem d_law_1523 : gd code 1523 .iadd 1 1524 := ⟨by decide +kernel, rfl⟩
theorem d_law_1524 : gd code 1524 .iaload 1 1525 := ⟨by decide +kernel, rfl⟩
theorem d_law_1525 : gd code 1525 (.invokevirtual 154) 3 1528 := ⟨by decide +kernel, rfl⟩
theorem d_law_1528 : gd code 1528 (.if_icmp .eq 659) 3 1531 := ⟨by decide +kernel, rfl⟩
theorem d_law_1531 : gd code 1531 (.iconst 0) 1 1532 := ⟨by decide +kernel, rfl⟩
theorem d_law_1532 : gd code 1532 .ireturn 1 1533 := ⟨by decide +kernel, rfl⟩
theorem d_law_1533 : gd code 1533 (.aload_n 1) 1 1534 := ⟨by decide +kernel, rfl⟩
theorem d_law_1534 : gd code 1534 (.invokevirtual 155) 3 1537 := ⟨by decide +kernel, rfl⟩
theorem d_law_1537 : gd code 1537 (.aload_n 2) 1 1538 := ⟨by decide +kernel, rfl⟩
theorem d_law_1538 : gd code 1538 (.invokevirtual 158) 3 1541 := ⟨by decide +kernel, rfl⟩
theorem d_law_1541 : gd code 1541 (.if_icmp .eq 646) 3 1544 := ⟨by decide +kernel, rfl⟩
theorem d_law_1544 : gd code 1544 (.iconst 0) 1 1545 := ⟨by decide +kernel, rfl⟩
theorem d_law_1545 : gd code 1545 .ireturn 1 1546 := ⟨by decide +kernel, rfl⟩
theorem d_law_1546 : gd code 1546 (.aload_n 1) 1 1547 := ⟨by decide +kernel, rfl⟩
theorem d_law_1547 : gd code 1547 (.invokevirtual 159) 3 1550 := ⟨by decide +kernel, rfl⟩
theorem d_law_1550 : gd code 1550 (.aload_n 2) 1 1551 := ⟨by decide +kernel, rfl⟩
theorem d_law_1551 : gd code 1551 (.invokevirtual 162) 3 1554 := ⟨by decide +kernel, rfl⟩
theorem d_law_1554 : gd code 1554 (.if_icmp .eq 633) 3 1557 := ⟨by decide +kernel, rfl⟩
theorem d_law_1557 : gd code 1557 (.iconst 0) 1 1558 := ⟨by decide +kernel, rfl⟩
theorem d_law_1558 : gd code 1558 .ireturn 1 1559 := ⟨by decide +kernel, rfl⟩
theorem d_law_1559 : gd code 1559 (.aload_n 1) 1 1560 := ⟨by decide +kernel, rfl⟩
theorem d_law_1560 : gd code 1560 (.aload_n 0) 1 1561 := ⟨by decide +kernel, rfl⟩
theorem d_law_1561 : gd code 1561 (.iload 4) 2 1563 := ⟨by decide +kernel, rfl⟩
theorem d_law_1563 : gd code 1563 (.iconst 1) 1 1564 := ⟨by decide +kernel, rfl⟩
theorem d_law_1564 : gd code 1564 .iadd 1 1565 := ⟨by decide +kernel, rfl⟩
theorem d_law_1565 : gd code 1565 .iaload 1 1566 := ⟨by decide +kernel, rfl⟩
theorem d_law_1566 : gd code 1566 (.aload_n 0) 1 1567 := ⟨by decide +kernel, rfl⟩
theorem d_law_1567 : gd code 1567 (.iload 4) 2 1569 := ⟨by decide +kernel, rfl⟩
theorem d_law_1569 : gd code 1569 (.iconst 2) 1 1570 := ⟨by decide +kernel, rfl⟩
theorem d_law_1570 : gd code 1570 .iadd 1 1571 := ⟨by decide +kernel, rfl⟩
theorem d_law_1571 : gd code 1571 .iaload 1 1572 := ⟨by decide +kernel, rfl⟩
theorem d_law_1572 : gd code 1572 (.invokevirtual 163) 3 1575 := ⟨by decide +kernel, rfl⟩
theorem d_law_1575 : gd code 1575 (.aload_n 2) 1 1576 := ⟨by decide +kernel, rfl⟩
theorem d_law_1576 : gd code 1576 (.aload_n 0) 1 1577 := ⟨by decide +kernel, rfl⟩
theorem d_law_1577 : gd code 1577 (.iload 4) 2 1579 := ⟨by decide +kernel, rfl⟩
theorem d_law_1579 : gd code 1579 (.iconst 1) 1 1580 := ⟨by decide +kernel, rfl⟩
theorem d_law_1580 : gd code 1580 .iadd 1 1581 := ⟨by decide +kernel, rfl⟩
theorem d_law_1581 : gd code 1581 .iaload 1 1582 := ⟨by decide +kernel, rfl⟩
theorem d_law_1582 : gd code 1582 (.aload_n 0) 1 1583 := ⟨by decide +kernel, rfl⟩
theorem d_law_1583 : gd code 1583 (.iload 4) 2 1585 := ⟨by decide +kernel, rfl⟩
theorem d_law_1585 : gd code 1585 (.iconst 2) 1 1586 := ⟨by decide +kernel, rfl⟩
theorem d_law_1586 : gd code 1586 .iadd 1 1587 := ⟨by decide +kernel, rfl⟩
theorem d_law_1587 : gd code 1587 .iaload 1 1588 := ⟨by decide +kernel, rfl⟩
theorem d_law_1588 : gd code 1588 (.invokevirtual 166) 3 1591 := ⟨by decide +kernel, rfl⟩
theorem d_law_1591 : gd code 1591 (.if_icmp .eq 596) 3 1594 := ⟨by decide +kernel, rfl⟩
theorem d_law_1594 : gd code 1594 (.iconst 0) 1 1595 := ⟨by decide +kernel, rfl⟩
theorem d_law_1595 : gd code 1595 .ireturn 1 1596 := ⟨by decide +kernel, rfl⟩
theorem d_law_1596 : gd code 1596 (.aload_n 1) 1 1597 := ⟨by decide +kernel, rfl⟩
theorem d_law_1597 : gd code 1597 (.aload_n 0) 1 1598 := ⟨by decide +kernel, rfl⟩
theorem d_law_1598 : gd code 1598 (.iload 4) 2 1600 := ⟨by decide +kernel, rfl⟩
theorem d_law_1600 : gd code 1600 (.iconst 1) 1 1601 := ⟨by decide +kernel, rfl⟩
theorem d_law_1601 : gd code 1601 .iadd 1 1602 := ⟨by decide +kernel, rfl⟩
theorem d_law_1602 : gd code 1602 .iaload 1 1603 := ⟨by decide +kernel, rfl⟩
theorem d_law_1603 : gd code 1603 (.aload_n 0) 1 1604 := ⟨by decide +kernel, rfl⟩
theorem d_law_1604 : gd code 1604 (.iload 4) 2 1606 := ⟨by decide +kernel, rfl⟩
theorem d_law_1606 : gd code 1606 (.iconst 2) 1 1607 := ⟨by decide +kernel, rfl⟩
theorem d_law_1607 : gd code 1607 .iadd 1 1608 := ⟨by decide +kernel, rfl⟩
theorem d_law_1608 : gd code 1608 .iaload 1 1609 := ⟨by decide +kernel, rfl⟩
theorem d_law_1609 : gd code 1609 (.aload_n 0) 1 1610 := ⟨by decide +kernel, rfl⟩
theorem d_law_1610 : gd code 1610 (.iload 4) 2 1612 := ⟨by decide +kernel, rfl⟩
theorem d_law_1612 : gd code 1612 (.iconst 3) 1 1613 := ⟨by decide +kernel, rfl⟩
theorem d_law_1613 : gd code 1613 .iadd 1 1614 := ⟨by decide +kernel, rfl⟩
theorem d_law_1614 : gd code 1614 .iaload 1 1615 := ⟨by decide +kernel, rfl⟩
theorem d_law_1615 : gd code 1615 (.invokevirtual 167) 3 1618 := ⟨by decide +kernel, rfl⟩
theorem d_law_1618 : gd code 1618 (.aload_n 2) 1 1619 := ⟨by decide +kernel, rfl⟩
theorem d_law_1619 : gd code 1619 (.aload_n 0) 1 1620 := ⟨by decide +kernel, rfl⟩
theorem d_law_1620 : gd code 1620 (.iload 4) 2 1622 := ⟨by decide +kernel, rfl⟩
theorem d_law_1622 : gd code 1622 (.iconst 1) 1 1623 := ⟨by decide +kernel, rfl⟩
theorem d_law_1623 : gd code 1623 .iadd 1 1624 := ⟨by decide +kernel, rfl⟩
theorem d_law_1624 : gd code 1624 .iaload 1 1625 := ⟨by decide +kernel, rfl⟩
theorem d_law_1625 : gd code 1625 (.aload_n 0) 1 1626 := ⟨by decide +kernel, rfl⟩
theorem d_law_1626 : gd code 1626 (.iload 4) 2 1628 := ⟨by decide +kernel, rfl⟩
theorem d_law_1628 : gd code 1628 (.iconst 2) 1 1629 := ⟨by decide +kernel, rfl⟩
theorem d_law_1629 : gd code 1629 .iadd 1 1630 := ⟨by decide +kernel, rfl⟩
theorem d_law_1630 : gd code 1630 .iaload 1 1631 := ⟨by decide +kernel, rfl⟩
theorem d_law_1631 : gd code 1631 (.aload_n 0) 1 1632 := ⟨by decide +kernel, rfl⟩
theorem d_law_1632 : gd code 1632 (.iload 4) 2 1634 := ⟨by decide +kernel, rfl⟩
theorem d_law_1634 : gd code 1634 (.iconst 3) 1 1635 := ⟨by decide +kernel, rfl⟩
theorem d_law_1635 : gd code 1635 .iadd 1 1636 := ⟨by decide +kernel, rfl⟩
theorem d_law_1636 : gd code 1636 .iaload 1 1637 := ⟨by decide +kernel, rfl⟩
theorem d_law_1637 : gd code 1637 (.invokevirtual 170) 3 1640 := ⟨by decide +kernel, rfl⟩
theorem d_law_1640 : gd code 1640 (.if_icmp .eq 547) 3 1643 := ⟨by decide +kernel, rfl⟩
theorem d_law_1643 : gd code 1643 (.iconst 0) 1 1644 := ⟨by decide +kernel, rfl⟩
theorem d_law_1644 : gd code 1644 .ireturn 1 1645 := ⟨by decide +kernel, rfl⟩
theorem d_law_1645 : gd code 1645 (.aload_n 1) 1 1646 := ⟨by decide +kernel, rfl⟩
theorem d_law_1646 : gd code 1646 (.aload_n 0) 1 1647 := ⟨by decide +kernel, rfl⟩
theorem d_law_1647 : gd code 1647 (.iload 4) 2 1649 := ⟨by decide +kernel, rfl⟩
theorem d_law_1649 : gd code 1649 (.iconst 1) 1 1650 := ⟨by decide +kernel, rfl⟩
theorem d_law_1650 : gd code 1650 .iadd 1 1651 := ⟨by decide +kernel, rfl⟩
theorem d_law_1651 : gd code 1651 .iaload 1 1652 := ⟨by decide +kernel, rfl⟩
theorem d_law_1652 : gd code 1652 (.aload_n 0) 1 1653 := ⟨by decide +kernel, rfl⟩
theorem d_law_1653 : gd code 1653 (.iload 4) 2 1655 := ⟨by decide +kernel, rfl⟩
theorem d_law_1655 : gd code 1655 (.iconst 2) 1 1656 := ⟨by decide +kernel, rfl⟩
theorem d_law_1656 : gd code 1656 .iadd 1 1657 := ⟨by decide +kernel, rfl⟩
theorem d_law_1657 : gd code 1657 .iaload 1 1658 := ⟨by decide +kernel, rfl⟩
theorem d_law_1658 : gd code 1658 (.aload_n 0) 1 1659 := ⟨by decide +kernel, rfl⟩
theorem d_law_1659 : gd code 1659 (.iload 4) 2 1661 := ⟨by decide +kernel, rfl⟩
theorem d_law_1661 : gd code 1661 (.iconst 3) 1 1662 := ⟨by decide +kernel, rfl⟩
theorem d_law_1662 : gd code 1662 .iadd 1 1663 := ⟨by decide +kernel, rfl⟩
theorem d_law_1663 : gd code 1663 .iaload 1 1664 := ⟨by decide +kernel, rfl⟩
theorem d_law_1664 : gd code 1664 (.invokevirtual 171) 3 1667 := ⟨by decide +kernel, rfl⟩
theorem d_law_1667 : gd code 1667 (.aload_n 2) 1 1668 := ⟨by decide +kernel, rfl⟩
theorem d_law_1668 : gd code 1668 (.aload_n 0) 1 1669 := ⟨by decide +kernel, rfl⟩
theorem d_law_1669 : gd code 1669 (.iload 4) 2 1671 := ⟨by decide +kernel, rfl⟩
theorem d_law_1671 : gd code 1671 (.iconst 1) 1 1672 := ⟨by decide +kernel, rfl⟩
theorem d_law_1672 : gd code 1672 .iadd 1 1673 := ⟨by decide +kernel, rfl⟩
theorem d_law_1673 : gd code 1673 .iaload 1 1674 := ⟨by decide +kernel, rfl⟩
theorem d_law_1674 : gd code 1674 (.aload_n 0) 1 1675 := ⟨by decide +kernel, rfl⟩
theorem d_law_1675 : gd code 1675 (.iload 4) 2 1677 := ⟨by decide +kernel, rfl⟩
theorem d_law_1677 : gd code 1677 (.iconst 2) 1 1678 := ⟨by decide +kernel, rfl⟩
theorem d_law_1678 : gd code 1678 .iadd 1 1679 := ⟨by decide +kernel, rfl⟩
theorem d_law_1679 : gd code 1679 .iaload 1 1680 := ⟨by decide +kernel, rfl⟩
theorem d_law_1680 : gd code 1680 (.aload_n 0) 1 1681 := ⟨by decide +kernel, rfl⟩
theorem d_law_1681 : gd code 1681 (.iload 4) 2 1683 := ⟨by decide +kernel, rfl⟩
theorem d_law_1683 : gd code 1683 (.iconst 3) 1 1684 := ⟨by decide +kernel, rfl⟩
theorem d_law_1684 : gd code 1684 .iadd 1 1685 := ⟨by decide +kernel, rfl⟩
theorem d_law_1685 : gd code 1685 .iaload 1 1686 := ⟨by decide +kernel, rfl⟩
theorem d_law_1686 : gd code 1686 (.invokevirtual 174) 3 1689 := ⟨by decide +kernel, rfl⟩
theorem d_law_1689 : gd code 1689 (.if_icmp .eq 498) 3 1692 := ⟨by decide +kernel, rfl⟩
theorem d_law_1692 : gd code 1692 (.iconst 0) 1 1693 := ⟨by decide +kernel, rfl⟩
theorem d_law_1693 : gd code 1693 .ireturn 1 1694 := ⟨by decide +kernel, rfl⟩
theorem d_law_1694 : gd code 1694 (.aload_n 1) 1 1695 := ⟨by decide +kernel, rfl⟩
theorem d_law_1695 : gd code 1695 (.aload_n 0) 1 1696 := ⟨by decide +kernel, rfl⟩
theorem d_law_1696 : gd code 1696 (.iload 4) 2 1698 := ⟨by decide +kernel, rfl⟩
theorem d_law_1698 : gd code 1698 (.iconst 1) 1 1699 := ⟨by decide +kernel, rfl⟩
theorem d_law_1699 : gd code 1699 .iadd 1 1700 := ⟨by decide +kernel, rfl⟩
theorem d_law_1700 : gd code 1700 .iaload 1 1701 := ⟨by decide +kernel, rfl⟩
theorem d_law_1701 : gd code 1701 (.invokevirtual 175) 3 1704 := ⟨by decide +kernel, rfl⟩
theorem d_law_1704 : gd code 1704 (.aload_n 2) 1 1705 := ⟨by decide +kernel, rfl⟩
theorem d_law_1705 : gd code 1705 (.aload_n 0) 1 1706 := ⟨by decide +kernel, rfl⟩
theorem d_law_1706 : gd code 1706 (.iload 4) 2 1708 := ⟨by decide +kernel, rfl⟩
theorem d_law_1708 : gd code 1708 (.iconst 1) 1 1709 := ⟨by decide +kernel, rfl⟩
theorem d_law_1709 : gd code 1709 .iadd 1 1710 := ⟨by decide +kernel, rfl⟩
theorem d_law_1710 : gd code 1710 .iaload 1 1711 := ⟨by decide +kernel, rfl⟩
theorem d_law_1711 : gd code 1711 (.invokevirtual 178) 3 1714 := ⟨by decide +kernel, rfl⟩
theorem d_law_1714 : gd code 1714 (.if_icmp .eq 473) 3 1717 := ⟨by decide +kernel, rfl⟩
theorem d_law_1717 : gd code 1717 (.iconst 0) 1 1718 := ⟨by decide +kernel, rfl⟩
theorem d_law_1718 : gd code 1718 .ireturn 1 1719 := ⟨by decide +kernel, rfl⟩
theorem d_law_1719 : gd code 1719 (.aload_n 1) 1 1720 := ⟨by decide +kernel, rfl⟩
theorem d_law_1720 : gd code 1720 (.aload_n 0) 1 1721 := ⟨by decide +kernel, rfl⟩
theorem d_law_1721 : gd code 1721 (.iload 4) 2 1723 := ⟨by decide +kernel, rfl⟩
theorem d_law_1723 : gd code 1723 (.iconst 1) 1 1724 := ⟨by decide +kernel, rfl⟩
theorem d_law_1724 : gd code 1724 .iadd 1 1725 := ⟨by decide +kernel, rfl⟩
theorem d_law_1725 : gd code 1725 .iaload 1 1726 := ⟨by decide +kernel, rfl⟩
theorem d_law_1726 : gd code 1726 (.aload_n 0) 1 1727 := ⟨by decide +kernel, rfl⟩
theorem d_law_1727 : gd code 1727 (.iload 4) 2 1729 := ⟨by decide +kernel, rfl⟩
theorem d_law_1729 : gd code 1729 (.iconst 2) 1 1730 := ⟨by decide +kernel, rfl⟩
theorem d_law_1730 : gd code 1730 .iadd 1 1731 := ⟨by decide +kernel, rfl⟩
theorem d_law_1731 : gd code 1731 .iaload 1 1732 := ⟨by decide +kernel, rfl⟩
theorem d_law_1732 : gd code 1732 (.aload_n 0) 1 1733 := ⟨by decide +kernel, rfl⟩
theorem d_law_1733 : gd code 1733 (.iload 4) 2 1735 := ⟨by decide +kernel, rfl⟩
theorem d_law_1735 : gd code 1735 (.iconst 3) 1 1736 := ⟨by decide +kernel, rfl⟩
theorem d_law_1736 : gd code 1736 .iadd 1 1737 := ⟨by decide +kernel, rfl⟩
theorem d_law_1737 : gd code 1737 .iaload 1 1738 := ⟨by decide +kernel, rfl⟩
theorem d_law_1738 : gd code 1738 (.invokevirtual 179) 3 1741 := ⟨by decide +kernel, rfl⟩
theorem d_law_1741 : gd code 1741 (.aload_n 2) 1 1742 := ⟨by decide +kernel, rfl⟩
theorem d_law_1742 : gd code 1742 (.aload_n 0) 1 1743 := ⟨by decide +kernel, rfl⟩
theorem d_law_1743 : gd code 1743 (.iload 4) 2 1745 := ⟨by decide +kernel, rfl⟩
theorem d_law_1745 : gd code 1745 (.iconst 1) 1 1746 := ⟨by decide +kernel, rfl⟩
theorem d_law_1746 : gd code 1746 .iadd 1 1747 := ⟨by decide +kernel, rfl⟩
theorem d_law_1747 : gd code 1747 .iaload 1 1748 := ⟨by decide +kernel, rfl⟩
theorem d_law_1748 : gd code 1748 (.aload_n 0) 1 1749 := ⟨by decide +kernel, rfl⟩
theorem d_law_1749 : gd code 1749 (.iload 4) 2 1751 := ⟨by decide +kernel, rfl⟩
theorem d_law_1751 : gd code 1751 (.iconst 2) 1 1752 := ⟨by decide +kernel, rfl⟩
theorem d_law_1752 : gd code 1752 .iadd 1 1753 := ⟨by decide +kernel, rfl⟩
theorem d_law_1753 : gd code 1753 .iaload 1 1754 := ⟨by decide +kernel, rfl⟩
theorem d_law_1754 : gd code 1754 (.aload_n 0) 1 1755 := ⟨by decide +kernel, rfl⟩
theorem d_law_1755 : gd code 1755 (.iload 4) 2 1757 := ⟨by decide +kernel, rfl⟩
theorem d_law_1757 : gd code 1757 (.iconst 3) 1 1758 := ⟨by decide +kernel, rfl⟩
theorem d_law_1758 : gd code 1758 .iadd 1 1759 := ⟨by decide +kernel, rfl⟩
theorem d_law_1759 : gd code 1759 .iaload 1 1760 := ⟨by decide +kernel, rfl⟩
theorem d_law_1760 : gd code 1760 (.invokevirtual 182) 3 1763 := ⟨by decide +kernel, rfl⟩
theorem d_law_1763 : gd code 1763 (.if_icmp .eq 424) 3 1766 := ⟨by decide +kernel, rfl⟩
theorem d_law_1766 : gd code 1766 (.iconst 0) 1 1767 := ⟨by decide +kernel, rfl⟩
theorem d_law_1767 : gd code 1767 .ireturn 1 1768 := ⟨by decide +kernel, rfl⟩
theorem d_law_1768 : gd code 1768 (.aload_n 1) 1 1769 := ⟨by decide +kernel, rfl⟩
theorem d_law_1769 : gd code 1769 (.aload_n 0) 1 1770 := ⟨by decide +kernel, rfl⟩
theorem d_law_1770 : gd code 1770 (.iload 4) 2 1772 := ⟨by decide +kernel, rfl⟩
theorem d_law_1772 : gd code 1772 (.iconst 1) 1 1773 := ⟨by decide +kernel, rfl⟩
theorem d_law_1773 : gd code 1773 .iadd 1 1774 := ⟨by decide +kernel, rfl⟩
theorem d_law_1774 : gd code 1774 .iaload 1 1775 := ⟨by decide +kernel, rfl⟩
theorem d_law_1775 : gd code 1775 (.aload_n 0) 1 1776 := ⟨by decide +kernel, rfl⟩
theorem d_law_1776 : gd code 1776 (.iload 4) 2 1778 := ⟨by decide +kernel, rfl⟩
theorem d_law_1778 : gd code 1778 (.iconst 2) 1 1779 := ⟨by decide +kernel, rfl⟩
theorem d_law_1779 : gd code 1779 .iadd 1 1780 := ⟨by decide +kernel, rfl⟩
theorem d_law_1780 : gd code 1780 .iaload 1 1781 := ⟨by decide +kernel, rfl⟩
theorem d_law_1781 : gd code 1781 (.invokevirtual 183) 3 1784 := ⟨by decide +kernel, rfl⟩
theorem d_law_1784 : gd code 1784 (.aload_n 2) 1 1785 := ⟨by decide +kernel, rfl⟩
theorem d_law_1785 : gd code 1785 (.aload_n 0) 1 1786 := ⟨by decide +kernel, rfl⟩
theorem d_law_1786 : gd code 1786 (.iload 4) 2 1788 := ⟨by decide +kernel, rfl⟩
theorem d_law_1788 : gd code 1788 (.iconst 1) 1 1789 := ⟨by decide +kernel, rfl⟩
theorem d_law_1789 : gd code 1789 .iadd 1 1790 := ⟨by decide +kernel, rfl⟩
theorem d_law_1790 : gd code 1790 .iaload 1 1791 := ⟨by decide +kernel, rfl⟩
theorem d_law_1791 : gd code 1791 (.aload_n 0) 1 1792 := ⟨by decide +kernel, rfl⟩
theorem d_law_1792 : gd code 1792 (.iload 4) 2 1794 := ⟨by decide +kernel, rfl⟩
theorem d_law_1794 : gd code 1794 (.iconst 2) 1 1795 := ⟨by decide +kernel, rfl⟩
theorem d_law_1795 : gd code 1795 .iadd 1 1796 := ⟨by decide +kernel, rfl⟩
theorem d_law_1796 : gd code 1796 .iaload 1 1797 := ⟨by decide +kernel, rfl⟩
theorem d_law_1797 : gd code 1797 (.invokevirtual 186) 3 1800 := ⟨by decide +kernel, rfl⟩
theorem d_law_1800 : gd code 1800 (.if_icmp .eq 387) 3 1803 := ⟨by decide +kernel, rfl⟩
theorem d_law_1803 : gd code 1803 (.iconst 0) 1 1804 := ⟨by decide +kernel, rfl⟩
theorem d_law_1804 : gd code 1804 .ireturn 1 1805 := ⟨by decide +kernel, rfl⟩
theorem d_law_1805 : gd code 1805 (.aload_n 1) 1 1806 := ⟨by decide +kernel, rfl⟩
theorem d_law_1806 : gd code 1806 (.aload_n 0) 1 1807 := ⟨by decide +kernel, rfl⟩
theorem d_law_1807 : gd code 1807 (.iload 4) 2 1809 := ⟨by decide +kernel, rfl⟩
theorem d_law_1809 : gd code 1809 (.iconst 1) 1 1810 := ⟨by decide +kernel, rfl⟩
theorem d_law_1810 : gd code 1810 .iadd 1 1811 := ⟨by decide +kernel, rfl⟩
theorem d_law_1811 : gd code 1811 .iaload 1 1812 := ⟨by decide +kernel, rfl⟩
theorem d_law_1812 : gd code 1812 (.aload_n 0) 1 1813 := ⟨by decide +kernel, rfl⟩
theorem d_law_1813 : gd code 1813 (.iload 4) 2 1815 := ⟨by decide +kernel, rfl⟩
theorem d_law_1815 : gd code 1815 (.iconst 2) 1 1816 := ⟨by decide +kernel, rfl⟩
theorem d_law_1816 : gd code 1816 .iadd 1 1817 := ⟨by decide +kernel, rfl⟩
theorem d_law_1817 : gd code 1817 .iaload 1 1818 := ⟨by decide +kernel, rfl⟩
theorem d_law_1818 : gd code 1818 (.invokevirtual 187) 3 1821 := ⟨by decide +kernel, rfl⟩
theorem d_law_1821 : gd code 1821 (.aload_n 2) 1 1822 := ⟨by decide +kernel, rfl⟩
theorem d_law_1822 : gd code 1822 (.aload_n 0) 1 1823 := ⟨by decide +kernel, rfl⟩
theorem d_law_1823 : gd code 1823 (.iload 4) 2 1825 := ⟨by decide +kernel, rfl⟩
theorem d_law_1825 : gd code 1825 (.iconst 1) 1 1826 := ⟨by decide +kernel, rfl⟩
theorem d_law_1826 : gd code 1826 .iadd 1 1827 := ⟨by decide +kernel, rfl⟩
theorem d_law_1827 : gd code 1827 .iaload 1 1828 := ⟨by decide +kernel, rfl⟩
theorem d_law_1828 : gd code 1828 (.aload_n 0) 1 1829 := ⟨by decide +kernel, rfl⟩
theorem d_law_1829 : gd code 1829 (.iload 4) 2 1831 := ⟨by decide +kernel, rfl⟩
theorem d_law_1831 : gd code 1831 (.iconst 2) 1 1832 := ⟨by decide +kernel, rfl⟩
theorem d_law_1832 : gd code 1832 .iadd 1 1833 := ⟨by decide +kernel, rfl⟩
theorem d_law_1833 : gd code 1833 .iaload 1 1834 := ⟨by decide +kernel, rfl⟩
theorem d_law_1834 : gd code 1834 (.invokevirtual 190) 3 1837 := ⟨by decide +kernel, rfl⟩
theorem d_law_1837 : gd code 1837 (.if_icmp .eq 350) 3 1840 := ⟨by decide +kernel, rfl⟩
theorem d_law_1840 : gd code 1840 (.iconst 0) 1 1841 := ⟨by decide +kernel, rfl⟩
theorem d_law_1841 : gd code 1841 .ireturn 1 1842 := ⟨by decide +kernel, rfl⟩
theorem d_law_1842 : gd code 1842 (.aload_n 1) 1 1843 := ⟨by decide +kernel, rfl⟩
theorem d_law_1843 : gd code 1843 (.aload_n 0) 1 1844 := ⟨by decide +kernel, rfl⟩
theorem d_law_1844 : gd code 1844 (.iload 4) 2 1846 := ⟨by decide +kernel, rfl⟩
theorem d_law_1846 : gd code 1846 (.iconst 1) 1 1847 := ⟨by decide +kernel, rfl⟩
theorem d_law_1847 : gd code 1847 .iadd 1 1848 := ⟨by decide +kernel, rfl⟩
theorem d_law_1848 : gd code 1848 .iaload 1 1849 := ⟨by decide +kernel, rfl⟩
theorem d_law_1849 : gd code 1849 (.aload_n 0) 1 1850 := ⟨by decide +kernel, rfl⟩
theorem d_law_1850 : gd code 1850 (.iload 4) 2 1852 := ⟨by decide +kernel, rfl⟩
theorem d_law_1852 : gd code 1852 (.iconst 2) 1 1853 := ⟨by decide +kernel, rfl⟩
theorem d_law_1853 : gd code 1853 .iadd 1 1854 := ⟨by decide +kernel, rfl⟩
theorem d_law_1854 : gd code 1854 .iaload 1 1855 := ⟨by decide +kernel, rfl⟩
theorem d_law_1855 : gd code 1855 (.invokevirtual 191) 3 1858 := ⟨by decide +kernel, rfl⟩
theorem d_law_1858 : gd code 1858 (.aload_n 2) 1 1859 := ⟨by decide +kernel, rfl⟩
theorem d_law_1859 : gd code 1859 (.aload_n 0) 1 1860 := ⟨by decide +kernel, rfl⟩
theorem d_law_1860 : gd code 1860 (.iload 4) 2 1862 := ⟨by decide +kernel, rfl⟩
theorem d_law_1862 : gd code 1862 (.iconst 1) 1 1863 := ⟨by decide +kernel, rfl⟩
theorem d_law_1863 : gd code 1863 .iadd 1 1864 := ⟨by decide +kernel, rfl⟩
theorem d_law_1864 : gd code 1864 .iaload 1 1865 := ⟨by decide +kernel, rfl⟩
theorem d_law_1865 : gd code 1865 (.aload_n 0) 1 1866 := ⟨by decide +kernel, rfl⟩
theorem d_law_1866 : gd code 1866 (.iload 4) 2 1868 := ⟨by decide +kernel, rfl⟩
theorem d_law_1868 : gd code 1868 (.iconst 2) 1 1869 := ⟨by decide +kernel, rfl⟩
theorem d_law_1869 : gd code 1869 .iadd 1 1870 := ⟨by decide +kernel, rfl⟩
theorem d_law_1870 : gd code 1870 .iaload 1 1871 := ⟨by decide +kernel, rfl⟩
theorem d_law_1871 : gd code 1871 (.invokevirtual 194) 3 1874 := ⟨by decide +kernel, rfl⟩
theorem d_law_1874 : gd code 1874 (.if_icmp .eq 313) 3 1877 := ⟨by decide +kernel, rfl⟩
theorem d_law_1877 : gd code 1877 (.iconst 0) 1 1878 := ⟨by decide +kernel, rfl⟩
theorem d_law_1878 : gd code 1878 .ireturn 1 1879 := ⟨by decide +kernel, rfl⟩
theorem d_law_1879 : gd code 1879 (.aload_n 1) 1 1880 := ⟨by decide +kernel, rfl⟩
theorem d_law_1880 : gd code 1880 (.aload_n 0) 1 1881 := ⟨by decide +kernel, rfl⟩
theorem d_law_1881 : gd code 1881 (.iload 4) 2 1883 := ⟨by decide +kernel, rfl⟩
theorem d_law_1883 : gd code 1883 (.iconst 1) 1 1884 := ⟨by decide +kernel, rfl⟩
theorem d_law_1884 : gd code 1884 .iadd 1 1885 := ⟨by decide +kernel, rfl⟩
theorem d_law_1885 : gd code 1885 .iaload 1 1886 := ⟨by decide +kernel, rfl⟩
theorem d_law_1886 : gd code 1886 (.aload_n 0) 1 1887 := ⟨by decide +kernel, rfl⟩
theorem d_law_1887 : gd code 1887 (.iload 4) 2 1889 := ⟨by decide +kernel, rfl⟩
theorem d_law_1889 : gd code 1889 (.iconst 2) 1 1890 := ⟨by decide +kernel, rfl⟩
theorem d_law_1890 : gd code 1890 .iadd 1 1891 := ⟨by decide +kernel, rfl⟩
theorem d_law_1891 : gd code 1891 .iaload 1 1892 := ⟨by decide +kernel, rfl⟩
theorem d_law_1892 : gd code 1892 (.invokevirtual 195) 3 1895 := ⟨by decide +kernel, rfl⟩
theorem d_law_1895 : gd code 1895 (.aload_n 2) 1 1896 := ⟨by decide +kernel, rfl⟩
theorem d_law_1896 : gd code 1896 (.aload_n 0) 1 1897 := ⟨by decide +kernel, rfl⟩
theorem d_law_1897 : gd code 1897 (.iload 4) 2 1899 := ⟨by decide +kernel, rfl⟩
theorem d_law_1899 : gd code 1899 (.iconst 1) 1 1900 := ⟨by decide +kernel, rfl⟩
theorem d_law_1900 : gd code 1900 .iadd 1 1901 := ⟨by decide +kernel, rfl⟩
theorem d_law_1901 : gd code 1901 .iaload 1 1902 := ⟨by decide +kernel, rfl⟩
theorem d_law_1902 : gd code 1902 (.aload_n 0) 1 1903 := ⟨by decide +kernel, rfl⟩
theorem d_law_1903 : gd code 1903 (.iload 4) 2 1905 := ⟨by decide +kernel, rfl⟩
theorem d_law_1905 : gd code 1905 (.iconst 2) 1 1906 := ⟨by decide +kernel, rfl⟩
theorem d_law_1906 : gd code 1906 .iadd 1 1907 := ⟨by decide +kernel, rfl⟩
theorem d_law_1907 : gd code 1907 .iaload 1 1908 := ⟨by decide +kernel, rfl⟩
theorem d_law_1908 : gd code 1908 (.invokevirtual 198) 3 1911 := ⟨by decide +kernel, rfl⟩
theorem d_law_1911 : gd code 1911 (.if_icmp .eq 276) 3 1914 := ⟨by decide +kernel, rfl⟩
theorem d_law_1914 : gd code 1914 (.iconst 0) 1 1915 := ⟨by decide +kernel, rfl⟩
theorem d_law_1915 : gd code 1915 .ireturn 1 1916 := ⟨by decide +kernel, rfl⟩
theorem d_law_1916 : gd code 1916 (.aload_n 1) 1 1917 := ⟨by decide +kernel, rfl⟩
theorem d_law_1917 : gd code 1917 (.aload_n 0) 1 1918 := ⟨by decide +kernel, rfl⟩
theorem d_law_1918 : gd code 1918 (.iload 4) 2 1920 := ⟨by decide +kernel, rfl⟩
theorem d_law_1920 : gd code 1920 (.iconst 1) 1 1921 := ⟨by decide +kernel, rfl⟩
theorem d_law_1921 : gd code 1921 .iadd 1 1922 := ⟨by decide +kernel, rfl⟩
theorem d_law_1922 : gd code 1922 .iaload 1 1923 := ⟨by decide +kernel, rfl⟩
theorem d_law_1923 : gd code 1923 (.aload_n 0) 1 1924 := ⟨by decide +kernel, rfl⟩
theorem d_law_1924 : gd code 1924 (.iload 4) 2 1926 := ⟨by decide +kernel, rfl⟩
theorem d_law_1926 : gd code 1926 (.iconst 2) 1 1927 := ⟨by decide +kernel, rfl⟩
theorem d_law_1927 : gd code 1927 .iadd 1 1928 := ⟨by decide +kernel, rfl⟩
theorem d_law_1928 : gd code 1928 .iaload 1 1929 := ⟨by decide +kernel, rfl⟩
theorem d_law_1929 : gd code 1929 (.aload_n 0) 1 1930 := ⟨by decide +kernel, rfl⟩
theorem d_law_1930 : gd code 1930 (.iload 4) 2 1932 := ⟨by decide +kernel, rfl⟩
theorem d_law_1932 : gd code 1932 (.iconst 3) 1 1933 := ⟨by decide +kernel, rfl⟩
theorem d_law_1933 : gd code 1933 .iadd 1 1934 := ⟨by decide +kernel, rfl⟩
theorem d_law_1934 : gd code 1934 .iaload 1 1935 := ⟨by decide +kernel, rfl⟩
theorem d_law_1935 : gd code 1935 (.aload_n 0) 1 1936 := ⟨by decide +kernel, rfl⟩
theorem d_law_1936 : gd code 1936 (.iload 4) 2 1938 := ⟨by decide +kernel, rfl⟩
theorem d_law_1938 : gd code 1938 (.iconst 4) 1 1939 := ⟨by decide +kernel, rfl⟩
theorem d_law_1939 : gd code 1939 .iadd 1 1940 := ⟨by decide +kernel, rfl⟩
theorem d_law_1940 : gd code 1940 .iaload 1 1941 := ⟨by decide +kernel, rfl⟩
theorem d_law_1941 : gd code 1941 (.invokevirtual 199) 3 1944 := ⟨by decide +kernel, rfl⟩
theorem d_law_1944 : gd code 1944 (.aload_n 2) 1 1945 := ⟨by decide +kernel, rfl⟩
theorem d_law_1945 : gd code 1945 (.aload_n 0) 1 1946 := ⟨by decide +kernel, rfl⟩
theorem d_law_1946 : gd code 1946 (.iload 4) 2 1948 := ⟨by decide +kernel, rfl⟩
theorem d_law_1948 : gd code 1948 (.iconst 1) 1 1949 := ⟨by decide +kernel, rfl⟩
theorem d_law_1949 : gd code 1949 .iadd 1 1950 := ⟨by decide +kernel, rfl⟩
theorem d_law_1950 : gd code 1950 .iaload 1 1951 := ⟨by decide +kernel, rfl⟩
theorem d_law_1951 : gd code 1951 (.aload_n 0) 1 1952 := ⟨by decide +kernel, rfl⟩
theorem d_law_1952 : gd code 1952 (.iload 4) 2 1954 := ⟨by decide +kernel, rfl⟩
theorem d_law_1954 : gd code 1954 (.iconst 2) 1 1955 := ⟨by decide +kernel, rfl⟩
theorem d_law_1955 : gd code 1955 .iadd 1 1956 := ⟨by decide +kernel, rfl⟩
theorem d_law_1956 : gd code 1956 .iaload 1 1957 := ⟨by decide +kernel, rfl⟩
theorem d_law_1957 : gd code 1957 (.aload_n 0) 1 1958 := ⟨by decide +kernel, rfl⟩
theorem d_law_1958 : gd code 1958 (.iload 4) 2 1960 := ⟨by decide +kernel, rfl⟩
theorem d_law_1960 : gd code 1960 (.iconst 3) 1 1961 := ⟨by decide +kernel, rfl⟩
theorem d_law_1961 : gd code 1961 .iadd 1 1962 := ⟨by decide +kernel, rfl⟩
theorem d_law_1962 : gd code 1962 .iaload 1 1963 := ⟨by decide +kernel, rfl⟩
theorem d_law_1963 : gd code 1963 (.aload_n 0) 1 1964 := ⟨by decide +kernel, rfl⟩
theorem d_law_1964 : gd code 1964 (.iload 4) 2 1966 := ⟨by decide +kernel, rfl⟩
theorem d_law_1966 : gd code 1966 (.iconst 4) 1 1967 := ⟨by decide +kernel, rfl⟩
theorem d_law_1967 : gd code 1967 .iadd 1 1968 := ⟨by decide +kernel, rfl⟩
theorem d_law_1968 : gd code 1968 .iaload 1 1969 := ⟨by decide +kernel, rfl⟩
theorem d_law_1969 : gd code 1969 (.invokevirtual 202) 3 1972 := ⟨by decide +kernel, rfl⟩
theorem d_law_1972 : gd code 1972 (.if_icmp .eq 215) 3 1975 := ⟨by decide +kernel, rfl⟩
theorem d_law_1975 : gd code 1975 (.iconst 0) 1 1976 := ⟨by decide +kernel, rfl⟩
theorem d_law_1976 : gd code 1976 .ireturn 1 1977 := ⟨by decide +kernel, rfl⟩
theorem d_law_1977 : gd code 1977 (.aload_n 1) 1 1978 := ⟨by decide +kernel, rfl⟩
theorem d_law_1978 : gd code 1978 (.aload_n 0) 1 1979 := ⟨by decide +kernel, rfl⟩
theorem d_law_1979 : gd code 1979 (.iload 4) 2 1981 := ⟨by decide +kernel, rfl⟩
theorem d_law_1981 : gd code 1981 (.iconst 1) 1 1982 := ⟨by decide +kernel, rfl⟩
theorem d_law_1982 : gd code 1982 .iadd 1 1983 := ⟨by decide +kernel, rfl⟩
theorem d_law_1983 : gd code 1983 .iaload 1 1984 := ⟨by decide +kernel, rfl⟩
theorem d_law_1984 : gd code 1984 (.invokevirtual 203) 3 1987 := ⟨by decide +kernel, rfl⟩
theorem d_law_1987 : gd code 1987 (.aload_n 2) 1 1988 := ⟨by decide +kernel, rfl⟩
theorem d_law_1988 : gd code 1988 (.aload_n 0) 1 1989 := ⟨by decide +kernel, rfl⟩
theorem d_law_1989 : gd code 1989 (.iload 4) 2 1991 := ⟨by decide +kernel, rfl⟩
theorem d_law_1991 : gd code 1991 (.iconst 1) 1 1992 := ⟨by decide +kernel, rfl⟩
theorem d_law_1992 : gd code 1992 .iadd 1 1993 := ⟨by decide +kernel, rfl⟩
theorem d_law_1993 : gd code 1993 .iaload 1 1994 := ⟨by decide +kernel, rfl⟩
theorem d_law_1994 : gd code 1994 (.invokevirtual 206) 3 1997 := ⟨by decide +kernel, rfl⟩
theorem d_law_1997 : gd code 1997 (.if_icmp .eq 190) 3 2000 := ⟨by decide +kernel, rfl⟩
theorem d_law_2000 : gd code 2000 (.iconst 0) 1 2001 := ⟨by decide +kernel, rfl⟩
theorem d_law_2001 : gd code 2001 .ireturn 1 2002 := ⟨by decide +kernel, rfl⟩
theorem d_law_2002 : gd code 2002 (.aload_n 1) 1 2003 := ⟨by decide +kernel, rfl⟩
theorem d_law_2003 : gd code 2003 (.aload_n 0) 1 2004 := ⟨by decide +kernel, rfl⟩
theorem d_law_2004 : gd code 2004 (.iload 4) 2 2006 := ⟨by decide +kernel, rfl⟩
theorem d_law_2006 : gd code 2006 (.iconst 1) 1 2007 := ⟨by decide +kernel, rfl⟩
theorem d_law_2007 : gd code 2007 .iadd 1 2008 := ⟨by decide +kernel, rfl⟩
theorem d_law_2008 : gd code 2008 .iaload 1 2009 := ⟨by decide +kernel, rfl⟩
theorem d_law_2009 : gd code 2009 (.invokevirtual 207) 3 2012 := ⟨by decide +kernel, rfl⟩
theorem d_law_2012 : gd code 2012 (.aload_n 2) 1 2013 := ⟨by decide +kernel, rfl⟩
theorem d_law_2013 : gd code 2013 (.aload_n 0) 1 2014 := ⟨by decide +kernel, rfl⟩
theorem d_law_2014 : gd code 2014 (.iload 4) 2 2016 := ⟨by decide +kernel, rfl⟩
theorem d_law_2016 : gd code 2016 (.iconst 1) 1 2017 := ⟨by decide +kernel, rfl⟩
theorem d_law_2017 : gd code 2017 .iadd 1 2018 := ⟨by decide +kernel, rfl⟩
theorem d_law_2018 : gd code 2018 .iaload 1 2019 := ⟨by decide +kernel, rfl⟩
theorem d_law_2019 : gd code 2019 (.invokevirtual 210) 3 2022 := ⟨by decide +kernel, rfl⟩
theorem d_law_2022 : gd code 2022 (.if_icmp .eq 165) 3 2025 := ⟨by decide +kernel, rfl⟩
theorem d_law_2025 : gd code 2025 (.iconst 0) 1 2026 := ⟨by decide +kernel, rfl⟩
theorem d_law_2026 : gd code 2026 .ireturn 1 2027 := ⟨by decide +kernel, rfl⟩
theorem d_law_2027 : gd code 2027 (.aload_n 1) 1 2028 := ⟨by decide +kernel, rfl⟩
theorem d_law_2028 : gd code 2028 (.aload_n 0) 1 2029 := ⟨by decide +kernel, rfl⟩
theorem d_law_2029 : gd code 2029 (.iload 4) 2 2031 := ⟨by decide +kernel, rfl⟩
theorem d_law_2031 : gd code 2031 (.iconst 1) 1 2032 := ⟨by decide +kernel, rfl⟩
theorem d_law_2032 : gd code 2032 .iadd 1 2033 := ⟨by decide +kernel, rfl⟩
theorem d_law_2033 : gd code 2033 .iaload 1 2034 := ⟨by decide +kernel, rfl⟩
theorem d_law_2034 : gd code 2034 (.aload_n 0) 1 2035 := ⟨by decide +kernel, rfl⟩
theorem d_law_2035 : gd code 2035 (.iload 4) 2 2037 := ⟨by decide +kernel, rfl⟩
theorem d_law_2037 : gd code 2037 (.iconst 2) 1 2038 := ⟨by decide +kernel, rfl⟩
theorem d_law_2038 : gd code 2038 .iadd 1 2039 := ⟨by decide +kernel, rfl⟩
theorem d_law_2039 : gd code 2039 .iaload 1 2040 := ⟨by decide +kernel, rfl⟩
theorem d_law_2040 : gd code 2040 (.aload_n 0) 1 2041 := ⟨by decide +kernel, rfl⟩
theorem d_law_2041 : gd code 2041 (.iload 4) 2 2043 := ⟨by decide +kernel, rfl⟩
theorem d_law_2043 : gd code 2043 (.iconst 3) 1 2044 := ⟨by decide +kernel, rfl⟩
theorem d_law_2044 : gd code 2044 .iadd 1 2045 := ⟨by decide +kernel, rfl⟩
theorem d_law_2045 : gd code 2045 .iaload 1 2046 := ⟨by decide +kernel, rfl⟩
theorem d_law_2046 : gd code 2046 (.aload_n 0) 1 2047 := ⟨by decide +kernel, rfl⟩
theorem d_law_2047 : gd code 2047 (.iload 4) 2 2049 := ⟨by decide +kernel, rfl⟩
theorem d_law_2049 : gd code 2049 (.iconst 4) 1 2050 := ⟨by decide +kernel, rfl⟩
theorem d_law_2050 : gd code 2050 .iadd 1 2051 := ⟨by decide +kernel, rfl⟩
theorem d_law_2051 : gd code 2051 .iaload 1 2052 := ⟨by decide +kernel, rfl⟩
theorem d_law_2052 : gd code 2052 (.aload_n 0) 1 2053 := ⟨by decide +kernel, rfl⟩
theorem d_law_2053 : gd code 2053 (.iload 4) 2 2055 := ⟨by decide +kernel, rfl⟩
theorem d_law_2055 : gd code 2055 (.iconst 5) 1 2056 := ⟨by decide +kernel, rfl⟩
theorem d_law_2056 : gd code 2056 .iadd 1 2057 := ⟨by decide +kernel, rfl⟩
theorem d_law_2057 : gd code 2057 .iaload 1 2058 := ⟨by decide +kernel, rfl⟩
theorem d_law_2058 : gd code 2058 (.invokevirtual 211) 3 2061 := ⟨by decide +kernel, rfl⟩
theorem d_law_2061 : gd code 2061 (.aload_n 2) 1 2062 := ⟨by decide +kernel, rfl⟩
theorem d_law_2062 : gd code 2062 (.aload_n 0) 1 2063 := ⟨by decide +kernel, rfl⟩
theorem d_law_2063 : gd code 2063 (.iload 4) 2 2065 := ⟨by decide +kernel, rfl⟩
theorem d_law_2065 : gd code 2065 (.iconst 1) 1 2066 := ⟨by decide +kernel, rfl⟩
theorem d_law_2066 : gd code 2066 .iadd 1 2067 := ⟨by decide +kernel, rfl⟩
theorem d_law_2067 : gd code 2067 .iaload 1 2068 := ⟨by decide +kernel, rfl⟩
theorem d_law_2068 : gd code 2068 (.aload_n 0) 1 2069 := ⟨by decide +kernel, rfl⟩
theorem d_law_2069 : gd code 2069 (.iload 4) 2 2071 := ⟨by decide +kernel, rfl⟩
theorem d_law_2071 : gd code 2071 (.iconst 2) 1 2072 := ⟨by decide +kernel, rfl⟩
theorem d_law_2072 : gd code 2072 .iadd 1 2073 := ⟨by decide +kernel, rfl⟩
theorem d_law_2073 : gd code 2073 .iaload 1 2074 := ⟨by decide +kernel, rfl⟩
theorem d_law_2074 : gd code 2074 (.aload_n 0) 1 2075 := ⟨by decide +kernel, rfl⟩
theorem d_law_2075 : gd code 2075 (.iload 4) 2 2077 := ⟨by decide +kernel, rfl⟩
theorem d_law_2077 : gd code 2077 (.iconst 3) 1 2078 := ⟨by decide +kernel, rfl⟩
theorem d_law_2078 : gd code 2078 .iadd 1 2079 := ⟨by decide +kernel, rfl⟩
theorem d_law_2079 : gd code 2079 .iaload 1 2080 := ⟨by decide +kernel, rfl⟩
theorem d_law_2080 : gd code 2080 (.aload_n 0) 1 2081 := ⟨by decide +kernel, rfl⟩
theorem d_law_2081 : gd code 2081 (.iload 4) 2 2083 := ⟨by decide +kernel, rfl⟩
theorem d_law_2083 : gd code 2083 (.iconst 4) 1 2084 := ⟨by decide +kernel, rfl⟩
theorem d_law_2084 : gd code 2084 .iadd 1 2085 := ⟨by decide +kernel, rfl⟩
theorem d_law_2085 : gd code 2085 .iaload 1 2086 := ⟨by decide +kernel, rfl⟩
theorem d_law_2086 : gd code 2086 (.aload_n 0) 1 2087 := ⟨by decide +kernel, rfl⟩
theorem d_law_2087 : gd code 2087 (.iload 4) 2 2089 := ⟨by decide +kernel, rfl⟩
theorem d_law_2089 : gd code 2089 (.iconst 5) 1 2090 := ⟨by decide +kernel, rfl⟩
theorem d_law_2090 : gd code 2090 .iadd 1 2091 := ⟨by decide +kernel, rfl⟩
theorem d_law_2091 : gd code 2091 .iaload 1 2092 := ⟨by decide +kernel, rfl⟩
theorem d_law_2092 : gd code 2092 (.invokevirtual 214) 3 2095 := ⟨by decide +kernel, rfl⟩
theorem d_law_2095 : gd code 2095 (.if_icmp .eq 92) 3 2098 := ⟨by decide +kernel, rfl⟩
theorem d_law_2098 : gd code 2098 (.iconst 0) 1 2099 := ⟨by decide +kernel, rfl⟩
theorem d_law_2099 : gd code 2099 .ireturn 1 2100 := ⟨by decide +kernel, rfl⟩
theorem d_law_2100 : gd code 2100 (.aload_n 1) 1 2101 := ⟨by decide +kernel, rfl⟩
theorem d_law_2101 : gd code 2101 (.aload_n 0) 1 2102 := ⟨by decide +kernel, rfl⟩
theorem d_law_2102 : gd code 2102 (.iload 4) 2 2104 := ⟨by decide +kernel, rfl⟩
theorem d_law_2104 : gd code 2104 (.iconst 1) 1 2105 := ⟨by decide +kernel, rfl⟩
theorem d_law_2105 : gd code 2105 .iadd 1 2106 := ⟨by decide +kernel, rfl⟩
theorem d_law_2106 : gd code 2106 .iaload 1 2107 := ⟨by decide +kernel, rfl⟩
theorem d_law_2107 : gd code 2107 (.aload_n 0) 1 2108 := ⟨by decide +kernel, rfl⟩
theorem d_law_2108 : gd code 2108 (.iload 4) 2 2110 := ⟨by decide +kernel, rfl⟩
theorem d_law_2110 : gd code 2110 (.iconst 2) 1 2111 := ⟨by decide +kernel, rfl⟩
theorem d_law_2111 : gd code 2111 .iadd 1 2112 := ⟨by decide +kernel, rfl⟩
theorem d_law_2112 : gd code 2112 .iaload 1 2113 := ⟨by decide +kernel, rfl⟩
theorem d_law_2113 : gd code 2113 (.aload_n 0) 1 2114 := ⟨by decide +kernel, rfl⟩
theorem d_law_2114 : gd code 2114 (.iload 4) 2 2116 := ⟨by decide +kernel, rfl⟩
theorem d_law_2116 : gd code 2116 (.iconst 3) 1 2117 := ⟨by decide +kernel, rfl⟩
theorem d_law_2117 : gd code 2117 .iadd 1 2118 := ⟨by decide +kernel, rfl⟩
theorem d_law_2118 : gd code 2118 .iaload 1 2119 := ⟨by decide +kernel, rfl⟩
theorem d_law_2119 : gd code 2119 (.invokevirtual 215) 3 2122 := ⟨by decide +kernel, rfl⟩
theorem d_law_2122 : gd code 2122 (.aload_n 2) 1 2123 := ⟨by decide +kernel, rfl⟩
theorem d_law_2123 : gd code 2123 (.aload_n 0) 1 2124 := ⟨by decide +kernel, rfl⟩
theorem d_law_2124 : gd code 2124 (.iload 4) 2 2126 := ⟨by decide +kernel, rfl⟩
theorem d_law_2126 : gd code 2126 (.iconst 1) 1 2127 := ⟨by decide +kernel, rfl⟩
theorem d_law_2127 : gd code 2127 .iadd 1 2128 := ⟨by decide +kernel, rfl⟩
theorem d_law_2128 : gd code 2128 .iaload 1 2129 := ⟨by decide +kernel, rfl⟩
theorem d_law_2129 : gd code 2129 (.aload_n 0) 1 2130 := ⟨by decide +kernel, rfl⟩
theorem d_law_2130 : gd code 2130 (.iload 4) 2 2132 := ⟨by decide +kernel, rfl⟩
theorem d_law_2132 : gd code 2132 (.iconst 2) 1 2133 := ⟨by decide +kernel, rfl⟩
theorem d_law_2133 : gd code 2133 .iadd 1 2134 := ⟨by decide +kernel, rfl⟩
theorem d_law_2134 : gd code 2134 .iaload 1 2135 := ⟨by decide +kernel, rfl⟩
theorem d_law_2135 : gd code 2135 (.aload_n 0) 1 2136 := ⟨by decide +kernel, rfl⟩
theorem d_law_2136 : gd code 2136 (.iload 4) 2 2138 := ⟨by decide +kernel, rfl⟩
theorem d_law_2138 : gd code 2138 (.iconst 3) 1 2139 := ⟨by decide +kernel, rfl⟩
theorem d_law_2139 : gd code 2139 .iadd 1 2140 := ⟨by decide +kernel, rfl⟩
theorem d_law_2140 : gd code 2140 .iaload 1 2141 := ⟨by decide +kernel, rfl⟩
theorem d_law_2141 : gd code 2141 (.invokevirtual 218) 3 2144 := ⟨by decide +kernel, rfl⟩
theorem d_law_2144 : gd code 2144 (.if_icmp .eq 43) 3 2147 := ⟨by decide +kernel, rfl⟩
theorem d_law_2147 : gd code 2147 (.iconst 0) 1 2148 := ⟨by decide +kernel, rfl⟩
theorem d_law_2148 : gd code 2148 .ireturn 1 2149 := ⟨by decide +kernel, rfl⟩
theorem d_law_2149 : gd code 2149 (.aload_n 1) 1 2150 := ⟨by decide +kernel, rfl⟩
theorem d_law_2150 : gd code 2150 (.invokevirtual 219) 3 2153 := ⟨by decide +kernel, rfl⟩
theorem d_law_2153 : gd code 2153 (.aload_n 2) 1 2154 := ⟨by decide +kernel, rfl⟩
theorem d_law_2154 : gd code 2154 (.invokevirtual 222) 3 2157 := ⟨by decide +kernel, rfl⟩
theorem d_law_2157 : gd code 2157 (.if_icmp .eq 30) 3 2160 := ⟨by decide +kernel, rfl⟩
theorem d_law_2160 : gd code 2160 (.iconst 0) 1 2161 := ⟨by decide +kernel, rfl⟩
theorem d_law_2161 : gd code 2161 .ireturn 1 2162 := ⟨by decide +kernel, rfl⟩
theorem d_law_2162 : gd code 2162 (.aload_n 1) 1 2163 := ⟨by decide +kernel, rfl⟩
theorem d_law_2163 : gd code 2163 (.aload_n 0) 1 2164 := ⟨by decide +kernel, rfl⟩
theorem d_law_2164 : gd code 2164 (.iload 4) 2 2166 := ⟨by decide +kernel, rfl⟩
theorem d_law_2166 : gd code 2166 (.iconst 1) 1 2167 := ⟨by decide +kernel, rfl⟩
theorem d_law_2167 : gd code 2167 .iadd 1 2168 := ⟨by decide +kernel, rfl⟩
theorem d_law_2168 : gd code 2168 .iaload 1 2169 := ⟨by decide +kernel, rfl⟩
theorem d_law_2169 : gd code 2169 (.invokevirtual 223) 3 2172 := ⟨by decide +kernel, rfl⟩
theorem d_law_2172 : gd code 2172 (.aload_n 2) 1 2173 := ⟨by decide +kernel, rfl⟩
theorem d_law_2173 : gd code 2173 (.aload_n 0) 1 2174 := ⟨by decide +kernel, rfl⟩
theorem d_law_2174 : gd code 2174 (.iload 4) 2 2176 := ⟨by decide +kernel, rfl⟩
theorem d_law_2176 : gd code 2176 (.iconst 1) 1 2177 := ⟨by decide +kernel, rfl⟩
theorem d_law_2177 : gd code 2177 .iadd 1 2178 := ⟨by decide +kernel, rfl⟩
theorem d_law_2178 : gd code 2178 .iaload 1 2179 := ⟨by decide +kernel, rfl⟩
theorem d_law_2179 : gd code 2179 (.invokevirtual 226) 3 2182 := ⟨by decide +kernel, rfl⟩
theorem d_law_2182 : gd code 2182 (.if_icmp .eq 5) 3 2185 := ⟨by decide +kernel, rfl⟩
theorem d_law_2185 : gd code 2185 (.iconst 0) 1 2186 := ⟨by decide +kernel, rfl⟩
theorem d_law_2186 : gd code 2186 .ireturn 1 2187 := ⟨by decide +kernel, rfl⟩
theorem d_law_2187 : gd code 2187 (.iinc 4 8) 3 2190 := ⟨by decide +kernel, rfl⟩
theorem d_law_2190 : gd code 2190 (.goto (-2167)) 3 2193 := ⟨by decide +kernel, rfl⟩
theorem d_law_2193 : gd code 2193 (.iconst 1) 1 2194 := ⟨by decide +kernel, rfl⟩
theorem d_law_2194 : gd code 2194 .ireturn 1 2195 := ⟨by decide +kernel, rfl⟩
def gs_pst (i : Nat) : List Value := [.ref 118, .ref 0, .ref 78, .ref 98, .int (nI i), gs_J, gs_J]
section GSLX
variable {p : Program} {l : Launch} {e : Env} {R : Room} {s : State} {m : MethodId} {args : Array Value} {below : List Frame} {meth : Method} {c : Code} {cells slots : Nat} {Q : State → Prop}
variable {ad : Nat → Nat} {g : va_G} {tyc : Nat → ClassId} {own : String} {cc : ByteArray} {nL : Nat} {ret : Option FieldType} {d : Nat}
variable {pc pc2 : Nat} {ls ls2 : List Value} {st : List Value} {μ : gs_M}
theorem gs_nA {b : Nat} (had : ∀ k, k < 99 → ad k = s.heap.size + k) (hb : b < s.heap.size) : ¬ gs_A ad b := fun ⟨a, ha, h⟩ => by rw [had a ha] at h; omega
theorem r_sld (hK : KC p R s m args meth c ad g tyc own cc nL ret d) {L : Nat} {xs : Nat → Int32} (hX : va_X (ad 118) L xs s s.heap) (hbl : ad 118 < s.heap.size) (had : ∀ k, k < 99 → ad k = s.heap.size + k) {i : Int32} (hi : vp_in i L) (hd : gd cc pc .iaload 1 pc2) (k : WJ p l e R s m args below meth c cells slots Q ad g tyc nL pc2 ls (.int (xs i.toNatClampNeg) :: st) μ) : WJ p l e R s m args below meth c cells slots Q ad g tyc nL pc ls (.int i :: .ref 118 :: st) μ := by
  obtain ⟨hd, rfl⟩ := hd
  exact fun H locs lr hP hS hl => va_sld hK.1 hK.2.1 hX hbl (gs_nA had hbl) hS hi hd (k H locs lr hP hS hl)
theorem r_slen2 (hK : KC p R s m args meth c ad g tyc own cc nL ret d) {L : Nat} {xs : Nat → Int32} (hX : va_X (ad 118) L xs s s.heap) (hbl : ad 118 < s.heap.size) (had : ∀ k, k < 99 → ad k = s.heap.size + k) (hd : gd cc pc .arraylength 1 pc2) (k : WJ p l e R s m args below meth c cells slots Q ad g tyc nL pc2 ls (.int (nI L) :: st) μ) : WJ p l e R s m args below meth c cells slots Q ad g tyc nL pc ls (.ref 118 :: st) μ := by
  obtain ⟨hd, rfl⟩ := hd
  exact fun H locs lr hP hS hl => va_slen hK.1 hK.2.1 hX hbl (gs_nA had hbl) hS hd (k H locs lr hP hS hl)
end GSLX
theorem sl_in1 {i L : Nat} (h : i + 8 ≤ L) (hL : L ≤ 4096) : vp_in (nI i + 1) L := by
  rw [show (1 : Int32) = nI 1 by decide +kernel, nI_add]
  exact vp_in_nI (by omega) (by omega)
theorem sl_in2 {i L : Nat} (h : i + 8 ≤ L) (hL : L ≤ 4096) : vp_in (nI i + 2) L := by
  rw [show (2 : Int32) = nI 2 by decide +kernel, nI_add]
  exact vp_in_nI (by omega) (by omega)
theorem sl_in3 {i L : Nat} (h : i + 8 ≤ L) (hL : L ≤ 4096) : vp_in (nI i + 3) L := by
  rw [show (3 : Int32) = nI 3 by decide +kernel, nI_add]
  exact vp_in_nI (by omega) (by omega)
theorem sl_in4 {i L : Nat} (h : i + 8 ≤ L) (hL : L ≤ 4096) : vp_in (nI i + 4) L := by
  rw [show (4 : Int32) = nI 4 by decide +kernel, nI_add]
  exact vp_in_nI (by omega) (by omega)
theorem sl_in5 {i L : Nat} (h : i + 8 ≤ L) (hL : L ≤ 4096) : vp_in (nI i + 5) L := by
  rw [show (5 : Int32) = nI 5 by decide +kernel, nI_add]
  exact vp_in_nI (by omega) (by omega)
theorem sl_in6 {i L : Nat} (h : i + 8 ≤ L) (hL : L ≤ 4096) : vp_in (nI i + 6) L := by
  rw [show (6 : Int32) = nI 6 by decide +kernel, nI_add]
  exact vp_in_nI (by omega) (by omega)
theorem sl_in7 {i L : Nat} (h : i + 8 ≤ L) (hL : L ≤ 4096) : vp_in (nI i + 7) L := by
  rw [show (7 : Int32) = nI 7 by decide +kernel, nI_add]
  exact vp_in_nI (by omega) (by omega)
theorem sl_in0 {i L : Nat} (h : i + 8 ≤ L) (hL : L ≤ 4096) : vp_in (nI i) L := vp_in_nI (by omega) (by omega)
set_option maxRecDepth 20000 in
theorem lc_0 {p : Program} {l : Launch} {e : Env} {s : State} {m : MethodId} {below : List Frame} {meth : Method} {c : Code} {cells slots : Nat} {Q : State → Prop} {ad : Nat → Nat} {g : va_G} {tyc : Nat → ClassId} {L i : Nat} {xs : Nat → Int32} {Rel : gs_M → Prop} {μ : gs_M} (hK : KC p room_1 s m #[Value.ref (ad 118)] meth c ad g tyc "GrainShiftLaw" code 7 ret 1000) (hX : va_X (ad 118) L xs s s.heap) (hbl : ad 118 < s.heap.size) (had : ∀ k, k < 99 → ad k = s.heap.size + k) (hi : i + 8 ≤ L) (hL : L ≤ 4096) (hcs : cells ≤ room_1.cells ∧ slots ≤ room_1.slots) (hH : ∃ (r : Int32) (μ1 μ2 : gs_M), D_X11_feed (xs (nI i + 1).toNatClampNeg) (xs (nI i + 2).toNatClampNeg) (xs (nI i + 3).toNatClampNeg) (xs (nI i + 4).toNatClampNeg) (xs (nI i + 5).toNatClampNeg) μ = some (r, μ1) ∧ D_X12_feed (xs (nI i + 1).toNatClampNeg) (xs (nI i + 2).toNatClampNeg) (xs (nI i + 3).toNatClampNeg) (xs (nI i + 4).toNatClampNeg) (xs (nI i + 5).toNatClampNeg) μ1 = some (r, μ2) ∧ Rel μ2) (kk : ∀ μ2, Rel μ2 → WJ p l e room_1 s m #[Value.ref (ad 118)] below meth c cells slots Q ad g tyc 7 2187 (gs_pst i) ([]) μ2) : WJ p l e room_1 s m #[Value.ref (ad 118)] below meth c cells slots Q ad g tyc 7 248 (gs_pst i) ([]) μ := by
  obtain ⟨r, μ1, μ2, e1, e2, hR⟩ := hH
  refine r_aload_n hK d_law_248 rfl rfl ?_
  refine r_aload_n hK d_law_249 rfl rfl ?_
  refine r_iload hK d_law_250 rfl ?_
  refine r_iconst hK d_law_252 ci_1 ?_
  refine r_iadd hK d_law_253 ?_
  refine r_sld hK hX hbl had (sl_in1 hi hL) d_law_254 ?_
  refine r_aload_n hK d_law_255 rfl rfl ?_
  refine r_iload hK d_law_256 rfl ?_
  refine r_iconst hK d_law_258 ci_2 ?_
  refine r_iadd hK d_law_259 ?_
  refine r_sld hK hX hbl had (sl_in2 hi hL) d_law_260 ?_
  refine r_aload_n hK d_law_261 rfl rfl ?_
  refine r_iload hK d_law_262 rfl ?_
  refine r_iconst hK d_law_264 ci_3 ?_
  refine r_iadd hK d_law_265 ?_
  refine r_sld hK hX hbl had (sl_in3 hi hL) d_law_266 ?_
  refine r_aload_n hK d_law_267 rfl rfl ?_
  refine r_iload hK d_law_268 rfl ?_
  refine r_iconst hK d_law_270 ci_4 ?_
  refine r_iadd hK d_law_271 ?_
  refine r_sld hK hX hbl had (sl_in4 hi hL) d_law_272 ?_
  refine r_aload_n hK d_law_273 rfl rfl ?_
  refine r_iload hK d_law_274 rfl ?_
  refine r_iconst hK d_law_276 ci_5 ?_
  refine r_iadd hK d_law_277 ?_
  refine r_sld hK hX hbl had (sl_in5 hi hL) d_law_278 ?_
  refine r_callV (As := [.int (xs (nI i + 1).toNatClampNeg), .int (xs (nI i + 2).toNatClampNeg), .int (xs (nI i + 3).toNatClampNeg), .int (xs (nI i + 4).toNatClampNeg), .int (xs (nI i + 5).toNatClampNeg)]) (st := []) (stk2 := [.int r]) hK (C_X11_feed e1) d_law_279 mf_X11_feed ml_L_19 im_X11_feed rfl se_10_RX11_X11_feed kd_0 rfl (Nat.le_of_ble_eq_true rfl) (by decide) hcs rfl rfl ?_
  refine r_aload_n hK d_law_282 rfl rfl ?_
  refine r_aload_n hK d_law_283 rfl rfl ?_
  refine r_iload hK d_law_284 rfl ?_
  refine r_iconst hK d_law_286 ci_1 ?_
  refine r_iadd hK d_law_287 ?_
  refine r_sld hK hX hbl had (sl_in1 hi hL) d_law_288 ?_
  refine r_aload_n hK d_law_289 rfl rfl ?_
  refine r_iload hK d_law_290 rfl ?_
  refine r_iconst hK d_law_292 ci_2 ?_
  refine r_iadd hK d_law_293 ?_
  refine r_sld hK hX hbl had (sl_in2 hi hL) d_law_294 ?_
  refine r_aload_n hK d_law_295 rfl rfl ?_
  refine r_iload hK d_law_296 rfl ?_
  refine r_iconst hK d_law_298 ci_3 ?_
  refine r_iadd hK d_law_299 ?_
  refine r_sld hK hX hbl had (sl_in3 hi hL) d_law_300 ?_
  refine r_aload_n hK d_law_301 rfl rfl ?_
  refine r_iload hK d_law_302 rfl ?_
  refine r_iconst hK d_law_304 ci_4 ?_
  refine r_iadd hK d_law_305 ?_
  refine r_sld hK hX hbl had (sl_in4 hi hL) d_law_306 ?_
  refine r_aload_n hK d_law_307 rfl rfl ?_
  refine r_iload hK d_law_308 rfl ?_
  refine r_iconst hK d_law_310 ci_5 ?_
  refine r_iadd hK d_law_311 ?_
  refine r_sld hK hX hbl had (sl_in5 hi hL) d_law_312 ?_
  refine r_callV (As := [.int (xs (nI i + 1).toNatClampNeg), .int (xs (nI i + 2).toNatClampNeg), .int (xs (nI i + 3).toNatClampNeg), .int (xs (nI i + 4).toNatClampNeg), .int (xs (nI i + 5).toNatClampNeg)]) (st := [.int r]) (stk2 := [.int r, .int r]) hK (C_X12_feed e2) d_law_313 mf_X12_feed ml_L_23 im_X12_feed rfl se_11_RX12_X12_feed kd_78 rfl (Nat.le_of_ble_eq_true rfl) (by decide) hcs rfl rfl ?_
  exact r_icmp_eq (tgt := 2187) hK d_law_316 (by decide) (fun _ => kk μ2 hR) (fun h => absurd rfl h)
set_option maxRecDepth 20000 in
theorem lc_1 {p : Program} {l : Launch} {e : Env} {s : State} {m : MethodId} {below : List Frame} {meth : Method} {c : Code} {cells slots : Nat} {Q : State → Prop} {ad : Nat → Nat} {g : va_G} {tyc : Nat → ClassId} {L i : Nat} {xs : Nat → Int32} {Rel : gs_M → Prop} {μ : gs_M} (hK : KC p room_1 s m #[Value.ref (ad 118)] meth c ad g tyc "GrainShiftLaw" code 7 ret 1000) (hX : va_X (ad 118) L xs s s.heap) (hbl : ad 118 < s.heap.size) (had : ∀ k, k < 99 → ad k = s.heap.size + k) (hi : i + 8 ≤ L) (hL : L ≤ 4096) (hcs : cells ≤ room_1.cells ∧ slots ≤ room_1.slots) (hH : ∃ (r : Int32) (μ1 μ2 : gs_M), D_X11_end (xs (nI i + 1).toNatClampNeg) μ = some (r, μ1) ∧ D_X12_end (xs (nI i + 1).toNatClampNeg) μ1 = some (r, μ2) ∧ Rel μ2) (kk : ∀ μ2, Rel μ2 → WJ p l e room_1 s m #[Value.ref (ad 118)] below meth c cells slots Q ad g tyc 7 2187 (gs_pst i) ([]) μ2) : WJ p l e room_1 s m #[Value.ref (ad 118)] below meth c cells slots Q ad g tyc 7 321 (gs_pst i) ([]) μ := by
  obtain ⟨r, μ1, μ2, e1, e2, hR⟩ := hH
  refine r_aload_n hK d_law_321 rfl rfl ?_
  refine r_aload_n hK d_law_322 rfl rfl ?_
  refine r_iload hK d_law_323 rfl ?_
  refine r_iconst hK d_law_325 ci_1 ?_
  refine r_iadd hK d_law_326 ?_
  refine r_sld hK hX hbl had (sl_in1 hi hL) d_law_327 ?_
  refine r_callV (As := [.int (xs (nI i + 1).toNatClampNeg)]) (st := []) (stk2 := [.int r]) hK (C_X11_end e1) d_law_328 mf_X11_end ml_L_24 im_X11_end rfl se_10_RX11_X11_end kd_0 rfl (Nat.le_of_ble_eq_true rfl) (by decide) hcs rfl rfl ?_
  refine r_aload_n hK d_law_331 rfl rfl ?_
  refine r_aload_n hK d_law_332 rfl rfl ?_
  refine r_iload hK d_law_333 rfl ?_
  refine r_iconst hK d_law_335 ci_1 ?_
  refine r_iadd hK d_law_336 ?_
  refine r_sld hK hX hbl had (sl_in1 hi hL) d_law_337 ?_
  refine r_callV (As := [.int (xs (nI i + 1).toNatClampNeg)]) (st := [.int r]) (stk2 := [.int r, .int r]) hK (C_X12_end e2) d_law_338 mf_X12_end ml_L_28 im_X12_end rfl se_11_RX12_X12_end kd_78 rfl (Nat.le_of_ble_eq_true rfl) (by decide) hcs rfl rfl ?_
  exact r_icmp_eq (tgt := 2187) hK d_law_341 (by decide) (fun _ => kk μ2 hR) (fun h => absurd rfl h)
set_option maxRecDepth 20000 in
theorem lc_2 {p : Program} {l : Launch} {e : Env} {s : State} {m : MethodId} {below : List Frame} {meth : Method} {c : Code} {cells slots : Nat} {Q : State → Prop} {ad : Nat → Nat} {g : va_G} {tyc : Nat → ClassId} {L i : Nat} {xs : Nat → Int32} {Rel : gs_M → Prop} {μ : gs_M} (hK : KC p room_1 s m #[Value.ref (ad 118)] meth c ad g tyc "GrainShiftLaw" code 7 ret 1000) (hX : va_X (ad 118) L xs s s.heap) (hbl : ad 118 < s.heap.size) (had : ∀ k, k < 99 → ad k = s.heap.size + k) (hi : i + 8 ≤ L) (hL : L ≤ 4096) (hcs : cells ≤ room_1.cells ∧ slots ≤ room_1.slots) (hH : ∃ (r : Int32) (μ1 μ2 : gs_M), D_X11_fault (xs (nI i + 1).toNatClampNeg) μ = some (r, μ1) ∧ D_X12_fault (xs (nI i + 1).toNatClampNeg) μ1 = some (r, μ2) ∧ Rel μ2) (kk : ∀ μ2, Rel μ2 → WJ p l e room_1 s m #[Value.ref (ad 118)] below meth c cells slots Q ad g tyc 7 2187 (gs_pst i) ([]) μ2) : WJ p l e room_1 s m #[Value.ref (ad 118)] below meth c cells slots Q ad g tyc 7 346 (gs_pst i) ([]) μ := by
  obtain ⟨r, μ1, μ2, e1, e2, hR⟩ := hH
  refine r_aload_n hK d_law_346 rfl rfl ?_
  refine r_aload_n hK d_law_347 rfl rfl ?_
  refine r_iload hK d_law_348 rfl ?_
  refine r_iconst hK d_law_350 ci_1 ?_
  refine r_iadd hK d_law_351 ?_
  refine r_sld hK hX hbl had (sl_in1 hi hL) d_law_352 ?_
  refine r_callV (As := [.int (xs (nI i + 1).toNatClampNeg)]) (st := []) (stk2 := [.int r]) hK (C_X11_fault e1) d_law_353 mf_X11_fault ml_L_29 im_X11_fault rfl se_10_RX11_X11_fault kd_0 rfl (Nat.le_of_ble_eq_true rfl) (by decide) hcs rfl rfl ?_
  refine r_aload_n hK d_law_356 rfl rfl ?_
  refine r_aload_n hK d_law_357 rfl rfl ?_
  refine r_iload hK d_law_358 rfl ?_
  refine r_iconst hK d_law_360 ci_1 ?_
  refine r_iadd hK d_law_361 ?_
  refine r_sld hK hX hbl had (sl_in1 hi hL) d_law_362 ?_
  refine r_callV (As := [.int (xs (nI i + 1).toNatClampNeg)]) (st := [.int r]) (stk2 := [.int r, .int r]) hK (C_X12_fault e2) d_law_363 mf_X12_fault ml_L_33 im_X12_fault rfl se_11_RX12_X12_fault kd_78 rfl (Nat.le_of_ble_eq_true rfl) (by decide) hcs rfl rfl ?_
  exact r_icmp_eq (tgt := 2187) hK d_law_366 (by decide) (fun _ => kk μ2 hR) (fun h => absurd rfl h)
set_option maxRecDepth 20000 in
theorem lc_3 {p : Program} {l : Launch} {e : Env} {s : State} {m : MethodId} {below : List Frame} {meth : Method} {c : Code} {cells slots : Nat} {Q : State → Prop} {ad : Nat → Nat} {g : va_G} {tyc : Nat → ClassId} {L i : Nat} {xs : Nat → Int32} {Rel : gs_M → Prop} {μ : gs_M} (hK : KC p room_1 s m #[Value.ref (ad 118)] meth c ad g tyc "GrainShiftLaw" code 7 ret 1000) (hX : va_X (ad 118) L xs s s.heap) (hbl : ad 118 < s.heap.size) (had : ∀ k, k < 99 → ad k = s.heap.size + k) (hi : i + 8 ≤ L) (hL : L ≤ 4096) (hcs : cells ≤ room_1.cells ∧ slots ≤ room_1.slots) (hH : ∃ (r : Int32) (μ1 μ2 : gs_M), D_X11_text (xs (nI i + 1).toNatClampNeg) μ = some (r, μ1) ∧ D_X12_text (xs (nI i + 1).toNatClampNeg) μ1 = some (r, μ2) ∧ Rel μ2) (kk : ∀ μ2, Rel μ2 → WJ p l e room_1 s m #[Value.ref (ad 118)] below meth c cells slots Q ad g tyc 7 2187 (gs_pst i) ([]) μ2) : WJ p l e room_1 s m #[Value.ref (ad 118)] below meth c cells slots Q ad g tyc 7 371 (gs_pst i) ([]) μ := by
  obtain ⟨r, μ1, μ2, e1, e2, hR⟩ := hH
  refine r_aload_n hK d_law_371 rfl rfl ?_
  refine r_aload_n hK d_law_372 rfl rfl ?_
  refine r_iload hK d_law_373 rfl ?_
  refine r_iconst hK d_law_375 ci_1 ?_
  refine r_iadd hK d_law_376 ?_
  refine r_sld hK hX hbl had (sl_in1 hi hL) d_law_377 ?_
  refine r_callV (As := [.int (xs (nI i + 1).toNatClampNeg)]) (st := []) (stk2 := [.int r]) hK (C_X11_text e1) d_law_378 mf_X11_text ml_L_34 im_X11_text rfl se_10_RX11_X11_text kd_0 rfl (Nat.le_of_ble_eq_true rfl) (by decide) hcs rfl rfl ?_
  refine r_aload_n hK d_law_381 rfl rfl ?_
  refine r_aload_n hK d_law_382 rfl rfl ?_
  refine r_iload hK d_law_383 rfl ?_
  refine r_iconst hK d_law_385 ci_1 ?_
  refine r_iadd hK d_law_386 ?_
  refine r_sld hK hX hbl had (sl_in1 hi hL) d_law_387 ?_
  refine r_callV (As := [.int (xs (nI i + 1).toNatClampNeg)]) (st := [.int r]) (stk2 := [.int r, .int r]) hK (C_X12_text e2) d_law_388 mf_X12_text ml_L_37 im_X12_text rfl se_11_RX12_X12_text kd_78 rfl (Nat.le_of_ble_eq_true rfl) (by decide) hcs rfl rfl ?_
  exact r_icmp_eq (tgt := 2187) hK d_law_391 (by decide) (fun _ => kk μ2 hR) (fun h => absurd rfl h)
set_option maxRecDepth 20000 in
theorem lc_5 {p : Program} {l : Launch} {e : Env} {s : State} {m : MethodId} {below : List Frame} {meth : Method} {c : Code} {cells slots : Nat} {Q : State → Prop} {ad : Nat → Nat} {g : va_G} {tyc : Nat → ClassId} {L i : Nat} {xs : Nat → Int32} {Rel : gs_M → Prop} {μ : gs_M} (hK : KC p room_1 s m #[Value.ref (ad 118)] meth c ad g tyc "GrainShiftLaw" code 7 ret 1000) (hX : va_X (ad 118) L xs s s.heap) (hbl : ad 118 < s.heap.size) (had : ∀ k, k < 99 → ad k = s.heap.size + k) (hi : i + 8 ≤ L) (hL : L ≤ 4096) (hcs : cells ≤ room_1.cells ∧ slots ≤ room_1.slots) (hH : ∃ (r : Int32) (μ1 μ2 : gs_M), D_X11_ship (xs (nI i + 1).toNatClampNeg) (xs (nI i + 2).toNatClampNeg) (xs (nI i + 3).toNatClampNeg) μ = some (r, μ1) ∧ D_X12_ship (xs (nI i + 1).toNatClampNeg) (xs (nI i + 2).toNatClampNeg) (xs (nI i + 3).toNatClampNeg) μ1 = some (r, μ2) ∧ Rel μ2) (kk : ∀ μ2, Rel μ2 → WJ p l e room_1 s m #[Value.ref (ad 118)] below meth c cells slots Q ad g tyc 7 2187 (gs_pst i) ([]) μ2) : WJ p l e room_1 s m #[Value.ref (ad 118)] below meth c cells slots Q ad g tyc 7 464 (gs_pst i) ([]) μ := by
  obtain ⟨r, μ1, μ2, e1, e2, hR⟩ := hH
  refine r_aload_n hK d_law_464 rfl rfl ?_
  refine r_aload_n hK d_law_465 rfl rfl ?_
  refine r_iload hK d_law_466 rfl ?_
  refine r_iconst hK d_law_468 ci_1 ?_
  refine r_iadd hK d_law_469 ?_
  refine r_sld hK hX hbl had (sl_in1 hi hL) d_law_470 ?_
  refine r_aload_n hK d_law_471 rfl rfl ?_
  refine r_iload hK d_law_472 rfl ?_
  refine r_iconst hK d_law_474 ci_2 ?_
  refine r_iadd hK d_law_475 ?_
  refine r_sld hK hX hbl had (sl_in2 hi hL) d_law_476 ?_
  refine r_aload_n hK d_law_477 rfl rfl ?_
  refine r_iload hK d_law_478 rfl ?_
  refine r_iconst hK d_law_480 ci_3 ?_
  refine r_iadd hK d_law_481 ?_
  refine r_sld hK hX hbl had (sl_in3 hi hL) d_law_482 ?_
  refine r_callV (As := [.int (xs (nI i + 1).toNatClampNeg), .int (xs (nI i + 2).toNatClampNeg), .int (xs (nI i + 3).toNatClampNeg)]) (st := []) (stk2 := [.int r]) hK (C_X11_ship e1) d_law_483 mf_X11_ship ml_L_48 im_X11_ship rfl se_10_RX11_X11_ship kd_0 rfl (Nat.le_of_ble_eq_true rfl) (by decide) hcs rfl rfl ?_
  refine r_aload_n hK d_law_486 rfl rfl ?_
  refine r_aload_n hK d_law_487 rfl rfl ?_
  refine r_iload hK d_law_488 rfl ?_
  refine r_iconst hK d_law_490 ci_1 ?_
  refine r_iadd hK d_law_491 ?_
  refine r_sld hK hX hbl had (sl_in1 hi hL) d_law_492 ?_
  refine r_aload_n hK d_law_493 rfl rfl ?_
  refine r_iload hK d_law_494 rfl ?_
  refine r_iconst hK d_law_496 ci_2 ?_
  refine r_iadd hK d_law_497 ?_
  refine r_sld hK hX hbl had (sl_in2 hi hL) d_law_498 ?_
  refine r_aload_n hK d_law_499 rfl rfl ?_
  refine r_iload hK d_law_500 rfl ?_
  refine r_iconst hK d_law_502 ci_3 ?_
  refine r_iadd hK d_law_503 ?_
  refine r_sld hK hX hbl had (sl_in3 hi hL) d_law_504 ?_
  refine r_callV (As := [.int (xs (nI i + 1).toNatClampNeg), .int (xs (nI i + 2).toNatClampNeg), .int (xs (nI i + 3).toNatClampNeg)]) (st := [.int r]) (stk2 := [.int r, .int r]) hK (C_X12_ship e2) d_law_505 mf_X12_ship ml_L_52 im_X12_ship rfl se_11_RX12_X12_ship kd_78 rfl (Nat.le_of_ble_eq_true rfl) (by decide) hcs rfl rfl ?_
  exact r_icmp_eq (tgt := 2187) hK d_law_508 (by decide) (fun _ => kk μ2 hR) (fun h => absurd rfl h)
set_option maxRecDepth 20000 in
theorem lc_6 {p : Program} {l : Launch} {e : Env} {s : State} {m : MethodId} {below : List Frame} {meth : Method} {c : Code} {cells slots : Nat} {Q : State → Prop} {ad : Nat → Nat} {g : va_G} {tyc : Nat → ClassId} {L i : Nat} {xs : Nat → Int32} {Rel : gs_M → Prop} {μ : gs_M} (hK : KC p room_1 s m #[Value.ref (ad 118)] meth c ad g tyc "GrainShiftLaw" code 7 ret 1000) (hX : va_X (ad 118) L xs s s.heap) (hbl : ad 118 < s.heap.size) (had : ∀ k, k < 99 → ad k = s.heap.size + k) (hi : i + 8 ≤ L) (hL : L ≤ 4096) (hcs : cells ≤ room_1.cells ∧ slots ≤ room_1.slots) (hH : ∃ (r : Int32) (μ1 μ2 : gs_M), D_X11_plan (xs (nI i + 1).toNatClampNeg) (xs (nI i + 2).toNatClampNeg) (xs (nI i + 3).toNatClampNeg) μ = some (r, μ1) ∧ D_X12_plan (xs (nI i + 1).toNatClampNeg) (xs (nI i + 2).toNatClampNeg) (xs (nI i + 3).toNatClampNeg) μ1 = some (r, μ2) ∧ Rel μ2) (kk : ∀ μ2, Rel μ2 → WJ p l e room_1 s m #[Value.ref (ad 118)] below meth c cells slots Q ad g tyc 7 2187 (gs_pst i) ([]) μ2) : WJ p l e room_1 s m #[Value.ref (ad 118)] below meth c cells slots Q ad g tyc 7 513 (gs_pst i) ([]) μ := by
  obtain ⟨r, μ1, μ2, e1, e2, hR⟩ := hH
  refine r_aload_n hK d_law_513 rfl rfl ?_
  refine r_aload_n hK d_law_514 rfl rfl ?_
  refine r_iload hK d_law_515 rfl ?_
  refine r_iconst hK d_law_517 ci_1 ?_
  refine r_iadd hK d_law_518 ?_
  refine r_sld hK hX hbl had (sl_in1 hi hL) d_law_519 ?_
  refine r_aload_n hK d_law_520 rfl rfl ?_
  refine r_iload hK d_law_521 rfl ?_
  refine r_iconst hK d_law_523 ci_2 ?_
  refine r_iadd hK d_law_524 ?_
  refine r_sld hK hX hbl had (sl_in2 hi hL) d_law_525 ?_
  refine r_aload_n hK d_law_526 rfl rfl ?_
  refine r_iload hK d_law_527 rfl ?_
  refine r_iconst hK d_law_529 ci_3 ?_
  refine r_iadd hK d_law_530 ?_
  refine r_sld hK hX hbl had (sl_in3 hi hL) d_law_531 ?_
  refine r_callV (As := [.int (xs (nI i + 1).toNatClampNeg), .int (xs (nI i + 2).toNatClampNeg), .int (xs (nI i + 3).toNatClampNeg)]) (st := []) (stk2 := [.int r]) hK (C_X11_plan e1) d_law_532 mf_X11_plan ml_L_53 im_X11_plan rfl se_10_RX11_X11_plan kd_0 rfl (Nat.le_of_ble_eq_true rfl) (by decide) hcs rfl rfl ?_
  refine r_aload_n hK d_law_535 rfl rfl ?_
  refine r_aload_n hK d_law_536 rfl rfl ?_
  refine r_iload hK d_law_537 rfl ?_
  refine r_iconst hK d_law_539 ci_1 ?_
  refine r_iadd hK d_law_540 ?_
  refine r_sld hK hX hbl had (sl_in1 hi hL) d_law_541 ?_
  refine r_aload_n hK d_law_542 rfl rfl ?_
  refine r_iload hK d_law_543 rfl ?_
  refine r_iconst hK d_law_545 ci_2 ?_
  refine r_iadd hK d_law_546 ?_
  refine r_sld hK hX hbl had (sl_in2 hi hL) d_law_547 ?_
  refine r_aload_n hK d_law_548 rfl rfl ?_
  refine r_iload hK d_law_549 rfl ?_
  refine r_iconst hK d_law_551 ci_3 ?_
  refine r_iadd hK d_law_552 ?_
  refine r_sld hK hX hbl had (sl_in3 hi hL) d_law_553 ?_
  refine r_callV (As := [.int (xs (nI i + 1).toNatClampNeg), .int (xs (nI i + 2).toNatClampNeg), .int (xs (nI i + 3).toNatClampNeg)]) (st := [.int r]) (stk2 := [.int r, .int r]) hK (C_X12_plan e2) d_law_554 mf_X12_plan ml_L_56 im_X12_plan rfl se_11_RX12_X12_plan kd_78 rfl (Nat.le_of_ble_eq_true rfl) (by decide) hcs rfl rfl ?_
  exact r_icmp_eq (tgt := 2187) hK d_law_557 (by decide) (fun _ => kk μ2 hR) (fun h => absurd rfl h)
set_option maxRecDepth 20000 in
theorem lc_7 {p : Program} {l : Launch} {e : Env} {s : State} {m : MethodId} {below : List Frame} {meth : Method} {c : Code} {cells slots : Nat} {Q : State → Prop} {ad : Nat → Nat} {g : va_G} {tyc : Nat → ClassId} {L i : Nat} {xs : Nat → Int32} {Rel : gs_M → Prop} {μ : gs_M} (hK : KC p room_1 s m #[Value.ref (ad 118)] meth c ad g tyc "GrainShiftLaw" code 7 ret 1000) (hX : va_X (ad 118) L xs s s.heap) (hbl : ad 118 < s.heap.size) (had : ∀ k, k < 99 → ad k = s.heap.size + k) (hi : i + 8 ≤ L) (hL : L ≤ 4096) (hcs : cells ≤ room_1.cells ∧ slots ≤ room_1.slots) (hH : ∃ (r : Int32) (μ1 μ2 : gs_M), D_X11_set (xs (nI i + 1).toNatClampNeg) (xs (nI i + 2).toNatClampNeg) μ = some (r, μ1) ∧ D_X12_set (xs (nI i + 1).toNatClampNeg) (xs (nI i + 2).toNatClampNeg) μ1 = some (r, μ2) ∧ Rel μ2) (kk : ∀ μ2, Rel μ2 → WJ p l e room_1 s m #[Value.ref (ad 118)] below meth c cells slots Q ad g tyc 7 2187 (gs_pst i) ([]) μ2) : WJ p l e room_1 s m #[Value.ref (ad 118)] below meth c cells slots Q ad g tyc 7 562 (gs_pst i) ([]) μ := by
  obtain ⟨r, μ1, μ2, e1, e2, hR⟩ := hH
  refine r_aload_n hK d_law_562 rfl rfl ?_
  refine r_aload_n hK d_law_563 rfl rfl ?_
  refine r_iload hK d_law_564 rfl ?_
  refine r_iconst hK d_law_566 ci_1 ?_
  refine r_iadd hK d_law_567 ?_
  refine r_sld hK hX hbl had (sl_in1 hi hL) d_law_568 ?_
  refine r_aload_n hK d_law_569 rfl rfl ?_
  refine r_iload hK d_law_570 rfl ?_
  refine r_iconst hK d_law_572 ci_2 ?_
  refine r_iadd hK d_law_573 ?_
  refine r_sld hK hX hbl had (sl_in2 hi hL) d_law_574 ?_
  refine r_callV (As := [.int (xs (nI i + 1).toNatClampNeg), .int (xs (nI i + 2).toNatClampNeg)]) (st := []) (stk2 := [.int r]) hK (C_X11_set e1) d_law_575 mf_X11_set ml_L_57 im_X11_set rfl se_10_RX11_X11_set kd_0 rfl (Nat.le_of_ble_eq_true rfl) (by decide) hcs rfl rfl ?_
  refine r_aload_n hK d_law_578 rfl rfl ?_
  refine r_aload_n hK d_law_579 rfl rfl ?_
  refine r_iload hK d_law_580 rfl ?_
  refine r_iconst hK d_law_582 ci_1 ?_
  refine r_iadd hK d_law_583 ?_
  refine r_sld hK hX hbl had (sl_in1 hi hL) d_law_584 ?_
  refine r_aload_n hK d_law_585 rfl rfl ?_
  refine r_iload hK d_law_586 rfl ?_
  refine r_iconst hK d_law_588 ci_2 ?_
  refine r_iadd hK d_law_589 ?_
  refine r_sld hK hX hbl had (sl_in2 hi hL) d_law_590 ?_
  refine r_callV (As := [.int (xs (nI i + 1).toNatClampNeg), .int (xs (nI i + 2).toNatClampNeg)]) (st := [.int r]) (stk2 := [.int r, .int r]) hK (C_X12_set e2) d_law_591 mf_X12_set ml_L_61 im_X12_set rfl se_11_RX12_X12_set kd_78 rfl (Nat.le_of_ble_eq_true rfl) (by decide) hcs rfl rfl ?_
  exact r_icmp_eq (tgt := 2187) hK d_law_594 (by decide) (fun _ => kk μ2 hR) (fun h => absurd rfl h)
set_option maxRecDepth 20000 in
theorem lc_8 {p : Program} {l : Launch} {e : Env} {s : State} {m : MethodId} {below : List Frame} {meth : Method} {c : Code} {cells slots : Nat} {Q : State → Prop} {ad : Nat → Nat} {g : va_G} {tyc : Nat → ClassId} {L i : Nat} {xs : Nat → Int32} {Rel : gs_M → Prop} {μ : gs_M} (hK : KC p room_1 s m #[Value.ref (ad 118)] meth c ad g tyc "GrainShiftLaw" code 7 ret 1000) (hX : va_X (ad 118) L xs s s.heap) (hbl : ad 118 < s.heap.size) (had : ∀ k, k < 99 → ad k = s.heap.size + k) (hi : i + 8 ≤ L) (hL : L ≤ 4096) (hcs : cells ≤ room_1.cells ∧ slots ≤ room_1.slots) (hH : ∃ (r : Int32) (μ1 μ2 : gs_M), D_X11_load (xs (nI i + 1).toNatClampNeg) (xs (nI i + 2).toNatClampNeg) (((Int32.toInt64 (xs (nI i + 3).toNatClampNeg)) <<< (Int32.toInt64 32 &&& 63)) ||| ((Int32.toInt64 (xs (nI i + 4).toNatClampNeg)) &&& 4294967295)) μ = some (r, μ1) ∧ D_X12_load (xs (nI i + 1).toNatClampNeg) (xs (nI i + 2).toNatClampNeg) (((Int32.toInt64 (xs (nI i + 3).toNatClampNeg)) <<< (Int32.toInt64 32 &&& 63)) ||| ((Int32.toInt64 (xs (nI i + 4).toNatClampNeg)) &&& 4294967295)) μ1 = some (r, μ2) ∧ Rel μ2) (kk : ∀ μ2, Rel μ2 → WJ p l e room_1 s m #[Value.ref (ad 118)] below meth c cells slots Q ad g tyc 7 2187 (gs_pst i) ([]) μ2) : WJ p l e room_1 s m #[Value.ref (ad 118)] below meth c cells slots Q ad g tyc 7 599 (gs_pst i) ([]) μ := by
  obtain ⟨r, μ1, μ2, e1, e2, hR⟩ := hH
  refine r_aload_n hK d_law_599 rfl rfl ?_
  refine r_aload_n hK d_law_600 rfl rfl ?_
  refine r_iload hK d_law_601 rfl ?_
  refine r_iconst hK d_law_603 ci_1 ?_
  refine r_iadd hK d_law_604 ?_
  refine r_sld hK hX hbl had (sl_in1 hi hL) d_law_605 ?_
  refine r_aload_n hK d_law_606 rfl rfl ?_
  refine r_iload hK d_law_607 rfl ?_
  refine r_iconst hK d_law_609 ci_2 ?_
  refine r_iadd hK d_law_610 ?_
  refine r_sld hK hX hbl had (sl_in2 hi hL) d_law_611 ?_
  refine r_aload_n hK d_law_612 rfl rfl ?_
  refine r_iload hK d_law_613 rfl ?_
  refine r_iconst hK d_law_615 ci_3 ?_
  refine r_iadd hK d_law_616 ?_
  refine r_sld hK hX hbl had (sl_in3 hi hL) d_law_617 ?_
  refine r_i2l hK d_law_618 ?_
  refine r_bipush hK d_law_619 cb_32 ?_
  refine r_lshl hK d_law_621 ?_
  refine r_aload_n hK d_law_622 rfl rfl ?_
  refine r_iload hK d_law_623 rfl ?_
  refine r_iconst hK d_law_625 ci_4 ?_
  refine r_iadd hK d_law_626 ?_
  refine r_sld hK hX hbl had (sl_in4 hi hL) d_law_627 ?_
  refine r_i2l hK d_law_628 ?_
  refine r_ldc2 hK d_law_629 kl_L_62 ?_
  refine r_land hK d_law_632 ?_
  refine r_lor hK d_law_633 ?_
  refine r_callV (As := [.int (xs (nI i + 1).toNatClampNeg), .int (xs (nI i + 2).toNatClampNeg), .long (((Int32.toInt64 (xs (nI i + 3).toNatClampNeg)) <<< (Int32.toInt64 32 &&& 63)) ||| ((Int32.toInt64 (xs (nI i + 4).toNatClampNeg)) &&& 4294967295))]) (st := []) (stk2 := [.int r]) hK (C_X11_load e1) d_law_634 mf_X11_load ml_L_64 im_X11_load rfl se_10_RX11_X11_load kd_0 rfl (Nat.le_of_ble_eq_true rfl) (by decide) hcs rfl rfl ?_
  refine r_aload_n hK d_law_637 rfl rfl ?_
  refine r_aload_n hK d_law_638 rfl rfl ?_
  refine r_iload hK d_law_639 rfl ?_
  refine r_iconst hK d_law_641 ci_1 ?_
  refine r_iadd hK d_law_642 ?_
  refine r_sld hK hX hbl had (sl_in1 hi hL) d_law_643 ?_
  refine r_aload_n hK d_law_644 rfl rfl ?_
  refine r_iload hK d_law_645 rfl ?_
  refine r_iconst hK d_law_647 ci_2 ?_
  refine r_iadd hK d_law_648 ?_
  refine r_sld hK hX hbl had (sl_in2 hi hL) d_law_649 ?_
  refine r_aload_n hK d_law_650 rfl rfl ?_
  refine r_iload hK d_law_651 rfl ?_
  refine r_iconst hK d_law_653 ci_3 ?_
  refine r_iadd hK d_law_654 ?_
  refine r_sld hK hX hbl had (sl_in3 hi hL) d_law_655 ?_
  refine r_i2l hK d_law_656 ?_
  refine r_bipush hK d_law_657 cb_32 ?_
  refine r_lshl hK d_law_659 ?_
  refine r_aload_n hK d_law_660 rfl rfl ?_
  refine r_iload hK d_law_661 rfl ?_
  refine r_iconst hK d_law_663 ci_4 ?_
  refine r_iadd hK d_law_664 ?_
  refine r_sld hK hX hbl had (sl_in4 hi hL) d_law_665 ?_
  refine r_i2l hK d_law_666 ?_
  refine r_ldc2 hK d_law_667 kl_L_62 ?_
  refine r_land hK d_law_670 ?_
  refine r_lor hK d_law_671 ?_
  refine r_callV (As := [.int (xs (nI i + 1).toNatClampNeg), .int (xs (nI i + 2).toNatClampNeg), .long (((Int32.toInt64 (xs (nI i + 3).toNatClampNeg)) <<< (Int32.toInt64 32 &&& 63)) ||| ((Int32.toInt64 (xs (nI i + 4).toNatClampNeg)) &&& 4294967295))]) (st := [.int r]) (stk2 := [.int r, .int r]) hK (C_X12_load e2) d_law_672 mf_X12_load ml_L_68 im_X12_load rfl se_11_RX12_X12_load kd_78 rfl (Nat.le_of_ble_eq_true rfl) (by decide) hcs rfl rfl ?_
  exact r_icmp_eq (tgt := 2187) hK d_law_675 (by decide) (fun _ => kk μ2 hR) (fun h => absurd rfl h)
set_option maxRecDepth 20000 in
theorem lc_9 {p : Program} {l : Launch} {e : Env} {s : State} {m : MethodId} {below : List Frame} {meth : Method} {c : Code} {cells slots : Nat} {Q : State → Prop} {ad : Nat → Nat} {g : va_G} {tyc : Nat → ClassId} {L i : Nat} {xs : Nat → Int32} {Rel : gs_M → Prop} {μ : gs_M} (hK : KC p room_1 s m #[Value.ref (ad 118)] meth c ad g tyc "GrainShiftLaw" code 7 ret 1000) (hX : va_X (ad 118) L xs s s.heap) (hbl : ad 118 < s.heap.size) (had : ∀ k, k < 99 → ad k = s.heap.size + k) (hi : i + 8 ≤ L) (hL : L ≤ 4096) (hcs : cells ≤ room_1.cells ∧ slots ≤ room_1.slots) (hH : ∃ (r : Int32) (μ1 μ2 : gs_M), D_X11_roll (xs (nI i + 1).toNatClampNeg) μ = some (r, μ1) ∧ D_X12_roll (xs (nI i + 1).toNatClampNeg) μ1 = some (r, μ2) ∧ Rel μ2) (kk : ∀ μ2, Rel μ2 → WJ p l e room_1 s m #[Value.ref (ad 118)] below meth c cells slots Q ad g tyc 7 2187 (gs_pst i) ([]) μ2) : WJ p l e room_1 s m #[Value.ref (ad 118)] below meth c cells slots Q ad g tyc 7 680 (gs_pst i) ([]) μ := by
  obtain ⟨r, μ1, μ2, e1, e2, hR⟩ := hH
  refine r_aload_n hK d_law_680 rfl rfl ?_
  refine r_aload_n hK d_law_681 rfl rfl ?_
  refine r_iload hK d_law_682 rfl ?_
  refine r_iconst hK d_law_684 ci_1 ?_
  refine r_iadd hK d_law_685 ?_
  refine r_sld hK hX hbl had (sl_in1 hi hL) d_law_686 ?_
  refine r_callV (As := [.int (xs (nI i + 1).toNatClampNeg)]) (st := []) (stk2 := [.int r]) hK (C_X11_roll e1) d_law_687 mf_X11_roll ml_L_69 im_X11_roll rfl se_10_RX11_X11_roll kd_0 rfl (Nat.le_of_ble_eq_true rfl) (by decide) hcs rfl rfl ?_
  refine r_aload_n hK d_law_690 rfl rfl ?_
  refine r_aload_n hK d_law_691 rfl rfl ?_
  refine r_iload hK d_law_692 rfl ?_
  refine r_iconst hK d_law_694 ci_1 ?_
  refine r_iadd hK d_law_695 ?_
  refine r_sld hK hX hbl had (sl_in1 hi hL) d_law_696 ?_
  refine r_callV (As := [.int (xs (nI i + 1).toNatClampNeg)]) (st := [.int r]) (stk2 := [.int r, .int r]) hK (C_X12_roll e2) d_law_697 mf_X12_roll ml_L_72 im_X12_roll rfl se_11_RX12_X12_roll kd_78 rfl (Nat.le_of_ble_eq_true rfl) (by decide) hcs rfl rfl ?_
  exact r_icmp_eq (tgt := 2187) hK d_law_700 (by decide) (fun _ => kk μ2 hR) (fun h => absurd rfl h)
set_option maxRecDepth 20000 in
theorem lc_10 {p : Program} {l : Launch} {e : Env} {s : State} {m : MethodId} {below : List Frame} {meth : Method} {c : Code} {cells slots : Nat} {Q : State → Prop} {ad : Nat → Nat} {g : va_G} {tyc : Nat → ClassId} {L i : Nat} {xs : Nat → Int32} {Rel : gs_M → Prop} {μ : gs_M} (hK : KC p room_1 s m #[Value.ref (ad 118)] meth c ad g tyc "GrainShiftLaw" code 7 ret 1000) (hX : va_X (ad 118) L xs s s.heap) (hbl : ad 118 < s.heap.size) (had : ∀ k, k < 99 → ad k = s.heap.size + k) (hi : i + 8 ≤ L) (hL : L ≤ 4096) (hcs : cells ≤ room_1.cells ∧ slots ≤ room_1.slots) (hH : ∃ (r : Int32) (μ1 μ2 : gs_M), D_X11_day (xs (nI i + 1).toNatClampNeg) μ = some (r, μ1) ∧ D_X12_day (xs (nI i + 1).toNatClampNeg) μ1 = some (r, μ2) ∧ Rel μ2) (kk : ∀ μ2, Rel μ2 → WJ p l e room_1 s m #[Value.ref (ad 118)] below meth c cells slots Q ad g tyc 7 2187 (gs_pst i) ([]) μ2) : WJ p l e room_1 s m #[Value.ref (ad 118)] below meth c cells slots Q ad g tyc 7 705 (gs_pst i) ([]) μ := by
  obtain ⟨r, μ1, μ2, e1, e2, hR⟩ := hH
  refine r_aload_n hK d_law_705 rfl rfl ?_
  refine r_aload_n hK d_law_706 rfl rfl ?_
  refine r_iload hK d_law_707 rfl ?_
  refine r_iconst hK d_law_709 ci_1 ?_
  refine r_iadd hK d_law_710 ?_
  refine r_sld hK hX hbl had (sl_in1 hi hL) d_law_711 ?_
  refine r_callV (As := [.int (xs (nI i + 1).toNatClampNeg)]) (st := []) (stk2 := [.int r]) hK (C_X11_day e1) d_law_712 mf_X11_day ml_L_73 im_X11_day rfl se_10_RX11_X11_day kd_0 rfl (Nat.le_of_ble_eq_true rfl) (by decide) hcs rfl rfl ?_
  refine r_aload_n hK d_law_715 rfl rfl ?_
  refine r_aload_n hK d_law_716 rfl rfl ?_
  refine r_iload hK d_law_717 rfl ?_
  refine r_iconst hK d_law_719 ci_1 ?_
  refine r_iadd hK d_law_720 ?_
  refine r_sld hK hX hbl had (sl_in1 hi hL) d_law_721 ?_
  refine r_callV (As := [.int (xs (nI i + 1).toNatClampNeg)]) (st := [.int r]) (stk2 := [.int r, .int r]) hK (C_X12_day e2) d_law_722 mf_X12_day ml_L_76 im_X12_day rfl se_11_RX12_X12_day kd_78 rfl (Nat.le_of_ble_eq_true rfl) (by decide) hcs rfl rfl ?_
  exact r_icmp_eq (tgt := 2187) hK d_law_725 (by decide) (fun _ => kk μ2 hR) (fun h => absurd rfl h)
set_option maxRecDepth 20000 in
theorem lc_11 {p : Program} {l : Launch} {e : Env} {s : State} {m : MethodId} {below : List Frame} {meth : Method} {c : Code} {cells slots : Nat} {Q : State → Prop} {ad : Nat → Nat} {g : va_G} {tyc : Nat → ClassId} {L i : Nat} {xs : Nat → Int32} {Rel : gs_M → Prop} {μ : gs_M} (hK : KC p room_1 s m #[Value.ref (ad 118)] meth c ad g tyc "GrainShiftLaw" code 7 ret 1000) (hX : va_X (ad 118) L xs s s.heap) (hbl : ad 118 < s.heap.size) (had : ∀ k, k < 99 → ad k = s.heap.size + k) (hi : i + 8 ≤ L) (hL : L ≤ 4096) (hcs : cells ≤ room_1.cells ∧ slots ≤ room_1.slots) (hH : ∃ (r : Int32) (μ1 μ2 : gs_M), D_X11_column (xs (nI i + 1).toNatClampNeg) (xs (nI i + 2).toNatClampNeg) (xs (nI i + 3).toNatClampNeg) μ = some (r, μ1) ∧ D_X12_column (xs (nI i + 1).toNatClampNeg) (xs (nI i + 2).toNatClampNeg) (xs (nI i + 3).toNatClampNeg) μ1 = some (r, μ2) ∧ Rel μ2) (kk : ∀ μ2, Rel μ2 → WJ p l e room_1 s m #[Value.ref (ad 118)] below meth c cells slots Q ad g tyc 7 2187 (gs_pst i) ([]) μ2) : WJ p l e room_1 s m #[Value.ref (ad 118)] below meth c cells slots Q ad g tyc 7 730 (gs_pst i) ([]) μ := by
  obtain ⟨r, μ1, μ2, e1, e2, hR⟩ := hH
  refine r_aload_n hK d_law_730 rfl rfl ?_
  refine r_aload_n hK d_law_731 rfl rfl ?_
  refine r_iload hK d_law_732 rfl ?_
  refine r_iconst hK d_law_734 ci_1 ?_
  refine r_iadd hK d_law_735 ?_
  refine r_sld hK hX hbl had (sl_in1 hi hL) d_law_736 ?_
  refine r_aload_n hK d_law_737 rfl rfl ?_
  refine r_iload hK d_law_738 rfl ?_
  refine r_iconst hK d_law_740 ci_2 ?_
  refine r_iadd hK d_law_741 ?_
  refine r_sld hK hX hbl had (sl_in2 hi hL) d_law_742 ?_
  refine r_aload_n hK d_law_743 rfl rfl ?_
  refine r_iload hK d_law_744 rfl ?_
  refine r_iconst hK d_law_746 ci_3 ?_
  refine r_iadd hK d_law_747 ?_
  refine r_sld hK hX hbl had (sl_in3 hi hL) d_law_748 ?_
  refine r_callV (As := [.int (xs (nI i + 1).toNatClampNeg), .int (xs (nI i + 2).toNatClampNeg), .int (xs (nI i + 3).toNatClampNeg)]) (st := []) (stk2 := [.int r]) hK (C_X11_column e1) d_law_749 mf_X11_column ml_L_77 im_X11_column rfl se_10_RX11_X11_column kd_0 rfl (Nat.le_of_ble_eq_true rfl) (by decide) hcs rfl rfl ?_
  refine r_aload_n hK d_law_752 rfl rfl ?_
  refine r_aload_n hK d_law_753 rfl rfl ?_
  refine r_iload hK d_law_754 rfl ?_
  refine r_iconst hK d_law_756 ci_1 ?_
  refine r_iadd hK d_law_757 ?_
  refine r_sld hK hX hbl had (sl_in1 hi hL) d_law_758 ?_
  refine r_aload_n hK d_law_759 rfl rfl ?_
  refine r_iload hK d_law_760 rfl ?_
  refine r_iconst hK d_law_762 ci_2 ?_
  refine r_iadd hK d_law_763 ?_
  refine r_sld hK hX hbl had (sl_in2 hi hL) d_law_764 ?_
  refine r_aload_n hK d_law_765 rfl rfl ?_
  refine r_iload hK d_law_766 rfl ?_
  refine r_iconst hK d_law_768 ci_3 ?_
  refine r_iadd hK d_law_769 ?_
  refine r_sld hK hX hbl had (sl_in3 hi hL) d_law_770 ?_
  refine r_callV (As := [.int (xs (nI i + 1).toNatClampNeg), .int (xs (nI i + 2).toNatClampNeg), .int (xs (nI i + 3).toNatClampNeg)]) (st := [.int r]) (stk2 := [.int r, .int r]) hK (C_X12_column e2) d_law_771 mf_X12_column ml_L_80 im_X12_column rfl se_11_RX12_X12_column kd_78 rfl (Nat.le_of_ble_eq_true rfl) (by decide) hcs rfl rfl ?_
  exact r_icmp_eq (tgt := 2187) hK d_law_774 (by decide) (fun _ => kk μ2 hR) (fun h => absurd rfl h)
set_option maxRecDepth 20000 in
theorem lc_12 {p : Program} {l : Launch} {e : Env} {s : State} {m : MethodId} {below : List Frame} {meth : Method} {c : Code} {cells slots : Nat} {Q : State → Prop} {ad : Nat → Nat} {g : va_G} {tyc : Nat → ClassId} {L i : Nat} {xs : Nat → Int32} {Rel : gs_M → Prop} {μ : gs_M} (hK : KC p room_1 s m #[Value.ref (ad 118)] meth c ad g tyc "GrainShiftLaw" code 7 ret 1000) (hX : va_X (ad 118) L xs s s.heap) (hbl : ad 118 < s.heap.size) (had : ∀ k, k < 99 → ad k = s.heap.size + k) (hi : i + 8 ≤ L) (hL : L ≤ 4096) (hcs : cells ≤ room_1.cells ∧ slots ≤ room_1.slots) (hH : ∃ (r : Int32) (μ1 μ2 : gs_M), D_X11_hold (xs (nI i + 1).toNatClampNeg) (xs (nI i + 2).toNatClampNeg) μ = some (r, μ1) ∧ D_X12_hold (xs (nI i + 1).toNatClampNeg) (xs (nI i + 2).toNatClampNeg) μ1 = some (r, μ2) ∧ Rel μ2) (kk : ∀ μ2, Rel μ2 → WJ p l e room_1 s m #[Value.ref (ad 118)] below meth c cells slots Q ad g tyc 7 2187 (gs_pst i) ([]) μ2) : WJ p l e room_1 s m #[Value.ref (ad 118)] below meth c cells slots Q ad g tyc 7 779 (gs_pst i) ([]) μ := by
  obtain ⟨r, μ1, μ2, e1, e2, hR⟩ := hH
  refine r_aload_n hK d_law_779 rfl rfl ?_
  refine r_aload_n hK d_law_780 rfl rfl ?_
  refine r_iload hK d_law_781 rfl ?_
  refine r_iconst hK d_law_783 ci_1 ?_
  refine r_iadd hK d_law_784 ?_
  refine r_sld hK hX hbl had (sl_in1 hi hL) d_law_785 ?_
  refine r_aload_n hK d_law_786 rfl rfl ?_
  refine r_iload hK d_law_787 rfl ?_
  refine r_iconst hK d_law_789 ci_2 ?_
  refine r_iadd hK d_law_790 ?_
  refine r_sld hK hX hbl had (sl_in2 hi hL) d_law_791 ?_
  refine r_callV (As := [.int (xs (nI i + 1).toNatClampNeg), .int (xs (nI i + 2).toNatClampNeg)]) (st := []) (stk2 := [.int r]) hK (C_X11_hold e1) d_law_792 mf_X11_hold ml_L_81 im_X11_hold rfl se_10_RX11_X11_hold kd_0 rfl (Nat.le_of_ble_eq_true rfl) (by decide) hcs rfl rfl ?_
  refine r_aload_n hK d_law_795 rfl rfl ?_
  refine r_aload_n hK d_law_796 rfl rfl ?_
  refine r_iload hK d_law_797 rfl ?_
  refine r_iconst hK d_law_799 ci_1 ?_
  refine r_iadd hK d_law_800 ?_
  refine r_sld hK hX hbl had (sl_in1 hi hL) d_law_801 ?_
  refine r_aload_n hK d_law_802 rfl rfl ?_
  refine r_iload hK d_law_803 rfl ?_
  refine r_iconst hK d_law_805 ci_2 ?_
  refine r_iadd hK d_law_806 ?_
  refine r_sld hK hX hbl had (sl_in2 hi hL) d_law_807 ?_
  refine r_callV (As := [.int (xs (nI i + 1).toNatClampNeg), .int (xs (nI i + 2).toNatClampNeg)]) (st := [.int r]) (stk2 := [.int r, .int r]) hK (C_X12_hold e2) d_law_808 mf_X12_hold ml_L_84 im_X12_hold rfl se_11_RX12_X12_hold kd_78 rfl (Nat.le_of_ble_eq_true rfl) (by decide) hcs rfl rfl ?_
  exact r_icmp_eq (tgt := 2187) hK d_law_811 (by decide) (fun _ => kk μ2 hR) (fun h => absurd rfl h)
set_option maxRecDepth 20000 in
theorem lc_13 {p : Program} {l : Launch} {e : Env} {s : State} {m : MethodId} {below : List Frame} {meth : Method} {c : Code} {cells slots : Nat} {Q : State → Prop} {ad : Nat → Nat} {g : va_G} {tyc : Nat → ClassId} {L i : Nat} {xs : Nat → Int32} {Rel : gs_M → Prop} {μ : gs_M} (hK : KC p room_1 s m #[Value.ref (ad 118)] meth c ad g tyc "GrainShiftLaw" code 7 ret 1000) (hX : va_X (ad 118) L xs s s.heap) (hbl : ad 118 < s.heap.size) (had : ∀ k, k < 99 → ad k = s.heap.size + k) (hi : i + 8 ≤ L) (hL : L ≤ 4096) (hcs : cells ≤ room_1.cells ∧ slots ≤ room_1.slots) (hH : ∃ (r : Int32) (μ1 μ2 : gs_M), D_X11_about (xs (nI i + 1).toNatClampNeg) μ = some (r, μ1) ∧ D_X12_about (xs (nI i + 1).toNatClampNeg) μ1 = some (r, μ2) ∧ Rel μ2) (kk : ∀ μ2, Rel μ2 → WJ p l e room_1 s m #[Value.ref (ad 118)] below meth c cells slots Q ad g tyc 7 2187 (gs_pst i) ([]) μ2) : WJ p l e room_1 s m #[Value.ref (ad 118)] below meth c cells slots Q ad g tyc 7 816 (gs_pst i) ([]) μ := by
  obtain ⟨r, μ1, μ2, e1, e2, hR⟩ := hH
  refine r_aload_n hK d_law_816 rfl rfl ?_
  refine r_aload_n hK d_law_817 rfl rfl ?_
  refine r_iload hK d_law_818 rfl ?_
  refine r_iconst hK d_law_820 ci_1 ?_
  refine r_iadd hK d_law_821 ?_
  refine r_sld hK hX hbl had (sl_in1 hi hL) d_law_822 ?_
  refine r_callV (As := [.int (xs (nI i + 1).toNatClampNeg)]) (st := []) (stk2 := [.int r]) hK (C_X11_about e1) d_law_823 mf_X11_about ml_L_85 im_X11_about rfl se_10_RX11_X11_about kd_0 rfl (Nat.le_of_ble_eq_true rfl) (by decide) hcs rfl rfl ?_
  refine r_aload_n hK d_law_826 rfl rfl ?_
  refine r_aload_n hK d_law_827 rfl rfl ?_
  refine r_iload hK d_law_828 rfl ?_
  refine r_iconst hK d_law_830 ci_1 ?_
  refine r_iadd hK d_law_831 ?_
  refine r_sld hK hX hbl had (sl_in1 hi hL) d_law_832 ?_
  refine r_callV (As := [.int (xs (nI i + 1).toNatClampNeg)]) (st := [.int r]) (stk2 := [.int r, .int r]) hK (C_X12_about e2) d_law_833 mf_X12_about ml_L_88 im_X12_about rfl se_11_RX12_X12_about kd_78 rfl (Nat.le_of_ble_eq_true rfl) (by decide) hcs rfl rfl ?_
  exact r_icmp_eq (tgt := 2187) hK d_law_836 (by decide) (fun _ => kk μ2 hR) (fun h => absurd rfl h)
set_option maxRecDepth 20000 in
theorem lc_14 {p : Program} {l : Launch} {e : Env} {s : State} {m : MethodId} {below : List Frame} {meth : Method} {c : Code} {cells slots : Nat} {Q : State → Prop} {ad : Nat → Nat} {g : va_G} {tyc : Nat → ClassId} {L i : Nat} {xs : Nat → Int32} {Rel : gs_M → Prop} {μ : gs_M} (hK : KC p room_1 s m #[Value.ref (ad 118)] meth c ad g tyc "GrainShiftLaw" code 7 ret 1000) (hX : va_X (ad 118) L xs s s.heap) (hbl : ad 118 < s.heap.size) (had : ∀ k, k < 99 → ad k = s.heap.size + k) (hi : i + 8 ≤ L) (hL : L ≤ 4096) (hcs : cells ≤ room_1.cells ∧ slots ≤ room_1.slots) (hH : ∃ (r : Int32) (μ1 μ2 : gs_M), D_X11_goes (xs (nI i + 1).toNatClampNeg) (xs (nI i + 2).toNatClampNeg) μ = some (r, μ1) ∧ D_X12_goes (xs (nI i + 1).toNatClampNeg) (xs (nI i + 2).toNatClampNeg) μ1 = some (r, μ2) ∧ Rel μ2) (kk : ∀ μ2, Rel μ2 → WJ p l e room_1 s m #[Value.ref (ad 118)] below meth c cells slots Q ad g tyc 7 2187 (gs_pst i) ([]) μ2) : WJ p l e room_1 s m #[Value.ref (ad 118)] below meth c cells slots Q ad g tyc 7 841 (gs_pst i) ([]) μ := by
  obtain ⟨r, μ1, μ2, e1, e2, hR⟩ := hH
  refine r_aload_n hK d_law_841 rfl rfl ?_
  refine r_aload_n hK d_law_842 rfl rfl ?_
  refine r_iload hK d_law_843 rfl ?_
  refine r_iconst hK d_law_845 ci_1 ?_
  refine r_iadd hK d_law_846 ?_
  refine r_sld hK hX hbl had (sl_in1 hi hL) d_law_847 ?_
  refine r_aload_n hK d_law_848 rfl rfl ?_
  refine r_iload hK d_law_849 rfl ?_
  refine r_iconst hK d_law_851 ci_2 ?_
  refine r_iadd hK d_law_852 ?_
  refine r_sld hK hX hbl had (sl_in2 hi hL) d_law_853 ?_
  refine r_callV (As := [.int (xs (nI i + 1).toNatClampNeg), .int (xs (nI i + 2).toNatClampNeg)]) (st := []) (stk2 := [.int r]) hK (C_X11_goes e1) d_law_854 mf_X11_goes ml_L_89 im_X11_goes rfl se_10_RX11_X11_goes kd_0 rfl (Nat.le_of_ble_eq_true rfl) (by decide) hcs rfl rfl ?_
  refine r_aload_n hK d_law_857 rfl rfl ?_
  refine r_aload_n hK d_law_858 rfl rfl ?_
  refine r_iload hK d_law_859 rfl ?_
  refine r_iconst hK d_law_861 ci_1 ?_
  refine r_iadd hK d_law_862 ?_
  refine r_sld hK hX hbl had (sl_in1 hi hL) d_law_863 ?_
  refine r_aload_n hK d_law_864 rfl rfl ?_
  refine r_iload hK d_law_865 rfl ?_
  refine r_iconst hK d_law_867 ci_2 ?_
  refine r_iadd hK d_law_868 ?_
  refine r_sld hK hX hbl had (sl_in2 hi hL) d_law_869 ?_
  refine r_callV (As := [.int (xs (nI i + 1).toNatClampNeg), .int (xs (nI i + 2).toNatClampNeg)]) (st := [.int r]) (stk2 := [.int r, .int r]) hK (C_X12_goes e2) d_law_870 mf_X12_goes ml_L_92 im_X12_goes rfl se_11_RX12_X12_goes kd_78 rfl (Nat.le_of_ble_eq_true rfl) (by decide) hcs rfl rfl ?_
  exact r_icmp_eq (tgt := 2187) hK d_law_873 (by decide) (fun _ => kk μ2 hR) (fun h => absurd rfl h)
set_option maxRecDepth 20000 in
theorem lc_15 {p : Program} {l : Launch} {e : Env} {s : State} {m : MethodId} {below : List Frame} {meth : Method} {c : Code} {cells slots : Nat} {Q : State → Prop} {ad : Nat → Nat} {g : va_G} {tyc : Nat → ClassId} {L i : Nat} {xs : Nat → Int32} {Rel : gs_M → Prop} {μ : gs_M} (hK : KC p room_1 s m #[Value.ref (ad 118)] meth c ad g tyc "GrainShiftLaw" code 7 ret 1000) (hX : va_X (ad 118) L xs s s.heap) (hbl : ad 118 < s.heap.size) (had : ∀ k, k < 99 → ad k = s.heap.size + k) (hi : i + 8 ≤ L) (hL : L ≤ 4096) (hcs : cells ≤ room_1.cells ∧ slots ≤ room_1.slots) (hH : ∃ (r : Int32) (μ1 μ2 : gs_M), D_X11_least  μ = some (r, μ1) ∧ D_X12_least  μ1 = some (r, μ2) ∧ Rel μ2) (kk : ∀ μ2, Rel μ2 → WJ p l e room_1 s m #[Value.ref (ad 118)] below meth c cells slots Q ad g tyc 7 2187 (gs_pst i) ([]) μ2) : WJ p l e room_1 s m #[Value.ref (ad 118)] below meth c cells slots Q ad g tyc 7 878 (gs_pst i) ([]) μ := by
  obtain ⟨r, μ1, μ2, e1, e2, hR⟩ := hH
  refine r_aload_n hK d_law_878 rfl rfl ?_
  refine r_callV (As := []) (st := []) (stk2 := [.int r]) hK (C_X11_least e1) d_law_879 mf_X11_least ml_L_93 im_X11_least rfl se_10_RX11_X11_least kd_0 rfl (Nat.le_of_ble_eq_true rfl) (by decide) hcs rfl rfl ?_
  refine r_aload_n hK d_law_882 rfl rfl ?_
  refine r_callV (As := []) (st := [.int r]) (stk2 := [.int r, .int r]) hK (C_X12_least e2) d_law_883 mf_X12_least ml_L_96 im_X12_least rfl se_11_RX12_X12_least kd_78 rfl (Nat.le_of_ble_eq_true rfl) (by decide) hcs rfl rfl ?_
  exact r_icmp_eq (tgt := 2187) hK d_law_886 (by decide) (fun _ => kk μ2 hR) (fun h => absurd rfl h)
set_option maxRecDepth 20000 in
theorem lc_16 {p : Program} {l : Launch} {e : Env} {s : State} {m : MethodId} {below : List Frame} {meth : Method} {c : Code} {cells slots : Nat} {Q : State → Prop} {ad : Nat → Nat} {g : va_G} {tyc : Nat → ClassId} {L i : Nat} {xs : Nat → Int32} {Rel : gs_M → Prop} {μ : gs_M} (hK : KC p room_1 s m #[Value.ref (ad 118)] meth c ad g tyc "GrainShiftLaw" code 7 ret 1000) (hX : va_X (ad 118) L xs s s.heap) (hbl : ad 118 < s.heap.size) (had : ∀ k, k < 99 → ad k = s.heap.size + k) (hi : i + 8 ≤ L) (hL : L ≤ 4096) (hcs : cells ≤ room_1.cells ∧ slots ≤ room_1.slots) (hH : ∃ (r : Int32) (μ1 μ2 : gs_M), D_X11_runs (xs (nI i + 1).toNatClampNeg) (xs (nI i + 2).toNatClampNeg) μ = some (r, μ1) ∧ D_X12_runs (xs (nI i + 1).toNatClampNeg) (xs (nI i + 2).toNatClampNeg) μ1 = some (r, μ2) ∧ Rel μ2) (kk : ∀ μ2, Rel μ2 → WJ p l e room_1 s m #[Value.ref (ad 118)] below meth c cells slots Q ad g tyc 7 2187 (gs_pst i) ([]) μ2) : WJ p l e room_1 s m #[Value.ref (ad 118)] below meth c cells slots Q ad g tyc 7 891 (gs_pst i) ([]) μ := by
  obtain ⟨r, μ1, μ2, e1, e2, hR⟩ := hH
  refine r_aload_n hK d_law_891 rfl rfl ?_
  refine r_aload_n hK d_law_892 rfl rfl ?_
  refine r_iload hK d_law_893 rfl ?_
  refine r_iconst hK d_law_895 ci_1 ?_
  refine r_iadd hK d_law_896 ?_
  refine r_sld hK hX hbl had (sl_in1 hi hL) d_law_897 ?_
  refine r_aload_n hK d_law_898 rfl rfl ?_
  refine r_iload hK d_law_899 rfl ?_
  refine r_iconst hK d_law_901 ci_2 ?_
  refine r_iadd hK d_law_902 ?_
  refine r_sld hK hX hbl had (sl_in2 hi hL) d_law_903 ?_
  refine r_callV (As := [.int (xs (nI i + 1).toNatClampNeg), .int (xs (nI i + 2).toNatClampNeg)]) (st := []) (stk2 := [.int r]) hK (C_X11_runs e1) d_law_904 mf_X11_runs ml_L_97 im_X11_runs rfl se_10_RX11_X11_runs kd_0 rfl (Nat.le_of_ble_eq_true rfl) (by decide) hcs rfl rfl ?_
  refine r_aload_n hK d_law_907 rfl rfl ?_
  refine r_aload_n hK d_law_908 rfl rfl ?_
  refine r_iload hK d_law_909 rfl ?_
  refine r_iconst hK d_law_911 ci_1 ?_
  refine r_iadd hK d_law_912 ?_
  refine r_sld hK hX hbl had (sl_in1 hi hL) d_law_913 ?_
  refine r_aload_n hK d_law_914 rfl rfl ?_
  refine r_iload hK d_law_915 rfl ?_
  refine r_iconst hK d_law_917 ci_2 ?_
  refine r_iadd hK d_law_918 ?_
  refine r_sld hK hX hbl had (sl_in2 hi hL) d_law_919 ?_
  refine r_callV (As := [.int (xs (nI i + 1).toNatClampNeg), .int (xs (nI i + 2).toNatClampNeg)]) (st := [.int r]) (stk2 := [.int r, .int r]) hK (C_X12_runs e2) d_law_920 mf_X12_runs ml_L_100 im_X12_runs rfl se_11_RX12_X12_runs kd_78 rfl (Nat.le_of_ble_eq_true rfl) (by decide) hcs rfl rfl ?_
  exact r_icmp_eq (tgt := 2187) hK d_law_923 (by decide) (fun _ => kk μ2 hR) (fun h => absurd rfl h)
set_option maxRecDepth 20000 in
theorem lc_17 {p : Program} {l : Launch} {e : Env} {s : State} {m : MethodId} {below : List Frame} {meth : Method} {c : Code} {cells slots : Nat} {Q : State → Prop} {ad : Nat → Nat} {g : va_G} {tyc : Nat → ClassId} {L i : Nat} {xs : Nat → Int32} {Rel : gs_M → Prop} {μ : gs_M} (hK : KC p room_1 s m #[Value.ref (ad 118)] meth c ad g tyc "GrainShiftLaw" code 7 ret 1000) (hX : va_X (ad 118) L xs s s.heap) (hbl : ad 118 < s.heap.size) (had : ∀ k, k < 99 → ad k = s.heap.size + k) (hi : i + 8 ≤ L) (hL : L ≤ 4096) (hcs : cells ≤ room_1.cells ∧ slots ≤ room_1.slots) (hH : ∃ (r : Int32) (μ1 μ2 : gs_M), D_X11_ballast (xs (nI i + 1).toNatClampNeg) μ = some (r, μ1) ∧ D_X12_ballast (xs (nI i + 1).toNatClampNeg) μ1 = some (r, μ2) ∧ Rel μ2) (kk : ∀ μ2, Rel μ2 → WJ p l e room_1 s m #[Value.ref (ad 118)] below meth c cells slots Q ad g tyc 7 2187 (gs_pst i) ([]) μ2) : WJ p l e room_1 s m #[Value.ref (ad 118)] below meth c cells slots Q ad g tyc 7 928 (gs_pst i) ([]) μ := by
  obtain ⟨r, μ1, μ2, e1, e2, hR⟩ := hH
  refine r_aload_n hK d_law_928 rfl rfl ?_
  refine r_aload_n hK d_law_929 rfl rfl ?_
  refine r_iload hK d_law_930 rfl ?_
  refine r_iconst hK d_law_932 ci_1 ?_
  refine r_iadd hK d_law_933 ?_
  refine r_sld hK hX hbl had (sl_in1 hi hL) d_law_934 ?_
  refine r_callV (As := [.int (xs (nI i + 1).toNatClampNeg)]) (st := []) (stk2 := [.int r]) hK (C_X11_ballast e1) d_law_935 mf_X11_ballast ml_L_101 im_X11_ballast rfl se_10_RX11_X11_ballast kd_0 rfl (Nat.le_of_ble_eq_true rfl) (by decide) hcs rfl rfl ?_
  refine r_aload_n hK d_law_938 rfl rfl ?_
  refine r_aload_n hK d_law_939 rfl rfl ?_
  refine r_iload hK d_law_940 rfl ?_
  refine r_iconst hK d_law_942 ci_1 ?_
  refine r_iadd hK d_law_943 ?_
  refine r_sld hK hX hbl had (sl_in1 hi hL) d_law_944 ?_
  refine r_callV (As := [.int (xs (nI i + 1).toNatClampNeg)]) (st := [.int r]) (stk2 := [.int r, .int r]) hK (C_X12_ballast e2) d_law_945 mf_X12_ballast ml_L_104 im_X12_ballast rfl se_11_RX12_X12_ballast kd_78 rfl (Nat.le_of_ble_eq_true rfl) (by decide) hcs rfl rfl ?_
  exact r_icmp_eq (tgt := 2187) hK d_law_948 (by decide) (fun _ => kk μ2 hR) (fun h => absurd rfl h)
set_option maxRecDepth 20000 in
theorem lc_18 {p : Program} {l : Launch} {e : Env} {s : State} {m : MethodId} {below : List Frame} {meth : Method} {c : Code} {cells slots : Nat} {Q : State → Prop} {ad : Nat → Nat} {g : va_G} {tyc : Nat → ClassId} {L i : Nat} {xs : Nat → Int32} {Rel : gs_M → Prop} {μ : gs_M} (hK : KC p room_1 s m #[Value.ref (ad 118)] meth c ad g tyc "GrainShiftLaw" code 7 ret 1000) (hX : va_X (ad 118) L xs s s.heap) (hbl : ad 118 < s.heap.size) (had : ∀ k, k < 99 → ad k = s.heap.size + k) (hi : i + 8 ≤ L) (hL : L ≤ 4096) (hcs : cells ≤ room_1.cells ∧ slots ≤ room_1.slots) (hH : ∃ (r : Int32) (μ1 μ2 : gs_M), D_X11_course (xs (nI i + 1).toNatClampNeg) (xs (nI i + 2).toNatClampNeg) μ = some (r, μ1) ∧ D_X12_course (xs (nI i + 1).toNatClampNeg) (xs (nI i + 2).toNatClampNeg) μ1 = some (r, μ2) ∧ Rel μ2) (kk : ∀ μ2, Rel μ2 → WJ p l e room_1 s m #[Value.ref (ad 118)] below meth c cells slots Q ad g tyc 7 2187 (gs_pst i) ([]) μ2) : WJ p l e room_1 s m #[Value.ref (ad 118)] below meth c cells slots Q ad g tyc 7 953 (gs_pst i) ([]) μ := by
  obtain ⟨r, μ1, μ2, e1, e2, hR⟩ := hH
  refine r_aload_n hK d_law_953 rfl rfl ?_
  refine r_aload_n hK d_law_954 rfl rfl ?_
  refine r_iload hK d_law_955 rfl ?_
  refine r_iconst hK d_law_957 ci_1 ?_
  refine r_iadd hK d_law_958 ?_
  refine r_sld hK hX hbl had (sl_in1 hi hL) d_law_959 ?_
  refine r_aload_n hK d_law_960 rfl rfl ?_
  refine r_iload hK d_law_961 rfl ?_
  refine r_iconst hK d_law_963 ci_2 ?_
  refine r_iadd hK d_law_964 ?_
  refine r_sld hK hX hbl had (sl_in2 hi hL) d_law_965 ?_
  refine r_callV (As := [.int (xs (nI i + 1).toNatClampNeg), .int (xs (nI i + 2).toNatClampNeg)]) (st := []) (stk2 := [.int r]) hK (C_X11_course e1) d_law_966 mf_X11_course ml_L_105 im_X11_course rfl se_10_RX11_X11_course kd_0 rfl (Nat.le_of_ble_eq_true rfl) (by decide) hcs rfl rfl ?_
  refine r_aload_n hK d_law_969 rfl rfl ?_
  refine r_aload_n hK d_law_970 rfl rfl ?_
  refine r_iload hK d_law_971 rfl ?_
  refine r_iconst hK d_law_973 ci_1 ?_
  refine r_iadd hK d_law_974 ?_
  refine r_sld hK hX hbl had (sl_in1 hi hL) d_law_975 ?_
  refine r_aload_n hK d_law_976 rfl rfl ?_
  refine r_iload hK d_law_977 rfl ?_
  refine r_iconst hK d_law_979 ci_2 ?_
  refine r_iadd hK d_law_980 ?_
  refine r_sld hK hX hbl had (sl_in2 hi hL) d_law_981 ?_
  refine r_callV (As := [.int (xs (nI i + 1).toNatClampNeg), .int (xs (nI i + 2).toNatClampNeg)]) (st := [.int r]) (stk2 := [.int r, .int r]) hK (C_X12_course e2) d_law_982 mf_X12_course ml_L_108 im_X12_course rfl se_11_RX12_X12_course kd_78 rfl (Nat.le_of_ble_eq_true rfl) (by decide) hcs rfl rfl ?_
  exact r_icmp_eq (tgt := 2187) hK d_law_985 (by decide) (fun _ => kk μ2 hR) (fun h => absurd rfl h)
set_option maxRecDepth 20000 in
theorem lc_19 {p : Program} {l : Launch} {e : Env} {s : State} {m : MethodId} {below : List Frame} {meth : Method} {c : Code} {cells slots : Nat} {Q : State → Prop} {ad : Nat → Nat} {g : va_G} {tyc : Nat → ClassId} {L i : Nat} {xs : Nat → Int32} {Rel : gs_M → Prop} {μ : gs_M} (hK : KC p room_1 s m #[Value.ref (ad 118)] meth c ad g tyc "GrainShiftLaw" code 7 ret 1000) (hX : va_X (ad 118) L xs s s.heap) (hbl : ad 118 < s.heap.size) (had : ∀ k, k < 99 → ad k = s.heap.size + k) (hi : i + 8 ≤ L) (hL : L ≤ 4096) (hcs : cells ≤ room_1.cells ∧ slots ≤ room_1.slots) (hH : ∃ (r : Int32) (μ1 μ2 : gs_M), D_X11_best (xs (nI i + 1).toNatClampNeg) μ = some (r, μ1) ∧ D_X12_best (xs (nI i + 1).toNatClampNeg) μ1 = some (r, μ2) ∧ Rel μ2) (kk : ∀ μ2, Rel μ2 → WJ p l e room_1 s m #[Value.ref (ad 118)] below meth c cells slots Q ad g tyc 7 2187 (gs_pst i) ([]) μ2) : WJ p l e room_1 s m #[Value.ref (ad 118)] below meth c cells slots Q ad g tyc 7 990 (gs_pst i) ([]) μ := by
  obtain ⟨r, μ1, μ2, e1, e2, hR⟩ := hH
  refine r_aload_n hK d_law_990 rfl rfl ?_
  refine r_aload_n hK d_law_991 rfl rfl ?_
  refine r_iload hK d_law_992 rfl ?_
  refine r_iconst hK d_law_994 ci_1 ?_
  refine r_iadd hK d_law_995 ?_
  refine r_sld hK hX hbl had (sl_in1 hi hL) d_law_996 ?_
  refine r_callV (As := [.int (xs (nI i + 1).toNatClampNeg)]) (st := []) (stk2 := [.int r]) hK (C_X11_best e1) d_law_997 mf_X11_best ml_L_109 im_X11_best rfl se_10_RX11_X11_best kd_0 rfl (Nat.le_of_ble_eq_true rfl) (by decide) hcs rfl rfl ?_
  refine r_aload_n hK d_law_1000 rfl rfl ?_
  refine r_aload_n hK d_law_1001 rfl rfl ?_
  refine r_iload hK d_law_1002 rfl ?_
  refine r_iconst hK d_law_1004 ci_1 ?_
  refine r_iadd hK d_law_1005 ?_
  refine r_sld hK hX hbl had (sl_in1 hi hL) d_law_1006 ?_
  refine r_callV (As := [.int (xs (nI i + 1).toNatClampNeg)]) (st := [.int r]) (stk2 := [.int r, .int r]) hK (C_X12_best e2) d_law_1007 mf_X12_best ml_L_112 im_X12_best rfl se_11_RX12_X12_best kd_78 rfl (Nat.le_of_ble_eq_true rfl) (by decide) hcs rfl rfl ?_
  exact r_icmp_eq (tgt := 2187) hK d_law_1010 (by decide) (fun _ => kk μ2 hR) (fun h => absurd rfl h)
set_option maxRecDepth 20000 in
theorem lc_20 {p : Program} {l : Launch} {e : Env} {s : State} {m : MethodId} {below : List Frame} {meth : Method} {c : Code} {cells slots : Nat} {Q : State → Prop} {ad : Nat → Nat} {g : va_G} {tyc : Nat → ClassId} {L i : Nat} {xs : Nat → Int32} {Rel : gs_M → Prop} {μ : gs_M} (hK : KC p room_1 s m #[Value.ref (ad 118)] meth c ad g tyc "GrainShiftLaw" code 7 ret 1000) (hX : va_X (ad 118) L xs s s.heap) (hbl : ad 118 < s.heap.size) (had : ∀ k, k < 99 → ad k = s.heap.size + k) (hi : i + 8 ≤ L) (hL : L ≤ 4096) (hcs : cells ≤ room_1.cells ∧ slots ≤ room_1.slots) (hH : ∃ (r : Int32) (μ1 μ2 : gs_M), D_X11_cost (xs (nI i + 1).toNatClampNeg) (xs (nI i + 2).toNatClampNeg) μ = some (r, μ1) ∧ D_X12_cost (xs (nI i + 1).toNatClampNeg) (xs (nI i + 2).toNatClampNeg) μ1 = some (r, μ2) ∧ Rel μ2) (kk : ∀ μ2, Rel μ2 → WJ p l e room_1 s m #[Value.ref (ad 118)] below meth c cells slots Q ad g tyc 7 2187 (gs_pst i) ([]) μ2) : WJ p l e room_1 s m #[Value.ref (ad 118)] below meth c cells slots Q ad g tyc 7 1015 (gs_pst i) ([]) μ := by
  obtain ⟨r, μ1, μ2, e1, e2, hR⟩ := hH
  refine r_aload_n hK d_law_1015 rfl rfl ?_
  refine r_aload_n hK d_law_1016 rfl rfl ?_
  refine r_iload hK d_law_1017 rfl ?_
  refine r_iconst hK d_law_1019 ci_1 ?_
  refine r_iadd hK d_law_1020 ?_
  refine r_sld hK hX hbl had (sl_in1 hi hL) d_law_1021 ?_
  refine r_aload_n hK d_law_1022 rfl rfl ?_
  refine r_iload hK d_law_1023 rfl ?_
  refine r_iconst hK d_law_1025 ci_2 ?_
  refine r_iadd hK d_law_1026 ?_
  refine r_sld hK hX hbl had (sl_in2 hi hL) d_law_1027 ?_
  refine r_callV (As := [.int (xs (nI i + 1).toNatClampNeg), .int (xs (nI i + 2).toNatClampNeg)]) (st := []) (stk2 := [.int r]) hK (C_X11_cost e1) d_law_1028 mf_X11_cost ml_L_113 im_X11_cost rfl se_10_RX11_X11_cost kd_0 rfl (Nat.le_of_ble_eq_true rfl) (by decide) hcs rfl rfl ?_
  refine r_aload_n hK d_law_1031 rfl rfl ?_
  refine r_aload_n hK d_law_1032 rfl rfl ?_
  refine r_iload hK d_law_1033 rfl ?_
  refine r_iconst hK d_law_1035 ci_1 ?_
  refine r_iadd hK d_law_1036 ?_
  refine r_sld hK hX hbl had (sl_in1 hi hL) d_law_1037 ?_
  refine r_aload_n hK d_law_1038 rfl rfl ?_
  refine r_iload hK d_law_1039 rfl ?_
  refine r_iconst hK d_law_1041 ci_2 ?_
  refine r_iadd hK d_law_1042 ?_
  refine r_sld hK hX hbl had (sl_in2 hi hL) d_law_1043 ?_
  refine r_callV (As := [.int (xs (nI i + 1).toNatClampNeg), .int (xs (nI i + 2).toNatClampNeg)]) (st := [.int r]) (stk2 := [.int r, .int r]) hK (C_X12_cost e2) d_law_1044 mf_X12_cost ml_L_116 im_X12_cost rfl se_11_RX12_X12_cost kd_78 rfl (Nat.le_of_ble_eq_true rfl) (by decide) hcs rfl rfl ?_
  exact r_icmp_eq (tgt := 2187) hK d_law_1047 (by decide) (fun _ => kk μ2 hR) (fun h => absurd rfl h)
set_option maxRecDepth 20000 in
theorem lc_21 {p : Program} {l : Launch} {e : Env} {s : State} {m : MethodId} {below : List Frame} {meth : Method} {c : Code} {cells slots : Nat} {Q : State → Prop} {ad : Nat → Nat} {g : va_G} {tyc : Nat → ClassId} {L i : Nat} {xs : Nat → Int32} {Rel : gs_M → Prop} {μ : gs_M} (hK : KC p room_1 s m #[Value.ref (ad 118)] meth c ad g tyc "GrainShiftLaw" code 7 ret 1000) (hX : va_X (ad 118) L xs s s.heap) (hbl : ad 118 < s.heap.size) (had : ∀ k, k < 99 → ad k = s.heap.size + k) (hi : i + 8 ≤ L) (hL : L ≤ 4096) (hcs : cells ≤ room_1.cells ∧ slots ≤ room_1.slots) (hH : ∃ (r : Int32) (μ1 μ2 : gs_M), D_X11_safe (xs (nI i + 1).toNatClampNeg) (xs (nI i + 2).toNatClampNeg) (xs (nI i + 3).toNatClampNeg) (xs (nI i + 4).toNatClampNeg) (xs (nI i + 5).toNatClampNeg) μ = some (r, μ1) ∧ D_X12_safe (xs (nI i + 1).toNatClampNeg) (xs (nI i + 2).toNatClampNeg) (xs (nI i + 3).toNatClampNeg) (xs (nI i + 4).toNatClampNeg) (xs (nI i + 5).toNatClampNeg) μ1 = some (r, μ2) ∧ Rel μ2) (kk : ∀ μ2, Rel μ2 → WJ p l e room_1 s m #[Value.ref (ad 118)] below meth c cells slots Q ad g tyc 7 2187 (gs_pst i) ([]) μ2) : WJ p l e room_1 s m #[Value.ref (ad 118)] below meth c cells slots Q ad g tyc 7 1052 (gs_pst i) ([]) μ := by
  obtain ⟨r, μ1, μ2, e1, e2, hR⟩ := hH
  refine r_aload_n hK d_law_1052 rfl rfl ?_
  refine r_aload_n hK d_law_1053 rfl rfl ?_
  refine r_iload hK d_law_1054 rfl ?_
  refine r_iconst hK d_law_1056 ci_1 ?_
  refine r_iadd hK d_law_1057 ?_
  refine r_sld hK hX hbl had (sl_in1 hi hL) d_law_1058 ?_
  refine r_aload_n hK d_law_1059 rfl rfl ?_
  refine r_iload hK d_law_1060 rfl ?_
  refine r_iconst hK d_law_1062 ci_2 ?_
  refine r_iadd hK d_law_1063 ?_
  refine r_sld hK hX hbl had (sl_in2 hi hL) d_law_1064 ?_
  refine r_aload_n hK d_law_1065 rfl rfl ?_
  refine r_iload hK d_law_1066 rfl ?_
  refine r_iconst hK d_law_1068 ci_3 ?_
  refine r_iadd hK d_law_1069 ?_
  refine r_sld hK hX hbl had (sl_in3 hi hL) d_law_1070 ?_
  refine r_aload_n hK d_law_1071 rfl rfl ?_
  refine r_iload hK d_law_1072 rfl ?_
  refine r_iconst hK d_law_1074 ci_4 ?_
  refine r_iadd hK d_law_1075 ?_
  refine r_sld hK hX hbl had (sl_in4 hi hL) d_law_1076 ?_
  refine r_aload_n hK d_law_1077 rfl rfl ?_
  refine r_iload hK d_law_1078 rfl ?_
  refine r_iconst hK d_law_1080 ci_5 ?_
  refine r_iadd hK d_law_1081 ?_
  refine r_sld hK hX hbl had (sl_in5 hi hL) d_law_1082 ?_
  refine r_callV (As := [.int (xs (nI i + 1).toNatClampNeg), .int (xs (nI i + 2).toNatClampNeg), .int (xs (nI i + 3).toNatClampNeg), .int (xs (nI i + 4).toNatClampNeg), .int (xs (nI i + 5).toNatClampNeg)]) (st := []) (stk2 := [.int r]) hK (C_X11_safe e1) d_law_1083 mf_X11_safe ml_L_117 im_X11_safe rfl se_10_RX11_X11_safe kd_0 rfl (Nat.le_of_ble_eq_true rfl) (by decide) hcs rfl rfl ?_
  refine r_aload_n hK d_law_1086 rfl rfl ?_
  refine r_aload_n hK d_law_1087 rfl rfl ?_
  refine r_iload hK d_law_1088 rfl ?_
  refine r_iconst hK d_law_1090 ci_1 ?_
  refine r_iadd hK d_law_1091 ?_
  refine r_sld hK hX hbl had (sl_in1 hi hL) d_law_1092 ?_
  refine r_aload_n hK d_law_1093 rfl rfl ?_
  refine r_iload hK d_law_1094 rfl ?_
  refine r_iconst hK d_law_1096 ci_2 ?_
  refine r_iadd hK d_law_1097 ?_
  refine r_sld hK hX hbl had (sl_in2 hi hL) d_law_1098 ?_
  refine r_aload_n hK d_law_1099 rfl rfl ?_
  refine r_iload hK d_law_1100 rfl ?_
  refine r_iconst hK d_law_1102 ci_3 ?_
  refine r_iadd hK d_law_1103 ?_
  refine r_sld hK hX hbl had (sl_in3 hi hL) d_law_1104 ?_
  refine r_aload_n hK d_law_1105 rfl rfl ?_
  refine r_iload hK d_law_1106 rfl ?_
  refine r_iconst hK d_law_1108 ci_4 ?_
  refine r_iadd hK d_law_1109 ?_
  refine r_sld hK hX hbl had (sl_in4 hi hL) d_law_1110 ?_
  refine r_aload_n hK d_law_1111 rfl rfl ?_
  refine r_iload hK d_law_1112 rfl ?_
  refine r_iconst hK d_law_1114 ci_5 ?_
  refine r_iadd hK d_law_1115 ?_
  refine r_sld hK hX hbl had (sl_in5 hi hL) d_law_1116 ?_
  refine r_callV (As := [.int (xs (nI i + 1).toNatClampNeg), .int (xs (nI i + 2).toNatClampNeg), .int (xs (nI i + 3).toNatClampNeg), .int (xs (nI i + 4).toNatClampNeg), .int (xs (nI i + 5).toNatClampNeg)]) (st := [.int r]) (stk2 := [.int r, .int r]) hK (C_X12_safe e2) d_law_1117 mf_X12_safe ml_L_120 im_X12_safe rfl se_11_RX12_X12_safe kd_78 rfl (Nat.le_of_ble_eq_true rfl) (by decide) hcs rfl rfl ?_
  exact r_icmp_eq (tgt := 2187) hK d_law_1120 (by decide) (fun _ => kk μ2 hR) (fun h => absurd rfl h)
set_option maxRecDepth 20000 in
theorem lc_22 {p : Program} {l : Launch} {e : Env} {s : State} {m : MethodId} {below : List Frame} {meth : Method} {c : Code} {cells slots : Nat} {Q : State → Prop} {ad : Nat → Nat} {g : va_G} {tyc : Nat → ClassId} {L i : Nat} {xs : Nat → Int32} {Rel : gs_M → Prop} {μ : gs_M} (hK : KC p room_1 s m #[Value.ref (ad 118)] meth c ad g tyc "GrainShiftLaw" code 7 ret 1000) (hX : va_X (ad 118) L xs s s.heap) (hbl : ad 118 < s.heap.size) (had : ∀ k, k < 99 → ad k = s.heap.size + k) (hi : i + 8 ≤ L) (hL : L ≤ 4096) (hcs : cells ≤ room_1.cells ∧ slots ≤ room_1.slots) (hH : ∃ (r : Int32) (μ1 μ2 : gs_M), D_X11_cheapest (xs (nI i + 1).toNatClampNeg) (xs (nI i + 2).toNatClampNeg) (xs (nI i + 3).toNatClampNeg) (xs (nI i + 4).toNatClampNeg) (xs (nI i + 5).toNatClampNeg) μ = some (r, μ1) ∧ D_X12_cheapest (xs (nI i + 1).toNatClampNeg) (xs (nI i + 2).toNatClampNeg) (xs (nI i + 3).toNatClampNeg) (xs (nI i + 4).toNatClampNeg) (xs (nI i + 5).toNatClampNeg) μ1 = some (r, μ2) ∧ Rel μ2) (kk : ∀ μ2, Rel μ2 → WJ p l e room_1 s m #[Value.ref (ad 118)] below meth c cells slots Q ad g tyc 7 2187 (gs_pst i) ([]) μ2) : WJ p l e room_1 s m #[Value.ref (ad 118)] below meth c cells slots Q ad g tyc 7 1125 (gs_pst i) ([]) μ := by
  obtain ⟨r, μ1, μ2, e1, e2, hR⟩ := hH
  refine r_aload_n hK d_law_1125 rfl rfl ?_
  refine r_aload_n hK d_law_1126 rfl rfl ?_
  refine r_iload hK d_law_1127 rfl ?_
  refine r_iconst hK d_law_1129 ci_1 ?_
  refine r_iadd hK d_law_1130 ?_
  refine r_sld hK hX hbl had (sl_in1 hi hL) d_law_1131 ?_
  refine r_aload_n hK d_law_1132 rfl rfl ?_
  refine r_iload hK d_law_1133 rfl ?_
  refine r_iconst hK d_law_1135 ci_2 ?_
  refine r_iadd hK d_law_1136 ?_
  refine r_sld hK hX hbl had (sl_in2 hi hL) d_law_1137 ?_
  refine r_aload_n hK d_law_1138 rfl rfl ?_
  refine r_iload hK d_law_1139 rfl ?_
  refine r_iconst hK d_law_1141 ci_3 ?_
  refine r_iadd hK d_law_1142 ?_
  refine r_sld hK hX hbl had (sl_in3 hi hL) d_law_1143 ?_
  refine r_aload_n hK d_law_1144 rfl rfl ?_
  refine r_iload hK d_law_1145 rfl ?_
  refine r_iconst hK d_law_1147 ci_4 ?_
  refine r_iadd hK d_law_1148 ?_
  refine r_sld hK hX hbl had (sl_in4 hi hL) d_law_1149 ?_
  refine r_aload_n hK d_law_1150 rfl rfl ?_
  refine r_iload hK d_law_1151 rfl ?_
  refine r_iconst hK d_law_1153 ci_5 ?_
  refine r_iadd hK d_law_1154 ?_
  refine r_sld hK hX hbl had (sl_in5 hi hL) d_law_1155 ?_
  refine r_callV (As := [.int (xs (nI i + 1).toNatClampNeg), .int (xs (nI i + 2).toNatClampNeg), .int (xs (nI i + 3).toNatClampNeg), .int (xs (nI i + 4).toNatClampNeg), .int (xs (nI i + 5).toNatClampNeg)]) (st := []) (stk2 := [.int r]) hK (C_X11_cheapest e1) d_law_1156 mf_X11_cheapest ml_L_121 im_X11_cheapest rfl se_10_RX11_X11_cheapest kd_0 rfl (Nat.le_of_ble_eq_true rfl) (by decide) hcs rfl rfl ?_
  refine r_aload_n hK d_law_1159 rfl rfl ?_
  refine r_aload_n hK d_law_1160 rfl rfl ?_
  refine r_iload hK d_law_1161 rfl ?_
  refine r_iconst hK d_law_1163 ci_1 ?_
  refine r_iadd hK d_law_1164 ?_
  refine r_sld hK hX hbl had (sl_in1 hi hL) d_law_1165 ?_
  refine r_aload_n hK d_law_1166 rfl rfl ?_
  refine r_iload hK d_law_1167 rfl ?_
  refine r_iconst hK d_law_1169 ci_2 ?_
  refine r_iadd hK d_law_1170 ?_
  refine r_sld hK hX hbl had (sl_in2 hi hL) d_law_1171 ?_
  refine r_aload_n hK d_law_1172 rfl rfl ?_
  refine r_iload hK d_law_1173 rfl ?_
  refine r_iconst hK d_law_1175 ci_3 ?_
  refine r_iadd hK d_law_1176 ?_
  refine r_sld hK hX hbl had (sl_in3 hi hL) d_law_1177 ?_
  refine r_aload_n hK d_law_1178 rfl rfl ?_
  refine r_iload hK d_law_1179 rfl ?_
  refine r_iconst hK d_law_1181 ci_4 ?_
  refine r_iadd hK d_law_1182 ?_
  refine r_sld hK hX hbl had (sl_in4 hi hL) d_law_1183 ?_
  refine r_aload_n hK d_law_1184 rfl rfl ?_
  refine r_iload hK d_law_1185 rfl ?_
  refine r_iconst hK d_law_1187 ci_5 ?_
  refine r_iadd hK d_law_1188 ?_
  refine r_sld hK hX hbl had (sl_in5 hi hL) d_law_1189 ?_
  refine r_callV (As := [.int (xs (nI i + 1).toNatClampNeg), .int (xs (nI i + 2).toNatClampNeg), .int (xs (nI i + 3).toNatClampNeg), .int (xs (nI i + 4).toNatClampNeg), .int (xs (nI i + 5).toNatClampNeg)]) (st := [.int r]) (stk2 := [.int r, .int r]) hK (C_X12_cheapest e2) d_law_1190 mf_X12_cheapest ml_L_124 im_X12_cheapest rfl se_11_RX12_X12_cheapest kd_78 rfl (Nat.le_of_ble_eq_true rfl) (by decide) hcs rfl rfl ?_
  exact r_icmp_eq (tgt := 2187) hK d_law_1193 (by decide) (fun _ => kk μ2 hR) (fun h => absurd rfl h)
set_option maxRecDepth 20000 in
theorem lc_23 {p : Program} {l : Launch} {e : Env} {s : State} {m : MethodId} {below : List Frame} {meth : Method} {c : Code} {cells slots : Nat} {Q : State → Prop} {ad : Nat → Nat} {g : va_G} {tyc : Nat → ClassId} {L i : Nat} {xs : Nat → Int32} {Rel : gs_M → Prop} {μ : gs_M} (hK : KC p room_1 s m #[Value.ref (ad 118)] meth c ad g tyc "GrainShiftLaw" code 7 ret 1000) (hX : va_X (ad 118) L xs s s.heap) (hbl : ad 118 < s.heap.size) (had : ∀ k, k < 99 → ad k = s.heap.size + k) (hi : i + 8 ≤ L) (hL : L ≤ 4096) (hcs : cells ≤ room_1.cells ∧ slots ≤ room_1.slots) (hH : ∃ (r : Int32) (μ1 μ2 : gs_M), D_X11_fitted (xs (nI i + 1).toNatClampNeg) (xs (nI i + 2).toNatClampNeg) (xs (nI i + 3).toNatClampNeg) (xs (nI i + 4).toNatClampNeg) (xs (nI i + 5).toNatClampNeg) (xs (nI i + 6).toNatClampNeg) (xs (nI i + 7).toNatClampNeg) μ = some (r, μ1) ∧ D_X12_fitted (xs (nI i + 1).toNatClampNeg) (xs (nI i + 2).toNatClampNeg) (xs (nI i + 3).toNatClampNeg) (xs (nI i + 4).toNatClampNeg) (xs (nI i + 5).toNatClampNeg) (xs (nI i + 6).toNatClampNeg) (xs (nI i + 7).toNatClampNeg) μ1 = some (r, μ2) ∧ Rel μ2) (kk : ∀ μ2, Rel μ2 → WJ p l e room_1 s m #[Value.ref (ad 118)] below meth c cells slots Q ad g tyc 7 2187 (gs_pst i) ([]) μ2) : WJ p l e room_1 s m #[Value.ref (ad 118)] below meth c cells slots Q ad g tyc 7 1198 (gs_pst i) ([]) μ := by
  obtain ⟨r, μ1, μ2, e1, e2, hR⟩ := hH
  refine r_aload_n hK d_law_1198 rfl rfl ?_
  refine r_aload_n hK d_law_1199 rfl rfl ?_
  refine r_iload hK d_law_1200 rfl ?_
  refine r_iconst hK d_law_1202 ci_1 ?_
  refine r_iadd hK d_law_1203 ?_
  refine r_sld hK hX hbl had (sl_in1 hi hL) d_law_1204 ?_
  refine r_aload_n hK d_law_1205 rfl rfl ?_
  refine r_iload hK d_law_1206 rfl ?_
  refine r_iconst hK d_law_1208 ci_2 ?_
  refine r_iadd hK d_law_1209 ?_
  refine r_sld hK hX hbl had (sl_in2 hi hL) d_law_1210 ?_
  refine r_aload_n hK d_law_1211 rfl rfl ?_
  refine r_iload hK d_law_1212 rfl ?_
  refine r_iconst hK d_law_1214 ci_3 ?_
  refine r_iadd hK d_law_1215 ?_
  refine r_sld hK hX hbl had (sl_in3 hi hL) d_law_1216 ?_
  refine r_aload_n hK d_law_1217 rfl rfl ?_
  refine r_iload hK d_law_1218 rfl ?_
  refine r_iconst hK d_law_1220 ci_4 ?_
  refine r_iadd hK d_law_1221 ?_
  refine r_sld hK hX hbl had (sl_in4 hi hL) d_law_1222 ?_
  refine r_aload_n hK d_law_1223 rfl rfl ?_
  refine r_iload hK d_law_1224 rfl ?_
  refine r_iconst hK d_law_1226 ci_5 ?_
  refine r_iadd hK d_law_1227 ?_
  refine r_sld hK hX hbl had (sl_in5 hi hL) d_law_1228 ?_
  refine r_aload_n hK d_law_1229 rfl rfl ?_
  refine r_iload hK d_law_1230 rfl ?_
  refine r_bipush hK d_law_1232 cb_6 ?_
  refine r_iadd hK d_law_1234 ?_
  refine r_sld hK hX hbl had (sl_in6 hi hL) d_law_1235 ?_
  refine r_aload_n hK d_law_1236 rfl rfl ?_
  refine r_iload hK d_law_1237 rfl ?_
  refine r_bipush hK d_law_1239 cb_7 ?_
  refine r_iadd hK d_law_1241 ?_
  refine r_sld hK hX hbl had (sl_in7 hi hL) d_law_1242 ?_
  refine r_callV (As := [.int (xs (nI i + 1).toNatClampNeg), .int (xs (nI i + 2).toNatClampNeg), .int (xs (nI i + 3).toNatClampNeg), .int (xs (nI i + 4).toNatClampNeg), .int (xs (nI i + 5).toNatClampNeg), .int (xs (nI i + 6).toNatClampNeg), .int (xs (nI i + 7).toNatClampNeg)]) (st := []) (stk2 := [.int r]) hK (C_X11_fitted e1) d_law_1243 mf_X11_fitted ml_L_125 im_X11_fitted rfl se_10_RX11_X11_fitted kd_0 rfl (Nat.le_of_ble_eq_true rfl) (by decide) hcs rfl rfl ?_
  refine r_aload_n hK d_law_1246 rfl rfl ?_
  refine r_aload_n hK d_law_1247 rfl rfl ?_
  refine r_iload hK d_law_1248 rfl ?_
  refine r_iconst hK d_law_1250 ci_1 ?_
  refine r_iadd hK d_law_1251 ?_
  refine r_sld hK hX hbl had (sl_in1 hi hL) d_law_1252 ?_
  refine r_aload_n hK d_law_1253 rfl rfl ?_
  refine r_iload hK d_law_1254 rfl ?_
  refine r_iconst hK d_law_1256 ci_2 ?_
  refine r_iadd hK d_law_1257 ?_
  refine r_sld hK hX hbl had (sl_in2 hi hL) d_law_1258 ?_
  refine r_aload_n hK d_law_1259 rfl rfl ?_
  refine r_iload hK d_law_1260 rfl ?_
  refine r_iconst hK d_law_1262 ci_3 ?_
  refine r_iadd hK d_law_1263 ?_
  refine r_sld hK hX hbl had (sl_in3 hi hL) d_law_1264 ?_
  refine r_aload_n hK d_law_1265 rfl rfl ?_
  refine r_iload hK d_law_1266 rfl ?_
  refine r_iconst hK d_law_1268 ci_4 ?_
  refine r_iadd hK d_law_1269 ?_
  refine r_sld hK hX hbl had (sl_in4 hi hL) d_law_1270 ?_
  refine r_aload_n hK d_law_1271 rfl rfl ?_
  refine r_iload hK d_law_1272 rfl ?_
  refine r_iconst hK d_law_1274 ci_5 ?_
  refine r_iadd hK d_law_1275 ?_
  refine r_sld hK hX hbl had (sl_in5 hi hL) d_law_1276 ?_
  refine r_aload_n hK d_law_1277 rfl rfl ?_
  refine r_iload hK d_law_1278 rfl ?_
  refine r_bipush hK d_law_1280 cb_6 ?_
  refine r_iadd hK d_law_1282 ?_
  refine r_sld hK hX hbl had (sl_in6 hi hL) d_law_1283 ?_
  refine r_aload_n hK d_law_1284 rfl rfl ?_
  refine r_iload hK d_law_1285 rfl ?_
  refine r_bipush hK d_law_1287 cb_7 ?_
  refine r_iadd hK d_law_1289 ?_
  refine r_sld hK hX hbl had (sl_in7 hi hL) d_law_1290 ?_
  refine r_callV (As := [.int (xs (nI i + 1).toNatClampNeg), .int (xs (nI i + 2).toNatClampNeg), .int (xs (nI i + 3).toNatClampNeg), .int (xs (nI i + 4).toNatClampNeg), .int (xs (nI i + 5).toNatClampNeg), .int (xs (nI i + 6).toNatClampNeg), .int (xs (nI i + 7).toNatClampNeg)]) (st := [.int r]) (stk2 := [.int r, .int r]) hK (C_X12_fitted e2) d_law_1291 mf_X12_fitted ml_L_129 im_X12_fitted rfl se_11_RX12_X12_fitted kd_78 rfl (Nat.le_of_ble_eq_true rfl) (by decide) hcs rfl rfl ?_
  exact r_icmp_eq (tgt := 2187) hK d_law_1294 (by decide) (fun _ => kk μ2 hR) (fun h => absurd rfl h)
set_option maxRecDepth 20000 in
theorem lc_24 {p : Program} {l : Launch} {e : Env} {s : State} {m : MethodId} {below : List Frame} {meth : Method} {c : Code} {cells slots : Nat} {Q : State → Prop} {ad : Nat → Nat} {g : va_G} {tyc : Nat → ClassId} {L i : Nat} {xs : Nat → Int32} {Rel : gs_M → Prop} {μ : gs_M} (hK : KC p room_1 s m #[Value.ref (ad 118)] meth c ad g tyc "GrainShiftLaw" code 7 ret 1000) (hX : va_X (ad 118) L xs s s.heap) (hbl : ad 118 < s.heap.size) (had : ∀ k, k < 99 → ad k = s.heap.size + k) (hi : i + 8 ≤ L) (hL : L ≤ 4096) (hcs : cells ≤ room_1.cells ∧ slots ≤ room_1.slots) (hH : ∃ (r : Int32) (μ1 μ2 : gs_M), D_X11_log (xs (nI i + 1).toNatClampNeg) μ = some (r, μ1) ∧ D_X12_log (xs (nI i + 1).toNatClampNeg) μ1 = some (r, μ2) ∧ Rel μ2) (kk : ∀ μ2, Rel μ2 → WJ p l e room_1 s m #[Value.ref (ad 118)] below meth c cells slots Q ad g tyc 7 2187 (gs_pst i) ([]) μ2) : WJ p l e room_1 s m #[Value.ref (ad 118)] below meth c cells slots Q ad g tyc 7 1299 (gs_pst i) ([]) μ := by
  obtain ⟨r, μ1, μ2, e1, e2, hR⟩ := hH
  refine r_aload_n hK d_law_1299 rfl rfl ?_
  refine r_aload_n hK d_law_1300 rfl rfl ?_
  refine r_iload hK d_law_1301 rfl ?_
  refine r_iconst hK d_law_1303 ci_1 ?_
  refine r_iadd hK d_law_1304 ?_
  refine r_sld hK hX hbl had (sl_in1 hi hL) d_law_1305 ?_
  refine r_callV (As := [.int (xs (nI i + 1).toNatClampNeg)]) (st := []) (stk2 := [.int r]) hK (C_X11_log e1) d_law_1306 mf_X11_log ml_L_130 im_X11_log rfl se_10_RX11_X11_log kd_0 rfl (Nat.le_of_ble_eq_true rfl) (by decide) hcs rfl rfl ?_
  refine r_aload_n hK d_law_1309 rfl rfl ?_
  refine r_aload_n hK d_law_1310 rfl rfl ?_
  refine r_iload hK d_law_1311 rfl ?_
  refine r_iconst hK d_law_1313 ci_1 ?_
  refine r_iadd hK d_law_1314 ?_
  refine r_sld hK hX hbl had (sl_in1 hi hL) d_law_1315 ?_
  refine r_callV (As := [.int (xs (nI i + 1).toNatClampNeg)]) (st := [.int r]) (stk2 := [.int r, .int r]) hK (C_X12_log e2) d_law_1316 mf_X12_log ml_L_133 im_X12_log rfl se_11_RX12_X12_log kd_78 rfl (Nat.le_of_ble_eq_true rfl) (by decide) hcs rfl rfl ?_
  exact r_icmp_eq (tgt := 2187) hK d_law_1319 (by decide) (fun _ => kk μ2 hR) (fun h => absurd rfl h)
set_option maxRecDepth 20000 in
theorem lc_25 {p : Program} {l : Launch} {e : Env} {s : State} {m : MethodId} {below : List Frame} {meth : Method} {c : Code} {cells slots : Nat} {Q : State → Prop} {ad : Nat → Nat} {g : va_G} {tyc : Nat → ClassId} {L i : Nat} {xs : Nat → Int32} {Rel : gs_M → Prop} {μ : gs_M} (hK : KC p room_1 s m #[Value.ref (ad 118)] meth c ad g tyc "GrainShiftLaw" code 7 ret 1000) (hX : va_X (ad 118) L xs s s.heap) (hbl : ad 118 < s.heap.size) (had : ∀ k, k < 99 → ad k = s.heap.size + k) (hi : i + 8 ≤ L) (hL : L ≤ 4096) (hcs : cells ≤ room_1.cells ∧ slots ≤ room_1.slots) (hH : ∃ (r : Int32) (μ1 μ2 : gs_M), D_X11_agree (xs (nI i + 1).toNatClampNeg) (xs (nI i + 2).toNatClampNeg) (xs (nI i + 3).toNatClampNeg) μ = some (r, μ1) ∧ D_X12_agree (xs (nI i + 1).toNatClampNeg) (xs (nI i + 2).toNatClampNeg) (xs (nI i + 3).toNatClampNeg) μ1 = some (r, μ2) ∧ Rel μ2) (kk : ∀ μ2, Rel μ2 → WJ p l e room_1 s m #[Value.ref (ad 118)] below meth c cells slots Q ad g tyc 7 2187 (gs_pst i) ([]) μ2) : WJ p l e room_1 s m #[Value.ref (ad 118)] below meth c cells slots Q ad g tyc 7 1324 (gs_pst i) ([]) μ := by
  obtain ⟨r, μ1, μ2, e1, e2, hR⟩ := hH
  refine r_aload_n hK d_law_1324 rfl rfl ?_
  refine r_aload_n hK d_law_1325 rfl rfl ?_
  refine r_iload hK d_law_1326 rfl ?_
  refine r_iconst hK d_law_1328 ci_1 ?_
  refine r_iadd hK d_law_1329 ?_
  refine r_sld hK hX hbl had (sl_in1 hi hL) d_law_1330 ?_
  refine r_aload_n hK d_law_1331 rfl rfl ?_
  refine r_iload hK d_law_1332 rfl ?_
  refine r_iconst hK d_law_1334 ci_2 ?_
  refine r_iadd hK d_law_1335 ?_
  refine r_sld hK hX hbl had (sl_in2 hi hL) d_law_1336 ?_
  refine r_aload_n hK d_law_1337 rfl rfl ?_
  refine r_iload hK d_law_1338 rfl ?_
  refine r_iconst hK d_law_1340 ci_3 ?_
  refine r_iadd hK d_law_1341 ?_
  refine r_sld hK hX hbl had (sl_in3 hi hL) d_law_1342 ?_
  refine r_callV (As := [.int (xs (nI i + 1).toNatClampNeg), .int (xs (nI i + 2).toNatClampNeg), .int (xs (nI i + 3).toNatClampNeg)]) (st := []) (stk2 := [.int r]) hK (C_X11_agree e1) d_law_1343 mf_X11_agree ml_L_134 im_X11_agree rfl se_10_RX11_X11_agree kd_0 rfl (Nat.le_of_ble_eq_true rfl) (by decide) hcs rfl rfl ?_
  refine r_aload_n hK d_law_1346 rfl rfl ?_
  refine r_aload_n hK d_law_1347 rfl rfl ?_
  refine r_iload hK d_law_1348 rfl ?_
  refine r_iconst hK d_law_1350 ci_1 ?_
  refine r_iadd hK d_law_1351 ?_
  refine r_sld hK hX hbl had (sl_in1 hi hL) d_law_1352 ?_
  refine r_aload_n hK d_law_1353 rfl rfl ?_
  refine r_iload hK d_law_1354 rfl ?_
  refine r_iconst hK d_law_1356 ci_2 ?_
  refine r_iadd hK d_law_1357 ?_
  refine r_sld hK hX hbl had (sl_in2 hi hL) d_law_1358 ?_
  refine r_aload_n hK d_law_1359 rfl rfl ?_
  refine r_iload hK d_law_1360 rfl ?_
  refine r_iconst hK d_law_1362 ci_3 ?_
  refine r_iadd hK d_law_1363 ?_
  refine r_sld hK hX hbl had (sl_in3 hi hL) d_law_1364 ?_
  refine r_callV (As := [.int (xs (nI i + 1).toNatClampNeg), .int (xs (nI i + 2).toNatClampNeg), .int (xs (nI i + 3).toNatClampNeg)]) (st := [.int r]) (stk2 := [.int r, .int r]) hK (C_X12_agree e2) d_law_1365 mf_X12_agree ml_L_137 im_X12_agree rfl se_11_RX12_X12_agree kd_78 rfl (Nat.le_of_ble_eq_true rfl) (by decide) hcs rfl rfl ?_
  exact r_icmp_eq (tgt := 2187) hK d_law_1368 (by decide) (fun _ => kk μ2 hR) (fun h => absurd rfl h)
set_option maxRecDepth 20000 in
theorem lc_26 {p : Program} {l : Launch} {e : Env} {s : State} {m : MethodId} {below : List Frame} {meth : Method} {c : Code} {cells slots : Nat} {Q : State → Prop} {ad : Nat → Nat} {g : va_G} {tyc : Nat → ClassId} {L i : Nat} {xs : Nat → Int32} {Rel : gs_M → Prop} {μ : gs_M} (hK : KC p room_1 s m #[Value.ref (ad 118)] meth c ad g tyc "GrainShiftLaw" code 7 ret 1000) (hX : va_X (ad 118) L xs s s.heap) (hbl : ad 118 < s.heap.size) (had : ∀ k, k < 99 → ad k = s.heap.size + k) (hi : i + 8 ≤ L) (hL : L ≤ 4096) (hcs : cells ≤ room_1.cells ∧ slots ≤ room_1.slots) (hH : ∃ (r : Int32) (μ1 μ2 : gs_M), D_X11_heap (xs (nI i + 1).toNatClampNeg) μ = some (r, μ1) ∧ D_X12_heap (xs (nI i + 1).toNatClampNeg) μ1 = some (r, μ2) ∧ Rel μ2) (kk : ∀ μ2, Rel μ2 → WJ p l e room_1 s m #[Value.ref (ad 118)] below meth c cells slots Q ad g tyc 7 2187 (gs_pst i) ([]) μ2) : WJ p l e room_1 s m #[Value.ref (ad 118)] below meth c cells slots Q ad g tyc 7 1373 (gs_pst i) ([]) μ := by
  obtain ⟨r, μ1, μ2, e1, e2, hR⟩ := hH
  refine r_aload_n hK d_law_1373 rfl rfl ?_
  refine r_aload_n hK d_law_1374 rfl rfl ?_
  refine r_iload hK d_law_1375 rfl ?_
  refine r_iconst hK d_law_1377 ci_1 ?_
  refine r_iadd hK d_law_1378 ?_
  refine r_sld hK hX hbl had (sl_in1 hi hL) d_law_1379 ?_
  refine r_callV (As := [.int (xs (nI i + 1).toNatClampNeg)]) (st := []) (stk2 := [.int r]) hK (C_X11_heap e1) d_law_1380 mf_X11_heap ml_L_138 im_X11_heap rfl se_10_RX11_X11_heap kd_0 rfl (Nat.le_of_ble_eq_true rfl) (by decide) hcs rfl rfl ?_
  refine r_aload_n hK d_law_1383 rfl rfl ?_
  refine r_aload_n hK d_law_1384 rfl rfl ?_
  refine r_iload hK d_law_1385 rfl ?_
  refine r_iconst hK d_law_1387 ci_1 ?_
  refine r_iadd hK d_law_1388 ?_
  refine r_sld hK hX hbl had (sl_in1 hi hL) d_law_1389 ?_
  refine r_callV (As := [.int (xs (nI i + 1).toNatClampNeg)]) (st := [.int r]) (stk2 := [.int r, .int r]) hK (C_X12_heap e2) d_law_1390 mf_X12_heap ml_L_141 im_X12_heap rfl se_11_RX12_X12_heap kd_78 rfl (Nat.le_of_ble_eq_true rfl) (by decide) hcs rfl rfl ?_
  exact r_icmp_eq (tgt := 2187) hK d_law_1393 (by decide) (fun _ => kk μ2 hR) (fun h => absurd rfl h)
set_option maxRecDepth 20000 in
theorem lc_27 {p : Program} {l : Launch} {e : Env} {s : State} {m : MethodId} {below : List Frame} {meth : Method} {c : Code} {cells slots : Nat} {Q : State → Prop} {ad : Nat → Nat} {g : va_G} {tyc : Nat → ClassId} {L i : Nat} {xs : Nat → Int32} {Rel : gs_M → Prop} {μ : gs_M} (hK : KC p room_1 s m #[Value.ref (ad 118)] meth c ad g tyc "GrainShiftLaw" code 7 ret 1000) (hX : va_X (ad 118) L xs s s.heap) (hbl : ad 118 < s.heap.size) (had : ∀ k, k < 99 → ad k = s.heap.size + k) (hi : i + 8 ≤ L) (hL : L ≤ 4096) (hcs : cells ≤ room_1.cells ∧ slots ≤ room_1.slots) (hH : ∃ (r : Int32) (μ1 μ2 : gs_M), D_X11_miss (xs (nI i + 1).toNatClampNeg) (xs (nI i + 2).toNatClampNeg) μ = some (r, μ1) ∧ D_X12_miss (xs (nI i + 1).toNatClampNeg) (xs (nI i + 2).toNatClampNeg) μ1 = some (r, μ2) ∧ Rel μ2) (kk : ∀ μ2, Rel μ2 → WJ p l e room_1 s m #[Value.ref (ad 118)] below meth c cells slots Q ad g tyc 7 2187 (gs_pst i) ([]) μ2) : WJ p l e room_1 s m #[Value.ref (ad 118)] below meth c cells slots Q ad g tyc 7 1398 (gs_pst i) ([]) μ := by
  obtain ⟨r, μ1, μ2, e1, e2, hR⟩ := hH
  refine r_aload_n hK d_law_1398 rfl rfl ?_
  refine r_aload_n hK d_law_1399 rfl rfl ?_
  refine r_iload hK d_law_1400 rfl ?_
  refine r_iconst hK d_law_1402 ci_1 ?_
  refine r_iadd hK d_law_1403 ?_
  refine r_sld hK hX hbl had (sl_in1 hi hL) d_law_1404 ?_
  refine r_aload_n hK d_law_1405 rfl rfl ?_
  refine r_iload hK d_law_1406 rfl ?_
  refine r_iconst hK d_law_1408 ci_2 ?_
  refine r_iadd hK d_law_1409 ?_
  refine r_sld hK hX hbl had (sl_in2 hi hL) d_law_1410 ?_
  refine r_callV (As := [.int (xs (nI i + 1).toNatClampNeg), .int (xs (nI i + 2).toNatClampNeg)]) (st := []) (stk2 := [.int r]) hK (C_X11_miss e1) d_law_1411 mf_X11_miss ml_L_142 im_X11_miss rfl se_10_RX11_X11_miss kd_0 rfl (Nat.le_of_ble_eq_true rfl) (by decide) hcs rfl rfl ?_
  refine r_aload_n hK d_law_1414 rfl rfl ?_
  refine r_aload_n hK d_law_1415 rfl rfl ?_
  refine r_iload hK d_law_1416 rfl ?_
  refine r_iconst hK d_law_1418 ci_1 ?_
  refine r_iadd hK d_law_1419 ?_
  refine r_sld hK hX hbl had (sl_in1 hi hL) d_law_1420 ?_
  refine r_aload_n hK d_law_1421 rfl rfl ?_
  refine r_iload hK d_law_1422 rfl ?_
  refine r_iconst hK d_law_1424 ci_2 ?_
  refine r_iadd hK d_law_1425 ?_
  refine r_sld hK hX hbl had (sl_in2 hi hL) d_law_1426 ?_
  refine r_callV (As := [.int (xs (nI i + 1).toNatClampNeg), .int (xs (nI i + 2).toNatClampNeg)]) (st := [.int r]) (stk2 := [.int r, .int r]) hK (C_X12_miss e2) d_law_1427 mf_X12_miss ml_L_145 im_X12_miss rfl se_11_RX12_X12_miss kd_78 rfl (Nat.le_of_ble_eq_true rfl) (by decide) hcs rfl rfl ?_
  exact r_icmp_eq (tgt := 2187) hK d_law_1430 (by decide) (fun _ => kk μ2 hR) (fun h => absurd rfl h)
set_option maxRecDepth 20000 in
theorem lc_28 {p : Program} {l : Launch} {e : Env} {s : State} {m : MethodId} {below : List Frame} {meth : Method} {c : Code} {cells slots : Nat} {Q : State → Prop} {ad : Nat → Nat} {g : va_G} {tyc : Nat → ClassId} {L i : Nat} {xs : Nat → Int32} {Rel : gs_M → Prop} {μ : gs_M} (hK : KC p room_1 s m #[Value.ref (ad 118)] meth c ad g tyc "GrainShiftLaw" code 7 ret 1000) (hX : va_X (ad 118) L xs s s.heap) (hbl : ad 118 < s.heap.size) (had : ∀ k, k < 99 → ad k = s.heap.size + k) (hi : i + 8 ≤ L) (hL : L ≤ 4096) (hcs : cells ≤ room_1.cells ∧ slots ≤ room_1.slots) (hH : ∃ (r : Int32) (μ1 μ2 : gs_M), D_X11_enough (xs (nI i + 1).toNatClampNeg) (xs (nI i + 2).toNatClampNeg) μ = some (r, μ1) ∧ D_X12_enough (xs (nI i + 1).toNatClampNeg) (xs (nI i + 2).toNatClampNeg) μ1 = some (r, μ2) ∧ Rel μ2) (kk : ∀ μ2, Rel μ2 → WJ p l e room_1 s m #[Value.ref (ad 118)] below meth c cells slots Q ad g tyc 7 2187 (gs_pst i) ([]) μ2) : WJ p l e room_1 s m #[Value.ref (ad 118)] below meth c cells slots Q ad g tyc 7 1435 (gs_pst i) ([]) μ := by
  obtain ⟨r, μ1, μ2, e1, e2, hR⟩ := hH
  refine r_aload_n hK d_law_1435 rfl rfl ?_
  refine r_aload_n hK d_law_1436 rfl rfl ?_
  refine r_iload hK d_law_1437 rfl ?_
  refine r_iconst hK d_law_1439 ci_1 ?_
  refine r_iadd hK d_law_1440 ?_
  refine r_sld hK hX hbl had (sl_in1 hi hL) d_law_1441 ?_
  refine r_aload_n hK d_law_1442 rfl rfl ?_
  refine r_iload hK d_law_1443 rfl ?_
  refine r_iconst hK d_law_1445 ci_2 ?_
  refine r_iadd hK d_law_1446 ?_
  refine r_sld hK hX hbl had (sl_in2 hi hL) d_law_1447 ?_
  refine r_callV (As := [.int (xs (nI i + 1).toNatClampNeg), .int (xs (nI i + 2).toNatClampNeg)]) (st := []) (stk2 := [.int r]) hK (C_X11_enough e1) d_law_1448 mf_X11_enough ml_L_146 im_X11_enough rfl se_10_RX11_X11_enough kd_0 rfl (Nat.le_of_ble_eq_true rfl) (by decide) hcs rfl rfl ?_
  refine r_aload_n hK d_law_1451 rfl rfl ?_
  refine r_aload_n hK d_law_1452 rfl rfl ?_
  refine r_iload hK d_law_1453 rfl ?_
  refine r_iconst hK d_law_1455 ci_1 ?_
  refine r_iadd hK d_law_1456 ?_
  refine r_sld hK hX hbl had (sl_in1 hi hL) d_law_1457 ?_
  refine r_aload_n hK d_law_1458 rfl rfl ?_
  refine r_iload hK d_law_1459 rfl ?_
  refine r_iconst hK d_law_1461 ci_2 ?_
  refine r_iadd hK d_law_1462 ?_
  refine r_sld hK hX hbl had (sl_in2 hi hL) d_law_1463 ?_
  refine r_callV (As := [.int (xs (nI i + 1).toNatClampNeg), .int (xs (nI i + 2).toNatClampNeg)]) (st := [.int r]) (stk2 := [.int r, .int r]) hK (C_X12_enough e2) d_law_1464 mf_X12_enough ml_L_149 im_X12_enough rfl se_11_RX12_X12_enough kd_78 rfl (Nat.le_of_ble_eq_true rfl) (by decide) hcs rfl rfl ?_
  exact r_icmp_eq (tgt := 2187) hK d_law_1467 (by decide) (fun _ => kk μ2 hR) (fun h => absurd rfl h)
set_option maxRecDepth 20000 in
theorem lc_29 {p : Program} {l : Launch} {e : Env} {s : State} {m : MethodId} {below : List Frame} {meth : Method} {c : Code} {cells slots : Nat} {Q : State → Prop} {ad : Nat → Nat} {g : va_G} {tyc : Nat → ClassId} {L i : Nat} {xs : Nat → Int32} {Rel : gs_M → Prop} {μ : gs_M} (hK : KC p room_1 s m #[Value.ref (ad 118)] meth c ad g tyc "GrainShiftLaw" code 7 ret 1000) (hX : va_X (ad 118) L xs s s.heap) (hbl : ad 118 < s.heap.size) (had : ∀ k, k < 99 → ad k = s.heap.size + k) (hi : i + 8 ≤ L) (hL : L ≤ 4096) (hcs : cells ≤ room_1.cells ∧ slots ≤ room_1.slots) (hH : ∃ (r : Int32) (μ1 μ2 : gs_M), D_X11_refuse (xs (nI i + 1).toNatClampNeg) (xs (nI i + 2).toNatClampNeg) (xs (nI i + 3).toNatClampNeg) (xs (nI i + 4).toNatClampNeg) μ = some (r, μ1) ∧ D_X12_refuse (xs (nI i + 1).toNatClampNeg) (xs (nI i + 2).toNatClampNeg) (xs (nI i + 3).toNatClampNeg) (xs (nI i + 4).toNatClampNeg) μ1 = some (r, μ2) ∧ Rel μ2) (kk : ∀ μ2, Rel μ2 → WJ p l e room_1 s m #[Value.ref (ad 118)] below meth c cells slots Q ad g tyc 7 2187 (gs_pst i) ([]) μ2) : WJ p l e room_1 s m #[Value.ref (ad 118)] below meth c cells slots Q ad g tyc 7 1472 (gs_pst i) ([]) μ := by
  obtain ⟨r, μ1, μ2, e1, e2, hR⟩ := hH
  refine r_aload_n hK d_law_1472 rfl rfl ?_
  refine r_aload_n hK d_law_1473 rfl rfl ?_
  refine r_iload hK d_law_1474 rfl ?_
  refine r_iconst hK d_law_1476 ci_1 ?_
  refine r_iadd hK d_law_1477 ?_
  refine r_sld hK hX hbl had (sl_in1 hi hL) d_law_1478 ?_
  refine r_aload_n hK d_law_1479 rfl rfl ?_
  refine r_iload hK d_law_1480 rfl ?_
  refine r_iconst hK d_law_1482 ci_2 ?_
  refine r_iadd hK d_law_1483 ?_
  refine r_sld hK hX hbl had (sl_in2 hi hL) d_law_1484 ?_
  refine r_aload_n hK d_law_1485 rfl rfl ?_
  refine r_iload hK d_law_1486 rfl ?_
  refine r_iconst hK d_law_1488 ci_3 ?_
  refine r_iadd hK d_law_1489 ?_
  refine r_sld hK hX hbl had (sl_in3 hi hL) d_law_1490 ?_
  refine r_aload_n hK d_law_1491 rfl rfl ?_
  refine r_iload hK d_law_1492 rfl ?_
  refine r_iconst hK d_law_1494 ci_4 ?_
  refine r_iadd hK d_law_1495 ?_
  refine r_sld hK hX hbl had (sl_in4 hi hL) d_law_1496 ?_
  refine r_callV (As := [.int (xs (nI i + 1).toNatClampNeg), .int (xs (nI i + 2).toNatClampNeg), .int (xs (nI i + 3).toNatClampNeg), .int (xs (nI i + 4).toNatClampNeg)]) (st := []) (stk2 := [.int r]) hK (C_X11_refuse e1) d_law_1497 mf_X11_refuse ml_L_150 im_X11_refuse rfl se_10_RX11_X11_refuse kd_0 rfl (Nat.le_of_ble_eq_true rfl) (by decide) hcs rfl rfl ?_
  refine r_aload_n hK d_law_1500 rfl rfl ?_
  refine r_aload_n hK d_law_1501 rfl rfl ?_
  refine r_iload hK d_law_1502 rfl ?_
  refine r_iconst hK d_law_1504 ci_1 ?_
  refine r_iadd hK d_law_1505 ?_
  refine r_sld hK hX hbl had (sl_in1 hi hL) d_law_1506 ?_
  refine r_aload_n hK d_law_1507 rfl rfl ?_
  refine r_iload hK d_law_1508 rfl ?_
  refine r_iconst hK d_law_1510 ci_2 ?_
  refine r_iadd hK d_law_1511 ?_
  refine r_sld hK hX hbl had (sl_in2 hi hL) d_law_1512 ?_
  refine r_aload_n hK d_law_1513 rfl rfl ?_
  refine r_iload hK d_law_1514 rfl ?_
  refine r_iconst hK d_law_1516 ci_3 ?_
  refine r_iadd hK d_law_1517 ?_
  refine r_sld hK hX hbl had (sl_in3 hi hL) d_law_1518 ?_
  refine r_aload_n hK d_law_1519 rfl rfl ?_
  refine r_iload hK d_law_1520 rfl ?_
  refine r_iconst hK d_law_1522 ci_4 ?_
  refine r_iadd hK d_law_1523 ?_
  refine r_sld hK hX hbl had (sl_in4 hi hL) d_law_1524 ?_
  refine r_callV (As := [.int (xs (nI i + 1).toNatClampNeg), .int (xs (nI i + 2).toNatClampNeg), .int (xs (nI i + 3).toNatClampNeg), .int (xs (nI i + 4).toNatClampNeg)]) (st := [.int r]) (stk2 := [.int r, .int r]) hK (C_X12_refuse e2) d_law_1525 mf_X12_refuse ml_L_154 im_X12_refuse rfl se_11_RX12_X12_refuse kd_78 rfl (Nat.le_of_ble_eq_true rfl) (by decide) hcs rfl rfl ?_
  exact r_icmp_eq (tgt := 2187) hK d_law_1528 (by decide) (fun _ => kk μ2 hR) (fun h => absurd rfl h)
set_option maxRecDepth 20000 in
theorem lc_30 {p : Program} {l : Launch} {e : Env} {s : State} {m : MethodId} {below : List Frame} {meth : Method} {c : Code} {cells slots : Nat} {Q : State → Prop} {ad : Nat → Nat} {g : va_G} {tyc : Nat → ClassId} {L i : Nat} {xs : Nat → Int32} {Rel : gs_M → Prop} {μ : gs_M} (hK : KC p room_1 s m #[Value.ref (ad 118)] meth c ad g tyc "GrainShiftLaw" code 7 ret 1000) (hX : va_X (ad 118) L xs s s.heap) (hbl : ad 118 < s.heap.size) (had : ∀ k, k < 99 → ad k = s.heap.size + k) (hi : i + 8 ≤ L) (hL : L ≤ 4096) (hcs : cells ≤ room_1.cells ∧ slots ≤ room_1.slots) (hH : ∃ (r : Int32) (μ1 μ2 : gs_M), D_X11_image  μ = some (r, μ1) ∧ D_X12_image  μ1 = some (r, μ2) ∧ Rel μ2) (kk : ∀ μ2, Rel μ2 → WJ p l e room_1 s m #[Value.ref (ad 118)] below meth c cells slots Q ad g tyc 7 2187 (gs_pst i) ([]) μ2) : WJ p l e room_1 s m #[Value.ref (ad 118)] below meth c cells slots Q ad g tyc 7 1533 (gs_pst i) ([]) μ := by
  obtain ⟨r, μ1, μ2, e1, e2, hR⟩ := hH
  refine r_aload_n hK d_law_1533 rfl rfl ?_
  refine r_callV (As := []) (st := []) (stk2 := [.int r]) hK (C_X11_image e1) d_law_1534 mf_X11_image ml_L_155 im_X11_image rfl se_10_RX11_X11_image kd_0 rfl (Nat.le_of_ble_eq_true rfl) (by decide) hcs rfl rfl ?_
  refine r_aload_n hK d_law_1537 rfl rfl ?_
  refine r_callV (As := []) (st := [.int r]) (stk2 := [.int r, .int r]) hK (C_X12_image e2) d_law_1538 mf_X12_image ml_L_158 im_X12_image rfl se_11_RX12_X12_image kd_78 rfl (Nat.le_of_ble_eq_true rfl) (by decide) hcs rfl rfl ?_
  exact r_icmp_eq (tgt := 2187) hK d_law_1541 (by decide) (fun _ => kk μ2 hR) (fun h => absurd rfl h)
set_option maxRecDepth 20000 in
theorem lc_31 {p : Program} {l : Launch} {e : Env} {s : State} {m : MethodId} {below : List Frame} {meth : Method} {c : Code} {cells slots : Nat} {Q : State → Prop} {ad : Nat → Nat} {g : va_G} {tyc : Nat → ClassId} {L i : Nat} {xs : Nat → Int32} {Rel : gs_M → Prop} {μ : gs_M} (hK : KC p room_1 s m #[Value.ref (ad 118)] meth c ad g tyc "GrainShiftLaw" code 7 ret 1000) (hX : va_X (ad 118) L xs s s.heap) (hbl : ad 118 < s.heap.size) (had : ∀ k, k < 99 → ad k = s.heap.size + k) (hi : i + 8 ≤ L) (hL : L ≤ 4096) (hcs : cells ≤ room_1.cells ∧ slots ≤ room_1.slots) (hH : ∃ (r : Int32) (μ1 μ2 : gs_M), D_X11_back  μ = some (r, μ1) ∧ D_X12_back  μ1 = some (r, μ2) ∧ Rel μ2) (kk : ∀ μ2, Rel μ2 → WJ p l e room_1 s m #[Value.ref (ad 118)] below meth c cells slots Q ad g tyc 7 2187 (gs_pst i) ([]) μ2) : WJ p l e room_1 s m #[Value.ref (ad 118)] below meth c cells slots Q ad g tyc 7 1546 (gs_pst i) ([]) μ := by
  obtain ⟨r, μ1, μ2, e1, e2, hR⟩ := hH
  refine r_aload_n hK d_law_1546 rfl rfl ?_
  refine r_callV (As := []) (st := []) (stk2 := [.int r]) hK (C_X11_back e1) d_law_1547 mf_X11_back ml_L_159 im_X11_back rfl se_10_RX11_X11_back kd_0 rfl (Nat.le_of_ble_eq_true rfl) (by decide) hcs rfl rfl ?_
  refine r_aload_n hK d_law_1550 rfl rfl ?_
  refine r_callV (As := []) (st := [.int r]) (stk2 := [.int r, .int r]) hK (C_X12_back e2) d_law_1551 mf_X12_back ml_L_162 im_X12_back rfl se_11_RX12_X12_back kd_78 rfl (Nat.le_of_ble_eq_true rfl) (by decide) hcs rfl rfl ?_
  exact r_icmp_eq (tgt := 2187) hK d_law_1554 (by decide) (fun _ => kk μ2 hR) (fun h => absurd rfl h)
set_option maxRecDepth 20000 in
theorem lc_32 {p : Program} {l : Launch} {e : Env} {s : State} {m : MethodId} {below : List Frame} {meth : Method} {c : Code} {cells slots : Nat} {Q : State → Prop} {ad : Nat → Nat} {g : va_G} {tyc : Nat → ClassId} {L i : Nat} {xs : Nat → Int32} {Rel : gs_M → Prop} {μ : gs_M} (hK : KC p room_1 s m #[Value.ref (ad 118)] meth c ad g tyc "GrainShiftLaw" code 7 ret 1000) (hX : va_X (ad 118) L xs s s.heap) (hbl : ad 118 < s.heap.size) (had : ∀ k, k < 99 → ad k = s.heap.size + k) (hi : i + 8 ≤ L) (hL : L ≤ 4096) (hcs : cells ≤ room_1.cells ∧ slots ≤ room_1.slots) (hH : ∃ (r : Int32) (μ1 μ2 : gs_M), D_X11_trim (xs (nI i + 1).toNatClampNeg) (xs (nI i + 2).toNatClampNeg) μ = some (r, μ1) ∧ D_X12_trim (xs (nI i + 1).toNatClampNeg) (xs (nI i + 2).toNatClampNeg) μ1 = some (r, μ2) ∧ Rel μ2) (kk : ∀ μ2, Rel μ2 → WJ p l e room_1 s m #[Value.ref (ad 118)] below meth c cells slots Q ad g tyc 7 2187 (gs_pst i) ([]) μ2) : WJ p l e room_1 s m #[Value.ref (ad 118)] below meth c cells slots Q ad g tyc 7 1559 (gs_pst i) ([]) μ := by
  obtain ⟨r, μ1, μ2, e1, e2, hR⟩ := hH
  refine r_aload_n hK d_law_1559 rfl rfl ?_
  refine r_aload_n hK d_law_1560 rfl rfl ?_
  refine r_iload hK d_law_1561 rfl ?_
  refine r_iconst hK d_law_1563 ci_1 ?_
  refine r_iadd hK d_law_1564 ?_
  refine r_sld hK hX hbl had (sl_in1 hi hL) d_law_1565 ?_
  refine r_aload_n hK d_law_1566 rfl rfl ?_
  refine r_iload hK d_law_1567 rfl ?_
  refine r_iconst hK d_law_1569 ci_2 ?_
  refine r_iadd hK d_law_1570 ?_
  refine r_sld hK hX hbl had (sl_in2 hi hL) d_law_1571 ?_
  refine r_callV (As := [.int (xs (nI i + 1).toNatClampNeg), .int (xs (nI i + 2).toNatClampNeg)]) (st := []) (stk2 := [.int r]) hK (C_X11_trim e1) d_law_1572 mf_X11_trim ml_L_163 im_X11_trim rfl se_10_RX11_X11_trim kd_0 rfl (Nat.le_of_ble_eq_true rfl) (by decide) hcs rfl rfl ?_
  refine r_aload_n hK d_law_1575 rfl rfl ?_
  refine r_aload_n hK d_law_1576 rfl rfl ?_
  refine r_iload hK d_law_1577 rfl ?_
  refine r_iconst hK d_law_1579 ci_1 ?_
  refine r_iadd hK d_law_1580 ?_
  refine r_sld hK hX hbl had (sl_in1 hi hL) d_law_1581 ?_
  refine r_aload_n hK d_law_1582 rfl rfl ?_
  refine r_iload hK d_law_1583 rfl ?_
  refine r_iconst hK d_law_1585 ci_2 ?_
  refine r_iadd hK d_law_1586 ?_
  refine r_sld hK hX hbl had (sl_in2 hi hL) d_law_1587 ?_
  refine r_callV (As := [.int (xs (nI i + 1).toNatClampNeg), .int (xs (nI i + 2).toNatClampNeg)]) (st := [.int r]) (stk2 := [.int r, .int r]) hK (C_X12_trim e2) d_law_1588 mf_X12_trim ml_L_166 im_X12_trim rfl se_11_RX12_X12_trim kd_78 rfl (Nat.le_of_ble_eq_true rfl) (by decide) hcs rfl rfl ?_
  exact r_icmp_eq (tgt := 2187) hK d_law_1591 (by decide) (fun _ => kk μ2 hR) (fun h => absurd rfl h)
set_option maxRecDepth 20000 in
theorem lc_33 {p : Program} {l : Launch} {e : Env} {s : State} {m : MethodId} {below : List Frame} {meth : Method} {c : Code} {cells slots : Nat} {Q : State → Prop} {ad : Nat → Nat} {g : va_G} {tyc : Nat → ClassId} {L i : Nat} {xs : Nat → Int32} {Rel : gs_M → Prop} {μ : gs_M} (hK : KC p room_1 s m #[Value.ref (ad 118)] meth c ad g tyc "GrainShiftLaw" code 7 ret 1000) (hX : va_X (ad 118) L xs s s.heap) (hbl : ad 118 < s.heap.size) (had : ∀ k, k < 99 → ad k = s.heap.size + k) (hi : i + 8 ≤ L) (hL : L ≤ 4096) (hcs : cells ≤ room_1.cells ∧ slots ≤ room_1.slots) (hH : ∃ (r : Int32) (μ1 μ2 : gs_M), D_X11_pour (xs (nI i + 1).toNatClampNeg) (xs (nI i + 2).toNatClampNeg) (xs (nI i + 3).toNatClampNeg) μ = some (r, μ1) ∧ D_X12_pour (xs (nI i + 1).toNatClampNeg) (xs (nI i + 2).toNatClampNeg) (xs (nI i + 3).toNatClampNeg) μ1 = some (r, μ2) ∧ Rel μ2) (kk : ∀ μ2, Rel μ2 → WJ p l e room_1 s m #[Value.ref (ad 118)] below meth c cells slots Q ad g tyc 7 2187 (gs_pst i) ([]) μ2) : WJ p l e room_1 s m #[Value.ref (ad 118)] below meth c cells slots Q ad g tyc 7 1596 (gs_pst i) ([]) μ := by
  obtain ⟨r, μ1, μ2, e1, e2, hR⟩ := hH
  refine r_aload_n hK d_law_1596 rfl rfl ?_
  refine r_aload_n hK d_law_1597 rfl rfl ?_
  refine r_iload hK d_law_1598 rfl ?_
  refine r_iconst hK d_law_1600 ci_1 ?_
  refine r_iadd hK d_law_1601 ?_
  refine r_sld hK hX hbl had (sl_in1 hi hL) d_law_1602 ?_
  refine r_aload_n hK d_law_1603 rfl rfl ?_
  refine r_iload hK d_law_1604 rfl ?_
  refine r_iconst hK d_law_1606 ci_2 ?_
  refine r_iadd hK d_law_1607 ?_
  refine r_sld hK hX hbl had (sl_in2 hi hL) d_law_1608 ?_
  refine r_aload_n hK d_law_1609 rfl rfl ?_
  refine r_iload hK d_law_1610 rfl ?_
  refine r_iconst hK d_law_1612 ci_3 ?_
  refine r_iadd hK d_law_1613 ?_
  refine r_sld hK hX hbl had (sl_in3 hi hL) d_law_1614 ?_
  refine r_callV (As := [.int (xs (nI i + 1).toNatClampNeg), .int (xs (nI i + 2).toNatClampNeg), .int (xs (nI i + 3).toNatClampNeg)]) (st := []) (stk2 := [.int r]) hK (C_X11_pour e1) d_law_1615 mf_X11_pour ml_L_167 im_X11_pour rfl se_10_RX11_X11_pour kd_0 rfl (Nat.le_of_ble_eq_true rfl) (by decide) hcs rfl rfl ?_
  refine r_aload_n hK d_law_1618 rfl rfl ?_
  refine r_aload_n hK d_law_1619 rfl rfl ?_
  refine r_iload hK d_law_1620 rfl ?_
  refine r_iconst hK d_law_1622 ci_1 ?_
  refine r_iadd hK d_law_1623 ?_
  refine r_sld hK hX hbl had (sl_in1 hi hL) d_law_1624 ?_
  refine r_aload_n hK d_law_1625 rfl rfl ?_
  refine r_iload hK d_law_1626 rfl ?_
  refine r_iconst hK d_law_1628 ci_2 ?_
  refine r_iadd hK d_law_1629 ?_
  refine r_sld hK hX hbl had (sl_in2 hi hL) d_law_1630 ?_
  refine r_aload_n hK d_law_1631 rfl rfl ?_
  refine r_iload hK d_law_1632 rfl ?_
  refine r_iconst hK d_law_1634 ci_3 ?_
  refine r_iadd hK d_law_1635 ?_
  refine r_sld hK hX hbl had (sl_in3 hi hL) d_law_1636 ?_
  refine r_callV (As := [.int (xs (nI i + 1).toNatClampNeg), .int (xs (nI i + 2).toNatClampNeg), .int (xs (nI i + 3).toNatClampNeg)]) (st := [.int r]) (stk2 := [.int r, .int r]) hK (C_X12_pour e2) d_law_1637 mf_X12_pour ml_L_170 im_X12_pour rfl se_11_RX12_X12_pour kd_78 rfl (Nat.le_of_ble_eq_true rfl) (by decide) hcs rfl rfl ?_
  exact r_icmp_eq (tgt := 2187) hK d_law_1640 (by decide) (fun _ => kk μ2 hR) (fun h => absurd rfl h)
set_option maxRecDepth 20000 in
theorem lc_34 {p : Program} {l : Launch} {e : Env} {s : State} {m : MethodId} {below : List Frame} {meth : Method} {c : Code} {cells slots : Nat} {Q : State → Prop} {ad : Nat → Nat} {g : va_G} {tyc : Nat → ClassId} {L i : Nat} {xs : Nat → Int32} {Rel : gs_M → Prop} {μ : gs_M} (hK : KC p room_1 s m #[Value.ref (ad 118)] meth c ad g tyc "GrainShiftLaw" code 7 ret 1000) (hX : va_X (ad 118) L xs s s.heap) (hbl : ad 118 < s.heap.size) (had : ∀ k, k < 99 → ad k = s.heap.size + k) (hi : i + 8 ≤ L) (hL : L ≤ 4096) (hcs : cells ≤ room_1.cells ∧ slots ≤ room_1.slots) (hH : ∃ (r : Int32) (μ1 μ2 : gs_M), D_X11_take (xs (nI i + 1).toNatClampNeg) (xs (nI i + 2).toNatClampNeg) (xs (nI i + 3).toNatClampNeg) μ = some (r, μ1) ∧ D_X12_take (xs (nI i + 1).toNatClampNeg) (xs (nI i + 2).toNatClampNeg) (xs (nI i + 3).toNatClampNeg) μ1 = some (r, μ2) ∧ Rel μ2) (kk : ∀ μ2, Rel μ2 → WJ p l e room_1 s m #[Value.ref (ad 118)] below meth c cells slots Q ad g tyc 7 2187 (gs_pst i) ([]) μ2) : WJ p l e room_1 s m #[Value.ref (ad 118)] below meth c cells slots Q ad g tyc 7 1645 (gs_pst i) ([]) μ := by
  obtain ⟨r, μ1, μ2, e1, e2, hR⟩ := hH
  refine r_aload_n hK d_law_1645 rfl rfl ?_
  refine r_aload_n hK d_law_1646 rfl rfl ?_
  refine r_iload hK d_law_1647 rfl ?_
  refine r_iconst hK d_law_1649 ci_1 ?_
  refine r_iadd hK d_law_1650 ?_
  refine r_sld hK hX hbl had (sl_in1 hi hL) d_law_1651 ?_
  refine r_aload_n hK d_law_1652 rfl rfl ?_
  refine r_iload hK d_law_1653 rfl ?_
  refine r_iconst hK d_law_1655 ci_2 ?_
  refine r_iadd hK d_law_1656 ?_
  refine r_sld hK hX hbl had (sl_in2 hi hL) d_law_1657 ?_
  refine r_aload_n hK d_law_1658 rfl rfl ?_
  refine r_iload hK d_law_1659 rfl ?_
  refine r_iconst hK d_law_1661 ci_3 ?_
  refine r_iadd hK d_law_1662 ?_
  refine r_sld hK hX hbl had (sl_in3 hi hL) d_law_1663 ?_
  refine r_callV (As := [.int (xs (nI i + 1).toNatClampNeg), .int (xs (nI i + 2).toNatClampNeg), .int (xs (nI i + 3).toNatClampNeg)]) (st := []) (stk2 := [.int r]) hK (C_X11_take e1) d_law_1664 mf_X11_take ml_L_171 im_X11_take rfl se_10_RX11_X11_take kd_0 rfl (Nat.le_of_ble_eq_true rfl) (by decide) hcs rfl rfl ?_
  refine r_aload_n hK d_law_1667 rfl rfl ?_
  refine r_aload_n hK d_law_1668 rfl rfl ?_
  refine r_iload hK d_law_1669 rfl ?_
  refine r_iconst hK d_law_1671 ci_1 ?_
  refine r_iadd hK d_law_1672 ?_
  refine r_sld hK hX hbl had (sl_in1 hi hL) d_law_1673 ?_
  refine r_aload_n hK d_law_1674 rfl rfl ?_
  refine r_iload hK d_law_1675 rfl ?_
  refine r_iconst hK d_law_1677 ci_2 ?_
  refine r_iadd hK d_law_1678 ?_
  refine r_sld hK hX hbl had (sl_in2 hi hL) d_law_1679 ?_
  refine r_aload_n hK d_law_1680 rfl rfl ?_
  refine r_iload hK d_law_1681 rfl ?_
  refine r_iconst hK d_law_1683 ci_3 ?_
  refine r_iadd hK d_law_1684 ?_
  refine r_sld hK hX hbl had (sl_in3 hi hL) d_law_1685 ?_
  refine r_callV (As := [.int (xs (nI i + 1).toNatClampNeg), .int (xs (nI i + 2).toNatClampNeg), .int (xs (nI i + 3).toNatClampNeg)]) (st := [.int r]) (stk2 := [.int r, .int r]) hK (C_X12_take e2) d_law_1686 mf_X12_take ml_L_174 im_X12_take rfl se_11_RX12_X12_take kd_78 rfl (Nat.le_of_ble_eq_true rfl) (by decide) hcs rfl rfl ?_
  exact r_icmp_eq (tgt := 2187) hK d_law_1689 (by decide) (fun _ => kk μ2 hR) (fun h => absurd rfl h)
set_option maxRecDepth 20000 in
theorem lc_35 {p : Program} {l : Launch} {e : Env} {s : State} {m : MethodId} {below : List Frame} {meth : Method} {c : Code} {cells slots : Nat} {Q : State → Prop} {ad : Nat → Nat} {g : va_G} {tyc : Nat → ClassId} {L i : Nat} {xs : Nat → Int32} {Rel : gs_M → Prop} {μ : gs_M} (hK : KC p room_1 s m #[Value.ref (ad 118)] meth c ad g tyc "GrainShiftLaw" code 7 ret 1000) (hX : va_X (ad 118) L xs s s.heap) (hbl : ad 118 < s.heap.size) (had : ∀ k, k < 99 → ad k = s.heap.size + k) (hi : i + 8 ≤ L) (hL : L ≤ 4096) (hcs : cells ≤ room_1.cells ∧ slots ≤ room_1.slots) (hH : ∃ (r : Int32) (μ1 μ2 : gs_M), D_X11_heel (xs (nI i + 1).toNatClampNeg) μ = some (r, μ1) ∧ D_X12_heel (xs (nI i + 1).toNatClampNeg) μ1 = some (r, μ2) ∧ Rel μ2) (kk : ∀ μ2, Rel μ2 → WJ p l e room_1 s m #[Value.ref (ad 118)] below meth c cells slots Q ad g tyc 7 2187 (gs_pst i) ([]) μ2) : WJ p l e room_1 s m #[Value.ref (ad 118)] below meth c cells slots Q ad g tyc 7 1694 (gs_pst i) ([]) μ := by
  obtain ⟨r, μ1, μ2, e1, e2, hR⟩ := hH
  refine r_aload_n hK d_law_1694 rfl rfl ?_
  refine r_aload_n hK d_law_1695 rfl rfl ?_
  refine r_iload hK d_law_1696 rfl ?_
  refine r_iconst hK d_law_1698 ci_1 ?_
  refine r_iadd hK d_law_1699 ?_
  refine r_sld hK hX hbl had (sl_in1 hi hL) d_law_1700 ?_
  refine r_callV (As := [.int (xs (nI i + 1).toNatClampNeg)]) (st := []) (stk2 := [.int r]) hK (C_X11_heel e1) d_law_1701 mf_X11_heel ml_L_175 im_X11_heel rfl se_10_RX11_X11_heel kd_0 rfl (Nat.le_of_ble_eq_true rfl) (by decide) hcs rfl rfl ?_
  refine r_aload_n hK d_law_1704 rfl rfl ?_
  refine r_aload_n hK d_law_1705 rfl rfl ?_
  refine r_iload hK d_law_1706 rfl ?_
  refine r_iconst hK d_law_1708 ci_1 ?_
  refine r_iadd hK d_law_1709 ?_
  refine r_sld hK hX hbl had (sl_in1 hi hL) d_law_1710 ?_
  refine r_callV (As := [.int (xs (nI i + 1).toNatClampNeg)]) (st := [.int r]) (stk2 := [.int r, .int r]) hK (C_X12_heel e2) d_law_1711 mf_X12_heel ml_L_178 im_X12_heel rfl se_11_RX12_X12_heel kd_78 rfl (Nat.le_of_ble_eq_true rfl) (by decide) hcs rfl rfl ?_
  exact r_icmp_eq (tgt := 2187) hK d_law_1714 (by decide) (fun _ => kk μ2 hR) (fun h => absurd rfl h)
set_option maxRecDepth 20000 in
theorem lc_36 {p : Program} {l : Launch} {e : Env} {s : State} {m : MethodId} {below : List Frame} {meth : Method} {c : Code} {cells slots : Nat} {Q : State → Prop} {ad : Nat → Nat} {g : va_G} {tyc : Nat → ClassId} {L i : Nat} {xs : Nat → Int32} {Rel : gs_M → Prop} {μ : gs_M} (hK : KC p room_1 s m #[Value.ref (ad 118)] meth c ad g tyc "GrainShiftLaw" code 7 ret 1000) (hX : va_X (ad 118) L xs s s.heap) (hbl : ad 118 < s.heap.size) (had : ∀ k, k < 99 → ad k = s.heap.size + k) (hi : i + 8 ≤ L) (hL : L ≤ 4096) (hcs : cells ≤ room_1.cells ∧ slots ≤ room_1.slots) (hH : ∃ (r : Int32) (μ1 μ2 : gs_M), D_X11_tilt (xs (nI i + 1).toNatClampNeg) (xs (nI i + 2).toNatClampNeg) (xs (nI i + 3).toNatClampNeg) μ = some (r, μ1) ∧ D_X12_tilt (xs (nI i + 1).toNatClampNeg) (xs (nI i + 2).toNatClampNeg) (xs (nI i + 3).toNatClampNeg) μ1 = some (r, μ2) ∧ Rel μ2) (kk : ∀ μ2, Rel μ2 → WJ p l e room_1 s m #[Value.ref (ad 118)] below meth c cells slots Q ad g tyc 7 2187 (gs_pst i) ([]) μ2) : WJ p l e room_1 s m #[Value.ref (ad 118)] below meth c cells slots Q ad g tyc 7 1719 (gs_pst i) ([]) μ := by
  obtain ⟨r, μ1, μ2, e1, e2, hR⟩ := hH
  refine r_aload_n hK d_law_1719 rfl rfl ?_
  refine r_aload_n hK d_law_1720 rfl rfl ?_
  refine r_iload hK d_law_1721 rfl ?_
  refine r_iconst hK d_law_1723 ci_1 ?_
  refine r_iadd hK d_law_1724 ?_
  refine r_sld hK hX hbl had (sl_in1 hi hL) d_law_1725 ?_
  refine r_aload_n hK d_law_1726 rfl rfl ?_
  refine r_iload hK d_law_1727 rfl ?_
  refine r_iconst hK d_law_1729 ci_2 ?_
  refine r_iadd hK d_law_1730 ?_
  refine r_sld hK hX hbl had (sl_in2 hi hL) d_law_1731 ?_
  refine r_aload_n hK d_law_1732 rfl rfl ?_
  refine r_iload hK d_law_1733 rfl ?_
  refine r_iconst hK d_law_1735 ci_3 ?_
  refine r_iadd hK d_law_1736 ?_
  refine r_sld hK hX hbl had (sl_in3 hi hL) d_law_1737 ?_
  refine r_callV (As := [.int (xs (nI i + 1).toNatClampNeg), .int (xs (nI i + 2).toNatClampNeg), .int (xs (nI i + 3).toNatClampNeg)]) (st := []) (stk2 := [.int r]) hK (C_X11_tilt e1) d_law_1738 mf_X11_tilt ml_L_179 im_X11_tilt rfl se_10_RX11_X11_tilt kd_0 rfl (Nat.le_of_ble_eq_true rfl) (by decide) hcs rfl rfl ?_
  refine r_aload_n hK d_law_1741 rfl rfl ?_
  refine r_aload_n hK d_law_1742 rfl rfl ?_
  refine r_iload hK d_law_1743 rfl ?_
  refine r_iconst hK d_law_1745 ci_1 ?_
  refine r_iadd hK d_law_1746 ?_
  refine r_sld hK hX hbl had (sl_in1 hi hL) d_law_1747 ?_
  refine r_aload_n hK d_law_1748 rfl rfl ?_
  refine r_iload hK d_law_1749 rfl ?_
  refine r_iconst hK d_law_1751 ci_2 ?_
  refine r_iadd hK d_law_1752 ?_
  refine r_sld hK hX hbl had (sl_in2 hi hL) d_law_1753 ?_
  refine r_aload_n hK d_law_1754 rfl rfl ?_
  refine r_iload hK d_law_1755 rfl ?_
  refine r_iconst hK d_law_1757 ci_3 ?_
  refine r_iadd hK d_law_1758 ?_
  refine r_sld hK hX hbl had (sl_in3 hi hL) d_law_1759 ?_
  refine r_callV (As := [.int (xs (nI i + 1).toNatClampNeg), .int (xs (nI i + 2).toNatClampNeg), .int (xs (nI i + 3).toNatClampNeg)]) (st := [.int r]) (stk2 := [.int r, .int r]) hK (C_X12_tilt e2) d_law_1760 mf_X12_tilt ml_L_182 im_X12_tilt rfl se_11_RX12_X12_tilt kd_78 rfl (Nat.le_of_ble_eq_true rfl) (by decide) hcs rfl rfl ?_
  exact r_icmp_eq (tgt := 2187) hK d_law_1763 (by decide) (fun _ => kk μ2 hR) (fun h => absurd rfl h)
set_option maxRecDepth 20000 in
theorem lc_37 {p : Program} {l : Launch} {e : Env} {s : State} {m : MethodId} {below : List Frame} {meth : Method} {c : Code} {cells slots : Nat} {Q : State → Prop} {ad : Nat → Nat} {g : va_G} {tyc : Nat → ClassId} {L i : Nat} {xs : Nat → Int32} {Rel : gs_M → Prop} {μ : gs_M} (hK : KC p room_1 s m #[Value.ref (ad 118)] meth c ad g tyc "GrainShiftLaw" code 7 ret 1000) (hX : va_X (ad 118) L xs s s.heap) (hbl : ad 118 < s.heap.size) (had : ∀ k, k < 99 → ad k = s.heap.size + k) (hi : i + 8 ≤ L) (hL : L ≤ 4096) (hcs : cells ≤ room_1.cells ∧ slots ≤ room_1.slots) (hH : ∃ (r : Int32) (μ1 μ2 : gs_M), D_X11_ripens (xs (nI i + 1).toNatClampNeg) (xs (nI i + 2).toNatClampNeg) μ = some (r, μ1) ∧ D_X12_ripens (xs (nI i + 1).toNatClampNeg) (xs (nI i + 2).toNatClampNeg) μ1 = some (r, μ2) ∧ Rel μ2) (kk : ∀ μ2, Rel μ2 → WJ p l e room_1 s m #[Value.ref (ad 118)] below meth c cells slots Q ad g tyc 7 2187 (gs_pst i) ([]) μ2) : WJ p l e room_1 s m #[Value.ref (ad 118)] below meth c cells slots Q ad g tyc 7 1768 (gs_pst i) ([]) μ := by
  obtain ⟨r, μ1, μ2, e1, e2, hR⟩ := hH
  refine r_aload_n hK d_law_1768 rfl rfl ?_
  refine r_aload_n hK d_law_1769 rfl rfl ?_
  refine r_iload hK d_law_1770 rfl ?_
  refine r_iconst hK d_law_1772 ci_1 ?_
  refine r_iadd hK d_law_1773 ?_
  refine r_sld hK hX hbl had (sl_in1 hi hL) d_law_1774 ?_
  refine r_aload_n hK d_law_1775 rfl rfl ?_
  refine r_iload hK d_law_1776 rfl ?_
  refine r_iconst hK d_law_1778 ci_2 ?_
  refine r_iadd hK d_law_1779 ?_
  refine r_sld hK hX hbl had (sl_in2 hi hL) d_law_1780 ?_
  refine r_callV (As := [.int (xs (nI i + 1).toNatClampNeg), .int (xs (nI i + 2).toNatClampNeg)]) (st := []) (stk2 := [.int r]) hK (C_X11_ripens e1) d_law_1781 mf_X11_ripens ml_L_183 im_X11_ripens rfl se_10_RX11_X11_ripens kd_0 rfl (Nat.le_of_ble_eq_true rfl) (by decide) hcs rfl rfl ?_
  refine r_aload_n hK d_law_1784 rfl rfl ?_
  refine r_aload_n hK d_law_1785 rfl rfl ?_
  refine r_iload hK d_law_1786 rfl ?_
  refine r_iconst hK d_law_1788 ci_1 ?_
  refine r_iadd hK d_law_1789 ?_
  refine r_sld hK hX hbl had (sl_in1 hi hL) d_law_1790 ?_
  refine r_aload_n hK d_law_1791 rfl rfl ?_
  refine r_iload hK d_law_1792 rfl ?_
  refine r_iconst hK d_law_1794 ci_2 ?_
  refine r_iadd hK d_law_1795 ?_
  refine r_sld hK hX hbl had (sl_in2 hi hL) d_law_1796 ?_
  refine r_callV (As := [.int (xs (nI i + 1).toNatClampNeg), .int (xs (nI i + 2).toNatClampNeg)]) (st := [.int r]) (stk2 := [.int r, .int r]) hK (C_X12_ripens e2) d_law_1797 mf_X12_ripens ml_L_186 im_X12_ripens rfl se_11_RX12_X12_ripens kd_78 rfl (Nat.le_of_ble_eq_true rfl) (by decide) hcs rfl rfl ?_
  exact r_icmp_eq (tgt := 2187) hK d_law_1800 (by decide) (fun _ => kk μ2 hR) (fun h => absurd rfl h)
set_option maxRecDepth 20000 in
theorem lc_38 {p : Program} {l : Launch} {e : Env} {s : State} {m : MethodId} {below : List Frame} {meth : Method} {c : Code} {cells slots : Nat} {Q : State → Prop} {ad : Nat → Nat} {g : va_G} {tyc : Nat → ClassId} {L i : Nat} {xs : Nat → Int32} {Rel : gs_M → Prop} {μ : gs_M} (hK : KC p room_1 s m #[Value.ref (ad 118)] meth c ad g tyc "GrainShiftLaw" code 7 ret 1000) (hX : va_X (ad 118) L xs s s.heap) (hbl : ad 118 < s.heap.size) (had : ∀ k, k < 99 → ad k = s.heap.size + k) (hi : i + 8 ≤ L) (hL : L ≤ 4096) (hcs : cells ≤ room_1.cells ∧ slots ≤ room_1.slots) (hH : ∃ (r : Int32) (μ1 μ2 : gs_M), D_X11_slide (xs (nI i + 1).toNatClampNeg) (xs (nI i + 2).toNatClampNeg) μ = some (r, μ1) ∧ D_X12_slide (xs (nI i + 1).toNatClampNeg) (xs (nI i + 2).toNatClampNeg) μ1 = some (r, μ2) ∧ Rel μ2) (kk : ∀ μ2, Rel μ2 → WJ p l e room_1 s m #[Value.ref (ad 118)] below meth c cells slots Q ad g tyc 7 2187 (gs_pst i) ([]) μ2) : WJ p l e room_1 s m #[Value.ref (ad 118)] below meth c cells slots Q ad g tyc 7 1805 (gs_pst i) ([]) μ := by
  obtain ⟨r, μ1, μ2, e1, e2, hR⟩ := hH
  refine r_aload_n hK d_law_1805 rfl rfl ?_
  refine r_aload_n hK d_law_1806 rfl rfl ?_
  refine r_iload hK d_law_1807 rfl ?_
  refine r_iconst hK d_law_1809 ci_1 ?_
  refine r_iadd hK d_law_1810 ?_
  refine r_sld hK hX hbl had (sl_in1 hi hL) d_law_1811 ?_
  refine r_aload_n hK d_law_1812 rfl rfl ?_
  refine r_iload hK d_law_1813 rfl ?_
  refine r_iconst hK d_law_1815 ci_2 ?_
  refine r_iadd hK d_law_1816 ?_
  refine r_sld hK hX hbl had (sl_in2 hi hL) d_law_1817 ?_
  refine r_callV (As := [.int (xs (nI i + 1).toNatClampNeg), .int (xs (nI i + 2).toNatClampNeg)]) (st := []) (stk2 := [.int r]) hK (C_X11_slide e1) d_law_1818 mf_X11_slide ml_L_187 im_X11_slide rfl se_10_RX11_X11_slide kd_0 rfl (Nat.le_of_ble_eq_true rfl) (by decide) hcs rfl rfl ?_
  refine r_aload_n hK d_law_1821 rfl rfl ?_
  refine r_aload_n hK d_law_1822 rfl rfl ?_
  refine r_iload hK d_law_1823 rfl ?_
  refine r_iconst hK d_law_1825 ci_1 ?_
  refine r_iadd hK d_law_1826 ?_
  refine r_sld hK hX hbl had (sl_in1 hi hL) d_law_1827 ?_
  refine r_aload_n hK d_law_1828 rfl rfl ?_
  refine r_iload hK d_law_1829 rfl ?_
  refine r_iconst hK d_law_1831 ci_2 ?_
  refine r_iadd hK d_law_1832 ?_
  refine r_sld hK hX hbl had (sl_in2 hi hL) d_law_1833 ?_
  refine r_callV (As := [.int (xs (nI i + 1).toNatClampNeg), .int (xs (nI i + 2).toNatClampNeg)]) (st := [.int r]) (stk2 := [.int r, .int r]) hK (C_X12_slide e2) d_law_1834 mf_X12_slide ml_L_190 im_X12_slide rfl se_11_RX12_X12_slide kd_78 rfl (Nat.le_of_ble_eq_true rfl) (by decide) hcs rfl rfl ?_
  exact r_icmp_eq (tgt := 2187) hK d_law_1837 (by decide) (fun _ => kk μ2 hR) (fun h => absurd rfl h)
set_option maxRecDepth 20000 in
theorem lc_39 {p : Program} {l : Launch} {e : Env} {s : State} {m : MethodId} {below : List Frame} {meth : Method} {c : Code} {cells slots : Nat} {Q : State → Prop} {ad : Nat → Nat} {g : va_G} {tyc : Nat → ClassId} {L i : Nat} {xs : Nat → Int32} {Rel : gs_M → Prop} {μ : gs_M} (hK : KC p room_1 s m #[Value.ref (ad 118)] meth c ad g tyc "GrainShiftLaw" code 7 ret 1000) (hX : va_X (ad 118) L xs s s.heap) (hbl : ad 118 < s.heap.size) (had : ∀ k, k < 99 → ad k = s.heap.size + k) (hi : i + 8 ≤ L) (hL : L ≤ 4096) (hcs : cells ≤ room_1.cells ∧ slots ≤ room_1.slots) (hH : ∃ (r : Int32) (μ1 μ2 : gs_M), D_X11_port (xs (nI i + 1).toNatClampNeg) (xs (nI i + 2).toNatClampNeg) μ = some (r, μ1) ∧ D_X12_port (xs (nI i + 1).toNatClampNeg) (xs (nI i + 2).toNatClampNeg) μ1 = some (r, μ2) ∧ Rel μ2) (kk : ∀ μ2, Rel μ2 → WJ p l e room_1 s m #[Value.ref (ad 118)] below meth c cells slots Q ad g tyc 7 2187 (gs_pst i) ([]) μ2) : WJ p l e room_1 s m #[Value.ref (ad 118)] below meth c cells slots Q ad g tyc 7 1842 (gs_pst i) ([]) μ := by
  obtain ⟨r, μ1, μ2, e1, e2, hR⟩ := hH
  refine r_aload_n hK d_law_1842 rfl rfl ?_
  refine r_aload_n hK d_law_1843 rfl rfl ?_
  refine r_iload hK d_law_1844 rfl ?_
  refine r_iconst hK d_law_1846 ci_1 ?_
  refine r_iadd hK d_law_1847 ?_
  refine r_sld hK hX hbl had (sl_in1 hi hL) d_law_1848 ?_
  refine r_aload_n hK d_law_1849 rfl rfl ?_
  refine r_iload hK d_law_1850 rfl ?_
  refine r_iconst hK d_law_1852 ci_2 ?_
  refine r_iadd hK d_law_1853 ?_
  refine r_sld hK hX hbl had (sl_in2 hi hL) d_law_1854 ?_
  refine r_callV (As := [.int (xs (nI i + 1).toNatClampNeg), .int (xs (nI i + 2).toNatClampNeg)]) (st := []) (stk2 := [.int r]) hK (C_X11_port e1) d_law_1855 mf_X11_port ml_L_191 im_X11_port rfl se_10_RX11_X11_port kd_0 rfl (Nat.le_of_ble_eq_true rfl) (by decide) hcs rfl rfl ?_
  refine r_aload_n hK d_law_1858 rfl rfl ?_
  refine r_aload_n hK d_law_1859 rfl rfl ?_
  refine r_iload hK d_law_1860 rfl ?_
  refine r_iconst hK d_law_1862 ci_1 ?_
  refine r_iadd hK d_law_1863 ?_
  refine r_sld hK hX hbl had (sl_in1 hi hL) d_law_1864 ?_
  refine r_aload_n hK d_law_1865 rfl rfl ?_
  refine r_iload hK d_law_1866 rfl ?_
  refine r_iconst hK d_law_1868 ci_2 ?_
  refine r_iadd hK d_law_1869 ?_
  refine r_sld hK hX hbl had (sl_in2 hi hL) d_law_1870 ?_
  refine r_callV (As := [.int (xs (nI i + 1).toNatClampNeg), .int (xs (nI i + 2).toNatClampNeg)]) (st := [.int r]) (stk2 := [.int r, .int r]) hK (C_X12_port e2) d_law_1871 mf_X12_port ml_L_194 im_X12_port rfl se_11_RX12_X12_port kd_78 rfl (Nat.le_of_ble_eq_true rfl) (by decide) hcs rfl rfl ?_
  exact r_icmp_eq (tgt := 2187) hK d_law_1874 (by decide) (fun _ => kk μ2 hR) (fun h => absurd rfl h)
set_option maxRecDepth 20000 in
theorem lc_40 {p : Program} {l : Launch} {e : Env} {s : State} {m : MethodId} {below : List Frame} {meth : Method} {c : Code} {cells slots : Nat} {Q : State → Prop} {ad : Nat → Nat} {g : va_G} {tyc : Nat → ClassId} {L i : Nat} {xs : Nat → Int32} {Rel : gs_M → Prop} {μ : gs_M} (hK : KC p room_1 s m #[Value.ref (ad 118)] meth c ad g tyc "GrainShiftLaw" code 7 ret 1000) (hX : va_X (ad 118) L xs s s.heap) (hbl : ad 118 < s.heap.size) (had : ∀ k, k < 99 → ad k = s.heap.size + k) (hi : i + 8 ≤ L) (hL : L ≤ 4096) (hcs : cells ≤ room_1.cells ∧ slots ≤ room_1.slots) (hH : ∃ (r : Int32) (μ1 μ2 : gs_M), D_X11_reach (xs (nI i + 1).toNatClampNeg) (xs (nI i + 2).toNatClampNeg) μ = some (r, μ1) ∧ D_X12_reach (xs (nI i + 1).toNatClampNeg) (xs (nI i + 2).toNatClampNeg) μ1 = some (r, μ2) ∧ Rel μ2) (kk : ∀ μ2, Rel μ2 → WJ p l e room_1 s m #[Value.ref (ad 118)] below meth c cells slots Q ad g tyc 7 2187 (gs_pst i) ([]) μ2) : WJ p l e room_1 s m #[Value.ref (ad 118)] below meth c cells slots Q ad g tyc 7 1879 (gs_pst i) ([]) μ := by
  obtain ⟨r, μ1, μ2, e1, e2, hR⟩ := hH
  refine r_aload_n hK d_law_1879 rfl rfl ?_
  refine r_aload_n hK d_law_1880 rfl rfl ?_
  refine r_iload hK d_law_1881 rfl ?_
  refine r_iconst hK d_law_1883 ci_1 ?_
  refine r_iadd hK d_law_1884 ?_
  refine r_sld hK hX hbl had (sl_in1 hi hL) d_law_1885 ?_
  refine r_aload_n hK d_law_1886 rfl rfl ?_
  refine r_iload hK d_law_1887 rfl ?_
  refine r_iconst hK d_law_1889 ci_2 ?_
  refine r_iadd hK d_law_1890 ?_
  refine r_sld hK hX hbl had (sl_in2 hi hL) d_law_1891 ?_
  refine r_callV (As := [.int (xs (nI i + 1).toNatClampNeg), .int (xs (nI i + 2).toNatClampNeg)]) (st := []) (stk2 := [.int r]) hK (C_X11_reach e1) d_law_1892 mf_X11_reach ml_L_195 im_X11_reach rfl se_10_RX11_X11_reach kd_0 rfl (Nat.le_of_ble_eq_true rfl) (by decide) hcs rfl rfl ?_
  refine r_aload_n hK d_law_1895 rfl rfl ?_
  refine r_aload_n hK d_law_1896 rfl rfl ?_
  refine r_iload hK d_law_1897 rfl ?_
  refine r_iconst hK d_law_1899 ci_1 ?_
  refine r_iadd hK d_law_1900 ?_
  refine r_sld hK hX hbl had (sl_in1 hi hL) d_law_1901 ?_
  refine r_aload_n hK d_law_1902 rfl rfl ?_
  refine r_iload hK d_law_1903 rfl ?_
  refine r_iconst hK d_law_1905 ci_2 ?_
  refine r_iadd hK d_law_1906 ?_
  refine r_sld hK hX hbl had (sl_in2 hi hL) d_law_1907 ?_
  refine r_callV (As := [.int (xs (nI i + 1).toNatClampNeg), .int (xs (nI i + 2).toNatClampNeg)]) (st := [.int r]) (stk2 := [.int r, .int r]) hK (C_X12_reach e2) d_law_1908 mf_X12_reach ml_L_198 im_X12_reach rfl se_11_RX12_X12_reach kd_78 rfl (Nat.le_of_ble_eq_true rfl) (by decide) hcs rfl rfl ?_
  exact r_icmp_eq (tgt := 2187) hK d_law_1911 (by decide) (fun _ => kk μ2 hR) (fun h => absurd rfl h)
set_option maxRecDepth 20000 in
theorem lc_41 {p : Program} {l : Launch} {e : Env} {s : State} {m : MethodId} {below : List Frame} {meth : Method} {c : Code} {cells slots : Nat} {Q : State → Prop} {ad : Nat → Nat} {g : va_G} {tyc : Nat → ClassId} {L i : Nat} {xs : Nat → Int32} {Rel : gs_M → Prop} {μ : gs_M} (hK : KC p room_1 s m #[Value.ref (ad 118)] meth c ad g tyc "GrainShiftLaw" code 7 ret 1000) (hX : va_X (ad 118) L xs s s.heap) (hbl : ad 118 < s.heap.size) (had : ∀ k, k < 99 → ad k = s.heap.size + k) (hi : i + 8 ≤ L) (hL : L ≤ 4096) (hcs : cells ≤ room_1.cells ∧ slots ≤ room_1.slots) (hH : ∃ (r : Int32) (μ1 μ2 : gs_M), D_X11_over (xs (nI i + 1).toNatClampNeg) (xs (nI i + 2).toNatClampNeg) (xs (nI i + 3).toNatClampNeg) (xs (nI i + 4).toNatClampNeg) μ = some (r, μ1) ∧ D_X12_over (xs (nI i + 1).toNatClampNeg) (xs (nI i + 2).toNatClampNeg) (xs (nI i + 3).toNatClampNeg) (xs (nI i + 4).toNatClampNeg) μ1 = some (r, μ2) ∧ Rel μ2) (kk : ∀ μ2, Rel μ2 → WJ p l e room_1 s m #[Value.ref (ad 118)] below meth c cells slots Q ad g tyc 7 2187 (gs_pst i) ([]) μ2) : WJ p l e room_1 s m #[Value.ref (ad 118)] below meth c cells slots Q ad g tyc 7 1916 (gs_pst i) ([]) μ := by
  obtain ⟨r, μ1, μ2, e1, e2, hR⟩ := hH
  refine r_aload_n hK d_law_1916 rfl rfl ?_
  refine r_aload_n hK d_law_1917 rfl rfl ?_
  refine r_iload hK d_law_1918 rfl ?_
  refine r_iconst hK d_law_1920 ci_1 ?_
  refine r_iadd hK d_law_1921 ?_
  refine r_sld hK hX hbl had (sl_in1 hi hL) d_law_1922 ?_
  refine r_aload_n hK d_law_1923 rfl rfl ?_
  refine r_iload hK d_law_1924 rfl ?_
  refine r_iconst hK d_law_1926 ci_2 ?_
  refine r_iadd hK d_law_1927 ?_
  refine r_sld hK hX hbl had (sl_in2 hi hL) d_law_1928 ?_
  refine r_aload_n hK d_law_1929 rfl rfl ?_
  refine r_iload hK d_law_1930 rfl ?_
  refine r_iconst hK d_law_1932 ci_3 ?_
  refine r_iadd hK d_law_1933 ?_
  refine r_sld hK hX hbl had (sl_in3 hi hL) d_law_1934 ?_
  refine r_aload_n hK d_law_1935 rfl rfl ?_
  refine r_iload hK d_law_1936 rfl ?_
  refine r_iconst hK d_law_1938 ci_4 ?_
  refine r_iadd hK d_law_1939 ?_
  refine r_sld hK hX hbl had (sl_in4 hi hL) d_law_1940 ?_
  refine r_callV (As := [.int (xs (nI i + 1).toNatClampNeg), .int (xs (nI i + 2).toNatClampNeg), .int (xs (nI i + 3).toNatClampNeg), .int (xs (nI i + 4).toNatClampNeg)]) (st := []) (stk2 := [.int r]) hK (C_X11_over e1) d_law_1941 mf_X11_over ml_L_199 im_X11_over rfl se_10_RX11_X11_over kd_0 rfl (Nat.le_of_ble_eq_true rfl) (by decide) hcs rfl rfl ?_
  refine r_aload_n hK d_law_1944 rfl rfl ?_
  refine r_aload_n hK d_law_1945 rfl rfl ?_
  refine r_iload hK d_law_1946 rfl ?_
  refine r_iconst hK d_law_1948 ci_1 ?_
  refine r_iadd hK d_law_1949 ?_
  refine r_sld hK hX hbl had (sl_in1 hi hL) d_law_1950 ?_
  refine r_aload_n hK d_law_1951 rfl rfl ?_
  refine r_iload hK d_law_1952 rfl ?_
  refine r_iconst hK d_law_1954 ci_2 ?_
  refine r_iadd hK d_law_1955 ?_
  refine r_sld hK hX hbl had (sl_in2 hi hL) d_law_1956 ?_
  refine r_aload_n hK d_law_1957 rfl rfl ?_
  refine r_iload hK d_law_1958 rfl ?_
  refine r_iconst hK d_law_1960 ci_3 ?_
  refine r_iadd hK d_law_1961 ?_
  refine r_sld hK hX hbl had (sl_in3 hi hL) d_law_1962 ?_
  refine r_aload_n hK d_law_1963 rfl rfl ?_
  refine r_iload hK d_law_1964 rfl ?_
  refine r_iconst hK d_law_1966 ci_4 ?_
  refine r_iadd hK d_law_1967 ?_
  refine r_sld hK hX hbl had (sl_in4 hi hL) d_law_1968 ?_
  refine r_callV (As := [.int (xs (nI i + 1).toNatClampNeg), .int (xs (nI i + 2).toNatClampNeg), .int (xs (nI i + 3).toNatClampNeg), .int (xs (nI i + 4).toNatClampNeg)]) (st := [.int r]) (stk2 := [.int r, .int r]) hK (C_X12_over e2) d_law_1969 mf_X12_over ml_L_202 im_X12_over rfl se_11_RX12_X12_over kd_78 rfl (Nat.le_of_ble_eq_true rfl) (by decide) hcs rfl rfl ?_
  exact r_icmp_eq (tgt := 2187) hK d_law_1972 (by decide) (fun _ => kk μ2 hR) (fun h => absurd rfl h)
set_option maxRecDepth 20000 in
theorem lc_42 {p : Program} {l : Launch} {e : Env} {s : State} {m : MethodId} {below : List Frame} {meth : Method} {c : Code} {cells slots : Nat} {Q : State → Prop} {ad : Nat → Nat} {g : va_G} {tyc : Nat → ClassId} {L i : Nat} {xs : Nat → Int32} {Rel : gs_M → Prop} {μ : gs_M} (hK : KC p room_1 s m #[Value.ref (ad 118)] meth c ad g tyc "GrainShiftLaw" code 7 ret 1000) (hX : va_X (ad 118) L xs s s.heap) (hbl : ad 118 < s.heap.size) (had : ∀ k, k < 99 → ad k = s.heap.size + k) (hi : i + 8 ≤ L) (hL : L ≤ 4096) (hcs : cells ≤ room_1.cells ∧ slots ≤ room_1.slots) (hH : ∃ (r : Int32) (μ1 μ2 : gs_M), D_X11_soonest (xs (nI i + 1).toNatClampNeg) μ = some (r, μ1) ∧ D_X12_soonest (xs (nI i + 1).toNatClampNeg) μ1 = some (r, μ2) ∧ Rel μ2) (kk : ∀ μ2, Rel μ2 → WJ p l e room_1 s m #[Value.ref (ad 118)] below meth c cells slots Q ad g tyc 7 2187 (gs_pst i) ([]) μ2) : WJ p l e room_1 s m #[Value.ref (ad 118)] below meth c cells slots Q ad g tyc 7 1977 (gs_pst i) ([]) μ := by
  obtain ⟨r, μ1, μ2, e1, e2, hR⟩ := hH
  refine r_aload_n hK d_law_1977 rfl rfl ?_
  refine r_aload_n hK d_law_1978 rfl rfl ?_
  refine r_iload hK d_law_1979 rfl ?_
  refine r_iconst hK d_law_1981 ci_1 ?_
  refine r_iadd hK d_law_1982 ?_
  refine r_sld hK hX hbl had (sl_in1 hi hL) d_law_1983 ?_
  refine r_callV (As := [.int (xs (nI i + 1).toNatClampNeg)]) (st := []) (stk2 := [.int r]) hK (C_X11_soonest e1) d_law_1984 mf_X11_soonest ml_L_203 im_X11_soonest rfl se_10_RX11_X11_soonest kd_0 rfl (Nat.le_of_ble_eq_true rfl) (by decide) hcs rfl rfl ?_
  refine r_aload_n hK d_law_1987 rfl rfl ?_
  refine r_aload_n hK d_law_1988 rfl rfl ?_
  refine r_iload hK d_law_1989 rfl ?_
  refine r_iconst hK d_law_1991 ci_1 ?_
  refine r_iadd hK d_law_1992 ?_
  refine r_sld hK hX hbl had (sl_in1 hi hL) d_law_1993 ?_
  refine r_callV (As := [.int (xs (nI i + 1).toNatClampNeg)]) (st := [.int r]) (stk2 := [.int r, .int r]) hK (C_X12_soonest e2) d_law_1994 mf_X12_soonest ml_L_206 im_X12_soonest rfl se_11_RX12_X12_soonest kd_78 rfl (Nat.le_of_ble_eq_true rfl) (by decide) hcs rfl rfl ?_
  exact r_icmp_eq (tgt := 2187) hK d_law_1997 (by decide) (fun _ => kk μ2 hR) (fun h => absurd rfl h)
set_option maxRecDepth 20000 in
theorem lc_43 {p : Program} {l : Launch} {e : Env} {s : State} {m : MethodId} {below : List Frame} {meth : Method} {c : Code} {cells slots : Nat} {Q : State → Prop} {ad : Nat → Nat} {g : va_G} {tyc : Nat → ClassId} {L i : Nat} {xs : Nat → Int32} {Rel : gs_M → Prop} {μ : gs_M} (hK : KC p room_1 s m #[Value.ref (ad 118)] meth c ad g tyc "GrainShiftLaw" code 7 ret 1000) (hX : va_X (ad 118) L xs s s.heap) (hbl : ad 118 < s.heap.size) (had : ∀ k, k < 99 → ad k = s.heap.size + k) (hi : i + 8 ≤ L) (hL : L ≤ 4096) (hcs : cells ≤ room_1.cells ∧ slots ≤ room_1.slots) (hH : ∃ (r : Int32) (μ1 μ2 : gs_M), D_X11_book (xs (nI i + 1).toNatClampNeg) μ = some (r, μ1) ∧ D_X12_book (xs (nI i + 1).toNatClampNeg) μ1 = some (r, μ2) ∧ Rel μ2) (kk : ∀ μ2, Rel μ2 → WJ p l e room_1 s m #[Value.ref (ad 118)] below meth c cells slots Q ad g tyc 7 2187 (gs_pst i) ([]) μ2) : WJ p l e room_1 s m #[Value.ref (ad 118)] below meth c cells slots Q ad g tyc 7 2002 (gs_pst i) ([]) μ := by
  obtain ⟨r, μ1, μ2, e1, e2, hR⟩ := hH
  refine r_aload_n hK d_law_2002 rfl rfl ?_
  refine r_aload_n hK d_law_2003 rfl rfl ?_
  refine r_iload hK d_law_2004 rfl ?_
  refine r_iconst hK d_law_2006 ci_1 ?_
  refine r_iadd hK d_law_2007 ?_
  refine r_sld hK hX hbl had (sl_in1 hi hL) d_law_2008 ?_
  refine r_callV (As := [.int (xs (nI i + 1).toNatClampNeg)]) (st := []) (stk2 := [.int r]) hK (C_X11_book e1) d_law_2009 mf_X11_book ml_L_207 im_X11_book rfl se_10_RX11_X11_book kd_0 rfl (Nat.le_of_ble_eq_true rfl) (by decide) hcs rfl rfl ?_
  refine r_aload_n hK d_law_2012 rfl rfl ?_
  refine r_aload_n hK d_law_2013 rfl rfl ?_
  refine r_iload hK d_law_2014 rfl ?_
  refine r_iconst hK d_law_2016 ci_1 ?_
  refine r_iadd hK d_law_2017 ?_
  refine r_sld hK hX hbl had (sl_in1 hi hL) d_law_2018 ?_
  refine r_callV (As := [.int (xs (nI i + 1).toNatClampNeg)]) (st := [.int r]) (stk2 := [.int r, .int r]) hK (C_X12_book e2) d_law_2019 mf_X12_book ml_L_210 im_X12_book rfl se_11_RX12_X12_book kd_78 rfl (Nat.le_of_ble_eq_true rfl) (by decide) hcs rfl rfl ?_
  exact r_icmp_eq (tgt := 2187) hK d_law_2022 (by decide) (fun _ => kk μ2 hR) (fun h => absurd rfl h)
set_option maxRecDepth 20000 in
theorem lc_44 {p : Program} {l : Launch} {e : Env} {s : State} {m : MethodId} {below : List Frame} {meth : Method} {c : Code} {cells slots : Nat} {Q : State → Prop} {ad : Nat → Nat} {g : va_G} {tyc : Nat → ClassId} {L i : Nat} {xs : Nat → Int32} {Rel : gs_M → Prop} {μ : gs_M} (hK : KC p room_1 s m #[Value.ref (ad 118)] meth c ad g tyc "GrainShiftLaw" code 7 ret 1000) (hX : va_X (ad 118) L xs s s.heap) (hbl : ad 118 < s.heap.size) (had : ∀ k, k < 99 → ad k = s.heap.size + k) (hi : i + 8 ≤ L) (hL : L ≤ 4096) (hcs : cells ≤ room_1.cells ∧ slots ≤ room_1.slots) (hH : ∃ (r : Int32) (μ1 μ2 : gs_M), D_X11_follow (xs (nI i + 1).toNatClampNeg) (xs (nI i + 2).toNatClampNeg) (xs (nI i + 3).toNatClampNeg) (xs (nI i + 4).toNatClampNeg) (xs (nI i + 5).toNatClampNeg) μ = some (r, μ1) ∧ D_X12_follow (xs (nI i + 1).toNatClampNeg) (xs (nI i + 2).toNatClampNeg) (xs (nI i + 3).toNatClampNeg) (xs (nI i + 4).toNatClampNeg) (xs (nI i + 5).toNatClampNeg) μ1 = some (r, μ2) ∧ Rel μ2) (kk : ∀ μ2, Rel μ2 → WJ p l e room_1 s m #[Value.ref (ad 118)] below meth c cells slots Q ad g tyc 7 2187 (gs_pst i) ([]) μ2) : WJ p l e room_1 s m #[Value.ref (ad 118)] below meth c cells slots Q ad g tyc 7 2027 (gs_pst i) ([]) μ := by
  obtain ⟨r, μ1, μ2, e1, e2, hR⟩ := hH
  refine r_aload_n hK d_law_2027 rfl rfl ?_
  refine r_aload_n hK d_law_2028 rfl rfl ?_
  refine r_iload hK d_law_2029 rfl ?_
  refine r_iconst hK d_law_2031 ci_1 ?_
  refine r_iadd hK d_law_2032 ?_
  refine r_sld hK hX hbl had (sl_in1 hi hL) d_law_2033 ?_
  refine r_aload_n hK d_law_2034 rfl rfl ?_
  refine r_iload hK d_law_2035 rfl ?_
  refine r_iconst hK d_law_2037 ci_2 ?_
  refine r_iadd hK d_law_2038 ?_
  refine r_sld hK hX hbl had (sl_in2 hi hL) d_law_2039 ?_
  refine r_aload_n hK d_law_2040 rfl rfl ?_
  refine r_iload hK d_law_2041 rfl ?_
  refine r_iconst hK d_law_2043 ci_3 ?_
  refine r_iadd hK d_law_2044 ?_
  refine r_sld hK hX hbl had (sl_in3 hi hL) d_law_2045 ?_
  refine r_aload_n hK d_law_2046 rfl rfl ?_
  refine r_iload hK d_law_2047 rfl ?_
  refine r_iconst hK d_law_2049 ci_4 ?_
  refine r_iadd hK d_law_2050 ?_
  refine r_sld hK hX hbl had (sl_in4 hi hL) d_law_2051 ?_
  refine r_aload_n hK d_law_2052 rfl rfl ?_
  refine r_iload hK d_law_2053 rfl ?_
  refine r_iconst hK d_law_2055 ci_5 ?_
  refine r_iadd hK d_law_2056 ?_
  refine r_sld hK hX hbl had (sl_in5 hi hL) d_law_2057 ?_
  refine r_callV (As := [.int (xs (nI i + 1).toNatClampNeg), .int (xs (nI i + 2).toNatClampNeg), .int (xs (nI i + 3).toNatClampNeg), .int (xs (nI i + 4).toNatClampNeg), .int (xs (nI i + 5).toNatClampNeg)]) (st := []) (stk2 := [.int r]) hK (C_X11_follow e1) d_law_2058 mf_X11_follow ml_L_211 im_X11_follow rfl se_10_RX11_X11_follow kd_0 rfl (Nat.le_of_ble_eq_true rfl) (by decide) hcs rfl rfl ?_
  refine r_aload_n hK d_law_2061 rfl rfl ?_
  refine r_aload_n hK d_law_2062 rfl rfl ?_
  refine r_iload hK d_law_2063 rfl ?_
  refine r_iconst hK d_law_2065 ci_1 ?_
  refine r_iadd hK d_law_2066 ?_
  refine r_sld hK hX hbl had (sl_in1 hi hL) d_law_2067 ?_
  refine r_aload_n hK d_law_2068 rfl rfl ?_
  refine r_iload hK d_law_2069 rfl ?_
  refine r_iconst hK d_law_2071 ci_2 ?_
  refine r_iadd hK d_law_2072 ?_
  refine r_sld hK hX hbl had (sl_in2 hi hL) d_law_2073 ?_
  refine r_aload_n hK d_law_2074 rfl rfl ?_
  refine r_iload hK d_law_2075 rfl ?_
  refine r_iconst hK d_law_2077 ci_3 ?_
  refine r_iadd hK d_law_2078 ?_
  refine r_sld hK hX hbl had (sl_in3 hi hL) d_law_2079 ?_
  refine r_aload_n hK d_law_2080 rfl rfl ?_
  refine r_iload hK d_law_2081 rfl ?_
  refine r_iconst hK d_law_2083 ci_4 ?_
  refine r_iadd hK d_law_2084 ?_
  refine r_sld hK hX hbl had (sl_in4 hi hL) d_law_2085 ?_
  refine r_aload_n hK d_law_2086 rfl rfl ?_
  refine r_iload hK d_law_2087 rfl ?_
  refine r_iconst hK d_law_2089 ci_5 ?_
  refine r_iadd hK d_law_2090 ?_
  refine r_sld hK hX hbl had (sl_in5 hi hL) d_law_2091 ?_
  refine r_callV (As := [.int (xs (nI i + 1).toNatClampNeg), .int (xs (nI i + 2).toNatClampNeg), .int (xs (nI i + 3).toNatClampNeg), .int (xs (nI i + 4).toNatClampNeg), .int (xs (nI i + 5).toNatClampNeg)]) (st := [.int r]) (stk2 := [.int r, .int r]) hK (C_X12_follow e2) d_law_2092 mf_X12_follow ml_L_214 im_X12_follow rfl se_11_RX12_X12_follow kd_78 rfl (Nat.le_of_ble_eq_true rfl) (by decide) hcs rfl rfl ?_
  exact r_icmp_eq (tgt := 2187) hK d_law_2095 (by decide) (fun _ => kk μ2 hR) (fun h => absurd rfl h)
set_option maxRecDepth 20000 in
theorem lc_45 {p : Program} {l : Launch} {e : Env} {s : State} {m : MethodId} {below : List Frame} {meth : Method} {c : Code} {cells slots : Nat} {Q : State → Prop} {ad : Nat → Nat} {g : va_G} {tyc : Nat → ClassId} {L i : Nat} {xs : Nat → Int32} {Rel : gs_M → Prop} {μ : gs_M} (hK : KC p room_1 s m #[Value.ref (ad 118)] meth c ad g tyc "GrainShiftLaw" code 7 ret 1000) (hX : va_X (ad 118) L xs s s.heap) (hbl : ad 118 < s.heap.size) (had : ∀ k, k < 99 → ad k = s.heap.size + k) (hi : i + 8 ≤ L) (hL : L ≤ 4096) (hcs : cells ≤ room_1.cells ∧ slots ≤ room_1.slots) (hH : ∃ (r : Int32) (μ1 μ2 : gs_M), D_X11_better (xs (nI i + 1).toNatClampNeg) (xs (nI i + 2).toNatClampNeg) (xs (nI i + 3).toNatClampNeg) μ = some (r, μ1) ∧ D_X12_better (xs (nI i + 1).toNatClampNeg) (xs (nI i + 2).toNatClampNeg) (xs (nI i + 3).toNatClampNeg) μ1 = some (r, μ2) ∧ Rel μ2) (kk : ∀ μ2, Rel μ2 → WJ p l e room_1 s m #[Value.ref (ad 118)] below meth c cells slots Q ad g tyc 7 2187 (gs_pst i) ([]) μ2) : WJ p l e room_1 s m #[Value.ref (ad 118)] below meth c cells slots Q ad g tyc 7 2100 (gs_pst i) ([]) μ := by
  obtain ⟨r, μ1, μ2, e1, e2, hR⟩ := hH
  refine r_aload_n hK d_law_2100 rfl rfl ?_
  refine r_aload_n hK d_law_2101 rfl rfl ?_
  refine r_iload hK d_law_2102 rfl ?_
  refine r_iconst hK d_law_2104 ci_1 ?_
  refine r_iadd hK d_law_2105 ?_
  refine r_sld hK hX hbl had (sl_in1 hi hL) d_law_2106 ?_
  refine r_aload_n hK d_law_2107 rfl rfl ?_
  refine r_iload hK d_law_2108 rfl ?_
  refine r_iconst hK d_law_2110 ci_2 ?_
  refine r_iadd hK d_law_2111 ?_
  refine r_sld hK hX hbl had (sl_in2 hi hL) d_law_2112 ?_
  refine r_aload_n hK d_law_2113 rfl rfl ?_
  refine r_iload hK d_law_2114 rfl ?_
  refine r_iconst hK d_law_2116 ci_3 ?_
  refine r_iadd hK d_law_2117 ?_
  refine r_sld hK hX hbl had (sl_in3 hi hL) d_law_2118 ?_
  refine r_callV (As := [.int (xs (nI i + 1).toNatClampNeg), .int (xs (nI i + 2).toNatClampNeg), .int (xs (nI i + 3).toNatClampNeg)]) (st := []) (stk2 := [.int r]) hK (C_X11_better e1) d_law_2119 mf_X11_better ml_L_215 im_X11_better rfl se_10_RX11_X11_better kd_0 rfl (Nat.le_of_ble_eq_true rfl) (by decide) hcs rfl rfl ?_
  refine r_aload_n hK d_law_2122 rfl rfl ?_
  refine r_aload_n hK d_law_2123 rfl rfl ?_
  refine r_iload hK d_law_2124 rfl ?_
  refine r_iconst hK d_law_2126 ci_1 ?_
  refine r_iadd hK d_law_2127 ?_
  refine r_sld hK hX hbl had (sl_in1 hi hL) d_law_2128 ?_
  refine r_aload_n hK d_law_2129 rfl rfl ?_
  refine r_iload hK d_law_2130 rfl ?_
  refine r_iconst hK d_law_2132 ci_2 ?_
  refine r_iadd hK d_law_2133 ?_
  refine r_sld hK hX hbl had (sl_in2 hi hL) d_law_2134 ?_
  refine r_aload_n hK d_law_2135 rfl rfl ?_
  refine r_iload hK d_law_2136 rfl ?_
  refine r_iconst hK d_law_2138 ci_3 ?_
  refine r_iadd hK d_law_2139 ?_
  refine r_sld hK hX hbl had (sl_in3 hi hL) d_law_2140 ?_
  refine r_callV (As := [.int (xs (nI i + 1).toNatClampNeg), .int (xs (nI i + 2).toNatClampNeg), .int (xs (nI i + 3).toNatClampNeg)]) (st := [.int r]) (stk2 := [.int r, .int r]) hK (C_X12_better e2) d_law_2141 mf_X12_better ml_L_218 im_X12_better rfl se_11_RX12_X12_better kd_78 rfl (Nat.le_of_ble_eq_true rfl) (by decide) hcs rfl rfl ?_
  exact r_icmp_eq (tgt := 2187) hK d_law_2144 (by decide) (fun _ => kk μ2 hR) (fun h => absurd rfl h)
set_option maxRecDepth 20000 in
theorem lc_46 {p : Program} {l : Launch} {e : Env} {s : State} {m : MethodId} {below : List Frame} {meth : Method} {c : Code} {cells slots : Nat} {Q : State → Prop} {ad : Nat → Nat} {g : va_G} {tyc : Nat → ClassId} {L i : Nat} {xs : Nat → Int32} {Rel : gs_M → Prop} {μ : gs_M} (hK : KC p room_1 s m #[Value.ref (ad 118)] meth c ad g tyc "GrainShiftLaw" code 7 ret 1000) (hX : va_X (ad 118) L xs s s.heap) (hbl : ad 118 < s.heap.size) (had : ∀ k, k < 99 → ad k = s.heap.size + k) (hi : i + 8 ≤ L) (hL : L ≤ 4096) (hcs : cells ≤ room_1.cells ∧ slots ≤ room_1.slots) (hH : ∃ (r : Int32) (μ1 μ2 : gs_M), D_X11_rules  μ = some (r, μ1) ∧ D_X12_rules  μ1 = some (r, μ2) ∧ Rel μ2) (kk : ∀ μ2, Rel μ2 → WJ p l e room_1 s m #[Value.ref (ad 118)] below meth c cells slots Q ad g tyc 7 2187 (gs_pst i) ([]) μ2) : WJ p l e room_1 s m #[Value.ref (ad 118)] below meth c cells slots Q ad g tyc 7 2149 (gs_pst i) ([]) μ := by
  obtain ⟨r, μ1, μ2, e1, e2, hR⟩ := hH
  refine r_aload_n hK d_law_2149 rfl rfl ?_
  refine r_callV (As := []) (st := []) (stk2 := [.int r]) hK (C_X11_rules e1) d_law_2150 mf_X11_rules ml_L_219 im_X11_rules rfl se_10_RX11_X11_rules kd_0 rfl (Nat.le_of_ble_eq_true rfl) (by decide) hcs rfl rfl ?_
  refine r_aload_n hK d_law_2153 rfl rfl ?_
  refine r_callV (As := []) (st := [.int r]) (stk2 := [.int r, .int r]) hK (C_X12_rules e2) d_law_2154 mf_X12_rules ml_L_222 im_X12_rules rfl se_11_RX12_X12_rules kd_78 rfl (Nat.le_of_ble_eq_true rfl) (by decide) hcs rfl rfl ?_
  exact r_icmp_eq (tgt := 2187) hK d_law_2157 (by decide) (fun _ => kk μ2 hR) (fun h => absurd rfl h)
set_option maxRecDepth 20000 in
theorem lc_47 {p : Program} {l : Launch} {e : Env} {s : State} {m : MethodId} {below : List Frame} {meth : Method} {c : Code} {cells slots : Nat} {Q : State → Prop} {ad : Nat → Nat} {g : va_G} {tyc : Nat → ClassId} {L i : Nat} {xs : Nat → Int32} {Rel : gs_M → Prop} {μ : gs_M} (hK : KC p room_1 s m #[Value.ref (ad 118)] meth c ad g tyc "GrainShiftLaw" code 7 ret 1000) (hX : va_X (ad 118) L xs s s.heap) (hbl : ad 118 < s.heap.size) (had : ∀ k, k < 99 → ad k = s.heap.size + k) (hi : i + 8 ≤ L) (hL : L ≤ 4096) (hcs : cells ≤ room_1.cells ∧ slots ≤ room_1.slots) (hH : ∃ (r : Int32) (μ1 μ2 : gs_M), D_X11_count (xs (nI i + 1).toNatClampNeg) μ = some (r, μ1) ∧ D_X12_count (xs (nI i + 1).toNatClampNeg) μ1 = some (r, μ2) ∧ Rel μ2) (kk : ∀ μ2, Rel μ2 → WJ p l e room_1 s m #[Value.ref (ad 118)] below meth c cells slots Q ad g tyc 7 2187 (gs_pst i) ([]) μ2) : WJ p l e room_1 s m #[Value.ref (ad 118)] below meth c cells slots Q ad g tyc 7 2162 (gs_pst i) ([]) μ := by
  obtain ⟨r, μ1, μ2, e1, e2, hR⟩ := hH
  refine r_aload_n hK d_law_2162 rfl rfl ?_
  refine r_aload_n hK d_law_2163 rfl rfl ?_
  refine r_iload hK d_law_2164 rfl ?_
  refine r_iconst hK d_law_2166 ci_1 ?_
  refine r_iadd hK d_law_2167 ?_
  refine r_sld hK hX hbl had (sl_in1 hi hL) d_law_2168 ?_
  refine r_callV (As := [.int (xs (nI i + 1).toNatClampNeg)]) (st := []) (stk2 := [.int r]) hK (C_X11_count e1) d_law_2169 mf_X11_count ml_L_223 im_X11_count rfl se_10_RX11_X11_count kd_0 rfl (Nat.le_of_ble_eq_true rfl) (by decide) hcs rfl rfl ?_
  refine r_aload_n hK d_law_2172 rfl rfl ?_
  refine r_aload_n hK d_law_2173 rfl rfl ?_
  refine r_iload hK d_law_2174 rfl ?_
  refine r_iconst hK d_law_2176 ci_1 ?_
  refine r_iadd hK d_law_2177 ?_
  refine r_sld hK hX hbl had (sl_in1 hi hL) d_law_2178 ?_
  refine r_callV (As := [.int (xs (nI i + 1).toNatClampNeg)]) (st := [.int r]) (stk2 := [.int r, .int r]) hK (C_X12_count e2) d_law_2179 mf_X12_count ml_L_226 im_X12_count rfl se_11_RX12_X12_count kd_78 rfl (Nat.le_of_ble_eq_true rfl) (by decide) hcs rfl rfl ?_
  exact r_icmp_eq (tgt := 2187) hK d_law_2182 (by decide) (fun _ => kk μ2 hR) (fun h => absurd rfl h)
def gs_step (Rel : gs_M → Prop) : Prop := (∀ (μ : gs_M), Rel μ → ∀ (y0 : Int32) (y1 : Int32) (y2 : Int32) (y3 : Int32) (y4 : Int32), ∃ (r : Int32) (μ1 μ2 : gs_M), D_X11_feed y0 y1 y2 y3 y4 μ = some (r, μ1) ∧ D_X12_feed y0 y1 y2 y3 y4 μ1 = some (r, μ2) ∧ Rel μ2) ∧
  (∀ (μ : gs_M), Rel μ → ∀ (y0 : Int32), ∃ (r : Int32) (μ1 μ2 : gs_M), D_X11_end y0 μ = some (r, μ1) ∧ D_X12_end y0 μ1 = some (r, μ2) ∧ Rel μ2) ∧
  (∀ (μ : gs_M), Rel μ → ∀ (y0 : Int32), ∃ (r : Int32) (μ1 μ2 : gs_M), D_X11_fault y0 μ = some (r, μ1) ∧ D_X12_fault y0 μ1 = some (r, μ2) ∧ Rel μ2) ∧
  (∀ (μ : gs_M), Rel μ → ∀ (y0 : Int32), ∃ (r : Int32) (μ1 μ2 : gs_M), D_X11_text y0 μ = some (r, μ1) ∧ D_X12_text y0 μ1 = some (r, μ2) ∧ Rel μ2) ∧
  (∀ (μ : gs_M), Rel μ → ∀ (y0 : Int32) (y1 : Int32) (y2 : Int32), ∃ (r : Int32) (μ1 μ2 : gs_M), D_X11_ship y0 y1 y2 μ = some (r, μ1) ∧ D_X12_ship y0 y1 y2 μ1 = some (r, μ2) ∧ Rel μ2) ∧
  (∀ (μ : gs_M), Rel μ → ∀ (y0 : Int32) (y1 : Int32) (y2 : Int32), ∃ (r : Int32) (μ1 μ2 : gs_M), D_X11_plan y0 y1 y2 μ = some (r, μ1) ∧ D_X12_plan y0 y1 y2 μ1 = some (r, μ2) ∧ Rel μ2) ∧
  (∀ (μ : gs_M), Rel μ → ∀ (y0 : Int32) (y1 : Int32), ∃ (r : Int32) (μ1 μ2 : gs_M), D_X11_set y0 y1 μ = some (r, μ1) ∧ D_X12_set y0 y1 μ1 = some (r, μ2) ∧ Rel μ2) ∧
  (∀ (μ : gs_M), Rel μ → ∀ (y0 : Int32) (y1 : Int32) (y2 : Int64), ∃ (r : Int32) (μ1 μ2 : gs_M), D_X11_load y0 y1 y2 μ = some (r, μ1) ∧ D_X12_load y0 y1 y2 μ1 = some (r, μ2) ∧ Rel μ2) ∧
  (∀ (μ : gs_M), Rel μ → ∀ (y0 : Int32), ∃ (r : Int32) (μ1 μ2 : gs_M), D_X11_roll y0 μ = some (r, μ1) ∧ D_X12_roll y0 μ1 = some (r, μ2) ∧ Rel μ2) ∧
  (∀ (μ : gs_M), Rel μ → ∀ (y0 : Int32), ∃ (r : Int32) (μ1 μ2 : gs_M), D_X11_day y0 μ = some (r, μ1) ∧ D_X12_day y0 μ1 = some (r, μ2) ∧ Rel μ2) ∧
  (∀ (μ : gs_M), Rel μ → ∀ (y0 : Int32) (y1 : Int32) (y2 : Int32), ∃ (r : Int32) (μ1 μ2 : gs_M), D_X11_column y0 y1 y2 μ = some (r, μ1) ∧ D_X12_column y0 y1 y2 μ1 = some (r, μ2) ∧ Rel μ2) ∧
  (∀ (μ : gs_M), Rel μ → ∀ (y0 : Int32) (y1 : Int32), ∃ (r : Int32) (μ1 μ2 : gs_M), D_X11_hold y0 y1 μ = some (r, μ1) ∧ D_X12_hold y0 y1 μ1 = some (r, μ2) ∧ Rel μ2) ∧
  (∀ (μ : gs_M), Rel μ → ∀ (y0 : Int32), ∃ (r : Int32) (μ1 μ2 : gs_M), D_X11_about y0 μ = some (r, μ1) ∧ D_X12_about y0 μ1 = some (r, μ2) ∧ Rel μ2) ∧
  (∀ (μ : gs_M), Rel μ → ∀ (y0 : Int32) (y1 : Int32), ∃ (r : Int32) (μ1 μ2 : gs_M), D_X11_goes y0 y1 μ = some (r, μ1) ∧ D_X12_goes y0 y1 μ1 = some (r, μ2) ∧ Rel μ2) ∧
  (∀ (μ : gs_M), Rel μ → ∃ (r : Int32) (μ1 μ2 : gs_M), D_X11_least  μ = some (r, μ1) ∧ D_X12_least  μ1 = some (r, μ2) ∧ Rel μ2) ∧
  (∀ (μ : gs_M), Rel μ → ∀ (y0 : Int32) (y1 : Int32), ∃ (r : Int32) (μ1 μ2 : gs_M), D_X11_runs y0 y1 μ = some (r, μ1) ∧ D_X12_runs y0 y1 μ1 = some (r, μ2) ∧ Rel μ2) ∧
  (∀ (μ : gs_M), Rel μ → ∀ (y0 : Int32), ∃ (r : Int32) (μ1 μ2 : gs_M), D_X11_ballast y0 μ = some (r, μ1) ∧ D_X12_ballast y0 μ1 = some (r, μ2) ∧ Rel μ2) ∧
  (∀ (μ : gs_M), Rel μ → ∀ (y0 : Int32) (y1 : Int32), ∃ (r : Int32) (μ1 μ2 : gs_M), D_X11_course y0 y1 μ = some (r, μ1) ∧ D_X12_course y0 y1 μ1 = some (r, μ2) ∧ Rel μ2) ∧
  (∀ (μ : gs_M), Rel μ → ∀ (y0 : Int32), ∃ (r : Int32) (μ1 μ2 : gs_M), D_X11_best y0 μ = some (r, μ1) ∧ D_X12_best y0 μ1 = some (r, μ2) ∧ Rel μ2) ∧
  (∀ (μ : gs_M), Rel μ → ∀ (y0 : Int32) (y1 : Int32), ∃ (r : Int32) (μ1 μ2 : gs_M), D_X11_cost y0 y1 μ = some (r, μ1) ∧ D_X12_cost y0 y1 μ1 = some (r, μ2) ∧ Rel μ2) ∧
  (∀ (μ : gs_M), Rel μ → ∀ (y0 : Int32) (y1 : Int32) (y2 : Int32) (y3 : Int32) (y4 : Int32), ∃ (r : Int32) (μ1 μ2 : gs_M), D_X11_safe y0 y1 y2 y3 y4 μ = some (r, μ1) ∧ D_X12_safe y0 y1 y2 y3 y4 μ1 = some (r, μ2) ∧ Rel μ2) ∧
  (∀ (μ : gs_M), Rel μ → ∀ (y0 : Int32) (y1 : Int32) (y2 : Int32) (y3 : Int32) (y4 : Int32), ∃ (r : Int32) (μ1 μ2 : gs_M), D_X11_cheapest y0 y1 y2 y3 y4 μ = some (r, μ1) ∧ D_X12_cheapest y0 y1 y2 y3 y4 μ1 = some (r, μ2) ∧ Rel μ2) ∧
  (∀ (μ : gs_M), Rel μ → ∀ (y0 : Int32) (y1 : Int32) (y2 : Int32) (y3 : Int32) (y4 : Int32) (y5 : Int32) (y6 : Int32), ∃ (r : Int32) (μ1 μ2 : gs_M), D_X11_fitted y0 y1 y2 y3 y4 y5 y6 μ = some (r, μ1) ∧ D_X12_fitted y0 y1 y2 y3 y4 y5 y6 μ1 = some (r, μ2) ∧ Rel μ2) ∧
  (∀ (μ : gs_M), Rel μ → ∀ (y0 : Int32), ∃ (r : Int32) (μ1 μ2 : gs_M), D_X11_log y0 μ = some (r, μ1) ∧ D_X12_log y0 μ1 = some (r, μ2) ∧ Rel μ2) ∧
  (∀ (μ : gs_M), Rel μ → ∀ (y0 : Int32) (y1 : Int32) (y2 : Int32), ∃ (r : Int32) (μ1 μ2 : gs_M), D_X11_agree y0 y1 y2 μ = some (r, μ1) ∧ D_X12_agree y0 y1 y2 μ1 = some (r, μ2) ∧ Rel μ2) ∧
  (∀ (μ : gs_M), Rel μ → ∀ (y0 : Int32), ∃ (r : Int32) (μ1 μ2 : gs_M), D_X11_heap y0 μ = some (r, μ1) ∧ D_X12_heap y0 μ1 = some (r, μ2) ∧ Rel μ2) ∧
  (∀ (μ : gs_M), Rel μ → ∀ (y0 : Int32) (y1 : Int32), ∃ (r : Int32) (μ1 μ2 : gs_M), D_X11_miss y0 y1 μ = some (r, μ1) ∧ D_X12_miss y0 y1 μ1 = some (r, μ2) ∧ Rel μ2) ∧
  (∀ (μ : gs_M), Rel μ → ∀ (y0 : Int32) (y1 : Int32), ∃ (r : Int32) (μ1 μ2 : gs_M), D_X11_enough y0 y1 μ = some (r, μ1) ∧ D_X12_enough y0 y1 μ1 = some (r, μ2) ∧ Rel μ2) ∧
  (∀ (μ : gs_M), Rel μ → ∀ (y0 : Int32) (y1 : Int32) (y2 : Int32) (y3 : Int32), ∃ (r : Int32) (μ1 μ2 : gs_M), D_X11_refuse y0 y1 y2 y3 μ = some (r, μ1) ∧ D_X12_refuse y0 y1 y2 y3 μ1 = some (r, μ2) ∧ Rel μ2) ∧
  (∀ (μ : gs_M), Rel μ → ∃ (r : Int32) (μ1 μ2 : gs_M), D_X11_image  μ = some (r, μ1) ∧ D_X12_image  μ1 = some (r, μ2) ∧ Rel μ2) ∧
  (∀ (μ : gs_M), Rel μ → ∃ (r : Int32) (μ1 μ2 : gs_M), D_X11_back  μ = some (r, μ1) ∧ D_X12_back  μ1 = some (r, μ2) ∧ Rel μ2) ∧
  (∀ (μ : gs_M), Rel μ → ∀ (y0 : Int32) (y1 : Int32), ∃ (r : Int32) (μ1 μ2 : gs_M), D_X11_trim y0 y1 μ = some (r, μ1) ∧ D_X12_trim y0 y1 μ1 = some (r, μ2) ∧ Rel μ2) ∧
  (∀ (μ : gs_M), Rel μ → ∀ (y0 : Int32) (y1 : Int32) (y2 : Int32), ∃ (r : Int32) (μ1 μ2 : gs_M), D_X11_pour y0 y1 y2 μ = some (r, μ1) ∧ D_X12_pour y0 y1 y2 μ1 = some (r, μ2) ∧ Rel μ2) ∧
  (∀ (μ : gs_M), Rel μ → ∀ (y0 : Int32) (y1 : Int32) (y2 : Int32), ∃ (r : Int32) (μ1 μ2 : gs_M), D_X11_take y0 y1 y2 μ = some (r, μ1) ∧ D_X12_take y0 y1 y2 μ1 = some (r, μ2) ∧ Rel μ2) ∧
  (∀ (μ : gs_M), Rel μ → ∀ (y0 : Int32), ∃ (r : Int32) (μ1 μ2 : gs_M), D_X11_heel y0 μ = some (r, μ1) ∧ D_X12_heel y0 μ1 = some (r, μ2) ∧ Rel μ2) ∧
  (∀ (μ : gs_M), Rel μ → ∀ (y0 : Int32) (y1 : Int32) (y2 : Int32), ∃ (r : Int32) (μ1 μ2 : gs_M), D_X11_tilt y0 y1 y2 μ = some (r, μ1) ∧ D_X12_tilt y0 y1 y2 μ1 = some (r, μ2) ∧ Rel μ2) ∧
  (∀ (μ : gs_M), Rel μ → ∀ (y0 : Int32) (y1 : Int32), ∃ (r : Int32) (μ1 μ2 : gs_M), D_X11_ripens y0 y1 μ = some (r, μ1) ∧ D_X12_ripens y0 y1 μ1 = some (r, μ2) ∧ Rel μ2) ∧
  (∀ (μ : gs_M), Rel μ → ∀ (y0 : Int32) (y1 : Int32), ∃ (r : Int32) (μ1 μ2 : gs_M), D_X11_slide y0 y1 μ = some (r, μ1) ∧ D_X12_slide y0 y1 μ1 = some (r, μ2) ∧ Rel μ2) ∧
  (∀ (μ : gs_M), Rel μ → ∀ (y0 : Int32) (y1 : Int32), ∃ (r : Int32) (μ1 μ2 : gs_M), D_X11_port y0 y1 μ = some (r, μ1) ∧ D_X12_port y0 y1 μ1 = some (r, μ2) ∧ Rel μ2) ∧
  (∀ (μ : gs_M), Rel μ → ∀ (y0 : Int32) (y1 : Int32), ∃ (r : Int32) (μ1 μ2 : gs_M), D_X11_reach y0 y1 μ = some (r, μ1) ∧ D_X12_reach y0 y1 μ1 = some (r, μ2) ∧ Rel μ2) ∧
  (∀ (μ : gs_M), Rel μ → ∀ (y0 : Int32) (y1 : Int32) (y2 : Int32) (y3 : Int32), ∃ (r : Int32) (μ1 μ2 : gs_M), D_X11_over y0 y1 y2 y3 μ = some (r, μ1) ∧ D_X12_over y0 y1 y2 y3 μ1 = some (r, μ2) ∧ Rel μ2) ∧
  (∀ (μ : gs_M), Rel μ → ∀ (y0 : Int32), ∃ (r : Int32) (μ1 μ2 : gs_M), D_X11_soonest y0 μ = some (r, μ1) ∧ D_X12_soonest y0 μ1 = some (r, μ2) ∧ Rel μ2) ∧
  (∀ (μ : gs_M), Rel μ → ∀ (y0 : Int32), ∃ (r : Int32) (μ1 μ2 : gs_M), D_X11_book y0 μ = some (r, μ1) ∧ D_X12_book y0 μ1 = some (r, μ2) ∧ Rel μ2) ∧
  (∀ (μ : gs_M), Rel μ → ∀ (y0 : Int32) (y1 : Int32) (y2 : Int32) (y3 : Int32) (y4 : Int32), ∃ (r : Int32) (μ1 μ2 : gs_M), D_X11_follow y0 y1 y2 y3 y4 μ = some (r, μ1) ∧ D_X12_follow y0 y1 y2 y3 y4 μ1 = some (r, μ2) ∧ Rel μ2) ∧
  (∀ (μ : gs_M), Rel μ → ∀ (y0 : Int32) (y1 : Int32) (y2 : Int32), ∃ (r : Int32) (μ1 μ2 : gs_M), D_X11_better y0 y1 y2 μ = some (r, μ1) ∧ D_X12_better y0 y1 y2 μ1 = some (r, μ2) ∧ Rel μ2) ∧
  (∀ (μ : gs_M), Rel μ → ∃ (r : Int32) (μ1 μ2 : gs_M), D_X11_rules  μ = some (r, μ1) ∧ D_X12_rules  μ1 = some (r, μ2) ∧ Rel μ2) ∧
  (∀ (μ : gs_M), Rel μ → ∀ (y0 : Int32), ∃ (r : Int32) (μ1 μ2 : gs_M), D_X11_count y0 μ = some (r, μ1) ∧ D_X12_count y0 μ1 = some (r, μ2) ∧ Rel μ2)
