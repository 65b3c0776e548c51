/-! THE CASES OF THE LAW -/
theorem cL_24 : cB RL 24 yX7_feed cX7_feed 6 (some .int) 5 := ⟨Or.inl (tG 522 (by decide +kernel) rfl), tG 525 (by decide +kernel) rfl, tG 177 (by decide +kernel) rfl, by decide +kernel, by decide +kernel⟩
theorem nX7_feed : Cond.instanceMethod yX7_feed ∈ tblG := tG 523 (by decide +kernel) rfl
theorem sX7_feed : Cond.selects yX7_feed.cls yX7_feed yX7_feed ∈ tblG := tG 524 (by decide +kernel) rfl
theorem cL_28 : cB RL 28 yX8_feed cX8_feed 8 (some .int) 5 := ⟨Or.inl (tG 1469 (by decide +kernel) rfl), tG 1472 (by decide +kernel) rfl, tG 185 (by decide +kernel) rfl, by decide +kernel, by decide +kernel⟩
theorem nX8_feed : Cond.instanceMethod yX8_feed ∈ tblG := tG 1470 (by decide +kernel) rfl
theorem sX8_feed : Cond.selects yX8_feed.cls yX8_feed yX8_feed ∈ tblG := tG 1471 (by decide +kernel) rfl
theorem cL_29 : cB RL 29 yX7_text cX7_text 3 (some .int) 1 := ⟨Or.inl (tG 530 (by decide +kernel) rfl), tG 533 (by decide +kernel) rfl, tG 177 (by decide +kernel) rfl, by decide +kernel, by decide +kernel⟩
theorem nX7_text : Cond.instanceMethod yX7_text ∈ tblG := tG 531 (by decide +kernel) rfl
theorem sX7_text : Cond.selects yX7_text.cls yX7_text yX7_text ∈ tblG := tG 532 (by decide +kernel) rfl
theorem cL_33 : cB RL 33 yX8_text cX8_text 3 (some .int) 1 := ⟨Or.inl (tG 1473 (by decide +kernel) rfl), tG 1476 (by decide +kernel) rfl, tG 185 (by decide +kernel) rfl, by decide +kernel, by decide +kernel⟩
theorem nX8_text : Cond.instanceMethod yX8_text ∈ tblG := tG 1474 (by decide +kernel) rfl
theorem sX8_text : Cond.selects yX8_text.cls yX8_text yX8_text ∈ tblG := tG 1475 (by decide +kernel) rfl
theorem cL_34 : cB RL 34 yX7_fault cX7_fault 2 (some .int) 1 := ⟨Or.inl (tG 752 (by decide +kernel) rfl), tG 755 (by decide +kernel) rfl, tG 177 (by decide +kernel) rfl, by decide +kernel, by decide +kernel⟩
theorem nX7_fault : Cond.instanceMethod yX7_fault ∈ tblG := tG 753 (by decide +kernel) rfl
theorem sX7_fault : Cond.selects yX7_fault.cls yX7_fault yX7_fault ∈ tblG := tG 754 (by decide +kernel) rfl
theorem cL_37 : cB RL 37 yX8_fault cX8_fault 2 (some .int) 1 := ⟨Or.inl (tG 1638 (by decide +kernel) rfl), tG 1641 (by decide +kernel) rfl, tG 185 (by decide +kernel) rfl, by decide +kernel, by decide +kernel⟩
theorem nX8_fault : Cond.instanceMethod yX8_fault ∈ tblG := tG 1639 (by decide +kernel) rfl
theorem sX8_fault : Cond.selects yX8_fault.cls yX8_fault yX8_fault ∈ tblG := tG 1640 (by decide +kernel) rfl
theorem cL_38 : cB RL 38 yX7_miles cX7_miles 3 (some .int) 2 := ⟨Or.inl (tG 756 (by decide +kernel) rfl), tG 759 (by decide +kernel) rfl, tG 177 (by decide +kernel) rfl, by decide +kernel, by decide +kernel⟩
theorem nX7_miles : Cond.instanceMethod yX7_miles ∈ tblG := tG 757 (by decide +kernel) rfl
theorem sX7_miles : Cond.selects yX7_miles.cls yX7_miles yX7_miles ∈ tblG := tG 758 (by decide +kernel) rfl
theorem cL_41 : cB RL 41 yX8_miles cX8_miles 3 (some .int) 2 := ⟨Or.inl (tG 1642 (by decide +kernel) rfl), tG 1645 (by decide +kernel) rfl, tG 185 (by decide +kernel) rfl, by decide +kernel, by decide +kernel⟩
theorem nX8_miles : Cond.instanceMethod yX8_miles ∈ tblG := tG 1643 (by decide +kernel) rfl
theorem sX8_miles : Cond.selects yX8_miles.cls yX8_miles yX8_miles ∈ tblG := tG 1644 (by decide +kernel) rfl
theorem cL_42 : cB RL 42 yX7_way cX7_way 6 (some .int) 3 := ⟨Or.inl (tG 765 (by decide +kernel) rfl), tG 768 (by decide +kernel) rfl, tG 177 (by decide +kernel) rfl, by decide +kernel, by decide +kernel⟩
theorem nX7_way : Cond.instanceMethod yX7_way ∈ tblG := tG 766 (by decide +kernel) rfl
theorem sX7_way : Cond.selects yX7_way.cls yX7_way yX7_way ∈ tblG := tG 767 (by decide +kernel) rfl
theorem cL_46 : cB RL 46 yX8_way cX8_way 7 (some .int) 3 := ⟨Or.inl (tG 1654 (by decide +kernel) rfl), tG 1657 (by decide +kernel) rfl, tG 185 (by decide +kernel) rfl, by decide +kernel, by decide +kernel⟩
theorem nX8_way : Cond.instanceMethod yX8_way ∈ tblG := tG 1655 (by decide +kernel) rfl
theorem sX8_way : Cond.selects yX8_way.cls yX8_way yX8_way ∈ tblG := tG 1656 (by decide +kernel) rfl
theorem cL_47 : cB RL 47 yX7_weight cX7_weight 2 (some .int) 1 := ⟨Or.inl (tG 773 (by decide +kernel) rfl), tG 776 (by decide +kernel) rfl, tG 177 (by decide +kernel) rfl, by decide +kernel, by decide +kernel⟩
theorem nX7_weight : Cond.instanceMethod yX7_weight ∈ tblG := tG 774 (by decide +kernel) rfl
theorem sX7_weight : Cond.selects yX7_weight.cls yX7_weight yX7_weight ∈ tblG := tG 775 (by decide +kernel) rfl
theorem cL_50 : cB RL 50 yX8_weight cX8_weight 2 (some .int) 1 := ⟨Or.inl (tG 1658 (by decide +kernel) rfl), tG 1661 (by decide +kernel) rfl, tG 185 (by decide +kernel) rfl, by decide +kernel, by decide +kernel⟩
theorem nX8_weight : Cond.instanceMethod yX8_weight ∈ tblG := tG 1659 (by decide +kernel) rfl
theorem sX8_weight : Cond.selects yX8_weight.cls yX8_weight yX8_weight ∈ tblG := tG 1660 (by decide +kernel) rfl
theorem cL_51 : cB RL 51 yX7_base cX7_base 5 (some .int) 3 := ⟨Or.inl (tG 782 (by decide +kernel) rfl), tG 785 (by decide +kernel) rfl, tG 177 (by decide +kernel) rfl, by decide +kernel, by decide +kernel⟩
theorem nX7_base : Cond.instanceMethod yX7_base ∈ tblG := tG 783 (by decide +kernel) rfl
theorem sX7_base : Cond.selects yX7_base.cls yX7_base yX7_base ∈ tblG := tG 784 (by decide +kernel) rfl
theorem cL_54 : cB RL 54 yX8_base cX8_base 4 (some .int) 3 := ⟨Or.inl (tG 1667 (by decide +kernel) rfl), tG 1670 (by decide +kernel) rfl, tG 185 (by decide +kernel) rfl, by decide +kernel, by decide +kernel⟩
theorem nX8_base : Cond.instanceMethod yX8_base ∈ tblG := tG 1668 (by decide +kernel) rfl
theorem sX8_base : Cond.selects yX8_base.cls yX8_base yX8_base ∈ tblG := tG 1669 (by decide +kernel) rfl
theorem cL_60 : cB RL 60 yX8_proviso cX8_proviso 6 (some .int) 2 := ⟨Or.inl (tG 1675 (by decide +kernel) rfl), tG 1678 (by decide +kernel) rfl, tG 185 (by decide +kernel) rfl, by decide +kernel, by decide +kernel⟩
theorem nX8_proviso : Cond.instanceMethod yX8_proviso ∈ tblG := tG 1676 (by decide +kernel) rfl
theorem sX8_proviso : Cond.selects yX8_proviso.cls yX8_proviso yX8_proviso ∈ tblG := tG 1677 (by decide +kernel) rfl
theorem cL_61 : cB RL 61 yX8_thrown cX8_thrown 1 (some .int) 0 := ⟨Or.inl (tG 1465 (by decide +kernel) rfl), tG 1468 (by decide +kernel) rfl, tG 185 (by decide +kernel) rfl, by decide +kernel, by decide +kernel⟩
theorem nX8_thrown : Cond.instanceMethod yX8_thrown ∈ tblG := tG 1466 (by decide +kernel) rfl
theorem sX8_thrown : Cond.selects yX8_thrown.cls yX8_thrown yX8_thrown ∈ tblG := tG 1467 (by decide +kernel) rfl
theorem cL_67 : cB RL 67 yX8_ticket cX8_ticket 5 (some .int) 2 := ⟨Or.inl (tG 1699 (by decide +kernel) rfl), tG 1702 (by decide +kernel) rfl, tG 185 (by decide +kernel) rfl, by decide +kernel, by decide +kernel⟩
theorem nX8_ticket : Cond.instanceMethod yX8_ticket ∈ tblG := tG 1700 (by decide +kernel) rfl
theorem sX8_ticket : Cond.selects yX8_ticket.cls yX8_ticket yX8_ticket ∈ tblG := tG 1701 (by decide +kernel) rfl
theorem cL_68 : cB RL 68 yX7_coupon cX7_coupon 4 (some .int) 3 := ⟨Or.inl (tG 791 (by decide +kernel) rfl), tG 794 (by decide +kernel) rfl, tG 177 (by decide +kernel) rfl, by decide +kernel, by decide +kernel⟩
theorem nX7_coupon : Cond.instanceMethod yX7_coupon ∈ tblG := tG 792 (by decide +kernel) rfl
theorem sX7_coupon : Cond.selects yX7_coupon.cls yX7_coupon yX7_coupon ∈ tblG := tG 793 (by decide +kernel) rfl
theorem cL_71 : cB RL 71 yX8_coupon cX8_coupon 4 (some .int) 3 := ⟨Or.inl (tG 1719 (by decide +kernel) rfl), tG 1722 (by decide +kernel) rfl, tG 185 (by decide +kernel) rfl, by decide +kernel, by decide +kernel⟩
theorem nX8_coupon : Cond.instanceMethod yX8_coupon ∈ tblG := tG 1720 (by decide +kernel) rfl
theorem sX8_coupon : Cond.selects yX8_coupon.cls yX8_coupon yX8_coupon ∈ tblG := tG 1721 (by decide +kernel) rfl
theorem cL_72 : cB RL 72 yX7_share cX7_share 3 (some .int) 2 := ⟨Or.inl (tG 898 (by decide +kernel) rfl), tG 901 (by decide +kernel) rfl, tG 177 (by decide +kernel) rfl, by decide +kernel, by decide +kernel⟩
theorem nX7_share : Cond.instanceMethod yX7_share ∈ tblG := tG 899 (by decide +kernel) rfl
theorem sX7_share : Cond.selects yX7_share.cls yX7_share yX7_share ∈ tblG := tG 900 (by decide +kernel) rfl
theorem cL_75 : cB RL 75 yX8_share cX8_share 3 (some .int) 2 := ⟨Or.inl (tG 1775 (by decide +kernel) rfl), tG 1778 (by decide +kernel) rfl, tG 185 (by decide +kernel) rfl, by decide +kernel, by decide +kernel⟩
theorem nX8_share : Cond.instanceMethod yX8_share ∈ tblG := tG 1776 (by decide +kernel) rfl
theorem sX8_share : Cond.selects yX8_share.cls yX8_share yX8_share ∈ tblG := tG 1777 (by decide +kernel) rfl
theorem cL_76 : cB RL 76 yX7_carried cX7_carried 5 (some .int) 2 := ⟨Or.inl (tG 906 (by decide +kernel) rfl), tG 909 (by decide +kernel) rfl, tG 177 (by decide +kernel) rfl, by decide +kernel, by decide +kernel⟩
theorem nX7_carried : Cond.instanceMethod yX7_carried ∈ tblG := tG 907 (by decide +kernel) rfl
theorem sX7_carried : Cond.selects yX7_carried.cls yX7_carried yX7_carried ∈ tblG := tG 908 (by decide +kernel) rfl
theorem cL_79 : cB RL 79 yX8_carried cX8_carried 5 (some .int) 2 := ⟨Or.inl (tG 1779 (by decide +kernel) rfl), tG 1782 (by decide +kernel) rfl, tG 185 (by decide +kernel) rfl, by decide +kernel, by decide +kernel⟩
theorem nX8_carried : Cond.instanceMethod yX8_carried ∈ tblG := tG 1780 (by decide +kernel) rfl
theorem sX8_carried : Cond.selects yX8_carried.cls yX8_carried yX8_carried ∈ tblG := tG 1781 (by decide +kernel) rfl
theorem cL_80 : cB RL 80 yX7_rounds cX7_rounds 2 (some .int) 1 := ⟨Or.inl (tG 910 (by decide +kernel) rfl), tG 913 (by decide +kernel) rfl, tG 177 (by decide +kernel) rfl, by decide +kernel, by decide +kernel⟩
theorem nX7_rounds : Cond.instanceMethod yX7_rounds ∈ tblG := tG 911 (by decide +kernel) rfl
theorem sX7_rounds : Cond.selects yX7_rounds.cls yX7_rounds yX7_rounds ∈ tblG := tG 912 (by decide +kernel) rfl
theorem cL_83 : cB RL 83 yX8_rounds cX8_rounds 2 (some .int) 1 := ⟨Or.inl (tG 1783 (by decide +kernel) rfl), tG 1786 (by decide +kernel) rfl, tG 185 (by decide +kernel) rfl, by decide +kernel, by decide +kernel⟩
theorem nX8_rounds : Cond.instanceMethod yX8_rounds ∈ tblG := tG 1784 (by decide +kernel) rfl
theorem sX8_rounds : Cond.selects yX8_rounds.cls yX8_rounds yX8_rounds ∈ tblG := tG 1785 (by decide +kernel) rfl
theorem cL_84 : cB RL 84 yX7_left cX7_left 2 (some .int) 1 := ⟨Or.inl (tG 914 (by decide +kernel) rfl), tG 917 (by decide +kernel) rfl, tG 177 (by decide +kernel) rfl, by decide +kernel, by decide +kernel⟩
theorem nX7_left : Cond.instanceMethod yX7_left ∈ tblG := tG 915 (by decide +kernel) rfl
theorem sX7_left : Cond.selects yX7_left.cls yX7_left yX7_left ∈ tblG := tG 916 (by decide +kernel) rfl
theorem cL_87 : cB RL 87 yX8_left cX8_left 2 (some .int) 1 := ⟨Or.inl (tG 1787 (by decide +kernel) rfl), tG 1790 (by decide +kernel) rfl, tG 185 (by decide +kernel) rfl, by decide +kernel, by decide +kernel⟩
theorem nX8_left : Cond.instanceMethod yX8_left ∈ tblG := tG 1788 (by decide +kernel) rfl
theorem sX8_left : Cond.selects yX8_left.cls yX8_left yX8_left ∈ tblG := tG 1789 (by decide +kernel) rfl
theorem cL_88 : cB RL 88 yX7_straight cX7_straight 3 (some .int) 2 := ⟨Or.inl (tG 918 (by decide +kernel) rfl), tG 921 (by decide +kernel) rfl, tG 177 (by decide +kernel) rfl, by decide +kernel, by decide +kernel⟩
theorem nX7_straight : Cond.instanceMethod yX7_straight ∈ tblG := tG 919 (by decide +kernel) rfl
theorem sX7_straight : Cond.selects yX7_straight.cls yX7_straight yX7_straight ∈ tblG := tG 920 (by decide +kernel) rfl
theorem cL_91 : cB RL 91 yX8_straight cX8_straight 3 (some .int) 2 := ⟨Or.inl (tG 1791 (by decide +kernel) rfl), tG 1794 (by decide +kernel) rfl, tG 185 (by decide +kernel) rfl, by decide +kernel, by decide +kernel⟩
theorem nX8_straight : Cond.instanceMethod yX8_straight ∈ tblG := tG 1792 (by decide +kernel) rfl
theorem sX8_straight : Cond.selects yX8_straight.cls yX8_straight yX8_straight ∈ tblG := tG 1793 (by decide +kernel) rfl
theorem cL_92 : cB RL 92 yX7_other cX7_other 3 (some .int) 2 := ⟨Or.inl (tG 930 (by decide +kernel) rfl), tG 933 (by decide +kernel) rfl, tG 177 (by decide +kernel) rfl, by decide +kernel, by decide +kernel⟩
theorem nX7_other : Cond.instanceMethod yX7_other ∈ tblG := tG 931 (by decide +kernel) rfl
theorem sX7_other : Cond.selects yX7_other.cls yX7_other yX7_other ∈ tblG := tG 932 (by decide +kernel) rfl
theorem cL_95 : cB RL 95 yX8_other cX8_other 3 (some .int) 2 := ⟨Or.inl (tG 1795 (by decide +kernel) rfl), tG 1798 (by decide +kernel) rfl, tG 185 (by decide +kernel) rfl, by decide +kernel, by decide +kernel⟩
theorem nX8_other : Cond.instanceMethod yX8_other ∈ tblG := tG 1796 (by decide +kernel) rfl
theorem sX8_other : Cond.selects yX8_other.cls yX8_other yX8_other ∈ tblG := tG 1797 (by decide +kernel) rfl
theorem cL_96 : cB RL 96 yX7_without cX7_without 4 (some .int) 3 := ⟨Or.inl (tG 934 (by decide +kernel) rfl), tG 937 (by decide +kernel) rfl, tG 177 (by decide +kernel) rfl, by decide +kernel, by decide +kernel⟩
theorem nX7_without : Cond.instanceMethod yX7_without ∈ tblG := tG 935 (by decide +kernel) rfl
theorem sX7_without : Cond.selects yX7_without.cls yX7_without yX7_without ∈ tblG := tG 936 (by decide +kernel) rfl
theorem cL_99 : cB RL 99 yX8_without cX8_without 4 (some .int) 3 := ⟨Or.inl (tG 1799 (by decide +kernel) rfl), tG 1802 (by decide +kernel) rfl, tG 185 (by decide +kernel) rfl, by decide +kernel, by decide +kernel⟩
theorem nX8_without : Cond.instanceMethod yX8_without ∈ tblG := tG 1800 (by decide +kernel) rfl
theorem sX8_without : Cond.selects yX8_without.cls yX8_without yX8_without ∈ tblG := tG 1801 (by decide +kernel) rfl
theorem cL_100 : cB RL 100 yX7_matters cX7_matters 4 (some .int) 1 := ⟨Or.inl (tG 946 (by decide +kernel) rfl), tG 949 (by decide +kernel) rfl, tG 177 (by decide +kernel) rfl, by decide +kernel, by decide +kernel⟩
theorem nX7_matters : Cond.instanceMethod yX7_matters ∈ tblG := tG 947 (by decide +kernel) rfl
theorem sX7_matters : Cond.selects yX7_matters.cls yX7_matters yX7_matters ∈ tblG := tG 948 (by decide +kernel) rfl
theorem cL_103 : cB RL 103 yX8_matters cX8_matters 4 (some .int) 1 := ⟨Or.inl (tG 1803 (by decide +kernel) rfl), tG 1806 (by decide +kernel) rfl, tG 185 (by decide +kernel) rfl, by decide +kernel, by decide +kernel⟩
theorem nX8_matters : Cond.instanceMethod yX8_matters ∈ tblG := tG 1804 (by decide +kernel) rfl
theorem sX8_matters : Cond.selects yX8_matters.cls yX8_matters yX8_matters ∈ tblG := tG 1805 (by decide +kernel) rfl
theorem cL_104 : cB RL 104 yX7_harmed cX7_harmed 7 (some .int) 2 := ⟨Or.inl (tG 958 (by decide +kernel) rfl), tG 961 (by decide +kernel) rfl, tG 177 (by decide +kernel) rfl, by decide +kernel, by decide +kernel⟩
theorem nX7_harmed : Cond.instanceMethod yX7_harmed ∈ tblG := tG 959 (by decide +kernel) rfl
theorem sX7_harmed : Cond.selects yX7_harmed.cls yX7_harmed yX7_harmed ∈ tblG := tG 960 (by decide +kernel) rfl
theorem cL_107 : cB RL 107 yX8_harmed cX8_harmed 9 (some .int) 2 := ⟨Or.inl (tG 1811 (by decide +kernel) rfl), tG 1814 (by decide +kernel) rfl, tG 185 (by decide +kernel) rfl, by decide +kernel, by decide +kernel⟩
theorem nX8_harmed : Cond.instanceMethod yX8_harmed ∈ tblG := tG 1812 (by decide +kernel) rfl
theorem sX8_harmed : Cond.selects yX8_harmed.cls yX8_harmed yX8_harmed ∈ tblG := tG 1813 (by decide +kernel) rfl
theorem cL_108 : cB RL 108 yX7_fly cX7_fly 4 (some .int) 2 := ⟨Or.inl (tG 970 (by decide +kernel) rfl), tG 973 (by decide +kernel) rfl, tG 177 (by decide +kernel) rfl, by decide +kernel, by decide +kernel⟩
theorem nX7_fly : Cond.instanceMethod yX7_fly ∈ tblG := tG 971 (by decide +kernel) rfl
theorem sX7_fly : Cond.selects yX7_fly.cls yX7_fly yX7_fly ∈ tblG := tG 972 (by decide +kernel) rfl
theorem cL_111 : cB RL 111 yX8_fly cX8_fly 5 (some .int) 2 := ⟨Or.inl (tG 1823 (by decide +kernel) rfl), tG 1826 (by decide +kernel) rfl, tG 185 (by decide +kernel) rfl, by decide +kernel, by decide +kernel⟩
theorem nX8_fly : Cond.instanceMethod yX8_fly ∈ tblG := tG 1824 (by decide +kernel) rfl
theorem sX8_fly : Cond.selects yX8_fly.cls yX8_fly yX8_fly ∈ tblG := tG 1825 (by decide +kernel) rfl
theorem cL_112 : cB RL 112 yX7_endorse cX7_endorse 5 (some .int) 3 := ⟨Or.inl (tG 986 (by decide +kernel) rfl), tG 989 (by decide +kernel) rfl, tG 177 (by decide +kernel) rfl, by decide +kernel, by decide +kernel⟩
theorem nX7_endorse : Cond.instanceMethod yX7_endorse ∈ tblG := tG 987 (by decide +kernel) rfl
theorem sX7_endorse : Cond.selects yX7_endorse.cls yX7_endorse yX7_endorse ∈ tblG := tG 988 (by decide +kernel) rfl
theorem cL_115 : cB RL 115 yX8_endorse cX8_endorse 5 (some .int) 3 := ⟨Or.inl (tG 1839 (by decide +kernel) rfl), tG 1842 (by decide +kernel) rfl, tG 185 (by decide +kernel) rfl, by decide +kernel, by decide +kernel⟩
theorem nX8_endorse : Cond.instanceMethod yX8_endorse ∈ tblG := tG 1840 (by decide +kernel) rfl
theorem sX8_endorse : Cond.selects yX8_endorse.cls yX8_endorse yX8_endorse ∈ tblG := tG 1841 (by decide +kernel) rfl
theorem cL_116 : cB RL 116 yX7_refund cX7_refund 2 (some .int) 1 := ⟨Or.inl (tG 998 (by decide +kernel) rfl), tG 1001 (by decide +kernel) rfl, tG 177 (by decide +kernel) rfl, by decide +kernel, by decide +kernel⟩
theorem nX7_refund : Cond.instanceMethod yX7_refund ∈ tblG := tG 999 (by decide +kernel) rfl
theorem sX7_refund : Cond.selects yX7_refund.cls yX7_refund yX7_refund ∈ tblG := tG 1000 (by decide +kernel) rfl
theorem cL_119 : cB RL 119 yX8_refund cX8_refund 2 (some .int) 1 := ⟨Or.inl (tG 1847 (by decide +kernel) rfl), tG 1850 (by decide +kernel) rfl, tG 185 (by decide +kernel) rfl, by decide +kernel, by decide +kernel⟩
theorem nX8_refund : Cond.instanceMethod yX8_refund ∈ tblG := tG 1848 (by decide +kernel) rfl
theorem sX8_refund : Cond.selects yX8_refund.cls yX8_refund yX8_refund ∈ tblG := tG 1849 (by decide +kernel) rfl
theorem cL_120 : cB RL 120 yX7_clear cX7_clear 1 (some .int) 0 := ⟨Or.inl (tG 1011 (by decide +kernel) rfl), tG 1014 (by decide +kernel) rfl, tG 177 (by decide +kernel) rfl, by decide +kernel, by decide +kernel⟩
theorem nX7_clear : Cond.instanceMethod yX7_clear ∈ tblG := tG 1012 (by decide +kernel) rfl
theorem sX7_clear : Cond.selects yX7_clear.cls yX7_clear yX7_clear ∈ tblG := tG 1013 (by decide +kernel) rfl
theorem cL_123 : cB RL 123 yX8_clear cX8_clear 3 (some .int) 0 := ⟨Or.inl (tG 1855 (by decide +kernel) rfl), tG 1858 (by decide +kernel) rfl, tG 185 (by decide +kernel) rfl, by decide +kernel, by decide +kernel⟩
theorem nX8_clear : Cond.instanceMethod yX8_clear ∈ tblG := tG 1856 (by decide +kernel) rfl
theorem sX8_clear : Cond.selects yX8_clear.cls yX8_clear yX8_clear ∈ tblG := tG 1857 (by decide +kernel) rfl
theorem cL_124 : cB RL 124 yX7_undo cX7_undo 1 (some .int) 0 := ⟨Or.inl (tG 1041 (by decide +kernel) rfl), tG 1044 (by decide +kernel) rfl, tG 177 (by decide +kernel) rfl, by decide +kernel, by decide +kernel⟩
theorem nX7_undo : Cond.instanceMethod yX7_undo ∈ tblG := tG 1042 (by decide +kernel) rfl
theorem sX7_undo : Cond.selects yX7_undo.cls yX7_undo yX7_undo ∈ tblG := tG 1043 (by decide +kernel) rfl
theorem cL_127 : cB RL 127 yX8_undo cX8_undo 2 (some .int) 0 := ⟨Or.inl (tG 1819 (by decide +kernel) rfl), tG 1822 (by decide +kernel) rfl, tG 185 (by decide +kernel) rfl, by decide +kernel, by decide +kernel⟩
theorem nX8_undo : Cond.instanceMethod yX8_undo ∈ tblG := tG 1820 (by decide +kernel) rfl
theorem sX8_undo : Cond.selects yX8_undo.cls yX8_undo yX8_undo ∈ tblG := tG 1821 (by decide +kernel) rfl
theorem cL_128 : cB RL 128 yX7_bill cX7_bill 3 (some .int) 2 := ⟨Or.inl (tG 1053 (by decide +kernel) rfl), tG 1056 (by decide +kernel) rfl, tG 177 (by decide +kernel) rfl, by decide +kernel, by decide +kernel⟩
theorem nX7_bill : Cond.instanceMethod yX7_bill ∈ tblG := tG 1054 (by decide +kernel) rfl
theorem sX7_bill : Cond.selects yX7_bill.cls yX7_bill yX7_bill ∈ tblG := tG 1055 (by decide +kernel) rfl
theorem cL_131 : cB RL 131 yX8_bill cX8_bill 3 (some .int) 2 := ⟨Or.inl (tG 1871 (by decide +kernel) rfl), tG 1874 (by decide +kernel) rfl, tG 185 (by decide +kernel) rfl, by decide +kernel, by decide +kernel⟩
theorem nX8_bill : Cond.instanceMethod yX8_bill ∈ tblG := tG 1872 (by decide +kernel) rfl
theorem sX8_bill : Cond.selects yX8_bill.cls yX8_bill yX8_bill ∈ tblG := tG 1873 (by decide +kernel) rfl
theorem cL_132 : cB RL 132 yX7_net cX7_net 2 (some .int) 1 := ⟨Or.inl (tG 1057 (by decide +kernel) rfl), tG 1060 (by decide +kernel) rfl, tG 177 (by decide +kernel) rfl, by decide +kernel, by decide +kernel⟩
theorem nX7_net : Cond.instanceMethod yX7_net ∈ tblG := tG 1058 (by decide +kernel) rfl
theorem sX7_net : Cond.selects yX7_net.cls yX7_net yX7_net ∈ tblG := tG 1059 (by decide +kernel) rfl
theorem cL_135 : cB RL 135 yX8_net cX8_net 2 (some .int) 1 := ⟨Or.inl (tG 1875 (by decide +kernel) rfl), tG 1878 (by decide +kernel) rfl, tG 185 (by decide +kernel) rfl, by decide +kernel, by decide +kernel⟩
theorem nX8_net : Cond.instanceMethod yX8_net ∈ tblG := tG 1876 (by decide +kernel) rfl
theorem sX8_net : Cond.selects yX8_net.cls yX8_net yX8_net ∈ tblG := tG 1877 (by decide +kernel) rfl
theorem cL_136 : cB RL 136 yX7_cleared cX7_cleared 2 (some .int) 1 := ⟨Or.inl (tG 1063 (by decide +kernel) rfl), tG 1066 (by decide +kernel) rfl, tG 177 (by decide +kernel) rfl, by decide +kernel, by decide +kernel⟩
theorem nX7_cleared : Cond.instanceMethod yX7_cleared ∈ tblG := tG 1064 (by decide +kernel) rfl
theorem sX7_cleared : Cond.selects yX7_cleared.cls yX7_cleared yX7_cleared ∈ tblG := tG 1065 (by decide +kernel) rfl
theorem cL_139 : cB RL 139 yX8_cleared cX8_cleared 2 (some .int) 1 := ⟨Or.inl (tG 1880 (by decide +kernel) rfl), tG 1883 (by decide +kernel) rfl, tG 185 (by decide +kernel) rfl, by decide +kernel, by decide +kernel⟩
theorem nX8_cleared : Cond.instanceMethod yX8_cleared ∈ tblG := tG 1881 (by decide +kernel) rfl
theorem sX8_cleared : Cond.selects yX8_cleared.cls yX8_cleared yX8_cleared ∈ tblG := tG 1882 (by decide +kernel) rfl
theorem cL_140 : cB RL 140 yX7_payments cX7_payments 1 (some .int) 0 := ⟨Or.inl (tG 1067 (by decide +kernel) rfl), tG 1070 (by decide +kernel) rfl, tG 177 (by decide +kernel) rfl, by decide +kernel, by decide +kernel⟩
theorem nX7_payments : Cond.instanceMethod yX7_payments ∈ tblG := tG 1068 (by decide +kernel) rfl
theorem sX7_payments : Cond.selects yX7_payments.cls yX7_payments yX7_payments ∈ tblG := tG 1069 (by decide +kernel) rfl
theorem cL_143 : cB RL 143 yX8_payments cX8_payments 1 (some .int) 0 := ⟨Or.inl (tG 1884 (by decide +kernel) rfl), tG 1887 (by decide +kernel) rfl, tG 185 (by decide +kernel) rfl, by decide +kernel, by decide +kernel⟩
theorem nX8_payments : Cond.instanceMethod yX8_payments ∈ tblG := tG 1885 (by decide +kernel) rfl
theorem sX8_payments : Cond.selects yX8_payments.cls yX8_payments yX8_payments ∈ tblG := tG 1886 (by decide +kernel) rfl
theorem cL_144 : cB RL 144 yX7_payment cX7_payment 3 (some .int) 2 := ⟨Or.inl (tG 1071 (by decide +kernel) rfl), tG 1074 (by decide +kernel) rfl, tG 177 (by decide +kernel) rfl, by decide +kernel, by decide +kernel⟩
theorem nX7_payment : Cond.instanceMethod yX7_payment ∈ tblG := tG 1072 (by decide +kernel) rfl
theorem sX7_payment : Cond.selects yX7_payment.cls yX7_payment yX7_payment ∈ tblG := tG 1073 (by decide +kernel) rfl
theorem cL_147 : cB RL 147 yX8_payment cX8_payment 3 (some .int) 2 := ⟨Or.inl (tG 1888 (by decide +kernel) rfl), tG 1891 (by decide +kernel) rfl, tG 185 (by decide +kernel) rfl, by decide +kernel, by decide +kernel⟩
theorem nX8_payment : Cond.instanceMethod yX8_payment ∈ tblG := tG 1889 (by decide +kernel) rfl
theorem sX8_payment : Cond.selects yX8_payment.cls yX8_payment yX8_payment ∈ tblG := tG 1890 (by decide +kernel) rfl
theorem cL_148 : cB RL 148 yX7_wouldEndorse cX7_wouldEndorse 5 (some .int) 3 := ⟨Or.inl (tG 1075 (by decide +kernel) rfl), tG 1078 (by decide +kernel) rfl, tG 177 (by decide +kernel) rfl, by decide +kernel, by decide +kernel⟩
theorem nX7_wouldEndorse : Cond.instanceMethod yX7_wouldEndorse ∈ tblG := tG 1076 (by decide +kernel) rfl
theorem sX7_wouldEndorse : Cond.selects yX7_wouldEndorse.cls yX7_wouldEndorse yX7_wouldEndorse ∈ tblG := tG 1077 (by decide +kernel) rfl
theorem cL_151 : cB RL 151 yX8_wouldEndorse cX8_wouldEndorse 5 (some .int) 3 := ⟨Or.inl (tG 1892 (by decide +kernel) rfl), tG 1895 (by decide +kernel) rfl, tG 185 (by decide +kernel) rfl, by decide +kernel, by decide +kernel⟩
theorem nX8_wouldEndorse : Cond.instanceMethod yX8_wouldEndorse ∈ tblG := tG 1893 (by decide +kernel) rfl
theorem sX8_wouldEndorse : Cond.selects yX8_wouldEndorse.cls yX8_wouldEndorse yX8_wouldEndorse ∈ tblG := tG 1894 (by decide +kernel) rfl
theorem cL_152 : cB RL 152 yX7_cheapest cX7_cheapest 9 (some .int) 3 := ⟨Or.inl (tG 1083 (by decide +kernel) rfl), tG 1086 (by decide +kernel) rfl, tG 177 (by decide +kernel) rfl, by decide +kernel, by decide +kernel⟩
theorem nX7_cheapest : Cond.instanceMethod yX7_cheapest ∈ tblG := tG 1084 (by decide +kernel) rfl
theorem sX7_cheapest : Cond.selects yX7_cheapest.cls yX7_cheapest yX7_cheapest ∈ tblG := tG 1085 (by decide +kernel) rfl
theorem cL_155 : cB RL 155 yX8_cheapest cX8_cheapest 9 (some .int) 3 := ⟨Or.inl (tG 1900 (by decide +kernel) rfl), tG 1903 (by decide +kernel) rfl, tG 185 (by decide +kernel) rfl, by decide +kernel, by decide +kernel⟩
theorem nX8_cheapest : Cond.instanceMethod yX8_cheapest ∈ tblG := tG 1901 (by decide +kernel) rfl
theorem sX8_cheapest : Cond.selects yX8_cheapest.cls yX8_cheapest yX8_cheapest ∈ tblG := tG 1902 (by decide +kernel) rfl
theorem cL_156 : cB RL 156 yX7_carrier cX7_carrier 3 (some .int) 2 := ⟨Or.inl (tG 1087 (by decide +kernel) rfl), tG 1090 (by decide +kernel) rfl, tG 177 (by decide +kernel) rfl, by decide +kernel, by decide +kernel⟩
theorem nX7_carrier : Cond.instanceMethod yX7_carrier ∈ tblG := tG 1088 (by decide +kernel) rfl
theorem sX7_carrier : Cond.selects yX7_carrier.cls yX7_carrier yX7_carrier ∈ tblG := tG 1089 (by decide +kernel) rfl
theorem cL_159 : cB RL 159 yX8_carrier cX8_carrier 6 (some .int) 2 := ⟨Or.inl (tG 1904 (by decide +kernel) rfl), tG 1907 (by decide +kernel) rfl, tG 185 (by decide +kernel) rfl, by decide +kernel, by decide +kernel⟩
theorem cL_160 : cB RL 160 yX7_perMile cX7_perMile 3 (some .int) 1 := ⟨Or.inl (tG 1115 (by decide +kernel) rfl), tG 1118 (by decide +kernel) rfl, tG 177 (by decide +kernel) rfl, by decide +kernel, by decide +kernel⟩
theorem nX7_perMile : Cond.instanceMethod yX7_perMile ∈ tblG := tG 1116 (by decide +kernel) rfl
theorem sX7_perMile : Cond.selects yX7_perMile.cls yX7_perMile yX7_perMile ∈ tblG := tG 1117 (by decide +kernel) rfl
theorem cL_163 : cB RL 163 yX8_perMile cX8_perMile 3 (some .int) 1 := ⟨Or.inl (tG 1912 (by decide +kernel) rfl), tG 1915 (by decide +kernel) rfl, tG 185 (by decide +kernel) rfl, by decide +kernel, by decide +kernel⟩
theorem nX8_perMile : Cond.instanceMethod yX8_perMile ∈ tblG := tG 1913 (by decide +kernel) rfl
theorem sX8_perMile : Cond.selects yX8_perMile.cls yX8_perMile yX8_perMile ∈ tblG := tG 1914 (by decide +kernel) rfl
theorem cL_164 : cB RL 164 yX7_ranked cX7_ranked 3 (some .int) 1 := ⟨Or.inl (tG 1119 (by decide +kernel) rfl), tG 1122 (by decide +kernel) rfl, tG 177 (by decide +kernel) rfl, by decide +kernel, by decide +kernel⟩
theorem nX7_ranked : Cond.instanceMethod yX7_ranked ∈ tblG := tG 1120 (by decide +kernel) rfl
theorem sX7_ranked : Cond.selects yX7_ranked.cls yX7_ranked yX7_ranked ∈ tblG := tG 1121 (by decide +kernel) rfl
theorem cL_167 : cB RL 167 yX8_ranked cX8_ranked 7 (some .int) 1 := ⟨Or.inl (tG 1917 (by decide +kernel) rfl), tG 1920 (by decide +kernel) rfl, tG 185 (by decide +kernel) rfl, by decide +kernel, by decide +kernel⟩
theorem nX8_ranked : Cond.instanceMethod yX8_ranked ∈ tblG := tG 1918 (by decide +kernel) rfl
theorem sX8_ranked : Cond.selects yX8_ranked.cls yX8_ranked yX8_ranked ∈ tblG := tG 1919 (by decide +kernel) rfl
theorem cL_168 : cB RL 168 yX7_most cX7_most 7 (some .int) 2 := ⟨Or.inl (tG 1131 (by decide +kernel) rfl), tG 1134 (by decide +kernel) rfl, tG 177 (by decide +kernel) rfl, by decide +kernel, by decide +kernel⟩
theorem nX7_most : Cond.instanceMethod yX7_most ∈ tblG := tG 1132 (by decide +kernel) rfl
theorem sX7_most : Cond.selects yX7_most.cls yX7_most yX7_most ∈ tblG := tG 1133 (by decide +kernel) rfl
theorem cL_171 : cB RL 171 yX8_most cX8_most 5 (some .int) 2 := ⟨Or.inl (tG 1921 (by decide +kernel) rfl), tG 1924 (by decide +kernel) rfl, tG 185 (by decide +kernel) rfl, by decide +kernel, by decide +kernel⟩
theorem nX8_most : Cond.instanceMethod yX8_most ∈ tblG := tG 1922 (by decide +kernel) rfl
theorem sX8_most : Cond.selects yX8_most.cls yX8_most yX8_most ∈ tblG := tG 1923 (by decide +kernel) rfl
theorem cL_172 : cB RL 172 yX7_may cX7_may 4 (some .int) 2 := ⟨Or.inl (tG 1138 (by decide +kernel) rfl), tG 1141 (by decide +kernel) rfl, tG 177 (by decide +kernel) rfl, by decide +kernel, by decide +kernel⟩
theorem nX7_may : Cond.instanceMethod yX7_may ∈ tblG := tG 1139 (by decide +kernel) rfl
theorem sX7_may : Cond.selects yX7_may.cls yX7_may yX7_may ∈ tblG := tG 1140 (by decide +kernel) rfl
theorem cL_175 : cB RL 175 yX8_may cX8_may 6 (some .int) 2 := ⟨Or.inl (tG 1926 (by decide +kernel) rfl), tG 1929 (by decide +kernel) rfl, tG 185 (by decide +kernel) rfl, by decide +kernel, by decide +kernel⟩
theorem nX8_may : Cond.instanceMethod yX8_may ∈ tblG := tG 1927 (by decide +kernel) rfl
theorem sX8_may : Cond.selects yX8_may.cls yX8_may yX8_may ∈ tblG := tG 1928 (by decide +kernel) rfl
theorem cL_176 : cB RL 176 yX7_money cX7_money 2 (some .int) 1 := ⟨Or.inl (tG 1142 (by decide +kernel) rfl), tG 1145 (by decide +kernel) rfl, tG 177 (by decide +kernel) rfl, by decide +kernel, by decide +kernel⟩
theorem nX7_money : Cond.instanceMethod yX7_money ∈ tblG := tG 1143 (by decide +kernel) rfl
theorem sX7_money : Cond.selects yX7_money.cls yX7_money yX7_money ∈ tblG := tG 1144 (by decide +kernel) rfl
theorem cL_179 : cB RL 179 yX8_money cX8_money 4 (some .int) 1 := ⟨Or.inl (tG 1930 (by decide +kernel) rfl), tG 1933 (by decide +kernel) rfl, tG 185 (by decide +kernel) rfl, by decide +kernel, by decide +kernel⟩
theorem nX8_money : Cond.instanceMethod yX8_money ∈ tblG := tG 1931 (by decide +kernel) rfl
theorem sX8_money : Cond.selects yX8_money.cls yX8_money yX8_money ∈ tblG := tG 1932 (by decide +kernel) rfl
theorem cL_180 : cB RL 180 yX7_count cX7_count 2 (some .int) 1 := ⟨Or.inl (tG 1158 (by decide +kernel) rfl), tG 1161 (by decide +kernel) rfl, tG 177 (by decide +kernel) rfl, by decide +kernel, by decide +kernel⟩
theorem nX7_count : Cond.instanceMethod yX7_count ∈ tblG := tG 1159 (by decide +kernel) rfl
theorem sX7_count : Cond.selects yX7_count.cls yX7_count yX7_count ∈ tblG := tG 1160 (by decide +kernel) rfl
theorem cL_183 : cB RL 183 yX8_count cX8_count 2 (some .int) 1 := ⟨Or.inl (tG 1934 (by decide +kernel) rfl), tG 1937 (by decide +kernel) rfl, tG 185 (by decide +kernel) rfl, by decide +kernel, by decide +kernel⟩
theorem nX8_count : Cond.instanceMethod yX8_count ∈ tblG := tG 1935 (by decide +kernel) rfl
theorem sX8_count : Cond.selects yX8_count.cls yX8_count yX8_count ∈ tblG := tG 1936 (by decide +kernel) rfl
section
variable {E : Ev} {p : Program} {l : Launch} {e : Env} {s : State} {m : MethodId} {args : Array Value} {below : List Frame} {meth : Method} {c : Code} {Q : State → Prop}
theorem k_208 (C : Cx E p s m args meth c RL cL_law 7) (hV : KV E s) (hf : l.stackTraces = false) {i : Int32} (hi : InS E i) {kc ks : Nat} {σ : Sg} (hj : Jx σ) (hR : kc + 1 ≤ 601024 ∧ ks + 6 ≤ 7293034) (kk : ∀ ω, Jx ω → X E p l e room_1 s m args below meth c Q 7 (kc + 1) (ks + 6) ω 1568 (LL E i) []) : X E p l e room_1 s m args below meth c Q 7 kc ks σ 208 (LL E i) [] := by
  obtain ⟨hk, hs⟩ := hR
  obtain ⟨r, υ, ω, e1, e2, hj2⟩ := sj_s hj (fun b W tn fl n k h => s_feed h (wS E (i + 1)) (wS E (i + 2)) (wS E (i + 3)) (wS E (i + 4)) (wS E (i + 5)))
  have c5 := c5_of hj.fin
  have c6 : ckO υ 6 51 = true := by
    have e9 := e2
    unfold DX8_feed at e9
    exact (chk_s e9).1
  refine x_aload_n (pc := 208) C dL_law_208 rfl rfl ?_
  refine x_aload_n (pc := 209) C dL_law_209 rfl rfl ?_
  refine x_iload (pc := 210) C dL_law_210 rfl ?_
  refine x_iconst (v := 1) (pc := 212) C dL_law_212 (by decide) ?_
  refine x_iadd (pc := 213) C dL_law_213 ?_
  refine x_sld (pc := 214) C hi.1 dL_law_214 ?_
  refine x_aload_n (pc := 215) C dL_law_215 rfl rfl ?_
  refine x_iload (pc := 216) C dL_law_216 rfl ?_
  refine x_iconst (v := 2) (pc := 218) C dL_law_218 (by decide) ?_
  refine x_iadd (pc := 219) C dL_law_219 ?_
  refine x_sld (pc := 220) C hi.2.1 dL_law_220 ?_
  refine x_aload_n (pc := 221) C dL_law_221 rfl rfl ?_
  refine x_iload (pc := 222) C dL_law_222 rfl ?_
  refine x_iconst (v := 3) (pc := 224) C dL_law_224 (by decide) ?_
  refine x_iadd (pc := 225) C dL_law_225 ?_
  refine x_sld (pc := 226) C hi.2.2.1 dL_law_226 ?_
  refine x_aload_n (pc := 227) C dL_law_227 rfl rfl ?_
  refine x_iload (pc := 228) C dL_law_228 rfl ?_
  refine x_iconst (v := 4) (pc := 230) C dL_law_230 (by decide) ?_
  refine x_iadd (pc := 231) C dL_law_231 ?_
  refine x_sld (pc := 232) C hi.2.2.2.1 dL_law_232 ?_
  refine x_aload_n (pc := 233) C dL_law_233 rfl rfl ?_
  refine x_iload (pc := 234) C dL_law_234 rfl ?_
  refine x_iconst (v := 5) (pc := 236) C dL_law_236 (by decide) ?_
  refine x_iadd (pc := 237) C dL_law_237 ?_
  refine x_sld (pc := 238) C hi.2.2.2.2 dL_law_238 ?_
  refine x_callV1 (pc := 239) C (mX7_feed E l e1) cl5 c5 cL_24 nX7_feed sX7_feed rfl rfl (Nat.le_of_ble_eq_true rfl) ⟨Nat.le_of_ble_eq_true rfl, Nat.le_of_ble_eq_true rfl, by show kc ≤ 601024; omega, by show ks ≤ 7293034; omega⟩ dL_law_239 ?_
  refine x_aload_n (pc := 242) C dL_law_242 rfl rfl ?_
  refine x_aload_n (pc := 243) C dL_law_243 rfl rfl ?_
  refine x_iload (pc := 244) C dL_law_244 rfl ?_
  refine x_iconst (v := 1) (pc := 246) C dL_law_246 (by decide) ?_
  refine x_iadd (pc := 247) C dL_law_247 ?_
  refine x_sld (pc := 248) C hi.1 dL_law_248 ?_
  refine x_aload_n (pc := 249) C dL_law_249 rfl rfl ?_
  refine x_iload (pc := 250) C dL_law_250 rfl ?_
  refine x_iconst (v := 2) (pc := 252) C dL_law_252 (by decide) ?_
  refine x_iadd (pc := 253) C dL_law_253 ?_
  refine x_sld (pc := 254) C hi.2.1 dL_law_254 ?_
  refine x_aload_n (pc := 255) C dL_law_255 rfl rfl ?_
  refine x_iload (pc := 256) C dL_law_256 rfl ?_
  refine x_iconst (v := 3) (pc := 258) C dL_law_258 (by decide) ?_
  refine x_iadd (pc := 259) C dL_law_259 ?_
  refine x_sld (pc := 260) C hi.2.2.1 dL_law_260 ?_
  refine x_aload_n (pc := 261) C dL_law_261 rfl rfl ?_
  refine x_iload (pc := 262) C dL_law_262 rfl ?_
  refine x_iconst (v := 4) (pc := 264) C dL_law_264 (by decide) ?_
  refine x_iadd (pc := 265) C dL_law_265 ?_
  refine x_sld (pc := 266) C hi.2.2.2.1 dL_law_266 ?_
  refine x_aload_n (pc := 267) C dL_law_267 rfl rfl ?_
  refine x_iload (pc := 268) C dL_law_268 rfl ?_
  refine x_iconst (v := 5) (pc := 270) C dL_law_270 (by decide) ?_
  refine x_iadd (pc := 271) C dL_law_271 ?_
  refine x_sld (pc := 272) C hi.2.2.2.2 dL_law_272 ?_
  refine x_callV1 (pc := 273) C (mX8_feed E l e2) cl6 c6 cL_28 nX8_feed sX8_feed rfl rfl (Nat.le_of_ble_eq_true rfl) ⟨Nat.le_of_ble_eq_true rfl, Nat.le_of_ble_eq_true rfl, by show kc ≤ 601024; omega, by show ks ≤ 7293034; omega⟩ dL_law_273 ?_
  refine x_icmp_eq (pc := 276) (tgt := 1568) C dL_law_276 (by decide) (fun _ => ?_) (fun q => absurd rfl q)
  exact x_wide (by omega) (by omega) (kk ω hj2)
theorem k_281 (C : Cx E p s m args meth c RL cL_law 7) (hV : KV E s) (hf : l.stackTraces = false) {i : Int32} (hi : InS E i) {kc ks : Nat} {σ : Sg} (hj : Jx σ) (hR : kc + 1 ≤ 601024 ∧ ks + 6 ≤ 7293034) (kk : ∀ ω, Jx ω → X E p l e room_1 s m args below meth c Q 7 (kc + 1) (ks + 6) ω 1568 (LL E i) []) : X E p l e room_1 s m args below meth c Q 7 kc ks σ 281 (LL E i) [] := by
  obtain ⟨hk, hs⟩ := hR
  obtain ⟨r, υ, ω, e1, e2, hj2⟩ := sj_s hj (fun b W tn fl n k h => s_text h (wS E (i + 1)))
  have c5 := c5_of hj.fin
  have c6 : ckO υ 6 51 = true := by
    have e9 := e2
    unfold DX8_text at e9
    exact (chk_s e9).1
  refine x_aload_n (pc := 281) C dL_law_281 rfl rfl ?_
  refine x_aload_n (pc := 282) C dL_law_282 rfl rfl ?_
  refine x_iload (pc := 283) C dL_law_283 rfl ?_
  refine x_iconst (v := 1) (pc := 285) C dL_law_285 (by decide) ?_
  refine x_iadd (pc := 286) C dL_law_286 ?_
  refine x_sld (pc := 287) C hi.1 dL_law_287 ?_
  refine x_callV1 (pc := 288) C (mX7_text E l e1) cl5 c5 cL_29 nX7_text sX7_text rfl rfl (Nat.le_of_ble_eq_true rfl) ⟨Nat.le_of_ble_eq_true rfl, Nat.le_of_ble_eq_true rfl, by show kc ≤ 601024; omega, by show ks ≤ 7293034; omega⟩ dL_law_288 ?_
  refine x_aload_n (pc := 291) C dL_law_291 rfl rfl ?_
  refine x_aload_n (pc := 292) C dL_law_292 rfl rfl ?_
  refine x_iload (pc := 293) C dL_law_293 rfl ?_
  refine x_iconst (v := 1) (pc := 295) C dL_law_295 (by decide) ?_
  refine x_iadd (pc := 296) C dL_law_296 ?_
  refine x_sld (pc := 297) C hi.1 dL_law_297 ?_
  refine x_callV1 (pc := 298) C (mX8_text E l e2) cl6 c6 cL_33 nX8_text sX8_text rfl rfl (Nat.le_of_ble_eq_true rfl) ⟨Nat.le_of_ble_eq_true rfl, Nat.le_of_ble_eq_true rfl, by show kc ≤ 601024; omega, by show ks ≤ 7293034; omega⟩ dL_law_298 ?_
  refine x_icmp_eq (pc := 301) (tgt := 1568) C dL_law_301 (by decide) (fun _ => ?_) (fun q => absurd rfl q)
  exact x_wide (by omega) (by omega) (kk ω hj2)
theorem k_306 (C : Cx E p s m args meth c RL cL_law 7) (hV : KV E s) (hf : l.stackTraces = false) {i : Int32} (hi : InS E i) {kc ks : Nat} {σ : Sg} (hj : Jx σ) (hR : kc + 1 ≤ 601024 ∧ ks + 6 ≤ 7293034) (kk : ∀ ω, Jx ω → X E p l e room_1 s m args below meth c Q 7 (kc + 1) (ks + 6) ω 1568 (LL E i) []) : X E p l e room_1 s m args below meth c Q 7 kc ks σ 306 (LL E i) [] := by
  obtain ⟨hk, hs⟩ := hR
  obtain ⟨r, υ, ω, e1, e2, hj2⟩ := sj_q hj (fun b W tn fl n k h => q_fault h.i h.t.2.1 h.t.2.2 (wS E (i + 1)))
  have c5 := c5_of hj.fin
  have c6 : ckO υ 6 51 = true := by
    have e9 := e2
    unfold DX8_fault at e9
    exact (chk_s e9).1
  refine x_aload_n (pc := 306) C dL_law_306 rfl rfl ?_
  refine x_aload_n (pc := 307) C dL_law_307 rfl rfl ?_
  refine x_iload (pc := 308) C dL_law_308 rfl ?_
  refine x_iconst (v := 1) (pc := 310) C dL_law_310 (by decide) ?_
  refine x_iadd (pc := 311) C dL_law_311 ?_
  refine x_sld (pc := 312) C hi.1 dL_law_312 ?_
  refine x_callV1 (pc := 313) C (mX7_fault E l e1) cl5 c5 cL_34 nX7_fault sX7_fault rfl rfl (Nat.le_of_ble_eq_true rfl) ⟨Nat.le_of_ble_eq_true rfl, Nat.le_of_ble_eq_true rfl, by show kc ≤ 601024; omega, by show ks ≤ 7293034; omega⟩ dL_law_313 ?_
  refine x_aload_n (pc := 316) C dL_law_316 rfl rfl ?_
  refine x_aload_n (pc := 317) C dL_law_317 rfl rfl ?_
  refine x_iload (pc := 318) C dL_law_318 rfl ?_
  refine x_iconst (v := 1) (pc := 320) C dL_law_320 (by decide) ?_
  refine x_iadd (pc := 321) C dL_law_321 ?_
  refine x_sld (pc := 322) C hi.1 dL_law_322 ?_
  refine x_callV1 (pc := 323) C (mX8_fault E l e2) cl6 c6 cL_37 nX8_fault sX8_fault rfl rfl (Nat.le_of_ble_eq_true rfl) ⟨Nat.le_of_ble_eq_true rfl, Nat.le_of_ble_eq_true rfl, by show kc ≤ 601024; omega, by show ks ≤ 7293034; omega⟩ dL_law_323 ?_
  refine x_icmp_eq (pc := 326) (tgt := 1568) C dL_law_326 (by decide) (fun _ => ?_) (fun q => absurd rfl q)
  exact x_wide (by omega) (by omega) (kk ω hj2)
theorem k_331 (C : Cx E p s m args meth c RL cL_law 7) (hV : KV E s) (hf : l.stackTraces = false) {i : Int32} (hi : InS E i) {kc ks : Nat} {σ : Sg} (hj : Jx σ) (hR : kc + 1 ≤ 601024 ∧ ks + 6 ≤ 7293034) (kk : ∀ ω, Jx ω → X E p l e room_1 s m args below meth c Q 7 (kc + 1) (ks + 6) ω 1568 (LL E i) []) : X E p l e room_1 s m args below meth c Q 7 kc ks σ 331 (LL E i) [] := by
  obtain ⟨hk, hs⟩ := hR
  obtain ⟨r, υ, ω, e1, e2, hj2⟩ := sj_q hj (fun b W tn fl n k h => q_miles h.i (wS E (i + 1)) (wS E (i + 2)))
  have c5 := c5_of hj.fin
  have c6 : ckO υ 6 51 = true := by
    have e9 := e2
    unfold DX8_miles at e9
    exact (chk_s e9).1
  refine x_aload_n (pc := 331) C dL_law_331 rfl rfl ?_
  refine x_aload_n (pc := 332) C dL_law_332 rfl rfl ?_
  refine x_iload (pc := 333) C dL_law_333 rfl ?_
  refine x_iconst (v := 1) (pc := 335) C dL_law_335 (by decide) ?_
  refine x_iadd (pc := 336) C dL_law_336 ?_
  refine x_sld (pc := 337) C hi.1 dL_law_337 ?_
  refine x_aload_n (pc := 338) C dL_law_338 rfl rfl ?_
  refine x_iload (pc := 339) C dL_law_339 rfl ?_
  refine x_iconst (v := 2) (pc := 341) C dL_law_341 (by decide) ?_
  refine x_iadd (pc := 342) C dL_law_342 ?_
  refine x_sld (pc := 343) C hi.2.1 dL_law_343 ?_
  refine x_callV1 (pc := 344) C (mX7_miles E l e1) cl5 c5 cL_38 nX7_miles sX7_miles rfl rfl (Nat.le_of_ble_eq_true rfl) ⟨Nat.le_of_ble_eq_true rfl, Nat.le_of_ble_eq_true rfl, by show kc ≤ 601024; omega, by show ks ≤ 7293034; omega⟩ dL_law_344 ?_
  refine x_aload_n (pc := 347) C dL_law_347 rfl rfl ?_
  refine x_aload_n (pc := 348) C dL_law_348 rfl rfl ?_
  refine x_iload (pc := 349) C dL_law_349 rfl ?_
  refine x_iconst (v := 1) (pc := 351) C dL_law_351 (by decide) ?_
  refine x_iadd (pc := 352) C dL_law_352 ?_
  refine x_sld (pc := 353) C hi.1 dL_law_353 ?_
  refine x_aload_n (pc := 354) C dL_law_354 rfl rfl ?_
  refine x_iload (pc := 355) C dL_law_355 rfl ?_
  refine x_iconst (v := 2) (pc := 357) C dL_law_357 (by decide) ?_
  refine x_iadd (pc := 358) C dL_law_358 ?_
  refine x_sld (pc := 359) C hi.2.1 dL_law_359 ?_
  refine x_callV1 (pc := 360) C (mX8_miles E l e2) cl6 c6 cL_41 nX8_miles sX8_miles rfl rfl (Nat.le_of_ble_eq_true rfl) ⟨Nat.le_of_ble_eq_true rfl, Nat.le_of_ble_eq_true rfl, by show kc ≤ 601024; omega, by show ks ≤ 7293034; omega⟩ dL_law_360 ?_
  refine x_icmp_eq (pc := 363) (tgt := 1568) C dL_law_363 (by decide) (fun _ => ?_) (fun q => absurd rfl q)
  exact x_wide (by omega) (by omega) (kk ω hj2)
theorem k_368 (C : Cx E p s m args meth c RL cL_law 7) (hV : KV E s) (hf : l.stackTraces = false) {i : Int32} (hi : InS E i) {kc ks : Nat} {σ : Sg} (hj : Jx σ) (hR : kc + 1 ≤ 601024 ∧ ks + 6 ≤ 7293034) (kk : ∀ ω, Jx ω → X E p l e room_1 s m args below meth c Q 7 (kc + 1) (ks + 6) ω 1568 (LL E i) []) : X E p l e room_1 s m args below meth c Q 7 kc ks σ 368 (LL E i) [] := by
  obtain ⟨hk, hs⟩ := hR
  obtain ⟨r, υ, ω, e1, e2, hj2⟩ := sj_q hj (fun b W tn fl n k h => q_way h.i h.d (wS E (i + 1)) (wS E (i + 2)) (wS E (i + 3)))
  have c5 := c5_of hj.fin
  have c6 : ckO υ 6 51 = true := by
    have e9 := e2
    unfold DX8_way at e9
    exact (chk_s e9).1
  refine x_aload_n (pc := 368) C dL_law_368 rfl rfl ?_
  refine x_aload_n (pc := 369) C dL_law_369 rfl rfl ?_
  refine x_iload (pc := 370) C dL_law_370 rfl ?_
  refine x_iconst (v := 1) (pc := 372) C dL_law_372 (by decide) ?_
  refine x_iadd (pc := 373) C dL_law_373 ?_
  refine x_sld (pc := 374) C hi.1 dL_law_374 ?_
  refine x_aload_n (pc := 375) C dL_law_375 rfl rfl ?_
  refine x_iload (pc := 376) C dL_law_376 rfl ?_
  refine x_iconst (v := 2) (pc := 378) C dL_law_378 (by decide) ?_
  refine x_iadd (pc := 379) C dL_law_379 ?_
  refine x_sld (pc := 380) C hi.2.1 dL_law_380 ?_
  refine x_aload_n (pc := 381) C dL_law_381 rfl rfl ?_
  refine x_iload (pc := 382) C dL_law_382 rfl ?_
  refine x_iconst (v := 3) (pc := 384) C dL_law_384 (by decide) ?_
  refine x_iadd (pc := 385) C dL_law_385 ?_
  refine x_sld (pc := 386) C hi.2.2.1 dL_law_386 ?_
  refine x_callV1 (pc := 387) C (mX7_way E l e1) cl5 c5 cL_42 nX7_way sX7_way rfl rfl (Nat.le_of_ble_eq_true rfl) ⟨Nat.le_of_ble_eq_true rfl, Nat.le_of_ble_eq_true rfl, by show kc ≤ 601024; omega, by show ks ≤ 7293034; omega⟩ dL_law_387 ?_
  refine x_aload_n (pc := 390) C dL_law_390 rfl rfl ?_
  refine x_aload_n (pc := 391) C dL_law_391 rfl rfl ?_
  refine x_iload (pc := 392) C dL_law_392 rfl ?_
  refine x_iconst (v := 1) (pc := 394) C dL_law_394 (by decide) ?_
  refine x_iadd (pc := 395) C dL_law_395 ?_
  refine x_sld (pc := 396) C hi.1 dL_law_396 ?_
  refine x_aload_n (pc := 397) C dL_law_397 rfl rfl ?_
  refine x_iload (pc := 398) C dL_law_398 rfl ?_
  refine x_iconst (v := 2) (pc := 400) C dL_law_400 (by decide) ?_
  refine x_iadd (pc := 401) C dL_law_401 ?_
  refine x_sld (pc := 402) C hi.2.1 dL_law_402 ?_
  refine x_aload_n (pc := 403) C dL_law_403 rfl rfl ?_
  refine x_iload (pc := 404) C dL_law_404 rfl ?_
  refine x_iconst (v := 3) (pc := 406) C dL_law_406 (by decide) ?_
  refine x_iadd (pc := 407) C dL_law_407 ?_
  refine x_sld (pc := 408) C hi.2.2.1 dL_law_408 ?_
  refine x_callV1 (pc := 409) C (mX8_way E l e2) cl6 c6 cL_46 nX8_way sX8_way rfl rfl (Nat.le_of_ble_eq_true rfl) ⟨Nat.le_of_ble_eq_true rfl, Nat.le_of_ble_eq_true rfl, by show kc ≤ 601024; omega, by show ks ≤ 7293034; omega⟩ dL_law_409 ?_
  refine x_icmp_eq (pc := 412) (tgt := 1568) C dL_law_412 (by decide) (fun _ => ?_) (fun q => absurd rfl q)
  exact x_wide (by omega) (by omega) (kk ω hj2)
theorem k_417 (C : Cx E p s m args meth c RL cL_law 7) (hV : KV E s) (hf : l.stackTraces = false) {i : Int32} (hi : InS E i) {kc ks : Nat} {σ : Sg} (hj : Jx σ) (hR : kc + 1 ≤ 601024 ∧ ks + 6 ≤ 7293034) (kk : ∀ ω, Jx ω → X E p l e room_1 s m args below meth c Q 7 (kc + 1) (ks + 6) ω 1568 (LL E i) []) : X E p l e room_1 s m args below meth c Q 7 kc ks σ 417 (LL E i) [] := by
  obtain ⟨hk, hs⟩ := hR
  obtain ⟨r, υ, ω, e1, e2, hj2⟩ := sj_q hj (fun b W tn fl n k h => q_weight h.i (wS E (i + 1)))
  have c5 := c5_of hj.fin
  have c6 : ckO υ 6 51 = true := by
    have e9 := e2
    unfold DX8_weight at e9
    exact (chk_s e9).1
  refine x_aload_n (pc := 417) C dL_law_417 rfl rfl ?_
  refine x_aload_n (pc := 418) C dL_law_418 rfl rfl ?_
  refine x_iload (pc := 419) C dL_law_419 rfl ?_
  refine x_iconst (v := 1) (pc := 421) C dL_law_421 (by decide) ?_
  refine x_iadd (pc := 422) C dL_law_422 ?_
  refine x_sld (pc := 423) C hi.1 dL_law_423 ?_
  refine x_callV1 (pc := 424) C (mX7_weight E l e1) cl5 c5 cL_47 nX7_weight sX7_weight rfl rfl (Nat.le_of_ble_eq_true rfl) ⟨Nat.le_of_ble_eq_true rfl, Nat.le_of_ble_eq_true rfl, by show kc ≤ 601024; omega, by show ks ≤ 7293034; omega⟩ dL_law_424 ?_
  refine x_aload_n (pc := 427) C dL_law_427 rfl rfl ?_
  refine x_aload_n (pc := 428) C dL_law_428 rfl rfl ?_
  refine x_iload (pc := 429) C dL_law_429 rfl ?_
  refine x_iconst (v := 1) (pc := 431) C dL_law_431 (by decide) ?_
  refine x_iadd (pc := 432) C dL_law_432 ?_
  refine x_sld (pc := 433) C hi.1 dL_law_433 ?_
  refine x_callV1 (pc := 434) C (mX8_weight E l e2) cl6 c6 cL_50 nX8_weight sX8_weight rfl rfl (Nat.le_of_ble_eq_true rfl) ⟨Nat.le_of_ble_eq_true rfl, Nat.le_of_ble_eq_true rfl, by show kc ≤ 601024; omega, by show ks ≤ 7293034; omega⟩ dL_law_434 ?_
  refine x_icmp_eq (pc := 437) (tgt := 1568) C dL_law_437 (by decide) (fun _ => ?_) (fun q => absurd rfl q)
  exact x_wide (by omega) (by omega) (kk ω hj2)
theorem k_442 (C : Cx E p s m args meth c RL cL_law 7) (hV : KV E s) (hf : l.stackTraces = false) {i : Int32} (hi : InS E i) {kc ks : Nat} {σ : Sg} (hj : Jx σ) (hR : kc + 1 ≤ 601024 ∧ ks + 6 ≤ 7293034) (kk : ∀ ω, Jx ω → X E p l e room_1 s m args below meth c Q 7 (kc + 1) (ks + 6) ω 1568 (LL E i) []) : X E p l e room_1 s m args below meth c Q 7 kc ks σ 442 (LL E i) [] := by
  obtain ⟨hk, hs⟩ := hR
  obtain ⟨r, υ, ω, e1, e2, hj2⟩ := sj_q hj (fun b W tn fl n k h => q_base h.i (wS E (i + 1)) (wS E (i + 2)) (wS E (i + 3)))
  have c5 := c5_of hj.fin
  have c6 : ckO υ 6 51 = true := by
    have e9 := e2
    unfold DX8_base at e9
    exact (chk_s e9).1
  refine x_aload_n (pc := 442) C dL_law_442 rfl rfl ?_
  refine x_aload_n (pc := 443) C dL_law_443 rfl rfl ?_
  refine x_iload (pc := 444) C dL_law_444 rfl ?_
  refine x_iconst (v := 1) (pc := 446) C dL_law_446 (by decide) ?_
  refine x_iadd (pc := 447) C dL_law_447 ?_
  refine x_sld (pc := 448) C hi.1 dL_law_448 ?_
  refine x_aload_n (pc := 449) C dL_law_449 rfl rfl ?_
  refine x_iload (pc := 450) C dL_law_450 rfl ?_
  refine x_iconst (v := 2) (pc := 452) C dL_law_452 (by decide) ?_
  refine x_iadd (pc := 453) C dL_law_453 ?_
  refine x_sld (pc := 454) C hi.2.1 dL_law_454 ?_
  refine x_aload_n (pc := 455) C dL_law_455 rfl rfl ?_
  refine x_iload (pc := 456) C dL_law_456 rfl ?_
  refine x_iconst (v := 3) (pc := 458) C dL_law_458 (by decide) ?_
  refine x_iadd (pc := 459) C dL_law_459 ?_
  refine x_sld (pc := 460) C hi.2.2.1 dL_law_460 ?_
  refine x_callV1 (pc := 461) C (mX7_base E l e1) cl5 c5 cL_51 nX7_base sX7_base rfl rfl (Nat.le_of_ble_eq_true rfl) ⟨Nat.le_of_ble_eq_true rfl, Nat.le_of_ble_eq_true rfl, by show kc ≤ 601024; omega, by show ks ≤ 7293034; omega⟩ dL_law_461 ?_
  refine x_aload_n (pc := 464) C dL_law_464 rfl rfl ?_
  refine x_aload_n (pc := 465) C dL_law_465 rfl rfl ?_
  refine x_iload (pc := 466) C dL_law_466 rfl ?_
  refine x_iconst (v := 1) (pc := 468) C dL_law_468 (by decide) ?_
  refine x_iadd (pc := 469) C dL_law_469 ?_
  refine x_sld (pc := 470) C hi.1 dL_law_470 ?_
  refine x_aload_n (pc := 471) C dL_law_471 rfl rfl ?_
  refine x_iload (pc := 472) C dL_law_472 rfl ?_
  refine x_iconst (v := 2) (pc := 474) C dL_law_474 (by decide) ?_
  refine x_iadd (pc := 475) C dL_law_475 ?_
  refine x_sld (pc := 476) C hi.2.1 dL_law_476 ?_
  refine x_aload_n (pc := 477) C dL_law_477 rfl rfl ?_
  refine x_iload (pc := 478) C dL_law_478 rfl ?_
  refine x_iconst (v := 3) (pc := 480) C dL_law_480 (by decide) ?_
  refine x_iadd (pc := 481) C dL_law_481 ?_
  refine x_sld (pc := 482) C hi.2.2.1 dL_law_482 ?_
  refine x_callV1 (pc := 483) C (mX8_base E l e2) cl6 c6 cL_54 nX8_base sX8_base rfl rfl (Nat.le_of_ble_eq_true rfl) ⟨Nat.le_of_ble_eq_true rfl, Nat.le_of_ble_eq_true rfl, by show kc ≤ 601024; omega, by show ks ≤ 7293034; omega⟩ dL_law_483 ?_
  refine x_icmp_eq (pc := 486) (tgt := 1568) C dL_law_486 (by decide) (fun _ => ?_) (fun q => absurd rfl q)
  exact x_wide (by omega) (by omega) (kk ω hj2)
theorem k_491 (C : Cx E p s m args meth c RL cL_law 7) (hV : KV E s) (hf : l.stackTraces = false) {i : Int32} (hi : InS E i) {kc ks : Nat} {σ : Sg} (hj : Jx σ) (hR : kc + 1 ≤ 601024 ∧ ks + 6 ≤ 7293034) (kk : ∀ ω, Jx ω → X E p l e room_1 s m args below meth c Q 7 (kc + 1) (ks + 6) ω 1568 (LL E i) []) : X E p l e room_1 s m args below meth c Q 7 kc ks σ 491 (LL E i) [] := by
  obtain ⟨hk, hs⟩ := hR
  obtain ⟨b, W, tn, fl, n, f, hJ⟩ := hj
  obtain ⟨r, υ, x, ω, e1, e2, e3, e4, hj2⟩ := s_proviso hJ (wS E (i + 1)) (wS E (i + 2))
  have c6 : ckO υ 6 51 = true := by
    have e9 := e2
    unfold DX8_proviso at e9
    exact (chk_s e9).1
  refine x_aload_n (pc := 491) C dL_law_491 rfl rfl ?_
  refine x_aload_n (pc := 492) C dL_law_492 rfl rfl ?_
  refine x_iload (pc := 493) C dL_law_493 rfl ?_
  refine x_iconst (v := 1) (pc := 495) C dL_law_495 (by decide) ?_
  refine x_iadd (pc := 496) C dL_law_496 ?_
  refine x_sld (pc := 497) C hi.1 dL_law_497 ?_
  refine x_aload_n (pc := 498) C dL_law_498 rfl rfl ?_
  refine x_iload (pc := 499) C dL_law_499 rfl ?_
  refine x_iconst (v := 2) (pc := 501) C dL_law_501 (by decide) ?_
  refine x_iadd (pc := 502) C dL_law_502 ?_
  refine x_sld (pc := 503) C hi.2.1 dL_law_503 ?_
  refine x_aload_n (pc := 504) C dL_law_504 rfl rfl ?_
  refine x_callSX (k := 4) (pc := 505) C hV (mL_proviso E l hf e1) (tG 1162 (by decide +kernel) rfl) (tG 1164 (by decide +kernel) rfl) (tG 1163 (by decide +kernel) rfl) ⟨tG 176 (by decide +kernel) rfl, by decide, by decide +kernel⟩ rfl rfl (Nat.le_of_ble_eq_true rfl) ⟨Nat.le_of_ble_eq_true rfl, Nat.le_of_ble_eq_true rfl, by show kc + 1 ≤ 601024; omega, by show ks + 6 ≤ 7293034; omega⟩ dL_law_505 ?_
  refine x_istore (M := [some _, some _, some _, some _, some _, some _, none]) (pc := 508) C dL_law_508 (by decide) rfl ?_
  refine x_aload_n (pc := 510) C dL_law_510 rfl rfl ?_
  refine x_aload_n (pc := 511) C dL_law_511 rfl rfl ?_
  refine x_iload (pc := 512) C dL_law_512 rfl ?_
  refine x_iconst (v := 1) (pc := 514) C dL_law_514 (by decide) ?_
  refine x_iadd (pc := 515) C dL_law_515 ?_
  refine x_sld (pc := 516) C hi.1 dL_law_516 ?_
  refine x_aload_n (pc := 517) C dL_law_517 rfl rfl ?_
  refine x_iload (pc := 518) C dL_law_518 rfl ?_
  refine x_iconst (v := 2) (pc := 520) C dL_law_520 (by decide) ?_
  refine x_iadd (pc := 521) C dL_law_521 ?_
  refine x_sld (pc := 522) C hi.2.1 dL_law_522 ?_
  refine x_callV1 (pc := 523) C (mX8_proviso E l e2) cl6 c6 cL_60 nX8_proviso sX8_proviso rfl rfl (Nat.le_of_ble_eq_true rfl) ⟨Nat.le_of_ble_eq_true rfl, Nat.le_of_ble_eq_true rfl, by show kc + 1 ≤ 601024; omega, by show ks + 6 ≤ 7293034; omega⟩ dL_law_523 ?_
  refine x_istore (M := [some _, some _, some _, some _, some _, some _, some _]) (pc := 526) C dL_law_526 (by decide) rfl ?_
  refine x_aload_n (pc := 528) C dL_law_528 rfl rfl ?_
  have c7 := c6_of (Jx.fin hj2)
  have e5 : DX8_thrown 51 ω = some (gI ω 51 0, ω) := by unfold DX8_thrown; rw [c7]; rfl
  refine x_callV1 (pc := 529) C (mX8_thrown E l e5) cl6 c7 cL_61 nX8_thrown sX8_thrown rfl rfl (Nat.le_of_ble_eq_true rfl) ⟨Nat.le_of_ble_eq_true rfl, Nat.le_of_ble_eq_true rfl, by show kc + 1 ≤ 601024; omega, by show ks + 6 ≤ 7293034; omega⟩ dL_law_529 ?_
  refine x_iload (pc := 532) C dL_law_532 rfl ?_
  refine x_icmp_eq (pc := 534) (tgt := 539) C dL_law_534 (by decide) (fun _ => ?_) (fun q => absurd e3 q)
  refine x_iload (pc := 539) C dL_law_539 rfl ?_
  refine x_if_ne (pc := 541) (tgt := 556) C dL_law_541 (by decide) (fun q => ?_) (fun q => ?_)
  · have c8 := c8_of (Jx.fin hj2)
    refine x_aload_n (pc := 544) C dL_law_544 rfl rfl ?_
    refine x_iconst (v := 0) (pc := 545) C dL_law_545 (by decide) ?_
    refine x_lald (pc := 546) C c8 dL_law_546 ?_
    refine x_iload (pc := 547) C dL_law_547 rfl ?_
    refine x_i2l (pc := 549) C dL_law_549 ?_
    refine x_lcmp (pc := 550) C dL_law_550 ?_
    refine x_lif_eq (pc := 551) (tgt := 556) C dL_law_551 (by decide) (fun _ => ?_) (fun z => absurd (e4 q) z)
    refine x_goto (pc := 556) (tgt := 1568) C dL_law_556 (by decide) ?_
    exact x_sub (x_wide (by omega) (by omega) (kk ω hj2)) (xLe_s (xLe_s (xLe_s (xLe_s (xLe_s (xLe_n (xLe_n xLe_0)))))))
  · skip
    refine x_goto (pc := 556) (tgt := 1568) C dL_law_556 (by decide) ?_
    exact x_sub (x_wide (by omega) (by omega) (kk ω hj2)) (xLe_s (xLe_s (xLe_s (xLe_s (xLe_s (xLe_n (xLe_n xLe_0)))))))
theorem k_559 (C : Cx E p s m args meth c RL cL_law 7) (hV : KV E s) (hf : l.stackTraces = false) {i : Int32} (hi : InS E i) {kc ks : Nat} {σ : Sg} (hj : Jx σ) (hR : kc + 1 ≤ 601024 ∧ ks + 6 ≤ 7293034) (kk : ∀ ω, Jx ω → X E p l e room_1 s m args below meth c Q 7 (kc + 1) (ks + 6) ω 1568 (LL E i) []) : X E p l e room_1 s m args below meth c Q 7 kc ks σ 559 (LL E i) [] := by
  obtain ⟨hk, hs⟩ := hR
  obtain ⟨b, W, tn, fl, n, f, hJ⟩ := hj
  obtain ⟨r, υ, x, ω, e1, e2, e3, e4, hj2⟩ := s_ticket hJ (wS E (i + 1)) (wS E (i + 2))
  have c6 : ckO υ 6 51 = true := by
    have e9 := e2
    unfold DX8_ticket at e9
    exact (chk_s e9).1
  refine x_aload_n (pc := 559) C dL_law_559 rfl rfl ?_
  refine x_aload_n (pc := 560) C dL_law_560 rfl rfl ?_
  refine x_iload (pc := 561) C dL_law_561 rfl ?_
  refine x_iconst (v := 1) (pc := 563) C dL_law_563 (by decide) ?_
  refine x_iadd (pc := 564) C dL_law_564 ?_
  refine x_sld (pc := 565) C hi.1 dL_law_565 ?_
  refine x_aload_n (pc := 566) C dL_law_566 rfl rfl ?_
  refine x_iload (pc := 567) C dL_law_567 rfl ?_
  refine x_iconst (v := 2) (pc := 569) C dL_law_569 (by decide) ?_
  refine x_iadd (pc := 570) C dL_law_570 ?_
  refine x_sld (pc := 571) C hi.2.1 dL_law_571 ?_
  refine x_aload_n (pc := 572) C dL_law_572 rfl rfl ?_
  refine x_callSX (k := 4) (pc := 573) C hV (mL_ticket E l hf e1) (tG 1258 (by decide +kernel) rfl) (tG 1260 (by decide +kernel) rfl) (tG 1259 (by decide +kernel) rfl) ⟨tG 176 (by decide +kernel) rfl, by decide, by decide +kernel⟩ rfl rfl (Nat.le_of_ble_eq_true rfl) ⟨Nat.le_of_ble_eq_true rfl, Nat.le_of_ble_eq_true rfl, by show kc + 1 ≤ 601024; omega, by show ks + 6 ≤ 7293034; omega⟩ dL_law_573 ?_
  refine x_istore (M := [some _, some _, some _, some _, some _, some _, none]) (pc := 576) C dL_law_576 (by decide) rfl ?_
  refine x_aload_n (pc := 578) C dL_law_578 rfl rfl ?_
  refine x_aload_n (pc := 579) C dL_law_579 rfl rfl ?_
  refine x_iload (pc := 580) C dL_law_580 rfl ?_
  refine x_iconst (v := 1) (pc := 582) C dL_law_582 (by decide) ?_
  refine x_iadd (pc := 583) C dL_law_583 ?_
  refine x_sld (pc := 584) C hi.1 dL_law_584 ?_
  refine x_aload_n (pc := 585) C dL_law_585 rfl rfl ?_
  refine x_iload (pc := 586) C dL_law_586 rfl ?_
  refine x_iconst (v := 2) (pc := 588) C dL_law_588 (by decide) ?_
  refine x_iadd (pc := 589) C dL_law_589 ?_
  refine x_sld (pc := 590) C hi.2.1 dL_law_590 ?_
  refine x_callV1 (pc := 591) C (mX8_ticket E l e2) cl6 c6 cL_67 nX8_ticket sX8_ticket rfl rfl (Nat.le_of_ble_eq_true rfl) ⟨Nat.le_of_ble_eq_true rfl, Nat.le_of_ble_eq_true rfl, by show kc + 1 ≤ 601024; omega, by show ks + 6 ≤ 7293034; omega⟩ dL_law_591 ?_
  refine x_istore (M := [some _, some _, some _, some _, some _, some _, some _]) (pc := 594) C dL_law_594 (by decide) rfl ?_
  refine x_aload_n (pc := 596) C dL_law_596 rfl rfl ?_
  have c7 := c6_of (Jx.fin hj2)
  have e5 : DX8_thrown 51 ω = some (gI ω 51 0, ω) := by unfold DX8_thrown; rw [c7]; rfl
  refine x_callV1 (pc := 597) C (mX8_thrown E l e5) cl6 c7 cL_61 nX8_thrown sX8_thrown rfl rfl (Nat.le_of_ble_eq_true rfl) ⟨Nat.le_of_ble_eq_true rfl, Nat.le_of_ble_eq_true rfl, by show kc + 1 ≤ 601024; omega, by show ks + 6 ≤ 7293034; omega⟩ dL_law_597 ?_
  refine x_iload (pc := 600) C dL_law_600 rfl ?_
  refine x_icmp_eq (pc := 602) (tgt := 607) C dL_law_602 (by decide) (fun _ => ?_) (fun q => absurd e3 q)
  refine x_iload (pc := 607) C dL_law_607 rfl ?_
  refine x_if_ne (pc := 609) (tgt := 624) C dL_law_609 (by decide) (fun q => ?_) (fun q => ?_)
  · have c8 := c8_of (Jx.fin hj2)
    refine x_aload_n (pc := 612) C dL_law_612 rfl rfl ?_
    refine x_iconst (v := 0) (pc := 613) C dL_law_613 (by decide) ?_
    refine x_lald (pc := 614) C c8 dL_law_614 ?_
    refine x_iload (pc := 615) C dL_law_615 rfl ?_
    refine x_i2l (pc := 617) C dL_law_617 ?_
    refine x_lcmp (pc := 618) C dL_law_618 ?_
    refine x_lif_eq (pc := 619) (tgt := 624) C dL_law_619 (by decide) (fun _ => ?_) (fun z => absurd (e4 q) z)
    refine x_goto (pc := 624) (tgt := 1568) C dL_law_624 (by decide) ?_
    exact x_sub (x_wide (by omega) (by omega) (kk ω hj2)) (xLe_s (xLe_s (xLe_s (xLe_s (xLe_s (xLe_n (xLe_n xLe_0)))))))
  · skip
    refine x_goto (pc := 624) (tgt := 1568) C dL_law_624 (by decide) ?_
    exact x_sub (x_wide (by omega) (by omega) (kk ω hj2)) (xLe_s (xLe_s (xLe_s (xLe_s (xLe_s (xLe_n (xLe_n xLe_0)))))))
theorem k_627 (C : Cx E p s m args meth c RL cL_law 7) (hV : KV E s) (hf : l.stackTraces = false) {i : Int32} (hi : InS E i) {kc ks : Nat} {σ : Sg} (hj : Jx σ) (hR : kc + 1 ≤ 601024 ∧ ks + 6 ≤ 7293034) (kk : ∀ ω, Jx ω → X E p l e room_1 s m args below meth c Q 7 (kc + 1) (ks + 6) ω 1568 (LL E i) []) : X E p l e room_1 s m args below meth c Q 7 kc ks σ 627 (LL E i) [] := by
  obtain ⟨hk, hs⟩ := hR
  obtain ⟨r, υ, ω, e1, e2, hj2⟩ := sj_q hj (fun b W tn fl n k h => q_coupon h.i (wS E (i + 1)) (wS E (i + 2)) (wS E (i + 3)))
  have c5 := c5_of hj.fin
  have c6 : ckO υ 6 51 = true := by
    have e9 := e2
    unfold DX8_coupon at e9
    exact (chk_s e9).1
  refine x_aload_n (pc := 627) C dL_law_627 rfl rfl ?_
  refine x_aload_n (pc := 628) C dL_law_628 rfl rfl ?_
  refine x_iload (pc := 629) C dL_law_629 rfl ?_
  refine x_iconst (v := 1) (pc := 631) C dL_law_631 (by decide) ?_
  refine x_iadd (pc := 632) C dL_law_632 ?_
  refine x_sld (pc := 633) C hi.1 dL_law_633 ?_
  refine x_aload_n (pc := 634) C dL_law_634 rfl rfl ?_
  refine x_iload (pc := 635) C dL_law_635 rfl ?_
  refine x_iconst (v := 2) (pc := 637) C dL_law_637 (by decide) ?_
  refine x_iadd (pc := 638) C dL_law_638 ?_
  refine x_sld (pc := 639) C hi.2.1 dL_law_639 ?_
  refine x_aload_n (pc := 640) C dL_law_640 rfl rfl ?_
  refine x_iload (pc := 641) C dL_law_641 rfl ?_
  refine x_iconst (v := 3) (pc := 643) C dL_law_643 (by decide) ?_
  refine x_iadd (pc := 644) C dL_law_644 ?_
  refine x_sld (pc := 645) C hi.2.2.1 dL_law_645 ?_
  refine x_callV1 (pc := 646) C (mX7_coupon E l e1) cl5 c5 cL_68 nX7_coupon sX7_coupon rfl rfl (Nat.le_of_ble_eq_true rfl) ⟨Nat.le_of_ble_eq_true rfl, Nat.le_of_ble_eq_true rfl, by show kc ≤ 601024; omega, by show ks ≤ 7293034; omega⟩ dL_law_646 ?_
  refine x_aload_n (pc := 649) C dL_law_649 rfl rfl ?_
  refine x_aload_n (pc := 650) C dL_law_650 rfl rfl ?_
  refine x_iload (pc := 651) C dL_law_651 rfl ?_
  refine x_iconst (v := 1) (pc := 653) C dL_law_653 (by decide) ?_
  refine x_iadd (pc := 654) C dL_law_654 ?_
  refine x_sld (pc := 655) C hi.1 dL_law_655 ?_
  refine x_aload_n (pc := 656) C dL_law_656 rfl rfl ?_
  refine x_iload (pc := 657) C dL_law_657 rfl ?_
  refine x_iconst (v := 2) (pc := 659) C dL_law_659 (by decide) ?_
  refine x_iadd (pc := 660) C dL_law_660 ?_
  refine x_sld (pc := 661) C hi.2.1 dL_law_661 ?_
  refine x_aload_n (pc := 662) C dL_law_662 rfl rfl ?_
  refine x_iload (pc := 663) C dL_law_663 rfl ?_
  refine x_iconst (v := 3) (pc := 665) C dL_law_665 (by decide) ?_
  refine x_iadd (pc := 666) C dL_law_666 ?_
  refine x_sld (pc := 667) C hi.2.2.1 dL_law_667 ?_
  refine x_callV1 (pc := 668) C (mX8_coupon E l e2) cl6 c6 cL_71 nX8_coupon sX8_coupon rfl rfl (Nat.le_of_ble_eq_true rfl) ⟨Nat.le_of_ble_eq_true rfl, Nat.le_of_ble_eq_true rfl, by show kc ≤ 601024; omega, by show ks ≤ 7293034; omega⟩ dL_law_668 ?_
  refine x_icmp_eq (pc := 671) (tgt := 1568) C dL_law_671 (by decide) (fun _ => ?_) (fun q => absurd rfl q)
  exact x_wide (by omega) (by omega) (kk ω hj2)
theorem k_676 (C : Cx E p s m args meth c RL cL_law 7) (hV : KV E s) (hf : l.stackTraces = false) {i : Int32} (hi : InS E i) {kc ks : Nat} {σ : Sg} (hj : Jx σ) (hR : kc + 1 ≤ 601024 ∧ ks + 6 ≤ 7293034) (kk : ∀ ω, Jx ω → X E p l e room_1 s m args below meth c Q 7 (kc + 1) (ks + 6) ω 1568 (LL E i) []) : X E p l e room_1 s m args below meth c Q 7 kc ks σ 676 (LL E i) [] := by
  obtain ⟨hk, hs⟩ := hR
  obtain ⟨r, υ, ω, e1, e2, hj2⟩ := sj_q hj (fun b W tn fl n k h => q_share h.i (wS E (i + 1)) (wS E (i + 2)))
  have c5 := c5_of hj.fin
  have c6 : ckO υ 6 51 = true := by
    have e9 := e2
    unfold DX8_share at e9
    exact (chk_s e9).1
  refine x_aload_n (pc := 676) C dL_law_676 rfl rfl ?_
  refine x_aload_n (pc := 677) C dL_law_677 rfl rfl ?_
  refine x_iload (pc := 678) C dL_law_678 rfl ?_
  refine x_iconst (v := 1) (pc := 680) C dL_law_680 (by decide) ?_
  refine x_iadd (pc := 681) C dL_law_681 ?_
  refine x_sld (pc := 682) C hi.1 dL_law_682 ?_
  refine x_aload_n (pc := 683) C dL_law_683 rfl rfl ?_
  refine x_iload (pc := 684) C dL_law_684 rfl ?_
  refine x_iconst (v := 2) (pc := 686) C dL_law_686 (by decide) ?_
  refine x_iadd (pc := 687) C dL_law_687 ?_
  refine x_sld (pc := 688) C hi.2.1 dL_law_688 ?_
  refine x_callV1 (pc := 689) C (mX7_share E l e1) cl5 c5 cL_72 nX7_share sX7_share rfl rfl (Nat.le_of_ble_eq_true rfl) ⟨Nat.le_of_ble_eq_true rfl, Nat.le_of_ble_eq_true rfl, by show kc ≤ 601024; omega, by show ks ≤ 7293034; omega⟩ dL_law_689 ?_
  refine x_aload_n (pc := 692) C dL_law_692 rfl rfl ?_
  refine x_aload_n (pc := 693) C dL_law_693 rfl rfl ?_
  refine x_iload (pc := 694) C dL_law_694 rfl ?_
  refine x_iconst (v := 1) (pc := 696) C dL_law_696 (by decide) ?_
  refine x_iadd (pc := 697) C dL_law_697 ?_
  refine x_sld (pc := 698) C hi.1 dL_law_698 ?_
  refine x_aload_n (pc := 699) C dL_law_699 rfl rfl ?_
  refine x_iload (pc := 700) C dL_law_700 rfl ?_
  refine x_iconst (v := 2) (pc := 702) C dL_law_702 (by decide) ?_
  refine x_iadd (pc := 703) C dL_law_703 ?_
  refine x_sld (pc := 704) C hi.2.1 dL_law_704 ?_
  refine x_callV1 (pc := 705) C (mX8_share E l e2) cl6 c6 cL_75 nX8_share sX8_share rfl rfl (Nat.le_of_ble_eq_true rfl) ⟨Nat.le_of_ble_eq_true rfl, Nat.le_of_ble_eq_true rfl, by show kc ≤ 601024; omega, by show ks ≤ 7293034; omega⟩ dL_law_705 ?_
  refine x_icmp_eq (pc := 708) (tgt := 1568) C dL_law_708 (by decide) (fun _ => ?_) (fun q => absurd rfl q)
  exact x_wide (by omega) (by omega) (kk ω hj2)
theorem k_713 (C : Cx E p s m args meth c RL cL_law 7) (hV : KV E s) (hf : l.stackTraces = false) {i : Int32} (hi : InS E i) {kc ks : Nat} {σ : Sg} (hj : Jx σ) (hR : kc + 1 ≤ 601024 ∧ ks + 6 ≤ 7293034) (kk : ∀ ω, Jx ω → X E p l e room_1 s m args below meth c Q 7 (kc + 1) (ks + 6) ω 1568 (LL E i) []) : X E p l e room_1 s m args below meth c Q 7 kc ks σ 713 (LL E i) [] := by
  obtain ⟨hk, hs⟩ := hR
  obtain ⟨r, υ, ω, e1, e2, hj2⟩ := sj_q hj (fun b W tn fl n k h => q_carried h.i (wS E (i + 1)) (wS E (i + 2)))
  have c5 := c5_of hj.fin
  have c6 : ckO υ 6 51 = true := by
    have e9 := e2
    unfold DX8_carried at e9
    exact (chk_s e9).1
  refine x_aload_n (pc := 713) C dL_law_713 rfl rfl ?_
  refine x_aload_n (pc := 714) C dL_law_714 rfl rfl ?_
  refine x_iload (pc := 715) C dL_law_715 rfl ?_
  refine x_iconst (v := 1) (pc := 717) C dL_law_717 (by decide) ?_
  refine x_iadd (pc := 718) C dL_law_718 ?_
  refine x_sld (pc := 719) C hi.1 dL_law_719 ?_
  refine x_aload_n (pc := 720) C dL_law_720 rfl rfl ?_
  refine x_iload (pc := 721) C dL_law_721 rfl ?_
  refine x_iconst (v := 2) (pc := 723) C dL_law_723 (by decide) ?_
  refine x_iadd (pc := 724) C dL_law_724 ?_
  refine x_sld (pc := 725) C hi.2.1 dL_law_725 ?_
  refine x_callV1 (pc := 726) C (mX7_carried E l e1) cl5 c5 cL_76 nX7_carried sX7_carried rfl rfl (Nat.le_of_ble_eq_true rfl) ⟨Nat.le_of_ble_eq_true rfl, Nat.le_of_ble_eq_true rfl, by show kc ≤ 601024; omega, by show ks ≤ 7293034; omega⟩ dL_law_726 ?_
  refine x_aload_n (pc := 729) C dL_law_729 rfl rfl ?_
  refine x_aload_n (pc := 730) C dL_law_730 rfl rfl ?_
  refine x_iload (pc := 731) C dL_law_731 rfl ?_
  refine x_iconst (v := 1) (pc := 733) C dL_law_733 (by decide) ?_
  refine x_iadd (pc := 734) C dL_law_734 ?_
  refine x_sld (pc := 735) C hi.1 dL_law_735 ?_
  refine x_aload_n (pc := 736) C dL_law_736 rfl rfl ?_
  refine x_iload (pc := 737) C dL_law_737 rfl ?_
  refine x_iconst (v := 2) (pc := 739) C dL_law_739 (by decide) ?_
  refine x_iadd (pc := 740) C dL_law_740 ?_
  refine x_sld (pc := 741) C hi.2.1 dL_law_741 ?_
  refine x_callV1 (pc := 742) C (mX8_carried E l e2) cl6 c6 cL_79 nX8_carried sX8_carried rfl rfl (Nat.le_of_ble_eq_true rfl) ⟨Nat.le_of_ble_eq_true rfl, Nat.le_of_ble_eq_true rfl, by show kc ≤ 601024; omega, by show ks ≤ 7293034; omega⟩ dL_law_742 ?_
  refine x_icmp_eq (pc := 745) (tgt := 1568) C dL_law_745 (by decide) (fun _ => ?_) (fun q => absurd rfl q)
  exact x_wide (by omega) (by omega) (kk ω hj2)
theorem k_750 (C : Cx E p s m args meth c RL cL_law 7) (hV : KV E s) (hf : l.stackTraces = false) {i : Int32} (hi : InS E i) {kc ks : Nat} {σ : Sg} (hj : Jx σ) (hR : kc + 1 ≤ 601024 ∧ ks + 6 ≤ 7293034) (kk : ∀ ω, Jx ω → X E p l e room_1 s m args below meth c Q 7 (kc + 1) (ks + 6) ω 1568 (LL E i) []) : X E p l e room_1 s m args below meth c Q 7 kc ks σ 750 (LL E i) [] := by
  obtain ⟨hk, hs⟩ := hR
  obtain ⟨r, υ, ω, e1, e2, hj2⟩ := sj_q hj (fun b W tn fl n k h => q_rounds h.i (wS E (i + 1)))
  have c5 := c5_of hj.fin
  have c6 : ckO υ 6 51 = true := by
    have e9 := e2
    unfold DX8_rounds at e9
    exact (chk_s e9).1
  refine x_aload_n (pc := 750) C dL_law_750 rfl rfl ?_
  refine x_aload_n (pc := 751) C dL_law_751 rfl rfl ?_
  refine x_iload (pc := 752) C dL_law_752 rfl ?_
  refine x_iconst (v := 1) (pc := 754) C dL_law_754 (by decide) ?_
  refine x_iadd (pc := 755) C dL_law_755 ?_
  refine x_sld (pc := 756) C hi.1 dL_law_756 ?_
  refine x_callV1 (pc := 757) C (mX7_rounds E l e1) cl5 c5 cL_80 nX7_rounds sX7_rounds rfl rfl (Nat.le_of_ble_eq_true rfl) ⟨Nat.le_of_ble_eq_true rfl, Nat.le_of_ble_eq_true rfl, by show kc ≤ 601024; omega, by show ks ≤ 7293034; omega⟩ dL_law_757 ?_
  refine x_aload_n (pc := 760) C dL_law_760 rfl rfl ?_
  refine x_aload_n (pc := 761) C dL_law_761 rfl rfl ?_
  refine x_iload (pc := 762) C dL_law_762 rfl ?_
  refine x_iconst (v := 1) (pc := 764) C dL_law_764 (by decide) ?_
  refine x_iadd (pc := 765) C dL_law_765 ?_
  refine x_sld (pc := 766) C hi.1 dL_law_766 ?_
  refine x_callV1 (pc := 767) C (mX8_rounds E l e2) cl6 c6 cL_83 nX8_rounds sX8_rounds rfl rfl (Nat.le_of_ble_eq_true rfl) ⟨Nat.le_of_ble_eq_true rfl, Nat.le_of_ble_eq_true rfl, by show kc ≤ 601024; omega, by show ks ≤ 7293034; omega⟩ dL_law_767 ?_
  refine x_icmp_eq (pc := 770) (tgt := 1568) C dL_law_770 (by decide) (fun _ => ?_) (fun q => absurd rfl q)
  exact x_wide (by omega) (by omega) (kk ω hj2)
theorem k_775 (C : Cx E p s m args meth c RL cL_law 7) (hV : KV E s) (hf : l.stackTraces = false) {i : Int32} (hi : InS E i) {kc ks : Nat} {σ : Sg} (hj : Jx σ) (hR : kc + 1 ≤ 601024 ∧ ks + 6 ≤ 7293034) (kk : ∀ ω, Jx ω → X E p l e room_1 s m args below meth c Q 7 (kc + 1) (ks + 6) ω 1568 (LL E i) []) : X E p l e room_1 s m args below meth c Q 7 kc ks σ 775 (LL E i) [] := by
  obtain ⟨hk, hs⟩ := hR
  obtain ⟨r, υ, ω, e1, e2, hj2⟩ := sj_q hj (fun b W tn fl n k h => q_left h.i (wS E (i + 1)))
  have c5 := c5_of hj.fin
  have c6 : ckO υ 6 51 = true := by
    have e9 := e2
    unfold DX8_left at e9
    exact (chk_s e9).1
  refine x_aload_n (pc := 775) C dL_law_775 rfl rfl ?_
  refine x_aload_n (pc := 776) C dL_law_776 rfl rfl ?_
  refine x_iload (pc := 777) C dL_law_777 rfl ?_
  refine x_iconst (v := 1) (pc := 779) C dL_law_779 (by decide) ?_
  refine x_iadd (pc := 780) C dL_law_780 ?_
  refine x_sld (pc := 781) C hi.1 dL_law_781 ?_
  refine x_callV1 (pc := 782) C (mX7_left E l e1) cl5 c5 cL_84 nX7_left sX7_left rfl rfl (Nat.le_of_ble_eq_true rfl) ⟨Nat.le_of_ble_eq_true rfl, Nat.le_of_ble_eq_true rfl, by show kc ≤ 601024; omega, by show ks ≤ 7293034; omega⟩ dL_law_782 ?_
  refine x_aload_n (pc := 785) C dL_law_785 rfl rfl ?_
  refine x_aload_n (pc := 786) C dL_law_786 rfl rfl ?_
  refine x_iload (pc := 787) C dL_law_787 rfl ?_
  refine x_iconst (v := 1) (pc := 789) C dL_law_789 (by decide) ?_
  refine x_iadd (pc := 790) C dL_law_790 ?_
  refine x_sld (pc := 791) C hi.1 dL_law_791 ?_
  refine x_callV1 (pc := 792) C (mX8_left E l e2) cl6 c6 cL_87 nX8_left sX8_left rfl rfl (Nat.le_of_ble_eq_true rfl) ⟨Nat.le_of_ble_eq_true rfl, Nat.le_of_ble_eq_true rfl, by show kc ≤ 601024; omega, by show ks ≤ 7293034; omega⟩ dL_law_792 ?_
  refine x_icmp_eq (pc := 795) (tgt := 1568) C dL_law_795 (by decide) (fun _ => ?_) (fun q => absurd rfl q)
  exact x_wide (by omega) (by omega) (kk ω hj2)
theorem k_800 (C : Cx E p s m args meth c RL cL_law 7) (hV : KV E s) (hf : l.stackTraces = false) {i : Int32} (hi : InS E i) {kc ks : Nat} {σ : Sg} (hj : Jx σ) (hR : kc + 1 ≤ 601024 ∧ ks + 6 ≤ 7293034) (kk : ∀ ω, Jx ω → X E p l e room_1 s m args below meth c Q 7 (kc + 1) (ks + 6) ω 1568 (LL E i) []) : X E p l e room_1 s m args below meth c Q 7 kc ks σ 800 (LL E i) [] := by
  obtain ⟨hk, hs⟩ := hR
  obtain ⟨r, υ, ω, e1, e2, hj2⟩ := sj_q hj (fun b W tn fl n k h => q_straight h.i (wS E (i + 1)) (wS E (i + 2)))
  have c5 := c5_of hj.fin
  have c6 : ckO υ 6 51 = true := by
    have e9 := e2
    unfold DX8_straight at e9
    exact (chk_s e9).1
  refine x_aload_n (pc := 800) C dL_law_800 rfl rfl ?_
  refine x_aload_n (pc := 801) C dL_law_801 rfl rfl ?_
  refine x_iload (pc := 802) C dL_law_802 rfl ?_
  refine x_iconst (v := 1) (pc := 804) C dL_law_804 (by decide) ?_
  refine x_iadd (pc := 805) C dL_law_805 ?_
  refine x_sld (pc := 806) C hi.1 dL_law_806 ?_
  refine x_aload_n (pc := 807) C dL_law_807 rfl rfl ?_
  refine x_iload (pc := 808) C dL_law_808 rfl ?_
  refine x_iconst (v := 2) (pc := 810) C dL_law_810 (by decide) ?_
  refine x_iadd (pc := 811) C dL_law_811 ?_
  refine x_sld (pc := 812) C hi.2.1 dL_law_812 ?_
  refine x_callV1 (pc := 813) C (mX7_straight E l e1) cl5 c5 cL_88 nX7_straight sX7_straight rfl rfl (Nat.le_of_ble_eq_true rfl) ⟨Nat.le_of_ble_eq_true rfl, Nat.le_of_ble_eq_true rfl, by show kc ≤ 601024; omega, by show ks ≤ 7293034; omega⟩ dL_law_813 ?_
  refine x_aload_n (pc := 816) C dL_law_816 rfl rfl ?_
  refine x_aload_n (pc := 817) C dL_law_817 rfl rfl ?_
  refine x_iload (pc := 818) C dL_law_818 rfl ?_
  refine x_iconst (v := 1) (pc := 820) C dL_law_820 (by decide) ?_
  refine x_iadd (pc := 821) C dL_law_821 ?_
  refine x_sld (pc := 822) C hi.1 dL_law_822 ?_
  refine x_aload_n (pc := 823) C dL_law_823 rfl rfl ?_
  refine x_iload (pc := 824) C dL_law_824 rfl ?_
  refine x_iconst (v := 2) (pc := 826) C dL_law_826 (by decide) ?_
  refine x_iadd (pc := 827) C dL_law_827 ?_
  refine x_sld (pc := 828) C hi.2.1 dL_law_828 ?_
  refine x_callV1 (pc := 829) C (mX8_straight E l e2) cl6 c6 cL_91 nX8_straight sX8_straight rfl rfl (Nat.le_of_ble_eq_true rfl) ⟨Nat.le_of_ble_eq_true rfl, Nat.le_of_ble_eq_true rfl, by show kc ≤ 601024; omega, by show ks ≤ 7293034; omega⟩ dL_law_829 ?_
  refine x_icmp_eq (pc := 832) (tgt := 1568) C dL_law_832 (by decide) (fun _ => ?_) (fun q => absurd rfl q)
  exact x_wide (by omega) (by omega) (kk ω hj2)
theorem k_837 (C : Cx E p s m args meth c RL cL_law 7) (hV : KV E s) (hf : l.stackTraces = false) {i : Int32} (hi : InS E i) {kc ks : Nat} {σ : Sg} (hj : Jx σ) (hR : kc + 1 ≤ 601024 ∧ ks + 6 ≤ 7293034) (kk : ∀ ω, Jx ω → X E p l e room_1 s m args below meth c Q 7 (kc + 1) (ks + 6) ω 1568 (LL E i) []) : X E p l e room_1 s m args below meth c Q 7 kc ks σ 837 (LL E i) [] := by
  obtain ⟨hk, hs⟩ := hR
  obtain ⟨r, υ, ω, e1, e2, hj2⟩ := sj_q hj (fun b W tn fl n k h => q_other h.i (wS E (i + 1)) (wS E (i + 2)))
  have c5 := c5_of hj.fin
  have c6 : ckO υ 6 51 = true := by
    have e9 := e2
    unfold DX8_other at e9
    exact (chk_s e9).1
  refine x_aload_n (pc := 837) C dL_law_837 rfl rfl ?_
  refine x_aload_n (pc := 838) C dL_law_838 rfl rfl ?_
  refine x_iload (pc := 839) C dL_law_839 rfl ?_
  refine x_iconst (v := 1) (pc := 841) C dL_law_841 (by decide) ?_
  refine x_iadd (pc := 842) C dL_law_842 ?_
  refine x_sld (pc := 843) C hi.1 dL_law_843 ?_
  refine x_aload_n (pc := 844) C dL_law_844 rfl rfl ?_
  refine x_iload (pc := 845) C dL_law_845 rfl ?_
  refine x_iconst (v := 2) (pc := 847) C dL_law_847 (by decide) ?_
  refine x_iadd (pc := 848) C dL_law_848 ?_
  refine x_sld (pc := 849) C hi.2.1 dL_law_849 ?_
  refine x_callV1 (pc := 850) C (mX7_other E l e1) cl5 c5 cL_92 nX7_other sX7_other rfl rfl (Nat.le_of_ble_eq_true rfl) ⟨Nat.le_of_ble_eq_true rfl, Nat.le_of_ble_eq_true rfl, by show kc ≤ 601024; omega, by show ks ≤ 7293034; omega⟩ dL_law_850 ?_
  refine x_aload_n (pc := 853) C dL_law_853 rfl rfl ?_
  refine x_aload_n (pc := 854) C dL_law_854 rfl rfl ?_
  refine x_iload (pc := 855) C dL_law_855 rfl ?_
  refine x_iconst (v := 1) (pc := 857) C dL_law_857 (by decide) ?_
  refine x_iadd (pc := 858) C dL_law_858 ?_
  refine x_sld (pc := 859) C hi.1 dL_law_859 ?_
  refine x_aload_n (pc := 860) C dL_law_860 rfl rfl ?_
  refine x_iload (pc := 861) C dL_law_861 rfl ?_
  refine x_iconst (v := 2) (pc := 863) C dL_law_863 (by decide) ?_
  refine x_iadd (pc := 864) C dL_law_864 ?_
  refine x_sld (pc := 865) C hi.2.1 dL_law_865 ?_
  refine x_callV1 (pc := 866) C (mX8_other E l e2) cl6 c6 cL_95 nX8_other sX8_other rfl rfl (Nat.le_of_ble_eq_true rfl) ⟨Nat.le_of_ble_eq_true rfl, Nat.le_of_ble_eq_true rfl, by show kc ≤ 601024; omega, by show ks ≤ 7293034; omega⟩ dL_law_866 ?_
  refine x_icmp_eq (pc := 869) (tgt := 1568) C dL_law_869 (by decide) (fun _ => ?_) (fun q => absurd rfl q)
  exact x_wide (by omega) (by omega) (kk ω hj2)
theorem k_874 (C : Cx E p s m args meth c RL cL_law 7) (hV : KV E s) (hf : l.stackTraces = false) {i : Int32} (hi : InS E i) {kc ks : Nat} {σ : Sg} (hj : Jx σ) (hR : kc + 1 ≤ 601024 ∧ ks + 6 ≤ 7293034) (kk : ∀ ω, Jx ω → X E p l e room_1 s m args below meth c Q 7 (kc + 1) (ks + 6) ω 1568 (LL E i) []) : X E p l e room_1 s m args below meth c Q 7 kc ks σ 874 (LL E i) [] := by
  obtain ⟨hk, hs⟩ := hR
  obtain ⟨r, υ, ω, e1, e2, hj2⟩ := sj_q hj (fun b W tn fl n k h => q_without h.i (wS E (i + 1)) (wS E (i + 2)) (wS E (i + 3)))
  have c5 := c5_of hj.fin
  have c6 : ckO υ 6 51 = true := by
    have e9 := e2
    unfold DX8_without at e9
    exact (chk_s e9).1
  refine x_aload_n (pc := 874) C dL_law_874 rfl rfl ?_
  refine x_aload_n (pc := 875) C dL_law_875 rfl rfl ?_
  refine x_iload (pc := 876) C dL_law_876 rfl ?_
  refine x_iconst (v := 1) (pc := 878) C dL_law_878 (by decide) ?_
  refine x_iadd (pc := 879) C dL_law_879 ?_
  refine x_sld (pc := 880) C hi.1 dL_law_880 ?_
  refine x_aload_n (pc := 881) C dL_law_881 rfl rfl ?_
  refine x_iload (pc := 882) C dL_law_882 rfl ?_
  refine x_iconst (v := 2) (pc := 884) C dL_law_884 (by decide) ?_
  refine x_iadd (pc := 885) C dL_law_885 ?_
  refine x_sld (pc := 886) C hi.2.1 dL_law_886 ?_
  refine x_aload_n (pc := 887) C dL_law_887 rfl rfl ?_
  refine x_iload (pc := 888) C dL_law_888 rfl ?_
  refine x_iconst (v := 3) (pc := 890) C dL_law_890 (by decide) ?_
  refine x_iadd (pc := 891) C dL_law_891 ?_
  refine x_sld (pc := 892) C hi.2.2.1 dL_law_892 ?_
  refine x_callV1 (pc := 893) C (mX7_without E l e1) cl5 c5 cL_96 nX7_without sX7_without rfl rfl (Nat.le_of_ble_eq_true rfl) ⟨Nat.le_of_ble_eq_true rfl, Nat.le_of_ble_eq_true rfl, by show kc ≤ 601024; omega, by show ks ≤ 7293034; omega⟩ dL_law_893 ?_
  refine x_aload_n (pc := 896) C dL_law_896 rfl rfl ?_
  refine x_aload_n (pc := 897) C dL_law_897 rfl rfl ?_
  refine x_iload (pc := 898) C dL_law_898 rfl ?_
  refine x_iconst (v := 1) (pc := 900) C dL_law_900 (by decide) ?_
  refine x_iadd (pc := 901) C dL_law_901 ?_
  refine x_sld (pc := 902) C hi.1 dL_law_902 ?_
  refine x_aload_n (pc := 903) C dL_law_903 rfl rfl ?_
  refine x_iload (pc := 904) C dL_law_904 rfl ?_
  refine x_iconst (v := 2) (pc := 906) C dL_law_906 (by decide) ?_
  refine x_iadd (pc := 907) C dL_law_907 ?_
  refine x_sld (pc := 908) C hi.2.1 dL_law_908 ?_
  refine x_aload_n (pc := 909) C dL_law_909 rfl rfl ?_
  refine x_iload (pc := 910) C dL_law_910 rfl ?_
  refine x_iconst (v := 3) (pc := 912) C dL_law_912 (by decide) ?_
  refine x_iadd (pc := 913) C dL_law_913 ?_
  refine x_sld (pc := 914) C hi.2.2.1 dL_law_914 ?_
  refine x_callV1 (pc := 915) C (mX8_without E l e2) cl6 c6 cL_99 nX8_without sX8_without rfl rfl (Nat.le_of_ble_eq_true rfl) ⟨Nat.le_of_ble_eq_true rfl, Nat.le_of_ble_eq_true rfl, by show kc ≤ 601024; omega, by show ks ≤ 7293034; omega⟩ dL_law_915 ?_
  refine x_icmp_eq (pc := 918) (tgt := 1568) C dL_law_918 (by decide) (fun _ => ?_) (fun q => absurd rfl q)
  exact x_wide (by omega) (by omega) (kk ω hj2)
theorem k_923 (C : Cx E p s m args meth c RL cL_law 7) (hV : KV E s) (hf : l.stackTraces = false) {i : Int32} (hi : InS E i) {kc ks : Nat} {σ : Sg} (hj : Jx σ) (hR : kc + 1 ≤ 601024 ∧ ks + 6 ≤ 7293034) (kk : ∀ ω, Jx ω → X E p l e room_1 s m args below meth c Q 7 (kc + 1) (ks + 6) ω 1568 (LL E i) []) : X E p l e room_1 s m args below meth c Q 7 kc ks σ 923 (LL E i) [] := by
  obtain ⟨hk, hs⟩ := hR
  obtain ⟨r, υ, ω, e1, e2, hj2⟩ := sj_q hj (fun b W tn fl n k h => q_matters h.i (wS E (i + 1)))
  have c5 := c5_of hj.fin
  have c6 : ckO υ 6 51 = true := by
    have e9 := e2
    unfold DX8_matters at e9
    exact (chk_s e9).1
  refine x_aload_n (pc := 923) C dL_law_923 rfl rfl ?_
  refine x_aload_n (pc := 924) C dL_law_924 rfl rfl ?_
  refine x_iload (pc := 925) C dL_law_925 rfl ?_
  refine x_iconst (v := 1) (pc := 927) C dL_law_927 (by decide) ?_
  refine x_iadd (pc := 928) C dL_law_928 ?_
  refine x_sld (pc := 929) C hi.1 dL_law_929 ?_
  refine x_callV1 (pc := 930) C (mX7_matters E l e1) cl5 c5 cL_100 nX7_matters sX7_matters rfl rfl (Nat.le_of_ble_eq_true rfl) ⟨Nat.le_of_ble_eq_true rfl, Nat.le_of_ble_eq_true rfl, by show kc ≤ 601024; omega, by show ks ≤ 7293034; omega⟩ dL_law_930 ?_
  refine x_aload_n (pc := 933) C dL_law_933 rfl rfl ?_
  refine x_aload_n (pc := 934) C dL_law_934 rfl rfl ?_
  refine x_iload (pc := 935) C dL_law_935 rfl ?_
  refine x_iconst (v := 1) (pc := 937) C dL_law_937 (by decide) ?_
  refine x_iadd (pc := 938) C dL_law_938 ?_
  refine x_sld (pc := 939) C hi.1 dL_law_939 ?_
  refine x_callV1 (pc := 940) C (mX8_matters E l e2) cl6 c6 cL_103 nX8_matters sX8_matters rfl rfl (Nat.le_of_ble_eq_true rfl) ⟨Nat.le_of_ble_eq_true rfl, Nat.le_of_ble_eq_true rfl, by show kc ≤ 601024; omega, by show ks ≤ 7293034; omega⟩ dL_law_940 ?_
  refine x_icmp_eq (pc := 943) (tgt := 1568) C dL_law_943 (by decide) (fun _ => ?_) (fun q => absurd rfl q)
  exact x_wide (by omega) (by omega) (kk ω hj2)
theorem k_948 (C : Cx E p s m args meth c RL cL_law 7) (hV : KV E s) (hf : l.stackTraces = false) {i : Int32} (hi : InS E i) {kc ks : Nat} {σ : Sg} (hj : Jx σ) (hR : kc + 1 ≤ 601024 ∧ ks + 6 ≤ 7293034) (kk : ∀ ω, Jx ω → X E p l e room_1 s m args below meth c Q 7 (kc + 1) (ks + 6) ω 1568 (LL E i) []) : X E p l e room_1 s m args below meth c Q 7 kc ks σ 948 (LL E i) [] := by
  obtain ⟨hk, hs⟩ := hR
  obtain ⟨r, υ, ω, e1, e2, hj2⟩ := sj_q hj (fun b W tn fl n k h => q_harmed h.i (wS E (i + 1)) (wS E (i + 2)))
  have c5 := c5_of hj.fin
  have c6 : ckO υ 6 51 = true := by
    have e9 := e2
    unfold DX8_harmed at e9
    exact (chk_s e9).1
  refine x_aload_n (pc := 948) C dL_law_948 rfl rfl ?_
  refine x_aload_n (pc := 949) C dL_law_949 rfl rfl ?_
  refine x_iload (pc := 950) C dL_law_950 rfl ?_
  refine x_iconst (v := 1) (pc := 952) C dL_law_952 (by decide) ?_
  refine x_iadd (pc := 953) C dL_law_953 ?_
  refine x_sld (pc := 954) C hi.1 dL_law_954 ?_
  refine x_aload_n (pc := 955) C dL_law_955 rfl rfl ?_
  refine x_iload (pc := 956) C dL_law_956 rfl ?_
  refine x_iconst (v := 2) (pc := 958) C dL_law_958 (by decide) ?_
  refine x_iadd (pc := 959) C dL_law_959 ?_
  refine x_sld (pc := 960) C hi.2.1 dL_law_960 ?_
  refine x_callV1 (pc := 961) C (mX7_harmed E l e1) cl5 c5 cL_104 nX7_harmed sX7_harmed rfl rfl (Nat.le_of_ble_eq_true rfl) ⟨Nat.le_of_ble_eq_true rfl, Nat.le_of_ble_eq_true rfl, by show kc ≤ 601024; omega, by show ks ≤ 7293034; omega⟩ dL_law_961 ?_
  refine x_aload_n (pc := 964) C dL_law_964 rfl rfl ?_
  refine x_aload_n (pc := 965) C dL_law_965 rfl rfl ?_
  refine x_iload (pc := 966) C dL_law_966 rfl ?_
  refine x_iconst (v := 1) (pc := 968) C dL_law_968 (by decide) ?_
  refine x_iadd (pc := 969) C dL_law_969 ?_
  refine x_sld (pc := 970) C hi.1 dL_law_970 ?_
  refine x_aload_n (pc := 971) C dL_law_971 rfl rfl ?_
  refine x_iload (pc := 972) C dL_law_972 rfl ?_
  refine x_iconst (v := 2) (pc := 974) C dL_law_974 (by decide) ?_
  refine x_iadd (pc := 975) C dL_law_975 ?_
  refine x_sld (pc := 976) C hi.2.1 dL_law_976 ?_
  refine x_callV1 (pc := 977) C (mX8_harmed E l e2) cl6 c6 cL_107 nX8_harmed sX8_harmed rfl rfl (Nat.le_of_ble_eq_true rfl) ⟨Nat.le_of_ble_eq_true rfl, Nat.le_of_ble_eq_true rfl, by show kc ≤ 601024; omega, by show ks ≤ 7293034; omega⟩ dL_law_977 ?_
  refine x_icmp_eq (pc := 980) (tgt := 1568) C dL_law_980 (by decide) (fun _ => ?_) (fun q => absurd rfl q)
  exact x_wide (by omega) (by omega) (kk ω hj2)
theorem k_985 (C : Cx E p s m args meth c RL cL_law 7) (hV : KV E s) (hf : l.stackTraces = false) {i : Int32} (hi : InS E i) {kc ks : Nat} {σ : Sg} (hj : Jx σ) (hR : kc + 1 ≤ 601024 ∧ ks + 6 ≤ 7293034) (kk : ∀ ω, Jx ω → X E p l e room_1 s m args below meth c Q 7 (kc + 1) (ks + 6) ω 1568 (LL E i) []) : X E p l e room_1 s m args below meth c Q 7 kc ks σ 985 (LL E i) [] := by
  obtain ⟨hk, hs⟩ := hR
  obtain ⟨r, υ, ω, e1, e2, hj2⟩ := sj_s hj (fun b W tn fl n k h => s_fly h (wS E (i + 1)) (wS E (i + 2)))
  have c5 := c5_of hj.fin
  have c6 : ckO υ 6 51 = true := by
    have e9 := e2
    unfold DX8_fly at e9
    exact (chk_s e9).1
  refine x_aload_n (pc := 985) C dL_law_985 rfl rfl ?_
  refine x_aload_n (pc := 986) C dL_law_986 rfl rfl ?_
  refine x_iload (pc := 987) C dL_law_987 rfl ?_
  refine x_iconst (v := 1) (pc := 989) C dL_law_989 (by decide) ?_
  refine x_iadd (pc := 990) C dL_law_990 ?_
  refine x_sld (pc := 991) C hi.1 dL_law_991 ?_
  refine x_aload_n (pc := 992) C dL_law_992 rfl rfl ?_
  refine x_iload (pc := 993) C dL_law_993 rfl ?_
  refine x_iconst (v := 2) (pc := 995) C dL_law_995 (by decide) ?_
  refine x_iadd (pc := 996) C dL_law_996 ?_
  refine x_sld (pc := 997) C hi.2.1 dL_law_997 ?_
  refine x_callV1 (pc := 998) C (mX7_fly E l e1) cl5 c5 cL_108 nX7_fly sX7_fly rfl rfl (Nat.le_of_ble_eq_true rfl) ⟨Nat.le_of_ble_eq_true rfl, Nat.le_of_ble_eq_true rfl, by show kc ≤ 601024; omega, by show ks ≤ 7293034; omega⟩ dL_law_998 ?_
  refine x_aload_n (pc := 1001) C dL_law_1001 rfl rfl ?_
  refine x_aload_n (pc := 1002) C dL_law_1002 rfl rfl ?_
  refine x_iload (pc := 1003) C dL_law_1003 rfl ?_
  refine x_iconst (v := 1) (pc := 1005) C dL_law_1005 (by decide) ?_
  refine x_iadd (pc := 1006) C dL_law_1006 ?_
  refine x_sld (pc := 1007) C hi.1 dL_law_1007 ?_
  refine x_aload_n (pc := 1008) C dL_law_1008 rfl rfl ?_
  refine x_iload (pc := 1009) C dL_law_1009 rfl ?_
  refine x_iconst (v := 2) (pc := 1011) C dL_law_1011 (by decide) ?_
  refine x_iadd (pc := 1012) C dL_law_1012 ?_
  refine x_sld (pc := 1013) C hi.2.1 dL_law_1013 ?_
  refine x_callV1 (pc := 1014) C (mX8_fly E l e2) cl6 c6 cL_111 nX8_fly sX8_fly rfl rfl (Nat.le_of_ble_eq_true rfl) ⟨Nat.le_of_ble_eq_true rfl, Nat.le_of_ble_eq_true rfl, by show kc ≤ 601024; omega, by show ks ≤ 7293034; omega⟩ dL_law_1014 ?_
  refine x_icmp_eq (pc := 1017) (tgt := 1568) C dL_law_1017 (by decide) (fun _ => ?_) (fun q => absurd rfl q)
  exact x_wide (by omega) (by omega) (kk ω hj2)
theorem k_1022 (C : Cx E p s m args meth c RL cL_law 7) (hV : KV E s) (hf : l.stackTraces = false) {i : Int32} (hi : InS E i) {kc ks : Nat} {σ : Sg} (hj : Jx σ) (hR : kc + 1 ≤ 601024 ∧ ks + 6 ≤ 7293034) (kk : ∀ ω, Jx ω → X E p l e room_1 s m args below meth c Q 7 (kc + 1) (ks + 6) ω 1568 (LL E i) []) : X E p l e room_1 s m args below meth c Q 7 kc ks σ 1022 (LL E i) [] := by
  obtain ⟨hk, hs⟩ := hR
  obtain ⟨r, υ, ω, e1, e2, hj2⟩ := sj_s hj (fun b W tn fl n k h => s_endorse h (wS E (i + 1)) (wS E (i + 2)) (wS E (i + 3)))
  have c5 := c5_of hj.fin
  have c6 : ckO υ 6 51 = true := by
    have e9 := e2
    unfold DX8_endorse at e9
    exact (chk_s e9).1
  refine x_aload_n (pc := 1022) C dL_law_1022 rfl rfl ?_
  refine x_aload_n (pc := 1023) C dL_law_1023 rfl rfl ?_
  refine x_iload (pc := 1024) C dL_law_1024 rfl ?_
  refine x_iconst (v := 1) (pc := 1026) C dL_law_1026 (by decide) ?_
  refine x_iadd (pc := 1027) C dL_law_1027 ?_
  refine x_sld (pc := 1028) C hi.1 dL_law_1028 ?_
  refine x_aload_n (pc := 1029) C dL_law_1029 rfl rfl ?_
  refine x_iload (pc := 1030) C dL_law_1030 rfl ?_
  refine x_iconst (v := 2) (pc := 1032) C dL_law_1032 (by decide) ?_
  refine x_iadd (pc := 1033) C dL_law_1033 ?_
  refine x_sld (pc := 1034) C hi.2.1 dL_law_1034 ?_
  refine x_aload_n (pc := 1035) C dL_law_1035 rfl rfl ?_
  refine x_iload (pc := 1036) C dL_law_1036 rfl ?_
  refine x_iconst (v := 3) (pc := 1038) C dL_law_1038 (by decide) ?_
  refine x_iadd (pc := 1039) C dL_law_1039 ?_
  refine x_sld (pc := 1040) C hi.2.2.1 dL_law_1040 ?_
  refine x_callV1 (pc := 1041) C (mX7_endorse E l e1) cl5 c5 cL_112 nX7_endorse sX7_endorse rfl rfl (Nat.le_of_ble_eq_true rfl) ⟨Nat.le_of_ble_eq_true rfl, Nat.le_of_ble_eq_true rfl, by show kc ≤ 601024; omega, by show ks ≤ 7293034; omega⟩ dL_law_1041 ?_
  refine x_aload_n (pc := 1044) C dL_law_1044 rfl rfl ?_
  refine x_aload_n (pc := 1045) C dL_law_1045 rfl rfl ?_
  refine x_iload (pc := 1046) C dL_law_1046 rfl ?_
  refine x_iconst (v := 1) (pc := 1048) C dL_law_1048 (by decide) ?_
  refine x_iadd (pc := 1049) C dL_law_1049 ?_
  refine x_sld (pc := 1050) C hi.1 dL_law_1050 ?_
  refine x_aload_n (pc := 1051) C dL_law_1051 rfl rfl ?_
  refine x_iload (pc := 1052) C dL_law_1052 rfl ?_
  refine x_iconst (v := 2) (pc := 1054) C dL_law_1054 (by decide) ?_
  refine x_iadd (pc := 1055) C dL_law_1055 ?_
  refine x_sld (pc := 1056) C hi.2.1 dL_law_1056 ?_
  refine x_aload_n (pc := 1057) C dL_law_1057 rfl rfl ?_
  refine x_iload (pc := 1058) C dL_law_1058 rfl ?_
  refine x_iconst (v := 3) (pc := 1060) C dL_law_1060 (by decide) ?_
  refine x_iadd (pc := 1061) C dL_law_1061 ?_
  refine x_sld (pc := 1062) C hi.2.2.1 dL_law_1062 ?_
  refine x_callV1 (pc := 1063) C (mX8_endorse E l e2) cl6 c6 cL_115 nX8_endorse sX8_endorse rfl rfl (Nat.le_of_ble_eq_true rfl) ⟨Nat.le_of_ble_eq_true rfl, Nat.le_of_ble_eq_true rfl, by show kc ≤ 601024; omega, by show ks ≤ 7293034; omega⟩ dL_law_1063 ?_
  refine x_icmp_eq (pc := 1066) (tgt := 1568) C dL_law_1066 (by decide) (fun _ => ?_) (fun q => absurd rfl q)
  exact x_wide (by omega) (by omega) (kk ω hj2)
theorem k_1071 (C : Cx E p s m args meth c RL cL_law 7) (hV : KV E s) (hf : l.stackTraces = false) {i : Int32} (hi : InS E i) {kc ks : Nat} {σ : Sg} (hj : Jx σ) (hR : kc + 1 ≤ 601024 ∧ ks + 6 ≤ 7293034) (kk : ∀ ω, Jx ω → X E p l e room_1 s m args below meth c Q 7 (kc + 1) (ks + 6) ω 1568 (LL E i) []) : X E p l e room_1 s m args below meth c Q 7 kc ks σ 1071 (LL E i) [] := by
  obtain ⟨hk, hs⟩ := hR
  obtain ⟨r, υ, ω, e1, e2, hj2⟩ := sj_s hj (fun b W tn fl n k h => s_refund h (wS E (i + 1)))
  have c5 := c5_of hj.fin
  have c6 : ckO υ 6 51 = true := by
    have e9 := e2
    unfold DX8_refund at e9
    exact (chk_s e9).1
  refine x_aload_n (pc := 1071) C dL_law_1071 rfl rfl ?_
  refine x_aload_n (pc := 1072) C dL_law_1072 rfl rfl ?_
  refine x_iload (pc := 1073) C dL_law_1073 rfl ?_
  refine x_iconst (v := 1) (pc := 1075) C dL_law_1075 (by decide) ?_
  refine x_iadd (pc := 1076) C dL_law_1076 ?_
  refine x_sld (pc := 1077) C hi.1 dL_law_1077 ?_
  refine x_callV1 (pc := 1078) C (mX7_refund E l e1) cl5 c5 cL_116 nX7_refund sX7_refund rfl rfl (Nat.le_of_ble_eq_true rfl) ⟨Nat.le_of_ble_eq_true rfl, Nat.le_of_ble_eq_true rfl, by show kc ≤ 601024; omega, by show ks ≤ 7293034; omega⟩ dL_law_1078 ?_
  refine x_aload_n (pc := 1081) C dL_law_1081 rfl rfl ?_
  refine x_aload_n (pc := 1082) C dL_law_1082 rfl rfl ?_
  refine x_iload (pc := 1083) C dL_law_1083 rfl ?_
  refine x_iconst (v := 1) (pc := 1085) C dL_law_1085 (by decide) ?_
  refine x_iadd (pc := 1086) C dL_law_1086 ?_
  refine x_sld (pc := 1087) C hi.1 dL_law_1087 ?_
  refine x_callV1 (pc := 1088) C (mX8_refund E l e2) cl6 c6 cL_119 nX8_refund sX8_refund rfl rfl (Nat.le_of_ble_eq_true rfl) ⟨Nat.le_of_ble_eq_true rfl, Nat.le_of_ble_eq_true rfl, by show kc ≤ 601024; omega, by show ks ≤ 7293034; omega⟩ dL_law_1088 ?_
  refine x_icmp_eq (pc := 1091) (tgt := 1568) C dL_law_1091 (by decide) (fun _ => ?_) (fun q => absurd rfl q)
  exact x_wide (by omega) (by omega) (kk ω hj2)
theorem k_1096 (C : Cx E p s m args meth c RL cL_law 7) (hV : KV E s) (hf : l.stackTraces = false) {i : Int32} (hi : InS E i) {kc ks : Nat} {σ : Sg} (hj : Jx σ) (hR : kc + 1 ≤ 601024 ∧ ks + 6 ≤ 7293034) (kk : ∀ ω, Jx ω → X E p l e room_1 s m args below meth c Q 7 (kc + 1) (ks + 6) ω 1568 (LL E i) []) : X E p l e room_1 s m args below meth c Q 7 kc ks σ 1096 (LL E i) [] := by
  obtain ⟨hk, hs⟩ := hR
  obtain ⟨r, υ, ω, e1, e2, hj2⟩ := sj_s hj (fun b W tn fl n k h => s_clear h )
  have c5 := c5_of hj.fin
  have c6 : ckO υ 6 51 = true := by
    have e9 := e2
    unfold DX8_clear at e9
    exact (chk_s e9).1
  refine x_aload_n (pc := 1096) C dL_law_1096 rfl rfl ?_
  refine x_callV1 (pc := 1097) C (mX7_clear E l e1) cl5 c5 cL_120 nX7_clear sX7_clear rfl rfl (Nat.le_of_ble_eq_true rfl) ⟨Nat.le_of_ble_eq_true rfl, Nat.le_of_ble_eq_true rfl, by show kc ≤ 601024; omega, by show ks ≤ 7293034; omega⟩ dL_law_1097 ?_
  refine x_aload_n (pc := 1100) C dL_law_1100 rfl rfl ?_
  refine x_callV1 (pc := 1101) C (mX8_clear E l e2) cl6 c6 cL_123 nX8_clear sX8_clear rfl rfl (Nat.le_of_ble_eq_true rfl) ⟨Nat.le_of_ble_eq_true rfl, Nat.le_of_ble_eq_true rfl, by show kc ≤ 601024; omega, by show ks ≤ 7293034; omega⟩ dL_law_1101 ?_
  refine x_icmp_eq (pc := 1104) (tgt := 1568) C dL_law_1104 (by decide) (fun _ => ?_) (fun q => absurd rfl q)
  exact x_wide (by omega) (by omega) (kk ω hj2)
theorem k_1109 (C : Cx E p s m args meth c RL cL_law 7) (hV : KV E s) (hf : l.stackTraces = false) {i : Int32} (hi : InS E i) {kc ks : Nat} {σ : Sg} (hj : Jx σ) (hR : kc + 1 ≤ 601024 ∧ ks + 6 ≤ 7293034) (kk : ∀ ω, Jx ω → X E p l e room_1 s m args below meth c Q 7 (kc + 1) (ks + 6) ω 1568 (LL E i) []) : X E p l e room_1 s m args below meth c Q 7 kc ks σ 1109 (LL E i) [] := by
  obtain ⟨hk, hs⟩ := hR
  obtain ⟨r, υ, ω, e1, e2, hj2⟩ := sj_s hj (fun b W tn fl n k h => s_undo h )
  have c5 := c5_of hj.fin
  have c6 : ckO υ 6 51 = true := by
    have e9 := e2
    unfold DX8_undo at e9
    exact (chk_s e9).1
  refine x_aload_n (pc := 1109) C dL_law_1109 rfl rfl ?_
  refine x_callV1 (pc := 1110) C (mX7_undo E l e1) cl5 c5 cL_124 nX7_undo sX7_undo rfl rfl (Nat.le_of_ble_eq_true rfl) ⟨Nat.le_of_ble_eq_true rfl, Nat.le_of_ble_eq_true rfl, by show kc ≤ 601024; omega, by show ks ≤ 7293034; omega⟩ dL_law_1110 ?_
  refine x_aload_n (pc := 1113) C dL_law_1113 rfl rfl ?_
  refine x_callV1 (pc := 1114) C (mX8_undo E l e2) cl6 c6 cL_127 nX8_undo sX8_undo rfl rfl (Nat.le_of_ble_eq_true rfl) ⟨Nat.le_of_ble_eq_true rfl, Nat.le_of_ble_eq_true rfl, by show kc ≤ 601024; omega, by show ks ≤ 7293034; omega⟩ dL_law_1114 ?_
  refine x_icmp_eq (pc := 1117) (tgt := 1568) C dL_law_1117 (by decide) (fun _ => ?_) (fun q => absurd rfl q)
  exact x_wide (by omega) (by omega) (kk ω hj2)
theorem k_1122 (C : Cx E p s m args meth c RL cL_law 7) (hV : KV E s) (hf : l.stackTraces = false) {i : Int32} (hi : InS E i) {kc ks : Nat} {σ : Sg} (hj : Jx σ) (hR : kc + 1 ≤ 601024 ∧ ks + 6 ≤ 7293034) (kk : ∀ ω, Jx ω → X E p l e room_1 s m args below meth c Q 7 (kc + 1) (ks + 6) ω 1568 (LL E i) []) : X E p l e room_1 s m args below meth c Q 7 kc ks σ 1122 (LL E i) [] := by
  obtain ⟨hk, hs⟩ := hR
  obtain ⟨r, υ, ω, e1, e2, hj2⟩ := sj_q hj (fun b W tn fl n k h => q_bill h.i (wS E (i + 1)) (wS E (i + 2)))
  have c5 := c5_of hj.fin
  have c6 : ckO υ 6 51 = true := by
    have e9 := e2
    unfold DX8_bill at e9
    exact (chk_s e9).1
  refine x_aload_n (pc := 1122) C dL_law_1122 rfl rfl ?_
  refine x_aload_n (pc := 1123) C dL_law_1123 rfl rfl ?_
  refine x_iload (pc := 1124) C dL_law_1124 rfl ?_
  refine x_iconst (v := 1) (pc := 1126) C dL_law_1126 (by decide) ?_
  refine x_iadd (pc := 1127) C dL_law_1127 ?_
  refine x_sld (pc := 1128) C hi.1 dL_law_1128 ?_
  refine x_aload_n (pc := 1129) C dL_law_1129 rfl rfl ?_
  refine x_iload (pc := 1130) C dL_law_1130 rfl ?_
  refine x_iconst (v := 2) (pc := 1132) C dL_law_1132 (by decide) ?_
  refine x_iadd (pc := 1133) C dL_law_1133 ?_
  refine x_sld (pc := 1134) C hi.2.1 dL_law_1134 ?_
  refine x_callV1 (pc := 1135) C (mX7_bill E l e1) cl5 c5 cL_128 nX7_bill sX7_bill rfl rfl (Nat.le_of_ble_eq_true rfl) ⟨Nat.le_of_ble_eq_true rfl, Nat.le_of_ble_eq_true rfl, by show kc ≤ 601024; omega, by show ks ≤ 7293034; omega⟩ dL_law_1135 ?_
  refine x_aload_n (pc := 1138) C dL_law_1138 rfl rfl ?_
  refine x_aload_n (pc := 1139) C dL_law_1139 rfl rfl ?_
  refine x_iload (pc := 1140) C dL_law_1140 rfl ?_
  refine x_iconst (v := 1) (pc := 1142) C dL_law_1142 (by decide) ?_
  refine x_iadd (pc := 1143) C dL_law_1143 ?_
  refine x_sld (pc := 1144) C hi.1 dL_law_1144 ?_
  refine x_aload_n (pc := 1145) C dL_law_1145 rfl rfl ?_
  refine x_iload (pc := 1146) C dL_law_1146 rfl ?_
  refine x_iconst (v := 2) (pc := 1148) C dL_law_1148 (by decide) ?_
  refine x_iadd (pc := 1149) C dL_law_1149 ?_
  refine x_sld (pc := 1150) C hi.2.1 dL_law_1150 ?_
  refine x_callV1 (pc := 1151) C (mX8_bill E l e2) cl6 c6 cL_131 nX8_bill sX8_bill rfl rfl (Nat.le_of_ble_eq_true rfl) ⟨Nat.le_of_ble_eq_true rfl, Nat.le_of_ble_eq_true rfl, by show kc ≤ 601024; omega, by show ks ≤ 7293034; omega⟩ dL_law_1151 ?_
  refine x_icmp_eq (pc := 1154) (tgt := 1568) C dL_law_1154 (by decide) (fun _ => ?_) (fun q => absurd rfl q)
  exact x_wide (by omega) (by omega) (kk ω hj2)
theorem k_1159 (C : Cx E p s m args meth c RL cL_law 7) (hV : KV E s) (hf : l.stackTraces = false) {i : Int32} (hi : InS E i) {kc ks : Nat} {σ : Sg} (hj : Jx σ) (hR : kc + 1 ≤ 601024 ∧ ks + 6 ≤ 7293034) (kk : ∀ ω, Jx ω → X E p l e room_1 s m args below meth c Q 7 (kc + 1) (ks + 6) ω 1568 (LL E i) []) : X E p l e room_1 s m args below meth c Q 7 kc ks σ 1159 (LL E i) [] := by
  obtain ⟨hk, hs⟩ := hR
  obtain ⟨r, υ, ω, e1, e2, hj2⟩ := sj_q hj (fun b W tn fl n k h => q_net h.i (wS E (i + 1)))
  have c5 := c5_of hj.fin
  have c6 : ckO υ 6 51 = true := by
    have e9 := e2
    unfold DX8_net at e9
    exact (chk_s e9).1
  refine x_aload_n (pc := 1159) C dL_law_1159 rfl rfl ?_
  refine x_aload_n (pc := 1160) C dL_law_1160 rfl rfl ?_
  refine x_iload (pc := 1161) C dL_law_1161 rfl ?_
  refine x_iconst (v := 1) (pc := 1163) C dL_law_1163 (by decide) ?_
  refine x_iadd (pc := 1164) C dL_law_1164 ?_
  refine x_sld (pc := 1165) C hi.1 dL_law_1165 ?_
  refine x_callV1 (pc := 1166) C (mX7_net E l e1) cl5 c5 cL_132 nX7_net sX7_net rfl rfl (Nat.le_of_ble_eq_true rfl) ⟨Nat.le_of_ble_eq_true rfl, Nat.le_of_ble_eq_true rfl, by show kc ≤ 601024; omega, by show ks ≤ 7293034; omega⟩ dL_law_1166 ?_
  refine x_aload_n (pc := 1169) C dL_law_1169 rfl rfl ?_
  refine x_aload_n (pc := 1170) C dL_law_1170 rfl rfl ?_
  refine x_iload (pc := 1171) C dL_law_1171 rfl ?_
  refine x_iconst (v := 1) (pc := 1173) C dL_law_1173 (by decide) ?_
  refine x_iadd (pc := 1174) C dL_law_1174 ?_
  refine x_sld (pc := 1175) C hi.1 dL_law_1175 ?_
  refine x_callV1 (pc := 1176) C (mX8_net E l e2) cl6 c6 cL_135 nX8_net sX8_net rfl rfl (Nat.le_of_ble_eq_true rfl) ⟨Nat.le_of_ble_eq_true rfl, Nat.le_of_ble_eq_true rfl, by show kc ≤ 601024; omega, by show ks ≤ 7293034; omega⟩ dL_law_1176 ?_
  refine x_icmp_eq (pc := 1179) (tgt := 1568) C dL_law_1179 (by decide) (fun _ => ?_) (fun q => absurd rfl q)
  exact x_wide (by omega) (by omega) (kk ω hj2)
theorem k_1184 (C : Cx E p s m args meth c RL cL_law 7) (hV : KV E s) (hf : l.stackTraces = false) {i : Int32} (hi : InS E i) {kc ks : Nat} {σ : Sg} (hj : Jx σ) (hR : kc + 1 ≤ 601024 ∧ ks + 6 ≤ 7293034) (kk : ∀ ω, Jx ω → X E p l e room_1 s m args below meth c Q 7 (kc + 1) (ks + 6) ω 1568 (LL E i) []) : X E p l e room_1 s m args below meth c Q 7 kc ks σ 1184 (LL E i) [] := by
  obtain ⟨hk, hs⟩ := hR
  obtain ⟨r, υ, ω, e1, e2, hj2⟩ := sj_q hj (fun b W tn fl n k h => q_cleared h.i (wS E (i + 1)))
  have c5 := c5_of hj.fin
  have c6 : ckO υ 6 51 = true := by
    have e9 := e2
    unfold DX8_cleared at e9
    exact (chk_s e9).1
  refine x_aload_n (pc := 1184) C dL_law_1184 rfl rfl ?_
  refine x_aload_n (pc := 1185) C dL_law_1185 rfl rfl ?_
  refine x_iload (pc := 1186) C dL_law_1186 rfl ?_
  refine x_iconst (v := 1) (pc := 1188) C dL_law_1188 (by decide) ?_
  refine x_iadd (pc := 1189) C dL_law_1189 ?_
  refine x_sld (pc := 1190) C hi.1 dL_law_1190 ?_
  refine x_callV1 (pc := 1191) C (mX7_cleared E l e1) cl5 c5 cL_136 nX7_cleared sX7_cleared rfl rfl (Nat.le_of_ble_eq_true rfl) ⟨Nat.le_of_ble_eq_true rfl, Nat.le_of_ble_eq_true rfl, by show kc ≤ 601024; omega, by show ks ≤ 7293034; omega⟩ dL_law_1191 ?_
  refine x_aload_n (pc := 1194) C dL_law_1194 rfl rfl ?_
  refine x_aload_n (pc := 1195) C dL_law_1195 rfl rfl ?_
  refine x_iload (pc := 1196) C dL_law_1196 rfl ?_
  refine x_iconst (v := 1) (pc := 1198) C dL_law_1198 (by decide) ?_
  refine x_iadd (pc := 1199) C dL_law_1199 ?_
  refine x_sld (pc := 1200) C hi.1 dL_law_1200 ?_
  refine x_callV1 (pc := 1201) C (mX8_cleared E l e2) cl6 c6 cL_139 nX8_cleared sX8_cleared rfl rfl (Nat.le_of_ble_eq_true rfl) ⟨Nat.le_of_ble_eq_true rfl, Nat.le_of_ble_eq_true rfl, by show kc ≤ 601024; omega, by show ks ≤ 7293034; omega⟩ dL_law_1201 ?_
  refine x_icmp_eq (pc := 1204) (tgt := 1568) C dL_law_1204 (by decide) (fun _ => ?_) (fun q => absurd rfl q)
  exact x_wide (by omega) (by omega) (kk ω hj2)
theorem k_1209 (C : Cx E p s m args meth c RL cL_law 7) (hV : KV E s) (hf : l.stackTraces = false) {i : Int32} (hi : InS E i) {kc ks : Nat} {σ : Sg} (hj : Jx σ) (hR : kc + 1 ≤ 601024 ∧ ks + 6 ≤ 7293034) (kk : ∀ ω, Jx ω → X E p l e room_1 s m args below meth c Q 7 (kc + 1) (ks + 6) ω 1568 (LL E i) []) : X E p l e room_1 s m args below meth c Q 7 kc ks σ 1209 (LL E i) [] := by
  obtain ⟨hk, hs⟩ := hR
  obtain ⟨r, υ, ω, e1, e2, hj2⟩ := sj_q hj (fun b W tn fl n k h => q_payments h.i )
  have c5 := c5_of hj.fin
  have c6 : ckO υ 6 51 = true := by
    have e9 := e2
    unfold DX8_payments at e9
    exact (chk_s e9).1
  refine x_aload_n (pc := 1209) C dL_law_1209 rfl rfl ?_
  refine x_callV1 (pc := 1210) C (mX7_payments E l e1) cl5 c5 cL_140 nX7_payments sX7_payments rfl rfl (Nat.le_of_ble_eq_true rfl) ⟨Nat.le_of_ble_eq_true rfl, Nat.le_of_ble_eq_true rfl, by show kc ≤ 601024; omega, by show ks ≤ 7293034; omega⟩ dL_law_1210 ?_
  refine x_aload_n (pc := 1213) C dL_law_1213 rfl rfl ?_
  refine x_callV1 (pc := 1214) C (mX8_payments E l e2) cl6 c6 cL_143 nX8_payments sX8_payments rfl rfl (Nat.le_of_ble_eq_true rfl) ⟨Nat.le_of_ble_eq_true rfl, Nat.le_of_ble_eq_true rfl, by show kc ≤ 601024; omega, by show ks ≤ 7293034; omega⟩ dL_law_1214 ?_
  refine x_icmp_eq (pc := 1217) (tgt := 1568) C dL_law_1217 (by decide) (fun _ => ?_) (fun q => absurd rfl q)
  exact x_wide (by omega) (by omega) (kk ω hj2)
theorem k_1222 (C : Cx E p s m args meth c RL cL_law 7) (hV : KV E s) (hf : l.stackTraces = false) {i : Int32} (hi : InS E i) {kc ks : Nat} {σ : Sg} (hj : Jx σ) (hR : kc + 1 ≤ 601024 ∧ ks + 6 ≤ 7293034) (kk : ∀ ω, Jx ω → X E p l e room_1 s m args below meth c Q 7 (kc + 1) (ks + 6) ω 1568 (LL E i) []) : X E p l e room_1 s m args below meth c Q 7 kc ks σ 1222 (LL E i) [] := by
  obtain ⟨hk, hs⟩ := hR
  obtain ⟨r, υ, ω, e1, e2, hj2⟩ := sj_q hj (fun b W tn fl n k h => q_payment h.i (wS E (i + 1)) (wS E (i + 2)))
  have c5 := c5_of hj.fin
  have c6 : ckO υ 6 51 = true := by
    have e9 := e2
    unfold DX8_payment at e9
    exact (chk_s e9).1
  refine x_aload_n (pc := 1222) C dL_law_1222 rfl rfl ?_
  refine x_aload_n (pc := 1223) C dL_law_1223 rfl rfl ?_
  refine x_iload (pc := 1224) C dL_law_1224 rfl ?_
  refine x_iconst (v := 1) (pc := 1226) C dL_law_1226 (by decide) ?_
  refine x_iadd (pc := 1227) C dL_law_1227 ?_
  refine x_sld (pc := 1228) C hi.1 dL_law_1228 ?_
  refine x_aload_n (pc := 1229) C dL_law_1229 rfl rfl ?_
  refine x_iload (pc := 1230) C dL_law_1230 rfl ?_
  refine x_iconst (v := 2) (pc := 1232) C dL_law_1232 (by decide) ?_
  refine x_iadd (pc := 1233) C dL_law_1233 ?_
  refine x_sld (pc := 1234) C hi.2.1 dL_law_1234 ?_
  refine x_callV1 (pc := 1235) C (mX7_payment E l e1) cl5 c5 cL_144 nX7_payment sX7_payment rfl rfl (Nat.le_of_ble_eq_true rfl) ⟨Nat.le_of_ble_eq_true rfl, Nat.le_of_ble_eq_true rfl, by show kc ≤ 601024; omega, by show ks ≤ 7293034; omega⟩ dL_law_1235 ?_
  refine x_aload_n (pc := 1238) C dL_law_1238 rfl rfl ?_
  refine x_aload_n (pc := 1239) C dL_law_1239 rfl rfl ?_
  refine x_iload (pc := 1240) C dL_law_1240 rfl ?_
  refine x_iconst (v := 1) (pc := 1242) C dL_law_1242 (by decide) ?_
  refine x_iadd (pc := 1243) C dL_law_1243 ?_
  refine x_sld (pc := 1244) C hi.1 dL_law_1244 ?_
  refine x_aload_n (pc := 1245) C dL_law_1245 rfl rfl ?_
  refine x_iload (pc := 1246) C dL_law_1246 rfl ?_
  refine x_iconst (v := 2) (pc := 1248) C dL_law_1248 (by decide) ?_
  refine x_iadd (pc := 1249) C dL_law_1249 ?_
  refine x_sld (pc := 1250) C hi.2.1 dL_law_1250 ?_
  refine x_callV1 (pc := 1251) C (mX8_payment E l e2) cl6 c6 cL_147 nX8_payment sX8_payment rfl rfl (Nat.le_of_ble_eq_true rfl) ⟨Nat.le_of_ble_eq_true rfl, Nat.le_of_ble_eq_true rfl, by show kc ≤ 601024; omega, by show ks ≤ 7293034; omega⟩ dL_law_1251 ?_
  refine x_icmp_eq (pc := 1254) (tgt := 1568) C dL_law_1254 (by decide) (fun _ => ?_) (fun q => absurd rfl q)
  exact x_wide (by omega) (by omega) (kk ω hj2)
theorem k_1259 (C : Cx E p s m args meth c RL cL_law 7) (hV : KV E s) (hf : l.stackTraces = false) {i : Int32} (hi : InS E i) {kc ks : Nat} {σ : Sg} (hj : Jx σ) (hR : kc + 1 ≤ 601024 ∧ ks + 6 ≤ 7293034) (kk : ∀ ω, Jx ω → X E p l e room_1 s m args below meth c Q 7 (kc + 1) (ks + 6) ω 1568 (LL E i) []) : X E p l e room_1 s m args below meth c Q 7 kc ks σ 1259 (LL E i) [] := by
  obtain ⟨hk, hs⟩ := hR
  obtain ⟨r, υ, ω, e1, e2, hj2⟩ := sj_q hj (fun b W tn fl n k h => q_wouldEndorse h.i (wS E (i + 1)) (wS E (i + 2)) (wS E (i + 3)))
  have c5 := c5_of hj.fin
  have c6 : ckO υ 6 51 = true := by
    have e9 := e2
    unfold DX8_wouldEndorse at e9
    exact (chk_s e9).1
  refine x_aload_n (pc := 1259) C dL_law_1259 rfl rfl ?_
  refine x_aload_n (pc := 1260) C dL_law_1260 rfl rfl ?_
  refine x_iload (pc := 1261) C dL_law_1261 rfl ?_
  refine x_iconst (v := 1) (pc := 1263) C dL_law_1263 (by decide) ?_
  refine x_iadd (pc := 1264) C dL_law_1264 ?_
  refine x_sld (pc := 1265) C hi.1 dL_law_1265 ?_
  refine x_aload_n (pc := 1266) C dL_law_1266 rfl rfl ?_
  refine x_iload (pc := 1267) C dL_law_1267 rfl ?_
  refine x_iconst (v := 2) (pc := 1269) C dL_law_1269 (by decide) ?_
  refine x_iadd (pc := 1270) C dL_law_1270 ?_
  refine x_sld (pc := 1271) C hi.2.1 dL_law_1271 ?_
  refine x_aload_n (pc := 1272) C dL_law_1272 rfl rfl ?_
  refine x_iload (pc := 1273) C dL_law_1273 rfl ?_
  refine x_iconst (v := 3) (pc := 1275) C dL_law_1275 (by decide) ?_
  refine x_iadd (pc := 1276) C dL_law_1276 ?_
  refine x_sld (pc := 1277) C hi.2.2.1 dL_law_1277 ?_
  refine x_callV1 (pc := 1278) C (mX7_wouldEndorse E l e1) cl5 c5 cL_148 nX7_wouldEndorse sX7_wouldEndorse rfl rfl (Nat.le_of_ble_eq_true rfl) ⟨Nat.le_of_ble_eq_true rfl, Nat.le_of_ble_eq_true rfl, by show kc ≤ 601024; omega, by show ks ≤ 7293034; omega⟩ dL_law_1278 ?_
  refine x_aload_n (pc := 1281) C dL_law_1281 rfl rfl ?_
  refine x_aload_n (pc := 1282) C dL_law_1282 rfl rfl ?_
  refine x_iload (pc := 1283) C dL_law_1283 rfl ?_
  refine x_iconst (v := 1) (pc := 1285) C dL_law_1285 (by decide) ?_
  refine x_iadd (pc := 1286) C dL_law_1286 ?_
  refine x_sld (pc := 1287) C hi.1 dL_law_1287 ?_
  refine x_aload_n (pc := 1288) C dL_law_1288 rfl rfl ?_
  refine x_iload (pc := 1289) C dL_law_1289 rfl ?_
  refine x_iconst (v := 2) (pc := 1291) C dL_law_1291 (by decide) ?_
  refine x_iadd (pc := 1292) C dL_law_1292 ?_
  refine x_sld (pc := 1293) C hi.2.1 dL_law_1293 ?_
  refine x_aload_n (pc := 1294) C dL_law_1294 rfl rfl ?_
  refine x_iload (pc := 1295) C dL_law_1295 rfl ?_
  refine x_iconst (v := 3) (pc := 1297) C dL_law_1297 (by decide) ?_
  refine x_iadd (pc := 1298) C dL_law_1298 ?_
  refine x_sld (pc := 1299) C hi.2.2.1 dL_law_1299 ?_
  refine x_callV1 (pc := 1300) C (mX8_wouldEndorse E l e2) cl6 c6 cL_151 nX8_wouldEndorse sX8_wouldEndorse rfl rfl (Nat.le_of_ble_eq_true rfl) ⟨Nat.le_of_ble_eq_true rfl, Nat.le_of_ble_eq_true rfl, by show kc ≤ 601024; omega, by show ks ≤ 7293034; omega⟩ dL_law_1300 ?_
  refine x_icmp_eq (pc := 1303) (tgt := 1568) C dL_law_1303 (by decide) (fun _ => ?_) (fun q => absurd rfl q)
  exact x_wide (by omega) (by omega) (kk ω hj2)
theorem k_1308 (C : Cx E p s m args meth c RL cL_law 7) (hV : KV E s) (hf : l.stackTraces = false) {i : Int32} (hi : InS E i) {kc ks : Nat} {σ : Sg} (hj : Jx σ) (hR : kc + 1 ≤ 601024 ∧ ks + 6 ≤ 7293034) (kk : ∀ ω, Jx ω → X E p l e room_1 s m args below meth c Q 7 (kc + 1) (ks + 6) ω 1568 (LL E i) []) : X E p l e room_1 s m args below meth c Q 7 kc ks σ 1308 (LL E i) [] := by
  obtain ⟨hk, hs⟩ := hR
  obtain ⟨r, υ, ω, e1, e2, hj2⟩ := sj_q hj (fun b W tn fl n k h => q_cheapest h.i (wS E (i + 1)) (wS E (i + 2)) (wS E (i + 3)))
  have c5 := c5_of hj.fin
  have c6 : ckO υ 6 51 = true := by
    have e9 := e2
    unfold DX8_cheapest at e9
    exact (chk_s e9).1
  refine x_aload_n (pc := 1308) C dL_law_1308 rfl rfl ?_
  refine x_aload_n (pc := 1309) C dL_law_1309 rfl rfl ?_
  refine x_iload (pc := 1310) C dL_law_1310 rfl ?_
  refine x_iconst (v := 1) (pc := 1312) C dL_law_1312 (by decide) ?_
  refine x_iadd (pc := 1313) C dL_law_1313 ?_
  refine x_sld (pc := 1314) C hi.1 dL_law_1314 ?_
  refine x_aload_n (pc := 1315) C dL_law_1315 rfl rfl ?_
  refine x_iload (pc := 1316) C dL_law_1316 rfl ?_
  refine x_iconst (v := 2) (pc := 1318) C dL_law_1318 (by decide) ?_
  refine x_iadd (pc := 1319) C dL_law_1319 ?_
  refine x_sld (pc := 1320) C hi.2.1 dL_law_1320 ?_
  refine x_aload_n (pc := 1321) C dL_law_1321 rfl rfl ?_
  refine x_iload (pc := 1322) C dL_law_1322 rfl ?_
  refine x_iconst (v := 3) (pc := 1324) C dL_law_1324 (by decide) ?_
  refine x_iadd (pc := 1325) C dL_law_1325 ?_
  refine x_sld (pc := 1326) C hi.2.2.1 dL_law_1326 ?_
  refine x_callV1 (pc := 1327) C (mX7_cheapest E l e1) cl5 c5 cL_152 nX7_cheapest sX7_cheapest rfl rfl (Nat.le_of_ble_eq_true rfl) ⟨Nat.le_of_ble_eq_true rfl, Nat.le_of_ble_eq_true rfl, by show kc ≤ 601024; omega, by show ks ≤ 7293034; omega⟩ dL_law_1327 ?_
  refine x_aload_n (pc := 1330) C dL_law_1330 rfl rfl ?_
  refine x_aload_n (pc := 1331) C dL_law_1331 rfl rfl ?_
  refine x_iload (pc := 1332) C dL_law_1332 rfl ?_
  refine x_iconst (v := 1) (pc := 1334) C dL_law_1334 (by decide) ?_
  refine x_iadd (pc := 1335) C dL_law_1335 ?_
  refine x_sld (pc := 1336) C hi.1 dL_law_1336 ?_
  refine x_aload_n (pc := 1337) C dL_law_1337 rfl rfl ?_
  refine x_iload (pc := 1338) C dL_law_1338 rfl ?_
  refine x_iconst (v := 2) (pc := 1340) C dL_law_1340 (by decide) ?_
  refine x_iadd (pc := 1341) C dL_law_1341 ?_
  refine x_sld (pc := 1342) C hi.2.1 dL_law_1342 ?_
  refine x_aload_n (pc := 1343) C dL_law_1343 rfl rfl ?_
  refine x_iload (pc := 1344) C dL_law_1344 rfl ?_
  refine x_iconst (v := 3) (pc := 1346) C dL_law_1346 (by decide) ?_
  refine x_iadd (pc := 1347) C dL_law_1347 ?_
  refine x_sld (pc := 1348) C hi.2.2.1 dL_law_1348 ?_
  refine x_callV1 (pc := 1349) C (mX8_cheapest E l e2) cl6 c6 cL_155 nX8_cheapest sX8_cheapest rfl rfl (Nat.le_of_ble_eq_true rfl) ⟨Nat.le_of_ble_eq_true rfl, Nat.le_of_ble_eq_true rfl, by show kc ≤ 601024; omega, by show ks ≤ 7293034; omega⟩ dL_law_1349 ?_
  refine x_icmp_eq (pc := 1352) (tgt := 1568) C dL_law_1352 (by decide) (fun _ => ?_) (fun q => absurd rfl q)
  exact x_wide (by omega) (by omega) (kk ω hj2)
theorem k_1357 (C : Cx E p s m args meth c RL cL_law 7) (hV : KV E s) (hf : l.stackTraces = false) {i : Int32} (hi : InS E i) {kc ks : Nat} {σ : Sg} (hj : Jx σ) (hR : kc + 1 ≤ 601024 ∧ ks + 6 ≤ 7293034) (kk : ∀ ω, Jx ω → X E p l e room_1 s m args below meth c Q 7 (kc + 1) (ks + 6) ω 1568 (LL E i) []) : X E p l e room_1 s m args below meth c Q 7 kc ks σ 1357 (LL E i) [] := by
  obtain ⟨hk, hs⟩ := hR
  obtain ⟨r, υ, ω, e1, e2, hj2⟩ := sj_q hj (fun b W tn fl n k h => q_carrier h.i (wS E (i + 1)) (wS E (i + 2)))
  have c5 := c5_of hj.fin
  have c6 : ckO υ 6 51 = true := by
    have e9 := e2
    unfold DX8_carrier at e9
    exact (chk_s e9).1
  refine x_aload_n (pc := 1357) C dL_law_1357 rfl rfl ?_
  refine x_aload_n (pc := 1358) C dL_law_1358 rfl rfl ?_
  refine x_iload (pc := 1359) C dL_law_1359 rfl ?_
  refine x_iconst (v := 1) (pc := 1361) C dL_law_1361 (by decide) ?_
  refine x_iadd (pc := 1362) C dL_law_1362 ?_
  refine x_sld (pc := 1363) C hi.1 dL_law_1363 ?_
  refine x_aload_n (pc := 1364) C dL_law_1364 rfl rfl ?_
  refine x_iload (pc := 1365) C dL_law_1365 rfl ?_
  refine x_iconst (v := 2) (pc := 1367) C dL_law_1367 (by decide) ?_
  refine x_iadd (pc := 1368) C dL_law_1368 ?_
  refine x_sld (pc := 1369) C hi.2.1 dL_law_1369 ?_
  refine x_callV1 (pc := 1370) C (mX7_carrier E l e1) cl5 c5 cL_156 nX7_carrier sX7_carrier rfl rfl (Nat.le_of_ble_eq_true rfl) ⟨Nat.le_of_ble_eq_true rfl, Nat.le_of_ble_eq_true rfl, by show kc ≤ 601024; omega, by show ks ≤ 7293034; omega⟩ dL_law_1370 ?_
  refine x_aload_n (pc := 1373) C dL_law_1373 rfl rfl ?_
  refine x_aload_n (pc := 1374) C dL_law_1374 rfl rfl ?_
  refine x_iload (pc := 1375) C dL_law_1375 rfl ?_
  refine x_iconst (v := 1) (pc := 1377) C dL_law_1377 (by decide) ?_
  refine x_iadd (pc := 1378) C dL_law_1378 ?_
  refine x_sld (pc := 1379) C hi.1 dL_law_1379 ?_
  refine x_aload_n (pc := 1380) C dL_law_1380 rfl rfl ?_
  refine x_iload (pc := 1381) C dL_law_1381 rfl ?_
  refine x_iconst (v := 2) (pc := 1383) C dL_law_1383 (by decide) ?_
  refine x_iadd (pc := 1384) C dL_law_1384 ?_
  refine x_sld (pc := 1385) C hi.2.1 dL_law_1385 ?_
  refine x_callV1 (pc := 1386) C (mX8_carrier E l e2) cl6 c6 cL_159 nX8_carrier sX8_carrier rfl rfl (Nat.le_of_ble_eq_true rfl) ⟨Nat.le_of_ble_eq_true rfl, Nat.le_of_ble_eq_true rfl, by show kc ≤ 601024; omega, by show ks ≤ 7293034; omega⟩ dL_law_1386 ?_
  refine x_icmp_eq (pc := 1389) (tgt := 1568) C dL_law_1389 (by decide) (fun _ => ?_) (fun q => absurd rfl q)
  exact x_wide (by omega) (by omega) (kk ω hj2)
theorem k_1394 (C : Cx E p s m args meth c RL cL_law 7) (hV : KV E s) (hf : l.stackTraces = false) {i : Int32} (hi : InS E i) {kc ks : Nat} {σ : Sg} (hj : Jx σ) (hR : kc + 1 ≤ 601024 ∧ ks + 6 ≤ 7293034) (kk : ∀ ω, Jx ω → X E p l e room_1 s m args below meth c Q 7 (kc + 1) (ks + 6) ω 1568 (LL E i) []) : X E p l e room_1 s m args below meth c Q 7 kc ks σ 1394 (LL E i) [] := by
  obtain ⟨hk, hs⟩ := hR
  obtain ⟨r, υ, ω, e1, e2, hj2⟩ := sj_q hj (fun b W tn fl n k h => q_perMile h.i (wS E (i + 1)))
  have c5 := c5_of hj.fin
  have c6 : ckO υ 6 51 = true := by
    have e9 := e2
    unfold DX8_perMile at e9
    exact (chk_s e9).1
  refine x_aload_n (pc := 1394) C dL_law_1394 rfl rfl ?_
  refine x_aload_n (pc := 1395) C dL_law_1395 rfl rfl ?_
  refine x_iload (pc := 1396) C dL_law_1396 rfl ?_
  refine x_iconst (v := 1) (pc := 1398) C dL_law_1398 (by decide) ?_
  refine x_iadd (pc := 1399) C dL_law_1399 ?_
  refine x_sld (pc := 1400) C hi.1 dL_law_1400 ?_
  refine x_callV1 (pc := 1401) C (mX7_perMile E l e1) cl5 c5 cL_160 nX7_perMile sX7_perMile rfl rfl (Nat.le_of_ble_eq_true rfl) ⟨Nat.le_of_ble_eq_true rfl, Nat.le_of_ble_eq_true rfl, by show kc ≤ 601024; omega, by show ks ≤ 7293034; omega⟩ dL_law_1401 ?_
  refine x_aload_n (pc := 1404) C dL_law_1404 rfl rfl ?_
  refine x_aload_n (pc := 1405) C dL_law_1405 rfl rfl ?_
  refine x_iload (pc := 1406) C dL_law_1406 rfl ?_
  refine x_iconst (v := 1) (pc := 1408) C dL_law_1408 (by decide) ?_
  refine x_iadd (pc := 1409) C dL_law_1409 ?_
  refine x_sld (pc := 1410) C hi.1 dL_law_1410 ?_
  refine x_callV1 (pc := 1411) C (mX8_perMile E l e2) cl6 c6 cL_163 nX8_perMile sX8_perMile rfl rfl (Nat.le_of_ble_eq_true rfl) ⟨Nat.le_of_ble_eq_true rfl, Nat.le_of_ble_eq_true rfl, by show kc ≤ 601024; omega, by show ks ≤ 7293034; omega⟩ dL_law_1411 ?_
  refine x_icmp_eq (pc := 1414) (tgt := 1568) C dL_law_1414 (by decide) (fun _ => ?_) (fun q => absurd rfl q)
  exact x_wide (by omega) (by omega) (kk ω hj2)
theorem k_1419 (C : Cx E p s m args meth c RL cL_law 7) (hV : KV E s) (hf : l.stackTraces = false) {i : Int32} (hi : InS E i) {kc ks : Nat} {σ : Sg} (hj : Jx σ) (hR : kc + 1 ≤ 601024 ∧ ks + 6 ≤ 7293034) (kk : ∀ ω, Jx ω → X E p l e room_1 s m args below meth c Q 7 (kc + 1) (ks + 6) ω 1568 (LL E i) []) : X E p l e room_1 s m args below meth c Q 7 kc ks σ 1419 (LL E i) [] := by
  obtain ⟨hk, hs⟩ := hR
  obtain ⟨r, υ, ω, e1, e2, hj2⟩ := sj_q hj (fun b W tn fl n k h => q_ranked h.i (wS E (i + 1)))
  have c5 := c5_of hj.fin
  have c6 : ckO υ 6 51 = true := by
    have e9 := e2
    unfold DX8_ranked at e9
    exact (chk_s e9).1
  refine x_aload_n (pc := 1419) C dL_law_1419 rfl rfl ?_
  refine x_aload_n (pc := 1420) C dL_law_1420 rfl rfl ?_
  refine x_iload (pc := 1421) C dL_law_1421 rfl ?_
  refine x_iconst (v := 1) (pc := 1423) C dL_law_1423 (by decide) ?_
  refine x_iadd (pc := 1424) C dL_law_1424 ?_
  refine x_sld (pc := 1425) C hi.1 dL_law_1425 ?_
  refine x_callV1 (pc := 1426) C (mX7_ranked E l e1) cl5 c5 cL_164 nX7_ranked sX7_ranked rfl rfl (Nat.le_of_ble_eq_true rfl) ⟨Nat.le_of_ble_eq_true rfl, Nat.le_of_ble_eq_true rfl, by show kc ≤ 601024; omega, by show ks ≤ 7293034; omega⟩ dL_law_1426 ?_
  refine x_aload_n (pc := 1429) C dL_law_1429 rfl rfl ?_
  refine x_aload_n (pc := 1430) C dL_law_1430 rfl rfl ?_
  refine x_iload (pc := 1431) C dL_law_1431 rfl ?_
  refine x_iconst (v := 1) (pc := 1433) C dL_law_1433 (by decide) ?_
  refine x_iadd (pc := 1434) C dL_law_1434 ?_
  refine x_sld (pc := 1435) C hi.1 dL_law_1435 ?_
  refine x_callV1 (pc := 1436) C (mX8_ranked E l e2) cl6 c6 cL_167 nX8_ranked sX8_ranked rfl rfl (Nat.le_of_ble_eq_true rfl) ⟨Nat.le_of_ble_eq_true rfl, Nat.le_of_ble_eq_true rfl, by show kc ≤ 601024; omega, by show ks ≤ 7293034; omega⟩ dL_law_1436 ?_
  refine x_icmp_eq (pc := 1439) (tgt := 1568) C dL_law_1439 (by decide) (fun _ => ?_) (fun q => absurd rfl q)
  exact x_wide (by omega) (by omega) (kk ω hj2)
theorem k_1444 (C : Cx E p s m args meth c RL cL_law 7) (hV : KV E s) (hf : l.stackTraces = false) {i : Int32} (hi : InS E i) {kc ks : Nat} {σ : Sg} (hj : Jx σ) (hR : kc + 1 ≤ 601024 ∧ ks + 6 ≤ 7293034) (kk : ∀ ω, Jx ω → X E p l e room_1 s m args below meth c Q 7 (kc + 1) (ks + 6) ω 1568 (LL E i) []) : X E p l e room_1 s m args below meth c Q 7 kc ks σ 1444 (LL E i) [] := by
  obtain ⟨hk, hs⟩ := hR
  obtain ⟨r, υ, ω, e1, e2, hj2⟩ := sj_q hj (fun b W tn fl n k h => q_most h.i (wS E (i + 1)) (wS E (i + 2)))
  have c5 := c5_of hj.fin
  have c6 : ckO υ 6 51 = true := by
    have e9 := e2
    unfold DX8_most at e9
    exact (chk_s e9).1
  refine x_aload_n (pc := 1444) C dL_law_1444 rfl rfl ?_
  refine x_aload_n (pc := 1445) C dL_law_1445 rfl rfl ?_
  refine x_iload (pc := 1446) C dL_law_1446 rfl ?_
  refine x_iconst (v := 1) (pc := 1448) C dL_law_1448 (by decide) ?_
  refine x_iadd (pc := 1449) C dL_law_1449 ?_
  refine x_sld (pc := 1450) C hi.1 dL_law_1450 ?_
  refine x_aload_n (pc := 1451) C dL_law_1451 rfl rfl ?_
  refine x_iload (pc := 1452) C dL_law_1452 rfl ?_
  refine x_iconst (v := 2) (pc := 1454) C dL_law_1454 (by decide) ?_
  refine x_iadd (pc := 1455) C dL_law_1455 ?_
  refine x_sld (pc := 1456) C hi.2.1 dL_law_1456 ?_
  refine x_callV1 (pc := 1457) C (mX7_most E l e1) cl5 c5 cL_168 nX7_most sX7_most rfl rfl (Nat.le_of_ble_eq_true rfl) ⟨Nat.le_of_ble_eq_true rfl, Nat.le_of_ble_eq_true rfl, by show kc ≤ 601024; omega, by show ks ≤ 7293034; omega⟩ dL_law_1457 ?_
  refine x_aload_n (pc := 1460) C dL_law_1460 rfl rfl ?_
  refine x_aload_n (pc := 1461) C dL_law_1461 rfl rfl ?_
  refine x_iload (pc := 1462) C dL_law_1462 rfl ?_
  refine x_iconst (v := 1) (pc := 1464) C dL_law_1464 (by decide) ?_
  refine x_iadd (pc := 1465) C dL_law_1465 ?_
  refine x_sld (pc := 1466) C hi.1 dL_law_1466 ?_
  refine x_aload_n (pc := 1467) C dL_law_1467 rfl rfl ?_
  refine x_iload (pc := 1468) C dL_law_1468 rfl ?_
  refine x_iconst (v := 2) (pc := 1470) C dL_law_1470 (by decide) ?_
  refine x_iadd (pc := 1471) C dL_law_1471 ?_
  refine x_sld (pc := 1472) C hi.2.1 dL_law_1472 ?_
  refine x_callV1 (pc := 1473) C (mX8_most E l e2) cl6 c6 cL_171 nX8_most sX8_most rfl rfl (Nat.le_of_ble_eq_true rfl) ⟨Nat.le_of_ble_eq_true rfl, Nat.le_of_ble_eq_true rfl, by show kc ≤ 601024; omega, by show ks ≤ 7293034; omega⟩ dL_law_1473 ?_
  refine x_icmp_eq (pc := 1476) (tgt := 1568) C dL_law_1476 (by decide) (fun _ => ?_) (fun q => absurd rfl q)
  exact x_wide (by omega) (by omega) (kk ω hj2)
theorem k_1481 (C : Cx E p s m args meth c RL cL_law 7) (hV : KV E s) (hf : l.stackTraces = false) {i : Int32} (hi : InS E i) {kc ks : Nat} {σ : Sg} (hj : Jx σ) (hR : kc + 1 ≤ 601024 ∧ ks + 6 ≤ 7293034) (kk : ∀ ω, Jx ω → X E p l e room_1 s m args below meth c Q 7 (kc + 1) (ks + 6) ω 1568 (LL E i) []) : X E p l e room_1 s m args below meth c Q 7 kc ks σ 1481 (LL E i) [] := by
  obtain ⟨hk, hs⟩ := hR
  obtain ⟨r, υ, ω, e1, e2, hj2⟩ := sj_q hj (fun b W tn fl n k h => q_may h.i (wS E (i + 1)) (wS E (i + 2)))
  have c5 := c5_of hj.fin
  have c6 : ckO υ 6 51 = true := by
    have e9 := e2
    unfold DX8_may at e9
    exact (chk_s e9).1
  refine x_aload_n (pc := 1481) C dL_law_1481 rfl rfl ?_
  refine x_aload_n (pc := 1482) C dL_law_1482 rfl rfl ?_
  refine x_iload (pc := 1483) C dL_law_1483 rfl ?_
  refine x_iconst (v := 1) (pc := 1485) C dL_law_1485 (by decide) ?_
  refine x_iadd (pc := 1486) C dL_law_1486 ?_
  refine x_sld (pc := 1487) C hi.1 dL_law_1487 ?_
  refine x_aload_n (pc := 1488) C dL_law_1488 rfl rfl ?_
  refine x_iload (pc := 1489) C dL_law_1489 rfl ?_
  refine x_iconst (v := 2) (pc := 1491) C dL_law_1491 (by decide) ?_
  refine x_iadd (pc := 1492) C dL_law_1492 ?_
  refine x_sld (pc := 1493) C hi.2.1 dL_law_1493 ?_
  refine x_callV1 (pc := 1494) C (mX7_may E l e1) cl5 c5 cL_172 nX7_may sX7_may rfl rfl (Nat.le_of_ble_eq_true rfl) ⟨Nat.le_of_ble_eq_true rfl, Nat.le_of_ble_eq_true rfl, by show kc ≤ 601024; omega, by show ks ≤ 7293034; omega⟩ dL_law_1494 ?_
  refine x_aload_n (pc := 1497) C dL_law_1497 rfl rfl ?_
  refine x_aload_n (pc := 1498) C dL_law_1498 rfl rfl ?_
  refine x_iload (pc := 1499) C dL_law_1499 rfl ?_
  refine x_iconst (v := 1) (pc := 1501) C dL_law_1501 (by decide) ?_
  refine x_iadd (pc := 1502) C dL_law_1502 ?_
  refine x_sld (pc := 1503) C hi.1 dL_law_1503 ?_
  refine x_aload_n (pc := 1504) C dL_law_1504 rfl rfl ?_
  refine x_iload (pc := 1505) C dL_law_1505 rfl ?_
  refine x_iconst (v := 2) (pc := 1507) C dL_law_1507 (by decide) ?_
  refine x_iadd (pc := 1508) C dL_law_1508 ?_
  refine x_sld (pc := 1509) C hi.2.1 dL_law_1509 ?_
  refine x_callV1 (pc := 1510) C (mX8_may E l e2) cl6 c6 cL_175 nX8_may sX8_may rfl rfl (Nat.le_of_ble_eq_true rfl) ⟨Nat.le_of_ble_eq_true rfl, Nat.le_of_ble_eq_true rfl, by show kc ≤ 601024; omega, by show ks ≤ 7293034; omega⟩ dL_law_1510 ?_
  refine x_icmp_eq (pc := 1513) (tgt := 1568) C dL_law_1513 (by decide) (fun _ => ?_) (fun q => absurd rfl q)
  exact x_wide (by omega) (by omega) (kk ω hj2)
theorem k_1518 (C : Cx E p s m args meth c RL cL_law 7) (hV : KV E s) (hf : l.stackTraces = false) {i : Int32} (hi : InS E i) {kc ks : Nat} {σ : Sg} (hj : Jx σ) (hR : kc + 1 ≤ 601024 ∧ ks + 6 ≤ 7293034) (kk : ∀ ω, Jx ω → X E p l e room_1 s m args below meth c Q 7 (kc + 1) (ks + 6) ω 1568 (LL E i) []) : X E p l e room_1 s m args below meth c Q 7 kc ks σ 1518 (LL E i) [] := by
  obtain ⟨hk, hs⟩ := hR
  obtain ⟨r, υ, ω, e1, e2, hj2⟩ := sj_q hj (fun b W tn fl n k h => q_money h.i (wS E (i + 1)))
  have c5 := c5_of hj.fin
  have c6 : ckO υ 6 51 = true := by
    have e9 := e2
    unfold DX8_money at e9
    exact (chk_s e9).1
  refine x_aload_n (pc := 1518) C dL_law_1518 rfl rfl ?_
  refine x_aload_n (pc := 1519) C dL_law_1519 rfl rfl ?_
  refine x_iload (pc := 1520) C dL_law_1520 rfl ?_
  refine x_iconst (v := 1) (pc := 1522) C dL_law_1522 (by decide) ?_
  refine x_iadd (pc := 1523) C dL_law_1523 ?_
  refine x_sld (pc := 1524) C hi.1 dL_law_1524 ?_
  refine x_callV1 (pc := 1525) C (mX7_money E l e1) cl5 c5 cL_176 nX7_money sX7_money rfl rfl (Nat.le_of_ble_eq_true rfl) ⟨Nat.le_of_ble_eq_true rfl, Nat.le_of_ble_eq_true rfl, by show kc ≤ 601024; omega, by show ks ≤ 7293034; omega⟩ dL_law_1525 ?_
  refine x_aload_n (pc := 1528) C dL_law_1528 rfl rfl ?_
  refine x_aload_n (pc := 1529) C dL_law_1529 rfl rfl ?_
  refine x_iload (pc := 1530) C dL_law_1530 rfl ?_
  refine x_iconst (v := 1) (pc := 1532) C dL_law_1532 (by decide) ?_
  refine x_iadd (pc := 1533) C dL_law_1533 ?_
  refine x_sld (pc := 1534) C hi.1 dL_law_1534 ?_
  refine x_callV1 (pc := 1535) C (mX8_money E l e2) cl6 c6 cL_179 nX8_money sX8_money rfl rfl (Nat.le_of_ble_eq_true rfl) ⟨Nat.le_of_ble_eq_true rfl, Nat.le_of_ble_eq_true rfl, by show kc ≤ 601024; omega, by show ks ≤ 7293034; omega⟩ dL_law_1535 ?_
  refine x_icmp_eq (pc := 1538) (tgt := 1568) C dL_law_1538 (by decide) (fun _ => ?_) (fun q => absurd rfl q)
  exact x_wide (by omega) (by omega) (kk ω hj2)
theorem k_1543 (C : Cx E p s m args meth c RL cL_law 7) (hV : KV E s) (hf : l.stackTraces = false) {i : Int32} (hi : InS E i) {kc ks : Nat} {σ : Sg} (hj : Jx σ) (hR : kc + 1 ≤ 601024 ∧ ks + 6 ≤ 7293034) (kk : ∀ ω, Jx ω → X E p l e room_1 s m args below meth c Q 7 (kc + 1) (ks + 6) ω 1568 (LL E i) []) : X E p l e room_1 s m args below meth c Q 7 kc ks σ 1543 (LL E i) [] := by
  obtain ⟨hk, hs⟩ := hR
  obtain ⟨r, υ, ω, e1, e2, hj2⟩ := sj_q hj (fun b W tn fl n k h => q_count h.i (h.h.2.2.1.trans h.h.2.2.2.1.symm) (by obtain ⟨p, -, p1, p2, -⟩ := h.t.1; exact p1.trans p2.symm) (wS E (i + 1)))
  have c5 := c5_of hj.fin
  have c6 : ckO υ 6 51 = true := by
    have e9 := e2
    unfold DX8_count at e9
    exact (chk_s e9).1
  refine x_aload_n (pc := 1543) C dL_law_1543 rfl rfl ?_
  refine x_aload_n (pc := 1544) C dL_law_1544 rfl rfl ?_
  refine x_iload (pc := 1545) C dL_law_1545 rfl ?_
  refine x_iconst (v := 1) (pc := 1547) C dL_law_1547 (by decide) ?_
  refine x_iadd (pc := 1548) C dL_law_1548 ?_
  refine x_sld (pc := 1549) C hi.1 dL_law_1549 ?_
  refine x_callV1 (pc := 1550) C (mX7_count E l e1) cl5 c5 cL_180 nX7_count sX7_count rfl rfl (Nat.le_of_ble_eq_true rfl) ⟨Nat.le_of_ble_eq_true rfl, Nat.le_of_ble_eq_true rfl, by show kc ≤ 601024; omega, by show ks ≤ 7293034; omega⟩ dL_law_1550 ?_
  refine x_aload_n (pc := 1553) C dL_law_1553 rfl rfl ?_
  refine x_aload_n (pc := 1554) C dL_law_1554 rfl rfl ?_
  refine x_iload (pc := 1555) C dL_law_1555 rfl ?_
  refine x_iconst (v := 1) (pc := 1557) C dL_law_1557 (by decide) ?_
  refine x_iadd (pc := 1558) C dL_law_1558 ?_
  refine x_sld (pc := 1559) C hi.1 dL_law_1559 ?_
  refine x_callV1 (pc := 1560) C (mX8_count E l e2) cl6 c6 cL_183 nX8_count sX8_count rfl rfl (Nat.le_of_ble_eq_true rfl) ⟨Nat.le_of_ble_eq_true rfl, Nat.le_of_ble_eq_true rfl, by show kc ≤ 601024; omega, by show ks ≤ 7293034; omega⟩ dL_law_1560 ?_
  refine x_icmp_eq (pc := 1563) (tgt := 1568) C dL_law_1563 (by decide) (fun _ => ?_) (fun q => absurd rfl q)
  exact x_wide (by omega) (by omega) (kk ω hj2)
end
