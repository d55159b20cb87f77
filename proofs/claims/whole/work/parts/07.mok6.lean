theorem x_mk_Ref_begins : x_mkC tb_Ref_begins (12, yX12_begins, cX12_begins, (some .int), 1, false) 1591 108 1590 34 = true := by decide +kernel
theorem x_mk_Ref_takes : x_mkC tb_Ref_takes (12, yX12_takes, cX12_takes, (some .boolean), 1, false) 1673 108 1672 41 = true := by decide +kernel
theorem x_mk_Ref_isDigit : x_mkC tb_Ref_isDigit (12, yX12_isDigit, cX12_isDigit, (some .boolean), 0, false) 1704 108 1703 47 = true := by decide +kernel
theorem x_mk_Ref_takesOf : x_mkC tb_Ref_takesOf (12, yX12_takesOf, cX12_takesOf, (some .int), 1, false) 1601 108 1600 36 = true := by decide +kernel
theorem x_mk_Ref_number : x_mkC tb_Ref_number (12, yX12_number, cX12_number, (some .int), 1, false) 1710 108 1709 48 = true := by decide +kernel
theorem x_mk_Ref_digitIn : x_mkC tb_Ref_digitIn (12, yX12_digitIn, cX12_digitIn, (some .int), 2, false) 1596 108 1595 35 = true := by decide +kernel
theorem x_mk_Ref_faultOf : x_mkC tb_Ref_faultOf (12, yX12_faultOf, cX12_faultOf, (some .int), 3, false) 1680 108 1679 42 = true := by decide +kernel
theorem x_mk_Ref_gardens : x_mkC tb_Ref_gardens (12, yX12_gardens, cX12_gardens, (some .int), 0, false) 1587 108 1585 1586 = true := by decide +kernel
theorem x_mk_Ref_readsPram : x_mkC tb_Ref_readsPram (12, yX12_readsPram, cX12_readsPram, (some .boolean), 0, false) 1657 108 1656 37 = true := by decide +kernel
theorem x_mk_Ref_prams : x_mkC tb_Ref_prams (12, yX12_prams, cX12_prams, (some .int), 0, false) 1653 108 1651 1652 = true := by decide +kernel
theorem x_mk_Ref_codes : x_mkC tb_Ref_codes (12, yX12_codes, cX12_codes, none, 1, false) 1700 108 1699 46 = true := by decide +kernel
theorem x_mk_Ref_readsThing : x_mkC tb_Ref_readsThing (12, yX12_readsThing, cX12_readsThing, (some .boolean), 0, false) 1696 108 1695 45 = true := by decide +kernel
theorem x_mk_Ref_readsRank : x_mkC tb_Ref_readsRank (12, yX12_readsRank, cX12_readsRank, (some .boolean), 1, false) 1692 108 1691 44 = true := by decide +kernel
theorem x_mk_Ref_readsRule : x_mkC tb_Ref_readsRule (12, yX12_readsRule, cX12_readsRule, (some .int), 0, false) 1688 108 1687 43 = true := by decide +kernel
theorem x_mk_Ref_laysCode : x_mkC tb_Ref_laysCode (12, yX12_laysCode, cX12_laysCode, none, 2, false) 1718 108 1717 49 = true := by decide +kernel
theorem x_mk_Ref_rule : x_mkC tb_Ref_rule (12, yX12_rule, cX12_rule, (some .int), 0, false) 1684 108 1682 1683 = true := by decide +kernel
theorem x_mk_Ref_worked : x_mkC tb_Ref_worked (12, yX12_worked, cX12_worked, (some .int), 3, true) 1789 108 1788 0 = true := by decide +kernel
theorem x_mk_Ref_ruled : x_mkC tb_Ref_ruled (12, yX12_ruled, cX12_ruled, (some .int), 0, false) 1786 108 1785 59 = true := by decide +kernel
theorem x_mk_Ref_othersOn : x_mkC tb_Ref_othersOn (12, yX12_othersOn, cX12_othersOn, (some .int), 3, false) 1777 108 1776 58 = true := by decide +kernel
theorem x_mk_Ref_formed : x_mkC tb_Ref_formed (12, yX12_formed, cX12_formed, (some .int), 5, false) 1772 108 1771 57 = true := by decide +kernel
theorem x_mk_Ref_field : x_mkC tb_Ref_field (12, yX12_field, cX12_field, (some .int), 1, false) 1722 108 1720 1721 = true := by decide +kernel
theorem x_mk_Ref_pram : x_mkC tb_Ref_pram (12, yX12_pram, cX12_pram, (some .int), 2, false) 1730 108 1728 1729 = true := by decide +kernel
theorem x_mk_Ref_sheet : x_mkC tb_Ref_sheet (12, yX12_sheet, cX12_sheet, (some .int), 4, false) 1743 108 1741 1742 = true := by decide +kernel
theorem x_mk_Ref_putsBy : x_mkC tb_Ref_putsBy (12, yX12_putsBy, cX12_putsBy, none, 0, false) 1756 108 1755 53 = true := by decide +kernel
theorem x_mk_Ref_adds : x_mkC tb_Ref_adds (12, yX12_adds, cX12_adds, (some .int), 1, false) 1805 108 1804 63 = true := by decide +kernel
theorem x_mk_Ref_counted : x_mkC tb_Ref_counted (12, yX12_counted, cX12_counted, (some .int), 1, false) 1801 108 1800 62 = true := by decide +kernel
theorem x_mk_Ref_undo : x_mkC tb_Ref_undo (12, yX12_undo, cX12_undo, (some .int), 0, false) 1748 108 1746 1747 = true := by decide +kernel
theorem x_mk_Ref_looksAhead : x_mkC tb_Ref_looksAhead (12, yX12_looksAhead, cX12_looksAhead, (some .int), 2, false) 1768 108 1767 56 = true := by decide +kernel
theorem x_mk_Ref_goesTo : x_mkC tb_Ref_goesTo (12, yX12_goesTo, cX12_goesTo, (some .int), 3, false) 1764 108 1763 55 = true := by decide +kernel
theorem x_mk_Ref_pushesOne : x_mkC tb_Ref_pushesOne (12, yX12_pushesOne, cX12_pushesOne, (some .int), 3, false) 1760 108 1759 54 = true := by decide +kernel
theorem x_mk_Ref_turnsOne : x_mkC tb_Ref_turnsOne (12, yX12_turnsOne, cX12_turnsOne, (some .int), 2, false) 1813 108 1812 64 = true := by decide +kernel
theorem x_mk_Ref_looseMany : x_mkC tb_Ref_looseMany (12, yX12_looseMany, cX12_looseMany, (some .int), 1, false) 1825 108 1824 66 = true := by decide +kernel
theorem x_mk_Ref_sets : x_mkC tb_Ref_sets (12, yX12_sets, cX12_sets, (some .int), 3, false) 1821 108 1820 65 = true := by decide +kernel
theorem x_mk_Ref_forgetsOne : x_mkC tb_Ref_forgetsOne (12, yX12_forgetsOne, cX12_forgetsOne, (some .int), 2, false) 1854 108 1853 70 = true := by decide +kernel
theorem x_mk_Ref_runsTo : x_mkC tb_Ref_runsTo (12, yX12_runsTo, cX12_runsTo, (some .int), 1, false) 1846 108 1845 69 = true := by decide +kernel
theorem x_mk_Ref_minuteGoes : x_mkC tb_Ref_minuteGoes (12, yX12_minuteGoes, cX12_minuteGoes, none, 1, false) 1842 108 1841 68 = true := by decide +kernel
theorem x_mk_Ref_goesOn : x_mkC tb_Ref_goesOn (12, yX12_goesOn, cX12_goesOn, none, 2, false) 1838 108 1837 67 = true := by decide +kernel
theorem x_mk_Ref_viewsOfAll : x_mkC tb_Ref_viewsOfAll (12, yX12_viewsOfAll, cX12_viewsOfAll, (some .int), 0, false) 1872 108 1871 73 = true := by decide +kernel
theorem x_mk_Ref_toldOf : x_mkC tb_Ref_toldOf (12, yX12_toldOf, cX12_toldOf, (some .int), 2, false) 1793 108 1792 60 = true := by decide +kernel
theorem x_mk_Ref_pushes : x_mkC tb_Ref_pushes (12, yX12_pushes, cX12_pushes, (some .int), 2, false) 1752 108 1750 1751 = true := by decide +kernel
