set_option maxRecDepth 100000 in
theorem w_1579 : Cond.fieldLink "CascaderyModel" 7 "CascaderyModel" "kind" "[I" ∈ BG := bg_in 1579 (by decide +kernel) (by decide +kernel)
set_option maxRecDepth 100000 in
theorem w_1580 : Cond.fieldLink "CascaderyModel" 13 "CascaderyModel" "cls" "[I" ∈ BG := bg_in 1580 (by decide +kernel) (by decide +kernel)
set_option maxRecDepth 100000 in
theorem w_1581 : Cond.fieldLink "CascaderyModel" 16 "CascaderyModel" "sta" "[I" ∈ BG := bg_in 1581 (by decide +kernel) (by decide +kernel)
set_option maxRecDepth 100000 in
theorem w_1582 : Cond.fieldLink "CascaderyModel" 19 "CascaderyModel" "at0" "[I" ∈ BG := bg_in 1582 (by decide +kernel) (by decide +kernel)
set_option maxRecDepth 100000 in
theorem w_1583 : Cond.fieldLink "CascaderyModel" 22 "CascaderyModel" "at1" "[I" ∈ BG := bg_in 1583 (by decide +kernel) (by decide +kernel)
set_option maxRecDepth 100000 in
theorem w_1584 : Cond.fieldLink "CascaderyModel" 25 "CascaderyModel" "part" "[I" ∈ BG := bg_in 1584 (by decide +kernel) (by decide +kernel)
set_option maxRecDepth 100000 in
theorem w_1585 : Cond.fieldLink "CascaderyModel" 28 "CascaderyModel" "parent" "[I" ∈ BG := bg_in 1585 (by decide +kernel) (by decide +kernel)
set_option maxRecDepth 100000 in
theorem w_1586 : Cond.fieldLink "CascaderyModel" 31 "CascaderyModel" "host" "[I" ∈ BG := bg_in 1586 (by decide +kernel) (by decide +kernel)
set_option maxRecDepth 100000 in
theorem w_1587 : Cond.fieldLink "CascaderyModel" 34 "CascaderyModel" "shadow" "[I" ∈ BG := bg_in 1587 (by decide +kernel) (by decide +kernel)
set_option maxRecDepth 100000 in
theorem w_1588 : Cond.fieldLink "CascaderyModel" 37 "CascaderyModel" "kid" "[I" ∈ BG := bg_in 1588 (by decide +kernel) (by decide +kernel)
set_option maxRecDepth 100000 in
theorem w_1589 : Cond.fieldLink "CascaderyModel" 40 "CascaderyModel" "kids" "[I" ∈ BG := bg_in 1589 (by decide +kernel) (by decide +kernel)
set_option maxRecDepth 100000 in
theorem w_1590 : Cond.fieldLink "CascaderyModel" 43 "CascaderyModel" "top" "[I" ∈ BG := bg_in 1590 (by decide +kernel) (by decide +kernel)
set_option maxRecDepth 100000 in
theorem w_1591 : Cond.fieldLink "CascaderyModel" 46 "CascaderyModel" "tops" "[I" ∈ BG := bg_in 1591 (by decide +kernel) (by decide +kernel)
set_option maxRecDepth 100000 in
theorem w_1593 : Cond.fieldLink "CascaderyModel" 49 "CascaderyModel" "nc" "[I" ∈ BG := bg_in 1593 (by decide +kernel) (by decide +kernel)
set_option maxRecDepth 100000 in
theorem w_1594 : Cond.fieldLink "CascaderyModel" 52 "CascaderyModel" "cb" "[I" ∈ BG := bg_in 1594 (by decide +kernel) (by decide +kernel)
set_option maxRecDepth 100000 in
theorem w_1595 : Cond.fieldLink "CascaderyModel" 55 "CascaderyModel" "nt" "[I" ∈ BG := bg_in 1595 (by decide +kernel) (by decide +kernel)
set_option maxRecDepth 100000 in
theorem w_1596 : Cond.fieldLink "CascaderyModel" 58 "CascaderyModel" "tk" "[I" ∈ BG := bg_in 1596 (by decide +kernel) (by decide +kernel)
set_option maxRecDepth 100000 in
theorem w_1597 : Cond.fieldLink "CascaderyModel" 61 "CascaderyModel" "ta" "[I" ∈ BG := bg_in 1597 (by decide +kernel) (by decide +kernel)
set_option maxRecDepth 100000 in
theorem w_1598 : Cond.fieldLink "CascaderyModel" 64 "CascaderyModel" "tb" "[I" ∈ BG := bg_in 1598 (by decide +kernel) (by decide +kernel)
set_option maxRecDepth 100000 in
theorem w_1599 : Cond.fieldLink "CascaderyModel" 67 "CascaderyModel" "wt" "[I" ∈ BG := bg_in 1599 (by decide +kernel) (by decide +kernel)
set_option maxRecDepth 100000 in
theorem w_1600 : Cond.fieldLink "CascaderyModel" 70 "CascaderyModel" "hp" "[I" ∈ BG := bg_in 1600 (by decide +kernel) (by decide +kernel)
set_option maxRecDepth 100000 in
theorem w_1601 : Cond.fieldLink "CascaderyModel" 73 "CascaderyModel" "hh" "[I" ∈ BG := bg_in 1601 (by decide +kernel) (by decide +kernel)
set_option maxRecDepth 100000 in
theorem w_1602 : Cond.fieldLink "CascaderyModel" 76 "CascaderyModel" "inLast" "[I" ∈ BG := bg_in 1602 (by decide +kernel) (by decide +kernel)
set_option maxRecDepth 100000 in
theorem w_1603 : Cond.fieldLink "CascaderyModel" 79 "CascaderyModel" "wide" "[I" ∈ BG := bg_in 1603 (by decide +kernel) (by decide +kernel)
set_option maxRecDepth 100000 in
theorem w_1604 : Cond.fieldLink "CascaderyModel" 82 "CascaderyModel" "all" "[I" ∈ BG := bg_in 1604 (by decide +kernel) (by decide +kernel)
set_option maxRecDepth 100000 in
theorem w_1606 : Cond.fieldLink "CascaderyModel" 85 "CascaderyModel" "so" "[I" ∈ BG := bg_in 1606 (by decide +kernel) (by decide +kernel)
set_option maxRecDepth 100000 in
theorem w_1607 : Cond.fieldLink "CascaderyModel" 88 "CascaderyModel" "sh" "[I" ∈ BG := bg_in 1607 (by decide +kernel) (by decide +kernel)
set_option maxRecDepth 100000 in
theorem w_1608 : Cond.fieldLink "CascaderyModel" 91 "CascaderyModel" "sl" "[I" ∈ BG := bg_in 1608 (by decide +kernel) (by decide +kernel)
set_option maxRecDepth 100000 in
theorem w_1609 : Cond.fieldLink "CascaderyModel" 94 "CascaderyModel" "son" "[I" ∈ BG := bg_in 1609 (by decide +kernel) (by decide +kernel)
set_option maxRecDepth 100000 in
theorem w_1611 : Cond.fieldLink "CascaderyModel" 97 "CascaderyModel" "rs" "[I" ∈ BG := bg_in 1611 (by decide +kernel) (by decide +kernel)
set_option maxRecDepth 100000 in
theorem w_1612 : Cond.fieldLink "CascaderyModel" 100 "CascaderyModel" "rsel" "[I" ∈ BG := bg_in 1612 (by decide +kernel) (by decide +kernel)
set_option maxRecDepth 100000 in
theorem w_1613 : Cond.fieldLink "CascaderyModel" 103 "CascaderyModel" "rc" "[I" ∈ BG := bg_in 1613 (by decide +kernel) (by decide +kernel)
set_option maxRecDepth 100000 in
theorem w_1614 : Cond.fieldLink "CascaderyModel" 106 "CascaderyModel" "rn" "[I" ∈ BG := bg_in 1614 (by decide +kernel) (by decide +kernel)
set_option maxRecDepth 100000 in
theorem w_1616 : Cond.fieldLink "CascaderyModel" 109 "CascaderyModel" "du" "[I" ∈ BG := bg_in 1616 (by decide +kernel) (by decide +kernel)
set_option maxRecDepth 100000 in
theorem w_1617 : Cond.fieldLink "CascaderyModel" 112 "CascaderyModel" "dn" "[I" ∈ BG := bg_in 1617 (by decide +kernel) (by decide +kernel)
set_option maxRecDepth 100000 in
theorem w_1618 : Cond.fieldLink "CascaderyModel" 115 "CascaderyModel" "di" "[I" ∈ BG := bg_in 1618 (by decide +kernel) (by decide +kernel)
set_option maxRecDepth 100000 in
theorem w_1619 : Cond.fieldLink "CascaderyModel" 118 "CascaderyModel" "dv" "[I" ∈ BG := bg_in 1619 (by decide +kernel) (by decide +kernel)
set_option maxRecDepth 100000 in
theorem w_1620 : Cond.fieldLink "CascaderyModel" 121 "CascaderyModel" "eu" "[I" ∈ BG := bg_in 1620 (by decide +kernel) (by decide +kernel)
set_option maxRecDepth 100000 in
theorem w_1621 : Cond.fieldLink "CascaderyModel" 124 "CascaderyModel" "en" "[I" ∈ BG := bg_in 1621 (by decide +kernel) (by decide +kernel)
set_option maxRecDepth 100000 in
theorem w_1622 : Cond.fieldLink "CascaderyModel" 127 "CascaderyModel" "val" "[I" ∈ BG := bg_in 1622 (by decide +kernel) (by decide +kernel)
set_option maxRecDepth 100000 in
theorem w_1623 : Cond.fieldLink "CascaderyModel" 130 "CascaderyModel" "vu" "[I" ∈ BG := bg_in 1623 (by decide +kernel) (by decide +kernel)
set_option maxRecDepth 100000 in
theorem w_1624 : Cond.fieldLink "CascaderyModel" 133 "CascaderyModel" "vn" "[I" ∈ BG := bg_in 1624 (by decide +kernel) (by decide +kernel)
set_option maxRecDepth 100000 in
theorem w_1625 : Cond.fieldLink "CascaderyModel" 136 "CascaderyModel" "sz" "[I" ∈ BG := bg_in 1625 (by decide +kernel) (by decide +kernel)
set_option maxRecDepth 100000 in
theorem w_1626 : Cond.fieldLink "CascaderyModel" 139 "CascaderyModel" "imp" "[I" ∈ BG := bg_in 1626 (by decide +kernel) (by decide +kernel)
set_option maxRecDepth 100000 in
theorem w_1634 : Cond.fieldLink "CascaderyModel" 142 "CascaderyModel" "trs" "[I" ∈ BG := bg_in 1634 (by decide +kernel) (by decide +kernel)
set_option maxRecDepth 100000 in
theorem w_1635 : Cond.fieldLink "CascaderyModel" 145 "CascaderyModel" "trn" "[I" ∈ BG := bg_in 1635 (by decide +kernel) (by decide +kernel)
set_option maxRecDepth 100000 in
theorem w_1636 : Cond.fieldLink "CascaderyModel" 148 "CascaderyModel" "trb" "[I" ∈ BG := bg_in 1636 (by decide +kernel) (by decide +kernel)
set_option maxRecDepth 100000 in
theorem w_1637 : Cond.fieldLink "CascaderyModel" 151 "CascaderyModel" "tre" "[I" ∈ BG := bg_in 1637 (by decide +kernel) (by decide +kernel)
set_option maxRecDepth 100000 in
theorem w_1638 : Cond.fieldLink "CascaderyModel" 154 "CascaderyModel" "an" "[I" ∈ BG := bg_in 1638 (by decide +kernel) (by decide +kernel)
set_option maxRecDepth 100000 in
theorem w_1639 : Cond.fieldLink "CascaderyModel" 157 "CascaderyModel" "al" "[I" ∈ BG := bg_in 1639 (by decide +kernel) (by decide +kernel)
set_option maxRecDepth 100000 in
theorem w_1640 : Cond.fieldLink "CascaderyModel" 160 "CascaderyModel" "ar" "[I" ∈ BG := bg_in 1640 (by decide +kernel) (by decide +kernel)
set_option maxRecDepth 100000 in
theorem w_1641 : Cond.fieldLink "CascaderyModel" 163 "CascaderyModel" "aw" "[I" ∈ BG := bg_in 1641 (by decide +kernel) (by decide +kernel)
set_option maxRecDepth 100000 in
theorem w_1642 : Cond.fieldLink "CascaderyModel" 166 "CascaderyModel" "fs" "[I" ∈ BG := bg_in 1642 (by decide +kernel) (by decide +kernel)
set_option maxRecDepth 100000 in
theorem w_1643 : Cond.fieldLink "CascaderyModel" 169 "CascaderyModel" "fn" "[I" ∈ BG := bg_in 1643 (by decide +kernel) (by decide +kernel)
set_option maxRecDepth 100000 in
theorem w_1644 : Cond.fieldLink "CascaderyModel" 172 "CascaderyModel" "le" "[I" ∈ BG := bg_in 1644 (by decide +kernel) (by decide +kernel)
set_option maxRecDepth 100000 in
theorem w_1645 : Cond.fieldLink "CascaderyModel" 175 "CascaderyModel" "lp" "[I" ∈ BG := bg_in 1645 (by decide +kernel) (by decide +kernel)
set_option maxRecDepth 100000 in
theorem w_1646 : Cond.fieldLink "CascaderyModel" 178 "CascaderyModel" "lo" "[I" ∈ BG := bg_in 1646 (by decide +kernel) (by decide +kernel)
set_option maxRecDepth 100000 in
theorem w_1647 : Cond.fieldLink "CascaderyModel" 181 "CascaderyModel" "lc" "[I" ∈ BG := bg_in 1647 (by decide +kernel) (by decide +kernel)
set_option maxRecDepth 100000 in
theorem w_1648 : Cond.fieldLink "CascaderyModel" 184 "CascaderyModel" "lx" "[I" ∈ BG := bg_in 1648 (by decide +kernel) (by decide +kernel)
set_option maxRecDepth 100000 in
theorem w_1652 : Cond.fieldLink "CascaderyModel" 187 "CascaderyModel" "set" "[I" ∈ BG := bg_in 1652 (by decide +kernel) (by decide +kernel)
set_option maxRecDepth 100000 in
theorem w_1653 : Cond.fieldLink "CascaderyModel" 190 "CascaderyModel" "hit" "[I" ∈ BG := bg_in 1653 (by decide +kernel) (by decide +kernel)
set_option maxRecDepth 100000 in
theorem w_1654 : Cond.fieldLink "CascaderyModel" 193 "CascaderyModel" "order" "[I" ∈ BG := bg_in 1654 (by decide +kernel) (by decide +kernel)
set_option maxRecDepth 100000 in
theorem w_1656 : Cond.fieldLink "CascaderyModel" 196 "CascaderyModel" "shp" "[I" ∈ BG := bg_in 1656 (by decide +kernel) (by decide +kernel)
set_option maxRecDepth 100000 in
theorem w_1657 : Cond.fieldLink "CascaderyModel" 199 "CascaderyModel" "fan" "[I" ∈ BG := bg_in 1657 (by decide +kernel) (by decide +kernel)
set_option maxRecDepth 100000 in
theorem w_1659 : Cond.fieldLink "CascaderyModel" 202 "CascaderyModel" "pile" "[I" ∈ BG := bg_in 1659 (by decide +kernel) (by decide +kernel)
set_option maxRecDepth 100000 in
theorem w_1661 : Cond.fieldLink "CascaderyModel" 205 "CascaderyModel" "oldVal" "[I" ∈ BG := bg_in 1661 (by decide +kernel) (by decide +kernel)
set_option maxRecDepth 100000 in
theorem w_1662 : Cond.fieldLink "CascaderyModel" 208 "CascaderyModel" "oldUnit" "[I" ∈ BG := bg_in 1662 (by decide +kernel) (by decide +kernel)
set_option maxRecDepth 100000 in
theorem w_1663 : Cond.fieldLink "CascaderyModel" 211 "CascaderyModel" "oldNumber" "[I" ∈ BG := bg_in 1663 (by decide +kernel) (by decide +kernel)
set_option maxRecDepth 100000 in
theorem w_1664 : Cond.fieldLink "CascaderyModel" 214 "CascaderyModel" "was" "[I" ∈ BG := bg_in 1664 (by decide +kernel) (by decide +kernel)
set_option maxRecDepth 100000 in
theorem w_1592 : Cond.fieldLink "CascaderyModel" 217 "CascaderyModel" "made" "I" ∈ BG := bg_in 1592 (by decide +kernel) (by decide +kernel)
set_option maxRecDepth 100000 in
theorem w_1629 : Cond.fieldLink "CascaderyModel" 221 "CascaderyModel" "width" "I" ∈ BG := bg_in 1629 (by decide +kernel) (by decide +kernel)
set_option maxRecDepth 100000 in
theorem w_1575 : Cond.methodLink "CascaderyModel" 224 yX12_draft ∈ BG := bg_in 1575 (by decide +kernel) (by decide +kernel)
set_option maxRecDepth 100000 in
theorem w_1660 : Cond.fieldLink "CascaderyModel" 227 "CascaderyModel" "thrown" "I" ∈ BG := bg_in 1660 (by decide +kernel) (by decide +kernel)
set_option maxRecDepth 100000 in
theorem w_1846 : Cond.methodLink "CascaderyModel" 230 yX12_in ∈ BG := bg_in 1846 (by decide +kernel) (by decide +kernel)
set_option maxRecDepth 100000 in
theorem w_1858 : Cond.methodLink "CascaderyModel" 234 yX12_isElement ∈ BG := bg_in 1858 (by decide +kernel) (by decide +kernel)
set_option maxRecDepth 100000 in
theorem w_1878 : Cond.methodLink "CascaderyModel" 238 yX12_root ∈ BG := bg_in 1878 (by decide +kernel) (by decide +kernel)
set_option maxRecDepth 100000 in
theorem w_1874 : Cond.methodLink "CascaderyModel" 242 yX12_treeOf ∈ BG := bg_in 1874 (by decide +kernel) (by decide +kernel)
set_option maxRecDepth 100000 in
theorem w_1870 : Cond.methodLink "CascaderyModel" 245 yX12_inDoc ∈ BG := bg_in 1870 (by decide +kernel) (by decide +kernel)
set_option maxRecDepth 100000 in
theorem w_1930 : Cond.methodLink "CascaderyModel" 248 yX12_placeOf ∈ BG := bg_in 1930 (by decide +kernel) (by decide +kernel)
set_option maxRecDepth 100000 in
theorem w_1926 : Cond.methodLink "CascaderyModel" 251 yX12_sibling ∈ BG := bg_in 1926 (by decide +kernel) (by decide +kernel)
set_option maxRecDepth 100000 in
theorem w_1922 : Cond.methodLink "CascaderyModel" 254 yX12_nextIn ∈ BG := bg_in 1922 (by decide +kernel) (by decide +kernel)
set_option maxRecDepth 100000 in
theorem w_1918 : Cond.methodLink "CascaderyModel" 257 yX12_slot ∈ BG := bg_in 1918 (by decide +kernel) (by decide +kernel)
set_option maxRecDepth 100000 in
theorem w_1658 : Cond.fieldLink "CascaderyModel" 261 "CascaderyModel" "fans" "I" ∈ BG := bg_in 1658 (by decide +kernel) (by decide +kernel)
set_option maxRecDepth 100000 in
theorem w_2151 : Cond.methodLink "CascaderyModel" 264 yX12_fanIn ∈ BG := bg_in 2151 (by decide +kernel) (by decide +kernel)
set_option maxRecDepth 100000 in
theorem w_1914 : Cond.methodLink "CascaderyModel" 268 yX12_shown ∈ BG := bg_in 1914 (by decide +kernel) (by decide +kernel)
set_option maxRecDepth 100000 in
theorem w_1655 : Cond.fieldLink "CascaderyModel" 271 "CascaderyModel" "many" "I" ∈ BG := bg_in 1655 (by decide +kernel) (by decide +kernel)
set_option maxRecDepth 100000 in
theorem w_2147 : Cond.methodLink "CascaderyModel" 274 yX12_fanOf ∈ BG := bg_in 2147 (by decide +kernel) (by decide +kernel)
set_option maxRecDepth 100000 in
theorem w_1650 : Cond.fieldLink "CascaderyModel" 278 "CascaderyModel" "tree" "I" ∈ BG := bg_in 1650 (by decide +kernel) (by decide +kernel)
set_option maxRecDepth 100000 in
theorem w_2055 : Cond.methodLink "CascaderyModel" 281 yX12_siblings ∈ BG := bg_in 2055 (by decide +kernel) (by decide +kernel)
set_option maxRecDepth 100000 in
theorem w_2059 : Cond.methodLink "CascaderyModel" 285 yX12_up ∈ BG := bg_in 2059 (by decide +kernel) (by decide +kernel)
set_option maxRecDepth 100000 in
theorem w_1906 : Cond.methodLink "CascaderyModel" 288 yX12_bit ∈ BG := bg_in 1906 (by decide +kernel) (by decide +kernel)
set_option maxRecDepth 100000 in
theorem w_2051 : Cond.methodLink "CascaderyModel" 291 yX12_related ∈ BG := bg_in 2051 (by decide +kernel) (by decide +kernel)
set_option maxRecDepth 100000 in
theorem w_2043 : Cond.methodLink "CascaderyModel" 294 yX12_nth ∈ BG := bg_in 2043 (by decide +kernel) (by decide +kernel)
set_option maxRecDepth 100000 in
theorem w_2047 : Cond.methodLink "CascaderyModel" 297 yX12_hasIn ∈ BG := bg_in 2047 (by decide +kernel) (by decide +kernel)
set_option maxRecDepth 100000 in
theorem w_1651 : Cond.fieldLink "CascaderyModel" 300 "CascaderyModel" "members" "I" ∈ BG := bg_in 1651 (by decide +kernel) (by decide +kernel)
set_option maxRecDepth 100000 in
theorem w_2039 : Cond.methodLink "CascaderyModel" 303 yX12_passes ∈ BG := bg_in 2039 (by decide +kernel) (by decide +kernel)
set_option maxRecDepth 100000 in
theorem w_2035 : Cond.methodLink "CascaderyModel" 306 yX12_compound ∈ BG := bg_in 2035 (by decide +kernel) (by decide +kernel)
set_option maxRecDepth 100000 in
theorem w_2063 : Cond.methodLink "CascaderyModel" 309 yX12_stepped ∈ BG := bg_in 2063 (by decide +kernel) (by decide +kernel)
set_option maxRecDepth 100000 in
theorem w_1605 : Cond.fieldLink "CascaderyModel" 313 "CascaderyModel" "sels" "I" ∈ BG := bg_in 1605 (by decide +kernel) (by decide +kernel)
set_option maxRecDepth 100000 in
theorem w_2031 : Cond.methodLink "CascaderyModel" 316 yX12_solve ∈ BG := bg_in 2031 (by decide +kernel) (by decide +kernel)
set_option maxRecDepth 100000 in
theorem w_1610 : Cond.fieldLink "CascaderyModel" 319 "CascaderyModel" "sheets" "I" ∈ BG := bg_in 1610 (by decide +kernel) (by decide +kernel)
set_option maxRecDepth 100000 in
theorem w_2027 : Cond.methodLink "CascaderyModel" 322 yX12_look ∈ BG := bg_in 2027 (by decide +kernel) (by decide +kernel)
set_option maxRecDepth 100000 in
theorem w_1615 : Cond.fieldLink "CascaderyModel" 325 "CascaderyModel" "rules" "I" ∈ BG := bg_in 1615 (by decide +kernel) (by decide +kernel)
set_option maxRecDepth 100000 in
theorem w_2006 : Cond.methodLink "CascaderyModel" 328 yX12_bits ∈ BG := bg_in 2006 (by decide +kernel) (by decide +kernel)
set_option maxRecDepth 100000 in
theorem w_2196 : Cond.methodLink "CascaderyModel" 332 yX12_originOf ∈ BG := bg_in 2196 (by decide +kernel) (by decide +kernel)
set_option maxRecDepth 100000 in
theorem w_2224 : Cond.methodLink "CascaderyModel" 335 yX12_depth ∈ BG := bg_in 2224 (by decide +kernel) (by decide +kernel)
set_option maxRecDepth 100000 in
theorem w_2216 : Cond.methodLink "CascaderyModel" 338 yX12_rank ∈ BG := bg_in 2216 (by decide +kernel) (by decide +kernel)
set_option maxRecDepth 100000 in
theorem w_2220 : Cond.methodLink "CascaderyModel" 341 yX12_depthOf ∈ BG := bg_in 2220 (by decide +kernel) (by decide +kernel)
set_option maxRecDepth 100000 in
theorem w_2228 : Cond.methodLink "CascaderyModel" 344 yX12_layerOf ∈ BG := bg_in 2228 (by decide +kernel) (by decide +kernel)
set_option maxRecDepth 100000 in
theorem w_2208 : Cond.methodLink "CascaderyModel" 347 yX12_holder ∈ BG := bg_in 2208 (by decide +kernel) (by decide +kernel)
set_option maxRecDepth 100000 in
theorem w_2200 : Cond.methodLink "CascaderyModel" 350 yX12_stands ∈ BG := bg_in 2200 (by decide +kernel) (by decide +kernel)
set_option maxRecDepth 100000 in
theorem w_2204 : Cond.methodLink "CascaderyModel" 353 yX12_fits ∈ BG := bg_in 2204 (by decide +kernel) (by decide +kernel)
set_option maxRecDepth 100000 in
theorem w_2212 : Cond.methodLink "CascaderyModel" 357 yX12_against ∈ BG := bg_in 2212 (by decide +kernel) (by decide +kernel)
set_option maxRecDepth 100000 in
theorem w_2192 : Cond.methodLink "CascaderyModel" 360 yX12_winner ∈ BG := bg_in 2192 (by decide +kernel) (by decide +kernel)
set_option maxRecDepth 100000 in
theorem w_2252 : Cond.methodLink "CascaderyModel" 371 yX12_initial ∈ BG := bg_in 2252 (by decide +kernel) (by decide +kernel)
set_option maxRecDepth 100000 in
theorem w_2188 : Cond.methodLink "CascaderyModel" 374 yX12_found ∈ BG := bg_in 2188 (by decide +kernel) (by decide +kernel)
set_option maxRecDepth 100000 in
theorem w_2232 : Cond.methodLink "CascaderyModel" 378 yX12_follow ∈ BG := bg_in 2232 (by decide +kernel) (by decide +kernel)
set_option maxRecDepth 100000 in
theorem w_2236 : Cond.methodLink "CascaderyModel" 382 yX12_onRing ∈ BG := bg_in 2236 (by decide +kernel) (by decide +kernel)
set_option maxRecDepth 100000 in
theorem w_2240 : Cond.methodLink "CascaderyModel" 386 yX12_aim ∈ BG := bg_in 2240 (by decide +kernel) (by decide +kernel)
set_option maxRecDepth 100000 in
theorem w_2260 : Cond.methodLink "CascaderyModel" 389 yX12_bounded ∈ BG := bg_in 2260 (by decide +kernel) (by decide +kernel)
set_option maxRecDepth 100000 in
theorem w_2099 : Cond.methodLink "CascaderyModel" 395 yX12_suits ∈ BG := bg_in 2099 (by decide +kernel) (by decide +kernel)
set_option maxRecDepth 100000 in
theorem w_2248 : Cond.methodLink "CascaderyModel" 398 yX12_inherited ∈ BG := bg_in 2248 (by decide +kernel) (by decide +kernel)
set_option maxRecDepth 100000 in
theorem w_2256 : Cond.methodLink "CascaderyModel" 401 yX12_reckoned ∈ BG := bg_in 2256 (by decide +kernel) (by decide +kernel)
set_option maxRecDepth 100000 in
theorem w_2184 : Cond.methodLink "CascaderyModel" 405 yX12_variables ∈ BG := bg_in 2184 (by decide +kernel) (by decide +kernel)
set_option maxRecDepth 100000 in
theorem w_2244 : Cond.methodLink "CascaderyModel" 409 yX12_reckon ∈ BG := bg_in 2244 (by decide +kernel) (by decide +kernel)
set_option maxRecDepth 100000 in
theorem w_2180 : Cond.methodLink "CascaderyModel" 413 yX12_style ∈ BG := bg_in 2180 (by decide +kernel) (by decide +kernel)
set_option maxRecDepth 100000 in
theorem w_1633 : Cond.fieldLink "CascaderyModel" 416 "CascaderyModel" "now" "I" ∈ BG := bg_in 1633 (by decide +kernel) (by decide +kernel)
set_option maxRecDepth 100000 in
theorem w_2163 : Cond.methodLink "CascaderyModel" 419 yX12_moves ∈ BG := bg_in 2163 (by decide +kernel) (by decide +kernel)
set_option maxRecDepth 100000 in
theorem w_2167 : Cond.methodLink "CascaderyModel" 422 yX12_plays ∈ BG := bg_in 2167 (by decide +kernel) (by decide +kernel)
set_option maxRecDepth 100000 in
theorem w_2171 : Cond.methodLink "CascaderyModel" 425 yX12_byFrames ∈ BG := bg_in 2171 (by decide +kernel) (by decide +kernel)
set_option maxRecDepth 100000 in
theorem w_2273 : Cond.methodLink "CascaderyModel" 428 yX12_differs ∈ BG := bg_in 2273 (by decide +kernel) (by decide +kernel)
set_option maxRecDepth 100000 in
theorem w_1627 : Cond.fieldLink "CascaderyModel" 431 "CascaderyModel" "has" "I" ∈ BG := bg_in 1627 (by decide +kernel) (by decide +kernel)
set_option maxRecDepth 100000 in
theorem w_2269 : Cond.methodLink "CascaderyModel" 434 yX12_sized ∈ BG := bg_in 2269 (by decide +kernel) (by decide +kernel)
set_option maxRecDepth 100000 in
theorem w_2277 : Cond.methodLink "CascaderyModel" 437 yX12_transit ∈ BG := bg_in 2277 (by decide +kernel) (by decide +kernel)
set_option maxRecDepth 100000 in
theorem w_1649 : Cond.fieldLink "CascaderyModel" 441 "CascaderyModel" "listeners" "I" ∈ BG := bg_in 1649 (by decide +kernel) (by decide +kernel)
set_option maxRecDepth 100000 in
theorem w_2289 : Cond.methodLink "CascaderyModel" 444 yX12_plain ∈ BG := bg_in 2289 (by decide +kernel) (by decide +kernel)
set_option maxRecDepth 100000 in
theorem w_2143 : Cond.methodLink "CascaderyModel" 447 yX12_ordered ∈ BG := bg_in 2143 (by decide +kernel) (by decide +kernel)
set_option maxRecDepth 100000 in
theorem w_2155 : Cond.methodLink "CascaderyModel" 450 yX12_hits ∈ BG := bg_in 2155 (by decide +kernel) (by decide +kernel)
set_option maxRecDepth 100000 in
theorem w_1866 : Cond.methodLink "CascaderyModel" 453 yX12_docMask ∈ BG := bg_in 1866 (by decide +kernel) (by decide +kernel)
set_option maxRecDepth 100000 in
theorem w_2159 : Cond.methodLink "CascaderyModel" 457 yX12_seenOf ∈ BG := bg_in 2159 (by decide +kernel) (by decide +kernel)
set_option maxRecDepth 100000 in
theorem w_1628 : Cond.fieldLink "CascaderyModel" 460 "CascaderyModel" "mk" "I" ∈ BG := bg_in 1628 (by decide +kernel) (by decide +kernel)
set_option maxRecDepth 100000 in
theorem w_2176 : Cond.methodLink "CascaderyModel" 463 yX12_restyle ∈ BG := bg_in 2176 (by decide +kernel) (by decide +kernel)
set_option maxRecDepth 100000 in
theorem w_1631 : Cond.fieldLink "CascaderyModel" 466 "CascaderyModel" "restyled" "I" ∈ BG := bg_in 1631 (by decide +kernel) (by decide +kernel)
set_option maxRecDepth 100000 in
theorem w_1938 : Cond.methodLink "CascaderyModel" 469 yX12_flags ∈ BG := bg_in 1938 (by decide +kernel) (by decide +kernel)
set_option maxRecDepth 100000 in
theorem w_2281 : Cond.methodLink "CascaderyModel" 472 yX12_ahead ∈ BG := bg_in 2281 (by decide +kernel) (by decide +kernel)
set_option maxRecDepth 100000 in
theorem w_1632 : Cond.fieldLink "CascaderyModel" 475 "CascaderyModel" "shared" "I" ∈ BG := bg_in 1632 (by decide +kernel) (by decide +kernel)
set_option maxRecDepth 100000 in
theorem w_2285 : Cond.methodLink "CascaderyModel" 478 yX12_twins ∈ BG := bg_in 2285 (by decide +kernel) (by decide +kernel)
set_option maxRecDepth 100000 in
theorem w_1630 : Cond.fieldLink "CascaderyModel" 481 "CascaderyModel" "flushes" "I" ∈ BG := bg_in 1630 (by decide +kernel) (by decide +kernel)
set_option maxRecDepth 100000 in
theorem w_2135 : Cond.methodLink "CascaderyModel" 484 yX12_needs ∈ BG := bg_in 2135 (by decide +kernel) (by decide +kernel)
set_option maxRecDepth 100000 in
theorem w_2139 : Cond.methodLink "CascaderyModel" 488 yX12_flush ∈ BG := bg_in 2139 (by decide +kernel) (by decide +kernel)
set_option maxRecDepth 100000 in
theorem w_1962 : Cond.methodLink "CascaderyModel" 491 yX12_markTest ∈ BG := bg_in 1962 (by decide +kernel) (by decide +kernel)
set_option maxRecDepth 100000 in
theorem w_1910 : Cond.methodLink "CascaderyModel" 494 yX12_below ∈ BG := bg_in 1910 (by decide +kernel) (by decide +kernel)
set_option maxRecDepth 100000 in
theorem w_1898 : Cond.methodLink "CascaderyModel" 497 yX12_mark ∈ BG := bg_in 1898 (by decide +kernel) (by decide +kernel)
set_option maxRecDepth 100000 in
theorem w_1902 : Cond.methodLink "CascaderyModel" 500 yX12_markBelow ∈ BG := bg_in 1902 (by decide +kernel) (by decide +kernel)
set_option maxRecDepth 100000 in
theorem w_1894 : Cond.methodLink "CascaderyModel" 503 yX12_markWith ∈ BG := bg_in 1894 (by decide +kernel) (by decide +kernel)
set_option maxRecDepth 100000 in
theorem w_1942 : Cond.methodLink "CascaderyModel" 506 yX12_markHosts ∈ BG := bg_in 1942 (by decide +kernel) (by decide +kernel)
set_option maxRecDepth 100000 in
theorem w_1862 : Cond.methodLink "CascaderyModel" 509 yX12_markAll ∈ BG := bg_in 1862 (by decide +kernel) (by decide +kernel)
set_option maxRecDepth 100000 in
theorem w_1850 : Cond.methodLink "CascaderyModel" 512 yX12_holds ∈ BG := bg_in 1850 (by decide +kernel) (by decide +kernel)
set_option maxRecDepth 100000 in
theorem w_1886 : Cond.methodLink "CascaderyModel" 515 yX12_loose ∈ BG := bg_in 1886 (by decide +kernel) (by decide +kernel)
set_option maxRecDepth 100000 in
theorem w_1890 : Cond.methodLink "CascaderyModel" 518 yX12_within ∈ BG := bg_in 1890 (by decide +kernel) (by decide +kernel)
set_option maxRecDepth 100000 in
theorem w_1934 : Cond.methodLink "CascaderyModel" 521 yX12_markPlace ∈ BG := bg_in 1934 (by decide +kernel) (by decide +kernel)
set_option maxRecDepth 100000 in
theorem w_1954 : Cond.methodLink "CascaderyModel" 525 yX12_leave ∈ BG := bg_in 1954 (by decide +kernel) (by decide +kernel)
set_option maxRecDepth 100000 in
theorem w_1998 : Cond.methodLink "CascaderyModel" 528 yX12_weigh ∈ BG := bg_in 1998 (by decide +kernel) (by decide +kernel)
set_option maxRecDepth 100000 in
theorem w_2002 : Cond.methodLink "CascaderyModel" 531 yX12_study ∈ BG := bg_in 2002 (by decide +kernel) (by decide +kernel)
set_option maxRecDepth 100000 in
theorem w_2015 : Cond.methodLink "CascaderyModel" 534 yX12_isSel ∈ BG := bg_in 2015 (by decide +kernel) (by decide +kernel)
set_option maxRecDepth 100000 in
theorem w_2023 : Cond.methodLink "CascaderyModel" 537 yX12_isTree ∈ BG := bg_in 2023 (by decide +kernel) (by decide +kernel)
set_option maxRecDepth 100000 in
theorem w_2087 : Cond.methodLink "CascaderyModel" 540 yX12_isRule ∈ BG := bg_in 2087 (by decide +kernel) (by decide +kernel)
set_option maxRecDepth 100000 in
theorem w_2111 : Cond.methodLink "CascaderyModel" 543 yX12_declared ∈ BG := bg_in 2111 (by decide +kernel) (by decide +kernel)
set_option maxRecDepth 100000 in
theorem w_2095 : Cond.methodLink "CascaderyModel" 546 yX12_rowOf ∈ BG := bg_in 2095 (by decide +kernel) (by decide +kernel)
set_option maxRecDepth 100000 in
theorem w_2103 : Cond.methodLink "CascaderyModel" 549 yX12_lay ∈ BG := bg_in 2103 (by decide +kernel) (by decide +kernel)
set_option maxRecDepth 100000 in
theorem w_2107 : Cond.methodLink "CascaderyModel" 553 yX12_markRow ∈ BG := bg_in 2107 (by decide +kernel) (by decide +kernel)
set_option maxRecDepth 100000 in
theorem w_2131 : Cond.methodLink "CascaderyModel" 557 yX12_read ∈ BG := bg_in 2131 (by decide +kernel) (by decide +kernel)
set_option maxRecDepth 100000 in
theorem w_2293 : Cond.methodLink "CascaderyModel" 560 yX12_told ∈ BG := bg_in 2293 (by decide +kernel) (by decide +kernel)
set_option maxRecDepth 100000 in
theorem w_1572 : Cond.instanceMethod yX12_init ∈ BG := bg_in 1572 (by decide +kernel) (by decide +kernel)
set_option maxRecDepth 100000 in
theorem w_1573 : Cond.code yX12_init cX12_init 2 none ∈ BG := bg_in 1573 (by rfl) (by decide +kernel)
set_option maxRecDepth 100000 in
theorem w_1840 : Cond.selects "CascaderyModel" yX12_thrown yX12_thrown ∈ BG := bg_in 1840 (by decide +kernel) (by decide +kernel)
set_option maxRecDepth 100000 in
theorem w_1839 : Cond.instanceMethod yX12_thrown ∈ BG := bg_in 1839 (by decide +kernel) (by decide +kernel)
set_option maxRecDepth 100000 in
theorem w_1841 : Cond.code yX12_thrown cX12_thrown 1 (some .int) ∈ BG := bg_in 1841 (by rfl) (by decide +kernel)
set_option maxRecDepth 100000 in
theorem w_58 : Cond.selects "CascaderyModel" yX12_holds yX12_holds ∈ BG := bg_in 58 (by decide +kernel) (by decide +kernel)
set_option maxRecDepth 100000 in
theorem w_1852 : Cond.instanceMethod yX12_holds ∈ BG := bg_in 1852 (by decide +kernel) (by decide +kernel)
set_option maxRecDepth 100000 in
theorem w_1853 : Cond.code yX12_holds cX12_holds 2 (some .boolean) ∈ BG := bg_in 1853 (by rfl) (by decide +kernel)
set_option maxRecDepth 100000 in
theorem w_57 : Cond.selects "CascaderyModel" yX12_in yX12_in ∈ BG := bg_in 57 (by decide +kernel) (by decide +kernel)
set_option maxRecDepth 100000 in
theorem w_1848 : Cond.instanceMethod yX12_in ∈ BG := bg_in 1848 (by decide +kernel) (by decide +kernel)
set_option maxRecDepth 100000 in
theorem w_1849 : Cond.code yX12_in cX12_in 4 (some .boolean) ∈ BG := bg_in 1849 (by rfl) (by decide +kernel)
set_option maxRecDepth 100000 in
theorem w_70 : Cond.selects "CascaderyModel" yX12_bit yX12_bit ∈ BG := bg_in 70 (by decide +kernel) (by decide +kernel)
set_option maxRecDepth 100000 in
theorem w_1908 : Cond.instanceMethod yX12_bit ∈ BG := bg_in 1908 (by decide +kernel) (by decide +kernel)
set_option maxRecDepth 100000 in
theorem w_1909 : Cond.code yX12_bit cX12_bit 3 (some .boolean) ∈ BG := bg_in 1909 (by rfl) (by decide +kernel)
set_option maxRecDepth 100000 in
theorem w_59 : Cond.selects "CascaderyModel" yX12_isElement yX12_isElement ∈ BG := bg_in 59 (by decide +kernel) (by decide +kernel)
set_option maxRecDepth 100000 in
theorem w_1860 : Cond.instanceMethod yX12_isElement ∈ BG := bg_in 1860 (by decide +kernel) (by decide +kernel)
set_option maxRecDepth 100000 in
theorem w_1861 : Cond.code yX12_isElement cX12_isElement 2 (some .boolean) ∈ BG := bg_in 1861 (by rfl) (by decide +kernel)
set_option maxRecDepth 100000 in
theorem w_86 : Cond.selects "CascaderyModel" yX12_isTree yX12_isTree ∈ BG := bg_in 86 (by decide +kernel) (by decide +kernel)
set_option maxRecDepth 100000 in
theorem w_2025 : Cond.instanceMethod yX12_isTree ∈ BG := bg_in 2025 (by decide +kernel) (by decide +kernel)
set_option maxRecDepth 100000 in
theorem w_2026 : Cond.code yX12_isTree cX12_isTree 2 (some .boolean) ∈ BG := bg_in 2026 (by rfl) (by decide +kernel)
set_option maxRecDepth 100000 in
theorem w_64 : Cond.selects "CascaderyModel" yX12_root yX12_root ∈ BG := bg_in 64 (by decide +kernel) (by decide +kernel)
set_option maxRecDepth 100000 in
theorem w_1880 : Cond.instanceMethod yX12_root ∈ BG := bg_in 1880 (by decide +kernel) (by decide +kernel)
set_option maxRecDepth 100000 in
theorem w_1881 : Cond.code yX12_root cX12_root 3 (some .int) ∈ BG := bg_in 1881 (by rfl) (by decide +kernel)
set_option maxRecDepth 100000 in
theorem w_63 : Cond.selects "CascaderyModel" yX12_treeOf yX12_treeOf ∈ BG := bg_in 63 (by decide +kernel) (by decide +kernel)
set_option maxRecDepth 100000 in
theorem w_1876 : Cond.instanceMethod yX12_treeOf ∈ BG := bg_in 1876 (by decide +kernel) (by decide +kernel)
set_option maxRecDepth 100000 in
theorem w_1877 : Cond.code yX12_treeOf cX12_treeOf 3 (some .int) ∈ BG := bg_in 1877 (by rfl) (by decide +kernel)
set_option maxRecDepth 100000 in
theorem w_62 : Cond.selects "CascaderyModel" yX12_inDoc yX12_inDoc ∈ BG := bg_in 62 (by decide +kernel) (by decide +kernel)
set_option maxRecDepth 100000 in
theorem w_1872 : Cond.instanceMethod yX12_inDoc ∈ BG := bg_in 1872 (by decide +kernel) (by decide +kernel)
set_option maxRecDepth 100000 in
theorem w_1873 : Cond.code yX12_inDoc cX12_inDoc 3 (some .boolean) ∈ BG := bg_in 1873 (by rfl) (by decide +kernel)
set_option maxRecDepth 100000 in
theorem w_126 : Cond.selects "CascaderyModel" yX12_depth yX12_depth ∈ BG := bg_in 126 (by decide +kernel) (by decide +kernel)
set_option maxRecDepth 100000 in
theorem w_2226 : Cond.instanceMethod yX12_depth ∈ BG := bg_in 2226 (by decide +kernel) (by decide +kernel)
set_option maxRecDepth 100000 in
theorem w_2227 : Cond.code yX12_depth cX12_depth 4 (some .int) ∈ BG := bg_in 2227 (by rfl) (by decide +kernel)
set_option maxRecDepth 100000 in
theorem w_61 : Cond.selects "CascaderyModel" yX12_docMask yX12_docMask ∈ BG := bg_in 61 (by decide +kernel) (by decide +kernel)
set_option maxRecDepth 100000 in
theorem w_1868 : Cond.instanceMethod yX12_docMask ∈ BG := bg_in 1868 (by decide +kernel) (by decide +kernel)
set_option maxRecDepth 100000 in
theorem w_1869 : Cond.code yX12_docMask cX12_docMask 3 (some .int) ∈ BG := bg_in 1869 (by rfl) (by decide +kernel)
set_option maxRecDepth 100000 in
theorem w_76 : Cond.selects "CascaderyModel" yX12_placeOf yX12_placeOf ∈ BG := bg_in 76 (by decide +kernel) (by decide +kernel)
set_option maxRecDepth 100000 in
theorem w_1932 : Cond.instanceMethod yX12_placeOf ∈ BG := bg_in 1932 (by decide +kernel) (by decide +kernel)
set_option maxRecDepth 100000 in
theorem w_1933 : Cond.code yX12_placeOf cX12_placeOf 3 (some .int) ∈ BG := bg_in 1933 (by rfl) (by decide +kernel)
set_option maxRecDepth 100000 in
theorem w_75 : Cond.selects "CascaderyModel" yX12_sibling yX12_sibling ∈ BG := bg_in 75 (by decide +kernel) (by decide +kernel)
set_option maxRecDepth 100000 in
theorem w_1928 : Cond.instanceMethod yX12_sibling ∈ BG := bg_in 1928 (by decide +kernel) (by decide +kernel)
set_option maxRecDepth 100000 in
theorem w_1929 : Cond.code yX12_sibling cX12_sibling 3 (some .int) ∈ BG := bg_in 1929 (by rfl) (by decide +kernel)
set_option maxRecDepth 100000 in
theorem w_74 : Cond.selects "CascaderyModel" yX12_nextIn yX12_nextIn ∈ BG := bg_in 74 (by decide +kernel) (by decide +kernel)
set_option maxRecDepth 100000 in
theorem w_1924 : Cond.instanceMethod yX12_nextIn ∈ BG := bg_in 1924 (by decide +kernel) (by decide +kernel)
set_option maxRecDepth 100000 in
theorem w_1925 : Cond.code yX12_nextIn cX12_nextIn 3 (some .int) ∈ BG := bg_in 1925 (by rfl) (by decide +kernel)
set_option maxRecDepth 100000 in
theorem w_73 : Cond.selects "CascaderyModel" yX12_slot yX12_slot ∈ BG := bg_in 73 (by decide +kernel) (by decide +kernel)
set_option maxRecDepth 100000 in
theorem w_1920 : Cond.instanceMethod yX12_slot ∈ BG := bg_in 1920 (by decide +kernel) (by decide +kernel)
set_option maxRecDepth 100000 in
theorem w_1921 : Cond.code yX12_slot cX12_slot 4 (some .int) ∈ BG := bg_in 1921 (by rfl) (by decide +kernel)
set_option maxRecDepth 100000 in
theorem w_72 : Cond.selects "CascaderyModel" yX12_shown yX12_shown ∈ BG := bg_in 72 (by decide +kernel) (by decide +kernel)
set_option maxRecDepth 100000 in
theorem w_1916 : Cond.instanceMethod yX12_shown ∈ BG := bg_in 1916 (by decide +kernel) (by decide +kernel)
set_option maxRecDepth 100000 in
theorem w_1917 : Cond.code yX12_shown cX12_shown 4 (some .int) ∈ BG := bg_in 1917 (by rfl) (by decide +kernel)
set_option maxRecDepth 100000 in
theorem w_107 : Cond.selects "CascaderyModel" yX12_fanOf yX12_fanOf ∈ BG := bg_in 107 (by decide +kernel) (by decide +kernel)
set_option maxRecDepth 100000 in
theorem w_2149 : Cond.instanceMethod yX12_fanOf ∈ BG := bg_in 2149 (by decide +kernel) (by decide +kernel)
set_option maxRecDepth 100000 in
theorem w_2150 : Cond.code yX12_fanOf cX12_fanOf 4 none ∈ BG := bg_in 2150 (by rfl) (by decide +kernel)
set_option maxRecDepth 100000 in
theorem w_108 : Cond.selects "CascaderyModel" yX12_fanIn yX12_fanIn ∈ BG := bg_in 108 (by decide +kernel) (by decide +kernel)
set_option maxRecDepth 100000 in
theorem w_2153 : Cond.instanceMethod yX12_fanIn ∈ BG := bg_in 2153 (by decide +kernel) (by decide +kernel)
set_option maxRecDepth 100000 in
theorem w_2154 : Cond.code yX12_fanIn cX12_fanIn 3 none ∈ BG := bg_in 2154 (by rfl) (by decide +kernel)
set_option maxRecDepth 100000 in
theorem w_106 : Cond.selects "CascaderyModel" yX12_ordered yX12_ordered ∈ BG := bg_in 106 (by decide +kernel) (by decide +kernel)
set_option maxRecDepth 100000 in
theorem w_2145 : Cond.instanceMethod yX12_ordered ∈ BG := bg_in 2145 (by decide +kernel) (by decide +kernel)
set_option maxRecDepth 100000 in
theorem w_2146 : Cond.code yX12_ordered cX12_ordered 4 none ∈ BG := bg_in 2146 (by rfl) (by decide +kernel)
set_option maxRecDepth 100000 in
theorem w_71 : Cond.selects "CascaderyModel" yX12_below yX12_below ∈ BG := bg_in 71 (by decide +kernel) (by decide +kernel)
set_option maxRecDepth 100000 in
theorem w_1912 : Cond.instanceMethod yX12_below ∈ BG := bg_in 1912 (by decide +kernel) (by decide +kernel)
set_option maxRecDepth 100000 in
theorem w_1913 : Cond.code yX12_below cX12_below 4 (some .boolean) ∈ BG := bg_in 1913 (by rfl) (by decide +kernel)
set_option maxRecDepth 100000 in
theorem w_56 : Cond.selects "CascaderyModel" yX12_draft yX12_draft ∈ BG := bg_in 56 (by decide +kernel) (by decide +kernel)
set_option maxRecDepth 100000 in
theorem w_1577 : Cond.instanceMethod yX12_draft ∈ BG := bg_in 1577 (by decide +kernel) (by decide +kernel)
set_option maxRecDepth 100000 in
theorem w_1578 : Cond.code yX12_draft cX12_draft 2 none ∈ BG := bg_in 1578 (by rfl) (by decide +kernel)
set_option maxRecDepth 100000 in
theorem w_95 : Cond.selects "CascaderyModel" yX12_up yX12_up ∈ BG := bg_in 95 (by decide +kernel) (by decide +kernel)
set_option maxRecDepth 100000 in
theorem w_2061 : Cond.instanceMethod yX12_up ∈ BG := bg_in 2061 (by decide +kernel) (by decide +kernel)
set_option maxRecDepth 100000 in
theorem w_2062 : Cond.code yX12_up cX12_up 2 (some .int) ∈ BG := bg_in 2062 (by rfl) (by decide +kernel)
set_option maxRecDepth 100000 in
theorem w_94 : Cond.selects "CascaderyModel" yX12_siblings yX12_siblings ∈ BG := bg_in 94 (by decide +kernel) (by decide +kernel)
set_option maxRecDepth 100000 in
theorem w_2057 : Cond.instanceMethod yX12_siblings ∈ BG := bg_in 2057 (by decide +kernel) (by decide +kernel)
set_option maxRecDepth 100000 in
theorem w_2058 : Cond.code yX12_siblings cX12_siblings 3 (some .boolean) ∈ BG := bg_in 2058 (by rfl) (by decide +kernel)
set_option maxRecDepth 100000 in
theorem w_93 : Cond.selects "CascaderyModel" yX12_related yX12_related ∈ BG := bg_in 93 (by decide +kernel) (by decide +kernel)
set_option maxRecDepth 100000 in
theorem w_2053 : Cond.instanceMethod yX12_related ∈ BG := bg_in 2053 (by decide +kernel) (by decide +kernel)
set_option maxRecDepth 100000 in
theorem w_2054 : Cond.code yX12_related cX12_related 5 (some .boolean) ∈ BG := bg_in 2054 (by rfl) (by decide +kernel)
set_option maxRecDepth 100000 in
theorem w_91 : Cond.selects "CascaderyModel" yX12_nth yX12_nth ∈ BG := bg_in 91 (by decide +kernel) (by decide +kernel)
set_option maxRecDepth 100000 in
theorem w_2045 : Cond.instanceMethod yX12_nth ∈ BG := bg_in 2045 (by decide +kernel) (by decide +kernel)
set_option maxRecDepth 100000 in
theorem w_2046 : Cond.code yX12_nth cX12_nth 5 (some .boolean) ∈ BG := bg_in 2046 (by rfl) (by decide +kernel)
set_option maxRecDepth 100000 in
theorem w_92 : Cond.selects "CascaderyModel" yX12_hasIn yX12_hasIn ∈ BG := bg_in 92 (by decide +kernel) (by decide +kernel)
set_option maxRecDepth 100000 in
theorem w_2049 : Cond.instanceMethod yX12_hasIn ∈ BG := bg_in 2049 (by decide +kernel) (by decide +kernel)
set_option maxRecDepth 100000 in
theorem w_2050 : Cond.code yX12_hasIn cX12_hasIn 6 (some .boolean) ∈ BG := bg_in 2050 (by rfl) (by decide +kernel)
set_option maxRecDepth 100000 in
theorem w_90 : Cond.selects "CascaderyModel" yX12_passes yX12_passes ∈ BG := bg_in 90 (by decide +kernel) (by decide +kernel)
set_option maxRecDepth 100000 in
theorem w_2041 : Cond.instanceMethod yX12_passes ∈ BG := bg_in 2041 (by decide +kernel) (by decide +kernel)
set_option maxRecDepth 100000 in
theorem w_2042 : Cond.code yX12_passes cX12_passes 5 (some .boolean) ∈ BG := bg_in 2042 (by rfl) (by decide +kernel)
set_option maxRecDepth 100000 in
theorem w_89 : Cond.selects "CascaderyModel" yX12_compound yX12_compound ∈ BG := bg_in 89 (by decide +kernel) (by decide +kernel)
set_option maxRecDepth 100000 in
theorem w_2037 : Cond.instanceMethod yX12_compound ∈ BG := bg_in 2037 (by decide +kernel) (by decide +kernel)
set_option maxRecDepth 100000 in
theorem w_2038 : Cond.code yX12_compound cX12_compound 8 (some .int) ∈ BG := bg_in 2038 (by rfl) (by decide +kernel)
set_option maxRecDepth 100000 in
theorem w_96 : Cond.selects "CascaderyModel" yX12_stepped yX12_stepped ∈ BG := bg_in 96 (by decide +kernel) (by decide +kernel)
set_option maxRecDepth 100000 in
theorem w_2065 : Cond.instanceMethod yX12_stepped ∈ BG := bg_in 2065 (by decide +kernel) (by decide +kernel)
set_option maxRecDepth 100000 in
theorem w_2066 : Cond.code yX12_stepped cX12_stepped 8 (some .int) ∈ BG := bg_in 2066 (by rfl) (by decide +kernel)
set_option maxRecDepth 100000 in
theorem w_88 : Cond.selects "CascaderyModel" yX12_solve yX12_solve ∈ BG := bg_in 88 (by decide +kernel) (by decide +kernel)
set_option maxRecDepth 100000 in
theorem w_2033 : Cond.instanceMethod yX12_solve ∈ BG := bg_in 2033 (by decide +kernel) (by decide +kernel)
set_option maxRecDepth 100000 in
theorem w_2034 : Cond.code yX12_solve cX12_solve 6 (some .int) ∈ BG := bg_in 2034 (by rfl) (by decide +kernel)
set_option maxRecDepth 100000 in
theorem w_87 : Cond.selects "CascaderyModel" yX12_look yX12_look ∈ BG := bg_in 87 (by decide +kernel) (by decide +kernel)
set_option maxRecDepth 100000 in
theorem w_2029 : Cond.instanceMethod yX12_look ∈ BG := bg_in 2029 (by decide +kernel) (by decide +kernel)
set_option maxRecDepth 100000 in
theorem w_2030 : Cond.code yX12_look cX12_look 3 none ∈ BG := bg_in 2030 (by rfl) (by decide +kernel)
set_option maxRecDepth 100000 in
theorem w_109 : Cond.selects "CascaderyModel" yX12_hits yX12_hits ∈ BG := bg_in 109 (by decide +kernel) (by decide +kernel)
set_option maxRecDepth 100000 in
theorem w_2157 : Cond.instanceMethod yX12_hits ∈ BG := bg_in 2157 (by decide +kernel) (by decide +kernel)
set_option maxRecDepth 100000 in
theorem w_2158 : Cond.code yX12_hits cX12_hits 3 none ∈ BG := bg_in 2158 (by rfl) (by decide +kernel)
set_option maxRecDepth 100000 in
theorem w_84 : Cond.selects "CascaderyModel" yX12_bits yX12_bits ∈ BG := bg_in 84 (by decide +kernel) (by decide +kernel)
set_option maxRecDepth 100000 in
theorem w_2008 : Cond.instanceMethod yX12_bits ∈ BG := bg_in 2008 (by decide +kernel) (by decide +kernel)
set_option maxRecDepth 100000 in
theorem w_2009 : Cond.code yX12_bits cX12_bits 2 (some .int) ∈ BG := bg_in 2009 (by rfl) (by decide +kernel)
set_option maxRecDepth 100000 in
theorem w_83 : Cond.selects "CascaderyModel" yX12_study yX12_study ∈ BG := bg_in 83 (by decide +kernel) (by decide +kernel)
set_option maxRecDepth 100000 in
theorem w_2004 : Cond.instanceMethod yX12_study ∈ BG := bg_in 2004 (by decide +kernel) (by decide +kernel)
set_option maxRecDepth 100000 in
theorem w_2005 : Cond.code yX12_study cX12_study 14 none ∈ BG := bg_in 2005 (by rfl) (by decide +kernel)
set_option maxRecDepth 100000 in
theorem w_82 : Cond.selects "CascaderyModel" yX12_weigh yX12_weigh ∈ BG := bg_in 82 (by decide +kernel) (by decide +kernel)
set_option maxRecDepth 100000 in
theorem w_2000 : Cond.instanceMethod yX12_weigh ∈ BG := bg_in 2000 (by decide +kernel) (by decide +kernel)
set_option maxRecDepth 100000 in
theorem w_2001 : Cond.code yX12_weigh cX12_weigh 3 (some .int) ∈ BG := bg_in 2001 (by rfl) (by decide +kernel)
set_option maxRecDepth 100000 in
theorem w_119 : Cond.selects "CascaderyModel" yX12_originOf yX12_originOf ∈ BG := bg_in 119 (by decide +kernel) (by decide +kernel)
set_option maxRecDepth 100000 in
theorem w_2198 : Cond.instanceMethod yX12_originOf ∈ BG := bg_in 2198 (by decide +kernel) (by decide +kernel)
set_option maxRecDepth 100000 in
theorem w_2199 : Cond.code yX12_originOf cX12_originOf 2 (some .int) ∈ BG := bg_in 2199 (by rfl) (by decide +kernel)
set_option maxRecDepth 100000 in
theorem w_124 : Cond.selects "CascaderyModel" yX12_rank yX12_rank ∈ BG := bg_in 124 (by decide +kernel) (by decide +kernel)
set_option maxRecDepth 100000 in
theorem w_2218 : Cond.instanceMethod yX12_rank ∈ BG := bg_in 2218 (by decide +kernel) (by decide +kernel)
set_option maxRecDepth 100000 in
theorem w_2219 : Cond.code yX12_rank cX12_rank 2 (some .int) ∈ BG := bg_in 2219 (by rfl) (by decide +kernel)
set_option maxRecDepth 100000 in
theorem w_125 : Cond.selects "CascaderyModel" yX12_depthOf yX12_depthOf ∈ BG := bg_in 125 (by decide +kernel) (by decide +kernel)
set_option maxRecDepth 100000 in
theorem w_2222 : Cond.instanceMethod yX12_depthOf ∈ BG := bg_in 2222 (by decide +kernel) (by decide +kernel)
set_option maxRecDepth 100000 in
theorem w_2223 : Cond.code yX12_depthOf cX12_depthOf 2 (some .int) ∈ BG := bg_in 2223 (by rfl) (by decide +kernel)
set_option maxRecDepth 100000 in
theorem w_127 : Cond.selects "CascaderyModel" yX12_layerOf yX12_layerOf ∈ BG := bg_in 127 (by decide +kernel) (by decide +kernel)
set_option maxRecDepth 100000 in
theorem w_2230 : Cond.instanceMethod yX12_layerOf ∈ BG := bg_in 2230 (by decide +kernel) (by decide +kernel)
set_option maxRecDepth 100000 in
theorem w_2231 : Cond.code yX12_layerOf cX12_layerOf 3 (some .int) ∈ BG := bg_in 2231 (by rfl) (by decide +kernel)
set_option maxRecDepth 100000 in
theorem w_123 : Cond.selects "CascaderyModel" yX12_against yX12_against ∈ BG := bg_in 123 (by decide +kernel) (by decide +kernel)
set_option maxRecDepth 100000 in
theorem w_2214 : Cond.instanceMethod yX12_against ∈ BG := bg_in 2214 (by decide +kernel) (by decide +kernel)
set_option maxRecDepth 100000 in
theorem w_2215 : Cond.code yX12_against cX12_against 6 (some .int) ∈ BG := bg_in 2215 (by rfl) (by decide +kernel)
set_option maxRecDepth 100000 in
theorem w_122 : Cond.selects "CascaderyModel" yX12_holder yX12_holder ∈ BG := bg_in 122 (by decide +kernel) (by decide +kernel)
set_option maxRecDepth 100000 in
theorem w_2210 : Cond.instanceMethod yX12_holder ∈ BG := bg_in 2210 (by decide +kernel) (by decide +kernel)
set_option maxRecDepth 100000 in
theorem w_2211 : Cond.code yX12_holder cX12_holder 4 (some .int) ∈ BG := bg_in 2211 (by rfl) (by decide +kernel)
set_option maxRecDepth 100000 in
theorem w_121 : Cond.selects "CascaderyModel" yX12_fits yX12_fits ∈ BG := bg_in 121 (by decide +kernel) (by decide +kernel)
set_option maxRecDepth 100000 in
theorem w_2206 : Cond.instanceMethod yX12_fits ∈ BG := bg_in 2206 (by decide +kernel) (by decide +kernel)
set_option maxRecDepth 100000 in
theorem w_2207 : Cond.code yX12_fits cX12_fits 7 (some .boolean) ∈ BG := bg_in 2207 (by rfl) (by decide +kernel)
set_option maxRecDepth 100000 in
theorem w_120 : Cond.selects "CascaderyModel" yX12_stands yX12_stands ∈ BG := bg_in 120 (by decide +kernel) (by decide +kernel)
set_option maxRecDepth 100000 in
theorem w_2202 : Cond.instanceMethod yX12_stands ∈ BG := bg_in 2202 (by decide +kernel) (by decide +kernel)
set_option maxRecDepth 100000 in
theorem w_2203 : Cond.code yX12_stands cX12_stands 2 (some .boolean) ∈ BG := bg_in 2203 (by rfl) (by decide +kernel)
set_option maxRecDepth 100000 in
theorem w_118 : Cond.selects "CascaderyModel" yX12_winner yX12_winner ∈ BG := bg_in 118 (by decide +kernel) (by decide +kernel)
set_option maxRecDepth 100000 in
theorem w_2194 : Cond.instanceMethod yX12_winner ∈ BG := bg_in 2194 (by decide +kernel) (by decide +kernel)
set_option maxRecDepth 100000 in
theorem w_2195 : Cond.code yX12_winner cX12_winner 10 (some .int) ∈ BG := bg_in 2195 (by rfl) (by decide +kernel)
set_option maxRecDepth 100000 in
theorem w_117 : Cond.selects "CascaderyModel" yX12_found yX12_found ∈ BG := bg_in 117 (by decide +kernel) (by decide +kernel)
set_option maxRecDepth 100000 in
theorem w_2190 : Cond.instanceMethod yX12_found ∈ BG := bg_in 2190 (by decide +kernel) (by decide +kernel)
set_option maxRecDepth 100000 in
theorem w_2191 : Cond.code yX12_found cX12_found 6 (some .int) ∈ BG := bg_in 2191 (by rfl) (by decide +kernel)
set_option maxRecDepth 100000 in
theorem w_99 : Cond.selects "CascaderyModel" yX12_suits yX12_suits ∈ BG := bg_in 99 (by decide +kernel) (by decide +kernel)
set_option maxRecDepth 100000 in
theorem w_2101 : Cond.instanceMethod yX12_suits ∈ BG := bg_in 2101 (by decide +kernel) (by decide +kernel)
set_option maxRecDepth 100000 in
theorem w_2102 : Cond.code yX12_suits cX12_suits 4 (some .boolean) ∈ BG := bg_in 2102 (by rfl) (by decide +kernel)
set_option maxRecDepth 100000 in
theorem w_135 : Cond.selects "CascaderyModel" yX12_bounded yX12_bounded ∈ BG := bg_in 135 (by decide +kernel) (by decide +kernel)
set_option maxRecDepth 100000 in
theorem w_2262 : Cond.instanceMethod yX12_bounded ∈ BG := bg_in 2262 (by decide +kernel) (by decide +kernel)
set_option maxRecDepth 100000 in
theorem w_2263 : Cond.code yX12_bounded cX12_bounded 3 (some .int) ∈ BG := bg_in 2263 (by rfl) (by decide +kernel)
set_option maxRecDepth 100000 in
theorem w_133 : Cond.selects "CascaderyModel" yX12_initial yX12_initial ∈ BG := bg_in 133 (by decide +kernel) (by decide +kernel)
set_option maxRecDepth 100000 in
theorem w_2254 : Cond.instanceMethod yX12_initial ∈ BG := bg_in 2254 (by decide +kernel) (by decide +kernel)
set_option maxRecDepth 100000 in
theorem w_2255 : Cond.code yX12_initial cX12_initial 2 (some .int) ∈ BG := bg_in 2255 (by rfl) (by decide +kernel)
set_option maxRecDepth 100000 in
theorem w_132 : Cond.selects "CascaderyModel" yX12_inherited yX12_inherited ∈ BG := bg_in 132 (by decide +kernel) (by decide +kernel)
set_option maxRecDepth 100000 in
theorem w_2250 : Cond.instanceMethod yX12_inherited ∈ BG := bg_in 2250 (by decide +kernel) (by decide +kernel)
set_option maxRecDepth 100000 in
theorem w_2251 : Cond.code yX12_inherited cX12_inherited 4 (some .int) ∈ BG := bg_in 2251 (by rfl) (by decide +kernel)
set_option maxRecDepth 100000 in
theorem w_116 : Cond.selects "CascaderyModel" yX12_variables yX12_variables ∈ BG := bg_in 116 (by decide +kernel) (by decide +kernel)
set_option maxRecDepth 100000 in
theorem w_2186 : Cond.instanceMethod yX12_variables ∈ BG := bg_in 2186 (by decide +kernel) (by decide +kernel)
set_option maxRecDepth 100000 in
theorem w_2187 : Cond.code yX12_variables cX12_variables 11 none ∈ BG := bg_in 2187 (by rfl) (by decide +kernel)
set_option maxRecDepth 100000 in
theorem w_130 : Cond.selects "CascaderyModel" yX12_aim yX12_aim ∈ BG := bg_in 130 (by decide +kernel) (by decide +kernel)
set_option maxRecDepth 100000 in
theorem w_2242 : Cond.instanceMethod yX12_aim ∈ BG := bg_in 2242 (by decide +kernel) (by decide +kernel)
set_option maxRecDepth 100000 in
theorem w_2243 : Cond.code yX12_aim cX12_aim 5 (some .int) ∈ BG := bg_in 2243 (by rfl) (by decide +kernel)
set_option maxRecDepth 100000 in
theorem w_128 : Cond.selects "CascaderyModel" yX12_follow yX12_follow ∈ BG := bg_in 128 (by decide +kernel) (by decide +kernel)
set_option maxRecDepth 100000 in
theorem w_2234 : Cond.instanceMethod yX12_follow ∈ BG := bg_in 2234 (by decide +kernel) (by decide +kernel)
set_option maxRecDepth 100000 in
theorem w_2235 : Cond.code yX12_follow cX12_follow 15 none ∈ BG := bg_in 2235 (by rfl) (by decide +kernel)
set_option maxRecDepth 100000 in
theorem w_129 : Cond.selects "CascaderyModel" yX12_onRing yX12_onRing ∈ BG := bg_in 129 (by decide +kernel) (by decide +kernel)
set_option maxRecDepth 100000 in
theorem w_2238 : Cond.instanceMethod yX12_onRing ∈ BG := bg_in 2238 (by decide +kernel) (by decide +kernel)
set_option maxRecDepth 100000 in
theorem w_2239 : Cond.code yX12_onRing cX12_onRing 8 (some .boolean) ∈ BG := bg_in 2239 (by rfl) (by decide +kernel)
set_option maxRecDepth 100000 in
theorem w_134 : Cond.selects "CascaderyModel" yX12_reckoned yX12_reckoned ∈ BG := bg_in 134 (by decide +kernel) (by decide +kernel)
set_option maxRecDepth 100000 in
theorem w_2258 : Cond.instanceMethod yX12_reckoned ∈ BG := bg_in 2258 (by decide +kernel) (by decide +kernel)
set_option maxRecDepth 100000 in
theorem w_2259 : Cond.code yX12_reckoned cX12_reckoned 14 (some .int) ∈ BG := bg_in 2259 (by rfl) (by decide +kernel)
set_option maxRecDepth 100000 in
theorem w_131 : Cond.selects "CascaderyModel" yX12_reckon yX12_reckon ∈ BG := bg_in 131 (by decide +kernel) (by decide +kernel)
set_option maxRecDepth 100000 in
theorem w_2246 : Cond.instanceMethod yX12_reckon ∈ BG := bg_in 2246 (by decide +kernel) (by decide +kernel)
set_option maxRecDepth 100000 in
theorem w_2247 : Cond.code yX12_reckon cX12_reckon 10 none ∈ BG := bg_in 2247 (by rfl) (by decide +kernel)
set_option maxRecDepth 100000 in
theorem w_115 : Cond.selects "CascaderyModel" yX12_style yX12_style ∈ BG := bg_in 115 (by decide +kernel) (by decide +kernel)
set_option maxRecDepth 100000 in
theorem w_2182 : Cond.instanceMethod yX12_style ∈ BG := bg_in 2182 (by decide +kernel) (by decide +kernel)
set_option maxRecDepth 100000 in
theorem w_2183 : Cond.code yX12_style cX12_style 6 none ∈ BG := bg_in 2183 (by rfl) (by decide +kernel)
set_option maxRecDepth 100000 in
theorem w_136 : Cond.selects "CascaderyModel" yX12_sized yX12_sized ∈ BG := bg_in 136 (by decide +kernel) (by decide +kernel)
set_option maxRecDepth 100000 in
theorem w_2271 : Cond.instanceMethod yX12_sized ∈ BG := bg_in 2271 (by decide +kernel) (by decide +kernel)
set_option maxRecDepth 100000 in
theorem w_2272 : Cond.code yX12_sized cX12_sized 7 (some .int) ∈ BG := bg_in 2272 (by rfl) (by decide +kernel)
set_option maxRecDepth 100000 in
theorem w_113 : Cond.selects "CascaderyModel" yX12_byFrames yX12_byFrames ∈ BG := bg_in 113 (by decide +kernel) (by decide +kernel)
set_option maxRecDepth 100000 in
theorem w_2173 : Cond.instanceMethod yX12_byFrames ∈ BG := bg_in 2173 (by decide +kernel) (by decide +kernel)
set_option maxRecDepth 100000 in
theorem w_2174 : Cond.code yX12_byFrames cX12_byFrames 16 (some .int) ∈ BG := bg_in 2174 (by rfl) (by decide +kernel)
set_option maxRecDepth 100000 in
theorem w_112 : Cond.selects "CascaderyModel" yX12_plays yX12_plays ∈ BG := bg_in 112 (by decide +kernel) (by decide +kernel)
set_option maxRecDepth 100000 in
theorem w_2169 : Cond.instanceMethod yX12_plays ∈ BG := bg_in 2169 (by decide +kernel) (by decide +kernel)
set_option maxRecDepth 100000 in
theorem w_2170 : Cond.code yX12_plays cX12_plays 6 (some .boolean) ∈ BG := bg_in 2170 (by rfl) (by decide +kernel)
set_option maxRecDepth 100000 in
theorem w_111 : Cond.selects "CascaderyModel" yX12_moves yX12_moves ∈ BG := bg_in 111 (by decide +kernel) (by decide +kernel)
set_option maxRecDepth 100000 in
theorem w_2165 : Cond.instanceMethod yX12_moves ∈ BG := bg_in 2165 (by decide +kernel) (by decide +kernel)
set_option maxRecDepth 100000 in
theorem w_2166 : Cond.code yX12_moves cX12_moves 3 (some .boolean) ∈ BG := bg_in 2166 (by rfl) (by decide +kernel)
set_option maxRecDepth 100000 in
theorem w_110 : Cond.selects "CascaderyModel" yX12_seenOf yX12_seenOf ∈ BG := bg_in 110 (by decide +kernel) (by decide +kernel)
set_option maxRecDepth 100000 in
theorem w_2161 : Cond.instanceMethod yX12_seenOf ∈ BG := bg_in 2161 (by decide +kernel) (by decide +kernel)
set_option maxRecDepth 100000 in
theorem w_2162 : Cond.code yX12_seenOf cX12_seenOf 6 (some .int) ∈ BG := bg_in 2162 (by rfl) (by decide +kernel)
set_option maxRecDepth 100000 in
theorem w_137 : Cond.selects "CascaderyModel" yX12_differs yX12_differs ∈ BG := bg_in 137 (by decide +kernel) (by decide +kernel)
set_option maxRecDepth 100000 in
theorem w_2275 : Cond.instanceMethod yX12_differs ∈ BG := bg_in 2275 (by decide +kernel) (by decide +kernel)
set_option maxRecDepth 100000 in
theorem w_2276 : Cond.code yX12_differs cX12_differs 4 (some .boolean) ∈ BG := bg_in 2276 (by rfl) (by decide +kernel)
set_option maxRecDepth 100000 in
theorem w_138 : Cond.selects "CascaderyModel" yX12_transit yX12_transit ∈ BG := bg_in 138 (by decide +kernel) (by decide +kernel)
set_option maxRecDepth 100000 in
theorem w_2279 : Cond.instanceMethod yX12_transit ∈ BG := bg_in 2279 (by decide +kernel) (by decide +kernel)
set_option maxRecDepth 100000 in
theorem w_2280 : Cond.code yX12_transit cX12_transit 11 none ∈ BG := bg_in 2280 (by rfl) (by decide +kernel)
set_option maxRecDepth 100000 in
theorem w_114 : Cond.selects "CascaderyModel" yX12_restyle yX12_restyle ∈ BG := bg_in 114 (by decide +kernel) (by decide +kernel)
set_option maxRecDepth 100000 in
theorem w_2178 : Cond.instanceMethod yX12_restyle ∈ BG := bg_in 2178 (by decide +kernel) (by decide +kernel)
set_option maxRecDepth 100000 in
theorem w_2179 : Cond.code yX12_restyle cX12_restyle 7 (some .boolean) ∈ BG := bg_in 2179 (by rfl) (by decide +kernel)
set_option maxRecDepth 100000 in
theorem w_78 : Cond.selects "CascaderyModel" yX12_flags yX12_flags ∈ BG := bg_in 78 (by decide +kernel) (by decide +kernel)
set_option maxRecDepth 100000 in
theorem w_1940 : Cond.instanceMethod yX12_flags ∈ BG := bg_in 1940 (by decide +kernel) (by decide +kernel)
set_option maxRecDepth 100000 in
theorem w_1941 : Cond.code yX12_flags cX12_flags 3 (some .int) ∈ BG := bg_in 1941 (by rfl) (by decide +kernel)
set_option maxRecDepth 100000 in
theorem w_141 : Cond.selects "CascaderyModel" yX12_plain yX12_plain ∈ BG := bg_in 141 (by decide +kernel) (by decide +kernel)
set_option maxRecDepth 100000 in
theorem w_2291 : Cond.instanceMethod yX12_plain ∈ BG := bg_in 2291 (by decide +kernel) (by decide +kernel)
set_option maxRecDepth 100000 in
theorem w_2292 : Cond.code yX12_plain cX12_plain 4 (some .boolean) ∈ BG := bg_in 2292 (by rfl) (by decide +kernel)
set_option maxRecDepth 100000 in
theorem w_140 : Cond.selects "CascaderyModel" yX12_twins yX12_twins ∈ BG := bg_in 140 (by decide +kernel) (by decide +kernel)
set_option maxRecDepth 100000 in
theorem w_2287 : Cond.instanceMethod yX12_twins ∈ BG := bg_in 2287 (by decide +kernel) (by decide +kernel)
set_option maxRecDepth 100000 in
theorem w_2288 : Cond.code yX12_twins cX12_twins 4 (some .boolean) ∈ BG := bg_in 2288 (by rfl) (by decide +kernel)
set_option maxRecDepth 100000 in
theorem w_139 : Cond.selects "CascaderyModel" yX12_ahead yX12_ahead ∈ BG := bg_in 139 (by decide +kernel) (by decide +kernel)
set_option maxRecDepth 100000 in
theorem w_2283 : Cond.instanceMethod yX12_ahead ∈ BG := bg_in 2283 (by decide +kernel) (by decide +kernel)
set_option maxRecDepth 100000 in
theorem w_2284 : Cond.code yX12_ahead cX12_ahead 3 (some .int) ∈ BG := bg_in 2284 (by rfl) (by decide +kernel)
set_option maxRecDepth 100000 in
theorem w_105 : Cond.selects "CascaderyModel" yX12_flush yX12_flush ∈ BG := bg_in 105 (by decide +kernel) (by decide +kernel)
set_option maxRecDepth 100000 in
theorem w_2141 : Cond.instanceMethod yX12_flush ∈ BG := bg_in 2141 (by decide +kernel) (by decide +kernel)
set_option maxRecDepth 100000 in
theorem w_2142 : Cond.code yX12_flush cX12_flush 8 none ∈ BG := bg_in 2142 (by rfl) (by decide +kernel)
set_option maxRecDepth 100000 in
theorem w_104 : Cond.selects "CascaderyModel" yX12_needs yX12_needs ∈ BG := bg_in 104 (by decide +kernel) (by decide +kernel)
set_option maxRecDepth 100000 in
theorem w_2137 : Cond.instanceMethod yX12_needs ∈ BG := bg_in 2137 (by decide +kernel) (by decide +kernel)
set_option maxRecDepth 100000 in
theorem w_2138 : Cond.code yX12_needs cX12_needs 1 (some .boolean) ∈ BG := bg_in 2138 (by rfl) (by decide +kernel)
set_option maxRecDepth 100000 in
theorem w_103 : Cond.selects "CascaderyModel" yX12_read yX12_read ∈ BG := bg_in 103 (by decide +kernel) (by decide +kernel)
set_option maxRecDepth 100000 in
theorem w_2133 : Cond.instanceMethod yX12_read ∈ BG := bg_in 2133 (by decide +kernel) (by decide +kernel)
set_option maxRecDepth 100000 in
theorem w_2134 : Cond.code yX12_read cX12_read 3 none ∈ BG := bg_in 2134 (by rfl) (by decide +kernel)
set_option maxRecDepth 100000 in
theorem w_68 : Cond.selects "CascaderyModel" yX12_mark yX12_mark ∈ BG := bg_in 68 (by decide +kernel) (by decide +kernel)
set_option maxRecDepth 100000 in
theorem w_1900 : Cond.instanceMethod yX12_mark ∈ BG := bg_in 1900 (by decide +kernel) (by decide +kernel)
set_option maxRecDepth 100000 in
theorem w_1901 : Cond.code yX12_mark cX12_mark 2 none ∈ BG := bg_in 1901 (by rfl) (by decide +kernel)
set_option maxRecDepth 100000 in
theorem w_60 : Cond.selects "CascaderyModel" yX12_markAll yX12_markAll ∈ BG := bg_in 60 (by decide +kernel) (by decide +kernel)
set_option maxRecDepth 100000 in
theorem w_1864 : Cond.instanceMethod yX12_markAll ∈ BG := bg_in 1864 (by decide +kernel) (by decide +kernel)
set_option maxRecDepth 100000 in
theorem w_1865 : Cond.code yX12_markAll cX12_markAll 1 none ∈ BG := bg_in 1865 (by rfl) (by decide +kernel)
set_option maxRecDepth 100000 in
theorem w_69 : Cond.selects "CascaderyModel" yX12_markBelow yX12_markBelow ∈ BG := bg_in 69 (by decide +kernel) (by decide +kernel)
set_option maxRecDepth 100000 in
theorem w_1904 : Cond.instanceMethod yX12_markBelow ∈ BG := bg_in 1904 (by decide +kernel) (by decide +kernel)
set_option maxRecDepth 100000 in
theorem w_1905 : Cond.code yX12_markBelow cX12_markBelow 4 none ∈ BG := bg_in 1905 (by rfl) (by decide +kernel)
set_option maxRecDepth 100000 in
theorem w_81 : Cond.selects "CascaderyModel" yX12_markTest yX12_markTest ∈ BG := bg_in 81 (by decide +kernel) (by decide +kernel)
set_option maxRecDepth 100000 in
theorem w_1964 : Cond.instanceMethod yX12_markTest ∈ BG := bg_in 1964 (by decide +kernel) (by decide +kernel)
set_option maxRecDepth 100000 in
theorem w_1965 : Cond.code yX12_markTest cX12_markTest 9 none ∈ BG := bg_in 1965 (by rfl) (by decide +kernel)
set_option maxRecDepth 100000 in
theorem w_79 : Cond.selects "CascaderyModel" yX12_markHosts yX12_markHosts ∈ BG := bg_in 79 (by decide +kernel) (by decide +kernel)
set_option maxRecDepth 100000 in
theorem w_1944 : Cond.instanceMethod yX12_markHosts ∈ BG := bg_in 1944 (by decide +kernel) (by decide +kernel)
set_option maxRecDepth 100000 in
theorem w_1945 : Cond.code yX12_markHosts cX12_markHosts 3 none ∈ BG := bg_in 1945 (by rfl) (by decide +kernel)
set_option maxRecDepth 100000 in
theorem w_67 : Cond.selects "CascaderyModel" yX12_markWith yX12_markWith ∈ BG := bg_in 67 (by decide +kernel) (by decide +kernel)
set_option maxRecDepth 100000 in
theorem w_1896 : Cond.instanceMethod yX12_markWith ∈ BG := bg_in 1896 (by decide +kernel) (by decide +kernel)
set_option maxRecDepth 100000 in
theorem w_1897 : Cond.code yX12_markWith cX12_markWith 2 none ∈ BG := bg_in 1897 (by rfl) (by decide +kernel)
set_option maxRecDepth 100000 in
theorem w_77 : Cond.selects "CascaderyModel" yX12_markPlace yX12_markPlace ∈ BG := bg_in 77 (by decide +kernel) (by decide +kernel)
set_option maxRecDepth 100000 in
theorem w_1936 : Cond.instanceMethod yX12_markPlace ∈ BG := bg_in 1936 (by decide +kernel) (by decide +kernel)
set_option maxRecDepth 100000 in
theorem w_1937 : Cond.code yX12_markPlace cX12_markPlace 6 none ∈ BG := bg_in 1937 (by rfl) (by decide +kernel)
set_option maxRecDepth 100000 in
theorem w_1844 : Cond.selects "CascaderyModel" yX12_make yX12_make ∈ BG := bg_in 1844 (by decide +kernel) (by decide +kernel)
set_option maxRecDepth 100000 in
theorem w_1843 : Cond.instanceMethod yX12_make ∈ BG := bg_in 1843 (by decide +kernel) (by decide +kernel)
set_option maxRecDepth 100000 in
theorem w_1845 : Cond.code yX12_make cX12_make 2 (some .int) ∈ BG := bg_in 1845 (by rfl) (by decide +kernel)
set_option maxRecDepth 100000 in
theorem w_1856 : Cond.selects "CascaderyModel" yX12_shadow yX12_shadow ∈ BG := bg_in 1856 (by decide +kernel) (by decide +kernel)
set_option maxRecDepth 100000 in
theorem w_1855 : Cond.instanceMethod yX12_shadow ∈ BG := bg_in 1855 (by decide +kernel) (by decide +kernel)
set_option maxRecDepth 100000 in
theorem w_1857 : Cond.code yX12_shadow cX12_shadow 2 none ∈ BG := bg_in 1857 (by rfl) (by decide +kernel)
set_option maxRecDepth 100000 in
theorem w_66 : Cond.selects "CascaderyModel" yX12_within yX12_within ∈ BG := bg_in 66 (by decide +kernel) (by decide +kernel)
set_option maxRecDepth 100000 in
theorem w_1892 : Cond.instanceMethod yX12_within ∈ BG := bg_in 1892 (by decide +kernel) (by decide +kernel)
set_option maxRecDepth 100000 in
theorem w_1893 : Cond.code yX12_within cX12_within 4 (some .boolean) ∈ BG := bg_in 1893 (by rfl) (by decide +kernel)
set_option maxRecDepth 100000 in
theorem w_65 : Cond.selects "CascaderyModel" yX12_loose yX12_loose ∈ BG := bg_in 65 (by decide +kernel) (by decide +kernel)
set_option maxRecDepth 100000 in
theorem w_1888 : Cond.instanceMethod yX12_loose ∈ BG := bg_in 1888 (by decide +kernel) (by decide +kernel)
set_option maxRecDepth 100000 in
theorem w_1889 : Cond.code yX12_loose cX12_loose 2 (some .boolean) ∈ BG := bg_in 1889 (by rfl) (by decide +kernel)
set_option maxRecDepth 100000 in
theorem w_1884 : Cond.selects "CascaderyModel" yX12_put yX12_put ∈ BG := bg_in 1884 (by decide +kernel) (by decide +kernel)
set_option maxRecDepth 100000 in
theorem w_1883 : Cond.instanceMethod yX12_put ∈ BG := bg_in 1883 (by decide +kernel) (by decide +kernel)
set_option maxRecDepth 100000 in
theorem w_1885 : Cond.code yX12_put cX12_put 6 none ∈ BG := bg_in 1885 (by rfl) (by decide +kernel)
set_option maxRecDepth 100000 in
theorem w_1948 : Cond.selects "CascaderyModel" yX12_putTop yX12_putTop ∈ BG := bg_in 1948 (by decide +kernel) (by decide +kernel)
set_option maxRecDepth 100000 in
theorem w_1947 : Cond.instanceMethod yX12_putTop ∈ BG := bg_in 1947 (by decide +kernel) (by decide +kernel)
set_option maxRecDepth 100000 in
theorem w_1949 : Cond.code yX12_putTop cX12_putTop 6 none ∈ BG := bg_in 1949 (by rfl) (by decide +kernel)
set_option maxRecDepth 100000 in
theorem w_1952 : Cond.selects "CascaderyModel" yX12_take yX12_take ∈ BG := bg_in 1952 (by decide +kernel) (by decide +kernel)
set_option maxRecDepth 100000 in
theorem w_1951 : Cond.instanceMethod yX12_take ∈ BG := bg_in 1951 (by decide +kernel) (by decide +kernel)
set_option maxRecDepth 100000 in
theorem w_1953 : Cond.code yX12_take cX12_take 8 (some .int) ∈ BG := bg_in 1953 (by rfl) (by decide +kernel)
set_option maxRecDepth 100000 in
theorem w_80 : Cond.selects "CascaderyModel" yX12_leave yX12_leave ∈ BG := bg_in 80 (by decide +kernel) (by decide +kernel)
set_option maxRecDepth 100000 in
theorem w_1956 : Cond.instanceMethod yX12_leave ∈ BG := bg_in 1956 (by decide +kernel) (by decide +kernel)
set_option maxRecDepth 100000 in
theorem w_1957 : Cond.code yX12_leave cX12_leave 3 none ∈ BG := bg_in 1957 (by rfl) (by decide +kernel)
set_option maxRecDepth 100000 in
theorem w_1960 : Cond.selects "CascaderyModel" yX12_setClass yX12_setClass ∈ BG := bg_in 1960 (by decide +kernel) (by decide +kernel)
set_option maxRecDepth 100000 in
theorem w_1959 : Cond.instanceMethod yX12_setClass ∈ BG := bg_in 1959 (by decide +kernel) (by decide +kernel)
set_option maxRecDepth 100000 in
theorem w_1961 : Cond.code yX12_setClass cX12_setClass 5 (some .boolean) ∈ BG := bg_in 1961 (by rfl) (by decide +kernel)
set_option maxRecDepth 100000 in
theorem w_1968 : Cond.selects "CascaderyModel" yX12_setState yX12_setState ∈ BG := bg_in 1968 (by decide +kernel) (by decide +kernel)
set_option maxRecDepth 100000 in
theorem w_1967 : Cond.instanceMethod yX12_setState ∈ BG := bg_in 1967 (by decide +kernel) (by decide +kernel)
set_option maxRecDepth 100000 in
theorem w_1969 : Cond.code yX12_setState cX12_setState 5 (some .boolean) ∈ BG := bg_in 1969 (by rfl) (by decide +kernel)
set_option maxRecDepth 100000 in
theorem w_1972 : Cond.selects "CascaderyModel" yX12_setAttribute yX12_setAttribute ∈ BG := bg_in 1972 (by decide +kernel) (by decide +kernel)
set_option maxRecDepth 100000 in
theorem w_1971 : Cond.instanceMethod yX12_setAttribute ∈ BG := bg_in 1971 (by decide +kernel) (by decide +kernel)
set_option maxRecDepth 100000 in
theorem w_1973 : Cond.code yX12_setAttribute cX12_setAttribute 5 (some .int) ∈ BG := bg_in 1973 (by rfl) (by decide +kernel)
set_option maxRecDepth 100000 in
theorem w_1976 : Cond.selects "CascaderyModel" yX12_setPart yX12_setPart ∈ BG := bg_in 1976 (by decide +kernel) (by decide +kernel)
set_option maxRecDepth 100000 in
theorem w_1975 : Cond.instanceMethod yX12_setPart ∈ BG := bg_in 1975 (by decide +kernel) (by decide +kernel)
set_option maxRecDepth 100000 in
theorem w_1977 : Cond.code yX12_setPart cX12_setPart 4 (some .int) ∈ BG := bg_in 1977 (by rfl) (by decide +kernel)
set_option maxRecDepth 100000 in
theorem w_1980 : Cond.selects "CascaderyModel" yX12_shownParent yX12_shownParent ∈ BG := bg_in 1980 (by decide +kernel) (by decide +kernel)
set_option maxRecDepth 100000 in
theorem w_1979 : Cond.instanceMethod yX12_shownParent ∈ BG := bg_in 1979 (by decide +kernel) (by decide +kernel)
set_option maxRecDepth 100000 in
theorem w_1981 : Cond.code yX12_shownParent cX12_shownParent 2 (some .int) ∈ BG := bg_in 1981 (by rfl) (by decide +kernel)
set_option maxRecDepth 100000 in
theorem w_1984 : Cond.selects "CascaderyModel" yX12_isIn yX12_isIn ∈ BG := bg_in 1984 (by decide +kernel) (by decide +kernel)
set_option maxRecDepth 100000 in
theorem w_1983 : Cond.instanceMethod yX12_isIn ∈ BG := bg_in 1983 (by decide +kernel) (by decide +kernel)
set_option maxRecDepth 100000 in
theorem w_1985 : Cond.code yX12_isIn cX12_isIn 2 (some .boolean) ∈ BG := bg_in 1985 (by rfl) (by decide +kernel)
set_option maxRecDepth 100000 in
theorem w_1988 : Cond.selects "CascaderyModel" yX12_test yX12_test ∈ BG := bg_in 1988 (by decide +kernel) (by decide +kernel)
set_option maxRecDepth 100000 in
theorem w_1987 : Cond.instanceMethod yX12_test ∈ BG := bg_in 1987 (by decide +kernel) (by decide +kernel)
set_option maxRecDepth 100000 in
theorem w_1989 : Cond.code yX12_test cX12_test 12 (some .int) ∈ BG := bg_in 1989 (by rfl) (by decide +kernel)
set_option maxRecDepth 100000 in
theorem w_1992 : Cond.selects "CascaderyModel" yX12_join yX12_join ∈ BG := bg_in 1992 (by decide +kernel) (by decide +kernel)
set_option maxRecDepth 100000 in
theorem w_1991 : Cond.instanceMethod yX12_join ∈ BG := bg_in 1991 (by decide +kernel) (by decide +kernel)
set_option maxRecDepth 100000 in
theorem w_1993 : Cond.code yX12_join cX12_join 2 (some .int) ∈ BG := bg_in 1993 (by rfl) (by decide +kernel)
set_option maxRecDepth 100000 in
theorem w_1996 : Cond.selects "CascaderyModel" yX12_select yX12_select ∈ BG := bg_in 1996 (by decide +kernel) (by decide +kernel)
set_option maxRecDepth 100000 in
theorem w_1995 : Cond.instanceMethod yX12_select ∈ BG := bg_in 1995 (by decide +kernel) (by decide +kernel)
set_option maxRecDepth 100000 in
theorem w_1997 : Cond.code yX12_select cX12_select 4 (some .int) ∈ BG := bg_in 1997 (by rfl) (by decide +kernel)
set_option maxRecDepth 100000 in
theorem w_85 : Cond.selects "CascaderyModel" yX12_isSel yX12_isSel ∈ BG := bg_in 85 (by decide +kernel) (by decide +kernel)
set_option maxRecDepth 100000 in
theorem w_2017 : Cond.instanceMethod yX12_isSel ∈ BG := bg_in 2017 (by decide +kernel) (by decide +kernel)
set_option maxRecDepth 100000 in
theorem w_2018 : Cond.code yX12_isSel cX12_isSel 2 (some .boolean) ∈ BG := bg_in 2018 (by rfl) (by decide +kernel)
set_option maxRecDepth 100000 in
theorem w_2013 : Cond.selects "CascaderyModel" yX12_weight yX12_weight ∈ BG := bg_in 2013 (by decide +kernel) (by decide +kernel)
set_option maxRecDepth 100000 in
theorem w_2012 : Cond.instanceMethod yX12_weight ∈ BG := bg_in 2012 (by decide +kernel) (by decide +kernel)
set_option maxRecDepth 100000 in
theorem w_2014 : Cond.code yX12_weight cX12_weight 2 (some .int) ∈ BG := bg_in 2014 (by rfl) (by decide +kernel)
set_option maxRecDepth 100000 in
theorem w_2021 : Cond.selects "CascaderyModel" yX12_matches yX12_matches ∈ BG := bg_in 2021 (by decide +kernel) (by decide +kernel)
set_option maxRecDepth 100000 in
theorem w_2020 : Cond.instanceMethod yX12_matches ∈ BG := bg_in 2020 (by decide +kernel) (by decide +kernel)
set_option maxRecDepth 100000 in
theorem w_2022 : Cond.code yX12_matches cX12_matches 4 (some .boolean) ∈ BG := bg_in 2022 (by rfl) (by decide +kernel)
set_option maxRecDepth 100000 in
theorem w_2069 : Cond.selects "CascaderyModel" yX12_allThat yX12_allThat ∈ BG := bg_in 2069 (by decide +kernel) (by decide +kernel)
set_option maxRecDepth 100000 in
theorem w_2068 : Cond.instanceMethod yX12_allThat ∈ BG := bg_in 2068 (by decide +kernel) (by decide +kernel)
set_option maxRecDepth 100000 in
theorem w_2070 : Cond.code yX12_allThat cX12_allThat 3 (some .int) ∈ BG := bg_in 2070 (by rfl) (by decide +kernel)
set_option maxRecDepth 100000 in
theorem w_2073 : Cond.selects "CascaderyModel" yX12_sheet yX12_sheet ∈ BG := bg_in 2073 (by decide +kernel) (by decide +kernel)
set_option maxRecDepth 100000 in
theorem w_2072 : Cond.instanceMethod yX12_sheet ∈ BG := bg_in 2072 (by decide +kernel) (by decide +kernel)
set_option maxRecDepth 100000 in
theorem w_2074 : Cond.code yX12_sheet cX12_sheet 4 (some .int) ∈ BG := bg_in 2074 (by rfl) (by decide +kernel)
set_option maxRecDepth 100000 in
theorem w_2077 : Cond.selects "CascaderyModel" yX12_turn yX12_turn ∈ BG := bg_in 2077 (by decide +kernel) (by decide +kernel)
set_option maxRecDepth 100000 in
theorem w_2076 : Cond.instanceMethod yX12_turn ∈ BG := bg_in 2076 (by decide +kernel) (by decide +kernel)
set_option maxRecDepth 100000 in
theorem w_2078 : Cond.code yX12_turn cX12_turn 4 (some .boolean) ∈ BG := bg_in 2078 (by rfl) (by decide +kernel)
set_option maxRecDepth 100000 in
theorem w_2081 : Cond.selects "CascaderyModel" yX12_rule yX12_rule ∈ BG := bg_in 2081 (by decide +kernel) (by decide +kernel)
set_option maxRecDepth 100000 in
theorem w_2080 : Cond.instanceMethod yX12_rule ∈ BG := bg_in 2080 (by decide +kernel) (by decide +kernel)
set_option maxRecDepth 100000 in
theorem w_2082 : Cond.code yX12_rule cX12_rule 3 (some .int) ∈ BG := bg_in 2082 (by rfl) (by decide +kernel)
set_option maxRecDepth 100000 in
theorem w_97 : Cond.selects "CascaderyModel" yX12_isRule yX12_isRule ∈ BG := bg_in 97 (by decide +kernel) (by decide +kernel)
set_option maxRecDepth 100000 in
theorem w_2089 : Cond.instanceMethod yX12_isRule ∈ BG := bg_in 2089 (by decide +kernel) (by decide +kernel)
set_option maxRecDepth 100000 in
theorem w_2090 : Cond.code yX12_isRule cX12_isRule 2 (some .boolean) ∈ BG := bg_in 2090 (by rfl) (by decide +kernel)
set_option maxRecDepth 100000 in
theorem w_2085 : Cond.selects "CascaderyModel" yX12_when yX12_when ∈ BG := bg_in 2085 (by decide +kernel) (by decide +kernel)
set_option maxRecDepth 100000 in
theorem w_2084 : Cond.instanceMethod yX12_when ∈ BG := bg_in 2084 (by decide +kernel) (by decide +kernel)
set_option maxRecDepth 100000 in
theorem w_2086 : Cond.code yX12_when cX12_when 4 none ∈ BG := bg_in 2086 (by rfl) (by decide +kernel)
set_option maxRecDepth 100000 in
theorem w_98 : Cond.selects "CascaderyModel" yX12_rowOf yX12_rowOf ∈ BG := bg_in 98 (by decide +kernel) (by decide +kernel)
set_option maxRecDepth 100000 in
theorem w_2097 : Cond.instanceMethod yX12_rowOf ∈ BG := bg_in 2097 (by decide +kernel) (by decide +kernel)
set_option maxRecDepth 100000 in
theorem w_2098 : Cond.code yX12_rowOf cX12_rowOf 2 (some .int) ∈ BG := bg_in 2098 (by rfl) (by decide +kernel)
set_option maxRecDepth 100000 in
theorem w_102 : Cond.selects "CascaderyModel" yX12_declared yX12_declared ∈ BG := bg_in 102 (by decide +kernel) (by decide +kernel)
set_option maxRecDepth 100000 in
theorem w_2113 : Cond.instanceMethod yX12_declared ∈ BG := bg_in 2113 (by decide +kernel) (by decide +kernel)
set_option maxRecDepth 100000 in
theorem w_2114 : Cond.code yX12_declared cX12_declared 4 (some .int) ∈ BG := bg_in 2114 (by rfl) (by decide +kernel)
set_option maxRecDepth 100000 in
theorem w_101 : Cond.selects "CascaderyModel" yX12_markRow yX12_markRow ∈ BG := bg_in 101 (by decide +kernel) (by decide +kernel)
set_option maxRecDepth 100000 in
theorem w_2109 : Cond.instanceMethod yX12_markRow ∈ BG := bg_in 2109 (by decide +kernel) (by decide +kernel)
set_option maxRecDepth 100000 in
theorem w_2110 : Cond.code yX12_markRow cX12_markRow 2 (some .int) ∈ BG := bg_in 2110 (by rfl) (by decide +kernel)
set_option maxRecDepth 100000 in
theorem w_100 : Cond.selects "CascaderyModel" yX12_lay yX12_lay ∈ BG := bg_in 100 (by decide +kernel) (by decide +kernel)
set_option maxRecDepth 100000 in
theorem w_2105 : Cond.instanceMethod yX12_lay ∈ BG := bg_in 2105 (by decide +kernel) (by decide +kernel)
set_option maxRecDepth 100000 in
theorem w_2106 : Cond.code yX12_lay cX12_lay 8 none ∈ BG := bg_in 2106 (by rfl) (by decide +kernel)
set_option maxRecDepth 100000 in
theorem w_2093 : Cond.selects "CascaderyModel" yX12_declare yX12_declare ∈ BG := bg_in 2093 (by decide +kernel) (by decide +kernel)
set_option maxRecDepth 100000 in
theorem w_2092 : Cond.instanceMethod yX12_declare ∈ BG := bg_in 2092 (by decide +kernel) (by decide +kernel)
set_option maxRecDepth 100000 in
theorem w_2094 : Cond.code yX12_declare cX12_declare 8 (some .int) ∈ BG := bg_in 2094 (by rfl) (by decide +kernel)
set_option maxRecDepth 100000 in
theorem w_2117 : Cond.selects "CascaderyModel" yX12_declareVar yX12_declareVar ∈ BG := bg_in 2117 (by decide +kernel) (by decide +kernel)
set_option maxRecDepth 100000 in
theorem w_2116 : Cond.instanceMethod yX12_declareVar ∈ BG := bg_in 2116 (by decide +kernel) (by decide +kernel)
set_option maxRecDepth 100000 in
theorem w_2118 : Cond.code yX12_declareVar cX12_declareVar 9 (some .int) ∈ BG := bg_in 2118 (by rfl) (by decide +kernel)
set_option maxRecDepth 100000 in
theorem w_2121 : Cond.selects "CascaderyModel" yX12_undeclare yX12_undeclare ∈ BG := bg_in 2121 (by decide +kernel) (by decide +kernel)
set_option maxRecDepth 100000 in
theorem w_2120 : Cond.instanceMethod yX12_undeclare ∈ BG := bg_in 2120 (by decide +kernel) (by decide +kernel)
set_option maxRecDepth 100000 in
theorem w_2122 : Cond.code yX12_undeclare cX12_undeclare 4 (some .int) ∈ BG := bg_in 2122 (by rfl) (by decide +kernel)
set_option maxRecDepth 100000 in
theorem w_2125 : Cond.selects "CascaderyModel" yX12_setWidth yX12_setWidth ∈ BG := bg_in 2125 (by decide +kernel) (by decide +kernel)
set_option maxRecDepth 100000 in
theorem w_2124 : Cond.instanceMethod yX12_setWidth ∈ BG := bg_in 2124 (by decide +kernel) (by decide +kernel)
set_option maxRecDepth 100000 in
theorem w_2126 : Cond.code yX12_setWidth cX12_setWidth 3 (some .int) ∈ BG := bg_in 2126 (by rfl) (by decide +kernel)
set_option maxRecDepth 100000 in
theorem w_142 : Cond.selects "CascaderyModel" yX12_told yX12_told ∈ BG := bg_in 142 (by decide +kernel) (by decide +kernel)
set_option maxRecDepth 100000 in
theorem w_2295 : Cond.instanceMethod yX12_told ∈ BG := bg_in 2295 (by decide +kernel) (by decide +kernel)
set_option maxRecDepth 100000 in
theorem w_2296 : Cond.code yX12_told cX12_told 5 (some .int) ∈ BG := bg_in 2296 (by rfl) (by decide +kernel)
set_option maxRecDepth 100000 in
theorem w_2129 : Cond.selects "CascaderyModel" yX12_value yX12_value ∈ BG := bg_in 2129 (by decide +kernel) (by decide +kernel)
set_option maxRecDepth 100000 in
theorem w_2128 : Cond.instanceMethod yX12_value ∈ BG := bg_in 2128 (by decide +kernel) (by decide +kernel)
set_option maxRecDepth 100000 in
theorem w_2130 : Cond.code yX12_value cX12_value 3 (some .int) ∈ BG := bg_in 2130 (by rfl) (by decide +kernel)
set_option maxRecDepth 100000 in
theorem w_2300 : Cond.selects "CascaderyModel" yX12_size yX12_size ∈ BG := bg_in 2300 (by decide +kernel) (by decide +kernel)
set_option maxRecDepth 100000 in
theorem w_2299 : Cond.instanceMethod yX12_size ∈ BG := bg_in 2299 (by decide +kernel) (by decide +kernel)
set_option maxRecDepth 100000 in
theorem w_2301 : Cond.code yX12_size cX12_size 2 (some .int) ∈ BG := bg_in 2301 (by rfl) (by decide +kernel)
set_option maxRecDepth 100000 in
theorem w_2304 : Cond.selects "CascaderyModel" yX12_seen yX12_seen ∈ BG := bg_in 2304 (by decide +kernel) (by decide +kernel)
set_option maxRecDepth 100000 in
theorem w_2303 : Cond.instanceMethod yX12_seen ∈ BG := bg_in 2303 (by decide +kernel) (by decide +kernel)
set_option maxRecDepth 100000 in
theorem w_2305 : Cond.code yX12_seen cX12_seen 3 (some .int) ∈ BG := bg_in 2305 (by rfl) (by decide +kernel)
set_option maxRecDepth 100000 in
theorem w_2308 : Cond.selects "CascaderyModel" yX12_made yX12_made ∈ BG := bg_in 2308 (by decide +kernel) (by decide +kernel)
set_option maxRecDepth 100000 in
theorem w_2307 : Cond.instanceMethod yX12_made ∈ BG := bg_in 2307 (by decide +kernel) (by decide +kernel)
set_option maxRecDepth 100000 in
theorem w_2309 : Cond.code yX12_made cX12_made 8 (some .int) ∈ BG := bg_in 2309 (by rfl) (by decide +kernel)
set_option maxRecDepth 100000 in
theorem w_2312 : Cond.selects "CascaderyModel" yX12_why yX12_why ∈ BG := bg_in 2312 (by decide +kernel) (by decide +kernel)
set_option maxRecDepth 100000 in
theorem w_2311 : Cond.instanceMethod yX12_why ∈ BG := bg_in 2311 (by decide +kernel) (by decide +kernel)
set_option maxRecDepth 100000 in
theorem w_2313 : Cond.code yX12_why cX12_why 6 (some .int) ∈ BG := bg_in 2313 (by rfl) (by decide +kernel)
set_option maxRecDepth 100000 in
theorem w_2316 : Cond.selects "CascaderyModel" yX12_valueAnew yX12_valueAnew ∈ BG := bg_in 2316 (by decide +kernel) (by decide +kernel)
set_option maxRecDepth 100000 in
theorem w_2315 : Cond.instanceMethod yX12_valueAnew ∈ BG := bg_in 2315 (by decide +kernel) (by decide +kernel)
set_option maxRecDepth 100000 in
theorem w_2317 : Cond.code yX12_valueAnew cX12_valueAnew 4 (some .int) ∈ BG := bg_in 2317 (by rfl) (by decide +kernel)
set_option maxRecDepth 100000 in
theorem w_2320 : Cond.selects "CascaderyModel" yX12_marked yX12_marked ∈ BG := bg_in 2320 (by decide +kernel) (by decide +kernel)
set_option maxRecDepth 100000 in
theorem w_2319 : Cond.instanceMethod yX12_marked ∈ BG := bg_in 2319 (by decide +kernel) (by decide +kernel)
set_option maxRecDepth 100000 in
theorem w_2321 : Cond.code yX12_marked cX12_marked 1 (some .int) ∈ BG := bg_in 2321 (by rfl) (by decide +kernel)
set_option maxRecDepth 100000 in
theorem w_2324 : Cond.selects "CascaderyModel" yX12_flushes yX12_flushes ∈ BG := bg_in 2324 (by decide +kernel) (by decide +kernel)
set_option maxRecDepth 100000 in
theorem w_2323 : Cond.instanceMethod yX12_flushes ∈ BG := bg_in 2323 (by decide +kernel) (by decide +kernel)
set_option maxRecDepth 100000 in
theorem w_2325 : Cond.code yX12_flushes cX12_flushes 1 (some .int) ∈ BG := bg_in 2325 (by rfl) (by decide +kernel)
set_option maxRecDepth 100000 in
theorem w_2328 : Cond.selects "CascaderyModel" yX12_restyled yX12_restyled ∈ BG := bg_in 2328 (by decide +kernel) (by decide +kernel)
set_option maxRecDepth 100000 in
theorem w_2327 : Cond.instanceMethod yX12_restyled ∈ BG := bg_in 2327 (by decide +kernel) (by decide +kernel)
set_option maxRecDepth 100000 in
theorem w_2329 : Cond.code yX12_restyled cX12_restyled 1 (some .int) ∈ BG := bg_in 2329 (by rfl) (by decide +kernel)
set_option maxRecDepth 100000 in
theorem w_2332 : Cond.selects "CascaderyModel" yX12_shared yX12_shared ∈ BG := bg_in 2332 (by decide +kernel) (by decide +kernel)
set_option maxRecDepth 100000 in
theorem w_2331 : Cond.instanceMethod yX12_shared ∈ BG := bg_in 2331 (by decide +kernel) (by decide +kernel)
set_option maxRecDepth 100000 in
theorem w_2333 : Cond.code yX12_shared cX12_shared 1 (some .int) ∈ BG := bg_in 2333 (by rfl) (by decide +kernel)
set_option maxRecDepth 100000 in
theorem w_2336 : Cond.selects "CascaderyModel" yX12_tick yX12_tick ∈ BG := bg_in 2336 (by decide +kernel) (by decide +kernel)
set_option maxRecDepth 100000 in
theorem w_2335 : Cond.instanceMethod yX12_tick ∈ BG := bg_in 2335 (by decide +kernel) (by decide +kernel)
set_option maxRecDepth 100000 in
theorem w_2337 : Cond.code yX12_tick cX12_tick 2 (some .int) ∈ BG := bg_in 2337 (by rfl) (by decide +kernel)
set_option maxRecDepth 100000 in
theorem w_2340 : Cond.selects "CascaderyModel" yX12_animation yX12_animation ∈ BG := bg_in 2340 (by decide +kernel) (by decide +kernel)
set_option maxRecDepth 100000 in
theorem w_2339 : Cond.instanceMethod yX12_animation ∈ BG := bg_in 2339 (by decide +kernel) (by decide +kernel)
set_option maxRecDepth 100000 in
theorem w_2341 : Cond.code yX12_animation cX12_animation 5 none ∈ BG := bg_in 2341 (by rfl) (by decide +kernel)
set_option maxRecDepth 100000 in
theorem w_2344 : Cond.selects "CascaderyModel" yX12_frame yX12_frame ∈ BG := bg_in 2344 (by decide +kernel) (by decide +kernel)
set_option maxRecDepth 100000 in
theorem w_2343 : Cond.instanceMethod yX12_frame ∈ BG := bg_in 2343 (by decide +kernel) (by decide +kernel)
set_option maxRecDepth 100000 in
theorem w_2345 : Cond.code yX12_frame cX12_frame 7 (some .int) ∈ BG := bg_in 2345 (by rfl) (by decide +kernel)
set_option maxRecDepth 100000 in
theorem w_2348 : Cond.selects "CascaderyModel" yX12_listen yX12_listen ∈ BG := bg_in 2348 (by decide +kernel) (by decide +kernel)
set_option maxRecDepth 100000 in
theorem w_2347 : Cond.instanceMethod yX12_listen ∈ BG := bg_in 2347 (by decide +kernel) (by decide +kernel)
set_option maxRecDepth 100000 in
theorem w_2349 : Cond.code yX12_listen cX12_listen 5 (some .int) ∈ BG := bg_in 2349 (by rfl) (by decide +kernel)
set_option maxRecDepth 100000 in
theorem w_154 : Cond.initialized "CascaderyModel" ∈ BG := bg_in 154 (by decide +kernel) (by decide +kernel)
set_option maxRecDepth 100000 in
theorem w_1570 : Cond.instantiable "CascaderyModel" 86 ∈ BG := bg_in 1570 (by decide +kernel) (by decide +kernel)
set_option maxRecDepth 100000 in
theorem w_2010 : Cond.constant "CascaderyModel" 331 32768 ∈ BG := bg_in 2010 (by decide +kernel) (by decide +kernel)
set_option maxRecDepth 100000 in
theorem w_2175 : Cond.constant "CascaderyModel" 370 (-1000000) ∈ BG := bg_in 2175 (by decide +kernel) (by decide +kernel)
set_option maxRecDepth 100000 in
theorem w_2264 : Cond.constantLong "CascaderyModel" 364 (-100000) ∈ BG := bg_in 2264 (by decide +kernel) (by decide +kernel)
set_option maxRecDepth 100000 in
theorem w_2265 : Cond.constant "CascaderyModel" 366 (-100000) ∈ BG := bg_in 2265 (by decide +kernel) (by decide +kernel)
set_option maxRecDepth 100000 in
theorem w_2266 : Cond.constantLong "CascaderyModel" 367 100000 ∈ BG := bg_in 2266 (by decide +kernel) (by decide +kernel)
set_option maxRecDepth 100000 in
theorem w_2267 : Cond.constant "CascaderyModel" 369 100000 ∈ BG := bg_in 2267 (by decide +kernel) (by decide +kernel)
set_option maxRecDepth 100000 in
theorem w_2268 : Cond.constantLong "CascaderyModel" 393 100 ∈ BG := bg_in 2268 (by decide +kernel) (by decide +kernel)
set_option maxRecDepth 100000 in
theorem w_2297 : Cond.constant "CascaderyModel" 556 (-1000001) ∈ BG := bg_in 2297 (by decide +kernel) (by decide +kernel)
set_option maxRecDepth 100000 in
theorem w_231 : Cond.arrayClass Jvm.ClassFile.FieldType.int ∈ BG := bg_in 231 (by decide +kernel) (by decide +kernel)
