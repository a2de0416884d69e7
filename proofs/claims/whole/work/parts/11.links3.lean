/-! words and links, by their places in the tables -/
theorem lf_X10_278 : m_FL RX10 278 7 2 := ⟨RX7, TX7, 12, rfl, rfl, by decide, by decide, uw_7, Or.inr ⟨_, w_168⟩⟩
theorem w_334 : Cond.fieldLinkNest "TapeStudio" 281 "TapeStudio$Piece" "number" "I" "TapeStudio" ∈ m_nest := m_nest_mem (i := 334) (by decide +kernel) (by decide +kernel)
theorem lf_X10_281 : m_FL RX10 281 2 3 := ⟨RX2, TX2, 8, rfl, rfl, by decide, by decide, uw_2, Or.inr ⟨_, w_334⟩⟩
theorem w_242 : Cond.fieldLinkNest "TapeStudio" 284 "TapeStudio$Score" "count" "I" "TapeStudio" ∈ m_nest := m_nest_mem (i := 242) (by decide +kernel) (by decide +kernel)
theorem lf_X10_284 : m_FL RX10 284 6 1 := ⟨RX6, TX6, 4, rfl, rfl, by decide, by decide, uw_6, Or.inr ⟨_, w_242⟩⟩
theorem w_1850 : Cond.constantLong "TapeStudioModel" 1 (Int64.ofInt (-32768)) ∈ m_nest := m_nest_mem (i := 1850) (by decide +kernel) (by decide +kernel)
theorem w_1851 : Cond.constantLong "TapeStudioModel" 3 (Int64.ofInt (32767)) ∈ m_nest := m_nest_mem (i := 1851) (by decide +kernel) (by decide +kernel)
theorem w_1455 : Cond.methodLink "TapeStudioModel" 5 ⟨"java/lang/Object","<init>","()V"⟩ ∈ m_big := m_big_mem (i := 1455) (by decide +kernel) (by decide +kernel)
theorem lo_X11_5 : Cond.methodLink RX11 5 objectInit ∈ m_big ∧ Cond.instanceMethod objectInit ∈ m_big ∧ Cond.code objectInit ⟨#[0xb1]⟩ 1 none ∈ m_big := ⟨w_1455, w_151, w_152⟩
theorem uw_11 : ∀ w ∈ u_ws RX11 TX11 92, w ∈ m_big := m_sub [1576,1578,1580,1582,1584,1586,1588,1590,1592,1594,1596,1598,1600,1602,1604,1606,1608,1610,1612,1614,1616,1618,1620,1622,1624,1626,1628,1630,1632,1634,1636,1638,1640,1642,1644,1646,1648,1650,1652,1654,1656,1658,1660,1662,1664,1666,1668,1670,1672,1674,1676,1678,1680,1682,1684,1686,1688,1690,1692,1694,1696,1698,1700,1702,1704,1706,1708,1710,1712,1714,1716,1718,1720,1722,1724,1726,1728,1730,1732,1734,1736,1738,1740,1742,1744,1746,1748,1750,1752,1754,1756,1758] (by decide +kernel) (by decide +kernel)
theorem vw_11 : vwCl[11]? = some (RX11, TX11, 92) := rfl
theorem w_1484 : Cond.fieldLink "TapeStudioModel" 13 "TapeStudioModel" "samples" "[I" ∈ m_big := m_big_mem (i := 1484) (by decide +kernel) (by decide +kernel)
theorem lp_X11_13 : m_PL RX11 13 11 0 (.array .int) true := ⟨RX11, TX11, 92, tyX11, rfl, rfl, by decide, by decide, uw_11, Or.inl w_1484, rfl, fun _ => rfl, by decide +kernel, tyX11_ok, nmX11⟩
theorem w_1485 : Cond.fieldLink "TapeStudioModel" 17 "TapeStudioModel" "hand" "[I" ∈ m_big := m_big_mem (i := 1485) (by decide +kernel) (by decide +kernel)
theorem lp_X11_17 : m_PL RX11 17 11 1 (.array .int) true := ⟨RX11, TX11, 92, tyX11, rfl, rfl, by decide, by decide, uw_11, Or.inl w_1485, rfl, fun _ => rfl, by decide +kernel, tyX11_ok, nmX11⟩
theorem w_1486 : Cond.fieldLink "TapeStudioModel" 20 "TapeStudioModel" "begin" "[I" ∈ m_big := m_big_mem (i := 1486) (by decide +kernel) (by decide +kernel)
theorem lp_X11_20 : m_PL RX11 20 11 2 (.array .int) true := ⟨RX11, TX11, 92, tyX11, rfl, rfl, by decide, by decide, uw_11, Or.inl w_1486, rfl, fun _ => rfl, by decide +kernel, tyX11_ok, nmX11⟩
theorem w_1487 : Cond.fieldLink "TapeStudioModel" 23 "TapeStudioModel" "size" "[I" ∈ m_big := m_big_mem (i := 1487) (by decide +kernel) (by decide +kernel)
theorem lp_X11_23 : m_PL RX11 23 11 3 (.array .int) true := ⟨RX11, TX11, 92, tyX11, rfl, rfl, by decide, by decide, uw_11, Or.inl w_1487, rfl, fun _ => rfl, by decide +kernel, tyX11_ok, nmX11⟩
theorem w_1488 : Cond.fieldLink "TapeStudioModel" 26 "TapeStudioModel" "kind" "[I" ∈ m_big := m_big_mem (i := 1488) (by decide +kernel) (by decide +kernel)
theorem lp_X11_26 : m_PL RX11 26 11 4 (.array .int) true := ⟨RX11, TX11, 92, tyX11, rfl, rfl, by decide, by decide, uw_11, Or.inl w_1488, rfl, fun _ => rfl, by decide +kernel, tyX11_ok, nmX11⟩
theorem w_1489 : Cond.fieldLink "TapeStudioModel" 29 "TapeStudioModel" "state" "[I" ∈ m_big := m_big_mem (i := 1489) (by decide +kernel) (by decide +kernel)
theorem lp_X11_29 : m_PL RX11 29 11 5 (.array .int) true := ⟨RX11, TX11, 92, tyX11, rfl, rfl, by decide, by decide, uw_11, Or.inl w_1489, rfl, fun _ => rfl, by decide +kernel, tyX11_ok, nmX11⟩
theorem w_1490 : Cond.fieldLink "TapeStudioModel" 32 "TapeStudioModel" "generation" "[I" ∈ m_big := m_big_mem (i := 1490) (by decide +kernel) (by decide +kernel)
theorem lp_X11_32 : m_PL RX11 32 11 6 (.array .int) true := ⟨RX11, TX11, 92, tyX11, rfl, rfl, by decide, by decide, uw_11, Or.inl w_1490, rfl, fun _ => rfl, by decide +kernel, tyX11_ok, nmX11⟩
theorem w_1491 : Cond.fieldLink "TapeStudioModel" 35 "TapeStudioModel" "hiss" "[I" ∈ m_big := m_big_mem (i := 1491) (by decide +kernel) (by decide +kernel)
theorem lp_X11_35 : m_PL RX11 35 11 7 (.array .int) true := ⟨RX11, TX11, 92, tyX11, rfl, rfl, by decide, by decide, uw_11, Or.inl w_1491, rfl, fun _ => rfl, by decide +kernel, tyX11_ok, nmX11⟩
theorem w_1492 : Cond.fieldLink "TapeStudioModel" 38 "TapeStudioModel" "wear" "[I" ∈ m_big := m_big_mem (i := 1492) (by decide +kernel) (by decide +kernel)
theorem lp_X11_38 : m_PL RX11 38 11 8 (.array .int) true := ⟨RX11, TX11, 92, tyX11, rfl, rfl, by decide, by decide, uw_11, Or.inl w_1492, rfl, fun _ => rfl, by decide +kernel, tyX11_ok, nmX11⟩
theorem w_1493 : Cond.fieldLink "TapeStudioModel" 41 "TapeStudioModel" "nailOf" "[I" ∈ m_big := m_big_mem (i := 1493) (by decide +kernel) (by decide +kernel)
theorem lp_X11_41 : m_PL RX11 41 11 9 (.array .int) true := ⟨RX11, TX11, 92, tyX11, rfl, rfl, by decide, by decide, uw_11, Or.inl w_1493, rfl, fun _ => rfl, by decide +kernel, tyX11_ok, nmX11⟩
theorem w_1494 : Cond.fieldLink "TapeStudioModel" 44 "TapeStudioModel" "cameOn" "[I" ∈ m_big := m_big_mem (i := 1494) (by decide +kernel) (by decide +kernel)
theorem lp_X11_44 : m_PL RX11 44 11 10 (.array .int) true := ⟨RX11, TX11, 92, tyX11, rfl, rfl, by decide, by decide, uw_11, Or.inl w_1494, rfl, fun _ => rfl, by decide +kernel, tyX11_ok, nmX11⟩
theorem w_1495 : Cond.fieldLink "TapeStudioModel" 47 "TapeStudioModel" "madeOf" "[I" ∈ m_big := m_big_mem (i := 1495) (by decide +kernel) (by decide +kernel)
theorem lp_X11_47 : m_PL RX11 47 11 11 (.array .int) true := ⟨RX11, TX11, 92, tyX11, rfl, rfl, by decide, by decide, uw_11, Or.inl w_1495, rfl, fun _ => rfl, by decide +kernel, tyX11_ok, nmX11⟩
theorem w_1496 : Cond.fieldLink "TapeStudioModel" 50 "TapeStudioModel" "alsoOf" "[I" ∈ m_big := m_big_mem (i := 1496) (by decide +kernel) (by decide +kernel)
theorem lp_X11_50 : m_PL RX11 50 11 12 (.array .int) true := ⟨RX11, TX11, 92, tyX11, rfl, rfl, by decide, by decide, uw_11, Or.inl w_1496, rfl, fun _ => rfl, by decide +kernel, tyX11_ok, nmX11⟩
theorem w_1497 : Cond.fieldLink "TapeStudioModel" 53 "TapeStudioModel" "from" "[I" ∈ m_big := m_big_mem (i := 1497) (by decide +kernel) (by decide +kernel)
theorem lp_X11_53 : m_PL RX11 53 11 13 (.array .int) true := ⟨RX11, TX11, 92, tyX11, rfl, rfl, by decide, by decide, uw_11, Or.inl w_1497, rfl, fun _ => rfl, by decide +kernel, tyX11_ok, nmX11⟩
theorem w_1503 : Cond.fieldLink "TapeStudioModel" 56 "TapeStudioModel" "drift" "[I" ∈ m_big := m_big_mem (i := 1503) (by decide +kernel) (by decide +kernel)
theorem lp_X11_56 : m_PL RX11 56 11 19 (.array .int) true := ⟨RX11, TX11, 92, tyX11, rfl, rfl, by decide, by decide, uw_11, Or.inl w_1503, rfl, fun _ => rfl, by decide +kernel, tyX11_ok, nmX11⟩
theorem w_1504 : Cond.fieldLink "TapeStudioModel" 59 "TapeStudioModel" "level" "[I" ∈ m_big := m_big_mem (i := 1504) (by decide +kernel) (by decide +kernel)
theorem lp_X11_59 : m_PL RX11 59 11 20 (.array .int) true := ⟨RX11, TX11, 92, tyX11, rfl, rfl, by decide, by decide, uw_11, Or.inl w_1504, rfl, fun _ => rfl, by decide +kernel, tyX11_ok, nmX11⟩
theorem w_1505 : Cond.fieldLink "TapeStudioModel" 62 "TapeStudioModel" "machineHiss" "[I" ∈ m_big := m_big_mem (i := 1505) (by decide +kernel) (by decide +kernel)
theorem lp_X11_62 : m_PL RX11 62 11 21 (.array .int) true := ⟨RX11, TX11, 92, tyX11, rfl, rfl, by decide, by decide, uw_11, Or.inl w_1505, rfl, fun _ => rfl, by decide +kernel, tyX11_ok, nmX11⟩
theorem w_1506 : Cond.fieldLink "TapeStudioModel" 65 "TapeStudioModel" "rough" "[I" ∈ m_big := m_big_mem (i := 1506) (by decide +kernel) (by decide +kernel)
theorem lp_X11_65 : m_PL RX11 65 11 22 (.array .int) true := ⟨RX11, TX11, 92, tyX11, rfl, rfl, by decide, by decide, uw_11, Or.inl w_1506, rfl, fun _ => rfl, by decide +kernel, tyX11_ok, nmX11⟩
theorem w_1508 : Cond.fieldLink "TapeStudioModel" 68 "TapeStudioModel" "readStrip" "[I" ∈ m_big := m_big_mem (i := 1508) (by decide +kernel) (by decide +kernel)
theorem lp_X11_68 : m_PL RX11 68 11 24 (.array .int) true := ⟨RX11, TX11, 92, tyX11, rfl, rfl, by decide, by decide, uw_11, Or.inl w_1508, rfl, fun _ => rfl, by decide +kernel, tyX11_ok, nmX11⟩
theorem w_1509 : Cond.fieldLink "TapeStudioModel" 71 "TapeStudioModel" "readMark" "[I" ∈ m_big := m_big_mem (i := 1509) (by decide +kernel) (by decide +kernel)
theorem lp_X11_71 : m_PL RX11 71 11 25 (.array .int) true := ⟨RX11, TX11, 92, tyX11, rfl, rfl, by decide, by decide, uw_11, Or.inl w_1509, rfl, fun _ => rfl, by decide +kernel, tyX11_ok, nmX11⟩
theorem w_1510 : Cond.fieldLink "TapeStudioModel" 74 "TapeStudioModel" "readDay" "[I" ∈ m_big := m_big_mem (i := 1510) (by decide +kernel) (by decide +kernel)
theorem lp_X11_74 : m_PL RX11 74 11 26 (.array .int) true := ⟨RX11, TX11, 92, tyX11, rfl, rfl, by decide, by decide, uw_11, Or.inl w_1510, rfl, fun _ => rfl, by decide +kernel, tyX11_ok, nmX11⟩
theorem w_1512 : Cond.fieldLink "TapeStudioModel" 77 "TapeStudioModel" "played" "[I" ∈ m_big := m_big_mem (i := 1512) (by decide +kernel) (by decide +kernel)
theorem lp_X11_77 : m_PL RX11 77 11 28 (.array .int) true := ⟨RX11, TX11, 92, tyX11, rfl, rfl, by decide, by decide, uw_11, Or.inl w_1512, rfl, fun _ => rfl, by decide +kernel, tyX11_ok, nmX11⟩
theorem w_995 : Cond.arrayClass .byte ∈ m_big := m_big_mem (i := 995) (by decide +kernel) (by decide +kernel)
theorem w_1513 : Cond.fieldLink "TapeStudioModel" 80 "TapeStudioModel" "text" "[B" ∈ m_big := m_big_mem (i := 1513) (by decide +kernel) (by decide +kernel)
theorem lp_X11_80 : m_PL RX11 80 11 29 (.array .byte) true := ⟨RX11, TX11, 92, tyX11, rfl, rfl, by decide, by decide, uw_11, Or.inl w_1513, rfl, fun _ => rfl, by decide +kernel, tyX11_ok, nmX11⟩
theorem w_1518 : Cond.fieldLink "TapeStudioModel" 84 "TapeStudioModel" "orders" "[I" ∈ m_big := m_big_mem (i := 1518) (by decide +kernel) (by decide +kernel)
theorem lp_X11_84 : m_PL RX11 84 11 34 (.array .int) true := ⟨RX11, TX11, 92, tyX11, rfl, rfl, by decide, by decide, uw_11, Or.inl w_1518, rfl, fun _ => rfl, by decide +kernel, tyX11_ok, nmX11⟩
theorem w_1456 : Cond.classLink "TapeStudioModel" 87 "[[I" ∈ m_big := m_big_mem (i := 1456) (by decide +kernel) (by decide +kernel)
theorem w_1457 : Cond.arrayOver (.array .int) ∈ m_nest := m_nest_mem (i := 1457) (by decide +kernel) (by decide +kernel)
theorem w_1519 : Cond.fieldLink "TapeStudioModel" 89 "TapeStudioModel" "verb" "[[I" ∈ m_big := m_big_mem (i := 1519) (by decide +kernel) (by decide +kernel)
theorem lp_X11_89 : m_PL RX11 89 11 35 (.array (.array .int)) true := ⟨RX11, TX11, 92, tyX11, rfl, rfl, by decide, by decide, uw_11, Or.inl w_1519, rfl, fun _ => rfl, by decide +kernel, tyX11_ok, nmX11⟩
theorem w_1520 : Cond.fieldLink "TapeStudioModel" 92 "TapeStudioModel" "of" "[[I" ∈ m_big := m_big_mem (i := 1520) (by decide +kernel) (by decide +kernel)
theorem lp_X11_92 : m_PL RX11 92 11 36 (.array (.array .int)) true := ⟨RX11, TX11, 92, tyX11, rfl, rfl, by decide, by decide, uw_11, Or.inl w_1520, rfl, fun _ => rfl, by decide +kernel, tyX11_ok, nmX11⟩
theorem w_1521 : Cond.fieldLink "TapeStudioModel" 95 "TapeStudioModel" "also" "[[I" ∈ m_big := m_big_mem (i := 1521) (by decide +kernel) (by decide +kernel)
theorem lp_X11_95 : m_PL RX11 95 11 37 (.array (.array .int)) true := ⟨RX11, TX11, 92, tyX11, rfl, rfl, by decide, by decide, uw_11, Or.inl w_1521, rfl, fun _ => rfl, by decide +kernel, tyX11_ok, nmX11⟩
theorem w_1522 : Cond.fieldLink "TapeStudioModel" 98 "TapeStudioModel" "first" "[[I" ∈ m_big := m_big_mem (i := 1522) (by decide +kernel) (by decide +kernel)
theorem lp_X11_98 : m_PL RX11 98 11 38 (.array (.array .int)) true := ⟨RX11, TX11, 92, tyX11, rfl, rfl, by decide, by decide, uw_11, Or.inl w_1522, rfl, fun _ => rfl, by decide +kernel, tyX11_ok, nmX11⟩
theorem w_1523 : Cond.fieldLink "TapeStudioModel" 101 "TapeStudioModel" "second" "[[I" ∈ m_big := m_big_mem (i := 1523) (by decide +kernel) (by decide +kernel)
theorem lp_X11_101 : m_PL RX11 101 11 39 (.array (.array .int)) true := ⟨RX11, TX11, 92, tyX11, rfl, rfl, by decide, by decide, uw_11, Or.inl w_1523, rfl, fun _ => rfl, by decide +kernel, tyX11_ok, nmX11⟩
theorem w_1524 : Cond.fieldLink "TapeStudioModel" 104 "TapeStudioModel" "third" "[[I" ∈ m_big := m_big_mem (i := 1524) (by decide +kernel) (by decide +kernel)
theorem lp_X11_104 : m_PL RX11 104 11 40 (.array (.array .int)) true := ⟨RX11, TX11, 92, tyX11, rfl, rfl, by decide, by decide, uw_11, Or.inl w_1524, rfl, fun _ => rfl, by decide +kernel, tyX11_ok, nmX11⟩
theorem w_1525 : Cond.fieldLink "TapeStudioModel" 107 "TapeStudioModel" "times" "[[I" ∈ m_big := m_big_mem (i := 1525) (by decide +kernel) (by decide +kernel)
theorem lp_X11_107 : m_PL RX11 107 11 41 (.array (.array .int)) true := ⟨RX11, TX11, 92, tyX11, rfl, rfl, by decide, by decide, uw_11, Or.inl w_1525, rfl, fun _ => rfl, by decide +kernel, tyX11_ok, nmX11⟩
theorem w_1526 : Cond.fieldLink "TapeStudioModel" 110 "TapeStudioModel" "later" "[[I" ∈ m_big := m_big_mem (i := 1526) (by decide +kernel) (by decide +kernel)
theorem lp_X11_110 : m_PL RX11 110 11 42 (.array (.array .int)) true := ⟨RX11, TX11, 92, tyX11, rfl, rfl, by decide, by decide, uw_11, Or.inl w_1526, rfl, fun _ => rfl, by decide +kernel, tyX11_ok, nmX11⟩
theorem w_1528 : Cond.fieldLink "TapeStudioModel" 113 "TapeStudioModel" "wordAt" "[I" ∈ m_big := m_big_mem (i := 1528) (by decide +kernel) (by decide +kernel)
theorem lp_X11_113 : m_PL RX11 113 11 44 (.array .int) true := ⟨RX11, TX11, 92, tyX11, rfl, rfl, by decide, by decide, uw_11, Or.inl w_1528, rfl, fun _ => rfl, by decide +kernel, tyX11_ok, nmX11⟩
theorem w_1529 : Cond.fieldLink "TapeStudioModel" 116 "TapeStudioModel" "wordSize" "[I" ∈ m_big := m_big_mem (i := 1529) (by decide +kernel) (by decide +kernel)
theorem lp_X11_116 : m_PL RX11 116 11 45 (.array .int) true := ⟨RX11, TX11, 92, tyX11, rfl, rfl, by decide, by decide, uw_11, Or.inl w_1529, rfl, fun _ => rfl, by decide +kernel, tyX11_ok, nmX11⟩
theorem w_1530 : Cond.fieldLink "TapeStudioModel" 119 "TapeStudioModel" "wordOrder" "[I" ∈ m_big := m_big_mem (i := 1530) (by decide +kernel) (by decide +kernel)
theorem lp_X11_119 : m_PL RX11 119 11 46 (.array .int) true := ⟨RX11, TX11, 92, tyX11, rfl, rfl, by decide, by decide, uw_11, Or.inl w_1530, rfl, fun _ => rfl, by decide +kernel, tyX11_ok, nmX11⟩
theorem w_1458 : Cond.classLink "TapeStudioModel" 122 "java/lang/String" ∈ m_big := m_big_mem (i := 1458) (by decide +kernel) (by decide +kernel)
theorem w_1459 : Cond.arrayOver (.object "java/lang/String") ∈ m_nest := m_nest_mem (i := 1459) (by decide +kernel) (by decide +kernel)
theorem w_1532 : Cond.fieldLink "TapeStudioModel" 148 "TapeStudioModel" "verbs" "[Ljava/lang/String;" ∈ m_big := m_big_mem (i := 1532) (by decide +kernel) (by decide +kernel)
theorem lp_X11_148 : m_PL RX11 148 11 48 (.array (.object "java/lang/String")) true := ⟨RX11, TX11, 92, tyX11, rfl, rfl, by decide, by decide, uw_11, Or.inl w_1532, rfl, fun _ => rfl, by decide +kernel, tyX11_ok, nmX11⟩
theorem w_1533 : Cond.fieldLink "TapeStudioModel" 175 "TapeStudioModel" "others" "[Ljava/lang/String;" ∈ m_big := m_big_mem (i := 1533) (by decide +kernel) (by decide +kernel)
theorem lp_X11_175 : m_PL RX11 175 11 49 (.array (.object "java/lang/String")) true := ⟨RX11, TX11, 92, tyX11, rfl, rfl, by decide, by decide, uw_11, Or.inl w_1533, rfl, fun _ => rfl, by decide +kernel, tyX11_ok, nmX11⟩
theorem w_1534 : Cond.fieldLink "TapeStudioModel" 178 "TapeStudioModel" "rows" "[[I" ∈ m_big := m_big_mem (i := 1534) (by decide +kernel) (by decide +kernel)
theorem lp_X11_178 : m_PL RX11 178 11 50 (.array (.array .int)) true := ⟨RX11, TX11, 92, tyX11, rfl, rfl, by decide, by decide, uw_11, Or.inl w_1534, rfl, fun _ => rfl, by decide +kernel, tyX11_ok, nmX11⟩
theorem w_1535 : Cond.fieldLink "TapeStudioModel" 181 "TapeStudioModel" "length" "[I" ∈ m_big := m_big_mem (i := 1535) (by decide +kernel) (by decide +kernel)
theorem lp_X11_181 : m_PL RX11 181 11 51 (.array .int) true := ⟨RX11, TX11, 92, tyX11, rfl, rfl, by decide, by decide, uw_11, Or.inl w_1535, rfl, fun _ => rfl, by decide +kernel, tyX11_ok, nmX11⟩
theorem w_1536 : Cond.fieldLink "TapeStudioModel" 184 "TapeStudioModel" "source" "[I" ∈ m_big := m_big_mem (i := 1536) (by decide +kernel) (by decide +kernel)
theorem lp_X11_184 : m_PL RX11 184 11 52 (.array .int) true := ⟨RX11, TX11, 92, tyX11, rfl, rfl, by decide, by decide, uw_11, Or.inl w_1536, rfl, fun _ => rfl, by decide +kernel, tyX11_ok, nmX11⟩
theorem w_1761 : Cond.arrayClass .long ∈ m_big := m_big_mem (i := 1761) (by decide +kernel) (by decide +kernel)
theorem w_1537 : Cond.fieldLink "TapeStudioModel" 187 "TapeStudioModel" "sums" "[J" ∈ m_big := m_big_mem (i := 1537) (by decide +kernel) (by decide +kernel)
theorem lp_X11_187 : m_PL RX11 187 11 53 (.array .long) true := ⟨RX11, TX11, 92, tyX11, rfl, rfl, by decide, by decide, uw_11, Or.inl w_1537, rfl, fun _ => rfl, by decide +kernel, tyX11_ok, nmX11⟩
theorem w_1538 : Cond.fieldLink "TapeStudioModel" 191 "TapeStudioModel" "layOrder" "[I" ∈ m_big := m_big_mem (i := 1538) (by decide +kernel) (by decide +kernel)
theorem lp_X11_191 : m_PL RX11 191 11 54 (.array .int) true := ⟨RX11, TX11, 92, tyX11, rfl, rfl, by decide, by decide, uw_11, Or.inl w_1538, rfl, fun _ => rfl, by decide +kernel, tyX11_ok, nmX11⟩
theorem w_1539 : Cond.fieldLink "TapeStudioModel" 194 "TapeStudioModel" "layTrack" "[I" ∈ m_big := m_big_mem (i := 1539) (by decide +kernel) (by decide +kernel)
theorem lp_X11_194 : m_PL RX11 194 11 55 (.array .int) true := ⟨RX11, TX11, 92, tyX11, rfl, rfl, by decide, by decide, uw_11, Or.inl w_1539, rfl, fun _ => rfl, by decide +kernel, tyX11_ok, nmX11⟩
theorem w_1540 : Cond.fieldLink "TapeStudioModel" 197 "TapeStudioModel" "layAt" "[I" ∈ m_big := m_big_mem (i := 1540) (by decide +kernel) (by decide +kernel)
theorem lp_X11_197 : m_PL RX11 197 11 56 (.array .int) true := ⟨RX11, TX11, 92, tyX11, rfl, rfl, by decide, by decide, uw_11, Or.inl w_1540, rfl, fun _ => rfl, by decide +kernel, tyX11_ok, nmX11⟩
theorem w_1541 : Cond.fieldLink "TapeStudioModel" 200 "TapeStudioModel" "layLong" "[I" ∈ m_big := m_big_mem (i := 1541) (by decide +kernel) (by decide +kernel)
theorem lp_X11_200 : m_PL RX11 200 11 57 (.array .int) true := ⟨RX11, TX11, 92, tyX11, rfl, rfl, by decide, by decide, uw_11, Or.inl w_1541, rfl, fun _ => rfl, by decide +kernel, tyX11_ok, nmX11⟩
theorem w_1544 : Cond.fieldLink "TapeStudioModel" 203 "TapeStudioModel" "lastScore" "I" ∈ m_big := m_big_mem (i := 1544) (by decide +kernel) (by decide +kernel)
theorem lp_X11_203 : m_PL RX11 203 11 60 .int false := ⟨RX11, TX11, 92, tyX11, rfl, rfl, by decide, by decide, uw_11, Or.inl w_1544, rfl, (fun q => by cases q), by decide +kernel, tyX11_ok, nmX11⟩
theorem w_1547 : Cond.fieldLink "TapeStudioModel" 207 "TapeStudioModel" "piece" "[I" ∈ m_big := m_big_mem (i := 1547) (by decide +kernel) (by decide +kernel)
theorem lp_X11_207 : m_PL RX11 207 11 63 (.array .int) true := ⟨RX11, TX11, 92, tyX11, rfl, rfl, by decide, by decide, uw_11, Or.inl w_1547, rfl, fun _ => rfl, by decide +kernel, tyX11_ok, nmX11⟩
theorem w_1548 : Cond.fieldLink "TapeStudioModel" 210 "TapeStudioModel" "lastLength" "[I" ∈ m_big := m_big_mem (i := 1548) (by decide +kernel) (by decide +kernel)
theorem lp_X11_210 : m_PL RX11 210 11 64 (.array .int) true := ⟨RX11, TX11, 92, tyX11, rfl, rfl, by decide, by decide, uw_11, Or.inl w_1548, rfl, fun _ => rfl, by decide +kernel, tyX11_ok, nmX11⟩
theorem w_1549 : Cond.fieldLink "TapeStudioModel" 213 "TapeStudioModel" "lastSource" "[I" ∈ m_big := m_big_mem (i := 1549) (by decide +kernel) (by decide +kernel)
theorem lp_X11_213 : m_PL RX11 213 11 65 (.array .int) true := ⟨RX11, TX11, 92, tyX11, rfl, rfl, by decide, by decide, uw_11, Or.inl w_1549, rfl, fun _ => rfl, by decide +kernel, tyX11_ok, nmX11⟩
theorem w_1550 : Cond.fieldLink "TapeStudioModel" 216 "TapeStudioModel" "lastOrder" "[I" ∈ m_big := m_big_mem (i := 1550) (by decide +kernel) (by decide +kernel)
theorem lp_X11_216 : m_PL RX11 216 11 66 (.array .int) true := ⟨RX11, TX11, 92, tyX11, rfl, rfl, by decide, by decide, uw_11, Or.inl w_1550, rfl, fun _ => rfl, by decide +kernel, tyX11_ok, nmX11⟩
theorem w_1551 : Cond.fieldLink "TapeStudioModel" 219 "TapeStudioModel" "lastTrack" "[I" ∈ m_big := m_big_mem (i := 1551) (by decide +kernel) (by decide +kernel)
theorem lp_X11_219 : m_PL RX11 219 11 67 (.array .int) true := ⟨RX11, TX11, 92, tyX11, rfl, rfl, by decide, by decide, uw_11, Or.inl w_1551, rfl, fun _ => rfl, by decide +kernel, tyX11_ok, nmX11⟩
theorem w_1552 : Cond.fieldLink "TapeStudioModel" 222 "TapeStudioModel" "lastAt" "[I" ∈ m_big := m_big_mem (i := 1552) (by decide +kernel) (by decide +kernel)
theorem lp_X11_222 : m_PL RX11 222 11 68 (.array .int) true := ⟨RX11, TX11, 92, tyX11, rfl, rfl, by decide, by decide, uw_11, Or.inl w_1552, rfl, fun _ => rfl, by decide +kernel, tyX11_ok, nmX11⟩
theorem w_1553 : Cond.fieldLink "TapeStudioModel" 225 "TapeStudioModel" "lastOf" "[I" ∈ m_big := m_big_mem (i := 1553) (by decide +kernel) (by decide +kernel)
theorem lp_X11_225 : m_PL RX11 225 11 69 (.array .int) true := ⟨RX11, TX11, 92, tyX11, rfl, rfl, by decide, by decide, uw_11, Or.inl w_1553, rfl, fun _ => rfl, by decide +kernel, tyX11_ok, nmX11⟩
theorem w_1762 : Cond.arrayClass .boolean ∈ m_big := m_big_mem (i := 1762) (by decide +kernel) (by decide +kernel)
theorem w_1554 : Cond.fieldLink "TapeStudioModel" 228 "TapeStudioModel" "wasMade" "[Z" ∈ m_big := m_big_mem (i := 1554) (by decide +kernel) (by decide +kernel)
theorem lp_X11_228 : m_PL RX11 228 11 70 (.array .boolean) true := ⟨RX11, TX11, 92, tyX11, rfl, rfl, by decide, by decide, uw_11, Or.inl w_1554, rfl, fun _ => rfl, by decide +kernel, tyX11_ok, nmX11⟩
theorem w_1555 : Cond.fieldLink "TapeStudioModel" 232 "TapeStudioModel" "ledTo" "[[I" ∈ m_big := m_big_mem (i := 1555) (by decide +kernel) (by decide +kernel)
theorem lp_X11_232 : m_PL RX11 232 11 71 (.array (.array .int)) true := ⟨RX11, TX11, 92, tyX11, rfl, rfl, by decide, by decide, uw_11, Or.inl w_1555, rfl, fun _ => rfl, by decide +kernel, tyX11_ok, nmX11⟩
theorem w_1556 : Cond.fieldLink "TapeStudioModel" 235 "TapeStudioModel" "isOf" "[Z" ∈ m_big := m_big_mem (i := 1556) (by decide +kernel) (by decide +kernel)
theorem lp_X11_235 : m_PL RX11 235 11 72 (.array .boolean) true := ⟨RX11, TX11, 92, tyX11, rfl, rfl, by decide, by decide, uw_11, Or.inl w_1556, rfl, fun _ => rfl, by decide +kernel, tyX11_ok, nmX11⟩
theorem w_1559 : Cond.fieldLink "TapeStudioModel" 238 "TapeStudioModel" "step" "[I" ∈ m_big := m_big_mem (i := 1559) (by decide +kernel) (by decide +kernel)
theorem lp_X11_238 : m_PL RX11 238 11 75 (.array .int) true := ⟨RX11, TX11, 92, tyX11, rfl, rfl, by decide, by decide, uw_11, Or.inl w_1559, rfl, fun _ => rfl, by decide +kernel, tyX11_ok, nmX11⟩
theorem w_1560 : Cond.fieldLink "TapeStudioModel" 241 "TapeStudioModel" "needs" "[I" ∈ m_big := m_big_mem (i := 1560) (by decide +kernel) (by decide +kernel)
theorem lp_X11_241 : m_PL RX11 241 11 76 (.array .int) true := ⟨RX11, TX11, 92, tyX11, rfl, rfl, by decide, by decide, uw_11, Or.inl w_1560, rfl, fun _ => rfl, by decide +kernel, tyX11_ok, nmX11⟩
theorem w_1561 : Cond.fieldLink "TapeStudioModel" 244 "TapeStudioModel" "best" "[I" ∈ m_big := m_big_mem (i := 1561) (by decide +kernel) (by decide +kernel)
theorem lp_X11_244 : m_PL RX11 244 11 77 (.array .int) true := ⟨RX11, TX11, 92, tyX11, rfl, rfl, by decide, by decide, uw_11, Or.inl w_1561, rfl, fun _ => rfl, by decide +kernel, tyX11_ok, nmX11⟩
theorem w_1562 : Cond.fieldLink "TapeStudioModel" 247 "TapeStudioModel" "turnFor" "[I" ∈ m_big := m_big_mem (i := 1562) (by decide +kernel) (by decide +kernel)
theorem lp_X11_247 : m_PL RX11 247 11 78 (.array .int) true := ⟨RX11, TX11, 92, tyX11, rfl, rfl, by decide, by decide, uw_11, Or.inl w_1562, rfl, fun _ => rfl, by decide +kernel, tyX11_ok, nmX11⟩
theorem w_1564 : Cond.fieldLink "TapeStudioModel" 250 "TapeStudioModel" "deeps" "[I" ∈ m_big := m_big_mem (i := 1564) (by decide +kernel) (by decide +kernel)
theorem lp_X11_250 : m_PL RX11 250 11 80 (.array .int) true := ⟨RX11, TX11, 92, tyX11, rfl, rfl, by decide, by decide, uw_11, Or.inl w_1564, rfl, fun _ => rfl, by decide +kernel, tyX11_ok, nmX11⟩
theorem w_1565 : Cond.fieldLink "TapeStudioModel" 253 "TapeStudioModel" "tape" "[I" ∈ m_big := m_big_mem (i := 1565) (by decide +kernel) (by decide +kernel)
theorem lp_X11_253 : m_PL RX11 253 11 81 (.array .int) true := ⟨RX11, TX11, 92, tyX11, rfl, rfl, by decide, by decide, uw_11, Or.inl w_1565, rfl, fun _ => rfl, by decide +kernel, tyX11_ok, nmX11⟩
theorem w_1566 : Cond.fieldLink "TapeStudioModel" 256 "TapeStudioModel" "other" "[I" ∈ m_big := m_big_mem (i := 1566) (by decide +kernel) (by decide +kernel)
theorem lp_X11_256 : m_PL RX11 256 11 82 (.array .int) true := ⟨RX11, TX11, 92, tyX11, rfl, rfl, by decide, by decide, uw_11, Or.inl w_1566, rfl, fun _ => rfl, by decide +kernel, tyX11_ok, nmX11⟩
theorem w_1567 : Cond.fieldLink "TapeStudioModel" 259 "TapeStudioModel" "bestLong" "[I" ∈ m_big := m_big_mem (i := 1567) (by decide +kernel) (by decide +kernel)
theorem lp_X11_259 : m_PL RX11 259 11 83 (.array .int) true := ⟨RX11, TX11, 92, tyX11, rfl, rfl, by decide, by decide, uw_11, Or.inl w_1567, rfl, fun _ => rfl, by decide +kernel, tyX11_ok, nmX11⟩
theorem w_1568 : Cond.fieldLink "TapeStudioModel" 262 "TapeStudioModel" "need" "[I" ∈ m_big := m_big_mem (i := 1568) (by decide +kernel) (by decide +kernel)
theorem lp_X11_262 : m_PL RX11 262 11 84 (.array .int) true := ⟨RX11, TX11, 92, tyX11, rfl, rfl, by decide, by decide, uw_11, Or.inl w_1568, rfl, fun _ => rfl, by decide +kernel, tyX11_ok, nmX11⟩
theorem w_1498 : Cond.fieldLink "TapeStudioModel" 265 "TapeStudioModel" "strips" "I" ∈ m_big := m_big_mem (i := 1498) (by decide +kernel) (by decide +kernel)
theorem lf_X11_265 : m_FL RX11 265 11 14 := ⟨RX11, TX11, 92, rfl, rfl, by decide, by decide, uw_11, Or.inl w_1498⟩
theorem w_1779 : Cond.methodLink "TapeStudioModel" 268 ⟨"TapeStudioModel","in","(JJJ)Z"⟩ ∈ m_big := m_big_mem (i := 1779) (by decide +kernel) (by decide +kernel)
theorem w_1781 : Cond.code ⟨"TapeStudioModel","in","(JJJ)Z"⟩ prog_13_method_1_code 6 (Option.some .boolean) ∈ m_big := m_big_mem (i := 1781) (by decide +kernel) (by decide +kernel)
theorem w_135 : Cond.initialized "TapeStudioModel" ∈ m_big := m_big_mem (i := 135) (by decide +kernel) (by decide +kernel)
theorem w_1780 : Cond.static ⟨"TapeStudioModel","in","(JJJ)Z"⟩ ∈ m_big := m_big_mem (i := 1780) (by decide +kernel) (by decide +kernel)
theorem lm_X11_268 : m_MS RX11 268 yX11_in cX11_in 6 (some .boolean) 3 := ⟨⟨Or.inl w_1779, w_135, w_1781, by decide +kernel, by decide⟩, w_1780⟩
theorem w_1811 : Cond.methodLink "TapeStudioModel" 271 ⟨"TapeStudioModel","isStrip","(I)Z"⟩ ∈ m_big := m_big_mem (i := 1811) (by decide +kernel) (by decide +kernel)
theorem w_1814 : Cond.code ⟨"TapeStudioModel","isStrip","(I)Z"⟩ prog_13_method_4_code 2 (Option.some .boolean) ∈ m_big := m_big_mem (i := 1814) (by decide +kernel) (by decide +kernel)
theorem w_1813 : Cond.instanceMethod ⟨"TapeStudioModel","isStrip","(I)Z"⟩ ∈ m_big := m_big_mem (i := 1813) (by decide +kernel) (by decide +kernel)
theorem w_68 : Cond.selects "TapeStudioModel" ⟨"TapeStudioModel","isStrip","(I)Z"⟩ ⟨"TapeStudioModel","isStrip","(I)Z"⟩ ∈ m_big := m_big_mem (i := 68) (by decide +kernel) (by decide +kernel)
theorem lm_X11_271 : m_MV RX11 271 yX11_isStrip cX11_isStrip 2 (some .boolean) 1 := ⟨⟨Or.inl w_1811, w_135, w_1814, by decide +kernel, by decide⟩, w_1813, w_68⟩
theorem lf_X11_29 : m_FL RX11 29 11 5 := ⟨RX11, TX11, 92, rfl, rfl, by decide, by decide, uw_11, Or.inl w_1489⟩
theorem lf_X11_17 : m_FL RX11 17 11 1 := ⟨RX11, TX11, 92, rfl, rfl, by decide, by decide, uw_11, Or.inl w_1485⟩
theorem w_1500 : Cond.fieldLink "TapeStudioModel" 275 "TapeStudioModel" "handMany" "I" ∈ m_big := m_big_mem (i := 1500) (by decide +kernel) (by decide +kernel)
theorem lf_X11_275 : m_FL RX11 275 11 16 := ⟨RX11, TX11, 92, rfl, rfl, by decide, by decide, uw_11, Or.inl w_1500⟩
theorem lp_X11_275 : m_PL RX11 275 11 16 .int false := ⟨RX11, TX11, 92, tyX11, rfl, rfl, by decide, by decide, uw_11, Or.inl w_1500, rfl, (fun q => by cases q), by decide +kernel, tyX11_ok, nmX11⟩
theorem w_1767 : Cond.methodLink "TapeStudioModel" 278 ⟨"TapeStudioModel","hands","(I)V"⟩ ∈ m_big := m_big_mem (i := 1767) (by decide +kernel) (by decide +kernel)
theorem w_1770 : Cond.code ⟨"TapeStudioModel","hands","(I)V"⟩ prog_13_method_6_code 2 (Option.none : Option Jvm.ClassFile.FieldType) ∈ m_big := m_big_mem (i := 1770) (by decide +kernel) (by decide +kernel)
theorem w_1769 : Cond.instanceMethod ⟨"TapeStudioModel","hands","(I)V"⟩ ∈ m_big := m_big_mem (i := 1769) (by decide +kernel) (by decide +kernel)
theorem w_62 : Cond.selects "TapeStudioModel" ⟨"TapeStudioModel","hands","(I)V"⟩ ⟨"TapeStudioModel","hands","(I)V"⟩ ∈ m_big := m_big_mem (i := 62) (by decide +kernel) (by decide +kernel)
theorem lm_X11_278 : m_MV RX11 278 yX11_hands cX11_hands 2 none 1 := ⟨⟨Or.inl w_1767, w_135, w_1770, by decide +kernel, by decide⟩, w_1769, w_62⟩
theorem lf_X11_41 : m_FL RX11 41 11 9 := ⟨RX11, TX11, 92, rfl, rfl, by decide, by decide, uw_11, Or.inl w_1493⟩
theorem lf_X11_44 : m_FL RX11 44 11 10 := ⟨RX11, TX11, 92, rfl, rfl, by decide, by decide, uw_11, Or.inl w_1494⟩
theorem w_1502 : Cond.fieldLink "TapeStudioModel" 285 "TapeStudioModel" "now" "I" ∈ m_big := m_big_mem (i := 1502) (by decide +kernel) (by decide +kernel)
theorem lf_X11_285 : m_FL RX11 285 11 18 := ⟨RX11, TX11, 92, rfl, rfl, by decide, by decide, uw_11, Or.inl w_1502⟩
theorem lf_X11_47 : m_FL RX11 47 11 11 := ⟨RX11, TX11, 92, rfl, rfl, by decide, by decide, uw_11, Or.inl w_1495⟩
theorem lf_X11_50 : m_FL RX11 50 11 12 := ⟨RX11, TX11, 92, rfl, rfl, by decide, by decide, uw_11, Or.inl w_1496⟩
theorem lf_X11_53 : m_FL RX11 53 11 13 := ⟨RX11, TX11, 92, rfl, rfl, by decide, by decide, uw_11, Or.inl w_1497⟩
theorem lf_X11_23 : m_FL RX11 23 11 3 := ⟨RX11, TX11, 92, rfl, rfl, by decide, by decide, uw_11, Or.inl w_1487⟩
theorem lp_X11_265 : m_PL RX11 265 11 14 .int false := ⟨RX11, TX11, 92, tyX11, rfl, rfl, by decide, by decide, uw_11, Or.inl w_1498, rfl, (fun q => by cases q), by decide +kernel, tyX11_ok, nmX11⟩
theorem lf_X11_38 : m_FL RX11 38 11 8 := ⟨RX11, TX11, 92, rfl, rfl, by decide, by decide, uw_11, Or.inl w_1492⟩
theorem lf_X11_35 : m_FL RX11 35 11 7 := ⟨RX11, TX11, 92, rfl, rfl, by decide, by decide, uw_11, Or.inl w_1491⟩
theorem lf_X11_20 : m_FL RX11 20 11 2 := ⟨RX11, TX11, 92, rfl, rfl, by decide, by decide, uw_11, Or.inl w_1486⟩
theorem w_1499 : Cond.fieldLink "TapeStudioModel" 282 "TapeStudioModel" "all" "I" ∈ m_big := m_big_mem (i := 1499) (by decide +kernel) (by decide +kernel)
theorem lf_X11_282 : m_FL RX11 282 11 15 := ⟨RX11, TX11, 92, rfl, rfl, by decide, by decide, uw_11, Or.inl w_1499⟩
theorem lf_X11_26 : m_FL RX11 26 11 4 := ⟨RX11, TX11, 92, rfl, rfl, by decide, by decide, uw_11, Or.inl w_1488⟩
theorem lf_X11_32 : m_FL RX11 32 11 6 := ⟨RX11, TX11, 92, rfl, rfl, by decide, by decide, uw_11, Or.inl w_1490⟩
theorem lf_X11_13 : m_FL RX11 13 11 0 := ⟨RX11, TX11, 92, rfl, rfl, by decide, by decide, uw_11, Or.inl w_1484⟩
theorem lp_X11_282 : m_PL RX11 282 11 15 .int false := ⟨RX11, TX11, 92, tyX11, rfl, rfl, by decide, by decide, uw_11, Or.inl w_1499, rfl, (fun q => by cases q), by decide +kernel, tyX11_ok, nmX11⟩
theorem w_1790 : Cond.methodLink "TapeStudioModel" 296 ⟨"TapeStudioModel","adds","(II)V"⟩ ∈ m_big := m_big_mem (i := 1790) (by decide +kernel) (by decide +kernel)
theorem w_1793 : Cond.code ⟨"TapeStudioModel","adds","(II)V"⟩ prog_13_method_11_code 3 (Option.none : Option Jvm.ClassFile.FieldType) ∈ m_big := m_big_mem (i := 1793) (by decide +kernel) (by decide +kernel)
theorem w_1792 : Cond.instanceMethod ⟨"TapeStudioModel","adds","(II)V"⟩ ∈ m_big := m_big_mem (i := 1792) (by decide +kernel) (by decide +kernel)
theorem w_65 : Cond.selects "TapeStudioModel" ⟨"TapeStudioModel","adds","(II)V"⟩ ⟨"TapeStudioModel","adds","(II)V"⟩ ∈ m_big := m_big_mem (i := 65) (by decide +kernel) (by decide +kernel)
theorem lm_X11_296 : m_MV RX11 296 yX11_adds cX11_adds 3 none 2 := ⟨⟨Or.inl w_1790, w_135, w_1793, by decide +kernel, by decide⟩, w_1792, w_65⟩
theorem w_1794 : Cond.methodLink "TapeStudioModel" 300 ⟨"TapeStudioModel","handLoses","(I)V"⟩ ∈ m_big := m_big_mem (i := 1794) (by decide +kernel) (by decide +kernel)
theorem w_1797 : Cond.code ⟨"TapeStudioModel","handLoses","(I)V"⟩ prog_13_method_9_code 3 (Option.none : Option Jvm.ClassFile.FieldType) ∈ m_big := m_big_mem (i := 1797) (by decide +kernel) (by decide +kernel)
theorem w_1796 : Cond.instanceMethod ⟨"TapeStudioModel","handLoses","(I)V"⟩ ∈ m_big := m_big_mem (i := 1796) (by decide +kernel) (by decide +kernel)
theorem w_66 : Cond.selects "TapeStudioModel" ⟨"TapeStudioModel","handLoses","(I)V"⟩ ⟨"TapeStudioModel","handLoses","(I)V"⟩ ∈ m_big := m_big_mem (i := 66) (by decide +kernel) (by decide +kernel)
theorem lm_X11_300 : m_MV RX11 300 yX11_handLoses cX11_handLoses 3 none 1 := ⟨⟨Or.inl w_1794, w_135, w_1797, by decide +kernel, by decide⟩, w_1796, w_66⟩
theorem w_1782 : Cond.methodLink "TapeStudioModel" 288 ⟨"TapeStudioModel","isRoom","(II)Z"⟩ ∈ m_big := m_big_mem (i := 1782) (by decide +kernel) (by decide +kernel)
theorem w_1785 : Cond.code ⟨"TapeStudioModel","isRoom","(II)Z"⟩ prog_13_method_12_code 3 (Option.some .boolean) ∈ m_big := m_big_mem (i := 1785) (by decide +kernel) (by decide +kernel)
theorem w_1784 : Cond.instanceMethod ⟨"TapeStudioModel","isRoom","(II)Z"⟩ ∈ m_big := m_big_mem (i := 1784) (by decide +kernel) (by decide +kernel)
theorem w_63 : Cond.selects "TapeStudioModel" ⟨"TapeStudioModel","isRoom","(II)Z"⟩ ⟨"TapeStudioModel","isRoom","(II)Z"⟩ ∈ m_big := m_big_mem (i := 63) (by decide +kernel) (by decide +kernel)
theorem lm_X11_288 : m_MV RX11 288 yX11_isRoom cX11_isRoom 3 (some .boolean) 2 := ⟨⟨Or.inl w_1782, w_135, w_1785, by decide +kernel, by decide⟩, w_1784, w_63⟩
theorem w_1786 : Cond.methodLink "TapeStudioModel" 292 ⟨"TapeStudioModel","comes","(IIII)I"⟩ ∈ m_big := m_big_mem (i := 1786) (by decide +kernel) (by decide +kernel)
theorem w_1789 : Cond.code ⟨"TapeStudioModel","comes","(IIII)I"⟩ prog_13_method_10_code 6 (Option.some .int) ∈ m_big := m_big_mem (i := 1789) (by decide +kernel) (by decide +kernel)
theorem w_1788 : Cond.instanceMethod ⟨"TapeStudioModel","comes","(IIII)I"⟩ ∈ m_big := m_big_mem (i := 1788) (by decide +kernel) (by decide +kernel)
theorem w_64 : Cond.selects "TapeStudioModel" ⟨"TapeStudioModel","comes","(IIII)I"⟩ ⟨"TapeStudioModel","comes","(IIII)I"⟩ ∈ m_big := m_big_mem (i := 64) (by decide +kernel) (by decide +kernel)
theorem lm_X11_292 : m_MV RX11 292 yX11_comes cX11_comes 6 (some .int) 4 := ⟨⟨Or.inl w_1786, w_135, w_1789, by decide +kernel, by decide⟩, w_1788, w_64⟩
theorem w_1802 : Cond.constantLong "TapeStudioModel" 303 (Int64.ofInt (9)) ∈ m_nest := m_nest_mem (i := 1802) (by decide +kernel) (by decide +kernel)
theorem w_1501 : Cond.fieldLink "TapeStudioModel" 305 "TapeStudioModel" "sliver" "I" ∈ m_big := m_big_mem (i := 1501) (by decide +kernel) (by decide +kernel)
theorem lp_X11_305 : m_PL RX11 305 11 17 .int false := ⟨RX11, TX11, 92, tyX11, rfl, rfl, by decide, by decide, uw_11, Or.inl w_1501, rfl, (fun q => by cases q), by decide +kernel, tyX11_ok, nmX11⟩
theorem w_1815 : Cond.methodLink "TapeStudioModel" 311 ⟨"TapeStudioModel","at","(II)I"⟩ ∈ m_big := m_big_mem (i := 1815) (by decide +kernel) (by decide +kernel)
theorem w_1818 : Cond.code ⟨"TapeStudioModel","at","(II)I"⟩ prog_13_method_14_code 3 (Option.some .int) ∈ m_big := m_big_mem (i := 1818) (by decide +kernel) (by decide +kernel)
theorem w_1817 : Cond.instanceMethod ⟨"TapeStudioModel","at","(II)I"⟩ ∈ m_big := m_big_mem (i := 1817) (by decide +kernel) (by decide +kernel)
theorem w_69 : Cond.selects "TapeStudioModel" ⟨"TapeStudioModel","at","(II)I"⟩ ⟨"TapeStudioModel","at","(II)I"⟩ ∈ m_big := m_big_mem (i := 69) (by decide +kernel) (by decide +kernel)
theorem lm_X11_311 : m_MV RX11 311 yX11_at cX11_at 3 (some .int) 2 := ⟨⟨Or.inl w_1815, w_135, w_1818, by decide +kernel, by decide⟩, w_1817, w_69⟩
theorem w_1819 : Cond.methodLink "TapeStudioModel" 314 ⟨"TapeStudioModel","uses","(II)V"⟩ ∈ m_big := m_big_mem (i := 1819) (by decide +kernel) (by decide +kernel)
theorem w_1822 : Cond.code ⟨"TapeStudioModel","uses","(II)V"⟩ prog_13_method_13_code 3 (Option.none : Option Jvm.ClassFile.FieldType) ∈ m_big := m_big_mem (i := 1822) (by decide +kernel) (by decide +kernel)
theorem w_1821 : Cond.instanceMethod ⟨"TapeStudioModel","uses","(II)V"⟩ ∈ m_big := m_big_mem (i := 1821) (by decide +kernel) (by decide +kernel)
theorem w_70 : Cond.selects "TapeStudioModel" ⟨"TapeStudioModel","uses","(II)V"⟩ ⟨"TapeStudioModel","uses","(II)V"⟩ ∈ m_big := m_big_mem (i := 70) (by decide +kernel) (by decide +kernel)
theorem lm_X11_314 : m_MV RX11 314 yX11_uses cX11_uses 3 none 2 := ⟨⟨Or.inl w_1819, w_135, w_1822, by decide +kernel, by decide⟩, w_1821, w_70⟩
theorem lf_X11_305 : m_FL RX11 305 11 17 := ⟨RX11, TX11, 92, rfl, rfl, by decide, by decide, uw_11, Or.inl w_1501⟩
theorem w_1807 : Cond.methodLink "TapeStudioModel" 308 ⟨"TapeStudioModel","isThere","(I)Z"⟩ ∈ m_big := m_big_mem (i := 1807) (by decide +kernel) (by decide +kernel)
theorem w_1810 : Cond.code ⟨"TapeStudioModel","isThere","(I)Z"⟩ prog_13_method_5_code 2 (Option.some .boolean) ∈ m_big := m_big_mem (i := 1810) (by decide +kernel) (by decide +kernel)
theorem w_1809 : Cond.instanceMethod ⟨"TapeStudioModel","isThere","(I)Z"⟩ ∈ m_big := m_big_mem (i := 1809) (by decide +kernel) (by decide +kernel)
theorem w_67 : Cond.selects "TapeStudioModel" ⟨"TapeStudioModel","isThere","(I)Z"⟩ ⟨"TapeStudioModel","isThere","(I)Z"⟩ ∈ m_big := m_big_mem (i := 67) (by decide +kernel) (by decide +kernel)
theorem lm_X11_308 : m_MV RX11 308 yX11_isThere cX11_isThere 2 (some .boolean) 1 := ⟨⟨Or.inl w_1807, w_135, w_1810, by decide +kernel, by decide⟩, w_1809, w_67⟩
theorem w_1827 : Cond.methodLink "TapeStudioModel" 317 ⟨"TapeStudioModel","isPlain","(I)Z"⟩ ∈ m_big := m_big_mem (i := 1827) (by decide +kernel) (by decide +kernel)
theorem w_1830 : Cond.code ⟨"TapeStudioModel","isPlain","(I)Z"⟩ prog_13_method_18_code 2 (Option.some .boolean) ∈ m_big := m_big_mem (i := 1830) (by decide +kernel) (by decide +kernel)
theorem w_1829 : Cond.instanceMethod ⟨"TapeStudioModel","isPlain","(I)Z"⟩ ∈ m_big := m_big_mem (i := 1829) (by decide +kernel) (by decide +kernel)
theorem w_71 : Cond.selects "TapeStudioModel" ⟨"TapeStudioModel","isPlain","(I)Z"⟩ ⟨"TapeStudioModel","isPlain","(I)Z"⟩ ∈ m_big := m_big_mem (i := 71) (by decide +kernel) (by decide +kernel)
theorem lm_X11_317 : m_MV RX11 317 yX11_isPlain cX11_isPlain 2 (some .boolean) 1 := ⟨⟨Or.inl w_1827, w_135, w_1830, by decide +kernel, by decide⟩, w_1829, w_71⟩
theorem w_1847 : Cond.methodLink "TapeStudioModel" 320 ⟨"TapeStudioModel","bounded","(J)I"⟩ ∈ m_big := m_big_mem (i := 1847) (by decide +kernel) (by decide +kernel)
theorem w_1849 : Cond.code ⟨"TapeStudioModel","bounded","(J)I"⟩ prog_13_method_2_code 2 (Option.some .int) ∈ m_big := m_big_mem (i := 1849) (by decide +kernel) (by decide +kernel)
theorem w_1848 : Cond.static ⟨"TapeStudioModel","bounded","(J)I"⟩ ∈ m_big := m_big_mem (i := 1848) (by decide +kernel) (by decide +kernel)
theorem lm_X11_320 : m_MS RX11 320 yX11_bounded cX11_bounded 2 (some .int) 1 := ⟨⟨Or.inl w_1847, w_135, w_1849, by decide +kernel, by decide⟩, w_1848⟩
theorem w_1844 : Cond.methodLink "TapeStudioModel" 326 ⟨"TapeStudioModel","spliced","(IIII)I"⟩ ∈ m_big := m_big_mem (i := 1844) (by decide +kernel) (by decide +kernel)
theorem w_1846 : Cond.code ⟨"TapeStudioModel","spliced","(IIII)I"⟩ prog_13_method_22_code 4 (Option.some .int) ∈ m_big := m_big_mem (i := 1846) (by decide +kernel) (by decide +kernel)
theorem w_1845 : Cond.static ⟨"TapeStudioModel","spliced","(IIII)I"⟩ ∈ m_big := m_big_mem (i := 1845) (by decide +kernel) (by decide +kernel)
theorem lm_X11_326 : m_MS RX11 326 yX11_spliced cX11_spliced 4 (some .int) 4 := ⟨⟨Or.inl w_1844, w_135, w_1846, by decide +kernel, by decide⟩, w_1845⟩
theorem w_1843 : Cond.constantLong "TapeStudioModel" 324 (Int64.ofInt (20)) ∈ m_nest := m_nest_mem (i := 1843) (by decide +kernel) (by decide +kernel)
theorem w_1856 : Cond.constantLong "TapeStudioModel" 329 (Int64.ofInt (100)) ∈ m_nest := m_nest_mem (i := 1856) (by decide +kernel) (by decide +kernel)
theorem w_1857 : Cond.constantLong "TapeStudioModel" 331 (Int64.ofInt (200)) ∈ m_nest := m_nest_mem (i := 1857) (by decide +kernel) (by decide +kernel)
theorem w_1507 : Cond.fieldLink "TapeStudioModel" 333 "TapeStudioModel" "machines" "I" ∈ m_big := m_big_mem (i := 1507) (by decide +kernel) (by decide +kernel)
theorem lf_X11_333 : m_FL RX11 333 11 23 := ⟨RX11, TX11, 92, rfl, rfl, by decide, by decide, uw_11, Or.inl w_1507⟩
theorem lf_X11_56 : m_FL RX11 56 11 19 := ⟨RX11, TX11, 92, rfl, rfl, by decide, by decide, uw_11, Or.inl w_1503⟩
theorem lf_X11_59 : m_FL RX11 59 11 20 := ⟨RX11, TX11, 92, rfl, rfl, by decide, by decide, uw_11, Or.inl w_1504⟩
theorem lf_X11_62 : m_FL RX11 62 11 21 := ⟨RX11, TX11, 92, rfl, rfl, by decide, by decide, uw_11, Or.inl w_1505⟩
theorem lf_X11_65 : m_FL RX11 65 11 22 := ⟨RX11, TX11, 92, rfl, rfl, by decide, by decide, uw_11, Or.inl w_1506⟩
theorem lp_X11_333 : m_PL RX11 333 11 23 .int false := ⟨RX11, TX11, 92, tyX11, rfl, rfl, by decide, by decide, uw_11, Or.inl w_1507, rfl, (fun q => by cases q), by decide +kernel, tyX11_ok, nmX11⟩
theorem lf_X11_77 : m_FL RX11 77 11 28 := ⟨RX11, TX11, 92, rfl, rfl, by decide, by decide, uw_11, Or.inl w_1512⟩
theorem w_1873 : Cond.methodLink "TapeStudioModel" 343 ⟨"TapeStudioModel","sampleAt","(IIII)I"⟩ ∈ m_big := m_big_mem (i := 1873) (by decide +kernel) (by decide +kernel)
theorem w_1876 : Cond.code ⟨"TapeStudioModel","sampleAt","(IIII)I"⟩ prog_13_method_27_code 8 (Option.some .int) ∈ m_big := m_big_mem (i := 1876) (by decide +kernel) (by decide +kernel)
theorem w_1875 : Cond.instanceMethod ⟨"TapeStudioModel","sampleAt","(IIII)I"⟩ ∈ m_big := m_big_mem (i := 1875) (by decide +kernel) (by decide +kernel)
theorem w_74 : Cond.selects "TapeStudioModel" ⟨"TapeStudioModel","sampleAt","(IIII)I"⟩ ⟨"TapeStudioModel","sampleAt","(IIII)I"⟩ ∈ m_big := m_big_mem (i := 74) (by decide +kernel) (by decide +kernel)
theorem lm_X11_343 : m_MV RX11 343 yX11_sampleAt cX11_sampleAt 8 (some .int) 4 := ⟨⟨Or.inl w_1873, w_135, w_1876, by decide +kernel, by decide⟩, w_1875, w_74⟩
theorem w_1877 : Cond.constantLong "TapeStudioModel" 346 (Int64.ofInt (64)) ∈ m_nest := m_nest_mem (i := 1877) (by decide +kernel) (by decide +kernel)
theorem w_1862 : Cond.methodLink "TapeStudioModel" 336 ⟨"TapeStudioModel","isMachine","(I)Z"⟩ ∈ m_big := m_big_mem (i := 1862) (by decide +kernel) (by decide +kernel)
theorem w_1865 : Cond.code ⟨"TapeStudioModel","isMachine","(I)Z"⟩ prog_13_method_25_code 2 (Option.some .boolean) ∈ m_big := m_big_mem (i := 1865) (by decide +kernel) (by decide +kernel)
theorem w_1864 : Cond.instanceMethod ⟨"TapeStudioModel","isMachine","(I)Z"⟩ ∈ m_big := m_big_mem (i := 1864) (by decide +kernel) (by decide +kernel)
theorem w_72 : Cond.selects "TapeStudioModel" ⟨"TapeStudioModel","isMachine","(I)Z"⟩ ⟨"TapeStudioModel","isMachine","(I)Z"⟩ ∈ m_big := m_big_mem (i := 72) (by decide +kernel) (by decide +kernel)
theorem lm_X11_336 : m_MV RX11 336 yX11_isMachine cX11_isMachine 2 (some .boolean) 1 := ⟨⟨Or.inl w_1862, w_135, w_1865, by decide +kernel, by decide⟩, w_1864, w_72⟩
theorem w_1870 : Cond.methodLink "TapeStudioModel" 339 ⟨"TapeStudioModel","longAt","(III)I"⟩ ∈ m_big := m_big_mem (i := 1870) (by decide +kernel) (by decide +kernel)
theorem w_1872 : Cond.code ⟨"TapeStudioModel","longAt","(III)I"⟩ prog_13_method_26_code 3 (Option.some .int) ∈ m_big := m_big_mem (i := 1872) (by decide +kernel) (by decide +kernel)
theorem w_1871 : Cond.static ⟨"TapeStudioModel","longAt","(III)I"⟩ ∈ m_big := m_big_mem (i := 1871) (by decide +kernel) (by decide +kernel)
theorem lm_X11_339 : m_MS RX11 339 yX11_longAt cX11_longAt 3 (some .int) 3 := ⟨⟨Or.inl w_1870, w_135, w_1872, by decide +kernel, by decide⟩, w_1871⟩
theorem w_1866 : Cond.methodLink "TapeStudioModel" 348 ⟨"TapeStudioModel","plays","(IIIIII)I"⟩ ∈ m_big := m_big_mem (i := 1866) (by decide +kernel) (by decide +kernel)
theorem w_1869 : Cond.code ⟨"TapeStudioModel","plays","(IIIIII)I"⟩ prog_13_method_28_code 10 (Option.some .int) ∈ m_big := m_big_mem (i := 1869) (by decide +kernel) (by decide +kernel)
theorem w_1868 : Cond.instanceMethod ⟨"TapeStudioModel","plays","(IIIIII)I"⟩ ∈ m_big := m_big_mem (i := 1868) (by decide +kernel) (by decide +kernel)
theorem w_73 : Cond.selects "TapeStudioModel" ⟨"TapeStudioModel","plays","(IIIIII)I"⟩ ⟨"TapeStudioModel","plays","(IIIIII)I"⟩ ∈ m_big := m_big_mem (i := 73) (by decide +kernel) (by decide +kernel)
theorem lm_X11_348 : m_MV RX11 348 yX11_plays cX11_plays 10 (some .int) 6 := ⟨⟨Or.inl w_1866, w_135, w_1869, by decide +kernel, by decide⟩, w_1868, w_73⟩
theorem w_1882 : Cond.constantLong "TapeStudioModel" 352 (Int64.ofInt (8)) ∈ m_nest := m_nest_mem (i := 1882) (by decide +kernel) (by decide +kernel)
theorem w_1891 : Cond.constantLong "TapeStudioModel" 354 (Int64.ofInt (-1)) ∈ m_nest := m_nest_mem (i := 1891) (by decide +kernel) (by decide +kernel)
theorem w_1892 : Cond.constantLong "TapeStudioModel" 356 (Int64.ofInt (29)) ∈ m_nest := m_nest_mem (i := 1892) (by decide +kernel) (by decide +kernel)
theorem w_1901 : Cond.constantLong "TapeStudioModel" 358 (Int64.ofInt (999)) ∈ m_nest := m_nest_mem (i := 1901) (by decide +kernel) (by decide +kernel)
theorem w_1511 : Cond.fieldLink "TapeStudioModel" 360 "TapeStudioModel" "readings" "I" ∈ m_big := m_big_mem (i := 1511) (by decide +kernel) (by decide +kernel)
theorem lf_X11_360 : m_FL RX11 360 11 27 := ⟨RX11, TX11, 92, rfl, rfl, by decide, by decide, uw_11, Or.inl w_1511⟩
theorem lf_X11_68 : m_FL RX11 68 11 24 := ⟨RX11, TX11, 92, rfl, rfl, by decide, by decide, uw_11, Or.inl w_1508⟩
theorem lf_X11_71 : m_FL RX11 71 11 25 := ⟨RX11, TX11, 92, rfl, rfl, by decide, by decide, uw_11, Or.inl w_1509⟩
theorem lf_X11_74 : m_FL RX11 74 11 26 := ⟨RX11, TX11, 92, rfl, rfl, by decide, by decide, uw_11, Or.inl w_1510⟩
theorem lp_X11_360 : m_PL RX11 360 11 27 .int false := ⟨RX11, TX11, 92, tyX11, rfl, rfl, by decide, by decide, uw_11, Or.inl w_1511, rfl, (fun q => by cases q), by decide +kernel, tyX11_ok, nmX11⟩
theorem w_1906 : Cond.constantLong "TapeStudioModel" 363 (Int64.ofInt (400)) ∈ m_nest := m_nest_mem (i := 1906) (by decide +kernel) (by decide +kernel)
theorem w_1907 : Cond.methodLink "TapeStudioModel" 365 ⟨"TapeStudioModel","markOf","(II)I"⟩ ∈ m_big := m_big_mem (i := 1907) (by decide +kernel) (by decide +kernel)
theorem w_1910 : Cond.code ⟨"TapeStudioModel","markOf","(II)I"⟩ prog_13_method_35_code 5 (Option.some .int) ∈ m_big := m_big_mem (i := 1910) (by decide +kernel) (by decide +kernel)
theorem w_1909 : Cond.instanceMethod ⟨"TapeStudioModel","markOf","(II)I"⟩ ∈ m_big := m_big_mem (i := 1909) (by decide +kernel) (by decide +kernel)
theorem w_75 : Cond.selects "TapeStudioModel" ⟨"TapeStudioModel","markOf","(II)I"⟩ ⟨"TapeStudioModel","markOf","(II)I"⟩ ∈ m_big := m_big_mem (i := 75) (by decide +kernel) (by decide +kernel)
theorem lm_X11_365 : m_MV RX11 365 yX11_markOf cX11_markOf 5 (some .int) 2 := ⟨⟨Or.inl w_1907, w_135, w_1910, by decide +kernel, by decide⟩, w_1909, w_75⟩
theorem lp_X11_285 : m_PL RX11 285 11 18 .int false := ⟨RX11, TX11, 92, tyX11, rfl, rfl, by decide, by decide, uw_11, Or.inl w_1502, rfl, (fun q => by cases q), by decide +kernel, tyX11_ok, nmX11⟩
theorem w_1919 : Cond.constant "TapeStudioModel" 368 (Int32.ofInt (-2147483648)) ∈ m_nest := m_nest_mem (i := 1919) (by decide +kernel) (by decide +kernel)
theorem lf_X11_80 : m_FL RX11 80 11 29 := ⟨RX11, TX11, 92, rfl, rfl, by decide, by decide, uw_11, Or.inl w_1513⟩
theorem w_1514 : Cond.fieldLink "TapeStudioModel" 369 "TapeStudioModel" "textMany" "I" ∈ m_big := m_big_mem (i := 1514) (by decide +kernel) (by decide +kernel)
theorem lf_X11_369 : m_FL RX11 369 11 30 := ⟨RX11, TX11, 92, rfl, rfl, by decide, by decide, uw_11, Or.inl w_1514⟩
theorem lp_X11_369 : m_PL RX11 369 11 30 .int false := ⟨RX11, TX11, 92, tyX11, rfl, rfl, by decide, by decide, uw_11, Or.inl w_1514, rfl, (fun q => by cases q), by decide +kernel, tyX11_ok, nmX11⟩
theorem w_1928 : Cond.methodLink "TapeStudioModel" 372 ⟨"TapeStudioModel","feeds","(I)V"⟩ ∈ m_big := m_big_mem (i := 1928) (by decide +kernel) (by decide +kernel)
theorem w_1931 : Cond.code ⟨"TapeStudioModel","feeds","(I)V"⟩ prog_13_method_40_code 3 (Option.none : Option Jvm.ClassFile.FieldType) ∈ m_big := m_big_mem (i := 1931) (by decide +kernel) (by decide +kernel)
theorem w_1930 : Cond.instanceMethod ⟨"TapeStudioModel","feeds","(I)V"⟩ ∈ m_big := m_big_mem (i := 1930) (by decide +kernel) (by decide +kernel)
theorem w_76 : Cond.selects "TapeStudioModel" ⟨"TapeStudioModel","feeds","(I)V"⟩ ⟨"TapeStudioModel","feeds","(I)V"⟩ ∈ m_big := m_big_mem (i := 76) (by decide +kernel) (by decide +kernel)
theorem lm_X11_372 : m_MV RX11 372 yX11_feeds cX11_feeds 3 none 1 := ⟨⟨Or.inl w_1928, w_135, w_1931, by decide +kernel, by decide⟩, w_1930, w_76⟩
theorem w_1516 : Cond.fieldLink "TapeStudioModel" 378 "TapeStudioModel" "end0" "I" ∈ m_big := m_big_mem (i := 1516) (by decide +kernel) (by decide +kernel)
theorem lf_X11_378 : m_FL RX11 378 11 32 := ⟨RX11, TX11, 92, rfl, rfl, by decide, by decide, uw_11, Or.inl w_1516⟩
theorem w_1948 : Cond.methodLink "TapeStudioModel" 381 ⟨"TapeStudioModel","isLetter","(I)Z"⟩ ∈ m_big := m_big_mem (i := 1948) (by decide +kernel) (by decide +kernel)
theorem w_1950 : Cond.code ⟨"TapeStudioModel","isLetter","(I)Z"⟩ prog_13_method_43_code 1 (Option.some .boolean) ∈ m_big := m_big_mem (i := 1950) (by decide +kernel) (by decide +kernel)
theorem w_1949 : Cond.static ⟨"TapeStudioModel","isLetter","(I)Z"⟩ ∈ m_big := m_big_mem (i := 1949) (by decide +kernel) (by decide +kernel)
theorem lm_X11_381 : m_MS RX11 381 yX11_isLetter cX11_isLetter 1 (some .boolean) 1 := ⟨⟨Or.inl w_1948, w_135, w_1950, by decide +kernel, by decide⟩, w_1949⟩
theorem lp_X11_378 : m_PL RX11 378 11 32 .int false := ⟨RX11, TX11, 92, tyX11, rfl, rfl, by decide, by decide, uw_11, Or.inl w_1516, rfl, (fun q => by cases q), by decide +kernel, tyX11_ok, nmX11⟩
theorem w_1515 : Cond.fieldLink "TapeStudioModel" 375 "TapeStudioModel" "at0" "I" ∈ m_big := m_big_mem (i := 1515) (by decide +kernel) (by decide +kernel)
theorem lf_X11_375 : m_FL RX11 375 11 31 := ⟨RX11, TX11, 92, rfl, rfl, by decide, by decide, uw_11, Or.inl w_1515⟩
theorem lp_X11_375 : m_PL RX11 375 11 31 .int false := ⟨RX11, TX11, 92, tyX11, rfl, rfl, by decide, by decide, uw_11, Or.inl w_1515, rfl, (fun q => by cases q), by decide +kernel, tyX11_ok, nmX11⟩
theorem w_1517 : Cond.fieldLink "TapeStudioModel" 384 "TapeStudioModel" "faultAt" "I" ∈ m_big := m_big_mem (i := 1517) (by decide +kernel) (by decide +kernel)
theorem lf_X11_384 : m_FL RX11 384 11 33 := ⟨RX11, TX11, 92, rfl, rfl, by decide, by decide, uw_11, Or.inl w_1517⟩
theorem lp_X11_384 : m_PL RX11 384 11 33 .int false := ⟨RX11, TX11, 92, tyX11, rfl, rfl, by decide, by decide, uw_11, Or.inl w_1517, rfl, (fun q => by cases q), by decide +kernel, tyX11_ok, nmX11⟩
theorem w_1955 : Cond.methodLink "TapeStudioModel" 387 ⟨"java/lang/String","length","()I"⟩ ∈ m_big := m_big_mem (i := 1955) (by decide +kernel) (by decide +kernel)
theorem lm_X11_387 : m_MV RX11 387 yJ0_length_8abf5 cJ0_length_8abf5 1 (some .int) 0 := ⟨⟨Or.inl w_1955, w_140, w_881, by decide +kernel, by decide⟩, w_879, w_880⟩
theorem w_1956 : Cond.methodLink "TapeStudioModel" 390 ⟨"java/lang/String","charAt","(I)C"⟩ ∈ m_big := m_big_mem (i := 1956) (by decide +kernel) (by decide +kernel)
theorem lm_X11_390 : m_MV RX11 390 yJ0_charAt_5068e cJ0_charAt_5068e 2 (some .char) 1 := ⟨⟨Or.inl w_1956, w_140, w_891, by decide +kernel, by decide⟩, w_889, w_890⟩
theorem w_1944 : Cond.methodLink "TapeStudioModel" 394 ⟨"TapeStudioModel","skips","()V"⟩ ∈ m_big := m_big_mem (i := 1944) (by decide +kernel) (by decide +kernel)
theorem w_1947 : Cond.code ⟨"TapeStudioModel","skips","()V"⟩ prog_13_method_45_code 1 (Option.none : Option Jvm.ClassFile.FieldType) ∈ m_big := m_big_mem (i := 1947) (by decide +kernel) (by decide +kernel)
theorem w_1946 : Cond.instanceMethod ⟨"TapeStudioModel","skips","()V"⟩ ∈ m_big := m_big_mem (i := 1946) (by decide +kernel) (by decide +kernel)
theorem w_78 : Cond.selects "TapeStudioModel" ⟨"TapeStudioModel","skips","()V"⟩ ⟨"TapeStudioModel","skips","()V"⟩ ∈ m_big := m_big_mem (i := 78) (by decide +kernel) (by decide +kernel)
theorem lm_X11_394 : m_MV RX11 394 yX11_skips cX11_skips 1 none 0 := ⟨⟨Or.inl w_1944, w_135, w_1947, by decide +kernel, by decide⟩, w_1946, w_78⟩
theorem w_1951 : Cond.methodLink "TapeStudioModel" 397 ⟨"TapeStudioModel","isWord","(Ljava/lang/String;)Z"⟩ ∈ m_big := m_big_mem (i := 1951) (by decide +kernel) (by decide +kernel)
theorem w_1954 : Cond.code ⟨"TapeStudioModel","isWord","(Ljava/lang/String;)Z"⟩ prog_13_method_47_code 3 (Option.some .boolean) ∈ m_big := m_big_mem (i := 1954) (by decide +kernel) (by decide +kernel)
theorem w_1953 : Cond.instanceMethod ⟨"TapeStudioModel","isWord","(Ljava/lang/String;)Z"⟩ ∈ m_big := m_big_mem (i := 1953) (by decide +kernel) (by decide +kernel)
theorem w_79 : Cond.selects "TapeStudioModel" ⟨"TapeStudioModel","isWord","(Ljava/lang/String;)Z"⟩ ⟨"TapeStudioModel","isWord","(Ljava/lang/String;)Z"⟩ ∈ m_big := m_big_mem (i := 79) (by decide +kernel) (by decide +kernel)
theorem lm_X11_397 : m_MV RX11 397 yX11_isWord cX11_isWord 3 (some .boolean) 1 := ⟨⟨Or.inl w_1951, w_135, w_1954, by decide +kernel, by decide⟩, w_1953, w_79⟩
theorem w_1969 : Cond.methodLink "TapeStudioModel" 404 ⟨"TapeStudioModel","goesOn","()V"⟩ ∈ m_big := m_big_mem (i := 1969) (by decide +kernel) (by decide +kernel)
theorem w_1972 : Cond.code ⟨"TapeStudioModel","goesOn","()V"⟩ prog_13_method_48_code 1 (Option.none : Option Jvm.ClassFile.FieldType) ∈ m_big := m_big_mem (i := 1972) (by decide +kernel) (by decide +kernel)
theorem w_1971 : Cond.instanceMethod ⟨"TapeStudioModel","goesOn","()V"⟩ ∈ m_big := m_big_mem (i := 1971) (by decide +kernel) (by decide +kernel)
theorem w_83 : Cond.selects "TapeStudioModel" ⟨"TapeStudioModel","goesOn","()V"⟩ ⟨"TapeStudioModel","goesOn","()V"⟩ ∈ m_big := m_big_mem (i := 83) (by decide +kernel) (by decide +kernel)
theorem lm_X11_404 : m_MV RX11 404 yX11_goesOn cX11_goesOn 1 none 0 := ⟨⟨Or.inl w_1969, w_135, w_1972, by decide +kernel, by decide⟩, w_1971, w_83⟩
theorem w_1961 : Cond.methodLink "TapeStudioModel" 401 ⟨"TapeStudioModel","fails","()V"⟩ ∈ m_big := m_big_mem (i := 1961) (by decide +kernel) (by decide +kernel)
theorem w_1964 : Cond.code ⟨"TapeStudioModel","fails","()V"⟩ prog_13_method_46_code 1 (Option.none : Option Jvm.ClassFile.FieldType) ∈ m_big := m_big_mem (i := 1964) (by decide +kernel) (by decide +kernel)
theorem w_1963 : Cond.instanceMethod ⟨"TapeStudioModel","fails","()V"⟩ ∈ m_big := m_big_mem (i := 1963) (by decide +kernel) (by decide +kernel)
theorem w_81 : Cond.selects "TapeStudioModel" ⟨"TapeStudioModel","fails","()V"⟩ ⟨"TapeStudioModel","fails","()V"⟩ ∈ m_big := m_big_mem (i := 81) (by decide +kernel) (by decide +kernel)
theorem lm_X11_401 : m_MV RX11 401 yX11_fails cX11_fails 1 none 0 := ⟨⟨Or.inl w_1961, w_135, w_1964, by decide +kernel, by decide⟩, w_1963, w_81⟩
theorem w_1985 : Cond.methodLink "TapeStudioModel" 407 ⟨"TapeStudioModel","isDigit","(I)Z"⟩ ∈ m_big := m_big_mem (i := 1985) (by decide +kernel) (by decide +kernel)
theorem w_1987 : Cond.code ⟨"TapeStudioModel","isDigit","(I)Z"⟩ prog_13_method_44_code 1 (Option.some .boolean) ∈ m_big := m_big_mem (i := 1987) (by decide +kernel) (by decide +kernel)
theorem w_1986 : Cond.static ⟨"TapeStudioModel","isDigit","(I)Z"⟩ ∈ m_big := m_big_mem (i := 1986) (by decide +kernel) (by decide +kernel)
theorem lm_X11_407 : m_MS RX11 407 yX11_isDigit cX11_isDigit 1 (some .boolean) 1 := ⟨⟨Or.inl w_1985, w_135, w_1987, by decide +kernel, by decide⟩, w_1986⟩
theorem w_1988 : Cond.constant "TapeStudioModel" 410 (Int32.ofInt (99999)) ∈ m_nest := m_nest_mem (i := 1988) (by decide +kernel) (by decide +kernel)
theorem w_1989 : Cond.constant "TapeStudioModel" 411 (Int32.ofInt (999999)) ∈ m_nest := m_nest_mem (i := 1989) (by decide +kernel) (by decide +kernel)
theorem lf_X11_175 : m_FL RX11 175 11 49 := ⟨RX11, TX11, 92, rfl, rfl, by decide, by decide, uw_11, Or.inl w_1533⟩
theorem lf_X11_148 : m_FL RX11 148 11 48 := ⟨RX11, TX11, 92, rfl, rfl, by decide, by decide, uw_11, Or.inl w_1532⟩
theorem w_1531 : Cond.fieldLink "TapeStudioModel" 412 "TapeStudioModel" "words" "I" ∈ m_big := m_big_mem (i := 1531) (by decide +kernel) (by decide +kernel)
theorem lf_X11_412 : m_FL RX11 412 11 47 := ⟨RX11, TX11, 92, rfl, rfl, by decide, by decide, uw_11, Or.inl w_1531⟩
theorem lf_X11_116 : m_FL RX11 116 11 45 := ⟨RX11, TX11, 92, rfl, rfl, by decide, by decide, uw_11, Or.inl w_1529⟩
theorem lf_X11_113 : m_FL RX11 113 11 44 := ⟨RX11, TX11, 92, rfl, rfl, by decide, by decide, uw_11, Or.inl w_1528⟩
theorem lf_X11_119 : m_FL RX11 119 11 46 := ⟨RX11, TX11, 92, rfl, rfl, by decide, by decide, uw_11, Or.inl w_1530⟩
theorem w_1977 : Cond.methodLink "TapeStudioModel" 415 ⟨"TapeStudioModel","wordKnown","()I"⟩ ∈ m_big := m_big_mem (i := 1977) (by decide +kernel) (by decide +kernel)
theorem w_1980 : Cond.code ⟨"TapeStudioModel","wordKnown","()I"⟩ prog_13_method_54_code 4 (Option.some .int) ∈ m_big := m_big_mem (i := 1980) (by decide +kernel) (by decide +kernel)
theorem w_1979 : Cond.instanceMethod ⟨"TapeStudioModel","wordKnown","()I"⟩ ∈ m_big := m_big_mem (i := 1979) (by decide +kernel) (by decide +kernel)
theorem w_85 : Cond.selects "TapeStudioModel" ⟨"TapeStudioModel","wordKnown","()I"⟩ ⟨"TapeStudioModel","wordKnown","()I"⟩ ∈ m_big := m_big_mem (i := 85) (by decide +kernel) (by decide +kernel)
theorem lm_X11_415 : m_MV RX11 415 yX11_wordKnown cX11_wordKnown 4 (some .int) 0 := ⟨⟨Or.inl w_1977, w_135, w_1980, by decide +kernel, by decide⟩, w_1979, w_85⟩
theorem w_1965 : Cond.methodLink "TapeStudioModel" 418 ⟨"TapeStudioModel","word","(Ljava/lang/String;)V"⟩ ∈ m_big := m_big_mem (i := 1965) (by decide +kernel) (by decide +kernel)
theorem w_1968 : Cond.code ⟨"TapeStudioModel","word","(Ljava/lang/String;)V"⟩ prog_13_method_49_code 2 (Option.none : Option Jvm.ClassFile.FieldType) ∈ m_big := m_big_mem (i := 1968) (by decide +kernel) (by decide +kernel)
theorem w_1967 : Cond.instanceMethod ⟨"TapeStudioModel","word","(Ljava/lang/String;)V"⟩ ∈ m_big := m_big_mem (i := 1967) (by decide +kernel) (by decide +kernel)
theorem w_82 : Cond.selects "TapeStudioModel" ⟨"TapeStudioModel","word","(Ljava/lang/String;)V"⟩ ⟨"TapeStudioModel","word","(Ljava/lang/String;)V"⟩ ∈ m_big := m_big_mem (i := 82) (by decide +kernel) (by decide +kernel)
theorem lm_X11_418 : m_MV RX11 418 yX11_word cX11_word 2 none 1 := ⟨⟨Or.inl w_1965, w_135, w_1968, by decide +kernel, by decide⟩, w_1967, w_82⟩
theorem lf_X11_84 : m_FL RX11 84 11 34 := ⟨RX11, TX11, 92, rfl, rfl, by decide, by decide, uw_11, Or.inl w_1518⟩
theorem w_1973 : Cond.methodLink "TapeStudioModel" 422 ⟨"TapeStudioModel","made","()I"⟩ ∈ m_big := m_big_mem (i := 1973) (by decide +kernel) (by decide +kernel)
theorem w_1976 : Cond.code ⟨"TapeStudioModel","made","()I"⟩ prog_13_method_55_code 2 (Option.some .int) ∈ m_big := m_big_mem (i := 1976) (by decide +kernel) (by decide +kernel)
theorem w_1975 : Cond.instanceMethod ⟨"TapeStudioModel","made","()I"⟩ ∈ m_big := m_big_mem (i := 1975) (by decide +kernel) (by decide +kernel)
theorem w_84 : Cond.selects "TapeStudioModel" ⟨"TapeStudioModel","made","()I"⟩ ⟨"TapeStudioModel","made","()I"⟩ ∈ m_big := m_big_mem (i := 84) (by decide +kernel) (by decide +kernel)
theorem lm_X11_422 : m_MV RX11 422 yX11_made cX11_made 2 (some .int) 0 := ⟨⟨Or.inl w_1973, w_135, w_1976, by decide +kernel, by decide⟩, w_1975, w_84⟩
theorem w_1981 : Cond.methodLink "TapeStudioModel" 425 ⟨"TapeStudioModel","number","(II)I"⟩ ∈ m_big := m_big_mem (i := 1981) (by decide +kernel) (by decide +kernel)
theorem w_1984 : Cond.code ⟨"TapeStudioModel","number","(II)I"⟩ prog_13_method_52_code 5 (Option.some .int) ∈ m_big := m_big_mem (i := 1984) (by decide +kernel) (by decide +kernel)
theorem w_1983 : Cond.instanceMethod ⟨"TapeStudioModel","number","(II)I"⟩ ∈ m_big := m_big_mem (i := 1983) (by decide +kernel) (by decide +kernel)
theorem w_86 : Cond.selects "TapeStudioModel" ⟨"TapeStudioModel","number","(II)I"⟩ ⟨"TapeStudioModel","number","(II)I"⟩ ∈ m_big := m_big_mem (i := 86) (by decide +kernel) (by decide +kernel)
theorem lm_X11_425 : m_MV RX11 425 yX11_number cX11_number 5 (some .int) 2 := ⟨⟨Or.inl w_1981, w_135, w_1984, by decide +kernel, by decide⟩, w_1983, w_86⟩
theorem lf_X11_89 : m_FL RX11 89 11 35 := ⟨RX11, TX11, 92, rfl, rfl, by decide, by decide, uw_11, Or.inl w_1519⟩
theorem lf_X11_92 : m_FL RX11 92 11 36 := ⟨RX11, TX11, 92, rfl, rfl, by decide, by decide, uw_11, Or.inl w_1520⟩
theorem lf_X11_95 : m_FL RX11 95 11 37 := ⟨RX11, TX11, 92, rfl, rfl, by decide, by decide, uw_11, Or.inl w_1521⟩
theorem lf_X11_98 : m_FL RX11 98 11 38 := ⟨RX11, TX11, 92, rfl, rfl, by decide, by decide, uw_11, Or.inl w_1522⟩
theorem lf_X11_101 : m_FL RX11 101 11 39 := ⟨RX11, TX11, 92, rfl, rfl, by decide, by decide, uw_11, Or.inl w_1523⟩
theorem lf_X11_107 : m_FL RX11 107 11 41 := ⟨RX11, TX11, 92, rfl, rfl, by decide, by decide, uw_11, Or.inl w_1525⟩
theorem lf_X11_110 : m_FL RX11 110 11 42 := ⟨RX11, TX11, 92, rfl, rfl, by decide, by decide, uw_11, Or.inl w_1526⟩
theorem w_1990 : Cond.methodLink "TapeStudioModel" 428 ⟨"TapeStudioModel","sign","(I)V"⟩ ∈ m_big := m_big_mem (i := 1990) (by decide +kernel) (by decide +kernel)
theorem w_1993 : Cond.code ⟨"TapeStudioModel","sign","(I)V"⟩ prog_13_method_50_code 2 (Option.none : Option Jvm.ClassFile.FieldType) ∈ m_big := m_big_mem (i := 1993) (by decide +kernel) (by decide +kernel)
theorem w_1992 : Cond.instanceMethod ⟨"TapeStudioModel","sign","(I)V"⟩ ∈ m_big := m_big_mem (i := 1992) (by decide +kernel) (by decide +kernel)
theorem w_87 : Cond.selects "TapeStudioModel" ⟨"TapeStudioModel","sign","(I)V"⟩ ⟨"TapeStudioModel","sign","(I)V"⟩ ∈ m_big := m_big_mem (i := 87) (by decide +kernel) (by decide +kernel)
theorem lm_X11_428 : m_MV RX11 428 yX11_sign cX11_sign 2 none 1 := ⟨⟨Or.inl w_1990, w_135, w_1993, by decide +kernel, by decide⟩, w_1992, w_87⟩
theorem w_1998 : Cond.methodLink "TapeStudioModel" 434 ⟨"TapeStudioModel","isSign","(I)Z"⟩ ∈ m_big := m_big_mem (i := 1998) (by decide +kernel) (by decide +kernel)
theorem w_2001 : Cond.code ⟨"TapeStudioModel","isSign","(I)Z"⟩ prog_13_method_51_code 2 (Option.some .boolean) ∈ m_big := m_big_mem (i := 2001) (by decide +kernel) (by decide +kernel)
theorem w_2000 : Cond.instanceMethod ⟨"TapeStudioModel","isSign","(I)Z"⟩ ∈ m_big := m_big_mem (i := 2000) (by decide +kernel) (by decide +kernel)
theorem w_89 : Cond.selects "TapeStudioModel" ⟨"TapeStudioModel","isSign","(I)Z"⟩ ⟨"TapeStudioModel","isSign","(I)Z"⟩ ∈ m_big := m_big_mem (i := 89) (by decide +kernel) (by decide +kernel)
theorem lm_X11_434 : m_MV RX11 434 yX11_isSign cX11_isSign 2 (some .boolean) 1 := ⟨⟨Or.inl w_1998, w_135, w_2001, by decide +kernel, by decide⟩, w_2000, w_89⟩
theorem w_1957 : Cond.methodLink "TapeStudioModel" 431 ⟨"TapeStudioModel","puts","(II)V"⟩ ∈ m_big := m_big_mem (i := 1957) (by decide +kernel) (by decide +kernel)
theorem w_1960 : Cond.code ⟨"TapeStudioModel","puts","(II)V"⟩ prog_13_method_57_code 7 (Option.none : Option Jvm.ClassFile.FieldType) ∈ m_big := m_big_mem (i := 1960) (by decide +kernel) (by decide +kernel)
theorem w_1959 : Cond.instanceMethod ⟨"TapeStudioModel","puts","(II)V"⟩ ∈ m_big := m_big_mem (i := 1959) (by decide +kernel) (by decide +kernel)
theorem w_80 : Cond.selects "TapeStudioModel" ⟨"TapeStudioModel","puts","(II)V"⟩ ⟨"TapeStudioModel","puts","(II)V"⟩ ∈ m_big := m_big_mem (i := 80) (by decide +kernel) (by decide +kernel)
theorem lm_X11_431 : m_MV RX11 431 yX11_puts cX11_puts 7 none 2 := ⟨⟨Or.inl w_1957, w_135, w_1960, by decide +kernel, by decide⟩, w_1959, w_80⟩
theorem lf_X11_104 : m_FL RX11 104 11 40 := ⟨RX11, TX11, 92, rfl, rfl, by decide, by decide, uw_11, Or.inl w_1524⟩
theorem w_2015 : Cond.methodLink "TapeStudioModel" 446 ⟨"TapeStudioModel","numbers","(II)V"⟩ ∈ m_big := m_big_mem (i := 2015) (by decide +kernel) (by decide +kernel)
theorem w_2018 : Cond.code ⟨"TapeStudioModel","numbers","(II)V"⟩ prog_13_method_59_code 3 (Option.none : Option Jvm.ClassFile.FieldType) ∈ m_big := m_big_mem (i := 2018) (by decide +kernel) (by decide +kernel)
theorem w_2017 : Cond.instanceMethod ⟨"TapeStudioModel","numbers","(II)V"⟩ ∈ m_big := m_big_mem (i := 2017) (by decide +kernel) (by decide +kernel)
theorem w_93 : Cond.selects "TapeStudioModel" ⟨"TapeStudioModel","numbers","(II)V"⟩ ⟨"TapeStudioModel","numbers","(II)V"⟩ ∈ m_big := m_big_mem (i := 93) (by decide +kernel) (by decide +kernel)
theorem lm_X11_446 : m_MV RX11 446 yX11_numbers cX11_numbers 3 none 2 := ⟨⟨Or.inl w_2015, w_135, w_2018, by decide +kernel, by decide⟩, w_2017, w_93⟩
theorem lp_X11_412 : m_PL RX11 412 11 47 .int false := ⟨RX11, TX11, 92, tyX11, rfl, rfl, by decide, by decide, uw_11, Or.inl w_1531, rfl, (fun q => by cases q), by decide +kernel, tyX11_ok, nmX11⟩
theorem w_2011 : Cond.methodLink "TapeStudioModel" 443 ⟨"TapeStudioModel","verbAt","()I"⟩ ∈ m_big := m_big_mem (i := 2011) (by decide +kernel) (by decide +kernel)
theorem w_2014 : Cond.code ⟨"TapeStudioModel","verbAt","()I"⟩ prog_13_method_56_code 2 (Option.some .int) ∈ m_big := m_big_mem (i := 2014) (by decide +kernel) (by decide +kernel)
theorem w_2013 : Cond.instanceMethod ⟨"TapeStudioModel","verbAt","()I"⟩ ∈ m_big := m_big_mem (i := 2013) (by decide +kernel) (by decide +kernel)
theorem w_92 : Cond.selects "TapeStudioModel" ⟨"TapeStudioModel","verbAt","()I"⟩ ⟨"TapeStudioModel","verbAt","()I"⟩ ∈ m_big := m_big_mem (i := 92) (by decide +kernel) (by decide +kernel)
theorem lm_X11_443 : m_MV RX11 443 yX11_verbAt cX11_verbAt 2 (some .int) 0 := ⟨⟨Or.inl w_2011, w_135, w_2014, by decide +kernel, by decide⟩, w_2013, w_92⟩
theorem w_2006 : Cond.constantLong "TapeStudioModel" 437 (Int64.ofInt (6)) ∈ m_nest := m_nest_mem (i := 2006) (by decide +kernel) (by decide +kernel)
theorem w_2007 : Cond.methodLink "TapeStudioModel" 439 ⟨"TapeStudioModel","isBarred","()Z"⟩ ∈ m_big := m_big_mem (i := 2007) (by decide +kernel) (by decide +kernel)
theorem w_2010 : Cond.code ⟨"TapeStudioModel","isBarred","()Z"⟩ prog_13_method_53_code 2 (Option.some .boolean) ∈ m_big := m_big_mem (i := 2010) (by decide +kernel) (by decide +kernel)
theorem w_2009 : Cond.instanceMethod ⟨"TapeStudioModel","isBarred","()Z"⟩ ∈ m_big := m_big_mem (i := 2009) (by decide +kernel) (by decide +kernel)
theorem w_91 : Cond.selects "TapeStudioModel" ⟨"TapeStudioModel","isBarred","()Z"⟩ ⟨"TapeStudioModel","isBarred","()Z"⟩ ∈ m_big := m_big_mem (i := 91) (by decide +kernel) (by decide +kernel)
theorem lm_X11_439 : m_MV RX11 439 yX11_isBarred cX11_isBarred 2 (some .boolean) 0 := ⟨⟨Or.inl w_2007, w_135, w_2010, by decide +kernel, by decide⟩, w_2009, w_91⟩
theorem w_1994 : Cond.methodLink "TapeStudioModel" 449 ⟨"TapeStudioModel","again","()V"⟩ ∈ m_big := m_big_mem (i := 1994) (by decide +kernel) (by decide +kernel)
theorem w_1997 : Cond.code ⟨"TapeStudioModel","again","()V"⟩ prog_13_method_58_code 3 (Option.none : Option Jvm.ClassFile.FieldType) ∈ m_big := m_big_mem (i := 1997) (by decide +kernel) (by decide +kernel)
theorem w_1996 : Cond.instanceMethod ⟨"TapeStudioModel","again","()V"⟩ ∈ m_big := m_big_mem (i := 1996) (by decide +kernel) (by decide +kernel)
theorem w_88 : Cond.selects "TapeStudioModel" ⟨"TapeStudioModel","again","()V"⟩ ⟨"TapeStudioModel","again","()V"⟩ ∈ m_big := m_big_mem (i := 88) (by decide +kernel) (by decide +kernel)
theorem lm_X11_449 : m_MV RX11 449 yX11_again cX11_again 3 none 0 := ⟨⟨Or.inl w_1994, w_135, w_1997, by decide +kernel, by decide⟩, w_1996, w_88⟩
theorem w_2002 : Cond.methodLink "TapeStudioModel" 451 ⟨"TapeStudioModel","makes","()V"⟩ ∈ m_big := m_big_mem (i := 2002) (by decide +kernel) (by decide +kernel)
theorem w_2005 : Cond.code ⟨"TapeStudioModel","makes","()V"⟩ prog_13_method_60_code 5 (Option.none : Option Jvm.ClassFile.FieldType) ∈ m_big := m_big_mem (i := 2005) (by decide +kernel) (by decide +kernel)
theorem w_2004 : Cond.instanceMethod ⟨"TapeStudioModel","makes","()V"⟩ ∈ m_big := m_big_mem (i := 2004) (by decide +kernel) (by decide +kernel)
theorem w_90 : Cond.selects "TapeStudioModel" ⟨"TapeStudioModel","makes","()V"⟩ ⟨"TapeStudioModel","makes","()V"⟩ ∈ m_big := m_big_mem (i := 90) (by decide +kernel) (by decide +kernel)
theorem lm_X11_451 : m_MV RX11 451 yX11_makes cX11_makes 5 none 0 := ⟨⟨Or.inl w_2002, w_135, w_2005, by decide +kernel, by decide⟩, w_2004, w_90⟩
theorem w_1940 : Cond.methodLink "TapeStudioModel" 454 ⟨"TapeStudioModel","reads","()V"⟩ ∈ m_big := m_big_mem (i := 1940) (by decide +kernel) (by decide +kernel)
theorem w_1943 : Cond.code ⟨"TapeStudioModel","reads","()V"⟩ prog_13_method_61_code 1 (Option.none : Option Jvm.ClassFile.FieldType) ∈ m_big := m_big_mem (i := 1943) (by decide +kernel) (by decide +kernel)
theorem w_1942 : Cond.instanceMethod ⟨"TapeStudioModel","reads","()V"⟩ ∈ m_big := m_big_mem (i := 1942) (by decide +kernel) (by decide +kernel)
theorem w_77 : Cond.selects "TapeStudioModel" ⟨"TapeStudioModel","reads","()V"⟩ ⟨"TapeStudioModel","reads","()V"⟩ ∈ m_big := m_big_mem (i := 77) (by decide +kernel) (by decide +kernel)
theorem lm_X11_454 : m_MV RX11 454 yX11_reads cX11_reads 1 none 0 := ⟨⟨Or.inl w_1940, w_135, w_1943, by decide +kernel, by decide⟩, w_1942, w_77⟩
theorem w_1527 : Cond.fieldLink "TapeStudioModel" 457 "TapeStudioModel" "scores" "I" ∈ m_big := m_big_mem (i := 1527) (by decide +kernel) (by decide +kernel)
theorem lf_X11_457 : m_FL RX11 457 11 43 := ⟨RX11, TX11, 92, rfl, rfl, by decide, by decide, uw_11, Or.inl w_1527⟩
theorem lp_X11_457 : m_PL RX11 457 11 43 .int false := ⟨RX11, TX11, 92, tyX11, rfl, rfl, by decide, by decide, uw_11, Or.inl w_1527, rfl, (fun q => by cases q), by decide +kernel, tyX11_ok, nmX11⟩
theorem lf_X11_181 : m_FL RX11 181 11 51 := ⟨RX11, TX11, 92, rfl, rfl, by decide, by decide, uw_11, Or.inl w_1535⟩
theorem lf_X11_178 : m_FL RX11 178 11 50 := ⟨RX11, TX11, 92, rfl, rfl, by decide, by decide, uw_11, Or.inl w_1534⟩
theorem lf_X11_184 : m_FL RX11 184 11 52 := ⟨RX11, TX11, 92, rfl, rfl, by decide, by decide, uw_11, Or.inl w_1536⟩
theorem w_2047 : Cond.methodLink "TapeStudioModel" 460 ⟨"TapeStudioModel","stripOf","(III)I"⟩ ∈ m_big := m_big_mem (i := 2047) (by decide +kernel) (by decide +kernel)
theorem w_2050 : Cond.code ⟨"TapeStudioModel","stripOf","(III)I"⟩ prog_13_method_66_code 5 (Option.some .int) ∈ m_big := m_big_mem (i := 2050) (by decide +kernel) (by decide +kernel)
theorem w_2049 : Cond.instanceMethod ⟨"TapeStudioModel","stripOf","(III)I"⟩ ∈ m_big := m_big_mem (i := 2049) (by decide +kernel) (by decide +kernel)
theorem w_99 : Cond.selects "TapeStudioModel" ⟨"TapeStudioModel","stripOf","(III)I"⟩ ⟨"TapeStudioModel","stripOf","(III)I"⟩ ∈ m_big := m_big_mem (i := 99) (by decide +kernel) (by decide +kernel)
theorem lm_X11_460 : m_MV RX11 460 yX11_stripOf cX11_stripOf 5 (some .int) 3 := ⟨⟨Or.inl w_2047, w_135, w_2050, by decide +kernel, by decide⟩, w_2049, w_99⟩
theorem w_2059 : Cond.constantLong "TapeStudioModel" 463 (Int64.ofInt (1500)) ∈ m_nest := m_nest_mem (i := 2059) (by decide +kernel) (by decide +kernel)
theorem w_2076 : Cond.constantLong "TapeStudioModel" 465 (Int64.ofInt (256)) ∈ m_nest := m_nest_mem (i := 2076) (by decide +kernel) (by decide +kernel)
theorem lf_X11_191 : m_FL RX11 191 11 54 := ⟨RX11, TX11, 92, rfl, rfl, by decide, by decide, uw_11, Or.inl w_1538⟩
theorem w_1542 : Cond.fieldLink "TapeStudioModel" 467 "TapeStudioModel" "layings" "I" ∈ m_big := m_big_mem (i := 1542) (by decide +kernel) (by decide +kernel)
theorem lf_X11_467 : m_FL RX11 467 11 58 := ⟨RX11, TX11, 92, rfl, rfl, by decide, by decide, uw_11, Or.inl w_1542⟩
theorem lf_X11_194 : m_FL RX11 194 11 55 := ⟨RX11, TX11, 92, rfl, rfl, by decide, by decide, uw_11, Or.inl w_1539⟩
theorem lf_X11_197 : m_FL RX11 197 11 56 := ⟨RX11, TX11, 92, rfl, rfl, by decide, by decide, uw_11, Or.inl w_1540⟩
theorem lf_X11_200 : m_FL RX11 200 11 57 := ⟨RX11, TX11, 92, rfl, rfl, by decide, by decide, uw_11, Or.inl w_1541⟩
theorem lp_X11_467 : m_PL RX11 467 11 58 .int false := ⟨RX11, TX11, 92, tyX11, rfl, rfl, by decide, by decide, uw_11, Or.inl w_1542, rfl, (fun q => by cases q), by decide +kernel, tyX11_ok, nmX11⟩
theorem lf_X11_187 : m_FL RX11 187 11 53 := ⟨RX11, TX11, 92, rfl, rfl, by decide, by decide, uw_11, Or.inl w_1537⟩
theorem w_1543 : Cond.fieldLink "TapeStudioModel" 470 "TapeStudioModel" "pieceLong" "I" ∈ m_big := m_big_mem (i := 1543) (by decide +kernel) (by decide +kernel)
theorem lf_X11_470 : m_FL RX11 470 11 59 := ⟨RX11, TX11, 92, rfl, rfl, by decide, by decide, uw_11, Or.inl w_1543⟩
theorem lp_X11_470 : m_PL RX11 470 11 59 .int false := ⟨RX11, TX11, 92, tyX11, rfl, rfl, by decide, by decide, uw_11, Or.inl w_1543, rfl, (fun q => by cases q), by decide +kernel, tyX11_ok, nmX11⟩
theorem w_2043 : Cond.methodLink "TapeStudioModel" 473 ⟨"TapeStudioModel","takes","(III)Z"⟩ ∈ m_big := m_big_mem (i := 2043) (by decide +kernel) (by decide +kernel)
theorem w_2046 : Cond.code ⟨"TapeStudioModel","takes","(III)Z"⟩ prog_13_method_67_code 5 (Option.some .boolean) ∈ m_big := m_big_mem (i := 2046) (by decide +kernel) (by decide +kernel)
theorem w_2045 : Cond.instanceMethod ⟨"TapeStudioModel","takes","(III)Z"⟩ ∈ m_big := m_big_mem (i := 2045) (by decide +kernel) (by decide +kernel)
theorem w_98 : Cond.selects "TapeStudioModel" ⟨"TapeStudioModel","takes","(III)Z"⟩ ⟨"TapeStudioModel","takes","(III)Z"⟩ ∈ m_big := m_big_mem (i := 98) (by decide +kernel) (by decide +kernel)
theorem lm_X11_473 : m_MV RX11 473 yX11_takes cX11_takes 5 (some .boolean) 3 := ⟨⟨Or.inl w_2043, w_135, w_2046, by decide +kernel, by decide⟩, w_2045, w_98⟩
theorem w_2051 : Cond.methodLink "TapeStudioModel" 477 ⟨"TapeStudioModel","cuts","(IIII)Z"⟩ ∈ m_big := m_big_mem (i := 2051) (by decide +kernel) (by decide +kernel)
theorem w_2054 : Cond.code ⟨"TapeStudioModel","cuts","(IIII)Z"⟩ prog_13_method_68_code 6 (Option.some .boolean) ∈ m_big := m_big_mem (i := 2054) (by decide +kernel) (by decide +kernel)
theorem w_2053 : Cond.instanceMethod ⟨"TapeStudioModel","cuts","(IIII)Z"⟩ ∈ m_big := m_big_mem (i := 2053) (by decide +kernel) (by decide +kernel)
theorem w_100 : Cond.selects "TapeStudioModel" ⟨"TapeStudioModel","cuts","(IIII)Z"⟩ ⟨"TapeStudioModel","cuts","(IIII)Z"⟩ ∈ m_big := m_big_mem (i := 100) (by decide +kernel) (by decide +kernel)
theorem lm_X11_477 : m_MV RX11 477 yX11_cuts cX11_cuts 6 (some .boolean) 4 := ⟨⟨Or.inl w_2051, w_135, w_2054, by decide +kernel, by decide⟩, w_2053, w_100⟩
theorem w_2055 : Cond.methodLink "TapeStudioModel" 481 ⟨"TapeStudioModel","playsRow","(IIIII)Z"⟩ ∈ m_big := m_big_mem (i := 2055) (by decide +kernel) (by decide +kernel)
theorem w_2058 : Cond.code ⟨"TapeStudioModel","playsRow","(IIIII)Z"⟩ prog_13_method_69_code 10 (Option.some .boolean) ∈ m_big := m_big_mem (i := 2058) (by decide +kernel) (by decide +kernel)
theorem w_2057 : Cond.instanceMethod ⟨"TapeStudioModel","playsRow","(IIIII)Z"⟩ ∈ m_big := m_big_mem (i := 2057) (by decide +kernel) (by decide +kernel)
theorem w_101 : Cond.selects "TapeStudioModel" ⟨"TapeStudioModel","playsRow","(IIIII)Z"⟩ ⟨"TapeStudioModel","playsRow","(IIIII)Z"⟩ ∈ m_big := m_big_mem (i := 101) (by decide +kernel) (by decide +kernel)
theorem lm_X11_481 : m_MV RX11 481 yX11_playsRow cX11_playsRow 10 (some .boolean) 5 := ⟨⟨Or.inl w_2055, w_135, w_2058, by decide +kernel, by decide⟩, w_2057, w_101⟩
theorem w_2060 : Cond.methodLink "TapeStudioModel" 485 ⟨"TapeStudioModel","splices","(IIII)Z"⟩ ∈ m_big := m_big_mem (i := 2060) (by decide +kernel) (by decide +kernel)
theorem w_2063 : Cond.code ⟨"TapeStudioModel","splices","(IIII)Z"⟩ prog_13_method_70_code 7 (Option.some .boolean) ∈ m_big := m_big_mem (i := 2063) (by decide +kernel) (by decide +kernel)
theorem w_2062 : Cond.instanceMethod ⟨"TapeStudioModel","splices","(IIII)Z"⟩ ∈ m_big := m_big_mem (i := 2062) (by decide +kernel) (by decide +kernel)
theorem w_102 : Cond.selects "TapeStudioModel" ⟨"TapeStudioModel","splices","(IIII)Z"⟩ ⟨"TapeStudioModel","splices","(IIII)Z"⟩ ∈ m_big := m_big_mem (i := 102) (by decide +kernel) (by decide +kernel)
theorem lm_X11_485 : m_MV RX11 485 yX11_splices cX11_splices 7 (some .boolean) 4 := ⟨⟨Or.inl w_2060, w_135, w_2063, by decide +kernel, by decide⟩, w_2062, w_102⟩
theorem w_2064 : Cond.methodLink "TapeStudioModel" 488 ⟨"TapeStudioModel","loops","(III)Z"⟩ ∈ m_big := m_big_mem (i := 2064) (by decide +kernel) (by decide +kernel)
theorem w_2067 : Cond.code ⟨"TapeStudioModel","loops","(III)Z"⟩ prog_13_method_71_code 5 (Option.some .boolean) ∈ m_big := m_big_mem (i := 2067) (by decide +kernel) (by decide +kernel)
theorem w_2066 : Cond.instanceMethod ⟨"TapeStudioModel","loops","(III)Z"⟩ ∈ m_big := m_big_mem (i := 2066) (by decide +kernel) (by decide +kernel)
theorem w_103 : Cond.selects "TapeStudioModel" ⟨"TapeStudioModel","loops","(III)Z"⟩ ⟨"TapeStudioModel","loops","(III)Z"⟩ ∈ m_big := m_big_mem (i := 103) (by decide +kernel) (by decide +kernel)
theorem lm_X11_488 : m_MV RX11 488 yX11_loops cX11_loops 5 (some .boolean) 3 := ⟨⟨Or.inl w_2064, w_135, w_2067, by decide +kernel, by decide⟩, w_2066, w_103⟩
theorem w_2068 : Cond.methodLink "TapeStudioModel" 491 ⟨"TapeStudioModel","lists","(II)V"⟩ ∈ m_big := m_big_mem (i := 2068) (by decide +kernel) (by decide +kernel)
theorem w_2071 : Cond.code ⟨"TapeStudioModel","lists","(II)V"⟩ prog_13_method_65_code 4 (Option.none : Option Jvm.ClassFile.FieldType) ∈ m_big := m_big_mem (i := 2071) (by decide +kernel) (by decide +kernel)
theorem w_2070 : Cond.instanceMethod ⟨"TapeStudioModel","lists","(II)V"⟩ ∈ m_big := m_big_mem (i := 2070) (by decide +kernel) (by decide +kernel)
theorem w_104 : Cond.selects "TapeStudioModel" ⟨"TapeStudioModel","lists","(II)V"⟩ ⟨"TapeStudioModel","lists","(II)V"⟩ ∈ m_big := m_big_mem (i := 104) (by decide +kernel) (by decide +kernel)
theorem lm_X11_491 : m_MV RX11 491 yX11_lists cX11_lists 4 none 2 := ⟨⟨Or.inl w_2068, w_135, w_2071, by decide +kernel, by decide⟩, w_2070, w_104⟩
theorem w_2072 : Cond.methodLink "TapeStudioModel" 494 ⟨"TapeStudioModel","echoes","(III)V"⟩ ∈ m_big := m_big_mem (i := 2072) (by decide +kernel) (by decide +kernel)
theorem w_2075 : Cond.code ⟨"TapeStudioModel","echoes","(III)V"⟩ prog_13_method_72_code 5 (Option.none : Option Jvm.ClassFile.FieldType) ∈ m_big := m_big_mem (i := 2075) (by decide +kernel) (by decide +kernel)
theorem w_2074 : Cond.instanceMethod ⟨"TapeStudioModel","echoes","(III)V"⟩ ∈ m_big := m_big_mem (i := 2074) (by decide +kernel) (by decide +kernel)
theorem w_105 : Cond.selects "TapeStudioModel" ⟨"TapeStudioModel","echoes","(III)V"⟩ ⟨"TapeStudioModel","echoes","(III)V"⟩ ∈ m_big := m_big_mem (i := 105) (by decide +kernel) (by decide +kernel)
theorem lm_X11_494 : m_MV RX11 494 yX11_echoes cX11_echoes 5 none 3 := ⟨⟨Or.inl w_2072, w_135, w_2075, by decide +kernel, by decide⟩, w_2074, w_105⟩
theorem w_2077 : Cond.methodLink "TapeStudioModel" 498 ⟨"TapeStudioModel","filters","(IIIII)V"⟩ ∈ m_big := m_big_mem (i := 2077) (by decide +kernel) (by decide +kernel)
theorem w_2080 : Cond.code ⟨"TapeStudioModel","filters","(IIIII)V"⟩ prog_13_method_73_code 10 (Option.none : Option Jvm.ClassFile.FieldType) ∈ m_big := m_big_mem (i := 2080) (by decide +kernel) (by decide +kernel)
theorem w_2079 : Cond.instanceMethod ⟨"TapeStudioModel","filters","(IIIII)V"⟩ ∈ m_big := m_big_mem (i := 2079) (by decide +kernel) (by decide +kernel)
theorem w_106 : Cond.selects "TapeStudioModel" ⟨"TapeStudioModel","filters","(IIIII)V"⟩ ⟨"TapeStudioModel","filters","(IIIII)V"⟩ ∈ m_big := m_big_mem (i := 106) (by decide +kernel) (by decide +kernel)
theorem lm_X11_498 : m_MV RX11 498 yX11_filters cX11_filters 10 none 5 := ⟨⟨Or.inl w_2077, w_135, w_2080, by decide +kernel, by decide⟩, w_2079, w_106⟩
theorem w_2081 : Cond.methodLink "TapeStudioModel" 502 ⟨"TapeStudioModel","fades","(III)Z"⟩ ∈ m_big := m_big_mem (i := 2081) (by decide +kernel) (by decide +kernel)
theorem w_2084 : Cond.code ⟨"TapeStudioModel","fades","(III)Z"⟩ prog_13_method_74_code 6 (Option.some .boolean) ∈ m_big := m_big_mem (i := 2084) (by decide +kernel) (by decide +kernel)
theorem w_2083 : Cond.instanceMethod ⟨"TapeStudioModel","fades","(III)Z"⟩ ∈ m_big := m_big_mem (i := 2083) (by decide +kernel) (by decide +kernel)
theorem w_107 : Cond.selects "TapeStudioModel" ⟨"TapeStudioModel","fades","(III)Z"⟩ ⟨"TapeStudioModel","fades","(III)Z"⟩ ∈ m_big := m_big_mem (i := 107) (by decide +kernel) (by decide +kernel)
theorem lm_X11_502 : m_MV RX11 502 yX11_fades cX11_fades 6 (some .boolean) 3 := ⟨⟨Or.inl w_2081, w_135, w_2084, by decide +kernel, by decide⟩, w_2083, w_107⟩
theorem w_2085 : Cond.methodLink "TapeStudioModel" 505 ⟨"TapeStudioModel","lays","(II)Z"⟩ ∈ m_big := m_big_mem (i := 2085) (by decide +kernel) (by decide +kernel)
theorem w_2088 : Cond.code ⟨"TapeStudioModel","lays","(II)Z"⟩ prog_13_method_75_code 7 (Option.some .boolean) ∈ m_big := m_big_mem (i := 2088) (by decide +kernel) (by decide +kernel)
theorem w_2087 : Cond.instanceMethod ⟨"TapeStudioModel","lays","(II)Z"⟩ ∈ m_big := m_big_mem (i := 2087) (by decide +kernel) (by decide +kernel)
theorem w_108 : Cond.selects "TapeStudioModel" ⟨"TapeStudioModel","lays","(II)Z"⟩ ⟨"TapeStudioModel","lays","(II)Z"⟩ ∈ m_big := m_big_mem (i := 108) (by decide +kernel) (by decide +kernel)
theorem lm_X11_505 : m_MV RX11 505 yX11_lays cX11_lays 7 (some .boolean) 2 := ⟨⟨Or.inl w_2085, w_135, w_2088, by decide +kernel, by decide⟩, w_2087, w_108⟩
theorem w_2039 : Cond.methodLink "TapeStudioModel" 508 ⟨"TapeStudioModel","does","(III)Z"⟩ ∈ m_big := m_big_mem (i := 2039) (by decide +kernel) (by decide +kernel)
theorem w_2042 : Cond.code ⟨"TapeStudioModel","does","(III)Z"⟩ prog_13_method_76_code 6 (Option.some .boolean) ∈ m_big := m_big_mem (i := 2042) (by decide +kernel) (by decide +kernel)
theorem w_2041 : Cond.instanceMethod ⟨"TapeStudioModel","does","(III)Z"⟩ ∈ m_big := m_big_mem (i := 2041) (by decide +kernel) (by decide +kernel)
theorem w_97 : Cond.selects "TapeStudioModel" ⟨"TapeStudioModel","does","(III)Z"⟩ ⟨"TapeStudioModel","does","(III)Z"⟩ ∈ m_big := m_big_mem (i := 97) (by decide +kernel) (by decide +kernel)
theorem lm_X11_508 : m_MV RX11 508 yX11_does cX11_does 6 (some .boolean) 3 := ⟨⟨Or.inl w_2039, w_135, w_2042, by decide +kernel, by decide⟩, w_2041, w_97⟩
theorem w_2031 : Cond.methodLink "TapeStudioModel" 511 ⟨"TapeStudioModel","isScore","(I)Z"⟩ ∈ m_big := m_big_mem (i := 2031) (by decide +kernel) (by decide +kernel)
theorem w_2034 : Cond.code ⟨"TapeStudioModel","isScore","(I)Z"⟩ prog_13_method_64_code 2 (Option.some .boolean) ∈ m_big := m_big_mem (i := 2034) (by decide +kernel) (by decide +kernel)
theorem w_2033 : Cond.instanceMethod ⟨"TapeStudioModel","isScore","(I)Z"⟩ ∈ m_big := m_big_mem (i := 2033) (by decide +kernel) (by decide +kernel)
theorem w_95 : Cond.selects "TapeStudioModel" ⟨"TapeStudioModel","isScore","(I)Z"⟩ ⟨"TapeStudioModel","isScore","(I)Z"⟩ ∈ m_big := m_big_mem (i := 95) (by decide +kernel) (by decide +kernel)
theorem lm_X11_511 : m_MV RX11 511 yX11_isScore cX11_isScore 2 (some .boolean) 1 := ⟨⟨Or.inl w_2031, w_135, w_2034, by decide +kernel, by decide⟩, w_2033, w_95⟩
theorem lf_X11_210 : m_FL RX11 210 11 64 := ⟨RX11, TX11, 92, rfl, rfl, by decide, by decide, uw_11, Or.inl w_1548⟩
theorem lf_X11_213 : m_FL RX11 213 11 65 := ⟨RX11, TX11, 92, rfl, rfl, by decide, by decide, uw_11, Or.inl w_1549⟩
theorem lf_X11_232 : m_FL RX11 232 11 71 := ⟨RX11, TX11, 92, rfl, rfl, by decide, by decide, uw_11, Or.inl w_1555⟩
theorem lf_X11_216 : m_FL RX11 216 11 66 := ⟨RX11, TX11, 92, rfl, rfl, by decide, by decide, uw_11, Or.inl w_1550⟩
theorem lf_X11_219 : m_FL RX11 219 11 67 := ⟨RX11, TX11, 92, rfl, rfl, by decide, by decide, uw_11, Or.inl w_1551⟩
theorem lf_X11_222 : m_FL RX11 222 11 68 := ⟨RX11, TX11, 92, rfl, rfl, by decide, by decide, uw_11, Or.inl w_1552⟩
theorem lf_X11_225 : m_FL RX11 225 11 69 := ⟨RX11, TX11, 92, rfl, rfl, by decide, by decide, uw_11, Or.inl w_1553⟩
theorem lf_X11_228 : m_FL RX11 228 11 70 := ⟨RX11, TX11, 92, rfl, rfl, by decide, by decide, uw_11, Or.inl w_1554⟩
theorem lf_X11_207 : m_FL RX11 207 11 63 := ⟨RX11, TX11, 92, rfl, rfl, by decide, by decide, uw_11, Or.inl w_1547⟩
theorem w_1546 : Cond.fieldLink "TapeStudioModel" 522 "TapeStudioModel" "lastLayings" "I" ∈ m_big := m_big_mem (i := 1546) (by decide +kernel) (by decide +kernel)
theorem lp_X11_522 : m_PL RX11 522 11 62 .int false := ⟨RX11, TX11, 92, tyX11, rfl, rfl, by decide, by decide, uw_11, Or.inl w_1546, rfl, (fun q => by cases q), by decide +kernel, tyX11_ok, nmX11⟩
theorem w_2027 : Cond.methodLink "TapeStudioModel" 514 ⟨"TapeStudioModel","canMake","(II)Z"⟩ ∈ m_big := m_big_mem (i := 2027) (by decide +kernel) (by decide +kernel)
theorem w_2030 : Cond.code ⟨"TapeStudioModel","canMake","(II)Z"⟩ prog_13_method_78_code 3 (Option.some .boolean) ∈ m_big := m_big_mem (i := 2030) (by decide +kernel) (by decide +kernel)
theorem w_2029 : Cond.instanceMethod ⟨"TapeStudioModel","canMake","(II)Z"⟩ ∈ m_big := m_big_mem (i := 2029) (by decide +kernel) (by decide +kernel)
theorem w_94 : Cond.selects "TapeStudioModel" ⟨"TapeStudioModel","canMake","(II)Z"⟩ ⟨"TapeStudioModel","canMake","(II)Z"⟩ ∈ m_big := m_big_mem (i := 94) (by decide +kernel) (by decide +kernel)
theorem lm_X11_514 : m_MV RX11 514 yX11_canMake cX11_canMake 3 (some .boolean) 2 := ⟨⟨Or.inl w_2027, w_135, w_2030, by decide +kernel, by decide⟩, w_2029, w_94⟩
theorem w_2035 : Cond.methodLink "TapeStudioModel" 517 ⟨"TapeStudioModel","makes","(II)I"⟩ ∈ m_big := m_big_mem (i := 2035) (by decide +kernel) (by decide +kernel)
theorem w_2038 : Cond.code ⟨"TapeStudioModel","makes","(II)I"⟩ prog_13_method_77_code 4 (Option.some .int) ∈ m_big := m_big_mem (i := 2038) (by decide +kernel) (by decide +kernel)
theorem w_2037 : Cond.instanceMethod ⟨"TapeStudioModel","makes","(II)I"⟩ ∈ m_big := m_big_mem (i := 2037) (by decide +kernel) (by decide +kernel)
theorem w_96 : Cond.selects "TapeStudioModel" ⟨"TapeStudioModel","makes","(II)I"⟩ ⟨"TapeStudioModel","makes","(II)I"⟩ ∈ m_big := m_big_mem (i := 96) (by decide +kernel) (by decide +kernel)
theorem lm_X11_517 : m_MV RX11 517 yX11_makes_ cX11_makes_ 4 (some .int) 2 := ⟨⟨Or.inl w_2035, w_135, w_2038, by decide +kernel, by decide⟩, w_2037, w_96⟩
theorem w_1545 : Cond.fieldLink "TapeStudioModel" 519 "TapeStudioModel" "lastLong" "I" ∈ m_big := m_big_mem (i := 1545) (by decide +kernel) (by decide +kernel)
theorem lp_X11_519 : m_PL RX11 519 11 61 .int false := ⟨RX11, TX11, 92, tyX11, rfl, rfl, by decide, by decide, uw_11, Or.inl w_1545, rfl, (fun q => by cases q), by decide +kernel, tyX11_ok, nmX11⟩
theorem lf_X11_203 : m_FL RX11 203 11 60 := ⟨RX11, TX11, 92, rfl, rfl, by decide, by decide, uw_11, Or.inl w_1544⟩
theorem lf_X11_519 : m_FL RX11 519 11 61 := ⟨RX11, TX11, 92, rfl, rfl, by decide, by decide, uw_11, Or.inl w_1545⟩
theorem lf_X11_235 : m_FL RX11 235 11 72 := ⟨RX11, TX11, 92, rfl, rfl, by decide, by decide, uw_11, Or.inl w_1556⟩
theorem lf_X11_522 : m_FL RX11 522 11 62 := ⟨RX11, TX11, 92, rfl, rfl, by decide, by decide, uw_11, Or.inl w_1546⟩
theorem w_2101 : Cond.methodLink "TapeStudioModel" 525 ⟨"TapeStudioModel","isOver","(II)Z"⟩ ∈ m_big := m_big_mem (i := 2101) (by decide +kernel) (by decide +kernel)
theorem w_2104 : Cond.code ⟨"TapeStudioModel","isOver","(II)Z"⟩ prog_13_method_82_code 3 (Option.some .boolean) ∈ m_big := m_big_mem (i := 2104) (by decide +kernel) (by decide +kernel)
theorem w_2103 : Cond.instanceMethod ⟨"TapeStudioModel","isOver","(II)Z"⟩ ∈ m_big := m_big_mem (i := 2103) (by decide +kernel) (by decide +kernel)
theorem w_109 : Cond.selects "TapeStudioModel" ⟨"TapeStudioModel","isOver","(II)Z"⟩ ⟨"TapeStudioModel","isOver","(II)Z"⟩ ∈ m_big := m_big_mem (i := 109) (by decide +kernel) (by decide +kernel)
theorem lm_X11_525 : m_MV RX11 525 yX11_isOver cX11_isOver 3 (some .boolean) 2 := ⟨⟨Or.inl w_2101, w_135, w_2104, by decide +kernel, by decide⟩, w_2103, w_109⟩
theorem w_1557 : Cond.fieldLink "TapeStudioModel" 528 "TapeStudioModel" "leadOrder" "I" ∈ m_big := m_big_mem (i := 1557) (by decide +kernel) (by decide +kernel)
theorem lf_X11_528 : m_FL RX11 528 11 73 := ⟨RX11, TX11, 92, rfl, rfl, by decide, by decide, uw_11, Or.inl w_1557⟩
theorem w_1558 : Cond.fieldLink "TapeStudioModel" 531 "TapeStudioModel" "leadPlace" "I" ∈ m_big := m_big_mem (i := 1558) (by decide +kernel) (by decide +kernel)
theorem lf_X11_531 : m_FL RX11 531 11 74 := ⟨RX11, TX11, 92, rfl, rfl, by decide, by decide, uw_11, Or.inl w_1558⟩
theorem lp_X11_528 : m_PL RX11 528 11 73 .int false := ⟨RX11, TX11, 92, tyX11, rfl, rfl, by decide, by decide, uw_11, Or.inl w_1557, rfl, (fun q => by cases q), by decide +kernel, tyX11_ok, nmX11⟩
theorem lp_X11_531 : m_PL RX11 531 11 74 .int false := ⟨RX11, TX11, 92, tyX11, rfl, rfl, by decide, by decide, uw_11, Or.inl w_1558, rfl, (fun q => by cases q), by decide +kernel, tyX11_ok, nmX11⟩
theorem w_2114 : Cond.constantLong "TapeStudioModel" 534 (Int64.ofInt (1000)) ∈ m_nest := m_nest_mem (i := 2114) (by decide +kernel) (by decide +kernel)
theorem w_2110 : Cond.methodLink "TapeStudioModel" 538 ⟨"TapeStudioModel","leads","()V"⟩ ∈ m_big := m_big_mem (i := 2110) (by decide +kernel) (by decide +kernel)
theorem w_2113 : Cond.code ⟨"TapeStudioModel","leads","()V"⟩ prog_13_method_84_code 5 (Option.none : Option Jvm.ClassFile.FieldType) ∈ m_big := m_big_mem (i := 2113) (by decide +kernel) (by decide +kernel)
theorem w_2112 : Cond.instanceMethod ⟨"TapeStudioModel","leads","()V"⟩ ∈ m_big := m_big_mem (i := 2112) (by decide +kernel) (by decide +kernel)
theorem w_110 : Cond.selects "TapeStudioModel" ⟨"TapeStudioModel","leads","()V"⟩ ⟨"TapeStudioModel","leads","()V"⟩ ∈ m_big := m_big_mem (i := 110) (by decide +kernel) (by decide +kernel)
theorem lm_X11_538 : m_MV RX11 538 yX11_leads cX11_leads 5 none 0 := ⟨⟨Or.inl w_2110, w_135, w_2113, by decide +kernel, by decide⟩, w_2112, w_110⟩
theorem w_2109 : Cond.constantLong "TapeStudioModel" 536 (Int64.ofInt (2)) ∈ m_nest := m_nest_mem (i := 2109) (by decide +kernel) (by decide +kernel)
theorem w_2119 : Cond.methodLink "TapeStudioModel" 541 ⟨"TapeStudioModel","quarrels","(II)Z"⟩ ∈ m_big := m_big_mem (i := 2119) (by decide +kernel) (by decide +kernel)
theorem w_2122 : Cond.code ⟨"TapeStudioModel","quarrels","(II)Z"⟩ prog_13_method_86_code 6 (Option.some .boolean) ∈ m_big := m_big_mem (i := 2122) (by decide +kernel) (by decide +kernel)
theorem w_2121 : Cond.instanceMethod ⟨"TapeStudioModel","quarrels","(II)Z"⟩ ∈ m_big := m_big_mem (i := 2121) (by decide +kernel) (by decide +kernel)
theorem w_111 : Cond.selects "TapeStudioModel" ⟨"TapeStudioModel","quarrels","(II)Z"⟩ ⟨"TapeStudioModel","quarrels","(II)Z"⟩ ∈ m_big := m_big_mem (i := 111) (by decide +kernel) (by decide +kernel)
theorem lm_X11_541 : m_MV RX11 541 yX11_quarrels cX11_quarrels 6 (some .boolean) 2 := ⟨⟨Or.inl w_2119, w_135, w_2122, by decide +kernel, by decide⟩, w_2121, w_111⟩
theorem w_1563 : Cond.fieldLink "TapeStudioModel" 544 "TapeStudioModel" "steps" "I" ∈ m_big := m_big_mem (i := 1563) (by decide +kernel) (by decide +kernel)
theorem lf_X11_544 : m_FL RX11 544 11 79 := ⟨RX11, TX11, 92, rfl, rfl, by decide, by decide, uw_11, Or.inl w_1563⟩
theorem lf_X11_238 : m_FL RX11 238 11 75 := ⟨RX11, TX11, 92, rfl, rfl, by decide, by decide, uw_11, Or.inl w_1559⟩
theorem w_2139 : Cond.methodLink "TapeStudioModel" 547 ⟨"TapeStudioModel","stepOf","(I)I"⟩ ∈ m_big := m_big_mem (i := 2139) (by decide +kernel) (by decide +kernel)
theorem w_2142 : Cond.code ⟨"TapeStudioModel","stepOf","(I)I"⟩ prog_13_method_89_code 3 (Option.some .int) ∈ m_big := m_big_mem (i := 2142) (by decide +kernel) (by decide +kernel)
theorem w_2141 : Cond.instanceMethod ⟨"TapeStudioModel","stepOf","(I)I"⟩ ∈ m_big := m_big_mem (i := 2141) (by decide +kernel) (by decide +kernel)
theorem w_114 : Cond.selects "TapeStudioModel" ⟨"TapeStudioModel","stepOf","(I)I"⟩ ⟨"TapeStudioModel","stepOf","(I)I"⟩ ∈ m_big := m_big_mem (i := 114) (by decide +kernel) (by decide +kernel)
theorem lm_X11_547 : m_MV RX11 547 yX11_stepOf cX11_stepOf 3 (some .int) 1 := ⟨⟨Or.inl w_2139, w_135, w_2142, by decide +kernel, by decide⟩, w_2141, w_114⟩
theorem lf_X11_241 : m_FL RX11 241 11 76 := ⟨RX11, TX11, 92, rfl, rfl, by decide, by decide, uw_11, Or.inl w_1560⟩
theorem w_2151 : Cond.methodLink "TapeStudioModel" 551 ⟨"TapeStudioModel","isBench","(I)Z"⟩ ∈ m_big := m_big_mem (i := 2151) (by decide +kernel) (by decide +kernel)
theorem w_2154 : Cond.code ⟨"TapeStudioModel","isBench","(I)Z"⟩ prog_13_method_91_code 2 (Option.some .boolean) ∈ m_big := m_big_mem (i := 2154) (by decide +kernel) (by decide +kernel)
theorem w_2153 : Cond.instanceMethod ⟨"TapeStudioModel","isBench","(I)Z"⟩ ∈ m_big := m_big_mem (i := 2153) (by decide +kernel) (by decide +kernel)
theorem w_117 : Cond.selects "TapeStudioModel" ⟨"TapeStudioModel","isBench","(I)Z"⟩ ⟨"TapeStudioModel","isBench","(I)Z"⟩ ∈ m_big := m_big_mem (i := 117) (by decide +kernel) (by decide +kernel)
theorem lm_X11_551 : m_MV RX11 551 yX11_isBench cX11_isBench 2 (some .boolean) 1 := ⟨⟨Or.inl w_2151, w_135, w_2154, by decide +kernel, by decide⟩, w_2153, w_117⟩
theorem w_2147 : Cond.methodLink "TapeStudioModel" 554 ⟨"TapeStudioModel","canDo","(III)Z"⟩ ∈ m_big := m_big_mem (i := 2147) (by decide +kernel) (by decide +kernel)
theorem w_2150 : Cond.code ⟨"TapeStudioModel","canDo","(III)Z"⟩ prog_13_method_92_code 10 (Option.some .boolean) ∈ m_big := m_big_mem (i := 2150) (by decide +kernel) (by decide +kernel)
theorem w_2149 : Cond.instanceMethod ⟨"TapeStudioModel","canDo","(III)Z"⟩ ∈ m_big := m_big_mem (i := 2149) (by decide +kernel) (by decide +kernel)
theorem w_116 : Cond.selects "TapeStudioModel" ⟨"TapeStudioModel","canDo","(III)Z"⟩ ⟨"TapeStudioModel","canDo","(III)Z"⟩ ∈ m_big := m_big_mem (i := 116) (by decide +kernel) (by decide +kernel)
theorem lm_X11_554 : m_MV RX11 554 yX11_canDo cX11_canDo 10 (some .boolean) 3 := ⟨⟨Or.inl w_2147, w_135, w_2150, by decide +kernel, by decide⟩, w_2149, w_116⟩
theorem w_2143 : Cond.methodLink "TapeStudioModel" 557 ⟨"TapeStudioModel","least","(II)I"⟩ ∈ m_big := m_big_mem (i := 2143) (by decide +kernel) (by decide +kernel)
theorem w_2146 : Cond.code ⟨"TapeStudioModel","least","(II)I"⟩ prog_13_method_93_code 6 (Option.some .int) ∈ m_big := m_big_mem (i := 2146) (by decide +kernel) (by decide +kernel)
theorem w_2145 : Cond.instanceMethod ⟨"TapeStudioModel","least","(II)I"⟩ ∈ m_big := m_big_mem (i := 2145) (by decide +kernel) (by decide +kernel)
theorem w_115 : Cond.selects "TapeStudioModel" ⟨"TapeStudioModel","least","(II)I"⟩ ⟨"TapeStudioModel","least","(II)I"⟩ ∈ m_big := m_big_mem (i := 115) (by decide +kernel) (by decide +kernel)
theorem lm_X11_557 : m_MV RX11 557 yX11_least cX11_least 6 (some .int) 2 := ⟨⟨Or.inl w_2143, w_135, w_2146, by decide +kernel, by decide⟩, w_2145, w_115⟩
theorem lf_X11_244 : m_FL RX11 244 11 77 := ⟨RX11, TX11, 92, rfl, rfl, by decide, by decide, uw_11, Or.inl w_1561⟩
theorem lf_X11_247 : m_FL RX11 247 11 78 := ⟨RX11, TX11, 92, rfl, rfl, by decide, by decide, uw_11, Or.inl w_1562⟩
theorem w_2135 : Cond.methodLink "TapeStudioModel" 560 ⟨"TapeStudioModel","need","(III)V"⟩ ∈ m_big := m_big_mem (i := 2135) (by decide +kernel) (by decide +kernel)
theorem w_2138 : Cond.code ⟨"TapeStudioModel","need","(III)V"⟩ prog_13_method_90_code 5 (Option.none : Option Jvm.ClassFile.FieldType) ∈ m_big := m_big_mem (i := 2138) (by decide +kernel) (by decide +kernel)
theorem w_2137 : Cond.instanceMethod ⟨"TapeStudioModel","need","(III)V"⟩ ∈ m_big := m_big_mem (i := 2137) (by decide +kernel) (by decide +kernel)
theorem w_113 : Cond.selects "TapeStudioModel" ⟨"TapeStudioModel","need","(III)V"⟩ ⟨"TapeStudioModel","need","(III)V"⟩ ∈ m_big := m_big_mem (i := 113) (by decide +kernel) (by decide +kernel)
theorem lm_X11_560 : m_MV RX11 560 yX11_need cX11_need 5 none 3 := ⟨⟨Or.inl w_2135, w_135, w_2138, by decide +kernel, by decide⟩, w_2137, w_113⟩
theorem lp_X11_544 : m_PL RX11 544 11 79 .int false := ⟨RX11, TX11, 92, tyX11, rfl, rfl, by decide, by decide, uw_11, Or.inl w_1563, rfl, (fun q => by cases q), by decide +kernel, tyX11_ok, nmX11⟩
theorem w_2131 : Cond.methodLink "TapeStudioModel" 562 ⟨"TapeStudioModel","plans","(I)Z"⟩ ∈ m_big := m_big_mem (i := 2131) (by decide +kernel) (by decide +kernel)
theorem w_2134 : Cond.code ⟨"TapeStudioModel","plans","(I)Z"⟩ prog_13_method_94_code 6 (Option.some .boolean) ∈ m_big := m_big_mem (i := 2134) (by decide +kernel) (by decide +kernel)
theorem w_2133 : Cond.instanceMethod ⟨"TapeStudioModel","plans","(I)Z"⟩ ∈ m_big := m_big_mem (i := 2133) (by decide +kernel) (by decide +kernel)
theorem w_112 : Cond.selects "TapeStudioModel" ⟨"TapeStudioModel","plans","(I)Z"⟩ ⟨"TapeStudioModel","plans","(I)Z"⟩ ∈ m_big := m_big_mem (i := 112) (by decide +kernel) (by decide +kernel)
theorem lm_X11_562 : m_MV RX11 562 yX11_plans cX11_plans 6 (some .boolean) 1 := ⟨⟨Or.inl w_2131, w_135, w_2134, by decide +kernel, by decide⟩, w_2133, w_112⟩
theorem lf_X11_250 : m_FL RX11 250 11 80 := ⟨RX11, TX11, 92, rfl, rfl, by decide, by decide, uw_11, Or.inl w_1564⟩
theorem lf_X11_253 : m_FL RX11 253 11 81 := ⟨RX11, TX11, 92, rfl, rfl, by decide, by decide, uw_11, Or.inl w_1565⟩
theorem w_1569 : Cond.fieldLink "TapeStudioModel" 565 "TapeStudioModel" "taped" "I" ∈ m_big := m_big_mem (i := 1569) (by decide +kernel) (by decide +kernel)
theorem lf_X11_565 : m_FL RX11 565 11 85 := ⟨RX11, TX11, 92, rfl, rfl, by decide, by decide, uw_11, Or.inl w_1569⟩
theorem lp_X11_565 : m_PL RX11 565 11 85 .int false := ⟨RX11, TX11, 92, tyX11, rfl, rfl, by decide, by decide, uw_11, Or.inl w_1569, rfl, (fun q => by cases q), by decide +kernel, tyX11_ok, nmX11⟩
theorem w_1570 : Cond.fieldLink "TapeStudioModel" 568 "TapeStudioModel" "otherLong" "I" ∈ m_big := m_big_mem (i := 1570) (by decide +kernel) (by decide +kernel)
theorem lf_X11_568 : m_FL RX11 568 11 86 := ⟨RX11, TX11, 92, rfl, rfl, by decide, by decide, uw_11, Or.inl w_1570⟩
theorem lf_X11_256 : m_FL RX11 256 11 82 := ⟨RX11, TX11, 92, rfl, rfl, by decide, by decide, uw_11, Or.inl w_1566⟩
theorem lp_X11_568 : m_PL RX11 568 11 86 .int false := ⟨RX11, TX11, 92, tyX11, rfl, rfl, by decide, by decide, uw_11, Or.inl w_1570, rfl, (fun q => by cases q), by decide +kernel, tyX11_ok, nmX11⟩
theorem w_2183 : Cond.constantLong "TapeStudioModel" 571 (Int64.ofInt (65535)) ∈ m_nest := m_nest_mem (i := 2183) (by decide +kernel) (by decide +kernel)
theorem w_2196 : Cond.methodLink "TapeStudioModel" 573 ⟨"TapeStudioModel","differs","(II)I"⟩ ∈ m_big := m_big_mem (i := 2196) (by decide +kernel) (by decide +kernel)
theorem w_2198 : Cond.code ⟨"TapeStudioModel","differs","(II)I"⟩ prog_13_method_102_code 2 (Option.some .int) ∈ m_big := m_big_mem (i := 2198) (by decide +kernel) (by decide +kernel)
theorem w_2197 : Cond.static ⟨"TapeStudioModel","differs","(II)I"⟩ ∈ m_big := m_big_mem (i := 2197) (by decide +kernel) (by decide +kernel)
theorem lm_X11_573 : m_MS RX11 573 yX11_differs cX11_differs 2 (some .int) 2 := ⟨⟨Or.inl w_2196, w_135, w_2198, by decide +kernel, by decide⟩, w_2197⟩
theorem w_1575 : Cond.fieldLink "TapeStudioModel" 579 "TapeStudioModel" "fitting" "I" ∈ m_big := m_big_mem (i := 1575) (by decide +kernel) (by decide +kernel)
theorem lf_X11_579 : m_FL RX11 579 11 91 := ⟨RX11, TX11, 92, rfl, rfl, by decide, by decide, uw_11, Or.inl w_1575⟩
theorem w_2184 : Cond.methodLink "TapeStudioModel" 582 ⟨"TapeStudioModel","isLaid","(I)Z"⟩ ∈ m_big := m_big_mem (i := 2184) (by decide +kernel) (by decide +kernel)
theorem w_2187 : Cond.code ⟨"TapeStudioModel","isLaid","(I)Z"⟩ prog_13_method_101_code 2 (Option.some .boolean) ∈ m_big := m_big_mem (i := 2187) (by decide +kernel) (by decide +kernel)
theorem w_2186 : Cond.instanceMethod ⟨"TapeStudioModel","isLaid","(I)Z"⟩ ∈ m_big := m_big_mem (i := 2186) (by decide +kernel) (by decide +kernel)
theorem w_119 : Cond.selects "TapeStudioModel" ⟨"TapeStudioModel","isLaid","(I)Z"⟩ ⟨"TapeStudioModel","isLaid","(I)Z"⟩ ∈ m_big := m_big_mem (i := 119) (by decide +kernel) (by decide +kernel)
theorem lm_X11_582 : m_MV RX11 582 yX11_isLaid cX11_isLaid 2 (some .boolean) 1 := ⟨⟨Or.inl w_2184, w_135, w_2187, by decide +kernel, by decide⟩, w_2186, w_119⟩
theorem w_2188 : Cond.methodLink "TapeStudioModel" 585 ⟨"TapeStudioModel","gives","(II)V"⟩ ∈ m_big := m_big_mem (i := 2188) (by decide +kernel) (by decide +kernel)
theorem w_2191 : Cond.code ⟨"TapeStudioModel","gives","(II)V"⟩ prog_13_method_100_code 6 (Option.none : Option Jvm.ClassFile.FieldType) ∈ m_big := m_big_mem (i := 2191) (by decide +kernel) (by decide +kernel)
theorem w_2190 : Cond.instanceMethod ⟨"TapeStudioModel","gives","(II)V"⟩ ∈ m_big := m_big_mem (i := 2190) (by decide +kernel) (by decide +kernel)
theorem w_120 : Cond.selects "TapeStudioModel" ⟨"TapeStudioModel","gives","(II)V"⟩ ⟨"TapeStudioModel","gives","(II)V"⟩ ∈ m_big := m_big_mem (i := 120) (by decide +kernel) (by decide +kernel)
theorem lm_X11_585 : m_MV RX11 585 yX11_gives cX11_gives 6 none 2 := ⟨⟨Or.inl w_2188, w_135, w_2191, by decide +kernel, by decide⟩, w_2190, w_120⟩
theorem w_2192 : Cond.methodLink "TapeStudioModel" 588 ⟨"TapeStudioModel","sumAt","(IIII)I"⟩ ∈ m_big := m_big_mem (i := 2192) (by decide +kernel) (by decide +kernel)
theorem w_2195 : Cond.code ⟨"TapeStudioModel","sumAt","(IIII)I"⟩ prog_13_method_104_code 8 (Option.some .int) ∈ m_big := m_big_mem (i := 2195) (by decide +kernel) (by decide +kernel)
theorem w_2194 : Cond.instanceMethod ⟨"TapeStudioModel","sumAt","(IIII)I"⟩ ∈ m_big := m_big_mem (i := 2194) (by decide +kernel) (by decide +kernel)
theorem w_121 : Cond.selects "TapeStudioModel" ⟨"TapeStudioModel","sumAt","(IIII)I"⟩ ⟨"TapeStudioModel","sumAt","(IIII)I"⟩ ∈ m_big := m_big_mem (i := 121) (by decide +kernel) (by decide +kernel)
theorem lm_X11_588 : m_MV RX11 588 yX11_sumAt cX11_sumAt 8 (some .int) 4 := ⟨⟨Or.inl w_2192, w_135, w_2195, by decide +kernel, by decide⟩, w_2194, w_121⟩
theorem lp_X11_579 : m_PL RX11 579 11 91 .int false := ⟨RX11, TX11, 92, tyX11, rfl, rfl, by decide, by decide, uw_11, Or.inl w_1575, rfl, (fun q => by cases q), by decide +kernel, tyX11_ok, nmX11⟩
theorem w_1574 : Cond.fieldLink "TapeStudioModel" 591 "TapeStudioModel" "nearSum" "I" ∈ m_big := m_big_mem (i := 1574) (by decide +kernel) (by decide +kernel)
theorem lf_X11_591 : m_FL RX11 591 11 90 := ⟨RX11, TX11, 92, rfl, rfl, by decide, by decide, uw_11, Or.inl w_1574⟩
theorem w_1571 : Cond.fieldLink "TapeStudioModel" 594 "TapeStudioModel" "nearStrip" "I" ∈ m_big := m_big_mem (i := 1571) (by decide +kernel) (by decide +kernel)
theorem lp_X11_594 : m_PL RX11 594 11 87 .int false := ⟨RX11, TX11, 92, tyX11, rfl, rfl, by decide, by decide, uw_11, Or.inl w_1571, rfl, (fun q => by cases q), by decide +kernel, tyX11_ok, nmX11⟩
theorem w_1572 : Cond.fieldLink "TapeStudioModel" 597 "TapeStudioModel" "nearWay" "I" ∈ m_big := m_big_mem (i := 1572) (by decide +kernel) (by decide +kernel)
theorem lp_X11_597 : m_PL RX11 597 11 88 .int false := ⟨RX11, TX11, 92, tyX11, rfl, rfl, by decide, by decide, uw_11, Or.inl w_1572, rfl, (fun q => by cases q), by decide +kernel, tyX11_ok, nmX11⟩
theorem w_1573 : Cond.fieldLink "TapeStudioModel" 600 "TapeStudioModel" "nearPlace" "I" ∈ m_big := m_big_mem (i := 1573) (by decide +kernel) (by decide +kernel)
theorem lp_X11_600 : m_PL RX11 600 11 89 .int false := ⟨RX11, TX11, 92, tyX11, rfl, rfl, by decide, by decide, uw_11, Or.inl w_1573, rfl, (fun q => by cases q), by decide +kernel, tyX11_ok, nmX11⟩
theorem lp_X11_591 : m_PL RX11 591 11 90 .int false := ⟨RX11, TX11, 92, tyX11, rfl, rfl, by decide, by decide, uw_11, Or.inl w_1574, rfl, (fun q => by cases q), by decide +kernel, tyX11_ok, nmX11⟩
theorem w_2180 : Cond.methodLink "TapeStudioModel" 576 ⟨"TapeStudioModel","canAsk","(II)Z"⟩ ∈ m_big := m_big_mem (i := 2180) (by decide +kernel) (by decide +kernel)
theorem w_2182 : Cond.code ⟨"TapeStudioModel","canAsk","(II)Z"⟩ prog_13_method_103_code 2 (Option.some .boolean) ∈ m_big := m_big_mem (i := 2182) (by decide +kernel) (by decide +kernel)
theorem w_2181 : Cond.static ⟨"TapeStudioModel","canAsk","(II)Z"⟩ ∈ m_big := m_big_mem (i := 2181) (by decide +kernel) (by decide +kernel)
theorem lm_X11_576 : m_MS RX11 576 yX11_canAsk cX11_canAsk 2 (some .boolean) 2 := ⟨⟨Or.inl w_2180, w_135, w_2182, by decide +kernel, by decide⟩, w_2181⟩
theorem w_2175 : Cond.constantLong "TapeStudioModel" 603 (Int64.ofInt (3)) ∈ m_nest := m_nest_mem (i := 2175) (by decide +kernel) (by decide +kernel)
theorem w_2176 : Cond.methodLink "TapeStudioModel" 605 ⟨"TapeStudioModel","nears","(III)Z"⟩ ∈ m_big := m_big_mem (i := 2176) (by decide +kernel) (by decide +kernel)
theorem w_2179 : Cond.code ⟨"TapeStudioModel","nears","(III)Z"⟩ prog_13_method_105_code 8 (Option.some .boolean) ∈ m_big := m_big_mem (i := 2179) (by decide +kernel) (by decide +kernel)
theorem w_2178 : Cond.instanceMethod ⟨"TapeStudioModel","nears","(III)Z"⟩ ∈ m_big := m_big_mem (i := 2178) (by decide +kernel) (by decide +kernel)
theorem w_118 : Cond.selects "TapeStudioModel" ⟨"TapeStudioModel","nears","(III)Z"⟩ ⟨"TapeStudioModel","nears","(III)Z"⟩ ∈ m_big := m_big_mem (i := 118) (by decide +kernel) (by decide +kernel)
theorem lm_X11_605 : m_MV RX11 605 yX11_nears cX11_nears 8 (some .boolean) 3 := ⟨⟨Or.inl w_2176, w_135, w_2179, by decide +kernel, by decide⟩, w_2178, w_118⟩
theorem lf_X11_594 : m_FL RX11 594 11 87 := ⟨RX11, TX11, 92, rfl, rfl, by decide, by decide, uw_11, Or.inl w_1571⟩
theorem lf_X11_597 : m_FL RX11 597 11 88 := ⟨RX11, TX11, 92, rfl, rfl, by decide, by decide, uw_11, Or.inl w_1572⟩
theorem lf_X11_600 : m_FL RX11 600 11 89 := ⟨RX11, TX11, 92, rfl, rfl, by decide, by decide, uw_11, Or.inl w_1573⟩
theorem lf_X11_259 : m_FL RX11 259 11 83 := ⟨RX11, TX11, 92, rfl, rfl, by decide, by decide, uw_11, Or.inl w_1567⟩
theorem w_2215 : Cond.methodLink "TapeStudioModel" 608 ⟨"TapeStudioModel","better","(II)V"⟩ ∈ m_big := m_big_mem (i := 2215) (by decide +kernel) (by decide +kernel)
theorem w_2218 : Cond.code ⟨"TapeStudioModel","better","(II)V"⟩ prog_13_method_108_code 3 (Option.none : Option Jvm.ClassFile.FieldType) ∈ m_big := m_big_mem (i := 2218) (by decide +kernel) (by decide +kernel)
theorem w_2217 : Cond.instanceMethod ⟨"TapeStudioModel","better","(II)V"⟩ ∈ m_big := m_big_mem (i := 2217) (by decide +kernel) (by decide +kernel)
theorem w_124 : Cond.selects "TapeStudioModel" ⟨"TapeStudioModel","better","(II)V"⟩ ⟨"TapeStudioModel","better","(II)V"⟩ ∈ m_big := m_big_mem (i := 124) (by decide +kernel) (by decide +kernel)
theorem lm_X11_608 : m_MV RX11 608 yX11_better cX11_better 3 none 2 := ⟨⟨Or.inl w_2215, w_135, w_2218, by decide +kernel, by decide⟩, w_2217, w_124⟩
theorem lf_X11_262 : m_FL RX11 262 11 84 := ⟨RX11, TX11, 92, rfl, rfl, by decide, by decide, uw_11, Or.inl w_1568⟩
theorem w_2211 : Cond.methodLink "TapeStudioModel" 611 ⟨"TapeStudioModel","longest","(I)V"⟩ ∈ m_big := m_big_mem (i := 2211) (by decide +kernel) (by decide +kernel)
theorem w_2214 : Cond.code ⟨"TapeStudioModel","longest","(I)V"⟩ prog_13_method_109_code 7 (Option.none : Option Jvm.ClassFile.FieldType) ∈ m_big := m_big_mem (i := 2214) (by decide +kernel) (by decide +kernel)
theorem w_2213 : Cond.instanceMethod ⟨"TapeStudioModel","longest","(I)V"⟩ ∈ m_big := m_big_mem (i := 2213) (by decide +kernel) (by decide +kernel)
theorem w_123 : Cond.selects "TapeStudioModel" ⟨"TapeStudioModel","longest","(I)V"⟩ ⟨"TapeStudioModel","longest","(I)V"⟩ ∈ m_big := m_big_mem (i := 123) (by decide +kernel) (by decide +kernel)
theorem lm_X11_611 : m_MV RX11 611 yX11_longest cX11_longest 7 none 1 := ⟨⟨Or.inl w_2211, w_135, w_2214, by decide +kernel, by decide⟩, w_2213, w_123⟩
theorem w_2207 : Cond.methodLink "TapeStudioModel" 614 ⟨"TapeStudioModel","covers","(II)Z"⟩ ∈ m_big := m_big_mem (i := 2207) (by decide +kernel) (by decide +kernel)
theorem w_2210 : Cond.code ⟨"TapeStudioModel","covers","(II)Z"⟩ prog_13_method_110_code 5 (Option.some .boolean) ∈ m_big := m_big_mem (i := 2210) (by decide +kernel) (by decide +kernel)
theorem w_2209 : Cond.instanceMethod ⟨"TapeStudioModel","covers","(II)Z"⟩ ∈ m_big := m_big_mem (i := 2209) (by decide +kernel) (by decide +kernel)
theorem w_122 : Cond.selects "TapeStudioModel" ⟨"TapeStudioModel","covers","(II)Z"⟩ ⟨"TapeStudioModel","covers","(II)Z"⟩ ∈ m_big := m_big_mem (i := 122) (by decide +kernel) (by decide +kernel)
theorem lm_X11_614 : m_MV RX11 614 yX11_covers cX11_covers 5 (some .boolean) 2 := ⟨⟨Or.inl w_2207, w_135, w_2210, by decide +kernel, by decide⟩, w_2209, w_122⟩
