/-! THE LAW, 12: its rows, one by one -/
theorem dL_law__1424 : gw_dc cL_law_ 1424 (.aload_n 1) 1 1425 := ⟨by decide +kernel, rfl⟩
theorem ag_1425 : gw_ag cL_law_ 1425 1 := ⟨⟨by decide +kernel, rfl⟩, ⟨by decide +kernel, rfl⟩, ⟨by decide +kernel, rfl⟩, ⟨by decide +kernel, rfl⟩, ⟨by decide +kernel, rfl⟩⟩
theorem ag_1431 : gw_ag cL_law_ 1431 2 := ⟨⟨by decide +kernel, rfl⟩, ⟨by decide +kernel, rfl⟩, ⟨by decide +kernel, rfl⟩, ⟨by decide +kernel, rfl⟩, ⟨by decide +kernel, rfl⟩⟩
theorem dL_law__1437 : gw_dc cL_law_ 1437 (.aload_n 3) 1 1438 := ⟨by decide +kernel, rfl⟩
theorem ms_RL_202 : gw_mst RL 202 yL_when := ⟨gw_mem 1274 (by decide +kernel) rfl, gw_mem 1275 (by decide +kernel) rfl⟩
theorem dL_law__1438 : gw_dc cL_law_ 1438 (.invokestatic 202) 3 1441 := ⟨by decide +kernel, rfl⟩
theorem dL_law__1441 : gw_dc cL_law_ 1441 (.istore 5) 2 1443 := ⟨by decide +kernel, rfl⟩
theorem dL_law__1443 : gw_dc cL_law_ 1443 (.aload_n 2) 1 1444 := ⟨by decide +kernel, rfl⟩
theorem ag_1444 : gw_ag cL_law_ 1444 1 := ⟨⟨by decide +kernel, rfl⟩, ⟨by decide +kernel, rfl⟩, ⟨by decide +kernel, rfl⟩, ⟨by decide +kernel, rfl⟩, ⟨by decide +kernel, rfl⟩⟩
theorem ag_1450 : gw_ag cL_law_ 1450 2 := ⟨⟨by decide +kernel, rfl⟩, ⟨by decide +kernel, rfl⟩, ⟨by decide +kernel, rfl⟩, ⟨by decide +kernel, rfl⟩, ⟨by decide +kernel, rfl⟩⟩
theorem mv_RL_204 : gw_mv RL 204 yX11_when := ⟨gw_mem 1907 (by decide +kernel) rfl, gw_mem 1908 (by decide +kernel) rfl, gw_mem 1909 (by decide +kernel) rfl⟩
theorem my_X11_when : gw_my yX11_when cX11_when 8 (some .int) 2 := ⟨gw_mem 1910 (by decide +kernel) rfl, gw_mem 106 (by decide +kernel) rfl, by decide +kernel, by decide⟩
theorem dL_law__1456 : gw_dc cL_law_ 1456 (.invokevirtual 204) 3 1459 := ⟨by decide +kernel, rfl⟩
theorem dL_law__1459 : gw_dc cL_law_ 1459 (.istore 6) 2 1461 := ⟨by decide +kernel, rfl⟩
theorem t1_1461 : gw_t1 cL_law_ 1461 := ⟨⟨by decide +kernel, rfl⟩, ⟨by decide +kernel, rfl⟩, ⟨by decide +kernel, rfl⟩, ⟨by decide +kernel, rfl⟩⟩
theorem t2_1472 : gw_t2 cL_law_ 1472 784 := ⟨⟨by decide +kernel, rfl⟩, ⟨by decide +kernel, rfl⟩, ⟨by decide +kernel, rfl⟩, ⟨by decide +kernel, rfl⟩, ⟨by decide +kernel, rfl⟩, ⟨by decide +kernel, rfl⟩, ⟨by decide +kernel, rfl⟩, ⟨by decide +kernel, rfl⟩, ⟨by decide +kernel, rfl⟩, ⟨by decide +kernel, rfl⟩⟩
theorem dL_law__1492 : gw_dc cL_law_ 1492 (.aload_n 1) 1 1493 := ⟨by decide +kernel, rfl⟩
theorem ag_1493 : gw_ag cL_law_ 1493 1 := ⟨⟨by decide +kernel, rfl⟩, ⟨by decide +kernel, rfl⟩, ⟨by decide +kernel, rfl⟩, ⟨by decide +kernel, rfl⟩, ⟨by decide +kernel, rfl⟩⟩
theorem dL_law__1499 : gw_dc cL_law_ 1499 (.aload_n 3) 1 1500 := ⟨by decide +kernel, rfl⟩
theorem ms_RL_205 : gw_mst RL 205 yL_heaviest := ⟨gw_mem 1290 (by decide +kernel) rfl, gw_mem 1291 (by decide +kernel) rfl⟩
theorem dL_law__1500 : gw_dc cL_law_ 1500 (.invokestatic 205) 3 1503 := ⟨by decide +kernel, rfl⟩
theorem dL_law__1503 : gw_dc cL_law_ 1503 (.istore 5) 2 1505 := ⟨by decide +kernel, rfl⟩
theorem dL_law__1505 : gw_dc cL_law_ 1505 (.aload_n 2) 1 1506 := ⟨by decide +kernel, rfl⟩
theorem ag_1506 : gw_ag cL_law_ 1506 1 := ⟨⟨by decide +kernel, rfl⟩, ⟨by decide +kernel, rfl⟩, ⟨by decide +kernel, rfl⟩, ⟨by decide +kernel, rfl⟩, ⟨by decide +kernel, rfl⟩⟩
theorem mv_RL_207 : gw_mv RL 207 yX11_heaviest := ⟨gw_mem 1911 (by decide +kernel) rfl, gw_mem 1912 (by decide +kernel) rfl, gw_mem 1913 (by decide +kernel) rfl⟩
theorem my_X11_heaviest : gw_my yX11_heaviest cX11_heaviest 4 (some .int) 1 := ⟨gw_mem 1914 (by decide +kernel) rfl, gw_mem 106 (by decide +kernel) rfl, by decide +kernel, by decide⟩
theorem dL_law__1512 : gw_dc cL_law_ 1512 (.invokevirtual 207) 3 1515 := ⟨by decide +kernel, rfl⟩
theorem dL_law__1515 : gw_dc cL_law_ 1515 (.istore 6) 2 1517 := ⟨by decide +kernel, rfl⟩
theorem t1_1517 : gw_t1 cL_law_ 1517 := ⟨⟨by decide +kernel, rfl⟩, ⟨by decide +kernel, rfl⟩, ⟨by decide +kernel, rfl⟩, ⟨by decide +kernel, rfl⟩⟩
theorem t2_1528 : gw_t2 cL_law_ 1528 728 := ⟨⟨by decide +kernel, rfl⟩, ⟨by decide +kernel, rfl⟩, ⟨by decide +kernel, rfl⟩, ⟨by decide +kernel, rfl⟩, ⟨by decide +kernel, rfl⟩, ⟨by decide +kernel, rfl⟩, ⟨by decide +kernel, rfl⟩, ⟨by decide +kernel, rfl⟩, ⟨by decide +kernel, rfl⟩, ⟨by decide +kernel, rfl⟩⟩
theorem dL_law__1548 : gw_dc cL_law_ 1548 (.aload_n 1) 1 1549 := ⟨by decide +kernel, rfl⟩
theorem ag_1549 : gw_ag cL_law_ 1549 1 := ⟨⟨by decide +kernel, rfl⟩, ⟨by decide +kernel, rfl⟩, ⟨by decide +kernel, rfl⟩, ⟨by decide +kernel, rfl⟩, ⟨by decide +kernel, rfl⟩⟩
theorem ag_1555 : gw_ag cL_law_ 1555 2 := ⟨⟨by decide +kernel, rfl⟩, ⟨by decide +kernel, rfl⟩, ⟨by decide +kernel, rfl⟩, ⟨by decide +kernel, rfl⟩, ⟨by decide +kernel, rfl⟩⟩
theorem ag_1561 : gw_ag cL_law_ 1561 3 := ⟨⟨by decide +kernel, rfl⟩, ⟨by decide +kernel, rfl⟩, ⟨by decide +kernel, rfl⟩, ⟨by decide +kernel, rfl⟩, ⟨by decide +kernel, rfl⟩⟩
theorem dL_law__1567 : gw_dc cL_law_ 1567 (.aload_n 3) 1 1568 := ⟨by decide +kernel, rfl⟩
theorem ms_RL_208 : gw_mst RL 208 yL_lend := ⟨gw_mem 1297 (by decide +kernel) rfl, gw_mem 1298 (by decide +kernel) rfl⟩
theorem dL_law__1568 : gw_dc cL_law_ 1568 (.invokestatic 208) 3 1571 := ⟨by decide +kernel, rfl⟩
theorem dL_law__1571 : gw_dc cL_law_ 1571 (.istore 5) 2 1573 := ⟨by decide +kernel, rfl⟩
theorem dL_law__1573 : gw_dc cL_law_ 1573 (.aload_n 2) 1 1574 := ⟨by decide +kernel, rfl⟩
theorem ag_1574 : gw_ag cL_law_ 1574 1 := ⟨⟨by decide +kernel, rfl⟩, ⟨by decide +kernel, rfl⟩, ⟨by decide +kernel, rfl⟩, ⟨by decide +kernel, rfl⟩, ⟨by decide +kernel, rfl⟩⟩
theorem ag_1580 : gw_ag cL_law_ 1580 2 := ⟨⟨by decide +kernel, rfl⟩, ⟨by decide +kernel, rfl⟩, ⟨by decide +kernel, rfl⟩, ⟨by decide +kernel, rfl⟩, ⟨by decide +kernel, rfl⟩⟩
theorem ag_1586 : gw_ag cL_law_ 1586 3 := ⟨⟨by decide +kernel, rfl⟩, ⟨by decide +kernel, rfl⟩, ⟨by decide +kernel, rfl⟩, ⟨by decide +kernel, rfl⟩, ⟨by decide +kernel, rfl⟩⟩
theorem mv_RL_210 : gw_mv RL 210 yX11_lend := ⟨gw_mem 1915 (by decide +kernel) rfl, gw_mem 1916 (by decide +kernel) rfl, gw_mem 1917 (by decide +kernel) rfl⟩
theorem my_X11_lend : gw_my yX11_lend cX11_lend 6 (some .int) 3 := ⟨gw_mem 1918 (by decide +kernel) rfl, gw_mem 106 (by decide +kernel) rfl, by decide +kernel, by decide⟩
theorem dL_law__1592 : gw_dc cL_law_ 1592 (.invokevirtual 210) 3 1595 := ⟨by decide +kernel, rfl⟩
theorem dL_law__1595 : gw_dc cL_law_ 1595 (.istore 6) 2 1597 := ⟨by decide +kernel, rfl⟩
theorem t1_1597 : gw_t1 cL_law_ 1597 := ⟨⟨by decide +kernel, rfl⟩, ⟨by decide +kernel, rfl⟩, ⟨by decide +kernel, rfl⟩, ⟨by decide +kernel, rfl⟩⟩
theorem t2_1608 : gw_t2 cL_law_ 1608 648 := ⟨⟨by decide +kernel, rfl⟩, ⟨by decide +kernel, rfl⟩, ⟨by decide +kernel, rfl⟩, ⟨by decide +kernel, rfl⟩, ⟨by decide +kernel, rfl⟩, ⟨by decide +kernel, rfl⟩, ⟨by decide +kernel, rfl⟩, ⟨by decide +kernel, rfl⟩, ⟨by decide +kernel, rfl⟩, ⟨by decide +kernel, rfl⟩⟩
theorem dL_law__1628 : gw_dc cL_law_ 1628 (.aload_n 1) 1 1629 := ⟨by decide +kernel, rfl⟩
theorem ag_1629 : gw_ag cL_law_ 1629 1 := ⟨⟨by decide +kernel, rfl⟩, ⟨by decide +kernel, rfl⟩, ⟨by decide +kernel, rfl⟩, ⟨by decide +kernel, rfl⟩, ⟨by decide +kernel, rfl⟩⟩
theorem dL_law__1635 : gw_dc cL_law_ 1635 (.aload_n 3) 1 1636 := ⟨by decide +kernel, rfl⟩
theorem ms_RL_211 : gw_mst RL 211 yL_by := ⟨gw_mem 1307 (by decide +kernel) rfl, gw_mem 1308 (by decide +kernel) rfl⟩
theorem dL_law__1636 : gw_dc cL_law_ 1636 (.invokestatic 211) 3 1639 := ⟨by decide +kernel, rfl⟩
theorem dL_law__1639 : gw_dc cL_law_ 1639 (.istore 5) 2 1641 := ⟨by decide +kernel, rfl⟩
theorem dL_law__1641 : gw_dc cL_law_ 1641 (.aload_n 2) 1 1642 := ⟨by decide +kernel, rfl⟩
theorem ag_1642 : gw_ag cL_law_ 1642 1 := ⟨⟨by decide +kernel, rfl⟩, ⟨by decide +kernel, rfl⟩, ⟨by decide +kernel, rfl⟩, ⟨by decide +kernel, rfl⟩, ⟨by decide +kernel, rfl⟩⟩
theorem mv_RL_213 : gw_mv RL 213 yX11_by := ⟨gw_mem 1919 (by decide +kernel) rfl, gw_mem 1920 (by decide +kernel) rfl, gw_mem 1921 (by decide +kernel) rfl⟩
theorem my_X11_by : gw_my yX11_by cX11_by 2 (some .int) 1 := ⟨gw_mem 1922 (by decide +kernel) rfl, gw_mem 106 (by decide +kernel) rfl, by decide +kernel, by decide⟩
theorem dL_law__1648 : gw_dc cL_law_ 1648 (.invokevirtual 213) 3 1651 := ⟨by decide +kernel, rfl⟩
theorem dL_law__1651 : gw_dc cL_law_ 1651 (.istore 6) 2 1653 := ⟨by decide +kernel, rfl⟩
theorem t1_1653 : gw_t1 cL_law_ 1653 := ⟨⟨by decide +kernel, rfl⟩, ⟨by decide +kernel, rfl⟩, ⟨by decide +kernel, rfl⟩, ⟨by decide +kernel, rfl⟩⟩
theorem t2_1664 : gw_t2 cL_law_ 1664 592 := ⟨⟨by decide +kernel, rfl⟩, ⟨by decide +kernel, rfl⟩, ⟨by decide +kernel, rfl⟩, ⟨by decide +kernel, rfl⟩, ⟨by decide +kernel, rfl⟩, ⟨by decide +kernel, rfl⟩, ⟨by decide +kernel, rfl⟩, ⟨by decide +kernel, rfl⟩, ⟨by decide +kernel, rfl⟩, ⟨by decide +kernel, rfl⟩⟩
theorem dL_law__1684 : gw_dc cL_law_ 1684 (.aload_n 1) 1 1685 := ⟨by decide +kernel, rfl⟩
theorem mv_RL_214 : gw_mv RL 214 yX10_bestLaw := ⟨gw_mem 716 (by decide +kernel) rfl, gw_mem 717 (by decide +kernel) rfl, gw_mem 718 (by decide +kernel) rfl⟩
theorem my_X10_bestLaw : gw_my yX10_bestLaw cX10_bestLaw 4 (some .int) 0 := ⟨gw_mem 719 (by decide +kernel) rfl, gw_mem 95 (by decide +kernel) rfl, by decide +kernel, by decide⟩
theorem dL_law__1685 : gw_dc cL_law_ 1685 (.invokevirtual 214) 3 1688 := ⟨by decide +kernel, rfl⟩
theorem dL_law__1688 : gw_dc cL_law_ 1688 (.aload_n 2) 1 1689 := ⟨by decide +kernel, rfl⟩
theorem mv_RL_217 : gw_mv RL 217 yX11_bestLaw := ⟨gw_mem 1927 (by decide +kernel) rfl, gw_mem 1928 (by decide +kernel) rfl, gw_mem 1929 (by decide +kernel) rfl⟩
theorem my_X11_bestLaw : gw_my yX11_bestLaw cX11_bestLaw 3 (some .int) 0 := ⟨gw_mem 1930 (by decide +kernel) rfl, gw_mem 106 (by decide +kernel) rfl, by decide +kernel, by decide⟩
theorem dL_law__1689 : gw_dc cL_law_ 1689 (.invokevirtual 217) 3 1692 := ⟨by decide +kernel, rfl⟩
theorem dL_law__1692 : gw_dc cL_law_ 1692 (.if_icmp .eq 581) 3 1695 := ⟨by decide +kernel, rfl⟩
theorem dL_law__1697 : gw_dc cL_law_ 1697 (.aload_n 1) 1 1698 := ⟨by decide +kernel, rfl⟩
theorem ag_1698 : gw_ag cL_law_ 1698 1 := ⟨⟨by decide +kernel, rfl⟩, ⟨by decide +kernel, rfl⟩, ⟨by decide +kernel, rfl⟩, ⟨by decide +kernel, rfl⟩, ⟨by decide +kernel, rfl⟩⟩
theorem dL_law__1704 : gw_dc cL_law_ 1704 (.aload_n 3) 1 1705 := ⟨by decide +kernel, rfl⟩
theorem ms_RL_218 : gw_mst RL 218 yL_fits := ⟨gw_mem 1315 (by decide +kernel) rfl, gw_mem 1316 (by decide +kernel) rfl⟩
theorem dL_law__1705 : gw_dc cL_law_ 1705 (.invokestatic 218) 3 1708 := ⟨by decide +kernel, rfl⟩
theorem dL_law__1708 : gw_dc cL_law_ 1708 (.istore 5) 2 1710 := ⟨by decide +kernel, rfl⟩
theorem dL_law__1710 : gw_dc cL_law_ 1710 (.aload_n 2) 1 1711 := ⟨by decide +kernel, rfl⟩
theorem ag_1711 : gw_ag cL_law_ 1711 1 := ⟨⟨by decide +kernel, rfl⟩, ⟨by decide +kernel, rfl⟩, ⟨by decide +kernel, rfl⟩, ⟨by decide +kernel, rfl⟩, ⟨by decide +kernel, rfl⟩⟩
theorem mv_RL_220 : gw_mv RL 220 yX11_fits := ⟨gw_mem 1931 (by decide +kernel) rfl, gw_mem 1932 (by decide +kernel) rfl, gw_mem 1933 (by decide +kernel) rfl⟩
theorem my_X11_fits : gw_my yX11_fits cX11_fits 4 (some .int) 1 := ⟨gw_mem 1934 (by decide +kernel) rfl, gw_mem 106 (by decide +kernel) rfl, by decide +kernel, by decide⟩
theorem dL_law__1717 : gw_dc cL_law_ 1717 (.invokevirtual 220) 3 1720 := ⟨by decide +kernel, rfl⟩
theorem dL_law__1720 : gw_dc cL_law_ 1720 (.istore 6) 2 1722 := ⟨by decide +kernel, rfl⟩
theorem t1_1722 : gw_t1 cL_law_ 1722 := ⟨⟨by decide +kernel, rfl⟩, ⟨by decide +kernel, rfl⟩, ⟨by decide +kernel, rfl⟩, ⟨by decide +kernel, rfl⟩⟩
theorem t2_1733 : gw_t2 cL_law_ 1733 523 := ⟨⟨by decide +kernel, rfl⟩, ⟨by decide +kernel, rfl⟩, ⟨by decide +kernel, rfl⟩, ⟨by decide +kernel, rfl⟩, ⟨by decide +kernel, rfl⟩, ⟨by decide +kernel, rfl⟩, ⟨by decide +kernel, rfl⟩, ⟨by decide +kernel, rfl⟩, ⟨by decide +kernel, rfl⟩, ⟨by decide +kernel, rfl⟩⟩
theorem dL_law__1753 : gw_dc cL_law_ 1753 (.aload_n 1) 1 1754 := ⟨by decide +kernel, rfl⟩
theorem ag_1754 : gw_ag cL_law_ 1754 1 := ⟨⟨by decide +kernel, rfl⟩, ⟨by decide +kernel, rfl⟩, ⟨by decide +kernel, rfl⟩, ⟨by decide +kernel, rfl⟩, ⟨by decide +kernel, rfl⟩⟩
theorem ag_1760 : gw_ag cL_law_ 1760 2 := ⟨⟨by decide +kernel, rfl⟩, ⟨by decide +kernel, rfl⟩, ⟨by decide +kernel, rfl⟩, ⟨by decide +kernel, rfl⟩, ⟨by decide +kernel, rfl⟩⟩
theorem ag_1766 : gw_ag cL_law_ 1766 3 := ⟨⟨by decide +kernel, rfl⟩, ⟨by decide +kernel, rfl⟩, ⟨by decide +kernel, rfl⟩, ⟨by decide +kernel, rfl⟩, ⟨by decide +kernel, rfl⟩⟩
theorem ag_1772 : gw_ag cL_law_ 1772 4 := ⟨⟨by decide +kernel, rfl⟩, ⟨by decide +kernel, rfl⟩, ⟨by decide +kernel, rfl⟩, ⟨by decide +kernel, rfl⟩, ⟨by decide +kernel, rfl⟩⟩
theorem dL_law__1778 : gw_dc cL_law_ 1778 (.aload_n 3) 1 1779 := ⟨by decide +kernel, rfl⟩
theorem ms_RL_221 : gw_mst RL 221 yL_day := ⟨gw_mem 1326 (by decide +kernel) rfl, gw_mem 1327 (by decide +kernel) rfl⟩
theorem dL_law__1779 : gw_dc cL_law_ 1779 (.invokestatic 221) 3 1782 := ⟨by decide +kernel, rfl⟩
theorem dL_law__1782 : gw_dc cL_law_ 1782 (.istore 5) 2 1784 := ⟨by decide +kernel, rfl⟩
theorem dL_law__1784 : gw_dc cL_law_ 1784 (.aload_n 2) 1 1785 := ⟨by decide +kernel, rfl⟩
theorem ag_1785 : gw_ag cL_law_ 1785 1 := ⟨⟨by decide +kernel, rfl⟩, ⟨by decide +kernel, rfl⟩, ⟨by decide +kernel, rfl⟩, ⟨by decide +kernel, rfl⟩, ⟨by decide +kernel, rfl⟩⟩
theorem ag_1791 : gw_ag cL_law_ 1791 2 := ⟨⟨by decide +kernel, rfl⟩, ⟨by decide +kernel, rfl⟩, ⟨by decide +kernel, rfl⟩, ⟨by decide +kernel, rfl⟩, ⟨by decide +kernel, rfl⟩⟩
theorem ag_1797 : gw_ag cL_law_ 1797 3 := ⟨⟨by decide +kernel, rfl⟩, ⟨by decide +kernel, rfl⟩, ⟨by decide +kernel, rfl⟩, ⟨by decide +kernel, rfl⟩, ⟨by decide +kernel, rfl⟩⟩
theorem ag_1803 : gw_ag cL_law_ 1803 4 := ⟨⟨by decide +kernel, rfl⟩, ⟨by decide +kernel, rfl⟩, ⟨by decide +kernel, rfl⟩, ⟨by decide +kernel, rfl⟩, ⟨by decide +kernel, rfl⟩⟩
theorem mv_RL_224 : gw_mv RL 224 yX11_day := ⟨gw_mem 1935 (by decide +kernel) rfl, gw_mem 1936 (by decide +kernel) rfl, gw_mem 1937 (by decide +kernel) rfl⟩
theorem my_X11_day : gw_my yX11_day cX11_day 5 (some .int) 4 := ⟨gw_mem 1938 (by decide +kernel) rfl, gw_mem 106 (by decide +kernel) rfl, by decide +kernel, by decide⟩
theorem dL_law__1809 : gw_dc cL_law_ 1809 (.invokevirtual 224) 3 1812 := ⟨by decide +kernel, rfl⟩
theorem dL_law__1812 : gw_dc cL_law_ 1812 (.istore 6) 2 1814 := ⟨by decide +kernel, rfl⟩
theorem t1_1814 : gw_t1 cL_law_ 1814 := ⟨⟨by decide +kernel, rfl⟩, ⟨by decide +kernel, rfl⟩, ⟨by decide +kernel, rfl⟩, ⟨by decide +kernel, rfl⟩⟩
theorem t2_1825 : gw_t2 cL_law_ 1825 431 := ⟨⟨by decide +kernel, rfl⟩, ⟨by decide +kernel, rfl⟩, ⟨by decide +kernel, rfl⟩, ⟨by decide +kernel, rfl⟩, ⟨by decide +kernel, rfl⟩, ⟨by decide +kernel, rfl⟩, ⟨by decide +kernel, rfl⟩, ⟨by decide +kernel, rfl⟩, ⟨by decide +kernel, rfl⟩, ⟨by decide +kernel, rfl⟩⟩
section LW
variable {X : Cx} {G : Gl} {L : Nat} {xs : Nat → Int32} {Z : State → Prop} {kc ks : Nat} {ad : Nat → Nat} {σ : Sg} {i : Nat} {a b c : Option AV}
set_option maxRecDepth 4000 in
theorem law_24 (fx : gw_FX X FL G) (nc : gw_NC (cS X)) (sc : gw_SC X G L xs) (hR : Rel σ σ) (hi : i + 6 ≤ L) (hb : kc + 4 ≤ 601024 ∧ ks + 24 ≤ 7293034) (kk : ∀ kc2 ks2 σ2 a b c, kc2 ≤ kc + 4 → ks2 ≤ ks + 24 → Rel σ2 σ2 → gw_W X FL G Z kc2 ks2 (gw_M0 ad) σ2 2273 (lsL i a b c) []) : gw_W X FL G Z kc ks (gw_M0 ad) σ 1424 (lsL i a b c) [] := by
  refine g_aload_n fx dL_law__1424 rfl ?_
  refine g_arg 1 fx sc ag_1425 (by decide) hi ?_
  refine g_arg 2 fx sc ag_1431 (by decide) hi ?_
  refine g_aload_n fx dL_law__1437 rfl ?_
  refine g_callSH fx nc dL_law__1438 ms_RL_202 myH_L_when (w_when ad σ ((xs (i + 1)).toInt) ((xs (i + 2)).toInt) (al_when hR ((xs (i + 1)).toInt) ((xs (i + 2)).toInt)).mem) rfl rfl (Nat.le_of_ble_eq_true rfl) (by decide) ⟨by show _ ≤ 601024; omega, by show _ ≤ 7293034; omega⟩ (fun E hE => hE.elim) (fun r M2 σ2 hq _ => ?_)
  obtain ⟨rfl, ⟨h0, rfl, rfl⟩ | ⟨j, E, hE, hj, rfl, rfl⟩⟩ := hq
  · show gw_W X FL G Z _ _ _ _ _ _ (vI 0 :: [])
    have hR1 := hR.out (z := ((zWhen σ ((xs (i + 1)).toInt) ((xs (i + 2)).toInt)).2)) (oz_when σ ((xs (i + 1)).toInt) ((xs (i + 2)).toInt)) ((zWhen σ ((xs (i + 1)).toInt) ((xs (i + 2)).toInt)).1)
    have al := al_when hR1 ((xs (i + 1)).toInt) ((xs (i + 2)).toInt)
    rw [h0] at al
    obtain ⟨h5, h8, hR2⟩ := al.fin8 (on_when _ ((xs (i + 1)).toInt) ((xs (i + 2)).toInt) 601)
    refine g_istore fx dL_law__1441 (by decide) rfl rfl ?_
    refine g_aload_n fx dL_law__1443 rfl ?_
    refine g_arg 1 fx sc ag_1444 (by decide) hi ?_
    refine g_arg 2 fx sc ag_1450 (by decide) hi ?_
    refine g_callVD fx dL_law__1456 mv_RL_204 my_X11_when (s_X11_when ad _ ((xs (i + 1)).toInt) ((xs (i + 2)).toInt) 601 rfl hR1.tw) o_223 rfl rfl rfl (Nat.le_of_ble_eq_true rfl) (by decide) ⟨by show _ ≤ 601024; omega, by show _ ≤ 7293034; omega⟩ ?_
    refine g_istore fx dL_law__1459 (by decide) rfl rfl ?_
    refine g_t1 fx t1_1461 ⟨by show _ ≤ 601024; omega, by show _ ≤ 7293034; omega⟩ h5 ?_
    exact g_t2 (tgt := 2273) fx t2_1472 (by decide) (fun h => h8) (kk _ _ _ _ _ _ (by omega) (by omega) hR2)
  · show gw_W X FL G Z _ _ _ _ _ _ (vI (((j : Nat) : Int) + 1) :: [])
    obtain ⟨h5, hR2⟩ := (al_when hR ((xs (i + 1)).toInt) ((xs (i + 2)).toInt)).thr hE hj (by decide) (on_when _ ((xs (i + 1)).toInt) ((xs (i + 2)).toInt) 601)
    refine g_istore fx dL_law__1441 (by decide) rfl rfl ?_
    refine g_aload_n fx dL_law__1443 rfl ?_
    refine g_arg 1 fx sc ag_1444 (by decide) hi ?_
    refine g_arg 2 fx sc ag_1450 (by decide) hi ?_
    refine g_callVD fx dL_law__1456 mv_RL_204 my_X11_when (s_X11_when ad _ ((xs (i + 1)).toInt) ((xs (i + 2)).toInt) 601 rfl hR.tw) o_223 rfl rfl rfl (Nat.le_of_ble_eq_true rfl) (by decide) ⟨by show _ ≤ 601024; omega, by show _ ≤ 7293034; omega⟩ ?_
    refine g_istore fx dL_law__1459 (by decide) rfl rfl ?_
    refine g_t1 fx t1_1461 ⟨by show _ ≤ 601024; omega, by show _ ≤ 7293034; omega⟩ h5 ?_
    exact g_t2 (tgt := 2273) fx t2_1472 (by decide) (fun h => absurd h (by omega)) (kk _ _ _ _ _ _ (by omega) (by omega) hR2)
set_option maxRecDepth 4000 in
theorem law_25 (fx : gw_FX X FL G) (nc : gw_NC (cS X)) (sc : gw_SC X G L xs) (hR : Rel σ σ) (hi : i + 6 ≤ L) (hb : kc + 4 ≤ 601024 ∧ ks + 24 ≤ 7293034) (kk : ∀ kc2 ks2 σ2 a b c, kc2 ≤ kc + 4 → ks2 ≤ ks + 24 → Rel σ2 σ2 → gw_W X FL G Z kc2 ks2 (gw_M0 ad) σ2 2273 (lsL i a b c) []) : gw_W X FL G Z kc ks (gw_M0 ad) σ 1492 (lsL i a b c) [] := by
  refine g_aload_n fx dL_law__1492 rfl ?_
  refine g_arg 1 fx sc ag_1493 (by decide) hi ?_
  refine g_aload_n fx dL_law__1499 rfl ?_
  refine g_callSH fx nc dL_law__1500 ms_RL_205 myH_L_heaviest (w_heaviest ad σ ((xs (i + 1)).toInt) (al_heaviest hR ((xs (i + 1)).toInt)).mem) rfl rfl (Nat.le_of_ble_eq_true rfl) (by decide) ⟨by show _ ≤ 601024; omega, by show _ ≤ 7293034; omega⟩ (fun E hE => hE.elim) (fun r M2 σ2 hq _ => ?_)
  obtain ⟨rfl, ⟨h0, rfl, rfl⟩ | ⟨j, E, hE, hj, rfl, rfl⟩⟩ := hq
  · show gw_W X FL G Z _ _ _ _ _ _ (vI 0 :: [])
    have hR1 := hR.out (z := ((zHv ((xs (i + 1)).toInt) 99 (mCopy σ 74 4)).2)) ((oz_74 σ).tr (oz_hv ((xs (i + 1)).toInt) 99 _)) ((zHv ((xs (i + 1)).toInt) 99 (mCopy σ 74 4)).1)
    have al := al_heaviest hR1 ((xs (i + 1)).toInt)
    rw [h0] at al
    obtain ⟨h5, h8, hR2⟩ := al.fin8 (on_hv _ ((xs (i + 1)).toInt) 99)
    refine g_istore fx dL_law__1503 (by decide) rfl rfl ?_
    refine g_aload_n fx dL_law__1505 rfl ?_
    refine g_arg 1 fx sc ag_1506 (by decide) hi ?_
    refine g_callVD fx dL_law__1512 mv_RL_207 my_X11_heaviest (s_X11_heaviest ad _ ((xs (i + 1)).toInt) 99 rfl hR1.tw) o_223 rfl rfl rfl (Nat.le_of_ble_eq_true rfl) (by decide) ⟨by show _ ≤ 601024; omega, by show _ ≤ 7293034; omega⟩ ?_
    refine g_istore fx dL_law__1515 (by decide) rfl rfl ?_
    refine g_t1 fx t1_1517 ⟨by show _ ≤ 601024; omega, by show _ ≤ 7293034; omega⟩ h5 ?_
    exact g_t2 (tgt := 2273) fx t2_1528 (by decide) (fun h => h8) (kk _ _ _ _ _ _ (by omega) (by omega) hR2)
  · show gw_W X FL G Z _ _ _ _ _ _ (vI (((j : Nat) : Int) + 1) :: [])
    obtain ⟨h5, hR2⟩ := (al_heaviest hR ((xs (i + 1)).toInt)).thr hE hj (by decide) (on_hv _ ((xs (i + 1)).toInt) 99)
    refine g_istore fx dL_law__1503 (by decide) rfl rfl ?_
    refine g_aload_n fx dL_law__1505 rfl ?_
    refine g_arg 1 fx sc ag_1506 (by decide) hi ?_
    refine g_callVD fx dL_law__1512 mv_RL_207 my_X11_heaviest (s_X11_heaviest ad _ ((xs (i + 1)).toInt) 99 rfl hR.tw) o_223 rfl rfl rfl (Nat.le_of_ble_eq_true rfl) (by decide) ⟨by show _ ≤ 601024; omega, by show _ ≤ 7293034; omega⟩ ?_
    refine g_istore fx dL_law__1515 (by decide) rfl rfl ?_
    refine g_t1 fx t1_1517 ⟨by show _ ≤ 601024; omega, by show _ ≤ 7293034; omega⟩ h5 ?_
    exact g_t2 (tgt := 2273) fx t2_1528 (by decide) (fun h => absurd h (by omega)) (kk _ _ _ _ _ _ (by omega) (by omega) hR2)
set_option maxRecDepth 4000 in
theorem law_26 (fx : gw_FX X FL G) (nc : gw_NC (cS X)) (sc : gw_SC X G L xs) (hR : Rel σ σ) (hi : i + 6 ≤ L) (hb : kc + 4 ≤ 601024 ∧ ks + 24 ≤ 7293034) (kk : ∀ kc2 ks2 σ2 a b c, kc2 ≤ kc + 4 → ks2 ≤ ks + 24 → Rel σ2 σ2 → gw_W X FL G Z kc2 ks2 (gw_M0 ad) σ2 2273 (lsL i a b c) []) : gw_W X FL G Z kc ks (gw_M0 ad) σ 1548 (lsL i a b c) [] := by
  refine g_aload_n fx dL_law__1548 rfl ?_
  refine g_arg 1 fx sc ag_1549 (by decide) hi ?_
  refine g_arg 2 fx sc ag_1555 (by decide) hi ?_
  refine g_arg 3 fx sc ag_1561 (by decide) hi ?_
  refine g_aload_n fx dL_law__1567 rfl ?_
  refine g_callSH fx nc dL_law__1568 ms_RL_208 myH_L_lend (w_lend ad σ ((xs (i + 1)).toInt) ((xs (i + 2)).toInt) ((xs (i + 3)).toInt) (al_lend hR ((xs (i + 1)).toInt) ((xs (i + 2)).toInt) ((xs (i + 3)).toInt)).mem) rfl rfl (Nat.le_of_ble_eq_true rfl) (by decide) ⟨by show _ ≤ 601024; omega, by show _ ≤ 7293034; omega⟩ (fun E hE => hE.elim) (fun r M2 σ2 hq _ => ?_)
  obtain ⟨rfl, ⟨h0, rfl, rfl⟩ | ⟨j, E, hE, hj, rfl, rfl⟩⟩ := hq
  · show gw_W X FL G Z _ _ _ _ _ _ (vI 0 :: [])
    have hR1 := hR.out (z := (zLend σ ((xs (i + 1)).toInt) ((xs (i + 2)).toInt) ((xs (i + 3)).toInt))) (oz_lend σ ((xs (i + 1)).toInt) ((xs (i + 2)).toInt) ((xs (i + 3)).toInt)) ((wr (coF (zLend σ ((xs (i + 1)).toInt) ((xs (i + 2)).toInt) ((xs (i + 3)).toInt)) 96 74 - coF (zLend σ ((xs (i + 1)).toInt) ((xs (i + 2)).toInt) ((xs (i + 3)).toInt)) 26 4)))
    have al := al_lend hR1 ((xs (i + 1)).toInt) ((xs (i + 2)).toInt) ((xs (i + 3)).toInt)
    rw [h0] at al
    obtain ⟨h5, h8, hR2⟩ := al.fin8 (on_lend _ ((xs (i + 1)).toInt) ((xs (i + 2)).toInt) ((xs (i + 3)).toInt))
    refine g_istore fx dL_law__1571 (by decide) rfl rfl ?_
    refine g_aload_n fx dL_law__1573 rfl ?_
    refine g_arg 1 fx sc ag_1574 (by decide) hi ?_
    refine g_arg 2 fx sc ag_1580 (by decide) hi ?_
    refine g_arg 3 fx sc ag_1586 (by decide) hi ?_
    refine g_callVD fx dL_law__1592 mv_RL_210 my_X11_lend (s_X11_lend ad _ ((xs (i + 1)).toInt) ((xs (i + 2)).toInt) ((xs (i + 3)).toInt) hR1.tw) o_223 rfl rfl rfl (Nat.le_of_ble_eq_true rfl) (by decide) ⟨by show _ ≤ 601024; omega, by show _ ≤ 7293034; omega⟩ ?_
    refine g_istore fx dL_law__1595 (by decide) rfl rfl ?_
    refine g_t1 fx t1_1597 ⟨by show _ ≤ 601024; omega, by show _ ≤ 7293034; omega⟩ h5 ?_
    exact g_t2 (tgt := 2273) fx t2_1608 (by decide) (fun h => h8) (kk _ _ _ _ _ _ (by omega) (by omega) hR2)
  · show gw_W X FL G Z _ _ _ _ _ _ (vI (((j : Nat) : Int) + 1) :: [])
    obtain ⟨h5, hR2⟩ := (al_lend hR ((xs (i + 1)).toInt) ((xs (i + 2)).toInt) ((xs (i + 3)).toInt)).thr hE hj (by decide) (on_lend _ ((xs (i + 1)).toInt) ((xs (i + 2)).toInt) ((xs (i + 3)).toInt))
    refine g_istore fx dL_law__1571 (by decide) rfl rfl ?_
    refine g_aload_n fx dL_law__1573 rfl ?_
    refine g_arg 1 fx sc ag_1574 (by decide) hi ?_
    refine g_arg 2 fx sc ag_1580 (by decide) hi ?_
    refine g_arg 3 fx sc ag_1586 (by decide) hi ?_
    refine g_callVD fx dL_law__1592 mv_RL_210 my_X11_lend (s_X11_lend ad _ ((xs (i + 1)).toInt) ((xs (i + 2)).toInt) ((xs (i + 3)).toInt) hR.tw) o_223 rfl rfl rfl (Nat.le_of_ble_eq_true rfl) (by decide) ⟨by show _ ≤ 601024; omega, by show _ ≤ 7293034; omega⟩ ?_
    refine g_istore fx dL_law__1595 (by decide) rfl rfl ?_
    refine g_t1 fx t1_1597 ⟨by show _ ≤ 601024; omega, by show _ ≤ 7293034; omega⟩ h5 ?_
    exact g_t2 (tgt := 2273) fx t2_1608 (by decide) (fun h => absurd h (by omega)) (kk _ _ _ _ _ _ (by omega) (by omega) hR2)
set_option maxRecDepth 4000 in
theorem law_27 (fx : gw_FX X FL G) (nc : gw_NC (cS X)) (sc : gw_SC X G L xs) (hR : Rel σ σ) (hi : i + 6 ≤ L) (hb : kc + 4 ≤ 601024 ∧ ks + 24 ≤ 7293034) (kk : ∀ kc2 ks2 σ2 a b c, kc2 ≤ kc + 4 → ks2 ≤ ks + 24 → Rel σ2 σ2 → gw_W X FL G Z kc2 ks2 (gw_M0 ad) σ2 2273 (lsL i a b c) []) : gw_W X FL G Z kc ks (gw_M0 ad) σ 1628 (lsL i a b c) [] := by
  refine g_aload_n fx dL_law__1628 rfl ?_
  refine g_arg 1 fx sc ag_1629 (by decide) hi ?_
  refine g_aload_n fx dL_law__1635 rfl ?_
  refine g_callSH fx nc dL_law__1636 ms_RL_211 myH_L_by (w_by ad σ ((xs (i + 1)).toInt) (al_by hR ((xs (i + 1)).toInt)).mem) rfl rfl (Nat.le_of_ble_eq_true rfl) (by decide) ⟨by show _ ≤ 601024; omega, by show _ ≤ 7293034; omega⟩ (fun E hE => hE.elim) (fun r M2 σ2 hq _ => ?_)
  obtain ⟨rfl, ⟨h0, rfl, rfl⟩ | ⟨j, E, hE, hj, rfl, rfl⟩⟩ := hq
  · show gw_W X FL G Z _ _ _ _ _ _ (vI 0 :: [])
    have hR1 := hR.out (z := (zRb σ ((xs (i + 1)).toInt))) (oz_rb σ ((xs (i + 1)).toInt)) ((coF (zRb σ ((xs (i + 1)).toInt)) 96 74))
    have al := al_by hR1 ((xs (i + 1)).toInt)
    rw [h0] at al
    obtain ⟨h5, h8, hR2⟩ := al.fin8 (on_by _ ((xs (i + 1)).toInt))
    refine g_istore fx dL_law__1639 (by decide) rfl rfl ?_
    refine g_aload_n fx dL_law__1641 rfl ?_
    refine g_arg 1 fx sc ag_1642 (by decide) hi ?_
    refine g_callVD fx dL_law__1648 mv_RL_213 my_X11_by (s_X11_by ad _ ((xs (i + 1)).toInt) hR1.tw) o_223 rfl rfl rfl (Nat.le_of_ble_eq_true rfl) (by decide) ⟨by show _ ≤ 601024; omega, by show _ ≤ 7293034; omega⟩ ?_
    refine g_istore fx dL_law__1651 (by decide) rfl rfl ?_
    refine g_t1 fx t1_1653 ⟨by show _ ≤ 601024; omega, by show _ ≤ 7293034; omega⟩ h5 ?_
    exact g_t2 (tgt := 2273) fx t2_1664 (by decide) (fun h => h8) (kk _ _ _ _ _ _ (by omega) (by omega) hR2)
  · show gw_W X FL G Z _ _ _ _ _ _ (vI (((j : Nat) : Int) + 1) :: [])
    obtain ⟨h5, hR2⟩ := (al_by hR ((xs (i + 1)).toInt)).thr hE hj (by decide) (on_by _ ((xs (i + 1)).toInt))
    refine g_istore fx dL_law__1639 (by decide) rfl rfl ?_
    refine g_aload_n fx dL_law__1641 rfl ?_
    refine g_arg 1 fx sc ag_1642 (by decide) hi ?_
    refine g_callVD fx dL_law__1648 mv_RL_213 my_X11_by (s_X11_by ad _ ((xs (i + 1)).toInt) hR.tw) o_223 rfl rfl rfl (Nat.le_of_ble_eq_true rfl) (by decide) ⟨by show _ ≤ 601024; omega, by show _ ≤ 7293034; omega⟩ ?_
    refine g_istore fx dL_law__1651 (by decide) rfl rfl ?_
    refine g_t1 fx t1_1653 ⟨by show _ ≤ 601024; omega, by show _ ≤ 7293034; omega⟩ h5 ?_
    exact g_t2 (tgt := 2273) fx t2_1664 (by decide) (fun h => absurd h (by omega)) (kk _ _ _ _ _ _ (by omega) (by omega) hR2)
set_option maxRecDepth 4000 in
theorem law_28 (fx : gw_FX X FL G) (nc : gw_NC (cS X)) (sc : gw_SC X G L xs) (hR : Rel σ σ) (hi : i + 6 ≤ L) (hb : kc + 4 ≤ 601024 ∧ ks + 24 ≤ 7293034) (kk : ∀ kc2 ks2 σ2 a b c, kc2 ≤ kc + 4 → ks2 ≤ ks + 24 → Rel σ2 σ2 → gw_W X FL G Z kc2 ks2 (gw_M0 ad) σ2 2273 (lsL i a b c) []) : gw_W X FL G Z kc ks (gw_M0 ad) σ 1684 (lsL i a b c) [] := by
  refine g_aload_n fx dL_law__1684 rfl ?_
  refine g_callVD fx dL_law__1685 mv_RL_214 my_X10_bestLaw (s_X10_bestLaw ad σ ) o_0 rfl rfl rfl (Nat.le_of_ble_eq_true rfl) (by decide) ⟨by show _ ≤ 601024; omega, by show _ ≤ 7293034; omega⟩ ?_
  have hR1 := hR.oz (oz_bl σ)
  obtain ⟨-, hv, hR2⟩ := (al_bestLaw hR1 ).fin ((on_t0 _).tr (on_bl _ 7)) (fun _ _ _ => rfl)
  refine g_aload_n fx dL_law__1688 rfl ?_
  refine g_callVD fx dL_law__1689 mv_RL_217 my_X11_bestLaw (s_X11_bestLaw ad _  hR1.tw) o_223 rfl rfl rfl (Nat.le_of_ble_eq_true rfl) (by decide) ⟨by show _ ≤ 601024; omega, by show _ ≤ 7293034; omega⟩ ?_
  exact g_icmp_eq (tgt := 2273) fx dL_law__1692 (by decide) (fun _ => kk _ _ _ _ _ _ (by omega) (by omega) hR2) (fun h => absurd hv h)
set_option maxRecDepth 4000 in
theorem law_29 (fx : gw_FX X FL G) (nc : gw_NC (cS X)) (sc : gw_SC X G L xs) (hR : Rel σ σ) (hi : i + 6 ≤ L) (hb : kc + 4 ≤ 601024 ∧ ks + 24 ≤ 7293034) (kk : ∀ kc2 ks2 σ2 a b c, kc2 ≤ kc + 4 → ks2 ≤ ks + 24 → Rel σ2 σ2 → gw_W X FL G Z kc2 ks2 (gw_M0 ad) σ2 2273 (lsL i a b c) []) : gw_W X FL G Z kc ks (gw_M0 ad) σ 1697 (lsL i a b c) [] := by
  refine g_aload_n fx dL_law__1697 rfl ?_
  refine g_arg 1 fx sc ag_1698 (by decide) hi ?_
  refine g_aload_n fx dL_law__1704 rfl ?_
  refine g_callSH fx nc dL_law__1705 ms_RL_218 myH_L_fits (w_fits ad σ ((xs (i + 1)).toInt) (al_fits hR ((xs (i + 1)).toInt)).mem) rfl rfl (Nat.le_of_ble_eq_true rfl) (by decide) ⟨by show _ ≤ 601024; omega, by show _ ≤ 7293034; omega⟩ (fun E hE => hE.elim) (fun r M2 σ2 hq _ => ?_)
  obtain ⟨rfl, ⟨h0, rfl, rfl⟩ | ⟨j, E, hE, hj, rfl, rfl⟩⟩ := hq
  · show gw_W X FL G Z _ _ _ _ _ _ (vI 0 :: [])
    have hR1 := hR.out (z := ((zFit σ (trT ((xs (i + 1)).toInt))).2)) (oz_fit σ _) ((zFit σ (trT ((xs (i + 1)).toInt))).1)
    have al := al_fits hR1 ((xs (i + 1)).toInt)
    rw [h0] at al
    obtain ⟨h5, h8, hR2⟩ := al.fin8 (on_fits _ ((xs (i + 1)).toInt))
    refine g_istore fx dL_law__1708 (by decide) rfl rfl ?_
    refine g_aload_n fx dL_law__1710 rfl ?_
    refine g_arg 1 fx sc ag_1711 (by decide) hi ?_
    refine g_callVD fx dL_law__1717 mv_RL_220 my_X11_fits (s_X11_fits ad _ ((xs (i + 1)).toInt) hR1.tw hR1.trw) o_223 rfl rfl rfl (Nat.le_of_ble_eq_true rfl) (by decide) ⟨by show _ ≤ 601024; omega, by show _ ≤ 7293034; omega⟩ ?_
    refine g_istore fx dL_law__1720 (by decide) rfl rfl ?_
    refine g_t1 fx t1_1722 ⟨by show _ ≤ 601024; omega, by show _ ≤ 7293034; omega⟩ h5 ?_
    exact g_t2 (tgt := 2273) fx t2_1733 (by decide) (fun h => h8) (kk _ _ _ _ _ _ (by omega) (by omega) hR2)
  · show gw_W X FL G Z _ _ _ _ _ _ (vI (((j : Nat) : Int) + 1) :: [])
    obtain ⟨h5, hR2⟩ := (al_fits hR ((xs (i + 1)).toInt)).thr hE hj (by decide) (on_fits _ ((xs (i + 1)).toInt))
    refine g_istore fx dL_law__1708 (by decide) rfl rfl ?_
    refine g_aload_n fx dL_law__1710 rfl ?_
    refine g_arg 1 fx sc ag_1711 (by decide) hi ?_
    refine g_callVD fx dL_law__1717 mv_RL_220 my_X11_fits (s_X11_fits ad _ ((xs (i + 1)).toInt) hR.tw hR.trw) o_223 rfl rfl rfl (Nat.le_of_ble_eq_true rfl) (by decide) ⟨by show _ ≤ 601024; omega, by show _ ≤ 7293034; omega⟩ ?_
    refine g_istore fx dL_law__1720 (by decide) rfl rfl ?_
    refine g_t1 fx t1_1722 ⟨by show _ ≤ 601024; omega, by show _ ≤ 7293034; omega⟩ h5 ?_
    exact g_t2 (tgt := 2273) fx t2_1733 (by decide) (fun h => absurd h (by omega)) (kk _ _ _ _ _ _ (by omega) (by omega) hR2)
set_option maxRecDepth 4000 in
theorem law_30 (fx : gw_FX X FL G) (nc : gw_NC (cS X)) (sc : gw_SC X G L xs) (hR : Rel σ σ) (hi : i + 6 ≤ L) (hb : kc + 4 ≤ 601024 ∧ ks + 24 ≤ 7293034) (kk : ∀ kc2 ks2 σ2 a b c, kc2 ≤ kc + 4 → ks2 ≤ ks + 24 → Rel σ2 σ2 → gw_W X FL G Z kc2 ks2 (gw_M0 ad) σ2 2273 (lsL i a b c) []) : gw_W X FL G Z kc ks (gw_M0 ad) σ 1753 (lsL i a b c) [] := by
  refine g_aload_n fx dL_law__1753 rfl ?_
  refine g_arg 1 fx sc ag_1754 (by decide) hi ?_
  refine g_arg 2 fx sc ag_1760 (by decide) hi ?_
  refine g_arg 3 fx sc ag_1766 (by decide) hi ?_
  refine g_arg 4 fx sc ag_1772 (by decide) hi ?_
  refine g_aload_n fx dL_law__1778 rfl ?_
  refine g_callSH fx nc dL_law__1779 ms_RL_221 myH_L_day (w_day ad σ ((xs (i + 1)).toInt) ((xs (i + 2)).toInt) ((xs (i + 3)).toInt) ((xs (i + 4)).toInt) (al_day hR ((xs (i + 1)).toInt) ((xs (i + 2)).toInt) ((xs (i + 3)).toInt) ((xs (i + 4)).toInt)).mem) rfl rfl (Nat.le_of_ble_eq_true rfl) (by decide) ⟨by show _ ≤ 601024; omega, by show _ ≤ 7293034; omega⟩ (fun E hE => hE.elim) (fun r M2 σ2 hq _ => ?_)
  obtain ⟨rfl, ⟨h0, rfl, rfl⟩ | ⟨j, E, hE, hj, rfl, rfl⟩⟩ := hq
  · show gw_W X FL G Z _ _ _ _ _ _ (vI 0 :: [])
    have hR1 := hR.out (z := (zDay σ ((xs (i + 2)).toInt) ((xs (i + 3)).toInt) ((xs (i + 4)).toInt))) (oz_day σ ((xs (i + 2)).toInt) ((xs (i + 3)).toInt) ((xs (i + 4)).toInt)) ((uW (zDay σ ((xs (i + 2)).toInt) ((xs (i + 3)).toInt) ((xs (i + 4)).toInt)) 96 74 ((xs (i + 1)).toInt)))
    have al := al_day hR1 ((xs (i + 1)).toInt) ((xs (i + 2)).toInt) ((xs (i + 3)).toInt) ((xs (i + 4)).toInt)
    rw [h0] at al
    obtain ⟨h5, h8, hR2⟩ := al.fin8 (on_day _ ((xs (i + 1)).toInt) ((xs (i + 2)).toInt) ((xs (i + 3)).toInt) ((xs (i + 4)).toInt) 300)
    refine g_istore fx dL_law__1782 (by decide) rfl rfl ?_
    refine g_aload_n fx dL_law__1784 rfl ?_
    refine g_arg 1 fx sc ag_1785 (by decide) hi ?_
    refine g_arg 2 fx sc ag_1791 (by decide) hi ?_
    refine g_arg 3 fx sc ag_1797 (by decide) hi ?_
    refine g_arg 4 fx sc ag_1803 (by decide) hi ?_
    refine g_callVD fx dL_law__1809 mv_RL_224 my_X11_day (s_X11_day ad _ ((xs (i + 1)).toInt) ((xs (i + 2)).toInt) ((xs (i + 3)).toInt) ((xs (i + 4)).toInt) 300 rfl hR1.tw) o_223 rfl rfl rfl (Nat.le_of_ble_eq_true rfl) (by decide) ⟨by show _ ≤ 601024; omega, by show _ ≤ 7293034; omega⟩ ?_
    refine g_istore fx dL_law__1812 (by decide) rfl rfl ?_
    refine g_t1 fx t1_1814 ⟨by show _ ≤ 601024; omega, by show _ ≤ 7293034; omega⟩ h5 ?_
    exact g_t2 (tgt := 2273) fx t2_1825 (by decide) (fun h => h8) (kk _ _ _ _ _ _ (by omega) (by omega) hR2)
  · show gw_W X FL G Z _ _ _ _ _ _ (vI (((j : Nat) : Int) + 1) :: [])
    obtain ⟨h5, hR2⟩ := (al_day hR ((xs (i + 1)).toInt) ((xs (i + 2)).toInt) ((xs (i + 3)).toInt) ((xs (i + 4)).toInt)).thr hE hj (by decide) (on_day _ ((xs (i + 1)).toInt) ((xs (i + 2)).toInt) ((xs (i + 3)).toInt) ((xs (i + 4)).toInt) 300)
    refine g_istore fx dL_law__1782 (by decide) rfl rfl ?_
    refine g_aload_n fx dL_law__1784 rfl ?_
    refine g_arg 1 fx sc ag_1785 (by decide) hi ?_
    refine g_arg 2 fx sc ag_1791 (by decide) hi ?_
    refine g_arg 3 fx sc ag_1797 (by decide) hi ?_
    refine g_arg 4 fx sc ag_1803 (by decide) hi ?_
    refine g_callVD fx dL_law__1809 mv_RL_224 my_X11_day (s_X11_day ad _ ((xs (i + 1)).toInt) ((xs (i + 2)).toInt) ((xs (i + 3)).toInt) ((xs (i + 4)).toInt) 300 rfl hR.tw) o_223 rfl rfl rfl (Nat.le_of_ble_eq_true rfl) (by decide) ⟨by show _ ≤ 601024; omega, by show _ ≤ 7293034; omega⟩ ?_
    refine g_istore fx dL_law__1812 (by decide) rfl rfl ?_
    refine g_t1 fx t1_1814 ⟨by show _ ≤ 601024; omega, by show _ ≤ 7293034; omega⟩ h5 ?_
    exact g_t2 (tgt := 2273) fx t2_1825 (by decide) (fun h => absurd h (by omega)) (kk _ _ _ _ _ _ (by omega) (by omega) hR2)
end LW
