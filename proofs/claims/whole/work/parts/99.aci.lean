/-! THE LAW, 13: its rows, one by one -/
theorem dL_law__1845 : gw_dc cL_law_ 1845 (.aload_n 1) 1 1846 := ⟨by decide +kernel, rfl⟩
theorem ag_1846 : gw_ag cL_law_ 1846 1 := ⟨⟨by decide +kernel, rfl⟩, ⟨by decide +kernel, rfl⟩, ⟨by decide +kernel, rfl⟩, ⟨by decide +kernel, rfl⟩, ⟨by decide +kernel, rfl⟩⟩
theorem ag_1852 : gw_ag cL_law_ 1852 2 := ⟨⟨by decide +kernel, rfl⟩, ⟨by decide +kernel, rfl⟩, ⟨by decide +kernel, rfl⟩, ⟨by decide +kernel, rfl⟩, ⟨by decide +kernel, rfl⟩⟩
theorem ag_1858 : gw_ag cL_law_ 1858 3 := ⟨⟨by decide +kernel, rfl⟩, ⟨by decide +kernel, rfl⟩, ⟨by decide +kernel, rfl⟩, ⟨by decide +kernel, rfl⟩, ⟨by decide +kernel, rfl⟩⟩
theorem ag_1864 : gw_ag cL_law_ 1864 4 := ⟨⟨by decide +kernel, rfl⟩, ⟨by decide +kernel, rfl⟩, ⟨by decide +kernel, rfl⟩, ⟨by decide +kernel, rfl⟩, ⟨by decide +kernel, rfl⟩⟩
theorem ag_1870 : gw_ag cL_law_ 1870 5 := ⟨⟨by decide +kernel, rfl⟩, ⟨by decide +kernel, rfl⟩, ⟨by decide +kernel, rfl⟩, ⟨by decide +kernel, rfl⟩, ⟨by decide +kernel, rfl⟩⟩
theorem dL_law__1876 : gw_dc cL_law_ 1876 (.aload_n 3) 1 1877 := ⟨by decide +kernel, rfl⟩
theorem ms_RL_225 : gw_mst RL 225 yL_days := ⟨gw_mem 1351 (by decide +kernel) rfl, gw_mem 1352 (by decide +kernel) rfl⟩
theorem dL_law__1877 : gw_dc cL_law_ 1877 (.invokestatic 225) 3 1880 := ⟨by decide +kernel, rfl⟩
theorem dL_law__1880 : gw_dc cL_law_ 1880 (.istore 5) 2 1882 := ⟨by decide +kernel, rfl⟩
theorem dL_law__1882 : gw_dc cL_law_ 1882 (.aload_n 2) 1 1883 := ⟨by decide +kernel, rfl⟩
theorem ag_1883 : gw_ag cL_law_ 1883 1 := ⟨⟨by decide +kernel, rfl⟩, ⟨by decide +kernel, rfl⟩, ⟨by decide +kernel, rfl⟩, ⟨by decide +kernel, rfl⟩, ⟨by decide +kernel, rfl⟩⟩
theorem ag_1889 : gw_ag cL_law_ 1889 2 := ⟨⟨by decide +kernel, rfl⟩, ⟨by decide +kernel, rfl⟩, ⟨by decide +kernel, rfl⟩, ⟨by decide +kernel, rfl⟩, ⟨by decide +kernel, rfl⟩⟩
theorem ag_1895 : gw_ag cL_law_ 1895 3 := ⟨⟨by decide +kernel, rfl⟩, ⟨by decide +kernel, rfl⟩, ⟨by decide +kernel, rfl⟩, ⟨by decide +kernel, rfl⟩, ⟨by decide +kernel, rfl⟩⟩
theorem ag_1901 : gw_ag cL_law_ 1901 4 := ⟨⟨by decide +kernel, rfl⟩, ⟨by decide +kernel, rfl⟩, ⟨by decide +kernel, rfl⟩, ⟨by decide +kernel, rfl⟩, ⟨by decide +kernel, rfl⟩⟩
theorem ag_1907 : gw_ag cL_law_ 1907 5 := ⟨⟨by decide +kernel, rfl⟩, ⟨by decide +kernel, rfl⟩, ⟨by decide +kernel, rfl⟩, ⟨by decide +kernel, rfl⟩, ⟨by decide +kernel, rfl⟩⟩
theorem mv_RL_228 : gw_mv RL 228 yX11_days := ⟨gw_mem 1952 (by decide +kernel) rfl, gw_mem 1953 (by decide +kernel) rfl, gw_mem 1954 (by decide +kernel) rfl⟩
theorem my_X11_days : gw_my yX11_days cX11_days 11 (some .int) 5 := ⟨gw_mem 1955 (by decide +kernel) rfl, gw_mem 106 (by decide +kernel) rfl, by decide +kernel, by decide⟩
theorem dL_law__1913 : gw_dc cL_law_ 1913 (.invokevirtual 228) 3 1916 := ⟨by decide +kernel, rfl⟩
theorem dL_law__1916 : gw_dc cL_law_ 1916 (.istore 6) 2 1918 := ⟨by decide +kernel, rfl⟩
theorem t1_1918 : gw_t1 cL_law_ 1918 := ⟨⟨by decide +kernel, rfl⟩, ⟨by decide +kernel, rfl⟩, ⟨by decide +kernel, rfl⟩, ⟨by decide +kernel, rfl⟩⟩
theorem t2_1929 : gw_t2 cL_law_ 1929 327 := ⟨⟨by decide +kernel, rfl⟩, ⟨by decide +kernel, rfl⟩, ⟨by decide +kernel, rfl⟩, ⟨by decide +kernel, rfl⟩, ⟨by decide +kernel, rfl⟩, ⟨by decide +kernel, rfl⟩, ⟨by decide +kernel, rfl⟩, ⟨by decide +kernel, rfl⟩, ⟨by decide +kernel, rfl⟩, ⟨by decide +kernel, rfl⟩⟩
theorem dL_law__1949 : gw_dc cL_law_ 1949 (.aload_n 1) 1 1950 := ⟨by decide +kernel, rfl⟩
theorem ag_1950 : gw_ag cL_law_ 1950 1 := ⟨⟨by decide +kernel, rfl⟩, ⟨by decide +kernel, rfl⟩, ⟨by decide +kernel, rfl⟩, ⟨by decide +kernel, rfl⟩, ⟨by decide +kernel, rfl⟩⟩
theorem ag_1956 : gw_ag cL_law_ 1956 2 := ⟨⟨by decide +kernel, rfl⟩, ⟨by decide +kernel, rfl⟩, ⟨by decide +kernel, rfl⟩, ⟨by decide +kernel, rfl⟩, ⟨by decide +kernel, rfl⟩⟩
theorem ag_1962 : gw_ag cL_law_ 1962 3 := ⟨⟨by decide +kernel, rfl⟩, ⟨by decide +kernel, rfl⟩, ⟨by decide +kernel, rfl⟩, ⟨by decide +kernel, rfl⟩, ⟨by decide +kernel, rfl⟩⟩
theorem ms_RL_229 : gw_mst RL 229 yL_tray := ⟨gw_mem 1359 (by decide +kernel) rfl, gw_mem 1360 (by decide +kernel) rfl⟩
theorem dL_law__1968 : gw_dc cL_law_ 1968 (.invokestatic 229) 3 1971 := ⟨by decide +kernel, rfl⟩
theorem dL_law__1971 : gw_dc cL_law_ 1971 (.istore 5) 2 1973 := ⟨by decide +kernel, rfl⟩
theorem dL_law__1973 : gw_dc cL_law_ 1973 (.aload_n 2) 1 1974 := ⟨by decide +kernel, rfl⟩
theorem ag_1974 : gw_ag cL_law_ 1974 1 := ⟨⟨by decide +kernel, rfl⟩, ⟨by decide +kernel, rfl⟩, ⟨by decide +kernel, rfl⟩, ⟨by decide +kernel, rfl⟩, ⟨by decide +kernel, rfl⟩⟩
theorem ag_1980 : gw_ag cL_law_ 1980 2 := ⟨⟨by decide +kernel, rfl⟩, ⟨by decide +kernel, rfl⟩, ⟨by decide +kernel, rfl⟩, ⟨by decide +kernel, rfl⟩, ⟨by decide +kernel, rfl⟩⟩
theorem ag_1986 : gw_ag cL_law_ 1986 3 := ⟨⟨by decide +kernel, rfl⟩, ⟨by decide +kernel, rfl⟩, ⟨by decide +kernel, rfl⟩, ⟨by decide +kernel, rfl⟩, ⟨by decide +kernel, rfl⟩⟩
theorem mv_RL_232 : gw_mv RL 232 yX11_tray := ⟨gw_mem 1957 (by decide +kernel) rfl, gw_mem 1958 (by decide +kernel) rfl, gw_mem 1959 (by decide +kernel) rfl⟩
theorem my_X11_tray : gw_my yX11_tray cX11_tray 5 none 3 := ⟨gw_mem 1960 (by decide +kernel) rfl, gw_mem 106 (by decide +kernel) rfl, by decide +kernel, by decide⟩
theorem dL_law__1992 : gw_dc cL_law_ 1992 (.invokevirtual 232) 3 1995 := ⟨by decide +kernel, rfl⟩
theorem t1_1995 : gw_t1 cL_law_ 1995 := ⟨⟨by decide +kernel, rfl⟩, ⟨by decide +kernel, rfl⟩, ⟨by decide +kernel, rfl⟩, ⟨by decide +kernel, rfl⟩⟩
theorem dL_law__2006 : gw_dc cL_law_ 2006 (.goto 267) 3 2009 := ⟨by decide +kernel, rfl⟩
theorem dL_law__2009 : gw_dc cL_law_ 2009 (.aload_n 1) 1 2010 := ⟨by decide +kernel, rfl⟩
theorem ag_2010 : gw_ag cL_law_ 2010 1 := ⟨⟨by decide +kernel, rfl⟩, ⟨by decide +kernel, rfl⟩, ⟨by decide +kernel, rfl⟩, ⟨by decide +kernel, rfl⟩, ⟨by decide +kernel, rfl⟩⟩
theorem ag_2016 : gw_ag cL_law_ 2016 2 := ⟨⟨by decide +kernel, rfl⟩, ⟨by decide +kernel, rfl⟩, ⟨by decide +kernel, rfl⟩, ⟨by decide +kernel, rfl⟩, ⟨by decide +kernel, rfl⟩⟩
theorem ag_2022 : gw_ag cL_law_ 2022 3 := ⟨⟨by decide +kernel, rfl⟩, ⟨by decide +kernel, rfl⟩, ⟨by decide +kernel, rfl⟩, ⟨by decide +kernel, rfl⟩, ⟨by decide +kernel, rfl⟩⟩
theorem dL_law__2028 : gw_dc cL_law_ 2028 (.i2l) 1 2029 := ⟨by decide +kernel, rfl⟩
theorem dL_law__2029 : gw_dc cL_law_ 2029 (.bipush 32) 2 2031 := ⟨by decide +kernel, rfl⟩
theorem dL_law__2031 : gw_dc cL_law_ 2031 (.lshl) 1 2032 := ⟨by decide +kernel, rfl⟩
theorem ag_2032 : gw_ag cL_law_ 2032 4 := ⟨⟨by decide +kernel, rfl⟩, ⟨by decide +kernel, rfl⟩, ⟨by decide +kernel, rfl⟩, ⟨by decide +kernel, rfl⟩, ⟨by decide +kernel, rfl⟩⟩
theorem dL_law__2038 : gw_dc cL_law_ 2038 (.i2l) 1 2039 := ⟨by decide +kernel, rfl⟩
theorem dL_law__2039 : gw_dc cL_law_ 2039 (.ldc2_w 233) 3 2042 := ⟨by decide +kernel, rfl⟩
theorem kc_RL_233 : Cond.constantLong RL 233 (Int64.ofInt 4294967295) ∈ wsG := gw_mem 1986 (by decide +kernel) rfl
theorem dL_law__2042 : gw_dc cL_law_ 2042 (.land) 1 2043 := ⟨by decide +kernel, rfl⟩
theorem dL_law__2043 : gw_dc cL_law_ 2043 (.lor) 1 2044 := ⟨by decide +kernel, rfl⟩
theorem dL_law__2044 : gw_dc cL_law_ 2044 (.aload_n 3) 1 2045 := ⟨by decide +kernel, rfl⟩
theorem ms_RL_235 : gw_mst RL 235 yL_write := ⟨gw_mem 1371 (by decide +kernel) rfl, gw_mem 1372 (by decide +kernel) rfl⟩
theorem dL_law__2045 : gw_dc cL_law_ 2045 (.invokestatic 235) 3 2048 := ⟨by decide +kernel, rfl⟩
theorem dL_law__2048 : gw_dc cL_law_ 2048 (.istore 5) 2 2050 := ⟨by decide +kernel, rfl⟩
theorem dL_law__2050 : gw_dc cL_law_ 2050 (.aload_n 2) 1 2051 := ⟨by decide +kernel, rfl⟩
theorem ag_2051 : gw_ag cL_law_ 2051 1 := ⟨⟨by decide +kernel, rfl⟩, ⟨by decide +kernel, rfl⟩, ⟨by decide +kernel, rfl⟩, ⟨by decide +kernel, rfl⟩, ⟨by decide +kernel, rfl⟩⟩
theorem ag_2057 : gw_ag cL_law_ 2057 2 := ⟨⟨by decide +kernel, rfl⟩, ⟨by decide +kernel, rfl⟩, ⟨by decide +kernel, rfl⟩, ⟨by decide +kernel, rfl⟩, ⟨by decide +kernel, rfl⟩⟩
theorem ag_2063 : gw_ag cL_law_ 2063 3 := ⟨⟨by decide +kernel, rfl⟩, ⟨by decide +kernel, rfl⟩, ⟨by decide +kernel, rfl⟩, ⟨by decide +kernel, rfl⟩, ⟨by decide +kernel, rfl⟩⟩
theorem dL_law__2069 : gw_dc cL_law_ 2069 (.i2l) 1 2070 := ⟨by decide +kernel, rfl⟩
theorem dL_law__2070 : gw_dc cL_law_ 2070 (.bipush 32) 2 2072 := ⟨by decide +kernel, rfl⟩
theorem dL_law__2072 : gw_dc cL_law_ 2072 (.lshl) 1 2073 := ⟨by decide +kernel, rfl⟩
theorem ag_2073 : gw_ag cL_law_ 2073 4 := ⟨⟨by decide +kernel, rfl⟩, ⟨by decide +kernel, rfl⟩, ⟨by decide +kernel, rfl⟩, ⟨by decide +kernel, rfl⟩, ⟨by decide +kernel, rfl⟩⟩
theorem dL_law__2079 : gw_dc cL_law_ 2079 (.i2l) 1 2080 := ⟨by decide +kernel, rfl⟩
theorem dL_law__2080 : gw_dc cL_law_ 2080 (.ldc2_w 233) 3 2083 := ⟨by decide +kernel, rfl⟩
theorem dL_law__2083 : gw_dc cL_law_ 2083 (.land) 1 2084 := ⟨by decide +kernel, rfl⟩
theorem dL_law__2084 : gw_dc cL_law_ 2084 (.lor) 1 2085 := ⟨by decide +kernel, rfl⟩
theorem mv_RL_238 : gw_mv RL 238 yX11_write := ⟨gw_mem 1962 (by decide +kernel) rfl, gw_mem 1963 (by decide +kernel) rfl, gw_mem 1964 (by decide +kernel) rfl⟩
theorem my_X11_write : gw_my yX11_write cX11_write 5 (some .long) 3 := ⟨gw_mem 1965 (by decide +kernel) rfl, gw_mem 106 (by decide +kernel) rfl, by decide +kernel, by decide⟩
theorem dL_law__2085 : gw_dc cL_law_ 2085 (.invokevirtual 238) 3 2088 := ⟨by decide +kernel, rfl⟩
theorem dL_law__2088 : gw_dc cL_law_ 2088 (.lstore 6) 2 2090 := ⟨by decide +kernel, rfl⟩
theorem t1_2090 : gw_t1 cL_law_ 2090 := ⟨⟨by decide +kernel, rfl⟩, ⟨by decide +kernel, rfl⟩, ⟨by decide +kernel, rfl⟩, ⟨by decide +kernel, rfl⟩⟩
theorem dL_law__2117 : gw_dc cL_law_ 2117 (.goto 156) 3 2120 := ⟨by decide +kernel, rfl⟩
theorem dL_law__2101 : gw_dc cL_law_ 2101 (.iload 5) 2 2103 := ⟨by decide +kernel, rfl⟩
theorem dL_law__2103 : gw_dc cL_law_ 2103 (.ifCond .ne 14) 3 2106 := ⟨by decide +kernel, rfl⟩
theorem dL_law__2106 : gw_dc cL_law_ 2106 (.aload_n 3) 1 2107 := ⟨by decide +kernel, rfl⟩
theorem dL_law__2107 : gw_dc cL_law_ 2107 (.iconst 0) 1 2108 := ⟨by decide +kernel, rfl⟩
theorem dL_law__2108 : gw_dc cL_law_ 2108 (.laload) 1 2109 := ⟨by decide +kernel, rfl⟩
theorem dL_law__2109 : gw_dc cL_law_ 2109 (.lload 6) 2 2111 := ⟨by decide +kernel, rfl⟩
theorem dL_law__2111 : gw_dc cL_law_ 2111 (.lcmp) 1 2112 := ⟨by decide +kernel, rfl⟩
theorem dL_law__2112 : gw_dc cL_law_ 2112 (.ifCond .eq 5) 3 2115 := ⟨by decide +kernel, rfl⟩
theorem dL_law__2120 : gw_dc cL_law_ 2120 (.aload_n 1) 1 2121 := ⟨by decide +kernel, rfl⟩
theorem ag_2121 : gw_ag cL_law_ 2121 1 := ⟨⟨by decide +kernel, rfl⟩, ⟨by decide +kernel, rfl⟩, ⟨by decide +kernel, rfl⟩, ⟨by decide +kernel, rfl⟩, ⟨by decide +kernel, rfl⟩⟩
theorem dL_law__2127 : gw_dc cL_law_ 2127 (.aload_n 3) 1 2128 := ⟨by decide +kernel, rfl⟩
theorem ms_RL_239 : gw_mst RL 239 yL_pour := ⟨gw_mem 1387 (by decide +kernel) rfl, gw_mem 1388 (by decide +kernel) rfl⟩
theorem dL_law__2128 : gw_dc cL_law_ 2128 (.invokestatic 239) 3 2131 := ⟨by decide +kernel, rfl⟩
theorem dL_law__2131 : gw_dc cL_law_ 2131 (.istore 5) 2 2133 := ⟨by decide +kernel, rfl⟩
theorem dL_law__2133 : gw_dc cL_law_ 2133 (.aload_n 2) 1 2134 := ⟨by decide +kernel, rfl⟩
theorem ag_2134 : gw_ag cL_law_ 2134 1 := ⟨⟨by decide +kernel, rfl⟩, ⟨by decide +kernel, rfl⟩, ⟨by decide +kernel, rfl⟩, ⟨by decide +kernel, rfl⟩, ⟨by decide +kernel, rfl⟩⟩
theorem mv_RL_241 : gw_mv RL 241 yX11_pour := ⟨gw_mem 1970 (by decide +kernel) rfl, gw_mem 1971 (by decide +kernel) rfl, gw_mem 1972 (by decide +kernel) rfl⟩
theorem my_X11_pour : gw_my yX11_pour cX11_pour 4 (some .int) 1 := ⟨gw_mem 1973 (by decide +kernel) rfl, gw_mem 106 (by decide +kernel) rfl, by decide +kernel, by decide⟩
theorem dL_law__2140 : gw_dc cL_law_ 2140 (.invokevirtual 241) 3 2143 := ⟨by decide +kernel, rfl⟩
theorem dL_law__2143 : gw_dc cL_law_ 2143 (.istore 6) 2 2145 := ⟨by decide +kernel, rfl⟩
theorem t1_2145 : gw_t1 cL_law_ 2145 := ⟨⟨by decide +kernel, rfl⟩, ⟨by decide +kernel, rfl⟩, ⟨by decide +kernel, rfl⟩, ⟨by decide +kernel, rfl⟩⟩
theorem t2_2156 : gw_t2 cL_law_ 2156 100 := ⟨⟨by decide +kernel, rfl⟩, ⟨by decide +kernel, rfl⟩, ⟨by decide +kernel, rfl⟩, ⟨by decide +kernel, rfl⟩, ⟨by decide +kernel, rfl⟩, ⟨by decide +kernel, rfl⟩, ⟨by decide +kernel, rfl⟩, ⟨by decide +kernel, rfl⟩, ⟨by decide +kernel, rfl⟩, ⟨by decide +kernel, rfl⟩⟩
theorem dL_law__2176 : gw_dc cL_law_ 2176 (.aload_n 1) 1 2177 := ⟨by decide +kernel, rfl⟩
theorem ag_2177 : gw_ag cL_law_ 2177 1 := ⟨⟨by decide +kernel, rfl⟩, ⟨by decide +kernel, rfl⟩, ⟨by decide +kernel, rfl⟩, ⟨by decide +kernel, rfl⟩, ⟨by decide +kernel, rfl⟩⟩
theorem ms_RL_242 : gw_mst RL 242 yL_image := ⟨gw_mem 1395 (by decide +kernel) rfl, gw_mem 1396 (by decide +kernel) rfl⟩
theorem dL_law__2183 : gw_dc cL_law_ 2183 (.invokestatic 242) 3 2186 := ⟨by decide +kernel, rfl⟩
theorem dL_law__2186 : gw_dc cL_law_ 2186 (.istore 5) 2 2188 := ⟨by decide +kernel, rfl⟩
theorem dL_law__2188 : gw_dc cL_law_ 2188 (.aload_n 2) 1 2189 := ⟨by decide +kernel, rfl⟩
theorem ag_2189 : gw_ag cL_law_ 2189 1 := ⟨⟨by decide +kernel, rfl⟩, ⟨by decide +kernel, rfl⟩, ⟨by decide +kernel, rfl⟩, ⟨by decide +kernel, rfl⟩, ⟨by decide +kernel, rfl⟩⟩
theorem mv_RL_245 : gw_mv RL 245 yX11_image := ⟨gw_mem 1974 (by decide +kernel) rfl, gw_mem 1975 (by decide +kernel) rfl, gw_mem 1976 (by decide +kernel) rfl⟩
theorem my_X11_image : gw_my yX11_image cX11_image 3 none 1 := ⟨gw_mem 1977 (by decide +kernel) rfl, gw_mem 106 (by decide +kernel) rfl, by decide +kernel, by decide⟩
theorem dL_law__2195 : gw_dc cL_law_ 2195 (.invokevirtual 245) 3 2198 := ⟨by decide +kernel, rfl⟩
theorem t1_2198 : gw_t1 cL_law_ 2198 := ⟨⟨by decide +kernel, rfl⟩, ⟨by decide +kernel, rfl⟩, ⟨by decide +kernel, rfl⟩, ⟨by decide +kernel, rfl⟩⟩
theorem dL_law__2209 : gw_dc cL_law_ 2209 (.goto 64) 3 2212 := ⟨by decide +kernel, rfl⟩
theorem dL_law__2212 : gw_dc cL_law_ 2212 (.aload_n 1) 1 2213 := ⟨by decide +kernel, rfl⟩
theorem ag_2213 : gw_ag cL_law_ 2213 1 := ⟨⟨by decide +kernel, rfl⟩, ⟨by decide +kernel, rfl⟩, ⟨by decide +kernel, rfl⟩, ⟨by decide +kernel, rfl⟩, ⟨by decide +kernel, rfl⟩⟩
theorem ms_RL_246 : gw_mst RL 246 yL_restore := ⟨gw_mem 1407 (by decide +kernel) rfl, gw_mem 1408 (by decide +kernel) rfl⟩
theorem dL_law__2219 : gw_dc cL_law_ 2219 (.invokestatic 246) 3 2222 := ⟨by decide +kernel, rfl⟩
theorem dL_law__2222 : gw_dc cL_law_ 2222 (.istore 5) 2 2224 := ⟨by decide +kernel, rfl⟩
theorem dL_law__2224 : gw_dc cL_law_ 2224 (.aload_n 2) 1 2225 := ⟨by decide +kernel, rfl⟩
theorem ag_2225 : gw_ag cL_law_ 2225 1 := ⟨⟨by decide +kernel, rfl⟩, ⟨by decide +kernel, rfl⟩, ⟨by decide +kernel, rfl⟩, ⟨by decide +kernel, rfl⟩, ⟨by decide +kernel, rfl⟩⟩
theorem mv_RL_248 : gw_mv RL 248 yX11_restore := ⟨gw_mem 1978 (by decide +kernel) rfl, gw_mem 1979 (by decide +kernel) rfl, gw_mem 1980 (by decide +kernel) rfl⟩
theorem my_X11_restore : gw_my yX11_restore cX11_restore 3 none 1 := ⟨gw_mem 1981 (by decide +kernel) rfl, gw_mem 106 (by decide +kernel) rfl, by decide +kernel, by decide⟩
theorem dL_law__2231 : gw_dc cL_law_ 2231 (.invokevirtual 248) 3 2234 := ⟨by decide +kernel, rfl⟩
theorem t1_2234 : gw_t1 cL_law_ 2234 := ⟨⟨by decide +kernel, rfl⟩, ⟨by decide +kernel, rfl⟩, ⟨by decide +kernel, rfl⟩, ⟨by decide +kernel, rfl⟩⟩
theorem dL_law__2245 : gw_dc cL_law_ 2245 (.goto 28) 3 2248 := ⟨by decide +kernel, rfl⟩
theorem dL_law__2248 : gw_dc cL_law_ 2248 (.aload_n 1) 1 2249 := ⟨by decide +kernel, rfl⟩
theorem ag_2249 : gw_ag cL_law_ 2249 1 := ⟨⟨by decide +kernel, rfl⟩, ⟨by decide +kernel, rfl⟩, ⟨by decide +kernel, rfl⟩, ⟨by decide +kernel, rfl⟩, ⟨by decide +kernel, rfl⟩⟩
theorem mv_RL_249 : gw_mv RL 249 yX10_count := ⟨gw_mem 736 (by decide +kernel) rfl, gw_mem 737 (by decide +kernel) rfl, gw_mem 738 (by decide +kernel) rfl⟩
theorem my_X10_count : gw_my yX10_count cX10_count 2 (some .int) 1 := ⟨gw_mem 739 (by decide +kernel) rfl, gw_mem 95 (by decide +kernel) rfl, by decide +kernel, by decide⟩
theorem dL_law__2255 : gw_dc cL_law_ 2255 (.invokevirtual 249) 3 2258 := ⟨by decide +kernel, rfl⟩
theorem dL_law__2258 : gw_dc cL_law_ 2258 (.aload_n 2) 1 2259 := ⟨by decide +kernel, rfl⟩
theorem ag_2259 : gw_ag cL_law_ 2259 1 := ⟨⟨by decide +kernel, rfl⟩, ⟨by decide +kernel, rfl⟩, ⟨by decide +kernel, rfl⟩, ⟨by decide +kernel, rfl⟩, ⟨by decide +kernel, rfl⟩⟩
theorem mv_RL_252 : gw_mv RL 252 yX11_count := ⟨gw_mem 1982 (by decide +kernel) rfl, gw_mem 1983 (by decide +kernel) rfl, gw_mem 1984 (by decide +kernel) rfl⟩
theorem my_X11_count : gw_my yX11_count cX11_count 2 (some .int) 1 := ⟨gw_mem 1985 (by decide +kernel) rfl, gw_mem 106 (by decide +kernel) rfl, by decide +kernel, by decide⟩
theorem dL_law__2265 : gw_dc cL_law_ 2265 (.invokevirtual 252) 3 2268 := ⟨by decide +kernel, rfl⟩
theorem dL_law__2268 : gw_dc cL_law_ 2268 (.if_icmp .eq 5) 3 2271 := ⟨by decide +kernel, rfl⟩
section LW
variable {X : Cx} {G : Gl} {L : Nat} {xs : Nat → Int32} {Z : State → Prop} {kc ks : Nat} {ad : Nat → Nat} {σ : Sg} {i : Nat} {a b c : Option AV}
set_option maxRecDepth 4000 in
theorem law_31 (fx : gw_FX X FL G) (nc : gw_NC (cS X)) (sc : gw_SC X G L xs) (hR : Rel σ σ) (hi : i + 6 ≤ L) (hb : kc + 4 ≤ 601024 ∧ ks + 24 ≤ 7293034) (kk : ∀ kc2 ks2 σ2 a b c, kc2 ≤ kc + 4 → ks2 ≤ ks + 24 → Rel σ2 σ2 → gw_W X FL G Z kc2 ks2 (gw_M0 ad) σ2 2273 (lsL i a b c) []) : gw_W X FL G Z kc ks (gw_M0 ad) σ 1845 (lsL i a b c) [] := by
  refine g_aload_n fx dL_law__1845 rfl ?_
  refine g_arg 1 fx sc ag_1846 (by decide) hi ?_
  refine g_arg 2 fx sc ag_1852 (by decide) hi ?_
  refine g_arg 3 fx sc ag_1858 (by decide) hi ?_
  refine g_arg 4 fx sc ag_1864 (by decide) hi ?_
  refine g_arg 5 fx sc ag_1870 (by decide) hi ?_
  refine g_aload_n fx dL_law__1876 rfl ?_
  refine g_callSH fx nc dL_law__1877 ms_RL_225 myH_L_days (w_days ad σ ((xs (i + 1)).toInt) ((xs (i + 2)).toInt) ((xs (i + 3)).toInt) ((xs (i + 4)).toInt) ((xs (i + 5)).toInt) (al_days hR ((xs (i + 1)).toInt) ((xs (i + 2)).toInt) ((xs (i + 3)).toInt) ((xs (i + 4)).toInt) ((xs (i + 5)).toInt)).mem) rfl rfl (Nat.le_of_ble_eq_true rfl) (by decide) ⟨by show _ ≤ 601024; omega, by show _ ≤ 7293034; omega⟩ (fun E hE => hE.elim) (fun r M2 σ2 hq _ => ?_)
  obtain ⟨rfl, ⟨h0, rfl, rfl⟩ | ⟨j, E, hE, hj, rfl, rfl⟩⟩ := hq
  · show gw_W X FL G Z _ _ _ _ _ _ (vI 0 :: [])
    have hR1 := hR.out (z := ((zDays σ ((xs (i + 1)).toInt) ((xs (i + 2)).toInt) ((xs (i + 3)).toInt) ((xs (i + 4)).toInt)).2.2.2)) (oz_days σ ((xs (i + 1)).toInt) ((xs (i + 2)).toInt) ((xs (i + 3)).toInt) ((xs (i + 4)).toInt)) ((if ((xs (i + 5)).toInt) = 0 then (zDays σ ((xs (i + 1)).toInt) ((xs (i + 2)).toInt) ((xs (i + 3)).toInt) ((xs (i + 4)).toInt)).1 else if ((xs (i + 5)).toInt) = 1 then (zDays σ ((xs (i + 1)).toInt) ((xs (i + 2)).toInt) ((xs (i + 3)).toInt) ((xs (i + 4)).toInt)).2.1 else (zDays σ ((xs (i + 1)).toInt) ((xs (i + 2)).toInt) ((xs (i + 3)).toInt) ((xs (i + 4)).toInt)).2.2.1))
    have al := al_days hR1 ((xs (i + 1)).toInt) ((xs (i + 2)).toInt) ((xs (i + 3)).toInt) ((xs (i + 4)).toInt) ((xs (i + 5)).toInt)
    rw [h0] at al
    obtain ⟨h5, h8, hR2⟩ := al.fin8 (on_days _ ((xs (i + 1)).toInt) ((xs (i + 2)).toInt) ((xs (i + 3)).toInt) ((xs (i + 4)).toInt) ((xs (i + 5)).toInt) 300)
    refine g_istore fx dL_law__1880 (by decide) rfl rfl ?_
    refine g_aload_n fx dL_law__1882 rfl ?_
    refine g_arg 1 fx sc ag_1883 (by decide) hi ?_
    refine g_arg 2 fx sc ag_1889 (by decide) hi ?_
    refine g_arg 3 fx sc ag_1895 (by decide) hi ?_
    refine g_arg 4 fx sc ag_1901 (by decide) hi ?_
    refine g_arg 5 fx sc ag_1907 (by decide) hi ?_
    refine g_callVD fx dL_law__1913 mv_RL_228 my_X11_days (s_X11_days ad _ ((xs (i + 1)).toInt) ((xs (i + 2)).toInt) ((xs (i + 3)).toInt) ((xs (i + 4)).toInt) ((xs (i + 5)).toInt) 300 rfl hR1.tw) o_223 rfl rfl rfl (Nat.le_of_ble_eq_true rfl) (by decide) ⟨by show _ ≤ 601024; omega, by show _ ≤ 7293034; omega⟩ ?_
    refine g_istore fx dL_law__1916 (by decide) rfl rfl ?_
    refine g_t1 fx t1_1918 ⟨by show _ ≤ 601024; omega, by show _ ≤ 7293034; omega⟩ h5 ?_
    exact g_t2 (tgt := 2273) fx t2_1929 (by decide) (fun h => h8) (kk _ _ _ _ _ _ (by omega) (by omega) hR2)
  · show gw_W X FL G Z _ _ _ _ _ _ (vI (((j : Nat) : Int) + 1) :: [])
    obtain ⟨h5, hR2⟩ := (al_days hR ((xs (i + 1)).toInt) ((xs (i + 2)).toInt) ((xs (i + 3)).toInt) ((xs (i + 4)).toInt) ((xs (i + 5)).toInt)).thr hE hj (by decide) (on_days _ ((xs (i + 1)).toInt) ((xs (i + 2)).toInt) ((xs (i + 3)).toInt) ((xs (i + 4)).toInt) ((xs (i + 5)).toInt) 300)
    refine g_istore fx dL_law__1880 (by decide) rfl rfl ?_
    refine g_aload_n fx dL_law__1882 rfl ?_
    refine g_arg 1 fx sc ag_1883 (by decide) hi ?_
    refine g_arg 2 fx sc ag_1889 (by decide) hi ?_
    refine g_arg 3 fx sc ag_1895 (by decide) hi ?_
    refine g_arg 4 fx sc ag_1901 (by decide) hi ?_
    refine g_arg 5 fx sc ag_1907 (by decide) hi ?_
    refine g_callVD fx dL_law__1913 mv_RL_228 my_X11_days (s_X11_days ad _ ((xs (i + 1)).toInt) ((xs (i + 2)).toInt) ((xs (i + 3)).toInt) ((xs (i + 4)).toInt) ((xs (i + 5)).toInt) 300 rfl hR.tw) o_223 rfl rfl rfl (Nat.le_of_ble_eq_true rfl) (by decide) ⟨by show _ ≤ 601024; omega, by show _ ≤ 7293034; omega⟩ ?_
    refine g_istore fx dL_law__1916 (by decide) rfl rfl ?_
    refine g_t1 fx t1_1918 ⟨by show _ ≤ 601024; omega, by show _ ≤ 7293034; omega⟩ h5 ?_
    exact g_t2 (tgt := 2273) fx t2_1929 (by decide) (fun h => absurd h (by omega)) (kk _ _ _ _ _ _ (by omega) (by omega) hR2)
set_option maxRecDepth 4000 in
theorem law_32 (fx : gw_FX X FL G) (nc : gw_NC (cS X)) (sc : gw_SC X G L xs) (hR : Rel σ σ) (hi : i + 6 ≤ L) (hb : kc + 4 ≤ 601024 ∧ ks + 24 ≤ 7293034) (kk : ∀ kc2 ks2 σ2 a b c, kc2 ≤ kc + 4 → ks2 ≤ ks + 24 → Rel σ2 σ2 → gw_W X FL G Z kc2 ks2 (gw_M0 ad) σ2 2273 (lsL i a b c) []) : gw_W X FL G Z kc ks (gw_M0 ad) σ 1949 (lsL i a b c) [] := by
  refine g_aload_n fx dL_law__1949 rfl ?_
  refine g_arg 1 fx sc ag_1950 (by decide) hi ?_
  refine g_arg 2 fx sc ag_1956 (by decide) hi ?_
  refine g_arg 3 fx sc ag_1962 (by decide) hi ?_
  refine g_callSH fx nc dL_law__1968 ms_RL_229 myH_L_tray (w_tray ad σ ((xs (i + 1)).toInt) ((xs (i + 2)).toInt) ((xs (i + 3)).toInt) (al_tray hR ((xs (i + 1)).toInt) ((xs (i + 2)).toInt) ((xs (i + 3)).toInt)).mem) rfl rfl (Nat.le_of_ble_eq_true rfl) (by decide) ⟨by show _ ≤ 601024; omega, by show _ ≤ 7293034; omega⟩ (fun E hE => hE.elim) (fun r M2 σ2 hq _ => ?_)
  obtain ⟨rfl, ⟨h0, rfl, rfl⟩ | ⟨j, E, hE, hj, rfl, rfl⟩⟩ := hq
  · show gw_W X FL G Z _ _ _ _ _ _ (vI 0 :: [])
    have hR1 := hR.oz (z := (yFill (su (su σ (trT ((xs (i + 1)).toInt)) 1 ((xs (i + 2)).toInt)) (trT ((xs (i + 1)).toInt)) 2 ((xs (i + 3)).toInt)) (trT ((xs (i + 1)).toInt) + 1) 60)) (oz_tray σ (orN h0))
    have al := al_tray hR1 ((xs (i + 1)).toInt) ((xs (i + 2)).toInt) ((xs (i + 3)).toInt)
    rw [h0] at al
    obtain ⟨h5, -, hR2⟩ := al.fin (on_tray _ ((xs (i + 1)).toInt) ((xs (i + 2)).toInt) ((xs (i + 3)).toInt) 60) (fun _ _ _ => rfl)
    refine g_istore fx dL_law__1971 (by decide) rfl rfl ?_
    refine g_aload_n fx dL_law__1973 rfl ?_
    refine g_arg 1 fx sc ag_1974 (by decide) hi ?_
    refine g_arg 2 fx sc ag_1980 (by decide) hi ?_
    refine g_arg 3 fx sc ag_1986 (by decide) hi ?_
    refine g_callVD0 fx dL_law__1992 mv_RL_232 my_X11_tray (s_X11_tray ad _ ((xs (i + 1)).toInt) ((xs (i + 2)).toInt) ((xs (i + 3)).toInt) 60 rfl) o_223 rfl rfl rfl (Nat.le_of_ble_eq_true rfl) (by decide) ⟨by show _ ≤ 601024; omega, by show _ ≤ 7293034; omega⟩ ?_
    refine g_t1 fx t1_1995 ⟨by show _ ≤ 601024; omega, by show _ ≤ 7293034; omega⟩ h5 ?_
    exact g_goto (tgt := 2273) fx dL_law__2006 (by decide) (kk _ _ _ _ _ _ (by omega) (by omega) hR2)
  · show gw_W X FL G Z _ _ _ _ _ _ (vI (((j : Nat) : Int) + 1) :: [])
    obtain ⟨h5, hR2⟩ := (al_tray hR ((xs (i + 1)).toInt) ((xs (i + 2)).toInt) ((xs (i + 3)).toInt)).thr hE hj (by decide) (on_tray _ ((xs (i + 1)).toInt) ((xs (i + 2)).toInt) ((xs (i + 3)).toInt) 60)
    refine g_istore fx dL_law__1971 (by decide) rfl rfl ?_
    refine g_aload_n fx dL_law__1973 rfl ?_
    refine g_arg 1 fx sc ag_1974 (by decide) hi ?_
    refine g_arg 2 fx sc ag_1980 (by decide) hi ?_
    refine g_arg 3 fx sc ag_1986 (by decide) hi ?_
    refine g_callVD0 fx dL_law__1992 mv_RL_232 my_X11_tray (s_X11_tray ad _ ((xs (i + 1)).toInt) ((xs (i + 2)).toInt) ((xs (i + 3)).toInt) 60 rfl) o_223 rfl rfl rfl (Nat.le_of_ble_eq_true rfl) (by decide) ⟨by show _ ≤ 601024; omega, by show _ ≤ 7293034; omega⟩ ?_
    refine g_t1 fx t1_1995 ⟨by show _ ≤ 601024; omega, by show _ ≤ 7293034; omega⟩ h5 ?_
    exact g_goto (tgt := 2273) fx dL_law__2006 (by decide) (kk _ _ _ _ _ _ (by omega) (by omega) hR2)
set_option maxRecDepth 4000 in
theorem law_33 (fx : gw_FX X FL G) (nc : gw_NC (cS X)) (sc : gw_SC X G L xs) (hR : Rel σ σ) (hi : i + 6 ≤ L) (hb : kc + 4 ≤ 601024 ∧ ks + 24 ≤ 7293034) (kk : ∀ kc2 ks2 σ2 a b c, kc2 ≤ kc + 4 → ks2 ≤ ks + 24 → Rel σ2 σ2 → gw_W X FL G Z kc2 ks2 (gw_M0 ad) σ2 2273 (lsL i a b c) []) : gw_W X FL G Z kc ks (gw_M0 ad) σ 2009 (lsL i a b c) [] := by
  refine g_aload_n fx dL_law__2009 rfl ?_
  refine g_arg 1 fx sc ag_2010 (by decide) hi ?_
  refine g_arg 2 fx sc ag_2016 (by decide) hi ?_
  refine g_arg 3 fx sc ag_2022 (by decide) hi ?_
  refine g_i2l fx dL_law__2028 ?_
  refine g_bipush fx dL_law__2029 (by decide) ?_
  refine g_lshl fx dL_law__2031 ?_
  refine g_arg 4 fx sc ag_2032 (by decide) hi ?_
  refine g_i2l fx dL_law__2038 ?_
  refine g_ldcL fx dL_law__2039 kc_RL_233 (by unfold okJ; omega) ?_
  refine g_land fx dL_law__2042 ?_
  refine g_lor fx dL_law__2043 ?_
  refine g_aload_n fx dL_law__2044 rfl ?_
  refine g_callSH fx nc dL_law__2045 ms_RL_235 myH_L_write (w_write ad σ ((xs (i + 1)).toInt) ((xs (i + 2)).toInt) (ljor (ljshl (xs (i + 3)).toInt 32) (ljand (xs (i + 4)).toInt 4294967295)) (al_write hR ((xs (i + 1)).toInt) ((xs (i + 2)).toInt) (ljor (ljshl (xs (i + 3)).toInt 32) (ljand (xs (i + 4)).toInt 4294967295)) okW).mem) rfl rfl (Nat.le_of_ble_eq_true rfl) (by decide) ⟨by show _ ≤ 601024; omega, by show _ ≤ 7293034; omega⟩ (fun E hE => hE.elim) (fun r M2 σ2 hq _ => ?_)
  obtain ⟨rfl, ⟨h0, rfl, rfl⟩ | ⟨j, E, hE, hj, rfl, rfl⟩⟩ := hq
  · show gw_W X FL G Z _ _ _ _ _ _ (vI 0 :: [])
    have hR1 := hR.out (z := (yPut σ (trT ((xs (i + 1)).toInt)) ((xs (i + 2)).toInt) (ljor (ljshl (xs (i + 3)).toInt 32) (ljand (xs (i + 4)).toInt 4294967295)))) (oz_yput σ (by have := trT_lt (orN (orN h0)); omega) _ _) ((yAt (yPut σ (trT ((xs (i + 1)).toInt)) ((xs (i + 2)).toInt) (ljor (ljshl (xs (i + 3)).toInt 32) (ljand (xs (i + 4)).toInt 4294967295))) (trT ((xs (i + 1)).toInt) + 1) ((xs (i + 2)).toInt)))
    have al := al_write hR1 ((xs (i + 1)).toInt) ((xs (i + 2)).toInt) (ljor (ljshl (xs (i + 3)).toInt 32) (ljand (xs (i + 4)).toInt 4294967295)) okW
    rw [h0] at al
    obtain ⟨h5, h8, hR2⟩ := al.fin8 (on_write _ ((xs (i + 1)).toInt) ((xs (i + 2)).toInt) (ljor (ljshl (xs (i + 3)).toInt 32) (ljand (xs (i + 4)).toInt 4294967295)))
    refine g_istore fx dL_law__2048 (by decide) rfl rfl ?_
    refine g_aload_n fx dL_law__2050 rfl ?_
    refine g_arg 1 fx sc ag_2051 (by decide) hi ?_
    refine g_arg 2 fx sc ag_2057 (by decide) hi ?_
    refine g_arg 3 fx sc ag_2063 (by decide) hi ?_
    refine g_i2l fx dL_law__2069 ?_
    refine g_bipush fx dL_law__2070 (by decide) ?_
    refine g_lshl fx dL_law__2072 ?_
    refine g_arg 4 fx sc ag_2073 (by decide) hi ?_
    refine g_i2l fx dL_law__2079 ?_
    refine g_ldcL fx dL_law__2080 kc_RL_233 (by unfold okJ; omega) ?_
    refine g_land fx dL_law__2083 ?_
    refine g_lor fx dL_law__2084 ?_
    refine g_callVD fx dL_law__2085 mv_RL_238 my_X11_write (s_X11_write ad _ ((xs (i + 1)).toInt) ((xs (i + 2)).toInt) (ljor (ljshl (xs (i + 3)).toInt 32) (ljand (xs (i + 4)).toInt 4294967295)) hR1.trw) o_223 rfl rfl rfl (Nat.le_of_ble_eq_true rfl) (by decide) ⟨by show _ ≤ 601024; omega, by show _ ≤ 7293034; omega⟩ ?_
    refine g_lstore fx dL_law__2088 (by decide) rfl rfl ?_
    refine g_t1 fx t1_2090 ⟨by show _ ≤ 601024; omega, by show _ ≤ 7293034; omega⟩ h5 ?_
    have hg := g_goto (tgt := 2273) fx dL_law__2117 (by decide) (kk _ _ _ (some (vI 0)) (some (vJ _)) none (by omega) (by omega) hR2)
    refine g_iload fx dL_law__2101 rfl ?_
    refine g_if_ne (tgt := 2117) fx dL_law__2103 (by decide) (fun h => absurd rfl h) (fun _ => ?_)
    refine g_aload_n fx dL_law__2106 rfl ?_
    refine g_iconst fx dL_law__2107 (by unfold okI; omega) ?_
    refine g_lald fx dL_law__2108 o_248 (by decide) (by decide) ?_
    refine g_lload fx dL_law__2109 rfl ?_
    refine g_lcmp fx dL_law__2111 ?_
    exact g_if_eq (tgt := 2117) fx dL_law__2112 (by decide) (fun _ => hg) (fun q => absurd (jc_eq.mpr h8) q)
  · show gw_W X FL G Z _ _ _ _ _ _ (vI (((j : Nat) : Int) + 1) :: [])
    obtain ⟨h5, hR2⟩ := (al_write hR ((xs (i + 1)).toInt) ((xs (i + 2)).toInt) (ljor (ljshl (xs (i + 3)).toInt 32) (ljand (xs (i + 4)).toInt 4294967295)) okW).thr hE hj (by decide) (on_write _ ((xs (i + 1)).toInt) ((xs (i + 2)).toInt) (ljor (ljshl (xs (i + 3)).toInt 32) (ljand (xs (i + 4)).toInt 4294967295)))
    refine g_istore fx dL_law__2048 (by decide) rfl rfl ?_
    refine g_aload_n fx dL_law__2050 rfl ?_
    refine g_arg 1 fx sc ag_2051 (by decide) hi ?_
    refine g_arg 2 fx sc ag_2057 (by decide) hi ?_
    refine g_arg 3 fx sc ag_2063 (by decide) hi ?_
    refine g_i2l fx dL_law__2069 ?_
    refine g_bipush fx dL_law__2070 (by decide) ?_
    refine g_lshl fx dL_law__2072 ?_
    refine g_arg 4 fx sc ag_2073 (by decide) hi ?_
    refine g_i2l fx dL_law__2079 ?_
    refine g_ldcL fx dL_law__2080 kc_RL_233 (by unfold okJ; omega) ?_
    refine g_land fx dL_law__2083 ?_
    refine g_lor fx dL_law__2084 ?_
    refine g_callVD fx dL_law__2085 mv_RL_238 my_X11_write (s_X11_write ad _ ((xs (i + 1)).toInt) ((xs (i + 2)).toInt) (ljor (ljshl (xs (i + 3)).toInt 32) (ljand (xs (i + 4)).toInt 4294967295)) hR.trw) o_223 rfl rfl rfl (Nat.le_of_ble_eq_true rfl) (by decide) ⟨by show _ ≤ 601024; omega, by show _ ≤ 7293034; omega⟩ ?_
    refine g_lstore fx dL_law__2088 (by decide) rfl rfl ?_
    refine g_t1 fx t1_2090 ⟨by show _ ≤ 601024; omega, by show _ ≤ 7293034; omega⟩ h5 ?_
    have hg := g_goto (tgt := 2273) fx dL_law__2117 (by decide) (kk _ _ _ (some (vI (((j : Nat) : Int) + 1))) (some (vJ _)) none (by omega) (by omega) hR2)
    refine g_iload fx dL_law__2101 rfl ?_
    exact g_if_ne (tgt := 2117) fx dL_law__2103 (by decide) (fun _ => hg) (fun h => absurd h (by omega))
set_option maxRecDepth 4000 in
theorem law_34 (fx : gw_FX X FL G) (nc : gw_NC (cS X)) (sc : gw_SC X G L xs) (hR : Rel σ σ) (hi : i + 6 ≤ L) (hb : kc + 4 ≤ 601024 ∧ ks + 24 ≤ 7293034) (kk : ∀ kc2 ks2 σ2 a b c, kc2 ≤ kc + 4 → ks2 ≤ ks + 24 → Rel σ2 σ2 → gw_W X FL G Z kc2 ks2 (gw_M0 ad) σ2 2273 (lsL i a b c) []) : gw_W X FL G Z kc ks (gw_M0 ad) σ 2120 (lsL i a b c) [] := by
  refine g_aload_n fx dL_law__2120 rfl ?_
  refine g_arg 1 fx sc ag_2121 (by decide) hi ?_
  refine g_aload_n fx dL_law__2127 rfl ?_
  refine g_callSH fx nc dL_law__2128 ms_RL_239 myH_L_pour (w_pour ad σ ((xs (i + 1)).toInt) (al_pour hR ((xs (i + 1)).toInt)).mem) rfl rfl (Nat.le_of_ble_eq_true rfl) (by decide) ⟨by show _ ≤ 601024; omega, by show _ ≤ 7293034; omega⟩ (fun E hE => hE.elim) (fun r M2 σ2 hq _ => ?_)
  obtain ⟨rfl, ⟨h0, rfl, rfl⟩ | ⟨j, E, hE, hj, rfl, rfl⟩⟩ := hq
  · show gw_W X FL G Z _ _ _ _ _ _ (vI 0 :: [])
    have hR1 := hR.out (z := (zPour (go σ 26 4) (trT ((xs (i + 1)).toInt)))) (oz_pour σ (orN h0)) ((min (go σ 26 4 (trT ((xs (i + 1)).toInt)) 2) (go σ 26 4 26 1)))
    have al := al_pour hR1 ((xs (i + 1)).toInt)
    rw [h0] at al
    obtain ⟨h5, h8, hR2⟩ := al.fin8 (on_pour _ ((xs (i + 1)).toInt))
    refine g_istore fx dL_law__2131 (by decide) rfl rfl ?_
    refine g_aload_n fx dL_law__2133 rfl ?_
    refine g_arg 1 fx sc ag_2134 (by decide) hi ?_
    refine g_callVD fx dL_law__2140 mv_RL_241 my_X11_pour (s_X11_pour ad _ ((xs (i + 1)).toInt) hR1.tw hR1.trw) o_223 rfl rfl rfl (Nat.le_of_ble_eq_true rfl) (by decide) ⟨by show _ ≤ 601024; omega, by show _ ≤ 7293034; omega⟩ ?_
    refine g_istore fx dL_law__2143 (by decide) rfl rfl ?_
    refine g_t1 fx t1_2145 ⟨by show _ ≤ 601024; omega, by show _ ≤ 7293034; omega⟩ h5 ?_
    exact g_t2 (tgt := 2273) fx t2_2156 (by decide) (fun h => h8) (kk _ _ _ _ _ _ (by omega) (by omega) hR2)
  · show gw_W X FL G Z _ _ _ _ _ _ (vI (((j : Nat) : Int) + 1) :: [])
    obtain ⟨h5, hR2⟩ := (al_pour hR ((xs (i + 1)).toInt)).thr hE hj (by decide) (on_pour _ ((xs (i + 1)).toInt))
    refine g_istore fx dL_law__2131 (by decide) rfl rfl ?_
    refine g_aload_n fx dL_law__2133 rfl ?_
    refine g_arg 1 fx sc ag_2134 (by decide) hi ?_
    refine g_callVD fx dL_law__2140 mv_RL_241 my_X11_pour (s_X11_pour ad _ ((xs (i + 1)).toInt) hR.tw hR.trw) o_223 rfl rfl rfl (Nat.le_of_ble_eq_true rfl) (by decide) ⟨by show _ ≤ 601024; omega, by show _ ≤ 7293034; omega⟩ ?_
    refine g_istore fx dL_law__2143 (by decide) rfl rfl ?_
    refine g_t1 fx t1_2145 ⟨by show _ ≤ 601024; omega, by show _ ≤ 7293034; omega⟩ h5 ?_
    exact g_t2 (tgt := 2273) fx t2_2156 (by decide) (fun h => absurd h (by omega)) (kk _ _ _ _ _ _ (by omega) (by omega) hR2)
set_option maxRecDepth 4000 in
theorem law_35 (fx : gw_FX X FL G) (nc : gw_NC (cS X)) (sc : gw_SC X G L xs) (hR : Rel σ σ) (hi : i + 6 ≤ L) (hb : kc + 4 ≤ 601024 ∧ ks + 24 ≤ 7293034) (kk : ∀ kc2 ks2 σ2 a b c, kc2 ≤ kc + 4 → ks2 ≤ ks + 24 → Rel σ2 σ2 → gw_W X FL G Z kc2 ks2 (gw_M0 ad) σ2 2273 (lsL i a b c) []) : gw_W X FL G Z kc ks (gw_M0 ad) σ 2176 (lsL i a b c) [] := by
  refine g_aload_n fx dL_law__2176 rfl ?_
  refine g_arg 1 fx sc ag_2177 (by decide) hi ?_
  refine g_callSH fx nc dL_law__2183 ms_RL_242 myH_L_image (w_image ad σ ((xs (i + 1)).toInt) (al_image hR ((xs (i + 1)).toInt)).mem) rfl rfl (Nat.le_of_ble_eq_true rfl) (by decide) ⟨by show _ ≤ 601024; omega, by show _ ≤ 7293034; omega⟩ (fun E hE => hE.elim) (fun r M2 σ2 hq _ => ?_)
  obtain ⟨rfl, ⟨h0, rfl, rfl⟩ | ⟨j, E, hE, hj, rfl, rfl⟩⟩ := hq
  · show gw_W X FL G Z _ _ _ _ _ _ (vI 0 :: [])
    have hR1 := hR.oz (z := (su (mCopy σ (imT ((xs (i + 1)).toInt)) 4) (imT ((xs (i + 1)).toInt)) 6 1)) (oz_image σ h0)
    have al := al_image hR1 ((xs (i + 1)).toInt)
    rw [h0] at al
    obtain ⟨h5, -, hR2⟩ := al.fin (on_image _ ((xs (i + 1)).toInt) 672) (fun _ _ _ => rfl)
    refine g_istore fx dL_law__2186 (by decide) rfl rfl ?_
    refine g_aload_n fx dL_law__2188 rfl ?_
    refine g_arg 1 fx sc ag_2189 (by decide) hi ?_
    refine g_callVD0 fx dL_law__2195 mv_RL_245 my_X11_image (s_X11_image ad _ ((xs (i + 1)).toInt) 672 rfl) o_223 rfl rfl rfl (Nat.le_of_ble_eq_true rfl) (by decide) ⟨by show _ ≤ 601024; omega, by show _ ≤ 7293034; omega⟩ ?_
    refine g_t1 fx t1_2198 ⟨by show _ ≤ 601024; omega, by show _ ≤ 7293034; omega⟩ h5 ?_
    exact g_goto (tgt := 2273) fx dL_law__2209 (by decide) (kk _ _ _ _ _ _ (by omega) (by omega) hR2)
  · show gw_W X FL G Z _ _ _ _ _ _ (vI (((j : Nat) : Int) + 1) :: [])
    obtain ⟨h5, hR2⟩ := (al_image hR ((xs (i + 1)).toInt)).thr hE hj (by decide) (on_image _ ((xs (i + 1)).toInt) 672)
    refine g_istore fx dL_law__2186 (by decide) rfl rfl ?_
    refine g_aload_n fx dL_law__2188 rfl ?_
    refine g_arg 1 fx sc ag_2189 (by decide) hi ?_
    refine g_callVD0 fx dL_law__2195 mv_RL_245 my_X11_image (s_X11_image ad _ ((xs (i + 1)).toInt) 672 rfl) o_223 rfl rfl rfl (Nat.le_of_ble_eq_true rfl) (by decide) ⟨by show _ ≤ 601024; omega, by show _ ≤ 7293034; omega⟩ ?_
    refine g_t1 fx t1_2198 ⟨by show _ ≤ 601024; omega, by show _ ≤ 7293034; omega⟩ h5 ?_
    exact g_goto (tgt := 2273) fx dL_law__2209 (by decide) (kk _ _ _ _ _ _ (by omega) (by omega) hR2)
set_option maxRecDepth 4000 in
theorem law_36 (fx : gw_FX X FL G) (nc : gw_NC (cS X)) (sc : gw_SC X G L xs) (hR : Rel σ σ) (hi : i + 6 ≤ L) (hb : kc + 4 ≤ 601024 ∧ ks + 24 ≤ 7293034) (kk : ∀ kc2 ks2 σ2 a b c, kc2 ≤ kc + 4 → ks2 ≤ ks + 24 → Rel σ2 σ2 → gw_W X FL G Z kc2 ks2 (gw_M0 ad) σ2 2273 (lsL i a b c) []) : gw_W X FL G Z kc ks (gw_M0 ad) σ 2212 (lsL i a b c) [] := by
  refine g_aload_n fx dL_law__2212 rfl ?_
  refine g_arg 1 fx sc ag_2213 (by decide) hi ?_
  refine g_callSH fx nc dL_law__2219 ms_RL_246 myH_L_restore (w_restore ad σ ((xs (i + 1)).toInt) (al_restore hR ((xs (i + 1)).toInt)).mem) rfl rfl (Nat.le_of_ble_eq_true rfl) (by decide) ⟨by show _ ≤ 601024; omega, by show _ ≤ 7293034; omega⟩ (fun E hE => hE.elim) (fun r M2 σ2 hq _ => ?_)
  obtain ⟨rfl, ⟨h0, rfl, rfl⟩ | ⟨j, E, hE, hj, rfl, rfl⟩⟩ := hq
  · show gw_W X FL G Z _ _ _ _ _ _ (vI 0 :: [])
    have hR1 := hR.oz (z := (mCopy σ 4 (imT ((xs (i + 1)).toInt)))) (oz_rest σ (orN h0))
    have al := al_restore hR1 ((xs (i + 1)).toInt)
    rw [h0] at al
    obtain ⟨h5, -, hR2⟩ := al.fin (on_rest _ ((xs (i + 1)).toInt) 672) (fun _ _ _ => rfl)
    refine g_istore fx dL_law__2222 (by decide) rfl rfl ?_
    refine g_aload_n fx dL_law__2224 rfl ?_
    refine g_arg 1 fx sc ag_2225 (by decide) hi ?_
    refine g_callVD0 fx dL_law__2231 mv_RL_248 my_X11_restore (s_X11_restore ad _ ((xs (i + 1)).toInt) 672 rfl) o_223 rfl rfl rfl (Nat.le_of_ble_eq_true rfl) (by decide) ⟨by show _ ≤ 601024; omega, by show _ ≤ 7293034; omega⟩ ?_
    refine g_t1 fx t1_2234 ⟨by show _ ≤ 601024; omega, by show _ ≤ 7293034; omega⟩ h5 ?_
    exact g_goto (tgt := 2273) fx dL_law__2245 (by decide) (kk _ _ _ _ _ _ (by omega) (by omega) hR2)
  · show gw_W X FL G Z _ _ _ _ _ _ (vI (((j : Nat) : Int) + 1) :: [])
    obtain ⟨h5, hR2⟩ := (al_restore hR ((xs (i + 1)).toInt)).thr hE hj (by decide) (on_rest _ ((xs (i + 1)).toInt) 672)
    refine g_istore fx dL_law__2222 (by decide) rfl rfl ?_
    refine g_aload_n fx dL_law__2224 rfl ?_
    refine g_arg 1 fx sc ag_2225 (by decide) hi ?_
    refine g_callVD0 fx dL_law__2231 mv_RL_248 my_X11_restore (s_X11_restore ad _ ((xs (i + 1)).toInt) 672 rfl) o_223 rfl rfl rfl (Nat.le_of_ble_eq_true rfl) (by decide) ⟨by show _ ≤ 601024; omega, by show _ ≤ 7293034; omega⟩ ?_
    refine g_t1 fx t1_2234 ⟨by show _ ≤ 601024; omega, by show _ ≤ 7293034; omega⟩ h5 ?_
    exact g_goto (tgt := 2273) fx dL_law__2245 (by decide) (kk _ _ _ _ _ _ (by omega) (by omega) hR2)
set_option maxRecDepth 4000 in
theorem law_37 (fx : gw_FX X FL G) (nc : gw_NC (cS X)) (sc : gw_SC X G L xs) (hR : Rel σ σ) (hi : i + 6 ≤ L) (hb : kc + 4 ≤ 601024 ∧ ks + 24 ≤ 7293034) (kk : ∀ kc2 ks2 σ2 a b c, kc2 ≤ kc + 4 → ks2 ≤ ks + 24 → Rel σ2 σ2 → gw_W X FL G Z kc2 ks2 (gw_M0 ad) σ2 2273 (lsL i a b c) []) : gw_W X FL G Z kc ks (gw_M0 ad) σ 2248 (lsL i a b c) [] := by
  refine g_aload_n fx dL_law__2248 rfl ?_
  refine g_arg 1 fx sc ag_2249 (by decide) hi ?_
  refine g_callVD fx dL_law__2255 mv_RL_249 my_X10_count (s_X10_count ad σ ((xs (i + 1)).toInt)) o_0 rfl rfl rfl (Nat.le_of_ble_eq_true rfl) (by decide) ⟨by show _ ≤ 601024; omega, by show _ ≤ 7293034; omega⟩ ?_
  have hR1 := hR.oz (Oz.rf σ)
  obtain ⟨-, hv, hR2⟩ := (al_count hR1 ((xs (i + 1)).toInt)).fin (on_t0 _) (fun _ _ _ => rfl)
  refine g_aload_n fx dL_law__2258 rfl ?_
  refine g_arg 1 fx sc ag_2259 (by decide) hi ?_
  refine g_callVD fx dL_law__2265 mv_RL_252 my_X11_count (s_X11_count ad _ ((xs (i + 1)).toInt) ) o_223 rfl rfl rfl (Nat.le_of_ble_eq_true rfl) (by decide) ⟨by show _ ≤ 601024; omega, by show _ ≤ 7293034; omega⟩ ?_
  exact g_icmp_eq (tgt := 2273) fx dL_law__2268 (by decide) (fun _ => kk _ _ _ _ _ _ (by omega) (by omega) hR2) (fun h => absurd hv h)
end LW
