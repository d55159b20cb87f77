theorem x_mk_Ref_faces : x_mkC tb_Ref_faces (12, yX12_faces, cX12_faces, (some .int), 2, false) 1809 108 1807 1808 = true := by decide +kernel
theorem x_mk_Ref_looses : x_mkC tb_Ref_looses (12, yX12_looses, cX12_looses, (some .int), 1, false) 1817 108 1815 1816 = true := by decide +kernel
theorem x_mk_Ref_catches : x_mkC tb_Ref_catches (12, yX12_catches, cX12_catches, (some .int), 1, false) 1829 108 1827 1828 = true := by decide +kernel
theorem x_mk_Ref_minutes : x_mkC tb_Ref_minutes (12, yX12_minutes, cX12_minutes, (some .int), 1, false) 1833 108 1831 1832 = true := by decide +kernel
theorem x_mk_Ref_forgets : x_mkC tb_Ref_forgets (12, yX12_forgets, cX12_forgets, (some .int), 2, false) 1850 108 1848 1849 = true := by decide +kernel
theorem x_mk_Ref_readsAct : x_mkC tb_Ref_readsAct (12, yX12_readsAct, cX12_readsAct, (some .boolean), 0, false) 1863 108 1862 71 = true := by decide +kernel
theorem x_mk_Ref_does : x_mkC tb_Ref_does (12, yX12_does, cX12_does, (some .boolean), 1, false) 1868 108 1867 72 = true := by decide +kernel
theorem x_mk_Ref_walk : x_mkC tb_Ref_walk (12, yX12_walk, cX12_walk, (some .int), 0, false) 1859 108 1857 1858 = true := by decide +kernel
theorem x_mk_Ref_sees : x_mkC tb_Ref_sees (12, yX12_sees, cX12_sees, (some .int), 1, false) 1876 108 1874 1875 = true := by decide +kernel
theorem x_mk_Ref_would : x_mkC tb_Ref_would (12, yX12_would, cX12_would, (some .int), 3, false) 1880 108 1878 1879 = true := by decide +kernel
theorem x_mk_Ref_laysStands : x_mkC tb_Ref_laysStands (12, yX12_laysStands, cX12_laysStands, none, 1, false) 1888 108 1887 74 = true := by decide +kernel
theorem x_mk_Ref_stands : x_mkC tb_Ref_stands (12, yX12_stands, cX12_stands, (some .int), 1, false) 1884 108 1882 1883 = true := by decide +kernel
theorem x_mk_Ref_isFree : x_mkC tb_Ref_isFree (12, yX12_isFree, cX12_isFree, (some .boolean), 1, false) 1901 108 1900 76 = true := by decide +kernel
theorem x_mk_Ref_laysFar : x_mkC tb_Ref_laysFar (12, yX12_laysFar, cX12_laysFar, (some .int), 1, false) 1897 108 1896 75 = true := by decide +kernel
theorem x_mk_Ref_way : x_mkC tb_Ref_way (12, yX12_way, cX12_way, (some .int), 2, false) 1893 108 1891 1892 = true := by decide +kernel
theorem x_mk_Ref_reach : x_mkC tb_Ref_reach (12, yX12_reach, cX12_reach, (some .int), 1, false) 1905 108 1903 1904 = true := by decide +kernel
theorem x_mk_Ref_partsMany : x_mkC tb_Ref_partsMany (12, yX12_partsMany, cX12_partsMany, (some .int), 0, false) 1913 108 1912 77 = true := by decide +kernel
theorem x_mk_Ref_parts : x_mkC tb_Ref_parts (12, yX12_parts, cX12_parts, (some .int), 0, false) 1909 108 1907 1908 = true := by decide +kernel
theorem x_mk_Ref_gates : x_mkC tb_Ref_gates (12, yX12_gates, cX12_gates, (some .int), 0, false) 1918 108 1916 1917 = true := by decide +kernel
theorem x_mk_Ref_nearest : x_mkC tb_Ref_nearest (12, yX12_nearest, cX12_nearest, (some .int), 0, false) 1922 108 1920 1921 = true := by decide +kernel
theorem x_mk_Ref_finds : x_mkC tb_Ref_finds (12, yX12_finds, cX12_finds, none, 4, false) 1935 108 1934 79 = true := by decide +kernel
theorem x_mk_Ref_placeBy : x_mkC tb_Ref_placeBy (12, yX12_placeBy, cX12_placeBy, (some .int), 3, false) 1939 108 1938 80 = true := by decide +kernel
theorem x_mk_Ref_laysPlaces : x_mkC tb_Ref_laysPlaces (12, yX12_laysPlaces, cX12_laysPlaces, none, 1, false) 1931 108 1930 78 = true := by decide +kernel
theorem x_mk_Ref_entersPath : x_mkC tb_Ref_entersPath (12, yX12_entersPath, cX12_entersPath, (some .int), 1, false) 1943 108 1942 81 = true := by decide +kernel
theorem x_mk_Ref_forms : x_mkC tb_Ref_forms (12, yX12_forms, cX12_forms, (some .int), 2, false) 1926 108 1924 1925 = true := by decide +kernel
theorem x_mk_Ref_most : x_mkC tb_Ref_most (12, yX12_most, cX12_most, (some .int), 1, false) 1947 108 1945 1946 = true := by decide +kernel
theorem x_mk_Ref_waysFrom : x_mkC tb_Ref_waysFrom (12, yX12_waysFrom, cX12_waysFrom, none, 5, false) 1955 108 1954 82 = true := by decide +kernel
theorem x_mk_Ref_ways : x_mkC tb_Ref_ways (12, yX12_ways, cX12_ways, (some .int), 3, false) 1951 108 1949 1950 = true := by decide +kernel
theorem x_mk_Ref_strays : x_mkC tb_Ref_strays (12, yX12_strays, cX12_strays, (some .int), 3, false) 1959 108 1957 1958 = true := by decide +kernel
theorem x_mk_Ref_stopOf : x_mkC tb_Ref_stopOf (12, yX12_stopOf, cX12_stopOf, (some .int), 1, false) 1971 108 1970 83 = true := by decide +kernel
theorem x_mk_Ref_stops : x_mkC tb_Ref_stops (12, yX12_stops, cX12_stops, (some .int), 1, false) 1967 108 1965 1966 = true := by decide +kernel
theorem x_mk_Ref_rounds : x_mkC tb_Ref_rounds (12, yX12_rounds, cX12_rounds, (some .int), 0, false) 1975 108 1973 1974 = true := by decide +kernel
theorem x_mk_Ref_basin : x_mkC tb_Ref_basin (12, yX12_basin, cX12_basin, (some .int), 1, false) 1979 108 1977 1978 = true := by decide +kernel
theorem x_mk_Ref_saw : x_mkC tb_Ref_saw (12, yX12_saw, cX12_saw, (some .int), 3, false) 1983 108 1981 1982 = true := by decide +kernel
theorem x_mk_Ref_denies : x_mkC tb_Ref_denies (12, yX12_denies, cX12_denies, (some .int), 0, false) 1988 108 1986 1987 = true := by decide +kernel
theorem x_mk_Ref_isFormedBy : x_mkC tb_Ref_isFormedBy (12, yX12_isFormedBy, cX12_isFormedBy, (some .int), 3, true) 1999 108 1998 0 = true := by decide +kernel
theorem x_mk_Ref_isLaw : x_mkC tb_Ref_isLaw (12, yX12_isLaw, cX12_isLaw, (some .boolean), 1, false) 1996 108 1995 84 = true := by decide +kernel
theorem x_mk_Ref_laws : x_mkC tb_Ref_laws (12, yX12_laws, cX12_laws, (some .int), 0, false) 1992 108 1990 1991 = true := by decide +kernel
theorem x_mk_Ref_looks : x_mkC tb_Ref_looks (12, yX12_looks, cX12_looks, (some .int), 0, false) 2003 108 2001 2002 = true := by decide +kernel
theorem x_mk_Ref_highest : x_mkC tb_Ref_highest (12, yX12_highest, cX12_highest, (some .int), 1, true) 2010 108 2009 0 = true := by decide +kernel
