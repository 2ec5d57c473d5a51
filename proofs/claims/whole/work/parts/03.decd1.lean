theorem dL_law_2052 : decode cL_law 2052 = .ok (.iadd, 1) := by decide +kernel
theorem dL_law_2053 : decode cL_law 2053 = .ok (.iaload, 1) := by decide +kernel
theorem dL_law_2054 : decode cL_law 2054 = .ok (.invokevirtual 225, 3) := by decide +kernel
theorem dL_law_2057 : decode cL_law 2057 = .ok (.if_icmp .eq 75, 3) := by decide +kernel
theorem dL_law_2060 : decode cL_law 2060 = .ok (.iconst 0, 1) := by decide +kernel
theorem dL_law_2061 : decode cL_law 2061 = .ok (.ireturn, 1) := by decide +kernel
theorem dL_law_2062 : decode cL_law 2062 = .ok (.aload_n 1, 1) := by decide +kernel
theorem dL_law_2063 : decode cL_law 2063 = .ok (.aload_n 0, 1) := by decide +kernel
theorem dL_law_2064 : decode cL_law 2064 = .ok (.iload_n 3, 1) := by decide +kernel
theorem dL_law_2065 : decode cL_law 2065 = .ok (.iconst 1, 1) := by decide +kernel
theorem dL_law_2066 : decode cL_law 2066 = .ok (.iadd, 1) := by decide +kernel
theorem dL_law_2067 : decode cL_law 2067 = .ok (.iaload, 1) := by decide +kernel
theorem dL_law_2068 : decode cL_law 2068 = .ok (.aload_n 0, 1) := by decide +kernel
theorem dL_law_2069 : decode cL_law 2069 = .ok (.iload_n 3, 1) := by decide +kernel
theorem dL_law_2070 : decode cL_law 2070 = .ok (.iconst 2, 1) := by decide +kernel
theorem dL_law_2071 : decode cL_law 2071 = .ok (.iadd, 1) := by decide +kernel
theorem dL_law_2072 : decode cL_law 2072 = .ok (.iaload, 1) := by decide +kernel
theorem dL_law_2073 : decode cL_law 2073 = .ok (.invokevirtual 226, 3) := by decide +kernel
theorem dL_law_2076 : decode cL_law 2076 = .ok (.aload_n 2, 1) := by decide +kernel
theorem dL_law_2077 : decode cL_law 2077 = .ok (.aload_n 0, 1) := by decide +kernel
theorem dL_law_2078 : decode cL_law 2078 = .ok (.iload_n 3, 1) := by decide +kernel
theorem dL_law_2079 : decode cL_law 2079 = .ok (.iconst 1, 1) := by decide +kernel
theorem dL_law_2080 : decode cL_law 2080 = .ok (.iadd, 1) := by decide +kernel
theorem dL_law_2081 : decode cL_law 2081 = .ok (.iaload, 1) := by decide +kernel
theorem dL_law_2082 : decode cL_law 2082 = .ok (.aload_n 0, 1) := by decide +kernel
theorem dL_law_2083 : decode cL_law 2083 = .ok (.iload_n 3, 1) := by decide +kernel
theorem dL_law_2084 : decode cL_law 2084 = .ok (.iconst 2, 1) := by decide +kernel
theorem dL_law_2085 : decode cL_law 2085 = .ok (.iadd, 1) := by decide +kernel
theorem dL_law_2086 : decode cL_law 2086 = .ok (.iaload, 1) := by decide +kernel
theorem dL_law_2087 : decode cL_law 2087 = .ok (.invokevirtual 229, 3) := by decide +kernel
theorem dL_law_2090 : decode cL_law 2090 = .ok (.if_icmp .eq 42, 3) := by decide +kernel
theorem dL_law_2093 : decode cL_law 2093 = .ok (.iconst 0, 1) := by decide +kernel
theorem dL_law_2094 : decode cL_law 2094 = .ok (.ireturn, 1) := by decide +kernel
theorem dL_law_2095 : decode cL_law 2095 = .ok (.aload_n 1, 1) := by decide +kernel
theorem dL_law_2096 : decode cL_law 2096 = .ok (.aload_n 0, 1) := by decide +kernel
theorem dL_law_2097 : decode cL_law 2097 = .ok (.iload_n 3, 1) := by decide +kernel
theorem dL_law_2098 : decode cL_law 2098 = .ok (.iconst 1, 1) := by decide +kernel
theorem dL_law_2099 : decode cL_law 2099 = .ok (.iadd, 1) := by decide +kernel
theorem dL_law_2100 : decode cL_law 2100 = .ok (.iaload, 1) := by decide +kernel
theorem dL_law_2101 : decode cL_law 2101 = .ok (.invokevirtual 230, 3) := by decide +kernel
theorem dL_law_2104 : decode cL_law 2104 = .ok (.aload_n 2, 1) := by decide +kernel
theorem dL_law_2105 : decode cL_law 2105 = .ok (.aload_n 0, 1) := by decide +kernel
theorem dL_law_2106 : decode cL_law 2106 = .ok (.iload_n 3, 1) := by decide +kernel
theorem dL_law_2107 : decode cL_law 2107 = .ok (.iconst 1, 1) := by decide +kernel
theorem dL_law_2108 : decode cL_law 2108 = .ok (.iadd, 1) := by decide +kernel
theorem dL_law_2109 : decode cL_law 2109 = .ok (.iaload, 1) := by decide +kernel
theorem dL_law_2110 : decode cL_law 2110 = .ok (.invokevirtual 233, 3) := by decide +kernel
theorem dL_law_2113 : decode cL_law 2113 = .ok (.if_icmp .eq 19, 3) := by decide +kernel
theorem dL_law_2116 : decode cL_law 2116 = .ok (.iconst 0, 1) := by decide +kernel
theorem dL_law_2117 : decode cL_law 2117 = .ok (.ireturn, 1) := by decide +kernel
theorem dL_law_2118 : decode cL_law 2118 = .ok (.aload_n 1, 1) := by decide +kernel
theorem dL_law_2119 : decode cL_law 2119 = .ok (.invokevirtual 234, 3) := by decide +kernel
theorem dL_law_2122 : decode cL_law 2122 = .ok (.aload_n 2, 1) := by decide +kernel
theorem dL_law_2123 : decode cL_law 2123 = .ok (.invokevirtual 238, 3) := by decide +kernel
theorem dL_law_2126 : decode cL_law 2126 = .ok (.lcmp, 1) := by decide +kernel
theorem dL_law_2127 : decode cL_law 2127 = .ok (.ifCond .eq 5, 3) := by decide +kernel
theorem dL_law_2130 : decode cL_law 2130 = .ok (.iconst 0, 1) := by decide +kernel
theorem dL_law_2131 : decode cL_law 2131 = .ok (.ireturn, 1) := by decide +kernel
theorem dL_law_2132 : decode cL_law 2132 = .ok (.iinc 3 7, 3) := by decide +kernel
theorem dL_law_2135 : decode cL_law 2135 = .ok (.goto (-2117), 3) := by decide +kernel
theorem dL_law_2138 : decode cL_law 2138 = .ok (.iconst 1, 1) := by decide +kernel
theorem dL_law_2139 : decode cL_law 2139 = .ok (.ireturn, 1) := by decide +kernel
