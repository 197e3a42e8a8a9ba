theorem dX10_init_2059 : decode cX10_init 2059 = .ok (.newarray .boolean, 2) := by decide +kernel
theorem dX10_init_2061 : decode cX10_init 2061 = .ok (.putfield 67, 3) := by decide +kernel
theorem dX10_init_2064 : decode cX10_init 2064 = .ok (.aload_n 0, 1) := by decide +kernel
theorem dX10_init_2065 : decode cX10_init 2065 = .ok (.sipush 640, 3) := by decide +kernel
theorem dX10_init_2068 : decode cX10_init 2068 = .ok (.newarray .int, 2) := by decide +kernel
theorem dX10_init_2070 : decode cX10_init 2070 = .ok (.putfield 70, 3) := by decide +kernel
theorem dX10_init_2073 : decode cX10_init 2073 = .ok (.aload_n 0, 1) := by decide +kernel
theorem dX10_init_2074 : decode cX10_init 2074 = .ok (.sipush 17920, 3) := by decide +kernel
theorem dX10_init_2077 : decode cX10_init 2077 = .ok (.newarray .int, 2) := by decide +kernel
theorem dX10_init_2079 : decode cX10_init 2079 = .ok (.putfield 73, 3) := by decide +kernel
theorem dX10_init_2082 : decode cX10_init 2082 = .ok (.aload_n 0, 1) := by decide +kernel
theorem dX10_init_2083 : decode cX10_init 2083 = .ok (.sipush 17920, 3) := by decide +kernel
theorem dX10_init_2086 : decode cX10_init 2086 = .ok (.newarray .boolean, 2) := by decide +kernel
theorem dX10_init_2088 : decode cX10_init 2088 = .ok (.putfield 76, 3) := by decide +kernel
theorem dX10_init_2091 : decode cX10_init 2091 = .ok (.aload_n 0, 1) := by decide +kernel
theorem dX10_init_2092 : decode cX10_init 2092 = .ok (.sipush 640, 3) := by decide +kernel
theorem dX10_init_2095 : decode cX10_init 2095 = .ok (.newarray .int, 2) := by decide +kernel
theorem dX10_init_2097 : decode cX10_init 2097 = .ok (.putfield 79, 3) := by decide +kernel
theorem dX10_init_2100 : decode cX10_init 2100 = .ok (.aload_n 0, 1) := by decide +kernel
theorem dX10_init_2101 : decode cX10_init 2101 = .ok (.sipush 640, 3) := by decide +kernel
theorem dX10_init_2104 : decode cX10_init 2104 = .ok (.newarray .int, 2) := by decide +kernel
theorem dX10_init_2106 : decode cX10_init 2106 = .ok (.putfield 82, 3) := by decide +kernel
theorem dX10_init_2109 : decode cX10_init 2109 = .ok (.aload_n 0, 1) := by decide +kernel
theorem dX10_init_2110 : decode cX10_init 2110 = .ok (.sipush 640, 3) := by decide +kernel
theorem dX10_init_2113 : decode cX10_init 2113 = .ok (.newarray .int, 2) := by decide +kernel
theorem dX10_init_2115 : decode cX10_init 2115 = .ok (.putfield 85, 3) := by decide +kernel
theorem dX10_init_2118 : decode cX10_init 2118 = .ok (.aload_n 0, 1) := by decide +kernel
theorem dX10_init_2119 : decode cX10_init 2119 = .ok (.sipush 11736, 3) := by decide +kernel
theorem dX10_init_2122 : decode cX10_init 2122 = .ok (.newarray .int, 2) := by decide +kernel
theorem dX10_init_2124 : decode cX10_init 2124 = .ok (.putfield 88, 3) := by decide +kernel
theorem dX10_init_2127 : decode cX10_init 2127 = .ok (.aload_n 0, 1) := by decide +kernel
theorem dX10_init_2128 : decode cX10_init 2128 = .ok (.sipush 11736, 3) := by decide +kernel
theorem dX10_init_2131 : decode cX10_init 2131 = .ok (.newarray .boolean, 2) := by decide +kernel
theorem dX10_init_2133 : decode cX10_init 2133 = .ok (.putfield 91, 3) := by decide +kernel
theorem dX10_init_2136 : decode cX10_init 2136 = .ok (.aload_n 0, 1) := by decide +kernel
theorem dX10_init_2137 : decode cX10_init 2137 = .ok (.bipush 32, 2) := by decide +kernel
theorem dX10_init_2139 : decode cX10_init 2139 = .ok (.newarray .int, 2) := by decide +kernel
theorem dX10_init_2141 : decode cX10_init 2141 = .ok (.putfield 94, 3) := by decide +kernel
theorem dX10_init_2144 : decode cX10_init 2144 = .ok (.aload_n 0, 1) := by decide +kernel
theorem dX10_init_2145 : decode cX10_init 2145 = .ok (.bipush 32, 2) := by decide +kernel
theorem dX10_init_2147 : decode cX10_init 2147 = .ok (.newarray .boolean, 2) := by decide +kernel
theorem dX10_init_2149 : decode cX10_init 2149 = .ok (.putfield 97, 3) := by decide +kernel
theorem dX10_init_2152 : decode cX10_init 2152 = .ok (.iconst 1, 1) := by decide +kernel
theorem dX10_init_2153 : decode cX10_init 2153 = .ok (.istore_n 1, 1) := by decide +kernel
theorem dX10_init_2154 : decode cX10_init 2154 = .ok (.iconst 0, 1) := by decide +kernel
theorem dX10_init_2155 : decode cX10_init 2155 = .ok (.istore_n 2, 1) := by decide +kernel
theorem dX10_init_2156 : decode cX10_init 2156 = .ok (.iload_n 2, 1) := by decide +kernel
theorem dX10_init_2157 : decode cX10_init 2157 = .ok (.sipush 255, 3) := by decide +kernel
theorem dX10_init_2160 : decode cX10_init 2160 = .ok (.if_icmp .ge 51, 3) := by decide +kernel
theorem dX10_init_2163 : decode cX10_init 2163 = .ok (.aload_n 0, 1) := by decide +kernel
theorem dX10_init_2164 : decode cX10_init 2164 = .ok (.getfield 16, 3) := by decide +kernel
theorem dX10_init_2167 : decode cX10_init 2167 = .ok (.iload_n 2, 1) := by decide +kernel
theorem dX10_init_2168 : decode cX10_init 2168 = .ok (.iload_n 1, 1) := by decide +kernel
theorem dX10_init_2169 : decode cX10_init 2169 = .ok (.iastore, 1) := by decide +kernel
theorem dX10_init_2170 : decode cX10_init 2170 = .ok (.aload_n 0, 1) := by decide +kernel
theorem dX10_init_2171 : decode cX10_init 2171 = .ok (.getfield 16, 3) := by decide +kernel
theorem dX10_init_2174 : decode cX10_init 2174 = .ok (.iload_n 2, 1) := by decide +kernel
theorem dX10_init_2175 : decode cX10_init 2175 = .ok (.sipush 255, 3) := by decide +kernel
theorem dX10_init_2178 : decode cX10_init 2178 = .ok (.iadd, 1) := by decide +kernel
theorem dX10_init_2179 : decode cX10_init 2179 = .ok (.iload_n 1, 1) := by decide +kernel
theorem dX10_init_2180 : decode cX10_init 2180 = .ok (.iastore, 1) := by decide +kernel
theorem dX10_init_2181 : decode cX10_init 2181 = .ok (.aload_n 0, 1) := by decide +kernel
theorem dX10_init_2182 : decode cX10_init 2182 = .ok (.getfield 19, 3) := by decide +kernel
theorem dX10_init_2185 : decode cX10_init 2185 = .ok (.iload_n 1, 1) := by decide +kernel
theorem dX10_init_2186 : decode cX10_init 2186 = .ok (.iload_n 2, 1) := by decide +kernel
theorem dX10_init_2187 : decode cX10_init 2187 = .ok (.iastore, 1) := by decide +kernel
theorem dX10_init_2188 : decode cX10_init 2188 = .ok (.iload_n 1, 1) := by decide +kernel
theorem dX10_init_2189 : decode cX10_init 2189 = .ok (.iconst 1, 1) := by decide +kernel
theorem dX10_init_2190 : decode cX10_init 2190 = .ok (.ishl, 1) := by decide +kernel
theorem dX10_init_2191 : decode cX10_init 2191 = .ok (.istore_n 1, 1) := by decide +kernel
theorem dX10_init_2192 : decode cX10_init 2192 = .ok (.iload_n 1, 1) := by decide +kernel
theorem dX10_init_2193 : decode cX10_init 2193 = .ok (.sipush 255, 3) := by decide +kernel
theorem dX10_init_2196 : decode cX10_init 2196 = .ok (.if_icmp .le 9, 3) := by decide +kernel
theorem dX10_init_2199 : decode cX10_init 2199 = .ok (.iload_n 1, 1) := by decide +kernel
theorem dX10_init_2200 : decode cX10_init 2200 = .ok (.sipush 285, 3) := by decide +kernel
theorem dX10_init_2203 : decode cX10_init 2203 = .ok (.ixor, 1) := by decide +kernel
theorem dX10_init_2204 : decode cX10_init 2204 = .ok (.istore_n 1, 1) := by decide +kernel
theorem dX10_init_2205 : decode cX10_init 2205 = .ok (.iinc 2 1, 3) := by decide +kernel
theorem dX10_init_2208 : decode cX10_init 2208 = .ok (.goto (-52), 3) := by decide +kernel
theorem dX10_init_2211 : decode cX10_init 2211 = .ok (.iconst 0, 1) := by decide +kernel
theorem dX10_init_2212 : decode cX10_init 2212 = .ok (.istore_n 2, 1) := by decide +kernel
theorem dX10_init_2213 : decode cX10_init 2213 = .ok (.iload_n 2, 1) := by decide +kernel
theorem dX10_init_2214 : decode cX10_init 2214 = .ok (.sipush 16384, 3) := by decide +kernel
theorem dX10_init_2217 : decode cX10_init 2217 = .ok (.if_icmp .ge 16, 3) := by decide +kernel
theorem dX10_init_2220 : decode cX10_init 2220 = .ok (.aload_n 0, 1) := by decide +kernel
theorem dX10_init_2221 : decode cX10_init 2221 = .ok (.getfield 13, 3) := by decide +kernel
theorem dX10_init_2224 : decode cX10_init 2224 = .ok (.iload_n 2, 1) := by decide +kernel
theorem dX10_init_2225 : decode cX10_init 2225 = .ok (.iconst (-1), 1) := by decide +kernel
theorem dX10_init_2226 : decode cX10_init 2226 = .ok (.iastore, 1) := by decide +kernel
theorem dX10_init_2227 : decode cX10_init 2227 = .ok (.iinc 2 1, 3) := by decide +kernel
theorem dX10_init_2230 : decode cX10_init 2230 = .ok (.goto (-17), 3) := by decide +kernel
theorem dX10_init_2233 : decode cX10_init 2233 = .ok (.iconst 0, 1) := by decide +kernel
theorem dX10_init_2234 : decode cX10_init 2234 = .ok (.istore_n 2, 1) := by decide +kernel
theorem dX10_init_2235 : decode cX10_init 2235 = .ok (.iload_n 2, 1) := by decide +kernel
theorem dX10_init_2236 : decode cX10_init 2236 = .ok (.sipush 256, 3) := by decide +kernel
theorem dX10_init_2239 : decode cX10_init 2239 = .ok (.if_icmp .ge 21, 3) := by decide +kernel
theorem dX10_init_2242 : decode cX10_init 2242 = .ok (.aload_n 0, 1) := by decide +kernel
theorem dX10_init_2243 : decode cX10_init 2243 = .ok (.getfield 13, 3) := by decide +kernel
theorem dX10_init_2246 : decode cX10_init 2246 = .ok (.aload_n 0, 1) := by decide +kernel
theorem dX10_init_2247 : decode cX10_init 2247 = .ok (.getfield 7, 3) := by decide +kernel
