theorem dX10_init_1857 : decode cX10_init 1857 = .ok (.iastore, 1) := by decide +kernel
theorem dX10_init_1858 : decode cX10_init 1858 = .ok (.dup, 1) := by decide +kernel
theorem dX10_init_1859 : decode cX10_init 1859 = .ok (.sipush 249, 3) := by decide +kernel
theorem dX10_init_1862 : decode cX10_init 1862 = .ok (.sipush 8210, 3) := by decide +kernel
theorem dX10_init_1865 : decode cX10_init 1865 = .ok (.iastore, 1) := by decide +kernel
theorem dX10_init_1866 : decode cX10_init 1866 = .ok (.dup, 1) := by decide +kernel
theorem dX10_init_1867 : decode cX10_init 1867 = .ok (.sipush 250, 3) := by decide +kernel
theorem dX10_init_1870 : decode cX10_init 1870 = .ok (.sipush 9234, 3) := by decide +kernel
theorem dX10_init_1873 : decode cX10_init 1873 = .ok (.iastore, 1) := by decide +kernel
theorem dX10_init_1874 : decode cX10_init 1874 = .ok (.dup, 1) := by decide +kernel
theorem dX10_init_1875 : decode cX10_init 1875 = .ok (.sipush 251, 3) := by decide +kernel
theorem dX10_init_1878 : decode cX10_init 1878 = .ok (.sipush 8722, 3) := by decide +kernel
theorem dX10_init_1881 : decode cX10_init 1881 = .ok (.iastore, 1) := by decide +kernel
theorem dX10_init_1882 : decode cX10_init 1882 = .ok (.dup, 1) := by decide +kernel
theorem dX10_init_1883 : decode cX10_init 1883 = .ok (.sipush 252, 3) := by decide +kernel
theorem dX10_init_1886 : decode cX10_init 1886 = .ok (.sipush 4114, 3) := by decide +kernel
theorem dX10_init_1889 : decode cX10_init 1889 = .ok (.iastore, 1) := by decide +kernel
theorem dX10_init_1890 : decode cX10_init 1890 = .ok (.dup, 1) := by decide +kernel
theorem dX10_init_1891 : decode cX10_init 1891 = .ok (.sipush 253, 3) := by decide +kernel
theorem dX10_init_1894 : decode cX10_init 1894 = .ok (.sipush 530, 3) := by decide +kernel
theorem dX10_init_1897 : decode cX10_init 1897 = .ok (.iastore, 1) := by decide +kernel
theorem dX10_init_1898 : decode cX10_init 1898 = .ok (.dup, 1) := by decide +kernel
theorem dX10_init_1899 : decode cX10_init 1899 = .ok (.sipush 254, 3) := by decide +kernel
theorem dX10_init_1902 : decode cX10_init 1902 = .ok (.sipush 1042, 3) := by decide +kernel
theorem dX10_init_1905 : decode cX10_init 1905 = .ok (.iastore, 1) := by decide +kernel
theorem dX10_init_1906 : decode cX10_init 1906 = .ok (.dup, 1) := by decide +kernel
theorem dX10_init_1907 : decode cX10_init 1907 = .ok (.sipush 255, 3) := by decide +kernel
theorem dX10_init_1910 : decode cX10_init 1910 = .ok (.sipush 2066, 3) := by decide +kernel
theorem dX10_init_1913 : decode cX10_init 1913 = .ok (.iastore, 1) := by decide +kernel
theorem dX10_init_1914 : decode cX10_init 1914 = .ok (.putfield 7, 3) := by decide +kernel
theorem dX10_init_1917 : decode cX10_init 1917 = .ok (.aload_n 0, 1) := by decide +kernel
theorem dX10_init_1918 : decode cX10_init 1918 = .ok (.sipush 16384, 3) := by decide +kernel
theorem dX10_init_1921 : decode cX10_init 1921 = .ok (.newarray .int, 2) := by decide +kernel
theorem dX10_init_1923 : decode cX10_init 1923 = .ok (.putfield 13, 3) := by decide +kernel
theorem dX10_init_1926 : decode cX10_init 1926 = .ok (.aload_n 0, 1) := by decide +kernel
theorem dX10_init_1927 : decode cX10_init 1927 = .ok (.sipush 512, 3) := by decide +kernel
theorem dX10_init_1930 : decode cX10_init 1930 = .ok (.newarray .int, 2) := by decide +kernel
theorem dX10_init_1932 : decode cX10_init 1932 = .ok (.putfield 16, 3) := by decide +kernel
theorem dX10_init_1935 : decode cX10_init 1935 = .ok (.aload_n 0, 1) := by decide +kernel
theorem dX10_init_1936 : decode cX10_init 1936 = .ok (.sipush 256, 3) := by decide +kernel
theorem dX10_init_1939 : decode cX10_init 1939 = .ok (.newarray .int, 2) := by decide +kernel
theorem dX10_init_1941 : decode cX10_init 1941 = .ok (.putfield 19, 3) := by decide +kernel
theorem dX10_init_1944 : decode cX10_init 1944 = .ok (.aload_n 0, 1) := by decide +kernel
theorem dX10_init_1945 : decode cX10_init 1945 = .ok (.sipush 11712, 3) := by decide +kernel
theorem dX10_init_1948 : decode cX10_init 1948 = .ok (.newarray .byte, 2) := by decide +kernel
theorem dX10_init_1950 : decode cX10_init 1950 = .ok (.putfield 22, 3) := by decide +kernel
theorem dX10_init_1953 : decode cX10_init 1953 = .ok (.aload_n 0, 1) := by decide +kernel
theorem dX10_init_1954 : decode cX10_init 1954 = .ok (.bipush 20, 2) := by decide +kernel
theorem dX10_init_1956 : decode cX10_init 1956 = .ok (.newarray .int, 2) := by decide +kernel
theorem dX10_init_1958 : decode cX10_init 1958 = .ok (.putfield 26, 3) := by decide +kernel
theorem dX10_init_1961 : decode cX10_init 1961 = .ok (.aload_n 0, 1) := by decide +kernel
theorem dX10_init_1962 : decode cX10_init 1962 = .ok (.bipush 20, 2) := by decide +kernel
theorem dX10_init_1964 : decode cX10_init 1964 = .ok (.newarray .int, 2) := by decide +kernel
theorem dX10_init_1966 : decode cX10_init 1966 = .ok (.putfield 29, 3) := by decide +kernel
theorem dX10_init_1969 : decode cX10_init 1969 = .ok (.aload_n 0, 1) := by decide +kernel
theorem dX10_init_1970 : decode cX10_init 1970 = .ok (.bipush 20, 2) := by decide +kernel
theorem dX10_init_1972 : decode cX10_init 1972 = .ok (.newarray .int, 2) := by decide +kernel
theorem dX10_init_1974 : decode cX10_init 1974 = .ok (.putfield 32, 3) := by decide +kernel
theorem dX10_init_1977 : decode cX10_init 1977 = .ok (.aload_n 0, 1) := by decide +kernel
theorem dX10_init_1978 : decode cX10_init 1978 = .ok (.bipush 20, 2) := by decide +kernel
theorem dX10_init_1980 : decode cX10_init 1980 = .ok (.newarray .int, 2) := by decide +kernel
theorem dX10_init_1982 : decode cX10_init 1982 = .ok (.putfield 35, 3) := by decide +kernel
theorem dX10_init_1985 : decode cX10_init 1985 = .ok (.aload_n 0, 1) := by decide +kernel
theorem dX10_init_1986 : decode cX10_init 1986 = .ok (.ldc 38, 2) := by decide +kernel
theorem dX10_init_1988 : decode cX10_init 1988 = .ok (.newarray .byte, 2) := by decide +kernel
theorem dX10_init_1990 : decode cX10_init 1990 = .ok (.putfield 39, 3) := by decide +kernel
theorem dX10_init_1993 : decode cX10_init 1993 = .ok (.aload_n 0, 1) := by decide +kernel
theorem dX10_init_1994 : decode cX10_init 1994 = .ok (.bipush 96, 2) := by decide +kernel
theorem dX10_init_1996 : decode cX10_init 1996 = .ok (.newarray .int, 2) := by decide +kernel
theorem dX10_init_1998 : decode cX10_init 1998 = .ok (.putfield 42, 3) := by decide +kernel
theorem dX10_init_2001 : decode cX10_init 2001 = .ok (.aload_n 0, 1) := by decide +kernel
theorem dX10_init_2002 : decode cX10_init 2002 = .ok (.bipush 32, 2) := by decide +kernel
theorem dX10_init_2004 : decode cX10_init 2004 = .ok (.newarray .int, 2) := by decide +kernel
theorem dX10_init_2006 : decode cX10_init 2006 = .ok (.putfield 45, 3) := by decide +kernel
theorem dX10_init_2009 : decode cX10_init 2009 = .ok (.aload_n 0, 1) := by decide +kernel
theorem dX10_init_2010 : decode cX10_init 2010 = .ok (.bipush 32, 2) := by decide +kernel
theorem dX10_init_2012 : decode cX10_init 2012 = .ok (.newarray .boolean, 2) := by decide +kernel
theorem dX10_init_2014 : decode cX10_init 2014 = .ok (.putfield 48, 3) := by decide +kernel
theorem dX10_init_2017 : decode cX10_init 2017 = .ok (.aload_n 0, 1) := by decide +kernel
theorem dX10_init_2018 : decode cX10_init 2018 = .ok (.iconst 4, 1) := by decide +kernel
theorem dX10_init_2019 : decode cX10_init 2019 = .ok (.newarray .int, 2) := by decide +kernel
theorem dX10_init_2021 : decode cX10_init 2021 = .ok (.putfield 52, 3) := by decide +kernel
theorem dX10_init_2024 : decode cX10_init 2024 = .ok (.aload_n 0, 1) := by decide +kernel
theorem dX10_init_2025 : decode cX10_init 2025 = .ok (.iconst 4, 1) := by decide +kernel
theorem dX10_init_2026 : decode cX10_init 2026 = .ok (.newarray .int, 2) := by decide +kernel
theorem dX10_init_2028 : decode cX10_init 2028 = .ok (.putfield 55, 3) := by decide +kernel
theorem dX10_init_2031 : decode cX10_init 2031 = .ok (.aload_n 0, 1) := by decide +kernel
theorem dX10_init_2032 : decode cX10_init 2032 = .ok (.iconst 4, 1) := by decide +kernel
theorem dX10_init_2033 : decode cX10_init 2033 = .ok (.newarray .int, 2) := by decide +kernel
theorem dX10_init_2035 : decode cX10_init 2035 = .ok (.putfield 58, 3) := by decide +kernel
theorem dX10_init_2038 : decode cX10_init 2038 = .ok (.aload_n 0, 1) := by decide +kernel
theorem dX10_init_2039 : decode cX10_init 2039 = .ok (.bipush 20, 2) := by decide +kernel
theorem dX10_init_2041 : decode cX10_init 2041 = .ok (.newarray .int, 2) := by decide +kernel
theorem dX10_init_2043 : decode cX10_init 2043 = .ok (.putfield 61, 3) := by decide +kernel
theorem dX10_init_2046 : decode cX10_init 2046 = .ok (.aload_n 0, 1) := by decide +kernel
theorem dX10_init_2047 : decode cX10_init 2047 = .ok (.sipush 20480, 3) := by decide +kernel
theorem dX10_init_2050 : decode cX10_init 2050 = .ok (.newarray .int, 2) := by decide +kernel
theorem dX10_init_2052 : decode cX10_init 2052 = .ok (.putfield 64, 3) := by decide +kernel
theorem dX10_init_2055 : decode cX10_init 2055 = .ok (.aload_n 0, 1) := by decide +kernel
theorem dX10_init_2056 : decode cX10_init 2056 = .ok (.sipush 20480, 3) := by decide +kernel
