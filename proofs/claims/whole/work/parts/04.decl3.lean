theorem dL_law_1868 : decode cL_law 1868 = .ok (.iadd, 1) := by decide +kernel
theorem dL_law_1869 : decode cL_law 1869 = .ok (.iaload, 1) := by decide +kernel
theorem dL_law_1870 : decode cL_law 1870 = .ok (.aload_n 0, 1) := by decide +kernel
theorem dL_law_1871 : decode cL_law 1871 = .ok (.iload_n 3, 1) := by decide +kernel
theorem dL_law_1872 : decode cL_law 1872 = .ok (.iconst 2, 1) := by decide +kernel
theorem dL_law_1873 : decode cL_law 1873 = .ok (.iadd, 1) := by decide +kernel
theorem dL_law_1874 : decode cL_law 1874 = .ok (.iaload, 1) := by decide +kernel
theorem dL_law_1875 : decode cL_law 1875 = .ok (.aload_n 0, 1) := by decide +kernel
theorem dL_law_1876 : decode cL_law 1876 = .ok (.iload_n 3, 1) := by decide +kernel
theorem dL_law_1877 : decode cL_law 1877 = .ok (.iconst 3, 1) := by decide +kernel
theorem dL_law_1878 : decode cL_law 1878 = .ok (.iadd, 1) := by decide +kernel
theorem dL_law_1879 : decode cL_law 1879 = .ok (.iaload, 1) := by decide +kernel
theorem dL_law_1880 : decode cL_law 1880 = .ok (.invokevirtual 199, 3) := by decide +kernel
theorem dL_law_1883 : decode cL_law 1883 = .ok (.lcmp, 1) := by decide +kernel
theorem dL_law_1884 : decode cL_law 1884 = .ok (.ifCond .eq 500, 3) := by decide +kernel
theorem dL_law_1887 : decode cL_law 1887 = .ok (.iconst 0, 1) := by decide +kernel
theorem dL_law_1888 : decode cL_law 1888 = .ok (.ireturn, 1) := by decide +kernel
theorem dL_law_1889 : decode cL_law 1889 = .ok (.aload_n 1, 1) := by decide +kernel
theorem dL_law_1890 : decode cL_law 1890 = .ok (.aload_n 0, 1) := by decide +kernel
theorem dL_law_1891 : decode cL_law 1891 = .ok (.iload_n 3, 1) := by decide +kernel
theorem dL_law_1892 : decode cL_law 1892 = .ok (.iconst 1, 1) := by decide +kernel
theorem dL_law_1893 : decode cL_law 1893 = .ok (.iadd, 1) := by decide +kernel
theorem dL_law_1894 : decode cL_law 1894 = .ok (.iaload, 1) := by decide +kernel
theorem dL_law_1895 : decode cL_law 1895 = .ok (.aload_n 0, 1) := by decide +kernel
theorem dL_law_1896 : decode cL_law 1896 = .ok (.iload_n 3, 1) := by decide +kernel
theorem dL_law_1897 : decode cL_law 1897 = .ok (.iconst 2, 1) := by decide +kernel
theorem dL_law_1898 : decode cL_law 1898 = .ok (.iadd, 1) := by decide +kernel
theorem dL_law_1899 : decode cL_law 1899 = .ok (.iaload, 1) := by decide +kernel
theorem dL_law_1900 : decode cL_law 1900 = .ok (.aload_n 0, 1) := by decide +kernel
theorem dL_law_1901 : decode cL_law 1901 = .ok (.iload_n 3, 1) := by decide +kernel
theorem dL_law_1902 : decode cL_law 1902 = .ok (.iconst 3, 1) := by decide +kernel
theorem dL_law_1903 : decode cL_law 1903 = .ok (.iadd, 1) := by decide +kernel
theorem dL_law_1904 : decode cL_law 1904 = .ok (.iaload, 1) := by decide +kernel
theorem dL_law_1905 : decode cL_law 1905 = .ok (.invokevirtual 200, 3) := by decide +kernel
theorem dL_law_1908 : decode cL_law 1908 = .ok (.aload_n 2, 1) := by decide +kernel
theorem dL_law_1909 : decode cL_law 1909 = .ok (.aload_n 0, 1) := by decide +kernel
theorem dL_law_1910 : decode cL_law 1910 = .ok (.iload_n 3, 1) := by decide +kernel
theorem dL_law_1911 : decode cL_law 1911 = .ok (.iconst 1, 1) := by decide +kernel
theorem dL_law_1912 : decode cL_law 1912 = .ok (.iadd, 1) := by decide +kernel
theorem dL_law_1913 : decode cL_law 1913 = .ok (.iaload, 1) := by decide +kernel
theorem dL_law_1914 : decode cL_law 1914 = .ok (.aload_n 0, 1) := by decide +kernel
theorem dL_law_1915 : decode cL_law 1915 = .ok (.iload_n 3, 1) := by decide +kernel
theorem dL_law_1916 : decode cL_law 1916 = .ok (.iconst 2, 1) := by decide +kernel
theorem dL_law_1917 : decode cL_law 1917 = .ok (.iadd, 1) := by decide +kernel
theorem dL_law_1918 : decode cL_law 1918 = .ok (.iaload, 1) := by decide +kernel
theorem dL_law_1919 : decode cL_law 1919 = .ok (.aload_n 0, 1) := by decide +kernel
theorem dL_law_1920 : decode cL_law 1920 = .ok (.iload_n 3, 1) := by decide +kernel
theorem dL_law_1921 : decode cL_law 1921 = .ok (.iconst 3, 1) := by decide +kernel
theorem dL_law_1922 : decode cL_law 1922 = .ok (.iadd, 1) := by decide +kernel
theorem dL_law_1923 : decode cL_law 1923 = .ok (.iaload, 1) := by decide +kernel
theorem dL_law_1924 : decode cL_law 1924 = .ok (.invokevirtual 203, 3) := by decide +kernel
theorem dL_law_1927 : decode cL_law 1927 = .ok (.if_icmp .eq 457, 3) := by decide +kernel
theorem dL_law_1930 : decode cL_law 1930 = .ok (.iconst 0, 1) := by decide +kernel
theorem dL_law_1931 : decode cL_law 1931 = .ok (.ireturn, 1) := by decide +kernel
theorem dL_law_1932 : decode cL_law 1932 = .ok (.aload_n 1, 1) := by decide +kernel
theorem dL_law_1933 : decode cL_law 1933 = .ok (.aload_n 0, 1) := by decide +kernel
theorem dL_law_1934 : decode cL_law 1934 = .ok (.iload_n 3, 1) := by decide +kernel
theorem dL_law_1935 : decode cL_law 1935 = .ok (.iconst 1, 1) := by decide +kernel
theorem dL_law_1936 : decode cL_law 1936 = .ok (.iadd, 1) := by decide +kernel
theorem dL_law_1937 : decode cL_law 1937 = .ok (.iaload, 1) := by decide +kernel
theorem dL_law_1938 : decode cL_law 1938 = .ok (.aload_n 0, 1) := by decide +kernel
theorem dL_law_1939 : decode cL_law 1939 = .ok (.iload_n 3, 1) := by decide +kernel
theorem dL_law_1940 : decode cL_law 1940 = .ok (.iconst 2, 1) := by decide +kernel
theorem dL_law_1941 : decode cL_law 1941 = .ok (.iadd, 1) := by decide +kernel
theorem dL_law_1942 : decode cL_law 1942 = .ok (.iaload, 1) := by decide +kernel
theorem dL_law_1943 : decode cL_law 1943 = .ok (.aload_n 0, 1) := by decide +kernel
theorem dL_law_1944 : decode cL_law 1944 = .ok (.iload_n 3, 1) := by decide +kernel
theorem dL_law_1945 : decode cL_law 1945 = .ok (.iconst 3, 1) := by decide +kernel
theorem dL_law_1946 : decode cL_law 1946 = .ok (.iadd, 1) := by decide +kernel
theorem dL_law_1947 : decode cL_law 1947 = .ok (.iaload, 1) := by decide +kernel
theorem dL_law_1948 : decode cL_law 1948 = .ok (.aload_n 0, 1) := by decide +kernel
theorem dL_law_1949 : decode cL_law 1949 = .ok (.iload_n 3, 1) := by decide +kernel
theorem dL_law_1950 : decode cL_law 1950 = .ok (.iconst 4, 1) := by decide +kernel
theorem dL_law_1951 : decode cL_law 1951 = .ok (.iadd, 1) := by decide +kernel
theorem dL_law_1952 : decode cL_law 1952 = .ok (.iaload, 1) := by decide +kernel
theorem dL_law_1953 : decode cL_law 1953 = .ok (.aload_n 0, 1) := by decide +kernel
theorem dL_law_1954 : decode cL_law 1954 = .ok (.iload_n 3, 1) := by decide +kernel
theorem dL_law_1955 : decode cL_law 1955 = .ok (.iconst 5, 1) := by decide +kernel
theorem dL_law_1956 : decode cL_law 1956 = .ok (.iadd, 1) := by decide +kernel
theorem dL_law_1957 : decode cL_law 1957 = .ok (.iaload, 1) := by decide +kernel
theorem dL_law_1958 : decode cL_law 1958 = .ok (.invokevirtual 204, 3) := by decide +kernel
theorem dL_law_1961 : decode cL_law 1961 = .ok (.aload_n 2, 1) := by decide +kernel
theorem dL_law_1962 : decode cL_law 1962 = .ok (.aload_n 0, 1) := by decide +kernel
theorem dL_law_1963 : decode cL_law 1963 = .ok (.iload_n 3, 1) := by decide +kernel
theorem dL_law_1964 : decode cL_law 1964 = .ok (.iconst 1, 1) := by decide +kernel
theorem dL_law_1965 : decode cL_law 1965 = .ok (.iadd, 1) := by decide +kernel
theorem dL_law_1966 : decode cL_law 1966 = .ok (.iaload, 1) := by decide +kernel
theorem dL_law_1967 : decode cL_law 1967 = .ok (.aload_n 0, 1) := by decide +kernel
theorem dL_law_1968 : decode cL_law 1968 = .ok (.iload_n 3, 1) := by decide +kernel
theorem dL_law_1969 : decode cL_law 1969 = .ok (.iconst 2, 1) := by decide +kernel
theorem dL_law_1970 : decode cL_law 1970 = .ok (.iadd, 1) := by decide +kernel
theorem dL_law_1971 : decode cL_law 1971 = .ok (.iaload, 1) := by decide +kernel
theorem dL_law_1972 : decode cL_law 1972 = .ok (.aload_n 0, 1) := by decide +kernel
theorem dL_law_1973 : decode cL_law 1973 = .ok (.iload_n 3, 1) := by decide +kernel
theorem dL_law_1974 : decode cL_law 1974 = .ok (.iconst 3, 1) := by decide +kernel
theorem dL_law_1975 : decode cL_law 1975 = .ok (.iadd, 1) := by decide +kernel
theorem dL_law_1976 : decode cL_law 1976 = .ok (.iaload, 1) := by decide +kernel
theorem dL_law_1977 : decode cL_law 1977 = .ok (.aload_n 0, 1) := by decide +kernel
theorem dL_law_1978 : decode cL_law 1978 = .ok (.iload_n 3, 1) := by decide +kernel
theorem dL_law_1979 : decode cL_law 1979 = .ok (.iconst 4, 1) := by decide +kernel
theorem dL_law_1980 : decode cL_law 1980 = .ok (.iadd, 1) := by decide +kernel
theorem dL_law_1981 : decode cL_law 1981 = .ok (.iaload, 1) := by decide +kernel
theorem dL_law_1982 : decode cL_law 1982 = .ok (.aload_n 0, 1) := by decide +kernel
theorem dL_law_1983 : decode cL_law 1983 = .ok (.iload_n 3, 1) := by decide +kernel
theorem dL_law_1984 : decode cL_law 1984 = .ok (.iconst 5, 1) := by decide +kernel
theorem dL_law_1985 : decode cL_law 1985 = .ok (.iadd, 1) := by decide +kernel
theorem dL_law_1986 : decode cL_law 1986 = .ok (.iaload, 1) := by decide +kernel
theorem dL_law_1987 : decode cL_law 1987 = .ok (.invokevirtual 208, 3) := by decide +kernel
theorem dL_law_1990 : decode cL_law 1990 = .ok (.lcmp, 1) := by decide +kernel
theorem dL_law_1991 : decode cL_law 1991 = .ok (.ifCond .eq 393, 3) := by decide +kernel
theorem dL_law_1994 : decode cL_law 1994 = .ok (.iconst 0, 1) := by decide +kernel
theorem dL_law_1995 : decode cL_law 1995 = .ok (.ireturn, 1) := by decide +kernel
theorem dL_law_1996 : decode cL_law 1996 = .ok (.aload_n 1, 1) := by decide +kernel
theorem dL_law_1997 : decode cL_law 1997 = .ok (.aload_n 0, 1) := by decide +kernel
theorem dL_law_1998 : decode cL_law 1998 = .ok (.iload_n 3, 1) := by decide +kernel
theorem dL_law_1999 : decode cL_law 1999 = .ok (.iconst 1, 1) := by decide +kernel
theorem dL_law_2000 : decode cL_law 2000 = .ok (.iadd, 1) := by decide +kernel
theorem dL_law_2001 : decode cL_law 2001 = .ok (.iaload, 1) := by decide +kernel
theorem dL_law_2002 : decode cL_law 2002 = .ok (.aload_n 0, 1) := by decide +kernel
theorem dL_law_2003 : decode cL_law 2003 = .ok (.iload_n 3, 1) := by decide +kernel
theorem dL_law_2004 : decode cL_law 2004 = .ok (.iconst 2, 1) := by decide +kernel
theorem dL_law_2005 : decode cL_law 2005 = .ok (.iadd, 1) := by decide +kernel
theorem dL_law_2006 : decode cL_law 2006 = .ok (.iaload, 1) := by decide +kernel
theorem dL_law_2007 : decode cL_law 2007 = .ok (.ifCond .eq 7, 3) := by decide +kernel
theorem dL_law_2010 : decode cL_law 2010 = .ok (.iconst 1, 1) := by decide +kernel
theorem dL_law_2011 : decode cL_law 2011 = .ok (.goto 4, 3) := by decide +kernel
theorem dL_law_2014 : decode cL_law 2014 = .ok (.iconst 0, 1) := by decide +kernel
theorem dL_law_2015 : decode cL_law 2015 = .ok (.invokevirtual 209, 3) := by decide +kernel
theorem dL_law_2018 : decode cL_law 2018 = .ok (.aload_n 2, 1) := by decide +kernel
theorem dL_law_2019 : decode cL_law 2019 = .ok (.aload_n 0, 1) := by decide +kernel
theorem dL_law_2020 : decode cL_law 2020 = .ok (.iload_n 3, 1) := by decide +kernel
theorem dL_law_2021 : decode cL_law 2021 = .ok (.iconst 1, 1) := by decide +kernel
theorem dL_law_2022 : decode cL_law 2022 = .ok (.iadd, 1) := by decide +kernel
theorem dL_law_2023 : decode cL_law 2023 = .ok (.iaload, 1) := by decide +kernel
theorem dL_law_2024 : decode cL_law 2024 = .ok (.aload_n 0, 1) := by decide +kernel
theorem dL_law_2025 : decode cL_law 2025 = .ok (.iload_n 3, 1) := by decide +kernel
theorem dL_law_2026 : decode cL_law 2026 = .ok (.iconst 2, 1) := by decide +kernel
theorem dL_law_2027 : decode cL_law 2027 = .ok (.iadd, 1) := by decide +kernel
theorem dL_law_2028 : decode cL_law 2028 = .ok (.iaload, 1) := by decide +kernel
theorem dL_law_2029 : decode cL_law 2029 = .ok (.ifCond .eq 7, 3) := by decide +kernel
theorem dL_law_2032 : decode cL_law 2032 = .ok (.iconst 1, 1) := by decide +kernel
theorem dL_law_2033 : decode cL_law 2033 = .ok (.goto 4, 3) := by decide +kernel
theorem dL_law_2036 : decode cL_law 2036 = .ok (.iconst 0, 1) := by decide +kernel
theorem dL_law_2037 : decode cL_law 2037 = .ok (.invokevirtual 213, 3) := by decide +kernel
theorem dL_law_2040 : decode cL_law 2040 = .ok (.lcmp, 1) := by decide +kernel
theorem dL_law_2041 : decode cL_law 2041 = .ok (.ifCond .eq 343, 3) := by decide +kernel
theorem dL_law_2044 : decode cL_law 2044 = .ok (.iconst 0, 1) := by decide +kernel
theorem dL_law_2045 : decode cL_law 2045 = .ok (.ireturn, 1) := by decide +kernel
theorem dL_law_2046 : decode cL_law 2046 = .ok (.aload_n 1, 1) := by decide +kernel
theorem dL_law_2047 : decode cL_law 2047 = .ok (.aload_n 0, 1) := by decide +kernel
theorem dL_law_2048 : decode cL_law 2048 = .ok (.iload_n 3, 1) := by decide +kernel
theorem dL_law_2049 : decode cL_law 2049 = .ok (.iconst 1, 1) := by decide +kernel
theorem dL_law_2050 : decode cL_law 2050 = .ok (.iadd, 1) := by decide +kernel
theorem dL_law_2051 : decode cL_law 2051 = .ok (.iaload, 1) := by decide +kernel
theorem dL_law_2052 : decode cL_law 2052 = .ok (.aload_n 0, 1) := by decide +kernel
theorem dL_law_2053 : decode cL_law 2053 = .ok (.iload_n 3, 1) := by decide +kernel
theorem dL_law_2054 : decode cL_law 2054 = .ok (.iconst 2, 1) := by decide +kernel
theorem dL_law_2055 : decode cL_law 2055 = .ok (.iadd, 1) := by decide +kernel
theorem dL_law_2056 : decode cL_law 2056 = .ok (.iaload, 1) := by decide +kernel
theorem dL_law_2057 : decode cL_law 2057 = .ok (.aload_n 0, 1) := by decide +kernel
theorem dL_law_2058 : decode cL_law 2058 = .ok (.iload_n 3, 1) := by decide +kernel
theorem dL_law_2059 : decode cL_law 2059 = .ok (.iconst 3, 1) := by decide +kernel
theorem dL_law_2060 : decode cL_law 2060 = .ok (.iadd, 1) := by decide +kernel
theorem dL_law_2061 : decode cL_law 2061 = .ok (.iaload, 1) := by decide +kernel
theorem dL_law_2062 : decode cL_law 2062 = .ok (.invokevirtual 214, 3) := by decide +kernel
theorem dL_law_2065 : decode cL_law 2065 = .ok (.aload_n 2, 1) := by decide +kernel
theorem dL_law_2066 : decode cL_law 2066 = .ok (.aload_n 0, 1) := by decide +kernel
theorem dL_law_2067 : decode cL_law 2067 = .ok (.iload_n 3, 1) := by decide +kernel
theorem dL_law_2068 : decode cL_law 2068 = .ok (.iconst 1, 1) := by decide +kernel
theorem dL_law_2069 : decode cL_law 2069 = .ok (.iadd, 1) := by decide +kernel
theorem dL_law_2070 : decode cL_law 2070 = .ok (.iaload, 1) := by decide +kernel
theorem dL_law_2071 : decode cL_law 2071 = .ok (.aload_n 0, 1) := by decide +kernel
theorem dL_law_2072 : decode cL_law 2072 = .ok (.iload_n 3, 1) := by decide +kernel
theorem dL_law_2073 : decode cL_law 2073 = .ok (.iconst 2, 1) := by decide +kernel
theorem dL_law_2074 : decode cL_law 2074 = .ok (.iadd, 1) := by decide +kernel
theorem dL_law_2075 : decode cL_law 2075 = .ok (.iaload, 1) := by decide +kernel
theorem dL_law_2076 : decode cL_law 2076 = .ok (.aload_n 0, 1) := by decide +kernel
theorem dL_law_2077 : decode cL_law 2077 = .ok (.iload_n 3, 1) := by decide +kernel
theorem dL_law_2078 : decode cL_law 2078 = .ok (.iconst 3, 1) := by decide +kernel
theorem dL_law_2079 : decode cL_law 2079 = .ok (.iadd, 1) := by decide +kernel
theorem dL_law_2080 : decode cL_law 2080 = .ok (.iaload, 1) := by decide +kernel
theorem dL_law_2081 : decode cL_law 2081 = .ok (.invokevirtual 217, 3) := by decide +kernel
theorem dL_law_2084 : decode cL_law 2084 = .ok (.if_icmp .eq 300, 3) := by decide +kernel
theorem dL_law_2087 : decode cL_law 2087 = .ok (.iconst 0, 1) := by decide +kernel
theorem dL_law_2088 : decode cL_law 2088 = .ok (.ireturn, 1) := by decide +kernel
theorem dL_law_2089 : decode cL_law 2089 = .ok (.aload_n 1, 1) := by decide +kernel
theorem dL_law_2090 : decode cL_law 2090 = .ok (.aload_n 0, 1) := by decide +kernel
theorem dL_law_2091 : decode cL_law 2091 = .ok (.iload_n 3, 1) := by decide +kernel
theorem dL_law_2092 : decode cL_law 2092 = .ok (.iconst 1, 1) := by decide +kernel
theorem dL_law_2093 : decode cL_law 2093 = .ok (.iadd, 1) := by decide +kernel
theorem dL_law_2094 : decode cL_law 2094 = .ok (.iaload, 1) := by decide +kernel
theorem dL_law_2095 : decode cL_law 2095 = .ok (.invokevirtual 218, 3) := by decide +kernel
theorem dL_law_2098 : decode cL_law 2098 = .ok (.aload_n 2, 1) := by decide +kernel
theorem dL_law_2099 : decode cL_law 2099 = .ok (.aload_n 0, 1) := by decide +kernel
theorem dL_law_2100 : decode cL_law 2100 = .ok (.iload_n 3, 1) := by decide +kernel
theorem dL_law_2101 : decode cL_law 2101 = .ok (.iconst 1, 1) := by decide +kernel
theorem dL_law_2102 : decode cL_law 2102 = .ok (.iadd, 1) := by decide +kernel
theorem dL_law_2103 : decode cL_law 2103 = .ok (.iaload, 1) := by decide +kernel
theorem dL_law_2104 : decode cL_law 2104 = .ok (.invokevirtual 221, 3) := by decide +kernel
theorem dL_law_2107 : decode cL_law 2107 = .ok (.if_icmp .eq 277, 3) := by decide +kernel
theorem dL_law_2110 : decode cL_law 2110 = .ok (.iconst 0, 1) := by decide +kernel
theorem dL_law_2111 : decode cL_law 2111 = .ok (.ireturn, 1) := by decide +kernel
theorem dL_law_2112 : decode cL_law 2112 = .ok (.aload_n 1, 1) := by decide +kernel
theorem dL_law_2113 : decode cL_law 2113 = .ok (.aload_n 0, 1) := by decide +kernel
theorem dL_law_2114 : decode cL_law 2114 = .ok (.iload_n 3, 1) := by decide +kernel
theorem dL_law_2115 : decode cL_law 2115 = .ok (.iconst 1, 1) := by decide +kernel
theorem dL_law_2116 : decode cL_law 2116 = .ok (.iadd, 1) := by decide +kernel
theorem dL_law_2117 : decode cL_law 2117 = .ok (.iaload, 1) := by decide +kernel
theorem dL_law_2118 : decode cL_law 2118 = .ok (.aload_n 0, 1) := by decide +kernel
theorem dL_law_2119 : decode cL_law 2119 = .ok (.iload_n 3, 1) := by decide +kernel
theorem dL_law_2120 : decode cL_law 2120 = .ok (.iconst 2, 1) := by decide +kernel
theorem dL_law_2121 : decode cL_law 2121 = .ok (.iadd, 1) := by decide +kernel
theorem dL_law_2122 : decode cL_law 2122 = .ok (.iaload, 1) := by decide +kernel
theorem dL_law_2123 : decode cL_law 2123 = .ok (.aload_n 0, 1) := by decide +kernel
theorem dL_law_2124 : decode cL_law 2124 = .ok (.iload_n 3, 1) := by decide +kernel
theorem dL_law_2125 : decode cL_law 2125 = .ok (.iconst 3, 1) := by decide +kernel
theorem dL_law_2126 : decode cL_law 2126 = .ok (.iadd, 1) := by decide +kernel
theorem dL_law_2127 : decode cL_law 2127 = .ok (.iaload, 1) := by decide +kernel
theorem dL_law_2128 : decode cL_law 2128 = .ok (.aload_n 0, 1) := by decide +kernel
theorem dL_law_2129 : decode cL_law 2129 = .ok (.iload_n 3, 1) := by decide +kernel
theorem dL_law_2130 : decode cL_law 2130 = .ok (.iconst 4, 1) := by decide +kernel
theorem dL_law_2131 : decode cL_law 2131 = .ok (.iadd, 1) := by decide +kernel
theorem dL_law_2132 : decode cL_law 2132 = .ok (.iaload, 1) := by decide +kernel
theorem dL_law_2133 : decode cL_law 2133 = .ok (.invokevirtual 222, 3) := by decide +kernel
theorem dL_law_2136 : decode cL_law 2136 = .ok (.aload_n 2, 1) := by decide +kernel
theorem dL_law_2137 : decode cL_law 2137 = .ok (.aload_n 0, 1) := by decide +kernel
theorem dL_law_2138 : decode cL_law 2138 = .ok (.iload_n 3, 1) := by decide +kernel
theorem dL_law_2139 : decode cL_law 2139 = .ok (.iconst 1, 1) := by decide +kernel
theorem dL_law_2140 : decode cL_law 2140 = .ok (.iadd, 1) := by decide +kernel
theorem dL_law_2141 : decode cL_law 2141 = .ok (.iaload, 1) := by decide +kernel
theorem dL_law_2142 : decode cL_law 2142 = .ok (.aload_n 0, 1) := by decide +kernel
theorem dL_law_2143 : decode cL_law 2143 = .ok (.iload_n 3, 1) := by decide +kernel
theorem dL_law_2144 : decode cL_law 2144 = .ok (.iconst 2, 1) := by decide +kernel
theorem dL_law_2145 : decode cL_law 2145 = .ok (.iadd, 1) := by decide +kernel
theorem dL_law_2146 : decode cL_law 2146 = .ok (.iaload, 1) := by decide +kernel
theorem dL_law_2147 : decode cL_law 2147 = .ok (.aload_n 0, 1) := by decide +kernel
theorem dL_law_2148 : decode cL_law 2148 = .ok (.iload_n 3, 1) := by decide +kernel
theorem dL_law_2149 : decode cL_law 2149 = .ok (.iconst 3, 1) := by decide +kernel
theorem dL_law_2150 : decode cL_law 2150 = .ok (.iadd, 1) := by decide +kernel
theorem dL_law_2151 : decode cL_law 2151 = .ok (.iaload, 1) := by decide +kernel
theorem dL_law_2152 : decode cL_law 2152 = .ok (.aload_n 0, 1) := by decide +kernel
theorem dL_law_2153 : decode cL_law 2153 = .ok (.iload_n 3, 1) := by decide +kernel
theorem dL_law_2154 : decode cL_law 2154 = .ok (.iconst 4, 1) := by decide +kernel
theorem dL_law_2155 : decode cL_law 2155 = .ok (.iadd, 1) := by decide +kernel
theorem dL_law_2156 : decode cL_law 2156 = .ok (.iaload, 1) := by decide +kernel
theorem dL_law_2157 : decode cL_law 2157 = .ok (.invokevirtual 225, 3) := by decide +kernel
theorem dL_law_2160 : decode cL_law 2160 = .ok (.if_icmp .eq 224, 3) := by decide +kernel
theorem dL_law_2163 : decode cL_law 2163 = .ok (.iconst 0, 1) := by decide +kernel
theorem dL_law_2164 : decode cL_law 2164 = .ok (.ireturn, 1) := by decide +kernel
theorem dL_law_2165 : decode cL_law 2165 = .ok (.aload_n 1, 1) := by decide +kernel
theorem dL_law_2166 : decode cL_law 2166 = .ok (.aload_n 0, 1) := by decide +kernel
theorem dL_law_2167 : decode cL_law 2167 = .ok (.iload_n 3, 1) := by decide +kernel
theorem dL_law_2168 : decode cL_law 2168 = .ok (.iconst 1, 1) := by decide +kernel
theorem dL_law_2169 : decode cL_law 2169 = .ok (.iadd, 1) := by decide +kernel
theorem dL_law_2170 : decode cL_law 2170 = .ok (.iaload, 1) := by decide +kernel
theorem dL_law_2171 : decode cL_law 2171 = .ok (.aload_n 0, 1) := by decide +kernel
theorem dL_law_2172 : decode cL_law 2172 = .ok (.iload_n 3, 1) := by decide +kernel
theorem dL_law_2173 : decode cL_law 2173 = .ok (.iconst 2, 1) := by decide +kernel
theorem dL_law_2174 : decode cL_law 2174 = .ok (.iadd, 1) := by decide +kernel
theorem dL_law_2175 : decode cL_law 2175 = .ok (.iaload, 1) := by decide +kernel
theorem dL_law_2176 : decode cL_law 2176 = .ok (.aload_n 0, 1) := by decide +kernel
theorem dL_law_2177 : decode cL_law 2177 = .ok (.iload_n 3, 1) := by decide +kernel
theorem dL_law_2178 : decode cL_law 2178 = .ok (.iconst 3, 1) := by decide +kernel
theorem dL_law_2179 : decode cL_law 2179 = .ok (.iadd, 1) := by decide +kernel
theorem dL_law_2180 : decode cL_law 2180 = .ok (.iaload, 1) := by decide +kernel
theorem dL_law_2181 : decode cL_law 2181 = .ok (.invokevirtual 226, 3) := by decide +kernel
theorem dL_law_2184 : decode cL_law 2184 = .ok (.aload_n 2, 1) := by decide +kernel
theorem dL_law_2185 : decode cL_law 2185 = .ok (.aload_n 0, 1) := by decide +kernel
theorem dL_law_2186 : decode cL_law 2186 = .ok (.iload_n 3, 1) := by decide +kernel
theorem dL_law_2187 : decode cL_law 2187 = .ok (.iconst 1, 1) := by decide +kernel
theorem dL_law_2188 : decode cL_law 2188 = .ok (.iadd, 1) := by decide +kernel
theorem dL_law_2189 : decode cL_law 2189 = .ok (.iaload, 1) := by decide +kernel
theorem dL_law_2190 : decode cL_law 2190 = .ok (.aload_n 0, 1) := by decide +kernel
theorem dL_law_2191 : decode cL_law 2191 = .ok (.iload_n 3, 1) := by decide +kernel
theorem dL_law_2192 : decode cL_law 2192 = .ok (.iconst 2, 1) := by decide +kernel
theorem dL_law_2193 : decode cL_law 2193 = .ok (.iadd, 1) := by decide +kernel
theorem dL_law_2194 : decode cL_law 2194 = .ok (.iaload, 1) := by decide +kernel
theorem dL_law_2195 : decode cL_law 2195 = .ok (.aload_n 0, 1) := by decide +kernel
theorem dL_law_2196 : decode cL_law 2196 = .ok (.iload_n 3, 1) := by decide +kernel
theorem dL_law_2197 : decode cL_law 2197 = .ok (.iconst 3, 1) := by decide +kernel
theorem dL_law_2198 : decode cL_law 2198 = .ok (.iadd, 1) := by decide +kernel
theorem dL_law_2199 : decode cL_law 2199 = .ok (.iaload, 1) := by decide +kernel
theorem dL_law_2200 : decode cL_law 2200 = .ok (.invokevirtual 229, 3) := by decide +kernel
theorem dL_law_2203 : decode cL_law 2203 = .ok (.if_icmp .eq 181, 3) := by decide +kernel
theorem dL_law_2206 : decode cL_law 2206 = .ok (.iconst 0, 1) := by decide +kernel
theorem dL_law_2207 : decode cL_law 2207 = .ok (.ireturn, 1) := by decide +kernel
theorem dL_law_2208 : decode cL_law 2208 = .ok (.aload_n 1, 1) := by decide +kernel
theorem dL_law_2209 : decode cL_law 2209 = .ok (.aload_n 0, 1) := by decide +kernel
theorem dL_law_2210 : decode cL_law 2210 = .ok (.iload_n 3, 1) := by decide +kernel
theorem dL_law_2211 : decode cL_law 2211 = .ok (.iconst 1, 1) := by decide +kernel
theorem dL_law_2212 : decode cL_law 2212 = .ok (.iadd, 1) := by decide +kernel
theorem dL_law_2213 : decode cL_law 2213 = .ok (.iaload, 1) := by decide +kernel
theorem dL_law_2214 : decode cL_law 2214 = .ok (.aload_n 0, 1) := by decide +kernel
theorem dL_law_2215 : decode cL_law 2215 = .ok (.iload_n 3, 1) := by decide +kernel
theorem dL_law_2216 : decode cL_law 2216 = .ok (.iconst 2, 1) := by decide +kernel
theorem dL_law_2217 : decode cL_law 2217 = .ok (.iadd, 1) := by decide +kernel
theorem dL_law_2218 : decode cL_law 2218 = .ok (.iaload, 1) := by decide +kernel
theorem dL_law_2219 : decode cL_law 2219 = .ok (.aload_n 0, 1) := by decide +kernel
theorem dL_law_2220 : decode cL_law 2220 = .ok (.iload_n 3, 1) := by decide +kernel
theorem dL_law_2221 : decode cL_law 2221 = .ok (.iconst 3, 1) := by decide +kernel
theorem dL_law_2222 : decode cL_law 2222 = .ok (.iadd, 1) := by decide +kernel
theorem dL_law_2223 : decode cL_law 2223 = .ok (.iaload, 1) := by decide +kernel
theorem dL_law_2224 : decode cL_law 2224 = .ok (.aload_n 0, 1) := by decide +kernel
theorem dL_law_2225 : decode cL_law 2225 = .ok (.iload_n 3, 1) := by decide +kernel
theorem dL_law_2226 : decode cL_law 2226 = .ok (.iconst 4, 1) := by decide +kernel
theorem dL_law_2227 : decode cL_law 2227 = .ok (.iadd, 1) := by decide +kernel
theorem dL_law_2228 : decode cL_law 2228 = .ok (.iaload, 1) := by decide +kernel
theorem dL_law_2229 : decode cL_law 2229 = .ok (.aload_n 0, 1) := by decide +kernel
theorem dL_law_2230 : decode cL_law 2230 = .ok (.iload_n 3, 1) := by decide +kernel
theorem dL_law_2231 : decode cL_law 2231 = .ok (.iconst 5, 1) := by decide +kernel
theorem dL_law_2232 : decode cL_law 2232 = .ok (.iadd, 1) := by decide +kernel
theorem dL_law_2233 : decode cL_law 2233 = .ok (.iaload, 1) := by decide +kernel
theorem dL_law_2234 : decode cL_law 2234 = .ok (.invokevirtual 230, 3) := by decide +kernel
theorem dL_law_2237 : decode cL_law 2237 = .ok (.aload_n 2, 1) := by decide +kernel
theorem dL_law_2238 : decode cL_law 2238 = .ok (.aload_n 0, 1) := by decide +kernel
theorem dL_law_2239 : decode cL_law 2239 = .ok (.iload_n 3, 1) := by decide +kernel
theorem dL_law_2240 : decode cL_law 2240 = .ok (.iconst 1, 1) := by decide +kernel
theorem dL_law_2241 : decode cL_law 2241 = .ok (.iadd, 1) := by decide +kernel
theorem dL_law_2242 : decode cL_law 2242 = .ok (.iaload, 1) := by decide +kernel
theorem dL_law_2243 : decode cL_law 2243 = .ok (.aload_n 0, 1) := by decide +kernel
theorem dL_law_2244 : decode cL_law 2244 = .ok (.iload_n 3, 1) := by decide +kernel
theorem dL_law_2245 : decode cL_law 2245 = .ok (.iconst 2, 1) := by decide +kernel
theorem dL_law_2246 : decode cL_law 2246 = .ok (.iadd, 1) := by decide +kernel
theorem dL_law_2247 : decode cL_law 2247 = .ok (.iaload, 1) := by decide +kernel
theorem dL_law_2248 : decode cL_law 2248 = .ok (.aload_n 0, 1) := by decide +kernel
theorem dL_law_2249 : decode cL_law 2249 = .ok (.iload_n 3, 1) := by decide +kernel
theorem dL_law_2250 : decode cL_law 2250 = .ok (.iconst 3, 1) := by decide +kernel
theorem dL_law_2251 : decode cL_law 2251 = .ok (.iadd, 1) := by decide +kernel
theorem dL_law_2252 : decode cL_law 2252 = .ok (.iaload, 1) := by decide +kernel
theorem dL_law_2253 : decode cL_law 2253 = .ok (.aload_n 0, 1) := by decide +kernel
theorem dL_law_2254 : decode cL_law 2254 = .ok (.iload_n 3, 1) := by decide +kernel
theorem dL_law_2255 : decode cL_law 2255 = .ok (.iconst 4, 1) := by decide +kernel
theorem dL_law_2256 : decode cL_law 2256 = .ok (.iadd, 1) := by decide +kernel
theorem dL_law_2257 : decode cL_law 2257 = .ok (.iaload, 1) := by decide +kernel
theorem dL_law_2258 : decode cL_law 2258 = .ok (.aload_n 0, 1) := by decide +kernel
theorem dL_law_2259 : decode cL_law 2259 = .ok (.iload_n 3, 1) := by decide +kernel
theorem dL_law_2260 : decode cL_law 2260 = .ok (.iconst 5, 1) := by decide +kernel
theorem dL_law_2261 : decode cL_law 2261 = .ok (.iadd, 1) := by decide +kernel
theorem dL_law_2262 : decode cL_law 2262 = .ok (.iaload, 1) := by decide +kernel
theorem dL_law_2263 : decode cL_law 2263 = .ok (.invokevirtual 233, 3) := by decide +kernel
theorem dL_law_2266 : decode cL_law 2266 = .ok (.if_icmp .eq 118, 3) := by decide +kernel
theorem dL_law_2269 : decode cL_law 2269 = .ok (.iconst 0, 1) := by decide +kernel
theorem dL_law_2270 : decode cL_law 2270 = .ok (.ireturn, 1) := by decide +kernel
theorem dL_law_2271 : decode cL_law 2271 = .ok (.aload_n 1, 1) := by decide +kernel
theorem dL_law_2272 : decode cL_law 2272 = .ok (.aload_n 0, 1) := by decide +kernel
theorem dL_law_2273 : decode cL_law 2273 = .ok (.iload_n 3, 1) := by decide +kernel
theorem dL_law_2274 : decode cL_law 2274 = .ok (.iconst 1, 1) := by decide +kernel
theorem dL_law_2275 : decode cL_law 2275 = .ok (.iadd, 1) := by decide +kernel
theorem dL_law_2276 : decode cL_law 2276 = .ok (.iaload, 1) := by decide +kernel
theorem dL_law_2277 : decode cL_law 2277 = .ok (.invokevirtual 234, 3) := by decide +kernel
theorem dL_law_2280 : decode cL_law 2280 = .ok (.aload_n 2, 1) := by decide +kernel
theorem dL_law_2281 : decode cL_law 2281 = .ok (.aload_n 0, 1) := by decide +kernel
theorem dL_law_2282 : decode cL_law 2282 = .ok (.iload_n 3, 1) := by decide +kernel
theorem dL_law_2283 : decode cL_law 2283 = .ok (.iconst 1, 1) := by decide +kernel
theorem dL_law_2284 : decode cL_law 2284 = .ok (.iadd, 1) := by decide +kernel
theorem dL_law_2285 : decode cL_law 2285 = .ok (.iaload, 1) := by decide +kernel
theorem dL_law_2286 : decode cL_law 2286 = .ok (.invokevirtual 237, 3) := by decide +kernel
theorem dL_law_2289 : decode cL_law 2289 = .ok (.if_icmp .eq 95, 3) := by decide +kernel
theorem dL_law_2292 : decode cL_law 2292 = .ok (.iconst 0, 1) := by decide +kernel
theorem dL_law_2293 : decode cL_law 2293 = .ok (.ireturn, 1) := by decide +kernel
theorem dL_law_2294 : decode cL_law 2294 = .ok (.aload_n 1, 1) := by decide +kernel
theorem dL_law_2295 : decode cL_law 2295 = .ok (.aload_n 0, 1) := by decide +kernel
theorem dL_law_2296 : decode cL_law 2296 = .ok (.iload_n 3, 1) := by decide +kernel
theorem dL_law_2297 : decode cL_law 2297 = .ok (.iconst 1, 1) := by decide +kernel
theorem dL_law_2298 : decode cL_law 2298 = .ok (.iadd, 1) := by decide +kernel
theorem dL_law_2299 : decode cL_law 2299 = .ok (.iaload, 1) := by decide +kernel
theorem dL_law_2300 : decode cL_law 2300 = .ok (.aload_n 0, 1) := by decide +kernel
theorem dL_law_2301 : decode cL_law 2301 = .ok (.iload_n 3, 1) := by decide +kernel
theorem dL_law_2302 : decode cL_law 2302 = .ok (.iconst 2, 1) := by decide +kernel
theorem dL_law_2303 : decode cL_law 2303 = .ok (.iadd, 1) := by decide +kernel
theorem dL_law_2304 : decode cL_law 2304 = .ok (.iaload, 1) := by decide +kernel
theorem dL_law_2305 : decode cL_law 2305 = .ok (.aload_n 0, 1) := by decide +kernel
theorem dL_law_2306 : decode cL_law 2306 = .ok (.iload_n 3, 1) := by decide +kernel
theorem dL_law_2307 : decode cL_law 2307 = .ok (.iconst 3, 1) := by decide +kernel
theorem dL_law_2308 : decode cL_law 2308 = .ok (.iadd, 1) := by decide +kernel
theorem dL_law_2309 : decode cL_law 2309 = .ok (.iaload, 1) := by decide +kernel
theorem dL_law_2310 : decode cL_law 2310 = .ok (.aload_n 0, 1) := by decide +kernel
theorem dL_law_2311 : decode cL_law 2311 = .ok (.iload_n 3, 1) := by decide +kernel
theorem dL_law_2312 : decode cL_law 2312 = .ok (.iconst 4, 1) := by decide +kernel
theorem dL_law_2313 : decode cL_law 2313 = .ok (.iadd, 1) := by decide +kernel
theorem dL_law_2314 : decode cL_law 2314 = .ok (.iaload, 1) := by decide +kernel
theorem dL_law_2315 : decode cL_law 2315 = .ok (.invokevirtual 238, 3) := by decide +kernel
theorem dL_law_2318 : decode cL_law 2318 = .ok (.aload_n 2, 1) := by decide +kernel
theorem dL_law_2319 : decode cL_law 2319 = .ok (.aload_n 0, 1) := by decide +kernel
theorem dL_law_2320 : decode cL_law 2320 = .ok (.iload_n 3, 1) := by decide +kernel
theorem dL_law_2321 : decode cL_law 2321 = .ok (.iconst 1, 1) := by decide +kernel
theorem dL_law_2322 : decode cL_law 2322 = .ok (.iadd, 1) := by decide +kernel
theorem dL_law_2323 : decode cL_law 2323 = .ok (.iaload, 1) := by decide +kernel
theorem dL_law_2324 : decode cL_law 2324 = .ok (.aload_n 0, 1) := by decide +kernel
theorem dL_law_2325 : decode cL_law 2325 = .ok (.iload_n 3, 1) := by decide +kernel
theorem dL_law_2326 : decode cL_law 2326 = .ok (.iconst 2, 1) := by decide +kernel
theorem dL_law_2327 : decode cL_law 2327 = .ok (.iadd, 1) := by decide +kernel
theorem dL_law_2328 : decode cL_law 2328 = .ok (.iaload, 1) := by decide +kernel
theorem dL_law_2329 : decode cL_law 2329 = .ok (.aload_n 0, 1) := by decide +kernel
theorem dL_law_2330 : decode cL_law 2330 = .ok (.iload_n 3, 1) := by decide +kernel
theorem dL_law_2331 : decode cL_law 2331 = .ok (.iconst 3, 1) := by decide +kernel
theorem dL_law_2332 : decode cL_law 2332 = .ok (.iadd, 1) := by decide +kernel
theorem dL_law_2333 : decode cL_law 2333 = .ok (.iaload, 1) := by decide +kernel
theorem dL_law_2334 : decode cL_law 2334 = .ok (.aload_n 0, 1) := by decide +kernel
theorem dL_law_2335 : decode cL_law 2335 = .ok (.iload_n 3, 1) := by decide +kernel
theorem dL_law_2336 : decode cL_law 2336 = .ok (.iconst 4, 1) := by decide +kernel
theorem dL_law_2337 : decode cL_law 2337 = .ok (.iadd, 1) := by decide +kernel
theorem dL_law_2338 : decode cL_law 2338 = .ok (.iaload, 1) := by decide +kernel
theorem dL_law_2339 : decode cL_law 2339 = .ok (.invokevirtual 241, 3) := by decide +kernel
theorem dL_law_2342 : decode cL_law 2342 = .ok (.if_icmp .eq 42, 3) := by decide +kernel
theorem dL_law_2345 : decode cL_law 2345 = .ok (.iconst 0, 1) := by decide +kernel
theorem dL_law_2346 : decode cL_law 2346 = .ok (.ireturn, 1) := by decide +kernel
theorem dL_law_2347 : decode cL_law 2347 = .ok (.aload_n 1, 1) := by decide +kernel
theorem dL_law_2348 : decode cL_law 2348 = .ok (.aload_n 0, 1) := by decide +kernel
theorem dL_law_2349 : decode cL_law 2349 = .ok (.iload_n 3, 1) := by decide +kernel
theorem dL_law_2350 : decode cL_law 2350 = .ok (.iconst 1, 1) := by decide +kernel
theorem dL_law_2351 : decode cL_law 2351 = .ok (.iadd, 1) := by decide +kernel
theorem dL_law_2352 : decode cL_law 2352 = .ok (.iaload, 1) := by decide +kernel
theorem dL_law_2353 : decode cL_law 2353 = .ok (.invokevirtual 242, 3) := by decide +kernel
theorem dL_law_2356 : decode cL_law 2356 = .ok (.aload_n 2, 1) := by decide +kernel
theorem dL_law_2357 : decode cL_law 2357 = .ok (.aload_n 0, 1) := by decide +kernel
theorem dL_law_2358 : decode cL_law 2358 = .ok (.iload_n 3, 1) := by decide +kernel
theorem dL_law_2359 : decode cL_law 2359 = .ok (.iconst 1, 1) := by decide +kernel
theorem dL_law_2360 : decode cL_law 2360 = .ok (.iadd, 1) := by decide +kernel
theorem dL_law_2361 : decode cL_law 2361 = .ok (.iaload, 1) := by decide +kernel
theorem dL_law_2362 : decode cL_law 2362 = .ok (.invokevirtual 245, 3) := by decide +kernel
theorem dL_law_2365 : decode cL_law 2365 = .ok (.if_icmp .eq 19, 3) := by decide +kernel
theorem dL_law_2368 : decode cL_law 2368 = .ok (.iconst 0, 1) := by decide +kernel
theorem dL_law_2369 : decode cL_law 2369 = .ok (.ireturn, 1) := by decide +kernel
theorem dL_law_2370 : decode cL_law 2370 = .ok (.aload_n 1, 1) := by decide +kernel
theorem dL_law_2371 : decode cL_law 2371 = .ok (.invokevirtual 246, 3) := by decide +kernel
theorem dL_law_2374 : decode cL_law 2374 = .ok (.aload_n 2, 1) := by decide +kernel
theorem dL_law_2375 : decode cL_law 2375 = .ok (.invokevirtual 250, 3) := by decide +kernel
theorem dL_law_2378 : decode cL_law 2378 = .ok (.lcmp, 1) := by decide +kernel
theorem dL_law_2379 : decode cL_law 2379 = .ok (.ifCond .eq 5, 3) := by decide +kernel
theorem dL_law_2382 : decode cL_law 2382 = .ok (.iconst 0, 1) := by decide +kernel
theorem dL_law_2383 : decode cL_law 2383 = .ok (.ireturn, 1) := by decide +kernel
theorem dL_law_2384 : decode cL_law 2384 = .ok (.iinc 3 6, 3) := by decide +kernel
theorem dL_law_2387 : decode cL_law 2387 = .ok (.goto (-2369), 3) := by decide +kernel
theorem dL_law_2390 : decode cL_law 2390 = .ok (.iconst 1, 1) := by decide +kernel
theorem dL_law_2391 : decode cL_law 2391 = .ok (.ireturn, 1) := by decide +kernel
