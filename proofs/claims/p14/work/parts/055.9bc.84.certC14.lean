/-! LM, by program: certificates C 14 -/
-- OneSided$Rents.tryPrices [(96, 96), (32, 32), (60, 60), (0, 0), (0, 13)]
def Ckl1937 : AL := [some Cka328,some Cka121,some Cka157,some Cka7,some Cka62,none,none,none,none]
def Ckl1938 : AL := [some Cka328,some Cka121,some Cka157,some Cka7,some Cka62,some Cka96,none,none,none]
def Ckl1939 : AL := [some Cka328,some Cka121,some Cka157,some Cka7,some Cka62,some Cka96,some Cka92,none,none]
def Ckl1940 : AL := [some Cka328,some Cka121,some Cka157,some Cka7,some Cka62,some Cka96,some Cka7,none,none]
def Ckl1941 : AL := [some Cka328,some Cka121,some Cka157,some Cka7,some Cka62,some Cka96,some Cka77,none,none]
def Ckl1942 : AL := [some Cka328,some Cka121,some Cka157,some Cka7,some Cka62,some Cka96,some Cka77,some Cka55,none]
def Ckl1943 : AL := [some Cka328,some Cka121,some Cka157,some Cka7,some Cka62,some Cka96,some Cka7,some Cka7,none]
def Ckl1944 : AL := [some Cka328,some Cka121,some Cka157,some Cka7,some Cka62,some Cka96,some Cka77,some Cka80,none]
def Ckl1945 : AL := [some Cka328,some Cka121,some Cka157,some Cka7,some Cka62,some Cka6,some Cka77,some Cka80,none]
def Ckl1946 : AL := [some Cka328,some Cka121,some Cka157,some Cka7,some Cka62,some Cka6,some Cka7,some Cka7,none]
def Ckl1947 : AL := [some Cka328,some Cka121,some Cka157,some Cka7,some Cka62,some Cka6,some Cka7,some Cka80,none]
def Ckl1948 : AL := [some Cka328,some Cka121,some Cka157,some Cka7,some Cka62,some Cka7,some Cka77,some Cka80,none]
def Ckl1949 : AL := [some Cka328,some Cka121,some Cka157,some Cka7,some Cka62,some Cka96,some Cka77,some Cka80,some Cka147]
def Ckl1950 : AL := [some Cka328,some Cka121,some Cka157,some Cka7,some Cka62,some Cka96,some Cka7,some Cka80,some Cka147]
def Ckl1951 : AL := [some Cka328,some Cka121,some Cka157,some Cka7,some Cka62,some Cka96,some Cka7,some Cka7,some Cka147]
def Ckl1952 : AL := [some Cka328,some Cka121,some Cka157,some Cka7,some Cka62,some Cka96,some Cka77,some Cka120,some Cka147]
def Ckl1953 : AL := [some Cka328,some Cka121,some Cka157,some Cka7,some Cka62,some Cka96,some Cka77,some Cka31,none]
def Ckl1954 : AL := [some Cka328,some Cka121,some Cka157,some Cka7,some Cka62,some Cka96,some Cka240,some Cka31,none]
def Ckl1955 : AL := [some Cka328,some Cka121,some Cka157,some Cka7,some Cka62,some Cka96,some Cka46,none,none]
def CNC253_0 : List ND := [(0,(Ckl1937,[],[]),1855,Ckc15,[1],0),
  (1,(Ckl1937,[Cke354],[]),1854,Ckc15,[2],0),
  (4,(Ckl1937,[Cke316],[]),1853,Ckc15,[3],0),
  (6,(Ckl1937,[Cke144,Cke316],[]),1852,Ckc15,[13,4],0),
  (9,(Ckl1937,[],Ckf96),1851,Ckc15,[5],0),
  (10,(Ckl1937,[Cke354],Ckf96),1850,Ckc15,[6],0),
  (13,(Ckl1937,[Cke303],Ckf96),1849,Ckc15,[7],0),
  (15,(Ckl1937,[Cke410,Cke303],Ckf96),1848,Ckc15,[8],0),
  (16,(Ckl1937,[Cke184],Ckf96),1847,Ckc15,[9],0),
  (17,(Ckl1937,[Cke6,Cke184],Ckf96),1846,Ckc15,[10],0),
  (18,(Ckl1937,[Cke242],Ckf96),1845,Ckc15,[13,11],0),
  (21,(Ckl1937,[],Ckf96),1844,Ckc15,[12],0),
  (22,(Ckl1937,[Cke6],Ckf96),1843,Ckc15,[15],0),
  (25,(Ckl1937,[],[]),1841,Ckc15,[14],0),
  (26,(Ckl1937,[Cke7],[]),1840,Ckc15,[16],0),
  (26,(Ckl1937,[Cke6],Ckf96),1842,Ckc15,[16],0),
  (28,(Ckl1938,[],[]),1839,Ckc15,[17],0),
  (29,(Ckl1938,[Cke7],[]),1838,Ckc15,[18],0),
  (31,(Ckl1939,[],[]),1836,Ckc50,[20],0),
  (33,(Ckl1940,[Cke212],[]),1857,Ckc15,[21],0),
  (33,(Ckl1939,[Cke671],[]),1835,Ckc50,[22],0),
  (35,(Ckl1940,[Cke48,Cke212],[]),1856,Ckc15,[23],0),
  (35,(Ckl1939,[Cke48,Cke671],[]),1834,Ckc50,[76,23],0),
  (38,(Ckl1941,[],[]),1833,Ckc50,[24],0),
  (39,(Ckl1941,[Cke7],[]),1832,Ckc50,[25],0),
  (41,(Ckl1942,[],[]),1830,Ckc51,[27],0),
  (43,(Ckl1943,[Cke386],[]),1859,Ckc15,[28],0),
  (43,(Ckl1942,[Cke800],[]),1829,Ckc51,[29],0),
  (44,(Ckl1943,[Cke35,Cke386],[]),1858,Ckc15,[30],0),
  (44,(Ckl1942,[Cke35,Cke800],[]),1828,Ckc51,[74,30],0),
  (47,(Ckl1944,[],[]),1827,Ckc51,[31],0),
  (49,(Ckl1944,[Cke158],[]),1826,Ckc51,[48,32],0),
  (52,(Ckl1945,[],[]),1823,Ckc51,[33],0),
  (53,(Ckl1945,[Cke200],[]),1822,Ckc51,[34],0),
  (55,(Ckl1945,[Cke410,Cke200],[]),1821,Ckc51,[36],0),
  (57,(Ckl1946,[Cke386,Cke410,Cke200],[]),1864,Ckc15,[37],0),
  (57,(Ckl1945,[Cke801,Cke410,Cke200],[]),1820,Ckc51,[38],0),
  (58,(Ckl1946,[Cke354,Cke386,Cke410,Cke200],[]),1863,Ckc15,[39],0),
  (58,(Ckl1945,[Cke354,Cke801,Cke410,Cke200],[]),1819,Ckc51,[40],0),
  (61,(Ckl1946,[Cke316,Cke386,Cke410,Cke200],[]),1862,Ckc15,[41],0),
  (61,(Ckl1945,[Cke316,Cke801,Cke410,Cke200],[]),1818,Ckc51,[43],0),
  (63,(Ckl1946,[Cke212,Cke316,Cke386,Cke410,Cke200],[]),1861,Ckc15,[45],0),
  (63,(Ckl1947,[Cke212,Cke316,Cke801,Cke410,Cke200],[]),1866,Ckc15,[44],0),
  (63,(Ckl1945,[Cke672,Cke316,Cke801,Cke410,Cke200],[]),1817,Ckc51,[46],0),
  (64,(Ckl1947,[Cke7,Cke212,Cke316,Cke801,Cke410,Cke200],[]),1865,Ckc15,[47],127),
  (64,(Ckl1946,[Cke7,Cke212,Cke316,Cke386,Cke410,Cke200],[]),1860,Ckc15,[47],127),
  (64,(Ckl1945,[Cke7,Cke672,Cke316,Cke801,Cke410,Cke200],[]),1816,Ckc51,[47],127),
  (67,(Ckl1945,[Cke244],[]),1815,Ckc51,[50],0),
  (70,(Ckl1948,[],[]),1825,Ckc51,[49],0),
  (71,(Ckl1948,[Cke7],[]),1824,Ckc51,[51],0),
  (71,(Ckl1945,[Cke244],[]),1814,Ckc51,[51],0),
  (73,(Ckl1949,[],[]),1813,Ckc51,[52],0),
  (74,(Ckl1949,[Cke802],[]),1812,Ckc51,[53],0),
  (77,(Ckl1949,[Cke803],[]),1811,Ckc51,[54],0),
  (78,(Ckl1949,[Cke74,Cke803],[]),1810,Ckc51,[55],0),
  (80,(Ckl1949,[Cke48,Cke74,Cke803],[]),1809,Ckc51,[56],0),
  (81,(Ckl1949,[Cke7,Cke803],[]),1808,Ckc51,[58],0),
  (83,(Ckl1950,[Cke212,Cke7,Cke803],[]),1871,Ckc15,[59],0),
  (83,(Ckl1949,[Cke672,Cke7,Cke803],[]),1807,Ckc51,[60],0),
  (84,(Ckl1950,[Cke7,Cke803],[]),1870,Ckc15,[61],0),
  (84,(Ckl1949,[Cke97,Cke803],[]),1806,Ckc51,[62],0),
  (85,(Ckl1950,[Cke35,Cke7,Cke803],[]),1869,Ckc15,[63],0),
  (85,(Ckl1949,[Cke35,Cke97,Cke803],[]),1805,Ckc51,[64],0),
  (86,(Ckl1950,[Cke7,Cke803],[]),1868,Ckc15,[66],0)]
def CNC253_1 : List ND := [(86,(Ckl1949,[Cke804,Cke803],[]),1804,Ckc51,[67],0),
  (88,(Ckl1951,[Cke386,Cke7,Cke803],[]),1874,Ckc15,[68],0),
  (88,(Ckl1950,[Cke801,Cke7,Cke803],[]),1867,Ckc15,[69],0),
  (88,(Ckl1949,[Cke801,Cke804,Cke803],[]),1803,Ckc51,[69],0),
  (89,(Ckl1951,[Cke7,Cke803],[]),1873,Ckc15,[70],0),
  (89,(Ckl1949,[Cke805,Cke803],[]),1802,Ckc51,[71],0),
  (91,(Ckl1951,[Cke245,Cke7,Cke803],[]),1872,Ckc15,[72],0),
  (91,(Ckl1949,[Cke245,Cke805,Cke803],[]),1801,Ckc51,[72],0),
  (92,(Ckl1949,[],[]),1800,Ckc51,[73],0),
  (95,(Ckl1952,[],[]),1831,Ckc51,[25],0),
  (98,(Ckl1953,[],[]),1671,Ckc50,[75],0),
  (101,(Ckl1954,[],[]),1837,Ckc50,[18],0),
  (104,(Ckl1955,[],[]),0,Ckc15,[],0)]
def CNC253 : List (List ND) := [CNC253_0, CNC253_1]
theorem CKC253 : chkS prot SMsC SMC253 [] CNC253 = true := by decide +kernel
-- OneSided$Rents.tryPrices [(96, 96), (32, 32), (60, 60), (1, 1), (0, 13)]
def Ckl1956 : AL := [some Cka328,some Cka121,some Cka157,some Cka6,some Cka62,none,none,none,none]
def Ckl1957 : AL := [some Cka328,some Cka121,some Cka157,some Cka6,some Cka62,some Cka96,none,none,none]
def Ckl1958 : AL := [some Cka328,some Cka121,some Cka157,some Cka6,some Cka62,some Cka96,some Cka92,none,none]
def Ckl1959 : AL := [some Cka328,some Cka121,some Cka157,some Cka6,some Cka62,some Cka96,some Cka7,none,none]
def Ckl1960 : AL := [some Cka328,some Cka121,some Cka157,some Cka6,some Cka62,some Cka96,some Cka77,none,none]
def Ckl1961 : AL := [some Cka328,some Cka121,some Cka157,some Cka6,some Cka62,some Cka96,some Cka77,some Cka55,none]
def Ckl1962 : AL := [some Cka328,some Cka121,some Cka157,some Cka6,some Cka62,some Cka96,some Cka7,some Cka7,none]
def Ckl1963 : AL := [some Cka328,some Cka121,some Cka157,some Cka6,some Cka62,some Cka96,some Cka77,some Cka80,none]
def Ckl1964 : AL := [some Cka328,some Cka121,some Cka157,some Cka6,some Cka62,some Cka6,some Cka77,some Cka80,none]
def Ckl1965 : AL := [some Cka328,some Cka121,some Cka157,some Cka6,some Cka62,some Cka6,some Cka7,some Cka7,none]
def Ckl1966 : AL := [some Cka328,some Cka121,some Cka157,some Cka6,some Cka62,some Cka6,some Cka7,some Cka80,none]
def Ckl1967 : AL := [some Cka328,some Cka121,some Cka157,some Cka6,some Cka62,some Cka7,some Cka77,some Cka80,none]
def Ckl1968 : AL := [some Cka328,some Cka121,some Cka157,some Cka6,some Cka62,some Cka96,some Cka77,some Cka80,some Cka147]
def Ckl1969 : AL := [some Cka328,some Cka121,some Cka157,some Cka6,some Cka62,some Cka96,some Cka7,some Cka80,some Cka147]
def Ckl1970 : AL := [some Cka328,some Cka121,some Cka157,some Cka6,some Cka62,some Cka96,some Cka7,some Cka7,some Cka147]
def Ckl1971 : AL := [some Cka328,some Cka121,some Cka157,some Cka6,some Cka62,some Cka96,some Cka77,some Cka120,some Cka147]
def Ckl1972 : AL := [some Cka328,some Cka121,some Cka157,some Cka6,some Cka62,some Cka96,some Cka77,some Cka31,none]
def Ckl1973 : AL := [some Cka328,some Cka121,some Cka157,some Cka6,some Cka62,some Cka96,some Cka240,some Cka31,none]
def Ckl1974 : AL := [some Cka328,some Cka121,some Cka157,some Cka6,some Cka62,some Cka96,some Cka46,none,none]
def CNC254_0 : List ND := [(0,(Ckl1956,[],[]),1855,Ckc15,[1],0),
  (1,(Ckl1956,[Cke354],[]),1854,Ckc15,[2],0),
  (4,(Ckl1956,[Cke316],[]),1853,Ckc15,[3],0),
  (6,(Ckl1956,[Cke144,Cke316],[]),1852,Ckc15,[13,4],0),
  (9,(Ckl1956,[],Ckf96),1851,Ckc15,[5],0),
  (10,(Ckl1956,[Cke354],Ckf96),1850,Ckc15,[6],0),
  (13,(Ckl1956,[Cke303],Ckf96),1849,Ckc15,[7],0),
  (15,(Ckl1956,[Cke410,Cke303],Ckf96),1848,Ckc15,[8],0),
  (16,(Ckl1956,[Cke184],Ckf96),1847,Ckc15,[9],0),
  (17,(Ckl1956,[Cke6,Cke184],Ckf96),1846,Ckc15,[10],0),
  (18,(Ckl1956,[Cke242],Ckf96),1845,Ckc15,[13,11],0),
  (21,(Ckl1956,[],Ckf96),1842,Ckc15,[12],0),
  (22,(Ckl1956,[Cke6],Ckf96),1841,Ckc15,[15],0),
  (25,(Ckl1956,[],[]),1844,Ckc15,[14],0),
  (26,(Ckl1956,[Cke7],[]),1843,Ckc15,[16],0),
  (26,(Ckl1956,[Cke6],Ckf96),1840,Ckc15,[16],0),
  (28,(Ckl1957,[],[]),1839,Ckc15,[17],0),
  (29,(Ckl1957,[Cke7],[]),1838,Ckc15,[18],0),
  (31,(Ckl1958,[],[]),1836,Ckc50,[20],0),
  (33,(Ckl1959,[Cke212],[]),1857,Ckc15,[21],0),
  (33,(Ckl1958,[Cke671],[]),1835,Ckc50,[22],0),
  (35,(Ckl1959,[Cke48,Cke212],[]),1856,Ckc15,[23],0),
  (35,(Ckl1958,[Cke48,Cke671],[]),1834,Ckc50,[70,23],0),
  (38,(Ckl1960,[],[]),1833,Ckc50,[24],0),
  (39,(Ckl1960,[Cke7],[]),1832,Ckc50,[25],0),
  (41,(Ckl1961,[],[]),1830,Ckc51,[27],0),
  (43,(Ckl1962,[Cke386],[]),1859,Ckc15,[28],0),
  (43,(Ckl1961,[Cke800],[]),1829,Ckc51,[29],0),
  (44,(Ckl1962,[Cke35,Cke386],[]),1858,Ckc15,[30],0),
  (44,(Ckl1961,[Cke35,Cke800],[]),1828,Ckc51,[68,30],0),
  (47,(Ckl1963,[],[]),1827,Ckc51,[31],0),
  (49,(Ckl1963,[Cke158],[]),1826,Ckc51,[48,32],0),
  (52,(Ckl1964,[],[]),1823,Ckc51,[33],0),
  (53,(Ckl1964,[Cke200],[]),1822,Ckc51,[34],0),
  (55,(Ckl1964,[Cke410,Cke200],[]),1821,Ckc51,[36],0),
  (57,(Ckl1965,[Cke386,Cke410,Cke200],[]),1864,Ckc15,[37],0),
  (57,(Ckl1964,[Cke801,Cke410,Cke200],[]),1820,Ckc51,[38],0),
  (58,(Ckl1965,[Cke354,Cke386,Cke410,Cke200],[]),1863,Ckc15,[39],0),
  (58,(Ckl1964,[Cke354,Cke801,Cke410,Cke200],[]),1819,Ckc51,[40],0),
  (61,(Ckl1965,[Cke316,Cke386,Cke410,Cke200],[]),1862,Ckc15,[41],0),
  (61,(Ckl1964,[Cke316,Cke801,Cke410,Cke200],[]),1818,Ckc51,[43],0),
  (63,(Ckl1965,[Cke212,Cke316,Cke386,Cke410,Cke200],[]),1861,Ckc15,[45],0),
  (63,(Ckl1966,[Cke212,Cke316,Cke801,Cke410,Cke200],[]),1866,Ckc15,[44],0),
  (63,(Ckl1964,[Cke672,Cke316,Cke801,Cke410,Cke200],[]),1817,Ckc51,[46],0),
  (64,(Ckl1966,[Cke7,Cke212,Cke316,Cke801,Cke410,Cke200],[]),1865,Ckc15,[47],127),
  (64,(Ckl1965,[Cke7,Cke212,Cke316,Cke386,Cke410,Cke200],[]),1860,Ckc15,[47],127),
  (64,(Ckl1964,[Cke7,Cke672,Cke316,Cke801,Cke410,Cke200],[]),1816,Ckc51,[47],127),
  (67,(Ckl1964,[Cke244],[]),1815,Ckc51,[50],0),
  (70,(Ckl1967,[],[]),1825,Ckc51,[49],0),
  (71,(Ckl1967,[Cke7],[]),1824,Ckc51,[51],0),
  (71,(Ckl1964,[Cke244],[]),1814,Ckc51,[51],0),
  (73,(Ckl1968,[],[]),1813,Ckc51,[52],0),
  (74,(Ckl1968,[Cke802],[]),1812,Ckc51,[53],0),
  (77,(Ckl1968,[Cke803],[]),1811,Ckc51,[54],0),
  (78,(Ckl1968,[Cke191,Cke803],[]),1810,Ckc51,[55],0),
  (80,(Ckl1968,[Cke48,Cke191,Cke803],[]),1809,Ckc51,[56],0),
  (81,(Ckl1968,[Cke48,Cke803],[]),1808,Ckc51,[58],0),
  (83,(Ckl1969,[Cke212,Cke48,Cke803],[]),1867,Ckc15,[59],0),
  (83,(Ckl1968,[Cke672,Cke48,Cke803],[]),1807,Ckc51,[59],0),
  (84,(Ckl1968,[Cke758,Cke803],[]),1806,Ckc51,[60],0),
  (85,(Ckl1968,[Cke35,Cke758,Cke803],[]),1805,Ckc51,[61],0),
  (86,(Ckl1968,[Cke806,Cke803],[]),1804,Ckc51,[63],0),
  (88,(Ckl1970,[Cke386,Cke38,Cke803],[]),1868,Ckc15,[64],0),
  (88,(Ckl1968,[Cke801,Cke806,Cke803],[]),1803,Ckc51,[64],0)]
def CNC254_1 : List ND := [(89,(Ckl1968,[Cke807,Cke803],[]),1802,Ckc51,[65],0),
  (91,(Ckl1968,[Cke245,Cke807,Cke803],[]),1801,Ckc51,[66],0),
  (92,(Ckl1968,[],[]),1800,Ckc51,[67],0),
  (95,(Ckl1971,[],[]),1831,Ckc51,[25],0),
  (98,(Ckl1972,[],[]),1671,Ckc50,[69],0),
  (101,(Ckl1973,[],[]),1837,Ckc50,[18],0),
  (104,(Ckl1974,[],[]),0,Ckc15,[],0)]
def CNC254 : List (List ND) := [CNC254_0, CNC254_1]
theorem CKC254 : chkS prot SMsC SMC254 [] CNC254 = true := by decide +kernel
-- OneSided$Rents.fillBest [(96, 96), (32, 32), (-2147483648, 2147483647), (-2147483648, 2147483647), (0, 9)]
def Ckl1975 : AL := [some Cka328,some Cka121,some Cka34,some Cka34,some Cka77,none,none,none,none,none,none]
def Ckl1976 : AL := [some Cka328,some Cka121,some Cka34,some Cka34,some Cka77,some Cka6,none,none,none,none,none]
def Ckl1977 : AL := [some Cka328,some Cka121,some Cka34,some Cka34,some Cka77,some Cka96,some Cka92,none,none,none,none]
def Ckl1978 : AL := [some Cka328,some Cka121,some Cka34,some Cka34,some Cka77,some Cka96,some Cka240,some Cka63,some Cka123,some Cka34,some Cka34]
def Ckl1979 : AL := [some Cka328,some Cka121,some Cka34,some Cka34,some Cka77,some Cka6,some Cka7,none,none,none,none]
def Ckl1980 : AL := [some Cka328,some Cka121,some Cka34,some Cka34,some Cka77,some Cka96,some Cka77,none,none,none,none]
def Ckl1981 : AL := [some Cka328,some Cka121,some Cka34,some Cka34,some Cka77,some Cka96,some Cka73,some Cka63,some Cka123,some Cka34,some Cka34]
def Ckl1982 : AL := [some Cka328,some Cka121,some Cka34,some Cka34,some Cka77,some Cka6,some Cka77,none,none,none,none]
def Ckl1983 : AL := [some Cka328,some Cka121,some Cka34,some Cka34,some Cka77,some Cka6,some Cka73,some Cka63,some Cka123,some Cka34,some Cka34]
def Ckl1984 : AL := [some Cka328,some Cka121,some Cka34,some Cka34,some Cka77,some Cka7,some Cka77,none,none,none,none]
def Ckl1985 : AL := [some Cka328,some Cka121,some Cka34,some Cka34,some Cka77,some Cka7,some Cka73,some Cka63,some Cka123,some Cka34,some Cka34]
def Ckl1986 : AL := [some Cka328,some Cka121,some Cka34,some Cka34,some Cka77,some Cka7,some Cka77,some Cka7,none,none,none]
def Ckl1987 : AL := [some Cka328,some Cka121,some Cka34,some Cka34,some Cka77,some Cka96,some Cka77,some Cka61,some Cka123,some Cka34,some Cka34]
def Ckl1988 : AL := [some Cka328,some Cka121,some Cka34,some Cka34,some Cka77,some Cka96,some Cka7,some Cka6,some Cka123,some Cka34,some Cka34]
def Ckl1989 : AL := [some Cka328,some Cka121,some Cka34,some Cka34,some Cka77,some Cka96,some Cka77,some Cka62,some Cka123,some Cka34,some Cka34]
def Ckl1990 : AL := [some Cka328,some Cka121,some Cka34,some Cka34,some Cka77,some Cka96,some Cka77,some Cka62,some Cka123,none,none]
def Ckl1991 : AL := [some Cka328,some Cka121,some Cka34,some Cka34,some Cka77,some Cka7,some Cka7,some Cka7,some Cka123,none,none]
def Cke844 : SE := (Cka123,(1,8,0,0,0))
def Ckl1992 : AL := [some Cka328,some Cka121,some Cka34,some Cka34,some Cka77,some Cka96,some Cka77,some Cka62,some Cka123,some Cka34,none]
def Ckl1993 : AL := [some Cka328,some Cka121,some Cka34,some Cka34,some Cka77,some Cka7,some Cka7,some Cka7,some Cka123,some Cka34,none]
def Ckl1994 : AL := [some Cka328,some Cka121,some Cka34,some Cka34,some Cka77,some Cka96,some Cka77,some Cka62,some Cka123,some Cka127,some Cka34]
def Ckl1995 : AL := [some Cka328,some Cka121,some Cka34,some Cka34,some Cka77,some Cka96,some Cka77,some Cka62,some Cka123,some Cka34,some Cka127]
def Ckl1996 : AL := [some Cka328,some Cka121,some Cka34,some Cka34,some Cka77,some Cka96,some Cka77,some Cka63,some Cka123,some Cka34,some Cka34]
def Ckl1997 : AL := [some Cka328,some Cka121,some Cka34,some Cka34,some Cka77,some Cka7,some Cka240,some Cka7,none,none,none]
def CNC255_0 : List ND := [(0,(Ckl1975,[],[]),13340,Ckc24,[1],0),
  (1,(Ckl1975,[Cke802],[]),13339,Ckc24,[2],0),
  (4,(Ckl1975,[Cke814],[]),13338,Ckc24,[3],0),
  (6,(Ckl1975,[Cke815,Cke814],[]),13337,Ckc24,[4],247),
  (9,(Ckl1975,[],[]),13336,Ckc24,[5],0),
  (10,(Ckl1975,[Cke802],[]),13335,Ckc24,[6],0),
  (13,(Ckl1975,[Cke814],[]),13334,Ckc24,[7],0),
  (15,(Ckl1975,[Cke355,Cke814],[]),13333,Ckc24,[8],0),
  (16,(Ckl1975,[Cke7,Cke355,Cke814],[]),13332,Ckc24,[9],0),
  (17,(Ckl1975,[],[]),13331,Ckc24,[10],0),
  (18,(Ckl1975,[Cke6],[]),13330,Ckc24,[11],0),
  (20,(Ckl1976,[],[]),13329,Ckc24,[12],0),
  (21,(Ckl1976,[Cke7],[]),13328,Ckc24,[13],0),
  (23,(Ckl1977,[],[]),13326,Ckc52,[16],0),
  (23,(Ckl1978,[],Ckf58),13156,Ckc53,[17],0),
  (25,(Ckl1979,[Cke212],[]),13342,Ckc24,[18],0),
  (25,(Ckl1977,[Cke671],[]),13325,Ckc52,[19],0),
  (25,(Ckl1978,[Cke816],Ckf58),13155,Ckc53,[20],0),
  (27,(Ckl1979,[Cke48,Cke212],[]),13341,Ckc24,[21],0),
  (27,(Ckl1977,[Cke48,Cke671],[]),13324,Ckc52,[134,21],0),
  (27,(Ckl1978,[Cke48,Cke816],Ckf58),13154,Ckc53,[135,22],0),
  (30,(Ckl1980,[],[]),13323,Ckc52,[24],0),
  (30,(Ckl1981,[],Ckf58),13153,Ckc53,[25],0),
  (32,(Ckl1979,[Cke219],[]),13343,Ckc24,[26],0),
  (32,(Ckl1980,[Cke158],[]),13322,Ckc52,[134,26],0),
  (32,(Ckl1981,[Cke158],Ckf58),13152,Ckc53,[135,27],0),
  (35,(Ckl1982,[],[]),13321,Ckc52,[28],0),
  (35,(Ckl1983,[],Ckf58),13151,Ckc53,[29],0),
  (36,(Ckl1982,[Cke7],[]),13320,Ckc52,[30],0),
  (36,(Ckl1983,[Cke7],Ckf58),13150,Ckc53,[31],0),
  (38,(Ckl1984,[],[]),13319,Ckc52,[32],0),
  (38,(Ckl1985,[],Ckf58),13149,Ckc53,[33],0),
  (39,(Ckl1984,[Cke7],[]),13318,Ckc52,[34],0),
  (39,(Ckl1985,[Cke7],Ckf58),13148,Ckc53,[35],0),
  (41,(Ckl1986,[],[]),13317,Ckc52,[36],0),
  (41,(Ckl1987,[],Ckf58),13146,Ckc54,[38],0),
  (43,(Ckl1986,[Cke386],[]),13316,Ckc52,[39],0),
  (43,(Ckl1988,[Cke421],Ckf58),13346,Ckc24,[40],0),
  (43,(Ckl1987,[Cke817],Ckf58),13145,Ckc54,[41],0),
  (44,(Ckl1986,[Cke200,Cke386],[]),13315,Ckc52,[42],0),
  (44,(Ckl1988,[Cke200,Cke421],Ckf58),13345,Ckc24,[43],0),
  (44,(Ckl1987,[Cke200,Cke817],Ckf58),13144,Ckc54,[44],0),
  (47,(Ckl1986,[Cke194,Cke386],[]),13314,Ckc52,[130,45],0),
  (47,(Ckl1988,[Cke359,Cke421],Ckf58),13344,Ckc24,[131,46],0),
  (47,(Ckl1987,[Cke359,Cke817],Ckf58),13143,Ckc54,[131,46],0),
  (50,(Ckl1986,[],Ckf58),13162,Ckc24,[47],0),
  (50,(Ckl1989,[],Ckf58),13142,Ckc54,[48],0),
  (51,(Ckl1986,[Cke200],Ckf58),13161,Ckc24,[49],0),
  (51,(Ckl1989,[Cke200],Ckf58),13141,Ckc54,[50],0),
  (54,(Ckl1986,[Cke195],Ckf58),13160,Ckc24,[51],0),
  (54,(Ckl1989,[Cke195],Ckf58),13140,Ckc54,[53],0),
  (56,(Ckl1986,[Cke386,Cke195],Ckf58),13159,Ckc24,[54],0),
  (56,(Ckl1988,[Cke421,Cke195],Ckf105),13347,Ckc24,[55],0),
  (56,(Ckl1989,[Cke818,Cke195],Ckf58),13139,Ckc54,[55],0),
  (57,(Ckl1986,[Cke265],Ckf58),13158,Ckc24,[56],0),
  (57,(Ckl1989,[Cke196],Ckf58),13138,Ckc54,[56],0),
  (59,(Ckl1990,[],Ckf58),13137,Ckc54,[57],0),
  (60,(Ckl1990,[Cke209],Ckf58),13136,Ckc54,[59],0),
  (62,(Ckl1991,[Cke386,Cke209],Ckf58),13348,Ckc24,[60],0),
  (62,(Ckl1990,[Cke818,Cke209],Ckf58),13135,Ckc54,[60],0),
  (63,(Ckl1990,[Cke184],Ckf58),13134,Ckc54,[61],0),
  (64,(Ckl1990,[Cke6,Cke184],Ckf58),13133,Ckc54,[62],0),
  (65,(Ckl1990,[Cke242],Ckf58),13132,Ckc54,[75,63],0),
  (68,(Ckl1990,[],Ckf58),13131,Ckc54,[64],0)]
def CNC255_1 : List ND := [(69,(Ckl1990,[Cke802],Ckf58),13130,Ckc54,[65],0),
  (72,(Ckl1990,[Cke814],Ckf58),13129,Ckc54,[66],0),
  (74,(Ckl1990,[Cke844,Cke814],Ckf58),13128,Ckc54,[67],0),
  (77,(Ckl1990,[Cke97,Cke814],Ckf58),13127,Ckc54,[68],0),
  (78,(Ckl1990,[Cke184],Ckf58),13126,Ckc54,[69],0),
  (79,(Ckl1990,[Cke802,Cke184],Ckf58),13125,Ckc54,[70],0),
  (82,(Ckl1990,[Cke820,Cke184],Ckf58),13124,Ckc54,[72],0),
  (84,(Ckl1991,[Cke386,Cke820,Cke184],Ckf58),13349,Ckc24,[73],0),
  (84,(Ckl1990,[Cke818,Cke820,Cke184],Ckf58),13123,Ckc54,[73],0),
  (85,(Ckl1990,[Cke184,Cke184],Ckf58),13122,Ckc54,[74],0),
  (86,(Ckl1990,[Cke184],Ckf58),13121,Ckc54,[76],0),
  (89,(Ckl1990,[],Ckf58),13120,Ckc54,[76],0),
  (91,(Ckl1990,[Cke184],Ckf58),13119,Ckc54,[77],0),
  (93,(Ckl1992,[],Ckf58),13118,Ckc54,[78],0),
  (94,(Ckl1992,[Cke210],Ckf58),13117,Ckc54,[80],0),
  (96,(Ckl1993,[Cke386,Cke210],Ckf58),13350,Ckc24,[81],0),
  (96,(Ckl1992,[Cke818,Cke210],Ckf58),13116,Ckc54,[81],0),
  (97,(Ckl1992,[Cke184],Ckf58),13115,Ckc54,[82],0),
  (98,(Ckl1992,[Cke6,Cke184],Ckf58),13114,Ckc54,[83],0),
  (99,(Ckl1992,[Cke242],Ckf58),13113,Ckc54,[96,84],0),
  (102,(Ckl1992,[],Ckf58),13112,Ckc54,[85],0),
  (103,(Ckl1992,[Cke802],Ckf58),13111,Ckc54,[86],0),
  (106,(Ckl1992,[Cke814],Ckf58),13110,Ckc54,[87],0),
  (108,(Ckl1992,[Cke844,Cke814],Ckf58),13109,Ckc54,[88],0),
  (111,(Ckl1992,[Cke97,Cke814],Ckf58),13108,Ckc54,[89],0),
  (112,(Ckl1992,[Cke184],Ckf58),13107,Ckc54,[90],0),
  (113,(Ckl1992,[Cke802,Cke184],Ckf58),13106,Ckc54,[91],0),
  (116,(Ckl1992,[Cke820,Cke184],Ckf58),13105,Ckc54,[93],0),
  (118,(Ckl1993,[Cke386,Cke820,Cke184],Ckf58),13351,Ckc24,[94],0),
  (118,(Ckl1992,[Cke818,Cke820,Cke184],Ckf58),13104,Ckc54,[94],0),
  (119,(Ckl1992,[Cke184,Cke184],Ckf58),13103,Ckc54,[95],0),
  (120,(Ckl1992,[Cke184],Ckf58),13102,Ckc54,[97],0),
  (123,(Ckl1992,[],Ckf58),13101,Ckc54,[97],0),
  (125,(Ckl1992,[Cke184],Ckf58),13100,Ckc54,[98],0),
  (127,(Ckl1989,[],Ckf58),13099,Ckc54,[99],0),
  (129,(Ckl1989,[Cke403],Ckf58),13098,Ckc54,[100],0),
  (130,(Ckl1989,[Cke802,Cke403],Ckf58),13097,Ckc54,[101],0),
  (133,(Ckl1989,[Cke814,Cke403],Ckf58),13096,Ckc54,[102],0),
  (135,(Ckl1989,[Cke844,Cke814,Cke403],Ckf58),13095,Ckc54,[103],0),
  (138,(Ckl1989,[Cke97,Cke814,Cke403],Ckf58),13094,Ckc54,[104],0),
  (139,(Ckl1989,[Cke184,Cke403],Ckf58),13093,Ckc54,[113,105],0),
  (142,(Ckl1994,[],Ckf58),13092,Ckc54,[106],0),
  (143,(Ckl1994,[Cke802],Ckf58),13091,Ckc54,[107],0),
  (146,(Ckl1994,[Cke814],Ckf58),13090,Ckc54,[108],0),
  (148,(Ckl1994,[Cke844,Cke814],Ckf58),13089,Ckc54,[109],0),
  (151,(Ckl1994,[Cke97,Cke814],Ckf58),13088,Ckc54,[110],0),
  (153,(Ckl1994,[Cke821,Cke97,Cke814],Ckf58),13087,Ckc54,[111],0),
  (154,(Ckl1994,[],Ckf58),13086,Ckc54,[112],0),
  (155,(Ckl1994,[Cke6],Ckf58),13085,Ckc54,[113],0),
  (157,(Ckl1989,[],Ckf58),13084,Ckc54,[114],0),
  (159,(Ckl1989,[Cke822],Ckf58),13083,Ckc54,[115],0),
  (160,(Ckl1989,[Cke802,Cke822],Ckf58),13082,Ckc54,[116],0),
  (163,(Ckl1989,[Cke814,Cke822],Ckf58),13081,Ckc54,[117],0),
  (165,(Ckl1989,[Cke844,Cke814,Cke822],Ckf58),13080,Ckc54,[118],0),
  (168,(Ckl1989,[Cke97,Cke814,Cke822],Ckf58),13079,Ckc54,[119],0),
  (169,(Ckl1989,[Cke184,Cke822],Ckf58),13078,Ckc54,[128,120],0),
  (172,(Ckl1995,[],Ckf58),13077,Ckc54,[121],0),
  (173,(Ckl1995,[Cke802],Ckf58),13076,Ckc54,[122],0),
  (176,(Ckl1995,[Cke814],Ckf58),13075,Ckc54,[123],0),
  (178,(Ckl1995,[Cke844,Cke814],Ckf58),13074,Ckc54,[124],0),
  (181,(Ckl1995,[Cke97,Cke814],Ckf58),13073,Ckc54,[125],0),
  (183,(Ckl1995,[Cke823,Cke97,Cke814],Ckf58),13072,Ckc54,[126],0),
  (184,(Ckl1995,[],Ckf58),13071,Ckc54,[127],0),
  (185,(Ckl1995,[Cke6],Ckf58),13070,Ckc54,[128],0)]
def CNC255_2 : List ND := [(187,(Ckl1989,[],Ckf58),13069,Ckc54,[129],0),
  (190,(Ckl1996,[],Ckf58),13147,Ckc54,[35],0),
  (193,(Ckl1986,[],Ckf106),13313,Ckc52,[132],0),
  (193,(Ckl1996,[],Ckf58),11962,Ckc53,[133],0),
  (196,(Ckl1997,[],Ckf106),13327,Ckc52,[13],0),
  (196,(Ckl1978,[],Ckf58),13157,Ckc53,[14],0),
  (199,(Ckl1977,[],[]),0,Ckc24,[],0),
  (199,(Ckl1978,[],Ckf58),1,Ckc24,[],0)]
def CNC255 : List (List ND) := [CNC255_0, CNC255_1, CNC255_2]
theorem CKC255 : chkS prot SMsC SMC255 [] CNC255 = true := by decide +kernel
-- OneSided$Rents.cheapest [(96, 96), (32, 32), (-2147483648, 2147483647), (-2147483648, 2147483647), (0, 9), (0, 9)]
def Ckl1998 : AL := [some Cka328,some Cka121,some Cka34,some Cka34,some Cka77,some Cka77,none,none,none,none,none,none,none,none]
def Ckl1999 : AL := [some Cka328,some Cka121,some Cka34,some Cka34,some Cka77,some Cka77,some Cka77,none,none,none,none,none,none,none]
def Ckl2000 : AL := [some Cka328,some Cka121,some Cka34,some Cka34,some Cka77,some Cka77,some Cka77,some Cka7,none,none,none,none,none,none]
def Ckl2001 : AL := [some Cka328,some Cka121,some Cka34,some Cka34,some Cka77,some Cka77,some Cka77,some Cka7,some Cka92,none,none,none,none,none]
def Ckl2002 : AL := [some Cka328,some Cka121,some Cka34,some Cka34,some Cka77,some Cka77,some Cka77,some Cka34,some Cka240,some Cka61,some Cka123,some Cka96,some Cka96,some Cka77]
def Ckl2003 : AL := [some Cka328,some Cka121,some Cka34,some Cka34,some Cka77,some Cka77,some Cka77,some Cka7,some Cka7,none,none,none,none,none]
def Ckl2004 : AL := [some Cka328,some Cka121,some Cka34,some Cka34,some Cka77,some Cka77,some Cka77,some Cka7,some Cka77,none,none,none,none,none]
def Ckl2005 : AL := [some Cka328,some Cka121,some Cka34,some Cka34,some Cka77,some Cka77,some Cka77,some Cka34,some Cka73,some Cka61,some Cka123,some Cka96,some Cka96,some Cka77]
def Ckl2006 : AL := [some Cka328,some Cka121,some Cka34,some Cka34,some Cka77,some Cka77,some Cka77,some Cka7,some Cka77,some Cka7,none,none,none,none]
def Ckl2007 : AL := [some Cka328,some Cka121,some Cka34,some Cka34,some Cka77,some Cka77,some Cka77,some Cka34,some Cka77,some Cka61,some Cka123,some Cka96,some Cka96,some Cka77]
def Ckl2008 : AL := [some Cka328,some Cka121,some Cka34,some Cka34,some Cka77,some Cka77,some Cka77,some Cka7,some Cka7,some Cka6,some Cka123,some Cka96,some Cka96,some Cka77]
def Ckl2009 : AL := [some Cka328,some Cka121,some Cka34,some Cka34,some Cka77,some Cka77,some Cka77,some Cka34,some Cka77,some Cka62,some Cka123,some Cka96,some Cka96,some Cka77]
def Ckl2010 : AL := [some Cka328,some Cka121,some Cka34,some Cka34,some Cka77,some Cka77,some Cka77,some Cka34,some Cka77,some Cka62,some Cka123,none,none,none]
def Cke845 : SE := (Cka123,(1,10,0,0,0))
def Ckl2011 : AL := [some Cka328,some Cka121,some Cka34,some Cka34,some Cka77,some Cka77,some Cka77,some Cka7,some Cka7,some Cka7,some Cka123,none,none,none]
def Ckl2012 : AL := [some Cka328,some Cka121,some Cka34,some Cka34,some Cka77,some Cka77,some Cka77,some Cka34,some Cka77,some Cka62,some Cka123,some Cka96,none,none]
def Ckl2013 : AL := [some Cka328,some Cka121,some Cka34,some Cka34,some Cka77,some Cka77,some Cka77,some Cka7,some Cka7,some Cka7,some Cka123,some Cka96,none,none]
def Ckl2014 : AL := [some Cka328,some Cka121,some Cka34,some Cka34,some Cka77,some Cka77,some Cka77,some Cka34,some Cka77,some Cka62,some Cka123,some Cka96,some Cka96,none]
def Ckl2015 : AL := [some Cka328,some Cka121,some Cka34,some Cka34,some Cka77,some Cka77,some Cka77,some Cka34,some Cka77,some Cka62,some Cka123,some Cka6,some Cka96,none]
def Ckl2016 : AL := [some Cka328,some Cka121,some Cka34,some Cka34,some Cka77,some Cka77,some Cka77,some Cka34,some Cka77,some Cka62,some Cka123,some Cka7,some Cka96,none]
def Ckl2017 : AL := [some Cka328,some Cka121,some Cka34,some Cka34,some Cka77,some Cka77,some Cka77,some Cka34,some Cka77,some Cka62,some Cka123,some Cka7,some Cka96,some Cka77]
def Ckl2018 : AL := [some Cka328,some Cka121,some Cka34,some Cka34,some Cka77,some Cka77,some Cka77,some Cka7,some Cka7,some Cka7,some Cka123,some Cka96,some Cka96,some Cka77]
def Ckl2019 : AL := [some Cka328,some Cka121,some Cka34,some Cka34,some Cka77,some Cka77,some Cka77,some Cka7,some Cka96,some Cka62,some Cka123,some Cka96,some Cka96,some Cka77]
def Ckl2020 : AL := [some Cka328,some Cka121,some Cka34,some Cka34,some Cka77,some Cka77,some Cka77,some Cka34,some Cka77,some Cka63,some Cka123,some Cka96,some Cka96,some Cka77]
def Ckl2021 : AL := [some Cka328,some Cka121,some Cka34,some Cka34,some Cka77,some Cka77,some Cka77,some Cka7,some Cka240,some Cka7,none,none,none,none]
def CNC256_0 : List ND := [(0,(Ckl1998,[],[]),11564,Ckc38,[1],0),
  (2,(Ckl1998,[Cke355],[]),11563,Ckc38,[2],0),
  (4,(Ckl1999,[],[]),11562,Ckc38,[3],0),
  (5,(Ckl1999,[Cke7],[]),11561,Ckc38,[4],0),
  (7,(Ckl2000,[],[]),11560,Ckc38,[5],0),
  (8,(Ckl2000,[Cke7],[]),11559,Ckc38,[6],0),
  (10,(Ckl2001,[],[]),11557,Ckc55,[9],0),
  (10,(Ckl2002,[],Ckf58),11332,Ckc56,[10],0),
  (12,(Ckl2003,[Cke241],[]),11566,Ckc38,[11],0),
  (12,(Ckl2001,[Cke824],[]),11556,Ckc55,[12],0),
  (12,(Ckl2002,[Cke825],Ckf58),11331,Ckc56,[13],0),
  (14,(Ckl2003,[Cke48,Cke241],[]),11565,Ckc38,[14],0),
  (14,(Ckl2001,[Cke48,Cke824],[]),11555,Ckc55,[138,14],0),
  (14,(Ckl2002,[Cke48,Cke825],Ckf58),11330,Ckc56,[139,15],0),
  (17,(Ckl2004,[],[]),11554,Ckc55,[16],0),
  (17,(Ckl2005,[],Ckf58),11329,Ckc56,[17],0),
  (19,(Ckl2004,[Cke672],[]),11553,Ckc55,[18],0),
  (19,(Ckl2005,[Cke672],Ckf58),11328,Ckc56,[19],0),
  (21,(Ckl2004,[Cke236,Cke672],[]),11552,Ckc55,[138,20],0),
  (21,(Ckl2005,[Cke236,Cke672],Ckf58),11327,Ckc56,[139,21],0),
  (24,(Ckl2004,[],[]),11551,Ckc55,[22],0),
  (24,(Ckl2005,[],Ckf58),11326,Ckc56,[23],0),
  (25,(Ckl2004,[Cke802],[]),11550,Ckc55,[24],0),
  (25,(Ckl2005,[Cke802],Ckf58),11325,Ckc56,[25],0),
  (28,(Ckl2004,[Cke814],[]),11549,Ckc55,[26],0),
  (28,(Ckl2005,[Cke814],Ckf58),11324,Ckc56,[27],0),
  (30,(Ckl2004,[Cke672,Cke814],[]),11548,Ckc55,[28],0),
  (30,(Ckl2005,[Cke672,Cke814],Ckf58),11323,Ckc56,[29],0),
  (31,(Ckl2004,[Cke184],[]),11547,Ckc55,[30],0),
  (31,(Ckl2005,[Cke184],Ckf58),11322,Ckc56,[31],0),
  (33,(Ckl2004,[Cke815,Cke184],[]),11546,Ckc55,[138,32],0),
  (33,(Ckl2005,[Cke815,Cke184],Ckf58),11321,Ckc56,[139,33],0),
  (36,(Ckl2004,[],[]),11545,Ckc55,[34],0),
  (36,(Ckl2005,[],Ckf58),11320,Ckc56,[35],0),
  (37,(Ckl2004,[Cke7],[]),11544,Ckc55,[36],0),
  (37,(Ckl2005,[Cke7],Ckf58),11319,Ckc56,[37],0),
  (39,(Ckl2006,[],[]),11543,Ckc55,[38],0),
  (39,(Ckl2007,[],Ckf58),11317,Ckc57,[40],0),
  (41,(Ckl2006,[Cke826],[]),11542,Ckc55,[41],0),
  (41,(Ckl2008,[Cke827],Ckf58),11569,Ckc38,[42],0),
  (41,(Ckl2007,[Cke828],Ckf58),11316,Ckc57,[43],0),
  (42,(Ckl2006,[Cke200,Cke826],[]),11541,Ckc55,[44],0),
  (42,(Ckl2008,[Cke200,Cke827],Ckf58),11568,Ckc38,[45],0),
  (42,(Ckl2007,[Cke200,Cke828],Ckf58),11315,Ckc57,[46],0),
  (45,(Ckl2006,[Cke194,Cke826],[]),11540,Ckc55,[134,47],0),
  (45,(Ckl2008,[Cke359,Cke827],Ckf58),11567,Ckc38,[135,48],0),
  (45,(Ckl2007,[Cke359,Cke828],Ckf58),11314,Ckc57,[135,48],0),
  (48,(Ckl2006,[],Ckf58),11338,Ckc38,[49],0),
  (48,(Ckl2009,[],Ckf58),11313,Ckc57,[50],0),
  (49,(Ckl2006,[Cke200],Ckf58),11337,Ckc38,[51],0),
  (49,(Ckl2009,[Cke200],Ckf58),11312,Ckc57,[52],0),
  (52,(Ckl2006,[Cke195],Ckf58),11336,Ckc38,[53],0),
  (52,(Ckl2009,[Cke195],Ckf58),11311,Ckc57,[55],0),
  (54,(Ckl2006,[Cke826,Cke195],Ckf58),11335,Ckc38,[56],0),
  (54,(Ckl2008,[Cke827,Cke195],Ckf105),11570,Ckc38,[57],0),
  (54,(Ckl2009,[Cke829,Cke195],Ckf58),11310,Ckc57,[57],0),
  (55,(Ckl2006,[Cke265],Ckf58),11334,Ckc38,[58],0),
  (55,(Ckl2009,[Cke196],Ckf58),11309,Ckc57,[58],0),
  (57,(Ckl2010,[],Ckf58),11308,Ckc57,[59],0),
  (59,(Ckl2010,[Cke845],Ckf58),11307,Ckc57,[60],0),
  (62,(Ckl2010,[Cke97],Ckf58),11306,Ckc57,[61],0),
  (64,(Ckl2010,[Cke672,Cke97],Ckf58),11305,Ckc57,[71,62],0),
  (67,(Ckl2010,[],Ckf58),11304,Ckc57,[63],0),
  (68,(Ckl2010,[Cke209],Ckf58),11303,Ckc57,[65],0)]
def CNC256_1 : List ND := [(70,(Ckl2011,[Cke826,Cke209],Ckf58),11571,Ckc38,[66],0),
  (70,(Ckl2010,[Cke829,Cke209],Ckf58),11302,Ckc57,[66],0),
  (71,(Ckl2010,[Cke184],Ckf58),11301,Ckc57,[67],0),
  (72,(Ckl2010,[Cke6,Cke184],Ckf58),11300,Ckc57,[68],0),
  (73,(Ckl2010,[Cke242],Ckf58),11299,Ckc57,[71,69],0),
  (76,(Ckl2010,[],Ckf58),11296,Ckc57,[70],0),
  (77,(Ckl2010,[Cke6],Ckf58),11295,Ckc57,[73],0),
  (80,(Ckl2010,[],Ckf58),11298,Ckc57,[72],0),
  (81,(Ckl2010,[Cke7],Ckf58),11297,Ckc57,[74],0),
  (81,(Ckl2010,[Cke6],Ckf58),11294,Ckc57,[74],0),
  (83,(Ckl2012,[],Ckf58),11293,Ckc57,[75],0),
  (85,(Ckl2012,[Cke845],Ckf58),11292,Ckc57,[76],0),
  (88,(Ckl2012,[Cke97],Ckf58),11291,Ckc57,[77],0),
  (90,(Ckl2012,[Cke672,Cke97],Ckf58),11290,Ckc57,[87,78],0),
  (93,(Ckl2012,[],Ckf58),11289,Ckc57,[79],0),
  (94,(Ckl2012,[Cke210],Ckf58),11288,Ckc57,[81],0),
  (96,(Ckl2013,[Cke826,Cke210],Ckf58),11572,Ckc38,[82],0),
  (96,(Ckl2012,[Cke829,Cke210],Ckf58),11287,Ckc57,[82],0),
  (97,(Ckl2012,[Cke184],Ckf58),11286,Ckc57,[83],0),
  (98,(Ckl2012,[Cke6,Cke184],Ckf58),11285,Ckc57,[84],0),
  (99,(Ckl2012,[Cke242],Ckf58),11284,Ckc57,[87,85],0),
  (102,(Ckl2012,[],Ckf58),11281,Ckc57,[86],0),
  (103,(Ckl2012,[Cke6],Ckf58),11280,Ckc57,[89],0),
  (106,(Ckl2012,[],Ckf58),11283,Ckc57,[88],0),
  (107,(Ckl2012,[Cke7],Ckf58),11282,Ckc57,[90],0),
  (107,(Ckl2012,[Cke6],Ckf58),11279,Ckc57,[90],0),
  (109,(Ckl2014,[],Ckf58),11278,Ckc57,[91],0),
  (111,(Ckl2014,[Cke831],Ckf58),11277,Ckc57,[95,92],0),
  (114,(Ckl2015,[],Ckf58),11276,Ckc57,[93],0),
  (116,(Ckl2015,[Cke845],Ckf58),11275,Ckc57,[94],0),
  (119,(Ckl2015,[Cke97],Ckf58),11274,Ckc57,[97],0),
  (122,(Ckl2016,[],Ckf58),11273,Ckc57,[96],0),
  (124,(Ckl2016,[Cke845],Ckf58),11272,Ckc57,[97],0),
  (127,(Ckl2014,[Cke97],Ckf58),11271,Ckc57,[98],0),
  (129,(Ckl2009,[],Ckf58),11270,Ckc57,[99],0),
  (131,(Ckl2009,[Cke831],Ckf58),11269,Ckc57,[102,100],0),
  (134,(Ckl2017,[],Ckf58),11268,Ckc57,[101],0),
  (136,(Ckl2017,[Cke832],Ckf58),11267,Ckc57,[132,102],0),
  (139,(Ckl2009,[],Ckf58),11266,Ckc57,[103],0),
  (140,(Ckl2009,[Cke802],Ckf58),11265,Ckc57,[104],0),
  (143,(Ckl2009,[Cke814],Ckf58),11264,Ckc57,[105],0),
  (145,(Ckl2009,[Cke833,Cke814],Ckf58),11263,Ckc57,[106],0),
  (146,(Ckl2009,[Cke184],Ckf58),11262,Ckc57,[107],0),
  (147,(Ckl2009,[Cke802,Cke184],Ckf58),11261,Ckc57,[108],0),
  (150,(Ckl2009,[Cke820,Cke184],Ckf58),11260,Ckc57,[110],0),
  (152,(Ckl2018,[Cke826,Cke820,Cke184],Ckf58),11573,Ckc38,[111],0),
  (152,(Ckl2009,[Cke829,Cke820,Cke184],Ckf58),11259,Ckc57,[111],0),
  (153,(Ckl2009,[Cke184,Cke184],Ckf58),11258,Ckc57,[112],0),
  (154,(Ckl2009,[Cke184],Ckf58),11257,Ckc57,[113],0),
  (155,(Ckl2009,[Cke802,Cke184],Ckf58),11256,Ckc57,[114],0),
  (158,(Ckl2009,[Cke814,Cke184],Ckf58),11255,Ckc57,[115],0),
  (160,(Ckl2009,[Cke672,Cke814,Cke184],Ckf58),11254,Ckc57,[116],0),
  (161,(Ckl2009,[Cke184,Cke184],Ckf58),11253,Ckc57,[132,117],0),
  (164,(Ckl2009,[],Ckf58),10313,Ckc56,[119],0),
  (166,(Ckl2019,[Cke386],Ckf58),11577,Ckc38,[120],0),
  (166,(Ckl2009,[Cke215],Ckf58),10312,Ckc56,[121],0),
  (167,(Ckl2019,[Cke6,Cke386],Ckf58),11576,Ckc38,[122],0),
  (167,(Ckl2009,[Cke6,Cke215],Ckf58),10311,Ckc56,[124],0),
  (169,(Ckl2019,[Cke829,Cke6,Cke386],Ckf58),11575,Ckc38,[126],0),
  (169,(Ckl2018,[Cke826,Cke6,Cke386],Ckf58),11579,Ckc38,[125],0),
  (169,(Ckl2009,[Cke829,Cke6,Cke215],Ckf58),10310,Ckc56,[127],0),
  (170,(Ckl2018,[Cke6,Cke386],Ckf58),11578,Ckc38,[128],0),
  (170,(Ckl2019,[Cke252,Cke386],Ckf58),11574,Ckc38,[128],0),
  (170,(Ckl2009,[Cke252,Cke215],Ckf58),10309,Ckc56,[128],0)]
def CNC256_2 : List ND := [(171,(Ckl2009,[Cke184],Ckf58),10308,Ckc56,[129],0),
  (173,(Ckl2009,[],Ckf58),10307,Ckc56,[130],0),
  (175,(Ckl2009,[Cke833],Ckf58),10306,Ckc56,[131],0),
  (177,(Ckl2009,[],Ckf58),10305,Ckc56,[135],0),
  (180,(Ckl2009,[],Ckf58),11252,Ckc57,[133],0),
  (183,(Ckl2020,[],Ckf58),11318,Ckc57,[37],0),
  (186,(Ckl2006,[],Ckf106),11539,Ckc55,[136],0),
  (186,(Ckl2007,[],Ckf58),10304,Ckc56,[137],0),
  (189,(Ckl2021,[],Ckf106),11558,Ckc55,[6],0),
  (189,(Ckl2002,[],Ckf58),11333,Ckc56,[7],0),
  (192,(Ckl2001,[],[]),1,Ckc38,[140],0),
  (192,(Ckl2002,[],Ckf58),3,Ckc38,[141],0),
  (194,(Ckl2001,[Cke386],[]),0,Ckc38,[],0),
  (194,(Ckl2002,[Cke215],Ckf58),2,Ckc38,[],0)]
def CNC256 : List (List ND) := [CNC256_0, CNC256_1, CNC256_2]
theorem CKC256 : chkS prot SMsC SMC256 [] CNC256 = true := by decide +kernel
-- OneSided$Rents.doorsOf [(96, 96), (32, 32), (60, 60), (0, 5), (0, 99)]
def Ckl2022 : AL := [some Cka328,some Cka121,some Cka157,some Cka67,some Cka263,none,none,none]
def Ckl2023 : AL := [some Cka328,some Cka121,some Cka157,some Cka67,some Cka263,some Cka125,none,none]
def Ckl2024 : AL := [some Cka328,some Cka121,some Cka157,some Cka67,some Cka263,some Cka125,some Cka34,none]
def Ckl2025 : AL := [some Cka328,some Cka121,some Cka157,some Cka67,some Cka263,some Cka125,some Cka34,some Cka34]
def CNC257_0 : List ND := [(0,(Ckl2022,[],[]),57,Ckc13,[1],0),
  (1,(Ckl2022,[Cke200],[]),56,Ckc13,[2],0),
  (4,(Ckl2022,[Cke198],[]),55,Ckc13,[3],0),
  (5,(Ckl2022,[Cke84,Cke198],[]),54,Ckc13,[4],0),
  (6,(Ckl2022,[Cke199],[]),53,Ckc13,[5],0),
  (8,(Ckl2023,[],[]),52,Ckc13,[6],0),
  (9,(Ckl2023,[Cke200],[]),51,Ckc13,[7],0),
  (11,(Ckl2023,[Cke506,Cke200],[]),50,Ckc13,[8],0),
  (14,(Ckl2023,[Cke141,Cke200],[]),49,Ckc13,[9],0),
  (15,(Ckl2023,[Cke354,Cke141,Cke200],[]),48,Ckc13,[10],0),
  (18,(Ckl2023,[Cke316,Cke141,Cke200],[]),47,Ckc13,[11],0),
  (19,(Ckl2023,[Cke354,Cke316,Cke141,Cke200],[]),46,Ckc13,[12],0),
  (22,(Ckl2023,[Cke303,Cke316,Cke141,Cke200],[]),45,Ckc13,[13],145),
  (25,(Ckl2023,[Cke184],[]),44,Ckc13,[14],0),
  (27,(Ckl2024,[],[]),43,Ckc13,[15],0),
  (28,(Ckl2024,[Cke200],[]),42,Ckc13,[16],0),
  (30,(Ckl2024,[Cke506,Cke200],[]),41,Ckc13,[17],0),
  (33,(Ckl2024,[Cke141,Cke200],[]),40,Ckc13,[18],0),
  (34,(Ckl2024,[Cke354,Cke141,Cke200],[]),39,Ckc13,[19],0),
  (37,(Ckl2024,[Cke316,Cke141,Cke200],[]),38,Ckc13,[20],0),
  (38,(Ckl2024,[Cke354,Cke316,Cke141,Cke200],[]),37,Ckc13,[21],0),
  (41,(Ckl2024,[Cke303,Cke316,Cke141,Cke200],[]),36,Ckc13,[22],146),
  (44,(Ckl2024,[Cke184],[]),35,Ckc13,[23],0),
  (46,(Ckl2025,[],[]),34,Ckc13,[24],0),
  (47,(Ckl2025,[Cke802],[]),33,Ckc13,[25],0),
  (49,(Ckl2025,[Cke353,Cke802],[]),32,Ckc13,[26],0),
  (51,(Ckl2025,[Cke834,Cke353,Cke802],[]),31,Ckc13,[27],0),
  (53,(Ckl2025,[Cke506,Cke834,Cke353,Cke802],[]),30,Ckc13,[28],0),
  (56,(Ckl2025,[Cke141,Cke834,Cke353,Cke802],[]),29,Ckc13,[29],0),
  (57,(Ckl2025,[Cke6,Cke141,Cke834,Cke353,Cke802],[]),28,Ckc13,[30],246),
  (60,(Ckl2025,[Cke184],[]),27,Ckc13,[31],0),
  (62,(Ckl2025,[],[]),26,Ckc13,[32],0),
  (63,(Ckl2025,[Cke802],[]),25,Ckc13,[33],0),
  (65,(Ckl2025,[Cke215,Cke802],[]),24,Ckc13,[34],0),
  (67,(Ckl2025,[Cke834,Cke215,Cke802],[]),23,Ckc13,[35],0),
  (69,(Ckl2025,[Cke506,Cke834,Cke215,Cke802],[]),22,Ckc13,[36],0),
  (72,(Ckl2025,[Cke141,Cke834,Cke215,Cke802],[]),21,Ckc13,[37],0),
  (73,(Ckl2025,[Cke22,Cke141,Cke834,Cke215,Cke802],[]),20,Ckc13,[38],246),
  (76,(Ckl2025,[Cke184],[]),19,Ckc13,[39],0),
  (78,(Ckl2025,[],[]),18,Ckc13,[40],0),
  (79,(Ckl2025,[Cke802],[]),17,Ckc13,[41],0),
  (80,(Ckl2025,[Cke200,Cke802],[]),16,Ckc13,[42],0),
  (82,(Ckl2025,[Cke353,Cke200,Cke802],[]),15,Ckc13,[43],0),
  (84,(Ckl2025,[Cke215,Cke353,Cke200,Cke802],[]),14,Ckc13,[44],0),
  (86,(Ckl2025,[Cke506,Cke215,Cke353,Cke200,Cke802],[]),13,Ckc13,[45],0),
  (89,(Ckl2025,[Cke97,Cke215,Cke353,Cke200,Cke802],[]),12,Ckc13,[46],255),
  (92,(Ckl2025,[],[]),11,Ckc13,[47],0),
  (93,(Ckl2025,[Cke802],[]),10,Ckc13,[48],0),
  (94,(Ckl2025,[Cke200,Cke802],[]),9,Ckc13,[49],0),
  (96,(Ckl2025,[Cke353,Cke200,Cke802],[]),8,Ckc13,[50],0),
  (98,(Ckl2025,[Cke215,Cke353,Cke200,Cke802],[]),7,Ckc13,[51],0),
  (99,(Ckl2025,[Cke354,Cke215,Cke353,Cke200,Cke802],[]),6,Ckc13,[52],0),
  (102,(Ckl2025,[Cke277,Cke215,Cke353,Cke200,Cke802],[]),5,Ckc13,[53],0),
  (103,(Ckl2025,[Cke84,Cke277,Cke215,Cke353,Cke200,Cke802],[]),4,Ckc13,[54],0),
  (104,(Ckl2025,[Cke97,Cke215,Cke353,Cke200,Cke802],[]),3,Ckc13,[55],0),
  (106,(Ckl2025,[Cke506,Cke97,Cke215,Cke353,Cke200,Cke802],[]),2,Ckc13,[56],0),
  (109,(Ckl2025,[Cke97,Cke97,Cke215,Cke353,Cke200,Cke802],[]),1,Ckc13,[57],256),
  (112,(Ckl2025,[Cke184],[]),0,Ckc13,[],0)]
def CNC257 : List (List ND) := [CNC257_0]
theorem CKC257 : chkS prot SMsC SMC257 [] CNC257 = true := by decide +kernel
-- OneSided$Rents.takeRents [(96, 96), (32, 32), (60, 60), (0, 99)]
def Ckl2026 : AL := [some Cka328,some Cka121,some Cka157,some Cka263,none,none,none,none]
def Ckl2027 : AL := [some Cka328,some Cka121,some Cka157,some Cka263,some Cka77,none,none,none]
def Ckl2028 : AL := [some Cka328,some Cka121,some Cka157,some Cka263,some Cka77,some Cka77,none,none]
def Ckl2029 : AL := [some Cka328,some Cka121,some Cka157,some Cka263,some Cka77,some Cka77,some Cka66,none]
def Ckl2030 : AL := [some Cka328,some Cka121,some Cka157,some Cka263,some Cka77,some Cka77,some Cka7,none]
def Ckl2031 : AL := [some Cka328,some Cka121,some Cka157,some Cka263,some Cka77,some Cka77,some Cka67,none]
def Ckl2032 : AL := [some Cka328,some Cka121,some Cka157,some Cka263,some Cka77,some Cka77,some Cka67,some Cka34]
def Ckl2033 : AL := [some Cka328,some Cka121,some Cka157,some Cka263,some Cka77,some Cka77,some Cka68,some Cka34]
def CNC258_0 : List ND := [(0,(Ckl2026,[],[]),341,Ckc13,[1],0),
  (1,(Ckl2026,[Cke835],[]),340,Ckc13,[2],0),
  (3,(Ckl2026,[Cke48,Cke835],[]),339,Ckc13,[3],0),
  (4,(Ckl2026,[Cke97],[]),338,Ckc13,[4],0),
  (6,(Ckl2027,[],[]),337,Ckc13,[5],0),
  (7,(Ckl2027,[Cke835],[]),336,Ckc13,[6],0),
  (9,(Ckl2027,[Cke48,Cke835],[]),335,Ckc13,[7],0),
  (10,(Ckl2027,[Cke97],[]),334,Ckc13,[8],0),
  (12,(Ckl2028,[],[]),333,Ckc13,[9],0),
  (13,(Ckl2028,[Cke802],[]),332,Ckc13,[10],0),
  (16,(Ckl2028,[Cke820],[]),331,Ckc13,[11],0),
  (17,(Ckl2028,[Cke802,Cke820],[]),330,Ckc13,[12],0),
  (20,(Ckl2028,[Cke808,Cke820],[]),329,Ckc13,[13],0),
  (22,(Ckl2028,[Cke355,Cke808,Cke820],[]),328,Ckc13,[14],0),
  (24,(Ckl2028,[Cke642,Cke355,Cke808,Cke820],[]),327,Ckc13,[15],0),
  (25,(Ckl2028,[Cke836,Cke808,Cke820],[]),326,Ckc13,[16],0),
  (26,(Ckl2028,[Cke6,Cke836,Cke808,Cke820],[]),325,Ckc13,[17],0),
  (27,(Ckl2028,[Cke837,Cke808,Cke820],[]),324,Ckc13,[18],0),
  (28,(Ckl2028,[],[]),323,Ckc13,[19],0),
  (29,(Ckl2028,[Cke802],[]),322,Ckc13,[20],0),
  (32,(Ckl2028,[Cke820],[]),321,Ckc13,[21],0),
  (33,(Ckl2028,[Cke802,Cke820],[]),320,Ckc13,[22],0),
  (36,(Ckl2028,[Cke809,Cke820],[]),319,Ckc13,[23],0),
  (38,(Ckl2028,[Cke236,Cke809,Cke820],[]),318,Ckc13,[24],0),
  (40,(Ckl2028,[Cke642,Cke236,Cke809,Cke820],[]),317,Ckc13,[25],0),
  (41,(Ckl2028,[Cke836,Cke809,Cke820],[]),316,Ckc13,[26],0),
  (42,(Ckl2028,[Cke6,Cke836,Cke809,Cke820],[]),315,Ckc13,[27],0),
  (43,(Ckl2028,[Cke837,Cke809,Cke820],[]),314,Ckc13,[28],0),
  (44,(Ckl2028,[],[]),313,Ckc13,[29],0),
  (45,(Ckl2028,[Cke802],[]),312,Ckc13,[30],0),
  (48,(Ckl2028,[Cke838],[]),311,Ckc13,[31],0),
  (49,(Ckl2028,[Cke835,Cke838],[]),310,Ckc13,[32],0),
  (50,(Ckl2028,[Cke7,Cke835,Cke838],[]),309,Ckc13,[33],0),
  (51,(Ckl2028,[],[]),308,Ckc13,[34],0),
  (52,(Ckl2028,[Cke802],[]),307,Ckc13,[35],0),
  (55,(Ckl2028,[Cke839],[]),306,Ckc13,[36],0),
  (56,(Ckl2028,[Cke835,Cke839],[]),305,Ckc13,[37],0),
  (57,(Ckl2028,[Cke7,Cke835,Cke839],[]),304,Ckc13,[38],0),
  (58,(Ckl2028,[],[]),303,Ckc13,[39],0),
  (59,(Ckl2028,[Cke7],[]),302,Ckc13,[40],0),
  (61,(Ckl2029,[],[]),300,Ckc58,[42],0),
  (63,(Ckl2030,[Cke212],[]),344,Ckc13,[43],0),
  (63,(Ckl2029,[Cke840],[]),299,Ckc58,[44],0),
  (64,(Ckl2030,[Cke200,Cke212],[]),343,Ckc13,[45],0),
  (64,(Ckl2029,[Cke200,Cke840],[]),298,Ckc58,[46],0),
  (67,(Ckl2030,[Cke197,Cke212],[]),342,Ckc13,[88,47],0),
  (67,(Ckl2029,[Cke197,Cke840],[]),297,Ckc58,[88,47],0),
  (70,(Ckl2031,[],Ckf59),296,Ckc58,[48],0),
  (71,(Ckl2031,[Cke802],Ckf59),295,Ckc58,[49],0),
  (72,(Ckl2031,[Cke200,Cke802],Ckf59),294,Ckc58,[50],0),
  (73,(Ckl2031,[Cke354,Cke200,Cke802],Ckf59),293,Ckc58,[52],0),
  (75,(Ckl2030,[Cke212,Cke354,Cke200,Cke802],Ckf59),346,Ckc13,[53],0),
  (75,(Ckl2031,[Cke841,Cke354,Cke200,Cke802],Ckf59),292,Ckc58,[54],0),
  (76,(Ckl2030,[Cke835,Cke212,Cke354,Cke200,Cke802],Ckf59),345,Ckc13,[55],257),
  (76,(Ckl2031,[Cke835,Cke841,Cke354,Cke200,Cke802],Ckf59),291,Ckc58,[55],257),
  (79,(Ckl2031,[Cke184],Ckf59),290,Ckc58,[56],0),
  (81,(Ckl2032,[],Ckf59),289,Ckc58,[57],0),
  (82,(Ckl2032,[Cke802],Ckf59),288,Ckc58,[58],0),
  (85,(Ckl2032,[Cke838],Ckf59),287,Ckc58,[59],0),
  (86,(Ckl2032,[Cke835,Cke838],Ckf59),286,Ckc58,[60],0),
  (87,(Ckl2032,[Cke835,Cke838,Cke835,Cke838],Ckf59),285,Ckc58,[61],0),
  (88,(Ckl2032,[Cke184,Cke835,Cke838],Ckf59),284,Ckc58,[62],0),
  (90,(Ckl2032,[Cke215,Cke184,Cke835,Cke838],Ckf59),283,Ckc58,[63],0),
  (91,(Ckl2032,[Cke802,Cke215,Cke184,Cke835,Cke838],Ckf59),282,Ckc58,[64],0)]
def CNC258_1 : List ND := [(94,(Ckl2032,[Cke808,Cke215,Cke184,Cke835,Cke838],Ckf59),281,Ckc58,[65],0),
  (95,(Ckl2032,[Cke184,Cke184,Cke835,Cke838],Ckf59),280,Ckc58,[66],0),
  (96,(Ckl2032,[Cke6,Cke184,Cke184,Cke835,Cke838],Ckf59),279,Ckc58,[67],0),
  (97,(Ckl2032,[Cke242,Cke184,Cke835,Cke838],Ckf59),278,Ckc58,[68],0),
  (99,(Ckl2032,[Cke355,Cke242,Cke184,Cke835,Cke838],Ckf59),277,Ckc58,[69],0),
  (100,(Ckl2032,[Cke97,Cke184,Cke835,Cke838],Ckf59),276,Ckc58,[70],0),
  (101,(Ckl2032,[Cke184,Cke835,Cke838],Ckf59),275,Ckc58,[71],0),
  (102,(Ckl2032,[],Ckf59),274,Ckc58,[72],0),
  (103,(Ckl2032,[Cke802],Ckf59),273,Ckc58,[73],0),
  (106,(Ckl2032,[Cke839],Ckf59),272,Ckc58,[74],0),
  (107,(Ckl2032,[Cke835,Cke839],Ckf59),271,Ckc58,[75],0),
  (108,(Ckl2032,[Cke835,Cke839,Cke835,Cke839],Ckf59),270,Ckc58,[76],0),
  (109,(Ckl2032,[Cke184,Cke835,Cke839],Ckf59),269,Ckc58,[77],0),
  (111,(Ckl2032,[Cke215,Cke184,Cke835,Cke839],Ckf59),268,Ckc58,[78],0),
  (112,(Ckl2032,[Cke802,Cke215,Cke184,Cke835,Cke839],Ckf59),267,Ckc58,[79],0),
  (115,(Ckl2032,[Cke809,Cke215,Cke184,Cke835,Cke839],Ckf59),266,Ckc58,[80],0),
  (116,(Ckl2032,[Cke184,Cke184,Cke835,Cke839],Ckf59),265,Ckc58,[81],0),
  (117,(Ckl2032,[Cke6,Cke184,Cke184,Cke835,Cke839],Ckf59),264,Ckc58,[82],0),
  (118,(Ckl2032,[Cke242,Cke184,Cke835,Cke839],Ckf59),263,Ckc58,[83],0),
  (120,(Ckl2032,[Cke236,Cke242,Cke184,Cke835,Cke839],Ckf59),262,Ckc58,[84],0),
  (121,(Ckl2032,[Cke97,Cke184,Cke835,Cke839],Ckf59),261,Ckc58,[85],0),
  (122,(Ckl2032,[Cke184,Cke835,Cke839],Ckf59),260,Ckc58,[86],0),
  (123,(Ckl2032,[],Ckf59),259,Ckc58,[87],0),
  (126,(Ckl2033,[],Ckf59),301,Ckc58,[40],0),
  (129,(Ckl2029,[],[]),0,Ckc13,[],0)]
def CNC258 : List (List ND) := [CNC258_0, CNC258_1]
theorem CKC258 : chkS prot SMsC SMC258 [] CNC258 = true := by decide +kernel
-- OneSided$Rents.settle [(96, 96), (32, 32), (60, 60), (0, 13), (0, 13)]
def Ckl2034 : AL := [some Cka328,some Cka121,some Cka157,some Cka62,some Cka62,none]
def Ckl2035 : AL := [some Cka328,some Cka121,some Cka157,some Cka62,some Cka62,some Cka61]
def Ckl2036 : AL := [some Cka328,some Cka121,some Cka157,some Cka62,some Cka62,some Cka7]
def Ckl2037 : AL := [some Cka328,some Cka121,some Cka157,some Cka62,some Cka62,some Cka62]
def Ckl2038 : AL := [some Cka328,some Cka121,some Cka157,some Cka62,some Cka62,some Cka63]
def Ckl2039 : AL := [some Cka328,some Cka121,some Cka157,some Cka62,some Cka62,some Cka262]
def Ckl2040 : AL := [some Cka328,some Cka121,some Cka157,some Cka62,some Cka62,some Cka263]
def Ckl2041 : AL := [some Cka328,some Cka121,some Cka157,some Cka62,some Cka62,some Cka264]
def Ckl2042 : AL := [some Cka328,some Cka121,some Cka157,some Cka62,some Cka62,some Cka261]
def CNC259_0 : List ND := [(0,(Ckl2034,[],[]),1319,Ckc9,[1],0),
  (1,(Ckl2034,[Cke802],[]),1318,Ckc9,[2],0),
  (2,(Ckl2034,[Cke78,Cke802],[]),1317,Ckc9,[3],0),
  (5,(Ckl2034,[],[]),1316,Ckc9,[4],0),
  (6,(Ckl2034,[Cke802],[]),1315,Ckc9,[5],0),
  (8,(Ckl2034,[Cke410,Cke802],[]),1314,Ckc9,[6],0),
  (11,(Ckl2034,[],[]),1313,Ckc9,[7],0),
  (12,(Ckl2034,[Cke802],[]),1312,Ckc9,[8],0),
  (13,(Ckl2034,[Cke200,Cke802],[]),1311,Ckc9,[9],0),
  (14,(Ckl2034,[Cke354,Cke200,Cke802],[]),1310,Ckc9,[10],0),
  (15,(Ckl2034,[Cke7,Cke354,Cke200,Cke802],[]),1309,Ckc9,[11],0),
  (16,(Ckl2034,[Cke802,Cke7,Cke354,Cke200,Cke802],[]),1308,Ckc9,[12],0),
  (19,(Ckl2034,[Cke808,Cke7,Cke354,Cke200,Cke802],[]),1307,Ckc9,[13],253),
  (22,(Ckl2034,[],[]),1306,Ckc9,[14],0),
  (23,(Ckl2034,[Cke802],[]),1305,Ckc9,[15],0),
  (24,(Ckl2034,[Cke200,Cke802],[]),1304,Ckc9,[16],0),
  (25,(Ckl2034,[Cke354,Cke200,Cke802],[]),1303,Ckc9,[17],0),
  (26,(Ckl2034,[Cke6,Cke354,Cke200,Cke802],[]),1302,Ckc9,[18],0),
  (27,(Ckl2034,[Cke802,Cke6,Cke354,Cke200,Cke802],[]),1301,Ckc9,[19],0),
  (30,(Ckl2034,[Cke809,Cke6,Cke354,Cke200,Cke802],[]),1300,Ckc9,[20],254),
  (33,(Ckl2034,[],[]),1299,Ckc9,[21],0),
  (34,(Ckl2034,[Cke7],[]),1298,Ckc9,[22],0),
  (36,(Ckl2035,[],[]),1296,Ckc59,[24],0),
  (38,(Ckl2036,[Cke216],[]),1322,Ckc9,[25],0),
  (38,(Ckl2035,[Cke246],[]),1295,Ckc59,[26],0),
  (39,(Ckl2036,[Cke200,Cke216],[]),1321,Ckc9,[27],0),
  (39,(Ckl2035,[Cke200,Cke246],[]),1294,Ckc59,[28],0),
  (42,(Ckl2036,[Cke194,Cke216],[]),1320,Ckc9,[54,29],0),
  (42,(Ckl2035,[Cke194,Cke246],[]),1293,Ckc59,[54,29],0),
  (45,(Ckl2037,[],Ckf58),1292,Ckc59,[30],0),
  (46,(Ckl2037,[Cke802],Ckf58),1291,Ckc59,[31],0),
  (49,(Ckl2037,[Cke820],Ckf58),1290,Ckc59,[33],0),
  (51,(Ckl2036,[Cke216,Cke820],Ckf58),1332,Ckc9,[34],0),
  (51,(Ckl2037,[Cke247,Cke820],Ckf58),1289,Ckc59,[35],0),
  (52,(Ckl2036,[Cke200,Cke216,Cke820],Ckf58),1331,Ckc9,[36],0),
  (52,(Ckl2037,[Cke200,Cke247,Cke820],Ckf58),1288,Ckc59,[37],0),
  (55,(Ckl2036,[Cke195,Cke216,Cke820],Ckf58),1330,Ckc9,[38],0),
  (55,(Ckl2037,[Cke195,Cke247,Cke820],Ckf58),1287,Ckc59,[39],0),
  (57,(Ckl2036,[Cke216,Cke195,Cke216,Cke820],Ckf58),1329,Ckc9,[40],0),
  (57,(Ckl2037,[Cke247,Cke195,Cke247,Cke820],Ckf58),1286,Ckc59,[41],0),
  (58,(Ckl2036,[Cke265,Cke216,Cke820],Ckf58),1328,Ckc9,[42],0),
  (58,(Ckl2037,[Cke196,Cke247,Cke820],Ckf58),1285,Ckc59,[43],0),
  (61,(Ckl2036,[Cke97,Cke216,Cke820],Ckf58),1327,Ckc9,[44],0),
  (61,(Ckl2037,[Cke97,Cke247,Cke820],Ckf58),1284,Ckc59,[45],0),
  (63,(Ckl2036,[Cke642,Cke97,Cke216,Cke820],Ckf58),1326,Ckc9,[46],0),
  (63,(Ckl2037,[Cke642,Cke97,Cke247,Cke820],Ckf58),1283,Ckc59,[47],0),
  (64,(Ckl2036,[Cke836,Cke216,Cke820],Ckf58),1325,Ckc9,[48],0),
  (64,(Ckl2037,[Cke836,Cke247,Cke820],Ckf58),1282,Ckc59,[49],0),
  (65,(Ckl2036,[Cke6,Cke836,Cke216,Cke820],Ckf58),1324,Ckc9,[50],0),
  (65,(Ckl2037,[Cke6,Cke836,Cke247,Cke820],Ckf58),1281,Ckc59,[51],0),
  (66,(Ckl2036,[Cke837,Cke216,Cke820],Ckf58),1323,Ckc9,[52],0),
  (66,(Ckl2037,[Cke837,Cke247,Cke820],Ckf58),1280,Ckc59,[52],0),
  (67,(Ckl2037,[],Ckf58),1279,Ckc59,[53],0),
  (70,(Ckl2038,[],Ckf58),1297,Ckc59,[22],0),
  (73,(Ckl2035,[],[]),1012,Ckc9,[55],0),
  (74,(Ckl2035,[Cke7],[]),1011,Ckc9,[56],0),
  (76,(Ckl2039,[],[]),1009,Ckc60,[58],0),
  (78,(Ckl2036,[Cke216],[]),1334,Ckc9,[59],0),
  (78,(Ckl2039,[Cke842],[]),1008,Ckc60,[60],0),
  (80,(Ckl2036,[Cke564,Cke216],[]),1333,Ckc9,[61],0),
  (80,(Ckl2039,[Cke564,Cke842],[]),1007,Ckc60,[69,61],0),
  (83,(Ckl2040,[],[]),1006,Ckc60,[62],0),
  (84,(Ckl2040,[Cke802],[]),1005,Ckc60,[63],0),
  (85,(Ckl2040,[Cke200,Cke802],[]),1004,Ckc60,[64],0)]
def CNC259_1 : List ND := [(86,(Ckl2040,[Cke354,Cke200,Cke802],[]),1003,Ckc60,[66],0),
  (88,(Ckl2036,[Cke216,Cke354,Cke200,Cke802],[]),1335,Ckc9,[67],258),
  (88,(Ckl2040,[Cke843,Cke354,Cke200,Cke802],[]),1002,Ckc60,[67],258),
  (91,(Ckl2040,[],[]),1001,Ckc60,[68],0),
  (94,(Ckl2041,[],[]),1010,Ckc60,[56],0),
  (97,(Ckl2042,[],[]),0,Ckc9,[],0)]
def CNC259 : List (List ND) := [CNC259_0, CNC259_1]
theorem CKC259 : chkS prot SMsC SMC259 [] CNC259 = true := by decide +kernel
-- OneSided$Rents.isRest [(96, 96), (0, 99)]
def Ckl2043 : AL := [some Cka328,some Cka263,none]
def Ckl2044 : AL := [some Cka328,some Cka263,some Cka92]
def Ckc61 : List Int := [0,0,-35]
def Ckl2045 : AL := [some Cka328,some Cka263,some Cka7]
def Ckl2046 : AL := [some Cka328,some Cka263,some Cka77]
def Cke846 : SE := (Cka263,(1,1,0,0,0))
def Ckl2047 : AL := [some Cka328,some Cka263,some Cka240]
def Ckl2048 : AL := [some Cka328,some Cka263,some Cka46]
def CNC260_0 : List ND := [(0,(Ckl2043,[],[]),392,Ckc1,[1],0),
  (1,(Ckl2043,[Cke7],[]),391,Ckc1,[2],0),
  (2,(Ckl2044,[],[]),389,Ckc61,[4],0),
  (3,(Ckl2045,[Cke23],[]),394,Ckc1,[5],0),
  (3,(Ckl2044,[Cke128],[]),388,Ckc61,[6],0),
  (5,(Ckl2045,[Cke48,Cke23],[]),393,Ckc1,[7],0),
  (5,(Ckl2044,[Cke48,Cke128],[]),387,Ckc61,[50,7],0),
  (8,(Ckl2046,[],[]),386,Ckc61,[8],0),
  (9,(Ckl2046,[Cke802],[]),385,Ckc61,[9],0),
  (12,(Ckl2046,[Cke838],[]),384,Ckc61,[11],0),
  (13,(Ckl2045,[Cke23,Cke838],[]),400,Ckc1,[12],0),
  (13,(Ckl2046,[Cke361,Cke838],[]),383,Ckc61,[13],0),
  (15,(Ckl2045,[Cke48,Cke23,Cke838],[]),399,Ckc1,[14],0),
  (15,(Ckl2046,[Cke48,Cke361,Cke838],[]),382,Ckc61,[15],0),
  (16,(Ckl2045,[Cke7,Cke838],[]),398,Ckc1,[16],0),
  (16,(Ckl2046,[Cke651,Cke838],[]),381,Ckc61,[17],0),
  (17,(Ckl2045,[Cke846,Cke7,Cke838],[]),397,Ckc1,[18],0),
  (17,(Ckl2046,[Cke846,Cke651,Cke838],[]),380,Ckc61,[19],0),
  (19,(Ckl2045,[Cke48,Cke846,Cke7,Cke838],[]),396,Ckc1,[20],0),
  (19,(Ckl2046,[Cke48,Cke846,Cke651,Cke838],[]),379,Ckc61,[21],0),
  (20,(Ckl2045,[Cke97,Cke7,Cke838],[]),395,Ckc1,[22],0),
  (20,(Ckl2046,[Cke97,Cke651,Cke838],[]),378,Ckc61,[22],0),
  (21,(Ckl2046,[Cke652,Cke838],[]),377,Ckc61,[23],0),
  (22,(Ckl2046,[Cke184],[]),376,Ckc61,[24],0),
  (23,(Ckl2046,[Cke802,Cke184],[]),375,Ckc61,[25],0),
  (26,(Ckl2046,[Cke838,Cke184],[]),374,Ckc61,[26],0),
  (27,(Ckl2046,[Cke846,Cke838,Cke184],[]),373,Ckc61,[27],0),
  (28,(Ckl2046,[Cke184,Cke184],[]),372,Ckc61,[30,28],0),
  (31,(Ckl2046,[],[]),3,Ckc1,[29],0),
  (32,(Ckl2046,[Cke7],[]),2,Ckc1,[],0),
  (33,(Ckl2046,[],[]),371,Ckc61,[31],0),
  (34,(Ckl2046,[Cke802],[]),370,Ckc61,[32],0),
  (37,(Ckl2046,[Cke839],[]),369,Ckc61,[33],0),
  (38,(Ckl2046,[Cke846,Cke839],[]),368,Ckc61,[34],0),
  (40,(Ckl2046,[Cke48,Cke846,Cke839],[]),367,Ckc61,[35],0),
  (41,(Ckl2046,[Cke97,Cke839],[]),366,Ckc61,[36],0),
  (43,(Ckl2046,[Cke48,Cke97,Cke839],[]),365,Ckc61,[37],0),
  (44,(Ckl2046,[Cke651,Cke839],[]),364,Ckc61,[39],0),
  (45,(Ckl2045,[Cke23,Cke651,Cke839],[]),401,Ckc1,[40],0),
  (45,(Ckl2046,[Cke361,Cke651,Cke839],[]),363,Ckc61,[40],0),
  (46,(Ckl2046,[Cke652,Cke839],[]),362,Ckc61,[41],0),
  (47,(Ckl2046,[Cke184],[]),361,Ckc61,[42],0),
  (48,(Ckl2046,[Cke802,Cke184],[]),360,Ckc61,[43],0),
  (51,(Ckl2046,[Cke839,Cke184],[]),359,Ckc61,[44],0),
  (52,(Ckl2046,[Cke846,Cke839,Cke184],[]),358,Ckc61,[45],0),
  (53,(Ckl2046,[Cke184,Cke184],[]),357,Ckc61,[48,46],0),
  (56,(Ckl2046,[],[]),5,Ckc1,[47],0),
  (57,(Ckl2046,[Cke7],[]),4,Ckc1,[],0),
  (58,(Ckl2046,[],[]),356,Ckc61,[49],0),
  (61,(Ckl2047,[],[]),390,Ckc61,[2],0),
  (64,(Ckl2048,[],[]),1,Ckc1,[51],0),
  (65,(Ckl2048,[Cke6],[]),0,Ckc1,[],1)]
def CNC260 : List (List ND) := [CNC260_0]
theorem CKC260 : chkS prot SMsC SMC260 [] CNC260 = true := by decide +kernel
-- OneSided$Rents.restCount [(96, 96)]
def Ckl2049 : AL := [some Cka328,none,none]
def Ckl2050 : AL := [some Cka328,some Cka7,none]
def Ckl2051 : AL := [some Cka328,some Cka34,some Cka262]
def Ckc62 : List Int := [0,0,-17]
def Ckl2052 : AL := [some Cka328,some Cka7,some Cka7]
def Ckl2053 : AL := [some Cka328,some Cka34,some Cka263]
def Ckl2054 : AL := [some Cka328,some Cka34,some Cka264]
def Ckl2055 : AL := [some Cka328,some Cka34,some Cka261]
def CNC261_0 : List ND := [(0,(Ckl2049,[],[]),1722,Ckc1,[1],0),
  (1,(Ckl2049,[Cke7],[]),1721,Ckc1,[2],0),
  (2,(Ckl2050,[],[]),1720,Ckc1,[3],0),
  (3,(Ckl2050,[Cke7],[]),1719,Ckc1,[4],0),
  (4,(Ckl2051,[],[]),1717,Ckc62,[6],0),
  (5,(Ckl2052,[Cke23],[]),1724,Ckc1,[7],0),
  (5,(Ckl2051,[Cke565],[]),1716,Ckc62,[8],0),
  (7,(Ckl2052,[Cke564,Cke23],[]),1723,Ckc1,[9],0),
  (7,(Ckl2051,[Cke564,Cke565],[]),1715,Ckc62,[35,9],0),
  (10,(Ckl2053,[],[]),1714,Ckc62,[11],0),
  (11,(Ckl2052,[Cke90],[]),1736,Ckc1,[12],0),
  (11,(Ckl2053,[Cke156],[]),1713,Ckc62,[13],0),
  (12,(Ckl2052,[Cke802,Cke90],[]),1735,Ckc1,[14],0),
  (12,(Ckl2053,[Cke802,Cke156],[]),1712,Ckc62,[15],0),
  (13,(Ckl2052,[Cke23,Cke802,Cke90],[]),1734,Ckc1,[16,17],260),
  (13,(Ckl2053,[Cke567,Cke802,Cke156],[]),1711,Ckc62,[18,19],260),
  (16,(Ckl2052,[Cke7,Cke90],[]),1728,Ckc1,[24],0),
  (16,(Ckl2052,[Cke6,Cke90],[]),1733,Ckc1,[20],0),
  (16,(Ckl2053,[Cke7,Cke156],[]),1710,Ckc62,[25],0),
  (16,(Ckl2053,[Cke6,Cke156],[]),1707,Ckc62,[21],0),
  (19,(Ckl2052,[Cke90],[]),1732,Ckc1,[22],0),
  (19,(Ckl2053,[Cke156],[]),1706,Ckc62,[23],0),
  (20,(Ckl2052,[Cke6,Cke90],[]),1731,Ckc1,[27],0),
  (20,(Ckl2053,[Cke6,Cke156],[]),1705,Ckc62,[29],0),
  (23,(Ckl2052,[Cke90],[]),1727,Ckc1,[26],0),
  (23,(Ckl2053,[Cke156],[]),1709,Ckc62,[28],0),
  (24,(Ckl2052,[Cke7,Cke90],[]),1726,Ckc1,[30],0),
  (24,(Ckl2052,[Cke6,Cke90],[]),1730,Ckc1,[31],0),
  (24,(Ckl2053,[Cke7,Cke156],[]),1708,Ckc62,[32],0),
  (24,(Ckl2053,[Cke6,Cke156],[]),1704,Ckc62,[32],0),
  (25,(Ckl2052,[Cke7],[]),1725,Ckc1,[33],0),
  (25,(Ckl2052,[Cke6],[]),1729,Ckc1,[33],0),
  (25,(Ckl2053,[Cke184],[]),1703,Ckc62,[33],0),
  (26,(Ckl2053,[],[]),1702,Ckc62,[34],0),
  (29,(Ckl2054,[],[]),1718,Ckc62,[4],0),
  (32,(Ckl2055,[],[]),1,Ckc1,[36],0),
  (33,(Ckl2055,[Cke156],[]),0,Ckc1,[],0)]
def CNC261 : List (List ND) := [CNC261_0]
theorem CKC261 : chkS prot SMsC SMC261 [] CNC261 = true := by decide +kernel
-- OneSided$Rents.restAt [(96, 96), (0, 2147483647)]
def Ckl2056 : AL := [some Cka328,some Cka142,none,none]
def Ckl2057 : AL := [some Cka328,some Cka142,some Cka142,none]
def Ckl2058 : AL := [some Cka328,some Cka142,some Cka142,some Cka262]
def Ckc63 : List Int := [0,0,0,-13]
def Ckl2059 : AL := [some Cka328,some Cka142,some Cka142,some Cka7]
def Cke847 : SE := (Cka262,(1,3,0,0,0))
def Ckl2060 : AL := [some Cka328,some Cka142,some Cka142,some Cka263]
def Ckl2061 : AL := [some Cka328,some Cka142,some Cka7,some Cka263]
def Ckl2062 : AL := [some Cka328,some Cka142,some Cka7,some Cka7]
def Ckl2063 : AL := [some Cka328,some Cka142,some Cka178,some Cka263]
def Ckl2064 : AL := [some Cka328,some Cka142,some Cka142,some Cka264]
def Ckl2065 : AL := [some Cka328,some Cka142,some Cka142,some Cka261]
def CNC262_0 : List ND := [(0,(Ckl2056,[],[]),1320,Ckc7,[1],0),
  (1,(Ckl2056,[Cke299],[]),1319,Ckc7,[2],0),
  (2,(Ckl2057,[],[]),1318,Ckc7,[3],0),
  (3,(Ckl2057,[Cke7],[]),1317,Ckc7,[4],0),
  (4,(Ckl2058,[],[]),1315,Ckc63,[6],0),
  (5,(Ckl2059,[Cke74],[]),1322,Ckc7,[7],0),
  (5,(Ckl2058,[Cke847],[]),1314,Ckc63,[8],0),
  (7,(Ckl2059,[Cke564,Cke74],[]),1321,Ckc7,[9],0),
  (7,(Ckl2058,[Cke564,Cke847],[]),1313,Ckc63,[23,9],0),
  (10,(Ckl2060,[],[]),1312,Ckc63,[10],0),
  (11,(Ckl2060,[Cke802],[]),1311,Ckc63,[12],0),
  (12,(Ckl2059,[Cke74,Cke802],[]),1323,Ckc7,[13,14],260),
  (12,(Ckl2060,[Cke835,Cke802],[]),1310,Ckc63,[13,14],260),
  (15,(Ckl2060,[Cke7],[]),1305,Ckc63,[21],0),
  (15,(Ckl2060,[Cke6],[]),1309,Ckc63,[15],0),
  (18,(Ckl2060,[],[]),1308,Ckc63,[16],0),
  (19,(Ckl2060,[Cke308],[]),1307,Ckc63,[20,17],0),
  (22,(Ckl2061,[],[]),1,Ckc7,[19],0),
  (23,(Ckl2062,[Cke74],[]),1324,Ckc7,[],0),
  (23,(Ckl2061,[Cke835],[]),0,Ckc7,[],0),
  (24,(Ckl2063,[],[]),1306,Ckc63,[21],0),
  (27,(Ckl2060,[],[]),1304,Ckc63,[22],0),
  (30,(Ckl2064,[],[]),1316,Ckc63,[4],0),
  (33,(Ckl2065,[],[]),3,Ckc7,[24],0),
  (34,(Ckl2065,[Cke51],[]),2,Ckc7,[],0)]
def CNC262 : List (List ND) := [CNC262_0]
theorem CKC262 : chkS prot SMsC SMC262 [] CNC262 = true := by decide +kernel
-- OneSided.rests [(1, 1), (-2147483648, 2147483647), (-2147483648, 2147483647), (-2147483648, 2147483647)]
def Ckl2066 : AL := [some Cka161,some Cka62,some Cka34,some Cka34]
def Ckl2067 : AL := [some Cka161,some Cka62,some Cka62,some Cka34]
def Ckl2068 : AL := [some Cka161,some Cka62,some Cka62,some Cka238]
def Cke848 : SE := (Cka328,(2,1,14,0,0))
def Cke849 : SE := (Cka238,(1,3,0,0,0))
def Ckl2069 : AL := [some Cka161,some Cka62,some Cka62,some Cka49]
def Ckl2070 : AL := [some Cka161,some Cka62,some Cka62,some Cka142]
def CNC263_0 : List ND := [(0,(Ckl1302,[],[]),45,Ckc7,[1],0),
  (1,(Ckl1302,[Cke288],[]),44,Ckc7,[2],0),
  (2,(Ckl1302,[Cke156,Cke288],[]),43,Ckc7,[4,3],243),
  (5,(Ckl1302,[Cke7],[]),42,Ckc7,[16],0),
  (5,(Ckl2066,[Cke6],[]),41,Ckc7,[5],0),
  (8,(Ckl2066,[],[]),40,Ckc7,[6],0),
  (9,(Ckl2066,[Cke288],[]),39,Ckc7,[7],0),
  (10,(Ckl2066,[Cke209,Cke288],[]),38,Ckc7,[9,8],243),
  (13,(Ckl2066,[Cke7],[]),37,Ckc7,[16],0),
  (13,(Ckl2067,[Cke6],[]),36,Ckc7,[10],0),
  (16,(Ckl2067,[],[]),35,Ckc7,[11],0),
  (17,(Ckl2067,[Cke237],[]),34,Ckc7,[12],0),
  (18,(Ckl2067,[Cke270,Cke237],[]),33,Ckc7,[16,13],0),
  (21,(Ckl2067,[],[]),32,Ckc7,[14],0),
  (22,(Ckl2067,[Cke210],[]),31,Ckc7,[15],0),
  (23,(Ckl2067,[Cke51,Cke210],[]),30,Ckc7,[18,16],0),
  (26,(Ckl1302,[],[]),1,Ckc7,[17],0),
  (27,(Ckl1302,[Cke51],[]),0,Ckc7,[],0),
  (28,(Ckl2068,[],[]),29,Ckc7,[19],0),
  (29,(Ckl2068,[Cke288],[]),28,Ckc7,[20],0),
  (32,(Ckl2068,[Cke848],[]),27,Ckc7,[21],0),
  (33,(Ckl2068,[Cke288,Cke848],[]),26,Ckc7,[23,22],0),
  (36,(Ckl2068,[Cke290,Cke848],[]),19,Ckc7,[24],0),
  (36,(Ckl2068,[Cke291,Cke848],[]),25,Ckc7,[25],0),
  (37,(Ckl2068,[Cke288,Cke290,Cke848],[]),18,Ckc7,[26],0),
  (37,(Ckl2068,[Cke288,Cke291,Cke848],[]),24,Ckc7,[27],0),
  (40,(Ckl2068,[Cke298,Cke290,Cke848],[]),17,Ckc7,[28],0),
  (40,(Ckl2068,[Cke298,Cke291,Cke848],[]),23,Ckc7,[29],0),
  (43,(Ckl2068,[Cke284,Cke290,Cke848],[]),16,Ckc7,[30],0),
  (43,(Ckl2068,[Cke284,Cke291,Cke848],[]),22,Ckc7,[31],0),
  (44,(Ckl2068,[Cke237,Cke284,Cke290,Cke848],[]),15,Ckc7,[32],0),
  (44,(Ckl2068,[Cke237,Cke284,Cke291,Cke848],[]),21,Ckc7,[33],0),
  (45,(Ckl2068,[Cke270,Cke237,Cke284,Cke290,Cke848],[]),14,Ckc7,[34],259),
  (45,(Ckl2068,[Cke270,Cke237,Cke284,Cke291,Cke848],[]),20,Ckc7,[34],252),
  (48,(Ckl2068,[],[]),13,Ckc7,[35],0),
  (49,(Ckl2068,[Cke849],[]),12,Ckc7,[36],0),
  (50,(Ckl2068,[Cke51,Cke849],[]),11,Ckc7,[41,37],0),
  (53,(Ckl2069,[],[]),6,Ckc7,[38],0),
  (54,(Ckl2069,[Cke288],[]),5,Ckc7,[39],0),
  (57,(Ckl2069,[Cke848],[]),4,Ckc7,[40],261),
  (60,(Ckl2069,[Cke184],[]),3,Ckc7,[45],0),
  (63,(Ckl2070,[],[]),10,Ckc7,[42],0),
  (64,(Ckl2070,[Cke288],[]),9,Ckc7,[43],0),
  (67,(Ckl2070,[Cke848],[]),8,Ckc7,[44],0),
  (68,(Ckl2070,[Cke233,Cke848],[]),7,Ckc7,[45],262),
  (71,(Ckl2068,[Cke184],[]),2,Ckc7,[],0)]
def CNC263 : List (List ND) := [CNC263_0]
theorem CKC263 : chkS prot SMsC SMC263 [] CNC263 = true := by decide +kernel
-- OneSided$Web.growCaught [(80, 80), (5, 5), (-2147483648, 2147483647), (-2147483648, 2147483647)]
def Cka341 : AV := (2,80,80,0)
def Ckl2071 : AL := [some Cka341,some Cka50,some Cka34,some Cka34,none,none,none,none]
def Ckl2072 : AL := [some Cka341,some Cka50,some Cka34,some Cka34,some Cka92,none,none,none]
def Ckc64 : List Int := [0,0,0,0,-273,0,0,0]
def Ckl2073 : AL := [some Cka341,some Cka50,some Cka34,some Cka34,some Cka7,none,none,none]
def Ckl2074 : AL := [some Cka341,some Cka50,some Cka34,some Cka34,some Cka77,none,none,none]
def Ckl2075 : AL := [some Cka341,some Cka50,some Cka34,some Cka34,some Cka77,some Cka147,none,none]
def Ckl2076 : AL := [some Cka341,some Cka50,some Cka34,some Cka34,some Cka77,some Cka147,some Cka49,none]
def Ckl2077 : AL := [some Cka341,some Cka50,some Cka34,some Cka34,some Cka77,some Cka147,some Cka34,some Cka92]
def Ckc65 : List Int := [0,0,0,0,-273,0,0,-22]
def Ckl2078 : AL := [some Cka341,some Cka50,some Cka34,some Cka34,some Cka7,some Cka147,some Cka49,some Cka7]
def Ckl2079 : AL := [some Cka341,some Cka50,some Cka34,some Cka34,some Cka77,some Cka147,some Cka34,some Cka77]
def Cke850 : SE := (Cka49,(1,6,0,0,0))
def Cke851 : SE := (Cka341,(1,0,0,0,0))
def Cka342 : AV := (2,82,82,0)
def Cke852 : SE := (Cka342,(2,80,1,0,0))
def Cke853 : SE := (Cka34,(2,82,0,0,0))
def Ckl2080 : AL := [some Cka341,some Cka50,some Cka34,some Cka34,some Cka77,some Cka147,some Cka34,some Cka240]
def Ckl2081 : AL := [some Cka341,some Cka50,some Cka34,some Cka34,some Cka77,some Cka147,some Cka34,some Cka59]
def Cka343 : AV := (2,83,83,0)
def Cke854 : SE := (Cka343,(2,80,2,0,0))
def Ckl2082 : AL := [some Cka341,some Cka50,some Cka34,some Cka34,some Cka7,some Cka147,some Cka34,some Cka59]
def Ckl2083 : AL := [some Cka341,some Cka50,some Cka34,some Cka34,some Cka240,some Cka147,some Cka34,some Cka59]
def Ckl2084 : AL := [some Cka341,some Cka50,some Cka34,some Cka34,some Cka59,none,none,none]
def Ckl2085 : AL := [some Cka341,some Cka50,some Cka34,some Cka34,some Cka96,some Cka92,none,none]
def Ckc66 : List Int := [0,0,0,0,0,-55,0,0]
def Ckl2086 : AL := [some Cka341,some Cka50,some Cka34,some Cka34,some Cka7,some Cka7,none,none]
def Ckl2087 : AL := [some Cka341,some Cka50,some Cka34,some Cka34,some Cka96,some Cka77,none,none]
def Cka344 : AV := (2,81,81,0)
def Cke855 : SE := (Cka344,(2,80,0,0,0))
def Cke856 : SE := (Cka34,(2,81,0,0,0))
def Ckl2088 : AL := [some Cka341,some Cka50,some Cka34,some Cka34,some Cka96,some Cka77,some Cka34,none]
def Ckl2089 : AL := [some Cka341,some Cka50,some Cka34,some Cka34,some Cka7,some Cka7,some Cka34,none]
def Ckf327 : FA := [(5,0,Cka59),(82,0,Cka34)]
def Cke857 : SE := (Cka34,(2,83,0,0,0))
def Ckf328 : FA := [(5,0,Cka59),(81,0,Cka34),(82,0,Cka34),(83,0,Cka34)]
def Ckl2090 : AL := [some Cka341,some Cka50,some Cka34,some Cka34,some Cka96,some Cka7,some Cka34,none]
def Ckl2091 : AL := [some Cka341,some Cka50,some Cka34,some Cka34,some Cka96,some Cka240,some Cka34,none]
def Ckl2092 : AL := [some Cka341,some Cka50,some Cka34,some Cka34,some Cka96,some Cka59,none,none]
def CNC264_0 : List ND := [(0,(Ckl2071,[],[]),3615,Ckc13,[1],0),
  (1,(Ckl2071,[Cke7],[]),3614,Ckc13,[2],0),
  (3,(Ckl2072,[],[]),3612,Ckc64,[4],0),
  (5,(Ckl2073,[Cke166],[]),3618,Ckc13,[5],0),
  (5,(Ckl2072,[Cke649],[]),3611,Ckc64,[6],0),
  (6,(Ckl2073,[Cke86,Cke166],[]),3617,Ckc13,[7],0),
  (6,(Ckl2072,[Cke86,Cke649],[]),3610,Ckc64,[8],0),
  (9,(Ckl2073,[Cke140,Cke166],[]),3616,Ckc13,[9],0),
  (9,(Ckl2072,[Cke140,Cke649],[]),3609,Ckc64,[89,9],0),
  (12,(Ckl2074,[],[]),3608,Ckc64,[10],0),
  (13,(Ckl2074,[Cke6],[]),3607,Ckc64,[12],0),
  (15,(Ckl2073,[Cke166,Cke6],Ckf139),3627,Ckc13,[13],0),
  (15,(Ckl2074,[Cke355,Cke6],[]),3606,Ckc64,[14],0),
  (16,(Ckl2073,[Cke6],Ckf139),3626,Ckc13,[15],0),
  (16,(Ckl2074,[Cke351],[]),3605,Ckc64,[16],0),
  (17,(Ckl2073,[Cke86,Cke6],Ckf139),3625,Ckc13,[17],0),
  (17,(Ckl2074,[Cke86,Cke351],[]),3604,Ckc64,[18],0),
  (18,(Ckl2073,[Cke209,Cke86,Cke6],Ckf139),3624,Ckc13,[19],0),
  (18,(Ckl2074,[Cke209,Cke86,Cke351],[]),3603,Ckc64,[20],0),
  (19,(Ckl2073,[Cke210,Cke209,Cke86,Cke6],Ckf139),3623,Ckc13,[21],0),
  (19,(Ckl2074,[Cke210,Cke209,Cke86,Cke351],[]),3602,Ckc64,[22],0),
  (20,(Ckl2073,[Cke6,Cke210,Cke209,Cke86,Cke6],Ckf139),3622,Ckc13,[23],0),
  (20,(Ckl2074,[Cke6,Cke210,Cke209,Cke86,Cke351],[]),3601,Ckc64,[24],0),
  (22,(Ckl2073,[Cke166,Cke6,Cke210,Cke209,Cke86,Cke6],Ckf139),3621,Ckc13,[25],0),
  (22,(Ckl2074,[Cke355,Cke6,Cke210,Cke209,Cke86,Cke351],[]),3600,Ckc64,[26],0),
  (23,(Ckl2073,[Cke6,Cke210,Cke209,Cke86,Cke6],Ckf139),3620,Ckc13,[27],163),
  (23,(Ckl2074,[Cke351,Cke210,Cke209,Cke86,Cke351],[]),3599,Ckc64,[28],163),
  (26,(Ckl2073,[Cke244,Cke6],Ckf139),3619,Ckc13,[29],0),
  (26,(Ckl2074,[Cke244,Cke351],[]),3598,Ckc64,[29],0),
  (27,(Ckl2074,[Cke244],[]),3597,Ckc64,[30],0),
  (29,(Ckl2075,[],[]),3596,Ckc64,[31],0),
  (30,(Ckl2075,[Cke51],[]),3595,Ckc64,[32],0),
  (32,(Ckl2076,[],[]),3594,Ckc64,[33],0),
  (33,(Ckl2076,[Cke7],[]),3593,Ckc64,[34],0),
  (35,(Ckl2077,[],[]),3591,Ckc65,[36],0),
  (37,(Ckl2078,[Cke386],Ckf139),3630,Ckc13,[37],0),
  (37,(Ckl2077,[Cke524],[]),3590,Ckc65,[38],0),
  (38,(Ckl2078,[Cke86,Cke386],Ckf139),3629,Ckc13,[39],0),
  (38,(Ckl2077,[Cke86,Cke524],[]),3589,Ckc65,[40],0),
  (41,(Ckl2078,[Cke140,Cke386],Ckf139),3628,Ckc13,[41],0),
  (41,(Ckl2077,[Cke140,Cke524],[]),3588,Ckc65,[72,41],0),
  (44,(Ckl2079,[],[]),3587,Ckc65,[43],0),
  (46,(Ckl2078,[Cke850],Ckf139),3643,Ckc13,[44],0),
  (46,(Ckl2079,[Cke353],[]),3586,Ckc65,[45],0),
  (48,(Ckl2078,[Cke516,Cke850],Ckf139),3642,Ckc13,[46],0),
  (48,(Ckl2079,[Cke516,Cke353],[]),3585,Ckc65,[47],0),
  (50,(Ckl2078,[Cke386,Cke516,Cke850],Ckf139),3641,Ckc13,[48],0),
  (50,(Ckl2079,[Cke525,Cke516,Cke353],[]),3584,Ckc65,[49],0),
  (51,(Ckl2078,[Cke244,Cke850],Ckf139),3640,Ckc13,[50],0),
  (51,(Ckl2079,[Cke244,Cke353],[]),3583,Ckc65,[51],0),
  (52,(Ckl2078,[Cke6,Cke244,Cke850],Ckf139),3639,Ckc13,[52],0),
  (52,(Ckl2079,[Cke6,Cke244,Cke353],[]),3582,Ckc65,[53],0),
  (53,(Ckl2078,[Cke242,Cke850],Ckf139),3638,Ckc13,[64,54],0),
  (53,(Ckl2079,[Cke242,Cke353],[]),3581,Ckc65,[65,55],0),
  (56,(Ckl2078,[Cke850],Ckf139),3637,Ckc13,[56],0),
  (56,(Ckl2079,[Cke353],[]),3578,Ckc65,[57],0),
  (57,(Ckl2078,[Cke851,Cke850],Ckf139),3636,Ckc13,[58],0),
  (57,(Ckl2079,[Cke851,Cke353],[]),3577,Ckc65,[59],0),
  (60,(Ckl2078,[Cke852,Cke850],Ckf139),3635,Ckc13,[60],0),
  (60,(Ckl2079,[Cke852,Cke353],[]),3576,Ckc65,[61],0),
  (62,(Ckl2078,[Cke386,Cke852,Cke850],Ckf139),3634,Ckc13,[62],0),
  (62,(Ckl2079,[Cke525,Cke852,Cke353],[]),3575,Ckc65,[63],0),
  (63,(Ckl2078,[Cke853,Cke850],Ckf139),3633,Ckc13,[67],0),
  (63,(Ckl2079,[Cke184,Cke353],[]),3574,Ckc65,[68],0)]
def CNC264_1 : List ND := [(66,(Ckl2078,[Cke850],Ckf139),3632,Ckc13,[66],0),
  (66,(Ckl2079,[Cke353],[]),3580,Ckc65,[67],0),
  (67,(Ckl2078,[Cke51,Cke850],Ckf139),3631,Ckc13,[69],0),
  (67,(Ckl2079,[Cke184,Cke353],[]),3579,Ckc65,[69],0),
  (67,(Ckl2079,[Cke184,Cke353],[]),3573,Ckc65,[69],0),
  (68,(Ckl2079,[Cke184],[]),3572,Ckc65,[70],0),
  (70,(Ckl2079,[],[]),3571,Ckc65,[71],0),
  (73,(Ckl2080,[],[]),3592,Ckc65,[34],0),
  (76,(Ckl2081,[],[]),3350,Ckc64,[73],0),
  (77,(Ckl2081,[Cke851],[]),3349,Ckc64,[74],0),
  (80,(Ckl2081,[Cke854],[]),3348,Ckc64,[76],0),
  (82,(Ckl2082,[Cke166,Cke854],[]),3649,Ckc13,[77],0),
  (82,(Ckl2081,[Cke355,Cke854],[]),3347,Ckc64,[78],0),
  (84,(Ckl2082,[Cke353,Cke166,Cke854],[]),3648,Ckc13,[79],0),
  (84,(Ckl2081,[Cke353,Cke355,Cke854],[]),3346,Ckc64,[80],0),
  (85,(Ckl2082,[Cke6,Cke353,Cke166,Cke854],[]),3647,Ckc13,[81],0),
  (85,(Ckl2081,[Cke6,Cke353,Cke355,Cke854],[]),3345,Ckc64,[82],0),
  (87,(Ckl2082,[Cke166,Cke6,Cke353,Cke166,Cke854],[]),3646,Ckc13,[83],0),
  (87,(Ckl2081,[Cke355,Cke6,Cke353,Cke355,Cke854],[]),3344,Ckc64,[84],0),
  (88,(Ckl2082,[Cke6,Cke353,Cke166,Cke854],[]),3645,Ckc13,[85],0),
  (88,(Ckl2081,[Cke351,Cke353,Cke355,Cke854],[]),3343,Ckc64,[86],0),
  (89,(Ckl2082,[Cke184,Cke166,Cke854],[]),3644,Ckc13,[87],0),
  (89,(Ckl2081,[Cke184,Cke355,Cke854],[]),3342,Ckc64,[87],0),
  (90,(Ckl2081,[],[]),3341,Ckc64,[88],0),
  (93,(Ckl2083,[],[]),3613,Ckc64,[2],0),
  (96,(Ckl2084,[],[]),610,Ckc13,[90],0),
  (97,(Ckl2084,[Cke7],[]),609,Ckc13,[91],0),
  (99,(Ckl2073,[],[]),608,Ckc13,[92],0),
  (100,(Ckl2073,[Cke7],[]),607,Ckc13,[93],0),
  (102,(Ckl2085,[],[]),605,Ckc66,[95],0),
  (104,(Ckl2086,[Cke216],[]),3652,Ckc13,[96],0),
  (104,(Ckl2085,[Cke520],[]),604,Ckc66,[97],0),
  (105,(Ckl2086,[Cke86,Cke216],[]),3651,Ckc13,[98],0),
  (105,(Ckl2085,[Cke86,Cke520],[]),603,Ckc66,[99],0),
  (108,(Ckl2086,[Cke140,Cke216],[]),3650,Ckc13,[100],0),
  (108,(Ckl2085,[Cke140,Cke520],[]),602,Ckc66,[180,100],0),
  (111,(Ckl2087,[],[]),601,Ckc66,[101],0),
  (112,(Ckl2087,[Cke851],[]),600,Ckc66,[102],0),
  (115,(Ckl2087,[Cke855],[]),599,Ckc66,[104],0),
  (117,(Ckl2086,[Cke216,Cke855],Ckf139),3653,Ckc13,[105],0),
  (117,(Ckl2087,[Cke236,Cke855],[]),598,Ckc66,[105],0),
  (118,(Ckl2087,[Cke184],[]),597,Ckc66,[106],0),
  (119,(Ckl2087,[Cke86,Cke184],[]),596,Ckc66,[107],0),
  (120,(Ckl2087,[Cke210,Cke86,Cke184],[]),595,Ckc66,[108],0),
  (121,(Ckl2087,[Cke209,Cke210,Cke86,Cke184],[]),594,Ckc66,[109],0),
  (122,(Ckl2087,[Cke851,Cke209,Cke210,Cke86,Cke184],[]),593,Ckc66,[110],0),
  (125,(Ckl2087,[Cke855,Cke209,Cke210,Cke86,Cke184],[]),592,Ckc66,[112],0),
  (127,(Ckl2086,[Cke216,Cke855,Cke209,Cke210,Cke86,Cke856],Ckf139),3654,Ckc13,[113],0),
  (127,(Ckl2087,[Cke236,Cke855,Cke209,Cke210,Cke86,Cke184],[]),591,Ckc66,[113],0),
  (128,(Ckl2087,[Cke184,Cke209,Cke210,Cke86,Cke184],[]),590,Ckc66,[114],163),
  (131,(Ckl2087,[Cke244,Cke184],[]),589,Ckc66,[115],0),
  (132,(Ckl2087,[Cke184],[]),588,Ckc66,[116],0),
  (134,(Ckl2088,[],[]),587,Ckc66,[118],0),
  (136,(Ckl2089,[Cke166],Ckf139),3674,Ckc13,[119],0),
  (136,(Ckl2088,[Cke157],[]),586,Ckc66,[120],0),
  (138,(Ckl2089,[Cke353,Cke166],Ckf139),3673,Ckc13,[121],0),
  (138,(Ckl2088,[Cke353,Cke157],[]),585,Ckc66,[122],0),
  (139,(Ckl2089,[Cke851,Cke353,Cke166],Ckf139),3672,Ckc13,[123],0),
  (139,(Ckl2088,[Cke851,Cke353,Cke157],[]),584,Ckc66,[124],0),
  (142,(Ckl2089,[Cke852,Cke353,Cke166],Ckf139),3671,Ckc13,[125],0),
  (142,(Ckl2088,[Cke852,Cke353,Cke157],[]),583,Ckc66,[126],0),
  (144,(Ckl2089,[Cke216,Cke852,Cke353,Cke166],Ckf139),3670,Ckc13,[127],0),
  (144,(Ckl2088,[Cke236,Cke852,Cke353,Cke157],[]),582,Ckc66,[128],0),
  (145,(Ckl2089,[Cke853,Cke353,Cke166],Ckf139),3669,Ckc13,[147,129],0)]
def CNC264_2 : List ND := [(145,(Ckl2088,[Cke184,Cke353,Cke157],[]),581,Ckc66,[148,130],0),
  (148,(Ckl2089,[Cke166],Ckf327),3668,Ckc13,[131],0),
  (148,(Ckl2088,[Cke157],[]),580,Ckc66,[132],0),
  (149,(Ckl2089,[Cke851,Cke166],Ckf327),3667,Ckc13,[133],0),
  (149,(Ckl2088,[Cke851,Cke157],[]),579,Ckc66,[134],0),
  (152,(Ckl2089,[Cke854,Cke166],Ckf327),3666,Ckc13,[135],0),
  (152,(Ckl2088,[Cke854,Cke157],[]),578,Ckc66,[136],0),
  (154,(Ckl2089,[Cke216,Cke854,Cke166],Ckf327),3665,Ckc13,[137],0),
  (154,(Ckl2088,[Cke236,Cke854,Cke157],[]),577,Ckc66,[138],0),
  (155,(Ckl2089,[Cke857,Cke166],Ckf327),3664,Ckc13,[139],0),
  (155,(Ckl2088,[Cke184,Cke157],[]),576,Ckc66,[140],0),
  (156,(Ckl2089,[Cke851,Cke857,Cke166],Ckf327),3663,Ckc13,[141],0),
  (156,(Ckl2088,[Cke851,Cke184,Cke157],[]),575,Ckc66,[142],0),
  (159,(Ckl2089,[Cke855,Cke857,Cke166],Ckf327),3662,Ckc13,[143],0),
  (159,(Ckl2088,[Cke855,Cke184,Cke157],[]),574,Ckc66,[144],0),
  (161,(Ckl2089,[Cke216,Cke855,Cke857,Cke166],Ckf327),3661,Ckc13,[145],0),
  (161,(Ckl2088,[Cke236,Cke855,Cke184,Cke157],[]),573,Ckc66,[146],0),
  (162,(Ckl2089,[Cke856,Cke857,Cke166],Ckf327),3660,Ckc13,[151,147],0),
  (162,(Ckl2088,[Cke184,Cke184,Cke157],[]),572,Ckc66,[152,148],0),
  (165,(Ckl2089,[Cke166],Ckf327),3657,Ckc13,[149],0),
  (165,(Ckl2088,[Cke157],[]),569,Ckc66,[150],0),
  (166,(Ckl2089,[Cke6,Cke166],Ckf327),3656,Ckc13,[154],0),
  (166,(Ckl2088,[Cke6,Cke157],[]),568,Ckc66,[156],0),
  (169,(Ckl2089,[Cke166],Ckf328),3659,Ckc13,[153],0),
  (169,(Ckl2088,[Cke157],[]),571,Ckc66,[155],0),
  (170,(Ckl2089,[Cke7,Cke166],Ckf328),3658,Ckc13,[157],0),
  (170,(Ckl2089,[Cke6,Cke166],Ckf327),3655,Ckc13,[157],0),
  (170,(Ckl2088,[Cke7,Cke157],[]),570,Ckc66,[157],0),
  (170,(Ckl2088,[Cke6,Cke157],[]),567,Ckc66,[157],0),
  (171,(Ckl2088,[Cke242],[]),566,Ckc66,[158],0),
  (173,(Ckl2088,[],[]),565,Ckc66,[159],0),
  (174,(Ckl2088,[Cke851],[]),564,Ckc66,[160],0),
  (177,(Ckl2088,[Cke852],[]),563,Ckc66,[162],0),
  (179,(Ckl2090,[Cke216,Cke852],Ckf327),3676,Ckc13,[163],0),
  (179,(Ckl2088,[Cke236,Cke852],[]),562,Ckc66,[164],0),
  (181,(Ckl2090,[Cke353,Cke216,Cke852],Ckf327),3675,Ckc13,[165],0),
  (181,(Ckl2088,[Cke353,Cke236,Cke852],[]),561,Ckc66,[165],0),
  (182,(Ckl2088,[],[]),560,Ckc66,[166],0),
  (183,(Ckl2088,[Cke851],[]),559,Ckc66,[167],0),
  (186,(Ckl2088,[Cke855],[]),558,Ckc66,[169],0),
  (188,(Ckl2090,[Cke216,Cke855],Ckf139),3681,Ckc13,[170],0),
  (188,(Ckl2088,[Cke236,Cke855],[]),557,Ckc66,[171],0),
  (189,(Ckl2090,[Cke851,Cke216,Cke855],Ckf139),3680,Ckc13,[172],0),
  (189,(Ckl2088,[Cke851,Cke236,Cke855],[]),556,Ckc66,[173],0),
  (192,(Ckl2090,[Cke854,Cke216,Cke855],Ckf139),3679,Ckc13,[174],0),
  (192,(Ckl2088,[Cke854,Cke236,Cke855],[]),555,Ckc66,[175],0),
  (194,(Ckl2090,[Cke216,Cke854,Cke216,Cke855],Ckf139),3678,Ckc13,[176],0),
  (194,(Ckl2088,[Cke236,Cke854,Cke236,Cke855],[]),554,Ckc66,[177],0),
  (195,(Ckl2090,[Cke857,Cke216,Cke855],Ckf139),3677,Ckc13,[178],0),
  (195,(Ckl2088,[Cke184,Cke236,Cke855],[]),553,Ckc66,[178],0),
  (196,(Ckl2088,[],[]),552,Ckc66,[179],0),
  (199,(Ckl2091,[],[]),606,Ckc66,[93],0),
  (202,(Ckl2092,[],[]),1,Ckc13,[181],0),
  (204,(Ckl2092,[Cke157],[]),0,Ckc13,[],0)]
def CNC264 : List (List ND) := [CNC264_0, CNC264_1, CNC264_2]
theorem CKC264 : chkS prot SMsC SMC264 [] CNC264 = true := by decide +kernel
-- OneSided$Web.movesToCatch [(80, 80), (5, 5), (-2147483648, 2147483647), (-2147483648, 2147483647), (0, 9), (0, 9)]
def Ckl2093 : AL := [some Cka341,some Cka50,some Cka34,some Cka34,some Cka77,some Cka77,none]
def Ckl2094 : AL := [some Cka341,some Cka50,some Cka34,some Cka34,some Cka77,some Cka77,some Cka92]
def Ckc67 : List Int := [0,0,0,0,0,0,-19]
def Ckl2095 : AL := [some Cka341,some Cka50,some Cka34,some Cka34,some Cka77,some Cka77,some Cka7]
def Ckl2096 : AL := [some Cka341,some Cka50,some Cka34,some Cka34,some Cka77,some Cka77,some Cka77]
def Ckf329 : FA := [(81,0,Cka6)]
def Ckl2097 : AL := [some Cka341,some Cka50,some Cka34,some Cka34,some Cka77,some Cka77,some Cka240]
def Ckl2098 : AL := [some Cka341,some Cka50,some Cka34,some Cka34,some Cka77,some Cka77,some Cka46]
def Cka345 : AV := (0,0,249,1)
def Ckl2099 : AL := [some Cka341,some Cka50,some Cka34,some Cka34,some Cka77,some Cka77,some Cka345]
def Ckc68 : List Int := [0,0,0,0,0,0,-20]
def Cke858 : SE := (Cka345,(1,6,0,0,0))
def Cka346 : AV := (0,202,202,0)
def Cke859 : SE := (Cka346,pv0)
def Cka347 : AV := (0,0,202,1)
def Ckl2100 : AL := [some Cka341,some Cka50,some Cka34,some Cka34,some Cka77,some Cka77,some Cka347]
def Cke860 : SE := (Cka347,(1,6,0,0,0))
def Cka348 : AV := (0,1,203,1)
def Ckl2101 : AL := [some Cka341,some Cka50,some Cka34,some Cka34,some Cka77,some Cka77,some Cka348]
def Cka349 : AV := (0,203,249,1)
def Ckl2102 : AL := [some Cka341,some Cka50,some Cka34,some Cka34,some Cka77,some Cka77,some Cka349]
def CNC265_0 : List ND := [(0,(Ckl2093,[],[]),5218,Ckc16,[1],0),
  (1,(Ckl2093,[Cke7],[]),5217,Ckc16,[2],0),
  (3,(Ckl2094,[],[]),5215,Ckc67,[4],0),
  (5,(Ckl2095,[Cke212],[]),5220,Ckc16,[5],0),
  (5,(Ckl2094,[Cke671],[]),5214,Ckc67,[6],0),
  (7,(Ckl2095,[Cke48,Cke212],[]),5219,Ckc16,[7],0),
  (7,(Ckl2094,[Cke48,Cke671],[]),5213,Ckc67,[31,7],0),
  (10,(Ckl2096,[],[]),5212,Ckc67,[8],0),
  (11,(Ckl2096,[Cke851],[]),5211,Ckc67,[9],0),
  (14,(Ckl2096,[Cke855],[]),5210,Ckc67,[11],0),
  (16,(Ckl2095,[Cke212,Cke855],[]),5224,Ckc16,[12],0),
  (16,(Ckl2096,[Cke672,Cke855],[]),5209,Ckc67,[13],0),
  (17,(Ckl2095,[Cke6,Cke212,Cke855],[]),5223,Ckc16,[14],0),
  (17,(Ckl2096,[Cke6,Cke672,Cke855],[]),5208,Ckc67,[15],0),
  (19,(Ckl2095,[Cke212,Cke6,Cke212,Cke855],[]),5222,Ckc16,[16],0),
  (19,(Ckl2096,[Cke672,Cke6,Cke672,Cke855],[]),5207,Ckc67,[17],0),
  (20,(Ckl2095,[Cke6,Cke212,Cke855],[]),5221,Ckc16,[18],0),
  (20,(Ckl2096,[Cke351,Cke672,Cke855],[]),5206,Ckc67,[18],0),
  (21,(Ckl2096,[],[]),5205,Ckc67,[19],0),
  (22,(Ckl2096,[Cke851],[]),5204,Ckc67,[20],0),
  (25,(Ckl2096,[Cke852],[]),5203,Ckc67,[22],0),
  (27,(Ckl2095,[Cke212,Cke852],Ckf329),5228,Ckc16,[23],0),
  (27,(Ckl2096,[Cke672,Cke852],[]),5202,Ckc67,[24],0),
  (28,(Ckl2095,[Cke6,Cke212,Cke852],Ckf329),5227,Ckc16,[25],0),
  (28,(Ckl2096,[Cke6,Cke672,Cke852],[]),5201,Ckc67,[26],0),
  (30,(Ckl2095,[Cke212,Cke6,Cke212,Cke852],Ckf329),5226,Ckc16,[27],0),
  (30,(Ckl2096,[Cke672,Cke6,Cke672,Cke852],[]),5200,Ckc67,[28],0),
  (31,(Ckl2095,[Cke6,Cke212,Cke852],Ckf329),5225,Ckc16,[29],0),
  (31,(Ckl2096,[Cke351,Cke672,Cke852],[]),5199,Ckc67,[29],0),
  (32,(Ckl2096,[],[]),5198,Ckc67,[30],0),
  (35,(Ckl2097,[],[]),5216,Ckc67,[2],0),
  (38,(Ckl2098,[],[]),5007,Ckc16,[32],0),
  (39,(Ckl2098,[Cke7],[]),5006,Ckc16,[33],0),
  (41,(Ckl2099,[],[]),5004,Ckc68,[35],0),
  (43,(Ckl2095,[Cke212],[]),5230,Ckc16,[36],0),
  (43,(Ckl2099,[Cke858],[]),5003,Ckc68,[37],0),
  (46,(Ckl2095,[Cke859,Cke212],[]),5229,Ckc16,[38],0),
  (46,(Ckl2099,[Cke859,Cke858],[]),5002,Ckc68,[60,38],0),
  (49,(Ckl2100,[],[]),5001,Ckc68,[39],0),
  (50,(Ckl2100,[Cke851],[]),5000,Ckc68,[40],0),
  (53,(Ckl2100,[Cke855],[]),4999,Ckc68,[41],0),
  (55,(Ckl2100,[Cke355,Cke855],[]),4998,Ckc68,[42],0),
  (56,(Ckl2100,[Cke184],[]),4997,Ckc68,[43],0),
  (58,(Ckl2100,[Cke236,Cke184],[]),4996,Ckc68,[44],0),
  (59,(Ckl2100,[Cke184],[]),4995,Ckc68,[45],0),
  (60,(Ckl2100,[Cke6,Cke184],[]),4994,Ckc68,[46],0),
  (61,(Ckl2100,[Cke242],[]),4993,Ckc68,[50,47],0),
  (64,(Ckl2100,[],[]),3,Ckc16,[49],0),
  (66,(Ckl2095,[Cke212],[]),5231,Ckc16,[],0),
  (66,(Ckl2100,[Cke860],[]),2,Ckc16,[],0),
  (67,(Ckl2100,[],[]),4992,Ckc68,[51],0),
  (68,(Ckl2100,[Cke851],[]),4991,Ckc68,[52],0),
  (69,(Ckl2100,[Cke86,Cke851],[]),4990,Ckc68,[53],0),
  (70,(Ckl2100,[Cke209,Cke86,Cke851],[]),4989,Ckc68,[54],0),
  (71,(Ckl2100,[Cke210,Cke209,Cke86,Cke851],[]),4988,Ckc68,[55],264),
  (74,(Ckl2100,[Cke242],[]),4987,Ckc68,[58,56],0),
  (77,(Ckl2100,[],[]),5,Ckc16,[57],0),
  (78,(Ckl2100,[Cke51],[]),4,Ckc16,[],0),
  (79,(Ckl2100,[],[]),4986,Ckc68,[59],0),
  (82,(Ckl2101,[],[]),5005,Ckc68,[33],0),
  (85,(Ckl2102,[],[]),1,Ckc16,[61],0),
  (86,(Ckl2102,[Cke51],[]),0,Ckc16,[],0)]
def CNC265 : List (List ND) := [CNC265_0]
theorem CKC265 : chkS prot SMsC SMC265 [] CNC265 = true := by decide +kernel
