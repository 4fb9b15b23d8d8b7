/-! LM, by program: certificates 1 -/
-- OneSided$Plans.hourThrough
def ka61 : AV := (2,77,77,0)
def kl94 : AL := [some ka61,some ka12,some ka34,some ka0,some ka1,some ka40,none]
def ka62 : AV := (0,0,24,1)
def kf12 : FA := [(77,3,ka62)]
def ke78 : SE := (ka61,(1,0,0,0,0))
def ke79 : SE := (ka62,(2,77,3,0,0))
def kl95 : AL := [some ka61,some ka12,some ka34,some ka0,some ka1,some ka40,some ka62]
def kc7 : List Int := [0,0,0,0,0,0,-17]
def ke80 : SE := (ka62,(1,6,0,0,0))
def ke81 : SE := (ka40,(1,5,0,0,0))
def kl96 : AL := [some ka61,some ka12,some ka34,some ka0,some ka1,some ka40,some ka40]
def ke82 : SE := (ka12,(1,1,0,0,0))
def ka63 : AV := (0,0,19,1)
def ke83 : SE := (ka63,(2,77,4,0,0))
def ke84 : SE := (ka3,pv0)
def ke85 : SE := (ka40,(1,6,0,0,0))
def ka64 : AV := (0,-1,9,1)
def ke86 : SE := (ka64,pv0)
def ka65 : AV := (0,1,24,1)
def kl97 : AL := [some ka61,some ka12,some ka34,some ka0,some ka1,some ka40,some ka65]
def CN188_0 : List ND := [(0,(kl94,[],kf12),431,kc5,[1],0),
  (1,(kl94,[ke78],kf12),430,kc5,[2],0),
  (4,(kl94,[ke79],kf12),429,kc5,[3],0),
  (6,(kl95,[],kf12),427,kc7,[4],0),
  (8,(kl95,[ke80],kf12),426,kc7,[5],0),
  (10,(kl95,[ke81,ke80],kf12),425,kc7,[22,6],0),
  (13,(kl96,[],kf12),424,kc7,[7],0),
  (14,(kl96,[ke82],kf12),423,kc7,[8],0),
  (16,(kl96,[ke71,ke82],kf12),422,kc7,[9],0),
  (17,(kl96,[ke56,ke71,ke82],kf12),421,kc7,[10],0),
  (18,(kl96,[ke78,ke56,ke71,ke82],kf12),420,kc7,[11],0),
  (21,(kl96,[ke83,ke56,ke71,ke82],kf12),419,kc7,[12],0),
  (22,(kl96,[ke84,ke83,ke56,ke71,ke82],kf12),418,kc7,[13],0),
  (23,(kl96,[ke54,ke56,ke71,ke82],kf12),417,kc7,[14],0),
  (25,(kl96,[ke85,ke54,ke56,ke71,ke82],kf12),416,kc7,[15],0),
  (26,(kl96,[ke3,ke85,ke54,ke56,ke71,ke82],kf12),415,kc7,[16],152),
  (29,(kl96,[ke86],kf12),414,kc7,[17],0),
  (30,(kl96,[ke48,ke86],kf12),413,kc7,[20,18],0),
  (33,(kl96,[],kf12),3,kc5,[19],0),
  (35,(kl96,[ke85],kf12),2,kc5,[],0),
  (36,(kl96,[],kf12),412,kc7,[21],0),
  (39,(kl97,[],kf12),428,kc7,[3],0),
  (42,(kl97,[],kf12),1,kc5,[23],0),
  (43,(kl97,[ke48],kf12),0,kc5,[],0)]
def CN188 : List (List ND) := [CN188_0]
theorem CK188 : chkS prot SMs SM188 [] CN188 = true := by decide +kernel
-- OneSided$Plans.hourThrough
def kl98 : AL := [some ka61,some ka12,some ka34,some ka0,some ka47,some ka40,none]
def kl99 : AL := [some ka61,some ka12,some ka34,some ka0,some ka47,some ka40,some ka62]
def kl100 : AL := [some ka61,some ka12,some ka34,some ka0,some ka47,some ka40,some ka40]
def ke87 : SE := (ka47,(1,4,0,0,0))
def kl101 : AL := [some ka61,some ka12,some ka34,some ka0,some ka47,some ka40,some ka65]
def CN190_0 : List ND := [(0,(kl98,[],kf12),431,kc5,[1],0),
  (1,(kl98,[ke78],kf12),430,kc5,[2],0),
  (4,(kl98,[ke79],kf12),429,kc5,[3],0),
  (6,(kl99,[],kf12),427,kc7,[4],0),
  (8,(kl99,[ke80],kf12),426,kc7,[5],0),
  (10,(kl99,[ke81,ke80],kf12),425,kc7,[22,6],0),
  (13,(kl100,[],kf12),424,kc7,[7],0),
  (14,(kl100,[ke82],kf12),423,kc7,[8],0),
  (16,(kl100,[ke87,ke82],kf12),422,kc7,[9],0),
  (17,(kl100,[ke56,ke87,ke82],kf12),421,kc7,[10],0),
  (18,(kl100,[ke78,ke56,ke87,ke82],kf12),420,kc7,[11],0),
  (21,(kl100,[ke83,ke56,ke87,ke82],kf12),419,kc7,[12],0),
  (22,(kl100,[ke84,ke83,ke56,ke87,ke82],kf12),418,kc7,[13],0),
  (23,(kl100,[ke54,ke56,ke87,ke82],kf12),417,kc7,[14],0),
  (25,(kl100,[ke85,ke54,ke56,ke87,ke82],kf12),416,kc7,[15],0),
  (26,(kl100,[ke3,ke85,ke54,ke56,ke87,ke82],kf12),415,kc7,[16],152),
  (29,(kl100,[ke86],kf12),414,kc7,[17],0),
  (30,(kl100,[ke48,ke86],kf12),413,kc7,[20,18],0),
  (33,(kl100,[],kf12),3,kc5,[19],0),
  (35,(kl100,[ke85],kf12),2,kc5,[],0),
  (36,(kl100,[],kf12),412,kc7,[21],0),
  (39,(kl101,[],kf12),428,kc7,[3],0),
  (42,(kl101,[],kf12),1,kc5,[23],0),
  (43,(kl101,[ke48],kf12),0,kc5,[],0)]
def CN190 : List (List ND) := [CN190_0]
theorem CK190 : chkS prot SMs SM190 [] CN190 = true := by decide +kernel
-- OneSided$Plans.nextDoor
def ka66 : AV := (2,26,31,1)
def kl102 : AL := [some ka61,some ka12,some ka66,some ka0,some ka40,none,none,none]
def kl103 : AL := [some ka61,some ka12,some ka66,some ka0,some ka40,some ka57,none,none]
def kc8 : List Int := [0,0,0,0,0,-49,0,0]
def kl104 : AL := [some ka61,some ka12,some ka66,some ka0,some ka40,some ka1,none,none]
def ke88 : SE := (ka57,(1,5,0,0,0))
def kl105 : AL := [some ka61,some ka12,some ka66,some ka0,some ka40,some ka47,none,none]
def kf13 : FA := [(5,2,ka56),(77,3,ka62)]
def ke89 : SE := (ka66,(1,2,0,0,0))
def ke90 : SE := (ka40,(1,4,0,0,0))
def ka67 : AV := (0,-1,23,1)
def ke91 : SE := (ka67,pv0)
def kl106 : AL := [some ka61,some ka12,some ka66,some ka0,some ka40,some ka47,some ka67,none]
def ke92 : SE := (ka67,(1,6,0,0,0))
def kl107 : AL := [some ka61,some ka12,some ka66,some ka0,some ka40,some ka47,some ka44,none]
def kl108 : AL := [some ka61,some ka12,some ka66,some ka0,some ka40,some ka47,some ka40,none]
def ke93 : SE := (ka65,pv0)
def ka68 : AV := (0,20,20,0)
def ke94 : SE := (ka68,pv0)
def ka69 : AV := (0,20,480,20)
def ke95 : SE := (ka69,pv0)
def kl109 : AL := [some ka61,some ka12,some ka66,some ka0,some ka40,some ka1,some ka40,none]
def ke96 : SE := (ka63,pv0)
def ka70 : AV := (0,20,499,1)
def ke97 : SE := (ka70,pv0)
def kl110 : AL := [some ka61,some ka12,some ka66,some ka0,some ka40,some ka47,some ka40,some ka70]
def ka71 : AV := (2,79,79,0)
def ke98 : SE := (ka71,(2,77,2,0,0))
def ke99 : SE := (ka70,(1,7,0,0,0))
def ka72 : AV := (0,0,480,20)
def ke100 : SE := (ka72,pv0)
def ka73 : AV := (0,0,499,1)
def ke101 : SE := (ka73,pv0)
def kl111 : AL := [some ka61,some ka12,some ka66,some ka0,some ka40,some ka1,some ka40,some ka70]
def kl112 : AL := [some ka61,some ka12,some ka66,some ka0,some ka40,some ka56,some ka67,none]
def CN192_0 : List ND := [(0,(kl102,[],kf12),740,kc2,[1],0),
  (1,(kl102,[ke6],kf12),739,kc2,[2],0),
  (3,(kl103,[],kf12),737,kc8,[4],0),
  (5,(kl104,[ke16],kf12),743,kc2,[5],0),
  (5,(kl103,[ke88],kf12),736,kc8,[6],0),
  (6,(kl104,[ke82,ke16],kf12),742,kc2,[7],0),
  (6,(kl103,[ke82,ke88],kf12),735,kc8,[8],0),
  (9,(kl104,[ke66,ke16],kf12),741,kc2,[60,9],0),
  (9,(kl103,[ke66,ke88],kf12),734,kc8,[60,9],0),
  (12,(kl105,[],kf13),733,kc8,[10],0),
  (13,(kl105,[ke78],kf13),732,kc8,[11],0),
  (14,(kl105,[ke82,ke78],kf13),731,kc8,[12],0),
  (15,(kl105,[ke89,ke82,ke78],kf13),730,kc8,[13],0),
  (18,(kl105,[ke34,ke82,ke78],kf13),729,kc8,[14],0),
  (19,(kl105,[ke3,ke34,ke82,ke78],kf13),728,kc8,[16],0),
  (21,(kl104,[ke16,ke3,ke34,ke82,ke78],kf13),745,kc2,[17],0),
  (21,(kl105,[ke70,ke3,ke34,ke82,ke78],kf13),727,kc8,[18],0),
  (23,(kl104,[ke90,ke16,ke3,ke34,ke82,ke78],kf13),744,kc2,[19],188),
  (23,(kl105,[ke90,ke70,ke3,ke34,ke82,ke78],kf13),726,kc8,[19],190),
  (26,(kl105,[ke91],kf13),725,kc8,[20],0),
  (28,(kl106,[],kf13),724,kc8,[21],0),
  (30,(kl106,[ke92],kf13),723,kc8,[22],0),
  (31,(kl106,[ke48,ke92],kf13),722,kc8,[24,23],0),
  (34,(kl107,[],kf13),691,kc8,[58],0),
  (37,(kl108,[],kf13),721,kc8,[25],0),
  (39,(kl108,[ke85],kf13),720,kc8,[26],0),
  (40,(kl108,[ke5,ke85],kf13),719,kc8,[27],0),
  (41,(kl108,[ke93],kf13),718,kc8,[28],0),
  (43,(kl108,[ke94,ke93],kf13),717,kc8,[29],0),
  (44,(kl108,[ke95],kf13),716,kc8,[30],0),
  (45,(kl108,[ke78,ke95],kf13),715,kc8,[31],0),
  (46,(kl108,[ke82,ke78,ke95],kf13),714,kc8,[32],0),
  (47,(kl108,[ke89,ke82,ke78,ke95],kf13),713,kc8,[33],0),
  (50,(kl108,[ke54,ke82,ke78,ke95],kf13),712,kc8,[35],0),
  (52,(kl109,[ke16,ke54,ke82,ke78,ke95],kf13),746,kc2,[36],189),
  (52,(kl108,[ke70,ke54,ke82,ke78,ke95],kf13),711,kc8,[36],191),
  (55,(kl108,[ke96,ke95],kf13),710,kc8,[37],0),
  (56,(kl108,[ke97],kf13),709,kc8,[38],0),
  (58,(kl110,[],kf13),708,kc8,[39],0),
  (59,(kl110,[ke78],kf13),707,kc8,[40],0),
  (62,(kl110,[ke98],kf13),706,kc8,[41],0),
  (64,(kl110,[ke99,ke98],kf13),705,kc8,[42],0),
  (65,(kl110,[ke7],kf13),704,kc8,[43],0),
  (66,(kl110,[ke78,ke7],kf13),703,kc8,[44],0),
  (69,(kl110,[ke98,ke7],kf13),702,kc8,[45],0),
  (70,(kl110,[ke78,ke98,ke7],kf13),701,kc8,[46],0),
  (73,(kl110,[ke79,ke98,ke7],kf13),700,kc8,[47],0),
  (75,(kl110,[ke94,ke79,ke98,ke7],kf13),699,kc8,[48],0),
  (76,(kl110,[ke100,ke98,ke7],kf13),698,kc8,[49],0),
  (77,(kl110,[ke78,ke100,ke98,ke7],kf13),697,kc8,[50],0),
  (80,(kl110,[ke83,ke100,ke98,ke7],kf13),696,kc8,[51],0),
  (81,(kl110,[ke101,ke98,ke7],kf13),695,kc8,[52],0),
  (82,(kl110,[ke7,ke7],kf13),694,kc8,[53],0),
  (83,(kl110,[ke5,ke7,ke7],kf13),693,kc8,[54],0),
  (84,(kl110,[ke7,ke7],kf13),692,kc8,[58,55],0),
  (87,(kl110,[],kf13),1,kc2,[57],0),
  (89,(kl111,[ke16],kf13),747,kc2,[],0),
  (89,(kl110,[ke70],kf13),0,kc2,[],0),
  (90,(kl106,[],kf13),690,kc8,[59],0),
  (93,(kl112,[],kf13),738,kc8,[2],0),
  (96,(kl103,[],kf12),3,kc2,[61],0),
  (97,(kl103,[ke48],kf12),2,kc2,[],0)]
def CN192 : List (List ND) := [CN192_0]
theorem CK192 : chkS prot SMs SM192 [] CN192 = true := by decide +kernel
-- OneSided$Plans.hourThrough
def kl113 : AL := [some ka61,some ka35,some ka34,some ka0,some ka1,some ka40,none]
def kl114 : AL := [some ka61,some ka35,some ka34,some ka0,some ka1,some ka40,some ka62]
def kl115 : AL := [some ka61,some ka35,some ka34,some ka0,some ka1,some ka40,some ka40]
def ke102 : SE := (ka35,(1,1,0,0,0))
def kl116 : AL := [some ka61,some ka35,some ka34,some ka0,some ka1,some ka40,some ka65]
def CN196_0 : List ND := [(0,(kl113,[],kf12),431,kc5,[1],0),
  (1,(kl113,[ke78],kf12),430,kc5,[2],0),
  (4,(kl113,[ke79],kf12),429,kc5,[3],0),
  (6,(kl114,[],kf12),427,kc7,[4],0),
  (8,(kl114,[ke80],kf12),426,kc7,[5],0),
  (10,(kl114,[ke81,ke80],kf12),425,kc7,[22,6],0),
  (13,(kl115,[],kf12),424,kc7,[7],0),
  (14,(kl115,[ke102],kf12),423,kc7,[8],0),
  (16,(kl115,[ke71,ke102],kf12),422,kc7,[9],0),
  (17,(kl115,[ke56,ke71,ke102],kf12),421,kc7,[10],0),
  (18,(kl115,[ke78,ke56,ke71,ke102],kf12),420,kc7,[11],0),
  (21,(kl115,[ke83,ke56,ke71,ke102],kf12),419,kc7,[12],0),
  (22,(kl115,[ke84,ke83,ke56,ke71,ke102],kf12),418,kc7,[13],0),
  (23,(kl115,[ke54,ke56,ke71,ke102],kf12),417,kc7,[14],0),
  (25,(kl115,[ke85,ke54,ke56,ke71,ke102],kf12),416,kc7,[15],0),
  (26,(kl115,[ke3,ke85,ke54,ke56,ke71,ke102],kf12),415,kc7,[16],155),
  (29,(kl115,[ke86],kf12),414,kc7,[17],0),
  (30,(kl115,[ke48,ke86],kf12),413,kc7,[20,18],0),
  (33,(kl115,[],kf12),3,kc5,[19],0),
  (35,(kl115,[ke85],kf12),2,kc5,[],0),
  (36,(kl115,[],kf12),412,kc7,[21],0),
  (39,(kl116,[],kf12),428,kc7,[3],0),
  (42,(kl116,[],kf12),1,kc5,[23],0),
  (43,(kl116,[ke48],kf12),0,kc5,[],0)]
def CN196 : List (List ND) := [CN196_0]
theorem CK196 : chkS prot SMs SM196 [] CN196 = true := by decide +kernel
-- OneSided$Plans.hourThrough
def kl117 : AL := [some ka61,some ka35,some ka34,some ka0,some ka47,some ka40,none]
def kl118 : AL := [some ka61,some ka35,some ka34,some ka0,some ka47,some ka40,some ka62]
def kl119 : AL := [some ka61,some ka35,some ka34,some ka0,some ka47,some ka40,some ka40]
def kl120 : AL := [some ka61,some ka35,some ka34,some ka0,some ka47,some ka40,some ka65]
def CN198_0 : List ND := [(0,(kl117,[],kf12),431,kc5,[1],0),
  (1,(kl117,[ke78],kf12),430,kc5,[2],0),
  (4,(kl117,[ke79],kf12),429,kc5,[3],0),
  (6,(kl118,[],kf12),427,kc7,[4],0),
  (8,(kl118,[ke80],kf12),426,kc7,[5],0),
  (10,(kl118,[ke81,ke80],kf12),425,kc7,[22,6],0),
  (13,(kl119,[],kf12),424,kc7,[7],0),
  (14,(kl119,[ke102],kf12),423,kc7,[8],0),
  (16,(kl119,[ke87,ke102],kf12),422,kc7,[9],0),
  (17,(kl119,[ke56,ke87,ke102],kf12),421,kc7,[10],0),
  (18,(kl119,[ke78,ke56,ke87,ke102],kf12),420,kc7,[11],0),
  (21,(kl119,[ke83,ke56,ke87,ke102],kf12),419,kc7,[12],0),
  (22,(kl119,[ke84,ke83,ke56,ke87,ke102],kf12),418,kc7,[13],0),
  (23,(kl119,[ke54,ke56,ke87,ke102],kf12),417,kc7,[14],0),
  (25,(kl119,[ke85,ke54,ke56,ke87,ke102],kf12),416,kc7,[15],0),
  (26,(kl119,[ke3,ke85,ke54,ke56,ke87,ke102],kf12),415,kc7,[16],155),
  (29,(kl119,[ke86],kf12),414,kc7,[17],0),
  (30,(kl119,[ke48,ke86],kf12),413,kc7,[20,18],0),
  (33,(kl119,[],kf12),3,kc5,[19],0),
  (35,(kl119,[ke85],kf12),2,kc5,[],0),
  (36,(kl119,[],kf12),412,kc7,[21],0),
  (39,(kl120,[],kf12),428,kc7,[3],0),
  (42,(kl120,[],kf12),1,kc5,[23],0),
  (43,(kl120,[ke48],kf12),0,kc5,[],0)]
def CN198 : List (List ND) := [CN198_0]
theorem CK198 : chkS prot SMs SM198 [] CN198 = true := by decide +kernel
-- OneSided$Plans.nextDoor
def ka74 : AV := (2,53,58,1)
def kl121 : AL := [some ka61,some ka35,some ka74,some ka0,some ka40,none,none,none]
def kl122 : AL := [some ka61,some ka35,some ka74,some ka0,some ka40,some ka57,none,none]
def kl123 : AL := [some ka61,some ka35,some ka74,some ka0,some ka40,some ka1,none,none]
def kl124 : AL := [some ka61,some ka35,some ka74,some ka0,some ka40,some ka47,none,none]
def kf14 : FA := [(32,2,ka56),(77,3,ka62)]
def ke103 : SE := (ka74,(1,2,0,0,0))
def kl125 : AL := [some ka61,some ka35,some ka74,some ka0,some ka40,some ka47,some ka67,none]
def kl126 : AL := [some ka61,some ka35,some ka74,some ka0,some ka40,some ka47,some ka44,none]
def kl127 : AL := [some ka61,some ka35,some ka74,some ka0,some ka40,some ka47,some ka40,none]
def kl128 : AL := [some ka61,some ka35,some ka74,some ka0,some ka40,some ka1,some ka40,none]
def kl129 : AL := [some ka61,some ka35,some ka74,some ka0,some ka40,some ka47,some ka40,some ka70]
def kl130 : AL := [some ka61,some ka35,some ka74,some ka0,some ka40,some ka1,some ka40,some ka70]
def kl131 : AL := [some ka61,some ka35,some ka74,some ka0,some ka40,some ka56,some ka67,none]
def CN200_0 : List ND := [(0,(kl121,[],kf12),740,kc2,[1],0),
  (1,(kl121,[ke6],kf12),739,kc2,[2],0),
  (3,(kl122,[],kf12),737,kc8,[4],0),
  (5,(kl123,[ke16],kf12),743,kc2,[5],0),
  (5,(kl122,[ke88],kf12),736,kc8,[6],0),
  (6,(kl123,[ke102,ke16],kf12),742,kc2,[7],0),
  (6,(kl122,[ke102,ke88],kf12),735,kc8,[8],0),
  (9,(kl123,[ke75,ke16],kf12),741,kc2,[60,9],0),
  (9,(kl122,[ke75,ke88],kf12),734,kc8,[60,9],0),
  (12,(kl124,[],kf14),733,kc8,[10],0),
  (13,(kl124,[ke78],kf14),732,kc8,[11],0),
  (14,(kl124,[ke102,ke78],kf14),731,kc8,[12],0),
  (15,(kl124,[ke103,ke102,ke78],kf14),730,kc8,[13],0),
  (18,(kl124,[ke34,ke102,ke78],kf14),729,kc8,[14],0),
  (19,(kl124,[ke3,ke34,ke102,ke78],kf14),728,kc8,[16],0),
  (21,(kl123,[ke16,ke3,ke34,ke102,ke78],kf14),745,kc2,[17],0),
  (21,(kl124,[ke70,ke3,ke34,ke102,ke78],kf14),727,kc8,[18],0),
  (23,(kl123,[ke90,ke16,ke3,ke34,ke102,ke78],kf14),744,kc2,[19],196),
  (23,(kl124,[ke90,ke70,ke3,ke34,ke102,ke78],kf14),726,kc8,[19],198),
  (26,(kl124,[ke91],kf14),725,kc8,[20],0),
  (28,(kl125,[],kf14),724,kc8,[21],0),
  (30,(kl125,[ke92],kf14),723,kc8,[22],0),
  (31,(kl125,[ke48,ke92],kf14),722,kc8,[24,23],0),
  (34,(kl126,[],kf14),691,kc8,[58],0),
  (37,(kl127,[],kf14),721,kc8,[25],0),
  (39,(kl127,[ke85],kf14),720,kc8,[26],0),
  (40,(kl127,[ke5,ke85],kf14),719,kc8,[27],0),
  (41,(kl127,[ke93],kf14),718,kc8,[28],0),
  (43,(kl127,[ke94,ke93],kf14),717,kc8,[29],0),
  (44,(kl127,[ke95],kf14),716,kc8,[30],0),
  (45,(kl127,[ke78,ke95],kf14),715,kc8,[31],0),
  (46,(kl127,[ke102,ke78,ke95],kf14),714,kc8,[32],0),
  (47,(kl127,[ke103,ke102,ke78,ke95],kf14),713,kc8,[33],0),
  (50,(kl127,[ke54,ke102,ke78,ke95],kf14),712,kc8,[35],0),
  (52,(kl128,[ke16,ke54,ke102,ke78,ke95],kf14),746,kc2,[36],197),
  (52,(kl127,[ke70,ke54,ke102,ke78,ke95],kf14),711,kc8,[36],199),
  (55,(kl127,[ke96,ke95],kf14),710,kc8,[37],0),
  (56,(kl127,[ke97],kf14),709,kc8,[38],0),
  (58,(kl129,[],kf14),708,kc8,[39],0),
  (59,(kl129,[ke78],kf14),707,kc8,[40],0),
  (62,(kl129,[ke98],kf14),706,kc8,[41],0),
  (64,(kl129,[ke99,ke98],kf14),705,kc8,[42],0),
  (65,(kl129,[ke7],kf14),704,kc8,[43],0),
  (66,(kl129,[ke78,ke7],kf14),703,kc8,[44],0),
  (69,(kl129,[ke98,ke7],kf14),702,kc8,[45],0),
  (70,(kl129,[ke78,ke98,ke7],kf14),701,kc8,[46],0),
  (73,(kl129,[ke79,ke98,ke7],kf14),700,kc8,[47],0),
  (75,(kl129,[ke94,ke79,ke98,ke7],kf14),699,kc8,[48],0),
  (76,(kl129,[ke100,ke98,ke7],kf14),698,kc8,[49],0),
  (77,(kl129,[ke78,ke100,ke98,ke7],kf14),697,kc8,[50],0),
  (80,(kl129,[ke83,ke100,ke98,ke7],kf14),696,kc8,[51],0),
  (81,(kl129,[ke101,ke98,ke7],kf14),695,kc8,[52],0),
  (82,(kl129,[ke7,ke7],kf14),694,kc8,[53],0),
  (83,(kl129,[ke5,ke7,ke7],kf14),693,kc8,[54],0),
  (84,(kl129,[ke7,ke7],kf14),692,kc8,[58,55],0),
  (87,(kl129,[],kf14),1,kc2,[57],0),
  (89,(kl130,[ke16],kf14),747,kc2,[],0),
  (89,(kl129,[ke70],kf14),0,kc2,[],0),
  (90,(kl125,[],kf14),690,kc8,[59],0),
  (93,(kl131,[],kf14),738,kc8,[2],0),
  (96,(kl122,[],kf12),3,kc2,[61],0),
  (97,(kl122,[ke48],kf12),2,kc2,[],0)]
def CN200 : List (List ND) := [CN200_0]
theorem CK200 : chkS prot SMs SM200 [] CN200 = true := by decide +kernel
