/-! LM, by program: certificates 0 -/
-- OneSided$Reader.putBytes
def ka0 : AV := (2,2,2,0)
def ka1 : AV := (1,-9223372036854775808,9223372036854775807,1)
def kl0 : AL := [some ka0,some ka1,none,none,none,none]
def kc0 : List Int := [0,0,0,0,0,0]
def ka2 : AV := (0,56,56,0)
def ke0 : SE := (ka2,pv0)
def ka3 : AV := (0,-8,56,1)
def kl1 : AL := [some ka0,some ka1,none,some ka3,none,none]
def kc1 : List Int := [0,0,0,44,0,0]
def ke1 : SE := (ka3,(1,3,0,0,0))
def ka4 : AV := (0,0,56,1)
def kl2 : AL := [some ka0,some ka1,none,some ka4,none,none]
def ke2 : SE := (ka1,(1,1,0,0,0))
def ke3 : SE := (ka4,(1,3,0,0,0))
def ke4 : SE := (ka1,pv0)
def ka5 : AV := (0,-2147483648,2147483647,1)
def ke5 : SE := (ka5,pv0)
def ka6 : AV := (0,255,255,0)
def ke6 : SE := (ka6,pv0)
def ka7 : AV := (0,0,255,1)
def ke7 : SE := (ka7,pv0)
def kl3 : AL := [some ka0,some ka1,none,some ka4,some ka7,none]
def ke8 : SE := (ka7,(1,4,0,0,0))
def ka8 : AV := (0,10,10,0)
def ke9 : SE := (ka8,pv0)
def ka9 : AV := (0,32,32,0)
def ke10 : SE := (ka9,pv0)
def ka10 : AV := (0,32,255,1)
def kl4 : AL := [some ka0,some ka1,none,some ka4,some ka10,none]
def ke11 : SE := (ka10,(1,4,0,0,0))
def ka11 : AV := (0,126,126,0)
def ke12 : SE := (ka11,pv0)
def ka12 : AV := (0,10,126,1)
def kl5 : AL := [some ka0,some ka1,none,some ka4,some ka12,none]
def ka13 : AV := (0,1,1,0)
def ke13 : SE := (ka13,pv0)
def ka14 : AV := (0,0,0,0)
def ke14 : SE := (ka14,pv0)
def ka15 : AV := (0,0,1,1)
def kl6 : AL := [some ka0,some ka1,none,some ka4,some ka7,some ka15]
def ke15 : SE := (ka15,(1,5,0,0,0))
def kl7 : AL := [some ka0,some ka1,none,some ka4,some ka7,some ka13]
def ke16 : SE := (ka0,(1,0,0,0,0))
def ka16 : AV := (0,0,1000,1)
def ke17 : SE := (ka16,(2,2,0,0,0))
def ka17 : AV := (0,1000,1000,0)
def ke18 : SE := (ka17,pv0)
def ka18 : AV := (0,0,999,1)
def kf0 : FA := [(2,0,ka18)]
def ka19 : AV := (2,3,3,0)
def ke19 : SE := (ka19,(2,2,1,0,0))
def ke20 : SE := (ka18,(2,2,0,0,0))
def ka20 : AV := (0,-128,127,1)
def ke21 : SE := (ka20,pv0)
def ka21 : AV := (0,1,1000,1)
def ke22 : SE := (ka21,pv0)
def ka22 : AV := (0,-8,48,1)
def kl8 : AL := [some ka0,some ka1,none,some ka22,some ka7,some ka15]
def ka23 : AV := (0,-8,-1,1)
def kl9 : AL := [some ka0,some ka1,none,some ka23,none,none]
def CN0_0 : List ND := [(0,(kl0,[],[]),2862,kc0,[1],0),
  (2,(kl0,[ke0],[]),2861,kc0,[2],0),
  (3,(kl1,[],[]),395,kc1,[3],0),
  (4,(kl1,[ke1],[]),394,kc1,[46,4],0),
  (7,(kl2,[],[]),393,kc1,[5],0),
  (8,(kl2,[ke2],[]),392,kc1,[6],0),
  (9,(kl2,[ke3,ke2],[]),391,kc1,[7],0),
  (10,(kl2,[ke4],[]),390,kc1,[8],0),
  (11,(kl2,[ke5],[]),389,kc1,[9],0),
  (14,(kl2,[ke6,ke5],[]),388,kc1,[10],0),
  (15,(kl2,[ke7],[]),387,kc1,[11],0),
  (17,(kl3,[],[]),386,kc1,[12],0),
  (19,(kl3,[ke8],[]),385,kc1,[13],0),
  (21,(kl3,[ke9,ke8],[]),384,kc1,[20,14],0),
  (24,(kl3,[],[]),383,kc1,[15],0),
  (26,(kl3,[ke8],[]),382,kc1,[16],0),
  (28,(kl3,[ke10,ke8],[]),381,kc1,[22,17],0),
  (31,(kl4,[],[]),380,kc1,[18],0),
  (33,(kl4,[ke11],[]),379,kc1,[19],0),
  (35,(kl4,[ke12,ke11],[]),378,kc1,[22,20],0),
  (38,(kl5,[],[]),375,kc1,[21],0),
  (39,(kl5,[ke13],[]),374,kc1,[24],0),
  (42,(kl3,[],[]),377,kc1,[23],0),
  (43,(kl3,[ke14],[]),376,kc1,[25],0),
  (43,(kl5,[ke13],[]),373,kc1,[25],0),
  (45,(kl6,[],[]),372,kc1,[26],0),
  (47,(kl6,[ke15],[]),371,kc1,[44,27],0),
  (50,(kl7,[],[]),370,kc1,[28],0),
  (51,(kl7,[ke16],[]),369,kc1,[29],0),
  (54,(kl7,[ke17],[]),368,kc1,[30],0),
  (57,(kl7,[ke18,ke17],[]),367,kc1,[44,31],0),
  (60,(kl7,[],kf0),366,kc1,[32],0),
  (61,(kl7,[ke16],kf0),365,kc1,[33],0),
  (64,(kl7,[ke19],kf0),364,kc1,[34],0),
  (65,(kl7,[ke16,ke19],kf0),363,kc1,[35],0),
  (68,(kl7,[ke20,ke19],kf0),362,kc1,[36],0),
  (70,(kl7,[ke8,ke20,ke19],kf0),361,kc1,[37],0),
  (71,(kl7,[ke21,ke20,ke19],kf0),360,kc1,[38],0),
  (72,(kl7,[],kf0),359,kc1,[39],0),
  (73,(kl7,[ke16],kf0),358,kc1,[40],0),
  (74,(kl7,[ke16,ke16],kf0),357,kc1,[41],0),
  (77,(kl7,[ke20,ke16],kf0),356,kc1,[42],0),
  (78,(kl7,[ke13,ke20,ke16],kf0),355,kc1,[43],0),
  (79,(kl7,[ke22,ke16],kf0),354,kc1,[44],0),
  (82,(kl6,[],[]),353,kc1,[45],0),
  (85,(kl8,[],[]),396,kc1,[2],0),
  (88,(kl9,[],[]),0,kc0,[],0)]
def CN0 : List (List ND) := [CN0_0]
theorem CK0 : chkS prot SMs SM0 [] CN0 = true := by decide +kernel
-- OneSidedModel.lay
def ka24 : AV := (2,182,182,0)
def kl10 : AL := [some ka24,some ka1,none,none,none]
def kc2 : List Int := [0,0,0,0,0]
def kl11 : AL := [some ka24,some ka1,none,some ka3,none]
def kc3 : List Int := [0,0,0,36,0]
def kl12 : AL := [some ka24,some ka1,none,some ka4,none]
def kl13 : AL := [some ka24,some ka1,none,some ka4,some ka7]
def kl14 : AL := [some ka24,some ka1,none,some ka4,some ka10]
def kl15 : AL := [some ka24,some ka1,none,some ka4,some ka12]
def ke23 : SE := (ka24,(1,0,0,0,0))
def ke24 : SE := (ka16,(2,182,2,0,0))
def kf1 : FA := [(182,2,ka18)]
def ka25 : AV := (2,183,183,0)
def ke25 : SE := (ka25,(2,182,1,0,0))
def ke26 : SE := (ka18,(2,182,2,0,0))
def ke27 : SE := (ka12,(1,4,0,0,0))
def kl16 : AL := [some ka24,some ka1,none,some ka22,some ka7]
def kl17 : AL := [some ka24,some ka1,none,some ka23,none]
def CN319_0 : List ND := [(0,(kl10,[],[]),2342,kc2,[1],0),
  (2,(kl10,[ke0],[]),2341,kc2,[2],0),
  (3,(kl11,[],[]),323,kc3,[3],0),
  (4,(kl11,[ke1],[]),322,kc3,[38,4],0),
  (7,(kl12,[],[]),321,kc3,[5],0),
  (8,(kl12,[ke2],[]),320,kc3,[6],0),
  (9,(kl12,[ke3,ke2],[]),319,kc3,[7],0),
  (10,(kl12,[ke4],[]),318,kc3,[8],0),
  (11,(kl12,[ke5],[]),317,kc3,[9],0),
  (14,(kl12,[ke6,ke5],[]),316,kc3,[10],0),
  (15,(kl12,[ke7],[]),315,kc3,[11],0),
  (17,(kl13,[],[]),314,kc3,[12],0),
  (19,(kl13,[ke8],[]),313,kc3,[13],0),
  (21,(kl13,[ke9,ke8],[]),312,kc3,[20,14],0),
  (24,(kl13,[],[]),311,kc3,[15],0),
  (26,(kl13,[ke8],[]),310,kc3,[16],0),
  (28,(kl13,[ke10,ke8],[]),309,kc3,[36,17],0),
  (31,(kl14,[],[]),308,kc3,[18],0),
  (33,(kl14,[ke11],[]),307,kc3,[19],0),
  (35,(kl14,[ke12,ke11],[]),306,kc3,[36,20],0),
  (38,(kl15,[],[]),305,kc3,[21],0),
  (39,(kl15,[ke23],[]),304,kc3,[22],0),
  (42,(kl15,[ke24],[]),303,kc3,[23],0),
  (45,(kl15,[ke18,ke24],[]),302,kc3,[36,24],0),
  (48,(kl15,[],kf1),301,kc3,[25],0),
  (49,(kl15,[ke23],kf1),300,kc3,[26],0),
  (52,(kl15,[ke25],kf1),299,kc3,[27],0),
  (53,(kl15,[ke23,ke25],kf1),298,kc3,[28],0),
  (56,(kl15,[ke26,ke25],kf1),297,kc3,[29],0),
  (58,(kl15,[ke27,ke26,ke25],kf1),296,kc3,[30],0),
  (59,(kl15,[],kf1),295,kc3,[31],0),
  (60,(kl15,[ke23],kf1),294,kc3,[32],0),
  (61,(kl15,[ke23,ke23],kf1),293,kc3,[33],0),
  (64,(kl15,[ke26,ke23],kf1),292,kc3,[34],0),
  (65,(kl15,[ke13,ke26,ke23],kf1),291,kc3,[35],0),
  (66,(kl15,[ke22,ke23],kf1),290,kc3,[36],0),
  (69,(kl13,[],[]),289,kc3,[37],0),
  (72,(kl16,[],[]),324,kc3,[2],0),
  (75,(kl17,[],[]),0,kc2,[],0)]
def CN319 : List (List ND) := [CN319_0]
theorem CK319 : chkS prot SMs SM319 [] CN319 = true := by decide +kernel
-- OneSidedModel.startsDay
def ka26 : AV := (0,1540,1540,0)
def kl18 : AL := [some ka24,some ka26,none]
def kc4 : List Int := [0,0,0]
def ka27 : AV := (2,198,198,0)
def ke28 : SE := (ka27,(2,182,24,0,0))
def ke29 : SE := (ka26,(1,1,0,0,0))
def ke30 : SE := (ka26,pv0)
def kf2 : FA := [(198,1540,ka14)]
def ka28 : AV := (0,0,6,1)
def kl19 : AL := [some ka24,some ka26,some ka28]
def kc5 : List Int := [0,0,-47]
def kl20 : AL := [some ka24,some ka26,some ka14]
def ke31 : SE := (ka14,(1,2,0,0,0))
def ke32 : SE := (ka28,(1,2,0,0,0))
def ka29 : AV := (0,6,6,0)
def ke33 : SE := (ka29,pv0)
def ka30 : AV := (0,0,5,1)
def kl21 : AL := [some ka24,some ka26,some ka30]
def ka31 : AV := (0,2,2,0)
def ke34 : SE := (ka31,pv0)
def ka32 : AV := (0,1542,1542,0)
def ke35 : SE := (ka32,pv0)
def ke36 : SE := (ka30,(1,2,0,0,0))
def ka33 : AV := (0,1542,1547,1)
def ke37 : SE := (ka33,pv0)
def ka34 : AV := (0,0,9,1)
def ke38 : SE := (ka34,pv0)
def ka35 : AV := (0,8,8,0)
def ke39 : SE := (ka35,pv0)
def ka36 : AV := (0,1548,1548,0)
def ke40 : SE := (ka36,pv0)
def ka37 : AV := (0,1548,1553,1)
def ke41 : SE := (ka37,pv0)
def ka38 : AV := (0,14,14,0)
def ke42 : SE := (ka38,pv0)
def ka39 : AV := (0,1554,1554,0)
def ke43 : SE := (ka39,pv0)
def ka40 : AV := (0,1554,1559,1)
def ke44 : SE := (ka40,pv0)
def ka41 : AV := (0,1,6,1)
def kl22 : AL := [some ka24,some ka26,some ka41]
def kl23 : AL := [some ka24,some ka26,some ka29]
def ka42 : AV := (0,0,14,1)
def kl24 : AL := [some ka24,some ka26,some ka42]
def kc6 : List Int := [0,0,-14]
def ke45 : SE := (ka42,(1,2,0,0,0))
def ka43 : AV := (0,0,13,1)
def kl25 : AL := [some ka24,some ka26,some ka43]
def ka44 : AV := (0,20,20,0)
def ke46 : SE := (ka44,pv0)
def ka45 : AV := (0,1560,1560,0)
def ke47 : SE := (ka45,pv0)
def ke48 : SE := (ka43,(1,2,0,0,0))
def ka46 : AV := (0,1560,1573,1)
def ke49 : SE := (ka46,pv0)
def ka47 : AV := (0,1,14,1)
def kl26 : AL := [some ka24,some ka26,some ka47]
def kl27 : AL := [some ka24,some ka26,some ka38]
def CN407_0 : List ND := [(0,(kl18,[],[]),550,kc4,[1],0),
  (1,(kl18,[ke23],[]),549,kc4,[2],0),
  (4,(kl18,[ke28],[]),548,kc4,[3],0),
  (5,(kl18,[ke29,ke28],[]),547,kc4,[4],0),
  (6,(kl18,[ke14,ke29,ke28],[]),546,kc4,[5],0),
  (7,(kl18,[ke30,ke28],[]),545,kc4,[6],0),
  (8,(kl18,[ke14,ke30,ke28],[]),544,kc4,[7],0),
  (9,(kl18,[],kf2),543,kc4,[8],0),
  (10,(kl18,[ke14],kf2),542,kc4,[9],0),
  (11,(kl19,[],kf2),540,kc5,[11],0),
  (12,(kl20,[ke31],kf2),552,kc4,[12],0),
  (12,(kl19,[ke32],kf2),539,kc5,[13],0),
  (14,(kl20,[ke33,ke31],kf2),551,kc4,[14],0),
  (14,(kl19,[ke33,ke32],kf2),538,kc5,[67,14],0),
  (17,(kl21,[],kf2),537,kc5,[15],0),
  (18,(kl21,[ke23],kf2),536,kc5,[16],0),
  (21,(kl21,[ke28],kf2),535,kc5,[17],0),
  (22,(kl21,[ke29,ke28],kf2),534,kc5,[18],0),
  (23,(kl21,[ke34,ke29,ke28],kf2),533,kc5,[19],0),
  (24,(kl21,[ke35,ke28],kf2),532,kc5,[21],0),
  (25,(kl20,[ke31,ke35,ke28],kf2),553,kc4,[22],0),
  (25,(kl21,[ke36,ke35,ke28],kf2),531,kc5,[22],0),
  (26,(kl21,[ke37,ke28],kf2),530,kc5,[23],0),
  (27,(kl21,[ke23,ke37,ke28],kf2),529,kc5,[25],0),
  (28,(kl20,[ke31,ke23,ke35,ke28],kf2),555,kc4,[26],0),
  (28,(kl21,[ke36,ke23,ke37,ke28],kf2),528,kc5,[27],0),
  (29,(kl20,[ke13,ke31,ke23,ke35,ke28],kf2),554,kc4,[28],373),
  (29,(kl21,[ke13,ke36,ke23,ke37,ke28],kf2),527,kc5,[28],373),
  (32,(kl21,[ke38,ke37,ke28],kf2),526,kc5,[29],0),
  (33,(kl21,[],kf2),525,kc5,[30],0),
  (34,(kl21,[ke23],kf2),524,kc5,[31],0),
  (37,(kl21,[ke28],kf2),523,kc5,[32],0),
  (38,(kl21,[ke29,ke28],kf2),522,kc5,[33],0),
  (40,(kl21,[ke39,ke29,ke28],kf2),521,kc5,[34],0),
  (41,(kl21,[ke40,ke28],kf2),520,kc5,[36],0),
  (42,(kl20,[ke31,ke40,ke28],kf2),556,kc4,[37],0),
  (42,(kl21,[ke36,ke40,ke28],kf2),519,kc5,[37],0),
  (43,(kl21,[ke41,ke28],kf2),518,kc5,[38],0),
  (44,(kl21,[ke23,ke41,ke28],kf2),517,kc5,[40],0),
  (45,(kl20,[ke31,ke23,ke40,ke28],kf2),558,kc4,[41],0),
  (45,(kl21,[ke36,ke23,ke41,ke28],kf2),516,kc5,[42],0),
  (46,(kl20,[ke13,ke31,ke23,ke40,ke28],kf2),557,kc4,[43],373),
  (46,(kl21,[ke13,ke36,ke23,ke41,ke28],kf2),515,kc5,[43],373),
  (49,(kl21,[ke38,ke41,ke28],kf2),514,kc5,[44],0),
  (50,(kl21,[ke23,ke38,ke41,ke28],kf2),513,kc5,[46],0),
  (51,(kl20,[ke31,ke23,ke38,ke40,ke28],kf2),560,kc4,[47],0),
  (51,(kl21,[ke36,ke23,ke38,ke41,ke28],kf2),512,kc5,[48],0),
  (52,(kl20,[ke34,ke31,ke23,ke38,ke40,ke28],kf2),559,kc4,[49],352),
  (52,(kl21,[ke34,ke36,ke23,ke38,ke41,ke28],kf2),511,kc5,[49],352),
  (55,(kl21,[ke38,ke38,ke41,ke28],kf2),510,kc5,[52,50],0),
  (58,(kl21,[ke41,ke28],kf2),507,kc5,[51],0),
  (59,(kl21,[ke13,ke41,ke28],kf2),506,kc5,[54],0),
  (62,(kl21,[ke41,ke28],kf2),509,kc5,[53],0),
  (63,(kl21,[ke14,ke41,ke28],kf2),508,kc5,[55],0),
  (63,(kl21,[ke13,ke41,ke28],kf2),505,kc5,[55],0),
  (64,(kl21,[],kf2),504,kc5,[56],0),
  (65,(kl21,[ke23],kf2),503,kc5,[57],0),
  (68,(kl21,[ke28],kf2),502,kc5,[58],0),
  (69,(kl21,[ke29,ke28],kf2),501,kc5,[59],0),
  (71,(kl21,[ke42,ke29,ke28],kf2),500,kc5,[60],0),
  (72,(kl21,[ke43,ke28],kf2),499,kc5,[62],0),
  (73,(kl20,[ke31,ke43,ke28],kf2),561,kc4,[63],0),
  (73,(kl21,[ke36,ke43,ke28],kf2),498,kc5,[63],0),
  (74,(kl21,[ke44,ke28],kf2),497,kc5,[64],0)]
def CN407_1 : List ND := [(75,(kl21,[ke14,ke44,ke28],kf2),496,kc5,[65],0),
  (76,(kl21,[],kf2),495,kc5,[66],0),
  (79,(kl22,[],kf2),541,kc5,[9],0),
  (82,(kl23,[],kf2),212,kc4,[68],0),
  (83,(kl23,[ke14],kf2),211,kc4,[69],0),
  (84,(kl24,[],kf2),209,kc6,[71],0),
  (85,(kl20,[ke31],kf2),563,kc4,[72],0),
  (85,(kl24,[ke45],kf2),208,kc6,[73],0),
  (87,(kl20,[ke42,ke31],kf2),562,kc4,[74],0),
  (87,(kl24,[ke42,ke45],kf2),207,kc6,[86,74],0),
  (90,(kl25,[],kf2),206,kc6,[75],0),
  (91,(kl25,[ke23],kf2),205,kc6,[76],0),
  (94,(kl25,[ke28],kf2),204,kc6,[77],0),
  (95,(kl25,[ke29,ke28],kf2),203,kc6,[78],0),
  (97,(kl25,[ke46,ke29,ke28],kf2),202,kc6,[79],0),
  (98,(kl25,[ke47,ke28],kf2),201,kc6,[81],0),
  (99,(kl20,[ke31,ke47,ke28],kf2),564,kc4,[82],0),
  (99,(kl25,[ke48,ke47,ke28],kf2),200,kc6,[82],0),
  (100,(kl25,[ke49,ke28],kf2),199,kc6,[83],0),
  (101,(kl25,[ke14,ke49,ke28],kf2),198,kc6,[84],0),
  (102,(kl25,[],kf2),197,kc6,[85],0),
  (105,(kl26,[],kf2),210,kc6,[69],0),
  (108,(kl27,[],kf2),0,kc4,[],0)]
def CN407 : List (List ND) := [CN407_0, CN407_1]
theorem CK407 : chkS prot SMs SM407 [] CN407 = true := by decide +kernel
