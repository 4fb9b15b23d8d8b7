/-! LM, by program: certificates 7 -/
-- OneSided$Rents.cheapest
def kl668 : AL := [some ka237,some ka12,some ka0,some ka0,some ka36,some ka36,none,none,none,none,none,none,none,none]
def kl669 : AL := [some ka237,some ka12,some ka0,some ka0,some ka36,some ka36,some ka36,none,none,none,none,none,none,none]
def kl670 : AL := [some ka237,some ka12,some ka0,some ka0,some ka36,some ka36,some ka36,some ka1,none,none,none,none,none,none]
def kl671 : AL := [some ka237,some ka12,some ka0,some ka0,some ka36,some ka36,some ka36,some ka1,some ka172,none,none,none,none,none]
def kc48 : List Int := [0,0,0,0,0,0,0,0,-20,0,0,0,0,0]
def kl672 : AL := [some ka237,some ka12,some ka0,some ka0,some ka36,some ka36,some ka36,some ka0,some ka173,some ka48,some ka35,some ka27,some ka27,some ka36]
def kc49 : List Int := [0,0,0,0,0,0,0,0,-1030,0,0,0,0,0]
def kl673 : AL := [some ka237,some ka12,some ka0,some ka0,some ka36,some ka36,some ka36,some ka1,some ka1,none,none,none,none,none]
def ke535 : SE := (ka172,(1,8,0,0,0))
def ke536 : SE := (ka173,(1,8,0,0,0))
def kl674 : AL := [some ka237,some ka12,some ka0,some ka0,some ka36,some ka36,some ka36,some ka1,some ka36,none,none,none,none,none]
def kl675 : AL := [some ka237,some ka12,some ka0,some ka0,some ka36,some ka36,some ka36,some ka0,some ka218,some ka48,some ka35,some ka27,some ka27,some ka36]
def kl676 : AL := [some ka237,some ka12,some ka0,some ka0,some ka36,some ka36,some ka36,some ka1,some ka36,some ka1,none,none,none,none]
def kl677 : AL := [some ka237,some ka12,some ka0,some ka0,some ka36,some ka36,some ka36,some ka0,some ka36,some ka48,some ka35,some ka27,some ka27,some ka36]
def kc50 : List Int := [0,0,0,0,0,0,0,0,-1030,-67,0,0,0,0]
def ke537 : SE := (ka1,(1,9,0,0,0))
def kl678 : AL := [some ka237,some ka12,some ka0,some ka0,some ka36,some ka36,some ka36,some ka1,some ka1,some ka2,some ka35,some ka27,some ka27,some ka36]
def ke538 : SE := (ka2,(1,9,0,0,0))
def ke539 : SE := (ka48,(1,9,0,0,0))
def kl679 : AL := [some ka237,some ka12,some ka0,some ka0,some ka36,some ka36,some ka36,some ka0,some ka36,some ka43,some ka35,some ka27,some ka27,some ka36]
def ke540 : SE := (ka43,(1,9,0,0,0))
def kl680 : AL := [some ka237,some ka12,some ka0,some ka0,some ka36,some ka36,some ka36,some ka0,some ka36,some ka43,some ka35,none,none,none]
def ke541 : SE := (ka35,(1,10,0,0,0))
def kl681 : AL := [some ka237,some ka12,some ka0,some ka0,some ka36,some ka36,some ka36,some ka1,some ka1,some ka1,some ka35,none,none,none]
def kl682 : AL := [some ka237,some ka12,some ka0,some ka0,some ka36,some ka36,some ka36,some ka0,some ka36,some ka43,some ka35,some ka27,none,none]
def kl683 : AL := [some ka237,some ka12,some ka0,some ka0,some ka36,some ka36,some ka36,some ka1,some ka1,some ka1,some ka35,some ka27,none,none]
def kl684 : AL := [some ka237,some ka12,some ka0,some ka0,some ka36,some ka36,some ka36,some ka0,some ka36,some ka43,some ka35,some ka27,some ka27,none]
def ke542 : SE := (ka27,(1,11,0,0,0))
def kl685 : AL := [some ka237,some ka12,some ka0,some ka0,some ka36,some ka36,some ka36,some ka0,some ka36,some ka43,some ka35,some ka2,some ka27,none]
def kl686 : AL := [some ka237,some ka12,some ka0,some ka0,some ka36,some ka36,some ka36,some ka0,some ka36,some ka43,some ka35,some ka1,some ka27,none]
def kl687 : AL := [some ka237,some ka12,some ka0,some ka0,some ka36,some ka36,some ka36,some ka0,some ka36,some ka43,some ka35,some ka1,some ka27,some ka36]
def ke543 : SE := (ka27,(1,12,0,0,0))
def ke544 : SE := (ka36,(1,13,0,0,0))
def kl688 : AL := [some ka237,some ka12,some ka0,some ka0,some ka36,some ka36,some ka36,some ka1,some ka1,some ka1,some ka35,some ka27,some ka27,some ka36]
def kl689 : AL := [some ka237,some ka12,some ka0,some ka0,some ka36,some ka36,some ka36,some ka1,some ka27,some ka43,some ka35,some ka27,some ka27,some ka36]
def kl690 : AL := [some ka237,some ka12,some ka0,some ka0,some ka36,some ka36,some ka36,some ka0,some ka36,some ka49,some ka35,some ka27,some ka27,some ka36]
def kl691 : AL := [some ka237,some ka12,some ka0,some ka0,some ka36,some ka36,some ka36,some ka1,some ka173,some ka1,none,none,none,none]
def CN266_0 : List ND := [(0,(kl668,[],[]),11564,kc32,[1],0),
  (2,(kl668,[ke186],[]),11563,kc32,[2],0),
  (4,(kl669,[],[]),11562,kc32,[3],0),
  (5,(kl669,[ke6],[]),11561,kc32,[4],0),
  (7,(kl670,[],[]),11560,kc32,[5],0),
  (8,(kl670,[ke6],[]),11559,kc32,[6],0),
  (10,(kl671,[],[]),11557,kc48,[9],0),
  (10,(kl672,[],kf3),11332,kc49,[10],0),
  (12,(kl673,[ke53],[]),11566,kc32,[11],0),
  (12,(kl671,[ke535],[]),11556,kc48,[12],0),
  (12,(kl672,[ke536],kf3),11331,kc49,[13],0),
  (14,(kl673,[ke339,ke53],[]),11565,kc32,[14],0),
  (14,(kl671,[ke339,ke535],[]),11555,kc48,[138,14],0),
  (14,(kl672,[ke339,ke536],kf3),11330,kc49,[139,15],0),
  (17,(kl674,[],[]),11554,kc48,[16],0),
  (17,(kl675,[],kf3),11329,kc49,[17],0),
  (19,(kl674,[ke513],[]),11553,kc48,[18],0),
  (19,(kl675,[ke513],kf3),11328,kc49,[19],0),
  (21,(kl674,[ke44,ke513],[]),11552,kc48,[138,20],0),
  (21,(kl675,[ke44,ke513],kf3),11327,kc49,[139,21],0),
  (24,(kl674,[],[]),11551,kc48,[22],0),
  (24,(kl675,[],kf3),11326,kc49,[23],0),
  (25,(kl674,[ke514],[]),11550,kc48,[24],0),
  (25,(kl675,[ke514],kf3),11325,kc49,[25],0),
  (28,(kl674,[ke525],[]),11549,kc48,[26],0),
  (28,(kl675,[ke525],kf3),11324,kc49,[27],0),
  (30,(kl674,[ke513,ke525],[]),11548,kc48,[28],0),
  (30,(kl675,[ke513,ke525],kf3),11323,kc49,[29],0),
  (31,(kl674,[ke7],[]),11547,kc48,[30],0),
  (31,(kl675,[ke7],kf3),11322,kc49,[31],0),
  (33,(kl674,[ke526,ke7],[]),11546,kc48,[138,32],0),
  (33,(kl675,[ke526,ke7],kf3),11321,kc49,[139,33],0),
  (36,(kl674,[],[]),11545,kc48,[34],0),
  (36,(kl675,[],kf3),11320,kc49,[35],0),
  (37,(kl674,[ke6],[]),11544,kc48,[36],0),
  (37,(kl675,[ke6],kf3),11319,kc49,[37],0),
  (39,(kl676,[],[]),11543,kc48,[38],0),
  (39,(kl677,[],kf3),11317,kc50,[40],0),
  (41,(kl676,[ke537],[]),11542,kc48,[41],0),
  (41,(kl678,[ke538],kf3),11569,kc32,[42],0),
  (41,(kl677,[ke539],kf3),11316,kc50,[43],0),
  (42,(kl676,[ke88,ke537],[]),11541,kc48,[44],0),
  (42,(kl678,[ke88,ke538],kf3),11568,kc32,[45],0),
  (42,(kl677,[ke88,ke539],kf3),11315,kc50,[46],0),
  (45,(kl676,[ke58,ke537],[]),11540,kc48,[134,47],0),
  (45,(kl678,[ke178,ke538],kf3),11567,kc32,[135,48],0),
  (45,(kl677,[ke178,ke539],kf3),11314,kc50,[135,48],0),
  (48,(kl676,[],kf3),11338,kc32,[49],0),
  (48,(kl679,[],kf3),11313,kc50,[50],0),
  (49,(kl676,[ke88],kf3),11337,kc32,[51],0),
  (49,(kl679,[ke88],kf3),11312,kc50,[52],0),
  (52,(kl676,[ke45],kf3),11336,kc32,[53],0),
  (52,(kl679,[ke45],kf3),11311,kc50,[55],0),
  (54,(kl676,[ke537,ke45],kf3),11335,kc32,[56],0),
  (54,(kl678,[ke538,ke45],kf32),11570,kc32,[57],0),
  (54,(kl679,[ke540,ke45],kf3),11310,kc50,[57],0),
  (55,(kl676,[ke62],kf3),11334,kc32,[58],0),
  (55,(kl679,[ke47],kf3),11309,kc50,[58],0),
  (57,(kl680,[],kf3),11308,kc50,[59],0),
  (59,(kl680,[ke541],kf3),11307,kc50,[60],0),
  (62,(kl680,[ke52],kf3),11306,kc50,[61],0),
  (64,(kl680,[ke513,ke52],kf3),11305,kc50,[71,62],0),
  (67,(kl680,[],kf3),11304,kc50,[63],0),
  (68,(kl680,[ke2],kf3),11303,kc50,[65],0)]
def CN266_1 : List ND := [(70,(kl681,[ke537,ke2],kf3),11571,kc32,[66],0),
  (70,(kl680,[ke540,ke2],kf3),11302,kc50,[66],0),
  (71,(kl680,[ke7],kf3),11301,kc50,[67],0),
  (72,(kl680,[ke5,ke7],kf3),11300,kc50,[68],0),
  (73,(kl680,[ke65],kf3),11299,kc50,[71,69],0),
  (76,(kl680,[],kf3),11296,kc50,[70],0),
  (77,(kl680,[ke5],kf3),11295,kc50,[73],0),
  (80,(kl680,[],kf3),11298,kc50,[72],0),
  (81,(kl680,[ke6],kf3),11297,kc50,[74],0),
  (81,(kl680,[ke5],kf3),11294,kc50,[74],0),
  (83,(kl682,[],kf3),11293,kc50,[75],0),
  (85,(kl682,[ke541],kf3),11292,kc50,[76],0),
  (88,(kl682,[ke52],kf3),11291,kc50,[77],0),
  (90,(kl682,[ke513,ke52],kf3),11290,kc50,[87,78],0),
  (93,(kl682,[],kf3),11289,kc50,[79],0),
  (94,(kl682,[ke3],kf3),11288,kc50,[81],0),
  (96,(kl683,[ke537,ke3],kf3),11572,kc32,[82],0),
  (96,(kl682,[ke540,ke3],kf3),11287,kc50,[82],0),
  (97,(kl682,[ke7],kf3),11286,kc50,[83],0),
  (98,(kl682,[ke5,ke7],kf3),11285,kc50,[84],0),
  (99,(kl682,[ke65],kf3),11284,kc50,[87,85],0),
  (102,(kl682,[],kf3),11281,kc50,[86],0),
  (103,(kl682,[ke5],kf3),11280,kc50,[89],0),
  (106,(kl682,[],kf3),11283,kc50,[88],0),
  (107,(kl682,[ke6],kf3),11282,kc50,[90],0),
  (107,(kl682,[ke5],kf3),11279,kc50,[90],0),
  (109,(kl684,[],kf3),11278,kc50,[91],0),
  (111,(kl684,[ke542],kf3),11277,kc50,[95,92],0),
  (114,(kl685,[],kf3),11276,kc50,[93],0),
  (116,(kl685,[ke541],kf3),11275,kc50,[94],0),
  (119,(kl685,[ke52],kf3),11274,kc50,[97],0),
  (122,(kl686,[],kf3),11273,kc50,[96],0),
  (124,(kl686,[ke541],kf3),11272,kc50,[97],0),
  (127,(kl684,[ke52],kf3),11271,kc50,[98],0),
  (129,(kl679,[],kf3),11270,kc50,[99],0),
  (131,(kl679,[ke542],kf3),11269,kc50,[102,100],0),
  (134,(kl687,[],kf3),11268,kc50,[101],0),
  (136,(kl687,[ke543],kf3),11267,kc50,[132,102],0),
  (139,(kl679,[],kf3),11266,kc50,[103],0),
  (140,(kl679,[ke514],kf3),11265,kc50,[104],0),
  (143,(kl679,[ke525],kf3),11264,kc50,[105],0),
  (145,(kl679,[ke544,ke525],kf3),11263,kc50,[106],0),
  (146,(kl679,[ke7],kf3),11262,kc50,[107],0),
  (147,(kl679,[ke514,ke7],kf3),11261,kc50,[108],0),
  (150,(kl679,[ke531,ke7],kf3),11260,kc50,[110],0),
  (152,(kl688,[ke537,ke531,ke7],kf3),11573,kc32,[111],0),
  (152,(kl679,[ke540,ke531,ke7],kf3),11259,kc50,[111],0),
  (153,(kl679,[ke7,ke7],kf3),11258,kc50,[112],0),
  (154,(kl679,[ke7],kf3),11257,kc50,[113],0),
  (155,(kl679,[ke514,ke7],kf3),11256,kc50,[114],0),
  (158,(kl679,[ke525,ke7],kf3),11255,kc50,[115],0),
  (160,(kl679,[ke513,ke525,ke7],kf3),11254,kc50,[116],0),
  (161,(kl679,[ke7,ke7],kf3),11253,kc50,[132,117],0),
  (164,(kl679,[],kf3),10313,kc49,[119],0),
  (166,(kl689,[ke216],kf3),11577,kc32,[120],0),
  (166,(kl679,[ke14],kf3),10312,kc49,[121],0),
  (167,(kl689,[ke5,ke216],kf3),11576,kc32,[122],0),
  (167,(kl679,[ke5,ke14],kf3),10311,kc49,[124],0),
  (169,(kl689,[ke540,ke5,ke216],kf3),11575,kc32,[126],0),
  (169,(kl688,[ke537,ke5,ke216],kf3),11579,kc32,[125],0),
  (169,(kl679,[ke540,ke5,ke14],kf3),10310,kc49,[127],0),
  (170,(kl688,[ke5,ke216],kf3),11578,kc32,[128],0),
  (170,(kl689,[ke66,ke216],kf3),11574,kc32,[128],0),
  (170,(kl679,[ke66,ke14],kf3),10309,kc49,[128],0)]
def CN266_2 : List ND := [(171,(kl679,[ke7],kf3),10308,kc49,[129],0),
  (173,(kl679,[],kf3),10307,kc49,[130],0),
  (175,(kl679,[ke544],kf3),10306,kc49,[131],0),
  (177,(kl679,[],kf3),10305,kc49,[135],0),
  (180,(kl679,[],kf3),11252,kc50,[133],0),
  (183,(kl690,[],kf3),11318,kc50,[37],0),
  (186,(kl676,[],kf33),11539,kc48,[136],0),
  (186,(kl677,[],kf3),10304,kc49,[137],0),
  (189,(kl691,[],kf33),11558,kc48,[6],0),
  (189,(kl672,[],kf3),11333,kc49,[7],0),
  (192,(kl671,[],[]),1,kc32,[140],0),
  (192,(kl672,[],kf3),3,kc32,[141],0),
  (194,(kl671,[ke216],[]),0,kc32,[],0),
  (194,(kl672,[ke14],kf3),2,kc32,[],0)]
def CN266 : List (List ND) := [CN266_0, CN266_1, CN266_2]
theorem CK266 : chkS prot SMs SM266 [] CN266 = true := by decide +kernel
-- OneSided$Rents.doorsOf
def kl692 : AL := [some ka237,some ka12,some ka62,some ka69,some ka232,none,none,none]
def kl693 : AL := [some ka237,some ka12,some ka62,some ka69,some ka232,some ka64,none,none]
def kl694 : AL := [some ka237,some ka12,some ka62,some ka69,some ka232,some ka64,some ka0,none]
def kl695 : AL := [some ka237,some ka12,some ka62,some ka69,some ka232,some ka64,some ka0,some ka0]
def ke545 : SE := (ka232,(1,4,0,0,0))
def CN267_0 : List ND := [(0,(kl692,[],[]),57,kc2,[1],0),
  (1,(kl692,[ke88],[]),56,kc2,[2],0),
  (4,(kl692,[ke91],[]),55,kc2,[3],0),
  (5,(kl692,[ke185,ke91],[]),54,kc2,[4],0),
  (6,(kl692,[ke94],[]),53,kc2,[5],0),
  (8,(kl693,[],[]),52,kc2,[6],0),
  (9,(kl693,[ke88],[]),51,kc2,[7],0),
  (11,(kl693,[ke248,ke88],[]),50,kc2,[8],0),
  (14,(kl693,[ke34,ke88],[]),49,kc2,[9],0),
  (15,(kl693,[ke184,ke34,ke88],[]),48,kc2,[10],0),
  (18,(kl693,[ke145,ke34,ke88],[]),47,kc2,[11],0),
  (19,(kl693,[ke184,ke145,ke34,ke88],[]),46,kc2,[12],0),
  (22,(kl693,[ke127,ke145,ke34,ke88],[]),45,kc2,[13],150),
  (25,(kl693,[ke7],[]),44,kc2,[14],0),
  (27,(kl694,[],[]),43,kc2,[15],0),
  (28,(kl694,[ke88],[]),42,kc2,[16],0),
  (30,(kl694,[ke248,ke88],[]),41,kc2,[17],0),
  (33,(kl694,[ke34,ke88],[]),40,kc2,[18],0),
  (34,(kl694,[ke184,ke34,ke88],[]),39,kc2,[19],0),
  (37,(kl694,[ke145,ke34,ke88],[]),38,kc2,[20],0),
  (38,(kl694,[ke184,ke145,ke34,ke88],[]),37,kc2,[21],0),
  (41,(kl694,[ke127,ke145,ke34,ke88],[]),36,kc2,[22],151),
  (44,(kl694,[ke7],[]),35,kc2,[23],0),
  (46,(kl695,[],[]),34,kc2,[24],0),
  (47,(kl695,[ke514],[]),33,kc2,[25],0),
  (49,(kl695,[ke183,ke514],[]),32,kc2,[26],0),
  (51,(kl695,[ke545,ke183,ke514],[]),31,kc2,[27],0),
  (53,(kl695,[ke248,ke545,ke183,ke514],[]),30,kc2,[28],0),
  (56,(kl695,[ke34,ke545,ke183,ke514],[]),29,kc2,[29],0),
  (57,(kl695,[ke5,ke34,ke545,ke183,ke514],[]),28,kc2,[30],263),
  (60,(kl695,[ke7],[]),27,kc2,[31],0),
  (62,(kl695,[],[]),26,kc2,[32],0),
  (63,(kl695,[ke514],[]),25,kc2,[33],0),
  (65,(kl695,[ke14,ke514],[]),24,kc2,[34],0),
  (67,(kl695,[ke545,ke14,ke514],[]),23,kc2,[35],0),
  (69,(kl695,[ke248,ke545,ke14,ke514],[]),22,kc2,[36],0),
  (72,(kl695,[ke34,ke545,ke14,ke514],[]),21,kc2,[37],0),
  (73,(kl695,[ke56,ke34,ke545,ke14,ke514],[]),20,kc2,[38],263),
  (76,(kl695,[ke7],[]),19,kc2,[39],0),
  (78,(kl695,[],[]),18,kc2,[40],0),
  (79,(kl695,[ke514],[]),17,kc2,[41],0),
  (80,(kl695,[ke88,ke514],[]),16,kc2,[42],0),
  (82,(kl695,[ke183,ke88,ke514],[]),15,kc2,[43],0),
  (84,(kl695,[ke14,ke183,ke88,ke514],[]),14,kc2,[44],0),
  (86,(kl695,[ke248,ke14,ke183,ke88,ke514],[]),13,kc2,[45],0),
  (89,(kl695,[ke52,ke14,ke183,ke88,ke514],[]),12,kc2,[46],265),
  (92,(kl695,[],[]),11,kc2,[47],0),
  (93,(kl695,[ke514],[]),10,kc2,[48],0),
  (94,(kl695,[ke88,ke514],[]),9,kc2,[49],0),
  (96,(kl695,[ke183,ke88,ke514],[]),8,kc2,[50],0),
  (98,(kl695,[ke14,ke183,ke88,ke514],[]),7,kc2,[51],0),
  (99,(kl695,[ke184,ke14,ke183,ke88,ke514],[]),6,kc2,[52],0),
  (102,(kl695,[ke95,ke14,ke183,ke88,ke514],[]),5,kc2,[53],0),
  (103,(kl695,[ke185,ke95,ke14,ke183,ke88,ke514],[]),4,kc2,[54],0),
  (104,(kl695,[ke52,ke14,ke183,ke88,ke514],[]),3,kc2,[55],0),
  (106,(kl695,[ke248,ke52,ke14,ke183,ke88,ke514],[]),2,kc2,[56],0),
  (109,(kl695,[ke52,ke52,ke14,ke183,ke88,ke514],[]),1,kc2,[57],266),
  (112,(kl695,[ke7],[]),0,kc2,[],0)]
def CN267 : List (List ND) := [CN267_0]
theorem CK267 : chkS prot SMs SM267 [] CN267 = true := by decide +kernel
-- OneSided$Rents.takeRents
def kl696 : AL := [some ka237,some ka12,some ka62,some ka232,none,none,none,none]
def ke546 : SE := (ka232,(1,3,0,0,0))
def kl697 : AL := [some ka237,some ka12,some ka62,some ka232,some ka36,none,none,none]
def kl698 : AL := [some ka237,some ka12,some ka62,some ka232,some ka36,some ka36,none,none]
def ka247 : AV := (0,0,576,64)
def ke547 : SE := (ka247,pv0)
def ka248 : AV := (0,1,577,64)
def ke548 : SE := (ka248,pv0)
def ka249 : AV := (2,100,100,0)
def ke549 : SE := (ka249,(2,96,5,0,0))
def ka250 : AV := (2,101,101,0)
def ke550 : SE := (ka250,(2,96,6,0,0))
def kl699 : AL := [some ka237,some ka12,some ka62,some ka232,some ka36,some ka36,some ka65,none]
def kc51 : List Int := [0,0,0,0,0,0,-43,0]
def kl700 : AL := [some ka237,some ka12,some ka62,some ka232,some ka36,some ka36,some ka1,none]
def ke551 : SE := (ka65,(1,6,0,0,0))
def kl701 : AL := [some ka237,some ka12,some ka62,some ka232,some ka36,some ka36,some ka69,none]
def kf154 : FA := [(5,4,ka63)]
def ke552 : SE := (ka69,(1,6,0,0,0))
def kl702 : AL := [some ka237,some ka12,some ka62,some ka232,some ka36,some ka36,some ka69,some ka0]
def kl703 : AL := [some ka237,some ka12,some ka62,some ka232,some ka36,some ka36,some ka63,some ka0]
def CN268_0 : List ND := [(0,(kl696,[],[]),341,kc2,[1],0),
  (1,(kl696,[ke546],[]),340,kc2,[2],0),
  (3,(kl696,[ke339,ke546],[]),339,kc2,[3],0),
  (4,(kl696,[ke52],[]),338,kc2,[4],0),
  (6,(kl697,[],[]),337,kc2,[5],0),
  (7,(kl697,[ke546],[]),336,kc2,[6],0),
  (9,(kl697,[ke339,ke546],[]),335,kc2,[7],0),
  (10,(kl697,[ke52],[]),334,kc2,[8],0),
  (12,(kl698,[],[]),333,kc2,[9],0),
  (13,(kl698,[ke514],[]),332,kc2,[10],0),
  (16,(kl698,[ke531],[]),331,kc2,[11],0),
  (17,(kl698,[ke514,ke531],[]),330,kc2,[12],0),
  (20,(kl698,[ke522,ke531],[]),329,kc2,[13],0),
  (22,(kl698,[ke186,ke522,ke531],[]),328,kc2,[14],0),
  (24,(kl698,[ke475,ke186,ke522,ke531],[]),327,kc2,[15],0),
  (25,(kl698,[ke547,ke522,ke531],[]),326,kc2,[16],0),
  (26,(kl698,[ke5,ke547,ke522,ke531],[]),325,kc2,[17],0),
  (27,(kl698,[ke548,ke522,ke531],[]),324,kc2,[18],0),
  (28,(kl698,[],[]),323,kc2,[19],0),
  (29,(kl698,[ke514],[]),322,kc2,[20],0),
  (32,(kl698,[ke531],[]),321,kc2,[21],0),
  (33,(kl698,[ke514,ke531],[]),320,kc2,[22],0),
  (36,(kl698,[ke523,ke531],[]),319,kc2,[23],0),
  (38,(kl698,[ke44,ke523,ke531],[]),318,kc2,[24],0),
  (40,(kl698,[ke475,ke44,ke523,ke531],[]),317,kc2,[25],0),
  (41,(kl698,[ke547,ke523,ke531],[]),316,kc2,[26],0),
  (42,(kl698,[ke5,ke547,ke523,ke531],[]),315,kc2,[27],0),
  (43,(kl698,[ke548,ke523,ke531],[]),314,kc2,[28],0),
  (44,(kl698,[],[]),313,kc2,[29],0),
  (45,(kl698,[ke514],[]),312,kc2,[30],0),
  (48,(kl698,[ke549],[]),311,kc2,[31],0),
  (49,(kl698,[ke546,ke549],[]),310,kc2,[32],0),
  (50,(kl698,[ke6,ke546,ke549],[]),309,kc2,[33],0),
  (51,(kl698,[],[]),308,kc2,[34],0),
  (52,(kl698,[ke514],[]),307,kc2,[35],0),
  (55,(kl698,[ke550],[]),306,kc2,[36],0),
  (56,(kl698,[ke546,ke550],[]),305,kc2,[37],0),
  (57,(kl698,[ke6,ke546,ke550],[]),304,kc2,[38],0),
  (58,(kl698,[],[]),303,kc2,[39],0),
  (59,(kl698,[ke6],[]),302,kc2,[40],0),
  (61,(kl699,[],[]),300,kc51,[42],0),
  (63,(kl700,[ke8],[]),344,kc2,[43],0),
  (63,(kl699,[ke551],[]),299,kc51,[44],0),
  (64,(kl700,[ke88,ke8],[]),343,kc2,[45],0),
  (64,(kl699,[ke88,ke551],[]),298,kc51,[46],0),
  (67,(kl700,[ke89,ke8],[]),342,kc2,[88,47],0),
  (67,(kl699,[ke89,ke551],[]),297,kc51,[88,47],0),
  (70,(kl701,[],kf154),296,kc51,[48],0),
  (71,(kl701,[ke514],kf154),295,kc51,[49],0),
  (72,(kl701,[ke88,ke514],kf154),294,kc51,[50],0),
  (73,(kl701,[ke184,ke88,ke514],kf154),293,kc51,[52],0),
  (75,(kl700,[ke8,ke184,ke88,ke514],kf154),346,kc2,[53],0),
  (75,(kl701,[ke552,ke184,ke88,ke514],kf154),292,kc51,[54],0),
  (76,(kl700,[ke546,ke8,ke184,ke88,ke514],kf154),345,kc2,[55],267),
  (76,(kl701,[ke546,ke552,ke184,ke88,ke514],kf154),291,kc51,[55],267),
  (79,(kl701,[ke7],kf154),290,kc51,[56],0),
  (81,(kl702,[],kf154),289,kc51,[57],0),
  (82,(kl702,[ke514],kf154),288,kc51,[58],0),
  (85,(kl702,[ke549],kf154),287,kc51,[59],0),
  (86,(kl702,[ke546,ke549],kf154),286,kc51,[60],0),
  (87,(kl702,[ke546,ke549,ke546,ke549],kf154),285,kc51,[61],0),
  (88,(kl702,[ke7,ke546,ke549],kf154),284,kc51,[62],0),
  (90,(kl702,[ke14,ke7,ke546,ke549],kf154),283,kc51,[63],0),
  (91,(kl702,[ke514,ke14,ke7,ke546,ke549],kf154),282,kc51,[64],0)]
def CN268_1 : List ND := [(94,(kl702,[ke522,ke14,ke7,ke546,ke549],kf154),281,kc51,[65],0),
  (95,(kl702,[ke7,ke7,ke546,ke549],kf154),280,kc51,[66],0),
  (96,(kl702,[ke5,ke7,ke7,ke546,ke549],kf154),279,kc51,[67],0),
  (97,(kl702,[ke65,ke7,ke546,ke549],kf154),278,kc51,[68],0),
  (99,(kl702,[ke186,ke65,ke7,ke546,ke549],kf154),277,kc51,[69],0),
  (100,(kl702,[ke52,ke7,ke546,ke549],kf154),276,kc51,[70],0),
  (101,(kl702,[ke7,ke546,ke549],kf154),275,kc51,[71],0),
  (102,(kl702,[],kf154),274,kc51,[72],0),
  (103,(kl702,[ke514],kf154),273,kc51,[73],0),
  (106,(kl702,[ke550],kf154),272,kc51,[74],0),
  (107,(kl702,[ke546,ke550],kf154),271,kc51,[75],0),
  (108,(kl702,[ke546,ke550,ke546,ke550],kf154),270,kc51,[76],0),
  (109,(kl702,[ke7,ke546,ke550],kf154),269,kc51,[77],0),
  (111,(kl702,[ke14,ke7,ke546,ke550],kf154),268,kc51,[78],0),
  (112,(kl702,[ke514,ke14,ke7,ke546,ke550],kf154),267,kc51,[79],0),
  (115,(kl702,[ke523,ke14,ke7,ke546,ke550],kf154),266,kc51,[80],0),
  (116,(kl702,[ke7,ke7,ke546,ke550],kf154),265,kc51,[81],0),
  (117,(kl702,[ke5,ke7,ke7,ke546,ke550],kf154),264,kc51,[82],0),
  (118,(kl702,[ke65,ke7,ke546,ke550],kf154),263,kc51,[83],0),
  (120,(kl702,[ke44,ke65,ke7,ke546,ke550],kf154),262,kc51,[84],0),
  (121,(kl702,[ke52,ke7,ke546,ke550],kf154),261,kc51,[85],0),
  (122,(kl702,[ke7,ke546,ke550],kf154),260,kc51,[86],0),
  (123,(kl702,[],kf154),259,kc51,[87],0),
  (126,(kl703,[],kf154),301,kc51,[40],0),
  (129,(kl699,[],[]),0,kc2,[],0)]
def CN268 : List (List ND) := [CN268_0, CN268_1]
theorem CK268 : chkS prot SMs SM268 [] CN268 = true := by decide +kernel
-- OneSided$Rents.settle
def kl704 : AL := [some ka237,some ka12,some ka62,some ka43,some ka43,none]
def kl705 : AL := [some ka237,some ka12,some ka62,some ka43,some ka43,some ka48]
def kc52 : List Int := [0,0,0,0,0,-19]
def kl706 : AL := [some ka237,some ka12,some ka62,some ka43,some ka43,some ka1]
def kl707 : AL := [some ka237,some ka12,some ka62,some ka43,some ka43,some ka43]
def kl708 : AL := [some ka237,some ka12,some ka62,some ka43,some ka43,some ka49]
def ka251 : AV := (0,0,100,1)
def kl709 : AL := [some ka237,some ka12,some ka62,some ka43,some ka43,some ka251]
def kc53 : List Int := [0,0,0,0,0,-10]
def ke553 : SE := (ka251,(1,5,0,0,0))
def ka252 : AV := (0,100,100,0)
def ke554 : SE := (ka252,pv0)
def kl710 : AL := [some ka237,some ka12,some ka62,some ka43,some ka43,some ka232]
def ke555 : SE := (ka232,(1,5,0,0,0))
def ka253 : AV := (0,1,100,1)
def kl711 : AL := [some ka237,some ka12,some ka62,some ka43,some ka43,some ka253]
def kl712 : AL := [some ka237,some ka12,some ka62,some ka43,some ka43,some ka252]
def CN269_0 : List ND := [(0,(kl704,[],[]),1319,kc4,[1],0),
  (1,(kl704,[ke514],[]),1318,kc4,[2],0),
  (2,(kl704,[ke149,ke514],[]),1317,kc4,[3],0),
  (5,(kl704,[],[]),1316,kc4,[4],0),
  (6,(kl704,[ke514],[]),1315,kc4,[5],0),
  (8,(kl704,[ke509,ke514],[]),1314,kc4,[6],0),
  (11,(kl704,[],[]),1313,kc4,[7],0),
  (12,(kl704,[ke514],[]),1312,kc4,[8],0),
  (13,(kl704,[ke88,ke514],[]),1311,kc4,[9],0),
  (14,(kl704,[ke184,ke88,ke514],[]),1310,kc4,[10],0),
  (15,(kl704,[ke6,ke184,ke88,ke514],[]),1309,kc4,[11],0),
  (16,(kl704,[ke514,ke6,ke184,ke88,ke514],[]),1308,kc4,[12],0),
  (19,(kl704,[ke522,ke6,ke184,ke88,ke514],[]),1307,kc4,[13],261),
  (22,(kl704,[],[]),1306,kc4,[14],0),
  (23,(kl704,[ke514],[]),1305,kc4,[15],0),
  (24,(kl704,[ke88,ke514],[]),1304,kc4,[16],0),
  (25,(kl704,[ke184,ke88,ke514],[]),1303,kc4,[17],0),
  (26,(kl704,[ke5,ke184,ke88,ke514],[]),1302,kc4,[18],0),
  (27,(kl704,[ke514,ke5,ke184,ke88,ke514],[]),1301,kc4,[19],0),
  (30,(kl704,[ke523,ke5,ke184,ke88,ke514],[]),1300,kc4,[20],262),
  (33,(kl704,[],[]),1299,kc4,[21],0),
  (34,(kl704,[ke6],[]),1298,kc4,[22],0),
  (36,(kl705,[],[]),1296,kc52,[24],0),
  (38,(kl706,[ke16],[]),1322,kc4,[25],0),
  (38,(kl705,[ke57],[]),1295,kc52,[26],0),
  (39,(kl706,[ke88,ke16],[]),1321,kc4,[27],0),
  (39,(kl705,[ke88,ke57],[]),1294,kc52,[28],0),
  (42,(kl706,[ke58,ke16],[]),1320,kc4,[54,29],0),
  (42,(kl705,[ke58,ke57],[]),1293,kc52,[54,29],0),
  (45,(kl707,[],kf3),1292,kc52,[30],0),
  (46,(kl707,[ke514],kf3),1291,kc52,[31],0),
  (49,(kl707,[ke531],kf3),1290,kc52,[33],0),
  (51,(kl706,[ke16,ke531],kf3),1332,kc4,[34],0),
  (51,(kl707,[ke59,ke531],kf3),1289,kc52,[35],0),
  (52,(kl706,[ke88,ke16,ke531],kf3),1331,kc4,[36],0),
  (52,(kl707,[ke88,ke59,ke531],kf3),1288,kc52,[37],0),
  (55,(kl706,[ke45,ke16,ke531],kf3),1330,kc4,[38],0),
  (55,(kl707,[ke45,ke59,ke531],kf3),1287,kc52,[39],0),
  (57,(kl706,[ke16,ke45,ke16,ke531],kf3),1329,kc4,[40],0),
  (57,(kl707,[ke59,ke45,ke59,ke531],kf3),1286,kc52,[41],0),
  (58,(kl706,[ke62,ke16,ke531],kf3),1328,kc4,[42],0),
  (58,(kl707,[ke47,ke59,ke531],kf3),1285,kc52,[43],0),
  (61,(kl706,[ke52,ke16,ke531],kf3),1327,kc4,[44],0),
  (61,(kl707,[ke52,ke59,ke531],kf3),1284,kc52,[45],0),
  (63,(kl706,[ke475,ke52,ke16,ke531],kf3),1326,kc4,[46],0),
  (63,(kl707,[ke475,ke52,ke59,ke531],kf3),1283,kc52,[47],0),
  (64,(kl706,[ke547,ke16,ke531],kf3),1325,kc4,[48],0),
  (64,(kl707,[ke547,ke59,ke531],kf3),1282,kc52,[49],0),
  (65,(kl706,[ke5,ke547,ke16,ke531],kf3),1324,kc4,[50],0),
  (65,(kl707,[ke5,ke547,ke59,ke531],kf3),1281,kc52,[51],0),
  (66,(kl706,[ke548,ke16,ke531],kf3),1323,kc4,[52],0),
  (66,(kl707,[ke548,ke59,ke531],kf3),1280,kc52,[52],0),
  (67,(kl707,[],kf3),1279,kc52,[53],0),
  (70,(kl708,[],kf3),1297,kc52,[22],0),
  (73,(kl705,[],[]),1012,kc4,[55],0),
  (74,(kl705,[ke6],[]),1011,kc4,[56],0),
  (76,(kl709,[],[]),1009,kc53,[58],0),
  (78,(kl706,[ke16],[]),1334,kc4,[59],0),
  (78,(kl709,[ke553],[]),1008,kc53,[60],0),
  (80,(kl706,[ke554,ke16],[]),1333,kc4,[61],0),
  (80,(kl709,[ke554,ke553],[]),1007,kc53,[69,61],0),
  (83,(kl710,[],[]),1006,kc53,[62],0),
  (84,(kl710,[ke514],[]),1005,kc53,[63],0),
  (85,(kl710,[ke88,ke514],[]),1004,kc53,[64],0)]
def CN269_1 : List ND := [(86,(kl710,[ke184,ke88,ke514],[]),1003,kc53,[66],0),
  (88,(kl706,[ke16,ke184,ke88,ke514],[]),1335,kc4,[67],268),
  (88,(kl710,[ke555,ke184,ke88,ke514],[]),1002,kc53,[67],268),
  (91,(kl710,[],[]),1001,kc53,[68],0),
  (94,(kl711,[],[]),1010,kc53,[56],0),
  (97,(kl712,[],[]),0,kc4,[],0)]
def CN269 : List (List ND) := [CN269_0, CN269_1]
theorem CK269 : chkS prot SMs SM269 [] CN269 = true := by decide +kernel
-- OneSided$Rents.isRest
def kl713 : AL := [some ka237,some ka232,none]
def kl714 : AL := [some ka237,some ka232,some ka172]
def kc54 : List Int := [0,0,-35]
def kl715 : AL := [some ka237,some ka232,some ka1]
def kl716 : AL := [some ka237,some ka232,some ka36]
def ke556 : SE := (ka232,(1,1,0,0,0))
def kl717 : AL := [some ka237,some ka232,some ka173]
def kl718 : AL := [some ka237,some ka232,some ka135]
def CN277_0 : List ND := [(0,(kl713,[],[]),392,kc1,[1],0),
  (1,(kl713,[ke6],[]),391,kc1,[2],0),
  (2,(kl714,[],[]),389,kc54,[4],0),
  (3,(kl715,[ke77],[]),394,kc1,[5],0),
  (3,(kl714,[ke479],[]),388,kc54,[6],0),
  (5,(kl715,[ke339,ke77],[]),393,kc1,[7],0),
  (5,(kl714,[ke339,ke479],[]),387,kc54,[50,7],0),
  (8,(kl716,[],[]),386,kc54,[8],0),
  (9,(kl716,[ke514],[]),385,kc54,[9],0),
  (12,(kl716,[ke549],[]),384,kc54,[11],0),
  (13,(kl715,[ke77,ke549],[]),400,kc1,[12],0),
  (13,(kl716,[ke191,ke549],[]),383,kc54,[13],0),
  (15,(kl715,[ke339,ke77,ke549],[]),399,kc1,[14],0),
  (15,(kl716,[ke339,ke191,ke549],[]),382,kc54,[15],0),
  (16,(kl715,[ke6,ke549],[]),398,kc1,[16],0),
  (16,(kl716,[ke485,ke549],[]),381,kc54,[17],0),
  (17,(kl715,[ke556,ke6,ke549],[]),397,kc1,[18],0),
  (17,(kl716,[ke556,ke485,ke549],[]),380,kc54,[19],0),
  (19,(kl715,[ke339,ke556,ke6,ke549],[]),396,kc1,[20],0),
  (19,(kl716,[ke339,ke556,ke485,ke549],[]),379,kc54,[21],0),
  (20,(kl715,[ke52,ke6,ke549],[]),395,kc1,[22],0),
  (20,(kl716,[ke52,ke485,ke549],[]),378,kc54,[22],0),
  (21,(kl716,[ke486,ke549],[]),377,kc54,[23],0),
  (22,(kl716,[ke7],[]),376,kc54,[24],0),
  (23,(kl716,[ke514,ke7],[]),375,kc54,[25],0),
  (26,(kl716,[ke549,ke7],[]),374,kc54,[26],0),
  (27,(kl716,[ke556,ke549,ke7],[]),373,kc54,[27],0),
  (28,(kl716,[ke7,ke7],[]),372,kc54,[30,28],0),
  (31,(kl716,[],[]),3,kc1,[29],0),
  (32,(kl716,[ke6],[]),2,kc1,[],0),
  (33,(kl716,[],[]),371,kc54,[31],0),
  (34,(kl716,[ke514],[]),370,kc54,[32],0),
  (37,(kl716,[ke550],[]),369,kc54,[33],0),
  (38,(kl716,[ke556,ke550],[]),368,kc54,[34],0),
  (40,(kl716,[ke339,ke556,ke550],[]),367,kc54,[35],0),
  (41,(kl716,[ke52,ke550],[]),366,kc54,[36],0),
  (43,(kl716,[ke339,ke52,ke550],[]),365,kc54,[37],0),
  (44,(kl716,[ke485,ke550],[]),364,kc54,[39],0),
  (45,(kl715,[ke77,ke485,ke550],[]),401,kc1,[40],0),
  (45,(kl716,[ke191,ke485,ke550],[]),363,kc54,[40],0),
  (46,(kl716,[ke486,ke550],[]),362,kc54,[41],0),
  (47,(kl716,[ke7],[]),361,kc54,[42],0),
  (48,(kl716,[ke514,ke7],[]),360,kc54,[43],0),
  (51,(kl716,[ke550,ke7],[]),359,kc54,[44],0),
  (52,(kl716,[ke556,ke550,ke7],[]),358,kc54,[45],0),
  (53,(kl716,[ke7,ke7],[]),357,kc54,[48,46],0),
  (56,(kl716,[],[]),5,kc1,[47],0),
  (57,(kl716,[ke6],[]),4,kc1,[],0),
  (58,(kl716,[],[]),356,kc54,[49],0),
  (61,(kl717,[],[]),390,kc54,[2],0),
  (64,(kl718,[],[]),1,kc1,[51],0),
  (65,(kl718,[ke5],[]),0,kc1,[],1)]
def CN277 : List (List ND) := [CN277_0]
theorem CK277 : chkS prot SMs SM277 [] CN277 = true := by decide +kernel
-- OneSided$Rents.restCount
def kl719 : AL := [some ka237,none,none]
def kl720 : AL := [some ka237,some ka1,none]
def kl721 : AL := [some ka237,some ka0,some ka251]
def kc55 : List Int := [0,0,-17]
def kl722 : AL := [some ka237,some ka1,some ka1]
def ke557 : SE := (ka251,(1,2,0,0,0))
def kl723 : AL := [some ka237,some ka0,some ka232]
def kl724 : AL := [some ka237,some ka0,some ka253]
def kl725 : AL := [some ka237,some ka0,some ka252]
def CN278_0 : List ND := [(0,(kl719,[],[]),1722,kc1,[1],0),
  (1,(kl719,[ke6],[]),1721,kc1,[2],0),
  (2,(kl720,[],[]),1720,kc1,[3],0),
  (3,(kl720,[ke6],[]),1719,kc1,[4],0),
  (4,(kl721,[],[]),1717,kc55,[6],0),
  (5,(kl722,[ke77],[]),1724,kc1,[7],0),
  (5,(kl721,[ke557],[]),1716,kc55,[8],0),
  (7,(kl722,[ke554,ke77],[]),1723,kc1,[9],0),
  (7,(kl721,[ke554,ke557],[]),1715,kc55,[35,9],0),
  (10,(kl723,[],[]),1714,kc55,[11],0),
  (11,(kl722,[ke74],[]),1736,kc1,[12],0),
  (11,(kl723,[ke1],[]),1713,kc55,[13],0),
  (12,(kl722,[ke514,ke74],[]),1735,kc1,[14],0),
  (12,(kl723,[ke514,ke1],[]),1712,kc55,[15],0),
  (13,(kl722,[ke77,ke514,ke74],[]),1734,kc1,[16,17],277),
  (13,(kl723,[ke518,ke514,ke1],[]),1711,kc55,[18,19],277),
  (16,(kl722,[ke6,ke74],[]),1728,kc1,[24],0),
  (16,(kl722,[ke5,ke74],[]),1733,kc1,[20],0),
  (16,(kl723,[ke6,ke1],[]),1710,kc55,[25],0),
  (16,(kl723,[ke5,ke1],[]),1707,kc55,[21],0),
  (19,(kl722,[ke74],[]),1732,kc1,[22],0),
  (19,(kl723,[ke1],[]),1706,kc55,[23],0),
  (20,(kl722,[ke5,ke74],[]),1731,kc1,[27],0),
  (20,(kl723,[ke5,ke1],[]),1705,kc55,[29],0),
  (23,(kl722,[ke74],[]),1727,kc1,[26],0),
  (23,(kl723,[ke1],[]),1709,kc55,[28],0),
  (24,(kl722,[ke6,ke74],[]),1726,kc1,[30],0),
  (24,(kl722,[ke5,ke74],[]),1730,kc1,[31],0),
  (24,(kl723,[ke6,ke1],[]),1708,kc55,[32],0),
  (24,(kl723,[ke5,ke1],[]),1704,kc55,[32],0),
  (25,(kl722,[ke6],[]),1725,kc1,[33],0),
  (25,(kl722,[ke5],[]),1729,kc1,[33],0),
  (25,(kl723,[ke7],[]),1703,kc55,[33],0),
  (26,(kl723,[],[]),1702,kc55,[34],0),
  (29,(kl724,[],[]),1718,kc55,[4],0),
  (32,(kl725,[],[]),1,kc1,[36],0),
  (33,(kl725,[ke1],[]),0,kc1,[],0)]
def CN278 : List (List ND) := [CN278_0]
theorem CK278 : chkS prot SMs SM278 [] CN278 = true := by decide +kernel
-- OneSided$Rents.restAt
def kl726 : AL := [some ka237,some ka39,none,none]
def kl727 : AL := [some ka237,some ka39,some ka39,none]
def kl728 : AL := [some ka237,some ka39,some ka39,some ka251]
def kc56 : List Int := [0,0,0,-13]
def kl729 : AL := [some ka237,some ka39,some ka39,some ka1]
def ke558 : SE := (ka251,(1,3,0,0,0))
def kl730 : AL := [some ka237,some ka39,some ka39,some ka232]
def kl731 : AL := [some ka237,some ka39,some ka1,some ka232]
def kl732 : AL := [some ka237,some ka39,some ka1,some ka1]
def kl733 : AL := [some ka237,some ka39,some ka102,some ka232]
def kl734 : AL := [some ka237,some ka39,some ka39,some ka253]
def kl735 : AL := [some ka237,some ka39,some ka39,some ka252]
def CN279_0 : List ND := [(0,(kl726,[],[]),1320,kc10,[1],0),
  (1,(kl726,[ke121],[]),1319,kc10,[2],0),
  (2,(kl727,[],[]),1318,kc10,[3],0),
  (3,(kl727,[ke6],[]),1317,kc10,[4],0),
  (4,(kl728,[],[]),1315,kc56,[6],0),
  (5,(kl729,[ke63],[]),1322,kc10,[7],0),
  (5,(kl728,[ke558],[]),1314,kc56,[8],0),
  (7,(kl729,[ke554,ke63],[]),1321,kc10,[9],0),
  (7,(kl728,[ke554,ke558],[]),1313,kc56,[23,9],0),
  (10,(kl730,[],[]),1312,kc56,[10],0),
  (11,(kl730,[ke514],[]),1311,kc56,[12],0),
  (12,(kl729,[ke63,ke514],[]),1323,kc10,[13,14],277),
  (12,(kl730,[ke546,ke514],[]),1310,kc56,[13,14],277),
  (15,(kl730,[ke6],[]),1305,kc56,[21],0),
  (15,(kl730,[ke5],[]),1309,kc56,[15],0),
  (18,(kl730,[],[]),1308,kc56,[16],0),
  (19,(kl730,[ke136],[]),1307,kc56,[20,17],0),
  (22,(kl731,[],[]),1,kc10,[19],0),
  (23,(kl732,[ke63],[]),1324,kc10,[],0),
  (23,(kl731,[ke546],[]),0,kc10,[],0),
  (24,(kl733,[],[]),1306,kc56,[21],0),
  (27,(kl730,[],[]),1304,kc56,[22],0),
  (30,(kl734,[],[]),1316,kc56,[4],0),
  (33,(kl735,[],[]),3,kc10,[24],0),
  (34,(kl735,[ke41],[]),2,kc10,[],0)]
def CN279 : List (List ND) := [CN279_0]
theorem CK279 : chkS prot SMs SM279 [] CN279 = true := by decide +kernel
-- OneSided.rests
def kl736 : AL := [some ka72,some ka43,some ka0,some ka0]
def kl737 : AL := [some ka72,some ka43,some ka43,some ka0]
def kl738 : AL := [some ka72,some ka43,some ka43,some ka170]
def ke559 : SE := (ka237,(2,1,14,0,0))
def ke560 : SE := (ka170,(1,3,0,0,0))
def kl739 : AL := [some ka72,some ka43,some ka43,some ka42]
def kl740 : AL := [some ka72,some ka43,some ka43,some ka39]
def CN280_0 : List ND := [(0,(kl434,[],[]),45,kc10,[1],0),
  (1,(kl434,[ke103],[]),44,kc10,[2],0),
  (2,(kl434,[ke1,ke103],[]),43,kc10,[4,3],260),
  (5,(kl434,[ke6],[]),42,kc10,[16],0),
  (5,(kl736,[ke5],[]),41,kc10,[5],0),
  (8,(kl736,[],[]),40,kc10,[6],0),
  (9,(kl736,[ke103],[]),39,kc10,[7],0),
  (10,(kl736,[ke2,ke103],[]),38,kc10,[9,8],260),
  (13,(kl736,[ke6],[]),37,kc10,[16],0),
  (13,(kl737,[ke5],[]),36,kc10,[10],0),
  (16,(kl737,[],[]),35,kc10,[11],0),
  (17,(kl737,[ke46],[]),34,kc10,[12],0),
  (18,(kl737,[ke83,ke46],[]),33,kc10,[16,13],0),
  (21,(kl737,[],[]),32,kc10,[14],0),
  (22,(kl737,[ke3],[]),31,kc10,[15],0),
  (23,(kl737,[ke41,ke3],[]),30,kc10,[18,16],0),
  (26,(kl434,[],[]),1,kc10,[17],0),
  (27,(kl434,[ke41],[]),0,kc10,[],0),
  (28,(kl738,[],[]),29,kc10,[19],0),
  (29,(kl738,[ke103],[]),28,kc10,[20],0),
  (32,(kl738,[ke559],[]),27,kc10,[21],0),
  (33,(kl738,[ke103,ke559],[]),26,kc10,[23,22],0),
  (36,(kl738,[ke105,ke559],[]),19,kc10,[24],0),
  (36,(kl738,[ke106,ke559],[]),25,kc10,[25],0),
  (37,(kl738,[ke103,ke105,ke559],[]),18,kc10,[26],0),
  (37,(kl738,[ke103,ke106,ke559],[]),24,kc10,[27],0),
  (40,(kl738,[ke114,ke105,ke559],[]),17,kc10,[28],0),
  (40,(kl738,[ke114,ke106,ke559],[]),23,kc10,[29],0),
  (43,(kl738,[ke102,ke105,ke559],[]),16,kc10,[30],0),
  (43,(kl738,[ke102,ke106,ke559],[]),22,kc10,[31],0),
  (44,(kl738,[ke46,ke102,ke105,ke559],[]),15,kc10,[32],0),
  (44,(kl738,[ke46,ke102,ke106,ke559],[]),21,kc10,[33],0),
  (45,(kl738,[ke83,ke46,ke102,ke105,ke559],[]),14,kc10,[34],276),
  (45,(kl738,[ke83,ke46,ke102,ke106,ke559],[]),20,kc10,[34],269),
  (48,(kl738,[],[]),13,kc10,[35],0),
  (49,(kl738,[ke560],[]),12,kc10,[36],0),
  (50,(kl738,[ke41,ke560],[]),11,kc10,[41,37],0),
  (53,(kl739,[],[]),6,kc10,[38],0),
  (54,(kl739,[ke103],[]),5,kc10,[39],0),
  (57,(kl739,[ke559],[]),4,kc10,[40],278),
  (60,(kl739,[ke7],[]),3,kc10,[45],0),
  (63,(kl740,[],[]),10,kc10,[42],0),
  (64,(kl740,[ke103],[]),9,kc10,[43],0),
  (67,(kl740,[ke559],[]),8,kc10,[44],0),
  (68,(kl740,[ke38,ke559],[]),7,kc10,[45],279),
  (71,(kl738,[ke7],[]),2,kc10,[],0)]
def CN280 : List (List ND) := [CN280_0]
theorem CK280 : chkS prot SMs SM280 [] CN280 = true := by decide +kernel
-- OneSided$Web.growCaught
def ka254 : AV := (2,80,80,0)
def kl741 : AL := [some ka254,some ka12,some ka0,some ka0,none,none,none,none]
def kl742 : AL := [some ka254,some ka12,some ka0,some ka0,some ka172,none,none,none]
def kc57 : List Int := [0,0,0,0,-273,0,0,0]
def kl743 : AL := [some ka254,some ka12,some ka0,some ka0,some ka1,none,none,none]
def kl744 : AL := [some ka254,some ka12,some ka0,some ka0,some ka36,none,none,none]
def kl745 : AL := [some ka254,some ka12,some ka0,some ka0,some ka36,some ka47,none,none]
def kl746 : AL := [some ka254,some ka12,some ka0,some ka0,some ka36,some ka47,some ka42,none]
def kl747 : AL := [some ka254,some ka12,some ka0,some ka0,some ka36,some ka47,some ka0,some ka172]
def kc58 : List Int := [0,0,0,0,-273,0,0,-22]
def kl748 : AL := [some ka254,some ka12,some ka0,some ka0,some ka1,some ka47,some ka42,some ka1]
def kl749 : AL := [some ka254,some ka12,some ka0,some ka0,some ka36,some ka47,some ka0,some ka36]
def ke561 : SE := (ka42,(1,6,0,0,0))
def ke562 : SE := (ka254,(1,0,0,0,0))
def ka255 : AV := (2,82,82,0)
def ke563 : SE := (ka255,(2,80,1,0,0))
def ke564 : SE := (ka0,(2,82,0,0,0))
def kl750 : AL := [some ka254,some ka12,some ka0,some ka0,some ka36,some ka47,some ka0,some ka173]
def kl751 : AL := [some ka254,some ka12,some ka0,some ka0,some ka36,some ka47,some ka0,some ka88]
def ka256 : AV := (2,83,83,0)
def ke565 : SE := (ka256,(2,80,2,0,0))
def kl752 : AL := [some ka254,some ka12,some ka0,some ka0,some ka1,some ka47,some ka0,some ka88]
def kl753 : AL := [some ka254,some ka12,some ka0,some ka0,some ka173,some ka47,some ka0,some ka88]
def kl754 : AL := [some ka254,some ka12,some ka0,some ka0,some ka88,none,none,none]
def kl755 : AL := [some ka254,some ka12,some ka0,some ka0,some ka47,some ka172,none,none]
def kc59 : List Int := [0,0,0,0,0,-55,0,0]
def kl756 : AL := [some ka254,some ka12,some ka0,some ka0,some ka1,some ka1,none,none]
def kl757 : AL := [some ka254,some ka12,some ka0,some ka0,some ka47,some ka36,none,none]
def ka257 : AV := (2,81,81,0)
def ke566 : SE := (ka257,(2,80,0,0,0))
def ke567 : SE := (ka0,(2,81,0,0,0))
def kl758 : AL := [some ka254,some ka12,some ka0,some ka0,some ka47,some ka36,some ka0,none]
def kl759 : AL := [some ka254,some ka12,some ka0,some ka0,some ka1,some ka1,some ka0,none]
def kf155 : FA := [(5,0,ka88),(82,0,ka0)]
def ke568 : SE := (ka0,(2,83,0,0,0))
def kf156 : FA := [(5,0,ka88),(81,0,ka0),(82,0,ka0),(83,0,ka0)]
def kl760 : AL := [some ka254,some ka12,some ka0,some ka0,some ka47,some ka1,some ka0,none]
def kl761 : AL := [some ka254,some ka12,some ka0,some ka0,some ka47,some ka173,some ka0,none]
def kl762 : AL := [some ka254,some ka12,some ka0,some ka0,some ka47,some ka88,none,none]
def CN281_0 : List ND := [(0,(kl741,[],[]),3615,kc2,[1],0),
  (1,(kl741,[ke6],[]),3614,kc2,[2],0),
  (3,(kl742,[],[]),3612,kc57,[4],0),
  (5,(kl743,[ke67],[]),3618,kc2,[5],0),
  (5,(kl742,[ke483],[]),3611,kc57,[6],0),
  (6,(kl743,[ke88,ke67],[]),3617,kc2,[7],0),
  (6,(kl742,[ke88,ke483],[]),3610,kc57,[8],0),
  (9,(kl743,[ke358,ke67],[]),3616,kc2,[9],0),
  (9,(kl742,[ke358,ke483],[]),3609,kc57,[89,9],0),
  (12,(kl744,[],[]),3608,kc57,[10],0),
  (13,(kl744,[ke5],[]),3607,kc57,[12],0),
  (15,(kl743,[ke67,ke5],kf65),3627,kc2,[13],0),
  (15,(kl744,[ke186,ke5],[]),3606,kc57,[14],0),
  (16,(kl743,[ke5],kf65),3626,kc2,[15],0),
  (16,(kl744,[ke181],[]),3605,kc57,[16],0),
  (17,(kl743,[ke88,ke5],kf65),3625,kc2,[17],0),
  (17,(kl744,[ke88,ke181],[]),3604,kc57,[18],0),
  (18,(kl743,[ke2,ke88,ke5],kf65),3624,kc2,[19],0),
  (18,(kl744,[ke2,ke88,ke181],[]),3603,kc57,[20],0),
  (19,(kl743,[ke3,ke2,ke88,ke5],kf65),3623,kc2,[21],0),
  (19,(kl744,[ke3,ke2,ke88,ke181],[]),3602,kc57,[22],0),
  (20,(kl743,[ke5,ke3,ke2,ke88,ke5],kf65),3622,kc2,[23],0),
  (20,(kl744,[ke5,ke3,ke2,ke88,ke181],[]),3601,kc57,[24],0),
  (22,(kl743,[ke67,ke5,ke3,ke2,ke88,ke5],kf65),3621,kc2,[25],0),
  (22,(kl744,[ke186,ke5,ke3,ke2,ke88,ke181],[]),3600,kc57,[26],0),
  (23,(kl743,[ke5,ke3,ke2,ke88,ke5],kf65),3620,kc2,[27],177),
  (23,(kl744,[ke181,ke3,ke2,ke88,ke181],[]),3599,kc57,[28],177),
  (26,(kl743,[ke54,ke5],kf65),3619,kc2,[29],0),
  (26,(kl744,[ke54,ke181],[]),3598,kc57,[29],0),
  (27,(kl744,[ke54],[]),3597,kc57,[30],0),
  (29,(kl745,[],[]),3596,kc57,[31],0),
  (30,(kl745,[ke41],[]),3595,kc57,[32],0),
  (32,(kl746,[],[]),3594,kc57,[33],0),
  (33,(kl746,[ke6],[]),3593,kc57,[34],0),
  (35,(kl747,[],[]),3591,kc58,[36],0),
  (37,(kl748,[ke216],kf65),3630,kc2,[37],0),
  (37,(kl747,[ke357],[]),3590,kc58,[38],0),
  (38,(kl748,[ke88,ke216],kf65),3629,kc2,[39],0),
  (38,(kl747,[ke88,ke357],[]),3589,kc58,[40],0),
  (41,(kl748,[ke358,ke216],kf65),3628,kc2,[41],0),
  (41,(kl747,[ke358,ke357],[]),3588,kc58,[72,41],0),
  (44,(kl749,[],[]),3587,kc58,[43],0),
  (46,(kl748,[ke561],kf65),3643,kc2,[44],0),
  (46,(kl749,[ke183],[]),3586,kc58,[45],0),
  (48,(kl748,[ke348,ke561],kf65),3642,kc2,[46],0),
  (48,(kl749,[ke348,ke183],[]),3585,kc58,[47],0),
  (50,(kl748,[ke216,ke348,ke561],kf65),3641,kc2,[48],0),
  (50,(kl749,[ke359,ke348,ke183],[]),3584,kc58,[49],0),
  (51,(kl748,[ke54,ke561],kf65),3640,kc2,[50],0),
  (51,(kl749,[ke54,ke183],[]),3583,kc58,[51],0),
  (52,(kl748,[ke5,ke54,ke561],kf65),3639,kc2,[52],0),
  (52,(kl749,[ke5,ke54,ke183],[]),3582,kc58,[53],0),
  (53,(kl748,[ke65,ke561],kf65),3638,kc2,[64,54],0),
  (53,(kl749,[ke65,ke183],[]),3581,kc58,[65,55],0),
  (56,(kl748,[ke561],kf65),3637,kc2,[56],0),
  (56,(kl749,[ke183],[]),3578,kc58,[57],0),
  (57,(kl748,[ke562,ke561],kf65),3636,kc2,[58],0),
  (57,(kl749,[ke562,ke183],[]),3577,kc58,[59],0),
  (60,(kl748,[ke563,ke561],kf65),3635,kc2,[60],0),
  (60,(kl749,[ke563,ke183],[]),3576,kc58,[61],0),
  (62,(kl748,[ke216,ke563,ke561],kf65),3634,kc2,[62],0),
  (62,(kl749,[ke359,ke563,ke183],[]),3575,kc58,[63],0),
  (63,(kl748,[ke564,ke561],kf65),3633,kc2,[67],0),
  (63,(kl749,[ke7,ke183],[]),3574,kc58,[68],0)]
def CN281_1 : List ND := [(66,(kl748,[ke561],kf65),3632,kc2,[66],0),
  (66,(kl749,[ke183],[]),3580,kc58,[67],0),
  (67,(kl748,[ke41,ke561],kf65),3631,kc2,[69],0),
  (67,(kl749,[ke7,ke183],[]),3579,kc58,[69],0),
  (67,(kl749,[ke7,ke183],[]),3573,kc58,[69],0),
  (68,(kl749,[ke7],[]),3572,kc58,[70],0),
  (70,(kl749,[],[]),3571,kc58,[71],0),
  (73,(kl750,[],[]),3592,kc58,[34],0),
  (76,(kl751,[],[]),3350,kc57,[73],0),
  (77,(kl751,[ke562],[]),3349,kc57,[74],0),
  (80,(kl751,[ke565],[]),3348,kc57,[76],0),
  (82,(kl752,[ke67,ke565],[]),3649,kc2,[77],0),
  (82,(kl751,[ke186,ke565],[]),3347,kc57,[78],0),
  (84,(kl752,[ke183,ke67,ke565],[]),3648,kc2,[79],0),
  (84,(kl751,[ke183,ke186,ke565],[]),3346,kc57,[80],0),
  (85,(kl752,[ke5,ke183,ke67,ke565],[]),3647,kc2,[81],0),
  (85,(kl751,[ke5,ke183,ke186,ke565],[]),3345,kc57,[82],0),
  (87,(kl752,[ke67,ke5,ke183,ke67,ke565],[]),3646,kc2,[83],0),
  (87,(kl751,[ke186,ke5,ke183,ke186,ke565],[]),3344,kc57,[84],0),
  (88,(kl752,[ke5,ke183,ke67,ke565],[]),3645,kc2,[85],0),
  (88,(kl751,[ke181,ke183,ke186,ke565],[]),3343,kc57,[86],0),
  (89,(kl752,[ke7,ke67,ke565],[]),3644,kc2,[87],0),
  (89,(kl751,[ke7,ke186,ke565],[]),3342,kc57,[87],0),
  (90,(kl751,[],[]),3341,kc57,[88],0),
  (93,(kl753,[],[]),3613,kc57,[2],0),
  (96,(kl754,[],[]),610,kc2,[90],0),
  (97,(kl754,[ke6],[]),609,kc2,[91],0),
  (99,(kl743,[],[]),608,kc2,[92],0),
  (100,(kl743,[ke6],[]),607,kc2,[93],0),
  (102,(kl755,[],[]),605,kc59,[95],0),
  (104,(kl756,[ke16],[]),3652,kc2,[96],0),
  (104,(kl755,[ke352],[]),604,kc59,[97],0),
  (105,(kl756,[ke88,ke16],[]),3651,kc2,[98],0),
  (105,(kl755,[ke88,ke352],[]),603,kc59,[99],0),
  (108,(kl756,[ke358,ke16],[]),3650,kc2,[100],0),
  (108,(kl755,[ke358,ke352],[]),602,kc59,[180,100],0),
  (111,(kl757,[],[]),601,kc59,[101],0),
  (112,(kl757,[ke562],[]),600,kc59,[102],0),
  (115,(kl757,[ke566],[]),599,kc59,[104],0),
  (117,(kl756,[ke16,ke566],kf65),3653,kc2,[105],0),
  (117,(kl757,[ke44,ke566],[]),598,kc59,[105],0),
  (118,(kl757,[ke7],[]),597,kc59,[106],0),
  (119,(kl757,[ke88,ke7],[]),596,kc59,[107],0),
  (120,(kl757,[ke3,ke88,ke7],[]),595,kc59,[108],0),
  (121,(kl757,[ke2,ke3,ke88,ke7],[]),594,kc59,[109],0),
  (122,(kl757,[ke562,ke2,ke3,ke88,ke7],[]),593,kc59,[110],0),
  (125,(kl757,[ke566,ke2,ke3,ke88,ke7],[]),592,kc59,[112],0),
  (127,(kl756,[ke16,ke566,ke2,ke3,ke88,ke567],kf65),3654,kc2,[113],0),
  (127,(kl757,[ke44,ke566,ke2,ke3,ke88,ke7],[]),591,kc59,[113],0),
  (128,(kl757,[ke7,ke2,ke3,ke88,ke7],[]),590,kc59,[114],177),
  (131,(kl757,[ke54,ke7],[]),589,kc59,[115],0),
  (132,(kl757,[ke7],[]),588,kc59,[116],0),
  (134,(kl758,[],[]),587,kc59,[118],0),
  (136,(kl759,[ke67],kf65),3674,kc2,[119],0),
  (136,(kl758,[ke180],[]),586,kc59,[120],0),
  (138,(kl759,[ke183,ke67],kf65),3673,kc2,[121],0),
  (138,(kl758,[ke183,ke180],[]),585,kc59,[122],0),
  (139,(kl759,[ke562,ke183,ke67],kf65),3672,kc2,[123],0),
  (139,(kl758,[ke562,ke183,ke180],[]),584,kc59,[124],0),
  (142,(kl759,[ke563,ke183,ke67],kf65),3671,kc2,[125],0),
  (142,(kl758,[ke563,ke183,ke180],[]),583,kc59,[126],0),
  (144,(kl759,[ke16,ke563,ke183,ke67],kf65),3670,kc2,[127],0),
  (144,(kl758,[ke44,ke563,ke183,ke180],[]),582,kc59,[128],0),
  (145,(kl759,[ke564,ke183,ke67],kf65),3669,kc2,[147,129],0)]
def CN281_2 : List ND := [(145,(kl758,[ke7,ke183,ke180],[]),581,kc59,[148,130],0),
  (148,(kl759,[ke67],kf155),3668,kc2,[131],0),
  (148,(kl758,[ke180],[]),580,kc59,[132],0),
  (149,(kl759,[ke562,ke67],kf155),3667,kc2,[133],0),
  (149,(kl758,[ke562,ke180],[]),579,kc59,[134],0),
  (152,(kl759,[ke565,ke67],kf155),3666,kc2,[135],0),
  (152,(kl758,[ke565,ke180],[]),578,kc59,[136],0),
  (154,(kl759,[ke16,ke565,ke67],kf155),3665,kc2,[137],0),
  (154,(kl758,[ke44,ke565,ke180],[]),577,kc59,[138],0),
  (155,(kl759,[ke568,ke67],kf155),3664,kc2,[139],0),
  (155,(kl758,[ke7,ke180],[]),576,kc59,[140],0),
  (156,(kl759,[ke562,ke568,ke67],kf155),3663,kc2,[141],0),
  (156,(kl758,[ke562,ke7,ke180],[]),575,kc59,[142],0),
  (159,(kl759,[ke566,ke568,ke67],kf155),3662,kc2,[143],0),
  (159,(kl758,[ke566,ke7,ke180],[]),574,kc59,[144],0),
  (161,(kl759,[ke16,ke566,ke568,ke67],kf155),3661,kc2,[145],0),
  (161,(kl758,[ke44,ke566,ke7,ke180],[]),573,kc59,[146],0),
  (162,(kl759,[ke567,ke568,ke67],kf155),3660,kc2,[151,147],0),
  (162,(kl758,[ke7,ke7,ke180],[]),572,kc59,[152,148],0),
  (165,(kl759,[ke67],kf155),3657,kc2,[149],0),
  (165,(kl758,[ke180],[]),569,kc59,[150],0),
  (166,(kl759,[ke5,ke67],kf155),3656,kc2,[154],0),
  (166,(kl758,[ke5,ke180],[]),568,kc59,[156],0),
  (169,(kl759,[ke67],kf156),3659,kc2,[153],0),
  (169,(kl758,[ke180],[]),571,kc59,[155],0),
  (170,(kl759,[ke6,ke67],kf156),3658,kc2,[157],0),
  (170,(kl759,[ke5,ke67],kf155),3655,kc2,[157],0),
  (170,(kl758,[ke6,ke180],[]),570,kc59,[157],0),
  (170,(kl758,[ke5,ke180],[]),567,kc59,[157],0),
  (171,(kl758,[ke54],[]),566,kc59,[158],0),
  (173,(kl758,[],[]),565,kc59,[159],0),
  (174,(kl758,[ke562],[]),564,kc59,[160],0),
  (177,(kl758,[ke563],[]),563,kc59,[162],0),
  (179,(kl760,[ke16,ke563],kf155),3676,kc2,[163],0),
  (179,(kl758,[ke44,ke563],[]),562,kc59,[164],0),
  (181,(kl760,[ke183,ke16,ke563],kf155),3675,kc2,[165],0),
  (181,(kl758,[ke183,ke44,ke563],[]),561,kc59,[165],0),
  (182,(kl758,[],[]),560,kc59,[166],0),
  (183,(kl758,[ke562],[]),559,kc59,[167],0),
  (186,(kl758,[ke566],[]),558,kc59,[169],0),
  (188,(kl760,[ke16,ke566],kf65),3681,kc2,[170],0),
  (188,(kl758,[ke44,ke566],[]),557,kc59,[171],0),
  (189,(kl760,[ke562,ke16,ke566],kf65),3680,kc2,[172],0),
  (189,(kl758,[ke562,ke44,ke566],[]),556,kc59,[173],0),
  (192,(kl760,[ke565,ke16,ke566],kf65),3679,kc2,[174],0),
  (192,(kl758,[ke565,ke44,ke566],[]),555,kc59,[175],0),
  (194,(kl760,[ke16,ke565,ke16,ke566],kf65),3678,kc2,[176],0),
  (194,(kl758,[ke44,ke565,ke44,ke566],[]),554,kc59,[177],0),
  (195,(kl760,[ke568,ke16,ke566],kf65),3677,kc2,[178],0),
  (195,(kl758,[ke7,ke44,ke566],[]),553,kc59,[178],0),
  (196,(kl758,[],[]),552,kc59,[179],0),
  (199,(kl761,[],[]),606,kc59,[93],0),
  (202,(kl762,[],[]),1,kc2,[181],0),
  (204,(kl762,[ke180],[]),0,kc2,[],0)]
def CN281 : List (List ND) := [CN281_0, CN281_1, CN281_2]
theorem CK281 : chkS prot SMs SM281 [] CN281 = true := by decide +kernel
