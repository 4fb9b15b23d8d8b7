/-! LM, by program: certificates C 11 -/
-- OneSided$Finder.countComers [(90, 90), (0, 140)]
def Cka297 : AV := (0,0,140,1)
def Ckl1528 : AL := [some Cka265,some Cka297,none,none,none]
def Ckl1529 : AL := [some Cka265,some Cka297,some Cka92,none,none]
def Ckc43 : List Int := [0,0,-245,0,0]
def Ckl1530 : AL := [some Cka265,some Cka297,some Cka7,none,none]
def Ckl1531 : AL := [some Cka265,some Cka297,some Cka77,none,none]
def Cka298 : AV := (2,94,94,0)
def Cke646 : SE := (Cka298,(2,90,11,0,0))
def Cke647 : SE := (Cka297,(1,1,0,0,0))
def Cka299 : AV := (0,0,149,1)
def Cke648 : SE := (Cka299,pv0)
def Ckl1532 : AL := [some Cka265,some Cka297,some Cka77,some Cka34,none]
def Ckl1533 : AL := [some Cka265,some Cka297,some Cka77,some Cka34,some Cka92]
def Ckc44 : List Int := [0,0,-245,0,-21]
def Ckl1534 : AL := [some Cka265,some Cka297,some Cka7,some Cka34,some Cka7]
def Cke649 : SE := (Cka92,(1,4,0,0,0))
def Ckl1535 : AL := [some Cka265,some Cka297,some Cka77,some Cka34,some Cka77]
def Cke650 : SE := (Cka260,(2,90,12,0,0))
def Ckl1536 : AL := [some Cka265,some Cka297,some Cka7,some Cka34,some Cka77]
def Cka300 : AV := (0,0,90,10)
def Cke651 : SE := (Cka300,pv0)
def Cke652 : SE := (Cka263,pv0)
def Cke653 : SE := (Cka34,(2,95,0,0,0))
def Ckl1537 : AL := [some Cka265,some Cka297,some Cka77,some Cka34,some Cka240]
def Ckl1538 : AL := [some Cka265,some Cka297,some Cka77,some Cka34,some Cka46]
def Ckl1539 : AL := [some Cka265,some Cka297,some Cka240,some Cka34,some Cka46]
def Ckl1540 : AL := [some Cka265,some Cka297,some Cka46,none,none]
def CNC219_0 : List ND := [(0,(Ckl1528,[],[]),2697,Ckc12,[1],0),
  (1,(Ckl1528,[Cke7],[]),2696,Ckc12,[2],0),
  (2,(Ckl1529,[],[]),2694,Ckc43,[4],0),
  (3,(Ckl1530,[Cke23],[]),2699,Ckc12,[5],0),
  (3,(Ckl1529,[Cke128],[]),2693,Ckc43,[6],0),
  (5,(Ckl1530,[Cke48,Cke23],[]),2698,Ckc12,[7],0),
  (5,(Ckl1529,[Cke48,Cke128],[]),2692,Ckc43,[56,7],0),
  (8,(Ckl1531,[],[]),2691,Ckc43,[8],0),
  (9,(Ckl1531,[Cke568],[]),2690,Ckc43,[9],0),
  (12,(Ckl1531,[Cke646],[]),2689,Ckc43,[10],0),
  (13,(Ckl1531,[Cke647,Cke646],[]),2688,Ckc43,[12],0),
  (14,(Ckl1530,[Cke23,Cke647,Cke646],[]),2700,Ckc12,[13],0),
  (14,(Ckl1531,[Cke361,Cke647,Cke646],[]),2687,Ckc43,[13],0),
  (15,(Ckl1531,[Cke648,Cke646],[]),2686,Ckc43,[14],0),
  (16,(Ckl1531,[Cke184],[]),2685,Ckc43,[15],0),
  (17,(Ckl1532,[],[]),2684,Ckc43,[16],0),
  (18,(Ckl1532,[Cke7],[]),2683,Ckc43,[17],0),
  (20,(Ckl1533,[],[]),2681,Ckc44,[19],0),
  (22,(Ckl1534,[Cke166],[]),2702,Ckc12,[20],0),
  (22,(Ckl1533,[Cke649],[]),2680,Ckc44,[21],0),
  (24,(Ckl1534,[Cke48,Cke166],[]),2701,Ckc12,[22],0),
  (24,(Ckl1533,[Cke48,Cke649],[]),2679,Ckc44,[54,22],0),
  (27,(Ckl1535,[],[]),2678,Ckc44,[23],0),
  (28,(Ckl1535,[Cke568],[]),2677,Ckc44,[24],0),
  (31,(Ckl1535,[Cke650],[]),2676,Ckc44,[26],0),
  (32,(Ckl1536,[Cke23,Cke650],[]),2706,Ckc12,[27],0),
  (32,(Ckl1535,[Cke361,Cke650],[]),2675,Ckc44,[28],0),
  (34,(Ckl1536,[Cke48,Cke23,Cke650],[]),2705,Ckc12,[29],0),
  (34,(Ckl1535,[Cke48,Cke361,Cke650],[]),2674,Ckc44,[30],0),
  (35,(Ckl1536,[Cke7,Cke650],[]),2704,Ckc12,[32],0),
  (35,(Ckl1535,[Cke651,Cke650],[]),2673,Ckc44,[33],0),
  (37,(Ckl1534,[Cke166,Cke7,Cke650],[]),2716,Ckc12,[34],0),
  (37,(Ckl1536,[Cke355,Cke7,Cke650],[]),2703,Ckc12,[35],0),
  (37,(Ckl1535,[Cke355,Cke651,Cke650],[]),2672,Ckc44,[35],0),
  (38,(Ckl1534,[Cke7,Cke650],[]),2715,Ckc12,[36],0),
  (38,(Ckl1535,[Cke652,Cke650],[]),2671,Ckc44,[37],0),
  (39,(Ckl1534,[Cke7,Cke650,Cke7,Cke650],[]),2714,Ckc12,[38],0),
  (39,(Ckl1535,[Cke652,Cke650,Cke652,Cke650],[]),2670,Ckc44,[39],0),
  (40,(Ckl1534,[Cke653,Cke7,Cke650],[]),2713,Ckc12,[40],0),
  (40,(Ckl1535,[Cke184,Cke652,Cke650],[]),2669,Ckc44,[41],0),
  (41,(Ckl1534,[Cke210,Cke653,Cke7,Cke650],[]),2712,Ckc12,[42],0),
  (41,(Ckl1535,[Cke210,Cke184,Cke652,Cke650],[]),2668,Ckc44,[43],0),
  (43,(Ckl1534,[Cke166,Cke210,Cke653,Cke7,Cke650],[]),2711,Ckc12,[44],0),
  (43,(Ckl1535,[Cke355,Cke210,Cke184,Cke652,Cke650],[]),2667,Ckc44,[45],0),
  (44,(Ckl1534,[Cke184,Cke653,Cke7,Cke650],[]),2710,Ckc12,[46],0),
  (44,(Ckl1535,[Cke184,Cke184,Cke652,Cke650],[]),2666,Ckc44,[47],0),
  (45,(Ckl1534,[Cke6,Cke184,Cke653,Cke7,Cke650],[]),2709,Ckc12,[48],0),
  (45,(Ckl1535,[Cke6,Cke184,Cke184,Cke652,Cke650],[]),2665,Ckc44,[49],0),
  (46,(Ckl1534,[Cke242,Cke653,Cke7,Cke650],[]),2708,Ckc12,[50],0),
  (46,(Ckl1535,[Cke242,Cke184,Cke652,Cke650],[]),2664,Ckc44,[51],0),
  (47,(Ckl1534,[Cke184,Cke7,Cke650],[]),2707,Ckc12,[52],0),
  (47,(Ckl1535,[Cke184,Cke652,Cke650],[]),2663,Ckc44,[52],0),
  (48,(Ckl1535,[],[]),2662,Ckc44,[53],0),
  (51,(Ckl1537,[],[]),2682,Ckc44,[17],0),
  (54,(Ckl1538,[],[]),2451,Ckc43,[55],0),
  (57,(Ckl1539,[],[]),2695,Ckc43,[2],0),
  (60,(Ckl1540,[],[]),0,Ckc12,[],0)]
def CNC219 : List (List ND) := [CNC219_0]
theorem CKC219 : chkS prot SMsC SMC219 [] CNC219 = true := by decide +kernel
-- OneSided$Finder.weigh [(90, 90), (59, 59), (-2147483648, 2147483647)]
def Ckl1541 : AL := [some Cka265,some Cka160,some Cka34,none,none,none]
def Cke654 : SE := (Cka61,(2,90,7,0,0))
def Cka301 : AV := (0,0,140,10)
def Cke655 : SE := (Cka301,pv0)
def Ckl1542 : AL := [some Cka265,some Cka160,some Cka34,some Cka301,none,none]
def Ckl1543 : AL := [some Cka265,some Cka160,some Cka34,some Cka301,some Cka92,none]
def Ckc45 : List Int := [0,0,0,0,-31,0]
def Ckl1544 : AL := [some Cka265,some Cka160,some Cka34,some Cka301,some Cka7,none]
def Cke656 : SE := (Cka160,(1,1,0,0,0))
def Ckl1545 : AL := [some Cka265,some Cka160,some Cka34,some Cka301,some Cka77,none]
def Cke657 : SE := (Cka301,(1,3,0,0,0))
def Ckl1546 : AL := [some Cka265,some Cka160,some Cka34,some Cka301,some Cka77,some Cka96]
def Ckl1547 : AL := [some Cka265,some Cka160,some Cka34,some Cka301,some Cka7,some Cka96]
def Ckl1548 : AL := [some Cka265,some Cka160,some Cka34,some Cka301,some Cka240,some Cka96]
def Cke658 : SE := (Cka34,(2,90,0,0,0))
def Cke659 : SE := (Cka34,(2,90,1,0,0))
def Cke660 : SE := (Cka34,(2,90,2,0,0))
def Ckl1549 : AL := [some Cka265,some Cka160,some Cka34,some Cka301,some Cka252,none]
def Cke661 : SE := (Cka34,(2,90,3,0,0))
def Ckf217 : FA := [(90,3,Cka49)]
def Ckf218 : FA := [(90,3,Cka34)]
def Ckl1550 : AL := [some Cka265,some Cka160,some Cka34,some Cka301,some Cka252,some Cka252]
def Cke662 : SE := (Cka252,(1,4,0,0,0))
def Cke663 : SE := (Cka252,(1,5,0,0,0))
def Cke664 : SE := (Cka96,(2,90,6,0,0))
def Ckf219 : FA := [(90,6,Cka6)]
def CNC220_0 : List ND := [(0,(Ckl1541,[],[]),399,Ckc9,[1],0),
  (1,(Ckl1541,[Cke568],[]),398,Ckc9,[2],0),
  (4,(Ckl1541,[Cke654],[]),397,Ckc9,[3],0),
  (6,(Ckl1541,[Cke48,Cke654],[]),396,Ckc9,[4],0),
  (7,(Ckl1541,[Cke655],[]),395,Ckc9,[5],0),
  (8,(Ckl1542,[],[]),394,Ckc9,[6],0),
  (9,(Ckl1542,[Cke7],[]),393,Ckc9,[7],0),
  (11,(Ckl1543,[],[]),391,Ckc45,[9],0),
  (13,(Ckl1544,[Cke166],[]),402,Ckc9,[10],0),
  (13,(Ckl1543,[Cke649],[]),390,Ckc45,[11],0),
  (14,(Ckl1544,[Cke656,Cke166],[]),401,Ckc9,[12],0),
  (14,(Ckl1543,[Cke656,Cke649],[]),389,Ckc45,[13],0),
  (17,(Ckl1544,[Cke556,Cke166],[]),400,Ckc9,[45,14],0),
  (17,(Ckl1543,[Cke556,Cke649],[]),388,Ckc45,[45,14],0),
  (20,(Ckl1545,[],Ckf143),387,Ckc45,[15],0),
  (21,(Ckl1545,[Cke568],Ckf143),386,Ckc45,[16],0),
  (24,(Ckl1545,[Cke646],Ckf143),385,Ckc45,[17],0),
  (25,(Ckl1545,[Cke657,Cke646],Ckf143),384,Ckc45,[18],0),
  (26,(Ckl1545,[Cke656,Cke657,Cke646],Ckf143),383,Ckc45,[19],0),
  (29,(Ckl1545,[Cke557,Cke657,Cke646],Ckf143),382,Ckc45,[21],0),
  (31,(Ckl1544,[Cke166,Cke557,Cke657,Cke646],Ckf143),403,Ckc9,[22],0),
  (31,(Ckl1545,[Cke355,Cke557,Cke657,Cke646],Ckf143),381,Ckc45,[22],0),
  (32,(Ckl1545,[Cke97,Cke657,Cke646],Ckf143),380,Ckc45,[23],0),
  (33,(Ckl1545,[Cke648,Cke646],Ckf143),379,Ckc45,[24],0),
  (34,(Ckl1545,[Cke184],Ckf143),378,Ckc45,[25],0),
  (35,(Ckl1545,[Cke656,Cke184],Ckf143),377,Ckc45,[26],0),
  (38,(Ckl1545,[Cke559,Cke184],Ckf143),376,Ckc45,[28],0),
  (40,(Ckl1544,[Cke166,Cke559,Cke184],Ckf143),404,Ckc9,[29],0),
  (40,(Ckl1545,[Cke355,Cke559,Cke184],Ckf143),375,Ckc45,[29],0),
  (41,(Ckl1545,[Cke97,Cke184],Ckf143),374,Ckc45,[30],0),
  (42,(Ckl1545,[Cke184],Ckf143),373,Ckc45,[31],0),
  (43,(Ckl1545,[Cke6,Cke184],Ckf143),372,Ckc45,[32],0),
  (44,(Ckl1545,[Cke242],Ckf143),371,Ckc45,[33],0),
  (46,(Ckl1546,[],Ckf143),370,Ckc45,[34],0),
  (48,(Ckl1546,[Cke158],Ckf143),369,Ckc45,[35],0),
  (49,(Ckl1546,[Cke656,Cke158],Ckf143),368,Ckc45,[36],0),
  (52,(Ckl1546,[Cke560,Cke158],Ckf143),367,Ckc45,[38],0),
  (54,(Ckl1547,[Cke166,Cke560,Cke158],Ckf143),405,Ckc9,[39],0),
  (54,(Ckl1546,[Cke355,Cke560,Cke158],Ckf143),366,Ckc45,[39],0),
  (55,(Ckl1546,[Cke184,Cke158],Ckf143),365,Ckc45,[40],0),
  (56,(Ckl1546,[Cke6,Cke184,Cke158],Ckf143),364,Ckc45,[41],0),
  (57,(Ckl1546,[Cke242,Cke158],Ckf143),363,Ckc45,[43,42],0),
  (60,(Ckl1546,[],Ckf143),0,Ckc9,[],0),
  (61,(Ckl1546,[],Ckf143),362,Ckc45,[44],0),
  (64,(Ckl1548,[],Ckf143),392,Ckc45,[7],0),
  (67,(Ckl1543,[],[]),51,Ckc9,[46],0),
  (68,(Ckl1543,[Cke568],[]),50,Ckc9,[47],0),
  (69,(Ckl1543,[Cke568,Cke568],[]),49,Ckc9,[48],0),
  (72,(Ckl1543,[Cke658,Cke568],[]),48,Ckc9,[49],0),
  (73,(Ckl1543,[Cke6,Cke658,Cke568],[]),47,Ckc9,[50],0),
  (74,(Ckl1543,[Cke184,Cke568],[]),46,Ckc9,[51],0),
  (77,(Ckl1543,[],[]),45,Ckc9,[52],0),
  (78,(Ckl1543,[Cke568],[]),44,Ckc9,[53],0),
  (79,(Ckl1543,[Cke568,Cke568],[]),43,Ckc9,[54],0),
  (82,(Ckl1543,[Cke659,Cke568],[]),42,Ckc9,[55],0),
  (83,(Ckl1543,[Cke209,Cke659,Cke568],[]),41,Ckc9,[56],0),
  (84,(Ckl1543,[Cke184,Cke568],[]),40,Ckc9,[57],0),
  (87,(Ckl1543,[],[]),39,Ckc9,[58],0),
  (88,(Ckl1543,[Cke568],[]),38,Ckc9,[59],0),
  (89,(Ckl1543,[Cke568,Cke568],[]),37,Ckc9,[60],0),
  (92,(Ckl1543,[Cke660,Cke568],[]),36,Ckc9,[61],0),
  (93,(Ckl1543,[Cke209,Cke660,Cke568],[]),35,Ckc9,[62],0),
  (94,(Ckl1543,[Cke184,Cke568],[]),34,Ckc9,[63],0),
  (97,(Ckl1543,[],[]),33,Ckc9,[64],0)]
def CNC220_1 : List ND := [(98,(Ckl1543,[Cke209],[]),32,Ckc9,[65],207),
  (101,(Ckl1543,[Cke539],[]),31,Ckc9,[66],0),
  (103,(Ckl1549,[],[]),30,Ckc9,[67],0),
  (104,(Ckl1549,[Cke568],[]),29,Ckc9,[68],0),
  (107,(Ckl1549,[Cke661],[]),28,Ckc9,[69],0),
  (108,(Ckl1549,[Cke51,Cke661],[]),27,Ckc9,[72,70],0),
  (111,(Ckl1549,[],Ckf217),23,Ckc9,[71],0),
  (113,(Ckl1549,[Cke498],Ckf217),22,Ckc9,[75],0),
  (116,(Ckl1549,[],Ckf218),26,Ckc9,[73],0),
  (117,(Ckl1549,[Cke568],Ckf218),25,Ckc9,[74],0),
  (120,(Ckl1549,[Cke661],Ckf218),24,Ckc9,[75],207),
  (123,(Ckl1549,[Cke539],[]),21,Ckc9,[76],0),
  (125,(Ckl1550,[],[]),20,Ckc9,[77],0),
  (127,(Ckl1550,[Cke662],[]),19,Ckc9,[78],0),
  (129,(Ckl1550,[Cke663,Cke662],[]),18,Ckc9,[86,79],0),
  (132,(Ckl1550,[],[]),17,Ckc9,[80],0),
  (134,(Ckl1550,[Cke662],[]),16,Ckc9,[81],0),
  (136,(Ckl1550,[Cke663,Cke662],[]),15,Ckc9,[89,82],0),
  (139,(Ckl1550,[],[]),14,Ckc9,[83],0),
  (140,(Ckl1550,[Cke209],[]),13,Ckc9,[84],0),
  (141,(Ckl1550,[Cke568,Cke209],[]),12,Ckc9,[85],0),
  (144,(Ckl1550,[Cke661,Cke209],[]),11,Ckc9,[89,86],0),
  (147,(Ckl1550,[],[]),10,Ckc9,[87],0),
  (148,(Ckl1550,[Cke568],[]),9,Ckc9,[88],0),
  (149,(Ckl1550,[Cke209,Cke568],[]),8,Ckc9,[89],0),
  (152,(Ckl1550,[],[]),7,Ckc9,[90],0),
  (153,(Ckl1550,[Cke568],[]),6,Ckc9,[91],0),
  (156,(Ckl1550,[Cke664],[]),5,Ckc9,[95,92],0),
  (159,(Ckl1550,[],Ckf219),4,Ckc9,[93],0),
  (160,(Ckl1550,[Cke568],Ckf219),3,Ckc9,[94],0),
  (161,(Ckl1550,[Cke657,Cke568],Ckf219),2,Ckc9,[95],219),
  (164,(Ckl1550,[],[]),1,Ckc9,[],0)]
def CNC220 : List (List ND) := [CNC220_0, CNC220_1]
theorem CKC220 : chkS prot SMsC SMC220 [] CNC220 = true := by decide +kernel
-- OneSided$Finder.grow [(90, 90), (59, 59), (14, 14), (-2147483648, 2147483647)]
def Ckl1551 : AL := [some Cka265,some Cka160,some Cka78,some Cka34,none,none,none,none]
def Cke665 : SE := (Cka78,(1,2,0,0,0))
def Ckf220 : FA := [(90,7,Cka61)]
def CNC221_0 : List ND := [(0,(Ckl1551,[],[]),8,Ckc13,[1],0),
  (1,(Ckl1551,[Cke665],[]),7,Ckc13,[2],0),
  (2,(Ckl1551,[Cke568,Cke665],[]),6,Ckc13,[3],0),
  (5,(Ckl1551,[Cke654,Cke665],[]),5,Ckc13,[4],0),
  (8,(Ckl1551,[],Ckf220),4,Ckc13,[5],0),
  (9,(Ckl1551,[Cke568],Ckf220),3,Ckc13,[6],0),
  (10,(Ckl1551,[Cke656,Cke568],Ckf220),2,Ckc13,[7],0),
  (11,(Ckl1551,[Cke210,Cke656,Cke568],Ckf220),1,Ckc13,[8],220),
  (14,(Ckl1551,[],Ckf220),0,Ckc13,[],0)]
def CNC221 : List (List ND) := [CNC221_0]
theorem CKC221 : chkS prot SMsC SMC221 [] CNC221 = true := by decide +kernel
-- OneSided$Finder.grow [(90, 90), (59, 59), (13, 13), (-2147483648, 2147483647)]
def Ckl1552 : AL := [some Cka265,some Cka160,some Cka210,some Cka34,none,none,none,none]
def Cke666 : SE := (Cka210,(1,2,0,0,0))
def Ckf221 : FA := [(90,7,Cka62)]
def Ckf222 : FA := [(90,7,Cka78)]
def Cka302 : AV := (0,130,130,0)
def Cke667 : SE := (Cka302,pv0)
def Ckl1553 : AL := [some Cka265,some Cka160,some Cka210,some Cka34,some Cka302,none,none,none]
def Cke668 : SE := (Cka302,(1,4,0,0,0))
def Cka303 : AV := (0,140,140,0)
def Cke669 : SE := (Cka303,pv0)
def Ckl1554 : AL := [some Cka265,some Cka160,some Cka210,some Cka34,some Cka302,some Cka303,none,none]
def Cke670 : SE := (Cka303,(1,5,0,0,0))
def Ckl1555 : AL := [some Cka265,some Cka160,some Cka210,some Cka34,some Cka302,some Cka303,some Cka92,none]
def Ckc46 : List Int := [0,0,0,0,0,0,-51,0]
def Ckl1556 : AL := [some Cka265,some Cka160,some Cka210,some Cka34,some Cka302,some Cka303,some Cka7,none]
def Cke671 : SE := (Cka92,(1,6,0,0,0))
def Ckl1557 : AL := [some Cka265,some Cka160,some Cka210,some Cka34,some Cka302,some Cka303,some Cka77,none]
def Cke672 : SE := (Cka77,(1,6,0,0,0))
def Cka304 : AV := (0,130,139,1)
def Cke673 : SE := (Cka304,pv0)
def Cke674 : SE := (Cka77,(2,92,13,0,0))
def Ckl1558 : AL := [some Cka265,some Cka160,some Cka210,some Cka34,some Cka302,some Cka303,some Cka77,some Cka96]
def Ckl1559 : AL := [some Cka265,some Cka160,some Cka210,some Cka34,some Cka302,some Cka303,some Cka7,some Cka96]
def Cka305 : AV := (0,140,149,1)
def Cke675 : SE := (Cka305,pv0)
def Ckl1560 : AL := [some Cka265,some Cka160,some Cka210,some Cka34,some Cka302,some Cka303,some Cka77,some Cka6]
def Cke676 : SE := (Cka77,(2,93,13,0,0))
def Ckl1561 : AL := [some Cka265,some Cka160,some Cka210,some Cka34,some Cka302,some Cka303,some Cka77,some Cka7]
def Ckl1562 : AL := [some Cka265,some Cka160,some Cka210,some Cka34,some Cka302,some Cka303,some Cka240,some Cka96]
def Ckl1563 : AL := [some Cka265,some Cka160,some Cka210,some Cka34,some Cka302,some Cka303,some Cka46,none]
def Cke677 : SE := (Cka62,(2,91,13,0,0))
def CNC222_0 : List ND := [(0,(Ckl1552,[],[]),609,Ckc13,[1],0),
  (1,(Ckl1552,[Cke666],[]),608,Ckc13,[2],0),
  (2,(Ckl1552,[Cke568,Cke666],[]),607,Ckc13,[3],0),
  (5,(Ckl1552,[Cke654,Cke666],[]),606,Ckc13,[9,4],0),
  (8,(Ckl1552,[],Ckf221),605,Ckc13,[5],0),
  (9,(Ckl1552,[Cke568],Ckf221),604,Ckc13,[6],0),
  (10,(Ckl1552,[Cke656,Cke568],Ckf221),603,Ckc13,[7],0),
  (11,(Ckl1552,[Cke210,Cke656,Cke568],Ckf221),602,Ckc13,[8],220),
  (14,(Ckl1552,[],Ckf221),601,Ckc13,[],0),
  (15,(Ckl1552,[],Ckf222),600,Ckc13,[10],0),
  (16,(Ckl1552,[Cke666],Ckf222),599,Ckc13,[11],0),
  (18,(Ckl1552,[Cke48,Cke666],Ckf222),598,Ckc13,[12],0),
  (19,(Ckl1552,[Cke667],Ckf222),597,Ckc13,[13],0),
  (21,(Ckl1553,[],Ckf222),596,Ckc13,[14],0),
  (23,(Ckl1553,[Cke668],Ckf222),595,Ckc13,[15],0),
  (25,(Ckl1553,[Cke48,Cke668],Ckf222),594,Ckc13,[16],0),
  (26,(Ckl1553,[Cke669],Ckf222),593,Ckc13,[17],0),
  (28,(Ckl1554,[],Ckf222),592,Ckc13,[18],0),
  (29,(Ckl1554,[Cke568],Ckf222),591,Ckc13,[19],0),
  (32,(Ckl1554,[Cke646],Ckf222),590,Ckc13,[20],0),
  (34,(Ckl1554,[Cke668,Cke646],Ckf222),589,Ckc13,[21],0),
  (35,(Ckl1554,[Cke568,Cke668,Cke646],Ckf222),588,Ckc13,[22],0),
  (38,(Ckl1554,[Cke646,Cke668,Cke646],Ckf222),587,Ckc13,[23],0),
  (40,(Ckl1554,[Cke670,Cke646,Cke668,Cke646],Ckf222),586,Ckc13,[24],0),
  (42,(Ckl1554,[Cke48,Cke670,Cke646,Cke668,Cke646],Ckf222),585,Ckc13,[25],0),
  (45,(Ckl1554,[],Ckf222),584,Ckc13,[26],0),
  (46,(Ckl1554,[Cke568],Ckf222),583,Ckc13,[27],0),
  (47,(Ckl1554,[Cke656,Cke568],Ckf222),582,Ckc13,[28],0),
  (48,(Ckl1554,[Cke666,Cke656,Cke568],Ckf222),581,Ckc13,[29],0),
  (49,(Ckl1554,[Cke6,Cke666,Cke656,Cke568],Ckf222),580,Ckc13,[30],0),
  (50,(Ckl1554,[Cke136,Cke656,Cke568],Ckf222),579,Ckc13,[31],0),
  (51,(Ckl1554,[Cke210,Cke136,Cke656,Cke568],Ckf222),578,Ckc13,[32],221),
  (54,(Ckl1554,[],Ckf222),577,Ckc13,[33],0),
  (55,(Ckl1554,[Cke7],Ckf222),576,Ckc13,[34],0),
  (57,(Ckl1555,[],Ckf222),574,Ckc46,[36],0),
  (59,(Ckl1556,[Cke212],Ckf222),611,Ckc13,[37],0),
  (59,(Ckl1555,[Cke671],Ckf222),573,Ckc46,[38],0),
  (61,(Ckl1556,[Cke48,Cke212],Ckf222),610,Ckc13,[39],0),
  (61,(Ckl1555,[Cke48,Cke671],Ckf222),572,Ckc46,[90,39],0),
  (64,(Ckl1557,[],Ckf222),571,Ckc46,[40],0),
  (65,(Ckl1557,[Cke568],Ckf222),570,Ckc46,[41],0),
  (68,(Ckl1557,[Cke646],Ckf222),569,Ckc46,[42],0),
  (70,(Ckl1557,[Cke668,Cke646],Ckf222),568,Ckc46,[44],0),
  (72,(Ckl1556,[Cke212,Cke668,Cke646],Ckf222),612,Ckc13,[45],0),
  (72,(Ckl1557,[Cke672,Cke668,Cke646],Ckf222),567,Ckc46,[45],0),
  (73,(Ckl1557,[Cke673,Cke646],Ckf222),566,Ckc46,[46],0),
  (74,(Ckl1557,[Cke184],Ckf222),565,Ckc46,[47],0),
  (75,(Ckl1557,[Cke568,Cke184],Ckf222),564,Ckc46,[48],0),
  (78,(Ckl1557,[Cke623,Cke184],Ckf222),563,Ckc46,[49],0),
  (79,(Ckl1557,[Cke666,Cke623,Cke184],Ckf222),562,Ckc46,[50],0),
  (80,(Ckl1557,[Cke674,Cke184],Ckf222),561,Ckc46,[51],0),
  (81,(Ckl1557,[Cke184],Ckf222),560,Ckc46,[52],0),
  (82,(Ckl1557,[Cke6,Cke184],Ckf222),559,Ckc46,[53],0),
  (83,(Ckl1557,[Cke242],Ckf222),558,Ckc46,[56,54],0),
  (86,(Ckl1557,[],Ckf222),555,Ckc46,[55],0),
  (87,(Ckl1557,[Cke6],Ckf222),554,Ckc46,[58],0),
  (90,(Ckl1557,[],Ckf222),557,Ckc46,[57],0),
  (91,(Ckl1557,[Cke7],Ckf222),556,Ckc46,[59],0),
  (91,(Ckl1557,[Cke6],Ckf222),553,Ckc46,[59],0),
  (93,(Ckl1558,[],Ckf222),552,Ckc46,[60],0),
  (94,(Ckl1558,[Cke568],Ckf222),551,Ckc46,[61],0),
  (97,(Ckl1558,[Cke646],Ckf222),550,Ckc46,[62],0),
  (99,(Ckl1558,[Cke670,Cke646],Ckf222),549,Ckc46,[64],0),
  (101,(Ckl1559,[Cke212,Cke670,Cke646],Ckf222),613,Ckc13,[65],0)]
def CNC222_1 : List ND := [(101,(Ckl1558,[Cke672,Cke670,Cke646],Ckf222),548,Ckc46,[65],0),
  (102,(Ckl1558,[Cke675,Cke646],Ckf222),547,Ckc46,[66],0),
  (103,(Ckl1558,[Cke568,Cke675,Cke646],Ckf222),546,Ckc46,[67],0),
  (106,(Ckl1558,[Cke646,Cke675,Cke646],Ckf222),545,Ckc46,[68],0),
  (108,(Ckl1558,[Cke668,Cke646,Cke675,Cke646],Ckf222),544,Ckc46,[70],0),
  (110,(Ckl1559,[Cke212,Cke668,Cke646,Cke669,Cke646],Ckf222),614,Ckc13,[71],0),
  (110,(Ckl1558,[Cke672,Cke668,Cke646,Cke675,Cke646],Ckf222),543,Ckc46,[71],0),
  (111,(Ckl1558,[Cke673,Cke646,Cke675,Cke646],Ckf222),542,Ckc46,[72],0),
  (112,(Ckl1558,[Cke184,Cke675,Cke646],Ckf222),541,Ckc46,[73],0),
  (114,(Ckl1558,[Cke240,Cke184,Cke675,Cke646],Ckf222),540,Ckc46,[84,74],0),
  (117,(Ckl1560,[Cke184,Cke675,Cke646],Ckf222),537,Ckc46,[75],0),
  (118,(Ckl1560,[Cke568,Cke184,Cke675,Cke646],Ckf222),536,Ckc46,[76],0),
  (121,(Ckl1560,[Cke646,Cke184,Cke675,Cke646],Ckf222),535,Ckc46,[77],0),
  (123,(Ckl1560,[Cke668,Cke646,Cke184,Cke675,Cke646],Ckf222),534,Ckc46,[78],0),
  (124,(Ckl1560,[Cke568,Cke668,Cke646,Cke184,Cke675,Cke646],Ckf222),533,Ckc46,[79],0),
  (127,(Ckl1560,[Cke624,Cke668,Cke646,Cke184,Cke675,Cke646],Ckf222),532,Ckc46,[80],0),
  (128,(Ckl1560,[Cke666,Cke624,Cke668,Cke646,Cke184,Cke675,Cke646],Ckf222),531,Ckc46,[81],0),
  (129,(Ckl1560,[Cke676,Cke668,Cke646,Cke184,Cke675,Cke646],Ckf222),530,Ckc46,[82],0),
  (130,(Ckl1560,[Cke673,Cke646,Cke184,Cke675,Cke646],Ckf222),529,Ckc46,[83],0),
  (131,(Ckl1560,[Cke184,Cke184,Cke675,Cke646],Ckf222),528,Ckc46,[86],0),
  (134,(Ckl1561,[Cke184,Cke675,Cke646],Ckf222),539,Ckc46,[85],0),
  (135,(Ckl1561,[Cke7,Cke184,Cke675,Cke646],Ckf222),538,Ckc46,[87],0),
  (135,(Ckl1560,[Cke184,Cke184,Cke675,Cke646],Ckf222),527,Ckc46,[87],0),
  (136,(Ckl1558,[Cke184,Cke675,Cke646],Ckf222),526,Ckc46,[88],0),
  (137,(Ckl1558,[],Ckf222),525,Ckc46,[89],0),
  (140,(Ckl1562,[],Ckf222),575,Ckc46,[34],0),
  (143,(Ckl1563,[],Ckf222),14,Ckc13,[91],0),
  (144,(Ckl1563,[Cke568],Ckf222),13,Ckc13,[92],0),
  (145,(Ckl1563,[Cke656,Cke568],Ckf222),12,Ckc13,[93],0),
  (146,(Ckl1563,[Cke666,Cke656,Cke568],Ckf222),11,Ckc13,[94],0),
  (147,(Ckl1563,[Cke6,Cke666,Cke656,Cke568],Ckf222),10,Ckc13,[95],0),
  (148,(Ckl1563,[Cke136,Cke656,Cke568],Ckf222),9,Ckc13,[96],0),
  (149,(Ckl1563,[Cke210,Cke136,Cke656,Cke568],Ckf222),8,Ckc13,[97],0),
  (150,(Ckl1563,[Cke6,Cke210,Cke136,Cke656,Cke568],Ckf222),7,Ckc13,[98],0),
  (151,(Ckl1563,[Cke568,Cke6,Cke210,Cke136,Cke656,Cke568],Ckf222),6,Ckc13,[99],0),
  (154,(Ckl1563,[Cke608,Cke6,Cke210,Cke136,Cke656,Cke568],Ckf222),5,Ckc13,[100],0),
  (155,(Ckl1563,[Cke666,Cke608,Cke6,Cke210,Cke136,Cke656,Cke568],Ckf222),4,Ckc13,[101],0),
  (156,(Ckl1563,[Cke677,Cke6,Cke210,Cke136,Cke656,Cke568],Ckf222),3,Ckc13,[102],0),
  (157,(Ckl1563,[Cke252,Cke210,Cke136,Cke656,Cke568],Ckf222),2,Ckc13,[103],0),
  (158,(Ckl1563,[Cke184,Cke136,Cke656,Cke568],Ckf222),1,Ckc13,[104],221),
  (161,(Ckl1563,[],Ckf222),0,Ckc13,[],0)]
def CNC222 : List (List ND) := [CNC222_0, CNC222_1]
theorem CKC222 : chkS prot SMsC SMC222 [] CNC222 = true := by decide +kernel
-- OneSided$Finder.grow [(90, 90), (59, 59), (12, 12), (-2147483648, 2147483647)]
def Ckl1564 : AL := [some Cka265,some Cka160,some Cka145,some Cka34,none,none,none,none]
def Cke678 : SE := (Cka145,(1,2,0,0,0))
def Ckf223 : FA := [(90,7,Cka270)]
def Ckf224 : FA := [(90,7,Cka271)]
def Cka306 : AV := (0,120,120,0)
def Cke679 : SE := (Cka306,pv0)
def Ckl1565 : AL := [some Cka265,some Cka160,some Cka145,some Cka34,some Cka306,none,none,none]
def Cke680 : SE := (Cka306,(1,4,0,0,0))
def Ckl1566 : AL := [some Cka265,some Cka160,some Cka145,some Cka34,some Cka306,some Cka302,none,none]
def Cke681 : SE := (Cka302,(1,5,0,0,0))
def Ckl1567 : AL := [some Cka265,some Cka160,some Cka145,some Cka34,some Cka306,some Cka302,some Cka92,none]
def Ckl1568 : AL := [some Cka265,some Cka160,some Cka145,some Cka34,some Cka306,some Cka302,some Cka7,none]
def Ckl1569 : AL := [some Cka265,some Cka160,some Cka145,some Cka34,some Cka306,some Cka302,some Cka77,none]
def Cka307 : AV := (0,120,129,1)
def Cke682 : SE := (Cka307,pv0)
def Cke683 : SE := (Cka77,(2,92,12,0,0))
def Ckl1570 : AL := [some Cka265,some Cka160,some Cka145,some Cka34,some Cka306,some Cka302,some Cka77,some Cka96]
def Ckl1571 : AL := [some Cka265,some Cka160,some Cka145,some Cka34,some Cka306,some Cka302,some Cka7,some Cka96]
def Ckl1572 : AL := [some Cka265,some Cka160,some Cka145,some Cka34,some Cka306,some Cka302,some Cka77,some Cka6]
def Cke684 : SE := (Cka77,(2,93,12,0,0))
def Ckl1573 : AL := [some Cka265,some Cka160,some Cka145,some Cka34,some Cka306,some Cka302,some Cka77,some Cka7]
def Ckl1574 : AL := [some Cka265,some Cka160,some Cka145,some Cka34,some Cka306,some Cka302,some Cka240,some Cka96]
def Ckl1575 : AL := [some Cka265,some Cka160,some Cka145,some Cka34,some Cka306,some Cka302,some Cka46,none]
def Cke685 : SE := (Cka62,(2,91,12,0,0))
def CNC223_0 : List ND := [(0,(Ckl1564,[],[]),609,Ckc13,[1],0),
  (1,(Ckl1564,[Cke678],[]),608,Ckc13,[2],0),
  (2,(Ckl1564,[Cke568,Cke678],[]),607,Ckc13,[3],0),
  (5,(Ckl1564,[Cke654,Cke678],[]),606,Ckc13,[9,4],0),
  (8,(Ckl1564,[],Ckf223),605,Ckc13,[5],0),
  (9,(Ckl1564,[Cke568],Ckf223),604,Ckc13,[6],0),
  (10,(Ckl1564,[Cke656,Cke568],Ckf223),603,Ckc13,[7],0),
  (11,(Ckl1564,[Cke210,Cke656,Cke568],Ckf223),602,Ckc13,[8],220),
  (14,(Ckl1564,[],Ckf223),601,Ckc13,[],0),
  (15,(Ckl1564,[],Ckf224),600,Ckc13,[10],0),
  (16,(Ckl1564,[Cke678],Ckf224),599,Ckc13,[11],0),
  (18,(Ckl1564,[Cke48,Cke678],Ckf224),598,Ckc13,[12],0),
  (19,(Ckl1564,[Cke679],Ckf224),597,Ckc13,[13],0),
  (21,(Ckl1565,[],Ckf224),596,Ckc13,[14],0),
  (23,(Ckl1565,[Cke680],Ckf224),595,Ckc13,[15],0),
  (25,(Ckl1565,[Cke48,Cke680],Ckf224),594,Ckc13,[16],0),
  (26,(Ckl1565,[Cke667],Ckf224),593,Ckc13,[17],0),
  (28,(Ckl1566,[],Ckf224),592,Ckc13,[18],0),
  (29,(Ckl1566,[Cke568],Ckf224),591,Ckc13,[19],0),
  (32,(Ckl1566,[Cke646],Ckf224),590,Ckc13,[20],0),
  (34,(Ckl1566,[Cke680,Cke646],Ckf224),589,Ckc13,[21],0),
  (35,(Ckl1566,[Cke568,Cke680,Cke646],Ckf224),588,Ckc13,[22],0),
  (38,(Ckl1566,[Cke646,Cke680,Cke646],Ckf224),587,Ckc13,[23],0),
  (40,(Ckl1566,[Cke681,Cke646,Cke680,Cke646],Ckf224),586,Ckc13,[24],0),
  (42,(Ckl1566,[Cke48,Cke681,Cke646,Cke680,Cke646],Ckf224),585,Ckc13,[25],0),
  (45,(Ckl1566,[],Ckf224),584,Ckc13,[26],0),
  (46,(Ckl1566,[Cke568],Ckf224),583,Ckc13,[27],0),
  (47,(Ckl1566,[Cke656,Cke568],Ckf224),582,Ckc13,[28],0),
  (48,(Ckl1566,[Cke678,Cke656,Cke568],Ckf224),581,Ckc13,[29],0),
  (49,(Ckl1566,[Cke6,Cke678,Cke656,Cke568],Ckf224),580,Ckc13,[30],0),
  (50,(Ckl1566,[Cke497,Cke656,Cke568],Ckf224),579,Ckc13,[31],0),
  (51,(Ckl1566,[Cke210,Cke497,Cke656,Cke568],Ckf224),578,Ckc13,[32],222),
  (54,(Ckl1566,[],Ckf224),577,Ckc13,[33],0),
  (55,(Ckl1566,[Cke7],Ckf224),576,Ckc13,[34],0),
  (57,(Ckl1567,[],Ckf224),574,Ckc46,[36],0),
  (59,(Ckl1568,[Cke212],Ckf224),611,Ckc13,[37],0),
  (59,(Ckl1567,[Cke671],Ckf224),573,Ckc46,[38],0),
  (61,(Ckl1568,[Cke48,Cke212],Ckf224),610,Ckc13,[39],0),
  (61,(Ckl1567,[Cke48,Cke671],Ckf224),572,Ckc46,[90,39],0),
  (64,(Ckl1569,[],Ckf224),571,Ckc46,[40],0),
  (65,(Ckl1569,[Cke568],Ckf224),570,Ckc46,[41],0),
  (68,(Ckl1569,[Cke646],Ckf224),569,Ckc46,[42],0),
  (70,(Ckl1569,[Cke680,Cke646],Ckf224),568,Ckc46,[44],0),
  (72,(Ckl1568,[Cke212,Cke680,Cke646],Ckf224),612,Ckc13,[45],0),
  (72,(Ckl1569,[Cke672,Cke680,Cke646],Ckf224),567,Ckc46,[45],0),
  (73,(Ckl1569,[Cke682,Cke646],Ckf224),566,Ckc46,[46],0),
  (74,(Ckl1569,[Cke184],Ckf224),565,Ckc46,[47],0),
  (75,(Ckl1569,[Cke568,Cke184],Ckf224),564,Ckc46,[48],0),
  (78,(Ckl1569,[Cke623,Cke184],Ckf224),563,Ckc46,[49],0),
  (79,(Ckl1569,[Cke678,Cke623,Cke184],Ckf224),562,Ckc46,[50],0),
  (80,(Ckl1569,[Cke683,Cke184],Ckf224),561,Ckc46,[51],0),
  (81,(Ckl1569,[Cke184],Ckf224),560,Ckc46,[52],0),
  (82,(Ckl1569,[Cke6,Cke184],Ckf224),559,Ckc46,[53],0),
  (83,(Ckl1569,[Cke242],Ckf224),558,Ckc46,[56,54],0),
  (86,(Ckl1569,[],Ckf224),555,Ckc46,[55],0),
  (87,(Ckl1569,[Cke6],Ckf224),554,Ckc46,[58],0),
  (90,(Ckl1569,[],Ckf224),557,Ckc46,[57],0),
  (91,(Ckl1569,[Cke7],Ckf224),556,Ckc46,[59],0),
  (91,(Ckl1569,[Cke6],Ckf224),553,Ckc46,[59],0),
  (93,(Ckl1570,[],Ckf224),552,Ckc46,[60],0),
  (94,(Ckl1570,[Cke568],Ckf224),551,Ckc46,[61],0),
  (97,(Ckl1570,[Cke646],Ckf224),550,Ckc46,[62],0),
  (99,(Ckl1570,[Cke681,Cke646],Ckf224),549,Ckc46,[64],0),
  (101,(Ckl1571,[Cke212,Cke681,Cke646],Ckf224),613,Ckc13,[65],0)]
def CNC223_1 : List ND := [(101,(Ckl1570,[Cke672,Cke681,Cke646],Ckf224),548,Ckc46,[65],0),
  (102,(Ckl1570,[Cke673,Cke646],Ckf224),547,Ckc46,[66],0),
  (103,(Ckl1570,[Cke568,Cke673,Cke646],Ckf224),546,Ckc46,[67],0),
  (106,(Ckl1570,[Cke646,Cke673,Cke646],Ckf224),545,Ckc46,[68],0),
  (108,(Ckl1570,[Cke680,Cke646,Cke673,Cke646],Ckf224),544,Ckc46,[70],0),
  (110,(Ckl1571,[Cke212,Cke680,Cke646,Cke667,Cke646],Ckf224),614,Ckc13,[71],0),
  (110,(Ckl1570,[Cke672,Cke680,Cke646,Cke673,Cke646],Ckf224),543,Ckc46,[71],0),
  (111,(Ckl1570,[Cke682,Cke646,Cke673,Cke646],Ckf224),542,Ckc46,[72],0),
  (112,(Ckl1570,[Cke184,Cke673,Cke646],Ckf224),541,Ckc46,[73],0),
  (114,(Ckl1570,[Cke240,Cke184,Cke673,Cke646],Ckf224),540,Ckc46,[84,74],0),
  (117,(Ckl1572,[Cke184,Cke673,Cke646],Ckf224),537,Ckc46,[75],0),
  (118,(Ckl1572,[Cke568,Cke184,Cke673,Cke646],Ckf224),536,Ckc46,[76],0),
  (121,(Ckl1572,[Cke646,Cke184,Cke673,Cke646],Ckf224),535,Ckc46,[77],0),
  (123,(Ckl1572,[Cke680,Cke646,Cke184,Cke673,Cke646],Ckf224),534,Ckc46,[78],0),
  (124,(Ckl1572,[Cke568,Cke680,Cke646,Cke184,Cke673,Cke646],Ckf224),533,Ckc46,[79],0),
  (127,(Ckl1572,[Cke624,Cke680,Cke646,Cke184,Cke673,Cke646],Ckf224),532,Ckc46,[80],0),
  (128,(Ckl1572,[Cke678,Cke624,Cke680,Cke646,Cke184,Cke673,Cke646],Ckf224),531,Ckc46,[81],0),
  (129,(Ckl1572,[Cke684,Cke680,Cke646,Cke184,Cke673,Cke646],Ckf224),530,Ckc46,[82],0),
  (130,(Ckl1572,[Cke682,Cke646,Cke184,Cke673,Cke646],Ckf224),529,Ckc46,[83],0),
  (131,(Ckl1572,[Cke184,Cke184,Cke673,Cke646],Ckf224),528,Ckc46,[86],0),
  (134,(Ckl1573,[Cke184,Cke673,Cke646],Ckf224),539,Ckc46,[85],0),
  (135,(Ckl1573,[Cke7,Cke184,Cke673,Cke646],Ckf224),538,Ckc46,[87],0),
  (135,(Ckl1572,[Cke184,Cke184,Cke673,Cke646],Ckf224),527,Ckc46,[87],0),
  (136,(Ckl1570,[Cke184,Cke673,Cke646],Ckf224),526,Ckc46,[88],0),
  (137,(Ckl1570,[],Ckf224),525,Ckc46,[89],0),
  (140,(Ckl1574,[],Ckf224),575,Ckc46,[34],0),
  (143,(Ckl1575,[],Ckf224),14,Ckc13,[91],0),
  (144,(Ckl1575,[Cke568],Ckf224),13,Ckc13,[92],0),
  (145,(Ckl1575,[Cke656,Cke568],Ckf224),12,Ckc13,[93],0),
  (146,(Ckl1575,[Cke678,Cke656,Cke568],Ckf224),11,Ckc13,[94],0),
  (147,(Ckl1575,[Cke6,Cke678,Cke656,Cke568],Ckf224),10,Ckc13,[95],0),
  (148,(Ckl1575,[Cke497,Cke656,Cke568],Ckf224),9,Ckc13,[96],0),
  (149,(Ckl1575,[Cke210,Cke497,Cke656,Cke568],Ckf224),8,Ckc13,[97],0),
  (150,(Ckl1575,[Cke6,Cke210,Cke497,Cke656,Cke568],Ckf224),7,Ckc13,[98],0),
  (151,(Ckl1575,[Cke568,Cke6,Cke210,Cke497,Cke656,Cke568],Ckf224),6,Ckc13,[99],0),
  (154,(Ckl1575,[Cke608,Cke6,Cke210,Cke497,Cke656,Cke568],Ckf224),5,Ckc13,[100],0),
  (155,(Ckl1575,[Cke678,Cke608,Cke6,Cke210,Cke497,Cke656,Cke568],Ckf224),4,Ckc13,[101],0),
  (156,(Ckl1575,[Cke685,Cke6,Cke210,Cke497,Cke656,Cke568],Ckf224),3,Ckc13,[102],0),
  (157,(Ckl1575,[Cke252,Cke210,Cke497,Cke656,Cke568],Ckf224),2,Ckc13,[103],0),
  (158,(Ckl1575,[Cke184,Cke497,Cke656,Cke568],Ckf224),1,Ckc13,[104],222),
  (161,(Ckl1575,[],Ckf224),0,Ckc13,[],0)]
def CNC223 : List (List ND) := [CNC223_0, CNC223_1]
theorem CKC223 : chkS prot SMsC SMC223 [] CNC223 = true := by decide +kernel
-- OneSided$Finder.grow [(90, 90), (59, 59), (11, 11), (-2147483648, 2147483647)]
def Ckl1576 : AL := [some Cka265,some Cka160,some Cka208,some Cka34,none,none,none,none]
def Cke686 : SE := (Cka208,(1,2,0,0,0))
def Ckf225 : FA := [(90,7,Cka268)]
def Ckf226 : FA := [(90,7,Cka269)]
def Cka308 : AV := (0,110,110,0)
def Cke687 : SE := (Cka308,pv0)
def Ckl1577 : AL := [some Cka265,some Cka160,some Cka208,some Cka34,some Cka308,none,none,none]
def Cke688 : SE := (Cka308,(1,4,0,0,0))
def Ckl1578 : AL := [some Cka265,some Cka160,some Cka208,some Cka34,some Cka308,some Cka306,none,none]
def Cke689 : SE := (Cka306,(1,5,0,0,0))
def Ckl1579 : AL := [some Cka265,some Cka160,some Cka208,some Cka34,some Cka308,some Cka306,some Cka92,none]
def Ckl1580 : AL := [some Cka265,some Cka160,some Cka208,some Cka34,some Cka308,some Cka306,some Cka7,none]
def Ckl1581 : AL := [some Cka265,some Cka160,some Cka208,some Cka34,some Cka308,some Cka306,some Cka77,none]
def Cka309 : AV := (0,110,119,1)
def Cke690 : SE := (Cka309,pv0)
def Cke691 : SE := (Cka77,(2,92,11,0,0))
def Ckl1582 : AL := [some Cka265,some Cka160,some Cka208,some Cka34,some Cka308,some Cka306,some Cka77,some Cka96]
def Ckl1583 : AL := [some Cka265,some Cka160,some Cka208,some Cka34,some Cka308,some Cka306,some Cka7,some Cka96]
def Ckl1584 : AL := [some Cka265,some Cka160,some Cka208,some Cka34,some Cka308,some Cka306,some Cka77,some Cka6]
def Cke692 : SE := (Cka77,(2,93,11,0,0))
def Ckl1585 : AL := [some Cka265,some Cka160,some Cka208,some Cka34,some Cka308,some Cka306,some Cka77,some Cka7]
def Ckl1586 : AL := [some Cka265,some Cka160,some Cka208,some Cka34,some Cka308,some Cka306,some Cka240,some Cka96]
def Ckl1587 : AL := [some Cka265,some Cka160,some Cka208,some Cka34,some Cka308,some Cka306,some Cka46,none]
def Cke693 : SE := (Cka62,(2,91,11,0,0))
def CNC224_0 : List ND := [(0,(Ckl1576,[],[]),609,Ckc13,[1],0),
  (1,(Ckl1576,[Cke686],[]),608,Ckc13,[2],0),
  (2,(Ckl1576,[Cke568,Cke686],[]),607,Ckc13,[3],0),
  (5,(Ckl1576,[Cke654,Cke686],[]),606,Ckc13,[9,4],0),
  (8,(Ckl1576,[],Ckf225),605,Ckc13,[5],0),
  (9,(Ckl1576,[Cke568],Ckf225),604,Ckc13,[6],0),
  (10,(Ckl1576,[Cke656,Cke568],Ckf225),603,Ckc13,[7],0),
  (11,(Ckl1576,[Cke210,Cke656,Cke568],Ckf225),602,Ckc13,[8],220),
  (14,(Ckl1576,[],Ckf225),601,Ckc13,[],0),
  (15,(Ckl1576,[],Ckf226),600,Ckc13,[10],0),
  (16,(Ckl1576,[Cke686],Ckf226),599,Ckc13,[11],0),
  (18,(Ckl1576,[Cke48,Cke686],Ckf226),598,Ckc13,[12],0),
  (19,(Ckl1576,[Cke687],Ckf226),597,Ckc13,[13],0),
  (21,(Ckl1577,[],Ckf226),596,Ckc13,[14],0),
  (23,(Ckl1577,[Cke688],Ckf226),595,Ckc13,[15],0),
  (25,(Ckl1577,[Cke48,Cke688],Ckf226),594,Ckc13,[16],0),
  (26,(Ckl1577,[Cke679],Ckf226),593,Ckc13,[17],0),
  (28,(Ckl1578,[],Ckf226),592,Ckc13,[18],0),
  (29,(Ckl1578,[Cke568],Ckf226),591,Ckc13,[19],0),
  (32,(Ckl1578,[Cke646],Ckf226),590,Ckc13,[20],0),
  (34,(Ckl1578,[Cke688,Cke646],Ckf226),589,Ckc13,[21],0),
  (35,(Ckl1578,[Cke568,Cke688,Cke646],Ckf226),588,Ckc13,[22],0),
  (38,(Ckl1578,[Cke646,Cke688,Cke646],Ckf226),587,Ckc13,[23],0),
  (40,(Ckl1578,[Cke689,Cke646,Cke688,Cke646],Ckf226),586,Ckc13,[24],0),
  (42,(Ckl1578,[Cke48,Cke689,Cke646,Cke688,Cke646],Ckf226),585,Ckc13,[25],0),
  (45,(Ckl1578,[],Ckf226),584,Ckc13,[26],0),
  (46,(Ckl1578,[Cke568],Ckf226),583,Ckc13,[27],0),
  (47,(Ckl1578,[Cke656,Cke568],Ckf226),582,Ckc13,[28],0),
  (48,(Ckl1578,[Cke686,Cke656,Cke568],Ckf226),581,Ckc13,[29],0),
  (49,(Ckl1578,[Cke6,Cke686,Cke656,Cke568],Ckf226),580,Ckc13,[30],0),
  (50,(Ckl1578,[Cke239,Cke656,Cke568],Ckf226),579,Ckc13,[31],0),
  (51,(Ckl1578,[Cke210,Cke239,Cke656,Cke568],Ckf226),578,Ckc13,[32],223),
  (54,(Ckl1578,[],Ckf226),577,Ckc13,[33],0),
  (55,(Ckl1578,[Cke7],Ckf226),576,Ckc13,[34],0),
  (57,(Ckl1579,[],Ckf226),574,Ckc46,[36],0),
  (59,(Ckl1580,[Cke212],Ckf226),611,Ckc13,[37],0),
  (59,(Ckl1579,[Cke671],Ckf226),573,Ckc46,[38],0),
  (61,(Ckl1580,[Cke48,Cke212],Ckf226),610,Ckc13,[39],0),
  (61,(Ckl1579,[Cke48,Cke671],Ckf226),572,Ckc46,[90,39],0),
  (64,(Ckl1581,[],Ckf226),571,Ckc46,[40],0),
  (65,(Ckl1581,[Cke568],Ckf226),570,Ckc46,[41],0),
  (68,(Ckl1581,[Cke646],Ckf226),569,Ckc46,[42],0),
  (70,(Ckl1581,[Cke688,Cke646],Ckf226),568,Ckc46,[44],0),
  (72,(Ckl1580,[Cke212,Cke688,Cke646],Ckf226),612,Ckc13,[45],0),
  (72,(Ckl1581,[Cke672,Cke688,Cke646],Ckf226),567,Ckc46,[45],0),
  (73,(Ckl1581,[Cke690,Cke646],Ckf226),566,Ckc46,[46],0),
  (74,(Ckl1581,[Cke184],Ckf226),565,Ckc46,[47],0),
  (75,(Ckl1581,[Cke568,Cke184],Ckf226),564,Ckc46,[48],0),
  (78,(Ckl1581,[Cke623,Cke184],Ckf226),563,Ckc46,[49],0),
  (79,(Ckl1581,[Cke686,Cke623,Cke184],Ckf226),562,Ckc46,[50],0),
  (80,(Ckl1581,[Cke691,Cke184],Ckf226),561,Ckc46,[51],0),
  (81,(Ckl1581,[Cke184],Ckf226),560,Ckc46,[52],0),
  (82,(Ckl1581,[Cke6,Cke184],Ckf226),559,Ckc46,[53],0),
  (83,(Ckl1581,[Cke242],Ckf226),558,Ckc46,[56,54],0),
  (86,(Ckl1581,[],Ckf226),555,Ckc46,[55],0),
  (87,(Ckl1581,[Cke6],Ckf226),554,Ckc46,[58],0),
  (90,(Ckl1581,[],Ckf226),557,Ckc46,[57],0),
  (91,(Ckl1581,[Cke7],Ckf226),556,Ckc46,[59],0),
  (91,(Ckl1581,[Cke6],Ckf226),553,Ckc46,[59],0),
  (93,(Ckl1582,[],Ckf226),552,Ckc46,[60],0),
  (94,(Ckl1582,[Cke568],Ckf226),551,Ckc46,[61],0),
  (97,(Ckl1582,[Cke646],Ckf226),550,Ckc46,[62],0),
  (99,(Ckl1582,[Cke689,Cke646],Ckf226),549,Ckc46,[64],0),
  (101,(Ckl1583,[Cke212,Cke689,Cke646],Ckf226),613,Ckc13,[65],0)]
def CNC224_1 : List ND := [(101,(Ckl1582,[Cke672,Cke689,Cke646],Ckf226),548,Ckc46,[65],0),
  (102,(Ckl1582,[Cke682,Cke646],Ckf226),547,Ckc46,[66],0),
  (103,(Ckl1582,[Cke568,Cke682,Cke646],Ckf226),546,Ckc46,[67],0),
  (106,(Ckl1582,[Cke646,Cke682,Cke646],Ckf226),545,Ckc46,[68],0),
  (108,(Ckl1582,[Cke688,Cke646,Cke682,Cke646],Ckf226),544,Ckc46,[70],0),
  (110,(Ckl1583,[Cke212,Cke688,Cke646,Cke679,Cke646],Ckf226),614,Ckc13,[71],0),
  (110,(Ckl1582,[Cke672,Cke688,Cke646,Cke682,Cke646],Ckf226),543,Ckc46,[71],0),
  (111,(Ckl1582,[Cke690,Cke646,Cke682,Cke646],Ckf226),542,Ckc46,[72],0),
  (112,(Ckl1582,[Cke184,Cke682,Cke646],Ckf226),541,Ckc46,[73],0),
  (114,(Ckl1582,[Cke240,Cke184,Cke682,Cke646],Ckf226),540,Ckc46,[84,74],0),
  (117,(Ckl1584,[Cke184,Cke682,Cke646],Ckf226),537,Ckc46,[75],0),
  (118,(Ckl1584,[Cke568,Cke184,Cke682,Cke646],Ckf226),536,Ckc46,[76],0),
  (121,(Ckl1584,[Cke646,Cke184,Cke682,Cke646],Ckf226),535,Ckc46,[77],0),
  (123,(Ckl1584,[Cke688,Cke646,Cke184,Cke682,Cke646],Ckf226),534,Ckc46,[78],0),
  (124,(Ckl1584,[Cke568,Cke688,Cke646,Cke184,Cke682,Cke646],Ckf226),533,Ckc46,[79],0),
  (127,(Ckl1584,[Cke624,Cke688,Cke646,Cke184,Cke682,Cke646],Ckf226),532,Ckc46,[80],0),
  (128,(Ckl1584,[Cke686,Cke624,Cke688,Cke646,Cke184,Cke682,Cke646],Ckf226),531,Ckc46,[81],0),
  (129,(Ckl1584,[Cke692,Cke688,Cke646,Cke184,Cke682,Cke646],Ckf226),530,Ckc46,[82],0),
  (130,(Ckl1584,[Cke690,Cke646,Cke184,Cke682,Cke646],Ckf226),529,Ckc46,[83],0),
  (131,(Ckl1584,[Cke184,Cke184,Cke682,Cke646],Ckf226),528,Ckc46,[86],0),
  (134,(Ckl1585,[Cke184,Cke682,Cke646],Ckf226),539,Ckc46,[85],0),
  (135,(Ckl1585,[Cke7,Cke184,Cke682,Cke646],Ckf226),538,Ckc46,[87],0),
  (135,(Ckl1584,[Cke184,Cke184,Cke682,Cke646],Ckf226),527,Ckc46,[87],0),
  (136,(Ckl1582,[Cke184,Cke682,Cke646],Ckf226),526,Ckc46,[88],0),
  (137,(Ckl1582,[],Ckf226),525,Ckc46,[89],0),
  (140,(Ckl1586,[],Ckf226),575,Ckc46,[34],0),
  (143,(Ckl1587,[],Ckf226),14,Ckc13,[91],0),
  (144,(Ckl1587,[Cke568],Ckf226),13,Ckc13,[92],0),
  (145,(Ckl1587,[Cke656,Cke568],Ckf226),12,Ckc13,[93],0),
  (146,(Ckl1587,[Cke686,Cke656,Cke568],Ckf226),11,Ckc13,[94],0),
  (147,(Ckl1587,[Cke6,Cke686,Cke656,Cke568],Ckf226),10,Ckc13,[95],0),
  (148,(Ckl1587,[Cke239,Cke656,Cke568],Ckf226),9,Ckc13,[96],0),
  (149,(Ckl1587,[Cke210,Cke239,Cke656,Cke568],Ckf226),8,Ckc13,[97],0),
  (150,(Ckl1587,[Cke6,Cke210,Cke239,Cke656,Cke568],Ckf226),7,Ckc13,[98],0),
  (151,(Ckl1587,[Cke568,Cke6,Cke210,Cke239,Cke656,Cke568],Ckf226),6,Ckc13,[99],0),
  (154,(Ckl1587,[Cke608,Cke6,Cke210,Cke239,Cke656,Cke568],Ckf226),5,Ckc13,[100],0),
  (155,(Ckl1587,[Cke686,Cke608,Cke6,Cke210,Cke239,Cke656,Cke568],Ckf226),4,Ckc13,[101],0),
  (156,(Ckl1587,[Cke693,Cke6,Cke210,Cke239,Cke656,Cke568],Ckf226),3,Ckc13,[102],0),
  (157,(Ckl1587,[Cke252,Cke210,Cke239,Cke656,Cke568],Ckf226),2,Ckc13,[103],0),
  (158,(Ckl1587,[Cke184,Cke239,Cke656,Cke568],Ckf226),1,Ckc13,[104],223),
  (161,(Ckl1587,[],Ckf226),0,Ckc13,[],0)]
def CNC224 : List (List ND) := [CNC224_0, CNC224_1]
theorem CKC224 : chkS prot SMsC SMC224 [] CNC224 = true := by decide +kernel
-- OneSided$Finder.grow [(90, 90), (59, 59), (10, 10), (-2147483648, 2147483647)]
def Ckl1588 : AL := [some Cka265,some Cka160,some Cka46,some Cka34,none,none,none,none]
def Ckf227 : FA := [(90,7,Cka92)]
def Ckf228 : FA := [(90,7,Cka267)]
def Ckl1589 : AL := [some Cka265,some Cka160,some Cka46,some Cka34,some Cka261,none,none,none]
def Cke694 : SE := (Cka261,(1,4,0,0,0))
def Ckl1590 : AL := [some Cka265,some Cka160,some Cka46,some Cka34,some Cka261,some Cka308,none,none]
def Cke695 : SE := (Cka308,(1,5,0,0,0))
def Ckl1591 : AL := [some Cka265,some Cka160,some Cka46,some Cka34,some Cka261,some Cka308,some Cka92,none]
def Ckl1592 : AL := [some Cka265,some Cka160,some Cka46,some Cka34,some Cka261,some Cka308,some Cka7,none]
def Ckl1593 : AL := [some Cka265,some Cka160,some Cka46,some Cka34,some Cka261,some Cka308,some Cka77,none]
def Cka310 : AV := (0,100,109,1)
def Cke696 : SE := (Cka310,pv0)
def Cke697 : SE := (Cka77,(2,92,10,0,0))
def Ckl1594 : AL := [some Cka265,some Cka160,some Cka46,some Cka34,some Cka261,some Cka308,some Cka77,some Cka96]
def Ckl1595 : AL := [some Cka265,some Cka160,some Cka46,some Cka34,some Cka261,some Cka308,some Cka7,some Cka96]
def Ckl1596 : AL := [some Cka265,some Cka160,some Cka46,some Cka34,some Cka261,some Cka308,some Cka77,some Cka6]
def Cke698 : SE := (Cka77,(2,93,10,0,0))
def Ckl1597 : AL := [some Cka265,some Cka160,some Cka46,some Cka34,some Cka261,some Cka308,some Cka77,some Cka7]
def Ckl1598 : AL := [some Cka265,some Cka160,some Cka46,some Cka34,some Cka261,some Cka308,some Cka240,some Cka96]
def Ckl1599 : AL := [some Cka265,some Cka160,some Cka46,some Cka34,some Cka261,some Cka308,some Cka46,none]
def Cke699 : SE := (Cka62,(2,91,10,0,0))
def CNC225_0 : List ND := [(0,(Ckl1588,[],[]),609,Ckc13,[1],0),
  (1,(Ckl1588,[Cke65],[]),608,Ckc13,[2],0),
  (2,(Ckl1588,[Cke568,Cke65],[]),607,Ckc13,[3],0),
  (5,(Ckl1588,[Cke654,Cke65],[]),606,Ckc13,[9,4],0),
  (8,(Ckl1588,[],Ckf227),605,Ckc13,[5],0),
  (9,(Ckl1588,[Cke568],Ckf227),604,Ckc13,[6],0),
  (10,(Ckl1588,[Cke656,Cke568],Ckf227),603,Ckc13,[7],0),
  (11,(Ckl1588,[Cke210,Cke656,Cke568],Ckf227),602,Ckc13,[8],220),
  (14,(Ckl1588,[],Ckf227),601,Ckc13,[],0),
  (15,(Ckl1588,[],Ckf228),600,Ckc13,[10],0),
  (16,(Ckl1588,[Cke65],Ckf228),599,Ckc13,[11],0),
  (18,(Ckl1588,[Cke48,Cke65],Ckf228),598,Ckc13,[12],0),
  (19,(Ckl1588,[Cke564],Ckf228),597,Ckc13,[13],0),
  (21,(Ckl1589,[],Ckf228),596,Ckc13,[14],0),
  (23,(Ckl1589,[Cke694],Ckf228),595,Ckc13,[15],0),
  (25,(Ckl1589,[Cke48,Cke694],Ckf228),594,Ckc13,[16],0),
  (26,(Ckl1589,[Cke687],Ckf228),593,Ckc13,[17],0),
  (28,(Ckl1590,[],Ckf228),592,Ckc13,[18],0),
  (29,(Ckl1590,[Cke568],Ckf228),591,Ckc13,[19],0),
  (32,(Ckl1590,[Cke646],Ckf228),590,Ckc13,[20],0),
  (34,(Ckl1590,[Cke694,Cke646],Ckf228),589,Ckc13,[21],0),
  (35,(Ckl1590,[Cke568,Cke694,Cke646],Ckf228),588,Ckc13,[22],0),
  (38,(Ckl1590,[Cke646,Cke694,Cke646],Ckf228),587,Ckc13,[23],0),
  (40,(Ckl1590,[Cke695,Cke646,Cke694,Cke646],Ckf228),586,Ckc13,[24],0),
  (42,(Ckl1590,[Cke48,Cke695,Cke646,Cke694,Cke646],Ckf228),585,Ckc13,[25],0),
  (45,(Ckl1590,[],Ckf228),584,Ckc13,[26],0),
  (46,(Ckl1590,[Cke568],Ckf228),583,Ckc13,[27],0),
  (47,(Ckl1590,[Cke656,Cke568],Ckf228),582,Ckc13,[28],0),
  (48,(Ckl1590,[Cke65,Cke656,Cke568],Ckf228),581,Ckc13,[29],0),
  (49,(Ckl1590,[Cke6,Cke65,Cke656,Cke568],Ckf228),580,Ckc13,[30],0),
  (50,(Ckl1590,[Cke496,Cke656,Cke568],Ckf228),579,Ckc13,[31],0),
  (51,(Ckl1590,[Cke210,Cke496,Cke656,Cke568],Ckf228),578,Ckc13,[32],224),
  (54,(Ckl1590,[],Ckf228),577,Ckc13,[33],0),
  (55,(Ckl1590,[Cke7],Ckf228),576,Ckc13,[34],0),
  (57,(Ckl1591,[],Ckf228),574,Ckc46,[36],0),
  (59,(Ckl1592,[Cke212],Ckf228),611,Ckc13,[37],0),
  (59,(Ckl1591,[Cke671],Ckf228),573,Ckc46,[38],0),
  (61,(Ckl1592,[Cke48,Cke212],Ckf228),610,Ckc13,[39],0),
  (61,(Ckl1591,[Cke48,Cke671],Ckf228),572,Ckc46,[90,39],0),
  (64,(Ckl1593,[],Ckf228),571,Ckc46,[40],0),
  (65,(Ckl1593,[Cke568],Ckf228),570,Ckc46,[41],0),
  (68,(Ckl1593,[Cke646],Ckf228),569,Ckc46,[42],0),
  (70,(Ckl1593,[Cke694,Cke646],Ckf228),568,Ckc46,[44],0),
  (72,(Ckl1592,[Cke212,Cke694,Cke646],Ckf228),612,Ckc13,[45],0),
  (72,(Ckl1593,[Cke672,Cke694,Cke646],Ckf228),567,Ckc46,[45],0),
  (73,(Ckl1593,[Cke696,Cke646],Ckf228),566,Ckc46,[46],0),
  (74,(Ckl1593,[Cke184],Ckf228),565,Ckc46,[47],0),
  (75,(Ckl1593,[Cke568,Cke184],Ckf228),564,Ckc46,[48],0),
  (78,(Ckl1593,[Cke623,Cke184],Ckf228),563,Ckc46,[49],0),
  (79,(Ckl1593,[Cke65,Cke623,Cke184],Ckf228),562,Ckc46,[50],0),
  (80,(Ckl1593,[Cke697,Cke184],Ckf228),561,Ckc46,[51],0),
  (81,(Ckl1593,[Cke184],Ckf228),560,Ckc46,[52],0),
  (82,(Ckl1593,[Cke6,Cke184],Ckf228),559,Ckc46,[53],0),
  (83,(Ckl1593,[Cke242],Ckf228),558,Ckc46,[56,54],0),
  (86,(Ckl1593,[],Ckf228),555,Ckc46,[55],0),
  (87,(Ckl1593,[Cke6],Ckf228),554,Ckc46,[58],0),
  (90,(Ckl1593,[],Ckf228),557,Ckc46,[57],0),
  (91,(Ckl1593,[Cke7],Ckf228),556,Ckc46,[59],0),
  (91,(Ckl1593,[Cke6],Ckf228),553,Ckc46,[59],0),
  (93,(Ckl1594,[],Ckf228),552,Ckc46,[60],0),
  (94,(Ckl1594,[Cke568],Ckf228),551,Ckc46,[61],0),
  (97,(Ckl1594,[Cke646],Ckf228),550,Ckc46,[62],0),
  (99,(Ckl1594,[Cke695,Cke646],Ckf228),549,Ckc46,[64],0),
  (101,(Ckl1595,[Cke212,Cke695,Cke646],Ckf228),613,Ckc13,[65],0)]
def CNC225_1 : List ND := [(101,(Ckl1594,[Cke672,Cke695,Cke646],Ckf228),548,Ckc46,[65],0),
  (102,(Ckl1594,[Cke690,Cke646],Ckf228),547,Ckc46,[66],0),
  (103,(Ckl1594,[Cke568,Cke690,Cke646],Ckf228),546,Ckc46,[67],0),
  (106,(Ckl1594,[Cke646,Cke690,Cke646],Ckf228),545,Ckc46,[68],0),
  (108,(Ckl1594,[Cke694,Cke646,Cke690,Cke646],Ckf228),544,Ckc46,[70],0),
  (110,(Ckl1595,[Cke212,Cke694,Cke646,Cke687,Cke646],Ckf228),614,Ckc13,[71],0),
  (110,(Ckl1594,[Cke672,Cke694,Cke646,Cke690,Cke646],Ckf228),543,Ckc46,[71],0),
  (111,(Ckl1594,[Cke696,Cke646,Cke690,Cke646],Ckf228),542,Ckc46,[72],0),
  (112,(Ckl1594,[Cke184,Cke690,Cke646],Ckf228),541,Ckc46,[73],0),
  (114,(Ckl1594,[Cke240,Cke184,Cke690,Cke646],Ckf228),540,Ckc46,[84,74],0),
  (117,(Ckl1596,[Cke184,Cke690,Cke646],Ckf228),537,Ckc46,[75],0),
  (118,(Ckl1596,[Cke568,Cke184,Cke690,Cke646],Ckf228),536,Ckc46,[76],0),
  (121,(Ckl1596,[Cke646,Cke184,Cke690,Cke646],Ckf228),535,Ckc46,[77],0),
  (123,(Ckl1596,[Cke694,Cke646,Cke184,Cke690,Cke646],Ckf228),534,Ckc46,[78],0),
  (124,(Ckl1596,[Cke568,Cke694,Cke646,Cke184,Cke690,Cke646],Ckf228),533,Ckc46,[79],0),
  (127,(Ckl1596,[Cke624,Cke694,Cke646,Cke184,Cke690,Cke646],Ckf228),532,Ckc46,[80],0),
  (128,(Ckl1596,[Cke65,Cke624,Cke694,Cke646,Cke184,Cke690,Cke646],Ckf228),531,Ckc46,[81],0),
  (129,(Ckl1596,[Cke698,Cke694,Cke646,Cke184,Cke690,Cke646],Ckf228),530,Ckc46,[82],0),
  (130,(Ckl1596,[Cke696,Cke646,Cke184,Cke690,Cke646],Ckf228),529,Ckc46,[83],0),
  (131,(Ckl1596,[Cke184,Cke184,Cke690,Cke646],Ckf228),528,Ckc46,[86],0),
  (134,(Ckl1597,[Cke184,Cke690,Cke646],Ckf228),539,Ckc46,[85],0),
  (135,(Ckl1597,[Cke7,Cke184,Cke690,Cke646],Ckf228),538,Ckc46,[87],0),
  (135,(Ckl1596,[Cke184,Cke184,Cke690,Cke646],Ckf228),527,Ckc46,[87],0),
  (136,(Ckl1594,[Cke184,Cke690,Cke646],Ckf228),526,Ckc46,[88],0),
  (137,(Ckl1594,[],Ckf228),525,Ckc46,[89],0),
  (140,(Ckl1598,[],Ckf228),575,Ckc46,[34],0),
  (143,(Ckl1599,[],Ckf228),14,Ckc13,[91],0),
  (144,(Ckl1599,[Cke568],Ckf228),13,Ckc13,[92],0),
  (145,(Ckl1599,[Cke656,Cke568],Ckf228),12,Ckc13,[93],0),
  (146,(Ckl1599,[Cke65,Cke656,Cke568],Ckf228),11,Ckc13,[94],0),
  (147,(Ckl1599,[Cke6,Cke65,Cke656,Cke568],Ckf228),10,Ckc13,[95],0),
  (148,(Ckl1599,[Cke496,Cke656,Cke568],Ckf228),9,Ckc13,[96],0),
  (149,(Ckl1599,[Cke210,Cke496,Cke656,Cke568],Ckf228),8,Ckc13,[97],0),
  (150,(Ckl1599,[Cke6,Cke210,Cke496,Cke656,Cke568],Ckf228),7,Ckc13,[98],0),
  (151,(Ckl1599,[Cke568,Cke6,Cke210,Cke496,Cke656,Cke568],Ckf228),6,Ckc13,[99],0),
  (154,(Ckl1599,[Cke608,Cke6,Cke210,Cke496,Cke656,Cke568],Ckf228),5,Ckc13,[100],0),
  (155,(Ckl1599,[Cke65,Cke608,Cke6,Cke210,Cke496,Cke656,Cke568],Ckf228),4,Ckc13,[101],0),
  (156,(Ckl1599,[Cke699,Cke6,Cke210,Cke496,Cke656,Cke568],Ckf228),3,Ckc13,[102],0),
  (157,(Ckl1599,[Cke252,Cke210,Cke496,Cke656,Cke568],Ckf228),2,Ckc13,[103],0),
  (158,(Ckl1599,[Cke184,Cke496,Cke656,Cke568],Ckf228),1,Ckc13,[104],224),
  (161,(Ckl1599,[],Ckf228),0,Ckc13,[],0)]
def CNC225 : List (List ND) := [CNC225_0, CNC225_1]
theorem CKC225 : chkS prot SMsC SMC225 [] CNC225 = true := by decide +kernel
-- OneSided$Finder.grow [(90, 90), (59, 59), (9, 9), (-2147483648, 2147483647)]
def Ckl1600 : AL := [some Cka265,some Cka160,some Cka93,some Cka34,none,none,none,none]
def Ckf229 : FA := [(90,7,Cka77)]
def Ckf230 : FA := [(90,7,Cka266)]
def Cka311 : AV := (0,90,90,0)
def Cke700 : SE := (Cka311,pv0)
def Ckl1601 : AL := [some Cka265,some Cka160,some Cka93,some Cka34,some Cka311,none,none,none]
def Cke701 : SE := (Cka311,(1,4,0,0,0))
def Ckl1602 : AL := [some Cka265,some Cka160,some Cka93,some Cka34,some Cka311,some Cka261,none,none]
def Cke702 : SE := (Cka261,(1,5,0,0,0))
def Ckl1603 : AL := [some Cka265,some Cka160,some Cka93,some Cka34,some Cka311,some Cka261,some Cka92,none]
def Ckl1604 : AL := [some Cka265,some Cka160,some Cka93,some Cka34,some Cka311,some Cka261,some Cka7,none]
def Ckl1605 : AL := [some Cka265,some Cka160,some Cka93,some Cka34,some Cka311,some Cka261,some Cka77,none]
def Cka312 : AV := (0,90,99,1)
def Cke703 : SE := (Cka312,pv0)
def Cke704 : SE := (Cka77,(2,92,9,0,0))
def Ckl1606 : AL := [some Cka265,some Cka160,some Cka93,some Cka34,some Cka311,some Cka261,some Cka77,some Cka96]
def Ckl1607 : AL := [some Cka265,some Cka160,some Cka93,some Cka34,some Cka311,some Cka261,some Cka7,some Cka96]
def Ckl1608 : AL := [some Cka265,some Cka160,some Cka93,some Cka34,some Cka311,some Cka261,some Cka77,some Cka6]
def Cke705 : SE := (Cka77,(2,93,9,0,0))
def Ckl1609 : AL := [some Cka265,some Cka160,some Cka93,some Cka34,some Cka311,some Cka261,some Cka77,some Cka7]
def Ckl1610 : AL := [some Cka265,some Cka160,some Cka93,some Cka34,some Cka311,some Cka261,some Cka240,some Cka96]
def Ckl1611 : AL := [some Cka265,some Cka160,some Cka93,some Cka34,some Cka311,some Cka261,some Cka46,none]
def Cke706 : SE := (Cka62,(2,91,9,0,0))
def CNC226_0 : List ND := [(0,(Ckl1600,[],[]),609,Ckc13,[1],0),
  (1,(Ckl1600,[Cke131],[]),608,Ckc13,[2],0),
  (2,(Ckl1600,[Cke568,Cke131],[]),607,Ckc13,[3],0),
  (5,(Ckl1600,[Cke654,Cke131],[]),606,Ckc13,[9,4],0),
  (8,(Ckl1600,[],Ckf229),605,Ckc13,[5],0),
  (9,(Ckl1600,[Cke568],Ckf229),604,Ckc13,[6],0),
  (10,(Ckl1600,[Cke656,Cke568],Ckf229),603,Ckc13,[7],0),
  (11,(Ckl1600,[Cke210,Cke656,Cke568],Ckf229),602,Ckc13,[8],220),
  (14,(Ckl1600,[],Ckf229),601,Ckc13,[],0),
  (15,(Ckl1600,[],Ckf230),600,Ckc13,[10],0),
  (16,(Ckl1600,[Cke131],Ckf230),599,Ckc13,[11],0),
  (18,(Ckl1600,[Cke48,Cke131],Ckf230),598,Ckc13,[12],0),
  (19,(Ckl1600,[Cke700],Ckf230),597,Ckc13,[13],0),
  (21,(Ckl1601,[],Ckf230),596,Ckc13,[14],0),
  (23,(Ckl1601,[Cke701],Ckf230),595,Ckc13,[15],0),
  (25,(Ckl1601,[Cke48,Cke701],Ckf230),594,Ckc13,[16],0),
  (26,(Ckl1601,[Cke564],Ckf230),593,Ckc13,[17],0),
  (28,(Ckl1602,[],Ckf230),592,Ckc13,[18],0),
  (29,(Ckl1602,[Cke568],Ckf230),591,Ckc13,[19],0),
  (32,(Ckl1602,[Cke646],Ckf230),590,Ckc13,[20],0),
  (34,(Ckl1602,[Cke701,Cke646],Ckf230),589,Ckc13,[21],0),
  (35,(Ckl1602,[Cke568,Cke701,Cke646],Ckf230),588,Ckc13,[22],0),
  (38,(Ckl1602,[Cke646,Cke701,Cke646],Ckf230),587,Ckc13,[23],0),
  (40,(Ckl1602,[Cke702,Cke646,Cke701,Cke646],Ckf230),586,Ckc13,[24],0),
  (42,(Ckl1602,[Cke48,Cke702,Cke646,Cke701,Cke646],Ckf230),585,Ckc13,[25],0),
  (45,(Ckl1602,[],Ckf230),584,Ckc13,[26],0),
  (46,(Ckl1602,[Cke568],Ckf230),583,Ckc13,[27],0),
  (47,(Ckl1602,[Cke656,Cke568],Ckf230),582,Ckc13,[28],0),
  (48,(Ckl1602,[Cke131,Cke656,Cke568],Ckf230),581,Ckc13,[29],0),
  (49,(Ckl1602,[Cke6,Cke131,Cke656,Cke568],Ckf230),580,Ckc13,[30],0),
  (50,(Ckl1602,[Cke48,Cke656,Cke568],Ckf230),579,Ckc13,[31],0),
  (51,(Ckl1602,[Cke210,Cke48,Cke656,Cke568],Ckf230),578,Ckc13,[32],225),
  (54,(Ckl1602,[],Ckf230),577,Ckc13,[33],0),
  (55,(Ckl1602,[Cke7],Ckf230),576,Ckc13,[34],0),
  (57,(Ckl1603,[],Ckf230),574,Ckc46,[36],0),
  (59,(Ckl1604,[Cke212],Ckf230),611,Ckc13,[37],0),
  (59,(Ckl1603,[Cke671],Ckf230),573,Ckc46,[38],0),
  (61,(Ckl1604,[Cke48,Cke212],Ckf230),610,Ckc13,[39],0),
  (61,(Ckl1603,[Cke48,Cke671],Ckf230),572,Ckc46,[90,39],0),
  (64,(Ckl1605,[],Ckf230),571,Ckc46,[40],0),
  (65,(Ckl1605,[Cke568],Ckf230),570,Ckc46,[41],0),
  (68,(Ckl1605,[Cke646],Ckf230),569,Ckc46,[42],0),
  (70,(Ckl1605,[Cke701,Cke646],Ckf230),568,Ckc46,[44],0),
  (72,(Ckl1604,[Cke212,Cke701,Cke646],Ckf230),612,Ckc13,[45],0),
  (72,(Ckl1605,[Cke672,Cke701,Cke646],Ckf230),567,Ckc46,[45],0),
  (73,(Ckl1605,[Cke703,Cke646],Ckf230),566,Ckc46,[46],0),
  (74,(Ckl1605,[Cke184],Ckf230),565,Ckc46,[47],0),
  (75,(Ckl1605,[Cke568,Cke184],Ckf230),564,Ckc46,[48],0),
  (78,(Ckl1605,[Cke623,Cke184],Ckf230),563,Ckc46,[49],0),
  (79,(Ckl1605,[Cke131,Cke623,Cke184],Ckf230),562,Ckc46,[50],0),
  (80,(Ckl1605,[Cke704,Cke184],Ckf230),561,Ckc46,[51],0),
  (81,(Ckl1605,[Cke184],Ckf230),560,Ckc46,[52],0),
  (82,(Ckl1605,[Cke6,Cke184],Ckf230),559,Ckc46,[53],0),
  (83,(Ckl1605,[Cke242],Ckf230),558,Ckc46,[56,54],0),
  (86,(Ckl1605,[],Ckf230),555,Ckc46,[55],0),
  (87,(Ckl1605,[Cke6],Ckf230),554,Ckc46,[58],0),
  (90,(Ckl1605,[],Ckf230),557,Ckc46,[57],0),
  (91,(Ckl1605,[Cke7],Ckf230),556,Ckc46,[59],0),
  (91,(Ckl1605,[Cke6],Ckf230),553,Ckc46,[59],0),
  (93,(Ckl1606,[],Ckf230),552,Ckc46,[60],0),
  (94,(Ckl1606,[Cke568],Ckf230),551,Ckc46,[61],0),
  (97,(Ckl1606,[Cke646],Ckf230),550,Ckc46,[62],0),
  (99,(Ckl1606,[Cke702,Cke646],Ckf230),549,Ckc46,[64],0),
  (101,(Ckl1607,[Cke212,Cke702,Cke646],Ckf230),613,Ckc13,[65],0)]
def CNC226_1 : List ND := [(101,(Ckl1606,[Cke672,Cke702,Cke646],Ckf230),548,Ckc46,[65],0),
  (102,(Ckl1606,[Cke696,Cke646],Ckf230),547,Ckc46,[66],0),
  (103,(Ckl1606,[Cke568,Cke696,Cke646],Ckf230),546,Ckc46,[67],0),
  (106,(Ckl1606,[Cke646,Cke696,Cke646],Ckf230),545,Ckc46,[68],0),
  (108,(Ckl1606,[Cke701,Cke646,Cke696,Cke646],Ckf230),544,Ckc46,[70],0),
  (110,(Ckl1607,[Cke212,Cke701,Cke646,Cke564,Cke646],Ckf230),614,Ckc13,[71],0),
  (110,(Ckl1606,[Cke672,Cke701,Cke646,Cke696,Cke646],Ckf230),543,Ckc46,[71],0),
  (111,(Ckl1606,[Cke703,Cke646,Cke696,Cke646],Ckf230),542,Ckc46,[72],0),
  (112,(Ckl1606,[Cke184,Cke696,Cke646],Ckf230),541,Ckc46,[73],0),
  (114,(Ckl1606,[Cke240,Cke184,Cke696,Cke646],Ckf230),540,Ckc46,[84,74],0),
  (117,(Ckl1608,[Cke184,Cke696,Cke646],Ckf230),537,Ckc46,[75],0),
  (118,(Ckl1608,[Cke568,Cke184,Cke696,Cke646],Ckf230),536,Ckc46,[76],0),
  (121,(Ckl1608,[Cke646,Cke184,Cke696,Cke646],Ckf230),535,Ckc46,[77],0),
  (123,(Ckl1608,[Cke701,Cke646,Cke184,Cke696,Cke646],Ckf230),534,Ckc46,[78],0),
  (124,(Ckl1608,[Cke568,Cke701,Cke646,Cke184,Cke696,Cke646],Ckf230),533,Ckc46,[79],0),
  (127,(Ckl1608,[Cke624,Cke701,Cke646,Cke184,Cke696,Cke646],Ckf230),532,Ckc46,[80],0),
  (128,(Ckl1608,[Cke131,Cke624,Cke701,Cke646,Cke184,Cke696,Cke646],Ckf230),531,Ckc46,[81],0),
  (129,(Ckl1608,[Cke705,Cke701,Cke646,Cke184,Cke696,Cke646],Ckf230),530,Ckc46,[82],0),
  (130,(Ckl1608,[Cke703,Cke646,Cke184,Cke696,Cke646],Ckf230),529,Ckc46,[83],0),
  (131,(Ckl1608,[Cke184,Cke184,Cke696,Cke646],Ckf230),528,Ckc46,[86],0),
  (134,(Ckl1609,[Cke184,Cke696,Cke646],Ckf230),539,Ckc46,[85],0),
  (135,(Ckl1609,[Cke7,Cke184,Cke696,Cke646],Ckf230),538,Ckc46,[87],0),
  (135,(Ckl1608,[Cke184,Cke184,Cke696,Cke646],Ckf230),527,Ckc46,[87],0),
  (136,(Ckl1606,[Cke184,Cke696,Cke646],Ckf230),526,Ckc46,[88],0),
  (137,(Ckl1606,[],Ckf230),525,Ckc46,[89],0),
  (140,(Ckl1610,[],Ckf230),575,Ckc46,[34],0),
  (143,(Ckl1611,[],Ckf230),14,Ckc13,[91],0),
  (144,(Ckl1611,[Cke568],Ckf230),13,Ckc13,[92],0),
  (145,(Ckl1611,[Cke656,Cke568],Ckf230),12,Ckc13,[93],0),
  (146,(Ckl1611,[Cke131,Cke656,Cke568],Ckf230),11,Ckc13,[94],0),
  (147,(Ckl1611,[Cke6,Cke131,Cke656,Cke568],Ckf230),10,Ckc13,[95],0),
  (148,(Ckl1611,[Cke48,Cke656,Cke568],Ckf230),9,Ckc13,[96],0),
  (149,(Ckl1611,[Cke210,Cke48,Cke656,Cke568],Ckf230),8,Ckc13,[97],0),
  (150,(Ckl1611,[Cke6,Cke210,Cke48,Cke656,Cke568],Ckf230),7,Ckc13,[98],0),
  (151,(Ckl1611,[Cke568,Cke6,Cke210,Cke48,Cke656,Cke568],Ckf230),6,Ckc13,[99],0),
  (154,(Ckl1611,[Cke608,Cke6,Cke210,Cke48,Cke656,Cke568],Ckf230),5,Ckc13,[100],0),
  (155,(Ckl1611,[Cke131,Cke608,Cke6,Cke210,Cke48,Cke656,Cke568],Ckf230),4,Ckc13,[101],0),
  (156,(Ckl1611,[Cke706,Cke6,Cke210,Cke48,Cke656,Cke568],Ckf230),3,Ckc13,[102],0),
  (157,(Ckl1611,[Cke252,Cke210,Cke48,Cke656,Cke568],Ckf230),2,Ckc13,[103],0),
  (158,(Ckl1611,[Cke184,Cke48,Cke656,Cke568],Ckf230),1,Ckc13,[104],225),
  (161,(Ckl1611,[],Ckf230),0,Ckc13,[],0)]
def CNC226 : List (List ND) := [CNC226_0, CNC226_1]
theorem CKC226 : chkS prot SMsC SMC226 [] CNC226 = true := by decide +kernel
-- OneSided$Finder.grow [(90, 90), (59, 59), (8, 8), (-2147483648, 2147483647)]
def Ckl1612 : AL := [some Cka265,some Cka160,some Cka17,some Cka34,none,none,none,none]
def Cke707 : SE := (Cka17,(1,2,0,0,0))
def Ckf231 : FA := [(90,7,Cka279)]
def Ckf232 : FA := [(90,7,Cka280)]
def Cka313 : AV := (0,80,80,0)
def Cke708 : SE := (Cka313,pv0)
def Ckl1613 : AL := [some Cka265,some Cka160,some Cka17,some Cka34,some Cka313,none,none,none]
def Cke709 : SE := (Cka313,(1,4,0,0,0))
def Ckl1614 : AL := [some Cka265,some Cka160,some Cka17,some Cka34,some Cka313,some Cka311,none,none]
def Cke710 : SE := (Cka311,(1,5,0,0,0))
def Ckl1615 : AL := [some Cka265,some Cka160,some Cka17,some Cka34,some Cka313,some Cka311,some Cka92,none]
def Ckl1616 : AL := [some Cka265,some Cka160,some Cka17,some Cka34,some Cka313,some Cka311,some Cka7,none]
def Ckl1617 : AL := [some Cka265,some Cka160,some Cka17,some Cka34,some Cka313,some Cka311,some Cka77,none]
def Cka314 : AV := (0,80,89,1)
def Cke711 : SE := (Cka314,pv0)
def Cke712 : SE := (Cka77,(2,92,8,0,0))
def Ckl1618 : AL := [some Cka265,some Cka160,some Cka17,some Cka34,some Cka313,some Cka311,some Cka77,some Cka96]
def Ckl1619 : AL := [some Cka265,some Cka160,some Cka17,some Cka34,some Cka313,some Cka311,some Cka7,some Cka96]
def Ckl1620 : AL := [some Cka265,some Cka160,some Cka17,some Cka34,some Cka313,some Cka311,some Cka77,some Cka6]
def Cke713 : SE := (Cka77,(2,93,8,0,0))
def Ckl1621 : AL := [some Cka265,some Cka160,some Cka17,some Cka34,some Cka313,some Cka311,some Cka77,some Cka7]
def Ckl1622 : AL := [some Cka265,some Cka160,some Cka17,some Cka34,some Cka313,some Cka311,some Cka240,some Cka96]
def Ckl1623 : AL := [some Cka265,some Cka160,some Cka17,some Cka34,some Cka313,some Cka311,some Cka46,none]
def Cke714 : SE := (Cka62,(2,91,8,0,0))
def CNC227_0 : List ND := [(0,(Ckl1612,[],[]),609,Ckc13,[1],0),
  (1,(Ckl1612,[Cke707],[]),608,Ckc13,[2],0),
  (2,(Ckl1612,[Cke568,Cke707],[]),607,Ckc13,[3],0),
  (5,(Ckl1612,[Cke654,Cke707],[]),606,Ckc13,[9,4],0),
  (8,(Ckl1612,[],Ckf231),605,Ckc13,[5],0),
  (9,(Ckl1612,[Cke568],Ckf231),604,Ckc13,[6],0),
  (10,(Ckl1612,[Cke656,Cke568],Ckf231),603,Ckc13,[7],0),
  (11,(Ckl1612,[Cke210,Cke656,Cke568],Ckf231),602,Ckc13,[8],220),
  (14,(Ckl1612,[],Ckf231),601,Ckc13,[],0),
  (15,(Ckl1612,[],Ckf232),600,Ckc13,[10],0),
  (16,(Ckl1612,[Cke707],Ckf232),599,Ckc13,[11],0),
  (18,(Ckl1612,[Cke48,Cke707],Ckf232),598,Ckc13,[12],0),
  (19,(Ckl1612,[Cke708],Ckf232),597,Ckc13,[13],0),
  (21,(Ckl1613,[],Ckf232),596,Ckc13,[14],0),
  (23,(Ckl1613,[Cke709],Ckf232),595,Ckc13,[15],0),
  (25,(Ckl1613,[Cke48,Cke709],Ckf232),594,Ckc13,[16],0),
  (26,(Ckl1613,[Cke700],Ckf232),593,Ckc13,[17],0),
  (28,(Ckl1614,[],Ckf232),592,Ckc13,[18],0),
  (29,(Ckl1614,[Cke568],Ckf232),591,Ckc13,[19],0),
  (32,(Ckl1614,[Cke646],Ckf232),590,Ckc13,[20],0),
  (34,(Ckl1614,[Cke709,Cke646],Ckf232),589,Ckc13,[21],0),
  (35,(Ckl1614,[Cke568,Cke709,Cke646],Ckf232),588,Ckc13,[22],0),
  (38,(Ckl1614,[Cke646,Cke709,Cke646],Ckf232),587,Ckc13,[23],0),
  (40,(Ckl1614,[Cke710,Cke646,Cke709,Cke646],Ckf232),586,Ckc13,[24],0),
  (42,(Ckl1614,[Cke48,Cke710,Cke646,Cke709,Cke646],Ckf232),585,Ckc13,[25],0),
  (45,(Ckl1614,[],Ckf232),584,Ckc13,[26],0),
  (46,(Ckl1614,[Cke568],Ckf232),583,Ckc13,[27],0),
  (47,(Ckl1614,[Cke656,Cke568],Ckf232),582,Ckc13,[28],0),
  (48,(Ckl1614,[Cke707,Cke656,Cke568],Ckf232),581,Ckc13,[29],0),
  (49,(Ckl1614,[Cke6,Cke707,Cke656,Cke568],Ckf232),580,Ckc13,[30],0),
  (50,(Ckl1614,[Cke146,Cke656,Cke568],Ckf232),579,Ckc13,[31],0),
  (51,(Ckl1614,[Cke210,Cke146,Cke656,Cke568],Ckf232),578,Ckc13,[32],226),
  (54,(Ckl1614,[],Ckf232),577,Ckc13,[33],0),
  (55,(Ckl1614,[Cke7],Ckf232),576,Ckc13,[34],0),
  (57,(Ckl1615,[],Ckf232),574,Ckc46,[36],0),
  (59,(Ckl1616,[Cke212],Ckf232),611,Ckc13,[37],0),
  (59,(Ckl1615,[Cke671],Ckf232),573,Ckc46,[38],0),
  (61,(Ckl1616,[Cke48,Cke212],Ckf232),610,Ckc13,[39],0),
  (61,(Ckl1615,[Cke48,Cke671],Ckf232),572,Ckc46,[90,39],0),
  (64,(Ckl1617,[],Ckf232),571,Ckc46,[40],0),
  (65,(Ckl1617,[Cke568],Ckf232),570,Ckc46,[41],0),
  (68,(Ckl1617,[Cke646],Ckf232),569,Ckc46,[42],0),
  (70,(Ckl1617,[Cke709,Cke646],Ckf232),568,Ckc46,[44],0),
  (72,(Ckl1616,[Cke212,Cke709,Cke646],Ckf232),612,Ckc13,[45],0),
  (72,(Ckl1617,[Cke672,Cke709,Cke646],Ckf232),567,Ckc46,[45],0),
  (73,(Ckl1617,[Cke711,Cke646],Ckf232),566,Ckc46,[46],0),
  (74,(Ckl1617,[Cke184],Ckf232),565,Ckc46,[47],0),
  (75,(Ckl1617,[Cke568,Cke184],Ckf232),564,Ckc46,[48],0),
  (78,(Ckl1617,[Cke623,Cke184],Ckf232),563,Ckc46,[49],0),
  (79,(Ckl1617,[Cke707,Cke623,Cke184],Ckf232),562,Ckc46,[50],0),
  (80,(Ckl1617,[Cke712,Cke184],Ckf232),561,Ckc46,[51],0),
  (81,(Ckl1617,[Cke184],Ckf232),560,Ckc46,[52],0),
  (82,(Ckl1617,[Cke6,Cke184],Ckf232),559,Ckc46,[53],0),
  (83,(Ckl1617,[Cke242],Ckf232),558,Ckc46,[56,54],0),
  (86,(Ckl1617,[],Ckf232),555,Ckc46,[55],0),
  (87,(Ckl1617,[Cke6],Ckf232),554,Ckc46,[58],0),
  (90,(Ckl1617,[],Ckf232),557,Ckc46,[57],0),
  (91,(Ckl1617,[Cke7],Ckf232),556,Ckc46,[59],0),
  (91,(Ckl1617,[Cke6],Ckf232),553,Ckc46,[59],0),
  (93,(Ckl1618,[],Ckf232),552,Ckc46,[60],0),
  (94,(Ckl1618,[Cke568],Ckf232),551,Ckc46,[61],0),
  (97,(Ckl1618,[Cke646],Ckf232),550,Ckc46,[62],0),
  (99,(Ckl1618,[Cke710,Cke646],Ckf232),549,Ckc46,[64],0),
  (101,(Ckl1619,[Cke212,Cke710,Cke646],Ckf232),613,Ckc13,[65],0)]
def CNC227_1 : List ND := [(101,(Ckl1618,[Cke672,Cke710,Cke646],Ckf232),548,Ckc46,[65],0),
  (102,(Ckl1618,[Cke703,Cke646],Ckf232),547,Ckc46,[66],0),
  (103,(Ckl1618,[Cke568,Cke703,Cke646],Ckf232),546,Ckc46,[67],0),
  (106,(Ckl1618,[Cke646,Cke703,Cke646],Ckf232),545,Ckc46,[68],0),
  (108,(Ckl1618,[Cke709,Cke646,Cke703,Cke646],Ckf232),544,Ckc46,[70],0),
  (110,(Ckl1619,[Cke212,Cke709,Cke646,Cke700,Cke646],Ckf232),614,Ckc13,[71],0),
  (110,(Ckl1618,[Cke672,Cke709,Cke646,Cke703,Cke646],Ckf232),543,Ckc46,[71],0),
  (111,(Ckl1618,[Cke711,Cke646,Cke703,Cke646],Ckf232),542,Ckc46,[72],0),
  (112,(Ckl1618,[Cke184,Cke703,Cke646],Ckf232),541,Ckc46,[73],0),
  (114,(Ckl1618,[Cke240,Cke184,Cke703,Cke646],Ckf232),540,Ckc46,[84,74],0),
  (117,(Ckl1620,[Cke184,Cke703,Cke646],Ckf232),537,Ckc46,[75],0),
  (118,(Ckl1620,[Cke568,Cke184,Cke703,Cke646],Ckf232),536,Ckc46,[76],0),
  (121,(Ckl1620,[Cke646,Cke184,Cke703,Cke646],Ckf232),535,Ckc46,[77],0),
  (123,(Ckl1620,[Cke709,Cke646,Cke184,Cke703,Cke646],Ckf232),534,Ckc46,[78],0),
  (124,(Ckl1620,[Cke568,Cke709,Cke646,Cke184,Cke703,Cke646],Ckf232),533,Ckc46,[79],0),
  (127,(Ckl1620,[Cke624,Cke709,Cke646,Cke184,Cke703,Cke646],Ckf232),532,Ckc46,[80],0),
  (128,(Ckl1620,[Cke707,Cke624,Cke709,Cke646,Cke184,Cke703,Cke646],Ckf232),531,Ckc46,[81],0),
  (129,(Ckl1620,[Cke713,Cke709,Cke646,Cke184,Cke703,Cke646],Ckf232),530,Ckc46,[82],0),
  (130,(Ckl1620,[Cke711,Cke646,Cke184,Cke703,Cke646],Ckf232),529,Ckc46,[83],0),
  (131,(Ckl1620,[Cke184,Cke184,Cke703,Cke646],Ckf232),528,Ckc46,[86],0),
  (134,(Ckl1621,[Cke184,Cke703,Cke646],Ckf232),539,Ckc46,[85],0),
  (135,(Ckl1621,[Cke7,Cke184,Cke703,Cke646],Ckf232),538,Ckc46,[87],0),
  (135,(Ckl1620,[Cke184,Cke184,Cke703,Cke646],Ckf232),527,Ckc46,[87],0),
  (136,(Ckl1618,[Cke184,Cke703,Cke646],Ckf232),526,Ckc46,[88],0),
  (137,(Ckl1618,[],Ckf232),525,Ckc46,[89],0),
  (140,(Ckl1622,[],Ckf232),575,Ckc46,[34],0),
  (143,(Ckl1623,[],Ckf232),14,Ckc13,[91],0),
  (144,(Ckl1623,[Cke568],Ckf232),13,Ckc13,[92],0),
  (145,(Ckl1623,[Cke656,Cke568],Ckf232),12,Ckc13,[93],0),
  (146,(Ckl1623,[Cke707,Cke656,Cke568],Ckf232),11,Ckc13,[94],0),
  (147,(Ckl1623,[Cke6,Cke707,Cke656,Cke568],Ckf232),10,Ckc13,[95],0),
  (148,(Ckl1623,[Cke146,Cke656,Cke568],Ckf232),9,Ckc13,[96],0),
  (149,(Ckl1623,[Cke210,Cke146,Cke656,Cke568],Ckf232),8,Ckc13,[97],0),
  (150,(Ckl1623,[Cke6,Cke210,Cke146,Cke656,Cke568],Ckf232),7,Ckc13,[98],0),
  (151,(Ckl1623,[Cke568,Cke6,Cke210,Cke146,Cke656,Cke568],Ckf232),6,Ckc13,[99],0),
  (154,(Ckl1623,[Cke608,Cke6,Cke210,Cke146,Cke656,Cke568],Ckf232),5,Ckc13,[100],0),
  (155,(Ckl1623,[Cke707,Cke608,Cke6,Cke210,Cke146,Cke656,Cke568],Ckf232),4,Ckc13,[101],0),
  (156,(Ckl1623,[Cke714,Cke6,Cke210,Cke146,Cke656,Cke568],Ckf232),3,Ckc13,[102],0),
  (157,(Ckl1623,[Cke252,Cke210,Cke146,Cke656,Cke568],Ckf232),2,Ckc13,[103],0),
  (158,(Ckl1623,[Cke184,Cke146,Cke656,Cke568],Ckf232),1,Ckc13,[104],226),
  (161,(Ckl1623,[],Ckf232),0,Ckc13,[],0)]
def CNC227 : List (List ND) := [CNC227_0, CNC227_1]
theorem CKC227 : chkS prot SMsC SMC227 [] CNC227 = true := by decide +kernel
-- OneSided$Finder.grow [(90, 90), (59, 59), (7, 7), (-2147483648, 2147483647)]
def Ckl1624 : AL := [some Cka265,some Cka160,some Cka162,some Cka34,none,none,none,none]
def Cke715 : SE := (Cka162,(1,2,0,0,0))
def Ckf233 : FA := [(90,7,Cka277)]
def Ckf234 : FA := [(90,7,Cka278)]
def Cka315 : AV := (0,70,70,0)
def Cke716 : SE := (Cka315,pv0)
def Ckl1625 : AL := [some Cka265,some Cka160,some Cka162,some Cka34,some Cka315,none,none,none]
def Cke717 : SE := (Cka315,(1,4,0,0,0))
def Ckl1626 : AL := [some Cka265,some Cka160,some Cka162,some Cka34,some Cka315,some Cka313,none,none]
def Cke718 : SE := (Cka313,(1,5,0,0,0))
def Ckl1627 : AL := [some Cka265,some Cka160,some Cka162,some Cka34,some Cka315,some Cka313,some Cka92,none]
def Ckl1628 : AL := [some Cka265,some Cka160,some Cka162,some Cka34,some Cka315,some Cka313,some Cka7,none]
def Ckl1629 : AL := [some Cka265,some Cka160,some Cka162,some Cka34,some Cka315,some Cka313,some Cka77,none]
def Cka316 : AV := (0,70,79,1)
def Cke719 : SE := (Cka316,pv0)
def Cke720 : SE := (Cka77,(2,92,7,0,0))
def Ckl1630 : AL := [some Cka265,some Cka160,some Cka162,some Cka34,some Cka315,some Cka313,some Cka77,some Cka96]
def Ckl1631 : AL := [some Cka265,some Cka160,some Cka162,some Cka34,some Cka315,some Cka313,some Cka7,some Cka96]
def Ckl1632 : AL := [some Cka265,some Cka160,some Cka162,some Cka34,some Cka315,some Cka313,some Cka77,some Cka6]
def Cke721 : SE := (Cka77,(2,93,7,0,0))
def Ckl1633 : AL := [some Cka265,some Cka160,some Cka162,some Cka34,some Cka315,some Cka313,some Cka77,some Cka7]
def Ckl1634 : AL := [some Cka265,some Cka160,some Cka162,some Cka34,some Cka315,some Cka313,some Cka240,some Cka96]
def Ckl1635 : AL := [some Cka265,some Cka160,some Cka162,some Cka34,some Cka315,some Cka313,some Cka46,none]
def Cke722 : SE := (Cka62,(2,91,7,0,0))
def CNC228_0 : List ND := [(0,(Ckl1624,[],[]),609,Ckc13,[1],0),
  (1,(Ckl1624,[Cke715],[]),608,Ckc13,[2],0),
  (2,(Ckl1624,[Cke568,Cke715],[]),607,Ckc13,[3],0),
  (5,(Ckl1624,[Cke654,Cke715],[]),606,Ckc13,[9,4],0),
  (8,(Ckl1624,[],Ckf233),605,Ckc13,[5],0),
  (9,(Ckl1624,[Cke568],Ckf233),604,Ckc13,[6],0),
  (10,(Ckl1624,[Cke656,Cke568],Ckf233),603,Ckc13,[7],0),
  (11,(Ckl1624,[Cke210,Cke656,Cke568],Ckf233),602,Ckc13,[8],220),
  (14,(Ckl1624,[],Ckf233),601,Ckc13,[],0),
  (15,(Ckl1624,[],Ckf234),600,Ckc13,[10],0),
  (16,(Ckl1624,[Cke715],Ckf234),599,Ckc13,[11],0),
  (18,(Ckl1624,[Cke48,Cke715],Ckf234),598,Ckc13,[12],0),
  (19,(Ckl1624,[Cke716],Ckf234),597,Ckc13,[13],0),
  (21,(Ckl1625,[],Ckf234),596,Ckc13,[14],0),
  (23,(Ckl1625,[Cke717],Ckf234),595,Ckc13,[15],0),
  (25,(Ckl1625,[Cke48,Cke717],Ckf234),594,Ckc13,[16],0),
  (26,(Ckl1625,[Cke708],Ckf234),593,Ckc13,[17],0),
  (28,(Ckl1626,[],Ckf234),592,Ckc13,[18],0),
  (29,(Ckl1626,[Cke568],Ckf234),591,Ckc13,[19],0),
  (32,(Ckl1626,[Cke646],Ckf234),590,Ckc13,[20],0),
  (34,(Ckl1626,[Cke717,Cke646],Ckf234),589,Ckc13,[21],0),
  (35,(Ckl1626,[Cke568,Cke717,Cke646],Ckf234),588,Ckc13,[22],0),
  (38,(Ckl1626,[Cke646,Cke717,Cke646],Ckf234),587,Ckc13,[23],0),
  (40,(Ckl1626,[Cke718,Cke646,Cke717,Cke646],Ckf234),586,Ckc13,[24],0),
  (42,(Ckl1626,[Cke48,Cke718,Cke646,Cke717,Cke646],Ckf234),585,Ckc13,[25],0),
  (45,(Ckl1626,[],Ckf234),584,Ckc13,[26],0),
  (46,(Ckl1626,[Cke568],Ckf234),583,Ckc13,[27],0),
  (47,(Ckl1626,[Cke656,Cke568],Ckf234),582,Ckc13,[28],0),
  (48,(Ckl1626,[Cke715,Cke656,Cke568],Ckf234),581,Ckc13,[29],0),
  (49,(Ckl1626,[Cke6,Cke715,Cke656,Cke568],Ckf234),580,Ckc13,[30],0),
  (50,(Ckl1626,[Cke21,Cke656,Cke568],Ckf234),579,Ckc13,[31],0),
  (51,(Ckl1626,[Cke210,Cke21,Cke656,Cke568],Ckf234),578,Ckc13,[32],227),
  (54,(Ckl1626,[],Ckf234),577,Ckc13,[33],0),
  (55,(Ckl1626,[Cke7],Ckf234),576,Ckc13,[34],0),
  (57,(Ckl1627,[],Ckf234),574,Ckc46,[36],0),
  (59,(Ckl1628,[Cke212],Ckf234),611,Ckc13,[37],0),
  (59,(Ckl1627,[Cke671],Ckf234),573,Ckc46,[38],0),
  (61,(Ckl1628,[Cke48,Cke212],Ckf234),610,Ckc13,[39],0),
  (61,(Ckl1627,[Cke48,Cke671],Ckf234),572,Ckc46,[90,39],0),
  (64,(Ckl1629,[],Ckf234),571,Ckc46,[40],0),
  (65,(Ckl1629,[Cke568],Ckf234),570,Ckc46,[41],0),
  (68,(Ckl1629,[Cke646],Ckf234),569,Ckc46,[42],0),
  (70,(Ckl1629,[Cke717,Cke646],Ckf234),568,Ckc46,[44],0),
  (72,(Ckl1628,[Cke212,Cke717,Cke646],Ckf234),612,Ckc13,[45],0),
  (72,(Ckl1629,[Cke672,Cke717,Cke646],Ckf234),567,Ckc46,[45],0),
  (73,(Ckl1629,[Cke719,Cke646],Ckf234),566,Ckc46,[46],0),
  (74,(Ckl1629,[Cke184],Ckf234),565,Ckc46,[47],0),
  (75,(Ckl1629,[Cke568,Cke184],Ckf234),564,Ckc46,[48],0),
  (78,(Ckl1629,[Cke623,Cke184],Ckf234),563,Ckc46,[49],0),
  (79,(Ckl1629,[Cke715,Cke623,Cke184],Ckf234),562,Ckc46,[50],0),
  (80,(Ckl1629,[Cke720,Cke184],Ckf234),561,Ckc46,[51],0),
  (81,(Ckl1629,[Cke184],Ckf234),560,Ckc46,[52],0),
  (82,(Ckl1629,[Cke6,Cke184],Ckf234),559,Ckc46,[53],0),
  (83,(Ckl1629,[Cke242],Ckf234),558,Ckc46,[56,54],0),
  (86,(Ckl1629,[],Ckf234),555,Ckc46,[55],0),
  (87,(Ckl1629,[Cke6],Ckf234),554,Ckc46,[58],0),
  (90,(Ckl1629,[],Ckf234),557,Ckc46,[57],0),
  (91,(Ckl1629,[Cke7],Ckf234),556,Ckc46,[59],0),
  (91,(Ckl1629,[Cke6],Ckf234),553,Ckc46,[59],0),
  (93,(Ckl1630,[],Ckf234),552,Ckc46,[60],0),
  (94,(Ckl1630,[Cke568],Ckf234),551,Ckc46,[61],0),
  (97,(Ckl1630,[Cke646],Ckf234),550,Ckc46,[62],0),
  (99,(Ckl1630,[Cke718,Cke646],Ckf234),549,Ckc46,[64],0),
  (101,(Ckl1631,[Cke212,Cke718,Cke646],Ckf234),613,Ckc13,[65],0)]
def CNC228_1 : List ND := [(101,(Ckl1630,[Cke672,Cke718,Cke646],Ckf234),548,Ckc46,[65],0),
  (102,(Ckl1630,[Cke711,Cke646],Ckf234),547,Ckc46,[66],0),
  (103,(Ckl1630,[Cke568,Cke711,Cke646],Ckf234),546,Ckc46,[67],0),
  (106,(Ckl1630,[Cke646,Cke711,Cke646],Ckf234),545,Ckc46,[68],0),
  (108,(Ckl1630,[Cke717,Cke646,Cke711,Cke646],Ckf234),544,Ckc46,[70],0),
  (110,(Ckl1631,[Cke212,Cke717,Cke646,Cke708,Cke646],Ckf234),614,Ckc13,[71],0),
  (110,(Ckl1630,[Cke672,Cke717,Cke646,Cke711,Cke646],Ckf234),543,Ckc46,[71],0),
  (111,(Ckl1630,[Cke719,Cke646,Cke711,Cke646],Ckf234),542,Ckc46,[72],0),
  (112,(Ckl1630,[Cke184,Cke711,Cke646],Ckf234),541,Ckc46,[73],0),
  (114,(Ckl1630,[Cke240,Cke184,Cke711,Cke646],Ckf234),540,Ckc46,[84,74],0),
  (117,(Ckl1632,[Cke184,Cke711,Cke646],Ckf234),537,Ckc46,[75],0),
  (118,(Ckl1632,[Cke568,Cke184,Cke711,Cke646],Ckf234),536,Ckc46,[76],0),
  (121,(Ckl1632,[Cke646,Cke184,Cke711,Cke646],Ckf234),535,Ckc46,[77],0),
  (123,(Ckl1632,[Cke717,Cke646,Cke184,Cke711,Cke646],Ckf234),534,Ckc46,[78],0),
  (124,(Ckl1632,[Cke568,Cke717,Cke646,Cke184,Cke711,Cke646],Ckf234),533,Ckc46,[79],0),
  (127,(Ckl1632,[Cke624,Cke717,Cke646,Cke184,Cke711,Cke646],Ckf234),532,Ckc46,[80],0),
  (128,(Ckl1632,[Cke715,Cke624,Cke717,Cke646,Cke184,Cke711,Cke646],Ckf234),531,Ckc46,[81],0),
  (129,(Ckl1632,[Cke721,Cke717,Cke646,Cke184,Cke711,Cke646],Ckf234),530,Ckc46,[82],0),
  (130,(Ckl1632,[Cke719,Cke646,Cke184,Cke711,Cke646],Ckf234),529,Ckc46,[83],0),
  (131,(Ckl1632,[Cke184,Cke184,Cke711,Cke646],Ckf234),528,Ckc46,[86],0),
  (134,(Ckl1633,[Cke184,Cke711,Cke646],Ckf234),539,Ckc46,[85],0),
  (135,(Ckl1633,[Cke7,Cke184,Cke711,Cke646],Ckf234),538,Ckc46,[87],0),
  (135,(Ckl1632,[Cke184,Cke184,Cke711,Cke646],Ckf234),527,Ckc46,[87],0),
  (136,(Ckl1630,[Cke184,Cke711,Cke646],Ckf234),526,Ckc46,[88],0),
  (137,(Ckl1630,[],Ckf234),525,Ckc46,[89],0),
  (140,(Ckl1634,[],Ckf234),575,Ckc46,[34],0),
  (143,(Ckl1635,[],Ckf234),14,Ckc13,[91],0),
  (144,(Ckl1635,[Cke568],Ckf234),13,Ckc13,[92],0),
  (145,(Ckl1635,[Cke656,Cke568],Ckf234),12,Ckc13,[93],0),
  (146,(Ckl1635,[Cke715,Cke656,Cke568],Ckf234),11,Ckc13,[94],0),
  (147,(Ckl1635,[Cke6,Cke715,Cke656,Cke568],Ckf234),10,Ckc13,[95],0),
  (148,(Ckl1635,[Cke21,Cke656,Cke568],Ckf234),9,Ckc13,[96],0),
  (149,(Ckl1635,[Cke210,Cke21,Cke656,Cke568],Ckf234),8,Ckc13,[97],0),
  (150,(Ckl1635,[Cke6,Cke210,Cke21,Cke656,Cke568],Ckf234),7,Ckc13,[98],0),
  (151,(Ckl1635,[Cke568,Cke6,Cke210,Cke21,Cke656,Cke568],Ckf234),6,Ckc13,[99],0),
  (154,(Ckl1635,[Cke608,Cke6,Cke210,Cke21,Cke656,Cke568],Ckf234),5,Ckc13,[100],0),
  (155,(Ckl1635,[Cke715,Cke608,Cke6,Cke210,Cke21,Cke656,Cke568],Ckf234),4,Ckc13,[101],0),
  (156,(Ckl1635,[Cke722,Cke6,Cke210,Cke21,Cke656,Cke568],Ckf234),3,Ckc13,[102],0),
  (157,(Ckl1635,[Cke252,Cke210,Cke21,Cke656,Cke568],Ckf234),2,Ckc13,[103],0),
  (158,(Ckl1635,[Cke184,Cke21,Cke656,Cke568],Ckf234),1,Ckc13,[104],227),
  (161,(Ckl1635,[],Ckf234),0,Ckc13,[],0)]
def CNC228 : List (List ND) := [CNC228_0, CNC228_1]
theorem CKC228 : chkS prot SMsC SMC228 [] CNC228 = true := by decide +kernel
-- OneSided$Finder.grow [(90, 90), (59, 59), (6, 6), (-2147483648, 2147483647)]
def Ckl1636 : AL := [some Cka265,some Cka160,some Cka97,some Cka34,none,none,none,none]
def Cke723 : SE := (Cka97,(1,2,0,0,0))
def Ckf235 : FA := [(90,7,Cka66)]
def Ckf236 : FA := [(90,7,Cka276)]
def Ckl1637 : AL := [some Cka265,some Cka160,some Cka97,some Cka34,some Cka37,none,none,none]
def Cke724 : SE := (Cka37,(1,4,0,0,0))
def Ckl1638 : AL := [some Cka265,some Cka160,some Cka97,some Cka34,some Cka37,some Cka315,none,none]
def Cke725 : SE := (Cka315,(1,5,0,0,0))
def Ckl1639 : AL := [some Cka265,some Cka160,some Cka97,some Cka34,some Cka37,some Cka315,some Cka92,none]
def Ckl1640 : AL := [some Cka265,some Cka160,some Cka97,some Cka34,some Cka37,some Cka315,some Cka7,none]
def Ckl1641 : AL := [some Cka265,some Cka160,some Cka97,some Cka34,some Cka37,some Cka315,some Cka77,none]
def Cka317 : AV := (0,60,69,1)
def Cke726 : SE := (Cka317,pv0)
def Cke727 : SE := (Cka77,(2,92,6,0,0))
def Ckl1642 : AL := [some Cka265,some Cka160,some Cka97,some Cka34,some Cka37,some Cka315,some Cka77,some Cka96]
def Ckl1643 : AL := [some Cka265,some Cka160,some Cka97,some Cka34,some Cka37,some Cka315,some Cka7,some Cka96]
def Ckl1644 : AL := [some Cka265,some Cka160,some Cka97,some Cka34,some Cka37,some Cka315,some Cka77,some Cka6]
def Cke728 : SE := (Cka77,(2,93,6,0,0))
def Ckl1645 : AL := [some Cka265,some Cka160,some Cka97,some Cka34,some Cka37,some Cka315,some Cka77,some Cka7]
def Ckl1646 : AL := [some Cka265,some Cka160,some Cka97,some Cka34,some Cka37,some Cka315,some Cka240,some Cka96]
def Ckl1647 : AL := [some Cka265,some Cka160,some Cka97,some Cka34,some Cka37,some Cka315,some Cka46,none]
def Cke729 : SE := (Cka62,(2,91,6,0,0))
def CNC229_0 : List ND := [(0,(Ckl1636,[],[]),609,Ckc13,[1],0),
  (1,(Ckl1636,[Cke723],[]),608,Ckc13,[2],0),
  (2,(Ckl1636,[Cke568,Cke723],[]),607,Ckc13,[3],0),
  (5,(Ckl1636,[Cke654,Cke723],[]),606,Ckc13,[9,4],0),
  (8,(Ckl1636,[],Ckf235),605,Ckc13,[5],0),
  (9,(Ckl1636,[Cke568],Ckf235),604,Ckc13,[6],0),
  (10,(Ckl1636,[Cke656,Cke568],Ckf235),603,Ckc13,[7],0),
  (11,(Ckl1636,[Cke210,Cke656,Cke568],Ckf235),602,Ckc13,[8],220),
  (14,(Ckl1636,[],Ckf235),601,Ckc13,[],0),
  (15,(Ckl1636,[],Ckf236),600,Ckc13,[10],0),
  (16,(Ckl1636,[Cke723],Ckf236),599,Ckc13,[11],0),
  (18,(Ckl1636,[Cke48,Cke723],Ckf236),598,Ckc13,[12],0),
  (19,(Ckl1636,[Cke40],Ckf236),597,Ckc13,[13],0),
  (21,(Ckl1637,[],Ckf236),596,Ckc13,[14],0),
  (23,(Ckl1637,[Cke724],Ckf236),595,Ckc13,[15],0),
  (25,(Ckl1637,[Cke48,Cke724],Ckf236),594,Ckc13,[16],0),
  (26,(Ckl1637,[Cke716],Ckf236),593,Ckc13,[17],0),
  (28,(Ckl1638,[],Ckf236),592,Ckc13,[18],0),
  (29,(Ckl1638,[Cke568],Ckf236),591,Ckc13,[19],0),
  (32,(Ckl1638,[Cke646],Ckf236),590,Ckc13,[20],0),
  (34,(Ckl1638,[Cke724,Cke646],Ckf236),589,Ckc13,[21],0),
  (35,(Ckl1638,[Cke568,Cke724,Cke646],Ckf236),588,Ckc13,[22],0),
  (38,(Ckl1638,[Cke646,Cke724,Cke646],Ckf236),587,Ckc13,[23],0),
  (40,(Ckl1638,[Cke725,Cke646,Cke724,Cke646],Ckf236),586,Ckc13,[24],0),
  (42,(Ckl1638,[Cke48,Cke725,Cke646,Cke724,Cke646],Ckf236),585,Ckc13,[25],0),
  (45,(Ckl1638,[],Ckf236),584,Ckc13,[26],0),
  (46,(Ckl1638,[Cke568],Ckf236),583,Ckc13,[27],0),
  (47,(Ckl1638,[Cke656,Cke568],Ckf236),582,Ckc13,[28],0),
  (48,(Ckl1638,[Cke723,Cke656,Cke568],Ckf236),581,Ckc13,[29],0),
  (49,(Ckl1638,[Cke6,Cke723,Cke656,Cke568],Ckf236),580,Ckc13,[30],0),
  (50,(Ckl1638,[Cke502,Cke656,Cke568],Ckf236),579,Ckc13,[31],0),
  (51,(Ckl1638,[Cke210,Cke502,Cke656,Cke568],Ckf236),578,Ckc13,[32],228),
  (54,(Ckl1638,[],Ckf236),577,Ckc13,[33],0),
  (55,(Ckl1638,[Cke7],Ckf236),576,Ckc13,[34],0),
  (57,(Ckl1639,[],Ckf236),574,Ckc46,[36],0),
  (59,(Ckl1640,[Cke212],Ckf236),611,Ckc13,[37],0),
  (59,(Ckl1639,[Cke671],Ckf236),573,Ckc46,[38],0),
  (61,(Ckl1640,[Cke48,Cke212],Ckf236),610,Ckc13,[39],0),
  (61,(Ckl1639,[Cke48,Cke671],Ckf236),572,Ckc46,[90,39],0),
  (64,(Ckl1641,[],Ckf236),571,Ckc46,[40],0),
  (65,(Ckl1641,[Cke568],Ckf236),570,Ckc46,[41],0),
  (68,(Ckl1641,[Cke646],Ckf236),569,Ckc46,[42],0),
  (70,(Ckl1641,[Cke724,Cke646],Ckf236),568,Ckc46,[44],0),
  (72,(Ckl1640,[Cke212,Cke724,Cke646],Ckf236),612,Ckc13,[45],0),
  (72,(Ckl1641,[Cke672,Cke724,Cke646],Ckf236),567,Ckc46,[45],0),
  (73,(Ckl1641,[Cke726,Cke646],Ckf236),566,Ckc46,[46],0),
  (74,(Ckl1641,[Cke184],Ckf236),565,Ckc46,[47],0),
  (75,(Ckl1641,[Cke568,Cke184],Ckf236),564,Ckc46,[48],0),
  (78,(Ckl1641,[Cke623,Cke184],Ckf236),563,Ckc46,[49],0),
  (79,(Ckl1641,[Cke723,Cke623,Cke184],Ckf236),562,Ckc46,[50],0),
  (80,(Ckl1641,[Cke727,Cke184],Ckf236),561,Ckc46,[51],0),
  (81,(Ckl1641,[Cke184],Ckf236),560,Ckc46,[52],0),
  (82,(Ckl1641,[Cke6,Cke184],Ckf236),559,Ckc46,[53],0),
  (83,(Ckl1641,[Cke242],Ckf236),558,Ckc46,[56,54],0),
  (86,(Ckl1641,[],Ckf236),555,Ckc46,[55],0),
  (87,(Ckl1641,[Cke6],Ckf236),554,Ckc46,[58],0),
  (90,(Ckl1641,[],Ckf236),557,Ckc46,[57],0),
  (91,(Ckl1641,[Cke7],Ckf236),556,Ckc46,[59],0),
  (91,(Ckl1641,[Cke6],Ckf236),553,Ckc46,[59],0),
  (93,(Ckl1642,[],Ckf236),552,Ckc46,[60],0),
  (94,(Ckl1642,[Cke568],Ckf236),551,Ckc46,[61],0),
  (97,(Ckl1642,[Cke646],Ckf236),550,Ckc46,[62],0),
  (99,(Ckl1642,[Cke725,Cke646],Ckf236),549,Ckc46,[64],0),
  (101,(Ckl1643,[Cke212,Cke725,Cke646],Ckf236),613,Ckc13,[65],0)]
def CNC229_1 : List ND := [(101,(Ckl1642,[Cke672,Cke725,Cke646],Ckf236),548,Ckc46,[65],0),
  (102,(Ckl1642,[Cke719,Cke646],Ckf236),547,Ckc46,[66],0),
  (103,(Ckl1642,[Cke568,Cke719,Cke646],Ckf236),546,Ckc46,[67],0),
  (106,(Ckl1642,[Cke646,Cke719,Cke646],Ckf236),545,Ckc46,[68],0),
  (108,(Ckl1642,[Cke724,Cke646,Cke719,Cke646],Ckf236),544,Ckc46,[70],0),
  (110,(Ckl1643,[Cke212,Cke724,Cke646,Cke716,Cke646],Ckf236),614,Ckc13,[71],0),
  (110,(Ckl1642,[Cke672,Cke724,Cke646,Cke719,Cke646],Ckf236),543,Ckc46,[71],0),
  (111,(Ckl1642,[Cke726,Cke646,Cke719,Cke646],Ckf236),542,Ckc46,[72],0),
  (112,(Ckl1642,[Cke184,Cke719,Cke646],Ckf236),541,Ckc46,[73],0),
  (114,(Ckl1642,[Cke240,Cke184,Cke719,Cke646],Ckf236),540,Ckc46,[84,74],0),
  (117,(Ckl1644,[Cke184,Cke719,Cke646],Ckf236),537,Ckc46,[75],0),
  (118,(Ckl1644,[Cke568,Cke184,Cke719,Cke646],Ckf236),536,Ckc46,[76],0),
  (121,(Ckl1644,[Cke646,Cke184,Cke719,Cke646],Ckf236),535,Ckc46,[77],0),
  (123,(Ckl1644,[Cke724,Cke646,Cke184,Cke719,Cke646],Ckf236),534,Ckc46,[78],0),
  (124,(Ckl1644,[Cke568,Cke724,Cke646,Cke184,Cke719,Cke646],Ckf236),533,Ckc46,[79],0),
  (127,(Ckl1644,[Cke624,Cke724,Cke646,Cke184,Cke719,Cke646],Ckf236),532,Ckc46,[80],0),
  (128,(Ckl1644,[Cke723,Cke624,Cke724,Cke646,Cke184,Cke719,Cke646],Ckf236),531,Ckc46,[81],0),
  (129,(Ckl1644,[Cke728,Cke724,Cke646,Cke184,Cke719,Cke646],Ckf236),530,Ckc46,[82],0),
  (130,(Ckl1644,[Cke726,Cke646,Cke184,Cke719,Cke646],Ckf236),529,Ckc46,[83],0),
  (131,(Ckl1644,[Cke184,Cke184,Cke719,Cke646],Ckf236),528,Ckc46,[86],0),
  (134,(Ckl1645,[Cke184,Cke719,Cke646],Ckf236),539,Ckc46,[85],0),
  (135,(Ckl1645,[Cke7,Cke184,Cke719,Cke646],Ckf236),538,Ckc46,[87],0),
  (135,(Ckl1644,[Cke184,Cke184,Cke719,Cke646],Ckf236),527,Ckc46,[87],0),
  (136,(Ckl1642,[Cke184,Cke719,Cke646],Ckf236),526,Ckc46,[88],0),
  (137,(Ckl1642,[],Ckf236),525,Ckc46,[89],0),
  (140,(Ckl1646,[],Ckf236),575,Ckc46,[34],0),
  (143,(Ckl1647,[],Ckf236),14,Ckc13,[91],0),
  (144,(Ckl1647,[Cke568],Ckf236),13,Ckc13,[92],0),
  (145,(Ckl1647,[Cke656,Cke568],Ckf236),12,Ckc13,[93],0),
  (146,(Ckl1647,[Cke723,Cke656,Cke568],Ckf236),11,Ckc13,[94],0),
  (147,(Ckl1647,[Cke6,Cke723,Cke656,Cke568],Ckf236),10,Ckc13,[95],0),
  (148,(Ckl1647,[Cke502,Cke656,Cke568],Ckf236),9,Ckc13,[96],0),
  (149,(Ckl1647,[Cke210,Cke502,Cke656,Cke568],Ckf236),8,Ckc13,[97],0),
  (150,(Ckl1647,[Cke6,Cke210,Cke502,Cke656,Cke568],Ckf236),7,Ckc13,[98],0),
  (151,(Ckl1647,[Cke568,Cke6,Cke210,Cke502,Cke656,Cke568],Ckf236),6,Ckc13,[99],0),
  (154,(Ckl1647,[Cke608,Cke6,Cke210,Cke502,Cke656,Cke568],Ckf236),5,Ckc13,[100],0),
  (155,(Ckl1647,[Cke723,Cke608,Cke6,Cke210,Cke502,Cke656,Cke568],Ckf236),4,Ckc13,[101],0),
  (156,(Ckl1647,[Cke729,Cke6,Cke210,Cke502,Cke656,Cke568],Ckf236),3,Ckc13,[102],0),
  (157,(Ckl1647,[Cke252,Cke210,Cke502,Cke656,Cke568],Ckf236),2,Ckc13,[103],0),
  (158,(Ckl1647,[Cke184,Cke502,Cke656,Cke568],Ckf236),1,Ckc13,[104],228),
  (161,(Ckl1647,[],Ckf236),0,Ckc13,[],0)]
def CNC229 : List (List ND) := [CNC229_0, CNC229_1]
theorem CKC229 : chkS prot SMsC SMC229 [] CNC229 = true := by decide +kernel
