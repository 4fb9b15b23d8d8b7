/-! LM, by program: certificates 6 -/
-- OneSided$Finder.countComers
def ka227 : AV := (0,0,140,1)
def kl565 : AL := [some ka194,some ka227,none,none,none]
def kl566 : AL := [some ka194,some ka227,some ka172,none,none]
def kc37 : List Int := [0,0,-245,0,0]
def kl567 : AL := [some ka194,some ka227,some ka1,none,none]
def ke479 : SE := (ka172,(1,2,0,0,0))
def kl568 : AL := [some ka194,some ka227,some ka36,none,none]
def ka228 : AV := (2,94,94,0)
def ke480 : SE := (ka228,(2,90,11,0,0))
def ke481 : SE := (ka227,(1,1,0,0,0))
def ka229 : AV := (0,0,149,1)
def ke482 : SE := (ka229,pv0)
def kl569 : AL := [some ka194,some ka227,some ka36,some ka0,none]
def kl570 : AL := [some ka194,some ka227,some ka36,some ka0,some ka172]
def kc38 : List Int := [0,0,-245,0,-21]
def kl571 : AL := [some ka194,some ka227,some ka1,some ka0,some ka1]
def ke483 : SE := (ka172,(1,4,0,0,0))
def kl572 : AL := [some ka194,some ka227,some ka36,some ka0,some ka36]
def ka230 : AV := (2,95,95,0)
def ke484 : SE := (ka230,(2,90,12,0,0))
def kl573 : AL := [some ka194,some ka227,some ka1,some ka0,some ka36]
def ka231 : AV := (0,0,90,10)
def ke485 : SE := (ka231,pv0)
def ka232 : AV := (0,0,99,1)
def ke486 : SE := (ka232,pv0)
def ke487 : SE := (ka0,(2,95,0,0,0))
def kl574 : AL := [some ka194,some ka227,some ka36,some ka0,some ka173]
def kl575 : AL := [some ka194,some ka227,some ka36,some ka0,some ka135]
def kl576 : AL := [some ka194,some ka227,some ka173,some ka0,some ka135]
def kl577 : AL := [some ka194,some ka227,some ka135,none,none]
def CN236_0 : List ND := [(0,(kl565,[],[]),2697,kc0,[1],0),
  (1,(kl565,[ke6],[]),2696,kc0,[2],0),
  (2,(kl566,[],[]),2694,kc37,[4],0),
  (3,(kl567,[ke77],[]),2699,kc0,[5],0),
  (3,(kl566,[ke479],[]),2693,kc37,[6],0),
  (5,(kl567,[ke339,ke77],[]),2698,kc0,[7],0),
  (5,(kl566,[ke339,ke479],[]),2692,kc37,[56,7],0),
  (8,(kl568,[],[]),2691,kc37,[8],0),
  (9,(kl568,[ke399],[]),2690,kc37,[9],0),
  (12,(kl568,[ke480],[]),2689,kc37,[10],0),
  (13,(kl568,[ke481,ke480],[]),2688,kc37,[12],0),
  (14,(kl567,[ke77,ke481,ke480],[]),2700,kc0,[13],0),
  (14,(kl568,[ke191,ke481,ke480],[]),2687,kc37,[13],0),
  (15,(kl568,[ke482,ke480],[]),2686,kc37,[14],0),
  (16,(kl568,[ke7],[]),2685,kc37,[15],0),
  (17,(kl569,[],[]),2684,kc37,[16],0),
  (18,(kl569,[ke6],[]),2683,kc37,[17],0),
  (20,(kl570,[],[]),2681,kc38,[19],0),
  (22,(kl571,[ke67],[]),2702,kc0,[20],0),
  (22,(kl570,[ke483],[]),2680,kc38,[21],0),
  (24,(kl571,[ke339,ke67],[]),2701,kc0,[22],0),
  (24,(kl570,[ke339,ke483],[]),2679,kc38,[54,22],0),
  (27,(kl572,[],[]),2678,kc38,[23],0),
  (28,(kl572,[ke399],[]),2677,kc38,[24],0),
  (31,(kl572,[ke484],[]),2676,kc38,[26],0),
  (32,(kl573,[ke77,ke484],[]),2706,kc0,[27],0),
  (32,(kl572,[ke191,ke484],[]),2675,kc38,[28],0),
  (34,(kl573,[ke339,ke77,ke484],[]),2705,kc0,[29],0),
  (34,(kl572,[ke339,ke191,ke484],[]),2674,kc38,[30],0),
  (35,(kl573,[ke6,ke484],[]),2704,kc0,[32],0),
  (35,(kl572,[ke485,ke484],[]),2673,kc38,[33],0),
  (37,(kl571,[ke67,ke6,ke484],[]),2716,kc0,[34],0),
  (37,(kl573,[ke186,ke6,ke484],[]),2703,kc0,[35],0),
  (37,(kl572,[ke186,ke485,ke484],[]),2672,kc38,[35],0),
  (38,(kl571,[ke6,ke484],[]),2715,kc0,[36],0),
  (38,(kl572,[ke486,ke484],[]),2671,kc38,[37],0),
  (39,(kl571,[ke6,ke484,ke6,ke484],[]),2714,kc0,[38],0),
  (39,(kl572,[ke486,ke484,ke486,ke484],[]),2670,kc38,[39],0),
  (40,(kl571,[ke487,ke6,ke484],[]),2713,kc0,[40],0),
  (40,(kl572,[ke7,ke486,ke484],[]),2669,kc38,[41],0),
  (41,(kl571,[ke3,ke487,ke6,ke484],[]),2712,kc0,[42],0),
  (41,(kl572,[ke3,ke7,ke486,ke484],[]),2668,kc38,[43],0),
  (43,(kl571,[ke67,ke3,ke487,ke6,ke484],[]),2711,kc0,[44],0),
  (43,(kl572,[ke186,ke3,ke7,ke486,ke484],[]),2667,kc38,[45],0),
  (44,(kl571,[ke7,ke487,ke6,ke484],[]),2710,kc0,[46],0),
  (44,(kl572,[ke7,ke7,ke486,ke484],[]),2666,kc38,[47],0),
  (45,(kl571,[ke5,ke7,ke487,ke6,ke484],[]),2709,kc0,[48],0),
  (45,(kl572,[ke5,ke7,ke7,ke486,ke484],[]),2665,kc38,[49],0),
  (46,(kl571,[ke65,ke487,ke6,ke484],[]),2708,kc0,[50],0),
  (46,(kl572,[ke65,ke7,ke486,ke484],[]),2664,kc38,[51],0),
  (47,(kl571,[ke7,ke6,ke484],[]),2707,kc0,[52],0),
  (47,(kl572,[ke7,ke486,ke484],[]),2663,kc38,[52],0),
  (48,(kl572,[],[]),2662,kc38,[53],0),
  (51,(kl574,[],[]),2682,kc38,[17],0),
  (54,(kl575,[],[]),2451,kc37,[55],0),
  (57,(kl576,[],[]),2695,kc37,[2],0),
  (60,(kl577,[],[]),0,kc0,[],0)]
def CN236 : List (List ND) := [CN236_0]
theorem CK236 : chkS prot SMs SM236 [] CN236 = true := by decide +kernel
-- OneSided$Finder.weigh
def kl578 : AL := [some ka194,some ka71,some ka0,none,none,none]
def ke488 : SE := (ka48,(2,90,7,0,0))
def ka233 : AV := (0,0,140,10)
def ke489 : SE := (ka233,pv0)
def kl579 : AL := [some ka194,some ka71,some ka0,some ka233,none,none]
def kl580 : AL := [some ka194,some ka71,some ka0,some ka233,some ka172,none]
def kc39 : List Int := [0,0,0,0,-31,0]
def kl581 : AL := [some ka194,some ka71,some ka0,some ka233,some ka1,none]
def ke490 : SE := (ka71,(1,1,0,0,0))
def kl582 : AL := [some ka194,some ka71,some ka0,some ka233,some ka36,none]
def ke491 : SE := (ka233,(1,3,0,0,0))
def kl583 : AL := [some ka194,some ka71,some ka0,some ka233,some ka36,some ka27]
def kl584 : AL := [some ka194,some ka71,some ka0,some ka233,some ka1,some ka27]
def kl585 : AL := [some ka194,some ka71,some ka0,some ka233,some ka173,some ka27]
def ke492 : SE := (ka0,(2,90,0,0,0))
def ke493 : SE := (ka0,(2,90,1,0,0))
def ke494 : SE := (ka0,(2,90,2,0,0))
def kl586 : AL := [some ka194,some ka71,some ka0,some ka233,some ka185,none]
def ke495 : SE := (ka0,(2,90,3,0,0))
def kf144 : FA := [(90,3,ka42)]
def kf145 : FA := [(90,3,ka0)]
def kl587 : AL := [some ka194,some ka71,some ka0,some ka233,some ka185,some ka185]
def ke496 : SE := (ka185,(1,4,0,0,0))
def ke497 : SE := (ka185,(1,5,0,0,0))
def ke498 : SE := (ka27,(2,90,6,0,0))
def kf146 : FA := [(90,6,ka2)]
def CN237_0 : List ND := [(0,(kl578,[],[]),399,kc4,[1],0),
  (1,(kl578,[ke399],[]),398,kc4,[2],0),
  (4,(kl578,[ke488],[]),397,kc4,[3],0),
  (6,(kl578,[ke339,ke488],[]),396,kc4,[4],0),
  (7,(kl578,[ke489],[]),395,kc4,[5],0),
  (8,(kl579,[],[]),394,kc4,[6],0),
  (9,(kl579,[ke6],[]),393,kc4,[7],0),
  (11,(kl580,[],[]),391,kc39,[9],0),
  (13,(kl581,[ke67],[]),402,kc4,[10],0),
  (13,(kl580,[ke483],[]),390,kc39,[11],0),
  (14,(kl581,[ke490,ke67],[]),401,kc4,[12],0),
  (14,(kl580,[ke490,ke483],[]),389,kc39,[13],0),
  (17,(kl581,[ke392,ke67],[]),400,kc4,[45,14],0),
  (17,(kl580,[ke392,ke483],[]),388,kc39,[45,14],0),
  (20,(kl582,[],kf69),387,kc39,[15],0),
  (21,(kl582,[ke399],kf69),386,kc39,[16],0),
  (24,(kl582,[ke480],kf69),385,kc39,[17],0),
  (25,(kl582,[ke491,ke480],kf69),384,kc39,[18],0),
  (26,(kl582,[ke490,ke491,ke480],kf69),383,kc39,[19],0),
  (29,(kl582,[ke393,ke491,ke480],kf69),382,kc39,[21],0),
  (31,(kl581,[ke67,ke393,ke491,ke480],kf69),403,kc4,[22],0),
  (31,(kl582,[ke186,ke393,ke491,ke480],kf69),381,kc39,[22],0),
  (32,(kl582,[ke52,ke491,ke480],kf69),380,kc39,[23],0),
  (33,(kl582,[ke482,ke480],kf69),379,kc39,[24],0),
  (34,(kl582,[ke7],kf69),378,kc39,[25],0),
  (35,(kl582,[ke490,ke7],kf69),377,kc39,[26],0),
  (38,(kl582,[ke395,ke7],kf69),376,kc39,[28],0),
  (40,(kl581,[ke67,ke395,ke7],kf69),404,kc4,[29],0),
  (40,(kl582,[ke186,ke395,ke7],kf69),375,kc39,[29],0),
  (41,(kl582,[ke52,ke7],kf69),374,kc39,[30],0),
  (42,(kl582,[ke7],kf69),373,kc39,[31],0),
  (43,(kl582,[ke5,ke7],kf69),372,kc39,[32],0),
  (44,(kl582,[ke65],kf69),371,kc39,[33],0),
  (46,(kl583,[],kf69),370,kc39,[34],0),
  (48,(kl583,[ke50],kf69),369,kc39,[35],0),
  (49,(kl583,[ke490,ke50],kf69),368,kc39,[36],0),
  (52,(kl583,[ke396,ke50],kf69),367,kc39,[38],0),
  (54,(kl584,[ke67,ke396,ke50],kf69),405,kc4,[39],0),
  (54,(kl583,[ke186,ke396,ke50],kf69),366,kc39,[39],0),
  (55,(kl583,[ke7,ke50],kf69),365,kc39,[40],0),
  (56,(kl583,[ke5,ke7,ke50],kf69),364,kc39,[41],0),
  (57,(kl583,[ke65,ke50],kf69),363,kc39,[43,42],0),
  (60,(kl583,[],kf69),0,kc4,[],0),
  (61,(kl583,[],kf69),362,kc39,[44],0),
  (64,(kl585,[],kf69),392,kc39,[7],0),
  (67,(kl580,[],[]),51,kc4,[46],0),
  (68,(kl580,[ke399],[]),50,kc4,[47],0),
  (69,(kl580,[ke399,ke399],[]),49,kc4,[48],0),
  (72,(kl580,[ke492,ke399],[]),48,kc4,[49],0),
  (73,(kl580,[ke5,ke492,ke399],[]),47,kc4,[50],0),
  (74,(kl580,[ke7,ke399],[]),46,kc4,[51],0),
  (77,(kl580,[],[]),45,kc4,[52],0),
  (78,(kl580,[ke399],[]),44,kc4,[53],0),
  (79,(kl580,[ke399,ke399],[]),43,kc4,[54],0),
  (82,(kl580,[ke493,ke399],[]),42,kc4,[55],0),
  (83,(kl580,[ke2,ke493,ke399],[]),41,kc4,[56],0),
  (84,(kl580,[ke7,ke399],[]),40,kc4,[57],0),
  (87,(kl580,[],[]),39,kc4,[58],0),
  (88,(kl580,[ke399],[]),38,kc4,[59],0),
  (89,(kl580,[ke399,ke399],[]),37,kc4,[60],0),
  (92,(kl580,[ke494,ke399],[]),36,kc4,[61],0),
  (93,(kl580,[ke2,ke494,ke399],[]),35,kc4,[62],0),
  (94,(kl580,[ke7,ke399],[]),34,kc4,[63],0),
  (97,(kl580,[],[]),33,kc4,[64],0)]
def CN237_1 : List ND := [(98,(kl580,[ke2],[]),32,kc4,[65],221),
  (101,(kl580,[ke374],[]),31,kc4,[66],0),
  (103,(kl586,[],[]),30,kc4,[67],0),
  (104,(kl586,[ke399],[]),29,kc4,[68],0),
  (107,(kl586,[ke495],[]),28,kc4,[69],0),
  (108,(kl586,[ke41,ke495],[]),27,kc4,[72,70],0),
  (111,(kl586,[],kf144),23,kc4,[71],0),
  (113,(kl586,[ke328],kf144),22,kc4,[75],0),
  (116,(kl586,[],kf145),26,kc4,[73],0),
  (117,(kl586,[ke399],kf145),25,kc4,[74],0),
  (120,(kl586,[ke495],kf145),24,kc4,[75],221),
  (123,(kl586,[ke374],[]),21,kc4,[76],0),
  (125,(kl587,[],[]),20,kc4,[77],0),
  (127,(kl587,[ke496],[]),19,kc4,[78],0),
  (129,(kl587,[ke497,ke496],[]),18,kc4,[86,79],0),
  (132,(kl587,[],[]),17,kc4,[80],0),
  (134,(kl587,[ke496],[]),16,kc4,[81],0),
  (136,(kl587,[ke497,ke496],[]),15,kc4,[89,82],0),
  (139,(kl587,[],[]),14,kc4,[83],0),
  (140,(kl587,[ke2],[]),13,kc4,[84],0),
  (141,(kl587,[ke399,ke2],[]),12,kc4,[85],0),
  (144,(kl587,[ke495,ke2],[]),11,kc4,[89,86],0),
  (147,(kl587,[],[]),10,kc4,[87],0),
  (148,(kl587,[ke399],[]),9,kc4,[88],0),
  (149,(kl587,[ke2,ke399],[]),8,kc4,[89],0),
  (152,(kl587,[],[]),7,kc4,[90],0),
  (153,(kl587,[ke399],[]),6,kc4,[91],0),
  (156,(kl587,[ke498],[]),5,kc4,[95,92],0),
  (159,(kl587,[],kf146),4,kc4,[93],0),
  (160,(kl587,[ke399],kf146),3,kc4,[94],0),
  (161,(kl587,[ke491,ke399],kf146),2,kc4,[95],236),
  (164,(kl587,[],[]),1,kc4,[],0)]
def CN237 : List (List ND) := [CN237_0, CN237_1]
theorem CK237 : chkS prot SMs SM237 [] CN237 = true := by decide +kernel
-- OneSided$Finder.grow
def kl588 : AL := [some ka194,some ka71,some ka61,some ka0,none,none,none,none]
def ke499 : SE := (ka61,(1,2,0,0,0))
def kf147 : FA := [(90,7,ka48)]
def CN238_0 : List ND := [(0,(kl588,[],[]),8,kc2,[1],0),
  (1,(kl588,[ke499],[]),7,kc2,[2],0),
  (2,(kl588,[ke399,ke499],[]),6,kc2,[3],0),
  (5,(kl588,[ke488,ke499],[]),5,kc2,[4],0),
  (8,(kl588,[],kf147),4,kc2,[5],0),
  (9,(kl588,[ke399],kf147),3,kc2,[6],0),
  (10,(kl588,[ke490,ke399],kf147),2,kc2,[7],0),
  (11,(kl588,[ke3,ke490,ke399],kf147),1,kc2,[8],237),
  (14,(kl588,[],kf147),0,kc2,[],0)]
def CN238 : List (List ND) := [CN238_0]
theorem CK238 : chkS prot SMs SM238 [] CN238 = true := by decide +kernel
-- OneSided$Finder.search
def kl589 : AL := [some ka194,some ka12,some ka71,some ka2,none]
def kf148 : FA := [(90,0,ka1)]
def ka234 : AV := (0,16383,16383,0)
def ke500 : SE := (ka234,pv0)
def kf149 : FA := [(90,0,ka1),(90,1,ka234)]
def kf150 : FA := [(90,0,ka1),(90,1,ka234),(90,2,ka1)]
def kf151 : FA := [(90,0,ka1),(90,1,ka234),(90,2,ka1),(90,3,ka42)]
def kf152 : FA := [(90,0,ka1),(90,1,ka234),(90,2,ka1),(90,3,ka42),(90,6,ka2)]
def ke501 : SE := (ka71,(1,2,0,0,0))
def kl590 : AL := [some ka194,some ka12,some ka71,some ka2,some ka172]
def kc40 : List Int := [0,0,0,0,-12]
def kl591 : AL := [some ka194,some ka12,some ka71,some ka2,some ka1]
def kl592 : AL := [some ka194,some ka12,some ka71,some ka2,some ka36]
def kl593 : AL := [some ka194,some ka12,some ka71,some ka2,some ka173]
def kl594 : AL := [some ka194,some ka12,some ka71,some ka2,some ka135]
def CN253_0 : List ND := [(0,(kl589,[],[]),163,kc0,[1],0),
  (1,(kl589,[ke399],[]),162,kc0,[2],0),
  (2,(kl589,[ke6,ke399],[]),161,kc0,[3],0),
  (5,(kl589,[],kf148),160,kc0,[4],0),
  (6,(kl589,[ke399],kf148),159,kc0,[5],0),
  (9,(kl589,[ke500,ke399],kf148),158,kc0,[6],0),
  (12,(kl589,[],kf149),157,kc0,[7],0),
  (13,(kl589,[ke399],kf149),156,kc0,[8],0),
  (14,(kl589,[ke6,ke399],kf149),155,kc0,[9],0),
  (17,(kl589,[],kf150),154,kc0,[10],0),
  (18,(kl589,[ke399],kf150),153,kc0,[11],0),
  (19,(kl589,[ke41,ke399],kf150),152,kc0,[12],0),
  (22,(kl589,[],kf151),151,kc0,[13],0),
  (23,(kl589,[ke399],kf151),150,kc0,[14],0),
  (24,(kl589,[ke362,ke399],kf151),149,kc0,[15],0),
  (27,(kl589,[],kf152),148,kc0,[16],0),
  (28,(kl589,[ke399],kf152),147,kc0,[17],0),
  (31,(kl589,[ke484],kf152),146,kc0,[18],0),
  (32,(kl589,[ke6,ke484],kf152),145,kc0,[19],234),
  (35,(kl589,[],kf152),144,kc0,[20],0),
  (36,(kl589,[ke399],kf152),143,kc0,[21],0),
  (37,(kl589,[ke88,ke399],kf152),142,kc0,[22],0),
  (38,(kl589,[ke501,ke88,ke399],kf152),141,kc0,[23],0),
  (41,(kl589,[ke102,ke88,ke399],kf152),140,kc0,[24],235),
  (44,(kl589,[],kf152),139,kc0,[25],0),
  (45,(kl589,[ke6],kf152),138,kc0,[26],0),
  (47,(kl590,[],kf152),136,kc40,[28],0),
  (49,(kl591,[ke67],kf152),165,kc0,[29],0),
  (49,(kl590,[ke483],kf152),135,kc40,[30],0),
  (51,(kl591,[ke339,ke67],kf152),164,kc0,[31],0),
  (51,(kl590,[ke339,ke483],kf152),134,kc40,[44,31],0),
  (54,(kl592,[],kf152),133,kc40,[32],0),
  (55,(kl592,[ke399],kf152),132,kc40,[33],0),
  (58,(kl592,[ke480],kf152),131,kc40,[35],0),
  (60,(kl591,[ke67,ke480],kf152),169,kc0,[36],0),
  (60,(kl592,[ke186,ke480],kf152),130,kc40,[37],0),
  (61,(kl591,[ke5,ke67,ke480],kf152),168,kc0,[38],0),
  (61,(kl592,[ke5,ke186,ke480],kf152),129,kc40,[39],0),
  (63,(kl591,[ke67,ke5,ke67,ke480],kf152),167,kc0,[40],0),
  (63,(kl592,[ke186,ke5,ke186,ke480],kf152),128,kc40,[41],0),
  (64,(kl591,[ke5,ke67,ke480],kf152),166,kc0,[42],0),
  (64,(kl592,[ke181,ke186,ke480],kf152),127,kc40,[42],0),
  (65,(kl592,[],kf152),126,kc40,[43],0),
  (68,(kl593,[],kf152),137,kc40,[26],0),
  (71,(kl594,[],kf152),5,kc0,[45],0),
  (72,(kl594,[ke399],kf152),4,kc0,[46],0),
  (73,(kl594,[ke501,ke399],kf152),3,kc0,[47],0),
  (74,(kl594,[ke6,ke501,ke399],kf152),2,kc0,[48],0),
  (75,(kl594,[ke6,ke6,ke501,ke399],kf152),1,kc0,[49],252),
  (78,(kl594,[],kf146),0,kc0,[],0)]
def CN253 : List (List ND) := [CN253_0]
theorem CK253 : chkS prot SMs SM253 [] CN253 = true := by decide +kernel
-- OneSided$Finder.tellingPair
def kl595 : AL := [some ka194,some ka88,none,none,none,none,none,none]
def kl596 : AL := [some ka194,some ka88,some ka42,none,none,none,none,none]
def kl597 : AL := [some ka194,some ka88,some ka42,some ka1,none,none,none,none]
def ka235 : AV := (0,-1,99,1)
def kl598 : AL := [some ka194,some ka88,some ka235,some ka39,some ka172,none,none,none]
def kc41 : List Int := [0,0,0,0,-392,0,0,0]
def kl599 : AL := [some ka194,some ka88,some ka42,some ka1,some ka1,none,none,none]
def ke502 : SE := (ka88,(1,1,0,0,0))
def kl600 : AL := [some ka194,some ka88,some ka235,some ka39,some ka36,none,none,none]
def kl601 : AL := [some ka194,some ka88,some ka235,some ka39,some ka36,some ka172,none,none]
def kc42 : List Int := [0,0,0,0,-392,-35,0,0]
def kl602 : AL := [some ka194,some ka88,some ka42,some ka1,some ka1,some ka1,none,none]
def kl603 : AL := [some ka194,some ka88,some ka235,some ka39,some ka36,some ka36,none,none]
def kl604 : AL := [some ka194,some ka88,some ka91,some ka39,some ka1,some ka36,none,none]
def kl605 : AL := [some ka194,some ka88,some ka235,some ka39,some ka36,some ka36,some ka0,none]
def kl606 : AL := [some ka194,some ka88,some ka235,some ka39,some ka36,some ka36,some ka0,some ka0]
def kl607 : AL := [some ka194,some ka88,some ka91,some ka39,some ka1,some ka36,some ka0,some ka0]
def kl608 : AL := [some ka194,some ka88,some ka42,some ka1,some ka1,some ka1,some ka0,some ka0]
def kl609 : AL := [some ka194,some ka88,some ka42,some ka1,some ka1,some ka2,some ka0,some ka0]
def ka236 : AV := (0,0,2147483646,1)
def kl610 : AL := [some ka194,some ka88,some ka235,some ka236,some ka36,some ka36,some ka0,some ka102]
def ke503 : SE := (ka102,(1,7,0,0,0))
def kl611 : AL := [some ka194,some ka88,some ka235,some ka102,some ka36,some ka36,some ka0,some ka102]
def kl612 : AL := [some ka194,some ka88,some ka91,some ka102,some ka1,some ka218,some ka0,some ka102]
def kl613 : AL := [some ka194,some ka88,some ka42,some ka102,some ka1,some ka2,some ka0,some ka102]
def ke504 : SE := (ka218,(1,5,0,0,0))
def kl614 : AL := [some ka194,some ka88,some ka235,some ka39,some ka36,some ka173,some ka0,some ka0]
def kl615 : AL := [some ka194,some ka88,some ka235,some ka39,some ka36,some ka88,none,none]
def kl616 : AL := [some ka194,some ka88,some ka235,some ka39,some ka173,some ka88,none,none]
def kl617 : AL := [some ka194,some ka88,some ka235,some ka39,some ka88,none,none,none]
def ke505 : SE := (ka235,(1,2,0,0,0))
def CN258_0 : List ND := [(0,(kl595,[],[]),4319,kc2,[1],0),
  (1,(kl595,[ke41],[]),4318,kc2,[2],0),
  (2,(kl596,[],[]),4317,kc2,[3],0),
  (3,(kl596,[ke6],[]),4316,kc2,[4],0),
  (4,(kl597,[],[]),4315,kc2,[5],0),
  (5,(kl597,[ke6],[]),4314,kc2,[6],0),
  (7,(kl598,[],[]),4312,kc41,[8],0),
  (9,(kl599,[ke67],[]),4321,kc2,[9],0),
  (9,(kl598,[ke483],[]),4311,kc41,[10],0),
  (10,(kl599,[ke502,ke67],[]),4320,kc2,[11],0),
  (10,(kl598,[ke502,ke483],[]),4310,kc41,[68,11],0),
  (13,(kl600,[],[]),4309,kc41,[12],0),
  (14,(kl600,[ke6],[]),4308,kc41,[13],0),
  (16,(kl601,[],[]),4306,kc42,[15],0),
  (18,(kl602,[ke16],[]),4323,kc2,[16],0),
  (18,(kl601,[ke352],[]),4305,kc42,[17],0),
  (19,(kl602,[ke502,ke16],[]),4322,kc2,[18],0),
  (19,(kl601,[ke502,ke352],[]),4304,kc42,[66,18],0),
  (22,(kl603,[],[]),4303,kc42,[19],0),
  (23,(kl603,[ke399],[]),4302,kc42,[20],0),
  (26,(kl603,[ke484],[]),4301,kc42,[22],0),
  (28,(kl604,[ke67,ke484],[]),4327,kc2,[23],0),
  (28,(kl603,[ke186,ke484],[]),4300,kc42,[24],0),
  (30,(kl604,[ke339,ke67,ke484],[]),4326,kc2,[25],0),
  (30,(kl603,[ke339,ke186,ke484],[]),4299,kc42,[26],0),
  (31,(kl604,[ke6,ke484],[]),4325,kc2,[28],0),
  (31,(kl603,[ke485,ke484],[]),4298,kc42,[29],0),
  (33,(kl602,[ke16,ke6,ke484],[]),4329,kc2,[30],0),
  (33,(kl604,[ke44,ke6,ke484],[]),4324,kc2,[31],0),
  (33,(kl603,[ke44,ke485,ke484],[]),4297,kc42,[31],0),
  (34,(kl602,[ke6,ke484],[]),4328,kc2,[32],0),
  (34,(kl603,[ke486,ke484],[]),4296,kc42,[32],0),
  (35,(kl603,[ke7],[]),4295,kc42,[33],0),
  (37,(kl605,[],[]),4294,kc42,[34],0),
  (39,(kl605,[ke183],[]),4293,kc42,[35],0),
  (40,(kl605,[ke399,ke183],[]),4292,kc42,[36],0),
  (43,(kl605,[ke492,ke183],[]),4291,kc42,[37],0),
  (45,(kl605,[ke183,ke492,ke183],[]),4290,kc42,[38],0),
  (46,(kl605,[ke7,ke183],[]),4289,kc42,[39],0),
  (49,(kl605,[ke7],[]),4288,kc42,[40],0),
  (51,(kl606,[],[]),4287,kc42,[42],0),
  (53,(kl607,[ke67],[]),4331,kc2,[44],0),
  (53,(kl606,[ke186],[]),4286,kc42,[45],0),
  (55,(kl608,[ke16,ke67],[]),4332,kc2,[64],0),
  (55,(kl607,[ke44,ke67],[]),4330,kc2,[64,46],0),
  (55,(kl606,[ke44,ke186],[]),4285,kc42,[64,46],0),
  (58,(kl606,[],[]),4284,kc42,[47],0),
  (60,(kl606,[ke14],[]),4283,kc42,[49],0),
  (61,(kl609,[ke63,ke14],[]),4333,kc2,[64,50],0),
  (61,(kl606,[ke38,ke14],[]),4282,kc42,[64,50],0),
  (64,(kl610,[],[]),4281,kc42,[51],0),
  (66,(kl610,[ke503],[]),4280,kc42,[52],0),
  (67,(kl611,[],[]),4279,kc42,[54],0),
  (69,(kl612,[ke67],[]),4337,kc2,[55],0),
  (69,(kl611,[ke186],[]),4278,kc42,[56],0),
  (71,(kl612,[ke339,ke67],[]),4336,kc2,[57],0),
  (71,(kl611,[ke339,ke186],[]),4277,kc42,[58],0),
  (72,(kl612,[ke6],[]),4335,kc2,[60],0),
  (72,(kl611,[ke485],[]),4276,kc42,[61],0),
  (74,(kl613,[ke19,ke6],[]),4339,kc2,[62],0),
  (74,(kl612,[ke504,ke6],[]),4334,kc2,[63],0),
  (74,(kl611,[ke44,ke485],[]),4275,kc42,[63],0),
  (75,(kl613,[ke5],[]),4338,kc2,[64],0),
  (75,(kl611,[ke486],[]),4274,kc42,[64],0)]
def CN258_1 : List ND := [(76,(kl606,[],[]),4273,kc42,[65],0),
  (79,(kl614,[],[]),4307,kc42,[13],0),
  (82,(kl615,[],[]),3922,kc41,[67],0),
  (85,(kl616,[],[]),4313,kc41,[6],0),
  (88,(kl617,[],[]),1,kc2,[69],0),
  (89,(kl617,[ke505],[]),0,kc2,[],0)]
def CN258 : List (List ND) := [CN258_0, CN258_1]
theorem CK258 : chkS prot SMs SM258 [] CN258 = true := by decide +kernel
-- OneSided.found
def kl618 : AL := [some ka72,some ka56]
def ke506 : SE := (ka194,(2,1,13,0,0))
def kl619 : AL := [some ka72,some ka37]
def kf153 : FA := [(90,0,ka0)]
def ke507 : SE := (ka0,(2,90,5,0,0))
def kl620 : AL := [some ka72,some ka2]
def kl621 : AL := [some ka72,some ka3]
def ke508 : SE := (ka235,pv0)
def CN259_0 : List ND := [(0,(kl105,[],[]),70,kc13,[1],0),
  (1,(kl105,[ke1],[]),69,kc13,[5,2],0),
  (4,(kl106,[],[]),68,kc13,[3],0),
  (5,(kl106,[ke121],[]),67,kc13,[4],0),
  (6,(kl106,[ke76,ke121],[]),66,kc13,[7,5],0),
  (9,(kl105,[],[]),1,kc13,[6],0),
  (10,(kl105,[ke41],[]),0,kc13,[],0),
  (11,(kl618,[],[]),65,kc13,[8],0),
  (12,(kl618,[ke103],[]),64,kc13,[9],0),
  (15,(kl618,[ke506],[]),63,kc13,[10],0),
  (16,(kl618,[ke103,ke506],[]),62,kc13,[12,11],0),
  (19,(kl618,[ke105,ke506],[]),61,kc13,[13],0),
  (19,(kl618,[ke106,ke506],[]),51,kc13,[14],0),
  (20,(kl618,[ke103,ke105,ke506],[]),60,kc13,[15],0),
  (20,(kl618,[ke103,ke106,ke506],[]),50,kc13,[16],0),
  (23,(kl618,[ke114,ke105,ke506],[]),59,kc13,[17],0),
  (23,(kl618,[ke114,ke106,ke506],[]),49,kc13,[18],0),
  (24,(kl618,[ke75,ke114,ke105,ke506],[]),58,kc13,[19],0),
  (24,(kl618,[ke75,ke114,ke106,ke506],[]),48,kc13,[20],0),
  (25,(kl618,[ke36,ke75,ke114,ke105,ke506],[]),57,kc13,[25,21],0),
  (25,(kl618,[ke36,ke75,ke114,ke106,ke506],[]),47,kc13,[26,22],0),
  (28,(kl619,[ke114,ke105,ke506],[]),54,kc13,[23],0),
  (28,(kl619,[ke114,ke106,ke506],[]),46,kc13,[24],0),
  (29,(kl619,[ke5,ke114,ke105,ke506],[]),53,kc13,[29],0),
  (29,(kl619,[ke5,ke114,ke106,ke506],[]),45,kc13,[30],0),
  (32,(kl618,[ke114,ke105,ke506],[]),56,kc13,[27],0),
  (32,(kl618,[ke114,ke106,ke506],[]),43,kc13,[28],0),
  (33,(kl618,[ke6,ke114,ke105,ke506],[]),55,kc13,[31],257),
  (33,(kl618,[ke6,ke114,ke106,ke506],[]),42,kc13,[31],256),
  (33,(kl619,[ke5,ke114,ke105,ke506],[]),52,kc13,[31],255),
  (33,(kl619,[ke5,ke114,ke106,ke506],[]),44,kc13,[31],253),
  (36,(kl618,[],[]),41,kc13,[32],0),
  (37,(kl618,[ke103],[]),40,kc13,[33],0),
  (40,(kl618,[ke506],[]),39,kc13,[34],0),
  (43,(kl618,[ke492],[]),38,kc13,[37,35],0),
  (46,(kl618,[],kf148),37,kc13,[36],0),
  (47,(kl618,[ke41],kf148),36,kc13,[],0),
  (48,(kl618,[],kf153),35,kc13,[38],0),
  (49,(kl618,[ke75],kf153),34,kc13,[67,39,47,51,59],0),
  (80,(kl104,[],kf153),25,kc13,[40],0),
  (81,(kl104,[ke103],kf153),24,kc13,[41],0),
  (84,(kl104,[ke506],kf153),23,kc13,[42],0),
  (87,(kl104,[ke492],kf153),22,kc13,[43],0),
  (88,(kl104,[ke103,ke492],kf153),21,kc13,[44],0),
  (91,(kl104,[ke506,ke492],kf153),20,kc13,[45],0),
  (94,(kl104,[ke507,ke492],kf153),19,kc13,[46],0),
  (95,(kl104,[ke7],kf153),18,kc13,[],0),
  (96,(kl620,[],kf153),5,kc13,[48],0),
  (97,(kl620,[ke103],kf153),4,kc13,[49],0),
  (100,(kl620,[ke506],kf153),3,kc13,[50],0),
  (103,(kl620,[ke493],kf153),2,kc13,[],0),
  (104,(kl621,[],kf153),33,kc13,[52],0),
  (105,(kl621,[ke103],kf153),32,kc13,[53],0),
  (108,(kl621,[ke506],kf153),31,kc13,[54],0),
  (111,(kl621,[ke494],kf153),30,kc13,[55],0),
  (112,(kl621,[ke103,ke494],kf153),29,kc13,[56],0),
  (115,(kl621,[ke506,ke494],kf153),28,kc13,[57],0),
  (118,(kl621,[ke470,ke494],kf153),27,kc13,[58],0),
  (119,(kl621,[ke7],kf153),26,kc13,[],0),
  (120,(kl619,[],kf153),13,kc13,[60],0),
  (121,(kl619,[ke103],kf153),12,kc13,[61],0),
  (124,(kl619,[ke506],kf153),11,kc13,[62],0),
  (125,(kl619,[ke103,ke506],kf153),10,kc13,[64,63],0),
  (128,(kl619,[ke105,ke506],kf153),9,kc13,[65],0)]
def CN259_1 : List ND := [(128,(kl619,[ke106,ke506],kf153),8,kc13,[65],0),
  (131,(kl619,[ke135,ke506],[]),7,kc13,[66],258),
  (134,(kl619,[ke508],[]),6,kc13,[],0),
  (135,(kl618,[],kf153),17,kc13,[68],0),
  (136,(kl618,[ke103],kf153),16,kc13,[69],0),
  (139,(kl618,[ke506],kf153),15,kc13,[70],0),
  (142,(kl618,[ke495],kf153),14,kc13,[],0)]
def CN259 : List (List ND) := [CN259_0, CN259_1]
theorem CK259 : chkS prot SMs SM259 [] CN259 = true := by decide +kernel
-- OneSided.isHinge
def CN260_0 : List ND := [(0,(kl105,[],[]),21,kc13,[1],0),
  (1,(kl105,[ke103],[]),20,kc13,[2],0),
  (2,(kl105,[ke1,ke103],[]),19,kc13,[4,3],144),
  (5,(kl105,[ke6],[]),18,kc13,[19],0),
  (5,(kl107,[ke5],[]),17,kc13,[5],0),
  (8,(kl107,[],[]),16,kc13,[6],0),
  (9,(kl107,[ke103],[]),15,kc13,[8,7],0),
  (12,(kl107,[ke105],[]),14,kc13,[9],0),
  (12,(kl107,[ke106],[]),10,kc13,[10],0),
  (15,(kl107,[ke123],[]),13,kc13,[11],0),
  (15,(kl107,[ke45],[]),9,kc13,[12],0),
  (16,(kl107,[ke46,ke123],[]),12,kc13,[14],0),
  (16,(kl107,[ke46,ke45],[]),8,kc13,[13],0),
  (17,(kl107,[ke47],[]),7,kc13,[15],0),
  (17,(kl107,[ke124],[]),11,kc13,[15],0),
  (20,(kl107,[ke34],[]),6,kc13,[16],0),
  (21,(kl107,[ke56,ke34],[]),5,kc13,[19,17],0),
  (24,(kl107,[],[]),4,kc13,[18],0),
  (25,(kl107,[ke5],[]),3,kc13,[21],0),
  (28,(kl105,[],[]),1,kc13,[20],0),
  (29,(kl105,[ke6],[]),0,kc13,[],1),
  (29,(kl107,[ke5],[]),2,kc13,[],0)]
def CN260 : List (List ND) := [CN260_0]
theorem CK260 : chkS prot SMs SM260 [(1,1)] CN260 = true := by decide +kernel
-- OneSided$Rents.tryPrices
def ka237 : AV := (2,96,96,0)
def kl622 : AL := [some ka237,some ka12,some ka62,some ka1,some ka43,none,none,none,none]
def ke509 : SE := (ka43,(1,4,0,0,0))
def kl623 : AL := [some ka237,some ka12,some ka62,some ka1,some ka43,some ka27,none,none,none]
def kl624 : AL := [some ka237,some ka12,some ka62,some ka1,some ka43,some ka27,some ka172,none,none]
def kc43 : List Int := [0,0,0,0,0,0,-167,0,0]
def kl625 : AL := [some ka237,some ka12,some ka62,some ka1,some ka43,some ka27,some ka1,none,none]
def ke510 : SE := (ka172,(1,6,0,0,0))
def kl626 : AL := [some ka237,some ka12,some ka62,some ka1,some ka43,some ka27,some ka36,none,none]
def kl627 : AL := [some ka237,some ka12,some ka62,some ka1,some ka43,some ka27,some ka36,some ka56,none]
def kc44 : List Int := [0,0,0,0,0,0,-167,-32,0]
def kl628 : AL := [some ka237,some ka12,some ka62,some ka1,some ka43,some ka27,some ka1,some ka1,none]
def ke511 : SE := (ka56,(1,7,0,0,0))
def kl629 : AL := [some ka237,some ka12,some ka62,some ka1,some ka43,some ka27,some ka36,some ka34,none]
def kl630 : AL := [some ka237,some ka12,some ka62,some ka1,some ka43,some ka2,some ka36,some ka34,none]
def kl631 : AL := [some ka237,some ka12,some ka62,some ka1,some ka43,some ka2,some ka1,some ka1,none]
def ke512 : SE := (ka34,(1,7,0,0,0))
def kl632 : AL := [some ka237,some ka12,some ka62,some ka1,some ka43,some ka2,some ka1,some ka34,none]
def ke513 : SE := (ka36,(1,6,0,0,0))
def kl633 : AL := [some ka237,some ka12,some ka62,some ka1,some ka43,some ka1,some ka36,some ka34,none]
def kl634 : AL := [some ka237,some ka12,some ka62,some ka1,some ka43,some ka27,some ka36,some ka34,some ka47]
def ke514 : SE := (ka237,(1,0,0,0,0))
def ka238 : AV := (2,99,99,0)
def ke515 : SE := (ka238,(2,96,4,0,0))
def kl635 : AL := [some ka237,some ka12,some ka62,some ka1,some ka43,some ka27,some ka1,some ka34,some ka47]
def ka239 : AV := (0,0,36,4)
def ke516 : SE := (ka239,pv0)
def kl636 : AL := [some ka237,some ka12,some ka62,some ka1,some ka43,some ka27,some ka1,some ka1,some ka47]
def ka240 : AV := (0,0,39,1)
def ke517 : SE := (ka240,pv0)
def kl637 : AL := [some ka237,some ka12,some ka62,some ka1,some ka43,some ka27,some ka36,some ka59,some ka47]
def kl638 : AL := [some ka237,some ka12,some ka62,some ka1,some ka43,some ka27,some ka36,some ka57,none]
def kl639 : AL := [some ka237,some ka12,some ka62,some ka1,some ka43,some ka27,some ka173,some ka57,none]
def kl640 : AL := [some ka237,some ka12,some ka62,some ka1,some ka43,some ka27,some ka135,none,none]
def CN261_0 : List ND := [(0,(kl622,[],[]),1855,kc5,[1],0),
  (1,(kl622,[ke184],[]),1854,kc5,[2],0),
  (4,(kl622,[ke145],[]),1853,kc5,[3],0),
  (6,(kl622,[ke70,ke145],[]),1852,kc5,[13,4],0),
  (9,(kl622,[],kf25),1851,kc5,[5],0),
  (10,(kl622,[ke184],kf25),1850,kc5,[6],0),
  (13,(kl622,[ke127],kf25),1849,kc5,[7],0),
  (15,(kl622,[ke509,ke127],kf25),1848,kc5,[8],0),
  (16,(kl622,[ke7],kf25),1847,kc5,[9],0),
  (17,(kl622,[ke5,ke7],kf25),1846,kc5,[10],0),
  (18,(kl622,[ke65],kf25),1845,kc5,[13,11],0),
  (21,(kl622,[],kf25),1844,kc5,[12],0),
  (22,(kl622,[ke5],kf25),1843,kc5,[15],0),
  (25,(kl622,[],[]),1841,kc5,[14],0),
  (26,(kl622,[ke6],[]),1840,kc5,[16],0),
  (26,(kl622,[ke5],kf25),1842,kc5,[16],0),
  (28,(kl623,[],[]),1839,kc5,[17],0),
  (29,(kl623,[ke6],[]),1838,kc5,[18],0),
  (31,(kl624,[],[]),1836,kc43,[20],0),
  (33,(kl625,[ke8],[]),1857,kc5,[21],0),
  (33,(kl624,[ke510],[]),1835,kc43,[22],0),
  (35,(kl625,[ke339,ke8],[]),1856,kc5,[23],0),
  (35,(kl624,[ke339,ke510],[]),1834,kc43,[76,23],0),
  (38,(kl626,[],[]),1833,kc43,[24],0),
  (39,(kl626,[ke6],[]),1832,kc43,[25],0),
  (41,(kl627,[],[]),1830,kc44,[27],0),
  (43,(kl628,[ke216],[]),1859,kc5,[28],0),
  (43,(kl627,[ke511],[]),1829,kc44,[29],0),
  (44,(kl628,[ke76,ke216],[]),1858,kc5,[30],0),
  (44,(kl627,[ke76,ke511],[]),1828,kc44,[74,30],0),
  (47,(kl629,[],[]),1827,kc44,[31],0),
  (49,(kl629,[ke50],[]),1826,kc44,[48,32],0),
  (52,(kl630,[],[]),1823,kc44,[33],0),
  (53,(kl630,[ke88],[]),1822,kc44,[34],0),
  (55,(kl630,[ke509,ke88],[]),1821,kc44,[36],0),
  (57,(kl631,[ke216,ke509,ke88],[]),1864,kc5,[37],0),
  (57,(kl630,[ke512,ke509,ke88],[]),1820,kc44,[38],0),
  (58,(kl631,[ke184,ke216,ke509,ke88],[]),1863,kc5,[39],0),
  (58,(kl630,[ke184,ke512,ke509,ke88],[]),1819,kc44,[40],0),
  (61,(kl631,[ke145,ke216,ke509,ke88],[]),1862,kc5,[41],0),
  (61,(kl630,[ke145,ke512,ke509,ke88],[]),1818,kc44,[43],0),
  (63,(kl631,[ke8,ke145,ke216,ke509,ke88],[]),1861,kc5,[45],0),
  (63,(kl632,[ke8,ke145,ke512,ke509,ke88],[]),1866,kc5,[44],0),
  (63,(kl630,[ke513,ke145,ke512,ke509,ke88],[]),1817,kc44,[46],0),
  (64,(kl632,[ke6,ke8,ke145,ke512,ke509,ke88],[]),1865,kc5,[47],124),
  (64,(kl631,[ke6,ke8,ke145,ke216,ke509,ke88],[]),1860,kc5,[47],124),
  (64,(kl630,[ke6,ke513,ke145,ke512,ke509,ke88],[]),1816,kc44,[47],124),
  (67,(kl630,[ke54],[]),1815,kc44,[50],0),
  (70,(kl633,[],[]),1825,kc44,[49],0),
  (71,(kl633,[ke6],[]),1824,kc44,[51],0),
  (71,(kl630,[ke54],[]),1814,kc44,[51],0),
  (73,(kl634,[],[]),1813,kc44,[52],0),
  (74,(kl634,[ke514],[]),1812,kc44,[53],0),
  (77,(kl634,[ke515],[]),1811,kc44,[54],0),
  (78,(kl634,[ke63,ke515],[]),1810,kc44,[55],0),
  (80,(kl634,[ke339,ke63,ke515],[]),1809,kc44,[56],0),
  (81,(kl634,[ke6,ke515],[]),1808,kc44,[58],0),
  (83,(kl635,[ke8,ke6,ke515],[]),1871,kc5,[59],0),
  (83,(kl634,[ke513,ke6,ke515],[]),1807,kc44,[60],0),
  (84,(kl635,[ke6,ke515],[]),1870,kc5,[61],0),
  (84,(kl634,[ke52,ke515],[]),1806,kc44,[62],0),
  (85,(kl635,[ke76,ke6,ke515],[]),1869,kc5,[63],0),
  (85,(kl634,[ke76,ke52,ke515],[]),1805,kc44,[64],0),
  (86,(kl635,[ke6,ke515],[]),1868,kc5,[66],0)]
def CN261_1 : List ND := [(86,(kl634,[ke516,ke515],[]),1804,kc44,[67],0),
  (88,(kl636,[ke216,ke6,ke515],[]),1874,kc5,[68],0),
  (88,(kl635,[ke512,ke6,ke515],[]),1867,kc5,[69],0),
  (88,(kl634,[ke512,ke516,ke515],[]),1803,kc44,[69],0),
  (89,(kl636,[ke6,ke515],[]),1873,kc5,[70],0),
  (89,(kl634,[ke517,ke515],[]),1802,kc44,[71],0),
  (91,(kl636,[ke55,ke6,ke515],[]),1872,kc5,[72],0),
  (91,(kl634,[ke55,ke517,ke515],[]),1801,kc44,[72],0),
  (92,(kl634,[],[]),1800,kc44,[73],0),
  (95,(kl637,[],[]),1831,kc44,[25],0),
  (98,(kl638,[],[]),1671,kc43,[75],0),
  (101,(kl639,[],[]),1837,kc43,[18],0),
  (104,(kl640,[],[]),0,kc5,[],0)]
def CN261 : List (List ND) := [CN261_0, CN261_1]
theorem CK261 : chkS prot SMs SM261 [] CN261 = true := by decide +kernel
-- OneSided$Rents.withHinges
def kl641 : AL := [some ka237,some ka0,some ka232,some ka34,some ka121,none,none,none]
def ke518 : SE := (ka232,(1,2,0,0,0))
def kl642 : AL := [some ka237,some ka0,some ka232,some ka34,some ka121,some ka0,none,none]
def ka241 : AV := (0,10,19,1)
def ke519 : SE := (ka241,pv0)
def ka242 : AV := (0,40,76,4)
def ke520 : SE := (ka242,pv0)
def ka243 : AV := (0,40,79,1)
def ke521 : SE := (ka243,pv0)
def kl643 : AL := [some ka237,some ka0,some ka232,some ka34,some ka121,some ka0,some ka0,none]
def ke522 : SE := (ka43,(2,96,0,0,0))
def ke523 : SE := (ka43,(2,96,1,0,0))
def kl644 : AL := [some ka237,some ka0,some ka232,some ka34,some ka121,some ka0,some ka0,some ka0]
def ke524 : SE := (ka121,(1,4,0,0,0))
def CN263_0 : List ND := [(0,(kl641,[],[]),67,kc2,[1],0),
  (1,(kl641,[ke514],[]),66,kc2,[2],0),
  (4,(kl641,[ke515],[]),65,kc2,[3],0),
  (5,(kl641,[ke518,ke515],[]),64,kc2,[4],0),
  (7,(kl641,[ke339,ke518,ke515],[]),63,kc2,[5],0),
  (8,(kl641,[ke52,ke515],[]),62,kc2,[6],0),
  (9,(kl641,[ke76,ke52,ke515],[]),61,kc2,[7],0),
  (10,(kl641,[ke516,ke515],[]),60,kc2,[8],0),
  (11,(kl641,[ke390,ke516,ke515],[]),59,kc2,[9],0),
  (12,(kl641,[ke517,ke515],[]),58,kc2,[10],0),
  (13,(kl641,[ke7],[]),57,kc2,[11],0),
  (15,(kl642,[],[]),56,kc2,[12],0),
  (16,(kl642,[ke514],[]),55,kc2,[13],0),
  (19,(kl642,[ke515],[]),54,kc2,[14],0),
  (21,(kl642,[ke339,ke515],[]),53,kc2,[15],0),
  (22,(kl642,[ke518,ke339,ke515],[]),52,kc2,[16],0),
  (24,(kl642,[ke339,ke518,ke339,ke515],[]),51,kc2,[17],0),
  (25,(kl642,[ke52,ke339,ke515],[]),50,kc2,[18],0),
  (26,(kl642,[ke519,ke515],[]),49,kc2,[19],0),
  (27,(kl642,[ke76,ke519,ke515],[]),48,kc2,[20],0),
  (28,(kl642,[ke520,ke515],[]),47,kc2,[21],0),
  (29,(kl642,[ke390,ke520,ke515],[]),46,kc2,[22],0),
  (30,(kl642,[ke521,ke515],[]),45,kc2,[23],0),
  (31,(kl642,[ke7],[]),44,kc2,[24],0),
  (33,(kl643,[],[]),43,kc2,[25],0),
  (34,(kl643,[ke1],[]),42,kc2,[26],0),
  (35,(kl643,[ke5,ke1],[]),41,kc2,[27],0),
  (36,(kl643,[ke514,ke5,ke1],[]),40,kc2,[28],0),
  (39,(kl643,[ke522,ke5,ke1],[]),39,kc2,[29],0),
  (40,(kl643,[ke66,ke1],[]),38,kc2,[30],0),
  (41,(kl643,[ke5,ke66,ke1],[]),37,kc2,[31],0),
  (42,(kl643,[ke514,ke5,ke66,ke1],[]),36,kc2,[32],0),
  (45,(kl643,[ke523,ke5,ke66,ke1],[]),35,kc2,[33],0),
  (46,(kl643,[ke66,ke66,ke1],[]),34,kc2,[34],0),
  (47,(kl643,[ke7,ke1],[]),33,kc2,[35],0),
  (48,(kl643,[ke41,ke7,ke1],[]),32,kc2,[36],0),
  (49,(kl643,[ke7,ke1],[]),31,kc2,[37],0),
  (50,(kl643,[ke7],[]),30,kc2,[38],0),
  (52,(kl644,[],[]),29,kc2,[39],0),
  (54,(kl644,[ke14],[]),28,kc2,[40],0),
  (56,(kl644,[ke140,ke14],[]),27,kc2,[41],0),
  (58,(kl644,[ke524,ke140,ke14],[]),26,kc2,[42],0),
  (59,(kl644,[ke68,ke14],[]),25,kc2,[48,43],0),
  (62,(kl644,[ke14],[]),24,kc2,[44],0),
  (63,(kl644,[ke5,ke14],[]),23,kc2,[45],0),
  (64,(kl644,[ke514,ke5,ke14],[]),22,kc2,[46],0),
  (67,(kl644,[ke522,ke5,ke14],[]),21,kc2,[47],0),
  (68,(kl644,[ke66,ke14],[]),20,kc2,[50],0),
  (71,(kl644,[ke14],[]),18,kc2,[49],0),
  (72,(kl644,[ke6,ke14],[]),17,kc2,[51],0),
  (72,(kl644,[ke66,ke14],[]),19,kc2,[51],0),
  (73,(kl644,[ke7],[]),16,kc2,[52],0),
  (75,(kl644,[],[]),15,kc2,[53],0),
  (77,(kl644,[ke14],[]),14,kc2,[54],0),
  (79,(kl644,[ke183,ke14],[]),13,kc2,[55],0),
  (81,(kl644,[ke524,ke183,ke14],[]),12,kc2,[56],0),
  (82,(kl644,[ke68,ke14],[]),11,kc2,[62,57],0),
  (85,(kl644,[ke14],[]),10,kc2,[58],0),
  (86,(kl644,[ke5,ke14],[]),9,kc2,[59],0),
  (87,(kl644,[ke514,ke5,ke14],[]),8,kc2,[60],0),
  (90,(kl644,[ke523,ke5,ke14],[]),7,kc2,[61],0),
  (91,(kl644,[ke66,ke14],[]),6,kc2,[64],0),
  (94,(kl644,[ke14],[]),4,kc2,[63],0),
  (95,(kl644,[ke6,ke14],[]),3,kc2,[65],0)]
def CN263_1 : List ND := [(95,(kl644,[ke66,ke14],[]),5,kc2,[65],0),
  (96,(kl644,[ke7],[]),2,kc2,[66],0),
  (98,(kl644,[],[]),1,kc2,[67],0),
  (100,(kl644,[ke14],[]),0,kc2,[],0)]
def CN263 : List (List ND) := [CN263_0, CN263_1]
theorem CK263 : chkS prot SMs SM263 [] CN263 = true := by decide +kernel
-- OneSided$Rents.fillBest
def kl645 : AL := [some ka237,some ka12,some ka0,some ka0,some ka36,none,none,none,none,none,none]
def ka244 : AV := (2,97,97,0)
def ke525 : SE := (ka244,(2,96,2,0,0))
def ka245 : AV := (0,1000000,1000000,0)
def ke526 : SE := (ka245,pv0)
def kl646 : AL := [some ka237,some ka12,some ka0,some ka0,some ka36,some ka2,none,none,none,none,none]
def kl647 : AL := [some ka237,some ka12,some ka0,some ka0,some ka36,some ka27,some ka172,none,none,none,none]
def kc45 : List Int := [0,0,0,0,0,0,-15,0,0,0,0]
def kl648 : AL := [some ka237,some ka12,some ka0,some ka0,some ka36,some ka27,some ka173,some ka49,some ka35,some ka0,some ka0]
def kc46 : List Int := [0,0,0,0,0,0,-1196,0,0,0,0]
def kl649 : AL := [some ka237,some ka12,some ka0,some ka0,some ka36,some ka2,some ka1,none,none,none,none]
def ke527 : SE := (ka173,(1,6,0,0,0))
def kl650 : AL := [some ka237,some ka12,some ka0,some ka0,some ka36,some ka27,some ka36,none,none,none,none]
def kl651 : AL := [some ka237,some ka12,some ka0,some ka0,some ka36,some ka27,some ka218,some ka49,some ka35,some ka0,some ka0]
def kl652 : AL := [some ka237,some ka12,some ka0,some ka0,some ka36,some ka2,some ka36,none,none,none,none]
def kl653 : AL := [some ka237,some ka12,some ka0,some ka0,some ka36,some ka2,some ka218,some ka49,some ka35,some ka0,some ka0]
def kl654 : AL := [some ka237,some ka12,some ka0,some ka0,some ka36,some ka1,some ka36,none,none,none,none]
def kl655 : AL := [some ka237,some ka12,some ka0,some ka0,some ka36,some ka1,some ka218,some ka49,some ka35,some ka0,some ka0]
def kl656 : AL := [some ka237,some ka12,some ka0,some ka0,some ka36,some ka1,some ka36,some ka1,none,none,none]
def kl657 : AL := [some ka237,some ka12,some ka0,some ka0,some ka36,some ka27,some ka36,some ka48,some ka35,some ka0,some ka0]
def kc47 : List Int := [0,0,0,0,0,0,-1196,-79,0,0,0]
def kl658 : AL := [some ka237,some ka12,some ka0,some ka0,some ka36,some ka27,some ka1,some ka2,some ka35,some ka0,some ka0]
def ke528 : SE := (ka48,(1,7,0,0,0))
def kl659 : AL := [some ka237,some ka12,some ka0,some ka0,some ka36,some ka27,some ka36,some ka43,some ka35,some ka0,some ka0]
def ke529 : SE := (ka43,(1,7,0,0,0))
def kl660 : AL := [some ka237,some ka12,some ka0,some ka0,some ka36,some ka27,some ka36,some ka43,some ka35,none,none]
def kl661 : AL := [some ka237,some ka12,some ka0,some ka0,some ka36,some ka1,some ka1,some ka1,some ka35,none,none]
def ke530 : SE := (ka35,(1,8,0,0,0))
def ka246 : AV := (2,98,98,0)
def ke531 : SE := (ka246,(2,96,3,0,0))
def kl662 : AL := [some ka237,some ka12,some ka0,some ka0,some ka36,some ka27,some ka36,some ka43,some ka35,some ka0,none]
def kl663 : AL := [some ka237,some ka12,some ka0,some ka0,some ka36,some ka1,some ka1,some ka1,some ka35,some ka0,none]
def kl664 : AL := [some ka237,some ka12,some ka0,some ka0,some ka36,some ka27,some ka36,some ka43,some ka35,some ka7,some ka0]
def ke532 : SE := (ka7,(1,9,0,0,0))
def ke533 : SE := (ka0,(1,10,0,0,0))
def kl665 : AL := [some ka237,some ka12,some ka0,some ka0,some ka36,some ka27,some ka36,some ka43,some ka35,some ka0,some ka7]
def ke534 : SE := (ka7,(1,10,0,0,0))
def kl666 : AL := [some ka237,some ka12,some ka0,some ka0,some ka36,some ka27,some ka36,some ka49,some ka35,some ka0,some ka0]
def kl667 : AL := [some ka237,some ka12,some ka0,some ka0,some ka36,some ka1,some ka173,some ka1,none,none,none]
def CN265_0 : List ND := [(0,(kl645,[],[]),13340,kc18,[1],0),
  (1,(kl645,[ke514],[]),13339,kc18,[2],0),
  (4,(kl645,[ke525],[]),13338,kc18,[3],0),
  (6,(kl645,[ke526,ke525],[]),13337,kc18,[4],264),
  (9,(kl645,[],[]),13336,kc18,[5],0),
  (10,(kl645,[ke514],[]),13335,kc18,[6],0),
  (13,(kl645,[ke525],[]),13334,kc18,[7],0),
  (15,(kl645,[ke186,ke525],[]),13333,kc18,[8],0),
  (16,(kl645,[ke6,ke186,ke525],[]),13332,kc18,[9],0),
  (17,(kl645,[],[]),13331,kc18,[10],0),
  (18,(kl645,[ke5],[]),13330,kc18,[11],0),
  (20,(kl646,[],[]),13329,kc18,[12],0),
  (21,(kl646,[ke6],[]),13328,kc18,[13],0),
  (23,(kl647,[],[]),13326,kc45,[16],0),
  (23,(kl648,[],kf3),13156,kc46,[17],0),
  (25,(kl649,[ke8],[]),13342,kc18,[18],0),
  (25,(kl647,[ke510],[]),13325,kc45,[19],0),
  (25,(kl648,[ke527],kf3),13155,kc46,[20],0),
  (27,(kl649,[ke339,ke8],[]),13341,kc18,[21],0),
  (27,(kl647,[ke339,ke510],[]),13324,kc45,[134,21],0),
  (27,(kl648,[ke339,ke527],kf3),13154,kc46,[135,22],0),
  (30,(kl650,[],[]),13323,kc45,[24],0),
  (30,(kl651,[],kf3),13153,kc46,[25],0),
  (32,(kl649,[ke19],[]),13343,kc18,[26],0),
  (32,(kl650,[ke50],[]),13322,kc45,[134,26],0),
  (32,(kl651,[ke50],kf3),13152,kc46,[135,27],0),
  (35,(kl652,[],[]),13321,kc45,[28],0),
  (35,(kl653,[],kf3),13151,kc46,[29],0),
  (36,(kl652,[ke6],[]),13320,kc45,[30],0),
  (36,(kl653,[ke6],kf3),13150,kc46,[31],0),
  (38,(kl654,[],[]),13319,kc45,[32],0),
  (38,(kl655,[],kf3),13149,kc46,[33],0),
  (39,(kl654,[ke6],[]),13318,kc45,[34],0),
  (39,(kl655,[ke6],kf3),13148,kc46,[35],0),
  (41,(kl656,[],[]),13317,kc45,[36],0),
  (41,(kl657,[],kf3),13146,kc47,[38],0),
  (43,(kl656,[ke216],[]),13316,kc45,[39],0),
  (43,(kl658,[ke250],kf3),13346,kc18,[40],0),
  (43,(kl657,[ke528],kf3),13145,kc47,[41],0),
  (44,(kl656,[ke88,ke216],[]),13315,kc45,[42],0),
  (44,(kl658,[ke88,ke250],kf3),13345,kc18,[43],0),
  (44,(kl657,[ke88,ke528],kf3),13144,kc47,[44],0),
  (47,(kl656,[ke58,ke216],[]),13314,kc45,[130,45],0),
  (47,(kl658,[ke178,ke250],kf3),13344,kc18,[131,46],0),
  (47,(kl657,[ke178,ke528],kf3),13143,kc47,[131,46],0),
  (50,(kl656,[],kf3),13162,kc18,[47],0),
  (50,(kl659,[],kf3),13142,kc47,[48],0),
  (51,(kl656,[ke88],kf3),13161,kc18,[49],0),
  (51,(kl659,[ke88],kf3),13141,kc47,[50],0),
  (54,(kl656,[ke45],kf3),13160,kc18,[51],0),
  (54,(kl659,[ke45],kf3),13140,kc47,[53],0),
  (56,(kl656,[ke216,ke45],kf3),13159,kc18,[54],0),
  (56,(kl658,[ke250,ke45],kf32),13347,kc18,[55],0),
  (56,(kl659,[ke529,ke45],kf3),13139,kc47,[55],0),
  (57,(kl656,[ke62],kf3),13158,kc18,[56],0),
  (57,(kl659,[ke47],kf3),13138,kc47,[56],0),
  (59,(kl660,[],kf3),13137,kc47,[57],0),
  (60,(kl660,[ke2],kf3),13136,kc47,[59],0),
  (62,(kl661,[ke216,ke2],kf3),13348,kc18,[60],0),
  (62,(kl660,[ke529,ke2],kf3),13135,kc47,[60],0),
  (63,(kl660,[ke7],kf3),13134,kc47,[61],0),
  (64,(kl660,[ke5,ke7],kf3),13133,kc47,[62],0),
  (65,(kl660,[ke65],kf3),13132,kc47,[75,63],0),
  (68,(kl660,[],kf3),13131,kc47,[64],0)]
def CN265_1 : List ND := [(69,(kl660,[ke514],kf3),13130,kc47,[65],0),
  (72,(kl660,[ke525],kf3),13129,kc47,[66],0),
  (74,(kl660,[ke530,ke525],kf3),13128,kc47,[67],0),
  (77,(kl660,[ke52,ke525],kf3),13127,kc47,[68],0),
  (78,(kl660,[ke7],kf3),13126,kc47,[69],0),
  (79,(kl660,[ke514,ke7],kf3),13125,kc47,[70],0),
  (82,(kl660,[ke531,ke7],kf3),13124,kc47,[72],0),
  (84,(kl661,[ke216,ke531,ke7],kf3),13349,kc18,[73],0),
  (84,(kl660,[ke529,ke531,ke7],kf3),13123,kc47,[73],0),
  (85,(kl660,[ke7,ke7],kf3),13122,kc47,[74],0),
  (86,(kl660,[ke7],kf3),13121,kc47,[76],0),
  (89,(kl660,[],kf3),13120,kc47,[76],0),
  (91,(kl660,[ke7],kf3),13119,kc47,[77],0),
  (93,(kl662,[],kf3),13118,kc47,[78],0),
  (94,(kl662,[ke3],kf3),13117,kc47,[80],0),
  (96,(kl663,[ke216,ke3],kf3),13350,kc18,[81],0),
  (96,(kl662,[ke529,ke3],kf3),13116,kc47,[81],0),
  (97,(kl662,[ke7],kf3),13115,kc47,[82],0),
  (98,(kl662,[ke5,ke7],kf3),13114,kc47,[83],0),
  (99,(kl662,[ke65],kf3),13113,kc47,[96,84],0),
  (102,(kl662,[],kf3),13112,kc47,[85],0),
  (103,(kl662,[ke514],kf3),13111,kc47,[86],0),
  (106,(kl662,[ke525],kf3),13110,kc47,[87],0),
  (108,(kl662,[ke530,ke525],kf3),13109,kc47,[88],0),
  (111,(kl662,[ke52,ke525],kf3),13108,kc47,[89],0),
  (112,(kl662,[ke7],kf3),13107,kc47,[90],0),
  (113,(kl662,[ke514,ke7],kf3),13106,kc47,[91],0),
  (116,(kl662,[ke531,ke7],kf3),13105,kc47,[93],0),
  (118,(kl663,[ke216,ke531,ke7],kf3),13351,kc18,[94],0),
  (118,(kl662,[ke529,ke531,ke7],kf3),13104,kc47,[94],0),
  (119,(kl662,[ke7,ke7],kf3),13103,kc47,[95],0),
  (120,(kl662,[ke7],kf3),13102,kc47,[97],0),
  (123,(kl662,[],kf3),13101,kc47,[97],0),
  (125,(kl662,[ke7],kf3),13100,kc47,[98],0),
  (127,(kl659,[],kf3),13099,kc47,[99],0),
  (129,(kl659,[ke234],kf3),13098,kc47,[100],0),
  (130,(kl659,[ke514,ke234],kf3),13097,kc47,[101],0),
  (133,(kl659,[ke525,ke234],kf3),13096,kc47,[102],0),
  (135,(kl659,[ke530,ke525,ke234],kf3),13095,kc47,[103],0),
  (138,(kl659,[ke52,ke525,ke234],kf3),13094,kc47,[104],0),
  (139,(kl659,[ke7,ke234],kf3),13093,kc47,[113,105],0),
  (142,(kl664,[],kf3),13092,kc47,[106],0),
  (143,(kl664,[ke514],kf3),13091,kc47,[107],0),
  (146,(kl664,[ke525],kf3),13090,kc47,[108],0),
  (148,(kl664,[ke530,ke525],kf3),13089,kc47,[109],0),
  (151,(kl664,[ke52,ke525],kf3),13088,kc47,[110],0),
  (153,(kl664,[ke532,ke52,ke525],kf3),13087,kc47,[111],0),
  (154,(kl664,[],kf3),13086,kc47,[112],0),
  (155,(kl664,[ke5],kf3),13085,kc47,[113],0),
  (157,(kl659,[],kf3),13084,kc47,[114],0),
  (159,(kl659,[ke533],kf3),13083,kc47,[115],0),
  (160,(kl659,[ke514,ke533],kf3),13082,kc47,[116],0),
  (163,(kl659,[ke525,ke533],kf3),13081,kc47,[117],0),
  (165,(kl659,[ke530,ke525,ke533],kf3),13080,kc47,[118],0),
  (168,(kl659,[ke52,ke525,ke533],kf3),13079,kc47,[119],0),
  (169,(kl659,[ke7,ke533],kf3),13078,kc47,[128,120],0),
  (172,(kl665,[],kf3),13077,kc47,[121],0),
  (173,(kl665,[ke514],kf3),13076,kc47,[122],0),
  (176,(kl665,[ke525],kf3),13075,kc47,[123],0),
  (178,(kl665,[ke530,ke525],kf3),13074,kc47,[124],0),
  (181,(kl665,[ke52,ke525],kf3),13073,kc47,[125],0),
  (183,(kl665,[ke534,ke52,ke525],kf3),13072,kc47,[126],0),
  (184,(kl665,[],kf3),13071,kc47,[127],0),
  (185,(kl665,[ke5],kf3),13070,kc47,[128],0)]
def CN265_2 : List ND := [(187,(kl659,[],kf3),13069,kc47,[129],0),
  (190,(kl666,[],kf3),13147,kc47,[35],0),
  (193,(kl656,[],kf33),13313,kc45,[132],0),
  (193,(kl666,[],kf3),11962,kc46,[133],0),
  (196,(kl667,[],kf33),13327,kc45,[13],0),
  (196,(kl648,[],kf3),13157,kc46,[14],0),
  (199,(kl647,[],[]),0,kc18,[],0),
  (199,(kl648,[],kf3),1,kc18,[],0)]
def CN265 : List (List ND) := [CN265_0, CN265_1, CN265_2]
theorem CK265 : chkS prot SMs SM265 [] CN265 = true := by decide +kernel
