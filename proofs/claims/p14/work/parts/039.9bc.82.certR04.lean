/-! LM, by program: certificates R 4 -/
-- OneSidedModel.count [(182, 182), (-2147483648, 2147483647)]
def Rkl395 : AL := [some Rka0,some Rka5,some Rka21,none]
def Rkl396 : AL := [some Rka0,some Rka5,some Rka5,some Rka43]
def Rkc41 : List Int := [0,0,0,-15]
def Rkl397 : AL := [some Rka0,some Rka5,some Rka21,some Rka21]
def Rke294 : SE := (Rka43,(1,3,0,0,0))
def Rkl398 : AL := [some Rka0,some Rka5,some Rka5,some Rka44]
def Rke295 : SE := (Rka44,(1,3,0,0,0))
def Rke296 : SE := (Rka39,(2,198,8,0,0))
def Rkl399 : AL := [some Rka0,some Rka5,some Rka5,some Rka45]
def Rkl400 : AL := [some Rka0,some Rka21,some Rka5,some Rka43]
def Rkl401 : AL := [some Rka0,some Rka17,some Rka5,some Rka43]
def Rkl402 : AL := [some Rka0,some Rka42,some Rka5,some Rka43]
def Rkl403 : AL := [some Rka0,some Rka58,some Rka5,some Rka43]
def Rkl404 : AL := [some Rka0,some Rka30,some Rka5,some Rka43]
def Rkl405 : AL := [some Rka0,some Rka55,some Rka5,some Rka43]
def Rkl406 : AL := [some Rka0,some Rka46,some Rka5,some Rka43]
def Rka159 : AV := (2,195,195,0)
def Rke297 : SE := (Rka159,(2,182,20,0,0))
def Rke298 : SE := (Rka52,(2,195,0,0,0))
def Rka160 : AV := (0,7,7,0)
def Rkl407 : AL := [some Rka0,some Rka160,some Rka5,some Rka43]
def Rkl408 : AL := [some Rka0,some Rka31,some Rka5,some Rka43]
def Rka161 : AV := (0,0,16,1)
def Rke299 : SE := (Rka161,(2,182,25,0,0))
def Rkl409 : AL := [some Rka0,some Rka27,some Rka5,some Rka43]
def CNR70_0 : List ND := [(0,(Rkl101,[],[]),153,Rkc13,[1],0),
  (1,(Rkl101,[Rke13],[]),152,Rkc13,[2],0),
  (2,(Rkl101,[Rke21,Rke13],[]),151,Rkc13,[3],0),
  (5,(Rkl101,[],Rkf1),150,Rkc13,[4],0),
  (6,(Rkl101,[Rke21],Rkf1),149,Rkc13,[5],0),
  (7,(Rkl395,[],Rkf1),148,Rkc13,[6],0),
  (8,(Rkl395,[Rke21],Rkf1),147,Rkc13,[7],0),
  (9,(Rkl396,[],Rkf1),145,Rkc41,[9],0),
  (10,(Rkl397,[Rke145],Rkf1),156,Rkc13,[10],0),
  (10,(Rkl396,[Rke294],Rkf1),144,Rkc41,[11],0),
  (11,(Rkl397,[Rke13,Rke145],Rkf1),155,Rkc13,[12],7),
  (11,(Rkl396,[Rke13,Rke294],Rkf1),143,Rkc41,[13],7),
  (14,(Rkl397,[Rke51,Rke145],Rkf1),154,Rkc13,[32,14],0),
  (14,(Rkl396,[Rke51,Rke294],Rkf1),142,Rkc41,[32,14],0),
  (17,(Rkl398,[],Rkf8),141,Rkc41,[16],0),
  (18,(Rkl397,[Rke90],Rkf8),163,Rkc13,[17],0),
  (18,(Rkl398,[Rke40],Rkf8),140,Rkc41,[18],0),
  (19,(Rkl397,[Rke13,Rke90],Rkf8),162,Rkc13,[19],0),
  (19,(Rkl398,[Rke13,Rke40],Rkf8),139,Rkc41,[20],0),
  (22,(Rkl397,[Rke45,Rke90],Rkf8),161,Rkc13,[21],0),
  (22,(Rkl398,[Rke45,Rke40],Rkf8),138,Rkc41,[22],0),
  (24,(Rkl397,[Rke33,Rke45,Rke90],Rkf8),160,Rkc13,[23],0),
  (24,(Rkl398,[Rke33,Rke45,Rke40],Rkf8),137,Rkc41,[24],0),
  (25,(Rkl397,[Rke145,Rke33,Rke45,Rke90],Rkf8),159,Rkc13,[25],0),
  (25,(Rkl398,[Rke295,Rke33,Rke45,Rke40],Rkf8),136,Rkc41,[26],0),
  (26,(Rkl397,[Rke33,Rke45,Rke90],Rkf8),158,Rkc13,[27],0),
  (26,(Rkl398,[Rke101,Rke45,Rke40],Rkf8),135,Rkc41,[28],0),
  (27,(Rkl397,[Rke296,Rke90],Rkf8),157,Rkc13,[29],0),
  (27,(Rkl398,[Rke47,Rke40],Rkf8),134,Rkc41,[29],0),
  (28,(Rkl398,[Rke5],Rkf8),133,Rkc41,[30],0),
  (29,(Rkl398,[],Rkf8),132,Rkc41,[31],0),
  (32,(Rkl399,[],Rkf8),146,Rkc41,[7],0),
  (35,(Rkl396,[],Rkf1),41,Rkc13,[33],0),
  (36,(Rkl396,[Rke26],Rkf1),40,Rkc13,[72,34,37,40,43,48,54,56,61,66,69],0),
  (92,(Rkl400,[],Rkf1),26,Rkc13,[35],0),
  (93,(Rkl400,[Rke13],Rkf1),25,Rkc13,[36],13),
  (96,(Rkl400,[Rke68],Rkf1),24,Rkc13,[],0),
  (97,(Rkl401,[],Rkf1),23,Rkc13,[38],0),
  (98,(Rkl401,[Rke13],Rkf1),22,Rkc13,[39],2),
  (101,(Rkl401,[Rke25],Rkf1),21,Rkc13,[],0),
  (102,(Rkl402,[],Rkf1),29,Rkc13,[41],0),
  (103,(Rkl402,[Rke13],Rkf1),28,Rkc13,[42],7),
  (106,(Rkl402,[Rke51],Rkf1),27,Rkc13,[],0),
  (107,(Rkl403,[],Rkf1),34,Rkc13,[44],0),
  (108,(Rkl403,[Rke13],Rkf1),33,Rkc13,[45],0),
  (111,(Rkl403,[Rke45],Rkf1),32,Rkc13,[46],0),
  (112,(Rkl403,[Rke21,Rke45],Rkf1),31,Rkc13,[47],0),
  (113,(Rkl403,[Rke86],Rkf1),30,Rkc13,[],0),
  (114,(Rkl404,[],Rkf1),5,Rkc13,[49],0),
  (115,(Rkl404,[Rke13],Rkf1),4,Rkc13,[50],0),
  (118,(Rkl404,[Rke45],Rkf1),3,Rkc13,[51],0),
  (119,(Rkl404,[Rke19,Rke45],Rkf1),2,Rkc13,[52],0),
  (120,(Rkl404,[Rke46],Rkf1),1,Rkc13,[53],43),
  (123,(Rkl404,[Rke5],Rkf1),0,Rkc13,[],0),
  (124,(Rkl405,[],Rkf1),7,Rkc13,[55],0),
  (125,(Rkl405,[Rke40],Rkf1),6,Rkc13,[],0),
  (126,(Rkl406,[],Rkf1),20,Rkc13,[57],0),
  (127,(Rkl406,[Rke13],Rkf1),19,Rkc13,[58],0),
  (130,(Rkl406,[Rke297],Rkf1),18,Rkc13,[59],0),
  (131,(Rkl406,[Rke21,Rke297],Rkf1),17,Rkc13,[60],0),
  (132,(Rkl406,[Rke298],Rkf1),16,Rkc13,[],0),
  (133,(Rkl407,[],Rkf1),39,Rkc13,[62],0),
  (134,(Rkl407,[Rke13],Rkf1),38,Rkc13,[63],0),
  (137,(Rkl407,[Rke45],Rkf1),37,Rkc13,[64],0)]
def CNR70_1 : List ND := [(139,(Rkl407,[Rke170,Rke45],Rkf1),36,Rkc13,[65],0),
  (140,(Rkl407,[Rke171],Rkf1),35,Rkc13,[],0),
  (141,(Rkl408,[],Rkf1),10,Rkc13,[67],0),
  (142,(Rkl408,[Rke13],Rkf1),9,Rkc13,[68],0),
  (145,(Rkl408,[Rke299],Rkf1),8,Rkc13,[],0),
  (146,(Rkl409,[],Rkf1),13,Rkc13,[70],0),
  (147,(Rkl409,[Rke13],Rkf1),12,Rkc13,[71],0),
  (150,(Rkl409,[Rke14],Rkf1),11,Rkc13,[],0),
  (151,(Rkl396,[],Rkf1),15,Rkc13,[73],0),
  (152,(Rkl396,[Rke42],Rkf1),14,Rkc13,[],0)]
def CNR70 : List (List ND) := [CNR70_0, CNR70_1]
theorem CKR70 : chkS prot SMsR SMR70 [] CNR70 = true := by decide +kernel
