/-! LM, by program: certificates R 1 -/
-- OneSidedModel.soonest [(182, 182), (-2147483648, 2147483647), (-2147483648, 2147483647)]
def Rkl100 : AL := [some Rka0,some Rka44,some Rka28]
def Rka80 : AV := (0,1,512,1)
def Rke121 : SE := (Rka80,pv0)
def Rka81 : AV := (0,10,19,1)
def Rke122 : SE := (Rka81,pv0)
def Rka82 : AV := (0,1024,524288,1)
def Rke123 : SE := (Rka82,pv0)
def CNR30_0 : List ND := [(0,(Rkl17,[],[]),29,Rkc5,[1],0),
  (1,(Rkl17,[Rke13],[]),28,Rkc5,[2],0),
  (2,(Rkl17,[Rke21,Rke13],[]),27,Rkc5,[3],0),
  (5,(Rkl17,[],Rkf1),26,Rkc5,[4],0),
  (6,(Rkl17,[Rke13],Rkf1),25,Rkc5,[5],0),
  (7,(Rkl17,[Rke26,Rke13],Rkf1),24,Rkc5,[7,6],8),
  (10,(Rkl17,[Rke21],Rkf1),23,Rkc5,[27],0),
  (10,(Rkl28,[Rke19],Rkf1),22,Rkc5,[8],0),
  (13,(Rkl28,[],Rkf1),21,Rkc5,[9],0),
  (14,(Rkl28,[Rke13],Rkf1),20,Rkc5,[10],0),
  (15,(Rkl28,[Rke40,Rke13],Rkf1),19,Rkc5,[12,11],14),
  (18,(Rkl28,[Rke21],Rkf1),18,Rkc5,[27],0),
  (18,(Rkl100,[Rke19],Rkf1),15,Rkc5,[13],0),
  (21,(Rkl100,[],Rkf1),14,Rkc5,[14],0),
  (22,(Rkl100,[Rke13],Rkf1),13,Rkc5,[15],0),
  (23,(Rkl100,[Rke21,Rke13],Rkf1),12,Rkc5,[16],0),
  (24,(Rkl100,[Rke54,Rke21,Rke13],Rkf1),11,Rkc5,[17],0),
  (25,(Rkl100,[Rke19,Rke54,Rke21,Rke13],Rkf1),10,Rkc5,[18],0),
  (26,(Rkl100,[Rke43,Rke19,Rke54,Rke21,Rke13],Rkf1),9,Rkc5,[19],0),
  (27,(Rkl100,[Rke121,Rke54,Rke21,Rke13],Rkf1),8,Rkc5,[20],0),
  (28,(Rkl100,[Rke19,Rke121,Rke54,Rke21,Rke13],Rkf1),7,Rkc5,[21],0),
  (30,(Rkl100,[Rke9,Rke19,Rke121,Rke54,Rke21,Rke13],Rkf1),6,Rkc5,[22],0),
  (31,(Rkl100,[Rke43,Rke9,Rke19,Rke121,Rke54,Rke21,Rke13],Rkf1),5,Rkc5,[23],0),
  (32,(Rkl100,[Rke122,Rke19,Rke121,Rke54,Rke21,Rke13],Rkf1),4,Rkc5,[24],0),
  (33,(Rkl100,[Rke123,Rke121,Rke54,Rke21,Rke13],Rkf1),3,Rkc5,[25],0),
  (34,(Rkl100,[Rke5,Rke54,Rke21,Rke13],Rkf1),2,Rkc5,[26],29),
  (37,(Rkl100,[Rke39],Rkf1),1,Rkc5,[29],0),
  (40,(Rkl17,[],Rkf1),17,Rkc5,[28],0),
  (41,(Rkl17,[Rke42],Rkf1),16,Rkc5,[],0),
  (41,(Rkl100,[Rke39],Rkf1),0,Rkc5,[],0)]
def CNR30 : List (List ND) := [CNR30_0]
theorem CKR30 : chkS prot SMsR SMR30 [] CNR30 = true := by decide +kernel
-- OneSidedModel.reach [(182, 182), (-2147483648, 2147483647)]
def Rkl101 : AL := [some Rka0,some Rka5,none,none]
def Rkc13 : List Int := [0,0,0,0]
def Rkl102 : AL := [some Rka0,some Rka44,none,none]
def Rkl103 : AL := [some Rka0,some Rka44,some Rka75,none]
def Rke124 : SE := (Rka63,pv0)
def Rkl104 : AL := [some Rka0,some Rka44,some Rka5,some Rka63]
def Rkc14 : List Int := [0,0,0,-12]
def Rke125 : SE := (Rka63,(1,3,0,0,0))
def Rkl105 : AL := [some Rka0,some Rka44,some Rka5,some Rka62]
def Rke126 : SE := (Rka62,(1,3,0,0,0))
def Rkl106 : AL := [some Rka0,some Rka44,some Rka5,some Rka68]
def Rkl107 : AL := [some Rka0,some Rka44,some Rka5,some Rka66]
def Rka83 : AV := (0,1023,1023,0)
def Rke127 : SE := (Rka83,pv0)
def Rka84 : AV := (0,0,1023,1)
def Rke128 : SE := (Rka84,pv0)
def CNR31_0 : List ND := [(0,(Rkl101,[],[]),346,Rkc13,[1],0),
  (1,(Rkl101,[Rke13],[]),345,Rkc13,[2],0),
  (2,(Rkl101,[Rke21,Rke13],[]),344,Rkc13,[3],0),
  (5,(Rkl101,[],Rkf1),343,Rkc13,[4],0),
  (6,(Rkl101,[Rke13],Rkf1),342,Rkc13,[5],0),
  (7,(Rkl101,[Rke26,Rke13],Rkf1),341,Rkc13,[7,6],8),
  (10,(Rkl101,[Rke21],Rkf1),340,Rkc13,[8],0),
  (10,(Rkl102,[Rke19],Rkf1),337,Rkc13,[10],0),
  (13,(Rkl101,[],Rkf1),339,Rkc13,[9],0),
  (14,(Rkl101,[Rke42],Rkf1),338,Rkc13,[],0),
  (15,(Rkl102,[],Rkf1),336,Rkc13,[11],0),
  (16,(Rkl102,[Rke13],Rkf1),335,Rkc13,[12],0),
  (17,(Rkl102,[Rke21,Rke13],Rkf1),334,Rkc13,[13],0),
  (18,(Rkl102,[Rke54,Rke21,Rke13],Rkf1),333,Rkc13,[14],25),
  (21,(Rkl102,[Rke103],Rkf1),332,Rkc13,[15],0),
  (22,(Rkl103,[],Rkf1),331,Rkc13,[16],0),
  (23,(Rkl103,[Rke13],Rkf1),330,Rkc13,[17],0),
  (26,(Rkl103,[Rke45],Rkf1),329,Rkc13,[18],0),
  (27,(Rkl103,[Rke21,Rke45],Rkf1),328,Rkc13,[19],0),
  (28,(Rkl103,[Rke86],Rkf1),327,Rkc13,[20],0),
  (29,(Rkl103,[Rke13,Rke86],Rkf1),326,Rkc13,[21],0),
  (32,(Rkl103,[Rke45,Rke86],Rkf1),325,Rkc13,[22],0),
  (34,(Rkl103,[Rke91,Rke45,Rke86],Rkf1),324,Rkc13,[23],0),
  (35,(Rkl103,[Rke54,Rke91,Rke45,Rke86],Rkf1),323,Rkc13,[24],0),
  (36,(Rkl103,[Rke93,Rke45,Rke86],Rkf1),322,Rkc13,[25],0),
  (37,(Rkl103,[Rke47,Rke86],Rkf1),321,Rkc13,[26],0),
  (38,(Rkl103,[Rke124],Rkf1),320,Rkc13,[27],0),
  (39,(Rkl104,[],Rkf1),318,Rkc14,[28],0),
  (40,(Rkl104,[Rke125],Rkf1),317,Rkc14,[29],0),
  (42,(Rkl104,[Rke71,Rke125],Rkf1),316,Rkc14,[39,30],0),
  (45,(Rkl105,[],Rkf1),315,Rkc14,[31],0),
  (46,(Rkl105,[Rke13],Rkf1),314,Rkc14,[32],0),
  (47,(Rkl105,[Rke21,Rke13],Rkf1),313,Rkc14,[33],0),
  (48,(Rkl105,[Rke54,Rke21,Rke13],Rkf1),312,Rkc14,[34],0),
  (49,(Rkl105,[Rke40,Rke54,Rke21,Rke13],Rkf1),311,Rkc14,[35],0),
  (50,(Rkl105,[Rke126,Rke40,Rke54,Rke21,Rke13],Rkf1),310,Rkc14,[36],28),
  (53,(Rkl105,[Rke5],Rkf1),309,Rkc14,[37],0),
  (54,(Rkl105,[],Rkf1),308,Rkc14,[38],0),
  (57,(Rkl106,[],Rkf1),319,Rkc14,[27],0),
  (60,(Rkl107,[],Rkf1),7,Rkc13,[40],0),
  (61,(Rkl107,[Rke40],Rkf1),6,Rkc13,[41],0),
  (62,(Rkl107,[Rke40,Rke40],Rkf1),5,Rkc13,[42],0),
  (64,(Rkl107,[Rke9,Rke40,Rke40],Rkf1),4,Rkc13,[43],0),
  (65,(Rkl107,[Rke5,Rke40],Rkf1),3,Rkc13,[44],0),
  (66,(Rkl107,[Rke5],Rkf1),2,Rkc13,[45],0),
  (69,(Rkl107,[Rke127,Rke5],Rkf1),1,Rkc13,[46],0),
  (70,(Rkl107,[Rke128],Rkf1),0,Rkc13,[],0)]
def CNR31 : List (List ND) := [CNR31_0]
theorem CKR31 : chkS prot SMsR SMR31 [] CNR31 = true := by decide +kernel
-- OneSidedModel.personOf [(182, 182), (0, 5), (1, 1)]
def Rkl108 : AL := [some Rka0,some Rka44,some Rka17]
def Rke129 : SE := (Rka17,(1,2,0,0,0))
def Rka85 : AV := (0,117,137,4)
def Rke130 : SE := (Rka85,pv0)
def CNR32_0 : List ND := [(0,(Rkl108,[],[]),10,Rkc5,[1],0),
  (1,(Rkl108,[Rke13],[]),9,Rkc5,[2],0),
  (4,(Rkl108,[Rke24],[]),8,Rkc5,[3],0),
  (6,(Rkl108,[Rke53,Rke24],[]),7,Rkc5,[4],0),
  (7,(Rkl108,[Rke32,Rke53,Rke24],[]),6,Rkc5,[5],0),
  (8,(Rkl108,[Rke54,Rke32,Rke53,Rke24],[]),5,Rkc5,[6],0),
  (9,(Rkl108,[Rke55,Rke53,Rke24],[]),4,Rkc5,[7],0),
  (10,(Rkl108,[Rke56,Rke24],[]),3,Rkc5,[8],0),
  (11,(Rkl108,[Rke129,Rke56,Rke24],[]),2,Rkc5,[9],0),
  (12,(Rkl108,[Rke130,Rke24],[]),1,Rkc5,[10],0),
  (13,(Rkl108,[Rke100],[]),0,Rkc5,[],0)]
def CNR32 : List (List ND) := [CNR32_0]
theorem CKR32 : chkS prot SMsR SMR32 [] CNR32 = true := by decide +kernel
-- OneSidedModel.errandHour [(182, 182), (0, 0), (0, 5)]
def CNR33_0 : List ND := [(0,(Rkl56,[],[]),12,Rkc5,[1],0),
  (1,(Rkl56,[Rke13],[]),11,Rkc5,[2],0),
  (2,(Rkl56,[Rke29,Rke13],[]),10,Rkc5,[3],0),
  (3,(Rkl56,[Rke92,Rke29,Rke13],[]),9,Rkc5,[4],0),
  (4,(Rkl56,[Rke19,Rke92,Rke29,Rke13],[]),8,Rkc5,[5],0),
  (6,(Rkl56,[Rke9,Rke19,Rke92,Rke29,Rke13],[]),7,Rkc5,[6],0),
  (7,(Rkl56,[Rke13,Rke9,Rke19,Rke92,Rke29,Rke13],[]),6,Rkc5,[7],0),
  (8,(Rkl56,[Rke92,Rke13,Rke9,Rke19,Rke92,Rke29,Rke13],[]),5,Rkc5,[8],0),
  (9,(Rkl56,[Rke19,Rke92,Rke13,Rke9,Rke19,Rke92,Rke29,Rke13],[]),4,Rkc5,[9],32),
  (12,(Rkl56,[Rke100,Rke9,Rke19,Rke92,Rke29,Rke13],[]),3,Rkc5,[10],0),
  (13,(Rkl56,[Rke122,Rke19,Rke92,Rke29,Rke13],[]),2,Rkc5,[11],0),
  (14,(Rkl56,[Rke123,Rke92,Rke29,Rke13],[]),1,Rkc5,[12],29),
  (17,(Rkl56,[Rke39],[]),0,Rkc5,[],0)]
def CNR33 : List (List ND) := [CNR33_0]
theorem CKR33 : chkS prot SMsR SMR33 [] CNR33 = true := by decide +kernel
-- OneSidedModel.stuck [(182, 182)]
def Rkl109 : AL := [some Rka0,none,none]
def Rkl110 : AL := [some Rka0,some Rka84,some Rka43]
def Rkc15 : List Int := [0,0,-20]
def Rkl111 : AL := [some Rka0,some Rka84,some Rka44]
def Rkf8 : FA := [(182,0,Rka21),(188,2,Rka45)]
def Rke131 : SE := (Rka84,(1,1,0,0,0))
def Rka86 : AV := (0,1,32,1)
def Rke132 : SE := (Rka86,pv0)
def Rkl112 : AL := [some Rka0,some Rka84,some Rka45]
def CNR34_0 : List ND := [(0,(Rkl109,[],[]),148,Rkc5,[1],0),
  (1,(Rkl109,[Rke13],[]),147,Rkc5,[2],0),
  (2,(Rkl109,[Rke21,Rke13],[]),146,Rkc5,[3],0),
  (5,(Rkl109,[],Rkf1),145,Rkc5,[4],0),
  (6,(Rkl109,[Rke21],Rkf1),144,Rkc5,[5],0),
  (7,(Rkl53,[],Rkf1),143,Rkc5,[6],0),
  (8,(Rkl53,[Rke21],Rkf1),142,Rkc5,[7],0),
  (9,(Rkl110,[],Rkf1),140,Rkc15,[9],0),
  (10,(Rkl55,[Rke90],Rkf1),151,Rkc5,[10],0),
  (10,(Rkl110,[Rke61],Rkf1),139,Rkc15,[11],0),
  (11,(Rkl55,[Rke13,Rke90],Rkf1),150,Rkc5,[12],7),
  (11,(Rkl110,[Rke13,Rke61],Rkf1),138,Rkc15,[13],7),
  (14,(Rkl55,[Rke51,Rke90],Rkf1),149,Rkc5,[42,14],0),
  (14,(Rkl110,[Rke51,Rke61],Rkf1),137,Rkc15,[42,14],0),
  (17,(Rkl111,[],Rkf8),136,Rkc15,[16],0),
  (18,(Rkl55,[Rke29],Rkf8),163,Rkc5,[17],0),
  (18,(Rkl111,[Rke131],Rkf8),135,Rkc15,[18],0),
  (19,(Rkl55,[Rke13,Rke29],Rkf8),162,Rkc5,[19],0),
  (19,(Rkl111,[Rke13,Rke131],Rkf8),134,Rkc15,[20],0),
  (20,(Rkl55,[Rke21,Rke13,Rke29],Rkf8),161,Rkc5,[21],0),
  (20,(Rkl111,[Rke21,Rke13,Rke131],Rkf8),133,Rkc15,[22],0),
  (21,(Rkl55,[Rke90,Rke21,Rke13,Rke29],Rkf8),160,Rkc5,[23],33),
  (21,(Rkl111,[Rke92,Rke21,Rke13,Rke131],Rkf8),132,Rkc15,[24],33),
  (24,(Rkl55,[Rke39,Rke29],Rkf8),159,Rkc5,[33,25],0),
  (24,(Rkl111,[Rke39,Rke131],Rkf8),131,Rkc15,[34,26],0),
  (27,(Rkl55,[Rke29],Rkf8),156,Rkc5,[27],0),
  (27,(Rkl111,[Rke131],Rkf8),128,Rkc15,[28],0),
  (28,(Rkl55,[Rke19,Rke29],Rkf8),155,Rkc5,[29],0),
  (28,(Rkl111,[Rke19,Rke131],Rkf8),127,Rkc15,[30],0),
  (29,(Rkl55,[Rke90,Rke19,Rke29],Rkf8),154,Rkc5,[31],0),
  (29,(Rkl111,[Rke92,Rke19,Rke131],Rkf8),126,Rkc15,[32],0),
  (30,(Rkl55,[Rke19,Rke29],Rkf8),153,Rkc5,[36],0),
  (30,(Rkl111,[Rke132,Rke131],Rkf8),125,Rkc15,[38],0),
  (33,(Rkl55,[Rke29],Rkf8),158,Rkc5,[35],0),
  (33,(Rkl111,[Rke131],Rkf8),130,Rkc15,[37],0),
  (34,(Rkl55,[Rke21,Rke29],Rkf8),157,Rkc5,[39],0),
  (34,(Rkl55,[Rke19,Rke29],Rkf8),152,Rkc5,[39],0),
  (34,(Rkl111,[Rke21,Rke131],Rkf8),129,Rkc15,[39],0),
  (34,(Rkl111,[Rke132,Rke131],Rkf8),124,Rkc15,[39],0),
  (35,(Rkl111,[Rke128],Rkf8),123,Rkc15,[40],0),
  (36,(Rkl111,[],Rkf8),122,Rkc15,[41],0),
  (39,(Rkl112,[],Rkf8),141,Rkc15,[7],0),
  (42,(Rkl110,[],Rkf1),1,Rkc5,[43],0),
  (43,(Rkl110,[Rke131],Rkf1),0,Rkc5,[],0)]
def CNR34 : List (List ND) := [CNR34_0]
theorem CKR34 : chkS prot SMsR SMR34 [] CNR34 = true := by decide +kernel
-- OneSidedModel.mayAsk [(182, 182), (-2147483648, 2147483647), (-2147483648, 2147483647)]
def Rkl113 : AL := [some Rka0,some Rka47,some Rka5]
def Rkl114 : AL := [some Rka0,some Rka47,some Rka62]
def CNR35_0 : List ND := [(0,(Rkl17,[],[]),16,Rkc5,[1],0),
  (1,(Rkl17,[Rke26],[]),15,Rkc5,[2],0),
  (2,(Rkl17,[Rke21,Rke26],[]),14,Rkc5,[3],0),
  (3,(Rkl17,[Rke77,Rke21,Rke26],[]),13,Rkc5,[5,4],12),
  (6,(Rkl17,[Rke21],[]),2,Rkc5,[14],0),
  (6,(Rkl113,[Rke19],[]),12,Rkc5,[6],0),
  (9,(Rkl113,[],[]),11,Rkc5,[7],0),
  (10,(Rkl113,[Rke40],[]),10,Rkc5,[8],0),
  (11,(Rkl113,[Rke21,Rke40],[]),9,Rkc5,[9],0),
  (13,(Rkl113,[Rke80,Rke21,Rke40],[]),8,Rkc5,[11,10],15),
  (16,(Rkl113,[Rke21],[]),3,Rkc5,[14],0),
  (16,(Rkl114,[Rke19],[]),7,Rkc5,[12],0),
  (19,(Rkl114,[],[]),6,Rkc5,[13],0),
  (20,(Rkl114,[Rke19],[]),5,Rkc5,[16],0),
  (23,(Rkl17,[],[]),1,Rkc5,[15],0),
  (24,(Rkl17,[Rke21],[]),0,Rkc5,[],1),
  (24,(Rkl114,[Rke19],[]),4,Rkc5,[],0)]
def CNR35 : List (List ND) := [CNR35_0]
theorem CKR35 : chkS prot SMsR SMR35 [(1,1),(2,2)] CNR35 = true := by decide +kernel
-- OneSidedModel.laysInto [(182, 182), (0, 3), (0, 24), (-2147483648, 2147483647), (-2147483648, 2147483647)]
def Rkl115 : AL := [some Rka0,some Rka47,some Rka52,some Rka5,some Rka5,none,none,none]
def Rkc16 : List Int := [0,0,0,0,0,0,0,0]
def Rkl116 : AL := [some Rka0,some Rka47,some Rka52,some Rka5,some Rka5,some Rka59,none,none]
def Rkc17 : List Int := [0,0,0,0,0,-522,0,0]
def Rkl117 : AL := [some Rka0,some Rka47,some Rka52,some Rka5,some Rka5,some Rka21,none,none]
def Rke133 : SE := (Rka21,(1,5,0,0,0))
def Rke134 : SE := (Rka59,(1,5,0,0,0))
def Rkl118 : AL := [some Rka0,some Rka47,some Rka52,some Rka5,some Rka5,some Rka28,none,none]
def Rka87 : AV := (2,203,203,0)
def Rke135 : SE := (Rka87,(2,182,37,0,0))
def Rke136 : SE := (Rka28,(1,5,0,0,0))
def Rkl119 : AL := [some Rka0,some Rka47,some Rka52,some Rka5,some Rka5,some Rka28,some Rka23,none]
def Rkc18 : List Int := [0,0,0,0,0,-522,-34,0]
def Rkl120 : AL := [some Rka0,some Rka47,some Rka52,some Rka5,some Rka5,some Rka21,some Rka21,none]
def Rkf9 : FA := [(203,0,Rka21)]
def Rke137 : SE := (Rka23,(1,6,0,0,0))
def Rkl121 : AL := [some Rka0,some Rka47,some Rka52,some Rka5,some Rka5,some Rka28,some Rka25,none]
def Rkl122 : AL := [some Rka0,some Rka47,some Rka52,some Rka5,some Rka5,some Rka21,some Rka25,none]
def Rkf10 : FA := [(188,0,Rka60),(188,1,Rka26)]
def Rkf11 : FA := [(188,0,Rka60),(188,1,Rka26),(203,0,Rka21)]
def Rke138 : SE := (Rka25,(1,6,0,0,0))
def Rke139 : SE := (Rka47,(1,1,0,0,0))
def Rkl123 : AL := [some Rka0,some Rka47,some Rka52,some Rka5,some Rka5,some Rka28,some Rka25,some Rka65]
def Rkl124 : AL := [some Rka0,some Rka47,some Rka52,some Rka5,some Rka5,some Rka21,some Rka25,some Rka65]
def Rkl125 : AL := [some Rka0,some Rka47,some Rka52,some Rka5,some Rka5,some Rka21,some Rka21,some Rka65]
def Rke140 : SE := (Rka21,(2,203,0,0,0))
def Rke141 : SE := (Rka84,(2,203,0,0,0))
def Rke142 : SE := (Rka65,(1,7,0,0,0))
def Rkl126 : AL := [some Rka0,some Rka47,some Rka52,some Rka5,some Rka5,some Rka21,some Rka21,some Rka36]
def Rkl127 : AL := [some Rka0,some Rka47,some Rka52,some Rka5,some Rka5,some Rka21,some Rka25,some Rka36]
def Rkl128 : AL := [some Rka0,some Rka47,some Rka52,some Rka5,some Rka5,some Rka28,some Rka25,some Rka36]
def Rkl129 : AL := [some Rka0,some Rka47,some Rka52,some Rka5,some Rka5,some Rka21,some Rka21,some Rka28]
def Rkl130 : AL := [some Rka0,some Rka47,some Rka52,some Rka5,some Rka5,some Rka21,some Rka25,some Rka28]
def Rkl131 : AL := [some Rka0,some Rka47,some Rka52,some Rka5,some Rka5,some Rka28,some Rka25,some Rka28]
def Rke143 : SE := (Rka28,(1,7,0,0,0))
def Rka88 : AV := (0,0,512,1)
def Rke144 : SE := (Rka88,pv0)
def Rkl132 : AL := [some Rka0,some Rka47,some Rka52,some Rka5,some Rka5,some Rka28,some Rka26,some Rka65]
def Rkl133 : AL := [some Rka0,some Rka47,some Rka52,some Rka5,some Rka5,some Rka60,some Rka23,none]
def Rkl134 : AL := [some Rka0,some Rka47,some Rka52,some Rka5,some Rka5,some Rka8,none,none]
def CNR36_0 : List ND := [(0,(Rkl115,[],[]),5744,Rkc16,[1],0),
  (1,(Rkl115,[Rke21],[]),5743,Rkc16,[2],0),
  (3,(Rkl116,[],[]),5741,Rkc17,[4],0),
  (5,(Rkl117,[Rke133],[]),5746,Rkc16,[5],0),
  (5,(Rkl116,[Rke134],[]),5740,Rkc17,[6],0),
  (7,(Rkl117,[Rke9,Rke133],[]),5745,Rkc16,[7],0),
  (7,(Rkl116,[Rke9,Rke134],[]),5739,Rkc17,[87,7],0),
  (10,(Rkl118,[],[]),5738,Rkc17,[8],0),
  (11,(Rkl118,[Rke13],[]),5737,Rkc17,[9],0),
  (14,(Rkl118,[Rke135],[]),5736,Rkc17,[11],0),
  (16,(Rkl117,[Rke133,Rke135],[]),5748,Rkc16,[12],0),
  (16,(Rkl118,[Rke136,Rke135],[]),5735,Rkc17,[13],0),
  (17,(Rkl117,[Rke21,Rke133,Rke135],[]),5747,Rkc16,[14],0),
  (17,(Rkl118,[Rke21,Rke136,Rke135],[]),5734,Rkc17,[14],0),
  (18,(Rkl118,[],[]),5733,Rkc17,[15],0),
  (19,(Rkl118,[Rke21],[]),5732,Rkc17,[16],0),
  (21,(Rkl119,[],[]),5730,Rkc18,[18],0),
  (23,(Rkl120,[Rke107],Rkf9),5751,Rkc16,[19],0),
  (23,(Rkl119,[Rke137],[]),5729,Rkc18,[20],0),
  (24,(Rkl120,[Rke13,Rke107],Rkf9),5750,Rkc16,[21],2),
  (24,(Rkl119,[Rke13,Rke137],[]),5728,Rkc18,[22],2),
  (27,(Rkl120,[Rke25,Rke107],Rkf9),5749,Rkc16,[85,23],0),
  (27,(Rkl119,[Rke25,Rke137],[]),5727,Rkc18,[85,23],0),
  (30,(Rkl121,[],Rkf2),5726,Rkc18,[25],0),
  (32,(Rkl122,[Rke133],Rkf2),5754,Rkc16,[26],0),
  (32,(Rkl121,[Rke136],Rkf2),5725,Rkc18,[27],0),
  (33,(Rkl122,[Rke13,Rke133],Rkf2),5753,Rkc16,[28],13),
  (33,(Rkl121,[Rke13,Rke136],Rkf2),5724,Rkc18,[29],13),
  (36,(Rkl122,[Rke68,Rke133],Rkf2),5752,Rkc16,[85,30],0),
  (36,(Rkl121,[Rke68,Rke136],Rkf2),5723,Rkc18,[85,30],0),
  (39,(Rkl121,[],Rkf10),5722,Rkc18,[31],0),
  (40,(Rkl121,[Rke13],Rkf10),5721,Rkc18,[33],0),
  (42,(Rkl120,[Rke107,Rke13],Rkf11),5760,Rkc16,[34],0),
  (42,(Rkl121,[Rke138,Rke13],Rkf10),5720,Rkc18,[35],0),
  (43,(Rkl120,[Rke139,Rke107,Rke13],Rkf11),5759,Rkc16,[36],0),
  (43,(Rkl121,[Rke139,Rke138,Rke13],Rkf10),5719,Rkc18,[38],0),
  (45,(Rkl120,[Rke133,Rke139,Rke107,Rke13],Rkf11),5758,Rkc16,[39],0),
  (45,(Rkl122,[Rke133,Rke139,Rke138,Rke13],Rkf10),5764,Rkc16,[40],0),
  (45,(Rkl121,[Rke136,Rke139,Rke138,Rke13],Rkf10),5718,Rkc18,[41],0),
  (46,(Rkl120,[Rke95,Rke133,Rke139,Rke107,Rke13],Rkf11),5757,Rkc16,[42],0),
  (46,(Rkl122,[Rke95,Rke133,Rke139,Rke138,Rke13],Rkf10),5763,Rkc16,[43],0),
  (46,(Rkl121,[Rke95,Rke136,Rke139,Rke138,Rke13],Rkf10),5717,Rkc18,[44],0),
  (47,(Rkl120,[Rke78,Rke95,Rke133,Rke139,Rke107,Rke13],Rkf11),5756,Rkc16,[45],0),
  (47,(Rkl122,[Rke78,Rke95,Rke133,Rke139,Rke138,Rke13],Rkf10),5762,Rkc16,[46],0),
  (47,(Rkl121,[Rke78,Rke95,Rke136,Rke139,Rke138,Rke13],Rkf10),5716,Rkc18,[47],0),
  (49,(Rkl120,[Rke79,Rke78,Rke95,Rke133,Rke139,Rke107,Rke13],Rkf11),5755,Rkc16,[48],16),
  (49,(Rkl122,[Rke79,Rke78,Rke95,Rke133,Rke139,Rke138,Rke13],Rkf10),5761,Rkc16,[48],16),
  (49,(Rkl121,[Rke79,Rke78,Rke95,Rke136,Rke139,Rke138,Rke13],Rkf10),5715,Rkc18,[48],16),
  (52,(Rkl121,[Rke76],Rkf10),5714,Rkc18,[49],0),
  (54,(Rkl123,[],Rkf10),5713,Rkc18,[50],0),
  (55,(Rkl123,[Rke13],Rkf10),5712,Rkc18,[51],0),
  (58,(Rkl123,[Rke135],Rkf10),5711,Rkc18,[53],0),
  (60,(Rkl124,[Rke133,Rke135],Rkf10),5775,Rkc16,[54],0),
  (60,(Rkl123,[Rke136,Rke135],Rkf10),5710,Rkc18,[55],0),
  (61,(Rkl124,[Rke133,Rke135,Rke133,Rke135],Rkf10),5774,Rkc16,[57],0),
  (61,(Rkl123,[Rke136,Rke135,Rke136,Rke135],Rkf10),5709,Rkc18,[58],0),
  (62,(Rkl125,[Rke140,Rke133,Rke135],Rkf11),5783,Rkc16,[59],0),
  (62,(Rkl124,[Rke141,Rke133,Rke135],Rkf10),5773,Rkc16,[60],0),
  (62,(Rkl123,[Rke128,Rke136,Rke135],Rkf10),5708,Rkc18,[61],0),
  (64,(Rkl125,[Rke142,Rke140,Rke133,Rke135],Rkf11),5782,Rkc16,[68,62],0),
  (64,(Rkl124,[Rke142,Rke141,Rke133,Rke135],Rkf10),5772,Rkc16,[69,63],0),
  (64,(Rkl123,[Rke142,Rke128,Rke136,Rke135],Rkf10),5707,Rkc18,[70,64],0),
  (67,(Rkl126,[Rke140,Rke133,Rke135],Rkf11),5781,Rkc16,[66],0),
  (67,(Rkl127,[Rke141,Rke133,Rke135],Rkf10),5771,Rkc16,[65],0)]
def CNR36_1 : List ND := [(67,(Rkl128,[Rke128,Rke136,Rke135],Rkf10),5706,Rkc18,[67],0),
  (68,(Rkl127,[Rke21,Rke141,Rke133,Rke135],Rkf10),5770,Rkc16,[77],0),
  (68,(Rkl126,[Rke21,Rke140,Rke133,Rke135],Rkf11),5780,Rkc16,[78],0),
  (68,(Rkl128,[Rke21,Rke128,Rke136,Rke135],Rkf10),5705,Rkc18,[79],0),
  (71,(Rkl129,[Rke140,Rke133,Rke135],Rkf11),5778,Rkc16,[71],0),
  (71,(Rkl130,[Rke141,Rke133,Rke135],Rkf10),5767,Rkc16,[72],0),
  (71,(Rkl131,[Rke128,Rke136,Rke135],Rkf10),5703,Rkc18,[73],0),
  (72,(Rkl129,[Rke19,Rke140,Rke133,Rke135],Rkf11),5777,Rkc16,[74],0),
  (72,(Rkl130,[Rke19,Rke141,Rke133,Rke135],Rkf10),5766,Rkc16,[75],0),
  (72,(Rkl131,[Rke19,Rke128,Rke136,Rke135],Rkf10),5702,Rkc18,[76],0),
  (74,(Rkl129,[Rke143,Rke19,Rke140,Rke133,Rke135],Rkf11),5776,Rkc16,[77],0),
  (74,(Rkl130,[Rke143,Rke19,Rke141,Rke133,Rke135],Rkf10),5765,Rkc16,[79],0),
  (74,(Rkl131,[Rke143,Rke19,Rke128,Rke136,Rke135],Rkf10),5701,Rkc18,[80],0),
  (75,(Rkl124,[Rke144,Rke141,Rke133,Rke135],Rkf10),5769,Rkc16,[81],0),
  (75,(Rkl126,[Rke21,Rke140,Rke133,Rke135],Rkf11),5779,Rkc16,[81],0),
  (75,(Rkl123,[Rke144,Rke128,Rke136,Rke135],Rkf10),5704,Rkc18,[82],0),
  (75,(Rkl131,[Rke121,Rke128,Rke136,Rke135],Rkf10),5700,Rkc18,[82],0),
  (76,(Rkl124,[Rke128,Rke133,Rke135],Rkf10),5768,Rkc16,[83],0),
  (76,(Rkl123,[Rke128,Rke136,Rke135],Rkf10),5699,Rkc18,[83],0),
  (77,(Rkl123,[],Rkf10),5698,Rkc18,[84],0),
  (80,(Rkl132,[],Rkf10),5731,Rkc18,[16],0),
  (83,(Rkl119,[],[]),5221,Rkc17,[86],0),
  (86,(Rkl133,[],[]),5742,Rkc17,[2],0),
  (89,(Rkl134,[],[]),0,Rkc16,[],0)]
def CNR36 : List (List ND) := [CNR36_0, CNR36_1]
theorem CKR36 : chkS prot SMsR SMR36 [] CNR36 = true := by decide +kernel
-- OneSidedModel.homelessOf [(182, 182), (0, 9)]
def Rkl135 : AL := [some Rka0,some Rka28,none,none]
def Rkl136 : AL := [some Rka0,some Rka28,some Rka21,none]
def Rkl137 : AL := [some Rka0,some Rka28,some Rka84,some Rka59]
def Rkc19 : List Int := [0,0,0,-22]
def Rkl138 : AL := [some Rka0,some Rka28,some Rka21,some Rka21]
def Rke145 : SE := (Rka21,(1,3,0,0,0))
def Rke146 : SE := (Rka59,(1,3,0,0,0))
def Rkl139 : AL := [some Rka0,some Rka28,some Rka84,some Rka28]
def Rke147 : SE := (Rka84,(1,2,0,0,0))
def Rka89 : AV := (0,1,1023,1)
def Rke148 : SE := (Rka89,pv0)
def Rke149 : SE := (Rka28,(1,1,0,0,0))
def Rkl140 : AL := [some Rka0,some Rka28,some Rka84,some Rka60]
def CNR38_0 : List ND := [(0,(Rkl135,[],[]),247,Rkc13,[1],0),
  (1,(Rkl135,[Rke21],[]),246,Rkc13,[2],0),
  (2,(Rkl136,[],[]),245,Rkc13,[3],0),
  (3,(Rkl136,[Rke21],[]),244,Rkc13,[4],0),
  (4,(Rkl137,[],[]),242,Rkc19,[6],0),
  (5,(Rkl138,[Rke145],[]),250,Rkc13,[7],0),
  (5,(Rkl137,[Rke146],[]),241,Rkc19,[8],0),
  (6,(Rkl138,[Rke13,Rke145],[]),249,Rkc13,[9],13),
  (6,(Rkl137,[Rke13,Rke146],[]),240,Rkc19,[10],13),
  (9,(Rkl138,[Rke68,Rke145],[]),248,Rkc13,[43,11],0),
  (9,(Rkl137,[Rke68,Rke146],[]),239,Rkc19,[43,11],0),
  (12,(Rkl139,[],Rkf4),238,Rkc19,[13],0),
  (13,(Rkl138,[Rke90],Rkf4),264,Rkc13,[14],0),
  (13,(Rkl139,[Rke147],Rkf4),237,Rkc19,[15],0),
  (14,(Rkl138,[Rke13,Rke90],Rkf4),263,Rkc13,[16],0),
  (14,(Rkl139,[Rke13,Rke147],Rkf4),236,Rkc19,[17],0),
  (15,(Rkl138,[Rke145,Rke13,Rke90],Rkf4),262,Rkc13,[18],37),
  (15,(Rkl139,[Rke81,Rke13,Rke147],Rkf4),235,Rkc19,[19],37),
  (18,(Rkl138,[Rke148,Rke90],Rkf4),261,Rkc13,[20],0),
  (18,(Rkl139,[Rke148,Rke147],Rkf4),234,Rkc19,[21],0),
  (19,(Rkl138,[Rke149,Rke148,Rke90],Rkf4),260,Rkc13,[23,22],23),
  (19,(Rkl139,[Rke149,Rke148,Rke147],Rkf4),233,Rkc19,[25,24],23),
  (22,(Rkl138,[Rke21,Rke90],Rkf4),259,Rkc13,[30],0),
  (22,(Rkl138,[Rke19,Rke90],Rkf4),254,Rkc13,[26],0),
  (22,(Rkl139,[Rke21,Rke147],Rkf4),232,Rkc19,[31],0),
  (22,(Rkl139,[Rke19,Rke147],Rkf4),227,Rkc19,[27],0),
  (25,(Rkl138,[Rke90],Rkf4),253,Rkc13,[28],0),
  (25,(Rkl139,[Rke147],Rkf4),226,Rkc19,[29],0),
  (26,(Rkl138,[Rke21,Rke90],Rkf4),252,Rkc13,[36],0),
  (26,(Rkl139,[Rke21,Rke147],Rkf4),225,Rkc19,[38],0),
  (29,(Rkl138,[Rke90],Rkf4),258,Rkc13,[32],0),
  (29,(Rkl139,[Rke147],Rkf4),231,Rkc19,[33],0),
  (30,(Rkl138,[Rke19,Rke90],Rkf4),257,Rkc13,[34],0),
  (30,(Rkl139,[Rke19,Rke147],Rkf4),230,Rkc19,[35],0),
  (31,(Rkl138,[Rke145,Rke19,Rke90],Rkf4),256,Rkc13,[37],0),
  (31,(Rkl139,[Rke81,Rke19,Rke147],Rkf4),229,Rkc19,[39],0),
  (32,(Rkl138,[Rke21,Rke90],Rkf4),251,Rkc13,[40],0),
  (32,(Rkl138,[Rke19,Rke90],Rkf4),255,Rkc13,[40],0),
  (32,(Rkl139,[Rke21,Rke147],Rkf4),224,Rkc19,[40],0),
  (32,(Rkl139,[Rke121,Rke147],Rkf4),228,Rkc19,[40],0),
  (33,(Rkl139,[Rke128],Rkf4),223,Rkc19,[41],0),
  (34,(Rkl139,[],Rkf4),222,Rkc19,[42],0),
  (37,(Rkl140,[],Rkf4),243,Rkc19,[4],0),
  (40,(Rkl137,[],[]),1,Rkc13,[44],0),
  (41,(Rkl137,[Rke147],[]),0,Rkc13,[],0)]
def CNR38 : List (List ND) := [CNR38_0]
theorem CKR38 : chkS prot SMsR SMR38 [] CNR38 = true := by decide +kernel
-- OneSidedModel.ring [(182, 182), (-2147483648, 2147483647), (-2147483648, 2147483647), (-2147483648, 2147483647)]
def Rkl141 : AL := [some Rka0,some Rka5,some Rka5,some Rka5]
def Rkl142 : AL := [some Rka0,some Rka28,some Rka5,some Rka5]
def Rkl143 : AL := [some Rka0,some Rka28,some Rka47,some Rka62]
def CNR39_0 : List ND := [(0,(Rkl141,[],[]),34,Rkc13,[1],0),
  (1,(Rkl141,[Rke13],[]),33,Rkc13,[2],0),
  (2,(Rkl141,[Rke21,Rke13],[]),32,Rkc13,[3],0),
  (5,(Rkl141,[],Rkf1),31,Rkc13,[4],0),
  (6,(Rkl141,[Rke13],Rkf1),30,Rkc13,[5],0),
  (7,(Rkl141,[Rke26,Rke13],Rkf1),29,Rkc13,[7,6],14),
  (10,(Rkl141,[Rke21],Rkf1),28,Rkc13,[14],0),
  (10,(Rkl142,[Rke19],Rkf1),27,Rkc13,[8],0),
  (13,(Rkl142,[],Rkf1),26,Rkc13,[9],0),
  (14,(Rkl142,[Rke13],Rkf1),25,Rkc13,[10],0),
  (15,(Rkl142,[Rke40,Rke13],Rkf1),24,Rkc13,[11],0),
  (16,(Rkl142,[Rke78,Rke40,Rke13],Rkf1),23,Rkc13,[13,12],35),
  (19,(Rkl142,[Rke21],Rkf1),22,Rkc13,[14],0),
  (19,(Rkl143,[Rke19],Rkf1),19,Rkc13,[16],0),
  (22,(Rkl141,[],Rkf1),21,Rkc13,[15],0),
  (23,(Rkl141,[Rke42],Rkf1),20,Rkc13,[],0),
  (24,(Rkl143,[],Rkf1),18,Rkc13,[17],0),
  (25,(Rkl143,[Rke13],Rkf1),17,Rkc13,[18],0),
  (26,(Rkl143,[Rke57,Rke13],Rkf1),16,Rkc13,[19],0),
  (27,(Rkl143,[Rke126,Rke57,Rke13],Rkf1),15,Rkc13,[20],0),
  (28,(Rkl143,[Rke13,Rke126,Rke57,Rke13],Rkf1),14,Rkc13,[21],0),
  (31,(Rkl143,[Rke45,Rke126,Rke57,Rke13],Rkf1),13,Rkc13,[22],0),
  (32,(Rkl143,[Rke19,Rke45,Rke126,Rke57,Rke13],Rkf1),12,Rkc13,[23],0),
  (33,(Rkl143,[Rke46,Rke126,Rke57,Rke13],Rkf1),11,Rkc13,[24],0),
  (34,(Rkl143,[Rke21,Rke46,Rke126,Rke57,Rke13],Rkf1),10,Rkc13,[25],36),
  (37,(Rkl143,[],Rkf1),9,Rkc13,[26],0),
  (38,(Rkl143,[Rke13],Rkf1),8,Rkc13,[27],0),
  (39,(Rkl143,[Rke149,Rke13],Rkf1),7,Rkc13,[28],37),
  (42,(Rkl143,[Rke148],Rkf1),6,Rkc13,[29],0),
  (43,(Rkl143,[Rke13,Rke148],Rkf1),5,Rkc13,[30],0),
  (44,(Rkl143,[Rke149,Rke13,Rke148],Rkf1),4,Rkc13,[31],38),
  (47,(Rkl143,[Rke128,Rke148],Rkf1),3,Rkc13,[32],0),
  (48,(Rkl143,[Rke42,Rke128,Rke148],Rkf1),2,Rkc13,[33],0),
  (49,(Rkl143,[Rke5,Rke148],Rkf1),1,Rkc13,[34],0),
  (50,(Rkl143,[Rke128],Rkf1),0,Rkc13,[],0)]
def CNR39 : List (List ND) := [CNR39_0]
theorem CKR39 : chkS prot SMsR SMR39 [] CNR39 = true := by decide +kernel
-- OneSidedModel.homeless [(182, 182), (-2147483648, 2147483647), (-2147483648, 2147483647), (-2147483648, 2147483647)]
def CNR40_0 : List ND := [(0,(Rkl141,[],[]),28,Rkc13,[1],0),
  (1,(Rkl141,[Rke13],[]),27,Rkc13,[2],0),
  (2,(Rkl141,[Rke21,Rke13],[]),26,Rkc13,[3],0),
  (5,(Rkl141,[],Rkf1),25,Rkc13,[4],0),
  (6,(Rkl141,[Rke13],Rkf1),24,Rkc13,[5],0),
  (7,(Rkl141,[Rke26,Rke13],Rkf1),23,Rkc13,[7,6],14),
  (10,(Rkl141,[Rke21],Rkf1),22,Rkc13,[14],0),
  (10,(Rkl142,[Rke19],Rkf1),21,Rkc13,[8],0),
  (13,(Rkl142,[],Rkf1),20,Rkc13,[9],0),
  (14,(Rkl142,[Rke13],Rkf1),19,Rkc13,[10],0),
  (15,(Rkl142,[Rke40,Rke13],Rkf1),18,Rkc13,[11],0),
  (16,(Rkl142,[Rke78,Rke40,Rke13],Rkf1),17,Rkc13,[13,12],35),
  (19,(Rkl142,[Rke21],Rkf1),16,Rkc13,[14],0),
  (19,(Rkl143,[Rke19],Rkf1),13,Rkc13,[16],0),
  (22,(Rkl141,[],Rkf1),15,Rkc13,[15],0),
  (23,(Rkl141,[Rke42],Rkf1),14,Rkc13,[],0),
  (24,(Rkl143,[],Rkf1),12,Rkc13,[17],0),
  (25,(Rkl143,[Rke13],Rkf1),11,Rkc13,[18],0),
  (26,(Rkl143,[Rke57,Rke13],Rkf1),10,Rkc13,[19],0),
  (27,(Rkl143,[Rke126,Rke57,Rke13],Rkf1),9,Rkc13,[20],0),
  (28,(Rkl143,[Rke13,Rke126,Rke57,Rke13],Rkf1),8,Rkc13,[21],0),
  (31,(Rkl143,[Rke45,Rke126,Rke57,Rke13],Rkf1),7,Rkc13,[22],0),
  (32,(Rkl143,[Rke19,Rke45,Rke126,Rke57,Rke13],Rkf1),6,Rkc13,[23],0),
  (33,(Rkl143,[Rke46,Rke126,Rke57,Rke13],Rkf1),5,Rkc13,[24],0),
  (34,(Rkl143,[Rke21,Rke46,Rke126,Rke57,Rke13],Rkf1),4,Rkc13,[25],36),
  (37,(Rkl143,[],Rkf1),3,Rkc13,[26],0),
  (38,(Rkl143,[Rke13],Rkf1),2,Rkc13,[27],0),
  (39,(Rkl143,[Rke149,Rke13],Rkf1),1,Rkc13,[28],38),
  (42,(Rkl143,[Rke128],Rkf1),0,Rkc13,[],0)]
def CNR40 : List (List ND) := [CNR40_0]
theorem CKR40 : chkS prot SMsR SMR40 [] CNR40 = true := by decide +kernel
-- OneSidedModel.every [(182, 182)]
def Rka90 : AV := (0,1,1024,1)
def Rke150 : SE := (Rka90,pv0)
def CNR41_0 : List ND := [(0,(Rkl9,[],[]),6,Rkc3,[1],0),
  (1,(Rkl9,[Rke19],[]),5,Rkc3,[2],0),
  (2,(Rkl9,[Rke13,Rke19],[]),4,Rkc3,[3],13),
  (5,(Rkl9,[Rke68,Rke19],[]),3,Rkc3,[4],0),
  (6,(Rkl9,[Rke150],[]),2,Rkc3,[5],0),
  (7,(Rkl9,[Rke19,Rke150],[]),1,Rkc3,[6],0),
  (8,(Rkl9,[Rke128],[]),0,Rkc3,[],0)]
def CNR41 : List (List ND) := [CNR41_0]
theorem CKR41 : chkS prot SMsR SMR41 [] CNR41 = true := by decide +kernel
-- OneSidedModel.add [(182, 182), (-2147483648, 2147483647), (-2147483648, 2147483647)]
def Rkl144 : AL := [some Rka0,some Rka5,some Rka5,none,none,none,none,none]
def Rkl145 : AL := [some Rka0,some Rka47,some Rka62,none,none,none,none,none]
def Rke151 : SE := (Rka62,(1,2,0,0,0))
def Rkl146 : AL := [some Rka0,some Rka47,some Rka62,some Rka21,none,none,none,none]
def Rkl147 : AL := [some Rka0,some Rka47,some Rka62,some Rka21,some Rka21,none,none,none]
def Rkl148 : AL := [some Rka0,some Rka47,some Rka62,some Rka21,some Rka21,some Rka21,none,none]
def Rkl149 : AL := [some Rka0,some Rka47,some Rka62,some Rka5,some Rka5,some Rka84,some Rka59,none]
def Rkc20 : List Int := [0,0,0,0,0,0,-58,0]
def Rkl150 : AL := [some Rka0,some Rka47,some Rka62,some Rka21,some Rka21,some Rka21,some Rka21,none]
def Rke152 : SE := (Rka59,(1,6,0,0,0))
def Rkl151 : AL := [some Rka0,some Rka47,some Rka62,some Rka5,some Rka5,some Rka84,some Rka28,none]
def Rkf12 : FA := [(182,0,Rka21),(188,0,Rka60)]
def Rke153 : SE := (Rka28,(1,6,0,0,0))
def Rkl152 : AL := [some Rka0,some Rka47,some Rka62,some Rka5,some Rka5,some Rka84,some Rka28,some Rka84]
def Rke154 : SE := (Rka84,(1,7,0,0,0))
def Rkl153 : AL := [some Rka0,some Rka47,some Rka62,some Rka21,some Rka21,some Rka21,some Rka21,some Rka84]
def Rke155 : SE := (Rka84,(1,5,0,0,0))
def Rkl154 : AL := [some Rka0,some Rka47,some Rka62,some Rka21,some Rka21,some Rka84,some Rka21,some Rka84]
def Rke156 : SE := (Rka21,(1,4,0,0,0))
def Rkl155 : AL := [some Rka0,some Rka47,some Rka62,some Rka21,some Rka21,some Rka84,some Rka21,some Rka89]
def Rkl156 : AL := [some Rka0,some Rka47,some Rka62,some Rka5,some Rka5,some Rka84,some Rka28,some Rka89]
def Rkl157 : AL := [some Rka0,some Rka47,some Rka62,some Rka21,some Rka39,some Rka84,some Rka21,some Rka84]
def Rkl158 : AL := [some Rka0,some Rka47,some Rka62,some Rka5,some Rka5,some Rka84,some Rka60,some Rka84]
def Rka91 : AV := (0,-2147483647,2147483647,1)
def Rka92 : AV := (0,-2147483648,2147483646,1)
def Rkl159 : AL := [some Rka0,some Rka47,some Rka62,some Rka91,some Rka92,some Rka84,some Rka59,none]
def Rke157 : SE := (Rka91,(1,3,0,0,0))
def CNR42_0 : List ND := [(0,(Rkl144,[],[]),674,Rkc16,[1],0),
  (1,(Rkl144,[Rke13],[]),673,Rkc16,[2],0),
  (2,(Rkl144,[Rke21,Rke13],[]),672,Rkc16,[3],0),
  (5,(Rkl144,[],Rkf1),671,Rkc16,[4],0),
  (6,(Rkl144,[Rke13],Rkf1),670,Rkc16,[5],0),
  (7,(Rkl144,[Rke26,Rke13],Rkf1),669,Rkc16,[6],0),
  (8,(Rkl144,[Rke40,Rke26,Rke13],Rkf1),668,Rkc16,[8,7],35),
  (11,(Rkl144,[Rke21],Rkf1),667,Rkc16,[9],0),
  (11,(Rkl145,[Rke19],Rkf1),664,Rkc16,[11],0),
  (14,(Rkl144,[],Rkf1),666,Rkc16,[10],0),
  (15,(Rkl144,[Rke42],Rkf1),665,Rkc16,[],0),
  (16,(Rkl145,[],Rkf1),663,Rkc16,[12],0),
  (17,(Rkl145,[Rke13],Rkf1),662,Rkc16,[13],0),
  (18,(Rkl145,[Rke139,Rke13],Rkf1),661,Rkc16,[14],0),
  (19,(Rkl145,[Rke151,Rke139,Rke13],Rkf1),660,Rkc16,[15],0),
  (20,(Rkl145,[Rke13,Rke151,Rke139,Rke13],Rkf1),659,Rkc16,[16],0),
  (23,(Rkl145,[Rke45,Rke151,Rke139,Rke13],Rkf1),658,Rkc16,[17],0),
  (24,(Rkl145,[Rke19,Rke45,Rke151,Rke139,Rke13],Rkf1),657,Rkc16,[18],0),
  (25,(Rkl145,[Rke46,Rke151,Rke139,Rke13],Rkf1),656,Rkc16,[19],0),
  (26,(Rkl145,[Rke21,Rke46,Rke151,Rke139,Rke13],Rkf1),655,Rkc16,[20],36),
  (29,(Rkl145,[],Rkf1),654,Rkc16,[21],0),
  (30,(Rkl145,[Rke21],Rkf1),653,Rkc16,[22],0),
  (31,(Rkl146,[],Rkf1),652,Rkc16,[23],0),
  (32,(Rkl146,[Rke21],Rkf1),651,Rkc16,[24],0),
  (34,(Rkl147,[],Rkf1),650,Rkc16,[25],0),
  (35,(Rkl147,[Rke21],Rkf1),649,Rkc16,[26],0),
  (37,(Rkl148,[],Rkf1),648,Rkc16,[27],0),
  (38,(Rkl148,[Rke21],Rkf1),647,Rkc16,[28],0),
  (40,(Rkl149,[],Rkf1),645,Rkc20,[30],0),
  (42,(Rkl150,[Rke107],Rkf1),677,Rkc16,[31],0),
  (42,(Rkl149,[Rke152],Rkf1),644,Rkc20,[32],0),
  (43,(Rkl150,[Rke13,Rke107],Rkf1),676,Rkc16,[33],13),
  (43,(Rkl149,[Rke13,Rke152],Rkf1),643,Rkc20,[34],13),
  (46,(Rkl150,[Rke68,Rke107],Rkf1),675,Rkc16,[126,35],0),
  (46,(Rkl149,[Rke68,Rke152],Rkf1),642,Rkc20,[126,35],0),
  (49,(Rkl151,[],Rkf12),641,Rkc20,[36],0),
  (50,(Rkl151,[Rke13],Rkf12),640,Rkc20,[38],0),
  (52,(Rkl150,[Rke107,Rke13],Rkf12),678,Rkc16,[39],37),
  (52,(Rkl151,[Rke153,Rke13],Rkf12),639,Rkc20,[39],37),
  (55,(Rkl151,[Rke148],Rkf12),638,Rkc20,[40],0),
  (56,(Rkl151,[Rke13,Rke148],Rkf12),637,Rkc20,[42],0),
  (58,(Rkl150,[Rke107,Rke13,Rke148],Rkf12),679,Rkc16,[43],38),
  (58,(Rkl151,[Rke153,Rke13,Rke148],Rkf12),636,Rkc20,[43],38),
  (61,(Rkl151,[Rke128,Rke148],Rkf12),635,Rkc20,[44],0),
  (62,(Rkl151,[Rke42,Rke128,Rke148],Rkf12),634,Rkc20,[45],0),
  (63,(Rkl151,[Rke5,Rke148],Rkf12),633,Rkc20,[46],0),
  (64,(Rkl151,[Rke128],Rkf12),632,Rkc20,[47],0),
  (66,(Rkl152,[],Rkf12),631,Rkc20,[48],0),
  (68,(Rkl152,[Rke154],Rkf12),630,Rkc20,[49],0),
  (69,(Rkl152,[Rke13,Rke154],Rkf12),629,Rkc20,[50],41),
  (72,(Rkl152,[Rke128,Rke154],Rkf12),628,Rkc20,[53,51],0),
  (75,(Rkl152,[],Rkf12),8,Rkc16,[52],0),
  (76,(Rkl152,[Rke21],Rkf12),7,Rkc16,[],0),
  (77,(Rkl152,[],Rkf12),627,Rkc20,[55],0),
  (79,(Rkl153,[Rke133],Rkf12),681,Rkc16,[56],0),
  (79,(Rkl152,[Rke155],Rkf12),626,Rkc20,[57],0),
  (81,(Rkl153,[Rke107,Rke133],Rkf12),680,Rkc16,[59,58],23),
  (81,(Rkl152,[Rke153,Rke155],Rkf12),625,Rkc20,[59,58],23),
  (84,(Rkl152,[Rke21],Rkf12),624,Rkc20,[60],0),
  (84,(Rkl152,[Rke19],Rkf12),590,Rkc20,[124],0),
  (87,(Rkl152,[],Rkf12),623,Rkc20,[62],0),
  (89,(Rkl153,[Rke133],Rkf12),683,Rkc16,[63],0),
  (89,(Rkl152,[Rke155],Rkf12),622,Rkc20,[64],0),
  (91,(Rkl153,[Rke154,Rke133],Rkf12),682,Rkc16,[65],0)]
def CNR42_1 : List ND := [(91,(Rkl152,[Rke154,Rke155],Rkf12),621,Rkc20,[65],0),
  (92,(Rkl152,[Rke128],Rkf12),620,Rkc20,[66],0),
  (94,(Rkl152,[],Rkf12),619,Rkc20,[68],0),
  (96,(Rkl154,[Rke156],Rkf12),695,Rkc16,[69],0),
  (96,(Rkl152,[Rke79],Rkf12),618,Rkc20,[70],0),
  (97,(Rkl154,[Rke13,Rke156],Rkf12),694,Rkc16,[71],0),
  (97,(Rkl152,[Rke13,Rke79],Rkf12),617,Rkc20,[72],0),
  (99,(Rkl154,[Rke107,Rke13,Rke156],Rkf12),693,Rkc16,[73],37),
  (99,(Rkl152,[Rke153,Rke13,Rke79],Rkf12),616,Rkc20,[74],37),
  (102,(Rkl154,[Rke148,Rke156],Rkf12),692,Rkc16,[75],0),
  (102,(Rkl152,[Rke148,Rke79],Rkf12),615,Rkc20,[76],0),
  (104,(Rkl154,[Rke154,Rke148,Rke156],Rkf12),691,Rkc16,[81,77],0),
  (104,(Rkl152,[Rke154,Rke148,Rke79],Rkf12),614,Rkc20,[82,78],0),
  (107,(Rkl155,[Rke156],Rkf12),690,Rkc16,[79],0),
  (107,(Rkl156,[Rke79],Rkf12),611,Rkc20,[80],0),
  (108,(Rkl155,[Rke19,Rke156],Rkf12),689,Rkc16,[84],0),
  (108,(Rkl156,[Rke19,Rke79],Rkf12),610,Rkc20,[86],0),
  (111,(Rkl154,[Rke156],Rkf12),686,Rkc16,[83],0),
  (111,(Rkl152,[Rke79],Rkf12),613,Rkc20,[85],0),
  (112,(Rkl154,[Rke21,Rke156],Rkf12),685,Rkc16,[87],0),
  (112,(Rkl155,[Rke19,Rke156],Rkf12),688,Rkc16,[88],0),
  (112,(Rkl152,[Rke21,Rke79],Rkf12),612,Rkc20,[89],0),
  (112,(Rkl156,[Rke19,Rke79],Rkf12),609,Rkc20,[89],0),
  (113,(Rkl154,[Rke21],Rkf12),684,Rkc16,[90],0),
  (113,(Rkl155,[Rke19],Rkf12),687,Rkc16,[90],0),
  (113,(Rkl152,[Rke5],Rkf12),608,Rkc20,[90],0),
  (115,(Rkl152,[],Rkf12),607,Rkc20,[92],0),
  (116,(Rkl157,[Rke145],Rkf12),712,Rkc16,[93],0),
  (116,(Rkl152,[Rke78],Rkf12),606,Rkc20,[94],0),
  (117,(Rkl157,[Rke13,Rke145],Rkf12),711,Rkc16,[95],41),
  (117,(Rkl152,[Rke13,Rke78],Rkf12),605,Rkc20,[96],41),
  (120,(Rkl157,[Rke128,Rke145],Rkf12),710,Rkc16,[97],0),
  (120,(Rkl152,[Rke128,Rke78],Rkf12),604,Rkc20,[98],0),
  (121,(Rkl157,[Rke13,Rke128,Rke145],Rkf12),709,Rkc16,[99],0),
  (121,(Rkl152,[Rke13,Rke128,Rke78],Rkf12),603,Rkc20,[100],0),
  (123,(Rkl157,[Rke107,Rke13,Rke128,Rke145],Rkf12),708,Rkc16,[101],38),
  (123,(Rkl152,[Rke153,Rke13,Rke128,Rke78],Rkf12),602,Rkc20,[102],38),
  (126,(Rkl157,[Rke128,Rke128,Rke145],Rkf12),707,Rkc16,[104],0),
  (126,(Rkl152,[Rke128,Rke128,Rke78],Rkf12),601,Rkc20,[103],0),
  (127,(Rkl152,[Rke42,Rke128,Rke128,Rke78],Rkf12),600,Rkc20,[106],0),
  (127,(Rkl157,[Rke42,Rke128,Rke128,Rke145],Rkf12),706,Rkc16,[105],0),
  (128,(Rkl157,[Rke5,Rke128,Rke145],Rkf12),705,Rkc16,[107],0),
  (128,(Rkl152,[Rke5,Rke128,Rke78],Rkf12),599,Rkc20,[108],0),
  (129,(Rkl157,[Rke128,Rke145],Rkf12),704,Rkc16,[109],0),
  (129,(Rkl152,[Rke128,Rke78],Rkf12),598,Rkc20,[110],0),
  (131,(Rkl157,[Rke154,Rke128,Rke145],Rkf12),703,Rkc16,[115,111],0),
  (131,(Rkl152,[Rke154,Rke128,Rke78],Rkf12),597,Rkc20,[116,112],0),
  (134,(Rkl157,[Rke145],Rkf12),702,Rkc16,[113],0),
  (134,(Rkl152,[Rke78],Rkf12),596,Rkc20,[114],0),
  (135,(Rkl157,[Rke19,Rke145],Rkf12),701,Rkc16,[118],0),
  (135,(Rkl152,[Rke19,Rke78],Rkf12),595,Rkc20,[120],0),
  (138,(Rkl157,[Rke145],Rkf12),698,Rkc16,[117],0),
  (138,(Rkl152,[Rke78],Rkf12),593,Rkc20,[119],0),
  (139,(Rkl157,[Rke21,Rke145],Rkf12),697,Rkc16,[121],0),
  (139,(Rkl157,[Rke19,Rke145],Rkf12),700,Rkc16,[122],0),
  (139,(Rkl152,[Rke21,Rke78],Rkf12),592,Rkc20,[123],0),
  (139,(Rkl152,[Rke19,Rke78],Rkf12),594,Rkc20,[123],0),
  (140,(Rkl157,[Rke21],Rkf12),696,Rkc16,[124],0),
  (140,(Rkl157,[Rke19],Rkf12),699,Rkc16,[124],0),
  (140,(Rkl152,[Rke5],Rkf12),591,Rkc20,[124],0),
  (141,(Rkl152,[],Rkf12),589,Rkc20,[125],0),
  (144,(Rkl158,[],Rkf12),646,Rkc20,[28],0),
  (147,(Rkl149,[],Rkf1),6,Rkc16,[127],0),
  (148,(Rkl149,[Rke78],Rkf1),5,Rkc16,[128],0)]
def CNR42_2 : List ND := [(150,(Rkl149,[Rke79,Rke78],Rkf1),4,Rkc16,[131,129],0),
  (153,(Rkl159,[],Rkf1),2,Rkc16,[130],0),
  (154,(Rkl159,[Rke157],Rkf1),1,Rkc16,[132],0),
  (157,(Rkl149,[],Rkf1),3,Rkc16,[132],0),
  (159,(Rkl149,[Rke5],Rkf1),0,Rkc16,[],0)]
def CNR42 : List (List ND) := [CNR42_0, CNR42_1, CNR42_2]
theorem CKR42 : chkS prot SMsR SMR42 [] CNR42 = true := by decide +kernel
-- OneSidedModel.bits [(-2147483648, 2147483647)]
def Rkl160 : AL := [some Rka5,none,none]
def Rkl161 : AL := [some Rka5,some Rka21,none]
def Rkl162 : AL := [some Rka5,some Rka5,some Rka23]
def Rkc21 : List Int := [0,0,-13]
def Rkl163 : AL := [some Rka5,some Rka21,some Rka21]
def Rkl164 : AL := [some Rka5,some Rka5,some Rka25]
def Rkl165 : AL := [some Rka5,some Rka5,some Rka26]
def Rkl166 : AL := [some Rka5,some Rka5,some Rka69]
def CNR43_0 : List ND := [(0,(Rkl160,[],[]),200,Rkc5,[1],0),
  (1,(Rkl160,[Rke21],[]),199,Rkc5,[2],0),
  (2,(Rkl161,[],[]),198,Rkc5,[3],0),
  (3,(Rkl161,[Rke21],[]),197,Rkc5,[4],0),
  (4,(Rkl162,[],[]),195,Rkc21,[6],0),
  (5,(Rkl163,[Rke90],[]),202,Rkc5,[7],0),
  (5,(Rkl162,[Rke94],[]),194,Rkc21,[8],0),
  (7,(Rkl163,[Rke91,Rke90],[]),201,Rkc5,[9],0),
  (7,(Rkl162,[Rke91,Rke94],[]),193,Rkc21,[25,9],0),
  (10,(Rkl164,[],[]),192,Rkc21,[11],0),
  (11,(Rkl163,[Rke29],[]),208,Rkc5,[12],0),
  (11,(Rkl164,[Rke26],[]),191,Rkc21,[13],0),
  (12,(Rkl163,[Rke28,Rke29],[]),207,Rkc5,[14],0),
  (12,(Rkl164,[Rke28,Rke26],[]),190,Rkc21,[15],0),
  (13,(Rkl163,[Rke90,Rke28,Rke29],[]),206,Rkc5,[16],0),
  (13,(Rkl164,[Rke72,Rke28,Rke26],[]),189,Rkc21,[17],0),
  (14,(Rkl163,[Rke5,Rke29],[]),205,Rkc5,[18],0),
  (14,(Rkl164,[Rke5,Rke26],[]),188,Rkc21,[19],0),
  (15,(Rkl163,[Rke19,Rke5,Rke29],[]),204,Rkc5,[20],0),
  (15,(Rkl164,[Rke19,Rke5,Rke26],[]),187,Rkc21,[21],0),
  (16,(Rkl163,[Rke47,Rke29],[]),203,Rkc5,[22],0),
  (16,(Rkl164,[Rke47,Rke26],[]),186,Rkc21,[22],0),
  (17,(Rkl164,[Rke5],[]),185,Rkc21,[23],0),
  (18,(Rkl164,[],[]),184,Rkc21,[24],0),
  (21,(Rkl165,[],[]),196,Rkc21,[4],0),
  (24,(Rkl166,[],[]),1,Rkc5,[26],0),
  (25,(Rkl166,[Rke26],[]),0,Rkc5,[],0)]
def CNR43 : List (List ND) := [CNR43_0]
theorem CKR43 : chkS prot SMsR SMR43 [] CNR43 = true := by decide +kernel
-- OneSidedModel.turn [(182, 182), (-2147483648, 2147483647), (-2147483648, 2147483647)]
def Rkl167 : AL := [some Rka0,some Rka5,some Rka5,none,none]
def Rkl168 : AL := [some Rka0,some Rka47,some Rka62,none,none]
def Rkl169 : AL := [some Rka0,some Rka47,some Rka62,some Rka36,none]
def Rka93 : AV := (0,-1,16383,1)
def Rka94 : AV := (0,0,16384,1)
def Rkl170 : AL := [some Rka0,some Rka47,some Rka62,some Rka93,some Rka94]
def Rkc22 : List Int := [0,0,0,0,-38]
def Rkl171 : AL := [some Rka0,some Rka47,some Rka62,some Rka36,some Rka21]
def Rke158 : SE := (Rka94,(1,4,0,0,0))
def Rka95 : AV := (0,1,16384,1)
def Rke159 : SE := (Rka95,pv0)
def Rka96 : AV := (0,0,16383,1)
def Rkl172 : AL := [some Rka0,some Rka47,some Rka62,some Rka93,some Rka96]
def Rke160 : SE := (Rka36,(1,3,0,0,0))
def Rke161 : SE := (Rka93,(1,3,0,0,0))
def Rkl173 : AL := [some Rka0,some Rka47,some Rka62,some Rka96,some Rka96]
def Rke162 : SE := (Rka96,(1,4,0,0,0))
def Rkl174 : AL := [some Rka0,some Rka47,some Rka62,some Rka21,some Rka39]
def Rke163 : SE := (Rka96,(1,3,0,0,0))
def Rke164 : SE := (Rka93,pv0)
def Rkl175 : AL := [some Rka0,some Rka47,some Rka62,some Rka93,some Rka95]
def CNR44_0 : List ND := [(0,(Rkl167,[],[]),622646,Rkc0,[1],0),
  (1,(Rkl167,[Rke13],[]),622645,Rkc0,[2],0),
  (2,(Rkl167,[Rke21,Rke13],[]),622644,Rkc0,[3],0),
  (5,(Rkl167,[],Rkf1),622643,Rkc0,[4],0),
  (6,(Rkl167,[Rke13],Rkf1),622642,Rkc0,[5],0),
  (7,(Rkl167,[Rke26,Rke13],Rkf1),622641,Rkc0,[6],0),
  (8,(Rkl167,[Rke40,Rke26,Rke13],Rkf1),622640,Rkc0,[8,7],35),
  (11,(Rkl167,[Rke21],Rkf1),622639,Rkc0,[9],0),
  (11,(Rkl168,[Rke19],Rkf1),622636,Rkc0,[11],0),
  (14,(Rkl167,[],Rkf1),622638,Rkc0,[10],0),
  (15,(Rkl167,[Rke42],Rkf1),622637,Rkc0,[],0),
  (16,(Rkl168,[],Rkf1),622635,Rkc0,[12],0),
  (17,(Rkl168,[Rke42],Rkf1),622634,Rkc0,[13],0),
  (18,(Rkl169,[],Rkf1),622633,Rkc0,[14],0),
  (19,(Rkl169,[Rke21],Rkf1),622632,Rkc0,[15],0),
  (21,(Rkl170,[],Rkf1),622630,Rkc22,[17],0),
  (23,(Rkl171,[Rke156],Rkf1),622651,Rkc0,[18],0),
  (23,(Rkl170,[Rke158],Rkf1),622629,Rkc22,[19],0),
  (24,(Rkl171,[Rke19,Rke156],Rkf1),622650,Rkc0,[20],0),
  (24,(Rkl170,[Rke19,Rke158],Rkf1),622628,Rkc22,[21],0),
  (25,(Rkl171,[Rke13,Rke19,Rke156],Rkf1),622649,Rkc0,[22],2),
  (25,(Rkl170,[Rke13,Rke19,Rke158],Rkf1),622627,Rkc22,[23],2),
  (28,(Rkl171,[Rke25,Rke19,Rke156],Rkf1),622648,Rkc0,[24],0),
  (28,(Rkl170,[Rke25,Rke19,Rke158],Rkf1),622626,Rkc22,[25],0),
  (29,(Rkl171,[Rke159,Rke156],Rkf1),622647,Rkc0,[26],0),
  (29,(Rkl170,[Rke159,Rke158],Rkf1),622625,Rkc22,[64,26],0),
  (32,(Rkl172,[],Rkf1),622624,Rkc22,[28],0),
  (33,(Rkl171,[Rke160],Rkf1),622652,Rkc0,[35],0),
  (33,(Rkl172,[Rke161],Rkf1),622623,Rkc22,[35,29],0),
  (36,(Rkl173,[],Rkf1),622622,Rkc22,[30],0),
  (38,(Rkl173,[Rke162],Rkf1),622621,Rkc22,[31],43),
  (41,(Rkl173,[Rke5],Rkf1),622620,Rkc22,[33],0),
  (42,(Rkl174,[Rke145,Rke5],Rkf1),622653,Rkc0,[34],43),
  (42,(Rkl173,[Rke163,Rke5],Rkf1),622619,Rkc22,[34],43),
  (45,(Rkl173,[Rke5,Rke5],Rkf1),622618,Rkc22,[62,35],0),
  (48,(Rkl172,[],Rkf1),622617,Rkc22,[36],0),
  (49,(Rkl172,[Rke13],Rkf1),622616,Rkc22,[37],0),
  (50,(Rkl172,[Rke139,Rke13],Rkf1),622615,Rkc22,[38],0),
  (51,(Rkl172,[Rke151,Rke139,Rke13],Rkf1),622614,Rkc22,[39],0),
  (52,(Rkl172,[Rke13,Rke151,Rke139,Rke13],Rkf1),622613,Rkc22,[40],0),
  (55,(Rkl172,[Rke45,Rke151,Rke139,Rke13],Rkf1),622612,Rkc22,[41],0),
  (56,(Rkl172,[Rke19,Rke45,Rke151,Rke139,Rke13],Rkf1),622611,Rkc22,[42],0),
  (57,(Rkl172,[Rke46,Rke151,Rke139,Rke13],Rkf1),622610,Rkc22,[44],0),
  (59,(Rkl171,[Rke156,Rke46,Rke151,Rke139,Rke13],Rkf1),622654,Rkc0,[45],36),
  (59,(Rkl172,[Rke162,Rke46,Rke151,Rke139,Rke13],Rkf1),622609,Rkc22,[45],36),
  (62,(Rkl172,[],Rkf1),622608,Rkc22,[46],0),
  (63,(Rkl172,[Rke13],Rkf1),622607,Rkc22,[47],0),
  (64,(Rkl172,[Rke21,Rke13],Rkf1),622606,Rkc22,[48],37),
  (67,(Rkl172,[Rke148],Rkf1),622605,Rkc22,[49],0),
  (68,(Rkl172,[Rke13,Rke148],Rkf1),622604,Rkc22,[50],41),
  (71,(Rkl172,[Rke128,Rke148],Rkf1),622603,Rkc22,[58,51],0),
  (74,(Rkl172,[],Rkf1),622602,Rkc22,[52],0),
  (75,(Rkl172,[Rke13],Rkf1),622601,Rkc22,[53],0),
  (76,(Rkl172,[Rke21,Rke13],Rkf1),622600,Rkc22,[54],38),
  (79,(Rkl172,[Rke128],Rkf1),622599,Rkc22,[58,55],0),
  (82,(Rkl172,[],Rkf1),622598,Rkc22,[57],0),
  (84,(Rkl171,[Rke156],Rkf1),622656,Rkc0,[60],0),
  (84,(Rkl172,[Rke162],Rkf1),622597,Rkc22,[61],0),
  (87,(Rkl172,[],Rkf1),622596,Rkc22,[61],0),
  (88,(Rkl171,[Rke160],Rkf1),622657,Rkc0,[62],0),
  (88,(Rkl171,[Rke156],Rkf1),622655,Rkc0,[62],0),
  (88,(Rkl172,[Rke164],Rkf1),622595,Rkc22,[62],0),
  (89,(Rkl172,[],Rkf1),622594,Rkc22,[63],0),
  (92,(Rkl175,[],Rkf1),622631,Rkc22,[15],0)]
def CNR44_1 : List ND := [(95,(Rkl175,[],Rkf1),1,Rkc0,[65],0),
  (96,(Rkl175,[Rke161],Rkf1),0,Rkc0,[],0)]
def CNR44 : List (List ND) := [CNR44_0, CNR44_1]
theorem CKR44 : chkS prot SMsR SMR44 [] CNR44 = true := by decide +kernel
-- OneSidedModel.cut [(182, 182), (-2147483648, 2147483647), (-2147483648, 2147483647), (-2147483648, 2147483647), (-2147483648, 2147483647)]
def Rkl176 : AL := [some Rka0,some Rka5,some Rka5,some Rka5,some Rka5,none,none]
def Rkl177 : AL := [some Rka0,some Rka28,some Rka5,some Rka5,some Rka5,none,none]
def Rkl178 : AL := [some Rka0,some Rka28,some Rka28,some Rka5,some Rka5,none,none]
def Rkl179 : AL := [some Rka0,some Rka28,some Rka28,some Rka47,some Rka62,none,none]
def Rkl180 : AL := [some Rka0,some Rka28,some Rka28,some Rka47,some Rka62,some Rka36,none]
def Rkl181 : AL := [some Rka0,some Rka28,some Rka28,some Rka47,some Rka62,some Rka93,some Rka94]
def Rkc23 : List Int := [0,0,0,0,0,0,-37]
def Rkl182 : AL := [some Rka0,some Rka28,some Rka28,some Rka47,some Rka62,some Rka36,some Rka21]
def Rke165 : SE := (Rka94,(1,6,0,0,0))
def Rkl183 : AL := [some Rka0,some Rka28,some Rka28,some Rka47,some Rka62,some Rka93,some Rka96]
def Rke166 : SE := (Rka36,(1,5,0,0,0))
def Rke167 : SE := (Rka93,(1,5,0,0,0))
def Rkl184 : AL := [some Rka0,some Rka28,some Rka28,some Rka47,some Rka62,some Rka96,some Rka96]
def Rke168 : SE := (Rka96,(1,6,0,0,0))
def Rkl185 : AL := [some Rka0,some Rka28,some Rka28,some Rka47,some Rka62,some Rka21,some Rka39]
def Rke169 : SE := (Rka96,(1,5,0,0,0))
def Rkl186 : AL := [some Rka0,some Rka28,some Rka28,some Rka47,some Rka62,some Rka93,some Rka95]
def CNR45_0 : List ND := [(0,(Rkl176,[],[]),606274,Rkc2,[1],0),
  (1,(Rkl176,[Rke13],[]),606273,Rkc2,[2],0),
  (2,(Rkl176,[Rke21,Rke13],[]),606272,Rkc2,[3],0),
  (5,(Rkl176,[],Rkf1),606271,Rkc2,[4],0),
  (6,(Rkl176,[Rke13],Rkf1),606270,Rkc2,[5],0),
  (7,(Rkl176,[Rke26,Rke13],Rkf1),606269,Rkc2,[7,6],14),
  (10,(Rkl176,[Rke21],Rkf1),606268,Rkc2,[22],0),
  (10,(Rkl177,[Rke19],Rkf1),606267,Rkc2,[8],0),
  (13,(Rkl177,[],Rkf1),606266,Rkc2,[9],0),
  (14,(Rkl177,[Rke13],Rkf1),606265,Rkc2,[10],0),
  (15,(Rkl177,[Rke40,Rke13],Rkf1),606264,Rkc2,[12,11],14),
  (18,(Rkl177,[Rke21],Rkf1),606263,Rkc2,[22],0),
  (18,(Rkl178,[Rke19],Rkf1),606262,Rkc2,[13],0),
  (21,(Rkl178,[],Rkf1),606261,Rkc2,[14],0),
  (22,(Rkl178,[Rke149],Rkf1),606260,Rkc2,[15],0),
  (23,(Rkl178,[Rke43,Rke149],Rkf1),606259,Rkc2,[22,16],0),
  (26,(Rkl178,[],Rkf1),606258,Rkc2,[17],0),
  (27,(Rkl178,[Rke13],Rkf1),606257,Rkc2,[18],0),
  (28,(Rkl178,[Rke78,Rke13],Rkf1),606256,Rkc2,[19],0),
  (30,(Rkl178,[Rke79,Rke78,Rke13],Rkf1),606255,Rkc2,[21,20],35),
  (33,(Rkl178,[Rke21],Rkf1),2,Rkc2,[22],0),
  (33,(Rkl179,[Rke19],Rkf1),606254,Rkc2,[24],0),
  (36,(Rkl176,[],Rkf1),1,Rkc2,[23],0),
  (37,(Rkl176,[Rke42],Rkf1),0,Rkc2,[],0),
  (38,(Rkl179,[],Rkf1),606253,Rkc2,[25],0),
  (39,(Rkl179,[Rke42],Rkf1),606252,Rkc2,[26],0),
  (41,(Rkl180,[],Rkf1),606251,Rkc2,[27],0),
  (42,(Rkl180,[Rke21],Rkf1),606250,Rkc2,[28],0),
  (44,(Rkl181,[],Rkf1),606248,Rkc23,[30],0),
  (46,(Rkl182,[Rke107],Rkf1),606279,Rkc2,[31],0),
  (46,(Rkl181,[Rke165],Rkf1),606247,Rkc23,[32],0),
  (47,(Rkl182,[Rke19,Rke107],Rkf1),606278,Rkc2,[33],0),
  (47,(Rkl181,[Rke19,Rke165],Rkf1),606246,Rkc23,[34],0),
  (48,(Rkl182,[Rke13,Rke19,Rke107],Rkf1),606277,Rkc2,[35],2),
  (48,(Rkl181,[Rke13,Rke19,Rke165],Rkf1),606245,Rkc23,[36],2),
  (51,(Rkl182,[Rke25,Rke19,Rke107],Rkf1),606276,Rkc2,[37],0),
  (51,(Rkl181,[Rke25,Rke19,Rke165],Rkf1),606244,Rkc23,[38],0),
  (52,(Rkl182,[Rke159,Rke107],Rkf1),606275,Rkc2,[39],0),
  (52,(Rkl181,[Rke159,Rke165],Rkf1),606243,Rkc23,[76,39],0),
  (55,(Rkl183,[],Rkf1),606242,Rkc23,[41],0),
  (57,(Rkl182,[Rke166],Rkf1),606280,Rkc2,[48],0),
  (57,(Rkl183,[Rke167],Rkf1),606241,Rkc23,[48,42],0),
  (60,(Rkl184,[],Rkf1),606240,Rkc23,[43],0),
  (62,(Rkl184,[Rke168],Rkf1),606239,Rkc23,[44],43),
  (65,(Rkl184,[Rke5],Rkf1),606238,Rkc23,[46],0),
  (67,(Rkl185,[Rke133,Rke5],Rkf1),606281,Rkc2,[47],43),
  (67,(Rkl184,[Rke169,Rke5],Rkf1),606237,Rkc23,[47],43),
  (70,(Rkl184,[Rke5,Rke5],Rkf1),606236,Rkc23,[74,48],0),
  (73,(Rkl183,[],Rkf1),606235,Rkc23,[49],0),
  (74,(Rkl183,[Rke13],Rkf1),606234,Rkc23,[50],0),
  (75,(Rkl183,[Rke73,Rke13],Rkf1),606233,Rkc23,[51],0),
  (77,(Rkl183,[Rke82,Rke73,Rke13],Rkf1),606232,Rkc23,[52],0),
  (78,(Rkl183,[Rke13,Rke82,Rke73,Rke13],Rkf1),606231,Rkc23,[53],0),
  (81,(Rkl183,[Rke45,Rke82,Rke73,Rke13],Rkf1),606230,Rkc23,[54],0),
  (82,(Rkl183,[Rke19,Rke45,Rke82,Rke73,Rke13],Rkf1),606229,Rkc23,[55],0),
  (83,(Rkl183,[Rke46,Rke82,Rke73,Rke13],Rkf1),606228,Rkc23,[57],0),
  (85,(Rkl182,[Rke107,Rke46,Rke82,Rke73,Rke13],Rkf1),606282,Rkc2,[58],0),
  (85,(Rkl183,[Rke168,Rke46,Rke82,Rke73,Rke13],Rkf1),606227,Rkc23,[58],0),
  (86,(Rkl183,[Rke5,Rke82,Rke73,Rke13],Rkf1),606226,Rkc23,[59],0),
  (87,(Rkl183,[Rke21,Rke5,Rke82,Rke73,Rke13],Rkf1),606225,Rkc23,[60],36),
  (90,(Rkl183,[],Rkf1),606224,Rkc23,[61],0),
  (91,(Rkl183,[Rke13],Rkf1),606223,Rkc23,[62],0),
  (92,(Rkl183,[Rke149,Rke13],Rkf1),606222,Rkc23,[63],37),
  (95,(Rkl183,[Rke148],Rkf1),606221,Rkc23,[64],0)]
def CNR45_1 : List ND := [(96,(Rkl183,[Rke43,Rke148],Rkf1),606220,Rkc23,[66,65],23),
  (99,(Rkl183,[Rke21],Rkf1),606219,Rkc23,[70],0),
  (99,(Rkl183,[Rke19],Rkf1),606217,Rkc23,[67],0),
  (102,(Rkl183,[],Rkf1),606216,Rkc23,[69],0),
  (104,(Rkl182,[Rke166],Rkf1),606284,Rkc2,[71],0),
  (104,(Rkl183,[Rke167],Rkf1),606215,Rkc23,[73],0),
  (107,(Rkl183,[],Rkf1),606218,Rkc23,[73],0),
  (109,(Rkl182,[Rke166],Rkf1),606283,Rkc2,[74],0),
  (109,(Rkl182,[Rke107],Rkf1),606285,Rkc2,[74],0),
  (109,(Rkl183,[Rke164],Rkf1),606214,Rkc23,[74],0),
  (111,(Rkl183,[],Rkf1),606213,Rkc23,[75],0),
  (114,(Rkl186,[],Rkf1),606249,Rkc23,[28],0),
  (117,(Rkl186,[],Rkf1),4,Rkc2,[77],0),
  (119,(Rkl186,[Rke167],Rkf1),3,Rkc2,[],0)]
def CNR45 : List (List ND) := [CNR45_0, CNR45_1]
theorem CKR45 : chkS prot SMsR SMR45 [] CNR45 = true := by decide +kernel
