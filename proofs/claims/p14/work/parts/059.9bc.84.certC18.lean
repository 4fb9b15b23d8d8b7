/-! LM, by program: certificates C 18 -/
-- OneSided$Quarter.aheadIn [(32, 32), (0, 3), (0, 48), (-2147483648, 2147483647)]
def Ckl2601 : AL := [some Cka121,some Cka80,some Cka365,some Cka34]
def Ckl2602 : AL := [some Cka121,some Cka80,some Cka366,some Cka34]
def CNC305_0 : List ND := [(0,(Ckl2601,[],[]),18,Ckc7,[1],0),
  (1,(Ckl2601,[Cke901],[]),17,Ckc7,[2],0),
  (3,(Ckl2601,[Cke144,Cke901],[]),16,Ckc7,[16,3],0),
  (6,(Ckl782,[],[]),15,Ckc7,[4],0),
  (7,(Ckl782,[Cke193],[]),14,Ckc7,[5],0),
  (10,(Ckl782,[Cke266],[]),13,Ckc7,[6],0),
  (11,(Ckl782,[Cke248,Cke266],[]),12,Ckc7,[7],0),
  (13,(Ckl782,[Cke144,Cke248,Cke266],[]),11,Ckc7,[8],0),
  (14,(Ckl782,[Cke255,Cke266],[]),10,Ckc7,[9],0),
  (15,(Ckl782,[Cke249,Cke255,Cke266],[]),9,Ckc7,[10],0),
  (16,(Ckl782,[Cke256,Cke266],[]),8,Ckc7,[11],0),
  (17,(Ckl782,[Cke184],[]),7,Ckc7,[12],0),
  (18,(Ckl782,[Cke210,Cke184],[]),6,Ckc7,[13],0),
  (19,(Ckl782,[Cke51,Cke210,Cke184],[]),5,Ckc7,[14],0),
  (20,(Ckl782,[Cke184,Cke184],[]),4,Ckc7,[15],0),
  (21,(Ckl782,[Cke184],[]),3,Ckc7,[18],0),
  (24,(Ckl2602,[],[]),1,Ckc7,[17],0),
  (25,(Ckl2602,[Cke7],[]),0,Ckc7,[],0),
  (25,(Ckl782,[Cke184],[]),2,Ckc7,[],0)]
def CNC305 : List (List ND) := [CNC305_0]
theorem CKC305 : chkS prot SMsC SMC305 [] CNC305 = true := by decide +kernel
-- OneSided$Quarter.backIn [(32, 32), (0, 3), (0, 48), (-2147483648, 2147483647)]
def CNC306_0 : List ND := [(0,(Ckl2601,[],[]),18,Ckc7,[1],0),
  (1,(Ckl2601,[Cke901],[]),17,Ckc7,[2],0),
  (3,(Ckl2601,[Cke144,Cke901],[]),16,Ckc7,[16,3],0),
  (6,(Ckl782,[],[]),15,Ckc7,[4],0),
  (7,(Ckl782,[Cke193],[]),14,Ckc7,[5],0),
  (10,(Ckl782,[Cke267],[]),13,Ckc7,[6],0),
  (11,(Ckl782,[Cke248,Cke267],[]),12,Ckc7,[7],0),
  (13,(Ckl782,[Cke144,Cke248,Cke267],[]),11,Ckc7,[8],0),
  (14,(Ckl782,[Cke255,Cke267],[]),10,Ckc7,[9],0),
  (15,(Ckl782,[Cke249,Cke255,Cke267],[]),9,Ckc7,[10],0),
  (16,(Ckl782,[Cke256,Cke267],[]),8,Ckc7,[11],0),
  (17,(Ckl782,[Cke184],[]),7,Ckc7,[12],0),
  (18,(Ckl782,[Cke210,Cke184],[]),6,Ckc7,[13],0),
  (19,(Ckl782,[Cke51,Cke210,Cke184],[]),5,Ckc7,[14],0),
  (20,(Ckl782,[Cke184,Cke184],[]),4,Ckc7,[15],0),
  (21,(Ckl782,[Cke184],[]),3,Ckc7,[18],0),
  (24,(Ckl2602,[],[]),1,Ckc7,[17],0),
  (25,(Ckl2602,[Cke7],[]),0,Ckc7,[],0),
  (25,(Ckl782,[Cke184],[]),2,Ckc7,[],0)]
def CNC306 : List (List ND) := [CNC306_0]
theorem CKC306 : chkS prot SMsC SMC306 [] CNC306 = true := by decide +kernel
-- OneSided$Quarter.into [(32, 32), (0, 13), (0, 3), (0, 9), (0, 48), (-2147483648, 2147483647)]
def Ckl2603 : AL := [some Cka121,some Cka62,some Cka80,some Cka77,some Cka365,some Cka34,none]
def Ckl2604 : AL := [some Cka121,some Cka62,some Cka80,some Cka77,some Cka365,some Cka34,some Cka123]
def CNC307_0 : List ND := [(0,(Ckl2603,[],[]),40,Ckc16,[1],0),
  (1,(Ckl2603,[Cke193],[]),39,Ckc16,[2],0),
  (4,(Ckl2603,[Cke195],[]),38,Ckc16,[3],0),
  (5,(Ckl2603,[Cke237,Cke195],[]),37,Ckc16,[4],0),
  (6,(Ckl2603,[Cke196],[]),36,Ckc16,[5],0),
  (8,(Ckl2604,[],[]),35,Ckc16,[6],0),
  (10,(Ckl2604,[Cke264],[]),34,Ckc16,[7],0),
  (13,(Ckl2604,[Cke97],[]),33,Ckc16,[8],0),
  (14,(Ckl2604,[Cke98,Cke97],[]),32,Ckc16,[22,9],0),
  (17,(Ckl2604,[],[]),31,Ckc16,[10],0),
  (18,(Ckl2604,[Cke193],[]),30,Ckc16,[11],0),
  (19,(Ckl2604,[Cke108,Cke193],[]),29,Ckc16,[12],0),
  (21,(Ckl2604,[Cke902,Cke108,Cke193],[]),28,Ckc16,[13],0),
  (23,(Ckl2604,[Cke311,Cke902,Cke108,Cke193],[]),27,Ckc16,[14],305),
  (26,(Ckl2604,[Cke184],[]),26,Ckc16,[15],0),
  (27,(Ckl2604,[Cke237,Cke184],[]),25,Ckc16,[16],0),
  (28,(Ckl2604,[Cke184],[]),24,Ckc16,[17],0),
  (29,(Ckl2604,[Cke6,Cke184],[]),23,Ckc16,[18],0),
  (30,(Ckl2604,[Cke242],[]),22,Ckc16,[22,19],0),
  (33,(Ckl2604,[],[]),2,Ckc16,[20],0),
  (35,(Ckl2604,[Cke264],[]),1,Ckc16,[21],0),
  (38,(Ckl2604,[Cke97],[]),0,Ckc16,[],0),
  (39,(Ckl2604,[],[]),21,Ckc16,[23],0),
  (41,(Ckl2604,[Cke264],[]),20,Ckc16,[24],0),
  (44,(Ckl2604,[Cke97],[]),19,Ckc16,[25],0),
  (45,(Ckl2604,[Cke98,Cke97],[]),18,Ckc16,[39,26],0),
  (48,(Ckl2604,[],[]),17,Ckc16,[27],0),
  (49,(Ckl2604,[Cke193],[]),16,Ckc16,[28],0),
  (50,(Ckl2604,[Cke108,Cke193],[]),15,Ckc16,[29],0),
  (52,(Ckl2604,[Cke902,Cke108,Cke193],[]),14,Ckc16,[30],0),
  (54,(Ckl2604,[Cke311,Cke902,Cke108,Cke193],[]),13,Ckc16,[31],306),
  (57,(Ckl2604,[Cke184],[]),12,Ckc16,[32],0),
  (58,(Ckl2604,[Cke237,Cke184],[]),11,Ckc16,[33],0),
  (59,(Ckl2604,[Cke184],[]),10,Ckc16,[34],0),
  (60,(Ckl2604,[Cke6,Cke184],[]),9,Ckc16,[35],0),
  (61,(Ckl2604,[Cke242],[]),8,Ckc16,[39,36],0),
  (64,(Ckl2604,[],[]),5,Ckc16,[37],0),
  (66,(Ckl2604,[Cke264],[]),4,Ckc16,[38],0),
  (69,(Ckl2604,[Cke97],[]),3,Ckc16,[],0),
  (70,(Ckl2604,[],[]),7,Ckc16,[40],0),
  (71,(Ckl2604,[Cke51],[]),6,Ckc16,[],0)]
def CNC307 : List (List ND) := [CNC307_0]
theorem CKC307 : chkS prot SMsC SMC307 [] CNC307 = true := by decide +kernel
-- OneSided$Scene.copy [(103, 103), (60, 60)]
def Cka367 : AV := (2,103,103,0)
def Ckl2605 : AL := [some Cka367,some Cka157]
def Cke903 : SE := (Cka367,(1,0,0,0,0))
def Cka368 : AV := (2,104,104,0)
def Cke904 : SE := (Cka368,(2,103,4,0,0))
def Cka369 : AV := (2,105,105,0)
def Cke905 : SE := (Cka369,(2,103,5,0,0))
def CNC308_0 : List ND := [(0,(Ckl2605,[],[]),32,Ckc0,[1],0),
  (1,(Ckl2605,[Cke903],[]),31,Ckc0,[2],0),
  (2,(Ckl2605,[Cke315,Cke903],[]),30,Ckc0,[3],0),
  (5,(Ckl2605,[Cke316,Cke903],[]),29,Ckc0,[4],0),
  (8,(Ckl2605,[],[]),28,Ckc0,[5],0),
  (9,(Ckl2605,[Cke903],[]),27,Ckc0,[6],0),
  (10,(Ckl2605,[Cke315,Cke903],[]),26,Ckc0,[7],0),
  (13,(Ckl2605,[Cke303,Cke903],[]),25,Ckc0,[8],0),
  (16,(Ckl2605,[],[]),24,Ckc0,[9],0),
  (17,(Ckl2605,[Cke903],[]),23,Ckc0,[10],0),
  (18,(Ckl2605,[Cke315,Cke903],[]),22,Ckc0,[11],0),
  (21,(Ckl2605,[Cke307,Cke903],[]),21,Ckc0,[12],0),
  (24,(Ckl2605,[],[]),20,Ckc0,[13],0),
  (25,(Ckl2605,[Cke903],[]),19,Ckc0,[14],0),
  (26,(Ckl2605,[Cke315,Cke903],[]),18,Ckc0,[15],0),
  (29,(Ckl2605,[Cke306,Cke903],[]),17,Ckc0,[16],0),
  (32,(Ckl2605,[],[]),16,Ckc0,[17],0),
  (33,(Ckl2605,[Cke315],[]),15,Ckc0,[18],0),
  (36,(Ckl2605,[Cke277],[]),14,Ckc0,[19],0),
  (37,(Ckl2605,[Cke7,Cke277],[]),13,Ckc0,[20],0),
  (38,(Ckl2605,[Cke903,Cke7,Cke277],[]),12,Ckc0,[21],0),
  (41,(Ckl2605,[Cke904,Cke7,Cke277],[]),11,Ckc0,[22],0),
  (42,(Ckl2605,[Cke7,Cke904,Cke7,Cke277],[]),10,Ckc0,[23],0),
  (44,(Ckl2605,[Cke147,Cke7,Cke904,Cke7,Cke277],[]),9,Ckc0,[24],0),
  (47,(Ckl2605,[],[]),8,Ckc0,[25],0),
  (48,(Ckl2605,[Cke315],[]),7,Ckc0,[26],0),
  (51,(Ckl2605,[Cke272],[]),6,Ckc0,[27],0),
  (52,(Ckl2605,[Cke7,Cke272],[]),5,Ckc0,[28],0),
  (53,(Ckl2605,[Cke903,Cke7,Cke272],[]),4,Ckc0,[29],0),
  (56,(Ckl2605,[Cke905,Cke7,Cke272],[]),3,Ckc0,[30],0),
  (57,(Ckl2605,[Cke7,Cke905,Cke7,Cke272],[]),2,Ckc0,[31],0),
  (59,(Ckl2605,[Cke136,Cke7,Cke905,Cke7,Cke272],[]),1,Ckc0,[32],0),
  (62,(Ckl2605,[],[]),0,Ckc0,[],0)]
def CNC308 : List (List ND) := [CNC308_0]
theorem CKC308 : chkS prot SMsC SMC308 [] CNC308 = true := by decide +kernel
-- OneSided$Scene.copy [(60, 60), (103, 103)]
def Ckl2606 : AL := [some Cka157,some Cka367]
def Cke906 : SE := (Cka367,(1,1,0,0,0))
def Cke907 : SE := (Cka143,(2,103,0,0,0))
def Cke908 : SE := (Cka34,(2,103,1,0,0))
def Cke909 : SE := (Cka34,(2,103,2,0,0))
def Cke910 : SE := (Cka34,(2,103,3,0,0))
def CNC309_0 : List ND := [(0,(Ckl2606,[],[]),32,Ckc0,[1],0),
  (1,(Ckl2606,[Cke271],[]),31,Ckc0,[2],0),
  (2,(Ckl2606,[Cke906,Cke271],[]),30,Ckc0,[3],0),
  (5,(Ckl2606,[Cke907,Cke271],[]),29,Ckc0,[4],0),
  (8,(Ckl2606,[],[]),28,Ckc0,[5],0),
  (9,(Ckl2606,[Cke271],[]),27,Ckc0,[6],0),
  (10,(Ckl2606,[Cke906,Cke271],[]),26,Ckc0,[7],0),
  (13,(Ckl2606,[Cke908,Cke271],[]),25,Ckc0,[8],0),
  (16,(Ckl2606,[],[]),24,Ckc0,[9],0),
  (17,(Ckl2606,[Cke271],[]),23,Ckc0,[10],0),
  (18,(Ckl2606,[Cke906,Cke271],[]),22,Ckc0,[11],0),
  (21,(Ckl2606,[Cke909,Cke271],[]),21,Ckc0,[12],0),
  (24,(Ckl2606,[],[]),20,Ckc0,[13],0),
  (25,(Ckl2606,[Cke271],[]),19,Ckc0,[14],0),
  (26,(Ckl2606,[Cke906,Cke271],[]),18,Ckc0,[15],0),
  (29,(Ckl2606,[Cke910,Cke271],[]),17,Ckc0,[16],0),
  (32,(Ckl2606,[],[]),16,Ckc0,[17],0),
  (33,(Ckl2606,[Cke906],[]),15,Ckc0,[18],0),
  (36,(Ckl2606,[Cke904],[]),14,Ckc0,[19],0),
  (37,(Ckl2606,[Cke7,Cke904],[]),13,Ckc0,[20],0),
  (38,(Ckl2606,[Cke271,Cke7,Cke904],[]),12,Ckc0,[21],0),
  (41,(Ckl2606,[Cke277,Cke7,Cke904],[]),11,Ckc0,[22],0),
  (42,(Ckl2606,[Cke7,Cke277,Cke7,Cke904],[]),10,Ckc0,[23],0),
  (44,(Ckl2606,[Cke147,Cke7,Cke277,Cke7,Cke904],[]),9,Ckc0,[24],0),
  (47,(Ckl2606,[],[]),8,Ckc0,[25],0),
  (48,(Ckl2606,[Cke906],[]),7,Ckc0,[26],0),
  (51,(Ckl2606,[Cke905],[]),6,Ckc0,[27],0),
  (52,(Ckl2606,[Cke7,Cke905],[]),5,Ckc0,[28],0),
  (53,(Ckl2606,[Cke271,Cke7,Cke905],[]),4,Ckc0,[29],0),
  (56,(Ckl2606,[Cke272,Cke7,Cke905],[]),3,Ckc0,[30],0),
  (57,(Ckl2606,[Cke7,Cke272,Cke7,Cke905],[]),2,Ckc0,[31],0),
  (59,(Ckl2606,[Cke136,Cke7,Cke272,Cke7,Cke905],[]),1,Ckc0,[32],0),
  (62,(Ckl2606,[],[]),0,Ckc0,[],0)]
def CNC309 : List (List ND) := [CNC309_0]
theorem CKC309 : chkS prot SMsC SMC309 [] CNC309 = true := by decide +kernel
-- OneSided$Scene.copy [(111, 111), (60, 60)]
def Cka370 : AV := (2,111,111,0)
def Ckl2607 : AL := [some Cka370,some Cka157]
def Cke911 : SE := (Cka370,(1,0,0,0,0))
def Cka371 : AV := (2,112,112,0)
def Cke912 : SE := (Cka371,(2,111,4,0,0))
def Cka372 : AV := (2,113,113,0)
def Cke913 : SE := (Cka372,(2,111,5,0,0))
def CNC310_0 : List ND := [(0,(Ckl2607,[],[]),32,Ckc0,[1],0),
  (1,(Ckl2607,[Cke911],[]),31,Ckc0,[2],0),
  (2,(Ckl2607,[Cke315,Cke911],[]),30,Ckc0,[3],0),
  (5,(Ckl2607,[Cke316,Cke911],[]),29,Ckc0,[4],0),
  (8,(Ckl2607,[],[]),28,Ckc0,[5],0),
  (9,(Ckl2607,[Cke911],[]),27,Ckc0,[6],0),
  (10,(Ckl2607,[Cke315,Cke911],[]),26,Ckc0,[7],0),
  (13,(Ckl2607,[Cke303,Cke911],[]),25,Ckc0,[8],0),
  (16,(Ckl2607,[],[]),24,Ckc0,[9],0),
  (17,(Ckl2607,[Cke911],[]),23,Ckc0,[10],0),
  (18,(Ckl2607,[Cke315,Cke911],[]),22,Ckc0,[11],0),
  (21,(Ckl2607,[Cke307,Cke911],[]),21,Ckc0,[12],0),
  (24,(Ckl2607,[],[]),20,Ckc0,[13],0),
  (25,(Ckl2607,[Cke911],[]),19,Ckc0,[14],0),
  (26,(Ckl2607,[Cke315,Cke911],[]),18,Ckc0,[15],0),
  (29,(Ckl2607,[Cke306,Cke911],[]),17,Ckc0,[16],0),
  (32,(Ckl2607,[],[]),16,Ckc0,[17],0),
  (33,(Ckl2607,[Cke315],[]),15,Ckc0,[18],0),
  (36,(Ckl2607,[Cke277],[]),14,Ckc0,[19],0),
  (37,(Ckl2607,[Cke7,Cke277],[]),13,Ckc0,[20],0),
  (38,(Ckl2607,[Cke911,Cke7,Cke277],[]),12,Ckc0,[21],0),
  (41,(Ckl2607,[Cke912,Cke7,Cke277],[]),11,Ckc0,[22],0),
  (42,(Ckl2607,[Cke7,Cke912,Cke7,Cke277],[]),10,Ckc0,[23],0),
  (44,(Ckl2607,[Cke147,Cke7,Cke912,Cke7,Cke277],[]),9,Ckc0,[24],0),
  (47,(Ckl2607,[],[]),8,Ckc0,[25],0),
  (48,(Ckl2607,[Cke315],[]),7,Ckc0,[26],0),
  (51,(Ckl2607,[Cke272],[]),6,Ckc0,[27],0),
  (52,(Ckl2607,[Cke7,Cke272],[]),5,Ckc0,[28],0),
  (53,(Ckl2607,[Cke911,Cke7,Cke272],[]),4,Ckc0,[29],0),
  (56,(Ckl2607,[Cke913,Cke7,Cke272],[]),3,Ckc0,[30],0),
  (57,(Ckl2607,[Cke7,Cke913,Cke7,Cke272],[]),2,Ckc0,[31],0),
  (59,(Ckl2607,[Cke136,Cke7,Cke913,Cke7,Cke272],[]),1,Ckc0,[32],0),
  (62,(Ckl2607,[],[]),0,Ckc0,[],0)]
def CNC310 : List (List ND) := [CNC310_0]
theorem CKC310 : chkS prot SMsC SMC310 [] CNC310 = true := by decide +kernel
-- OneSided$Scene.copy [(60, 60), (111, 111)]
def Ckl2608 : AL := [some Cka157,some Cka370]
def Cke914 : SE := (Cka370,(1,1,0,0,0))
def Cke915 : SE := (Cka143,(2,111,0,0,0))
def Cke916 : SE := (Cka34,(2,111,1,0,0))
def Cke917 : SE := (Cka34,(2,111,2,0,0))
def Cke918 : SE := (Cka34,(2,111,3,0,0))
def CNC311_0 : List ND := [(0,(Ckl2608,[],[]),32,Ckc0,[1],0),
  (1,(Ckl2608,[Cke271],[]),31,Ckc0,[2],0),
  (2,(Ckl2608,[Cke914,Cke271],[]),30,Ckc0,[3],0),
  (5,(Ckl2608,[Cke915,Cke271],[]),29,Ckc0,[4],0),
  (8,(Ckl2608,[],[]),28,Ckc0,[5],0),
  (9,(Ckl2608,[Cke271],[]),27,Ckc0,[6],0),
  (10,(Ckl2608,[Cke914,Cke271],[]),26,Ckc0,[7],0),
  (13,(Ckl2608,[Cke916,Cke271],[]),25,Ckc0,[8],0),
  (16,(Ckl2608,[],[]),24,Ckc0,[9],0),
  (17,(Ckl2608,[Cke271],[]),23,Ckc0,[10],0),
  (18,(Ckl2608,[Cke914,Cke271],[]),22,Ckc0,[11],0),
  (21,(Ckl2608,[Cke917,Cke271],[]),21,Ckc0,[12],0),
  (24,(Ckl2608,[],[]),20,Ckc0,[13],0),
  (25,(Ckl2608,[Cke271],[]),19,Ckc0,[14],0),
  (26,(Ckl2608,[Cke914,Cke271],[]),18,Ckc0,[15],0),
  (29,(Ckl2608,[Cke918,Cke271],[]),17,Ckc0,[16],0),
  (32,(Ckl2608,[],[]),16,Ckc0,[17],0),
  (33,(Ckl2608,[Cke914],[]),15,Ckc0,[18],0),
  (36,(Ckl2608,[Cke912],[]),14,Ckc0,[19],0),
  (37,(Ckl2608,[Cke7,Cke912],[]),13,Ckc0,[20],0),
  (38,(Ckl2608,[Cke271,Cke7,Cke912],[]),12,Ckc0,[21],0),
  (41,(Ckl2608,[Cke277,Cke7,Cke912],[]),11,Ckc0,[22],0),
  (42,(Ckl2608,[Cke7,Cke277,Cke7,Cke912],[]),10,Ckc0,[23],0),
  (44,(Ckl2608,[Cke147,Cke7,Cke277,Cke7,Cke912],[]),9,Ckc0,[24],0),
  (47,(Ckl2608,[],[]),8,Ckc0,[25],0),
  (48,(Ckl2608,[Cke914],[]),7,Ckc0,[26],0),
  (51,(Ckl2608,[Cke913],[]),6,Ckc0,[27],0),
  (52,(Ckl2608,[Cke7,Cke913],[]),5,Ckc0,[28],0),
  (53,(Ckl2608,[Cke271,Cke7,Cke913],[]),4,Ckc0,[29],0),
  (56,(Ckl2608,[Cke272,Cke7,Cke913],[]),3,Ckc0,[30],0),
  (57,(Ckl2608,[Cke7,Cke272,Cke7,Cke913],[]),2,Ckc0,[31],0),
  (59,(Ckl2608,[Cke136,Cke7,Cke272,Cke7,Cke913],[]),1,Ckc0,[32],0),
  (62,(Ckl2608,[],[]),0,Ckc0,[],0)]
def CNC311 : List (List ND) := [CNC311_0]
theorem CKC311 : chkS prot SMsC SMC311 [] CNC311 = true := by decide +kernel
-- OneSided$Scene.copy [(119, 119), (60, 60)]
def Cka373 : AV := (2,119,119,0)
def Ckl2609 : AL := [some Cka373,some Cka157]
def Cke919 : SE := (Cka373,(1,0,0,0,0))
def Cka374 : AV := (2,120,120,0)
def Cke920 : SE := (Cka374,(2,119,4,0,0))
def Cka375 : AV := (2,121,121,0)
def Cke921 : SE := (Cka375,(2,119,5,0,0))
def CNC312_0 : List ND := [(0,(Ckl2609,[],[]),32,Ckc0,[1],0),
  (1,(Ckl2609,[Cke919],[]),31,Ckc0,[2],0),
  (2,(Ckl2609,[Cke315,Cke919],[]),30,Ckc0,[3],0),
  (5,(Ckl2609,[Cke316,Cke919],[]),29,Ckc0,[4],0),
  (8,(Ckl2609,[],[]),28,Ckc0,[5],0),
  (9,(Ckl2609,[Cke919],[]),27,Ckc0,[6],0),
  (10,(Ckl2609,[Cke315,Cke919],[]),26,Ckc0,[7],0),
  (13,(Ckl2609,[Cke303,Cke919],[]),25,Ckc0,[8],0),
  (16,(Ckl2609,[],[]),24,Ckc0,[9],0),
  (17,(Ckl2609,[Cke919],[]),23,Ckc0,[10],0),
  (18,(Ckl2609,[Cke315,Cke919],[]),22,Ckc0,[11],0),
  (21,(Ckl2609,[Cke307,Cke919],[]),21,Ckc0,[12],0),
  (24,(Ckl2609,[],[]),20,Ckc0,[13],0),
  (25,(Ckl2609,[Cke919],[]),19,Ckc0,[14],0),
  (26,(Ckl2609,[Cke315,Cke919],[]),18,Ckc0,[15],0),
  (29,(Ckl2609,[Cke306,Cke919],[]),17,Ckc0,[16],0),
  (32,(Ckl2609,[],[]),16,Ckc0,[17],0),
  (33,(Ckl2609,[Cke315],[]),15,Ckc0,[18],0),
  (36,(Ckl2609,[Cke277],[]),14,Ckc0,[19],0),
  (37,(Ckl2609,[Cke7,Cke277],[]),13,Ckc0,[20],0),
  (38,(Ckl2609,[Cke919,Cke7,Cke277],[]),12,Ckc0,[21],0),
  (41,(Ckl2609,[Cke920,Cke7,Cke277],[]),11,Ckc0,[22],0),
  (42,(Ckl2609,[Cke7,Cke920,Cke7,Cke277],[]),10,Ckc0,[23],0),
  (44,(Ckl2609,[Cke147,Cke7,Cke920,Cke7,Cke277],[]),9,Ckc0,[24],0),
  (47,(Ckl2609,[],[]),8,Ckc0,[25],0),
  (48,(Ckl2609,[Cke315],[]),7,Ckc0,[26],0),
  (51,(Ckl2609,[Cke272],[]),6,Ckc0,[27],0),
  (52,(Ckl2609,[Cke7,Cke272],[]),5,Ckc0,[28],0),
  (53,(Ckl2609,[Cke919,Cke7,Cke272],[]),4,Ckc0,[29],0),
  (56,(Ckl2609,[Cke921,Cke7,Cke272],[]),3,Ckc0,[30],0),
  (57,(Ckl2609,[Cke7,Cke921,Cke7,Cke272],[]),2,Ckc0,[31],0),
  (59,(Ckl2609,[Cke136,Cke7,Cke921,Cke7,Cke272],[]),1,Ckc0,[32],0),
  (62,(Ckl2609,[],[]),0,Ckc0,[],0)]
def CNC312 : List (List ND) := [CNC312_0]
theorem CKC312 : chkS prot SMsC SMC312 [] CNC312 = true := by decide +kernel
-- OneSided$Scene.copy [(60, 60), (119, 119)]
def Ckl2610 : AL := [some Cka157,some Cka373]
def Cke922 : SE := (Cka373,(1,1,0,0,0))
def Cke923 : SE := (Cka143,(2,119,0,0,0))
def Cke924 : SE := (Cka34,(2,119,1,0,0))
def Cke925 : SE := (Cka34,(2,119,2,0,0))
def Cke926 : SE := (Cka34,(2,119,3,0,0))
def CNC313_0 : List ND := [(0,(Ckl2610,[],[]),32,Ckc0,[1],0),
  (1,(Ckl2610,[Cke271],[]),31,Ckc0,[2],0),
  (2,(Ckl2610,[Cke922,Cke271],[]),30,Ckc0,[3],0),
  (5,(Ckl2610,[Cke923,Cke271],[]),29,Ckc0,[4],0),
  (8,(Ckl2610,[],[]),28,Ckc0,[5],0),
  (9,(Ckl2610,[Cke271],[]),27,Ckc0,[6],0),
  (10,(Ckl2610,[Cke922,Cke271],[]),26,Ckc0,[7],0),
  (13,(Ckl2610,[Cke924,Cke271],[]),25,Ckc0,[8],0),
  (16,(Ckl2610,[],[]),24,Ckc0,[9],0),
  (17,(Ckl2610,[Cke271],[]),23,Ckc0,[10],0),
  (18,(Ckl2610,[Cke922,Cke271],[]),22,Ckc0,[11],0),
  (21,(Ckl2610,[Cke925,Cke271],[]),21,Ckc0,[12],0),
  (24,(Ckl2610,[],[]),20,Ckc0,[13],0),
  (25,(Ckl2610,[Cke271],[]),19,Ckc0,[14],0),
  (26,(Ckl2610,[Cke922,Cke271],[]),18,Ckc0,[15],0),
  (29,(Ckl2610,[Cke926,Cke271],[]),17,Ckc0,[16],0),
  (32,(Ckl2610,[],[]),16,Ckc0,[17],0),
  (33,(Ckl2610,[Cke922],[]),15,Ckc0,[18],0),
  (36,(Ckl2610,[Cke920],[]),14,Ckc0,[19],0),
  (37,(Ckl2610,[Cke7,Cke920],[]),13,Ckc0,[20],0),
  (38,(Ckl2610,[Cke271,Cke7,Cke920],[]),12,Ckc0,[21],0),
  (41,(Ckl2610,[Cke277,Cke7,Cke920],[]),11,Ckc0,[22],0),
  (42,(Ckl2610,[Cke7,Cke277,Cke7,Cke920],[]),10,Ckc0,[23],0),
  (44,(Ckl2610,[Cke147,Cke7,Cke277,Cke7,Cke920],[]),9,Ckc0,[24],0),
  (47,(Ckl2610,[],[]),8,Ckc0,[25],0),
  (48,(Ckl2610,[Cke922],[]),7,Ckc0,[26],0),
  (51,(Ckl2610,[Cke921],[]),6,Ckc0,[27],0),
  (52,(Ckl2610,[Cke7,Cke921],[]),5,Ckc0,[28],0),
  (53,(Ckl2610,[Cke271,Cke7,Cke921],[]),4,Ckc0,[29],0),
  (56,(Ckl2610,[Cke272,Cke7,Cke921],[]),3,Ckc0,[30],0),
  (57,(Ckl2610,[Cke7,Cke272,Cke7,Cke921],[]),2,Ckc0,[31],0),
  (59,(Ckl2610,[Cke136,Cke7,Cke272,Cke7,Cke921],[]),1,Ckc0,[32],0),
  (62,(Ckl2610,[],[]),0,Ckc0,[],0)]
def CNC313 : List (List ND) := [CNC313_0]
theorem CKC313 : chkS prot SMsC SMC313 [] CNC313 = true := by decide +kernel
-- OneSided$Scene.copy [(127, 127), (60, 60)]
def Cka376 : AV := (2,127,127,0)
def Ckl2611 : AL := [some Cka376,some Cka157]
def Cke927 : SE := (Cka376,(1,0,0,0,0))
def Cka377 : AV := (2,128,128,0)
def Cke928 : SE := (Cka377,(2,127,4,0,0))
def Cka378 : AV := (2,129,129,0)
def Cke929 : SE := (Cka378,(2,127,5,0,0))
def CNC314_0 : List ND := [(0,(Ckl2611,[],[]),32,Ckc0,[1],0),
  (1,(Ckl2611,[Cke927],[]),31,Ckc0,[2],0),
  (2,(Ckl2611,[Cke315,Cke927],[]),30,Ckc0,[3],0),
  (5,(Ckl2611,[Cke316,Cke927],[]),29,Ckc0,[4],0),
  (8,(Ckl2611,[],[]),28,Ckc0,[5],0),
  (9,(Ckl2611,[Cke927],[]),27,Ckc0,[6],0),
  (10,(Ckl2611,[Cke315,Cke927],[]),26,Ckc0,[7],0),
  (13,(Ckl2611,[Cke303,Cke927],[]),25,Ckc0,[8],0),
  (16,(Ckl2611,[],[]),24,Ckc0,[9],0),
  (17,(Ckl2611,[Cke927],[]),23,Ckc0,[10],0),
  (18,(Ckl2611,[Cke315,Cke927],[]),22,Ckc0,[11],0),
  (21,(Ckl2611,[Cke307,Cke927],[]),21,Ckc0,[12],0),
  (24,(Ckl2611,[],[]),20,Ckc0,[13],0),
  (25,(Ckl2611,[Cke927],[]),19,Ckc0,[14],0),
  (26,(Ckl2611,[Cke315,Cke927],[]),18,Ckc0,[15],0),
  (29,(Ckl2611,[Cke306,Cke927],[]),17,Ckc0,[16],0),
  (32,(Ckl2611,[],[]),16,Ckc0,[17],0),
  (33,(Ckl2611,[Cke315],[]),15,Ckc0,[18],0),
  (36,(Ckl2611,[Cke277],[]),14,Ckc0,[19],0),
  (37,(Ckl2611,[Cke7,Cke277],[]),13,Ckc0,[20],0),
  (38,(Ckl2611,[Cke927,Cke7,Cke277],[]),12,Ckc0,[21],0),
  (41,(Ckl2611,[Cke928,Cke7,Cke277],[]),11,Ckc0,[22],0),
  (42,(Ckl2611,[Cke7,Cke928,Cke7,Cke277],[]),10,Ckc0,[23],0),
  (44,(Ckl2611,[Cke147,Cke7,Cke928,Cke7,Cke277],[]),9,Ckc0,[24],0),
  (47,(Ckl2611,[],[]),8,Ckc0,[25],0),
  (48,(Ckl2611,[Cke315],[]),7,Ckc0,[26],0),
  (51,(Ckl2611,[Cke272],[]),6,Ckc0,[27],0),
  (52,(Ckl2611,[Cke7,Cke272],[]),5,Ckc0,[28],0),
  (53,(Ckl2611,[Cke927,Cke7,Cke272],[]),4,Ckc0,[29],0),
  (56,(Ckl2611,[Cke929,Cke7,Cke272],[]),3,Ckc0,[30],0),
  (57,(Ckl2611,[Cke7,Cke929,Cke7,Cke272],[]),2,Ckc0,[31],0),
  (59,(Ckl2611,[Cke136,Cke7,Cke929,Cke7,Cke272],[]),1,Ckc0,[32],0),
  (62,(Ckl2611,[],[]),0,Ckc0,[],0)]
def CNC314 : List (List ND) := [CNC314_0]
theorem CKC314 : chkS prot SMsC SMC314 [] CNC314 = true := by decide +kernel
-- OneSided$Scene.copy [(60, 60), (127, 127)]
def Ckl2612 : AL := [some Cka157,some Cka376]
def Cke930 : SE := (Cka376,(1,1,0,0,0))
def Cke931 : SE := (Cka143,(2,127,0,0,0))
def Cke932 : SE := (Cka34,(2,127,1,0,0))
def Cke933 : SE := (Cka34,(2,127,2,0,0))
def Cke934 : SE := (Cka34,(2,127,3,0,0))
def CNC315_0 : List ND := [(0,(Ckl2612,[],[]),32,Ckc0,[1],0),
  (1,(Ckl2612,[Cke271],[]),31,Ckc0,[2],0),
  (2,(Ckl2612,[Cke930,Cke271],[]),30,Ckc0,[3],0),
  (5,(Ckl2612,[Cke931,Cke271],[]),29,Ckc0,[4],0),
  (8,(Ckl2612,[],[]),28,Ckc0,[5],0),
  (9,(Ckl2612,[Cke271],[]),27,Ckc0,[6],0),
  (10,(Ckl2612,[Cke930,Cke271],[]),26,Ckc0,[7],0),
  (13,(Ckl2612,[Cke932,Cke271],[]),25,Ckc0,[8],0),
  (16,(Ckl2612,[],[]),24,Ckc0,[9],0),
  (17,(Ckl2612,[Cke271],[]),23,Ckc0,[10],0),
  (18,(Ckl2612,[Cke930,Cke271],[]),22,Ckc0,[11],0),
  (21,(Ckl2612,[Cke933,Cke271],[]),21,Ckc0,[12],0),
  (24,(Ckl2612,[],[]),20,Ckc0,[13],0),
  (25,(Ckl2612,[Cke271],[]),19,Ckc0,[14],0),
  (26,(Ckl2612,[Cke930,Cke271],[]),18,Ckc0,[15],0),
  (29,(Ckl2612,[Cke934,Cke271],[]),17,Ckc0,[16],0),
  (32,(Ckl2612,[],[]),16,Ckc0,[17],0),
  (33,(Ckl2612,[Cke930],[]),15,Ckc0,[18],0),
  (36,(Ckl2612,[Cke928],[]),14,Ckc0,[19],0),
  (37,(Ckl2612,[Cke7,Cke928],[]),13,Ckc0,[20],0),
  (38,(Ckl2612,[Cke271,Cke7,Cke928],[]),12,Ckc0,[21],0),
  (41,(Ckl2612,[Cke277,Cke7,Cke928],[]),11,Ckc0,[22],0),
  (42,(Ckl2612,[Cke7,Cke277,Cke7,Cke928],[]),10,Ckc0,[23],0),
  (44,(Ckl2612,[Cke147,Cke7,Cke277,Cke7,Cke928],[]),9,Ckc0,[24],0),
  (47,(Ckl2612,[],[]),8,Ckc0,[25],0),
  (48,(Ckl2612,[Cke930],[]),7,Ckc0,[26],0),
  (51,(Ckl2612,[Cke929],[]),6,Ckc0,[27],0),
  (52,(Ckl2612,[Cke7,Cke929],[]),5,Ckc0,[28],0),
  (53,(Ckl2612,[Cke271,Cke7,Cke929],[]),4,Ckc0,[29],0),
  (56,(Ckl2612,[Cke272,Cke7,Cke929],[]),3,Ckc0,[30],0),
  (57,(Ckl2612,[Cke7,Cke272,Cke7,Cke929],[]),2,Ckc0,[31],0),
  (59,(Ckl2612,[Cke136,Cke7,Cke272,Cke7,Cke929],[]),1,Ckc0,[32],0),
  (62,(Ckl2612,[],[]),0,Ckc0,[],0)]
def CNC315 : List (List ND) := [CNC315_0]
theorem CKC315 : chkS prot SMsC SMC315 [] CNC315 = true := by decide +kernel
-- java/util/Arrays.fill [(85, 85), (0, 0)]
def Cka379 : AV := (2,85,85,0)
def Ckl2613 : AL := [some Cka379,some Cka7,none,none]
def Ckl2614 : AL := [some Cka379,some Cka7,some Cka7,none]
def Cke935 : SE := (Cka379,(1,0,0,0,0))
def Cka380 : AV := (0,336,336,0)
def Cke936 : SE := (Cka380,pv0)
def Cka381 : AV := (0,0,336,1)
def Ckl2615 : AL := [some Cka379,some Cka7,some Cka381,some Cka380]
def Ckl2616 : AL := [some Cka379,some Cka7,some Cka7,some Cka380]
def Cke937 : SE := (Cka381,(1,2,0,0,0))
def Cke938 : SE := (Cka380,(1,3,0,0,0))
def Cka382 : AV := (0,0,335,1)
def Ckl2617 : AL := [some Cka379,some Cka7,some Cka382,some Cka380]
def Cke939 : SE := (Cka382,(1,2,0,0,0))
def Cka383 : AV := (0,1,336,1)
def Ckl2618 : AL := [some Cka379,some Cka7,some Cka383,some Cka380]
def Ckl2619 : AL := [some Cka379,some Cka7,some Cka380,some Cka380]
def CNC316_0 : List ND := [(0,(Ckl2613,[],[]),3038,Ckc7,[1],0),
  (1,(Ckl2613,[Cke7],[]),3037,Ckc7,[2],0),
  (2,(Ckl2614,[],[]),3036,Ckc7,[3],0),
  (3,(Ckl2614,[Cke935],[]),3035,Ckc7,[4],0),
  (4,(Ckl2614,[Cke936],[]),3034,Ckc7,[5],0),
  (5,(Ckl2615,[],[]),3032,Ckc20,[7],0),
  (6,(Ckl2616,[Cke23],[]),3040,Ckc7,[8],0),
  (6,(Ckl2615,[Cke937],[]),3031,Ckc20,[9],0),
  (7,(Ckl2616,[Cke938,Cke23],[]),3039,Ckc7,[10],0),
  (7,(Ckl2615,[Cke938,Cke937],[]),3030,Ckc20,[18,10],0),
  (10,(Ckl2617,[],[]),3029,Ckc20,[11],0),
  (11,(Ckl2617,[Cke935],[]),3028,Ckc20,[13],0),
  (12,(Ckl2616,[Cke23,Cke935],[]),3042,Ckc7,[14],0),
  (12,(Ckl2617,[Cke939,Cke935],[]),3027,Ckc20,[15],0),
  (13,(Ckl2616,[Cke90,Cke23,Cke935],[]),3041,Ckc7,[16],0),
  (13,(Ckl2617,[Cke90,Cke939,Cke935],[]),3026,Ckc20,[16],0),
  (14,(Ckl2617,[],[]),3025,Ckc20,[17],0),
  (17,(Ckl2618,[],[]),3033,Ckc20,[5],0),
  (20,(Ckl2619,[],[]),0,Ckc7,[],0)]
def CNC316 : List (List ND) := [CNC316_0]
theorem CKC316 : chkS prot SMsC SMC316 [] CNC316 = true := by decide +kernel
-- java/util/Arrays.fill [(86, 86), (0, 0)]
def Cka384 : AV := (2,86,86,0)
def Ckl2620 : AL := [some Cka384,some Cka7,none,none]
def Ckl2621 : AL := [some Cka384,some Cka7,some Cka7,none]
def Cke940 : SE := (Cka384,(1,0,0,0,0))
def Cka385 : AV := (0,240,240,0)
def Cke941 : SE := (Cka385,pv0)
def Ckl2622 : AL := [some Cka384,some Cka7,some Cka345,some Cka385]
def Ckl2623 : AL := [some Cka384,some Cka7,some Cka7,some Cka385]
def Cke942 : SE := (Cka345,(1,2,0,0,0))
def Cke943 : SE := (Cka385,(1,3,0,0,0))
def Cka386 : AV := (0,0,239,1)
def Ckl2624 : AL := [some Cka384,some Cka7,some Cka386,some Cka385]
def Cke944 : SE := (Cka386,(1,2,0,0,0))
def Cka387 : AV := (0,1,240,1)
def Ckl2625 : AL := [some Cka384,some Cka7,some Cka387,some Cka385]
def Cka388 : AV := (0,240,249,1)
def Ckl2626 : AL := [some Cka384,some Cka7,some Cka388,some Cka385]
def CNC317_0 : List ND := [(0,(Ckl2620,[],[]),2255,Ckc7,[1],0),
  (1,(Ckl2620,[Cke7],[]),2254,Ckc7,[2],0),
  (2,(Ckl2621,[],[]),2253,Ckc7,[3],0),
  (3,(Ckl2621,[Cke940],[]),2252,Ckc7,[4],0),
  (4,(Ckl2621,[Cke941],[]),2251,Ckc7,[5],0),
  (5,(Ckl2622,[],[]),2249,Ckc20,[7],0),
  (6,(Ckl2623,[Cke23],[]),2257,Ckc7,[8],0),
  (6,(Ckl2622,[Cke942],[]),2248,Ckc20,[9],0),
  (7,(Ckl2623,[Cke943,Cke23],[]),2256,Ckc7,[10],0),
  (7,(Ckl2622,[Cke943,Cke942],[]),2247,Ckc20,[18,10],0),
  (10,(Ckl2624,[],[]),2246,Ckc20,[11],0),
  (11,(Ckl2624,[Cke940],[]),2245,Ckc20,[13],0),
  (12,(Ckl2623,[Cke23,Cke940],[]),2259,Ckc7,[14],0),
  (12,(Ckl2624,[Cke944,Cke940],[]),2244,Ckc20,[15],0),
  (13,(Ckl2623,[Cke90,Cke23,Cke940],[]),2258,Ckc7,[16],0),
  (13,(Ckl2624,[Cke90,Cke944,Cke940],[]),2243,Ckc20,[16],0),
  (14,(Ckl2624,[],[]),2242,Ckc20,[17],0),
  (17,(Ckl2625,[],[]),2250,Ckc20,[5],0),
  (20,(Ckl2626,[],[]),0,Ckc7,[],0)]
def CNC317 : List (List ND) := [CNC317_0]
theorem CKC317 : chkS prot SMsC SMC317 [] CNC317 = true := by decide +kernel
-- java/util/Arrays.fill [(87, 87), (-1, -1)]
def Cka389 : AV := (2,87,87,0)
def Ckl2627 : AL := [some Cka389,some Cka49,none,none]
def Ckl2628 : AL := [some Cka389,some Cka49,some Cka7,none]
def Cke945 : SE := (Cka389,(1,0,0,0,0))
def Cka390 : AV := (0,250,250,0)
def Cke946 : SE := (Cka390,pv0)
def Cka391 : AV := (0,0,250,1)
def Ckl2629 : AL := [some Cka389,some Cka49,some Cka391,some Cka390]
def Ckl2630 : AL := [some Cka389,some Cka49,some Cka7,some Cka390]
def Cke947 : SE := (Cka391,(1,2,0,0,0))
def Cke948 : SE := (Cka390,(1,3,0,0,0))
def Ckl2631 : AL := [some Cka389,some Cka49,some Cka345,some Cka390]
def Cke949 : SE := (Cka49,(1,1,0,0,0))
def Cka392 : AV := (0,1,250,1)
def Ckl2632 : AL := [some Cka389,some Cka49,some Cka392,some Cka390]
def Ckl2633 : AL := [some Cka389,some Cka49,some Cka390,some Cka390]
def CNC318_0 : List ND := [(0,(Ckl2627,[],[]),2264,Ckc7,[1],0),
  (1,(Ckl2627,[Cke7],[]),2263,Ckc7,[2],0),
  (2,(Ckl2628,[],[]),2262,Ckc7,[3],0),
  (3,(Ckl2628,[Cke945],[]),2261,Ckc7,[4],0),
  (4,(Ckl2628,[Cke946],[]),2260,Ckc7,[5],0),
  (5,(Ckl2629,[],[]),2258,Ckc20,[7],0),
  (6,(Ckl2630,[Cke23],[]),2266,Ckc7,[8],0),
  (6,(Ckl2629,[Cke947],[]),2257,Ckc20,[9],0),
  (7,(Ckl2630,[Cke948,Cke23],[]),2265,Ckc7,[10],0),
  (7,(Ckl2629,[Cke948,Cke947],[]),2256,Ckc20,[18,10],0),
  (10,(Ckl2631,[],[]),2255,Ckc20,[11],0),
  (11,(Ckl2631,[Cke945],[]),2254,Ckc20,[13],0),
  (12,(Ckl2630,[Cke23,Cke945],[]),2268,Ckc7,[15],0),
  (12,(Ckl2631,[Cke942,Cke945],[]),2253,Ckc20,[14],0),
  (13,(Ckl2631,[Cke949,Cke942,Cke945],[]),2252,Ckc20,[16],0),
  (13,(Ckl2630,[Cke949,Cke23,Cke945],[]),2267,Ckc7,[16],0),
  (14,(Ckl2631,[],[]),2251,Ckc20,[17],0),
  (17,(Ckl2632,[],[]),2259,Ckc20,[5],0),
  (20,(Ckl2633,[],[]),0,Ckc7,[],0)]
def CNC318 : List (List ND) := [CNC318_0]
theorem CKC318 : chkS prot SMsC SMC318 [] CNC318 = true := by decide +kernel
