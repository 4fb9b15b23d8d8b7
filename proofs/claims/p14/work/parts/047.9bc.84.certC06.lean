/-! LM, by program: certificates C 6 -/
-- OneSided$Quarter.aheadIn [(32, 32), (0, 3), (0, 25), (-2147483648, 2147483647)]
def Ckl781 : AL := [some Cka121,some Cka80,some Cka163,some Cka34]
def Ckl782 : AL := [some Cka121,some Cka80,some Cka84,some Cka34]
def Ckl783 : AL := [some Cka121,some Cka80,some Cka164,some Cka34]
def CNC145_0 : List ND := [(0,(Ckl781,[],[]),18,Ckc7,[1],0),
  (1,(Ckl781,[Cke309],[]),17,Ckc7,[2],0),
  (3,(Ckl781,[Cke144,Cke309],[]),16,Ckc7,[16,3],0),
  (6,(Ckl782,[],[]),15,Ckc7,[4],0),
  (7,(Ckl782,[Cke193],[]),14,Ckc7,[5],0),
  (10,(Ckl782,[Cke266],[]),13,Ckc7,[6],0),
  (11,(Ckl782,[Cke248,Cke266],[]),12,Ckc7,[7],0),
  (13,(Ckl782,[Cke144,Cke248,Cke266],[]),11,Ckc7,[8],0),
  (14,(Ckl782,[Cke255,Cke266],[]),10,Ckc7,[9],0),
  (15,(Ckl782,[Cke249,Cke255,Cke266],[]),9,Ckc7,[10],0),
  (16,(Ckl782,[Cke256,Cke266],[]),8,Ckc7,[11],0),
  (17,(Ckl782,[Cke184],[]),7,Ckc7,[12],0),
  (18,(Ckl782,[Cke210,Cke184],[]),6,Ckc7,[13],0),
  (19,(Ckl782,[Cke51,Cke210,Cke184],[]),5,Ckc7,[14],0),
  (20,(Ckl782,[Cke184,Cke184],[]),4,Ckc7,[15],0),
  (21,(Ckl782,[Cke184],[]),3,Ckc7,[18],0),
  (24,(Ckl783,[],[]),1,Ckc7,[17],0),
  (25,(Ckl783,[Cke7],[]),0,Ckc7,[],0),
  (25,(Ckl782,[Cke184],[]),2,Ckc7,[],0)]
def CNC145 : List (List ND) := [CNC145_0]
theorem CKC145 : chkS prot SMsC SMC145 [] CNC145 = true := by decide +kernel
-- OneSided$Quarter.backIn [(32, 32), (0, 3), (0, 25), (-2147483648, 2147483647)]
def CNC146_0 : List ND := [(0,(Ckl781,[],[]),18,Ckc7,[1],0),
  (1,(Ckl781,[Cke309],[]),17,Ckc7,[2],0),
  (3,(Ckl781,[Cke144,Cke309],[]),16,Ckc7,[16,3],0),
  (6,(Ckl782,[],[]),15,Ckc7,[4],0),
  (7,(Ckl782,[Cke193],[]),14,Ckc7,[5],0),
  (10,(Ckl782,[Cke267],[]),13,Ckc7,[6],0),
  (11,(Ckl782,[Cke248,Cke267],[]),12,Ckc7,[7],0),
  (13,(Ckl782,[Cke144,Cke248,Cke267],[]),11,Ckc7,[8],0),
  (14,(Ckl782,[Cke255,Cke267],[]),10,Ckc7,[9],0),
  (15,(Ckl782,[Cke249,Cke255,Cke267],[]),9,Ckc7,[10],0),
  (16,(Ckl782,[Cke256,Cke267],[]),8,Ckc7,[11],0),
  (17,(Ckl782,[Cke184],[]),7,Ckc7,[12],0),
  (18,(Ckl782,[Cke210,Cke184],[]),6,Ckc7,[13],0),
  (19,(Ckl782,[Cke51,Cke210,Cke184],[]),5,Ckc7,[14],0),
  (20,(Ckl782,[Cke184,Cke184],[]),4,Ckc7,[15],0),
  (21,(Ckl782,[Cke184],[]),3,Ckc7,[18],0),
  (24,(Ckl783,[],[]),1,Ckc7,[17],0),
  (25,(Ckl783,[Cke7],[]),0,Ckc7,[],0),
  (25,(Ckl782,[Cke184],[]),2,Ckc7,[],0)]
def CNC146 : List (List ND) := [CNC146_0]
theorem CKC146 : chkS prot SMsC SMC146 [] CNC146 = true := by decide +kernel
-- OneSided$Quarter.into [(32, 32), (0, 13), (0, 3), (0, 9), (0, 25), (-2147483648, 2147483647)]
def Ckl784 : AL := [some Cka121,some Cka62,some Cka80,some Cka77,some Cka163,some Cka34,none]
def Ckl785 : AL := [some Cka121,some Cka62,some Cka80,some Cka77,some Cka163,some Cka34,some Cka123]
def CNC147_0 : List ND := [(0,(Ckl784,[],[]),40,Ckc16,[1],0),
  (1,(Ckl784,[Cke193],[]),39,Ckc16,[2],0),
  (4,(Ckl784,[Cke195],[]),38,Ckc16,[3],0),
  (5,(Ckl784,[Cke237,Cke195],[]),37,Ckc16,[4],0),
  (6,(Ckl784,[Cke196],[]),36,Ckc16,[5],0),
  (8,(Ckl785,[],[]),35,Ckc16,[6],0),
  (10,(Ckl785,[Cke264],[]),34,Ckc16,[7],0),
  (13,(Ckl785,[Cke97],[]),33,Ckc16,[8],0),
  (14,(Ckl785,[Cke98,Cke97],[]),32,Ckc16,[22,9],0),
  (17,(Ckl785,[],[]),31,Ckc16,[10],0),
  (18,(Ckl785,[Cke193],[]),30,Ckc16,[11],0),
  (19,(Ckl785,[Cke108,Cke193],[]),29,Ckc16,[12],0),
  (21,(Ckl785,[Cke310,Cke108,Cke193],[]),28,Ckc16,[13],0),
  (23,(Ckl785,[Cke311,Cke310,Cke108,Cke193],[]),27,Ckc16,[14],145),
  (26,(Ckl785,[Cke184],[]),26,Ckc16,[15],0),
  (27,(Ckl785,[Cke237,Cke184],[]),25,Ckc16,[16],0),
  (28,(Ckl785,[Cke184],[]),24,Ckc16,[17],0),
  (29,(Ckl785,[Cke6,Cke184],[]),23,Ckc16,[18],0),
  (30,(Ckl785,[Cke242],[]),22,Ckc16,[22,19],0),
  (33,(Ckl785,[],[]),2,Ckc16,[20],0),
  (35,(Ckl785,[Cke264],[]),1,Ckc16,[21],0),
  (38,(Ckl785,[Cke97],[]),0,Ckc16,[],0),
  (39,(Ckl785,[],[]),21,Ckc16,[23],0),
  (41,(Ckl785,[Cke264],[]),20,Ckc16,[24],0),
  (44,(Ckl785,[Cke97],[]),19,Ckc16,[25],0),
  (45,(Ckl785,[Cke98,Cke97],[]),18,Ckc16,[39,26],0),
  (48,(Ckl785,[],[]),17,Ckc16,[27],0),
  (49,(Ckl785,[Cke193],[]),16,Ckc16,[28],0),
  (50,(Ckl785,[Cke108,Cke193],[]),15,Ckc16,[29],0),
  (52,(Ckl785,[Cke310,Cke108,Cke193],[]),14,Ckc16,[30],0),
  (54,(Ckl785,[Cke311,Cke310,Cke108,Cke193],[]),13,Ckc16,[31],146),
  (57,(Ckl785,[Cke184],[]),12,Ckc16,[32],0),
  (58,(Ckl785,[Cke237,Cke184],[]),11,Ckc16,[33],0),
  (59,(Ckl785,[Cke184],[]),10,Ckc16,[34],0),
  (60,(Ckl785,[Cke6,Cke184],[]),9,Ckc16,[35],0),
  (61,(Ckl785,[Cke242],[]),8,Ckc16,[39,36],0),
  (64,(Ckl785,[],[]),5,Ckc16,[37],0),
  (66,(Ckl785,[Cke264],[]),4,Ckc16,[38],0),
  (69,(Ckl785,[Cke97],[]),3,Ckc16,[],0),
  (70,(Ckl785,[],[]),7,Ckc16,[40],0),
  (71,(Ckl785,[Cke51],[]),6,Ckc16,[],0)]
def CNC147 : List (List ND) := [CNC147_0]
theorem CKC147 : chkS prot SMsC SMC147 [] CNC147 = true := by decide +kernel
-- OneSided.leads [(1, 1), (-2147483648, 2147483647), (-2147483648, 2147483647), (-2147483648, 2147483647), (-2147483648, 2147483647)]
def Ckl786 : AL := [some Cka161,some Cka34,some Cka34,some Cka34,some Cka34]
def Ckl787 : AL := [some Cka161,some Cka62,some Cka34,some Cka34,some Cka34]
def Ckl788 : AL := [some Cka161,some Cka62,some Cka34,some Cka77,some Cka34]
def Ckl789 : AL := [some Cka161,some Cka62,some Cka80,some Cka77,some Cka84]
def Cke312 : SE := (Cka84,(1,4,0,0,0))
def Cka165 : AV := (0,-1,9,1)
def Cke313 : SE := (Cka165,pv0)
def CNC148_0 : List ND := [(0,(Ckl786,[],[]),38,Ckc12,[1],0),
  (1,(Ckl786,[Cke288],[]),37,Ckc12,[2],0),
  (2,(Ckl786,[Cke156,Cke288],[]),36,Ckc12,[4,3],136),
  (5,(Ckl786,[Cke7],[]),35,Ckc12,[16],0),
  (5,(Ckl787,[Cke6],[]),34,Ckc12,[5],0),
  (8,(Ckl787,[],[]),33,Ckc12,[6],0),
  (9,(Ckl787,[Cke288],[]),32,Ckc12,[7],0),
  (10,(Ckl787,[Cke210,Cke288],[]),31,Ckc12,[9,8],140),
  (13,(Ckl787,[Cke7],[]),30,Ckc12,[16],0),
  (13,(Ckl788,[Cke6],[]),29,Ckc12,[10],0),
  (16,(Ckl788,[],[]),28,Ckc12,[11],0),
  (17,(Ckl788,[Cke288],[]),27,Ckc12,[12],0),
  (18,(Ckl788,[Cke209,Cke288],[]),26,Ckc12,[13],0),
  (20,(Ckl788,[Cke211,Cke209,Cke288],[]),25,Ckc12,[15,14],141),
  (23,(Ckl788,[Cke7],[]),2,Ckc12,[16],0),
  (23,(Ckl789,[Cke6],[]),24,Ckc12,[18],0),
  (26,(Ckl786,[],[]),1,Ckc12,[17],0),
  (27,(Ckl786,[Cke51],[]),0,Ckc12,[],0),
  (28,(Ckl789,[],[]),23,Ckc12,[19],0),
  (29,(Ckl789,[Cke288],[]),22,Ckc12,[21,20],0),
  (32,(Ckl789,[Cke290],[]),21,Ckc12,[22],0),
  (32,(Ckl789,[Cke291],[]),12,Ckc12,[23],0),
  (33,(Ckl789,[Cke237,Cke290],[]),20,Ckc12,[24],0),
  (33,(Ckl789,[Cke237,Cke291],[]),11,Ckc12,[25],0),
  (34,(Ckl789,[Cke108,Cke237,Cke290],[]),19,Ckc12,[26],0),
  (34,(Ckl789,[Cke108,Cke237,Cke291],[]),10,Ckc12,[27],0),
  (35,(Ckl789,[Cke98,Cke108,Cke237,Cke290],[]),18,Ckc12,[28],0),
  (35,(Ckl789,[Cke98,Cke108,Cke237,Cke291],[]),9,Ckc12,[29],0),
  (37,(Ckl789,[Cke312,Cke98,Cke108,Cke237,Cke290],[]),17,Ckc12,[30],0),
  (37,(Ckl789,[Cke312,Cke98,Cke108,Cke237,Cke291],[]),8,Ckc12,[31],0),
  (38,(Ckl789,[Cke288,Cke312,Cke98,Cke108,Cke237,Cke290],[]),16,Ckc12,[32],0),
  (38,(Ckl789,[Cke288,Cke312,Cke98,Cke108,Cke237,Cke291],[]),7,Ckc12,[33],0),
  (41,(Ckl789,[Cke298,Cke312,Cke98,Cke108,Cke237,Cke290],[]),15,Ckc12,[34],0),
  (41,(Ckl789,[Cke298,Cke312,Cke98,Cke108,Cke237,Cke291],[]),6,Ckc12,[35],0),
  (44,(Ckl789,[Cke284,Cke312,Cke98,Cke108,Cke237,Cke290],[]),14,Ckc12,[36],0),
  (44,(Ckl789,[Cke284,Cke312,Cke98,Cke108,Cke237,Cke291],[]),5,Ckc12,[37],0),
  (47,(Ckl789,[Cke303,Cke312,Cke98,Cke108,Cke237,Cke290],[]),13,Ckc12,[38],147),
  (47,(Ckl789,[Cke303,Cke312,Cke98,Cke108,Cke237,Cke291],[]),4,Ckc12,[38],144),
  (50,(Ckl789,[Cke313],[]),3,Ckc12,[],0)]
def CNC148 : List (List ND) := [CNC148_0]
theorem CKC148 : chkS prot SMsC SMC148 [] CNC148 = true := by decide +kernel
-- OneSided$Scene.copy [(68, 68), (60, 60)]
def Cka166 : AV := (2,68,68,0)
def Ckl790 : AL := [some Cka166,some Cka157]
def Cke314 : SE := (Cka166,(1,0,0,0,0))
def Cke315 : SE := (Cka157,(1,1,0,0,0))
def Cke316 : SE := (Cka143,(2,60,0,0,0))
def Cka167 : AV := (2,69,69,0)
def Cke317 : SE := (Cka167,(2,68,4,0,0))
def Cka168 : AV := (2,70,70,0)
def Cke318 : SE := (Cka168,(2,68,5,0,0))
def CNC149_0 : List ND := [(0,(Ckl790,[],[]),32,Ckc0,[1],0),
  (1,(Ckl790,[Cke314],[]),31,Ckc0,[2],0),
  (2,(Ckl790,[Cke315,Cke314],[]),30,Ckc0,[3],0),
  (5,(Ckl790,[Cke316,Cke314],[]),29,Ckc0,[4],0),
  (8,(Ckl790,[],[]),28,Ckc0,[5],0),
  (9,(Ckl790,[Cke314],[]),27,Ckc0,[6],0),
  (10,(Ckl790,[Cke315,Cke314],[]),26,Ckc0,[7],0),
  (13,(Ckl790,[Cke303,Cke314],[]),25,Ckc0,[8],0),
  (16,(Ckl790,[],[]),24,Ckc0,[9],0),
  (17,(Ckl790,[Cke314],[]),23,Ckc0,[10],0),
  (18,(Ckl790,[Cke315,Cke314],[]),22,Ckc0,[11],0),
  (21,(Ckl790,[Cke307,Cke314],[]),21,Ckc0,[12],0),
  (24,(Ckl790,[],[]),20,Ckc0,[13],0),
  (25,(Ckl790,[Cke314],[]),19,Ckc0,[14],0),
  (26,(Ckl790,[Cke315,Cke314],[]),18,Ckc0,[15],0),
  (29,(Ckl790,[Cke306,Cke314],[]),17,Ckc0,[16],0),
  (32,(Ckl790,[],[]),16,Ckc0,[17],0),
  (33,(Ckl790,[Cke315],[]),15,Ckc0,[18],0),
  (36,(Ckl790,[Cke277],[]),14,Ckc0,[19],0),
  (37,(Ckl790,[Cke7,Cke277],[]),13,Ckc0,[20],0),
  (38,(Ckl790,[Cke314,Cke7,Cke277],[]),12,Ckc0,[21],0),
  (41,(Ckl790,[Cke317,Cke7,Cke277],[]),11,Ckc0,[22],0),
  (42,(Ckl790,[Cke7,Cke317,Cke7,Cke277],[]),10,Ckc0,[23],0),
  (44,(Ckl790,[Cke147,Cke7,Cke317,Cke7,Cke277],[]),9,Ckc0,[24],0),
  (47,(Ckl790,[],[]),8,Ckc0,[25],0),
  (48,(Ckl790,[Cke315],[]),7,Ckc0,[26],0),
  (51,(Ckl790,[Cke272],[]),6,Ckc0,[27],0),
  (52,(Ckl790,[Cke7,Cke272],[]),5,Ckc0,[28],0),
  (53,(Ckl790,[Cke314,Cke7,Cke272],[]),4,Ckc0,[29],0),
  (56,(Ckl790,[Cke318,Cke7,Cke272],[]),3,Ckc0,[30],0),
  (57,(Ckl790,[Cke7,Cke318,Cke7,Cke272],[]),2,Ckc0,[31],0),
  (59,(Ckl790,[Cke136,Cke7,Cke318,Cke7,Cke272],[]),1,Ckc0,[32],0),
  (62,(Ckl790,[],[]),0,Ckc0,[],0)]
def CNC149 : List (List ND) := [CNC149_0]
theorem CKC149 : chkS prot SMsC SMC149 [] CNC149 = true := by decide +kernel
-- OneSided$Scene.tryDoor [(60, 60), (5, 5), (0, 5), (0, 13)]
def Ckl791 : AL := [some Cka157,some Cka50,some Cka67,some Cka62,none,none]
def Ckf96 : FA := [(60,0,Cka84)]
def Ckl792 : AL := [some Cka157,some Cka50,some Cka67,some Cka62,some Cka70,none]
def Cke319 : SE := (Cka70,(1,4,0,0,0))
def Cke320 : SE := (Cka84,(2,60,0,0,0))
def Ckl793 : AL := [some Cka157,some Cka50,some Cka67,some Cka62,some Cka70,some Cka165]
def Cke321 : SE := (Cka165,(1,5,0,0,0))
def Ckl794 : AL := [some Cka157,some Cka50,some Cka67,some Cka62,some Cka70,some Cka77]
def CNC150_0 : List ND := [(0,(Ckl791,[],[]),84,Ckc9,[1],0),
  (1,(Ckl791,[Cke271],[]),83,Ckc9,[2],0),
  (4,(Ckl791,[Cke316],[]),82,Ckc9,[3],0),
  (6,(Ckl791,[Cke144,Cke316],[]),81,Ckc9,[11,4],0),
  (9,(Ckl791,[],Ckf96),80,Ckc9,[5],0),
  (10,(Ckl791,[Cke271],Ckf96),79,Ckc9,[6],0),
  (13,(Ckl791,[Cke307],Ckf96),78,Ckc9,[7],0),
  (14,(Ckl791,[Cke278,Cke307],Ckf96),77,Ckc9,[8],0),
  (15,(Ckl791,[Cke184],Ckf96),76,Ckc9,[9],0),
  (16,(Ckl791,[Cke6,Cke184],Ckf96),75,Ckc9,[10],0),
  (17,(Ckl791,[Cke242],Ckf96),74,Ckc9,[13,11],0),
  (20,(Ckl791,[],[]),1,Ckc9,[12],0),
  (21,(Ckl791,[Cke51],[]),0,Ckc9,[],0),
  (22,(Ckl791,[],Ckf96),73,Ckc9,[14],0),
  (23,(Ckl791,[Cke86],Ckf96),72,Ckc9,[15],0),
  (26,(Ckl791,[Cke83],Ckf96),71,Ckc9,[16],0),
  (27,(Ckl791,[Cke278,Cke83],Ckf96),70,Ckc9,[17],0),
  (28,(Ckl791,[Cke85],Ckf96),69,Ckc9,[18],0),
  (30,(Ckl792,[],Ckf96),68,Ckc9,[19],0),
  (31,(Ckl792,[Cke86],Ckf96),67,Ckc9,[20],0),
  (32,(Ckl792,[Cke78,Cke86],Ckf96),66,Ckc9,[21],0),
  (34,(Ckl792,[Cke319,Cke78,Cke86],Ckf96),65,Ckc9,[22],0),
  (37,(Ckl792,[Cke141,Cke78,Cke86],Ckf96),64,Ckc9,[23],0),
  (38,(Ckl792,[Cke271,Cke141,Cke78,Cke86],Ckf96),63,Ckc9,[24],0),
  (41,(Ckl792,[Cke277,Cke141,Cke78,Cke86],Ckf96),62,Ckc9,[25],0),
  (42,(Ckl792,[Cke278,Cke277,Cke141,Cke78,Cke86],Ckf96),61,Ckc9,[26],0),
  (43,(Ckl792,[Cke97,Cke141,Cke78,Cke86],Ckf96),60,Ckc9,[27],0),
  (44,(Ckl792,[Cke271,Cke97,Cke141,Cke78,Cke86],Ckf96),59,Ckc9,[28],0),
  (47,(Ckl792,[Cke320,Cke97,Cke141,Cke78,Cke86],Ckf96),58,Ckc9,[29],0),
  (48,(Ckl792,[Cke271,Cke320,Cke97,Cke141,Cke78,Cke86],Ckf96),57,Ckc9,[30],0),
  (51,(Ckl792,[Cke303,Cke320,Cke97,Cke141,Cke78,Cke86],Ckf96),56,Ckc9,[31],144),
  (54,(Ckl792,[Cke313],Ckf96),55,Ckc9,[32],0),
  (56,(Ckl793,[],Ckf96),54,Ckc9,[33],0),
  (58,(Ckl793,[Cke321],Ckf96),53,Ckc9,[34],0),
  (59,(Ckl793,[Cke51,Cke321],Ckf96),52,Ckc9,[45,35],0),
  (62,(Ckl794,[],Ckf96),51,Ckc9,[36],0),
  (63,(Ckl794,[Cke271],Ckf96),50,Ckc9,[37],0),
  (66,(Ckl794,[Cke272],Ckf96),49,Ckc9,[38],0),
  (67,(Ckl794,[Cke78,Cke272],Ckf96),48,Ckc9,[39],0),
  (68,(Ckl794,[Cke184],Ckf96),47,Ckc9,[40],0),
  (69,(Ckl794,[Cke86,Cke184],Ckf96),46,Ckc9,[41],0),
  (72,(Ckl794,[Cke77,Cke184],Ckf96),45,Ckc9,[42],0),
  (73,(Ckl794,[Cke78,Cke77,Cke184],Ckf96),44,Ckc9,[43],0),
  (74,(Ckl794,[Cke79,Cke184],Ckf96),43,Ckc9,[44],0),
  (77,(Ckl794,[Cke97,Cke184],Ckf96),42,Ckc9,[47,45],0),
  (80,(Ckl793,[],Ckf96),3,Ckc9,[46],0),
  (81,(Ckl793,[Cke51],Ckf96),2,Ckc9,[],0),
  (82,(Ckl794,[],Ckf96),41,Ckc9,[48],0),
  (83,(Ckl794,[Cke271],Ckf96),40,Ckc9,[49],0),
  (86,(Ckl794,[Cke277],Ckf96),39,Ckc9,[50],0),
  (87,(Ckl794,[Cke278,Cke277],Ckf96),38,Ckc9,[51],0),
  (89,(Ckl794,[Cke236,Cke278,Cke277],Ckf96),37,Ckc9,[52],0),
  (90,(Ckl794,[],Ckf96),36,Ckc9,[53],0),
  (91,(Ckl794,[Cke271],Ckf96),35,Ckc9,[54],0),
  (94,(Ckl794,[Cke272],Ckf96),34,Ckc9,[55],0),
  (95,(Ckl794,[Cke78,Cke272],Ckf96),33,Ckc9,[56],0),
  (96,(Ckl794,[Cke78,Cke272,Cke78,Cke272],Ckf96),32,Ckc9,[57],0),
  (97,(Ckl794,[Cke184,Cke78,Cke272],Ckf96),31,Ckc9,[58],0),
  (98,(Ckl794,[Cke6,Cke184,Cke78,Cke272],Ckf96),30,Ckc9,[59],0),
  (99,(Ckl794,[Cke184,Cke78,Cke272],Ckf96),29,Ckc9,[60],0),
  (100,(Ckl794,[],Ckf96),28,Ckc9,[61],0),
  (101,(Ckl794,[Cke271],Ckf96),27,Ckc9,[62],0),
  (102,(Ckl794,[Cke271,Cke271],Ckf96),26,Ckc9,[63],0),
  (105,(Ckl794,[Cke307,Cke271],Ckf96),25,Ckc9,[64],0)]
def CNC150_1 : List ND := [(106,(Ckl794,[Cke6,Cke307,Cke271],Ckf96),24,Ckc9,[65],0),
  (107,(Ckl794,[Cke278,Cke6,Cke307,Cke271],Ckf96),23,Ckc9,[66],0),
  (108,(Ckl794,[Cke282,Cke307,Cke271],Ckf96),22,Ckc9,[67],0),
  (109,(Ckl794,[Cke184,Cke271],Ckf96),21,Ckc9,[68],0),
  (112,(Ckl794,[],Ckf96),20,Ckc9,[69],0),
  (113,(Ckl794,[Cke271],Ckf96),19,Ckc9,[70],0),
  (114,(Ckl794,[Cke271,Cke271],Ckf96),18,Ckc9,[71],0),
  (117,(Ckl794,[Cke306,Cke271],Ckf96),17,Ckc9,[72],0),
  (119,(Ckl794,[Cke236,Cke306,Cke271],Ckf96),16,Ckc9,[73],0),
  (121,(Ckl794,[Cke319,Cke236,Cke306,Cke271],Ckf96),15,Ckc9,[74],0),
  (124,(Ckl794,[Cke97,Cke236,Cke306,Cke271],Ckf96),14,Ckc9,[79,75],0),
  (127,(Ckl794,[Cke306,Cke271],Ckf96),11,Ckc9,[76],0),
  (128,(Ckl794,[Cke6,Cke306,Cke271],Ckf96),10,Ckc9,[77],0),
  (129,(Ckl794,[Cke278,Cke6,Cke306,Cke271],Ckf96),9,Ckc9,[78],0),
  (130,(Ckl794,[Cke282,Cke306,Cke271],Ckf96),8,Ckc9,[81],0),
  (133,(Ckl794,[Cke306,Cke271],Ckf96),13,Ckc9,[80],0),
  (134,(Ckl794,[Cke7,Cke306,Cke271],Ckf96),12,Ckc9,[82],0),
  (134,(Ckl794,[Cke282,Cke306,Cke271],Ckf96),7,Ckc9,[82],0),
  (135,(Ckl794,[Cke184,Cke271],Ckf96),6,Ckc9,[83],0),
  (138,(Ckl794,[],Ckf96),5,Ckc9,[84],0),
  (140,(Ckl794,[Cke236],Ckf96),4,Ckc9,[],0)]
def CNC150 : List (List ND) := [CNC150_0, CNC150_1]
theorem CKC150 : chkS prot SMsC SMC150 [] CNC150 = true := by decide +kernel
-- OneSided$Scene.tryDoor [(60, 60), (32, 32), (0, 5), (0, 13)]
def Ckl795 : AL := [some Cka157,some Cka121,some Cka67,some Cka62,none,none]
def Ckl796 : AL := [some Cka157,some Cka121,some Cka67,some Cka62,some Cka125,none]
def Cke322 : SE := (Cka125,(1,4,0,0,0))
def Ckl797 : AL := [some Cka157,some Cka121,some Cka67,some Cka62,some Cka125,some Cka165]
def Ckl798 : AL := [some Cka157,some Cka121,some Cka67,some Cka62,some Cka125,some Cka77]
def CNC151_0 : List ND := [(0,(Ckl795,[],[]),84,Ckc9,[1],0),
  (1,(Ckl795,[Cke271],[]),83,Ckc9,[2],0),
  (4,(Ckl795,[Cke316],[]),82,Ckc9,[3],0),
  (6,(Ckl795,[Cke144,Cke316],[]),81,Ckc9,[11,4],0),
  (9,(Ckl795,[],Ckf96),80,Ckc9,[5],0),
  (10,(Ckl795,[Cke271],Ckf96),79,Ckc9,[6],0),
  (13,(Ckl795,[Cke307],Ckf96),78,Ckc9,[7],0),
  (14,(Ckl795,[Cke278,Cke307],Ckf96),77,Ckc9,[8],0),
  (15,(Ckl795,[Cke184],Ckf96),76,Ckc9,[9],0),
  (16,(Ckl795,[Cke6,Cke184],Ckf96),75,Ckc9,[10],0),
  (17,(Ckl795,[Cke242],Ckf96),74,Ckc9,[13,11],0),
  (20,(Ckl795,[],[]),1,Ckc9,[12],0),
  (21,(Ckl795,[Cke51],[]),0,Ckc9,[],0),
  (22,(Ckl795,[],Ckf96),73,Ckc9,[14],0),
  (23,(Ckl795,[Cke200],Ckf96),72,Ckc9,[15],0),
  (26,(Ckl795,[Cke198],Ckf96),71,Ckc9,[16],0),
  (27,(Ckl795,[Cke278,Cke198],Ckf96),70,Ckc9,[17],0),
  (28,(Ckl795,[Cke199],Ckf96),69,Ckc9,[18],0),
  (30,(Ckl796,[],Ckf96),68,Ckc9,[19],0),
  (31,(Ckl796,[Cke200],Ckf96),67,Ckc9,[20],0),
  (32,(Ckl796,[Cke78,Cke200],Ckf96),66,Ckc9,[21],0),
  (34,(Ckl796,[Cke322,Cke78,Cke200],Ckf96),65,Ckc9,[22],0),
  (37,(Ckl796,[Cke141,Cke78,Cke200],Ckf96),64,Ckc9,[23],0),
  (38,(Ckl796,[Cke271,Cke141,Cke78,Cke200],Ckf96),63,Ckc9,[24],0),
  (41,(Ckl796,[Cke277,Cke141,Cke78,Cke200],Ckf96),62,Ckc9,[25],0),
  (42,(Ckl796,[Cke278,Cke277,Cke141,Cke78,Cke200],Ckf96),61,Ckc9,[26],0),
  (43,(Ckl796,[Cke97,Cke141,Cke78,Cke200],Ckf96),60,Ckc9,[27],0),
  (44,(Ckl796,[Cke271,Cke97,Cke141,Cke78,Cke200],Ckf96),59,Ckc9,[28],0),
  (47,(Ckl796,[Cke320,Cke97,Cke141,Cke78,Cke200],Ckf96),58,Ckc9,[29],0),
  (48,(Ckl796,[Cke271,Cke320,Cke97,Cke141,Cke78,Cke200],Ckf96),57,Ckc9,[30],0),
  (51,(Ckl796,[Cke303,Cke320,Cke97,Cke141,Cke78,Cke200],Ckf96),56,Ckc9,[31],147),
  (54,(Ckl796,[Cke313],Ckf96),55,Ckc9,[32],0),
  (56,(Ckl797,[],Ckf96),54,Ckc9,[33],0),
  (58,(Ckl797,[Cke321],Ckf96),53,Ckc9,[34],0),
  (59,(Ckl797,[Cke51,Cke321],Ckf96),52,Ckc9,[45,35],0),
  (62,(Ckl798,[],Ckf96),51,Ckc9,[36],0),
  (63,(Ckl798,[Cke271],Ckf96),50,Ckc9,[37],0),
  (66,(Ckl798,[Cke272],Ckf96),49,Ckc9,[38],0),
  (67,(Ckl798,[Cke78,Cke272],Ckf96),48,Ckc9,[39],0),
  (68,(Ckl798,[Cke184],Ckf96),47,Ckc9,[40],0),
  (69,(Ckl798,[Cke200,Cke184],Ckf96),46,Ckc9,[41],0),
  (72,(Ckl798,[Cke195,Cke184],Ckf96),45,Ckc9,[42],0),
  (73,(Ckl798,[Cke78,Cke195,Cke184],Ckf96),44,Ckc9,[43],0),
  (74,(Ckl798,[Cke196,Cke184],Ckf96),43,Ckc9,[44],0),
  (77,(Ckl798,[Cke97,Cke184],Ckf96),42,Ckc9,[47,45],0),
  (80,(Ckl797,[],Ckf96),3,Ckc9,[46],0),
  (81,(Ckl797,[Cke51],Ckf96),2,Ckc9,[],0),
  (82,(Ckl798,[],Ckf96),41,Ckc9,[48],0),
  (83,(Ckl798,[Cke271],Ckf96),40,Ckc9,[49],0),
  (86,(Ckl798,[Cke277],Ckf96),39,Ckc9,[50],0),
  (87,(Ckl798,[Cke278,Cke277],Ckf96),38,Ckc9,[51],0),
  (89,(Ckl798,[Cke236,Cke278,Cke277],Ckf96),37,Ckc9,[52],0),
  (90,(Ckl798,[],Ckf96),36,Ckc9,[53],0),
  (91,(Ckl798,[Cke271],Ckf96),35,Ckc9,[54],0),
  (94,(Ckl798,[Cke272],Ckf96),34,Ckc9,[55],0),
  (95,(Ckl798,[Cke78,Cke272],Ckf96),33,Ckc9,[56],0),
  (96,(Ckl798,[Cke78,Cke272,Cke78,Cke272],Ckf96),32,Ckc9,[57],0),
  (97,(Ckl798,[Cke184,Cke78,Cke272],Ckf96),31,Ckc9,[58],0),
  (98,(Ckl798,[Cke6,Cke184,Cke78,Cke272],Ckf96),30,Ckc9,[59],0),
  (99,(Ckl798,[Cke184,Cke78,Cke272],Ckf96),29,Ckc9,[60],0),
  (100,(Ckl798,[],Ckf96),28,Ckc9,[61],0),
  (101,(Ckl798,[Cke271],Ckf96),27,Ckc9,[62],0),
  (102,(Ckl798,[Cke271,Cke271],Ckf96),26,Ckc9,[63],0),
  (105,(Ckl798,[Cke307,Cke271],Ckf96),25,Ckc9,[64],0)]
def CNC151_1 : List ND := [(106,(Ckl798,[Cke6,Cke307,Cke271],Ckf96),24,Ckc9,[65],0),
  (107,(Ckl798,[Cke278,Cke6,Cke307,Cke271],Ckf96),23,Ckc9,[66],0),
  (108,(Ckl798,[Cke282,Cke307,Cke271],Ckf96),22,Ckc9,[67],0),
  (109,(Ckl798,[Cke184,Cke271],Ckf96),21,Ckc9,[68],0),
  (112,(Ckl798,[],Ckf96),20,Ckc9,[69],0),
  (113,(Ckl798,[Cke271],Ckf96),19,Ckc9,[70],0),
  (114,(Ckl798,[Cke271,Cke271],Ckf96),18,Ckc9,[71],0),
  (117,(Ckl798,[Cke306,Cke271],Ckf96),17,Ckc9,[72],0),
  (119,(Ckl798,[Cke236,Cke306,Cke271],Ckf96),16,Ckc9,[73],0),
  (121,(Ckl798,[Cke322,Cke236,Cke306,Cke271],Ckf96),15,Ckc9,[74],0),
  (124,(Ckl798,[Cke97,Cke236,Cke306,Cke271],Ckf96),14,Ckc9,[79,75],0),
  (127,(Ckl798,[Cke306,Cke271],Ckf96),11,Ckc9,[76],0),
  (128,(Ckl798,[Cke6,Cke306,Cke271],Ckf96),10,Ckc9,[77],0),
  (129,(Ckl798,[Cke278,Cke6,Cke306,Cke271],Ckf96),9,Ckc9,[78],0),
  (130,(Ckl798,[Cke282,Cke306,Cke271],Ckf96),8,Ckc9,[81],0),
  (133,(Ckl798,[Cke306,Cke271],Ckf96),13,Ckc9,[80],0),
  (134,(Ckl798,[Cke7,Cke306,Cke271],Ckf96),12,Ckc9,[82],0),
  (134,(Ckl798,[Cke282,Cke306,Cke271],Ckf96),7,Ckc9,[82],0),
  (135,(Ckl798,[Cke184,Cke271],Ckf96),6,Ckc9,[83],0),
  (138,(Ckl798,[],Ckf96),5,Ckc9,[84],0),
  (140,(Ckl798,[Cke236],Ckf96),4,Ckc9,[],0)]
def CNC151 : List (List ND) := [CNC151_0, CNC151_1]
theorem CKC151 : chkS prot SMsC SMC151 [] CNC151 = true := by decide +kernel
-- OneSided$Scene.copy [(134, 179), (68, 68)]
def Cka169 : AV := (2,134,179,3)
def Ckl799 : AL := [some Cka169,some Cka166]
def Cke323 : SE := (Cka169,(1,0,0,0,0))
def Cke324 : SE := (Cka166,(1,1,0,0,0))
def Cke325 : SE := (Cka143,(2,68,0,0,0))
def Cke326 : SE := (Cka34,(2,68,1,0,0))
def Cke327 : SE := (Cka34,(2,68,2,0,0))
def Cke328 : SE := (Cka34,(2,68,3,0,0))
def Cka170 : AV := (2,135,180,3)
def Cke329 : SE := (Cka170,pv0)
def Cka171 : AV := (2,136,181,3)
def Cke330 : SE := (Cka171,pv0)
def CNC152_0 : List ND := [(0,(Ckl799,[],[]),32,Ckc0,[1],0),
  (1,(Ckl799,[Cke323],[]),31,Ckc0,[2],0),
  (2,(Ckl799,[Cke324,Cke323],[]),30,Ckc0,[3],0),
  (5,(Ckl799,[Cke325,Cke323],[]),29,Ckc0,[4],0),
  (8,(Ckl799,[],[]),28,Ckc0,[5],0),
  (9,(Ckl799,[Cke323],[]),27,Ckc0,[6],0),
  (10,(Ckl799,[Cke324,Cke323],[]),26,Ckc0,[7],0),
  (13,(Ckl799,[Cke326,Cke323],[]),25,Ckc0,[8],0),
  (16,(Ckl799,[],[]),24,Ckc0,[9],0),
  (17,(Ckl799,[Cke323],[]),23,Ckc0,[10],0),
  (18,(Ckl799,[Cke324,Cke323],[]),22,Ckc0,[11],0),
  (21,(Ckl799,[Cke327,Cke323],[]),21,Ckc0,[12],0),
  (24,(Ckl799,[],[]),20,Ckc0,[13],0),
  (25,(Ckl799,[Cke323],[]),19,Ckc0,[14],0),
  (26,(Ckl799,[Cke324,Cke323],[]),18,Ckc0,[15],0),
  (29,(Ckl799,[Cke328,Cke323],[]),17,Ckc0,[16],0),
  (32,(Ckl799,[],[]),16,Ckc0,[17],0),
  (33,(Ckl799,[Cke324],[]),15,Ckc0,[18],0),
  (36,(Ckl799,[Cke317],[]),14,Ckc0,[19],0),
  (37,(Ckl799,[Cke7,Cke317],[]),13,Ckc0,[20],0),
  (38,(Ckl799,[Cke323,Cke7,Cke317],[]),12,Ckc0,[21],0),
  (41,(Ckl799,[Cke329,Cke7,Cke317],[]),11,Ckc0,[22],0),
  (42,(Ckl799,[Cke7,Cke329,Cke7,Cke317],[]),10,Ckc0,[23],0),
  (44,(Ckl799,[Cke147,Cke7,Cke329,Cke7,Cke317],[]),9,Ckc0,[24],0),
  (47,(Ckl799,[],[]),8,Ckc0,[25],0),
  (48,(Ckl799,[Cke324],[]),7,Ckc0,[26],0),
  (51,(Ckl799,[Cke318],[]),6,Ckc0,[27],0),
  (52,(Ckl799,[Cke7,Cke318],[]),5,Ckc0,[28],0),
  (53,(Ckl799,[Cke323,Cke7,Cke318],[]),4,Ckc0,[29],0),
  (56,(Ckl799,[Cke330,Cke7,Cke318],[]),3,Ckc0,[30],0),
  (57,(Ckl799,[Cke7,Cke330,Cke7,Cke318],[]),2,Ckc0,[31],0),
  (59,(Ckl799,[Cke136,Cke7,Cke330,Cke7,Cke318],[]),1,Ckc0,[32],0),
  (62,(Ckl799,[],[]),0,Ckc0,[],0)]
def CNC152 : List (List ND) := [CNC152_0]
theorem CKC152 : chkS prot SMsC SMC152 [] CNC152 = true := by decide +kernel
-- OneSided.keepForUndo [(1, 1), (68, 68)]
def Ckl800 : AL := [some Cka161,some Cka166]
def Cka172 : AV := (2,76,76,0)
def Cke331 : SE := (Cka172,(2,1,7,0,0))
def Cka173 : AV := (0,0,15,1)
def Cke332 : SE := (Cka173,(2,1,8,0,0))
def Cka174 : AV := (0,0,16,1)
def Cke333 : SE := (Cka174,(2,1,9,0,0))
def Cke334 : SE := (Cka173,pv0)
def Cke335 : SE := (Cka169,pv0)
def Ckf97 : FA := [(1,9,Cka173)]
def Cke336 : SE := (Cka173,(2,1,9,0,0))
def Cka175 : AV := (0,1,16,1)
def Cke337 : SE := (Cka175,pv0)
def Ckf98 : FA := [(1,9,Cka175)]
def Ckf99 : FA := [(1,9,Cka52)]
def CNC153_0 : List ND := [(0,(Ckl800,[],[]),31,Ckc0,[1],0),
  (1,(Ckl800,[Cke288],[]),30,Ckc0,[2],0),
  (4,(Ckl800,[Cke331],[]),29,Ckc0,[3],0),
  (5,(Ckl800,[Cke288,Cke331],[]),28,Ckc0,[4],0),
  (8,(Ckl800,[Cke332,Cke331],[]),27,Ckc0,[5],0),
  (9,(Ckl800,[Cke288,Cke332,Cke331],[]),26,Ckc0,[6],0),
  (12,(Ckl800,[Cke333,Cke332,Cke331],[]),25,Ckc0,[7],0),
  (13,(Ckl800,[Cke227,Cke331],[]),24,Ckc0,[8],0),
  (15,(Ckl800,[Cke55,Cke227,Cke331],[]),23,Ckc0,[9],0),
  (18,(Ckl800,[Cke334,Cke331],[]),22,Ckc0,[10],0),
  (19,(Ckl800,[Cke335],[]),21,Ckc0,[11],0),
  (20,(Ckl800,[Cke324,Cke335],[]),20,Ckc0,[12],152),
  (23,(Ckl800,[],[]),19,Ckc0,[13],0),
  (24,(Ckl800,[Cke288],[]),18,Ckc0,[14],0),
  (27,(Ckl800,[Cke333],[]),17,Ckc0,[15],0),
  (29,(Ckl800,[Cke55,Cke333],[]),16,Ckc0,[23,16],0),
  (32,(Ckl800,[],Ckf97),15,Ckc0,[17],0),
  (33,(Ckl800,[Cke288],Ckf97),14,Ckc0,[18],0),
  (34,(Ckl800,[Cke288,Cke288],Ckf97),13,Ckc0,[19],0),
  (37,(Ckl800,[Cke336,Cke288],Ckf97),12,Ckc0,[20],0),
  (38,(Ckl800,[Cke6,Cke336,Cke288],Ckf97),11,Ckc0,[21],0),
  (39,(Ckl800,[Cke337,Cke288],Ckf97),10,Ckc0,[22],0),
  (42,(Ckl800,[],Ckf98),9,Ckc0,[31],0),
  (45,(Ckl800,[],Ckf99),8,Ckc0,[24],0),
  (46,(Ckl800,[Cke288],Ckf99),7,Ckc0,[25],0),
  (47,(Ckl800,[Cke288,Cke288],Ckf99),6,Ckc0,[26],0),
  (50,(Ckl800,[Cke332,Cke288],Ckf99),5,Ckc0,[27],0),
  (51,(Ckl800,[Cke6,Cke332,Cke288],Ckf99),4,Ckc0,[28],0),
  (52,(Ckl800,[Cke337,Cke288],Ckf99),3,Ckc0,[29],0),
  (54,(Ckl800,[Cke55,Cke337,Cke288],Ckf99),2,Ckc0,[30],0),
  (57,(Ckl800,[Cke334,Cke288],Ckf99),1,Ckc0,[31],0),
  (60,(Ckl800,[],Ckf98),0,Ckc0,[],0)]
def CNC153 : List (List ND) := [CNC153_0]
theorem CKC153 : chkS prot SMsC SMC153 [] CNC153 = true := by decide +kernel
-- OneSided.go [(1, 1), (-2147483648, 2147483647), (-2147483648, 2147483647)]
def Ckl801 : AL := [some Cka161,some Cka67,some Cka62,none]
def Cka176 : AV := (2,67,67,0)
def Cke338 : SE := (Cka176,(2,1,4,0,0))
def Cke339 : SE := (Cka166,(2,67,0,0,0))
def Ckl802 : AL := [some Cka161,some Cka67,some Cka62,some Cka165]
def Cke340 : SE := (Cka165,(1,3,0,0,0))
def Ckl803 : AL := [some Cka161,some Cka67,some Cka62,some Cka77]
def CNC154_0 : List ND := [(0,(Ckl728,[],[]),40,Ckc7,[1],0),
  (1,(Ckl728,[Cke288],[]),39,Ckc7,[2],0),
  (2,(Ckl728,[Cke156,Cke288],[]),38,Ckc7,[4,3],138),
  (5,(Ckl728,[Cke7],[]),37,Ckc7,[10],0),
  (5,(Ckl753,[Cke6],[]),36,Ckc7,[5],0),
  (8,(Ckl753,[],[]),35,Ckc7,[6],0),
  (9,(Ckl753,[Cke288],[]),34,Ckc7,[7],0),
  (10,(Ckl753,[Cke209,Cke288],[]),33,Ckc7,[9,8],136),
  (13,(Ckl753,[Cke7],[]),32,Ckc7,[10],0),
  (13,(Ckl801,[Cke6],[]),29,Ckc7,[12],0),
  (16,(Ckl728,[],[]),31,Ckc7,[11],0),
  (17,(Ckl728,[Cke51],[]),30,Ckc7,[],0),
  (18,(Ckl801,[],[]),28,Ckc7,[13],0),
  (19,(Ckl801,[Cke288],[]),27,Ckc7,[14],0),
  (22,(Ckl801,[Cke338],[]),26,Ckc7,[15],0),
  (25,(Ckl801,[Cke339],[]),25,Ckc7,[16],0),
  (26,(Ckl801,[Cke288,Cke339],[]),24,Ckc7,[17],0),
  (29,(Ckl801,[Cke298,Cke339],[]),23,Ckc7,[18],0),
  (32,(Ckl801,[Cke284,Cke339],[]),22,Ckc7,[19],149),
  (35,(Ckl801,[],[]),21,Ckc7,[20],0),
  (36,(Ckl801,[Cke288],[]),20,Ckc7,[21],0),
  (39,(Ckl801,[Cke298],[]),19,Ckc7,[22],0),
  (42,(Ckl801,[Cke284],[]),18,Ckc7,[23],0),
  (43,(Ckl801,[Cke288,Cke284],[]),17,Ckc7,[25,24],0),
  (46,(Ckl801,[Cke290,Cke284],[]),16,Ckc7,[26],0),
  (46,(Ckl801,[Cke291,Cke284],[]),13,Ckc7,[27],0),
  (47,(Ckl801,[Cke305,Cke290,Cke284],[]),15,Ckc7,[28],0),
  (47,(Ckl801,[Cke305,Cke291,Cke284],[]),12,Ckc7,[29],0),
  (48,(Ckl801,[Cke270,Cke305,Cke290,Cke284],[]),14,Ckc7,[30],151),
  (48,(Ckl801,[Cke270,Cke305,Cke291,Cke284],[]),11,Ckc7,[30],150),
  (51,(Ckl801,[Cke313],[]),10,Ckc7,[31],0),
  (52,(Ckl802,[],[]),9,Ckc7,[32],0),
  (53,(Ckl802,[Cke340],[]),8,Ckc7,[33],0),
  (54,(Ckl802,[Cke51,Cke340],[]),7,Ckc7,[39,34],0),
  (57,(Ckl803,[],[]),6,Ckc7,[35],0),
  (58,(Ckl803,[Cke288],[]),5,Ckc7,[36],0),
  (59,(Ckl803,[Cke288,Cke288],[]),4,Ckc7,[37],0),
  (62,(Ckl803,[Cke338,Cke288],[]),3,Ckc7,[38],0),
  (65,(Ckl803,[Cke339,Cke288],[]),2,Ckc7,[39],153),
  (68,(Ckl802,[],[]),1,Ckc7,[40],0),
  (69,(Ckl802,[Cke340],[]),0,Ckc7,[],0)]
def CNC154 : List (List ND) := [CNC154_0]
theorem CKC154 : chkS prot SMsC SMC154 [] CNC154 = true := by decide +kernel
-- OneSided$Scene.copy [(134, 179), (60, 60)]
def Ckl804 : AL := [some Cka169,some Cka157]
def CNC155_0 : List ND := [(0,(Ckl804,[],[]),32,Ckc0,[1],0),
  (1,(Ckl804,[Cke323],[]),31,Ckc0,[2],0),
  (2,(Ckl804,[Cke315,Cke323],[]),30,Ckc0,[3],0),
  (5,(Ckl804,[Cke316,Cke323],[]),29,Ckc0,[4],0),
  (8,(Ckl804,[],[]),28,Ckc0,[5],0),
  (9,(Ckl804,[Cke323],[]),27,Ckc0,[6],0),
  (10,(Ckl804,[Cke315,Cke323],[]),26,Ckc0,[7],0),
  (13,(Ckl804,[Cke303,Cke323],[]),25,Ckc0,[8],0),
  (16,(Ckl804,[],[]),24,Ckc0,[9],0),
  (17,(Ckl804,[Cke323],[]),23,Ckc0,[10],0),
  (18,(Ckl804,[Cke315,Cke323],[]),22,Ckc0,[11],0),
  (21,(Ckl804,[Cke307,Cke323],[]),21,Ckc0,[12],0),
  (24,(Ckl804,[],[]),20,Ckc0,[13],0),
  (25,(Ckl804,[Cke323],[]),19,Ckc0,[14],0),
  (26,(Ckl804,[Cke315,Cke323],[]),18,Ckc0,[15],0),
  (29,(Ckl804,[Cke306,Cke323],[]),17,Ckc0,[16],0),
  (32,(Ckl804,[],[]),16,Ckc0,[17],0),
  (33,(Ckl804,[Cke315],[]),15,Ckc0,[18],0),
  (36,(Ckl804,[Cke277],[]),14,Ckc0,[19],0),
  (37,(Ckl804,[Cke7,Cke277],[]),13,Ckc0,[20],0),
  (38,(Ckl804,[Cke323,Cke7,Cke277],[]),12,Ckc0,[21],0),
  (41,(Ckl804,[Cke329,Cke7,Cke277],[]),11,Ckc0,[22],0),
  (42,(Ckl804,[Cke7,Cke329,Cke7,Cke277],[]),10,Ckc0,[23],0),
  (44,(Ckl804,[Cke147,Cke7,Cke329,Cke7,Cke277],[]),9,Ckc0,[24],0),
  (47,(Ckl804,[],[]),8,Ckc0,[25],0),
  (48,(Ckl804,[Cke315],[]),7,Ckc0,[26],0),
  (51,(Ckl804,[Cke272],[]),6,Ckc0,[27],0),
  (52,(Ckl804,[Cke7,Cke272],[]),5,Ckc0,[28],0),
  (53,(Ckl804,[Cke323,Cke7,Cke272],[]),4,Ckc0,[29],0),
  (56,(Ckl804,[Cke330,Cke7,Cke272],[]),3,Ckc0,[30],0),
  (57,(Ckl804,[Cke7,Cke330,Cke7,Cke272],[]),2,Ckc0,[31],0),
  (59,(Ckl804,[Cke136,Cke7,Cke330,Cke7,Cke272],[]),1,Ckc0,[32],0),
  (62,(Ckl804,[],[]),0,Ckc0,[],0)]
def CNC155 : List (List ND) := [CNC155_0]
theorem CKC155 : chkS prot SMsC SMC155 [] CNC155 = true := by decide +kernel
-- OneSided.keepForUndo [(1, 1), (60, 60)]
def Ckl805 : AL := [some Cka161,some Cka157]
def CNC156_0 : List ND := [(0,(Ckl805,[],[]),31,Ckc0,[1],0),
  (1,(Ckl805,[Cke288],[]),30,Ckc0,[2],0),
  (4,(Ckl805,[Cke331],[]),29,Ckc0,[3],0),
  (5,(Ckl805,[Cke288,Cke331],[]),28,Ckc0,[4],0),
  (8,(Ckl805,[Cke332,Cke331],[]),27,Ckc0,[5],0),
  (9,(Ckl805,[Cke288,Cke332,Cke331],[]),26,Ckc0,[6],0),
  (12,(Ckl805,[Cke333,Cke332,Cke331],[]),25,Ckc0,[7],0),
  (13,(Ckl805,[Cke227,Cke331],[]),24,Ckc0,[8],0),
  (15,(Ckl805,[Cke55,Cke227,Cke331],[]),23,Ckc0,[9],0),
  (18,(Ckl805,[Cke334,Cke331],[]),22,Ckc0,[10],0),
  (19,(Ckl805,[Cke335],[]),21,Ckc0,[11],0),
  (20,(Ckl805,[Cke315,Cke335],[]),20,Ckc0,[12],155),
  (23,(Ckl805,[],[]),19,Ckc0,[13],0),
  (24,(Ckl805,[Cke288],[]),18,Ckc0,[14],0),
  (27,(Ckl805,[Cke333],[]),17,Ckc0,[15],0),
  (29,(Ckl805,[Cke55,Cke333],[]),16,Ckc0,[23,16],0),
  (32,(Ckl805,[],Ckf97),15,Ckc0,[17],0),
  (33,(Ckl805,[Cke288],Ckf97),14,Ckc0,[18],0),
  (34,(Ckl805,[Cke288,Cke288],Ckf97),13,Ckc0,[19],0),
  (37,(Ckl805,[Cke336,Cke288],Ckf97),12,Ckc0,[20],0),
  (38,(Ckl805,[Cke6,Cke336,Cke288],Ckf97),11,Ckc0,[21],0),
  (39,(Ckl805,[Cke337,Cke288],Ckf97),10,Ckc0,[22],0),
  (42,(Ckl805,[],Ckf98),9,Ckc0,[31],0),
  (45,(Ckl805,[],Ckf99),8,Ckc0,[24],0),
  (46,(Ckl805,[Cke288],Ckf99),7,Ckc0,[25],0),
  (47,(Ckl805,[Cke288,Cke288],Ckf99),6,Ckc0,[26],0),
  (50,(Ckl805,[Cke332,Cke288],Ckf99),5,Ckc0,[27],0),
  (51,(Ckl805,[Cke6,Cke332,Cke288],Ckf99),4,Ckc0,[28],0),
  (52,(Ckl805,[Cke337,Cke288],Ckf99),3,Ckc0,[29],0),
  (54,(Ckl805,[Cke55,Cke337,Cke288],Ckf99),2,Ckc0,[30],0),
  (57,(Ckl805,[Cke334,Cke288],Ckf99),1,Ckc0,[31],0),
  (60,(Ckl805,[],Ckf98),0,Ckc0,[],0)]
def CNC156 : List (List ND) := [CNC156_0]
theorem CKC156 : chkS prot SMsC SMC156 [] CNC156 = true := by decide +kernel
-- OneSided$Scene.pass [(60, 60), (1, 24)]
def Ckl806 : AL := [some Cka157,some Cka85]
def Cka177 : AV := (0,1,48,1)
def Cke341 : SE := (Cka177,pv0)
def Ckf100 : FA := [(60,0,Cka85)]
def Ckf101 : FA := [(60,0,Cka85),(60,2,Cka7)]
def CNC157_0 : List ND := [(0,(Ckl806,[],[]),15,Ckc0,[1],0),
  (1,(Ckl806,[Cke271],[]),14,Ckc0,[2],0),
  (3,(Ckl806,[Cke144,Cke271],[]),13,Ckc0,[3],0),
  (4,(Ckl806,[Cke271,Cke144,Cke271],[]),12,Ckc0,[4],0),
  (7,(Ckl806,[Cke316,Cke144,Cke271],[]),11,Ckc0,[5],0),
  (8,(Ckl806,[Cke115,Cke316,Cke144,Cke271],[]),10,Ckc0,[6],0),
  (9,(Ckl806,[Cke341,Cke144,Cke271],[]),9,Ckc0,[7],0),
  (12,(Ckl806,[Cke123,Cke271],[]),8,Ckc0,[8],0),
  (15,(Ckl806,[],Ckf100),7,Ckc0,[9],0),
  (16,(Ckl806,[Cke271],Ckf100),6,Ckc0,[10],0),
  (17,(Ckl806,[Cke7,Cke271],Ckf100),5,Ckc0,[11],0),
  (20,(Ckl806,[],Ckf101),4,Ckc0,[12],0),
  (21,(Ckl806,[Cke271],Ckf101),3,Ckc0,[13],0),
  (24,(Ckl806,[Cke272],Ckf101),2,Ckc0,[14],0),
  (25,(Ckl806,[Cke7,Cke272],Ckf101),1,Ckc0,[15],130),
  (28,(Ckl806,[],Ckf101),0,Ckc0,[],0)]
def CNC157 : List (List ND) := [CNC157_0]
theorem CKC157 : chkS prot SMsC SMC157 [] CNC157 = true := by decide +kernel
-- OneSided.hours [(1, 1), (-2147483648, 2147483647)]
def Cka178 : AV := (0,1,2147483647,1)
def Ckl807 : AL := [some Cka161,some Cka178]
def Cke342 : SE := (Cka178,(1,1,0,0,0))
def Ckl808 : AL := [some Cka161,some Cka85]
def CNC158_0 : List ND := [(0,(Ckl725,[],[]),22,Ckc0,[1],0),
  (1,(Ckl725,[Cke156],[]),21,Ckc0,[2],0),
  (2,(Ckl725,[Cke6,Cke156],[]),20,Ckc0,[6,3],0),
  (5,(Ckl807,[],[]),19,Ckc0,[4],0),
  (6,(Ckl807,[Cke342],[]),18,Ckc0,[5],0),
  (8,(Ckl807,[Cke144,Cke342],[]),17,Ckc0,[8,6],0),
  (11,(Ckl725,[],[]),1,Ckc0,[7],0),
  (12,(Ckl725,[Cke51],[]),0,Ckc0,[],0),
  (13,(Ckl808,[],[]),16,Ckc0,[9],0),
  (14,(Ckl808,[Cke288],[]),15,Ckc0,[10],0),
  (15,(Ckl808,[Cke288,Cke288],[]),14,Ckc0,[11],0),
  (18,(Ckl808,[Cke298,Cke288],[]),13,Ckc0,[12],0),
  (21,(Ckl808,[Cke284,Cke288],[]),12,Ckc0,[13],156),
  (24,(Ckl808,[],[]),11,Ckc0,[14],0),
  (25,(Ckl808,[Cke288],[]),10,Ckc0,[15],0),
  (28,(Ckl808,[Cke298],[]),9,Ckc0,[16],0),
  (31,(Ckl808,[Cke284],[]),8,Ckc0,[17],0),
  (32,(Ckl808,[Cke115,Cke284],[]),7,Ckc0,[18],157),
  (35,(Ckl808,[],[]),6,Ckc0,[19],0),
  (36,(Ckl808,[Cke288],[]),5,Ckc0,[20],0),
  (39,(Ckl808,[Cke298],[]),4,Ckc0,[21],0),
  (42,(Ckl808,[Cke284],[]),3,Ckc0,[22],0),
  (45,(Ckl808,[Cke316],[]),2,Ckc0,[],0)]
def CNC158 : List (List ND) := [CNC158_0]
theorem CKC158 : chkS prot SMsC SMC158 [] CNC158 = true := by decide +kernel
-- OneSided.shut [(1, 1), (-2147483648, 2147483647), (0, 1)]
def Ckl809 : AL := [some Cka161,some Cka34,some Cka96,none]
def Ckl810 : AL := [some Cka161,some Cka62,some Cka96,none]
def Ckl811 : AL := [some Cka161,some Cka62,some Cka96,some Cka96]
def Cke343 : SE := (Cka96,(1,2,0,0,0))
def CNC159_0 : List ND := [(0,(Ckl809,[],[]),42,Ckc7,[1],0),
  (1,(Ckl809,[Cke288],[]),41,Ckc7,[2],0),
  (2,(Ckl809,[Cke156,Cke288],[]),40,Ckc7,[4,3],136),
  (5,(Ckl809,[Cke7],[]),39,Ckc7,[5],0),
  (5,(Ckl810,[Cke6],[]),36,Ckc7,[7],0),
  (8,(Ckl809,[],[]),38,Ckc7,[6],0),
  (9,(Ckl809,[Cke7],[]),37,Ckc7,[],0),
  (10,(Ckl810,[],[]),35,Ckc7,[8],0),
  (11,(Ckl810,[Cke288],[]),34,Ckc7,[9],0),
  (14,(Ckl810,[Cke298],[]),33,Ckc7,[10],0),
  (17,(Ckl810,[Cke284],[]),32,Ckc7,[11],0),
  (20,(Ckl810,[Cke303],[]),31,Ckc7,[12],0),
  (21,(Ckl810,[Cke237,Cke303],[]),30,Ckc7,[13],0),
  (22,(Ckl810,[Cke184],[]),29,Ckc7,[14],0),
  (23,(Ckl810,[Cke6,Cke184],[]),28,Ckc7,[15],0),
  (24,(Ckl810,[Cke242],[]),27,Ckc7,[18,16],0),
  (27,(Ckl810,[],[]),24,Ckc7,[17],0),
  (28,(Ckl810,[Cke6],[]),23,Ckc7,[20],0),
  (31,(Ckl810,[],[]),26,Ckc7,[19],0),
  (32,(Ckl810,[Cke7],[]),25,Ckc7,[21],0),
  (32,(Ckl810,[Cke6],[]),22,Ckc7,[21],0),
  (33,(Ckl811,[],[]),21,Ckc7,[22],0),
  (34,(Ckl811,[Cke142],[]),20,Ckc7,[23],0),
  (35,(Ckl811,[Cke343,Cke142],[]),19,Ckc7,[26,24],0),
  (38,(Ckl811,[],[]),1,Ckc7,[25],0),
  (39,(Ckl811,[Cke7],[]),0,Ckc7,[],0),
  (40,(Ckl811,[],[]),18,Ckc7,[27],0),
  (41,(Ckl811,[Cke288],[]),17,Ckc7,[28],0),
  (42,(Ckl811,[Cke288,Cke288],[]),16,Ckc7,[29],0),
  (45,(Ckl811,[Cke298,Cke288],[]),15,Ckc7,[30],0),
  (48,(Ckl811,[Cke284,Cke288],[]),14,Ckc7,[31],156),
  (51,(Ckl811,[],[]),13,Ckc7,[32],0),
  (52,(Ckl811,[Cke288],[]),12,Ckc7,[33],0),
  (55,(Ckl811,[Cke298],[]),11,Ckc7,[34],0),
  (58,(Ckl811,[Cke284],[]),10,Ckc7,[35],0),
  (59,(Ckl811,[Cke284,Cke284],[]),9,Ckc7,[36],0),
  (62,(Ckl811,[Cke303,Cke284],[]),8,Ckc7,[37],0),
  (63,(Ckl811,[Cke6,Cke303,Cke284],[]),7,Ckc7,[38],0),
  (64,(Ckl811,[Cke237,Cke6,Cke303,Cke284],[]),6,Ckc7,[39],0),
  (65,(Ckl811,[Cke252,Cke303,Cke284],[]),5,Ckc7,[40],0),
  (66,(Ckl811,[Cke184,Cke284],[]),4,Ckc7,[41],0),
  (69,(Ckl811,[],[]),3,Ckc7,[42],0),
  (70,(Ckl811,[Cke6],[]),2,Ckc7,[],1)]
def CNC159 : List (List ND) := [CNC159_0]
theorem CKC159 : chkS prot SMsC SMC159 [(1,1)] CNC159 = true := by decide +kernel
-- OneSided$Scene.copy [(60, 60), (134, 179)]
def Ckl812 : AL := [some Cka157,some Cka169]
def Cke344 : SE := (Cka169,(1,1,0,0,0))
def CNC160_0 : List ND := [(0,(Ckl812,[],[]),32,Ckc0,[1],0),
  (1,(Ckl812,[Cke271],[]),31,Ckc0,[2],0),
  (2,(Ckl812,[Cke344,Cke271],[]),30,Ckc0,[3],0),
  (5,(Ckl812,[Cke234,Cke271],[]),29,Ckc0,[4],0),
  (8,(Ckl812,[],[]),28,Ckc0,[5],0),
  (9,(Ckl812,[Cke271],[]),27,Ckc0,[6],0),
  (10,(Ckl812,[Cke344,Cke271],[]),26,Ckc0,[7],0),
  (13,(Ckl812,[Cke184,Cke271],[]),25,Ckc0,[8],0),
  (16,(Ckl812,[],[]),24,Ckc0,[9],0),
  (17,(Ckl812,[Cke271],[]),23,Ckc0,[10],0),
  (18,(Ckl812,[Cke344,Cke271],[]),22,Ckc0,[11],0),
  (21,(Ckl812,[Cke184,Cke271],[]),21,Ckc0,[12],0),
  (24,(Ckl812,[],[]),20,Ckc0,[13],0),
  (25,(Ckl812,[Cke271],[]),19,Ckc0,[14],0),
  (26,(Ckl812,[Cke344,Cke271],[]),18,Ckc0,[15],0),
  (29,(Ckl812,[Cke184,Cke271],[]),17,Ckc0,[16],0),
  (32,(Ckl812,[],[]),16,Ckc0,[17],0),
  (33,(Ckl812,[Cke344],[]),15,Ckc0,[18],0),
  (36,(Ckl812,[Cke329],[]),14,Ckc0,[19],0),
  (37,(Ckl812,[Cke7,Cke329],[]),13,Ckc0,[20],0),
  (38,(Ckl812,[Cke271,Cke7,Cke329],[]),12,Ckc0,[21],0),
  (41,(Ckl812,[Cke277,Cke7,Cke329],[]),11,Ckc0,[22],0),
  (42,(Ckl812,[Cke7,Cke277,Cke7,Cke329],[]),10,Ckc0,[23],0),
  (44,(Ckl812,[Cke147,Cke7,Cke277,Cke7,Cke329],[]),9,Ckc0,[24],0),
  (47,(Ckl812,[],[]),8,Ckc0,[25],0),
  (48,(Ckl812,[Cke344],[]),7,Ckc0,[26],0),
  (51,(Ckl812,[Cke330],[]),6,Ckc0,[27],0),
  (52,(Ckl812,[Cke7,Cke330],[]),5,Ckc0,[28],0),
  (53,(Ckl812,[Cke271,Cke7,Cke330],[]),4,Ckc0,[29],0),
  (56,(Ckl812,[Cke272,Cke7,Cke330],[]),3,Ckc0,[30],0),
  (57,(Ckl812,[Cke7,Cke272,Cke7,Cke330],[]),2,Ckc0,[31],0),
  (59,(Ckl812,[Cke136,Cke7,Cke272,Cke7,Cke330],[]),1,Ckc0,[32],0),
  (62,(Ckl812,[],[]),0,Ckc0,[],0)]
def CNC160 : List (List ND) := [CNC160_0]
theorem CKC160 : chkS prot SMsC SMC160 [] CNC160 = true := by decide +kernel
-- OneSided.undo [(1, 1)]
def Ckl813 : AL := [some Cka161]
def Ckf102 : FA := [(1,9,Cka7)]
def Cke345 : SE := (Cka175,(2,1,9,0,0))
def CNC161_0 : List ND := [(0,(Ckl813,[],[]),26,Ckc5,[1],0),
  (1,(Ckl813,[Cke288],[]),25,Ckc5,[2],0),
  (4,(Ckl813,[Cke333],[]),24,Ckc5,[5,3],0),
  (7,(Ckl813,[],Ckf102),23,Ckc5,[4],0),
  (8,(Ckl813,[Cke7],Ckf102),22,Ckc5,[],0),
  (9,(Ckl813,[],Ckf98),21,Ckc5,[6],0),
  (10,(Ckl813,[Cke288],Ckf98),20,Ckc5,[7],0),
  (11,(Ckl813,[Cke288,Cke288],Ckf98),19,Ckc5,[8],0),
  (14,(Ckl813,[Cke345,Cke288],Ckf98),18,Ckc5,[9],0),
  (15,(Ckl813,[Cke6,Cke345,Cke288],Ckf98),17,Ckc5,[10],0),
  (16,(Ckl813,[Cke334,Cke288],Ckf98),16,Ckc5,[11],0),
  (19,(Ckl813,[],Ckf97),15,Ckc5,[12],0),
  (20,(Ckl813,[Cke288],Ckf97),14,Ckc5,[13],0),
  (23,(Ckl813,[Cke298],Ckf97),13,Ckc5,[14],0),
  (26,(Ckl813,[Cke284],Ckf97),12,Ckc5,[15],0),
  (27,(Ckl813,[Cke288,Cke284],Ckf97),11,Ckc5,[16],0),
  (30,(Ckl813,[Cke331,Cke284],Ckf97),10,Ckc5,[17],0),
  (31,(Ckl813,[Cke288,Cke331,Cke284],Ckf97),9,Ckc5,[18],0),
  (34,(Ckl813,[Cke332,Cke331,Cke284],Ckf97),8,Ckc5,[19],0),
  (35,(Ckl813,[Cke288,Cke332,Cke331,Cke284],Ckf97),7,Ckc5,[20],0),
  (38,(Ckl813,[Cke336,Cke332,Cke331,Cke284],Ckf97),6,Ckc5,[21],0),
  (39,(Ckl813,[Cke221,Cke331,Cke284],Ckf97),5,Ckc5,[22],0),
  (41,(Ckl813,[Cke55,Cke221,Cke331,Cke284],Ckf97),4,Ckc5,[23],0),
  (44,(Ckl813,[Cke334,Cke331,Cke284],Ckf97),3,Ckc5,[24],0),
  (45,(Ckl813,[Cke335,Cke284],Ckf97),2,Ckc5,[25],160),
  (48,(Ckl813,[],Ckf97),1,Ckc5,[26],0),
  (49,(Ckl813,[Cke6],Ckf97),0,Ckc5,[],1)]
def CNC161 : List (List ND) := [CNC161_0]
theorem CKC161 : chkS prot SMsC SMC161 [] CNC161 = true := by decide +kernel
-- OneSided$Scene.firstFreeHour [(60, 60), (0, 5)]
def Ckl814 : AL := [some Cka157,some Cka67]
def Cke346 : SE := (Cka163,pv0)
def CNC162_0 : List ND := [(0,(Ckl814,[],[]),9,Ckc0,[1],0),
  (1,(Ckl814,[Cke271],[]),8,Ckc0,[2],0),
  (4,(Ckl814,[Cke316],[]),7,Ckc0,[3],0),
  (5,(Ckl814,[Cke271,Cke316],[]),6,Ckc0,[4],0),
  (8,(Ckl814,[Cke307,Cke316],[]),5,Ckc0,[5],0),
  (9,(Ckl814,[Cke305,Cke307,Cke316],[]),4,Ckc0,[6],0),
  (10,(Ckl814,[Cke184,Cke316],[]),3,Ckc0,[7],0),
  (11,(Ckl814,[Cke6,Cke184,Cke316],[]),2,Ckc0,[8],0),
  (12,(Ckl814,[Cke242,Cke316],[]),1,Ckc0,[9],0),
  (13,(Ckl814,[Cke346],[]),0,Ckc0,[],0)]
def CNC162 : List (List ND) := [CNC162_0]
theorem CKC162 : chkS prot SMsC SMC162 [] CNC162 = true := by decide +kernel
-- OneSided$Quarter.entered [(5, 5), (-2147483648, 2147483647), (-2147483648, 2147483647), (-2147483648, 2147483647)]
def Ckl815 : AL := [some Cka50,some Cka34,some Cka34,some Cka34,none,none,none]
def Ckl816 : AL := [some Cka50,some Cka34,some Cka34,some Cka34,some Cka7,none,none]
def Ckl817 : AL := [some Cka50,some Cka34,some Cka34,some Cka34,some Cka147,some Cka63,some Cka65]
def Ckc22 : List Int := [0,0,0,0,0,-51,0]
def Ckl818 : AL := [some Cka50,some Cka34,some Cka34,some Cka34,some Cka7,some Cka7,none]
def Ckl819 : AL := [some Cka50,some Cka34,some Cka34,some Cka34,some Cka147,some Cka6,some Cka65]
def Cke347 : SE := (Cka63,(1,5,0,0,0))
def Cke348 : SE := (Cka63,(2,5,2,0,0))
def Cka179 : AV := (0,1,13,1)
def Ckl820 : AL := [some Cka50,some Cka34,some Cka34,some Cka34,some Cka147,some Cka179,some Cka65]
def Cka180 : AV := (0,2,14,1)
def Ckf103 : FA := [(5,2,Cka180)]
def Cke349 : SE := (Cka179,(1,5,0,0,0))
def Ckl821 : AL := [some Cka50,some Cka34,some Cka34,some Cka34,some Cka147,some Cka62,some Cka65]
def Ckl822 : AL := [some Cka50,some Cka34,some Cka34,some Cka34,some Cka7,some Cka7,some Cka65]
def Cke350 : SE := (Cka147,(1,4,0,0,0))
def Cka181 : AV := (0,1,512,1)
def Cke351 : SE := (Cka181,pv0)
def Ckl823 : AL := [some Cka50,some Cka34,some Cka34,some Cka34,some Cka147,some Cka7,some Cka65]
def Ckf104 : FA := [(5,2,Cka7)]
def CNC163_0 : List ND := [(0,(Ckl815,[],[]),781,Ckc16,[1],0),
  (1,(Ckl815,[Cke7],[]),780,Ckc16,[2],0),
  (3,(Ckl816,[],[]),779,Ckc16,[3],0),
  (4,(Ckl816,[Cke7],[]),778,Ckc16,[5],0),
  (6,(Ckl817,[],Ckf31),767,Ckc22,[8],0),
  (6,(Ckl818,[],[]),777,Ckc16,[6],0),
  (8,(Ckl818,[Cke216],[]),776,Ckc16,[9],0),
  (8,(Ckl819,[Cke219],Ckf31),784,Ckc16,[10],0),
  (8,(Ckl817,[Cke347],Ckf31),766,Ckc22,[11],0),
  (9,(Ckl818,[Cke53,Cke216],[]),775,Ckc16,[12],0),
  (9,(Ckl819,[Cke53,Cke219],Ckf31),783,Ckc16,[13],0),
  (9,(Ckl817,[Cke53,Cke347],Ckf31),765,Ckc22,[14],0),
  (12,(Ckl818,[Cke76,Cke216],[]),774,Ckc16,[76,16],0),
  (12,(Ckl819,[Cke348,Cke219],Ckf31),782,Ckc16,[75,15],0),
  (12,(Ckl817,[Cke348,Cke347],Ckf31),764,Ckc22,[75,15],0),
  (15,(Ckl820,[],Ckf103),763,Ckc22,[17],0),
  (15,(Ckl818,[],Ckf31),773,Ckc16,[18],0),
  (16,(Ckl820,[Cke53],Ckf103),762,Ckc22,[19],0),
  (16,(Ckl818,[Cke53],Ckf31),772,Ckc16,[20],0),
  (19,(Ckl820,[Cke77],Ckf103),761,Ckc22,[23],0),
  (19,(Ckl818,[Cke77],Ckf31),771,Ckc16,[21],0),
  (21,(Ckl818,[Cke216,Cke77],Ckf31),770,Ckc16,[25],0),
  (21,(Ckl819,[Cke219,Cke77],Ckf103),785,Ckc16,[24],0),
  (21,(Ckl820,[Cke349,Cke77],Ckf103),760,Ckc22,[24],0),
  (22,(Ckl820,[Cke79],Ckf103),759,Ckc22,[26],0),
  (22,(Ckl818,[Cke250],Ckf31),769,Ckc16,[26],0),
  (24,(Ckl821,[],Ckf31),758,Ckc22,[27],0),
  (25,(Ckl821,[Cke156],Ckf31),757,Ckc22,[29],0),
  (27,(Ckl822,[Cke216,Cke156],Ckf31),786,Ckc16,[30],0),
  (27,(Ckl821,[Cke247,Cke156],Ckf31),756,Ckc22,[30],0),
  (28,(Ckl821,[Cke184],Ckf31),755,Ckc22,[31],0),
  (29,(Ckl821,[Cke6,Cke184],Ckf31),754,Ckc22,[32],0),
  (30,(Ckl821,[Cke242],Ckf31),753,Ckc22,[52,33],0),
  (33,(Ckl821,[],Ckf31),752,Ckc22,[34],0),
  (34,(Ckl821,[Cke210],Ckf31),751,Ckc22,[35],0),
  (36,(Ckl821,[Cke238,Cke210],Ckf31),750,Ckc22,[36],0),
  (39,(Ckl821,[Cke97,Cke210],Ckf31),749,Ckc22,[37],0),
  (40,(Ckl821,[Cke184],Ckf31),748,Ckc22,[38],0),
  (41,(Ckl821,[Cke6,Cke184],Ckf31),747,Ckc22,[39],0),
  (42,(Ckl821,[Cke242],Ckf31),746,Ckc22,[52,40],0),
  (45,(Ckl821,[],Ckf31),745,Ckc22,[42],0),
  (47,(Ckl822,[Cke166],Ckf31),791,Ckc16,[43],0),
  (47,(Ckl821,[Cke350],Ckf31),744,Ckc22,[44],0),
  (48,(Ckl822,[Cke6,Cke166],Ckf31),790,Ckc16,[45],0),
  (48,(Ckl821,[Cke6,Cke350],Ckf31),743,Ckc22,[46],0),
  (50,(Ckl822,[Cke238,Cke6,Cke166],Ckf31),789,Ckc16,[47],0),
  (50,(Ckl821,[Cke238,Cke6,Cke350],Ckf31),742,Ckc22,[48],0),
  (53,(Ckl822,[Cke97,Cke6,Cke166],Ckf31),788,Ckc16,[49],0),
  (53,(Ckl821,[Cke97,Cke6,Cke350],Ckf31),741,Ckc22,[50],0),
  (54,(Ckl822,[Cke351,Cke166],Ckf31),787,Ckc16,[51],0),
  (54,(Ckl821,[Cke351,Cke350],Ckf31),740,Ckc22,[51],0),
  (55,(Ckl821,[Cke244],Ckf31),739,Ckc22,[52],0),
  (57,(Ckl821,[],Ckf31),738,Ckc22,[53],0),
  (58,(Ckl821,[Cke209],Ckf31),737,Ckc22,[55],0),
  (60,(Ckl823,[Cke216,Cke209],Ckf31),792,Ckc16,[56],0),
  (60,(Ckl821,[Cke247,Cke209],Ckf31),736,Ckc22,[56],0),
  (61,(Ckl821,[Cke184],Ckf31),735,Ckc22,[57],0),
  (62,(Ckl821,[Cke6,Cke184],Ckf31),734,Ckc22,[58],0),
  (63,(Ckl821,[Cke242],Ckf31),733,Ckc22,[73,59],0),
  (66,(Ckl821,[],Ckf31),732,Ckc22,[60],0),
  (67,(Ckl821,[Cke210],Ckf31),731,Ckc22,[61],0),
  (69,(Ckl821,[Cke238,Cke210],Ckf31),730,Ckc22,[62],0),
  (72,(Ckl821,[Cke97,Cke210],Ckf31),729,Ckc22,[63],0),
  (73,(Ckl821,[Cke184],Ckf31),728,Ckc22,[64],0)]
def CNC163_1 : List ND := [(74,(Ckl821,[Cke6,Cke184],Ckf31),727,Ckc22,[65],0),
  (75,(Ckl821,[Cke242],Ckf31),726,Ckc22,[73,66],0),
  (78,(Ckl821,[],Ckf31),725,Ckc22,[67],0),
  (80,(Ckl821,[Cke350],Ckf31),724,Ckc22,[68],0),
  (81,(Ckl821,[Cke6,Cke350],Ckf31),723,Ckc22,[69],0),
  (83,(Ckl821,[Cke238,Cke6,Cke350],Ckf31),722,Ckc22,[70],0),
  (86,(Ckl821,[Cke97,Cke6,Cke350],Ckf31),721,Ckc22,[71],0),
  (87,(Ckl821,[Cke351,Cke350],Ckf31),720,Ckc22,[72],0),
  (88,(Ckl821,[Cke244],Ckf31),719,Ckc22,[73],0),
  (90,(Ckl821,[],Ckf31),718,Ckc22,[74],0),
  (93,(Ckl817,[],Ckf31),768,Ckc22,[4],0),
  (96,(Ckl817,[],Ckf31),3,Ckc16,[78],0),
  (96,(Ckl818,[],Ckf104),1,Ckc16,[77],0),
  (98,(Ckl818,[Cke166],Ckf104),0,Ckc16,[],0),
  (98,(Ckl817,[Cke350],Ckf31),2,Ckc16,[],0)]
def CNC163 : List (List ND) := [CNC163_0, CNC163_1]
theorem CKC163 : chkS prot SMsC SMC163 [] CNC163 = true := by decide +kernel
-- OneSided$Plans.nextRooms [(5, 5), (60, 60), (0, 3), (0, 24), (-2147483648, 2147483647)]
def Ckl824 : AL := [some Cka50,some Cka157,some Cka80,some Cka143,some Cka34,none,none]
def Cke352 : SE := (Cka143,(1,3,0,0,0))
def Ckl825 : AL := [some Cka50,some Cka157,some Cka80,some Cka143,some Cka34,some Cka34,none]
def Ckl826 : AL := [some Cka50,some Cka157,some Cka80,some Cka143,some Cka34,some Cka34,some Cka34]
def Cke353 : SE := (Cka34,(1,6,0,0,0))
def CNC164_0 : List ND := [(0,(Ckl824,[],[]),19,Ckc16,[1],0),
  (1,(Ckl824,[Cke53],[]),18,Ckc16,[2],0),
  (2,(Ckl824,[Cke108,Cke53],[]),17,Ckc16,[3],0),
  (3,(Ckl824,[Cke352,Cke108,Cke53],[]),16,Ckc16,[4],0),
  (4,(Ckl824,[Cke315,Cke352,Cke108,Cke53],[]),15,Ckc16,[5],0),
  (7,(Ckl824,[Cke303,Cke352,Cke108,Cke53],[]),14,Ckc16,[6],142),
  (10,(Ckl824,[Cke184],[]),13,Ckc16,[7],0),
  (12,(Ckl825,[],[]),12,Ckc16,[8],0),
  (13,(Ckl825,[Cke53],[]),11,Ckc16,[9],0),
  (14,(Ckl825,[Cke108,Cke53],[]),10,Ckc16,[10],0),
  (15,(Ckl825,[Cke352,Cke108,Cke53],[]),9,Ckc16,[11],0),
  (16,(Ckl825,[Cke315,Cke352,Cke108,Cke53],[]),8,Ckc16,[12],0),
  (19,(Ckl825,[Cke303,Cke352,Cke108,Cke53],[]),7,Ckc16,[13],143),
  (22,(Ckl825,[Cke184],[]),6,Ckc16,[14],0),
  (24,(Ckl826,[],[]),5,Ckc16,[15],0),
  (25,(Ckl826,[Cke53],[]),4,Ckc16,[16],0),
  (27,(Ckl826,[Cke311,Cke53],[]),3,Ckc16,[17],0),
  (29,(Ckl826,[Cke353,Cke311,Cke53],[]),2,Ckc16,[18],0),
  (31,(Ckl826,[Cke211,Cke353,Cke311,Cke53],[]),1,Ckc16,[19],163),
  (34,(Ckl826,[Cke244],[]),0,Ckc16,[],0)]
def CNC164 : List (List ND) := [CNC164_0]
theorem CKC164 : chkS prot SMsC SMC164 [] CNC164 = true := by decide +kernel
-- OneSided$Plans.firstHourIn [(77, 77), (5, 5), (60, 60), (0, 5), (0, 9)]
def Cka182 : AV := (2,77,77,0)
def Ckl827 : AL := [some Cka182,some Cka50,some Cka157,some Cka67,some Cka77,none,none,none]
def Cke354 : SE := (Cka157,(1,2,0,0,0))
def Cke355 : SE := (Cka77,(1,4,0,0,0))
def Ckl828 : AL := [some Cka182,some Cka50,some Cka157,some Cka67,some Cka77,some Cka80,none,none]
def Ckl829 : AL := [some Cka182,some Cka50,some Cka157,some Cka67,some Cka77,some Cka80,some Cka181,none]
def Ckl830 : AL := [some Cka182,some Cka50,some Cka157,some Cka67,some Cka77,some Cka80,some Cka147,some Cka163]
def Ckc23 : List Int := [0,0,0,0,0,0,0,-20]
def Cke356 : SE := (Cka163,(1,7,0,0,0))
def Ckl831 : AL := [some Cka182,some Cka50,some Cka157,some Cka67,some Cka77,some Cka80,some Cka147,some Cka84]
def Cke357 : SE := (Cka80,(1,5,0,0,0))
def Cke358 : SE := (Cka84,(1,7,0,0,0))
def Ckl832 : AL := [some Cka182,some Cka50,some Cka157,some Cka67,some Cka77,some Cka80,some Cka147,some Cka85]
def Ckl833 : AL := [some Cka182,some Cka50,some Cka157,some Cka67,some Cka77,some Cka80,some Cka147,some Cka164]
def CNC165_0 : List ND := [(0,(Ckl827,[],[]),549,Ckc13,[1],0),
  (1,(Ckl827,[Cke354],[]),548,Ckc13,[2],0),
  (4,(Ckl827,[Cke277],[]),547,Ckc13,[3],0),
  (5,(Ckl827,[Cke84,Cke277],[]),546,Ckc13,[4],0),
  (6,(Ckl827,[Cke97],[]),545,Ckc13,[5],0),
  (8,(Ckl827,[Cke355,Cke97],[]),544,Ckc13,[9,6],0),
  (11,(Ckl827,[],[]),2,Ckc13,[7],0),
  (12,(Ckl827,[Cke354],[]),1,Ckc13,[8],0),
  (15,(Ckl827,[Cke316],[]),0,Ckc13,[],0),
  (16,(Ckl827,[],[]),543,Ckc13,[10],0),
  (17,(Ckl827,[Cke86],[]),542,Ckc13,[11],0),
  (20,(Ckl827,[Cke83],[]),541,Ckc13,[12],0),
  (21,(Ckl827,[Cke84,Cke83],[]),540,Ckc13,[13],0),
  (22,(Ckl827,[Cke85],[]),539,Ckc13,[14],0),
  (25,(Ckl827,[Cke141],[]),538,Ckc13,[15],0),
  (27,(Ckl828,[],[]),537,Ckc13,[16],0),
  (28,(Ckl828,[Cke6],[]),536,Ckc13,[17],0),
  (29,(Ckl828,[Cke354,Cke6],[]),535,Ckc13,[18],0),
  (32,(Ckl828,[Cke277,Cke6],[]),534,Ckc13,[19],0),
  (33,(Ckl828,[Cke84,Cke277,Cke6],[]),533,Ckc13,[20],0),
  (34,(Ckl828,[Cke97,Cke6],[]),532,Ckc13,[21],0),
  (35,(Ckl828,[Cke351],[]),531,Ckc13,[22],0),
  (37,(Ckl829,[],[]),530,Ckc13,[23],0),
  (38,(Ckl829,[Cke354],[]),529,Ckc13,[24],0),
  (39,(Ckl829,[Cke84,Cke354],[]),528,Ckc13,[25],162),
  (42,(Ckl829,[Cke346],[]),527,Ckc13,[26],0),
  (44,(Ckl830,[],[]),525,Ckc23,[27],0),
  (46,(Ckl830,[Cke356],[]),524,Ckc23,[28],0),
  (48,(Ckl830,[Cke144,Cke356],[]),523,Ckc23,[48,29],0),
  (51,(Ckl831,[],[]),522,Ckc23,[30],0),
  (53,(Ckl831,[Cke251],[]),521,Ckc23,[31],0),
  (54,(Ckl831,[Cke86,Cke251],[]),520,Ckc23,[32],0),
  (55,(Ckl831,[Cke354,Cke86,Cke251],[]),519,Ckc23,[33],0),
  (57,(Ckl831,[Cke357,Cke354,Cke86,Cke251],[]),518,Ckc23,[34],0),
  (59,(Ckl831,[Cke358,Cke357,Cke354,Cke86,Cke251],[]),517,Ckc23,[35],0),
  (61,(Ckl831,[Cke251,Cke358,Cke357,Cke354,Cke86,Cke251],[]),516,Ckc23,[36],164),
  (64,(Ckl831,[Cke244,Cke251],[]),515,Ckc23,[37],0),
  (65,(Ckl831,[Cke244],[]),514,Ckc23,[38],0),
  (67,(Ckl831,[],[]),513,Ckc23,[39],0),
  (69,(Ckl831,[Cke251],[]),512,Ckc23,[40],0),
  (71,(Ckl831,[Cke355,Cke251],[]),511,Ckc23,[41],0),
  (72,(Ckl831,[Cke244],[]),510,Ckc23,[42],0),
  (73,(Ckl831,[Cke6,Cke244],[]),509,Ckc23,[43],0),
  (74,(Ckl831,[Cke242],[]),508,Ckc23,[46,44],0),
  (77,(Ckl831,[],[]),6,Ckc13,[45],0),
  (79,(Ckl831,[Cke358],[]),5,Ckc13,[],0),
  (80,(Ckl831,[],[]),507,Ckc23,[47],0),
  (83,(Ckl832,[],[]),526,Ckc23,[26],0),
  (86,(Ckl833,[],[]),4,Ckc13,[49],0),
  (87,(Ckl833,[Cke51],[]),3,Ckc13,[],0)]
def CNC165 : List (List ND) := [CNC165_0]
theorem CKC165 : chkS prot SMsC SMC165 [] CNC165 = true := by decide +kernel
-- OneSided$Quarter.entered [(32, 32), (-2147483648, 2147483647), (-2147483648, 2147483647), (-2147483648, 2147483647)]
def Ckl834 : AL := [some Cka121,some Cka34,some Cka34,some Cka34,none,none,none]
def Ckl835 : AL := [some Cka121,some Cka34,some Cka34,some Cka34,some Cka7,none,none]
def Ckl836 : AL := [some Cka121,some Cka34,some Cka34,some Cka34,some Cka147,some Cka63,some Cka123]
def Ckl837 : AL := [some Cka121,some Cka34,some Cka34,some Cka34,some Cka7,some Cka7,none]
def Ckl838 : AL := [some Cka121,some Cka34,some Cka34,some Cka34,some Cka147,some Cka6,some Cka123]
def Cke359 : SE := (Cka63,(2,32,2,0,0))
def Ckl839 : AL := [some Cka121,some Cka34,some Cka34,some Cka34,some Cka147,some Cka179,some Cka123]
def Ckf105 : FA := [(32,2,Cka180)]
def Ckl840 : AL := [some Cka121,some Cka34,some Cka34,some Cka34,some Cka147,some Cka62,some Cka123]
def Ckl841 : AL := [some Cka121,some Cka34,some Cka34,some Cka34,some Cka7,some Cka7,some Cka123]
def Ckl842 : AL := [some Cka121,some Cka34,some Cka34,some Cka34,some Cka147,some Cka7,some Cka123]
def Ckf106 : FA := [(32,2,Cka7)]
def CNC166_0 : List ND := [(0,(Ckl834,[],[]),781,Ckc16,[1],0),
  (1,(Ckl834,[Cke7],[]),780,Ckc16,[2],0),
  (3,(Ckl835,[],[]),779,Ckc16,[3],0),
  (4,(Ckl835,[Cke7],[]),778,Ckc16,[5],0),
  (6,(Ckl836,[],Ckf58),767,Ckc22,[8],0),
  (6,(Ckl837,[],[]),777,Ckc16,[6],0),
  (8,(Ckl837,[Cke216],[]),776,Ckc16,[9],0),
  (8,(Ckl838,[Cke219],Ckf58),784,Ckc16,[10],0),
  (8,(Ckl836,[Cke347],Ckf58),766,Ckc22,[11],0),
  (9,(Ckl837,[Cke193,Cke216],[]),775,Ckc16,[12],0),
  (9,(Ckl838,[Cke193,Cke219],Ckf58),783,Ckc16,[13],0),
  (9,(Ckl836,[Cke193,Cke347],Ckf58),765,Ckc22,[14],0),
  (12,(Ckl837,[Cke194,Cke216],[]),774,Ckc16,[76,16],0),
  (12,(Ckl838,[Cke359,Cke219],Ckf58),782,Ckc16,[75,15],0),
  (12,(Ckl836,[Cke359,Cke347],Ckf58),764,Ckc22,[75,15],0),
  (15,(Ckl839,[],Ckf105),763,Ckc22,[17],0),
  (15,(Ckl837,[],Ckf58),773,Ckc16,[18],0),
  (16,(Ckl839,[Cke193],Ckf105),762,Ckc22,[19],0),
  (16,(Ckl837,[Cke193],Ckf58),772,Ckc16,[20],0),
  (19,(Ckl839,[Cke195],Ckf105),761,Ckc22,[23],0),
  (19,(Ckl837,[Cke195],Ckf58),771,Ckc16,[21],0),
  (21,(Ckl837,[Cke216,Cke195],Ckf58),770,Ckc16,[25],0),
  (21,(Ckl838,[Cke219,Cke195],Ckf105),785,Ckc16,[24],0),
  (21,(Ckl839,[Cke349,Cke195],Ckf105),760,Ckc22,[24],0),
  (22,(Ckl839,[Cke196],Ckf105),759,Ckc22,[26],0),
  (22,(Ckl837,[Cke265],Ckf58),769,Ckc16,[26],0),
  (24,(Ckl840,[],Ckf58),758,Ckc22,[27],0),
  (25,(Ckl840,[Cke156],Ckf58),757,Ckc22,[29],0),
  (27,(Ckl841,[Cke216,Cke156],Ckf58),786,Ckc16,[30],0),
  (27,(Ckl840,[Cke247,Cke156],Ckf58),756,Ckc22,[30],0),
  (28,(Ckl840,[Cke184],Ckf58),755,Ckc22,[31],0),
  (29,(Ckl840,[Cke6,Cke184],Ckf58),754,Ckc22,[32],0),
  (30,(Ckl840,[Cke242],Ckf58),753,Ckc22,[52,33],0),
  (33,(Ckl840,[],Ckf58),752,Ckc22,[34],0),
  (34,(Ckl840,[Cke210],Ckf58),751,Ckc22,[35],0),
  (36,(Ckl840,[Cke264,Cke210],Ckf58),750,Ckc22,[36],0),
  (39,(Ckl840,[Cke97,Cke210],Ckf58),749,Ckc22,[37],0),
  (40,(Ckl840,[Cke184],Ckf58),748,Ckc22,[38],0),
  (41,(Ckl840,[Cke6,Cke184],Ckf58),747,Ckc22,[39],0),
  (42,(Ckl840,[Cke242],Ckf58),746,Ckc22,[52,40],0),
  (45,(Ckl840,[],Ckf58),745,Ckc22,[42],0),
  (47,(Ckl841,[Cke166],Ckf58),791,Ckc16,[43],0),
  (47,(Ckl840,[Cke350],Ckf58),744,Ckc22,[44],0),
  (48,(Ckl841,[Cke6,Cke166],Ckf58),790,Ckc16,[45],0),
  (48,(Ckl840,[Cke6,Cke350],Ckf58),743,Ckc22,[46],0),
  (50,(Ckl841,[Cke264,Cke6,Cke166],Ckf58),789,Ckc16,[47],0),
  (50,(Ckl840,[Cke264,Cke6,Cke350],Ckf58),742,Ckc22,[48],0),
  (53,(Ckl841,[Cke97,Cke6,Cke166],Ckf58),788,Ckc16,[49],0),
  (53,(Ckl840,[Cke97,Cke6,Cke350],Ckf58),741,Ckc22,[50],0),
  (54,(Ckl841,[Cke351,Cke166],Ckf58),787,Ckc16,[51],0),
  (54,(Ckl840,[Cke351,Cke350],Ckf58),740,Ckc22,[51],0),
  (55,(Ckl840,[Cke244],Ckf58),739,Ckc22,[52],0),
  (57,(Ckl840,[],Ckf58),738,Ckc22,[53],0),
  (58,(Ckl840,[Cke209],Ckf58),737,Ckc22,[55],0),
  (60,(Ckl842,[Cke216,Cke209],Ckf58),792,Ckc16,[56],0),
  (60,(Ckl840,[Cke247,Cke209],Ckf58),736,Ckc22,[56],0),
  (61,(Ckl840,[Cke184],Ckf58),735,Ckc22,[57],0),
  (62,(Ckl840,[Cke6,Cke184],Ckf58),734,Ckc22,[58],0),
  (63,(Ckl840,[Cke242],Ckf58),733,Ckc22,[73,59],0),
  (66,(Ckl840,[],Ckf58),732,Ckc22,[60],0),
  (67,(Ckl840,[Cke210],Ckf58),731,Ckc22,[61],0),
  (69,(Ckl840,[Cke264,Cke210],Ckf58),730,Ckc22,[62],0),
  (72,(Ckl840,[Cke97,Cke210],Ckf58),729,Ckc22,[63],0),
  (73,(Ckl840,[Cke184],Ckf58),728,Ckc22,[64],0)]
def CNC166_1 : List ND := [(74,(Ckl840,[Cke6,Cke184],Ckf58),727,Ckc22,[65],0),
  (75,(Ckl840,[Cke242],Ckf58),726,Ckc22,[73,66],0),
  (78,(Ckl840,[],Ckf58),725,Ckc22,[67],0),
  (80,(Ckl840,[Cke350],Ckf58),724,Ckc22,[68],0),
  (81,(Ckl840,[Cke6,Cke350],Ckf58),723,Ckc22,[69],0),
  (83,(Ckl840,[Cke264,Cke6,Cke350],Ckf58),722,Ckc22,[70],0),
  (86,(Ckl840,[Cke97,Cke6,Cke350],Ckf58),721,Ckc22,[71],0),
  (87,(Ckl840,[Cke351,Cke350],Ckf58),720,Ckc22,[72],0),
  (88,(Ckl840,[Cke244],Ckf58),719,Ckc22,[73],0),
  (90,(Ckl840,[],Ckf58),718,Ckc22,[74],0),
  (93,(Ckl836,[],Ckf58),768,Ckc22,[4],0),
  (96,(Ckl836,[],Ckf58),3,Ckc16,[78],0),
  (96,(Ckl837,[],Ckf106),1,Ckc16,[77],0),
  (98,(Ckl837,[Cke166],Ckf106),0,Ckc16,[],0),
  (98,(Ckl836,[Cke350],Ckf58),2,Ckc16,[],0)]
def CNC166 : List (List ND) := [CNC166_0, CNC166_1]
theorem CKC166 : chkS prot SMsC SMC166 [] CNC166 = true := by decide +kernel
-- OneSided$Plans.nextRooms [(32, 32), (60, 60), (0, 3), (0, 24), (-2147483648, 2147483647)]
def Ckl843 : AL := [some Cka121,some Cka157,some Cka80,some Cka143,some Cka34,none,none]
def Ckl844 : AL := [some Cka121,some Cka157,some Cka80,some Cka143,some Cka34,some Cka34,none]
def Ckl845 : AL := [some Cka121,some Cka157,some Cka80,some Cka143,some Cka34,some Cka34,some Cka34]
def CNC167_0 : List ND := [(0,(Ckl843,[],[]),19,Ckc16,[1],0),
  (1,(Ckl843,[Cke193],[]),18,Ckc16,[2],0),
  (2,(Ckl843,[Cke108,Cke193],[]),17,Ckc16,[3],0),
  (3,(Ckl843,[Cke352,Cke108,Cke193],[]),16,Ckc16,[4],0),
  (4,(Ckl843,[Cke315,Cke352,Cke108,Cke193],[]),15,Ckc16,[5],0),
  (7,(Ckl843,[Cke303,Cke352,Cke108,Cke193],[]),14,Ckc16,[6],145),
  (10,(Ckl843,[Cke184],[]),13,Ckc16,[7],0),
  (12,(Ckl844,[],[]),12,Ckc16,[8],0),
  (13,(Ckl844,[Cke193],[]),11,Ckc16,[9],0),
  (14,(Ckl844,[Cke108,Cke193],[]),10,Ckc16,[10],0),
  (15,(Ckl844,[Cke352,Cke108,Cke193],[]),9,Ckc16,[11],0),
  (16,(Ckl844,[Cke315,Cke352,Cke108,Cke193],[]),8,Ckc16,[12],0),
  (19,(Ckl844,[Cke303,Cke352,Cke108,Cke193],[]),7,Ckc16,[13],146),
  (22,(Ckl844,[Cke184],[]),6,Ckc16,[14],0),
  (24,(Ckl845,[],[]),5,Ckc16,[15],0),
  (25,(Ckl845,[Cke193],[]),4,Ckc16,[16],0),
  (27,(Ckl845,[Cke311,Cke193],[]),3,Ckc16,[17],0),
  (29,(Ckl845,[Cke353,Cke311,Cke193],[]),2,Ckc16,[18],0),
  (31,(Ckl845,[Cke211,Cke353,Cke311,Cke193],[]),1,Ckc16,[19],166),
  (34,(Ckl845,[Cke244],[]),0,Ckc16,[],0)]
def CNC167 : List (List ND) := [CNC167_0]
theorem CKC167 : chkS prot SMsC SMC167 [] CNC167 = true := by decide +kernel
-- OneSided$Plans.firstHourIn [(77, 77), (32, 32), (60, 60), (0, 5), (0, 9)]
def Ckl846 : AL := [some Cka182,some Cka121,some Cka157,some Cka67,some Cka77,none,none,none]
def Ckl847 : AL := [some Cka182,some Cka121,some Cka157,some Cka67,some Cka77,some Cka80,none,none]
def Ckl848 : AL := [some Cka182,some Cka121,some Cka157,some Cka67,some Cka77,some Cka80,some Cka181,none]
def Ckl849 : AL := [some Cka182,some Cka121,some Cka157,some Cka67,some Cka77,some Cka80,some Cka147,some Cka163]
def Ckl850 : AL := [some Cka182,some Cka121,some Cka157,some Cka67,some Cka77,some Cka80,some Cka147,some Cka84]
def Ckl851 : AL := [some Cka182,some Cka121,some Cka157,some Cka67,some Cka77,some Cka80,some Cka147,some Cka85]
def Ckl852 : AL := [some Cka182,some Cka121,some Cka157,some Cka67,some Cka77,some Cka80,some Cka147,some Cka164]
def CNC168_0 : List ND := [(0,(Ckl846,[],[]),549,Ckc13,[1],0),
  (1,(Ckl846,[Cke354],[]),548,Ckc13,[2],0),
  (4,(Ckl846,[Cke277],[]),547,Ckc13,[3],0),
  (5,(Ckl846,[Cke84,Cke277],[]),546,Ckc13,[4],0),
  (6,(Ckl846,[Cke97],[]),545,Ckc13,[5],0),
  (8,(Ckl846,[Cke355,Cke97],[]),544,Ckc13,[9,6],0),
  (11,(Ckl846,[],[]),2,Ckc13,[7],0),
  (12,(Ckl846,[Cke354],[]),1,Ckc13,[8],0),
  (15,(Ckl846,[Cke316],[]),0,Ckc13,[],0),
  (16,(Ckl846,[],[]),543,Ckc13,[10],0),
  (17,(Ckl846,[Cke200],[]),542,Ckc13,[11],0),
  (20,(Ckl846,[Cke198],[]),541,Ckc13,[12],0),
  (21,(Ckl846,[Cke84,Cke198],[]),540,Ckc13,[13],0),
  (22,(Ckl846,[Cke199],[]),539,Ckc13,[14],0),
  (25,(Ckl846,[Cke141],[]),538,Ckc13,[15],0),
  (27,(Ckl847,[],[]),537,Ckc13,[16],0),
  (28,(Ckl847,[Cke6],[]),536,Ckc13,[17],0),
  (29,(Ckl847,[Cke354,Cke6],[]),535,Ckc13,[18],0),
  (32,(Ckl847,[Cke277,Cke6],[]),534,Ckc13,[19],0),
  (33,(Ckl847,[Cke84,Cke277,Cke6],[]),533,Ckc13,[20],0),
  (34,(Ckl847,[Cke97,Cke6],[]),532,Ckc13,[21],0),
  (35,(Ckl847,[Cke351],[]),531,Ckc13,[22],0),
  (37,(Ckl848,[],[]),530,Ckc13,[23],0),
  (38,(Ckl848,[Cke354],[]),529,Ckc13,[24],0),
  (39,(Ckl848,[Cke84,Cke354],[]),528,Ckc13,[25],162),
  (42,(Ckl848,[Cke346],[]),527,Ckc13,[26],0),
  (44,(Ckl849,[],[]),525,Ckc23,[27],0),
  (46,(Ckl849,[Cke356],[]),524,Ckc23,[28],0),
  (48,(Ckl849,[Cke144,Cke356],[]),523,Ckc23,[48,29],0),
  (51,(Ckl850,[],[]),522,Ckc23,[30],0),
  (53,(Ckl850,[Cke251],[]),521,Ckc23,[31],0),
  (54,(Ckl850,[Cke200,Cke251],[]),520,Ckc23,[32],0),
  (55,(Ckl850,[Cke354,Cke200,Cke251],[]),519,Ckc23,[33],0),
  (57,(Ckl850,[Cke357,Cke354,Cke200,Cke251],[]),518,Ckc23,[34],0),
  (59,(Ckl850,[Cke358,Cke357,Cke354,Cke200,Cke251],[]),517,Ckc23,[35],0),
  (61,(Ckl850,[Cke251,Cke358,Cke357,Cke354,Cke200,Cke251],[]),516,Ckc23,[36],167),
  (64,(Ckl850,[Cke244,Cke251],[]),515,Ckc23,[37],0),
  (65,(Ckl850,[Cke244],[]),514,Ckc23,[38],0),
  (67,(Ckl850,[],[]),513,Ckc23,[39],0),
  (69,(Ckl850,[Cke251],[]),512,Ckc23,[40],0),
  (71,(Ckl850,[Cke355,Cke251],[]),511,Ckc23,[41],0),
  (72,(Ckl850,[Cke244],[]),510,Ckc23,[42],0),
  (73,(Ckl850,[Cke6,Cke244],[]),509,Ckc23,[43],0),
  (74,(Ckl850,[Cke242],[]),508,Ckc23,[46,44],0),
  (77,(Ckl850,[],[]),6,Ckc13,[45],0),
  (79,(Ckl850,[Cke358],[]),5,Ckc13,[],0),
  (80,(Ckl850,[],[]),507,Ckc23,[47],0),
  (83,(Ckl851,[],[]),526,Ckc23,[26],0),
  (86,(Ckl852,[],[]),4,Ckc13,[49],0),
  (87,(Ckl852,[Cke51],[]),3,Ckc13,[],0)]
def CNC168 : List (List ND) := [CNC168_0]
theorem CKC168 : chkS prot SMsC SMC168 [] CNC168 = true := by decide +kernel
-- OneSided.soonest [(1, 1), (-2147483648, 2147483647), (-2147483648, 2147483647)]
def Ckl853 : AL := [some Cka161,some Cka67,some Cka34]
def Ckl854 : AL := [some Cka161,some Cka67,some Cka77]
def Cke360 : SE := (Cka182,(2,1,10,0,0))
def Cke361 : SE := (Cka77,(1,2,0,0,0))
def Cke362 : SE := (Cka101,pv0)
def CNC169_0 : List ND := [(0,(Ckl771,[],[]),28,Ckc1,[1],0),
  (1,(Ckl771,[Cke288],[]),27,Ckc1,[2],0),
  (2,(Ckl771,[Cke156,Cke288],[]),26,Ckc1,[4,3],138),
  (5,(Ckl771,[Cke7],[]),25,Ckc1,[10],0),
  (5,(Ckl853,[Cke6],[]),24,Ckc1,[5],0),
  (8,(Ckl853,[],[]),23,Ckc1,[6],0),
  (9,(Ckl853,[Cke288],[]),22,Ckc1,[7],0),
  (10,(Ckl853,[Cke209,Cke288],[]),21,Ckc1,[9,8],140),
  (13,(Ckl853,[Cke7],[]),20,Ckc1,[10],0),
  (13,(Ckl854,[Cke6],[]),17,Ckc1,[12],0),
  (16,(Ckl771,[],[]),19,Ckc1,[11],0),
  (17,(Ckl771,[Cke51],[]),18,Ckc1,[],0),
  (18,(Ckl854,[],[]),16,Ckc1,[13],0),
  (19,(Ckl854,[Cke288],[]),15,Ckc1,[14],0),
  (22,(Ckl854,[Cke360],[]),14,Ckc1,[15],0),
  (23,(Ckl854,[Cke288,Cke360],[]),13,Ckc1,[17,16],0),
  (26,(Ckl854,[Cke290,Cke360],[]),12,Ckc1,[18],0),
  (26,(Ckl854,[Cke291,Cke360],[]),6,Ckc1,[19],0),
  (27,(Ckl854,[Cke288,Cke290,Cke360],[]),11,Ckc1,[20],0),
  (27,(Ckl854,[Cke288,Cke291,Cke360],[]),5,Ckc1,[21],0),
  (30,(Ckl854,[Cke298,Cke290,Cke360],[]),10,Ckc1,[22],0),
  (30,(Ckl854,[Cke298,Cke291,Cke360],[]),4,Ckc1,[23],0),
  (33,(Ckl854,[Cke284,Cke290,Cke360],[]),9,Ckc1,[24],0),
  (33,(Ckl854,[Cke284,Cke291,Cke360],[]),3,Ckc1,[25],0),
  (34,(Ckl854,[Cke305,Cke284,Cke290,Cke360],[]),8,Ckc1,[26],0),
  (34,(Ckl854,[Cke305,Cke284,Cke291,Cke360],[]),2,Ckc1,[27],0),
  (35,(Ckl854,[Cke361,Cke305,Cke284,Cke290,Cke360],[]),7,Ckc1,[28],168),
  (35,(Ckl854,[Cke361,Cke305,Cke284,Cke291,Cke360],[]),1,Ckc1,[28],165),
  (38,(Ckl854,[Cke362],[]),0,Ckc1,[],0)]
def CNC169 : List (List ND) := [CNC169_0]
theorem CKC169 : chkS prot SMsC SMC169 [] CNC169 = true := by decide +kernel
-- OneSided$Plans.homeHour [(77, 77), (5, 5), (60, 60), (0, 5)]
def Ckl855 : AL := [some Cka182,some Cka50,some Cka157,some Cka67,none,none,none,none,none,none,none]
def Ckc24 : List Int := [0,0,0,0,0,0,0,0,0,0,0]
def Ckl856 : AL := [some Cka182,some Cka50,some Cka157,some Cka67,some Cka70,none,none,none,none,none,none]
def Ckl857 : AL := [some Cka182,some Cka50,some Cka157,some Cka67,some Cka70,some Cka181,none,none,none,none,none]
def Ckl858 : AL := [some Cka182,some Cka50,some Cka157,some Cka67,some Cka70,some Cka181,some Cka96,none,none,none,none]
def Cke363 : SE := (Cka96,(1,6,0,0,0))
def Ckl859 : AL := [some Cka182,some Cka50,some Cka157,some Cka67,some Cka70,some Cka181,some Cka6,none,none,none,none]
def Ckl860 : AL := [some Cka182,some Cka50,some Cka157,some Cka67,some Cka70,some Cka181,some Cka7,none,none,none,none]
def Cka183 : AV := (0,0,512,1)
def Ckl861 : AL := [some Cka182,some Cka50,some Cka157,some Cka67,some Cka70,some Cka181,some Cka96,some Cka183,none,none,none]
def Ckl862 : AL := [some Cka182,some Cka50,some Cka157,some Cka67,some Cka70,some Cka181,some Cka6,some Cka183,none,none,none]
def Ckl863 : AL := [some Cka182,some Cka50,some Cka157,some Cka67,some Cka70,some Cka181,some Cka7,some Cka183,none,none,none]
def Ckl864 : AL := [some Cka182,some Cka50,some Cka157,some Cka67,some Cka70,some Cka181,some Cka96,some Cka183,some Cka183,none,none]
def Cke364 : SE := (Cka183,(1,8,0,0,0))
def Cke365 : SE := (Cka183,pv0)
def Ckl865 : AL := [some Cka182,some Cka50,some Cka157,some Cka67,some Cka70,some Cka181,some Cka96,some Cka147,some Cka147,some Cka163,none]
def Ckc25 : List Int := [0,0,0,0,0,0,0,0,0,-42,0]
def Cke366 : SE := (Cka163,(1,9,0,0,0))
def Ckl866 : AL := [some Cka182,some Cka50,some Cka157,some Cka67,some Cka70,some Cka181,some Cka96,some Cka147,some Cka147,some Cka84,none]
def Cke367 : SE := (Cka84,(1,9,0,0,0))
def Cke368 : SE := (Cka147,(1,7,0,0,0))
def Ckl867 : AL := [some Cka182,some Cka50,some Cka157,some Cka67,some Cka70,some Cka181,some Cka96,some Cka147,some Cka147,some Cka84,some Cka147]
def Cke369 : SE := (Cka147,(1,10,0,0,0))
def Cke370 : SE := (Cka181,(1,5,0,0,0))
def Ckl868 : AL := [some Cka182,some Cka50,some Cka157,some Cka67,some Cka70,some Cka181,some Cka96,some Cka147,some Cka147,some Cka85,some Cka147]
def Ckl869 : AL := [some Cka182,some Cka50,some Cka157,some Cka67,some Cka70,some Cka181,some Cka96,some Cka147,some Cka147,some Cka164,none]
def CNC170_0 : List ND := [(0,(Ckl855,[],[]),1155,Ckc24,[1],0),
  (1,(Ckl855,[Cke86],[]),1154,Ckc24,[2],0),
  (4,(Ckl855,[Cke83],[]),1153,Ckc24,[3],0),
  (5,(Ckl855,[Cke84,Cke83],[]),1152,Ckc24,[4],0),
  (6,(Ckl855,[Cke85],[]),1151,Ckc24,[5],0),
  (8,(Ckl856,[],[]),1150,Ckc24,[6],0),
  (9,(Ckl856,[Cke6],[]),1149,Ckc24,[7],0),
  (11,(Ckl856,[Cke319,Cke6],[]),1148,Ckc24,[8],0),
  (14,(Ckl856,[Cke97,Cke6],[]),1147,Ckc24,[9],0),
  (15,(Ckl856,[Cke351],[]),1146,Ckc24,[10],0),
  (17,(Ckl857,[],[]),1145,Ckc24,[11],0),
  (18,(Ckl857,[Cke354],[]),1144,Ckc24,[12],0),
  (21,(Ckl857,[Cke306],[]),1143,Ckc24,[13],0),
  (22,(Ckl857,[Cke84,Cke306],[]),1142,Ckc24,[14],0),
  (23,(Ckl857,[Cke184],[]),1141,Ckc24,[15],0),
  (24,(Ckl857,[Cke6,Cke184],[]),1140,Ckc24,[16],0),
  (25,(Ckl857,[Cke242],[]),1139,Ckc24,[19,17],0),
  (28,(Ckl857,[],[]),1136,Ckc24,[18],0),
  (29,(Ckl857,[Cke6],[]),1135,Ckc24,[21],0),
  (32,(Ckl857,[],[]),1138,Ckc24,[20],0),
  (33,(Ckl857,[Cke7],[]),1137,Ckc24,[22],0),
  (33,(Ckl857,[Cke6],[]),1134,Ckc24,[22],0),
  (35,(Ckl858,[],[]),1133,Ckc24,[23],0),
  (37,(Ckl858,[Cke363],[]),1132,Ckc24,[26,24],0),
  (40,(Ckl859,[],[]),1124,Ckc24,[25],0),
  (41,(Ckl859,[Cke7],[]),1123,Ckc24,[32],0),
  (44,(Ckl860,[],[]),1131,Ckc24,[27],0),
  (45,(Ckl860,[Cke6],[]),1130,Ckc24,[28],0),
  (46,(Ckl860,[Cke354,Cke6],[]),1129,Ckc24,[29],0),
  (49,(Ckl860,[Cke277,Cke6],[]),1128,Ckc24,[30],0),
  (50,(Ckl860,[Cke84,Cke277,Cke6],[]),1127,Ckc24,[31],0),
  (51,(Ckl860,[Cke97,Cke6],[]),1126,Ckc24,[33],0),
  (52,(Ckl859,[Cke7],[]),1122,Ckc24,[34],0),
  (52,(Ckl860,[Cke351],[]),1125,Ckc24,[34],0),
  (54,(Ckl861,[],[]),1121,Ckc24,[35],0),
  (56,(Ckl861,[Cke363],[]),1120,Ckc24,[43,36],0),
  (59,(Ckl862,[],[]),1119,Ckc24,[37],0),
  (60,(Ckl862,[Cke6],[]),1118,Ckc24,[38],0),
  (61,(Ckl862,[Cke354,Cke6],[]),1117,Ckc24,[39],0),
  (64,(Ckl862,[Cke277,Cke6],[]),1116,Ckc24,[40],0),
  (65,(Ckl862,[Cke84,Cke277,Cke6],[]),1115,Ckc24,[41],0),
  (66,(Ckl862,[Cke97,Cke6],[]),1114,Ckc24,[42],0),
  (67,(Ckl862,[Cke351],[]),1113,Ckc24,[45],0),
  (70,(Ckl863,[],[]),1111,Ckc24,[44],0),
  (71,(Ckl863,[Cke7],[]),1110,Ckc24,[46],0),
  (71,(Ckl862,[Cke351],[]),1112,Ckc24,[46],0),
  (73,(Ckl864,[],[]),1109,Ckc24,[47],0),
  (75,(Ckl864,[Cke364],[]),1108,Ckc24,[48],0),
  (77,(Ckl864,[Cke319,Cke364],[]),1107,Ckc24,[49],0),
  (80,(Ckl864,[Cke97,Cke364],[]),1106,Ckc24,[50],0),
  (81,(Ckl864,[Cke365],[]),1105,Ckc24,[51],0),
  (82,(Ckl864,[Cke6,Cke365],[]),1104,Ckc24,[52],0),
  (83,(Ckl864,[Cke242],[]),1103,Ckc24,[56,53],0),
  (86,(Ckl864,[],[]),2,Ckc24,[54],0),
  (87,(Ckl864,[Cke354],[]),1,Ckc24,[55],0),
  (90,(Ckl864,[Cke316],[]),0,Ckc24,[],0),
  (91,(Ckl864,[],[]),1102,Ckc24,[57],0),
  (92,(Ckl864,[Cke354],[]),1101,Ckc24,[58],0),
  (93,(Ckl864,[Cke84,Cke354],[]),1100,Ckc24,[59],162),
  (96,(Ckl864,[Cke346],[]),1099,Ckc24,[60],0),
  (98,(Ckl865,[],[]),1097,Ckc25,[61],0),
  (100,(Ckl865,[Cke366],[]),1096,Ckc25,[62],0),
  (102,(Ckl865,[Cke144,Cke366],[]),1095,Ckc25,[104,63],0),
  (105,(Ckl866,[],[]),1094,Ckc25,[64],0)]
def CNC170_1 : List ND := [(106,(Ckl866,[Cke86],[]),1093,Ckc25,[65],0),
  (107,(Ckl866,[Cke354,Cke86],[]),1092,Ckc25,[66],0),
  (109,(Ckl866,[Cke319,Cke354,Cke86],[]),1091,Ckc25,[67],0),
  (112,(Ckl866,[Cke141,Cke354,Cke86],[]),1090,Ckc25,[68],0),
  (114,(Ckl866,[Cke367,Cke141,Cke354,Cke86],[]),1089,Ckc25,[69],0),
  (116,(Ckl866,[Cke368,Cke367,Cke141,Cke354,Cke86],[]),1088,Ckc25,[70],164),
  (119,(Ckl866,[Cke244],[]),1087,Ckc25,[71],0),
  (121,(Ckl867,[],[]),1086,Ckc25,[72],0),
  (123,(Ckl867,[Cke245],[]),1085,Ckc25,[73],0),
  (124,(Ckl867,[Cke86,Cke245],[]),1084,Ckc25,[74],0),
  (125,(Ckl867,[Cke354,Cke86,Cke245],[]),1083,Ckc25,[75],0),
  (127,(Ckl867,[Cke319,Cke354,Cke86,Cke245],[]),1082,Ckc25,[76],0),
  (130,(Ckl867,[Cke141,Cke354,Cke86,Cke245],[]),1081,Ckc25,[77],0),
  (132,(Ckl867,[Cke367,Cke141,Cke354,Cke86,Cke245],[]),1080,Ckc25,[78],0),
  (134,(Ckl867,[Cke245,Cke367,Cke141,Cke354,Cke86,Cke245],[]),1079,Ckc25,[79],164),
  (137,(Ckl867,[Cke244,Cke245],[]),1078,Ckc25,[80],0),
  (139,(Ckl867,[Cke369,Cke244,Cke245],[]),1077,Ckc25,[81],0),
  (141,(Ckl867,[Cke370,Cke369,Cke244,Cke245],[]),1076,Ckc25,[82],0),
  (142,(Ckl867,[Cke365,Cke244,Cke245],[]),1075,Ckc25,[83],0),
  (143,(Ckl867,[Cke244,Cke245],[]),1074,Ckc25,[84],0),
  (144,(Ckl867,[Cke244],[]),1073,Ckc25,[85],0),
  (146,(Ckl867,[],[]),1072,Ckc25,[86],0),
  (148,(Ckl867,[Cke368],[]),1071,Ckc25,[87],0),
  (150,(Ckl867,[Cke369,Cke368],[]),1070,Ckc25,[88],0),
  (152,(Ckl867,[Cke370,Cke369,Cke368],[]),1069,Ckc25,[89],0),
  (153,(Ckl867,[Cke51,Cke370,Cke369,Cke368],[]),1068,Ckc25,[90],0),
  (154,(Ckl867,[Cke184,Cke369,Cke368],[]),1067,Ckc25,[91],0),
  (155,(Ckl867,[Cke244,Cke368],[]),1066,Ckc25,[92],0),
  (156,(Ckl867,[Cke244],[]),1065,Ckc25,[93],0),
  (158,(Ckl867,[],[]),1064,Ckc25,[94],0),
  (160,(Ckl867,[Cke245],[]),1063,Ckc25,[95],0),
  (162,(Ckl867,[Cke319,Cke245],[]),1062,Ckc25,[96],0),
  (165,(Ckl867,[Cke97,Cke245],[]),1061,Ckc25,[97],0),
  (166,(Ckl867,[Cke244],[]),1060,Ckc25,[98],0),
  (167,(Ckl867,[Cke6,Cke244],[]),1059,Ckc25,[99],0),
  (168,(Ckl867,[Cke242],[]),1058,Ckc25,[102,100],0),
  (171,(Ckl867,[],[]),4,Ckc24,[101],0),
  (173,(Ckl867,[Cke367],[]),3,Ckc24,[],0),
  (174,(Ckl867,[],[]),1057,Ckc25,[103],0),
  (177,(Ckl868,[],[]),1098,Ckc25,[60],0),
  (180,(Ckl869,[],[]),6,Ckc24,[105],0),
  (181,(Ckl869,[Cke51],[]),5,Ckc24,[],0)]
def CNC170 : List (List ND) := [CNC170_0, CNC170_1]
theorem CKC170 : chkS prot SMsC SMC170 [] CNC170 = true := by decide +kernel
