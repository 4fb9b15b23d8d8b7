/-! LM, by program: certificates C 3 -/
-- OneSided$Quarter.addLaw [(32, 32), (-2147483648, 2147483647)]
def Ckl318 : AL := [some Cka121,some Cka34]
def Cke206 : SE := (Cka14,(2,32,6,0,0))
def Ckf64 : FA := [(32,6,Cka1)]
def Cka126 : AV := (2,35,35,0)
def Cke207 : SE := (Cka126,(2,32,5,0,0))
def Cke208 : SE := (Cka1,(2,32,6,0,0))
def Ckf65 : FA := [(32,6,Cka15)]
def CNC79_0 : List ND := [(0,(Ckl318,[],[]),16,Ckc0,[1],0),
  (1,(Ckl318,[Cke193],[]),15,Ckc0,[2],0),
  (4,(Ckl318,[Cke206],[]),14,Ckc0,[3],0),
  (7,(Ckl318,[Cke153,Cke206],[]),13,Ckc0,[16,4],0),
  (10,(Ckl318,[],Ckf64),12,Ckc0,[5],0),
  (11,(Ckl318,[Cke193],Ckf64),11,Ckc0,[6],0),
  (14,(Ckl318,[Cke207],Ckf64),10,Ckc0,[7],0),
  (15,(Ckl318,[Cke193,Cke207],Ckf64),9,Ckc0,[8],0),
  (18,(Ckl318,[Cke208,Cke207],Ckf64),8,Ckc0,[9],0),
  (19,(Ckl318,[Cke156,Cke208,Cke207],Ckf64),7,Ckc0,[10],0),
  (20,(Ckl318,[],Ckf64),6,Ckc0,[11],0),
  (21,(Ckl318,[Cke193],Ckf64),5,Ckc0,[12],0),
  (22,(Ckl318,[Cke193,Cke193],Ckf64),4,Ckc0,[13],0),
  (25,(Ckl318,[Cke208,Cke193],Ckf64),3,Ckc0,[14],0),
  (26,(Ckl318,[Cke6,Cke208,Cke193],Ckf64),2,Ckc0,[15],0),
  (27,(Ckl318,[Cke52,Cke193],Ckf64),1,Ckc0,[16],0),
  (30,(Ckl318,[],Ckf65),0,Ckc0,[],0)]
def CNC79 : List (List ND) := [CNC79_0]
theorem CKC79 : chkS prot SMsC SMC79 [] CNC79 = true := by decide +kernel
-- OneSided$Reader.part [(2, 2), (32, 32), (5, 5)]
def Ckl319 : AL := [some Cka0,some Cka121,some Cka95,none,none,none]
def Ckl320 : AL := [some Cka0,some Cka121,some Cka95,some Cka96,none,none]
def Ckl321 : AL := [some Cka0,some Cka121,some Cka95,some Cka96,some Cka96,none]
def Ckl322 : AL := [some Cka0,some Cka121,some Cka95,some Cka96,some Cka96,some Cka96]
def Ckl323 : AL := [some Cka0,some Cka121,some Cka95,some Cka7,some Cka96,some Cka96]
def Ckl324 : AL := [some Cka0,some Cka121,some Cka95,some Cka7,some Cka7,some Cka96]
def Ckl325 : AL := [some Cka0,some Cka121,some Cka95,some Cka7,some Cka7,some Cka7]
def CNC80_0 : List ND := [(0,(Ckl319,[],[]),43,Ckc9,[1],0),
  (1,(Ckl319,[Cke0],[]),42,Ckc9,[2],0),
  (4,(Ckl319,[Cke60],[]),41,Ckc9,[3],0),
  (5,(Ckl319,[Cke36,Cke60],[]),40,Ckc9,[6,4],0),
  (8,(Ckl319,[],Ckf25),37,Ckc9,[5],0),
  (9,(Ckl319,[Cke6],Ckf25),36,Ckc9,[8],0),
  (12,(Ckl319,[],Ckf24),39,Ckc9,[7],0),
  (13,(Ckl319,[Cke7],Ckf24),38,Ckc9,[9],0),
  (13,(Ckl319,[Cke6],Ckf25),35,Ckc9,[9],0),
  (14,(Ckl320,[],[]),34,Ckc9,[10],0),
  (15,(Ckl320,[Cke0],[]),33,Ckc9,[11],0),
  (18,(Ckl320,[Cke58],[]),32,Ckc9,[12],0),
  (20,(Ckl320,[Cke73,Cke58],[]),31,Ckc9,[15,13],0),
  (23,(Ckl320,[],Ckf46),28,Ckc9,[14],0),
  (24,(Ckl320,[Cke6],Ckf46),27,Ckc9,[17],0),
  (27,(Ckl320,[],Ckf47),30,Ckc9,[16],0),
  (28,(Ckl320,[Cke7],Ckf47),29,Ckc9,[18],0),
  (28,(Ckl320,[Cke6],Ckf46),26,Ckc9,[18],0),
  (30,(Ckl321,[],[]),25,Ckc9,[19],0),
  (31,(Ckl321,[Cke0],[]),24,Ckc9,[20],0),
  (33,(Ckl321,[Cke38,Cke0],[]),23,Ckc9,[22,21],12),
  (36,(Ckl321,[Cke7],[]),22,Ckc9,[23],0),
  (36,(Ckl321,[Cke6],[]),21,Ckc9,[23],0),
  (38,(Ckl322,[],[]),20,Ckc9,[24],0),
  (39,(Ckl322,[Cke142],[]),19,Ckc9,[37,25],0),
  (42,(Ckl323,[],[]),18,Ckc9,[26],0),
  (44,(Ckl323,[Cke157],[]),17,Ckc9,[37,27],0),
  (47,(Ckl324,[],[]),16,Ckc9,[28],0),
  (49,(Ckl324,[Cke158],[]),15,Ckc9,[37,29],0),
  (52,(Ckl325,[],[]),14,Ckc9,[30],0),
  (53,(Ckl325,[Cke0],[]),13,Ckc9,[31],0),
  (56,(Ckl325,[Cke58],[]),12,Ckc9,[32],0),
  (58,(Ckl325,[Cke159,Cke58],[]),11,Ckc9,[37,33],0),
  (61,(Ckl325,[],Ckf23),10,Ckc9,[34],0),
  (62,(Ckl325,[Cke0],Ckf23),9,Ckc9,[35],0),
  (63,(Ckl325,[Cke6,Cke0],Ckf23),8,Ckc9,[36],9),
  (66,(Ckl325,[],Ckf23),7,Ckc9,[],0),
  (67,(Ckl322,[],[]),6,Ckc9,[38],0),
  (68,(Ckl322,[Cke160],[]),5,Ckc9,[39],0),
  (69,(Ckl322,[Cke137,Cke160],[]),4,Ckc9,[40],0),
  (72,(Ckl322,[],[]),3,Ckc9,[41],0),
  (73,(Ckl322,[Cke0],[]),2,Ckc9,[42],0),
  (74,(Ckl322,[Cke137,Cke0],[]),1,Ckc9,[43],9),
  (77,(Ckl322,[],[]),0,Ckc9,[],0)]
def CNC80 : List (List ND) := [CNC80_0]
theorem CKC80 : chkS prot SMsC SMC80 [] CNC80 = true := by decide +kernel
-- OneSided$Reader.expression [(2, 2), (32, 32), (4, 4), (5, 5)]
def Ckl326 : AL := [some Cka0,some Cka121,some Cka31,some Cka95,none,none]
def CNC81_0 : List ND := [(0,(Ckl326,[],[]),7,Ckc9,[1],0),
  (1,(Ckl326,[Cke161],[]),6,Ckc9,[2],0),
  (2,(Ckl326,[Cke35,Cke161],[]),5,Ckc9,[3],0),
  (5,(Ckl326,[],[]),4,Ckc9,[4],0),
  (6,(Ckl326,[Cke0],[]),3,Ckc9,[5],0),
  (7,(Ckl326,[Cke200,Cke0],[]),2,Ckc9,[6],0),
  (8,(Ckl326,[Cke162,Cke200,Cke0],[]),1,Ckc9,[7],80),
  (11,(Ckl326,[],[]),0,Ckc9,[],0)]
def CNC81 : List (List ND) := [CNC81_0]
theorem CKC81 : chkS prot SMsC SMC81 [] CNC81 = true := by decide +kernel
-- OneSided$Reader.expression [(2, 2), (32, 32), (3, 3), (5, 5)]
def Ckl327 : AL := [some Cka0,some Cka121,some Cka32,some Cka95,none,none]
def Ckl328 : AL := [some Cka0,some Cka121,some Cka32,some Cka95,some Cka14,none]
def Ckl329 : AL := [some Cka0,some Cka121,some Cka32,some Cka95,some Cka7,none]
def Ckl330 : AL := [some Cka0,some Cka121,some Cka32,some Cka95,some Cka1,none]
def Ckl331 : AL := [some Cka0,some Cka121,some Cka32,some Cka95,some Cka1,some Cka104]
def Ckl332 : AL := [some Cka0,some Cka121,some Cka32,some Cka95,some Cka1,some Cka49]
def Ckl333 : AL := [some Cka0,some Cka121,some Cka32,some Cka95,some Cka1,some Cka105]
def Ckl334 : AL := [some Cka0,some Cka121,some Cka32,some Cka95,some Cka15,some Cka105]
def CNC82_0 : List ND := [(0,(Ckl327,[],[]),30043,Ckc9,[1],0),
  (1,(Ckl327,[Cke165],[]),30042,Ckc9,[2],0),
  (2,(Ckl327,[Cke35,Cke165],[]),30041,Ckc9,[3],0),
  (12,(Ckl327,[],[]),30040,Ckc9,[4],0),
  (13,(Ckl327,[Cke0],[]),30039,Ckc9,[5],0),
  (14,(Ckl327,[Cke200,Cke0],[]),30038,Ckc9,[6],0),
  (15,(Ckl327,[Cke165,Cke200,Cke0],[]),30037,Ckc9,[7],0),
  (16,(Ckl327,[Cke6,Cke165,Cke200,Cke0],[]),30036,Ckc9,[8],0),
  (17,(Ckl327,[Cke35,Cke200,Cke0],[]),30035,Ckc9,[9],0),
  (18,(Ckl327,[Cke162,Cke35,Cke200,Cke0],[]),30034,Ckc9,[10],81),
  (21,(Ckl327,[],[]),30033,Ckc9,[11],0),
  (22,(Ckl327,[Cke7],[]),30032,Ckc9,[12],0),
  (24,(Ckl328,[],[]),30030,Ckc10,[14],0),
  (26,(Ckl329,[Cke166],[]),30045,Ckc9,[15],0),
  (26,(Ckl328,[Cke167],[]),30029,Ckc10,[16],0),
  (29,(Ckl329,[Cke153,Cke166],[]),30044,Ckc9,[17],0),
  (29,(Ckl328,[Cke153,Cke167],[]),30028,Ckc10,[45,17],0),
  (32,(Ckl330,[],[]),30027,Ckc10,[18],0),
  (33,(Ckl330,[Cke0],[]),30026,Ckc10,[19],0),
  (36,(Ckl330,[Cke46],[]),30025,Ckc10,[45,20],0),
  (39,(Ckl330,[],Ckf7),30024,Ckc10,[21],0),
  (40,(Ckl330,[Cke0],Ckf7),30023,Ckc10,[22],0),
  (41,(Ckl330,[Cke165,Cke0],Ckf7),30022,Ckc10,[23],33),
  (44,(Ckl330,[Cke168],Ckf7),30021,Ckc10,[24],0),
  (46,(Ckl331,[],Ckf7),30020,Ckc10,[25],0),
  (48,(Ckl331,[Cke169],Ckf7),30019,Ckc10,[26],0),
  (49,(Ckl331,[Cke51,Cke169],Ckf7),30018,Ckc10,[28,27],0),
  (52,(Ckl332,[],Ckf7),1,Ckc9,[],0),
  (53,(Ckl333,[],Ckf7),30017,Ckc10,[29],0),
  (54,(Ckl333,[Cke0],Ckf7),30016,Ckc10,[30],6),
  (57,(Ckl333,[],Ckf7),30015,Ckc10,[31],0),
  (58,(Ckl333,[Cke0],Ckf7),30014,Ckc10,[32],0),
  (59,(Ckl333,[Cke200,Cke0],Ckf7),30013,Ckc10,[33],0),
  (60,(Ckl333,[Cke165,Cke200,Cke0],Ckf7),30012,Ckc10,[34],0),
  (61,(Ckl333,[Cke6,Cke165,Cke200,Cke0],Ckf7),30011,Ckc10,[35],0),
  (62,(Ckl333,[Cke35,Cke200,Cke0],Ckf7),30010,Ckc10,[36],0),
  (63,(Ckl333,[Cke162,Cke35,Cke200,Cke0],Ckf7),30009,Ckc10,[37],81),
  (66,(Ckl333,[],[]),30008,Ckc10,[38],0),
  (67,(Ckl333,[Cke200],[]),30007,Ckc10,[39],0),
  (69,(Ckl333,[Cke170,Cke200],[]),30006,Ckc10,[40],79),
  (72,(Ckl333,[],[]),30005,Ckc10,[41],0),
  (73,(Ckl333,[Cke165],[]),30004,Ckc10,[42],0),
  (74,(Ckl333,[Cke6,Cke165],[]),30003,Ckc10,[43],0),
  (78,(Ckl333,[],[]),30002,Ckc10,[44],0),
  (81,(Ckl334,[],[]),30031,Ckc10,[12],0),
  (84,(Ckl328,[],[]),0,Ckc9,[],0)]
def CNC82 : List (List ND) := [CNC82_0]
theorem CKC82 : chkS prot SMsC SMC82 [] CNC82 = true := by decide +kernel
-- OneSided$Reader.expression [(2, 2), (32, 32), (2, 2), (5, 5)]
def Ckl335 : AL := [some Cka0,some Cka121,some Cka18,some Cka95,none,none]
def Ckl336 : AL := [some Cka0,some Cka121,some Cka18,some Cka95,some Cka14,none]
def Ckl337 : AL := [some Cka0,some Cka121,some Cka18,some Cka95,some Cka7,none]
def Ckl338 : AL := [some Cka0,some Cka121,some Cka18,some Cka95,some Cka1,none]
def Ckl339 : AL := [some Cka0,some Cka121,some Cka18,some Cka95,some Cka1,some Cka109]
def Ckl340 : AL := [some Cka0,some Cka121,some Cka18,some Cka95,some Cka1,some Cka49]
def Ckl341 : AL := [some Cka0,some Cka121,some Cka18,some Cka95,some Cka1,some Cka105]
def Ckl342 : AL := [some Cka0,some Cka121,some Cka18,some Cka95,some Cka15,some Cka105]
def CNC83_0 : List ND := [(0,(Ckl335,[],[]),30043,Ckc9,[1],0),
  (1,(Ckl335,[Cke174],[]),30042,Ckc9,[2],0),
  (2,(Ckl335,[Cke35,Cke174],[]),30041,Ckc9,[3],0),
  (12,(Ckl335,[],[]),30040,Ckc9,[4],0),
  (13,(Ckl335,[Cke0],[]),30039,Ckc9,[5],0),
  (14,(Ckl335,[Cke200,Cke0],[]),30038,Ckc9,[6],0),
  (15,(Ckl335,[Cke174,Cke200,Cke0],[]),30037,Ckc9,[7],0),
  (16,(Ckl335,[Cke6,Cke174,Cke200,Cke0],[]),30036,Ckc9,[8],0),
  (17,(Ckl335,[Cke36,Cke200,Cke0],[]),30035,Ckc9,[9],0),
  (18,(Ckl335,[Cke162,Cke36,Cke200,Cke0],[]),30034,Ckc9,[10],82),
  (21,(Ckl335,[],[]),30033,Ckc9,[11],0),
  (22,(Ckl335,[Cke7],[]),30032,Ckc9,[12],0),
  (24,(Ckl336,[],[]),30030,Ckc10,[14],0),
  (26,(Ckl337,[Cke166],[]),30045,Ckc9,[15],0),
  (26,(Ckl336,[Cke167],[]),30029,Ckc10,[16],0),
  (29,(Ckl337,[Cke153,Cke166],[]),30044,Ckc9,[17],0),
  (29,(Ckl336,[Cke153,Cke167],[]),30028,Ckc10,[45,17],0),
  (32,(Ckl338,[],[]),30027,Ckc10,[18],0),
  (33,(Ckl338,[Cke0],[]),30026,Ckc10,[19],0),
  (36,(Ckl338,[Cke46],[]),30025,Ckc10,[45,20],0),
  (39,(Ckl338,[],Ckf7),30024,Ckc10,[21],0),
  (40,(Ckl338,[Cke0],Ckf7),30023,Ckc10,[22],0),
  (41,(Ckl338,[Cke174,Cke0],Ckf7),30022,Ckc10,[23],35),
  (44,(Ckl338,[Cke175],Ckf7),30021,Ckc10,[24],0),
  (46,(Ckl339,[],Ckf7),30020,Ckc10,[25],0),
  (48,(Ckl339,[Cke176],Ckf7),30019,Ckc10,[26],0),
  (49,(Ckl339,[Cke51,Cke176],Ckf7),30018,Ckc10,[28,27],0),
  (52,(Ckl340,[],Ckf7),1,Ckc9,[],0),
  (53,(Ckl341,[],Ckf7),30017,Ckc10,[29],0),
  (54,(Ckl341,[Cke0],Ckf7),30016,Ckc10,[30],6),
  (57,(Ckl341,[],Ckf7),30015,Ckc10,[31],0),
  (58,(Ckl341,[Cke0],Ckf7),30014,Ckc10,[32],0),
  (59,(Ckl341,[Cke200,Cke0],Ckf7),30013,Ckc10,[33],0),
  (60,(Ckl341,[Cke174,Cke200,Cke0],Ckf7),30012,Ckc10,[34],0),
  (61,(Ckl341,[Cke6,Cke174,Cke200,Cke0],Ckf7),30011,Ckc10,[35],0),
  (62,(Ckl341,[Cke36,Cke200,Cke0],Ckf7),30010,Ckc10,[36],0),
  (63,(Ckl341,[Cke162,Cke36,Cke200,Cke0],Ckf7),30009,Ckc10,[37],82),
  (66,(Ckl341,[],[]),30008,Ckc10,[38],0),
  (67,(Ckl341,[Cke200],[]),30007,Ckc10,[39],0),
  (69,(Ckl341,[Cke170,Cke200],[]),30006,Ckc10,[40],79),
  (72,(Ckl341,[],[]),30005,Ckc10,[41],0),
  (73,(Ckl341,[Cke174],[]),30004,Ckc10,[42],0),
  (74,(Ckl341,[Cke6,Cke174],[]),30003,Ckc10,[43],0),
  (78,(Ckl341,[],[]),30002,Ckc10,[44],0),
  (81,(Ckl342,[],[]),30031,Ckc10,[12],0),
  (84,(Ckl336,[],[]),0,Ckc9,[],0)]
def CNC83 : List (List ND) := [CNC83_0]
theorem CKC83 : chkS prot SMsC SMC83 [] CNC83 = true := by decide +kernel
-- OneSided$Reader.expression [(2, 2), (32, 32), (1, 1), (5, 5)]
def Ckl343 : AL := [some Cka0,some Cka121,some Cka6,some Cka95,none,none]
def Ckl344 : AL := [some Cka0,some Cka121,some Cka6,some Cka95,some Cka7,none]
def Ckl345 : AL := [some Cka0,some Cka121,some Cka6,some Cka95,some Cka7,some Cka109]
def Ckl346 : AL := [some Cka0,some Cka121,some Cka6,some Cka95,some Cka7,some Cka49]
def Ckl347 : AL := [some Cka0,some Cka121,some Cka6,some Cka95,some Cka7,some Cka105]
def CNC84_0 : List ND := [(0,(Ckl343,[],[]),42,Ckc9,[1],0),
  (1,(Ckl343,[Cke180],[]),41,Ckc9,[2],0),
  (2,(Ckl343,[Cke35,Cke180],[]),40,Ckc9,[3],0),
  (12,(Ckl343,[],[]),39,Ckc9,[4],0),
  (13,(Ckl343,[Cke0],[]),38,Ckc9,[5],0),
  (14,(Ckl343,[Cke200,Cke0],[]),37,Ckc9,[6],0),
  (15,(Ckl343,[Cke180,Cke200,Cke0],[]),36,Ckc9,[7],0),
  (16,(Ckl343,[Cke6,Cke180,Cke200,Cke0],[]),35,Ckc9,[8],0),
  (17,(Ckl343,[Cke22,Cke200,Cke0],[]),34,Ckc9,[9],0),
  (18,(Ckl343,[Cke162,Cke22,Cke200,Cke0],[]),33,Ckc9,[10],83),
  (21,(Ckl343,[],[]),32,Ckc9,[11],0),
  (22,(Ckl343,[Cke7],[]),31,Ckc9,[12],0),
  (24,(Ckl344,[],[]),30,Ckc9,[13],0),
  (26,(Ckl344,[Cke166],[]),29,Ckc9,[14],0),
  (29,(Ckl344,[Cke153,Cke166],[]),28,Ckc9,[15],0),
  (32,(Ckl344,[],[]),27,Ckc9,[16],0),
  (33,(Ckl344,[Cke0],[]),26,Ckc9,[17],0),
  (36,(Ckl344,[Cke46],[]),25,Ckc9,[42,18],0),
  (39,(Ckl344,[],Ckf7),23,Ckc9,[19],0),
  (40,(Ckl344,[Cke0],Ckf7),22,Ckc9,[20],0),
  (41,(Ckl344,[Cke180,Cke0],Ckf7),21,Ckc9,[21],37),
  (44,(Ckl344,[Cke175],Ckf7),20,Ckc9,[22],0),
  (46,(Ckl345,[],Ckf7),19,Ckc9,[23],0),
  (48,(Ckl345,[Cke176],Ckf7),18,Ckc9,[24],0),
  (49,(Ckl345,[Cke51,Cke176],Ckf7),17,Ckc9,[26,25],0),
  (52,(Ckl346,[],Ckf7),16,Ckc9,[],0),
  (53,(Ckl347,[],Ckf7),15,Ckc9,[27],0),
  (54,(Ckl347,[Cke0],Ckf7),14,Ckc9,[28],6),
  (57,(Ckl347,[],Ckf7),13,Ckc9,[29],0),
  (58,(Ckl347,[Cke0],Ckf7),12,Ckc9,[30],0),
  (59,(Ckl347,[Cke200,Cke0],Ckf7),11,Ckc9,[31],0),
  (60,(Ckl347,[Cke180,Cke200,Cke0],Ckf7),10,Ckc9,[32],0),
  (61,(Ckl347,[Cke6,Cke180,Cke200,Cke0],Ckf7),9,Ckc9,[33],0),
  (62,(Ckl347,[Cke22,Cke200,Cke0],Ckf7),8,Ckc9,[34],0),
  (63,(Ckl347,[Cke162,Cke22,Cke200,Cke0],Ckf7),7,Ckc9,[35],83),
  (66,(Ckl347,[],[]),6,Ckc9,[36],0),
  (67,(Ckl347,[Cke200],[]),5,Ckc9,[37],0),
  (69,(Ckl347,[Cke170,Cke200],[]),4,Ckc9,[38],79),
  (72,(Ckl347,[],[]),3,Ckc9,[39],0),
  (73,(Ckl347,[Cke180],[]),2,Ckc9,[40],0),
  (74,(Ckl347,[Cke6,Cke180],[]),1,Ckc9,[41],0),
  (77,(Ckl347,[],[]),0,Ckc9,[],0),
  (84,(Ckl344,[],Ckf6),24,Ckc9,[],0)]
def CNC84 : List (List ND) := [CNC84_0]
theorem CKC84 : chkS prot SMsC SMC84 [] CNC84 = true := by decide +kernel
-- OneSided$Reader.expression [(2, 2), (32, 32), (0, 0), (5, 5)]
def Ckl348 : AL := [some Cka0,some Cka121,some Cka7,some Cka95,none,none]
def Ckl349 : AL := [some Cka0,some Cka121,some Cka7,some Cka95,some Cka14,none]
def Ckl350 : AL := [some Cka0,some Cka121,some Cka7,some Cka95,some Cka7,none]
def Ckl351 : AL := [some Cka0,some Cka121,some Cka7,some Cka95,some Cka1,none]
def Ckl352 : AL := [some Cka0,some Cka121,some Cka7,some Cka95,some Cka1,some Cka109]
def Ckl353 : AL := [some Cka0,some Cka121,some Cka7,some Cka95,some Cka1,some Cka49]
def Ckl354 : AL := [some Cka0,some Cka121,some Cka7,some Cka95,some Cka1,some Cka105]
def Ckl355 : AL := [some Cka0,some Cka121,some Cka7,some Cka95,some Cka15,some Cka105]
def CNC85_0 : List ND := [(0,(Ckl348,[],[]),30043,Ckc9,[1],0),
  (1,(Ckl348,[Cke23],[]),30042,Ckc9,[2],0),
  (2,(Ckl348,[Cke35,Cke23],[]),30041,Ckc9,[3],0),
  (12,(Ckl348,[],[]),30040,Ckc9,[4],0),
  (13,(Ckl348,[Cke0],[]),30039,Ckc9,[5],0),
  (14,(Ckl348,[Cke200,Cke0],[]),30038,Ckc9,[6],0),
  (15,(Ckl348,[Cke23,Cke200,Cke0],[]),30037,Ckc9,[7],0),
  (16,(Ckl348,[Cke6,Cke23,Cke200,Cke0],[]),30036,Ckc9,[8],0),
  (17,(Ckl348,[Cke6,Cke200,Cke0],[]),30035,Ckc9,[9],0),
  (18,(Ckl348,[Cke162,Cke6,Cke200,Cke0],[]),30034,Ckc9,[10],84),
  (21,(Ckl348,[],[]),30033,Ckc9,[11],0),
  (22,(Ckl348,[Cke7],[]),30032,Ckc9,[12],0),
  (24,(Ckl349,[],[]),30030,Ckc10,[14],0),
  (26,(Ckl350,[Cke166],[]),30045,Ckc9,[15],0),
  (26,(Ckl349,[Cke167],[]),30029,Ckc10,[16],0),
  (29,(Ckl350,[Cke153,Cke166],[]),30044,Ckc9,[17],0),
  (29,(Ckl349,[Cke153,Cke167],[]),30028,Ckc10,[45,17],0),
  (32,(Ckl351,[],[]),30027,Ckc10,[18],0),
  (33,(Ckl351,[Cke0],[]),30026,Ckc10,[19],0),
  (36,(Ckl351,[Cke46],[]),30025,Ckc10,[45,20],0),
  (39,(Ckl351,[],Ckf7),30024,Ckc10,[21],0),
  (40,(Ckl351,[Cke0],Ckf7),30023,Ckc10,[22],0),
  (41,(Ckl351,[Cke23,Cke0],Ckf7),30022,Ckc10,[23],39),
  (44,(Ckl351,[Cke175],Ckf7),30021,Ckc10,[24],0),
  (46,(Ckl352,[],Ckf7),30020,Ckc10,[25],0),
  (48,(Ckl352,[Cke176],Ckf7),30019,Ckc10,[26],0),
  (49,(Ckl352,[Cke51,Cke176],Ckf7),30018,Ckc10,[28,27],0),
  (52,(Ckl353,[],Ckf7),1,Ckc9,[],0),
  (53,(Ckl354,[],Ckf7),30017,Ckc10,[29],0),
  (54,(Ckl354,[Cke0],Ckf7),30016,Ckc10,[30],6),
  (57,(Ckl354,[],Ckf7),30015,Ckc10,[31],0),
  (58,(Ckl354,[Cke0],Ckf7),30014,Ckc10,[32],0),
  (59,(Ckl354,[Cke200,Cke0],Ckf7),30013,Ckc10,[33],0),
  (60,(Ckl354,[Cke23,Cke200,Cke0],Ckf7),30012,Ckc10,[34],0),
  (61,(Ckl354,[Cke6,Cke23,Cke200,Cke0],Ckf7),30011,Ckc10,[35],0),
  (62,(Ckl354,[Cke6,Cke200,Cke0],Ckf7),30010,Ckc10,[36],0),
  (63,(Ckl354,[Cke162,Cke6,Cke200,Cke0],Ckf7),30009,Ckc10,[37],84),
  (66,(Ckl354,[],[]),30008,Ckc10,[38],0),
  (67,(Ckl354,[Cke200],[]),30007,Ckc10,[39],0),
  (69,(Ckl354,[Cke170,Cke200],[]),30006,Ckc10,[40],79),
  (72,(Ckl354,[],[]),30005,Ckc10,[41],0),
  (73,(Ckl354,[Cke23],[]),30004,Ckc10,[42],0),
  (74,(Ckl354,[Cke6,Cke23],[]),30003,Ckc10,[43],0),
  (78,(Ckl354,[],[]),30002,Ckc10,[44],0),
  (81,(Ckl355,[],[]),30031,Ckc10,[12],0),
  (84,(Ckl349,[],[]),0,Ckc9,[],0)]
def CNC85 : List (List ND) := [CNC85_0]
theorem CKC85 : chkS prot SMsC SMC85 [] CNC85 = true := by decide +kernel
-- OneSided$Reader.part [(2, 2), (32, 32), (4, 4)]
def Ckl356 : AL := [some Cka0,some Cka121,some Cka31,none,none,none]
def Ckl357 : AL := [some Cka0,some Cka121,some Cka31,some Cka96,none,none]
def Ckl358 : AL := [some Cka0,some Cka121,some Cka31,some Cka96,some Cka96,none]
def Ckl359 : AL := [some Cka0,some Cka121,some Cka31,some Cka96,some Cka96,some Cka96]
def Ckl360 : AL := [some Cka0,some Cka121,some Cka31,some Cka7,some Cka96,some Cka96]
def Ckl361 : AL := [some Cka0,some Cka121,some Cka31,some Cka7,some Cka7,some Cka96]
def Ckl362 : AL := [some Cka0,some Cka121,some Cka31,some Cka7,some Cka7,some Cka7]
def Ckl363 : AL := [some Cka0,some Cka121,some Cka31,some Cka6,some Cka96,some Cka96]
def Ckl364 : AL := [some Cka0,some Cka121,some Cka31,some Cka7,some Cka7,some Cka6]
def CNC86_0 : List ND := [(0,(Ckl356,[],[]),87,Ckc9,[1],0),
  (1,(Ckl356,[Cke0],[]),86,Ckc9,[2],0),
  (4,(Ckl356,[Cke60],[]),85,Ckc9,[3],0),
  (5,(Ckl356,[Cke36,Cke60],[]),84,Ckc9,[6,4],0),
  (8,(Ckl356,[],Ckf25),83,Ckc9,[5],0),
  (9,(Ckl356,[Cke6],Ckf25),82,Ckc9,[8],0),
  (12,(Ckl356,[],Ckf24),80,Ckc9,[7],0),
  (13,(Ckl356,[Cke7],Ckf24),79,Ckc9,[9],0),
  (13,(Ckl356,[Cke6],Ckf25),81,Ckc9,[9],0),
  (14,(Ckl357,[],[]),78,Ckc9,[10],0),
  (15,(Ckl357,[Cke0],[]),77,Ckc9,[11],0),
  (18,(Ckl357,[Cke58],[]),76,Ckc9,[12],0),
  (20,(Ckl357,[Cke73,Cke58],[]),75,Ckc9,[15,13],0),
  (23,(Ckl357,[],Ckf46),72,Ckc9,[14],0),
  (24,(Ckl357,[Cke6],Ckf46),71,Ckc9,[17],0),
  (27,(Ckl357,[],Ckf47),74,Ckc9,[16],0),
  (28,(Ckl357,[Cke7],Ckf47),73,Ckc9,[18],0),
  (28,(Ckl357,[Cke6],Ckf46),70,Ckc9,[18],0),
  (30,(Ckl358,[],[]),69,Ckc9,[19],0),
  (31,(Ckl358,[Cke0],[]),68,Ckc9,[20],0),
  (33,(Ckl358,[Cke38,Cke0],[]),67,Ckc9,[22,21],12),
  (36,(Ckl358,[Cke7],[]),66,Ckc9,[23],0),
  (36,(Ckl358,[Cke6],[]),65,Ckc9,[23],0),
  (38,(Ckl359,[],[]),64,Ckc9,[24],0),
  (39,(Ckl359,[Cke142],[]),63,Ckc9,[37,25],0),
  (42,(Ckl360,[],[]),62,Ckc9,[26],0),
  (44,(Ckl360,[Cke157],[]),61,Ckc9,[37,27],0),
  (47,(Ckl361,[],[]),60,Ckc9,[28],0),
  (49,(Ckl361,[Cke158],[]),59,Ckc9,[37,29],0),
  (52,(Ckl362,[],[]),58,Ckc9,[30],0),
  (53,(Ckl362,[Cke0],[]),57,Ckc9,[31],0),
  (56,(Ckl362,[Cke58],[]),56,Ckc9,[32],0),
  (58,(Ckl362,[Cke159,Cke58],[]),55,Ckc9,[37,33],0),
  (61,(Ckl362,[],Ckf23),54,Ckc9,[34],0),
  (62,(Ckl362,[Cke0],Ckf23),53,Ckc9,[35],0),
  (63,(Ckl362,[Cke6,Cke0],Ckf23),52,Ckc9,[36],9),
  (66,(Ckl362,[],Ckf23),51,Ckc9,[],0),
  (67,(Ckl359,[],[]),50,Ckc9,[38],0),
  (68,(Ckl359,[Cke161],[]),49,Ckc9,[39],0),
  (69,(Ckl359,[Cke137,Cke161],[]),48,Ckc9,[40],0),
  (78,(Ckl359,[],[]),47,Ckc9,[41],0),
  (79,(Ckl359,[Cke142],[]),46,Ckc9,[44,42],0),
  (82,(Ckl360,[],[]),45,Ckc9,[43],0),
  (84,(Ckl360,[Cke157],[]),44,Ckc9,[61,44],0),
  (87,(Ckl359,[],[]),43,Ckc9,[45],0),
  (88,(Ckl359,[Cke200],[]),42,Ckc9,[46],0),
  (89,(Ckl359,[Cke142,Cke200],[]),41,Ckc9,[51,47],0),
  (92,(Ckl363,[Cke200],[]),34,Ckc9,[48],0),
  (93,(Ckl363,[Cke0,Cke200],[]),33,Ckc9,[49],0),
  (96,(Ckl363,[Cke18,Cke200],[]),32,Ckc9,[50],0),
  (97,(Ckl363,[Cke184,Cke200],[]),31,Ckc9,[57],0),
  (100,(Ckl360,[Cke200],[]),40,Ckc9,[52],0),
  (103,(Ckl360,[Cke185,Cke200],[]),39,Ckc9,[53],0),
  (104,(Ckl360,[Cke0,Cke185,Cke200],[]),38,Ckc9,[54],0),
  (107,(Ckl360,[Cke58,Cke185,Cke200],[]),37,Ckc9,[55],0),
  (108,(Ckl360,[Cke186,Cke200],[]),36,Ckc9,[56],0),
  (110,(Ckl360,[Cke73,Cke186,Cke200],[]),35,Ckc9,[57],0),
  (111,(Ckl359,[Cke184,Cke200],[]),30,Ckc9,[58],79),
  (114,(Ckl359,[],[]),29,Ckc9,[59],0),
  (115,(Ckl359,[Cke0],[]),28,Ckc9,[60],6),
  (118,(Ckl359,[],[]),27,Ckc9,[87],0),
  (121,(Ckl361,[],[]),26,Ckc9,[62],0),
  (123,(Ckl361,[Cke158],[]),25,Ckc9,[76,63],0),
  (126,(Ckl364,[],[]),24,Ckc9,[64],0)]
def CNC86_1 : List ND := [(127,(Ckl364,[Cke0],[]),23,Ckc9,[65],6),
  (130,(Ckl364,[],[]),22,Ckc9,[66],0),
  (131,(Ckl364,[Cke0],[]),21,Ckc9,[67],0),
  (132,(Ckl364,[Cke200,Cke0],[]),20,Ckc9,[68],0),
  (133,(Ckl364,[Cke7,Cke200,Cke0],[]),19,Ckc9,[69],0),
  (134,(Ckl364,[Cke161,Cke7,Cke200,Cke0],[]),18,Ckc9,[70],0),
  (135,(Ckl364,[Cke6,Cke161,Cke7,Cke200,Cke0],[]),17,Ckc9,[71],0),
  (136,(Ckl364,[Cke137,Cke7,Cke200,Cke0],[]),16,Ckc9,[72],85),
  (139,(Ckl364,[],[]),15,Ckc9,[73],0),
  (140,(Ckl364,[Cke0],[]),14,Ckc9,[74],0),
  (142,(Ckl364,[Cke39,Cke0],[]),13,Ckc9,[75],13),
  (145,(Ckl364,[],[]),12,Ckc9,[87],0),
  (148,(Ckl362,[],[]),11,Ckc9,[77],0),
  (149,(Ckl362,[Cke0],[]),10,Ckc9,[78],6),
  (152,(Ckl362,[],[]),9,Ckc9,[79],0),
  (153,(Ckl362,[Cke0],[]),8,Ckc9,[80],0),
  (154,(Ckl362,[Cke200,Cke0],[]),7,Ckc9,[81],0),
  (155,(Ckl362,[Cke161,Cke200,Cke0],[]),6,Ckc9,[82],0),
  (156,(Ckl362,[Cke6,Cke161,Cke200,Cke0],[]),5,Ckc9,[83],0),
  (157,(Ckl362,[Cke137,Cke200,Cke0],[]),4,Ckc9,[84],80),
  (160,(Ckl362,[],[]),3,Ckc9,[85],0),
  (161,(Ckl362,[Cke200],[]),2,Ckc9,[86],0),
  (164,(Ckl362,[Cke187,Cke200],[]),1,Ckc9,[87],79),
  (167,(Ckl359,[],[]),0,Ckc9,[],0)]
def CNC86 : List (List ND) := [CNC86_0, CNC86_1]
theorem CKC86 : chkS prot SMsC SMC86 [] CNC86 = true := by decide +kernel
-- OneSided$Reader.expression [(2, 2), (32, 32), (4, 4), (4, 4)]
def Ckl365 : AL := [some Cka0,some Cka121,some Cka31,some Cka31,none,none]
def CNC87_0 : List ND := [(0,(Ckl365,[],[]),7,Ckc9,[1],0),
  (1,(Ckl365,[Cke161],[]),6,Ckc9,[2],0),
  (2,(Ckl365,[Cke35,Cke161],[]),5,Ckc9,[3],0),
  (5,(Ckl365,[],[]),4,Ckc9,[4],0),
  (6,(Ckl365,[Cke0],[]),3,Ckc9,[5],0),
  (7,(Ckl365,[Cke200,Cke0],[]),2,Ckc9,[6],0),
  (8,(Ckl365,[Cke188,Cke200,Cke0],[]),1,Ckc9,[7],86),
  (11,(Ckl365,[],[]),0,Ckc9,[],0)]
def CNC87 : List (List ND) := [CNC87_0]
theorem CKC87 : chkS prot SMsC SMC87 [] CNC87 = true := by decide +kernel
-- OneSided$Reader.expression [(2, 2), (32, 32), (3, 3), (4, 4)]
def Ckl366 : AL := [some Cka0,some Cka121,some Cka32,some Cka31,none,none]
def Ckl367 : AL := [some Cka0,some Cka121,some Cka32,some Cka31,some Cka14,none]
def Ckl368 : AL := [some Cka0,some Cka121,some Cka32,some Cka31,some Cka7,none]
def Ckl369 : AL := [some Cka0,some Cka121,some Cka32,some Cka31,some Cka1,none]
def Ckl370 : AL := [some Cka0,some Cka121,some Cka32,some Cka31,some Cka1,some Cka104]
def Ckl371 : AL := [some Cka0,some Cka121,some Cka32,some Cka31,some Cka1,some Cka49]
def Ckl372 : AL := [some Cka0,some Cka121,some Cka32,some Cka31,some Cka1,some Cka105]
def Ckl373 : AL := [some Cka0,some Cka121,some Cka32,some Cka31,some Cka15,some Cka105]
def CNC88_0 : List ND := [(0,(Ckl366,[],[]),30043,Ckc9,[1],0),
  (1,(Ckl366,[Cke165],[]),30042,Ckc9,[2],0),
  (2,(Ckl366,[Cke35,Cke165],[]),30041,Ckc9,[3],0),
  (12,(Ckl366,[],[]),30040,Ckc9,[4],0),
  (13,(Ckl366,[Cke0],[]),30039,Ckc9,[5],0),
  (14,(Ckl366,[Cke200,Cke0],[]),30038,Ckc9,[6],0),
  (15,(Ckl366,[Cke165,Cke200,Cke0],[]),30037,Ckc9,[7],0),
  (16,(Ckl366,[Cke6,Cke165,Cke200,Cke0],[]),30036,Ckc9,[8],0),
  (17,(Ckl366,[Cke35,Cke200,Cke0],[]),30035,Ckc9,[9],0),
  (18,(Ckl366,[Cke188,Cke35,Cke200,Cke0],[]),30034,Ckc9,[10],87),
  (21,(Ckl366,[],[]),30033,Ckc9,[11],0),
  (22,(Ckl366,[Cke7],[]),30032,Ckc9,[12],0),
  (24,(Ckl367,[],[]),30030,Ckc10,[14],0),
  (26,(Ckl368,[Cke166],[]),30045,Ckc9,[15],0),
  (26,(Ckl367,[Cke167],[]),30029,Ckc10,[16],0),
  (29,(Ckl368,[Cke153,Cke166],[]),30044,Ckc9,[17],0),
  (29,(Ckl367,[Cke153,Cke167],[]),30028,Ckc10,[45,17],0),
  (32,(Ckl369,[],[]),30027,Ckc10,[18],0),
  (33,(Ckl369,[Cke0],[]),30026,Ckc10,[19],0),
  (36,(Ckl369,[Cke46],[]),30025,Ckc10,[45,20],0),
  (39,(Ckl369,[],Ckf7),30024,Ckc10,[21],0),
  (40,(Ckl369,[Cke0],Ckf7),30023,Ckc10,[22],0),
  (41,(Ckl369,[Cke165,Cke0],Ckf7),30022,Ckc10,[23],33),
  (44,(Ckl369,[Cke168],Ckf7),30021,Ckc10,[24],0),
  (46,(Ckl370,[],Ckf7),30020,Ckc10,[25],0),
  (48,(Ckl370,[Cke169],Ckf7),30019,Ckc10,[26],0),
  (49,(Ckl370,[Cke51,Cke169],Ckf7),30018,Ckc10,[28,27],0),
  (52,(Ckl371,[],Ckf7),1,Ckc9,[],0),
  (53,(Ckl372,[],Ckf7),30017,Ckc10,[29],0),
  (54,(Ckl372,[Cke0],Ckf7),30016,Ckc10,[30],6),
  (57,(Ckl372,[],Ckf7),30015,Ckc10,[31],0),
  (58,(Ckl372,[Cke0],Ckf7),30014,Ckc10,[32],0),
  (59,(Ckl372,[Cke200,Cke0],Ckf7),30013,Ckc10,[33],0),
  (60,(Ckl372,[Cke165,Cke200,Cke0],Ckf7),30012,Ckc10,[34],0),
  (61,(Ckl372,[Cke6,Cke165,Cke200,Cke0],Ckf7),30011,Ckc10,[35],0),
  (62,(Ckl372,[Cke35,Cke200,Cke0],Ckf7),30010,Ckc10,[36],0),
  (63,(Ckl372,[Cke188,Cke35,Cke200,Cke0],Ckf7),30009,Ckc10,[37],87),
  (66,(Ckl372,[],[]),30008,Ckc10,[38],0),
  (67,(Ckl372,[Cke200],[]),30007,Ckc10,[39],0),
  (69,(Ckl372,[Cke170,Cke200],[]),30006,Ckc10,[40],79),
  (72,(Ckl372,[],[]),30005,Ckc10,[41],0),
  (73,(Ckl372,[Cke165],[]),30004,Ckc10,[42],0),
  (74,(Ckl372,[Cke6,Cke165],[]),30003,Ckc10,[43],0),
  (78,(Ckl372,[],[]),30002,Ckc10,[44],0),
  (81,(Ckl373,[],[]),30031,Ckc10,[12],0),
  (84,(Ckl367,[],[]),0,Ckc9,[],0)]
def CNC88 : List (List ND) := [CNC88_0]
theorem CKC88 : chkS prot SMsC SMC88 [] CNC88 = true := by decide +kernel
-- OneSided$Reader.expression [(2, 2), (32, 32), (2, 2), (4, 4)]
def Ckl374 : AL := [some Cka0,some Cka121,some Cka18,some Cka31,none,none]
def Ckl375 : AL := [some Cka0,some Cka121,some Cka18,some Cka31,some Cka14,none]
def Ckl376 : AL := [some Cka0,some Cka121,some Cka18,some Cka31,some Cka7,none]
def Ckl377 : AL := [some Cka0,some Cka121,some Cka18,some Cka31,some Cka1,none]
def Ckl378 : AL := [some Cka0,some Cka121,some Cka18,some Cka31,some Cka1,some Cka109]
def Ckl379 : AL := [some Cka0,some Cka121,some Cka18,some Cka31,some Cka1,some Cka49]
def Ckl380 : AL := [some Cka0,some Cka121,some Cka18,some Cka31,some Cka1,some Cka105]
def Ckl381 : AL := [some Cka0,some Cka121,some Cka18,some Cka31,some Cka15,some Cka105]
def CNC89_0 : List ND := [(0,(Ckl374,[],[]),30043,Ckc9,[1],0),
  (1,(Ckl374,[Cke174],[]),30042,Ckc9,[2],0),
  (2,(Ckl374,[Cke35,Cke174],[]),30041,Ckc9,[3],0),
  (12,(Ckl374,[],[]),30040,Ckc9,[4],0),
  (13,(Ckl374,[Cke0],[]),30039,Ckc9,[5],0),
  (14,(Ckl374,[Cke200,Cke0],[]),30038,Ckc9,[6],0),
  (15,(Ckl374,[Cke174,Cke200,Cke0],[]),30037,Ckc9,[7],0),
  (16,(Ckl374,[Cke6,Cke174,Cke200,Cke0],[]),30036,Ckc9,[8],0),
  (17,(Ckl374,[Cke36,Cke200,Cke0],[]),30035,Ckc9,[9],0),
  (18,(Ckl374,[Cke188,Cke36,Cke200,Cke0],[]),30034,Ckc9,[10],88),
  (21,(Ckl374,[],[]),30033,Ckc9,[11],0),
  (22,(Ckl374,[Cke7],[]),30032,Ckc9,[12],0),
  (24,(Ckl375,[],[]),30030,Ckc10,[14],0),
  (26,(Ckl376,[Cke166],[]),30045,Ckc9,[15],0),
  (26,(Ckl375,[Cke167],[]),30029,Ckc10,[16],0),
  (29,(Ckl376,[Cke153,Cke166],[]),30044,Ckc9,[17],0),
  (29,(Ckl375,[Cke153,Cke167],[]),30028,Ckc10,[45,17],0),
  (32,(Ckl377,[],[]),30027,Ckc10,[18],0),
  (33,(Ckl377,[Cke0],[]),30026,Ckc10,[19],0),
  (36,(Ckl377,[Cke46],[]),30025,Ckc10,[45,20],0),
  (39,(Ckl377,[],Ckf7),30024,Ckc10,[21],0),
  (40,(Ckl377,[Cke0],Ckf7),30023,Ckc10,[22],0),
  (41,(Ckl377,[Cke174,Cke0],Ckf7),30022,Ckc10,[23],35),
  (44,(Ckl377,[Cke175],Ckf7),30021,Ckc10,[24],0),
  (46,(Ckl378,[],Ckf7),30020,Ckc10,[25],0),
  (48,(Ckl378,[Cke176],Ckf7),30019,Ckc10,[26],0),
  (49,(Ckl378,[Cke51,Cke176],Ckf7),30018,Ckc10,[28,27],0),
  (52,(Ckl379,[],Ckf7),1,Ckc9,[],0),
  (53,(Ckl380,[],Ckf7),30017,Ckc10,[29],0),
  (54,(Ckl380,[Cke0],Ckf7),30016,Ckc10,[30],6),
  (57,(Ckl380,[],Ckf7),30015,Ckc10,[31],0),
  (58,(Ckl380,[Cke0],Ckf7),30014,Ckc10,[32],0),
  (59,(Ckl380,[Cke200,Cke0],Ckf7),30013,Ckc10,[33],0),
  (60,(Ckl380,[Cke174,Cke200,Cke0],Ckf7),30012,Ckc10,[34],0),
  (61,(Ckl380,[Cke6,Cke174,Cke200,Cke0],Ckf7),30011,Ckc10,[35],0),
  (62,(Ckl380,[Cke36,Cke200,Cke0],Ckf7),30010,Ckc10,[36],0),
  (63,(Ckl380,[Cke188,Cke36,Cke200,Cke0],Ckf7),30009,Ckc10,[37],88),
  (66,(Ckl380,[],[]),30008,Ckc10,[38],0),
  (67,(Ckl380,[Cke200],[]),30007,Ckc10,[39],0),
  (69,(Ckl380,[Cke170,Cke200],[]),30006,Ckc10,[40],79),
  (72,(Ckl380,[],[]),30005,Ckc10,[41],0),
  (73,(Ckl380,[Cke174],[]),30004,Ckc10,[42],0),
  (74,(Ckl380,[Cke6,Cke174],[]),30003,Ckc10,[43],0),
  (78,(Ckl380,[],[]),30002,Ckc10,[44],0),
  (81,(Ckl381,[],[]),30031,Ckc10,[12],0),
  (84,(Ckl375,[],[]),0,Ckc9,[],0)]
def CNC89 : List (List ND) := [CNC89_0]
theorem CKC89 : chkS prot SMsC SMC89 [] CNC89 = true := by decide +kernel
-- OneSided$Reader.expression [(2, 2), (32, 32), (1, 1), (4, 4)]
def Ckl382 : AL := [some Cka0,some Cka121,some Cka6,some Cka31,none,none]
def Ckl383 : AL := [some Cka0,some Cka121,some Cka6,some Cka31,some Cka7,none]
def Ckl384 : AL := [some Cka0,some Cka121,some Cka6,some Cka31,some Cka7,some Cka109]
def Ckl385 : AL := [some Cka0,some Cka121,some Cka6,some Cka31,some Cka7,some Cka49]
def Ckl386 : AL := [some Cka0,some Cka121,some Cka6,some Cka31,some Cka7,some Cka105]
def CNC90_0 : List ND := [(0,(Ckl382,[],[]),42,Ckc9,[1],0),
  (1,(Ckl382,[Cke180],[]),41,Ckc9,[2],0),
  (2,(Ckl382,[Cke35,Cke180],[]),40,Ckc9,[3],0),
  (12,(Ckl382,[],[]),39,Ckc9,[4],0),
  (13,(Ckl382,[Cke0],[]),38,Ckc9,[5],0),
  (14,(Ckl382,[Cke200,Cke0],[]),37,Ckc9,[6],0),
  (15,(Ckl382,[Cke180,Cke200,Cke0],[]),36,Ckc9,[7],0),
  (16,(Ckl382,[Cke6,Cke180,Cke200,Cke0],[]),35,Ckc9,[8],0),
  (17,(Ckl382,[Cke22,Cke200,Cke0],[]),34,Ckc9,[9],0),
  (18,(Ckl382,[Cke188,Cke22,Cke200,Cke0],[]),33,Ckc9,[10],89),
  (21,(Ckl382,[],[]),32,Ckc9,[11],0),
  (22,(Ckl382,[Cke7],[]),31,Ckc9,[12],0),
  (24,(Ckl383,[],[]),30,Ckc9,[13],0),
  (26,(Ckl383,[Cke166],[]),29,Ckc9,[14],0),
  (29,(Ckl383,[Cke153,Cke166],[]),28,Ckc9,[15],0),
  (32,(Ckl383,[],[]),27,Ckc9,[16],0),
  (33,(Ckl383,[Cke0],[]),26,Ckc9,[17],0),
  (36,(Ckl383,[Cke46],[]),25,Ckc9,[42,18],0),
  (39,(Ckl383,[],Ckf7),23,Ckc9,[19],0),
  (40,(Ckl383,[Cke0],Ckf7),22,Ckc9,[20],0),
  (41,(Ckl383,[Cke180,Cke0],Ckf7),21,Ckc9,[21],37),
  (44,(Ckl383,[Cke175],Ckf7),20,Ckc9,[22],0),
  (46,(Ckl384,[],Ckf7),19,Ckc9,[23],0),
  (48,(Ckl384,[Cke176],Ckf7),18,Ckc9,[24],0),
  (49,(Ckl384,[Cke51,Cke176],Ckf7),17,Ckc9,[26,25],0),
  (52,(Ckl385,[],Ckf7),16,Ckc9,[],0),
  (53,(Ckl386,[],Ckf7),15,Ckc9,[27],0),
  (54,(Ckl386,[Cke0],Ckf7),14,Ckc9,[28],6),
  (57,(Ckl386,[],Ckf7),13,Ckc9,[29],0),
  (58,(Ckl386,[Cke0],Ckf7),12,Ckc9,[30],0),
  (59,(Ckl386,[Cke200,Cke0],Ckf7),11,Ckc9,[31],0),
  (60,(Ckl386,[Cke180,Cke200,Cke0],Ckf7),10,Ckc9,[32],0),
  (61,(Ckl386,[Cke6,Cke180,Cke200,Cke0],Ckf7),9,Ckc9,[33],0),
  (62,(Ckl386,[Cke22,Cke200,Cke0],Ckf7),8,Ckc9,[34],0),
  (63,(Ckl386,[Cke188,Cke22,Cke200,Cke0],Ckf7),7,Ckc9,[35],89),
  (66,(Ckl386,[],[]),6,Ckc9,[36],0),
  (67,(Ckl386,[Cke200],[]),5,Ckc9,[37],0),
  (69,(Ckl386,[Cke170,Cke200],[]),4,Ckc9,[38],79),
  (72,(Ckl386,[],[]),3,Ckc9,[39],0),
  (73,(Ckl386,[Cke180],[]),2,Ckc9,[40],0),
  (74,(Ckl386,[Cke6,Cke180],[]),1,Ckc9,[41],0),
  (77,(Ckl386,[],[]),0,Ckc9,[],0),
  (84,(Ckl383,[],Ckf6),24,Ckc9,[],0)]
def CNC90 : List (List ND) := [CNC90_0]
theorem CKC90 : chkS prot SMsC SMC90 [] CNC90 = true := by decide +kernel
-- OneSided$Reader.expression [(2, 2), (32, 32), (0, 0), (4, 4)]
def Ckl387 : AL := [some Cka0,some Cka121,some Cka7,some Cka31,none,none]
def Ckl388 : AL := [some Cka0,some Cka121,some Cka7,some Cka31,some Cka14,none]
def Ckl389 : AL := [some Cka0,some Cka121,some Cka7,some Cka31,some Cka7,none]
def Ckl390 : AL := [some Cka0,some Cka121,some Cka7,some Cka31,some Cka1,none]
def Ckl391 : AL := [some Cka0,some Cka121,some Cka7,some Cka31,some Cka1,some Cka109]
def Ckl392 : AL := [some Cka0,some Cka121,some Cka7,some Cka31,some Cka1,some Cka49]
def Ckl393 : AL := [some Cka0,some Cka121,some Cka7,some Cka31,some Cka1,some Cka105]
def Ckl394 : AL := [some Cka0,some Cka121,some Cka7,some Cka31,some Cka15,some Cka105]
def CNC91_0 : List ND := [(0,(Ckl387,[],[]),30043,Ckc9,[1],0),
  (1,(Ckl387,[Cke23],[]),30042,Ckc9,[2],0),
  (2,(Ckl387,[Cke35,Cke23],[]),30041,Ckc9,[3],0),
  (12,(Ckl387,[],[]),30040,Ckc9,[4],0),
  (13,(Ckl387,[Cke0],[]),30039,Ckc9,[5],0),
  (14,(Ckl387,[Cke200,Cke0],[]),30038,Ckc9,[6],0),
  (15,(Ckl387,[Cke23,Cke200,Cke0],[]),30037,Ckc9,[7],0),
  (16,(Ckl387,[Cke6,Cke23,Cke200,Cke0],[]),30036,Ckc9,[8],0),
  (17,(Ckl387,[Cke6,Cke200,Cke0],[]),30035,Ckc9,[9],0),
  (18,(Ckl387,[Cke188,Cke6,Cke200,Cke0],[]),30034,Ckc9,[10],90),
  (21,(Ckl387,[],[]),30033,Ckc9,[11],0),
  (22,(Ckl387,[Cke7],[]),30032,Ckc9,[12],0),
  (24,(Ckl388,[],[]),30030,Ckc10,[14],0),
  (26,(Ckl389,[Cke166],[]),30045,Ckc9,[15],0),
  (26,(Ckl388,[Cke167],[]),30029,Ckc10,[16],0),
  (29,(Ckl389,[Cke153,Cke166],[]),30044,Ckc9,[17],0),
  (29,(Ckl388,[Cke153,Cke167],[]),30028,Ckc10,[45,17],0),
  (32,(Ckl390,[],[]),30027,Ckc10,[18],0),
  (33,(Ckl390,[Cke0],[]),30026,Ckc10,[19],0),
  (36,(Ckl390,[Cke46],[]),30025,Ckc10,[45,20],0),
  (39,(Ckl390,[],Ckf7),30024,Ckc10,[21],0),
  (40,(Ckl390,[Cke0],Ckf7),30023,Ckc10,[22],0),
  (41,(Ckl390,[Cke23,Cke0],Ckf7),30022,Ckc10,[23],39),
  (44,(Ckl390,[Cke175],Ckf7),30021,Ckc10,[24],0),
  (46,(Ckl391,[],Ckf7),30020,Ckc10,[25],0),
  (48,(Ckl391,[Cke176],Ckf7),30019,Ckc10,[26],0),
  (49,(Ckl391,[Cke51,Cke176],Ckf7),30018,Ckc10,[28,27],0),
  (52,(Ckl392,[],Ckf7),1,Ckc9,[],0),
  (53,(Ckl393,[],Ckf7),30017,Ckc10,[29],0),
  (54,(Ckl393,[Cke0],Ckf7),30016,Ckc10,[30],6),
  (57,(Ckl393,[],Ckf7),30015,Ckc10,[31],0),
  (58,(Ckl393,[Cke0],Ckf7),30014,Ckc10,[32],0),
  (59,(Ckl393,[Cke200,Cke0],Ckf7),30013,Ckc10,[33],0),
  (60,(Ckl393,[Cke23,Cke200,Cke0],Ckf7),30012,Ckc10,[34],0),
  (61,(Ckl393,[Cke6,Cke23,Cke200,Cke0],Ckf7),30011,Ckc10,[35],0),
  (62,(Ckl393,[Cke6,Cke200,Cke0],Ckf7),30010,Ckc10,[36],0),
  (63,(Ckl393,[Cke188,Cke6,Cke200,Cke0],Ckf7),30009,Ckc10,[37],90),
  (66,(Ckl393,[],[]),30008,Ckc10,[38],0),
  (67,(Ckl393,[Cke200],[]),30007,Ckc10,[39],0),
  (69,(Ckl393,[Cke170,Cke200],[]),30006,Ckc10,[40],79),
  (72,(Ckl393,[],[]),30005,Ckc10,[41],0),
  (73,(Ckl393,[Cke23],[]),30004,Ckc10,[42],0),
  (74,(Ckl393,[Cke6,Cke23],[]),30003,Ckc10,[43],0),
  (78,(Ckl393,[],[]),30002,Ckc10,[44],0),
  (81,(Ckl394,[],[]),30031,Ckc10,[12],0),
  (84,(Ckl388,[],[]),0,Ckc9,[],0)]
def CNC91 : List (List ND) := [CNC91_0]
theorem CKC91 : chkS prot SMsC SMC91 [] CNC91 = true := by decide +kernel
-- OneSided$Reader.part [(2, 2), (32, 32), (3, 3)]
def Ckl395 : AL := [some Cka0,some Cka121,some Cka32,none,none,none]
def Ckl396 : AL := [some Cka0,some Cka121,some Cka32,some Cka96,none,none]
def Ckl397 : AL := [some Cka0,some Cka121,some Cka32,some Cka96,some Cka96,none]
def Ckl398 : AL := [some Cka0,some Cka121,some Cka32,some Cka96,some Cka96,some Cka96]
def Ckl399 : AL := [some Cka0,some Cka121,some Cka32,some Cka7,some Cka96,some Cka96]
def Ckl400 : AL := [some Cka0,some Cka121,some Cka32,some Cka7,some Cka7,some Cka96]
def Ckl401 : AL := [some Cka0,some Cka121,some Cka32,some Cka7,some Cka7,some Cka7]
def Ckl402 : AL := [some Cka0,some Cka121,some Cka32,some Cka6,some Cka96,some Cka96]
def Ckl403 : AL := [some Cka0,some Cka121,some Cka32,some Cka7,some Cka7,some Cka6]
def CNC92_0 : List ND := [(0,(Ckl395,[],[]),87,Ckc9,[1],0),
  (1,(Ckl395,[Cke0],[]),86,Ckc9,[2],0),
  (4,(Ckl395,[Cke60],[]),85,Ckc9,[3],0),
  (5,(Ckl395,[Cke36,Cke60],[]),84,Ckc9,[6,4],0),
  (8,(Ckl395,[],Ckf25),83,Ckc9,[5],0),
  (9,(Ckl395,[Cke6],Ckf25),82,Ckc9,[8],0),
  (12,(Ckl395,[],Ckf24),80,Ckc9,[7],0),
  (13,(Ckl395,[Cke7],Ckf24),79,Ckc9,[9],0),
  (13,(Ckl395,[Cke6],Ckf25),81,Ckc9,[9],0),
  (14,(Ckl396,[],[]),78,Ckc9,[10],0),
  (15,(Ckl396,[Cke0],[]),77,Ckc9,[11],0),
  (18,(Ckl396,[Cke58],[]),76,Ckc9,[12],0),
  (20,(Ckl396,[Cke73,Cke58],[]),75,Ckc9,[15,13],0),
  (23,(Ckl396,[],Ckf46),72,Ckc9,[14],0),
  (24,(Ckl396,[Cke6],Ckf46),71,Ckc9,[17],0),
  (27,(Ckl396,[],Ckf47),74,Ckc9,[16],0),
  (28,(Ckl396,[Cke7],Ckf47),73,Ckc9,[18],0),
  (28,(Ckl396,[Cke6],Ckf46),70,Ckc9,[18],0),
  (30,(Ckl397,[],[]),69,Ckc9,[19],0),
  (31,(Ckl397,[Cke0],[]),68,Ckc9,[20],0),
  (33,(Ckl397,[Cke38,Cke0],[]),67,Ckc9,[22,21],12),
  (36,(Ckl397,[Cke7],[]),66,Ckc9,[23],0),
  (36,(Ckl397,[Cke6],[]),65,Ckc9,[23],0),
  (38,(Ckl398,[],[]),64,Ckc9,[24],0),
  (39,(Ckl398,[Cke142],[]),63,Ckc9,[37,25],0),
  (42,(Ckl399,[],[]),62,Ckc9,[26],0),
  (44,(Ckl399,[Cke157],[]),61,Ckc9,[37,27],0),
  (47,(Ckl400,[],[]),60,Ckc9,[28],0),
  (49,(Ckl400,[Cke158],[]),59,Ckc9,[37,29],0),
  (52,(Ckl401,[],[]),58,Ckc9,[30],0),
  (53,(Ckl401,[Cke0],[]),57,Ckc9,[31],0),
  (56,(Ckl401,[Cke58],[]),56,Ckc9,[32],0),
  (58,(Ckl401,[Cke159,Cke58],[]),55,Ckc9,[37,33],0),
  (61,(Ckl401,[],Ckf23),54,Ckc9,[34],0),
  (62,(Ckl401,[Cke0],Ckf23),53,Ckc9,[35],0),
  (63,(Ckl401,[Cke6,Cke0],Ckf23),52,Ckc9,[36],9),
  (66,(Ckl401,[],Ckf23),51,Ckc9,[],0),
  (67,(Ckl398,[],[]),50,Ckc9,[38],0),
  (68,(Ckl398,[Cke165],[]),49,Ckc9,[39],0),
  (69,(Ckl398,[Cke137,Cke165],[]),48,Ckc9,[40],0),
  (78,(Ckl398,[],[]),47,Ckc9,[41],0),
  (79,(Ckl398,[Cke142],[]),46,Ckc9,[44,42],0),
  (82,(Ckl399,[],[]),45,Ckc9,[43],0),
  (84,(Ckl399,[Cke157],[]),44,Ckc9,[61,44],0),
  (87,(Ckl398,[],[]),43,Ckc9,[45],0),
  (88,(Ckl398,[Cke200],[]),42,Ckc9,[46],0),
  (89,(Ckl398,[Cke142,Cke200],[]),41,Ckc9,[51,47],0),
  (92,(Ckl402,[Cke200],[]),34,Ckc9,[48],0),
  (93,(Ckl402,[Cke0,Cke200],[]),33,Ckc9,[49],0),
  (96,(Ckl402,[Cke18,Cke200],[]),32,Ckc9,[50],0),
  (97,(Ckl402,[Cke184,Cke200],[]),31,Ckc9,[57],0),
  (100,(Ckl399,[Cke200],[]),40,Ckc9,[52],0),
  (103,(Ckl399,[Cke185,Cke200],[]),39,Ckc9,[53],0),
  (104,(Ckl399,[Cke0,Cke185,Cke200],[]),38,Ckc9,[54],0),
  (107,(Ckl399,[Cke58,Cke185,Cke200],[]),37,Ckc9,[55],0),
  (108,(Ckl399,[Cke186,Cke200],[]),36,Ckc9,[56],0),
  (110,(Ckl399,[Cke73,Cke186,Cke200],[]),35,Ckc9,[57],0),
  (111,(Ckl398,[Cke184,Cke200],[]),30,Ckc9,[58],79),
  (114,(Ckl398,[],[]),29,Ckc9,[59],0),
  (115,(Ckl398,[Cke0],[]),28,Ckc9,[60],6),
  (118,(Ckl398,[],[]),27,Ckc9,[87],0),
  (121,(Ckl400,[],[]),26,Ckc9,[62],0),
  (123,(Ckl400,[Cke158],[]),25,Ckc9,[76,63],0),
  (126,(Ckl403,[],[]),24,Ckc9,[64],0)]
def CNC92_1 : List ND := [(127,(Ckl403,[Cke0],[]),23,Ckc9,[65],6),
  (130,(Ckl403,[],[]),22,Ckc9,[66],0),
  (131,(Ckl403,[Cke0],[]),21,Ckc9,[67],0),
  (132,(Ckl403,[Cke200,Cke0],[]),20,Ckc9,[68],0),
  (133,(Ckl403,[Cke7,Cke200,Cke0],[]),19,Ckc9,[69],0),
  (134,(Ckl403,[Cke165,Cke7,Cke200,Cke0],[]),18,Ckc9,[70],0),
  (135,(Ckl403,[Cke6,Cke165,Cke7,Cke200,Cke0],[]),17,Ckc9,[71],0),
  (136,(Ckl403,[Cke35,Cke7,Cke200,Cke0],[]),16,Ckc9,[72],91),
  (139,(Ckl403,[],[]),15,Ckc9,[73],0),
  (140,(Ckl403,[Cke0],[]),14,Ckc9,[74],0),
  (142,(Ckl403,[Cke39,Cke0],[]),13,Ckc9,[75],13),
  (145,(Ckl403,[],[]),12,Ckc9,[87],0),
  (148,(Ckl401,[],[]),11,Ckc9,[77],0),
  (149,(Ckl401,[Cke0],[]),10,Ckc9,[78],6),
  (152,(Ckl401,[],[]),9,Ckc9,[79],0),
  (153,(Ckl401,[Cke0],[]),8,Ckc9,[80],0),
  (154,(Ckl401,[Cke200,Cke0],[]),7,Ckc9,[81],0),
  (155,(Ckl401,[Cke165,Cke200,Cke0],[]),6,Ckc9,[82],0),
  (156,(Ckl401,[Cke6,Cke165,Cke200,Cke0],[]),5,Ckc9,[83],0),
  (157,(Ckl401,[Cke35,Cke200,Cke0],[]),4,Ckc9,[84],86),
  (160,(Ckl401,[],[]),3,Ckc9,[85],0),
  (161,(Ckl401,[Cke200],[]),2,Ckc9,[86],0),
  (164,(Ckl401,[Cke187,Cke200],[]),1,Ckc9,[87],79),
  (167,(Ckl398,[],[]),0,Ckc9,[],0)]
def CNC92 : List (List ND) := [CNC92_0, CNC92_1]
theorem CKC92 : chkS prot SMsC SMC92 [] CNC92 = true := by decide +kernel
-- OneSided$Reader.expression [(2, 2), (32, 32), (4, 4), (3, 3)]
def Ckl404 : AL := [some Cka0,some Cka121,some Cka31,some Cka32,none,none]
def CNC93_0 : List ND := [(0,(Ckl404,[],[]),7,Ckc9,[1],0),
  (1,(Ckl404,[Cke161],[]),6,Ckc9,[2],0),
  (2,(Ckl404,[Cke35,Cke161],[]),5,Ckc9,[3],0),
  (5,(Ckl404,[],[]),4,Ckc9,[4],0),
  (6,(Ckl404,[Cke0],[]),3,Ckc9,[5],0),
  (7,(Ckl404,[Cke200,Cke0],[]),2,Ckc9,[6],0),
  (8,(Ckl404,[Cke189,Cke200,Cke0],[]),1,Ckc9,[7],92),
  (11,(Ckl404,[],[]),0,Ckc9,[],0)]
def CNC93 : List (List ND) := [CNC93_0]
theorem CKC93 : chkS prot SMsC SMC93 [] CNC93 = true := by decide +kernel
-- OneSided$Reader.expression [(2, 2), (32, 32), (3, 3), (3, 3)]
def Ckl405 : AL := [some Cka0,some Cka121,some Cka32,some Cka32,none,none]
def Ckl406 : AL := [some Cka0,some Cka121,some Cka32,some Cka32,some Cka14,none]
def Ckl407 : AL := [some Cka0,some Cka121,some Cka32,some Cka32,some Cka7,none]
def Ckl408 : AL := [some Cka0,some Cka121,some Cka32,some Cka32,some Cka1,none]
def Ckl409 : AL := [some Cka0,some Cka121,some Cka32,some Cka32,some Cka1,some Cka104]
def Ckl410 : AL := [some Cka0,some Cka121,some Cka32,some Cka32,some Cka1,some Cka49]
def Ckl411 : AL := [some Cka0,some Cka121,some Cka32,some Cka32,some Cka1,some Cka105]
def Ckl412 : AL := [some Cka0,some Cka121,some Cka32,some Cka32,some Cka15,some Cka105]
def CNC94_0 : List ND := [(0,(Ckl405,[],[]),30043,Ckc9,[1],0),
  (1,(Ckl405,[Cke165],[]),30042,Ckc9,[2],0),
  (2,(Ckl405,[Cke35,Cke165],[]),30041,Ckc9,[3],0),
  (12,(Ckl405,[],[]),30040,Ckc9,[4],0),
  (13,(Ckl405,[Cke0],[]),30039,Ckc9,[5],0),
  (14,(Ckl405,[Cke200,Cke0],[]),30038,Ckc9,[6],0),
  (15,(Ckl405,[Cke165,Cke200,Cke0],[]),30037,Ckc9,[7],0),
  (16,(Ckl405,[Cke6,Cke165,Cke200,Cke0],[]),30036,Ckc9,[8],0),
  (17,(Ckl405,[Cke35,Cke200,Cke0],[]),30035,Ckc9,[9],0),
  (18,(Ckl405,[Cke189,Cke35,Cke200,Cke0],[]),30034,Ckc9,[10],93),
  (21,(Ckl405,[],[]),30033,Ckc9,[11],0),
  (22,(Ckl405,[Cke7],[]),30032,Ckc9,[12],0),
  (24,(Ckl406,[],[]),30030,Ckc10,[14],0),
  (26,(Ckl407,[Cke166],[]),30045,Ckc9,[15],0),
  (26,(Ckl406,[Cke167],[]),30029,Ckc10,[16],0),
  (29,(Ckl407,[Cke153,Cke166],[]),30044,Ckc9,[17],0),
  (29,(Ckl406,[Cke153,Cke167],[]),30028,Ckc10,[45,17],0),
  (32,(Ckl408,[],[]),30027,Ckc10,[18],0),
  (33,(Ckl408,[Cke0],[]),30026,Ckc10,[19],0),
  (36,(Ckl408,[Cke46],[]),30025,Ckc10,[45,20],0),
  (39,(Ckl408,[],Ckf7),30024,Ckc10,[21],0),
  (40,(Ckl408,[Cke0],Ckf7),30023,Ckc10,[22],0),
  (41,(Ckl408,[Cke165,Cke0],Ckf7),30022,Ckc10,[23],33),
  (44,(Ckl408,[Cke168],Ckf7),30021,Ckc10,[24],0),
  (46,(Ckl409,[],Ckf7),30020,Ckc10,[25],0),
  (48,(Ckl409,[Cke169],Ckf7),30019,Ckc10,[26],0),
  (49,(Ckl409,[Cke51,Cke169],Ckf7),30018,Ckc10,[28,27],0),
  (52,(Ckl410,[],Ckf7),1,Ckc9,[],0),
  (53,(Ckl411,[],Ckf7),30017,Ckc10,[29],0),
  (54,(Ckl411,[Cke0],Ckf7),30016,Ckc10,[30],6),
  (57,(Ckl411,[],Ckf7),30015,Ckc10,[31],0),
  (58,(Ckl411,[Cke0],Ckf7),30014,Ckc10,[32],0),
  (59,(Ckl411,[Cke200,Cke0],Ckf7),30013,Ckc10,[33],0),
  (60,(Ckl411,[Cke165,Cke200,Cke0],Ckf7),30012,Ckc10,[34],0),
  (61,(Ckl411,[Cke6,Cke165,Cke200,Cke0],Ckf7),30011,Ckc10,[35],0),
  (62,(Ckl411,[Cke35,Cke200,Cke0],Ckf7),30010,Ckc10,[36],0),
  (63,(Ckl411,[Cke189,Cke35,Cke200,Cke0],Ckf7),30009,Ckc10,[37],93),
  (66,(Ckl411,[],[]),30008,Ckc10,[38],0),
  (67,(Ckl411,[Cke200],[]),30007,Ckc10,[39],0),
  (69,(Ckl411,[Cke170,Cke200],[]),30006,Ckc10,[40],79),
  (72,(Ckl411,[],[]),30005,Ckc10,[41],0),
  (73,(Ckl411,[Cke165],[]),30004,Ckc10,[42],0),
  (74,(Ckl411,[Cke6,Cke165],[]),30003,Ckc10,[43],0),
  (78,(Ckl411,[],[]),30002,Ckc10,[44],0),
  (81,(Ckl412,[],[]),30031,Ckc10,[12],0),
  (84,(Ckl406,[],[]),0,Ckc9,[],0)]
def CNC94 : List (List ND) := [CNC94_0]
theorem CKC94 : chkS prot SMsC SMC94 [] CNC94 = true := by decide +kernel
-- OneSided$Reader.expression [(2, 2), (32, 32), (2, 2), (3, 3)]
def Ckl413 : AL := [some Cka0,some Cka121,some Cka18,some Cka32,none,none]
def Ckl414 : AL := [some Cka0,some Cka121,some Cka18,some Cka32,some Cka14,none]
def Ckl415 : AL := [some Cka0,some Cka121,some Cka18,some Cka32,some Cka7,none]
def Ckl416 : AL := [some Cka0,some Cka121,some Cka18,some Cka32,some Cka1,none]
def Ckl417 : AL := [some Cka0,some Cka121,some Cka18,some Cka32,some Cka1,some Cka109]
def Ckl418 : AL := [some Cka0,some Cka121,some Cka18,some Cka32,some Cka1,some Cka49]
def Ckl419 : AL := [some Cka0,some Cka121,some Cka18,some Cka32,some Cka1,some Cka105]
def Ckl420 : AL := [some Cka0,some Cka121,some Cka18,some Cka32,some Cka15,some Cka105]
def CNC95_0 : List ND := [(0,(Ckl413,[],[]),30043,Ckc9,[1],0),
  (1,(Ckl413,[Cke174],[]),30042,Ckc9,[2],0),
  (2,(Ckl413,[Cke35,Cke174],[]),30041,Ckc9,[3],0),
  (12,(Ckl413,[],[]),30040,Ckc9,[4],0),
  (13,(Ckl413,[Cke0],[]),30039,Ckc9,[5],0),
  (14,(Ckl413,[Cke200,Cke0],[]),30038,Ckc9,[6],0),
  (15,(Ckl413,[Cke174,Cke200,Cke0],[]),30037,Ckc9,[7],0),
  (16,(Ckl413,[Cke6,Cke174,Cke200,Cke0],[]),30036,Ckc9,[8],0),
  (17,(Ckl413,[Cke36,Cke200,Cke0],[]),30035,Ckc9,[9],0),
  (18,(Ckl413,[Cke189,Cke36,Cke200,Cke0],[]),30034,Ckc9,[10],94),
  (21,(Ckl413,[],[]),30033,Ckc9,[11],0),
  (22,(Ckl413,[Cke7],[]),30032,Ckc9,[12],0),
  (24,(Ckl414,[],[]),30030,Ckc10,[14],0),
  (26,(Ckl415,[Cke166],[]),30045,Ckc9,[15],0),
  (26,(Ckl414,[Cke167],[]),30029,Ckc10,[16],0),
  (29,(Ckl415,[Cke153,Cke166],[]),30044,Ckc9,[17],0),
  (29,(Ckl414,[Cke153,Cke167],[]),30028,Ckc10,[45,17],0),
  (32,(Ckl416,[],[]),30027,Ckc10,[18],0),
  (33,(Ckl416,[Cke0],[]),30026,Ckc10,[19],0),
  (36,(Ckl416,[Cke46],[]),30025,Ckc10,[45,20],0),
  (39,(Ckl416,[],Ckf7),30024,Ckc10,[21],0),
  (40,(Ckl416,[Cke0],Ckf7),30023,Ckc10,[22],0),
  (41,(Ckl416,[Cke174,Cke0],Ckf7),30022,Ckc10,[23],35),
  (44,(Ckl416,[Cke175],Ckf7),30021,Ckc10,[24],0),
  (46,(Ckl417,[],Ckf7),30020,Ckc10,[25],0),
  (48,(Ckl417,[Cke176],Ckf7),30019,Ckc10,[26],0),
  (49,(Ckl417,[Cke51,Cke176],Ckf7),30018,Ckc10,[28,27],0),
  (52,(Ckl418,[],Ckf7),1,Ckc9,[],0),
  (53,(Ckl419,[],Ckf7),30017,Ckc10,[29],0),
  (54,(Ckl419,[Cke0],Ckf7),30016,Ckc10,[30],6),
  (57,(Ckl419,[],Ckf7),30015,Ckc10,[31],0),
  (58,(Ckl419,[Cke0],Ckf7),30014,Ckc10,[32],0),
  (59,(Ckl419,[Cke200,Cke0],Ckf7),30013,Ckc10,[33],0),
  (60,(Ckl419,[Cke174,Cke200,Cke0],Ckf7),30012,Ckc10,[34],0),
  (61,(Ckl419,[Cke6,Cke174,Cke200,Cke0],Ckf7),30011,Ckc10,[35],0),
  (62,(Ckl419,[Cke36,Cke200,Cke0],Ckf7),30010,Ckc10,[36],0),
  (63,(Ckl419,[Cke189,Cke36,Cke200,Cke0],Ckf7),30009,Ckc10,[37],94),
  (66,(Ckl419,[],[]),30008,Ckc10,[38],0),
  (67,(Ckl419,[Cke200],[]),30007,Ckc10,[39],0),
  (69,(Ckl419,[Cke170,Cke200],[]),30006,Ckc10,[40],79),
  (72,(Ckl419,[],[]),30005,Ckc10,[41],0),
  (73,(Ckl419,[Cke174],[]),30004,Ckc10,[42],0),
  (74,(Ckl419,[Cke6,Cke174],[]),30003,Ckc10,[43],0),
  (78,(Ckl419,[],[]),30002,Ckc10,[44],0),
  (81,(Ckl420,[],[]),30031,Ckc10,[12],0),
  (84,(Ckl414,[],[]),0,Ckc9,[],0)]
def CNC95 : List (List ND) := [CNC95_0]
theorem CKC95 : chkS prot SMsC SMC95 [] CNC95 = true := by decide +kernel
-- OneSided$Reader.expression [(2, 2), (32, 32), (1, 1), (3, 3)]
def Ckl421 : AL := [some Cka0,some Cka121,some Cka6,some Cka32,none,none]
def Ckl422 : AL := [some Cka0,some Cka121,some Cka6,some Cka32,some Cka7,none]
def Ckl423 : AL := [some Cka0,some Cka121,some Cka6,some Cka32,some Cka7,some Cka109]
def Ckl424 : AL := [some Cka0,some Cka121,some Cka6,some Cka32,some Cka7,some Cka49]
def Ckl425 : AL := [some Cka0,some Cka121,some Cka6,some Cka32,some Cka7,some Cka105]
def CNC96_0 : List ND := [(0,(Ckl421,[],[]),42,Ckc9,[1],0),
  (1,(Ckl421,[Cke180],[]),41,Ckc9,[2],0),
  (2,(Ckl421,[Cke35,Cke180],[]),40,Ckc9,[3],0),
  (12,(Ckl421,[],[]),39,Ckc9,[4],0),
  (13,(Ckl421,[Cke0],[]),38,Ckc9,[5],0),
  (14,(Ckl421,[Cke200,Cke0],[]),37,Ckc9,[6],0),
  (15,(Ckl421,[Cke180,Cke200,Cke0],[]),36,Ckc9,[7],0),
  (16,(Ckl421,[Cke6,Cke180,Cke200,Cke0],[]),35,Ckc9,[8],0),
  (17,(Ckl421,[Cke22,Cke200,Cke0],[]),34,Ckc9,[9],0),
  (18,(Ckl421,[Cke189,Cke22,Cke200,Cke0],[]),33,Ckc9,[10],95),
  (21,(Ckl421,[],[]),32,Ckc9,[11],0),
  (22,(Ckl421,[Cke7],[]),31,Ckc9,[12],0),
  (24,(Ckl422,[],[]),30,Ckc9,[13],0),
  (26,(Ckl422,[Cke166],[]),29,Ckc9,[14],0),
  (29,(Ckl422,[Cke153,Cke166],[]),28,Ckc9,[15],0),
  (32,(Ckl422,[],[]),27,Ckc9,[16],0),
  (33,(Ckl422,[Cke0],[]),26,Ckc9,[17],0),
  (36,(Ckl422,[Cke46],[]),25,Ckc9,[42,18],0),
  (39,(Ckl422,[],Ckf7),23,Ckc9,[19],0),
  (40,(Ckl422,[Cke0],Ckf7),22,Ckc9,[20],0),
  (41,(Ckl422,[Cke180,Cke0],Ckf7),21,Ckc9,[21],37),
  (44,(Ckl422,[Cke175],Ckf7),20,Ckc9,[22],0),
  (46,(Ckl423,[],Ckf7),19,Ckc9,[23],0),
  (48,(Ckl423,[Cke176],Ckf7),18,Ckc9,[24],0),
  (49,(Ckl423,[Cke51,Cke176],Ckf7),17,Ckc9,[26,25],0),
  (52,(Ckl424,[],Ckf7),16,Ckc9,[],0),
  (53,(Ckl425,[],Ckf7),15,Ckc9,[27],0),
  (54,(Ckl425,[Cke0],Ckf7),14,Ckc9,[28],6),
  (57,(Ckl425,[],Ckf7),13,Ckc9,[29],0),
  (58,(Ckl425,[Cke0],Ckf7),12,Ckc9,[30],0),
  (59,(Ckl425,[Cke200,Cke0],Ckf7),11,Ckc9,[31],0),
  (60,(Ckl425,[Cke180,Cke200,Cke0],Ckf7),10,Ckc9,[32],0),
  (61,(Ckl425,[Cke6,Cke180,Cke200,Cke0],Ckf7),9,Ckc9,[33],0),
  (62,(Ckl425,[Cke22,Cke200,Cke0],Ckf7),8,Ckc9,[34],0),
  (63,(Ckl425,[Cke189,Cke22,Cke200,Cke0],Ckf7),7,Ckc9,[35],95),
  (66,(Ckl425,[],[]),6,Ckc9,[36],0),
  (67,(Ckl425,[Cke200],[]),5,Ckc9,[37],0),
  (69,(Ckl425,[Cke170,Cke200],[]),4,Ckc9,[38],79),
  (72,(Ckl425,[],[]),3,Ckc9,[39],0),
  (73,(Ckl425,[Cke180],[]),2,Ckc9,[40],0),
  (74,(Ckl425,[Cke6,Cke180],[]),1,Ckc9,[41],0),
  (77,(Ckl425,[],[]),0,Ckc9,[],0),
  (84,(Ckl422,[],Ckf6),24,Ckc9,[],0)]
def CNC96 : List (List ND) := [CNC96_0]
theorem CKC96 : chkS prot SMsC SMC96 [] CNC96 = true := by decide +kernel
-- OneSided$Reader.expression [(2, 2), (32, 32), (0, 0), (3, 3)]
def Ckl426 : AL := [some Cka0,some Cka121,some Cka7,some Cka32,none,none]
def Ckl427 : AL := [some Cka0,some Cka121,some Cka7,some Cka32,some Cka14,none]
def Ckl428 : AL := [some Cka0,some Cka121,some Cka7,some Cka32,some Cka7,none]
def Ckl429 : AL := [some Cka0,some Cka121,some Cka7,some Cka32,some Cka1,none]
def Ckl430 : AL := [some Cka0,some Cka121,some Cka7,some Cka32,some Cka1,some Cka109]
def Ckl431 : AL := [some Cka0,some Cka121,some Cka7,some Cka32,some Cka1,some Cka49]
def Ckl432 : AL := [some Cka0,some Cka121,some Cka7,some Cka32,some Cka1,some Cka105]
def Ckl433 : AL := [some Cka0,some Cka121,some Cka7,some Cka32,some Cka15,some Cka105]
def CNC97_0 : List ND := [(0,(Ckl426,[],[]),30043,Ckc9,[1],0),
  (1,(Ckl426,[Cke23],[]),30042,Ckc9,[2],0),
  (2,(Ckl426,[Cke35,Cke23],[]),30041,Ckc9,[3],0),
  (12,(Ckl426,[],[]),30040,Ckc9,[4],0),
  (13,(Ckl426,[Cke0],[]),30039,Ckc9,[5],0),
  (14,(Ckl426,[Cke200,Cke0],[]),30038,Ckc9,[6],0),
  (15,(Ckl426,[Cke23,Cke200,Cke0],[]),30037,Ckc9,[7],0),
  (16,(Ckl426,[Cke6,Cke23,Cke200,Cke0],[]),30036,Ckc9,[8],0),
  (17,(Ckl426,[Cke6,Cke200,Cke0],[]),30035,Ckc9,[9],0),
  (18,(Ckl426,[Cke189,Cke6,Cke200,Cke0],[]),30034,Ckc9,[10],96),
  (21,(Ckl426,[],[]),30033,Ckc9,[11],0),
  (22,(Ckl426,[Cke7],[]),30032,Ckc9,[12],0),
  (24,(Ckl427,[],[]),30030,Ckc10,[14],0),
  (26,(Ckl428,[Cke166],[]),30045,Ckc9,[15],0),
  (26,(Ckl427,[Cke167],[]),30029,Ckc10,[16],0),
  (29,(Ckl428,[Cke153,Cke166],[]),30044,Ckc9,[17],0),
  (29,(Ckl427,[Cke153,Cke167],[]),30028,Ckc10,[45,17],0),
  (32,(Ckl429,[],[]),30027,Ckc10,[18],0),
  (33,(Ckl429,[Cke0],[]),30026,Ckc10,[19],0),
  (36,(Ckl429,[Cke46],[]),30025,Ckc10,[45,20],0),
  (39,(Ckl429,[],Ckf7),30024,Ckc10,[21],0),
  (40,(Ckl429,[Cke0],Ckf7),30023,Ckc10,[22],0),
  (41,(Ckl429,[Cke23,Cke0],Ckf7),30022,Ckc10,[23],39),
  (44,(Ckl429,[Cke175],Ckf7),30021,Ckc10,[24],0),
  (46,(Ckl430,[],Ckf7),30020,Ckc10,[25],0),
  (48,(Ckl430,[Cke176],Ckf7),30019,Ckc10,[26],0),
  (49,(Ckl430,[Cke51,Cke176],Ckf7),30018,Ckc10,[28,27],0),
  (52,(Ckl431,[],Ckf7),1,Ckc9,[],0),
  (53,(Ckl432,[],Ckf7),30017,Ckc10,[29],0),
  (54,(Ckl432,[Cke0],Ckf7),30016,Ckc10,[30],6),
  (57,(Ckl432,[],Ckf7),30015,Ckc10,[31],0),
  (58,(Ckl432,[Cke0],Ckf7),30014,Ckc10,[32],0),
  (59,(Ckl432,[Cke200,Cke0],Ckf7),30013,Ckc10,[33],0),
  (60,(Ckl432,[Cke23,Cke200,Cke0],Ckf7),30012,Ckc10,[34],0),
  (61,(Ckl432,[Cke6,Cke23,Cke200,Cke0],Ckf7),30011,Ckc10,[35],0),
  (62,(Ckl432,[Cke6,Cke200,Cke0],Ckf7),30010,Ckc10,[36],0),
  (63,(Ckl432,[Cke189,Cke6,Cke200,Cke0],Ckf7),30009,Ckc10,[37],96),
  (66,(Ckl432,[],[]),30008,Ckc10,[38],0),
  (67,(Ckl432,[Cke200],[]),30007,Ckc10,[39],0),
  (69,(Ckl432,[Cke170,Cke200],[]),30006,Ckc10,[40],79),
  (72,(Ckl432,[],[]),30005,Ckc10,[41],0),
  (73,(Ckl432,[Cke23],[]),30004,Ckc10,[42],0),
  (74,(Ckl432,[Cke6,Cke23],[]),30003,Ckc10,[43],0),
  (78,(Ckl432,[],[]),30002,Ckc10,[44],0),
  (81,(Ckl433,[],[]),30031,Ckc10,[12],0),
  (84,(Ckl427,[],[]),0,Ckc9,[],0)]
def CNC97 : List (List ND) := [CNC97_0]
theorem CKC97 : chkS prot SMsC SMC97 [] CNC97 = true := by decide +kernel
-- OneSided$Reader.part [(2, 2), (32, 32), (2, 2)]
def Ckl434 : AL := [some Cka0,some Cka121,some Cka18,none,none,none]
def Ckl435 : AL := [some Cka0,some Cka121,some Cka18,some Cka96,none,none]
def Ckl436 : AL := [some Cka0,some Cka121,some Cka18,some Cka96,some Cka96,none]
def Ckl437 : AL := [some Cka0,some Cka121,some Cka18,some Cka96,some Cka96,some Cka96]
def Ckl438 : AL := [some Cka0,some Cka121,some Cka18,some Cka7,some Cka96,some Cka96]
def Ckl439 : AL := [some Cka0,some Cka121,some Cka18,some Cka7,some Cka7,some Cka96]
def Ckl440 : AL := [some Cka0,some Cka121,some Cka18,some Cka7,some Cka7,some Cka7]
def Ckl441 : AL := [some Cka0,some Cka121,some Cka18,some Cka6,some Cka96,some Cka96]
def Ckl442 : AL := [some Cka0,some Cka121,some Cka18,some Cka7,some Cka7,some Cka6]
def CNC98_0 : List ND := [(0,(Ckl434,[],[]),87,Ckc9,[1],0),
  (1,(Ckl434,[Cke0],[]),86,Ckc9,[2],0),
  (4,(Ckl434,[Cke60],[]),85,Ckc9,[3],0),
  (5,(Ckl434,[Cke36,Cke60],[]),84,Ckc9,[6,4],0),
  (8,(Ckl434,[],Ckf25),83,Ckc9,[5],0),
  (9,(Ckl434,[Cke6],Ckf25),82,Ckc9,[8],0),
  (12,(Ckl434,[],Ckf24),80,Ckc9,[7],0),
  (13,(Ckl434,[Cke7],Ckf24),79,Ckc9,[9],0),
  (13,(Ckl434,[Cke6],Ckf25),81,Ckc9,[9],0),
  (14,(Ckl435,[],[]),78,Ckc9,[10],0),
  (15,(Ckl435,[Cke0],[]),77,Ckc9,[11],0),
  (18,(Ckl435,[Cke58],[]),76,Ckc9,[12],0),
  (20,(Ckl435,[Cke73,Cke58],[]),75,Ckc9,[15,13],0),
  (23,(Ckl435,[],Ckf46),72,Ckc9,[14],0),
  (24,(Ckl435,[Cke6],Ckf46),71,Ckc9,[17],0),
  (27,(Ckl435,[],Ckf47),74,Ckc9,[16],0),
  (28,(Ckl435,[Cke7],Ckf47),73,Ckc9,[18],0),
  (28,(Ckl435,[Cke6],Ckf46),70,Ckc9,[18],0),
  (30,(Ckl436,[],[]),69,Ckc9,[19],0),
  (31,(Ckl436,[Cke0],[]),68,Ckc9,[20],0),
  (33,(Ckl436,[Cke38,Cke0],[]),67,Ckc9,[22,21],12),
  (36,(Ckl436,[Cke7],[]),66,Ckc9,[23],0),
  (36,(Ckl436,[Cke6],[]),65,Ckc9,[23],0),
  (38,(Ckl437,[],[]),64,Ckc9,[24],0),
  (39,(Ckl437,[Cke142],[]),63,Ckc9,[37,25],0),
  (42,(Ckl438,[],[]),62,Ckc9,[26],0),
  (44,(Ckl438,[Cke157],[]),61,Ckc9,[37,27],0),
  (47,(Ckl439,[],[]),60,Ckc9,[28],0),
  (49,(Ckl439,[Cke158],[]),59,Ckc9,[37,29],0),
  (52,(Ckl440,[],[]),58,Ckc9,[30],0),
  (53,(Ckl440,[Cke0],[]),57,Ckc9,[31],0),
  (56,(Ckl440,[Cke58],[]),56,Ckc9,[32],0),
  (58,(Ckl440,[Cke159,Cke58],[]),55,Ckc9,[37,33],0),
  (61,(Ckl440,[],Ckf23),54,Ckc9,[34],0),
  (62,(Ckl440,[Cke0],Ckf23),53,Ckc9,[35],0),
  (63,(Ckl440,[Cke6,Cke0],Ckf23),52,Ckc9,[36],9),
  (66,(Ckl440,[],Ckf23),51,Ckc9,[],0),
  (67,(Ckl437,[],[]),50,Ckc9,[38],0),
  (68,(Ckl437,[Cke174],[]),49,Ckc9,[39],0),
  (69,(Ckl437,[Cke137,Cke174],[]),48,Ckc9,[40],0),
  (78,(Ckl437,[],[]),47,Ckc9,[41],0),
  (79,(Ckl437,[Cke142],[]),46,Ckc9,[44,42],0),
  (82,(Ckl438,[],[]),45,Ckc9,[43],0),
  (84,(Ckl438,[Cke157],[]),44,Ckc9,[61,44],0),
  (87,(Ckl437,[],[]),43,Ckc9,[45],0),
  (88,(Ckl437,[Cke200],[]),42,Ckc9,[46],0),
  (89,(Ckl437,[Cke142,Cke200],[]),41,Ckc9,[51,47],0),
  (92,(Ckl441,[Cke200],[]),34,Ckc9,[48],0),
  (93,(Ckl441,[Cke0,Cke200],[]),33,Ckc9,[49],0),
  (96,(Ckl441,[Cke18,Cke200],[]),32,Ckc9,[50],0),
  (97,(Ckl441,[Cke184,Cke200],[]),31,Ckc9,[57],0),
  (100,(Ckl438,[Cke200],[]),40,Ckc9,[52],0),
  (103,(Ckl438,[Cke185,Cke200],[]),39,Ckc9,[53],0),
  (104,(Ckl438,[Cke0,Cke185,Cke200],[]),38,Ckc9,[54],0),
  (107,(Ckl438,[Cke58,Cke185,Cke200],[]),37,Ckc9,[55],0),
  (108,(Ckl438,[Cke186,Cke200],[]),36,Ckc9,[56],0),
  (110,(Ckl438,[Cke73,Cke186,Cke200],[]),35,Ckc9,[57],0),
  (111,(Ckl437,[Cke184,Cke200],[]),30,Ckc9,[58],79),
  (114,(Ckl437,[],[]),29,Ckc9,[59],0),
  (115,(Ckl437,[Cke0],[]),28,Ckc9,[60],6),
  (118,(Ckl437,[],[]),27,Ckc9,[87],0),
  (121,(Ckl439,[],[]),26,Ckc9,[62],0),
  (123,(Ckl439,[Cke158],[]),25,Ckc9,[76,63],0),
  (126,(Ckl442,[],[]),24,Ckc9,[64],0)]
def CNC98_1 : List ND := [(127,(Ckl442,[Cke0],[]),23,Ckc9,[65],6),
  (130,(Ckl442,[],[]),22,Ckc9,[66],0),
  (131,(Ckl442,[Cke0],[]),21,Ckc9,[67],0),
  (132,(Ckl442,[Cke200,Cke0],[]),20,Ckc9,[68],0),
  (133,(Ckl442,[Cke7,Cke200,Cke0],[]),19,Ckc9,[69],0),
  (134,(Ckl442,[Cke174,Cke7,Cke200,Cke0],[]),18,Ckc9,[70],0),
  (135,(Ckl442,[Cke6,Cke174,Cke7,Cke200,Cke0],[]),17,Ckc9,[71],0),
  (136,(Ckl442,[Cke36,Cke7,Cke200,Cke0],[]),16,Ckc9,[72],97),
  (139,(Ckl442,[],[]),15,Ckc9,[73],0),
  (140,(Ckl442,[Cke0],[]),14,Ckc9,[74],0),
  (142,(Ckl442,[Cke39,Cke0],[]),13,Ckc9,[75],13),
  (145,(Ckl442,[],[]),12,Ckc9,[87],0),
  (148,(Ckl440,[],[]),11,Ckc9,[77],0),
  (149,(Ckl440,[Cke0],[]),10,Ckc9,[78],6),
  (152,(Ckl440,[],[]),9,Ckc9,[79],0),
  (153,(Ckl440,[Cke0],[]),8,Ckc9,[80],0),
  (154,(Ckl440,[Cke200,Cke0],[]),7,Ckc9,[81],0),
  (155,(Ckl440,[Cke174,Cke200,Cke0],[]),6,Ckc9,[82],0),
  (156,(Ckl440,[Cke6,Cke174,Cke200,Cke0],[]),5,Ckc9,[83],0),
  (157,(Ckl440,[Cke36,Cke200,Cke0],[]),4,Ckc9,[84],92),
  (160,(Ckl440,[],[]),3,Ckc9,[85],0),
  (161,(Ckl440,[Cke200],[]),2,Ckc9,[86],0),
  (164,(Ckl440,[Cke187,Cke200],[]),1,Ckc9,[87],79),
  (167,(Ckl437,[],[]),0,Ckc9,[],0)]
def CNC98 : List (List ND) := [CNC98_0, CNC98_1]
theorem CKC98 : chkS prot SMsC SMC98 [] CNC98 = true := by decide +kernel
-- OneSided$Reader.expression [(2, 2), (32, 32), (4, 4), (2, 2)]
def Ckl443 : AL := [some Cka0,some Cka121,some Cka31,some Cka18,none,none]
def CNC99_0 : List ND := [(0,(Ckl443,[],[]),7,Ckc9,[1],0),
  (1,(Ckl443,[Cke161],[]),6,Ckc9,[2],0),
  (2,(Ckl443,[Cke35,Cke161],[]),5,Ckc9,[3],0),
  (5,(Ckl443,[],[]),4,Ckc9,[4],0),
  (6,(Ckl443,[Cke0],[]),3,Ckc9,[5],0),
  (7,(Ckl443,[Cke200,Cke0],[]),2,Ckc9,[6],0),
  (8,(Ckl443,[Cke190,Cke200,Cke0],[]),1,Ckc9,[7],98),
  (11,(Ckl443,[],[]),0,Ckc9,[],0)]
def CNC99 : List (List ND) := [CNC99_0]
theorem CKC99 : chkS prot SMsC SMC99 [] CNC99 = true := by decide +kernel
-- OneSided$Reader.expression [(2, 2), (32, 32), (3, 3), (2, 2)]
def Ckl444 : AL := [some Cka0,some Cka121,some Cka32,some Cka18,none,none]
def Ckl445 : AL := [some Cka0,some Cka121,some Cka32,some Cka18,some Cka14,none]
def Ckl446 : AL := [some Cka0,some Cka121,some Cka32,some Cka18,some Cka7,none]
def Ckl447 : AL := [some Cka0,some Cka121,some Cka32,some Cka18,some Cka1,none]
def Ckl448 : AL := [some Cka0,some Cka121,some Cka32,some Cka18,some Cka1,some Cka104]
def Ckl449 : AL := [some Cka0,some Cka121,some Cka32,some Cka18,some Cka1,some Cka49]
def Ckl450 : AL := [some Cka0,some Cka121,some Cka32,some Cka18,some Cka1,some Cka105]
def Ckl451 : AL := [some Cka0,some Cka121,some Cka32,some Cka18,some Cka15,some Cka105]
def CNC100_0 : List ND := [(0,(Ckl444,[],[]),30043,Ckc9,[1],0),
  (1,(Ckl444,[Cke165],[]),30042,Ckc9,[2],0),
  (2,(Ckl444,[Cke35,Cke165],[]),30041,Ckc9,[3],0),
  (12,(Ckl444,[],[]),30040,Ckc9,[4],0),
  (13,(Ckl444,[Cke0],[]),30039,Ckc9,[5],0),
  (14,(Ckl444,[Cke200,Cke0],[]),30038,Ckc9,[6],0),
  (15,(Ckl444,[Cke165,Cke200,Cke0],[]),30037,Ckc9,[7],0),
  (16,(Ckl444,[Cke6,Cke165,Cke200,Cke0],[]),30036,Ckc9,[8],0),
  (17,(Ckl444,[Cke35,Cke200,Cke0],[]),30035,Ckc9,[9],0),
  (18,(Ckl444,[Cke190,Cke35,Cke200,Cke0],[]),30034,Ckc9,[10],99),
  (21,(Ckl444,[],[]),30033,Ckc9,[11],0),
  (22,(Ckl444,[Cke7],[]),30032,Ckc9,[12],0),
  (24,(Ckl445,[],[]),30030,Ckc10,[14],0),
  (26,(Ckl446,[Cke166],[]),30045,Ckc9,[15],0),
  (26,(Ckl445,[Cke167],[]),30029,Ckc10,[16],0),
  (29,(Ckl446,[Cke153,Cke166],[]),30044,Ckc9,[17],0),
  (29,(Ckl445,[Cke153,Cke167],[]),30028,Ckc10,[45,17],0),
  (32,(Ckl447,[],[]),30027,Ckc10,[18],0),
  (33,(Ckl447,[Cke0],[]),30026,Ckc10,[19],0),
  (36,(Ckl447,[Cke46],[]),30025,Ckc10,[45,20],0),
  (39,(Ckl447,[],Ckf7),30024,Ckc10,[21],0),
  (40,(Ckl447,[Cke0],Ckf7),30023,Ckc10,[22],0),
  (41,(Ckl447,[Cke165,Cke0],Ckf7),30022,Ckc10,[23],33),
  (44,(Ckl447,[Cke168],Ckf7),30021,Ckc10,[24],0),
  (46,(Ckl448,[],Ckf7),30020,Ckc10,[25],0),
  (48,(Ckl448,[Cke169],Ckf7),30019,Ckc10,[26],0),
  (49,(Ckl448,[Cke51,Cke169],Ckf7),30018,Ckc10,[28,27],0),
  (52,(Ckl449,[],Ckf7),1,Ckc9,[],0),
  (53,(Ckl450,[],Ckf7),30017,Ckc10,[29],0),
  (54,(Ckl450,[Cke0],Ckf7),30016,Ckc10,[30],6),
  (57,(Ckl450,[],Ckf7),30015,Ckc10,[31],0),
  (58,(Ckl450,[Cke0],Ckf7),30014,Ckc10,[32],0),
  (59,(Ckl450,[Cke200,Cke0],Ckf7),30013,Ckc10,[33],0),
  (60,(Ckl450,[Cke165,Cke200,Cke0],Ckf7),30012,Ckc10,[34],0),
  (61,(Ckl450,[Cke6,Cke165,Cke200,Cke0],Ckf7),30011,Ckc10,[35],0),
  (62,(Ckl450,[Cke35,Cke200,Cke0],Ckf7),30010,Ckc10,[36],0),
  (63,(Ckl450,[Cke190,Cke35,Cke200,Cke0],Ckf7),30009,Ckc10,[37],99),
  (66,(Ckl450,[],[]),30008,Ckc10,[38],0),
  (67,(Ckl450,[Cke200],[]),30007,Ckc10,[39],0),
  (69,(Ckl450,[Cke170,Cke200],[]),30006,Ckc10,[40],79),
  (72,(Ckl450,[],[]),30005,Ckc10,[41],0),
  (73,(Ckl450,[Cke165],[]),30004,Ckc10,[42],0),
  (74,(Ckl450,[Cke6,Cke165],[]),30003,Ckc10,[43],0),
  (78,(Ckl450,[],[]),30002,Ckc10,[44],0),
  (81,(Ckl451,[],[]),30031,Ckc10,[12],0),
  (84,(Ckl445,[],[]),0,Ckc9,[],0)]
def CNC100 : List (List ND) := [CNC100_0]
theorem CKC100 : chkS prot SMsC SMC100 [] CNC100 = true := by decide +kernel
-- OneSided$Reader.expression [(2, 2), (32, 32), (2, 2), (2, 2)]
def Ckl452 : AL := [some Cka0,some Cka121,some Cka18,some Cka18,none,none]
def Ckl453 : AL := [some Cka0,some Cka121,some Cka18,some Cka18,some Cka14,none]
def Ckl454 : AL := [some Cka0,some Cka121,some Cka18,some Cka18,some Cka7,none]
def Ckl455 : AL := [some Cka0,some Cka121,some Cka18,some Cka18,some Cka1,none]
def Ckl456 : AL := [some Cka0,some Cka121,some Cka18,some Cka18,some Cka1,some Cka109]
def Ckl457 : AL := [some Cka0,some Cka121,some Cka18,some Cka18,some Cka1,some Cka49]
def Ckl458 : AL := [some Cka0,some Cka121,some Cka18,some Cka18,some Cka1,some Cka105]
def Ckl459 : AL := [some Cka0,some Cka121,some Cka18,some Cka18,some Cka15,some Cka105]
def CNC101_0 : List ND := [(0,(Ckl452,[],[]),30043,Ckc9,[1],0),
  (1,(Ckl452,[Cke174],[]),30042,Ckc9,[2],0),
  (2,(Ckl452,[Cke35,Cke174],[]),30041,Ckc9,[3],0),
  (12,(Ckl452,[],[]),30040,Ckc9,[4],0),
  (13,(Ckl452,[Cke0],[]),30039,Ckc9,[5],0),
  (14,(Ckl452,[Cke200,Cke0],[]),30038,Ckc9,[6],0),
  (15,(Ckl452,[Cke174,Cke200,Cke0],[]),30037,Ckc9,[7],0),
  (16,(Ckl452,[Cke6,Cke174,Cke200,Cke0],[]),30036,Ckc9,[8],0),
  (17,(Ckl452,[Cke36,Cke200,Cke0],[]),30035,Ckc9,[9],0),
  (18,(Ckl452,[Cke190,Cke36,Cke200,Cke0],[]),30034,Ckc9,[10],100),
  (21,(Ckl452,[],[]),30033,Ckc9,[11],0),
  (22,(Ckl452,[Cke7],[]),30032,Ckc9,[12],0),
  (24,(Ckl453,[],[]),30030,Ckc10,[14],0),
  (26,(Ckl454,[Cke166],[]),30045,Ckc9,[15],0),
  (26,(Ckl453,[Cke167],[]),30029,Ckc10,[16],0),
  (29,(Ckl454,[Cke153,Cke166],[]),30044,Ckc9,[17],0),
  (29,(Ckl453,[Cke153,Cke167],[]),30028,Ckc10,[45,17],0),
  (32,(Ckl455,[],[]),30027,Ckc10,[18],0),
  (33,(Ckl455,[Cke0],[]),30026,Ckc10,[19],0),
  (36,(Ckl455,[Cke46],[]),30025,Ckc10,[45,20],0),
  (39,(Ckl455,[],Ckf7),30024,Ckc10,[21],0),
  (40,(Ckl455,[Cke0],Ckf7),30023,Ckc10,[22],0),
  (41,(Ckl455,[Cke174,Cke0],Ckf7),30022,Ckc10,[23],35),
  (44,(Ckl455,[Cke175],Ckf7),30021,Ckc10,[24],0),
  (46,(Ckl456,[],Ckf7),30020,Ckc10,[25],0),
  (48,(Ckl456,[Cke176],Ckf7),30019,Ckc10,[26],0),
  (49,(Ckl456,[Cke51,Cke176],Ckf7),30018,Ckc10,[28,27],0),
  (52,(Ckl457,[],Ckf7),1,Ckc9,[],0),
  (53,(Ckl458,[],Ckf7),30017,Ckc10,[29],0),
  (54,(Ckl458,[Cke0],Ckf7),30016,Ckc10,[30],6),
  (57,(Ckl458,[],Ckf7),30015,Ckc10,[31],0),
  (58,(Ckl458,[Cke0],Ckf7),30014,Ckc10,[32],0),
  (59,(Ckl458,[Cke200,Cke0],Ckf7),30013,Ckc10,[33],0),
  (60,(Ckl458,[Cke174,Cke200,Cke0],Ckf7),30012,Ckc10,[34],0),
  (61,(Ckl458,[Cke6,Cke174,Cke200,Cke0],Ckf7),30011,Ckc10,[35],0),
  (62,(Ckl458,[Cke36,Cke200,Cke0],Ckf7),30010,Ckc10,[36],0),
  (63,(Ckl458,[Cke190,Cke36,Cke200,Cke0],Ckf7),30009,Ckc10,[37],100),
  (66,(Ckl458,[],[]),30008,Ckc10,[38],0),
  (67,(Ckl458,[Cke200],[]),30007,Ckc10,[39],0),
  (69,(Ckl458,[Cke170,Cke200],[]),30006,Ckc10,[40],79),
  (72,(Ckl458,[],[]),30005,Ckc10,[41],0),
  (73,(Ckl458,[Cke174],[]),30004,Ckc10,[42],0),
  (74,(Ckl458,[Cke6,Cke174],[]),30003,Ckc10,[43],0),
  (78,(Ckl458,[],[]),30002,Ckc10,[44],0),
  (81,(Ckl459,[],[]),30031,Ckc10,[12],0),
  (84,(Ckl453,[],[]),0,Ckc9,[],0)]
def CNC101 : List (List ND) := [CNC101_0]
theorem CKC101 : chkS prot SMsC SMC101 [] CNC101 = true := by decide +kernel
-- OneSided$Reader.expression [(2, 2), (32, 32), (1, 1), (2, 2)]
def Ckl460 : AL := [some Cka0,some Cka121,some Cka6,some Cka18,none,none]
def Ckl461 : AL := [some Cka0,some Cka121,some Cka6,some Cka18,some Cka7,none]
def Ckl462 : AL := [some Cka0,some Cka121,some Cka6,some Cka18,some Cka7,some Cka109]
def Ckl463 : AL := [some Cka0,some Cka121,some Cka6,some Cka18,some Cka7,some Cka49]
def Ckl464 : AL := [some Cka0,some Cka121,some Cka6,some Cka18,some Cka7,some Cka105]
def CNC102_0 : List ND := [(0,(Ckl460,[],[]),42,Ckc9,[1],0),
  (1,(Ckl460,[Cke180],[]),41,Ckc9,[2],0),
  (2,(Ckl460,[Cke35,Cke180],[]),40,Ckc9,[3],0),
  (12,(Ckl460,[],[]),39,Ckc9,[4],0),
  (13,(Ckl460,[Cke0],[]),38,Ckc9,[5],0),
  (14,(Ckl460,[Cke200,Cke0],[]),37,Ckc9,[6],0),
  (15,(Ckl460,[Cke180,Cke200,Cke0],[]),36,Ckc9,[7],0),
  (16,(Ckl460,[Cke6,Cke180,Cke200,Cke0],[]),35,Ckc9,[8],0),
  (17,(Ckl460,[Cke22,Cke200,Cke0],[]),34,Ckc9,[9],0),
  (18,(Ckl460,[Cke190,Cke22,Cke200,Cke0],[]),33,Ckc9,[10],101),
  (21,(Ckl460,[],[]),32,Ckc9,[11],0),
  (22,(Ckl460,[Cke7],[]),31,Ckc9,[12],0),
  (24,(Ckl461,[],[]),30,Ckc9,[13],0),
  (26,(Ckl461,[Cke166],[]),29,Ckc9,[14],0),
  (29,(Ckl461,[Cke153,Cke166],[]),28,Ckc9,[15],0),
  (32,(Ckl461,[],[]),27,Ckc9,[16],0),
  (33,(Ckl461,[Cke0],[]),26,Ckc9,[17],0),
  (36,(Ckl461,[Cke46],[]),25,Ckc9,[42,18],0),
  (39,(Ckl461,[],Ckf7),23,Ckc9,[19],0),
  (40,(Ckl461,[Cke0],Ckf7),22,Ckc9,[20],0),
  (41,(Ckl461,[Cke180,Cke0],Ckf7),21,Ckc9,[21],37),
  (44,(Ckl461,[Cke175],Ckf7),20,Ckc9,[22],0),
  (46,(Ckl462,[],Ckf7),19,Ckc9,[23],0),
  (48,(Ckl462,[Cke176],Ckf7),18,Ckc9,[24],0),
  (49,(Ckl462,[Cke51,Cke176],Ckf7),17,Ckc9,[26,25],0),
  (52,(Ckl463,[],Ckf7),16,Ckc9,[],0),
  (53,(Ckl464,[],Ckf7),15,Ckc9,[27],0),
  (54,(Ckl464,[Cke0],Ckf7),14,Ckc9,[28],6),
  (57,(Ckl464,[],Ckf7),13,Ckc9,[29],0),
  (58,(Ckl464,[Cke0],Ckf7),12,Ckc9,[30],0),
  (59,(Ckl464,[Cke200,Cke0],Ckf7),11,Ckc9,[31],0),
  (60,(Ckl464,[Cke180,Cke200,Cke0],Ckf7),10,Ckc9,[32],0),
  (61,(Ckl464,[Cke6,Cke180,Cke200,Cke0],Ckf7),9,Ckc9,[33],0),
  (62,(Ckl464,[Cke22,Cke200,Cke0],Ckf7),8,Ckc9,[34],0),
  (63,(Ckl464,[Cke190,Cke22,Cke200,Cke0],Ckf7),7,Ckc9,[35],101),
  (66,(Ckl464,[],[]),6,Ckc9,[36],0),
  (67,(Ckl464,[Cke200],[]),5,Ckc9,[37],0),
  (69,(Ckl464,[Cke170,Cke200],[]),4,Ckc9,[38],79),
  (72,(Ckl464,[],[]),3,Ckc9,[39],0),
  (73,(Ckl464,[Cke180],[]),2,Ckc9,[40],0),
  (74,(Ckl464,[Cke6,Cke180],[]),1,Ckc9,[41],0),
  (77,(Ckl464,[],[]),0,Ckc9,[],0),
  (84,(Ckl461,[],Ckf6),24,Ckc9,[],0)]
def CNC102 : List (List ND) := [CNC102_0]
theorem CKC102 : chkS prot SMsC SMC102 [] CNC102 = true := by decide +kernel
