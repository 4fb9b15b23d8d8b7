/-! LM, by program: certificates C 4 -/
-- OneSided$Reader.expression [(2, 2), (32, 32), (0, 0), (2, 2)]
def Ckl465 : AL := [some Cka0,some Cka121,some Cka7,some Cka18,none,none]
def Ckl466 : AL := [some Cka0,some Cka121,some Cka7,some Cka18,some Cka14,none]
def Ckl467 : AL := [some Cka0,some Cka121,some Cka7,some Cka18,some Cka7,none]
def Ckl468 : AL := [some Cka0,some Cka121,some Cka7,some Cka18,some Cka1,none]
def Ckl469 : AL := [some Cka0,some Cka121,some Cka7,some Cka18,some Cka1,some Cka109]
def Ckl470 : AL := [some Cka0,some Cka121,some Cka7,some Cka18,some Cka1,some Cka49]
def Ckl471 : AL := [some Cka0,some Cka121,some Cka7,some Cka18,some Cka1,some Cka105]
def Ckl472 : AL := [some Cka0,some Cka121,some Cka7,some Cka18,some Cka15,some Cka105]
def CNC103_0 : List ND := [(0,(Ckl465,[],[]),30043,Ckc9,[1],0),
  (1,(Ckl465,[Cke23],[]),30042,Ckc9,[2],0),
  (2,(Ckl465,[Cke35,Cke23],[]),30041,Ckc9,[3],0),
  (12,(Ckl465,[],[]),30040,Ckc9,[4],0),
  (13,(Ckl465,[Cke0],[]),30039,Ckc9,[5],0),
  (14,(Ckl465,[Cke200,Cke0],[]),30038,Ckc9,[6],0),
  (15,(Ckl465,[Cke23,Cke200,Cke0],[]),30037,Ckc9,[7],0),
  (16,(Ckl465,[Cke6,Cke23,Cke200,Cke0],[]),30036,Ckc9,[8],0),
  (17,(Ckl465,[Cke6,Cke200,Cke0],[]),30035,Ckc9,[9],0),
  (18,(Ckl465,[Cke190,Cke6,Cke200,Cke0],[]),30034,Ckc9,[10],102),
  (21,(Ckl465,[],[]),30033,Ckc9,[11],0),
  (22,(Ckl465,[Cke7],[]),30032,Ckc9,[12],0),
  (24,(Ckl466,[],[]),30030,Ckc10,[14],0),
  (26,(Ckl467,[Cke166],[]),30045,Ckc9,[15],0),
  (26,(Ckl466,[Cke167],[]),30029,Ckc10,[16],0),
  (29,(Ckl467,[Cke153,Cke166],[]),30044,Ckc9,[17],0),
  (29,(Ckl466,[Cke153,Cke167],[]),30028,Ckc10,[45,17],0),
  (32,(Ckl468,[],[]),30027,Ckc10,[18],0),
  (33,(Ckl468,[Cke0],[]),30026,Ckc10,[19],0),
  (36,(Ckl468,[Cke46],[]),30025,Ckc10,[45,20],0),
  (39,(Ckl468,[],Ckf7),30024,Ckc10,[21],0),
  (40,(Ckl468,[Cke0],Ckf7),30023,Ckc10,[22],0),
  (41,(Ckl468,[Cke23,Cke0],Ckf7),30022,Ckc10,[23],39),
  (44,(Ckl468,[Cke175],Ckf7),30021,Ckc10,[24],0),
  (46,(Ckl469,[],Ckf7),30020,Ckc10,[25],0),
  (48,(Ckl469,[Cke176],Ckf7),30019,Ckc10,[26],0),
  (49,(Ckl469,[Cke51,Cke176],Ckf7),30018,Ckc10,[28,27],0),
  (52,(Ckl470,[],Ckf7),1,Ckc9,[],0),
  (53,(Ckl471,[],Ckf7),30017,Ckc10,[29],0),
  (54,(Ckl471,[Cke0],Ckf7),30016,Ckc10,[30],6),
  (57,(Ckl471,[],Ckf7),30015,Ckc10,[31],0),
  (58,(Ckl471,[Cke0],Ckf7),30014,Ckc10,[32],0),
  (59,(Ckl471,[Cke200,Cke0],Ckf7),30013,Ckc10,[33],0),
  (60,(Ckl471,[Cke23,Cke200,Cke0],Ckf7),30012,Ckc10,[34],0),
  (61,(Ckl471,[Cke6,Cke23,Cke200,Cke0],Ckf7),30011,Ckc10,[35],0),
  (62,(Ckl471,[Cke6,Cke200,Cke0],Ckf7),30010,Ckc10,[36],0),
  (63,(Ckl471,[Cke190,Cke6,Cke200,Cke0],Ckf7),30009,Ckc10,[37],102),
  (66,(Ckl471,[],[]),30008,Ckc10,[38],0),
  (67,(Ckl471,[Cke200],[]),30007,Ckc10,[39],0),
  (69,(Ckl471,[Cke170,Cke200],[]),30006,Ckc10,[40],79),
  (72,(Ckl471,[],[]),30005,Ckc10,[41],0),
  (73,(Ckl471,[Cke23],[]),30004,Ckc10,[42],0),
  (74,(Ckl471,[Cke6,Cke23],[]),30003,Ckc10,[43],0),
  (78,(Ckl471,[],[]),30002,Ckc10,[44],0),
  (81,(Ckl472,[],[]),30031,Ckc10,[12],0),
  (84,(Ckl466,[],[]),0,Ckc9,[],0)]
def CNC103 : List (List ND) := [CNC103_0]
theorem CKC103 : chkS prot SMsC SMC103 [] CNC103 = true := by decide +kernel
-- OneSided$Reader.part [(2, 2), (32, 32), (1, 1)]
def Ckl473 : AL := [some Cka0,some Cka121,some Cka6,none,none,none]
def Ckl474 : AL := [some Cka0,some Cka121,some Cka6,some Cka96,none,none]
def Ckl475 : AL := [some Cka0,some Cka121,some Cka6,some Cka96,some Cka96,none]
def Ckl476 : AL := [some Cka0,some Cka121,some Cka6,some Cka96,some Cka96,some Cka96]
def Ckl477 : AL := [some Cka0,some Cka121,some Cka6,some Cka7,some Cka96,some Cka96]
def Ckl478 : AL := [some Cka0,some Cka121,some Cka6,some Cka7,some Cka7,some Cka96]
def Ckl479 : AL := [some Cka0,some Cka121,some Cka6,some Cka7,some Cka7,some Cka7]
def Ckl480 : AL := [some Cka0,some Cka121,some Cka6,some Cka6,some Cka96,some Cka96]
def Ckl481 : AL := [some Cka0,some Cka121,some Cka6,some Cka7,some Cka7,some Cka6]
def CNC104_0 : List ND := [(0,(Ckl473,[],[]),87,Ckc9,[1],0),
  (1,(Ckl473,[Cke0],[]),86,Ckc9,[2],0),
  (4,(Ckl473,[Cke60],[]),85,Ckc9,[3],0),
  (5,(Ckl473,[Cke36,Cke60],[]),84,Ckc9,[6,4],0),
  (8,(Ckl473,[],Ckf25),83,Ckc9,[5],0),
  (9,(Ckl473,[Cke6],Ckf25),82,Ckc9,[8],0),
  (12,(Ckl473,[],Ckf24),80,Ckc9,[7],0),
  (13,(Ckl473,[Cke7],Ckf24),79,Ckc9,[9],0),
  (13,(Ckl473,[Cke6],Ckf25),81,Ckc9,[9],0),
  (14,(Ckl474,[],[]),78,Ckc9,[10],0),
  (15,(Ckl474,[Cke0],[]),77,Ckc9,[11],0),
  (18,(Ckl474,[Cke58],[]),76,Ckc9,[12],0),
  (20,(Ckl474,[Cke73,Cke58],[]),75,Ckc9,[15,13],0),
  (23,(Ckl474,[],Ckf46),72,Ckc9,[14],0),
  (24,(Ckl474,[Cke6],Ckf46),71,Ckc9,[17],0),
  (27,(Ckl474,[],Ckf47),74,Ckc9,[16],0),
  (28,(Ckl474,[Cke7],Ckf47),73,Ckc9,[18],0),
  (28,(Ckl474,[Cke6],Ckf46),70,Ckc9,[18],0),
  (30,(Ckl475,[],[]),69,Ckc9,[19],0),
  (31,(Ckl475,[Cke0],[]),68,Ckc9,[20],0),
  (33,(Ckl475,[Cke38,Cke0],[]),67,Ckc9,[22,21],12),
  (36,(Ckl475,[Cke7],[]),66,Ckc9,[23],0),
  (36,(Ckl475,[Cke6],[]),65,Ckc9,[23],0),
  (38,(Ckl476,[],[]),64,Ckc9,[24],0),
  (39,(Ckl476,[Cke142],[]),63,Ckc9,[37,25],0),
  (42,(Ckl477,[],[]),62,Ckc9,[26],0),
  (44,(Ckl477,[Cke157],[]),61,Ckc9,[37,27],0),
  (47,(Ckl478,[],[]),60,Ckc9,[28],0),
  (49,(Ckl478,[Cke158],[]),59,Ckc9,[37,29],0),
  (52,(Ckl479,[],[]),58,Ckc9,[30],0),
  (53,(Ckl479,[Cke0],[]),57,Ckc9,[31],0),
  (56,(Ckl479,[Cke58],[]),56,Ckc9,[32],0),
  (58,(Ckl479,[Cke159,Cke58],[]),55,Ckc9,[37,33],0),
  (61,(Ckl479,[],Ckf23),54,Ckc9,[34],0),
  (62,(Ckl479,[Cke0],Ckf23),53,Ckc9,[35],0),
  (63,(Ckl479,[Cke6,Cke0],Ckf23),52,Ckc9,[36],9),
  (66,(Ckl479,[],Ckf23),51,Ckc9,[],0),
  (67,(Ckl476,[],[]),50,Ckc9,[38],0),
  (68,(Ckl476,[Cke180],[]),49,Ckc9,[39],0),
  (69,(Ckl476,[Cke137,Cke180],[]),48,Ckc9,[40],0),
  (78,(Ckl476,[],[]),47,Ckc9,[41],0),
  (79,(Ckl476,[Cke142],[]),46,Ckc9,[44,42],0),
  (82,(Ckl477,[],[]),45,Ckc9,[43],0),
  (84,(Ckl477,[Cke157],[]),44,Ckc9,[61,44],0),
  (87,(Ckl476,[],[]),43,Ckc9,[45],0),
  (88,(Ckl476,[Cke200],[]),42,Ckc9,[46],0),
  (89,(Ckl476,[Cke142,Cke200],[]),41,Ckc9,[51,47],0),
  (92,(Ckl480,[Cke200],[]),34,Ckc9,[48],0),
  (93,(Ckl480,[Cke0,Cke200],[]),33,Ckc9,[49],0),
  (96,(Ckl480,[Cke18,Cke200],[]),32,Ckc9,[50],0),
  (97,(Ckl480,[Cke184,Cke200],[]),31,Ckc9,[57],0),
  (100,(Ckl477,[Cke200],[]),40,Ckc9,[52],0),
  (103,(Ckl477,[Cke185,Cke200],[]),39,Ckc9,[53],0),
  (104,(Ckl477,[Cke0,Cke185,Cke200],[]),38,Ckc9,[54],0),
  (107,(Ckl477,[Cke58,Cke185,Cke200],[]),37,Ckc9,[55],0),
  (108,(Ckl477,[Cke186,Cke200],[]),36,Ckc9,[56],0),
  (110,(Ckl477,[Cke73,Cke186,Cke200],[]),35,Ckc9,[57],0),
  (111,(Ckl476,[Cke184,Cke200],[]),30,Ckc9,[58],79),
  (114,(Ckl476,[],[]),29,Ckc9,[59],0),
  (115,(Ckl476,[Cke0],[]),28,Ckc9,[60],6),
  (118,(Ckl476,[],[]),27,Ckc9,[87],0),
  (121,(Ckl478,[],[]),26,Ckc9,[62],0),
  (123,(Ckl478,[Cke158],[]),25,Ckc9,[76,63],0),
  (126,(Ckl481,[],[]),24,Ckc9,[64],0)]
def CNC104_1 : List ND := [(127,(Ckl481,[Cke0],[]),23,Ckc9,[65],6),
  (130,(Ckl481,[],[]),22,Ckc9,[66],0),
  (131,(Ckl481,[Cke0],[]),21,Ckc9,[67],0),
  (132,(Ckl481,[Cke200,Cke0],[]),20,Ckc9,[68],0),
  (133,(Ckl481,[Cke7,Cke200,Cke0],[]),19,Ckc9,[69],0),
  (134,(Ckl481,[Cke180,Cke7,Cke200,Cke0],[]),18,Ckc9,[70],0),
  (135,(Ckl481,[Cke6,Cke180,Cke7,Cke200,Cke0],[]),17,Ckc9,[71],0),
  (136,(Ckl481,[Cke22,Cke7,Cke200,Cke0],[]),16,Ckc9,[72],103),
  (139,(Ckl481,[],[]),15,Ckc9,[73],0),
  (140,(Ckl481,[Cke0],[]),14,Ckc9,[74],0),
  (142,(Ckl481,[Cke39,Cke0],[]),13,Ckc9,[75],13),
  (145,(Ckl481,[],[]),12,Ckc9,[87],0),
  (148,(Ckl479,[],[]),11,Ckc9,[77],0),
  (149,(Ckl479,[Cke0],[]),10,Ckc9,[78],6),
  (152,(Ckl479,[],[]),9,Ckc9,[79],0),
  (153,(Ckl479,[Cke0],[]),8,Ckc9,[80],0),
  (154,(Ckl479,[Cke200,Cke0],[]),7,Ckc9,[81],0),
  (155,(Ckl479,[Cke180,Cke200,Cke0],[]),6,Ckc9,[82],0),
  (156,(Ckl479,[Cke6,Cke180,Cke200,Cke0],[]),5,Ckc9,[83],0),
  (157,(Ckl479,[Cke22,Cke200,Cke0],[]),4,Ckc9,[84],98),
  (160,(Ckl479,[],[]),3,Ckc9,[85],0),
  (161,(Ckl479,[Cke200],[]),2,Ckc9,[86],0),
  (164,(Ckl479,[Cke187,Cke200],[]),1,Ckc9,[87],79),
  (167,(Ckl476,[],[]),0,Ckc9,[],0)]
def CNC104 : List (List ND) := [CNC104_0, CNC104_1]
theorem CKC104 : chkS prot SMsC SMC104 [] CNC104 = true := by decide +kernel
-- OneSided$Reader.expression [(2, 2), (32, 32), (4, 4), (1, 1)]
def Ckl482 : AL := [some Cka0,some Cka121,some Cka31,some Cka6,none,none]
def CNC105_0 : List ND := [(0,(Ckl482,[],[]),7,Ckc9,[1],0),
  (1,(Ckl482,[Cke161],[]),6,Ckc9,[2],0),
  (2,(Ckl482,[Cke35,Cke161],[]),5,Ckc9,[3],0),
  (5,(Ckl482,[],[]),4,Ckc9,[4],0),
  (6,(Ckl482,[Cke0],[]),3,Ckc9,[5],0),
  (7,(Ckl482,[Cke200,Cke0],[]),2,Ckc9,[6],0),
  (8,(Ckl482,[Cke191,Cke200,Cke0],[]),1,Ckc9,[7],104),
  (11,(Ckl482,[],[]),0,Ckc9,[],0)]
def CNC105 : List (List ND) := [CNC105_0]
theorem CKC105 : chkS prot SMsC SMC105 [] CNC105 = true := by decide +kernel
-- OneSided$Reader.expression [(2, 2), (32, 32), (3, 3), (1, 1)]
def Ckl483 : AL := [some Cka0,some Cka121,some Cka32,some Cka6,none,none]
def Ckl484 : AL := [some Cka0,some Cka121,some Cka32,some Cka6,some Cka14,none]
def Ckl485 : AL := [some Cka0,some Cka121,some Cka32,some Cka6,some Cka7,none]
def Ckl486 : AL := [some Cka0,some Cka121,some Cka32,some Cka6,some Cka1,none]
def Ckl487 : AL := [some Cka0,some Cka121,some Cka32,some Cka6,some Cka1,some Cka104]
def Ckl488 : AL := [some Cka0,some Cka121,some Cka32,some Cka6,some Cka1,some Cka49]
def Ckl489 : AL := [some Cka0,some Cka121,some Cka32,some Cka6,some Cka1,some Cka105]
def Ckl490 : AL := [some Cka0,some Cka121,some Cka32,some Cka6,some Cka15,some Cka105]
def CNC106_0 : List ND := [(0,(Ckl483,[],[]),30043,Ckc9,[1],0),
  (1,(Ckl483,[Cke165],[]),30042,Ckc9,[2],0),
  (2,(Ckl483,[Cke35,Cke165],[]),30041,Ckc9,[3],0),
  (12,(Ckl483,[],[]),30040,Ckc9,[4],0),
  (13,(Ckl483,[Cke0],[]),30039,Ckc9,[5],0),
  (14,(Ckl483,[Cke200,Cke0],[]),30038,Ckc9,[6],0),
  (15,(Ckl483,[Cke165,Cke200,Cke0],[]),30037,Ckc9,[7],0),
  (16,(Ckl483,[Cke6,Cke165,Cke200,Cke0],[]),30036,Ckc9,[8],0),
  (17,(Ckl483,[Cke35,Cke200,Cke0],[]),30035,Ckc9,[9],0),
  (18,(Ckl483,[Cke191,Cke35,Cke200,Cke0],[]),30034,Ckc9,[10],105),
  (21,(Ckl483,[],[]),30033,Ckc9,[11],0),
  (22,(Ckl483,[Cke7],[]),30032,Ckc9,[12],0),
  (24,(Ckl484,[],[]),30030,Ckc10,[14],0),
  (26,(Ckl485,[Cke166],[]),30045,Ckc9,[15],0),
  (26,(Ckl484,[Cke167],[]),30029,Ckc10,[16],0),
  (29,(Ckl485,[Cke153,Cke166],[]),30044,Ckc9,[17],0),
  (29,(Ckl484,[Cke153,Cke167],[]),30028,Ckc10,[45,17],0),
  (32,(Ckl486,[],[]),30027,Ckc10,[18],0),
  (33,(Ckl486,[Cke0],[]),30026,Ckc10,[19],0),
  (36,(Ckl486,[Cke46],[]),30025,Ckc10,[45,20],0),
  (39,(Ckl486,[],Ckf7),30024,Ckc10,[21],0),
  (40,(Ckl486,[Cke0],Ckf7),30023,Ckc10,[22],0),
  (41,(Ckl486,[Cke165,Cke0],Ckf7),30022,Ckc10,[23],33),
  (44,(Ckl486,[Cke168],Ckf7),30021,Ckc10,[24],0),
  (46,(Ckl487,[],Ckf7),30020,Ckc10,[25],0),
  (48,(Ckl487,[Cke169],Ckf7),30019,Ckc10,[26],0),
  (49,(Ckl487,[Cke51,Cke169],Ckf7),30018,Ckc10,[28,27],0),
  (52,(Ckl488,[],Ckf7),1,Ckc9,[],0),
  (53,(Ckl489,[],Ckf7),30017,Ckc10,[29],0),
  (54,(Ckl489,[Cke0],Ckf7),30016,Ckc10,[30],6),
  (57,(Ckl489,[],Ckf7),30015,Ckc10,[31],0),
  (58,(Ckl489,[Cke0],Ckf7),30014,Ckc10,[32],0),
  (59,(Ckl489,[Cke200,Cke0],Ckf7),30013,Ckc10,[33],0),
  (60,(Ckl489,[Cke165,Cke200,Cke0],Ckf7),30012,Ckc10,[34],0),
  (61,(Ckl489,[Cke6,Cke165,Cke200,Cke0],Ckf7),30011,Ckc10,[35],0),
  (62,(Ckl489,[Cke35,Cke200,Cke0],Ckf7),30010,Ckc10,[36],0),
  (63,(Ckl489,[Cke191,Cke35,Cke200,Cke0],Ckf7),30009,Ckc10,[37],105),
  (66,(Ckl489,[],[]),30008,Ckc10,[38],0),
  (67,(Ckl489,[Cke200],[]),30007,Ckc10,[39],0),
  (69,(Ckl489,[Cke170,Cke200],[]),30006,Ckc10,[40],79),
  (72,(Ckl489,[],[]),30005,Ckc10,[41],0),
  (73,(Ckl489,[Cke165],[]),30004,Ckc10,[42],0),
  (74,(Ckl489,[Cke6,Cke165],[]),30003,Ckc10,[43],0),
  (78,(Ckl489,[],[]),30002,Ckc10,[44],0),
  (81,(Ckl490,[],[]),30031,Ckc10,[12],0),
  (84,(Ckl484,[],[]),0,Ckc9,[],0)]
def CNC106 : List (List ND) := [CNC106_0]
theorem CKC106 : chkS prot SMsC SMC106 [] CNC106 = true := by decide +kernel
-- OneSided$Reader.expression [(2, 2), (32, 32), (2, 2), (1, 1)]
def Ckl491 : AL := [some Cka0,some Cka121,some Cka18,some Cka6,none,none]
def Ckl492 : AL := [some Cka0,some Cka121,some Cka18,some Cka6,some Cka14,none]
def Ckl493 : AL := [some Cka0,some Cka121,some Cka18,some Cka6,some Cka7,none]
def Ckl494 : AL := [some Cka0,some Cka121,some Cka18,some Cka6,some Cka1,none]
def Ckl495 : AL := [some Cka0,some Cka121,some Cka18,some Cka6,some Cka1,some Cka109]
def Ckl496 : AL := [some Cka0,some Cka121,some Cka18,some Cka6,some Cka1,some Cka49]
def Ckl497 : AL := [some Cka0,some Cka121,some Cka18,some Cka6,some Cka1,some Cka105]
def Ckl498 : AL := [some Cka0,some Cka121,some Cka18,some Cka6,some Cka15,some Cka105]
def CNC107_0 : List ND := [(0,(Ckl491,[],[]),30043,Ckc9,[1],0),
  (1,(Ckl491,[Cke174],[]),30042,Ckc9,[2],0),
  (2,(Ckl491,[Cke35,Cke174],[]),30041,Ckc9,[3],0),
  (12,(Ckl491,[],[]),30040,Ckc9,[4],0),
  (13,(Ckl491,[Cke0],[]),30039,Ckc9,[5],0),
  (14,(Ckl491,[Cke200,Cke0],[]),30038,Ckc9,[6],0),
  (15,(Ckl491,[Cke174,Cke200,Cke0],[]),30037,Ckc9,[7],0),
  (16,(Ckl491,[Cke6,Cke174,Cke200,Cke0],[]),30036,Ckc9,[8],0),
  (17,(Ckl491,[Cke36,Cke200,Cke0],[]),30035,Ckc9,[9],0),
  (18,(Ckl491,[Cke191,Cke36,Cke200,Cke0],[]),30034,Ckc9,[10],106),
  (21,(Ckl491,[],[]),30033,Ckc9,[11],0),
  (22,(Ckl491,[Cke7],[]),30032,Ckc9,[12],0),
  (24,(Ckl492,[],[]),30030,Ckc10,[14],0),
  (26,(Ckl493,[Cke166],[]),30045,Ckc9,[15],0),
  (26,(Ckl492,[Cke167],[]),30029,Ckc10,[16],0),
  (29,(Ckl493,[Cke153,Cke166],[]),30044,Ckc9,[17],0),
  (29,(Ckl492,[Cke153,Cke167],[]),30028,Ckc10,[45,17],0),
  (32,(Ckl494,[],[]),30027,Ckc10,[18],0),
  (33,(Ckl494,[Cke0],[]),30026,Ckc10,[19],0),
  (36,(Ckl494,[Cke46],[]),30025,Ckc10,[45,20],0),
  (39,(Ckl494,[],Ckf7),30024,Ckc10,[21],0),
  (40,(Ckl494,[Cke0],Ckf7),30023,Ckc10,[22],0),
  (41,(Ckl494,[Cke174,Cke0],Ckf7),30022,Ckc10,[23],35),
  (44,(Ckl494,[Cke175],Ckf7),30021,Ckc10,[24],0),
  (46,(Ckl495,[],Ckf7),30020,Ckc10,[25],0),
  (48,(Ckl495,[Cke176],Ckf7),30019,Ckc10,[26],0),
  (49,(Ckl495,[Cke51,Cke176],Ckf7),30018,Ckc10,[28,27],0),
  (52,(Ckl496,[],Ckf7),1,Ckc9,[],0),
  (53,(Ckl497,[],Ckf7),30017,Ckc10,[29],0),
  (54,(Ckl497,[Cke0],Ckf7),30016,Ckc10,[30],6),
  (57,(Ckl497,[],Ckf7),30015,Ckc10,[31],0),
  (58,(Ckl497,[Cke0],Ckf7),30014,Ckc10,[32],0),
  (59,(Ckl497,[Cke200,Cke0],Ckf7),30013,Ckc10,[33],0),
  (60,(Ckl497,[Cke174,Cke200,Cke0],Ckf7),30012,Ckc10,[34],0),
  (61,(Ckl497,[Cke6,Cke174,Cke200,Cke0],Ckf7),30011,Ckc10,[35],0),
  (62,(Ckl497,[Cke36,Cke200,Cke0],Ckf7),30010,Ckc10,[36],0),
  (63,(Ckl497,[Cke191,Cke36,Cke200,Cke0],Ckf7),30009,Ckc10,[37],106),
  (66,(Ckl497,[],[]),30008,Ckc10,[38],0),
  (67,(Ckl497,[Cke200],[]),30007,Ckc10,[39],0),
  (69,(Ckl497,[Cke170,Cke200],[]),30006,Ckc10,[40],79),
  (72,(Ckl497,[],[]),30005,Ckc10,[41],0),
  (73,(Ckl497,[Cke174],[]),30004,Ckc10,[42],0),
  (74,(Ckl497,[Cke6,Cke174],[]),30003,Ckc10,[43],0),
  (78,(Ckl497,[],[]),30002,Ckc10,[44],0),
  (81,(Ckl498,[],[]),30031,Ckc10,[12],0),
  (84,(Ckl492,[],[]),0,Ckc9,[],0)]
def CNC107 : List (List ND) := [CNC107_0]
theorem CKC107 : chkS prot SMsC SMC107 [] CNC107 = true := by decide +kernel
-- OneSided$Reader.expression [(2, 2), (32, 32), (1, 1), (1, 1)]
def Ckl499 : AL := [some Cka0,some Cka121,some Cka6,some Cka6,none,none]
def Ckl500 : AL := [some Cka0,some Cka121,some Cka6,some Cka6,some Cka7,none]
def Ckl501 : AL := [some Cka0,some Cka121,some Cka6,some Cka6,some Cka7,some Cka109]
def Ckl502 : AL := [some Cka0,some Cka121,some Cka6,some Cka6,some Cka7,some Cka49]
def Ckl503 : AL := [some Cka0,some Cka121,some Cka6,some Cka6,some Cka7,some Cka105]
def CNC108_0 : List ND := [(0,(Ckl499,[],[]),42,Ckc9,[1],0),
  (1,(Ckl499,[Cke180],[]),41,Ckc9,[2],0),
  (2,(Ckl499,[Cke35,Cke180],[]),40,Ckc9,[3],0),
  (12,(Ckl499,[],[]),39,Ckc9,[4],0),
  (13,(Ckl499,[Cke0],[]),38,Ckc9,[5],0),
  (14,(Ckl499,[Cke200,Cke0],[]),37,Ckc9,[6],0),
  (15,(Ckl499,[Cke180,Cke200,Cke0],[]),36,Ckc9,[7],0),
  (16,(Ckl499,[Cke6,Cke180,Cke200,Cke0],[]),35,Ckc9,[8],0),
  (17,(Ckl499,[Cke22,Cke200,Cke0],[]),34,Ckc9,[9],0),
  (18,(Ckl499,[Cke191,Cke22,Cke200,Cke0],[]),33,Ckc9,[10],107),
  (21,(Ckl499,[],[]),32,Ckc9,[11],0),
  (22,(Ckl499,[Cke7],[]),31,Ckc9,[12],0),
  (24,(Ckl500,[],[]),30,Ckc9,[13],0),
  (26,(Ckl500,[Cke166],[]),29,Ckc9,[14],0),
  (29,(Ckl500,[Cke153,Cke166],[]),28,Ckc9,[15],0),
  (32,(Ckl500,[],[]),27,Ckc9,[16],0),
  (33,(Ckl500,[Cke0],[]),26,Ckc9,[17],0),
  (36,(Ckl500,[Cke46],[]),25,Ckc9,[42,18],0),
  (39,(Ckl500,[],Ckf7),23,Ckc9,[19],0),
  (40,(Ckl500,[Cke0],Ckf7),22,Ckc9,[20],0),
  (41,(Ckl500,[Cke180,Cke0],Ckf7),21,Ckc9,[21],37),
  (44,(Ckl500,[Cke175],Ckf7),20,Ckc9,[22],0),
  (46,(Ckl501,[],Ckf7),19,Ckc9,[23],0),
  (48,(Ckl501,[Cke176],Ckf7),18,Ckc9,[24],0),
  (49,(Ckl501,[Cke51,Cke176],Ckf7),17,Ckc9,[26,25],0),
  (52,(Ckl502,[],Ckf7),16,Ckc9,[],0),
  (53,(Ckl503,[],Ckf7),15,Ckc9,[27],0),
  (54,(Ckl503,[Cke0],Ckf7),14,Ckc9,[28],6),
  (57,(Ckl503,[],Ckf7),13,Ckc9,[29],0),
  (58,(Ckl503,[Cke0],Ckf7),12,Ckc9,[30],0),
  (59,(Ckl503,[Cke200,Cke0],Ckf7),11,Ckc9,[31],0),
  (60,(Ckl503,[Cke180,Cke200,Cke0],Ckf7),10,Ckc9,[32],0),
  (61,(Ckl503,[Cke6,Cke180,Cke200,Cke0],Ckf7),9,Ckc9,[33],0),
  (62,(Ckl503,[Cke22,Cke200,Cke0],Ckf7),8,Ckc9,[34],0),
  (63,(Ckl503,[Cke191,Cke22,Cke200,Cke0],Ckf7),7,Ckc9,[35],107),
  (66,(Ckl503,[],[]),6,Ckc9,[36],0),
  (67,(Ckl503,[Cke200],[]),5,Ckc9,[37],0),
  (69,(Ckl503,[Cke170,Cke200],[]),4,Ckc9,[38],79),
  (72,(Ckl503,[],[]),3,Ckc9,[39],0),
  (73,(Ckl503,[Cke180],[]),2,Ckc9,[40],0),
  (74,(Ckl503,[Cke6,Cke180],[]),1,Ckc9,[41],0),
  (77,(Ckl503,[],[]),0,Ckc9,[],0),
  (84,(Ckl500,[],Ckf6),24,Ckc9,[],0)]
def CNC108 : List (List ND) := [CNC108_0]
theorem CKC108 : chkS prot SMsC SMC108 [] CNC108 = true := by decide +kernel
-- OneSided$Reader.expression [(2, 2), (32, 32), (0, 0), (1, 1)]
def Ckl504 : AL := [some Cka0,some Cka121,some Cka7,some Cka6,none,none]
def Ckl505 : AL := [some Cka0,some Cka121,some Cka7,some Cka6,some Cka14,none]
def Ckl506 : AL := [some Cka0,some Cka121,some Cka7,some Cka6,some Cka7,none]
def Ckl507 : AL := [some Cka0,some Cka121,some Cka7,some Cka6,some Cka1,none]
def Ckl508 : AL := [some Cka0,some Cka121,some Cka7,some Cka6,some Cka1,some Cka109]
def Ckl509 : AL := [some Cka0,some Cka121,some Cka7,some Cka6,some Cka1,some Cka49]
def Ckl510 : AL := [some Cka0,some Cka121,some Cka7,some Cka6,some Cka1,some Cka105]
def Ckl511 : AL := [some Cka0,some Cka121,some Cka7,some Cka6,some Cka15,some Cka105]
def CNC109_0 : List ND := [(0,(Ckl504,[],[]),30043,Ckc9,[1],0),
  (1,(Ckl504,[Cke23],[]),30042,Ckc9,[2],0),
  (2,(Ckl504,[Cke35,Cke23],[]),30041,Ckc9,[3],0),
  (12,(Ckl504,[],[]),30040,Ckc9,[4],0),
  (13,(Ckl504,[Cke0],[]),30039,Ckc9,[5],0),
  (14,(Ckl504,[Cke200,Cke0],[]),30038,Ckc9,[6],0),
  (15,(Ckl504,[Cke23,Cke200,Cke0],[]),30037,Ckc9,[7],0),
  (16,(Ckl504,[Cke6,Cke23,Cke200,Cke0],[]),30036,Ckc9,[8],0),
  (17,(Ckl504,[Cke6,Cke200,Cke0],[]),30035,Ckc9,[9],0),
  (18,(Ckl504,[Cke191,Cke6,Cke200,Cke0],[]),30034,Ckc9,[10],108),
  (21,(Ckl504,[],[]),30033,Ckc9,[11],0),
  (22,(Ckl504,[Cke7],[]),30032,Ckc9,[12],0),
  (24,(Ckl505,[],[]),30030,Ckc10,[14],0),
  (26,(Ckl506,[Cke166],[]),30045,Ckc9,[15],0),
  (26,(Ckl505,[Cke167],[]),30029,Ckc10,[16],0),
  (29,(Ckl506,[Cke153,Cke166],[]),30044,Ckc9,[17],0),
  (29,(Ckl505,[Cke153,Cke167],[]),30028,Ckc10,[45,17],0),
  (32,(Ckl507,[],[]),30027,Ckc10,[18],0),
  (33,(Ckl507,[Cke0],[]),30026,Ckc10,[19],0),
  (36,(Ckl507,[Cke46],[]),30025,Ckc10,[45,20],0),
  (39,(Ckl507,[],Ckf7),30024,Ckc10,[21],0),
  (40,(Ckl507,[Cke0],Ckf7),30023,Ckc10,[22],0),
  (41,(Ckl507,[Cke23,Cke0],Ckf7),30022,Ckc10,[23],39),
  (44,(Ckl507,[Cke175],Ckf7),30021,Ckc10,[24],0),
  (46,(Ckl508,[],Ckf7),30020,Ckc10,[25],0),
  (48,(Ckl508,[Cke176],Ckf7),30019,Ckc10,[26],0),
  (49,(Ckl508,[Cke51,Cke176],Ckf7),30018,Ckc10,[28,27],0),
  (52,(Ckl509,[],Ckf7),1,Ckc9,[],0),
  (53,(Ckl510,[],Ckf7),30017,Ckc10,[29],0),
  (54,(Ckl510,[Cke0],Ckf7),30016,Ckc10,[30],6),
  (57,(Ckl510,[],Ckf7),30015,Ckc10,[31],0),
  (58,(Ckl510,[Cke0],Ckf7),30014,Ckc10,[32],0),
  (59,(Ckl510,[Cke200,Cke0],Ckf7),30013,Ckc10,[33],0),
  (60,(Ckl510,[Cke23,Cke200,Cke0],Ckf7),30012,Ckc10,[34],0),
  (61,(Ckl510,[Cke6,Cke23,Cke200,Cke0],Ckf7),30011,Ckc10,[35],0),
  (62,(Ckl510,[Cke6,Cke200,Cke0],Ckf7),30010,Ckc10,[36],0),
  (63,(Ckl510,[Cke191,Cke6,Cke200,Cke0],Ckf7),30009,Ckc10,[37],108),
  (66,(Ckl510,[],[]),30008,Ckc10,[38],0),
  (67,(Ckl510,[Cke200],[]),30007,Ckc10,[39],0),
  (69,(Ckl510,[Cke170,Cke200],[]),30006,Ckc10,[40],79),
  (72,(Ckl510,[],[]),30005,Ckc10,[41],0),
  (73,(Ckl510,[Cke23],[]),30004,Ckc10,[42],0),
  (74,(Ckl510,[Cke6,Cke23],[]),30003,Ckc10,[43],0),
  (78,(Ckl510,[],[]),30002,Ckc10,[44],0),
  (81,(Ckl511,[],[]),30031,Ckc10,[12],0),
  (84,(Ckl505,[],[]),0,Ckc9,[],0)]
def CNC109 : List (List ND) := [CNC109_0]
theorem CKC109 : chkS prot SMsC SMC109 [] CNC109 = true := by decide +kernel
-- OneSided$Reader.part [(2, 2), (32, 32), (0, 0)]
def Ckl512 : AL := [some Cka0,some Cka121,some Cka7,none,none,none]
def Ckl513 : AL := [some Cka0,some Cka121,some Cka7,some Cka96,none,none]
def Ckl514 : AL := [some Cka0,some Cka121,some Cka7,some Cka96,some Cka96,none]
def Ckl515 : AL := [some Cka0,some Cka121,some Cka7,some Cka96,some Cka96,some Cka96]
def Ckl516 : AL := [some Cka0,some Cka121,some Cka7,some Cka7,some Cka96,some Cka96]
def Ckl517 : AL := [some Cka0,some Cka121,some Cka7,some Cka7,some Cka7,some Cka96]
def Ckl518 : AL := [some Cka0,some Cka121,some Cka7,some Cka7,some Cka7,some Cka7]
def Ckl519 : AL := [some Cka0,some Cka121,some Cka7,some Cka6,some Cka96,some Cka96]
def Ckl520 : AL := [some Cka0,some Cka121,some Cka7,some Cka7,some Cka7,some Cka6]
def CNC110_0 : List ND := [(0,(Ckl512,[],[]),87,Ckc9,[1],0),
  (1,(Ckl512,[Cke0],[]),86,Ckc9,[2],0),
  (4,(Ckl512,[Cke60],[]),85,Ckc9,[3],0),
  (5,(Ckl512,[Cke36,Cke60],[]),84,Ckc9,[6,4],0),
  (8,(Ckl512,[],Ckf25),83,Ckc9,[5],0),
  (9,(Ckl512,[Cke6],Ckf25),82,Ckc9,[8],0),
  (12,(Ckl512,[],Ckf24),80,Ckc9,[7],0),
  (13,(Ckl512,[Cke7],Ckf24),79,Ckc9,[9],0),
  (13,(Ckl512,[Cke6],Ckf25),81,Ckc9,[9],0),
  (14,(Ckl513,[],[]),78,Ckc9,[10],0),
  (15,(Ckl513,[Cke0],[]),77,Ckc9,[11],0),
  (18,(Ckl513,[Cke58],[]),76,Ckc9,[12],0),
  (20,(Ckl513,[Cke73,Cke58],[]),75,Ckc9,[15,13],0),
  (23,(Ckl513,[],Ckf46),72,Ckc9,[14],0),
  (24,(Ckl513,[Cke6],Ckf46),71,Ckc9,[17],0),
  (27,(Ckl513,[],Ckf47),74,Ckc9,[16],0),
  (28,(Ckl513,[Cke7],Ckf47),73,Ckc9,[18],0),
  (28,(Ckl513,[Cke6],Ckf46),70,Ckc9,[18],0),
  (30,(Ckl514,[],[]),69,Ckc9,[19],0),
  (31,(Ckl514,[Cke0],[]),68,Ckc9,[20],0),
  (33,(Ckl514,[Cke38,Cke0],[]),67,Ckc9,[22,21],12),
  (36,(Ckl514,[Cke7],[]),66,Ckc9,[23],0),
  (36,(Ckl514,[Cke6],[]),65,Ckc9,[23],0),
  (38,(Ckl515,[],[]),64,Ckc9,[24],0),
  (39,(Ckl515,[Cke142],[]),63,Ckc9,[37,25],0),
  (42,(Ckl516,[],[]),62,Ckc9,[26],0),
  (44,(Ckl516,[Cke157],[]),61,Ckc9,[37,27],0),
  (47,(Ckl517,[],[]),60,Ckc9,[28],0),
  (49,(Ckl517,[Cke158],[]),59,Ckc9,[37,29],0),
  (52,(Ckl518,[],[]),58,Ckc9,[30],0),
  (53,(Ckl518,[Cke0],[]),57,Ckc9,[31],0),
  (56,(Ckl518,[Cke58],[]),56,Ckc9,[32],0),
  (58,(Ckl518,[Cke159,Cke58],[]),55,Ckc9,[37,33],0),
  (61,(Ckl518,[],Ckf23),54,Ckc9,[34],0),
  (62,(Ckl518,[Cke0],Ckf23),53,Ckc9,[35],0),
  (63,(Ckl518,[Cke6,Cke0],Ckf23),52,Ckc9,[36],9),
  (66,(Ckl518,[],Ckf23),51,Ckc9,[],0),
  (67,(Ckl515,[],[]),50,Ckc9,[38],0),
  (68,(Ckl515,[Cke23],[]),49,Ckc9,[39],0),
  (69,(Ckl515,[Cke137,Cke23],[]),48,Ckc9,[40],0),
  (78,(Ckl515,[],[]),47,Ckc9,[41],0),
  (79,(Ckl515,[Cke142],[]),46,Ckc9,[44,42],0),
  (82,(Ckl516,[],[]),45,Ckc9,[43],0),
  (84,(Ckl516,[Cke157],[]),44,Ckc9,[61,44],0),
  (87,(Ckl515,[],[]),43,Ckc9,[45],0),
  (88,(Ckl515,[Cke200],[]),42,Ckc9,[46],0),
  (89,(Ckl515,[Cke142,Cke200],[]),41,Ckc9,[51,47],0),
  (92,(Ckl519,[Cke200],[]),34,Ckc9,[48],0),
  (93,(Ckl519,[Cke0,Cke200],[]),33,Ckc9,[49],0),
  (96,(Ckl519,[Cke18,Cke200],[]),32,Ckc9,[50],0),
  (97,(Ckl519,[Cke184,Cke200],[]),31,Ckc9,[57],0),
  (100,(Ckl516,[Cke200],[]),40,Ckc9,[52],0),
  (103,(Ckl516,[Cke185,Cke200],[]),39,Ckc9,[53],0),
  (104,(Ckl516,[Cke0,Cke185,Cke200],[]),38,Ckc9,[54],0),
  (107,(Ckl516,[Cke58,Cke185,Cke200],[]),37,Ckc9,[55],0),
  (108,(Ckl516,[Cke186,Cke200],[]),36,Ckc9,[56],0),
  (110,(Ckl516,[Cke73,Cke186,Cke200],[]),35,Ckc9,[57],0),
  (111,(Ckl515,[Cke184,Cke200],[]),30,Ckc9,[58],79),
  (114,(Ckl515,[],[]),29,Ckc9,[59],0),
  (115,(Ckl515,[Cke0],[]),28,Ckc9,[60],6),
  (118,(Ckl515,[],[]),27,Ckc9,[87],0),
  (121,(Ckl517,[],[]),26,Ckc9,[62],0),
  (123,(Ckl517,[Cke158],[]),25,Ckc9,[76,63],0),
  (126,(Ckl520,[],[]),24,Ckc9,[64],0)]
def CNC110_1 : List ND := [(127,(Ckl520,[Cke0],[]),23,Ckc9,[65],6),
  (130,(Ckl520,[],[]),22,Ckc9,[66],0),
  (131,(Ckl520,[Cke0],[]),21,Ckc9,[67],0),
  (132,(Ckl520,[Cke200,Cke0],[]),20,Ckc9,[68],0),
  (133,(Ckl520,[Cke7,Cke200,Cke0],[]),19,Ckc9,[69],0),
  (134,(Ckl520,[Cke23,Cke7,Cke200,Cke0],[]),18,Ckc9,[70],0),
  (135,(Ckl520,[Cke6,Cke23,Cke7,Cke200,Cke0],[]),17,Ckc9,[71],0),
  (136,(Ckl520,[Cke6,Cke7,Cke200,Cke0],[]),16,Ckc9,[72],109),
  (139,(Ckl520,[],[]),15,Ckc9,[73],0),
  (140,(Ckl520,[Cke0],[]),14,Ckc9,[74],0),
  (142,(Ckl520,[Cke39,Cke0],[]),13,Ckc9,[75],13),
  (145,(Ckl520,[],[]),12,Ckc9,[87],0),
  (148,(Ckl518,[],[]),11,Ckc9,[77],0),
  (149,(Ckl518,[Cke0],[]),10,Ckc9,[78],6),
  (152,(Ckl518,[],[]),9,Ckc9,[79],0),
  (153,(Ckl518,[Cke0],[]),8,Ckc9,[80],0),
  (154,(Ckl518,[Cke200,Cke0],[]),7,Ckc9,[81],0),
  (155,(Ckl518,[Cke23,Cke200,Cke0],[]),6,Ckc9,[82],0),
  (156,(Ckl518,[Cke6,Cke23,Cke200,Cke0],[]),5,Ckc9,[83],0),
  (157,(Ckl518,[Cke6,Cke200,Cke0],[]),4,Ckc9,[84],104),
  (160,(Ckl518,[],[]),3,Ckc9,[85],0),
  (161,(Ckl518,[Cke200],[]),2,Ckc9,[86],0),
  (164,(Ckl518,[Cke187,Cke200],[]),1,Ckc9,[87],79),
  (167,(Ckl515,[],[]),0,Ckc9,[],0)]
def CNC110 : List (List ND) := [CNC110_0, CNC110_1]
theorem CKC110 : chkS prot SMsC SMC110 [] CNC110 = true := by decide +kernel
-- OneSided$Reader.expression [(2, 2), (32, 32), (4, 4), (0, 0)]
def Ckl521 : AL := [some Cka0,some Cka121,some Cka31,some Cka7,none,none]
def CNC111_0 : List ND := [(0,(Ckl521,[],[]),7,Ckc9,[1],0),
  (1,(Ckl521,[Cke161],[]),6,Ckc9,[2],0),
  (2,(Ckl521,[Cke35,Cke161],[]),5,Ckc9,[3],0),
  (5,(Ckl521,[],[]),4,Ckc9,[4],0),
  (6,(Ckl521,[Cke0],[]),3,Ckc9,[5],0),
  (7,(Ckl521,[Cke200,Cke0],[]),2,Ckc9,[6],0),
  (8,(Ckl521,[Cke74,Cke200,Cke0],[]),1,Ckc9,[7],110),
  (11,(Ckl521,[],[]),0,Ckc9,[],0)]
def CNC111 : List (List ND) := [CNC111_0]
theorem CKC111 : chkS prot SMsC SMC111 [] CNC111 = true := by decide +kernel
-- OneSided$Reader.expression [(2, 2), (32, 32), (3, 3), (0, 0)]
def Ckl522 : AL := [some Cka0,some Cka121,some Cka32,some Cka7,none,none]
def Ckl523 : AL := [some Cka0,some Cka121,some Cka32,some Cka7,some Cka14,none]
def Ckl524 : AL := [some Cka0,some Cka121,some Cka32,some Cka7,some Cka7,none]
def Ckl525 : AL := [some Cka0,some Cka121,some Cka32,some Cka7,some Cka1,none]
def Ckl526 : AL := [some Cka0,some Cka121,some Cka32,some Cka7,some Cka1,some Cka104]
def Ckl527 : AL := [some Cka0,some Cka121,some Cka32,some Cka7,some Cka1,some Cka49]
def Ckl528 : AL := [some Cka0,some Cka121,some Cka32,some Cka7,some Cka1,some Cka105]
def Ckl529 : AL := [some Cka0,some Cka121,some Cka32,some Cka7,some Cka15,some Cka105]
def CNC112_0 : List ND := [(0,(Ckl522,[],[]),30043,Ckc9,[1],0),
  (1,(Ckl522,[Cke165],[]),30042,Ckc9,[2],0),
  (2,(Ckl522,[Cke35,Cke165],[]),30041,Ckc9,[3],0),
  (12,(Ckl522,[],[]),30040,Ckc9,[4],0),
  (13,(Ckl522,[Cke0],[]),30039,Ckc9,[5],0),
  (14,(Ckl522,[Cke200,Cke0],[]),30038,Ckc9,[6],0),
  (15,(Ckl522,[Cke165,Cke200,Cke0],[]),30037,Ckc9,[7],0),
  (16,(Ckl522,[Cke6,Cke165,Cke200,Cke0],[]),30036,Ckc9,[8],0),
  (17,(Ckl522,[Cke35,Cke200,Cke0],[]),30035,Ckc9,[9],0),
  (18,(Ckl522,[Cke74,Cke35,Cke200,Cke0],[]),30034,Ckc9,[10],111),
  (21,(Ckl522,[],[]),30033,Ckc9,[11],0),
  (22,(Ckl522,[Cke7],[]),30032,Ckc9,[12],0),
  (24,(Ckl523,[],[]),30030,Ckc10,[14],0),
  (26,(Ckl524,[Cke166],[]),30045,Ckc9,[15],0),
  (26,(Ckl523,[Cke167],[]),30029,Ckc10,[16],0),
  (29,(Ckl524,[Cke153,Cke166],[]),30044,Ckc9,[17],0),
  (29,(Ckl523,[Cke153,Cke167],[]),30028,Ckc10,[45,17],0),
  (32,(Ckl525,[],[]),30027,Ckc10,[18],0),
  (33,(Ckl525,[Cke0],[]),30026,Ckc10,[19],0),
  (36,(Ckl525,[Cke46],[]),30025,Ckc10,[45,20],0),
  (39,(Ckl525,[],Ckf7),30024,Ckc10,[21],0),
  (40,(Ckl525,[Cke0],Ckf7),30023,Ckc10,[22],0),
  (41,(Ckl525,[Cke165,Cke0],Ckf7),30022,Ckc10,[23],33),
  (44,(Ckl525,[Cke168],Ckf7),30021,Ckc10,[24],0),
  (46,(Ckl526,[],Ckf7),30020,Ckc10,[25],0),
  (48,(Ckl526,[Cke169],Ckf7),30019,Ckc10,[26],0),
  (49,(Ckl526,[Cke51,Cke169],Ckf7),30018,Ckc10,[28,27],0),
  (52,(Ckl527,[],Ckf7),1,Ckc9,[],0),
  (53,(Ckl528,[],Ckf7),30017,Ckc10,[29],0),
  (54,(Ckl528,[Cke0],Ckf7),30016,Ckc10,[30],6),
  (57,(Ckl528,[],Ckf7),30015,Ckc10,[31],0),
  (58,(Ckl528,[Cke0],Ckf7),30014,Ckc10,[32],0),
  (59,(Ckl528,[Cke200,Cke0],Ckf7),30013,Ckc10,[33],0),
  (60,(Ckl528,[Cke165,Cke200,Cke0],Ckf7),30012,Ckc10,[34],0),
  (61,(Ckl528,[Cke6,Cke165,Cke200,Cke0],Ckf7),30011,Ckc10,[35],0),
  (62,(Ckl528,[Cke35,Cke200,Cke0],Ckf7),30010,Ckc10,[36],0),
  (63,(Ckl528,[Cke74,Cke35,Cke200,Cke0],Ckf7),30009,Ckc10,[37],111),
  (66,(Ckl528,[],[]),30008,Ckc10,[38],0),
  (67,(Ckl528,[Cke200],[]),30007,Ckc10,[39],0),
  (69,(Ckl528,[Cke170,Cke200],[]),30006,Ckc10,[40],79),
  (72,(Ckl528,[],[]),30005,Ckc10,[41],0),
  (73,(Ckl528,[Cke165],[]),30004,Ckc10,[42],0),
  (74,(Ckl528,[Cke6,Cke165],[]),30003,Ckc10,[43],0),
  (78,(Ckl528,[],[]),30002,Ckc10,[44],0),
  (81,(Ckl529,[],[]),30031,Ckc10,[12],0),
  (84,(Ckl523,[],[]),0,Ckc9,[],0)]
def CNC112 : List (List ND) := [CNC112_0]
theorem CKC112 : chkS prot SMsC SMC112 [] CNC112 = true := by decide +kernel
-- OneSided$Reader.expression [(2, 2), (32, 32), (2, 2), (0, 0)]
def Ckl530 : AL := [some Cka0,some Cka121,some Cka18,some Cka7,none,none]
def Ckl531 : AL := [some Cka0,some Cka121,some Cka18,some Cka7,some Cka14,none]
def Ckl532 : AL := [some Cka0,some Cka121,some Cka18,some Cka7,some Cka7,none]
def Ckl533 : AL := [some Cka0,some Cka121,some Cka18,some Cka7,some Cka1,none]
def Ckl534 : AL := [some Cka0,some Cka121,some Cka18,some Cka7,some Cka1,some Cka109]
def Ckl535 : AL := [some Cka0,some Cka121,some Cka18,some Cka7,some Cka1,some Cka49]
def Ckl536 : AL := [some Cka0,some Cka121,some Cka18,some Cka7,some Cka1,some Cka105]
def Ckl537 : AL := [some Cka0,some Cka121,some Cka18,some Cka7,some Cka15,some Cka105]
def CNC113_0 : List ND := [(0,(Ckl530,[],[]),30043,Ckc9,[1],0),
  (1,(Ckl530,[Cke174],[]),30042,Ckc9,[2],0),
  (2,(Ckl530,[Cke35,Cke174],[]),30041,Ckc9,[3],0),
  (12,(Ckl530,[],[]),30040,Ckc9,[4],0),
  (13,(Ckl530,[Cke0],[]),30039,Ckc9,[5],0),
  (14,(Ckl530,[Cke200,Cke0],[]),30038,Ckc9,[6],0),
  (15,(Ckl530,[Cke174,Cke200,Cke0],[]),30037,Ckc9,[7],0),
  (16,(Ckl530,[Cke6,Cke174,Cke200,Cke0],[]),30036,Ckc9,[8],0),
  (17,(Ckl530,[Cke36,Cke200,Cke0],[]),30035,Ckc9,[9],0),
  (18,(Ckl530,[Cke74,Cke36,Cke200,Cke0],[]),30034,Ckc9,[10],112),
  (21,(Ckl530,[],[]),30033,Ckc9,[11],0),
  (22,(Ckl530,[Cke7],[]),30032,Ckc9,[12],0),
  (24,(Ckl531,[],[]),30030,Ckc10,[14],0),
  (26,(Ckl532,[Cke166],[]),30045,Ckc9,[15],0),
  (26,(Ckl531,[Cke167],[]),30029,Ckc10,[16],0),
  (29,(Ckl532,[Cke153,Cke166],[]),30044,Ckc9,[17],0),
  (29,(Ckl531,[Cke153,Cke167],[]),30028,Ckc10,[45,17],0),
  (32,(Ckl533,[],[]),30027,Ckc10,[18],0),
  (33,(Ckl533,[Cke0],[]),30026,Ckc10,[19],0),
  (36,(Ckl533,[Cke46],[]),30025,Ckc10,[45,20],0),
  (39,(Ckl533,[],Ckf7),30024,Ckc10,[21],0),
  (40,(Ckl533,[Cke0],Ckf7),30023,Ckc10,[22],0),
  (41,(Ckl533,[Cke174,Cke0],Ckf7),30022,Ckc10,[23],35),
  (44,(Ckl533,[Cke175],Ckf7),30021,Ckc10,[24],0),
  (46,(Ckl534,[],Ckf7),30020,Ckc10,[25],0),
  (48,(Ckl534,[Cke176],Ckf7),30019,Ckc10,[26],0),
  (49,(Ckl534,[Cke51,Cke176],Ckf7),30018,Ckc10,[28,27],0),
  (52,(Ckl535,[],Ckf7),1,Ckc9,[],0),
  (53,(Ckl536,[],Ckf7),30017,Ckc10,[29],0),
  (54,(Ckl536,[Cke0],Ckf7),30016,Ckc10,[30],6),
  (57,(Ckl536,[],Ckf7),30015,Ckc10,[31],0),
  (58,(Ckl536,[Cke0],Ckf7),30014,Ckc10,[32],0),
  (59,(Ckl536,[Cke200,Cke0],Ckf7),30013,Ckc10,[33],0),
  (60,(Ckl536,[Cke174,Cke200,Cke0],Ckf7),30012,Ckc10,[34],0),
  (61,(Ckl536,[Cke6,Cke174,Cke200,Cke0],Ckf7),30011,Ckc10,[35],0),
  (62,(Ckl536,[Cke36,Cke200,Cke0],Ckf7),30010,Ckc10,[36],0),
  (63,(Ckl536,[Cke74,Cke36,Cke200,Cke0],Ckf7),30009,Ckc10,[37],112),
  (66,(Ckl536,[],[]),30008,Ckc10,[38],0),
  (67,(Ckl536,[Cke200],[]),30007,Ckc10,[39],0),
  (69,(Ckl536,[Cke170,Cke200],[]),30006,Ckc10,[40],79),
  (72,(Ckl536,[],[]),30005,Ckc10,[41],0),
  (73,(Ckl536,[Cke174],[]),30004,Ckc10,[42],0),
  (74,(Ckl536,[Cke6,Cke174],[]),30003,Ckc10,[43],0),
  (78,(Ckl536,[],[]),30002,Ckc10,[44],0),
  (81,(Ckl537,[],[]),30031,Ckc10,[12],0),
  (84,(Ckl531,[],[]),0,Ckc9,[],0)]
def CNC113 : List (List ND) := [CNC113_0]
theorem CKC113 : chkS prot SMsC SMC113 [] CNC113 = true := by decide +kernel
-- OneSided$Reader.expression [(2, 2), (32, 32), (1, 1), (0, 0)]
def Ckl538 : AL := [some Cka0,some Cka121,some Cka6,some Cka7,none,none]
def Ckl539 : AL := [some Cka0,some Cka121,some Cka6,some Cka7,some Cka7,none]
def Ckl540 : AL := [some Cka0,some Cka121,some Cka6,some Cka7,some Cka7,some Cka109]
def Ckl541 : AL := [some Cka0,some Cka121,some Cka6,some Cka7,some Cka7,some Cka49]
def Ckl542 : AL := [some Cka0,some Cka121,some Cka6,some Cka7,some Cka7,some Cka105]
def CNC114_0 : List ND := [(0,(Ckl538,[],[]),42,Ckc9,[1],0),
  (1,(Ckl538,[Cke180],[]),41,Ckc9,[2],0),
  (2,(Ckl538,[Cke35,Cke180],[]),40,Ckc9,[3],0),
  (12,(Ckl538,[],[]),39,Ckc9,[4],0),
  (13,(Ckl538,[Cke0],[]),38,Ckc9,[5],0),
  (14,(Ckl538,[Cke200,Cke0],[]),37,Ckc9,[6],0),
  (15,(Ckl538,[Cke180,Cke200,Cke0],[]),36,Ckc9,[7],0),
  (16,(Ckl538,[Cke6,Cke180,Cke200,Cke0],[]),35,Ckc9,[8],0),
  (17,(Ckl538,[Cke22,Cke200,Cke0],[]),34,Ckc9,[9],0),
  (18,(Ckl538,[Cke74,Cke22,Cke200,Cke0],[]),33,Ckc9,[10],113),
  (21,(Ckl538,[],[]),32,Ckc9,[11],0),
  (22,(Ckl538,[Cke7],[]),31,Ckc9,[12],0),
  (24,(Ckl539,[],[]),30,Ckc9,[13],0),
  (26,(Ckl539,[Cke166],[]),29,Ckc9,[14],0),
  (29,(Ckl539,[Cke153,Cke166],[]),28,Ckc9,[15],0),
  (32,(Ckl539,[],[]),27,Ckc9,[16],0),
  (33,(Ckl539,[Cke0],[]),26,Ckc9,[17],0),
  (36,(Ckl539,[Cke46],[]),25,Ckc9,[42,18],0),
  (39,(Ckl539,[],Ckf7),23,Ckc9,[19],0),
  (40,(Ckl539,[Cke0],Ckf7),22,Ckc9,[20],0),
  (41,(Ckl539,[Cke180,Cke0],Ckf7),21,Ckc9,[21],37),
  (44,(Ckl539,[Cke175],Ckf7),20,Ckc9,[22],0),
  (46,(Ckl540,[],Ckf7),19,Ckc9,[23],0),
  (48,(Ckl540,[Cke176],Ckf7),18,Ckc9,[24],0),
  (49,(Ckl540,[Cke51,Cke176],Ckf7),17,Ckc9,[26,25],0),
  (52,(Ckl541,[],Ckf7),16,Ckc9,[],0),
  (53,(Ckl542,[],Ckf7),15,Ckc9,[27],0),
  (54,(Ckl542,[Cke0],Ckf7),14,Ckc9,[28],6),
  (57,(Ckl542,[],Ckf7),13,Ckc9,[29],0),
  (58,(Ckl542,[Cke0],Ckf7),12,Ckc9,[30],0),
  (59,(Ckl542,[Cke200,Cke0],Ckf7),11,Ckc9,[31],0),
  (60,(Ckl542,[Cke180,Cke200,Cke0],Ckf7),10,Ckc9,[32],0),
  (61,(Ckl542,[Cke6,Cke180,Cke200,Cke0],Ckf7),9,Ckc9,[33],0),
  (62,(Ckl542,[Cke22,Cke200,Cke0],Ckf7),8,Ckc9,[34],0),
  (63,(Ckl542,[Cke74,Cke22,Cke200,Cke0],Ckf7),7,Ckc9,[35],113),
  (66,(Ckl542,[],[]),6,Ckc9,[36],0),
  (67,(Ckl542,[Cke200],[]),5,Ckc9,[37],0),
  (69,(Ckl542,[Cke170,Cke200],[]),4,Ckc9,[38],79),
  (72,(Ckl542,[],[]),3,Ckc9,[39],0),
  (73,(Ckl542,[Cke180],[]),2,Ckc9,[40],0),
  (74,(Ckl542,[Cke6,Cke180],[]),1,Ckc9,[41],0),
  (77,(Ckl542,[],[]),0,Ckc9,[],0),
  (84,(Ckl539,[],Ckf6),24,Ckc9,[],0)]
def CNC114 : List (List ND) := [CNC114_0]
theorem CKC114 : chkS prot SMsC SMC114 [] CNC114 = true := by decide +kernel
-- OneSided$Reader.expression [(2, 2), (32, 32), (0, 0), (0, 0)]
def Ckl543 : AL := [some Cka0,some Cka121,some Cka7,some Cka7,none,none]
def Ckl544 : AL := [some Cka0,some Cka121,some Cka7,some Cka7,some Cka14,none]
def Ckl545 : AL := [some Cka0,some Cka121,some Cka7,some Cka7,some Cka7,none]
def Ckl546 : AL := [some Cka0,some Cka121,some Cka7,some Cka7,some Cka1,none]
def Ckl547 : AL := [some Cka0,some Cka121,some Cka7,some Cka7,some Cka1,some Cka109]
def Ckl548 : AL := [some Cka0,some Cka121,some Cka7,some Cka7,some Cka1,some Cka49]
def Ckl549 : AL := [some Cka0,some Cka121,some Cka7,some Cka7,some Cka1,some Cka105]
def Ckl550 : AL := [some Cka0,some Cka121,some Cka7,some Cka7,some Cka15,some Cka105]
def CNC115_0 : List ND := [(0,(Ckl543,[],[]),30043,Ckc9,[1],0),
  (1,(Ckl543,[Cke23],[]),30042,Ckc9,[2],0),
  (2,(Ckl543,[Cke35,Cke23],[]),30041,Ckc9,[3],0),
  (12,(Ckl543,[],[]),30040,Ckc9,[4],0),
  (13,(Ckl543,[Cke0],[]),30039,Ckc9,[5],0),
  (14,(Ckl543,[Cke200,Cke0],[]),30038,Ckc9,[6],0),
  (15,(Ckl543,[Cke23,Cke200,Cke0],[]),30037,Ckc9,[7],0),
  (16,(Ckl543,[Cke6,Cke23,Cke200,Cke0],[]),30036,Ckc9,[8],0),
  (17,(Ckl543,[Cke6,Cke200,Cke0],[]),30035,Ckc9,[9],0),
  (18,(Ckl543,[Cke74,Cke6,Cke200,Cke0],[]),30034,Ckc9,[10],114),
  (21,(Ckl543,[],[]),30033,Ckc9,[11],0),
  (22,(Ckl543,[Cke7],[]),30032,Ckc9,[12],0),
  (24,(Ckl544,[],[]),30030,Ckc10,[14],0),
  (26,(Ckl545,[Cke166],[]),30045,Ckc9,[15],0),
  (26,(Ckl544,[Cke167],[]),30029,Ckc10,[16],0),
  (29,(Ckl545,[Cke153,Cke166],[]),30044,Ckc9,[17],0),
  (29,(Ckl544,[Cke153,Cke167],[]),30028,Ckc10,[45,17],0),
  (32,(Ckl546,[],[]),30027,Ckc10,[18],0),
  (33,(Ckl546,[Cke0],[]),30026,Ckc10,[19],0),
  (36,(Ckl546,[Cke46],[]),30025,Ckc10,[45,20],0),
  (39,(Ckl546,[],Ckf7),30024,Ckc10,[21],0),
  (40,(Ckl546,[Cke0],Ckf7),30023,Ckc10,[22],0),
  (41,(Ckl546,[Cke23,Cke0],Ckf7),30022,Ckc10,[23],39),
  (44,(Ckl546,[Cke175],Ckf7),30021,Ckc10,[24],0),
  (46,(Ckl547,[],Ckf7),30020,Ckc10,[25],0),
  (48,(Ckl547,[Cke176],Ckf7),30019,Ckc10,[26],0),
  (49,(Ckl547,[Cke51,Cke176],Ckf7),30018,Ckc10,[28,27],0),
  (52,(Ckl548,[],Ckf7),1,Ckc9,[],0),
  (53,(Ckl549,[],Ckf7),30017,Ckc10,[29],0),
  (54,(Ckl549,[Cke0],Ckf7),30016,Ckc10,[30],6),
  (57,(Ckl549,[],Ckf7),30015,Ckc10,[31],0),
  (58,(Ckl549,[Cke0],Ckf7),30014,Ckc10,[32],0),
  (59,(Ckl549,[Cke200,Cke0],Ckf7),30013,Ckc10,[33],0),
  (60,(Ckl549,[Cke23,Cke200,Cke0],Ckf7),30012,Ckc10,[34],0),
  (61,(Ckl549,[Cke6,Cke23,Cke200,Cke0],Ckf7),30011,Ckc10,[35],0),
  (62,(Ckl549,[Cke6,Cke200,Cke0],Ckf7),30010,Ckc10,[36],0),
  (63,(Ckl549,[Cke74,Cke6,Cke200,Cke0],Ckf7),30009,Ckc10,[37],114),
  (66,(Ckl549,[],[]),30008,Ckc10,[38],0),
  (67,(Ckl549,[Cke200],[]),30007,Ckc10,[39],0),
  (69,(Ckl549,[Cke170,Cke200],[]),30006,Ckc10,[40],79),
  (72,(Ckl549,[],[]),30005,Ckc10,[41],0),
  (73,(Ckl549,[Cke23],[]),30004,Ckc10,[42],0),
  (74,(Ckl549,[Cke6,Cke23],[]),30003,Ckc10,[43],0),
  (78,(Ckl549,[],[]),30002,Ckc10,[44],0),
  (81,(Ckl550,[],[]),30031,Ckc10,[12],0),
  (84,(Ckl544,[],[]),0,Ckc9,[],0)]
def CNC115 : List (List ND) := [CNC115_0]
theorem CKC115 : chkS prot SMsC SMC115 [] CNC115 = true := by decide +kernel
-- OneSided$Reader.letLine [(2, 2), (32, 32)]
def Ckl551 : AL := [some Cka0,some Cka121]
def Ckf66 : FA := [(32,6,Cka7)]
def CNC116_0 : List ND := [(0,(Ckl551,[],[]),17,Ckc0,[1],0),
  (1,(Ckl551,[Cke200],[]),16,Ckc0,[2],0),
  (4,(Ckl551,[Cke206],[]),15,Ckc0,[7,3],0),
  (7,(Ckl551,[],Ckf65),14,Ckc0,[4],0),
  (8,(Ckl551,[Cke0],Ckf65),13,Ckc0,[5],0),
  (9,(Ckl551,[Cke36,Cke0],Ckf65),12,Ckc0,[6],9),
  (12,(Ckl551,[],Ckf65),11,Ckc0,[],0),
  (13,(Ckl551,[],Ckf66),10,Ckc0,[8],0),
  (14,(Ckl551,[Cke0],Ckf66),9,Ckc0,[9],6),
  (17,(Ckl551,[],Ckf66),8,Ckc0,[10],0),
  (18,(Ckl551,[Cke0],Ckf66),7,Ckc0,[11],0),
  (19,(Ckl551,[Cke200,Cke0],Ckf66),6,Ckc0,[12],0),
  (20,(Ckl551,[Cke7,Cke200,Cke0],Ckf66),5,Ckc0,[13],0),
  (21,(Ckl551,[Cke7,Cke7,Cke200,Cke0],Ckf66),4,Ckc0,[14],115),
  (24,(Ckl551,[],[]),3,Ckc0,[15],0),
  (25,(Ckl551,[Cke0],[]),2,Ckc0,[16],0),
  (27,(Ckl551,[Cke45,Cke0],[]),1,Ckc0,[17],13),
  (30,(Ckl551,[],[]),0,Ckc0,[],0)]
def CNC116 : List (List ND) := [CNC116_0]
theorem CKC116 : chkS prot SMsC SMC116 [] CNC116 = true := by decide +kernel
-- OneSided$Reader.readQuarter [(2, 2), (32, 32)]
def Ckl552 : AL := [some Cka0,some Cka121,some Cka14]
def Ckl553 : AL := [some Cka0,some Cka121,some Cka7]
def Ckl554 : AL := [some Cka0,some Cka121,some Cka1]
def Ckl555 : AL := [some Cka0,some Cka121,some Cka15]
def CNC117_0 : List ND := [(0,(Ckl316,[],[]),29052,Ckc1,[1],0),
  (1,(Ckl316,[Cke0],[]),29051,Ckc1,[2],7),
  (4,(Ckl316,[],[]),29050,Ckc1,[3],0),
  (5,(Ckl316,[Cke200],[]),29049,Ckc1,[4],73),
  (8,(Ckl316,[],[]),29048,Ckc1,[5],0),
  (9,(Ckl316,[Cke0],[]),29047,Ckc1,[6],0),
  (10,(Ckl316,[Cke7,Cke0],[]),29046,Ckc1,[7],10),
  (13,(Ckl316,[],[]),29045,Ckc1,[8],0),
  (14,(Ckl316,[Cke200],[]),29044,Ckc1,[9],0),
  (15,(Ckl316,[Cke0,Cke200],[]),29043,Ckc1,[10],0),
  (16,(Ckl316,[Cke22,Cke0,Cke200],[]),29042,Ckc1,[11],0),
  (18,(Ckl316,[Cke48,Cke22,Cke0,Cke200],[]),29041,Ckc1,[12],11),
  (21,(Ckl316,[Cke68,Cke200],[]),29040,Ckc1,[13],0),
  (24,(Ckl316,[],[]),29039,Ckc1,[14],0),
  (25,(Ckl316,[Cke0],[]),29038,Ckc1,[15],0),
  (27,(Ckl316,[Cke45,Cke0],[]),29037,Ckc1,[16],13),
  (30,(Ckl316,[],[]),29036,Ckc1,[17],0),
  (31,(Ckl316,[Cke7],[]),29035,Ckc1,[18],0),
  (32,(Ckl552,[],[]),29033,Ckc11,[20],0),
  (33,(Ckl553,[Cke23],[]),29054,Ckc1,[21],0),
  (33,(Ckl552,[Cke192],[]),29032,Ckc11,[22],0),
  (36,(Ckl553,[Cke153,Cke23],[]),29053,Ckc1,[23],0),
  (36,(Ckl552,[Cke153,Cke192],[]),29031,Ckc11,[49,23],0),
  (39,(Ckl554,[],[]),29030,Ckc11,[24],0),
  (40,(Ckl554,[Cke0],[]),29029,Ckc11,[25],0),
  (43,(Ckl554,[Cke46],[]),29028,Ckc11,[49,26],0),
  (46,(Ckl554,[],Ckf7),29027,Ckc11,[27],0),
  (47,(Ckl554,[Cke0],Ckf7),29026,Ckc11,[28],0),
  (50,(Ckl554,[Cke60],Ckf7),29025,Ckc11,[49,29],0),
  (53,(Ckl554,[],Ckf52),29024,Ckc11,[30],0),
  (54,(Ckl554,[Cke0],Ckf52),29023,Ckc11,[31],0),
  (57,(Ckl554,[Cke58],Ckf52),29022,Ckc11,[44,32,36,40],0),
  (92,(Ckl554,[],Ckf52),29010,Ckc11,[33],0),
  (93,(Ckl554,[Cke0],Ckf52),29009,Ckc11,[34],0),
  (94,(Ckl554,[Cke200,Cke0],Ckf52),29008,Ckc11,[35],77),
  (97,(Ckl554,[],[]),29007,Ckc11,[47],0),
  (100,(Ckl554,[],Ckf52),29021,Ckc11,[37],0),
  (101,(Ckl554,[Cke0],Ckf52),29020,Ckc11,[38],0),
  (102,(Ckl554,[Cke200,Cke0],Ckf52),29019,Ckc11,[39],78),
  (105,(Ckl554,[],[]),29018,Ckc11,[47],0),
  (108,(Ckl554,[],Ckf52),29017,Ckc11,[41],0),
  (109,(Ckl554,[Cke0],Ckf52),29016,Ckc11,[42],0),
  (110,(Ckl554,[Cke200,Cke0],Ckf52),29015,Ckc11,[43],116),
  (113,(Ckl554,[],[]),29014,Ckc11,[47],0),
  (116,(Ckl554,[],Ckf52),29013,Ckc11,[45],0),
  (117,(Ckl554,[Cke0],Ckf52),29012,Ckc11,[46],0),
  (118,(Ckl554,[Cke6,Cke0],Ckf52),29011,Ckc11,[47],9),
  (121,(Ckl554,[],[]),29006,Ckc11,[48],0),
  (124,(Ckl555,[],[]),29034,Ckc11,[18],0),
  (127,(Ckl552,[],[]),5,Ckc1,[50],0),
  (128,(Ckl552,[Cke0],[]),4,Ckc1,[51],0),
  (129,(Ckl552,[Cke7,Cke0],[]),3,Ckc1,[52],0),
  (132,(Ckl552,[],Ckf53),2,Ckc1,[53],0),
  (133,(Ckl552,[Cke0],Ckf53),1,Ckc1,[54],0),
  (136,(Ckl552,[Cke46],Ckf53),0,Ckc1,[],0)]
def CNC117 : List (List ND) := [CNC117_0]
theorem CKC117 : chkS prot SMsC SMC117 [] CNC117 = true := by decide +kernel
-- OneSided$Quarter.fact [(-2147483648, 2147483647), (-2147483648, 2147483647), (-2147483648, 2147483647), (-2147483648, 2147483647), (-2147483648, 2147483647)]
def Ckl556 : AL := [some Cka34,some Cka34,some Cka34,some Cka34,some Cka34]
def Ckc12 : List Int := [0,0,0,0,0]
def Ckl557 : AL := [some Cka7,some Cka34,some Cka34,some Cka34,some Cka34]
def Ckl558 : AL := [some Cka6,some Cka34,some Cka34,some Cka34,some Cka34]
def Cke209 : SE := (Cka34,(1,2,0,0,0))
def Ckl559 : AL := [some Cka18,some Cka34,some Cka34,some Cka34,some Cka34]
def Cke210 : SE := (Cka34,(1,3,0,0,0))
def Cke211 : SE := (Cka34,(1,4,0,0,0))
def CNC118_0 : List ND := [(0,(Ckl556,[],[]),9,Ckc12,[1],0),
  (1,(Ckl556,[Cke37],[]),8,Ckc12,[8,2,4,6],0),
  (28,(Ckl557,[],[]),1,Ckc12,[3],0),
  (29,(Ckl557,[Cke156],[]),0,Ckc12,[],0),
  (30,(Ckl558,[],[]),5,Ckc12,[5],0),
  (31,(Ckl558,[Cke209],[]),4,Ckc12,[],0),
  (32,(Ckl559,[],[]),7,Ckc12,[7],0),
  (33,(Ckl559,[Cke210],[]),6,Ckc12,[],0),
  (34,(Ckl556,[],[]),3,Ckc12,[9],0),
  (36,(Ckl556,[Cke211],[]),2,Ckc12,[],0)]
def CNC118 : List (List ND) := [CNC118_0]
theorem CKC118 : chkS prot SMsC SMC118 [] CNC118 = true := by decide +kernel
-- OneSided$Quarter.join [(-2147483648, 2147483647), (-2147483648, 2147483647), (-2147483648, 2147483647)]
def Ckl560 : AL := [some Cka34,some Cka34,some Cka34]
def Ckl561 : AL := [some Cka113,some Cka34,some Cka34]
def Ckl562 : AL := [some Cka114,some Cka34,some Cka34]
def Ckl563 : AL := [some Cka114,some Cka7,some Cka34]
def Ckl564 : AL := [some Cka114,some Cka7,some Cka7]
def Ckl565 : AL := [some Cka110,some Cka34,some Cka34]
def Cka127 : AV := (0,-2147483648,2147483646,1)
def Cka128 : AV := (0,-2147483647,2147483647,1)
def Ckl566 : AL := [some Cka110,some Cka127,some Cka128]
def Ckl567 : AL := [some Cka111,some Cka34,some Cka34]
def Ckl568 : AL := [some Cka106,some Cka34,some Cka34]
def Ckl569 : AL := [some Cka107,some Cka34,some Cka34]
def CNC119_0 : List ND := [(0,(Ckl560,[],[]),47,Ckc1,[1],0),
  (1,(Ckl560,[Cke37],[]),46,Ckc1,[44,2,11,20,28,36,40],0),
  (40,(Ckl561,[],[]),24,Ckc1,[3],0),
  (41,(Ckl561,[Cke156],[]),23,Ckc1,[8,4],0),
  (44,(Ckl561,[],[]),22,Ckc1,[5],0),
  (45,(Ckl561,[Cke209],[]),21,Ckc1,[8,6],0),
  (48,(Ckl561,[],[]),18,Ckc1,[7],0),
  (49,(Ckl561,[Cke6],[]),17,Ckc1,[10],0),
  (52,(Ckl561,[],[]),20,Ckc1,[9],0),
  (53,(Ckl561,[Cke7],[]),19,Ckc1,[],0),
  (53,(Ckl561,[Cke6],[]),16,Ckc1,[],0),
  (54,(Ckl562,[],[]),33,Ckc1,[12],0),
  (55,(Ckl562,[Cke156],[]),32,Ckc1,[15,13],0),
  (58,(Ckl563,[],[]),31,Ckc1,[14],0),
  (59,(Ckl563,[Cke209],[]),30,Ckc1,[17,15],0),
  (62,(Ckl562,[],[]),27,Ckc1,[16],0),
  (63,(Ckl562,[Cke6],[]),26,Ckc1,[19],0),
  (66,(Ckl564,[],[]),29,Ckc1,[18],0),
  (67,(Ckl564,[Cke7],[]),28,Ckc1,[],0),
  (67,(Ckl562,[Cke6],[]),25,Ckc1,[],0),
  (68,(Ckl565,[],[]),41,Ckc1,[21],0),
  (69,(Ckl565,[Cke156],[]),40,Ckc1,[22],0),
  (70,(Ckl565,[Cke209,Cke156],[]),39,Ckc1,[25,23],0),
  (73,(Ckl566,[],[]),36,Ckc1,[24],0),
  (74,(Ckl566,[Cke6],[]),35,Ckc1,[27],0),
  (77,(Ckl565,[],[]),38,Ckc1,[26],0),
  (78,(Ckl565,[Cke7],[]),37,Ckc1,[],0),
  (78,(Ckl566,[Cke6],[]),34,Ckc1,[],0),
  (79,(Ckl567,[],[]),7,Ckc1,[29],0),
  (80,(Ckl567,[Cke156],[]),6,Ckc1,[30],0),
  (81,(Ckl567,[Cke209,Cke156],[]),5,Ckc1,[33,31],0),
  (84,(Ckl567,[],[]),4,Ckc1,[32],0),
  (85,(Ckl567,[Cke6],[]),3,Ckc1,[35],0),
  (88,(Ckl567,[],[]),1,Ckc1,[34],0),
  (89,(Ckl567,[Cke7],[]),0,Ckc1,[],0),
  (89,(Ckl567,[Cke6],[]),2,Ckc1,[],0),
  (90,(Ckl568,[],[]),15,Ckc1,[37],0),
  (91,(Ckl568,[Cke156],[]),14,Ckc1,[38],0),
  (92,(Ckl568,[Cke209,Cke156],[]),13,Ckc1,[39],0),
  (93,(Ckl568,[Cke184],[]),12,Ckc1,[],0),
  (94,(Ckl569,[],[]),11,Ckc1,[41],0),
  (95,(Ckl569,[Cke156],[]),10,Ckc1,[42],0),
  (96,(Ckl569,[Cke209,Cke156],[]),9,Ckc1,[43],0),
  (97,(Ckl569,[Cke184],[]),8,Ckc1,[],0),
  (98,(Ckl560,[],[]),45,Ckc1,[45],0),
  (99,(Ckl560,[Cke156],[]),44,Ckc1,[46],0),
  (100,(Ckl560,[Cke209,Cke156],[]),43,Ckc1,[47],0),
  (101,(Ckl560,[Cke184],[]),42,Ckc1,[],0)]
def CNC119 : List (List ND) := [CNC119_0]
theorem CKC119 : chkS prot SMsC SMC119 [] CNC119 = true := by decide +kernel
-- OneSided$Quarter.lawFor [(5, 5), (-2147483648, 2147483647), (-2147483648, 2147483647), (-2147483648, 2147483647), (-2147483648, 2147483647)]
def Ckl570 : AL := [some Cka50,some Cka34,some Cka34,some Cka34,some Cka34,none,none,none]
def Ckc13 : List Int := [0,0,0,0,0,0,0,0]
def Ckl571 : AL := [some Cka50,some Cka34,some Cka34,some Cka34,some Cka34,some Cka7,none,none]
def Cka129 : AV := (0,0,32,1)
def Ckl572 : AL := [some Cka50,some Cka34,some Cka34,some Cka34,some Cka34,some Cka129,some Cka14,none]
def Ckc14 : List Int := [0,0,0,0,0,0,-81,0]
def Ckl573 : AL := [some Cka50,some Cka34,some Cka34,some Cka34,some Cka34,some Cka7,some Cka7,none]
def Cke212 : SE := (Cka7,(1,6,0,0,0))
def Cke213 : SE := (Cka14,(1,6,0,0,0))
def Ckl574 : AL := [some Cka50,some Cka34,some Cka34,some Cka34,some Cka34,some Cka129,some Cka1,none]
def Cke214 : SE := (Cka1,(1,6,0,0,0))
def Ckl575 : AL := [some Cka50,some Cka34,some Cka34,some Cka34,some Cka34,some Cka129,some Cka1,some Cka34]
def Cke215 : SE := (Cka34,(1,7,0,0,0))
def Cka130 : AV := (0,10005,2147483647,1)
def Ckl576 : AL := [some Cka50,some Cka34,some Cka34,some Cka34,some Cka34,some Cka129,some Cka1,some Cka130]
def Ckl577 : AL := [some Cka50,some Cka34,some Cka34,some Cka34,some Cka34,some Cka7,some Cka7,some Cka130]
def Cke216 : SE := (Cka7,(1,5,0,0,0))
def Cke217 : SE := (Cka129,(1,5,0,0,0))
def Cka131 : AV := (0,2,32,1)
def Ckl578 : AL := [some Cka50,some Cka34,some Cka34,some Cka34,some Cka34,some Cka131,some Cka1,some Cka130]
def Cka132 : AV := (0,1,31,1)
def Ckl579 : AL := [some Cka50,some Cka34,some Cka34,some Cka34,some Cka34,some Cka132,some Cka1,some Cka130]
def Cka133 : AV := (2,9,9,0)
def Cke218 : SE := (Cka133,(2,5,7,0,0))
def Cka134 : AV := (0,0,2,1)
def Ckl580 : AL := [some Cka50,some Cka34,some Cka34,some Cka34,some Cka34,some Cka6,some Cka134,some Cka130]
def Cke219 : SE := (Cka6,(1,5,0,0,0))
def Cke220 : SE := (Cka132,(1,5,0,0,0))
def Cka135 : AV := (0,0,30,1)
def Cke221 : SE := (Cka135,pv0)
def Cke222 : SE := (Cka130,(1,7,0,0,0))
def Cke223 : SE := (Cka34,(2,9,0,0,0))
def Cke224 : SE := (Cka34,(2,9,1,0,0))
def Cka136 : AV := (0,-2147483648,10004,1)
def Ckl581 : AL := [some Cka50,some Cka34,some Cka34,some Cka34,some Cka34,some Cka129,some Cka1,some Cka136]
def Cke225 : SE := (Cka136,(1,7,0,0,0))
def Ckl582 : AL := [some Cka50,some Cka34,some Cka34,some Cka34,some Cka34,some Cka129,some Cka1,some Cka119]
def Ckl583 : AL := [some Cka50,some Cka34,some Cka34,some Cka34,some Cka34,some Cka7,some Cka7,some Cka119]
def Cka137 : AV := (0,1,32,1)
def Ckl584 : AL := [some Cka50,some Cka34,some Cka34,some Cka34,some Cka34,some Cka137,some Cka1,some Cka119]
def Ckl585 : AL := [some Cka50,some Cka34,some Cka34,some Cka34,some Cka34,some Cka6,some Cka96,some Cka119]
def Cke226 : SE := (Cka137,(1,5,0,0,0))
def Cka138 : AV := (0,0,31,1)
def Cke227 : SE := (Cka138,pv0)
def Ckf67 : FA := [(5,6,Cka15),(9,0,Cka7)]
def Ckf68 : FA := [(5,6,Cka15),(9,0,Cka34)]
def Cka139 : AV := (0,-2147483648,10003,1)
def Ckl586 : AL := [some Cka50,some Cka34,some Cka34,some Cka34,some Cka34,some Cka129,some Cka1,some Cka139]
def Ckl587 : AL := [some Cka50,some Cka34,some Cka34,some Cka34,some Cka34,some Cka7,some Cka7,some Cka139]
def Ckl588 : AL := [some Cka50,some Cka34,some Cka34,some Cka34,some Cka34,some Cka138,some Cka1,some Cka139]
def Cke228 : SE := (Cka138,(1,5,0,0,0))
def Cke229 : SE := (Cka139,(1,7,0,0,0))
def Cka140 : AV := (0,-2147483648,9999,1)
def Ckl589 : AL := [some Cka50,some Cka34,some Cka34,some Cka34,some Cka34,some Cka7,some Cka7,some Cka140]
def Ckl590 : AL := [some Cka50,some Cka34,some Cka34,some Cka34,some Cka34,some Cka138,some Cka1,some Cka140]
def Cke230 : SE := (Cka140,(1,7,0,0,0))
def Cka141 : AV := (0,10000,10003,1)
def Ckl591 : AL := [some Cka50,some Cka34,some Cka34,some Cka34,some Cka34,some Cka7,some Cka7,some Cka141]
def Ckl592 : AL := [some Cka50,some Cka34,some Cka34,some Cka34,some Cka34,some Cka138,some Cka1,some Cka141]
def Cke231 : SE := (Cka141,(1,7,0,0,0))
def Ckl593 : AL := [some Cka50,some Cka34,some Cka34,some Cka34,some Cka34,some Cka129,some Cka15,some Cka34]
def Ckl594 : AL := [some Cka50,some Cka34,some Cka34,some Cka34,some Cka34,some Cka137,some Cka14,none]
def Ckl595 : AL := [some Cka50,some Cka34,some Cka34,some Cka34,some Cka34,some Cka7,some Cka14,none]
def CNC120_0 : List ND := [(0,(Ckl570,[],[]),81094,Ckc13,[1],0),
  (1,(Ckl570,[Cke7],[]),81093,Ckc13,[2],0),
  (3,(Ckl571,[],[]),81092,Ckc13,[3],0),
  (4,(Ckl571,[Cke7],[]),81091,Ckc13,[4],0),
  (6,(Ckl572,[],[]),81089,Ckc14,[6],0),
  (8,(Ckl573,[Cke212],[]),81097,Ckc13,[7],0),
  (8,(Ckl572,[Cke213],[]),81088,Ckc14,[8],0),
  (9,(Ckl573,[Cke53,Cke212],[]),81096,Ckc13,[9],0),
  (9,(Ckl572,[Cke53,Cke213],[]),81087,Ckc14,[10],0),
  (12,(Ckl573,[Cke152,Cke212],[]),81095,Ckc13,[137,11],0),
  (12,(Ckl572,[Cke152,Cke213],[]),81086,Ckc14,[137,11],0),
  (15,(Ckl574,[],Ckf45),81085,Ckc14,[12],0),
  (16,(Ckl574,[Cke53],Ckf45),81084,Ckc14,[13],0),
  (19,(Ckl574,[Cke154],Ckf45),81083,Ckc14,[15],0),
  (21,(Ckl573,[Cke212,Cke154],Ckf45),81098,Ckc13,[16],0),
  (21,(Ckl574,[Cke214,Cke154],Ckf45),81082,Ckc14,[16],0),
  (22,(Ckl574,[Cke184],Ckf45),81081,Ckc14,[17],0),
  (24,(Ckl575,[],Ckf45),81080,Ckc14,[18],0),
  (26,(Ckl575,[Cke215],Ckf45),81079,Ckc14,[19],0),
  (29,(Ckl575,[Cke187,Cke215],Ckf45),81078,Ckc14,[60,20],0),
  (32,(Ckl576,[],Ckf45),81033,Ckc14,[22],0),
  (34,(Ckl577,[Cke216],Ckf45),81100,Ckc13,[23],0),
  (34,(Ckl576,[Cke217],Ckf45),81032,Ckc14,[24],0),
  (35,(Ckl577,[Cke6,Cke216],Ckf45),81099,Ckc13,[135],0),
  (35,(Ckl576,[Cke6,Cke217],Ckf45),81031,Ckc14,[135,25],0),
  (38,(Ckl578,[],Ckf45),81030,Ckc14,[26],0),
  (41,(Ckl579,[],Ckf45),81029,Ckc14,[27],0),
  (42,(Ckl579,[Cke53],Ckf45),81028,Ckc14,[28],0),
  (45,(Ckl579,[Cke218],Ckf45),81027,Ckc14,[30],0),
  (47,(Ckl580,[Cke219,Cke218],Ckf45),81115,Ckc13,[31],0),
  (47,(Ckl579,[Cke220,Cke218],Ckf45),81026,Ckc14,[32],0),
  (48,(Ckl580,[Cke6,Cke219,Cke218],Ckf45),81114,Ckc13,[33],0),
  (48,(Ckl579,[Cke6,Cke220,Cke218],Ckf45),81025,Ckc14,[34],0),
  (49,(Ckl580,[Cke7,Cke218],Ckf45),81113,Ckc13,[35],0),
  (49,(Ckl579,[Cke221,Cke218],Ckf45),81024,Ckc14,[36],0),
  (51,(Ckl580,[Cke222,Cke7,Cke218],Ckf45),81112,Ckc13,[37],0),
  (51,(Ckl579,[Cke222,Cke221,Cke218],Ckf45),81023,Ckc14,[38],0),
  (52,(Ckl580,[Cke53,Cke222,Cke7,Cke218],Ckf45),81111,Ckc13,[39],0),
  (52,(Ckl579,[Cke53,Cke222,Cke221,Cke218],Ckf45),81022,Ckc14,[40],0),
  (55,(Ckl580,[Cke218,Cke222,Cke7,Cke218],Ckf45),81110,Ckc13,[41],0),
  (55,(Ckl579,[Cke218,Cke222,Cke221,Cke218],Ckf45),81021,Ckc14,[42],0),
  (57,(Ckl580,[Cke219,Cke218,Cke222,Cke7,Cke218],Ckf45),81109,Ckc13,[43],0),
  (57,(Ckl579,[Cke220,Cke218,Cke222,Cke221,Cke218],Ckf45),81020,Ckc14,[44],0),
  (58,(Ckl580,[Cke6,Cke219,Cke218,Cke222,Cke7,Cke218],Ckf45),81108,Ckc13,[45],0),
  (58,(Ckl579,[Cke6,Cke220,Cke218,Cke222,Cke221,Cke218],Ckf45),81019,Ckc14,[46],0),
  (59,(Ckl580,[Cke7,Cke218,Cke222,Cke7,Cke218],Ckf45),81107,Ckc13,[47],0),
  (59,(Ckl579,[Cke221,Cke218,Cke222,Cke221,Cke218],Ckf45),81018,Ckc14,[48],0),
  (60,(Ckl580,[Cke223,Cke222,Cke7,Cke218],Ckf45),81106,Ckc13,[49],0),
  (60,(Ckl579,[Cke184,Cke222,Cke221,Cke218],Ckf45),81017,Ckc14,[50],0),
  (61,(Ckl580,[Cke53,Cke223,Cke222,Cke7,Cke218],Ckf45),81105,Ckc13,[51],0),
  (61,(Ckl579,[Cke53,Cke184,Cke222,Cke221,Cke218],Ckf45),81016,Ckc14,[52],0),
  (64,(Ckl580,[Cke218,Cke223,Cke222,Cke7,Cke218],Ckf45),81104,Ckc13,[53],0),
  (64,(Ckl579,[Cke218,Cke184,Cke222,Cke221,Cke218],Ckf45),81015,Ckc14,[54],0),
  (66,(Ckl580,[Cke219,Cke218,Cke223,Cke222,Cke7,Cke218],Ckf45),81103,Ckc13,[55],0),
  (66,(Ckl579,[Cke220,Cke218,Cke184,Cke222,Cke221,Cke218],Ckf45),81014,Ckc14,[56],0),
  (67,(Ckl580,[Cke224,Cke223,Cke222,Cke7,Cke218],Ckf45),81102,Ckc13,[57],119),
  (67,(Ckl579,[Cke184,Cke184,Cke222,Cke221,Cke218],Ckf45),81013,Ckc14,[58],119),
  (70,(Ckl580,[Cke184,Cke7,Cke218],Ckf45),81101,Ckc13,[59],0),
  (70,(Ckl579,[Cke184,Cke221,Cke218],Ckf45),81012,Ckc14,[59],0),
  (71,(Ckl579,[],Ckf45),81011,Ckc14,[135],0),
  (74,(Ckl581,[],Ckf45),81077,Ckc14,[61],0),
  (76,(Ckl581,[Cke225],Ckf45),81076,Ckc14,[62],0),
  (79,(Ckl581,[Cke187,Cke225],Ckf45),81075,Ckc14,[98,63],0),
  (82,(Ckl582,[],Ckf45),81074,Ckc14,[65],0)]
def CNC120_1 : List ND := [(84,(Ckl583,[Cke216],Ckf45),81116,Ckc13,[135],0),
  (84,(Ckl582,[Cke217],Ckf45),81073,Ckc14,[135,66],0),
  (87,(Ckl584,[],Ckf45),81072,Ckc14,[67],0),
  (88,(Ckl584,[Cke53],Ckf45),81071,Ckc14,[68],0),
  (91,(Ckl584,[Cke218],Ckf45),81070,Ckc14,[70],0),
  (93,(Ckl585,[Cke219,Cke218],Ckf45),81130,Ckc13,[71],0),
  (93,(Ckl584,[Cke226,Cke218],Ckf45),81069,Ckc14,[72],0),
  (94,(Ckl585,[Cke6,Cke219,Cke218],Ckf45),81129,Ckc13,[73],0),
  (94,(Ckl584,[Cke6,Cke226,Cke218],Ckf45),81068,Ckc14,[74],0),
  (95,(Ckl585,[Cke7,Cke218],Ckf45),81128,Ckc13,[75],0),
  (95,(Ckl584,[Cke227,Cke218],Ckf45),81067,Ckc14,[76],0),
  (96,(Ckl585,[Cke53,Cke7,Cke218],Ckf45),81127,Ckc13,[77],0),
  (96,(Ckl584,[Cke53,Cke227,Cke218],Ckf45),81066,Ckc14,[78],0),
  (99,(Ckl585,[Cke218,Cke7,Cke218],Ckf45),81126,Ckc13,[79],0),
  (99,(Ckl584,[Cke218,Cke227,Cke218],Ckf45),81065,Ckc14,[80],0),
  (101,(Ckl585,[Cke219,Cke218,Cke7,Cke218],Ckf45),81125,Ckc13,[81],0),
  (101,(Ckl584,[Cke226,Cke218,Cke227,Cke218],Ckf45),81064,Ckc14,[82],0),
  (102,(Ckl585,[Cke6,Cke219,Cke218,Cke7,Cke218],Ckf45),81124,Ckc13,[83],0),
  (102,(Ckl584,[Cke6,Cke226,Cke218,Cke227,Cke218],Ckf45),81063,Ckc14,[84],0),
  (103,(Ckl585,[Cke7,Cke218,Cke7,Cke218],Ckf45),81123,Ckc13,[85],0),
  (103,(Ckl584,[Cke227,Cke218,Cke227,Cke218],Ckf45),81062,Ckc14,[86],0),
  (104,(Ckl585,[Cke223,Cke7,Cke218],Ckf45),81122,Ckc13,[91,87],0),
  (104,(Ckl584,[Cke184,Cke227,Cke218],Ckf45),81061,Ckc14,[92,88],0),
  (107,(Ckl585,[Cke7,Cke218],Ckf67),81121,Ckc13,[89],0),
  (107,(Ckl584,[Cke227,Cke218],Ckf45),81058,Ckc14,[90],0),
  (108,(Ckl585,[Cke6,Cke7,Cke218],Ckf67),81120,Ckc13,[94],0),
  (108,(Ckl584,[Cke6,Cke227,Cke218],Ckf45),81057,Ckc14,[96],0),
  (111,(Ckl585,[Cke7,Cke218],Ckf68),81118,Ckc13,[93],0),
  (111,(Ckl584,[Cke227,Cke218],Ckf45),81060,Ckc14,[95],0),
  (112,(Ckl585,[Cke7,Cke7,Cke218],Ckf68),81117,Ckc13,[97],0),
  (112,(Ckl585,[Cke6,Cke7,Cke218],Ckf67),81119,Ckc13,[97],0),
  (112,(Ckl584,[Cke7,Cke227,Cke218],Ckf45),81059,Ckc14,[97],0),
  (112,(Ckl584,[Cke6,Cke227,Cke218],Ckf45),81056,Ckc14,[97],0),
  (113,(Ckl584,[],Ckf45),81055,Ckc14,[135],0),
  (116,(Ckl586,[],Ckf45),81054,Ckc14,[100],0),
  (118,(Ckl587,[Cke216],Ckf45),81132,Ckc13,[101],0),
  (118,(Ckl586,[Cke217],Ckf45),81053,Ckc14,[102],0),
  (120,(Ckl587,[Cke49,Cke216],Ckf45),81131,Ckc13,[103],0),
  (120,(Ckl586,[Cke49,Cke217],Ckf45),81052,Ckc14,[135,103],0),
  (123,(Ckl588,[],Ckf45),81051,Ckc14,[104],0),
  (124,(Ckl588,[Cke53],Ckf45),81050,Ckc14,[105],0),
  (127,(Ckl588,[Cke218],Ckf45),81049,Ckc14,[107],0),
  (129,(Ckl587,[Cke216,Cke218],Ckf45),81146,Ckc13,[108],0),
  (129,(Ckl588,[Cke228,Cke218],Ckf45),81048,Ckc14,[109],0),
  (131,(Ckl587,[Cke229,Cke216,Cke218],Ckf45),81145,Ckc13,[110],0),
  (131,(Ckl588,[Cke229,Cke228,Cke218],Ckf45),81047,Ckc14,[111],0),
  (134,(Ckl587,[Cke185,Cke229,Cke216,Cke218],Ckf45),81144,Ckc13,[116,112],0),
  (134,(Ckl588,[Cke185,Cke229,Cke228,Cke218],Ckf45),81046,Ckc14,[117,113],0),
  (137,(Ckl589,[Cke216,Cke218],Ckf45),81143,Ckc13,[114],0),
  (137,(Ckl590,[Cke228,Cke218],Ckf45),81037,Ckc14,[115],0),
  (139,(Ckl589,[Cke230,Cke216,Cke218],Ckf45),81142,Ckc13,[132],0),
  (139,(Ckl590,[Cke230,Cke228,Cke218],Ckf45),81036,Ckc14,[133],0),
  (142,(Ckl591,[Cke216,Cke218],Ckf45),81141,Ckc13,[118],0),
  (142,(Ckl592,[Cke228,Cke218],Ckf45),81045,Ckc14,[119],0),
  (144,(Ckl591,[Cke231,Cke216,Cke218],Ckf45),81140,Ckc13,[120],0),
  (144,(Ckl592,[Cke231,Cke228,Cke218],Ckf45),81044,Ckc14,[121],0),
  (147,(Ckl591,[Cke185,Cke231,Cke216,Cke218],Ckf45),81139,Ckc13,[122],0),
  (147,(Ckl592,[Cke185,Cke231,Cke228,Cke218],Ckf45),81043,Ckc14,[123],0),
  (148,(Ckl591,[Cke141,Cke216,Cke218],Ckf45),81138,Ckc13,[124],0),
  (148,(Ckl592,[Cke141,Cke228,Cke218],Ckf45),81042,Ckc14,[125],0),
  (149,(Ckl591,[Cke156,Cke141,Cke216,Cke218],Ckf45),81137,Ckc13,[126],0),
  (149,(Ckl592,[Cke156,Cke141,Cke228,Cke218],Ckf45),81041,Ckc14,[127],0),
  (150,(Ckl591,[Cke209,Cke156,Cke141,Cke216,Cke218],Ckf45),81136,Ckc13,[128],0),
  (150,(Ckl592,[Cke209,Cke156,Cke141,Cke228,Cke218],Ckf45),81040,Ckc14,[129],0)]
def CNC120_2 : List ND := [(151,(Ckl591,[Cke210,Cke209,Cke156,Cke141,Cke216,Cke218],Ckf45),81135,Ckc13,[130],0),
  (151,(Ckl592,[Cke210,Cke209,Cke156,Cke141,Cke228,Cke218],Ckf45),81039,Ckc14,[131],0),
  (153,(Ckl591,[Cke211,Cke210,Cke209,Cke156,Cke141,Cke216,Cke218],Ckf45),81134,Ckc13,[132],118),
  (153,(Ckl592,[Cke211,Cke210,Cke209,Cke156,Cke141,Cke228,Cke218],Ckf45),81038,Ckc14,[133],118),
  (156,(Ckl587,[Cke184,Cke216,Cke218],Ckf45),81133,Ckc13,[134],0),
  (156,(Ckl588,[Cke184,Cke228,Cke218],Ckf45),81035,Ckc14,[134],0),
  (157,(Ckl588,[],Ckf45),81034,Ckc14,[135],0),
  (160,(Ckl575,[],Ckf45),81010,Ckc14,[136],0),
  (163,(Ckl593,[],Ckf45),81090,Ckc14,[4],0),
  (166,(Ckl572,[],[]),9,Ckc13,[138],0),
  (168,(Ckl572,[Cke217],[]),8,Ckc13,[144,139],0),
  (171,(Ckl594,[],[]),7,Ckc13,[140],0),
  (172,(Ckl594,[Cke53],[]),6,Ckc13,[141],0),
  (175,(Ckl594,[Cke218],[]),5,Ckc13,[142],0),
  (176,(Ckl594,[Cke7,Cke218],[]),4,Ckc13,[143],0),
  (177,(Ckl594,[Cke223],[]),3,Ckc13,[146],0),
  (180,(Ckl595,[],[]),1,Ckc13,[145],0),
  (181,(Ckl595,[Cke6],[]),0,Ckc13,[],0),
  (181,(Ckl594,[Cke223],[]),2,Ckc13,[],0)]
def CNC120 : List (List ND) := [CNC120_0, CNC120_1, CNC120_2]
theorem CKC120 : chkS prot SMsC SMC120 [] CNC120 = true := by decide +kernel
-- OneSided$Quarter.letsInto [(5, 5), (12, 25), (0, 3), (-2147483648, 2147483647), (-2147483648, 2147483647), (0, 9)]
def Ckl596 : AL := [some Cka50,some Cka65,some Cka80,some Cka34,some Cka34,some Cka77]
def Cke232 : SE := (Cka65,(1,1,0,0,0))
def Cka142 : AV := (0,0,2147483647,1)
def Ckl597 : AL := [some Cka50,some Cka65,some Cka80,some Cka142,some Cka34,some Cka77]
def Cke233 : SE := (Cka142,(1,3,0,0,0))
def Cka143 : AV := (0,0,24,1)
def Cke234 : SE := (Cka143,pv0)
def Ckl598 : AL := [some Cka50,some Cka65,some Cka80,some Cka84,some Cka34,some Cka77]
def Cka144 : AV := (0,-1,3,1)
def Cke235 : SE := (Cka144,pv0)
def Ckl599 : AL := [some Cka50,some Cka65,some Cka134,some Cka84,some Cka34,some Cka77]
def Cke236 : SE := (Cka77,(1,5,0,0,0))
def CNC121_0 : List ND := [(0,(Ckl596,[],[]),38,Ckc9,[1],0),
  (1,(Ckl596,[Cke232],[]),37,Ckc9,[2],0),
  (4,(Ckl596,[Cke141],[]),36,Ckc9,[3],0),
  (5,(Ckl596,[Cke36,Cke141],[]),35,Ckc9,[12,4],0),
  (8,(Ckl596,[],[]),34,Ckc9,[5],0),
  (9,(Ckl596,[Cke210],[]),33,Ckc9,[6],0),
  (10,(Ckl596,[Cke232,Cke210],[]),32,Ckc9,[7],0),
  (13,(Ckl596,[Cke113,Cke210],[]),31,Ckc9,[12,8],0),
  (16,(Ckl597,[],[]),30,Ckc9,[9],0),
  (17,(Ckl597,[Cke233],[]),29,Ckc9,[10],0),
  (18,(Ckl597,[Cke232,Cke233],[]),28,Ckc9,[11],0),
  (21,(Ckl597,[Cke234,Cke233],[]),27,Ckc9,[14,12],0),
  (24,(Ckl596,[],[]),1,Ckc9,[13],0),
  (25,(Ckl596,[Cke7],[]),0,Ckc9,[],0),
  (26,(Ckl598,[],[]),26,Ckc9,[15],0),
  (27,(Ckl598,[Cke232],[]),25,Ckc9,[16],0),
  (30,(Ckl598,[Cke235],[]),24,Ckc9,[17],0),
  (31,(Ckl598,[Cke51,Cke235],[]),23,Ckc9,[27,18],0),
  (34,(Ckl598,[],[]),22,Ckc9,[19],0),
  (35,(Ckl598,[Cke232],[]),21,Ckc9,[20],0),
  (38,(Ckl598,[Cke235],[]),20,Ckc9,[21],0),
  (39,(Ckl598,[Cke108,Cke235],[]),19,Ckc9,[27,22],0),
  (42,(Ckl598,[],[]),18,Ckc9,[23],0),
  (43,(Ckl598,[Cke108],[]),17,Ckc9,[24],0),
  (44,(Ckl598,[Cke36,Cke108],[]),16,Ckc9,[27,25],0),
  (47,(Ckl599,[],[]),15,Ckc9,[26],0),
  (48,(Ckl599,[Cke7],[]),14,Ckc9,[],0),
  (49,(Ckl598,[],[]),13,Ckc9,[28],0),
  (50,(Ckl598,[Cke53],[]),12,Ckc9,[29],0),
  (51,(Ckl598,[Cke114,Cke53],[]),11,Ckc9,[30],0),
  (52,(Ckl598,[Cke108,Cke114,Cke53],[]),10,Ckc9,[31],0),
  (54,(Ckl598,[Cke211,Cke108,Cke114,Cke53],[]),9,Ckc9,[32],0),
  (56,(Ckl598,[Cke236,Cke211,Cke108,Cke114,Cke53],[]),8,Ckc9,[33],120),
  (59,(Ckl598,[Cke184],[]),7,Ckc9,[36,34],0),
  (62,(Ckl598,[],[]),6,Ckc9,[35],0),
  (63,(Ckl598,[Cke6],[]),5,Ckc9,[38],0),
  (66,(Ckl598,[],[]),3,Ckc9,[37],0),
  (67,(Ckl598,[Cke7],[]),2,Ckc9,[],0),
  (67,(Ckl598,[Cke6],[]),4,Ckc9,[],1)]
def CNC121 : List (List ND) := [CNC121_0]
theorem CKC121 : chkS prot SMsC SMC121 [(3,3)] CNC121 = true := by decide +kernel
-- OneSided$Quarter.ways [(5, 5), (0, 13), (0, 3), (-2147483648, 2147483647), (-2147483648, 2147483647), (0, 1)]
def Ckl600 : AL := [some Cka50,some Cka62,some Cka80,some Cka34,some Cka34,some Cka96,none,none,none]
def Ckc15 : List Int := [0,0,0,0,0,0,0,0,0]
def Cke237 : SE := (Cka62,(1,1,0,0,0))
def Ckl601 : AL := [some Cka50,some Cka62,some Cka80,some Cka34,some Cka34,some Cka96,some Cka65,none,none]
def Cke238 : SE := (Cka65,(1,6,0,0,0))
def Cka145 : AV := (0,12,12,0)
def Cke239 : SE := (Cka145,pv0)
def Cka146 : AV := (0,12,2147483647,1)
def Ckl602 : AL := [some Cka50,some Cka62,some Cka80,some Cka146,some Cka34,some Cka96,some Cka65,none,none]
def Ckl603 : AL := [some Cka50,some Cka62,some Cka80,some Cka34,some Cka34,some Cka96,some Cka65,some Cka96,none]
def Ckl604 : AL := [some Cka50,some Cka62,some Cka80,some Cka34,some Cka34,some Cka96,some Cka65,some Cka96,some Cka7]
def Ckl605 : AL := [some Cka50,some Cka62,some Cka134,some Cka34,some Cka34,some Cka96,some Cka65,some Cka96,some Cka7]
def Cke240 : SE := (Cka96,(1,7,0,0,0))
def Ckl606 : AL := [some Cka50,some Cka62,some Cka80,some Cka84,some Cka34,some Cka96,some Cka65,some Cka96,some Cka7]
def Cke241 : SE := (Cka7,(1,8,0,0,0))
def Cke242 : SE := (Cka96,pv0)
def Ckl607 : AL := [some Cka50,some Cka62,some Cka80,some Cka34,some Cka34,some Cka96,some Cka65,some Cka96,some Cka96]
def Ckl608 : AL := [some Cka50,some Cka62,some Cka134,some Cka34,some Cka34,some Cka96,some Cka65,some Cka96,some Cka96]
def Ckl609 : AL := [some Cka50,some Cka62,some Cka80,some Cka84,some Cka34,some Cka96,some Cka65,some Cka96,some Cka96]
def Cke243 : SE := (Cka96,(1,8,0,0,0))
def Cka147 : AV := (0,0,1023,1)
def Cke244 : SE := (Cka147,pv0)
def Ckl610 : AL := [some Cka50,some Cka62,some Cka80,some Cka34,some Cka34,some Cka96,some Cka65,some Cka96,some Cka147]
def Cke245 : SE := (Cka147,(1,8,0,0,0))
def CNC122_0 : List ND := [(0,(Ckl600,[],[]),65,Ckc15,[1],0),
  (1,(Ckl600,[Cke53],[]),64,Ckc15,[2],0),
  (4,(Ckl600,[Cke77],[]),63,Ckc15,[3],0),
  (5,(Ckl600,[Cke237,Cke77],[]),62,Ckc15,[4],0),
  (6,(Ckl600,[Cke79],[]),61,Ckc15,[5],0),
  (8,(Ckl601,[],[]),60,Ckc15,[6],0),
  (10,(Ckl601,[Cke238],[]),59,Ckc15,[7],0),
  (13,(Ckl601,[Cke141],[]),58,Ckc15,[8],0),
  (14,(Ckl601,[Cke6,Cke141],[]),57,Ckc15,[14,9],0),
  (17,(Ckl601,[],[]),56,Ckc15,[10],0),
  (18,(Ckl601,[Cke210],[]),55,Ckc15,[11],0),
  (20,(Ckl601,[Cke239,Cke210],[]),54,Ckc15,[14,12],0),
  (23,(Ckl602,[],[]),53,Ckc15,[13],0),
  (24,(Ckl602,[Cke6],[]),52,Ckc15,[16],0),
  (27,(Ckl601,[],[]),49,Ckc15,[15],0),
  (28,(Ckl601,[Cke7],[]),48,Ckc15,[17],0),
  (28,(Ckl602,[Cke6],[]),51,Ckc15,[18],0),
  (30,(Ckl601,[Cke158,Cke7],[]),47,Ckc15,[21,19],0),
  (30,(Ckl602,[Cke158,Cke6],[]),50,Ckc15,[21,19],0),
  (33,(Ckl601,[],[]),46,Ckc15,[20],0),
  (34,(Ckl601,[Cke6],[]),45,Ckc15,[23],0),
  (37,(Ckl601,[],[]),43,Ckc15,[22],0),
  (38,(Ckl601,[Cke7],[]),42,Ckc15,[24],0),
  (38,(Ckl601,[Cke6],[]),44,Ckc15,[24],0),
  (40,(Ckl603,[],[]),41,Ckc15,[25],0),
  (41,(Ckl603,[Cke7],[]),40,Ckc15,[26],0),
  (43,(Ckl604,[],[]),39,Ckc15,[27],0),
  (44,(Ckl604,[Cke108],[]),38,Ckc15,[28],0),
  (45,(Ckl604,[Cke36,Cke108],[]),37,Ckc15,[31,29],0),
  (48,(Ckl605,[],[]),36,Ckc15,[30],0),
  (50,(Ckl605,[Cke240],[]),35,Ckc15,[45,31],0),
  (53,(Ckl604,[],[]),34,Ckc15,[32],0),
  (54,(Ckl604,[Cke53],[]),33,Ckc15,[33],0),
  (56,(Ckl604,[Cke238,Cke53],[]),32,Ckc15,[34],0),
  (57,(Ckl604,[Cke108,Cke238,Cke53],[]),31,Ckc15,[35],0),
  (58,(Ckl604,[Cke210,Cke108,Cke238,Cke53],[]),30,Ckc15,[36],0),
  (60,(Ckl604,[Cke211,Cke210,Cke108,Cke238,Cke53],[]),29,Ckc15,[37],0),
  (62,(Ckl604,[Cke238,Cke211,Cke210,Cke108,Cke238,Cke53],[]),28,Ckc15,[38],0),
  (65,(Ckl604,[Cke97,Cke211,Cke210,Cke108,Cke238,Cke53],[]),27,Ckc15,[39,40],121),
  (68,(Ckl604,[Cke7],[]),26,Ckc15,[45],0),
  (68,(Ckl606,[Cke6],[]),25,Ckc15,[41],0),
  (71,(Ckl606,[],[]),24,Ckc15,[42],0),
  (73,(Ckl606,[Cke241],[]),23,Ckc15,[43],0),
  (74,(Ckl606,[Cke6,Cke241],[]),22,Ckc15,[44],0),
  (75,(Ckl606,[Cke242],[]),21,Ckc15,[45],0),
  (77,(Ckl607,[],[]),20,Ckc15,[46],0),
  (78,(Ckl607,[Cke108],[]),19,Ckc15,[47],0),
  (79,(Ckl607,[Cke36,Cke108],[]),18,Ckc15,[50,48],0),
  (82,(Ckl608,[],[]),17,Ckc15,[49],0),
  (84,(Ckl608,[Cke240],[]),16,Ckc15,[64,50],0),
  (87,(Ckl607,[],[]),15,Ckc15,[51],0),
  (88,(Ckl607,[Cke53],[]),14,Ckc15,[52],0),
  (90,(Ckl607,[Cke238,Cke53],[]),13,Ckc15,[53],0),
  (91,(Ckl607,[Cke108,Cke238,Cke53],[]),12,Ckc15,[54],0),
  (92,(Ckl607,[Cke210,Cke108,Cke238,Cke53],[]),11,Ckc15,[55],0),
  (94,(Ckl607,[Cke211,Cke210,Cke108,Cke238,Cke53],[]),10,Ckc15,[56],0),
  (96,(Ckl607,[Cke238,Cke211,Cke210,Cke108,Cke238,Cke53],[]),9,Ckc15,[57],0),
  (99,(Ckl607,[Cke97,Cke211,Cke210,Cke108,Cke238,Cke53],[]),8,Ckc15,[58,59],121),
  (102,(Ckl607,[Cke7],[]),7,Ckc15,[64],0),
  (102,(Ckl609,[Cke6],[]),6,Ckc15,[60],0),
  (105,(Ckl609,[],[]),5,Ckc15,[61],0),
  (107,(Ckl609,[Cke243],[]),4,Ckc15,[62],0),
  (108,(Ckl609,[Cke22,Cke243],[]),3,Ckc15,[63],0),
  (109,(Ckl609,[Cke244],[]),2,Ckc15,[64],0)]
def CNC122_1 : List ND := [(111,(Ckl610,[],[]),1,Ckc15,[65],0),
  (113,(Ckl610,[Cke245],[]),0,Ckc15,[],0)]
def CNC122 : List (List ND) := [CNC122_0, CNC122_1]
theorem CKC122 : chkS prot SMsC SMC122 [] CNC122 = true := by decide +kernel
-- OneSided$Quarter.settleHour [(5, 5), (0, 3), (0, 23)]
def Ckl611 : AL := [some Cka50,some Cka80,some Cka84,none,none,none,none]
def Ckc16 : List Int := [0,0,0,0,0,0,0]
def Ckl612 : AL := [some Cka50,some Cka80,some Cka84,some Cka7,none,none,none]
def Ckl613 : AL := [some Cka50,some Cka80,some Cka84,some Cka7,some Cka7,none,none]
def Ckl614 : AL := [some Cka50,some Cka80,some Cka84,some Cka34,some Cka34,some Cka61,none]
def Ckc17 : List Int := [0,0,0,0,0,-44,0]
def Ckl615 : AL := [some Cka50,some Cka80,some Cka84,some Cka7,some Cka7,some Cka7,none]
def Cke246 : SE := (Cka61,(1,5,0,0,0))
def Ckl616 : AL := [some Cka50,some Cka80,some Cka84,some Cka34,some Cka34,some Cka62,none]
def Cke247 : SE := (Cka62,(1,5,0,0,0))
def Cke248 : SE := (Cka80,(1,1,0,0,0))
def Cke249 : SE := (Cka84,(1,2,0,0,0))
def Cke250 : SE := (Cka65,(2,6,0,0,0))
def Ckl617 : AL := [some Cka50,some Cka80,some Cka84,some Cka34,some Cka34,some Cka62,some Cka147]
def Ckl618 : AL := [some Cka50,some Cka80,some Cka84,some Cka7,some Cka7,some Cka7,some Cka147]
def Cke251 : SE := (Cka147,(1,6,0,0,0))
def Cka148 : AV := (0,1,8192,1)
def Cke252 : SE := (Cka148,pv0)
def Ckl619 : AL := [some Cka50,some Cka80,some Cka84,some Cka96,some Cka7,some Cka7,some Cka147]
def Cke253 : SE := (Cka134,pv0)
def Ckl620 : AL := [some Cka50,some Cka80,some Cka84,some Cka34,some Cka34,some Cka63,some Cka147]
def Cka149 : AV := (2,10,10,0)
def Cke254 : SE := (Cka149,(2,5,8,0,0))
def Cka150 : AV := (0,0,72,24)
def Cke255 : SE := (Cka150,pv0)
def Cka151 : AV := (0,0,95,1)
def Cke256 : SE := (Cka151,pv0)
def Cka152 : AV := (2,11,11,0)
def Cke257 : SE := (Cka152,(2,5,9,0,0))
def CNC123_0 : List ND := [(0,(Ckl611,[],[]),684,Ckc16,[1],0),
  (1,(Ckl611,[Cke7],[]),683,Ckc16,[2],0),
  (2,(Ckl612,[],[]),682,Ckc16,[3],0),
  (3,(Ckl612,[Cke7],[]),681,Ckc16,[4],0),
  (5,(Ckl613,[],[]),680,Ckc16,[5],0),
  (6,(Ckl613,[Cke7],[]),679,Ckc16,[6],0),
  (8,(Ckl614,[],[]),677,Ckc17,[8],0),
  (10,(Ckl615,[Cke216],[]),687,Ckc16,[9],0),
  (10,(Ckl614,[Cke246],[]),676,Ckc17,[10],0),
  (11,(Ckl615,[Cke53,Cke216],[]),686,Ckc16,[11],0),
  (11,(Ckl614,[Cke53,Cke246],[]),675,Ckc17,[12],0),
  (14,(Ckl615,[Cke76,Cke216],[]),685,Ckc16,[84,13],0),
  (14,(Ckl614,[Cke76,Cke246],[]),674,Ckc17,[84,13],0),
  (17,(Ckl616,[],Ckf31),673,Ckc17,[14],0),
  (18,(Ckl616,[Cke53],Ckf31),672,Ckc17,[16],0),
  (20,(Ckl615,[Cke216,Cke53],Ckf31),696,Ckc16,[17],0),
  (20,(Ckl616,[Cke247,Cke53],Ckf31),671,Ckc17,[18],0),
  (21,(Ckl615,[Cke248,Cke216,Cke53],Ckf31),695,Ckc16,[19],0),
  (21,(Ckl616,[Cke248,Cke247,Cke53],Ckf31),670,Ckc17,[20],0),
  (22,(Ckl615,[Cke249,Cke248,Cke216,Cke53],Ckf31),694,Ckc16,[21],0),
  (22,(Ckl616,[Cke249,Cke248,Cke247,Cke53],Ckf31),669,Ckc17,[22],0),
  (23,(Ckl615,[Cke53,Cke249,Cke248,Cke216,Cke53],Ckf31),693,Ckc16,[23],0),
  (23,(Ckl616,[Cke53,Cke249,Cke248,Cke247,Cke53],Ckf31),668,Ckc17,[24],0),
  (26,(Ckl615,[Cke77,Cke249,Cke248,Cke216,Cke53],Ckf31),692,Ckc16,[25],0),
  (26,(Ckl616,[Cke77,Cke249,Cke248,Cke247,Cke53],Ckf31),667,Ckc17,[26],0),
  (28,(Ckl615,[Cke216,Cke77,Cke249,Cke248,Cke216,Cke53],Ckf31),691,Ckc16,[27],0),
  (28,(Ckl616,[Cke247,Cke77,Cke249,Cke248,Cke247,Cke53],Ckf31),666,Ckc17,[28],0),
  (29,(Ckl615,[Cke250,Cke249,Cke248,Cke216,Cke53],Ckf31),690,Ckc16,[29],0),
  (29,(Ckl616,[Cke79,Cke249,Cke248,Cke247,Cke53],Ckf31),665,Ckc17,[30],0),
  (32,(Ckl615,[Cke97,Cke249,Cke248,Cke216,Cke53],Ckf31),689,Ckc16,[31],0),
  (32,(Ckl616,[Cke97,Cke249,Cke248,Cke247,Cke53],Ckf31),664,Ckc17,[32],0),
  (33,(Ckl615,[Cke7,Cke97,Cke249,Cke248,Cke216,Cke53],Ckf31),688,Ckc16,[33],122),
  (33,(Ckl616,[Cke7,Cke97,Cke249,Cke248,Cke247,Cke53],Ckf31),663,Ckc17,[33],122),
  (36,(Ckl616,[Cke244],Ckf31),662,Ckc17,[34],0),
  (38,(Ckl617,[],Ckf31),661,Ckc17,[36],0),
  (39,(Ckl618,[Cke74],Ckf31),707,Ckc16,[37],0),
  (39,(Ckl617,[Cke210],Ckf31),660,Ckc17,[38],0),
  (41,(Ckl618,[Cke251,Cke74],Ckf31),706,Ckc16,[39],0),
  (41,(Ckl617,[Cke251,Cke210],Ckf31),659,Ckc17,[40],0),
  (42,(Ckl618,[Cke6,Cke251,Cke74],Ckf31),705,Ckc16,[41],0),
  (42,(Ckl617,[Cke6,Cke251,Cke210],Ckf31),658,Ckc17,[42],0),
  (43,(Ckl618,[Cke242,Cke74],Ckf31),704,Ckc16,[51,43],0),
  (43,(Ckl617,[Cke242,Cke210],Ckf31),657,Ckc17,[52,44],0),
  (46,(Ckl618,[Cke74],Ckf31),703,Ckc16,[45],0),
  (46,(Ckl617,[Cke210],Ckf31),656,Ckc17,[46],0),
  (47,(Ckl618,[Cke6,Cke74],Ckf31),702,Ckc16,[47],0),
  (47,(Ckl617,[Cke6,Cke210],Ckf31),655,Ckc17,[48],0),
  (49,(Ckl618,[Cke216,Cke6,Cke74],Ckf31),701,Ckc16,[49],0),
  (49,(Ckl617,[Cke247,Cke6,Cke210],Ckf31),654,Ckc17,[50],0),
  (50,(Ckl618,[Cke6,Cke74],Ckf31),700,Ckc16,[54],0),
  (50,(Ckl617,[Cke252,Cke210],Ckf31),653,Ckc17,[56],0),
  (53,(Ckl618,[Cke74],Ckf31),698,Ckc16,[53],0),
  (53,(Ckl617,[Cke210],Ckf31),651,Ckc17,[55],0),
  (54,(Ckl618,[Cke7,Cke74],Ckf31),697,Ckc16,[57],0),
  (54,(Ckl618,[Cke6,Cke74],Ckf31),699,Ckc16,[57],0),
  (54,(Ckl617,[Cke7,Cke210],Ckf31),650,Ckc17,[57],0),
  (54,(Ckl617,[Cke252,Cke210],Ckf31),652,Ckc17,[57],0),
  (55,(Ckl617,[Cke184],Ckf31),649,Ckc17,[58],0),
  (56,(Ckl617,[],Ckf31),648,Ckc17,[60],0),
  (58,(Ckl619,[Cke166],Ckf31),718,Ckc16,[61],0),
  (58,(Ckl617,[Cke211],Ckf31),647,Ckc17,[62],0),
  (60,(Ckl619,[Cke251,Cke166],Ckf31),717,Ckc16,[63],0),
  (60,(Ckl617,[Cke251,Cke211],Ckf31),646,Ckc17,[64],0),
  (61,(Ckl619,[Cke22,Cke251,Cke166],Ckf31),716,Ckc16,[65],0)]
def CNC123_1 : List ND := [(61,(Ckl617,[Cke22,Cke251,Cke211],Ckf31),645,Ckc17,[66],0),
  (62,(Ckl619,[Cke253,Cke166],Ckf31),715,Ckc16,[75,67],0),
  (62,(Ckl617,[Cke253,Cke211],Ckf31),644,Ckc17,[76,68],0),
  (65,(Ckl619,[Cke166],Ckf31),712,Ckc16,[69],0),
  (65,(Ckl617,[Cke211],Ckf31),641,Ckc17,[70],0),
  (66,(Ckl619,[Cke6,Cke166],Ckf31),711,Ckc16,[71],0),
  (66,(Ckl617,[Cke6,Cke211],Ckf31),640,Ckc17,[72],0),
  (68,(Ckl619,[Cke216,Cke6,Cke166],Ckf31),710,Ckc16,[73],0),
  (68,(Ckl617,[Cke247,Cke6,Cke211],Ckf31),639,Ckc17,[74],0),
  (69,(Ckl619,[Cke6,Cke166],Ckf31),709,Ckc16,[78],0),
  (69,(Ckl617,[Cke252,Cke211],Ckf31),638,Ckc17,[80],0),
  (72,(Ckl619,[Cke166],Ckf31),714,Ckc16,[77],0),
  (72,(Ckl617,[Cke211],Ckf31),643,Ckc17,[79],0),
  (73,(Ckl619,[Cke7,Cke166],Ckf31),713,Ckc16,[81],0),
  (73,(Ckl619,[Cke6,Cke166],Ckf31),708,Ckc16,[81],0),
  (73,(Ckl617,[Cke7,Cke211],Ckf31),642,Ckc17,[81],0),
  (73,(Ckl617,[Cke252,Cke211],Ckf31),637,Ckc17,[81],0),
  (74,(Ckl617,[Cke184],Ckf31),636,Ckc17,[82],0),
  (76,(Ckl617,[],Ckf31),635,Ckc17,[83],0),
  (79,(Ckl620,[],Ckf31),678,Ckc17,[6],0),
  (82,(Ckl614,[],[]),18,Ckc16,[85],0),
  (83,(Ckl614,[Cke53],[]),17,Ckc16,[86],0),
  (86,(Ckl614,[Cke254],[]),16,Ckc16,[87],0),
  (87,(Ckl614,[Cke248,Cke254],[]),15,Ckc16,[88],0),
  (89,(Ckl614,[Cke144,Cke248,Cke254],[]),14,Ckc16,[89],0),
  (90,(Ckl614,[Cke255,Cke254],[]),13,Ckc16,[90],0),
  (91,(Ckl614,[Cke249,Cke255,Cke254],[]),12,Ckc16,[91],0),
  (92,(Ckl614,[Cke256,Cke254],[]),11,Ckc16,[92],0),
  (93,(Ckl614,[Cke210,Cke256,Cke254],[]),10,Ckc16,[93],0),
  (94,(Ckl614,[],[]),9,Ckc16,[94],0),
  (95,(Ckl614,[Cke53],[]),8,Ckc16,[95],0),
  (98,(Ckl614,[Cke257],[]),7,Ckc16,[96],0),
  (99,(Ckl614,[Cke248,Cke257],[]),6,Ckc16,[97],0),
  (101,(Ckl614,[Cke144,Cke248,Cke257],[]),5,Ckc16,[98],0),
  (102,(Ckl614,[Cke255,Cke257],[]),4,Ckc16,[99],0),
  (103,(Ckl614,[Cke249,Cke255,Cke257],[]),3,Ckc16,[100],0),
  (104,(Ckl614,[Cke256,Cke257],[]),2,Ckc16,[101],0),
  (106,(Ckl614,[Cke211,Cke256,Cke257],[]),1,Ckc16,[102],0),
  (107,(Ckl614,[],[]),0,Ckc16,[],0)]
def CNC123 : List (List ND) := [CNC123_0, CNC123_1]
theorem CKC123 : chkS prot SMsC SMC123 [] CNC123 = true := by decide +kernel
