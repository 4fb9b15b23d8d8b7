/-! LM, by program: certificates C 7 -/
-- OneSided$Plans.homeHour [(77, 77), (32, 32), (60, 60), (0, 5)]
def Ckl870 : AL := [some Cka182,some Cka121,some Cka157,some Cka67,none,none,none,none,none,none,none]
def Ckl871 : AL := [some Cka182,some Cka121,some Cka157,some Cka67,some Cka125,none,none,none,none,none,none]
def Ckl872 : AL := [some Cka182,some Cka121,some Cka157,some Cka67,some Cka125,some Cka181,none,none,none,none,none]
def Ckl873 : AL := [some Cka182,some Cka121,some Cka157,some Cka67,some Cka125,some Cka181,some Cka96,none,none,none,none]
def Ckl874 : AL := [some Cka182,some Cka121,some Cka157,some Cka67,some Cka125,some Cka181,some Cka6,none,none,none,none]
def Ckl875 : AL := [some Cka182,some Cka121,some Cka157,some Cka67,some Cka125,some Cka181,some Cka7,none,none,none,none]
def Ckl876 : AL := [some Cka182,some Cka121,some Cka157,some Cka67,some Cka125,some Cka181,some Cka96,some Cka183,none,none,none]
def Ckl877 : AL := [some Cka182,some Cka121,some Cka157,some Cka67,some Cka125,some Cka181,some Cka6,some Cka183,none,none,none]
def Ckl878 : AL := [some Cka182,some Cka121,some Cka157,some Cka67,some Cka125,some Cka181,some Cka7,some Cka183,none,none,none]
def Ckl879 : AL := [some Cka182,some Cka121,some Cka157,some Cka67,some Cka125,some Cka181,some Cka96,some Cka183,some Cka183,none,none]
def Ckl880 : AL := [some Cka182,some Cka121,some Cka157,some Cka67,some Cka125,some Cka181,some Cka96,some Cka147,some Cka147,some Cka163,none]
def Ckl881 : AL := [some Cka182,some Cka121,some Cka157,some Cka67,some Cka125,some Cka181,some Cka96,some Cka147,some Cka147,some Cka84,none]
def Ckl882 : AL := [some Cka182,some Cka121,some Cka157,some Cka67,some Cka125,some Cka181,some Cka96,some Cka147,some Cka147,some Cka84,some Cka147]
def Ckl883 : AL := [some Cka182,some Cka121,some Cka157,some Cka67,some Cka125,some Cka181,some Cka96,some Cka147,some Cka147,some Cka85,some Cka147]
def Ckl884 : AL := [some Cka182,some Cka121,some Cka157,some Cka67,some Cka125,some Cka181,some Cka96,some Cka147,some Cka147,some Cka164,none]
def CNC171_0 : List ND := [(0,(Ckl870,[],[]),1155,Ckc24,[1],0),
  (1,(Ckl870,[Cke200],[]),1154,Ckc24,[2],0),
  (4,(Ckl870,[Cke198],[]),1153,Ckc24,[3],0),
  (5,(Ckl870,[Cke84,Cke198],[]),1152,Ckc24,[4],0),
  (6,(Ckl870,[Cke199],[]),1151,Ckc24,[5],0),
  (8,(Ckl871,[],[]),1150,Ckc24,[6],0),
  (9,(Ckl871,[Cke6],[]),1149,Ckc24,[7],0),
  (11,(Ckl871,[Cke322,Cke6],[]),1148,Ckc24,[8],0),
  (14,(Ckl871,[Cke97,Cke6],[]),1147,Ckc24,[9],0),
  (15,(Ckl871,[Cke351],[]),1146,Ckc24,[10],0),
  (17,(Ckl872,[],[]),1145,Ckc24,[11],0),
  (18,(Ckl872,[Cke354],[]),1144,Ckc24,[12],0),
  (21,(Ckl872,[Cke306],[]),1143,Ckc24,[13],0),
  (22,(Ckl872,[Cke84,Cke306],[]),1142,Ckc24,[14],0),
  (23,(Ckl872,[Cke184],[]),1141,Ckc24,[15],0),
  (24,(Ckl872,[Cke6,Cke184],[]),1140,Ckc24,[16],0),
  (25,(Ckl872,[Cke242],[]),1139,Ckc24,[19,17],0),
  (28,(Ckl872,[],[]),1136,Ckc24,[18],0),
  (29,(Ckl872,[Cke6],[]),1135,Ckc24,[21],0),
  (32,(Ckl872,[],[]),1138,Ckc24,[20],0),
  (33,(Ckl872,[Cke7],[]),1137,Ckc24,[22],0),
  (33,(Ckl872,[Cke6],[]),1134,Ckc24,[22],0),
  (35,(Ckl873,[],[]),1133,Ckc24,[23],0),
  (37,(Ckl873,[Cke363],[]),1132,Ckc24,[26,24],0),
  (40,(Ckl874,[],[]),1124,Ckc24,[25],0),
  (41,(Ckl874,[Cke7],[]),1123,Ckc24,[32],0),
  (44,(Ckl875,[],[]),1131,Ckc24,[27],0),
  (45,(Ckl875,[Cke6],[]),1130,Ckc24,[28],0),
  (46,(Ckl875,[Cke354,Cke6],[]),1129,Ckc24,[29],0),
  (49,(Ckl875,[Cke277,Cke6],[]),1128,Ckc24,[30],0),
  (50,(Ckl875,[Cke84,Cke277,Cke6],[]),1127,Ckc24,[31],0),
  (51,(Ckl875,[Cke97,Cke6],[]),1126,Ckc24,[33],0),
  (52,(Ckl874,[Cke7],[]),1122,Ckc24,[34],0),
  (52,(Ckl875,[Cke351],[]),1125,Ckc24,[34],0),
  (54,(Ckl876,[],[]),1121,Ckc24,[35],0),
  (56,(Ckl876,[Cke363],[]),1120,Ckc24,[43,36],0),
  (59,(Ckl877,[],[]),1119,Ckc24,[37],0),
  (60,(Ckl877,[Cke6],[]),1118,Ckc24,[38],0),
  (61,(Ckl877,[Cke354,Cke6],[]),1117,Ckc24,[39],0),
  (64,(Ckl877,[Cke277,Cke6],[]),1116,Ckc24,[40],0),
  (65,(Ckl877,[Cke84,Cke277,Cke6],[]),1115,Ckc24,[41],0),
  (66,(Ckl877,[Cke97,Cke6],[]),1114,Ckc24,[42],0),
  (67,(Ckl877,[Cke351],[]),1113,Ckc24,[45],0),
  (70,(Ckl878,[],[]),1111,Ckc24,[44],0),
  (71,(Ckl878,[Cke7],[]),1110,Ckc24,[46],0),
  (71,(Ckl877,[Cke351],[]),1112,Ckc24,[46],0),
  (73,(Ckl879,[],[]),1109,Ckc24,[47],0),
  (75,(Ckl879,[Cke364],[]),1108,Ckc24,[48],0),
  (77,(Ckl879,[Cke322,Cke364],[]),1107,Ckc24,[49],0),
  (80,(Ckl879,[Cke97,Cke364],[]),1106,Ckc24,[50],0),
  (81,(Ckl879,[Cke365],[]),1105,Ckc24,[51],0),
  (82,(Ckl879,[Cke6,Cke365],[]),1104,Ckc24,[52],0),
  (83,(Ckl879,[Cke242],[]),1103,Ckc24,[56,53],0),
  (86,(Ckl879,[],[]),2,Ckc24,[54],0),
  (87,(Ckl879,[Cke354],[]),1,Ckc24,[55],0),
  (90,(Ckl879,[Cke316],[]),0,Ckc24,[],0),
  (91,(Ckl879,[],[]),1102,Ckc24,[57],0),
  (92,(Ckl879,[Cke354],[]),1101,Ckc24,[58],0),
  (93,(Ckl879,[Cke84,Cke354],[]),1100,Ckc24,[59],162),
  (96,(Ckl879,[Cke346],[]),1099,Ckc24,[60],0),
  (98,(Ckl880,[],[]),1097,Ckc25,[61],0),
  (100,(Ckl880,[Cke366],[]),1096,Ckc25,[62],0),
  (102,(Ckl880,[Cke144,Cke366],[]),1095,Ckc25,[104,63],0),
  (105,(Ckl881,[],[]),1094,Ckc25,[64],0)]
def CNC171_1 : List ND := [(106,(Ckl881,[Cke200],[]),1093,Ckc25,[65],0),
  (107,(Ckl881,[Cke354,Cke200],[]),1092,Ckc25,[66],0),
  (109,(Ckl881,[Cke322,Cke354,Cke200],[]),1091,Ckc25,[67],0),
  (112,(Ckl881,[Cke141,Cke354,Cke200],[]),1090,Ckc25,[68],0),
  (114,(Ckl881,[Cke367,Cke141,Cke354,Cke200],[]),1089,Ckc25,[69],0),
  (116,(Ckl881,[Cke368,Cke367,Cke141,Cke354,Cke200],[]),1088,Ckc25,[70],167),
  (119,(Ckl881,[Cke244],[]),1087,Ckc25,[71],0),
  (121,(Ckl882,[],[]),1086,Ckc25,[72],0),
  (123,(Ckl882,[Cke245],[]),1085,Ckc25,[73],0),
  (124,(Ckl882,[Cke200,Cke245],[]),1084,Ckc25,[74],0),
  (125,(Ckl882,[Cke354,Cke200,Cke245],[]),1083,Ckc25,[75],0),
  (127,(Ckl882,[Cke322,Cke354,Cke200,Cke245],[]),1082,Ckc25,[76],0),
  (130,(Ckl882,[Cke141,Cke354,Cke200,Cke245],[]),1081,Ckc25,[77],0),
  (132,(Ckl882,[Cke367,Cke141,Cke354,Cke200,Cke245],[]),1080,Ckc25,[78],0),
  (134,(Ckl882,[Cke245,Cke367,Cke141,Cke354,Cke200,Cke245],[]),1079,Ckc25,[79],167),
  (137,(Ckl882,[Cke244,Cke245],[]),1078,Ckc25,[80],0),
  (139,(Ckl882,[Cke369,Cke244,Cke245],[]),1077,Ckc25,[81],0),
  (141,(Ckl882,[Cke370,Cke369,Cke244,Cke245],[]),1076,Ckc25,[82],0),
  (142,(Ckl882,[Cke365,Cke244,Cke245],[]),1075,Ckc25,[83],0),
  (143,(Ckl882,[Cke244,Cke245],[]),1074,Ckc25,[84],0),
  (144,(Ckl882,[Cke244],[]),1073,Ckc25,[85],0),
  (146,(Ckl882,[],[]),1072,Ckc25,[86],0),
  (148,(Ckl882,[Cke368],[]),1071,Ckc25,[87],0),
  (150,(Ckl882,[Cke369,Cke368],[]),1070,Ckc25,[88],0),
  (152,(Ckl882,[Cke370,Cke369,Cke368],[]),1069,Ckc25,[89],0),
  (153,(Ckl882,[Cke51,Cke370,Cke369,Cke368],[]),1068,Ckc25,[90],0),
  (154,(Ckl882,[Cke184,Cke369,Cke368],[]),1067,Ckc25,[91],0),
  (155,(Ckl882,[Cke244,Cke368],[]),1066,Ckc25,[92],0),
  (156,(Ckl882,[Cke244],[]),1065,Ckc25,[93],0),
  (158,(Ckl882,[],[]),1064,Ckc25,[94],0),
  (160,(Ckl882,[Cke245],[]),1063,Ckc25,[95],0),
  (162,(Ckl882,[Cke322,Cke245],[]),1062,Ckc25,[96],0),
  (165,(Ckl882,[Cke97,Cke245],[]),1061,Ckc25,[97],0),
  (166,(Ckl882,[Cke244],[]),1060,Ckc25,[98],0),
  (167,(Ckl882,[Cke6,Cke244],[]),1059,Ckc25,[99],0),
  (168,(Ckl882,[Cke242],[]),1058,Ckc25,[102,100],0),
  (171,(Ckl882,[],[]),4,Ckc24,[101],0),
  (173,(Ckl882,[Cke367],[]),3,Ckc24,[],0),
  (174,(Ckl882,[],[]),1057,Ckc25,[103],0),
  (177,(Ckl883,[],[]),1098,Ckc25,[60],0),
  (180,(Ckl884,[],[]),6,Ckc24,[105],0),
  (181,(Ckl884,[Cke51],[]),5,Ckc24,[],0)]
def CNC171 : List (List ND) := [CNC171_0, CNC171_1]
theorem CKC171 : chkS prot SMsC SMC171 [] CNC171 = true := by decide +kernel
-- OneSided$Plans.lessenNeed [(77, 77), (26, 31), (0, 23), (0, 9), (0, 9)]
def Ckl885 : AL := [some Cka182,some Cka70,some Cka84,some Cka77,some Cka77,none,none,none,none]
def Ckl886 : AL := [some Cka182,some Cka70,some Cka84,some Cka77,some Cka77,some Cka134,none,none,none]
def Ckc26 : List Int := [0,0,0,0,0,-51,0,0,0]
def Ckl887 : AL := [some Cka182,some Cka70,some Cka84,some Cka77,some Cka77,some Cka7,none,none,none]
def Cke371 : SE := (Cka134,(1,5,0,0,0))
def Ckl888 : AL := [some Cka182,some Cka70,some Cka84,some Cka77,some Cka77,some Cka96,none,none,none]
def Cke372 : SE := (Cka70,(1,1,0,0,0))
def Ckl889 : AL := [some Cka182,some Cka70,some Cka84,some Cka77,some Cka77,some Cka96,some Cka96,none,none]
def Cka184 : AV := (0,20,20,0)
def Cke373 : SE := (Cka184,pv0)
def Cka185 : AV := (0,0,460,20)
def Cke374 : SE := (Cka185,pv0)
def Cka186 : AV := (0,0,18,2)
def Cke375 : SE := (Cka186,pv0)
def Cka187 : AV := (0,0,478,2)
def Cke376 : SE := (Cka187,pv0)
def Ckl890 : AL := [some Cka182,some Cka70,some Cka84,some Cka77,some Cka77,some Cka7,some Cka96,none,none]
def Cka188 : AV := (0,0,479,1)
def Cke377 : SE := (Cka188,pv0)
def Ckl891 : AL := [some Cka182,some Cka70,some Cka84,some Cka77,some Cka77,some Cka96,some Cka96,some Cka188,none]
def Cka189 : AV := (0,20,480,20)
def Cke378 : SE := (Cka189,pv0)
def Cka190 : AV := (0,20,498,2)
def Cke379 : SE := (Cka190,pv0)
def Cka191 : AV := (0,20,499,1)
def Cke380 : SE := (Cka191,pv0)
def Ckl892 : AL := [some Cka182,some Cka70,some Cka84,some Cka77,some Cka77,some Cka96,some Cka96,some Cka188,some Cka191]
def Cke381 : SE := (Cka182,(1,0,0,0,0))
def Cka192 : AV := (2,79,79,0)
def Cke382 : SE := (Cka192,(2,77,2,0,0))
def Cke383 : SE := (Cka188,(1,7,0,0,0))
def Cke384 : SE := (Cka191,(1,8,0,0,0))
def Ckl893 : AL := [some Cka182,some Cka70,some Cka84,some Cka77,some Cka77,some Cka19,some Cka96,some Cka188,some Cka191]
def Ckl894 : AL := [some Cka182,some Cka70,some Cka84,some Cka77,some Cka77,some Cka18,none,none,none]
def CNC172_0 : List ND := [(0,(Ckl885,[],[]),155,Ckc15,[1],0),
  (1,(Ckl885,[Cke7],[]),154,Ckc15,[2],0),
  (3,(Ckl886,[],[]),152,Ckc26,[4],0),
  (5,(Ckl887,[Cke216],[]),157,Ckc15,[5],0),
  (5,(Ckl886,[Cke371],[]),151,Ckc26,[6],0),
  (6,(Ckl887,[Cke22,Cke216],[]),156,Ckc15,[7],0),
  (6,(Ckl886,[Cke22,Cke371],[]),150,Ckc26,[57,7],0),
  (9,(Ckl888,[],[]),149,Ckc26,[8],0),
  (11,(Ckl888,[Cke355],[]),148,Ckc26,[9],0),
  (12,(Ckl888,[Cke372,Cke355],[]),147,Ckc26,[10],0),
  (15,(Ckl888,[Cke97,Cke355],[]),146,Ckc26,[13,11],0),
  (18,(Ckl888,[],[]),143,Ckc26,[12],0),
  (19,(Ckl888,[Cke6],[]),142,Ckc26,[15],0),
  (22,(Ckl888,[],[]),145,Ckc26,[16],0),
  (24,(Ckl887,[Cke216],[]),158,Ckc15,[17],0),
  (24,(Ckl888,[Cke6],[]),141,Ckc26,[17],0),
  (24,(Ckl888,[Cke158],[]),144,Ckc26,[17],0),
  (26,(Ckl889,[],[]),140,Ckc26,[18],0),
  (27,(Ckl889,[Cke249],[]),139,Ckc26,[19],0),
  (29,(Ckl889,[Cke373,Cke249],[]),138,Ckc26,[20],0),
  (30,(Ckl889,[Cke374],[]),137,Ckc26,[21],0),
  (31,(Ckl889,[Cke98,Cke374],[]),136,Ckc26,[22],0),
  (32,(Ckl889,[Cke22,Cke98,Cke374],[]),135,Ckc26,[23],0),
  (33,(Ckl889,[Cke375,Cke374],[]),134,Ckc26,[24],0),
  (34,(Ckl889,[Cke376],[]),133,Ckc26,[26],0),
  (36,(Ckl890,[Cke216,Cke376],[]),159,Ckc15,[27],0),
  (36,(Ckl889,[Cke158,Cke376],[]),132,Ckc26,[27],0),
  (37,(Ckl889,[Cke377],[]),131,Ckc26,[28],0),
  (39,(Ckl891,[],[]),130,Ckc26,[29],0),
  (40,(Ckl891,[Cke249],[]),129,Ckc26,[30],0),
  (41,(Ckl891,[Cke6,Cke249],[]),128,Ckc26,[31],0),
  (42,(Ckl891,[Cke123],[]),127,Ckc26,[32],0),
  (44,(Ckl891,[Cke373,Cke123],[]),126,Ckc26,[33],0),
  (45,(Ckl891,[Cke378],[]),125,Ckc26,[34],0),
  (47,(Ckl891,[Cke355,Cke378],[]),124,Ckc26,[35],0),
  (48,(Ckl891,[Cke22,Cke355,Cke378],[]),123,Ckc26,[36],0),
  (49,(Ckl891,[Cke375,Cke378],[]),122,Ckc26,[37],0),
  (50,(Ckl891,[Cke379],[]),121,Ckc26,[38],0),
  (52,(Ckl891,[Cke363,Cke379],[]),120,Ckc26,[39],0),
  (53,(Ckl891,[Cke380],[]),119,Ckc26,[40],0),
  (55,(Ckl892,[],[]),118,Ckc26,[41],0),
  (56,(Ckl892,[Cke381],[]),117,Ckc26,[42],0),
  (59,(Ckl892,[Cke382],[]),116,Ckc26,[43],0),
  (61,(Ckl892,[Cke383,Cke382],[]),115,Ckc26,[44],0),
  (62,(Ckl892,[Cke381,Cke383,Cke382],[]),114,Ckc26,[45],0),
  (65,(Ckl892,[Cke382,Cke383,Cke382],[]),113,Ckc26,[46],0),
  (67,(Ckl892,[Cke383,Cke382,Cke383,Cke382],[]),112,Ckc26,[47],0),
  (68,(Ckl892,[Cke184,Cke383,Cke382],[]),111,Ckc26,[48],0),
  (69,(Ckl892,[Cke381,Cke184,Cke383,Cke382],[]),110,Ckc26,[49],0),
  (72,(Ckl892,[Cke382,Cke184,Cke383,Cke382],[]),109,Ckc26,[50],0),
  (74,(Ckl892,[Cke384,Cke382,Cke184,Cke383,Cke382],[]),108,Ckc26,[51],0),
  (75,(Ckl892,[Cke184,Cke184,Cke383,Cke382],[]),107,Ckc26,[52],0),
  (76,(Ckl892,[Cke6,Cke184,Cke184,Cke383,Cke382],[]),106,Ckc26,[53],0),
  (77,(Ckl892,[Cke184,Cke184,Cke383,Cke382],[]),105,Ckc26,[54],0),
  (80,(Ckl892,[Cke184,Cke383,Cke382],[]),104,Ckc26,[55],0),
  (81,(Ckl892,[],[]),103,Ckc26,[56],0),
  (84,(Ckl893,[],[]),153,Ckc26,[2],0),
  (87,(Ckl894,[],[]),0,Ckc15,[],0)]
def CNC172 : List (List ND) := [CNC172_0]
theorem CKC172 : chkS prot SMsC SMC172 [] CNC172 = true := by decide +kernel
-- OneSided$Plans.fillNeed [(77, 77), (5, 5), (26, 31), (-2147483648, 2147483647), (0, 23), (0, 23)]
def Ckl895 : AL := [some Cka182,some Cka50,some Cka70,some Cka34,some Cka84,some Cka84,none,none,none,none,none,none]
def Ckc27 : List Int := [0,0,0,0,0,0,0,0,0,0,0,0]
def Cke385 : SE := (Cka84,(1,5,0,0,0))
def Ckl896 : AL := [some Cka182,some Cka50,some Cka70,some Cka34,some Cka84,some Cka84,some Cka189,none,none,none,none,none]
def Cka193 : AV := (0,0,20,1)
def Ckl897 : AL := [some Cka182,some Cka50,some Cka70,some Cka34,some Cka84,some Cka84,some Cka189,some Cka193,none,none,none,none]
def Ckc28 : List Int := [0,0,0,0,0,0,0,-23,0,0,0,0]
def Ckl898 : AL := [some Cka182,some Cka50,some Cka70,some Cka34,some Cka84,some Cka84,some Cka189,some Cka7,none,none,none,none]
def Cke386 : SE := (Cka7,(1,7,0,0,0))
def Cke387 : SE := (Cka193,(1,7,0,0,0))
def Cka194 : AV := (0,0,19,1)
def Ckl899 : AL := [some Cka182,some Cka50,some Cka70,some Cka34,some Cka84,some Cka84,some Cka189,some Cka194,none,none,none,none]
def Cke388 : SE := (Cka189,(1,6,0,0,0))
def Cke389 : SE := (Cka194,(1,7,0,0,0))
def Cka195 : AV := (0,1,19,2)
def Cke390 : SE := (Cka195,pv0)
def Cka196 : AV := (0,1,19,1)
def Ckl900 : AL := [some Cka182,some Cka50,some Cka70,some Cka34,some Cka84,some Cka84,some Cka189,some Cka196,none,none,none,none]
def Cka197 : AV := (0,1,20,1)
def Ckl901 : AL := [some Cka182,some Cka50,some Cka70,some Cka34,some Cka84,some Cka84,some Cka189,some Cka197,none,none,none,none]
def Ckl902 : AL := [some Cka182,some Cka50,some Cka70,some Cka34,some Cka84,some Cka84,some Cka189,some Cka184,none,none,none,none]
def Cka198 : AV := (0,-1,23,1)
def Ckl903 : AL := [some Cka182,some Cka50,some Cka70,some Cka34,some Cka84,some Cka84,some Cka189,some Cka198,none,none,none,none]
def Ckc29 : List Int := [0,0,0,0,0,0,0,39,0,0,0,0]
def Cka199 : AV := (0,-1,22,1)
def Ckl904 : AL := [some Cka182,some Cka50,some Cka70,some Cka34,some Cka84,some Cka84,some Cka189,some Cka199,some Cka34,some Cka34,some Cka63,some Cka65]
def Ckc30 : List Int := [0,0,0,0,0,0,0,620,0,0,0,0]
def Cke391 : SE := (Cka198,(1,7,0,0,0))
def Cke392 : SE := (Cka199,(1,7,0,0,0))
def Ckl905 : AL := [some Cka182,some Cka50,some Cka70,some Cka34,some Cka84,some Cka84,some Cka189,some Cka84,none,none,none,none]
def Cka200 : AV := (0,0,22,1)
def Ckl906 : AL := [some Cka182,some Cka50,some Cka70,some Cka34,some Cka200,some Cka84,some Cka189,some Cka200,some Cka34,some Cka34,some Cka63,some Cka65]
def Cke393 : SE := (Cka200,(1,7,0,0,0))
def Cka201 : AV := (0,1,23,1)
def Cke394 : SE := (Cka201,pv0)
def Cka202 : AV := (0,20,460,20)
def Cke395 : SE := (Cka202,pv0)
def Cka203 : AV := (0,0,440,20)
def Cke396 : SE := (Cka203,pv0)
def Ckl907 : AL := [some Cka182,some Cka50,some Cka70,some Cka34,some Cka84,some Cka84,some Cka189,some Cka84,some Cka34,none,none,none]
def Ckl908 : AL := [some Cka182,some Cka50,some Cka70,some Cka34,some Cka84,some Cka84,some Cka189,some Cka84,some Cka34,some Cka34,none,none]
def Ckl909 : AL := [some Cka182,some Cka50,some Cka70,some Cka34,some Cka84,some Cka84,some Cka189,some Cka84,some Cka34,some Cka34,some Cka7,none]
def Ckl910 : AL := [some Cka182,some Cka50,some Cka70,some Cka34,some Cka84,some Cka84,some Cka189,some Cka84,some Cka34,some Cka34,some Cka61,some Cka65]
def Ckc31 : List Int := [0,0,0,0,0,0,0,620,0,0,-39,0]
def Cke397 : SE := (Cka7,(1,10,0,0,0))
def Ckl911 : AL := [some Cka182,some Cka50,some Cka70,some Cka34,some Cka84,some Cka84,some Cka189,some Cka84,some Cka34,some Cka34,some Cka6,some Cka65]
def Cke398 : SE := (Cka6,(1,10,0,0,0))
def Cke399 : SE := (Cka61,(1,10,0,0,0))
def Ckl912 : AL := [some Cka182,some Cka50,some Cka70,some Cka34,some Cka84,some Cka84,some Cka189,some Cka84,some Cka34,some Cka34,some Cka62,some Cka65]
def Cke400 : SE := (Cka62,(1,10,0,0,0))
def Cke401 : SE := (Cka34,(1,8,0,0,0))
def Ckl913 : AL := [some Cka182,some Cka50,some Cka70,some Cka34,some Cka84,some Cka84,some Cka189,some Cka84,some Cka34,some Cka34,some Cka7,some Cka65]
def Cke402 : SE := (Cka65,(1,11,0,0,0))
def Cke403 : SE := (Cka34,(1,9,0,0,0))
def Ckl914 : AL := [some Cka182,some Cka50,some Cka70,some Cka34,some Cka84,some Cka84,some Cka189,some Cka84,some Cka34,some Cka34,some Cka63,some Cka65]
def Ckl915 : AL := [some Cka182,some Cka50,some Cka70,some Cka34,some Cka84,some Cka84,some Cka189,some Cka199,some Cka34,some Cka34,some Cka7,none]
def Ckl916 : AL := [some Cka182,some Cka50,some Cka70,some Cka34,some Cka84,some Cka84,some Cka189,some Cka199,none,none,none,none]
def CNC173_0 : List ND := [(0,(Ckl895,[],[]),16974,Ckc27,[1],0),
  (2,(Ckl895,[Cke385],[]),16973,Ckc27,[2],0),
  (3,(Ckl895,[Cke6,Cke385],[]),16972,Ckc27,[3],0),
  (4,(Ckl895,[Cke123],[]),16971,Ckc27,[4],0),
  (6,(Ckl895,[Cke373,Cke123],[]),16970,Ckc27,[5],0),
  (7,(Ckl895,[Cke378],[]),16969,Ckc27,[6],0),
  (9,(Ckl896,[],[]),16968,Ckc27,[7],0),
  (10,(Ckl896,[Cke7],[]),16967,Ckc27,[8],0),
  (12,(Ckl897,[],[]),16965,Ckc28,[10],0),
  (14,(Ckl898,[Cke386],[]),16976,Ckc27,[11],0),
  (14,(Ckl897,[Cke387],[]),16964,Ckc28,[12],0),
  (16,(Ckl898,[Cke373,Cke386],[]),16975,Ckc27,[13],0),
  (16,(Ckl897,[Cke373,Cke387],[]),16963,Ckc28,[41,13],0),
  (19,(Ckl899,[],[]),16962,Ckc28,[14],0),
  (20,(Ckl899,[Cke381],[]),16961,Ckc28,[15],0),
  (23,(Ckl899,[Cke382],[]),16960,Ckc28,[16],0),
  (25,(Ckl899,[Cke388,Cke382],[]),16959,Ckc28,[18],0),
  (27,(Ckl898,[Cke386,Cke388,Cke382],[]),16977,Ckc27,[19],0),
  (27,(Ckl899,[Cke389,Cke388,Cke382],[]),16958,Ckc28,[19],0),
  (28,(Ckl899,[Cke380,Cke382],[]),16957,Ckc28,[21],0),
  (30,(Ckl898,[Cke386,Cke378,Cke382],[]),16984,Ckc27,[22],0),
  (30,(Ckl899,[Cke389,Cke380,Cke382],[]),16956,Ckc28,[23],0),
  (31,(Ckl898,[Cke150,Cke386,Cke378,Cke382],[]),16983,Ckc27,[24],0),
  (31,(Ckl899,[Cke150,Cke389,Cke380,Cke382],[]),16955,Ckc28,[25],0),
  (34,(Ckl898,[Cke97,Cke386,Cke378,Cke382],[]),16982,Ckc27,[26],0),
  (34,(Ckl899,[Cke97,Cke389,Cke380,Cke382],[]),16954,Ckc28,[27],0),
  (35,(Ckl898,[Cke22,Cke97,Cke386,Cke378,Cke382],[]),16981,Ckc27,[28],0),
  (35,(Ckl899,[Cke22,Cke97,Cke389,Cke380,Cke382],[]),16953,Ckc28,[29],0),
  (36,(Ckl898,[Cke375,Cke386,Cke378,Cke382],[]),16980,Ckc27,[30],0),
  (36,(Ckl899,[Cke375,Cke389,Cke380,Cke382],[]),16952,Ckc28,[31],0),
  (37,(Ckl898,[Cke6,Cke375,Cke386,Cke378,Cke382],[]),16979,Ckc27,[32],0),
  (37,(Ckl899,[Cke6,Cke375,Cke389,Cke380,Cke382],[]),16951,Ckc28,[33],0),
  (38,(Ckl898,[Cke390,Cke386,Cke378,Cke382],[]),16978,Ckc27,[36],0),
  (38,(Ckl899,[Cke390,Cke389,Cke380,Cke382],[]),16950,Ckc28,[36,34],0),
  (41,(Ckl900,[Cke380,Cke382],[]),16949,Ckc28,[35],0),
  (42,(Ckl900,[Cke7,Cke380,Cke382],[]),16948,Ckc28,[37],0),
  (45,(Ckl899,[Cke380,Cke382],[]),16946,Ckc28,[38],0),
  (48,(Ckl900,[Cke7,Cke380,Cke382],[]),16947,Ckc28,[39],0),
  (48,(Ckl899,[Cke153,Cke380,Cke382],[]),16945,Ckc28,[39],0),
  (49,(Ckl899,[],[]),16944,Ckc28,[40],0),
  (52,(Ckl901,[],[]),16966,Ckc28,[8],0),
  (55,(Ckl902,[],[]),16483,Ckc27,[42],0),
  (57,(Ckl902,[Cke385],[]),16482,Ckc27,[43],0),
  (59,(Ckl903,[],[]),15583,Ckc29,[45],0),
  (59,(Ckl904,[],Ckf31),1239,Ckc30,[46],0),
  (61,(Ckl903,[Cke391],[]),15582,Ckc29,[47],0),
  (61,(Ckl904,[Cke392],Ckf31),1238,Ckc30,[48],0),
  (63,(Ckl903,[Cke312,Cke391],[]),15581,Ckc29,[167,49],0),
  (63,(Ckl904,[Cke312,Cke392],Ckf31),1237,Ckc30,[168,50],0),
  (66,(Ckl905,[],[]),15580,Ckc29,[51],0),
  (66,(Ckl906,[],Ckf31),1236,Ckc30,[52],0),
  (67,(Ckl905,[Cke381],[]),15579,Ckc29,[53],0),
  (67,(Ckl906,[Cke381],Ckf31),1235,Ckc30,[54],0),
  (70,(Ckl905,[Cke382],[]),15578,Ckc29,[55],0),
  (70,(Ckl906,[Cke382],Ckf31),1234,Ckc30,[56],0),
  (72,(Ckl905,[Cke358,Cke382],[]),15577,Ckc29,[57],0),
  (72,(Ckl906,[Cke393,Cke382],Ckf31),1233,Ckc30,[58],0),
  (73,(Ckl905,[Cke6,Cke358,Cke382],[]),15576,Ckc29,[59],0),
  (73,(Ckl906,[Cke6,Cke393,Cke382],Ckf31),1232,Ckc30,[60],0),
  (74,(Ckl905,[Cke123,Cke382],[]),15575,Ckc29,[61],0),
  (74,(Ckl906,[Cke394,Cke382],Ckf31),1231,Ckc30,[62],0),
  (76,(Ckl905,[Cke373,Cke123,Cke382],[]),15574,Ckc29,[63],0),
  (76,(Ckl906,[Cke373,Cke394,Cke382],Ckf31),1230,Ckc30,[64],0),
  (77,(Ckl905,[Cke378,Cke382],[]),15573,Ckc29,[65],0)]
def CNC173_1 : List ND := [(77,(Ckl906,[Cke395,Cke382],Ckf31),1229,Ckc30,[66],0),
  (78,(Ckl905,[Cke381,Cke378,Cke382],[]),15572,Ckc29,[67],0),
  (78,(Ckl906,[Cke381,Cke395,Cke382],Ckf31),1228,Ckc30,[68],0),
  (81,(Ckl905,[Cke382,Cke378,Cke382],[]),15571,Ckc29,[69],0),
  (81,(Ckl906,[Cke382,Cke395,Cke382],Ckf31),1227,Ckc30,[70],0),
  (83,(Ckl905,[Cke358,Cke382,Cke378,Cke382],[]),15570,Ckc29,[71],0),
  (83,(Ckl906,[Cke393,Cke382,Cke395,Cke382],Ckf31),1226,Ckc30,[72],0),
  (85,(Ckl905,[Cke373,Cke358,Cke382,Cke378,Cke382],[]),15569,Ckc29,[73],0),
  (85,(Ckl906,[Cke373,Cke393,Cke382,Cke395,Cke382],Ckf31),1225,Ckc30,[74],0),
  (86,(Ckl905,[Cke374,Cke382,Cke378,Cke382],[]),15568,Ckc29,[75],0),
  (86,(Ckl906,[Cke396,Cke382,Cke395,Cke382],Ckf31),1224,Ckc30,[76],0),
  (88,(Ckl905,[Cke373,Cke374,Cke382,Cke378,Cke382],[]),15567,Ckc29,[77],0),
  (88,(Ckl906,[Cke373,Cke396,Cke382,Cke395,Cke382],Ckf31),1223,Ckc30,[78],0),
  (91,(Ckl905,[],[]),15566,Ckc29,[79],0),
  (91,(Ckl906,[],Ckf31),1222,Ckc30,[80],0),
  (92,(Ckl905,[Cke86],[]),15565,Ckc29,[81],0),
  (92,(Ckl906,[Cke86],Ckf31),1221,Ckc30,[82],0),
  (93,(Ckl905,[Cke150,Cke86],[]),15564,Ckc29,[83],0),
  (93,(Ckl906,[Cke150,Cke86],Ckf31),1220,Ckc30,[84],0),
  (96,(Ckl905,[Cke141,Cke86],[]),15563,Ckc29,[85],0),
  (96,(Ckl906,[Cke141,Cke86],Ckf31),1219,Ckc30,[86],0),
  (98,(Ckl905,[Cke358,Cke141,Cke86],[]),15562,Ckc29,[87],0),
  (98,(Ckl906,[Cke393,Cke141,Cke86],Ckf31),1218,Ckc30,[88],0),
  (99,(Ckl905,[Cke210,Cke358,Cke141,Cke86],[]),15561,Ckc29,[89],142),
  (99,(Ckl906,[Cke210,Cke393,Cke141,Cke86],Ckf31),1217,Ckc30,[90],142),
  (102,(Ckl905,[Cke184],[]),15560,Ckc29,[91],0),
  (102,(Ckl906,[Cke184],Ckf31),1216,Ckc30,[92],0),
  (104,(Ckl907,[],[]),15559,Ckc29,[93],0),
  (104,(Ckl906,[],Ckf31),1215,Ckc30,[94],0),
  (105,(Ckl907,[Cke86],[]),15558,Ckc29,[95],0),
  (105,(Ckl906,[Cke86],Ckf31),1214,Ckc30,[96],0),
  (106,(Ckl907,[Cke150,Cke86],[]),15557,Ckc29,[97],0),
  (106,(Ckl906,[Cke150,Cke86],Ckf31),1213,Ckc30,[98],0),
  (109,(Ckl907,[Cke141,Cke86],[]),15556,Ckc29,[99],0),
  (109,(Ckl906,[Cke141,Cke86],Ckf31),1212,Ckc30,[100],0),
  (111,(Ckl907,[Cke358,Cke141,Cke86],[]),15555,Ckc29,[101],0),
  (111,(Ckl906,[Cke393,Cke141,Cke86],Ckf31),1211,Ckc30,[102],0),
  (112,(Ckl907,[Cke210,Cke358,Cke141,Cke86],[]),15554,Ckc29,[103],143),
  (112,(Ckl906,[Cke210,Cke393,Cke141,Cke86],Ckf31),1210,Ckc30,[104],143),
  (115,(Ckl907,[Cke184],[]),15553,Ckc29,[105],0),
  (115,(Ckl906,[Cke184],Ckf31),1209,Ckc30,[106],0),
  (117,(Ckl908,[],[]),15552,Ckc29,[107],0),
  (117,(Ckl906,[],Ckf31),1208,Ckc30,[108],0),
  (118,(Ckl908,[Cke7],[]),15551,Ckc29,[109],0),
  (118,(Ckl906,[Cke7],Ckf31),1207,Ckc30,[110],0),
  (120,(Ckl909,[],[]),15550,Ckc29,[111],0),
  (120,(Ckl910,[],Ckf31),1205,Ckc31,[113],0),
  (122,(Ckl909,[Cke397],[]),15549,Ckc29,[114],0),
  (122,(Ckl911,[Cke398],Ckf31),16987,Ckc27,[115],0),
  (122,(Ckl910,[Cke399],Ckf31),1204,Ckc31,[116],0),
  (123,(Ckl909,[Cke86,Cke397],[]),15548,Ckc29,[117],0),
  (123,(Ckl911,[Cke86,Cke398],Ckf31),16986,Ckc27,[118],0),
  (123,(Ckl910,[Cke86,Cke399],Ckf31),1203,Ckc31,[119],0),
  (126,(Ckl909,[Cke76,Cke397],[]),15547,Ckc29,[163,120],0),
  (126,(Ckl911,[Cke348,Cke398],Ckf31),16985,Ckc27,[164,121],0),
  (126,(Ckl910,[Cke348,Cke399],Ckf31),1202,Ckc31,[164,121],0),
  (129,(Ckl909,[],Ckf31),15505,Ckc27,[122],0),
  (129,(Ckl912,[],Ckf31),1201,Ckc31,[123],0),
  (130,(Ckl909,[Cke86],Ckf31),15504,Ckc27,[124],0),
  (130,(Ckl912,[Cke86],Ckf31),1200,Ckc31,[125],0),
  (133,(Ckl909,[Cke77],Ckf31),15503,Ckc27,[126],0),
  (133,(Ckl912,[Cke77],Ckf31),1199,Ckc31,[128],0),
  (135,(Ckl909,[Cke397,Cke77],Ckf31),15502,Ckc27,[129],0),
  (135,(Ckl911,[Cke398,Cke77],Ckf103),16988,Ckc27,[130],0)]
def CNC173_2 : List ND := [(135,(Ckl912,[Cke400,Cke77],Ckf31),1198,Ckc31,[130],0),
  (136,(Ckl909,[Cke250],Ckf31),15501,Ckc27,[131],0),
  (136,(Ckl912,[Cke79],Ckf31),1197,Ckc31,[131],0),
  (138,(Ckl912,[],Ckf31),1196,Ckc31,[132],0),
  (140,(Ckl912,[Cke401],Ckf31),1195,Ckc31,[134],0),
  (142,(Ckl913,[Cke397,Cke401],Ckf31),16989,Ckc27,[135],0),
  (142,(Ckl912,[Cke400,Cke401],Ckf31),1194,Ckc31,[135],0),
  (143,(Ckl912,[Cke184],Ckf31),1193,Ckc31,[136],0),
  (144,(Ckl912,[Cke6,Cke184],Ckf31),1192,Ckc31,[137],0),
  (145,(Ckl912,[Cke242],Ckf31),1191,Ckc31,[146,138],0),
  (148,(Ckl912,[],Ckf31),1190,Ckc31,[139],0),
  (149,(Ckl912,[Cke381],Ckf31),1189,Ckc31,[140],0),
  (150,(Ckl912,[Cke150,Cke381],Ckf31),1188,Ckc31,[141],0),
  (152,(Ckl912,[Cke358,Cke150,Cke381],Ckf31),1187,Ckc31,[142],0),
  (154,(Ckl912,[Cke402,Cke358,Cke150,Cke381],Ckf31),1186,Ckc31,[143],0),
  (157,(Ckl912,[Cke97,Cke358,Cke150,Cke381],Ckf31),1185,Ckc31,[144],0),
  (159,(Ckl912,[Cke402,Cke97,Cke358,Cke150,Cke381],Ckf31),1184,Ckc31,[145],0),
  (162,(Ckl912,[Cke97,Cke97,Cke358,Cke150,Cke381],Ckf31),1183,Ckc31,[146],172),
  (165,(Ckl912,[],Ckf31),1182,Ckc31,[147],0),
  (167,(Ckl912,[Cke403],Ckf31),1181,Ckc31,[149],0),
  (169,(Ckl913,[Cke397,Cke403],Ckf31),16990,Ckc27,[150],0),
  (169,(Ckl912,[Cke400,Cke403],Ckf31),1180,Ckc31,[150],0),
  (170,(Ckl912,[Cke184],Ckf31),1179,Ckc31,[151],0),
  (171,(Ckl912,[Cke6,Cke184],Ckf31),1178,Ckc31,[152],0),
  (172,(Ckl912,[Cke242],Ckf31),1177,Ckc31,[161,153],0),
  (175,(Ckl912,[],Ckf31),1176,Ckc31,[154],0),
  (176,(Ckl912,[Cke381],Ckf31),1175,Ckc31,[155],0),
  (177,(Ckl912,[Cke150,Cke381],Ckf31),1174,Ckc31,[156],0),
  (179,(Ckl912,[Cke358,Cke150,Cke381],Ckf31),1173,Ckc31,[157],0),
  (181,(Ckl912,[Cke402,Cke358,Cke150,Cke381],Ckf31),1172,Ckc31,[158],0),
  (184,(Ckl912,[Cke97,Cke358,Cke150,Cke381],Ckf31),1171,Ckc31,[159],0),
  (186,(Ckl912,[Cke402,Cke97,Cke358,Cke150,Cke381],Ckf31),1170,Ckc31,[160],0),
  (189,(Ckl912,[Cke97,Cke97,Cke358,Cke150,Cke381],Ckf31),1169,Ckc31,[161],172),
  (192,(Ckl912,[],Ckf31),1168,Ckc31,[162],0),
  (195,(Ckl914,[],Ckf31),1206,Ckc31,[110],0),
  (198,(Ckl909,[],Ckf104),15546,Ckc29,[165],0),
  (198,(Ckl914,[],Ckf31),621,Ckc30,[166],0),
  (201,(Ckl915,[],Ckf104),15584,Ckc29,[43],0),
  (201,(Ckl904,[],Ckf31),1240,Ckc30,[44],0),
  (204,(Ckl916,[],[]),15506,Ckc27,[],0),
  (204,(Ckl904,[],Ckf31),0,Ckc27,[],0)]
def CNC173 : List (List ND) := [CNC173_0, CNC173_1, CNC173_2]
theorem CKC173 : chkS prot SMsC SMC173 [] CNC173 = true := by decide +kernel
-- OneSided$Plans.hourThrough [(77, 77), (5, 5), (0, 3), (-2147483648, 2147483647), (0, 0), (0, 23)]
def Ckl917 : AL := [some Cka182,some Cka50,some Cka80,some Cka34,some Cka7,some Cka84,none]
def Ckf107 : FA := [(77,3,Cka143)]
def Cke404 : SE := (Cka143,(2,77,3,0,0))
def Ckl918 : AL := [some Cka182,some Cka50,some Cka80,some Cka34,some Cka7,some Cka84,some Cka143]
def Ckc32 : List Int := [0,0,0,0,0,0,-17]
def Cke405 : SE := (Cka143,(1,6,0,0,0))
def Ckl919 : AL := [some Cka182,some Cka50,some Cka80,some Cka34,some Cka7,some Cka84,some Cka84]
def Cke406 : SE := (Cka194,(2,77,4,0,0))
def Cke407 : SE := (Cka84,(1,6,0,0,0))
def Ckl920 : AL := [some Cka182,some Cka50,some Cka80,some Cka34,some Cka7,some Cka84,some Cka85]
def CNC174_0 : List ND := [(0,(Ckl917,[],Ckf107),431,Ckc16,[1],0),
  (1,(Ckl917,[Cke381],Ckf107),430,Ckc16,[2],0),
  (4,(Ckl917,[Cke404],Ckf107),429,Ckc16,[3],0),
  (6,(Ckl918,[],Ckf107),427,Ckc32,[4],0),
  (8,(Ckl918,[Cke405],Ckf107),426,Ckc32,[5],0),
  (10,(Ckl918,[Cke385,Cke405],Ckf107),425,Ckc32,[22,6],0),
  (13,(Ckl919,[],Ckf107),424,Ckc32,[7],0),
  (14,(Ckl919,[Cke86],Ckf107),423,Ckc32,[8],0),
  (16,(Ckl919,[Cke166,Cke86],Ckf107),422,Ckc32,[9],0),
  (17,(Ckl919,[Cke108,Cke166,Cke86],Ckf107),421,Ckc32,[10],0),
  (18,(Ckl919,[Cke381,Cke108,Cke166,Cke86],Ckf107),420,Ckc32,[11],0),
  (21,(Ckl919,[Cke406,Cke108,Cke166,Cke86],Ckf107),419,Ckc32,[12],0),
  (22,(Ckl919,[Cke22,Cke406,Cke108,Cke166,Cke86],Ckf107),418,Ckc32,[13],0),
  (23,(Ckl919,[Cke97,Cke108,Cke166,Cke86],Ckf107),417,Ckc32,[14],0),
  (25,(Ckl919,[Cke407,Cke97,Cke108,Cke166,Cke86],Ckf107),416,Ckc32,[15],0),
  (26,(Ckl919,[Cke210,Cke407,Cke97,Cke108,Cke166,Cke86],Ckf107),415,Ckc32,[16],144),
  (29,(Ckl919,[Cke313],Ckf107),414,Ckc32,[17],0),
  (30,(Ckl919,[Cke51,Cke313],Ckf107),413,Ckc32,[20,18],0),
  (33,(Ckl919,[],Ckf107),3,Ckc16,[19],0),
  (35,(Ckl919,[Cke407],Ckf107),2,Ckc16,[],0),
  (36,(Ckl919,[],Ckf107),412,Ckc32,[21],0),
  (39,(Ckl920,[],Ckf107),428,Ckc32,[3],0),
  (42,(Ckl920,[],Ckf107),1,Ckc16,[23],0),
  (43,(Ckl920,[Cke51],Ckf107),0,Ckc16,[],0)]
def CNC174 : List (List ND) := [CNC174_0]
theorem CKC174 : chkS prot SMsC SMC174 [] CNC174 = true := by decide +kernel
-- OneSided$Plans.stateThrough [(77, 77), (5, 5), (0, 9), (0, 0)]
def Ckl921 : AL := [some Cka182,some Cka50,some Cka77,some Cka7,none,none]
def Ckl922 : AL := [some Cka182,some Cka50,some Cka77,some Cka7,some Cka65,none]
def Cke408 : SE := (Cka65,(1,4,0,0,0))
def Ckl923 : AL := [some Cka182,some Cka50,some Cka77,some Cka7,some Cka65,some Cka77]
def Cke409 : SE := (Cka194,pv0)
def CNC175_0 : List ND := [(0,(Ckl921,[],[]),32,Ckc9,[1],0),
  (1,(Ckl921,[Cke86],[]),31,Ckc9,[2],0),
  (4,(Ckl921,[Cke77],[]),30,Ckc9,[3],0),
  (5,(Ckl921,[Cke74,Cke77],[]),29,Ckc9,[4],0),
  (6,(Ckl921,[Cke250],[]),28,Ckc9,[5],0),
  (8,(Ckl922,[],[]),27,Ckc9,[6],0),
  (10,(Ckl922,[Cke408],[]),26,Ckc9,[7],0),
  (13,(Ckl922,[Cke97],[]),25,Ckc9,[8],0),
  (14,(Ckl922,[Cke381,Cke97],[]),24,Ckc9,[9],0),
  (17,(Ckl922,[Cke406,Cke97],[]),23,Ckc9,[10],0),
  (18,(Ckl922,[Cke22,Cke406,Cke97],[]),22,Ckc9,[11],0),
  (19,(Ckl922,[Cke97,Cke97],[]),21,Ckc9,[15,12],0),
  (22,(Ckl922,[],[]),18,Ckc9,[13],0),
  (24,(Ckl922,[Cke408],[]),17,Ckc9,[14],0),
  (27,(Ckl922,[Cke97],[]),16,Ckc9,[17],0),
  (30,(Ckl922,[],[]),20,Ckc9,[16],0),
  (32,(Ckl922,[Cke408],[]),19,Ckc9,[17],0),
  (35,(Ckl922,[Cke97],[]),15,Ckc9,[18],0),
  (37,(Ckl923,[],[]),14,Ckc9,[19],0),
  (39,(Ckl923,[Cke236],[]),13,Ckc9,[20],0),
  (40,(Ckl923,[Cke22,Cke236],[]),12,Ckc9,[21],0),
  (41,(Ckl923,[Cke375],[]),11,Ckc9,[22],0),
  (43,(Ckl923,[Cke236,Cke375],[]),10,Ckc9,[23],0),
  (44,(Ckl923,[Cke361,Cke236,Cke375],[]),9,Ckc9,[26,24],0),
  (47,(Ckl923,[Cke375],[]),3,Ckc9,[25],0),
  (48,(Ckl923,[Cke6,Cke375],[]),2,Ckc9,[30],0),
  (51,(Ckl923,[Cke375],[]),8,Ckc9,[27],0),
  (52,(Ckl923,[Cke381,Cke375],[]),7,Ckc9,[28],0),
  (55,(Ckl923,[Cke406,Cke375],[]),6,Ckc9,[29],0),
  (56,(Ckl923,[Cke22,Cke406,Cke375],[]),5,Ckc9,[31],0),
  (57,(Ckl923,[Cke6,Cke375],[]),1,Ckc9,[32],0),
  (57,(Ckl923,[Cke242,Cke375],[]),4,Ckc9,[32],0),
  (58,(Ckl923,[Cke409],[]),0,Ckc9,[],0)]
def CNC175 : List (List ND) := [CNC175_0]
theorem CKC175 : chkS prot SMsC SMC175 [] CNC175 = true := by decide +kernel
-- OneSided$Plans.hourThrough [(77, 77), (5, 5), (0, 3), (-2147483648, 2147483647), (0, 13), (0, 23)]
def Ckl924 : AL := [some Cka182,some Cka50,some Cka80,some Cka34,some Cka62,some Cka84,none]
def Ckl925 : AL := [some Cka182,some Cka50,some Cka80,some Cka34,some Cka62,some Cka84,some Cka143]
def Ckl926 : AL := [some Cka182,some Cka50,some Cka80,some Cka34,some Cka62,some Cka84,some Cka84]
def Cke410 : SE := (Cka62,(1,4,0,0,0))
def Ckl927 : AL := [some Cka182,some Cka50,some Cka80,some Cka34,some Cka62,some Cka84,some Cka85]
def CNC176_0 : List ND := [(0,(Ckl924,[],Ckf107),431,Ckc16,[1],0),
  (1,(Ckl924,[Cke381],Ckf107),430,Ckc16,[2],0),
  (4,(Ckl924,[Cke404],Ckf107),429,Ckc16,[3],0),
  (6,(Ckl925,[],Ckf107),427,Ckc32,[4],0),
  (8,(Ckl925,[Cke405],Ckf107),426,Ckc32,[5],0),
  (10,(Ckl925,[Cke385,Cke405],Ckf107),425,Ckc32,[22,6],0),
  (13,(Ckl926,[],Ckf107),424,Ckc32,[7],0),
  (14,(Ckl926,[Cke86],Ckf107),423,Ckc32,[8],0),
  (16,(Ckl926,[Cke410,Cke86],Ckf107),422,Ckc32,[9],0),
  (17,(Ckl926,[Cke108,Cke410,Cke86],Ckf107),421,Ckc32,[10],0),
  (18,(Ckl926,[Cke381,Cke108,Cke410,Cke86],Ckf107),420,Ckc32,[11],0),
  (21,(Ckl926,[Cke406,Cke108,Cke410,Cke86],Ckf107),419,Ckc32,[12],0),
  (22,(Ckl926,[Cke22,Cke406,Cke108,Cke410,Cke86],Ckf107),418,Ckc32,[13],0),
  (23,(Ckl926,[Cke97,Cke108,Cke410,Cke86],Ckf107),417,Ckc32,[14],0),
  (25,(Ckl926,[Cke407,Cke97,Cke108,Cke410,Cke86],Ckf107),416,Ckc32,[15],0),
  (26,(Ckl926,[Cke210,Cke407,Cke97,Cke108,Cke410,Cke86],Ckf107),415,Ckc32,[16],144),
  (29,(Ckl926,[Cke313],Ckf107),414,Ckc32,[17],0),
  (30,(Ckl926,[Cke51,Cke313],Ckf107),413,Ckc32,[20,18],0),
  (33,(Ckl926,[],Ckf107),3,Ckc16,[19],0),
  (35,(Ckl926,[Cke407],Ckf107),2,Ckc16,[],0),
  (36,(Ckl926,[],Ckf107),412,Ckc32,[21],0),
  (39,(Ckl927,[],Ckf107),428,Ckc32,[3],0),
  (42,(Ckl927,[],Ckf107),1,Ckc16,[23],0),
  (43,(Ckl927,[Cke51],Ckf107),0,Ckc16,[],0)]
def CNC176 : List (List ND) := [CNC176_0]
theorem CKC176 : chkS prot SMsC SMC176 [] CNC176 = true := by decide +kernel
-- OneSided$Plans.stateThrough [(77, 77), (5, 5), (0, 9), (0, 13)]
def Ckl928 : AL := [some Cka182,some Cka50,some Cka77,some Cka62,none,none]
def Ckl929 : AL := [some Cka182,some Cka50,some Cka77,some Cka62,some Cka65,none]
def Ckl930 : AL := [some Cka182,some Cka50,some Cka77,some Cka62,some Cka65,some Cka77]
def CNC177_0 : List ND := [(0,(Ckl928,[],[]),32,Ckc9,[1],0),
  (1,(Ckl928,[Cke86],[]),31,Ckc9,[2],0),
  (4,(Ckl928,[Cke77],[]),30,Ckc9,[3],0),
  (5,(Ckl928,[Cke78,Cke77],[]),29,Ckc9,[4],0),
  (6,(Ckl928,[Cke79],[]),28,Ckc9,[5],0),
  (8,(Ckl929,[],[]),27,Ckc9,[6],0),
  (10,(Ckl929,[Cke408],[]),26,Ckc9,[7],0),
  (13,(Ckl929,[Cke97],[]),25,Ckc9,[8],0),
  (14,(Ckl929,[Cke381,Cke97],[]),24,Ckc9,[9],0),
  (17,(Ckl929,[Cke406,Cke97],[]),23,Ckc9,[10],0),
  (18,(Ckl929,[Cke22,Cke406,Cke97],[]),22,Ckc9,[11],0),
  (19,(Ckl929,[Cke97,Cke97],[]),21,Ckc9,[15,12],0),
  (22,(Ckl929,[],[]),18,Ckc9,[13],0),
  (24,(Ckl929,[Cke408],[]),17,Ckc9,[14],0),
  (27,(Ckl929,[Cke97],[]),16,Ckc9,[17],0),
  (30,(Ckl929,[],[]),20,Ckc9,[16],0),
  (32,(Ckl929,[Cke408],[]),19,Ckc9,[17],0),
  (35,(Ckl929,[Cke97],[]),15,Ckc9,[18],0),
  (37,(Ckl930,[],[]),14,Ckc9,[19],0),
  (39,(Ckl930,[Cke236],[]),13,Ckc9,[20],0),
  (40,(Ckl930,[Cke22,Cke236],[]),12,Ckc9,[21],0),
  (41,(Ckl930,[Cke375],[]),11,Ckc9,[22],0),
  (43,(Ckl930,[Cke236,Cke375],[]),10,Ckc9,[23],0),
  (44,(Ckl930,[Cke361,Cke236,Cke375],[]),9,Ckc9,[26,24],0),
  (47,(Ckl930,[Cke375],[]),3,Ckc9,[25],0),
  (48,(Ckl930,[Cke6,Cke375],[]),2,Ckc9,[30],0),
  (51,(Ckl930,[Cke375],[]),8,Ckc9,[27],0),
  (52,(Ckl930,[Cke381,Cke375],[]),7,Ckc9,[28],0),
  (55,(Ckl930,[Cke406,Cke375],[]),6,Ckc9,[29],0),
  (56,(Ckl930,[Cke22,Cke406,Cke375],[]),5,Ckc9,[31],0),
  (57,(Ckl930,[Cke6,Cke375],[]),1,Ckc9,[32],0),
  (57,(Ckl930,[Cke242,Cke375],[]),4,Ckc9,[32],0),
  (58,(Ckl930,[Cke409],[]),0,Ckc9,[],0)]
def CNC177 : List (List ND) := [CNC177_0]
theorem CKC177 : chkS prot SMsC SMC177 [] CNC177 = true := by decide +kernel
-- OneSided$Plans.nextDoor [(77, 77), (5, 5), (26, 31), (-2147483648, 2147483647), (0, 23)]
def Ckl931 : AL := [some Cka182,some Cka50,some Cka70,some Cka34,some Cka84,none,none,none]
def Ckl932 : AL := [some Cka182,some Cka50,some Cka70,some Cka34,some Cka84,some Cka61,none,none]
def Ckc33 : List Int := [0,0,0,0,0,-49,0,0]
def Ckl933 : AL := [some Cka182,some Cka50,some Cka70,some Cka34,some Cka84,some Cka7,none,none]
def Ckl934 : AL := [some Cka182,some Cka50,some Cka70,some Cka34,some Cka84,some Cka62,none,none]
def Ckf108 : FA := [(5,2,Cka63),(77,3,Cka143)]
def Cke411 : SE := (Cka198,pv0)
def Ckl935 : AL := [some Cka182,some Cka50,some Cka70,some Cka34,some Cka84,some Cka62,some Cka198,none]
def Cke412 : SE := (Cka198,(1,6,0,0,0))
def Ckl936 : AL := [some Cka182,some Cka50,some Cka70,some Cka34,some Cka84,some Cka62,some Cka49,none]
def Ckl937 : AL := [some Cka182,some Cka50,some Cka70,some Cka34,some Cka84,some Cka62,some Cka84,none]
def Ckl938 : AL := [some Cka182,some Cka50,some Cka70,some Cka34,some Cka84,some Cka7,some Cka84,none]
def Ckl939 : AL := [some Cka182,some Cka50,some Cka70,some Cka34,some Cka84,some Cka62,some Cka84,some Cka191]
def Cke413 : SE := (Cka191,(1,7,0,0,0))
def Cka204 : AV := (0,0,480,20)
def Cke414 : SE := (Cka204,pv0)
def Cka205 : AV := (0,0,499,1)
def Cke415 : SE := (Cka205,pv0)
def Ckl940 : AL := [some Cka182,some Cka50,some Cka70,some Cka34,some Cka84,some Cka7,some Cka84,some Cka191]
def Ckl941 : AL := [some Cka182,some Cka50,some Cka70,some Cka34,some Cka84,some Cka63,some Cka198,none]
def CNC178_0 : List ND := [(0,(Ckl931,[],Ckf107),740,Ckc13,[1],0),
  (1,(Ckl931,[Cke7],Ckf107),739,Ckc13,[2],0),
  (3,(Ckl932,[],Ckf107),737,Ckc33,[4],0),
  (5,(Ckl933,[Cke216],Ckf107),743,Ckc13,[5],0),
  (5,(Ckl932,[Cke246],Ckf107),736,Ckc33,[6],0),
  (6,(Ckl933,[Cke86,Cke216],Ckf107),742,Ckc13,[7],0),
  (6,(Ckl932,[Cke86,Cke246],Ckf107),735,Ckc33,[8],0),
  (9,(Ckl933,[Cke76,Cke216],Ckf107),741,Ckc13,[60,9],0),
  (9,(Ckl932,[Cke76,Cke246],Ckf107),734,Ckc33,[60,9],0),
  (12,(Ckl934,[],Ckf108),733,Ckc33,[10],0),
  (13,(Ckl934,[Cke381],Ckf108),732,Ckc33,[11],0),
  (14,(Ckl934,[Cke86,Cke381],Ckf108),731,Ckc33,[12],0),
  (15,(Ckl934,[Cke150,Cke86,Cke381],Ckf108),730,Ckc33,[13],0),
  (18,(Ckl934,[Cke141,Cke86,Cke381],Ckf108),729,Ckc33,[14],0),
  (19,(Ckl934,[Cke210,Cke141,Cke86,Cke381],Ckf108),728,Ckc33,[16],0),
  (21,(Ckl933,[Cke216,Cke210,Cke141,Cke86,Cke381],Ckf108),745,Ckc13,[17],0),
  (21,(Ckl934,[Cke247,Cke210,Cke141,Cke86,Cke381],Ckf108),727,Ckc33,[18],0),
  (23,(Ckl933,[Cke312,Cke216,Cke210,Cke141,Cke86,Cke381],Ckf108),744,Ckc13,[19],174),
  (23,(Ckl934,[Cke312,Cke247,Cke210,Cke141,Cke86,Cke381],Ckf108),726,Ckc33,[19],176),
  (26,(Ckl934,[Cke411],Ckf108),725,Ckc33,[20],0),
  (28,(Ckl935,[],Ckf108),724,Ckc33,[21],0),
  (30,(Ckl935,[Cke412],Ckf108),723,Ckc33,[22],0),
  (31,(Ckl935,[Cke51,Cke412],Ckf108),722,Ckc33,[24,23],0),
  (34,(Ckl936,[],Ckf108),691,Ckc33,[58],0),
  (37,(Ckl937,[],Ckf108),721,Ckc33,[25],0),
  (39,(Ckl937,[Cke407],Ckf108),720,Ckc33,[26],0),
  (40,(Ckl937,[Cke6,Cke407],Ckf108),719,Ckc33,[27],0),
  (41,(Ckl937,[Cke123],Ckf108),718,Ckc33,[28],0),
  (43,(Ckl937,[Cke373,Cke123],Ckf108),717,Ckc33,[29],0),
  (44,(Ckl937,[Cke378],Ckf108),716,Ckc33,[30],0),
  (45,(Ckl937,[Cke381,Cke378],Ckf108),715,Ckc33,[31],0),
  (46,(Ckl937,[Cke86,Cke381,Cke378],Ckf108),714,Ckc33,[32],0),
  (47,(Ckl937,[Cke150,Cke86,Cke381,Cke378],Ckf108),713,Ckc33,[33],0),
  (50,(Ckl937,[Cke97,Cke86,Cke381,Cke378],Ckf108),712,Ckc33,[35],0),
  (52,(Ckl938,[Cke216,Cke97,Cke86,Cke381,Cke378],Ckf108),746,Ckc13,[36],175),
  (52,(Ckl937,[Cke247,Cke97,Cke86,Cke381,Cke378],Ckf108),711,Ckc33,[36],177),
  (55,(Ckl937,[Cke409,Cke378],Ckf108),710,Ckc33,[37],0),
  (56,(Ckl937,[Cke380],Ckf108),709,Ckc33,[38],0),
  (58,(Ckl939,[],Ckf108),708,Ckc33,[39],0),
  (59,(Ckl939,[Cke381],Ckf108),707,Ckc33,[40],0),
  (62,(Ckl939,[Cke382],Ckf108),706,Ckc33,[41],0),
  (64,(Ckl939,[Cke413,Cke382],Ckf108),705,Ckc33,[42],0),
  (65,(Ckl939,[Cke184],Ckf108),704,Ckc33,[43],0),
  (66,(Ckl939,[Cke381,Cke184],Ckf108),703,Ckc33,[44],0),
  (69,(Ckl939,[Cke382,Cke184],Ckf108),702,Ckc33,[45],0),
  (70,(Ckl939,[Cke381,Cke382,Cke184],Ckf108),701,Ckc33,[46],0),
  (73,(Ckl939,[Cke404,Cke382,Cke184],Ckf108),700,Ckc33,[47],0),
  (75,(Ckl939,[Cke373,Cke404,Cke382,Cke184],Ckf108),699,Ckc33,[48],0),
  (76,(Ckl939,[Cke414,Cke382,Cke184],Ckf108),698,Ckc33,[49],0),
  (77,(Ckl939,[Cke381,Cke414,Cke382,Cke184],Ckf108),697,Ckc33,[50],0),
  (80,(Ckl939,[Cke406,Cke414,Cke382,Cke184],Ckf108),696,Ckc33,[51],0),
  (81,(Ckl939,[Cke415,Cke382,Cke184],Ckf108),695,Ckc33,[52],0),
  (82,(Ckl939,[Cke184,Cke184],Ckf108),694,Ckc33,[53],0),
  (83,(Ckl939,[Cke6,Cke184,Cke184],Ckf108),693,Ckc33,[54],0),
  (84,(Ckl939,[Cke184,Cke184],Ckf108),692,Ckc33,[58,55],0),
  (87,(Ckl939,[],Ckf108),1,Ckc13,[57],0),
  (89,(Ckl940,[Cke216],Ckf108),747,Ckc13,[],0),
  (89,(Ckl939,[Cke247],Ckf108),0,Ckc13,[],0),
  (90,(Ckl935,[],Ckf108),690,Ckc33,[59],0),
  (93,(Ckl941,[],Ckf108),738,Ckc33,[2],0),
  (96,(Ckl932,[],Ckf107),3,Ckc13,[61],0),
  (97,(Ckl932,[Cke51],Ckf107),2,Ckc13,[],0)]
def CNC178 : List (List ND) := [CNC178_0]
theorem CKC178 : chkS prot SMsC SMC178 [] CNC178 = true := by decide +kernel
-- OneSided$Plans.findWay [(77, 77), (5, 5), (60, 60), (0, 5)]
def Ckl942 : AL := [some Cka182,some Cka50,some Cka157,some Cka67,none,none,none,none,none]
def Ckf109 : FA := [(77,0,Cka7)]
def Ckl943 : AL := [some Cka182,some Cka50,some Cka157,some Cka67,some Cka101,none,none,none,none]
def Cke416 : SE := (Cka101,(1,4,0,0,0))
def Ckl944 : AL := [some Cka182,some Cka50,some Cka157,some Cka67,some Cka143,none,none,none,none]
def Cke417 : SE := (Cka143,(1,4,0,0,0))
def Ckl945 : AL := [some Cka182,some Cka50,some Cka157,some Cka67,some Cka84,none,none,none,none]
def Cke418 : SE := (Cka163,(2,77,3,0,0))
def Ckf110 : FA := [(77,0,Cka7),(77,3,Cka84)]
def Ckl946 : AL := [some Cka182,some Cka50,some Cka157,some Cka67,some Cka84,some Cka70,none,none,none]
def Cke419 : SE := (Cka70,(1,5,0,0,0))
def Cke420 : SE := (Cka84,(2,77,3,0,0))
def Ckl947 : AL := [some Cka182,some Cka50,some Cka157,some Cka67,some Cka84,some Cka70,some Cka34,none,none]
def Ckl948 : AL := [some Cka182,some Cka50,some Cka157,some Cka67,some Cka84,some Cka70,some Cka34,some Cka7,none]
def Ckl949 : AL := [some Cka182,some Cka50,some Cka157,some Cka67,some Cka84,some Cka70,some Cka178,some Cka6,some Cka62]
def Ckf111 : FA := [(77,0,Cka6),(77,3,Cka143)]
def Cka206 : AV := (0,10,2147483647,1)
def Ckl950 : AL := [some Cka182,some Cka50,some Cka157,some Cka67,some Cka84,some Cka70,some Cka206,some Cka46,some Cka62]
def Ckf112 : FA := [(77,0,Cka46),(77,3,Cka143)]
def Cka207 : AV := (0,11,2147483647,1)
def Cka208 : AV := (0,11,11,0)
def Ckl951 : AL := [some Cka182,some Cka50,some Cka157,some Cka67,some Cka84,some Cka70,some Cka207,some Cka208,some Cka62]
def Ckf113 : FA := [(77,0,Cka208),(77,3,Cka143)]
def Ckl952 : AL := [some Cka182,some Cka50,some Cka157,some Cka67,some Cka84,some Cka70,some Cka146,some Cka145,some Cka62]
def Ckf114 : FA := [(77,0,Cka145),(77,3,Cka143)]
def Cka209 : AV := (0,13,2147483647,1)
def Cka210 : AV := (0,13,13,0)
def Ckl953 : AL := [some Cka182,some Cka50,some Cka157,some Cka67,some Cka84,some Cka70,some Cka209,some Cka210,some Cka62]
def Ckf115 : FA := [(77,0,Cka210),(77,3,Cka143)]
def Cka211 : AV := (0,14,2147483647,1)
def Ckl954 : AL := [some Cka182,some Cka50,some Cka157,some Cka67,some Cka84,some Cka70,some Cka211,some Cka78,some Cka62]
def Ckf116 : FA := [(77,0,Cka78),(77,3,Cka143)]
def Cka212 : AV := (0,15,2147483647,1)
def Cka213 : AV := (0,15,15,0)
def Ckl955 : AL := [some Cka182,some Cka50,some Cka157,some Cka67,some Cka84,some Cka70,some Cka212,some Cka213,some Cka62]
def Ckf117 : FA := [(77,0,Cka213),(77,3,Cka143)]
def Cka214 : AV := (0,16,2147483647,1)
def Ckl956 : AL := [some Cka182,some Cka50,some Cka157,some Cka67,some Cka84,some Cka70,some Cka214,some Cka52,some Cka62]
def Ckf118 : FA := [(77,0,Cka52),(77,3,Cka143)]
def Cka215 : AV := (0,17,2147483647,1)
def Cka216 : AV := (0,17,17,0)
def Ckl957 : AL := [some Cka182,some Cka50,some Cka157,some Cka67,some Cka84,some Cka70,some Cka215,some Cka216,some Cka62]
def Ckf119 : FA := [(77,0,Cka216),(77,3,Cka143)]
def Cka217 : AV := (0,18,2147483647,1)
def Ckl958 : AL := [some Cka182,some Cka50,some Cka157,some Cka67,some Cka84,some Cka70,some Cka217,some Cka90,some Cka62]
def Ckf120 : FA := [(77,0,Cka90),(77,3,Cka143)]
def Cka218 : AV := (0,19,2147483647,1)
def Cka219 : AV := (0,19,19,0)
def Ckl959 : AL := [some Cka182,some Cka50,some Cka157,some Cka67,some Cka84,some Cka70,some Cka218,some Cka219,some Cka62]
def Ckf121 : FA := [(77,0,Cka219),(77,3,Cka143)]
def Cka220 : AV := (0,2,2147483647,1)
def Ckl960 : AL := [some Cka182,some Cka50,some Cka157,some Cka67,some Cka84,some Cka70,some Cka220,some Cka18,some Cka62]
def Ckf122 : FA := [(77,0,Cka18),(77,3,Cka143)]
def Cka221 : AV := (0,20,2147483647,1)
def Ckl961 : AL := [some Cka182,some Cka50,some Cka157,some Cka67,some Cka84,some Cka70,some Cka221,some Cka184,some Cka62]
def Ckf123 : FA := [(77,0,Cka184),(77,3,Cka143)]
def Cka222 : AV := (0,21,2147483647,1)
def Cka223 : AV := (0,21,21,0)
def Ckl962 : AL := [some Cka182,some Cka50,some Cka157,some Cka67,some Cka84,some Cka70,some Cka222,some Cka223,some Cka62]
def Ckf124 : FA := [(77,0,Cka223),(77,3,Cka143)]
def Cka224 : AV := (0,22,2147483647,1)
def Ckl963 : AL := [some Cka182,some Cka50,some Cka157,some Cka67,some Cka84,some Cka70,some Cka224,some Cka102,some Cka62]
def Ckf125 : FA := [(77,0,Cka102),(77,3,Cka143)]
def Cka225 : AV := (0,23,2147483647,1)
def Ckl964 : AL := [some Cka182,some Cka50,some Cka157,some Cka67,some Cka84,some Cka70,some Cka225,some Cka81,some Cka62]
def Ckf126 : FA := [(77,0,Cka81),(77,3,Cka143)]
def Cka226 : AV := (0,24,2147483647,1)
def Ckl965 : AL := [some Cka182,some Cka50,some Cka157,some Cka67,some Cka84,some Cka70,some Cka226,some Cka86,some Cka62]
def Ckf127 : FA := [(77,0,Cka86),(77,3,Cka143)]
def Cka227 : AV := (0,3,2147483647,1)
def Ckl966 : AL := [some Cka182,some Cka50,some Cka157,some Cka67,some Cka84,some Cka70,some Cka227,some Cka32,some Cka62]
def Ckf128 : FA := [(77,0,Cka32),(77,3,Cka143)]
def Cka228 : AV := (0,4,2147483647,1)
def Ckl967 : AL := [some Cka182,some Cka50,some Cka157,some Cka67,some Cka84,some Cka70,some Cka228,some Cka31,some Cka62]
def Ckf129 : FA := [(77,0,Cka31),(77,3,Cka143)]
def Cka229 : AV := (0,5,2147483647,1)
def Ckl968 : AL := [some Cka182,some Cka50,some Cka157,some Cka67,some Cka84,some Cka70,some Cka229,some Cka95,some Cka62]
def Ckf130 : FA := [(77,0,Cka95),(77,3,Cka143)]
def Cka230 : AV := (0,6,2147483647,1)
def Ckl969 : AL := [some Cka182,some Cka50,some Cka157,some Cka67,some Cka84,some Cka70,some Cka230,some Cka97,some Cka62]
def Ckf131 : FA := [(77,0,Cka97),(77,3,Cka143)]
def Cka231 : AV := (0,7,2147483647,1)
def Ckl970 : AL := [some Cka182,some Cka50,some Cka157,some Cka67,some Cka84,some Cka70,some Cka231,some Cka162,some Cka62]
def Ckf132 : FA := [(77,0,Cka162),(77,3,Cka143)]
def Cka232 : AV := (0,8,2147483647,1)
def Ckl971 : AL := [some Cka182,some Cka50,some Cka157,some Cka67,some Cka84,some Cka70,some Cka232,some Cka17,some Cka62]
def Ckf133 : FA := [(77,0,Cka17),(77,3,Cka143)]
def Cka233 : AV := (0,9,2147483647,1)
def Ckl972 : AL := [some Cka182,some Cka50,some Cka157,some Cka67,some Cka84,some Cka70,some Cka233,some Cka93,some Cka62]
def Ckf134 : FA := [(77,0,Cka93),(77,3,Cka143)]
def Cke421 : SE := (Cka6,(1,7,0,0,0))
def Cke422 : SE := (Cka46,(1,7,0,0,0))
def Cke423 : SE := (Cka208,(1,7,0,0,0))
def Cke424 : SE := (Cka145,(1,7,0,0,0))
def Cke425 : SE := (Cka210,(1,7,0,0,0))
def Cke426 : SE := (Cka78,(1,7,0,0,0))
def Cke427 : SE := (Cka213,(1,7,0,0,0))
def Cke428 : SE := (Cka52,(1,7,0,0,0))
def Cke429 : SE := (Cka216,(1,7,0,0,0))
def Cke430 : SE := (Cka90,(1,7,0,0,0))
def Cke431 : SE := (Cka219,(1,7,0,0,0))
def Cke432 : SE := (Cka18,(1,7,0,0,0))
def Cke433 : SE := (Cka184,(1,7,0,0,0))
def Cke434 : SE := (Cka223,(1,7,0,0,0))
def Cke435 : SE := (Cka102,(1,7,0,0,0))
def Cke436 : SE := (Cka81,(1,7,0,0,0))
def Cke437 : SE := (Cka86,(1,7,0,0,0))
def Cke438 : SE := (Cka32,(1,7,0,0,0))
def Cke439 : SE := (Cka31,(1,7,0,0,0))
def Cke440 : SE := (Cka95,(1,7,0,0,0))
def Cke441 : SE := (Cka97,(1,7,0,0,0))
def Cke442 : SE := (Cka162,(1,7,0,0,0))
def Cke443 : SE := (Cka17,(1,7,0,0,0))
def Cke444 : SE := (Cka93,(1,7,0,0,0))
def Cke445 : SE := (Cka178,(1,6,0,0,0))
def Cke446 : SE := (Cka206,(1,6,0,0,0))
def Cke447 : SE := (Cka207,(1,6,0,0,0))
def Cke448 : SE := (Cka146,(1,6,0,0,0))
def Cke449 : SE := (Cka209,(1,6,0,0,0))
def Cke450 : SE := (Cka211,(1,6,0,0,0))
def Cke451 : SE := (Cka212,(1,6,0,0,0))
def Cke452 : SE := (Cka214,(1,6,0,0,0))
def Cke453 : SE := (Cka215,(1,6,0,0,0))
def Cke454 : SE := (Cka217,(1,6,0,0,0))
def Cke455 : SE := (Cka218,(1,6,0,0,0))
def Cke456 : SE := (Cka220,(1,6,0,0,0))
def Cke457 : SE := (Cka221,(1,6,0,0,0))
def Cke458 : SE := (Cka222,(1,6,0,0,0))
def Cke459 : SE := (Cka224,(1,6,0,0,0))
def Cke460 : SE := (Cka225,(1,6,0,0,0))
def Cke461 : SE := (Cka226,(1,6,0,0,0))
def Cke462 : SE := (Cka227,(1,6,0,0,0))
def Cke463 : SE := (Cka228,(1,6,0,0,0))
def Cke464 : SE := (Cka229,(1,6,0,0,0))
def Cke465 : SE := (Cka230,(1,6,0,0,0))
def Cke466 : SE := (Cka231,(1,6,0,0,0))
def Cke467 : SE := (Cka232,(1,6,0,0,0))
def Cke468 : SE := (Cka233,(1,6,0,0,0))
def Ckl973 : AL := [some Cka182,some Cka50,some Cka157,some Cka67,some Cka84,some Cka70,some Cka178,some Cka7,none]
def Ckl974 : AL := [some Cka182,some Cka50,some Cka157,some Cka67,some Cka84,some Cka70,some Cka220,some Cka6,some Cka62]
def Ckl975 : AL := [some Cka182,some Cka50,some Cka157,some Cka67,some Cka84,some Cka70,some Cka207,some Cka46,some Cka62]
def Ckl976 : AL := [some Cka182,some Cka50,some Cka157,some Cka67,some Cka84,some Cka70,some Cka146,some Cka208,some Cka62]
def Ckl977 : AL := [some Cka182,some Cka50,some Cka157,some Cka67,some Cka84,some Cka70,some Cka209,some Cka145,some Cka62]
def Ckl978 : AL := [some Cka182,some Cka50,some Cka157,some Cka67,some Cka84,some Cka70,some Cka211,some Cka210,some Cka62]
def Ckl979 : AL := [some Cka182,some Cka50,some Cka157,some Cka67,some Cka84,some Cka70,some Cka212,some Cka78,some Cka62]
def Ckl980 : AL := [some Cka182,some Cka50,some Cka157,some Cka67,some Cka84,some Cka70,some Cka214,some Cka213,some Cka62]
def Ckl981 : AL := [some Cka182,some Cka50,some Cka157,some Cka67,some Cka84,some Cka70,some Cka215,some Cka52,some Cka62]
def Ckl982 : AL := [some Cka182,some Cka50,some Cka157,some Cka67,some Cka84,some Cka70,some Cka217,some Cka216,some Cka62]
def Ckl983 : AL := [some Cka182,some Cka50,some Cka157,some Cka67,some Cka84,some Cka70,some Cka218,some Cka90,some Cka62]
def Ckl984 : AL := [some Cka182,some Cka50,some Cka157,some Cka67,some Cka84,some Cka70,some Cka221,some Cka219,some Cka62]
def Ckl985 : AL := [some Cka182,some Cka50,some Cka157,some Cka67,some Cka84,some Cka70,some Cka227,some Cka18,some Cka62]
def Ckl986 : AL := [some Cka182,some Cka50,some Cka157,some Cka67,some Cka84,some Cka70,some Cka222,some Cka184,some Cka62]
def Ckl987 : AL := [some Cka182,some Cka50,some Cka157,some Cka67,some Cka84,some Cka70,some Cka224,some Cka223,some Cka62]
def Ckl988 : AL := [some Cka182,some Cka50,some Cka157,some Cka67,some Cka84,some Cka70,some Cka225,some Cka102,some Cka62]
def Ckl989 : AL := [some Cka182,some Cka50,some Cka157,some Cka67,some Cka84,some Cka70,some Cka226,some Cka81,some Cka62]
def Cka234 : AV := (0,25,2147483647,1)
def Ckl990 : AL := [some Cka182,some Cka50,some Cka157,some Cka67,some Cka84,some Cka70,some Cka234,some Cka86,some Cka62]
def Ckl991 : AL := [some Cka182,some Cka50,some Cka157,some Cka67,some Cka84,some Cka70,some Cka228,some Cka32,some Cka62]
def Ckl992 : AL := [some Cka182,some Cka50,some Cka157,some Cka67,some Cka84,some Cka70,some Cka229,some Cka31,some Cka62]
def Ckl993 : AL := [some Cka182,some Cka50,some Cka157,some Cka67,some Cka84,some Cka70,some Cka230,some Cka95,some Cka62]
def Ckl994 : AL := [some Cka182,some Cka50,some Cka157,some Cka67,some Cka84,some Cka70,some Cka231,some Cka97,some Cka62]
def Ckl995 : AL := [some Cka182,some Cka50,some Cka157,some Cka67,some Cka84,some Cka70,some Cka232,some Cka162,some Cka62]
def Ckl996 : AL := [some Cka182,some Cka50,some Cka157,some Cka67,some Cka84,some Cka70,some Cka233,some Cka17,some Cka62]
def Ckl997 : AL := [some Cka182,some Cka50,some Cka157,some Cka67,some Cka84,some Cka70,some Cka206,some Cka93,some Cka62]
def Ckl998 : AL := [some Cka182,some Cka50,some Cka157,some Cka67,some Cka84,some Cka70,some Cka178,some Cka7,some Cka71]
def Ckl999 : AL := [some Cka182,some Cka50,some Cka157,some Cka67,some Cka84,some Cka70,some Cka220,some Cka6,some Cka71]
def Ckl1000 : AL := [some Cka182,some Cka50,some Cka157,some Cka67,some Cka84,some Cka70,some Cka207,some Cka46,some Cka71]
def Ckl1001 : AL := [some Cka182,some Cka50,some Cka157,some Cka67,some Cka84,some Cka70,some Cka146,some Cka208,some Cka71]
def Ckl1002 : AL := [some Cka182,some Cka50,some Cka157,some Cka67,some Cka84,some Cka70,some Cka209,some Cka145,some Cka71]
def Ckl1003 : AL := [some Cka182,some Cka50,some Cka157,some Cka67,some Cka84,some Cka70,some Cka211,some Cka210,some Cka71]
def Ckl1004 : AL := [some Cka182,some Cka50,some Cka157,some Cka67,some Cka84,some Cka70,some Cka212,some Cka78,some Cka71]
def Ckl1005 : AL := [some Cka182,some Cka50,some Cka157,some Cka67,some Cka84,some Cka70,some Cka214,some Cka213,some Cka71]
def Ckl1006 : AL := [some Cka182,some Cka50,some Cka157,some Cka67,some Cka84,some Cka70,some Cka215,some Cka52,some Cka71]
def Ckl1007 : AL := [some Cka182,some Cka50,some Cka157,some Cka67,some Cka84,some Cka70,some Cka217,some Cka216,some Cka71]
def Ckl1008 : AL := [some Cka182,some Cka50,some Cka157,some Cka67,some Cka84,some Cka70,some Cka218,some Cka90,some Cka71]
def Ckl1009 : AL := [some Cka182,some Cka50,some Cka157,some Cka67,some Cka84,some Cka70,some Cka221,some Cka219,some Cka71]
def Ckl1010 : AL := [some Cka182,some Cka50,some Cka157,some Cka67,some Cka84,some Cka70,some Cka227,some Cka18,some Cka71]
def Ckl1011 : AL := [some Cka182,some Cka50,some Cka157,some Cka67,some Cka84,some Cka70,some Cka222,some Cka184,some Cka71]
def Ckl1012 : AL := [some Cka182,some Cka50,some Cka157,some Cka67,some Cka84,some Cka70,some Cka224,some Cka223,some Cka71]
def Ckl1013 : AL := [some Cka182,some Cka50,some Cka157,some Cka67,some Cka84,some Cka70,some Cka225,some Cka102,some Cka71]
def Ckl1014 : AL := [some Cka182,some Cka50,some Cka157,some Cka67,some Cka84,some Cka70,some Cka226,some Cka81,some Cka71]
def Ckl1015 : AL := [some Cka182,some Cka50,some Cka157,some Cka67,some Cka84,some Cka70,some Cka228,some Cka32,some Cka71]
def Ckl1016 : AL := [some Cka182,some Cka50,some Cka157,some Cka67,some Cka84,some Cka70,some Cka229,some Cka31,some Cka71]
def Ckl1017 : AL := [some Cka182,some Cka50,some Cka157,some Cka67,some Cka84,some Cka70,some Cka230,some Cka95,some Cka71]
def Ckl1018 : AL := [some Cka182,some Cka50,some Cka157,some Cka67,some Cka84,some Cka70,some Cka231,some Cka97,some Cka71]
def Ckl1019 : AL := [some Cka182,some Cka50,some Cka157,some Cka67,some Cka84,some Cka70,some Cka232,some Cka162,some Cka71]
def Ckl1020 : AL := [some Cka182,some Cka50,some Cka157,some Cka67,some Cka84,some Cka70,some Cka233,some Cka17,some Cka71]
def Ckl1021 : AL := [some Cka182,some Cka50,some Cka157,some Cka67,some Cka84,some Cka70,some Cka206,some Cka93,some Cka71]
def Cke469 : SE := (Cka71,(1,8,0,0,0))
def Ckl1022 : AL := [some Cka182,some Cka50,some Cka157,some Cka67,some Cka84,some Cka70,some Cka178,some Cka7,some Cka49]
def Ckl1023 : AL := [some Cka182,some Cka50,some Cka157,some Cka67,some Cka84,some Cka70,some Cka220,some Cka6,some Cka49]
def Ckl1024 : AL := [some Cka182,some Cka50,some Cka157,some Cka67,some Cka84,some Cka70,some Cka207,some Cka46,some Cka49]
def Ckl1025 : AL := [some Cka182,some Cka50,some Cka157,some Cka67,some Cka84,some Cka70,some Cka146,some Cka208,some Cka49]
def Ckl1026 : AL := [some Cka182,some Cka50,some Cka157,some Cka67,some Cka84,some Cka70,some Cka209,some Cka145,some Cka49]
def Ckl1027 : AL := [some Cka182,some Cka50,some Cka157,some Cka67,some Cka84,some Cka70,some Cka211,some Cka210,some Cka49]
def Ckl1028 : AL := [some Cka182,some Cka50,some Cka157,some Cka67,some Cka84,some Cka70,some Cka212,some Cka78,some Cka49]
def Ckl1029 : AL := [some Cka182,some Cka50,some Cka157,some Cka67,some Cka84,some Cka70,some Cka214,some Cka213,some Cka49]
def Ckl1030 : AL := [some Cka182,some Cka50,some Cka157,some Cka67,some Cka84,some Cka70,some Cka215,some Cka52,some Cka49]
def Ckl1031 : AL := [some Cka182,some Cka50,some Cka157,some Cka67,some Cka84,some Cka70,some Cka217,some Cka216,some Cka49]
def Ckl1032 : AL := [some Cka182,some Cka50,some Cka157,some Cka67,some Cka84,some Cka70,some Cka218,some Cka90,some Cka49]
def Ckl1033 : AL := [some Cka182,some Cka50,some Cka157,some Cka67,some Cka84,some Cka70,some Cka221,some Cka219,some Cka49]
def Ckl1034 : AL := [some Cka182,some Cka50,some Cka157,some Cka67,some Cka84,some Cka70,some Cka227,some Cka18,some Cka49]
def Ckl1035 : AL := [some Cka182,some Cka50,some Cka157,some Cka67,some Cka84,some Cka70,some Cka222,some Cka184,some Cka49]
def Ckl1036 : AL := [some Cka182,some Cka50,some Cka157,some Cka67,some Cka84,some Cka70,some Cka224,some Cka223,some Cka49]
def Ckl1037 : AL := [some Cka182,some Cka50,some Cka157,some Cka67,some Cka84,some Cka70,some Cka225,some Cka102,some Cka49]
def Ckl1038 : AL := [some Cka182,some Cka50,some Cka157,some Cka67,some Cka84,some Cka70,some Cka226,some Cka81,some Cka49]
def Ckl1039 : AL := [some Cka182,some Cka50,some Cka157,some Cka67,some Cka84,some Cka70,some Cka228,some Cka32,some Cka49]
def Ckl1040 : AL := [some Cka182,some Cka50,some Cka157,some Cka67,some Cka84,some Cka70,some Cka229,some Cka31,some Cka49]
def Ckl1041 : AL := [some Cka182,some Cka50,some Cka157,some Cka67,some Cka84,some Cka70,some Cka230,some Cka95,some Cka49]
def Ckl1042 : AL := [some Cka182,some Cka50,some Cka157,some Cka67,some Cka84,some Cka70,some Cka231,some Cka97,some Cka49]
def Ckl1043 : AL := [some Cka182,some Cka50,some Cka157,some Cka67,some Cka84,some Cka70,some Cka232,some Cka162,some Cka49]
def Ckl1044 : AL := [some Cka182,some Cka50,some Cka157,some Cka67,some Cka84,some Cka70,some Cka233,some Cka17,some Cka49]
def Ckl1045 : AL := [some Cka182,some Cka50,some Cka157,some Cka67,some Cka84,some Cka70,some Cka206,some Cka93,some Cka49]
def Ckl1046 : AL := [some Cka182,some Cka50,some Cka157,some Cka67,some Cka84,some Cka70,some Cka178,some Cka7,some Cka62]
def Cka235 : AV := (2,78,78,0)
def Cke470 : SE := (Cka235,(2,77,1,0,0))
def Cke471 : SE := (Cka7,(2,77,0,0,0))
def Cke472 : SE := (Cka6,(2,77,0,0,0))
def Cke473 : SE := (Cka46,(2,77,0,0,0))
def Cke474 : SE := (Cka208,(2,77,0,0,0))
def Cke475 : SE := (Cka145,(2,77,0,0,0))
def Cke476 : SE := (Cka210,(2,77,0,0,0))
def Cke477 : SE := (Cka78,(2,77,0,0,0))
def Cke478 : SE := (Cka213,(2,77,0,0,0))
def Cke479 : SE := (Cka52,(2,77,0,0,0))
def Cke480 : SE := (Cka216,(2,77,0,0,0))
def Cke481 : SE := (Cka90,(2,77,0,0,0))
def Cke482 : SE := (Cka219,(2,77,0,0,0))
def Cke483 : SE := (Cka18,(2,77,0,0,0))
def Cke484 : SE := (Cka184,(2,77,0,0,0))
def Cke485 : SE := (Cka223,(2,77,0,0,0))
def Cke486 : SE := (Cka102,(2,77,0,0,0))
def Cke487 : SE := (Cka81,(2,77,0,0,0))
def Cke488 : SE := (Cka32,(2,77,0,0,0))
def Cke489 : SE := (Cka31,(2,77,0,0,0))
def Cke490 : SE := (Cka95,(2,77,0,0,0))
def Cke491 : SE := (Cka97,(2,77,0,0,0))
def Cke492 : SE := (Cka162,(2,77,0,0,0))
def Cke493 : SE := (Cka17,(2,77,0,0,0))
def Cke494 : SE := (Cka93,(2,77,0,0,0))
def Cke495 : SE := (Cka62,(1,8,0,0,0))
def Cke496 : SE := (Cka208,pv0)
def Cke497 : SE := (Cka210,pv0)
def Cke498 : SE := (Cka213,pv0)
def Cke499 : SE := (Cka216,pv0)
def Cke500 : SE := (Cka219,pv0)
def Cke501 : SE := (Cka223,pv0)
def Cke502 : SE := (Cka162,pv0)
def Ckf135 : FA := [(77,0,Cka6),(77,3,Cka84)]
def Cka236 : AV := (0,-2147483648,0,1)
def Ckl1047 : AL := [some Cka182,some Cka50,some Cka157,some Cka67,some Cka84,some Cka70,some Cka236,some Cka7,none]
def Ckl1048 : AL := [some Cka182,some Cka50,some Cka157,some Cka67,some Cka84,some Cka70,some Cka6,some Cka6,some Cka62]
def Ckl1049 : AL := [some Cka182,some Cka50,some Cka157,some Cka67,some Cka84,some Cka70,some Cka46,some Cka46,some Cka62]
def Ckl1050 : AL := [some Cka182,some Cka50,some Cka157,some Cka67,some Cka84,some Cka70,some Cka208,some Cka208,some Cka62]
def Ckl1051 : AL := [some Cka182,some Cka50,some Cka157,some Cka67,some Cka84,some Cka70,some Cka145,some Cka145,some Cka62]
def Ckl1052 : AL := [some Cka182,some Cka50,some Cka157,some Cka67,some Cka84,some Cka70,some Cka210,some Cka210,some Cka62]
def Ckl1053 : AL := [some Cka182,some Cka50,some Cka157,some Cka67,some Cka84,some Cka70,some Cka78,some Cka78,some Cka62]
def Ckl1054 : AL := [some Cka182,some Cka50,some Cka157,some Cka67,some Cka84,some Cka70,some Cka213,some Cka213,some Cka62]
def Ckl1055 : AL := [some Cka182,some Cka50,some Cka157,some Cka67,some Cka84,some Cka70,some Cka52,some Cka52,some Cka62]
def Ckl1056 : AL := [some Cka182,some Cka50,some Cka157,some Cka67,some Cka84,some Cka70,some Cka216,some Cka216,some Cka62]
def Ckl1057 : AL := [some Cka182,some Cka50,some Cka157,some Cka67,some Cka84,some Cka70,some Cka90,some Cka90,some Cka62]
def Ckl1058 : AL := [some Cka182,some Cka50,some Cka157,some Cka67,some Cka84,some Cka70,some Cka219,some Cka219,some Cka62]
def Ckl1059 : AL := [some Cka182,some Cka50,some Cka157,some Cka67,some Cka84,some Cka70,some Cka18,some Cka18,some Cka62]
def Ckl1060 : AL := [some Cka182,some Cka50,some Cka157,some Cka67,some Cka84,some Cka70,some Cka184,some Cka184,some Cka62]
def Ckl1061 : AL := [some Cka182,some Cka50,some Cka157,some Cka67,some Cka84,some Cka70,some Cka223,some Cka223,some Cka62]
def Ckl1062 : AL := [some Cka182,some Cka50,some Cka157,some Cka67,some Cka84,some Cka70,some Cka102,some Cka102,some Cka62]
def Ckl1063 : AL := [some Cka182,some Cka50,some Cka157,some Cka67,some Cka84,some Cka70,some Cka81,some Cka81,some Cka62]
def Ckl1064 : AL := [some Cka182,some Cka50,some Cka157,some Cka67,some Cka84,some Cka70,some Cka32,some Cka32,some Cka62]
def Ckl1065 : AL := [some Cka182,some Cka50,some Cka157,some Cka67,some Cka84,some Cka70,some Cka31,some Cka31,some Cka62]
def Ckl1066 : AL := [some Cka182,some Cka50,some Cka157,some Cka67,some Cka84,some Cka70,some Cka95,some Cka95,some Cka62]
def Ckl1067 : AL := [some Cka182,some Cka50,some Cka157,some Cka67,some Cka84,some Cka70,some Cka97,some Cka97,some Cka62]
def Ckl1068 : AL := [some Cka182,some Cka50,some Cka157,some Cka67,some Cka84,some Cka70,some Cka162,some Cka162,some Cka62]
def Ckl1069 : AL := [some Cka182,some Cka50,some Cka157,some Cka67,some Cka84,some Cka70,some Cka17,some Cka17,some Cka62]
def Ckl1070 : AL := [some Cka182,some Cka50,some Cka157,some Cka67,some Cka84,some Cka70,some Cka93,some Cka93,some Cka62]
def CNC179_0 : List ND := [(0,(Ckl942,[],[]),1369,Ckc15,[1],0),
  (1,(Ckl942,[Cke381],[]),1368,Ckc15,[2],0),
  (2,(Ckl942,[Cke7,Cke381],[]),1367,Ckc15,[3],0),
  (5,(Ckl942,[],Ckf109),1366,Ckc15,[4],0),
  (6,(Ckl942,[Cke381],Ckf109),1365,Ckc15,[5],0),
  (7,(Ckl942,[Cke86,Cke381],Ckf109),1364,Ckc15,[6],0),
  (8,(Ckl942,[Cke354,Cke86,Cke381],Ckf109),1363,Ckc15,[7],0),
  (9,(Ckl942,[Cke84,Cke354,Cke86,Cke381],Ckf109),1362,Ckc15,[8],170),
  (12,(Ckl942,[Cke362],Ckf109),1361,Ckc15,[9],0),
  (14,(Ckl943,[],Ckf109),1360,Ckc15,[10],0),
  (15,(Ckl943,[Cke381],Ckf109),1359,Ckc15,[11],0),
  (16,(Ckl943,[Cke354,Cke381],Ckf109),1358,Ckc15,[12],0),
  (17,(Ckl943,[Cke84,Cke354,Cke381],Ckf109),1357,Ckc15,[13],162),
  (20,(Ckl943,[Cke346,Cke381],Ckf109),1356,Ckc15,[14],0),
  (23,(Ckl943,[],Ckf109),1355,Ckc15,[15],0),
  (25,(Ckl943,[Cke416],Ckf109),1354,Ckc15,[16],0),
  (26,(Ckl943,[Cke51,Cke416],Ckf109),1353,Ckc15,[24,17],0),
  (29,(Ckl944,[],Ckf109),1352,Ckc15,[18],0),
  (31,(Ckl944,[Cke417],Ckf109),1351,Ckc15,[19],0),
  (33,(Ckl944,[Cke144,Cke417],Ckf109),1350,Ckc15,[24,20],0),
  (36,(Ckl945,[],Ckf109),1349,Ckc15,[21],0),
  (37,(Ckl945,[Cke381],Ckf109),1348,Ckc15,[22],0),
  (40,(Ckl945,[Cke418],Ckf109),1347,Ckc15,[23],0),
  (42,(Ckl945,[Cke312,Cke418],Ckf109),1346,Ckc15,[25,24],0),
  (45,(Ckl943,[],Ckf109),0,Ckc15,[],0),
  (46,(Ckl945,[],Ckf110),1345,Ckc15,[26],0),
  (47,(Ckl945,[Cke86],Ckf110),1344,Ckc15,[27],0),
  (50,(Ckl945,[Cke83],Ckf110),1343,Ckc15,[28],0),
  (51,(Ckl945,[Cke84,Cke83],Ckf110),1342,Ckc15,[29],0),
  (52,(Ckl945,[Cke85],Ckf110),1341,Ckc15,[30],0),
  (54,(Ckl946,[],Ckf110),1340,Ckc15,[31],0),
  (55,(Ckl946,[Cke381],Ckf110),1339,Ckc15,[32],0),
  (56,(Ckl946,[Cke86,Cke381],Ckf110),1338,Ckc15,[33],0),
  (58,(Ckl946,[Cke419,Cke86,Cke381],Ckf110),1337,Ckc15,[34],0),
  (59,(Ckl946,[Cke354,Cke419,Cke86,Cke381],Ckf110),1336,Ckc15,[35],0),
  (62,(Ckl946,[Cke303,Cke419,Cke86,Cke381],Ckf110),1335,Ckc15,[36],0),
  (63,(Ckl946,[Cke381,Cke303,Cke419,Cke86,Cke381],Ckf110),1334,Ckc15,[37],0),
  (66,(Ckl946,[Cke420,Cke303,Cke419,Cke86,Cke381],Ckf110),1333,Ckc15,[38],0),
  (68,(Ckl946,[Cke312,Cke420,Cke303,Cke419,Cke86,Cke381],Ckf110),1332,Ckc15,[39],173),
  (71,(Ckl946,[],Ckf110),1331,Ckc15,[40],0),
  (72,(Ckl946,[Cke381],Ckf110),1330,Ckc15,[41],0),
  (73,(Ckl946,[Cke354,Cke381],Ckf110),1329,Ckc15,[42],0),
  (76,(Ckl946,[Cke277,Cke381],Ckf110),1328,Ckc15,[43],0),
  (77,(Ckl946,[Cke84,Cke277,Cke381],Ckf110),1327,Ckc15,[44],0),
  (78,(Ckl946,[Cke97,Cke381],Ckf110),1326,Ckc15,[45],0),
  (79,(Ckl946,[Cke22,Cke97,Cke381],Ckf110),1325,Ckc15,[46],0),
  (80,(Ckl946,[Cke375,Cke381],Ckf110),1324,Ckc15,[47],0),
  (81,(Ckl946,[Cke354,Cke375,Cke381],Ckf110),1323,Ckc15,[48],0),
  (84,(Ckl946,[Cke306,Cke375,Cke381],Ckf110),1322,Ckc15,[49],0),
  (85,(Ckl946,[Cke84,Cke306,Cke375,Cke381],Ckf110),1321,Ckc15,[50],0),
  (86,(Ckl946,[Cke184,Cke375,Cke381],Ckf110),1320,Ckc15,[51],0),
  (87,(Ckl946,[Cke6,Cke184,Cke375,Cke381],Ckf110),1319,Ckc15,[52],0),
  (88,(Ckl946,[Cke242,Cke375,Cke381],Ckf110),1318,Ckc15,[53],0),
  (89,(Ckl946,[Cke409,Cke381],Ckf110),1317,Ckc15,[54],0),
  (92,(Ckl946,[],Ckf110),1316,Ckc15,[55],0),
  (93,(Ckl946,[Cke381],Ckf110),1315,Ckc15,[56],0),
  (96,(Ckl946,[Cke382],Ckf110),1314,Ckc15,[57],0),
  (97,(Ckl946,[Cke381,Cke382],Ckf110),1313,Ckc15,[58],0),
  (100,(Ckl946,[Cke420,Cke382],Ckf110),1312,Ckc15,[59],0),
  (102,(Ckl946,[Cke373,Cke420,Cke382],Ckf110),1311,Ckc15,[60],0),
  (103,(Ckl946,[Cke374,Cke382],Ckf110),1310,Ckc15,[61],0),
  (104,(Ckl946,[Cke381,Cke374,Cke382],Ckf110),1309,Ckc15,[62],0),
  (107,(Ckl946,[Cke406,Cke374,Cke382],Ckf110),1308,Ckc15,[63],0),
  (108,(Ckl946,[Cke377,Cke382],Ckf110),1307,Ckc15,[64],0)]
def CNC179_1 : List ND := [(109,(Ckl946,[Cke184],Ckf110),1306,Ckc15,[65],0),
  (111,(Ckl947,[],Ckf110),1305,Ckc15,[66],0),
  (112,(Ckl947,[Cke7],Ckf110),1304,Ckc15,[67],0),
  (114,(Ckl948,[],Ckf110),1303,Ckc15,[92],0),
  (114,(Ckl949,[],Ckf111),1250,Ckc15,[93],0),
  (114,(Ckl950,[],Ckf112),772,Ckc15,[94],0),
  (114,(Ckl951,[],Ckf113),719,Ckc15,[95],0),
  (114,(Ckl952,[],Ckf114),666,Ckc15,[96],0),
  (114,(Ckl953,[],Ckf115),613,Ckc15,[97],0),
  (114,(Ckl954,[],Ckf116),560,Ckc15,[98],0),
  (114,(Ckl955,[],Ckf117),507,Ckc15,[99],0),
  (114,(Ckl956,[],Ckf118),454,Ckc15,[100],0),
  (114,(Ckl957,[],Ckf119),401,Ckc15,[101],0),
  (114,(Ckl958,[],Ckf120),348,Ckc15,[102],0),
  (114,(Ckl959,[],Ckf121),294,Ckc15,[103],0),
  (114,(Ckl960,[],Ckf122),1196,Ckc15,[104],0),
  (114,(Ckl961,[],Ckf123),241,Ckc15,[105],0),
  (114,(Ckl962,[],Ckf124),188,Ckc15,[106],0),
  (114,(Ckl963,[],Ckf125),134,Ckc15,[107],0),
  (114,(Ckl964,[],Ckf126),82,Ckc15,[108],0),
  (114,(Ckl965,[],Ckf127),29,Ckc15,[109],0),
  (114,(Ckl966,[],Ckf128),1142,Ckc15,[110],0),
  (114,(Ckl967,[],Ckf129),1089,Ckc15,[111],0),
  (114,(Ckl968,[],Ckf130),1036,Ckc15,[112],0),
  (114,(Ckl969,[],Ckf131),983,Ckc15,[113],0),
  (114,(Ckl970,[],Ckf132),930,Ckc15,[114],0),
  (114,(Ckl971,[],Ckf133),878,Ckc15,[115],0),
  (114,(Ckl972,[],Ckf134),825,Ckc15,[116],0),
  (116,(Ckl948,[Cke386],Ckf110),1302,Ckc15,[117],0),
  (116,(Ckl949,[Cke421],Ckf111),1249,Ckc15,[118],0),
  (116,(Ckl950,[Cke422],Ckf112),771,Ckc15,[119],0),
  (116,(Ckl951,[Cke423],Ckf113),718,Ckc15,[120],0),
  (116,(Ckl952,[Cke424],Ckf114),665,Ckc15,[121],0),
  (116,(Ckl953,[Cke425],Ckf115),612,Ckc15,[122],0),
  (116,(Ckl954,[Cke426],Ckf116),559,Ckc15,[123],0),
  (116,(Ckl955,[Cke427],Ckf117),506,Ckc15,[124],0),
  (116,(Ckl956,[Cke428],Ckf118),453,Ckc15,[125],0),
  (116,(Ckl957,[Cke429],Ckf119),400,Ckc15,[126],0),
  (116,(Ckl958,[Cke430],Ckf120),347,Ckc15,[127],0),
  (116,(Ckl959,[Cke431],Ckf121),293,Ckc15,[128],0),
  (116,(Ckl960,[Cke432],Ckf122),1195,Ckc15,[129],0),
  (116,(Ckl961,[Cke433],Ckf123),240,Ckc15,[130],0),
  (116,(Ckl962,[Cke434],Ckf124),187,Ckc15,[131],0),
  (116,(Ckl963,[Cke435],Ckf125),133,Ckc15,[132],0),
  (116,(Ckl964,[Cke436],Ckf126),81,Ckc15,[133],0),
  (116,(Ckl965,[Cke437],Ckf127),28,Ckc15,[134],0),
  (116,(Ckl966,[Cke438],Ckf128),1141,Ckc15,[135],0),
  (116,(Ckl967,[Cke439],Ckf129),1088,Ckc15,[136],0),
  (116,(Ckl968,[Cke440],Ckf130),1035,Ckc15,[137],0),
  (116,(Ckl969,[Cke441],Ckf131),982,Ckc15,[138],0),
  (116,(Ckl970,[Cke442],Ckf132),929,Ckc15,[139],0),
  (116,(Ckl971,[Cke443],Ckf133),877,Ckc15,[140],0),
  (116,(Ckl972,[Cke444],Ckf134),824,Ckc15,[141],0),
  (118,(Ckl948,[Cke353,Cke386],Ckf110),1301,Ckc15,[1345,142],0),
  (118,(Ckl949,[Cke445,Cke421],Ckf111),1248,Ckc15,[1346,143],0),
  (118,(Ckl950,[Cke446,Cke422],Ckf112),770,Ckc15,[1347,144],0),
  (118,(Ckl951,[Cke447,Cke423],Ckf113),717,Ckc15,[1348,145],0),
  (118,(Ckl952,[Cke448,Cke424],Ckf114),664,Ckc15,[1349,146],0),
  (118,(Ckl953,[Cke449,Cke425],Ckf115),611,Ckc15,[1350,147],0),
  (118,(Ckl954,[Cke450,Cke426],Ckf116),558,Ckc15,[1351,148],0),
  (118,(Ckl955,[Cke451,Cke427],Ckf117),505,Ckc15,[1352,149],0),
  (118,(Ckl956,[Cke452,Cke428],Ckf118),452,Ckc15,[1353,150],0),
  (118,(Ckl957,[Cke453,Cke429],Ckf119),399,Ckc15,[1354,151],0),
  (118,(Ckl958,[Cke454,Cke430],Ckf120),346,Ckc15,[1355,152],0)]
def CNC179_2 : List ND := [(118,(Ckl959,[Cke455,Cke431],Ckf121),292,Ckc15,[1356,153],0),
  (118,(Ckl960,[Cke456,Cke432],Ckf122),1194,Ckc15,[1357,154],0),
  (118,(Ckl961,[Cke457,Cke433],Ckf123),239,Ckc15,[1358,155],0),
  (118,(Ckl962,[Cke458,Cke434],Ckf124),186,Ckc15,[1359,156],0),
  (118,(Ckl963,[Cke459,Cke435],Ckf125),132,Ckc15,[1360,157],0),
  (118,(Ckl964,[Cke460,Cke436],Ckf126),80,Ckc15,[1361,158],0),
  (118,(Ckl965,[Cke461,Cke437],Ckf127),27,Ckc15,[1362,159],0),
  (118,(Ckl966,[Cke462,Cke438],Ckf128),1140,Ckc15,[1363,160],0),
  (118,(Ckl967,[Cke463,Cke439],Ckf129),1087,Ckc15,[1364,161],0),
  (118,(Ckl968,[Cke464,Cke440],Ckf130),1034,Ckc15,[1365,162],0),
  (118,(Ckl969,[Cke465,Cke441],Ckf131),981,Ckc15,[1366,163],0),
  (118,(Ckl970,[Cke466,Cke442],Ckf132),928,Ckc15,[1367,164],0),
  (118,(Ckl971,[Cke467,Cke443],Ckf133),876,Ckc15,[1368,165],0),
  (118,(Ckl972,[Cke468,Cke444],Ckf134),823,Ckc15,[1369,166],0),
  (121,(Ckl973,[],Ckf110),1299,Ckc15,[167],0),
  (121,(Ckl974,[],Ckf111),1246,Ckc15,[168],0),
  (121,(Ckl975,[],Ckf112),768,Ckc15,[169],0),
  (121,(Ckl976,[],Ckf113),715,Ckc15,[170],0),
  (121,(Ckl977,[],Ckf114),662,Ckc15,[171],0),
  (121,(Ckl978,[],Ckf115),609,Ckc15,[172],0),
  (121,(Ckl979,[],Ckf116),556,Ckc15,[173],0),
  (121,(Ckl980,[],Ckf117),504,Ckc15,[174],0),
  (121,(Ckl981,[],Ckf118),450,Ckc15,[175],0),
  (121,(Ckl982,[],Ckf119),398,Ckc15,[176],0),
  (121,(Ckl983,[],Ckf120),344,Ckc15,[177],0),
  (121,(Ckl984,[],Ckf121),290,Ckc15,[178],0),
  (121,(Ckl985,[],Ckf122),1192,Ckc15,[179],0),
  (121,(Ckl986,[],Ckf123),237,Ckc15,[180],0),
  (121,(Ckl987,[],Ckf124),184,Ckc15,[181],0),
  (121,(Ckl988,[],Ckf125),131,Ckc15,[182],0),
  (121,(Ckl989,[],Ckf126),79,Ckc15,[183],0),
  (121,(Ckl990,[],Ckf127),26,Ckc15,[184],0),
  (121,(Ckl991,[],Ckf128),1138,Ckc15,[185],0),
  (121,(Ckl992,[],Ckf129),1085,Ckc15,[186],0),
  (121,(Ckl993,[],Ckf130),1032,Ckc15,[187],0),
  (121,(Ckl994,[],Ckf131),979,Ckc15,[188],0),
  (121,(Ckl995,[],Ckf132),927,Ckc15,[189],0),
  (121,(Ckl996,[],Ckf133),874,Ckc15,[190],0),
  (121,(Ckl997,[],Ckf134),821,Ckc15,[191],0),
  (123,(Ckl973,[Cke386],Ckf110),1298,Ckc15,[192],0),
  (123,(Ckl974,[Cke421],Ckf111),1245,Ckc15,[193],0),
  (123,(Ckl975,[Cke422],Ckf112),767,Ckc15,[194],0),
  (123,(Ckl976,[Cke423],Ckf113),714,Ckc15,[195],0),
  (123,(Ckl977,[Cke424],Ckf114),661,Ckc15,[196],0),
  (123,(Ckl978,[Cke425],Ckf115),608,Ckc15,[197],0),
  (123,(Ckl979,[Cke426],Ckf116),555,Ckc15,[198],0),
  (123,(Ckl980,[Cke427],Ckf117),503,Ckc15,[199],0),
  (123,(Ckl981,[Cke428],Ckf118),449,Ckc15,[200],0),
  (123,(Ckl982,[Cke429],Ckf119),397,Ckc15,[201],0),
  (123,(Ckl983,[Cke430],Ckf120),343,Ckc15,[202],0),
  (123,(Ckl984,[Cke431],Ckf121),289,Ckc15,[203],0),
  (123,(Ckl985,[Cke432],Ckf122),1191,Ckc15,[204],0),
  (123,(Ckl986,[Cke433],Ckf123),236,Ckc15,[205],0),
  (123,(Ckl987,[Cke434],Ckf124),183,Ckc15,[206],0),
  (123,(Ckl988,[Cke435],Ckf125),130,Ckc15,[207],0),
  (123,(Ckl989,[Cke436],Ckf126),78,Ckc15,[208],0),
  (123,(Ckl990,[Cke437],Ckf127),25,Ckc15,[209],0),
  (123,(Ckl991,[Cke438],Ckf128),1137,Ckc15,[210],0),
  (123,(Ckl992,[Cke439],Ckf129),1084,Ckc15,[211],0),
  (123,(Ckl993,[Cke440],Ckf130),1031,Ckc15,[212],0),
  (123,(Ckl994,[Cke441],Ckf131),978,Ckc15,[213],0),
  (123,(Ckl995,[Cke442],Ckf132),926,Ckc15,[214],0),
  (123,(Ckl996,[Cke443],Ckf133),873,Ckc15,[215],0),
  (123,(Ckl997,[Cke444],Ckf134),820,Ckc15,[216],0)]
def CNC179_3 : List ND := [(125,(Ckl973,[Cke144,Cke386],Ckf110),1297,Ckc15,[217],0),
  (125,(Ckl974,[Cke144,Cke421],Ckf111),1244,Ckc15,[218],0),
  (125,(Ckl975,[Cke144,Cke422],Ckf112),766,Ckc15,[219],0),
  (125,(Ckl976,[Cke144,Cke423],Ckf113),713,Ckc15,[220],0),
  (125,(Ckl977,[Cke144,Cke424],Ckf114),660,Ckc15,[221],0),
  (125,(Ckl978,[Cke144,Cke425],Ckf115),607,Ckc15,[222],0),
  (125,(Ckl979,[Cke144,Cke426],Ckf116),554,Ckc15,[223],0),
  (125,(Ckl980,[Cke144,Cke427],Ckf117),502,Ckc15,[224],0),
  (125,(Ckl981,[Cke144,Cke428],Ckf118),448,Ckc15,[225],0),
  (125,(Ckl982,[Cke144,Cke429],Ckf119),396,Ckc15,[226],0),
  (125,(Ckl983,[Cke144,Cke430],Ckf120),342,Ckc15,[227],0),
  (125,(Ckl984,[Cke144,Cke431],Ckf121),288,Ckc15,[228],0),
  (125,(Ckl985,[Cke144,Cke432],Ckf122),1190,Ckc15,[229],0),
  (125,(Ckl986,[Cke144,Cke433],Ckf123),235,Ckc15,[230],0),
  (125,(Ckl987,[Cke144,Cke434],Ckf124),182,Ckc15,[231],0),
  (125,(Ckl988,[Cke144,Cke435],Ckf125),129,Ckc15,[232],0),
  (125,(Ckl989,[Cke144,Cke436],Ckf126),77,Ckc15,[233],0),
  (125,(Ckl990,[Cke144,Cke437],Ckf127),24,Ckc15,[1362],0),
  (125,(Ckl991,[Cke144,Cke438],Ckf128),1136,Ckc15,[234],0),
  (125,(Ckl992,[Cke144,Cke439],Ckf129),1083,Ckc15,[235],0),
  (125,(Ckl993,[Cke144,Cke440],Ckf130),1030,Ckc15,[236],0),
  (125,(Ckl994,[Cke144,Cke441],Ckf131),977,Ckc15,[237],0),
  (125,(Ckl995,[Cke144,Cke442],Ckf132),925,Ckc15,[238],0),
  (125,(Ckl996,[Cke144,Cke443],Ckf133),872,Ckc15,[239],0),
  (125,(Ckl997,[Cke144,Cke444],Ckf134),819,Ckc15,[240],0),
  (128,(Ckl973,[],Ckf110),1296,Ckc15,[241],0),
  (128,(Ckl974,[],Ckf111),1243,Ckc15,[242],0),
  (128,(Ckl975,[],Ckf112),765,Ckc15,[243],0),
  (128,(Ckl976,[],Ckf113),712,Ckc15,[244],0),
  (128,(Ckl977,[],Ckf114),659,Ckc15,[245],0),
  (128,(Ckl978,[],Ckf115),606,Ckc15,[246],0),
  (128,(Ckl979,[],Ckf116),553,Ckc15,[247],0),
  (128,(Ckl980,[],Ckf117),501,Ckc15,[248],0),
  (128,(Ckl981,[],Ckf118),447,Ckc15,[249],0),
  (128,(Ckl982,[],Ckf119),395,Ckc15,[250],0),
  (128,(Ckl983,[],Ckf120),341,Ckc15,[251],0),
  (128,(Ckl984,[],Ckf121),287,Ckc15,[252],0),
  (128,(Ckl985,[],Ckf122),1189,Ckc15,[253],0),
  (128,(Ckl986,[],Ckf123),234,Ckc15,[254],0),
  (128,(Ckl987,[],Ckf124),181,Ckc15,[255],0),
  (128,(Ckl988,[],Ckf125),128,Ckc15,[256],0),
  (128,(Ckl989,[],Ckf126),76,Ckc15,[257],0),
  (128,(Ckl991,[],Ckf128),1135,Ckc15,[258],0),
  (128,(Ckl992,[],Ckf129),1082,Ckc15,[259],0),
  (128,(Ckl993,[],Ckf130),1029,Ckc15,[260],0),
  (128,(Ckl994,[],Ckf131),976,Ckc15,[261],0),
  (128,(Ckl995,[],Ckf132),924,Ckc15,[262],0),
  (128,(Ckl996,[],Ckf133),871,Ckc15,[263],0),
  (128,(Ckl997,[],Ckf134),818,Ckc15,[264],0),
  (129,(Ckl973,[Cke381],Ckf110),1295,Ckc15,[265],0),
  (129,(Ckl974,[Cke381],Ckf111),1242,Ckc15,[266],0),
  (129,(Ckl975,[Cke381],Ckf112),764,Ckc15,[267],0),
  (129,(Ckl976,[Cke381],Ckf113),711,Ckc15,[268],0),
  (129,(Ckl977,[Cke381],Ckf114),658,Ckc15,[269],0),
  (129,(Ckl978,[Cke381],Ckf115),605,Ckc15,[270],0),
  (129,(Ckl979,[Cke381],Ckf116),552,Ckc15,[271],0),
  (129,(Ckl980,[Cke381],Ckf117),500,Ckc15,[272],0),
  (129,(Ckl981,[Cke381],Ckf118),446,Ckc15,[273],0),
  (129,(Ckl982,[Cke381],Ckf119),394,Ckc15,[274],0),
  (129,(Ckl983,[Cke381],Ckf120),340,Ckc15,[275],0),
  (129,(Ckl984,[Cke381],Ckf121),286,Ckc15,[276],0),
  (129,(Ckl985,[Cke381],Ckf122),1188,Ckc15,[277],0),
  (129,(Ckl986,[Cke381],Ckf123),233,Ckc15,[278],0),
  (129,(Ckl987,[Cke381],Ckf124),180,Ckc15,[279],0)]
def CNC179_4 : List ND := [(129,(Ckl988,[Cke381],Ckf125),127,Ckc15,[280],0),
  (129,(Ckl989,[Cke381],Ckf126),75,Ckc15,[281],0),
  (129,(Ckl991,[Cke381],Ckf128),1134,Ckc15,[282],0),
  (129,(Ckl992,[Cke381],Ckf129),1081,Ckc15,[283],0),
  (129,(Ckl993,[Cke381],Ckf130),1028,Ckc15,[284],0),
  (129,(Ckl994,[Cke381],Ckf131),975,Ckc15,[285],0),
  (129,(Ckl995,[Cke381],Ckf132),923,Ckc15,[286],0),
  (129,(Ckl996,[Cke381],Ckf133),870,Ckc15,[287],0),
  (129,(Ckl997,[Cke381],Ckf134),817,Ckc15,[288],0),
  (130,(Ckl973,[Cke86,Cke381],Ckf110),1294,Ckc15,[289],0),
  (130,(Ckl974,[Cke86,Cke381],Ckf111),1241,Ckc15,[290],0),
  (130,(Ckl975,[Cke86,Cke381],Ckf112),763,Ckc15,[291],0),
  (130,(Ckl976,[Cke86,Cke381],Ckf113),710,Ckc15,[292],0),
  (130,(Ckl977,[Cke86,Cke381],Ckf114),657,Ckc15,[293],0),
  (130,(Ckl978,[Cke86,Cke381],Ckf115),604,Ckc15,[294],0),
  (130,(Ckl979,[Cke86,Cke381],Ckf116),551,Ckc15,[295],0),
  (130,(Ckl980,[Cke86,Cke381],Ckf117),499,Ckc15,[296],0),
  (130,(Ckl981,[Cke86,Cke381],Ckf118),445,Ckc15,[297],0),
  (130,(Ckl982,[Cke86,Cke381],Ckf119),393,Ckc15,[298],0),
  (130,(Ckl983,[Cke86,Cke381],Ckf120),339,Ckc15,[299],0),
  (130,(Ckl984,[Cke86,Cke381],Ckf121),285,Ckc15,[300],0),
  (130,(Ckl985,[Cke86,Cke381],Ckf122),1187,Ckc15,[301],0),
  (130,(Ckl986,[Cke86,Cke381],Ckf123),232,Ckc15,[302],0),
  (130,(Ckl987,[Cke86,Cke381],Ckf124),179,Ckc15,[303],0),
  (130,(Ckl988,[Cke86,Cke381],Ckf125),126,Ckc15,[304],0),
  (130,(Ckl989,[Cke86,Cke381],Ckf126),74,Ckc15,[305],0),
  (130,(Ckl991,[Cke86,Cke381],Ckf128),1133,Ckc15,[306],0),
  (130,(Ckl992,[Cke86,Cke381],Ckf129),1080,Ckc15,[307],0),
  (130,(Ckl993,[Cke86,Cke381],Ckf130),1027,Ckc15,[308],0),
  (130,(Ckl994,[Cke86,Cke381],Ckf131),974,Ckc15,[309],0),
  (130,(Ckl995,[Cke86,Cke381],Ckf132),922,Ckc15,[310],0),
  (130,(Ckl996,[Cke86,Cke381],Ckf133),869,Ckc15,[311],0),
  (130,(Ckl997,[Cke86,Cke381],Ckf134),816,Ckc15,[312],0),
  (132,(Ckl973,[Cke419,Cke86,Cke381],Ckf110),1293,Ckc15,[313],0),
  (132,(Ckl974,[Cke419,Cke86,Cke381],Ckf111),1240,Ckc15,[314],0),
  (132,(Ckl975,[Cke419,Cke86,Cke381],Ckf112),762,Ckc15,[315],0),
  (132,(Ckl976,[Cke419,Cke86,Cke381],Ckf113),709,Ckc15,[316],0),
  (132,(Ckl977,[Cke419,Cke86,Cke381],Ckf114),656,Ckc15,[317],0),
  (132,(Ckl978,[Cke419,Cke86,Cke381],Ckf115),603,Ckc15,[318],0),
  (132,(Ckl979,[Cke419,Cke86,Cke381],Ckf116),550,Ckc15,[319],0),
  (132,(Ckl980,[Cke419,Cke86,Cke381],Ckf117),498,Ckc15,[320],0),
  (132,(Ckl981,[Cke419,Cke86,Cke381],Ckf118),444,Ckc15,[321],0),
  (132,(Ckl982,[Cke419,Cke86,Cke381],Ckf119),392,Ckc15,[322],0),
  (132,(Ckl983,[Cke419,Cke86,Cke381],Ckf120),338,Ckc15,[323],0),
  (132,(Ckl984,[Cke419,Cke86,Cke381],Ckf121),284,Ckc15,[324],0),
  (132,(Ckl985,[Cke419,Cke86,Cke381],Ckf122),1186,Ckc15,[325],0),
  (132,(Ckl986,[Cke419,Cke86,Cke381],Ckf123),231,Ckc15,[326],0),
  (132,(Ckl987,[Cke419,Cke86,Cke381],Ckf124),178,Ckc15,[327],0),
  (132,(Ckl988,[Cke419,Cke86,Cke381],Ckf125),125,Ckc15,[328],0),
  (132,(Ckl989,[Cke419,Cke86,Cke381],Ckf126),73,Ckc15,[329],0),
  (132,(Ckl991,[Cke419,Cke86,Cke381],Ckf128),1132,Ckc15,[330],0),
  (132,(Ckl992,[Cke419,Cke86,Cke381],Ckf129),1079,Ckc15,[331],0),
  (132,(Ckl993,[Cke419,Cke86,Cke381],Ckf130),1026,Ckc15,[332],0),
  (132,(Ckl994,[Cke419,Cke86,Cke381],Ckf131),973,Ckc15,[333],0),
  (132,(Ckl995,[Cke419,Cke86,Cke381],Ckf132),921,Ckc15,[334],0),
  (132,(Ckl996,[Cke419,Cke86,Cke381],Ckf133),868,Ckc15,[335],0),
  (132,(Ckl997,[Cke419,Cke86,Cke381],Ckf134),815,Ckc15,[336],0),
  (133,(Ckl973,[Cke354,Cke419,Cke86,Cke381],Ckf110),1292,Ckc15,[337],0),
  (133,(Ckl974,[Cke354,Cke419,Cke86,Cke381],Ckf111),1239,Ckc15,[338],0),
  (133,(Ckl975,[Cke354,Cke419,Cke86,Cke381],Ckf112),761,Ckc15,[339],0),
  (133,(Ckl976,[Cke354,Cke419,Cke86,Cke381],Ckf113),708,Ckc15,[340],0),
  (133,(Ckl977,[Cke354,Cke419,Cke86,Cke381],Ckf114),655,Ckc15,[341],0),
  (133,(Ckl978,[Cke354,Cke419,Cke86,Cke381],Ckf115),602,Ckc15,[342],0),
  (133,(Ckl979,[Cke354,Cke419,Cke86,Cke381],Ckf116),549,Ckc15,[343],0)]
def CNC179_5 : List ND := [(133,(Ckl980,[Cke354,Cke419,Cke86,Cke381],Ckf117),497,Ckc15,[344],0),
  (133,(Ckl981,[Cke354,Cke419,Cke86,Cke381],Ckf118),443,Ckc15,[345],0),
  (133,(Ckl982,[Cke354,Cke419,Cke86,Cke381],Ckf119),391,Ckc15,[346],0),
  (133,(Ckl983,[Cke354,Cke419,Cke86,Cke381],Ckf120),337,Ckc15,[347],0),
  (133,(Ckl984,[Cke354,Cke419,Cke86,Cke381],Ckf121),283,Ckc15,[348],0),
  (133,(Ckl985,[Cke354,Cke419,Cke86,Cke381],Ckf122),1185,Ckc15,[349],0),
  (133,(Ckl986,[Cke354,Cke419,Cke86,Cke381],Ckf123),230,Ckc15,[350],0),
  (133,(Ckl987,[Cke354,Cke419,Cke86,Cke381],Ckf124),177,Ckc15,[351],0),
  (133,(Ckl988,[Cke354,Cke419,Cke86,Cke381],Ckf125),124,Ckc15,[352],0),
  (133,(Ckl989,[Cke354,Cke419,Cke86,Cke381],Ckf126),72,Ckc15,[353],0),
  (133,(Ckl991,[Cke354,Cke419,Cke86,Cke381],Ckf128),1131,Ckc15,[354],0),
  (133,(Ckl992,[Cke354,Cke419,Cke86,Cke381],Ckf129),1078,Ckc15,[355],0),
  (133,(Ckl993,[Cke354,Cke419,Cke86,Cke381],Ckf130),1025,Ckc15,[356],0),
  (133,(Ckl994,[Cke354,Cke419,Cke86,Cke381],Ckf131),972,Ckc15,[357],0),
  (133,(Ckl995,[Cke354,Cke419,Cke86,Cke381],Ckf132),920,Ckc15,[358],0),
  (133,(Ckl996,[Cke354,Cke419,Cke86,Cke381],Ckf133),867,Ckc15,[359],0),
  (133,(Ckl997,[Cke354,Cke419,Cke86,Cke381],Ckf134),814,Ckc15,[360],0),
  (136,(Ckl973,[Cke303,Cke419,Cke86,Cke381],Ckf110),1291,Ckc15,[361],0),
  (136,(Ckl974,[Cke303,Cke419,Cke86,Cke381],Ckf111),1238,Ckc15,[362],0),
  (136,(Ckl975,[Cke303,Cke419,Cke86,Cke381],Ckf112),760,Ckc15,[363],0),
  (136,(Ckl976,[Cke303,Cke419,Cke86,Cke381],Ckf113),707,Ckc15,[364],0),
  (136,(Ckl977,[Cke303,Cke419,Cke86,Cke381],Ckf114),654,Ckc15,[365],0),
  (136,(Ckl978,[Cke303,Cke419,Cke86,Cke381],Ckf115),601,Ckc15,[366],0),
  (136,(Ckl979,[Cke303,Cke419,Cke86,Cke381],Ckf116),548,Ckc15,[367],0),
  (136,(Ckl980,[Cke303,Cke419,Cke86,Cke381],Ckf117),496,Ckc15,[368],0),
  (136,(Ckl981,[Cke303,Cke419,Cke86,Cke381],Ckf118),442,Ckc15,[369],0),
  (136,(Ckl982,[Cke303,Cke419,Cke86,Cke381],Ckf119),390,Ckc15,[370],0),
  (136,(Ckl983,[Cke303,Cke419,Cke86,Cke381],Ckf120),336,Ckc15,[371],0),
  (136,(Ckl984,[Cke303,Cke419,Cke86,Cke381],Ckf121),282,Ckc15,[372],0),
  (136,(Ckl985,[Cke303,Cke419,Cke86,Cke381],Ckf122),1184,Ckc15,[373],0),
  (136,(Ckl986,[Cke303,Cke419,Cke86,Cke381],Ckf123),229,Ckc15,[374],0),
  (136,(Ckl987,[Cke303,Cke419,Cke86,Cke381],Ckf124),176,Ckc15,[375],0),
  (136,(Ckl988,[Cke303,Cke419,Cke86,Cke381],Ckf125),123,Ckc15,[376],0),
  (136,(Ckl989,[Cke303,Cke419,Cke86,Cke381],Ckf126),71,Ckc15,[377],0),
  (136,(Ckl991,[Cke303,Cke419,Cke86,Cke381],Ckf128),1130,Ckc15,[378],0),
  (136,(Ckl992,[Cke303,Cke419,Cke86,Cke381],Ckf129),1077,Ckc15,[379],0),
  (136,(Ckl993,[Cke303,Cke419,Cke86,Cke381],Ckf130),1024,Ckc15,[380],0),
  (136,(Ckl994,[Cke303,Cke419,Cke86,Cke381],Ckf131),971,Ckc15,[381],0),
  (136,(Ckl995,[Cke303,Cke419,Cke86,Cke381],Ckf132),919,Ckc15,[382],0),
  (136,(Ckl996,[Cke303,Cke419,Cke86,Cke381],Ckf133),866,Ckc15,[383],0),
  (136,(Ckl997,[Cke303,Cke419,Cke86,Cke381],Ckf134),813,Ckc15,[384],0),
  (138,(Ckl973,[Cke312,Cke303,Cke419,Cke86,Cke381],Ckf110),1290,Ckc15,[385],178),
  (138,(Ckl974,[Cke312,Cke303,Cke419,Cke86,Cke381],Ckf111),1237,Ckc15,[386],178),
  (138,(Ckl975,[Cke312,Cke303,Cke419,Cke86,Cke381],Ckf112),759,Ckc15,[387],178),
  (138,(Ckl976,[Cke312,Cke303,Cke419,Cke86,Cke381],Ckf113),706,Ckc15,[388],178),
  (138,(Ckl977,[Cke312,Cke303,Cke419,Cke86,Cke381],Ckf114),653,Ckc15,[389],178),
  (138,(Ckl978,[Cke312,Cke303,Cke419,Cke86,Cke381],Ckf115),600,Ckc15,[390],178),
  (138,(Ckl979,[Cke312,Cke303,Cke419,Cke86,Cke381],Ckf116),547,Ckc15,[391],178),
  (138,(Ckl980,[Cke312,Cke303,Cke419,Cke86,Cke381],Ckf117),495,Ckc15,[392],178),
  (138,(Ckl981,[Cke312,Cke303,Cke419,Cke86,Cke381],Ckf118),441,Ckc15,[393],178),
  (138,(Ckl982,[Cke312,Cke303,Cke419,Cke86,Cke381],Ckf119),389,Ckc15,[394],178),
  (138,(Ckl983,[Cke312,Cke303,Cke419,Cke86,Cke381],Ckf120),335,Ckc15,[395],178),
  (138,(Ckl984,[Cke312,Cke303,Cke419,Cke86,Cke381],Ckf121),281,Ckc15,[396],178),
  (138,(Ckl985,[Cke312,Cke303,Cke419,Cke86,Cke381],Ckf122),1183,Ckc15,[397],178),
  (138,(Ckl986,[Cke312,Cke303,Cke419,Cke86,Cke381],Ckf123),228,Ckc15,[398],178),
  (138,(Ckl987,[Cke312,Cke303,Cke419,Cke86,Cke381],Ckf124),175,Ckc15,[399],178),
  (138,(Ckl988,[Cke312,Cke303,Cke419,Cke86,Cke381],Ckf125),122,Ckc15,[400],178),
  (138,(Ckl989,[Cke312,Cke303,Cke419,Cke86,Cke381],Ckf126),70,Ckc15,[401],178),
  (138,(Ckl991,[Cke312,Cke303,Cke419,Cke86,Cke381],Ckf128),1129,Ckc15,[402],178),
  (138,(Ckl992,[Cke312,Cke303,Cke419,Cke86,Cke381],Ckf129),1076,Ckc15,[403],178),
  (138,(Ckl993,[Cke312,Cke303,Cke419,Cke86,Cke381],Ckf130),1023,Ckc15,[404],178),
  (138,(Ckl994,[Cke312,Cke303,Cke419,Cke86,Cke381],Ckf131),970,Ckc15,[405],178),
  (138,(Ckl995,[Cke312,Cke303,Cke419,Cke86,Cke381],Ckf132),918,Ckc15,[406],178),
  (138,(Ckl996,[Cke312,Cke303,Cke419,Cke86,Cke381],Ckf133),865,Ckc15,[407],178)]
def CNC179_6 : List ND := [(138,(Ckl997,[Cke312,Cke303,Cke419,Cke86,Cke381],Ckf134),812,Ckc15,[408],178),
  (141,(Ckl973,[Cke88],Ckf110),1289,Ckc15,[409],0),
  (141,(Ckl974,[Cke88],Ckf111),1236,Ckc15,[410],0),
  (141,(Ckl975,[Cke88],Ckf112),758,Ckc15,[411],0),
  (141,(Ckl976,[Cke88],Ckf113),705,Ckc15,[412],0),
  (141,(Ckl977,[Cke88],Ckf114),652,Ckc15,[413],0),
  (141,(Ckl978,[Cke88],Ckf115),599,Ckc15,[414],0),
  (141,(Ckl979,[Cke88],Ckf116),546,Ckc15,[415],0),
  (141,(Ckl980,[Cke88],Ckf117),494,Ckc15,[416],0),
  (141,(Ckl981,[Cke88],Ckf118),440,Ckc15,[417],0),
  (141,(Ckl982,[Cke88],Ckf119),388,Ckc15,[418],0),
  (141,(Ckl983,[Cke88],Ckf120),334,Ckc15,[419],0),
  (141,(Ckl984,[Cke88],Ckf121),280,Ckc15,[420],0),
  (141,(Ckl985,[Cke88],Ckf122),1182,Ckc15,[421],0),
  (141,(Ckl986,[Cke88],Ckf123),227,Ckc15,[422],0),
  (141,(Ckl987,[Cke88],Ckf124),174,Ckc15,[423],0),
  (141,(Ckl988,[Cke88],Ckf125),121,Ckc15,[424],0),
  (141,(Ckl989,[Cke88],Ckf126),69,Ckc15,[425],0),
  (141,(Ckl991,[Cke88],Ckf128),1128,Ckc15,[426],0),
  (141,(Ckl992,[Cke88],Ckf129),1075,Ckc15,[427],0),
  (141,(Ckl993,[Cke88],Ckf130),1022,Ckc15,[428],0),
  (141,(Ckl994,[Cke88],Ckf131),969,Ckc15,[429],0),
  (141,(Ckl995,[Cke88],Ckf132),917,Ckc15,[430],0),
  (141,(Ckl996,[Cke88],Ckf133),864,Ckc15,[431],0),
  (141,(Ckl997,[Cke88],Ckf134),811,Ckc15,[432],0),
  (143,(Ckl998,[],Ckf110),1288,Ckc15,[433],0),
  (143,(Ckl999,[],Ckf111),1235,Ckc15,[434],0),
  (143,(Ckl1000,[],Ckf112),757,Ckc15,[435],0),
  (143,(Ckl1001,[],Ckf113),704,Ckc15,[436],0),
  (143,(Ckl1002,[],Ckf114),651,Ckc15,[437],0),
  (143,(Ckl1003,[],Ckf115),598,Ckc15,[438],0),
  (143,(Ckl1004,[],Ckf116),545,Ckc15,[439],0),
  (143,(Ckl1005,[],Ckf117),493,Ckc15,[440],0),
  (143,(Ckl1006,[],Ckf118),439,Ckc15,[441],0),
  (143,(Ckl1007,[],Ckf119),387,Ckc15,[442],0),
  (143,(Ckl1008,[],Ckf120),333,Ckc15,[443],0),
  (143,(Ckl1009,[],Ckf121),279,Ckc15,[444],0),
  (143,(Ckl1010,[],Ckf122),1181,Ckc15,[445],0),
  (143,(Ckl1011,[],Ckf123),226,Ckc15,[446],0),
  (143,(Ckl1012,[],Ckf124),173,Ckc15,[447],0),
  (143,(Ckl1013,[],Ckf125),120,Ckc15,[448],0),
  (143,(Ckl1014,[],Ckf126),68,Ckc15,[449],0),
  (143,(Ckl1015,[],Ckf128),1127,Ckc15,[450],0),
  (143,(Ckl1016,[],Ckf129),1074,Ckc15,[451],0),
  (143,(Ckl1017,[],Ckf130),1021,Ckc15,[452],0),
  (143,(Ckl1018,[],Ckf131),968,Ckc15,[453],0),
  (143,(Ckl1019,[],Ckf132),916,Ckc15,[454],0),
  (143,(Ckl1020,[],Ckf133),863,Ckc15,[455],0),
  (143,(Ckl1021,[],Ckf134),810,Ckc15,[456],0),
  (145,(Ckl998,[Cke469],Ckf110),1287,Ckc15,[457],0),
  (145,(Ckl999,[Cke469],Ckf111),1234,Ckc15,[458],0),
  (145,(Ckl1000,[Cke469],Ckf112),756,Ckc15,[459],0),
  (145,(Ckl1001,[Cke469],Ckf113),703,Ckc15,[460],0),
  (145,(Ckl1002,[Cke469],Ckf114),650,Ckc15,[461],0),
  (145,(Ckl1003,[Cke469],Ckf115),597,Ckc15,[462],0),
  (145,(Ckl1004,[Cke469],Ckf116),544,Ckc15,[463],0),
  (145,(Ckl1005,[Cke469],Ckf117),492,Ckc15,[464],0),
  (145,(Ckl1006,[Cke469],Ckf118),438,Ckc15,[465],0),
  (145,(Ckl1007,[Cke469],Ckf119),386,Ckc15,[466],0),
  (145,(Ckl1008,[Cke469],Ckf120),332,Ckc15,[467],0),
  (145,(Ckl1009,[Cke469],Ckf121),278,Ckc15,[468],0),
  (145,(Ckl1010,[Cke469],Ckf122),1180,Ckc15,[469],0),
  (145,(Ckl1011,[Cke469],Ckf123),225,Ckc15,[470],0),
  (145,(Ckl1012,[Cke469],Ckf124),172,Ckc15,[471],0)]
def CNC179_7 : List ND := [(145,(Ckl1013,[Cke469],Ckf125),119,Ckc15,[472],0),
  (145,(Ckl1014,[Cke469],Ckf126),67,Ckc15,[473],0),
  (145,(Ckl1015,[Cke469],Ckf128),1126,Ckc15,[474],0),
  (145,(Ckl1016,[Cke469],Ckf129),1073,Ckc15,[475],0),
  (145,(Ckl1017,[Cke469],Ckf130),1020,Ckc15,[476],0),
  (145,(Ckl1018,[Cke469],Ckf131),967,Ckc15,[477],0),
  (145,(Ckl1019,[Cke469],Ckf132),915,Ckc15,[478],0),
  (145,(Ckl1020,[Cke469],Ckf133),862,Ckc15,[479],0),
  (145,(Ckl1021,[Cke469],Ckf134),809,Ckc15,[480],0),
  (146,(Ckl998,[Cke51,Cke469],Ckf110),1286,Ckc15,[505,481],0),
  (146,(Ckl999,[Cke51,Cke469],Ckf111),1233,Ckc15,[506,482],0),
  (146,(Ckl1000,[Cke51,Cke469],Ckf112),755,Ckc15,[507,483],0),
  (146,(Ckl1001,[Cke51,Cke469],Ckf113),702,Ckc15,[508,484],0),
  (146,(Ckl1002,[Cke51,Cke469],Ckf114),649,Ckc15,[509,485],0),
  (146,(Ckl1003,[Cke51,Cke469],Ckf115),596,Ckc15,[510,486],0),
  (146,(Ckl1004,[Cke51,Cke469],Ckf116),543,Ckc15,[511,487],0),
  (146,(Ckl1005,[Cke51,Cke469],Ckf117),491,Ckc15,[512,488],0),
  (146,(Ckl1006,[Cke51,Cke469],Ckf118),437,Ckc15,[513,489],0),
  (146,(Ckl1007,[Cke51,Cke469],Ckf119),385,Ckc15,[514,490],0),
  (146,(Ckl1008,[Cke51,Cke469],Ckf120),331,Ckc15,[515,491],0),
  (146,(Ckl1009,[Cke51,Cke469],Ckf121),277,Ckc15,[516,492],0),
  (146,(Ckl1010,[Cke51,Cke469],Ckf122),1179,Ckc15,[517,493],0),
  (146,(Ckl1011,[Cke51,Cke469],Ckf123),224,Ckc15,[518,494],0),
  (146,(Ckl1012,[Cke51,Cke469],Ckf124),171,Ckc15,[519,495],0),
  (146,(Ckl1013,[Cke51,Cke469],Ckf125),118,Ckc15,[520,496],0),
  (146,(Ckl1014,[Cke51,Cke469],Ckf126),66,Ckc15,[521,497],0),
  (146,(Ckl1015,[Cke51,Cke469],Ckf128),1125,Ckc15,[522,498],0),
  (146,(Ckl1016,[Cke51,Cke469],Ckf129),1072,Ckc15,[523,499],0),
  (146,(Ckl1017,[Cke51,Cke469],Ckf130),1019,Ckc15,[524,500],0),
  (146,(Ckl1018,[Cke51,Cke469],Ckf131),966,Ckc15,[525,501],0),
  (146,(Ckl1019,[Cke51,Cke469],Ckf132),914,Ckc15,[526,502],0),
  (146,(Ckl1020,[Cke51,Cke469],Ckf133),861,Ckc15,[527,503],0),
  (146,(Ckl1021,[Cke51,Cke469],Ckf134),808,Ckc15,[528,504],0),
  (149,(Ckl1022,[],Ckf110),1,Ckc15,[],0),
  (149,(Ckl1023,[],Ckf111),1232,Ckc15,[],0),
  (149,(Ckl1024,[],Ckf112),10,Ckc15,[],0),
  (149,(Ckl1025,[],Ckf113),11,Ckc15,[],0),
  (149,(Ckl1026,[],Ckf114),12,Ckc15,[],0),
  (149,(Ckl1027,[],Ckf115),13,Ckc15,[],0),
  (149,(Ckl1028,[],Ckf116),14,Ckc15,[],0),
  (149,(Ckl1029,[],Ckf117),490,Ckc15,[],0),
  (149,(Ckl1030,[],Ckf118),16,Ckc15,[],0),
  (149,(Ckl1031,[],Ckf119),384,Ckc15,[],0),
  (149,(Ckl1032,[],Ckf120),330,Ckc15,[],0),
  (149,(Ckl1033,[],Ckf121),18,Ckc15,[],0),
  (149,(Ckl1034,[],Ckf122),1178,Ckc15,[],0),
  (149,(Ckl1035,[],Ckf123),19,Ckc15,[],0),
  (149,(Ckl1036,[],Ckf124),170,Ckc15,[],0),
  (149,(Ckl1037,[],Ckf125),21,Ckc15,[],0),
  (149,(Ckl1038,[],Ckf126),65,Ckc15,[],0),
  (149,(Ckl1039,[],Ckf128),2,Ckc15,[],0),
  (149,(Ckl1040,[],Ckf129),3,Ckc15,[],0),
  (149,(Ckl1041,[],Ckf130),4,Ckc15,[],0),
  (149,(Ckl1042,[],Ckf131),5,Ckc15,[],0),
  (149,(Ckl1043,[],Ckf132),7,Ckc15,[],0),
  (149,(Ckl1044,[],Ckf133),8,Ckc15,[],0),
  (149,(Ckl1045,[],Ckf134),9,Ckc15,[],0),
  (150,(Ckl1046,[],Ckf110),1285,Ckc15,[529],0),
  (150,(Ckl974,[],Ckf111),1231,Ckc15,[530],0),
  (150,(Ckl975,[],Ckf112),754,Ckc15,[531],0),
  (150,(Ckl976,[],Ckf113),701,Ckc15,[532],0),
  (150,(Ckl977,[],Ckf114),648,Ckc15,[533],0),
  (150,(Ckl978,[],Ckf115),595,Ckc15,[534],0),
  (150,(Ckl979,[],Ckf116),542,Ckc15,[535],0)]
def CNC179_8 : List ND := [(150,(Ckl980,[],Ckf117),489,Ckc15,[536],0),
  (150,(Ckl981,[],Ckf118),436,Ckc15,[537],0),
  (150,(Ckl982,[],Ckf119),383,Ckc15,[538],0),
  (150,(Ckl983,[],Ckf120),329,Ckc15,[539],0),
  (150,(Ckl984,[],Ckf121),276,Ckc15,[540],0),
  (150,(Ckl985,[],Ckf122),1177,Ckc15,[541],0),
  (150,(Ckl986,[],Ckf123),223,Ckc15,[542],0),
  (150,(Ckl987,[],Ckf124),169,Ckc15,[543],0),
  (150,(Ckl988,[],Ckf125),117,Ckc15,[544],0),
  (150,(Ckl989,[],Ckf126),64,Ckc15,[545],0),
  (150,(Ckl991,[],Ckf128),1124,Ckc15,[546],0),
  (150,(Ckl992,[],Ckf129),1071,Ckc15,[547],0),
  (150,(Ckl993,[],Ckf130),1018,Ckc15,[548],0),
  (150,(Ckl994,[],Ckf131),965,Ckc15,[549],0),
  (150,(Ckl995,[],Ckf132),913,Ckc15,[550],0),
  (150,(Ckl996,[],Ckf133),860,Ckc15,[551],0),
  (150,(Ckl997,[],Ckf134),807,Ckc15,[552],0),
  (151,(Ckl1046,[Cke381],Ckf110),1284,Ckc15,[553],0),
  (151,(Ckl974,[Cke381],Ckf111),1230,Ckc15,[554],0),
  (151,(Ckl975,[Cke381],Ckf112),753,Ckc15,[555],0),
  (151,(Ckl976,[Cke381],Ckf113),700,Ckc15,[556],0),
  (151,(Ckl977,[Cke381],Ckf114),647,Ckc15,[557],0),
  (151,(Ckl978,[Cke381],Ckf115),594,Ckc15,[558],0),
  (151,(Ckl979,[Cke381],Ckf116),541,Ckc15,[559],0),
  (151,(Ckl980,[Cke381],Ckf117),488,Ckc15,[560],0),
  (151,(Ckl981,[Cke381],Ckf118),435,Ckc15,[561],0),
  (151,(Ckl982,[Cke381],Ckf119),382,Ckc15,[562],0),
  (151,(Ckl983,[Cke381],Ckf120),328,Ckc15,[563],0),
  (151,(Ckl984,[Cke381],Ckf121),275,Ckc15,[564],0),
  (151,(Ckl985,[Cke381],Ckf122),1176,Ckc15,[565],0),
  (151,(Ckl986,[Cke381],Ckf123),222,Ckc15,[566],0),
  (151,(Ckl987,[Cke381],Ckf124),168,Ckc15,[567],0),
  (151,(Ckl988,[Cke381],Ckf125),116,Ckc15,[568],0),
  (151,(Ckl989,[Cke381],Ckf126),63,Ckc15,[569],0),
  (151,(Ckl991,[Cke381],Ckf128),1123,Ckc15,[570],0),
  (151,(Ckl992,[Cke381],Ckf129),1070,Ckc15,[571],0),
  (151,(Ckl993,[Cke381],Ckf130),1017,Ckc15,[572],0),
  (151,(Ckl994,[Cke381],Ckf131),964,Ckc15,[573],0),
  (151,(Ckl995,[Cke381],Ckf132),912,Ckc15,[574],0),
  (151,(Ckl996,[Cke381],Ckf133),859,Ckc15,[575],0),
  (151,(Ckl997,[Cke381],Ckf134),806,Ckc15,[576],0),
  (154,(Ckl1046,[Cke470],Ckf110),1283,Ckc15,[577],0),
  (154,(Ckl974,[Cke470],Ckf111),1229,Ckc15,[578],0),
  (154,(Ckl975,[Cke470],Ckf112),752,Ckc15,[579],0),
  (154,(Ckl976,[Cke470],Ckf113),699,Ckc15,[580],0),
  (154,(Ckl977,[Cke470],Ckf114),646,Ckc15,[581],0),
  (154,(Ckl978,[Cke470],Ckf115),593,Ckc15,[582],0),
  (154,(Ckl979,[Cke470],Ckf116),540,Ckc15,[583],0),
  (154,(Ckl980,[Cke470],Ckf117),487,Ckc15,[584],0),
  (154,(Ckl981,[Cke470],Ckf118),434,Ckc15,[585],0),
  (154,(Ckl982,[Cke470],Ckf119),381,Ckc15,[586],0),
  (154,(Ckl983,[Cke470],Ckf120),327,Ckc15,[587],0),
  (154,(Ckl984,[Cke470],Ckf121),274,Ckc15,[588],0),
  (154,(Ckl985,[Cke470],Ckf122),1175,Ckc15,[589],0),
  (154,(Ckl986,[Cke470],Ckf123),221,Ckc15,[590],0),
  (154,(Ckl987,[Cke470],Ckf124),167,Ckc15,[591],0),
  (154,(Ckl988,[Cke470],Ckf125),115,Ckc15,[592],0),
  (154,(Ckl989,[Cke470],Ckf126),62,Ckc15,[593],0),
  (154,(Ckl991,[Cke470],Ckf128),1122,Ckc15,[594],0),
  (154,(Ckl992,[Cke470],Ckf129),1069,Ckc15,[595],0),
  (154,(Ckl993,[Cke470],Ckf130),1016,Ckc15,[596],0),
  (154,(Ckl994,[Cke470],Ckf131),963,Ckc15,[597],0),
  (154,(Ckl995,[Cke470],Ckf132),911,Ckc15,[598],0),
  (154,(Ckl996,[Cke470],Ckf133),858,Ckc15,[599],0)]
def CNC179_9 : List ND := [(154,(Ckl997,[Cke470],Ckf134),805,Ckc15,[600],0),
  (155,(Ckl1046,[Cke381,Cke470],Ckf110),1282,Ckc15,[601],0),
  (155,(Ckl974,[Cke381,Cke470],Ckf111),1228,Ckc15,[602],0),
  (155,(Ckl975,[Cke381,Cke470],Ckf112),751,Ckc15,[603],0),
  (155,(Ckl976,[Cke381,Cke470],Ckf113),698,Ckc15,[604],0),
  (155,(Ckl977,[Cke381,Cke470],Ckf114),645,Ckc15,[605],0),
  (155,(Ckl978,[Cke381,Cke470],Ckf115),592,Ckc15,[606],0),
  (155,(Ckl979,[Cke381,Cke470],Ckf116),539,Ckc15,[607],0),
  (155,(Ckl980,[Cke381,Cke470],Ckf117),486,Ckc15,[608],0),
  (155,(Ckl981,[Cke381,Cke470],Ckf118),433,Ckc15,[609],0),
  (155,(Ckl982,[Cke381,Cke470],Ckf119),380,Ckc15,[610],0),
  (155,(Ckl983,[Cke381,Cke470],Ckf120),326,Ckc15,[611],0),
  (155,(Ckl984,[Cke381,Cke470],Ckf121),273,Ckc15,[612],0),
  (155,(Ckl985,[Cke381,Cke470],Ckf122),1174,Ckc15,[613],0),
  (155,(Ckl986,[Cke381,Cke470],Ckf123),220,Ckc15,[614],0),
  (155,(Ckl987,[Cke381,Cke470],Ckf124),166,Ckc15,[615],0),
  (155,(Ckl988,[Cke381,Cke470],Ckf125),114,Ckc15,[616],0),
  (155,(Ckl989,[Cke381,Cke470],Ckf126),61,Ckc15,[617],0),
  (155,(Ckl991,[Cke381,Cke470],Ckf128),1121,Ckc15,[618],0),
  (155,(Ckl992,[Cke381,Cke470],Ckf129),1068,Ckc15,[619],0),
  (155,(Ckl993,[Cke381,Cke470],Ckf130),1015,Ckc15,[620],0),
  (155,(Ckl994,[Cke381,Cke470],Ckf131),962,Ckc15,[621],0),
  (155,(Ckl995,[Cke381,Cke470],Ckf132),910,Ckc15,[622],0),
  (155,(Ckl996,[Cke381,Cke470],Ckf133),857,Ckc15,[623],0),
  (155,(Ckl997,[Cke381,Cke470],Ckf134),804,Ckc15,[624],0),
  (158,(Ckl1046,[Cke471,Cke470],Ckf110),1281,Ckc15,[625],0),
  (158,(Ckl974,[Cke472,Cke470],Ckf111),1227,Ckc15,[626],0),
  (158,(Ckl975,[Cke473,Cke470],Ckf112),750,Ckc15,[627],0),
  (158,(Ckl976,[Cke474,Cke470],Ckf113),697,Ckc15,[628],0),
  (158,(Ckl977,[Cke475,Cke470],Ckf114),644,Ckc15,[629],0),
  (158,(Ckl978,[Cke476,Cke470],Ckf115),591,Ckc15,[630],0),
  (158,(Ckl979,[Cke477,Cke470],Ckf116),538,Ckc15,[631],0),
  (158,(Ckl980,[Cke478,Cke470],Ckf117),485,Ckc15,[632],0),
  (158,(Ckl981,[Cke479,Cke470],Ckf118),432,Ckc15,[633],0),
  (158,(Ckl982,[Cke480,Cke470],Ckf119),379,Ckc15,[634],0),
  (158,(Ckl983,[Cke481,Cke470],Ckf120),325,Ckc15,[635],0),
  (158,(Ckl984,[Cke482,Cke470],Ckf121),272,Ckc15,[636],0),
  (158,(Ckl985,[Cke483,Cke470],Ckf122),1173,Ckc15,[637],0),
  (158,(Ckl986,[Cke484,Cke470],Ckf123),219,Ckc15,[638],0),
  (158,(Ckl987,[Cke485,Cke470],Ckf124),165,Ckc15,[639],0),
  (158,(Ckl988,[Cke486,Cke470],Ckf125),113,Ckc15,[640],0),
  (158,(Ckl989,[Cke487,Cke470],Ckf126),60,Ckc15,[641],0),
  (158,(Ckl991,[Cke488,Cke470],Ckf128),1120,Ckc15,[642],0),
  (158,(Ckl992,[Cke489,Cke470],Ckf129),1067,Ckc15,[643],0),
  (158,(Ckl993,[Cke490,Cke470],Ckf130),1014,Ckc15,[644],0),
  (158,(Ckl994,[Cke491,Cke470],Ckf131),961,Ckc15,[645],0),
  (158,(Ckl995,[Cke492,Cke470],Ckf132),909,Ckc15,[646],0),
  (158,(Ckl996,[Cke493,Cke470],Ckf133),856,Ckc15,[647],0),
  (158,(Ckl997,[Cke494,Cke470],Ckf134),803,Ckc15,[648],0),
  (160,(Ckl1046,[Cke495,Cke471,Cke470],Ckf110),1280,Ckc15,[649],0),
  (160,(Ckl974,[Cke495,Cke472,Cke470],Ckf111),1226,Ckc15,[650],0),
  (160,(Ckl975,[Cke495,Cke473,Cke470],Ckf112),749,Ckc15,[651],0),
  (160,(Ckl976,[Cke495,Cke474,Cke470],Ckf113),696,Ckc15,[652],0),
  (160,(Ckl977,[Cke495,Cke475,Cke470],Ckf114),643,Ckc15,[653],0),
  (160,(Ckl978,[Cke495,Cke476,Cke470],Ckf115),590,Ckc15,[654],0),
  (160,(Ckl979,[Cke495,Cke477,Cke470],Ckf116),537,Ckc15,[655],0),
  (160,(Ckl980,[Cke495,Cke478,Cke470],Ckf117),484,Ckc15,[656],0),
  (160,(Ckl981,[Cke495,Cke479,Cke470],Ckf118),431,Ckc15,[657],0),
  (160,(Ckl982,[Cke495,Cke480,Cke470],Ckf119),378,Ckc15,[658],0),
  (160,(Ckl983,[Cke495,Cke481,Cke470],Ckf120),324,Ckc15,[659],0),
  (160,(Ckl984,[Cke495,Cke482,Cke470],Ckf121),271,Ckc15,[660],0),
  (160,(Ckl985,[Cke495,Cke483,Cke470],Ckf122),1172,Ckc15,[661],0),
  (160,(Ckl986,[Cke495,Cke484,Cke470],Ckf123),218,Ckc15,[662],0),
  (160,(Ckl987,[Cke495,Cke485,Cke470],Ckf124),164,Ckc15,[663],0)]
def CNC179_10 : List ND := [(160,(Ckl988,[Cke495,Cke486,Cke470],Ckf125),112,Ckc15,[664],0),
  (160,(Ckl989,[Cke495,Cke487,Cke470],Ckf126),59,Ckc15,[665],0),
  (160,(Ckl991,[Cke495,Cke488,Cke470],Ckf128),1119,Ckc15,[666],0),
  (160,(Ckl992,[Cke495,Cke489,Cke470],Ckf129),1066,Ckc15,[667],0),
  (160,(Ckl993,[Cke495,Cke490,Cke470],Ckf130),1013,Ckc15,[668],0),
  (160,(Ckl994,[Cke495,Cke491,Cke470],Ckf131),960,Ckc15,[669],0),
  (160,(Ckl995,[Cke495,Cke492,Cke470],Ckf132),908,Ckc15,[670],0),
  (160,(Ckl996,[Cke495,Cke493,Cke470],Ckf133),855,Ckc15,[671],0),
  (160,(Ckl997,[Cke495,Cke494,Cke470],Ckf134),802,Ckc15,[672],0),
  (161,(Ckl1046,[],Ckf110),1279,Ckc15,[673],0),
  (161,(Ckl974,[],Ckf111),1225,Ckc15,[674],0),
  (161,(Ckl975,[],Ckf112),748,Ckc15,[675],0),
  (161,(Ckl976,[],Ckf113),695,Ckc15,[676],0),
  (161,(Ckl977,[],Ckf114),642,Ckc15,[677],0),
  (161,(Ckl978,[],Ckf115),589,Ckc15,[678],0),
  (161,(Ckl979,[],Ckf116),536,Ckc15,[679],0),
  (161,(Ckl980,[],Ckf117),483,Ckc15,[680],0),
  (161,(Ckl981,[],Ckf118),430,Ckc15,[681],0),
  (161,(Ckl982,[],Ckf119),377,Ckc15,[682],0),
  (161,(Ckl983,[],Ckf120),323,Ckc15,[683],0),
  (161,(Ckl984,[],Ckf121),270,Ckc15,[684],0),
  (161,(Ckl985,[],Ckf122),1171,Ckc15,[685],0),
  (161,(Ckl986,[],Ckf123),217,Ckc15,[686],0),
  (161,(Ckl987,[],Ckf124),163,Ckc15,[687],0),
  (161,(Ckl988,[],Ckf125),111,Ckc15,[688],0),
  (161,(Ckl989,[],Ckf126),58,Ckc15,[689],0),
  (161,(Ckl991,[],Ckf128),1118,Ckc15,[690],0),
  (161,(Ckl992,[],Ckf129),1065,Ckc15,[691],0),
  (161,(Ckl993,[],Ckf130),1012,Ckc15,[692],0),
  (161,(Ckl994,[],Ckf131),959,Ckc15,[693],0),
  (161,(Ckl995,[],Ckf132),907,Ckc15,[694],0),
  (161,(Ckl996,[],Ckf133),854,Ckc15,[695],0),
  (161,(Ckl997,[],Ckf134),801,Ckc15,[696],0),
  (162,(Ckl1046,[Cke381],Ckf110),1278,Ckc15,[697],0),
  (162,(Ckl974,[Cke381],Ckf111),1224,Ckc15,[698],0),
  (162,(Ckl975,[Cke381],Ckf112),747,Ckc15,[699],0),
  (162,(Ckl976,[Cke381],Ckf113),694,Ckc15,[700],0),
  (162,(Ckl977,[Cke381],Ckf114),641,Ckc15,[701],0),
  (162,(Ckl978,[Cke381],Ckf115),588,Ckc15,[702],0),
  (162,(Ckl979,[Cke381],Ckf116),535,Ckc15,[703],0),
  (162,(Ckl980,[Cke381],Ckf117),482,Ckc15,[704],0),
  (162,(Ckl981,[Cke381],Ckf118),429,Ckc15,[705],0),
  (162,(Ckl982,[Cke381],Ckf119),376,Ckc15,[706],0),
  (162,(Ckl983,[Cke381],Ckf120),322,Ckc15,[707],0),
  (162,(Ckl984,[Cke381],Ckf121),269,Ckc15,[708],0),
  (162,(Ckl985,[Cke381],Ckf122),1170,Ckc15,[709],0),
  (162,(Ckl986,[Cke381],Ckf123),216,Ckc15,[710],0),
  (162,(Ckl987,[Cke381],Ckf124),162,Ckc15,[711],0),
  (162,(Ckl988,[Cke381],Ckf125),110,Ckc15,[712],0),
  (162,(Ckl989,[Cke381],Ckf126),57,Ckc15,[713],0),
  (162,(Ckl991,[Cke381],Ckf128),1117,Ckc15,[714],0),
  (162,(Ckl992,[Cke381],Ckf129),1064,Ckc15,[715],0),
  (162,(Ckl993,[Cke381],Ckf130),1011,Ckc15,[716],0),
  (162,(Ckl994,[Cke381],Ckf131),958,Ckc15,[717],0),
  (162,(Ckl995,[Cke381],Ckf132),906,Ckc15,[718],0),
  (162,(Ckl996,[Cke381],Ckf133),853,Ckc15,[719],0),
  (162,(Ckl997,[Cke381],Ckf134),800,Ckc15,[720],0),
  (163,(Ckl1046,[Cke381,Cke381],Ckf110),1277,Ckc15,[721],0),
  (163,(Ckl974,[Cke381,Cke381],Ckf111),1223,Ckc15,[722],0),
  (163,(Ckl975,[Cke381,Cke381],Ckf112),746,Ckc15,[723],0),
  (163,(Ckl976,[Cke381,Cke381],Ckf113),693,Ckc15,[724],0),
  (163,(Ckl977,[Cke381,Cke381],Ckf114),640,Ckc15,[725],0),
  (163,(Ckl978,[Cke381,Cke381],Ckf115),587,Ckc15,[726],0),
  (163,(Ckl979,[Cke381,Cke381],Ckf116),534,Ckc15,[727],0)]
def CNC179_11 : List ND := [(163,(Ckl980,[Cke381,Cke381],Ckf117),481,Ckc15,[728],0),
  (163,(Ckl981,[Cke381,Cke381],Ckf118),428,Ckc15,[729],0),
  (163,(Ckl982,[Cke381,Cke381],Ckf119),375,Ckc15,[730],0),
  (163,(Ckl983,[Cke381,Cke381],Ckf120),321,Ckc15,[731],0),
  (163,(Ckl984,[Cke381,Cke381],Ckf121),268,Ckc15,[732],0),
  (163,(Ckl985,[Cke381,Cke381],Ckf122),1169,Ckc15,[733],0),
  (163,(Ckl986,[Cke381,Cke381],Ckf123),215,Ckc15,[734],0),
  (163,(Ckl987,[Cke381,Cke381],Ckf124),161,Ckc15,[735],0),
  (163,(Ckl988,[Cke381,Cke381],Ckf125),109,Ckc15,[736],0),
  (163,(Ckl989,[Cke381,Cke381],Ckf126),56,Ckc15,[737],0),
  (163,(Ckl991,[Cke381,Cke381],Ckf128),1116,Ckc15,[738],0),
  (163,(Ckl992,[Cke381,Cke381],Ckf129),1063,Ckc15,[739],0),
  (163,(Ckl993,[Cke381,Cke381],Ckf130),1010,Ckc15,[740],0),
  (163,(Ckl994,[Cke381,Cke381],Ckf131),957,Ckc15,[741],0),
  (163,(Ckl995,[Cke381,Cke381],Ckf132),905,Ckc15,[742],0),
  (163,(Ckl996,[Cke381,Cke381],Ckf133),852,Ckc15,[743],0),
  (163,(Ckl997,[Cke381,Cke381],Ckf134),799,Ckc15,[744],0),
  (166,(Ckl1046,[Cke471,Cke381],Ckf110),1276,Ckc15,[745],0),
  (166,(Ckl974,[Cke472,Cke381],Ckf111),1222,Ckc15,[746],0),
  (166,(Ckl975,[Cke473,Cke381],Ckf112),745,Ckc15,[747],0),
  (166,(Ckl976,[Cke474,Cke381],Ckf113),692,Ckc15,[748],0),
  (166,(Ckl977,[Cke475,Cke381],Ckf114),639,Ckc15,[749],0),
  (166,(Ckl978,[Cke476,Cke381],Ckf115),586,Ckc15,[750],0),
  (166,(Ckl979,[Cke477,Cke381],Ckf116),533,Ckc15,[751],0),
  (166,(Ckl980,[Cke478,Cke381],Ckf117),480,Ckc15,[752],0),
  (166,(Ckl981,[Cke479,Cke381],Ckf118),427,Ckc15,[753],0),
  (166,(Ckl982,[Cke480,Cke381],Ckf119),374,Ckc15,[754],0),
  (166,(Ckl983,[Cke481,Cke381],Ckf120),320,Ckc15,[755],0),
  (166,(Ckl984,[Cke482,Cke381],Ckf121),267,Ckc15,[756],0),
  (166,(Ckl985,[Cke483,Cke381],Ckf122),1168,Ckc15,[757],0),
  (166,(Ckl986,[Cke484,Cke381],Ckf123),214,Ckc15,[758],0),
  (166,(Ckl987,[Cke485,Cke381],Ckf124),160,Ckc15,[759],0),
  (166,(Ckl988,[Cke486,Cke381],Ckf125),108,Ckc15,[760],0),
  (166,(Ckl989,[Cke487,Cke381],Ckf126),55,Ckc15,[761],0),
  (166,(Ckl991,[Cke488,Cke381],Ckf128),1115,Ckc15,[762],0),
  (166,(Ckl992,[Cke489,Cke381],Ckf129),1062,Ckc15,[763],0),
  (166,(Ckl993,[Cke490,Cke381],Ckf130),1009,Ckc15,[764],0),
  (166,(Ckl994,[Cke491,Cke381],Ckf131),956,Ckc15,[765],0),
  (166,(Ckl995,[Cke492,Cke381],Ckf132),904,Ckc15,[766],0),
  (166,(Ckl996,[Cke493,Cke381],Ckf133),851,Ckc15,[767],0),
  (166,(Ckl997,[Cke494,Cke381],Ckf134),798,Ckc15,[768],0),
  (167,(Ckl1046,[Cke6,Cke471,Cke381],Ckf110),1275,Ckc15,[769],0),
  (167,(Ckl974,[Cke6,Cke472,Cke381],Ckf111),1221,Ckc15,[770],0),
  (167,(Ckl975,[Cke6,Cke473,Cke381],Ckf112),744,Ckc15,[771],0),
  (167,(Ckl976,[Cke6,Cke474,Cke381],Ckf113),691,Ckc15,[772],0),
  (167,(Ckl977,[Cke6,Cke475,Cke381],Ckf114),638,Ckc15,[773],0),
  (167,(Ckl978,[Cke6,Cke476,Cke381],Ckf115),585,Ckc15,[774],0),
  (167,(Ckl979,[Cke6,Cke477,Cke381],Ckf116),532,Ckc15,[775],0),
  (167,(Ckl980,[Cke6,Cke478,Cke381],Ckf117),479,Ckc15,[776],0),
  (167,(Ckl981,[Cke6,Cke479,Cke381],Ckf118),426,Ckc15,[777],0),
  (167,(Ckl982,[Cke6,Cke480,Cke381],Ckf119),373,Ckc15,[778],0),
  (167,(Ckl983,[Cke6,Cke481,Cke381],Ckf120),319,Ckc15,[779],0),
  (167,(Ckl984,[Cke6,Cke482,Cke381],Ckf121),266,Ckc15,[780],0),
  (167,(Ckl985,[Cke6,Cke483,Cke381],Ckf122),1167,Ckc15,[781],0),
  (167,(Ckl986,[Cke6,Cke484,Cke381],Ckf123),213,Ckc15,[782],0),
  (167,(Ckl987,[Cke6,Cke485,Cke381],Ckf124),159,Ckc15,[783],0),
  (167,(Ckl988,[Cke6,Cke486,Cke381],Ckf125),107,Ckc15,[784],0),
  (167,(Ckl989,[Cke6,Cke487,Cke381],Ckf126),54,Ckc15,[785],0),
  (167,(Ckl991,[Cke6,Cke488,Cke381],Ckf128),1114,Ckc15,[786],0),
  (167,(Ckl992,[Cke6,Cke489,Cke381],Ckf129),1061,Ckc15,[787],0),
  (167,(Ckl993,[Cke6,Cke490,Cke381],Ckf130),1008,Ckc15,[788],0),
  (167,(Ckl994,[Cke6,Cke491,Cke381],Ckf131),955,Ckc15,[789],0),
  (167,(Ckl995,[Cke6,Cke492,Cke381],Ckf132),903,Ckc15,[790],0),
  (167,(Ckl996,[Cke6,Cke493,Cke381],Ckf133),850,Ckc15,[791],0)]
def CNC179_12 : List ND := [(167,(Ckl997,[Cke6,Cke494,Cke381],Ckf134),797,Ckc15,[792],0),
  (168,(Ckl1046,[Cke6,Cke381],Ckf110),1274,Ckc15,[793],0),
  (168,(Ckl974,[Cke22,Cke381],Ckf111),1220,Ckc15,[794],0),
  (168,(Ckl975,[Cke496,Cke381],Ckf112),743,Ckc15,[795],0),
  (168,(Ckl976,[Cke239,Cke381],Ckf113),690,Ckc15,[796],0),
  (168,(Ckl977,[Cke497,Cke381],Ckf114),637,Ckc15,[797],0),
  (168,(Ckl978,[Cke136,Cke381],Ckf115),584,Ckc15,[798],0),
  (168,(Ckl979,[Cke498,Cke381],Ckf116),531,Ckc15,[799],0),
  (168,(Ckl980,[Cke55,Cke381],Ckf117),478,Ckc15,[800],0),
  (168,(Ckl981,[Cke499,Cke381],Ckf118),425,Ckc15,[801],0),
  (168,(Ckl982,[Cke145,Cke381],Ckf119),372,Ckc15,[802],0),
  (168,(Ckl983,[Cke500,Cke381],Ckf120),318,Ckc15,[803],0),
  (168,(Ckl984,[Cke373,Cke381],Ckf121),265,Ckc15,[804],0),
  (168,(Ckl985,[Cke36,Cke381],Ckf122),1166,Ckc15,[805],0),
  (168,(Ckl986,[Cke501,Cke381],Ckf123),212,Ckc15,[806],0),
  (168,(Ckl987,[Cke159,Cke381],Ckf124),158,Ckc15,[807],0),
  (168,(Ckl988,[Cke143,Cke381],Ckf125),106,Ckc15,[808],0),
  (168,(Ckl989,[Cke144,Cke381],Ckf126),53,Ckc15,[809],0),
  (168,(Ckl991,[Cke35,Cke381],Ckf128),1113,Ckc15,[810],0),
  (168,(Ckl992,[Cke137,Cke381],Ckf129),1060,Ckc15,[811],0),
  (168,(Ckl993,[Cke147,Cke381],Ckf130),1007,Ckc15,[812],0),
  (168,(Ckl994,[Cke502,Cke381],Ckf131),954,Ckc15,[813],0),
  (168,(Ckl995,[Cke21,Cke381],Ckf132),902,Ckc15,[814],0),
  (168,(Ckl996,[Cke146,Cke381],Ckf133),849,Ckc15,[815],0),
  (168,(Ckl997,[Cke48,Cke381],Ckf134),796,Ckc15,[816],0),
  (171,(Ckl1046,[],Ckf135),1273,Ckc15,[817],0),
  (171,(Ckl974,[],Ckf122),1219,Ckc15,[818],0),
  (171,(Ckl975,[],Ckf113),742,Ckc15,[819],0),
  (171,(Ckl976,[],Ckf114),689,Ckc15,[820],0),
  (171,(Ckl977,[],Ckf115),636,Ckc15,[821],0),
  (171,(Ckl978,[],Ckf116),583,Ckc15,[822],0),
  (171,(Ckl979,[],Ckf117),530,Ckc15,[823],0),
  (171,(Ckl980,[],Ckf118),477,Ckc15,[824],0),
  (171,(Ckl981,[],Ckf119),424,Ckc15,[825],0),
  (171,(Ckl982,[],Ckf120),371,Ckc15,[826],0),
  (171,(Ckl983,[],Ckf121),317,Ckc15,[827],0),
  (171,(Ckl984,[],Ckf123),264,Ckc15,[828],0),
  (171,(Ckl985,[],Ckf128),1165,Ckc15,[829],0),
  (171,(Ckl986,[],Ckf124),211,Ckc15,[830],0),
  (171,(Ckl987,[],Ckf125),157,Ckc15,[831],0),
  (171,(Ckl988,[],Ckf126),105,Ckc15,[832],0),
  (171,(Ckl989,[],Ckf127),52,Ckc15,[833],0),
  (171,(Ckl991,[],Ckf129),1112,Ckc15,[834],0),
  (171,(Ckl992,[],Ckf130),1059,Ckc15,[835],0),
  (171,(Ckl993,[],Ckf131),1006,Ckc15,[836],0),
  (171,(Ckl994,[],Ckf132),953,Ckc15,[837],0),
  (171,(Ckl995,[],Ckf133),901,Ckc15,[838],0),
  (171,(Ckl996,[],Ckf134),848,Ckc15,[839],0),
  (171,(Ckl997,[],Ckf112),795,Ckc15,[840],0),
  (172,(Ckl1046,[Cke381],Ckf135),1272,Ckc15,[841],0),
  (172,(Ckl974,[Cke381],Ckf122),1218,Ckc15,[842],0),
  (172,(Ckl975,[Cke381],Ckf113),741,Ckc15,[843],0),
  (172,(Ckl976,[Cke381],Ckf114),688,Ckc15,[844],0),
  (172,(Ckl977,[Cke381],Ckf115),635,Ckc15,[845],0),
  (172,(Ckl978,[Cke381],Ckf116),582,Ckc15,[846],0),
  (172,(Ckl979,[Cke381],Ckf117),529,Ckc15,[847],0),
  (172,(Ckl980,[Cke381],Ckf118),476,Ckc15,[848],0),
  (172,(Ckl981,[Cke381],Ckf119),423,Ckc15,[849],0),
  (172,(Ckl982,[Cke381],Ckf120),370,Ckc15,[850],0),
  (172,(Ckl983,[Cke381],Ckf121),316,Ckc15,[851],0),
  (172,(Ckl984,[Cke381],Ckf123),263,Ckc15,[852],0),
  (172,(Ckl985,[Cke381],Ckf128),1164,Ckc15,[853],0),
  (172,(Ckl986,[Cke381],Ckf124),210,Ckc15,[854],0),
  (172,(Ckl987,[Cke381],Ckf125),156,Ckc15,[855],0)]
def CNC179_13 : List ND := [(172,(Ckl988,[Cke381],Ckf126),104,Ckc15,[856],0),
  (172,(Ckl989,[Cke381],Ckf127),51,Ckc15,[857],0),
  (172,(Ckl991,[Cke381],Ckf129),1111,Ckc15,[858],0),
  (172,(Ckl992,[Cke381],Ckf130),1058,Ckc15,[859],0),
  (172,(Ckl993,[Cke381],Ckf131),1005,Ckc15,[860],0),
  (172,(Ckl994,[Cke381],Ckf132),952,Ckc15,[861],0),
  (172,(Ckl995,[Cke381],Ckf133),900,Ckc15,[862],0),
  (172,(Ckl996,[Cke381],Ckf134),847,Ckc15,[863],0),
  (172,(Ckl997,[Cke381],Ckf112),794,Ckc15,[864],0),
  (173,(Ckl1046,[Cke381,Cke381],Ckf135),1271,Ckc15,[865],0),
  (173,(Ckl974,[Cke381,Cke381],Ckf122),1217,Ckc15,[866],0),
  (173,(Ckl975,[Cke381,Cke381],Ckf113),740,Ckc15,[867],0),
  (173,(Ckl976,[Cke381,Cke381],Ckf114),687,Ckc15,[868],0),
  (173,(Ckl977,[Cke381,Cke381],Ckf115),634,Ckc15,[869],0),
  (173,(Ckl978,[Cke381,Cke381],Ckf116),581,Ckc15,[870],0),
  (173,(Ckl979,[Cke381,Cke381],Ckf117),528,Ckc15,[871],0),
  (173,(Ckl980,[Cke381,Cke381],Ckf118),475,Ckc15,[872],0),
  (173,(Ckl981,[Cke381,Cke381],Ckf119),422,Ckc15,[873],0),
  (173,(Ckl982,[Cke381,Cke381],Ckf120),369,Ckc15,[874],0),
  (173,(Ckl983,[Cke381,Cke381],Ckf121),315,Ckc15,[875],0),
  (173,(Ckl984,[Cke381,Cke381],Ckf123),262,Ckc15,[876],0),
  (173,(Ckl985,[Cke381,Cke381],Ckf128),1163,Ckc15,[877],0),
  (173,(Ckl986,[Cke381,Cke381],Ckf124),209,Ckc15,[878],0),
  (173,(Ckl987,[Cke381,Cke381],Ckf125),155,Ckc15,[879],0),
  (173,(Ckl988,[Cke381,Cke381],Ckf126),103,Ckc15,[880],0),
  (173,(Ckl989,[Cke381,Cke381],Ckf127),50,Ckc15,[881],0),
  (173,(Ckl991,[Cke381,Cke381],Ckf129),1110,Ckc15,[882],0),
  (173,(Ckl992,[Cke381,Cke381],Ckf130),1057,Ckc15,[883],0),
  (173,(Ckl993,[Cke381,Cke381],Ckf131),1004,Ckc15,[884],0),
  (173,(Ckl994,[Cke381,Cke381],Ckf132),951,Ckc15,[885],0),
  (173,(Ckl995,[Cke381,Cke381],Ckf133),899,Ckc15,[886],0),
  (173,(Ckl996,[Cke381,Cke381],Ckf134),846,Ckc15,[887],0),
  (173,(Ckl997,[Cke381,Cke381],Ckf112),793,Ckc15,[888],0),
  (174,(Ckl1046,[Cke86,Cke381,Cke381],Ckf135),1270,Ckc15,[889],0),
  (174,(Ckl974,[Cke86,Cke381,Cke381],Ckf122),1216,Ckc15,[890],0),
  (174,(Ckl975,[Cke86,Cke381,Cke381],Ckf113),739,Ckc15,[891],0),
  (174,(Ckl976,[Cke86,Cke381,Cke381],Ckf114),686,Ckc15,[892],0),
  (174,(Ckl977,[Cke86,Cke381,Cke381],Ckf115),633,Ckc15,[893],0),
  (174,(Ckl978,[Cke86,Cke381,Cke381],Ckf116),580,Ckc15,[894],0),
  (174,(Ckl979,[Cke86,Cke381,Cke381],Ckf117),527,Ckc15,[895],0),
  (174,(Ckl980,[Cke86,Cke381,Cke381],Ckf118),474,Ckc15,[896],0),
  (174,(Ckl981,[Cke86,Cke381,Cke381],Ckf119),421,Ckc15,[897],0),
  (174,(Ckl982,[Cke86,Cke381,Cke381],Ckf120),368,Ckc15,[898],0),
  (174,(Ckl983,[Cke86,Cke381,Cke381],Ckf121),314,Ckc15,[899],0),
  (174,(Ckl984,[Cke86,Cke381,Cke381],Ckf123),261,Ckc15,[900],0),
  (174,(Ckl985,[Cke86,Cke381,Cke381],Ckf128),1162,Ckc15,[901],0),
  (174,(Ckl986,[Cke86,Cke381,Cke381],Ckf124),208,Ckc15,[902],0),
  (174,(Ckl987,[Cke86,Cke381,Cke381],Ckf125),154,Ckc15,[903],0),
  (174,(Ckl988,[Cke86,Cke381,Cke381],Ckf126),102,Ckc15,[904],0),
  (174,(Ckl989,[Cke86,Cke381,Cke381],Ckf127),49,Ckc15,[905],0),
  (174,(Ckl991,[Cke86,Cke381,Cke381],Ckf129),1109,Ckc15,[906],0),
  (174,(Ckl992,[Cke86,Cke381,Cke381],Ckf130),1056,Ckc15,[907],0),
  (174,(Ckl993,[Cke86,Cke381,Cke381],Ckf131),1003,Ckc15,[908],0),
  (174,(Ckl994,[Cke86,Cke381,Cke381],Ckf132),950,Ckc15,[909],0),
  (174,(Ckl995,[Cke86,Cke381,Cke381],Ckf133),898,Ckc15,[910],0),
  (174,(Ckl996,[Cke86,Cke381,Cke381],Ckf134),845,Ckc15,[911],0),
  (174,(Ckl997,[Cke86,Cke381,Cke381],Ckf112),792,Ckc15,[912],0),
  (176,(Ckl1046,[Cke419,Cke86,Cke381,Cke381],Ckf135),1269,Ckc15,[913],0),
  (176,(Ckl974,[Cke419,Cke86,Cke381,Cke381],Ckf122),1215,Ckc15,[914],0),
  (176,(Ckl975,[Cke419,Cke86,Cke381,Cke381],Ckf113),738,Ckc15,[915],0),
  (176,(Ckl976,[Cke419,Cke86,Cke381,Cke381],Ckf114),685,Ckc15,[916],0),
  (176,(Ckl977,[Cke419,Cke86,Cke381,Cke381],Ckf115),632,Ckc15,[917],0),
  (176,(Ckl978,[Cke419,Cke86,Cke381,Cke381],Ckf116),579,Ckc15,[918],0),
  (176,(Ckl979,[Cke419,Cke86,Cke381,Cke381],Ckf117),526,Ckc15,[919],0)]
def CNC179_14 : List ND := [(176,(Ckl980,[Cke419,Cke86,Cke381,Cke381],Ckf118),473,Ckc15,[920],0),
  (176,(Ckl981,[Cke419,Cke86,Cke381,Cke381],Ckf119),420,Ckc15,[921],0),
  (176,(Ckl982,[Cke419,Cke86,Cke381,Cke381],Ckf120),367,Ckc15,[922],0),
  (176,(Ckl983,[Cke419,Cke86,Cke381,Cke381],Ckf121),313,Ckc15,[923],0),
  (176,(Ckl984,[Cke419,Cke86,Cke381,Cke381],Ckf123),260,Ckc15,[924],0),
  (176,(Ckl985,[Cke419,Cke86,Cke381,Cke381],Ckf128),1161,Ckc15,[925],0),
  (176,(Ckl986,[Cke419,Cke86,Cke381,Cke381],Ckf124),207,Ckc15,[926],0),
  (176,(Ckl987,[Cke419,Cke86,Cke381,Cke381],Ckf125),153,Ckc15,[927],0),
  (176,(Ckl988,[Cke419,Cke86,Cke381,Cke381],Ckf126),101,Ckc15,[928],0),
  (176,(Ckl989,[Cke419,Cke86,Cke381,Cke381],Ckf127),48,Ckc15,[929],0),
  (176,(Ckl991,[Cke419,Cke86,Cke381,Cke381],Ckf129),1108,Ckc15,[930],0),
  (176,(Ckl992,[Cke419,Cke86,Cke381,Cke381],Ckf130),1055,Ckc15,[931],0),
  (176,(Ckl993,[Cke419,Cke86,Cke381,Cke381],Ckf131),1002,Ckc15,[932],0),
  (176,(Ckl994,[Cke419,Cke86,Cke381,Cke381],Ckf132),949,Ckc15,[933],0),
  (176,(Ckl995,[Cke419,Cke86,Cke381,Cke381],Ckf133),897,Ckc15,[934],0),
  (176,(Ckl996,[Cke419,Cke86,Cke381,Cke381],Ckf134),844,Ckc15,[935],0),
  (176,(Ckl997,[Cke419,Cke86,Cke381,Cke381],Ckf112),791,Ckc15,[936],0),
  (179,(Ckl1046,[Cke141,Cke86,Cke381,Cke381],Ckf135),1268,Ckc15,[937],0),
  (179,(Ckl974,[Cke141,Cke86,Cke381,Cke381],Ckf122),1214,Ckc15,[938],0),
  (179,(Ckl975,[Cke141,Cke86,Cke381,Cke381],Ckf113),737,Ckc15,[939],0),
  (179,(Ckl976,[Cke141,Cke86,Cke381,Cke381],Ckf114),684,Ckc15,[940],0),
  (179,(Ckl977,[Cke141,Cke86,Cke381,Cke381],Ckf115),631,Ckc15,[941],0),
  (179,(Ckl978,[Cke141,Cke86,Cke381,Cke381],Ckf116),578,Ckc15,[942],0),
  (179,(Ckl979,[Cke141,Cke86,Cke381,Cke381],Ckf117),525,Ckc15,[943],0),
  (179,(Ckl980,[Cke141,Cke86,Cke381,Cke381],Ckf118),472,Ckc15,[944],0),
  (179,(Ckl981,[Cke141,Cke86,Cke381,Cke381],Ckf119),419,Ckc15,[945],0),
  (179,(Ckl982,[Cke141,Cke86,Cke381,Cke381],Ckf120),366,Ckc15,[946],0),
  (179,(Ckl983,[Cke141,Cke86,Cke381,Cke381],Ckf121),312,Ckc15,[947],0),
  (179,(Ckl984,[Cke141,Cke86,Cke381,Cke381],Ckf123),259,Ckc15,[948],0),
  (179,(Ckl985,[Cke141,Cke86,Cke381,Cke381],Ckf128),1160,Ckc15,[949],0),
  (179,(Ckl986,[Cke141,Cke86,Cke381,Cke381],Ckf124),206,Ckc15,[950],0),
  (179,(Ckl987,[Cke141,Cke86,Cke381,Cke381],Ckf125),152,Ckc15,[951],0),
  (179,(Ckl988,[Cke141,Cke86,Cke381,Cke381],Ckf126),100,Ckc15,[952],0),
  (179,(Ckl989,[Cke141,Cke86,Cke381,Cke381],Ckf127),47,Ckc15,[953],0),
  (179,(Ckl991,[Cke141,Cke86,Cke381,Cke381],Ckf129),1107,Ckc15,[954],0),
  (179,(Ckl992,[Cke141,Cke86,Cke381,Cke381],Ckf130),1054,Ckc15,[955],0),
  (179,(Ckl993,[Cke141,Cke86,Cke381,Cke381],Ckf131),1001,Ckc15,[956],0),
  (179,(Ckl994,[Cke141,Cke86,Cke381,Cke381],Ckf132),948,Ckc15,[957],0),
  (179,(Ckl995,[Cke141,Cke86,Cke381,Cke381],Ckf133),896,Ckc15,[958],0),
  (179,(Ckl996,[Cke141,Cke86,Cke381,Cke381],Ckf134),843,Ckc15,[959],0),
  (179,(Ckl997,[Cke141,Cke86,Cke381,Cke381],Ckf112),790,Ckc15,[960],0),
  (180,(Ckl1046,[Cke354,Cke141,Cke86,Cke381,Cke381],Ckf135),1267,Ckc15,[961],0),
  (180,(Ckl974,[Cke354,Cke141,Cke86,Cke381,Cke381],Ckf122),1213,Ckc15,[962],0),
  (180,(Ckl975,[Cke354,Cke141,Cke86,Cke381,Cke381],Ckf113),736,Ckc15,[963],0),
  (180,(Ckl976,[Cke354,Cke141,Cke86,Cke381,Cke381],Ckf114),683,Ckc15,[964],0),
  (180,(Ckl977,[Cke354,Cke141,Cke86,Cke381,Cke381],Ckf115),630,Ckc15,[965],0),
  (180,(Ckl978,[Cke354,Cke141,Cke86,Cke381,Cke381],Ckf116),577,Ckc15,[966],0),
  (180,(Ckl979,[Cke354,Cke141,Cke86,Cke381,Cke381],Ckf117),524,Ckc15,[967],0),
  (180,(Ckl980,[Cke354,Cke141,Cke86,Cke381,Cke381],Ckf118),471,Ckc15,[968],0),
  (180,(Ckl981,[Cke354,Cke141,Cke86,Cke381,Cke381],Ckf119),418,Ckc15,[969],0),
  (180,(Ckl982,[Cke354,Cke141,Cke86,Cke381,Cke381],Ckf120),365,Ckc15,[970],0),
  (180,(Ckl983,[Cke354,Cke141,Cke86,Cke381,Cke381],Ckf121),311,Ckc15,[971],0),
  (180,(Ckl984,[Cke354,Cke141,Cke86,Cke381,Cke381],Ckf123),258,Ckc15,[972],0),
  (180,(Ckl985,[Cke354,Cke141,Cke86,Cke381,Cke381],Ckf128),1159,Ckc15,[973],0),
  (180,(Ckl986,[Cke354,Cke141,Cke86,Cke381,Cke381],Ckf124),205,Ckc15,[974],0),
  (180,(Ckl987,[Cke354,Cke141,Cke86,Cke381,Cke381],Ckf125),151,Ckc15,[975],0),
  (180,(Ckl988,[Cke354,Cke141,Cke86,Cke381,Cke381],Ckf126),99,Ckc15,[976],0),
  (180,(Ckl989,[Cke354,Cke141,Cke86,Cke381,Cke381],Ckf127),46,Ckc15,[977],0),
  (180,(Ckl991,[Cke354,Cke141,Cke86,Cke381,Cke381],Ckf129),1106,Ckc15,[978],0),
  (180,(Ckl992,[Cke354,Cke141,Cke86,Cke381,Cke381],Ckf130),1053,Ckc15,[979],0),
  (180,(Ckl993,[Cke354,Cke141,Cke86,Cke381,Cke381],Ckf131),1000,Ckc15,[980],0),
  (180,(Ckl994,[Cke354,Cke141,Cke86,Cke381,Cke381],Ckf132),947,Ckc15,[981],0),
  (180,(Ckl995,[Cke354,Cke141,Cke86,Cke381,Cke381],Ckf133),895,Ckc15,[982],0),
  (180,(Ckl996,[Cke354,Cke141,Cke86,Cke381,Cke381],Ckf134),842,Ckc15,[983],0)]
def CNC179_15 : List ND := [(180,(Ckl997,[Cke354,Cke141,Cke86,Cke381,Cke381],Ckf112),789,Ckc15,[984],0),
  (183,(Ckl1046,[Cke303,Cke141,Cke86,Cke381,Cke381],Ckf135),1266,Ckc15,[985],0),
  (183,(Ckl974,[Cke303,Cke141,Cke86,Cke381,Cke381],Ckf122),1212,Ckc15,[986],0),
  (183,(Ckl975,[Cke303,Cke141,Cke86,Cke381,Cke381],Ckf113),735,Ckc15,[987],0),
  (183,(Ckl976,[Cke303,Cke141,Cke86,Cke381,Cke381],Ckf114),682,Ckc15,[988],0),
  (183,(Ckl977,[Cke303,Cke141,Cke86,Cke381,Cke381],Ckf115),629,Ckc15,[989],0),
  (183,(Ckl978,[Cke303,Cke141,Cke86,Cke381,Cke381],Ckf116),576,Ckc15,[990],0),
  (183,(Ckl979,[Cke303,Cke141,Cke86,Cke381,Cke381],Ckf117),523,Ckc15,[991],0),
  (183,(Ckl980,[Cke303,Cke141,Cke86,Cke381,Cke381],Ckf118),470,Ckc15,[992],0),
  (183,(Ckl981,[Cke303,Cke141,Cke86,Cke381,Cke381],Ckf119),417,Ckc15,[993],0),
  (183,(Ckl982,[Cke303,Cke141,Cke86,Cke381,Cke381],Ckf120),364,Ckc15,[994],0),
  (183,(Ckl983,[Cke303,Cke141,Cke86,Cke381,Cke381],Ckf121),310,Ckc15,[995],0),
  (183,(Ckl984,[Cke303,Cke141,Cke86,Cke381,Cke381],Ckf123),257,Ckc15,[996],0),
  (183,(Ckl985,[Cke303,Cke141,Cke86,Cke381,Cke381],Ckf128),1158,Ckc15,[997],0),
  (183,(Ckl986,[Cke303,Cke141,Cke86,Cke381,Cke381],Ckf124),204,Ckc15,[998],0),
  (183,(Ckl987,[Cke303,Cke141,Cke86,Cke381,Cke381],Ckf125),150,Ckc15,[999],0),
  (183,(Ckl988,[Cke303,Cke141,Cke86,Cke381,Cke381],Ckf126),98,Ckc15,[1000],0),
  (183,(Ckl989,[Cke303,Cke141,Cke86,Cke381,Cke381],Ckf127),45,Ckc15,[1001],0),
  (183,(Ckl991,[Cke303,Cke141,Cke86,Cke381,Cke381],Ckf129),1105,Ckc15,[1002],0),
  (183,(Ckl992,[Cke303,Cke141,Cke86,Cke381,Cke381],Ckf130),1052,Ckc15,[1003],0),
  (183,(Ckl993,[Cke303,Cke141,Cke86,Cke381,Cke381],Ckf131),999,Ckc15,[1004],0),
  (183,(Ckl994,[Cke303,Cke141,Cke86,Cke381,Cke381],Ckf132),946,Ckc15,[1005],0),
  (183,(Ckl995,[Cke303,Cke141,Cke86,Cke381,Cke381],Ckf133),894,Ckc15,[1006],0),
  (183,(Ckl996,[Cke303,Cke141,Cke86,Cke381,Cke381],Ckf134),841,Ckc15,[1007],0),
  (183,(Ckl997,[Cke303,Cke141,Cke86,Cke381,Cke381],Ckf112),788,Ckc15,[1008],0),
  (185,(Ckl1046,[Cke495,Cke303,Cke141,Cke86,Cke381,Cke381],Ckf135),1265,Ckc15,[1009],0),
  (185,(Ckl974,[Cke495,Cke303,Cke141,Cke86,Cke381,Cke381],Ckf122),1211,Ckc15,[1010],0),
  (185,(Ckl975,[Cke495,Cke303,Cke141,Cke86,Cke381,Cke381],Ckf113),734,Ckc15,[1011],0),
  (185,(Ckl976,[Cke495,Cke303,Cke141,Cke86,Cke381,Cke381],Ckf114),681,Ckc15,[1012],0),
  (185,(Ckl977,[Cke495,Cke303,Cke141,Cke86,Cke381,Cke381],Ckf115),628,Ckc15,[1013],0),
  (185,(Ckl978,[Cke495,Cke303,Cke141,Cke86,Cke381,Cke381],Ckf116),575,Ckc15,[1014],0),
  (185,(Ckl979,[Cke495,Cke303,Cke141,Cke86,Cke381,Cke381],Ckf117),522,Ckc15,[1015],0),
  (185,(Ckl980,[Cke495,Cke303,Cke141,Cke86,Cke381,Cke381],Ckf118),469,Ckc15,[1016],0),
  (185,(Ckl981,[Cke495,Cke303,Cke141,Cke86,Cke381,Cke381],Ckf119),416,Ckc15,[1017],0),
  (185,(Ckl982,[Cke495,Cke303,Cke141,Cke86,Cke381,Cke381],Ckf120),363,Ckc15,[1018],0),
  (185,(Ckl983,[Cke495,Cke303,Cke141,Cke86,Cke381,Cke381],Ckf121),309,Ckc15,[1019],0),
  (185,(Ckl984,[Cke495,Cke303,Cke141,Cke86,Cke381,Cke381],Ckf123),256,Ckc15,[1020],0),
  (185,(Ckl985,[Cke495,Cke303,Cke141,Cke86,Cke381,Cke381],Ckf128),1157,Ckc15,[1021],0),
  (185,(Ckl986,[Cke495,Cke303,Cke141,Cke86,Cke381,Cke381],Ckf124),203,Ckc15,[1022],0),
  (185,(Ckl987,[Cke495,Cke303,Cke141,Cke86,Cke381,Cke381],Ckf125),149,Ckc15,[1023],0),
  (185,(Ckl988,[Cke495,Cke303,Cke141,Cke86,Cke381,Cke381],Ckf126),97,Ckc15,[1024],0),
  (185,(Ckl989,[Cke495,Cke303,Cke141,Cke86,Cke381,Cke381],Ckf127),44,Ckc15,[1025],0),
  (185,(Ckl991,[Cke495,Cke303,Cke141,Cke86,Cke381,Cke381],Ckf129),1104,Ckc15,[1026],0),
  (185,(Ckl992,[Cke495,Cke303,Cke141,Cke86,Cke381,Cke381],Ckf130),1051,Ckc15,[1027],0),
  (185,(Ckl993,[Cke495,Cke303,Cke141,Cke86,Cke381,Cke381],Ckf131),998,Ckc15,[1028],0),
  (185,(Ckl994,[Cke495,Cke303,Cke141,Cke86,Cke381,Cke381],Ckf132),945,Ckc15,[1029],0),
  (185,(Ckl995,[Cke495,Cke303,Cke141,Cke86,Cke381,Cke381],Ckf133),893,Ckc15,[1030],0),
  (185,(Ckl996,[Cke495,Cke303,Cke141,Cke86,Cke381,Cke381],Ckf134),840,Ckc15,[1031],0),
  (185,(Ckl997,[Cke495,Cke303,Cke141,Cke86,Cke381,Cke381],Ckf112),787,Ckc15,[1032],0),
  (187,(Ckl1046,[Cke312,Cke495,Cke303,Cke141,Cke86,Cke381,Cke381],Ckf135),1264,Ckc15,[1033],176),
  (187,(Ckl974,[Cke312,Cke495,Cke303,Cke141,Cke86,Cke381,Cke381],Ckf122),1210,Ckc15,[1034],176),
  (187,(Ckl975,[Cke312,Cke495,Cke303,Cke141,Cke86,Cke381,Cke381],Ckf113),733,Ckc15,[1035],176),
  (187,(Ckl976,[Cke312,Cke495,Cke303,Cke141,Cke86,Cke381,Cke381],Ckf114),680,Ckc15,[1036],176),
  (187,(Ckl977,[Cke312,Cke495,Cke303,Cke141,Cke86,Cke381,Cke381],Ckf115),627,Ckc15,[1037],176),
  (187,(Ckl978,[Cke312,Cke495,Cke303,Cke141,Cke86,Cke381,Cke381],Ckf116),574,Ckc15,[1038],176),
  (187,(Ckl979,[Cke312,Cke495,Cke303,Cke141,Cke86,Cke381,Cke381],Ckf117),521,Ckc15,[1039],176),
  (187,(Ckl980,[Cke312,Cke495,Cke303,Cke141,Cke86,Cke381,Cke381],Ckf118),468,Ckc15,[1040],176),
  (187,(Ckl981,[Cke312,Cke495,Cke303,Cke141,Cke86,Cke381,Cke381],Ckf119),415,Ckc15,[1041],176),
  (187,(Ckl982,[Cke312,Cke495,Cke303,Cke141,Cke86,Cke381,Cke381],Ckf120),362,Ckc15,[1042],176),
  (187,(Ckl983,[Cke312,Cke495,Cke303,Cke141,Cke86,Cke381,Cke381],Ckf121),308,Ckc15,[1043],176),
  (187,(Ckl984,[Cke312,Cke495,Cke303,Cke141,Cke86,Cke381,Cke381],Ckf123),255,Ckc15,[1044],176),
  (187,(Ckl985,[Cke312,Cke495,Cke303,Cke141,Cke86,Cke381,Cke381],Ckf128),1156,Ckc15,[1045],176),
  (187,(Ckl986,[Cke312,Cke495,Cke303,Cke141,Cke86,Cke381,Cke381],Ckf124),202,Ckc15,[1046],176),
  (187,(Ckl987,[Cke312,Cke495,Cke303,Cke141,Cke86,Cke381,Cke381],Ckf125),148,Ckc15,[1047],176)]
def CNC179_16 : List ND := [(187,(Ckl988,[Cke312,Cke495,Cke303,Cke141,Cke86,Cke381,Cke381],Ckf126),96,Ckc15,[1048],176),
  (187,(Ckl989,[Cke312,Cke495,Cke303,Cke141,Cke86,Cke381,Cke381],Ckf127),43,Ckc15,[1049],176),
  (187,(Ckl991,[Cke312,Cke495,Cke303,Cke141,Cke86,Cke381,Cke381],Ckf129),1103,Ckc15,[1050],176),
  (187,(Ckl992,[Cke312,Cke495,Cke303,Cke141,Cke86,Cke381,Cke381],Ckf130),1050,Ckc15,[1051],176),
  (187,(Ckl993,[Cke312,Cke495,Cke303,Cke141,Cke86,Cke381,Cke381],Ckf131),997,Ckc15,[1052],176),
  (187,(Ckl994,[Cke312,Cke495,Cke303,Cke141,Cke86,Cke381,Cke381],Ckf132),944,Ckc15,[1053],176),
  (187,(Ckl995,[Cke312,Cke495,Cke303,Cke141,Cke86,Cke381,Cke381],Ckf133),892,Ckc15,[1054],176),
  (187,(Ckl996,[Cke312,Cke495,Cke303,Cke141,Cke86,Cke381,Cke381],Ckf134),839,Ckc15,[1055],176),
  (187,(Ckl997,[Cke312,Cke495,Cke303,Cke141,Cke86,Cke381,Cke381],Ckf112),786,Ckc15,[1056],176),
  (190,(Ckl1046,[Cke411,Cke381],Ckf135),1263,Ckc15,[1057],0),
  (190,(Ckl974,[Cke411,Cke381],Ckf122),1209,Ckc15,[1058],0),
  (190,(Ckl975,[Cke411,Cke381],Ckf113),732,Ckc15,[1059],0),
  (190,(Ckl976,[Cke411,Cke381],Ckf114),679,Ckc15,[1060],0),
  (190,(Ckl977,[Cke411,Cke381],Ckf115),626,Ckc15,[1061],0),
  (190,(Ckl978,[Cke411,Cke381],Ckf116),573,Ckc15,[1062],0),
  (190,(Ckl979,[Cke411,Cke381],Ckf117),520,Ckc15,[1063],0),
  (190,(Ckl980,[Cke411,Cke381],Ckf118),467,Ckc15,[1064],0),
  (190,(Ckl981,[Cke411,Cke381],Ckf119),414,Ckc15,[1065],0),
  (190,(Ckl982,[Cke411,Cke381],Ckf120),361,Ckc15,[1066],0),
  (190,(Ckl983,[Cke411,Cke381],Ckf121),307,Ckc15,[1067],0),
  (190,(Ckl984,[Cke411,Cke381],Ckf123),254,Ckc15,[1068],0),
  (190,(Ckl985,[Cke411,Cke381],Ckf128),1155,Ckc15,[1069],0),
  (190,(Ckl986,[Cke411,Cke381],Ckf124),201,Ckc15,[1070],0),
  (190,(Ckl987,[Cke411,Cke381],Ckf125),147,Ckc15,[1071],0),
  (190,(Ckl988,[Cke411,Cke381],Ckf126),95,Ckc15,[1072],0),
  (190,(Ckl989,[Cke411,Cke381],Ckf127),42,Ckc15,[1073],0),
  (190,(Ckl991,[Cke411,Cke381],Ckf129),1102,Ckc15,[1074],0),
  (190,(Ckl992,[Cke411,Cke381],Ckf130),1049,Ckc15,[1075],0),
  (190,(Ckl993,[Cke411,Cke381],Ckf131),996,Ckc15,[1076],0),
  (190,(Ckl994,[Cke411,Cke381],Ckf132),943,Ckc15,[1077],0),
  (190,(Ckl995,[Cke411,Cke381],Ckf133),891,Ckc15,[1078],0),
  (190,(Ckl996,[Cke411,Cke381],Ckf134),838,Ckc15,[1079],0),
  (190,(Ckl997,[Cke411,Cke381],Ckf112),785,Ckc15,[1080],0),
  (191,(Ckl1046,[Cke6,Cke411,Cke381],Ckf135),1262,Ckc15,[1081],0),
  (191,(Ckl974,[Cke6,Cke411,Cke381],Ckf122),1208,Ckc15,[1082],0),
  (191,(Ckl975,[Cke6,Cke411,Cke381],Ckf113),731,Ckc15,[1083],0),
  (191,(Ckl976,[Cke6,Cke411,Cke381],Ckf114),678,Ckc15,[1084],0),
  (191,(Ckl977,[Cke6,Cke411,Cke381],Ckf115),625,Ckc15,[1085],0),
  (191,(Ckl978,[Cke6,Cke411,Cke381],Ckf116),572,Ckc15,[1086],0),
  (191,(Ckl979,[Cke6,Cke411,Cke381],Ckf117),519,Ckc15,[1087],0),
  (191,(Ckl980,[Cke6,Cke411,Cke381],Ckf118),466,Ckc15,[1088],0),
  (191,(Ckl981,[Cke6,Cke411,Cke381],Ckf119),413,Ckc15,[1089],0),
  (191,(Ckl982,[Cke6,Cke411,Cke381],Ckf120),360,Ckc15,[1090],0),
  (191,(Ckl983,[Cke6,Cke411,Cke381],Ckf121),306,Ckc15,[1091],0),
  (191,(Ckl984,[Cke6,Cke411,Cke381],Ckf123),253,Ckc15,[1092],0),
  (191,(Ckl985,[Cke6,Cke411,Cke381],Ckf128),1154,Ckc15,[1093],0),
  (191,(Ckl986,[Cke6,Cke411,Cke381],Ckf124),200,Ckc15,[1094],0),
  (191,(Ckl987,[Cke6,Cke411,Cke381],Ckf125),146,Ckc15,[1095],0),
  (191,(Ckl988,[Cke6,Cke411,Cke381],Ckf126),94,Ckc15,[1096],0),
  (191,(Ckl989,[Cke6,Cke411,Cke381],Ckf127),41,Ckc15,[1097],0),
  (191,(Ckl991,[Cke6,Cke411,Cke381],Ckf129),1101,Ckc15,[1098],0),
  (191,(Ckl992,[Cke6,Cke411,Cke381],Ckf130),1048,Ckc15,[1099],0),
  (191,(Ckl993,[Cke6,Cke411,Cke381],Ckf131),995,Ckc15,[1100],0),
  (191,(Ckl994,[Cke6,Cke411,Cke381],Ckf132),942,Ckc15,[1101],0),
  (191,(Ckl995,[Cke6,Cke411,Cke381],Ckf133),890,Ckc15,[1102],0),
  (191,(Ckl996,[Cke6,Cke411,Cke381],Ckf134),837,Ckc15,[1103],0),
  (191,(Ckl997,[Cke6,Cke411,Cke381],Ckf112),784,Ckc15,[1104],0),
  (192,(Ckl1046,[Cke234,Cke381],Ckf135),1261,Ckc15,[1105],0),
  (192,(Ckl974,[Cke234,Cke381],Ckf122),1207,Ckc15,[1106],0),
  (192,(Ckl975,[Cke234,Cke381],Ckf113),730,Ckc15,[1107],0),
  (192,(Ckl976,[Cke234,Cke381],Ckf114),677,Ckc15,[1108],0),
  (192,(Ckl977,[Cke234,Cke381],Ckf115),624,Ckc15,[1109],0),
  (192,(Ckl978,[Cke234,Cke381],Ckf116),571,Ckc15,[1110],0),
  (192,(Ckl979,[Cke234,Cke381],Ckf117),518,Ckc15,[1111],0)]
def CNC179_17 : List ND := [(192,(Ckl980,[Cke234,Cke381],Ckf118),465,Ckc15,[1112],0),
  (192,(Ckl981,[Cke234,Cke381],Ckf119),412,Ckc15,[1113],0),
  (192,(Ckl982,[Cke234,Cke381],Ckf120),359,Ckc15,[1114],0),
  (192,(Ckl983,[Cke234,Cke381],Ckf121),305,Ckc15,[1115],0),
  (192,(Ckl984,[Cke234,Cke381],Ckf123),252,Ckc15,[1116],0),
  (192,(Ckl985,[Cke234,Cke381],Ckf128),1153,Ckc15,[1117],0),
  (192,(Ckl986,[Cke234,Cke381],Ckf124),199,Ckc15,[1118],0),
  (192,(Ckl987,[Cke234,Cke381],Ckf125),145,Ckc15,[1119],0),
  (192,(Ckl988,[Cke234,Cke381],Ckf126),93,Ckc15,[1120],0),
  (192,(Ckl989,[Cke234,Cke381],Ckf127),40,Ckc15,[1121],0),
  (192,(Ckl991,[Cke234,Cke381],Ckf129),1100,Ckc15,[1122],0),
  (192,(Ckl992,[Cke234,Cke381],Ckf130),1047,Ckc15,[1123],0),
  (192,(Ckl993,[Cke234,Cke381],Ckf131),994,Ckc15,[1124],0),
  (192,(Ckl994,[Cke234,Cke381],Ckf132),941,Ckc15,[1125],0),
  (192,(Ckl995,[Cke234,Cke381],Ckf133),889,Ckc15,[1126],0),
  (192,(Ckl996,[Cke234,Cke381],Ckf134),836,Ckc15,[1127],0),
  (192,(Ckl997,[Cke234,Cke381],Ckf112),783,Ckc15,[1128],0),
  (195,(Ckl1046,[],Ckf111),1260,Ckc15,[1129],0),
  (195,(Ckl974,[],Ckf122),1206,Ckc15,[1130],0),
  (195,(Ckl975,[],Ckf113),729,Ckc15,[1131],0),
  (195,(Ckl976,[],Ckf114),676,Ckc15,[1132],0),
  (195,(Ckl977,[],Ckf115),623,Ckc15,[1133],0),
  (195,(Ckl978,[],Ckf116),570,Ckc15,[1134],0),
  (195,(Ckl979,[],Ckf117),517,Ckc15,[1135],0),
  (195,(Ckl980,[],Ckf118),464,Ckc15,[1136],0),
  (195,(Ckl981,[],Ckf119),411,Ckc15,[1137],0),
  (195,(Ckl982,[],Ckf120),358,Ckc15,[1138],0),
  (195,(Ckl983,[],Ckf121),304,Ckc15,[1139],0),
  (195,(Ckl984,[],Ckf123),251,Ckc15,[1140],0),
  (195,(Ckl985,[],Ckf128),1152,Ckc15,[1141],0),
  (195,(Ckl986,[],Ckf124),198,Ckc15,[1142],0),
  (195,(Ckl987,[],Ckf125),144,Ckc15,[1143],0),
  (195,(Ckl988,[],Ckf126),92,Ckc15,[1144],0),
  (195,(Ckl989,[],Ckf127),39,Ckc15,[1145],0),
  (195,(Ckl991,[],Ckf129),1099,Ckc15,[1146],0),
  (195,(Ckl992,[],Ckf130),1046,Ckc15,[1147],0),
  (195,(Ckl993,[],Ckf131),993,Ckc15,[1148],0),
  (195,(Ckl994,[],Ckf132),940,Ckc15,[1149],0),
  (195,(Ckl995,[],Ckf133),888,Ckc15,[1150],0),
  (195,(Ckl996,[],Ckf134),835,Ckc15,[1151],0),
  (195,(Ckl997,[],Ckf112),782,Ckc15,[1152],0),
  (196,(Ckl1046,[Cke381],Ckf111),1259,Ckc15,[1153],0),
  (196,(Ckl974,[Cke381],Ckf122),1205,Ckc15,[1154],0),
  (196,(Ckl975,[Cke381],Ckf113),728,Ckc15,[1155],0),
  (196,(Ckl976,[Cke381],Ckf114),675,Ckc15,[1156],0),
  (196,(Ckl977,[Cke381],Ckf115),622,Ckc15,[1157],0),
  (196,(Ckl978,[Cke381],Ckf116),569,Ckc15,[1158],0),
  (196,(Ckl979,[Cke381],Ckf117),516,Ckc15,[1159],0),
  (196,(Ckl980,[Cke381],Ckf118),463,Ckc15,[1160],0),
  (196,(Ckl981,[Cke381],Ckf119),410,Ckc15,[1161],0),
  (196,(Ckl982,[Cke381],Ckf120),357,Ckc15,[1162],0),
  (196,(Ckl983,[Cke381],Ckf121),303,Ckc15,[1163],0),
  (196,(Ckl984,[Cke381],Ckf123),250,Ckc15,[1164],0),
  (196,(Ckl985,[Cke381],Ckf128),1151,Ckc15,[1165],0),
  (196,(Ckl986,[Cke381],Ckf124),197,Ckc15,[1166],0),
  (196,(Ckl987,[Cke381],Ckf125),143,Ckc15,[1167],0),
  (196,(Ckl988,[Cke381],Ckf126),91,Ckc15,[1168],0),
  (196,(Ckl989,[Cke381],Ckf127),38,Ckc15,[1169],0),
  (196,(Ckl991,[Cke381],Ckf129),1098,Ckc15,[1170],0),
  (196,(Ckl992,[Cke381],Ckf130),1045,Ckc15,[1171],0),
  (196,(Ckl993,[Cke381],Ckf131),992,Ckc15,[1172],0),
  (196,(Ckl994,[Cke381],Ckf132),939,Ckc15,[1173],0),
  (196,(Ckl995,[Cke381],Ckf133),887,Ckc15,[1174],0),
  (196,(Ckl996,[Cke381],Ckf134),834,Ckc15,[1175],0)]
def CNC179_18 : List ND := [(196,(Ckl997,[Cke381],Ckf112),781,Ckc15,[1176],0),
  (197,(Ckl1046,[Cke381,Cke381],Ckf111),1258,Ckc15,[1177],0),
  (197,(Ckl974,[Cke381,Cke381],Ckf122),1204,Ckc15,[1178],0),
  (197,(Ckl975,[Cke381,Cke381],Ckf113),727,Ckc15,[1179],0),
  (197,(Ckl976,[Cke381,Cke381],Ckf114),674,Ckc15,[1180],0),
  (197,(Ckl977,[Cke381,Cke381],Ckf115),621,Ckc15,[1181],0),
  (197,(Ckl978,[Cke381,Cke381],Ckf116),568,Ckc15,[1182],0),
  (197,(Ckl979,[Cke381,Cke381],Ckf117),515,Ckc15,[1183],0),
  (197,(Ckl980,[Cke381,Cke381],Ckf118),462,Ckc15,[1184],0),
  (197,(Ckl981,[Cke381,Cke381],Ckf119),409,Ckc15,[1185],0),
  (197,(Ckl982,[Cke381,Cke381],Ckf120),356,Ckc15,[1186],0),
  (197,(Ckl983,[Cke381,Cke381],Ckf121),302,Ckc15,[1187],0),
  (197,(Ckl984,[Cke381,Cke381],Ckf123),249,Ckc15,[1188],0),
  (197,(Ckl985,[Cke381,Cke381],Ckf128),1150,Ckc15,[1189],0),
  (197,(Ckl986,[Cke381,Cke381],Ckf124),196,Ckc15,[1190],0),
  (197,(Ckl987,[Cke381,Cke381],Ckf125),142,Ckc15,[1191],0),
  (197,(Ckl988,[Cke381,Cke381],Ckf126),90,Ckc15,[1192],0),
  (197,(Ckl989,[Cke381,Cke381],Ckf127),37,Ckc15,[1193],0),
  (197,(Ckl991,[Cke381,Cke381],Ckf129),1097,Ckc15,[1194],0),
  (197,(Ckl992,[Cke381,Cke381],Ckf130),1044,Ckc15,[1195],0),
  (197,(Ckl993,[Cke381,Cke381],Ckf131),991,Ckc15,[1196],0),
  (197,(Ckl994,[Cke381,Cke381],Ckf132),938,Ckc15,[1197],0),
  (197,(Ckl995,[Cke381,Cke381],Ckf133),886,Ckc15,[1198],0),
  (197,(Ckl996,[Cke381,Cke381],Ckf134),833,Ckc15,[1199],0),
  (197,(Ckl997,[Cke381,Cke381],Ckf112),780,Ckc15,[1200],0),
  (198,(Ckl1046,[Cke86,Cke381,Cke381],Ckf111),1257,Ckc15,[1201],0),
  (198,(Ckl974,[Cke86,Cke381,Cke381],Ckf122),1203,Ckc15,[1202],0),
  (198,(Ckl975,[Cke86,Cke381,Cke381],Ckf113),726,Ckc15,[1203],0),
  (198,(Ckl976,[Cke86,Cke381,Cke381],Ckf114),673,Ckc15,[1204],0),
  (198,(Ckl977,[Cke86,Cke381,Cke381],Ckf115),620,Ckc15,[1205],0),
  (198,(Ckl978,[Cke86,Cke381,Cke381],Ckf116),567,Ckc15,[1206],0),
  (198,(Ckl979,[Cke86,Cke381,Cke381],Ckf117),514,Ckc15,[1207],0),
  (198,(Ckl980,[Cke86,Cke381,Cke381],Ckf118),461,Ckc15,[1208],0),
  (198,(Ckl981,[Cke86,Cke381,Cke381],Ckf119),408,Ckc15,[1209],0),
  (198,(Ckl982,[Cke86,Cke381,Cke381],Ckf120),355,Ckc15,[1210],0),
  (198,(Ckl983,[Cke86,Cke381,Cke381],Ckf121),301,Ckc15,[1211],0),
  (198,(Ckl984,[Cke86,Cke381,Cke381],Ckf123),248,Ckc15,[1212],0),
  (198,(Ckl985,[Cke86,Cke381,Cke381],Ckf128),1149,Ckc15,[1213],0),
  (198,(Ckl986,[Cke86,Cke381,Cke381],Ckf124),195,Ckc15,[1214],0),
  (198,(Ckl987,[Cke86,Cke381,Cke381],Ckf125),141,Ckc15,[1215],0),
  (198,(Ckl988,[Cke86,Cke381,Cke381],Ckf126),89,Ckc15,[1216],0),
  (198,(Ckl989,[Cke86,Cke381,Cke381],Ckf127),36,Ckc15,[1217],0),
  (198,(Ckl991,[Cke86,Cke381,Cke381],Ckf129),1096,Ckc15,[1218],0),
  (198,(Ckl992,[Cke86,Cke381,Cke381],Ckf130),1043,Ckc15,[1219],0),
  (198,(Ckl993,[Cke86,Cke381,Cke381],Ckf131),990,Ckc15,[1220],0),
  (198,(Ckl994,[Cke86,Cke381,Cke381],Ckf132),937,Ckc15,[1221],0),
  (198,(Ckl995,[Cke86,Cke381,Cke381],Ckf133),885,Ckc15,[1222],0),
  (198,(Ckl996,[Cke86,Cke381,Cke381],Ckf134),832,Ckc15,[1223],0),
  (198,(Ckl997,[Cke86,Cke381,Cke381],Ckf112),779,Ckc15,[1224],0),
  (200,(Ckl1046,[Cke419,Cke86,Cke381,Cke381],Ckf111),1256,Ckc15,[1225],0),
  (200,(Ckl974,[Cke419,Cke86,Cke381,Cke381],Ckf122),1202,Ckc15,[1226],0),
  (200,(Ckl975,[Cke419,Cke86,Cke381,Cke381],Ckf113),725,Ckc15,[1227],0),
  (200,(Ckl976,[Cke419,Cke86,Cke381,Cke381],Ckf114),672,Ckc15,[1228],0),
  (200,(Ckl977,[Cke419,Cke86,Cke381,Cke381],Ckf115),619,Ckc15,[1229],0),
  (200,(Ckl978,[Cke419,Cke86,Cke381,Cke381],Ckf116),566,Ckc15,[1230],0),
  (200,(Ckl979,[Cke419,Cke86,Cke381,Cke381],Ckf117),513,Ckc15,[1231],0),
  (200,(Ckl980,[Cke419,Cke86,Cke381,Cke381],Ckf118),460,Ckc15,[1232],0),
  (200,(Ckl981,[Cke419,Cke86,Cke381,Cke381],Ckf119),407,Ckc15,[1233],0),
  (200,(Ckl982,[Cke419,Cke86,Cke381,Cke381],Ckf120),354,Ckc15,[1234],0),
  (200,(Ckl983,[Cke419,Cke86,Cke381,Cke381],Ckf121),300,Ckc15,[1235],0),
  (200,(Ckl984,[Cke419,Cke86,Cke381,Cke381],Ckf123),247,Ckc15,[1236],0),
  (200,(Ckl985,[Cke419,Cke86,Cke381,Cke381],Ckf128),1148,Ckc15,[1237],0),
  (200,(Ckl986,[Cke419,Cke86,Cke381,Cke381],Ckf124),194,Ckc15,[1238],0),
  (200,(Ckl987,[Cke419,Cke86,Cke381,Cke381],Ckf125),140,Ckc15,[1239],0)]
def CNC179_19 : List ND := [(200,(Ckl988,[Cke419,Cke86,Cke381,Cke381],Ckf126),88,Ckc15,[1240],0),
  (200,(Ckl989,[Cke419,Cke86,Cke381,Cke381],Ckf127),35,Ckc15,[1241],0),
  (200,(Ckl991,[Cke419,Cke86,Cke381,Cke381],Ckf129),1095,Ckc15,[1242],0),
  (200,(Ckl992,[Cke419,Cke86,Cke381,Cke381],Ckf130),1042,Ckc15,[1243],0),
  (200,(Ckl993,[Cke419,Cke86,Cke381,Cke381],Ckf131),989,Ckc15,[1244],0),
  (200,(Ckl994,[Cke419,Cke86,Cke381,Cke381],Ckf132),936,Ckc15,[1245],0),
  (200,(Ckl995,[Cke419,Cke86,Cke381,Cke381],Ckf133),884,Ckc15,[1246],0),
  (200,(Ckl996,[Cke419,Cke86,Cke381,Cke381],Ckf134),831,Ckc15,[1247],0),
  (200,(Ckl997,[Cke419,Cke86,Cke381,Cke381],Ckf112),778,Ckc15,[1248],0),
  (203,(Ckl1046,[Cke97,Cke86,Cke381,Cke381],Ckf111),1255,Ckc15,[1249],0),
  (203,(Ckl974,[Cke97,Cke86,Cke381,Cke381],Ckf122),1201,Ckc15,[1250],0),
  (203,(Ckl975,[Cke97,Cke86,Cke381,Cke381],Ckf113),724,Ckc15,[1251],0),
  (203,(Ckl976,[Cke97,Cke86,Cke381,Cke381],Ckf114),671,Ckc15,[1252],0),
  (203,(Ckl977,[Cke97,Cke86,Cke381,Cke381],Ckf115),618,Ckc15,[1253],0),
  (203,(Ckl978,[Cke97,Cke86,Cke381,Cke381],Ckf116),565,Ckc15,[1254],0),
  (203,(Ckl979,[Cke97,Cke86,Cke381,Cke381],Ckf117),512,Ckc15,[1255],0),
  (203,(Ckl980,[Cke97,Cke86,Cke381,Cke381],Ckf118),459,Ckc15,[1256],0),
  (203,(Ckl981,[Cke97,Cke86,Cke381,Cke381],Ckf119),406,Ckc15,[1257],0),
  (203,(Ckl982,[Cke97,Cke86,Cke381,Cke381],Ckf120),353,Ckc15,[1258],0),
  (203,(Ckl983,[Cke97,Cke86,Cke381,Cke381],Ckf121),299,Ckc15,[1259],0),
  (203,(Ckl984,[Cke97,Cke86,Cke381,Cke381],Ckf123),246,Ckc15,[1260],0),
  (203,(Ckl985,[Cke97,Cke86,Cke381,Cke381],Ckf128),1147,Ckc15,[1261],0),
  (203,(Ckl986,[Cke97,Cke86,Cke381,Cke381],Ckf124),193,Ckc15,[1262],0),
  (203,(Ckl987,[Cke97,Cke86,Cke381,Cke381],Ckf125),139,Ckc15,[1263],0),
  (203,(Ckl988,[Cke97,Cke86,Cke381,Cke381],Ckf126),87,Ckc15,[1264],0),
  (203,(Ckl989,[Cke97,Cke86,Cke381,Cke381],Ckf127),34,Ckc15,[1265],0),
  (203,(Ckl991,[Cke97,Cke86,Cke381,Cke381],Ckf129),1094,Ckc15,[1266],0),
  (203,(Ckl992,[Cke97,Cke86,Cke381,Cke381],Ckf130),1041,Ckc15,[1267],0),
  (203,(Ckl993,[Cke97,Cke86,Cke381,Cke381],Ckf131),988,Ckc15,[1268],0),
  (203,(Ckl994,[Cke97,Cke86,Cke381,Cke381],Ckf132),935,Ckc15,[1269],0),
  (203,(Ckl995,[Cke97,Cke86,Cke381,Cke381],Ckf133),883,Ckc15,[1270],0),
  (203,(Ckl996,[Cke97,Cke86,Cke381,Cke381],Ckf134),830,Ckc15,[1271],0),
  (203,(Ckl997,[Cke97,Cke86,Cke381,Cke381],Ckf112),777,Ckc15,[1272],0),
  (205,(Ckl1046,[Cke495,Cke97,Cke86,Cke381,Cke381],Ckf111),1254,Ckc15,[1273],177),
  (205,(Ckl974,[Cke495,Cke97,Cke86,Cke381,Cke381],Ckf122),1200,Ckc15,[1274],177),
  (205,(Ckl975,[Cke495,Cke97,Cke86,Cke381,Cke381],Ckf113),723,Ckc15,[1275],177),
  (205,(Ckl976,[Cke495,Cke97,Cke86,Cke381,Cke381],Ckf114),670,Ckc15,[1276],177),
  (205,(Ckl977,[Cke495,Cke97,Cke86,Cke381,Cke381],Ckf115),617,Ckc15,[1277],177),
  (205,(Ckl978,[Cke495,Cke97,Cke86,Cke381,Cke381],Ckf116),564,Ckc15,[1278],177),
  (205,(Ckl979,[Cke495,Cke97,Cke86,Cke381,Cke381],Ckf117),511,Ckc15,[1279],177),
  (205,(Ckl980,[Cke495,Cke97,Cke86,Cke381,Cke381],Ckf118),458,Ckc15,[1280],177),
  (205,(Ckl981,[Cke495,Cke97,Cke86,Cke381,Cke381],Ckf119),405,Ckc15,[1281],177),
  (205,(Ckl982,[Cke495,Cke97,Cke86,Cke381,Cke381],Ckf120),352,Ckc15,[1282],177),
  (205,(Ckl983,[Cke495,Cke97,Cke86,Cke381,Cke381],Ckf121),298,Ckc15,[1283],177),
  (205,(Ckl984,[Cke495,Cke97,Cke86,Cke381,Cke381],Ckf123),245,Ckc15,[1284],177),
  (205,(Ckl985,[Cke495,Cke97,Cke86,Cke381,Cke381],Ckf128),1146,Ckc15,[1285],177),
  (205,(Ckl986,[Cke495,Cke97,Cke86,Cke381,Cke381],Ckf124),192,Ckc15,[1286],177),
  (205,(Ckl987,[Cke495,Cke97,Cke86,Cke381,Cke381],Ckf125),138,Ckc15,[1287],177),
  (205,(Ckl988,[Cke495,Cke97,Cke86,Cke381,Cke381],Ckf126),86,Ckc15,[1288],177),
  (205,(Ckl989,[Cke495,Cke97,Cke86,Cke381,Cke381],Ckf127),33,Ckc15,[1289],177),
  (205,(Ckl991,[Cke495,Cke97,Cke86,Cke381,Cke381],Ckf129),1093,Ckc15,[1290],177),
  (205,(Ckl992,[Cke495,Cke97,Cke86,Cke381,Cke381],Ckf130),1040,Ckc15,[1291],177),
  (205,(Ckl993,[Cke495,Cke97,Cke86,Cke381,Cke381],Ckf131),987,Ckc15,[1292],177),
  (205,(Ckl994,[Cke495,Cke97,Cke86,Cke381,Cke381],Ckf132),934,Ckc15,[1293],177),
  (205,(Ckl995,[Cke495,Cke97,Cke86,Cke381,Cke381],Ckf133),882,Ckc15,[1294],177),
  (205,(Ckl996,[Cke495,Cke97,Cke86,Cke381,Cke381],Ckf134),829,Ckc15,[1295],177),
  (205,(Ckl997,[Cke495,Cke97,Cke86,Cke381,Cke381],Ckf112),776,Ckc15,[1296],177),
  (208,(Ckl1046,[Cke409,Cke381],Ckf111),1253,Ckc15,[1297],0),
  (208,(Ckl974,[Cke409,Cke381],Ckf122),1199,Ckc15,[1298],0),
  (208,(Ckl975,[Cke409,Cke381],Ckf113),722,Ckc15,[1299],0),
  (208,(Ckl976,[Cke409,Cke381],Ckf114),669,Ckc15,[1300],0),
  (208,(Ckl977,[Cke409,Cke381],Ckf115),616,Ckc15,[1301],0),
  (208,(Ckl978,[Cke409,Cke381],Ckf116),563,Ckc15,[1302],0),
  (208,(Ckl979,[Cke409,Cke381],Ckf117),510,Ckc15,[1303],0)]
def CNC179_20 : List ND := [(208,(Ckl980,[Cke409,Cke381],Ckf118),457,Ckc15,[1304],0),
  (208,(Ckl981,[Cke409,Cke381],Ckf119),404,Ckc15,[1305],0),
  (208,(Ckl982,[Cke409,Cke381],Ckf120),351,Ckc15,[1306],0),
  (208,(Ckl983,[Cke409,Cke381],Ckf121),297,Ckc15,[1307],0),
  (208,(Ckl984,[Cke409,Cke381],Ckf123),244,Ckc15,[1308],0),
  (208,(Ckl985,[Cke409,Cke381],Ckf128),1145,Ckc15,[1309],0),
  (208,(Ckl986,[Cke409,Cke381],Ckf124),191,Ckc15,[1310],0),
  (208,(Ckl987,[Cke409,Cke381],Ckf125),137,Ckc15,[1311],0),
  (208,(Ckl988,[Cke409,Cke381],Ckf126),85,Ckc15,[1312],0),
  (208,(Ckl989,[Cke409,Cke381],Ckf127),32,Ckc15,[1313],0),
  (208,(Ckl991,[Cke409,Cke381],Ckf129),1092,Ckc15,[1314],0),
  (208,(Ckl992,[Cke409,Cke381],Ckf130),1039,Ckc15,[1315],0),
  (208,(Ckl993,[Cke409,Cke381],Ckf131),986,Ckc15,[1316],0),
  (208,(Ckl994,[Cke409,Cke381],Ckf132),933,Ckc15,[1317],0),
  (208,(Ckl995,[Cke409,Cke381],Ckf133),881,Ckc15,[1318],0),
  (208,(Ckl996,[Cke409,Cke381],Ckf134),828,Ckc15,[1319],0),
  (208,(Ckl997,[Cke409,Cke381],Ckf112),775,Ckc15,[1320],0),
  (211,(Ckl1046,[],Ckf111),1252,Ckc15,[1321],0),
  (211,(Ckl974,[],Ckf122),1198,Ckc15,[1332],0),
  (211,(Ckl975,[],Ckf113),721,Ckc15,[1323],0),
  (211,(Ckl976,[],Ckf114),668,Ckc15,[1324],0),
  (211,(Ckl977,[],Ckf115),615,Ckc15,[1325],0),
  (211,(Ckl978,[],Ckf116),562,Ckc15,[1326],0),
  (211,(Ckl979,[],Ckf117),509,Ckc15,[1327],0),
  (211,(Ckl980,[],Ckf118),456,Ckc15,[1328],0),
  (211,(Ckl981,[],Ckf119),403,Ckc15,[1329],0),
  (211,(Ckl982,[],Ckf120),350,Ckc15,[1330],0),
  (211,(Ckl983,[],Ckf121),296,Ckc15,[1331],0),
  (211,(Ckl984,[],Ckf123),243,Ckc15,[1333],0),
  (211,(Ckl985,[],Ckf128),1144,Ckc15,[1338],0),
  (211,(Ckl986,[],Ckf124),190,Ckc15,[1334],0),
  (211,(Ckl987,[],Ckf125),136,Ckc15,[1335],0),
  (211,(Ckl988,[],Ckf126),84,Ckc15,[1336],0),
  (211,(Ckl989,[],Ckf127),31,Ckc15,[1337],0),
  (211,(Ckl991,[],Ckf129),1091,Ckc15,[1339],0),
  (211,(Ckl992,[],Ckf130),1038,Ckc15,[1340],0),
  (211,(Ckl993,[],Ckf131),985,Ckc15,[1341],0),
  (211,(Ckl994,[],Ckf132),932,Ckc15,[1342],0),
  (211,(Ckl995,[],Ckf133),880,Ckc15,[1343],0),
  (211,(Ckl996,[],Ckf134),827,Ckc15,[1344],0),
  (211,(Ckl997,[],Ckf112),774,Ckc15,[1322],0),
  (214,(Ckl949,[],Ckf111),1251,Ckc15,[68],0),
  (214,(Ckl950,[],Ckf112),773,Ckc15,[69],0),
  (214,(Ckl951,[],Ckf113),720,Ckc15,[70],0),
  (214,(Ckl952,[],Ckf114),667,Ckc15,[71],0),
  (214,(Ckl953,[],Ckf115),614,Ckc15,[72],0),
  (214,(Ckl954,[],Ckf116),561,Ckc15,[73],0),
  (214,(Ckl955,[],Ckf117),508,Ckc15,[74],0),
  (214,(Ckl956,[],Ckf118),455,Ckc15,[75],0),
  (214,(Ckl957,[],Ckf119),402,Ckc15,[76],0),
  (214,(Ckl958,[],Ckf120),349,Ckc15,[77],0),
  (214,(Ckl959,[],Ckf121),295,Ckc15,[78],0),
  (214,(Ckl960,[],Ckf122),1197,Ckc15,[79],0),
  (214,(Ckl961,[],Ckf123),242,Ckc15,[80],0),
  (214,(Ckl962,[],Ckf124),189,Ckc15,[81],0),
  (214,(Ckl963,[],Ckf125),135,Ckc15,[82],0),
  (214,(Ckl964,[],Ckf126),83,Ckc15,[83],0),
  (214,(Ckl965,[],Ckf127),30,Ckc15,[84],0),
  (214,(Ckl966,[],Ckf128),1143,Ckc15,[85],0),
  (214,(Ckl967,[],Ckf129),1090,Ckc15,[86],0),
  (214,(Ckl968,[],Ckf130),1037,Ckc15,[87],0),
  (214,(Ckl969,[],Ckf131),984,Ckc15,[88],0),
  (214,(Ckl970,[],Ckf132),931,Ckc15,[89],0),
  (214,(Ckl971,[],Ckf133),879,Ckc15,[90],0)]
def CNC179_21 : List ND := [(214,(Ckl972,[],Ckf134),826,Ckc15,[91],0),
  (217,(Ckl1047,[],Ckf110),1300,Ckc15,[],0),
  (217,(Ckl1048,[],Ckf111),1247,Ckc15,[],0),
  (217,(Ckl1049,[],Ckf112),769,Ckc15,[],0),
  (217,(Ckl1050,[],Ckf113),716,Ckc15,[],0),
  (217,(Ckl1051,[],Ckf114),663,Ckc15,[],0),
  (217,(Ckl1052,[],Ckf115),610,Ckc15,[],0),
  (217,(Ckl1053,[],Ckf116),557,Ckc15,[],0),
  (217,(Ckl1054,[],Ckf117),15,Ckc15,[],0),
  (217,(Ckl1055,[],Ckf118),451,Ckc15,[],0),
  (217,(Ckl1056,[],Ckf119),17,Ckc15,[],0),
  (217,(Ckl1057,[],Ckf120),345,Ckc15,[],0),
  (217,(Ckl1058,[],Ckf121),291,Ckc15,[],0),
  (217,(Ckl1059,[],Ckf122),1193,Ckc15,[],0),
  (217,(Ckl1060,[],Ckf123),238,Ckc15,[],0),
  (217,(Ckl1061,[],Ckf124),185,Ckc15,[],0),
  (217,(Ckl1062,[],Ckf125),20,Ckc15,[],0),
  (217,(Ckl1063,[],Ckf126),22,Ckc15,[],0),
  (217,(Ckl965,[],Ckf127),23,Ckc15,[],0),
  (217,(Ckl1064,[],Ckf128),1139,Ckc15,[],0),
  (217,(Ckl1065,[],Ckf129),1086,Ckc15,[],0),
  (217,(Ckl1066,[],Ckf130),1033,Ckc15,[],0),
  (217,(Ckl1067,[],Ckf131),980,Ckc15,[],0),
  (217,(Ckl1068,[],Ckf132),6,Ckc15,[],0),
  (217,(Ckl1069,[],Ckf133),875,Ckc15,[],0),
  (217,(Ckl1070,[],Ckf134),822,Ckc15,[],0)]
def CNC179 : List (List ND) := [CNC179_0, CNC179_1, CNC179_2, CNC179_3, CNC179_4, CNC179_5, CNC179_6, CNC179_7, CNC179_8, CNC179_9, CNC179_10, CNC179_11, CNC179_12, CNC179_13, CNC179_14, CNC179_15, CNC179_16, CNC179_17, CNC179_18, CNC179_19, CNC179_20, CNC179_21]
theorem CKC179_0 : chkB prot SMsC SMC179 [] CNC179 CNC179_0 = true := by decide +kernel
theorem CKC179_1 : chkB prot SMsC SMC179 [] CNC179 CNC179_1 = true := by decide +kernel
theorem CKC179_2 : chkB prot SMsC SMC179 [] CNC179 CNC179_2 = true := by decide +kernel
theorem CKC179_3 : chkB prot SMsC SMC179 [] CNC179 CNC179_3 = true := by decide +kernel
theorem CKC179_4 : chkB prot SMsC SMC179 [] CNC179 CNC179_4 = true := by decide +kernel
theorem CKC179_5 : chkB prot SMsC SMC179 [] CNC179 CNC179_5 = true := by decide +kernel
theorem CKC179_6 : chkB prot SMsC SMC179 [] CNC179 CNC179_6 = true := by decide +kernel
theorem CKC179_7 : chkB prot SMsC SMC179 [] CNC179 CNC179_7 = true := by decide +kernel
theorem CKC179_8 : chkB prot SMsC SMC179 [] CNC179 CNC179_8 = true := by decide +kernel
theorem CKC179_9 : chkB prot SMsC SMC179 [] CNC179 CNC179_9 = true := by decide +kernel
theorem CKC179_10 : chkB prot SMsC SMC179 [] CNC179 CNC179_10 = true := by decide +kernel
theorem CKC179_11 : chkB prot SMsC SMC179 [] CNC179 CNC179_11 = true := by decide +kernel
theorem CKC179_12 : chkB prot SMsC SMC179 [] CNC179 CNC179_12 = true := by decide +kernel
theorem CKC179_13 : chkB prot SMsC SMC179 [] CNC179 CNC179_13 = true := by decide +kernel
theorem CKC179_14 : chkB prot SMsC SMC179 [] CNC179 CNC179_14 = true := by decide +kernel
theorem CKC179_15 : chkB prot SMsC SMC179 [] CNC179 CNC179_15 = true := by decide +kernel
theorem CKC179_16 : chkB prot SMsC SMC179 [] CNC179 CNC179_16 = true := by decide +kernel
theorem CKC179_17 : chkB prot SMsC SMC179 [] CNC179 CNC179_17 = true := by decide +kernel
theorem CKC179_18 : chkB prot SMsC SMC179 [] CNC179 CNC179_18 = true := by decide +kernel
theorem CKC179_19 : chkB prot SMsC SMC179 [] CNC179 CNC179_19 = true := by decide +kernel
theorem CKC179_20 : chkB prot SMsC SMC179 [] CNC179 CNC179_20 = true := by decide +kernel
theorem CKC179_21 : chkB prot SMsC SMC179 [] CNC179 CNC179_21 = true := by decide +kernel
theorem CKC179 : chkS prot SMsC SMC179 [] CNC179 = true := chkS_of (allc CKC179_0 (allc CKC179_1 (allc CKC179_2 (allc CKC179_3 (allc CKC179_4 (allc CKC179_5 (allc CKC179_6 (allc CKC179_7 (allc CKC179_8 (allc CKC179_9 (allc CKC179_10 (allc CKC179_11 (allc CKC179_12 (allc CKC179_13 (allc CKC179_14 (allc CKC179_15 (allc CKC179_16 (allc CKC179_17 (allc CKC179_18 (allc CKC179_19 (allc CKC179_20 (allc CKC179_21 (alln))))))))))))))))))))))) (by decide +kernel)
