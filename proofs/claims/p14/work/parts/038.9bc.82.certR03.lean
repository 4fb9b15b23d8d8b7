/-! LM, by program: certificates R 3 -/
-- OneSidedModel.afterMove [(182, 182), (0, 199), (-2147483648, 2147483647)]
def Rka122 : AV := (0,0,199,1)
def Rkl291 : AL := [some Rka0,some Rka122,some Rka5,none,none,none,none,none,none,none,none]
def Rkc34 : List Int := [0,0,0,0,0,0,0,0,0,0,0]
def Rke233 : SE := (Rka122,(1,1,0,0,0))
def Rkl292 : AL := [some Rka0,some Rka122,some Rka5,some Rka28,none,none,none,none,none,none,none]
def Rkl293 : AL := [some Rka0,some Rka122,some Rka5,some Rka28,some Rka28,none,none,none,none,none,none]
def Rkl294 : AL := [some Rka0,some Rka122,some Rka5,some Rka28,some Rka28,some Rka28,none,none,none,none,none]
def Rkl295 : AL := [some Rka0,some Rka122,some Rka5,some Rka28,some Rka28,some Rka28,some Rka84,none,none,none,none]
def Rkl296 : AL := [some Rka0,some Rka122,some Rka5,some Rka28,some Rka28,some Rka28,some Rka84,some Rka17,none,none,none]
def Rkl297 : AL := [some Rka0,some Rka122,some Rka5,some Rka28,some Rka28,some Rka28,some Rka84,some Rka17,some Rka21,none,none]
def Rkl298 : AL := [some Rka0,some Rka122,some Rka5,some Rka28,some Rka28,some Rka28,some Rka84,some Rka39,some Rka39,some Rka59,none]
def Rkc35 : List Int := [0,0,0,0,0,0,0,0,0,-59,0]
def Rkl299 : AL := [some Rka0,some Rka122,some Rka5,some Rka28,some Rka28,some Rka28,some Rka84,some Rka17,some Rka21,some Rka21,none]
def Rke234 : SE := (Rka21,(1,9,0,0,0))
def Rke235 : SE := (Rka59,(1,9,0,0,0))
def Rkl300 : AL := [some Rka0,some Rka122,some Rka5,some Rka28,some Rka28,some Rka28,some Rka84,some Rka39,some Rka39,some Rka28,none]
def Rke236 : SE := (Rka84,(1,6,0,0,0))
def Rke237 : SE := (Rka28,(1,9,0,0,0))
def Rka123 : AV := (2,212,212,0)
def Rke238 : SE := (Rka123,(2,182,51,0,0))
def Rka124 : AV := (0,0,180,20)
def Rke239 : SE := (Rka124,pv0)
def Rkl301 : AL := [some Rka0,some Rka122,some Rka5,some Rka28,some Rka28,some Rka28,some Rka84,some Rka39,some Rka39,some Rka28,some Rka5]
def Rkl302 : AL := [some Rka0,some Rka122,some Rka5,some Rka28,some Rka28,some Rka28,some Rka84,some Rka17,some Rka21,some Rka21,some Rka5]
def Rke240 : SE := (Rka17,(1,7,0,0,0))
def Rke241 : SE := (Rka39,(1,7,0,0,0))
def Rkl303 : AL := [some Rka0,some Rka122,some Rka5,some Rka28,some Rka28,some Rka28,some Rka84,some Rka17,some Rka39,some Rka28,some Rka5]
def Rke242 : SE := (Rka5,(1,10,0,0,0))
def Rkl304 : AL := [some Rka0,some Rka122,some Rka91,some Rka28,some Rka28,some Rka28,some Rka84,some Rka17,some Rka39,some Rka28,some Rka92]
def Rkl305 : AL := [some Rka0,some Rka122,some Rka5,some Rka28,some Rka28,some Rka28,some Rka84,some Rka39,some Rka21,some Rka21,some Rka5]
def Rke243 : SE := (Rka21,(1,8,0,0,0))
def Rke244 : SE := (Rka39,(1,8,0,0,0))
def Rkl306 : AL := [some Rka0,some Rka122,some Rka5,some Rka28,some Rka28,some Rka28,some Rka84,some Rka39,some Rka21,some Rka28,some Rka5]
def Rkl307 : AL := [some Rka0,some Rka122,some Rka5,some Rka28,some Rka28,some Rka28,some Rka84,some Rka39,some Rka39,some Rka60,none]
def CNR55_0 : List ND := [(0,(Rkl291,[],[]),689,Rkc34,[1],0),
  (1,(Rkl291,[Rke233],[]),688,Rkc34,[2],0),
  (3,(Rkl291,[Rke48,Rke233],[]),687,Rkc34,[3],0),
  (4,(Rkl291,[Rke100],[]),686,Rkc34,[4],0),
  (5,(Rkl292,[],[]),685,Rkc34,[5],0),
  (6,(Rkl292,[Rke233],[]),684,Rkc34,[6],0),
  (7,(Rkl292,[Rke50,Rke233],[]),683,Rkc34,[7],0),
  (8,(Rkl292,[Rke231],[]),682,Rkc34,[8],0),
  (10,(Rkl292,[Rke9,Rke231],[]),681,Rkc34,[9],0),
  (11,(Rkl292,[Rke100],[]),680,Rkc34,[10],0),
  (13,(Rkl293,[],[]),679,Rkc34,[11],0),
  (14,(Rkl293,[Rke233],[]),678,Rkc34,[12],0),
  (15,(Rkl293,[Rke50,Rke233],[]),677,Rkc34,[13],0),
  (16,(Rkl293,[Rke47],[]),676,Rkc34,[16,14],0),
  (19,(Rkl293,[],[]),674,Rkc34,[15],0),
  (20,(Rkl293,[Rke81],[]),673,Rkc34,[17],0),
  (23,(Rkl293,[],[]),675,Rkc34,[17],0),
  (25,(Rkl293,[Rke100],[]),672,Rkc34,[18],0),
  (27,(Rkl294,[],[]),671,Rkc34,[19],0),
  (28,(Rkl294,[Rke13],[]),670,Rkc34,[20],0),
  (31,(Rkl294,[Rke135],[]),669,Rkc34,[21],0),
  (33,(Rkl294,[Rke136,Rke135],[]),668,Rkc34,[22],0),
  (34,(Rkl294,[Rke128],[]),667,Rkc34,[23],0),
  (35,(Rkl294,[Rke19,Rke128],[]),666,Rkc34,[24],0),
  (37,(Rkl294,[Rke136,Rke19,Rke128],[]),665,Rkc34,[25],0),
  (38,(Rkl294,[Rke121,Rke128],[]),664,Rkc34,[26],0),
  (39,(Rkl294,[Rke128],[]),663,Rkc34,[27],0),
  (41,(Rkl295,[],[]),662,Rkc34,[28],0),
  (42,(Rkl295,[Rke19],[]),661,Rkc34,[29],0),
  (44,(Rkl296,[],[]),660,Rkc34,[30],0),
  (45,(Rkl296,[Rke21],[]),659,Rkc34,[31],0),
  (47,(Rkl297,[],[]),658,Rkc34,[32],0),
  (48,(Rkl297,[Rke21],[]),657,Rkc34,[33],0),
  (50,(Rkl298,[],[]),655,Rkc35,[35],0),
  (52,(Rkl299,[Rke234],[]),692,Rkc34,[36],0),
  (52,(Rkl298,[Rke235],[]),654,Rkc35,[37],0),
  (53,(Rkl299,[Rke13,Rke234],[]),691,Rkc34,[38],13),
  (53,(Rkl298,[Rke13,Rke235],[]),653,Rkc35,[39],13),
  (56,(Rkl299,[Rke68,Rke234],[]),690,Rkc34,[105,40],0),
  (56,(Rkl298,[Rke68,Rke235],[]),652,Rkc35,[105,40],0),
  (59,(Rkl300,[],Rkf4),651,Rkc35,[41],0),
  (61,(Rkl300,[Rke236],Rkf4),650,Rkc35,[43],0),
  (63,(Rkl299,[Rke234,Rke236],Rkf4),693,Rkc34,[45,44],23),
  (63,(Rkl300,[Rke237,Rke236],Rkf4),649,Rkc35,[45,44],23),
  (66,(Rkl300,[Rke21],Rkf4),648,Rkc35,[103],0),
  (66,(Rkl300,[Rke19],Rkf4),647,Rkc35,[46],0),
  (69,(Rkl300,[],Rkf4),646,Rkc35,[47],0),
  (70,(Rkl300,[Rke233],Rkf4),645,Rkc35,[48],0),
  (71,(Rkl300,[Rke50,Rke233],Rkf4),644,Rkc35,[49],0),
  (72,(Rkl300,[Rke47],Rkf4),643,Rkc35,[68,50],0),
  (75,(Rkl300,[],Rkf4),632,Rkc35,[51],0),
  (76,(Rkl300,[Rke13],Rkf4),631,Rkc35,[52],0),
  (79,(Rkl300,[Rke238],Rkf4),630,Rkc35,[53],0),
  (81,(Rkl300,[Rke48,Rke238],Rkf4),629,Rkc35,[55],0),
  (83,(Rkl299,[Rke234,Rke48,Rke238],Rkf4),698,Rkc34,[56],0),
  (83,(Rkl300,[Rke237,Rke48,Rke238],Rkf4),628,Rkc35,[57],0),
  (84,(Rkl299,[Rke21,Rke238],Rkf4),697,Rkc34,[58],0),
  (84,(Rkl300,[Rke239,Rke238],Rkf4),627,Rkc35,[59],0),
  (85,(Rkl299,[Rke50,Rke21,Rke238],Rkf4),696,Rkc34,[60],0),
  (85,(Rkl300,[Rke50,Rke239,Rke238],Rkf4),626,Rkc35,[61],0),
  (87,(Rkl299,[Rke74,Rke50,Rke21,Rke238],Rkf4),695,Rkc34,[62],0),
  (87,(Rkl300,[Rke74,Rke50,Rke239,Rke238],Rkf4),625,Rkc35,[63],0),
  (88,(Rkl299,[Rke220,Rke21,Rke238],Rkf4),694,Rkc34,[64],0),
  (88,(Rkl300,[Rke220,Rke239,Rke238],Rkf4),624,Rkc35,[64],0)]
def CNR55_1 : List ND := [(89,(Rkl300,[Rke213,Rke238],Rkf4),623,Rkc35,[65],0),
  (90,(Rkl300,[Rke19,Rke213,Rke238],Rkf4),622,Rkc35,[66],0),
  (91,(Rkl300,[Rke214,Rke238],Rkf4),621,Rkc35,[67],0),
  (92,(Rkl300,[Rke5],Rkf4),620,Rkc35,[80],0),
  (95,(Rkl300,[],Rkf4),642,Rkc35,[69],0),
  (96,(Rkl300,[Rke13],Rkf4),641,Rkc35,[70],0),
  (99,(Rkl300,[Rke238],Rkf4),640,Rkc35,[71],0),
  (101,(Rkl300,[Rke48,Rke238],Rkf4),639,Rkc35,[72],0),
  (102,(Rkl300,[Rke81,Rke48,Rke238],Rkf4),638,Rkc35,[73],0),
  (103,(Rkl300,[Rke239,Rke238],Rkf4),637,Rkc35,[74],0),
  (104,(Rkl300,[Rke50,Rke239,Rke238],Rkf4),636,Rkc35,[76],0),
  (106,(Rkl299,[Rke234,Rke50,Rke239,Rke238],Rkf4),700,Rkc34,[77],0),
  (106,(Rkl300,[Rke237,Rke50,Rke239,Rke238],Rkf4),635,Rkc35,[78],0),
  (107,(Rkl299,[Rke21,Rke239,Rke238],Rkf4),699,Rkc34,[79],0),
  (107,(Rkl300,[Rke220,Rke239,Rke238],Rkf4),634,Rkc35,[79],0),
  (108,(Rkl300,[Rke213,Rke238],Rkf4),633,Rkc35,[80],0),
  (109,(Rkl300,[Rke5],Rkf4),619,Rkc35,[81],0),
  (111,(Rkl301,[],Rkf4),618,Rkc35,[83],0),
  (113,(Rkl302,[Rke240],Rkf4),701,Rkc34,[84],0),
  (113,(Rkl301,[Rke241],Rkf4),617,Rkc35,[89,84],0),
  (116,(Rkl303,[],Rkf4),616,Rkc35,[85],0),
  (118,(Rkl303,[Rke242],Rkf4),615,Rkc35,[86],0),
  (119,(Rkl303,[Rke40,Rke242],Rkf4),614,Rkc35,[89,87],0),
  (122,(Rkl304,[],Rkf4),613,Rkc35,[88],0),
  (123,(Rkl304,[Rke19],Rkf4),612,Rkc35,[91],0),
  (126,(Rkl301,[],Rkf4),610,Rkc35,[90],0),
  (127,(Rkl301,[Rke21],Rkf4),609,Rkc35,[92],0),
  (127,(Rkl304,[Rke19],Rkf4),611,Rkc35,[92],0),
  (129,(Rkl301,[],Rkf4),608,Rkc35,[94],0),
  (131,(Rkl305,[Rke243],Rkf4),702,Rkc34,[95],0),
  (131,(Rkl301,[Rke244],Rkf4),607,Rkc35,[98,95],0),
  (134,(Rkl306,[],Rkf4),606,Rkc35,[96],0),
  (136,(Rkl306,[Rke242],Rkf4),605,Rkc35,[97],0),
  (137,(Rkl306,[Rke40,Rke242],Rkf4),604,Rkc35,[100,98],0),
  (140,(Rkl301,[],Rkf4),601,Rkc35,[99],0),
  (141,(Rkl301,[Rke19],Rkf4),600,Rkc35,[102],0),
  (144,(Rkl306,[],Rkf4),603,Rkc35,[101],0),
  (145,(Rkl306,[Rke21],Rkf4),602,Rkc35,[103],0),
  (145,(Rkl301,[Rke19],Rkf4),599,Rkc35,[103],0),
  (147,(Rkl300,[],Rkf4),598,Rkc35,[104],0),
  (150,(Rkl307,[],Rkf4),656,Rkc35,[33],0),
  (153,(Rkl298,[],[]),7,Rkc34,[106],0),
  (154,(Rkl298,[Rke233],[]),6,Rkc34,[107],0),
  (155,(Rkl298,[Rke50,Rke233],[]),5,Rkc34,[108],0),
  (156,(Rkl298,[Rke47],[]),4,Rkc34,[111,109],0),
  (159,(Rkl298,[],[]),2,Rkc34,[110],0),
  (161,(Rkl298,[Rke241],[]),1,Rkc34,[112],0),
  (164,(Rkl298,[],[]),3,Rkc34,[112],0),
  (166,(Rkl298,[Rke47],[]),0,Rkc34,[],0)]
def CNR55 : List (List ND) := [CNR55_0, CNR55_1]
theorem CKR55 : chkS prot SMsR SMR55 [] CNR55 = true := by decide +kernel
-- OneSidedModel.chase [(182, 182), (-2147483648, 2147483647), (-2147483648, 2147483647)]
def Rkl308 : AL := [some Rka0,some Rka28,some Rka5,none,none]
def Rkl309 : AL := [some Rka0,some Rka28,some Rka28,none,none]
def Rka125 : AV := (0,0,200,1)
def Rkl310 : AL := [some Rka0,some Rka28,some Rka28,some Rka125,none]
def Rkc36 : List Int := [0,0,0,-22,0]
def Rkl311 : AL := [some Rka0,some Rka28,some Rka28,some Rka21,none]
def Rke245 : SE := (Rka125,(1,3,0,0,0))
def Rka126 : AV := (0,200,200,0)
def Rke246 : SE := (Rka126,pv0)
def Rkl312 : AL := [some Rka0,some Rka28,some Rka28,some Rka122,none]
def Rke247 : SE := (Rka122,(1,3,0,0,0))
def Rkl313 : AL := [some Rka0,some Rka28,some Rka28,some Rka74,none]
def Rke248 : SE := (Rka74,(1,3,0,0,0))
def Rka127 : AV := (0,1000000,1000000,0)
def Rke249 : SE := (Rka127,pv0)
def Rka128 : AV := (0,1,200,1)
def Rkl314 : AL := [some Rka0,some Rka28,some Rka28,some Rka128,none]
def Rkl315 : AL := [some Rka0,some Rka28,some Rka28,some Rka126,none]
def Rkc37 : List Int := [0,0,0,-7444,0]
def Rkl316 : AL := [some Rka0,some Rka28,some Rka28,some Rka17,none]
def Rke250 : SE := (Rka17,(1,3,0,0,0))
def Rke251 : SE := (Rka128,(1,3,0,0,0))
def Rka129 : AV := (0,1,199,1)
def Rkl317 : AL := [some Rka0,some Rka28,some Rka28,some Rka129,none]
def Rkl318 : AL := [some Rka0,some Rka28,some Rka28,some Rka129,some Rka125]
def Rkc38 : List Int := [0,0,0,-7444,-37]
def Rkl319 : AL := [some Rka0,some Rka28,some Rka28,some Rka17,some Rka21]
def Rke252 : SE := (Rka125,(1,4,0,0,0))
def Rkl320 : AL := [some Rka0,some Rka28,some Rka28,some Rka129,some Rka122]
def Rke253 : SE := (Rka122,(1,4,0,0,0))
def Rkf36 : FA := [(182,0,Rka21),(212,0,Rka127)]
def Rkl321 : AL := [some Rka0,some Rka28,some Rka28,some Rka17,some Rka74]
def Rkf37 : FA := [(182,0,Rka21),(188,0,Rka60),(212,0,Rka127)]
def Rkl322 : AL := [some Rka0,some Rka28,some Rka28,some Rka17,some Rka39]
def Rkl323 : AL := [some Rka0,some Rka28,some Rka28,some Rka17,some Rka122]
def Rke254 : SE := (Rka129,(1,3,0,0,0))
def Rka130 : AV := (0,1,1000000,1)
def Rke255 : SE := (Rka130,pv0)
def Rkl324 : AL := [some Rka0,some Rka28,some Rka28,some Rka129,some Rka128]
def Rkl325 : AL := [some Rka0,some Rka28,some Rka28,some Rka129,some Rka126]
def Rka131 : AV := (0,2,200,1)
def Rkl326 : AL := [some Rka0,some Rka28,some Rka28,some Rka131,some Rka126]
def Rkl327 : AL := [some Rka0,some Rka28,some Rka28,some Rka5,none]
def Rkl328 : AL := [some Rka0,some Rka28,some Rka28,some Rka127,none]
def CNR56_0 : List ND := [(0,(Rkl167,[],[]),1493265,Rkc0,[1],0),
  (1,(Rkl167,[Rke13],[]),1493264,Rkc0,[2],0),
  (2,(Rkl167,[Rke21,Rke13],[]),1493263,Rkc0,[3],0),
  (5,(Rkl167,[],Rkf1),1493262,Rkc0,[4],0),
  (6,(Rkl167,[Rke13],Rkf1),1493261,Rkc0,[5],0),
  (7,(Rkl167,[Rke26,Rke13],Rkf1),1493260,Rkc0,[7,6],14),
  (10,(Rkl167,[Rke21],Rkf1),1493259,Rkc0,[13],0),
  (10,(Rkl308,[Rke19],Rkf1),1493258,Rkc0,[8],0),
  (13,(Rkl308,[],Rkf1),1493257,Rkc0,[9],0),
  (14,(Rkl308,[Rke13],Rkf1),1493256,Rkc0,[10],0),
  (15,(Rkl308,[Rke40,Rke13],Rkf1),1493255,Rkc0,[12,11],14),
  (18,(Rkl308,[Rke21],Rkf1),1493254,Rkc0,[13],0),
  (18,(Rkl309,[Rke19],Rkf1),1493251,Rkc0,[15],0),
  (21,(Rkl167,[],Rkf1),1493253,Rkc0,[14],0),
  (22,(Rkl167,[Rke42],Rkf1),1493252,Rkc0,[],0),
  (23,(Rkl309,[],Rkf1),1493250,Rkc0,[16],0),
  (24,(Rkl309,[Rke13],Rkf1),1493249,Rkc0,[17],0),
  (25,(Rkl309,[Rke13,Rke13],Rkf1),1493248,Rkc0,[18],0),
  (28,(Rkl309,[Rke45,Rke13],Rkf1),1493247,Rkc0,[19],0),
  (29,(Rkl309,[Rke19,Rke45,Rke13],Rkf1),1493246,Rkc0,[20],0),
  (30,(Rkl309,[Rke46,Rke13],Rkf1),1493245,Rkc0,[21],48),
  (33,(Rkl309,[],Rkf1),1493244,Rkc0,[22],0),
  (34,(Rkl309,[Rke21],Rkf1),1493243,Rkc0,[23],0),
  (35,(Rkl310,[],Rkf1),1493241,Rkc36,[25],0),
  (36,(Rkl311,[Rke145],Rkf1),1493267,Rkc0,[26],0),
  (36,(Rkl310,[Rke245],Rkf1),1493240,Rkc36,[27],0),
  (39,(Rkl311,[Rke246,Rke145],Rkf1),1493266,Rkc0,[28],0),
  (39,(Rkl310,[Rke246,Rke245],Rkf1),1493239,Rkc36,[68,28],0),
  (42,(Rkl312,[],Rkf1),1493238,Rkc36,[29],0),
  (43,(Rkl312,[Rke13],Rkf1),1493237,Rkc36,[30],0),
  (46,(Rkl312,[Rke238],Rkf1),1493236,Rkc36,[32],0),
  (47,(Rkl311,[Rke145,Rke238],Rkf1),1493279,Rkc0,[33],0),
  (47,(Rkl312,[Rke247,Rke238],Rkf1),1493235,Rkc36,[34],0),
  (48,(Rkl311,[Rke145,Rke145,Rke238],Rkf1),1493278,Rkc0,[35],0),
  (48,(Rkl312,[Rke247,Rke247,Rke238],Rkf1),1493234,Rkc36,[36],0),
  (50,(Rkl311,[Rke48,Rke145,Rke145,Rke238],Rkf1),1493277,Rkc0,[37],0),
  (50,(Rkl312,[Rke48,Rke247,Rke247,Rke238],Rkf1),1493233,Rkc36,[39],0),
  (51,(Rkl311,[Rke21,Rke145,Rke238],Rkf1),1493276,Rkc0,[40],0),
  (51,(Rkl313,[Rke21,Rke248,Rke238],Rkf1),1493285,Rkc0,[41],0),
  (51,(Rkl312,[Rke100,Rke247,Rke238],Rkf1),1493232,Rkc36,[42],0),
  (52,(Rkl311,[Rke145,Rke21,Rke145,Rke238],Rkf1),1493275,Rkc0,[43],0),
  (52,(Rkl313,[Rke248,Rke21,Rke248,Rke238],Rkf1),1493284,Rkc0,[44],0),
  (52,(Rkl312,[Rke247,Rke100,Rke247,Rke238],Rkf1),1493231,Rkc36,[45],0),
  (53,(Rkl311,[Rke50,Rke145,Rke21,Rke145,Rke238],Rkf1),1493274,Rkc0,[47],0),
  (53,(Rkl313,[Rke50,Rke248,Rke21,Rke248,Rke238],Rkf1),1493283,Rkc0,[48],0),
  (53,(Rkl312,[Rke50,Rke247,Rke100,Rke247,Rke238],Rkf1),1493230,Rkc36,[49],0),
  (54,(Rkl189,[Rke21,Rke21,Rke179,Rke238],Rkf1),1493288,Rkc0,[50],0),
  (54,(Rkl311,[Rke21,Rke21,Rke145,Rke238],Rkf1),1493273,Rkc0,[51],0),
  (54,(Rkl313,[Rke100,Rke21,Rke248,Rke238],Rkf1),1493282,Rkc0,[52],0),
  (54,(Rkl312,[Rke231,Rke100,Rke247,Rke238],Rkf1),1493229,Rkc36,[53],0),
  (56,(Rkl189,[Rke9,Rke21,Rke21,Rke179,Rke238],Rkf1),1493287,Rkc0,[54],0),
  (56,(Rkl311,[Rke9,Rke21,Rke21,Rke145,Rke238],Rkf1),1493272,Rkc0,[55],0),
  (56,(Rkl313,[Rke9,Rke100,Rke21,Rke248,Rke238],Rkf1),1493281,Rkc0,[56],0),
  (56,(Rkl312,[Rke9,Rke231,Rke100,Rke247,Rke238],Rkf1),1493228,Rkc36,[57],0),
  (57,(Rkl189,[Rke21,Rke21,Rke179,Rke238],Rkf1),1493286,Rkc0,[59],0),
  (57,(Rkl311,[Rke21,Rke21,Rke145,Rke238],Rkf1),1493271,Rkc0,[58],0),
  (57,(Rkl313,[Rke100,Rke21,Rke248,Rke238],Rkf1),1493280,Rkc0,[62,59],0),
  (57,(Rkl312,[Rke100,Rke100,Rke247,Rke238],Rkf1),1493227,Rkc36,[62,59],0),
  (60,(Rkl311,[Rke145,Rke238],Rkf1),1493270,Rkc0,[60],0),
  (60,(Rkl312,[Rke247,Rke238],Rkf1),1493224,Rkc36,[61],0),
  (61,(Rkl311,[Rke21,Rke145,Rke238],Rkf1),1493269,Rkc0,[63],0),
  (61,(Rkl312,[Rke21,Rke247,Rke238],Rkf1),1493223,Rkc36,[64],0),
  (64,(Rkl312,[Rke247,Rke238],Rkf1),1493226,Rkc36,[65],0),
  (67,(Rkl311,[Rke21,Rke145,Rke238],Rkf1),1493268,Rkc0,[66],0)]
def CNR56_1 : List ND := [(67,(Rkl312,[Rke21,Rke247,Rke238],Rkf1),1493222,Rkc36,[66],0),
  (67,(Rkl312,[Rke249,Rke247,Rke238],Rkf1),1493225,Rkc36,[66],0),
  (68,(Rkl312,[],Rkf1),1493221,Rkc36,[67],0),
  (71,(Rkl314,[],Rkf1),1493242,Rkc36,[23],0),
  (74,(Rkl315,[],Rkf1),1488820,Rkc0,[69],0),
  (75,(Rkl315,[Rke19],Rkf1),1488819,Rkc0,[70],0),
  (76,(Rkl314,[],Rkf1),1496261,Rkc37,[72],0),
  (77,(Rkl316,[Rke250],Rkf1),1493290,Rkc0,[73],0),
  (77,(Rkl314,[Rke251],Rkf1),1496260,Rkc37,[74],0),
  (80,(Rkl316,[Rke246,Rke250],Rkf1),1493289,Rkc0,[75],0),
  (80,(Rkl314,[Rke246,Rke251],Rkf1),1496259,Rkc37,[144,75],0),
  (83,(Rkl317,[],Rkf1),1496258,Rkc37,[76],0),
  (84,(Rkl317,[Rke21],Rkf1),1496257,Rkc37,[77],0),
  (86,(Rkl318,[],Rkf1),1496255,Rkc38,[79],0),
  (88,(Rkl319,[Rke156],Rkf1),1493292,Rkc0,[80],0),
  (88,(Rkl318,[Rke252],Rkf1),1496254,Rkc38,[81],0),
  (91,(Rkl319,[Rke246,Rke156],Rkf1),1493291,Rkc0,[82],0),
  (91,(Rkl318,[Rke246,Rke252],Rkf1),1496253,Rkc38,[142,82],0),
  (94,(Rkl320,[],Rkf1),1496252,Rkc38,[83],0),
  (95,(Rkl320,[Rke13],Rkf1),1496251,Rkc38,[84],0),
  (98,(Rkl320,[Rke238],Rkf1),1496250,Rkc38,[86],0),
  (100,(Rkl319,[Rke156,Rke238],Rkf1),1493293,Rkc0,[87],0),
  (100,(Rkl320,[Rke253,Rke238],Rkf1),1496249,Rkc38,[87],0),
  (101,(Rkl320,[Rke5],Rkf1),1496248,Rkc38,[88],0),
  (104,(Rkl320,[Rke249,Rke5],Rkf1),1496247,Rkc38,[140,89],0),
  (107,(Rkl320,[],Rkf1),1496246,Rkc38,[91],0),
  (109,(Rkl319,[Rke156],Rkf36),1493298,Rkc0,[92],0),
  (109,(Rkl320,[Rke253],Rkf1),1496245,Rkc38,[93],0),
  (111,(Rkl319,[Rke48,Rke156],Rkf36),1493297,Rkc0,[94],0),
  (111,(Rkl320,[Rke48,Rke253],Rkf1),1496244,Rkc38,[95],0),
  (112,(Rkl321,[Rke21],Rkf1),1493296,Rkc0,[96],0),
  (112,(Rkl320,[Rke100],Rkf1),1496243,Rkc38,[97],0),
  (113,(Rkl321,[Rke13,Rke21],Rkf1),1493295,Rkc0,[98],13),
  (113,(Rkl320,[Rke13,Rke100],Rkf1),1496242,Rkc38,[99],13),
  (116,(Rkl321,[Rke68,Rke21],Rkf1),1493294,Rkc0,[140,100],0),
  (116,(Rkl320,[Rke68,Rke100],Rkf1),1496241,Rkc38,[140,100],0),
  (119,(Rkl320,[],Rkf12),1496240,Rkc38,[102],0),
  (121,(Rkl319,[Rke156],Rkf37),1493305,Rkc0,[103],0),
  (121,(Rkl320,[Rke253],Rkf12),1496239,Rkc38,[104],0),
  (122,(Rkl319,[Rke50,Rke156],Rkf37),1493304,Rkc0,[105],0),
  (122,(Rkl320,[Rke50,Rke253],Rkf12),1496238,Rkc38,[106],0),
  (123,(Rkl322,[Rke21],Rkf12),1493303,Rkc0,[107],0),
  (123,(Rkl320,[Rke231],Rkf12),1496237,Rkc38,[108],0),
  (125,(Rkl322,[Rke9,Rke21],Rkf12),1493302,Rkc0,[109],0),
  (125,(Rkl320,[Rke9,Rke231],Rkf12),1496236,Rkc38,[110],0),
  (126,(Rkl322,[Rke21],Rkf12),1493301,Rkc0,[111],0),
  (126,(Rkl320,[Rke100],Rkf12),1496235,Rkc38,[112],0),
  (127,(Rkl322,[Rke13,Rke21],Rkf12),1493300,Rkc0,[113],13),
  (127,(Rkl320,[Rke13,Rke100],Rkf12),1496234,Rkc38,[114],13),
  (130,(Rkl322,[Rke195,Rke21],Rkf12),1493299,Rkc0,[115],0),
  (130,(Rkl320,[Rke195,Rke100],Rkf12),1496233,Rkc38,[140,115],0),
  (133,(Rkl320,[],Rkf12),1496232,Rkc38,[116],0),
  (134,(Rkl320,[Rke13],Rkf12),1496231,Rkc38,[117],0),
  (137,(Rkl320,[Rke238],Rkf12),1496230,Rkc38,[119],0),
  (139,(Rkl319,[Rke156,Rke238],Rkf37),1493315,Rkc0,[120],0),
  (139,(Rkl320,[Rke253,Rke238],Rkf12),1496229,Rkc38,[121],0),
  (140,(Rkl319,[Rke13,Rke156,Rke238],Rkf37),1493314,Rkc0,[122],0),
  (140,(Rkl320,[Rke13,Rke253,Rke238],Rkf12),1496228,Rkc38,[123],0),
  (142,(Rkl319,[Rke156,Rke13,Rke156,Rke238],Rkf37),1493313,Rkc0,[124],0),
  (142,(Rkl320,[Rke253,Rke13,Rke253,Rke238],Rkf12),1496227,Rkc38,[126],0),
  (143,(Rkl319,[Rke250,Rke156,Rke13,Rke156,Rke238],Rkf37),1493312,Rkc0,[127],55),
  (143,(Rkl323,[Rke250,Rke253,Rke13,Rke253,Rke238],Rkf12),1493316,Rkc0,[128],55),
  (143,(Rkl320,[Rke254,Rke253,Rke13,Rke253,Rke238],Rkf12),1496226,Rkc38,[128],55),
  (146,(Rkl319,[Rke47,Rke156,Rke238],Rkf37),1493311,Rkc0,[134,129],0)]
def CNR56_2 : List ND := [(146,(Rkl320,[Rke47,Rke253,Rke238],Rkf12),1496225,Rkc38,[135,130],0),
  (149,(Rkl319,[Rke156,Rke238],Rkf37),1493310,Rkc0,[131],0),
  (149,(Rkl320,[Rke253,Rke238],Rkf12),1496224,Rkc38,[133],0),
  (150,(Rkl319,[Rke250,Rke156,Rke238],Rkf37),1493309,Rkc0,[136],0),
  (150,(Rkl323,[Rke250,Rke253,Rke238],Rkf12),1493318,Rkc0,[138],0),
  (150,(Rkl320,[Rke254,Rke253,Rke238],Rkf12),1496223,Rkc38,[139],0),
  (153,(Rkl319,[Rke156,Rke238],Rkf37),1493307,Rkc0,[137],0),
  (153,(Rkl320,[Rke253,Rke238],Rkf12),1496222,Rkc38,[139],0),
  (156,(Rkl319,[Rke250,Rke156,Rke238],Rkf37),1493308,Rkc0,[140],0),
  (156,(Rkl319,[Rke249,Rke156,Rke238],Rkf37),1493306,Rkc0,[140],0),
  (156,(Rkl323,[Rke250,Rke253,Rke238],Rkf12),1493317,Rkc0,[140],0),
  (156,(Rkl320,[Rke255,Rke253,Rke238],Rkf12),1496221,Rkc38,[140],0),
  (157,(Rkl320,[],Rkf1),1496220,Rkc38,[141],0),
  (160,(Rkl324,[],Rkf1),1496256,Rkc38,[77],0),
  (163,(Rkl325,[],Rkf1),1488819,Rkc37,[143],0),
  (166,(Rkl326,[],Rkf1),1496262,Rkc37,[70],0),
  (169,(Rkl315,[],Rkf1),18,Rkc0,[145],0),
  (170,(Rkl315,[Rke13],Rkf1),17,Rkc0,[146],0),
  (173,(Rkl315,[Rke238],Rkf1),16,Rkc0,[147],0),
  (175,(Rkl315,[Rke48,Rke238],Rkf1),15,Rkc0,[148],0),
  (176,(Rkl315,[Rke149,Rke48,Rke238],Rkf1),14,Rkc0,[149],0),
  (177,(Rkl315,[Rke239,Rke238],Rkf1),13,Rkc0,[150],0),
  (178,(Rkl315,[Rke50,Rke239,Rke238],Rkf1),12,Rkc0,[151],0),
  (179,(Rkl315,[Rke43,Rke50,Rke239,Rke238],Rkf1),11,Rkc0,[152],0),
  (180,(Rkl315,[Rke220,Rke239,Rke238],Rkf1),10,Rkc0,[153],0),
  (181,(Rkl315,[Rke213,Rke238],Rkf1),9,Rkc0,[154],0),
  (182,(Rkl315,[Rke5],Rkf1),8,Rkc0,[155],0),
  (183,(Rkl327,[],Rkf1),7,Rkc0,[156],0),
  (184,(Rkl327,[Rke78],Rkf1),6,Rkc0,[157],0),
  (187,(Rkl327,[Rke249,Rke78],Rkf1),5,Rkc0,[160,158],0),
  (190,(Rkl328,[],Rkf1),2,Rkc0,[159],0),
  (191,(Rkl328,[Rke42],Rkf1),1,Rkc0,[161],0),
  (194,(Rkl327,[],Rkf1),4,Rkc0,[162],0),
  (195,(Rkl328,[Rke42],Rkf1),0,Rkc0,[],0),
  (195,(Rkl327,[Rke78],Rkf1),3,Rkc0,[],0)]
def CNR56 : List (List ND) := [CNR56_0, CNR56_1, CNR56_2]
theorem CKR56 : chkS prot SMsR SMR56 [] CNR56 = true := by decide +kernel
-- OneSidedModel.within [(-2147483648, 2147483647), (0, 0), (9999, 9999)]
def Rka132 : AV := (0,9999,9999,0)
def Rkl329 : AL := [some Rka5,some Rka21,some Rka132]
def Rkl330 : AL := [some Rka24,some Rka21,some Rka132]
def Rke256 : SE := (Rka132,(1,2,0,0,0))
def Rka133 : AV := (0,0,9999,1)
def Rkl331 : AL := [some Rka133,some Rka21,some Rka132]
def CNR57_0 : List ND := [(0,(Rkl329,[],[]),10,Rkc5,[1],0),
  (1,(Rkl329,[Rke28],[]),9,Rkc5,[2],0),
  (2,(Rkl329,[Rke29,Rke28],[]),8,Rkc5,[8,3],0),
  (5,(Rkl330,[],[]),7,Rkc5,[4],0),
  (6,(Rkl330,[Rke30],[]),6,Rkc5,[5],0),
  (7,(Rkl330,[Rke256,Rke30],[]),5,Rkc5,[8,6],0),
  (10,(Rkl331,[],[]),4,Rkc5,[7],0),
  (11,(Rkl331,[Rke19],[]),3,Rkc5,[10],0),
  (14,(Rkl329,[],[]),1,Rkc5,[9],0),
  (15,(Rkl329,[Rke21],[]),0,Rkc5,[],1),
  (15,(Rkl331,[Rke19],[]),2,Rkc5,[],0)]
def CNR57 : List (List ND) := [CNR57_0]
theorem CKR57 : chkS prot SMsR SMR57 [(0,0)] CNR57 = true := by decide +kernel
-- OneSidedModel.within [(-2147483648, 2147483647), (1, 1), (60, 60)]
def Rka134 : AV := (0,60,60,0)
def Rkl332 : AL := [some Rka5,some Rka17,some Rka134]
def Rkl333 : AL := [some Rka67,some Rka17,some Rka134]
def Rke257 : SE := (Rka134,(1,2,0,0,0))
def Rka135 : AV := (0,1,60,1)
def Rkl334 : AL := [some Rka135,some Rka17,some Rka134]
def CNR58_0 : List ND := [(0,(Rkl332,[],[]),10,Rkc5,[1],0),
  (1,(Rkl332,[Rke28],[]),9,Rkc5,[2],0),
  (2,(Rkl332,[Rke83,Rke28],[]),8,Rkc5,[8,3],0),
  (5,(Rkl333,[],[]),7,Rkc5,[4],0),
  (6,(Rkl333,[Rke84],[]),6,Rkc5,[5],0),
  (7,(Rkl333,[Rke257,Rke84],[]),5,Rkc5,[8,6],0),
  (10,(Rkl334,[],[]),4,Rkc5,[7],0),
  (11,(Rkl334,[Rke19],[]),3,Rkc5,[10],0),
  (14,(Rkl332,[],[]),1,Rkc5,[9],0),
  (15,(Rkl332,[Rke21],[]),0,Rkc5,[],1),
  (15,(Rkl334,[Rke19],[]),2,Rkc5,[],0)]
def CNR58 : List (List ND) := [CNR58_0]
theorem CKR58 : chkS prot SMsR SMR58 [(0,0)] CNR58 = true := by decide +kernel
-- OneSidedModel.within [(-2147483648, 2147483647), (0, 0), (1, 1)]
def Rkl335 : AL := [some Rka5,some Rka21,some Rka17]
def Rkl336 : AL := [some Rka24,some Rka21,some Rka17]
def Rkl337 : AL := [some Rka39,some Rka21,some Rka17]
def CNR59_0 : List ND := [(0,(Rkl335,[],[]),10,Rkc5,[1],0),
  (1,(Rkl335,[Rke28],[]),9,Rkc5,[2],0),
  (2,(Rkl335,[Rke29,Rke28],[]),8,Rkc5,[8,3],0),
  (5,(Rkl336,[],[]),7,Rkc5,[4],0),
  (6,(Rkl336,[Rke30],[]),6,Rkc5,[5],0),
  (7,(Rkl336,[Rke129,Rke30],[]),5,Rkc5,[8,6],0),
  (10,(Rkl337,[],[]),4,Rkc5,[7],0),
  (11,(Rkl337,[Rke19],[]),3,Rkc5,[10],0),
  (14,(Rkl335,[],[]),1,Rkc5,[9],0),
  (15,(Rkl335,[Rke21],[]),0,Rkc5,[],1),
  (15,(Rkl337,[Rke19],[]),2,Rkc5,[],0)]
def CNR59 : List (List ND) := [CNR59_0]
theorem CKR59 : chkS prot SMsR SMR59 [(0,0)] CNR59 = true := by decide +kernel
-- OneSidedModel.draw [(182, 182), (1, 14)]
def Rkl338 : AL := [some Rka0,some Rka26]
def Rke258 : SE := (Rka1,(2,182,54,0,0))
def Rka136 : AV := (1,1103515245,1103515245,0)
def Rke259 : SE := (Rka136,pv0)
def Rka137 : AV := (1,12345,12345,0)
def Rke260 : SE := (Rka137,pv0)
def Rka138 : AV := (1,2147483648,2147483648,0)
def Rke261 : SE := (Rka138,pv0)
def Rka139 : AV := (1,65536,65536,0)
def Rke262 : SE := (Rka139,pv0)
def Rke263 : SE := (Rka26,(1,1,0,0,0))
def Rka140 : AV := (1,1,14,1)
def Rke264 : SE := (Rka140,pv0)
def CNR61_0 : List ND := [(0,(Rkl338,[],[]),18,Rkc4,[1],0),
  (1,(Rkl338,[Rke13],[]),17,Rkc4,[2],0),
  (2,(Rkl338,[Rke13,Rke13],[]),16,Rkc4,[3],0),
  (5,(Rkl338,[Rke258,Rke13],[]),15,Rkc4,[4],0),
  (8,(Rkl338,[Rke259,Rke258,Rke13],[]),14,Rkc4,[5],0),
  (9,(Rkl338,[Rke4,Rke13],[]),13,Rkc4,[6],0),
  (12,(Rkl338,[Rke260,Rke4,Rke13],[]),12,Rkc4,[7],0),
  (13,(Rkl338,[Rke4,Rke13],[]),11,Rkc4,[8],0),
  (16,(Rkl338,[Rke261,Rke4,Rke13],[]),10,Rkc4,[9],0),
  (17,(Rkl338,[Rke4,Rke13],[]),9,Rkc4,[10],0),
  (20,(Rkl338,[],[]),8,Rkc4,[11],0),
  (21,(Rkl338,[Rke13],[]),7,Rkc4,[12],0),
  (24,(Rkl338,[Rke258],[]),6,Rkc4,[13],0),
  (27,(Rkl338,[Rke262,Rke258],[]),5,Rkc4,[14],0),
  (28,(Rkl338,[Rke4],[]),4,Rkc4,[15],0),
  (29,(Rkl338,[Rke263,Rke4],[]),3,Rkc4,[16],0),
  (30,(Rkl338,[Rke264,Rke4],[]),2,Rkc4,[17],0),
  (31,(Rkl338,[Rke4],[]),1,Rkc4,[18],0),
  (32,(Rkl338,[Rke5],[]),0,Rkc4,[],0)]
def CNR61 : List (List ND) := [CNR61_0]
theorem CKR61 : chkS prot SMsR SMR61 [] CNR61 = true := by decide +kernel
-- OneSidedModel.draw [(182, 182), (10, 10)]
def Rkl339 : AL := [some Rka0,some Rka8]
def Rke265 : SE := (Rka8,(1,1,0,0,0))
def Rka141 : AV := (1,10,10,0)
def Rke266 : SE := (Rka141,pv0)
def CNR62_0 : List ND := [(0,(Rkl339,[],[]),18,Rkc4,[1],0),
  (1,(Rkl339,[Rke13],[]),17,Rkc4,[2],0),
  (2,(Rkl339,[Rke13,Rke13],[]),16,Rkc4,[3],0),
  (5,(Rkl339,[Rke258,Rke13],[]),15,Rkc4,[4],0),
  (8,(Rkl339,[Rke259,Rke258,Rke13],[]),14,Rkc4,[5],0),
  (9,(Rkl339,[Rke4,Rke13],[]),13,Rkc4,[6],0),
  (12,(Rkl339,[Rke260,Rke4,Rke13],[]),12,Rkc4,[7],0),
  (13,(Rkl339,[Rke4,Rke13],[]),11,Rkc4,[8],0),
  (16,(Rkl339,[Rke261,Rke4,Rke13],[]),10,Rkc4,[9],0),
  (17,(Rkl339,[Rke4,Rke13],[]),9,Rkc4,[10],0),
  (20,(Rkl339,[],[]),8,Rkc4,[11],0),
  (21,(Rkl339,[Rke13],[]),7,Rkc4,[12],0),
  (24,(Rkl339,[Rke258],[]),6,Rkc4,[13],0),
  (27,(Rkl339,[Rke262,Rke258],[]),5,Rkc4,[14],0),
  (28,(Rkl339,[Rke4],[]),4,Rkc4,[15],0),
  (29,(Rkl339,[Rke265,Rke4],[]),3,Rkc4,[16],0),
  (30,(Rkl339,[Rke266,Rke4],[]),2,Rkc4,[17],0),
  (31,(Rkl339,[Rke4],[]),1,Rkc4,[18],0),
  (32,(Rkl339,[Rke5],[]),0,Rkc4,[],0)]
def CNR62 : List (List ND) := [CNR62_0]
theorem CKR62 : chkS prot SMsR SMR62 [] CNR62 = true := by decide +kernel
-- OneSidedModel.startOf [(182, 182), (1540, 1540), (0, 5)]
def Rka142 : AV := (0,1540,1540,0)
def Rkl340 : AL := [some Rka0,some Rka142,some Rka44]
def Rke267 : SE := (Rka142,(1,1,0,0,0))
def Rka143 : AV := (0,1542,1542,0)
def Rke268 : SE := (Rka143,pv0)
def Rka144 : AV := (0,1542,1547,1)
def Rke269 : SE := (Rka144,pv0)
def Rka145 : AV := (0,1548,1548,0)
def Rke270 : SE := (Rka145,pv0)
def Rka146 : AV := (0,1548,1553,1)
def Rke271 : SE := (Rka146,pv0)
def CNR63_0 : List ND := [(0,(Rkl340,[],[]),25,Rkc5,[1],0),
  (1,(Rkl340,[Rke19],[]),24,Rkc5,[2],0),
  (2,(Rkl340,[Rke13,Rke19],[]),23,Rkc5,[3],0),
  (5,(Rkl340,[Rke45,Rke19],[]),22,Rkc5,[4],0),
  (6,(Rkl340,[Rke267,Rke45,Rke19],[]),21,Rkc5,[5],0),
  (7,(Rkl340,[Rke50,Rke267,Rke45,Rke19],[]),20,Rkc5,[6],0),
  (8,(Rkl340,[Rke268,Rke45,Rke19],[]),19,Rkc5,[7],0),
  (9,(Rkl340,[Rke92,Rke268,Rke45,Rke19],[]),18,Rkc5,[8],0),
  (10,(Rkl340,[Rke269,Rke45,Rke19],[]),17,Rkc5,[9],0),
  (11,(Rkl340,[Rke100,Rke19],[]),16,Rkc5,[10],0),
  (12,(Rkl340,[Rke13,Rke100,Rke19],[]),15,Rkc5,[11],0),
  (15,(Rkl340,[Rke45,Rke100,Rke19],[]),14,Rkc5,[12],0),
  (16,(Rkl340,[Rke267,Rke45,Rke100,Rke19],[]),13,Rkc5,[13],0),
  (18,(Rkl340,[Rke33,Rke267,Rke45,Rke100,Rke19],[]),12,Rkc5,[14],0),
  (19,(Rkl340,[Rke270,Rke45,Rke100,Rke19],[]),11,Rkc5,[15],0),
  (20,(Rkl340,[Rke92,Rke270,Rke45,Rke100,Rke19],[]),10,Rkc5,[16],0),
  (21,(Rkl340,[Rke271,Rke45,Rke100,Rke19],[]),9,Rkc5,[17],0),
  (22,(Rkl340,[Rke47,Rke100,Rke19],[]),8,Rkc5,[18],0),
  (23,(Rkl340,[Rke19,Rke47,Rke100,Rke19],[]),7,Rkc5,[21,19],0),
  (26,(Rkl340,[Rke100,Rke19],[]),4,Rkc5,[20],0),
  (28,(Rkl340,[Rke9,Rke100,Rke19],[]),3,Rkc5,[23],0),
  (31,(Rkl340,[Rke100,Rke19],[]),6,Rkc5,[22],0),
  (32,(Rkl340,[Rke21,Rke100,Rke19],[]),5,Rkc5,[24],0),
  (32,(Rkl340,[Rke9,Rke100,Rke19],[]),2,Rkc5,[24],0),
  (33,(Rkl340,[Rke102,Rke19],[]),1,Rkc5,[25],0),
  (34,(Rkl340,[Rke103],[]),0,Rkc5,[],0)]
def CNR63 : List (List ND) := [CNR63_0]
theorem CKR63 : chkS prot SMsR SMR63 [] CNR63 = true := by decide +kernel
-- OneSidedModel.leadsNow [(182, 182), (1540, 1540), (0, 13), (0, 3), (0, 9), (0, 25)]
def Rkl341 : AL := [some Rka0,some Rka142,some Rka25,some Rka47,some Rka28,some Rka63]
def Rkl342 : AL := [some Rka0,some Rka142,some Rka25,some Rka47,some Rka28,some Rka62]
def Rka147 : AV := (0,1541,1541,0)
def Rke272 : SE := (Rka147,pv0)
def Rke273 : SE := (Rka5,(2,198,1541,0,0))
def Rkl343 : AL := [some Rka0,some Rka142,some Rka25,some Rka47,some Rka28,some Rka66]
def CNR64_0 : List ND := [(0,(Rkl341,[],[]),19,Rkc6,[1],0),
  (2,(Rkl341,[Rke70],[]),18,Rkc6,[2],0),
  (4,(Rkl341,[Rke71,Rke70],[]),17,Rkc6,[17,3],0),
  (7,(Rkl342,[],[]),16,Rkc6,[4],0),
  (8,(Rkl342,[Rke13],[]),15,Rkc6,[5],0),
  (9,(Rkl342,[Rke72,Rke13],[]),14,Rkc6,[6],0),
  (10,(Rkl342,[Rke73,Rke72,Rke13],[]),13,Rkc6,[7],0),
  (12,(Rkl342,[Rke74,Rke73,Rke72,Rke13],[]),12,Rkc6,[8],0),
  (14,(Rkl342,[Rke75,Rke74,Rke73,Rke72,Rke13],[]),11,Rkc6,[9],0),
  (15,(Rkl342,[Rke13,Rke75,Rke74,Rke73,Rke72,Rke13],[]),10,Rkc6,[10],0),
  (18,(Rkl342,[Rke45,Rke75,Rke74,Rke73,Rke72,Rke13],[]),9,Rkc6,[11],0),
  (19,(Rkl342,[Rke267,Rke45,Rke75,Rke74,Rke73,Rke72,Rke13],[]),8,Rkc6,[12],0),
  (20,(Rkl342,[Rke19,Rke267,Rke45,Rke75,Rke74,Rke73,Rke72,Rke13],[]),7,Rkc6,[13],0),
  (21,(Rkl342,[Rke272,Rke45,Rke75,Rke74,Rke73,Rke72,Rke13],[]),6,Rkc6,[14],0),
  (22,(Rkl342,[Rke273,Rke75,Rke74,Rke73,Rke72,Rke13],[]),5,Rkc6,[15],0),
  (23,(Rkl342,[Rke21,Rke273,Rke75,Rke74,Rke73,Rke72,Rke13],[]),4,Rkc6,[16],16),
  (26,(Rkl342,[Rke76],[]),3,Rkc6,[19],0),
  (29,(Rkl343,[],[]),1,Rkc6,[18],0),
  (30,(Rkl343,[Rke42],[]),0,Rkc6,[],0),
  (30,(Rkl342,[Rke76],[]),2,Rkc6,[],0)]
def CNR64 : List (List ND) := [CNR64_0]
theorem CKR64 : chkS prot SMsR SMR64 [] CNR64 = true := by decide +kernel
-- OneSidedModel.stepOf [(182, 182), (1540, 1540), (0, 5), (-2147483648, 2147483647), (0, 24)]
def Rkl344 : AL := [some Rka0,some Rka142,some Rka44,some Rka5,some Rka52,none,none,none,none,none]
def Rkl345 : AL := [some Rka0,some Rka142,some Rka44,some Rka5,some Rka52,some Rka5,none,none,none,none]
def Rkl346 : AL := [some Rka0,some Rka142,some Rka44,some Rka5,some Rka52,some Rka5,some Rka77,none,none,none]
def Rkl347 : AL := [some Rka0,some Rka142,some Rka44,some Rka5,some Rka52,some Rka5,some Rka21,none,none,none]
def Rkl348 : AL := [some Rka0,some Rka142,some Rka44,some Rka5,some Rka52,some Rka5,some Rka74,none,none,none]
def Rkl349 : AL := [some Rka0,some Rka142,some Rka44,some Rka5,some Rka52,some Rka5,some Rka74,some Rka23,none,none]
def Rkl350 : AL := [some Rka0,some Rka142,some Rka44,some Rka5,some Rka52,some Rka5,some Rka21,some Rka21,none,none]
def Rkl351 : AL := [some Rka0,some Rka142,some Rka44,some Rka5,some Rka52,some Rka5,some Rka74,some Rka25,none,none]
def Rkl352 : AL := [some Rka0,some Rka142,some Rka44,some Rka5,some Rka52,some Rka5,some Rka21,some Rka25,none,none]
def Rkl353 : AL := [some Rka0,some Rka142,some Rka44,some Rka5,some Rka52,some Rka5,some Rka74,some Rka25,some Rka65,none]
def Rkl354 : AL := [some Rka0,some Rka142,some Rka44,some Rka5,some Rka52,some Rka5,some Rka21,some Rka25,some Rka65,none]
def Rkl355 : AL := [some Rka0,some Rka142,some Rka44,some Rka5,some Rka52,some Rka5,some Rka28,some Rka25,some Rka65,none]
def Rkl356 : AL := [some Rka0,some Rka142,some Rka44,some Rka5,some Rka52,some Rka5,some Rka74,some Rka25,some Rka65,some Rka39]
def Rkl357 : AL := [some Rka0,some Rka142,some Rka44,some Rka5,some Rka52,some Rka5,some Rka74,some Rka25,some Rka36,some Rka39]
def Rkl358 : AL := [some Rka0,some Rka142,some Rka44,some Rka5,some Rka52,some Rka5,some Rka74,some Rka25,some Rka28,some Rka39]
def Rkl359 : AL := [some Rka0,some Rka142,some Rka44,some Rka5,some Rka52,some Rka5,some Rka74,some Rka25,some Rka28,some Rka17]
def Rkl360 : AL := [some Rka0,some Rka142,some Rka44,some Rka5,some Rka52,some Rka5,some Rka74,some Rka25,some Rka28,some Rka21]
def Rkl361 : AL := [some Rka0,some Rka142,some Rka44,some Rka5,some Rka52,some Rka5,some Rka74,some Rka26,some Rka65,some Rka39]
def Rkl362 : AL := [some Rka0,some Rka142,some Rka44,some Rka5,some Rka52,some Rka5,some Rka78,some Rka23,none,none]
def Rkl363 : AL := [some Rka0,some Rka142,some Rka44,some Rka5,some Rka52,some Rka5,some Rka40,none,none,none]
def CNR65_0 : List ND := [(0,(Rkl344,[],[]),17498,Rkc9,[1],0),
  (1,(Rkl344,[Rke78],[]),17497,Rkc9,[2],0),
  (3,(Rkl345,[],[]),17496,Rkc9,[3],0),
  (4,(Rkl345,[Rke21],[]),17495,Rkc9,[4],0),
  (6,(Rkl346,[],[]),17493,Rkc10,[6],0),
  (8,(Rkl347,[Rke107],[]),17500,Rkc9,[7],0),
  (8,(Rkl346,[Rke108],[]),17492,Rkc10,[8],0),
  (10,(Rkl347,[Rke48,Rke107],[]),17499,Rkc9,[9],0),
  (10,(Rkl346,[Rke48,Rke108],[]),17491,Rkc10,[88,9],0),
  (13,(Rkl348,[],[]),17490,Rkc10,[10],0),
  (14,(Rkl348,[Rke21],[]),17489,Rkc10,[11],0),
  (16,(Rkl349,[],[]),17487,Rkc11,[13],0),
  (18,(Rkl350,[Rke109],[]),17503,Rkc9,[14],0),
  (18,(Rkl349,[Rke110],[]),17486,Rkc11,[15],0),
  (19,(Rkl350,[Rke13,Rke109],[]),17502,Rkc9,[16],2),
  (19,(Rkl349,[Rke13,Rke110],[]),17485,Rkc11,[17],2),
  (22,(Rkl350,[Rke25,Rke109],[]),17501,Rkc9,[86,18],0),
  (22,(Rkl349,[Rke25,Rke110],[]),17484,Rkc11,[86,18],0),
  (25,(Rkl351,[],Rkf2),17483,Rkc11,[19],0),
  (26,(Rkl351,[Rke78],Rkf2),17482,Rkc11,[21],0),
  (28,(Rkl352,[Rke107,Rke78],Rkf2),17504,Rkc9,[23,22],23),
  (28,(Rkl351,[Rke111,Rke78],Rkf2),17481,Rkc11,[23,22],23),
  (31,(Rkl351,[Rke21],Rkf2),16663,Rkc10,[86],0),
  (31,(Rkl351,[Rke19],Rkf2),17480,Rkc11,[24],0),
  (34,(Rkl351,[],Rkf2),17479,Rkc11,[25],0),
  (35,(Rkl351,[Rke13],Rkf2),17478,Rkc11,[26],0),
  (36,(Rkl351,[Rke267,Rke13],Rkf2),17477,Rkc11,[28],0),
  (38,(Rkl350,[Rke109,Rke267,Rke13],Rkf2),17513,Rkc9,[29],0),
  (38,(Rkl351,[Rke112,Rke267,Rke13],Rkf2),17476,Rkc11,[30],0),
  (39,(Rkl350,[Rke13,Rke109,Rke267,Rke13],Rkf2),17512,Rkc9,[31],0),
  (39,(Rkl351,[Rke13,Rke112,Rke267,Rke13],Rkf2),17475,Rkc11,[32],0),
  (40,(Rkl350,[Rke92,Rke13,Rke109,Rke267,Rke13],Rkf2),17511,Rkc9,[33],0),
  (40,(Rkl351,[Rke92,Rke13,Rke112,Rke267,Rke13],Rkf2),17474,Rkc11,[34],0),
  (41,(Rkl350,[Rke21,Rke92,Rke13,Rke109,Rke267,Rke13],Rkf2),17510,Rkc9,[35],26),
  (41,(Rkl351,[Rke21,Rke92,Rke13,Rke112,Rke267,Rke13],Rkf2),17473,Rkc11,[36],26),
  (44,(Rkl350,[Rke104,Rke109,Rke267,Rke13],Rkf2),17509,Rkc9,[37],0),
  (44,(Rkl351,[Rke104,Rke112,Rke267,Rke13],Rkf2),17472,Rkc11,[39],0),
  (46,(Rkl350,[Rke107,Rke104,Rke109,Rke267,Rke13],Rkf2),17508,Rkc9,[40],0),
  (46,(Rkl352,[Rke107,Rke104,Rke112,Rke267,Rke13],Rkf2),17517,Rkc9,[41],0),
  (46,(Rkl351,[Rke111,Rke104,Rke112,Rke267,Rke13],Rkf2),17471,Rkc11,[42],0),
  (48,(Rkl350,[Rke9,Rke107,Rke104,Rke109,Rke267,Rke13],Rkf2),17507,Rkc9,[43],0),
  (48,(Rkl352,[Rke9,Rke107,Rke104,Rke112,Rke267,Rke13],Rkf2),17516,Rkc9,[44],0),
  (48,(Rkl351,[Rke9,Rke111,Rke104,Rke112,Rke267,Rke13],Rkf2),17470,Rkc11,[45],0),
  (49,(Rkl350,[Rke21,Rke104,Rke109,Rke267,Rke13],Rkf2),17506,Rkc9,[46],0),
  (49,(Rkl352,[Rke21,Rke104,Rke112,Rke267,Rke13],Rkf2),17515,Rkc9,[47],0),
  (49,(Rkl351,[Rke100,Rke104,Rke112,Rke267,Rke13],Rkf2),17469,Rkc11,[48],0),
  (51,(Rkl350,[Rke113,Rke21,Rke104,Rke109,Rke267,Rke13],Rkf2),17505,Rkc9,[49],64),
  (51,(Rkl352,[Rke113,Rke21,Rke104,Rke112,Rke267,Rke13],Rkf2),17514,Rkc9,[49],64),
  (51,(Rkl351,[Rke113,Rke100,Rke104,Rke112,Rke267,Rke13],Rkf2),17468,Rkc11,[49],64),
  (54,(Rkl351,[Rke76],Rkf2),17467,Rkc11,[50],0),
  (56,(Rkl353,[],Rkf2),17466,Rkc11,[52],0),
  (58,(Rkl354,[Rke107],Rkf2),17519,Rkc9,[53],0),
  (58,(Rkl353,[Rke111],Rkf2),17465,Rkc11,[54],0),
  (60,(Rkl354,[Rke9,Rke107],Rkf2),17518,Rkc9,[55],0),
  (60,(Rkl353,[Rke9,Rke111],Rkf2),17464,Rkc11,[61,55],0),
  (63,(Rkl355,[],Rkf2),17463,Rkc11,[56],0),
  (65,(Rkl355,[Rke114],Rkf2),17462,Rkc11,[57],0),
  (66,(Rkl355,[Rke13,Rke114],Rkf2),17461,Rkc11,[58],0),
  (67,(Rkl355,[Rke92,Rke13,Rke114],Rkf2),17460,Rkc11,[59],0),
  (68,(Rkl355,[Rke50,Rke92,Rke13,Rke114],Rkf2),17459,Rkc11,[60],27),
  (71,(Rkl355,[Rke100,Rke114],Rkf2),17458,Rkc11,[63,61],0),
  (74,(Rkl353,[],Rkf2),17455,Rkc11,[62],0),
  (75,(Rkl353,[Rke19],Rkf2),17454,Rkc11,[65],0),
  (78,(Rkl355,[],Rkf2),17457,Rkc11,[64],0)]
def CNR65_1 : List ND := [(79,(Rkl355,[Rke21],Rkf2),17456,Rkc11,[66],0),
  (79,(Rkl353,[Rke19],Rkf2),17453,Rkc11,[66],0),
  (81,(Rkl356,[],Rkf2),17452,Rkc11,[67],0),
  (83,(Rkl356,[Rke115],Rkf2),17451,Rkc11,[68],0),
  (85,(Rkl356,[Rke114,Rke115],Rkf2),17450,Rkc11,[71,69],0),
  (88,(Rkl357,[Rke115],Rkf2),17438,Rkc11,[70],0),
  (89,(Rkl357,[Rke21,Rke115],Rkf2),17437,Rkc11,[81],0),
  (92,(Rkl358,[Rke115],Rkf2),17449,Rkc11,[72],0),
  (93,(Rkl358,[Rke19,Rke115],Rkf2),17448,Rkc11,[73],0),
  (95,(Rkl358,[Rke116,Rke19,Rke115],Rkf2),17447,Rkc11,[74],0),
  (97,(Rkl358,[Rke117,Rke116,Rke19,Rke115],Rkf2),17446,Rkc11,[77,75],0),
  (100,(Rkl359,[Rke116,Rke19,Rke115],Rkf2),17443,Rkc11,[76],0),
  (102,(Rkl359,[Rke9,Rke116,Rke19,Rke115],Rkf2),17442,Rkc11,[79],0),
  (105,(Rkl360,[Rke116,Rke19,Rke115],Rkf2),17445,Rkc11,[78],0),
  (106,(Rkl360,[Rke21,Rke116,Rke19,Rke115],Rkf2),17444,Rkc11,[80],0),
  (106,(Rkl359,[Rke9,Rke116,Rke19,Rke115],Rkf2),17441,Rkc11,[80],0),
  (107,(Rkl358,[Rke102,Rke19,Rke115],Rkf2),17440,Rkc11,[82],0),
  (108,(Rkl357,[Rke21,Rke115],Rkf2),17436,Rkc11,[83],0),
  (108,(Rkl358,[Rke103,Rke115],Rkf2),17439,Rkc11,[83],0),
  (109,(Rkl356,[Rke5],Rkf2),17435,Rkc11,[84],0),
  (111,(Rkl356,[],Rkf2),17434,Rkc11,[85],0),
  (114,(Rkl361,[],Rkf2),17488,Rkc11,[11],0),
  (117,(Rkl349,[],[]),16662,Rkc10,[87],0),
  (120,(Rkl362,[],[]),17494,Rkc10,[4],0),
  (123,(Rkl363,[],[]),1,Rkc9,[89],0),
  (125,(Rkl363,[Rke115],[]),0,Rkc9,[],0)]
def CNR65 : List (List ND) := [CNR65_0, CNR65_1]
theorem CKR65 : chkS prot SMsR SMR65 [] CNR65 = true := by decide +kernel
-- OneSidedModel.firstHour [(182, 182), (1540, 1540), (0, 5), (-2147483648, 2147483647)]
def Rkl364 : AL := [some Rka0,some Rka142,some Rka44,some Rka5,none,none]
def Rkl365 : AL := [some Rka0,some Rka142,some Rka44,some Rka5,some Rka75,none]
def Rke274 : SE := (Rka142,pv0)
def Rke275 : SE := (Rka52,(2,198,1540,0,0))
def Rkl366 : AL := [some Rka0,some Rka142,some Rka44,some Rka5,some Rka5,some Rka52]
def Rkl367 : AL := [some Rka0,some Rka142,some Rka44,some Rka5,some Rka5,some Rka62]
def Rkf38 : FA := [(198,1540,Rka62)]
def Rka148 : AV := (0,1554,1554,0)
def Rke276 : SE := (Rka148,pv0)
def Rka149 : AV := (0,1554,1559,1)
def Rke277 : SE := (Rka149,pv0)
def Rkl368 : AL := [some Rka0,some Rka142,some Rka44,some Rka5,some Rka5,some Rka68]
def Rkl369 : AL := [some Rka0,some Rka142,some Rka44,some Rka5,some Rka5,some Rka64]
def CNR66_0 : List ND := [(0,(Rkl364,[],[]),926,Rkc6,[1],0),
  (1,(Rkl364,[Rke13],[]),925,Rkc6,[2],0),
  (2,(Rkl364,[Rke267,Rke13],[]),924,Rkc6,[3],0),
  (3,(Rkl364,[Rke92,Rke267,Rke13],[]),923,Rkc6,[4],63),
  (6,(Rkl364,[Rke103],[]),922,Rkc6,[5],0),
  (8,(Rkl365,[],[]),921,Rkc6,[6],0),
  (10,(Rkl365,[Rke118],[]),920,Rkc6,[7],0),
  (11,(Rkl365,[Rke78,Rke118],[]),919,Rkc6,[8],0),
  (12,(Rkl365,[Rke119],[]),918,Rkc6,[16,9],0),
  (15,(Rkl365,[],[]),6,Rkc6,[10],0),
  (16,(Rkl365,[Rke13],[]),5,Rkc6,[11],0),
  (19,(Rkl365,[Rke45],[]),4,Rkc6,[12],0),
  (20,(Rkl365,[Rke267,Rke45],[]),3,Rkc6,[13],0),
  (21,(Rkl365,[Rke21,Rke267,Rke45],[]),2,Rkc6,[14],0),
  (22,(Rkl365,[Rke274,Rke45],[]),1,Rkc6,[15],0),
  (23,(Rkl365,[Rke275],[]),0,Rkc6,[],0),
  (24,(Rkl365,[],[]),917,Rkc6,[17],0),
  (25,(Rkl365,[Rke13],[]),916,Rkc6,[18],0),
  (28,(Rkl365,[Rke45],[]),915,Rkc6,[19],0),
  (29,(Rkl365,[Rke267,Rke45],[]),914,Rkc6,[20],0),
  (30,(Rkl365,[Rke21,Rke267,Rke45],[]),913,Rkc6,[21],0),
  (31,(Rkl365,[Rke274,Rke45],[]),912,Rkc6,[22],0),
  (32,(Rkl365,[Rke275],[]),911,Rkc6,[23],0),
  (34,(Rkl366,[],[]),909,Rkc12,[24],0),
  (36,(Rkl366,[Rke120],[]),908,Rkc12,[25],0),
  (38,(Rkl366,[Rke71,Rke120],[]),907,Rkc12,[61,26],0),
  (41,(Rkl367,[],[]),906,Rkc12,[27],0),
  (43,(Rkl367,[Rke75],[]),905,Rkc12,[28],0),
  (44,(Rkl367,[Rke13,Rke75],[]),904,Rkc12,[29],0),
  (47,(Rkl367,[Rke45,Rke75],[]),903,Rkc12,[30],0),
  (48,(Rkl367,[Rke267,Rke45,Rke75],[]),902,Rkc12,[31],0),
  (49,(Rkl367,[Rke21,Rke267,Rke45,Rke75],[]),901,Rkc12,[32],0),
  (50,(Rkl367,[Rke274,Rke45,Rke75],[]),900,Rkc12,[33],0),
  (51,(Rkl367,[Rke275,Rke75],[]),899,Rkc12,[46,34],0),
  (54,(Rkl367,[],Rkf38),898,Rkc12,[35],0),
  (55,(Rkl367,[Rke13],Rkf38),897,Rkc12,[36],0),
  (58,(Rkl367,[Rke45],Rkf38),896,Rkc12,[37],0),
  (59,(Rkl367,[Rke267,Rke45],Rkf38),895,Rkc12,[38],0),
  (61,(Rkl367,[Rke91,Rke267,Rke45],Rkf38),894,Rkc12,[39],0),
  (62,(Rkl367,[Rke276,Rke45],Rkf38),893,Rkc12,[40],0),
  (63,(Rkl367,[Rke92,Rke276,Rke45],Rkf38),892,Rkc12,[41],0),
  (64,(Rkl367,[Rke277,Rke45],Rkf38),891,Rkc12,[42],0),
  (65,(Rkl367,[Rke47],Rkf38),890,Rkc12,[43],0),
  (66,(Rkl367,[Rke19,Rke47],Rkf38),889,Rkc12,[46,44],0),
  (69,(Rkl367,[],Rkf38),888,Rkc12,[45],0),
  (71,(Rkl367,[Rke79],Rkf38),887,Rkc12,[52],0),
  (74,(Rkl367,[],[]),886,Rkc12,[47],0),
  (75,(Rkl367,[Rke13],[]),885,Rkc12,[48],0),
  (76,(Rkl367,[Rke267,Rke13],[]),884,Rkc12,[49],0),
  (77,(Rkl367,[Rke92,Rke267,Rke13],[]),883,Rkc12,[50],0),
  (79,(Rkl367,[Rke79,Rke92,Rke267,Rke13],[]),882,Rkc12,[51],0),
  (81,(Rkl367,[Rke75,Rke79,Rke92,Rke267,Rke13],[]),881,Rkc12,[52],65),
  (84,(Rkl367,[Rke5],[]),880,Rkc12,[53],0),
  (86,(Rkl367,[],[]),879,Rkc12,[54],0),
  (88,(Rkl367,[Rke79],[]),878,Rkc12,[55],0),
  (89,(Rkl367,[Rke78,Rke79],[]),877,Rkc12,[56],0),
  (90,(Rkl367,[Rke5],[]),876,Rkc12,[59,57],0),
  (93,(Rkl367,[],[]),8,Rkc6,[58],0),
  (95,(Rkl367,[Rke75],[]),7,Rkc6,[],0),
  (96,(Rkl367,[],[]),875,Rkc12,[60],0),
  (99,(Rkl368,[],[]),910,Rkc12,[23],0),
  (102,(Rkl369,[],[]),10,Rkc6,[62],0),
  (103,(Rkl369,[Rke42],[]),9,Rkc6,[],0)]
def CNR66 : List (List ND) := [CNR66_0]
theorem CKR66 : chkS prot SMsR SMR66 [] CNR66 = true := by decide +kernel
-- OneSidedModel.errandHour [(182, 182), (1540, 1540), (0, 5)]
def CNR67_0 : List ND := [(0,(Rkl340,[],[]),12,Rkc5,[1],0),
  (1,(Rkl340,[Rke13],[]),11,Rkc5,[2],0),
  (2,(Rkl340,[Rke267,Rke13],[]),10,Rkc5,[3],0),
  (3,(Rkl340,[Rke92,Rke267,Rke13],[]),9,Rkc5,[4],0),
  (4,(Rkl340,[Rke19,Rke92,Rke267,Rke13],[]),8,Rkc5,[5],0),
  (6,(Rkl340,[Rke9,Rke19,Rke92,Rke267,Rke13],[]),7,Rkc5,[6],0),
  (7,(Rkl340,[Rke13,Rke9,Rke19,Rke92,Rke267,Rke13],[]),6,Rkc5,[7],0),
  (8,(Rkl340,[Rke92,Rke13,Rke9,Rke19,Rke92,Rke267,Rke13],[]),5,Rkc5,[8],0),
  (9,(Rkl340,[Rke19,Rke92,Rke13,Rke9,Rke19,Rke92,Rke267,Rke13],[]),4,Rkc5,[9],32),
  (12,(Rkl340,[Rke100,Rke9,Rke19,Rke92,Rke267,Rke13],[]),3,Rkc5,[10],0),
  (13,(Rkl340,[Rke122,Rke19,Rke92,Rke267,Rke13],[]),2,Rkc5,[11],0),
  (14,(Rkl340,[Rke123,Rke92,Rke267,Rke13],[]),1,Rkc5,[12],66),
  (17,(Rkl340,[Rke39],[]),0,Rkc5,[],0)]
def CNR67 : List (List ND) := [CNR67_0]
theorem CKR67 : chkS prot SMsR SMR67 [] CNR67 = true := by decide +kernel
-- OneSidedModel.personOf [(182, 182), (0, 5), (3, 3)]
def Rkl370 : AL := [some Rka0,some Rka44,some Rka58]
def Rka150 : AV := (0,119,139,4)
def Rke278 : SE := (Rka150,pv0)
def CNR68_0 : List ND := [(0,(Rkl370,[],[]),10,Rkc5,[1],0),
  (1,(Rkl370,[Rke13],[]),9,Rkc5,[2],0),
  (4,(Rkl370,[Rke24],[]),8,Rkc5,[3],0),
  (6,(Rkl370,[Rke53,Rke24],[]),7,Rkc5,[4],0),
  (7,(Rkl370,[Rke32,Rke53,Rke24],[]),6,Rkc5,[5],0),
  (8,(Rkl370,[Rke54,Rke32,Rke53,Rke24],[]),5,Rkc5,[6],0),
  (9,(Rkl370,[Rke55,Rke53,Rke24],[]),4,Rkc5,[7],0),
  (10,(Rkl370,[Rke56,Rke24],[]),3,Rkc5,[8],0),
  (11,(Rkl370,[Rke67,Rke56,Rke24],[]),2,Rkc5,[9],0),
  (12,(Rkl370,[Rke278,Rke24],[]),1,Rkc5,[10],0),
  (13,(Rkl370,[Rke59],[]),0,Rkc5,[],0)]
def CNR68 : List (List ND) := [CNR68_0]
theorem CKR68 : chkS prot SMsR SMR68 [] CNR68 = true := by decide +kernel
-- OneSidedModel.years [(182, 182), (-2147483648, 2147483647), (-2147483648, 2147483647), (-2147483648, 2147483647)]
def Rkl371 : AL := [some Rka0,some Rka5,some Rka5,some Rka5,none,none,none,none,none,none]
def Rke279 : SE := (Rka132,pv0)
def Rkl372 : AL := [some Rka0,some Rka133,some Rka5,some Rka5,none,none,none,none,none,none]
def Rke280 : SE := (Rka134,pv0)
def Rkl373 : AL := [some Rka0,some Rka133,some Rka135,some Rka5,none,none,none,none,none,none]
def Rkl374 : AL := [some Rka0,some Rka133,some Rka135,some Rka39,none,none,none,none,none,none]
def Rkf39 : FA := [(182,0,Rka21),(188,1,Rka26)]
def Rke281 : SE := (Rka133,(1,1,0,0,0))
def Rka151 : AV := (1,0,9999,1)
def Rke282 : SE := (Rka151,pv0)
def Rkf40 : FA := [(182,0,Rka21),(182,54,Rka151),(188,1,Rka26)]
def Rkl375 : AL := [some Rka0,some Rka133,some Rka135,some Rka39,some Rka21,none,none,none,none,none]
def Rkl376 : AL := [some Rka0,some Rka133,some Rka135,some Rka39,some Rka21,some Rka127,none,none,none,none]
def Rka152 : AV := (0,-2147483648,1000000,1)
def Rkl377 : AL := [some Rka0,some Rka133,some Rka135,some Rka39,some Rka5,some Rka152,some Rka107,none,none,none]
def Rkc39 : List Int := [0,0,0,0,0,0,-230,0,0,0]
def Rkl378 : AL := [some Rka0,some Rka133,some Rka135,some Rka39,some Rka21,some Rka127,some Rka21,none,none,none]
def Rke283 : SE := (Rka107,(1,6,0,0,0))
def Rke284 : SE := (Rka135,(1,2,0,0,0))
def Rka153 : AV := (0,0,59,1)
def Rkl379 : AL := [some Rka0,some Rka133,some Rka135,some Rka39,some Rka5,some Rka152,some Rka153,none,none,none]
def Rke285 : SE := (Rka26,(2,188,1,0,0))
def Rkl380 : AL := [some Rka0,some Rka133,some Rka135,some Rka39,some Rka5,some Rka152,some Rka153,some Rka21,none,none]
def Rka154 : AV := (0,0,60,1)
def Rkl381 : AL := [some Rka0,some Rka133,some Rka135,some Rka39,some Rka5,some Rka152,some Rka154,some Rka5,some Rka43,none]
def Rkc40 : List Int := [0,0,0,0,0,0,-230,0,-26,0]
def Rkl382 : AL := [some Rka0,some Rka133,some Rka135,some Rka39,some Rka21,some Rka127,some Rka21,some Rka21,some Rka21,none]
def Rke286 : SE := (Rka43,(1,8,0,0,0))
def Rkl383 : AL := [some Rka0,some Rka133,some Rka135,some Rka39,some Rka5,some Rka152,some Rka154,some Rka5,some Rka44,none]
def Rkf41 : FA := [(182,0,Rka21),(188,1,Rka26),(188,2,Rka45)]
def Rke287 : SE := (Rka44,(1,8,0,0,0))
def Rkl384 : AL := [some Rka0,some Rka133,some Rka135,some Rka39,some Rka5,some Rka152,some Rka154,some Rka5,some Rka44,some Rka35]
def Rkl385 : AL := [some Rka0,some Rka133,some Rka135,some Rka39,some Rka21,some Rka127,some Rka21,some Rka21,some Rka21,some Rka35]
def Rke288 : SE := (Rka5,(1,7,0,0,0))
def Rke289 : SE := (Rka35,(1,9,0,0,0))
def Rkl386 : AL := [some Rka0,some Rka133,some Rka135,some Rka39,some Rka21,some Rka127,some Rka21,some Rka21,some Rka21,some Rka52]
def Rkl387 : AL := [some Rka0,some Rka133,some Rka135,some Rka39,some Rka5,some Rka152,some Rka154,some Rka5,some Rka44,some Rka52]
def Rke290 : SE := (Rka52,(1,9,0,0,0))
def Rkl388 : AL := [some Rka0,some Rka133,some Rka135,some Rka39,some Rka5,some Rka152,some Rka154,some Rka5,some Rka45,some Rka35]
def Rkl389 : AL := [some Rka0,some Rka133,some Rka135,some Rka39,some Rka21,some Rka127,some Rka21,some Rka5,some Rka43,none]
def Rke291 : SE := (Rka152,(1,5,0,0,0))
def Rka155 : AV := (0,-2147483647,1000000,1)
def Rka156 : AV := (0,-2147483648,999999,1)
def Rkl390 : AL := [some Rka0,some Rka133,some Rka135,some Rka39,some Rka5,some Rka155,some Rka154,some Rka156,some Rka43,none]
def Rke292 : SE := (Rka156,(1,7,0,0,0))
def Rke293 : SE := (Rka152,pv0)
def Rka157 : AV := (0,1,61,1)
def Rkl391 : AL := [some Rka0,some Rka133,some Rka135,some Rka39,some Rka5,some Rka152,some Rka157,some Rka5,some Rka43,none]
def Rka158 : AV := (0,1,99,1)
def Rkl392 : AL := [some Rka0,some Rka133,some Rka135,some Rka39,some Rka5,some Rka152,some Rka158,none,none,none]
def Rkl393 : AL := [some Rka0,some Rka133,some Rka135,some Rka21,some Rka5,some Rka152,some Rka158,none,none,none]
def Rkl394 : AL := [some Rka0,some Rka133,some Rka135,some Rka17,some Rka5,some Rka152,some Rka158,none,none,none]
def CNR69_0 : List ND := [(0,(Rkl371,[],[]),23052,Rkc9,[1],0),
  (1,(Rkl371,[Rke13],[]),23051,Rkc9,[2],0),
  (2,(Rkl371,[Rke21,Rke13],[]),23050,Rkc9,[3],0),
  (5,(Rkl371,[],Rkf1),23049,Rkc9,[4],0),
  (6,(Rkl371,[Rke26],Rkf1),23048,Rkc9,[5],0),
  (7,(Rkl371,[Rke21,Rke26],Rkf1),23047,Rkc9,[6],0),
  (10,(Rkl371,[Rke279,Rke21,Rke26],Rkf1),23046,Rkc9,[8,7],57),
  (13,(Rkl371,[Rke21],Rkf1),23045,Rkc9,[24],0),
  (13,(Rkl372,[Rke19],Rkf1),23044,Rkc9,[9],0),
  (16,(Rkl372,[],Rkf1),23043,Rkc9,[10],0),
  (17,(Rkl372,[Rke40],Rkf1),23042,Rkc9,[11],0),
  (18,(Rkl372,[Rke19,Rke40],Rkf1),23041,Rkc9,[12],0),
  (20,(Rkl372,[Rke280,Rke19,Rke40],Rkf1),23040,Rkc9,[14,13],58),
  (23,(Rkl372,[Rke21],Rkf1),2,Rkc9,[24],0),
  (23,(Rkl373,[Rke19],Rkf1),23039,Rkc9,[15],0),
  (26,(Rkl373,[],Rkf1),23038,Rkc9,[16],0),
  (27,(Rkl373,[Rke78],Rkf1),23037,Rkc9,[17],0),
  (28,(Rkl373,[Rke21,Rke78],Rkf1),23036,Rkc9,[18],0),
  (29,(Rkl373,[Rke19,Rke21,Rke78],Rkf1),23035,Rkc9,[20,19],59),
  (32,(Rkl373,[Rke21],Rkf1),3,Rkc9,[24],0),
  (32,(Rkl374,[Rke19],Rkf1),23034,Rkc9,[21],0),
  (35,(Rkl374,[],Rkf1),23033,Rkc9,[22],0),
  (36,(Rkl374,[Rke13],Rkf1),23032,Rkc9,[23],2),
  (39,(Rkl374,[Rke25],Rkf1),23031,Rkc9,[26,24],0),
  (42,(Rkl371,[],Rkf1),1,Rkc9,[25],0),
  (43,(Rkl371,[Rke42],Rkf1),0,Rkc9,[],0),
  (44,(Rkl374,[],Rkf39),23030,Rkc9,[27],0),
  (45,(Rkl374,[Rke13],Rkf39),23029,Rkc9,[28],0),
  (46,(Rkl374,[Rke281,Rke13],Rkf39),23028,Rkc9,[29],0),
  (47,(Rkl374,[Rke282,Rke13],Rkf39),23027,Rkc9,[30],0),
  (50,(Rkl374,[],Rkf40),23026,Rkc9,[31],0),
  (51,(Rkl374,[Rke13],Rkf40),23025,Rkc9,[32],0),
  (54,(Rkl374,[Rke274,Rke13],Rkf40),23024,Rkc9,[33],60),
  (57,(Rkl374,[],Rkf40),23023,Rkc9,[34],0),
  (58,(Rkl374,[Rke13],Rkf40),23022,Rkc9,[35],0),
  (61,(Rkl374,[Rke45],Rkf40),23021,Rkc9,[36],0),
  (64,(Rkl374,[Rke272,Rke45],Rkf40),23020,Rkc9,[37],0),
  (65,(Rkl374,[Rke13,Rke272,Rke45],Rkf40),23019,Rkc9,[38],0),
  (68,(Rkl374,[Rke45,Rke272,Rke45],Rkf40),23018,Rkc9,[39],0),
  (69,(Rkl374,[Rke19,Rke45,Rke272,Rke45],Rkf40),23017,Rkc9,[40],0),
  (70,(Rkl374,[Rke46,Rke272,Rke45],Rkf40),23016,Rkc9,[41],0),
  (71,(Rkl374,[],Rkf40),23015,Rkc9,[42],0),
  (72,(Rkl374,[Rke21],Rkf40),23014,Rkc9,[43],0),
  (74,(Rkl375,[],Rkf40),23013,Rkc9,[44],0),
  (77,(Rkl375,[Rke249],Rkf40),23012,Rkc9,[45],0),
  (79,(Rkl376,[],Rkf40),23011,Rkc9,[46],0),
  (80,(Rkl376,[Rke21],Rkf40),23010,Rkc9,[47],0),
  (82,(Rkl377,[],Rkf39),23008,Rkc39,[49],0),
  (84,(Rkl378,[Rke107],Rkf40),23054,Rkc9,[50],0),
  (84,(Rkl377,[Rke283],Rkf39),23007,Rkc39,[51],0),
  (85,(Rkl378,[Rke284,Rke107],Rkf40),23053,Rkc9,[52],0),
  (85,(Rkl377,[Rke284,Rke283],Rkf39),23006,Rkc39,[144,52],0),
  (88,(Rkl379,[],Rkf39),23005,Rkc39,[53],0),
  (89,(Rkl379,[Rke13],Rkf39),23004,Rkc39,[54],0),
  (92,(Rkl379,[Rke45],Rkf39),23003,Rkc39,[55],0),
  (95,(Rkl379,[Rke272,Rke45],Rkf39),23002,Rkc39,[56],0),
  (96,(Rkl379,[Rke272,Rke45,Rke272,Rke45],Rkf39),23001,Rkc39,[57],0),
  (97,(Rkl379,[Rke273,Rke272,Rke45],Rkf39),23000,Rkc39,[58],0),
  (98,(Rkl379,[Rke19,Rke273,Rke272,Rke45],Rkf39),22999,Rkc39,[59],0),
  (99,(Rkl379,[Rke13,Rke19,Rke273,Rke272,Rke45],Rkf39),22998,Rkc39,[60],0),
  (100,(Rkl379,[Rke13,Rke13,Rke19,Rke273,Rke272,Rke45],Rkf39),22997,Rkc39,[61],2),
  (103,(Rkl379,[Rke285,Rke13,Rke19,Rke273,Rke272,Rke45],Rkf39),22996,Rkc39,[62],61),
  (106,(Rkl379,[Rke5,Rke19,Rke273,Rke272,Rke45],Rkf39),22995,Rkc39,[63],0),
  (107,(Rkl379,[Rke5,Rke273,Rke272,Rke45],Rkf39),22994,Rkc39,[64],0)]
def CNR69_1 : List ND := [(108,(Rkl379,[Rke5,Rke272,Rke45],Rkf39),22993,Rkc39,[65],0),
  (109,(Rkl379,[],Rkf39),22992,Rkc39,[66],0),
  (110,(Rkl379,[Rke13],Rkf39),22991,Rkc39,[67],0),
  (113,(Rkl379,[Rke45],Rkf39),22990,Rkc39,[68],0),
  (116,(Rkl379,[Rke272,Rke45],Rkf39),22989,Rkc39,[69],0),
  (117,(Rkl379,[Rke13,Rke272,Rke45],Rkf39),22988,Rkc39,[70],0),
  (119,(Rkl379,[Rke9,Rke13,Rke272,Rke45],Rkf39),22987,Rkc39,[71],62),
  (122,(Rkl379,[Rke5,Rke272,Rke45],Rkf39),22986,Rkc39,[74,72],0),
  (125,(Rkl379,[Rke272,Rke45],Rkf39),22980,Rkc39,[73],0),
  (126,(Rkl379,[Rke21,Rke272,Rke45],Rkf39),22979,Rkc39,[78],0),
  (129,(Rkl379,[Rke272,Rke45],Rkf39),22985,Rkc39,[75],0),
  (130,(Rkl379,[Rke13,Rke272,Rke45],Rkf39),22984,Rkc39,[76],0),
  (133,(Rkl379,[Rke45,Rke272,Rke45],Rkf39),22983,Rkc39,[77],0),
  (136,(Rkl379,[Rke272,Rke45,Rke272,Rke45],Rkf39),22982,Rkc39,[79],0),
  (137,(Rkl379,[Rke21,Rke272,Rke45],Rkf39),22978,Rkc39,[80],0),
  (137,(Rkl379,[Rke273,Rke272,Rke45],Rkf39),22981,Rkc39,[80],0),
  (138,(Rkl379,[],Rkf39),22977,Rkc39,[81],0),
  (139,(Rkl379,[Rke21],Rkf39),22976,Rkc39,[82],0),
  (141,(Rkl380,[],Rkf39),22975,Rkc39,[83],0),
  (142,(Rkl380,[Rke21],Rkf39),22974,Rkc39,[84],0),
  (144,(Rkl381,[],Rkf39),22972,Rkc40,[86],0),
  (146,(Rkl382,[Rke243],Rkf39),23057,Rkc9,[87],0),
  (146,(Rkl381,[Rke286],Rkf39),22971,Rkc40,[88],0),
  (147,(Rkl382,[Rke13,Rke243],Rkf39),23056,Rkc9,[89],7),
  (147,(Rkl381,[Rke13,Rke286],Rkf39),22970,Rkc40,[90],7),
  (150,(Rkl382,[Rke51,Rke243],Rkf39),23055,Rkc9,[129,91],0),
  (150,(Rkl381,[Rke51,Rke286],Rkf39),22969,Rkc40,[129,91],0),
  (153,(Rkl383,[],Rkf41),22968,Rkc40,[92],0),
  (154,(Rkl383,[Rke13],Rkf41),22967,Rkc40,[93],0),
  (157,(Rkl383,[Rke274,Rke13],Rkf41),22966,Rkc40,[95],0),
  (159,(Rkl382,[Rke243,Rke274,Rke13],Rkf41),23058,Rkc9,[96],67),
  (159,(Rkl383,[Rke287,Rke274,Rke13],Rkf41),22965,Rkc40,[96],67),
  (162,(Rkl383,[Rke39],Rkf41),22964,Rkc40,[97],0),
  (164,(Rkl384,[],Rkf41),22963,Rkc40,[99],0),
  (166,(Rkl385,[Rke109],Rkf41),23073,Rkc9,[100],0),
  (166,(Rkl384,[Rke288],Rkf41),22962,Rkc40,[101],0),
  (168,(Rkl385,[Rke289,Rke109],Rkf41),23072,Rkc9,[118,102],0),
  (168,(Rkl384,[Rke289,Rke288],Rkf41),22961,Rkc40,[119,103],0),
  (171,(Rkl386,[Rke109],Rkf41),23071,Rkc9,[104],0),
  (171,(Rkl387,[Rke288],Rkf41),22960,Rkc40,[105],0),
  (173,(Rkl386,[Rke290,Rke109],Rkf41),23070,Rkc9,[106],0),
  (173,(Rkl387,[Rke290,Rke288],Rkf41),22959,Rkc40,[107],0),
  (174,(Rkl386,[Rke13,Rke290,Rke109],Rkf41),23069,Rkc9,[108],0),
  (174,(Rkl387,[Rke13,Rke290,Rke288],Rkf41),22958,Rkc40,[109],0),
  (176,(Rkl386,[Rke243,Rke13,Rke290,Rke109],Rkf41),23068,Rkc9,[110],0),
  (176,(Rkl387,[Rke287,Rke13,Rke290,Rke288],Rkf41),22957,Rkc40,[111],0),
  (177,(Rkl386,[Rke77,Rke243,Rke13,Rke290,Rke109],Rkf41),23067,Rkc9,[112],68),
  (177,(Rkl387,[Rke77,Rke287,Rke13,Rke290,Rke288],Rkf41),22956,Rkc40,[113],68),
  (180,(Rkl386,[Rke59,Rke290,Rke109],Rkf41),23066,Rkc9,[118,114],0),
  (180,(Rkl387,[Rke59,Rke290,Rke288],Rkf41),22955,Rkc40,[119,115],0),
  (183,(Rkl386,[Rke109],Rkf41),23065,Rkc9,[116],0),
  (183,(Rkl387,[Rke288],Rkf41),22954,Rkc40,[117],0),
  (184,(Rkl386,[Rke19,Rke109],Rkf41),23064,Rkc9,[121],0),
  (184,(Rkl387,[Rke19,Rke288],Rkf41),22953,Rkc40,[123],0),
  (187,(Rkl385,[Rke109],Rkf41),23061,Rkc9,[120],0),
  (187,(Rkl384,[Rke288],Rkf41),22951,Rkc40,[122],0),
  (188,(Rkl385,[Rke21,Rke109],Rkf41),23060,Rkc9,[124],0),
  (188,(Rkl386,[Rke19,Rke109],Rkf41),23063,Rkc9,[125],0),
  (188,(Rkl384,[Rke21,Rke288],Rkf41),22950,Rkc40,[126],0),
  (188,(Rkl387,[Rke19,Rke288],Rkf41),22952,Rkc40,[126],0),
  (189,(Rkl385,[Rke21],Rkf41),23059,Rkc9,[127],0),
  (189,(Rkl386,[Rke19],Rkf41),23062,Rkc9,[127],0),
  (189,(Rkl384,[Rke5],Rkf41),22949,Rkc40,[127],0),
  (191,(Rkl384,[],Rkf41),22948,Rkc40,[128],0)]
def CNR69_2 : List ND := [(194,(Rkl388,[],Rkf41),22973,Rkc40,[84],0),
  (197,(Rkl381,[],Rkf39),22791,Rkc39,[131],0),
  (199,(Rkl389,[Rke156],Rkf39),23075,Rkc9,[132],0),
  (199,(Rkl381,[Rke79],Rkf39),22790,Rkc39,[133],0),
  (201,(Rkl389,[Rke288,Rke156],Rkf39),23074,Rkc9,[134],0),
  (201,(Rkl381,[Rke288,Rke79],Rkf39),22789,Rkc39,[134],0),
  (202,(Rkl381,[Rke5],Rkf39),22788,Rkc39,[135],0),
  (204,(Rkl381,[],Rkf39),22787,Rkc39,[136],0),
  (206,(Rkl381,[Rke288],Rkf39),22786,Rkc39,[137],0),
  (208,(Rkl381,[Rke291,Rke288],Rkf39),22785,Rkc39,[140,138],0),
  (211,(Rkl390,[],Rkf39),22783,Rkc39,[139],0),
  (213,(Rkl390,[Rke292],Rkf39),22782,Rkc39,[141],0),
  (216,(Rkl381,[],Rkf39),22784,Rkc39,[141],0),
  (218,(Rkl381,[Rke293],Rkf39),22781,Rkc39,[142],0),
  (220,(Rkl381,[],Rkf39),22780,Rkc39,[143],0),
  (223,(Rkl391,[],Rkf39),23009,Rkc39,[47],0),
  (226,(Rkl392,[],Rkf39),9,Rkc9,[145],0),
  (227,(Rkl392,[Rke179],Rkf39),8,Rkc9,[148,146],0),
  (230,(Rkl393,[],Rkf39),6,Rkc9,[147],0),
  (232,(Rkl393,[Rke79],Rkf39),5,Rkc9,[149],0),
  (235,(Rkl394,[],Rkf39),7,Rkc9,[149],0),
  (237,(Rkl392,[Rke5],Rkf39),4,Rkc9,[],0)]
def CNR69 : List (List ND) := [CNR69_0, CNR69_1, CNR69_2]
theorem CKR69 : chkS prot SMsR SMR69 [] CNR69 = true := by decide +kernel
