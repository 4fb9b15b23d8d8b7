/-! LM, by program: certificates C 5 -/
-- OneSided$Quarter.settle [(5, 5)]
def Ckl621 : AL := [some Cka50,none,none]
def Ckl622 : AL := [some Cka50,some Cka55,none]
def Ckc18 : List Int := [0,-232,0]
def Ckl623 : AL := [some Cka50,some Cka7,none]
def Cke258 : SE := (Cka55,(1,1,0,0,0))
def Ckl624 : AL := [some Cka50,some Cka80,none]
def Ckl625 : AL := [some Cka50,some Cka80,some Cka143]
def Ckc19 : List Int := [0,-232,-9]
def Ckl626 : AL := [some Cka50,some Cka7,some Cka7]
def Cke259 : SE := (Cka143,(1,2,0,0,0))
def Ckl627 : AL := [some Cka50,some Cka80,some Cka84]
def Ckl628 : AL := [some Cka50,some Cka7,some Cka84]
def Ckl629 : AL := [some Cka50,some Cka80,some Cka85]
def Ckl630 : AL := [some Cka50,some Cka80,some Cka86]
def Ckl631 : AL := [some Cka50,some Cka120,some Cka86]
def Ckl632 : AL := [some Cka50,some Cka31,none]
def CNC124_0 : List ND := [(0,(Ckl621,[],[]),1162,Ckc1,[1],0),
  (1,(Ckl621,[Cke7],[]),1161,Ckc1,[2],0),
  (2,(Ckl622,[],[]),1159,Ckc18,[4],0),
  (3,(Ckl623,[Cke90],[]),1164,Ckc1,[5],0),
  (3,(Ckl622,[Cke258],[]),1158,Ckc18,[6],0),
  (4,(Ckl623,[Cke35,Cke90],[]),1163,Ckc1,[7],0),
  (4,(Ckl622,[Cke35,Cke258],[]),1157,Ckc18,[25,7],0),
  (7,(Ckl624,[],[]),1156,Ckc18,[8],0),
  (8,(Ckl624,[Cke7],[]),1155,Ckc18,[9],0),
  (9,(Ckl625,[],[]),1153,Ckc19,[11],0),
  (10,(Ckl626,[Cke23],[]),1166,Ckc1,[12],0),
  (10,(Ckl625,[Cke259],[]),1152,Ckc19,[13],0),
  (12,(Ckl626,[Cke144,Cke23],[]),1165,Ckc1,[14],0),
  (12,(Ckl625,[Cke144,Cke259],[]),1151,Ckc19,[23,14],0),
  (15,(Ckl627,[],[]),1150,Ckc19,[15],0),
  (16,(Ckl627,[Cke53],[]),1149,Ckc19,[17],0),
  (17,(Ckl628,[Cke90,Cke53],[]),1168,Ckc1,[19],0),
  (17,(Ckl627,[Cke248,Cke53],[]),1148,Ckc19,[20],0),
  (18,(Ckl626,[Cke23,Cke90,Cke53],[]),1169,Ckc1,[21],123),
  (18,(Ckl628,[Cke249,Cke90,Cke53],[]),1167,Ckc1,[21],123),
  (18,(Ckl627,[Cke249,Cke248,Cke53],[]),1147,Ckc19,[21],123),
  (21,(Ckl627,[],[]),1146,Ckc19,[22],0),
  (24,(Ckl629,[],[]),1154,Ckc19,[9],0),
  (27,(Ckl630,[],[]),929,Ckc18,[24],0),
  (30,(Ckl631,[],[]),1160,Ckc18,[2],0),
  (33,(Ckl632,[],[]),0,Ckc1,[],0)]
def CNC124 : List (List ND) := [CNC124_0]
theorem CKC124 : chkS prot SMsC SMC124 [] CNC124 = true := by decide +kernel
-- OneSided$Quarter.lawFor [(32, 32), (-2147483648, 2147483647), (-2147483648, 2147483647), (-2147483648, 2147483647), (-2147483648, 2147483647)]
def Ckl633 : AL := [some Cka121,some Cka34,some Cka34,some Cka34,some Cka34,none,none,none]
def Ckl634 : AL := [some Cka121,some Cka34,some Cka34,some Cka34,some Cka34,some Cka7,none,none]
def Ckl635 : AL := [some Cka121,some Cka34,some Cka34,some Cka34,some Cka34,some Cka129,some Cka14,none]
def Ckl636 : AL := [some Cka121,some Cka34,some Cka34,some Cka34,some Cka34,some Cka7,some Cka7,none]
def Ckl637 : AL := [some Cka121,some Cka34,some Cka34,some Cka34,some Cka34,some Cka129,some Cka1,none]
def Ckl638 : AL := [some Cka121,some Cka34,some Cka34,some Cka34,some Cka34,some Cka129,some Cka1,some Cka34]
def Ckl639 : AL := [some Cka121,some Cka34,some Cka34,some Cka34,some Cka34,some Cka129,some Cka1,some Cka130]
def Ckl640 : AL := [some Cka121,some Cka34,some Cka34,some Cka34,some Cka34,some Cka7,some Cka7,some Cka130]
def Ckl641 : AL := [some Cka121,some Cka34,some Cka34,some Cka34,some Cka34,some Cka131,some Cka1,some Cka130]
def Ckl642 : AL := [some Cka121,some Cka34,some Cka34,some Cka34,some Cka34,some Cka132,some Cka1,some Cka130]
def Cka153 : AV := (2,36,36,0)
def Cke260 : SE := (Cka153,(2,32,7,0,0))
def Ckl643 : AL := [some Cka121,some Cka34,some Cka34,some Cka34,some Cka34,some Cka6,some Cka134,some Cka130]
def Cke261 : SE := (Cka34,(2,36,0,0,0))
def Cke262 : SE := (Cka34,(2,36,1,0,0))
def Ckl644 : AL := [some Cka121,some Cka34,some Cka34,some Cka34,some Cka34,some Cka129,some Cka1,some Cka136]
def Ckl645 : AL := [some Cka121,some Cka34,some Cka34,some Cka34,some Cka34,some Cka129,some Cka1,some Cka119]
def Ckl646 : AL := [some Cka121,some Cka34,some Cka34,some Cka34,some Cka34,some Cka7,some Cka7,some Cka119]
def Ckl647 : AL := [some Cka121,some Cka34,some Cka34,some Cka34,some Cka34,some Cka137,some Cka1,some Cka119]
def Ckl648 : AL := [some Cka121,some Cka34,some Cka34,some Cka34,some Cka34,some Cka6,some Cka96,some Cka119]
def Ckf69 : FA := [(32,6,Cka15),(36,0,Cka7)]
def Ckf70 : FA := [(32,6,Cka15),(36,0,Cka34)]
def Ckl649 : AL := [some Cka121,some Cka34,some Cka34,some Cka34,some Cka34,some Cka129,some Cka1,some Cka139]
def Ckl650 : AL := [some Cka121,some Cka34,some Cka34,some Cka34,some Cka34,some Cka7,some Cka7,some Cka139]
def Ckl651 : AL := [some Cka121,some Cka34,some Cka34,some Cka34,some Cka34,some Cka138,some Cka1,some Cka139]
def Ckl652 : AL := [some Cka121,some Cka34,some Cka34,some Cka34,some Cka34,some Cka7,some Cka7,some Cka140]
def Ckl653 : AL := [some Cka121,some Cka34,some Cka34,some Cka34,some Cka34,some Cka138,some Cka1,some Cka140]
def Ckl654 : AL := [some Cka121,some Cka34,some Cka34,some Cka34,some Cka34,some Cka7,some Cka7,some Cka141]
def Ckl655 : AL := [some Cka121,some Cka34,some Cka34,some Cka34,some Cka34,some Cka138,some Cka1,some Cka141]
def Ckl656 : AL := [some Cka121,some Cka34,some Cka34,some Cka34,some Cka34,some Cka129,some Cka15,some Cka34]
def Ckl657 : AL := [some Cka121,some Cka34,some Cka34,some Cka34,some Cka34,some Cka137,some Cka14,none]
def Ckl658 : AL := [some Cka121,some Cka34,some Cka34,some Cka34,some Cka34,some Cka7,some Cka14,none]
def CNC125_0 : List ND := [(0,(Ckl633,[],[]),81094,Ckc13,[1],0),
  (1,(Ckl633,[Cke7],[]),81093,Ckc13,[2],0),
  (3,(Ckl634,[],[]),81092,Ckc13,[3],0),
  (4,(Ckl634,[Cke7],[]),81091,Ckc13,[4],0),
  (6,(Ckl635,[],[]),81089,Ckc14,[6],0),
  (8,(Ckl636,[Cke212],[]),81097,Ckc13,[7],0),
  (8,(Ckl635,[Cke213],[]),81088,Ckc14,[8],0),
  (9,(Ckl636,[Cke193,Cke212],[]),81096,Ckc13,[9],0),
  (9,(Ckl635,[Cke193,Cke213],[]),81087,Ckc14,[10],0),
  (12,(Ckl636,[Cke206,Cke212],[]),81095,Ckc13,[137,11],0),
  (12,(Ckl635,[Cke206,Cke213],[]),81086,Ckc14,[137,11],0),
  (15,(Ckl637,[],Ckf65),81085,Ckc14,[12],0),
  (16,(Ckl637,[Cke193],Ckf65),81084,Ckc14,[13],0),
  (19,(Ckl637,[Cke207],Ckf65),81083,Ckc14,[15],0),
  (21,(Ckl636,[Cke212,Cke207],Ckf65),81098,Ckc13,[16],0),
  (21,(Ckl637,[Cke214,Cke207],Ckf65),81082,Ckc14,[16],0),
  (22,(Ckl637,[Cke184],Ckf65),81081,Ckc14,[17],0),
  (24,(Ckl638,[],Ckf65),81080,Ckc14,[18],0),
  (26,(Ckl638,[Cke215],Ckf65),81079,Ckc14,[19],0),
  (29,(Ckl638,[Cke187,Cke215],Ckf65),81078,Ckc14,[60,20],0),
  (32,(Ckl639,[],Ckf65),81033,Ckc14,[22],0),
  (34,(Ckl640,[Cke216],Ckf65),81100,Ckc13,[23],0),
  (34,(Ckl639,[Cke217],Ckf65),81032,Ckc14,[24],0),
  (35,(Ckl640,[Cke6,Cke216],Ckf65),81099,Ckc13,[135],0),
  (35,(Ckl639,[Cke6,Cke217],Ckf65),81031,Ckc14,[135,25],0),
  (38,(Ckl641,[],Ckf65),81030,Ckc14,[26],0),
  (41,(Ckl642,[],Ckf65),81029,Ckc14,[27],0),
  (42,(Ckl642,[Cke193],Ckf65),81028,Ckc14,[28],0),
  (45,(Ckl642,[Cke260],Ckf65),81027,Ckc14,[30],0),
  (47,(Ckl643,[Cke219,Cke260],Ckf65),81115,Ckc13,[31],0),
  (47,(Ckl642,[Cke220,Cke260],Ckf65),81026,Ckc14,[32],0),
  (48,(Ckl643,[Cke6,Cke219,Cke260],Ckf65),81114,Ckc13,[33],0),
  (48,(Ckl642,[Cke6,Cke220,Cke260],Ckf65),81025,Ckc14,[34],0),
  (49,(Ckl643,[Cke7,Cke260],Ckf65),81113,Ckc13,[35],0),
  (49,(Ckl642,[Cke221,Cke260],Ckf65),81024,Ckc14,[36],0),
  (51,(Ckl643,[Cke222,Cke7,Cke260],Ckf65),81112,Ckc13,[37],0),
  (51,(Ckl642,[Cke222,Cke221,Cke260],Ckf65),81023,Ckc14,[38],0),
  (52,(Ckl643,[Cke193,Cke222,Cke7,Cke260],Ckf65),81111,Ckc13,[39],0),
  (52,(Ckl642,[Cke193,Cke222,Cke221,Cke260],Ckf65),81022,Ckc14,[40],0),
  (55,(Ckl643,[Cke260,Cke222,Cke7,Cke260],Ckf65),81110,Ckc13,[41],0),
  (55,(Ckl642,[Cke260,Cke222,Cke221,Cke260],Ckf65),81021,Ckc14,[42],0),
  (57,(Ckl643,[Cke219,Cke260,Cke222,Cke7,Cke260],Ckf65),81109,Ckc13,[43],0),
  (57,(Ckl642,[Cke220,Cke260,Cke222,Cke221,Cke260],Ckf65),81020,Ckc14,[44],0),
  (58,(Ckl643,[Cke6,Cke219,Cke260,Cke222,Cke7,Cke260],Ckf65),81108,Ckc13,[45],0),
  (58,(Ckl642,[Cke6,Cke220,Cke260,Cke222,Cke221,Cke260],Ckf65),81019,Ckc14,[46],0),
  (59,(Ckl643,[Cke7,Cke260,Cke222,Cke7,Cke260],Ckf65),81107,Ckc13,[47],0),
  (59,(Ckl642,[Cke221,Cke260,Cke222,Cke221,Cke260],Ckf65),81018,Ckc14,[48],0),
  (60,(Ckl643,[Cke261,Cke222,Cke7,Cke260],Ckf65),81106,Ckc13,[49],0),
  (60,(Ckl642,[Cke184,Cke222,Cke221,Cke260],Ckf65),81017,Ckc14,[50],0),
  (61,(Ckl643,[Cke193,Cke261,Cke222,Cke7,Cke260],Ckf65),81105,Ckc13,[51],0),
  (61,(Ckl642,[Cke193,Cke184,Cke222,Cke221,Cke260],Ckf65),81016,Ckc14,[52],0),
  (64,(Ckl643,[Cke260,Cke261,Cke222,Cke7,Cke260],Ckf65),81104,Ckc13,[53],0),
  (64,(Ckl642,[Cke260,Cke184,Cke222,Cke221,Cke260],Ckf65),81015,Ckc14,[54],0),
  (66,(Ckl643,[Cke219,Cke260,Cke261,Cke222,Cke7,Cke260],Ckf65),81103,Ckc13,[55],0),
  (66,(Ckl642,[Cke220,Cke260,Cke184,Cke222,Cke221,Cke260],Ckf65),81014,Ckc14,[56],0),
  (67,(Ckl643,[Cke262,Cke261,Cke222,Cke7,Cke260],Ckf65),81102,Ckc13,[57],119),
  (67,(Ckl642,[Cke184,Cke184,Cke222,Cke221,Cke260],Ckf65),81013,Ckc14,[58],119),
  (70,(Ckl643,[Cke184,Cke7,Cke260],Ckf65),81101,Ckc13,[59],0),
  (70,(Ckl642,[Cke184,Cke221,Cke260],Ckf65),81012,Ckc14,[59],0),
  (71,(Ckl642,[],Ckf65),81011,Ckc14,[135],0),
  (74,(Ckl644,[],Ckf65),81077,Ckc14,[61],0),
  (76,(Ckl644,[Cke225],Ckf65),81076,Ckc14,[62],0),
  (79,(Ckl644,[Cke187,Cke225],Ckf65),81075,Ckc14,[98,63],0),
  (82,(Ckl645,[],Ckf65),81074,Ckc14,[65],0)]
def CNC125_1 : List ND := [(84,(Ckl646,[Cke216],Ckf65),81116,Ckc13,[135],0),
  (84,(Ckl645,[Cke217],Ckf65),81073,Ckc14,[135,66],0),
  (87,(Ckl647,[],Ckf65),81072,Ckc14,[67],0),
  (88,(Ckl647,[Cke193],Ckf65),81071,Ckc14,[68],0),
  (91,(Ckl647,[Cke260],Ckf65),81070,Ckc14,[70],0),
  (93,(Ckl648,[Cke219,Cke260],Ckf65),81130,Ckc13,[71],0),
  (93,(Ckl647,[Cke226,Cke260],Ckf65),81069,Ckc14,[72],0),
  (94,(Ckl648,[Cke6,Cke219,Cke260],Ckf65),81129,Ckc13,[73],0),
  (94,(Ckl647,[Cke6,Cke226,Cke260],Ckf65),81068,Ckc14,[74],0),
  (95,(Ckl648,[Cke7,Cke260],Ckf65),81128,Ckc13,[75],0),
  (95,(Ckl647,[Cke227,Cke260],Ckf65),81067,Ckc14,[76],0),
  (96,(Ckl648,[Cke193,Cke7,Cke260],Ckf65),81127,Ckc13,[77],0),
  (96,(Ckl647,[Cke193,Cke227,Cke260],Ckf65),81066,Ckc14,[78],0),
  (99,(Ckl648,[Cke260,Cke7,Cke260],Ckf65),81126,Ckc13,[79],0),
  (99,(Ckl647,[Cke260,Cke227,Cke260],Ckf65),81065,Ckc14,[80],0),
  (101,(Ckl648,[Cke219,Cke260,Cke7,Cke260],Ckf65),81125,Ckc13,[81],0),
  (101,(Ckl647,[Cke226,Cke260,Cke227,Cke260],Ckf65),81064,Ckc14,[82],0),
  (102,(Ckl648,[Cke6,Cke219,Cke260,Cke7,Cke260],Ckf65),81124,Ckc13,[83],0),
  (102,(Ckl647,[Cke6,Cke226,Cke260,Cke227,Cke260],Ckf65),81063,Ckc14,[84],0),
  (103,(Ckl648,[Cke7,Cke260,Cke7,Cke260],Ckf65),81123,Ckc13,[85],0),
  (103,(Ckl647,[Cke227,Cke260,Cke227,Cke260],Ckf65),81062,Ckc14,[86],0),
  (104,(Ckl648,[Cke261,Cke7,Cke260],Ckf65),81122,Ckc13,[91,87],0),
  (104,(Ckl647,[Cke184,Cke227,Cke260],Ckf65),81061,Ckc14,[92,88],0),
  (107,(Ckl648,[Cke7,Cke260],Ckf69),81121,Ckc13,[89],0),
  (107,(Ckl647,[Cke227,Cke260],Ckf65),81058,Ckc14,[90],0),
  (108,(Ckl648,[Cke6,Cke7,Cke260],Ckf69),81120,Ckc13,[94],0),
  (108,(Ckl647,[Cke6,Cke227,Cke260],Ckf65),81057,Ckc14,[96],0),
  (111,(Ckl648,[Cke7,Cke260],Ckf70),81118,Ckc13,[93],0),
  (111,(Ckl647,[Cke227,Cke260],Ckf65),81060,Ckc14,[95],0),
  (112,(Ckl648,[Cke7,Cke7,Cke260],Ckf70),81117,Ckc13,[97],0),
  (112,(Ckl648,[Cke6,Cke7,Cke260],Ckf69),81119,Ckc13,[97],0),
  (112,(Ckl647,[Cke7,Cke227,Cke260],Ckf65),81059,Ckc14,[97],0),
  (112,(Ckl647,[Cke6,Cke227,Cke260],Ckf65),81056,Ckc14,[97],0),
  (113,(Ckl647,[],Ckf65),81055,Ckc14,[135],0),
  (116,(Ckl649,[],Ckf65),81054,Ckc14,[100],0),
  (118,(Ckl650,[Cke216],Ckf65),81132,Ckc13,[101],0),
  (118,(Ckl649,[Cke217],Ckf65),81053,Ckc14,[102],0),
  (120,(Ckl650,[Cke49,Cke216],Ckf65),81131,Ckc13,[103],0),
  (120,(Ckl649,[Cke49,Cke217],Ckf65),81052,Ckc14,[135,103],0),
  (123,(Ckl651,[],Ckf65),81051,Ckc14,[104],0),
  (124,(Ckl651,[Cke193],Ckf65),81050,Ckc14,[105],0),
  (127,(Ckl651,[Cke260],Ckf65),81049,Ckc14,[107],0),
  (129,(Ckl650,[Cke216,Cke260],Ckf65),81146,Ckc13,[108],0),
  (129,(Ckl651,[Cke228,Cke260],Ckf65),81048,Ckc14,[109],0),
  (131,(Ckl650,[Cke229,Cke216,Cke260],Ckf65),81145,Ckc13,[110],0),
  (131,(Ckl651,[Cke229,Cke228,Cke260],Ckf65),81047,Ckc14,[111],0),
  (134,(Ckl650,[Cke185,Cke229,Cke216,Cke260],Ckf65),81144,Ckc13,[116,112],0),
  (134,(Ckl651,[Cke185,Cke229,Cke228,Cke260],Ckf65),81046,Ckc14,[117,113],0),
  (137,(Ckl652,[Cke216,Cke260],Ckf65),81143,Ckc13,[114],0),
  (137,(Ckl653,[Cke228,Cke260],Ckf65),81037,Ckc14,[115],0),
  (139,(Ckl652,[Cke230,Cke216,Cke260],Ckf65),81142,Ckc13,[132],0),
  (139,(Ckl653,[Cke230,Cke228,Cke260],Ckf65),81036,Ckc14,[133],0),
  (142,(Ckl654,[Cke216,Cke260],Ckf65),81141,Ckc13,[118],0),
  (142,(Ckl655,[Cke228,Cke260],Ckf65),81045,Ckc14,[119],0),
  (144,(Ckl654,[Cke231,Cke216,Cke260],Ckf65),81140,Ckc13,[120],0),
  (144,(Ckl655,[Cke231,Cke228,Cke260],Ckf65),81044,Ckc14,[121],0),
  (147,(Ckl654,[Cke185,Cke231,Cke216,Cke260],Ckf65),81139,Ckc13,[122],0),
  (147,(Ckl655,[Cke185,Cke231,Cke228,Cke260],Ckf65),81043,Ckc14,[123],0),
  (148,(Ckl654,[Cke141,Cke216,Cke260],Ckf65),81138,Ckc13,[124],0),
  (148,(Ckl655,[Cke141,Cke228,Cke260],Ckf65),81042,Ckc14,[125],0),
  (149,(Ckl654,[Cke156,Cke141,Cke216,Cke260],Ckf65),81137,Ckc13,[126],0),
  (149,(Ckl655,[Cke156,Cke141,Cke228,Cke260],Ckf65),81041,Ckc14,[127],0),
  (150,(Ckl654,[Cke209,Cke156,Cke141,Cke216,Cke260],Ckf65),81136,Ckc13,[128],0),
  (150,(Ckl655,[Cke209,Cke156,Cke141,Cke228,Cke260],Ckf65),81040,Ckc14,[129],0)]
def CNC125_2 : List ND := [(151,(Ckl654,[Cke210,Cke209,Cke156,Cke141,Cke216,Cke260],Ckf65),81135,Ckc13,[130],0),
  (151,(Ckl655,[Cke210,Cke209,Cke156,Cke141,Cke228,Cke260],Ckf65),81039,Ckc14,[131],0),
  (153,(Ckl654,[Cke211,Cke210,Cke209,Cke156,Cke141,Cke216,Cke260],Ckf65),81134,Ckc13,[132],118),
  (153,(Ckl655,[Cke211,Cke210,Cke209,Cke156,Cke141,Cke228,Cke260],Ckf65),81038,Ckc14,[133],118),
  (156,(Ckl650,[Cke184,Cke216,Cke260],Ckf65),81133,Ckc13,[134],0),
  (156,(Ckl651,[Cke184,Cke228,Cke260],Ckf65),81035,Ckc14,[134],0),
  (157,(Ckl651,[],Ckf65),81034,Ckc14,[135],0),
  (160,(Ckl638,[],Ckf65),81010,Ckc14,[136],0),
  (163,(Ckl656,[],Ckf65),81090,Ckc14,[4],0),
  (166,(Ckl635,[],[]),9,Ckc13,[138],0),
  (168,(Ckl635,[Cke217],[]),8,Ckc13,[144,139],0),
  (171,(Ckl657,[],[]),7,Ckc13,[140],0),
  (172,(Ckl657,[Cke193],[]),6,Ckc13,[141],0),
  (175,(Ckl657,[Cke260],[]),5,Ckc13,[142],0),
  (176,(Ckl657,[Cke7,Cke260],[]),4,Ckc13,[143],0),
  (177,(Ckl657,[Cke261],[]),3,Ckc13,[146],0),
  (180,(Ckl658,[],[]),1,Ckc13,[145],0),
  (181,(Ckl658,[Cke6],[]),0,Ckc13,[],0),
  (181,(Ckl657,[Cke261],[]),2,Ckc13,[],0)]
def CNC125 : List (List ND) := [CNC125_0, CNC125_1, CNC125_2]
theorem CKC125 : chkS prot SMsC SMC125 [] CNC125 = true := by decide +kernel
-- OneSided$Quarter.letsInto [(32, 32), (39, 52), (0, 3), (-2147483648, 2147483647), (-2147483648, 2147483647), (0, 9)]
def Ckl659 : AL := [some Cka121,some Cka123,some Cka80,some Cka34,some Cka34,some Cka77]
def Cke263 : SE := (Cka123,(1,1,0,0,0))
def Ckl660 : AL := [some Cka121,some Cka123,some Cka80,some Cka142,some Cka34,some Cka77]
def Ckl661 : AL := [some Cka121,some Cka123,some Cka80,some Cka84,some Cka34,some Cka77]
def Ckl662 : AL := [some Cka121,some Cka123,some Cka134,some Cka84,some Cka34,some Cka77]
def CNC126_0 : List ND := [(0,(Ckl659,[],[]),38,Ckc9,[1],0),
  (1,(Ckl659,[Cke263],[]),37,Ckc9,[2],0),
  (4,(Ckl659,[Cke141],[]),36,Ckc9,[3],0),
  (5,(Ckl659,[Cke36,Cke141],[]),35,Ckc9,[12,4],0),
  (8,(Ckl659,[],[]),34,Ckc9,[5],0),
  (9,(Ckl659,[Cke210],[]),33,Ckc9,[6],0),
  (10,(Ckl659,[Cke263,Cke210],[]),32,Ckc9,[7],0),
  (13,(Ckl659,[Cke113,Cke210],[]),31,Ckc9,[12,8],0),
  (16,(Ckl660,[],[]),30,Ckc9,[9],0),
  (17,(Ckl660,[Cke233],[]),29,Ckc9,[10],0),
  (18,(Ckl660,[Cke263,Cke233],[]),28,Ckc9,[11],0),
  (21,(Ckl660,[Cke234,Cke233],[]),27,Ckc9,[14,12],0),
  (24,(Ckl659,[],[]),1,Ckc9,[13],0),
  (25,(Ckl659,[Cke7],[]),0,Ckc9,[],0),
  (26,(Ckl661,[],[]),26,Ckc9,[15],0),
  (27,(Ckl661,[Cke263],[]),25,Ckc9,[16],0),
  (30,(Ckl661,[Cke235],[]),24,Ckc9,[17],0),
  (31,(Ckl661,[Cke51,Cke235],[]),23,Ckc9,[27,18],0),
  (34,(Ckl661,[],[]),22,Ckc9,[19],0),
  (35,(Ckl661,[Cke263],[]),21,Ckc9,[20],0),
  (38,(Ckl661,[Cke235],[]),20,Ckc9,[21],0),
  (39,(Ckl661,[Cke108,Cke235],[]),19,Ckc9,[27,22],0),
  (42,(Ckl661,[],[]),18,Ckc9,[23],0),
  (43,(Ckl661,[Cke108],[]),17,Ckc9,[24],0),
  (44,(Ckl661,[Cke36,Cke108],[]),16,Ckc9,[27,25],0),
  (47,(Ckl662,[],[]),15,Ckc9,[26],0),
  (48,(Ckl662,[Cke7],[]),14,Ckc9,[],0),
  (49,(Ckl661,[],[]),13,Ckc9,[28],0),
  (50,(Ckl661,[Cke193],[]),12,Ckc9,[29],0),
  (51,(Ckl661,[Cke114,Cke193],[]),11,Ckc9,[30],0),
  (52,(Ckl661,[Cke108,Cke114,Cke193],[]),10,Ckc9,[31],0),
  (54,(Ckl661,[Cke211,Cke108,Cke114,Cke193],[]),9,Ckc9,[32],0),
  (56,(Ckl661,[Cke236,Cke211,Cke108,Cke114,Cke193],[]),8,Ckc9,[33],125),
  (59,(Ckl661,[Cke184],[]),7,Ckc9,[36,34],0),
  (62,(Ckl661,[],[]),6,Ckc9,[35],0),
  (63,(Ckl661,[Cke6],[]),5,Ckc9,[38],0),
  (66,(Ckl661,[],[]),3,Ckc9,[37],0),
  (67,(Ckl661,[Cke7],[]),2,Ckc9,[],0),
  (67,(Ckl661,[Cke6],[]),4,Ckc9,[],1)]
def CNC126 : List (List ND) := [CNC126_0]
theorem CKC126 : chkS prot SMsC SMC126 [(3,3)] CNC126 = true := by decide +kernel
-- OneSided$Quarter.ways [(32, 32), (0, 13), (0, 3), (-2147483648, 2147483647), (-2147483648, 2147483647), (0, 1)]
def Ckl663 : AL := [some Cka121,some Cka62,some Cka80,some Cka34,some Cka34,some Cka96,none,none,none]
def Ckl664 : AL := [some Cka121,some Cka62,some Cka80,some Cka34,some Cka34,some Cka96,some Cka123,none,none]
def Cke264 : SE := (Cka123,(1,6,0,0,0))
def Ckl665 : AL := [some Cka121,some Cka62,some Cka80,some Cka146,some Cka34,some Cka96,some Cka123,none,none]
def Ckl666 : AL := [some Cka121,some Cka62,some Cka80,some Cka34,some Cka34,some Cka96,some Cka123,some Cka96,none]
def Ckl667 : AL := [some Cka121,some Cka62,some Cka80,some Cka34,some Cka34,some Cka96,some Cka123,some Cka96,some Cka7]
def Ckl668 : AL := [some Cka121,some Cka62,some Cka134,some Cka34,some Cka34,some Cka96,some Cka123,some Cka96,some Cka7]
def Ckl669 : AL := [some Cka121,some Cka62,some Cka80,some Cka84,some Cka34,some Cka96,some Cka123,some Cka96,some Cka7]
def Ckl670 : AL := [some Cka121,some Cka62,some Cka80,some Cka34,some Cka34,some Cka96,some Cka123,some Cka96,some Cka96]
def Ckl671 : AL := [some Cka121,some Cka62,some Cka134,some Cka34,some Cka34,some Cka96,some Cka123,some Cka96,some Cka96]
def Ckl672 : AL := [some Cka121,some Cka62,some Cka80,some Cka84,some Cka34,some Cka96,some Cka123,some Cka96,some Cka96]
def Ckl673 : AL := [some Cka121,some Cka62,some Cka80,some Cka34,some Cka34,some Cka96,some Cka123,some Cka96,some Cka147]
def CNC127_0 : List ND := [(0,(Ckl663,[],[]),65,Ckc15,[1],0),
  (1,(Ckl663,[Cke193],[]),64,Ckc15,[2],0),
  (4,(Ckl663,[Cke195],[]),63,Ckc15,[3],0),
  (5,(Ckl663,[Cke237,Cke195],[]),62,Ckc15,[4],0),
  (6,(Ckl663,[Cke196],[]),61,Ckc15,[5],0),
  (8,(Ckl664,[],[]),60,Ckc15,[6],0),
  (10,(Ckl664,[Cke264],[]),59,Ckc15,[7],0),
  (13,(Ckl664,[Cke141],[]),58,Ckc15,[8],0),
  (14,(Ckl664,[Cke6,Cke141],[]),57,Ckc15,[14,9],0),
  (17,(Ckl664,[],[]),56,Ckc15,[10],0),
  (18,(Ckl664,[Cke210],[]),55,Ckc15,[11],0),
  (20,(Ckl664,[Cke239,Cke210],[]),54,Ckc15,[14,12],0),
  (23,(Ckl665,[],[]),53,Ckc15,[13],0),
  (24,(Ckl665,[Cke6],[]),52,Ckc15,[16],0),
  (27,(Ckl664,[],[]),49,Ckc15,[15],0),
  (28,(Ckl664,[Cke7],[]),48,Ckc15,[17],0),
  (28,(Ckl665,[Cke6],[]),51,Ckc15,[18],0),
  (30,(Ckl664,[Cke158,Cke7],[]),47,Ckc15,[21,19],0),
  (30,(Ckl665,[Cke158,Cke6],[]),50,Ckc15,[21,19],0),
  (33,(Ckl664,[],[]),46,Ckc15,[20],0),
  (34,(Ckl664,[Cke6],[]),45,Ckc15,[23],0),
  (37,(Ckl664,[],[]),43,Ckc15,[22],0),
  (38,(Ckl664,[Cke7],[]),42,Ckc15,[24],0),
  (38,(Ckl664,[Cke6],[]),44,Ckc15,[24],0),
  (40,(Ckl666,[],[]),41,Ckc15,[25],0),
  (41,(Ckl666,[Cke7],[]),40,Ckc15,[26],0),
  (43,(Ckl667,[],[]),39,Ckc15,[27],0),
  (44,(Ckl667,[Cke108],[]),38,Ckc15,[28],0),
  (45,(Ckl667,[Cke36,Cke108],[]),37,Ckc15,[31,29],0),
  (48,(Ckl668,[],[]),36,Ckc15,[30],0),
  (50,(Ckl668,[Cke240],[]),35,Ckc15,[45,31],0),
  (53,(Ckl667,[],[]),34,Ckc15,[32],0),
  (54,(Ckl667,[Cke193],[]),33,Ckc15,[33],0),
  (56,(Ckl667,[Cke264,Cke193],[]),32,Ckc15,[34],0),
  (57,(Ckl667,[Cke108,Cke264,Cke193],[]),31,Ckc15,[35],0),
  (58,(Ckl667,[Cke210,Cke108,Cke264,Cke193],[]),30,Ckc15,[36],0),
  (60,(Ckl667,[Cke211,Cke210,Cke108,Cke264,Cke193],[]),29,Ckc15,[37],0),
  (62,(Ckl667,[Cke264,Cke211,Cke210,Cke108,Cke264,Cke193],[]),28,Ckc15,[38],0),
  (65,(Ckl667,[Cke97,Cke211,Cke210,Cke108,Cke264,Cke193],[]),27,Ckc15,[39,40],126),
  (68,(Ckl667,[Cke7],[]),26,Ckc15,[45],0),
  (68,(Ckl669,[Cke6],[]),25,Ckc15,[41],0),
  (71,(Ckl669,[],[]),24,Ckc15,[42],0),
  (73,(Ckl669,[Cke241],[]),23,Ckc15,[43],0),
  (74,(Ckl669,[Cke6,Cke241],[]),22,Ckc15,[44],0),
  (75,(Ckl669,[Cke242],[]),21,Ckc15,[45],0),
  (77,(Ckl670,[],[]),20,Ckc15,[46],0),
  (78,(Ckl670,[Cke108],[]),19,Ckc15,[47],0),
  (79,(Ckl670,[Cke36,Cke108],[]),18,Ckc15,[50,48],0),
  (82,(Ckl671,[],[]),17,Ckc15,[49],0),
  (84,(Ckl671,[Cke240],[]),16,Ckc15,[64,50],0),
  (87,(Ckl670,[],[]),15,Ckc15,[51],0),
  (88,(Ckl670,[Cke193],[]),14,Ckc15,[52],0),
  (90,(Ckl670,[Cke264,Cke193],[]),13,Ckc15,[53],0),
  (91,(Ckl670,[Cke108,Cke264,Cke193],[]),12,Ckc15,[54],0),
  (92,(Ckl670,[Cke210,Cke108,Cke264,Cke193],[]),11,Ckc15,[55],0),
  (94,(Ckl670,[Cke211,Cke210,Cke108,Cke264,Cke193],[]),10,Ckc15,[56],0),
  (96,(Ckl670,[Cke264,Cke211,Cke210,Cke108,Cke264,Cke193],[]),9,Ckc15,[57],0),
  (99,(Ckl670,[Cke97,Cke211,Cke210,Cke108,Cke264,Cke193],[]),8,Ckc15,[58,59],126),
  (102,(Ckl670,[Cke7],[]),7,Ckc15,[64],0),
  (102,(Ckl672,[Cke6],[]),6,Ckc15,[60],0),
  (105,(Ckl672,[],[]),5,Ckc15,[61],0),
  (107,(Ckl672,[Cke243],[]),4,Ckc15,[62],0),
  (108,(Ckl672,[Cke22,Cke243],[]),3,Ckc15,[63],0),
  (109,(Ckl672,[Cke244],[]),2,Ckc15,[64],0)]
def CNC127_1 : List ND := [(111,(Ckl673,[],[]),1,Ckc15,[65],0),
  (113,(Ckl673,[Cke245],[]),0,Ckc15,[],0)]
def CNC127 : List (List ND) := [CNC127_0, CNC127_1]
theorem CKC127 : chkS prot SMsC SMC127 [] CNC127 = true := by decide +kernel
-- OneSided$Quarter.settleHour [(32, 32), (0, 3), (0, 23)]
def Ckl674 : AL := [some Cka121,some Cka80,some Cka84,none,none,none,none]
def Ckl675 : AL := [some Cka121,some Cka80,some Cka84,some Cka7,none,none,none]
def Ckl676 : AL := [some Cka121,some Cka80,some Cka84,some Cka7,some Cka7,none,none]
def Ckl677 : AL := [some Cka121,some Cka80,some Cka84,some Cka34,some Cka34,some Cka61,none]
def Ckl678 : AL := [some Cka121,some Cka80,some Cka84,some Cka7,some Cka7,some Cka7,none]
def Ckl679 : AL := [some Cka121,some Cka80,some Cka84,some Cka34,some Cka34,some Cka62,none]
def Cke265 : SE := (Cka123,(2,33,0,0,0))
def Ckl680 : AL := [some Cka121,some Cka80,some Cka84,some Cka34,some Cka34,some Cka62,some Cka147]
def Ckl681 : AL := [some Cka121,some Cka80,some Cka84,some Cka7,some Cka7,some Cka7,some Cka147]
def Ckl682 : AL := [some Cka121,some Cka80,some Cka84,some Cka96,some Cka7,some Cka7,some Cka147]
def Ckl683 : AL := [some Cka121,some Cka80,some Cka84,some Cka34,some Cka34,some Cka63,some Cka147]
def Cka154 : AV := (2,37,37,0)
def Cke266 : SE := (Cka154,(2,32,8,0,0))
def Cka155 : AV := (2,38,38,0)
def Cke267 : SE := (Cka155,(2,32,9,0,0))
def CNC128_0 : List ND := [(0,(Ckl674,[],[]),684,Ckc16,[1],0),
  (1,(Ckl674,[Cke7],[]),683,Ckc16,[2],0),
  (2,(Ckl675,[],[]),682,Ckc16,[3],0),
  (3,(Ckl675,[Cke7],[]),681,Ckc16,[4],0),
  (5,(Ckl676,[],[]),680,Ckc16,[5],0),
  (6,(Ckl676,[Cke7],[]),679,Ckc16,[6],0),
  (8,(Ckl677,[],[]),677,Ckc17,[8],0),
  (10,(Ckl678,[Cke216],[]),687,Ckc16,[9],0),
  (10,(Ckl677,[Cke246],[]),676,Ckc17,[10],0),
  (11,(Ckl678,[Cke193,Cke216],[]),686,Ckc16,[11],0),
  (11,(Ckl677,[Cke193,Cke246],[]),675,Ckc17,[12],0),
  (14,(Ckl678,[Cke194,Cke216],[]),685,Ckc16,[84,13],0),
  (14,(Ckl677,[Cke194,Cke246],[]),674,Ckc17,[84,13],0),
  (17,(Ckl679,[],Ckf58),673,Ckc17,[14],0),
  (18,(Ckl679,[Cke193],Ckf58),672,Ckc17,[16],0),
  (20,(Ckl678,[Cke216,Cke193],Ckf58),696,Ckc16,[17],0),
  (20,(Ckl679,[Cke247,Cke193],Ckf58),671,Ckc17,[18],0),
  (21,(Ckl678,[Cke248,Cke216,Cke193],Ckf58),695,Ckc16,[19],0),
  (21,(Ckl679,[Cke248,Cke247,Cke193],Ckf58),670,Ckc17,[20],0),
  (22,(Ckl678,[Cke249,Cke248,Cke216,Cke193],Ckf58),694,Ckc16,[21],0),
  (22,(Ckl679,[Cke249,Cke248,Cke247,Cke193],Ckf58),669,Ckc17,[22],0),
  (23,(Ckl678,[Cke193,Cke249,Cke248,Cke216,Cke193],Ckf58),693,Ckc16,[23],0),
  (23,(Ckl679,[Cke193,Cke249,Cke248,Cke247,Cke193],Ckf58),668,Ckc17,[24],0),
  (26,(Ckl678,[Cke195,Cke249,Cke248,Cke216,Cke193],Ckf58),692,Ckc16,[25],0),
  (26,(Ckl679,[Cke195,Cke249,Cke248,Cke247,Cke193],Ckf58),667,Ckc17,[26],0),
  (28,(Ckl678,[Cke216,Cke195,Cke249,Cke248,Cke216,Cke193],Ckf58),691,Ckc16,[27],0),
  (28,(Ckl679,[Cke247,Cke195,Cke249,Cke248,Cke247,Cke193],Ckf58),666,Ckc17,[28],0),
  (29,(Ckl678,[Cke265,Cke249,Cke248,Cke216,Cke193],Ckf58),690,Ckc16,[29],0),
  (29,(Ckl679,[Cke196,Cke249,Cke248,Cke247,Cke193],Ckf58),665,Ckc17,[30],0),
  (32,(Ckl678,[Cke97,Cke249,Cke248,Cke216,Cke193],Ckf58),689,Ckc16,[31],0),
  (32,(Ckl679,[Cke97,Cke249,Cke248,Cke247,Cke193],Ckf58),664,Ckc17,[32],0),
  (33,(Ckl678,[Cke7,Cke97,Cke249,Cke248,Cke216,Cke193],Ckf58),688,Ckc16,[33],127),
  (33,(Ckl679,[Cke7,Cke97,Cke249,Cke248,Cke247,Cke193],Ckf58),663,Ckc17,[33],127),
  (36,(Ckl679,[Cke244],Ckf58),662,Ckc17,[34],0),
  (38,(Ckl680,[],Ckf58),661,Ckc17,[36],0),
  (39,(Ckl681,[Cke74],Ckf58),707,Ckc16,[37],0),
  (39,(Ckl680,[Cke210],Ckf58),660,Ckc17,[38],0),
  (41,(Ckl681,[Cke251,Cke74],Ckf58),706,Ckc16,[39],0),
  (41,(Ckl680,[Cke251,Cke210],Ckf58),659,Ckc17,[40],0),
  (42,(Ckl681,[Cke6,Cke251,Cke74],Ckf58),705,Ckc16,[41],0),
  (42,(Ckl680,[Cke6,Cke251,Cke210],Ckf58),658,Ckc17,[42],0),
  (43,(Ckl681,[Cke242,Cke74],Ckf58),704,Ckc16,[51,43],0),
  (43,(Ckl680,[Cke242,Cke210],Ckf58),657,Ckc17,[52,44],0),
  (46,(Ckl681,[Cke74],Ckf58),703,Ckc16,[45],0),
  (46,(Ckl680,[Cke210],Ckf58),656,Ckc17,[46],0),
  (47,(Ckl681,[Cke6,Cke74],Ckf58),702,Ckc16,[47],0),
  (47,(Ckl680,[Cke6,Cke210],Ckf58),655,Ckc17,[48],0),
  (49,(Ckl681,[Cke216,Cke6,Cke74],Ckf58),701,Ckc16,[49],0),
  (49,(Ckl680,[Cke247,Cke6,Cke210],Ckf58),654,Ckc17,[50],0),
  (50,(Ckl681,[Cke6,Cke74],Ckf58),700,Ckc16,[54],0),
  (50,(Ckl680,[Cke252,Cke210],Ckf58),653,Ckc17,[56],0),
  (53,(Ckl681,[Cke74],Ckf58),698,Ckc16,[53],0),
  (53,(Ckl680,[Cke210],Ckf58),651,Ckc17,[55],0),
  (54,(Ckl681,[Cke7,Cke74],Ckf58),697,Ckc16,[57],0),
  (54,(Ckl681,[Cke6,Cke74],Ckf58),699,Ckc16,[57],0),
  (54,(Ckl680,[Cke7,Cke210],Ckf58),650,Ckc17,[57],0),
  (54,(Ckl680,[Cke252,Cke210],Ckf58),652,Ckc17,[57],0),
  (55,(Ckl680,[Cke184],Ckf58),649,Ckc17,[58],0),
  (56,(Ckl680,[],Ckf58),648,Ckc17,[60],0),
  (58,(Ckl682,[Cke166],Ckf58),718,Ckc16,[61],0),
  (58,(Ckl680,[Cke211],Ckf58),647,Ckc17,[62],0),
  (60,(Ckl682,[Cke251,Cke166],Ckf58),717,Ckc16,[63],0),
  (60,(Ckl680,[Cke251,Cke211],Ckf58),646,Ckc17,[64],0),
  (61,(Ckl682,[Cke22,Cke251,Cke166],Ckf58),716,Ckc16,[65],0)]
def CNC128_1 : List ND := [(61,(Ckl680,[Cke22,Cke251,Cke211],Ckf58),645,Ckc17,[66],0),
  (62,(Ckl682,[Cke253,Cke166],Ckf58),715,Ckc16,[75,67],0),
  (62,(Ckl680,[Cke253,Cke211],Ckf58),644,Ckc17,[76,68],0),
  (65,(Ckl682,[Cke166],Ckf58),712,Ckc16,[69],0),
  (65,(Ckl680,[Cke211],Ckf58),641,Ckc17,[70],0),
  (66,(Ckl682,[Cke6,Cke166],Ckf58),711,Ckc16,[71],0),
  (66,(Ckl680,[Cke6,Cke211],Ckf58),640,Ckc17,[72],0),
  (68,(Ckl682,[Cke216,Cke6,Cke166],Ckf58),710,Ckc16,[73],0),
  (68,(Ckl680,[Cke247,Cke6,Cke211],Ckf58),639,Ckc17,[74],0),
  (69,(Ckl682,[Cke6,Cke166],Ckf58),709,Ckc16,[78],0),
  (69,(Ckl680,[Cke252,Cke211],Ckf58),638,Ckc17,[80],0),
  (72,(Ckl682,[Cke166],Ckf58),714,Ckc16,[77],0),
  (72,(Ckl680,[Cke211],Ckf58),643,Ckc17,[79],0),
  (73,(Ckl682,[Cke7,Cke166],Ckf58),713,Ckc16,[81],0),
  (73,(Ckl682,[Cke6,Cke166],Ckf58),708,Ckc16,[81],0),
  (73,(Ckl680,[Cke7,Cke211],Ckf58),642,Ckc17,[81],0),
  (73,(Ckl680,[Cke252,Cke211],Ckf58),637,Ckc17,[81],0),
  (74,(Ckl680,[Cke184],Ckf58),636,Ckc17,[82],0),
  (76,(Ckl680,[],Ckf58),635,Ckc17,[83],0),
  (79,(Ckl683,[],Ckf58),678,Ckc17,[6],0),
  (82,(Ckl677,[],[]),18,Ckc16,[85],0),
  (83,(Ckl677,[Cke193],[]),17,Ckc16,[86],0),
  (86,(Ckl677,[Cke266],[]),16,Ckc16,[87],0),
  (87,(Ckl677,[Cke248,Cke266],[]),15,Ckc16,[88],0),
  (89,(Ckl677,[Cke144,Cke248,Cke266],[]),14,Ckc16,[89],0),
  (90,(Ckl677,[Cke255,Cke266],[]),13,Ckc16,[90],0),
  (91,(Ckl677,[Cke249,Cke255,Cke266],[]),12,Ckc16,[91],0),
  (92,(Ckl677,[Cke256,Cke266],[]),11,Ckc16,[92],0),
  (93,(Ckl677,[Cke210,Cke256,Cke266],[]),10,Ckc16,[93],0),
  (94,(Ckl677,[],[]),9,Ckc16,[94],0),
  (95,(Ckl677,[Cke193],[]),8,Ckc16,[95],0),
  (98,(Ckl677,[Cke267],[]),7,Ckc16,[96],0),
  (99,(Ckl677,[Cke248,Cke267],[]),6,Ckc16,[97],0),
  (101,(Ckl677,[Cke144,Cke248,Cke267],[]),5,Ckc16,[98],0),
  (102,(Ckl677,[Cke255,Cke267],[]),4,Ckc16,[99],0),
  (103,(Ckl677,[Cke249,Cke255,Cke267],[]),3,Ckc16,[100],0),
  (104,(Ckl677,[Cke256,Cke267],[]),2,Ckc16,[101],0),
  (106,(Ckl677,[Cke211,Cke256,Cke267],[]),1,Ckc16,[102],0),
  (107,(Ckl677,[],[]),0,Ckc16,[],0)]
def CNC128 : List (List ND) := [CNC128_0, CNC128_1]
theorem CKC128 : chkS prot SMsC SMC128 [] CNC128 = true := by decide +kernel
-- OneSided$Quarter.settle [(32, 32)]
def Ckl684 : AL := [some Cka121,none,none]
def Ckl685 : AL := [some Cka121,some Cka55,none]
def Ckl686 : AL := [some Cka121,some Cka7,none]
def Ckl687 : AL := [some Cka121,some Cka80,none]
def Ckl688 : AL := [some Cka121,some Cka80,some Cka143]
def Ckl689 : AL := [some Cka121,some Cka7,some Cka7]
def Ckl690 : AL := [some Cka121,some Cka80,some Cka84]
def Ckl691 : AL := [some Cka121,some Cka7,some Cka84]
def Ckl692 : AL := [some Cka121,some Cka80,some Cka85]
def Ckl693 : AL := [some Cka121,some Cka80,some Cka86]
def Ckl694 : AL := [some Cka121,some Cka120,some Cka86]
def Ckl695 : AL := [some Cka121,some Cka31,none]
def CNC129_0 : List ND := [(0,(Ckl684,[],[]),1162,Ckc1,[1],0),
  (1,(Ckl684,[Cke7],[]),1161,Ckc1,[2],0),
  (2,(Ckl685,[],[]),1159,Ckc18,[4],0),
  (3,(Ckl686,[Cke90],[]),1164,Ckc1,[5],0),
  (3,(Ckl685,[Cke258],[]),1158,Ckc18,[6],0),
  (4,(Ckl686,[Cke35,Cke90],[]),1163,Ckc1,[7],0),
  (4,(Ckl685,[Cke35,Cke258],[]),1157,Ckc18,[25,7],0),
  (7,(Ckl687,[],[]),1156,Ckc18,[8],0),
  (8,(Ckl687,[Cke7],[]),1155,Ckc18,[9],0),
  (9,(Ckl688,[],[]),1153,Ckc19,[11],0),
  (10,(Ckl689,[Cke23],[]),1166,Ckc1,[12],0),
  (10,(Ckl688,[Cke259],[]),1152,Ckc19,[13],0),
  (12,(Ckl689,[Cke144,Cke23],[]),1165,Ckc1,[14],0),
  (12,(Ckl688,[Cke144,Cke259],[]),1151,Ckc19,[23,14],0),
  (15,(Ckl690,[],[]),1150,Ckc19,[15],0),
  (16,(Ckl690,[Cke193],[]),1149,Ckc19,[17],0),
  (17,(Ckl691,[Cke90,Cke193],[]),1168,Ckc1,[19],0),
  (17,(Ckl690,[Cke248,Cke193],[]),1148,Ckc19,[20],0),
  (18,(Ckl689,[Cke23,Cke90,Cke193],[]),1169,Ckc1,[21],128),
  (18,(Ckl691,[Cke249,Cke90,Cke193],[]),1167,Ckc1,[21],128),
  (18,(Ckl690,[Cke249,Cke248,Cke193],[]),1147,Ckc19,[21],128),
  (21,(Ckl690,[],[]),1146,Ckc19,[22],0),
  (24,(Ckl692,[],[]),1154,Ckc19,[9],0),
  (27,(Ckl693,[],[]),929,Ckc18,[24],0),
  (30,(Ckl694,[],[]),1160,Ckc18,[2],0),
  (33,(Ckl695,[],[]),0,Ckc1,[],0)]
def CNC129 : List (List ND) := [CNC129_0]
theorem CKC129 : chkS prot SMsC SMC129 [] CNC129 = true := by decide +kernel
-- java/util/Arrays.fill [(62, 62), (0, 0)]
def Cka156 : AV := (2,62,62,0)
def Ckl696 : AL := [some Cka156,some Cka7,none,none]
def Ckl697 : AL := [some Cka156,some Cka7,some Cka7,none]
def Cke268 : SE := (Cka156,(1,0,0,0,0))
def Ckl698 : AL := [some Cka156,some Cka7,some Cka61,some Cka78]
def Ckc20 : List Int := [0,0,-9,0]
def Ckl699 : AL := [some Cka156,some Cka7,some Cka7,some Cka78]
def Cke269 : SE := (Cka78,(1,3,0,0,0))
def Ckl700 : AL := [some Cka156,some Cka7,some Cka62,some Cka78]
def Cke270 : SE := (Cka62,(1,2,0,0,0))
def Ckl701 : AL := [some Cka156,some Cka7,some Cka63,some Cka78]
def Ckl702 : AL := [some Cka156,some Cka7,some Cka78,some Cka78]
def CNC130_0 : List ND := [(0,(Ckl696,[],[]),140,Ckc7,[1],0),
  (1,(Ckl696,[Cke7],[]),139,Ckc7,[2],0),
  (2,(Ckl697,[],[]),138,Ckc7,[3],0),
  (3,(Ckl697,[Cke268],[]),137,Ckc7,[4],0),
  (4,(Ckl697,[Cke136],[]),136,Ckc7,[5],0),
  (5,(Ckl698,[],[]),134,Ckc20,[7],0),
  (6,(Ckl699,[Cke23],[]),142,Ckc7,[8],0),
  (6,(Ckl698,[Cke107],[]),133,Ckc20,[9],0),
  (7,(Ckl699,[Cke269,Cke23],[]),141,Ckc7,[10],0),
  (7,(Ckl698,[Cke269,Cke107],[]),132,Ckc20,[18,10],0),
  (10,(Ckl700,[],[]),131,Ckc20,[11],0),
  (11,(Ckl700,[Cke268],[]),130,Ckc20,[13],0),
  (12,(Ckl699,[Cke23,Cke268],[]),144,Ckc7,[14],0),
  (12,(Ckl700,[Cke270,Cke268],[]),129,Ckc20,[15],0),
  (13,(Ckl699,[Cke90,Cke23,Cke268],[]),143,Ckc7,[16],0),
  (13,(Ckl700,[Cke90,Cke270,Cke268],[]),128,Ckc20,[16],0),
  (14,(Ckl700,[],[]),127,Ckc20,[17],0),
  (17,(Ckl701,[],[]),135,Ckc20,[5],0),
  (20,(Ckl702,[],[]),0,Ckc7,[],0)]
def CNC130 : List (List ND) := [CNC130_0]
theorem CKC130 : chkS prot SMsC SMC130 [] CNC130 = true := by decide +kernel
-- OneSided$Scene.begin [(60, 60), (5, 5)]
def Cka157 : AV := (2,60,60,0)
def Ckl703 : AL := [some Cka157,some Cka50,none,none]
def Cke271 : SE := (Cka157,(1,0,0,0,0))
def Ckf71 : FA := [(60,0,Cka7)]
def Ckf72 : FA := [(60,0,Cka7),(60,1,Cka7)]
def Ckf73 : FA := [(60,0,Cka7),(60,1,Cka7),(60,2,Cka7)]
def Ckf74 : FA := [(60,0,Cka7),(60,1,Cka7),(60,2,Cka7),(60,3,Cka7)]
def Cke272 : SE := (Cka156,(2,60,5,0,0))
def Ckl704 : AL := [some Cka157,some Cka50,some Cka7,none]
def Ckl705 : AL := [some Cka157,some Cka50,some Cka68,some Cka70]
def Ckf75 : FA := [(5,4,Cka68),(60,0,Cka7),(60,1,Cka7),(60,2,Cka7),(60,3,Cka147)]
def Ckc21 : List Int := [0,0,-33,0]
def Ckl706 : AL := [some Cka157,some Cka50,some Cka6,some Cka70]
def Ckf76 : FA := [(5,4,Cka68),(60,0,Cka7),(60,1,Cka7),(60,2,Cka7),(60,3,Cka96)]
def Cke273 : SE := (Cka68,(1,2,0,0,0))
def Cke274 : SE := (Cka68,(2,5,4,0,0))
def Ckf77 : FA := [(5,4,Cka68),(60,0,Cka7),(60,1,Cka7),(60,2,Cka7),(60,3,Cka7)]
def Ckl707 : AL := [some Cka157,some Cka50,some Cka51,some Cka70]
def Cka158 : AV := (0,2,6,1)
def Ckf78 : FA := [(5,4,Cka158),(60,0,Cka7),(60,1,Cka7),(60,2,Cka7),(60,3,Cka147)]
def Ckf79 : FA := [(5,4,Cka158),(60,0,Cka7),(60,1,Cka7),(60,2,Cka7),(60,3,Cka96)]
def Cke275 : SE := (Cka51,(1,2,0,0,0))
def Cke276 : SE := (Cka70,(2,7,0,0,0))
def Ckl708 : AL := [some Cka157,some Cka50,some Cka67,some Cka70]
def Cka159 : AV := (2,61,61,0)
def Cke277 : SE := (Cka159,(2,60,4,0,0))
def Ckl709 : AL := [some Cka157,some Cka50,some Cka7,some Cka70]
def Cke278 : SE := (Cka67,(1,2,0,0,0))
def Cke279 : SE := (Cka70,(1,3,0,0,0))
def Cke280 : SE := (Cka7,(2,60,3,0,0))
def Cke281 : SE := (Cka147,(2,60,3,0,0))
def Cke282 : SE := (Cka137,pv0)
def Ckf80 : FA := [(5,4,Cka7),(60,0,Cka7),(60,1,Cka7),(60,2,Cka7),(60,3,Cka7)]
def CNC131_0 : List ND := [(0,(Ckl703,[],[]),259,Ckc7,[1],0),
  (1,(Ckl703,[Cke271],[]),258,Ckc7,[2],0),
  (2,(Ckl703,[Cke7,Cke271],[]),257,Ckc7,[3],0),
  (5,(Ckl703,[],Ckf71),256,Ckc7,[4],0),
  (6,(Ckl703,[Cke271],Ckf71),255,Ckc7,[5],0),
  (7,(Ckl703,[Cke7,Cke271],Ckf71),254,Ckc7,[6],0),
  (10,(Ckl703,[],Ckf72),253,Ckc7,[7],0),
  (11,(Ckl703,[Cke271],Ckf72),252,Ckc7,[8],0),
  (12,(Ckl703,[Cke7,Cke271],Ckf72),251,Ckc7,[9],0),
  (15,(Ckl703,[],Ckf73),250,Ckc7,[10],0),
  (16,(Ckl703,[Cke271],Ckf73),249,Ckc7,[11],0),
  (17,(Ckl703,[Cke7,Cke271],Ckf73),248,Ckc7,[12],0),
  (20,(Ckl703,[],Ckf74),247,Ckc7,[13],0),
  (21,(Ckl703,[Cke271],Ckf74),246,Ckc7,[14],0),
  (24,(Ckl703,[Cke272],Ckf74),245,Ckc7,[15],0),
  (25,(Ckl703,[Cke7,Cke272],Ckf74),244,Ckc7,[16],130),
  (28,(Ckl703,[],Ckf74),243,Ckc7,[17],0),
  (29,(Ckl703,[Cke7],Ckf74),242,Ckc7,[18],0),
  (30,(Ckl704,[],Ckf74),241,Ckc7,[20],0),
  (30,(Ckl705,[],Ckf75),230,Ckc21,[22],0),
  (31,(Ckl704,[Cke23],Ckf74),240,Ckc7,[23],0),
  (31,(Ckl706,[Cke180],Ckf76),262,Ckc7,[24],0),
  (31,(Ckl705,[Cke273],Ckf75),229,Ckc21,[25],0),
  (32,(Ckl704,[Cke86,Cke23],Ckf74),239,Ckc7,[26],0),
  (32,(Ckl706,[Cke86,Cke180],Ckf76),261,Ckc7,[27],0),
  (32,(Ckl705,[Cke86,Cke273],Ckf75),228,Ckc21,[28],0),
  (35,(Ckl704,[Cke82,Cke23],Ckf74),238,Ckc7,[79,29],0),
  (35,(Ckl706,[Cke274,Cke180],Ckf76),260,Ckc7,[80,30],0),
  (35,(Ckl705,[Cke274,Cke273],Ckf75),227,Ckc21,[80,30],0),
  (38,(Ckl704,[],Ckf77),236,Ckc7,[31],0),
  (38,(Ckl707,[],Ckf78),226,Ckc21,[32],0),
  (39,(Ckl704,[Cke86],Ckf77),235,Ckc7,[33],0),
  (39,(Ckl707,[Cke86],Ckf78),225,Ckc21,[34],0),
  (42,(Ckl704,[Cke83],Ckf77),234,Ckc7,[35],0),
  (42,(Ckl707,[Cke83],Ckf78),224,Ckc21,[37],0),
  (43,(Ckl704,[Cke23,Cke83],Ckf77),233,Ckc7,[38],0),
  (43,(Ckl706,[Cke180,Cke83],Ckf79),263,Ckc7,[39],0),
  (43,(Ckl707,[Cke275,Cke83],Ckf78),223,Ckc21,[39],0),
  (44,(Ckl704,[Cke276],Ckf77),232,Ckc7,[40],0),
  (44,(Ckl707,[Cke85],Ckf78),222,Ckc21,[40],0),
  (45,(Ckl708,[],Ckf75),221,Ckc21,[41],0),
  (46,(Ckl708,[Cke271],Ckf75),220,Ckc21,[42],0),
  (49,(Ckl708,[Cke277],Ckf75),219,Ckc21,[44],0),
  (50,(Ckl709,[Cke23,Cke277],Ckf77),266,Ckc7,[45],0),
  (50,(Ckl708,[Cke278,Cke277],Ckf75),218,Ckc21,[46],0),
  (51,(Ckl709,[Cke279,Cke23,Cke277],Ckf77),265,Ckc7,[47],0),
  (51,(Ckl708,[Cke279,Cke278,Cke277],Ckf75),217,Ckc21,[48],0),
  (54,(Ckl709,[Cke97,Cke23,Cke277],Ckf77),264,Ckc7,[49],0),
  (54,(Ckl708,[Cke97,Cke278,Cke277],Ckf75),216,Ckc21,[49],0),
  (55,(Ckl708,[],Ckf75),215,Ckc21,[50],0),
  (56,(Ckl708,[Cke271],Ckf75),214,Ckc21,[51],0),
  (57,(Ckl708,[Cke271,Cke271],Ckf75),213,Ckc21,[53],0),
  (60,(Ckl709,[Cke280,Cke271],Ckf77),278,Ckc7,[54],0),
  (60,(Ckl708,[Cke281,Cke271],Ckf75),212,Ckc21,[55],0),
  (61,(Ckl709,[Cke279,Cke280,Cke271],Ckf77),277,Ckc7,[56],0),
  (61,(Ckl708,[Cke279,Cke281,Cke271],Ckf75),211,Ckc21,[57],0),
  (64,(Ckl709,[Cke97,Cke280,Cke271],Ckf77),276,Ckc7,[58],0),
  (64,(Ckl708,[Cke97,Cke281,Cke271],Ckf75),210,Ckc21,[59],0),
  (65,(Ckl709,[Cke279,Cke97,Cke280,Cke271],Ckf77),275,Ckc7,[60],0),
  (65,(Ckl708,[Cke279,Cke97,Cke281,Cke271],Ckf75),209,Ckc21,[61],0),
  (68,(Ckl709,[Cke97,Cke97,Cke280,Cke271],Ckf77),274,Ckc7,[70,62],0),
  (68,(Ckl708,[Cke97,Cke97,Cke281,Cke271],Ckf75),208,Ckc21,[71,63],0),
  (71,(Ckl709,[Cke280,Cke271],Ckf77),271,Ckc7,[64],0),
  (71,(Ckl708,[Cke281,Cke271],Ckf75),205,Ckc21,[65],0)]
def CNC131_1 : List ND := [(72,(Ckl709,[Cke6,Cke280,Cke271],Ckf77),270,Ckc7,[66],0),
  (72,(Ckl708,[Cke6,Cke281,Cke271],Ckf75),204,Ckc21,[67],0),
  (73,(Ckl709,[Cke23,Cke6,Cke280,Cke271],Ckf77),269,Ckc7,[68],0),
  (73,(Ckl708,[Cke278,Cke6,Cke281,Cke271],Ckf75),203,Ckc21,[69],0),
  (74,(Ckl709,[Cke6,Cke280,Cke271],Ckf77),268,Ckc7,[73],0),
  (74,(Ckl708,[Cke282,Cke281,Cke271],Ckf75),202,Ckc21,[75],0),
  (77,(Ckl709,[Cke280,Cke271],Ckf77),273,Ckc7,[72],0),
  (77,(Ckl708,[Cke281,Cke271],Ckf75),207,Ckc21,[74],0),
  (78,(Ckl709,[Cke7,Cke280,Cke271],Ckf77),272,Ckc7,[76],0),
  (78,(Ckl709,[Cke6,Cke280,Cke271],Ckf77),267,Ckc7,[76],0),
  (78,(Ckl708,[Cke7,Cke281,Cke271],Ckf75),206,Ckc21,[76],0),
  (78,(Ckl708,[Cke282,Cke281,Cke271],Ckf75),201,Ckc21,[76],0),
  (79,(Ckl708,[Cke244,Cke271],Ckf75),200,Ckc21,[77],0),
  (82,(Ckl708,[],Ckf75),199,Ckc21,[78],0),
  (85,(Ckl705,[],Ckf75),231,Ckc21,[19],0),
  (88,(Ckl704,[],Ckf80),237,Ckc7,[],0),
  (88,(Ckl705,[],Ckf75),0,Ckc7,[],0)]
def CNC131 : List (List ND) := [CNC131_0, CNC131_1]
theorem CKC131 : chkS prot SMsC SMC131 [] CNC131 = true := by decide +kernel
-- OneSided$Memory.begin [(59, 59), (5, 5)]
def Cka160 : AV := (2,59,59,0)
def Ckl710 : AL := [some Cka160,some Cka50]
def Cke283 : SE := (Cka160,(1,0,0,0,0))
def Cke284 : SE := (Cka157,(2,59,0,0,0))
def Ckf81 : FA := [(59,1,Cka7)]
def Ckf82 : FA := [(59,1,Cka7),(59,4,Cka7)]
def Ckf83 : FA := [(59,1,Cka7),(59,4,Cka7),(59,7,Cka7)]
def CNC132_0 : List ND := [(0,(Ckl710,[],[]),13,Ckc0,[1],0),
  (1,(Ckl710,[Cke283],[]),12,Ckc0,[2],0),
  (4,(Ckl710,[Cke284],[]),11,Ckc0,[3],0),
  (5,(Ckl710,[Cke86,Cke284],[]),10,Ckc0,[4],131),
  (8,(Ckl710,[],[]),9,Ckc0,[5],0),
  (9,(Ckl710,[Cke283],[]),8,Ckc0,[6],0),
  (10,(Ckl710,[Cke7,Cke283],[]),7,Ckc0,[7],0),
  (13,(Ckl710,[],Ckf81),6,Ckc0,[8],0),
  (14,(Ckl710,[Cke283],Ckf81),5,Ckc0,[9],0),
  (15,(Ckl710,[Cke7,Cke283],Ckf81),4,Ckc0,[10],0),
  (18,(Ckl710,[],Ckf82),3,Ckc0,[11],0),
  (19,(Ckl710,[Cke283],Ckf82),2,Ckc0,[12],0),
  (20,(Ckl710,[Cke7,Cke283],Ckf82),1,Ckc0,[13],0),
  (23,(Ckl710,[],Ckf83),0,Ckc0,[],0)]
def CNC132 : List (List ND) := [CNC132_0]
theorem CKC132 : chkS prot SMsC SMC132 [] CNC132 = true := by decide +kernel
-- OneSided$Scene.begin [(60, 60), (32, 32)]
def Ckl711 : AL := [some Cka157,some Cka121,none,none]
def Ckl712 : AL := [some Cka157,some Cka121,some Cka7,none]
def Ckl713 : AL := [some Cka157,some Cka121,some Cka68,some Cka125]
def Ckf84 : FA := [(32,4,Cka68),(60,0,Cka7),(60,1,Cka7),(60,2,Cka7),(60,3,Cka147)]
def Ckl714 : AL := [some Cka157,some Cka121,some Cka6,some Cka125]
def Ckf85 : FA := [(32,4,Cka68),(60,0,Cka7),(60,1,Cka7),(60,2,Cka7),(60,3,Cka96)]
def Cke285 : SE := (Cka68,(2,32,4,0,0))
def Ckf86 : FA := [(32,4,Cka68),(60,0,Cka7),(60,1,Cka7),(60,2,Cka7),(60,3,Cka7)]
def Ckl715 : AL := [some Cka157,some Cka121,some Cka51,some Cka125]
def Ckf87 : FA := [(32,4,Cka158),(60,0,Cka7),(60,1,Cka7),(60,2,Cka7),(60,3,Cka147)]
def Ckf88 : FA := [(32,4,Cka158),(60,0,Cka7),(60,1,Cka7),(60,2,Cka7),(60,3,Cka96)]
def Cke286 : SE := (Cka125,(2,34,0,0,0))
def Ckl716 : AL := [some Cka157,some Cka121,some Cka67,some Cka125]
def Ckl717 : AL := [some Cka157,some Cka121,some Cka7,some Cka125]
def Cke287 : SE := (Cka125,(1,3,0,0,0))
def Ckf89 : FA := [(32,4,Cka7),(60,0,Cka7),(60,1,Cka7),(60,2,Cka7),(60,3,Cka7)]
def CNC133_0 : List ND := [(0,(Ckl711,[],[]),259,Ckc7,[1],0),
  (1,(Ckl711,[Cke271],[]),258,Ckc7,[2],0),
  (2,(Ckl711,[Cke7,Cke271],[]),257,Ckc7,[3],0),
  (5,(Ckl711,[],Ckf71),256,Ckc7,[4],0),
  (6,(Ckl711,[Cke271],Ckf71),255,Ckc7,[5],0),
  (7,(Ckl711,[Cke7,Cke271],Ckf71),254,Ckc7,[6],0),
  (10,(Ckl711,[],Ckf72),253,Ckc7,[7],0),
  (11,(Ckl711,[Cke271],Ckf72),252,Ckc7,[8],0),
  (12,(Ckl711,[Cke7,Cke271],Ckf72),251,Ckc7,[9],0),
  (15,(Ckl711,[],Ckf73),250,Ckc7,[10],0),
  (16,(Ckl711,[Cke271],Ckf73),249,Ckc7,[11],0),
  (17,(Ckl711,[Cke7,Cke271],Ckf73),248,Ckc7,[12],0),
  (20,(Ckl711,[],Ckf74),247,Ckc7,[13],0),
  (21,(Ckl711,[Cke271],Ckf74),246,Ckc7,[14],0),
  (24,(Ckl711,[Cke272],Ckf74),245,Ckc7,[15],0),
  (25,(Ckl711,[Cke7,Cke272],Ckf74),244,Ckc7,[16],130),
  (28,(Ckl711,[],Ckf74),243,Ckc7,[17],0),
  (29,(Ckl711,[Cke7],Ckf74),242,Ckc7,[18],0),
  (30,(Ckl712,[],Ckf74),241,Ckc7,[20],0),
  (30,(Ckl713,[],Ckf84),230,Ckc21,[22],0),
  (31,(Ckl712,[Cke23],Ckf74),240,Ckc7,[23],0),
  (31,(Ckl714,[Cke180],Ckf85),262,Ckc7,[24],0),
  (31,(Ckl713,[Cke273],Ckf84),229,Ckc21,[25],0),
  (32,(Ckl712,[Cke200,Cke23],Ckf74),239,Ckc7,[26],0),
  (32,(Ckl714,[Cke200,Cke180],Ckf85),261,Ckc7,[27],0),
  (32,(Ckl713,[Cke200,Cke273],Ckf84),228,Ckc21,[28],0),
  (35,(Ckl712,[Cke197,Cke23],Ckf74),238,Ckc7,[79,29],0),
  (35,(Ckl714,[Cke285,Cke180],Ckf85),260,Ckc7,[80,30],0),
  (35,(Ckl713,[Cke285,Cke273],Ckf84),227,Ckc21,[80,30],0),
  (38,(Ckl712,[],Ckf86),236,Ckc7,[31],0),
  (38,(Ckl715,[],Ckf87),226,Ckc21,[32],0),
  (39,(Ckl712,[Cke200],Ckf86),235,Ckc7,[33],0),
  (39,(Ckl715,[Cke200],Ckf87),225,Ckc21,[34],0),
  (42,(Ckl712,[Cke198],Ckf86),234,Ckc7,[35],0),
  (42,(Ckl715,[Cke198],Ckf87),224,Ckc21,[37],0),
  (43,(Ckl712,[Cke23,Cke198],Ckf86),233,Ckc7,[38],0),
  (43,(Ckl714,[Cke180,Cke198],Ckf88),263,Ckc7,[39],0),
  (43,(Ckl715,[Cke275,Cke198],Ckf87),223,Ckc21,[39],0),
  (44,(Ckl712,[Cke286],Ckf86),232,Ckc7,[40],0),
  (44,(Ckl715,[Cke199],Ckf87),222,Ckc21,[40],0),
  (45,(Ckl716,[],Ckf84),221,Ckc21,[41],0),
  (46,(Ckl716,[Cke271],Ckf84),220,Ckc21,[42],0),
  (49,(Ckl716,[Cke277],Ckf84),219,Ckc21,[44],0),
  (50,(Ckl717,[Cke23,Cke277],Ckf86),266,Ckc7,[45],0),
  (50,(Ckl716,[Cke278,Cke277],Ckf84),218,Ckc21,[46],0),
  (51,(Ckl717,[Cke287,Cke23,Cke277],Ckf86),265,Ckc7,[47],0),
  (51,(Ckl716,[Cke287,Cke278,Cke277],Ckf84),217,Ckc21,[48],0),
  (54,(Ckl717,[Cke97,Cke23,Cke277],Ckf86),264,Ckc7,[49],0),
  (54,(Ckl716,[Cke97,Cke278,Cke277],Ckf84),216,Ckc21,[49],0),
  (55,(Ckl716,[],Ckf84),215,Ckc21,[50],0),
  (56,(Ckl716,[Cke271],Ckf84),214,Ckc21,[51],0),
  (57,(Ckl716,[Cke271,Cke271],Ckf84),213,Ckc21,[53],0),
  (60,(Ckl717,[Cke280,Cke271],Ckf86),278,Ckc7,[54],0),
  (60,(Ckl716,[Cke281,Cke271],Ckf84),212,Ckc21,[55],0),
  (61,(Ckl717,[Cke287,Cke280,Cke271],Ckf86),277,Ckc7,[56],0),
  (61,(Ckl716,[Cke287,Cke281,Cke271],Ckf84),211,Ckc21,[57],0),
  (64,(Ckl717,[Cke97,Cke280,Cke271],Ckf86),276,Ckc7,[58],0),
  (64,(Ckl716,[Cke97,Cke281,Cke271],Ckf84),210,Ckc21,[59],0),
  (65,(Ckl717,[Cke287,Cke97,Cke280,Cke271],Ckf86),275,Ckc7,[60],0),
  (65,(Ckl716,[Cke287,Cke97,Cke281,Cke271],Ckf84),209,Ckc21,[61],0),
  (68,(Ckl717,[Cke97,Cke97,Cke280,Cke271],Ckf86),274,Ckc7,[70,62],0),
  (68,(Ckl716,[Cke97,Cke97,Cke281,Cke271],Ckf84),208,Ckc21,[71,63],0),
  (71,(Ckl717,[Cke280,Cke271],Ckf86),271,Ckc7,[64],0),
  (71,(Ckl716,[Cke281,Cke271],Ckf84),205,Ckc21,[65],0)]
def CNC133_1 : List ND := [(72,(Ckl717,[Cke6,Cke280,Cke271],Ckf86),270,Ckc7,[66],0),
  (72,(Ckl716,[Cke6,Cke281,Cke271],Ckf84),204,Ckc21,[67],0),
  (73,(Ckl717,[Cke23,Cke6,Cke280,Cke271],Ckf86),269,Ckc7,[68],0),
  (73,(Ckl716,[Cke278,Cke6,Cke281,Cke271],Ckf84),203,Ckc21,[69],0),
  (74,(Ckl717,[Cke6,Cke280,Cke271],Ckf86),268,Ckc7,[73],0),
  (74,(Ckl716,[Cke282,Cke281,Cke271],Ckf84),202,Ckc21,[75],0),
  (77,(Ckl717,[Cke280,Cke271],Ckf86),273,Ckc7,[72],0),
  (77,(Ckl716,[Cke281,Cke271],Ckf84),207,Ckc21,[74],0),
  (78,(Ckl717,[Cke7,Cke280,Cke271],Ckf86),272,Ckc7,[76],0),
  (78,(Ckl717,[Cke6,Cke280,Cke271],Ckf86),267,Ckc7,[76],0),
  (78,(Ckl716,[Cke7,Cke281,Cke271],Ckf84),206,Ckc21,[76],0),
  (78,(Ckl716,[Cke282,Cke281,Cke271],Ckf84),201,Ckc21,[76],0),
  (79,(Ckl716,[Cke244,Cke271],Ckf84),200,Ckc21,[77],0),
  (82,(Ckl716,[],Ckf84),199,Ckc21,[78],0),
  (85,(Ckl713,[],Ckf84),231,Ckc21,[19],0),
  (88,(Ckl712,[],Ckf89),237,Ckc7,[],0),
  (88,(Ckl713,[],Ckf84),0,Ckc7,[],0)]
def CNC133 : List (List ND) := [CNC133_0, CNC133_1]
theorem CKC133 : chkS prot SMsC SMC133 [] CNC133 = true := by decide +kernel
-- OneSided$Memory.begin [(59, 59), (32, 32)]
def Ckl718 : AL := [some Cka160,some Cka121]
def CNC134_0 : List ND := [(0,(Ckl718,[],[]),13,Ckc0,[1],0),
  (1,(Ckl718,[Cke283],[]),12,Ckc0,[2],0),
  (4,(Ckl718,[Cke284],[]),11,Ckc0,[3],0),
  (5,(Ckl718,[Cke200,Cke284],[]),10,Ckc0,[4],133),
  (8,(Ckl718,[],[]),9,Ckc0,[5],0),
  (9,(Ckl718,[Cke283],[]),8,Ckc0,[6],0),
  (10,(Ckl718,[Cke7,Cke283],[]),7,Ckc0,[7],0),
  (13,(Ckl718,[],Ckf81),6,Ckc0,[8],0),
  (14,(Ckl718,[Cke283],Ckf81),5,Ckc0,[9],0),
  (15,(Ckl718,[Cke7,Cke283],Ckf81),4,Ckc0,[10],0),
  (18,(Ckl718,[],Ckf82),3,Ckc0,[11],0),
  (19,(Ckl718,[Cke283],Ckf82),2,Ckc0,[12],0),
  (20,(Ckl718,[Cke7,Cke283],Ckf82),1,Ckc0,[13],0),
  (23,(Ckl718,[],Ckf83),0,Ckc0,[],0)]
def CNC134 : List (List ND) := [CNC134_0]
theorem CKC134 : chkS prot SMsC SMC134 [] CNC134 = true := by decide +kernel
-- OneSided.quarter [(1, 1)]
def Cka161 : AV := (2,1,1,0)
def Ckl719 : AL := [some Cka161,none,none]
def Cke288 : SE := (Cka161,(1,0,0,0,0))
def Cke289 : SE := (Cka0,(2,1,0,0,0))
def Cke290 : SE := (Cka121,pv0)
def Cke291 : SE := (Cka50,pv0)
def Ckl720 : AL := [some Cka161,some Cka44,none]
def Cke292 : SE := (Cka44,(1,1,0,0,0))
def Ckl721 : AL := [some Cka161,some Cka45,none]
def Cke293 : SE := (Cka45,(1,1,0,0,0))
def Ckl722 : AL := [some Cka161,some Cka7,none]
def Ckl723 : AL := [some Cka161,some Cka7,some Cka121]
def Ckl724 : AL := [some Cka161,some Cka7,some Cka50]
def Cke294 : SE := (Cka121,(1,2,0,0,0))
def Cke295 : SE := (Cka50,(1,2,0,0,0))
def Ckf90 : FA := [(1,1,Cka121),(2,0,Cka7)]
def Ckf91 : FA := [(1,1,Cka50),(2,0,Cka7)]
def Cke296 : SE := (Cka121,(2,1,1,0,0))
def Cke297 : SE := (Cka50,(2,1,1,0,0))
def Cke298 : SE := (Cka160,(2,1,3,0,0))
def Ckf92 : FA := [(1,1,Cka121),(1,6,Cka7),(2,0,Cka7)]
def Ckf93 : FA := [(1,1,Cka50),(1,6,Cka7),(2,0,Cka7)]
def Ckf94 : FA := [(1,1,Cka121),(1,6,Cka7),(1,9,Cka7),(2,0,Cka7)]
def Ckf95 : FA := [(1,1,Cka50),(1,6,Cka7),(1,9,Cka7),(2,0,Cka7)]
def CNC135_0 : List ND := [(0,(Ckl719,[],[]),62,Ckc1,[1],0),
  (1,(Ckl719,[Cke288],[]),61,Ckc1,[2],0),
  (4,(Ckl719,[Cke289],[]),60,Ckc1,[3],0),
  (5,(Ckl719,[Cke288,Cke289],[]),59,Ckc1,[5,4],0),
  (8,(Ckl719,[Cke290,Cke289],[]),57,Ckc1,[6],117),
  (8,(Ckl719,[Cke291,Cke289],[]),58,Ckc1,[6],72),
  (11,(Ckl719,[Cke46],Ckf53),56,Ckc1,[7],0),
  (12,(Ckl720,[],Ckf53),55,Ckc1,[8],0),
  (13,(Ckl720,[Cke292],Ckf53),54,Ckc1,[11,9],0),
  (16,(Ckl721,[],Ckf53),1,Ckc1,[10],0),
  (17,(Ckl721,[Cke293],Ckf53),0,Ckc1,[],0),
  (18,(Ckl722,[],Ckf53),53,Ckc1,[12],0),
  (19,(Ckl722,[Cke288],Ckf53),52,Ckc1,[14,13],0),
  (22,(Ckl722,[Cke290],Ckf53),26,Ckc1,[15],0),
  (22,(Ckl722,[Cke291],Ckf53),51,Ckc1,[16],0),
  (23,(Ckl723,[],Ckf53),25,Ckc1,[17],0),
  (23,(Ckl724,[],Ckf53),50,Ckc1,[18],0),
  (24,(Ckl723,[Cke288],Ckf53),24,Ckc1,[19],0),
  (24,(Ckl724,[Cke288],Ckf53),49,Ckc1,[20],0),
  (25,(Ckl723,[Cke288,Cke288],Ckf53),23,Ckc1,[22,21],0),
  (25,(Ckl724,[Cke288,Cke288],Ckf53),48,Ckc1,[24,23],0),
  (28,(Ckl723,[Cke290,Cke288],Ckf53),21,Ckc1,[25],0),
  (28,(Ckl723,[Cke291,Cke288],Ckf53),22,Ckc1,[25],0),
  (28,(Ckl724,[Cke290,Cke288],Ckf53),46,Ckc1,[26],0),
  (28,(Ckl724,[Cke291,Cke288],Ckf53),47,Ckc1,[26],0),
  (31,(Ckl723,[],Ckf53),20,Ckc1,[27],0),
  (31,(Ckl724,[],Ckf53),45,Ckc1,[28],0),
  (32,(Ckl723,[Cke288],Ckf53),19,Ckc1,[29],0),
  (32,(Ckl724,[Cke288],Ckf53),44,Ckc1,[30],0),
  (33,(Ckl723,[Cke294,Cke288],Ckf53),18,Ckc1,[31],0),
  (33,(Ckl724,[Cke295,Cke288],Ckf53),43,Ckc1,[32],0),
  (36,(Ckl723,[],Ckf90),17,Ckc1,[33],0),
  (36,(Ckl724,[],Ckf91),42,Ckc1,[34],0),
  (37,(Ckl723,[Cke288],Ckf90),16,Ckc1,[35],0),
  (37,(Ckl724,[Cke288],Ckf91),41,Ckc1,[36],0),
  (40,(Ckl723,[Cke296],Ckf90),15,Ckc1,[37],129),
  (40,(Ckl724,[Cke297],Ckf91),40,Ckc1,[38],124),
  (43,(Ckl723,[],Ckf90),14,Ckc1,[39],0),
  (43,(Ckl724,[],Ckf91),39,Ckc1,[40],0),
  (44,(Ckl723,[Cke288],Ckf90),13,Ckc1,[41],0),
  (44,(Ckl724,[Cke288],Ckf91),38,Ckc1,[42],0),
  (47,(Ckl723,[Cke298],Ckf90),12,Ckc1,[43],0),
  (47,(Ckl724,[Cke298],Ckf91),37,Ckc1,[44],0),
  (48,(Ckl723,[Cke288,Cke298],Ckf90),11,Ckc1,[45],0),
  (48,(Ckl724,[Cke288,Cke298],Ckf91),36,Ckc1,[46],0),
  (51,(Ckl723,[Cke296,Cke298],Ckf90),10,Ckc1,[47],134),
  (51,(Ckl724,[Cke297,Cke298],Ckf91),35,Ckc1,[48],132),
  (54,(Ckl723,[],Ckf90),9,Ckc1,[49],0),
  (54,(Ckl724,[],Ckf91),34,Ckc1,[50],0),
  (55,(Ckl723,[Cke288],Ckf90),8,Ckc1,[51],0),
  (55,(Ckl724,[Cke288],Ckf91),33,Ckc1,[52],0),
  (56,(Ckl723,[Cke7,Cke288],Ckf90),7,Ckc1,[53],0),
  (56,(Ckl724,[Cke7,Cke288],Ckf91),32,Ckc1,[54],0),
  (59,(Ckl723,[],Ckf92),6,Ckc1,[55],0),
  (59,(Ckl724,[],Ckf93),31,Ckc1,[56],0),
  (60,(Ckl723,[Cke288],Ckf92),5,Ckc1,[57],0),
  (60,(Ckl724,[Cke288],Ckf93),30,Ckc1,[58],0),
  (61,(Ckl723,[Cke7,Cke288],Ckf92),4,Ckc1,[59],0),
  (61,(Ckl724,[Cke7,Cke288],Ckf93),29,Ckc1,[60],0),
  (64,(Ckl723,[],Ckf94),3,Ckc1,[61],0),
  (64,(Ckl724,[],Ckf95),28,Ckc1,[62],0),
  (65,(Ckl723,[Cke7],Ckf94),2,Ckc1,[],0),
  (65,(Ckl724,[Cke7],Ckf95),27,Ckc1,[],0)]
def CNC135 : List (List ND) := [CNC135_0]
theorem CKC135 : chkS prot SMsC SMC135 [] CNC135 = true := by decide +kernel
-- OneSided.isDoor [(1, 1), (-2147483648, 2147483647)]
def Ckl725 : AL := [some Cka161,some Cka34]
def Ckl726 : AL := [some Cka161,some Cka142]
def Cke299 : SE := (Cka142,(1,1,0,0,0))
def Cke300 : SE := (Cka61,pv0)
def Ckl727 : AL := [some Cka161,some Cka62]
def CNC136_0 : List ND := [(0,(Ckl725,[],[]),12,Ckc0,[1],0),
  (1,(Ckl725,[Cke156],[]),11,Ckc0,[10,2],0),
  (4,(Ckl726,[],[]),10,Ckc0,[3],0),
  (5,(Ckl726,[Cke299],[]),9,Ckc0,[4],0),
  (6,(Ckl726,[Cke288,Cke299],[]),8,Ckc0,[6,5],0),
  (9,(Ckl726,[Cke290,Cke299],[]),7,Ckc0,[7],0),
  (9,(Ckl726,[Cke291,Cke299],[]),6,Ckc0,[7],0),
  (12,(Ckl726,[Cke300,Cke299],[]),5,Ckc0,[10,8],0),
  (15,(Ckl727,[],[]),4,Ckc0,[9],0),
  (16,(Ckl727,[Cke6],[]),3,Ckc0,[12],0),
  (19,(Ckl725,[],[]),1,Ckc0,[11],0),
  (20,(Ckl725,[Cke7],[]),0,Ckc0,[],1),
  (20,(Ckl727,[Cke6],[]),2,Ckc0,[],0)]
def CNC136 : List (List ND) := [CNC136_0]
theorem CKC136 : chkS prot SMsC SMC136 [(1,1)] CNC136 = true := by decide +kernel
-- OneSided.door [(1, 1), (-2147483648, 2147483647), (-2147483648, 2147483647)]
def Ckl728 : AL := [some Cka161,some Cka34,some Cka34,none]
def Ckl729 : AL := [some Cka161,some Cka62,some Cka34,none]
def Ckl730 : AL := [some Cka161,some Cka62,some Cka34,some Cka65]
def Ckl731 : AL := [some Cka161,some Cka62,some Cka34,some Cka123]
def Ckl732 : AL := [some Cka161,some Cka62,some Cka7,some Cka65]
def Ckl733 : AL := [some Cka161,some Cka62,some Cka7,some Cka123]
def Cke301 : SE := (Cka65,(1,3,0,0,0))
def Cke302 : SE := (Cka123,(1,3,0,0,0))
def Ckl734 : AL := [some Cka161,some Cka62,some Cka6,some Cka65]
def Ckl735 : AL := [some Cka161,some Cka62,some Cka6,some Cka123]
def Ckl736 : AL := [some Cka161,some Cka62,some Cka18,some Cka65]
def Ckl737 : AL := [some Cka161,some Cka62,some Cka18,some Cka123]
def Ckl738 : AL := [some Cka161,some Cka62,some Cka32,some Cka65]
def Ckl739 : AL := [some Cka161,some Cka62,some Cka32,some Cka123]
def Ckl740 : AL := [some Cka161,some Cka62,some Cka31,some Cka65]
def Ckl741 : AL := [some Cka161,some Cka62,some Cka31,some Cka123]
def Ckl742 : AL := [some Cka161,some Cka62,some Cka95,some Cka65]
def Ckl743 : AL := [some Cka161,some Cka62,some Cka95,some Cka123]
def Ckl744 : AL := [some Cka161,some Cka62,some Cka97,some Cka65]
def Ckl745 : AL := [some Cka161,some Cka62,some Cka97,some Cka123]
def Cka162 : AV := (0,7,7,0)
def Ckl746 : AL := [some Cka161,some Cka62,some Cka162,some Cka65]
def Ckl747 : AL := [some Cka161,some Cka62,some Cka162,some Cka123]
def Ckl748 : AL := [some Cka161,some Cka62,some Cka17,some Cka65]
def Ckl749 : AL := [some Cka161,some Cka62,some Cka17,some Cka123]
def Cke303 : SE := (Cka34,(2,60,1,0,0))
def Ckl750 : AL := [some Cka161,some Cka62,some Cka93,some Cka65]
def Ckl751 : AL := [some Cka161,some Cka62,some Cka93,some Cka123]
def CNC137_0 : List ND := [(0,(Ckl728,[],[]),104,Ckc7,[1],0),
  (1,(Ckl728,[Cke288],[]),103,Ckc7,[2],0),
  (2,(Ckl728,[Cke156,Cke288],[]),102,Ckc7,[4,3],136),
  (5,(Ckl728,[Cke7],[]),101,Ckc7,[5],0),
  (5,(Ckl729,[Cke6],[]),98,Ckc7,[7],0),
  (8,(Ckl728,[],[]),100,Ckc7,[6],0),
  (9,(Ckl728,[Cke51],[]),99,Ckc7,[],0),
  (10,(Ckl729,[],[]),97,Ckc7,[8],0),
  (11,(Ckl729,[Cke288],[]),96,Ckc7,[10,9],0),
  (14,(Ckl729,[Cke290],[]),47,Ckc7,[11],0),
  (14,(Ckl729,[Cke291],[]),95,Ckc7,[12],0),
  (17,(Ckl729,[Cke195],[]),46,Ckc7,[13],0),
  (17,(Ckl729,[Cke77],[]),94,Ckc7,[14],0),
  (18,(Ckl729,[Cke237,Cke195],[]),45,Ckc7,[16],0),
  (18,(Ckl729,[Cke237,Cke77],[]),93,Ckc7,[15],0),
  (19,(Ckl729,[Cke79],[]),92,Ckc7,[17],0),
  (19,(Ckl729,[Cke196],[]),44,Ckc7,[18],0),
  (20,(Ckl730,[],[]),91,Ckc7,[19],0),
  (20,(Ckl731,[],[]),43,Ckc7,[20],0),
  (21,(Ckl730,[Cke209],[]),90,Ckc7,[101,21,27,33,39,45,51,57,63,69,87],0),
  (21,(Ckl731,[Cke209],[]),42,Ckc7,[102,22,28,34,40,46,52,58,64,70,88],0),
  (76,(Ckl732,[],[]),73,Ckc7,[23],0),
  (76,(Ckl733,[],[]),4,Ckc7,[24],0),
  (77,(Ckl732,[Cke301],[]),72,Ckc7,[25],0),
  (77,(Ckl733,[Cke302],[]),3,Ckc7,[26],0),
  (80,(Ckl732,[Cke141],[]),71,Ckc7,[],0),
  (80,(Ckl733,[Cke141],[]),2,Ckc7,[],0),
  (81,(Ckl734,[],[]),56,Ckc7,[29],0),
  (81,(Ckl735,[],[]),20,Ckc7,[30],0),
  (82,(Ckl734,[Cke301],[]),55,Ckc7,[31],0),
  (82,(Ckl735,[Cke302],[]),19,Ckc7,[32],0),
  (85,(Ckl734,[Cke97],[]),54,Ckc7,[],0),
  (85,(Ckl735,[Cke97],[]),18,Ckc7,[],0),
  (86,(Ckl736,[],[]),65,Ckc7,[35],0),
  (86,(Ckl737,[],[]),29,Ckc7,[36],0),
  (87,(Ckl736,[Cke301],[]),64,Ckc7,[37],0),
  (87,(Ckl737,[Cke302],[]),28,Ckc7,[38],0),
  (90,(Ckl736,[Cke97],[]),63,Ckc7,[],0),
  (90,(Ckl737,[Cke97],[]),27,Ckc7,[],0),
  (91,(Ckl738,[],[]),50,Ckc7,[41],0),
  (91,(Ckl739,[],[]),7,Ckc7,[42],0),
  (92,(Ckl738,[Cke301],[]),49,Ckc7,[43],0),
  (92,(Ckl739,[Cke302],[]),6,Ckc7,[44],0),
  (95,(Ckl738,[Cke113],[]),48,Ckc7,[],0),
  (95,(Ckl739,[Cke113],[]),5,Ckc7,[],0),
  (96,(Ckl740,[],[]),59,Ckc7,[47],0),
  (96,(Ckl741,[],[]),23,Ckc7,[48],0),
  (97,(Ckl740,[Cke301],[]),58,Ckc7,[49],0),
  (97,(Ckl741,[Cke302],[]),22,Ckc7,[50],0),
  (100,(Ckl740,[Cke234],[]),57,Ckc7,[],0),
  (100,(Ckl741,[Cke234],[]),21,Ckc7,[],0),
  (101,(Ckl742,[],[]),68,Ckc7,[53],0),
  (101,(Ckl743,[],[]),32,Ckc7,[54],0),
  (102,(Ckl742,[Cke301],[]),67,Ckc7,[55],0),
  (102,(Ckl743,[Cke302],[]),31,Ckc7,[56],0),
  (105,(Ckl742,[Cke235],[]),66,Ckc7,[],0),
  (105,(Ckl743,[Cke235],[]),30,Ckc7,[],0),
  (106,(Ckl744,[],[]),53,Ckc7,[59],0),
  (106,(Ckl745,[],[]),10,Ckc7,[60],0),
  (107,(Ckl744,[Cke301],[]),52,Ckc7,[61],0),
  (107,(Ckl745,[Cke302],[]),9,Ckc7,[62],0),
  (110,(Ckl744,[Cke97],[]),51,Ckc7,[],0),
  (110,(Ckl745,[Cke97],[]),8,Ckc7,[],0),
  (111,(Ckl746,[],[]),62,Ckc7,[65],0)]
def CNC137_1 : List ND := [(111,(Ckl747,[],[]),26,Ckc7,[66],0),
  (112,(Ckl746,[Cke301],[]),61,Ckc7,[67],0),
  (112,(Ckl747,[Cke302],[]),25,Ckc7,[68],0),
  (115,(Ckl746,[Cke97],[]),60,Ckc7,[],0),
  (115,(Ckl747,[Cke97],[]),24,Ckc7,[],0),
  (116,(Ckl748,[],[]),82,Ckc7,[71],0),
  (116,(Ckl749,[],[]),41,Ckc7,[72],0),
  (117,(Ckl748,[Cke288],[]),81,Ckc7,[73],0),
  (117,(Ckl749,[Cke288],[]),40,Ckc7,[74],0),
  (120,(Ckl748,[Cke298],[]),80,Ckc7,[75],0),
  (120,(Ckl749,[Cke298],[]),39,Ckc7,[76],0),
  (123,(Ckl748,[Cke284],[]),79,Ckc7,[77],0),
  (123,(Ckl749,[Cke284],[]),38,Ckc7,[78],0),
  (126,(Ckl748,[Cke303],[]),78,Ckc7,[79],0),
  (126,(Ckl749,[Cke303],[]),37,Ckc7,[80],0),
  (127,(Ckl748,[Cke237,Cke303],[]),77,Ckc7,[81],0),
  (127,(Ckl749,[Cke237,Cke303],[]),36,Ckc7,[82],0),
  (128,(Ckl748,[Cke184],[]),76,Ckc7,[83],0),
  (128,(Ckl749,[Cke184],[]),35,Ckc7,[84],0),
  (129,(Ckl748,[Cke6,Cke184],[]),75,Ckc7,[85],0),
  (129,(Ckl749,[Cke6,Cke184],[]),34,Ckc7,[86],0),
  (130,(Ckl748,[Cke242],[]),74,Ckc7,[],0),
  (130,(Ckl749,[Cke242],[]),33,Ckc7,[],0),
  (131,(Ckl750,[],[]),89,Ckc7,[89],0),
  (131,(Ckl751,[],[]),17,Ckc7,[90],0),
  (132,(Ckl750,[Cke288],[]),88,Ckc7,[91],0),
  (132,(Ckl751,[Cke288],[]),16,Ckc7,[92],0),
  (135,(Ckl750,[Cke298],[]),87,Ckc7,[93],0),
  (135,(Ckl751,[Cke298],[]),15,Ckc7,[94],0),
  (138,(Ckl750,[Cke284],[]),86,Ckc7,[95],0),
  (138,(Ckl751,[Cke284],[]),14,Ckc7,[96],0),
  (141,(Ckl750,[Cke272],[]),85,Ckc7,[97],0),
  (141,(Ckl751,[Cke272],[]),13,Ckc7,[98],0),
  (142,(Ckl750,[Cke237,Cke272],[]),84,Ckc7,[99],0),
  (142,(Ckl751,[Cke237,Cke272],[]),12,Ckc7,[100],0),
  (143,(Ckl750,[Cke184],[]),83,Ckc7,[],0),
  (143,(Ckl751,[Cke184],[]),11,Ckc7,[],0),
  (144,(Ckl730,[],[]),70,Ckc7,[103],0),
  (144,(Ckl731,[],[]),1,Ckc7,[104],0),
  (145,(Ckl730,[Cke51],[]),69,Ckc7,[],0),
  (145,(Ckl731,[Cke51],[]),0,Ckc7,[],0)]
def CNC137 : List (List ND) := [CNC137_0, CNC137_1]
theorem CKC137 : chkS prot SMsC SMC137 [] CNC137 = true := by decide +kernel
-- OneSided.isPerson [(1, 1), (-2147483648, 2147483647)]
def Cke304 : SE := (Cka66,pv0)
def Ckl752 : AL := [some Cka161,some Cka67]
def CNC138_0 : List ND := [(0,(Ckl725,[],[]),12,Ckc0,[1],0),
  (1,(Ckl725,[Cke156],[]),11,Ckc0,[10,2],0),
  (4,(Ckl726,[],[]),10,Ckc0,[3],0),
  (5,(Ckl726,[Cke299],[]),9,Ckc0,[4],0),
  (6,(Ckl726,[Cke288,Cke299],[]),8,Ckc0,[6,5],0),
  (9,(Ckl726,[Cke290,Cke299],[]),7,Ckc0,[7],0),
  (9,(Ckl726,[Cke291,Cke299],[]),6,Ckc0,[7],0),
  (12,(Ckl726,[Cke304,Cke299],[]),5,Ckc0,[10,8],0),
  (15,(Ckl752,[],[]),4,Ckc0,[9],0),
  (16,(Ckl752,[Cke6],[]),3,Ckc0,[12],0),
  (19,(Ckl725,[],[]),1,Ckc0,[11],0),
  (20,(Ckl725,[Cke7],[]),0,Ckc0,[],1),
  (20,(Ckl752,[Cke6],[]),2,Ckc0,[],0)]
def CNC138 : List (List ND) := [CNC138_0]
theorem CKC138 : chkS prot SMsC SMC138 [(1,1)] CNC138 = true := by decide +kernel
-- OneSided.person [(1, 1), (-2147483648, 2147483647), (-2147483648, 2147483647)]
def Ckl753 : AL := [some Cka161,some Cka67,some Cka34,none]
def Cke305 : SE := (Cka67,(1,1,0,0,0))
def Ckl754 : AL := [some Cka161,some Cka67,some Cka34,some Cka70]
def Ckl755 : AL := [some Cka161,some Cka67,some Cka34,some Cka125]
def Ckl756 : AL := [some Cka161,some Cka67,some Cka7,some Cka70]
def Ckl757 : AL := [some Cka161,some Cka67,some Cka7,some Cka125]
def Ckl758 : AL := [some Cka161,some Cka67,some Cka6,some Cka70]
def Ckl759 : AL := [some Cka161,some Cka67,some Cka6,some Cka125]
def Ckl760 : AL := [some Cka161,some Cka67,some Cka18,some Cka70]
def Ckl761 : AL := [some Cka161,some Cka67,some Cka18,some Cka125]
def Ckl762 : AL := [some Cka161,some Cka67,some Cka32,some Cka70]
def Ckl763 : AL := [some Cka161,some Cka67,some Cka32,some Cka125]
def Ckl764 : AL := [some Cka161,some Cka67,some Cka31,some Cka70]
def Ckl765 : AL := [some Cka161,some Cka67,some Cka31,some Cka125]
def Ckl766 : AL := [some Cka161,some Cka67,some Cka95,some Cka70]
def Ckl767 : AL := [some Cka161,some Cka67,some Cka95,some Cka125]
def Cke306 : SE := (Cka34,(2,60,3,0,0))
def Ckl768 : AL := [some Cka161,some Cka67,some Cka97,some Cka70]
def Ckl769 : AL := [some Cka161,some Cka67,some Cka97,some Cka125]
def Cke307 : SE := (Cka34,(2,60,2,0,0))
def CNC139_0 : List ND := [(0,(Ckl728,[],[]),98,Ckc7,[1],0),
  (1,(Ckl728,[Cke288],[]),97,Ckc7,[2],0),
  (2,(Ckl728,[Cke156,Cke288],[]),96,Ckc7,[4,3],138),
  (5,(Ckl728,[Cke7],[]),95,Ckc7,[5],0),
  (5,(Ckl753,[Cke6],[]),92,Ckc7,[7],0),
  (8,(Ckl728,[],[]),94,Ckc7,[6],0),
  (9,(Ckl728,[Cke51],[]),93,Ckc7,[],0),
  (10,(Ckl753,[],[]),91,Ckc7,[8],0),
  (11,(Ckl753,[Cke288],[]),90,Ckc7,[10,9],0),
  (14,(Ckl753,[Cke290],[]),44,Ckc7,[11],0),
  (14,(Ckl753,[Cke291],[]),89,Ckc7,[12],0),
  (17,(Ckl753,[Cke198],[]),43,Ckc7,[13],0),
  (17,(Ckl753,[Cke83],[]),88,Ckc7,[14],0),
  (18,(Ckl753,[Cke305,Cke198],[]),42,Ckc7,[16],0),
  (18,(Ckl753,[Cke305,Cke83],[]),87,Ckc7,[15],0),
  (19,(Ckl753,[Cke85],[]),86,Ckc7,[17],0),
  (19,(Ckl753,[Cke199],[]),41,Ckc7,[18],0),
  (20,(Ckl754,[],[]),85,Ckc7,[19],0),
  (20,(Ckl755,[],[]),40,Ckc7,[20],0),
  (21,(Ckl754,[Cke209],[]),84,Ckc7,[95,21,27,33,39,45,59,77],0),
  (21,(Ckl755,[Cke209],[]),39,Ckc7,[96,22,28,34,40,46,60,78],0),
  (64,(Ckl756,[],[]),83,Ckc7,[23],0),
  (64,(Ckl757,[],[]),2,Ckc7,[24],0),
  (65,(Ckl756,[Cke279],[]),82,Ckc7,[25],0),
  (65,(Ckl757,[Cke287],[]),1,Ckc7,[26],0),
  (68,(Ckl756,[Cke141],[]),81,Ckc7,[],0),
  (68,(Ckl757,[Cke141],[]),0,Ckc7,[],0),
  (69,(Ckl758,[],[]),59,Ckc7,[29],0),
  (69,(Ckl759,[],[]),8,Ckc7,[30],0),
  (70,(Ckl758,[Cke279],[]),58,Ckc7,[31],0),
  (70,(Ckl759,[Cke287],[]),7,Ckc7,[32],0),
  (73,(Ckl758,[Cke97],[]),57,Ckc7,[],0),
  (73,(Ckl759,[Cke97],[]),6,Ckc7,[],0),
  (74,(Ckl760,[],[]),80,Ckc7,[35],0),
  (74,(Ckl761,[],[]),38,Ckc7,[36],0),
  (75,(Ckl760,[Cke279],[]),79,Ckc7,[37],0),
  (75,(Ckl761,[Cke287],[]),37,Ckc7,[38],0),
  (78,(Ckl760,[Cke97],[]),78,Ckc7,[],0),
  (78,(Ckl761,[Cke97],[]),36,Ckc7,[],0),
  (79,(Ckl762,[],[]),47,Ckc7,[41],0),
  (79,(Ckl763,[],[]),5,Ckc7,[42],0),
  (80,(Ckl762,[Cke279],[]),46,Ckc7,[43],0),
  (80,(Ckl763,[Cke287],[]),4,Ckc7,[44],0),
  (83,(Ckl762,[Cke234],[]),45,Ckc7,[],0),
  (83,(Ckl763,[Cke234],[]),3,Ckc7,[],0),
  (84,(Ckl764,[],[]),66,Ckc7,[47],0),
  (84,(Ckl765,[],[]),35,Ckc7,[48],0),
  (85,(Ckl764,[Cke288],[]),65,Ckc7,[49],0),
  (85,(Ckl765,[Cke288],[]),34,Ckc7,[50],0),
  (88,(Ckl764,[Cke298],[]),64,Ckc7,[51],0),
  (88,(Ckl765,[Cke298],[]),33,Ckc7,[52],0),
  (91,(Ckl764,[Cke284],[]),63,Ckc7,[53],0),
  (91,(Ckl765,[Cke284],[]),32,Ckc7,[54],0),
  (94,(Ckl764,[Cke277],[]),62,Ckc7,[55],0),
  (94,(Ckl765,[Cke277],[]),31,Ckc7,[56],0),
  (95,(Ckl764,[Cke305,Cke277],[]),61,Ckc7,[57],0),
  (95,(Ckl765,[Cke305,Cke277],[]),30,Ckc7,[58],0),
  (96,(Ckl764,[Cke97],[]),60,Ckc7,[],0),
  (96,(Ckl765,[Cke97],[]),29,Ckc7,[],0),
  (97,(Ckl766,[],[]),56,Ckc7,[61],0),
  (97,(Ckl767,[],[]),17,Ckc7,[62],0),
  (98,(Ckl766,[Cke288],[]),55,Ckc7,[63],0),
  (98,(Ckl767,[Cke288],[]),16,Ckc7,[64],0),
  (101,(Ckl766,[Cke298],[]),54,Ckc7,[65],0)]
def CNC139_1 : List ND := [(101,(Ckl767,[Cke298],[]),15,Ckc7,[66],0),
  (104,(Ckl766,[Cke284],[]),53,Ckc7,[67],0),
  (104,(Ckl767,[Cke284],[]),14,Ckc7,[68],0),
  (107,(Ckl766,[Cke306],[]),52,Ckc7,[69],0),
  (107,(Ckl767,[Cke306],[]),13,Ckc7,[70],0),
  (108,(Ckl766,[Cke305,Cke306],[]),51,Ckc7,[71],0),
  (108,(Ckl767,[Cke305,Cke306],[]),12,Ckc7,[72],0),
  (109,(Ckl766,[Cke184],[]),50,Ckc7,[73],0),
  (109,(Ckl767,[Cke184],[]),11,Ckc7,[74],0),
  (110,(Ckl766,[Cke6,Cke184],[]),49,Ckc7,[75],0),
  (110,(Ckl767,[Cke6,Cke184],[]),10,Ckc7,[76],0),
  (111,(Ckl766,[Cke242],[]),48,Ckc7,[],0),
  (111,(Ckl767,[Cke242],[]),9,Ckc7,[],0),
  (112,(Ckl768,[],[]),75,Ckc7,[79],0),
  (112,(Ckl769,[],[]),26,Ckc7,[80],0),
  (113,(Ckl768,[Cke288],[]),74,Ckc7,[81],0),
  (113,(Ckl769,[Cke288],[]),25,Ckc7,[82],0),
  (116,(Ckl768,[Cke298],[]),73,Ckc7,[83],0),
  (116,(Ckl769,[Cke298],[]),24,Ckc7,[84],0),
  (119,(Ckl768,[Cke284],[]),72,Ckc7,[85],0),
  (119,(Ckl769,[Cke284],[]),23,Ckc7,[86],0),
  (122,(Ckl768,[Cke307],[]),71,Ckc7,[87],0),
  (122,(Ckl769,[Cke307],[]),22,Ckc7,[88],0),
  (123,(Ckl768,[Cke305,Cke307],[]),70,Ckc7,[89],0),
  (123,(Ckl769,[Cke305,Cke307],[]),21,Ckc7,[90],0),
  (124,(Ckl768,[Cke184],[]),69,Ckc7,[91],0),
  (124,(Ckl769,[Cke184],[]),20,Ckc7,[92],0),
  (125,(Ckl768,[Cke6,Cke184],[]),68,Ckc7,[93],0),
  (125,(Ckl769,[Cke6,Cke184],[]),19,Ckc7,[94],0),
  (126,(Ckl768,[Cke242],[]),67,Ckc7,[],0),
  (126,(Ckl769,[Cke242],[]),18,Ckc7,[],0),
  (127,(Ckl754,[],[]),77,Ckc7,[97],0),
  (127,(Ckl755,[],[]),28,Ckc7,[98],0),
  (128,(Ckl754,[Cke51],[]),76,Ckc7,[],0),
  (128,(Ckl755,[Cke51],[]),27,Ckc7,[],0)]
def CNC139 : List (List ND) := [CNC139_0, CNC139_1]
theorem CKC139 : chkS prot SMsC SMC139 [] CNC139 = true := by decide +kernel
-- OneSided.isRoom [(1, 1), (-2147483648, 2147483647)]
def Ckl770 : AL := [some Cka161,some Cka77]
def CNC140_0 : List ND := [(0,(Ckl725,[],[]),12,Ckc0,[1],0),
  (1,(Ckl725,[Cke156],[]),11,Ckc0,[10,2],0),
  (4,(Ckl726,[],[]),10,Ckc0,[3],0),
  (5,(Ckl726,[Cke299],[]),9,Ckc0,[4],0),
  (6,(Ckl726,[Cke288,Cke299],[]),8,Ckc0,[6,5],0),
  (9,(Ckl726,[Cke290,Cke299],[]),7,Ckc0,[7],0),
  (9,(Ckl726,[Cke291,Cke299],[]),6,Ckc0,[7],0),
  (12,(Ckl726,[Cke68,Cke299],[]),5,Ckc0,[10,8],0),
  (15,(Ckl770,[],[]),4,Ckc0,[9],0),
  (16,(Ckl770,[Cke6],[]),3,Ckc0,[12],0),
  (19,(Ckl725,[],[]),1,Ckc0,[11],0),
  (20,(Ckl725,[Cke7],[]),0,Ckc0,[],1),
  (20,(Ckl770,[Cke6],[]),2,Ckc0,[],0)]
def CNC140 : List (List ND) := [CNC140_0]
theorem CKC140 : chkS prot SMsC SMC140 [(1,1)] CNC140 = true := by decide +kernel
-- OneSided.isSortInHour [(1, 1), (-2147483648, 2147483647), (-2147483648, 2147483647)]
def Ckl771 : AL := [some Cka161,some Cka34,some Cka34]
def Ckl772 : AL := [some Cka161,some Cka142,some Cka34]
def Ckl773 : AL := [some Cka161,some Cka80,some Cka34]
def Ckl774 : AL := [some Cka161,some Cka80,some Cka142]
def Cke308 : SE := (Cka142,(1,2,0,0,0))
def Ckl775 : AL := [some Cka161,some Cka80,some Cka84]
def CNC141_0 : List ND := [(0,(Ckl771,[],[]),14,Ckc1,[1],0),
  (1,(Ckl771,[Cke156],[]),13,Ckc1,[12,2],0),
  (4,(Ckl772,[],[]),12,Ckc1,[3],0),
  (5,(Ckl772,[Cke299],[]),11,Ckc1,[4],0),
  (6,(Ckl772,[Cke35,Cke299],[]),10,Ckc1,[12,5],0),
  (9,(Ckl773,[],[]),9,Ckc1,[6],0),
  (10,(Ckl773,[Cke209],[]),8,Ckc1,[12,7],0),
  (13,(Ckl774,[],[]),7,Ckc1,[8],0),
  (14,(Ckl774,[Cke308],[]),6,Ckc1,[9],0),
  (16,(Ckl774,[Cke144,Cke308],[]),5,Ckc1,[12,10],0),
  (19,(Ckl775,[],[]),4,Ckc1,[11],0),
  (20,(Ckl775,[Cke6],[]),3,Ckc1,[14],0),
  (23,(Ckl771,[],[]),1,Ckc1,[13],0),
  (24,(Ckl771,[Cke7],[]),0,Ckc1,[],1),
  (24,(Ckl775,[Cke6],[]),2,Ckc1,[],0)]
def CNC141 : List (List ND) := [CNC141_0]
theorem CKC141 : chkS prot SMsC SMC141 [(1,1),(2,2)] CNC141 = true := by decide +kernel
-- OneSided$Quarter.aheadIn [(5, 5), (0, 3), (0, 25), (-2147483648, 2147483647)]
def Cka163 : AV := (0,0,25,1)
def Ckl776 : AL := [some Cka50,some Cka80,some Cka163,some Cka34]
def Cke309 : SE := (Cka163,(1,2,0,0,0))
def Ckl777 : AL := [some Cka50,some Cka80,some Cka84,some Cka34]
def Cka164 : AV := (0,24,25,1)
def Ckl778 : AL := [some Cka50,some Cka80,some Cka164,some Cka34]
def CNC142_0 : List ND := [(0,(Ckl776,[],[]),18,Ckc7,[1],0),
  (1,(Ckl776,[Cke309],[]),17,Ckc7,[2],0),
  (3,(Ckl776,[Cke144,Cke309],[]),16,Ckc7,[16,3],0),
  (6,(Ckl777,[],[]),15,Ckc7,[4],0),
  (7,(Ckl777,[Cke53],[]),14,Ckc7,[5],0),
  (10,(Ckl777,[Cke254],[]),13,Ckc7,[6],0),
  (11,(Ckl777,[Cke248,Cke254],[]),12,Ckc7,[7],0),
  (13,(Ckl777,[Cke144,Cke248,Cke254],[]),11,Ckc7,[8],0),
  (14,(Ckl777,[Cke255,Cke254],[]),10,Ckc7,[9],0),
  (15,(Ckl777,[Cke249,Cke255,Cke254],[]),9,Ckc7,[10],0),
  (16,(Ckl777,[Cke256,Cke254],[]),8,Ckc7,[11],0),
  (17,(Ckl777,[Cke184],[]),7,Ckc7,[12],0),
  (18,(Ckl777,[Cke210,Cke184],[]),6,Ckc7,[13],0),
  (19,(Ckl777,[Cke51,Cke210,Cke184],[]),5,Ckc7,[14],0),
  (20,(Ckl777,[Cke184,Cke184],[]),4,Ckc7,[15],0),
  (21,(Ckl777,[Cke184],[]),3,Ckc7,[18],0),
  (24,(Ckl778,[],[]),1,Ckc7,[17],0),
  (25,(Ckl778,[Cke7],[]),0,Ckc7,[],0),
  (25,(Ckl777,[Cke184],[]),2,Ckc7,[],0)]
def CNC142 : List (List ND) := [CNC142_0]
theorem CKC142 : chkS prot SMsC SMC142 [] CNC142 = true := by decide +kernel
-- OneSided$Quarter.backIn [(5, 5), (0, 3), (0, 25), (-2147483648, 2147483647)]
def CNC143_0 : List ND := [(0,(Ckl776,[],[]),18,Ckc7,[1],0),
  (1,(Ckl776,[Cke309],[]),17,Ckc7,[2],0),
  (3,(Ckl776,[Cke144,Cke309],[]),16,Ckc7,[16,3],0),
  (6,(Ckl777,[],[]),15,Ckc7,[4],0),
  (7,(Ckl777,[Cke53],[]),14,Ckc7,[5],0),
  (10,(Ckl777,[Cke257],[]),13,Ckc7,[6],0),
  (11,(Ckl777,[Cke248,Cke257],[]),12,Ckc7,[7],0),
  (13,(Ckl777,[Cke144,Cke248,Cke257],[]),11,Ckc7,[8],0),
  (14,(Ckl777,[Cke255,Cke257],[]),10,Ckc7,[9],0),
  (15,(Ckl777,[Cke249,Cke255,Cke257],[]),9,Ckc7,[10],0),
  (16,(Ckl777,[Cke256,Cke257],[]),8,Ckc7,[11],0),
  (17,(Ckl777,[Cke184],[]),7,Ckc7,[12],0),
  (18,(Ckl777,[Cke210,Cke184],[]),6,Ckc7,[13],0),
  (19,(Ckl777,[Cke51,Cke210,Cke184],[]),5,Ckc7,[14],0),
  (20,(Ckl777,[Cke184,Cke184],[]),4,Ckc7,[15],0),
  (21,(Ckl777,[Cke184],[]),3,Ckc7,[18],0),
  (24,(Ckl778,[],[]),1,Ckc7,[17],0),
  (25,(Ckl778,[Cke7],[]),0,Ckc7,[],0),
  (25,(Ckl777,[Cke184],[]),2,Ckc7,[],0)]
def CNC143 : List (List ND) := [CNC143_0]
theorem CKC143 : chkS prot SMsC SMC143 [] CNC143 = true := by decide +kernel
-- OneSided$Quarter.into [(5, 5), (0, 13), (0, 3), (0, 9), (0, 25), (-2147483648, 2147483647)]
def Ckl779 : AL := [some Cka50,some Cka62,some Cka80,some Cka77,some Cka163,some Cka34,none]
def Ckl780 : AL := [some Cka50,some Cka62,some Cka80,some Cka77,some Cka163,some Cka34,some Cka65]
def Cke310 : SE := (Cka163,(1,4,0,0,0))
def Cke311 : SE := (Cka34,(1,5,0,0,0))
def CNC144_0 : List ND := [(0,(Ckl779,[],[]),40,Ckc16,[1],0),
  (1,(Ckl779,[Cke53],[]),39,Ckc16,[2],0),
  (4,(Ckl779,[Cke77],[]),38,Ckc16,[3],0),
  (5,(Ckl779,[Cke237,Cke77],[]),37,Ckc16,[4],0),
  (6,(Ckl779,[Cke79],[]),36,Ckc16,[5],0),
  (8,(Ckl780,[],[]),35,Ckc16,[6],0),
  (10,(Ckl780,[Cke238],[]),34,Ckc16,[7],0),
  (13,(Ckl780,[Cke97],[]),33,Ckc16,[8],0),
  (14,(Ckl780,[Cke98,Cke97],[]),32,Ckc16,[22,9],0),
  (17,(Ckl780,[],[]),31,Ckc16,[10],0),
  (18,(Ckl780,[Cke53],[]),30,Ckc16,[11],0),
  (19,(Ckl780,[Cke108,Cke53],[]),29,Ckc16,[12],0),
  (21,(Ckl780,[Cke310,Cke108,Cke53],[]),28,Ckc16,[13],0),
  (23,(Ckl780,[Cke311,Cke310,Cke108,Cke53],[]),27,Ckc16,[14],142),
  (26,(Ckl780,[Cke184],[]),26,Ckc16,[15],0),
  (27,(Ckl780,[Cke237,Cke184],[]),25,Ckc16,[16],0),
  (28,(Ckl780,[Cke184],[]),24,Ckc16,[17],0),
  (29,(Ckl780,[Cke6,Cke184],[]),23,Ckc16,[18],0),
  (30,(Ckl780,[Cke242],[]),22,Ckc16,[22,19],0),
  (33,(Ckl780,[],[]),2,Ckc16,[20],0),
  (35,(Ckl780,[Cke238],[]),1,Ckc16,[21],0),
  (38,(Ckl780,[Cke97],[]),0,Ckc16,[],0),
  (39,(Ckl780,[],[]),21,Ckc16,[23],0),
  (41,(Ckl780,[Cke238],[]),20,Ckc16,[24],0),
  (44,(Ckl780,[Cke97],[]),19,Ckc16,[25],0),
  (45,(Ckl780,[Cke98,Cke97],[]),18,Ckc16,[39,26],0),
  (48,(Ckl780,[],[]),17,Ckc16,[27],0),
  (49,(Ckl780,[Cke53],[]),16,Ckc16,[28],0),
  (50,(Ckl780,[Cke108,Cke53],[]),15,Ckc16,[29],0),
  (52,(Ckl780,[Cke310,Cke108,Cke53],[]),14,Ckc16,[30],0),
  (54,(Ckl780,[Cke311,Cke310,Cke108,Cke53],[]),13,Ckc16,[31],143),
  (57,(Ckl780,[Cke184],[]),12,Ckc16,[32],0),
  (58,(Ckl780,[Cke237,Cke184],[]),11,Ckc16,[33],0),
  (59,(Ckl780,[Cke184],[]),10,Ckc16,[34],0),
  (60,(Ckl780,[Cke6,Cke184],[]),9,Ckc16,[35],0),
  (61,(Ckl780,[Cke242],[]),8,Ckc16,[39,36],0),
  (64,(Ckl780,[],[]),5,Ckc16,[37],0),
  (66,(Ckl780,[Cke238],[]),4,Ckc16,[38],0),
  (69,(Ckl780,[Cke97],[]),3,Ckc16,[],0),
  (70,(Ckl780,[],[]),7,Ckc16,[40],0),
  (71,(Ckl780,[Cke51],[]),6,Ckc16,[],0)]
def CNC144 : List (List ND) := [CNC144_0]
theorem CKC144 : chkS prot SMsC SMC144 [] CNC144 = true := by decide +kernel
