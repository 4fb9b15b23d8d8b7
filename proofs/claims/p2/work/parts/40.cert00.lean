/-! LM, by program: certificates 0 -/
-- OneSided$Quarter.fact
def ka0 : AV := (0,-2147483648,2147483647,1)
def kl0 : AL := [some ka0,some ka0,some ka0,some ka0,some ka0]
def kc0 : List Int := [0,0,0,0,0]
def ke0 : SE := (ka0,(1,0,0,0,0))
def ka1 : AV := (0,0,0,0)
def kl1 : AL := [some ka1,some ka0,some ka0,some ka0,some ka0]
def ke1 : SE := (ka0,(1,1,0,0,0))
def ka2 : AV := (0,1,1,0)
def kl2 : AL := [some ka2,some ka0,some ka0,some ka0,some ka0]
def ke2 : SE := (ka0,(1,2,0,0,0))
def ka3 : AV := (0,2,2,0)
def kl3 : AL := [some ka3,some ka0,some ka0,some ka0,some ka0]
def ke3 : SE := (ka0,(1,3,0,0,0))
def ke4 : SE := (ka0,(1,4,0,0,0))
def CN120_0 : List ND := [(0,(kl0,[],[]),9,kc0,[1],0),
  (1,(kl0,[ke0],[]),8,kc0,[8,2,4,6],0),
  (28,(kl1,[],[]),1,kc0,[3],0),
  (29,(kl1,[ke1],[]),0,kc0,[],0),
  (30,(kl2,[],[]),5,kc0,[5],0),
  (31,(kl2,[ke2],[]),4,kc0,[],0),
  (32,(kl3,[],[]),7,kc0,[7],0),
  (33,(kl3,[ke3],[]),6,kc0,[],0),
  (34,(kl0,[],[]),3,kc0,[9],0),
  (36,(kl0,[ke4],[]),2,kc0,[],0)]
def CN120 : List (List ND) := [CN120_0]
theorem CK120 : chkS prot SMs SM120 [] CN120 = true := by decide +kernel
-- OneSided$Quarter.join
def kl4 : AL := [some ka0,some ka0,some ka0]
def kc1 : List Int := [0,0,0]
def ka4 : AV := (0,10005,10005,0)
def kl5 : AL := [some ka4,some ka0,some ka0]
def ke5 : SE := (ka2,pv0)
def ke6 : SE := (ka1,pv0)
def ka5 : AV := (0,10006,10006,0)
def kl6 : AL := [some ka5,some ka0,some ka0]
def kl7 : AL := [some ka5,some ka1,some ka0]
def kl8 : AL := [some ka5,some ka1,some ka1]
def ka6 : AV := (0,10007,10007,0)
def kl9 : AL := [some ka6,some ka0,some ka0]
def ka7 : AV := (0,-2147483648,2147483646,1)
def ka8 : AV := (0,-2147483647,2147483647,1)
def kl10 : AL := [some ka6,some ka7,some ka8]
def ka9 : AV := (0,10008,10008,0)
def kl11 : AL := [some ka9,some ka0,some ka0]
def ka10 : AV := (0,10009,10009,0)
def kl12 : AL := [some ka10,some ka0,some ka0]
def ke7 : SE := (ka0,pv0)
def ka11 : AV := (0,10010,10010,0)
def kl13 : AL := [some ka11,some ka0,some ka0]
def CN121_0 : List ND := [(0,(kl4,[],[]),47,kc1,[1],0),
  (1,(kl4,[ke0],[]),46,kc1,[44,2,11,20,28,36,40],0),
  (40,(kl5,[],[]),24,kc1,[3],0),
  (41,(kl5,[ke1],[]),23,kc1,[8,4],0),
  (44,(kl5,[],[]),22,kc1,[5],0),
  (45,(kl5,[ke2],[]),21,kc1,[8,6],0),
  (48,(kl5,[],[]),18,kc1,[7],0),
  (49,(kl5,[ke5],[]),17,kc1,[10],0),
  (52,(kl5,[],[]),20,kc1,[9],0),
  (53,(kl5,[ke6],[]),19,kc1,[],0),
  (53,(kl5,[ke5],[]),16,kc1,[],0),
  (54,(kl6,[],[]),33,kc1,[12],0),
  (55,(kl6,[ke1],[]),32,kc1,[15,13],0),
  (58,(kl7,[],[]),31,kc1,[14],0),
  (59,(kl7,[ke2],[]),30,kc1,[17,15],0),
  (62,(kl6,[],[]),27,kc1,[16],0),
  (63,(kl6,[ke5],[]),26,kc1,[19],0),
  (66,(kl8,[],[]),29,kc1,[18],0),
  (67,(kl8,[ke6],[]),28,kc1,[],0),
  (67,(kl6,[ke5],[]),25,kc1,[],0),
  (68,(kl9,[],[]),41,kc1,[21],0),
  (69,(kl9,[ke1],[]),40,kc1,[22],0),
  (70,(kl9,[ke2,ke1],[]),39,kc1,[25,23],0),
  (73,(kl10,[],[]),36,kc1,[24],0),
  (74,(kl10,[ke5],[]),35,kc1,[27],0),
  (77,(kl9,[],[]),38,kc1,[26],0),
  (78,(kl9,[ke6],[]),37,kc1,[],0),
  (78,(kl10,[ke5],[]),34,kc1,[],0),
  (79,(kl11,[],[]),7,kc1,[29],0),
  (80,(kl11,[ke1],[]),6,kc1,[30],0),
  (81,(kl11,[ke2,ke1],[]),5,kc1,[33,31],0),
  (84,(kl11,[],[]),4,kc1,[32],0),
  (85,(kl11,[ke5],[]),3,kc1,[35],0),
  (88,(kl11,[],[]),1,kc1,[34],0),
  (89,(kl11,[ke6],[]),0,kc1,[],0),
  (89,(kl11,[ke5],[]),2,kc1,[],0),
  (90,(kl12,[],[]),15,kc1,[37],0),
  (91,(kl12,[ke1],[]),14,kc1,[38],0),
  (92,(kl12,[ke2,ke1],[]),13,kc1,[39],0),
  (93,(kl12,[ke7],[]),12,kc1,[],0),
  (94,(kl13,[],[]),11,kc1,[41],0),
  (95,(kl13,[ke1],[]),10,kc1,[42],0),
  (96,(kl13,[ke2,ke1],[]),9,kc1,[43],0),
  (97,(kl13,[ke7],[]),8,kc1,[],0),
  (98,(kl4,[],[]),45,kc1,[45],0),
  (99,(kl4,[ke1],[]),44,kc1,[46],0),
  (100,(kl4,[ke2,ke1],[]),43,kc1,[47],0),
  (101,(kl4,[ke7],[]),42,kc1,[],0)]
def CN121 : List (List ND) := [CN121_0]
theorem CK121 : chkS prot SMs SM121 [] CN121 = true := by decide +kernel
-- OneSided$Quarter.lawFor
def ka12 : AV := (2,5,5,0)
def kl14 : AL := [some ka12,some ka0,some ka0,some ka0,some ka0,none,none,none]
def kc2 : List Int := [0,0,0,0,0,0,0,0]
def kl15 : AL := [some ka12,some ka0,some ka0,some ka0,some ka0,some ka1,none,none]
def ka13 : AV := (0,0,32,1)
def ka14 : AV := (0,0,1000,1)
def kl16 : AL := [some ka12,some ka0,some ka0,some ka0,some ka0,some ka13,some ka14,none]
def kc3 : List Int := [0,0,0,0,0,0,-81,0]
def kl17 : AL := [some ka12,some ka0,some ka0,some ka0,some ka0,some ka1,some ka1,none]
def ke8 : SE := (ka1,(1,6,0,0,0))
def ke9 : SE := (ka14,(1,6,0,0,0))
def ke10 : SE := (ka12,(1,0,0,0,0))
def ke11 : SE := (ka14,(2,5,6,0,0))
def ka15 : AV := (0,0,999,1)
def kl18 : AL := [some ka12,some ka0,some ka0,some ka0,some ka0,some ka13,some ka15,none]
def ka16 : AV := (0,1,1000,1)
def kf0 : FA := [(5,6,ka16)]
def ka17 : AV := (2,8,8,0)
def ke12 : SE := (ka17,(2,5,5,0,0))
def ke13 : SE := (ka15,(1,6,0,0,0))
def kl19 : AL := [some ka12,some ka0,some ka0,some ka0,some ka0,some ka13,some ka15,some ka0]
def ke14 : SE := (ka0,(1,7,0,0,0))
def ka18 : AV := (0,10004,10004,0)
def ke15 : SE := (ka18,pv0)
def ka19 : AV := (0,10005,2147483647,1)
def kl20 : AL := [some ka12,some ka0,some ka0,some ka0,some ka0,some ka13,some ka15,some ka19]
def kl21 : AL := [some ka12,some ka0,some ka0,some ka0,some ka0,some ka1,some ka1,some ka19]
def ke16 : SE := (ka1,(1,5,0,0,0))
def ke17 : SE := (ka13,(1,5,0,0,0))
def ka20 : AV := (0,2,32,1)
def kl22 : AL := [some ka12,some ka0,some ka0,some ka0,some ka0,some ka20,some ka15,some ka19]
def ka21 : AV := (0,1,31,1)
def kl23 : AL := [some ka12,some ka0,some ka0,some ka0,some ka0,some ka21,some ka15,some ka19]
def ka22 : AV := (2,9,9,0)
def ke18 : SE := (ka22,(2,5,7,0,0))
def ka23 : AV := (0,0,2,1)
def kl24 : AL := [some ka12,some ka0,some ka0,some ka0,some ka0,some ka2,some ka23,some ka19]
def ke19 : SE := (ka2,(1,5,0,0,0))
def ke20 : SE := (ka21,(1,5,0,0,0))
def ka24 : AV := (0,0,30,1)
def ke21 : SE := (ka24,pv0)
def ke22 : SE := (ka19,(1,7,0,0,0))
def ke23 : SE := (ka0,(2,9,0,0,0))
def ke24 : SE := (ka0,(2,9,1,0,0))
def ka25 : AV := (0,-2147483648,10004,1)
def kl25 : AL := [some ka12,some ka0,some ka0,some ka0,some ka0,some ka13,some ka15,some ka25]
def ke25 : SE := (ka25,(1,7,0,0,0))
def kl26 : AL := [some ka12,some ka0,some ka0,some ka0,some ka0,some ka13,some ka15,some ka18]
def kl27 : AL := [some ka12,some ka0,some ka0,some ka0,some ka0,some ka1,some ka1,some ka18]
def ka26 : AV := (0,1,32,1)
def kl28 : AL := [some ka12,some ka0,some ka0,some ka0,some ka0,some ka26,some ka15,some ka18]
def ka27 : AV := (0,0,1,1)
def kl29 : AL := [some ka12,some ka0,some ka0,some ka0,some ka0,some ka2,some ka27,some ka18]
def ke26 : SE := (ka26,(1,5,0,0,0))
def ka28 : AV := (0,0,31,1)
def ke27 : SE := (ka28,pv0)
def kf1 : FA := [(5,6,ka16),(9,0,ka1)]
def kf2 : FA := [(5,6,ka16),(9,0,ka0)]
def ka29 : AV := (0,-2147483648,10003,1)
def kl30 : AL := [some ka12,some ka0,some ka0,some ka0,some ka0,some ka13,some ka15,some ka29]
def kl31 : AL := [some ka12,some ka0,some ka0,some ka0,some ka0,some ka1,some ka1,some ka29]
def ka30 : AV := (0,32,32,0)
def ke28 : SE := (ka30,pv0)
def kl32 : AL := [some ka12,some ka0,some ka0,some ka0,some ka0,some ka28,some ka15,some ka29]
def ke29 : SE := (ka28,(1,5,0,0,0))
def ke30 : SE := (ka29,(1,7,0,0,0))
def ka31 : AV := (0,10000,10000,0)
def ke31 : SE := (ka31,pv0)
def ka32 : AV := (0,-2147483648,9999,1)
def kl33 : AL := [some ka12,some ka0,some ka0,some ka0,some ka0,some ka1,some ka1,some ka32]
def kl34 : AL := [some ka12,some ka0,some ka0,some ka0,some ka0,some ka28,some ka15,some ka32]
def ke32 : SE := (ka32,(1,7,0,0,0))
def ka33 : AV := (0,10000,10003,1)
def kl35 : AL := [some ka12,some ka0,some ka0,some ka0,some ka0,some ka1,some ka1,some ka33]
def kl36 : AL := [some ka12,some ka0,some ka0,some ka0,some ka0,some ka28,some ka15,some ka33]
def ke33 : SE := (ka33,(1,7,0,0,0))
def ka34 : AV := (0,0,3,1)
def ke34 : SE := (ka34,pv0)
def kl37 : AL := [some ka12,some ka0,some ka0,some ka0,some ka0,some ka13,some ka16,some ka0]
def kl38 : AL := [some ka12,some ka0,some ka0,some ka0,some ka0,some ka26,some ka14,none]
def kl39 : AL := [some ka12,some ka0,some ka0,some ka0,some ka0,some ka1,some ka14,none]
def CN122_0 : List ND := [(0,(kl14,[],[]),81094,kc2,[1],0),
  (1,(kl14,[ke6],[]),81093,kc2,[2],0),
  (3,(kl15,[],[]),81092,kc2,[3],0),
  (4,(kl15,[ke6],[]),81091,kc2,[4],0),
  (6,(kl16,[],[]),81089,kc3,[6],0),
  (8,(kl17,[ke8],[]),81097,kc2,[7],0),
  (8,(kl16,[ke9],[]),81088,kc3,[8],0),
  (9,(kl17,[ke10,ke8],[]),81096,kc2,[9],0),
  (9,(kl16,[ke10,ke9],[]),81087,kc3,[10],0),
  (12,(kl17,[ke11,ke8],[]),81095,kc2,[137,11],0),
  (12,(kl16,[ke11,ke9],[]),81086,kc3,[137,11],0),
  (15,(kl18,[],kf0),81085,kc3,[12],0),
  (16,(kl18,[ke10],kf0),81084,kc3,[13],0),
  (19,(kl18,[ke12],kf0),81083,kc3,[15],0),
  (21,(kl17,[ke8,ke12],kf0),81098,kc2,[16],0),
  (21,(kl18,[ke13,ke12],kf0),81082,kc3,[16],0),
  (22,(kl18,[ke7],kf0),81081,kc3,[17],0),
  (24,(kl19,[],kf0),81080,kc3,[18],0),
  (26,(kl19,[ke14],kf0),81079,kc3,[19],0),
  (29,(kl19,[ke15,ke14],kf0),81078,kc3,[60,20],0),
  (32,(kl20,[],kf0),81033,kc3,[22],0),
  (34,(kl21,[ke16],kf0),81100,kc2,[23],0),
  (34,(kl20,[ke17],kf0),81032,kc3,[24],0),
  (35,(kl21,[ke5,ke16],kf0),81099,kc2,[135],0),
  (35,(kl20,[ke5,ke17],kf0),81031,kc3,[135,25],0),
  (38,(kl22,[],kf0),81030,kc3,[26],0),
  (41,(kl23,[],kf0),81029,kc3,[27],0),
  (42,(kl23,[ke10],kf0),81028,kc3,[28],0),
  (45,(kl23,[ke18],kf0),81027,kc3,[30],0),
  (47,(kl24,[ke19,ke18],kf0),81115,kc2,[31],0),
  (47,(kl23,[ke20,ke18],kf0),81026,kc3,[32],0),
  (48,(kl24,[ke5,ke19,ke18],kf0),81114,kc2,[33],0),
  (48,(kl23,[ke5,ke20,ke18],kf0),81025,kc3,[34],0),
  (49,(kl24,[ke6,ke18],kf0),81113,kc2,[35],0),
  (49,(kl23,[ke21,ke18],kf0),81024,kc3,[36],0),
  (51,(kl24,[ke22,ke6,ke18],kf0),81112,kc2,[37],0),
  (51,(kl23,[ke22,ke21,ke18],kf0),81023,kc3,[38],0),
  (52,(kl24,[ke10,ke22,ke6,ke18],kf0),81111,kc2,[39],0),
  (52,(kl23,[ke10,ke22,ke21,ke18],kf0),81022,kc3,[40],0),
  (55,(kl24,[ke18,ke22,ke6,ke18],kf0),81110,kc2,[41],0),
  (55,(kl23,[ke18,ke22,ke21,ke18],kf0),81021,kc3,[42],0),
  (57,(kl24,[ke19,ke18,ke22,ke6,ke18],kf0),81109,kc2,[43],0),
  (57,(kl23,[ke20,ke18,ke22,ke21,ke18],kf0),81020,kc3,[44],0),
  (58,(kl24,[ke5,ke19,ke18,ke22,ke6,ke18],kf0),81108,kc2,[45],0),
  (58,(kl23,[ke5,ke20,ke18,ke22,ke21,ke18],kf0),81019,kc3,[46],0),
  (59,(kl24,[ke6,ke18,ke22,ke6,ke18],kf0),81107,kc2,[47],0),
  (59,(kl23,[ke21,ke18,ke22,ke21,ke18],kf0),81018,kc3,[48],0),
  (60,(kl24,[ke23,ke22,ke6,ke18],kf0),81106,kc2,[49],0),
  (60,(kl23,[ke7,ke22,ke21,ke18],kf0),81017,kc3,[50],0),
  (61,(kl24,[ke10,ke23,ke22,ke6,ke18],kf0),81105,kc2,[51],0),
  (61,(kl23,[ke10,ke7,ke22,ke21,ke18],kf0),81016,kc3,[52],0),
  (64,(kl24,[ke18,ke23,ke22,ke6,ke18],kf0),81104,kc2,[53],0),
  (64,(kl23,[ke18,ke7,ke22,ke21,ke18],kf0),81015,kc3,[54],0),
  (66,(kl24,[ke19,ke18,ke23,ke22,ke6,ke18],kf0),81103,kc2,[55],0),
  (66,(kl23,[ke20,ke18,ke7,ke22,ke21,ke18],kf0),81014,kc3,[56],0),
  (67,(kl24,[ke24,ke23,ke22,ke6,ke18],kf0),81102,kc2,[57],121),
  (67,(kl23,[ke7,ke7,ke22,ke21,ke18],kf0),81013,kc3,[58],121),
  (70,(kl24,[ke7,ke6,ke18],kf0),81101,kc2,[59],0),
  (70,(kl23,[ke7,ke21,ke18],kf0),81012,kc3,[59],0),
  (71,(kl23,[],kf0),81011,kc3,[135],0),
  (74,(kl25,[],kf0),81077,kc3,[61],0),
  (76,(kl25,[ke25],kf0),81076,kc3,[62],0),
  (79,(kl25,[ke15,ke25],kf0),81075,kc3,[98,63],0),
  (82,(kl26,[],kf0),81074,kc3,[65],0)]
def CN122_1 : List ND := [(84,(kl27,[ke16],kf0),81116,kc2,[135],0),
  (84,(kl26,[ke17],kf0),81073,kc3,[135,66],0),
  (87,(kl28,[],kf0),81072,kc3,[67],0),
  (88,(kl28,[ke10],kf0),81071,kc3,[68],0),
  (91,(kl28,[ke18],kf0),81070,kc3,[70],0),
  (93,(kl29,[ke19,ke18],kf0),81130,kc2,[71],0),
  (93,(kl28,[ke26,ke18],kf0),81069,kc3,[72],0),
  (94,(kl29,[ke5,ke19,ke18],kf0),81129,kc2,[73],0),
  (94,(kl28,[ke5,ke26,ke18],kf0),81068,kc3,[74],0),
  (95,(kl29,[ke6,ke18],kf0),81128,kc2,[75],0),
  (95,(kl28,[ke27,ke18],kf0),81067,kc3,[76],0),
  (96,(kl29,[ke10,ke6,ke18],kf0),81127,kc2,[77],0),
  (96,(kl28,[ke10,ke27,ke18],kf0),81066,kc3,[78],0),
  (99,(kl29,[ke18,ke6,ke18],kf0),81126,kc2,[79],0),
  (99,(kl28,[ke18,ke27,ke18],kf0),81065,kc3,[80],0),
  (101,(kl29,[ke19,ke18,ke6,ke18],kf0),81125,kc2,[81],0),
  (101,(kl28,[ke26,ke18,ke27,ke18],kf0),81064,kc3,[82],0),
  (102,(kl29,[ke5,ke19,ke18,ke6,ke18],kf0),81124,kc2,[83],0),
  (102,(kl28,[ke5,ke26,ke18,ke27,ke18],kf0),81063,kc3,[84],0),
  (103,(kl29,[ke6,ke18,ke6,ke18],kf0),81123,kc2,[85],0),
  (103,(kl28,[ke27,ke18,ke27,ke18],kf0),81062,kc3,[86],0),
  (104,(kl29,[ke23,ke6,ke18],kf0),81122,kc2,[91,87],0),
  (104,(kl28,[ke7,ke27,ke18],kf0),81061,kc3,[92,88],0),
  (107,(kl29,[ke6,ke18],kf1),81121,kc2,[89],0),
  (107,(kl28,[ke27,ke18],kf0),81058,kc3,[90],0),
  (108,(kl29,[ke5,ke6,ke18],kf1),81120,kc2,[94],0),
  (108,(kl28,[ke5,ke27,ke18],kf0),81057,kc3,[96],0),
  (111,(kl29,[ke6,ke18],kf2),81118,kc2,[93],0),
  (111,(kl28,[ke27,ke18],kf0),81060,kc3,[95],0),
  (112,(kl29,[ke6,ke6,ke18],kf2),81117,kc2,[97],0),
  (112,(kl29,[ke5,ke6,ke18],kf1),81119,kc2,[97],0),
  (112,(kl28,[ke6,ke27,ke18],kf0),81059,kc3,[97],0),
  (112,(kl28,[ke5,ke27,ke18],kf0),81056,kc3,[97],0),
  (113,(kl28,[],kf0),81055,kc3,[135],0),
  (116,(kl30,[],kf0),81054,kc3,[100],0),
  (118,(kl31,[ke16],kf0),81132,kc2,[101],0),
  (118,(kl30,[ke17],kf0),81053,kc3,[102],0),
  (120,(kl31,[ke28,ke16],kf0),81131,kc2,[103],0),
  (120,(kl30,[ke28,ke17],kf0),81052,kc3,[135,103],0),
  (123,(kl32,[],kf0),81051,kc3,[104],0),
  (124,(kl32,[ke10],kf0),81050,kc3,[105],0),
  (127,(kl32,[ke18],kf0),81049,kc3,[107],0),
  (129,(kl31,[ke16,ke18],kf0),81146,kc2,[108],0),
  (129,(kl32,[ke29,ke18],kf0),81048,kc3,[109],0),
  (131,(kl31,[ke30,ke16,ke18],kf0),81145,kc2,[110],0),
  (131,(kl32,[ke30,ke29,ke18],kf0),81047,kc3,[111],0),
  (134,(kl31,[ke31,ke30,ke16,ke18],kf0),81144,kc2,[116,112],0),
  (134,(kl32,[ke31,ke30,ke29,ke18],kf0),81046,kc3,[117,113],0),
  (137,(kl33,[ke16,ke18],kf0),81143,kc2,[114],0),
  (137,(kl34,[ke29,ke18],kf0),81037,kc3,[115],0),
  (139,(kl33,[ke32,ke16,ke18],kf0),81142,kc2,[132],0),
  (139,(kl34,[ke32,ke29,ke18],kf0),81036,kc3,[133],0),
  (142,(kl35,[ke16,ke18],kf0),81141,kc2,[118],0),
  (142,(kl36,[ke29,ke18],kf0),81045,kc3,[119],0),
  (144,(kl35,[ke33,ke16,ke18],kf0),81140,kc2,[120],0),
  (144,(kl36,[ke33,ke29,ke18],kf0),81044,kc3,[121],0),
  (147,(kl35,[ke31,ke33,ke16,ke18],kf0),81139,kc2,[122],0),
  (147,(kl36,[ke31,ke33,ke29,ke18],kf0),81043,kc3,[123],0),
  (148,(kl35,[ke34,ke16,ke18],kf0),81138,kc2,[124],0),
  (148,(kl36,[ke34,ke29,ke18],kf0),81042,kc3,[125],0),
  (149,(kl35,[ke1,ke34,ke16,ke18],kf0),81137,kc2,[126],0),
  (149,(kl36,[ke1,ke34,ke29,ke18],kf0),81041,kc3,[127],0),
  (150,(kl35,[ke2,ke1,ke34,ke16,ke18],kf0),81136,kc2,[128],0),
  (150,(kl36,[ke2,ke1,ke34,ke29,ke18],kf0),81040,kc3,[129],0)]
def CN122_2 : List ND := [(151,(kl35,[ke3,ke2,ke1,ke34,ke16,ke18],kf0),81135,kc2,[130],0),
  (151,(kl36,[ke3,ke2,ke1,ke34,ke29,ke18],kf0),81039,kc3,[131],0),
  (153,(kl35,[ke4,ke3,ke2,ke1,ke34,ke16,ke18],kf0),81134,kc2,[132],120),
  (153,(kl36,[ke4,ke3,ke2,ke1,ke34,ke29,ke18],kf0),81038,kc3,[133],120),
  (156,(kl31,[ke7,ke16,ke18],kf0),81133,kc2,[134],0),
  (156,(kl32,[ke7,ke29,ke18],kf0),81035,kc3,[134],0),
  (157,(kl32,[],kf0),81034,kc3,[135],0),
  (160,(kl19,[],kf0),81010,kc3,[136],0),
  (163,(kl37,[],kf0),81090,kc3,[4],0),
  (166,(kl16,[],[]),9,kc2,[138],0),
  (168,(kl16,[ke17],[]),8,kc2,[144,139],0),
  (171,(kl38,[],[]),7,kc2,[140],0),
  (172,(kl38,[ke10],[]),6,kc2,[141],0),
  (175,(kl38,[ke18],[]),5,kc2,[142],0),
  (176,(kl38,[ke6,ke18],[]),4,kc2,[143],0),
  (177,(kl38,[ke23],[]),3,kc2,[146],0),
  (180,(kl39,[],[]),1,kc2,[145],0),
  (181,(kl39,[ke5],[]),0,kc2,[],0),
  (181,(kl38,[ke23],[]),2,kc2,[],0)]
def CN122 : List (List ND) := [CN122_0, CN122_1, CN122_2]
theorem CK122 : chkS prot SMs SM122 [] CN122 = true := by decide +kernel
-- OneSided$Quarter.letsInto
def ka35 : AV := (2,12,25,1)
def ka36 : AV := (0,0,9,1)
def kl40 : AL := [some ka12,some ka35,some ka34,some ka0,some ka0,some ka36]
def kc4 : List Int := [0,0,0,0,0,0]
def ke35 : SE := (ka35,(1,1,0,0,0))
def ka37 : AV := (0,3,3,0)
def ke36 : SE := (ka37,pv0)
def ka38 : AV := (0,0,23,1)
def ke37 : SE := (ka38,pv0)
def ka39 : AV := (0,0,2147483647,1)
def kl41 : AL := [some ka12,some ka35,some ka34,some ka39,some ka0,some ka36]
def ke38 : SE := (ka39,(1,3,0,0,0))
def ka40 : AV := (0,0,24,1)
def ke39 : SE := (ka40,pv0)
def kl42 : AL := [some ka12,some ka35,some ka34,some ka38,some ka0,some ka36]
def ka41 : AV := (0,-1,3,1)
def ke40 : SE := (ka41,pv0)
def ka42 : AV := (0,-1,-1,0)
def ke41 : SE := (ka42,pv0)
def ke42 : SE := (ka34,(1,2,0,0,0))
def kl43 : AL := [some ka12,some ka35,some ka23,some ka38,some ka0,some ka36]
def ke43 : SE := (ka38,(1,3,0,0,0))
def ke44 : SE := (ka36,(1,5,0,0,0))
def CN123_0 : List ND := [(0,(kl40,[],[]),38,kc4,[1],0),
  (1,(kl40,[ke35],[]),37,kc4,[2],0),
  (4,(kl40,[ke34],[]),36,kc4,[3],0),
  (5,(kl40,[ke36,ke34],[]),35,kc4,[12,4],0),
  (8,(kl40,[],[]),34,kc4,[5],0),
  (9,(kl40,[ke3],[]),33,kc4,[6],0),
  (10,(kl40,[ke35,ke3],[]),32,kc4,[7],0),
  (13,(kl40,[ke37,ke3],[]),31,kc4,[12,8],0),
  (16,(kl41,[],[]),30,kc4,[9],0),
  (17,(kl41,[ke38],[]),29,kc4,[10],0),
  (18,(kl41,[ke35,ke38],[]),28,kc4,[11],0),
  (21,(kl41,[ke39,ke38],[]),27,kc4,[14,12],0),
  (24,(kl40,[],[]),1,kc4,[13],0),
  (25,(kl40,[ke6],[]),0,kc4,[],0),
  (26,(kl42,[],[]),26,kc4,[15],0),
  (27,(kl42,[ke35],[]),25,kc4,[16],0),
  (30,(kl42,[ke40],[]),24,kc4,[17],0),
  (31,(kl42,[ke41,ke40],[]),23,kc4,[27,18],0),
  (34,(kl42,[],[]),22,kc4,[19],0),
  (35,(kl42,[ke35],[]),21,kc4,[20],0),
  (38,(kl42,[ke40],[]),20,kc4,[21],0),
  (39,(kl42,[ke42,ke40],[]),19,kc4,[27,22],0),
  (42,(kl42,[],[]),18,kc4,[23],0),
  (43,(kl42,[ke42],[]),17,kc4,[24],0),
  (44,(kl42,[ke36,ke42],[]),16,kc4,[27,25],0),
  (47,(kl43,[],[]),15,kc4,[26],0),
  (48,(kl43,[ke6],[]),14,kc4,[],0),
  (49,(kl42,[],[]),13,kc4,[28],0),
  (50,(kl42,[ke10],[]),12,kc4,[29],0),
  (51,(kl42,[ke43,ke10],[]),11,kc4,[30],0),
  (52,(kl42,[ke42,ke43,ke10],[]),10,kc4,[31],0),
  (54,(kl42,[ke4,ke42,ke43,ke10],[]),9,kc4,[32],0),
  (56,(kl42,[ke44,ke4,ke42,ke43,ke10],[]),8,kc4,[33],122),
  (59,(kl42,[ke7],[]),7,kc4,[36,34],0),
  (62,(kl42,[],[]),6,kc4,[35],0),
  (63,(kl42,[ke5],[]),5,kc4,[38],0),
  (66,(kl42,[],[]),3,kc4,[37],0),
  (67,(kl42,[ke6],[]),2,kc4,[],0),
  (67,(kl42,[ke5],[]),4,kc4,[],1)]
def CN123 : List (List ND) := [CN123_0]
theorem CK123 : chkS prot SMs SM123 [(3,3)] CN123 = true := by decide +kernel
-- OneSided$Quarter.ways
def ka43 : AV := (0,0,13,1)
def kl44 : AL := [some ka12,some ka43,some ka34,some ka0,some ka0,some ka27,none,none,none]
def kc5 : List Int := [0,0,0,0,0,0,0,0,0]
def ka44 : AV := (2,6,6,0)
def ke45 : SE := (ka44,(2,5,1,0,0))
def ke46 : SE := (ka43,(1,1,0,0,0))
def ke47 : SE := (ka35,pv0)
def kl45 : AL := [some ka12,some ka43,some ka34,some ka0,some ka0,some ka27,some ka35,none,none]
def ke48 : SE := (ka35,(1,6,0,0,0))
def ka45 : AV := (0,12,12,0)
def ke49 : SE := (ka45,pv0)
def ka46 : AV := (0,12,2147483647,1)
def kl46 : AL := [some ka12,some ka43,some ka34,some ka46,some ka0,some ka27,some ka35,none,none]
def ke50 : SE := (ka27,(1,5,0,0,0))
def kl47 : AL := [some ka12,some ka43,some ka34,some ka0,some ka0,some ka27,some ka35,some ka27,none]
def kl48 : AL := [some ka12,some ka43,some ka34,some ka0,some ka0,some ka27,some ka35,some ka27,some ka1]
def kl49 : AL := [some ka12,some ka43,some ka23,some ka0,some ka0,some ka27,some ka35,some ka27,some ka1]
def ke51 : SE := (ka27,(1,7,0,0,0))
def ke52 : SE := (ka36,pv0)
def kl50 : AL := [some ka12,some ka43,some ka34,some ka38,some ka0,some ka27,some ka35,some ka27,some ka1]
def ke53 : SE := (ka1,(1,8,0,0,0))
def ka47 : AV := (0,0,1023,1)
def ke54 : SE := (ka47,pv0)
def kl51 : AL := [some ka12,some ka43,some ka34,some ka0,some ka0,some ka27,some ka35,some ka27,some ka47]
def kl52 : AL := [some ka12,some ka43,some ka23,some ka0,some ka0,some ka27,some ka35,some ka27,some ka47]
def kl53 : AL := [some ka12,some ka43,some ka34,some ka38,some ka0,some ka27,some ka35,some ka27,some ka47]
def ke55 : SE := (ka47,(1,8,0,0,0))
def ke56 : SE := (ka3,pv0)
def CN124_0 : List ND := [(0,(kl44,[],[]),65,kc5,[1],0),
  (1,(kl44,[ke10],[]),64,kc5,[2],0),
  (4,(kl44,[ke45],[]),63,kc5,[3],0),
  (5,(kl44,[ke46,ke45],[]),62,kc5,[4],0),
  (6,(kl44,[ke47],[]),61,kc5,[5],0),
  (8,(kl45,[],[]),60,kc5,[6],0),
  (10,(kl45,[ke48],[]),59,kc5,[7],0),
  (13,(kl45,[ke34],[]),58,kc5,[8],0),
  (14,(kl45,[ke5,ke34],[]),57,kc5,[14,9],0),
  (17,(kl45,[],[]),56,kc5,[10],0),
  (18,(kl45,[ke3],[]),55,kc5,[11],0),
  (20,(kl45,[ke49,ke3],[]),54,kc5,[14,12],0),
  (23,(kl46,[],[]),53,kc5,[13],0),
  (24,(kl46,[ke5],[]),52,kc5,[16],0),
  (27,(kl45,[],[]),49,kc5,[15],0),
  (28,(kl45,[ke6],[]),48,kc5,[17],0),
  (28,(kl46,[ke5],[]),51,kc5,[18],0),
  (30,(kl45,[ke50,ke6],[]),47,kc5,[21,19],0),
  (30,(kl46,[ke50,ke5],[]),50,kc5,[21,19],0),
  (33,(kl45,[],[]),46,kc5,[20],0),
  (34,(kl45,[ke5],[]),45,kc5,[23],0),
  (37,(kl45,[],[]),43,kc5,[22],0),
  (38,(kl45,[ke6],[]),42,kc5,[24],0),
  (38,(kl45,[ke5],[]),44,kc5,[24],0),
  (40,(kl47,[],[]),41,kc5,[25],0),
  (41,(kl47,[ke6],[]),40,kc5,[26],0),
  (43,(kl48,[],[]),39,kc5,[27],0),
  (44,(kl48,[ke42],[]),38,kc5,[28],0),
  (45,(kl48,[ke36,ke42],[]),37,kc5,[31,29],0),
  (48,(kl49,[],[]),36,kc5,[30],0),
  (50,(kl49,[ke51],[]),35,kc5,[45,31],0),
  (53,(kl48,[],[]),34,kc5,[32],0),
  (54,(kl48,[ke10],[]),33,kc5,[33],0),
  (56,(kl48,[ke48,ke10],[]),32,kc5,[34],0),
  (57,(kl48,[ke42,ke48,ke10],[]),31,kc5,[35],0),
  (58,(kl48,[ke3,ke42,ke48,ke10],[]),30,kc5,[36],0),
  (60,(kl48,[ke4,ke3,ke42,ke48,ke10],[]),29,kc5,[37],0),
  (62,(kl48,[ke48,ke4,ke3,ke42,ke48,ke10],[]),28,kc5,[38],0),
  (65,(kl48,[ke52,ke4,ke3,ke42,ke48,ke10],[]),27,kc5,[39,40],123),
  (68,(kl48,[ke6],[]),26,kc5,[45],0),
  (68,(kl50,[ke5],[]),25,kc5,[41],0),
  (71,(kl50,[],[]),24,kc5,[42],0),
  (73,(kl50,[ke53],[]),23,kc5,[43],0),
  (74,(kl50,[ke5,ke53],[]),22,kc5,[44],0),
  (75,(kl50,[ke54],[]),21,kc5,[45],0),
  (77,(kl51,[],[]),20,kc5,[46],0),
  (78,(kl51,[ke42],[]),19,kc5,[47],0),
  (79,(kl51,[ke36,ke42],[]),18,kc5,[50,48],0),
  (82,(kl52,[],[]),17,kc5,[49],0),
  (84,(kl52,[ke51],[]),16,kc5,[64,50],0),
  (87,(kl51,[],[]),15,kc5,[51],0),
  (88,(kl51,[ke10],[]),14,kc5,[52],0),
  (90,(kl51,[ke48,ke10],[]),13,kc5,[53],0),
  (91,(kl51,[ke42,ke48,ke10],[]),12,kc5,[54],0),
  (92,(kl51,[ke3,ke42,ke48,ke10],[]),11,kc5,[55],0),
  (94,(kl51,[ke4,ke3,ke42,ke48,ke10],[]),10,kc5,[56],0),
  (96,(kl51,[ke48,ke4,ke3,ke42,ke48,ke10],[]),9,kc5,[57],0),
  (99,(kl51,[ke52,ke4,ke3,ke42,ke48,ke10],[]),8,kc5,[58,59],123),
  (102,(kl51,[ke6],[]),7,kc5,[64],0),
  (102,(kl53,[ke5],[]),6,kc5,[60],0),
  (105,(kl53,[],[]),5,kc5,[61],0),
  (107,(kl53,[ke55],[]),4,kc5,[62],0),
  (108,(kl53,[ke56,ke55],[]),3,kc5,[63],0),
  (109,(kl53,[ke54],[]),2,kc5,[64],0)]
def CN124_1 : List ND := [(111,(kl51,[],[]),1,kc5,[65],0),
  (113,(kl51,[ke55],[]),0,kc5,[],0)]
def CN124 : List (List ND) := [CN124_0, CN124_1]
theorem CK124 : chkS prot SMs SM124 [] CN124 = true := by decide +kernel
-- OneSided$Quarter.settleHour
def kl54 : AL := [some ka12,some ka34,some ka38,none,none,none,none]
def kc6 : List Int := [0,0,0,0,0,0,0]
def kl55 : AL := [some ka12,some ka34,some ka38,some ka1,none,none,none]
def kl56 : AL := [some ka12,some ka34,some ka38,some ka1,some ka1,none,none]
def ka48 : AV := (0,0,14,1)
def kl57 : AL := [some ka12,some ka34,some ka38,some ka0,some ka0,some ka48,none]
def kc7 : List Int := [0,0,0,0,0,-44,0]
def kl58 : AL := [some ka12,some ka34,some ka38,some ka1,some ka1,some ka1,none]
def ke57 : SE := (ka48,(1,5,0,0,0))
def ke58 : SE := (ka48,(2,5,2,0,0))
def kl59 : AL := [some ka12,some ka34,some ka38,some ka0,some ka0,some ka43,none]
def ka49 : AV := (0,1,14,1)
def kf3 : FA := [(5,2,ka49)]
def ke59 : SE := (ka43,(1,5,0,0,0))
def ke60 : SE := (ka34,(1,1,0,0,0))
def ke61 : SE := (ka38,(1,2,0,0,0))
def ke62 : SE := (ka35,(2,6,0,0,0))
def kl60 : AL := [some ka12,some ka34,some ka38,some ka0,some ka0,some ka43,some ka47]
def kl61 : AL := [some ka12,some ka34,some ka38,some ka1,some ka1,some ka1,some ka47]
def ke63 : SE := (ka1,(1,3,0,0,0))
def ke64 : SE := (ka47,(1,6,0,0,0))
def ke65 : SE := (ka27,pv0)
def ka50 : AV := (0,1,8192,1)
def ke66 : SE := (ka50,pv0)
def kl62 : AL := [some ka12,some ka34,some ka38,some ka47,some ka1,some ka1,some ka47]
def ke67 : SE := (ka1,(1,4,0,0,0))
def ke68 : SE := (ka23,pv0)
def kl63 : AL := [some ka12,some ka34,some ka38,some ka0,some ka0,some ka49,some ka47]
def ka51 : AV := (2,10,10,0)
def ke69 : SE := (ka51,(2,5,8,0,0))
def ka52 : AV := (0,24,24,0)
def ke70 : SE := (ka52,pv0)
def ka53 : AV := (0,0,72,24)
def ke71 : SE := (ka53,pv0)
def ka54 : AV := (0,0,95,1)
def ke72 : SE := (ka54,pv0)
def ka55 : AV := (2,11,11,0)
def ke73 : SE := (ka55,(2,5,9,0,0))
def CN125_0 : List ND := [(0,(kl54,[],[]),684,kc6,[1],0),
  (1,(kl54,[ke6],[]),683,kc6,[2],0),
  (2,(kl55,[],[]),682,kc6,[3],0),
  (3,(kl55,[ke6],[]),681,kc6,[4],0),
  (5,(kl56,[],[]),680,kc6,[5],0),
  (6,(kl56,[ke6],[]),679,kc6,[6],0),
  (8,(kl57,[],[]),677,kc7,[8],0),
  (10,(kl58,[ke16],[]),687,kc6,[9],0),
  (10,(kl57,[ke57],[]),676,kc7,[10],0),
  (11,(kl58,[ke10,ke16],[]),686,kc6,[11],0),
  (11,(kl57,[ke10,ke57],[]),675,kc7,[12],0),
  (14,(kl58,[ke58,ke16],[]),685,kc6,[84,13],0),
  (14,(kl57,[ke58,ke57],[]),674,kc7,[84,13],0),
  (17,(kl59,[],kf3),673,kc7,[14],0),
  (18,(kl59,[ke10],kf3),672,kc7,[16],0),
  (20,(kl58,[ke16,ke10],kf3),696,kc6,[17],0),
  (20,(kl59,[ke59,ke10],kf3),671,kc7,[18],0),
  (21,(kl58,[ke60,ke16,ke10],kf3),695,kc6,[19],0),
  (21,(kl59,[ke60,ke59,ke10],kf3),670,kc7,[20],0),
  (22,(kl58,[ke61,ke60,ke16,ke10],kf3),694,kc6,[21],0),
  (22,(kl59,[ke61,ke60,ke59,ke10],kf3),669,kc7,[22],0),
  (23,(kl58,[ke10,ke61,ke60,ke16,ke10],kf3),693,kc6,[23],0),
  (23,(kl59,[ke10,ke61,ke60,ke59,ke10],kf3),668,kc7,[24],0),
  (26,(kl58,[ke45,ke61,ke60,ke16,ke10],kf3),692,kc6,[25],0),
  (26,(kl59,[ke45,ke61,ke60,ke59,ke10],kf3),667,kc7,[26],0),
  (28,(kl58,[ke16,ke45,ke61,ke60,ke16,ke10],kf3),691,kc6,[27],0),
  (28,(kl59,[ke59,ke45,ke61,ke60,ke59,ke10],kf3),666,kc7,[28],0),
  (29,(kl58,[ke62,ke61,ke60,ke16,ke10],kf3),690,kc6,[29],0),
  (29,(kl59,[ke47,ke61,ke60,ke59,ke10],kf3),665,kc7,[30],0),
  (32,(kl58,[ke52,ke61,ke60,ke16,ke10],kf3),689,kc6,[31],0),
  (32,(kl59,[ke52,ke61,ke60,ke59,ke10],kf3),664,kc7,[32],0),
  (33,(kl58,[ke6,ke52,ke61,ke60,ke16,ke10],kf3),688,kc6,[33],124),
  (33,(kl59,[ke6,ke52,ke61,ke60,ke59,ke10],kf3),663,kc7,[33],124),
  (36,(kl59,[ke54],kf3),662,kc7,[34],0),
  (38,(kl60,[],kf3),661,kc7,[36],0),
  (39,(kl61,[ke63],kf3),707,kc6,[37],0),
  (39,(kl60,[ke3],kf3),660,kc7,[38],0),
  (41,(kl61,[ke64,ke63],kf3),706,kc6,[39],0),
  (41,(kl60,[ke64,ke3],kf3),659,kc7,[40],0),
  (42,(kl61,[ke5,ke64,ke63],kf3),705,kc6,[41],0),
  (42,(kl60,[ke5,ke64,ke3],kf3),658,kc7,[42],0),
  (43,(kl61,[ke65,ke63],kf3),704,kc6,[51,43],0),
  (43,(kl60,[ke65,ke3],kf3),657,kc7,[52,44],0),
  (46,(kl61,[ke63],kf3),703,kc6,[45],0),
  (46,(kl60,[ke3],kf3),656,kc7,[46],0),
  (47,(kl61,[ke5,ke63],kf3),702,kc6,[47],0),
  (47,(kl60,[ke5,ke3],kf3),655,kc7,[48],0),
  (49,(kl61,[ke16,ke5,ke63],kf3),701,kc6,[49],0),
  (49,(kl60,[ke59,ke5,ke3],kf3),654,kc7,[50],0),
  (50,(kl61,[ke5,ke63],kf3),700,kc6,[54],0),
  (50,(kl60,[ke66,ke3],kf3),653,kc7,[56],0),
  (53,(kl61,[ke63],kf3),698,kc6,[53],0),
  (53,(kl60,[ke3],kf3),651,kc7,[55],0),
  (54,(kl61,[ke6,ke63],kf3),697,kc6,[57],0),
  (54,(kl61,[ke5,ke63],kf3),699,kc6,[57],0),
  (54,(kl60,[ke6,ke3],kf3),650,kc7,[57],0),
  (54,(kl60,[ke66,ke3],kf3),652,kc7,[57],0),
  (55,(kl60,[ke7],kf3),649,kc7,[58],0),
  (56,(kl60,[],kf3),648,kc7,[60],0),
  (58,(kl62,[ke67],kf3),718,kc6,[61],0),
  (58,(kl60,[ke4],kf3),647,kc7,[62],0),
  (60,(kl62,[ke64,ke67],kf3),717,kc6,[63],0),
  (60,(kl60,[ke64,ke4],kf3),646,kc7,[64],0),
  (61,(kl62,[ke56,ke64,ke67],kf3),716,kc6,[65],0)]
def CN125_1 : List ND := [(61,(kl60,[ke56,ke64,ke4],kf3),645,kc7,[66],0),
  (62,(kl62,[ke68,ke67],kf3),715,kc6,[75,67],0),
  (62,(kl60,[ke68,ke4],kf3),644,kc7,[76,68],0),
  (65,(kl62,[ke67],kf3),712,kc6,[69],0),
  (65,(kl60,[ke4],kf3),641,kc7,[70],0),
  (66,(kl62,[ke5,ke67],kf3),711,kc6,[71],0),
  (66,(kl60,[ke5,ke4],kf3),640,kc7,[72],0),
  (68,(kl62,[ke16,ke5,ke67],kf3),710,kc6,[73],0),
  (68,(kl60,[ke59,ke5,ke4],kf3),639,kc7,[74],0),
  (69,(kl62,[ke5,ke67],kf3),709,kc6,[78],0),
  (69,(kl60,[ke66,ke4],kf3),638,kc7,[80],0),
  (72,(kl62,[ke67],kf3),714,kc6,[77],0),
  (72,(kl60,[ke4],kf3),643,kc7,[79],0),
  (73,(kl62,[ke6,ke67],kf3),713,kc6,[81],0),
  (73,(kl62,[ke5,ke67],kf3),708,kc6,[81],0),
  (73,(kl60,[ke6,ke4],kf3),642,kc7,[81],0),
  (73,(kl60,[ke66,ke4],kf3),637,kc7,[81],0),
  (74,(kl60,[ke7],kf3),636,kc7,[82],0),
  (76,(kl60,[],kf3),635,kc7,[83],0),
  (79,(kl63,[],kf3),678,kc7,[6],0),
  (82,(kl57,[],[]),18,kc6,[85],0),
  (83,(kl57,[ke10],[]),17,kc6,[86],0),
  (86,(kl57,[ke69],[]),16,kc6,[87],0),
  (87,(kl57,[ke60,ke69],[]),15,kc6,[88],0),
  (89,(kl57,[ke70,ke60,ke69],[]),14,kc6,[89],0),
  (90,(kl57,[ke71,ke69],[]),13,kc6,[90],0),
  (91,(kl57,[ke61,ke71,ke69],[]),12,kc6,[91],0),
  (92,(kl57,[ke72,ke69],[]),11,kc6,[92],0),
  (93,(kl57,[ke3,ke72,ke69],[]),10,kc6,[93],0),
  (94,(kl57,[],[]),9,kc6,[94],0),
  (95,(kl57,[ke10],[]),8,kc6,[95],0),
  (98,(kl57,[ke73],[]),7,kc6,[96],0),
  (99,(kl57,[ke60,ke73],[]),6,kc6,[97],0),
  (101,(kl57,[ke70,ke60,ke73],[]),5,kc6,[98],0),
  (102,(kl57,[ke71,ke73],[]),4,kc6,[99],0),
  (103,(kl57,[ke61,ke71,ke73],[]),3,kc6,[100],0),
  (104,(kl57,[ke72,ke73],[]),2,kc6,[101],0),
  (106,(kl57,[ke4,ke72,ke73],[]),1,kc6,[102],0),
  (107,(kl57,[],[]),0,kc6,[],0)]
def CN125 : List (List ND) := [CN125_0, CN125_1]
theorem CK125 : chkS prot SMs SM125 [] CN125 = true := by decide +kernel
-- OneSided$Quarter.settle
def kl64 : AL := [some ka12,none,none]
def ka56 : AV := (0,0,4,1)
def kl65 : AL := [some ka12,some ka56,none]
def kc8 : List Int := [0,-232,0]
def kl66 : AL := [some ka12,some ka1,none]
def ke74 : SE := (ka1,(1,1,0,0,0))
def ke75 : SE := (ka56,(1,1,0,0,0))
def ka57 : AV := (0,4,4,0)
def ke76 : SE := (ka57,pv0)
def kl67 : AL := [some ka12,some ka34,none]
def kl68 : AL := [some ka12,some ka34,some ka40]
def kc9 : List Int := [0,-232,-9]
def kl69 : AL := [some ka12,some ka1,some ka1]
def ke77 : SE := (ka1,(1,2,0,0,0))
def ke78 : SE := (ka40,(1,2,0,0,0))
def kl70 : AL := [some ka12,some ka34,some ka38]
def kl71 : AL := [some ka12,some ka1,some ka38]
def ka58 : AV := (0,1,24,1)
def kl72 : AL := [some ka12,some ka34,some ka58]
def kl73 : AL := [some ka12,some ka34,some ka52]
def ka59 : AV := (0,1,4,1)
def kl74 : AL := [some ka12,some ka59,some ka52]
def kl75 : AL := [some ka12,some ka57,none]
def CN126_0 : List ND := [(0,(kl64,[],[]),1162,kc1,[1],0),
  (1,(kl64,[ke6],[]),1161,kc1,[2],0),
  (2,(kl65,[],[]),1159,kc8,[4],0),
  (3,(kl66,[ke74],[]),1164,kc1,[5],0),
  (3,(kl65,[ke75],[]),1158,kc8,[6],0),
  (4,(kl66,[ke76,ke74],[]),1163,kc1,[7],0),
  (4,(kl65,[ke76,ke75],[]),1157,kc8,[25,7],0),
  (7,(kl67,[],[]),1156,kc8,[8],0),
  (8,(kl67,[ke6],[]),1155,kc8,[9],0),
  (9,(kl68,[],[]),1153,kc9,[11],0),
  (10,(kl69,[ke77],[]),1166,kc1,[12],0),
  (10,(kl68,[ke78],[]),1152,kc9,[13],0),
  (12,(kl69,[ke70,ke77],[]),1165,kc1,[14],0),
  (12,(kl68,[ke70,ke78],[]),1151,kc9,[23,14],0),
  (15,(kl70,[],[]),1150,kc9,[15],0),
  (16,(kl70,[ke10],[]),1149,kc9,[17],0),
  (17,(kl71,[ke74,ke10],[]),1168,kc1,[19],0),
  (17,(kl70,[ke60,ke10],[]),1148,kc9,[20],0),
  (18,(kl69,[ke77,ke74,ke10],[]),1169,kc1,[21],125),
  (18,(kl71,[ke61,ke74,ke10],[]),1167,kc1,[21],125),
  (18,(kl70,[ke61,ke60,ke10],[]),1147,kc9,[21],125),
  (21,(kl70,[],[]),1146,kc9,[22],0),
  (24,(kl72,[],[]),1154,kc9,[9],0),
  (27,(kl73,[],[]),929,kc8,[24],0),
  (30,(kl74,[],[]),1160,kc8,[2],0),
  (33,(kl75,[],[]),0,kc1,[],0)]
def CN126 : List (List ND) := [CN126_0]
theorem CK126 : chkS prot SMs SM126 [] CN126 = true := by decide +kernel
-- java/util/Arrays.fill
def ka60 : AV := (2,62,62,0)
def kl76 : AL := [some ka60,some ka1,none,none]
def kc10 : List Int := [0,0,0,0]
def kl77 : AL := [some ka60,some ka1,some ka1,none]
def ke79 : SE := (ka60,(1,0,0,0,0))
def ka61 : AV := (0,14,14,0)
def ke80 : SE := (ka61,pv0)
def kl78 : AL := [some ka60,some ka1,some ka48,some ka61]
def kc11 : List Int := [0,0,-9,0]
def kl79 : AL := [some ka60,some ka1,some ka1,some ka61]
def ke81 : SE := (ka48,(1,2,0,0,0))
def ke82 : SE := (ka61,(1,3,0,0,0))
def kl80 : AL := [some ka60,some ka1,some ka43,some ka61]
def ke83 : SE := (ka43,(1,2,0,0,0))
def kl81 : AL := [some ka60,some ka1,some ka49,some ka61]
def kl82 : AL := [some ka60,some ka1,some ka61,some ka61]
def CN132_0 : List ND := [(0,(kl76,[],[]),140,kc10,[1],0),
  (1,(kl76,[ke6],[]),139,kc10,[2],0),
  (2,(kl77,[],[]),138,kc10,[3],0),
  (3,(kl77,[ke79],[]),137,kc10,[4],0),
  (4,(kl77,[ke80],[]),136,kc10,[5],0),
  (5,(kl78,[],[]),134,kc11,[7],0),
  (6,(kl79,[ke77],[]),142,kc10,[8],0),
  (6,(kl78,[ke81],[]),133,kc11,[9],0),
  (7,(kl79,[ke82,ke77],[]),141,kc10,[10],0),
  (7,(kl78,[ke82,ke81],[]),132,kc11,[18,10],0),
  (10,(kl80,[],[]),131,kc11,[11],0),
  (11,(kl80,[ke79],[]),130,kc11,[13],0),
  (12,(kl79,[ke77,ke79],[]),144,kc10,[14],0),
  (12,(kl80,[ke83,ke79],[]),129,kc11,[15],0),
  (13,(kl79,[ke74,ke77,ke79],[]),143,kc10,[16],0),
  (13,(kl80,[ke74,ke83,ke79],[]),128,kc11,[16],0),
  (14,(kl80,[],[]),127,kc11,[17],0),
  (17,(kl81,[],[]),135,kc11,[5],0),
  (20,(kl82,[],[]),0,kc10,[],0)]
def CN132 : List (List ND) := [CN132_0]
theorem CK132 : chkS prot SMs SM132 [] CN132 = true := by decide +kernel
-- OneSided$Scene.begin
def ka62 : AV := (2,60,60,0)
def kl83 : AL := [some ka62,some ka12,none,none]
def ke84 : SE := (ka62,(1,0,0,0,0))
def kf4 : FA := [(60,0,ka1)]
def kf5 : FA := [(60,0,ka1),(60,1,ka1)]
def kf6 : FA := [(60,0,ka1),(60,1,ka1),(60,2,ka1)]
def kf7 : FA := [(60,0,ka1),(60,1,ka1),(60,2,ka1),(60,3,ka1)]
def ke85 : SE := (ka60,(2,60,5,0,0))
def kl84 : AL := [some ka62,some ka12,some ka1,none]
def ka63 : AV := (0,1,6,1)
def ka64 : AV := (2,26,31,1)
def kl85 : AL := [some ka62,some ka12,some ka63,some ka64]
def kf8 : FA := [(5,4,ka63),(60,0,ka1),(60,1,ka1),(60,2,ka1),(60,3,ka47)]
def kc12 : List Int := [0,0,-33,0]
def kl86 : AL := [some ka62,some ka12,some ka2,some ka64]
def ke86 : SE := (ka2,(1,2,0,0,0))
def ke87 : SE := (ka63,(1,2,0,0,0))
def ke88 : SE := (ka12,(1,1,0,0,0))
def ka65 : AV := (0,0,6,1)
def ke89 : SE := (ka65,(2,5,4,0,0))
def ke90 : SE := (ka63,(2,5,4,0,0))
def kf9 : FA := [(5,4,ka63),(60,0,ka1),(60,1,ka1),(60,2,ka1),(60,3,ka1)]
def ka66 : AV := (0,1,5,1)
def kl87 : AL := [some ka62,some ka12,some ka66,some ka64]
def ka67 : AV := (0,2,6,1)
def kf10 : FA := [(5,4,ka67),(60,0,ka1),(60,1,ka1),(60,2,ka1),(60,3,ka47)]
def ka68 : AV := (2,7,7,0)
def ke91 : SE := (ka68,(2,5,3,0,0))
def ke92 : SE := (ka66,(1,2,0,0,0))
def ke93 : SE := (ka64,(2,7,0,0,0))
def ke94 : SE := (ka64,pv0)
def ka69 : AV := (0,0,5,1)
def kl88 : AL := [some ka62,some ka12,some ka69,some ka64]
def ka70 : AV := (2,61,61,0)
def ke95 : SE := (ka70,(2,60,4,0,0))
def kl89 : AL := [some ka62,some ka12,some ka1,some ka64]
def ke96 : SE := (ka69,(1,2,0,0,0))
def ke97 : SE := (ka64,(1,3,0,0,0))
def ke98 : SE := (ka1,(2,60,3,0,0))
def ke99 : SE := (ka47,(2,60,3,0,0))
def ke100 : SE := (ka26,pv0)
def kf11 : FA := [(5,4,ka1),(60,0,ka1),(60,1,ka1),(60,2,ka1),(60,3,ka1)]
def CN133_0 : List ND := [(0,(kl83,[],[]),259,kc10,[1],0),
  (1,(kl83,[ke84],[]),258,kc10,[2],0),
  (2,(kl83,[ke6,ke84],[]),257,kc10,[3],0),
  (5,(kl83,[],kf4),256,kc10,[4],0),
  (6,(kl83,[ke84],kf4),255,kc10,[5],0),
  (7,(kl83,[ke6,ke84],kf4),254,kc10,[6],0),
  (10,(kl83,[],kf5),253,kc10,[7],0),
  (11,(kl83,[ke84],kf5),252,kc10,[8],0),
  (12,(kl83,[ke6,ke84],kf5),251,kc10,[9],0),
  (15,(kl83,[],kf6),250,kc10,[10],0),
  (16,(kl83,[ke84],kf6),249,kc10,[11],0),
  (17,(kl83,[ke6,ke84],kf6),248,kc10,[12],0),
  (20,(kl83,[],kf7),247,kc10,[13],0),
  (21,(kl83,[ke84],kf7),246,kc10,[14],0),
  (24,(kl83,[ke85],kf7),245,kc10,[15],0),
  (25,(kl83,[ke6,ke85],kf7),244,kc10,[16],132),
  (28,(kl83,[],kf7),243,kc10,[17],0),
  (29,(kl83,[ke6],kf7),242,kc10,[18],0),
  (30,(kl84,[],kf7),241,kc10,[20],0),
  (30,(kl85,[],kf8),230,kc12,[22],0),
  (31,(kl84,[ke77],kf7),240,kc10,[23],0),
  (31,(kl86,[ke86],kf8),262,kc10,[24],0),
  (31,(kl85,[ke87],kf8),229,kc12,[25],0),
  (32,(kl84,[ke88,ke77],kf7),239,kc10,[26],0),
  (32,(kl86,[ke88,ke86],kf8),261,kc10,[27],0),
  (32,(kl85,[ke88,ke87],kf8),228,kc12,[28],0),
  (35,(kl84,[ke89,ke77],kf7),238,kc10,[79,29],0),
  (35,(kl86,[ke90,ke86],kf8),260,kc10,[80,30],0),
  (35,(kl85,[ke90,ke87],kf8),227,kc12,[80,30],0),
  (38,(kl84,[],kf9),236,kc10,[31],0),
  (38,(kl87,[],kf10),226,kc12,[32],0),
  (39,(kl84,[ke88],kf9),235,kc10,[33],0),
  (39,(kl87,[ke88],kf10),225,kc12,[34],0),
  (42,(kl84,[ke91],kf9),234,kc10,[35],0),
  (42,(kl87,[ke91],kf10),224,kc12,[37],0),
  (43,(kl84,[ke77,ke91],kf9),233,kc10,[38],0),
  (43,(kl86,[ke86,ke91],kf10),263,kc10,[39],0),
  (43,(kl87,[ke92,ke91],kf10),223,kc12,[39],0),
  (44,(kl84,[ke93],kf9),232,kc10,[40],0),
  (44,(kl87,[ke94],kf10),222,kc12,[40],0),
  (45,(kl88,[],kf8),221,kc12,[41],0),
  (46,(kl88,[ke84],kf8),220,kc12,[42],0),
  (49,(kl88,[ke95],kf8),219,kc12,[44],0),
  (50,(kl89,[ke77,ke95],kf9),266,kc10,[45],0),
  (50,(kl88,[ke96,ke95],kf8),218,kc12,[46],0),
  (51,(kl89,[ke97,ke77,ke95],kf9),265,kc10,[47],0),
  (51,(kl88,[ke97,ke96,ke95],kf8),217,kc12,[48],0),
  (54,(kl89,[ke52,ke77,ke95],kf9),264,kc10,[49],0),
  (54,(kl88,[ke52,ke96,ke95],kf8),216,kc12,[49],0),
  (55,(kl88,[],kf8),215,kc12,[50],0),
  (56,(kl88,[ke84],kf8),214,kc12,[51],0),
  (57,(kl88,[ke84,ke84],kf8),213,kc12,[53],0),
  (60,(kl89,[ke98,ke84],kf9),278,kc10,[54],0),
  (60,(kl88,[ke99,ke84],kf8),212,kc12,[55],0),
  (61,(kl89,[ke97,ke98,ke84],kf9),277,kc10,[56],0),
  (61,(kl88,[ke97,ke99,ke84],kf8),211,kc12,[57],0),
  (64,(kl89,[ke52,ke98,ke84],kf9),276,kc10,[58],0),
  (64,(kl88,[ke52,ke99,ke84],kf8),210,kc12,[59],0),
  (65,(kl89,[ke97,ke52,ke98,ke84],kf9),275,kc10,[60],0),
  (65,(kl88,[ke97,ke52,ke99,ke84],kf8),209,kc12,[61],0),
  (68,(kl89,[ke52,ke52,ke98,ke84],kf9),274,kc10,[70,62],0),
  (68,(kl88,[ke52,ke52,ke99,ke84],kf8),208,kc12,[71,63],0),
  (71,(kl89,[ke98,ke84],kf9),271,kc10,[64],0),
  (71,(kl88,[ke99,ke84],kf8),205,kc12,[65],0)]
def CN133_1 : List ND := [(72,(kl89,[ke5,ke98,ke84],kf9),270,kc10,[66],0),
  (72,(kl88,[ke5,ke99,ke84],kf8),204,kc12,[67],0),
  (73,(kl89,[ke77,ke5,ke98,ke84],kf9),269,kc10,[68],0),
  (73,(kl88,[ke96,ke5,ke99,ke84],kf8),203,kc12,[69],0),
  (74,(kl89,[ke5,ke98,ke84],kf9),268,kc10,[73],0),
  (74,(kl88,[ke100,ke99,ke84],kf8),202,kc12,[75],0),
  (77,(kl89,[ke98,ke84],kf9),273,kc10,[72],0),
  (77,(kl88,[ke99,ke84],kf8),207,kc12,[74],0),
  (78,(kl89,[ke6,ke98,ke84],kf9),272,kc10,[76],0),
  (78,(kl89,[ke5,ke98,ke84],kf9),267,kc10,[76],0),
  (78,(kl88,[ke6,ke99,ke84],kf8),206,kc12,[76],0),
  (78,(kl88,[ke100,ke99,ke84],kf8),201,kc12,[76],0),
  (79,(kl88,[ke54,ke84],kf8),200,kc12,[77],0),
  (82,(kl88,[],kf8),199,kc12,[78],0),
  (85,(kl85,[],kf8),231,kc12,[19],0),
  (88,(kl84,[],kf11),237,kc10,[],0),
  (88,(kl85,[],kf8),0,kc10,[],0)]
def CN133 : List (List ND) := [CN133_0, CN133_1]
theorem CK133 : chkS prot SMs SM133 [] CN133 = true := by decide +kernel
-- OneSided$Memory.begin
def ka71 : AV := (2,59,59,0)
def kl90 : AL := [some ka71,some ka12]
def kc13 : List Int := [0,0]
def ke101 : SE := (ka71,(1,0,0,0,0))
def ke102 : SE := (ka62,(2,59,0,0,0))
def kf12 : FA := [(59,1,ka1)]
def kf13 : FA := [(59,1,ka1),(59,4,ka1)]
def kf14 : FA := [(59,1,ka1),(59,4,ka1),(59,7,ka1)]
def CN134_0 : List ND := [(0,(kl90,[],[]),13,kc13,[1],0),
  (1,(kl90,[ke101],[]),12,kc13,[2],0),
  (4,(kl90,[ke102],[]),11,kc13,[3],0),
  (5,(kl90,[ke88,ke102],[]),10,kc13,[4],133),
  (8,(kl90,[],[]),9,kc13,[5],0),
  (9,(kl90,[ke101],[]),8,kc13,[6],0),
  (10,(kl90,[ke6,ke101],[]),7,kc13,[7],0),
  (13,(kl90,[],kf12),6,kc13,[8],0),
  (14,(kl90,[ke101],kf12),5,kc13,[9],0),
  (15,(kl90,[ke6,ke101],kf12),4,kc13,[10],0),
  (18,(kl90,[],kf13),3,kc13,[11],0),
  (19,(kl90,[ke101],kf13),2,kc13,[12],0),
  (20,(kl90,[ke6,ke101],kf13),1,kc13,[13],0),
  (23,(kl90,[],kf14),0,kc13,[],0)]
def CN134 : List (List ND) := [CN134_0]
theorem CK134 : chkS prot SMs SM134 [] CN134 = true := by decide +kernel
-- OneSided.quarter
def ka72 : AV := (2,1,1,0)
def kl91 : AL := [some ka72,none,none]
def ke103 : SE := (ka72,(1,0,0,0,0))
def ka73 : AV := (2,2,2,0)
def ke104 : SE := (ka73,(2,1,0,0,0))
def ka74 : AV := (2,32,32,0)
def ke105 : SE := (ka74,pv0)
def ke106 : SE := (ka12,pv0)
def ka75 : AV := (0,0,16005,1)
def ke107 : SE := (ka75,(2,2,8,0,0))
def kl92 : AL := [some ka72,some ka75,none]
def ke108 : SE := (ka75,(1,1,0,0,0))
def ka76 : AV := (0,1,16005,1)
def kl93 : AL := [some ka72,some ka76,none]
def ke109 : SE := (ka76,(1,1,0,0,0))
def kl94 : AL := [some ka72,some ka1,none]
def kl95 : AL := [some ka72,some ka1,some ka74]
def kl96 : AL := [some ka72,some ka1,some ka12]
def ke110 : SE := (ka74,(1,2,0,0,0))
def ke111 : SE := (ka12,(1,2,0,0,0))
def kf15 : FA := [(1,1,ka74)]
def kf16 : FA := [(1,1,ka12)]
def ke112 : SE := (ka74,(2,1,1,0,0))
def ke113 : SE := (ka12,(2,1,1,0,0))
def ke114 : SE := (ka71,(2,1,3,0,0))
def kf17 : FA := [(1,1,ka74),(1,6,ka1)]
def kf18 : FA := [(1,1,ka12),(1,6,ka1)]
def kf19 : FA := [(1,1,ka74),(1,6,ka1),(1,9,ka1)]
def kf20 : FA := [(1,1,ka12),(1,6,ka1),(1,9,ka1)]
def CN137_0 : List ND := [(0,(kl91,[],[]),62,kc1,[1],0),
  (1,(kl91,[ke103],[]),61,kc1,[2],0),
  (4,(kl91,[ke104],[]),60,kc1,[3],0),
  (5,(kl91,[ke103,ke104],[]),59,kc1,[5,4],0),
  (8,(kl91,[ke105,ke104],[]),57,kc1,[6],119),
  (8,(kl91,[ke106,ke104],[]),58,kc1,[6],74),
  (11,(kl91,[ke107],[]),56,kc1,[7],0),
  (12,(kl92,[],[]),55,kc1,[8],0),
  (13,(kl92,[ke108],[]),54,kc1,[11,9],0),
  (16,(kl93,[],[]),1,kc1,[10],0),
  (17,(kl93,[ke109],[]),0,kc1,[],0),
  (18,(kl94,[],[]),53,kc1,[12],0),
  (19,(kl94,[ke103],[]),52,kc1,[14,13],0),
  (22,(kl94,[ke105],[]),26,kc1,[15],0),
  (22,(kl94,[ke106],[]),51,kc1,[16],0),
  (23,(kl95,[],[]),25,kc1,[17],0),
  (23,(kl96,[],[]),50,kc1,[18],0),
  (24,(kl95,[ke103],[]),24,kc1,[19],0),
  (24,(kl96,[ke103],[]),49,kc1,[20],0),
  (25,(kl95,[ke103,ke103],[]),23,kc1,[22,21],0),
  (25,(kl96,[ke103,ke103],[]),48,kc1,[24,23],0),
  (28,(kl95,[ke105,ke103],[]),21,kc1,[25],0),
  (28,(kl95,[ke106,ke103],[]),22,kc1,[25],0),
  (28,(kl96,[ke105,ke103],[]),46,kc1,[26],0),
  (28,(kl96,[ke106,ke103],[]),47,kc1,[26],0),
  (31,(kl95,[],[]),20,kc1,[27],0),
  (31,(kl96,[],[]),45,kc1,[28],0),
  (32,(kl95,[ke103],[]),19,kc1,[29],0),
  (32,(kl96,[ke103],[]),44,kc1,[30],0),
  (33,(kl95,[ke110,ke103],[]),18,kc1,[31],0),
  (33,(kl96,[ke111,ke103],[]),43,kc1,[32],0),
  (36,(kl95,[],kf15),17,kc1,[33],0),
  (36,(kl96,[],kf16),42,kc1,[34],0),
  (37,(kl95,[ke103],kf15),16,kc1,[35],0),
  (37,(kl96,[ke103],kf16),41,kc1,[36],0),
  (40,(kl95,[ke112],kf15),15,kc1,[37],131),
  (40,(kl96,[ke113],kf16),40,kc1,[38],126),
  (43,(kl95,[],kf15),14,kc1,[39],0),
  (43,(kl96,[],kf16),39,kc1,[40],0),
  (44,(kl95,[ke103],kf15),13,kc1,[41],0),
  (44,(kl96,[ke103],kf16),38,kc1,[42],0),
  (47,(kl95,[ke114],kf15),12,kc1,[43],0),
  (47,(kl96,[ke114],kf16),37,kc1,[44],0),
  (48,(kl95,[ke103,ke114],kf15),11,kc1,[45],0),
  (48,(kl96,[ke103,ke114],kf16),36,kc1,[46],0),
  (51,(kl95,[ke112,ke114],kf15),10,kc1,[47],136),
  (51,(kl96,[ke113,ke114],kf16),35,kc1,[48],134),
  (54,(kl95,[],kf15),9,kc1,[49],0),
  (54,(kl96,[],kf16),34,kc1,[50],0),
  (55,(kl95,[ke103],kf15),8,kc1,[51],0),
  (55,(kl96,[ke103],kf16),33,kc1,[52],0),
  (56,(kl95,[ke6,ke103],kf15),7,kc1,[53],0),
  (56,(kl96,[ke6,ke103],kf16),32,kc1,[54],0),
  (59,(kl95,[],kf17),6,kc1,[55],0),
  (59,(kl96,[],kf18),31,kc1,[56],0),
  (60,(kl95,[ke103],kf17),5,kc1,[57],0),
  (60,(kl96,[ke103],kf18),30,kc1,[58],0),
  (61,(kl95,[ke6,ke103],kf17),4,kc1,[59],0),
  (61,(kl96,[ke6,ke103],kf18),29,kc1,[60],0),
  (64,(kl95,[],kf19),3,kc1,[61],0),
  (64,(kl96,[],kf20),28,kc1,[62],0),
  (65,(kl95,[ke6],kf19),2,kc1,[],0),
  (65,(kl96,[ke6],kf20),27,kc1,[],0)]
def CN137 : List (List ND) := [CN137_0]
theorem CK137 : chkS prot SMs SM137 [] CN137 = true := by decide +kernel
