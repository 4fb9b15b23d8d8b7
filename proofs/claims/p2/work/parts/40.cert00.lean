/-! LM, by program: certificates 0 -/
-- OneSided$Quarter.fact
def ka0 : AV := (0,-2147483648,2147483647,1)
def kl0 : AL := [some ka0,some ka0,some ka0,some ka0,some ka0]
def kc0 : List Int := [0,0,0,0,0]
def ke0 : SE := (ka0,(1,0,0,0,0))
def ka1 : AV := (0,0,0,0)
def kl1 : AL := [some ka1,some ka0,some ka0,some ka0,some ka0]
def ke1 : SE := (ka0,(1,1,0,0,0))
def ka2 : AV := (0,1,1,0)
def kl2 : AL := [some ka2,some ka0,some ka0,some ka0,some ka0]
def ke2 : SE := (ka0,(1,2,0,0,0))
def ka3 : AV := (0,2,2,0)
def kl3 : AL := [some ka3,some ka0,some ka0,some ka0,some ka0]
def ke3 : SE := (ka0,(1,3,0,0,0))
def ke4 : SE := (ka0,(1,4,0,0,0))
def CN120_0 : List ND := [(0,(kl0,[],[]),9,kc0,[1],0),
  (1,(kl0,[ke0],[]),8,kc0,[8,2,4,6],0),
  (28,(kl1,[],[]),1,kc0,[3],0),
  (29,(kl1,[ke1],[]),0,kc0,[],0),
  (30,(kl2,[],[]),5,kc0,[5],0),
  (31,(kl2,[ke2],[]),4,kc0,[],0),
  (32,(kl3,[],[]),7,kc0,[7],0),
  (33,(kl3,[ke3],[]),6,kc0,[],0),
  (34,(kl0,[],[]),3,kc0,[9],0),
  (36,(kl0,[ke4],[]),2,kc0,[],0)]
def CN120 : List (List ND) := [CN120_0]
theorem CK120 : chkS prot SMs SM120 [] CN120 = true := by decide +kernel
-- OneSided$Quarter.join
def kl4 : AL := [some ka0,some ka0,some ka0]
def kc1 : List Int := [0,0,0]
def ka4 : AV := (0,10005,10005,0)
def kl5 : AL := [some ka4,some ka0,some ka0]
def ke5 : SE := (ka2,pv0)
def ke6 : SE := (ka1,pv0)
def ka5 : AV := (0,10006,10006,0)
def kl6 : AL := [some ka5,some ka0,some ka0]
def kl7 : AL := [some ka5,some ka1,some ka0]
def kl8 : AL := [some ka5,some ka1,some ka1]
def ka6 : AV := (0,10007,10007,0)
def kl9 : AL := [some ka6,some ka0,some ka0]
def ka7 : AV := (0,-2147483648,2147483646,1)
def ka8 : AV := (0,-2147483647,2147483647,1)
def kl10 : AL := [some ka6,some ka7,some ka8]
def ka9 : AV := (0,10008,10008,0)
def kl11 : AL := [some ka9,some ka0,some ka0]
def ka10 : AV := (0,10009,10009,0)
def kl12 : AL := [some ka10,some ka0,some ka0]
def ke7 : SE := (ka0,pv0)
def ka11 : AV := (0,10010,10010,0)
def kl13 : AL := [some ka11,some ka0,some ka0]
def CN121_0 : List ND := [(0,(kl4,[],[]),47,kc1,[1],0),
  (1,(kl4,[ke0],[]),46,kc1,[44,2,11,20,28,36,40],0),
  (40,(kl5,[],[]),24,kc1,[3],0),
  (41,(kl5,[ke1],[]),23,kc1,[8,4],0),
  (44,(kl5,[],[]),22,kc1,[5],0),
  (45,(kl5,[ke2],[]),21,kc1,[8,6],0),
  (48,(kl5,[],[]),18,kc1,[7],0),
  (49,(kl5,[ke5],[]),17,kc1,[10],0),
  (52,(kl5,[],[]),20,kc1,[9],0),
  (53,(kl5,[ke6],[]),19,kc1,[],0),
  (53,(kl5,[ke5],[]),16,kc1,[],0),
  (54,(kl6,[],[]),33,kc1,[12],0),
  (55,(kl6,[ke1],[]),32,kc1,[15,13],0),
  (58,(kl7,[],[]),31,kc1,[14],0),
  (59,(kl7,[ke2],[]),30,kc1,[17,15],0),
  (62,(kl6,[],[]),27,kc1,[16],0),
  (63,(kl6,[ke5],[]),26,kc1,[19],0),
  (66,(kl8,[],[]),29,kc1,[18],0),
  (67,(kl8,[ke6],[]),28,kc1,[],0),
  (67,(kl6,[ke5],[]),25,kc1,[],0),
  (68,(kl9,[],[]),41,kc1,[21],0),
  (69,(kl9,[ke1],[]),40,kc1,[22],0),
  (70,(kl9,[ke2,ke1],[]),39,kc1,[25,23],0),
  (73,(kl10,[],[]),36,kc1,[24],0),
  (74,(kl10,[ke5],[]),35,kc1,[27],0),
  (77,(kl9,[],[]),38,kc1,[26],0),
  (78,(kl9,[ke6],[]),37,kc1,[],0),
  (78,(kl10,[ke5],[]),34,kc1,[],0),
  (79,(kl11,[],[]),7,kc1,[29],0),
  (80,(kl11,[ke1],[]),6,kc1,[30],0),
  (81,(kl11,[ke2,ke1],[]),5,kc1,[33,31],0),
  (84,(kl11,[],[]),4,kc1,[32],0),
  (85,(kl11,[ke5],[]),3,kc1,[35],0),
  (88,(kl11,[],[]),1,kc1,[34],0),
  (89,(kl11,[ke6],[]),0,kc1,[],0),
  (89,(kl11,[ke5],[]),2,kc1,[],0),
  (90,(kl12,[],[]),15,kc1,[37],0),
  (91,(kl12,[ke1],[]),14,kc1,[38],0),
  (92,(kl12,[ke2,ke1],[]),13,kc1,[39],0),
  (93,(kl12,[ke7],[]),12,kc1,[],0),
  (94,(kl13,[],[]),11,kc1,[41],0),
  (95,(kl13,[ke1],[]),10,kc1,[42],0),
  (96,(kl13,[ke2,ke1],[]),9,kc1,[43],0),
  (97,(kl13,[ke7],[]),8,kc1,[],0),
  (98,(kl4,[],[]),45,kc1,[45],0),
  (99,(kl4,[ke1],[]),44,kc1,[46],0),
  (100,(kl4,[ke2,ke1],[]),43,kc1,[47],0),
  (101,(kl4,[ke7],[]),42,kc1,[],0)]
def CN121 : List (List ND) := [CN121_0]
theorem CK121 : chkS prot SMs SM121 [] CN121 = true := by decide +kernel
-- OneSided$Quarter.lawFor
def ka12 : AV := (2,5,5,0)
def kl14 : AL := [some ka12,some ka0,some ka0,some ka0,some ka0,none,none,none]
def kc2 : List Int := [0,0,0,0,0,0,0,0]
def kl15 : AL := [some ka12,some ka0,some ka0,some ka0,some ka0,some ka1,none,none]
def ka13 : AV := (0,0,32,1)
def ka14 : AV := (0,0,1000,1)
def kl16 : AL := [some ka12,some ka0,some ka0,some ka0,some ka0,some ka13,some ka14,none]
def kc3 : List Int := [0,0,0,0,0,0,-81,0]
def kl17 : AL := [some ka12,some ka0,some ka0,some ka0,some ka0,some ka1,some ka1,none]
def ke8 : SE := (ka1,(1,6,0,0,0))
def ke9 : SE := (ka14,(1,6,0,0,0))
def ke10 : SE := (ka12,(1,0,0,0,0))
def ke11 : SE := (ka14,(2,5,6,0,0))
def ka15 : AV := (0,0,999,1)
def kl18 : AL := [some ka12,some ka0,some ka0,some ka0,some ka0,some ka13,some ka15,none]
def ka16 : AV := (0,1,1000,1)
def kf0 : FA := [(5,6,ka16)]
def ka17 : AV := (2,8,8,0)
def ke12 : SE := (ka17,(2,5,5,0,0))
def ke13 : SE := (ka15,(1,6,0,0,0))
def kl19 : AL := [some ka12,some ka0,some ka0,some ka0,some ka0,some ka13,some ka15,some ka0]
def ke14 : SE := (ka0,(1,7,0,0,0))
def ka18 : AV := (0,10004,10004,0)
def ke15 : SE := (ka18,pv0)
def ka19 : AV := (0,10005,2147483647,1)
def kl20 : AL := [some ka12,some ka0,some ka0,some ka0,some ka0,some ka13,some ka15,some ka19]
def kl21 : AL := [some ka12,some ka0,some ka0,some ka0,some ka0,some ka1,some ka1,some ka19]
def ke16 : SE := (ka1,(1,5,0,0,0))
def ke17 : SE := (ka13,(1,5,0,0,0))
def ka20 : AV := (0,2,32,1)
def kl22 : AL := [some ka12,some ka0,some ka0,some ka0,some ka0,some ka20,some ka15,some ka19]
def ka21 : AV := (0,1,31,1)
def kl23 : AL := [some ka12,some ka0,some ka0,some ka0,some ka0,some ka21,some ka15,some ka19]
def ka22 : AV := (2,9,9,0)
def ke18 : SE := (ka22,(2,5,7,0,0))
def ka23 : AV := (0,0,2,1)
def kl24 : AL := [some ka12,some ka0,some ka0,some ka0,some ka0,some ka2,some ka23,some ka19]
def ke19 : SE := (ka2,(1,5,0,0,0))
def ke20 : SE := (ka21,(1,5,0,0,0))
def ka24 : AV := (0,0,30,1)
def ke21 : SE := (ka24,pv0)
def ke22 : SE := (ka19,(1,7,0,0,0))
def ke23 : SE := (ka0,(2,9,0,0,0))
def ke24 : SE := (ka0,(2,9,1,0,0))
def ka25 : AV := (0,-2147483648,10004,1)
def kl25 : AL := [some ka12,some ka0,some ka0,some ka0,some ka0,some ka13,some ka15,some ka25]
def ke25 : SE := (ka25,(1,7,0,0,0))
def kl26 : AL := [some ka12,some ka0,some ka0,some ka0,some ka0,some ka13,some ka15,some ka18]
def kl27 : AL := [some ka12,some ka0,some ka0,some ka0,some ka0,some ka1,some ka1,some ka18]
def ka26 : AV := (0,1,32,1)
def kl28 : AL := [some ka12,some ka0,some ka0,some ka0,some ka0,some ka26,some ka15,some ka18]
def ka27 : AV := (0,0,1,1)
def kl29 : AL := [some ka12,some ka0,some ka0,some ka0,some ka0,some ka2,some ka27,some ka18]
def ke26 : SE := (ka26,(1,5,0,0,0))
def ka28 : AV := (0,0,31,1)
def ke27 : SE := (ka28,pv0)
def kf1 : FA := [(5,6,ka16),(9,0,ka1)]
def kf2 : FA := [(5,6,ka16),(9,0,ka0)]
def ka29 : AV := (0,-2147483648,10003,1)
def kl30 : AL := [some ka12,some ka0,some ka0,some ka0,some ka0,some ka13,some ka15,some ka29]
def kl31 : AL := [some ka12,some ka0,some ka0,some ka0,some ka0,some ka1,some ka1,some ka29]
def ka30 : AV := (0,32,32,0)
def ke28 : SE := (ka30,pv0)
def kl32 : AL := [some ka12,some ka0,some ka0,some ka0,some ka0,some ka28,some ka15,some ka29]
def ke29 : SE := (ka28,(1,5,0,0,0))
def ke30 : SE := (ka29,(1,7,0,0,0))
def ka31 : AV := (0,10000,10000,0)
def ke31 : SE := (ka31,pv0)
def ka32 : AV := (0,-2147483648,9999,1)
def kl33 : AL := [some ka12,some ka0,some ka0,some ka0,some ka0,some ka1,some ka1,some ka32]
def kl34 : AL := [some ka12,some ka0,some ka0,some ka0,some ka0,some ka28,some ka15,some ka32]
def ke32 : SE := (ka32,(1,7,0,0,0))
def ka33 : AV := (0,10000,10003,1)
def kl35 : AL := [some ka12,some ka0,some ka0,some ka0,some ka0,some ka1,some ka1,some ka33]
def kl36 : AL := [some ka12,some ka0,some ka0,some ka0,some ka0,some ka28,some ka15,some ka33]
def ke33 : SE := (ka33,(1,7,0,0,0))
def ka34 : AV := (0,0,3,1)
def ke34 : SE := (ka34,pv0)
def kl37 : AL := [some ka12,some ka0,some ka0,some ka0,some ka0,some ka13,some ka16,some ka0]
def kl38 : AL := [some ka12,some ka0,some ka0,some ka0,some ka0,some ka26,some ka14,none]
def kl39 : AL := [some ka12,some ka0,some ka0,some ka0,some ka0,some ka1,some ka14,none]
def CN122_0 : List ND := [(0,(kl14,[],[]),81094,kc2,[1],0),
  (1,(kl14,[ke6],[]),81093,kc2,[2],0),
  (3,(kl15,[],[]),81092,kc2,[3],0),
  (4,(kl15,[ke6],[]),81091,kc2,[4],0),
  (6,(kl16,[],[]),81089,kc3,[6],0),
  (8,(kl17,[ke8],[]),81097,kc2,[7],0),
  (8,(kl16,[ke9],[]),81088,kc3,[8],0),
  (9,(kl17,[ke10,ke8],[]),81096,kc2,[9],0),
  (9,(kl16,[ke10,ke9],[]),81087,kc3,[10],0),
  (12,(kl17,[ke11,ke8],[]),81095,kc2,[137,11],0),
  (12,(kl16,[ke11,ke9],[]),81086,kc3,[137,11],0),
  (15,(kl18,[],kf0),81085,kc3,[12],0),
  (16,(kl18,[ke10],kf0),81084,kc3,[13],0),
  (19,(kl18,[ke12],kf0),81083,kc3,[15],0),
  (21,(kl17,[ke8,ke12],kf0),81098,kc2,[16],0),
  (21,(kl18,[ke13,ke12],kf0),81082,kc3,[16],0),
  (22,(kl18,[ke7],kf0),81081,kc3,[17],0),
  (24,(kl19,[],kf0),81080,kc3,[18],0),
  (26,(kl19,[ke14],kf0),81079,kc3,[19],0),
  (29,(kl19,[ke15,ke14],kf0),81078,kc3,[60,20],0),
  (32,(kl20,[],kf0),81033,kc3,[22],0),
  (34,(kl21,[ke16],kf0),81100,kc2,[23],0),
  (34,(kl20,[ke17],kf0),81032,kc3,[24],0),
  (35,(kl21,[ke5,ke16],kf0),81099,kc2,[135],0),
  (35,(kl20,[ke5,ke17],kf0),81031,kc3,[135,25],0),
  (38,(kl22,[],kf0),81030,kc3,[26],0),
  (41,(kl23,[],kf0),81029,kc3,[27],0),
  (42,(kl23,[ke10],kf0),81028,kc3,[28],0),
  (45,(kl23,[ke18],kf0),81027,kc3,[30],0),
  (47,(kl24,[ke19,ke18],kf0),81115,kc2,[31],0),
  (47,(kl23,[ke20,ke18],kf0),81026,kc3,[32],0),
  (48,(kl24,[ke5,ke19,ke18],kf0),81114,kc2,[33],0),
  (48,(kl23,[ke5,ke20,ke18],kf0),81025,kc3,[34],0),
  (49,(kl24,[ke6,ke18],kf0),81113,kc2,[35],0),
  (49,(kl23,[ke21,ke18],kf0),81024,kc3,[36],0),
  (51,(kl24,[ke22,ke6,ke18],kf0),81112,kc2,[37],0),
  (51,(kl23,[ke22,ke21,ke18],kf0),81023,kc3,[38],0),
  (52,(kl24,[ke10,ke22,ke6,ke18],kf0),81111,kc2,[39],0),
  (52,(kl23,[ke10,ke22,ke21,ke18],kf0),81022,kc3,[40],0),
  (55,(kl24,[ke18,ke22,ke6,ke18],kf0),81110,kc2,[41],0),
  (55,(kl23,[ke18,ke22,ke21,ke18],kf0),81021,kc3,[42],0),
  (57,(kl24,[ke19,ke18,ke22,ke6,ke18],kf0),81109,kc2,[43],0),
  (57,(kl23,[ke20,ke18,ke22,ke21,ke18],kf0),81020,kc3,[44],0),
  (58,(kl24,[ke5,ke19,ke18,ke22,ke6,ke18],kf0),81108,kc2,[45],0),
  (58,(kl23,[ke5,ke20,ke18,ke22,ke21,ke18],kf0),81019,kc3,[46],0),
  (59,(kl24,[ke6,ke18,ke22,ke6,ke18],kf0),81107,kc2,[47],0),
  (59,(kl23,[ke21,ke18,ke22,ke21,ke18],kf0),81018,kc3,[48],0),
  (60,(kl24,[ke23,ke22,ke6,ke18],kf0),81106,kc2,[49],0),
  (60,(kl23,[ke7,ke22,ke21,ke18],kf0),81017,kc3,[50],0),
  (61,(kl24,[ke10,ke23,ke22,ke6,ke18],kf0),81105,kc2,[51],0),
  (61,(kl23,[ke10,ke7,ke22,ke21,ke18],kf0),81016,kc3,[52],0),
  (64,(kl24,[ke18,ke23,ke22,ke6,ke18],kf0),81104,kc2,[53],0),
  (64,(kl23,[ke18,ke7,ke22,ke21,ke18],kf0),81015,kc3,[54],0),
  (66,(kl24,[ke19,ke18,ke23,ke22,ke6,ke18],kf0),81103,kc2,[55],0),
  (66,(kl23,[ke20,ke18,ke7,ke22,ke21,ke18],kf0),81014,kc3,[56],0),
  (67,(kl24,[ke24,ke23,ke22,ke6,ke18],kf0),81102,kc2,[57],121),
  (67,(kl23,[ke7,ke7,ke22,ke21,ke18],kf0),81013,kc3,[58],121),
  (70,(kl24,[ke7,ke6,ke18],kf0),81101,kc2,[59],0),
  (70,(kl23,[ke7,ke21,ke18],kf0),81012,kc3,[59],0),
  (71,(kl23,[],kf0),81011,kc3,[135],0),
  (74,(kl25,[],kf0),81077,kc3,[61],0),
  (76,(kl25,[ke25],kf0),81076,kc3,[62],0),
  (79,(kl25,[ke15,ke25],kf0),81075,kc3,[98,63],0),
  (82,(kl26,[],kf0),81074,kc3,[65],0)]
def CN122_1 : List ND := [(84,(kl27,[ke16],kf0),81116,kc2,[135],0),
  (84,(kl26,[ke17],kf0),81073,kc3,[135,66],0),
  (87,(kl28,[],kf0),81072,kc3,[67],0),
  (88,(kl28,[ke10],kf0),81071,kc3,[68],0),
  (91,(kl28,[ke18],kf0),81070,kc3,[70],0),
  (93,(kl29,[ke19,ke18],kf0),81130,kc2,[71],0),
  (93,(kl28,[ke26,ke18],kf0),81069,kc3,[72],0),
  (94,(kl29,[ke5,ke19,ke18],kf0),81129,kc2,[73],0),
  (94,(kl28,[ke5,ke26,ke18],kf0),81068,kc3,[74],0),
  (95,(kl29,[ke6,ke18],kf0),81128,kc2,[75],0),
  (95,(kl28,[ke27,ke18],kf0),81067,kc3,[76],0),
  (96,(kl29,[ke10,ke6,ke18],kf0),81127,kc2,[77],0),
  (96,(kl28,[ke10,ke27,ke18],kf0),81066,kc3,[78],0),
  (99,(kl29,[ke18,ke6,ke18],kf0),81126,kc2,[79],0),
  (99,(kl28,[ke18,ke27,ke18],kf0),81065,kc3,[80],0),
  (101,(kl29,[ke19,ke18,ke6,ke18],kf0),81125,kc2,[81],0),
  (101,(kl28,[ke26,ke18,ke27,ke18],kf0),81064,kc3,[82],0),
  (102,(kl29,[ke5,ke19,ke18,ke6,ke18],kf0),81124,kc2,[83],0),
  (102,(kl28,[ke5,ke26,ke18,ke27,ke18],kf0),81063,kc3,[84],0),
  (103,(kl29,[ke6,ke18,ke6,ke18],kf0),81123,kc2,[85],0),
  (103,(kl28,[ke27,ke18,ke27,ke18],kf0),81062,kc3,[86],0),
  (104,(kl29,[ke23,ke6,ke18],kf0),81122,kc2,[91,87],0),
  (104,(kl28,[ke7,ke27,ke18],kf0),81061,kc3,[92,88],0),
  (107,(kl29,[ke6,ke18],kf1),81121,kc2,[89],0),
  (107,(kl28,[ke27,ke18],kf0),81058,kc3,[90],0),
  (108,(kl29,[ke5,ke6,ke18],kf1),81120,kc2,[94],0),
  (108,(kl28,[ke5,ke27,ke18],kf0),81057,kc3,[96],0),
  (111,(kl29,[ke6,ke18],kf2),81118,kc2,[93],0),
  (111,(kl28,[ke27,ke18],kf0),81060,kc3,[95],0),
  (112,(kl29,[ke6,ke6,ke18],kf2),81117,kc2,[97],0),
  (112,(kl29,[ke5,ke6,ke18],kf1),81119,kc2,[97],0),
  (112,(kl28,[ke6,ke27,ke18],kf0),81059,kc3,[97],0),
  (112,(kl28,[ke5,ke27,ke18],kf0),81056,kc3,[97],0),
  (113,(kl28,[],kf0),81055,kc3,[135],0),
  (116,(kl30,[],kf0),81054,kc3,[100],0),
  (118,(kl31,[ke16],kf0),81132,kc2,[101],0),
  (118,(kl30,[ke17],kf0),81053,kc3,[102],0),
  (120,(kl31,[ke28,ke16],kf0),81131,kc2,[103],0),
  (120,(kl30,[ke28,ke17],kf0),81052,kc3,[135,103],0),
  (123,(kl32,[],kf0),81051,kc3,[104],0),
  (124,(kl32,[ke10],kf0),81050,kc3,[105],0),
  (127,(kl32,[ke18],kf0),81049,kc3,[107],0),
  (129,(kl31,[ke16,ke18],kf0),81146,kc2,[108],0),
  (129,(kl32,[ke29,ke18],kf0),81048,kc3,[109],0),
  (131,(kl31,[ke30,ke16,ke18],kf0),81145,kc2,[110],0),
  (131,(kl32,[ke30,ke29,ke18],kf0),81047,kc3,[111],0),
  (134,(kl31,[ke31,ke30,ke16,ke18],kf0),81144,kc2,[116,112],0),
  (134,(kl32,[ke31,ke30,ke29,ke18],kf0),81046,kc3,[117,113],0),
  (137,(kl33,[ke16,ke18],kf0),81143,kc2,[114],0),
  (137,(kl34,[ke29,ke18],kf0),81037,kc3,[115],0),
  (139,(kl33,[ke32,ke16,ke18],kf0),81142,kc2,[132],0),
  (139,(kl34,[ke32,ke29,ke18],kf0),81036,kc3,[133],0),
  (142,(kl35,[ke16,ke18],kf0),81141,kc2,[118],0),
  (142,(kl36,[ke29,ke18],kf0),81045,kc3,[119],0),
  (144,(kl35,[ke33,ke16,ke18],kf0),81140,kc2,[120],0),
  (144,(kl36,[ke33,ke29,ke18],kf0),81044,kc3,[121],0),
  (147,(kl35,[ke31,ke33,ke16,ke18],kf0),81139,kc2,[122],0),
  (147,(kl36,[ke31,ke33,ke29,ke18],kf0),81043,kc3,[123],0),
  (148,(kl35,[ke34,ke16,ke18],kf0),81138,kc2,[124],0),
  (148,(kl36,[ke34,ke29,ke18],kf0),81042,kc3,[125],0),
  (149,(kl35,[ke1,ke34,ke16,ke18],kf0),81137,kc2,[126],0),
  (149,(kl36,[ke1,ke34,ke29,ke18],kf0),81041,kc3,[127],0),
  (150,(kl35,[ke2,ke1,ke34,ke16,ke18],kf0),81136,kc2,[128],0),
  (150,(kl36,[ke2,ke1,ke34,ke29,ke18],kf0),81040,kc3,[129],0)]
def CN122_2 : List ND := [(151,(kl35,[ke3,ke2,ke1,ke34,ke16,ke18],kf0),81135,kc2,[130],0),
  (151,(kl36,[ke3,ke2,ke1,ke34,ke29,ke18],kf0),81039,kc3,[131],0),
  (153,(kl35,[ke4,ke3,ke2,ke1,ke34,ke16,ke18],kf0),81134,kc2,[132],120),
  (153,(kl36,[ke4,ke3,ke2,ke1,ke34,ke29,ke18],kf0),81038,kc3,[133],120),
  (156,(kl31,[ke7,ke16,ke18],kf0),81133,kc2,[134],0),
  (156,(kl32,[ke7,ke29,ke18],kf0),81035,kc3,[134],0),
  (157,(kl32,[],kf0),81034,kc3,[135],0),
  (160,(kl19,[],kf0),81010,kc3,[136],0),
  (163,(kl37,[],kf0),81090,kc3,[4],0),
  (166,(kl16,[],[]),9,kc2,[138],0),
  (168,(kl16,[ke17],[]),8,kc2,[144,139],0),
  (171,(kl38,[],[]),7,kc2,[140],0),
  (172,(kl38,[ke10],[]),6,kc2,[141],0),
  (175,(kl38,[ke18],[]),5,kc2,[142],0),
  (176,(kl38,[ke6,ke18],[]),4,kc2,[143],0),
  (177,(kl38,[ke23],[]),3,kc2,[146],0),
  (180,(kl39,[],[]),1,kc2,[145],0),
  (181,(kl39,[ke5],[]),0,kc2,[],0),
  (181,(kl38,[ke23],[]),2,kc2,[],0)]
def CN122 : List (List ND) := [CN122_0, CN122_1, CN122_2]
theorem CK122 : chkS prot SMs SM122 [] CN122 = true := by decide +kernel
-- OneSided$Quarter.lawFor
def ka35 : AV := (2,32,32,0)
def kl40 : AL := [some ka35,some ka0,some ka0,some ka0,some ka0,none,none,none]
def kl41 : AL := [some ka35,some ka0,some ka0,some ka0,some ka0,some ka1,none,none]
def kl42 : AL := [some ka35,some ka0,some ka0,some ka0,some ka0,some ka13,some ka14,none]
def kl43 : AL := [some ka35,some ka0,some ka0,some ka0,some ka0,some ka1,some ka1,none]
def ke35 : SE := (ka35,(1,0,0,0,0))
def ke36 : SE := (ka14,(2,32,6,0,0))
def kl44 : AL := [some ka35,some ka0,some ka0,some ka0,some ka0,some ka13,some ka15,none]
def kf3 : FA := [(32,6,ka16)]
def ka36 : AV := (2,35,35,0)
def ke37 : SE := (ka36,(2,32,5,0,0))
def kl45 : AL := [some ka35,some ka0,some ka0,some ka0,some ka0,some ka13,some ka15,some ka0]
def kl46 : AL := [some ka35,some ka0,some ka0,some ka0,some ka0,some ka13,some ka15,some ka19]
def kl47 : AL := [some ka35,some ka0,some ka0,some ka0,some ka0,some ka1,some ka1,some ka19]
def kl48 : AL := [some ka35,some ka0,some ka0,some ka0,some ka0,some ka20,some ka15,some ka19]
def kl49 : AL := [some ka35,some ka0,some ka0,some ka0,some ka0,some ka21,some ka15,some ka19]
def ka37 : AV := (2,36,36,0)
def ke38 : SE := (ka37,(2,32,7,0,0))
def kl50 : AL := [some ka35,some ka0,some ka0,some ka0,some ka0,some ka2,some ka23,some ka19]
def ke39 : SE := (ka0,(2,36,0,0,0))
def ke40 : SE := (ka0,(2,36,1,0,0))
def kl51 : AL := [some ka35,some ka0,some ka0,some ka0,some ka0,some ka13,some ka15,some ka25]
def kl52 : AL := [some ka35,some ka0,some ka0,some ka0,some ka0,some ka13,some ka15,some ka18]
def kl53 : AL := [some ka35,some ka0,some ka0,some ka0,some ka0,some ka1,some ka1,some ka18]
def kl54 : AL := [some ka35,some ka0,some ka0,some ka0,some ka0,some ka26,some ka15,some ka18]
def kl55 : AL := [some ka35,some ka0,some ka0,some ka0,some ka0,some ka2,some ka27,some ka18]
def kf4 : FA := [(32,6,ka16),(36,0,ka1)]
def kf5 : FA := [(32,6,ka16),(36,0,ka0)]
def kl56 : AL := [some ka35,some ka0,some ka0,some ka0,some ka0,some ka13,some ka15,some ka29]
def kl57 : AL := [some ka35,some ka0,some ka0,some ka0,some ka0,some ka1,some ka1,some ka29]
def kl58 : AL := [some ka35,some ka0,some ka0,some ka0,some ka0,some ka28,some ka15,some ka29]
def kl59 : AL := [some ka35,some ka0,some ka0,some ka0,some ka0,some ka1,some ka1,some ka32]
def kl60 : AL := [some ka35,some ka0,some ka0,some ka0,some ka0,some ka28,some ka15,some ka32]
def kl61 : AL := [some ka35,some ka0,some ka0,some ka0,some ka0,some ka1,some ka1,some ka33]
def kl62 : AL := [some ka35,some ka0,some ka0,some ka0,some ka0,some ka28,some ka15,some ka33]
def kl63 : AL := [some ka35,some ka0,some ka0,some ka0,some ka0,some ka13,some ka16,some ka0]
def kl64 : AL := [some ka35,some ka0,some ka0,some ka0,some ka0,some ka26,some ka14,none]
def kl65 : AL := [some ka35,some ka0,some ka0,some ka0,some ka0,some ka1,some ka14,none]
def CN127_0 : List ND := [(0,(kl40,[],[]),81094,kc2,[1],0),
  (1,(kl40,[ke6],[]),81093,kc2,[2],0),
  (3,(kl41,[],[]),81092,kc2,[3],0),
  (4,(kl41,[ke6],[]),81091,kc2,[4],0),
  (6,(kl42,[],[]),81089,kc3,[6],0),
  (8,(kl43,[ke8],[]),81097,kc2,[7],0),
  (8,(kl42,[ke9],[]),81088,kc3,[8],0),
  (9,(kl43,[ke35,ke8],[]),81096,kc2,[9],0),
  (9,(kl42,[ke35,ke9],[]),81087,kc3,[10],0),
  (12,(kl43,[ke36,ke8],[]),81095,kc2,[137,11],0),
  (12,(kl42,[ke36,ke9],[]),81086,kc3,[137,11],0),
  (15,(kl44,[],kf3),81085,kc3,[12],0),
  (16,(kl44,[ke35],kf3),81084,kc3,[13],0),
  (19,(kl44,[ke37],kf3),81083,kc3,[15],0),
  (21,(kl43,[ke8,ke37],kf3),81098,kc2,[16],0),
  (21,(kl44,[ke13,ke37],kf3),81082,kc3,[16],0),
  (22,(kl44,[ke7],kf3),81081,kc3,[17],0),
  (24,(kl45,[],kf3),81080,kc3,[18],0),
  (26,(kl45,[ke14],kf3),81079,kc3,[19],0),
  (29,(kl45,[ke15,ke14],kf3),81078,kc3,[60,20],0),
  (32,(kl46,[],kf3),81033,kc3,[22],0),
  (34,(kl47,[ke16],kf3),81100,kc2,[23],0),
  (34,(kl46,[ke17],kf3),81032,kc3,[24],0),
  (35,(kl47,[ke5,ke16],kf3),81099,kc2,[135],0),
  (35,(kl46,[ke5,ke17],kf3),81031,kc3,[135,25],0),
  (38,(kl48,[],kf3),81030,kc3,[26],0),
  (41,(kl49,[],kf3),81029,kc3,[27],0),
  (42,(kl49,[ke35],kf3),81028,kc3,[28],0),
  (45,(kl49,[ke38],kf3),81027,kc3,[30],0),
  (47,(kl50,[ke19,ke38],kf3),81115,kc2,[31],0),
  (47,(kl49,[ke20,ke38],kf3),81026,kc3,[32],0),
  (48,(kl50,[ke5,ke19,ke38],kf3),81114,kc2,[33],0),
  (48,(kl49,[ke5,ke20,ke38],kf3),81025,kc3,[34],0),
  (49,(kl50,[ke6,ke38],kf3),81113,kc2,[35],0),
  (49,(kl49,[ke21,ke38],kf3),81024,kc3,[36],0),
  (51,(kl50,[ke22,ke6,ke38],kf3),81112,kc2,[37],0),
  (51,(kl49,[ke22,ke21,ke38],kf3),81023,kc3,[38],0),
  (52,(kl50,[ke35,ke22,ke6,ke38],kf3),81111,kc2,[39],0),
  (52,(kl49,[ke35,ke22,ke21,ke38],kf3),81022,kc3,[40],0),
  (55,(kl50,[ke38,ke22,ke6,ke38],kf3),81110,kc2,[41],0),
  (55,(kl49,[ke38,ke22,ke21,ke38],kf3),81021,kc3,[42],0),
  (57,(kl50,[ke19,ke38,ke22,ke6,ke38],kf3),81109,kc2,[43],0),
  (57,(kl49,[ke20,ke38,ke22,ke21,ke38],kf3),81020,kc3,[44],0),
  (58,(kl50,[ke5,ke19,ke38,ke22,ke6,ke38],kf3),81108,kc2,[45],0),
  (58,(kl49,[ke5,ke20,ke38,ke22,ke21,ke38],kf3),81019,kc3,[46],0),
  (59,(kl50,[ke6,ke38,ke22,ke6,ke38],kf3),81107,kc2,[47],0),
  (59,(kl49,[ke21,ke38,ke22,ke21,ke38],kf3),81018,kc3,[48],0),
  (60,(kl50,[ke39,ke22,ke6,ke38],kf3),81106,kc2,[49],0),
  (60,(kl49,[ke7,ke22,ke21,ke38],kf3),81017,kc3,[50],0),
  (61,(kl50,[ke35,ke39,ke22,ke6,ke38],kf3),81105,kc2,[51],0),
  (61,(kl49,[ke35,ke7,ke22,ke21,ke38],kf3),81016,kc3,[52],0),
  (64,(kl50,[ke38,ke39,ke22,ke6,ke38],kf3),81104,kc2,[53],0),
  (64,(kl49,[ke38,ke7,ke22,ke21,ke38],kf3),81015,kc3,[54],0),
  (66,(kl50,[ke19,ke38,ke39,ke22,ke6,ke38],kf3),81103,kc2,[55],0),
  (66,(kl49,[ke20,ke38,ke7,ke22,ke21,ke38],kf3),81014,kc3,[56],0),
  (67,(kl50,[ke40,ke39,ke22,ke6,ke38],kf3),81102,kc2,[57],121),
  (67,(kl49,[ke7,ke7,ke22,ke21,ke38],kf3),81013,kc3,[58],121),
  (70,(kl50,[ke7,ke6,ke38],kf3),81101,kc2,[59],0),
  (70,(kl49,[ke7,ke21,ke38],kf3),81012,kc3,[59],0),
  (71,(kl49,[],kf3),81011,kc3,[135],0),
  (74,(kl51,[],kf3),81077,kc3,[61],0),
  (76,(kl51,[ke25],kf3),81076,kc3,[62],0),
  (79,(kl51,[ke15,ke25],kf3),81075,kc3,[98,63],0),
  (82,(kl52,[],kf3),81074,kc3,[65],0)]
def CN127_1 : List ND := [(84,(kl53,[ke16],kf3),81116,kc2,[135],0),
  (84,(kl52,[ke17],kf3),81073,kc3,[135,66],0),
  (87,(kl54,[],kf3),81072,kc3,[67],0),
  (88,(kl54,[ke35],kf3),81071,kc3,[68],0),
  (91,(kl54,[ke38],kf3),81070,kc3,[70],0),
  (93,(kl55,[ke19,ke38],kf3),81130,kc2,[71],0),
  (93,(kl54,[ke26,ke38],kf3),81069,kc3,[72],0),
  (94,(kl55,[ke5,ke19,ke38],kf3),81129,kc2,[73],0),
  (94,(kl54,[ke5,ke26,ke38],kf3),81068,kc3,[74],0),
  (95,(kl55,[ke6,ke38],kf3),81128,kc2,[75],0),
  (95,(kl54,[ke27,ke38],kf3),81067,kc3,[76],0),
  (96,(kl55,[ke35,ke6,ke38],kf3),81127,kc2,[77],0),
  (96,(kl54,[ke35,ke27,ke38],kf3),81066,kc3,[78],0),
  (99,(kl55,[ke38,ke6,ke38],kf3),81126,kc2,[79],0),
  (99,(kl54,[ke38,ke27,ke38],kf3),81065,kc3,[80],0),
  (101,(kl55,[ke19,ke38,ke6,ke38],kf3),81125,kc2,[81],0),
  (101,(kl54,[ke26,ke38,ke27,ke38],kf3),81064,kc3,[82],0),
  (102,(kl55,[ke5,ke19,ke38,ke6,ke38],kf3),81124,kc2,[83],0),
  (102,(kl54,[ke5,ke26,ke38,ke27,ke38],kf3),81063,kc3,[84],0),
  (103,(kl55,[ke6,ke38,ke6,ke38],kf3),81123,kc2,[85],0),
  (103,(kl54,[ke27,ke38,ke27,ke38],kf3),81062,kc3,[86],0),
  (104,(kl55,[ke39,ke6,ke38],kf3),81122,kc2,[91,87],0),
  (104,(kl54,[ke7,ke27,ke38],kf3),81061,kc3,[92,88],0),
  (107,(kl55,[ke6,ke38],kf4),81121,kc2,[89],0),
  (107,(kl54,[ke27,ke38],kf3),81058,kc3,[90],0),
  (108,(kl55,[ke5,ke6,ke38],kf4),81120,kc2,[94],0),
  (108,(kl54,[ke5,ke27,ke38],kf3),81057,kc3,[96],0),
  (111,(kl55,[ke6,ke38],kf5),81118,kc2,[93],0),
  (111,(kl54,[ke27,ke38],kf3),81060,kc3,[95],0),
  (112,(kl55,[ke6,ke6,ke38],kf5),81117,kc2,[97],0),
  (112,(kl55,[ke5,ke6,ke38],kf4),81119,kc2,[97],0),
  (112,(kl54,[ke6,ke27,ke38],kf3),81059,kc3,[97],0),
  (112,(kl54,[ke5,ke27,ke38],kf3),81056,kc3,[97],0),
  (113,(kl54,[],kf3),81055,kc3,[135],0),
  (116,(kl56,[],kf3),81054,kc3,[100],0),
  (118,(kl57,[ke16],kf3),81132,kc2,[101],0),
  (118,(kl56,[ke17],kf3),81053,kc3,[102],0),
  (120,(kl57,[ke28,ke16],kf3),81131,kc2,[103],0),
  (120,(kl56,[ke28,ke17],kf3),81052,kc3,[135,103],0),
  (123,(kl58,[],kf3),81051,kc3,[104],0),
  (124,(kl58,[ke35],kf3),81050,kc3,[105],0),
  (127,(kl58,[ke38],kf3),81049,kc3,[107],0),
  (129,(kl57,[ke16,ke38],kf3),81146,kc2,[108],0),
  (129,(kl58,[ke29,ke38],kf3),81048,kc3,[109],0),
  (131,(kl57,[ke30,ke16,ke38],kf3),81145,kc2,[110],0),
  (131,(kl58,[ke30,ke29,ke38],kf3),81047,kc3,[111],0),
  (134,(kl57,[ke31,ke30,ke16,ke38],kf3),81144,kc2,[116,112],0),
  (134,(kl58,[ke31,ke30,ke29,ke38],kf3),81046,kc3,[117,113],0),
  (137,(kl59,[ke16,ke38],kf3),81143,kc2,[114],0),
  (137,(kl60,[ke29,ke38],kf3),81037,kc3,[115],0),
  (139,(kl59,[ke32,ke16,ke38],kf3),81142,kc2,[132],0),
  (139,(kl60,[ke32,ke29,ke38],kf3),81036,kc3,[133],0),
  (142,(kl61,[ke16,ke38],kf3),81141,kc2,[118],0),
  (142,(kl62,[ke29,ke38],kf3),81045,kc3,[119],0),
  (144,(kl61,[ke33,ke16,ke38],kf3),81140,kc2,[120],0),
  (144,(kl62,[ke33,ke29,ke38],kf3),81044,kc3,[121],0),
  (147,(kl61,[ke31,ke33,ke16,ke38],kf3),81139,kc2,[122],0),
  (147,(kl62,[ke31,ke33,ke29,ke38],kf3),81043,kc3,[123],0),
  (148,(kl61,[ke34,ke16,ke38],kf3),81138,kc2,[124],0),
  (148,(kl62,[ke34,ke29,ke38],kf3),81042,kc3,[125],0),
  (149,(kl61,[ke1,ke34,ke16,ke38],kf3),81137,kc2,[126],0),
  (149,(kl62,[ke1,ke34,ke29,ke38],kf3),81041,kc3,[127],0),
  (150,(kl61,[ke2,ke1,ke34,ke16,ke38],kf3),81136,kc2,[128],0),
  (150,(kl62,[ke2,ke1,ke34,ke29,ke38],kf3),81040,kc3,[129],0)]
def CN127_2 : List ND := [(151,(kl61,[ke3,ke2,ke1,ke34,ke16,ke38],kf3),81135,kc2,[130],0),
  (151,(kl62,[ke3,ke2,ke1,ke34,ke29,ke38],kf3),81039,kc3,[131],0),
  (153,(kl61,[ke4,ke3,ke2,ke1,ke34,ke16,ke38],kf3),81134,kc2,[132],120),
  (153,(kl62,[ke4,ke3,ke2,ke1,ke34,ke29,ke38],kf3),81038,kc3,[133],120),
  (156,(kl57,[ke7,ke16,ke38],kf3),81133,kc2,[134],0),
  (156,(kl58,[ke7,ke29,ke38],kf3),81035,kc3,[134],0),
  (157,(kl58,[],kf3),81034,kc3,[135],0),
  (160,(kl45,[],kf3),81010,kc3,[136],0),
  (163,(kl63,[],kf3),81090,kc3,[4],0),
  (166,(kl42,[],[]),9,kc2,[138],0),
  (168,(kl42,[ke17],[]),8,kc2,[144,139],0),
  (171,(kl64,[],[]),7,kc2,[140],0),
  (172,(kl64,[ke35],[]),6,kc2,[141],0),
  (175,(kl64,[ke38],[]),5,kc2,[142],0),
  (176,(kl64,[ke6,ke38],[]),4,kc2,[143],0),
  (177,(kl64,[ke39],[]),3,kc2,[146],0),
  (180,(kl65,[],[]),1,kc2,[145],0),
  (181,(kl65,[ke5],[]),0,kc2,[],0),
  (181,(kl64,[ke39],[]),2,kc2,[],0)]
def CN127 : List (List ND) := [CN127_0, CN127_1, CN127_2]
theorem CK127 : chkS prot SMs SM127 [] CN127 = true := by decide +kernel
-- OneSided$Quarter.aheadIn
def ka38 : AV := (0,0,25,1)
def kl66 : AL := [some ka12,some ka34,some ka38,some ka0]
def kc4 : List Int := [0,0,0,0]
def ke41 : SE := (ka38,(1,2,0,0,0))
def ka39 : AV := (0,24,24,0)
def ke42 : SE := (ka39,pv0)
def ka40 : AV := (0,0,23,1)
def kl67 : AL := [some ka12,some ka34,some ka40,some ka0]
def ka41 : AV := (2,10,10,0)
def ke43 : SE := (ka41,(2,5,8,0,0))
def ke44 : SE := (ka34,(1,1,0,0,0))
def ka42 : AV := (0,0,72,24)
def ke45 : SE := (ka42,pv0)
def ke46 : SE := (ka40,(1,2,0,0,0))
def ka43 : AV := (0,0,95,1)
def ke47 : SE := (ka43,pv0)
def ka44 : AV := (0,-1,-1,0)
def ke48 : SE := (ka44,pv0)
def ka45 : AV := (0,24,25,1)
def kl68 : AL := [some ka12,some ka34,some ka45,some ka0]
def CN150_0 : List ND := [(0,(kl66,[],[]),18,kc4,[1],0),
  (1,(kl66,[ke41],[]),17,kc4,[2],0),
  (3,(kl66,[ke42,ke41],[]),16,kc4,[16,3],0),
  (6,(kl67,[],[]),15,kc4,[4],0),
  (7,(kl67,[ke10],[]),14,kc4,[5],0),
  (10,(kl67,[ke43],[]),13,kc4,[6],0),
  (11,(kl67,[ke44,ke43],[]),12,kc4,[7],0),
  (13,(kl67,[ke42,ke44,ke43],[]),11,kc4,[8],0),
  (14,(kl67,[ke45,ke43],[]),10,kc4,[9],0),
  (15,(kl67,[ke46,ke45,ke43],[]),9,kc4,[10],0),
  (16,(kl67,[ke47,ke43],[]),8,kc4,[11],0),
  (17,(kl67,[ke7],[]),7,kc4,[12],0),
  (18,(kl67,[ke3,ke7],[]),6,kc4,[13],0),
  (19,(kl67,[ke48,ke3,ke7],[]),5,kc4,[14],0),
  (20,(kl67,[ke7,ke7],[]),4,kc4,[15],0),
  (21,(kl67,[ke7],[]),3,kc4,[18],0),
  (24,(kl68,[],[]),1,kc4,[17],0),
  (25,(kl68,[ke6],[]),0,kc4,[],0),
  (25,(kl67,[ke7],[]),2,kc4,[],0)]
def CN150 : List (List ND) := [CN150_0]
theorem CK150 : chkS prot SMs SM150 [] CN150 = true := by decide +kernel
-- OneSided$Quarter.backIn
def ka46 : AV := (2,11,11,0)
def ke49 : SE := (ka46,(2,5,9,0,0))
def CN151_0 : List ND := [(0,(kl66,[],[]),18,kc4,[1],0),
  (1,(kl66,[ke41],[]),17,kc4,[2],0),
  (3,(kl66,[ke42,ke41],[]),16,kc4,[16,3],0),
  (6,(kl67,[],[]),15,kc4,[4],0),
  (7,(kl67,[ke10],[]),14,kc4,[5],0),
  (10,(kl67,[ke49],[]),13,kc4,[6],0),
  (11,(kl67,[ke44,ke49],[]),12,kc4,[7],0),
  (13,(kl67,[ke42,ke44,ke49],[]),11,kc4,[8],0),
  (14,(kl67,[ke45,ke49],[]),10,kc4,[9],0),
  (15,(kl67,[ke46,ke45,ke49],[]),9,kc4,[10],0),
  (16,(kl67,[ke47,ke49],[]),8,kc4,[11],0),
  (17,(kl67,[ke7],[]),7,kc4,[12],0),
  (18,(kl67,[ke3,ke7],[]),6,kc4,[13],0),
  (19,(kl67,[ke48,ke3,ke7],[]),5,kc4,[14],0),
  (20,(kl67,[ke7,ke7],[]),4,kc4,[15],0),
  (21,(kl67,[ke7],[]),3,kc4,[18],0),
  (24,(kl68,[],[]),1,kc4,[17],0),
  (25,(kl68,[ke6],[]),0,kc4,[],0),
  (25,(kl67,[ke7],[]),2,kc4,[],0)]
def CN151 : List (List ND) := [CN151_0]
theorem CK151 : chkS prot SMs SM151 [] CN151 = true := by decide +kernel
-- OneSided$Quarter.into
def ka47 : AV := (0,0,13,1)
def ka48 : AV := (0,0,9,1)
def kl69 : AL := [some ka12,some ka47,some ka34,some ka48,some ka38,some ka0,none]
def kc5 : List Int := [0,0,0,0,0,0,0]
def ka49 : AV := (2,6,6,0)
def ke50 : SE := (ka49,(2,5,1,0,0))
def ke51 : SE := (ka47,(1,1,0,0,0))
def ka50 : AV := (2,12,25,1)
def ke52 : SE := (ka50,pv0)
def kl70 : AL := [some ka12,some ka47,some ka34,some ka48,some ka38,some ka0,some ka50]
def ke53 : SE := (ka50,(1,6,0,0,0))
def ke54 : SE := (ka48,pv0)
def ke55 : SE := (ka48,(1,3,0,0,0))
def ke56 : SE := (ka34,(1,2,0,0,0))
def ke57 : SE := (ka38,(1,4,0,0,0))
def ke58 : SE := (ka0,(1,5,0,0,0))
def ke59 : SE := (ka27,pv0)
def CN152_0 : List ND := [(0,(kl69,[],[]),40,kc5,[1],0),
  (1,(kl69,[ke10],[]),39,kc5,[2],0),
  (4,(kl69,[ke50],[]),38,kc5,[3],0),
  (5,(kl69,[ke51,ke50],[]),37,kc5,[4],0),
  (6,(kl69,[ke52],[]),36,kc5,[5],0),
  (8,(kl70,[],[]),35,kc5,[6],0),
  (10,(kl70,[ke53],[]),34,kc5,[7],0),
  (13,(kl70,[ke54],[]),33,kc5,[8],0),
  (14,(kl70,[ke55,ke54],[]),32,kc5,[22,9],0),
  (17,(kl70,[],[]),31,kc5,[10],0),
  (18,(kl70,[ke10],[]),30,kc5,[11],0),
  (19,(kl70,[ke56,ke10],[]),29,kc5,[12],0),
  (21,(kl70,[ke57,ke56,ke10],[]),28,kc5,[13],0),
  (23,(kl70,[ke58,ke57,ke56,ke10],[]),27,kc5,[14],150),
  (26,(kl70,[ke7],[]),26,kc5,[15],0),
  (27,(kl70,[ke51,ke7],[]),25,kc5,[16],0),
  (28,(kl70,[ke7],[]),24,kc5,[17],0),
  (29,(kl70,[ke5,ke7],[]),23,kc5,[18],0),
  (30,(kl70,[ke59],[]),22,kc5,[22,19],0),
  (33,(kl70,[],[]),2,kc5,[20],0),
  (35,(kl70,[ke53],[]),1,kc5,[21],0),
  (38,(kl70,[ke54],[]),0,kc5,[],0),
  (39,(kl70,[],[]),21,kc5,[23],0),
  (41,(kl70,[ke53],[]),20,kc5,[24],0),
  (44,(kl70,[ke54],[]),19,kc5,[25],0),
  (45,(kl70,[ke55,ke54],[]),18,kc5,[39,26],0),
  (48,(kl70,[],[]),17,kc5,[27],0),
  (49,(kl70,[ke10],[]),16,kc5,[28],0),
  (50,(kl70,[ke56,ke10],[]),15,kc5,[29],0),
  (52,(kl70,[ke57,ke56,ke10],[]),14,kc5,[30],0),
  (54,(kl70,[ke58,ke57,ke56,ke10],[]),13,kc5,[31],151),
  (57,(kl70,[ke7],[]),12,kc5,[32],0),
  (58,(kl70,[ke51,ke7],[]),11,kc5,[33],0),
  (59,(kl70,[ke7],[]),10,kc5,[34],0),
  (60,(kl70,[ke5,ke7],[]),9,kc5,[35],0),
  (61,(kl70,[ke59],[]),8,kc5,[39,36],0),
  (64,(kl70,[],[]),5,kc5,[37],0),
  (66,(kl70,[ke53],[]),4,kc5,[38],0),
  (69,(kl70,[ke54],[]),3,kc5,[],0),
  (70,(kl70,[],[]),7,kc5,[40],0),
  (71,(kl70,[ke48],[]),6,kc5,[],0)]
def CN152 : List (List ND) := [CN152_0]
theorem CK152 : chkS prot SMs SM152 [] CN152 = true := by decide +kernel
-- OneSided$Quarter.aheadIn
def kl71 : AL := [some ka35,some ka34,some ka38,some ka0]
def kl72 : AL := [some ka35,some ka34,some ka40,some ka0]
def ka51 : AV := (2,37,37,0)
def ke60 : SE := (ka51,(2,32,8,0,0))
def kl73 : AL := [some ka35,some ka34,some ka45,some ka0]
def CN153_0 : List ND := [(0,(kl71,[],[]),18,kc4,[1],0),
  (1,(kl71,[ke41],[]),17,kc4,[2],0),
  (3,(kl71,[ke42,ke41],[]),16,kc4,[16,3],0),
  (6,(kl72,[],[]),15,kc4,[4],0),
  (7,(kl72,[ke35],[]),14,kc4,[5],0),
  (10,(kl72,[ke60],[]),13,kc4,[6],0),
  (11,(kl72,[ke44,ke60],[]),12,kc4,[7],0),
  (13,(kl72,[ke42,ke44,ke60],[]),11,kc4,[8],0),
  (14,(kl72,[ke45,ke60],[]),10,kc4,[9],0),
  (15,(kl72,[ke46,ke45,ke60],[]),9,kc4,[10],0),
  (16,(kl72,[ke47,ke60],[]),8,kc4,[11],0),
  (17,(kl72,[ke7],[]),7,kc4,[12],0),
  (18,(kl72,[ke3,ke7],[]),6,kc4,[13],0),
  (19,(kl72,[ke48,ke3,ke7],[]),5,kc4,[14],0),
  (20,(kl72,[ke7,ke7],[]),4,kc4,[15],0),
  (21,(kl72,[ke7],[]),3,kc4,[18],0),
  (24,(kl73,[],[]),1,kc4,[17],0),
  (25,(kl73,[ke6],[]),0,kc4,[],0),
  (25,(kl72,[ke7],[]),2,kc4,[],0)]
def CN153 : List (List ND) := [CN153_0]
theorem CK153 : chkS prot SMs SM153 [] CN153 = true := by decide +kernel
-- OneSided$Quarter.backIn
def ka52 : AV := (2,38,38,0)
def ke61 : SE := (ka52,(2,32,9,0,0))
def CN154_0 : List ND := [(0,(kl71,[],[]),18,kc4,[1],0),
  (1,(kl71,[ke41],[]),17,kc4,[2],0),
  (3,(kl71,[ke42,ke41],[]),16,kc4,[16,3],0),
  (6,(kl72,[],[]),15,kc4,[4],0),
  (7,(kl72,[ke35],[]),14,kc4,[5],0),
  (10,(kl72,[ke61],[]),13,kc4,[6],0),
  (11,(kl72,[ke44,ke61],[]),12,kc4,[7],0),
  (13,(kl72,[ke42,ke44,ke61],[]),11,kc4,[8],0),
  (14,(kl72,[ke45,ke61],[]),10,kc4,[9],0),
  (15,(kl72,[ke46,ke45,ke61],[]),9,kc4,[10],0),
  (16,(kl72,[ke47,ke61],[]),8,kc4,[11],0),
  (17,(kl72,[ke7],[]),7,kc4,[12],0),
  (18,(kl72,[ke3,ke7],[]),6,kc4,[13],0),
  (19,(kl72,[ke48,ke3,ke7],[]),5,kc4,[14],0),
  (20,(kl72,[ke7,ke7],[]),4,kc4,[15],0),
  (21,(kl72,[ke7],[]),3,kc4,[18],0),
  (24,(kl73,[],[]),1,kc4,[17],0),
  (25,(kl73,[ke6],[]),0,kc4,[],0),
  (25,(kl72,[ke7],[]),2,kc4,[],0)]
def CN154 : List (List ND) := [CN154_0]
theorem CK154 : chkS prot SMs SM154 [] CN154 = true := by decide +kernel
-- OneSided$Quarter.into
def kl74 : AL := [some ka35,some ka47,some ka34,some ka48,some ka38,some ka0,none]
def ka53 : AV := (2,33,33,0)
def ke62 : SE := (ka53,(2,32,1,0,0))
def ka54 : AV := (2,39,52,1)
def ke63 : SE := (ka54,pv0)
def kl75 : AL := [some ka35,some ka47,some ka34,some ka48,some ka38,some ka0,some ka54]
def ke64 : SE := (ka54,(1,6,0,0,0))
def CN155_0 : List ND := [(0,(kl74,[],[]),40,kc5,[1],0),
  (1,(kl74,[ke35],[]),39,kc5,[2],0),
  (4,(kl74,[ke62],[]),38,kc5,[3],0),
  (5,(kl74,[ke51,ke62],[]),37,kc5,[4],0),
  (6,(kl74,[ke63],[]),36,kc5,[5],0),
  (8,(kl75,[],[]),35,kc5,[6],0),
  (10,(kl75,[ke64],[]),34,kc5,[7],0),
  (13,(kl75,[ke54],[]),33,kc5,[8],0),
  (14,(kl75,[ke55,ke54],[]),32,kc5,[22,9],0),
  (17,(kl75,[],[]),31,kc5,[10],0),
  (18,(kl75,[ke35],[]),30,kc5,[11],0),
  (19,(kl75,[ke56,ke35],[]),29,kc5,[12],0),
  (21,(kl75,[ke57,ke56,ke35],[]),28,kc5,[13],0),
  (23,(kl75,[ke58,ke57,ke56,ke35],[]),27,kc5,[14],153),
  (26,(kl75,[ke7],[]),26,kc5,[15],0),
  (27,(kl75,[ke51,ke7],[]),25,kc5,[16],0),
  (28,(kl75,[ke7],[]),24,kc5,[17],0),
  (29,(kl75,[ke5,ke7],[]),23,kc5,[18],0),
  (30,(kl75,[ke59],[]),22,kc5,[22,19],0),
  (33,(kl75,[],[]),2,kc5,[20],0),
  (35,(kl75,[ke64],[]),1,kc5,[21],0),
  (38,(kl75,[ke54],[]),0,kc5,[],0),
  (39,(kl75,[],[]),21,kc5,[23],0),
  (41,(kl75,[ke64],[]),20,kc5,[24],0),
  (44,(kl75,[ke54],[]),19,kc5,[25],0),
  (45,(kl75,[ke55,ke54],[]),18,kc5,[39,26],0),
  (48,(kl75,[],[]),17,kc5,[27],0),
  (49,(kl75,[ke35],[]),16,kc5,[28],0),
  (50,(kl75,[ke56,ke35],[]),15,kc5,[29],0),
  (52,(kl75,[ke57,ke56,ke35],[]),14,kc5,[30],0),
  (54,(kl75,[ke58,ke57,ke56,ke35],[]),13,kc5,[31],154),
  (57,(kl75,[ke7],[]),12,kc5,[32],0),
  (58,(kl75,[ke51,ke7],[]),11,kc5,[33],0),
  (59,(kl75,[ke7],[]),10,kc5,[34],0),
  (60,(kl75,[ke5,ke7],[]),9,kc5,[35],0),
  (61,(kl75,[ke59],[]),8,kc5,[39,36],0),
  (64,(kl75,[],[]),5,kc5,[37],0),
  (66,(kl75,[ke64],[]),4,kc5,[38],0),
  (69,(kl75,[ke54],[]),3,kc5,[],0),
  (70,(kl75,[],[]),7,kc5,[40],0),
  (71,(kl75,[ke48],[]),6,kc5,[],0)]
def CN155 : List (List ND) := [CN155_0]
theorem CK155 : chkS prot SMs SM155 [] CN155 = true := by decide +kernel
-- OneSided$Quarter.entered
def kl76 : AL := [some ka12,some ka0,some ka0,some ka0,none,none,none]
def kl77 : AL := [some ka12,some ka0,some ka0,some ka0,some ka1,none,none]
def ka55 : AV := (0,0,1023,1)
def ka56 : AV := (0,1,14,1)
def kl78 : AL := [some ka12,some ka0,some ka0,some ka0,some ka55,some ka56,some ka50]
def kf6 : FA := [(5,2,ka56)]
def kc6 : List Int := [0,0,0,0,0,-51,0]
def kl79 : AL := [some ka12,some ka0,some ka0,some ka0,some ka1,some ka1,none]
def kl80 : AL := [some ka12,some ka0,some ka0,some ka0,some ka55,some ka2,some ka50]
def ke65 : SE := (ka56,(1,5,0,0,0))
def ka57 : AV := (0,0,14,1)
def ke66 : SE := (ka57,(2,5,2,0,0))
def ke67 : SE := (ka56,(2,5,2,0,0))
def ka58 : AV := (0,1,13,1)
def kl81 : AL := [some ka12,some ka0,some ka0,some ka0,some ka55,some ka58,some ka50]
def ka59 : AV := (0,2,14,1)
def kf7 : FA := [(5,2,ka59)]
def ke68 : SE := (ka58,(1,5,0,0,0))
def ke69 : SE := (ka50,(2,6,0,0,0))
def kl82 : AL := [some ka12,some ka0,some ka0,some ka0,some ka55,some ka47,some ka50]
def kl83 : AL := [some ka12,some ka0,some ka0,some ka0,some ka1,some ka1,some ka50]
def ke70 : SE := (ka47,(1,5,0,0,0))
def ke71 : SE := (ka1,(1,4,0,0,0))
def ke72 : SE := (ka55,(1,4,0,0,0))
def ka60 : AV := (0,1,512,1)
def ke73 : SE := (ka60,pv0)
def ke74 : SE := (ka55,pv0)
def kl84 : AL := [some ka12,some ka0,some ka0,some ka0,some ka55,some ka1,some ka50]
def kf8 : FA := [(5,2,ka1)]
def CN177_0 : List ND := [(0,(kl76,[],[]),781,kc5,[1],0),
  (1,(kl76,[ke6],[]),780,kc5,[2],0),
  (3,(kl77,[],[]),779,kc5,[3],0),
  (4,(kl77,[ke6],[]),778,kc5,[5],0),
  (6,(kl78,[],kf6),767,kc6,[8],0),
  (6,(kl79,[],[]),777,kc5,[6],0),
  (8,(kl79,[ke16],[]),776,kc5,[9],0),
  (8,(kl80,[ke19],kf6),784,kc5,[10],0),
  (8,(kl78,[ke65],kf6),766,kc6,[11],0),
  (9,(kl79,[ke10,ke16],[]),775,kc5,[12],0),
  (9,(kl80,[ke10,ke19],kf6),783,kc5,[13],0),
  (9,(kl78,[ke10,ke65],kf6),765,kc6,[14],0),
  (12,(kl79,[ke66,ke16],[]),774,kc5,[76,16],0),
  (12,(kl80,[ke67,ke19],kf6),782,kc5,[75,15],0),
  (12,(kl78,[ke67,ke65],kf6),764,kc6,[75,15],0),
  (15,(kl81,[],kf7),763,kc6,[17],0),
  (15,(kl79,[],kf6),773,kc5,[18],0),
  (16,(kl81,[ke10],kf7),762,kc6,[19],0),
  (16,(kl79,[ke10],kf6),772,kc5,[20],0),
  (19,(kl81,[ke50],kf7),761,kc6,[23],0),
  (19,(kl79,[ke50],kf6),771,kc5,[21],0),
  (21,(kl79,[ke16,ke50],kf6),770,kc5,[25],0),
  (21,(kl80,[ke19,ke50],kf7),785,kc5,[24],0),
  (21,(kl81,[ke68,ke50],kf7),760,kc6,[24],0),
  (22,(kl81,[ke52],kf7),759,kc6,[26],0),
  (22,(kl79,[ke69],kf6),769,kc5,[26],0),
  (24,(kl82,[],kf6),758,kc6,[27],0),
  (25,(kl82,[ke1],kf6),757,kc6,[29],0),
  (27,(kl83,[ke16,ke1],kf6),786,kc5,[30],0),
  (27,(kl82,[ke70,ke1],kf6),756,kc6,[30],0),
  (28,(kl82,[ke7],kf6),755,kc6,[31],0),
  (29,(kl82,[ke5,ke7],kf6),754,kc6,[32],0),
  (30,(kl82,[ke59],kf6),753,kc6,[52,33],0),
  (33,(kl82,[],kf6),752,kc6,[34],0),
  (34,(kl82,[ke3],kf6),751,kc6,[35],0),
  (36,(kl82,[ke53,ke3],kf6),750,kc6,[36],0),
  (39,(kl82,[ke54,ke3],kf6),749,kc6,[37],0),
  (40,(kl82,[ke7],kf6),748,kc6,[38],0),
  (41,(kl82,[ke5,ke7],kf6),747,kc6,[39],0),
  (42,(kl82,[ke59],kf6),746,kc6,[52,40],0),
  (45,(kl82,[],kf6),745,kc6,[42],0),
  (47,(kl83,[ke71],kf6),791,kc5,[43],0),
  (47,(kl82,[ke72],kf6),744,kc6,[44],0),
  (48,(kl83,[ke5,ke71],kf6),790,kc5,[45],0),
  (48,(kl82,[ke5,ke72],kf6),743,kc6,[46],0),
  (50,(kl83,[ke53,ke5,ke71],kf6),789,kc5,[47],0),
  (50,(kl82,[ke53,ke5,ke72],kf6),742,kc6,[48],0),
  (53,(kl83,[ke54,ke5,ke71],kf6),788,kc5,[49],0),
  (53,(kl82,[ke54,ke5,ke72],kf6),741,kc6,[50],0),
  (54,(kl83,[ke73,ke71],kf6),787,kc5,[51],0),
  (54,(kl82,[ke73,ke72],kf6),740,kc6,[51],0),
  (55,(kl82,[ke74],kf6),739,kc6,[52],0),
  (57,(kl82,[],kf6),738,kc6,[53],0),
  (58,(kl82,[ke2],kf6),737,kc6,[55],0),
  (60,(kl84,[ke16,ke2],kf6),792,kc5,[56],0),
  (60,(kl82,[ke70,ke2],kf6),736,kc6,[56],0),
  (61,(kl82,[ke7],kf6),735,kc6,[57],0),
  (62,(kl82,[ke5,ke7],kf6),734,kc6,[58],0),
  (63,(kl82,[ke59],kf6),733,kc6,[73,59],0),
  (66,(kl82,[],kf6),732,kc6,[60],0),
  (67,(kl82,[ke3],kf6),731,kc6,[61],0),
  (69,(kl82,[ke53,ke3],kf6),730,kc6,[62],0),
  (72,(kl82,[ke54,ke3],kf6),729,kc6,[63],0),
  (73,(kl82,[ke7],kf6),728,kc6,[64],0)]
def CN177_1 : List ND := [(74,(kl82,[ke5,ke7],kf6),727,kc6,[65],0),
  (75,(kl82,[ke59],kf6),726,kc6,[73,66],0),
  (78,(kl82,[],kf6),725,kc6,[67],0),
  (80,(kl82,[ke72],kf6),724,kc6,[68],0),
  (81,(kl82,[ke5,ke72],kf6),723,kc6,[69],0),
  (83,(kl82,[ke53,ke5,ke72],kf6),722,kc6,[70],0),
  (86,(kl82,[ke54,ke5,ke72],kf6),721,kc6,[71],0),
  (87,(kl82,[ke73,ke72],kf6),720,kc6,[72],0),
  (88,(kl82,[ke74],kf6),719,kc6,[73],0),
  (90,(kl82,[],kf6),718,kc6,[74],0),
  (93,(kl78,[],kf6),768,kc6,[4],0),
  (96,(kl78,[],kf6),3,kc5,[78],0),
  (96,(kl79,[],kf8),1,kc5,[77],0),
  (98,(kl79,[ke71],kf8),0,kc5,[],0),
  (98,(kl78,[ke72],kf6),2,kc5,[],0)]
def CN177 : List (List ND) := [CN177_0, CN177_1]
theorem CK177 : chkS prot SMs SM177 [] CN177 = true := by decide +kernel
-- OneSided$Quarter.entered
def kl85 : AL := [some ka35,some ka0,some ka0,some ka0,none,none,none]
def kl86 : AL := [some ka35,some ka0,some ka0,some ka0,some ka1,none,none]
def kl87 : AL := [some ka35,some ka0,some ka0,some ka0,some ka55,some ka56,some ka54]
def kf9 : FA := [(32,2,ka56)]
def kl88 : AL := [some ka35,some ka0,some ka0,some ka0,some ka1,some ka1,none]
def kl89 : AL := [some ka35,some ka0,some ka0,some ka0,some ka55,some ka2,some ka54]
def ke75 : SE := (ka57,(2,32,2,0,0))
def ke76 : SE := (ka56,(2,32,2,0,0))
def kl90 : AL := [some ka35,some ka0,some ka0,some ka0,some ka55,some ka58,some ka54]
def kf10 : FA := [(32,2,ka59)]
def ke77 : SE := (ka54,(2,33,0,0,0))
def kl91 : AL := [some ka35,some ka0,some ka0,some ka0,some ka55,some ka47,some ka54]
def kl92 : AL := [some ka35,some ka0,some ka0,some ka0,some ka1,some ka1,some ka54]
def kl93 : AL := [some ka35,some ka0,some ka0,some ka0,some ka55,some ka1,some ka54]
def kf11 : FA := [(32,2,ka1)]
def CN180_0 : List ND := [(0,(kl85,[],[]),781,kc5,[1],0),
  (1,(kl85,[ke6],[]),780,kc5,[2],0),
  (3,(kl86,[],[]),779,kc5,[3],0),
  (4,(kl86,[ke6],[]),778,kc5,[5],0),
  (6,(kl87,[],kf9),767,kc6,[8],0),
  (6,(kl88,[],[]),777,kc5,[6],0),
  (8,(kl88,[ke16],[]),776,kc5,[9],0),
  (8,(kl89,[ke19],kf9),784,kc5,[10],0),
  (8,(kl87,[ke65],kf9),766,kc6,[11],0),
  (9,(kl88,[ke35,ke16],[]),775,kc5,[12],0),
  (9,(kl89,[ke35,ke19],kf9),783,kc5,[13],0),
  (9,(kl87,[ke35,ke65],kf9),765,kc6,[14],0),
  (12,(kl88,[ke75,ke16],[]),774,kc5,[76,16],0),
  (12,(kl89,[ke76,ke19],kf9),782,kc5,[75,15],0),
  (12,(kl87,[ke76,ke65],kf9),764,kc6,[75,15],0),
  (15,(kl90,[],kf10),763,kc6,[17],0),
  (15,(kl88,[],kf9),773,kc5,[18],0),
  (16,(kl90,[ke35],kf10),762,kc6,[19],0),
  (16,(kl88,[ke35],kf9),772,kc5,[20],0),
  (19,(kl90,[ke62],kf10),761,kc6,[23],0),
  (19,(kl88,[ke62],kf9),771,kc5,[21],0),
  (21,(kl88,[ke16,ke62],kf9),770,kc5,[25],0),
  (21,(kl89,[ke19,ke62],kf10),785,kc5,[24],0),
  (21,(kl90,[ke68,ke62],kf10),760,kc6,[24],0),
  (22,(kl90,[ke63],kf10),759,kc6,[26],0),
  (22,(kl88,[ke77],kf9),769,kc5,[26],0),
  (24,(kl91,[],kf9),758,kc6,[27],0),
  (25,(kl91,[ke1],kf9),757,kc6,[29],0),
  (27,(kl92,[ke16,ke1],kf9),786,kc5,[30],0),
  (27,(kl91,[ke70,ke1],kf9),756,kc6,[30],0),
  (28,(kl91,[ke7],kf9),755,kc6,[31],0),
  (29,(kl91,[ke5,ke7],kf9),754,kc6,[32],0),
  (30,(kl91,[ke59],kf9),753,kc6,[52,33],0),
  (33,(kl91,[],kf9),752,kc6,[34],0),
  (34,(kl91,[ke3],kf9),751,kc6,[35],0),
  (36,(kl91,[ke64,ke3],kf9),750,kc6,[36],0),
  (39,(kl91,[ke54,ke3],kf9),749,kc6,[37],0),
  (40,(kl91,[ke7],kf9),748,kc6,[38],0),
  (41,(kl91,[ke5,ke7],kf9),747,kc6,[39],0),
  (42,(kl91,[ke59],kf9),746,kc6,[52,40],0),
  (45,(kl91,[],kf9),745,kc6,[42],0),
  (47,(kl92,[ke71],kf9),791,kc5,[43],0),
  (47,(kl91,[ke72],kf9),744,kc6,[44],0),
  (48,(kl92,[ke5,ke71],kf9),790,kc5,[45],0),
  (48,(kl91,[ke5,ke72],kf9),743,kc6,[46],0),
  (50,(kl92,[ke64,ke5,ke71],kf9),789,kc5,[47],0),
  (50,(kl91,[ke64,ke5,ke72],kf9),742,kc6,[48],0),
  (53,(kl92,[ke54,ke5,ke71],kf9),788,kc5,[49],0),
  (53,(kl91,[ke54,ke5,ke72],kf9),741,kc6,[50],0),
  (54,(kl92,[ke73,ke71],kf9),787,kc5,[51],0),
  (54,(kl91,[ke73,ke72],kf9),740,kc6,[51],0),
  (55,(kl91,[ke74],kf9),739,kc6,[52],0),
  (57,(kl91,[],kf9),738,kc6,[53],0),
  (58,(kl91,[ke2],kf9),737,kc6,[55],0),
  (60,(kl93,[ke16,ke2],kf9),792,kc5,[56],0),
  (60,(kl91,[ke70,ke2],kf9),736,kc6,[56],0),
  (61,(kl91,[ke7],kf9),735,kc6,[57],0),
  (62,(kl91,[ke5,ke7],kf9),734,kc6,[58],0),
  (63,(kl91,[ke59],kf9),733,kc6,[73,59],0),
  (66,(kl91,[],kf9),732,kc6,[60],0),
  (67,(kl91,[ke3],kf9),731,kc6,[61],0),
  (69,(kl91,[ke64,ke3],kf9),730,kc6,[62],0),
  (72,(kl91,[ke54,ke3],kf9),729,kc6,[63],0),
  (73,(kl91,[ke7],kf9),728,kc6,[64],0)]
def CN180_1 : List ND := [(74,(kl91,[ke5,ke7],kf9),727,kc6,[65],0),
  (75,(kl91,[ke59],kf9),726,kc6,[73,66],0),
  (78,(kl91,[],kf9),725,kc6,[67],0),
  (80,(kl91,[ke72],kf9),724,kc6,[68],0),
  (81,(kl91,[ke5,ke72],kf9),723,kc6,[69],0),
  (83,(kl91,[ke64,ke5,ke72],kf9),722,kc6,[70],0),
  (86,(kl91,[ke54,ke5,ke72],kf9),721,kc6,[71],0),
  (87,(kl91,[ke73,ke72],kf9),720,kc6,[72],0),
  (88,(kl91,[ke74],kf9),719,kc6,[73],0),
  (90,(kl91,[],kf9),718,kc6,[74],0),
  (93,(kl87,[],kf9),768,kc6,[4],0),
  (96,(kl87,[],kf9),3,kc5,[78],0),
  (96,(kl88,[],kf11),1,kc5,[77],0),
  (98,(kl88,[ke71],kf11),0,kc5,[],0),
  (98,(kl87,[ke72],kf9),2,kc5,[],0)]
def CN180 : List (List ND) := [CN180_0, CN180_1]
theorem CK180 : chkS prot SMs SM180 [] CN180 = true := by decide +kernel
