/-! LM, by program: certificates 2 -/
-- OneSided$Scene.pass
def kl174 : AL := [some ka62,some ka58]
def ke164 : SE := (ka58,(1,1,0,0,0))
def ka101 : AV := (0,1,48,1)
def ke165 : SE := (ka101,pv0)
def ke166 : SE := (ka58,pv0)
def kf29 : FA := [(60,0,ka58)]
def kf30 : FA := [(60,0,ka58),(60,2,ka1)]
def CN165_0 : List ND := [(0,(kl174,[],[]),15,kc13,[1],0),
  (1,(kl174,[ke84],[]),14,kc13,[2],0),
  (3,(kl174,[ke70,ke84],[]),13,kc13,[3],0),
  (4,(kl174,[ke84,ke70,ke84],[]),12,kc13,[4],0),
  (7,(kl174,[ke145,ke70,ke84],[]),11,kc13,[5],0),
  (8,(kl174,[ke164,ke145,ke70,ke84],[]),10,kc13,[6],0),
  (9,(kl174,[ke165,ke70,ke84],[]),9,kc13,[7],0),
  (12,(kl174,[ke166,ke84],[]),8,kc13,[8],0),
  (15,(kl174,[],kf29),7,kc13,[9],0),
  (16,(kl174,[ke84],kf29),6,kc13,[10],0),
  (17,(kl174,[ke6,ke84],kf29),5,kc13,[11],0),
  (20,(kl174,[],kf30),4,kc13,[12],0),
  (21,(kl174,[ke84],kf30),3,kc13,[13],0),
  (24,(kl174,[ke85],kf30),2,kc13,[14],0),
  (25,(kl174,[ke6,ke85],kf30),1,kc13,[15],132),
  (28,(kl174,[],kf30),0,kc13,[],0)]
def CN165 : List (List ND) := [CN165_0]
theorem CK165 : chkS prot SMs SM165 [] CN165 = true := by decide +kernel
-- OneSided.hours
def ka102 : AV := (0,1,2147483647,1)
def kl175 : AL := [some ka72,some ka102]
def ke167 : SE := (ka102,(1,1,0,0,0))
def kl176 : AL := [some ka72,some ka58]
def CN166_0 : List ND := [(0,(kl105,[],[]),22,kc13,[1],0),
  (1,(kl105,[ke1],[]),21,kc13,[2],0),
  (2,(kl105,[ke5,ke1],[]),20,kc13,[6,3],0),
  (5,(kl175,[],[]),19,kc13,[4],0),
  (6,(kl175,[ke167],[]),18,kc13,[5],0),
  (8,(kl175,[ke70,ke167],[]),17,kc13,[8,6],0),
  (11,(kl105,[],[]),1,kc13,[7],0),
  (12,(kl105,[ke41],[]),0,kc13,[],0),
  (13,(kl176,[],[]),16,kc13,[9],0),
  (14,(kl176,[ke103],[]),15,kc13,[10],0),
  (15,(kl176,[ke103,ke103],[]),14,kc13,[11],0),
  (18,(kl176,[ke114,ke103],[]),13,kc13,[12],0),
  (21,(kl176,[ke102,ke103],[]),12,kc13,[13],164),
  (24,(kl176,[],[]),11,kc13,[14],0),
  (25,(kl176,[ke103],[]),10,kc13,[15],0),
  (28,(kl176,[ke114],[]),9,kc13,[16],0),
  (31,(kl176,[ke102],[]),8,kc13,[17],0),
  (32,(kl176,[ke164,ke102],[]),7,kc13,[18],165),
  (35,(kl176,[],[]),6,kc13,[19],0),
  (36,(kl176,[ke103],[]),5,kc13,[20],0),
  (39,(kl176,[ke114],[]),4,kc13,[21],0),
  (42,(kl176,[ke102],[]),3,kc13,[22],0),
  (45,(kl176,[ke145],[]),2,kc13,[],0)]
def CN166 : List (List ND) := [CN166_0]
theorem CK166 : chkS prot SMs SM166 [] CN166 = true := by decide +kernel
-- OneSided.shut
def kl177 : AL := [some ka72,some ka0,some ka27,none]
def kl178 : AL := [some ka72,some ka43,some ka27,none]
def kl179 : AL := [some ka72,some ka43,some ka27,some ka27]
def ke168 : SE := (ka27,(1,3,0,0,0))
def ke169 : SE := (ka27,(1,2,0,0,0))
def CN167_0 : List ND := [(0,(kl177,[],[]),42,kc10,[1],0),
  (1,(kl177,[ke103],[]),41,kc10,[2],0),
  (2,(kl177,[ke1,ke103],[]),40,kc10,[4,3],144),
  (5,(kl177,[ke6],[]),39,kc10,[5],0),
  (5,(kl178,[ke5],[]),36,kc10,[7],0),
  (8,(kl177,[],[]),38,kc10,[6],0),
  (9,(kl177,[ke6],[]),37,kc10,[],0),
  (10,(kl178,[],[]),35,kc10,[8],0),
  (11,(kl178,[ke103],[]),34,kc10,[9],0),
  (14,(kl178,[ke114],[]),33,kc10,[10],0),
  (17,(kl178,[ke102],[]),32,kc10,[11],0),
  (20,(kl178,[ke127],[]),31,kc10,[12],0),
  (21,(kl178,[ke46,ke127],[]),30,kc10,[13],0),
  (22,(kl178,[ke7],[]),29,kc10,[14],0),
  (23,(kl178,[ke5,ke7],[]),28,kc10,[15],0),
  (24,(kl178,[ke65],[]),27,kc10,[18,16],0),
  (27,(kl178,[],[]),24,kc10,[17],0),
  (28,(kl178,[ke5],[]),23,kc10,[20],0),
  (31,(kl178,[],[]),26,kc10,[19],0),
  (32,(kl178,[ke6],[]),25,kc10,[21],0),
  (32,(kl178,[ke5],[]),22,kc10,[21],0),
  (33,(kl179,[],[]),21,kc10,[22],0),
  (34,(kl179,[ke168],[]),20,kc10,[23],0),
  (35,(kl179,[ke169,ke168],[]),19,kc10,[26,24],0),
  (38,(kl179,[],[]),1,kc10,[25],0),
  (39,(kl179,[ke6],[]),0,kc10,[],0),
  (40,(kl179,[],[]),18,kc10,[27],0),
  (41,(kl179,[ke103],[]),17,kc10,[28],0),
  (42,(kl179,[ke103,ke103],[]),16,kc10,[29],0),
  (45,(kl179,[ke114,ke103],[]),15,kc10,[30],0),
  (48,(kl179,[ke102,ke103],[]),14,kc10,[31],164),
  (51,(kl179,[],[]),13,kc10,[32],0),
  (52,(kl179,[ke103],[]),12,kc10,[33],0),
  (55,(kl179,[ke114],[]),11,kc10,[34],0),
  (58,(kl179,[ke102],[]),10,kc10,[35],0),
  (59,(kl179,[ke102,ke102],[]),9,kc10,[36],0),
  (62,(kl179,[ke127,ke102],[]),8,kc10,[37],0),
  (63,(kl179,[ke5,ke127,ke102],[]),7,kc10,[38],0),
  (64,(kl179,[ke46,ke5,ke127,ke102],[]),6,kc10,[39],0),
  (65,(kl179,[ke66,ke127,ke102],[]),5,kc10,[40],0),
  (66,(kl179,[ke7,ke102],[]),4,kc10,[41],0),
  (69,(kl179,[],[]),3,kc10,[42],0),
  (70,(kl179,[ke5],[]),2,kc10,[],1)]
def CN167 : List (List ND) := [CN167_0]
theorem CK167 : chkS prot SMs SM167 [(1,1)] CN167 = true := by decide +kernel
-- OneSided.undo
def kl180 : AL := [some ka72]
def kc15 : List Int := [0]
def kf31 : FA := [(1,9,ka1)]
def ke170 : SE := (ka100,(2,1,9,0,0))
def CN169_0 : List ND := [(0,(kl180,[],[]),26,kc15,[1],0),
  (1,(kl180,[ke103],[]),25,kc15,[2],0),
  (4,(kl180,[ke155],[]),24,kc15,[5,3],0),
  (7,(kl180,[],kf31),23,kc15,[4],0),
  (8,(kl180,[ke6],kf31),22,kc15,[],0),
  (9,(kl180,[],kf27),21,kc15,[6],0),
  (10,(kl180,[ke103],kf27),20,kc15,[7],0),
  (11,(kl180,[ke103,ke103],kf27),19,kc15,[8],0),
  (14,(kl180,[ke170,ke103],kf27),18,kc15,[9],0),
  (15,(kl180,[ke5,ke170,ke103],kf27),17,kc15,[10],0),
  (16,(kl180,[ke157,ke103],kf27),16,kc15,[11],0),
  (19,(kl180,[],kf26),15,kc15,[12],0),
  (20,(kl180,[ke103],kf26),14,kc15,[13],0),
  (23,(kl180,[ke114],kf26),13,kc15,[14],0),
  (26,(kl180,[ke102],kf26),12,kc15,[15],0),
  (27,(kl180,[ke103,ke102],kf26),11,kc15,[16],0),
  (30,(kl180,[ke153,ke102],kf26),10,kc15,[17],0),
  (31,(kl180,[ke103,ke153,ke102],kf26),9,kc15,[18],0),
  (34,(kl180,[ke154,ke153,ke102],kf26),8,kc15,[19],0),
  (35,(kl180,[ke103,ke154,ke153,ke102],kf26),7,kc15,[20],0),
  (38,(kl180,[ke160,ke154,ke153,ke102],kf26),6,kc15,[21],0),
  (39,(kl180,[ke21,ke153,ke102],kf26),5,kc15,[22],0),
  (41,(kl180,[ke156,ke21,ke153,ke102],kf26),4,kc15,[23],0),
  (44,(kl180,[ke157,ke153,ke102],kf26),3,kc15,[24],0),
  (45,(kl180,[ke158,ke102],kf26),2,kc15,[25],168),
  (48,(kl180,[],kf26),1,kc15,[26],0),
  (49,(kl180,[ke5],kf26),0,kc15,[],1)]
def CN169 : List (List ND) := [CN169_0]
theorem CK169 : chkS prot SMs SM169 [] CN169 = true := by decide +kernel
-- OneSided.judged
def kl181 : AL := [some ka72,some ka0,none,none]
def kl182 : AL := [some ka72,some ka69,none,none]
def ka103 : AV := (0,-2,-2,0)
def ke171 : SE := (ka103,pv0)
def ka104 : AV := (0,-1,5,1)
def kl183 : AL := [some ka72,some ka104,none,none]
def kl184 : AL := [some ka72,some ka104,some ka92,none]
def ke172 : SE := (ka92,(1,2,0,0,0))
def ka105 : AV := (0,-1,23,1)
def ke173 : SE := (ka105,pv0)
def kl185 : AL := [some ka72,some ka104,some ka92,some ka105]
def ke174 : SE := (ka104,(1,1,0,0,0))
def kl186 : AL := [some ka72,some ka42,some ka92,some ka105]
def ke175 : SE := (ka105,(1,3,0,0,0))
def kl187 : AL := [some ka72,some ka69,some ka92,some ka105]
def CN175_0 : List ND := [(0,(kl181,[],[]),37,kc10,[1],0),
  (1,(kl181,[ke1],[]),36,kc10,[2],0),
  (2,(kl181,[ke41,ke1],[]),35,kc10,[10,3],0),
  (5,(kl181,[],[]),34,kc10,[4],0),
  (6,(kl181,[ke103],[]),33,kc10,[5],0),
  (7,(kl181,[ke1,ke103],[]),32,kc10,[7,6],146),
  (10,(kl181,[ke6],[]),31,kc10,[8],0),
  (10,(kl182,[ke5],[]),28,kc10,[10],0),
  (13,(kl181,[],[]),30,kc10,[9],0),
  (15,(kl181,[ke171],[]),29,kc10,[],0),
  (16,(kl183,[],[]),27,kc10,[11],0),
  (17,(kl183,[ke103],[]),26,kc10,[12],0),
  (20,(kl183,[ke120],[]),25,kc10,[13],0),
  (23,(kl183,[ke162],[]),24,kc10,[14],0),
  (24,(kl184,[],[]),23,kc10,[15],0),
  (25,(kl184,[ke172],[]),22,kc10,[16],0),
  (26,(kl184,[ke103,ke172],[]),21,kc10,[18,17],0),
  (29,(kl184,[ke105,ke172],[]),20,kc10,[19],172),
  (29,(kl184,[ke106,ke172],[]),19,kc10,[19],171),
  (32,(kl184,[],[]),18,kc10,[20],0),
  (33,(kl184,[ke103],[]),17,kc10,[21],0),
  (36,(kl184,[ke114],[]),16,kc10,[22],0),
  (37,(kl184,[ke103,ke114],[]),15,kc10,[24,23],0),
  (40,(kl184,[ke105,ke114],[]),12,kc10,[25],0),
  (40,(kl184,[ke106,ke114],[]),14,kc10,[26],0),
  (41,(kl184,[ke172,ke105,ke114],[]),11,kc10,[27],174),
  (41,(kl184,[ke172,ke106,ke114],[]),13,kc10,[27],173),
  (44,(kl184,[ke173],[]),10,kc10,[28],0),
  (45,(kl185,[],[]),9,kc10,[29],0),
  (46,(kl185,[ke174],[]),8,kc10,[30],0),
  (47,(kl185,[ke41,ke174],[]),7,kc10,[33,31],0),
  (50,(kl186,[],[]),6,kc10,[32],0),
  (51,(kl186,[ke175],[]),5,kc10,[37],0),
  (54,(kl187,[],[]),4,kc10,[34],0),
  (55,(kl187,[ke172],[]),3,kc10,[35],0),
  (58,(kl187,[ke146],[]),2,kc10,[36],0),
  (59,(kl187,[ke130,ke146],[]),1,kc10,[37],0),
  (60,(kl185,[ke173],[]),0,kc10,[],0)]
def CN175 : List (List ND) := [CN175_0]
theorem CK175 : chkS prot SMs SM175 [] CN175 = true := by decide +kernel
-- OneSided$Scene.firstFreeHour
def kl188 : AL := [some ka62,some ka69]
def ke176 : SE := (ka89,pv0)
def CN176_0 : List ND := [(0,(kl188,[],[]),9,kc13,[1],0),
  (1,(kl188,[ke84],[]),8,kc13,[2],0),
  (4,(kl188,[ke145],[]),7,kc13,[3],0),
  (5,(kl188,[ke84,ke145],[]),6,kc13,[4],0),
  (8,(kl188,[ke134,ke145],[]),5,kc13,[5],0),
  (9,(kl188,[ke130,ke134,ke145],[]),4,kc13,[6],0),
  (10,(kl188,[ke7,ke145],[]),3,kc13,[7],0),
  (11,(kl188,[ke5,ke7,ke145],[]),2,kc13,[8],0),
  (12,(kl188,[ke65,ke145],[]),1,kc13,[9],0),
  (13,(kl188,[ke176],[]),0,kc13,[],0)]
def CN176 : List (List ND) := [CN176_0]
theorem CK176 : chkS prot SMs SM176 [] CN176 = true := by decide +kernel
-- OneSided$Quarter.entered
def kl189 : AL := [some ka12,some ka0,some ka0,some ka0,none,none,none]
def kl190 : AL := [some ka12,some ka0,some ka0,some ka0,some ka1,none,none]
def kl191 : AL := [some ka12,some ka0,some ka0,some ka0,some ka47,some ka49,some ka35]
def kc16 : List Int := [0,0,0,0,0,-51,0]
def kl192 : AL := [some ka12,some ka0,some ka0,some ka0,some ka1,some ka1,none]
def kl193 : AL := [some ka12,some ka0,some ka0,some ka0,some ka47,some ka2,some ka35]
def ke177 : SE := (ka49,(1,5,0,0,0))
def ke178 : SE := (ka49,(2,5,2,0,0))
def ka106 : AV := (0,1,13,1)
def kl194 : AL := [some ka12,some ka0,some ka0,some ka0,some ka47,some ka106,some ka35]
def ka107 : AV := (0,2,14,1)
def kf32 : FA := [(5,2,ka107)]
def ke179 : SE := (ka106,(1,5,0,0,0))
def kl195 : AL := [some ka12,some ka0,some ka0,some ka0,some ka47,some ka43,some ka35]
def kl196 : AL := [some ka12,some ka0,some ka0,some ka0,some ka1,some ka1,some ka35]
def ke180 : SE := (ka47,(1,4,0,0,0))
def ka108 : AV := (0,1,512,1)
def ke181 : SE := (ka108,pv0)
def kl197 : AL := [some ka12,some ka0,some ka0,some ka0,some ka47,some ka1,some ka35]
def kf33 : FA := [(5,2,ka1)]
def CN177_0 : List ND := [(0,(kl189,[],[]),781,kc6,[1],0),
  (1,(kl189,[ke6],[]),780,kc6,[2],0),
  (3,(kl190,[],[]),779,kc6,[3],0),
  (4,(kl190,[ke6],[]),778,kc6,[5],0),
  (6,(kl191,[],kf3),767,kc16,[8],0),
  (6,(kl192,[],[]),777,kc6,[6],0),
  (8,(kl192,[ke16],[]),776,kc6,[9],0),
  (8,(kl193,[ke19],kf3),784,kc6,[10],0),
  (8,(kl191,[ke177],kf3),766,kc16,[11],0),
  (9,(kl192,[ke10,ke16],[]),775,kc6,[12],0),
  (9,(kl193,[ke10,ke19],kf3),783,kc6,[13],0),
  (9,(kl191,[ke10,ke177],kf3),765,kc16,[14],0),
  (12,(kl192,[ke58,ke16],[]),774,kc6,[76,16],0),
  (12,(kl193,[ke178,ke19],kf3),782,kc6,[75,15],0),
  (12,(kl191,[ke178,ke177],kf3),764,kc16,[75,15],0),
  (15,(kl194,[],kf32),763,kc16,[17],0),
  (15,(kl192,[],kf3),773,kc6,[18],0),
  (16,(kl194,[ke10],kf32),762,kc16,[19],0),
  (16,(kl192,[ke10],kf3),772,kc6,[20],0),
  (19,(kl194,[ke45],kf32),761,kc16,[23],0),
  (19,(kl192,[ke45],kf3),771,kc6,[21],0),
  (21,(kl192,[ke16,ke45],kf3),770,kc6,[25],0),
  (21,(kl193,[ke19,ke45],kf32),785,kc6,[24],0),
  (21,(kl194,[ke179,ke45],kf32),760,kc16,[24],0),
  (22,(kl194,[ke47],kf32),759,kc16,[26],0),
  (22,(kl192,[ke62],kf3),769,kc6,[26],0),
  (24,(kl195,[],kf3),758,kc16,[27],0),
  (25,(kl195,[ke1],kf3),757,kc16,[29],0),
  (27,(kl196,[ke16,ke1],kf3),786,kc6,[30],0),
  (27,(kl195,[ke59,ke1],kf3),756,kc16,[30],0),
  (28,(kl195,[ke7],kf3),755,kc16,[31],0),
  (29,(kl195,[ke5,ke7],kf3),754,kc16,[32],0),
  (30,(kl195,[ke65],kf3),753,kc16,[52,33],0),
  (33,(kl195,[],kf3),752,kc16,[34],0),
  (34,(kl195,[ke3],kf3),751,kc16,[35],0),
  (36,(kl195,[ke48,ke3],kf3),750,kc16,[36],0),
  (39,(kl195,[ke52,ke3],kf3),749,kc16,[37],0),
  (40,(kl195,[ke7],kf3),748,kc16,[38],0),
  (41,(kl195,[ke5,ke7],kf3),747,kc16,[39],0),
  (42,(kl195,[ke65],kf3),746,kc16,[52,40],0),
  (45,(kl195,[],kf3),745,kc16,[42],0),
  (47,(kl196,[ke67],kf3),791,kc6,[43],0),
  (47,(kl195,[ke180],kf3),744,kc16,[44],0),
  (48,(kl196,[ke5,ke67],kf3),790,kc6,[45],0),
  (48,(kl195,[ke5,ke180],kf3),743,kc16,[46],0),
  (50,(kl196,[ke48,ke5,ke67],kf3),789,kc6,[47],0),
  (50,(kl195,[ke48,ke5,ke180],kf3),742,kc16,[48],0),
  (53,(kl196,[ke52,ke5,ke67],kf3),788,kc6,[49],0),
  (53,(kl195,[ke52,ke5,ke180],kf3),741,kc16,[50],0),
  (54,(kl196,[ke181,ke67],kf3),787,kc6,[51],0),
  (54,(kl195,[ke181,ke180],kf3),740,kc16,[51],0),
  (55,(kl195,[ke54],kf3),739,kc16,[52],0),
  (57,(kl195,[],kf3),738,kc16,[53],0),
  (58,(kl195,[ke2],kf3),737,kc16,[55],0),
  (60,(kl197,[ke16,ke2],kf3),792,kc6,[56],0),
  (60,(kl195,[ke59,ke2],kf3),736,kc16,[56],0),
  (61,(kl195,[ke7],kf3),735,kc16,[57],0),
  (62,(kl195,[ke5,ke7],kf3),734,kc16,[58],0),
  (63,(kl195,[ke65],kf3),733,kc16,[73,59],0),
  (66,(kl195,[],kf3),732,kc16,[60],0),
  (67,(kl195,[ke3],kf3),731,kc16,[61],0),
  (69,(kl195,[ke48,ke3],kf3),730,kc16,[62],0),
  (72,(kl195,[ke52,ke3],kf3),729,kc16,[63],0),
  (73,(kl195,[ke7],kf3),728,kc16,[64],0)]
def CN177_1 : List ND := [(74,(kl195,[ke5,ke7],kf3),727,kc16,[65],0),
  (75,(kl195,[ke65],kf3),726,kc16,[73,66],0),
  (78,(kl195,[],kf3),725,kc16,[67],0),
  (80,(kl195,[ke180],kf3),724,kc16,[68],0),
  (81,(kl195,[ke5,ke180],kf3),723,kc16,[69],0),
  (83,(kl195,[ke48,ke5,ke180],kf3),722,kc16,[70],0),
  (86,(kl195,[ke52,ke5,ke180],kf3),721,kc16,[71],0),
  (87,(kl195,[ke181,ke180],kf3),720,kc16,[72],0),
  (88,(kl195,[ke54],kf3),719,kc16,[73],0),
  (90,(kl195,[],kf3),718,kc16,[74],0),
  (93,(kl191,[],kf3),768,kc16,[4],0),
  (96,(kl191,[],kf3),3,kc6,[78],0),
  (96,(kl192,[],kf33),1,kc6,[77],0),
  (98,(kl192,[ke67],kf33),0,kc6,[],0),
  (98,(kl191,[ke180],kf3),2,kc6,[],0)]
def CN177 : List (List ND) := [CN177_0, CN177_1]
theorem CK177 : chkS prot SMs SM177 [] CN177 = true := by decide +kernel
-- OneSided$Plans.nextRooms
def kl198 : AL := [some ka12,some ka62,some ka34,some ka40,some ka0,none,none]
def ke182 : SE := (ka40,(1,3,0,0,0))
def kl199 : AL := [some ka12,some ka62,some ka34,some ka40,some ka0,some ka0,none]
def kl200 : AL := [some ka12,some ka62,some ka34,some ka40,some ka0,some ka0,some ka0]
def ke183 : SE := (ka0,(1,6,0,0,0))
def CN178_0 : List ND := [(0,(kl198,[],[]),19,kc6,[1],0),
  (1,(kl198,[ke10],[]),18,kc6,[2],0),
  (2,(kl198,[ke42,ke10],[]),17,kc6,[3],0),
  (3,(kl198,[ke182,ke42,ke10],[]),16,kc6,[4],0),
  (4,(kl198,[ke144,ke182,ke42,ke10],[]),15,kc6,[5],0),
  (7,(kl198,[ke127,ke182,ke42,ke10],[]),14,kc6,[6],150),
  (10,(kl198,[ke7],[]),13,kc6,[7],0),
  (12,(kl199,[],[]),12,kc6,[8],0),
  (13,(kl199,[ke10],[]),11,kc6,[9],0),
  (14,(kl199,[ke42,ke10],[]),10,kc6,[10],0),
  (15,(kl199,[ke182,ke42,ke10],[]),9,kc6,[11],0),
  (16,(kl199,[ke144,ke182,ke42,ke10],[]),8,kc6,[12],0),
  (19,(kl199,[ke127,ke182,ke42,ke10],[]),7,kc6,[13],151),
  (22,(kl199,[ke7],[]),6,kc6,[14],0),
  (24,(kl200,[],[]),5,kc6,[15],0),
  (25,(kl200,[ke10],[]),4,kc6,[16],0),
  (27,(kl200,[ke140,ke10],[]),3,kc6,[17],0),
  (29,(kl200,[ke183,ke140,ke10],[]),2,kc6,[18],0),
  (31,(kl200,[ke4,ke183,ke140,ke10],[]),1,kc6,[19],177),
  (34,(kl200,[ke54],[]),0,kc6,[],0)]
def CN178 : List (List ND) := [CN178_0]
theorem CK178 : chkS prot SMs SM178 [] CN178 = true := by decide +kernel
-- OneSided$Plans.firstHourIn
def ka109 : AV := (2,77,77,0)
def kl201 : AL := [some ka109,some ka12,some ka62,some ka69,some ka36,none,none,none]
def ke184 : SE := (ka62,(1,2,0,0,0))
def ke185 : SE := (ka69,(1,3,0,0,0))
def ke186 : SE := (ka36,(1,4,0,0,0))
def kl202 : AL := [some ka109,some ka12,some ka62,some ka69,some ka36,some ka34,none,none]
def kl203 : AL := [some ka109,some ka12,some ka62,some ka69,some ka36,some ka34,some ka108,none]
def kl204 : AL := [some ka109,some ka12,some ka62,some ka69,some ka36,some ka34,some ka47,some ka89]
def kc17 : List Int := [0,0,0,0,0,0,0,-20]
def ke187 : SE := (ka89,(1,7,0,0,0))
def kl205 : AL := [some ka109,some ka12,some ka62,some ka69,some ka36,some ka34,some ka47,some ka38]
def ke188 : SE := (ka34,(1,5,0,0,0))
def ke189 : SE := (ka38,(1,7,0,0,0))
def kl206 : AL := [some ka109,some ka12,some ka62,some ka69,some ka36,some ka34,some ka47,some ka58]
def kl207 : AL := [some ka109,some ka12,some ka62,some ka69,some ka36,some ka34,some ka47,some ka90]
def CN179_0 : List ND := [(0,(kl201,[],[]),549,kc2,[1],0),
  (1,(kl201,[ke184],[]),548,kc2,[2],0),
  (4,(kl201,[ke95],[]),547,kc2,[3],0),
  (5,(kl201,[ke185,ke95],[]),546,kc2,[4],0),
  (6,(kl201,[ke52],[]),545,kc2,[5],0),
  (8,(kl201,[ke186,ke52],[]),544,kc2,[9,6],0),
  (11,(kl201,[],[]),2,kc2,[7],0),
  (12,(kl201,[ke184],[]),1,kc2,[8],0),
  (15,(kl201,[ke145],[]),0,kc2,[],0),
  (16,(kl201,[],[]),543,kc2,[10],0),
  (17,(kl201,[ke88],[]),542,kc2,[11],0),
  (20,(kl201,[ke91],[]),541,kc2,[12],0),
  (21,(kl201,[ke185,ke91],[]),540,kc2,[13],0),
  (22,(kl201,[ke94],[]),539,kc2,[14],0),
  (25,(kl201,[ke34],[]),538,kc2,[15],0),
  (27,(kl202,[],[]),537,kc2,[16],0),
  (28,(kl202,[ke5],[]),536,kc2,[17],0),
  (29,(kl202,[ke184,ke5],[]),535,kc2,[18],0),
  (32,(kl202,[ke95,ke5],[]),534,kc2,[19],0),
  (33,(kl202,[ke185,ke95,ke5],[]),533,kc2,[20],0),
  (34,(kl202,[ke52,ke5],[]),532,kc2,[21],0),
  (35,(kl202,[ke181],[]),531,kc2,[22],0),
  (37,(kl203,[],[]),530,kc2,[23],0),
  (38,(kl203,[ke184],[]),529,kc2,[24],0),
  (39,(kl203,[ke185,ke184],[]),528,kc2,[25],176),
  (42,(kl203,[ke176],[]),527,kc2,[26],0),
  (44,(kl204,[],[]),525,kc17,[27],0),
  (46,(kl204,[ke187],[]),524,kc17,[28],0),
  (48,(kl204,[ke70,ke187],[]),523,kc17,[48,29],0),
  (51,(kl205,[],[]),522,kc17,[30],0),
  (53,(kl205,[ke64],[]),521,kc17,[31],0),
  (54,(kl205,[ke88,ke64],[]),520,kc17,[32],0),
  (55,(kl205,[ke184,ke88,ke64],[]),519,kc17,[33],0),
  (57,(kl205,[ke188,ke184,ke88,ke64],[]),518,kc17,[34],0),
  (59,(kl205,[ke189,ke188,ke184,ke88,ke64],[]),517,kc17,[35],0),
  (61,(kl205,[ke64,ke189,ke188,ke184,ke88,ke64],[]),516,kc17,[36],178),
  (64,(kl205,[ke54,ke64],[]),515,kc17,[37],0),
  (65,(kl205,[ke54],[]),514,kc17,[38],0),
  (67,(kl205,[],[]),513,kc17,[39],0),
  (69,(kl205,[ke64],[]),512,kc17,[40],0),
  (71,(kl205,[ke186,ke64],[]),511,kc17,[41],0),
  (72,(kl205,[ke54],[]),510,kc17,[42],0),
  (73,(kl205,[ke5,ke54],[]),509,kc17,[43],0),
  (74,(kl205,[ke65],[]),508,kc17,[46,44],0),
  (77,(kl205,[],[]),6,kc2,[45],0),
  (79,(kl205,[ke189],[]),5,kc2,[],0),
  (80,(kl205,[],[]),507,kc17,[47],0),
  (83,(kl206,[],[]),526,kc17,[26],0),
  (86,(kl207,[],[]),4,kc2,[49],0),
  (87,(kl207,[ke41],[]),3,kc2,[],0)]
def CN179 : List (List ND) := [CN179_0]
theorem CK179 : chkS prot SMs SM179 [] CN179 = true := by decide +kernel
-- OneSided.soonest
def kl208 : AL := [some ka72,some ka69,some ka0]
def kl209 : AL := [some ka72,some ka69,some ka36]
def ke190 : SE := (ka109,(2,1,10,0,0))
def ke191 : SE := (ka36,(1,2,0,0,0))
def ka110 : AV := (0,-1,24,1)
def ke192 : SE := (ka110,pv0)
def CN183_0 : List ND := [(0,(kl151,[],[]),28,kc1,[1],0),
  (1,(kl151,[ke103],[]),27,kc1,[2],0),
  (2,(kl151,[ke1,ke103],[]),26,kc1,[4,3],146),
  (5,(kl151,[ke6],[]),25,kc1,[10],0),
  (5,(kl208,[ke5],[]),24,kc1,[5],0),
  (8,(kl208,[],[]),23,kc1,[6],0),
  (9,(kl208,[ke103],[]),22,kc1,[7],0),
  (10,(kl208,[ke2,ke103],[]),21,kc1,[9,8],148),
  (13,(kl208,[ke6],[]),20,kc1,[10],0),
  (13,(kl209,[ke5],[]),17,kc1,[12],0),
  (16,(kl151,[],[]),19,kc1,[11],0),
  (17,(kl151,[ke41],[]),18,kc1,[],0),
  (18,(kl209,[],[]),16,kc1,[13],0),
  (19,(kl209,[ke103],[]),15,kc1,[14],0),
  (22,(kl209,[ke190],[]),14,kc1,[15],0),
  (23,(kl209,[ke103,ke190],[]),13,kc1,[17,16],0),
  (26,(kl209,[ke105,ke190],[]),12,kc1,[18],0),
  (26,(kl209,[ke106,ke190],[]),6,kc1,[19],0),
  (27,(kl209,[ke103,ke105,ke190],[]),11,kc1,[20],0),
  (27,(kl209,[ke103,ke106,ke190],[]),5,kc1,[21],0),
  (30,(kl209,[ke114,ke105,ke190],[]),10,kc1,[22],0),
  (30,(kl209,[ke114,ke106,ke190],[]),4,kc1,[23],0),
  (33,(kl209,[ke102,ke105,ke190],[]),9,kc1,[24],0),
  (33,(kl209,[ke102,ke106,ke190],[]),3,kc1,[25],0),
  (34,(kl209,[ke130,ke102,ke105,ke190],[]),8,kc1,[26],0),
  (34,(kl209,[ke130,ke102,ke106,ke190],[]),2,kc1,[27],0),
  (35,(kl209,[ke191,ke130,ke102,ke105,ke190],[]),7,kc1,[28],182),
  (35,(kl209,[ke191,ke130,ke102,ke106,ke190],[]),1,kc1,[28],179),
  (38,(kl209,[ke192],[]),0,kc1,[],0)]
def CN183 : List (List ND) := [CN183_0]
theorem CK183 : chkS prot SMs SM183 [] CN183 = true := by decide +kernel
-- OneSided$Plans.homeHour
def kl210 : AL := [some ka109,some ka12,some ka62,some ka69,none,none,none,none,none,none,none]
def kc18 : List Int := [0,0,0,0,0,0,0,0,0,0,0]
def kl211 : AL := [some ka109,some ka12,some ka62,some ka69,some ka64,none,none,none,none,none,none]
def kl212 : AL := [some ka109,some ka12,some ka62,some ka69,some ka64,some ka108,none,none,none,none,none]
def kl213 : AL := [some ka109,some ka12,some ka62,some ka69,some ka64,some ka108,some ka27,none,none,none,none]
def ke193 : SE := (ka27,(1,6,0,0,0))
def kl214 : AL := [some ka109,some ka12,some ka62,some ka69,some ka64,some ka108,some ka2,none,none,none,none]
def kl215 : AL := [some ka109,some ka12,some ka62,some ka69,some ka64,some ka108,some ka1,none,none,none,none]
def ka111 : AV := (0,0,512,1)
def kl216 : AL := [some ka109,some ka12,some ka62,some ka69,some ka64,some ka108,some ka27,some ka111,none,none,none]
def kl217 : AL := [some ka109,some ka12,some ka62,some ka69,some ka64,some ka108,some ka2,some ka111,none,none,none]
def kl218 : AL := [some ka109,some ka12,some ka62,some ka69,some ka64,some ka108,some ka1,some ka111,none,none,none]
def kl219 : AL := [some ka109,some ka12,some ka62,some ka69,some ka64,some ka108,some ka27,some ka111,some ka111,none,none]
def ke194 : SE := (ka111,(1,8,0,0,0))
def ke195 : SE := (ka111,pv0)
def kl220 : AL := [some ka109,some ka12,some ka62,some ka69,some ka64,some ka108,some ka27,some ka47,some ka47,some ka89,none]
def kc19 : List Int := [0,0,0,0,0,0,0,0,0,-42,0]
def ke196 : SE := (ka89,(1,9,0,0,0))
def kl221 : AL := [some ka109,some ka12,some ka62,some ka69,some ka64,some ka108,some ka27,some ka47,some ka47,some ka38,none]
def ke197 : SE := (ka38,(1,9,0,0,0))
def ke198 : SE := (ka47,(1,7,0,0,0))
def kl222 : AL := [some ka109,some ka12,some ka62,some ka69,some ka64,some ka108,some ka27,some ka47,some ka47,some ka38,some ka47]
def ke199 : SE := (ka47,(1,10,0,0,0))
def ke200 : SE := (ka108,(1,5,0,0,0))
def kl223 : AL := [some ka109,some ka12,some ka62,some ka69,some ka64,some ka108,some ka27,some ka47,some ka47,some ka58,some ka47]
def kl224 : AL := [some ka109,some ka12,some ka62,some ka69,some ka64,some ka108,some ka27,some ka47,some ka47,some ka90,none]
def CN184_0 : List ND := [(0,(kl210,[],[]),1155,kc18,[1],0),
  (1,(kl210,[ke88],[]),1154,kc18,[2],0),
  (4,(kl210,[ke91],[]),1153,kc18,[3],0),
  (5,(kl210,[ke185,ke91],[]),1152,kc18,[4],0),
  (6,(kl210,[ke94],[]),1151,kc18,[5],0),
  (8,(kl211,[],[]),1150,kc18,[6],0),
  (9,(kl211,[ke5],[]),1149,kc18,[7],0),
  (11,(kl211,[ke150,ke5],[]),1148,kc18,[8],0),
  (14,(kl211,[ke52,ke5],[]),1147,kc18,[9],0),
  (15,(kl211,[ke181],[]),1146,kc18,[10],0),
  (17,(kl212,[],[]),1145,kc18,[11],0),
  (18,(kl212,[ke184],[]),1144,kc18,[12],0),
  (21,(kl212,[ke133],[]),1143,kc18,[13],0),
  (22,(kl212,[ke185,ke133],[]),1142,kc18,[14],0),
  (23,(kl212,[ke7],[]),1141,kc18,[15],0),
  (24,(kl212,[ke5,ke7],[]),1140,kc18,[16],0),
  (25,(kl212,[ke65],[]),1139,kc18,[19,17],0),
  (28,(kl212,[],[]),1136,kc18,[18],0),
  (29,(kl212,[ke5],[]),1135,kc18,[21],0),
  (32,(kl212,[],[]),1138,kc18,[20],0),
  (33,(kl212,[ke6],[]),1137,kc18,[22],0),
  (33,(kl212,[ke5],[]),1134,kc18,[22],0),
  (35,(kl213,[],[]),1133,kc18,[23],0),
  (37,(kl213,[ke193],[]),1132,kc18,[26,24],0),
  (40,(kl214,[],[]),1124,kc18,[25],0),
  (41,(kl214,[ke6],[]),1123,kc18,[32],0),
  (44,(kl215,[],[]),1131,kc18,[27],0),
  (45,(kl215,[ke5],[]),1130,kc18,[28],0),
  (46,(kl215,[ke184,ke5],[]),1129,kc18,[29],0),
  (49,(kl215,[ke95,ke5],[]),1128,kc18,[30],0),
  (50,(kl215,[ke185,ke95,ke5],[]),1127,kc18,[31],0),
  (51,(kl215,[ke52,ke5],[]),1126,kc18,[33],0),
  (52,(kl214,[ke6],[]),1122,kc18,[34],0),
  (52,(kl215,[ke181],[]),1125,kc18,[34],0),
  (54,(kl216,[],[]),1121,kc18,[35],0),
  (56,(kl216,[ke193],[]),1120,kc18,[43,36],0),
  (59,(kl217,[],[]),1119,kc18,[37],0),
  (60,(kl217,[ke5],[]),1118,kc18,[38],0),
  (61,(kl217,[ke184,ke5],[]),1117,kc18,[39],0),
  (64,(kl217,[ke95,ke5],[]),1116,kc18,[40],0),
  (65,(kl217,[ke185,ke95,ke5],[]),1115,kc18,[41],0),
  (66,(kl217,[ke52,ke5],[]),1114,kc18,[42],0),
  (67,(kl217,[ke181],[]),1113,kc18,[45],0),
  (70,(kl218,[],[]),1111,kc18,[44],0),
  (71,(kl218,[ke6],[]),1110,kc18,[46],0),
  (71,(kl217,[ke181],[]),1112,kc18,[46],0),
  (73,(kl219,[],[]),1109,kc18,[47],0),
  (75,(kl219,[ke194],[]),1108,kc18,[48],0),
  (77,(kl219,[ke150,ke194],[]),1107,kc18,[49],0),
  (80,(kl219,[ke52,ke194],[]),1106,kc18,[50],0),
  (81,(kl219,[ke195],[]),1105,kc18,[51],0),
  (82,(kl219,[ke5,ke195],[]),1104,kc18,[52],0),
  (83,(kl219,[ke65],[]),1103,kc18,[56,53],0),
  (86,(kl219,[],[]),2,kc18,[54],0),
  (87,(kl219,[ke184],[]),1,kc18,[55],0),
  (90,(kl219,[ke145],[]),0,kc18,[],0),
  (91,(kl219,[],[]),1102,kc18,[57],0),
  (92,(kl219,[ke184],[]),1101,kc18,[58],0),
  (93,(kl219,[ke185,ke184],[]),1100,kc18,[59],176),
  (96,(kl219,[ke176],[]),1099,kc18,[60],0),
  (98,(kl220,[],[]),1097,kc19,[61],0),
  (100,(kl220,[ke196],[]),1096,kc19,[62],0),
  (102,(kl220,[ke70,ke196],[]),1095,kc19,[104,63],0),
  (105,(kl221,[],[]),1094,kc19,[64],0)]
def CN184_1 : List ND := [(106,(kl221,[ke88],[]),1093,kc19,[65],0),
  (107,(kl221,[ke184,ke88],[]),1092,kc19,[66],0),
  (109,(kl221,[ke150,ke184,ke88],[]),1091,kc19,[67],0),
  (112,(kl221,[ke34,ke184,ke88],[]),1090,kc19,[68],0),
  (114,(kl221,[ke197,ke34,ke184,ke88],[]),1089,kc19,[69],0),
  (116,(kl221,[ke198,ke197,ke34,ke184,ke88],[]),1088,kc19,[70],178),
  (119,(kl221,[ke54],[]),1087,kc19,[71],0),
  (121,(kl222,[],[]),1086,kc19,[72],0),
  (123,(kl222,[ke55],[]),1085,kc19,[73],0),
  (124,(kl222,[ke88,ke55],[]),1084,kc19,[74],0),
  (125,(kl222,[ke184,ke88,ke55],[]),1083,kc19,[75],0),
  (127,(kl222,[ke150,ke184,ke88,ke55],[]),1082,kc19,[76],0),
  (130,(kl222,[ke34,ke184,ke88,ke55],[]),1081,kc19,[77],0),
  (132,(kl222,[ke197,ke34,ke184,ke88,ke55],[]),1080,kc19,[78],0),
  (134,(kl222,[ke55,ke197,ke34,ke184,ke88,ke55],[]),1079,kc19,[79],178),
  (137,(kl222,[ke54,ke55],[]),1078,kc19,[80],0),
  (139,(kl222,[ke199,ke54,ke55],[]),1077,kc19,[81],0),
  (141,(kl222,[ke200,ke199,ke54,ke55],[]),1076,kc19,[82],0),
  (142,(kl222,[ke195,ke54,ke55],[]),1075,kc19,[83],0),
  (143,(kl222,[ke54,ke55],[]),1074,kc19,[84],0),
  (144,(kl222,[ke54],[]),1073,kc19,[85],0),
  (146,(kl222,[],[]),1072,kc19,[86],0),
  (148,(kl222,[ke198],[]),1071,kc19,[87],0),
  (150,(kl222,[ke199,ke198],[]),1070,kc19,[88],0),
  (152,(kl222,[ke200,ke199,ke198],[]),1069,kc19,[89],0),
  (153,(kl222,[ke41,ke200,ke199,ke198],[]),1068,kc19,[90],0),
  (154,(kl222,[ke7,ke199,ke198],[]),1067,kc19,[91],0),
  (155,(kl222,[ke54,ke198],[]),1066,kc19,[92],0),
  (156,(kl222,[ke54],[]),1065,kc19,[93],0),
  (158,(kl222,[],[]),1064,kc19,[94],0),
  (160,(kl222,[ke55],[]),1063,kc19,[95],0),
  (162,(kl222,[ke150,ke55],[]),1062,kc19,[96],0),
  (165,(kl222,[ke52,ke55],[]),1061,kc19,[97],0),
  (166,(kl222,[ke54],[]),1060,kc19,[98],0),
  (167,(kl222,[ke5,ke54],[]),1059,kc19,[99],0),
  (168,(kl222,[ke65],[]),1058,kc19,[102,100],0),
  (171,(kl222,[],[]),4,kc18,[101],0),
  (173,(kl222,[ke197],[]),3,kc18,[],0),
  (174,(kl222,[],[]),1057,kc19,[103],0),
  (177,(kl223,[],[]),1098,kc19,[60],0),
  (180,(kl224,[],[]),6,kc18,[105],0),
  (181,(kl224,[ke41],[]),5,kc18,[],0)]
def CN184 : List (List ND) := [CN184_0, CN184_1]
theorem CK184 : chkS prot SMs SM184 [] CN184 = true := by decide +kernel
-- OneSided$Plans.lessenNeed
def kl225 : AL := [some ka109,some ka64,some ka38,some ka36,some ka36,none,none,none,none]
def kl226 : AL := [some ka109,some ka64,some ka38,some ka36,some ka36,some ka23,none,none,none]
def kc20 : List Int := [0,0,0,0,0,-51,0,0,0]
def kl227 : AL := [some ka109,some ka64,some ka38,some ka36,some ka36,some ka1,none,none,none]
def ke201 : SE := (ka23,(1,5,0,0,0))
def kl228 : AL := [some ka109,some ka64,some ka38,some ka36,some ka36,some ka27,none,none,none]
def ke202 : SE := (ka64,(1,1,0,0,0))
def kl229 : AL := [some ka109,some ka64,some ka38,some ka36,some ka36,some ka27,some ka27,none,none]
def ka112 : AV := (0,20,20,0)
def ke203 : SE := (ka112,pv0)
def ka113 : AV := (0,0,460,20)
def ke204 : SE := (ka113,pv0)
def ka114 : AV := (0,0,18,2)
def ke205 : SE := (ka114,pv0)
def ka115 : AV := (0,0,478,2)
def ke206 : SE := (ka115,pv0)
def kl230 : AL := [some ka109,some ka64,some ka38,some ka36,some ka36,some ka1,some ka27,none,none]
def ka116 : AV := (0,0,479,1)
def ke207 : SE := (ka116,pv0)
def kl231 : AL := [some ka109,some ka64,some ka38,some ka36,some ka36,some ka27,some ka27,some ka116,none]
def ka117 : AV := (0,20,480,20)
def ke208 : SE := (ka117,pv0)
def ka118 : AV := (0,20,498,2)
def ke209 : SE := (ka118,pv0)
def ka119 : AV := (0,20,499,1)
def ke210 : SE := (ka119,pv0)
def kl232 : AL := [some ka109,some ka64,some ka38,some ka36,some ka36,some ka27,some ka27,some ka116,some ka119]
def ke211 : SE := (ka109,(1,0,0,0,0))
def ka120 : AV := (2,79,79,0)
def ke212 : SE := (ka120,(2,77,2,0,0))
def ke213 : SE := (ka116,(1,7,0,0,0))
def ke214 : SE := (ka119,(1,8,0,0,0))
def ka121 : AV := (0,1,2,1)
def kl233 : AL := [some ka109,some ka64,some ka38,some ka36,some ka36,some ka121,some ka27,some ka116,some ka119]
def kl234 : AL := [some ka109,some ka64,some ka38,some ka36,some ka36,some ka3,none,none,none]
def CN186_0 : List ND := [(0,(kl225,[],[]),155,kc5,[1],0),
  (1,(kl225,[ke6],[]),154,kc5,[2],0),
  (3,(kl226,[],[]),152,kc20,[4],0),
  (5,(kl227,[ke16],[]),157,kc5,[5],0),
  (5,(kl226,[ke201],[]),151,kc20,[6],0),
  (6,(kl227,[ke56,ke16],[]),156,kc5,[7],0),
  (6,(kl226,[ke56,ke201],[]),150,kc20,[57,7],0),
  (9,(kl228,[],[]),149,kc20,[8],0),
  (11,(kl228,[ke186],[]),148,kc20,[9],0),
  (12,(kl228,[ke202,ke186],[]),147,kc20,[10],0),
  (15,(kl228,[ke52,ke186],[]),146,kc20,[13,11],0),
  (18,(kl228,[],[]),143,kc20,[12],0),
  (19,(kl228,[ke5],[]),142,kc20,[15],0),
  (22,(kl228,[],[]),145,kc20,[16],0),
  (24,(kl227,[ke16],[]),158,kc5,[17],0),
  (24,(kl228,[ke5],[]),141,kc20,[17],0),
  (24,(kl228,[ke50],[]),144,kc20,[17],0),
  (26,(kl229,[],[]),140,kc20,[18],0),
  (27,(kl229,[ke61],[]),139,kc20,[19],0),
  (29,(kl229,[ke203,ke61],[]),138,kc20,[20],0),
  (30,(kl229,[ke204],[]),137,kc20,[21],0),
  (31,(kl229,[ke138,ke204],[]),136,kc20,[22],0),
  (32,(kl229,[ke56,ke138,ke204],[]),135,kc20,[23],0),
  (33,(kl229,[ke205,ke204],[]),134,kc20,[24],0),
  (34,(kl229,[ke206],[]),133,kc20,[26],0),
  (36,(kl230,[ke16,ke206],[]),159,kc5,[27],0),
  (36,(kl229,[ke50,ke206],[]),132,kc20,[27],0),
  (37,(kl229,[ke207],[]),131,kc20,[28],0),
  (39,(kl231,[],[]),130,kc20,[29],0),
  (40,(kl231,[ke61],[]),129,kc20,[30],0),
  (41,(kl231,[ke5,ke61],[]),128,kc20,[31],0),
  (42,(kl231,[ke166],[]),127,kc20,[32],0),
  (44,(kl231,[ke203,ke166],[]),126,kc20,[33],0),
  (45,(kl231,[ke208],[]),125,kc20,[34],0),
  (47,(kl231,[ke186,ke208],[]),124,kc20,[35],0),
  (48,(kl231,[ke56,ke186,ke208],[]),123,kc20,[36],0),
  (49,(kl231,[ke205,ke208],[]),122,kc20,[37],0),
  (50,(kl231,[ke209],[]),121,kc20,[38],0),
  (52,(kl231,[ke193,ke209],[]),120,kc20,[39],0),
  (53,(kl231,[ke210],[]),119,kc20,[40],0),
  (55,(kl232,[],[]),118,kc20,[41],0),
  (56,(kl232,[ke211],[]),117,kc20,[42],0),
  (59,(kl232,[ke212],[]),116,kc20,[43],0),
  (61,(kl232,[ke213,ke212],[]),115,kc20,[44],0),
  (62,(kl232,[ke211,ke213,ke212],[]),114,kc20,[45],0),
  (65,(kl232,[ke212,ke213,ke212],[]),113,kc20,[46],0),
  (67,(kl232,[ke213,ke212,ke213,ke212],[]),112,kc20,[47],0),
  (68,(kl232,[ke7,ke213,ke212],[]),111,kc20,[48],0),
  (69,(kl232,[ke211,ke7,ke213,ke212],[]),110,kc20,[49],0),
  (72,(kl232,[ke212,ke7,ke213,ke212],[]),109,kc20,[50],0),
  (74,(kl232,[ke214,ke212,ke7,ke213,ke212],[]),108,kc20,[51],0),
  (75,(kl232,[ke7,ke7,ke213,ke212],[]),107,kc20,[52],0),
  (76,(kl232,[ke5,ke7,ke7,ke213,ke212],[]),106,kc20,[53],0),
  (77,(kl232,[ke7,ke7,ke213,ke212],[]),105,kc20,[54],0),
  (80,(kl232,[ke7,ke213,ke212],[]),104,kc20,[55],0),
  (81,(kl232,[],[]),103,kc20,[56],0),
  (84,(kl233,[],[]),153,kc20,[2],0),
  (87,(kl234,[],[]),0,kc5,[],0)]
def CN186 : List (List ND) := [CN186_0]
theorem CK186 : chkS prot SMs SM186 [] CN186 = true := by decide +kernel
-- OneSided$Plans.fillNeed
def kl235 : AL := [some ka109,some ka12,some ka64,some ka0,some ka38,some ka38,none,none,none,none,none,none]
def kc21 : List Int := [0,0,0,0,0,0,0,0,0,0,0,0]
def ke215 : SE := (ka38,(1,5,0,0,0))
def kl236 : AL := [some ka109,some ka12,some ka64,some ka0,some ka38,some ka38,some ka117,none,none,none,none,none]
def ka122 : AV := (0,0,20,1)
def kl237 : AL := [some ka109,some ka12,some ka64,some ka0,some ka38,some ka38,some ka117,some ka122,none,none,none,none]
def kc22 : List Int := [0,0,0,0,0,0,0,-23,0,0,0,0]
def kl238 : AL := [some ka109,some ka12,some ka64,some ka0,some ka38,some ka38,some ka117,some ka1,none,none,none,none]
def ke216 : SE := (ka1,(1,7,0,0,0))
def ke217 : SE := (ka122,(1,7,0,0,0))
def ka123 : AV := (0,0,19,1)
def kl239 : AL := [some ka109,some ka12,some ka64,some ka0,some ka38,some ka38,some ka117,some ka123,none,none,none,none]
def ke218 : SE := (ka117,(1,6,0,0,0))
def ke219 : SE := (ka123,(1,7,0,0,0))
def ke220 : SE := (ka64,(1,2,0,0,0))
def ka124 : AV := (0,1,19,2)
def ke221 : SE := (ka124,pv0)
def ka125 : AV := (0,1,19,1)
def kl240 : AL := [some ka109,some ka12,some ka64,some ka0,some ka38,some ka38,some ka117,some ka125,none,none,none,none]
def ka126 : AV := (0,1,20,1)
def kl241 : AL := [some ka109,some ka12,some ka64,some ka0,some ka38,some ka38,some ka117,some ka126,none,none,none,none]
def kl242 : AL := [some ka109,some ka12,some ka64,some ka0,some ka38,some ka38,some ka117,some ka112,none,none,none,none]
def kl243 : AL := [some ka109,some ka12,some ka64,some ka0,some ka38,some ka38,some ka117,some ka105,none,none,none,none]
def kc23 : List Int := [0,0,0,0,0,0,0,39,0,0,0,0]
def ka127 : AV := (0,-1,22,1)
def kl244 : AL := [some ka109,some ka12,some ka64,some ka0,some ka38,some ka38,some ka117,some ka127,some ka0,some ka0,some ka49,some ka35]
def kc24 : List Int := [0,0,0,0,0,0,0,620,0,0,0,0]
def ke222 : SE := (ka105,(1,7,0,0,0))
def ke223 : SE := (ka127,(1,7,0,0,0))
def kl245 : AL := [some ka109,some ka12,some ka64,some ka0,some ka38,some ka38,some ka117,some ka38,none,none,none,none]
def ka128 : AV := (0,0,22,1)
def kl246 : AL := [some ka109,some ka12,some ka64,some ka0,some ka128,some ka38,some ka117,some ka128,some ka0,some ka0,some ka49,some ka35]
def ke224 : SE := (ka128,(1,7,0,0,0))
def ka129 : AV := (0,1,23,1)
def ke225 : SE := (ka129,pv0)
def ka130 : AV := (0,20,460,20)
def ke226 : SE := (ka130,pv0)
def ka131 : AV := (0,0,440,20)
def ke227 : SE := (ka131,pv0)
def kl247 : AL := [some ka109,some ka12,some ka64,some ka0,some ka38,some ka38,some ka117,some ka38,some ka0,none,none,none]
def kl248 : AL := [some ka109,some ka12,some ka64,some ka0,some ka38,some ka38,some ka117,some ka38,some ka0,some ka0,none,none]
def kl249 : AL := [some ka109,some ka12,some ka64,some ka0,some ka38,some ka38,some ka117,some ka38,some ka0,some ka0,some ka1,none]
def kl250 : AL := [some ka109,some ka12,some ka64,some ka0,some ka38,some ka38,some ka117,some ka38,some ka0,some ka0,some ka48,some ka35]
def kc25 : List Int := [0,0,0,0,0,0,0,620,0,0,-39,0]
def ke228 : SE := (ka1,(1,10,0,0,0))
def kl251 : AL := [some ka109,some ka12,some ka64,some ka0,some ka38,some ka38,some ka117,some ka38,some ka0,some ka0,some ka2,some ka35]
def ke229 : SE := (ka2,(1,10,0,0,0))
def ke230 : SE := (ka48,(1,10,0,0,0))
def kl252 : AL := [some ka109,some ka12,some ka64,some ka0,some ka38,some ka38,some ka117,some ka38,some ka0,some ka0,some ka43,some ka35]
def ke231 : SE := (ka43,(1,10,0,0,0))
def ke232 : SE := (ka0,(1,8,0,0,0))
def kl253 : AL := [some ka109,some ka12,some ka64,some ka0,some ka38,some ka38,some ka117,some ka38,some ka0,some ka0,some ka1,some ka35]
def ke233 : SE := (ka35,(1,11,0,0,0))
def ke234 : SE := (ka0,(1,9,0,0,0))
def kl254 : AL := [some ka109,some ka12,some ka64,some ka0,some ka38,some ka38,some ka117,some ka38,some ka0,some ka0,some ka49,some ka35]
def kl255 : AL := [some ka109,some ka12,some ka64,some ka0,some ka38,some ka38,some ka117,some ka127,some ka0,some ka0,some ka1,none]
def kl256 : AL := [some ka109,some ka12,some ka64,some ka0,some ka38,some ka38,some ka117,some ka127,none,none,none,none]
def CN187_0 : List ND := [(0,(kl235,[],[]),16974,kc21,[1],0),
  (2,(kl235,[ke215],[]),16973,kc21,[2],0),
  (3,(kl235,[ke5,ke215],[]),16972,kc21,[3],0),
  (4,(kl235,[ke166],[]),16971,kc21,[4],0),
  (6,(kl235,[ke203,ke166],[]),16970,kc21,[5],0),
  (7,(kl235,[ke208],[]),16969,kc21,[6],0),
  (9,(kl236,[],[]),16968,kc21,[7],0),
  (10,(kl236,[ke6],[]),16967,kc21,[8],0),
  (12,(kl237,[],[]),16965,kc22,[10],0),
  (14,(kl238,[ke216],[]),16976,kc21,[11],0),
  (14,(kl237,[ke217],[]),16964,kc22,[12],0),
  (16,(kl238,[ke203,ke216],[]),16975,kc21,[13],0),
  (16,(kl237,[ke203,ke217],[]),16963,kc22,[41,13],0),
  (19,(kl239,[],[]),16962,kc22,[14],0),
  (20,(kl239,[ke211],[]),16961,kc22,[15],0),
  (23,(kl239,[ke212],[]),16960,kc22,[16],0),
  (25,(kl239,[ke218,ke212],[]),16959,kc22,[18],0),
  (27,(kl238,[ke216,ke218,ke212],[]),16977,kc21,[19],0),
  (27,(kl239,[ke219,ke218,ke212],[]),16958,kc22,[19],0),
  (28,(kl239,[ke210,ke212],[]),16957,kc22,[21],0),
  (30,(kl238,[ke216,ke208,ke212],[]),16984,kc21,[22],0),
  (30,(kl239,[ke219,ke210,ke212],[]),16956,kc22,[23],0),
  (31,(kl238,[ke220,ke216,ke208,ke212],[]),16983,kc21,[24],0),
  (31,(kl239,[ke220,ke219,ke210,ke212],[]),16955,kc22,[25],0),
  (34,(kl238,[ke52,ke216,ke208,ke212],[]),16982,kc21,[26],0),
  (34,(kl239,[ke52,ke219,ke210,ke212],[]),16954,kc22,[27],0),
  (35,(kl238,[ke56,ke52,ke216,ke208,ke212],[]),16981,kc21,[28],0),
  (35,(kl239,[ke56,ke52,ke219,ke210,ke212],[]),16953,kc22,[29],0),
  (36,(kl238,[ke205,ke216,ke208,ke212],[]),16980,kc21,[30],0),
  (36,(kl239,[ke205,ke219,ke210,ke212],[]),16952,kc22,[31],0),
  (37,(kl238,[ke5,ke205,ke216,ke208,ke212],[]),16979,kc21,[32],0),
  (37,(kl239,[ke5,ke205,ke219,ke210,ke212],[]),16951,kc22,[33],0),
  (38,(kl238,[ke221,ke216,ke208,ke212],[]),16978,kc21,[36],0),
  (38,(kl239,[ke221,ke219,ke210,ke212],[]),16950,kc22,[36,34],0),
  (41,(kl240,[ke210,ke212],[]),16949,kc22,[35],0),
  (42,(kl240,[ke6,ke210,ke212],[]),16948,kc22,[37],0),
  (45,(kl239,[ke210,ke212],[]),16946,kc22,[38],0),
  (48,(kl240,[ke6,ke210,ke212],[]),16947,kc22,[39],0),
  (48,(kl239,[ke118,ke210,ke212],[]),16945,kc22,[39],0),
  (49,(kl239,[],[]),16944,kc22,[40],0),
  (52,(kl241,[],[]),16966,kc22,[8],0),
  (55,(kl242,[],[]),16483,kc21,[42],0),
  (57,(kl242,[ke215],[]),16482,kc21,[43],0),
  (59,(kl243,[],[]),15583,kc23,[45],0),
  (59,(kl244,[],kf3),1239,kc24,[46],0),
  (61,(kl243,[ke222],[]),15582,kc23,[47],0),
  (61,(kl244,[ke223],kf3),1238,kc24,[48],0),
  (63,(kl243,[ke141,ke222],[]),15581,kc23,[167,49],0),
  (63,(kl244,[ke141,ke223],kf3),1237,kc24,[168,50],0),
  (66,(kl245,[],[]),15580,kc23,[51],0),
  (66,(kl246,[],kf3),1236,kc24,[52],0),
  (67,(kl245,[ke211],[]),15579,kc23,[53],0),
  (67,(kl246,[ke211],kf3),1235,kc24,[54],0),
  (70,(kl245,[ke212],[]),15578,kc23,[55],0),
  (70,(kl246,[ke212],kf3),1234,kc24,[56],0),
  (72,(kl245,[ke189,ke212],[]),15577,kc23,[57],0),
  (72,(kl246,[ke224,ke212],kf3),1233,kc24,[58],0),
  (73,(kl245,[ke5,ke189,ke212],[]),15576,kc23,[59],0),
  (73,(kl246,[ke5,ke224,ke212],kf3),1232,kc24,[60],0),
  (74,(kl245,[ke166,ke212],[]),15575,kc23,[61],0),
  (74,(kl246,[ke225,ke212],kf3),1231,kc24,[62],0),
  (76,(kl245,[ke203,ke166,ke212],[]),15574,kc23,[63],0),
  (76,(kl246,[ke203,ke225,ke212],kf3),1230,kc24,[64],0),
  (77,(kl245,[ke208,ke212],[]),15573,kc23,[65],0)]
def CN187_1 : List ND := [(77,(kl246,[ke226,ke212],kf3),1229,kc24,[66],0),
  (78,(kl245,[ke211,ke208,ke212],[]),15572,kc23,[67],0),
  (78,(kl246,[ke211,ke226,ke212],kf3),1228,kc24,[68],0),
  (81,(kl245,[ke212,ke208,ke212],[]),15571,kc23,[69],0),
  (81,(kl246,[ke212,ke226,ke212],kf3),1227,kc24,[70],0),
  (83,(kl245,[ke189,ke212,ke208,ke212],[]),15570,kc23,[71],0),
  (83,(kl246,[ke224,ke212,ke226,ke212],kf3),1226,kc24,[72],0),
  (85,(kl245,[ke203,ke189,ke212,ke208,ke212],[]),15569,kc23,[73],0),
  (85,(kl246,[ke203,ke224,ke212,ke226,ke212],kf3),1225,kc24,[74],0),
  (86,(kl245,[ke204,ke212,ke208,ke212],[]),15568,kc23,[75],0),
  (86,(kl246,[ke227,ke212,ke226,ke212],kf3),1224,kc24,[76],0),
  (88,(kl245,[ke203,ke204,ke212,ke208,ke212],[]),15567,kc23,[77],0),
  (88,(kl246,[ke203,ke227,ke212,ke226,ke212],kf3),1223,kc24,[78],0),
  (91,(kl245,[],[]),15566,kc23,[79],0),
  (91,(kl246,[],kf3),1222,kc24,[80],0),
  (92,(kl245,[ke88],[]),15565,kc23,[81],0),
  (92,(kl246,[ke88],kf3),1221,kc24,[82],0),
  (93,(kl245,[ke220,ke88],[]),15564,kc23,[83],0),
  (93,(kl246,[ke220,ke88],kf3),1220,kc24,[84],0),
  (96,(kl245,[ke34,ke88],[]),15563,kc23,[85],0),
  (96,(kl246,[ke34,ke88],kf3),1219,kc24,[86],0),
  (98,(kl245,[ke189,ke34,ke88],[]),15562,kc23,[87],0),
  (98,(kl246,[ke224,ke34,ke88],kf3),1218,kc24,[88],0),
  (99,(kl245,[ke3,ke189,ke34,ke88],[]),15561,kc23,[89],150),
  (99,(kl246,[ke3,ke224,ke34,ke88],kf3),1217,kc24,[90],150),
  (102,(kl245,[ke7],[]),15560,kc23,[91],0),
  (102,(kl246,[ke7],kf3),1216,kc24,[92],0),
  (104,(kl247,[],[]),15559,kc23,[93],0),
  (104,(kl246,[],kf3),1215,kc24,[94],0),
  (105,(kl247,[ke88],[]),15558,kc23,[95],0),
  (105,(kl246,[ke88],kf3),1214,kc24,[96],0),
  (106,(kl247,[ke220,ke88],[]),15557,kc23,[97],0),
  (106,(kl246,[ke220,ke88],kf3),1213,kc24,[98],0),
  (109,(kl247,[ke34,ke88],[]),15556,kc23,[99],0),
  (109,(kl246,[ke34,ke88],kf3),1212,kc24,[100],0),
  (111,(kl247,[ke189,ke34,ke88],[]),15555,kc23,[101],0),
  (111,(kl246,[ke224,ke34,ke88],kf3),1211,kc24,[102],0),
  (112,(kl247,[ke3,ke189,ke34,ke88],[]),15554,kc23,[103],151),
  (112,(kl246,[ke3,ke224,ke34,ke88],kf3),1210,kc24,[104],151),
  (115,(kl247,[ke7],[]),15553,kc23,[105],0),
  (115,(kl246,[ke7],kf3),1209,kc24,[106],0),
  (117,(kl248,[],[]),15552,kc23,[107],0),
  (117,(kl246,[],kf3),1208,kc24,[108],0),
  (118,(kl248,[ke6],[]),15551,kc23,[109],0),
  (118,(kl246,[ke6],kf3),1207,kc24,[110],0),
  (120,(kl249,[],[]),15550,kc23,[111],0),
  (120,(kl250,[],kf3),1205,kc25,[113],0),
  (122,(kl249,[ke228],[]),15549,kc23,[114],0),
  (122,(kl251,[ke229],kf3),16987,kc21,[115],0),
  (122,(kl250,[ke230],kf3),1204,kc25,[116],0),
  (123,(kl249,[ke88,ke228],[]),15548,kc23,[117],0),
  (123,(kl251,[ke88,ke229],kf3),16986,kc21,[118],0),
  (123,(kl250,[ke88,ke230],kf3),1203,kc25,[119],0),
  (126,(kl249,[ke58,ke228],[]),15547,kc23,[163,120],0),
  (126,(kl251,[ke178,ke229],kf3),16985,kc21,[164,121],0),
  (126,(kl250,[ke178,ke230],kf3),1202,kc25,[164,121],0),
  (129,(kl249,[],kf3),15505,kc21,[122],0),
  (129,(kl252,[],kf3),1201,kc25,[123],0),
  (130,(kl249,[ke88],kf3),15504,kc21,[124],0),
  (130,(kl252,[ke88],kf3),1200,kc25,[125],0),
  (133,(kl249,[ke45],kf3),15503,kc21,[126],0),
  (133,(kl252,[ke45],kf3),1199,kc25,[128],0),
  (135,(kl249,[ke228,ke45],kf3),15502,kc21,[129],0),
  (135,(kl251,[ke229,ke45],kf32),16988,kc21,[130],0)]
def CN187_2 : List ND := [(135,(kl252,[ke231,ke45],kf3),1198,kc25,[130],0),
  (136,(kl249,[ke62],kf3),15501,kc21,[131],0),
  (136,(kl252,[ke47],kf3),1197,kc25,[131],0),
  (138,(kl252,[],kf3),1196,kc25,[132],0),
  (140,(kl252,[ke232],kf3),1195,kc25,[134],0),
  (142,(kl253,[ke228,ke232],kf3),16989,kc21,[135],0),
  (142,(kl252,[ke231,ke232],kf3),1194,kc25,[135],0),
  (143,(kl252,[ke7],kf3),1193,kc25,[136],0),
  (144,(kl252,[ke5,ke7],kf3),1192,kc25,[137],0),
  (145,(kl252,[ke65],kf3),1191,kc25,[146,138],0),
  (148,(kl252,[],kf3),1190,kc25,[139],0),
  (149,(kl252,[ke211],kf3),1189,kc25,[140],0),
  (150,(kl252,[ke220,ke211],kf3),1188,kc25,[141],0),
  (152,(kl252,[ke189,ke220,ke211],kf3),1187,kc25,[142],0),
  (154,(kl252,[ke233,ke189,ke220,ke211],kf3),1186,kc25,[143],0),
  (157,(kl252,[ke52,ke189,ke220,ke211],kf3),1185,kc25,[144],0),
  (159,(kl252,[ke233,ke52,ke189,ke220,ke211],kf3),1184,kc25,[145],0),
  (162,(kl252,[ke52,ke52,ke189,ke220,ke211],kf3),1183,kc25,[146],186),
  (165,(kl252,[],kf3),1182,kc25,[147],0),
  (167,(kl252,[ke234],kf3),1181,kc25,[149],0),
  (169,(kl253,[ke228,ke234],kf3),16990,kc21,[150],0),
  (169,(kl252,[ke231,ke234],kf3),1180,kc25,[150],0),
  (170,(kl252,[ke7],kf3),1179,kc25,[151],0),
  (171,(kl252,[ke5,ke7],kf3),1178,kc25,[152],0),
  (172,(kl252,[ke65],kf3),1177,kc25,[161,153],0),
  (175,(kl252,[],kf3),1176,kc25,[154],0),
  (176,(kl252,[ke211],kf3),1175,kc25,[155],0),
  (177,(kl252,[ke220,ke211],kf3),1174,kc25,[156],0),
  (179,(kl252,[ke189,ke220,ke211],kf3),1173,kc25,[157],0),
  (181,(kl252,[ke233,ke189,ke220,ke211],kf3),1172,kc25,[158],0),
  (184,(kl252,[ke52,ke189,ke220,ke211],kf3),1171,kc25,[159],0),
  (186,(kl252,[ke233,ke52,ke189,ke220,ke211],kf3),1170,kc25,[160],0),
  (189,(kl252,[ke52,ke52,ke189,ke220,ke211],kf3),1169,kc25,[161],186),
  (192,(kl252,[],kf3),1168,kc25,[162],0),
  (195,(kl254,[],kf3),1206,kc25,[110],0),
  (198,(kl249,[],kf33),15546,kc23,[165],0),
  (198,(kl254,[],kf3),621,kc24,[166],0),
  (201,(kl255,[],kf33),15584,kc23,[43],0),
  (201,(kl244,[],kf3),1240,kc24,[44],0),
  (204,(kl256,[],[]),15506,kc21,[],0),
  (204,(kl244,[],kf3),0,kc21,[],0)]
def CN187 : List (List ND) := [CN187_0, CN187_1, CN187_2]
theorem CK187 : chkS prot SMs SM187 [] CN187 = true := by decide +kernel
