/-! LM, by program: certificates 0 -/
-- OneSided$Plans.hourThrough
def ka0 : AV := (2,77,77,0)
def ka1 : AV := (2,5,5,0)
def ka2 : AV := (0,0,3,1)
def ka3 : AV := (0,-2147483648,2147483647,1)
def ka4 : AV := (0,0,0,0)
def ka5 : AV := (0,0,23,1)
def kl0 : AL := [some ka0,some ka1,some ka2,some ka3,some ka4,some ka5,none]
def ka6 : AV := (0,0,24,1)
def kf0 : FA := [(77,3,ka6)]
def kc0 : List Int := [0,0,0,0,0,0,0]
def ke0 : SE := (ka0,(1,0,0,0,0))
def ke1 : SE := (ka6,(2,77,3,0,0))
def kl1 : AL := [some ka0,some ka1,some ka2,some ka3,some ka4,some ka5,some ka6]
def kc1 : List Int := [0,0,0,0,0,0,-17]
def ke2 : SE := (ka6,(1,6,0,0,0))
def ke3 : SE := (ka5,(1,5,0,0,0))
def kl2 : AL := [some ka0,some ka1,some ka2,some ka3,some ka4,some ka5,some ka5]
def ke4 : SE := (ka1,(1,1,0,0,0))
def ke5 : SE := (ka4,(1,4,0,0,0))
def ke6 : SE := (ka2,(1,2,0,0,0))
def ka7 : AV := (0,0,19,1)
def ke7 : SE := (ka7,(2,77,4,0,0))
def ka8 : AV := (0,2,2,0)
def ke8 : SE := (ka8,pv0)
def ka9 : AV := (0,0,9,1)
def ke9 : SE := (ka9,pv0)
def ke10 : SE := (ka5,(1,6,0,0,0))
def ke11 : SE := (ka3,(1,3,0,0,0))
def ka10 : AV := (0,-1,9,1)
def ke12 : SE := (ka10,pv0)
def ka11 : AV := (0,-1,-1,0)
def ke13 : SE := (ka11,pv0)
def ka12 : AV := (0,1,24,1)
def kl3 : AL := [some ka0,some ka1,some ka2,some ka3,some ka4,some ka5,some ka12]
def CN188 : List ND := [(0,(kl0,[],kf0),431,kc0,[1],0),
  (1,(kl0,[ke0],kf0),430,kc0,[2],0),
  (4,(kl0,[ke1],kf0),429,kc0,[3],0),
  (6,(kl1,[],kf0),427,kc1,[4],0),
  (8,(kl1,[ke2],kf0),426,kc1,[5],0),
  (10,(kl1,[ke3,ke2],kf0),425,kc1,[22,6],0),
  (13,(kl2,[],kf0),424,kc1,[7],0),
  (14,(kl2,[ke4],kf0),423,kc1,[8],0),
  (16,(kl2,[ke5,ke4],kf0),422,kc1,[9],0),
  (17,(kl2,[ke6,ke5,ke4],kf0),421,kc1,[10],0),
  (18,(kl2,[ke0,ke6,ke5,ke4],kf0),420,kc1,[11],0),
  (21,(kl2,[ke7,ke6,ke5,ke4],kf0),419,kc1,[12],0),
  (22,(kl2,[ke8,ke7,ke6,ke5,ke4],kf0),418,kc1,[13],0),
  (23,(kl2,[ke9,ke6,ke5,ke4],kf0),417,kc1,[14],0),
  (25,(kl2,[ke10,ke9,ke6,ke5,ke4],kf0),416,kc1,[15],0),
  (26,(kl2,[ke11,ke10,ke9,ke6,ke5,ke4],kf0),415,kc1,[16],152),
  (29,(kl2,[ke12],kf0),414,kc1,[17],0),
  (30,(kl2,[ke13,ke12],kf0),413,kc1,[20,18],0),
  (33,(kl2,[],kf0),3,kc0,[19],0),
  (35,(kl2,[ke10],kf0),2,kc0,[],0),
  (36,(kl2,[],kf0),412,kc1,[21],0),
  (39,(kl3,[],kf0),428,kc1,[3],0),
  (42,(kl3,[],kf0),1,kc0,[23],0),
  (43,(kl3,[ke13],kf0),0,kc0,[],0)]
theorem CK188 : chkS prot SMs SM188 [] CN188 = true := by decide +kernel
-- OneSided$Plans.hourThrough
def ka13 : AV := (0,0,13,1)
def kl4 : AL := [some ka0,some ka1,some ka2,some ka3,some ka13,some ka5,none]
def kl5 : AL := [some ka0,some ka1,some ka2,some ka3,some ka13,some ka5,some ka6]
def kl6 : AL := [some ka0,some ka1,some ka2,some ka3,some ka13,some ka5,some ka5]
def ke14 : SE := (ka13,(1,4,0,0,0))
def kl7 : AL := [some ka0,some ka1,some ka2,some ka3,some ka13,some ka5,some ka12]
def CN190 : List ND := [(0,(kl4,[],kf0),431,kc0,[1],0),
  (1,(kl4,[ke0],kf0),430,kc0,[2],0),
  (4,(kl4,[ke1],kf0),429,kc0,[3],0),
  (6,(kl5,[],kf0),427,kc1,[4],0),
  (8,(kl5,[ke2],kf0),426,kc1,[5],0),
  (10,(kl5,[ke3,ke2],kf0),425,kc1,[22,6],0),
  (13,(kl6,[],kf0),424,kc1,[7],0),
  (14,(kl6,[ke4],kf0),423,kc1,[8],0),
  (16,(kl6,[ke14,ke4],kf0),422,kc1,[9],0),
  (17,(kl6,[ke6,ke14,ke4],kf0),421,kc1,[10],0),
  (18,(kl6,[ke0,ke6,ke14,ke4],kf0),420,kc1,[11],0),
  (21,(kl6,[ke7,ke6,ke14,ke4],kf0),419,kc1,[12],0),
  (22,(kl6,[ke8,ke7,ke6,ke14,ke4],kf0),418,kc1,[13],0),
  (23,(kl6,[ke9,ke6,ke14,ke4],kf0),417,kc1,[14],0),
  (25,(kl6,[ke10,ke9,ke6,ke14,ke4],kf0),416,kc1,[15],0),
  (26,(kl6,[ke11,ke10,ke9,ke6,ke14,ke4],kf0),415,kc1,[16],152),
  (29,(kl6,[ke12],kf0),414,kc1,[17],0),
  (30,(kl6,[ke13,ke12],kf0),413,kc1,[20,18],0),
  (33,(kl6,[],kf0),3,kc0,[19],0),
  (35,(kl6,[ke10],kf0),2,kc0,[],0),
  (36,(kl6,[],kf0),412,kc1,[21],0),
  (39,(kl7,[],kf0),428,kc1,[3],0),
  (42,(kl7,[],kf0),1,kc0,[23],0),
  (43,(kl7,[ke13],kf0),0,kc0,[],0)]
theorem CK190 : chkS prot SMs SM190 [] CN190 = true := by decide +kernel
-- OneSided$Plans.nextDoor
def ka14 : AV := (2,26,31,1)
def kl8 : AL := [some ka0,some ka1,some ka14,some ka3,some ka5,none,none,none]
def kc2 : List Int := [0,0,0,0,0,0,0,0]
def ke15 : SE := (ka4,pv0)
def ka15 : AV := (0,0,14,1)
def kl9 : AL := [some ka0,some ka1,some ka14,some ka3,some ka5,some ka15,none,none]
def kc3 : List Int := [0,0,0,0,0,-49,0,0]
def kl10 : AL := [some ka0,some ka1,some ka14,some ka3,some ka5,some ka4,none,none]
def ke16 : SE := (ka4,(1,5,0,0,0))
def ke17 : SE := (ka15,(1,5,0,0,0))
def ke18 : SE := (ka15,(2,5,2,0,0))
def kl11 : AL := [some ka0,some ka1,some ka14,some ka3,some ka5,some ka13,none,none]
def ka16 : AV := (0,1,14,1)
def kf1 : FA := [(5,2,ka16),(77,3,ka6)]
def ke19 : SE := (ka14,(1,2,0,0,0))
def ke20 : SE := (ka2,pv0)
def ke21 : SE := (ka13,(1,5,0,0,0))
def ke22 : SE := (ka5,(1,4,0,0,0))
def ka17 : AV := (0,-1,23,1)
def ke23 : SE := (ka17,pv0)
def kl12 : AL := [some ka0,some ka1,some ka14,some ka3,some ka5,some ka13,some ka17,none]
def ke24 : SE := (ka17,(1,6,0,0,0))
def kl13 : AL := [some ka0,some ka1,some ka14,some ka3,some ka5,some ka13,some ka11,none]
def kl14 : AL := [some ka0,some ka1,some ka14,some ka3,some ka5,some ka13,some ka5,none]
def ka18 : AV := (0,1,1,0)
def ke25 : SE := (ka18,pv0)
def ke26 : SE := (ka12,pv0)
def ka19 : AV := (0,20,20,0)
def ke27 : SE := (ka19,pv0)
def ka20 : AV := (0,20,480,20)
def ke28 : SE := (ka20,pv0)
def kl15 : AL := [some ka0,some ka1,some ka14,some ka3,some ka5,some ka4,some ka5,none]
def ke29 : SE := (ka7,pv0)
def ka21 : AV := (0,20,499,1)
def ke30 : SE := (ka21,pv0)
def kl16 : AL := [some ka0,some ka1,some ka14,some ka3,some ka5,some ka13,some ka5,some ka21]
def ka22 : AV := (2,79,79,0)
def ke31 : SE := (ka22,(2,77,2,0,0))
def ke32 : SE := (ka21,(1,7,0,0,0))
def ke33 : SE := (ka3,pv0)
def ka23 : AV := (0,0,480,20)
def ke34 : SE := (ka23,pv0)
def ka24 : AV := (0,0,499,1)
def ke35 : SE := (ka24,pv0)
def kl17 : AL := [some ka0,some ka1,some ka14,some ka3,some ka5,some ka4,some ka5,some ka21]
def kl18 : AL := [some ka0,some ka1,some ka14,some ka3,some ka5,some ka16,some ka17,none]
def CN192 : List ND := [(0,(kl8,[],kf0),740,kc2,[1],0),
  (1,(kl8,[ke15],kf0),739,kc2,[2],0),
  (3,(kl9,[],kf0),737,kc3,[4],0),
  (5,(kl10,[ke16],kf0),743,kc2,[5],0),
  (5,(kl9,[ke17],kf0),736,kc3,[6],0),
  (6,(kl10,[ke4,ke16],kf0),742,kc2,[7],0),
  (6,(kl9,[ke4,ke17],kf0),735,kc3,[8],0),
  (9,(kl10,[ke18,ke16],kf0),741,kc2,[60,9],0),
  (9,(kl9,[ke18,ke17],kf0),734,kc3,[60,9],0),
  (12,(kl11,[],kf1),733,kc3,[10],0),
  (13,(kl11,[ke0],kf1),732,kc3,[11],0),
  (14,(kl11,[ke4,ke0],kf1),731,kc3,[12],0),
  (15,(kl11,[ke19,ke4,ke0],kf1),730,kc3,[13],0),
  (18,(kl11,[ke20,ke4,ke0],kf1),729,kc3,[14],0),
  (19,(kl11,[ke11,ke20,ke4,ke0],kf1),728,kc3,[16],0),
  (21,(kl10,[ke16,ke11,ke20,ke4,ke0],kf1),745,kc2,[17],0),
  (21,(kl11,[ke21,ke11,ke20,ke4,ke0],kf1),727,kc3,[18],0),
  (23,(kl10,[ke22,ke16,ke11,ke20,ke4,ke0],kf1),744,kc2,[19],188),
  (23,(kl11,[ke22,ke21,ke11,ke20,ke4,ke0],kf1),726,kc3,[19],190),
  (26,(kl11,[ke23],kf1),725,kc3,[20],0),
  (28,(kl12,[],kf1),724,kc3,[21],0),
  (30,(kl12,[ke24],kf1),723,kc3,[22],0),
  (31,(kl12,[ke13,ke24],kf1),722,kc3,[24,23],0),
  (34,(kl13,[],kf1),691,kc3,[58],0),
  (37,(kl14,[],kf1),721,kc3,[25],0),
  (39,(kl14,[ke10],kf1),720,kc3,[26],0),
  (40,(kl14,[ke25,ke10],kf1),719,kc3,[27],0),
  (41,(kl14,[ke26],kf1),718,kc3,[28],0),
  (43,(kl14,[ke27,ke26],kf1),717,kc3,[29],0),
  (44,(kl14,[ke28],kf1),716,kc3,[30],0),
  (45,(kl14,[ke0,ke28],kf1),715,kc3,[31],0),
  (46,(kl14,[ke4,ke0,ke28],kf1),714,kc3,[32],0),
  (47,(kl14,[ke19,ke4,ke0,ke28],kf1),713,kc3,[33],0),
  (50,(kl14,[ke9,ke4,ke0,ke28],kf1),712,kc3,[35],0),
  (52,(kl15,[ke16,ke9,ke4,ke0,ke28],kf1),746,kc2,[36],189),
  (52,(kl14,[ke21,ke9,ke4,ke0,ke28],kf1),711,kc3,[36],191),
  (55,(kl14,[ke29,ke28],kf1),710,kc3,[37],0),
  (56,(kl14,[ke30],kf1),709,kc3,[38],0),
  (58,(kl16,[],kf1),708,kc3,[39],0),
  (59,(kl16,[ke0],kf1),707,kc3,[40],0),
  (62,(kl16,[ke31],kf1),706,kc3,[41],0),
  (64,(kl16,[ke32,ke31],kf1),705,kc3,[42],0),
  (65,(kl16,[ke33],kf1),704,kc3,[43],0),
  (66,(kl16,[ke0,ke33],kf1),703,kc3,[44],0),
  (69,(kl16,[ke31,ke33],kf1),702,kc3,[45],0),
  (70,(kl16,[ke0,ke31,ke33],kf1),701,kc3,[46],0),
  (73,(kl16,[ke1,ke31,ke33],kf1),700,kc3,[47],0),
  (75,(kl16,[ke27,ke1,ke31,ke33],kf1),699,kc3,[48],0),
  (76,(kl16,[ke34,ke31,ke33],kf1),698,kc3,[49],0),
  (77,(kl16,[ke0,ke34,ke31,ke33],kf1),697,kc3,[50],0),
  (80,(kl16,[ke7,ke34,ke31,ke33],kf1),696,kc3,[51],0),
  (81,(kl16,[ke35,ke31,ke33],kf1),695,kc3,[52],0),
  (82,(kl16,[ke33,ke33],kf1),694,kc3,[53],0),
  (83,(kl16,[ke25,ke33,ke33],kf1),693,kc3,[54],0),
  (84,(kl16,[ke33,ke33],kf1),692,kc3,[58,55],0),
  (87,(kl16,[],kf1),1,kc2,[57],0),
  (89,(kl17,[ke16],kf1),747,kc2,[],0),
  (89,(kl16,[ke21],kf1),0,kc2,[],0),
  (90,(kl12,[],kf1),690,kc3,[59],0),
  (93,(kl18,[],kf1),738,kc3,[2],0),
  (96,(kl9,[],kf0),3,kc2,[61],0),
  (97,(kl9,[ke13],kf0),2,kc2,[],0)]
theorem CK192 : chkS prot SMs SM192 [] CN192 = true := by decide +kernel
-- OneSided$Plans.findWay
def ka25 : AV := (2,60,60,0)
def ka26 : AV := (0,0,5,1)
def kl19 : AL := [some ka0,some ka1,some ka25,some ka26,none,none,none,none,none]
def kc4 : List Int := [0,0,0,0,0,0,0,0,0]
def kf2 : FA := [(77,0,ka4)]
def ke36 : SE := (ka25,(1,2,0,0,0))
def ke37 : SE := (ka26,(1,3,0,0,0))
def ka27 : AV := (0,-1,24,1)
def ke38 : SE := (ka27,pv0)
def kl20 : AL := [some ka0,some ka1,some ka25,some ka26,some ka27,none,none,none,none]
def ka28 : AV := (0,0,25,1)
def ke39 : SE := (ka28,pv0)
def ke40 : SE := (ka27,(1,4,0,0,0))
def kl21 : AL := [some ka0,some ka1,some ka25,some ka26,some ka6,none,none,none,none]
def ke41 : SE := (ka6,(1,4,0,0,0))
def ka29 : AV := (0,24,24,0)
def ke42 : SE := (ka29,pv0)
def kl22 : AL := [some ka0,some ka1,some ka25,some ka26,some ka5,none,none,none,none]
def ke43 : SE := (ka28,(2,77,3,0,0))
def kf3 : FA := [(77,0,ka4),(77,3,ka5)]
def ka30 : AV := (2,7,7,0)
def ke44 : SE := (ka30,(2,5,3,0,0))
def ke45 : SE := (ka14,pv0)
def kl23 : AL := [some ka0,some ka1,some ka25,some ka26,some ka5,some ka14,none,none,none]
def ke46 : SE := (ka14,(1,5,0,0,0))
def ke47 : SE := (ka3,(2,60,1,0,0))
def ke48 : SE := (ka5,(2,77,3,0,0))
def ka31 : AV := (2,61,61,0)
def ke49 : SE := (ka31,(2,60,4,0,0))
def ka32 : AV := (0,0,18,2)
def ke50 : SE := (ka32,pv0)
def ke51 : SE := (ka3,(2,60,3,0,0))
def ka33 : AV := (0,0,1,1)
def ke52 : SE := (ka33,pv0)
def ka34 : AV := (0,0,460,20)
def ke53 : SE := (ka34,pv0)
def ka35 : AV := (0,0,479,1)
def ke54 : SE := (ka35,pv0)
def kl24 : AL := [some ka0,some ka1,some ka25,some ka26,some ka5,some ka14,some ka3,none,none]
def kl25 : AL := [some ka0,some ka1,some ka25,some ka26,some ka5,some ka14,some ka3,some ka4,none]
def ka36 : AV := (0,1,2147483647,1)
def kl26 : AL := [some ka0,some ka1,some ka25,some ka26,some ka5,some ka14,some ka36,some ka18,some ka13]
def kf4 : FA := [(77,0,ka18),(77,3,ka6)]
def ka37 : AV := (0,10,2147483647,1)
def ka38 : AV := (0,10,10,0)
def kl27 : AL := [some ka0,some ka1,some ka25,some ka26,some ka5,some ka14,some ka37,some ka38,some ka13]
def kf5 : FA := [(77,0,ka38),(77,3,ka6)]
def ka39 : AV := (0,11,2147483647,1)
def ka40 : AV := (0,11,11,0)
def kl28 : AL := [some ka0,some ka1,some ka25,some ka26,some ka5,some ka14,some ka39,some ka40,some ka13]
def kf6 : FA := [(77,0,ka40),(77,3,ka6)]
def ka41 : AV := (0,12,2147483647,1)
def ka42 : AV := (0,12,12,0)
def kl29 : AL := [some ka0,some ka1,some ka25,some ka26,some ka5,some ka14,some ka41,some ka42,some ka13]
def kf7 : FA := [(77,0,ka42),(77,3,ka6)]
def ka43 : AV := (0,13,2147483647,1)
def ka44 : AV := (0,13,13,0)
def kl30 : AL := [some ka0,some ka1,some ka25,some ka26,some ka5,some ka14,some ka43,some ka44,some ka13]
def kf8 : FA := [(77,0,ka44),(77,3,ka6)]
def ka45 : AV := (0,14,2147483647,1)
def ka46 : AV := (0,14,14,0)
def kl31 : AL := [some ka0,some ka1,some ka25,some ka26,some ka5,some ka14,some ka45,some ka46,some ka13]
def kf9 : FA := [(77,0,ka46),(77,3,ka6)]
def ka47 : AV := (0,15,2147483647,1)
def ka48 : AV := (0,15,15,0)
def kl32 : AL := [some ka0,some ka1,some ka25,some ka26,some ka5,some ka14,some ka47,some ka48,some ka13]
def kf10 : FA := [(77,0,ka48),(77,3,ka6)]
def ka49 : AV := (0,16,2147483647,1)
def ka50 : AV := (0,16,16,0)
def kl33 : AL := [some ka0,some ka1,some ka25,some ka26,some ka5,some ka14,some ka49,some ka50,some ka13]
def kf11 : FA := [(77,0,ka50),(77,3,ka6)]
def ka51 : AV := (0,17,2147483647,1)
def ka52 : AV := (0,17,17,0)
def kl34 : AL := [some ka0,some ka1,some ka25,some ka26,some ka5,some ka14,some ka51,some ka52,some ka13]
def kf12 : FA := [(77,0,ka52),(77,3,ka6)]
def ka53 : AV := (0,18,2147483647,1)
def ka54 : AV := (0,18,18,0)
def kl35 : AL := [some ka0,some ka1,some ka25,some ka26,some ka5,some ka14,some ka53,some ka54,some ka13]
def kf13 : FA := [(77,0,ka54),(77,3,ka6)]
def ka55 : AV := (0,19,2147483647,1)
def ka56 : AV := (0,19,19,0)
def kl36 : AL := [some ka0,some ka1,some ka25,some ka26,some ka5,some ka14,some ka55,some ka56,some ka13]
def kf14 : FA := [(77,0,ka56),(77,3,ka6)]
def ka57 : AV := (0,2,2147483647,1)
def kl37 : AL := [some ka0,some ka1,some ka25,some ka26,some ka5,some ka14,some ka57,some ka8,some ka13]
def kf15 : FA := [(77,0,ka8),(77,3,ka6)]
def ka58 : AV := (0,20,2147483647,1)
def kl38 : AL := [some ka0,some ka1,some ka25,some ka26,some ka5,some ka14,some ka58,some ka19,some ka13]
def kf16 : FA := [(77,0,ka19),(77,3,ka6)]
def ka59 : AV := (0,21,2147483647,1)
def ka60 : AV := (0,21,21,0)
def kl39 : AL := [some ka0,some ka1,some ka25,some ka26,some ka5,some ka14,some ka59,some ka60,some ka13]
def kf17 : FA := [(77,0,ka60),(77,3,ka6)]
def ka61 : AV := (0,22,2147483647,1)
def ka62 : AV := (0,22,22,0)
def kl40 : AL := [some ka0,some ka1,some ka25,some ka26,some ka5,some ka14,some ka61,some ka62,some ka13]
def kf18 : FA := [(77,0,ka62),(77,3,ka6)]
def ka63 : AV := (0,23,2147483647,1)
def ka64 : AV := (0,23,23,0)
def kl41 : AL := [some ka0,some ka1,some ka25,some ka26,some ka5,some ka14,some ka63,some ka64,some ka13]
def kf19 : FA := [(77,0,ka64),(77,3,ka6)]
def ka65 : AV := (0,24,2147483647,1)
def kl42 : AL := [some ka0,some ka1,some ka25,some ka26,some ka5,some ka14,some ka65,some ka29,some ka13]
def kf20 : FA := [(77,0,ka29),(77,3,ka6)]
def ka66 : AV := (0,3,2147483647,1)
def ka67 : AV := (0,3,3,0)
def kl43 : AL := [some ka0,some ka1,some ka25,some ka26,some ka5,some ka14,some ka66,some ka67,some ka13]
def kf21 : FA := [(77,0,ka67),(77,3,ka6)]
def ka68 : AV := (0,4,2147483647,1)
def ka69 : AV := (0,4,4,0)
def kl44 : AL := [some ka0,some ka1,some ka25,some ka26,some ka5,some ka14,some ka68,some ka69,some ka13]
def kf22 : FA := [(77,0,ka69),(77,3,ka6)]
def ka70 : AV := (0,5,2147483647,1)
def ka71 : AV := (0,5,5,0)
def kl45 : AL := [some ka0,some ka1,some ka25,some ka26,some ka5,some ka14,some ka70,some ka71,some ka13]
def kf23 : FA := [(77,0,ka71),(77,3,ka6)]
def ka72 : AV := (0,6,2147483647,1)
def ka73 : AV := (0,6,6,0)
def kl46 : AL := [some ka0,some ka1,some ka25,some ka26,some ka5,some ka14,some ka72,some ka73,some ka13]
def kf24 : FA := [(77,0,ka73),(77,3,ka6)]
def ka74 : AV := (0,7,2147483647,1)
def ka75 : AV := (0,7,7,0)
def kl47 : AL := [some ka0,some ka1,some ka25,some ka26,some ka5,some ka14,some ka74,some ka75,some ka13]
def kf25 : FA := [(77,0,ka75),(77,3,ka6)]
def ka76 : AV := (0,8,2147483647,1)
def ka77 : AV := (0,8,8,0)
def kl48 : AL := [some ka0,some ka1,some ka25,some ka26,some ka5,some ka14,some ka76,some ka77,some ka13]
def kf26 : FA := [(77,0,ka77),(77,3,ka6)]
def ka78 : AV := (0,9,2147483647,1)
def ka79 : AV := (0,9,9,0)
def kl49 : AL := [some ka0,some ka1,some ka25,some ka26,some ka5,some ka14,some ka78,some ka79,some ka13]
def kf27 : FA := [(77,0,ka79),(77,3,ka6)]
def ke55 : SE := (ka4,(1,7,0,0,0))
def ke56 : SE := (ka18,(1,7,0,0,0))
def ke57 : SE := (ka38,(1,7,0,0,0))
def ke58 : SE := (ka40,(1,7,0,0,0))
def ke59 : SE := (ka42,(1,7,0,0,0))
def ke60 : SE := (ka44,(1,7,0,0,0))
def ke61 : SE := (ka46,(1,7,0,0,0))
def ke62 : SE := (ka48,(1,7,0,0,0))
def ke63 : SE := (ka50,(1,7,0,0,0))
def ke64 : SE := (ka52,(1,7,0,0,0))
def ke65 : SE := (ka54,(1,7,0,0,0))
def ke66 : SE := (ka56,(1,7,0,0,0))
def ke67 : SE := (ka8,(1,7,0,0,0))
def ke68 : SE := (ka19,(1,7,0,0,0))
def ke69 : SE := (ka60,(1,7,0,0,0))
def ke70 : SE := (ka62,(1,7,0,0,0))
def ke71 : SE := (ka64,(1,7,0,0,0))
def ke72 : SE := (ka29,(1,7,0,0,0))
def ke73 : SE := (ka67,(1,7,0,0,0))
def ke74 : SE := (ka69,(1,7,0,0,0))
def ke75 : SE := (ka71,(1,7,0,0,0))
def ke76 : SE := (ka73,(1,7,0,0,0))
def ke77 : SE := (ka75,(1,7,0,0,0))
def ke78 : SE := (ka77,(1,7,0,0,0))
def ke79 : SE := (ka79,(1,7,0,0,0))
def ke80 : SE := (ka3,(1,6,0,0,0))
def ke81 : SE := (ka36,(1,6,0,0,0))
def ke82 : SE := (ka37,(1,6,0,0,0))
def ke83 : SE := (ka39,(1,6,0,0,0))
def ke84 : SE := (ka41,(1,6,0,0,0))
def ke85 : SE := (ka43,(1,6,0,0,0))
def ke86 : SE := (ka45,(1,6,0,0,0))
def ke87 : SE := (ka47,(1,6,0,0,0))
def ke88 : SE := (ka49,(1,6,0,0,0))
def ke89 : SE := (ka51,(1,6,0,0,0))
def ke90 : SE := (ka53,(1,6,0,0,0))
def ke91 : SE := (ka55,(1,6,0,0,0))
def ke92 : SE := (ka57,(1,6,0,0,0))
def ke93 : SE := (ka58,(1,6,0,0,0))
def ke94 : SE := (ka59,(1,6,0,0,0))
def ke95 : SE := (ka61,(1,6,0,0,0))
def ke96 : SE := (ka63,(1,6,0,0,0))
def ke97 : SE := (ka65,(1,6,0,0,0))
def ke98 : SE := (ka66,(1,6,0,0,0))
def ke99 : SE := (ka68,(1,6,0,0,0))
def ke100 : SE := (ka70,(1,6,0,0,0))
def ke101 : SE := (ka72,(1,6,0,0,0))
def ke102 : SE := (ka74,(1,6,0,0,0))
def ke103 : SE := (ka76,(1,6,0,0,0))
def ke104 : SE := (ka78,(1,6,0,0,0))
def kl50 : AL := [some ka0,some ka1,some ka25,some ka26,some ka5,some ka14,some ka36,some ka4,none]
def kl51 : AL := [some ka0,some ka1,some ka25,some ka26,some ka5,some ka14,some ka57,some ka18,some ka13]
def kl52 : AL := [some ka0,some ka1,some ka25,some ka26,some ka5,some ka14,some ka39,some ka38,some ka13]
def kl53 : AL := [some ka0,some ka1,some ka25,some ka26,some ka5,some ka14,some ka41,some ka40,some ka13]
def kl54 : AL := [some ka0,some ka1,some ka25,some ka26,some ka5,some ka14,some ka43,some ka42,some ka13]
def kl55 : AL := [some ka0,some ka1,some ka25,some ka26,some ka5,some ka14,some ka45,some ka44,some ka13]
def kl56 : AL := [some ka0,some ka1,some ka25,some ka26,some ka5,some ka14,some ka47,some ka46,some ka13]
def kl57 : AL := [some ka0,some ka1,some ka25,some ka26,some ka5,some ka14,some ka49,some ka48,some ka13]
def kl58 : AL := [some ka0,some ka1,some ka25,some ka26,some ka5,some ka14,some ka51,some ka50,some ka13]
def kl59 : AL := [some ka0,some ka1,some ka25,some ka26,some ka5,some ka14,some ka53,some ka52,some ka13]
def kl60 : AL := [some ka0,some ka1,some ka25,some ka26,some ka5,some ka14,some ka55,some ka54,some ka13]
def kl61 : AL := [some ka0,some ka1,some ka25,some ka26,some ka5,some ka14,some ka58,some ka56,some ka13]
def kl62 : AL := [some ka0,some ka1,some ka25,some ka26,some ka5,some ka14,some ka66,some ka8,some ka13]
def kl63 : AL := [some ka0,some ka1,some ka25,some ka26,some ka5,some ka14,some ka59,some ka19,some ka13]
def kl64 : AL := [some ka0,some ka1,some ka25,some ka26,some ka5,some ka14,some ka61,some ka60,some ka13]
def kl65 : AL := [some ka0,some ka1,some ka25,some ka26,some ka5,some ka14,some ka63,some ka62,some ka13]
def kl66 : AL := [some ka0,some ka1,some ka25,some ka26,some ka5,some ka14,some ka65,some ka64,some ka13]
def ka80 : AV := (0,25,2147483647,1)
def kl67 : AL := [some ka0,some ka1,some ka25,some ka26,some ka5,some ka14,some ka80,some ka29,some ka13]
def kl68 : AL := [some ka0,some ka1,some ka25,some ka26,some ka5,some ka14,some ka68,some ka67,some ka13]
def kl69 : AL := [some ka0,some ka1,some ka25,some ka26,some ka5,some ka14,some ka70,some ka69,some ka13]
def kl70 : AL := [some ka0,some ka1,some ka25,some ka26,some ka5,some ka14,some ka72,some ka71,some ka13]
def kl71 : AL := [some ka0,some ka1,some ka25,some ka26,some ka5,some ka14,some ka74,some ka73,some ka13]
def kl72 : AL := [some ka0,some ka1,some ka25,some ka26,some ka5,some ka14,some ka76,some ka75,some ka13]
def kl73 : AL := [some ka0,some ka1,some ka25,some ka26,some ka5,some ka14,some ka78,some ka77,some ka13]
def kl74 : AL := [some ka0,some ka1,some ka25,some ka26,some ka5,some ka14,some ka37,some ka79,some ka13]
def ka81 : AV := (0,-1,13,1)
def ke105 : SE := (ka81,pv0)
def kl75 : AL := [some ka0,some ka1,some ka25,some ka26,some ka5,some ka14,some ka36,some ka4,some ka81]
def kl76 : AL := [some ka0,some ka1,some ka25,some ka26,some ka5,some ka14,some ka57,some ka18,some ka81]
def kl77 : AL := [some ka0,some ka1,some ka25,some ka26,some ka5,some ka14,some ka39,some ka38,some ka81]
def kl78 : AL := [some ka0,some ka1,some ka25,some ka26,some ka5,some ka14,some ka41,some ka40,some ka81]
def kl79 : AL := [some ka0,some ka1,some ka25,some ka26,some ka5,some ka14,some ka43,some ka42,some ka81]
def kl80 : AL := [some ka0,some ka1,some ka25,some ka26,some ka5,some ka14,some ka45,some ka44,some ka81]
def kl81 : AL := [some ka0,some ka1,some ka25,some ka26,some ka5,some ka14,some ka47,some ka46,some ka81]
def kl82 : AL := [some ka0,some ka1,some ka25,some ka26,some ka5,some ka14,some ka49,some ka48,some ka81]
def kl83 : AL := [some ka0,some ka1,some ka25,some ka26,some ka5,some ka14,some ka51,some ka50,some ka81]
def kl84 : AL := [some ka0,some ka1,some ka25,some ka26,some ka5,some ka14,some ka53,some ka52,some ka81]
def kl85 : AL := [some ka0,some ka1,some ka25,some ka26,some ka5,some ka14,some ka55,some ka54,some ka81]
def kl86 : AL := [some ka0,some ka1,some ka25,some ka26,some ka5,some ka14,some ka58,some ka56,some ka81]
def kl87 : AL := [some ka0,some ka1,some ka25,some ka26,some ka5,some ka14,some ka66,some ka8,some ka81]
def kl88 : AL := [some ka0,some ka1,some ka25,some ka26,some ka5,some ka14,some ka59,some ka19,some ka81]
def kl89 : AL := [some ka0,some ka1,some ka25,some ka26,some ka5,some ka14,some ka61,some ka60,some ka81]
def kl90 : AL := [some ka0,some ka1,some ka25,some ka26,some ka5,some ka14,some ka63,some ka62,some ka81]
def kl91 : AL := [some ka0,some ka1,some ka25,some ka26,some ka5,some ka14,some ka65,some ka64,some ka81]
def kl92 : AL := [some ka0,some ka1,some ka25,some ka26,some ka5,some ka14,some ka68,some ka67,some ka81]
def kl93 : AL := [some ka0,some ka1,some ka25,some ka26,some ka5,some ka14,some ka70,some ka69,some ka81]
def kl94 : AL := [some ka0,some ka1,some ka25,some ka26,some ka5,some ka14,some ka72,some ka71,some ka81]
def kl95 : AL := [some ka0,some ka1,some ka25,some ka26,some ka5,some ka14,some ka74,some ka73,some ka81]
def kl96 : AL := [some ka0,some ka1,some ka25,some ka26,some ka5,some ka14,some ka76,some ka75,some ka81]
def kl97 : AL := [some ka0,some ka1,some ka25,some ka26,some ka5,some ka14,some ka78,some ka77,some ka81]
def kl98 : AL := [some ka0,some ka1,some ka25,some ka26,some ka5,some ka14,some ka37,some ka79,some ka81]
def ke106 : SE := (ka81,(1,8,0,0,0))
def kl99 : AL := [some ka0,some ka1,some ka25,some ka26,some ka5,some ka14,some ka36,some ka4,some ka11]
def kl100 : AL := [some ka0,some ka1,some ka25,some ka26,some ka5,some ka14,some ka57,some ka18,some ka11]
def kl101 : AL := [some ka0,some ka1,some ka25,some ka26,some ka5,some ka14,some ka39,some ka38,some ka11]
def kl102 : AL := [some ka0,some ka1,some ka25,some ka26,some ka5,some ka14,some ka41,some ka40,some ka11]
def kl103 : AL := [some ka0,some ka1,some ka25,some ka26,some ka5,some ka14,some ka43,some ka42,some ka11]
def kl104 : AL := [some ka0,some ka1,some ka25,some ka26,some ka5,some ka14,some ka45,some ka44,some ka11]
def kl105 : AL := [some ka0,some ka1,some ka25,some ka26,some ka5,some ka14,some ka47,some ka46,some ka11]
def kl106 : AL := [some ka0,some ka1,some ka25,some ka26,some ka5,some ka14,some ka49,some ka48,some ka11]
def kl107 : AL := [some ka0,some ka1,some ka25,some ka26,some ka5,some ka14,some ka51,some ka50,some ka11]
def kl108 : AL := [some ka0,some ka1,some ka25,some ka26,some ka5,some ka14,some ka53,some ka52,some ka11]
def kl109 : AL := [some ka0,some ka1,some ka25,some ka26,some ka5,some ka14,some ka55,some ka54,some ka11]
def kl110 : AL := [some ka0,some ka1,some ka25,some ka26,some ka5,some ka14,some ka58,some ka56,some ka11]
def kl111 : AL := [some ka0,some ka1,some ka25,some ka26,some ka5,some ka14,some ka66,some ka8,some ka11]
def kl112 : AL := [some ka0,some ka1,some ka25,some ka26,some ka5,some ka14,some ka59,some ka19,some ka11]
def kl113 : AL := [some ka0,some ka1,some ka25,some ka26,some ka5,some ka14,some ka61,some ka60,some ka11]
def kl114 : AL := [some ka0,some ka1,some ka25,some ka26,some ka5,some ka14,some ka63,some ka62,some ka11]
def kl115 : AL := [some ka0,some ka1,some ka25,some ka26,some ka5,some ka14,some ka65,some ka64,some ka11]
def kl116 : AL := [some ka0,some ka1,some ka25,some ka26,some ka5,some ka14,some ka68,some ka67,some ka11]
def kl117 : AL := [some ka0,some ka1,some ka25,some ka26,some ka5,some ka14,some ka70,some ka69,some ka11]
def kl118 : AL := [some ka0,some ka1,some ka25,some ka26,some ka5,some ka14,some ka72,some ka71,some ka11]
def kl119 : AL := [some ka0,some ka1,some ka25,some ka26,some ka5,some ka14,some ka74,some ka73,some ka11]
def kl120 : AL := [some ka0,some ka1,some ka25,some ka26,some ka5,some ka14,some ka76,some ka75,some ka11]
def kl121 : AL := [some ka0,some ka1,some ka25,some ka26,some ka5,some ka14,some ka78,some ka77,some ka11]
def kl122 : AL := [some ka0,some ka1,some ka25,some ka26,some ka5,some ka14,some ka37,some ka79,some ka11]
def kl123 : AL := [some ka0,some ka1,some ka25,some ka26,some ka5,some ka14,some ka36,some ka4,some ka13]
def ka82 : AV := (2,78,78,0)
def ke107 : SE := (ka82,(2,77,1,0,0))
def ke108 : SE := (ka4,(2,77,0,0,0))
def ke109 : SE := (ka18,(2,77,0,0,0))
def ke110 : SE := (ka38,(2,77,0,0,0))
def ke111 : SE := (ka40,(2,77,0,0,0))
def ke112 : SE := (ka42,(2,77,0,0,0))
def ke113 : SE := (ka44,(2,77,0,0,0))
def ke114 : SE := (ka46,(2,77,0,0,0))
def ke115 : SE := (ka48,(2,77,0,0,0))
def ke116 : SE := (ka50,(2,77,0,0,0))
def ke117 : SE := (ka52,(2,77,0,0,0))
def ke118 : SE := (ka54,(2,77,0,0,0))
def ke119 : SE := (ka56,(2,77,0,0,0))
def ke120 : SE := (ka8,(2,77,0,0,0))
def ke121 : SE := (ka19,(2,77,0,0,0))
def ke122 : SE := (ka60,(2,77,0,0,0))
def ke123 : SE := (ka62,(2,77,0,0,0))
def ke124 : SE := (ka64,(2,77,0,0,0))
def ke125 : SE := (ka67,(2,77,0,0,0))
def ke126 : SE := (ka69,(2,77,0,0,0))
def ke127 : SE := (ka71,(2,77,0,0,0))
def ke128 : SE := (ka73,(2,77,0,0,0))
def ke129 : SE := (ka75,(2,77,0,0,0))
def ke130 : SE := (ka77,(2,77,0,0,0))
def ke131 : SE := (ka79,(2,77,0,0,0))
def ke132 : SE := (ka13,(1,8,0,0,0))
def ke133 : SE := (ka40,pv0)
def ke134 : SE := (ka42,pv0)
def ke135 : SE := (ka44,pv0)
def ke136 : SE := (ka46,pv0)
def ke137 : SE := (ka48,pv0)
def ke138 : SE := (ka50,pv0)
def ke139 : SE := (ka52,pv0)
def ke140 : SE := (ka54,pv0)
def ke141 : SE := (ka56,pv0)
def ke142 : SE := (ka67,pv0)
def ke143 : SE := (ka60,pv0)
def ke144 : SE := (ka62,pv0)
def ke145 : SE := (ka64,pv0)
def ke146 : SE := (ka69,pv0)
def ke147 : SE := (ka71,pv0)
def ke148 : SE := (ka73,pv0)
def ke149 : SE := (ka75,pv0)
def ke150 : SE := (ka77,pv0)
def ke151 : SE := (ka79,pv0)
def ke152 : SE := (ka38,pv0)
def kf28 : FA := [(77,0,ka18),(77,3,ka5)]
def ke153 : SE := (ka6,pv0)
def ka83 : AV := (0,-2147483648,0,1)
def kl124 : AL := [some ka0,some ka1,some ka25,some ka26,some ka5,some ka14,some ka83,some ka4,none]
def kl125 : AL := [some ka0,some ka1,some ka25,some ka26,some ka5,some ka14,some ka18,some ka18,some ka13]
def kl126 : AL := [some ka0,some ka1,some ka25,some ka26,some ka5,some ka14,some ka38,some ka38,some ka13]
def kl127 : AL := [some ka0,some ka1,some ka25,some ka26,some ka5,some ka14,some ka40,some ka40,some ka13]
def kl128 : AL := [some ka0,some ka1,some ka25,some ka26,some ka5,some ka14,some ka42,some ka42,some ka13]
def kl129 : AL := [some ka0,some ka1,some ka25,some ka26,some ka5,some ka14,some ka44,some ka44,some ka13]
def kl130 : AL := [some ka0,some ka1,some ka25,some ka26,some ka5,some ka14,some ka46,some ka46,some ka13]
def kl131 : AL := [some ka0,some ka1,some ka25,some ka26,some ka5,some ka14,some ka48,some ka48,some ka13]
def kl132 : AL := [some ka0,some ka1,some ka25,some ka26,some ka5,some ka14,some ka50,some ka50,some ka13]
def kl133 : AL := [some ka0,some ka1,some ka25,some ka26,some ka5,some ka14,some ka52,some ka52,some ka13]
def kl134 : AL := [some ka0,some ka1,some ka25,some ka26,some ka5,some ka14,some ka54,some ka54,some ka13]
def kl135 : AL := [some ka0,some ka1,some ka25,some ka26,some ka5,some ka14,some ka56,some ka56,some ka13]
def kl136 : AL := [some ka0,some ka1,some ka25,some ka26,some ka5,some ka14,some ka8,some ka8,some ka13]
def kl137 : AL := [some ka0,some ka1,some ka25,some ka26,some ka5,some ka14,some ka19,some ka19,some ka13]
def kl138 : AL := [some ka0,some ka1,some ka25,some ka26,some ka5,some ka14,some ka60,some ka60,some ka13]
def kl139 : AL := [some ka0,some ka1,some ka25,some ka26,some ka5,some ka14,some ka62,some ka62,some ka13]
def kl140 : AL := [some ka0,some ka1,some ka25,some ka26,some ka5,some ka14,some ka64,some ka64,some ka13]
def kl141 : AL := [some ka0,some ka1,some ka25,some ka26,some ka5,some ka14,some ka67,some ka67,some ka13]
def kl142 : AL := [some ka0,some ka1,some ka25,some ka26,some ka5,some ka14,some ka69,some ka69,some ka13]
def kl143 : AL := [some ka0,some ka1,some ka25,some ka26,some ka5,some ka14,some ka71,some ka71,some ka13]
def kl144 : AL := [some ka0,some ka1,some ka25,some ka26,some ka5,some ka14,some ka73,some ka73,some ka13]
def kl145 : AL := [some ka0,some ka1,some ka25,some ka26,some ka5,some ka14,some ka75,some ka75,some ka13]
def kl146 : AL := [some ka0,some ka1,some ka25,some ka26,some ka5,some ka14,some ka77,some ka77,some ka13]
def kl147 : AL := [some ka0,some ka1,some ka25,some ka26,some ka5,some ka14,some ka79,some ka79,some ka13]
def CN193 : List ND := [(0,(kl19,[],[]),1369,kc4,[1],0),
  (1,(kl19,[ke0],[]),1368,kc4,[2],0),
  (2,(kl19,[ke15,ke0],[]),1367,kc4,[3],0),
  (5,(kl19,[],kf2),1366,kc4,[4],0),
  (6,(kl19,[ke0],kf2),1365,kc4,[5],0),
  (7,(kl19,[ke4,ke0],kf2),1364,kc4,[6],0),
  (8,(kl19,[ke36,ke4,ke0],kf2),1363,kc4,[7],0),
  (9,(kl19,[ke37,ke36,ke4,ke0],kf2),1362,kc4,[8],184),
  (12,(kl19,[ke38],kf2),1361,kc4,[9],0),
  (14,(kl20,[],kf2),1360,kc4,[10],0),
  (15,(kl20,[ke0],kf2),1359,kc4,[11],0),
  (16,(kl20,[ke36,ke0],kf2),1358,kc4,[12],0),
  (17,(kl20,[ke37,ke36,ke0],kf2),1357,kc4,[13],176),
  (20,(kl20,[ke39,ke0],kf2),1356,kc4,[14],0),
  (23,(kl20,[],kf2),1355,kc4,[15],0),
  (25,(kl20,[ke40],kf2),1354,kc4,[16],0),
  (26,(kl20,[ke13,ke40],kf2),1353,kc4,[24,17],0),
  (29,(kl21,[],kf2),1352,kc4,[18],0),
  (31,(kl21,[ke41],kf2),1351,kc4,[19],0),
  (33,(kl21,[ke42,ke41],kf2),1350,kc4,[24,20],0),
  (36,(kl22,[],kf2),1349,kc4,[21],0),
  (37,(kl22,[ke0],kf2),1348,kc4,[22],0),
  (40,(kl22,[ke43],kf2),1347,kc4,[23],0),
  (42,(kl22,[ke22,ke43],kf2),1346,kc4,[25,24],0),
  (45,(kl20,[],kf2),0,kc4,[],0),
  (46,(kl22,[],kf3),1345,kc4,[26],0),
  (47,(kl22,[ke4],kf3),1344,kc4,[27],0),
  (50,(kl22,[ke44],kf3),1343,kc4,[28],0),
  (51,(kl22,[ke37,ke44],kf3),1342,kc4,[29],0),
  (52,(kl22,[ke45],kf3),1341,kc4,[30],0),
  (54,(kl23,[],kf3),1340,kc4,[31],0),
  (55,(kl23,[ke0],kf3),1339,kc4,[32],0),
  (56,(kl23,[ke4,ke0],kf3),1338,kc4,[33],0),
  (58,(kl23,[ke46,ke4,ke0],kf3),1337,kc4,[34],0),
  (59,(kl23,[ke36,ke46,ke4,ke0],kf3),1336,kc4,[35],0),
  (62,(kl23,[ke47,ke46,ke4,ke0],kf3),1335,kc4,[36],0),
  (63,(kl23,[ke0,ke47,ke46,ke4,ke0],kf3),1334,kc4,[37],0),
  (66,(kl23,[ke48,ke47,ke46,ke4,ke0],kf3),1333,kc4,[38],0),
  (68,(kl23,[ke22,ke48,ke47,ke46,ke4,ke0],kf3),1332,kc4,[39],187),
  (71,(kl23,[],kf3),1331,kc4,[40],0),
  (72,(kl23,[ke0],kf3),1330,kc4,[41],0),
  (73,(kl23,[ke36,ke0],kf3),1329,kc4,[42],0),
  (76,(kl23,[ke49,ke0],kf3),1328,kc4,[43],0),
  (77,(kl23,[ke37,ke49,ke0],kf3),1327,kc4,[44],0),
  (78,(kl23,[ke9,ke0],kf3),1326,kc4,[45],0),
  (79,(kl23,[ke8,ke9,ke0],kf3),1325,kc4,[46],0),
  (80,(kl23,[ke50,ke0],kf3),1324,kc4,[47],0),
  (81,(kl23,[ke36,ke50,ke0],kf3),1323,kc4,[48],0),
  (84,(kl23,[ke51,ke50,ke0],kf3),1322,kc4,[49],0),
  (85,(kl23,[ke37,ke51,ke50,ke0],kf3),1321,kc4,[50],0),
  (86,(kl23,[ke33,ke50,ke0],kf3),1320,kc4,[51],0),
  (87,(kl23,[ke25,ke33,ke50,ke0],kf3),1319,kc4,[52],0),
  (88,(kl23,[ke52,ke50,ke0],kf3),1318,kc4,[53],0),
  (89,(kl23,[ke29,ke0],kf3),1317,kc4,[54],0),
  (92,(kl23,[],kf3),1316,kc4,[55],0),
  (93,(kl23,[ke0],kf3),1315,kc4,[56],0),
  (96,(kl23,[ke31],kf3),1314,kc4,[57],0),
  (97,(kl23,[ke0,ke31],kf3),1313,kc4,[58],0),
  (100,(kl23,[ke48,ke31],kf3),1312,kc4,[59],0),
  (102,(kl23,[ke27,ke48,ke31],kf3),1311,kc4,[60],0),
  (103,(kl23,[ke53,ke31],kf3),1310,kc4,[61],0),
  (104,(kl23,[ke0,ke53,ke31],kf3),1309,kc4,[62],0),
  (107,(kl23,[ke7,ke53,ke31],kf3),1308,kc4,[63],0),
  (108,(kl23,[ke54,ke31],kf3),1307,kc4,[64],0),
  (109,(kl23,[ke33],kf3),1306,kc4,[65],0),
  (111,(kl24,[],kf3),1305,kc4,[66],0),
  (112,(kl24,[ke15],kf3),1304,kc4,[67],0),
  (114,(kl25,[],kf3),1303,kc4,[92],0),
  (114,(kl26,[],kf4),1250,kc4,[93],0),
  (114,(kl27,[],kf5),772,kc4,[94],0),
  (114,(kl28,[],kf6),719,kc4,[95],0),
  (114,(kl29,[],kf7),666,kc4,[96],0),
  (114,(kl30,[],kf8),613,kc4,[97],0),
  (114,(kl31,[],kf9),560,kc4,[98],0),
  (114,(kl32,[],kf10),507,kc4,[99],0),
  (114,(kl33,[],kf11),454,kc4,[100],0),
  (114,(kl34,[],kf12),401,kc4,[101],0),
  (114,(kl35,[],kf13),348,kc4,[102],0),
  (114,(kl36,[],kf14),294,kc4,[103],0),
  (114,(kl37,[],kf15),1196,kc4,[104],0),
  (114,(kl38,[],kf16),241,kc4,[105],0),
  (114,(kl39,[],kf17),188,kc4,[106],0),
  (114,(kl40,[],kf18),134,kc4,[107],0),
  (114,(kl41,[],kf19),82,kc4,[108],0),
  (114,(kl42,[],kf20),29,kc4,[109],0),
  (114,(kl43,[],kf21),1142,kc4,[110],0),
  (114,(kl44,[],kf22),1089,kc4,[111],0),
  (114,(kl45,[],kf23),1036,kc4,[112],0),
  (114,(kl46,[],kf24),983,kc4,[113],0),
  (114,(kl47,[],kf25),930,kc4,[114],0),
  (114,(kl48,[],kf26),878,kc4,[115],0),
  (114,(kl49,[],kf27),825,kc4,[116],0),
  (116,(kl25,[ke55],kf3),1302,kc4,[117],0),
  (116,(kl26,[ke56],kf4),1249,kc4,[118],0),
  (116,(kl27,[ke57],kf5),771,kc4,[119],0),
  (116,(kl28,[ke58],kf6),718,kc4,[120],0),
  (116,(kl29,[ke59],kf7),665,kc4,[121],0),
  (116,(kl30,[ke60],kf8),612,kc4,[122],0),
  (116,(kl31,[ke61],kf9),559,kc4,[123],0),
  (116,(kl32,[ke62],kf10),506,kc4,[124],0),
  (116,(kl33,[ke63],kf11),453,kc4,[125],0),
  (116,(kl34,[ke64],kf12),400,kc4,[126],0),
  (116,(kl35,[ke65],kf13),347,kc4,[127],0),
  (116,(kl36,[ke66],kf14),293,kc4,[128],0),
  (116,(kl37,[ke67],kf15),1195,kc4,[129],0),
  (116,(kl38,[ke68],kf16),240,kc4,[130],0),
  (116,(kl39,[ke69],kf17),187,kc4,[131],0),
  (116,(kl40,[ke70],kf18),133,kc4,[132],0),
  (116,(kl41,[ke71],kf19),81,kc4,[133],0),
  (116,(kl42,[ke72],kf20),28,kc4,[134],0),
  (116,(kl43,[ke73],kf21),1141,kc4,[135],0),
  (116,(kl44,[ke74],kf22),1088,kc4,[136],0),
  (116,(kl45,[ke75],kf23),1035,kc4,[137],0),
  (116,(kl46,[ke76],kf24),982,kc4,[138],0),
  (116,(kl47,[ke77],kf25),929,kc4,[139],0),
  (116,(kl48,[ke78],kf26),877,kc4,[140],0),
  (116,(kl49,[ke79],kf27),824,kc4,[141],0),
  (118,(kl25,[ke80,ke55],kf3),1301,kc4,[1345,142],0),
  (118,(kl26,[ke81,ke56],kf4),1248,kc4,[1346,143],0),
  (118,(kl27,[ke82,ke57],kf5),770,kc4,[1347,144],0),
  (118,(kl28,[ke83,ke58],kf6),717,kc4,[1348,145],0),
  (118,(kl29,[ke84,ke59],kf7),664,kc4,[1349,146],0),
  (118,(kl30,[ke85,ke60],kf8),611,kc4,[1350,147],0),
  (118,(kl31,[ke86,ke61],kf9),558,kc4,[1351,148],0),
  (118,(kl32,[ke87,ke62],kf10),505,kc4,[1352,149],0),
  (118,(kl33,[ke88,ke63],kf11),452,kc4,[1353,150],0),
  (118,(kl34,[ke89,ke64],kf12),399,kc4,[1354,151],0),
  (118,(kl35,[ke90,ke65],kf13),346,kc4,[1355,152],0),
  (118,(kl36,[ke91,ke66],kf14),292,kc4,[1356,153],0),
  (118,(kl37,[ke92,ke67],kf15),1194,kc4,[1357,154],0),
  (118,(kl38,[ke93,ke68],kf16),239,kc4,[1358,155],0),
  (118,(kl39,[ke94,ke69],kf17),186,kc4,[1359,156],0),
  (118,(kl40,[ke95,ke70],kf18),132,kc4,[1360,157],0),
  (118,(kl41,[ke96,ke71],kf19),80,kc4,[1361,158],0),
  (118,(kl42,[ke97,ke72],kf20),27,kc4,[1362,159],0),
  (118,(kl43,[ke98,ke73],kf21),1140,kc4,[1363,160],0),
  (118,(kl44,[ke99,ke74],kf22),1087,kc4,[1364,161],0),
  (118,(kl45,[ke100,ke75],kf23),1034,kc4,[1365,162],0),
  (118,(kl46,[ke101,ke76],kf24),981,kc4,[1366,163],0),
  (118,(kl47,[ke102,ke77],kf25),928,kc4,[1367,164],0),
  (118,(kl48,[ke103,ke78],kf26),876,kc4,[1368,165],0),
  (118,(kl49,[ke104,ke79],kf27),823,kc4,[1369,166],0),
  (121,(kl50,[],kf3),1299,kc4,[167],0),
  (121,(kl51,[],kf4),1246,kc4,[168],0),
  (121,(kl52,[],kf5),768,kc4,[169],0),
  (121,(kl53,[],kf6),715,kc4,[170],0),
  (121,(kl54,[],kf7),662,kc4,[171],0),
  (121,(kl55,[],kf8),609,kc4,[172],0),
  (121,(kl56,[],kf9),556,kc4,[173],0),
  (121,(kl57,[],kf10),504,kc4,[174],0),
  (121,(kl58,[],kf11),450,kc4,[175],0),
  (121,(kl59,[],kf12),398,kc4,[176],0),
  (121,(kl60,[],kf13),344,kc4,[177],0),
  (121,(kl61,[],kf14),290,kc4,[178],0),
  (121,(kl62,[],kf15),1192,kc4,[179],0),
  (121,(kl63,[],kf16),237,kc4,[180],0),
  (121,(kl64,[],kf17),184,kc4,[181],0),
  (121,(kl65,[],kf18),131,kc4,[182],0),
  (121,(kl66,[],kf19),79,kc4,[183],0),
  (121,(kl67,[],kf20),26,kc4,[184],0),
  (121,(kl68,[],kf21),1138,kc4,[185],0),
  (121,(kl69,[],kf22),1085,kc4,[186],0),
  (121,(kl70,[],kf23),1032,kc4,[187],0),
  (121,(kl71,[],kf24),979,kc4,[188],0),
  (121,(kl72,[],kf25),927,kc4,[189],0),
  (121,(kl73,[],kf26),874,kc4,[190],0),
  (121,(kl74,[],kf27),821,kc4,[191],0),
  (123,(kl50,[ke55],kf3),1298,kc4,[192],0),
  (123,(kl51,[ke56],kf4),1245,kc4,[193],0),
  (123,(kl52,[ke57],kf5),767,kc4,[194],0),
  (123,(kl53,[ke58],kf6),714,kc4,[195],0),
  (123,(kl54,[ke59],kf7),661,kc4,[196],0),
  (123,(kl55,[ke60],kf8),608,kc4,[197],0),
  (123,(kl56,[ke61],kf9),555,kc4,[198],0),
  (123,(kl57,[ke62],kf10),503,kc4,[199],0),
  (123,(kl58,[ke63],kf11),449,kc4,[200],0),
  (123,(kl59,[ke64],kf12),397,kc4,[201],0),
  (123,(kl60,[ke65],kf13),343,kc4,[202],0),
  (123,(kl61,[ke66],kf14),289,kc4,[203],0),
  (123,(kl62,[ke67],kf15),1191,kc4,[204],0),
  (123,(kl63,[ke68],kf16),236,kc4,[205],0),
  (123,(kl64,[ke69],kf17),183,kc4,[206],0),
  (123,(kl65,[ke70],kf18),130,kc4,[207],0),
  (123,(kl66,[ke71],kf19),78,kc4,[208],0),
  (123,(kl67,[ke72],kf20),25,kc4,[209],0),
  (123,(kl68,[ke73],kf21),1137,kc4,[210],0),
  (123,(kl69,[ke74],kf22),1084,kc4,[211],0),
  (123,(kl70,[ke75],kf23),1031,kc4,[212],0),
  (123,(kl71,[ke76],kf24),978,kc4,[213],0),
  (123,(kl72,[ke77],kf25),926,kc4,[214],0),
  (123,(kl73,[ke78],kf26),873,kc4,[215],0),
  (123,(kl74,[ke79],kf27),820,kc4,[216],0),
  (125,(kl50,[ke42,ke55],kf3),1297,kc4,[217],0),
  (125,(kl51,[ke42,ke56],kf4),1244,kc4,[218],0),
  (125,(kl52,[ke42,ke57],kf5),766,kc4,[219],0),
  (125,(kl53,[ke42,ke58],kf6),713,kc4,[220],0),
  (125,(kl54,[ke42,ke59],kf7),660,kc4,[221],0),
  (125,(kl55,[ke42,ke60],kf8),607,kc4,[222],0),
  (125,(kl56,[ke42,ke61],kf9),554,kc4,[223],0),
  (125,(kl57,[ke42,ke62],kf10),502,kc4,[224],0),
  (125,(kl58,[ke42,ke63],kf11),448,kc4,[225],0),
  (125,(kl59,[ke42,ke64],kf12),396,kc4,[226],0),
  (125,(kl60,[ke42,ke65],kf13),342,kc4,[227],0),
  (125,(kl61,[ke42,ke66],kf14),288,kc4,[228],0),
  (125,(kl62,[ke42,ke67],kf15),1190,kc4,[229],0),
  (125,(kl63,[ke42,ke68],kf16),235,kc4,[230],0),
  (125,(kl64,[ke42,ke69],kf17),182,kc4,[231],0),
  (125,(kl65,[ke42,ke70],kf18),129,kc4,[232],0),
  (125,(kl66,[ke42,ke71],kf19),77,kc4,[233],0),
  (125,(kl67,[ke42,ke72],kf20),24,kc4,[1362],0),
  (125,(kl68,[ke42,ke73],kf21),1136,kc4,[234],0),
  (125,(kl69,[ke42,ke74],kf22),1083,kc4,[235],0),
  (125,(kl70,[ke42,ke75],kf23),1030,kc4,[236],0),
  (125,(kl71,[ke42,ke76],kf24),977,kc4,[237],0),
  (125,(kl72,[ke42,ke77],kf25),925,kc4,[238],0),
  (125,(kl73,[ke42,ke78],kf26),872,kc4,[239],0),
  (125,(kl74,[ke42,ke79],kf27),819,kc4,[240],0),
  (128,(kl50,[],kf3),1296,kc4,[241],0),
  (128,(kl51,[],kf4),1243,kc4,[242],0),
  (128,(kl52,[],kf5),765,kc4,[243],0),
  (128,(kl53,[],kf6),712,kc4,[244],0),
  (128,(kl54,[],kf7),659,kc4,[245],0),
  (128,(kl55,[],kf8),606,kc4,[246],0),
  (128,(kl56,[],kf9),553,kc4,[247],0),
  (128,(kl57,[],kf10),501,kc4,[248],0),
  (128,(kl58,[],kf11),447,kc4,[249],0),
  (128,(kl59,[],kf12),395,kc4,[250],0),
  (128,(kl60,[],kf13),341,kc4,[251],0),
  (128,(kl61,[],kf14),287,kc4,[252],0),
  (128,(kl62,[],kf15),1189,kc4,[253],0),
  (128,(kl63,[],kf16),234,kc4,[254],0),
  (128,(kl64,[],kf17),181,kc4,[255],0),
  (128,(kl65,[],kf18),128,kc4,[256],0),
  (128,(kl66,[],kf19),76,kc4,[257],0),
  (128,(kl68,[],kf21),1135,kc4,[258],0),
  (128,(kl69,[],kf22),1082,kc4,[259],0),
  (128,(kl70,[],kf23),1029,kc4,[260],0),
  (128,(kl71,[],kf24),976,kc4,[261],0),
  (128,(kl72,[],kf25),924,kc4,[262],0),
  (128,(kl73,[],kf26),871,kc4,[263],0),
  (128,(kl74,[],kf27),818,kc4,[264],0),
  (129,(kl50,[ke0],kf3),1295,kc4,[265],0),
  (129,(kl51,[ke0],kf4),1242,kc4,[266],0),
  (129,(kl52,[ke0],kf5),764,kc4,[267],0),
  (129,(kl53,[ke0],kf6),711,kc4,[268],0),
  (129,(kl54,[ke0],kf7),658,kc4,[269],0),
  (129,(kl55,[ke0],kf8),605,kc4,[270],0),
  (129,(kl56,[ke0],kf9),552,kc4,[271],0),
  (129,(kl57,[ke0],kf10),500,kc4,[272],0),
  (129,(kl58,[ke0],kf11),446,kc4,[273],0),
  (129,(kl59,[ke0],kf12),394,kc4,[274],0),
  (129,(kl60,[ke0],kf13),340,kc4,[275],0),
  (129,(kl61,[ke0],kf14),286,kc4,[276],0),
  (129,(kl62,[ke0],kf15),1188,kc4,[277],0),
  (129,(kl63,[ke0],kf16),233,kc4,[278],0),
  (129,(kl64,[ke0],kf17),180,kc4,[279],0),
  (129,(kl65,[ke0],kf18),127,kc4,[280],0),
  (129,(kl66,[ke0],kf19),75,kc4,[281],0),
  (129,(kl68,[ke0],kf21),1134,kc4,[282],0),
  (129,(kl69,[ke0],kf22),1081,kc4,[283],0),
  (129,(kl70,[ke0],kf23),1028,kc4,[284],0),
  (129,(kl71,[ke0],kf24),975,kc4,[285],0),
  (129,(kl72,[ke0],kf25),923,kc4,[286],0),
  (129,(kl73,[ke0],kf26),870,kc4,[287],0),
  (129,(kl74,[ke0],kf27),817,kc4,[288],0),
  (130,(kl50,[ke4,ke0],kf3),1294,kc4,[289],0),
  (130,(kl51,[ke4,ke0],kf4),1241,kc4,[290],0),
  (130,(kl52,[ke4,ke0],kf5),763,kc4,[291],0),
  (130,(kl53,[ke4,ke0],kf6),710,kc4,[292],0),
  (130,(kl54,[ke4,ke0],kf7),657,kc4,[293],0),
  (130,(kl55,[ke4,ke0],kf8),604,kc4,[294],0),
  (130,(kl56,[ke4,ke0],kf9),551,kc4,[295],0),
  (130,(kl57,[ke4,ke0],kf10),499,kc4,[296],0),
  (130,(kl58,[ke4,ke0],kf11),445,kc4,[297],0),
  (130,(kl59,[ke4,ke0],kf12),393,kc4,[298],0),
  (130,(kl60,[ke4,ke0],kf13),339,kc4,[299],0),
  (130,(kl61,[ke4,ke0],kf14),285,kc4,[300],0),
  (130,(kl62,[ke4,ke0],kf15),1187,kc4,[301],0),
  (130,(kl63,[ke4,ke0],kf16),232,kc4,[302],0),
  (130,(kl64,[ke4,ke0],kf17),179,kc4,[303],0),
  (130,(kl65,[ke4,ke0],kf18),126,kc4,[304],0),
  (130,(kl66,[ke4,ke0],kf19),74,kc4,[305],0),
  (130,(kl68,[ke4,ke0],kf21),1133,kc4,[306],0),
  (130,(kl69,[ke4,ke0],kf22),1080,kc4,[307],0),
  (130,(kl70,[ke4,ke0],kf23),1027,kc4,[308],0),
  (130,(kl71,[ke4,ke0],kf24),974,kc4,[309],0),
  (130,(kl72,[ke4,ke0],kf25),922,kc4,[310],0),
  (130,(kl73,[ke4,ke0],kf26),869,kc4,[311],0),
  (130,(kl74,[ke4,ke0],kf27),816,kc4,[312],0),
  (132,(kl50,[ke46,ke4,ke0],kf3),1293,kc4,[313],0),
  (132,(kl51,[ke46,ke4,ke0],kf4),1240,kc4,[314],0),
  (132,(kl52,[ke46,ke4,ke0],kf5),762,kc4,[315],0),
  (132,(kl53,[ke46,ke4,ke0],kf6),709,kc4,[316],0),
  (132,(kl54,[ke46,ke4,ke0],kf7),656,kc4,[317],0),
  (132,(kl55,[ke46,ke4,ke0],kf8),603,kc4,[318],0),
  (132,(kl56,[ke46,ke4,ke0],kf9),550,kc4,[319],0),
  (132,(kl57,[ke46,ke4,ke0],kf10),498,kc4,[320],0),
  (132,(kl58,[ke46,ke4,ke0],kf11),444,kc4,[321],0),
  (132,(kl59,[ke46,ke4,ke0],kf12),392,kc4,[322],0),
  (132,(kl60,[ke46,ke4,ke0],kf13),338,kc4,[323],0),
  (132,(kl61,[ke46,ke4,ke0],kf14),284,kc4,[324],0),
  (132,(kl62,[ke46,ke4,ke0],kf15),1186,kc4,[325],0),
  (132,(kl63,[ke46,ke4,ke0],kf16),231,kc4,[326],0),
  (132,(kl64,[ke46,ke4,ke0],kf17),178,kc4,[327],0),
  (132,(kl65,[ke46,ke4,ke0],kf18),125,kc4,[328],0),
  (132,(kl66,[ke46,ke4,ke0],kf19),73,kc4,[329],0),
  (132,(kl68,[ke46,ke4,ke0],kf21),1132,kc4,[330],0),
  (132,(kl69,[ke46,ke4,ke0],kf22),1079,kc4,[331],0),
  (132,(kl70,[ke46,ke4,ke0],kf23),1026,kc4,[332],0),
  (132,(kl71,[ke46,ke4,ke0],kf24),973,kc4,[333],0),
  (132,(kl72,[ke46,ke4,ke0],kf25),921,kc4,[334],0),
  (132,(kl73,[ke46,ke4,ke0],kf26),868,kc4,[335],0),
  (132,(kl74,[ke46,ke4,ke0],kf27),815,kc4,[336],0),
  (133,(kl50,[ke36,ke46,ke4,ke0],kf3),1292,kc4,[337],0),
  (133,(kl51,[ke36,ke46,ke4,ke0],kf4),1239,kc4,[338],0),
  (133,(kl52,[ke36,ke46,ke4,ke0],kf5),761,kc4,[339],0),
  (133,(kl53,[ke36,ke46,ke4,ke0],kf6),708,kc4,[340],0),
  (133,(kl54,[ke36,ke46,ke4,ke0],kf7),655,kc4,[341],0),
  (133,(kl55,[ke36,ke46,ke4,ke0],kf8),602,kc4,[342],0),
  (133,(kl56,[ke36,ke46,ke4,ke0],kf9),549,kc4,[343],0),
  (133,(kl57,[ke36,ke46,ke4,ke0],kf10),497,kc4,[344],0),
  (133,(kl58,[ke36,ke46,ke4,ke0],kf11),443,kc4,[345],0),
  (133,(kl59,[ke36,ke46,ke4,ke0],kf12),391,kc4,[346],0),
  (133,(kl60,[ke36,ke46,ke4,ke0],kf13),337,kc4,[347],0),
  (133,(kl61,[ke36,ke46,ke4,ke0],kf14),283,kc4,[348],0),
  (133,(kl62,[ke36,ke46,ke4,ke0],kf15),1185,kc4,[349],0),
  (133,(kl63,[ke36,ke46,ke4,ke0],kf16),230,kc4,[350],0),
  (133,(kl64,[ke36,ke46,ke4,ke0],kf17),177,kc4,[351],0),
  (133,(kl65,[ke36,ke46,ke4,ke0],kf18),124,kc4,[352],0),
  (133,(kl66,[ke36,ke46,ke4,ke0],kf19),72,kc4,[353],0),
  (133,(kl68,[ke36,ke46,ke4,ke0],kf21),1131,kc4,[354],0),
  (133,(kl69,[ke36,ke46,ke4,ke0],kf22),1078,kc4,[355],0),
  (133,(kl70,[ke36,ke46,ke4,ke0],kf23),1025,kc4,[356],0),
  (133,(kl71,[ke36,ke46,ke4,ke0],kf24),972,kc4,[357],0),
  (133,(kl72,[ke36,ke46,ke4,ke0],kf25),920,kc4,[358],0),
  (133,(kl73,[ke36,ke46,ke4,ke0],kf26),867,kc4,[359],0),
  (133,(kl74,[ke36,ke46,ke4,ke0],kf27),814,kc4,[360],0),
  (136,(kl50,[ke47,ke46,ke4,ke0],kf3),1291,kc4,[361],0),
  (136,(kl51,[ke47,ke46,ke4,ke0],kf4),1238,kc4,[362],0),
  (136,(kl52,[ke47,ke46,ke4,ke0],kf5),760,kc4,[363],0),
  (136,(kl53,[ke47,ke46,ke4,ke0],kf6),707,kc4,[364],0),
  (136,(kl54,[ke47,ke46,ke4,ke0],kf7),654,kc4,[365],0),
  (136,(kl55,[ke47,ke46,ke4,ke0],kf8),601,kc4,[366],0),
  (136,(kl56,[ke47,ke46,ke4,ke0],kf9),548,kc4,[367],0),
  (136,(kl57,[ke47,ke46,ke4,ke0],kf10),496,kc4,[368],0),
  (136,(kl58,[ke47,ke46,ke4,ke0],kf11),442,kc4,[369],0),
  (136,(kl59,[ke47,ke46,ke4,ke0],kf12),390,kc4,[370],0),
  (136,(kl60,[ke47,ke46,ke4,ke0],kf13),336,kc4,[371],0),
  (136,(kl61,[ke47,ke46,ke4,ke0],kf14),282,kc4,[372],0),
  (136,(kl62,[ke47,ke46,ke4,ke0],kf15),1184,kc4,[373],0),
  (136,(kl63,[ke47,ke46,ke4,ke0],kf16),229,kc4,[374],0),
  (136,(kl64,[ke47,ke46,ke4,ke0],kf17),176,kc4,[375],0),
  (136,(kl65,[ke47,ke46,ke4,ke0],kf18),123,kc4,[376],0),
  (136,(kl66,[ke47,ke46,ke4,ke0],kf19),71,kc4,[377],0),
  (136,(kl68,[ke47,ke46,ke4,ke0],kf21),1130,kc4,[378],0),
  (136,(kl69,[ke47,ke46,ke4,ke0],kf22),1077,kc4,[379],0),
  (136,(kl70,[ke47,ke46,ke4,ke0],kf23),1024,kc4,[380],0),
  (136,(kl71,[ke47,ke46,ke4,ke0],kf24),971,kc4,[381],0),
  (136,(kl72,[ke47,ke46,ke4,ke0],kf25),919,kc4,[382],0),
  (136,(kl73,[ke47,ke46,ke4,ke0],kf26),866,kc4,[383],0),
  (136,(kl74,[ke47,ke46,ke4,ke0],kf27),813,kc4,[384],0),
  (138,(kl50,[ke22,ke47,ke46,ke4,ke0],kf3),1290,kc4,[385],192),
  (138,(kl51,[ke22,ke47,ke46,ke4,ke0],kf4),1237,kc4,[386],192),
  (138,(kl52,[ke22,ke47,ke46,ke4,ke0],kf5),759,kc4,[387],192),
  (138,(kl53,[ke22,ke47,ke46,ke4,ke0],kf6),706,kc4,[388],192),
  (138,(kl54,[ke22,ke47,ke46,ke4,ke0],kf7),653,kc4,[389],192),
  (138,(kl55,[ke22,ke47,ke46,ke4,ke0],kf8),600,kc4,[390],192),
  (138,(kl56,[ke22,ke47,ke46,ke4,ke0],kf9),547,kc4,[391],192),
  (138,(kl57,[ke22,ke47,ke46,ke4,ke0],kf10),495,kc4,[392],192),
  (138,(kl58,[ke22,ke47,ke46,ke4,ke0],kf11),441,kc4,[393],192),
  (138,(kl59,[ke22,ke47,ke46,ke4,ke0],kf12),389,kc4,[394],192),
  (138,(kl60,[ke22,ke47,ke46,ke4,ke0],kf13),335,kc4,[395],192),
  (138,(kl61,[ke22,ke47,ke46,ke4,ke0],kf14),281,kc4,[396],192),
  (138,(kl62,[ke22,ke47,ke46,ke4,ke0],kf15),1183,kc4,[397],192),
  (138,(kl63,[ke22,ke47,ke46,ke4,ke0],kf16),228,kc4,[398],192),
  (138,(kl64,[ke22,ke47,ke46,ke4,ke0],kf17),175,kc4,[399],192),
  (138,(kl65,[ke22,ke47,ke46,ke4,ke0],kf18),122,kc4,[400],192),
  (138,(kl66,[ke22,ke47,ke46,ke4,ke0],kf19),70,kc4,[401],192),
  (138,(kl68,[ke22,ke47,ke46,ke4,ke0],kf21),1129,kc4,[402],192),
  (138,(kl69,[ke22,ke47,ke46,ke4,ke0],kf22),1076,kc4,[403],192),
  (138,(kl70,[ke22,ke47,ke46,ke4,ke0],kf23),1023,kc4,[404],192),
  (138,(kl71,[ke22,ke47,ke46,ke4,ke0],kf24),970,kc4,[405],192),
  (138,(kl72,[ke22,ke47,ke46,ke4,ke0],kf25),918,kc4,[406],192),
  (138,(kl73,[ke22,ke47,ke46,ke4,ke0],kf26),865,kc4,[407],192),
  (138,(kl74,[ke22,ke47,ke46,ke4,ke0],kf27),812,kc4,[408],192),
  (141,(kl50,[ke105],kf3),1289,kc4,[409],0),
  (141,(kl51,[ke105],kf4),1236,kc4,[410],0),
  (141,(kl52,[ke105],kf5),758,kc4,[411],0),
  (141,(kl53,[ke105],kf6),705,kc4,[412],0),
  (141,(kl54,[ke105],kf7),652,kc4,[413],0),
  (141,(kl55,[ke105],kf8),599,kc4,[414],0),
  (141,(kl56,[ke105],kf9),546,kc4,[415],0),
  (141,(kl57,[ke105],kf10),494,kc4,[416],0),
  (141,(kl58,[ke105],kf11),440,kc4,[417],0),
  (141,(kl59,[ke105],kf12),388,kc4,[418],0),
  (141,(kl60,[ke105],kf13),334,kc4,[419],0),
  (141,(kl61,[ke105],kf14),280,kc4,[420],0),
  (141,(kl62,[ke105],kf15),1182,kc4,[421],0),
  (141,(kl63,[ke105],kf16),227,kc4,[422],0),
  (141,(kl64,[ke105],kf17),174,kc4,[423],0),
  (141,(kl65,[ke105],kf18),121,kc4,[424],0),
  (141,(kl66,[ke105],kf19),69,kc4,[425],0),
  (141,(kl68,[ke105],kf21),1128,kc4,[426],0),
  (141,(kl69,[ke105],kf22),1075,kc4,[427],0),
  (141,(kl70,[ke105],kf23),1022,kc4,[428],0),
  (141,(kl71,[ke105],kf24),969,kc4,[429],0),
  (141,(kl72,[ke105],kf25),917,kc4,[430],0),
  (141,(kl73,[ke105],kf26),864,kc4,[431],0),
  (141,(kl74,[ke105],kf27),811,kc4,[432],0),
  (143,(kl75,[],kf3),1288,kc4,[433],0),
  (143,(kl76,[],kf4),1235,kc4,[434],0),
  (143,(kl77,[],kf5),757,kc4,[435],0),
  (143,(kl78,[],kf6),704,kc4,[436],0),
  (143,(kl79,[],kf7),651,kc4,[437],0),
  (143,(kl80,[],kf8),598,kc4,[438],0),
  (143,(kl81,[],kf9),545,kc4,[439],0),
  (143,(kl82,[],kf10),493,kc4,[440],0),
  (143,(kl83,[],kf11),439,kc4,[441],0),
  (143,(kl84,[],kf12),387,kc4,[442],0),
  (143,(kl85,[],kf13),333,kc4,[443],0),
  (143,(kl86,[],kf14),279,kc4,[444],0),
  (143,(kl87,[],kf15),1181,kc4,[445],0),
  (143,(kl88,[],kf16),226,kc4,[446],0),
  (143,(kl89,[],kf17),173,kc4,[447],0),
  (143,(kl90,[],kf18),120,kc4,[448],0),
  (143,(kl91,[],kf19),68,kc4,[449],0),
  (143,(kl92,[],kf21),1127,kc4,[450],0),
  (143,(kl93,[],kf22),1074,kc4,[451],0),
  (143,(kl94,[],kf23),1021,kc4,[452],0),
  (143,(kl95,[],kf24),968,kc4,[453],0),
  (143,(kl96,[],kf25),916,kc4,[454],0),
  (143,(kl97,[],kf26),863,kc4,[455],0),
  (143,(kl98,[],kf27),810,kc4,[456],0),
  (145,(kl75,[ke106],kf3),1287,kc4,[457],0),
  (145,(kl76,[ke106],kf4),1234,kc4,[458],0),
  (145,(kl77,[ke106],kf5),756,kc4,[459],0),
  (145,(kl78,[ke106],kf6),703,kc4,[460],0),
  (145,(kl79,[ke106],kf7),650,kc4,[461],0),
  (145,(kl80,[ke106],kf8),597,kc4,[462],0),
  (145,(kl81,[ke106],kf9),544,kc4,[463],0),
  (145,(kl82,[ke106],kf10),492,kc4,[464],0),
  (145,(kl83,[ke106],kf11),438,kc4,[465],0),
  (145,(kl84,[ke106],kf12),386,kc4,[466],0),
  (145,(kl85,[ke106],kf13),332,kc4,[467],0),
  (145,(kl86,[ke106],kf14),278,kc4,[468],0),
  (145,(kl87,[ke106],kf15),1180,kc4,[469],0),
  (145,(kl88,[ke106],kf16),225,kc4,[470],0),
  (145,(kl89,[ke106],kf17),172,kc4,[471],0),
  (145,(kl90,[ke106],kf18),119,kc4,[472],0),
  (145,(kl91,[ke106],kf19),67,kc4,[473],0),
  (145,(kl92,[ke106],kf21),1126,kc4,[474],0),
  (145,(kl93,[ke106],kf22),1073,kc4,[475],0),
  (145,(kl94,[ke106],kf23),1020,kc4,[476],0),
  (145,(kl95,[ke106],kf24),967,kc4,[477],0),
  (145,(kl96,[ke106],kf25),915,kc4,[478],0),
  (145,(kl97,[ke106],kf26),862,kc4,[479],0),
  (145,(kl98,[ke106],kf27),809,kc4,[480],0),
  (146,(kl75,[ke13,ke106],kf3),1286,kc4,[505,481],0),
  (146,(kl76,[ke13,ke106],kf4),1233,kc4,[506,482],0),
  (146,(kl77,[ke13,ke106],kf5),755,kc4,[507,483],0),
  (146,(kl78,[ke13,ke106],kf6),702,kc4,[508,484],0),
  (146,(kl79,[ke13,ke106],kf7),649,kc4,[509,485],0),
  (146,(kl80,[ke13,ke106],kf8),596,kc4,[510,486],0),
  (146,(kl81,[ke13,ke106],kf9),543,kc4,[511,487],0),
  (146,(kl82,[ke13,ke106],kf10),491,kc4,[512,488],0),
  (146,(kl83,[ke13,ke106],kf11),437,kc4,[513,489],0),
  (146,(kl84,[ke13,ke106],kf12),385,kc4,[514,490],0),
  (146,(kl85,[ke13,ke106],kf13),331,kc4,[515,491],0),
  (146,(kl86,[ke13,ke106],kf14),277,kc4,[516,492],0),
  (146,(kl87,[ke13,ke106],kf15),1179,kc4,[517,493],0),
  (146,(kl88,[ke13,ke106],kf16),224,kc4,[518,494],0),
  (146,(kl89,[ke13,ke106],kf17),171,kc4,[519,495],0),
  (146,(kl90,[ke13,ke106],kf18),118,kc4,[520,496],0),
  (146,(kl91,[ke13,ke106],kf19),66,kc4,[521,497],0),
  (146,(kl92,[ke13,ke106],kf21),1125,kc4,[522,498],0),
  (146,(kl93,[ke13,ke106],kf22),1072,kc4,[523,499],0),
  (146,(kl94,[ke13,ke106],kf23),1019,kc4,[524,500],0),
  (146,(kl95,[ke13,ke106],kf24),966,kc4,[525,501],0),
  (146,(kl96,[ke13,ke106],kf25),914,kc4,[526,502],0),
  (146,(kl97,[ke13,ke106],kf26),861,kc4,[527,503],0),
  (146,(kl98,[ke13,ke106],kf27),808,kc4,[528,504],0),
  (149,(kl99,[],kf3),1,kc4,[],0),
  (149,(kl100,[],kf4),1232,kc4,[],0),
  (149,(kl101,[],kf5),10,kc4,[],0),
  (149,(kl102,[],kf6),11,kc4,[],0),
  (149,(kl103,[],kf7),12,kc4,[],0),
  (149,(kl104,[],kf8),13,kc4,[],0),
  (149,(kl105,[],kf9),14,kc4,[],0),
  (149,(kl106,[],kf10),490,kc4,[],0),
  (149,(kl107,[],kf11),16,kc4,[],0),
  (149,(kl108,[],kf12),384,kc4,[],0),
  (149,(kl109,[],kf13),330,kc4,[],0),
  (149,(kl110,[],kf14),18,kc4,[],0),
  (149,(kl111,[],kf15),1178,kc4,[],0),
  (149,(kl112,[],kf16),19,kc4,[],0),
  (149,(kl113,[],kf17),170,kc4,[],0),
  (149,(kl114,[],kf18),21,kc4,[],0),
  (149,(kl115,[],kf19),65,kc4,[],0),
  (149,(kl116,[],kf21),2,kc4,[],0),
  (149,(kl117,[],kf22),3,kc4,[],0),
  (149,(kl118,[],kf23),4,kc4,[],0),
  (149,(kl119,[],kf24),5,kc4,[],0),
  (149,(kl120,[],kf25),7,kc4,[],0),
  (149,(kl121,[],kf26),8,kc4,[],0),
  (149,(kl122,[],kf27),9,kc4,[],0),
  (150,(kl123,[],kf3),1285,kc4,[529],0),
  (150,(kl51,[],kf4),1231,kc4,[530],0),
  (150,(kl52,[],kf5),754,kc4,[531],0),
  (150,(kl53,[],kf6),701,kc4,[532],0),
  (150,(kl54,[],kf7),648,kc4,[533],0),
  (150,(kl55,[],kf8),595,kc4,[534],0),
  (150,(kl56,[],kf9),542,kc4,[535],0),
  (150,(kl57,[],kf10),489,kc4,[536],0),
  (150,(kl58,[],kf11),436,kc4,[537],0),
  (150,(kl59,[],kf12),383,kc4,[538],0),
  (150,(kl60,[],kf13),329,kc4,[539],0),
  (150,(kl61,[],kf14),276,kc4,[540],0),
  (150,(kl62,[],kf15),1177,kc4,[541],0),
  (150,(kl63,[],kf16),223,kc4,[542],0),
  (150,(kl64,[],kf17),169,kc4,[543],0),
  (150,(kl65,[],kf18),117,kc4,[544],0),
  (150,(kl66,[],kf19),64,kc4,[545],0),
  (150,(kl68,[],kf21),1124,kc4,[546],0),
  (150,(kl69,[],kf22),1071,kc4,[547],0),
  (150,(kl70,[],kf23),1018,kc4,[548],0),
  (150,(kl71,[],kf24),965,kc4,[549],0),
  (150,(kl72,[],kf25),913,kc4,[550],0),
  (150,(kl73,[],kf26),860,kc4,[551],0),
  (150,(kl74,[],kf27),807,kc4,[552],0),
  (151,(kl123,[ke0],kf3),1284,kc4,[553],0),
  (151,(kl51,[ke0],kf4),1230,kc4,[554],0),
  (151,(kl52,[ke0],kf5),753,kc4,[555],0),
  (151,(kl53,[ke0],kf6),700,kc4,[556],0),
  (151,(kl54,[ke0],kf7),647,kc4,[557],0),
  (151,(kl55,[ke0],kf8),594,kc4,[558],0),
  (151,(kl56,[ke0],kf9),541,kc4,[559],0),
  (151,(kl57,[ke0],kf10),488,kc4,[560],0),
  (151,(kl58,[ke0],kf11),435,kc4,[561],0),
  (151,(kl59,[ke0],kf12),382,kc4,[562],0),
  (151,(kl60,[ke0],kf13),328,kc4,[563],0),
  (151,(kl61,[ke0],kf14),275,kc4,[564],0),
  (151,(kl62,[ke0],kf15),1176,kc4,[565],0),
  (151,(kl63,[ke0],kf16),222,kc4,[566],0),
  (151,(kl64,[ke0],kf17),168,kc4,[567],0),
  (151,(kl65,[ke0],kf18),116,kc4,[568],0),
  (151,(kl66,[ke0],kf19),63,kc4,[569],0),
  (151,(kl68,[ke0],kf21),1123,kc4,[570],0),
  (151,(kl69,[ke0],kf22),1070,kc4,[571],0),
  (151,(kl70,[ke0],kf23),1017,kc4,[572],0),
  (151,(kl71,[ke0],kf24),964,kc4,[573],0),
  (151,(kl72,[ke0],kf25),912,kc4,[574],0),
  (151,(kl73,[ke0],kf26),859,kc4,[575],0),
  (151,(kl74,[ke0],kf27),806,kc4,[576],0),
  (154,(kl123,[ke107],kf3),1283,kc4,[577],0),
  (154,(kl51,[ke107],kf4),1229,kc4,[578],0),
  (154,(kl52,[ke107],kf5),752,kc4,[579],0),
  (154,(kl53,[ke107],kf6),699,kc4,[580],0),
  (154,(kl54,[ke107],kf7),646,kc4,[581],0),
  (154,(kl55,[ke107],kf8),593,kc4,[582],0),
  (154,(kl56,[ke107],kf9),540,kc4,[583],0),
  (154,(kl57,[ke107],kf10),487,kc4,[584],0),
  (154,(kl58,[ke107],kf11),434,kc4,[585],0),
  (154,(kl59,[ke107],kf12),381,kc4,[586],0),
  (154,(kl60,[ke107],kf13),327,kc4,[587],0),
  (154,(kl61,[ke107],kf14),274,kc4,[588],0),
  (154,(kl62,[ke107],kf15),1175,kc4,[589],0),
  (154,(kl63,[ke107],kf16),221,kc4,[590],0),
  (154,(kl64,[ke107],kf17),167,kc4,[591],0),
  (154,(kl65,[ke107],kf18),115,kc4,[592],0),
  (154,(kl66,[ke107],kf19),62,kc4,[593],0),
  (154,(kl68,[ke107],kf21),1122,kc4,[594],0),
  (154,(kl69,[ke107],kf22),1069,kc4,[595],0),
  (154,(kl70,[ke107],kf23),1016,kc4,[596],0),
  (154,(kl71,[ke107],kf24),963,kc4,[597],0),
  (154,(kl72,[ke107],kf25),911,kc4,[598],0),
  (154,(kl73,[ke107],kf26),858,kc4,[599],0),
  (154,(kl74,[ke107],kf27),805,kc4,[600],0),
  (155,(kl123,[ke0,ke107],kf3),1282,kc4,[601],0),
  (155,(kl51,[ke0,ke107],kf4),1228,kc4,[602],0),
  (155,(kl52,[ke0,ke107],kf5),751,kc4,[603],0),
  (155,(kl53,[ke0,ke107],kf6),698,kc4,[604],0),
  (155,(kl54,[ke0,ke107],kf7),645,kc4,[605],0),
  (155,(kl55,[ke0,ke107],kf8),592,kc4,[606],0),
  (155,(kl56,[ke0,ke107],kf9),539,kc4,[607],0),
  (155,(kl57,[ke0,ke107],kf10),486,kc4,[608],0),
  (155,(kl58,[ke0,ke107],kf11),433,kc4,[609],0),
  (155,(kl59,[ke0,ke107],kf12),380,kc4,[610],0),
  (155,(kl60,[ke0,ke107],kf13),326,kc4,[611],0),
  (155,(kl61,[ke0,ke107],kf14),273,kc4,[612],0),
  (155,(kl62,[ke0,ke107],kf15),1174,kc4,[613],0),
  (155,(kl63,[ke0,ke107],kf16),220,kc4,[614],0),
  (155,(kl64,[ke0,ke107],kf17),166,kc4,[615],0),
  (155,(kl65,[ke0,ke107],kf18),114,kc4,[616],0),
  (155,(kl66,[ke0,ke107],kf19),61,kc4,[617],0),
  (155,(kl68,[ke0,ke107],kf21),1121,kc4,[618],0),
  (155,(kl69,[ke0,ke107],kf22),1068,kc4,[619],0),
  (155,(kl70,[ke0,ke107],kf23),1015,kc4,[620],0),
  (155,(kl71,[ke0,ke107],kf24),962,kc4,[621],0),
  (155,(kl72,[ke0,ke107],kf25),910,kc4,[622],0),
  (155,(kl73,[ke0,ke107],kf26),857,kc4,[623],0),
  (155,(kl74,[ke0,ke107],kf27),804,kc4,[624],0),
  (158,(kl123,[ke108,ke107],kf3),1281,kc4,[625],0),
  (158,(kl51,[ke109,ke107],kf4),1227,kc4,[626],0),
  (158,(kl52,[ke110,ke107],kf5),750,kc4,[627],0),
  (158,(kl53,[ke111,ke107],kf6),697,kc4,[628],0),
  (158,(kl54,[ke112,ke107],kf7),644,kc4,[629],0),
  (158,(kl55,[ke113,ke107],kf8),591,kc4,[630],0),
  (158,(kl56,[ke114,ke107],kf9),538,kc4,[631],0),
  (158,(kl57,[ke115,ke107],kf10),485,kc4,[632],0),
  (158,(kl58,[ke116,ke107],kf11),432,kc4,[633],0),
  (158,(kl59,[ke117,ke107],kf12),379,kc4,[634],0),
  (158,(kl60,[ke118,ke107],kf13),325,kc4,[635],0),
  (158,(kl61,[ke119,ke107],kf14),272,kc4,[636],0),
  (158,(kl62,[ke120,ke107],kf15),1173,kc4,[637],0),
  (158,(kl63,[ke121,ke107],kf16),219,kc4,[638],0),
  (158,(kl64,[ke122,ke107],kf17),165,kc4,[639],0),
  (158,(kl65,[ke123,ke107],kf18),113,kc4,[640],0),
  (158,(kl66,[ke124,ke107],kf19),60,kc4,[641],0),
  (158,(kl68,[ke125,ke107],kf21),1120,kc4,[642],0),
  (158,(kl69,[ke126,ke107],kf22),1067,kc4,[643],0),
  (158,(kl70,[ke127,ke107],kf23),1014,kc4,[644],0),
  (158,(kl71,[ke128,ke107],kf24),961,kc4,[645],0),
  (158,(kl72,[ke129,ke107],kf25),909,kc4,[646],0),
  (158,(kl73,[ke130,ke107],kf26),856,kc4,[647],0),
  (158,(kl74,[ke131,ke107],kf27),803,kc4,[648],0),
  (160,(kl123,[ke132,ke108,ke107],kf3),1280,kc4,[649],0),
  (160,(kl51,[ke132,ke109,ke107],kf4),1226,kc4,[650],0),
  (160,(kl52,[ke132,ke110,ke107],kf5),749,kc4,[651],0),
  (160,(kl53,[ke132,ke111,ke107],kf6),696,kc4,[652],0),
  (160,(kl54,[ke132,ke112,ke107],kf7),643,kc4,[653],0),
  (160,(kl55,[ke132,ke113,ke107],kf8),590,kc4,[654],0),
  (160,(kl56,[ke132,ke114,ke107],kf9),537,kc4,[655],0),
  (160,(kl57,[ke132,ke115,ke107],kf10),484,kc4,[656],0),
  (160,(kl58,[ke132,ke116,ke107],kf11),431,kc4,[657],0),
  (160,(kl59,[ke132,ke117,ke107],kf12),378,kc4,[658],0),
  (160,(kl60,[ke132,ke118,ke107],kf13),324,kc4,[659],0),
  (160,(kl61,[ke132,ke119,ke107],kf14),271,kc4,[660],0),
  (160,(kl62,[ke132,ke120,ke107],kf15),1172,kc4,[661],0),
  (160,(kl63,[ke132,ke121,ke107],kf16),218,kc4,[662],0),
  (160,(kl64,[ke132,ke122,ke107],kf17),164,kc4,[663],0),
  (160,(kl65,[ke132,ke123,ke107],kf18),112,kc4,[664],0),
  (160,(kl66,[ke132,ke124,ke107],kf19),59,kc4,[665],0),
  (160,(kl68,[ke132,ke125,ke107],kf21),1119,kc4,[666],0),
  (160,(kl69,[ke132,ke126,ke107],kf22),1066,kc4,[667],0),
  (160,(kl70,[ke132,ke127,ke107],kf23),1013,kc4,[668],0),
  (160,(kl71,[ke132,ke128,ke107],kf24),960,kc4,[669],0),
  (160,(kl72,[ke132,ke129,ke107],kf25),908,kc4,[670],0),
  (160,(kl73,[ke132,ke130,ke107],kf26),855,kc4,[671],0),
  (160,(kl74,[ke132,ke131,ke107],kf27),802,kc4,[672],0),
  (161,(kl123,[],kf3),1279,kc4,[673],0),
  (161,(kl51,[],kf4),1225,kc4,[674],0),
  (161,(kl52,[],kf5),748,kc4,[675],0),
  (161,(kl53,[],kf6),695,kc4,[676],0),
  (161,(kl54,[],kf7),642,kc4,[677],0),
  (161,(kl55,[],kf8),589,kc4,[678],0),
  (161,(kl56,[],kf9),536,kc4,[679],0),
  (161,(kl57,[],kf10),483,kc4,[680],0),
  (161,(kl58,[],kf11),430,kc4,[681],0),
  (161,(kl59,[],kf12),377,kc4,[682],0),
  (161,(kl60,[],kf13),323,kc4,[683],0),
  (161,(kl61,[],kf14),270,kc4,[684],0),
  (161,(kl62,[],kf15),1171,kc4,[685],0),
  (161,(kl63,[],kf16),217,kc4,[686],0),
  (161,(kl64,[],kf17),163,kc4,[687],0),
  (161,(kl65,[],kf18),111,kc4,[688],0),
  (161,(kl66,[],kf19),58,kc4,[689],0),
  (161,(kl68,[],kf21),1118,kc4,[690],0),
  (161,(kl69,[],kf22),1065,kc4,[691],0),
  (161,(kl70,[],kf23),1012,kc4,[692],0),
  (161,(kl71,[],kf24),959,kc4,[693],0),
  (161,(kl72,[],kf25),907,kc4,[694],0),
  (161,(kl73,[],kf26),854,kc4,[695],0),
  (161,(kl74,[],kf27),801,kc4,[696],0),
  (162,(kl123,[ke0],kf3),1278,kc4,[697],0),
  (162,(kl51,[ke0],kf4),1224,kc4,[698],0),
  (162,(kl52,[ke0],kf5),747,kc4,[699],0),
  (162,(kl53,[ke0],kf6),694,kc4,[700],0),
  (162,(kl54,[ke0],kf7),641,kc4,[701],0),
  (162,(kl55,[ke0],kf8),588,kc4,[702],0),
  (162,(kl56,[ke0],kf9),535,kc4,[703],0),
  (162,(kl57,[ke0],kf10),482,kc4,[704],0),
  (162,(kl58,[ke0],kf11),429,kc4,[705],0),
  (162,(kl59,[ke0],kf12),376,kc4,[706],0),
  (162,(kl60,[ke0],kf13),322,kc4,[707],0),
  (162,(kl61,[ke0],kf14),269,kc4,[708],0),
  (162,(kl62,[ke0],kf15),1170,kc4,[709],0),
  (162,(kl63,[ke0],kf16),216,kc4,[710],0),
  (162,(kl64,[ke0],kf17),162,kc4,[711],0),
  (162,(kl65,[ke0],kf18),110,kc4,[712],0),
  (162,(kl66,[ke0],kf19),57,kc4,[713],0),
  (162,(kl68,[ke0],kf21),1117,kc4,[714],0),
  (162,(kl69,[ke0],kf22),1064,kc4,[715],0),
  (162,(kl70,[ke0],kf23),1011,kc4,[716],0),
  (162,(kl71,[ke0],kf24),958,kc4,[717],0),
  (162,(kl72,[ke0],kf25),906,kc4,[718],0),
  (162,(kl73,[ke0],kf26),853,kc4,[719],0),
  (162,(kl74,[ke0],kf27),800,kc4,[720],0),
  (163,(kl123,[ke0,ke0],kf3),1277,kc4,[721],0),
  (163,(kl51,[ke0,ke0],kf4),1223,kc4,[722],0),
  (163,(kl52,[ke0,ke0],kf5),746,kc4,[723],0),
  (163,(kl53,[ke0,ke0],kf6),693,kc4,[724],0),
  (163,(kl54,[ke0,ke0],kf7),640,kc4,[725],0),
  (163,(kl55,[ke0,ke0],kf8),587,kc4,[726],0),
  (163,(kl56,[ke0,ke0],kf9),534,kc4,[727],0),
  (163,(kl57,[ke0,ke0],kf10),481,kc4,[728],0),
  (163,(kl58,[ke0,ke0],kf11),428,kc4,[729],0),
  (163,(kl59,[ke0,ke0],kf12),375,kc4,[730],0),
  (163,(kl60,[ke0,ke0],kf13),321,kc4,[731],0),
  (163,(kl61,[ke0,ke0],kf14),268,kc4,[732],0),
  (163,(kl62,[ke0,ke0],kf15),1169,kc4,[733],0),
  (163,(kl63,[ke0,ke0],kf16),215,kc4,[734],0),
  (163,(kl64,[ke0,ke0],kf17),161,kc4,[735],0),
  (163,(kl65,[ke0,ke0],kf18),109,kc4,[736],0),
  (163,(kl66,[ke0,ke0],kf19),56,kc4,[737],0),
  (163,(kl68,[ke0,ke0],kf21),1116,kc4,[738],0),
  (163,(kl69,[ke0,ke0],kf22),1063,kc4,[739],0),
  (163,(kl70,[ke0,ke0],kf23),1010,kc4,[740],0),
  (163,(kl71,[ke0,ke0],kf24),957,kc4,[741],0),
  (163,(kl72,[ke0,ke0],kf25),905,kc4,[742],0),
  (163,(kl73,[ke0,ke0],kf26),852,kc4,[743],0),
  (163,(kl74,[ke0,ke0],kf27),799,kc4,[744],0),
  (166,(kl123,[ke108,ke0],kf3),1276,kc4,[745],0),
  (166,(kl51,[ke109,ke0],kf4),1222,kc4,[746],0),
  (166,(kl52,[ke110,ke0],kf5),745,kc4,[747],0),
  (166,(kl53,[ke111,ke0],kf6),692,kc4,[748],0),
  (166,(kl54,[ke112,ke0],kf7),639,kc4,[749],0),
  (166,(kl55,[ke113,ke0],kf8),586,kc4,[750],0),
  (166,(kl56,[ke114,ke0],kf9),533,kc4,[751],0),
  (166,(kl57,[ke115,ke0],kf10),480,kc4,[752],0),
  (166,(kl58,[ke116,ke0],kf11),427,kc4,[753],0),
  (166,(kl59,[ke117,ke0],kf12),374,kc4,[754],0),
  (166,(kl60,[ke118,ke0],kf13),320,kc4,[755],0),
  (166,(kl61,[ke119,ke0],kf14),267,kc4,[756],0),
  (166,(kl62,[ke120,ke0],kf15),1168,kc4,[757],0),
  (166,(kl63,[ke121,ke0],kf16),214,kc4,[758],0),
  (166,(kl64,[ke122,ke0],kf17),160,kc4,[759],0),
  (166,(kl65,[ke123,ke0],kf18),108,kc4,[760],0),
  (166,(kl66,[ke124,ke0],kf19),55,kc4,[761],0),
  (166,(kl68,[ke125,ke0],kf21),1115,kc4,[762],0),
  (166,(kl69,[ke126,ke0],kf22),1062,kc4,[763],0),
  (166,(kl70,[ke127,ke0],kf23),1009,kc4,[764],0),
  (166,(kl71,[ke128,ke0],kf24),956,kc4,[765],0),
  (166,(kl72,[ke129,ke0],kf25),904,kc4,[766],0),
  (166,(kl73,[ke130,ke0],kf26),851,kc4,[767],0),
  (166,(kl74,[ke131,ke0],kf27),798,kc4,[768],0),
  (167,(kl123,[ke25,ke108,ke0],kf3),1275,kc4,[769],0),
  (167,(kl51,[ke25,ke109,ke0],kf4),1221,kc4,[770],0),
  (167,(kl52,[ke25,ke110,ke0],kf5),744,kc4,[771],0),
  (167,(kl53,[ke25,ke111,ke0],kf6),691,kc4,[772],0),
  (167,(kl54,[ke25,ke112,ke0],kf7),638,kc4,[773],0),
  (167,(kl55,[ke25,ke113,ke0],kf8),585,kc4,[774],0),
  (167,(kl56,[ke25,ke114,ke0],kf9),532,kc4,[775],0),
  (167,(kl57,[ke25,ke115,ke0],kf10),479,kc4,[776],0),
  (167,(kl58,[ke25,ke116,ke0],kf11),426,kc4,[777],0),
  (167,(kl59,[ke25,ke117,ke0],kf12),373,kc4,[778],0),
  (167,(kl60,[ke25,ke118,ke0],kf13),319,kc4,[779],0),
  (167,(kl61,[ke25,ke119,ke0],kf14),266,kc4,[780],0),
  (167,(kl62,[ke25,ke120,ke0],kf15),1167,kc4,[781],0),
  (167,(kl63,[ke25,ke121,ke0],kf16),213,kc4,[782],0),
  (167,(kl64,[ke25,ke122,ke0],kf17),159,kc4,[783],0),
  (167,(kl65,[ke25,ke123,ke0],kf18),107,kc4,[784],0),
  (167,(kl66,[ke25,ke124,ke0],kf19),54,kc4,[785],0),
  (167,(kl68,[ke25,ke125,ke0],kf21),1114,kc4,[786],0),
  (167,(kl69,[ke25,ke126,ke0],kf22),1061,kc4,[787],0),
  (167,(kl70,[ke25,ke127,ke0],kf23),1008,kc4,[788],0),
  (167,(kl71,[ke25,ke128,ke0],kf24),955,kc4,[789],0),
  (167,(kl72,[ke25,ke129,ke0],kf25),903,kc4,[790],0),
  (167,(kl73,[ke25,ke130,ke0],kf26),850,kc4,[791],0),
  (167,(kl74,[ke25,ke131,ke0],kf27),797,kc4,[792],0),
  (168,(kl123,[ke25,ke0],kf3),1274,kc4,[793],0),
  (168,(kl51,[ke8,ke0],kf4),1220,kc4,[794],0),
  (168,(kl52,[ke133,ke0],kf5),743,kc4,[795],0),
  (168,(kl53,[ke134,ke0],kf6),690,kc4,[796],0),
  (168,(kl54,[ke135,ke0],kf7),637,kc4,[797],0),
  (168,(kl55,[ke136,ke0],kf8),584,kc4,[798],0),
  (168,(kl56,[ke137,ke0],kf9),531,kc4,[799],0),
  (168,(kl57,[ke138,ke0],kf10),478,kc4,[800],0),
  (168,(kl58,[ke139,ke0],kf11),425,kc4,[801],0),
  (168,(kl59,[ke140,ke0],kf12),372,kc4,[802],0),
  (168,(kl60,[ke141,ke0],kf13),318,kc4,[803],0),
  (168,(kl61,[ke27,ke0],kf14),265,kc4,[804],0),
  (168,(kl62,[ke142,ke0],kf15),1166,kc4,[805],0),
  (168,(kl63,[ke143,ke0],kf16),212,kc4,[806],0),
  (168,(kl64,[ke144,ke0],kf17),158,kc4,[807],0),
  (168,(kl65,[ke145,ke0],kf18),106,kc4,[808],0),
  (168,(kl66,[ke42,ke0],kf19),53,kc4,[809],0),
  (168,(kl68,[ke146,ke0],kf21),1113,kc4,[810],0),
  (168,(kl69,[ke147,ke0],kf22),1060,kc4,[811],0),
  (168,(kl70,[ke148,ke0],kf23),1007,kc4,[812],0),
  (168,(kl71,[ke149,ke0],kf24),954,kc4,[813],0),
  (168,(kl72,[ke150,ke0],kf25),902,kc4,[814],0),
  (168,(kl73,[ke151,ke0],kf26),849,kc4,[815],0),
  (168,(kl74,[ke152,ke0],kf27),796,kc4,[816],0),
  (171,(kl123,[],kf28),1273,kc4,[817],0),
  (171,(kl51,[],kf15),1219,kc4,[818],0),
  (171,(kl52,[],kf6),742,kc4,[819],0),
  (171,(kl53,[],kf7),689,kc4,[820],0),
  (171,(kl54,[],kf8),636,kc4,[821],0),
  (171,(kl55,[],kf9),583,kc4,[822],0),
  (171,(kl56,[],kf10),530,kc4,[823],0),
  (171,(kl57,[],kf11),477,kc4,[824],0),
  (171,(kl58,[],kf12),424,kc4,[825],0),
  (171,(kl59,[],kf13),371,kc4,[826],0),
  (171,(kl60,[],kf14),317,kc4,[827],0),
  (171,(kl61,[],kf16),264,kc4,[828],0),
  (171,(kl62,[],kf21),1165,kc4,[829],0),
  (171,(kl63,[],kf17),211,kc4,[830],0),
  (171,(kl64,[],kf18),157,kc4,[831],0),
  (171,(kl65,[],kf19),105,kc4,[832],0),
  (171,(kl66,[],kf20),52,kc4,[833],0),
  (171,(kl68,[],kf22),1112,kc4,[834],0),
  (171,(kl69,[],kf23),1059,kc4,[835],0),
  (171,(kl70,[],kf24),1006,kc4,[836],0),
  (171,(kl71,[],kf25),953,kc4,[837],0),
  (171,(kl72,[],kf26),901,kc4,[838],0),
  (171,(kl73,[],kf27),848,kc4,[839],0),
  (171,(kl74,[],kf5),795,kc4,[840],0),
  (172,(kl123,[ke0],kf28),1272,kc4,[841],0),
  (172,(kl51,[ke0],kf15),1218,kc4,[842],0),
  (172,(kl52,[ke0],kf6),741,kc4,[843],0),
  (172,(kl53,[ke0],kf7),688,kc4,[844],0),
  (172,(kl54,[ke0],kf8),635,kc4,[845],0),
  (172,(kl55,[ke0],kf9),582,kc4,[846],0),
  (172,(kl56,[ke0],kf10),529,kc4,[847],0),
  (172,(kl57,[ke0],kf11),476,kc4,[848],0),
  (172,(kl58,[ke0],kf12),423,kc4,[849],0),
  (172,(kl59,[ke0],kf13),370,kc4,[850],0),
  (172,(kl60,[ke0],kf14),316,kc4,[851],0),
  (172,(kl61,[ke0],kf16),263,kc4,[852],0),
  (172,(kl62,[ke0],kf21),1164,kc4,[853],0),
  (172,(kl63,[ke0],kf17),210,kc4,[854],0),
  (172,(kl64,[ke0],kf18),156,kc4,[855],0),
  (172,(kl65,[ke0],kf19),104,kc4,[856],0),
  (172,(kl66,[ke0],kf20),51,kc4,[857],0),
  (172,(kl68,[ke0],kf22),1111,kc4,[858],0),
  (172,(kl69,[ke0],kf23),1058,kc4,[859],0),
  (172,(kl70,[ke0],kf24),1005,kc4,[860],0),
  (172,(kl71,[ke0],kf25),952,kc4,[861],0),
  (172,(kl72,[ke0],kf26),900,kc4,[862],0),
  (172,(kl73,[ke0],kf27),847,kc4,[863],0),
  (172,(kl74,[ke0],kf5),794,kc4,[864],0),
  (173,(kl123,[ke0,ke0],kf28),1271,kc4,[865],0),
  (173,(kl51,[ke0,ke0],kf15),1217,kc4,[866],0),
  (173,(kl52,[ke0,ke0],kf6),740,kc4,[867],0),
  (173,(kl53,[ke0,ke0],kf7),687,kc4,[868],0),
  (173,(kl54,[ke0,ke0],kf8),634,kc4,[869],0),
  (173,(kl55,[ke0,ke0],kf9),581,kc4,[870],0),
  (173,(kl56,[ke0,ke0],kf10),528,kc4,[871],0),
  (173,(kl57,[ke0,ke0],kf11),475,kc4,[872],0),
  (173,(kl58,[ke0,ke0],kf12),422,kc4,[873],0),
  (173,(kl59,[ke0,ke0],kf13),369,kc4,[874],0),
  (173,(kl60,[ke0,ke0],kf14),315,kc4,[875],0),
  (173,(kl61,[ke0,ke0],kf16),262,kc4,[876],0),
  (173,(kl62,[ke0,ke0],kf21),1163,kc4,[877],0),
  (173,(kl63,[ke0,ke0],kf17),209,kc4,[878],0),
  (173,(kl64,[ke0,ke0],kf18),155,kc4,[879],0),
  (173,(kl65,[ke0,ke0],kf19),103,kc4,[880],0),
  (173,(kl66,[ke0,ke0],kf20),50,kc4,[881],0),
  (173,(kl68,[ke0,ke0],kf22),1110,kc4,[882],0),
  (173,(kl69,[ke0,ke0],kf23),1057,kc4,[883],0),
  (173,(kl70,[ke0,ke0],kf24),1004,kc4,[884],0),
  (173,(kl71,[ke0,ke0],kf25),951,kc4,[885],0),
  (173,(kl72,[ke0,ke0],kf26),899,kc4,[886],0),
  (173,(kl73,[ke0,ke0],kf27),846,kc4,[887],0),
  (173,(kl74,[ke0,ke0],kf5),793,kc4,[888],0),
  (174,(kl123,[ke4,ke0,ke0],kf28),1270,kc4,[889],0),
  (174,(kl51,[ke4,ke0,ke0],kf15),1216,kc4,[890],0),
  (174,(kl52,[ke4,ke0,ke0],kf6),739,kc4,[891],0),
  (174,(kl53,[ke4,ke0,ke0],kf7),686,kc4,[892],0),
  (174,(kl54,[ke4,ke0,ke0],kf8),633,kc4,[893],0),
  (174,(kl55,[ke4,ke0,ke0],kf9),580,kc4,[894],0),
  (174,(kl56,[ke4,ke0,ke0],kf10),527,kc4,[895],0),
  (174,(kl57,[ke4,ke0,ke0],kf11),474,kc4,[896],0),
  (174,(kl58,[ke4,ke0,ke0],kf12),421,kc4,[897],0),
  (174,(kl59,[ke4,ke0,ke0],kf13),368,kc4,[898],0),
  (174,(kl60,[ke4,ke0,ke0],kf14),314,kc4,[899],0),
  (174,(kl61,[ke4,ke0,ke0],kf16),261,kc4,[900],0),
  (174,(kl62,[ke4,ke0,ke0],kf21),1162,kc4,[901],0),
  (174,(kl63,[ke4,ke0,ke0],kf17),208,kc4,[902],0),
  (174,(kl64,[ke4,ke0,ke0],kf18),154,kc4,[903],0),
  (174,(kl65,[ke4,ke0,ke0],kf19),102,kc4,[904],0),
  (174,(kl66,[ke4,ke0,ke0],kf20),49,kc4,[905],0),
  (174,(kl68,[ke4,ke0,ke0],kf22),1109,kc4,[906],0),
  (174,(kl69,[ke4,ke0,ke0],kf23),1056,kc4,[907],0),
  (174,(kl70,[ke4,ke0,ke0],kf24),1003,kc4,[908],0),
  (174,(kl71,[ke4,ke0,ke0],kf25),950,kc4,[909],0),
  (174,(kl72,[ke4,ke0,ke0],kf26),898,kc4,[910],0),
  (174,(kl73,[ke4,ke0,ke0],kf27),845,kc4,[911],0),
  (174,(kl74,[ke4,ke0,ke0],kf5),792,kc4,[912],0),
  (176,(kl123,[ke46,ke4,ke0,ke0],kf28),1269,kc4,[913],0),
  (176,(kl51,[ke46,ke4,ke0,ke0],kf15),1215,kc4,[914],0),
  (176,(kl52,[ke46,ke4,ke0,ke0],kf6),738,kc4,[915],0),
  (176,(kl53,[ke46,ke4,ke0,ke0],kf7),685,kc4,[916],0),
  (176,(kl54,[ke46,ke4,ke0,ke0],kf8),632,kc4,[917],0),
  (176,(kl55,[ke46,ke4,ke0,ke0],kf9),579,kc4,[918],0),
  (176,(kl56,[ke46,ke4,ke0,ke0],kf10),526,kc4,[919],0),
  (176,(kl57,[ke46,ke4,ke0,ke0],kf11),473,kc4,[920],0),
  (176,(kl58,[ke46,ke4,ke0,ke0],kf12),420,kc4,[921],0),
  (176,(kl59,[ke46,ke4,ke0,ke0],kf13),367,kc4,[922],0),
  (176,(kl60,[ke46,ke4,ke0,ke0],kf14),313,kc4,[923],0),
  (176,(kl61,[ke46,ke4,ke0,ke0],kf16),260,kc4,[924],0),
  (176,(kl62,[ke46,ke4,ke0,ke0],kf21),1161,kc4,[925],0),
  (176,(kl63,[ke46,ke4,ke0,ke0],kf17),207,kc4,[926],0),
  (176,(kl64,[ke46,ke4,ke0,ke0],kf18),153,kc4,[927],0),
  (176,(kl65,[ke46,ke4,ke0,ke0],kf19),101,kc4,[928],0),
  (176,(kl66,[ke46,ke4,ke0,ke0],kf20),48,kc4,[929],0),
  (176,(kl68,[ke46,ke4,ke0,ke0],kf22),1108,kc4,[930],0),
  (176,(kl69,[ke46,ke4,ke0,ke0],kf23),1055,kc4,[931],0),
  (176,(kl70,[ke46,ke4,ke0,ke0],kf24),1002,kc4,[932],0),
  (176,(kl71,[ke46,ke4,ke0,ke0],kf25),949,kc4,[933],0),
  (176,(kl72,[ke46,ke4,ke0,ke0],kf26),897,kc4,[934],0),
  (176,(kl73,[ke46,ke4,ke0,ke0],kf27),844,kc4,[935],0),
  (176,(kl74,[ke46,ke4,ke0,ke0],kf5),791,kc4,[936],0),
  (179,(kl123,[ke20,ke4,ke0,ke0],kf28),1268,kc4,[937],0),
  (179,(kl51,[ke20,ke4,ke0,ke0],kf15),1214,kc4,[938],0),
  (179,(kl52,[ke20,ke4,ke0,ke0],kf6),737,kc4,[939],0),
  (179,(kl53,[ke20,ke4,ke0,ke0],kf7),684,kc4,[940],0),
  (179,(kl54,[ke20,ke4,ke0,ke0],kf8),631,kc4,[941],0),
  (179,(kl55,[ke20,ke4,ke0,ke0],kf9),578,kc4,[942],0),
  (179,(kl56,[ke20,ke4,ke0,ke0],kf10),525,kc4,[943],0),
  (179,(kl57,[ke20,ke4,ke0,ke0],kf11),472,kc4,[944],0),
  (179,(kl58,[ke20,ke4,ke0,ke0],kf12),419,kc4,[945],0),
  (179,(kl59,[ke20,ke4,ke0,ke0],kf13),366,kc4,[946],0),
  (179,(kl60,[ke20,ke4,ke0,ke0],kf14),312,kc4,[947],0),
  (179,(kl61,[ke20,ke4,ke0,ke0],kf16),259,kc4,[948],0),
  (179,(kl62,[ke20,ke4,ke0,ke0],kf21),1160,kc4,[949],0),
  (179,(kl63,[ke20,ke4,ke0,ke0],kf17),206,kc4,[950],0),
  (179,(kl64,[ke20,ke4,ke0,ke0],kf18),152,kc4,[951],0),
  (179,(kl65,[ke20,ke4,ke0,ke0],kf19),100,kc4,[952],0),
  (179,(kl66,[ke20,ke4,ke0,ke0],kf20),47,kc4,[953],0),
  (179,(kl68,[ke20,ke4,ke0,ke0],kf22),1107,kc4,[954],0),
  (179,(kl69,[ke20,ke4,ke0,ke0],kf23),1054,kc4,[955],0),
  (179,(kl70,[ke20,ke4,ke0,ke0],kf24),1001,kc4,[956],0),
  (179,(kl71,[ke20,ke4,ke0,ke0],kf25),948,kc4,[957],0),
  (179,(kl72,[ke20,ke4,ke0,ke0],kf26),896,kc4,[958],0),
  (179,(kl73,[ke20,ke4,ke0,ke0],kf27),843,kc4,[959],0),
  (179,(kl74,[ke20,ke4,ke0,ke0],kf5),790,kc4,[960],0),
  (180,(kl123,[ke36,ke20,ke4,ke0,ke0],kf28),1267,kc4,[961],0),
  (180,(kl51,[ke36,ke20,ke4,ke0,ke0],kf15),1213,kc4,[962],0),
  (180,(kl52,[ke36,ke20,ke4,ke0,ke0],kf6),736,kc4,[963],0),
  (180,(kl53,[ke36,ke20,ke4,ke0,ke0],kf7),683,kc4,[964],0),
  (180,(kl54,[ke36,ke20,ke4,ke0,ke0],kf8),630,kc4,[965],0),
  (180,(kl55,[ke36,ke20,ke4,ke0,ke0],kf9),577,kc4,[966],0),
  (180,(kl56,[ke36,ke20,ke4,ke0,ke0],kf10),524,kc4,[967],0),
  (180,(kl57,[ke36,ke20,ke4,ke0,ke0],kf11),471,kc4,[968],0),
  (180,(kl58,[ke36,ke20,ke4,ke0,ke0],kf12),418,kc4,[969],0),
  (180,(kl59,[ke36,ke20,ke4,ke0,ke0],kf13),365,kc4,[970],0),
  (180,(kl60,[ke36,ke20,ke4,ke0,ke0],kf14),311,kc4,[971],0),
  (180,(kl61,[ke36,ke20,ke4,ke0,ke0],kf16),258,kc4,[972],0),
  (180,(kl62,[ke36,ke20,ke4,ke0,ke0],kf21),1159,kc4,[973],0),
  (180,(kl63,[ke36,ke20,ke4,ke0,ke0],kf17),205,kc4,[974],0),
  (180,(kl64,[ke36,ke20,ke4,ke0,ke0],kf18),151,kc4,[975],0),
  (180,(kl65,[ke36,ke20,ke4,ke0,ke0],kf19),99,kc4,[976],0),
  (180,(kl66,[ke36,ke20,ke4,ke0,ke0],kf20),46,kc4,[977],0),
  (180,(kl68,[ke36,ke20,ke4,ke0,ke0],kf22),1106,kc4,[978],0),
  (180,(kl69,[ke36,ke20,ke4,ke0,ke0],kf23),1053,kc4,[979],0),
  (180,(kl70,[ke36,ke20,ke4,ke0,ke0],kf24),1000,kc4,[980],0),
  (180,(kl71,[ke36,ke20,ke4,ke0,ke0],kf25),947,kc4,[981],0),
  (180,(kl72,[ke36,ke20,ke4,ke0,ke0],kf26),895,kc4,[982],0),
  (180,(kl73,[ke36,ke20,ke4,ke0,ke0],kf27),842,kc4,[983],0),
  (180,(kl74,[ke36,ke20,ke4,ke0,ke0],kf5),789,kc4,[984],0),
  (183,(kl123,[ke47,ke20,ke4,ke0,ke0],kf28),1266,kc4,[985],0),
  (183,(kl51,[ke47,ke20,ke4,ke0,ke0],kf15),1212,kc4,[986],0),
  (183,(kl52,[ke47,ke20,ke4,ke0,ke0],kf6),735,kc4,[987],0),
  (183,(kl53,[ke47,ke20,ke4,ke0,ke0],kf7),682,kc4,[988],0),
  (183,(kl54,[ke47,ke20,ke4,ke0,ke0],kf8),629,kc4,[989],0),
  (183,(kl55,[ke47,ke20,ke4,ke0,ke0],kf9),576,kc4,[990],0),
  (183,(kl56,[ke47,ke20,ke4,ke0,ke0],kf10),523,kc4,[991],0),
  (183,(kl57,[ke47,ke20,ke4,ke0,ke0],kf11),470,kc4,[992],0),
  (183,(kl58,[ke47,ke20,ke4,ke0,ke0],kf12),417,kc4,[993],0),
  (183,(kl59,[ke47,ke20,ke4,ke0,ke0],kf13),364,kc4,[994],0),
  (183,(kl60,[ke47,ke20,ke4,ke0,ke0],kf14),310,kc4,[995],0),
  (183,(kl61,[ke47,ke20,ke4,ke0,ke0],kf16),257,kc4,[996],0),
  (183,(kl62,[ke47,ke20,ke4,ke0,ke0],kf21),1158,kc4,[997],0),
  (183,(kl63,[ke47,ke20,ke4,ke0,ke0],kf17),204,kc4,[998],0),
  (183,(kl64,[ke47,ke20,ke4,ke0,ke0],kf18),150,kc4,[999],0),
  (183,(kl65,[ke47,ke20,ke4,ke0,ke0],kf19),98,kc4,[1000],0),
  (183,(kl66,[ke47,ke20,ke4,ke0,ke0],kf20),45,kc4,[1001],0),
  (183,(kl68,[ke47,ke20,ke4,ke0,ke0],kf22),1105,kc4,[1002],0),
  (183,(kl69,[ke47,ke20,ke4,ke0,ke0],kf23),1052,kc4,[1003],0),
  (183,(kl70,[ke47,ke20,ke4,ke0,ke0],kf24),999,kc4,[1004],0),
  (183,(kl71,[ke47,ke20,ke4,ke0,ke0],kf25),946,kc4,[1005],0),
  (183,(kl72,[ke47,ke20,ke4,ke0,ke0],kf26),894,kc4,[1006],0),
  (183,(kl73,[ke47,ke20,ke4,ke0,ke0],kf27),841,kc4,[1007],0),
  (183,(kl74,[ke47,ke20,ke4,ke0,ke0],kf5),788,kc4,[1008],0),
  (185,(kl123,[ke132,ke47,ke20,ke4,ke0,ke0],kf28),1265,kc4,[1009],0),
  (185,(kl51,[ke132,ke47,ke20,ke4,ke0,ke0],kf15),1211,kc4,[1010],0),
  (185,(kl52,[ke132,ke47,ke20,ke4,ke0,ke0],kf6),734,kc4,[1011],0),
  (185,(kl53,[ke132,ke47,ke20,ke4,ke0,ke0],kf7),681,kc4,[1012],0),
  (185,(kl54,[ke132,ke47,ke20,ke4,ke0,ke0],kf8),628,kc4,[1013],0),
  (185,(kl55,[ke132,ke47,ke20,ke4,ke0,ke0],kf9),575,kc4,[1014],0),
  (185,(kl56,[ke132,ke47,ke20,ke4,ke0,ke0],kf10),522,kc4,[1015],0),
  (185,(kl57,[ke132,ke47,ke20,ke4,ke0,ke0],kf11),469,kc4,[1016],0),
  (185,(kl58,[ke132,ke47,ke20,ke4,ke0,ke0],kf12),416,kc4,[1017],0),
  (185,(kl59,[ke132,ke47,ke20,ke4,ke0,ke0],kf13),363,kc4,[1018],0),
  (185,(kl60,[ke132,ke47,ke20,ke4,ke0,ke0],kf14),309,kc4,[1019],0),
  (185,(kl61,[ke132,ke47,ke20,ke4,ke0,ke0],kf16),256,kc4,[1020],0),
  (185,(kl62,[ke132,ke47,ke20,ke4,ke0,ke0],kf21),1157,kc4,[1021],0),
  (185,(kl63,[ke132,ke47,ke20,ke4,ke0,ke0],kf17),203,kc4,[1022],0),
  (185,(kl64,[ke132,ke47,ke20,ke4,ke0,ke0],kf18),149,kc4,[1023],0),
  (185,(kl65,[ke132,ke47,ke20,ke4,ke0,ke0],kf19),97,kc4,[1024],0),
  (185,(kl66,[ke132,ke47,ke20,ke4,ke0,ke0],kf20),44,kc4,[1025],0),
  (185,(kl68,[ke132,ke47,ke20,ke4,ke0,ke0],kf22),1104,kc4,[1026],0),
  (185,(kl69,[ke132,ke47,ke20,ke4,ke0,ke0],kf23),1051,kc4,[1027],0),
  (185,(kl70,[ke132,ke47,ke20,ke4,ke0,ke0],kf24),998,kc4,[1028],0),
  (185,(kl71,[ke132,ke47,ke20,ke4,ke0,ke0],kf25),945,kc4,[1029],0),
  (185,(kl72,[ke132,ke47,ke20,ke4,ke0,ke0],kf26),893,kc4,[1030],0),
  (185,(kl73,[ke132,ke47,ke20,ke4,ke0,ke0],kf27),840,kc4,[1031],0),
  (185,(kl74,[ke132,ke47,ke20,ke4,ke0,ke0],kf5),787,kc4,[1032],0),
  (187,(kl123,[ke22,ke132,ke47,ke20,ke4,ke0,ke0],kf28),1264,kc4,[1033],190),
  (187,(kl51,[ke22,ke132,ke47,ke20,ke4,ke0,ke0],kf15),1210,kc4,[1034],190),
  (187,(kl52,[ke22,ke132,ke47,ke20,ke4,ke0,ke0],kf6),733,kc4,[1035],190),
  (187,(kl53,[ke22,ke132,ke47,ke20,ke4,ke0,ke0],kf7),680,kc4,[1036],190),
  (187,(kl54,[ke22,ke132,ke47,ke20,ke4,ke0,ke0],kf8),627,kc4,[1037],190),
  (187,(kl55,[ke22,ke132,ke47,ke20,ke4,ke0,ke0],kf9),574,kc4,[1038],190),
  (187,(kl56,[ke22,ke132,ke47,ke20,ke4,ke0,ke0],kf10),521,kc4,[1039],190),
  (187,(kl57,[ke22,ke132,ke47,ke20,ke4,ke0,ke0],kf11),468,kc4,[1040],190),
  (187,(kl58,[ke22,ke132,ke47,ke20,ke4,ke0,ke0],kf12),415,kc4,[1041],190),
  (187,(kl59,[ke22,ke132,ke47,ke20,ke4,ke0,ke0],kf13),362,kc4,[1042],190),
  (187,(kl60,[ke22,ke132,ke47,ke20,ke4,ke0,ke0],kf14),308,kc4,[1043],190),
  (187,(kl61,[ke22,ke132,ke47,ke20,ke4,ke0,ke0],kf16),255,kc4,[1044],190),
  (187,(kl62,[ke22,ke132,ke47,ke20,ke4,ke0,ke0],kf21),1156,kc4,[1045],190),
  (187,(kl63,[ke22,ke132,ke47,ke20,ke4,ke0,ke0],kf17),202,kc4,[1046],190),
  (187,(kl64,[ke22,ke132,ke47,ke20,ke4,ke0,ke0],kf18),148,kc4,[1047],190),
  (187,(kl65,[ke22,ke132,ke47,ke20,ke4,ke0,ke0],kf19),96,kc4,[1048],190),
  (187,(kl66,[ke22,ke132,ke47,ke20,ke4,ke0,ke0],kf20),43,kc4,[1049],190),
  (187,(kl68,[ke22,ke132,ke47,ke20,ke4,ke0,ke0],kf22),1103,kc4,[1050],190),
  (187,(kl69,[ke22,ke132,ke47,ke20,ke4,ke0,ke0],kf23),1050,kc4,[1051],190),
  (187,(kl70,[ke22,ke132,ke47,ke20,ke4,ke0,ke0],kf24),997,kc4,[1052],190),
  (187,(kl71,[ke22,ke132,ke47,ke20,ke4,ke0,ke0],kf25),944,kc4,[1053],190),
  (187,(kl72,[ke22,ke132,ke47,ke20,ke4,ke0,ke0],kf26),892,kc4,[1054],190),
  (187,(kl73,[ke22,ke132,ke47,ke20,ke4,ke0,ke0],kf27),839,kc4,[1055],190),
  (187,(kl74,[ke22,ke132,ke47,ke20,ke4,ke0,ke0],kf5),786,kc4,[1056],190),
  (190,(kl123,[ke23,ke0],kf28),1263,kc4,[1057],0),
  (190,(kl51,[ke23,ke0],kf15),1209,kc4,[1058],0),
  (190,(kl52,[ke23,ke0],kf6),732,kc4,[1059],0),
  (190,(kl53,[ke23,ke0],kf7),679,kc4,[1060],0),
  (190,(kl54,[ke23,ke0],kf8),626,kc4,[1061],0),
  (190,(kl55,[ke23,ke0],kf9),573,kc4,[1062],0),
  (190,(kl56,[ke23,ke0],kf10),520,kc4,[1063],0),
  (190,(kl57,[ke23,ke0],kf11),467,kc4,[1064],0),
  (190,(kl58,[ke23,ke0],kf12),414,kc4,[1065],0),
  (190,(kl59,[ke23,ke0],kf13),361,kc4,[1066],0),
  (190,(kl60,[ke23,ke0],kf14),307,kc4,[1067],0),
  (190,(kl61,[ke23,ke0],kf16),254,kc4,[1068],0),
  (190,(kl62,[ke23,ke0],kf21),1155,kc4,[1069],0),
  (190,(kl63,[ke23,ke0],kf17),201,kc4,[1070],0),
  (190,(kl64,[ke23,ke0],kf18),147,kc4,[1071],0),
  (190,(kl65,[ke23,ke0],kf19),95,kc4,[1072],0),
  (190,(kl66,[ke23,ke0],kf20),42,kc4,[1073],0),
  (190,(kl68,[ke23,ke0],kf22),1102,kc4,[1074],0),
  (190,(kl69,[ke23,ke0],kf23),1049,kc4,[1075],0),
  (190,(kl70,[ke23,ke0],kf24),996,kc4,[1076],0),
  (190,(kl71,[ke23,ke0],kf25),943,kc4,[1077],0),
  (190,(kl72,[ke23,ke0],kf26),891,kc4,[1078],0),
  (190,(kl73,[ke23,ke0],kf27),838,kc4,[1079],0),
  (190,(kl74,[ke23,ke0],kf5),785,kc4,[1080],0),
  (191,(kl123,[ke25,ke23,ke0],kf28),1262,kc4,[1081],0),
  (191,(kl51,[ke25,ke23,ke0],kf15),1208,kc4,[1082],0),
  (191,(kl52,[ke25,ke23,ke0],kf6),731,kc4,[1083],0),
  (191,(kl53,[ke25,ke23,ke0],kf7),678,kc4,[1084],0),
  (191,(kl54,[ke25,ke23,ke0],kf8),625,kc4,[1085],0),
  (191,(kl55,[ke25,ke23,ke0],kf9),572,kc4,[1086],0),
  (191,(kl56,[ke25,ke23,ke0],kf10),519,kc4,[1087],0),
  (191,(kl57,[ke25,ke23,ke0],kf11),466,kc4,[1088],0),
  (191,(kl58,[ke25,ke23,ke0],kf12),413,kc4,[1089],0),
  (191,(kl59,[ke25,ke23,ke0],kf13),360,kc4,[1090],0),
  (191,(kl60,[ke25,ke23,ke0],kf14),306,kc4,[1091],0),
  (191,(kl61,[ke25,ke23,ke0],kf16),253,kc4,[1092],0),
  (191,(kl62,[ke25,ke23,ke0],kf21),1154,kc4,[1093],0),
  (191,(kl63,[ke25,ke23,ke0],kf17),200,kc4,[1094],0),
  (191,(kl64,[ke25,ke23,ke0],kf18),146,kc4,[1095],0),
  (191,(kl65,[ke25,ke23,ke0],kf19),94,kc4,[1096],0),
  (191,(kl66,[ke25,ke23,ke0],kf20),41,kc4,[1097],0),
  (191,(kl68,[ke25,ke23,ke0],kf22),1101,kc4,[1098],0),
  (191,(kl69,[ke25,ke23,ke0],kf23),1048,kc4,[1099],0),
  (191,(kl70,[ke25,ke23,ke0],kf24),995,kc4,[1100],0),
  (191,(kl71,[ke25,ke23,ke0],kf25),942,kc4,[1101],0),
  (191,(kl72,[ke25,ke23,ke0],kf26),890,kc4,[1102],0),
  (191,(kl73,[ke25,ke23,ke0],kf27),837,kc4,[1103],0),
  (191,(kl74,[ke25,ke23,ke0],kf5),784,kc4,[1104],0),
  (192,(kl123,[ke153,ke0],kf28),1261,kc4,[1105],0),
  (192,(kl51,[ke153,ke0],kf15),1207,kc4,[1106],0),
  (192,(kl52,[ke153,ke0],kf6),730,kc4,[1107],0),
  (192,(kl53,[ke153,ke0],kf7),677,kc4,[1108],0),
  (192,(kl54,[ke153,ke0],kf8),624,kc4,[1109],0),
  (192,(kl55,[ke153,ke0],kf9),571,kc4,[1110],0),
  (192,(kl56,[ke153,ke0],kf10),518,kc4,[1111],0),
  (192,(kl57,[ke153,ke0],kf11),465,kc4,[1112],0),
  (192,(kl58,[ke153,ke0],kf12),412,kc4,[1113],0),
  (192,(kl59,[ke153,ke0],kf13),359,kc4,[1114],0),
  (192,(kl60,[ke153,ke0],kf14),305,kc4,[1115],0),
  (192,(kl61,[ke153,ke0],kf16),252,kc4,[1116],0),
  (192,(kl62,[ke153,ke0],kf21),1153,kc4,[1117],0),
  (192,(kl63,[ke153,ke0],kf17),199,kc4,[1118],0),
  (192,(kl64,[ke153,ke0],kf18),145,kc4,[1119],0),
  (192,(kl65,[ke153,ke0],kf19),93,kc4,[1120],0),
  (192,(kl66,[ke153,ke0],kf20),40,kc4,[1121],0),
  (192,(kl68,[ke153,ke0],kf22),1100,kc4,[1122],0),
  (192,(kl69,[ke153,ke0],kf23),1047,kc4,[1123],0),
  (192,(kl70,[ke153,ke0],kf24),994,kc4,[1124],0),
  (192,(kl71,[ke153,ke0],kf25),941,kc4,[1125],0),
  (192,(kl72,[ke153,ke0],kf26),889,kc4,[1126],0),
  (192,(kl73,[ke153,ke0],kf27),836,kc4,[1127],0),
  (192,(kl74,[ke153,ke0],kf5),783,kc4,[1128],0),
  (195,(kl123,[],kf4),1260,kc4,[1129],0),
  (195,(kl51,[],kf15),1206,kc4,[1130],0),
  (195,(kl52,[],kf6),729,kc4,[1131],0),
  (195,(kl53,[],kf7),676,kc4,[1132],0),
  (195,(kl54,[],kf8),623,kc4,[1133],0),
  (195,(kl55,[],kf9),570,kc4,[1134],0),
  (195,(kl56,[],kf10),517,kc4,[1135],0),
  (195,(kl57,[],kf11),464,kc4,[1136],0),
  (195,(kl58,[],kf12),411,kc4,[1137],0),
  (195,(kl59,[],kf13),358,kc4,[1138],0),
  (195,(kl60,[],kf14),304,kc4,[1139],0),
  (195,(kl61,[],kf16),251,kc4,[1140],0),
  (195,(kl62,[],kf21),1152,kc4,[1141],0),
  (195,(kl63,[],kf17),198,kc4,[1142],0),
  (195,(kl64,[],kf18),144,kc4,[1143],0),
  (195,(kl65,[],kf19),92,kc4,[1144],0),
  (195,(kl66,[],kf20),39,kc4,[1145],0),
  (195,(kl68,[],kf22),1099,kc4,[1146],0),
  (195,(kl69,[],kf23),1046,kc4,[1147],0),
  (195,(kl70,[],kf24),993,kc4,[1148],0),
  (195,(kl71,[],kf25),940,kc4,[1149],0),
  (195,(kl72,[],kf26),888,kc4,[1150],0),
  (195,(kl73,[],kf27),835,kc4,[1151],0),
  (195,(kl74,[],kf5),782,kc4,[1152],0),
  (196,(kl123,[ke0],kf4),1259,kc4,[1153],0),
  (196,(kl51,[ke0],kf15),1205,kc4,[1154],0),
  (196,(kl52,[ke0],kf6),728,kc4,[1155],0),
  (196,(kl53,[ke0],kf7),675,kc4,[1156],0),
  (196,(kl54,[ke0],kf8),622,kc4,[1157],0),
  (196,(kl55,[ke0],kf9),569,kc4,[1158],0),
  (196,(kl56,[ke0],kf10),516,kc4,[1159],0),
  (196,(kl57,[ke0],kf11),463,kc4,[1160],0),
  (196,(kl58,[ke0],kf12),410,kc4,[1161],0),
  (196,(kl59,[ke0],kf13),357,kc4,[1162],0),
  (196,(kl60,[ke0],kf14),303,kc4,[1163],0),
  (196,(kl61,[ke0],kf16),250,kc4,[1164],0),
  (196,(kl62,[ke0],kf21),1151,kc4,[1165],0),
  (196,(kl63,[ke0],kf17),197,kc4,[1166],0),
  (196,(kl64,[ke0],kf18),143,kc4,[1167],0),
  (196,(kl65,[ke0],kf19),91,kc4,[1168],0),
  (196,(kl66,[ke0],kf20),38,kc4,[1169],0),
  (196,(kl68,[ke0],kf22),1098,kc4,[1170],0),
  (196,(kl69,[ke0],kf23),1045,kc4,[1171],0),
  (196,(kl70,[ke0],kf24),992,kc4,[1172],0),
  (196,(kl71,[ke0],kf25),939,kc4,[1173],0),
  (196,(kl72,[ke0],kf26),887,kc4,[1174],0),
  (196,(kl73,[ke0],kf27),834,kc4,[1175],0),
  (196,(kl74,[ke0],kf5),781,kc4,[1176],0),
  (197,(kl123,[ke0,ke0],kf4),1258,kc4,[1177],0),
  (197,(kl51,[ke0,ke0],kf15),1204,kc4,[1178],0),
  (197,(kl52,[ke0,ke0],kf6),727,kc4,[1179],0),
  (197,(kl53,[ke0,ke0],kf7),674,kc4,[1180],0),
  (197,(kl54,[ke0,ke0],kf8),621,kc4,[1181],0),
  (197,(kl55,[ke0,ke0],kf9),568,kc4,[1182],0),
  (197,(kl56,[ke0,ke0],kf10),515,kc4,[1183],0),
  (197,(kl57,[ke0,ke0],kf11),462,kc4,[1184],0),
  (197,(kl58,[ke0,ke0],kf12),409,kc4,[1185],0),
  (197,(kl59,[ke0,ke0],kf13),356,kc4,[1186],0),
  (197,(kl60,[ke0,ke0],kf14),302,kc4,[1187],0),
  (197,(kl61,[ke0,ke0],kf16),249,kc4,[1188],0),
  (197,(kl62,[ke0,ke0],kf21),1150,kc4,[1189],0),
  (197,(kl63,[ke0,ke0],kf17),196,kc4,[1190],0),
  (197,(kl64,[ke0,ke0],kf18),142,kc4,[1191],0),
  (197,(kl65,[ke0,ke0],kf19),90,kc4,[1192],0),
  (197,(kl66,[ke0,ke0],kf20),37,kc4,[1193],0),
  (197,(kl68,[ke0,ke0],kf22),1097,kc4,[1194],0),
  (197,(kl69,[ke0,ke0],kf23),1044,kc4,[1195],0),
  (197,(kl70,[ke0,ke0],kf24),991,kc4,[1196],0),
  (197,(kl71,[ke0,ke0],kf25),938,kc4,[1197],0),
  (197,(kl72,[ke0,ke0],kf26),886,kc4,[1198],0),
  (197,(kl73,[ke0,ke0],kf27),833,kc4,[1199],0),
  (197,(kl74,[ke0,ke0],kf5),780,kc4,[1200],0),
  (198,(kl123,[ke4,ke0,ke0],kf4),1257,kc4,[1201],0),
  (198,(kl51,[ke4,ke0,ke0],kf15),1203,kc4,[1202],0),
  (198,(kl52,[ke4,ke0,ke0],kf6),726,kc4,[1203],0),
  (198,(kl53,[ke4,ke0,ke0],kf7),673,kc4,[1204],0),
  (198,(kl54,[ke4,ke0,ke0],kf8),620,kc4,[1205],0),
  (198,(kl55,[ke4,ke0,ke0],kf9),567,kc4,[1206],0),
  (198,(kl56,[ke4,ke0,ke0],kf10),514,kc4,[1207],0),
  (198,(kl57,[ke4,ke0,ke0],kf11),461,kc4,[1208],0),
  (198,(kl58,[ke4,ke0,ke0],kf12),408,kc4,[1209],0),
  (198,(kl59,[ke4,ke0,ke0],kf13),355,kc4,[1210],0),
  (198,(kl60,[ke4,ke0,ke0],kf14),301,kc4,[1211],0),
  (198,(kl61,[ke4,ke0,ke0],kf16),248,kc4,[1212],0),
  (198,(kl62,[ke4,ke0,ke0],kf21),1149,kc4,[1213],0),
  (198,(kl63,[ke4,ke0,ke0],kf17),195,kc4,[1214],0),
  (198,(kl64,[ke4,ke0,ke0],kf18),141,kc4,[1215],0),
  (198,(kl65,[ke4,ke0,ke0],kf19),89,kc4,[1216],0),
  (198,(kl66,[ke4,ke0,ke0],kf20),36,kc4,[1217],0),
  (198,(kl68,[ke4,ke0,ke0],kf22),1096,kc4,[1218],0),
  (198,(kl69,[ke4,ke0,ke0],kf23),1043,kc4,[1219],0),
  (198,(kl70,[ke4,ke0,ke0],kf24),990,kc4,[1220],0),
  (198,(kl71,[ke4,ke0,ke0],kf25),937,kc4,[1221],0),
  (198,(kl72,[ke4,ke0,ke0],kf26),885,kc4,[1222],0),
  (198,(kl73,[ke4,ke0,ke0],kf27),832,kc4,[1223],0),
  (198,(kl74,[ke4,ke0,ke0],kf5),779,kc4,[1224],0),
  (200,(kl123,[ke46,ke4,ke0,ke0],kf4),1256,kc4,[1225],0),
  (200,(kl51,[ke46,ke4,ke0,ke0],kf15),1202,kc4,[1226],0),
  (200,(kl52,[ke46,ke4,ke0,ke0],kf6),725,kc4,[1227],0),
  (200,(kl53,[ke46,ke4,ke0,ke0],kf7),672,kc4,[1228],0),
  (200,(kl54,[ke46,ke4,ke0,ke0],kf8),619,kc4,[1229],0),
  (200,(kl55,[ke46,ke4,ke0,ke0],kf9),566,kc4,[1230],0),
  (200,(kl56,[ke46,ke4,ke0,ke0],kf10),513,kc4,[1231],0),
  (200,(kl57,[ke46,ke4,ke0,ke0],kf11),460,kc4,[1232],0),
  (200,(kl58,[ke46,ke4,ke0,ke0],kf12),407,kc4,[1233],0),
  (200,(kl59,[ke46,ke4,ke0,ke0],kf13),354,kc4,[1234],0),
  (200,(kl60,[ke46,ke4,ke0,ke0],kf14),300,kc4,[1235],0),
  (200,(kl61,[ke46,ke4,ke0,ke0],kf16),247,kc4,[1236],0),
  (200,(kl62,[ke46,ke4,ke0,ke0],kf21),1148,kc4,[1237],0),
  (200,(kl63,[ke46,ke4,ke0,ke0],kf17),194,kc4,[1238],0),
  (200,(kl64,[ke46,ke4,ke0,ke0],kf18),140,kc4,[1239],0),
  (200,(kl65,[ke46,ke4,ke0,ke0],kf19),88,kc4,[1240],0),
  (200,(kl66,[ke46,ke4,ke0,ke0],kf20),35,kc4,[1241],0),
  (200,(kl68,[ke46,ke4,ke0,ke0],kf22),1095,kc4,[1242],0),
  (200,(kl69,[ke46,ke4,ke0,ke0],kf23),1042,kc4,[1243],0),
  (200,(kl70,[ke46,ke4,ke0,ke0],kf24),989,kc4,[1244],0),
  (200,(kl71,[ke46,ke4,ke0,ke0],kf25),936,kc4,[1245],0),
  (200,(kl72,[ke46,ke4,ke0,ke0],kf26),884,kc4,[1246],0),
  (200,(kl73,[ke46,ke4,ke0,ke0],kf27),831,kc4,[1247],0),
  (200,(kl74,[ke46,ke4,ke0,ke0],kf5),778,kc4,[1248],0),
  (203,(kl123,[ke9,ke4,ke0,ke0],kf4),1255,kc4,[1249],0),
  (203,(kl51,[ke9,ke4,ke0,ke0],kf15),1201,kc4,[1250],0),
  (203,(kl52,[ke9,ke4,ke0,ke0],kf6),724,kc4,[1251],0),
  (203,(kl53,[ke9,ke4,ke0,ke0],kf7),671,kc4,[1252],0),
  (203,(kl54,[ke9,ke4,ke0,ke0],kf8),618,kc4,[1253],0),
  (203,(kl55,[ke9,ke4,ke0,ke0],kf9),565,kc4,[1254],0),
  (203,(kl56,[ke9,ke4,ke0,ke0],kf10),512,kc4,[1255],0),
  (203,(kl57,[ke9,ke4,ke0,ke0],kf11),459,kc4,[1256],0),
  (203,(kl58,[ke9,ke4,ke0,ke0],kf12),406,kc4,[1257],0),
  (203,(kl59,[ke9,ke4,ke0,ke0],kf13),353,kc4,[1258],0),
  (203,(kl60,[ke9,ke4,ke0,ke0],kf14),299,kc4,[1259],0),
  (203,(kl61,[ke9,ke4,ke0,ke0],kf16),246,kc4,[1260],0),
  (203,(kl62,[ke9,ke4,ke0,ke0],kf21),1147,kc4,[1261],0),
  (203,(kl63,[ke9,ke4,ke0,ke0],kf17),193,kc4,[1262],0),
  (203,(kl64,[ke9,ke4,ke0,ke0],kf18),139,kc4,[1263],0),
  (203,(kl65,[ke9,ke4,ke0,ke0],kf19),87,kc4,[1264],0),
  (203,(kl66,[ke9,ke4,ke0,ke0],kf20),34,kc4,[1265],0),
  (203,(kl68,[ke9,ke4,ke0,ke0],kf22),1094,kc4,[1266],0),
  (203,(kl69,[ke9,ke4,ke0,ke0],kf23),1041,kc4,[1267],0),
  (203,(kl70,[ke9,ke4,ke0,ke0],kf24),988,kc4,[1268],0),
  (203,(kl71,[ke9,ke4,ke0,ke0],kf25),935,kc4,[1269],0),
  (203,(kl72,[ke9,ke4,ke0,ke0],kf26),883,kc4,[1270],0),
  (203,(kl73,[ke9,ke4,ke0,ke0],kf27),830,kc4,[1271],0),
  (203,(kl74,[ke9,ke4,ke0,ke0],kf5),777,kc4,[1272],0),
  (205,(kl123,[ke132,ke9,ke4,ke0,ke0],kf4),1254,kc4,[1273],191),
  (205,(kl51,[ke132,ke9,ke4,ke0,ke0],kf15),1200,kc4,[1274],191),
  (205,(kl52,[ke132,ke9,ke4,ke0,ke0],kf6),723,kc4,[1275],191),
  (205,(kl53,[ke132,ke9,ke4,ke0,ke0],kf7),670,kc4,[1276],191),
  (205,(kl54,[ke132,ke9,ke4,ke0,ke0],kf8),617,kc4,[1277],191),
  (205,(kl55,[ke132,ke9,ke4,ke0,ke0],kf9),564,kc4,[1278],191),
  (205,(kl56,[ke132,ke9,ke4,ke0,ke0],kf10),511,kc4,[1279],191),
  (205,(kl57,[ke132,ke9,ke4,ke0,ke0],kf11),458,kc4,[1280],191),
  (205,(kl58,[ke132,ke9,ke4,ke0,ke0],kf12),405,kc4,[1281],191),
  (205,(kl59,[ke132,ke9,ke4,ke0,ke0],kf13),352,kc4,[1282],191),
  (205,(kl60,[ke132,ke9,ke4,ke0,ke0],kf14),298,kc4,[1283],191),
  (205,(kl61,[ke132,ke9,ke4,ke0,ke0],kf16),245,kc4,[1284],191),
  (205,(kl62,[ke132,ke9,ke4,ke0,ke0],kf21),1146,kc4,[1285],191),
  (205,(kl63,[ke132,ke9,ke4,ke0,ke0],kf17),192,kc4,[1286],191),
  (205,(kl64,[ke132,ke9,ke4,ke0,ke0],kf18),138,kc4,[1287],191),
  (205,(kl65,[ke132,ke9,ke4,ke0,ke0],kf19),86,kc4,[1288],191),
  (205,(kl66,[ke132,ke9,ke4,ke0,ke0],kf20),33,kc4,[1289],191),
  (205,(kl68,[ke132,ke9,ke4,ke0,ke0],kf22),1093,kc4,[1290],191),
  (205,(kl69,[ke132,ke9,ke4,ke0,ke0],kf23),1040,kc4,[1291],191),
  (205,(kl70,[ke132,ke9,ke4,ke0,ke0],kf24),987,kc4,[1292],191),
  (205,(kl71,[ke132,ke9,ke4,ke0,ke0],kf25),934,kc4,[1293],191),
  (205,(kl72,[ke132,ke9,ke4,ke0,ke0],kf26),882,kc4,[1294],191),
  (205,(kl73,[ke132,ke9,ke4,ke0,ke0],kf27),829,kc4,[1295],191),
  (205,(kl74,[ke132,ke9,ke4,ke0,ke0],kf5),776,kc4,[1296],191),
  (208,(kl123,[ke29,ke0],kf4),1253,kc4,[1297],0),
  (208,(kl51,[ke29,ke0],kf15),1199,kc4,[1298],0),
  (208,(kl52,[ke29,ke0],kf6),722,kc4,[1299],0),
  (208,(kl53,[ke29,ke0],kf7),669,kc4,[1300],0),
  (208,(kl54,[ke29,ke0],kf8),616,kc4,[1301],0),
  (208,(kl55,[ke29,ke0],kf9),563,kc4,[1302],0),
  (208,(kl56,[ke29,ke0],kf10),510,kc4,[1303],0),
  (208,(kl57,[ke29,ke0],kf11),457,kc4,[1304],0),
  (208,(kl58,[ke29,ke0],kf12),404,kc4,[1305],0),
  (208,(kl59,[ke29,ke0],kf13),351,kc4,[1306],0),
  (208,(kl60,[ke29,ke0],kf14),297,kc4,[1307],0),
  (208,(kl61,[ke29,ke0],kf16),244,kc4,[1308],0),
  (208,(kl62,[ke29,ke0],kf21),1145,kc4,[1309],0),
  (208,(kl63,[ke29,ke0],kf17),191,kc4,[1310],0),
  (208,(kl64,[ke29,ke0],kf18),137,kc4,[1311],0),
  (208,(kl65,[ke29,ke0],kf19),85,kc4,[1312],0),
  (208,(kl66,[ke29,ke0],kf20),32,kc4,[1313],0),
  (208,(kl68,[ke29,ke0],kf22),1092,kc4,[1314],0),
  (208,(kl69,[ke29,ke0],kf23),1039,kc4,[1315],0),
  (208,(kl70,[ke29,ke0],kf24),986,kc4,[1316],0),
  (208,(kl71,[ke29,ke0],kf25),933,kc4,[1317],0),
  (208,(kl72,[ke29,ke0],kf26),881,kc4,[1318],0),
  (208,(kl73,[ke29,ke0],kf27),828,kc4,[1319],0),
  (208,(kl74,[ke29,ke0],kf5),775,kc4,[1320],0),
  (211,(kl123,[],kf4),1252,kc4,[1321],0),
  (211,(kl51,[],kf15),1198,kc4,[1332],0),
  (211,(kl52,[],kf6),721,kc4,[1323],0),
  (211,(kl53,[],kf7),668,kc4,[1324],0),
  (211,(kl54,[],kf8),615,kc4,[1325],0),
  (211,(kl55,[],kf9),562,kc4,[1326],0),
  (211,(kl56,[],kf10),509,kc4,[1327],0),
  (211,(kl57,[],kf11),456,kc4,[1328],0),
  (211,(kl58,[],kf12),403,kc4,[1329],0),
  (211,(kl59,[],kf13),350,kc4,[1330],0),
  (211,(kl60,[],kf14),296,kc4,[1331],0),
  (211,(kl61,[],kf16),243,kc4,[1333],0),
  (211,(kl62,[],kf21),1144,kc4,[1338],0),
  (211,(kl63,[],kf17),190,kc4,[1334],0),
  (211,(kl64,[],kf18),136,kc4,[1335],0),
  (211,(kl65,[],kf19),84,kc4,[1336],0),
  (211,(kl66,[],kf20),31,kc4,[1337],0),
  (211,(kl68,[],kf22),1091,kc4,[1339],0),
  (211,(kl69,[],kf23),1038,kc4,[1340],0),
  (211,(kl70,[],kf24),985,kc4,[1341],0),
  (211,(kl71,[],kf25),932,kc4,[1342],0),
  (211,(kl72,[],kf26),880,kc4,[1343],0),
  (211,(kl73,[],kf27),827,kc4,[1344],0),
  (211,(kl74,[],kf5),774,kc4,[1322],0),
  (214,(kl26,[],kf4),1251,kc4,[68],0),
  (214,(kl27,[],kf5),773,kc4,[69],0),
  (214,(kl28,[],kf6),720,kc4,[70],0),
  (214,(kl29,[],kf7),667,kc4,[71],0),
  (214,(kl30,[],kf8),614,kc4,[72],0),
  (214,(kl31,[],kf9),561,kc4,[73],0),
  (214,(kl32,[],kf10),508,kc4,[74],0),
  (214,(kl33,[],kf11),455,kc4,[75],0),
  (214,(kl34,[],kf12),402,kc4,[76],0),
  (214,(kl35,[],kf13),349,kc4,[77],0),
  (214,(kl36,[],kf14),295,kc4,[78],0),
  (214,(kl37,[],kf15),1197,kc4,[79],0),
  (214,(kl38,[],kf16),242,kc4,[80],0),
  (214,(kl39,[],kf17),189,kc4,[81],0),
  (214,(kl40,[],kf18),135,kc4,[82],0),
  (214,(kl41,[],kf19),83,kc4,[83],0),
  (214,(kl42,[],kf20),30,kc4,[84],0),
  (214,(kl43,[],kf21),1143,kc4,[85],0),
  (214,(kl44,[],kf22),1090,kc4,[86],0),
  (214,(kl45,[],kf23),1037,kc4,[87],0),
  (214,(kl46,[],kf24),984,kc4,[88],0),
  (214,(kl47,[],kf25),931,kc4,[89],0),
  (214,(kl48,[],kf26),879,kc4,[90],0),
  (214,(kl49,[],kf27),826,kc4,[91],0),
  (217,(kl124,[],kf3),1300,kc4,[],0),
  (217,(kl125,[],kf4),1247,kc4,[],0),
  (217,(kl126,[],kf5),769,kc4,[],0),
  (217,(kl127,[],kf6),716,kc4,[],0),
  (217,(kl128,[],kf7),663,kc4,[],0),
  (217,(kl129,[],kf8),610,kc4,[],0),
  (217,(kl130,[],kf9),557,kc4,[],0),
  (217,(kl131,[],kf10),15,kc4,[],0),
  (217,(kl132,[],kf11),451,kc4,[],0),
  (217,(kl133,[],kf12),17,kc4,[],0),
  (217,(kl134,[],kf13),345,kc4,[],0),
  (217,(kl135,[],kf14),291,kc4,[],0),
  (217,(kl136,[],kf15),1193,kc4,[],0),
  (217,(kl137,[],kf16),238,kc4,[],0),
  (217,(kl138,[],kf17),185,kc4,[],0),
  (217,(kl139,[],kf18),20,kc4,[],0),
  (217,(kl140,[],kf19),22,kc4,[],0),
  (217,(kl42,[],kf20),23,kc4,[],0),
  (217,(kl141,[],kf21),1139,kc4,[],0),
  (217,(kl142,[],kf22),1086,kc4,[],0),
  (217,(kl143,[],kf23),1033,kc4,[],0),
  (217,(kl144,[],kf24),980,kc4,[],0),
  (217,(kl145,[],kf25),6,kc4,[],0),
  (217,(kl146,[],kf26),875,kc4,[],0),
  (217,(kl147,[],kf27),822,kc4,[],0)]
theorem CK193 : chkS prot SMs SM193 [] CN193 = true := by decide +kernel
