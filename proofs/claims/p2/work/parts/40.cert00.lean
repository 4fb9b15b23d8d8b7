/-! LM, by program: certificates 0 -/
-- OneSided$Reader.putBytes
def ka0 : AV := (2,2,2,0)
def ka1 : AV := (1,-9223372036854775808,9223372036854775807,1)
def kl0 : AL := [some ka0,some ka1,none,none,none,none]
def kc0 : List Int := [0,0,0,0,0,0]
def ka2 : AV := (0,56,56,0)
def ke0 : SE := (ka2,pv0)
def ka3 : AV := (0,-8,54,1)
def kl1 : AL := [some ka0,some ka1,none,some ka3,none,none]
def kc1 : List Int := [0,0,0,44,0,0]
def ka4 : AV := (0,-8,56,1)
def kl2 : AL := [some ka0,some ka1,none,some ka4,none,none]
def ke1 : SE := (ka4,(1,3,0,0,0))
def ka5 : AV := (0,0,56,1)
def kl3 : AL := [some ka0,some ka1,none,some ka5,none,none]
def ke2 : SE := (ka1,(1,1,0,0,0))
def ke3 : SE := (ka5,(1,3,0,0,0))
def ke4 : SE := (ka1,pv0)
def ka6 : AV := (0,-2147483648,2147483647,1)
def ke5 : SE := (ka6,pv0)
def ka7 : AV := (0,255,255,0)
def ke6 : SE := (ka7,pv0)
def ka8 : AV := (0,0,255,1)
def ke7 : SE := (ka8,pv0)
def kl4 : AL := [some ka0,some ka1,none,some ka5,some ka8,none]
def ke8 : SE := (ka8,(1,4,0,0,0))
def ka9 : AV := (0,10,10,0)
def ke9 : SE := (ka9,pv0)
def ka10 : AV := (0,32,32,0)
def ke10 : SE := (ka10,pv0)
def ka11 : AV := (0,32,255,1)
def kl5 : AL := [some ka0,some ka1,none,some ka5,some ka11,none]
def ke11 : SE := (ka11,(1,4,0,0,0))
def ka12 : AV := (0,126,126,0)
def ke12 : SE := (ka12,pv0)
def ka13 : AV := (0,10,126,1)
def kl6 : AL := [some ka0,some ka1,none,some ka5,some ka13,none]
def ka14 : AV := (0,1,1,0)
def ke13 : SE := (ka14,pv0)
def ka15 : AV := (0,0,0,0)
def ke14 : SE := (ka15,pv0)
def ka16 : AV := (0,0,1,1)
def kl7 : AL := [some ka0,some ka1,none,some ka5,some ka8,some ka16]
def ke15 : SE := (ka16,(1,5,0,0,0))
def kl8 : AL := [some ka0,some ka1,none,some ka5,some ka8,some ka14]
def ke16 : SE := (ka0,(1,0,0,0,0))
def ka17 : AV := (0,0,1000,1)
def ke17 : SE := (ka17,(2,2,0,0,0))
def ka18 : AV := (0,1000,1000,0)
def ke18 : SE := (ka18,pv0)
def ka19 : AV := (0,0,999,1)
def kf0 : FA := [(2,0,ka19)]
def ka20 : AV := (2,3,3,0)
def ke19 : SE := (ka20,(2,2,1,0,0))
def ke20 : SE := (ka19,(2,2,0,0,0))
def ka21 : AV := (0,-128,127,1)
def ke21 : SE := (ka21,pv0)
def ka22 : AV := (0,1,1000,1)
def ke22 : SE := (ka22,pv0)
def ka23 : AV := (0,-8,48,1)
def kl9 : AL := [some ka0,some ka1,none,some ka23,some ka8,some ka16]
def ka24 : AV := (0,-8,-1,1)
def kl10 : AL := [some ka0,some ka1,none,some ka24,none,none]
def CN0_0 : List ND := [(0,(kl0,[],[]),2862,kc0,[1],0),
  (2,(kl0,[ke0],[]),2861,kc0,[2],0),
  (3,(kl1,[],[]),395,kc1,[3],0),
  (4,(kl2,[ke1],[]),394,kc1,[46,4],0),
  (7,(kl3,[],[]),393,kc1,[5],0),
  (8,(kl3,[ke2],[]),392,kc1,[6],0),
  (9,(kl3,[ke3,ke2],[]),391,kc1,[7],0),
  (10,(kl3,[ke4],[]),390,kc1,[8],0),
  (11,(kl3,[ke5],[]),389,kc1,[9],0),
  (14,(kl3,[ke6,ke5],[]),388,kc1,[10],0),
  (15,(kl3,[ke7],[]),387,kc1,[11],0),
  (17,(kl4,[],[]),386,kc1,[12],0),
  (19,(kl4,[ke8],[]),385,kc1,[13],0),
  (21,(kl4,[ke9,ke8],[]),384,kc1,[20,14],0),
  (24,(kl4,[],[]),383,kc1,[15],0),
  (26,(kl4,[ke8],[]),382,kc1,[16],0),
  (28,(kl4,[ke10,ke8],[]),381,kc1,[22,17],0),
  (31,(kl5,[],[]),380,kc1,[18],0),
  (33,(kl5,[ke11],[]),379,kc1,[19],0),
  (35,(kl5,[ke12,ke11],[]),378,kc1,[22,20],0),
  (38,(kl6,[],[]),375,kc1,[21],0),
  (39,(kl6,[ke13],[]),374,kc1,[24],0),
  (42,(kl4,[],[]),377,kc1,[23],0),
  (43,(kl4,[ke14],[]),376,kc1,[25],0),
  (43,(kl6,[ke13],[]),373,kc1,[25],0),
  (45,(kl7,[],[]),372,kc1,[26],0),
  (47,(kl7,[ke15],[]),371,kc1,[44,27],0),
  (50,(kl8,[],[]),370,kc1,[28],0),
  (51,(kl8,[ke16],[]),369,kc1,[29],0),
  (54,(kl8,[ke17],[]),368,kc1,[30],0),
  (57,(kl8,[ke18,ke17],[]),367,kc1,[44,31],0),
  (60,(kl8,[],kf0),366,kc1,[32],0),
  (61,(kl8,[ke16],kf0),365,kc1,[33],0),
  (64,(kl8,[ke19],kf0),364,kc1,[34],0),
  (65,(kl8,[ke16,ke19],kf0),363,kc1,[35],0),
  (68,(kl8,[ke20,ke19],kf0),362,kc1,[36],0),
  (70,(kl8,[ke8,ke20,ke19],kf0),361,kc1,[37],0),
  (71,(kl8,[ke21,ke20,ke19],kf0),360,kc1,[38],0),
  (72,(kl8,[],kf0),359,kc1,[39],0),
  (73,(kl8,[ke16],kf0),358,kc1,[40],0),
  (74,(kl8,[ke16,ke16],kf0),357,kc1,[41],0),
  (77,(kl8,[ke20,ke16],kf0),356,kc1,[42],0),
  (78,(kl8,[ke13,ke20,ke16],kf0),355,kc1,[43],0),
  (79,(kl8,[ke22,ke16],kf0),354,kc1,[44],0),
  (82,(kl7,[],[]),353,kc1,[45],0),
  (85,(kl9,[],[]),396,kc1,[2],0),
  (88,(kl10,[],[]),0,kc0,[],0)]
def CN0 : List (List ND) := [CN0_0]
theorem CK0 : chkS prot SMs SM0 [] CN0 = true := by decide +kernel
-- OneSided$Plans.findWay
def ka25 : AV := (2,77,77,0)
def ka26 : AV := (2,5,5,0)
def ka27 : AV := (2,60,60,0)
def ka28 : AV := (0,0,5,1)
def kl11 : AL := [some ka25,some ka26,some ka27,some ka28,none,none,none,none,none]
def kc2 : List Int := [0,0,0,0,0,0,0,0,0]
def ke23 : SE := (ka25,(1,0,0,0,0))
def kf1 : FA := [(77,0,ka15)]
def ke24 : SE := (ka26,(1,1,0,0,0))
def ke25 : SE := (ka27,(1,2,0,0,0))
def ke26 : SE := (ka28,(1,3,0,0,0))
def ka29 : AV := (0,-1,24,1)
def ke27 : SE := (ka29,pv0)
def kl12 : AL := [some ka25,some ka26,some ka27,some ka28,some ka29,none,none,none,none]
def ka30 : AV := (0,0,25,1)
def ke28 : SE := (ka30,pv0)
def ke29 : SE := (ka29,(1,4,0,0,0))
def ka31 : AV := (0,-1,-1,0)
def ke30 : SE := (ka31,pv0)
def ka32 : AV := (0,0,24,1)
def kl13 : AL := [some ka25,some ka26,some ka27,some ka28,some ka32,none,none,none,none]
def ke31 : SE := (ka32,(1,4,0,0,0))
def ka33 : AV := (0,24,24,0)
def ke32 : SE := (ka33,pv0)
def ka34 : AV := (0,0,23,1)
def kl14 : AL := [some ka25,some ka26,some ka27,some ka28,some ka34,none,none,none,none]
def ke33 : SE := (ka30,(2,77,3,0,0))
def ke34 : SE := (ka34,(1,4,0,0,0))
def kf2 : FA := [(77,0,ka15),(77,3,ka34)]
def ka35 : AV := (2,7,7,0)
def ke35 : SE := (ka35,(2,5,3,0,0))
def ka36 : AV := (2,26,31,1)
def ke36 : SE := (ka36,pv0)
def kl15 : AL := [some ka25,some ka26,some ka27,some ka28,some ka34,some ka36,none,none,none]
def ke37 : SE := (ka36,(1,5,0,0,0))
def ke38 : SE := (ka6,(2,60,1,0,0))
def ke39 : SE := (ka34,(2,77,3,0,0))
def ka37 : AV := (2,61,61,0)
def ke40 : SE := (ka37,(2,60,4,0,0))
def ka38 : AV := (0,0,9,1)
def ke41 : SE := (ka38,pv0)
def ka39 : AV := (0,2,2,0)
def ke42 : SE := (ka39,pv0)
def ka40 : AV := (0,0,18,2)
def ke43 : SE := (ka40,pv0)
def ke44 : SE := (ka6,(2,60,3,0,0))
def ke45 : SE := (ka16,pv0)
def ka41 : AV := (0,0,19,1)
def ke46 : SE := (ka41,pv0)
def ka42 : AV := (2,79,79,0)
def ke47 : SE := (ka42,(2,77,2,0,0))
def ka43 : AV := (0,20,20,0)
def ke48 : SE := (ka43,pv0)
def ka44 : AV := (0,0,460,20)
def ke49 : SE := (ka44,pv0)
def ke50 : SE := (ka41,(2,77,4,0,0))
def ka45 : AV := (0,0,479,1)
def ke51 : SE := (ka45,pv0)
def kl16 : AL := [some ka25,some ka26,some ka27,some ka28,some ka34,some ka36,some ka6,none,none]
def kl17 : AL := [some ka25,some ka26,some ka27,some ka28,some ka34,some ka36,some ka6,some ka15,none]
def ka46 : AV := (0,1,2147483647,1)
def ka47 : AV := (0,0,13,1)
def kl18 : AL := [some ka25,some ka26,some ka27,some ka28,some ka34,some ka36,some ka46,some ka14,some ka47]
def kf3 : FA := [(77,0,ka14),(77,3,ka32)]
def ka48 : AV := (0,10,2147483647,1)
def kl19 : AL := [some ka25,some ka26,some ka27,some ka28,some ka34,some ka36,some ka48,some ka9,some ka47]
def kf4 : FA := [(77,0,ka9),(77,3,ka32)]
def ka49 : AV := (0,11,2147483647,1)
def ka50 : AV := (0,11,11,0)
def kl20 : AL := [some ka25,some ka26,some ka27,some ka28,some ka34,some ka36,some ka49,some ka50,some ka47]
def kf5 : FA := [(77,0,ka50),(77,3,ka32)]
def ka51 : AV := (0,12,2147483647,1)
def ka52 : AV := (0,12,12,0)
def kl21 : AL := [some ka25,some ka26,some ka27,some ka28,some ka34,some ka36,some ka51,some ka52,some ka47]
def kf6 : FA := [(77,0,ka52),(77,3,ka32)]
def ka53 : AV := (0,13,2147483647,1)
def ka54 : AV := (0,13,13,0)
def kl22 : AL := [some ka25,some ka26,some ka27,some ka28,some ka34,some ka36,some ka53,some ka54,some ka47]
def kf7 : FA := [(77,0,ka54),(77,3,ka32)]
def ka55 : AV := (0,14,2147483647,1)
def ka56 : AV := (0,14,14,0)
def kl23 : AL := [some ka25,some ka26,some ka27,some ka28,some ka34,some ka36,some ka55,some ka56,some ka47]
def kf8 : FA := [(77,0,ka56),(77,3,ka32)]
def ka57 : AV := (0,15,2147483647,1)
def ka58 : AV := (0,15,15,0)
def kl24 : AL := [some ka25,some ka26,some ka27,some ka28,some ka34,some ka36,some ka57,some ka58,some ka47]
def kf9 : FA := [(77,0,ka58),(77,3,ka32)]
def ka59 : AV := (0,16,2147483647,1)
def ka60 : AV := (0,16,16,0)
def kl25 : AL := [some ka25,some ka26,some ka27,some ka28,some ka34,some ka36,some ka59,some ka60,some ka47]
def kf10 : FA := [(77,0,ka60),(77,3,ka32)]
def ka61 : AV := (0,17,2147483647,1)
def ka62 : AV := (0,17,17,0)
def kl26 : AL := [some ka25,some ka26,some ka27,some ka28,some ka34,some ka36,some ka61,some ka62,some ka47]
def kf11 : FA := [(77,0,ka62),(77,3,ka32)]
def ka63 : AV := (0,18,2147483647,1)
def ka64 : AV := (0,18,18,0)
def kl27 : AL := [some ka25,some ka26,some ka27,some ka28,some ka34,some ka36,some ka63,some ka64,some ka47]
def kf12 : FA := [(77,0,ka64),(77,3,ka32)]
def ka65 : AV := (0,19,2147483647,1)
def ka66 : AV := (0,19,19,0)
def kl28 : AL := [some ka25,some ka26,some ka27,some ka28,some ka34,some ka36,some ka65,some ka66,some ka47]
def kf13 : FA := [(77,0,ka66),(77,3,ka32)]
def ka67 : AV := (0,2,2147483647,1)
def kl29 : AL := [some ka25,some ka26,some ka27,some ka28,some ka34,some ka36,some ka67,some ka39,some ka47]
def kf14 : FA := [(77,0,ka39),(77,3,ka32)]
def ka68 : AV := (0,20,2147483647,1)
def kl30 : AL := [some ka25,some ka26,some ka27,some ka28,some ka34,some ka36,some ka68,some ka43,some ka47]
def kf15 : FA := [(77,0,ka43),(77,3,ka32)]
def ka69 : AV := (0,21,2147483647,1)
def ka70 : AV := (0,21,21,0)
def kl31 : AL := [some ka25,some ka26,some ka27,some ka28,some ka34,some ka36,some ka69,some ka70,some ka47]
def kf16 : FA := [(77,0,ka70),(77,3,ka32)]
def ka71 : AV := (0,22,2147483647,1)
def ka72 : AV := (0,22,22,0)
def kl32 : AL := [some ka25,some ka26,some ka27,some ka28,some ka34,some ka36,some ka71,some ka72,some ka47]
def kf17 : FA := [(77,0,ka72),(77,3,ka32)]
def ka73 : AV := (0,23,2147483647,1)
def ka74 : AV := (0,23,23,0)
def kl33 : AL := [some ka25,some ka26,some ka27,some ka28,some ka34,some ka36,some ka73,some ka74,some ka47]
def kf18 : FA := [(77,0,ka74),(77,3,ka32)]
def ka75 : AV := (0,24,2147483647,1)
def kl34 : AL := [some ka25,some ka26,some ka27,some ka28,some ka34,some ka36,some ka75,some ka33,some ka47]
def kf19 : FA := [(77,0,ka33),(77,3,ka32)]
def ka76 : AV := (0,3,2147483647,1)
def ka77 : AV := (0,3,3,0)
def kl35 : AL := [some ka25,some ka26,some ka27,some ka28,some ka34,some ka36,some ka76,some ka77,some ka47]
def kf20 : FA := [(77,0,ka77),(77,3,ka32)]
def ka78 : AV := (0,4,2147483647,1)
def ka79 : AV := (0,4,4,0)
def kl36 : AL := [some ka25,some ka26,some ka27,some ka28,some ka34,some ka36,some ka78,some ka79,some ka47]
def kf21 : FA := [(77,0,ka79),(77,3,ka32)]
def ka80 : AV := (0,5,2147483647,1)
def ka81 : AV := (0,5,5,0)
def kl37 : AL := [some ka25,some ka26,some ka27,some ka28,some ka34,some ka36,some ka80,some ka81,some ka47]
def kf22 : FA := [(77,0,ka81),(77,3,ka32)]
def ka82 : AV := (0,6,2147483647,1)
def ka83 : AV := (0,6,6,0)
def kl38 : AL := [some ka25,some ka26,some ka27,some ka28,some ka34,some ka36,some ka82,some ka83,some ka47]
def kf23 : FA := [(77,0,ka83),(77,3,ka32)]
def ka84 : AV := (0,7,2147483647,1)
def ka85 : AV := (0,7,7,0)
def kl39 : AL := [some ka25,some ka26,some ka27,some ka28,some ka34,some ka36,some ka84,some ka85,some ka47]
def kf24 : FA := [(77,0,ka85),(77,3,ka32)]
def ka86 : AV := (0,8,2147483647,1)
def ka87 : AV := (0,8,8,0)
def kl40 : AL := [some ka25,some ka26,some ka27,some ka28,some ka34,some ka36,some ka86,some ka87,some ka47]
def kf25 : FA := [(77,0,ka87),(77,3,ka32)]
def ka88 : AV := (0,9,2147483647,1)
def ka89 : AV := (0,9,9,0)
def kl41 : AL := [some ka25,some ka26,some ka27,some ka28,some ka34,some ka36,some ka88,some ka89,some ka47]
def kf26 : FA := [(77,0,ka89),(77,3,ka32)]
def ke52 : SE := (ka15,(1,7,0,0,0))
def ke53 : SE := (ka14,(1,7,0,0,0))
def ke54 : SE := (ka9,(1,7,0,0,0))
def ke55 : SE := (ka50,(1,7,0,0,0))
def ke56 : SE := (ka52,(1,7,0,0,0))
def ke57 : SE := (ka54,(1,7,0,0,0))
def ke58 : SE := (ka56,(1,7,0,0,0))
def ke59 : SE := (ka58,(1,7,0,0,0))
def ke60 : SE := (ka60,(1,7,0,0,0))
def ke61 : SE := (ka62,(1,7,0,0,0))
def ke62 : SE := (ka64,(1,7,0,0,0))
def ke63 : SE := (ka66,(1,7,0,0,0))
def ke64 : SE := (ka39,(1,7,0,0,0))
def ke65 : SE := (ka43,(1,7,0,0,0))
def ke66 : SE := (ka70,(1,7,0,0,0))
def ke67 : SE := (ka72,(1,7,0,0,0))
def ke68 : SE := (ka74,(1,7,0,0,0))
def ke69 : SE := (ka33,(1,7,0,0,0))
def ke70 : SE := (ka77,(1,7,0,0,0))
def ke71 : SE := (ka79,(1,7,0,0,0))
def ke72 : SE := (ka81,(1,7,0,0,0))
def ke73 : SE := (ka83,(1,7,0,0,0))
def ke74 : SE := (ka85,(1,7,0,0,0))
def ke75 : SE := (ka87,(1,7,0,0,0))
def ke76 : SE := (ka89,(1,7,0,0,0))
def ke77 : SE := (ka6,(1,6,0,0,0))
def ke78 : SE := (ka46,(1,6,0,0,0))
def ke79 : SE := (ka48,(1,6,0,0,0))
def ke80 : SE := (ka49,(1,6,0,0,0))
def ke81 : SE := (ka51,(1,6,0,0,0))
def ke82 : SE := (ka53,(1,6,0,0,0))
def ke83 : SE := (ka55,(1,6,0,0,0))
def ke84 : SE := (ka57,(1,6,0,0,0))
def ke85 : SE := (ka59,(1,6,0,0,0))
def ke86 : SE := (ka61,(1,6,0,0,0))
def ke87 : SE := (ka63,(1,6,0,0,0))
def ke88 : SE := (ka65,(1,6,0,0,0))
def ke89 : SE := (ka67,(1,6,0,0,0))
def ke90 : SE := (ka68,(1,6,0,0,0))
def ke91 : SE := (ka69,(1,6,0,0,0))
def ke92 : SE := (ka71,(1,6,0,0,0))
def ke93 : SE := (ka73,(1,6,0,0,0))
def ke94 : SE := (ka75,(1,6,0,0,0))
def ke95 : SE := (ka76,(1,6,0,0,0))
def ke96 : SE := (ka78,(1,6,0,0,0))
def ke97 : SE := (ka80,(1,6,0,0,0))
def ke98 : SE := (ka82,(1,6,0,0,0))
def ke99 : SE := (ka84,(1,6,0,0,0))
def ke100 : SE := (ka86,(1,6,0,0,0))
def ke101 : SE := (ka88,(1,6,0,0,0))
def kl42 : AL := [some ka25,some ka26,some ka27,some ka28,some ka34,some ka36,some ka46,some ka15,none]
def kl43 : AL := [some ka25,some ka26,some ka27,some ka28,some ka34,some ka36,some ka67,some ka14,some ka47]
def kl44 : AL := [some ka25,some ka26,some ka27,some ka28,some ka34,some ka36,some ka49,some ka9,some ka47]
def kl45 : AL := [some ka25,some ka26,some ka27,some ka28,some ka34,some ka36,some ka51,some ka50,some ka47]
def kl46 : AL := [some ka25,some ka26,some ka27,some ka28,some ka34,some ka36,some ka53,some ka52,some ka47]
def kl47 : AL := [some ka25,some ka26,some ka27,some ka28,some ka34,some ka36,some ka55,some ka54,some ka47]
def kl48 : AL := [some ka25,some ka26,some ka27,some ka28,some ka34,some ka36,some ka57,some ka56,some ka47]
def kl49 : AL := [some ka25,some ka26,some ka27,some ka28,some ka34,some ka36,some ka59,some ka58,some ka47]
def kl50 : AL := [some ka25,some ka26,some ka27,some ka28,some ka34,some ka36,some ka61,some ka60,some ka47]
def kl51 : AL := [some ka25,some ka26,some ka27,some ka28,some ka34,some ka36,some ka63,some ka62,some ka47]
def kl52 : AL := [some ka25,some ka26,some ka27,some ka28,some ka34,some ka36,some ka65,some ka64,some ka47]
def kl53 : AL := [some ka25,some ka26,some ka27,some ka28,some ka34,some ka36,some ka68,some ka66,some ka47]
def kl54 : AL := [some ka25,some ka26,some ka27,some ka28,some ka34,some ka36,some ka76,some ka39,some ka47]
def kl55 : AL := [some ka25,some ka26,some ka27,some ka28,some ka34,some ka36,some ka69,some ka43,some ka47]
def kl56 : AL := [some ka25,some ka26,some ka27,some ka28,some ka34,some ka36,some ka71,some ka70,some ka47]
def kl57 : AL := [some ka25,some ka26,some ka27,some ka28,some ka34,some ka36,some ka73,some ka72,some ka47]
def kl58 : AL := [some ka25,some ka26,some ka27,some ka28,some ka34,some ka36,some ka75,some ka74,some ka47]
def ka90 : AV := (0,25,2147483647,1)
def kl59 : AL := [some ka25,some ka26,some ka27,some ka28,some ka34,some ka36,some ka90,some ka33,some ka47]
def kl60 : AL := [some ka25,some ka26,some ka27,some ka28,some ka34,some ka36,some ka78,some ka77,some ka47]
def kl61 : AL := [some ka25,some ka26,some ka27,some ka28,some ka34,some ka36,some ka80,some ka79,some ka47]
def kl62 : AL := [some ka25,some ka26,some ka27,some ka28,some ka34,some ka36,some ka82,some ka81,some ka47]
def kl63 : AL := [some ka25,some ka26,some ka27,some ka28,some ka34,some ka36,some ka84,some ka83,some ka47]
def kl64 : AL := [some ka25,some ka26,some ka27,some ka28,some ka34,some ka36,some ka86,some ka85,some ka47]
def kl65 : AL := [some ka25,some ka26,some ka27,some ka28,some ka34,some ka36,some ka88,some ka87,some ka47]
def kl66 : AL := [some ka25,some ka26,some ka27,some ka28,some ka34,some ka36,some ka48,some ka89,some ka47]
def ka91 : AV := (0,-1,13,1)
def ke102 : SE := (ka91,pv0)
def kl67 : AL := [some ka25,some ka26,some ka27,some ka28,some ka34,some ka36,some ka46,some ka15,some ka91]
def kl68 : AL := [some ka25,some ka26,some ka27,some ka28,some ka34,some ka36,some ka67,some ka14,some ka91]
def kl69 : AL := [some ka25,some ka26,some ka27,some ka28,some ka34,some ka36,some ka49,some ka9,some ka91]
def kl70 : AL := [some ka25,some ka26,some ka27,some ka28,some ka34,some ka36,some ka51,some ka50,some ka91]
def kl71 : AL := [some ka25,some ka26,some ka27,some ka28,some ka34,some ka36,some ka53,some ka52,some ka91]
def kl72 : AL := [some ka25,some ka26,some ka27,some ka28,some ka34,some ka36,some ka55,some ka54,some ka91]
def kl73 : AL := [some ka25,some ka26,some ka27,some ka28,some ka34,some ka36,some ka57,some ka56,some ka91]
def kl74 : AL := [some ka25,some ka26,some ka27,some ka28,some ka34,some ka36,some ka59,some ka58,some ka91]
def kl75 : AL := [some ka25,some ka26,some ka27,some ka28,some ka34,some ka36,some ka61,some ka60,some ka91]
def kl76 : AL := [some ka25,some ka26,some ka27,some ka28,some ka34,some ka36,some ka63,some ka62,some ka91]
def kl77 : AL := [some ka25,some ka26,some ka27,some ka28,some ka34,some ka36,some ka65,some ka64,some ka91]
def kl78 : AL := [some ka25,some ka26,some ka27,some ka28,some ka34,some ka36,some ka68,some ka66,some ka91]
def kl79 : AL := [some ka25,some ka26,some ka27,some ka28,some ka34,some ka36,some ka76,some ka39,some ka91]
def kl80 : AL := [some ka25,some ka26,some ka27,some ka28,some ka34,some ka36,some ka69,some ka43,some ka91]
def kl81 : AL := [some ka25,some ka26,some ka27,some ka28,some ka34,some ka36,some ka71,some ka70,some ka91]
def kl82 : AL := [some ka25,some ka26,some ka27,some ka28,some ka34,some ka36,some ka73,some ka72,some ka91]
def kl83 : AL := [some ka25,some ka26,some ka27,some ka28,some ka34,some ka36,some ka75,some ka74,some ka91]
def kl84 : AL := [some ka25,some ka26,some ka27,some ka28,some ka34,some ka36,some ka78,some ka77,some ka91]
def kl85 : AL := [some ka25,some ka26,some ka27,some ka28,some ka34,some ka36,some ka80,some ka79,some ka91]
def kl86 : AL := [some ka25,some ka26,some ka27,some ka28,some ka34,some ka36,some ka82,some ka81,some ka91]
def kl87 : AL := [some ka25,some ka26,some ka27,some ka28,some ka34,some ka36,some ka84,some ka83,some ka91]
def kl88 : AL := [some ka25,some ka26,some ka27,some ka28,some ka34,some ka36,some ka86,some ka85,some ka91]
def kl89 : AL := [some ka25,some ka26,some ka27,some ka28,some ka34,some ka36,some ka88,some ka87,some ka91]
def kl90 : AL := [some ka25,some ka26,some ka27,some ka28,some ka34,some ka36,some ka48,some ka89,some ka91]
def ke103 : SE := (ka91,(1,8,0,0,0))
def kl91 : AL := [some ka25,some ka26,some ka27,some ka28,some ka34,some ka36,some ka46,some ka15,some ka31]
def kl92 : AL := [some ka25,some ka26,some ka27,some ka28,some ka34,some ka36,some ka67,some ka14,some ka31]
def kl93 : AL := [some ka25,some ka26,some ka27,some ka28,some ka34,some ka36,some ka49,some ka9,some ka31]
def kl94 : AL := [some ka25,some ka26,some ka27,some ka28,some ka34,some ka36,some ka51,some ka50,some ka31]
def kl95 : AL := [some ka25,some ka26,some ka27,some ka28,some ka34,some ka36,some ka53,some ka52,some ka31]
def kl96 : AL := [some ka25,some ka26,some ka27,some ka28,some ka34,some ka36,some ka55,some ka54,some ka31]
def kl97 : AL := [some ka25,some ka26,some ka27,some ka28,some ka34,some ka36,some ka57,some ka56,some ka31]
def kl98 : AL := [some ka25,some ka26,some ka27,some ka28,some ka34,some ka36,some ka59,some ka58,some ka31]
def kl99 : AL := [some ka25,some ka26,some ka27,some ka28,some ka34,some ka36,some ka61,some ka60,some ka31]
def kl100 : AL := [some ka25,some ka26,some ka27,some ka28,some ka34,some ka36,some ka63,some ka62,some ka31]
def kl101 : AL := [some ka25,some ka26,some ka27,some ka28,some ka34,some ka36,some ka65,some ka64,some ka31]
def kl102 : AL := [some ka25,some ka26,some ka27,some ka28,some ka34,some ka36,some ka68,some ka66,some ka31]
def kl103 : AL := [some ka25,some ka26,some ka27,some ka28,some ka34,some ka36,some ka76,some ka39,some ka31]
def kl104 : AL := [some ka25,some ka26,some ka27,some ka28,some ka34,some ka36,some ka69,some ka43,some ka31]
def kl105 : AL := [some ka25,some ka26,some ka27,some ka28,some ka34,some ka36,some ka71,some ka70,some ka31]
def kl106 : AL := [some ka25,some ka26,some ka27,some ka28,some ka34,some ka36,some ka73,some ka72,some ka31]
def kl107 : AL := [some ka25,some ka26,some ka27,some ka28,some ka34,some ka36,some ka75,some ka74,some ka31]
def kl108 : AL := [some ka25,some ka26,some ka27,some ka28,some ka34,some ka36,some ka78,some ka77,some ka31]
def kl109 : AL := [some ka25,some ka26,some ka27,some ka28,some ka34,some ka36,some ka80,some ka79,some ka31]
def kl110 : AL := [some ka25,some ka26,some ka27,some ka28,some ka34,some ka36,some ka82,some ka81,some ka31]
def kl111 : AL := [some ka25,some ka26,some ka27,some ka28,some ka34,some ka36,some ka84,some ka83,some ka31]
def kl112 : AL := [some ka25,some ka26,some ka27,some ka28,some ka34,some ka36,some ka86,some ka85,some ka31]
def kl113 : AL := [some ka25,some ka26,some ka27,some ka28,some ka34,some ka36,some ka88,some ka87,some ka31]
def kl114 : AL := [some ka25,some ka26,some ka27,some ka28,some ka34,some ka36,some ka48,some ka89,some ka31]
def kl115 : AL := [some ka25,some ka26,some ka27,some ka28,some ka34,some ka36,some ka46,some ka15,some ka47]
def ka92 : AV := (2,78,78,0)
def ke104 : SE := (ka92,(2,77,1,0,0))
def ke105 : SE := (ka15,(2,77,0,0,0))
def ke106 : SE := (ka14,(2,77,0,0,0))
def ke107 : SE := (ka9,(2,77,0,0,0))
def ke108 : SE := (ka50,(2,77,0,0,0))
def ke109 : SE := (ka52,(2,77,0,0,0))
def ke110 : SE := (ka54,(2,77,0,0,0))
def ke111 : SE := (ka56,(2,77,0,0,0))
def ke112 : SE := (ka58,(2,77,0,0,0))
def ke113 : SE := (ka60,(2,77,0,0,0))
def ke114 : SE := (ka62,(2,77,0,0,0))
def ke115 : SE := (ka64,(2,77,0,0,0))
def ke116 : SE := (ka66,(2,77,0,0,0))
def ke117 : SE := (ka39,(2,77,0,0,0))
def ke118 : SE := (ka43,(2,77,0,0,0))
def ke119 : SE := (ka70,(2,77,0,0,0))
def ke120 : SE := (ka72,(2,77,0,0,0))
def ke121 : SE := (ka74,(2,77,0,0,0))
def ke122 : SE := (ka77,(2,77,0,0,0))
def ke123 : SE := (ka79,(2,77,0,0,0))
def ke124 : SE := (ka81,(2,77,0,0,0))
def ke125 : SE := (ka83,(2,77,0,0,0))
def ke126 : SE := (ka85,(2,77,0,0,0))
def ke127 : SE := (ka87,(2,77,0,0,0))
def ke128 : SE := (ka89,(2,77,0,0,0))
def ke129 : SE := (ka47,(1,8,0,0,0))
def ke130 : SE := (ka50,pv0)
def ke131 : SE := (ka52,pv0)
def ke132 : SE := (ka54,pv0)
def ke133 : SE := (ka56,pv0)
def ke134 : SE := (ka58,pv0)
def ke135 : SE := (ka60,pv0)
def ke136 : SE := (ka62,pv0)
def ke137 : SE := (ka64,pv0)
def ke138 : SE := (ka66,pv0)
def ke139 : SE := (ka77,pv0)
def ke140 : SE := (ka70,pv0)
def ke141 : SE := (ka72,pv0)
def ke142 : SE := (ka74,pv0)
def ke143 : SE := (ka79,pv0)
def ke144 : SE := (ka81,pv0)
def ke145 : SE := (ka83,pv0)
def ke146 : SE := (ka85,pv0)
def ke147 : SE := (ka87,pv0)
def ke148 : SE := (ka89,pv0)
def kf27 : FA := [(77,0,ka14),(77,3,ka34)]
def ka93 : AV := (0,0,3,1)
def ke149 : SE := (ka93,pv0)
def ka94 : AV := (0,-1,23,1)
def ke150 : SE := (ka94,pv0)
def ke151 : SE := (ka32,pv0)
def ka95 : AV := (0,-2147483648,0,1)
def kl116 : AL := [some ka25,some ka26,some ka27,some ka28,some ka34,some ka36,some ka95,some ka15,none]
def kl117 : AL := [some ka25,some ka26,some ka27,some ka28,some ka34,some ka36,some ka14,some ka14,some ka47]
def kl118 : AL := [some ka25,some ka26,some ka27,some ka28,some ka34,some ka36,some ka9,some ka9,some ka47]
def kl119 : AL := [some ka25,some ka26,some ka27,some ka28,some ka34,some ka36,some ka50,some ka50,some ka47]
def kl120 : AL := [some ka25,some ka26,some ka27,some ka28,some ka34,some ka36,some ka52,some ka52,some ka47]
def kl121 : AL := [some ka25,some ka26,some ka27,some ka28,some ka34,some ka36,some ka54,some ka54,some ka47]
def kl122 : AL := [some ka25,some ka26,some ka27,some ka28,some ka34,some ka36,some ka56,some ka56,some ka47]
def kl123 : AL := [some ka25,some ka26,some ka27,some ka28,some ka34,some ka36,some ka58,some ka58,some ka47]
def kl124 : AL := [some ka25,some ka26,some ka27,some ka28,some ka34,some ka36,some ka60,some ka60,some ka47]
def kl125 : AL := [some ka25,some ka26,some ka27,some ka28,some ka34,some ka36,some ka62,some ka62,some ka47]
def kl126 : AL := [some ka25,some ka26,some ka27,some ka28,some ka34,some ka36,some ka64,some ka64,some ka47]
def kl127 : AL := [some ka25,some ka26,some ka27,some ka28,some ka34,some ka36,some ka66,some ka66,some ka47]
def kl128 : AL := [some ka25,some ka26,some ka27,some ka28,some ka34,some ka36,some ka39,some ka39,some ka47]
def kl129 : AL := [some ka25,some ka26,some ka27,some ka28,some ka34,some ka36,some ka43,some ka43,some ka47]
def kl130 : AL := [some ka25,some ka26,some ka27,some ka28,some ka34,some ka36,some ka70,some ka70,some ka47]
def kl131 : AL := [some ka25,some ka26,some ka27,some ka28,some ka34,some ka36,some ka72,some ka72,some ka47]
def kl132 : AL := [some ka25,some ka26,some ka27,some ka28,some ka34,some ka36,some ka74,some ka74,some ka47]
def kl133 : AL := [some ka25,some ka26,some ka27,some ka28,some ka34,some ka36,some ka77,some ka77,some ka47]
def kl134 : AL := [some ka25,some ka26,some ka27,some ka28,some ka34,some ka36,some ka79,some ka79,some ka47]
def kl135 : AL := [some ka25,some ka26,some ka27,some ka28,some ka34,some ka36,some ka81,some ka81,some ka47]
def kl136 : AL := [some ka25,some ka26,some ka27,some ka28,some ka34,some ka36,some ka83,some ka83,some ka47]
def kl137 : AL := [some ka25,some ka26,some ka27,some ka28,some ka34,some ka36,some ka85,some ka85,some ka47]
def kl138 : AL := [some ka25,some ka26,some ka27,some ka28,some ka34,some ka36,some ka87,some ka87,some ka47]
def kl139 : AL := [some ka25,some ka26,some ka27,some ka28,some ka34,some ka36,some ka89,some ka89,some ka47]
def CN193_0 : List ND := [(0,(kl11,[],[]),1369,kc2,[1],0),
  (1,(kl11,[ke23],[]),1368,kc2,[2],0),
  (2,(kl11,[ke14,ke23],[]),1367,kc2,[3],0),
  (5,(kl11,[],kf1),1366,kc2,[4],0),
  (6,(kl11,[ke23],kf1),1365,kc2,[5],0),
  (7,(kl11,[ke24,ke23],kf1),1364,kc2,[6],0),
  (8,(kl11,[ke25,ke24,ke23],kf1),1363,kc2,[7],0),
  (9,(kl11,[ke26,ke25,ke24,ke23],kf1),1362,kc2,[8],184),
  (12,(kl11,[ke27],kf1),1361,kc2,[9],0),
  (14,(kl12,[],kf1),1360,kc2,[10],0),
  (15,(kl12,[ke23],kf1),1359,kc2,[11],0),
  (16,(kl12,[ke25,ke23],kf1),1358,kc2,[12],0),
  (17,(kl12,[ke26,ke25,ke23],kf1),1357,kc2,[13],176),
  (20,(kl12,[ke28,ke23],kf1),1356,kc2,[14],0),
  (23,(kl12,[],kf1),1355,kc2,[15],0),
  (25,(kl12,[ke29],kf1),1354,kc2,[16],0),
  (26,(kl12,[ke30,ke29],kf1),1353,kc2,[24,17],0),
  (29,(kl13,[],kf1),1352,kc2,[18],0),
  (31,(kl13,[ke31],kf1),1351,kc2,[19],0),
  (33,(kl13,[ke32,ke31],kf1),1350,kc2,[24,20],0),
  (36,(kl14,[],kf1),1349,kc2,[21],0),
  (37,(kl14,[ke23],kf1),1348,kc2,[22],0),
  (40,(kl14,[ke33],kf1),1347,kc2,[23],0),
  (42,(kl14,[ke34,ke33],kf1),1346,kc2,[25,24],0),
  (45,(kl12,[],kf1),0,kc2,[],0),
  (46,(kl14,[],kf2),1345,kc2,[26],0),
  (47,(kl14,[ke24],kf2),1344,kc2,[27],0),
  (50,(kl14,[ke35],kf2),1343,kc2,[28],0),
  (51,(kl14,[ke26,ke35],kf2),1342,kc2,[29],0),
  (52,(kl14,[ke36],kf2),1341,kc2,[30],0),
  (54,(kl15,[],kf2),1340,kc2,[31],0),
  (55,(kl15,[ke23],kf2),1339,kc2,[32],0),
  (56,(kl15,[ke24,ke23],kf2),1338,kc2,[33],0),
  (58,(kl15,[ke37,ke24,ke23],kf2),1337,kc2,[34],0),
  (59,(kl15,[ke25,ke37,ke24,ke23],kf2),1336,kc2,[35],0),
  (62,(kl15,[ke38,ke37,ke24,ke23],kf2),1335,kc2,[36],0),
  (63,(kl15,[ke23,ke38,ke37,ke24,ke23],kf2),1334,kc2,[37],0),
  (66,(kl15,[ke39,ke38,ke37,ke24,ke23],kf2),1333,kc2,[38],0),
  (68,(kl15,[ke34,ke39,ke38,ke37,ke24,ke23],kf2),1332,kc2,[39],187),
  (71,(kl15,[],kf2),1331,kc2,[40],0),
  (72,(kl15,[ke23],kf2),1330,kc2,[41],0),
  (73,(kl15,[ke25,ke23],kf2),1329,kc2,[42],0),
  (76,(kl15,[ke40,ke23],kf2),1328,kc2,[43],0),
  (77,(kl15,[ke26,ke40,ke23],kf2),1327,kc2,[44],0),
  (78,(kl15,[ke41,ke23],kf2),1326,kc2,[45],0),
  (79,(kl15,[ke42,ke41,ke23],kf2),1325,kc2,[46],0),
  (80,(kl15,[ke43,ke23],kf2),1324,kc2,[47],0),
  (81,(kl15,[ke25,ke43,ke23],kf2),1323,kc2,[48],0),
  (84,(kl15,[ke44,ke43,ke23],kf2),1322,kc2,[49],0),
  (85,(kl15,[ke26,ke44,ke43,ke23],kf2),1321,kc2,[50],0),
  (86,(kl15,[ke5,ke43,ke23],kf2),1320,kc2,[51],0),
  (87,(kl15,[ke13,ke5,ke43,ke23],kf2),1319,kc2,[52],0),
  (88,(kl15,[ke45,ke43,ke23],kf2),1318,kc2,[53],0),
  (89,(kl15,[ke46,ke23],kf2),1317,kc2,[54],0),
  (92,(kl15,[],kf2),1316,kc2,[55],0),
  (93,(kl15,[ke23],kf2),1315,kc2,[56],0),
  (96,(kl15,[ke47],kf2),1314,kc2,[57],0),
  (97,(kl15,[ke23,ke47],kf2),1313,kc2,[58],0),
  (100,(kl15,[ke39,ke47],kf2),1312,kc2,[59],0),
  (102,(kl15,[ke48,ke39,ke47],kf2),1311,kc2,[60],0),
  (103,(kl15,[ke49,ke47],kf2),1310,kc2,[61],0),
  (104,(kl15,[ke23,ke49,ke47],kf2),1309,kc2,[62],0),
  (107,(kl15,[ke50,ke49,ke47],kf2),1308,kc2,[63],0),
  (108,(kl15,[ke51,ke47],kf2),1307,kc2,[64],0)]
def CN193_1 : List ND := [(109,(kl15,[ke5],kf2),1306,kc2,[65],0),
  (111,(kl16,[],kf2),1305,kc2,[66],0),
  (112,(kl16,[ke14],kf2),1304,kc2,[67],0),
  (114,(kl17,[],kf2),1303,kc2,[92],0),
  (114,(kl18,[],kf3),1250,kc2,[93],0),
  (114,(kl19,[],kf4),772,kc2,[94],0),
  (114,(kl20,[],kf5),719,kc2,[95],0),
  (114,(kl21,[],kf6),666,kc2,[96],0),
  (114,(kl22,[],kf7),613,kc2,[97],0),
  (114,(kl23,[],kf8),560,kc2,[98],0),
  (114,(kl24,[],kf9),507,kc2,[99],0),
  (114,(kl25,[],kf10),454,kc2,[100],0),
  (114,(kl26,[],kf11),401,kc2,[101],0),
  (114,(kl27,[],kf12),348,kc2,[102],0),
  (114,(kl28,[],kf13),294,kc2,[103],0),
  (114,(kl29,[],kf14),1196,kc2,[104],0),
  (114,(kl30,[],kf15),241,kc2,[105],0),
  (114,(kl31,[],kf16),188,kc2,[106],0),
  (114,(kl32,[],kf17),134,kc2,[107],0),
  (114,(kl33,[],kf18),82,kc2,[108],0),
  (114,(kl34,[],kf19),29,kc2,[109],0),
  (114,(kl35,[],kf20),1142,kc2,[110],0),
  (114,(kl36,[],kf21),1089,kc2,[111],0),
  (114,(kl37,[],kf22),1036,kc2,[112],0),
  (114,(kl38,[],kf23),983,kc2,[113],0),
  (114,(kl39,[],kf24),930,kc2,[114],0),
  (114,(kl40,[],kf25),878,kc2,[115],0),
  (114,(kl41,[],kf26),825,kc2,[116],0),
  (116,(kl17,[ke52],kf2),1302,kc2,[117],0),
  (116,(kl18,[ke53],kf3),1249,kc2,[118],0),
  (116,(kl19,[ke54],kf4),771,kc2,[119],0),
  (116,(kl20,[ke55],kf5),718,kc2,[120],0),
  (116,(kl21,[ke56],kf6),665,kc2,[121],0),
  (116,(kl22,[ke57],kf7),612,kc2,[122],0),
  (116,(kl23,[ke58],kf8),559,kc2,[123],0),
  (116,(kl24,[ke59],kf9),506,kc2,[124],0),
  (116,(kl25,[ke60],kf10),453,kc2,[125],0),
  (116,(kl26,[ke61],kf11),400,kc2,[126],0),
  (116,(kl27,[ke62],kf12),347,kc2,[127],0),
  (116,(kl28,[ke63],kf13),293,kc2,[128],0),
  (116,(kl29,[ke64],kf14),1195,kc2,[129],0),
  (116,(kl30,[ke65],kf15),240,kc2,[130],0),
  (116,(kl31,[ke66],kf16),187,kc2,[131],0),
  (116,(kl32,[ke67],kf17),133,kc2,[132],0),
  (116,(kl33,[ke68],kf18),81,kc2,[133],0),
  (116,(kl34,[ke69],kf19),28,kc2,[134],0),
  (116,(kl35,[ke70],kf20),1141,kc2,[135],0),
  (116,(kl36,[ke71],kf21),1088,kc2,[136],0),
  (116,(kl37,[ke72],kf22),1035,kc2,[137],0),
  (116,(kl38,[ke73],kf23),982,kc2,[138],0),
  (116,(kl39,[ke74],kf24),929,kc2,[139],0),
  (116,(kl40,[ke75],kf25),877,kc2,[140],0),
  (116,(kl41,[ke76],kf26),824,kc2,[141],0),
  (118,(kl17,[ke77,ke52],kf2),1301,kc2,[1345,142],0),
  (118,(kl18,[ke78,ke53],kf3),1248,kc2,[1346,143],0),
  (118,(kl19,[ke79,ke54],kf4),770,kc2,[1347,144],0),
  (118,(kl20,[ke80,ke55],kf5),717,kc2,[1348,145],0),
  (118,(kl21,[ke81,ke56],kf6),664,kc2,[1349,146],0),
  (118,(kl22,[ke82,ke57],kf7),611,kc2,[1350,147],0),
  (118,(kl23,[ke83,ke58],kf8),558,kc2,[1351,148],0),
  (118,(kl24,[ke84,ke59],kf9),505,kc2,[1352,149],0),
  (118,(kl25,[ke85,ke60],kf10),452,kc2,[1353,150],0),
  (118,(kl26,[ke86,ke61],kf11),399,kc2,[1354,151],0),
  (118,(kl27,[ke87,ke62],kf12),346,kc2,[1355,152],0)]
def CN193_2 : List ND := [(118,(kl28,[ke88,ke63],kf13),292,kc2,[1356,153],0),
  (118,(kl29,[ke89,ke64],kf14),1194,kc2,[1357,154],0),
  (118,(kl30,[ke90,ke65],kf15),239,kc2,[1358,155],0),
  (118,(kl31,[ke91,ke66],kf16),186,kc2,[1359,156],0),
  (118,(kl32,[ke92,ke67],kf17),132,kc2,[1360,157],0),
  (118,(kl33,[ke93,ke68],kf18),80,kc2,[1361,158],0),
  (118,(kl34,[ke94,ke69],kf19),27,kc2,[1362,159],0),
  (118,(kl35,[ke95,ke70],kf20),1140,kc2,[1363,160],0),
  (118,(kl36,[ke96,ke71],kf21),1087,kc2,[1364,161],0),
  (118,(kl37,[ke97,ke72],kf22),1034,kc2,[1365,162],0),
  (118,(kl38,[ke98,ke73],kf23),981,kc2,[1366,163],0),
  (118,(kl39,[ke99,ke74],kf24),928,kc2,[1367,164],0),
  (118,(kl40,[ke100,ke75],kf25),876,kc2,[1368,165],0),
  (118,(kl41,[ke101,ke76],kf26),823,kc2,[1369,166],0),
  (121,(kl42,[],kf2),1299,kc2,[167],0),
  (121,(kl43,[],kf3),1246,kc2,[168],0),
  (121,(kl44,[],kf4),768,kc2,[169],0),
  (121,(kl45,[],kf5),715,kc2,[170],0),
  (121,(kl46,[],kf6),662,kc2,[171],0),
  (121,(kl47,[],kf7),609,kc2,[172],0),
  (121,(kl48,[],kf8),556,kc2,[173],0),
  (121,(kl49,[],kf9),504,kc2,[174],0),
  (121,(kl50,[],kf10),450,kc2,[175],0),
  (121,(kl51,[],kf11),398,kc2,[176],0),
  (121,(kl52,[],kf12),344,kc2,[177],0),
  (121,(kl53,[],kf13),290,kc2,[178],0),
  (121,(kl54,[],kf14),1192,kc2,[179],0),
  (121,(kl55,[],kf15),237,kc2,[180],0),
  (121,(kl56,[],kf16),184,kc2,[181],0),
  (121,(kl57,[],kf17),131,kc2,[182],0),
  (121,(kl58,[],kf18),79,kc2,[183],0),
  (121,(kl59,[],kf19),26,kc2,[184],0),
  (121,(kl60,[],kf20),1138,kc2,[185],0),
  (121,(kl61,[],kf21),1085,kc2,[186],0),
  (121,(kl62,[],kf22),1032,kc2,[187],0),
  (121,(kl63,[],kf23),979,kc2,[188],0),
  (121,(kl64,[],kf24),927,kc2,[189],0),
  (121,(kl65,[],kf25),874,kc2,[190],0),
  (121,(kl66,[],kf26),821,kc2,[191],0),
  (123,(kl42,[ke52],kf2),1298,kc2,[192],0),
  (123,(kl43,[ke53],kf3),1245,kc2,[193],0),
  (123,(kl44,[ke54],kf4),767,kc2,[194],0),
  (123,(kl45,[ke55],kf5),714,kc2,[195],0),
  (123,(kl46,[ke56],kf6),661,kc2,[196],0),
  (123,(kl47,[ke57],kf7),608,kc2,[197],0),
  (123,(kl48,[ke58],kf8),555,kc2,[198],0),
  (123,(kl49,[ke59],kf9),503,kc2,[199],0),
  (123,(kl50,[ke60],kf10),449,kc2,[200],0),
  (123,(kl51,[ke61],kf11),397,kc2,[201],0),
  (123,(kl52,[ke62],kf12),343,kc2,[202],0),
  (123,(kl53,[ke63],kf13),289,kc2,[203],0),
  (123,(kl54,[ke64],kf14),1191,kc2,[204],0),
  (123,(kl55,[ke65],kf15),236,kc2,[205],0),
  (123,(kl56,[ke66],kf16),183,kc2,[206],0),
  (123,(kl57,[ke67],kf17),130,kc2,[207],0),
  (123,(kl58,[ke68],kf18),78,kc2,[208],0),
  (123,(kl59,[ke69],kf19),25,kc2,[209],0),
  (123,(kl60,[ke70],kf20),1137,kc2,[210],0),
  (123,(kl61,[ke71],kf21),1084,kc2,[211],0),
  (123,(kl62,[ke72],kf22),1031,kc2,[212],0),
  (123,(kl63,[ke73],kf23),978,kc2,[213],0),
  (123,(kl64,[ke74],kf24),926,kc2,[214],0),
  (123,(kl65,[ke75],kf25),873,kc2,[215],0),
  (123,(kl66,[ke76],kf26),820,kc2,[216],0)]
def CN193_3 : List ND := [(125,(kl42,[ke32,ke52],kf2),1297,kc2,[217],0),
  (125,(kl43,[ke32,ke53],kf3),1244,kc2,[218],0),
  (125,(kl44,[ke32,ke54],kf4),766,kc2,[219],0),
  (125,(kl45,[ke32,ke55],kf5),713,kc2,[220],0),
  (125,(kl46,[ke32,ke56],kf6),660,kc2,[221],0),
  (125,(kl47,[ke32,ke57],kf7),607,kc2,[222],0),
  (125,(kl48,[ke32,ke58],kf8),554,kc2,[223],0),
  (125,(kl49,[ke32,ke59],kf9),502,kc2,[224],0),
  (125,(kl50,[ke32,ke60],kf10),448,kc2,[225],0),
  (125,(kl51,[ke32,ke61],kf11),396,kc2,[226],0),
  (125,(kl52,[ke32,ke62],kf12),342,kc2,[227],0),
  (125,(kl53,[ke32,ke63],kf13),288,kc2,[228],0),
  (125,(kl54,[ke32,ke64],kf14),1190,kc2,[229],0),
  (125,(kl55,[ke32,ke65],kf15),235,kc2,[230],0),
  (125,(kl56,[ke32,ke66],kf16),182,kc2,[231],0),
  (125,(kl57,[ke32,ke67],kf17),129,kc2,[232],0),
  (125,(kl58,[ke32,ke68],kf18),77,kc2,[233],0),
  (125,(kl59,[ke32,ke69],kf19),24,kc2,[1362],0),
  (125,(kl60,[ke32,ke70],kf20),1136,kc2,[234],0),
  (125,(kl61,[ke32,ke71],kf21),1083,kc2,[235],0),
  (125,(kl62,[ke32,ke72],kf22),1030,kc2,[236],0),
  (125,(kl63,[ke32,ke73],kf23),977,kc2,[237],0),
  (125,(kl64,[ke32,ke74],kf24),925,kc2,[238],0),
  (125,(kl65,[ke32,ke75],kf25),872,kc2,[239],0),
  (125,(kl66,[ke32,ke76],kf26),819,kc2,[240],0),
  (128,(kl42,[],kf2),1296,kc2,[241],0),
  (128,(kl43,[],kf3),1243,kc2,[242],0),
  (128,(kl44,[],kf4),765,kc2,[243],0),
  (128,(kl45,[],kf5),712,kc2,[244],0),
  (128,(kl46,[],kf6),659,kc2,[245],0),
  (128,(kl47,[],kf7),606,kc2,[246],0),
  (128,(kl48,[],kf8),553,kc2,[247],0),
  (128,(kl49,[],kf9),501,kc2,[248],0),
  (128,(kl50,[],kf10),447,kc2,[249],0),
  (128,(kl51,[],kf11),395,kc2,[250],0),
  (128,(kl52,[],kf12),341,kc2,[251],0),
  (128,(kl53,[],kf13),287,kc2,[252],0),
  (128,(kl54,[],kf14),1189,kc2,[253],0),
  (128,(kl55,[],kf15),234,kc2,[254],0),
  (128,(kl56,[],kf16),181,kc2,[255],0),
  (128,(kl57,[],kf17),128,kc2,[256],0),
  (128,(kl58,[],kf18),76,kc2,[257],0),
  (128,(kl60,[],kf20),1135,kc2,[258],0),
  (128,(kl61,[],kf21),1082,kc2,[259],0),
  (128,(kl62,[],kf22),1029,kc2,[260],0),
  (128,(kl63,[],kf23),976,kc2,[261],0),
  (128,(kl64,[],kf24),924,kc2,[262],0),
  (128,(kl65,[],kf25),871,kc2,[263],0),
  (128,(kl66,[],kf26),818,kc2,[264],0),
  (129,(kl42,[ke23],kf2),1295,kc2,[265],0),
  (129,(kl43,[ke23],kf3),1242,kc2,[266],0),
  (129,(kl44,[ke23],kf4),764,kc2,[267],0),
  (129,(kl45,[ke23],kf5),711,kc2,[268],0),
  (129,(kl46,[ke23],kf6),658,kc2,[269],0),
  (129,(kl47,[ke23],kf7),605,kc2,[270],0),
  (129,(kl48,[ke23],kf8),552,kc2,[271],0),
  (129,(kl49,[ke23],kf9),500,kc2,[272],0),
  (129,(kl50,[ke23],kf10),446,kc2,[273],0),
  (129,(kl51,[ke23],kf11),394,kc2,[274],0),
  (129,(kl52,[ke23],kf12),340,kc2,[275],0),
  (129,(kl53,[ke23],kf13),286,kc2,[276],0),
  (129,(kl54,[ke23],kf14),1188,kc2,[277],0),
  (129,(kl55,[ke23],kf15),233,kc2,[278],0),
  (129,(kl56,[ke23],kf16),180,kc2,[279],0)]
def CN193_4 : List ND := [(129,(kl57,[ke23],kf17),127,kc2,[280],0),
  (129,(kl58,[ke23],kf18),75,kc2,[281],0),
  (129,(kl60,[ke23],kf20),1134,kc2,[282],0),
  (129,(kl61,[ke23],kf21),1081,kc2,[283],0),
  (129,(kl62,[ke23],kf22),1028,kc2,[284],0),
  (129,(kl63,[ke23],kf23),975,kc2,[285],0),
  (129,(kl64,[ke23],kf24),923,kc2,[286],0),
  (129,(kl65,[ke23],kf25),870,kc2,[287],0),
  (129,(kl66,[ke23],kf26),817,kc2,[288],0),
  (130,(kl42,[ke24,ke23],kf2),1294,kc2,[289],0),
  (130,(kl43,[ke24,ke23],kf3),1241,kc2,[290],0),
  (130,(kl44,[ke24,ke23],kf4),763,kc2,[291],0),
  (130,(kl45,[ke24,ke23],kf5),710,kc2,[292],0),
  (130,(kl46,[ke24,ke23],kf6),657,kc2,[293],0),
  (130,(kl47,[ke24,ke23],kf7),604,kc2,[294],0),
  (130,(kl48,[ke24,ke23],kf8),551,kc2,[295],0),
  (130,(kl49,[ke24,ke23],kf9),499,kc2,[296],0),
  (130,(kl50,[ke24,ke23],kf10),445,kc2,[297],0),
  (130,(kl51,[ke24,ke23],kf11),393,kc2,[298],0),
  (130,(kl52,[ke24,ke23],kf12),339,kc2,[299],0),
  (130,(kl53,[ke24,ke23],kf13),285,kc2,[300],0),
  (130,(kl54,[ke24,ke23],kf14),1187,kc2,[301],0),
  (130,(kl55,[ke24,ke23],kf15),232,kc2,[302],0),
  (130,(kl56,[ke24,ke23],kf16),179,kc2,[303],0),
  (130,(kl57,[ke24,ke23],kf17),126,kc2,[304],0),
  (130,(kl58,[ke24,ke23],kf18),74,kc2,[305],0),
  (130,(kl60,[ke24,ke23],kf20),1133,kc2,[306],0),
  (130,(kl61,[ke24,ke23],kf21),1080,kc2,[307],0),
  (130,(kl62,[ke24,ke23],kf22),1027,kc2,[308],0),
  (130,(kl63,[ke24,ke23],kf23),974,kc2,[309],0),
  (130,(kl64,[ke24,ke23],kf24),922,kc2,[310],0),
  (130,(kl65,[ke24,ke23],kf25),869,kc2,[311],0),
  (130,(kl66,[ke24,ke23],kf26),816,kc2,[312],0),
  (132,(kl42,[ke37,ke24,ke23],kf2),1293,kc2,[313],0),
  (132,(kl43,[ke37,ke24,ke23],kf3),1240,kc2,[314],0),
  (132,(kl44,[ke37,ke24,ke23],kf4),762,kc2,[315],0),
  (132,(kl45,[ke37,ke24,ke23],kf5),709,kc2,[316],0),
  (132,(kl46,[ke37,ke24,ke23],kf6),656,kc2,[317],0),
  (132,(kl47,[ke37,ke24,ke23],kf7),603,kc2,[318],0),
  (132,(kl48,[ke37,ke24,ke23],kf8),550,kc2,[319],0),
  (132,(kl49,[ke37,ke24,ke23],kf9),498,kc2,[320],0),
  (132,(kl50,[ke37,ke24,ke23],kf10),444,kc2,[321],0),
  (132,(kl51,[ke37,ke24,ke23],kf11),392,kc2,[322],0),
  (132,(kl52,[ke37,ke24,ke23],kf12),338,kc2,[323],0),
  (132,(kl53,[ke37,ke24,ke23],kf13),284,kc2,[324],0),
  (132,(kl54,[ke37,ke24,ke23],kf14),1186,kc2,[325],0),
  (132,(kl55,[ke37,ke24,ke23],kf15),231,kc2,[326],0),
  (132,(kl56,[ke37,ke24,ke23],kf16),178,kc2,[327],0),
  (132,(kl57,[ke37,ke24,ke23],kf17),125,kc2,[328],0),
  (132,(kl58,[ke37,ke24,ke23],kf18),73,kc2,[329],0),
  (132,(kl60,[ke37,ke24,ke23],kf20),1132,kc2,[330],0),
  (132,(kl61,[ke37,ke24,ke23],kf21),1079,kc2,[331],0),
  (132,(kl62,[ke37,ke24,ke23],kf22),1026,kc2,[332],0),
  (132,(kl63,[ke37,ke24,ke23],kf23),973,kc2,[333],0),
  (132,(kl64,[ke37,ke24,ke23],kf24),921,kc2,[334],0),
  (132,(kl65,[ke37,ke24,ke23],kf25),868,kc2,[335],0),
  (132,(kl66,[ke37,ke24,ke23],kf26),815,kc2,[336],0),
  (133,(kl42,[ke25,ke37,ke24,ke23],kf2),1292,kc2,[337],0),
  (133,(kl43,[ke25,ke37,ke24,ke23],kf3),1239,kc2,[338],0),
  (133,(kl44,[ke25,ke37,ke24,ke23],kf4),761,kc2,[339],0),
  (133,(kl45,[ke25,ke37,ke24,ke23],kf5),708,kc2,[340],0),
  (133,(kl46,[ke25,ke37,ke24,ke23],kf6),655,kc2,[341],0),
  (133,(kl47,[ke25,ke37,ke24,ke23],kf7),602,kc2,[342],0),
  (133,(kl48,[ke25,ke37,ke24,ke23],kf8),549,kc2,[343],0)]
def CN193_5 : List ND := [(133,(kl49,[ke25,ke37,ke24,ke23],kf9),497,kc2,[344],0),
  (133,(kl50,[ke25,ke37,ke24,ke23],kf10),443,kc2,[345],0),
  (133,(kl51,[ke25,ke37,ke24,ke23],kf11),391,kc2,[346],0),
  (133,(kl52,[ke25,ke37,ke24,ke23],kf12),337,kc2,[347],0),
  (133,(kl53,[ke25,ke37,ke24,ke23],kf13),283,kc2,[348],0),
  (133,(kl54,[ke25,ke37,ke24,ke23],kf14),1185,kc2,[349],0),
  (133,(kl55,[ke25,ke37,ke24,ke23],kf15),230,kc2,[350],0),
  (133,(kl56,[ke25,ke37,ke24,ke23],kf16),177,kc2,[351],0),
  (133,(kl57,[ke25,ke37,ke24,ke23],kf17),124,kc2,[352],0),
  (133,(kl58,[ke25,ke37,ke24,ke23],kf18),72,kc2,[353],0),
  (133,(kl60,[ke25,ke37,ke24,ke23],kf20),1131,kc2,[354],0),
  (133,(kl61,[ke25,ke37,ke24,ke23],kf21),1078,kc2,[355],0),
  (133,(kl62,[ke25,ke37,ke24,ke23],kf22),1025,kc2,[356],0),
  (133,(kl63,[ke25,ke37,ke24,ke23],kf23),972,kc2,[357],0),
  (133,(kl64,[ke25,ke37,ke24,ke23],kf24),920,kc2,[358],0),
  (133,(kl65,[ke25,ke37,ke24,ke23],kf25),867,kc2,[359],0),
  (133,(kl66,[ke25,ke37,ke24,ke23],kf26),814,kc2,[360],0),
  (136,(kl42,[ke38,ke37,ke24,ke23],kf2),1291,kc2,[361],0),
  (136,(kl43,[ke38,ke37,ke24,ke23],kf3),1238,kc2,[362],0),
  (136,(kl44,[ke38,ke37,ke24,ke23],kf4),760,kc2,[363],0),
  (136,(kl45,[ke38,ke37,ke24,ke23],kf5),707,kc2,[364],0),
  (136,(kl46,[ke38,ke37,ke24,ke23],kf6),654,kc2,[365],0),
  (136,(kl47,[ke38,ke37,ke24,ke23],kf7),601,kc2,[366],0),
  (136,(kl48,[ke38,ke37,ke24,ke23],kf8),548,kc2,[367],0),
  (136,(kl49,[ke38,ke37,ke24,ke23],kf9),496,kc2,[368],0),
  (136,(kl50,[ke38,ke37,ke24,ke23],kf10),442,kc2,[369],0),
  (136,(kl51,[ke38,ke37,ke24,ke23],kf11),390,kc2,[370],0),
  (136,(kl52,[ke38,ke37,ke24,ke23],kf12),336,kc2,[371],0),
  (136,(kl53,[ke38,ke37,ke24,ke23],kf13),282,kc2,[372],0),
  (136,(kl54,[ke38,ke37,ke24,ke23],kf14),1184,kc2,[373],0),
  (136,(kl55,[ke38,ke37,ke24,ke23],kf15),229,kc2,[374],0),
  (136,(kl56,[ke38,ke37,ke24,ke23],kf16),176,kc2,[375],0),
  (136,(kl57,[ke38,ke37,ke24,ke23],kf17),123,kc2,[376],0),
  (136,(kl58,[ke38,ke37,ke24,ke23],kf18),71,kc2,[377],0),
  (136,(kl60,[ke38,ke37,ke24,ke23],kf20),1130,kc2,[378],0),
  (136,(kl61,[ke38,ke37,ke24,ke23],kf21),1077,kc2,[379],0),
  (136,(kl62,[ke38,ke37,ke24,ke23],kf22),1024,kc2,[380],0),
  (136,(kl63,[ke38,ke37,ke24,ke23],kf23),971,kc2,[381],0),
  (136,(kl64,[ke38,ke37,ke24,ke23],kf24),919,kc2,[382],0),
  (136,(kl65,[ke38,ke37,ke24,ke23],kf25),866,kc2,[383],0),
  (136,(kl66,[ke38,ke37,ke24,ke23],kf26),813,kc2,[384],0),
  (138,(kl42,[ke34,ke38,ke37,ke24,ke23],kf2),1290,kc2,[385],192),
  (138,(kl43,[ke34,ke38,ke37,ke24,ke23],kf3),1237,kc2,[386],192),
  (138,(kl44,[ke34,ke38,ke37,ke24,ke23],kf4),759,kc2,[387],192),
  (138,(kl45,[ke34,ke38,ke37,ke24,ke23],kf5),706,kc2,[388],192),
  (138,(kl46,[ke34,ke38,ke37,ke24,ke23],kf6),653,kc2,[389],192),
  (138,(kl47,[ke34,ke38,ke37,ke24,ke23],kf7),600,kc2,[390],192),
  (138,(kl48,[ke34,ke38,ke37,ke24,ke23],kf8),547,kc2,[391],192),
  (138,(kl49,[ke34,ke38,ke37,ke24,ke23],kf9),495,kc2,[392],192),
  (138,(kl50,[ke34,ke38,ke37,ke24,ke23],kf10),441,kc2,[393],192),
  (138,(kl51,[ke34,ke38,ke37,ke24,ke23],kf11),389,kc2,[394],192),
  (138,(kl52,[ke34,ke38,ke37,ke24,ke23],kf12),335,kc2,[395],192),
  (138,(kl53,[ke34,ke38,ke37,ke24,ke23],kf13),281,kc2,[396],192),
  (138,(kl54,[ke34,ke38,ke37,ke24,ke23],kf14),1183,kc2,[397],192),
  (138,(kl55,[ke34,ke38,ke37,ke24,ke23],kf15),228,kc2,[398],192),
  (138,(kl56,[ke34,ke38,ke37,ke24,ke23],kf16),175,kc2,[399],192),
  (138,(kl57,[ke34,ke38,ke37,ke24,ke23],kf17),122,kc2,[400],192),
  (138,(kl58,[ke34,ke38,ke37,ke24,ke23],kf18),70,kc2,[401],192),
  (138,(kl60,[ke34,ke38,ke37,ke24,ke23],kf20),1129,kc2,[402],192),
  (138,(kl61,[ke34,ke38,ke37,ke24,ke23],kf21),1076,kc2,[403],192),
  (138,(kl62,[ke34,ke38,ke37,ke24,ke23],kf22),1023,kc2,[404],192),
  (138,(kl63,[ke34,ke38,ke37,ke24,ke23],kf23),970,kc2,[405],192),
  (138,(kl64,[ke34,ke38,ke37,ke24,ke23],kf24),918,kc2,[406],192),
  (138,(kl65,[ke34,ke38,ke37,ke24,ke23],kf25),865,kc2,[407],192)]
def CN193_6 : List ND := [(138,(kl66,[ke34,ke38,ke37,ke24,ke23],kf26),812,kc2,[408],192),
  (141,(kl42,[ke102],kf2),1289,kc2,[409],0),
  (141,(kl43,[ke102],kf3),1236,kc2,[410],0),
  (141,(kl44,[ke102],kf4),758,kc2,[411],0),
  (141,(kl45,[ke102],kf5),705,kc2,[412],0),
  (141,(kl46,[ke102],kf6),652,kc2,[413],0),
  (141,(kl47,[ke102],kf7),599,kc2,[414],0),
  (141,(kl48,[ke102],kf8),546,kc2,[415],0),
  (141,(kl49,[ke102],kf9),494,kc2,[416],0),
  (141,(kl50,[ke102],kf10),440,kc2,[417],0),
  (141,(kl51,[ke102],kf11),388,kc2,[418],0),
  (141,(kl52,[ke102],kf12),334,kc2,[419],0),
  (141,(kl53,[ke102],kf13),280,kc2,[420],0),
  (141,(kl54,[ke102],kf14),1182,kc2,[421],0),
  (141,(kl55,[ke102],kf15),227,kc2,[422],0),
  (141,(kl56,[ke102],kf16),174,kc2,[423],0),
  (141,(kl57,[ke102],kf17),121,kc2,[424],0),
  (141,(kl58,[ke102],kf18),69,kc2,[425],0),
  (141,(kl60,[ke102],kf20),1128,kc2,[426],0),
  (141,(kl61,[ke102],kf21),1075,kc2,[427],0),
  (141,(kl62,[ke102],kf22),1022,kc2,[428],0),
  (141,(kl63,[ke102],kf23),969,kc2,[429],0),
  (141,(kl64,[ke102],kf24),917,kc2,[430],0),
  (141,(kl65,[ke102],kf25),864,kc2,[431],0),
  (141,(kl66,[ke102],kf26),811,kc2,[432],0),
  (143,(kl67,[],kf2),1288,kc2,[433],0),
  (143,(kl68,[],kf3),1235,kc2,[434],0),
  (143,(kl69,[],kf4),757,kc2,[435],0),
  (143,(kl70,[],kf5),704,kc2,[436],0),
  (143,(kl71,[],kf6),651,kc2,[437],0),
  (143,(kl72,[],kf7),598,kc2,[438],0),
  (143,(kl73,[],kf8),545,kc2,[439],0),
  (143,(kl74,[],kf9),493,kc2,[440],0),
  (143,(kl75,[],kf10),439,kc2,[441],0),
  (143,(kl76,[],kf11),387,kc2,[442],0),
  (143,(kl77,[],kf12),333,kc2,[443],0),
  (143,(kl78,[],kf13),279,kc2,[444],0),
  (143,(kl79,[],kf14),1181,kc2,[445],0),
  (143,(kl80,[],kf15),226,kc2,[446],0),
  (143,(kl81,[],kf16),173,kc2,[447],0),
  (143,(kl82,[],kf17),120,kc2,[448],0),
  (143,(kl83,[],kf18),68,kc2,[449],0),
  (143,(kl84,[],kf20),1127,kc2,[450],0),
  (143,(kl85,[],kf21),1074,kc2,[451],0),
  (143,(kl86,[],kf22),1021,kc2,[452],0),
  (143,(kl87,[],kf23),968,kc2,[453],0),
  (143,(kl88,[],kf24),916,kc2,[454],0),
  (143,(kl89,[],kf25),863,kc2,[455],0),
  (143,(kl90,[],kf26),810,kc2,[456],0),
  (145,(kl67,[ke103],kf2),1287,kc2,[457],0),
  (145,(kl68,[ke103],kf3),1234,kc2,[458],0),
  (145,(kl69,[ke103],kf4),756,kc2,[459],0),
  (145,(kl70,[ke103],kf5),703,kc2,[460],0),
  (145,(kl71,[ke103],kf6),650,kc2,[461],0),
  (145,(kl72,[ke103],kf7),597,kc2,[462],0),
  (145,(kl73,[ke103],kf8),544,kc2,[463],0),
  (145,(kl74,[ke103],kf9),492,kc2,[464],0),
  (145,(kl75,[ke103],kf10),438,kc2,[465],0),
  (145,(kl76,[ke103],kf11),386,kc2,[466],0),
  (145,(kl77,[ke103],kf12),332,kc2,[467],0),
  (145,(kl78,[ke103],kf13),278,kc2,[468],0),
  (145,(kl79,[ke103],kf14),1180,kc2,[469],0),
  (145,(kl80,[ke103],kf15),225,kc2,[470],0),
  (145,(kl81,[ke103],kf16),172,kc2,[471],0)]
def CN193_7 : List ND := [(145,(kl82,[ke103],kf17),119,kc2,[472],0),
  (145,(kl83,[ke103],kf18),67,kc2,[473],0),
  (145,(kl84,[ke103],kf20),1126,kc2,[474],0),
  (145,(kl85,[ke103],kf21),1073,kc2,[475],0),
  (145,(kl86,[ke103],kf22),1020,kc2,[476],0),
  (145,(kl87,[ke103],kf23),967,kc2,[477],0),
  (145,(kl88,[ke103],kf24),915,kc2,[478],0),
  (145,(kl89,[ke103],kf25),862,kc2,[479],0),
  (145,(kl90,[ke103],kf26),809,kc2,[480],0),
  (146,(kl67,[ke30,ke103],kf2),1286,kc2,[505,481],0),
  (146,(kl68,[ke30,ke103],kf3),1233,kc2,[506,482],0),
  (146,(kl69,[ke30,ke103],kf4),755,kc2,[507,483],0),
  (146,(kl70,[ke30,ke103],kf5),702,kc2,[508,484],0),
  (146,(kl71,[ke30,ke103],kf6),649,kc2,[509,485],0),
  (146,(kl72,[ke30,ke103],kf7),596,kc2,[510,486],0),
  (146,(kl73,[ke30,ke103],kf8),543,kc2,[511,487],0),
  (146,(kl74,[ke30,ke103],kf9),491,kc2,[512,488],0),
  (146,(kl75,[ke30,ke103],kf10),437,kc2,[513,489],0),
  (146,(kl76,[ke30,ke103],kf11),385,kc2,[514,490],0),
  (146,(kl77,[ke30,ke103],kf12),331,kc2,[515,491],0),
  (146,(kl78,[ke30,ke103],kf13),277,kc2,[516,492],0),
  (146,(kl79,[ke30,ke103],kf14),1179,kc2,[517,493],0),
  (146,(kl80,[ke30,ke103],kf15),224,kc2,[518,494],0),
  (146,(kl81,[ke30,ke103],kf16),171,kc2,[519,495],0),
  (146,(kl82,[ke30,ke103],kf17),118,kc2,[520,496],0),
  (146,(kl83,[ke30,ke103],kf18),66,kc2,[521,497],0),
  (146,(kl84,[ke30,ke103],kf20),1125,kc2,[522,498],0),
  (146,(kl85,[ke30,ke103],kf21),1072,kc2,[523,499],0),
  (146,(kl86,[ke30,ke103],kf22),1019,kc2,[524,500],0),
  (146,(kl87,[ke30,ke103],kf23),966,kc2,[525,501],0),
  (146,(kl88,[ke30,ke103],kf24),914,kc2,[526,502],0),
  (146,(kl89,[ke30,ke103],kf25),861,kc2,[527,503],0),
  (146,(kl90,[ke30,ke103],kf26),808,kc2,[528,504],0),
  (149,(kl91,[],kf2),1,kc2,[],0),
  (149,(kl92,[],kf3),1232,kc2,[],0),
  (149,(kl93,[],kf4),10,kc2,[],0),
  (149,(kl94,[],kf5),11,kc2,[],0),
  (149,(kl95,[],kf6),12,kc2,[],0),
  (149,(kl96,[],kf7),13,kc2,[],0),
  (149,(kl97,[],kf8),14,kc2,[],0),
  (149,(kl98,[],kf9),490,kc2,[],0),
  (149,(kl99,[],kf10),16,kc2,[],0),
  (149,(kl100,[],kf11),384,kc2,[],0),
  (149,(kl101,[],kf12),330,kc2,[],0),
  (149,(kl102,[],kf13),18,kc2,[],0),
  (149,(kl103,[],kf14),1178,kc2,[],0),
  (149,(kl104,[],kf15),19,kc2,[],0),
  (149,(kl105,[],kf16),170,kc2,[],0),
  (149,(kl106,[],kf17),21,kc2,[],0),
  (149,(kl107,[],kf18),65,kc2,[],0),
  (149,(kl108,[],kf20),2,kc2,[],0),
  (149,(kl109,[],kf21),3,kc2,[],0),
  (149,(kl110,[],kf22),4,kc2,[],0),
  (149,(kl111,[],kf23),5,kc2,[],0),
  (149,(kl112,[],kf24),7,kc2,[],0),
  (149,(kl113,[],kf25),8,kc2,[],0),
  (149,(kl114,[],kf26),9,kc2,[],0),
  (150,(kl115,[],kf2),1285,kc2,[529],0),
  (150,(kl43,[],kf3),1231,kc2,[530],0),
  (150,(kl44,[],kf4),754,kc2,[531],0),
  (150,(kl45,[],kf5),701,kc2,[532],0),
  (150,(kl46,[],kf6),648,kc2,[533],0),
  (150,(kl47,[],kf7),595,kc2,[534],0),
  (150,(kl48,[],kf8),542,kc2,[535],0)]
def CN193_8 : List ND := [(150,(kl49,[],kf9),489,kc2,[536],0),
  (150,(kl50,[],kf10),436,kc2,[537],0),
  (150,(kl51,[],kf11),383,kc2,[538],0),
  (150,(kl52,[],kf12),329,kc2,[539],0),
  (150,(kl53,[],kf13),276,kc2,[540],0),
  (150,(kl54,[],kf14),1177,kc2,[541],0),
  (150,(kl55,[],kf15),223,kc2,[542],0),
  (150,(kl56,[],kf16),169,kc2,[543],0),
  (150,(kl57,[],kf17),117,kc2,[544],0),
  (150,(kl58,[],kf18),64,kc2,[545],0),
  (150,(kl60,[],kf20),1124,kc2,[546],0),
  (150,(kl61,[],kf21),1071,kc2,[547],0),
  (150,(kl62,[],kf22),1018,kc2,[548],0),
  (150,(kl63,[],kf23),965,kc2,[549],0),
  (150,(kl64,[],kf24),913,kc2,[550],0),
  (150,(kl65,[],kf25),860,kc2,[551],0),
  (150,(kl66,[],kf26),807,kc2,[552],0),
  (151,(kl115,[ke23],kf2),1284,kc2,[553],0),
  (151,(kl43,[ke23],kf3),1230,kc2,[554],0),
  (151,(kl44,[ke23],kf4),753,kc2,[555],0),
  (151,(kl45,[ke23],kf5),700,kc2,[556],0),
  (151,(kl46,[ke23],kf6),647,kc2,[557],0),
  (151,(kl47,[ke23],kf7),594,kc2,[558],0),
  (151,(kl48,[ke23],kf8),541,kc2,[559],0),
  (151,(kl49,[ke23],kf9),488,kc2,[560],0),
  (151,(kl50,[ke23],kf10),435,kc2,[561],0),
  (151,(kl51,[ke23],kf11),382,kc2,[562],0),
  (151,(kl52,[ke23],kf12),328,kc2,[563],0),
  (151,(kl53,[ke23],kf13),275,kc2,[564],0),
  (151,(kl54,[ke23],kf14),1176,kc2,[565],0),
  (151,(kl55,[ke23],kf15),222,kc2,[566],0),
  (151,(kl56,[ke23],kf16),168,kc2,[567],0),
  (151,(kl57,[ke23],kf17),116,kc2,[568],0),
  (151,(kl58,[ke23],kf18),63,kc2,[569],0),
  (151,(kl60,[ke23],kf20),1123,kc2,[570],0),
  (151,(kl61,[ke23],kf21),1070,kc2,[571],0),
  (151,(kl62,[ke23],kf22),1017,kc2,[572],0),
  (151,(kl63,[ke23],kf23),964,kc2,[573],0),
  (151,(kl64,[ke23],kf24),912,kc2,[574],0),
  (151,(kl65,[ke23],kf25),859,kc2,[575],0),
  (151,(kl66,[ke23],kf26),806,kc2,[576],0),
  (154,(kl115,[ke104],kf2),1283,kc2,[577],0),
  (154,(kl43,[ke104],kf3),1229,kc2,[578],0),
  (154,(kl44,[ke104],kf4),752,kc2,[579],0),
  (154,(kl45,[ke104],kf5),699,kc2,[580],0),
  (154,(kl46,[ke104],kf6),646,kc2,[581],0),
  (154,(kl47,[ke104],kf7),593,kc2,[582],0),
  (154,(kl48,[ke104],kf8),540,kc2,[583],0),
  (154,(kl49,[ke104],kf9),487,kc2,[584],0),
  (154,(kl50,[ke104],kf10),434,kc2,[585],0),
  (154,(kl51,[ke104],kf11),381,kc2,[586],0),
  (154,(kl52,[ke104],kf12),327,kc2,[587],0),
  (154,(kl53,[ke104],kf13),274,kc2,[588],0),
  (154,(kl54,[ke104],kf14),1175,kc2,[589],0),
  (154,(kl55,[ke104],kf15),221,kc2,[590],0),
  (154,(kl56,[ke104],kf16),167,kc2,[591],0),
  (154,(kl57,[ke104],kf17),115,kc2,[592],0),
  (154,(kl58,[ke104],kf18),62,kc2,[593],0),
  (154,(kl60,[ke104],kf20),1122,kc2,[594],0),
  (154,(kl61,[ke104],kf21),1069,kc2,[595],0),
  (154,(kl62,[ke104],kf22),1016,kc2,[596],0),
  (154,(kl63,[ke104],kf23),963,kc2,[597],0),
  (154,(kl64,[ke104],kf24),911,kc2,[598],0),
  (154,(kl65,[ke104],kf25),858,kc2,[599],0)]
def CN193_9 : List ND := [(154,(kl66,[ke104],kf26),805,kc2,[600],0),
  (155,(kl115,[ke23,ke104],kf2),1282,kc2,[601],0),
  (155,(kl43,[ke23,ke104],kf3),1228,kc2,[602],0),
  (155,(kl44,[ke23,ke104],kf4),751,kc2,[603],0),
  (155,(kl45,[ke23,ke104],kf5),698,kc2,[604],0),
  (155,(kl46,[ke23,ke104],kf6),645,kc2,[605],0),
  (155,(kl47,[ke23,ke104],kf7),592,kc2,[606],0),
  (155,(kl48,[ke23,ke104],kf8),539,kc2,[607],0),
  (155,(kl49,[ke23,ke104],kf9),486,kc2,[608],0),
  (155,(kl50,[ke23,ke104],kf10),433,kc2,[609],0),
  (155,(kl51,[ke23,ke104],kf11),380,kc2,[610],0),
  (155,(kl52,[ke23,ke104],kf12),326,kc2,[611],0),
  (155,(kl53,[ke23,ke104],kf13),273,kc2,[612],0),
  (155,(kl54,[ke23,ke104],kf14),1174,kc2,[613],0),
  (155,(kl55,[ke23,ke104],kf15),220,kc2,[614],0),
  (155,(kl56,[ke23,ke104],kf16),166,kc2,[615],0),
  (155,(kl57,[ke23,ke104],kf17),114,kc2,[616],0),
  (155,(kl58,[ke23,ke104],kf18),61,kc2,[617],0),
  (155,(kl60,[ke23,ke104],kf20),1121,kc2,[618],0),
  (155,(kl61,[ke23,ke104],kf21),1068,kc2,[619],0),
  (155,(kl62,[ke23,ke104],kf22),1015,kc2,[620],0),
  (155,(kl63,[ke23,ke104],kf23),962,kc2,[621],0),
  (155,(kl64,[ke23,ke104],kf24),910,kc2,[622],0),
  (155,(kl65,[ke23,ke104],kf25),857,kc2,[623],0),
  (155,(kl66,[ke23,ke104],kf26),804,kc2,[624],0),
  (158,(kl115,[ke105,ke104],kf2),1281,kc2,[625],0),
  (158,(kl43,[ke106,ke104],kf3),1227,kc2,[626],0),
  (158,(kl44,[ke107,ke104],kf4),750,kc2,[627],0),
  (158,(kl45,[ke108,ke104],kf5),697,kc2,[628],0),
  (158,(kl46,[ke109,ke104],kf6),644,kc2,[629],0),
  (158,(kl47,[ke110,ke104],kf7),591,kc2,[630],0),
  (158,(kl48,[ke111,ke104],kf8),538,kc2,[631],0),
  (158,(kl49,[ke112,ke104],kf9),485,kc2,[632],0),
  (158,(kl50,[ke113,ke104],kf10),432,kc2,[633],0),
  (158,(kl51,[ke114,ke104],kf11),379,kc2,[634],0),
  (158,(kl52,[ke115,ke104],kf12),325,kc2,[635],0),
  (158,(kl53,[ke116,ke104],kf13),272,kc2,[636],0),
  (158,(kl54,[ke117,ke104],kf14),1173,kc2,[637],0),
  (158,(kl55,[ke118,ke104],kf15),219,kc2,[638],0),
  (158,(kl56,[ke119,ke104],kf16),165,kc2,[639],0),
  (158,(kl57,[ke120,ke104],kf17),113,kc2,[640],0),
  (158,(kl58,[ke121,ke104],kf18),60,kc2,[641],0),
  (158,(kl60,[ke122,ke104],kf20),1120,kc2,[642],0),
  (158,(kl61,[ke123,ke104],kf21),1067,kc2,[643],0),
  (158,(kl62,[ke124,ke104],kf22),1014,kc2,[644],0),
  (158,(kl63,[ke125,ke104],kf23),961,kc2,[645],0),
  (158,(kl64,[ke126,ke104],kf24),909,kc2,[646],0),
  (158,(kl65,[ke127,ke104],kf25),856,kc2,[647],0),
  (158,(kl66,[ke128,ke104],kf26),803,kc2,[648],0),
  (160,(kl115,[ke129,ke105,ke104],kf2),1280,kc2,[649],0),
  (160,(kl43,[ke129,ke106,ke104],kf3),1226,kc2,[650],0),
  (160,(kl44,[ke129,ke107,ke104],kf4),749,kc2,[651],0),
  (160,(kl45,[ke129,ke108,ke104],kf5),696,kc2,[652],0),
  (160,(kl46,[ke129,ke109,ke104],kf6),643,kc2,[653],0),
  (160,(kl47,[ke129,ke110,ke104],kf7),590,kc2,[654],0),
  (160,(kl48,[ke129,ke111,ke104],kf8),537,kc2,[655],0),
  (160,(kl49,[ke129,ke112,ke104],kf9),484,kc2,[656],0),
  (160,(kl50,[ke129,ke113,ke104],kf10),431,kc2,[657],0),
  (160,(kl51,[ke129,ke114,ke104],kf11),378,kc2,[658],0),
  (160,(kl52,[ke129,ke115,ke104],kf12),324,kc2,[659],0),
  (160,(kl53,[ke129,ke116,ke104],kf13),271,kc2,[660],0),
  (160,(kl54,[ke129,ke117,ke104],kf14),1172,kc2,[661],0),
  (160,(kl55,[ke129,ke118,ke104],kf15),218,kc2,[662],0),
  (160,(kl56,[ke129,ke119,ke104],kf16),164,kc2,[663],0)]
def CN193_10 : List ND := [(160,(kl57,[ke129,ke120,ke104],kf17),112,kc2,[664],0),
  (160,(kl58,[ke129,ke121,ke104],kf18),59,kc2,[665],0),
  (160,(kl60,[ke129,ke122,ke104],kf20),1119,kc2,[666],0),
  (160,(kl61,[ke129,ke123,ke104],kf21),1066,kc2,[667],0),
  (160,(kl62,[ke129,ke124,ke104],kf22),1013,kc2,[668],0),
  (160,(kl63,[ke129,ke125,ke104],kf23),960,kc2,[669],0),
  (160,(kl64,[ke129,ke126,ke104],kf24),908,kc2,[670],0),
  (160,(kl65,[ke129,ke127,ke104],kf25),855,kc2,[671],0),
  (160,(kl66,[ke129,ke128,ke104],kf26),802,kc2,[672],0),
  (161,(kl115,[],kf2),1279,kc2,[673],0),
  (161,(kl43,[],kf3),1225,kc2,[674],0),
  (161,(kl44,[],kf4),748,kc2,[675],0),
  (161,(kl45,[],kf5),695,kc2,[676],0),
  (161,(kl46,[],kf6),642,kc2,[677],0),
  (161,(kl47,[],kf7),589,kc2,[678],0),
  (161,(kl48,[],kf8),536,kc2,[679],0),
  (161,(kl49,[],kf9),483,kc2,[680],0),
  (161,(kl50,[],kf10),430,kc2,[681],0),
  (161,(kl51,[],kf11),377,kc2,[682],0),
  (161,(kl52,[],kf12),323,kc2,[683],0),
  (161,(kl53,[],kf13),270,kc2,[684],0),
  (161,(kl54,[],kf14),1171,kc2,[685],0),
  (161,(kl55,[],kf15),217,kc2,[686],0),
  (161,(kl56,[],kf16),163,kc2,[687],0),
  (161,(kl57,[],kf17),111,kc2,[688],0),
  (161,(kl58,[],kf18),58,kc2,[689],0),
  (161,(kl60,[],kf20),1118,kc2,[690],0),
  (161,(kl61,[],kf21),1065,kc2,[691],0),
  (161,(kl62,[],kf22),1012,kc2,[692],0),
  (161,(kl63,[],kf23),959,kc2,[693],0),
  (161,(kl64,[],kf24),907,kc2,[694],0),
  (161,(kl65,[],kf25),854,kc2,[695],0),
  (161,(kl66,[],kf26),801,kc2,[696],0),
  (162,(kl115,[ke23],kf2),1278,kc2,[697],0),
  (162,(kl43,[ke23],kf3),1224,kc2,[698],0),
  (162,(kl44,[ke23],kf4),747,kc2,[699],0),
  (162,(kl45,[ke23],kf5),694,kc2,[700],0),
  (162,(kl46,[ke23],kf6),641,kc2,[701],0),
  (162,(kl47,[ke23],kf7),588,kc2,[702],0),
  (162,(kl48,[ke23],kf8),535,kc2,[703],0),
  (162,(kl49,[ke23],kf9),482,kc2,[704],0),
  (162,(kl50,[ke23],kf10),429,kc2,[705],0),
  (162,(kl51,[ke23],kf11),376,kc2,[706],0),
  (162,(kl52,[ke23],kf12),322,kc2,[707],0),
  (162,(kl53,[ke23],kf13),269,kc2,[708],0),
  (162,(kl54,[ke23],kf14),1170,kc2,[709],0),
  (162,(kl55,[ke23],kf15),216,kc2,[710],0),
  (162,(kl56,[ke23],kf16),162,kc2,[711],0),
  (162,(kl57,[ke23],kf17),110,kc2,[712],0),
  (162,(kl58,[ke23],kf18),57,kc2,[713],0),
  (162,(kl60,[ke23],kf20),1117,kc2,[714],0),
  (162,(kl61,[ke23],kf21),1064,kc2,[715],0),
  (162,(kl62,[ke23],kf22),1011,kc2,[716],0),
  (162,(kl63,[ke23],kf23),958,kc2,[717],0),
  (162,(kl64,[ke23],kf24),906,kc2,[718],0),
  (162,(kl65,[ke23],kf25),853,kc2,[719],0),
  (162,(kl66,[ke23],kf26),800,kc2,[720],0),
  (163,(kl115,[ke23,ke23],kf2),1277,kc2,[721],0),
  (163,(kl43,[ke23,ke23],kf3),1223,kc2,[722],0),
  (163,(kl44,[ke23,ke23],kf4),746,kc2,[723],0),
  (163,(kl45,[ke23,ke23],kf5),693,kc2,[724],0),
  (163,(kl46,[ke23,ke23],kf6),640,kc2,[725],0),
  (163,(kl47,[ke23,ke23],kf7),587,kc2,[726],0),
  (163,(kl48,[ke23,ke23],kf8),534,kc2,[727],0)]
def CN193_11 : List ND := [(163,(kl49,[ke23,ke23],kf9),481,kc2,[728],0),
  (163,(kl50,[ke23,ke23],kf10),428,kc2,[729],0),
  (163,(kl51,[ke23,ke23],kf11),375,kc2,[730],0),
  (163,(kl52,[ke23,ke23],kf12),321,kc2,[731],0),
  (163,(kl53,[ke23,ke23],kf13),268,kc2,[732],0),
  (163,(kl54,[ke23,ke23],kf14),1169,kc2,[733],0),
  (163,(kl55,[ke23,ke23],kf15),215,kc2,[734],0),
  (163,(kl56,[ke23,ke23],kf16),161,kc2,[735],0),
  (163,(kl57,[ke23,ke23],kf17),109,kc2,[736],0),
  (163,(kl58,[ke23,ke23],kf18),56,kc2,[737],0),
  (163,(kl60,[ke23,ke23],kf20),1116,kc2,[738],0),
  (163,(kl61,[ke23,ke23],kf21),1063,kc2,[739],0),
  (163,(kl62,[ke23,ke23],kf22),1010,kc2,[740],0),
  (163,(kl63,[ke23,ke23],kf23),957,kc2,[741],0),
  (163,(kl64,[ke23,ke23],kf24),905,kc2,[742],0),
  (163,(kl65,[ke23,ke23],kf25),852,kc2,[743],0),
  (163,(kl66,[ke23,ke23],kf26),799,kc2,[744],0),
  (166,(kl115,[ke105,ke23],kf2),1276,kc2,[745],0),
  (166,(kl43,[ke106,ke23],kf3),1222,kc2,[746],0),
  (166,(kl44,[ke107,ke23],kf4),745,kc2,[747],0),
  (166,(kl45,[ke108,ke23],kf5),692,kc2,[748],0),
  (166,(kl46,[ke109,ke23],kf6),639,kc2,[749],0),
  (166,(kl47,[ke110,ke23],kf7),586,kc2,[750],0),
  (166,(kl48,[ke111,ke23],kf8),533,kc2,[751],0),
  (166,(kl49,[ke112,ke23],kf9),480,kc2,[752],0),
  (166,(kl50,[ke113,ke23],kf10),427,kc2,[753],0),
  (166,(kl51,[ke114,ke23],kf11),374,kc2,[754],0),
  (166,(kl52,[ke115,ke23],kf12),320,kc2,[755],0),
  (166,(kl53,[ke116,ke23],kf13),267,kc2,[756],0),
  (166,(kl54,[ke117,ke23],kf14),1168,kc2,[757],0),
  (166,(kl55,[ke118,ke23],kf15),214,kc2,[758],0),
  (166,(kl56,[ke119,ke23],kf16),160,kc2,[759],0),
  (166,(kl57,[ke120,ke23],kf17),108,kc2,[760],0),
  (166,(kl58,[ke121,ke23],kf18),55,kc2,[761],0),
  (166,(kl60,[ke122,ke23],kf20),1115,kc2,[762],0),
  (166,(kl61,[ke123,ke23],kf21),1062,kc2,[763],0),
  (166,(kl62,[ke124,ke23],kf22),1009,kc2,[764],0),
  (166,(kl63,[ke125,ke23],kf23),956,kc2,[765],0),
  (166,(kl64,[ke126,ke23],kf24),904,kc2,[766],0),
  (166,(kl65,[ke127,ke23],kf25),851,kc2,[767],0),
  (166,(kl66,[ke128,ke23],kf26),798,kc2,[768],0),
  (167,(kl115,[ke13,ke105,ke23],kf2),1275,kc2,[769],0),
  (167,(kl43,[ke13,ke106,ke23],kf3),1221,kc2,[770],0),
  (167,(kl44,[ke13,ke107,ke23],kf4),744,kc2,[771],0),
  (167,(kl45,[ke13,ke108,ke23],kf5),691,kc2,[772],0),
  (167,(kl46,[ke13,ke109,ke23],kf6),638,kc2,[773],0),
  (167,(kl47,[ke13,ke110,ke23],kf7),585,kc2,[774],0),
  (167,(kl48,[ke13,ke111,ke23],kf8),532,kc2,[775],0),
  (167,(kl49,[ke13,ke112,ke23],kf9),479,kc2,[776],0),
  (167,(kl50,[ke13,ke113,ke23],kf10),426,kc2,[777],0),
  (167,(kl51,[ke13,ke114,ke23],kf11),373,kc2,[778],0),
  (167,(kl52,[ke13,ke115,ke23],kf12),319,kc2,[779],0),
  (167,(kl53,[ke13,ke116,ke23],kf13),266,kc2,[780],0),
  (167,(kl54,[ke13,ke117,ke23],kf14),1167,kc2,[781],0),
  (167,(kl55,[ke13,ke118,ke23],kf15),213,kc2,[782],0),
  (167,(kl56,[ke13,ke119,ke23],kf16),159,kc2,[783],0),
  (167,(kl57,[ke13,ke120,ke23],kf17),107,kc2,[784],0),
  (167,(kl58,[ke13,ke121,ke23],kf18),54,kc2,[785],0),
  (167,(kl60,[ke13,ke122,ke23],kf20),1114,kc2,[786],0),
  (167,(kl61,[ke13,ke123,ke23],kf21),1061,kc2,[787],0),
  (167,(kl62,[ke13,ke124,ke23],kf22),1008,kc2,[788],0),
  (167,(kl63,[ke13,ke125,ke23],kf23),955,kc2,[789],0),
  (167,(kl64,[ke13,ke126,ke23],kf24),903,kc2,[790],0),
  (167,(kl65,[ke13,ke127,ke23],kf25),850,kc2,[791],0)]
def CN193_12 : List ND := [(167,(kl66,[ke13,ke128,ke23],kf26),797,kc2,[792],0),
  (168,(kl115,[ke13,ke23],kf2),1274,kc2,[793],0),
  (168,(kl43,[ke42,ke23],kf3),1220,kc2,[794],0),
  (168,(kl44,[ke130,ke23],kf4),743,kc2,[795],0),
  (168,(kl45,[ke131,ke23],kf5),690,kc2,[796],0),
  (168,(kl46,[ke132,ke23],kf6),637,kc2,[797],0),
  (168,(kl47,[ke133,ke23],kf7),584,kc2,[798],0),
  (168,(kl48,[ke134,ke23],kf8),531,kc2,[799],0),
  (168,(kl49,[ke135,ke23],kf9),478,kc2,[800],0),
  (168,(kl50,[ke136,ke23],kf10),425,kc2,[801],0),
  (168,(kl51,[ke137,ke23],kf11),372,kc2,[802],0),
  (168,(kl52,[ke138,ke23],kf12),318,kc2,[803],0),
  (168,(kl53,[ke48,ke23],kf13),265,kc2,[804],0),
  (168,(kl54,[ke139,ke23],kf14),1166,kc2,[805],0),
  (168,(kl55,[ke140,ke23],kf15),212,kc2,[806],0),
  (168,(kl56,[ke141,ke23],kf16),158,kc2,[807],0),
  (168,(kl57,[ke142,ke23],kf17),106,kc2,[808],0),
  (168,(kl58,[ke32,ke23],kf18),53,kc2,[809],0),
  (168,(kl60,[ke143,ke23],kf20),1113,kc2,[810],0),
  (168,(kl61,[ke144,ke23],kf21),1060,kc2,[811],0),
  (168,(kl62,[ke145,ke23],kf22),1007,kc2,[812],0),
  (168,(kl63,[ke146,ke23],kf23),954,kc2,[813],0),
  (168,(kl64,[ke147,ke23],kf24),902,kc2,[814],0),
  (168,(kl65,[ke148,ke23],kf25),849,kc2,[815],0),
  (168,(kl66,[ke9,ke23],kf26),796,kc2,[816],0),
  (171,(kl115,[],kf27),1273,kc2,[817],0),
  (171,(kl43,[],kf14),1219,kc2,[818],0),
  (171,(kl44,[],kf5),742,kc2,[819],0),
  (171,(kl45,[],kf6),689,kc2,[820],0),
  (171,(kl46,[],kf7),636,kc2,[821],0),
  (171,(kl47,[],kf8),583,kc2,[822],0),
  (171,(kl48,[],kf9),530,kc2,[823],0),
  (171,(kl49,[],kf10),477,kc2,[824],0),
  (171,(kl50,[],kf11),424,kc2,[825],0),
  (171,(kl51,[],kf12),371,kc2,[826],0),
  (171,(kl52,[],kf13),317,kc2,[827],0),
  (171,(kl53,[],kf15),264,kc2,[828],0),
  (171,(kl54,[],kf20),1165,kc2,[829],0),
  (171,(kl55,[],kf16),211,kc2,[830],0),
  (171,(kl56,[],kf17),157,kc2,[831],0),
  (171,(kl57,[],kf18),105,kc2,[832],0),
  (171,(kl58,[],kf19),52,kc2,[833],0),
  (171,(kl60,[],kf21),1112,kc2,[834],0),
  (171,(kl61,[],kf22),1059,kc2,[835],0),
  (171,(kl62,[],kf23),1006,kc2,[836],0),
  (171,(kl63,[],kf24),953,kc2,[837],0),
  (171,(kl64,[],kf25),901,kc2,[838],0),
  (171,(kl65,[],kf26),848,kc2,[839],0),
  (171,(kl66,[],kf4),795,kc2,[840],0),
  (172,(kl115,[ke23],kf27),1272,kc2,[841],0),
  (172,(kl43,[ke23],kf14),1218,kc2,[842],0),
  (172,(kl44,[ke23],kf5),741,kc2,[843],0),
  (172,(kl45,[ke23],kf6),688,kc2,[844],0),
  (172,(kl46,[ke23],kf7),635,kc2,[845],0),
  (172,(kl47,[ke23],kf8),582,kc2,[846],0),
  (172,(kl48,[ke23],kf9),529,kc2,[847],0),
  (172,(kl49,[ke23],kf10),476,kc2,[848],0),
  (172,(kl50,[ke23],kf11),423,kc2,[849],0),
  (172,(kl51,[ke23],kf12),370,kc2,[850],0),
  (172,(kl52,[ke23],kf13),316,kc2,[851],0),
  (172,(kl53,[ke23],kf15),263,kc2,[852],0),
  (172,(kl54,[ke23],kf20),1164,kc2,[853],0),
  (172,(kl55,[ke23],kf16),210,kc2,[854],0),
  (172,(kl56,[ke23],kf17),156,kc2,[855],0)]
def CN193_13 : List ND := [(172,(kl57,[ke23],kf18),104,kc2,[856],0),
  (172,(kl58,[ke23],kf19),51,kc2,[857],0),
  (172,(kl60,[ke23],kf21),1111,kc2,[858],0),
  (172,(kl61,[ke23],kf22),1058,kc2,[859],0),
  (172,(kl62,[ke23],kf23),1005,kc2,[860],0),
  (172,(kl63,[ke23],kf24),952,kc2,[861],0),
  (172,(kl64,[ke23],kf25),900,kc2,[862],0),
  (172,(kl65,[ke23],kf26),847,kc2,[863],0),
  (172,(kl66,[ke23],kf4),794,kc2,[864],0),
  (173,(kl115,[ke23,ke23],kf27),1271,kc2,[865],0),
  (173,(kl43,[ke23,ke23],kf14),1217,kc2,[866],0),
  (173,(kl44,[ke23,ke23],kf5),740,kc2,[867],0),
  (173,(kl45,[ke23,ke23],kf6),687,kc2,[868],0),
  (173,(kl46,[ke23,ke23],kf7),634,kc2,[869],0),
  (173,(kl47,[ke23,ke23],kf8),581,kc2,[870],0),
  (173,(kl48,[ke23,ke23],kf9),528,kc2,[871],0),
  (173,(kl49,[ke23,ke23],kf10),475,kc2,[872],0),
  (173,(kl50,[ke23,ke23],kf11),422,kc2,[873],0),
  (173,(kl51,[ke23,ke23],kf12),369,kc2,[874],0),
  (173,(kl52,[ke23,ke23],kf13),315,kc2,[875],0),
  (173,(kl53,[ke23,ke23],kf15),262,kc2,[876],0),
  (173,(kl54,[ke23,ke23],kf20),1163,kc2,[877],0),
  (173,(kl55,[ke23,ke23],kf16),209,kc2,[878],0),
  (173,(kl56,[ke23,ke23],kf17),155,kc2,[879],0),
  (173,(kl57,[ke23,ke23],kf18),103,kc2,[880],0),
  (173,(kl58,[ke23,ke23],kf19),50,kc2,[881],0),
  (173,(kl60,[ke23,ke23],kf21),1110,kc2,[882],0),
  (173,(kl61,[ke23,ke23],kf22),1057,kc2,[883],0),
  (173,(kl62,[ke23,ke23],kf23),1004,kc2,[884],0),
  (173,(kl63,[ke23,ke23],kf24),951,kc2,[885],0),
  (173,(kl64,[ke23,ke23],kf25),899,kc2,[886],0),
  (173,(kl65,[ke23,ke23],kf26),846,kc2,[887],0),
  (173,(kl66,[ke23,ke23],kf4),793,kc2,[888],0),
  (174,(kl115,[ke24,ke23,ke23],kf27),1270,kc2,[889],0),
  (174,(kl43,[ke24,ke23,ke23],kf14),1216,kc2,[890],0),
  (174,(kl44,[ke24,ke23,ke23],kf5),739,kc2,[891],0),
  (174,(kl45,[ke24,ke23,ke23],kf6),686,kc2,[892],0),
  (174,(kl46,[ke24,ke23,ke23],kf7),633,kc2,[893],0),
  (174,(kl47,[ke24,ke23,ke23],kf8),580,kc2,[894],0),
  (174,(kl48,[ke24,ke23,ke23],kf9),527,kc2,[895],0),
  (174,(kl49,[ke24,ke23,ke23],kf10),474,kc2,[896],0),
  (174,(kl50,[ke24,ke23,ke23],kf11),421,kc2,[897],0),
  (174,(kl51,[ke24,ke23,ke23],kf12),368,kc2,[898],0),
  (174,(kl52,[ke24,ke23,ke23],kf13),314,kc2,[899],0),
  (174,(kl53,[ke24,ke23,ke23],kf15),261,kc2,[900],0),
  (174,(kl54,[ke24,ke23,ke23],kf20),1162,kc2,[901],0),
  (174,(kl55,[ke24,ke23,ke23],kf16),208,kc2,[902],0),
  (174,(kl56,[ke24,ke23,ke23],kf17),154,kc2,[903],0),
  (174,(kl57,[ke24,ke23,ke23],kf18),102,kc2,[904],0),
  (174,(kl58,[ke24,ke23,ke23],kf19),49,kc2,[905],0),
  (174,(kl60,[ke24,ke23,ke23],kf21),1109,kc2,[906],0),
  (174,(kl61,[ke24,ke23,ke23],kf22),1056,kc2,[907],0),
  (174,(kl62,[ke24,ke23,ke23],kf23),1003,kc2,[908],0),
  (174,(kl63,[ke24,ke23,ke23],kf24),950,kc2,[909],0),
  (174,(kl64,[ke24,ke23,ke23],kf25),898,kc2,[910],0),
  (174,(kl65,[ke24,ke23,ke23],kf26),845,kc2,[911],0),
  (174,(kl66,[ke24,ke23,ke23],kf4),792,kc2,[912],0),
  (176,(kl115,[ke37,ke24,ke23,ke23],kf27),1269,kc2,[913],0),
  (176,(kl43,[ke37,ke24,ke23,ke23],kf14),1215,kc2,[914],0),
  (176,(kl44,[ke37,ke24,ke23,ke23],kf5),738,kc2,[915],0),
  (176,(kl45,[ke37,ke24,ke23,ke23],kf6),685,kc2,[916],0),
  (176,(kl46,[ke37,ke24,ke23,ke23],kf7),632,kc2,[917],0),
  (176,(kl47,[ke37,ke24,ke23,ke23],kf8),579,kc2,[918],0),
  (176,(kl48,[ke37,ke24,ke23,ke23],kf9),526,kc2,[919],0)]
def CN193_14 : List ND := [(176,(kl49,[ke37,ke24,ke23,ke23],kf10),473,kc2,[920],0),
  (176,(kl50,[ke37,ke24,ke23,ke23],kf11),420,kc2,[921],0),
  (176,(kl51,[ke37,ke24,ke23,ke23],kf12),367,kc2,[922],0),
  (176,(kl52,[ke37,ke24,ke23,ke23],kf13),313,kc2,[923],0),
  (176,(kl53,[ke37,ke24,ke23,ke23],kf15),260,kc2,[924],0),
  (176,(kl54,[ke37,ke24,ke23,ke23],kf20),1161,kc2,[925],0),
  (176,(kl55,[ke37,ke24,ke23,ke23],kf16),207,kc2,[926],0),
  (176,(kl56,[ke37,ke24,ke23,ke23],kf17),153,kc2,[927],0),
  (176,(kl57,[ke37,ke24,ke23,ke23],kf18),101,kc2,[928],0),
  (176,(kl58,[ke37,ke24,ke23,ke23],kf19),48,kc2,[929],0),
  (176,(kl60,[ke37,ke24,ke23,ke23],kf21),1108,kc2,[930],0),
  (176,(kl61,[ke37,ke24,ke23,ke23],kf22),1055,kc2,[931],0),
  (176,(kl62,[ke37,ke24,ke23,ke23],kf23),1002,kc2,[932],0),
  (176,(kl63,[ke37,ke24,ke23,ke23],kf24),949,kc2,[933],0),
  (176,(kl64,[ke37,ke24,ke23,ke23],kf25),897,kc2,[934],0),
  (176,(kl65,[ke37,ke24,ke23,ke23],kf26),844,kc2,[935],0),
  (176,(kl66,[ke37,ke24,ke23,ke23],kf4),791,kc2,[936],0),
  (179,(kl115,[ke149,ke24,ke23,ke23],kf27),1268,kc2,[937],0),
  (179,(kl43,[ke149,ke24,ke23,ke23],kf14),1214,kc2,[938],0),
  (179,(kl44,[ke149,ke24,ke23,ke23],kf5),737,kc2,[939],0),
  (179,(kl45,[ke149,ke24,ke23,ke23],kf6),684,kc2,[940],0),
  (179,(kl46,[ke149,ke24,ke23,ke23],kf7),631,kc2,[941],0),
  (179,(kl47,[ke149,ke24,ke23,ke23],kf8),578,kc2,[942],0),
  (179,(kl48,[ke149,ke24,ke23,ke23],kf9),525,kc2,[943],0),
  (179,(kl49,[ke149,ke24,ke23,ke23],kf10),472,kc2,[944],0),
  (179,(kl50,[ke149,ke24,ke23,ke23],kf11),419,kc2,[945],0),
  (179,(kl51,[ke149,ke24,ke23,ke23],kf12),366,kc2,[946],0),
  (179,(kl52,[ke149,ke24,ke23,ke23],kf13),312,kc2,[947],0),
  (179,(kl53,[ke149,ke24,ke23,ke23],kf15),259,kc2,[948],0),
  (179,(kl54,[ke149,ke24,ke23,ke23],kf20),1160,kc2,[949],0),
  (179,(kl55,[ke149,ke24,ke23,ke23],kf16),206,kc2,[950],0),
  (179,(kl56,[ke149,ke24,ke23,ke23],kf17),152,kc2,[951],0),
  (179,(kl57,[ke149,ke24,ke23,ke23],kf18),100,kc2,[952],0),
  (179,(kl58,[ke149,ke24,ke23,ke23],kf19),47,kc2,[953],0),
  (179,(kl60,[ke149,ke24,ke23,ke23],kf21),1107,kc2,[954],0),
  (179,(kl61,[ke149,ke24,ke23,ke23],kf22),1054,kc2,[955],0),
  (179,(kl62,[ke149,ke24,ke23,ke23],kf23),1001,kc2,[956],0),
  (179,(kl63,[ke149,ke24,ke23,ke23],kf24),948,kc2,[957],0),
  (179,(kl64,[ke149,ke24,ke23,ke23],kf25),896,kc2,[958],0),
  (179,(kl65,[ke149,ke24,ke23,ke23],kf26),843,kc2,[959],0),
  (179,(kl66,[ke149,ke24,ke23,ke23],kf4),790,kc2,[960],0),
  (180,(kl115,[ke25,ke149,ke24,ke23,ke23],kf27),1267,kc2,[961],0),
  (180,(kl43,[ke25,ke149,ke24,ke23,ke23],kf14),1213,kc2,[962],0),
  (180,(kl44,[ke25,ke149,ke24,ke23,ke23],kf5),736,kc2,[963],0),
  (180,(kl45,[ke25,ke149,ke24,ke23,ke23],kf6),683,kc2,[964],0),
  (180,(kl46,[ke25,ke149,ke24,ke23,ke23],kf7),630,kc2,[965],0),
  (180,(kl47,[ke25,ke149,ke24,ke23,ke23],kf8),577,kc2,[966],0),
  (180,(kl48,[ke25,ke149,ke24,ke23,ke23],kf9),524,kc2,[967],0),
  (180,(kl49,[ke25,ke149,ke24,ke23,ke23],kf10),471,kc2,[968],0),
  (180,(kl50,[ke25,ke149,ke24,ke23,ke23],kf11),418,kc2,[969],0),
  (180,(kl51,[ke25,ke149,ke24,ke23,ke23],kf12),365,kc2,[970],0),
  (180,(kl52,[ke25,ke149,ke24,ke23,ke23],kf13),311,kc2,[971],0),
  (180,(kl53,[ke25,ke149,ke24,ke23,ke23],kf15),258,kc2,[972],0),
  (180,(kl54,[ke25,ke149,ke24,ke23,ke23],kf20),1159,kc2,[973],0),
  (180,(kl55,[ke25,ke149,ke24,ke23,ke23],kf16),205,kc2,[974],0),
  (180,(kl56,[ke25,ke149,ke24,ke23,ke23],kf17),151,kc2,[975],0),
  (180,(kl57,[ke25,ke149,ke24,ke23,ke23],kf18),99,kc2,[976],0),
  (180,(kl58,[ke25,ke149,ke24,ke23,ke23],kf19),46,kc2,[977],0),
  (180,(kl60,[ke25,ke149,ke24,ke23,ke23],kf21),1106,kc2,[978],0),
  (180,(kl61,[ke25,ke149,ke24,ke23,ke23],kf22),1053,kc2,[979],0),
  (180,(kl62,[ke25,ke149,ke24,ke23,ke23],kf23),1000,kc2,[980],0),
  (180,(kl63,[ke25,ke149,ke24,ke23,ke23],kf24),947,kc2,[981],0),
  (180,(kl64,[ke25,ke149,ke24,ke23,ke23],kf25),895,kc2,[982],0),
  (180,(kl65,[ke25,ke149,ke24,ke23,ke23],kf26),842,kc2,[983],0)]
def CN193_15 : List ND := [(180,(kl66,[ke25,ke149,ke24,ke23,ke23],kf4),789,kc2,[984],0),
  (183,(kl115,[ke38,ke149,ke24,ke23,ke23],kf27),1266,kc2,[985],0),
  (183,(kl43,[ke38,ke149,ke24,ke23,ke23],kf14),1212,kc2,[986],0),
  (183,(kl44,[ke38,ke149,ke24,ke23,ke23],kf5),735,kc2,[987],0),
  (183,(kl45,[ke38,ke149,ke24,ke23,ke23],kf6),682,kc2,[988],0),
  (183,(kl46,[ke38,ke149,ke24,ke23,ke23],kf7),629,kc2,[989],0),
  (183,(kl47,[ke38,ke149,ke24,ke23,ke23],kf8),576,kc2,[990],0),
  (183,(kl48,[ke38,ke149,ke24,ke23,ke23],kf9),523,kc2,[991],0),
  (183,(kl49,[ke38,ke149,ke24,ke23,ke23],kf10),470,kc2,[992],0),
  (183,(kl50,[ke38,ke149,ke24,ke23,ke23],kf11),417,kc2,[993],0),
  (183,(kl51,[ke38,ke149,ke24,ke23,ke23],kf12),364,kc2,[994],0),
  (183,(kl52,[ke38,ke149,ke24,ke23,ke23],kf13),310,kc2,[995],0),
  (183,(kl53,[ke38,ke149,ke24,ke23,ke23],kf15),257,kc2,[996],0),
  (183,(kl54,[ke38,ke149,ke24,ke23,ke23],kf20),1158,kc2,[997],0),
  (183,(kl55,[ke38,ke149,ke24,ke23,ke23],kf16),204,kc2,[998],0),
  (183,(kl56,[ke38,ke149,ke24,ke23,ke23],kf17),150,kc2,[999],0),
  (183,(kl57,[ke38,ke149,ke24,ke23,ke23],kf18),98,kc2,[1000],0),
  (183,(kl58,[ke38,ke149,ke24,ke23,ke23],kf19),45,kc2,[1001],0),
  (183,(kl60,[ke38,ke149,ke24,ke23,ke23],kf21),1105,kc2,[1002],0),
  (183,(kl61,[ke38,ke149,ke24,ke23,ke23],kf22),1052,kc2,[1003],0),
  (183,(kl62,[ke38,ke149,ke24,ke23,ke23],kf23),999,kc2,[1004],0),
  (183,(kl63,[ke38,ke149,ke24,ke23,ke23],kf24),946,kc2,[1005],0),
  (183,(kl64,[ke38,ke149,ke24,ke23,ke23],kf25),894,kc2,[1006],0),
  (183,(kl65,[ke38,ke149,ke24,ke23,ke23],kf26),841,kc2,[1007],0),
  (183,(kl66,[ke38,ke149,ke24,ke23,ke23],kf4),788,kc2,[1008],0),
  (185,(kl115,[ke129,ke38,ke149,ke24,ke23,ke23],kf27),1265,kc2,[1009],0),
  (185,(kl43,[ke129,ke38,ke149,ke24,ke23,ke23],kf14),1211,kc2,[1010],0),
  (185,(kl44,[ke129,ke38,ke149,ke24,ke23,ke23],kf5),734,kc2,[1011],0),
  (185,(kl45,[ke129,ke38,ke149,ke24,ke23,ke23],kf6),681,kc2,[1012],0),
  (185,(kl46,[ke129,ke38,ke149,ke24,ke23,ke23],kf7),628,kc2,[1013],0),
  (185,(kl47,[ke129,ke38,ke149,ke24,ke23,ke23],kf8),575,kc2,[1014],0),
  (185,(kl48,[ke129,ke38,ke149,ke24,ke23,ke23],kf9),522,kc2,[1015],0),
  (185,(kl49,[ke129,ke38,ke149,ke24,ke23,ke23],kf10),469,kc2,[1016],0),
  (185,(kl50,[ke129,ke38,ke149,ke24,ke23,ke23],kf11),416,kc2,[1017],0),
  (185,(kl51,[ke129,ke38,ke149,ke24,ke23,ke23],kf12),363,kc2,[1018],0),
  (185,(kl52,[ke129,ke38,ke149,ke24,ke23,ke23],kf13),309,kc2,[1019],0),
  (185,(kl53,[ke129,ke38,ke149,ke24,ke23,ke23],kf15),256,kc2,[1020],0),
  (185,(kl54,[ke129,ke38,ke149,ke24,ke23,ke23],kf20),1157,kc2,[1021],0),
  (185,(kl55,[ke129,ke38,ke149,ke24,ke23,ke23],kf16),203,kc2,[1022],0),
  (185,(kl56,[ke129,ke38,ke149,ke24,ke23,ke23],kf17),149,kc2,[1023],0),
  (185,(kl57,[ke129,ke38,ke149,ke24,ke23,ke23],kf18),97,kc2,[1024],0),
  (185,(kl58,[ke129,ke38,ke149,ke24,ke23,ke23],kf19),44,kc2,[1025],0),
  (185,(kl60,[ke129,ke38,ke149,ke24,ke23,ke23],kf21),1104,kc2,[1026],0),
  (185,(kl61,[ke129,ke38,ke149,ke24,ke23,ke23],kf22),1051,kc2,[1027],0),
  (185,(kl62,[ke129,ke38,ke149,ke24,ke23,ke23],kf23),998,kc2,[1028],0),
  (185,(kl63,[ke129,ke38,ke149,ke24,ke23,ke23],kf24),945,kc2,[1029],0),
  (185,(kl64,[ke129,ke38,ke149,ke24,ke23,ke23],kf25),893,kc2,[1030],0),
  (185,(kl65,[ke129,ke38,ke149,ke24,ke23,ke23],kf26),840,kc2,[1031],0),
  (185,(kl66,[ke129,ke38,ke149,ke24,ke23,ke23],kf4),787,kc2,[1032],0),
  (187,(kl115,[ke34,ke129,ke38,ke149,ke24,ke23,ke23],kf27),1264,kc2,[1033],190),
  (187,(kl43,[ke34,ke129,ke38,ke149,ke24,ke23,ke23],kf14),1210,kc2,[1034],190),
  (187,(kl44,[ke34,ke129,ke38,ke149,ke24,ke23,ke23],kf5),733,kc2,[1035],190),
  (187,(kl45,[ke34,ke129,ke38,ke149,ke24,ke23,ke23],kf6),680,kc2,[1036],190),
  (187,(kl46,[ke34,ke129,ke38,ke149,ke24,ke23,ke23],kf7),627,kc2,[1037],190),
  (187,(kl47,[ke34,ke129,ke38,ke149,ke24,ke23,ke23],kf8),574,kc2,[1038],190),
  (187,(kl48,[ke34,ke129,ke38,ke149,ke24,ke23,ke23],kf9),521,kc2,[1039],190),
  (187,(kl49,[ke34,ke129,ke38,ke149,ke24,ke23,ke23],kf10),468,kc2,[1040],190),
  (187,(kl50,[ke34,ke129,ke38,ke149,ke24,ke23,ke23],kf11),415,kc2,[1041],190),
  (187,(kl51,[ke34,ke129,ke38,ke149,ke24,ke23,ke23],kf12),362,kc2,[1042],190),
  (187,(kl52,[ke34,ke129,ke38,ke149,ke24,ke23,ke23],kf13),308,kc2,[1043],190),
  (187,(kl53,[ke34,ke129,ke38,ke149,ke24,ke23,ke23],kf15),255,kc2,[1044],190),
  (187,(kl54,[ke34,ke129,ke38,ke149,ke24,ke23,ke23],kf20),1156,kc2,[1045],190),
  (187,(kl55,[ke34,ke129,ke38,ke149,ke24,ke23,ke23],kf16),202,kc2,[1046],190),
  (187,(kl56,[ke34,ke129,ke38,ke149,ke24,ke23,ke23],kf17),148,kc2,[1047],190)]
def CN193_16 : List ND := [(187,(kl57,[ke34,ke129,ke38,ke149,ke24,ke23,ke23],kf18),96,kc2,[1048],190),
  (187,(kl58,[ke34,ke129,ke38,ke149,ke24,ke23,ke23],kf19),43,kc2,[1049],190),
  (187,(kl60,[ke34,ke129,ke38,ke149,ke24,ke23,ke23],kf21),1103,kc2,[1050],190),
  (187,(kl61,[ke34,ke129,ke38,ke149,ke24,ke23,ke23],kf22),1050,kc2,[1051],190),
  (187,(kl62,[ke34,ke129,ke38,ke149,ke24,ke23,ke23],kf23),997,kc2,[1052],190),
  (187,(kl63,[ke34,ke129,ke38,ke149,ke24,ke23,ke23],kf24),944,kc2,[1053],190),
  (187,(kl64,[ke34,ke129,ke38,ke149,ke24,ke23,ke23],kf25),892,kc2,[1054],190),
  (187,(kl65,[ke34,ke129,ke38,ke149,ke24,ke23,ke23],kf26),839,kc2,[1055],190),
  (187,(kl66,[ke34,ke129,ke38,ke149,ke24,ke23,ke23],kf4),786,kc2,[1056],190),
  (190,(kl115,[ke150,ke23],kf27),1263,kc2,[1057],0),
  (190,(kl43,[ke150,ke23],kf14),1209,kc2,[1058],0),
  (190,(kl44,[ke150,ke23],kf5),732,kc2,[1059],0),
  (190,(kl45,[ke150,ke23],kf6),679,kc2,[1060],0),
  (190,(kl46,[ke150,ke23],kf7),626,kc2,[1061],0),
  (190,(kl47,[ke150,ke23],kf8),573,kc2,[1062],0),
  (190,(kl48,[ke150,ke23],kf9),520,kc2,[1063],0),
  (190,(kl49,[ke150,ke23],kf10),467,kc2,[1064],0),
  (190,(kl50,[ke150,ke23],kf11),414,kc2,[1065],0),
  (190,(kl51,[ke150,ke23],kf12),361,kc2,[1066],0),
  (190,(kl52,[ke150,ke23],kf13),307,kc2,[1067],0),
  (190,(kl53,[ke150,ke23],kf15),254,kc2,[1068],0),
  (190,(kl54,[ke150,ke23],kf20),1155,kc2,[1069],0),
  (190,(kl55,[ke150,ke23],kf16),201,kc2,[1070],0),
  (190,(kl56,[ke150,ke23],kf17),147,kc2,[1071],0),
  (190,(kl57,[ke150,ke23],kf18),95,kc2,[1072],0),
  (190,(kl58,[ke150,ke23],kf19),42,kc2,[1073],0),
  (190,(kl60,[ke150,ke23],kf21),1102,kc2,[1074],0),
  (190,(kl61,[ke150,ke23],kf22),1049,kc2,[1075],0),
  (190,(kl62,[ke150,ke23],kf23),996,kc2,[1076],0),
  (190,(kl63,[ke150,ke23],kf24),943,kc2,[1077],0),
  (190,(kl64,[ke150,ke23],kf25),891,kc2,[1078],0),
  (190,(kl65,[ke150,ke23],kf26),838,kc2,[1079],0),
  (190,(kl66,[ke150,ke23],kf4),785,kc2,[1080],0),
  (191,(kl115,[ke13,ke150,ke23],kf27),1262,kc2,[1081],0),
  (191,(kl43,[ke13,ke150,ke23],kf14),1208,kc2,[1082],0),
  (191,(kl44,[ke13,ke150,ke23],kf5),731,kc2,[1083],0),
  (191,(kl45,[ke13,ke150,ke23],kf6),678,kc2,[1084],0),
  (191,(kl46,[ke13,ke150,ke23],kf7),625,kc2,[1085],0),
  (191,(kl47,[ke13,ke150,ke23],kf8),572,kc2,[1086],0),
  (191,(kl48,[ke13,ke150,ke23],kf9),519,kc2,[1087],0),
  (191,(kl49,[ke13,ke150,ke23],kf10),466,kc2,[1088],0),
  (191,(kl50,[ke13,ke150,ke23],kf11),413,kc2,[1089],0),
  (191,(kl51,[ke13,ke150,ke23],kf12),360,kc2,[1090],0),
  (191,(kl52,[ke13,ke150,ke23],kf13),306,kc2,[1091],0),
  (191,(kl53,[ke13,ke150,ke23],kf15),253,kc2,[1092],0),
  (191,(kl54,[ke13,ke150,ke23],kf20),1154,kc2,[1093],0),
  (191,(kl55,[ke13,ke150,ke23],kf16),200,kc2,[1094],0),
  (191,(kl56,[ke13,ke150,ke23],kf17),146,kc2,[1095],0),
  (191,(kl57,[ke13,ke150,ke23],kf18),94,kc2,[1096],0),
  (191,(kl58,[ke13,ke150,ke23],kf19),41,kc2,[1097],0),
  (191,(kl60,[ke13,ke150,ke23],kf21),1101,kc2,[1098],0),
  (191,(kl61,[ke13,ke150,ke23],kf22),1048,kc2,[1099],0),
  (191,(kl62,[ke13,ke150,ke23],kf23),995,kc2,[1100],0),
  (191,(kl63,[ke13,ke150,ke23],kf24),942,kc2,[1101],0),
  (191,(kl64,[ke13,ke150,ke23],kf25),890,kc2,[1102],0),
  (191,(kl65,[ke13,ke150,ke23],kf26),837,kc2,[1103],0),
  (191,(kl66,[ke13,ke150,ke23],kf4),784,kc2,[1104],0),
  (192,(kl115,[ke151,ke23],kf27),1261,kc2,[1105],0),
  (192,(kl43,[ke151,ke23],kf14),1207,kc2,[1106],0),
  (192,(kl44,[ke151,ke23],kf5),730,kc2,[1107],0),
  (192,(kl45,[ke151,ke23],kf6),677,kc2,[1108],0),
  (192,(kl46,[ke151,ke23],kf7),624,kc2,[1109],0),
  (192,(kl47,[ke151,ke23],kf8),571,kc2,[1110],0),
  (192,(kl48,[ke151,ke23],kf9),518,kc2,[1111],0)]
def CN193_17 : List ND := [(192,(kl49,[ke151,ke23],kf10),465,kc2,[1112],0),
  (192,(kl50,[ke151,ke23],kf11),412,kc2,[1113],0),
  (192,(kl51,[ke151,ke23],kf12),359,kc2,[1114],0),
  (192,(kl52,[ke151,ke23],kf13),305,kc2,[1115],0),
  (192,(kl53,[ke151,ke23],kf15),252,kc2,[1116],0),
  (192,(kl54,[ke151,ke23],kf20),1153,kc2,[1117],0),
  (192,(kl55,[ke151,ke23],kf16),199,kc2,[1118],0),
  (192,(kl56,[ke151,ke23],kf17),145,kc2,[1119],0),
  (192,(kl57,[ke151,ke23],kf18),93,kc2,[1120],0),
  (192,(kl58,[ke151,ke23],kf19),40,kc2,[1121],0),
  (192,(kl60,[ke151,ke23],kf21),1100,kc2,[1122],0),
  (192,(kl61,[ke151,ke23],kf22),1047,kc2,[1123],0),
  (192,(kl62,[ke151,ke23],kf23),994,kc2,[1124],0),
  (192,(kl63,[ke151,ke23],kf24),941,kc2,[1125],0),
  (192,(kl64,[ke151,ke23],kf25),889,kc2,[1126],0),
  (192,(kl65,[ke151,ke23],kf26),836,kc2,[1127],0),
  (192,(kl66,[ke151,ke23],kf4),783,kc2,[1128],0),
  (195,(kl115,[],kf3),1260,kc2,[1129],0),
  (195,(kl43,[],kf14),1206,kc2,[1130],0),
  (195,(kl44,[],kf5),729,kc2,[1131],0),
  (195,(kl45,[],kf6),676,kc2,[1132],0),
  (195,(kl46,[],kf7),623,kc2,[1133],0),
  (195,(kl47,[],kf8),570,kc2,[1134],0),
  (195,(kl48,[],kf9),517,kc2,[1135],0),
  (195,(kl49,[],kf10),464,kc2,[1136],0),
  (195,(kl50,[],kf11),411,kc2,[1137],0),
  (195,(kl51,[],kf12),358,kc2,[1138],0),
  (195,(kl52,[],kf13),304,kc2,[1139],0),
  (195,(kl53,[],kf15),251,kc2,[1140],0),
  (195,(kl54,[],kf20),1152,kc2,[1141],0),
  (195,(kl55,[],kf16),198,kc2,[1142],0),
  (195,(kl56,[],kf17),144,kc2,[1143],0),
  (195,(kl57,[],kf18),92,kc2,[1144],0),
  (195,(kl58,[],kf19),39,kc2,[1145],0),
  (195,(kl60,[],kf21),1099,kc2,[1146],0),
  (195,(kl61,[],kf22),1046,kc2,[1147],0),
  (195,(kl62,[],kf23),993,kc2,[1148],0),
  (195,(kl63,[],kf24),940,kc2,[1149],0),
  (195,(kl64,[],kf25),888,kc2,[1150],0),
  (195,(kl65,[],kf26),835,kc2,[1151],0),
  (195,(kl66,[],kf4),782,kc2,[1152],0),
  (196,(kl115,[ke23],kf3),1259,kc2,[1153],0),
  (196,(kl43,[ke23],kf14),1205,kc2,[1154],0),
  (196,(kl44,[ke23],kf5),728,kc2,[1155],0),
  (196,(kl45,[ke23],kf6),675,kc2,[1156],0),
  (196,(kl46,[ke23],kf7),622,kc2,[1157],0),
  (196,(kl47,[ke23],kf8),569,kc2,[1158],0),
  (196,(kl48,[ke23],kf9),516,kc2,[1159],0),
  (196,(kl49,[ke23],kf10),463,kc2,[1160],0),
  (196,(kl50,[ke23],kf11),410,kc2,[1161],0),
  (196,(kl51,[ke23],kf12),357,kc2,[1162],0),
  (196,(kl52,[ke23],kf13),303,kc2,[1163],0),
  (196,(kl53,[ke23],kf15),250,kc2,[1164],0),
  (196,(kl54,[ke23],kf20),1151,kc2,[1165],0),
  (196,(kl55,[ke23],kf16),197,kc2,[1166],0),
  (196,(kl56,[ke23],kf17),143,kc2,[1167],0),
  (196,(kl57,[ke23],kf18),91,kc2,[1168],0),
  (196,(kl58,[ke23],kf19),38,kc2,[1169],0),
  (196,(kl60,[ke23],kf21),1098,kc2,[1170],0),
  (196,(kl61,[ke23],kf22),1045,kc2,[1171],0),
  (196,(kl62,[ke23],kf23),992,kc2,[1172],0),
  (196,(kl63,[ke23],kf24),939,kc2,[1173],0),
  (196,(kl64,[ke23],kf25),887,kc2,[1174],0),
  (196,(kl65,[ke23],kf26),834,kc2,[1175],0)]
def CN193_18 : List ND := [(196,(kl66,[ke23],kf4),781,kc2,[1176],0),
  (197,(kl115,[ke23,ke23],kf3),1258,kc2,[1177],0),
  (197,(kl43,[ke23,ke23],kf14),1204,kc2,[1178],0),
  (197,(kl44,[ke23,ke23],kf5),727,kc2,[1179],0),
  (197,(kl45,[ke23,ke23],kf6),674,kc2,[1180],0),
  (197,(kl46,[ke23,ke23],kf7),621,kc2,[1181],0),
  (197,(kl47,[ke23,ke23],kf8),568,kc2,[1182],0),
  (197,(kl48,[ke23,ke23],kf9),515,kc2,[1183],0),
  (197,(kl49,[ke23,ke23],kf10),462,kc2,[1184],0),
  (197,(kl50,[ke23,ke23],kf11),409,kc2,[1185],0),
  (197,(kl51,[ke23,ke23],kf12),356,kc2,[1186],0),
  (197,(kl52,[ke23,ke23],kf13),302,kc2,[1187],0),
  (197,(kl53,[ke23,ke23],kf15),249,kc2,[1188],0),
  (197,(kl54,[ke23,ke23],kf20),1150,kc2,[1189],0),
  (197,(kl55,[ke23,ke23],kf16),196,kc2,[1190],0),
  (197,(kl56,[ke23,ke23],kf17),142,kc2,[1191],0),
  (197,(kl57,[ke23,ke23],kf18),90,kc2,[1192],0),
  (197,(kl58,[ke23,ke23],kf19),37,kc2,[1193],0),
  (197,(kl60,[ke23,ke23],kf21),1097,kc2,[1194],0),
  (197,(kl61,[ke23,ke23],kf22),1044,kc2,[1195],0),
  (197,(kl62,[ke23,ke23],kf23),991,kc2,[1196],0),
  (197,(kl63,[ke23,ke23],kf24),938,kc2,[1197],0),
  (197,(kl64,[ke23,ke23],kf25),886,kc2,[1198],0),
  (197,(kl65,[ke23,ke23],kf26),833,kc2,[1199],0),
  (197,(kl66,[ke23,ke23],kf4),780,kc2,[1200],0),
  (198,(kl115,[ke24,ke23,ke23],kf3),1257,kc2,[1201],0),
  (198,(kl43,[ke24,ke23,ke23],kf14),1203,kc2,[1202],0),
  (198,(kl44,[ke24,ke23,ke23],kf5),726,kc2,[1203],0),
  (198,(kl45,[ke24,ke23,ke23],kf6),673,kc2,[1204],0),
  (198,(kl46,[ke24,ke23,ke23],kf7),620,kc2,[1205],0),
  (198,(kl47,[ke24,ke23,ke23],kf8),567,kc2,[1206],0),
  (198,(kl48,[ke24,ke23,ke23],kf9),514,kc2,[1207],0),
  (198,(kl49,[ke24,ke23,ke23],kf10),461,kc2,[1208],0),
  (198,(kl50,[ke24,ke23,ke23],kf11),408,kc2,[1209],0),
  (198,(kl51,[ke24,ke23,ke23],kf12),355,kc2,[1210],0),
  (198,(kl52,[ke24,ke23,ke23],kf13),301,kc2,[1211],0),
  (198,(kl53,[ke24,ke23,ke23],kf15),248,kc2,[1212],0),
  (198,(kl54,[ke24,ke23,ke23],kf20),1149,kc2,[1213],0),
  (198,(kl55,[ke24,ke23,ke23],kf16),195,kc2,[1214],0),
  (198,(kl56,[ke24,ke23,ke23],kf17),141,kc2,[1215],0),
  (198,(kl57,[ke24,ke23,ke23],kf18),89,kc2,[1216],0),
  (198,(kl58,[ke24,ke23,ke23],kf19),36,kc2,[1217],0),
  (198,(kl60,[ke24,ke23,ke23],kf21),1096,kc2,[1218],0),
  (198,(kl61,[ke24,ke23,ke23],kf22),1043,kc2,[1219],0),
  (198,(kl62,[ke24,ke23,ke23],kf23),990,kc2,[1220],0),
  (198,(kl63,[ke24,ke23,ke23],kf24),937,kc2,[1221],0),
  (198,(kl64,[ke24,ke23,ke23],kf25),885,kc2,[1222],0),
  (198,(kl65,[ke24,ke23,ke23],kf26),832,kc2,[1223],0),
  (198,(kl66,[ke24,ke23,ke23],kf4),779,kc2,[1224],0),
  (200,(kl115,[ke37,ke24,ke23,ke23],kf3),1256,kc2,[1225],0),
  (200,(kl43,[ke37,ke24,ke23,ke23],kf14),1202,kc2,[1226],0),
  (200,(kl44,[ke37,ke24,ke23,ke23],kf5),725,kc2,[1227],0),
  (200,(kl45,[ke37,ke24,ke23,ke23],kf6),672,kc2,[1228],0),
  (200,(kl46,[ke37,ke24,ke23,ke23],kf7),619,kc2,[1229],0),
  (200,(kl47,[ke37,ke24,ke23,ke23],kf8),566,kc2,[1230],0),
  (200,(kl48,[ke37,ke24,ke23,ke23],kf9),513,kc2,[1231],0),
  (200,(kl49,[ke37,ke24,ke23,ke23],kf10),460,kc2,[1232],0),
  (200,(kl50,[ke37,ke24,ke23,ke23],kf11),407,kc2,[1233],0),
  (200,(kl51,[ke37,ke24,ke23,ke23],kf12),354,kc2,[1234],0),
  (200,(kl52,[ke37,ke24,ke23,ke23],kf13),300,kc2,[1235],0),
  (200,(kl53,[ke37,ke24,ke23,ke23],kf15),247,kc2,[1236],0),
  (200,(kl54,[ke37,ke24,ke23,ke23],kf20),1148,kc2,[1237],0),
  (200,(kl55,[ke37,ke24,ke23,ke23],kf16),194,kc2,[1238],0),
  (200,(kl56,[ke37,ke24,ke23,ke23],kf17),140,kc2,[1239],0)]
def CN193_19 : List ND := [(200,(kl57,[ke37,ke24,ke23,ke23],kf18),88,kc2,[1240],0),
  (200,(kl58,[ke37,ke24,ke23,ke23],kf19),35,kc2,[1241],0),
  (200,(kl60,[ke37,ke24,ke23,ke23],kf21),1095,kc2,[1242],0),
  (200,(kl61,[ke37,ke24,ke23,ke23],kf22),1042,kc2,[1243],0),
  (200,(kl62,[ke37,ke24,ke23,ke23],kf23),989,kc2,[1244],0),
  (200,(kl63,[ke37,ke24,ke23,ke23],kf24),936,kc2,[1245],0),
  (200,(kl64,[ke37,ke24,ke23,ke23],kf25),884,kc2,[1246],0),
  (200,(kl65,[ke37,ke24,ke23,ke23],kf26),831,kc2,[1247],0),
  (200,(kl66,[ke37,ke24,ke23,ke23],kf4),778,kc2,[1248],0),
  (203,(kl115,[ke41,ke24,ke23,ke23],kf3),1255,kc2,[1249],0),
  (203,(kl43,[ke41,ke24,ke23,ke23],kf14),1201,kc2,[1250],0),
  (203,(kl44,[ke41,ke24,ke23,ke23],kf5),724,kc2,[1251],0),
  (203,(kl45,[ke41,ke24,ke23,ke23],kf6),671,kc2,[1252],0),
  (203,(kl46,[ke41,ke24,ke23,ke23],kf7),618,kc2,[1253],0),
  (203,(kl47,[ke41,ke24,ke23,ke23],kf8),565,kc2,[1254],0),
  (203,(kl48,[ke41,ke24,ke23,ke23],kf9),512,kc2,[1255],0),
  (203,(kl49,[ke41,ke24,ke23,ke23],kf10),459,kc2,[1256],0),
  (203,(kl50,[ke41,ke24,ke23,ke23],kf11),406,kc2,[1257],0),
  (203,(kl51,[ke41,ke24,ke23,ke23],kf12),353,kc2,[1258],0),
  (203,(kl52,[ke41,ke24,ke23,ke23],kf13),299,kc2,[1259],0),
  (203,(kl53,[ke41,ke24,ke23,ke23],kf15),246,kc2,[1260],0),
  (203,(kl54,[ke41,ke24,ke23,ke23],kf20),1147,kc2,[1261],0),
  (203,(kl55,[ke41,ke24,ke23,ke23],kf16),193,kc2,[1262],0),
  (203,(kl56,[ke41,ke24,ke23,ke23],kf17),139,kc2,[1263],0),
  (203,(kl57,[ke41,ke24,ke23,ke23],kf18),87,kc2,[1264],0),
  (203,(kl58,[ke41,ke24,ke23,ke23],kf19),34,kc2,[1265],0),
  (203,(kl60,[ke41,ke24,ke23,ke23],kf21),1094,kc2,[1266],0),
  (203,(kl61,[ke41,ke24,ke23,ke23],kf22),1041,kc2,[1267],0),
  (203,(kl62,[ke41,ke24,ke23,ke23],kf23),988,kc2,[1268],0),
  (203,(kl63,[ke41,ke24,ke23,ke23],kf24),935,kc2,[1269],0),
  (203,(kl64,[ke41,ke24,ke23,ke23],kf25),883,kc2,[1270],0),
  (203,(kl65,[ke41,ke24,ke23,ke23],kf26),830,kc2,[1271],0),
  (203,(kl66,[ke41,ke24,ke23,ke23],kf4),777,kc2,[1272],0),
  (205,(kl115,[ke129,ke41,ke24,ke23,ke23],kf3),1254,kc2,[1273],191),
  (205,(kl43,[ke129,ke41,ke24,ke23,ke23],kf14),1200,kc2,[1274],191),
  (205,(kl44,[ke129,ke41,ke24,ke23,ke23],kf5),723,kc2,[1275],191),
  (205,(kl45,[ke129,ke41,ke24,ke23,ke23],kf6),670,kc2,[1276],191),
  (205,(kl46,[ke129,ke41,ke24,ke23,ke23],kf7),617,kc2,[1277],191),
  (205,(kl47,[ke129,ke41,ke24,ke23,ke23],kf8),564,kc2,[1278],191),
  (205,(kl48,[ke129,ke41,ke24,ke23,ke23],kf9),511,kc2,[1279],191),
  (205,(kl49,[ke129,ke41,ke24,ke23,ke23],kf10),458,kc2,[1280],191),
  (205,(kl50,[ke129,ke41,ke24,ke23,ke23],kf11),405,kc2,[1281],191),
  (205,(kl51,[ke129,ke41,ke24,ke23,ke23],kf12),352,kc2,[1282],191),
  (205,(kl52,[ke129,ke41,ke24,ke23,ke23],kf13),298,kc2,[1283],191),
  (205,(kl53,[ke129,ke41,ke24,ke23,ke23],kf15),245,kc2,[1284],191),
  (205,(kl54,[ke129,ke41,ke24,ke23,ke23],kf20),1146,kc2,[1285],191),
  (205,(kl55,[ke129,ke41,ke24,ke23,ke23],kf16),192,kc2,[1286],191),
  (205,(kl56,[ke129,ke41,ke24,ke23,ke23],kf17),138,kc2,[1287],191),
  (205,(kl57,[ke129,ke41,ke24,ke23,ke23],kf18),86,kc2,[1288],191),
  (205,(kl58,[ke129,ke41,ke24,ke23,ke23],kf19),33,kc2,[1289],191),
  (205,(kl60,[ke129,ke41,ke24,ke23,ke23],kf21),1093,kc2,[1290],191),
  (205,(kl61,[ke129,ke41,ke24,ke23,ke23],kf22),1040,kc2,[1291],191),
  (205,(kl62,[ke129,ke41,ke24,ke23,ke23],kf23),987,kc2,[1292],191),
  (205,(kl63,[ke129,ke41,ke24,ke23,ke23],kf24),934,kc2,[1293],191),
  (205,(kl64,[ke129,ke41,ke24,ke23,ke23],kf25),882,kc2,[1294],191),
  (205,(kl65,[ke129,ke41,ke24,ke23,ke23],kf26),829,kc2,[1295],191),
  (205,(kl66,[ke129,ke41,ke24,ke23,ke23],kf4),776,kc2,[1296],191),
  (208,(kl115,[ke46,ke23],kf3),1253,kc2,[1297],0),
  (208,(kl43,[ke46,ke23],kf14),1199,kc2,[1298],0),
  (208,(kl44,[ke46,ke23],kf5),722,kc2,[1299],0),
  (208,(kl45,[ke46,ke23],kf6),669,kc2,[1300],0),
  (208,(kl46,[ke46,ke23],kf7),616,kc2,[1301],0),
  (208,(kl47,[ke46,ke23],kf8),563,kc2,[1302],0),
  (208,(kl48,[ke46,ke23],kf9),510,kc2,[1303],0)]
def CN193_20 : List ND := [(208,(kl49,[ke46,ke23],kf10),457,kc2,[1304],0),
  (208,(kl50,[ke46,ke23],kf11),404,kc2,[1305],0),
  (208,(kl51,[ke46,ke23],kf12),351,kc2,[1306],0),
  (208,(kl52,[ke46,ke23],kf13),297,kc2,[1307],0),
  (208,(kl53,[ke46,ke23],kf15),244,kc2,[1308],0),
  (208,(kl54,[ke46,ke23],kf20),1145,kc2,[1309],0),
  (208,(kl55,[ke46,ke23],kf16),191,kc2,[1310],0),
  (208,(kl56,[ke46,ke23],kf17),137,kc2,[1311],0),
  (208,(kl57,[ke46,ke23],kf18),85,kc2,[1312],0),
  (208,(kl58,[ke46,ke23],kf19),32,kc2,[1313],0),
  (208,(kl60,[ke46,ke23],kf21),1092,kc2,[1314],0),
  (208,(kl61,[ke46,ke23],kf22),1039,kc2,[1315],0),
  (208,(kl62,[ke46,ke23],kf23),986,kc2,[1316],0),
  (208,(kl63,[ke46,ke23],kf24),933,kc2,[1317],0),
  (208,(kl64,[ke46,ke23],kf25),881,kc2,[1318],0),
  (208,(kl65,[ke46,ke23],kf26),828,kc2,[1319],0),
  (208,(kl66,[ke46,ke23],kf4),775,kc2,[1320],0),
  (211,(kl115,[],kf3),1252,kc2,[1321],0),
  (211,(kl43,[],kf14),1198,kc2,[1332],0),
  (211,(kl44,[],kf5),721,kc2,[1323],0),
  (211,(kl45,[],kf6),668,kc2,[1324],0),
  (211,(kl46,[],kf7),615,kc2,[1325],0),
  (211,(kl47,[],kf8),562,kc2,[1326],0),
  (211,(kl48,[],kf9),509,kc2,[1327],0),
  (211,(kl49,[],kf10),456,kc2,[1328],0),
  (211,(kl50,[],kf11),403,kc2,[1329],0),
  (211,(kl51,[],kf12),350,kc2,[1330],0),
  (211,(kl52,[],kf13),296,kc2,[1331],0),
  (211,(kl53,[],kf15),243,kc2,[1333],0),
  (211,(kl54,[],kf20),1144,kc2,[1338],0),
  (211,(kl55,[],kf16),190,kc2,[1334],0),
  (211,(kl56,[],kf17),136,kc2,[1335],0),
  (211,(kl57,[],kf18),84,kc2,[1336],0),
  (211,(kl58,[],kf19),31,kc2,[1337],0),
  (211,(kl60,[],kf21),1091,kc2,[1339],0),
  (211,(kl61,[],kf22),1038,kc2,[1340],0),
  (211,(kl62,[],kf23),985,kc2,[1341],0),
  (211,(kl63,[],kf24),932,kc2,[1342],0),
  (211,(kl64,[],kf25),880,kc2,[1343],0),
  (211,(kl65,[],kf26),827,kc2,[1344],0),
  (211,(kl66,[],kf4),774,kc2,[1322],0),
  (214,(kl18,[],kf3),1251,kc2,[68],0),
  (214,(kl19,[],kf4),773,kc2,[69],0),
  (214,(kl20,[],kf5),720,kc2,[70],0),
  (214,(kl21,[],kf6),667,kc2,[71],0),
  (214,(kl22,[],kf7),614,kc2,[72],0),
  (214,(kl23,[],kf8),561,kc2,[73],0),
  (214,(kl24,[],kf9),508,kc2,[74],0),
  (214,(kl25,[],kf10),455,kc2,[75],0),
  (214,(kl26,[],kf11),402,kc2,[76],0),
  (214,(kl27,[],kf12),349,kc2,[77],0),
  (214,(kl28,[],kf13),295,kc2,[78],0),
  (214,(kl29,[],kf14),1197,kc2,[79],0),
  (214,(kl30,[],kf15),242,kc2,[80],0),
  (214,(kl31,[],kf16),189,kc2,[81],0),
  (214,(kl32,[],kf17),135,kc2,[82],0),
  (214,(kl33,[],kf18),83,kc2,[83],0),
  (214,(kl34,[],kf19),30,kc2,[84],0),
  (214,(kl35,[],kf20),1143,kc2,[85],0),
  (214,(kl36,[],kf21),1090,kc2,[86],0),
  (214,(kl37,[],kf22),1037,kc2,[87],0),
  (214,(kl38,[],kf23),984,kc2,[88],0),
  (214,(kl39,[],kf24),931,kc2,[89],0),
  (214,(kl40,[],kf25),879,kc2,[90],0)]
def CN193_21 : List ND := [(214,(kl41,[],kf26),826,kc2,[91],0),
  (217,(kl116,[],kf2),1300,kc2,[],0),
  (217,(kl117,[],kf3),1247,kc2,[],0),
  (217,(kl118,[],kf4),769,kc2,[],0),
  (217,(kl119,[],kf5),716,kc2,[],0),
  (217,(kl120,[],kf6),663,kc2,[],0),
  (217,(kl121,[],kf7),610,kc2,[],0),
  (217,(kl122,[],kf8),557,kc2,[],0),
  (217,(kl123,[],kf9),15,kc2,[],0),
  (217,(kl124,[],kf10),451,kc2,[],0),
  (217,(kl125,[],kf11),17,kc2,[],0),
  (217,(kl126,[],kf12),345,kc2,[],0),
  (217,(kl127,[],kf13),291,kc2,[],0),
  (217,(kl128,[],kf14),1193,kc2,[],0),
  (217,(kl129,[],kf15),238,kc2,[],0),
  (217,(kl130,[],kf16),185,kc2,[],0),
  (217,(kl131,[],kf17),20,kc2,[],0),
  (217,(kl132,[],kf18),22,kc2,[],0),
  (217,(kl34,[],kf19),23,kc2,[],0),
  (217,(kl133,[],kf20),1139,kc2,[],0),
  (217,(kl134,[],kf21),1086,kc2,[],0),
  (217,(kl135,[],kf22),1033,kc2,[],0),
  (217,(kl136,[],kf23),980,kc2,[],0),
  (217,(kl137,[],kf24),6,kc2,[],0),
  (217,(kl138,[],kf25),875,kc2,[],0),
  (217,(kl139,[],kf26),822,kc2,[],0)]
def CN193 : List (List ND) := [CN193_0, CN193_1, CN193_2, CN193_3, CN193_4, CN193_5, CN193_6, CN193_7, CN193_8, CN193_9, CN193_10, CN193_11, CN193_12, CN193_13, CN193_14, CN193_15, CN193_16, CN193_17, CN193_18, CN193_19, CN193_20, CN193_21]
theorem CK193_0 : chkB prot SMs SM193 [] CN193 CN193_0 = true := by decide +kernel
theorem CK193_1 : chkB prot SMs SM193 [] CN193 CN193_1 = true := by decide +kernel
theorem CK193_2 : chkB prot SMs SM193 [] CN193 CN193_2 = true := by decide +kernel
theorem CK193_3 : chkB prot SMs SM193 [] CN193 CN193_3 = true := by decide +kernel
theorem CK193_4 : chkB prot SMs SM193 [] CN193 CN193_4 = true := by decide +kernel
theorem CK193_5 : chkB prot SMs SM193 [] CN193 CN193_5 = true := by decide +kernel
theorem CK193_6 : chkB prot SMs SM193 [] CN193 CN193_6 = true := by decide +kernel
theorem CK193_7 : chkB prot SMs SM193 [] CN193 CN193_7 = true := by decide +kernel
theorem CK193_8 : chkB prot SMs SM193 [] CN193 CN193_8 = true := by decide +kernel
theorem CK193_9 : chkB prot SMs SM193 [] CN193 CN193_9 = true := by decide +kernel
theorem CK193_10 : chkB prot SMs SM193 [] CN193 CN193_10 = true := by decide +kernel
theorem CK193_11 : chkB prot SMs SM193 [] CN193 CN193_11 = true := by decide +kernel
theorem CK193_12 : chkB prot SMs SM193 [] CN193 CN193_12 = true := by decide +kernel
theorem CK193_13 : chkB prot SMs SM193 [] CN193 CN193_13 = true := by decide +kernel
theorem CK193_14 : chkB prot SMs SM193 [] CN193 CN193_14 = true := by decide +kernel
theorem CK193_15 : chkB prot SMs SM193 [] CN193 CN193_15 = true := by decide +kernel
theorem CK193_16 : chkB prot SMs SM193 [] CN193 CN193_16 = true := by decide +kernel
theorem CK193_17 : chkB prot SMs SM193 [] CN193 CN193_17 = true := by decide +kernel
theorem CK193_18 : chkB prot SMs SM193 [] CN193 CN193_18 = true := by decide +kernel
theorem CK193_19 : chkB prot SMs SM193 [] CN193 CN193_19 = true := by decide +kernel
theorem CK193_20 : chkB prot SMs SM193 [] CN193 CN193_20 = true := by decide +kernel
theorem CK193_21 : chkB prot SMs SM193 [] CN193 CN193_21 = true := by decide +kernel
theorem CK193 : chkS prot SMs SM193 [] CN193 = true := chkS_of (allc CK193_0 (allc CK193_1 (allc CK193_2 (allc CK193_3 (allc CK193_4 (allc CK193_5 (allc CK193_6 (allc CK193_7 (allc CK193_8 (allc CK193_9 (allc CK193_10 (allc CK193_11 (allc CK193_12 (allc CK193_13 (allc CK193_14 (allc CK193_15 (allc CK193_16 (allc CK193_17 (allc CK193_18 (allc CK193_19 (allc CK193_20 (allc CK193_21 (alln))))))))))))))))))))))) (by decide +kernel)
