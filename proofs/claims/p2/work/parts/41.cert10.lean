/-! LM, by program: certificates 10 -/
-- OneSidedModel.passes
def kl909 : AL := [some ka283,some ka1,none]
def ke682 : SE := (ka40,(2,198,0,0,0))
def ke683 : SE := (ka38,(2,198,0,0,0))
def kf175 : FA := [(198,0,ka38)]
def ke684 : SE := (ka52,(2,198,0,0,0))
def kf176 : FA := [(198,0,ka52)]
def kf177 : FA := [(198,0,ka58)]
def kl910 : AL := [some ka283,some ka1,some ka65]
def kc69 : List Int := [0,0,-14]
def kl911 : AL := [some ka283,some ka1,some ka1]
def kl912 : AL := [some ka283,some ka1,some ka69]
def ka322 : AV := (0,14,19,1)
def ke685 : SE := (ka322,pv0)
def kl913 : AL := [some ka283,some ka1,some ka63]
def kl914 : AL := [some ka283,some ka1,some ka82]
def kl915 : AL := [some ka283,some ka1,some ka48]
def kl916 : AL := [some ka283,some ka1,some ka43]
def kl917 : AL := [some ka283,some ka1,some ka49]
def kl918 : AL := [some ka283,some ka1,some ka61]
def CN360_0 : List ND := [(0,(kl909,[],[]),333,kc1,[1],0),
  (1,(kl909,[ke617],[]),332,kc1,[2],0),
  (4,(kl909,[ke631],[]),331,kc1,[3],0),
  (5,(kl909,[ke74,ke631],[]),330,kc1,[4],0),
  (6,(kl909,[ke6,ke74,ke631],[]),329,kc1,[5],0),
  (7,(kl909,[ke6,ke631],[]),328,kc1,[6],0),
  (8,(kl909,[ke6,ke631,ke6,ke631],[]),327,kc1,[7],0),
  (9,(kl909,[ke682,ke6,ke631],[]),326,kc1,[8],0),
  (10,(kl909,[ke617,ke682,ke6,ke631],[]),325,kc1,[9],0),
  (13,(kl909,[ke631,ke682,ke6,ke631],[]),324,kc1,[10],0),
  (14,(kl909,[ke74,ke631,ke682,ke6,ke631],[]),323,kc1,[11],0),
  (15,(kl909,[ke6,ke74,ke631,ke682,ke6,ke631],[]),322,kc1,[12],0),
  (16,(kl909,[ke6,ke631,ke682,ke6,ke631],[]),321,kc1,[13],0),
  (17,(kl909,[ke682,ke682,ke6,ke631],[]),320,kc1,[14],0),
  (19,(kl909,[ke70,ke682,ke682,ke6,ke631],[]),319,kc1,[17,15],0),
  (22,(kl909,[ke683,ke6,ke631],kf175),316,kc1,[16],0),
  (23,(kl909,[ke5,ke683,ke6,ke631],kf175),315,kc1,[19],0),
  (26,(kl909,[ke684,ke6,ke631],kf176),318,kc1,[18],0),
  (27,(kl909,[ke6,ke684,ke6,ke631],kf176),317,kc1,[20],0),
  (27,(kl909,[ke5,ke683,ke6,ke631],kf175),314,kc1,[20],0),
  (28,(kl909,[ke166,ke6,ke631],[]),313,kc1,[21],0),
  (29,(kl909,[],kf177),312,kc1,[22],0),
  (30,(kl909,[ke6],kf177),311,kc1,[23],0),
  (31,(kl910,[],kf177),309,kc69,[25],0),
  (32,(kl911,[ke77],kf177),335,kc1,[26],0),
  (32,(kl910,[ke350],kf177),308,kc69,[27],0),
  (34,(kl911,[ke147,ke77],kf177),334,kc1,[28],0),
  (34,(kl910,[ke147,ke350],kf177),307,kc69,[40,28],0),
  (37,(kl912,[],kf177),306,kc69,[29],0),
  (38,(kl912,[ke617],kf177),305,kc69,[30],0),
  (41,(kl912,[ke631],kf177),304,kc69,[31],0),
  (42,(kl912,[ke74,ke631],kf177),303,kc69,[32],0),
  (44,(kl912,[ke80,ke74,ke631],kf177),302,kc69,[33],0),
  (45,(kl912,[ke80,ke631],kf177),301,kc69,[35],0),
  (46,(kl911,[ke77,ke80,ke631],kf177),336,kc1,[36],0),
  (46,(kl912,[ke96,ke80,ke631],kf177),300,kc69,[36],0),
  (47,(kl912,[ke685,ke631],kf177),299,kc69,[37],0),
  (48,(kl912,[ke6,ke685,ke631],kf177),298,kc69,[38],0),
  (49,(kl912,[],kf177),297,kc69,[39],0),
  (52,(kl913,[],kf177),310,kc69,[23],0),
  (55,(kl914,[],kf177),212,kc1,[41],0),
  (56,(kl914,[ke6],kf177),211,kc1,[42],0),
  (57,(kl915,[],kf177),209,kc69,[44],0),
  (58,(kl911,[ke77],kf177),338,kc1,[45],0),
  (58,(kl915,[ke81],kf177),208,kc69,[46],0),
  (60,(kl911,[ke80,ke77],kf177),337,kc1,[47],0),
  (60,(kl915,[ke80,ke81],kf177),207,kc69,[59,47],0),
  (63,(kl916,[],kf177),206,kc69,[48],0),
  (64,(kl916,[ke617],kf177),205,kc69,[49],0),
  (67,(kl916,[ke631],kf177),204,kc69,[50],0),
  (68,(kl916,[ke74,ke631],kf177),203,kc69,[51],0),
  (70,(kl916,[ke203,ke74,ke631],kf177),202,kc69,[52],0),
  (71,(kl916,[ke203,ke631],kf177),201,kc69,[54],0),
  (72,(kl911,[ke77,ke203,ke631],kf177),339,kc1,[55],0),
  (72,(kl916,[ke83,ke203,ke631],kf177),200,kc69,[55],0),
  (73,(kl916,[ke633,ke631],kf177),199,kc69,[56],0),
  (74,(kl916,[ke6,ke633,ke631],kf177),198,kc69,[57],0),
  (75,(kl916,[],kf177),197,kc69,[58],0),
  (78,(kl917,[],kf177),210,kc69,[42],0),
  (81,(kl918,[],kf177),0,kc1,[],0)]
def CN360 : List (List ND) := [CN360_0]
theorem CK360 : chkS prot SMs SM360 [] CN360 = true := by decide +kernel
-- OneSidedModel.hours
def kl919 : AL := [some ka283,some ka0,none]
def kl920 : AL := [some ka283,some ka58,none]
def kl921 : AL := [some ka283,some ka58,some ka40]
def kc70 : List Int := [0,0,-8]
def kl922 : AL := [some ka283,some ka58,some ka1]
def kl923 : AL := [some ka283,some ka58,some ka38]
def kl924 : AL := [some ka283,some ka58,some ka58]
def CN361_0 : List ND := [(0,(kl919,[],[]),219,kc1,[1],0),
  (1,(kl919,[ke617],[]),218,kc1,[2],0),
  (2,(kl919,[ke6,ke617],[]),217,kc1,[3],0),
  (5,(kl919,[],kf159),216,kc1,[4],0),
  (6,(kl919,[ke1],kf159),215,kc1,[5],0),
  (7,(kl919,[ke5,ke1],kf159),214,kc1,[6],0),
  (9,(kl919,[ke70,ke5,ke1],kf159),213,kc1,[8,7],359),
  (12,(kl919,[ke6],kf159),212,kc1,[9],0),
  (12,(kl920,[ke5],kf159),209,kc1,[11],0),
  (15,(kl919,[],kf159),211,kc1,[10],0),
  (16,(kl919,[ke41],kf159),210,kc1,[],0),
  (17,(kl920,[],kf159),208,kc1,[12],0),
  (18,(kl920,[ke617],kf159),207,kc1,[13],356),
  (21,(kl920,[],kf159),206,kc1,[14],0),
  (22,(kl920,[ke6],kf159),205,kc1,[15],0),
  (23,(kl921,[],kf159),203,kc70,[17],0),
  (24,(kl922,[ke77],kf159),221,kc1,[18],0),
  (24,(kl921,[ke78],kf159),202,kc70,[19],0),
  (25,(kl922,[ke164,ke77],kf159),220,kc1,[20],0),
  (25,(kl921,[ke164,ke78],kf159),201,kc70,[25,20],0),
  (28,(kl923,[],kf159),200,kc70,[21],0),
  (29,(kl923,[ke617],kf159),199,kc70,[22],0),
  (30,(kl923,[ke6,ke617],kf159),198,kc70,[23],360),
  (33,(kl923,[],kf159),197,kc70,[24],0),
  (36,(kl924,[],kf159),204,kc70,[15],0),
  (39,(kl924,[],kf159),4,kc1,[26],0),
  (40,(kl924,[ke617],kf159),3,kc1,[27],0),
  (43,(kl924,[ke631],kf159),2,kc1,[28],0),
  (44,(kl924,[ke6,ke631],kf159),1,kc1,[29],0),
  (45,(kl924,[ke682],kf159),0,kc1,[],0)]
def CN361 : List (List ND) := [CN361_0]
theorem CK361 : chkS prot SMs SM361 [] CN361 = true := by decide +kernel
-- OneSidedModel.shut
def kl925 : AL := [some ka283,some ka0,some ka27]
def kl926 : AL := [some ka283,some ka43,some ka27]
def CN362_0 : List ND := [(0,(kl925,[],[]),33,kc1,[1],0),
  (1,(kl925,[ke617],[]),32,kc1,[2],0),
  (2,(kl925,[ke6,ke617],[]),31,kc1,[3],0),
  (5,(kl925,[],kf159),30,kc1,[4],0),
  (6,(kl925,[ke617],kf159),29,kc1,[5],0),
  (7,(kl925,[ke1,ke617],kf159),28,kc1,[7,6],322),
  (10,(kl925,[ke6],kf159),27,kc1,[18],0),
  (10,(kl926,[ke5],kf159),26,kc1,[8],0),
  (13,(kl926,[],kf159),25,kc1,[9],0),
  (14,(kl926,[ke617],kf159),24,kc1,[10],0),
  (17,(kl926,[ke631],kf159),23,kc1,[11],0),
  (18,(kl926,[ke5,ke631],kf159),22,kc1,[12],0),
  (19,(kl926,[ke632],kf159),21,kc1,[13],0),
  (20,(kl926,[ke46,ke632],kf159),20,kc1,[15,14],336),
  (23,(kl926,[ke6],kf159),17,kc1,[16],0),
  (23,(kl926,[ke5],kf159),19,kc1,[17],0),
  (24,(kl926,[ke169,ke6],kf159),16,kc1,[20,18],0),
  (24,(kl926,[ke169,ke5],kf159),18,kc1,[20,18],0),
  (27,(kl925,[],kf159),15,kc1,[19],0),
  (28,(kl925,[ke6],kf159),14,kc1,[],0),
  (29,(kl926,[],kf159),13,kc1,[21],0),
  (30,(kl926,[ke617],kf159),12,kc1,[22],356),
  (33,(kl926,[],kf159),11,kc1,[23],0),
  (34,(kl926,[ke617],kf159),10,kc1,[24],0),
  (37,(kl926,[ke631],kf159),9,kc1,[25],0),
  (38,(kl926,[ke5,ke631],kf159),8,kc1,[26],0),
  (39,(kl926,[ke5,ke631,ke5,ke631],kf159),7,kc1,[27],0),
  (40,(kl926,[ke632,ke5,ke631],kf159),6,kc1,[28],0),
  (41,(kl926,[ke5,ke632,ke5,ke631],kf159),5,kc1,[29],0),
  (42,(kl926,[ke46,ke5,ke632,ke5,ke631],kf159),4,kc1,[30],0),
  (43,(kl926,[ke66,ke632,ke5,ke631],kf159),3,kc1,[31],0),
  (44,(kl926,[ke7,ke5,ke631],kf159),2,kc1,[32],0),
  (45,(kl926,[],kf159),1,kc1,[33],0),
  (46,(kl926,[ke5],kf159),0,kc1,[],1)]
def CN362 : List (List ND) := [CN362_0]
theorem CK362 : chkS prot SMs SM362 [(1,1)] CN362 = true := by decide +kernel
-- OneSidedModel.undo
def kf178 : FA := [(182,0,ka1),(182,25,ka1)]
def kf179 : FA := [(182,0,ka1),(182,25,ka100)]
def ke686 : SE := (ka100,(2,182,25,0,0))
def kf180 : FA := [(182,0,ka1),(182,25,ka96)]
def CN364_0 : List ND := [(0,(kl849,[],[]),25,kc15,[1],0),
  (1,(kl849,[ke617],[]),24,kc15,[2],0),
  (2,(kl849,[ke6,ke617],[]),23,kc15,[3],0),
  (5,(kl849,[],kf159),22,kc15,[4],0),
  (6,(kl849,[ke617],kf159),21,kc15,[5],0),
  (9,(kl849,[ke667],kf159),20,kc15,[8,6],0),
  (12,(kl849,[],kf178),1,kc15,[7],0),
  (13,(kl849,[ke6],kf178),0,kc15,[],0),
  (14,(kl849,[],kf179),19,kc15,[9],0),
  (15,(kl849,[ke617],kf179),18,kc15,[10],0),
  (16,(kl849,[ke617,ke617],kf179),17,kc15,[11],0),
  (19,(kl849,[ke686,ke617],kf179),16,kc15,[12],0),
  (20,(kl849,[ke5,ke686,ke617],kf179),15,kc15,[13],0),
  (21,(kl849,[ke157,ke617],kf179),14,kc15,[14],0),
  (24,(kl849,[],kf180),13,kc15,[15],0),
  (25,(kl849,[ke617],kf180),12,kc15,[16],0),
  (27,(kl849,[ke670,ke617],kf180),11,kc15,[17],0),
  (28,(kl849,[ke335,ke670,ke617],kf180),10,kc15,[18],0),
  (29,(kl849,[ke617,ke335,ke670,ke617],kf180),9,kc15,[19],0),
  (32,(kl849,[ke679,ke335,ke670,ke617],kf180),8,kc15,[20],0),
  (33,(kl849,[ke680,ke670,ke617],kf180),7,kc15,[21],0),
  (34,(kl849,[ke681,ke617],kf180),6,kc15,[22],0),
  (35,(kl849,[ke6,ke681,ke617],kf180),5,kc15,[23],0),
  (37,(kl849,[ke677,ke6,ke681,ke617],kf180),4,kc15,[24],363),
  (40,(kl849,[],kf180),3,kc15,[25],0),
  (41,(kl849,[ke5],kf180),2,kc15,[],1)]
def CN364 : List (List ND) := [CN364_0]
theorem CK364 : chkS prot SMs SM364 [] CN364 = true := by decide +kernel
-- OneSidedModel.startOf
def ka323 : AV := (0,2,7,1)
def ke687 : SE := (ka323,pv0)
def ka324 : AV := (0,8,13,1)
def ke688 : SE := (ka324,pv0)
def ka325 : AV := (0,1,524288,1)
def ke689 : SE := (ka325,pv0)
def CN365_0 : List ND := [(0,(kl912,[],[]),25,kc1,[1],0),
  (1,(kl912,[ke5],[]),24,kc1,[2],0),
  (2,(kl912,[ke617,ke5],[]),23,kc1,[3],0),
  (5,(kl912,[ke631,ke5],[]),22,kc1,[4],0),
  (6,(kl912,[ke74,ke631,ke5],[]),21,kc1,[5],0),
  (7,(kl912,[ke56,ke74,ke631,ke5],[]),20,kc1,[6],0),
  (8,(kl912,[ke56,ke631,ke5],[]),19,kc1,[7],0),
  (9,(kl912,[ke96,ke56,ke631,ke5],[]),18,kc1,[8],0),
  (10,(kl912,[ke687,ke631,ke5],[]),17,kc1,[9],0),
  (11,(kl912,[ke52,ke5],[]),16,kc1,[10],0),
  (12,(kl912,[ke617,ke52,ke5],[]),15,kc1,[11],0),
  (15,(kl912,[ke631,ke52,ke5],[]),14,kc1,[12],0),
  (16,(kl912,[ke74,ke631,ke52,ke5],[]),13,kc1,[13],0),
  (18,(kl912,[ke337,ke74,ke631,ke52,ke5],[]),12,kc1,[14],0),
  (19,(kl912,[ke337,ke631,ke52,ke5],[]),11,kc1,[15],0),
  (20,(kl912,[ke96,ke337,ke631,ke52,ke5],[]),10,kc1,[16],0),
  (21,(kl912,[ke688,ke631,ke52,ke5],[]),9,kc1,[17],0),
  (22,(kl912,[ke65,ke52,ke5],[]),8,kc1,[18],0),
  (23,(kl912,[ke5,ke65,ke52,ke5],[]),7,kc1,[21,19],0),
  (26,(kl912,[ke52,ke5],[]),4,kc1,[20],0),
  (28,(kl912,[ke339,ke52,ke5],[]),3,kc1,[23],0),
  (31,(kl912,[ke52,ke5],[]),6,kc1,[22],0),
  (32,(kl912,[ke6,ke52,ke5],[]),5,kc1,[24],0),
  (32,(kl912,[ke339,ke52,ke5],[]),2,kc1,[24],0),
  (33,(kl912,[ke240,ke5],[]),1,kc1,[25],0),
  (34,(kl912,[ke689],[]),0,kc1,[],0)]
def CN365 : List (List ND) := [CN365_0]
theorem CK365 : chkS prot SMs SM365 [] CN365 = true := by decide +kernel
-- OneSidedModel.stepOf
def kl927 : AL := [some ka283,some ka1,some ka69,some ka0,some ka40,none,none,none,none,none]
def kl928 : AL := [some ka283,some ka1,some ka69,some ka0,some ka40,some ka0,none,none,none,none]
def kl929 : AL := [some ka283,some ka1,some ka69,some ka0,some ka40,some ka0,some ka122,none,none,none]
def kc71 : List Int := [0,0,0,0,0,0,-833,0,0,0]
def kl930 : AL := [some ka283,some ka1,some ka69,some ka0,some ka40,some ka0,some ka1,none,none,none]
def ke690 : SE := (ka122,(1,6,0,0,0))
def kl931 : AL := [some ka283,some ka1,some ka69,some ka0,some ka40,some ka0,some ka123,none,none,none]
def kl932 : AL := [some ka283,some ka1,some ka69,some ka0,some ka40,some ka0,some ka123,some ka48,none,none]
def kc72 : List Int := [0,0,0,0,0,0,-833,-55,0,0]
def kl933 : AL := [some ka283,some ka1,some ka69,some ka0,some ka40,some ka0,some ka1,some ka1,none,none]
def kl934 : AL := [some ka283,some ka1,some ka69,some ka0,some ka40,some ka0,some ka123,some ka43,none,none]
def kl935 : AL := [some ka283,some ka1,some ka69,some ka0,some ka40,some ka0,some ka1,some ka43,none,none]
def ke691 : SE := (ka123,(1,6,0,0,0))
def kl936 : AL := [some ka283,some ka1,some ka69,some ka0,some ka40,some ka0,some ka123,some ka43,some ka91,none]
def kl937 : AL := [some ka283,some ka1,some ka69,some ka0,some ka40,some ka0,some ka1,some ka43,some ka91,none]
def kl938 : AL := [some ka283,some ka1,some ka69,some ka0,some ka40,some ka0,some ka36,some ka43,some ka91,none]
def ke692 : SE := (ka91,(1,8,0,0,0))
def kl939 : AL := [some ka283,some ka1,some ka69,some ka0,some ka40,some ka0,some ka123,some ka43,some ka91,some ka27]
def kl940 : AL := [some ka283,some ka1,some ka69,some ka0,some ka40,some ka0,some ka123,some ka43,some ka42,some ka27]
def kl941 : AL := [some ka283,some ka1,some ka69,some ka0,some ka40,some ka0,some ka123,some ka43,some ka36,some ka27]
def ke693 : SE := (ka27,(1,9,0,0,0))
def kl942 : AL := [some ka283,some ka1,some ka69,some ka0,some ka40,some ka0,some ka123,some ka43,some ka36,some ka2]
def kl943 : AL := [some ka283,some ka1,some ka69,some ka0,some ka40,some ka0,some ka123,some ka43,some ka36,some ka1]
def kl944 : AL := [some ka283,some ka1,some ka69,some ka0,some ka40,some ka0,some ka123,some ka49,some ka91,some ka27]
def kl945 : AL := [some ka283,some ka1,some ka69,some ka0,some ka40,some ka0,some ka126,some ka48,none,none]
def kl946 : AL := [some ka283,some ka1,some ka69,some ka0,some ka40,some ka0,some ka112,none,none,none]
def CN366_0 : List ND := [(0,(kl927,[],[]),17498,kc35,[1],0),
  (1,(kl927,[ke3],[]),17497,kc35,[2],0),
  (3,(kl928,[],[]),17496,kc35,[3],0),
  (4,(kl928,[ke6],[]),17495,kc35,[4],0),
  (6,(kl929,[],[]),17493,kc71,[6],0),
  (8,(kl930,[ke8],[]),17500,kc35,[7],0),
  (8,(kl929,[ke690],[]),17492,kc71,[8],0),
  (10,(kl930,[ke203,ke8],[]),17499,kc35,[9],0),
  (10,(kl929,[ke203,ke690],[]),17491,kc71,[88,9],0),
  (13,(kl931,[],[]),17490,kc71,[10],0),
  (14,(kl931,[ke6],[]),17489,kc71,[11],0),
  (16,(kl932,[],[]),17487,kc72,[13],0),
  (18,(kl933,[ke216],[]),17503,kc35,[14],0),
  (18,(kl932,[ke528],[]),17486,kc72,[15],0),
  (19,(kl933,[ke617,ke216],[]),17502,kc35,[16],321),
  (19,(kl932,[ke617,ke528],[]),17485,kc72,[17],321),
  (22,(kl933,[ke623,ke216],[]),17501,kc35,[86,18],0),
  (22,(kl932,[ke623,ke528],[]),17484,kc72,[86,18],0),
  (25,(kl934,[],kf160),17483,kc72,[19],0),
  (26,(kl934,[ke3],kf160),17482,kc72,[21],0),
  (28,(kl935,[ke8,ke3],kf160),17504,kc35,[23,22],336),
  (28,(kl934,[ke691,ke3],kf160),17481,kc72,[23,22],336),
  (31,(kl934,[ke6],kf160),16663,kc71,[86],0),
  (31,(kl934,[ke5],kf160),17480,kc72,[24],0),
  (34,(kl934,[],kf160),17479,kc72,[25],0),
  (35,(kl934,[ke617],kf160),17478,kc72,[26],0),
  (36,(kl934,[ke74,ke617],kf160),17477,kc72,[28],0),
  (38,(kl933,[ke216,ke74,ke617],kf160),17513,kc35,[29],0),
  (38,(kl934,[ke529,ke74,ke617],kf160),17476,kc72,[30],0),
  (39,(kl933,[ke617,ke216,ke74,ke617],kf160),17512,kc35,[31],0),
  (39,(kl934,[ke617,ke529,ke74,ke617],kf160),17475,kc72,[32],0),
  (40,(kl933,[ke96,ke617,ke216,ke74,ke617],kf160),17511,kc35,[34],0),
  (40,(kl934,[ke96,ke617,ke529,ke74,ke617],kf160),17474,kc72,[33],0),
  (41,(kl934,[ke6,ke96,ke617,ke529,ke74,ke617],kf160),17473,kc72,[36],350),
  (41,(kl933,[ke6,ke96,ke617,ke216,ke74,ke617],kf160),17510,kc35,[35],350),
  (44,(kl933,[ke34,ke216,ke74,ke617],kf160),17509,kc35,[38],0),
  (44,(kl934,[ke34,ke529,ke74,ke617],kf160),17472,kc72,[39],0),
  (46,(kl935,[ke8,ke34,ke529,ke74,ke617],kf160),17517,kc35,[40],0),
  (46,(kl933,[ke8,ke34,ke216,ke74,ke617],kf160),17508,kc35,[41],0),
  (46,(kl934,[ke691,ke34,ke529,ke74,ke617],kf160),17471,kc72,[42],0),
  (48,(kl935,[ke339,ke8,ke34,ke529,ke74,ke617],kf160),17516,kc35,[43],0),
  (48,(kl933,[ke339,ke8,ke34,ke216,ke74,ke617],kf160),17507,kc35,[44],0),
  (48,(kl934,[ke339,ke691,ke34,ke529,ke74,ke617],kf160),17470,kc72,[45],0),
  (49,(kl935,[ke6,ke34,ke529,ke74,ke617],kf160),17515,kc35,[46],0),
  (49,(kl933,[ke6,ke34,ke216,ke74,ke617],kf160),17506,kc35,[47],0),
  (49,(kl934,[ke52,ke34,ke529,ke74,ke617],kf160),17469,kc72,[48],0),
  (51,(kl935,[ke246,ke6,ke34,ke529,ke74,ke617],kf160),17514,kc35,[49],346),
  (51,(kl933,[ke246,ke6,ke34,ke216,ke74,ke617],kf160),17505,kc35,[49],346),
  (51,(kl934,[ke246,ke52,ke34,ke529,ke74,ke617],kf160),17468,kc72,[49],346),
  (54,(kl934,[ke142],kf160),17467,kc72,[50],0),
  (56,(kl936,[],kf160),17466,kc72,[52],0),
  (58,(kl937,[ke8],kf160),17519,kc35,[53],0),
  (58,(kl936,[ke691],kf160),17465,kc72,[54],0),
  (60,(kl937,[ke339,ke8],kf160),17518,kc35,[55],0),
  (60,(kl936,[ke339,ke691],kf160),17464,kc72,[61,55],0),
  (63,(kl938,[],kf160),17463,kc72,[56],0),
  (65,(kl938,[ke692],kf160),17462,kc72,[57],0),
  (66,(kl938,[ke617,ke692],kf160),17461,kc72,[58],0),
  (67,(kl938,[ke96,ke617,ke692],kf160),17460,kc72,[59],0),
  (68,(kl938,[ke56,ke96,ke617,ke692],kf160),17459,kc72,[60],352),
  (71,(kl938,[ke52,ke692],kf160),17458,kc72,[63,61],0),
  (74,(kl936,[],kf160),17455,kc72,[62],0),
  (75,(kl936,[ke5],kf160),17454,kc72,[65],0),
  (78,(kl938,[],kf160),17457,kc72,[64],0)]
def CN366_1 : List ND := [(79,(kl938,[ke6],kf160),17456,kc72,[66],0),
  (79,(kl936,[ke5],kf160),17453,kc72,[66],0),
  (81,(kl939,[],kf160),17452,kc72,[67],0),
  (83,(kl939,[ke140],kf160),17451,kc72,[68],0),
  (85,(kl939,[ke692,ke140],kf160),17450,kc72,[71,69],0),
  (88,(kl940,[ke140],kf160),17438,kc72,[70],0),
  (89,(kl940,[ke6,ke140],kf160),17437,kc72,[81],0),
  (92,(kl941,[ke140],kf160),17449,kc72,[72],0),
  (93,(kl941,[ke5,ke140],kf160),17448,kc72,[73],0),
  (95,(kl941,[ke648,ke5,ke140],kf160),17447,kc72,[74],0),
  (97,(kl941,[ke693,ke648,ke5,ke140],kf160),17446,kc72,[77,75],0),
  (100,(kl942,[ke648,ke5,ke140],kf160),17443,kc72,[76],0),
  (102,(kl942,[ke339,ke648,ke5,ke140],kf160),17442,kc72,[79],0),
  (105,(kl943,[ke648,ke5,ke140],kf160),17445,kc72,[78],0),
  (106,(kl943,[ke6,ke648,ke5,ke140],kf160),17444,kc72,[80],0),
  (106,(kl942,[ke339,ke648,ke5,ke140],kf160),17441,kc72,[80],0),
  (107,(kl941,[ke240,ke5,ke140],kf160),17440,kc72,[82],0),
  (108,(kl940,[ke6,ke140],kf160),17436,kc72,[83],0),
  (108,(kl941,[ke689,ke140],kf160),17439,kc72,[83],0),
  (109,(kl939,[ke7],kf160),17435,kc72,[84],0),
  (111,(kl939,[],kf160),17434,kc72,[85],0),
  (114,(kl944,[],kf160),17488,kc72,[11],0),
  (117,(kl932,[],[]),16662,kc71,[87],0),
  (120,(kl945,[],[]),17494,kc71,[4],0),
  (123,(kl946,[],[]),1,kc35,[89],0),
  (125,(kl946,[ke140],[]),0,kc35,[],0)]
def CN366 : List (List ND) := [CN366_0, CN366_1]
theorem CK366 : chkS prot SMs SM366 [] CN366 = true := by decide +kernel
-- OneSidedModel.firstHour
def kl947 : AL := [some ka283,some ka1,some ka69,some ka0,none,none]
def kl948 : AL := [some ka283,some ka1,some ka69,some ka0,some ka325,none]
def ke694 : SE := (ka325,(1,4,0,0,0))
def ka326 : AV := (0,0,524288,1)
def ke695 : SE := (ka326,pv0)
def kl949 : AL := [some ka283,some ka1,some ka69,some ka0,some ka0,some ka40]
def kc73 : List Int := [0,0,0,0,0,-36]
def kl950 : AL := [some ka283,some ka1,some ka69,some ka0,some ka0,some ka38]
def kl951 : AL := [some ka283,some ka1,some ka69,some ka0,some ka0,some ka58]
def kl952 : AL := [some ka283,some ka1,some ka69,some ka0,some ka0,some ka52]
def CN367_0 : List ND := [(0,(kl947,[],[]),926,kc4,[1],0),
  (1,(kl947,[ke617],[]),925,kc4,[2],0),
  (2,(kl947,[ke74,ke617],[]),924,kc4,[3],0),
  (3,(kl947,[ke96,ke74,ke617],[]),923,kc4,[4],365),
  (6,(kl947,[ke689],[]),922,kc4,[5],0),
  (8,(kl948,[],[]),921,kc4,[6],0),
  (10,(kl948,[ke694],[]),920,kc4,[7],0),
  (11,(kl948,[ke3,ke694],[]),919,kc4,[8],0),
  (12,(kl948,[ke695],[]),918,kc4,[16,9],0),
  (15,(kl948,[],[]),6,kc4,[10],0),
  (16,(kl948,[ke617],[]),5,kc4,[11],0),
  (19,(kl948,[ke631],[]),4,kc4,[12],0),
  (20,(kl948,[ke74,ke631],[]),3,kc4,[13],0),
  (21,(kl948,[ke6,ke74,ke631],[]),2,kc4,[14],0),
  (22,(kl948,[ke6,ke631],[]),1,kc4,[15],0),
  (23,(kl948,[ke682],[]),0,kc4,[],0),
  (24,(kl948,[],[]),917,kc4,[17],0),
  (25,(kl948,[ke617],[]),916,kc4,[18],0),
  (28,(kl948,[ke631],[]),915,kc4,[19],0),
  (29,(kl948,[ke74,ke631],[]),914,kc4,[20],0),
  (30,(kl948,[ke6,ke74,ke631],[]),913,kc4,[21],0),
  (31,(kl948,[ke6,ke631],[]),912,kc4,[22],0),
  (32,(kl948,[ke682],[]),911,kc4,[23],0),
  (34,(kl949,[],[]),909,kc73,[24],0),
  (36,(kl949,[ke598],[]),908,kc73,[25],0),
  (38,(kl949,[ke70,ke598],[]),907,kc73,[61,26],0),
  (41,(kl950,[],[]),906,kc73,[27],0),
  (43,(kl950,[ke215],[]),905,kc73,[28],0),
  (44,(kl950,[ke617,ke215],[]),904,kc73,[29],0),
  (47,(kl950,[ke631,ke215],[]),903,kc73,[30],0),
  (48,(kl950,[ke74,ke631,ke215],[]),902,kc73,[31],0),
  (49,(kl950,[ke6,ke74,ke631,ke215],[]),901,kc73,[32],0),
  (50,(kl950,[ke6,ke631,ke215],[]),900,kc73,[33],0),
  (51,(kl950,[ke682,ke215],[]),899,kc73,[46,34],0),
  (54,(kl950,[],kf175),898,kc73,[35],0),
  (55,(kl950,[ke617],kf175),897,kc73,[36],0),
  (58,(kl950,[ke631],kf175),896,kc73,[37],0),
  (59,(kl950,[ke74,ke631],kf175),895,kc73,[38],0),
  (61,(kl950,[ke80,ke74,ke631],kf175),894,kc73,[39],0),
  (62,(kl950,[ke80,ke631],kf175),893,kc73,[40],0),
  (63,(kl950,[ke96,ke80,ke631],kf175),892,kc73,[41],0),
  (64,(kl950,[ke685,ke631],kf175),891,kc73,[42],0),
  (65,(kl950,[ke65],kf175),890,kc73,[43],0),
  (66,(kl950,[ke5,ke65],kf175),889,kc73,[46,44],0),
  (69,(kl950,[],kf175),888,kc73,[45],0),
  (71,(kl950,[ke4],kf175),887,kc73,[52],0),
  (74,(kl950,[],[]),886,kc73,[47],0),
  (75,(kl950,[ke617],[]),885,kc73,[48],0),
  (76,(kl950,[ke74,ke617],[]),884,kc73,[49],0),
  (77,(kl950,[ke96,ke74,ke617],[]),883,kc73,[50],0),
  (79,(kl950,[ke4,ke96,ke74,ke617],[]),882,kc73,[51],0),
  (81,(kl950,[ke215,ke4,ke96,ke74,ke617],[]),881,kc73,[52],366),
  (84,(kl950,[ke7],[]),880,kc73,[53],0),
  (86,(kl950,[],[]),879,kc73,[54],0),
  (88,(kl950,[ke4],[]),878,kc73,[55],0),
  (89,(kl950,[ke3,ke4],[]),877,kc73,[56],0),
  (90,(kl950,[ke7],[]),876,kc73,[59,57],0),
  (93,(kl950,[],[]),8,kc4,[58],0),
  (95,(kl950,[ke215],[]),7,kc4,[],0),
  (96,(kl950,[],[]),875,kc73,[60],0),
  (99,(kl951,[],[]),910,kc73,[23],0),
  (102,(kl952,[],[]),10,kc4,[62],0),
  (103,(kl952,[ke41],[]),9,kc4,[],0)]
def CN367 : List (List ND) := [CN367_0]
theorem CK367 : chkS prot SMs SM367 [] CN367 = true := by decide +kernel
-- OneSidedModel.soonest
def kl953 : AL := [some ka283,some ka69,some ka36]
def ka327 : AV := (0,1024,524288,1)
def ke696 : SE := (ka327,pv0)
def CN368_0 : List ND := [(0,(kl857,[],[]),29,kc1,[1],0),
  (1,(kl857,[ke617],[]),28,kc1,[2],0),
  (2,(kl857,[ke6,ke617],[]),27,kc1,[3],0),
  (5,(kl857,[],kf159),26,kc1,[4],0),
  (6,(kl857,[ke617],kf159),25,kc1,[5],0),
  (7,(kl857,[ke1,ke617],kf159),24,kc1,[7,6],327),
  (10,(kl857,[ke6],kf159),23,kc1,[27],0),
  (10,(kl865,[ke5],kf159),22,kc1,[8],0),
  (13,(kl865,[],kf159),21,kc1,[9],0),
  (14,(kl865,[ke617],kf159),20,kc1,[10],0),
  (15,(kl865,[ke2,ke617],kf159),19,kc1,[12,11],333),
  (18,(kl865,[ke6],kf159),18,kc1,[27],0),
  (18,(kl953,[ke5],kf159),15,kc1,[13],0),
  (21,(kl953,[],kf159),14,kc1,[14],0),
  (22,(kl953,[ke617],kf159),13,kc1,[15],0),
  (23,(kl953,[ke6,ke617],kf159),12,kc1,[16],0),
  (24,(kl953,[ke130,ke6,ke617],kf159),11,kc1,[17],0),
  (25,(kl953,[ke5,ke130,ke6,ke617],kf159),10,kc1,[18],0),
  (26,(kl953,[ke191,ke5,ke130,ke6,ke617],kf159),9,kc1,[19],0),
  (27,(kl953,[ke181,ke130,ke6,ke617],kf159),8,kc1,[20],0),
  (28,(kl953,[ke5,ke181,ke130,ke6,ke617],kf159),7,kc1,[21],0),
  (30,(kl953,[ke339,ke5,ke181,ke130,ke6,ke617],kf159),6,kc1,[22],0),
  (31,(kl953,[ke191,ke339,ke5,ke181,ke130,ke6,ke617],kf159),5,kc1,[23],0),
  (32,(kl953,[ke519,ke5,ke181,ke130,ke6,ke617],kf159),4,kc1,[24],0),
  (33,(kl953,[ke696,ke181,ke130,ke6,ke617],kf159),3,kc1,[25],0),
  (34,(kl953,[ke7,ke130,ke6,ke617],kf159),2,kc1,[26],367),
  (37,(kl953,[ke192],kf159),1,kc1,[29],0),
  (40,(kl857,[],kf159),17,kc1,[28],0),
  (41,(kl857,[ke41],kf159),16,kc1,[],0),
  (41,(kl953,[ke192],kf159),0,kc1,[],0)]
def CN368 : List (List ND) := [CN368_0]
theorem CK368 : chkS prot SMs SM368 [] CN368 = true := by decide +kernel
-- OneSidedModel.errand
def kl954 : AL := [some ka283,some ka0,some ka0,none]
def kl955 : AL := [some ka283,some ka69,some ka0,none]
def kl956 : AL := [some ka283,some ka69,some ka170,none]
def kl957 : AL := [some ka283,some ka0,some ka0,some ka42]
def kl958 : AL := [some ka283,some ka69,some ka170,some ka110]
def ke697 : SE := (ka42,(1,3,0,0,0))
def kl959 : AL := [some ka283,some ka69,some ka170,some ka40]
def ke698 : SE := (ka24,(2,182,34,0,0))
def kl960 : AL := [some ka283,some ka69,some ka102,some ka40]
def kf181 : FA := [(182,0,ka1),(182,34,ka24)]
def ka328 : AV := (0,-1,30,1)
def kl961 : AL := [some ka283,some ka69,some ka328,some ka40]
def ke699 : SE := (ka328,(1,2,0,0,0))
def kl962 : AL := [some ka283,some ka69,some ka42,some ka40]
def kl963 : AL := [some ka283,some ka69,some ka24,some ka40]
def ke700 : SE := (ka24,(1,2,0,0,0))
def kl964 : AL := [some ka283,some ka69,some ka1,some ka40]
def kl965 : AL := [some ka283,some ka69,some ka1,some ka58]
def ka329 : AV := (0,1,30,1)
def kl966 : AL := [some ka283,some ka69,some ka329,some ka40]
def ka330 : AV := (2,202,202,0)
def ke701 : SE := (ka330,(2,182,33,0,0))
def ke702 : SE := (ka329,(1,2,0,0,0))
def ka331 : AV := (0,0,29,1)
def ke703 : SE := (ka331,pv0)
def CN371_0 : List ND := [(0,(kl954,[],[]),55,kc10,[1],0),
  (1,(kl954,[ke617],[]),54,kc10,[2],0),
  (2,(kl954,[ke6,ke617],[]),53,kc10,[3],0),
  (5,(kl954,[],kf159),52,kc10,[4],0),
  (6,(kl954,[ke617],kf159),51,kc10,[5],0),
  (7,(kl954,[ke1,ke617],kf159),50,kc10,[7,6],327),
  (10,(kl954,[ke6],kf159),49,kc10,[16],0),
  (10,(kl955,[ke5],kf159),48,kc10,[8],0),
  (13,(kl955,[],kf159),47,kc10,[9],0),
  (14,(kl955,[ke2],kf159),46,kc10,[10],0),
  (15,(kl955,[ke41,ke2],kf159),45,kc10,[16,11],0),
  (18,(kl956,[],kf159),40,kc10,[12],0),
  (19,(kl956,[ke617],kf159),39,kc10,[13],0),
  (20,(kl956,[ke6,ke617],kf159),38,kc10,[14],0),
  (21,(kl956,[ke130,ke6,ke617],kf159),37,kc10,[15],369),
  (24,(kl956,[ke192],kf159),36,kc10,[18],0),
  (27,(kl954,[],kf159),44,kc10,[17],0),
  (28,(kl954,[ke41],kf159),43,kc10,[19],0),
  (28,(kl956,[ke192],kf159),35,kc10,[20],0),
  (29,(kl957,[],kf159),42,kc10,[21],0),
  (29,(kl958,[],kf159),34,kc10,[22],0),
  (30,(kl957,[ke697],kf159),41,kc10,[27],0),
  (30,(kl958,[ke340],kf159),33,kc10,[27,23],0),
  (33,(kl959,[],kf159),30,kc10,[24],0),
  (34,(kl959,[ke341],kf159),29,kc10,[25],0),
  (35,(kl959,[ke617,ke341],kf159),28,kc10,[26],0),
  (38,(kl959,[ke698,ke341],kf159),27,kc10,[31,28],0),
  (41,(kl957,[],kf159),32,kc10,[29],0),
  (41,(kl960,[],kf181),1,kc10,[30],0),
  (43,(kl957,[ke171],kf159),31,kc10,[],0),
  (43,(kl960,[ke171],kf181),0,kc10,[],0),
  (44,(kl961,[],kf181),26,kc10,[32],0),
  (45,(kl961,[ke699],kf181),25,kc10,[35,33],0),
  (48,(kl962,[],kf181),4,kc10,[34],0),
  (49,(kl962,[ke182],kf181),3,kc10,[55],0),
  (52,(kl963,[],kf181),24,kc10,[36],0),
  (53,(kl963,[ke700],kf181),23,kc10,[47,37],0),
  (56,(kl964,[],kf181),16,kc10,[38],0),
  (57,(kl964,[ke182],kf181),15,kc10,[39],0),
  (58,(kl964,[ke617,ke182],kf181),14,kc10,[40],0),
  (59,(kl964,[ke130,ke617,ke182],kf181),13,kc10,[41],0),
  (60,(kl964,[ke36,ke130,ke617,ke182],kf181),12,kc10,[42],370),
  (63,(kl964,[ke39,ke182],kf181),11,kc10,[45,43],0),
  (66,(kl964,[],kf181),10,kc10,[44],0),
  (67,(kl964,[ke5],kf181),9,kc10,[54],0),
  (70,(kl965,[],kf181),7,kc10,[46],0),
  (71,(kl965,[ke6],kf181),6,kc10,[53],0),
  (74,(kl966,[],kf181),22,kc10,[48],0),
  (75,(kl966,[ke617],kf181),21,kc10,[49],0),
  (78,(kl966,[ke701],kf181),20,kc10,[50],0),
  (79,(kl966,[ke702,ke701],kf181),19,kc10,[51],0),
  (80,(kl966,[ke5,ke702,ke701],kf181),18,kc10,[52],0),
  (81,(kl966,[ke703,ke701],kf181),17,kc10,[55],0),
  (82,(kl965,[ke6],kf181),5,kc10,[],0),
  (82,(kl964,[ke5],kf181),8,kc10,[],0),
  (82,(kl961,[ke39],kf159),2,kc10,[],0)]
def CN371 : List (List ND) := [CN371_0]
theorem CK371 : chkS prot SMs SM371 [] CN371 = true := by decide +kernel
-- OneSidedModel.reach
def kl967 : AL := [some ka283,some ka0,none,none]
def kl968 : AL := [some ka283,some ka69,none,none]
def kl969 : AL := [some ka283,some ka69,some ka325,none]
def kl970 : AL := [some ka283,some ka69,some ka0,some ka89]
def kc74 : List Int := [0,0,0,-12]
def ke704 : SE := (ka89,(1,3,0,0,0))
def kl971 : AL := [some ka283,some ka69,some ka0,some ka38]
def kl972 : AL := [some ka283,some ka69,some ka0,some ka58]
def kl973 : AL := [some ka283,some ka69,some ka0,some ka90]
def ka332 : AV := (0,1023,1023,0)
def ke705 : SE := (ka332,pv0)
def CN372_0 : List ND := [(0,(kl967,[],[]),346,kc10,[1],0),
  (1,(kl967,[ke617],[]),345,kc10,[2],0),
  (2,(kl967,[ke6,ke617],[]),344,kc10,[3],0),
  (5,(kl967,[],kf159),343,kc10,[4],0),
  (6,(kl967,[ke617],kf159),342,kc10,[5],0),
  (7,(kl967,[ke1,ke617],kf159),341,kc10,[7,6],327),
  (10,(kl967,[ke6],kf159),340,kc10,[8],0),
  (10,(kl968,[ke5],kf159),337,kc10,[10],0),
  (13,(kl967,[],kf159),339,kc10,[9],0),
  (14,(kl967,[ke41],kf159),338,kc10,[],0),
  (15,(kl968,[],kf159),336,kc10,[11],0),
  (16,(kl968,[ke617],kf159),335,kc10,[12],0),
  (17,(kl968,[ke6,ke617],kf159),334,kc10,[13],0),
  (18,(kl968,[ke130,ke6,ke617],kf159),333,kc10,[14],365),
  (21,(kl968,[ke689],kf159),332,kc10,[15],0),
  (22,(kl969,[],kf159),331,kc10,[16],0),
  (23,(kl969,[ke617],kf159),330,kc10,[17],0),
  (26,(kl969,[ke631],kf159),329,kc10,[18],0),
  (27,(kl969,[ke6,ke631],kf159),328,kc10,[19],0),
  (28,(kl969,[ke682],kf159),327,kc10,[20],0),
  (29,(kl969,[ke617,ke682],kf159),326,kc10,[21],0),
  (32,(kl969,[ke631,ke682],kf159),325,kc10,[22],0),
  (34,(kl969,[ke80,ke631,ke682],kf159),324,kc10,[23],0),
  (35,(kl969,[ke130,ke80,ke631,ke682],kf159),323,kc10,[24],0),
  (36,(kl969,[ke685,ke631,ke682],kf159),322,kc10,[25],0),
  (37,(kl969,[ke65,ke682],kf159),321,kc10,[26],0),
  (38,(kl969,[ke176],kf159),320,kc10,[27],0),
  (39,(kl970,[],kf159),318,kc74,[28],0),
  (40,(kl970,[ke704],kf159),317,kc74,[29],0),
  (42,(kl970,[ke70,ke704],kf159),316,kc74,[39,30],0),
  (45,(kl971,[],kf159),315,kc74,[31],0),
  (46,(kl971,[ke617],kf159),314,kc74,[32],0),
  (47,(kl971,[ke6,ke617],kf159),313,kc74,[33],0),
  (48,(kl971,[ke130,ke6,ke617],kf159),312,kc74,[34],0),
  (49,(kl971,[ke2,ke130,ke6,ke617],kf159),311,kc74,[35],0),
  (50,(kl971,[ke43,ke2,ke130,ke6,ke617],kf159),310,kc74,[36],366),
  (53,(kl971,[ke7],kf159),309,kc74,[37],0),
  (54,(kl971,[],kf159),308,kc74,[38],0),
  (57,(kl972,[],kf159),319,kc74,[27],0),
  (60,(kl973,[],kf159),7,kc10,[40],0),
  (61,(kl973,[ke2],kf159),6,kc10,[41],0),
  (62,(kl973,[ke2,ke2],kf159),5,kc10,[42],0),
  (64,(kl973,[ke339,ke2,ke2],kf159),4,kc10,[43],0),
  (65,(kl973,[ke7,ke2],kf159),3,kc10,[44],0),
  (66,(kl973,[ke7],kf159),2,kc10,[45],0),
  (69,(kl973,[ke705,ke7],kf159),1,kc10,[46],0),
  (70,(kl973,[ke54],kf159),0,kc10,[],0)]
def CN372 : List (List ND) := [CN372_0]
theorem CK372 : chkS prot SMs SM372 [] CN372 = true := by decide +kernel
-- OneSidedModel.errandHour
def CN374_0 : List ND := [(0,(kl912,[],[]),12,kc1,[1],0),
  (1,(kl912,[ke617],[]),11,kc1,[2],0),
  (2,(kl912,[ke74,ke617],[]),10,kc1,[3],0),
  (3,(kl912,[ke96,ke74,ke617],[]),9,kc1,[4],0),
  (4,(kl912,[ke5,ke96,ke74,ke617],[]),8,kc1,[5],0),
  (6,(kl912,[ke339,ke5,ke96,ke74,ke617],[]),7,kc1,[6],0),
  (7,(kl912,[ke617,ke339,ke5,ke96,ke74,ke617],[]),6,kc1,[7],0),
  (8,(kl912,[ke96,ke617,ke339,ke5,ke96,ke74,ke617],[]),5,kc1,[8],0),
  (9,(kl912,[ke5,ke96,ke617,ke339,ke5,ke96,ke74,ke617],[]),4,kc1,[9],373),
  (12,(kl912,[ke52,ke339,ke5,ke96,ke74,ke617],[]),3,kc1,[10],0),
  (13,(kl912,[ke519,ke5,ke96,ke74,ke617],[]),2,kc1,[11],0),
  (14,(kl912,[ke696,ke96,ke74,ke617],[]),1,kc1,[12],367),
  (17,(kl912,[ke192],[]),0,kc1,[],0)]
def CN374 : List (List ND) := [CN374_0]
theorem CK374 : chkS prot SMs SM374 [] CN374 = true := by decide +kernel
-- OneSidedModel.stuck
def kl974 : AL := [some ka283,none,none]
def kl975 : AL := [some ka283,some ka47,some ka65]
def kc75 : List Int := [0,0,-20]
def kl976 : AL := [some ka283,some ka47,some ka69]
def kf182 : FA := [(182,0,ka1),(188,2,ka63)]
def kl977 : AL := [some ka283,some ka47,some ka63]
def CN375_0 : List ND := [(0,(kl974,[],[]),148,kc1,[1],0),
  (1,(kl974,[ke617],[]),147,kc1,[2],0),
  (2,(kl974,[ke6,ke617],[]),146,kc1,[3],0),
  (5,(kl974,[],kf159),145,kc1,[4],0),
  (6,(kl974,[ke6],kf159),144,kc1,[5],0),
  (7,(kl909,[],kf159),143,kc1,[6],0),
  (8,(kl909,[ke6],kf159),142,kc1,[7],0),
  (9,(kl975,[],kf159),140,kc75,[9],0),
  (10,(kl911,[ke77],kf159),151,kc1,[10],0),
  (10,(kl975,[ke350],kf159),139,kc75,[11],0),
  (11,(kl911,[ke617,ke77],kf159),150,kc1,[12],326),
  (11,(kl975,[ke617,ke350],kf159),138,kc75,[13],326),
  (14,(kl911,[ke634,ke77],kf159),149,kc1,[42,14],0),
  (14,(kl975,[ke634,ke350],kf159),137,kc75,[42,14],0),
  (17,(kl976,[],kf182),136,kc75,[16],0),
  (18,(kl911,[ke74],kf182),163,kc1,[17],0),
  (18,(kl976,[ke351],kf182),135,kc75,[18],0),
  (19,(kl911,[ke617,ke74],kf182),162,kc1,[19],0),
  (19,(kl976,[ke617,ke351],kf182),134,kc75,[20],0),
  (20,(kl911,[ke6,ke617,ke74],kf182),161,kc1,[21],0),
  (20,(kl976,[ke6,ke617,ke351],kf182),133,kc75,[22],0),
  (21,(kl911,[ke77,ke6,ke617,ke74],kf182),160,kc1,[23],374),
  (21,(kl976,[ke96,ke6,ke617,ke351],kf182),132,kc75,[24],374),
  (24,(kl911,[ke192,ke74],kf182),159,kc1,[33,25],0),
  (24,(kl976,[ke192,ke351],kf182),131,kc75,[34,26],0),
  (27,(kl911,[ke74],kf182),156,kc1,[27],0),
  (27,(kl976,[ke351],kf182),128,kc75,[28],0),
  (28,(kl911,[ke5,ke74],kf182),155,kc1,[29],0),
  (28,(kl976,[ke5,ke351],kf182),127,kc75,[30],0),
  (29,(kl911,[ke77,ke5,ke74],kf182),154,kc1,[31],0),
  (29,(kl976,[ke96,ke5,ke351],kf182),126,kc75,[32],0),
  (30,(kl911,[ke5,ke74],kf182),153,kc1,[36],0),
  (30,(kl976,[ke100,ke351],kf182),125,kc75,[38],0),
  (33,(kl911,[ke74],kf182),158,kc1,[35],0),
  (33,(kl976,[ke351],kf182),130,kc75,[37],0),
  (34,(kl911,[ke6,ke74],kf182),157,kc1,[39],0),
  (34,(kl911,[ke5,ke74],kf182),152,kc1,[39],0),
  (34,(kl976,[ke6,ke351],kf182),129,kc75,[39],0),
  (34,(kl976,[ke100,ke351],kf182),124,kc75,[39],0),
  (35,(kl976,[ke54],kf182),123,kc75,[40],0),
  (36,(kl976,[],kf182),122,kc75,[41],0),
  (39,(kl977,[],kf182),141,kc75,[7],0),
  (42,(kl975,[],kf159),1,kc1,[43],0),
  (43,(kl975,[ke351],kf159),0,kc1,[],0)]
def CN375 : List (List ND) := [CN375_0]
theorem CK375 : chkS prot SMs SM375 [] CN375 = true := by decide +kernel
-- OneSidedModel.mayAsk
def kl978 : AL := [some ka283,some ka34,some ka0]
def kl979 : AL := [some ka283,some ka34,some ka38]
def CN376_0 : List ND := [(0,(kl857,[],[]),16,kc1,[1],0),
  (1,(kl857,[ke1],[]),15,kc1,[2],0),
  (2,(kl857,[ke6,ke1],[]),14,kc1,[3],0),
  (3,(kl857,[ke36,ke6,ke1],[]),13,kc1,[5,4],331),
  (6,(kl857,[ke6],[]),2,kc1,[14],0),
  (6,(kl978,[ke5],[]),12,kc1,[6],0),
  (9,(kl978,[],[]),11,kc1,[7],0),
  (10,(kl978,[ke2],[]),10,kc1,[8],0),
  (11,(kl978,[ke6,ke2],[]),9,kc1,[9],0),
  (13,(kl978,[ke334,ke6,ke2],[]),8,kc1,[11,10],334),
  (16,(kl978,[ke6],[]),3,kc1,[14],0),
  (16,(kl979,[ke5],[]),7,kc1,[12],0),
  (19,(kl979,[],[]),6,kc1,[13],0),
  (20,(kl979,[ke5],[]),5,kc1,[16],0),
  (23,(kl857,[],[]),1,kc1,[15],0),
  (24,(kl857,[ke6],[]),0,kc1,[],1),
  (24,(kl979,[ke5],[]),4,kc1,[],0)]
def CN376 : List (List ND) := [CN376_0]
theorem CK376 : chkS prot SMs SM376 [(1,1),(2,2)] CN376 = true := by decide +kernel
-- OneSidedModel.laysInto
def kl980 : AL := [some ka283,some ka34,some ka40,some ka0,some ka0,none,none,none]
def kl981 : AL := [some ka283,some ka34,some ka40,some ka0,some ka0,some ka172,none,none]
def kc76 : List Int := [0,0,0,0,0,-522,0,0]
def kl982 : AL := [some ka283,some ka34,some ka40,some ka0,some ka0,some ka1,none,none]
def kl983 : AL := [some ka283,some ka34,some ka40,some ka0,some ka0,some ka36,none,none]
def ka333 : AV := (2,203,203,0)
def ke706 : SE := (ka333,(2,182,37,0,0))
def kl984 : AL := [some ka283,some ka34,some ka40,some ka0,some ka0,some ka36,some ka48,none]
def kc77 : List Int := [0,0,0,0,0,-522,-34,0]
def kl985 : AL := [some ka283,some ka34,some ka40,some ka0,some ka0,some ka1,some ka1,none]
def kf183 : FA := [(203,0,ka1)]
def ke707 : SE := (ka48,(1,6,0,0,0))
def kl986 : AL := [some ka283,some ka34,some ka40,some ka0,some ka0,some ka36,some ka43,none]
def kl987 : AL := [some ka283,some ka34,some ka40,some ka0,some ka0,some ka1,some ka43,none]
def kf184 : FA := [(188,0,ka173),(188,1,ka49)]
def kf185 : FA := [(188,0,ka173),(188,1,ka49),(203,0,ka1)]
def ke708 : SE := (ka43,(1,6,0,0,0))
def kl988 : AL := [some ka283,some ka34,some ka40,some ka0,some ka0,some ka36,some ka43,some ka91]
def kl989 : AL := [some ka283,some ka34,some ka40,some ka0,some ka0,some ka1,some ka43,some ka91]
def kl990 : AL := [some ka283,some ka34,some ka40,some ka0,some ka0,some ka1,some ka1,some ka91]
def ke709 : SE := (ka1,(2,203,0,0,0))
def ke710 : SE := (ka47,(2,203,0,0,0))
def ke711 : SE := (ka91,(1,7,0,0,0))
def kl991 : AL := [some ka283,some ka34,some ka40,some ka0,some ka0,some ka1,some ka1,some ka42]
def kl992 : AL := [some ka283,some ka34,some ka40,some ka0,some ka0,some ka1,some ka43,some ka42]
def kl993 : AL := [some ka283,some ka34,some ka40,some ka0,some ka0,some ka36,some ka43,some ka42]
def kl994 : AL := [some ka283,some ka34,some ka40,some ka0,some ka0,some ka1,some ka1,some ka36]
def kl995 : AL := [some ka283,some ka34,some ka40,some ka0,some ka0,some ka1,some ka43,some ka36]
def kl996 : AL := [some ka283,some ka34,some ka40,some ka0,some ka0,some ka36,some ka43,some ka36]
def kl997 : AL := [some ka283,some ka34,some ka40,some ka0,some ka0,some ka36,some ka49,some ka91]
def kl998 : AL := [some ka283,some ka34,some ka40,some ka0,some ka0,some ka173,some ka48,none]
def kl999 : AL := [some ka283,some ka34,some ka40,some ka0,some ka0,some ka135,none,none]
def CN377_0 : List ND := [(0,(kl980,[],[]),5744,kc2,[1],0),
  (1,(kl980,[ke6],[]),5743,kc2,[2],0),
  (3,(kl981,[],[]),5741,kc76,[4],0),
  (5,(kl982,[ke16],[]),5746,kc2,[5],0),
  (5,(kl981,[ke352],[]),5740,kc76,[6],0),
  (7,(kl982,[ke339,ke16],[]),5745,kc2,[7],0),
  (7,(kl981,[ke339,ke352],[]),5739,kc76,[87,7],0),
  (10,(kl983,[],[]),5738,kc76,[8],0),
  (11,(kl983,[ke617],[]),5737,kc76,[9],0),
  (14,(kl983,[ke706],[]),5736,kc76,[11],0),
  (16,(kl982,[ke16,ke706],[]),5748,kc2,[12],0),
  (16,(kl983,[ke44,ke706],[]),5735,kc76,[13],0),
  (17,(kl982,[ke6,ke16,ke706],[]),5747,kc2,[14],0),
  (17,(kl983,[ke6,ke44,ke706],[]),5734,kc76,[14],0),
  (18,(kl983,[],[]),5733,kc76,[15],0),
  (19,(kl983,[ke6],[]),5732,kc76,[16],0),
  (21,(kl984,[],[]),5730,kc77,[18],0),
  (23,(kl985,[ke8],kf183),5751,kc2,[19],0),
  (23,(kl984,[ke707],[]),5729,kc77,[20],0),
  (24,(kl985,[ke617,ke8],kf183),5750,kc2,[21],321),
  (24,(kl984,[ke617,ke707],[]),5728,kc77,[22],321),
  (27,(kl985,[ke623,ke8],kf183),5749,kc2,[85,23],0),
  (27,(kl984,[ke623,ke707],[]),5727,kc77,[85,23],0),
  (30,(kl986,[],kf160),5726,kc77,[25],0),
  (32,(kl987,[ke16],kf160),5754,kc2,[26],0),
  (32,(kl986,[ke44],kf160),5725,kc77,[27],0),
  (33,(kl987,[ke617,ke16],kf160),5753,kc2,[28],332),
  (33,(kl986,[ke617,ke44],kf160),5724,kc77,[29],332),
  (36,(kl987,[ke643,ke16],kf160),5752,kc2,[85,30],0),
  (36,(kl986,[ke643,ke44],kf160),5723,kc77,[85,30],0),
  (39,(kl986,[],kf184),5722,kc77,[31],0),
  (40,(kl986,[ke617],kf184),5721,kc77,[33],0),
  (42,(kl985,[ke8,ke617],kf185),5760,kc2,[34],0),
  (42,(kl986,[ke708,ke617],kf184),5720,kc77,[35],0),
  (43,(kl985,[ke60,ke8,ke617],kf185),5759,kc2,[36],0),
  (43,(kl986,[ke60,ke708,ke617],kf184),5719,kc77,[38],0),
  (45,(kl985,[ke16,ke60,ke8,ke617],kf185),5758,kc2,[39],0),
  (45,(kl987,[ke16,ke60,ke708,ke617],kf184),5764,kc2,[40],0),
  (45,(kl986,[ke44,ke60,ke708,ke617],kf184),5718,kc77,[41],0),
  (46,(kl985,[ke78,ke16,ke60,ke8,ke617],kf185),5757,kc2,[42],0),
  (46,(kl987,[ke78,ke16,ke60,ke708,ke617],kf184),5763,kc2,[43],0),
  (46,(kl986,[ke78,ke44,ke60,ke708,ke617],kf184),5717,kc77,[44],0),
  (47,(kl985,[ke3,ke78,ke16,ke60,ke8,ke617],kf185),5756,kc2,[45],0),
  (47,(kl987,[ke3,ke78,ke16,ke60,ke708,ke617],kf184),5762,kc2,[46],0),
  (47,(kl986,[ke3,ke78,ke44,ke60,ke708,ke617],kf184),5716,kc77,[47],0),
  (49,(kl985,[ke4,ke3,ke78,ke16,ke60,ke8,ke617],kf185),5755,kc2,[48],345),
  (49,(kl987,[ke4,ke3,ke78,ke16,ke60,ke708,ke617],kf184),5761,kc2,[48],345),
  (49,(kl986,[ke4,ke3,ke78,ke44,ke60,ke708,ke617],kf184),5715,kc77,[48],345),
  (52,(kl986,[ke142],kf184),5714,kc77,[49],0),
  (54,(kl988,[],kf184),5713,kc77,[50],0),
  (55,(kl988,[ke617],kf184),5712,kc77,[51],0),
  (58,(kl988,[ke706],kf184),5711,kc77,[53],0),
  (60,(kl989,[ke16,ke706],kf184),5775,kc2,[54],0),
  (60,(kl988,[ke44,ke706],kf184),5710,kc77,[55],0),
  (61,(kl989,[ke16,ke706,ke16,ke706],kf184),5774,kc2,[57],0),
  (61,(kl988,[ke44,ke706,ke44,ke706],kf184),5709,kc77,[58],0),
  (62,(kl990,[ke709,ke16,ke706],kf185),5783,kc2,[59],0),
  (62,(kl989,[ke710,ke16,ke706],kf184),5773,kc2,[60],0),
  (62,(kl988,[ke54,ke44,ke706],kf184),5708,kc77,[61],0),
  (64,(kl990,[ke711,ke709,ke16,ke706],kf185),5782,kc2,[68,62],0),
  (64,(kl989,[ke711,ke710,ke16,ke706],kf184),5772,kc2,[69,63],0),
  (64,(kl988,[ke711,ke54,ke44,ke706],kf184),5707,kc77,[70,64],0),
  (67,(kl991,[ke709,ke16,ke706],kf185),5781,kc2,[66],0),
  (67,(kl992,[ke710,ke16,ke706],kf184),5771,kc2,[65],0)]
def CN377_1 : List ND := [(67,(kl993,[ke54,ke44,ke706],kf184),5706,kc77,[67],0),
  (68,(kl992,[ke6,ke710,ke16,ke706],kf184),5770,kc2,[77],0),
  (68,(kl991,[ke6,ke709,ke16,ke706],kf185),5780,kc2,[78],0),
  (68,(kl993,[ke6,ke54,ke44,ke706],kf184),5705,kc77,[79],0),
  (71,(kl994,[ke709,ke16,ke706],kf185),5778,kc2,[71],0),
  (71,(kl995,[ke710,ke16,ke706],kf184),5767,kc2,[72],0),
  (71,(kl996,[ke54,ke44,ke706],kf184),5703,kc77,[73],0),
  (72,(kl994,[ke5,ke709,ke16,ke706],kf185),5777,kc2,[74],0),
  (72,(kl995,[ke5,ke710,ke16,ke706],kf184),5766,kc2,[75],0),
  (72,(kl996,[ke5,ke54,ke44,ke706],kf184),5702,kc77,[76],0),
  (74,(kl994,[ke359,ke5,ke709,ke16,ke706],kf185),5776,kc2,[77],0),
  (74,(kl995,[ke359,ke5,ke710,ke16,ke706],kf184),5765,kc2,[79],0),
  (74,(kl996,[ke359,ke5,ke54,ke44,ke706],kf184),5701,kc77,[80],0),
  (75,(kl989,[ke195,ke710,ke16,ke706],kf184),5769,kc2,[81],0),
  (75,(kl991,[ke6,ke709,ke16,ke706],kf185),5779,kc2,[81],0),
  (75,(kl988,[ke195,ke54,ke44,ke706],kf184),5704,kc77,[82],0),
  (75,(kl996,[ke181,ke54,ke44,ke706],kf184),5700,kc77,[82],0),
  (76,(kl989,[ke54,ke16,ke706],kf184),5768,kc2,[83],0),
  (76,(kl988,[ke54,ke44,ke706],kf184),5699,kc77,[83],0),
  (77,(kl988,[],kf184),5698,kc77,[84],0),
  (80,(kl997,[],kf184),5731,kc77,[16],0),
  (83,(kl984,[],[]),5221,kc76,[86],0),
  (86,(kl998,[],[]),5742,kc76,[2],0),
  (89,(kl999,[],[]),0,kc2,[],0)]
def CN377 : List (List ND) := [CN377_0, CN377_1]
theorem CK377 : chkS prot SMs SM377 [] CN377 = true := by decide +kernel
