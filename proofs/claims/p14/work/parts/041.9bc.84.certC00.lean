/-! LM, by program: certificates C 0 -/
-- OneSided$Reader.isLetter [(2, 2), (0, 999)]
def Cka0 : AV := (2,2,2,0)
def Cka1 : AV := (0,0,999,1)
def Ckl0 : AL := [some Cka0,some Cka1]
def Ckc0 : List Int := [0,0]
def Cke0 : SE := (Cka0,(1,0,0,0,0))
def Cka2 : AV := (2,3,3,0)
def Cke1 : SE := (Cka2,(2,2,1,0,0))
def Cke2 : SE := (Cka1,(1,1,0,0,0))
def Cka3 : AV := (0,-128,127,1)
def Cke3 : SE := (Cka3,pv0)
def Cka4 : AV := (0,97,97,0)
def Cke4 : SE := (Cka4,pv0)
def Cka5 : AV := (0,122,122,0)
def Cke5 : SE := (Cka5,pv0)
def Cka6 : AV := (0,1,1,0)
def Cke6 : SE := (Cka6,pv0)
def Cka7 : AV := (0,0,0,0)
def Cke7 : SE := (Cka7,pv0)
def CNC0_0 : List ND := [(0,(Ckl0,[],[]),16,Ckc0,[1],0),
  (1,(Ckl0,[Cke0],[]),15,Ckc0,[2],0),
  (4,(Ckl0,[Cke1],[]),14,Ckc0,[3],0),
  (5,(Ckl0,[Cke2,Cke1],[]),13,Ckc0,[4],0),
  (6,(Ckl0,[Cke3],[]),12,Ckc0,[5],0),
  (8,(Ckl0,[Cke4,Cke3],[]),11,Ckc0,[14,6],0),
  (11,(Ckl0,[],[]),10,Ckc0,[7],0),
  (12,(Ckl0,[Cke0],[]),9,Ckc0,[8],0),
  (15,(Ckl0,[Cke1],[]),8,Ckc0,[9],0),
  (16,(Ckl0,[Cke2,Cke1],[]),7,Ckc0,[10],0),
  (17,(Ckl0,[Cke3],[]),6,Ckc0,[11],0),
  (19,(Ckl0,[Cke5,Cke3],[]),5,Ckc0,[14,12],0),
  (22,(Ckl0,[],[]),4,Ckc0,[13],0),
  (23,(Ckl0,[Cke6],[]),3,Ckc0,[16],0),
  (26,(Ckl0,[],[]),1,Ckc0,[15],0),
  (27,(Ckl0,[Cke7],[]),0,Ckc0,[],1),
  (27,(Ckl0,[Cke6],[]),2,Ckc0,[],0)]
def CNC0 : List (List ND) := [CNC0_0]
theorem CKC0 : chkS prot SMsC SMC0 [] CNC0 = true := by decide +kernel
-- OneSided$Reader.withLetter [(-9223372036854775808, 9223372036854775807), (0, 65535)]
def Cka8 : AV := (1,-9223372036854775808,9223372036854775807,1)
def Cka9 : AV := (0,0,65535,1)
def Ckl1 : AL := [some Cka8,none,some Cka9]
def Ckc1 : List Int := [0,0,0]
def Cke8 : SE := (Cka8,(1,0,0,0,0))
def Cka10 : AV := (1,32,32,0)
def Cke9 : SE := (Cka10,pv0)
def Cke10 : SE := (Cka8,pv0)
def Cke11 : SE := (Cka9,(1,2,0,0,0))
def Cka11 : AV := (1,0,65535,1)
def Cke12 : SE := (Cka11,pv0)
def Cka12 : AV := (1,97,97,0)
def Cke13 : SE := (Cka12,pv0)
def Cka13 : AV := (1,1,1,0)
def Cke14 : SE := (Cka13,pv0)
def CNC1_0 : List ND := [(0,(Ckl1,[],[]),10,Ckc1,[1],0),
  (1,(Ckl1,[Cke8],[]),9,Ckc1,[2],0),
  (4,(Ckl1,[Cke9,Cke8],[]),8,Ckc1,[3],0),
  (5,(Ckl1,[Cke10],[]),7,Ckc1,[4],0),
  (6,(Ckl1,[Cke11,Cke10],[]),6,Ckc1,[5],0),
  (7,(Ckl1,[Cke12,Cke10],[]),5,Ckc1,[6],0),
  (8,(Ckl1,[Cke10],[]),4,Ckc1,[7],0),
  (11,(Ckl1,[Cke13,Cke10],[]),3,Ckc1,[8],0),
  (12,(Ckl1,[Cke10],[]),2,Ckc1,[9],0),
  (13,(Ckl1,[Cke14,Cke10],[]),1,Ckc1,[10],0),
  (14,(Ckl1,[Cke10],[]),0,Ckc1,[],0)]
def CNC1 : List (List ND) := [CNC1_0]
theorem CKC1 : chkS prot SMsC SMC1 [] CNC1 = true := by decide +kernel
-- OneSided$Reader.scanWord [(2, 2)]
def Ckl2 : AL := [some Cka0,none,none]
def Cka14 : AV := (0,0,1000,1)
def Cke15 : SE := (Cka14,(2,2,4,0,0))
def Ckl3 : AL := [some Cka0,some Cka14,none]
def Ckc2 : List Int := [0,-20,0]
def Cke16 : SE := (Cka14,(1,1,0,0,0))
def Cke17 : SE := (Cka14,(2,2,0,0,0))
def Ckl4 : AL := [some Cka0,some Cka1,none]
def Cka15 : AV := (0,1,1000,1)
def Ckf0 : FA := [(2,0,Cka15)]
def Cke18 : SE := (Cka8,(2,2,6,0,0))
def Cke19 : SE := (Cka9,pv0)
def Ckl5 : AL := [some Cka0,some Cka15,none]
def Ckf1 : FA := [(2,0,Cka14)]
def Cka16 : AV := (0,-1000,1000,1)
def Cke20 : SE := (Cka16,pv0)
def Cka17 : AV := (0,8,8,0)
def Cke21 : SE := (Cka17,pv0)
def Cka18 : AV := (0,2,2,0)
def Cke22 : SE := (Cka18,pv0)
def Cka19 : AV := (0,1,2,1)
def Ckf2 : FA := [(2,3,Cka19)]
def Cka20 : AV := (0,0,29,1)
def Ckl6 : AL := [some Cka0,some Cka14,some Cka20]
def Ckc3 : List Int := [0,0,-20]
def Ckl7 : AL := [some Cka0,some Cka14,some Cka7]
def Cke23 : SE := (Cka7,(1,2,0,0,0))
def Cke24 : SE := (Cka20,(1,2,0,0,0))
def Cka21 : AV := (0,29,29,0)
def Cke25 : SE := (Cka21,pv0)
def Cka22 : AV := (0,0,28,1)
def Ckl8 : AL := [some Cka0,some Cka14,some Cka22]
def Cke26 : SE := (Cka19,(2,2,3,0,0))
def Ckf3 : FA := [(2,3,Cka18)]
def Cka23 : AV := (2,4,4,0)
def Cke27 : SE := (Cka23,(2,2,2,0,0))
def Cke28 : SE := (Cka22,(1,2,0,0,0))
def Cka24 : AV := (0,-1,1,1)
def Cke29 : SE := (Cka24,pv0)
def Ckf4 : FA := [(2,3,Cka18),(4,0,Cka8)]
def Cka25 : AV := (0,1,29,1)
def Ckl9 : AL := [some Cka0,some Cka14,some Cka25]
def CNC2_0 : List ND := [(0,(Ckl2,[],[]),20641,Ckc1,[1],0),
  (1,(Ckl2,[Cke0],[]),20640,Ckc1,[2],0),
  (4,(Ckl2,[Cke15],[]),20639,Ckc1,[3],0),
  (5,(Ckl3,[],[]),20637,Ckc2,[4],0),
  (6,(Ckl3,[Cke16],[]),20636,Ckc2,[5],0),
  (7,(Ckl3,[Cke0,Cke16],[]),20635,Ckc2,[6],0),
  (10,(Ckl3,[Cke17,Cke16],[]),20634,Ckc2,[24,7],0),
  (13,(Ckl4,[],Ckf0),20633,Ckc2,[8],0),
  (14,(Ckl4,[Cke0],Ckf0),20632,Ckc2,[9],0),
  (15,(Ckl4,[Cke2,Cke0],Ckf0),20631,Ckc2,[11,10],0),
  (18,(Ckl4,[Cke7],Ckf0),618,Ckc1,[24],0),
  (18,(Ckl4,[Cke6],Ckf0),20630,Ckc2,[12],0),
  (21,(Ckl4,[],Ckf0),20629,Ckc2,[13],0),
  (22,(Ckl4,[Cke0],Ckf0),20628,Ckc2,[14],0),
  (23,(Ckl4,[Cke0,Cke0],Ckf0),20627,Ckc2,[15],0),
  (26,(Ckl4,[Cke18,Cke0],Ckf0),20626,Ckc2,[16],0),
  (27,(Ckl4,[Cke0,Cke18,Cke0],Ckf0),20625,Ckc2,[17],0),
  (30,(Ckl4,[Cke1,Cke18,Cke0],Ckf0),20624,Ckc2,[18],0),
  (31,(Ckl4,[Cke2,Cke1,Cke18,Cke0],Ckf0),20623,Ckc2,[19],0),
  (32,(Ckl4,[Cke3,Cke18,Cke0],Ckf0),20622,Ckc2,[20],0),
  (33,(Ckl4,[Cke19,Cke18,Cke0],Ckf0),20621,Ckc2,[21],1),
  (36,(Ckl4,[Cke10,Cke0],Ckf0),20620,Ckc2,[22],0),
  (39,(Ckl4,[],Ckf0),20619,Ckc2,[23],0),
  (42,(Ckl5,[],Ckf0),20638,Ckc2,[3],0),
  (45,(Ckl3,[],Ckf1),617,Ckc1,[25],0),
  (46,(Ckl3,[Cke0],Ckf1),616,Ckc1,[26],0),
  (47,(Ckl3,[Cke16,Cke0],Ckf1),615,Ckc1,[27],0),
  (50,(Ckl3,[],Ckf1),614,Ckc1,[28],0),
  (51,(Ckl3,[Cke0],Ckf1),613,Ckc1,[29],0),
  (52,(Ckl3,[Cke16,Cke0],Ckf1),612,Ckc1,[30],0),
  (53,(Ckl3,[Cke0,Cke16,Cke0],Ckf1),611,Ckc1,[31],0),
  (56,(Ckl3,[Cke15,Cke16,Cke0],Ckf1),610,Ckc1,[32],0),
  (57,(Ckl3,[Cke20,Cke0],Ckf1),609,Ckc1,[33],0),
  (59,(Ckl3,[Cke21,Cke20,Cke0],Ckf1),608,Ckc1,[36,34],0),
  (62,(Ckl3,[Cke0],Ckf1),607,Ckc1,[35],0),
  (63,(Ckl3,[Cke22,Cke0],Ckf1),606,Ckc1,[38],0),
  (66,(Ckl3,[Cke0],Ckf1),604,Ckc1,[37],0),
  (67,(Ckl3,[Cke6,Cke0],Ckf1),603,Ckc1,[39],0),
  (67,(Ckl3,[Cke22,Cke0],Ckf1),605,Ckc1,[39],0),
  (70,(Ckl3,[],Ckf2),602,Ckc1,[40],0),
  (71,(Ckl3,[Cke7],Ckf2),601,Ckc1,[41],0),
  (72,(Ckl6,[],Ckf2),599,Ckc3,[43],0),
  (73,(Ckl7,[Cke23],Ckf2),20643,Ckc1,[44],0),
  (73,(Ckl6,[Cke24],Ckf2),598,Ckc3,[45],0),
  (75,(Ckl7,[Cke25,Cke23],Ckf2),20642,Ckc1,[46],0),
  (75,(Ckl6,[Cke25,Cke24],Ckf2),597,Ckc3,[65,46],0),
  (78,(Ckl8,[],Ckf2),596,Ckc3,[47],0),
  (79,(Ckl8,[Cke0],Ckf2),595,Ckc3,[48],0),
  (82,(Ckl8,[Cke26],Ckf2),594,Ckc3,[49],0),
  (83,(Ckl8,[Cke22,Cke26],Ckf2),593,Ckc3,[65,50],0),
  (86,(Ckl8,[],Ckf3),592,Ckc3,[51],0),
  (87,(Ckl8,[Cke0],Ckf3),591,Ckc3,[52],0),
  (90,(Ckl8,[Cke27],Ckf3),590,Ckc3,[54],0),
  (91,(Ckl7,[Cke23,Cke27],Ckf3),20644,Ckc1,[55],0),
  (91,(Ckl8,[Cke28,Cke27],Ckf3),589,Ckc3,[55],0),
  (92,(Ckl8,[Cke10],Ckf3),588,Ckc3,[56],0),
  (93,(Ckl8,[Cke0,Cke10],Ckf3),587,Ckc3,[57],0),
  (96,(Ckl8,[Cke18,Cke10],Ckf3),586,Ckc3,[58],0),
  (97,(Ckl8,[Cke29],Ckf3),585,Ckc3,[63,59],0),
  (100,(Ckl8,[],Ckf3),584,Ckc3,[60],0),
  (101,(Ckl8,[Cke0],Ckf3),583,Ckc3,[62],0),
  (102,(Ckl7,[Cke23,Cke0],Ckf4),20645,Ckc1,[63],0),
  (102,(Ckl8,[Cke28,Cke0],Ckf3),582,Ckc3,[63],0),
  (105,(Ckl8,[],Ckf3),581,Ckc3,[64],0)]
def CNC2_1 : List ND := [(108,(Ckl9,[],Ckf3),600,Ckc3,[41],0),
  (111,(Ckl6,[],Ckf2),0,Ckc1,[],0)]
def CNC2 : List (List ND) := [CNC2_0, CNC2_1]
theorem CKC2 : chkS prot SMsC SMC2 [] CNC2 = true := by decide +kernel
-- OneSided$Reader.isDigit [(2, 2), (0, 999)]
def Cka26 : AV := (0,48,48,0)
def Cke30 : SE := (Cka26,pv0)
def Cka27 : AV := (0,57,57,0)
def Cke31 : SE := (Cka27,pv0)
def CNC3_0 : List ND := [(0,(Ckl0,[],[]),16,Ckc0,[1],0),
  (1,(Ckl0,[Cke0],[]),15,Ckc0,[2],0),
  (4,(Ckl0,[Cke1],[]),14,Ckc0,[3],0),
  (5,(Ckl0,[Cke2,Cke1],[]),13,Ckc0,[4],0),
  (6,(Ckl0,[Cke3],[]),12,Ckc0,[5],0),
  (8,(Ckl0,[Cke30,Cke3],[]),11,Ckc0,[14,6],0),
  (11,(Ckl0,[],[]),10,Ckc0,[7],0),
  (12,(Ckl0,[Cke0],[]),9,Ckc0,[8],0),
  (15,(Ckl0,[Cke1],[]),8,Ckc0,[9],0),
  (16,(Ckl0,[Cke2,Cke1],[]),7,Ckc0,[10],0),
  (17,(Ckl0,[Cke3],[]),6,Ckc0,[11],0),
  (19,(Ckl0,[Cke31,Cke3],[]),5,Ckc0,[14,12],0),
  (22,(Ckl0,[],[]),4,Ckc0,[13],0),
  (23,(Ckl0,[Cke6],[]),3,Ckc0,[16],0),
  (26,(Ckl0,[],[]),1,Ckc0,[15],0),
  (27,(Ckl0,[Cke7],[]),0,Ckc0,[],1),
  (27,(Ckl0,[Cke6],[]),2,Ckc0,[],0)]
def CNC3 : List (List ND) := [CNC3_0]
theorem CKC3 : chkS prot SMsC SMC3 [] CNC3 = true := by decide +kernel
-- OneSided$Reader.scanNumber [(2, 2)]
def Ckl10 : AL := [some Cka0,none]
def Ckl11 : AL := [some Cka0,some Cka14]
def Ckc4 : List Int := [0,-24]
def Cka28 : AV := (1,10,10,0)
def Cke32 : SE := (Cka28,pv0)
def Cka29 : AV := (1,-128,127,1)
def Cke33 : SE := (Cka29,pv0)
def Cka30 : AV := (1,48,48,0)
def Cke34 : SE := (Cka30,pv0)
def Ckl12 : AL := [some Cka0,some Cka15]
def Cka31 : AV := (0,4,4,0)
def Cke35 : SE := (Cka31,pv0)
def Cka32 : AV := (0,3,3,0)
def Cke36 : SE := (Cka32,pv0)
def Cka33 : AV := (0,1,3,2)
def Ckf5 : FA := [(2,3,Cka33)]
def CNC4_0 : List ND := [(0,(Ckl10,[],[]),24043,Ckc0,[1],0),
  (1,(Ckl10,[Cke0],[]),24042,Ckc0,[2],0),
  (4,(Ckl10,[Cke15],[]),24041,Ckc0,[3],0),
  (5,(Ckl11,[],[]),24039,Ckc4,[4],0),
  (6,(Ckl11,[Cke16],[]),24038,Ckc4,[5],0),
  (7,(Ckl11,[Cke0,Cke16],[]),24037,Ckc4,[6],0),
  (10,(Ckl11,[Cke17,Cke16],[]),24036,Ckc4,[28,7],0),
  (13,(Ckl0,[],Ckf0),24035,Ckc4,[8],0),
  (14,(Ckl0,[Cke0],Ckf0),24034,Ckc4,[9],0),
  (15,(Ckl0,[Cke2,Cke0],Ckf0),24033,Ckc4,[11,10],3),
  (18,(Ckl0,[Cke7],Ckf0),16,Ckc0,[28],0),
  (18,(Ckl0,[Cke6],Ckf0),24032,Ckc4,[12],0),
  (21,(Ckl0,[],Ckf0),24031,Ckc4,[13],0),
  (22,(Ckl0,[Cke0],Ckf0),24030,Ckc4,[14],0),
  (23,(Ckl0,[Cke0,Cke0],Ckf0),24029,Ckc4,[15],0),
  (26,(Ckl0,[Cke18,Cke0],Ckf0),24028,Ckc4,[16],0),
  (29,(Ckl0,[Cke32,Cke18,Cke0],Ckf0),24027,Ckc4,[17],0),
  (30,(Ckl0,[Cke10,Cke0],Ckf0),24026,Ckc4,[18],0),
  (31,(Ckl0,[Cke0,Cke10,Cke0],Ckf0),24025,Ckc4,[19],0),
  (34,(Ckl0,[Cke1,Cke10,Cke0],Ckf0),24024,Ckc4,[20],0),
  (35,(Ckl0,[Cke2,Cke1,Cke10,Cke0],Ckf0),24023,Ckc4,[21],0),
  (36,(Ckl0,[Cke3,Cke10,Cke0],Ckf0),24022,Ckc4,[22],0),
  (37,(Ckl0,[Cke33,Cke10,Cke0],Ckf0),24021,Ckc4,[23],0),
  (38,(Ckl0,[Cke10,Cke0],Ckf0),24020,Ckc4,[24],0),
  (41,(Ckl0,[Cke34,Cke10,Cke0],Ckf0),24019,Ckc4,[25],0),
  (42,(Ckl0,[Cke10,Cke0],Ckf0),24018,Ckc4,[26],0),
  (45,(Ckl0,[],Ckf0),24017,Ckc4,[27],0),
  (48,(Ckl12,[],Ckf0),24040,Ckc4,[3],0),
  (51,(Ckl11,[],Ckf1),15,Ckc0,[29],0),
  (52,(Ckl11,[Cke0],Ckf1),14,Ckc0,[30],0),
  (53,(Ckl11,[Cke16,Cke0],Ckf1),13,Ckc0,[31],0),
  (56,(Ckl11,[],Ckf1),12,Ckc0,[32],0),
  (57,(Ckl11,[Cke0],Ckf1),11,Ckc0,[33],0),
  (58,(Ckl11,[Cke16,Cke0],Ckf1),10,Ckc0,[34],0),
  (59,(Ckl11,[Cke0,Cke16,Cke0],Ckf1),9,Ckc0,[35],0),
  (62,(Ckl11,[Cke15,Cke16,Cke0],Ckf1),8,Ckc0,[36],0),
  (63,(Ckl11,[Cke20,Cke0],Ckf1),7,Ckc0,[37],0),
  (64,(Ckl11,[Cke35,Cke20,Cke0],Ckf1),6,Ckc0,[40,38],0),
  (67,(Ckl11,[Cke0],Ckf1),3,Ckc0,[39],0),
  (68,(Ckl11,[Cke36,Cke0],Ckf1),2,Ckc0,[42],0),
  (71,(Ckl11,[Cke0],Ckf1),5,Ckc0,[41],0),
  (72,(Ckl11,[Cke6,Cke0],Ckf1),4,Ckc0,[43],0),
  (72,(Ckl11,[Cke36,Cke0],Ckf1),1,Ckc0,[43],0),
  (75,(Ckl11,[],Ckf5),0,Ckc0,[],0)]
def CNC4 : List (List ND) := [CNC4_0]
theorem CKC4 : chkS prot SMsC SMC4 [] CNC4 = true := by decide +kernel
-- OneSided$Reader.isTokenSign [(-2147483648, 2147483647)]
def Cka34 : AV := (0,-2147483648,2147483647,1)
def Ckl13 : AL := [some Cka34]
def Ckc5 : List Int := [0]
def Cke37 : SE := (Cka34,(1,0,0,0,0))
def Cka35 : AV := (0,40,40,0)
def Cke38 : SE := (Cka35,pv0)
def Cka36 : AV := (0,41,41,0)
def Cke39 : SE := (Cka36,pv0)
def Cka37 : AV := (0,60,60,0)
def Cke40 : SE := (Cka37,pv0)
def Cka38 : AV := (0,61,61,0)
def Cke41 : SE := (Cka38,pv0)
def Cka39 : AV := (0,43,43,0)
def Cke42 : SE := (Cka39,pv0)
def Cka40 : AV := (0,45,45,0)
def Cke43 : SE := (Cka40,pv0)
def Cka41 : AV := (0,42,42,0)
def Cke44 : SE := (Cka41,pv0)
def Cka42 : AV := (0,59,59,0)
def Cke45 : SE := (Cka42,pv0)
def Cka43 : AV := (0,40,61,1)
def Ckl14 : AL := [some Cka43]
def CNC5_0 : List ND := [(0,(Ckl13,[],[]),28,Ckc5,[1],0),
  (1,(Ckl13,[Cke37],[]),27,Ckc5,[2],0),
  (3,(Ckl13,[Cke38,Cke37],[]),26,Ckc5,[24,3],0),
  (6,(Ckl13,[],[]),25,Ckc5,[4],0),
  (7,(Ckl13,[Cke37],[]),24,Ckc5,[5],0),
  (9,(Ckl13,[Cke39,Cke37],[]),23,Ckc5,[24,6],0),
  (12,(Ckl13,[],[]),22,Ckc5,[7],0),
  (13,(Ckl13,[Cke37],[]),21,Ckc5,[8],0),
  (15,(Ckl13,[Cke40,Cke37],[]),20,Ckc5,[24,9],0),
  (18,(Ckl13,[],[]),19,Ckc5,[10],0),
  (19,(Ckl13,[Cke37],[]),18,Ckc5,[11],0),
  (21,(Ckl13,[Cke41,Cke37],[]),17,Ckc5,[24,12],0),
  (24,(Ckl13,[],[]),16,Ckc5,[13],0),
  (25,(Ckl13,[Cke37],[]),15,Ckc5,[14],0),
  (27,(Ckl13,[Cke42,Cke37],[]),14,Ckc5,[24,15],0),
  (30,(Ckl13,[],[]),13,Ckc5,[16],0),
  (31,(Ckl13,[Cke37],[]),12,Ckc5,[17],0),
  (33,(Ckl13,[Cke43,Cke37],[]),11,Ckc5,[24,18],0),
  (36,(Ckl13,[],[]),10,Ckc5,[19],0),
  (37,(Ckl13,[Cke37],[]),9,Ckc5,[20],0),
  (39,(Ckl13,[Cke44,Cke37],[]),8,Ckc5,[24,21],0),
  (42,(Ckl13,[],[]),7,Ckc5,[22],0),
  (43,(Ckl13,[Cke37],[]),6,Ckc5,[23],0),
  (45,(Ckl13,[Cke45,Cke37],[]),5,Ckc5,[26,24],0),
  (48,(Ckl14,[],[]),2,Ckc5,[25],0),
  (49,(Ckl14,[Cke6],[]),1,Ckc5,[28],0),
  (52,(Ckl13,[],[]),4,Ckc5,[27],0),
  (53,(Ckl13,[Cke7],[]),3,Ckc5,[],1),
  (53,(Ckl14,[Cke6],[]),0,Ckc5,[],0)]
def CNC5 : List (List ND) := [CNC5_0]
theorem CKC5 : chkS prot SMsC SMC5 [(0,0)] CNC5 = true := by decide +kernel
-- OneSided$Reader.step [(2, 2)]
def Cka44 : AV := (0,0,16005,1)
def Cke46 : SE := (Cka44,(2,2,8,0,0))
def Cka45 : AV := (0,1,16005,1)
def Ckf6 : FA := [(2,8,Cka45)]
def Ckf7 : FA := [(2,8,Cka7)]
def Cke47 : SE := (Cka14,(2,2,5,0,0))
def Ckc6 : List Int := [0,-18]
def Ckf8 : FA := [(2,0,Cka15),(2,8,Cka7)]
def Cka46 : AV := (0,10,10,0)
def Cke48 : SE := (Cka46,pv0)
def Cka47 : AV := (0,32,32,0)
def Cke49 : SE := (Cka47,pv0)
def Ckf9 : FA := [(2,0,Cka14),(2,8,Cka7)]
def Cka48 : AV := (1,0,0,0)
def Cke50 : SE := (Cka48,pv0)
def Ckf10 : FA := [(2,0,Cka14),(2,6,Cka48),(2,8,Cka7)]
def Cka49 : AV := (0,-1,-1,0)
def Cke51 : SE := (Cka49,pv0)
def Ckf11 : FA := [(2,0,Cka14),(2,6,Cka48),(2,7,Cka49),(2,8,Cka7)]
def Ckf12 : FA := [(2,0,Cka14),(2,3,Cka7),(2,6,Cka48),(2,7,Cka49),(2,8,Cka7)]
def Ckf13 : FA := [(2,0,Cka15),(2,6,Cka48),(2,7,Cka49),(2,8,Cka7)]
def Ckf14 : FA := [(2,0,Cka15),(2,7,Cka49),(2,8,Cka7)]
def Cke52 : SE := (Cka15,pv0)
def Ckf15 : FA := [(2,0,Cka15),(2,5,Cka15),(2,6,Cka48),(2,7,Cka49),(2,8,Cka7)]
def Ckf16 : FA := [(2,0,Cka15),(2,5,Cka15),(2,6,Cka29),(2,7,Cka49),(2,8,Cka7)]
def CNC6_0 : List ND := [(0,(Ckl10,[],[]),18083,Ckc0,[1],0),
  (1,(Ckl10,[Cke0],[]),18082,Ckc0,[2],0),
  (4,(Ckl10,[Cke46],[]),18081,Ckc0,[4,3],0),
  (7,(Ckl10,[],Ckf6),18080,Ckc0,[],0),
  (8,(Ckl10,[],Ckf7),18079,Ckc0,[5],0),
  (9,(Ckl10,[Cke0],Ckf7),18078,Ckc0,[6],0),
  (12,(Ckl10,[Cke47],Ckf7),18077,Ckc0,[7],0),
  (13,(Ckl11,[],Ckf7),18075,Ckc6,[8],0),
  (14,(Ckl11,[Cke16],Ckf7),18074,Ckc6,[9],0),
  (15,(Ckl11,[Cke0,Cke16],Ckf7),18073,Ckc6,[10],0),
  (18,(Ckl11,[Cke17,Cke16],Ckf7),18072,Ckc6,[25,11],0),
  (21,(Ckl0,[],Ckf8),18071,Ckc6,[12],0),
  (22,(Ckl0,[Cke0],Ckf8),18070,Ckc6,[13],0),
  (25,(Ckl0,[Cke1],Ckf8),18069,Ckc6,[14],0),
  (26,(Ckl0,[Cke2,Cke1],Ckf8),18068,Ckc6,[15],0),
  (27,(Ckl0,[Cke3],Ckf8),18067,Ckc6,[16],0),
  (29,(Ckl0,[Cke48,Cke3],Ckf8),18066,Ckc6,[23,17],0),
  (32,(Ckl0,[],Ckf8),18065,Ckc6,[18],0),
  (33,(Ckl0,[Cke0],Ckf8),18064,Ckc6,[19],0),
  (36,(Ckl0,[Cke1],Ckf8),18063,Ckc6,[20],0),
  (37,(Ckl0,[Cke2,Cke1],Ckf8),18062,Ckc6,[21],0),
  (38,(Ckl0,[Cke3],Ckf8),18061,Ckc6,[22],0),
  (40,(Ckl0,[Cke49,Cke3],Ckf8),18060,Ckc6,[25,23],0),
  (43,(Ckl0,[],Ckf8),18059,Ckc6,[24],0),
  (46,(Ckl12,[],Ckf8),18076,Ckc6,[7],0),
  (49,(Ckl11,[],Ckf9),58,Ckc0,[26],0),
  (50,(Ckl11,[Cke0],Ckf9),57,Ckc0,[27],0),
  (51,(Ckl11,[Cke16,Cke0],Ckf9),56,Ckc0,[28],0),
  (54,(Ckl11,[],Ckf9),55,Ckc0,[29],0),
  (55,(Ckl11,[Cke0],Ckf9),54,Ckc0,[30],0),
  (56,(Ckl11,[Cke50,Cke0],Ckf9),53,Ckc0,[31],0),
  (59,(Ckl11,[],Ckf10),52,Ckc0,[32],0),
  (60,(Ckl11,[Cke0],Ckf10),51,Ckc0,[33],0),
  (61,(Ckl11,[Cke51,Cke0],Ckf10),50,Ckc0,[34],0),
  (64,(Ckl11,[],Ckf11),49,Ckc0,[35],0),
  (65,(Ckl11,[Cke16],Ckf11),48,Ckc0,[36],0),
  (66,(Ckl11,[Cke0,Cke16],Ckf11),47,Ckc0,[37],0),
  (69,(Ckl11,[Cke17,Cke16],Ckf11),46,Ckc0,[42,38],0),
  (72,(Ckl11,[],Ckf11),45,Ckc0,[39],0),
  (73,(Ckl11,[Cke0],Ckf11),44,Ckc0,[40],0),
  (74,(Ckl11,[Cke7,Cke0],Ckf11),43,Ckc0,[41],0),
  (77,(Ckl11,[],Ckf12),42,Ckc0,[83],0),
  (80,(Ckl0,[],Ckf13),41,Ckc0,[43],0),
  (81,(Ckl0,[Cke0],Ckf13),40,Ckc0,[44],0),
  (82,(Ckl0,[Cke2,Cke0],Ckf13),39,Ckc0,[46,45],0),
  (85,(Ckl0,[Cke7],Ckf13),34,Ckc0,[50],0),
  (85,(Ckl0,[Cke6],Ckf13),38,Ckc0,[47],0),
  (88,(Ckl0,[],Ckf13),37,Ckc0,[48],0),
  (89,(Ckl0,[Cke0],Ckf13),36,Ckc0,[49],2),
  (92,(Ckl0,[],Ckf8),35,Ckc0,[83],0),
  (95,(Ckl0,[],Ckf13),33,Ckc0,[51],0),
  (96,(Ckl0,[Cke0],Ckf13),32,Ckc0,[52],0),
  (97,(Ckl0,[Cke2,Cke0],Ckf13),31,Ckc0,[54,53],3),
  (100,(Ckl0,[Cke7],Ckf13),26,Ckc0,[58],0),
  (100,(Ckl0,[Cke6],Ckf13),30,Ckc0,[55],0),
  (103,(Ckl0,[],Ckf13),29,Ckc0,[56],0),
  (104,(Ckl0,[Cke0],Ckf13),28,Ckc0,[57],4),
  (107,(Ckl0,[],Ckf14),27,Ckc0,[83],0),
  (110,(Ckl0,[],Ckf13),25,Ckc0,[59],0),
  (111,(Ckl0,[Cke0],Ckf13),24,Ckc0,[60],0),
  (112,(Ckl0,[Cke2,Cke0],Ckf13),23,Ckc0,[61],0),
  (113,(Ckl0,[Cke6,Cke2,Cke0],Ckf13),22,Ckc0,[62],0),
  (114,(Ckl0,[Cke52,Cke0],Ckf13),21,Ckc0,[63],0),
  (117,(Ckl0,[],Ckf15),20,Ckc0,[64],0)]
def CNC6_1 : List ND := [(118,(Ckl0,[Cke0],Ckf15),19,Ckc0,[65],0),
  (119,(Ckl0,[Cke0,Cke0],Ckf15),18,Ckc0,[66],0),
  (122,(Ckl0,[Cke1,Cke0],Ckf15),17,Ckc0,[67],0),
  (123,(Ckl0,[Cke2,Cke1,Cke0],Ckf15),16,Ckc0,[68],0),
  (124,(Ckl0,[Cke3,Cke0],Ckf15),15,Ckc0,[69],0),
  (125,(Ckl0,[Cke33,Cke0],Ckf15),14,Ckc0,[70],0),
  (128,(Ckl0,[],Ckf16),13,Ckc0,[71],0),
  (129,(Ckl0,[Cke0],Ckf16),12,Ckc0,[72],0),
  (130,(Ckl0,[Cke0,Cke0],Ckf16),11,Ckc0,[73],0),
  (133,(Ckl0,[Cke1,Cke0],Ckf16),10,Ckc0,[74],0),
  (134,(Ckl0,[Cke2,Cke1,Cke0],Ckf16),9,Ckc0,[75],0),
  (135,(Ckl0,[Cke3,Cke0],Ckf16),8,Ckc0,[77,76],5),
  (138,(Ckl0,[Cke7,Cke0],Ckf16),3,Ckc0,[80],0),
  (138,(Ckl0,[Cke6,Cke0],Ckf16),7,Ckc0,[78],0),
  (141,(Ckl0,[Cke0],Ckf16),6,Ckc0,[79],0),
  (142,(Ckl0,[Cke35,Cke0],Ckf16),5,Ckc0,[82],0),
  (145,(Ckl0,[Cke0],Ckf16),2,Ckc0,[81],0),
  (146,(Ckl0,[Cke6,Cke0],Ckf16),1,Ckc0,[83],0),
  (146,(Ckl0,[Cke35,Cke0],Ckf16),4,Ckc0,[83],0),
  (149,(Ckl11,[],Ckf7),0,Ckc0,[],0)]
def CNC6 : List (List ND) := [CNC6_0, CNC6_1]
theorem CKC6 : chkS prot SMsC SMC6 [] CNC6 = true := by decide +kernel
-- OneSided$Reader.begin [(2, 2)]
def Ckl15 : AL := [some Cka0]
def Ckf17 : FA := [(2,5,Cka7),(2,8,Cka7)]
def CNC7_0 : List ND := [(0,(Ckl15,[],[]),8,Ckc5,[1],0),
  (1,(Ckl15,[Cke0],[]),7,Ckc5,[2],0),
  (2,(Ckl15,[Cke7,Cke0],[]),6,Ckc5,[3],0),
  (5,(Ckl15,[],Ckf7),5,Ckc5,[4],0),
  (6,(Ckl15,[Cke0],Ckf7),4,Ckc5,[5],0),
  (7,(Ckl15,[Cke7,Cke0],Ckf7),3,Ckc5,[6],0),
  (10,(Ckl15,[],Ckf17),2,Ckc5,[7],0),
  (11,(Ckl15,[Cke0],Ckf17),1,Ckc5,[8],6),
  (14,(Ckl15,[],Ckf7),0,Ckc5,[],0)]
def CNC7 : List (List ND) := [CNC7_0]
theorem CKC7 : chkS prot SMsC SMC7 [] CNC7 = true := by decide +kernel
-- OneSided$Quarter.clear [(5, 5)]
def Cka50 : AV := (2,5,5,0)
def Ckl16 : AL := [some Cka50]
def Cke53 : SE := (Cka50,(1,0,0,0,0))
def Ckf18 : FA := [(5,0,Cka18)]
def Ckf19 : FA := [(5,0,Cka18),(5,2,Cka7)]
def Ckf20 : FA := [(5,0,Cka18),(5,2,Cka7),(5,4,Cka7)]
def Ckf21 : FA := [(5,0,Cka18),(5,2,Cka7),(5,4,Cka7),(5,6,Cka7)]
def CNC8_0 : List ND := [(0,(Ckl16,[],[]),12,Ckc5,[1],0),
  (1,(Ckl16,[Cke53],[]),11,Ckc5,[2],0),
  (2,(Ckl16,[Cke22,Cke53],[]),10,Ckc5,[3],0),
  (5,(Ckl16,[],Ckf18),9,Ckc5,[4],0),
  (6,(Ckl16,[Cke53],Ckf18),8,Ckc5,[5],0),
  (7,(Ckl16,[Cke7,Cke53],Ckf18),7,Ckc5,[6],0),
  (10,(Ckl16,[],Ckf19),6,Ckc5,[7],0),
  (11,(Ckl16,[Cke53],Ckf19),5,Ckc5,[8],0),
  (12,(Ckl16,[Cke7,Cke53],Ckf19),4,Ckc5,[9],0),
  (15,(Ckl16,[],Ckf20),3,Ckc5,[10],0),
  (16,(Ckl16,[Cke53],Ckf20),2,Ckc5,[11],0),
  (17,(Ckl16,[Cke7,Cke53],Ckf20),1,Ckc5,[12],0),
  (20,(Ckl16,[],Ckf21),0,Ckc5,[],0)]
def CNC8 : List (List ND) := [CNC8_0]
theorem CKC8 : chkS prot SMsC SMC8 [] CNC8 = true := by decide +kernel
-- OneSided$Reader.fail [(2, 2), (1, 5)]
def Cka51 : AV := (0,1,5,1)
def Ckl17 : AL := [some Cka0,some Cka51]
def Cke54 : SE := (Cka51,(1,1,0,0,0))
def Cka52 : AV := (0,16,16,0)
def Cke55 : SE := (Cka52,pv0)
def Cka53 : AV := (0,0,16000,16)
def Cke56 : SE := (Cka53,pv0)
def Cke57 : SE := (Cka45,pv0)
def CNC9_0 : List ND := [(0,(Ckl17,[],[]),11,Ckc0,[1],0),
  (1,(Ckl17,[Cke0],[]),10,Ckc0,[2],0),
  (4,(Ckl17,[Cke46],[]),9,Ckc0,[11,3],0),
  (7,(Ckl17,[],Ckf7),8,Ckc0,[4],0),
  (8,(Ckl17,[Cke0],Ckf7),7,Ckc0,[5],0),
  (9,(Ckl17,[Cke54,Cke0],Ckf7),6,Ckc0,[6],0),
  (11,(Ckl17,[Cke55,Cke54,Cke0],Ckf7),5,Ckc0,[7],0),
  (12,(Ckl17,[Cke0,Cke55,Cke54,Cke0],Ckf7),4,Ckc0,[8],0),
  (15,(Ckl17,[Cke15,Cke55,Cke54,Cke0],Ckf7),3,Ckc0,[9],0),
  (16,(Ckl17,[Cke56,Cke54,Cke0],Ckf7),2,Ckc0,[10],0),
  (17,(Ckl17,[Cke57,Cke0],Ckf7),1,Ckc0,[11],0),
  (20,(Ckl17,[],Ckf6),0,Ckc0,[],0)]
def CNC9 : List (List ND) := [CNC9_0]
theorem CKC9 : chkS prot SMsC SMC9 [] CNC9 = true := by decide +kernel
-- OneSided$Reader.takeWord [(2, 2), (0, 28)]
def Ckl18 : AL := [some Cka0,some Cka22]
def Cka54 : AV := (0,-1,28,1)
def Cke58 : SE := (Cka54,(2,2,7,0,0))
def Cke59 : SE := (Cka22,(1,1,0,0,0))
def Ckf22 : FA := [(2,7,Cka22)]
def Ckf23 : FA := [(2,7,Cka54)]
def CNC10_0 : List ND := [(0,(Ckl18,[],[]),10,Ckc0,[1],0),
  (1,(Ckl18,[Cke0],[]),9,Ckc0,[2],0),
  (4,(Ckl18,[Cke58],[]),8,Ckc0,[3],0),
  (5,(Ckl18,[Cke59,Cke58],[]),7,Ckc0,[7,4],0),
  (8,(Ckl18,[],Ckf22),3,Ckc0,[5],0),
  (9,(Ckl18,[Cke0],Ckf22),2,Ckc0,[6],6),
  (12,(Ckl18,[],[]),1,Ckc0,[10],0),
  (15,(Ckl18,[],Ckf23),6,Ckc0,[8],0),
  (16,(Ckl18,[Cke0],Ckf23),5,Ckc0,[9],0),
  (17,(Ckl18,[Cke6,Cke0],Ckf23),4,Ckc0,[10],9),
  (20,(Ckl18,[],[]),0,Ckc0,[],0)]
def CNC10 : List (List ND) := [CNC10_0]
theorem CKC10 : chkS prot SMsC SMC10 [] CNC10 = true := by decide +kernel
-- OneSided$Reader.takeNumber [(2, 2), (2, 2), (10, 10)]
def Ckl19 : AL := [some Cka0,some Cka18,some Cka46,none]
def Ckc7 : List Int := [0,0,0,0]
def Cka55 : AV := (0,0,4,1)
def Cke60 : SE := (Cka55,(2,2,3,0,0))
def Ckf24 : FA := [(2,3,Cka55)]
def Cke61 : SE := (Cka18,(1,1,0,0,0))
def Ckf25 : FA := [(2,3,Cka32)]
def Cka56 : AV := (1,2,2,0)
def Cke62 : SE := (Cka56,pv0)
def Cke63 : SE := (Cka24,(4,2,6,2,2))
def Cka57 : AV := (1,2,9223372036854775807,1)
def Ckf26 : FA := [(2,3,Cka32),(2,6,Cka57)]
def Cke64 : SE := (Cka57,(2,2,6,0,0))
def Cke65 : SE := (Cka46,(1,2,0,0,0))
def Cke66 : SE := (Cka24,(4,2,6,10,10))
def Cka58 : AV := (1,2,10,1)
def Ckf27 : FA := [(2,3,Cka32),(2,6,Cka58)]
def Cke67 : SE := (Cka58,(2,2,6,0,0))
def Cka59 : AV := (0,2,10,1)
def Cke68 : SE := (Cka59,pv0)
def Ckl20 : AL := [some Cka0,some Cka18,some Cka46,some Cka59]
def Cke69 : SE := (Cka59,(1,3,0,0,0))
def CNC11_0 : List ND := [(0,(Ckl19,[],[]),33,Ckc7,[1],0),
  (1,(Ckl19,[Cke0],[]),32,Ckc7,[2],0),
  (4,(Ckl19,[Cke60],[]),31,Ckc7,[3],0),
  (5,(Ckl19,[Cke36,Cke60],[]),30,Ckc7,[9,4],0),
  (8,(Ckl19,[],Ckf24),4,Ckc7,[5],0),
  (9,(Ckl19,[Cke0],Ckf24),3,Ckc7,[6],0),
  (10,(Ckl19,[Cke6,Cke0],Ckf24),2,Ckc7,[7],9),
  (13,(Ckl19,[],Ckf24),1,Ckc7,[8],0),
  (14,(Ckl19,[Cke61],Ckf24),0,Ckc7,[],0),
  (15,(Ckl19,[],Ckf25),29,Ckc7,[10],0),
  (16,(Ckl19,[Cke0],Ckf25),28,Ckc7,[11],0),
  (19,(Ckl19,[Cke18],Ckf25),27,Ckc7,[12],0),
  (20,(Ckl19,[Cke61,Cke18],Ckf25),26,Ckc7,[13],0),
  (21,(Ckl19,[Cke62,Cke18],Ckf25),25,Ckc7,[14],0),
  (22,(Ckl19,[Cke63],Ckf25),24,Ckc7,[21,15],0),
  (25,(Ckl19,[],Ckf26),23,Ckc7,[16],0),
  (26,(Ckl19,[Cke0],Ckf26),22,Ckc7,[17],0),
  (29,(Ckl19,[Cke64],Ckf26),21,Ckc7,[18],0),
  (30,(Ckl19,[Cke65,Cke64],Ckf26),20,Ckc7,[19],0),
  (31,(Ckl19,[Cke32,Cke64],Ckf26),19,Ckc7,[20],0),
  (32,(Ckl19,[Cke66],Ckf26),18,Ckc7,[26,21],0),
  (35,(Ckl19,[],Ckf25),17,Ckc7,[22],0),
  (36,(Ckl19,[Cke0],Ckf25),16,Ckc7,[23],0),
  (37,(Ckl19,[Cke35,Cke0],Ckf25),15,Ckc7,[24],9),
  (40,(Ckl19,[],Ckf25),14,Ckc7,[25],0),
  (41,(Ckl19,[Cke61],Ckf25),13,Ckc7,[],0),
  (42,(Ckl19,[],Ckf27),12,Ckc7,[27],0),
  (43,(Ckl19,[Cke0],Ckf27),11,Ckc7,[28],0),
  (46,(Ckl19,[Cke67],Ckf27),10,Ckc7,[29],0),
  (47,(Ckl19,[Cke68],Ckf27),9,Ckc7,[30],0),
  (48,(Ckl20,[],Ckf27),8,Ckc7,[31],0),
  (49,(Ckl20,[Cke0],Ckf27),7,Ckc7,[32],6),
  (52,(Ckl20,[],[]),6,Ckc7,[33],0),
  (53,(Ckl20,[Cke69],[]),5,Ckc7,[],0)]
def CNC11 : List (List ND) := [CNC11_0]
theorem CKC11 : chkS prot SMsC SMC11 [] CNC11 = true := by decide +kernel
-- OneSided$Reader.isSign [(2, 2), (0, 65535)]
def Ckl21 : AL := [some Cka0,some Cka9]
def Ckf28 : FA := [(2,3,Cka31)]
def Cke70 : SE := (Cka9,(1,1,0,0,0))
def Cke71 : SE := (Cka24,(4,2,6,0,65535))
def Ckf29 : FA := [(2,3,Cka31),(2,6,Cka11)]
def CNC12_0 : List ND := [(0,(Ckl21,[],[]),14,Ckc0,[1],0),
  (1,(Ckl21,[Cke0],[]),13,Ckc0,[2],0),
  (4,(Ckl21,[Cke60],[]),12,Ckc0,[3],0),
  (5,(Ckl21,[Cke35,Cke60],[]),11,Ckc0,[12,4],0),
  (8,(Ckl21,[],Ckf28),10,Ckc0,[5],0),
  (9,(Ckl21,[Cke0],Ckf28),9,Ckc0,[6],0),
  (12,(Ckl21,[Cke18],Ckf28),8,Ckc0,[7],0),
  (13,(Ckl21,[Cke70,Cke18],Ckf28),7,Ckc0,[8],0),
  (14,(Ckl21,[Cke12,Cke18],Ckf28),6,Ckc0,[9],0),
  (15,(Ckl21,[Cke71],Ckf28),5,Ckc0,[12,10],0),
  (18,(Ckl21,[],Ckf29),2,Ckc0,[11],0),
  (19,(Ckl21,[Cke6],Ckf29),1,Ckc0,[14],0),
  (22,(Ckl21,[],[]),4,Ckc0,[13],0),
  (23,(Ckl21,[Cke7],[]),3,Ckc0,[],1),
  (23,(Ckl21,[Cke6],Ckf29),0,Ckc0,[],0)]
def CNC12 : List (List ND) := [CNC12_0]
theorem CKC12 : chkS prot SMsC SMC12 [] CNC12 = true := by decide +kernel
-- OneSided$Reader.takeSign [(2, 2), (0, 65535)]
def CNC13_0 : List ND := [(0,(Ckl21,[],[]),11,Ckc0,[1],0),
  (1,(Ckl21,[Cke0],[]),10,Ckc0,[2],0),
  (2,(Ckl21,[Cke70,Cke0],[]),9,Ckc0,[4,3],12),
  (5,(Ckl21,[Cke7],[]),8,Ckc0,[8],0),
  (5,(Ckl21,[Cke6],[]),4,Ckc0,[5],0),
  (8,(Ckl21,[],[]),3,Ckc0,[6],0),
  (9,(Ckl21,[Cke0],[]),2,Ckc0,[7],6),
  (12,(Ckl21,[],[]),1,Ckc0,[11],0),
  (15,(Ckl21,[],[]),7,Ckc0,[9],0),
  (16,(Ckl21,[Cke0],[]),6,Ckc0,[10],0),
  (17,(Ckl21,[Cke6,Cke0],[]),5,Ckc0,[11],9),
  (20,(Ckl21,[],[]),0,Ckc0,[],0)]
def CNC13 : List (List ND) := [CNC13_0]
theorem CKC13 : chkS prot SMsC SMC13 [] CNC13 = true := by decide +kernel
-- OneSided$Reader.isName [(2, 2)]
def Ckf30 : FA := [(2,3,Cka18),(2,7,Cka22)]
def Cke72 : SE := (Cka22,(2,2,7,0,0))
def Cka60 : AV := (0,25,25,0)
def Cke73 : SE := (Cka60,pv0)
def CNC14_0 : List ND := [(0,(Ckl15,[],[]),16,Ckc5,[1],0),
  (1,(Ckl15,[Cke0],[]),15,Ckc5,[2],0),
  (4,(Ckl15,[Cke60],[]),14,Ckc5,[3],0),
  (5,(Ckl15,[Cke22,Cke60],[]),13,Ckc5,[14,4],0),
  (8,(Ckl15,[],Ckf3),12,Ckc5,[5],0),
  (9,(Ckl15,[Cke0],Ckf3),11,Ckc5,[6],0),
  (12,(Ckl15,[Cke58],Ckf3),10,Ckc5,[7],0),
  (13,(Ckl15,[Cke51,Cke58],Ckf3),9,Ckc5,[12,8],0),
  (16,(Ckl15,[],Ckf30),8,Ckc5,[9],0),
  (17,(Ckl15,[Cke0],Ckf30),7,Ckc5,[10],0),
  (20,(Ckl15,[Cke72],Ckf30),6,Ckc5,[11],0),
  (22,(Ckl15,[Cke73,Cke72],Ckf30),5,Ckc5,[14,12],0),
  (25,(Ckl15,[],Ckf3),4,Ckc5,[13],0),
  (26,(Ckl15,[Cke6],Ckf3),3,Ckc5,[16],0),
  (29,(Ckl15,[],Ckf24),1,Ckc5,[15],0),
  (30,(Ckl15,[Cke7],Ckf24),0,Ckc5,[],1),
  (30,(Ckl15,[Cke6],Ckf3),2,Ckc5,[],0)]
def CNC14 : List (List ND) := [CNC14_0]
theorem CKC14 : chkS prot SMsC SMC14 [] CNC14 = true := by decide +kernel
-- OneSided$Quarter.doorNamed [(5, 5), (-9223372036854775808, 9223372036854775807)]
def Ckl22 : AL := [some Cka50,some Cka8,none,none]
def Cka61 : AV := (0,0,14,1)
def Ckl23 : AL := [some Cka50,some Cka8,none,some Cka61]
def Ckc8 : List Int := [0,0,0,-14]
def Ckl24 : AL := [some Cka50,some Cka8,none,some Cka7]
def Cke74 : SE := (Cka7,(1,3,0,0,0))
def Cke75 : SE := (Cka61,(1,3,0,0,0))
def Cke76 : SE := (Cka61,(2,5,2,0,0))
def Cka62 : AV := (0,0,13,1)
def Ckl25 : AL := [some Cka50,some Cka8,none,some Cka62]
def Cka63 : AV := (0,1,14,1)
def Ckf31 : FA := [(5,2,Cka63)]
def Cka64 : AV := (2,6,6,0)
def Cke77 : SE := (Cka64,(2,5,1,0,0))
def Cke78 : SE := (Cka62,(1,3,0,0,0))
def Cka65 : AV := (2,12,25,1)
def Cke79 : SE := (Cka65,pv0)
def Cke80 : SE := (Cka8,(1,1,0,0,0))
def Ckl26 : AL := [some Cka50,some Cka8,none,some Cka63]
def CNC15_0 : List ND := [(0,(Ckl22,[],[]),215,Ckc7,[1],0),
  (1,(Ckl22,[Cke7],[]),214,Ckc7,[2],0),
  (2,(Ckl23,[],[]),212,Ckc8,[4],0),
  (3,(Ckl24,[Cke74],[]),218,Ckc7,[5],0),
  (3,(Ckl23,[Cke75],[]),211,Ckc8,[6],0),
  (4,(Ckl24,[Cke53,Cke74],[]),217,Ckc7,[7],0),
  (4,(Ckl23,[Cke53,Cke75],[]),210,Ckc8,[8],0),
  (7,(Ckl24,[Cke76,Cke74],[]),216,Ckc7,[23,9],0),
  (7,(Ckl23,[Cke76,Cke75],[]),209,Ckc8,[23,9],0),
  (10,(Ckl25,[],Ckf31),208,Ckc8,[10],0),
  (11,(Ckl25,[Cke53],Ckf31),207,Ckc8,[11],0),
  (14,(Ckl25,[Cke77],Ckf31),206,Ckc8,[13],0),
  (15,(Ckl24,[Cke74,Cke77],Ckf31),219,Ckc7,[14],0),
  (15,(Ckl25,[Cke78,Cke77],Ckf31),205,Ckc8,[14],0),
  (16,(Ckl25,[Cke79],Ckf31),204,Ckc8,[15],0),
  (19,(Ckl25,[Cke10],Ckf31),203,Ckc8,[16],0),
  (20,(Ckl25,[Cke80,Cke10],Ckf31),202,Ckc8,[17],0),
  (21,(Ckl25,[Cke29],Ckf31),201,Ckc8,[21,18],0),
  (24,(Ckl25,[],Ckf31),1,Ckc7,[20],0),
  (25,(Ckl24,[Cke74],Ckf31),220,Ckc7,[],0),
  (25,(Ckl25,[Cke78],Ckf31),0,Ckc7,[],0),
  (26,(Ckl25,[],Ckf31),200,Ckc8,[22],0),
  (29,(Ckl26,[],Ckf31),213,Ckc8,[2],0),
  (32,(Ckl23,[],[]),3,Ckc7,[24],0),
  (33,(Ckl23,[Cke51],[]),2,Ckc7,[],0)]
def CNC15 : List (List ND) := [CNC15_0]
theorem CKC15 : chkS prot SMsC SMC15 [] CNC15 = true := by decide +kernel
-- OneSided$Quarter.personNamed [(5, 5), (-9223372036854775808, 9223372036854775807)]
def Cka66 : AV := (0,0,6,1)
def Ckl27 : AL := [some Cka50,some Cka8,none,some Cka66]
def Cke81 : SE := (Cka66,(1,3,0,0,0))
def Cke82 : SE := (Cka66,(2,5,4,0,0))
def Cka67 : AV := (0,0,5,1)
def Ckl28 : AL := [some Cka50,some Cka8,none,some Cka67]
def Cka68 : AV := (0,1,6,1)
def Ckf32 : FA := [(5,4,Cka68)]
def Cka69 : AV := (2,7,7,0)
def Cke83 : SE := (Cka69,(2,5,3,0,0))
def Cke84 : SE := (Cka67,(1,3,0,0,0))
def Cka70 : AV := (2,26,31,1)
def Cke85 : SE := (Cka70,pv0)
def Ckl29 : AL := [some Cka50,some Cka8,none,some Cka68]
def CNC16_0 : List ND := [(0,(Ckl22,[],[]),103,Ckc7,[1],0),
  (1,(Ckl22,[Cke7],[]),102,Ckc7,[2],0),
  (2,(Ckl27,[],[]),100,Ckc8,[4],0),
  (3,(Ckl24,[Cke74],[]),106,Ckc7,[5],0),
  (3,(Ckl27,[Cke81],[]),99,Ckc8,[6],0),
  (4,(Ckl24,[Cke53,Cke74],[]),105,Ckc7,[7],0),
  (4,(Ckl27,[Cke53,Cke81],[]),98,Ckc8,[8],0),
  (7,(Ckl24,[Cke82,Cke74],[]),104,Ckc7,[23,9],0),
  (7,(Ckl27,[Cke82,Cke81],[]),97,Ckc8,[23,9],0),
  (10,(Ckl28,[],Ckf32),96,Ckc8,[10],0),
  (11,(Ckl28,[Cke53],Ckf32),95,Ckc8,[11],0),
  (14,(Ckl28,[Cke83],Ckf32),94,Ckc8,[13],0),
  (15,(Ckl24,[Cke74,Cke83],Ckf32),107,Ckc7,[14],0),
  (15,(Ckl28,[Cke84,Cke83],Ckf32),93,Ckc8,[14],0),
  (16,(Ckl28,[Cke85],Ckf32),92,Ckc8,[15],0),
  (19,(Ckl28,[Cke10],Ckf32),91,Ckc8,[16],0),
  (20,(Ckl28,[Cke80,Cke10],Ckf32),90,Ckc8,[17],0),
  (21,(Ckl28,[Cke29],Ckf32),89,Ckc8,[21,18],0),
  (24,(Ckl28,[],Ckf32),1,Ckc7,[20],0),
  (25,(Ckl24,[Cke74],Ckf32),108,Ckc7,[],0),
  (25,(Ckl28,[Cke84],Ckf32),0,Ckc7,[],0),
  (26,(Ckl28,[],Ckf32),88,Ckc8,[22],0),
  (29,(Ckl29,[],Ckf32),101,Ckc8,[2],0),
  (32,(Ckl27,[],[]),3,Ckc7,[24],0),
  (33,(Ckl27,[Cke51],[]),2,Ckc7,[],0)]
def CNC16 : List (List ND) := [CNC16_0]
theorem CKC16 : chkS prot SMsC SMC16 [] CNC16 = true := by decide +kernel
-- OneSided$Reader.takeNewName [(2, 2), (5, 5)]
def Ckl30 : AL := [some Cka0,some Cka50,none,none]
def Ckl31 : AL := [some Cka0,some Cka50,some Cka8,none]
def Cke86 : SE := (Cka50,(1,1,0,0,0))
def Cke87 : SE := (Cka8,(1,2,0,0,0))
def Cka71 : AV := (0,-1,13,1)
def Cke88 : SE := (Cka71,pv0)
def Cka72 : AV := (0,-1,5,1)
def Cke89 : SE := (Cka72,pv0)
def CNC17_0 : List ND := [(0,(Ckl30,[],[]),28,Ckc7,[1],0),
  (1,(Ckl30,[Cke0],[]),27,Ckc7,[2],0),
  (4,(Ckl30,[Cke18],[]),26,Ckc7,[3],0),
  (5,(Ckl31,[],[]),25,Ckc7,[4],0),
  (6,(Ckl31,[Cke0],[]),24,Ckc7,[6,5],14),
  (9,(Ckl31,[Cke7],[]),23,Ckc7,[7],0),
  (9,(Ckl31,[Cke6],[]),18,Ckc7,[11],0),
  (12,(Ckl31,[],[]),22,Ckc7,[8],0),
  (13,(Ckl31,[Cke0],[]),21,Ckc7,[9],0),
  (14,(Ckl31,[Cke6,Cke0],[]),20,Ckc7,[10],9),
  (17,(Ckl31,[],[]),19,Ckc7,[27],0),
  (20,(Ckl31,[],[]),17,Ckc7,[12],0),
  (21,(Ckl31,[Cke86],[]),16,Ckc7,[13],0),
  (22,(Ckl31,[Cke87,Cke86],[]),15,Ckc7,[14],15),
  (25,(Ckl31,[Cke88],[]),14,Ckc7,[15],0),
  (26,(Ckl31,[Cke51,Cke88],[]),13,Ckc7,[21,16],0),
  (29,(Ckl31,[],[]),12,Ckc7,[17],0),
  (30,(Ckl31,[Cke86],[]),11,Ckc7,[18],0),
  (31,(Ckl31,[Cke87,Cke86],[]),10,Ckc7,[19],16),
  (34,(Ckl31,[Cke89],[]),9,Ckc7,[20],0),
  (35,(Ckl31,[Cke51,Cke89],[]),8,Ckc7,[25,21],0),
  (38,(Ckl31,[],[]),5,Ckc7,[22],0),
  (39,(Ckl31,[Cke0],[]),4,Ckc7,[23],0),
  (40,(Ckl31,[Cke36,Cke0],[]),3,Ckc7,[24],9),
  (43,(Ckl31,[],[]),2,Ckc7,[27],0),
  (46,(Ckl31,[],[]),7,Ckc7,[26],0),
  (47,(Ckl31,[Cke0],[]),6,Ckc7,[27],6),
  (50,(Ckl31,[],[]),1,Ckc7,[28],0),
  (51,(Ckl31,[Cke87],[]),0,Ckc7,[],0)]
def CNC17 : List (List ND) := [CNC17_0]
theorem CKC17 : chkS prot SMsC SMC17 [] CNC17 = true := by decide +kernel
-- OneSided$Reader.takeNumber [(2, 2), (0, 0), (1, 9)]
def Cka73 : AV := (0,1,9,1)
def Ckl32 : AL := [some Cka0,some Cka7,some Cka73,none]
def Cke90 : SE := (Cka7,(1,1,0,0,0))
def Cke91 : SE := (Cka24,(4,2,6,0,0))
def Cka74 : AV := (1,0,9223372036854775807,1)
def Ckf33 : FA := [(2,3,Cka32),(2,6,Cka74)]
def Cke92 : SE := (Cka74,(2,2,6,0,0))
def Cke93 : SE := (Cka73,(1,2,0,0,0))
def Cka75 : AV := (1,1,9,1)
def Cke94 : SE := (Cka75,pv0)
def Cke95 : SE := (Cka24,(4,2,6,1,9))
def Cka76 : AV := (1,0,9,1)
def Ckf34 : FA := [(2,3,Cka32),(2,6,Cka76)]
def Cke96 : SE := (Cka76,(2,2,6,0,0))
def Cka77 : AV := (0,0,9,1)
def Cke97 : SE := (Cka77,pv0)
def Ckl33 : AL := [some Cka0,some Cka7,some Cka73,some Cka77]
def Cke98 : SE := (Cka77,(1,3,0,0,0))
def CNC18_0 : List ND := [(0,(Ckl32,[],[]),33,Ckc7,[1],0),
  (1,(Ckl32,[Cke0],[]),32,Ckc7,[2],0),
  (4,(Ckl32,[Cke60],[]),31,Ckc7,[3],0),
  (5,(Ckl32,[Cke36,Cke60],[]),30,Ckc7,[9,4],0),
  (8,(Ckl32,[],Ckf24),4,Ckc7,[5],0),
  (9,(Ckl32,[Cke0],Ckf24),3,Ckc7,[6],0),
  (10,(Ckl32,[Cke6,Cke0],Ckf24),2,Ckc7,[7],9),
  (13,(Ckl32,[],Ckf24),1,Ckc7,[8],0),
  (14,(Ckl32,[Cke90],Ckf24),0,Ckc7,[],0),
  (15,(Ckl32,[],Ckf25),29,Ckc7,[10],0),
  (16,(Ckl32,[Cke0],Ckf25),28,Ckc7,[11],0),
  (19,(Ckl32,[Cke18],Ckf25),27,Ckc7,[12],0),
  (20,(Ckl32,[Cke90,Cke18],Ckf25),26,Ckc7,[13],0),
  (21,(Ckl32,[Cke50,Cke18],Ckf25),25,Ckc7,[14],0),
  (22,(Ckl32,[Cke91],Ckf25),24,Ckc7,[21,15],0),
  (25,(Ckl32,[],Ckf33),23,Ckc7,[16],0),
  (26,(Ckl32,[Cke0],Ckf33),22,Ckc7,[17],0),
  (29,(Ckl32,[Cke92],Ckf33),21,Ckc7,[18],0),
  (30,(Ckl32,[Cke93,Cke92],Ckf33),20,Ckc7,[19],0),
  (31,(Ckl32,[Cke94,Cke92],Ckf33),19,Ckc7,[20],0),
  (32,(Ckl32,[Cke95],Ckf33),18,Ckc7,[26,21],0),
  (35,(Ckl32,[],Ckf25),17,Ckc7,[22],0),
  (36,(Ckl32,[Cke0],Ckf25),16,Ckc7,[23],0),
  (37,(Ckl32,[Cke35,Cke0],Ckf25),15,Ckc7,[24],9),
  (40,(Ckl32,[],Ckf25),14,Ckc7,[25],0),
  (41,(Ckl32,[Cke90],Ckf25),13,Ckc7,[],0),
  (42,(Ckl32,[],Ckf34),12,Ckc7,[27],0),
  (43,(Ckl32,[Cke0],Ckf34),11,Ckc7,[28],0),
  (46,(Ckl32,[Cke96],Ckf34),10,Ckc7,[29],0),
  (47,(Ckl32,[Cke97],Ckf34),9,Ckc7,[30],0),
  (48,(Ckl33,[],Ckf34),8,Ckc7,[31],0),
  (49,(Ckl33,[Cke0],Ckf34),7,Ckc7,[32],6),
  (52,(Ckl33,[],[]),6,Ckc7,[33],0),
  (53,(Ckl33,[Cke98],[]),5,Ckc7,[],0)]
def CNC18 : List (List ND) := [CNC18_0]
theorem CKC18 : chkS prot SMsC SMC18 [] CNC18 = true := by decide +kernel
-- OneSided$Reader.takeOtherRoom [(2, 2), (0, 9), (2, 10)]
def Ckl34 : AL := [some Cka0,some Cka77,some Cka59]
def Cke99 : SE := (Cka77,(1,1,0,0,0))
def Cke100 : SE := (Cka76,pv0)
def Cke101 : SE := (Cka24,(4,2,6,0,9))
def Cke102 : SE := (Cka59,(1,2,0,0,0))
def Cke103 : SE := (Cka73,pv0)
def CNC19_0 : List ND := [(0,(Ckl34,[],[]),21,Ckc1,[1],0),
  (1,(Ckl34,[Cke0],[]),20,Ckc1,[2],0),
  (4,(Ckl34,[Cke60],[]),19,Ckc1,[3],0),
  (5,(Ckl34,[Cke36,Cke60],[]),18,Ckc1,[15,4],0),
  (8,(Ckl34,[],Ckf25),17,Ckc1,[5],0),
  (9,(Ckl34,[Cke0],Ckf25),16,Ckc1,[6],0),
  (12,(Ckl34,[Cke18],Ckf25),15,Ckc1,[7],0),
  (13,(Ckl34,[Cke99,Cke18],Ckf25),14,Ckc1,[8],0),
  (14,(Ckl34,[Cke100,Cke18],Ckf25),13,Ckc1,[9],0),
  (15,(Ckl34,[Cke101],Ckf25),12,Ckc1,[15,10],0),
  (18,(Ckl34,[],Ckf34),4,Ckc1,[11],0),
  (19,(Ckl34,[Cke0],Ckf34),3,Ckc1,[12],0),
  (20,(Ckl34,[Cke36,Cke0],Ckf34),2,Ckc1,[13],9),
  (23,(Ckl34,[],Ckf34),1,Ckc1,[14],0),
  (24,(Ckl34,[Cke99],Ckf34),0,Ckc1,[],0),
  (25,(Ckl34,[],Ckf24),11,Ckc1,[16],0),
  (26,(Ckl34,[Cke0],Ckf24),10,Ckc1,[17],0),
  (27,(Ckl34,[Cke7,Cke0],Ckf24),9,Ckc1,[18],0),
  (28,(Ckl34,[Cke102,Cke7,Cke0],Ckf24),8,Ckc1,[19],0),
  (29,(Ckl34,[Cke6,Cke102,Cke7,Cke0],Ckf24),7,Ckc1,[20],0),
  (30,(Ckl34,[Cke103,Cke7,Cke0],Ckf24),6,Ckc1,[21],18),
  (33,(Ckl34,[Cke97],[]),5,Ckc1,[],0)]
def CNC19 : List (List ND) := [CNC19_0]
theorem CKC19 : chkS prot SMsC SMC19 [] CNC19 = true := by decide +kernel
-- OneSided$Reader.takeOneOfFour [(2, 2), (14, 14)]
def Cka78 : AV := (0,14,14,0)
def Ckl35 : AL := [some Cka0,some Cka78,none]
def Cke104 : SE := (Cka78,(1,1,0,0,0))
def Cka79 : AV := (0,-15,14,1)
def Cke105 : SE := (Cka79,pv0)
def Ckl36 : AL := [some Cka0,some Cka78,some Cka79]
def Cke106 : SE := (Cka79,(1,2,0,0,0))
def Ckl37 : AL := [some Cka0,some Cka78,some Cka61]
def Cke107 : SE := (Cka61,(1,2,0,0,0))
def Cka80 : AV := (0,0,3,1)
def Ckl38 : AL := [some Cka0,some Cka78,some Cka80]
def Cke108 : SE := (Cka80,(1,2,0,0,0))
def CNC20_0 : List ND := [(0,(Ckl35,[],[]),18,Ckc1,[1],0),
  (1,(Ckl35,[Cke0],[]),17,Ckc1,[2],0),
  (4,(Ckl35,[Cke58],[]),16,Ckc1,[3],0),
  (5,(Ckl35,[Cke104,Cke58],[]),15,Ckc1,[4],0),
  (6,(Ckl35,[Cke105],[]),14,Ckc1,[5],0),
  (7,(Ckl36,[],[]),13,Ckc1,[6],0),
  (8,(Ckl36,[Cke106],[]),12,Ckc1,[10,7],0),
  (11,(Ckl37,[],[]),11,Ckc1,[8],0),
  (12,(Ckl37,[Cke107],[]),10,Ckc1,[9],0),
  (13,(Ckl37,[Cke36,Cke107],[]),9,Ckc1,[15,10],0),
  (16,(Ckl36,[],[]),4,Ckc1,[11],0),
  (17,(Ckl36,[Cke0],[]),3,Ckc1,[12],0),
  (18,(Ckl36,[Cke6,Cke0],[]),2,Ckc1,[13],9),
  (21,(Ckl36,[],[]),1,Ckc1,[14],0),
  (22,(Ckl36,[Cke7],[]),0,Ckc1,[],0),
  (23,(Ckl38,[],[]),8,Ckc1,[16],0),
  (24,(Ckl38,[Cke0],[]),7,Ckc1,[17],6),
  (27,(Ckl38,[],[]),6,Ckc1,[18],0),
  (28,(Ckl38,[Cke108],[]),5,Ckc1,[],0)]
def CNC20 : List (List ND) := [CNC20_0]
theorem CKC20 : chkS prot SMsC SMC20 [] CNC20 = true := by decide +kernel
-- OneSided$Reader.skipWord [(2, 2), (0, 28)]
def Ckf35 : FA := [(2,7,Cka22),(2,8,Cka7)]
def CNC21_0 : List ND := [(0,(Ckl18,[],[]),12,Ckc0,[1],0),
  (1,(Ckl18,[Cke0],[]),11,Ckc0,[2],0),
  (4,(Ckl18,[Cke46],[]),10,Ckc0,[7,3],0),
  (7,(Ckl18,[],Ckf7),9,Ckc0,[4],0),
  (8,(Ckl18,[Cke0],Ckf7),8,Ckc0,[5],0),
  (11,(Ckl18,[Cke58],Ckf7),7,Ckc0,[6],0),
  (12,(Ckl18,[Cke59,Cke58],Ckf7),6,Ckc0,[9,7],0),
  (15,(Ckl18,[],[]),1,Ckc0,[8],0),
  (16,(Ckl18,[Cke7],[]),0,Ckc0,[],0),
  (17,(Ckl18,[],Ckf35),5,Ckc0,[10],0),
  (18,(Ckl18,[Cke0],Ckf35),4,Ckc0,[11],6),
  (21,(Ckl18,[],Ckf7),3,Ckc0,[12],0),
  (22,(Ckl18,[Cke6],Ckf7),2,Ckc0,[],1)]
def CNC21 : List (List ND) := [CNC21_0]
theorem CKC21 : chkS prot SMsC SMC21 [] CNC21 = true := by decide +kernel
-- OneSided$Reader.takeNumber [(2, 2), (0, 0), (23, 23)]
def Cka81 : AV := (0,23,23,0)
def Ckl39 : AL := [some Cka0,some Cka7,some Cka81,none]
def Cke109 : SE := (Cka81,(1,2,0,0,0))
def Cka82 : AV := (1,23,23,0)
def Cke110 : SE := (Cka82,pv0)
def Cke111 : SE := (Cka24,(4,2,6,23,23))
def Cka83 : AV := (1,0,23,1)
def Ckf36 : FA := [(2,3,Cka32),(2,6,Cka83)]
def Cke112 : SE := (Cka83,(2,2,6,0,0))
def Cka84 : AV := (0,0,23,1)
def Cke113 : SE := (Cka84,pv0)
def Ckl40 : AL := [some Cka0,some Cka7,some Cka81,some Cka84]
def Cke114 : SE := (Cka84,(1,3,0,0,0))
def CNC22_0 : List ND := [(0,(Ckl39,[],[]),33,Ckc7,[1],0),
  (1,(Ckl39,[Cke0],[]),32,Ckc7,[2],0),
  (4,(Ckl39,[Cke60],[]),31,Ckc7,[3],0),
  (5,(Ckl39,[Cke36,Cke60],[]),30,Ckc7,[9,4],0),
  (8,(Ckl39,[],Ckf24),4,Ckc7,[5],0),
  (9,(Ckl39,[Cke0],Ckf24),3,Ckc7,[6],0),
  (10,(Ckl39,[Cke6,Cke0],Ckf24),2,Ckc7,[7],9),
  (13,(Ckl39,[],Ckf24),1,Ckc7,[8],0),
  (14,(Ckl39,[Cke90],Ckf24),0,Ckc7,[],0),
  (15,(Ckl39,[],Ckf25),29,Ckc7,[10],0),
  (16,(Ckl39,[Cke0],Ckf25),28,Ckc7,[11],0),
  (19,(Ckl39,[Cke18],Ckf25),27,Ckc7,[12],0),
  (20,(Ckl39,[Cke90,Cke18],Ckf25),26,Ckc7,[13],0),
  (21,(Ckl39,[Cke50,Cke18],Ckf25),25,Ckc7,[14],0),
  (22,(Ckl39,[Cke91],Ckf25),24,Ckc7,[21,15],0),
  (25,(Ckl39,[],Ckf33),23,Ckc7,[16],0),
  (26,(Ckl39,[Cke0],Ckf33),22,Ckc7,[17],0),
  (29,(Ckl39,[Cke92],Ckf33),21,Ckc7,[18],0),
  (30,(Ckl39,[Cke109,Cke92],Ckf33),20,Ckc7,[19],0),
  (31,(Ckl39,[Cke110,Cke92],Ckf33),19,Ckc7,[20],0),
  (32,(Ckl39,[Cke111],Ckf33),18,Ckc7,[26,21],0),
  (35,(Ckl39,[],Ckf25),17,Ckc7,[22],0),
  (36,(Ckl39,[Cke0],Ckf25),16,Ckc7,[23],0),
  (37,(Ckl39,[Cke35,Cke0],Ckf25),15,Ckc7,[24],9),
  (40,(Ckl39,[],Ckf25),14,Ckc7,[25],0),
  (41,(Ckl39,[Cke90],Ckf25),13,Ckc7,[],0),
  (42,(Ckl39,[],Ckf36),12,Ckc7,[27],0),
  (43,(Ckl39,[Cke0],Ckf36),11,Ckc7,[28],0),
  (46,(Ckl39,[Cke112],Ckf36),10,Ckc7,[29],0),
  (47,(Ckl39,[Cke113],Ckf36),9,Ckc7,[30],0),
  (48,(Ckl40,[],Ckf36),8,Ckc7,[31],0),
  (49,(Ckl40,[Cke0],Ckf36),7,Ckc7,[32],6),
  (52,(Ckl40,[],[]),6,Ckc7,[33],0),
  (53,(Ckl40,[Cke114],[]),5,Ckc7,[],0)]
def CNC22 : List (List ND) := [CNC22_0]
theorem CKC22 : chkS prot SMsC SMC22 [] CNC22 = true := by decide +kernel
-- OneSided$Reader.takeNumber [(2, 2), (1, 24), (24, 24)]
def Cka85 : AV := (0,1,24,1)
def Cka86 : AV := (0,24,24,0)
def Ckl41 : AL := [some Cka0,some Cka85,some Cka86,none]
def Cke115 : SE := (Cka85,(1,1,0,0,0))
def Cka87 : AV := (1,1,24,1)
def Cke116 : SE := (Cka87,pv0)
def Cke117 : SE := (Cka24,(4,2,6,1,24))
def Cka88 : AV := (1,1,9223372036854775807,1)
def Ckf37 : FA := [(2,3,Cka32),(2,6,Cka88)]
def Cke118 : SE := (Cka88,(2,2,6,0,0))
def Cke119 : SE := (Cka86,(1,2,0,0,0))
def Cka89 : AV := (1,24,24,0)
def Cke120 : SE := (Cka89,pv0)
def Cke121 : SE := (Cka24,(4,2,6,24,24))
def Ckf38 : FA := [(2,3,Cka32),(2,6,Cka87)]
def Cke122 : SE := (Cka87,(2,2,6,0,0))
def Cke123 : SE := (Cka85,pv0)
def Ckl42 : AL := [some Cka0,some Cka85,some Cka86,some Cka85]
def Cke124 : SE := (Cka85,(1,3,0,0,0))
def CNC23_0 : List ND := [(0,(Ckl41,[],[]),33,Ckc7,[1],0),
  (1,(Ckl41,[Cke0],[]),32,Ckc7,[2],0),
  (4,(Ckl41,[Cke60],[]),31,Ckc7,[3],0),
  (5,(Ckl41,[Cke36,Cke60],[]),30,Ckc7,[9,4],0),
  (8,(Ckl41,[],Ckf24),4,Ckc7,[5],0),
  (9,(Ckl41,[Cke0],Ckf24),3,Ckc7,[6],0),
  (10,(Ckl41,[Cke6,Cke0],Ckf24),2,Ckc7,[7],9),
  (13,(Ckl41,[],Ckf24),1,Ckc7,[8],0),
  (14,(Ckl41,[Cke115],Ckf24),0,Ckc7,[],0),
  (15,(Ckl41,[],Ckf25),29,Ckc7,[10],0),
  (16,(Ckl41,[Cke0],Ckf25),28,Ckc7,[11],0),
  (19,(Ckl41,[Cke18],Ckf25),27,Ckc7,[12],0),
  (20,(Ckl41,[Cke115,Cke18],Ckf25),26,Ckc7,[13],0),
  (21,(Ckl41,[Cke116,Cke18],Ckf25),25,Ckc7,[14],0),
  (22,(Ckl41,[Cke117],Ckf25),24,Ckc7,[21,15],0),
  (25,(Ckl41,[],Ckf37),23,Ckc7,[16],0),
  (26,(Ckl41,[Cke0],Ckf37),22,Ckc7,[17],0),
  (29,(Ckl41,[Cke118],Ckf37),21,Ckc7,[18],0),
  (30,(Ckl41,[Cke119,Cke118],Ckf37),20,Ckc7,[19],0),
  (31,(Ckl41,[Cke120,Cke118],Ckf37),19,Ckc7,[20],0),
  (32,(Ckl41,[Cke121],Ckf37),18,Ckc7,[26,21],0),
  (35,(Ckl41,[],Ckf25),17,Ckc7,[22],0),
  (36,(Ckl41,[Cke0],Ckf25),16,Ckc7,[23],0),
  (37,(Ckl41,[Cke35,Cke0],Ckf25),15,Ckc7,[24],9),
  (40,(Ckl41,[],Ckf25),14,Ckc7,[25],0),
  (41,(Ckl41,[Cke115],Ckf25),13,Ckc7,[],0),
  (42,(Ckl41,[],Ckf38),12,Ckc7,[27],0),
  (43,(Ckl41,[Cke0],Ckf38),11,Ckc7,[28],0),
  (46,(Ckl41,[Cke122],Ckf38),10,Ckc7,[29],0),
  (47,(Ckl41,[Cke123],Ckf38),9,Ckc7,[30],0),
  (48,(Ckl42,[],Ckf38),8,Ckc7,[31],0),
  (49,(Ckl42,[Cke0],Ckf38),7,Ckc7,[32],6),
  (52,(Ckl42,[],[]),6,Ckc7,[33],0),
  (53,(Ckl42,[Cke124],[]),5,Ckc7,[],0)]
def CNC23 : List (List ND) := [CNC23_0]
theorem CKC23 : chkS prot SMsC SMC23 [] CNC23 = true := by decide +kernel
-- OneSided$Reader.takeOneOfFour [(2, 2), (18, 18)]
def Cka90 : AV := (0,18,18,0)
def Ckl43 : AL := [some Cka0,some Cka90,none]
def Cke125 : SE := (Cka90,(1,1,0,0,0))
def Cka91 : AV := (0,-19,10,1)
def Cke126 : SE := (Cka91,pv0)
def Ckl44 : AL := [some Cka0,some Cka90,some Cka91]
def Cke127 : SE := (Cka91,(1,2,0,0,0))
def Cka92 : AV := (0,0,10,1)
def Ckl45 : AL := [some Cka0,some Cka90,some Cka92]
def Cke128 : SE := (Cka92,(1,2,0,0,0))
def Ckl46 : AL := [some Cka0,some Cka90,some Cka80]
def CNC24_0 : List ND := [(0,(Ckl43,[],[]),18,Ckc1,[1],0),
  (1,(Ckl43,[Cke0],[]),17,Ckc1,[2],0),
  (4,(Ckl43,[Cke58],[]),16,Ckc1,[3],0),
  (5,(Ckl43,[Cke125,Cke58],[]),15,Ckc1,[4],0),
  (6,(Ckl43,[Cke126],[]),14,Ckc1,[5],0),
  (7,(Ckl44,[],[]),13,Ckc1,[6],0),
  (8,(Ckl44,[Cke127],[]),12,Ckc1,[10,7],0),
  (11,(Ckl45,[],[]),11,Ckc1,[8],0),
  (12,(Ckl45,[Cke128],[]),10,Ckc1,[9],0),
  (13,(Ckl45,[Cke36,Cke128],[]),9,Ckc1,[15,10],0),
  (16,(Ckl44,[],[]),4,Ckc1,[11],0),
  (17,(Ckl44,[Cke0],[]),3,Ckc1,[12],0),
  (18,(Ckl44,[Cke6,Cke0],[]),2,Ckc1,[13],9),
  (21,(Ckl44,[],[]),1,Ckc1,[14],0),
  (22,(Ckl44,[Cke7],[]),0,Ckc1,[],0),
  (23,(Ckl46,[],[]),8,Ckc1,[16],0),
  (24,(Ckl46,[Cke0],[]),7,Ckc1,[17],6),
  (27,(Ckl46,[],[]),6,Ckc1,[18],0),
  (28,(Ckl46,[Cke108],[]),5,Ckc1,[],0)]
def CNC24 : List (List ND) := [CNC24_0]
theorem CKC24 : chkS prot SMsC SMC24 [] CNC24 = true := by decide +kernel
-- OneSided$Reader.takeNumber [(2, 2), (1, 1), (9, 9)]
def Cka93 : AV := (0,9,9,0)
def Ckl47 : AL := [some Cka0,some Cka6,some Cka93,none]
def Cke129 : SE := (Cka6,(1,1,0,0,0))
def Cke130 : SE := (Cka24,(4,2,6,1,1))
def Cke131 : SE := (Cka93,(1,2,0,0,0))
def Cka94 : AV := (1,9,9,0)
def Cke132 : SE := (Cka94,pv0)
def Cke133 : SE := (Cka24,(4,2,6,9,9))
def Ckf39 : FA := [(2,3,Cka32),(2,6,Cka75)]
def Cke134 : SE := (Cka75,(2,2,6,0,0))
def Ckl48 : AL := [some Cka0,some Cka6,some Cka93,some Cka73]
def Cke135 : SE := (Cka73,(1,3,0,0,0))
def CNC25_0 : List ND := [(0,(Ckl47,[],[]),33,Ckc7,[1],0),
  (1,(Ckl47,[Cke0],[]),32,Ckc7,[2],0),
  (4,(Ckl47,[Cke60],[]),31,Ckc7,[3],0),
  (5,(Ckl47,[Cke36,Cke60],[]),30,Ckc7,[9,4],0),
  (8,(Ckl47,[],Ckf24),4,Ckc7,[5],0),
  (9,(Ckl47,[Cke0],Ckf24),3,Ckc7,[6],0),
  (10,(Ckl47,[Cke6,Cke0],Ckf24),2,Ckc7,[7],9),
  (13,(Ckl47,[],Ckf24),1,Ckc7,[8],0),
  (14,(Ckl47,[Cke129],Ckf24),0,Ckc7,[],0),
  (15,(Ckl47,[],Ckf25),29,Ckc7,[10],0),
  (16,(Ckl47,[Cke0],Ckf25),28,Ckc7,[11],0),
  (19,(Ckl47,[Cke18],Ckf25),27,Ckc7,[12],0),
  (20,(Ckl47,[Cke129,Cke18],Ckf25),26,Ckc7,[13],0),
  (21,(Ckl47,[Cke14,Cke18],Ckf25),25,Ckc7,[14],0),
  (22,(Ckl47,[Cke130],Ckf25),24,Ckc7,[21,15],0),
  (25,(Ckl47,[],Ckf37),23,Ckc7,[16],0),
  (26,(Ckl47,[Cke0],Ckf37),22,Ckc7,[17],0),
  (29,(Ckl47,[Cke118],Ckf37),21,Ckc7,[18],0),
  (30,(Ckl47,[Cke131,Cke118],Ckf37),20,Ckc7,[19],0),
  (31,(Ckl47,[Cke132,Cke118],Ckf37),19,Ckc7,[20],0),
  (32,(Ckl47,[Cke133],Ckf37),18,Ckc7,[26,21],0),
  (35,(Ckl47,[],Ckf25),17,Ckc7,[22],0),
  (36,(Ckl47,[Cke0],Ckf25),16,Ckc7,[23],0),
  (37,(Ckl47,[Cke35,Cke0],Ckf25),15,Ckc7,[24],9),
  (40,(Ckl47,[],Ckf25),14,Ckc7,[25],0),
  (41,(Ckl47,[Cke129],Ckf25),13,Ckc7,[],0),
  (42,(Ckl47,[],Ckf39),12,Ckc7,[27],0),
  (43,(Ckl47,[Cke0],Ckf39),11,Ckc7,[28],0),
  (46,(Ckl47,[Cke134],Ckf39),10,Ckc7,[29],0),
  (47,(Ckl47,[Cke103],Ckf39),9,Ckc7,[30],0),
  (48,(Ckl48,[],Ckf39),8,Ckc7,[31],0),
  (49,(Ckl48,[Cke0],Ckf39),7,Ckc7,[32],6),
  (52,(Ckl48,[],[]),6,Ckc7,[33],0),
  (53,(Ckl48,[Cke135],[]),5,Ckc7,[],0)]
def CNC25 : List (List ND) := [CNC25_0]
theorem CKC25 : chkS prot SMsC SMC25 [] CNC25 = true := by decide +kernel
-- OneSided$Reader.takeNumber [(2, 2), (0, 0), (9, 9)]
def Ckl49 : AL := [some Cka0,some Cka7,some Cka93,none]
def Ckl50 : AL := [some Cka0,some Cka7,some Cka93,some Cka77]
def CNC26_0 : List ND := [(0,(Ckl49,[],[]),33,Ckc7,[1],0),
  (1,(Ckl49,[Cke0],[]),32,Ckc7,[2],0),
  (4,(Ckl49,[Cke60],[]),31,Ckc7,[3],0),
  (5,(Ckl49,[Cke36,Cke60],[]),30,Ckc7,[9,4],0),
  (8,(Ckl49,[],Ckf24),4,Ckc7,[5],0),
  (9,(Ckl49,[Cke0],Ckf24),3,Ckc7,[6],0),
  (10,(Ckl49,[Cke6,Cke0],Ckf24),2,Ckc7,[7],9),
  (13,(Ckl49,[],Ckf24),1,Ckc7,[8],0),
  (14,(Ckl49,[Cke90],Ckf24),0,Ckc7,[],0),
  (15,(Ckl49,[],Ckf25),29,Ckc7,[10],0),
  (16,(Ckl49,[Cke0],Ckf25),28,Ckc7,[11],0),
  (19,(Ckl49,[Cke18],Ckf25),27,Ckc7,[12],0),
  (20,(Ckl49,[Cke90,Cke18],Ckf25),26,Ckc7,[13],0),
  (21,(Ckl49,[Cke50,Cke18],Ckf25),25,Ckc7,[14],0),
  (22,(Ckl49,[Cke91],Ckf25),24,Ckc7,[21,15],0),
  (25,(Ckl49,[],Ckf33),23,Ckc7,[16],0),
  (26,(Ckl49,[Cke0],Ckf33),22,Ckc7,[17],0),
  (29,(Ckl49,[Cke92],Ckf33),21,Ckc7,[18],0),
  (30,(Ckl49,[Cke131,Cke92],Ckf33),20,Ckc7,[19],0),
  (31,(Ckl49,[Cke132,Cke92],Ckf33),19,Ckc7,[20],0),
  (32,(Ckl49,[Cke133],Ckf33),18,Ckc7,[26,21],0),
  (35,(Ckl49,[],Ckf25),17,Ckc7,[22],0),
  (36,(Ckl49,[Cke0],Ckf25),16,Ckc7,[23],0),
  (37,(Ckl49,[Cke35,Cke0],Ckf25),15,Ckc7,[24],9),
  (40,(Ckl49,[],Ckf25),14,Ckc7,[25],0),
  (41,(Ckl49,[Cke90],Ckf25),13,Ckc7,[],0),
  (42,(Ckl49,[],Ckf34),12,Ckc7,[27],0),
  (43,(Ckl49,[Cke0],Ckf34),11,Ckc7,[28],0),
  (46,(Ckl49,[Cke96],Ckf34),10,Ckc7,[29],0),
  (47,(Ckl49,[Cke97],Ckf34),9,Ckc7,[30],0),
  (48,(Ckl50,[],Ckf34),8,Ckc7,[31],0),
  (49,(Ckl50,[Cke0],Ckf34),7,Ckc7,[32],6),
  (52,(Ckl50,[],[]),6,Ckc7,[33],0),
  (53,(Ckl50,[Cke98],[]),5,Ckc7,[],0)]
def CNC26 : List (List ND) := [CNC26_0]
theorem CKC26 : chkS prot SMsC SMC26 [] CNC26 = true := by decide +kernel
-- OneSided$Reader.doorLine [(2, 2), (5, 5)]
def Cke136 : SE := (Cka78,pv0)
def Ckf40 : FA := [(5,2,Cka78)]
def Cka95 : AV := (0,5,5,0)
def Cke137 : SE := (Cka95,pv0)
def Ckf41 : FA := [(5,2,Cka62)]
def Cke138 : SE := (Cka62,(2,5,2,0,0))
def Ckl51 : AL := [some Cka0,some Cka50,some Cka65,none]
def Cke139 : SE := (Cka65,(1,2,0,0,0))
def Cke140 : SE := (Cka59,(2,5,0,0,0))
def Cke141 : SE := (Cka80,pv0)
def Cka96 : AV := (0,0,1,1)
def Ckl52 : AL := [some Cka0,some Cka50,some Cka65,some Cka96]
def Cke142 : SE := (Cka96,(1,3,0,0,0))
def Ckl53 : AL := [some Cka0,some Cka50,some Cka65,some Cka6]
def Cke143 : SE := (Cka81,pv0)
def Ckl54 : AL := [some Cka0,some Cka50,some Cka65,some Cka7]
def Cke144 : SE := (Cka86,pv0)
def Cke145 : SE := (Cka90,pv0)
def Cke146 : SE := (Cka93,pv0)
def Cka97 : AV := (0,6,6,0)
def Cke147 : SE := (Cka97,pv0)
def Cke148 : SE := (Cka63,pv0)
def CNC27_0 : List ND := [(0,(Ckl30,[],[]),130,Ckc7,[1],0),
  (1,(Ckl30,[Cke86],[]),129,Ckc7,[2],0),
  (4,(Ckl30,[Cke76],[]),128,Ckc7,[3],0),
  (6,(Ckl30,[Cke136,Cke76],[]),127,Ckc7,[8,4],0),
  (9,(Ckl30,[],Ckf40),126,Ckc7,[5],0),
  (10,(Ckl30,[Cke0],Ckf40),125,Ckc7,[6],0),
  (11,(Ckl30,[Cke137,Cke0],Ckf40),124,Ckc7,[7],9),
  (14,(Ckl30,[],Ckf40),123,Ckc7,[],0),
  (15,(Ckl30,[],Ckf41),122,Ckc7,[9],0),
  (16,(Ckl30,[Cke86],Ckf41),121,Ckc7,[10],0),
  (19,(Ckl30,[Cke77],Ckf41),120,Ckc7,[11],0),
  (20,(Ckl30,[Cke86,Cke77],Ckf41),119,Ckc7,[12],0),
  (23,(Ckl30,[Cke138,Cke77],Ckf41),118,Ckc7,[13],0),
  (24,(Ckl30,[Cke79],Ckf41),117,Ckc7,[14],0),
  (25,(Ckl51,[],Ckf41),116,Ckc7,[15],0),
  (26,(Ckl51,[Cke0],Ckf41),115,Ckc7,[16],6),
  (29,(Ckl51,[],Ckf41),114,Ckc7,[17],0),
  (30,(Ckl51,[Cke139],Ckf41),113,Ckc7,[18],0),
  (31,(Ckl51,[Cke0,Cke139],Ckf41),112,Ckc7,[19],0),
  (32,(Ckl51,[Cke86,Cke0,Cke139],Ckf41),111,Ckc7,[20],17),
  (35,(Ckl51,[Cke10,Cke139],Ckf41),110,Ckc7,[21],0),
  (38,(Ckl51,[],Ckf41),109,Ckc7,[22],0),
  (39,(Ckl51,[Cke139],Ckf41),108,Ckc7,[23],0),
  (40,(Ckl51,[Cke0,Cke139],Ckf41),107,Ckc7,[24],0),
  (41,(Ckl51,[Cke7,Cke0,Cke139],Ckf41),106,Ckc7,[25],0),
  (42,(Ckl51,[Cke86,Cke7,Cke0,Cke139],Ckf41),105,Ckc7,[26],0),
  (45,(Ckl51,[Cke140,Cke7,Cke0,Cke139],Ckf41),104,Ckc7,[27],0),
  (46,(Ckl51,[Cke6,Cke140,Cke7,Cke0,Cke139],Ckf41),103,Ckc7,[28],0),
  (47,(Ckl51,[Cke103,Cke7,Cke0,Cke139],Ckf41),102,Ckc7,[29],18),
  (50,(Ckl51,[Cke97,Cke139],Ckf41),101,Ckc7,[30],0),
  (53,(Ckl51,[],Ckf41),100,Ckc7,[31],0),
  (54,(Ckl51,[Cke0],Ckf41),99,Ckc7,[32],0),
  (55,(Ckl51,[Cke22,Cke0],Ckf41),98,Ckc7,[33],10),
  (58,(Ckl51,[],Ckf41),97,Ckc7,[34],0),
  (59,(Ckl51,[Cke139],Ckf41),96,Ckc7,[35],0),
  (60,(Ckl51,[Cke0,Cke139],Ckf41),95,Ckc7,[36],0),
  (61,(Ckl51,[Cke139,Cke0,Cke139],Ckf41),94,Ckc7,[37],0),
  (64,(Ckl51,[Cke97,Cke0,Cke139],Ckf41),93,Ckc7,[38],0),
  (65,(Ckl51,[Cke86,Cke97,Cke0,Cke139],Ckf41),92,Ckc7,[39],0),
  (68,(Ckl51,[Cke140,Cke97,Cke0,Cke139],Ckf41),91,Ckc7,[40],19),
  (71,(Ckl51,[Cke97,Cke139],Ckf41),90,Ckc7,[41],0),
  (74,(Ckl51,[],Ckf41),89,Ckc7,[42],0),
  (75,(Ckl51,[Cke139],Ckf41),88,Ckc7,[43],0),
  (76,(Ckl51,[Cke0,Cke139],Ckf41),87,Ckc7,[44],0),
  (78,(Ckl51,[Cke136,Cke0,Cke139],Ckf41),86,Ckc7,[45],20),
  (81,(Ckl51,[Cke141,Cke139],Ckf41),85,Ckc7,[46],0),
  (84,(Ckl51,[],Ckf41),84,Ckc7,[47],0),
  (85,(Ckl51,[Cke0],Ckf41),83,Ckc7,[48],0),
  (86,(Ckl51,[Cke36,Cke0],Ckf41),82,Ckc7,[49,50],21),
  (89,(Ckl51,[Cke7],Ckf41),80,Ckc7,[51],0),
  (89,(Ckl51,[Cke6],Ckf41),81,Ckc7,[51],0),
  (90,(Ckl52,[],Ckf41),79,Ckc7,[52],0),
  (91,(Ckl52,[Cke139],Ckf41),78,Ckc7,[53],0),
  (92,(Ckl52,[Cke142,Cke139],Ckf41),77,Ckc7,[59,54],0),
  (95,(Ckl53,[Cke139],Ckf41),76,Ckc7,[55],0),
  (96,(Ckl53,[Cke0,Cke139],Ckf41),75,Ckc7,[56],0),
  (97,(Ckl53,[Cke7,Cke0,Cke139],Ckf41),74,Ckc7,[57],0),
  (99,(Ckl53,[Cke143,Cke7,Cke0,Cke139],Ckf41),73,Ckc7,[58],22),
  (102,(Ckl53,[Cke113,Cke139],Ckf41),72,Ckc7,[61],0),
  (105,(Ckl54,[Cke139],Ckf41),70,Ckc7,[60],0),
  (106,(Ckl54,[Cke7,Cke139],Ckf41),69,Ckc7,[62],0),
  (106,(Ckl53,[Cke113,Cke139],Ckf41),71,Ckc7,[62],0),
  (109,(Ckl52,[],Ckf41),68,Ckc7,[63],0),
  (110,(Ckl52,[Cke142],Ckf41),67,Ckc7,[67,64],0)]
def CNC27_1 : List ND := [(113,(Ckl53,[],Ckf41),66,Ckc7,[65],0),
  (114,(Ckl53,[Cke0],Ckf41),65,Ckc7,[66],0),
  (115,(Ckl53,[Cke22,Cke0],Ckf41),64,Ckc7,[67],10),
  (118,(Ckl52,[],Ckf41),63,Ckc7,[68],0),
  (119,(Ckl52,[Cke139],Ckf41),62,Ckc7,[69],0),
  (120,(Ckl52,[Cke142,Cke139],Ckf41),61,Ckc7,[78,70],0),
  (123,(Ckl53,[Cke139],Ckf41),60,Ckc7,[71],0),
  (124,(Ckl53,[Cke0,Cke139],Ckf41),59,Ckc7,[72],0),
  (125,(Ckl53,[Cke139,Cke0,Cke139],Ckf41),58,Ckc7,[73],0),
  (128,(Ckl53,[Cke113,Cke0,Cke139],Ckf41),57,Ckc7,[74],0),
  (129,(Ckl53,[Cke6,Cke113,Cke0,Cke139],Ckf41),56,Ckc7,[75],0),
  (130,(Ckl53,[Cke123,Cke0,Cke139],Ckf41),55,Ckc7,[76],0),
  (132,(Ckl53,[Cke144,Cke123,Cke0,Cke139],Ckf41),54,Ckc7,[77],23),
  (135,(Ckl53,[Cke123,Cke139],Ckf41),53,Ckc7,[79],0),
  (138,(Ckl54,[Cke139],Ckf41),52,Ckc7,[79],0),
  (140,(Ckl52,[Cke123,Cke139],Ckf41),51,Ckc7,[80],0),
  (143,(Ckl52,[],Ckf41),50,Ckc7,[81],0),
  (144,(Ckl52,[Cke139],Ckf41),49,Ckc7,[82],0),
  (145,(Ckl52,[Cke0,Cke139],Ckf41),48,Ckc7,[83],0),
  (146,(Ckl52,[Cke35,Cke0,Cke139],Ckf41),47,Ckc7,[84,85],21),
  (149,(Ckl52,[Cke7,Cke139],Ckf41),46,Ckc7,[90],0),
  (149,(Ckl52,[Cke6,Cke139],Ckf41),43,Ckc7,[86],0),
  (152,(Ckl52,[Cke139],Ckf41),42,Ckc7,[87],0),
  (153,(Ckl52,[Cke0,Cke139],Ckf41),41,Ckc7,[88],0),
  (155,(Ckl52,[Cke145,Cke0,Cke139],Ckf41),40,Ckc7,[89],24),
  (158,(Ckl52,[Cke141,Cke139],Ckf41),39,Ckc7,[92],0),
  (161,(Ckl52,[Cke139],Ckf41),45,Ckc7,[91],0),
  (162,(Ckl52,[Cke51,Cke139],Ckf41),44,Ckc7,[93],0),
  (162,(Ckl52,[Cke141,Cke139],Ckf41),38,Ckc7,[93],0),
  (165,(Ckl52,[],Ckf41),37,Ckc7,[94],0),
  (166,(Ckl52,[Cke139],Ckf41),36,Ckc7,[95],0),
  (167,(Ckl52,[Cke0,Cke139],Ckf41),35,Ckc7,[96],0),
  (168,(Ckl52,[Cke137,Cke0,Cke139],Ckf41),34,Ckc7,[97,98],21),
  (171,(Ckl52,[Cke7,Cke139],Ckf41),26,Ckc7,[104],0),
  (171,(Ckl52,[Cke6,Cke139],Ckf41),33,Ckc7,[99],0),
  (174,(Ckl52,[Cke139],Ckf41),32,Ckc7,[100],0),
  (175,(Ckl52,[Cke0,Cke139],Ckf41),31,Ckc7,[101],0),
  (176,(Ckl52,[Cke6,Cke0,Cke139],Ckf41),30,Ckc7,[102],0),
  (178,(Ckl52,[Cke146,Cke6,Cke0,Cke139],Ckf41),29,Ckc7,[103],25),
  (181,(Ckl52,[Cke103,Cke139],Ckf41),28,Ckc7,[106],0),
  (184,(Ckl52,[Cke139],Ckf41),25,Ckc7,[105],0),
  (185,(Ckl52,[Cke6,Cke139],Ckf41),24,Ckc7,[107],0),
  (185,(Ckl52,[Cke103,Cke139],Ckf41),27,Ckc7,[107],0),
  (188,(Ckl52,[],Ckf41),23,Ckc7,[108],0),
  (189,(Ckl52,[Cke139],Ckf41),22,Ckc7,[109],0),
  (190,(Ckl52,[Cke0,Cke139],Ckf41),21,Ckc7,[110],0),
  (192,(Ckl52,[Cke147,Cke0,Cke139],Ckf41),20,Ckc7,[111,112],21),
  (195,(Ckl52,[Cke7,Cke139],Ckf41),12,Ckc7,[118],0),
  (195,(Ckl52,[Cke6,Cke139],Ckf41),19,Ckc7,[113],0),
  (198,(Ckl52,[Cke139],Ckf41),18,Ckc7,[114],0),
  (199,(Ckl52,[Cke0,Cke139],Ckf41),17,Ckc7,[115],0),
  (200,(Ckl52,[Cke7,Cke0,Cke139],Ckf41),16,Ckc7,[116],0),
  (202,(Ckl52,[Cke146,Cke7,Cke0,Cke139],Ckf41),15,Ckc7,[117],26),
  (205,(Ckl52,[Cke97,Cke139],Ckf41),14,Ckc7,[120],0),
  (208,(Ckl52,[Cke139],Ckf41),11,Ckc7,[119],0),
  (209,(Ckl52,[Cke7,Cke139],Ckf41),10,Ckc7,[121],0),
  (209,(Ckl52,[Cke97,Cke139],Ckf41),13,Ckc7,[121],0),
  (212,(Ckl52,[],Ckf41),9,Ckc7,[122],0),
  (213,(Ckl52,[Cke0],Ckf41),8,Ckc7,[123],0),
  (215,(Ckl52,[Cke45,Cke0],Ckf41),7,Ckc7,[124],13),
  (218,(Ckl52,[],Ckf41),6,Ckc7,[125],0),
  (219,(Ckl52,[Cke86],Ckf41),5,Ckc7,[126],0),
  (220,(Ckl52,[Cke86,Cke86],Ckf41),4,Ckc7,[127],0),
  (223,(Ckl52,[Cke138,Cke86],Ckf41),3,Ckc7,[128],0)]
def CNC27_2 : List ND := [(224,(Ckl52,[Cke6,Cke138,Cke86],Ckf41),2,Ckc7,[129],0),
  (225,(Ckl52,[Cke148,Cke86],Ckf41),1,Ckc7,[130],0),
  (228,(Ckl52,[],Ckf31),0,Ckc7,[],0)]
def CNC27 : List (List ND) := [CNC27_0, CNC27_1, CNC27_2]
theorem CKC27 : chkS prot SMsC SMC27 [] CNC27 = true := by decide +kernel
-- OneSided$Reader.takeNumber [(2, 2), (1, 1), (24, 24)]
def Ckl55 : AL := [some Cka0,some Cka6,some Cka86,none]
def Ckl56 : AL := [some Cka0,some Cka6,some Cka86,some Cka85]
def CNC28_0 : List ND := [(0,(Ckl55,[],[]),33,Ckc7,[1],0),
  (1,(Ckl55,[Cke0],[]),32,Ckc7,[2],0),
  (4,(Ckl55,[Cke60],[]),31,Ckc7,[3],0),
  (5,(Ckl55,[Cke36,Cke60],[]),30,Ckc7,[9,4],0),
  (8,(Ckl55,[],Ckf24),4,Ckc7,[5],0),
  (9,(Ckl55,[Cke0],Ckf24),3,Ckc7,[6],0),
  (10,(Ckl55,[Cke6,Cke0],Ckf24),2,Ckc7,[7],9),
  (13,(Ckl55,[],Ckf24),1,Ckc7,[8],0),
  (14,(Ckl55,[Cke129],Ckf24),0,Ckc7,[],0),
  (15,(Ckl55,[],Ckf25),29,Ckc7,[10],0),
  (16,(Ckl55,[Cke0],Ckf25),28,Ckc7,[11],0),
  (19,(Ckl55,[Cke18],Ckf25),27,Ckc7,[12],0),
  (20,(Ckl55,[Cke129,Cke18],Ckf25),26,Ckc7,[13],0),
  (21,(Ckl55,[Cke14,Cke18],Ckf25),25,Ckc7,[14],0),
  (22,(Ckl55,[Cke130],Ckf25),24,Ckc7,[21,15],0),
  (25,(Ckl55,[],Ckf37),23,Ckc7,[16],0),
  (26,(Ckl55,[Cke0],Ckf37),22,Ckc7,[17],0),
  (29,(Ckl55,[Cke118],Ckf37),21,Ckc7,[18],0),
  (30,(Ckl55,[Cke119,Cke118],Ckf37),20,Ckc7,[19],0),
  (31,(Ckl55,[Cke120,Cke118],Ckf37),19,Ckc7,[20],0),
  (32,(Ckl55,[Cke121],Ckf37),18,Ckc7,[26,21],0),
  (35,(Ckl55,[],Ckf25),17,Ckc7,[22],0),
  (36,(Ckl55,[Cke0],Ckf25),16,Ckc7,[23],0),
  (37,(Ckl55,[Cke35,Cke0],Ckf25),15,Ckc7,[24],9),
  (40,(Ckl55,[],Ckf25),14,Ckc7,[25],0),
  (41,(Ckl55,[Cke129],Ckf25),13,Ckc7,[],0),
  (42,(Ckl55,[],Ckf38),12,Ckc7,[27],0),
  (43,(Ckl55,[Cke0],Ckf38),11,Ckc7,[28],0),
  (46,(Ckl55,[Cke122],Ckf38),10,Ckc7,[29],0),
  (47,(Ckl55,[Cke123],Ckf38),9,Ckc7,[30],0),
  (48,(Ckl56,[],Ckf38),8,Ckc7,[31],0),
  (49,(Ckl56,[Cke0],Ckf38),7,Ckc7,[32],6),
  (52,(Ckl56,[],[]),6,Ckc7,[33],0),
  (53,(Ckl56,[Cke124],[]),5,Ckc7,[],0)]
def CNC28 : List (List ND) := [CNC28_0]
theorem CKC28 : chkS prot SMsC SMC28 [] CNC28 = true := by decide +kernel
-- OneSided$Reader.personLine [(2, 2), (5, 5)]
def Ckl57 : AL := [some Cka0,some Cka50,none]
def Ckf42 : FA := [(5,4,Cka97)]
def Ckf43 : FA := [(5,4,Cka67)]
def Cke149 : SE := (Cka67,(2,5,4,0,0))
def Ckl58 : AL := [some Cka0,some Cka50,some Cka70]
def Cke150 : SE := (Cka70,(1,2,0,0,0))
def Cke151 : SE := (Cka68,pv0)
def CNC29_0 : List ND := [(0,(Ckl57,[],[]),68,Ckc1,[1],0),
  (1,(Ckl57,[Cke86],[]),67,Ckc1,[2],0),
  (4,(Ckl57,[Cke82],[]),66,Ckc1,[3],0),
  (6,(Ckl57,[Cke147,Cke82],[]),65,Ckc1,[8,4],0),
  (9,(Ckl57,[],Ckf42),3,Ckc1,[5],0),
  (10,(Ckl57,[Cke0],Ckf42),2,Ckc1,[6],0),
  (11,(Ckl57,[Cke137,Cke0],Ckf42),1,Ckc1,[7],9),
  (14,(Ckl57,[],Ckf42),0,Ckc1,[],0),
  (15,(Ckl57,[],Ckf43),64,Ckc1,[9],0),
  (16,(Ckl57,[Cke86],Ckf43),63,Ckc1,[10],0),
  (19,(Ckl57,[Cke83],Ckf43),62,Ckc1,[11],0),
  (20,(Ckl57,[Cke86,Cke83],Ckf43),61,Ckc1,[12],0),
  (23,(Ckl57,[Cke149,Cke83],Ckf43),60,Ckc1,[13],0),
  (24,(Ckl57,[Cke85],Ckf43),59,Ckc1,[14],0),
  (25,(Ckl58,[],Ckf43),58,Ckc1,[15],0),
  (26,(Ckl58,[Cke0],Ckf43),57,Ckc1,[16],6),
  (29,(Ckl58,[],Ckf43),56,Ckc1,[17],0),
  (30,(Ckl58,[Cke150],Ckf43),55,Ckc1,[18],0),
  (31,(Ckl58,[Cke0,Cke150],Ckf43),54,Ckc1,[19],0),
  (32,(Ckl58,[Cke86,Cke0,Cke150],Ckf43),53,Ckc1,[20],17),
  (35,(Ckl58,[Cke10,Cke150],Ckf43),52,Ckc1,[21],0),
  (38,(Ckl58,[],Ckf43),51,Ckc1,[22],0),
  (39,(Ckl58,[Cke150],Ckf43),50,Ckc1,[23],0),
  (40,(Ckl58,[Cke0,Cke150],Ckf43),49,Ckc1,[24],0),
  (42,(Ckl58,[Cke145,Cke0,Cke150],Ckf43),48,Ckc1,[25],24),
  (45,(Ckl58,[Cke141,Cke150],Ckf43),47,Ckc1,[26],0),
  (48,(Ckl58,[],Ckf43),46,Ckc1,[27],0),
  (49,(Ckl58,[Cke0],Ckf43),45,Ckc1,[28],0),
  (51,(Ckl58,[Cke21,Cke0],Ckf43),44,Ckc1,[29],10),
  (54,(Ckl58,[],Ckf43),43,Ckc1,[30],0),
  (55,(Ckl58,[Cke150],Ckf43),42,Ckc1,[31],0),
  (56,(Ckl58,[Cke0,Cke150],Ckf43),41,Ckc1,[32],0),
  (57,(Ckl58,[Cke7,Cke0,Cke150],Ckf43),40,Ckc1,[33],0),
  (58,(Ckl58,[Cke86,Cke7,Cke0,Cke150],Ckf43),39,Ckc1,[34],0),
  (61,(Ckl58,[Cke140,Cke7,Cke0,Cke150],Ckf43),38,Ckc1,[35],0),
  (62,(Ckl58,[Cke6,Cke140,Cke7,Cke0,Cke150],Ckf43),37,Ckc1,[36],0),
  (63,(Ckl58,[Cke103,Cke7,Cke0,Cke150],Ckf43),36,Ckc1,[37],18),
  (66,(Ckl58,[Cke97,Cke150],Ckf43),35,Ckc1,[38],0),
  (69,(Ckl58,[],Ckf43),34,Ckc1,[39],0),
  (70,(Ckl58,[Cke0],Ckf43),33,Ckc1,[40],0),
  (72,(Ckl58,[Cke146,Cke0],Ckf43),32,Ckc1,[41],10),
  (75,(Ckl58,[],Ckf43),31,Ckc1,[42],0),
  (76,(Ckl58,[Cke150],Ckf43),30,Ckc1,[43],0),
  (77,(Ckl58,[Cke0,Cke150],Ckf43),29,Ckc1,[44],0),
  (78,(Ckl58,[Cke7,Cke0,Cke150],Ckf43),28,Ckc1,[45],0),
  (79,(Ckl58,[Cke86,Cke7,Cke0,Cke150],Ckf43),27,Ckc1,[46],0),
  (82,(Ckl58,[Cke140,Cke7,Cke0,Cke150],Ckf43),26,Ckc1,[47],0),
  (83,(Ckl58,[Cke6,Cke140,Cke7,Cke0,Cke150],Ckf43),25,Ckc1,[48],0),
  (84,(Ckl58,[Cke103,Cke7,Cke0,Cke150],Ckf43),24,Ckc1,[49],18),
  (87,(Ckl58,[Cke97,Cke150],Ckf43),23,Ckc1,[50],0),
  (90,(Ckl58,[],Ckf43),22,Ckc1,[51],0),
  (91,(Ckl58,[Cke0],Ckf43),21,Ckc1,[52],0),
  (93,(Ckl58,[Cke48,Cke0],Ckf43),20,Ckc1,[53],10),
  (96,(Ckl58,[],Ckf43),19,Ckc1,[54],0),
  (97,(Ckl58,[Cke150],Ckf43),18,Ckc1,[55],0),
  (98,(Ckl58,[Cke0,Cke150],Ckf43),17,Ckc1,[56],0),
  (99,(Ckl58,[Cke6,Cke0,Cke150],Ckf43),16,Ckc1,[57],0),
  (101,(Ckl58,[Cke144,Cke6,Cke0,Cke150],Ckf43),15,Ckc1,[58],28),
  (104,(Ckl58,[Cke123,Cke150],Ckf43),14,Ckc1,[59],0),
  (107,(Ckl58,[],Ckf43),13,Ckc1,[60],0),
  (108,(Ckl58,[Cke0],Ckf43),12,Ckc1,[61],0),
  (110,(Ckl58,[Cke45,Cke0],Ckf43),11,Ckc1,[62],13),
  (113,(Ckl58,[],Ckf43),10,Ckc1,[63],0),
  (114,(Ckl58,[Cke86],Ckf43),9,Ckc1,[64],0)]
def CNC29_1 : List ND := [(115,(Ckl58,[Cke86,Cke86],Ckf43),8,Ckc1,[65],0),
  (118,(Ckl58,[Cke149,Cke86],Ckf43),7,Ckc1,[66],0),
  (119,(Ckl58,[Cke6,Cke149,Cke86],Ckf43),6,Ckc1,[67],0),
  (120,(Ckl58,[Cke151,Cke86],Ckf43),5,Ckc1,[68],0),
  (123,(Ckl58,[],Ckf32),4,Ckc1,[],0)]
def CNC29 : List (List ND) := [CNC29_0, CNC29_1]
theorem CKC29 : chkS prot SMsC SMC29 [] CNC29 = true := by decide +kernel
-- OneSided$Quarter.addLaw [(5, 5), (-2147483648, 2147483647)]
def Ckl59 : AL := [some Cka50,some Cka34]
def Cke152 : SE := (Cka14,(2,5,6,0,0))
def Cka98 : AV := (0,1000,1000,0)
def Cke153 : SE := (Cka98,pv0)
def Ckf44 : FA := [(5,6,Cka1)]
def Cka99 : AV := (2,8,8,0)
def Cke154 : SE := (Cka99,(2,5,5,0,0))
def Cke155 : SE := (Cka1,(2,5,6,0,0))
def Cke156 : SE := (Cka34,(1,1,0,0,0))
def Ckf45 : FA := [(5,6,Cka15)]
def CNC30_0 : List ND := [(0,(Ckl59,[],[]),16,Ckc0,[1],0),
  (1,(Ckl59,[Cke53],[]),15,Ckc0,[2],0),
  (4,(Ckl59,[Cke152],[]),14,Ckc0,[3],0),
  (7,(Ckl59,[Cke153,Cke152],[]),13,Ckc0,[16,4],0),
  (10,(Ckl59,[],Ckf44),12,Ckc0,[5],0),
  (11,(Ckl59,[Cke53],Ckf44),11,Ckc0,[6],0),
  (14,(Ckl59,[Cke154],Ckf44),10,Ckc0,[7],0),
  (15,(Ckl59,[Cke53,Cke154],Ckf44),9,Ckc0,[8],0),
  (18,(Ckl59,[Cke155,Cke154],Ckf44),8,Ckc0,[9],0),
  (19,(Ckl59,[Cke156,Cke155,Cke154],Ckf44),7,Ckc0,[10],0),
  (20,(Ckl59,[],Ckf44),6,Ckc0,[11],0),
  (21,(Ckl59,[Cke53],Ckf44),5,Ckc0,[12],0),
  (22,(Ckl59,[Cke53,Cke53],Ckf44),4,Ckc0,[13],0),
  (25,(Ckl59,[Cke155,Cke53],Ckf44),3,Ckc0,[14],0),
  (26,(Ckl59,[Cke6,Cke155,Cke53],Ckf44),2,Ckc0,[15],0),
  (27,(Ckl59,[Cke52,Cke53],Ckf44),1,Ckc0,[16],0),
  (30,(Ckl59,[],Ckf45),0,Ckc0,[],0)]
def CNC30 : List (List ND) := [CNC30_0]
theorem CKC30 : chkS prot SMsC SMC30 [] CNC30 = true := by decide +kernel
-- OneSided$Reader.part [(2, 2), (5, 5), (5, 5)]
def Ckl60 : AL := [some Cka0,some Cka50,some Cka95,none,none,none]
def Ckc9 : List Int := [0,0,0,0,0,0]
def Ckl61 : AL := [some Cka0,some Cka50,some Cka95,some Cka96,none,none]
def Cka100 : AV := (0,25,28,1)
def Ckf46 : FA := [(2,7,Cka100)]
def Cka101 : AV := (0,-1,24,1)
def Ckf47 : FA := [(2,7,Cka101)]
def Ckl62 : AL := [some Cka0,some Cka50,some Cka95,some Cka96,some Cka96,none]
def Ckl63 : AL := [some Cka0,some Cka50,some Cka95,some Cka96,some Cka96,some Cka96]
def Ckl64 : AL := [some Cka0,some Cka50,some Cka95,some Cka7,some Cka96,some Cka96]
def Cke157 : SE := (Cka96,(1,4,0,0,0))
def Ckl65 : AL := [some Cka0,some Cka50,some Cka95,some Cka7,some Cka7,some Cka96]
def Cke158 : SE := (Cka96,(1,5,0,0,0))
def Ckl66 : AL := [some Cka0,some Cka50,some Cka95,some Cka7,some Cka7,some Cka7]
def Cka102 : AV := (0,22,22,0)
def Cke159 : SE := (Cka102,pv0)
def Cke160 : SE := (Cka95,(1,2,0,0,0))
def CNC31_0 : List ND := [(0,(Ckl60,[],[]),43,Ckc9,[1],0),
  (1,(Ckl60,[Cke0],[]),42,Ckc9,[2],0),
  (4,(Ckl60,[Cke60],[]),41,Ckc9,[3],0),
  (5,(Ckl60,[Cke36,Cke60],[]),40,Ckc9,[6,4],0),
  (8,(Ckl60,[],Ckf25),37,Ckc9,[5],0),
  (9,(Ckl60,[Cke6],Ckf25),36,Ckc9,[8],0),
  (12,(Ckl60,[],Ckf24),39,Ckc9,[7],0),
  (13,(Ckl60,[Cke7],Ckf24),38,Ckc9,[9],0),
  (13,(Ckl60,[Cke6],Ckf25),35,Ckc9,[9],0),
  (14,(Ckl61,[],[]),34,Ckc9,[10],0),
  (15,(Ckl61,[Cke0],[]),33,Ckc9,[11],0),
  (18,(Ckl61,[Cke58],[]),32,Ckc9,[12],0),
  (20,(Ckl61,[Cke73,Cke58],[]),31,Ckc9,[15,13],0),
  (23,(Ckl61,[],Ckf46),28,Ckc9,[14],0),
  (24,(Ckl61,[Cke6],Ckf46),27,Ckc9,[17],0),
  (27,(Ckl61,[],Ckf47),30,Ckc9,[16],0),
  (28,(Ckl61,[Cke7],Ckf47),29,Ckc9,[18],0),
  (28,(Ckl61,[Cke6],Ckf46),26,Ckc9,[18],0),
  (30,(Ckl62,[],[]),25,Ckc9,[19],0),
  (31,(Ckl62,[Cke0],[]),24,Ckc9,[20],0),
  (33,(Ckl62,[Cke38,Cke0],[]),23,Ckc9,[22,21],12),
  (36,(Ckl62,[Cke7],[]),22,Ckc9,[23],0),
  (36,(Ckl62,[Cke6],[]),21,Ckc9,[23],0),
  (38,(Ckl63,[],[]),20,Ckc9,[24],0),
  (39,(Ckl63,[Cke142],[]),19,Ckc9,[37,25],0),
  (42,(Ckl64,[],[]),18,Ckc9,[26],0),
  (44,(Ckl64,[Cke157],[]),17,Ckc9,[37,27],0),
  (47,(Ckl65,[],[]),16,Ckc9,[28],0),
  (49,(Ckl65,[Cke158],[]),15,Ckc9,[37,29],0),
  (52,(Ckl66,[],[]),14,Ckc9,[30],0),
  (53,(Ckl66,[Cke0],[]),13,Ckc9,[31],0),
  (56,(Ckl66,[Cke58],[]),12,Ckc9,[32],0),
  (58,(Ckl66,[Cke159,Cke58],[]),11,Ckc9,[37,33],0),
  (61,(Ckl66,[],Ckf23),10,Ckc9,[34],0),
  (62,(Ckl66,[Cke0],Ckf23),9,Ckc9,[35],0),
  (63,(Ckl66,[Cke6,Cke0],Ckf23),8,Ckc9,[36],9),
  (66,(Ckl66,[],Ckf23),7,Ckc9,[],0),
  (67,(Ckl63,[],[]),6,Ckc9,[38],0),
  (68,(Ckl63,[Cke160],[]),5,Ckc9,[39],0),
  (69,(Ckl63,[Cke137,Cke160],[]),4,Ckc9,[40],0),
  (72,(Ckl63,[],[]),3,Ckc9,[41],0),
  (73,(Ckl63,[Cke0],[]),2,Ckc9,[42],0),
  (74,(Ckl63,[Cke137,Cke0],[]),1,Ckc9,[43],9),
  (77,(Ckl63,[],[]),0,Ckc9,[],0)]
def CNC31 : List (List ND) := [CNC31_0]
theorem CKC31 : chkS prot SMsC SMC31 [] CNC31 = true := by decide +kernel
