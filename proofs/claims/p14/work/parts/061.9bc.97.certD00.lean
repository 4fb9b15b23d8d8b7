/-! LM, by program: certificates D 0 -/
-- OneSided$Reader.isLetter [(2, 2), (0, 999)]
def Dka0 : AV := (2,2,2,0)
def Dka1 : AV := (0,0,999,1)
def Dkl0 : AL := [some Dka0,some Dka1]
def Dkc0 : List Int := [0,0]
def Dke0 : SE := (Dka0,(1,0,0,0,0))
def Dka2 : AV := (2,3,3,0)
def Dke1 : SE := (Dka2,(2,2,1,0,0))
def Dke2 : SE := (Dka1,(1,1,0,0,0))
def Dka3 : AV := (0,-128,127,1)
def Dke3 : SE := (Dka3,pv0)
def Dka4 : AV := (0,97,97,0)
def Dke4 : SE := (Dka4,pv0)
def Dka5 : AV := (0,122,122,0)
def Dke5 : SE := (Dka5,pv0)
def Dka6 : AV := (0,1,1,0)
def Dke6 : SE := (Dka6,pv0)
def Dka7 : AV := (0,0,0,0)
def Dke7 : SE := (Dka7,pv0)
def CND0_0 : List ND := [(0,(Dkl0,[],[]),16,Dkc0,[1],0),
  (1,(Dkl0,[Dke0],[]),15,Dkc0,[2],0),
  (4,(Dkl0,[Dke1],[]),14,Dkc0,[3],0),
  (5,(Dkl0,[Dke2,Dke1],[]),13,Dkc0,[4],0),
  (6,(Dkl0,[Dke3],[]),12,Dkc0,[5],0),
  (8,(Dkl0,[Dke4,Dke3],[]),11,Dkc0,[14,6],0),
  (11,(Dkl0,[],[]),10,Dkc0,[7],0),
  (12,(Dkl0,[Dke0],[]),9,Dkc0,[8],0),
  (15,(Dkl0,[Dke1],[]),8,Dkc0,[9],0),
  (16,(Dkl0,[Dke2,Dke1],[]),7,Dkc0,[10],0),
  (17,(Dkl0,[Dke3],[]),6,Dkc0,[11],0),
  (19,(Dkl0,[Dke5,Dke3],[]),5,Dkc0,[14,12],0),
  (22,(Dkl0,[],[]),4,Dkc0,[13],0),
  (23,(Dkl0,[Dke6],[]),3,Dkc0,[16],0),
  (26,(Dkl0,[],[]),1,Dkc0,[15],0),
  (27,(Dkl0,[Dke7],[]),0,Dkc0,[],1),
  (27,(Dkl0,[Dke6],[]),2,Dkc0,[],0)]
def CND0 : List (List ND) := [CND0_0]
theorem CKD0 : chkS prot SMsD SMD0 [] CND0 = true := by decide +kernel
-- OneSided$Reader.withLetter [(-9223372036854775808, 9223372036854775807), (0, 65535)]
def Dka8 : AV := (1,-9223372036854775808,9223372036854775807,1)
def Dka9 : AV := (0,0,65535,1)
def Dkl1 : AL := [some Dka8,none,some Dka9]
def Dkc1 : List Int := [0,0,0]
def Dke8 : SE := (Dka8,(1,0,0,0,0))
def Dka10 : AV := (1,32,32,0)
def Dke9 : SE := (Dka10,pv0)
def Dke10 : SE := (Dka8,pv0)
def Dke11 : SE := (Dka9,(1,2,0,0,0))
def Dka11 : AV := (1,0,65535,1)
def Dke12 : SE := (Dka11,pv0)
def Dka12 : AV := (1,97,97,0)
def Dke13 : SE := (Dka12,pv0)
def Dka13 : AV := (1,1,1,0)
def Dke14 : SE := (Dka13,pv0)
def CND1_0 : List ND := [(0,(Dkl1,[],[]),10,Dkc1,[1],0),
  (1,(Dkl1,[Dke8],[]),9,Dkc1,[2],0),
  (4,(Dkl1,[Dke9,Dke8],[]),8,Dkc1,[3],0),
  (5,(Dkl1,[Dke10],[]),7,Dkc1,[4],0),
  (6,(Dkl1,[Dke11,Dke10],[]),6,Dkc1,[5],0),
  (7,(Dkl1,[Dke12,Dke10],[]),5,Dkc1,[6],0),
  (8,(Dkl1,[Dke10],[]),4,Dkc1,[7],0),
  (11,(Dkl1,[Dke13,Dke10],[]),3,Dkc1,[8],0),
  (12,(Dkl1,[Dke10],[]),2,Dkc1,[9],0),
  (13,(Dkl1,[Dke14,Dke10],[]),1,Dkc1,[10],0),
  (14,(Dkl1,[Dke10],[]),0,Dkc1,[],0)]
def CND1 : List (List ND) := [CND1_0]
theorem CKD1 : chkS prot SMsD SMD1 [] CND1 = true := by decide +kernel
-- OneSided$Reader.scanWord [(2, 2)]
def Dkl2 : AL := [some Dka0,none,none]
def Dka14 : AV := (0,0,1000,1)
def Dke15 : SE := (Dka14,(2,2,4,0,0))
def Dkl3 : AL := [some Dka0,some Dka14,none]
def Dkc2 : List Int := [0,-20,0]
def Dke16 : SE := (Dka14,(1,1,0,0,0))
def Dke17 : SE := (Dka14,(2,2,0,0,0))
def Dkl4 : AL := [some Dka0,some Dka1,none]
def Dka15 : AV := (0,1,1000,1)
def Dkf0 : FA := [(2,0,Dka15)]
def Dke18 : SE := (Dka8,(2,2,6,0,0))
def Dke19 : SE := (Dka9,pv0)
def Dkl5 : AL := [some Dka0,some Dka15,none]
def Dkf1 : FA := [(2,0,Dka14)]
def Dka16 : AV := (0,-1000,1000,1)
def Dke20 : SE := (Dka16,pv0)
def Dka17 : AV := (0,8,8,0)
def Dke21 : SE := (Dka17,pv0)
def Dka18 : AV := (0,2,2,0)
def Dke22 : SE := (Dka18,pv0)
def Dka19 : AV := (0,1,2,1)
def Dkf2 : FA := [(2,3,Dka19)]
def Dka20 : AV := (0,0,29,1)
def Dkl6 : AL := [some Dka0,some Dka14,some Dka20]
def Dkc3 : List Int := [0,0,-20]
def Dkl7 : AL := [some Dka0,some Dka14,some Dka7]
def Dke23 : SE := (Dka7,(1,2,0,0,0))
def Dke24 : SE := (Dka20,(1,2,0,0,0))
def Dka21 : AV := (0,29,29,0)
def Dke25 : SE := (Dka21,pv0)
def Dka22 : AV := (0,0,28,1)
def Dkl8 : AL := [some Dka0,some Dka14,some Dka22]
def Dke26 : SE := (Dka19,(2,2,3,0,0))
def Dkf3 : FA := [(2,3,Dka18)]
def Dka23 : AV := (2,4,4,0)
def Dke27 : SE := (Dka23,(2,2,2,0,0))
def Dke28 : SE := (Dka22,(1,2,0,0,0))
def Dka24 : AV := (0,-1,1,1)
def Dke29 : SE := (Dka24,pv0)
def Dkf4 : FA := [(2,3,Dka18),(4,0,Dka8)]
def Dka25 : AV := (0,1,29,1)
def Dkl9 : AL := [some Dka0,some Dka14,some Dka25]
def CND2_0 : List ND := [(0,(Dkl2,[],[]),20641,Dkc1,[1],0),
  (1,(Dkl2,[Dke0],[]),20640,Dkc1,[2],0),
  (4,(Dkl2,[Dke15],[]),20639,Dkc1,[3],0),
  (5,(Dkl3,[],[]),20637,Dkc2,[4],0),
  (6,(Dkl3,[Dke16],[]),20636,Dkc2,[5],0),
  (7,(Dkl3,[Dke0,Dke16],[]),20635,Dkc2,[6],0),
  (10,(Dkl3,[Dke17,Dke16],[]),20634,Dkc2,[24,7],0),
  (13,(Dkl4,[],Dkf0),20633,Dkc2,[8],0),
  (14,(Dkl4,[Dke0],Dkf0),20632,Dkc2,[9],0),
  (15,(Dkl4,[Dke2,Dke0],Dkf0),20631,Dkc2,[11,10],0),
  (18,(Dkl4,[Dke7],Dkf0),618,Dkc1,[24],0),
  (18,(Dkl4,[Dke6],Dkf0),20630,Dkc2,[12],0),
  (21,(Dkl4,[],Dkf0),20629,Dkc2,[13],0),
  (22,(Dkl4,[Dke0],Dkf0),20628,Dkc2,[14],0),
  (23,(Dkl4,[Dke0,Dke0],Dkf0),20627,Dkc2,[15],0),
  (26,(Dkl4,[Dke18,Dke0],Dkf0),20626,Dkc2,[16],0),
  (27,(Dkl4,[Dke0,Dke18,Dke0],Dkf0),20625,Dkc2,[17],0),
  (30,(Dkl4,[Dke1,Dke18,Dke0],Dkf0),20624,Dkc2,[18],0),
  (31,(Dkl4,[Dke2,Dke1,Dke18,Dke0],Dkf0),20623,Dkc2,[19],0),
  (32,(Dkl4,[Dke3,Dke18,Dke0],Dkf0),20622,Dkc2,[20],0),
  (33,(Dkl4,[Dke19,Dke18,Dke0],Dkf0),20621,Dkc2,[21],1),
  (36,(Dkl4,[Dke10,Dke0],Dkf0),20620,Dkc2,[22],0),
  (39,(Dkl4,[],Dkf0),20619,Dkc2,[23],0),
  (42,(Dkl5,[],Dkf0),20638,Dkc2,[3],0),
  (45,(Dkl3,[],Dkf1),617,Dkc1,[25],0),
  (46,(Dkl3,[Dke0],Dkf1),616,Dkc1,[26],0),
  (47,(Dkl3,[Dke16,Dke0],Dkf1),615,Dkc1,[27],0),
  (50,(Dkl3,[],Dkf1),614,Dkc1,[28],0),
  (51,(Dkl3,[Dke0],Dkf1),613,Dkc1,[29],0),
  (52,(Dkl3,[Dke16,Dke0],Dkf1),612,Dkc1,[30],0),
  (53,(Dkl3,[Dke0,Dke16,Dke0],Dkf1),611,Dkc1,[31],0),
  (56,(Dkl3,[Dke15,Dke16,Dke0],Dkf1),610,Dkc1,[32],0),
  (57,(Dkl3,[Dke20,Dke0],Dkf1),609,Dkc1,[33],0),
  (59,(Dkl3,[Dke21,Dke20,Dke0],Dkf1),608,Dkc1,[36,34],0),
  (62,(Dkl3,[Dke0],Dkf1),607,Dkc1,[35],0),
  (63,(Dkl3,[Dke22,Dke0],Dkf1),606,Dkc1,[38],0),
  (66,(Dkl3,[Dke0],Dkf1),604,Dkc1,[37],0),
  (67,(Dkl3,[Dke6,Dke0],Dkf1),603,Dkc1,[39],0),
  (67,(Dkl3,[Dke22,Dke0],Dkf1),605,Dkc1,[39],0),
  (70,(Dkl3,[],Dkf2),602,Dkc1,[40],0),
  (71,(Dkl3,[Dke7],Dkf2),601,Dkc1,[41],0),
  (72,(Dkl6,[],Dkf2),599,Dkc3,[43],0),
  (73,(Dkl7,[Dke23],Dkf2),20643,Dkc1,[44],0),
  (73,(Dkl6,[Dke24],Dkf2),598,Dkc3,[45],0),
  (75,(Dkl7,[Dke25,Dke23],Dkf2),20642,Dkc1,[46],0),
  (75,(Dkl6,[Dke25,Dke24],Dkf2),597,Dkc3,[65,46],0),
  (78,(Dkl8,[],Dkf2),596,Dkc3,[47],0),
  (79,(Dkl8,[Dke0],Dkf2),595,Dkc3,[48],0),
  (82,(Dkl8,[Dke26],Dkf2),594,Dkc3,[49],0),
  (83,(Dkl8,[Dke22,Dke26],Dkf2),593,Dkc3,[65,50],0),
  (86,(Dkl8,[],Dkf3),592,Dkc3,[51],0),
  (87,(Dkl8,[Dke0],Dkf3),591,Dkc3,[52],0),
  (90,(Dkl8,[Dke27],Dkf3),590,Dkc3,[54],0),
  (91,(Dkl7,[Dke23,Dke27],Dkf3),20644,Dkc1,[55],0),
  (91,(Dkl8,[Dke28,Dke27],Dkf3),589,Dkc3,[55],0),
  (92,(Dkl8,[Dke10],Dkf3),588,Dkc3,[56],0),
  (93,(Dkl8,[Dke0,Dke10],Dkf3),587,Dkc3,[57],0),
  (96,(Dkl8,[Dke18,Dke10],Dkf3),586,Dkc3,[58],0),
  (97,(Dkl8,[Dke29],Dkf3),585,Dkc3,[63,59],0),
  (100,(Dkl8,[],Dkf3),584,Dkc3,[60],0),
  (101,(Dkl8,[Dke0],Dkf3),583,Dkc3,[62],0),
  (102,(Dkl7,[Dke23,Dke0],Dkf4),20645,Dkc1,[63],0),
  (102,(Dkl8,[Dke28,Dke0],Dkf3),582,Dkc3,[63],0),
  (105,(Dkl8,[],Dkf3),581,Dkc3,[64],0)]
def CND2_1 : List ND := [(108,(Dkl9,[],Dkf3),600,Dkc3,[41],0),
  (111,(Dkl6,[],Dkf2),0,Dkc1,[],0)]
def CND2 : List (List ND) := [CND2_0, CND2_1]
theorem CKD2 : chkS prot SMsD SMD2 [] CND2 = true := by decide +kernel
-- OneSided$Reader.isDigit [(2, 2), (0, 999)]
def Dka26 : AV := (0,48,48,0)
def Dke30 : SE := (Dka26,pv0)
def Dka27 : AV := (0,57,57,0)
def Dke31 : SE := (Dka27,pv0)
def CND3_0 : List ND := [(0,(Dkl0,[],[]),16,Dkc0,[1],0),
  (1,(Dkl0,[Dke0],[]),15,Dkc0,[2],0),
  (4,(Dkl0,[Dke1],[]),14,Dkc0,[3],0),
  (5,(Dkl0,[Dke2,Dke1],[]),13,Dkc0,[4],0),
  (6,(Dkl0,[Dke3],[]),12,Dkc0,[5],0),
  (8,(Dkl0,[Dke30,Dke3],[]),11,Dkc0,[14,6],0),
  (11,(Dkl0,[],[]),10,Dkc0,[7],0),
  (12,(Dkl0,[Dke0],[]),9,Dkc0,[8],0),
  (15,(Dkl0,[Dke1],[]),8,Dkc0,[9],0),
  (16,(Dkl0,[Dke2,Dke1],[]),7,Dkc0,[10],0),
  (17,(Dkl0,[Dke3],[]),6,Dkc0,[11],0),
  (19,(Dkl0,[Dke31,Dke3],[]),5,Dkc0,[14,12],0),
  (22,(Dkl0,[],[]),4,Dkc0,[13],0),
  (23,(Dkl0,[Dke6],[]),3,Dkc0,[16],0),
  (26,(Dkl0,[],[]),1,Dkc0,[15],0),
  (27,(Dkl0,[Dke7],[]),0,Dkc0,[],1),
  (27,(Dkl0,[Dke6],[]),2,Dkc0,[],0)]
def CND3 : List (List ND) := [CND3_0]
theorem CKD3 : chkS prot SMsD SMD3 [] CND3 = true := by decide +kernel
-- OneSided$Reader.scanNumber [(2, 2)]
def Dkl10 : AL := [some Dka0,none]
def Dkl11 : AL := [some Dka0,some Dka14]
def Dkc4 : List Int := [0,-24]
def Dka28 : AV := (1,10,10,0)
def Dke32 : SE := (Dka28,pv0)
def Dka29 : AV := (1,-128,127,1)
def Dke33 : SE := (Dka29,pv0)
def Dka30 : AV := (1,48,48,0)
def Dke34 : SE := (Dka30,pv0)
def Dkl12 : AL := [some Dka0,some Dka15]
def Dka31 : AV := (0,4,4,0)
def Dke35 : SE := (Dka31,pv0)
def Dka32 : AV := (0,3,3,0)
def Dke36 : SE := (Dka32,pv0)
def Dka33 : AV := (0,1,3,2)
def Dkf5 : FA := [(2,3,Dka33)]
def CND4_0 : List ND := [(0,(Dkl10,[],[]),24043,Dkc0,[1],0),
  (1,(Dkl10,[Dke0],[]),24042,Dkc0,[2],0),
  (4,(Dkl10,[Dke15],[]),24041,Dkc0,[3],0),
  (5,(Dkl11,[],[]),24039,Dkc4,[4],0),
  (6,(Dkl11,[Dke16],[]),24038,Dkc4,[5],0),
  (7,(Dkl11,[Dke0,Dke16],[]),24037,Dkc4,[6],0),
  (10,(Dkl11,[Dke17,Dke16],[]),24036,Dkc4,[28,7],0),
  (13,(Dkl0,[],Dkf0),24035,Dkc4,[8],0),
  (14,(Dkl0,[Dke0],Dkf0),24034,Dkc4,[9],0),
  (15,(Dkl0,[Dke2,Dke0],Dkf0),24033,Dkc4,[11,10],3),
  (18,(Dkl0,[Dke7],Dkf0),16,Dkc0,[28],0),
  (18,(Dkl0,[Dke6],Dkf0),24032,Dkc4,[12],0),
  (21,(Dkl0,[],Dkf0),24031,Dkc4,[13],0),
  (22,(Dkl0,[Dke0],Dkf0),24030,Dkc4,[14],0),
  (23,(Dkl0,[Dke0,Dke0],Dkf0),24029,Dkc4,[15],0),
  (26,(Dkl0,[Dke18,Dke0],Dkf0),24028,Dkc4,[16],0),
  (29,(Dkl0,[Dke32,Dke18,Dke0],Dkf0),24027,Dkc4,[17],0),
  (30,(Dkl0,[Dke10,Dke0],Dkf0),24026,Dkc4,[18],0),
  (31,(Dkl0,[Dke0,Dke10,Dke0],Dkf0),24025,Dkc4,[19],0),
  (34,(Dkl0,[Dke1,Dke10,Dke0],Dkf0),24024,Dkc4,[20],0),
  (35,(Dkl0,[Dke2,Dke1,Dke10,Dke0],Dkf0),24023,Dkc4,[21],0),
  (36,(Dkl0,[Dke3,Dke10,Dke0],Dkf0),24022,Dkc4,[22],0),
  (37,(Dkl0,[Dke33,Dke10,Dke0],Dkf0),24021,Dkc4,[23],0),
  (38,(Dkl0,[Dke10,Dke0],Dkf0),24020,Dkc4,[24],0),
  (41,(Dkl0,[Dke34,Dke10,Dke0],Dkf0),24019,Dkc4,[25],0),
  (42,(Dkl0,[Dke10,Dke0],Dkf0),24018,Dkc4,[26],0),
  (45,(Dkl0,[],Dkf0),24017,Dkc4,[27],0),
  (48,(Dkl12,[],Dkf0),24040,Dkc4,[3],0),
  (51,(Dkl11,[],Dkf1),15,Dkc0,[29],0),
  (52,(Dkl11,[Dke0],Dkf1),14,Dkc0,[30],0),
  (53,(Dkl11,[Dke16,Dke0],Dkf1),13,Dkc0,[31],0),
  (56,(Dkl11,[],Dkf1),12,Dkc0,[32],0),
  (57,(Dkl11,[Dke0],Dkf1),11,Dkc0,[33],0),
  (58,(Dkl11,[Dke16,Dke0],Dkf1),10,Dkc0,[34],0),
  (59,(Dkl11,[Dke0,Dke16,Dke0],Dkf1),9,Dkc0,[35],0),
  (62,(Dkl11,[Dke15,Dke16,Dke0],Dkf1),8,Dkc0,[36],0),
  (63,(Dkl11,[Dke20,Dke0],Dkf1),7,Dkc0,[37],0),
  (64,(Dkl11,[Dke35,Dke20,Dke0],Dkf1),6,Dkc0,[40,38],0),
  (67,(Dkl11,[Dke0],Dkf1),3,Dkc0,[39],0),
  (68,(Dkl11,[Dke36,Dke0],Dkf1),2,Dkc0,[42],0),
  (71,(Dkl11,[Dke0],Dkf1),5,Dkc0,[41],0),
  (72,(Dkl11,[Dke6,Dke0],Dkf1),4,Dkc0,[43],0),
  (72,(Dkl11,[Dke36,Dke0],Dkf1),1,Dkc0,[43],0),
  (75,(Dkl11,[],Dkf5),0,Dkc0,[],0)]
def CND4 : List (List ND) := [CND4_0]
theorem CKD4 : chkS prot SMsD SMD4 [] CND4 = true := by decide +kernel
-- OneSided$Reader.isTokenSign [(-2147483648, 2147483647)]
def Dka34 : AV := (0,-2147483648,2147483647,1)
def Dkl13 : AL := [some Dka34]
def Dkc5 : List Int := [0]
def Dke37 : SE := (Dka34,(1,0,0,0,0))
def Dka35 : AV := (0,40,40,0)
def Dke38 : SE := (Dka35,pv0)
def Dka36 : AV := (0,41,41,0)
def Dke39 : SE := (Dka36,pv0)
def Dka37 : AV := (0,60,60,0)
def Dke40 : SE := (Dka37,pv0)
def Dka38 : AV := (0,61,61,0)
def Dke41 : SE := (Dka38,pv0)
def Dka39 : AV := (0,43,43,0)
def Dke42 : SE := (Dka39,pv0)
def Dka40 : AV := (0,45,45,0)
def Dke43 : SE := (Dka40,pv0)
def Dka41 : AV := (0,42,42,0)
def Dke44 : SE := (Dka41,pv0)
def Dka42 : AV := (0,59,59,0)
def Dke45 : SE := (Dka42,pv0)
def Dka43 : AV := (0,40,61,1)
def Dkl14 : AL := [some Dka43]
def CND5_0 : List ND := [(0,(Dkl13,[],[]),28,Dkc5,[1],0),
  (1,(Dkl13,[Dke37],[]),27,Dkc5,[2],0),
  (3,(Dkl13,[Dke38,Dke37],[]),26,Dkc5,[24,3],0),
  (6,(Dkl13,[],[]),25,Dkc5,[4],0),
  (7,(Dkl13,[Dke37],[]),24,Dkc5,[5],0),
  (9,(Dkl13,[Dke39,Dke37],[]),23,Dkc5,[24,6],0),
  (12,(Dkl13,[],[]),22,Dkc5,[7],0),
  (13,(Dkl13,[Dke37],[]),21,Dkc5,[8],0),
  (15,(Dkl13,[Dke40,Dke37],[]),20,Dkc5,[24,9],0),
  (18,(Dkl13,[],[]),19,Dkc5,[10],0),
  (19,(Dkl13,[Dke37],[]),18,Dkc5,[11],0),
  (21,(Dkl13,[Dke41,Dke37],[]),17,Dkc5,[24,12],0),
  (24,(Dkl13,[],[]),16,Dkc5,[13],0),
  (25,(Dkl13,[Dke37],[]),15,Dkc5,[14],0),
  (27,(Dkl13,[Dke42,Dke37],[]),14,Dkc5,[24,15],0),
  (30,(Dkl13,[],[]),13,Dkc5,[16],0),
  (31,(Dkl13,[Dke37],[]),12,Dkc5,[17],0),
  (33,(Dkl13,[Dke43,Dke37],[]),11,Dkc5,[24,18],0),
  (36,(Dkl13,[],[]),10,Dkc5,[19],0),
  (37,(Dkl13,[Dke37],[]),9,Dkc5,[20],0),
  (39,(Dkl13,[Dke44,Dke37],[]),8,Dkc5,[24,21],0),
  (42,(Dkl13,[],[]),7,Dkc5,[22],0),
  (43,(Dkl13,[Dke37],[]),6,Dkc5,[23],0),
  (45,(Dkl13,[Dke45,Dke37],[]),5,Dkc5,[26,24],0),
  (48,(Dkl14,[],[]),2,Dkc5,[25],0),
  (49,(Dkl14,[Dke6],[]),1,Dkc5,[28],0),
  (52,(Dkl13,[],[]),4,Dkc5,[27],0),
  (53,(Dkl13,[Dke7],[]),3,Dkc5,[],1),
  (53,(Dkl14,[Dke6],[]),0,Dkc5,[],0)]
def CND5 : List (List ND) := [CND5_0]
theorem CKD5 : chkS prot SMsD SMD5 [(0,0)] CND5 = true := by decide +kernel
-- OneSided$Reader.step [(2, 2)]
def Dka44 : AV := (0,0,16005,1)
def Dke46 : SE := (Dka44,(2,2,8,0,0))
def Dka45 : AV := (0,1,16005,1)
def Dkf6 : FA := [(2,8,Dka45)]
def Dkf7 : FA := [(2,8,Dka7)]
def Dke47 : SE := (Dka14,(2,2,5,0,0))
def Dkc6 : List Int := [0,-18]
def Dkf8 : FA := [(2,0,Dka15),(2,8,Dka7)]
def Dka46 : AV := (0,10,10,0)
def Dke48 : SE := (Dka46,pv0)
def Dka47 : AV := (0,32,32,0)
def Dke49 : SE := (Dka47,pv0)
def Dkf9 : FA := [(2,0,Dka14),(2,8,Dka7)]
def Dka48 : AV := (1,0,0,0)
def Dke50 : SE := (Dka48,pv0)
def Dkf10 : FA := [(2,0,Dka14),(2,6,Dka48),(2,8,Dka7)]
def Dka49 : AV := (0,-1,-1,0)
def Dke51 : SE := (Dka49,pv0)
def Dkf11 : FA := [(2,0,Dka14),(2,6,Dka48),(2,7,Dka49),(2,8,Dka7)]
def Dkf12 : FA := [(2,0,Dka14),(2,3,Dka7),(2,6,Dka48),(2,7,Dka49),(2,8,Dka7)]
def Dkf13 : FA := [(2,0,Dka15),(2,6,Dka48),(2,7,Dka49),(2,8,Dka7)]
def Dkf14 : FA := [(2,0,Dka15),(2,7,Dka49),(2,8,Dka7)]
def Dke52 : SE := (Dka15,pv0)
def Dkf15 : FA := [(2,0,Dka15),(2,5,Dka15),(2,6,Dka48),(2,7,Dka49),(2,8,Dka7)]
def Dkf16 : FA := [(2,0,Dka15),(2,5,Dka15),(2,6,Dka29),(2,7,Dka49),(2,8,Dka7)]
def CND6_0 : List ND := [(0,(Dkl10,[],[]),18083,Dkc0,[1],0),
  (1,(Dkl10,[Dke0],[]),18082,Dkc0,[2],0),
  (4,(Dkl10,[Dke46],[]),18081,Dkc0,[4,3],0),
  (7,(Dkl10,[],Dkf6),18080,Dkc0,[],0),
  (8,(Dkl10,[],Dkf7),18079,Dkc0,[5],0),
  (9,(Dkl10,[Dke0],Dkf7),18078,Dkc0,[6],0),
  (12,(Dkl10,[Dke47],Dkf7),18077,Dkc0,[7],0),
  (13,(Dkl11,[],Dkf7),18075,Dkc6,[8],0),
  (14,(Dkl11,[Dke16],Dkf7),18074,Dkc6,[9],0),
  (15,(Dkl11,[Dke0,Dke16],Dkf7),18073,Dkc6,[10],0),
  (18,(Dkl11,[Dke17,Dke16],Dkf7),18072,Dkc6,[25,11],0),
  (21,(Dkl0,[],Dkf8),18071,Dkc6,[12],0),
  (22,(Dkl0,[Dke0],Dkf8),18070,Dkc6,[13],0),
  (25,(Dkl0,[Dke1],Dkf8),18069,Dkc6,[14],0),
  (26,(Dkl0,[Dke2,Dke1],Dkf8),18068,Dkc6,[15],0),
  (27,(Dkl0,[Dke3],Dkf8),18067,Dkc6,[16],0),
  (29,(Dkl0,[Dke48,Dke3],Dkf8),18066,Dkc6,[23,17],0),
  (32,(Dkl0,[],Dkf8),18065,Dkc6,[18],0),
  (33,(Dkl0,[Dke0],Dkf8),18064,Dkc6,[19],0),
  (36,(Dkl0,[Dke1],Dkf8),18063,Dkc6,[20],0),
  (37,(Dkl0,[Dke2,Dke1],Dkf8),18062,Dkc6,[21],0),
  (38,(Dkl0,[Dke3],Dkf8),18061,Dkc6,[22],0),
  (40,(Dkl0,[Dke49,Dke3],Dkf8),18060,Dkc6,[25,23],0),
  (43,(Dkl0,[],Dkf8),18059,Dkc6,[24],0),
  (46,(Dkl12,[],Dkf8),18076,Dkc6,[7],0),
  (49,(Dkl11,[],Dkf9),58,Dkc0,[26],0),
  (50,(Dkl11,[Dke0],Dkf9),57,Dkc0,[27],0),
  (51,(Dkl11,[Dke16,Dke0],Dkf9),56,Dkc0,[28],0),
  (54,(Dkl11,[],Dkf9),55,Dkc0,[29],0),
  (55,(Dkl11,[Dke0],Dkf9),54,Dkc0,[30],0),
  (56,(Dkl11,[Dke50,Dke0],Dkf9),53,Dkc0,[31],0),
  (59,(Dkl11,[],Dkf10),52,Dkc0,[32],0),
  (60,(Dkl11,[Dke0],Dkf10),51,Dkc0,[33],0),
  (61,(Dkl11,[Dke51,Dke0],Dkf10),50,Dkc0,[34],0),
  (64,(Dkl11,[],Dkf11),49,Dkc0,[35],0),
  (65,(Dkl11,[Dke16],Dkf11),48,Dkc0,[36],0),
  (66,(Dkl11,[Dke0,Dke16],Dkf11),47,Dkc0,[37],0),
  (69,(Dkl11,[Dke17,Dke16],Dkf11),46,Dkc0,[42,38],0),
  (72,(Dkl11,[],Dkf11),45,Dkc0,[39],0),
  (73,(Dkl11,[Dke0],Dkf11),44,Dkc0,[40],0),
  (74,(Dkl11,[Dke7,Dke0],Dkf11),43,Dkc0,[41],0),
  (77,(Dkl11,[],Dkf12),42,Dkc0,[83],0),
  (80,(Dkl0,[],Dkf13),41,Dkc0,[43],0),
  (81,(Dkl0,[Dke0],Dkf13),40,Dkc0,[44],0),
  (82,(Dkl0,[Dke2,Dke0],Dkf13),39,Dkc0,[46,45],0),
  (85,(Dkl0,[Dke7],Dkf13),34,Dkc0,[50],0),
  (85,(Dkl0,[Dke6],Dkf13),38,Dkc0,[47],0),
  (88,(Dkl0,[],Dkf13),37,Dkc0,[48],0),
  (89,(Dkl0,[Dke0],Dkf13),36,Dkc0,[49],2),
  (92,(Dkl0,[],Dkf8),35,Dkc0,[83],0),
  (95,(Dkl0,[],Dkf13),33,Dkc0,[51],0),
  (96,(Dkl0,[Dke0],Dkf13),32,Dkc0,[52],0),
  (97,(Dkl0,[Dke2,Dke0],Dkf13),31,Dkc0,[54,53],3),
  (100,(Dkl0,[Dke7],Dkf13),26,Dkc0,[58],0),
  (100,(Dkl0,[Dke6],Dkf13),30,Dkc0,[55],0),
  (103,(Dkl0,[],Dkf13),29,Dkc0,[56],0),
  (104,(Dkl0,[Dke0],Dkf13),28,Dkc0,[57],4),
  (107,(Dkl0,[],Dkf14),27,Dkc0,[83],0),
  (110,(Dkl0,[],Dkf13),25,Dkc0,[59],0),
  (111,(Dkl0,[Dke0],Dkf13),24,Dkc0,[60],0),
  (112,(Dkl0,[Dke2,Dke0],Dkf13),23,Dkc0,[61],0),
  (113,(Dkl0,[Dke6,Dke2,Dke0],Dkf13),22,Dkc0,[62],0),
  (114,(Dkl0,[Dke52,Dke0],Dkf13),21,Dkc0,[63],0),
  (117,(Dkl0,[],Dkf15),20,Dkc0,[64],0)]
def CND6_1 : List ND := [(118,(Dkl0,[Dke0],Dkf15),19,Dkc0,[65],0),
  (119,(Dkl0,[Dke0,Dke0],Dkf15),18,Dkc0,[66],0),
  (122,(Dkl0,[Dke1,Dke0],Dkf15),17,Dkc0,[67],0),
  (123,(Dkl0,[Dke2,Dke1,Dke0],Dkf15),16,Dkc0,[68],0),
  (124,(Dkl0,[Dke3,Dke0],Dkf15),15,Dkc0,[69],0),
  (125,(Dkl0,[Dke33,Dke0],Dkf15),14,Dkc0,[70],0),
  (128,(Dkl0,[],Dkf16),13,Dkc0,[71],0),
  (129,(Dkl0,[Dke0],Dkf16),12,Dkc0,[72],0),
  (130,(Dkl0,[Dke0,Dke0],Dkf16),11,Dkc0,[73],0),
  (133,(Dkl0,[Dke1,Dke0],Dkf16),10,Dkc0,[74],0),
  (134,(Dkl0,[Dke2,Dke1,Dke0],Dkf16),9,Dkc0,[75],0),
  (135,(Dkl0,[Dke3,Dke0],Dkf16),8,Dkc0,[77,76],5),
  (138,(Dkl0,[Dke7,Dke0],Dkf16),3,Dkc0,[80],0),
  (138,(Dkl0,[Dke6,Dke0],Dkf16),7,Dkc0,[78],0),
  (141,(Dkl0,[Dke0],Dkf16),6,Dkc0,[79],0),
  (142,(Dkl0,[Dke35,Dke0],Dkf16),5,Dkc0,[82],0),
  (145,(Dkl0,[Dke0],Dkf16),2,Dkc0,[81],0),
  (146,(Dkl0,[Dke6,Dke0],Dkf16),1,Dkc0,[83],0),
  (146,(Dkl0,[Dke35,Dke0],Dkf16),4,Dkc0,[83],0),
  (149,(Dkl11,[],Dkf7),0,Dkc0,[],0)]
def CND6 : List (List ND) := [CND6_0, CND6_1]
theorem CKD6 : chkS prot SMsD SMD6 [] CND6 = true := by decide +kernel
-- OneSided$Reader.begin [(2, 2)]
def Dkl15 : AL := [some Dka0]
def Dkf17 : FA := [(2,5,Dka7),(2,8,Dka7)]
def CND7_0 : List ND := [(0,(Dkl15,[],[]),8,Dkc5,[1],0),
  (1,(Dkl15,[Dke0],[]),7,Dkc5,[2],0),
  (2,(Dkl15,[Dke7,Dke0],[]),6,Dkc5,[3],0),
  (5,(Dkl15,[],Dkf7),5,Dkc5,[4],0),
  (6,(Dkl15,[Dke0],Dkf7),4,Dkc5,[5],0),
  (7,(Dkl15,[Dke7,Dke0],Dkf7),3,Dkc5,[6],0),
  (10,(Dkl15,[],Dkf17),2,Dkc5,[7],0),
  (11,(Dkl15,[Dke0],Dkf17),1,Dkc5,[8],6),
  (14,(Dkl15,[],Dkf7),0,Dkc5,[],0)]
def CND7 : List (List ND) := [CND7_0]
theorem CKD7 : chkS prot SMsD SMD7 [] CND7 = true := by decide +kernel
-- OneSided$Reader.readDay [(2, 2), (5, 5), (67, 67)]
def Dka50 : AV := (2,5,5,0)
def Dka51 : AV := (2,67,67,0)
def Dkl16 : AL := [some Dka0,some Dka50,some Dka51,none]
def Dkc7 : List Int := [0,0,0,0]
def Dke53 : SE := (Dka51,(1,2,0,0,0))
def Dkf18 : FA := [(67,1,Dka7)]
def Dkl17 : AL := [some Dka0,some Dka50,some Dka51,some Dka14]
def Dkc8 : List Int := [0,0,0,-15]
def Dkl18 : AL := [some Dka0,some Dka50,some Dka51,some Dka7]
def Dke54 : SE := (Dka7,(1,3,0,0,0))
def Dke55 : SE := (Dka14,(1,3,0,0,0))
def Dka52 : AV := (0,1000,1000,0)
def Dke56 : SE := (Dka52,pv0)
def Dkl19 : AL := [some Dka0,some Dka50,some Dka51,some Dka1]
def Dka53 : AV := (0,0,4,1)
def Dke57 : SE := (Dka53,(2,2,3,0,0))
def Dka54 : AV := (0,1,4,1)
def Dkf19 : FA := [(2,3,Dka54),(2,8,Dka7)]
def Dke58 : SE := (Dka50,(1,1,0,0,0))
def Dkl20 : AL := [some Dka0,some Dka50,some Dka51,some Dka15]
def Dkf20 : FA := [(2,0,Dka7)]
def CND9_0 : List ND := [(0,(Dkl16,[],[]),15027,Dkc7,[1],0),
  (1,(Dkl16,[Dke0],[]),15026,Dkc7,[2],7),
  (4,(Dkl16,[],[]),15025,Dkc7,[3],0),
  (5,(Dkl16,[Dke53],[]),15024,Dkc7,[4],0),
  (6,(Dkl16,[Dke7,Dke53],[]),15023,Dkc7,[5],0),
  (9,(Dkl16,[],Dkf18),15022,Dkc7,[6],0),
  (10,(Dkl16,[Dke7],Dkf18),15021,Dkc7,[7],0),
  (11,(Dkl17,[],[]),15019,Dkc8,[9],0),
  (12,(Dkl18,[Dke54],Dkf18),15029,Dkc7,[10],0),
  (12,(Dkl17,[Dke55],[]),15018,Dkc8,[11],0),
  (15,(Dkl18,[Dke56,Dke54],Dkf18),15028,Dkc7,[12],0),
  (15,(Dkl17,[Dke56,Dke55],[]),15017,Dkc8,[24,12],0),
  (18,(Dkl19,[],[]),15016,Dkc8,[13],0),
  (19,(Dkl19,[Dke0],[]),15015,Dkc8,[14],0),
  (22,(Dkl19,[Dke46],[]),15014,Dkc8,[24,15],0),
  (25,(Dkl19,[],Dkf7),15013,Dkc8,[16],0),
  (26,(Dkl19,[Dke0],Dkf7),15012,Dkc8,[17],0),
  (29,(Dkl19,[Dke57],Dkf7),15011,Dkc8,[24,18],0),
  (32,(Dkl19,[],Dkf19),15010,Dkc8,[19],0),
  (33,(Dkl19,[Dke0],Dkf19),15009,Dkc8,[20],0),
  (34,(Dkl19,[Dke58,Dke0],Dkf19),15008,Dkc8,[21],0),
  (35,(Dkl19,[Dke53,Dke58,Dke0],Dkf19),15007,Dkc8,[22],8),
  (38,(Dkl19,[],[]),15006,Dkc8,[23],0),
  (41,(Dkl20,[],[]),15020,Dkc8,[7],0),
  (44,(Dkl17,[],[]),5,Dkc7,[25],0),
  (45,(Dkl17,[Dke0],[]),4,Dkc7,[26],0),
  (46,(Dkl17,[Dke7,Dke0],[]),3,Dkc7,[27],0),
  (49,(Dkl17,[],Dkf20),2,Dkc7,[28],0),
  (50,(Dkl17,[Dke0],Dkf20),1,Dkc7,[29],0),
  (53,(Dkl17,[Dke46],Dkf20),0,Dkc7,[],0)]
def CND9 : List (List ND) := [CND9_0]
theorem CKD9 : chkS prot SMsD SMD9 [] CND9 = true := by decide +kernel
-- OneSided$Reader.readDay [(2, 2), (32, 32), (67, 67)]
def Dka55 : AV := (2,32,32,0)
def Dkl21 : AL := [some Dka0,some Dka55,some Dka51,none]
def Dkl22 : AL := [some Dka0,some Dka55,some Dka51,some Dka14]
def Dkl23 : AL := [some Dka0,some Dka55,some Dka51,some Dka7]
def Dkl24 : AL := [some Dka0,some Dka55,some Dka51,some Dka1]
def Dke59 : SE := (Dka55,(1,1,0,0,0))
def Dkl25 : AL := [some Dka0,some Dka55,some Dka51,some Dka15]
def CND10_0 : List ND := [(0,(Dkl21,[],[]),15027,Dkc7,[1],0),
  (1,(Dkl21,[Dke0],[]),15026,Dkc7,[2],7),
  (4,(Dkl21,[],[]),15025,Dkc7,[3],0),
  (5,(Dkl21,[Dke53],[]),15024,Dkc7,[4],0),
  (6,(Dkl21,[Dke7,Dke53],[]),15023,Dkc7,[5],0),
  (9,(Dkl21,[],Dkf18),15022,Dkc7,[6],0),
  (10,(Dkl21,[Dke7],Dkf18),15021,Dkc7,[7],0),
  (11,(Dkl22,[],[]),15019,Dkc8,[9],0),
  (12,(Dkl23,[Dke54],Dkf18),15029,Dkc7,[10],0),
  (12,(Dkl22,[Dke55],[]),15018,Dkc8,[11],0),
  (15,(Dkl23,[Dke56,Dke54],Dkf18),15028,Dkc7,[12],0),
  (15,(Dkl22,[Dke56,Dke55],[]),15017,Dkc8,[24,12],0),
  (18,(Dkl24,[],[]),15016,Dkc8,[13],0),
  (19,(Dkl24,[Dke0],[]),15015,Dkc8,[14],0),
  (22,(Dkl24,[Dke46],[]),15014,Dkc8,[24,15],0),
  (25,(Dkl24,[],Dkf7),15013,Dkc8,[16],0),
  (26,(Dkl24,[Dke0],Dkf7),15012,Dkc8,[17],0),
  (29,(Dkl24,[Dke57],Dkf7),15011,Dkc8,[24,18],0),
  (32,(Dkl24,[],Dkf19),15010,Dkc8,[19],0),
  (33,(Dkl24,[Dke0],Dkf19),15009,Dkc8,[20],0),
  (34,(Dkl24,[Dke59,Dke0],Dkf19),15008,Dkc8,[21],0),
  (35,(Dkl24,[Dke53,Dke59,Dke0],Dkf19),15007,Dkc8,[22],8),
  (38,(Dkl24,[],[]),15006,Dkc8,[23],0),
  (41,(Dkl25,[],[]),15020,Dkc8,[7],0),
  (44,(Dkl22,[],[]),5,Dkc7,[25],0),
  (45,(Dkl22,[Dke0],[]),4,Dkc7,[26],0),
  (46,(Dkl22,[Dke7,Dke0],[]),3,Dkc7,[27],0),
  (49,(Dkl22,[],Dkf20),2,Dkc7,[28],0),
  (50,(Dkl22,[Dke0],Dkf20),1,Dkc7,[29],0),
  (53,(Dkl22,[Dke46],Dkf20),0,Dkc7,[],0)]
def CND10 : List (List ND) := [CND10_0]
theorem CKD10 : chkS prot SMsD SMD10 [] CND10 = true := by decide +kernel
-- OneSided.day [(1, 1)]
def Dka56 : AV := (2,1,1,0)
def Dkl26 : AL := [some Dka56,none]
def Dke60 : SE := (Dka56,(1,0,0,0,0))
def Dke61 : SE := (Dka0,(2,1,0,0,0))
def Dke62 : SE := (Dka55,pv0)
def Dke63 : SE := (Dka50,pv0)
def Dke64 : SE := (Dka51,(2,1,4,0,0))
def Dkl27 : AL := [some Dka56,some Dka44]
def Dke65 : SE := (Dka44,(1,1,0,0,0))
def Dkl28 : AL := [some Dka56,some Dka7]
def Dka57 : AV := (2,59,59,0)
def Dke66 : SE := (Dka57,(2,1,3,0,0))
def CND12_0 : List ND := [(0,(Dkl26,[],[]),19,Dkc0,[1],0),
  (1,(Dkl26,[Dke60],[]),18,Dkc0,[2],0),
  (4,(Dkl26,[Dke61],[]),17,Dkc0,[3],0),
  (5,(Dkl26,[Dke60,Dke61],[]),16,Dkc0,[5,4],0),
  (8,(Dkl26,[Dke62,Dke61],[]),12,Dkc0,[6],0),
  (8,(Dkl26,[Dke63,Dke61],[]),15,Dkc0,[7],0),
  (9,(Dkl26,[Dke60,Dke62,Dke61],[]),11,Dkc0,[8],0),
  (9,(Dkl26,[Dke60,Dke63,Dke61],[]),14,Dkc0,[9],0),
  (12,(Dkl26,[Dke64,Dke62,Dke61],[]),10,Dkc0,[10],10),
  (12,(Dkl26,[Dke64,Dke63,Dke61],[]),13,Dkc0,[10],9),
  (15,(Dkl26,[Dke46],Dkf20),9,Dkc0,[11],0),
  (16,(Dkl27,[],Dkf20),8,Dkc0,[12],0),
  (17,(Dkl27,[Dke65],Dkf20),7,Dkc0,[18,13],0),
  (20,(Dkl28,[],Dkf20),6,Dkc0,[14],0),
  (21,(Dkl28,[Dke60],Dkf20),5,Dkc0,[15],0),
  (24,(Dkl28,[Dke66],Dkf20),4,Dkc0,[16],0),
  (25,(Dkl28,[Dke60,Dke66],Dkf20),3,Dkc0,[17],0),
  (28,(Dkl28,[Dke64,Dke66],Dkf20),2,Dkc0,[18],11),
  (31,(Dkl27,[],Dkf20),1,Dkc0,[19],0),
  (32,(Dkl27,[Dke65],Dkf20),0,Dkc0,[],0)]
def CND12 : List (List ND) := [CND12_0]
theorem CKD12 : chkS prot SMsD SMD12 [] CND12 = true := by decide +kernel
-- OneSided.isPerson [(1, 1), (-2147483648, 2147483647)]
def Dkl29 : AL := [some Dka56,some Dka34]
def Dke67 : SE := (Dka34,(1,1,0,0,0))
def Dka58 : AV := (0,0,2147483647,1)
def Dkl30 : AL := [some Dka56,some Dka58]
def Dke68 : SE := (Dka58,(1,1,0,0,0))
def Dka59 : AV := (0,0,6,1)
def Dke69 : SE := (Dka59,pv0)
def Dka60 : AV := (0,0,5,1)
def Dkl31 : AL := [some Dka56,some Dka60]
def CND13_0 : List ND := [(0,(Dkl29,[],[]),12,Dkc0,[1],0),
  (1,(Dkl29,[Dke67],[]),11,Dkc0,[10,2],0),
  (4,(Dkl30,[],[]),10,Dkc0,[3],0),
  (5,(Dkl30,[Dke68],[]),9,Dkc0,[4],0),
  (6,(Dkl30,[Dke60,Dke68],[]),8,Dkc0,[6,5],0),
  (9,(Dkl30,[Dke62,Dke68],[]),7,Dkc0,[7],0),
  (9,(Dkl30,[Dke63,Dke68],[]),6,Dkc0,[7],0),
  (12,(Dkl30,[Dke69,Dke68],[]),5,Dkc0,[10,8],0),
  (15,(Dkl31,[],[]),4,Dkc0,[9],0),
  (16,(Dkl31,[Dke6],[]),3,Dkc0,[12],0),
  (19,(Dkl29,[],[]),1,Dkc0,[11],0),
  (20,(Dkl29,[Dke7],[]),0,Dkc0,[],1),
  (20,(Dkl31,[Dke6],[]),2,Dkc0,[],0)]
def CND13 : List (List ND) := [CND13_0]
theorem CKD13 : chkS prot SMsD SMD13 [(1,1)] CND13 = true := by decide +kernel
-- java/util/Arrays.fill [(70, 70), (0, 0)]
def Dka61 : AV := (2,70,70,0)
def Dkl32 : AL := [some Dka61,some Dka7,none,none]
def Dkl33 : AL := [some Dka61,some Dka7,some Dka7,none]
def Dke70 : SE := (Dka61,(1,0,0,0,0))
def Dka62 : AV := (0,14,14,0)
def Dke71 : SE := (Dka62,pv0)
def Dka63 : AV := (0,0,14,1)
def Dkl34 : AL := [some Dka61,some Dka7,some Dka63,some Dka62]
def Dkc9 : List Int := [0,0,-9,0]
def Dkl35 : AL := [some Dka61,some Dka7,some Dka7,some Dka62]
def Dke72 : SE := (Dka63,(1,2,0,0,0))
def Dke73 : SE := (Dka62,(1,3,0,0,0))
def Dka64 : AV := (0,0,13,1)
def Dkl36 : AL := [some Dka61,some Dka7,some Dka64,some Dka62]
def Dke74 : SE := (Dka64,(1,2,0,0,0))
def Dke75 : SE := (Dka7,(1,1,0,0,0))
def Dka65 : AV := (0,1,14,1)
def Dkl37 : AL := [some Dka61,some Dka7,some Dka65,some Dka62]
def Dkl38 : AL := [some Dka61,some Dka7,some Dka62,some Dka62]
def CND14_0 : List ND := [(0,(Dkl32,[],[]),140,Dkc7,[1],0),
  (1,(Dkl32,[Dke7],[]),139,Dkc7,[2],0),
  (2,(Dkl33,[],[]),138,Dkc7,[3],0),
  (3,(Dkl33,[Dke70],[]),137,Dkc7,[4],0),
  (4,(Dkl33,[Dke71],[]),136,Dkc7,[5],0),
  (5,(Dkl34,[],[]),134,Dkc9,[7],0),
  (6,(Dkl35,[Dke23],[]),142,Dkc7,[8],0),
  (6,(Dkl34,[Dke72],[]),133,Dkc9,[9],0),
  (7,(Dkl35,[Dke73,Dke23],[]),141,Dkc7,[10],0),
  (7,(Dkl34,[Dke73,Dke72],[]),132,Dkc9,[18,10],0),
  (10,(Dkl36,[],[]),131,Dkc9,[11],0),
  (11,(Dkl36,[Dke70],[]),130,Dkc9,[13],0),
  (12,(Dkl35,[Dke23,Dke70],[]),144,Dkc7,[14],0),
  (12,(Dkl36,[Dke74,Dke70],[]),129,Dkc9,[15],0),
  (13,(Dkl35,[Dke75,Dke23,Dke70],[]),143,Dkc7,[16],0),
  (13,(Dkl36,[Dke75,Dke74,Dke70],[]),128,Dkc9,[16],0),
  (14,(Dkl36,[],[]),127,Dkc9,[17],0),
  (17,(Dkl37,[],[]),135,Dkc9,[5],0),
  (20,(Dkl38,[],[]),0,Dkc7,[],0)]
def CND14 : List (List ND) := [CND14_0]
theorem CKD14 : chkS prot SMsD SMD14 [] CND14 = true := by decide +kernel
-- OneSided$Scene.begin [(68, 68), (5, 5)]
def Dka66 : AV := (2,68,68,0)
def Dkl39 : AL := [some Dka66,some Dka50,none,none]
def Dke76 : SE := (Dka66,(1,0,0,0,0))
def Dkf21 : FA := [(68,0,Dka7)]
def Dkf22 : FA := [(68,0,Dka7),(68,1,Dka7)]
def Dkf23 : FA := [(68,0,Dka7),(68,1,Dka7),(68,2,Dka7)]
def Dkf24 : FA := [(68,0,Dka7),(68,1,Dka7),(68,2,Dka7),(68,3,Dka7)]
def Dke77 : SE := (Dka61,(2,68,5,0,0))
def Dkl40 : AL := [some Dka66,some Dka50,some Dka7,none]
def Dka67 : AV := (0,1,6,1)
def Dka68 : AV := (2,26,31,1)
def Dkl41 : AL := [some Dka66,some Dka50,some Dka67,some Dka68]
def Dka69 : AV := (0,0,1023,1)
def Dkf25 : FA := [(5,4,Dka67),(68,0,Dka7),(68,1,Dka7),(68,2,Dka7),(68,3,Dka69)]
def Dkc10 : List Int := [0,0,-33,0]
def Dkl42 : AL := [some Dka66,some Dka50,some Dka6,some Dka68]
def Dke78 : SE := (Dka6,(1,2,0,0,0))
def Dka70 : AV := (0,0,1,1)
def Dkf26 : FA := [(5,4,Dka67),(68,0,Dka7),(68,1,Dka7),(68,2,Dka7),(68,3,Dka70)]
def Dke79 : SE := (Dka67,(1,2,0,0,0))
def Dke80 : SE := (Dka59,(2,5,4,0,0))
def Dke81 : SE := (Dka67,(2,5,4,0,0))
def Dkf27 : FA := [(5,4,Dka67),(68,0,Dka7),(68,1,Dka7),(68,2,Dka7),(68,3,Dka7)]
def Dka71 : AV := (0,1,5,1)
def Dkl43 : AL := [some Dka66,some Dka50,some Dka71,some Dka68]
def Dka72 : AV := (0,2,6,1)
def Dkf28 : FA := [(5,4,Dka72),(68,0,Dka7),(68,1,Dka7),(68,2,Dka7),(68,3,Dka69)]
def Dka73 : AV := (2,7,7,0)
def Dke82 : SE := (Dka73,(2,5,3,0,0))
def Dkf29 : FA := [(5,4,Dka72),(68,0,Dka7),(68,1,Dka7),(68,2,Dka7),(68,3,Dka70)]
def Dke83 : SE := (Dka71,(1,2,0,0,0))
def Dke84 : SE := (Dka68,(2,7,0,0,0))
def Dke85 : SE := (Dka68,pv0)
def Dkl44 : AL := [some Dka66,some Dka50,some Dka60,some Dka68]
def Dka74 : AV := (2,69,69,0)
def Dke86 : SE := (Dka74,(2,68,4,0,0))
def Dkl45 : AL := [some Dka66,some Dka50,some Dka7,some Dka68]
def Dke87 : SE := (Dka60,(1,2,0,0,0))
def Dke88 : SE := (Dka68,(1,3,0,0,0))
def Dka75 : AV := (0,0,9,1)
def Dke89 : SE := (Dka75,pv0)
def Dke90 : SE := (Dka7,(2,68,3,0,0))
def Dke91 : SE := (Dka69,(2,68,3,0,0))
def Dka76 : AV := (0,1,32,1)
def Dke92 : SE := (Dka76,pv0)
def Dke93 : SE := (Dka69,pv0)
def Dkf30 : FA := [(5,4,Dka7),(68,0,Dka7),(68,1,Dka7),(68,2,Dka7),(68,3,Dka7)]
def CND15_0 : List ND := [(0,(Dkl39,[],[]),259,Dkc7,[1],0),
  (1,(Dkl39,[Dke76],[]),258,Dkc7,[2],0),
  (2,(Dkl39,[Dke7,Dke76],[]),257,Dkc7,[3],0),
  (5,(Dkl39,[],Dkf21),256,Dkc7,[4],0),
  (6,(Dkl39,[Dke76],Dkf21),255,Dkc7,[5],0),
  (7,(Dkl39,[Dke7,Dke76],Dkf21),254,Dkc7,[6],0),
  (10,(Dkl39,[],Dkf22),253,Dkc7,[7],0),
  (11,(Dkl39,[Dke76],Dkf22),252,Dkc7,[8],0),
  (12,(Dkl39,[Dke7,Dke76],Dkf22),251,Dkc7,[9],0),
  (15,(Dkl39,[],Dkf23),250,Dkc7,[10],0),
  (16,(Dkl39,[Dke76],Dkf23),249,Dkc7,[11],0),
  (17,(Dkl39,[Dke7,Dke76],Dkf23),248,Dkc7,[12],0),
  (20,(Dkl39,[],Dkf24),247,Dkc7,[13],0),
  (21,(Dkl39,[Dke76],Dkf24),246,Dkc7,[14],0),
  (24,(Dkl39,[Dke77],Dkf24),245,Dkc7,[15],0),
  (25,(Dkl39,[Dke7,Dke77],Dkf24),244,Dkc7,[16],14),
  (28,(Dkl39,[],Dkf24),243,Dkc7,[17],0),
  (29,(Dkl39,[Dke7],Dkf24),242,Dkc7,[18],0),
  (30,(Dkl40,[],Dkf24),241,Dkc7,[20],0),
  (30,(Dkl41,[],Dkf25),230,Dkc10,[22],0),
  (31,(Dkl40,[Dke23],Dkf24),240,Dkc7,[23],0),
  (31,(Dkl42,[Dke78],Dkf26),262,Dkc7,[24],0),
  (31,(Dkl41,[Dke79],Dkf25),229,Dkc10,[25],0),
  (32,(Dkl40,[Dke58,Dke23],Dkf24),239,Dkc7,[26],0),
  (32,(Dkl42,[Dke58,Dke78],Dkf26),261,Dkc7,[27],0),
  (32,(Dkl41,[Dke58,Dke79],Dkf25),228,Dkc10,[28],0),
  (35,(Dkl40,[Dke80,Dke23],Dkf24),238,Dkc7,[79,29],0),
  (35,(Dkl42,[Dke81,Dke78],Dkf26),260,Dkc7,[80,30],0),
  (35,(Dkl41,[Dke81,Dke79],Dkf25),227,Dkc10,[80,30],0),
  (38,(Dkl40,[],Dkf27),236,Dkc7,[31],0),
  (38,(Dkl43,[],Dkf28),226,Dkc10,[32],0),
  (39,(Dkl40,[Dke58],Dkf27),235,Dkc7,[33],0),
  (39,(Dkl43,[Dke58],Dkf28),225,Dkc10,[34],0),
  (42,(Dkl40,[Dke82],Dkf27),234,Dkc7,[35],0),
  (42,(Dkl43,[Dke82],Dkf28),224,Dkc10,[37],0),
  (43,(Dkl40,[Dke23,Dke82],Dkf27),233,Dkc7,[38],0),
  (43,(Dkl42,[Dke78,Dke82],Dkf29),263,Dkc7,[39],0),
  (43,(Dkl43,[Dke83,Dke82],Dkf28),223,Dkc10,[39],0),
  (44,(Dkl40,[Dke84],Dkf27),232,Dkc7,[40],0),
  (44,(Dkl43,[Dke85],Dkf28),222,Dkc10,[40],0),
  (45,(Dkl44,[],Dkf25),221,Dkc10,[41],0),
  (46,(Dkl44,[Dke76],Dkf25),220,Dkc10,[42],0),
  (49,(Dkl44,[Dke86],Dkf25),219,Dkc10,[44],0),
  (50,(Dkl45,[Dke23,Dke86],Dkf27),266,Dkc7,[45],0),
  (50,(Dkl44,[Dke87,Dke86],Dkf25),218,Dkc10,[46],0),
  (51,(Dkl45,[Dke88,Dke23,Dke86],Dkf27),265,Dkc7,[47],0),
  (51,(Dkl44,[Dke88,Dke87,Dke86],Dkf25),217,Dkc10,[48],0),
  (54,(Dkl45,[Dke89,Dke23,Dke86],Dkf27),264,Dkc7,[49],0),
  (54,(Dkl44,[Dke89,Dke87,Dke86],Dkf25),216,Dkc10,[49],0),
  (55,(Dkl44,[],Dkf25),215,Dkc10,[50],0),
  (56,(Dkl44,[Dke76],Dkf25),214,Dkc10,[51],0),
  (57,(Dkl44,[Dke76,Dke76],Dkf25),213,Dkc10,[53],0),
  (60,(Dkl45,[Dke90,Dke76],Dkf27),278,Dkc7,[54],0),
  (60,(Dkl44,[Dke91,Dke76],Dkf25),212,Dkc10,[55],0),
  (61,(Dkl45,[Dke88,Dke90,Dke76],Dkf27),277,Dkc7,[56],0),
  (61,(Dkl44,[Dke88,Dke91,Dke76],Dkf25),211,Dkc10,[57],0),
  (64,(Dkl45,[Dke89,Dke90,Dke76],Dkf27),276,Dkc7,[58],0),
  (64,(Dkl44,[Dke89,Dke91,Dke76],Dkf25),210,Dkc10,[59],0),
  (65,(Dkl45,[Dke88,Dke89,Dke90,Dke76],Dkf27),275,Dkc7,[60],0),
  (65,(Dkl44,[Dke88,Dke89,Dke91,Dke76],Dkf25),209,Dkc10,[61],0),
  (68,(Dkl45,[Dke89,Dke89,Dke90,Dke76],Dkf27),274,Dkc7,[70,62],0),
  (68,(Dkl44,[Dke89,Dke89,Dke91,Dke76],Dkf25),208,Dkc10,[71,63],0),
  (71,(Dkl45,[Dke90,Dke76],Dkf27),271,Dkc7,[64],0),
  (71,(Dkl44,[Dke91,Dke76],Dkf25),205,Dkc10,[65],0)]
def CND15_1 : List ND := [(72,(Dkl45,[Dke6,Dke90,Dke76],Dkf27),270,Dkc7,[66],0),
  (72,(Dkl44,[Dke6,Dke91,Dke76],Dkf25),204,Dkc10,[67],0),
  (73,(Dkl45,[Dke23,Dke6,Dke90,Dke76],Dkf27),269,Dkc7,[68],0),
  (73,(Dkl44,[Dke87,Dke6,Dke91,Dke76],Dkf25),203,Dkc10,[69],0),
  (74,(Dkl45,[Dke6,Dke90,Dke76],Dkf27),268,Dkc7,[73],0),
  (74,(Dkl44,[Dke92,Dke91,Dke76],Dkf25),202,Dkc10,[75],0),
  (77,(Dkl45,[Dke90,Dke76],Dkf27),273,Dkc7,[72],0),
  (77,(Dkl44,[Dke91,Dke76],Dkf25),207,Dkc10,[74],0),
  (78,(Dkl45,[Dke7,Dke90,Dke76],Dkf27),272,Dkc7,[76],0),
  (78,(Dkl45,[Dke6,Dke90,Dke76],Dkf27),267,Dkc7,[76],0),
  (78,(Dkl44,[Dke7,Dke91,Dke76],Dkf25),206,Dkc10,[76],0),
  (78,(Dkl44,[Dke92,Dke91,Dke76],Dkf25),201,Dkc10,[76],0),
  (79,(Dkl44,[Dke93,Dke76],Dkf25),200,Dkc10,[77],0),
  (82,(Dkl44,[],Dkf25),199,Dkc10,[78],0),
  (85,(Dkl41,[],Dkf25),231,Dkc10,[19],0),
  (88,(Dkl40,[],Dkf30),237,Dkc7,[],0),
  (88,(Dkl41,[],Dkf25),0,Dkc7,[],0)]
def CND15 : List (List ND) := [CND15_0, CND15_1]
theorem CKD15 : chkS prot SMsD SMD15 [] CND15 = true := by decide +kernel
-- OneSided$Scene.begin [(68, 68), (32, 32)]
def Dkl46 : AL := [some Dka66,some Dka55,none,none]
def Dkl47 : AL := [some Dka66,some Dka55,some Dka7,none]
def Dka77 : AV := (2,53,58,1)
def Dkl48 : AL := [some Dka66,some Dka55,some Dka67,some Dka77]
def Dkf31 : FA := [(32,4,Dka67),(68,0,Dka7),(68,1,Dka7),(68,2,Dka7),(68,3,Dka69)]
def Dkl49 : AL := [some Dka66,some Dka55,some Dka6,some Dka77]
def Dkf32 : FA := [(32,4,Dka67),(68,0,Dka7),(68,1,Dka7),(68,2,Dka7),(68,3,Dka70)]
def Dke94 : SE := (Dka59,(2,32,4,0,0))
def Dke95 : SE := (Dka67,(2,32,4,0,0))
def Dkf33 : FA := [(32,4,Dka67),(68,0,Dka7),(68,1,Dka7),(68,2,Dka7),(68,3,Dka7)]
def Dkl50 : AL := [some Dka66,some Dka55,some Dka71,some Dka77]
def Dkf34 : FA := [(32,4,Dka72),(68,0,Dka7),(68,1,Dka7),(68,2,Dka7),(68,3,Dka69)]
def Dka78 : AV := (2,34,34,0)
def Dke96 : SE := (Dka78,(2,32,3,0,0))
def Dkf35 : FA := [(32,4,Dka72),(68,0,Dka7),(68,1,Dka7),(68,2,Dka7),(68,3,Dka70)]
def Dke97 : SE := (Dka77,(2,34,0,0,0))
def Dke98 : SE := (Dka77,pv0)
def Dkl51 : AL := [some Dka66,some Dka55,some Dka60,some Dka77]
def Dkl52 : AL := [some Dka66,some Dka55,some Dka7,some Dka77]
def Dke99 : SE := (Dka77,(1,3,0,0,0))
def Dkf36 : FA := [(32,4,Dka7),(68,0,Dka7),(68,1,Dka7),(68,2,Dka7),(68,3,Dka7)]
def CND16_0 : List ND := [(0,(Dkl46,[],[]),259,Dkc7,[1],0),
  (1,(Dkl46,[Dke76],[]),258,Dkc7,[2],0),
  (2,(Dkl46,[Dke7,Dke76],[]),257,Dkc7,[3],0),
  (5,(Dkl46,[],Dkf21),256,Dkc7,[4],0),
  (6,(Dkl46,[Dke76],Dkf21),255,Dkc7,[5],0),
  (7,(Dkl46,[Dke7,Dke76],Dkf21),254,Dkc7,[6],0),
  (10,(Dkl46,[],Dkf22),253,Dkc7,[7],0),
  (11,(Dkl46,[Dke76],Dkf22),252,Dkc7,[8],0),
  (12,(Dkl46,[Dke7,Dke76],Dkf22),251,Dkc7,[9],0),
  (15,(Dkl46,[],Dkf23),250,Dkc7,[10],0),
  (16,(Dkl46,[Dke76],Dkf23),249,Dkc7,[11],0),
  (17,(Dkl46,[Dke7,Dke76],Dkf23),248,Dkc7,[12],0),
  (20,(Dkl46,[],Dkf24),247,Dkc7,[13],0),
  (21,(Dkl46,[Dke76],Dkf24),246,Dkc7,[14],0),
  (24,(Dkl46,[Dke77],Dkf24),245,Dkc7,[15],0),
  (25,(Dkl46,[Dke7,Dke77],Dkf24),244,Dkc7,[16],14),
  (28,(Dkl46,[],Dkf24),243,Dkc7,[17],0),
  (29,(Dkl46,[Dke7],Dkf24),242,Dkc7,[18],0),
  (30,(Dkl47,[],Dkf24),241,Dkc7,[20],0),
  (30,(Dkl48,[],Dkf31),230,Dkc10,[22],0),
  (31,(Dkl47,[Dke23],Dkf24),240,Dkc7,[23],0),
  (31,(Dkl49,[Dke78],Dkf32),262,Dkc7,[24],0),
  (31,(Dkl48,[Dke79],Dkf31),229,Dkc10,[25],0),
  (32,(Dkl47,[Dke59,Dke23],Dkf24),239,Dkc7,[26],0),
  (32,(Dkl49,[Dke59,Dke78],Dkf32),261,Dkc7,[27],0),
  (32,(Dkl48,[Dke59,Dke79],Dkf31),228,Dkc10,[28],0),
  (35,(Dkl47,[Dke94,Dke23],Dkf24),238,Dkc7,[79,29],0),
  (35,(Dkl49,[Dke95,Dke78],Dkf32),260,Dkc7,[80,30],0),
  (35,(Dkl48,[Dke95,Dke79],Dkf31),227,Dkc10,[80,30],0),
  (38,(Dkl47,[],Dkf33),236,Dkc7,[31],0),
  (38,(Dkl50,[],Dkf34),226,Dkc10,[32],0),
  (39,(Dkl47,[Dke59],Dkf33),235,Dkc7,[33],0),
  (39,(Dkl50,[Dke59],Dkf34),225,Dkc10,[34],0),
  (42,(Dkl47,[Dke96],Dkf33),234,Dkc7,[35],0),
  (42,(Dkl50,[Dke96],Dkf34),224,Dkc10,[37],0),
  (43,(Dkl47,[Dke23,Dke96],Dkf33),233,Dkc7,[38],0),
  (43,(Dkl49,[Dke78,Dke96],Dkf35),263,Dkc7,[39],0),
  (43,(Dkl50,[Dke83,Dke96],Dkf34),223,Dkc10,[39],0),
  (44,(Dkl47,[Dke97],Dkf33),232,Dkc7,[40],0),
  (44,(Dkl50,[Dke98],Dkf34),222,Dkc10,[40],0),
  (45,(Dkl51,[],Dkf31),221,Dkc10,[41],0),
  (46,(Dkl51,[Dke76],Dkf31),220,Dkc10,[42],0),
  (49,(Dkl51,[Dke86],Dkf31),219,Dkc10,[44],0),
  (50,(Dkl52,[Dke23,Dke86],Dkf33),266,Dkc7,[45],0),
  (50,(Dkl51,[Dke87,Dke86],Dkf31),218,Dkc10,[46],0),
  (51,(Dkl52,[Dke99,Dke23,Dke86],Dkf33),265,Dkc7,[47],0),
  (51,(Dkl51,[Dke99,Dke87,Dke86],Dkf31),217,Dkc10,[48],0),
  (54,(Dkl52,[Dke89,Dke23,Dke86],Dkf33),264,Dkc7,[49],0),
  (54,(Dkl51,[Dke89,Dke87,Dke86],Dkf31),216,Dkc10,[49],0),
  (55,(Dkl51,[],Dkf31),215,Dkc10,[50],0),
  (56,(Dkl51,[Dke76],Dkf31),214,Dkc10,[51],0),
  (57,(Dkl51,[Dke76,Dke76],Dkf31),213,Dkc10,[53],0),
  (60,(Dkl52,[Dke90,Dke76],Dkf33),278,Dkc7,[54],0),
  (60,(Dkl51,[Dke91,Dke76],Dkf31),212,Dkc10,[55],0),
  (61,(Dkl52,[Dke99,Dke90,Dke76],Dkf33),277,Dkc7,[56],0),
  (61,(Dkl51,[Dke99,Dke91,Dke76],Dkf31),211,Dkc10,[57],0),
  (64,(Dkl52,[Dke89,Dke90,Dke76],Dkf33),276,Dkc7,[58],0),
  (64,(Dkl51,[Dke89,Dke91,Dke76],Dkf31),210,Dkc10,[59],0),
  (65,(Dkl52,[Dke99,Dke89,Dke90,Dke76],Dkf33),275,Dkc7,[60],0),
  (65,(Dkl51,[Dke99,Dke89,Dke91,Dke76],Dkf31),209,Dkc10,[61],0),
  (68,(Dkl52,[Dke89,Dke89,Dke90,Dke76],Dkf33),274,Dkc7,[70,62],0),
  (68,(Dkl51,[Dke89,Dke89,Dke91,Dke76],Dkf31),208,Dkc10,[71,63],0),
  (71,(Dkl52,[Dke90,Dke76],Dkf33),271,Dkc7,[64],0),
  (71,(Dkl51,[Dke91,Dke76],Dkf31),205,Dkc10,[65],0)]
def CND16_1 : List ND := [(72,(Dkl52,[Dke6,Dke90,Dke76],Dkf33),270,Dkc7,[66],0),
  (72,(Dkl51,[Dke6,Dke91,Dke76],Dkf31),204,Dkc10,[67],0),
  (73,(Dkl52,[Dke23,Dke6,Dke90,Dke76],Dkf33),269,Dkc7,[68],0),
  (73,(Dkl51,[Dke87,Dke6,Dke91,Dke76],Dkf31),203,Dkc10,[69],0),
  (74,(Dkl52,[Dke6,Dke90,Dke76],Dkf33),268,Dkc7,[73],0),
  (74,(Dkl51,[Dke92,Dke91,Dke76],Dkf31),202,Dkc10,[75],0),
  (77,(Dkl52,[Dke90,Dke76],Dkf33),273,Dkc7,[72],0),
  (77,(Dkl51,[Dke91,Dke76],Dkf31),207,Dkc10,[74],0),
  (78,(Dkl52,[Dke7,Dke90,Dke76],Dkf33),272,Dkc7,[76],0),
  (78,(Dkl52,[Dke6,Dke90,Dke76],Dkf33),267,Dkc7,[76],0),
  (78,(Dkl51,[Dke7,Dke91,Dke76],Dkf31),206,Dkc10,[76],0),
  (78,(Dkl51,[Dke92,Dke91,Dke76],Dkf31),201,Dkc10,[76],0),
  (79,(Dkl51,[Dke93,Dke76],Dkf31),200,Dkc10,[77],0),
  (82,(Dkl51,[],Dkf31),199,Dkc10,[78],0),
  (85,(Dkl48,[],Dkf31),231,Dkc10,[19],0),
  (88,(Dkl47,[],Dkf36),237,Dkc7,[],0),
  (88,(Dkl48,[],Dkf31),0,Dkc7,[],0)]
def CND16 : List (List ND) := [CND16_0, CND16_1]
theorem CKD16 : chkS prot SMsD SMD16 [] CND16 = true := by decide +kernel
-- OneSided.judged [(1, 1), (-2147483648, 2147483647)]
def Dkl53 : AL := [some Dka56,some Dka34,none,none]
def Dkl54 : AL := [some Dka56,some Dka60,none,none]
def Dka79 : AV := (0,-2,-2,0)
def Dke100 : SE := (Dka79,pv0)
def Dka80 : AV := (0,-1,5,1)
def Dkl55 : AL := [some Dka56,some Dka80,none,none]
def Dke101 : SE := (Dka66,(2,67,0,0,0))
def Dkl56 : AL := [some Dka56,some Dka80,some Dka66,none]
def Dke102 : SE := (Dka66,(1,2,0,0,0))
def Dka81 : AV := (0,-1,23,1)
def Dke103 : SE := (Dka81,pv0)
def Dkl57 : AL := [some Dka56,some Dka80,some Dka66,some Dka81]
def Dke104 : SE := (Dka80,(1,1,0,0,0))
def Dkl58 : AL := [some Dka56,some Dka49,some Dka66,some Dka81]
def Dke105 : SE := (Dka81,(1,3,0,0,0))
def Dkl59 : AL := [some Dka56,some Dka60,some Dka66,some Dka81]
def Dke106 : SE := (Dka60,(1,1,0,0,0))
def CND18_0 : List ND := [(0,(Dkl53,[],[]),37,Dkc7,[1],0),
  (1,(Dkl53,[Dke67],[]),36,Dkc7,[2],0),
  (2,(Dkl53,[Dke51,Dke67],[]),35,Dkc7,[10,3],0),
  (5,(Dkl53,[],[]),34,Dkc7,[4],0),
  (6,(Dkl53,[Dke60],[]),33,Dkc7,[5],0),
  (7,(Dkl53,[Dke67,Dke60],[]),32,Dkc7,[7,6],13),
  (10,(Dkl53,[Dke7],[]),31,Dkc7,[8],0),
  (10,(Dkl54,[Dke6],[]),28,Dkc7,[10],0),
  (13,(Dkl53,[],[]),30,Dkc7,[9],0),
  (15,(Dkl53,[Dke100],[]),29,Dkc7,[],0),
  (16,(Dkl55,[],[]),27,Dkc7,[11],0),
  (17,(Dkl55,[Dke60],[]),26,Dkc7,[12],0),
  (20,(Dkl55,[Dke64],[]),25,Dkc7,[13],0),
  (23,(Dkl55,[Dke101],[]),24,Dkc7,[14],0),
  (24,(Dkl56,[],[]),23,Dkc7,[15],0),
  (25,(Dkl56,[Dke102],[]),22,Dkc7,[16],0),
  (26,(Dkl56,[Dke60,Dke102],[]),21,Dkc7,[18,17],0),
  (29,(Dkl56,[Dke62,Dke102],[]),20,Dkc7,[19],16),
  (29,(Dkl56,[Dke63,Dke102],[]),19,Dkc7,[19],15),
  (32,(Dkl56,[],[]),18,Dkc7,[20],0),
  (33,(Dkl56,[Dke60],[]),17,Dkc7,[21],0),
  (36,(Dkl56,[Dke66],[]),16,Dkc7,[22],0),
  (37,(Dkl56,[Dke60,Dke66],[]),15,Dkc7,[24,23],0),
  (40,(Dkl56,[Dke62,Dke66],[]),12,Dkc7,[25],0),
  (40,(Dkl56,[Dke63,Dke66],[]),14,Dkc7,[26],0),
  (41,(Dkl56,[Dke102,Dke62,Dke66],[]),11,Dkc7,[27],17),
  (41,(Dkl56,[Dke102,Dke63,Dke66],[]),13,Dkc7,[27],17),
  (44,(Dkl56,[Dke103],[]),10,Dkc7,[28],0),
  (45,(Dkl57,[],[]),9,Dkc7,[29],0),
  (46,(Dkl57,[Dke104],[]),8,Dkc7,[30],0),
  (47,(Dkl57,[Dke51,Dke104],[]),7,Dkc7,[33,31],0),
  (50,(Dkl58,[],[]),6,Dkc7,[32],0),
  (51,(Dkl58,[Dke105],[]),5,Dkc7,[37],0),
  (54,(Dkl59,[],[]),4,Dkc7,[34],0),
  (55,(Dkl59,[Dke102],[]),3,Dkc7,[35],0),
  (58,(Dkl59,[Dke86],[]),2,Dkc7,[36],0),
  (59,(Dkl59,[Dke106,Dke86],[]),1,Dkc7,[37],0),
  (60,(Dkl57,[Dke103],[]),0,Dkc7,[],0)]
def CND18 : List (List ND) := [CND18_0]
theorem CKD18 : chkS prot SMsD SMD18 [] CND18 = true := by decide +kernel
-- OneSided.mark [(1, 1), (-2147483648, 2147483647), (0, 1)]
def Dkl60 : AL := [some Dka56,some Dka34,some Dka70]
def Dkl61 : AL := [some Dka56,some Dka58,some Dka70]
def Dka82 : AV := (0,0,3,1)
def Dkl62 : AL := [some Dka56,some Dka82,some Dka70]
def Dke107 : SE := (Dka70,(1,2,0,0,0))
def Dkl63 : AL := [some Dka56,some Dka82,some Dka7]
def Dka83 : AV := (2,75,75,0)
def Dke108 : SE := (Dka83,(2,1,5,0,0))
def Dke109 : SE := (Dka82,(1,1,0,0,0))
def Dka84 : AV := (2,102,126,8)
def Dke110 : SE := (Dka84,pv0)
def Dke111 : SE := (Dka34,(2,1,6,0,0))
def Dka85 : AV := (0,1,8,1)
def Dke112 : SE := (Dka85,pv0)
def Dke113 : SE := (Dka34,pv0)
def Dkl64 : AL := [some Dka56,some Dka82,some Dka6]
def Dke114 : SE := (Dka70,pv0)
def Dkf37 : FA := [(1,9,Dka7)]
def CND21_0 : List ND := [(0,(Dkl60,[],[]),46,Dkc1,[1],0),
  (1,(Dkl60,[Dke67],[]),45,Dkc1,[5,2],0),
  (4,(Dkl61,[],[]),44,Dkc1,[3],0),
  (5,(Dkl61,[Dke68],[]),43,Dkc1,[4],0),
  (6,(Dkl61,[Dke35,Dke68],[]),42,Dkc1,[7,5],0),
  (9,(Dkl60,[],[]),1,Dkc1,[6],0),
  (10,(Dkl60,[Dke7],[]),0,Dkc1,[],0),
  (11,(Dkl62,[],[]),41,Dkc1,[8],0),
  (12,(Dkl62,[Dke107],[]),40,Dkc1,[26,9],0),
  (15,(Dkl63,[],[]),18,Dkc1,[10],0),
  (16,(Dkl63,[Dke60],[]),17,Dkc1,[11],0),
  (19,(Dkl63,[Dke108],[]),16,Dkc1,[12],0),
  (20,(Dkl63,[Dke109,Dke108],[]),15,Dkc1,[13],0),
  (21,(Dkl63,[Dke110],[]),14,Dkc1,[14],0),
  (22,(Dkl63,[Dke60,Dke110],[]),13,Dkc1,[15],0),
  (25,(Dkl63,[Dke66,Dke110],[]),12,Dkc1,[16],19),
  (28,(Dkl63,[],[]),11,Dkc1,[17],0),
  (29,(Dkl63,[Dke60],[]),10,Dkc1,[18],0),
  (30,(Dkl63,[Dke60,Dke60],[]),9,Dkc1,[19],0),
  (33,(Dkl63,[Dke111,Dke60],[]),8,Dkc1,[20],0),
  (34,(Dkl63,[Dke6,Dke111,Dke60],[]),7,Dkc1,[21],0),
  (35,(Dkl63,[Dke109,Dke6,Dke111,Dke60],[]),6,Dkc1,[22],0),
  (36,(Dkl63,[Dke112,Dke111,Dke60],[]),5,Dkc1,[23],0),
  (37,(Dkl63,[Dke113,Dke60],[]),4,Dkc1,[24],0),
  (40,(Dkl63,[],[]),3,Dkc1,[25],0),
  (41,(Dkl63,[Dke6],[]),2,Dkc1,[],1),
  (42,(Dkl64,[],[]),39,Dkc1,[27],0),
  (43,(Dkl64,[Dke60],[]),38,Dkc1,[28],0),
  (46,(Dkl64,[Dke111],[]),37,Dkc1,[29],0),
  (47,(Dkl64,[Dke109,Dke111],[]),36,Dkc1,[30],0),
  (48,(Dkl64,[Dke113],[]),35,Dkc1,[31],0),
  (49,(Dkl64,[Dke6,Dke113],[]),34,Dkc1,[32],0),
  (50,(Dkl64,[Dke114],[]),33,Dkc1,[35,33],0),
  (53,(Dkl64,[],[]),20,Dkc1,[34],0),
  (54,(Dkl64,[Dke7],[]),19,Dkc1,[],0),
  (55,(Dkl64,[],[]),32,Dkc1,[36],0),
  (56,(Dkl64,[Dke60],[]),31,Dkc1,[37],0),
  (59,(Dkl64,[Dke66],[]),30,Dkc1,[38],0),
  (60,(Dkl64,[Dke60,Dke66],[]),29,Dkc1,[39],0),
  (63,(Dkl64,[Dke108,Dke66],[]),28,Dkc1,[40],0),
  (64,(Dkl64,[Dke109,Dke108,Dke66],[]),27,Dkc1,[41],0),
  (65,(Dkl64,[Dke110,Dke66],[]),26,Dkc1,[42],20),
  (68,(Dkl64,[],[]),25,Dkc1,[43],0),
  (69,(Dkl64,[Dke60],[]),24,Dkc1,[44],0),
  (70,(Dkl64,[Dke7,Dke60],[]),23,Dkc1,[45],0),
  (73,(Dkl64,[],Dkf37),22,Dkc1,[46],0),
  (74,(Dkl64,[Dke6],Dkf37),21,Dkc1,[],1)]
def CND21 : List (List ND) := [CND21_0]
theorem CKD21 : chkS prot SMsD SMD21 [(1,1),(2,2)] CND21 = true := by decide +kernel
