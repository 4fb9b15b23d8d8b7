/-! LM, by program: certificates R 0 -/
-- OneSidedModel.lay [(182, 182), (-9223372036854775808, 9223372036854775807)]
def Rka0 : AV := (2,182,182,0)
def Rka1 : AV := (1,-9223372036854775808,9223372036854775807,1)
def Rkl0 : AL := [some Rka0,some Rka1,none,none,none]
def Rkc0 : List Int := [0,0,0,0,0]
def Rka2 : AV := (0,56,56,0)
def Rke0 : SE := (Rka2,pv0)
def Rka3 : AV := (0,-8,56,1)
def Rkl1 : AL := [some Rka0,some Rka1,none,some Rka3,none]
def Rkc1 : List Int := [0,0,0,36,0]
def Rke1 : SE := (Rka3,(1,3,0,0,0))
def Rka4 : AV := (0,0,56,1)
def Rkl2 : AL := [some Rka0,some Rka1,none,some Rka4,none]
def Rke2 : SE := (Rka1,(1,1,0,0,0))
def Rke3 : SE := (Rka4,(1,3,0,0,0))
def Rke4 : SE := (Rka1,pv0)
def Rka5 : AV := (0,-2147483648,2147483647,1)
def Rke5 : SE := (Rka5,pv0)
def Rka6 : AV := (0,255,255,0)
def Rke6 : SE := (Rka6,pv0)
def Rka7 : AV := (0,0,255,1)
def Rke7 : SE := (Rka7,pv0)
def Rkl3 : AL := [some Rka0,some Rka1,none,some Rka4,some Rka7]
def Rke8 : SE := (Rka7,(1,4,0,0,0))
def Rka8 : AV := (0,10,10,0)
def Rke9 : SE := (Rka8,pv0)
def Rka9 : AV := (0,32,32,0)
def Rke10 : SE := (Rka9,pv0)
def Rka10 : AV := (0,32,255,1)
def Rkl4 : AL := [some Rka0,some Rka1,none,some Rka4,some Rka10]
def Rke11 : SE := (Rka10,(1,4,0,0,0))
def Rka11 : AV := (0,126,126,0)
def Rke12 : SE := (Rka11,pv0)
def Rka12 : AV := (0,10,126,1)
def Rkl5 : AL := [some Rka0,some Rka1,none,some Rka4,some Rka12]
def Rke13 : SE := (Rka0,(1,0,0,0,0))
def Rka13 : AV := (0,0,1000,1)
def Rke14 : SE := (Rka13,(2,182,2,0,0))
def Rka14 : AV := (0,1000,1000,0)
def Rke15 : SE := (Rka14,pv0)
def Rka15 : AV := (0,0,999,1)
def Rkf0 : FA := [(182,2,Rka15)]
def Rka16 : AV := (2,183,183,0)
def Rke16 : SE := (Rka16,(2,182,1,0,0))
def Rke17 : SE := (Rka15,(2,182,2,0,0))
def Rke18 : SE := (Rka12,(1,4,0,0,0))
def Rka17 : AV := (0,1,1,0)
def Rke19 : SE := (Rka17,pv0)
def Rka18 : AV := (0,1,1000,1)
def Rke20 : SE := (Rka18,pv0)
def Rka19 : AV := (0,-8,48,1)
def Rkl6 : AL := [some Rka0,some Rka1,none,some Rka19,some Rka7]
def Rka20 : AV := (0,-8,-1,1)
def Rkl7 : AL := [some Rka0,some Rka1,none,some Rka20,none]
def CNR0_0 : List ND := [(0,(Rkl0,[],[]),2342,Rkc0,[1],0),
  (2,(Rkl0,[Rke0],[]),2341,Rkc0,[2],0),
  (3,(Rkl1,[],[]),323,Rkc1,[3],0),
  (4,(Rkl1,[Rke1],[]),322,Rkc1,[38,4],0),
  (7,(Rkl2,[],[]),321,Rkc1,[5],0),
  (8,(Rkl2,[Rke2],[]),320,Rkc1,[6],0),
  (9,(Rkl2,[Rke3,Rke2],[]),319,Rkc1,[7],0),
  (10,(Rkl2,[Rke4],[]),318,Rkc1,[8],0),
  (11,(Rkl2,[Rke5],[]),317,Rkc1,[9],0),
  (14,(Rkl2,[Rke6,Rke5],[]),316,Rkc1,[10],0),
  (15,(Rkl2,[Rke7],[]),315,Rkc1,[11],0),
  (17,(Rkl3,[],[]),314,Rkc1,[12],0),
  (19,(Rkl3,[Rke8],[]),313,Rkc1,[13],0),
  (21,(Rkl3,[Rke9,Rke8],[]),312,Rkc1,[20,14],0),
  (24,(Rkl3,[],[]),311,Rkc1,[15],0),
  (26,(Rkl3,[Rke8],[]),310,Rkc1,[16],0),
  (28,(Rkl3,[Rke10,Rke8],[]),309,Rkc1,[36,17],0),
  (31,(Rkl4,[],[]),308,Rkc1,[18],0),
  (33,(Rkl4,[Rke11],[]),307,Rkc1,[19],0),
  (35,(Rkl4,[Rke12,Rke11],[]),306,Rkc1,[36,20],0),
  (38,(Rkl5,[],[]),305,Rkc1,[21],0),
  (39,(Rkl5,[Rke13],[]),304,Rkc1,[22],0),
  (42,(Rkl5,[Rke14],[]),303,Rkc1,[23],0),
  (45,(Rkl5,[Rke15,Rke14],[]),302,Rkc1,[36,24],0),
  (48,(Rkl5,[],Rkf0),301,Rkc1,[25],0),
  (49,(Rkl5,[Rke13],Rkf0),300,Rkc1,[26],0),
  (52,(Rkl5,[Rke16],Rkf0),299,Rkc1,[27],0),
  (53,(Rkl5,[Rke13,Rke16],Rkf0),298,Rkc1,[28],0),
  (56,(Rkl5,[Rke17,Rke16],Rkf0),297,Rkc1,[29],0),
  (58,(Rkl5,[Rke18,Rke17,Rke16],Rkf0),296,Rkc1,[30],0),
  (59,(Rkl5,[],Rkf0),295,Rkc1,[31],0),
  (60,(Rkl5,[Rke13],Rkf0),294,Rkc1,[32],0),
  (61,(Rkl5,[Rke13,Rke13],Rkf0),293,Rkc1,[33],0),
  (64,(Rkl5,[Rke17,Rke13],Rkf0),292,Rkc1,[34],0),
  (65,(Rkl5,[Rke19,Rke17,Rke13],Rkf0),291,Rkc1,[35],0),
  (66,(Rkl5,[Rke20,Rke13],Rkf0),290,Rkc1,[36],0),
  (69,(Rkl3,[],[]),289,Rkc1,[37],0),
  (72,(Rkl6,[],[]),324,Rkc1,[2],0),
  (75,(Rkl7,[],[]),0,Rkc0,[],0)]
def CNR0 : List (List ND) := [CNR0_0]
theorem CKR0 : chkS prot SMsR SMR0 [] CNR0 = true := by decide +kernel
-- OneSidedModel.feed [(182, 182), (-9223372036854775808, 9223372036854775807), (-9223372036854775808, 9223372036854775807), (-9223372036854775808, 9223372036854775807)]
def Rkl8 : AL := [some Rka0,some Rka1,none,some Rka1,none,some Rka1,none]
def Rkc2 : List Int := [0,0,0,0,0,0,0]
def Rka21 : AV := (0,0,0,0)
def Rke21 : SE := (Rka21,pv0)
def Rkf1 : FA := [(182,0,Rka21)]
def Rke22 : SE := (Rka1,(1,3,0,0,0))
def Rke23 : SE := (Rka1,(1,5,0,0,0))
def CNR1_0 : List ND := [(0,(Rkl8,[],[]),14,Rkc2,[1],0),
  (1,(Rkl8,[Rke13],[]),13,Rkc2,[2],0),
  (2,(Rkl8,[Rke21,Rke13],[]),12,Rkc2,[3],0),
  (5,(Rkl8,[],Rkf1),11,Rkc2,[4],0),
  (6,(Rkl8,[Rke13],Rkf1),10,Rkc2,[5],0),
  (7,(Rkl8,[Rke2,Rke13],Rkf1),9,Rkc2,[6],0),
  (10,(Rkl8,[],Rkf1),8,Rkc2,[7],0),
  (11,(Rkl8,[Rke13],Rkf1),7,Rkc2,[8],0),
  (12,(Rkl8,[Rke22,Rke13],Rkf1),6,Rkc2,[9],0),
  (15,(Rkl8,[],Rkf1),5,Rkc2,[10],0),
  (16,(Rkl8,[Rke13],Rkf1),4,Rkc2,[11],0),
  (18,(Rkl8,[Rke23,Rke13],Rkf1),3,Rkc2,[12],0),
  (21,(Rkl8,[],Rkf1),2,Rkc2,[13],0),
  (22,(Rkl8,[Rke13],Rkf1),1,Rkc2,[14],0),
  (25,(Rkl8,[Rke14],Rkf1),0,Rkc2,[],0)]
def CNR1 : List (List ND) := [CNR1_0]
theorem CKR1 : chkS prot SMsR SMR1 [] CNR1 = true := by decide +kernel
-- OneSidedModel.doors [(182, 182)]
def Rkl9 : AL := [some Rka0]
def Rkc3 : List Int := [0]
def Rka22 : AV := (2,188,188,0)
def Rke24 : SE := (Rka22,(2,182,10,0,0))
def Rka23 : AV := (0,0,14,1)
def Rke25 : SE := (Rka23,(2,188,1,0,0))
def CNR2_0 : List ND := [(0,(Rkl9,[],[]),4,Rkc3,[1],0),
  (1,(Rkl9,[Rke13],[]),3,Rkc3,[2],0),
  (4,(Rkl9,[Rke24],[]),2,Rkc3,[3],0),
  (5,(Rkl9,[Rke19,Rke24],[]),1,Rkc3,[4],0),
  (6,(Rkl9,[Rke25],[]),0,Rkc3,[],0)]
def CNR2 : List (List ND) := [CNR2_0]
theorem CKR2 : chkS prot SMsR SMR2 [] CNR2 = true := by decide +kernel
-- OneSidedModel.isDoor [(182, 182), (-2147483648, 2147483647)]
def Rkl10 : AL := [some Rka0,some Rka5]
def Rkc4 : List Int := [0,0]
def Rke26 : SE := (Rka5,(1,1,0,0,0))
def Rka24 : AV := (0,0,2147483647,1)
def Rkl11 : AL := [some Rka0,some Rka24]
def Rke27 : SE := (Rka24,(1,1,0,0,0))
def Rka25 : AV := (0,0,13,1)
def Rkl12 : AL := [some Rka0,some Rka25]
def Rka26 : AV := (0,1,14,1)
def Rkf2 : FA := [(188,1,Rka26)]
def CNR3_0 : List ND := [(0,(Rkl10,[],[]),10,Rkc4,[1],0),
  (1,(Rkl10,[Rke26],[]),9,Rkc4,[8,2],0),
  (4,(Rkl11,[],[]),8,Rkc4,[3],0),
  (5,(Rkl11,[Rke27],[]),7,Rkc4,[4],0),
  (6,(Rkl11,[Rke13,Rke27],[]),6,Rkc4,[5],2),
  (9,(Rkl11,[Rke25,Rke27],[]),5,Rkc4,[8,6],0),
  (12,(Rkl12,[],Rkf2),4,Rkc4,[7],0),
  (13,(Rkl12,[Rke19],Rkf2),3,Rkc4,[10],0),
  (16,(Rkl10,[],[]),1,Rkc4,[9],0),
  (17,(Rkl10,[Rke21],[]),0,Rkc4,[],1),
  (17,(Rkl12,[Rke19],Rkf2),2,Rkc4,[],0)]
def CNR3 : List (List ND) := [CNR3_0]
theorem CKR3 : chkS prot SMsR SMR3 [(1,1)] CNR3 = true := by decide +kernel
-- OneSidedModel.within [(-2147483648, 2147483647), (0, 0), (9, 9)]
def Rka27 : AV := (0,9,9,0)
def Rkl13 : AL := [some Rka5,some Rka21,some Rka27]
def Rkc5 : List Int := [0,0,0]
def Rke28 : SE := (Rka5,(1,0,0,0,0))
def Rke29 : SE := (Rka21,(1,1,0,0,0))
def Rkl14 : AL := [some Rka24,some Rka21,some Rka27]
def Rke30 : SE := (Rka24,(1,0,0,0,0))
def Rke31 : SE := (Rka27,(1,2,0,0,0))
def Rka28 : AV := (0,0,9,1)
def Rkl15 : AL := [some Rka28,some Rka21,some Rka27]
def CNR4_0 : List ND := [(0,(Rkl13,[],[]),10,Rkc5,[1],0),
  (1,(Rkl13,[Rke28],[]),9,Rkc5,[2],0),
  (2,(Rkl13,[Rke29,Rke28],[]),8,Rkc5,[8,3],0),
  (5,(Rkl14,[],[]),7,Rkc5,[4],0),
  (6,(Rkl14,[Rke30],[]),6,Rkc5,[5],0),
  (7,(Rkl14,[Rke31,Rke30],[]),5,Rkc5,[8,6],0),
  (10,(Rkl15,[],[]),4,Rkc5,[7],0),
  (11,(Rkl15,[Rke19],[]),3,Rkc5,[10],0),
  (14,(Rkl13,[],[]),1,Rkc5,[9],0),
  (15,(Rkl13,[Rke21],[]),0,Rkc5,[],1),
  (15,(Rkl15,[Rke19],[]),2,Rkc5,[],0)]
def CNR4 : List (List ND) := [CNR4_0]
theorem CKR4 : chkS prot SMsR SMR4 [(0,0)] CNR4 = true := by decide +kernel
-- OneSidedModel.doorOf [(182, 182), (0, 13), (0, 7)]
def Rka29 : AV := (0,0,7,1)
def Rkl16 : AL := [some Rka0,some Rka25,some Rka29]
def Rka30 : AV := (0,4,4,0)
def Rke32 : SE := (Rka30,pv0)
def Rka31 : AV := (0,8,8,0)
def Rke33 : SE := (Rka31,pv0)
def Rke34 : SE := (Rka25,(1,1,0,0,0))
def Rka32 : AV := (0,0,104,8)
def Rke35 : SE := (Rka32,pv0)
def Rka33 : AV := (0,4,108,8)
def Rke36 : SE := (Rka33,pv0)
def Rke37 : SE := (Rka29,(1,2,0,0,0))
def Rka34 : AV := (0,4,115,1)
def Rke38 : SE := (Rka34,pv0)
def Rka35 : AV := (0,-1,24,1)
def Rke39 : SE := (Rka35,pv0)
def CNR5_0 : List ND := [(0,(Rkl16,[],[]),10,Rkc5,[1],0),
  (1,(Rkl16,[Rke13],[]),9,Rkc5,[2],0),
  (4,(Rkl16,[Rke24],[]),8,Rkc5,[3],0),
  (5,(Rkl16,[Rke32,Rke24],[]),7,Rkc5,[4],0),
  (7,(Rkl16,[Rke33,Rke32,Rke24],[]),6,Rkc5,[5],0),
  (8,(Rkl16,[Rke34,Rke33,Rke32,Rke24],[]),5,Rkc5,[6],0),
  (9,(Rkl16,[Rke35,Rke32,Rke24],[]),4,Rkc5,[7],0),
  (10,(Rkl16,[Rke36,Rke24],[]),3,Rkc5,[8],0),
  (11,(Rkl16,[Rke37,Rke36,Rke24],[]),2,Rkc5,[9],0),
  (12,(Rkl16,[Rke38,Rke24],[]),1,Rkc5,[10],0),
  (13,(Rkl16,[Rke39],[]),0,Rkc5,[],0)]
def CNR5 : List (List ND) := [CNR5_0]
theorem CKR5 : chkS prot SMsR SMR5 [] CNR5 = true := by decide +kernel
-- OneSidedModel.door [(182, 182), (-2147483648, 2147483647), (-2147483648, 2147483647)]
def Rkl17 : AL := [some Rka0,some Rka5,some Rka5]
def Rkl18 : AL := [some Rka0,some Rka25,some Rka5]
def Rke40 : SE := (Rka5,(1,2,0,0,0))
def Rke41 : SE := (Rka27,pv0)
def Rkl19 : AL := [some Rka0,some Rka25,some Rka28]
def Rka36 : AV := (0,-1,-1,0)
def Rke42 : SE := (Rka36,pv0)
def Rke43 : SE := (Rka28,(1,2,0,0,0))
def Rka37 : AV := (0,8,9,1)
def Rkl20 : AL := [some Rka0,some Rka25,some Rka37]
def Rke44 : SE := (Rka37,(1,2,0,0,0))
def Rkl21 : AL := [some Rka0,some Rka25,some Rka31]
def Rka38 : AV := (2,198,198,0)
def Rke45 : SE := (Rka38,(2,182,24,0,0))
def Rke46 : SE := (Rka5,(2,198,1,0,0))
def Rka39 : AV := (0,0,1,1)
def Rke47 : SE := (Rka39,pv0)
def Rkl22 : AL := [some Rka0,some Rka25,some Rka27]
def Rka40 : AV := (0,20,20,0)
def Rke48 : SE := (Rka40,pv0)
def Rka41 : AV := (0,20,33,1)
def Rke49 : SE := (Rka41,pv0)
def CNR6_0 : List ND := [(0,(Rkl17,[],[]),42,Rkc5,[1],0),
  (1,(Rkl17,[Rke13],[]),41,Rkc5,[2],0),
  (2,(Rkl17,[Rke21,Rke13],[]),40,Rkc5,[3],0),
  (5,(Rkl17,[],Rkf1),39,Rkc5,[4],0),
  (6,(Rkl17,[Rke13],Rkf1),38,Rkc5,[5],0),
  (7,(Rkl17,[Rke26,Rke13],Rkf1),37,Rkc5,[7,6],3),
  (10,(Rkl17,[Rke21],Rkf1),36,Rkc5,[14],0),
  (10,(Rkl18,[Rke19],Rkf1),35,Rkc5,[8],0),
  (13,(Rkl18,[],Rkf1),34,Rkc5,[9],0),
  (14,(Rkl18,[Rke40],Rkf1),33,Rkc5,[10],0),
  (15,(Rkl18,[Rke21,Rke40],Rkf1),32,Rkc5,[11],0),
  (17,(Rkl18,[Rke41,Rke21,Rke40],Rkf1),31,Rkc5,[13,12],4),
  (20,(Rkl18,[Rke21],Rkf1),30,Rkc5,[14],0),
  (20,(Rkl19,[Rke19],Rkf1),27,Rkc5,[16],0),
  (23,(Rkl17,[],Rkf1),29,Rkc5,[15],0),
  (24,(Rkl17,[Rke42],Rkf1),28,Rkc5,[],0),
  (25,(Rkl19,[],Rkf1),26,Rkc5,[17],0),
  (26,(Rkl19,[Rke43],Rkf1),25,Rkc5,[18],0),
  (28,(Rkl19,[Rke33,Rke43],Rkf1),24,Rkc5,[24,19],0),
  (31,(Rkl16,[],Rkf1),5,Rkc5,[20],0),
  (32,(Rkl16,[Rke13],Rkf1),4,Rkc5,[21],0),
  (33,(Rkl16,[Rke34,Rke13],Rkf1),3,Rkc5,[22],0),
  (34,(Rkl16,[Rke37,Rke34,Rke13],Rkf1),2,Rkc5,[23],5),
  (37,(Rkl16,[Rke39],Rkf1),1,Rkc5,[42],0),
  (40,(Rkl20,[],Rkf1),23,Rkc5,[25],0),
  (41,(Rkl20,[Rke44],Rkf1),22,Rkc5,[26],0),
  (43,(Rkl20,[Rke33,Rke44],Rkf1),21,Rkc5,[36,27],0),
  (46,(Rkl21,[],Rkf1),14,Rkc5,[28],0),
  (47,(Rkl21,[Rke13],Rkf1),13,Rkc5,[29],0),
  (50,(Rkl21,[Rke45],Rkf1),12,Rkc5,[30],0),
  (51,(Rkl21,[Rke19,Rke45],Rkf1),11,Rkc5,[31],0),
  (52,(Rkl21,[Rke46],Rkf1),10,Rkc5,[32],0),
  (53,(Rkl21,[Rke34,Rke46],Rkf1),9,Rkc5,[33],0),
  (54,(Rkl21,[Rke5],Rkf1),8,Rkc5,[34],0),
  (55,(Rkl21,[Rke19,Rke5],Rkf1),7,Rkc5,[35],0),
  (56,(Rkl21,[Rke47],Rkf1),6,Rkc5,[42],0),
  (59,(Rkl22,[],Rkf1),20,Rkc5,[37],0),
  (60,(Rkl22,[Rke13],Rkf1),19,Rkc5,[38],0),
  (63,(Rkl22,[Rke45],Rkf1),18,Rkc5,[39],0),
  (65,(Rkl22,[Rke48,Rke45],Rkf1),17,Rkc5,[40],0),
  (66,(Rkl22,[Rke34,Rke48,Rke45],Rkf1),16,Rkc5,[41],0),
  (67,(Rkl22,[Rke49,Rke45],Rkf1),15,Rkc5,[42],0),
  (68,(Rkl19,[Rke5],Rkf1),0,Rkc5,[],0)]
def CNR6 : List (List ND) := [CNR6_0]
theorem CKR6 : chkS prot SMsR SMR6 [] CNR6 = true := by decide +kernel
-- OneSidedModel.people [(182, 182)]
def Rka42 : AV := (0,2,2,0)
def Rke50 : SE := (Rka42,pv0)
def Rka43 : AV := (0,0,6,1)
def Rke51 : SE := (Rka43,(2,188,2,0,0))
def CNR7_0 : List ND := [(0,(Rkl9,[],[]),4,Rkc3,[1],0),
  (1,(Rkl9,[Rke13],[]),3,Rkc3,[2],0),
  (4,(Rkl9,[Rke24],[]),2,Rkc3,[3],0),
  (5,(Rkl9,[Rke50,Rke24],[]),1,Rkc3,[4],0),
  (6,(Rkl9,[Rke51],[]),0,Rkc3,[],0)]
def CNR7 : List (List ND) := [CNR7_0]
theorem CKR7 : chkS prot SMsR SMR7 [] CNR7 = true := by decide +kernel
-- OneSidedModel.isPerson [(182, 182), (-2147483648, 2147483647)]
def Rka44 : AV := (0,0,5,1)
def Rkl23 : AL := [some Rka0,some Rka44]
def Rka45 : AV := (0,1,6,1)
def Rkf3 : FA := [(188,2,Rka45)]
def CNR8_0 : List ND := [(0,(Rkl10,[],[]),10,Rkc4,[1],0),
  (1,(Rkl10,[Rke26],[]),9,Rkc4,[8,2],0),
  (4,(Rkl11,[],[]),8,Rkc4,[3],0),
  (5,(Rkl11,[Rke27],[]),7,Rkc4,[4],0),
  (6,(Rkl11,[Rke13,Rke27],[]),6,Rkc4,[5],7),
  (9,(Rkl11,[Rke51,Rke27],[]),5,Rkc4,[8,6],0),
  (12,(Rkl23,[],Rkf3),4,Rkc4,[7],0),
  (13,(Rkl23,[Rke19],Rkf3),3,Rkc4,[10],0),
  (16,(Rkl10,[],[]),1,Rkc4,[9],0),
  (17,(Rkl10,[Rke21],[]),0,Rkc4,[],1),
  (17,(Rkl23,[Rke19],Rkf3),2,Rkc4,[],0)]
def CNR8 : List (List ND) := [CNR8_0]
theorem CKR8 : chkS prot SMsR SMR8 [(1,1)] CNR8 = true := by decide +kernel
-- OneSidedModel.within [(-2147483648, 2147483647), (0, 0), (6, 6)]
def Rka46 : AV := (0,6,6,0)
def Rkl24 : AL := [some Rka5,some Rka21,some Rka46]
def Rkl25 : AL := [some Rka24,some Rka21,some Rka46]
def Rke52 : SE := (Rka46,(1,2,0,0,0))
def Rkl26 : AL := [some Rka43,some Rka21,some Rka46]
def CNR9_0 : List ND := [(0,(Rkl24,[],[]),10,Rkc5,[1],0),
  (1,(Rkl24,[Rke28],[]),9,Rkc5,[2],0),
  (2,(Rkl24,[Rke29,Rke28],[]),8,Rkc5,[8,3],0),
  (5,(Rkl25,[],[]),7,Rkc5,[4],0),
  (6,(Rkl25,[Rke30],[]),6,Rkc5,[5],0),
  (7,(Rkl25,[Rke52,Rke30],[]),5,Rkc5,[8,6],0),
  (10,(Rkl26,[],[]),4,Rkc5,[7],0),
  (11,(Rkl26,[Rke19],[]),3,Rkc5,[10],0),
  (14,(Rkl24,[],[]),1,Rkc5,[9],0),
  (15,(Rkl24,[Rke21],[]),0,Rkc5,[],1),
  (15,(Rkl26,[Rke19],[]),2,Rkc5,[],0)]
def CNR9 : List (List ND) := [CNR9_0]
theorem CKR9 : chkS prot SMsR SMR9 [(0,0)] CNR9 = true := by decide +kernel
-- OneSidedModel.personOf [(182, 182), (0, 5), (0, 3)]
def Rka47 : AV := (0,0,3,1)
def Rkl27 : AL := [some Rka0,some Rka44,some Rka47]
def Rka48 : AV := (0,116,116,0)
def Rke53 : SE := (Rka48,pv0)
def Rke54 : SE := (Rka44,(1,1,0,0,0))
def Rka49 : AV := (0,0,20,4)
def Rke55 : SE := (Rka49,pv0)
def Rka50 : AV := (0,116,136,4)
def Rke56 : SE := (Rka50,pv0)
def Rke57 : SE := (Rka47,(1,2,0,0,0))
def Rka51 : AV := (0,116,139,1)
def Rke58 : SE := (Rka51,pv0)
def Rka52 : AV := (0,0,24,1)
def Rke59 : SE := (Rka52,pv0)
def CNR10_0 : List ND := [(0,(Rkl27,[],[]),10,Rkc5,[1],0),
  (1,(Rkl27,[Rke13],[]),9,Rkc5,[2],0),
  (4,(Rkl27,[Rke24],[]),8,Rkc5,[3],0),
  (6,(Rkl27,[Rke53,Rke24],[]),7,Rkc5,[4],0),
  (7,(Rkl27,[Rke32,Rke53,Rke24],[]),6,Rkc5,[5],0),
  (8,(Rkl27,[Rke54,Rke32,Rke53,Rke24],[]),5,Rkc5,[6],0),
  (9,(Rkl27,[Rke55,Rke53,Rke24],[]),4,Rkc5,[7],0),
  (10,(Rkl27,[Rke56,Rke24],[]),3,Rkc5,[8],0),
  (11,(Rkl27,[Rke57,Rke56,Rke24],[]),2,Rkc5,[9],0),
  (12,(Rkl27,[Rke58,Rke24],[]),1,Rkc5,[10],0),
  (13,(Rkl27,[Rke59],[]),0,Rkc5,[],0)]
def CNR10 : List (List ND) := [CNR10_0]
theorem CKR10 : chkS prot SMsR SMR10 [] CNR10 = true := by decide +kernel
-- OneSidedModel.person [(182, 182), (-2147483648, 2147483647), (-2147483648, 2147483647)]
def Rkl28 : AL := [some Rka0,some Rka44,some Rka5]
def Rke60 : SE := (Rka46,pv0)
def Rkl29 : AL := [some Rka0,some Rka44,some Rka43]
def Rke61 : SE := (Rka43,(1,2,0,0,0))
def Rka53 : AV := (0,4,6,1)
def Rkl30 : AL := [some Rka0,some Rka44,some Rka53]
def Rke62 : SE := (Rka53,(1,2,0,0,0))
def Rkl31 : AL := [some Rka0,some Rka44,some Rka30]
def Rka54 : AV := (0,5,6,1)
def Rkl32 : AL := [some Rka0,some Rka44,some Rka54]
def Rke63 : SE := (Rka54,(1,2,0,0,0))
def Rka55 : AV := (0,5,5,0)
def Rke64 : SE := (Rka55,pv0)
def Rkl33 : AL := [some Rka0,some Rka44,some Rka55]
def Rkl34 : AL := [some Rka0,some Rka44,some Rka46]
def Rka56 : AV := (0,2,14,6)
def Rke65 : SE := (Rka56,pv0)
def Rka57 : AV := (0,2,19,1)
def Rke66 : SE := (Rka57,pv0)
def CNR11_0 : List ND := [(0,(Rkl17,[],[]),40,Rkc5,[1],0),
  (1,(Rkl17,[Rke13],[]),39,Rkc5,[2],0),
  (2,(Rkl17,[Rke21,Rke13],[]),38,Rkc5,[3],0),
  (5,(Rkl17,[],Rkf1),37,Rkc5,[4],0),
  (6,(Rkl17,[Rke13],Rkf1),36,Rkc5,[5],0),
  (7,(Rkl17,[Rke26,Rke13],Rkf1),35,Rkc5,[7,6],8),
  (10,(Rkl17,[Rke21],Rkf1),34,Rkc5,[14],0),
  (10,(Rkl28,[Rke19],Rkf1),33,Rkc5,[8],0),
  (13,(Rkl28,[],Rkf1),32,Rkc5,[9],0),
  (14,(Rkl28,[Rke40],Rkf1),31,Rkc5,[10],0),
  (15,(Rkl28,[Rke21,Rke40],Rkf1),30,Rkc5,[11],0),
  (17,(Rkl28,[Rke60,Rke21,Rke40],Rkf1),29,Rkc5,[13,12],9),
  (20,(Rkl28,[Rke21],Rkf1),28,Rkc5,[14],0),
  (20,(Rkl29,[Rke19],Rkf1),25,Rkc5,[16],0),
  (23,(Rkl17,[],Rkf1),27,Rkc5,[15],0),
  (24,(Rkl17,[Rke42],Rkf1),26,Rkc5,[],0),
  (25,(Rkl29,[],Rkf1),24,Rkc5,[17],0),
  (26,(Rkl29,[Rke61],Rkf1),23,Rkc5,[18],0),
  (27,(Rkl29,[Rke32,Rke61],Rkf1),22,Rkc5,[24,19],0),
  (30,(Rkl27,[],Rkf1),5,Rkc5,[20],0),
  (31,(Rkl27,[Rke13],Rkf1),4,Rkc5,[21],0),
  (32,(Rkl27,[Rke54,Rke13],Rkf1),3,Rkc5,[22],0),
  (33,(Rkl27,[Rke57,Rke54,Rke13],Rkf1),2,Rkc5,[23],10),
  (36,(Rkl27,[Rke59],Rkf1),1,Rkc5,[40],0),
  (39,(Rkl30,[],Rkf1),21,Rkc5,[25],0),
  (40,(Rkl30,[Rke13],Rkf1),20,Rkc5,[26],0),
  (43,(Rkl30,[Rke45],Rkf1),19,Rkc5,[27],0),
  (44,(Rkl30,[Rke62,Rke45],Rkf1),18,Rkc5,[28],0),
  (45,(Rkl30,[Rke32,Rke62,Rke45],Rkf1),17,Rkc5,[31,29],0),
  (48,(Rkl31,[Rke45],Rkf1),10,Rkc5,[30],0),
  (49,(Rkl31,[Rke50,Rke45],Rkf1),9,Rkc5,[37],0),
  (52,(Rkl32,[Rke45],Rkf1),16,Rkc5,[32],0),
  (53,(Rkl32,[Rke63,Rke45],Rkf1),15,Rkc5,[33],0),
  (54,(Rkl32,[Rke64,Rke63,Rke45],Rkf1),14,Rkc5,[36,34],0),
  (57,(Rkl33,[Rke45],Rkf1),13,Rkc5,[35],0),
  (59,(Rkl33,[Rke33,Rke45],Rkf1),12,Rkc5,[37],0),
  (62,(Rkl34,[Rke45],Rkf1),11,Rkc5,[37],0),
  (64,(Rkl30,[Rke65,Rke45],Rkf1),8,Rkc5,[38],0),
  (65,(Rkl30,[Rke54,Rke65,Rke45],Rkf1),7,Rkc5,[39],0),
  (66,(Rkl30,[Rke66,Rke45],Rkf1),6,Rkc5,[40],0),
  (67,(Rkl29,[Rke59],Rkf1),0,Rkc5,[],0)]
def CNR11 : List (List ND) := [CNR11_0]
theorem CKR11 : chkS prot SMsR SMR11 [] CNR11 = true := by decide +kernel
-- OneSidedModel.within [(-2147483648, 2147483647), (0, 0), (3, 3)]
def Rka58 : AV := (0,3,3,0)
def Rkl35 : AL := [some Rka5,some Rka21,some Rka58]
def Rkl36 : AL := [some Rka24,some Rka21,some Rka58]
def Rke67 : SE := (Rka58,(1,2,0,0,0))
def Rkl37 : AL := [some Rka47,some Rka21,some Rka58]
def CNR12_0 : List ND := [(0,(Rkl35,[],[]),10,Rkc5,[1],0),
  (1,(Rkl35,[Rke28],[]),9,Rkc5,[2],0),
  (2,(Rkl35,[Rke29,Rke28],[]),8,Rkc5,[8,3],0),
  (5,(Rkl36,[],[]),7,Rkc5,[4],0),
  (6,(Rkl36,[Rke30],[]),6,Rkc5,[5],0),
  (7,(Rkl36,[Rke67,Rke30],[]),5,Rkc5,[8,6],0),
  (10,(Rkl37,[],[]),4,Rkc5,[7],0),
  (11,(Rkl37,[Rke19],[]),3,Rkc5,[10],0),
  (14,(Rkl35,[],[]),1,Rkc5,[9],0),
  (15,(Rkl35,[Rke21],[]),0,Rkc5,[],1),
  (15,(Rkl37,[Rke19],[]),2,Rkc5,[],0)]
def CNR12 : List (List ND) := [CNR12_0]
theorem CKR12 : chkS prot SMsR SMR12 [(0,0)] CNR12 = true := by decide +kernel
-- OneSidedModel.rooms [(182, 182)]
def Rka59 : AV := (0,0,10,1)
def Rke68 : SE := (Rka59,(2,188,0,0,0))
def CNR13_0 : List ND := [(0,(Rkl9,[],[]),4,Rkc3,[1],0),
  (1,(Rkl9,[Rke13],[]),3,Rkc3,[2],0),
  (4,(Rkl9,[Rke24],[]),2,Rkc3,[3],0),
  (5,(Rkl9,[Rke21,Rke24],[]),1,Rkc3,[4],0),
  (6,(Rkl9,[Rke68],[]),0,Rkc3,[],0)]
def CNR13 : List (List ND) := [CNR13_0]
theorem CKR13 : chkS prot SMsR SMR13 [] CNR13 = true := by decide +kernel
-- OneSidedModel.isRoom [(182, 182), (-2147483648, 2147483647)]
def Rkl38 : AL := [some Rka0,some Rka28]
def Rka60 : AV := (0,1,10,1)
def Rkf4 : FA := [(188,0,Rka60)]
def CNR14_0 : List ND := [(0,(Rkl10,[],[]),10,Rkc4,[1],0),
  (1,(Rkl10,[Rke26],[]),9,Rkc4,[8,2],0),
  (4,(Rkl11,[],[]),8,Rkc4,[3],0),
  (5,(Rkl11,[Rke27],[]),7,Rkc4,[4],0),
  (6,(Rkl11,[Rke13,Rke27],[]),6,Rkc4,[5],13),
  (9,(Rkl11,[Rke68,Rke27],[]),5,Rkc4,[8,6],0),
  (12,(Rkl38,[],Rkf4),4,Rkc4,[7],0),
  (13,(Rkl38,[Rke19],Rkf4),3,Rkc4,[10],0),
  (16,(Rkl10,[],[]),1,Rkc4,[9],0),
  (17,(Rkl10,[Rke21],[]),0,Rkc4,[],1),
  (17,(Rkl38,[Rke19],Rkf4),2,Rkc4,[],0)]
def CNR14 : List (List ND) := [CNR14_0]
theorem CKR14 : chkS prot SMsR SMR14 [(1,1)] CNR14 = true := by decide +kernel
-- OneSidedModel.within [(-2147483648, 2147483647), (0, 0), (23, 23)]
def Rka61 : AV := (0,23,23,0)
def Rkl39 : AL := [some Rka5,some Rka21,some Rka61]
def Rkl40 : AL := [some Rka24,some Rka21,some Rka61]
def Rke69 : SE := (Rka61,(1,2,0,0,0))
def Rka62 : AV := (0,0,23,1)
def Rkl41 : AL := [some Rka62,some Rka21,some Rka61]
def CNR15_0 : List ND := [(0,(Rkl39,[],[]),10,Rkc5,[1],0),
  (1,(Rkl39,[Rke28],[]),9,Rkc5,[2],0),
  (2,(Rkl39,[Rke29,Rke28],[]),8,Rkc5,[8,3],0),
  (5,(Rkl40,[],[]),7,Rkc5,[4],0),
  (6,(Rkl40,[Rke30],[]),6,Rkc5,[5],0),
  (7,(Rkl40,[Rke69,Rke30],[]),5,Rkc5,[8,6],0),
  (10,(Rkl41,[],[]),4,Rkc5,[7],0),
  (11,(Rkl41,[Rke19],[]),3,Rkc5,[10],0),
  (14,(Rkl39,[],[]),1,Rkc5,[9],0),
  (15,(Rkl39,[Rke21],[]),0,Rkc5,[],1),
  (15,(Rkl41,[Rke19],[]),2,Rkc5,[],0)]
def CNR15 : List (List ND) := [CNR15_0]
theorem CKR15 : chkS prot SMsR SMR15 [(0,0)] CNR15 = true := by decide +kernel
-- OneSidedModel.leadsNow [(182, 182), (0, 0), (0, 13), (0, 3), (0, 9), (0, 25)]
def Rka63 : AV := (0,0,25,1)
def Rkl42 : AL := [some Rka0,some Rka21,some Rka25,some Rka47,some Rka28,some Rka63]
def Rkc6 : List Int := [0,0,0,0,0,0]
def Rke70 : SE := (Rka63,(1,5,0,0,0))
def Rka64 : AV := (0,24,24,0)
def Rke71 : SE := (Rka64,pv0)
def Rkl43 : AL := [some Rka0,some Rka21,some Rka25,some Rka47,some Rka28,some Rka62]
def Rke72 : SE := (Rka25,(1,2,0,0,0))
def Rke73 : SE := (Rka47,(1,3,0,0,0))
def Rke74 : SE := (Rka28,(1,4,0,0,0))
def Rke75 : SE := (Rka62,(1,5,0,0,0))
def Rka65 : AV := (0,-1,9,1)
def Rke76 : SE := (Rka65,pv0)
def Rka66 : AV := (0,24,25,1)
def Rkl44 : AL := [some Rka0,some Rka21,some Rka25,some Rka47,some Rka28,some Rka66]
def CNR17_0 : List ND := [(0,(Rkl42,[],[]),19,Rkc6,[1],0),
  (2,(Rkl42,[Rke70],[]),18,Rkc6,[2],0),
  (4,(Rkl42,[Rke71,Rke70],[]),17,Rkc6,[17,3],0),
  (7,(Rkl43,[],[]),16,Rkc6,[4],0),
  (8,(Rkl43,[Rke13],[]),15,Rkc6,[5],0),
  (9,(Rkl43,[Rke72,Rke13],[]),14,Rkc6,[6],0),
  (10,(Rkl43,[Rke73,Rke72,Rke13],[]),13,Rkc6,[7],0),
  (12,(Rkl43,[Rke74,Rke73,Rke72,Rke13],[]),12,Rkc6,[8],0),
  (14,(Rkl43,[Rke75,Rke74,Rke73,Rke72,Rke13],[]),11,Rkc6,[9],0),
  (15,(Rkl43,[Rke13,Rke75,Rke74,Rke73,Rke72,Rke13],[]),10,Rkc6,[10],0),
  (18,(Rkl43,[Rke45,Rke75,Rke74,Rke73,Rke72,Rke13],[]),9,Rkc6,[11],0),
  (19,(Rkl43,[Rke29,Rke45,Rke75,Rke74,Rke73,Rke72,Rke13],[]),8,Rkc6,[12],0),
  (20,(Rkl43,[Rke19,Rke29,Rke45,Rke75,Rke74,Rke73,Rke72,Rke13],[]),7,Rkc6,[13],0),
  (21,(Rkl43,[Rke19,Rke45,Rke75,Rke74,Rke73,Rke72,Rke13],[]),6,Rkc6,[14],0),
  (22,(Rkl43,[Rke46,Rke75,Rke74,Rke73,Rke72,Rke13],[]),5,Rkc6,[15],0),
  (23,(Rkl43,[Rke21,Rke46,Rke75,Rke74,Rke73,Rke72,Rke13],[]),4,Rkc6,[16],16),
  (26,(Rkl43,[Rke76],[]),3,Rkc6,[19],0),
  (29,(Rkl44,[],[]),1,Rkc6,[18],0),
  (30,(Rkl44,[Rke42],[]),0,Rkc6,[],0),
  (30,(Rkl43,[Rke76],[]),2,Rkc6,[],0)]
def CNR17 : List (List ND) := [CNR17_0]
theorem CKR17 : chkS prot SMsR SMR17 [] CNR17 = true := by decide +kernel
-- OneSidedModel.leads [(182, 182), (-2147483648, 2147483647), (-2147483648, 2147483647), (-2147483648, 2147483647), (-2147483648, 2147483647)]
def Rkl45 : AL := [some Rka0,some Rka5,some Rka5,some Rka5,some Rka5]
def Rkl46 : AL := [some Rka0,some Rka25,some Rka5,some Rka5,some Rka5]
def Rke77 : SE := (Rka58,pv0)
def Rkl47 : AL := [some Rka0,some Rka25,some Rka47,some Rka5,some Rka5]
def Rke78 : SE := (Rka5,(1,3,0,0,0))
def Rkl48 : AL := [some Rka0,some Rka25,some Rka47,some Rka28,some Rka5]
def Rke79 : SE := (Rka5,(1,4,0,0,0))
def Rke80 : SE := (Rka61,pv0)
def Rkl49 : AL := [some Rka0,some Rka25,some Rka47,some Rka28,some Rka62]
def Rke81 : SE := (Rka28,(1,3,0,0,0))
def Rke82 : SE := (Rka62,(1,4,0,0,0))
def CNR18_0 : List ND := [(0,(Rkl45,[],[]),35,Rkc0,[1],0),
  (1,(Rkl45,[Rke13],[]),34,Rkc0,[2],0),
  (2,(Rkl45,[Rke21,Rke13],[]),33,Rkc0,[3],0),
  (5,(Rkl45,[],Rkf1),32,Rkc0,[4],0),
  (6,(Rkl45,[Rke13],Rkf1),31,Rkc0,[5],0),
  (7,(Rkl45,[Rke26,Rke13],Rkf1),30,Rkc0,[7,6],3),
  (10,(Rkl45,[Rke21],Rkf1),29,Rkc0,[33],0),
  (10,(Rkl46,[Rke19],Rkf1),28,Rkc0,[8],0),
  (13,(Rkl46,[],Rkf1),27,Rkc0,[9],0),
  (14,(Rkl46,[Rke40],Rkf1),26,Rkc0,[10],0),
  (15,(Rkl46,[Rke21,Rke40],Rkf1),25,Rkc0,[11],0),
  (16,(Rkl46,[Rke77,Rke21,Rke40],Rkf1),24,Rkc0,[13,12],12),
  (19,(Rkl46,[Rke21],Rkf1),23,Rkc0,[33],0),
  (19,(Rkl47,[Rke19],Rkf1),22,Rkc0,[14],0),
  (22,(Rkl47,[],Rkf1),21,Rkc0,[15],0),
  (23,(Rkl47,[Rke13],Rkf1),20,Rkc0,[16],0),
  (24,(Rkl47,[Rke78,Rke13],Rkf1),19,Rkc0,[18,17],14),
  (27,(Rkl47,[Rke21],Rkf1),2,Rkc0,[33],0),
  (27,(Rkl48,[Rke19],Rkf1),18,Rkc0,[19],0),
  (30,(Rkl48,[],Rkf1),17,Rkc0,[20],0),
  (32,(Rkl48,[Rke79],Rkf1),16,Rkc0,[21],0),
  (33,(Rkl48,[Rke21,Rke79],Rkf1),15,Rkc0,[22],0),
  (35,(Rkl48,[Rke80,Rke21,Rke79],Rkf1),14,Rkc0,[24,23],15),
  (38,(Rkl48,[Rke21],Rkf1),3,Rkc0,[33],0),
  (38,(Rkl49,[Rke19],Rkf1),13,Rkc0,[25],0),
  (41,(Rkl49,[],Rkf1),12,Rkc0,[26],0),
  (42,(Rkl49,[Rke13],Rkf1),11,Rkc0,[27],0),
  (43,(Rkl49,[Rke21,Rke13],Rkf1),10,Rkc0,[28],0),
  (44,(Rkl49,[Rke34,Rke21,Rke13],Rkf1),9,Rkc0,[29],0),
  (45,(Rkl49,[Rke57,Rke34,Rke21,Rke13],Rkf1),8,Rkc0,[30],0),
  (46,(Rkl49,[Rke81,Rke57,Rke34,Rke21,Rke13],Rkf1),7,Rkc0,[31],0),
  (48,(Rkl49,[Rke82,Rke81,Rke57,Rke34,Rke21,Rke13],Rkf1),6,Rkc0,[32],17),
  (51,(Rkl49,[Rke76],Rkf1),5,Rkc0,[35],0),
  (54,(Rkl45,[],Rkf1),1,Rkc0,[34],0),
  (55,(Rkl45,[Rke42],Rkf1),0,Rkc0,[],0),
  (55,(Rkl49,[Rke76],Rkf1),4,Rkc0,[],0)]
def CNR18 : List (List ND) := [CNR18_0]
theorem CKR18 : chkS prot SMsR SMR18 [] CNR18 = true := by decide +kernel
-- OneSidedModel.within [(-2147483648, 2147483647), (1, 1), (24, 24)]
def Rkl50 : AL := [some Rka5,some Rka17,some Rka64]
def Rke83 : SE := (Rka17,(1,1,0,0,0))
def Rka67 : AV := (0,1,2147483647,1)
def Rkl51 : AL := [some Rka67,some Rka17,some Rka64]
def Rke84 : SE := (Rka67,(1,0,0,0,0))
def Rke85 : SE := (Rka64,(1,2,0,0,0))
def Rka68 : AV := (0,1,24,1)
def Rkl52 : AL := [some Rka68,some Rka17,some Rka64]
def CNR19_0 : List ND := [(0,(Rkl50,[],[]),10,Rkc5,[1],0),
  (1,(Rkl50,[Rke28],[]),9,Rkc5,[2],0),
  (2,(Rkl50,[Rke83,Rke28],[]),8,Rkc5,[8,3],0),
  (5,(Rkl51,[],[]),7,Rkc5,[4],0),
  (6,(Rkl51,[Rke84],[]),6,Rkc5,[5],0),
  (7,(Rkl51,[Rke85,Rke84],[]),5,Rkc5,[8,6],0),
  (10,(Rkl52,[],[]),4,Rkc5,[7],0),
  (11,(Rkl52,[Rke19],[]),3,Rkc5,[10],0),
  (14,(Rkl50,[],[]),1,Rkc5,[9],0),
  (15,(Rkl50,[Rke21],[]),0,Rkc5,[],1),
  (15,(Rkl52,[Rke19],[]),2,Rkc5,[],0)]
def CNR19 : List (List ND) := [CNR19_0]
theorem CKR19 : chkS prot SMsR SMR19 [(0,0)] CNR19 = true := by decide +kernel
-- OneSidedModel.passes [(182, 182), (0, 0)]
def Rkl53 : AL := [some Rka0,some Rka21,none]
def Rke86 : SE := (Rka52,(2,198,0,0,0))
def Rke87 : SE := (Rka62,(2,198,0,0,0))
def Rkf5 : FA := [(198,0,Rka62)]
def Rke88 : SE := (Rka64,(2,198,0,0,0))
def Rkf6 : FA := [(198,0,Rka64)]
def Rke89 : SE := (Rka68,pv0)
def Rkf7 : FA := [(198,0,Rka68)]
def Rkl54 : AL := [some Rka0,some Rka21,some Rka43]
def Rkc7 : List Int := [0,0,-14]
def Rkl55 : AL := [some Rka0,some Rka21,some Rka21]
def Rke90 : SE := (Rka21,(1,2,0,0,0))
def Rkl56 : AL := [some Rka0,some Rka21,some Rka44]
def Rka69 : AV := (0,14,14,0)
def Rke91 : SE := (Rka69,pv0)
def Rke92 : SE := (Rka44,(1,2,0,0,0))
def Rka70 : AV := (0,14,19,1)
def Rke93 : SE := (Rka70,pv0)
def Rkl57 : AL := [some Rka0,some Rka21,some Rka45]
def Rkl58 : AL := [some Rka0,some Rka21,some Rka46]
def Rkl59 : AL := [some Rka0,some Rka21,some Rka23]
def Rke94 : SE := (Rka23,(1,2,0,0,0))
def Rkl60 : AL := [some Rka0,some Rka21,some Rka25]
def Rkl61 : AL := [some Rka0,some Rka21,some Rka26]
def Rkl62 : AL := [some Rka0,some Rka21,some Rka69]
def CNR21_0 : List ND := [(0,(Rkl53,[],[]),333,Rkc5,[1],0),
  (1,(Rkl53,[Rke13],[]),332,Rkc5,[2],0),
  (4,(Rkl53,[Rke45],[]),331,Rkc5,[3],0),
  (5,(Rkl53,[Rke29,Rke45],[]),330,Rkc5,[4],0),
  (6,(Rkl53,[Rke21,Rke29,Rke45],[]),329,Rkc5,[5],0),
  (7,(Rkl53,[Rke21,Rke45],[]),328,Rkc5,[6],0),
  (8,(Rkl53,[Rke21,Rke45,Rke21,Rke45],[]),327,Rkc5,[7],0),
  (9,(Rkl53,[Rke86,Rke21,Rke45],[]),326,Rkc5,[8],0),
  (10,(Rkl53,[Rke13,Rke86,Rke21,Rke45],[]),325,Rkc5,[9],0),
  (13,(Rkl53,[Rke45,Rke86,Rke21,Rke45],[]),324,Rkc5,[10],0),
  (14,(Rkl53,[Rke29,Rke45,Rke86,Rke21,Rke45],[]),323,Rkc5,[11],0),
  (15,(Rkl53,[Rke21,Rke29,Rke45,Rke86,Rke21,Rke45],[]),322,Rkc5,[12],0),
  (16,(Rkl53,[Rke21,Rke45,Rke86,Rke21,Rke45],[]),321,Rkc5,[13],0),
  (17,(Rkl53,[Rke86,Rke86,Rke21,Rke45],[]),320,Rkc5,[14],0),
  (19,(Rkl53,[Rke71,Rke86,Rke86,Rke21,Rke45],[]),319,Rkc5,[17,15],0),
  (22,(Rkl53,[Rke87,Rke21,Rke45],Rkf5),316,Rkc5,[16],0),
  (23,(Rkl53,[Rke19,Rke87,Rke21,Rke45],Rkf5),315,Rkc5,[19],0),
  (26,(Rkl53,[Rke88,Rke21,Rke45],Rkf6),318,Rkc5,[18],0),
  (27,(Rkl53,[Rke21,Rke88,Rke21,Rke45],Rkf6),317,Rkc5,[20],0),
  (27,(Rkl53,[Rke19,Rke87,Rke21,Rke45],Rkf5),314,Rkc5,[20],0),
  (28,(Rkl53,[Rke89,Rke21,Rke45],[]),313,Rkc5,[21],0),
  (29,(Rkl53,[],Rkf7),312,Rkc5,[22],0),
  (30,(Rkl53,[Rke21],Rkf7),311,Rkc5,[23],0),
  (31,(Rkl54,[],Rkf7),309,Rkc7,[25],0),
  (32,(Rkl55,[Rke90],Rkf7),335,Rkc5,[26],0),
  (32,(Rkl54,[Rke61],Rkf7),308,Rkc7,[27],0),
  (34,(Rkl55,[Rke60,Rke90],Rkf7),334,Rkc5,[28],0),
  (34,(Rkl54,[Rke60,Rke61],Rkf7),307,Rkc7,[40,28],0),
  (37,(Rkl56,[],Rkf7),306,Rkc7,[29],0),
  (38,(Rkl56,[Rke13],Rkf7),305,Rkc7,[30],0),
  (41,(Rkl56,[Rke45],Rkf7),304,Rkc7,[31],0),
  (42,(Rkl56,[Rke29,Rke45],Rkf7),303,Rkc7,[32],0),
  (44,(Rkl56,[Rke91,Rke29,Rke45],Rkf7),302,Rkc7,[33],0),
  (45,(Rkl56,[Rke91,Rke45],Rkf7),301,Rkc7,[35],0),
  (46,(Rkl55,[Rke90,Rke91,Rke45],Rkf7),336,Rkc5,[36],0),
  (46,(Rkl56,[Rke92,Rke91,Rke45],Rkf7),300,Rkc7,[36],0),
  (47,(Rkl56,[Rke93,Rke45],Rkf7),299,Rkc7,[37],0),
  (48,(Rkl56,[Rke21,Rke93,Rke45],Rkf7),298,Rkc7,[38],0),
  (49,(Rkl56,[],Rkf7),297,Rkc7,[39],0),
  (52,(Rkl57,[],Rkf7),310,Rkc7,[23],0),
  (55,(Rkl58,[],Rkf7),212,Rkc5,[41],0),
  (56,(Rkl58,[Rke21],Rkf7),211,Rkc5,[42],0),
  (57,(Rkl59,[],Rkf7),209,Rkc7,[44],0),
  (58,(Rkl55,[Rke90],Rkf7),338,Rkc5,[45],0),
  (58,(Rkl59,[Rke94],Rkf7),208,Rkc7,[46],0),
  (60,(Rkl55,[Rke91,Rke90],Rkf7),337,Rkc5,[47],0),
  (60,(Rkl59,[Rke91,Rke94],Rkf7),207,Rkc7,[59,47],0),
  (63,(Rkl60,[],Rkf7),206,Rkc7,[48],0),
  (64,(Rkl60,[Rke13],Rkf7),205,Rkc7,[49],0),
  (67,(Rkl60,[Rke45],Rkf7),204,Rkc7,[50],0),
  (68,(Rkl60,[Rke29,Rke45],Rkf7),203,Rkc7,[51],0),
  (70,(Rkl60,[Rke48,Rke29,Rke45],Rkf7),202,Rkc7,[52],0),
  (71,(Rkl60,[Rke48,Rke45],Rkf7),201,Rkc7,[54],0),
  (72,(Rkl55,[Rke90,Rke48,Rke45],Rkf7),339,Rkc5,[55],0),
  (72,(Rkl60,[Rke72,Rke48,Rke45],Rkf7),200,Rkc7,[55],0),
  (73,(Rkl60,[Rke49,Rke45],Rkf7),199,Rkc7,[56],0),
  (74,(Rkl60,[Rke21,Rke49,Rke45],Rkf7),198,Rkc7,[57],0),
  (75,(Rkl60,[],Rkf7),197,Rkc7,[58],0),
  (78,(Rkl61,[],Rkf7),210,Rkc7,[42],0),
  (81,(Rkl62,[],Rkf7),0,Rkc5,[],0)]
def CNR21 : List (List ND) := [CNR21_0]
theorem CKR21 : chkS prot SMsR SMR21 [] CNR21 = true := by decide +kernel
-- OneSidedModel.hours [(182, 182), (-2147483648, 2147483647)]
def Rkl63 : AL := [some Rka0,some Rka5,none]
def Rkl64 : AL := [some Rka0,some Rka68,none]
def Rkl65 : AL := [some Rka0,some Rka68,some Rka52]
def Rkc8 : List Int := [0,0,-8]
def Rkl66 : AL := [some Rka0,some Rka68,some Rka21]
def Rke95 : SE := (Rka52,(1,2,0,0,0))
def Rke96 : SE := (Rka68,(1,1,0,0,0))
def Rkl67 : AL := [some Rka0,some Rka68,some Rka62]
def Rkl68 : AL := [some Rka0,some Rka68,some Rka68]
def CNR22_0 : List ND := [(0,(Rkl63,[],[]),219,Rkc5,[1],0),
  (1,(Rkl63,[Rke13],[]),218,Rkc5,[2],0),
  (2,(Rkl63,[Rke21,Rke13],[]),217,Rkc5,[3],0),
  (5,(Rkl63,[],Rkf1),216,Rkc5,[4],0),
  (6,(Rkl63,[Rke26],Rkf1),215,Rkc5,[5],0),
  (7,(Rkl63,[Rke19,Rke26],Rkf1),214,Rkc5,[6],0),
  (9,(Rkl63,[Rke71,Rke19,Rke26],Rkf1),213,Rkc5,[8,7],19),
  (12,(Rkl63,[Rke21],Rkf1),212,Rkc5,[9],0),
  (12,(Rkl64,[Rke19],Rkf1),209,Rkc5,[11],0),
  (15,(Rkl63,[],Rkf1),211,Rkc5,[10],0),
  (16,(Rkl63,[Rke42],Rkf1),210,Rkc5,[],0),
  (17,(Rkl64,[],Rkf1),208,Rkc5,[12],0),
  (18,(Rkl64,[Rke13],Rkf1),207,Rkc5,[13],20),
  (21,(Rkl64,[],Rkf1),206,Rkc5,[14],0),
  (22,(Rkl64,[Rke21],Rkf1),205,Rkc5,[15],0),
  (23,(Rkl65,[],Rkf1),203,Rkc8,[17],0),
  (24,(Rkl66,[Rke90],Rkf1),221,Rkc5,[18],0),
  (24,(Rkl65,[Rke95],Rkf1),202,Rkc8,[19],0),
  (25,(Rkl66,[Rke96,Rke90],Rkf1),220,Rkc5,[20],0),
  (25,(Rkl65,[Rke96,Rke95],Rkf1),201,Rkc8,[25,20],0),
  (28,(Rkl67,[],Rkf1),200,Rkc8,[21],0),
  (29,(Rkl67,[Rke13],Rkf1),199,Rkc8,[22],0),
  (30,(Rkl67,[Rke21,Rke13],Rkf1),198,Rkc8,[23],21),
  (33,(Rkl67,[],Rkf1),197,Rkc8,[24],0),
  (36,(Rkl68,[],Rkf1),204,Rkc8,[15],0),
  (39,(Rkl68,[],Rkf1),4,Rkc5,[26],0),
  (40,(Rkl68,[Rke13],Rkf1),3,Rkc5,[27],0),
  (43,(Rkl68,[Rke45],Rkf1),2,Rkc5,[28],0),
  (44,(Rkl68,[Rke21,Rke45],Rkf1),1,Rkc5,[29],0),
  (45,(Rkl68,[Rke86],Rkf1),0,Rkc5,[],0)]
def CNR22 : List (List ND) := [CNR22_0]
theorem CKR22 : chkS prot SMsR SMR22 [] CNR22 = true := by decide +kernel
-- OneSidedModel.isIn [(-2147483648, 2147483647), (-2147483648, 2147483647)]
def Rkl69 : AL := [some Rka5,some Rka5]
def CNR23_0 : List ND := [(0,(Rkl69,[],[]),11,Rkc4,[1],0),
  (1,(Rkl69,[Rke28],[]),10,Rkc4,[2],0),
  (2,(Rkl69,[Rke26,Rke28],[]),9,Rkc4,[3],0),
  (3,(Rkl69,[Rke5],[]),8,Rkc4,[4],0),
  (4,(Rkl69,[Rke19,Rke5],[]),7,Rkc4,[5],0),
  (5,(Rkl69,[Rke47],[]),6,Rkc4,[6],0),
  (6,(Rkl69,[Rke19,Rke47],[]),5,Rkc4,[9,7],0),
  (9,(Rkl69,[],[]),2,Rkc4,[8],0),
  (10,(Rkl69,[Rke19],[]),1,Rkc4,[11],0),
  (13,(Rkl69,[],[]),4,Rkc4,[10],0),
  (14,(Rkl69,[Rke21],[]),3,Rkc4,[],1),
  (14,(Rkl69,[Rke19],[]),0,Rkc4,[],0)]
def CNR23 : List (List ND) := [CNR23_0]
theorem CKR23 : chkS prot SMsR SMR23 [] CNR23 = true := by decide +kernel
-- OneSidedModel.shut [(182, 182), (-2147483648, 2147483647), (0, 1)]
def Rkl70 : AL := [some Rka0,some Rka5,some Rka39]
def Rkl71 : AL := [some Rka0,some Rka25,some Rka39]
def Rke97 : SE := (Rka39,(1,2,0,0,0))
def Rka71 : AV := (0,1,8192,1)
def Rke98 : SE := (Rka71,pv0)
def CNR24_0 : List ND := [(0,(Rkl70,[],[]),33,Rkc5,[1],0),
  (1,(Rkl70,[Rke13],[]),32,Rkc5,[2],0),
  (2,(Rkl70,[Rke21,Rke13],[]),31,Rkc5,[3],0),
  (5,(Rkl70,[],Rkf1),30,Rkc5,[4],0),
  (6,(Rkl70,[Rke13],Rkf1),29,Rkc5,[5],0),
  (7,(Rkl70,[Rke26,Rke13],Rkf1),28,Rkc5,[7,6],3),
  (10,(Rkl70,[Rke21],Rkf1),27,Rkc5,[18],0),
  (10,(Rkl71,[Rke19],Rkf1),26,Rkc5,[8],0),
  (13,(Rkl71,[],Rkf1),25,Rkc5,[9],0),
  (14,(Rkl71,[Rke13],Rkf1),24,Rkc5,[10],0),
  (17,(Rkl71,[Rke45],Rkf1),23,Rkc5,[11],0),
  (18,(Rkl71,[Rke19,Rke45],Rkf1),22,Rkc5,[12],0),
  (19,(Rkl71,[Rke46],Rkf1),21,Rkc5,[13],0),
  (20,(Rkl71,[Rke34,Rke46],Rkf1),20,Rkc5,[15,14],23),
  (23,(Rkl71,[Rke21],Rkf1),17,Rkc5,[16],0),
  (23,(Rkl71,[Rke19],Rkf1),19,Rkc5,[17],0),
  (24,(Rkl71,[Rke97,Rke21],Rkf1),16,Rkc5,[20,18],0),
  (24,(Rkl71,[Rke97,Rke19],Rkf1),18,Rkc5,[20,18],0),
  (27,(Rkl70,[],Rkf1),15,Rkc5,[19],0),
  (28,(Rkl70,[Rke21],Rkf1),14,Rkc5,[],0),
  (29,(Rkl71,[],Rkf1),13,Rkc5,[21],0),
  (30,(Rkl71,[Rke13],Rkf1),12,Rkc5,[22],20),
  (33,(Rkl71,[],Rkf1),11,Rkc5,[23],0),
  (34,(Rkl71,[Rke13],Rkf1),10,Rkc5,[24],0),
  (37,(Rkl71,[Rke45],Rkf1),9,Rkc5,[25],0),
  (38,(Rkl71,[Rke19,Rke45],Rkf1),8,Rkc5,[26],0),
  (39,(Rkl71,[Rke19,Rke45,Rke19,Rke45],Rkf1),7,Rkc5,[27],0),
  (40,(Rkl71,[Rke46,Rke19,Rke45],Rkf1),6,Rkc5,[28],0),
  (41,(Rkl71,[Rke19,Rke46,Rke19,Rke45],Rkf1),5,Rkc5,[29],0),
  (42,(Rkl71,[Rke34,Rke19,Rke46,Rke19,Rke45],Rkf1),4,Rkc5,[30],0),
  (43,(Rkl71,[Rke98,Rke46,Rke19,Rke45],Rkf1),3,Rkc5,[31],0),
  (44,(Rkl71,[Rke5,Rke19,Rke45],Rkf1),2,Rkc5,[32],0),
  (45,(Rkl71,[],Rkf1),1,Rkc5,[33],0),
  (46,(Rkl71,[Rke19],Rkf1),0,Rkc5,[],1)]
def CNR24 : List (List ND) := [CNR24_0]
theorem CKR24 : chkS prot SMsR SMR24 [(1,1)] CNR24 = true := by decide +kernel
-- OneSidedModel.startOf [(182, 182), (0, 0), (0, 5)]
def Rka72 : AV := (0,2,7,1)
def Rke99 : SE := (Rka72,pv0)
def Rke100 : SE := (Rka28,pv0)
def Rka73 : AV := (0,8,13,1)
def Rke101 : SE := (Rka73,pv0)
def Rka74 : AV := (0,0,19,1)
def Rke102 : SE := (Rka74,pv0)
def Rka75 : AV := (0,1,524288,1)
def Rke103 : SE := (Rka75,pv0)
def CNR25_0 : List ND := [(0,(Rkl56,[],[]),25,Rkc5,[1],0),
  (1,(Rkl56,[Rke19],[]),24,Rkc5,[2],0),
  (2,(Rkl56,[Rke13,Rke19],[]),23,Rkc5,[3],0),
  (5,(Rkl56,[Rke45,Rke19],[]),22,Rkc5,[4],0),
  (6,(Rkl56,[Rke29,Rke45,Rke19],[]),21,Rkc5,[5],0),
  (7,(Rkl56,[Rke50,Rke29,Rke45,Rke19],[]),20,Rkc5,[6],0),
  (8,(Rkl56,[Rke50,Rke45,Rke19],[]),19,Rkc5,[7],0),
  (9,(Rkl56,[Rke92,Rke50,Rke45,Rke19],[]),18,Rkc5,[8],0),
  (10,(Rkl56,[Rke99,Rke45,Rke19],[]),17,Rkc5,[9],0),
  (11,(Rkl56,[Rke100,Rke19],[]),16,Rkc5,[10],0),
  (12,(Rkl56,[Rke13,Rke100,Rke19],[]),15,Rkc5,[11],0),
  (15,(Rkl56,[Rke45,Rke100,Rke19],[]),14,Rkc5,[12],0),
  (16,(Rkl56,[Rke29,Rke45,Rke100,Rke19],[]),13,Rkc5,[13],0),
  (18,(Rkl56,[Rke33,Rke29,Rke45,Rke100,Rke19],[]),12,Rkc5,[14],0),
  (19,(Rkl56,[Rke33,Rke45,Rke100,Rke19],[]),11,Rkc5,[15],0),
  (20,(Rkl56,[Rke92,Rke33,Rke45,Rke100,Rke19],[]),10,Rkc5,[16],0),
  (21,(Rkl56,[Rke101,Rke45,Rke100,Rke19],[]),9,Rkc5,[17],0),
  (22,(Rkl56,[Rke47,Rke100,Rke19],[]),8,Rkc5,[18],0),
  (23,(Rkl56,[Rke19,Rke47,Rke100,Rke19],[]),7,Rkc5,[21,19],0),
  (26,(Rkl56,[Rke100,Rke19],[]),4,Rkc5,[20],0),
  (28,(Rkl56,[Rke9,Rke100,Rke19],[]),3,Rkc5,[23],0),
  (31,(Rkl56,[Rke100,Rke19],[]),6,Rkc5,[22],0),
  (32,(Rkl56,[Rke21,Rke100,Rke19],[]),5,Rkc5,[24],0),
  (32,(Rkl56,[Rke9,Rke100,Rke19],[]),2,Rkc5,[24],0),
  (33,(Rkl56,[Rke102,Rke19],[]),1,Rkc5,[25],0),
  (34,(Rkl56,[Rke103],[]),0,Rkc5,[],0)]
def CNR25 : List (List ND) := [CNR25_0]
theorem CKR25 : chkS prot SMsR SMR25 [] CNR25 = true := by decide +kernel
-- OneSidedModel.personOf [(182, 182), (0, 5), (0, 0)]
def Rkl72 : AL := [some Rka0,some Rka44,some Rka21]
def Rke104 : SE := (Rka47,pv0)
def CNR26_0 : List ND := [(0,(Rkl72,[],[]),10,Rkc5,[1],0),
  (1,(Rkl72,[Rke13],[]),9,Rkc5,[2],0),
  (4,(Rkl72,[Rke24],[]),8,Rkc5,[3],0),
  (6,(Rkl72,[Rke53,Rke24],[]),7,Rkc5,[4],0),
  (7,(Rkl72,[Rke32,Rke53,Rke24],[]),6,Rkc5,[5],0),
  (8,(Rkl72,[Rke54,Rke32,Rke53,Rke24],[]),5,Rkc5,[6],0),
  (9,(Rkl72,[Rke55,Rke53,Rke24],[]),4,Rkc5,[7],0),
  (10,(Rkl72,[Rke56,Rke24],[]),3,Rkc5,[8],0),
  (11,(Rkl72,[Rke90,Rke56,Rke24],[]),2,Rkc5,[9],0),
  (12,(Rkl72,[Rke56,Rke24],[]),1,Rkc5,[10],0),
  (13,(Rkl72,[Rke104],[]),0,Rkc5,[],0)]
def CNR26 : List (List ND) := [CNR26_0]
theorem CKR26 : chkS prot SMsR SMR26 [] CNR26 = true := by decide +kernel
-- OneSidedModel.personOf [(182, 182), (0, 5), (2, 2)]
def Rkl73 : AL := [some Rka0,some Rka44,some Rka42]
def Rke105 : SE := (Rka42,(1,2,0,0,0))
def Rka76 : AV := (0,118,138,4)
def Rke106 : SE := (Rka76,pv0)
def CNR27_0 : List ND := [(0,(Rkl73,[],[]),10,Rkc5,[1],0),
  (1,(Rkl73,[Rke13],[]),9,Rkc5,[2],0),
  (4,(Rkl73,[Rke24],[]),8,Rkc5,[3],0),
  (6,(Rkl73,[Rke53,Rke24],[]),7,Rkc5,[4],0),
  (7,(Rkl73,[Rke32,Rke53,Rke24],[]),6,Rkc5,[5],0),
  (8,(Rkl73,[Rke54,Rke32,Rke53,Rke24],[]),5,Rkc5,[6],0),
  (9,(Rkl73,[Rke55,Rke53,Rke24],[]),4,Rkc5,[7],0),
  (10,(Rkl73,[Rke56,Rke24],[]),3,Rkc5,[8],0),
  (11,(Rkl73,[Rke105,Rke56,Rke24],[]),2,Rkc5,[9],0),
  (12,(Rkl73,[Rke106,Rke24],[]),1,Rkc5,[10],0),
  (13,(Rkl73,[Rke100],[]),0,Rkc5,[],0)]
def CNR27 : List (List ND) := [CNR27_0]
theorem CKR27 : chkS prot SMsR SMR27 [] CNR27 = true := by decide +kernel
-- OneSidedModel.stepOf [(182, 182), (0, 0), (0, 5), (-2147483648, 2147483647), (0, 24)]
def Rkl74 : AL := [some Rka0,some Rka21,some Rka44,some Rka5,some Rka52,none,none,none,none,none]
def Rkc9 : List Int := [0,0,0,0,0,0,0,0,0,0]
def Rkl75 : AL := [some Rka0,some Rka21,some Rka44,some Rka5,some Rka52,some Rka5,none,none,none,none]
def Rka77 : AV := (0,0,20,1)
def Rkl76 : AL := [some Rka0,some Rka21,some Rka44,some Rka5,some Rka52,some Rka5,some Rka77,none,none,none]
def Rkc10 : List Int := [0,0,0,0,0,0,-833,0,0,0]
def Rkl77 : AL := [some Rka0,some Rka21,some Rka44,some Rka5,some Rka52,some Rka5,some Rka21,none,none,none]
def Rke107 : SE := (Rka21,(1,6,0,0,0))
def Rke108 : SE := (Rka77,(1,6,0,0,0))
def Rkl78 : AL := [some Rka0,some Rka21,some Rka44,some Rka5,some Rka52,some Rka5,some Rka74,none,none,none]
def Rkl79 : AL := [some Rka0,some Rka21,some Rka44,some Rka5,some Rka52,some Rka5,some Rka74,some Rka23,none,none]
def Rkc11 : List Int := [0,0,0,0,0,0,-833,-55,0,0]
def Rkl80 : AL := [some Rka0,some Rka21,some Rka44,some Rka5,some Rka52,some Rka5,some Rka21,some Rka21,none,none]
def Rke109 : SE := (Rka21,(1,7,0,0,0))
def Rke110 : SE := (Rka23,(1,7,0,0,0))
def Rkl81 : AL := [some Rka0,some Rka21,some Rka44,some Rka5,some Rka52,some Rka5,some Rka74,some Rka25,none,none]
def Rkl82 : AL := [some Rka0,some Rka21,some Rka44,some Rka5,some Rka52,some Rka5,some Rka21,some Rka25,none,none]
def Rke111 : SE := (Rka74,(1,6,0,0,0))
def Rke112 : SE := (Rka25,(1,7,0,0,0))
def Rke113 : SE := (Rka52,(1,4,0,0,0))
def Rkl83 : AL := [some Rka0,some Rka21,some Rka44,some Rka5,some Rka52,some Rka5,some Rka74,some Rka25,some Rka65,none]
def Rkl84 : AL := [some Rka0,some Rka21,some Rka44,some Rka5,some Rka52,some Rka5,some Rka21,some Rka25,some Rka65,none]
def Rkl85 : AL := [some Rka0,some Rka21,some Rka44,some Rka5,some Rka52,some Rka5,some Rka28,some Rka25,some Rka65,none]
def Rke114 : SE := (Rka65,(1,8,0,0,0))
def Rkl86 : AL := [some Rka0,some Rka21,some Rka44,some Rka5,some Rka52,some Rka5,some Rka74,some Rka25,some Rka65,some Rka39]
def Rke115 : SE := (Rka5,(1,5,0,0,0))
def Rkl87 : AL := [some Rka0,some Rka21,some Rka44,some Rka5,some Rka52,some Rka5,some Rka74,some Rka25,some Rka36,some Rka39]
def Rkl88 : AL := [some Rka0,some Rka21,some Rka44,some Rka5,some Rka52,some Rka5,some Rka74,some Rka25,some Rka28,some Rka39]
def Rke116 : SE := (Rka28,(1,8,0,0,0))
def Rke117 : SE := (Rka39,(1,9,0,0,0))
def Rkl89 : AL := [some Rka0,some Rka21,some Rka44,some Rka5,some Rka52,some Rka5,some Rka74,some Rka25,some Rka28,some Rka17]
def Rkl90 : AL := [some Rka0,some Rka21,some Rka44,some Rka5,some Rka52,some Rka5,some Rka74,some Rka25,some Rka28,some Rka21]
def Rkl91 : AL := [some Rka0,some Rka21,some Rka44,some Rka5,some Rka52,some Rka5,some Rka74,some Rka26,some Rka65,some Rka39]
def Rka78 : AV := (0,1,20,1)
def Rkl92 : AL := [some Rka0,some Rka21,some Rka44,some Rka5,some Rka52,some Rka5,some Rka78,some Rka23,none,none]
def Rkl93 : AL := [some Rka0,some Rka21,some Rka44,some Rka5,some Rka52,some Rka5,some Rka40,none,none,none]
def CNR28_0 : List ND := [(0,(Rkl74,[],[]),17498,Rkc9,[1],0),
  (1,(Rkl74,[Rke78],[]),17497,Rkc9,[2],0),
  (3,(Rkl75,[],[]),17496,Rkc9,[3],0),
  (4,(Rkl75,[Rke21],[]),17495,Rkc9,[4],0),
  (6,(Rkl76,[],[]),17493,Rkc10,[6],0),
  (8,(Rkl77,[Rke107],[]),17500,Rkc9,[7],0),
  (8,(Rkl76,[Rke108],[]),17492,Rkc10,[8],0),
  (10,(Rkl77,[Rke48,Rke107],[]),17499,Rkc9,[9],0),
  (10,(Rkl76,[Rke48,Rke108],[]),17491,Rkc10,[88,9],0),
  (13,(Rkl78,[],[]),17490,Rkc10,[10],0),
  (14,(Rkl78,[Rke21],[]),17489,Rkc10,[11],0),
  (16,(Rkl79,[],[]),17487,Rkc11,[13],0),
  (18,(Rkl80,[Rke109],[]),17503,Rkc9,[14],0),
  (18,(Rkl79,[Rke110],[]),17486,Rkc11,[15],0),
  (19,(Rkl80,[Rke13,Rke109],[]),17502,Rkc9,[16],2),
  (19,(Rkl79,[Rke13,Rke110],[]),17485,Rkc11,[17],2),
  (22,(Rkl80,[Rke25,Rke109],[]),17501,Rkc9,[86,18],0),
  (22,(Rkl79,[Rke25,Rke110],[]),17484,Rkc11,[86,18],0),
  (25,(Rkl81,[],Rkf2),17483,Rkc11,[19],0),
  (26,(Rkl81,[Rke78],Rkf2),17482,Rkc11,[21],0),
  (28,(Rkl82,[Rke107,Rke78],Rkf2),17504,Rkc9,[23,22],23),
  (28,(Rkl81,[Rke111,Rke78],Rkf2),17481,Rkc11,[23,22],23),
  (31,(Rkl81,[Rke21],Rkf2),16663,Rkc10,[86],0),
  (31,(Rkl81,[Rke19],Rkf2),17480,Rkc11,[24],0),
  (34,(Rkl81,[],Rkf2),17479,Rkc11,[25],0),
  (35,(Rkl81,[Rke13],Rkf2),17478,Rkc11,[26],0),
  (36,(Rkl81,[Rke29,Rke13],Rkf2),17477,Rkc11,[28],0),
  (38,(Rkl80,[Rke109,Rke29,Rke13],Rkf2),17513,Rkc9,[29],0),
  (38,(Rkl81,[Rke112,Rke29,Rke13],Rkf2),17476,Rkc11,[30],0),
  (39,(Rkl80,[Rke13,Rke109,Rke29,Rke13],Rkf2),17512,Rkc9,[31],0),
  (39,(Rkl81,[Rke13,Rke112,Rke29,Rke13],Rkf2),17475,Rkc11,[32],0),
  (40,(Rkl80,[Rke92,Rke13,Rke109,Rke29,Rke13],Rkf2),17511,Rkc9,[34],0),
  (40,(Rkl81,[Rke92,Rke13,Rke112,Rke29,Rke13],Rkf2),17474,Rkc11,[33],0),
  (41,(Rkl81,[Rke21,Rke92,Rke13,Rke112,Rke29,Rke13],Rkf2),17473,Rkc11,[36],26),
  (41,(Rkl80,[Rke21,Rke92,Rke13,Rke109,Rke29,Rke13],Rkf2),17510,Rkc9,[35],26),
  (44,(Rkl80,[Rke104,Rke109,Rke29,Rke13],Rkf2),17509,Rkc9,[38],0),
  (44,(Rkl81,[Rke104,Rke112,Rke29,Rke13],Rkf2),17472,Rkc11,[39],0),
  (46,(Rkl82,[Rke107,Rke104,Rke112,Rke29,Rke13],Rkf2),17517,Rkc9,[40],0),
  (46,(Rkl80,[Rke107,Rke104,Rke109,Rke29,Rke13],Rkf2),17508,Rkc9,[41],0),
  (46,(Rkl81,[Rke111,Rke104,Rke112,Rke29,Rke13],Rkf2),17471,Rkc11,[42],0),
  (48,(Rkl82,[Rke9,Rke107,Rke104,Rke112,Rke29,Rke13],Rkf2),17516,Rkc9,[43],0),
  (48,(Rkl80,[Rke9,Rke107,Rke104,Rke109,Rke29,Rke13],Rkf2),17507,Rkc9,[44],0),
  (48,(Rkl81,[Rke9,Rke111,Rke104,Rke112,Rke29,Rke13],Rkf2),17470,Rkc11,[45],0),
  (49,(Rkl82,[Rke21,Rke104,Rke112,Rke29,Rke13],Rkf2),17515,Rkc9,[46],0),
  (49,(Rkl80,[Rke21,Rke104,Rke109,Rke29,Rke13],Rkf2),17506,Rkc9,[47],0),
  (49,(Rkl81,[Rke100,Rke104,Rke112,Rke29,Rke13],Rkf2),17469,Rkc11,[48],0),
  (51,(Rkl82,[Rke113,Rke21,Rke104,Rke112,Rke29,Rke13],Rkf2),17514,Rkc9,[49],17),
  (51,(Rkl80,[Rke113,Rke21,Rke104,Rke109,Rke29,Rke13],Rkf2),17505,Rkc9,[49],17),
  (51,(Rkl81,[Rke113,Rke100,Rke104,Rke112,Rke29,Rke13],Rkf2),17468,Rkc11,[49],17),
  (54,(Rkl81,[Rke76],Rkf2),17467,Rkc11,[50],0),
  (56,(Rkl83,[],Rkf2),17466,Rkc11,[52],0),
  (58,(Rkl84,[Rke107],Rkf2),17519,Rkc9,[53],0),
  (58,(Rkl83,[Rke111],Rkf2),17465,Rkc11,[54],0),
  (60,(Rkl84,[Rke9,Rke107],Rkf2),17518,Rkc9,[55],0),
  (60,(Rkl83,[Rke9,Rke111],Rkf2),17464,Rkc11,[61,55],0),
  (63,(Rkl85,[],Rkf2),17463,Rkc11,[56],0),
  (65,(Rkl85,[Rke114],Rkf2),17462,Rkc11,[57],0),
  (66,(Rkl85,[Rke13,Rke114],Rkf2),17461,Rkc11,[58],0),
  (67,(Rkl85,[Rke92,Rke13,Rke114],Rkf2),17460,Rkc11,[59],0),
  (68,(Rkl85,[Rke50,Rke92,Rke13,Rke114],Rkf2),17459,Rkc11,[60],27),
  (71,(Rkl85,[Rke100,Rke114],Rkf2),17458,Rkc11,[63,61],0),
  (74,(Rkl83,[],Rkf2),17455,Rkc11,[62],0),
  (75,(Rkl83,[Rke19],Rkf2),17454,Rkc11,[65],0),
  (78,(Rkl85,[],Rkf2),17457,Rkc11,[64],0)]
def CNR28_1 : List ND := [(79,(Rkl85,[Rke21],Rkf2),17456,Rkc11,[66],0),
  (79,(Rkl83,[Rke19],Rkf2),17453,Rkc11,[66],0),
  (81,(Rkl86,[],Rkf2),17452,Rkc11,[67],0),
  (83,(Rkl86,[Rke115],Rkf2),17451,Rkc11,[68],0),
  (85,(Rkl86,[Rke114,Rke115],Rkf2),17450,Rkc11,[71,69],0),
  (88,(Rkl87,[Rke115],Rkf2),17438,Rkc11,[70],0),
  (89,(Rkl87,[Rke21,Rke115],Rkf2),17437,Rkc11,[81],0),
  (92,(Rkl88,[Rke115],Rkf2),17449,Rkc11,[72],0),
  (93,(Rkl88,[Rke19,Rke115],Rkf2),17448,Rkc11,[73],0),
  (95,(Rkl88,[Rke116,Rke19,Rke115],Rkf2),17447,Rkc11,[74],0),
  (97,(Rkl88,[Rke117,Rke116,Rke19,Rke115],Rkf2),17446,Rkc11,[77,75],0),
  (100,(Rkl89,[Rke116,Rke19,Rke115],Rkf2),17443,Rkc11,[76],0),
  (102,(Rkl89,[Rke9,Rke116,Rke19,Rke115],Rkf2),17442,Rkc11,[79],0),
  (105,(Rkl90,[Rke116,Rke19,Rke115],Rkf2),17445,Rkc11,[78],0),
  (106,(Rkl90,[Rke21,Rke116,Rke19,Rke115],Rkf2),17444,Rkc11,[80],0),
  (106,(Rkl89,[Rke9,Rke116,Rke19,Rke115],Rkf2),17441,Rkc11,[80],0),
  (107,(Rkl88,[Rke102,Rke19,Rke115],Rkf2),17440,Rkc11,[82],0),
  (108,(Rkl87,[Rke21,Rke115],Rkf2),17436,Rkc11,[83],0),
  (108,(Rkl88,[Rke103,Rke115],Rkf2),17439,Rkc11,[83],0),
  (109,(Rkl86,[Rke5],Rkf2),17435,Rkc11,[84],0),
  (111,(Rkl86,[],Rkf2),17434,Rkc11,[85],0),
  (114,(Rkl91,[],Rkf2),17488,Rkc11,[11],0),
  (117,(Rkl79,[],[]),16662,Rkc10,[87],0),
  (120,(Rkl92,[],[]),17494,Rkc10,[4],0),
  (123,(Rkl93,[],[]),1,Rkc9,[89],0),
  (125,(Rkl93,[Rke115],[]),0,Rkc9,[],0)]
def CNR28 : List (List ND) := [CNR28_0, CNR28_1]
theorem CKR28 : chkS prot SMsR SMR28 [] CNR28 = true := by decide +kernel
-- OneSidedModel.firstHour [(182, 182), (0, 0), (0, 5), (-2147483648, 2147483647)]
def Rkl94 : AL := [some Rka0,some Rka21,some Rka44,some Rka5,none,none]
def Rkl95 : AL := [some Rka0,some Rka21,some Rka44,some Rka5,some Rka75,none]
def Rke118 : SE := (Rka75,(1,4,0,0,0))
def Rka79 : AV := (0,0,524288,1)
def Rke119 : SE := (Rka79,pv0)
def Rkl96 : AL := [some Rka0,some Rka21,some Rka44,some Rka5,some Rka5,some Rka52]
def Rkc12 : List Int := [0,0,0,0,0,-36]
def Rke120 : SE := (Rka52,(1,5,0,0,0))
def Rkl97 : AL := [some Rka0,some Rka21,some Rka44,some Rka5,some Rka5,some Rka62]
def Rkl98 : AL := [some Rka0,some Rka21,some Rka44,some Rka5,some Rka5,some Rka68]
def Rkl99 : AL := [some Rka0,some Rka21,some Rka44,some Rka5,some Rka5,some Rka64]
def CNR29_0 : List ND := [(0,(Rkl94,[],[]),926,Rkc6,[1],0),
  (1,(Rkl94,[Rke13],[]),925,Rkc6,[2],0),
  (2,(Rkl94,[Rke29,Rke13],[]),924,Rkc6,[3],0),
  (3,(Rkl94,[Rke92,Rke29,Rke13],[]),923,Rkc6,[4],25),
  (6,(Rkl94,[Rke103],[]),922,Rkc6,[5],0),
  (8,(Rkl95,[],[]),921,Rkc6,[6],0),
  (10,(Rkl95,[Rke118],[]),920,Rkc6,[7],0),
  (11,(Rkl95,[Rke78,Rke118],[]),919,Rkc6,[8],0),
  (12,(Rkl95,[Rke119],[]),918,Rkc6,[16,9],0),
  (15,(Rkl95,[],[]),6,Rkc6,[10],0),
  (16,(Rkl95,[Rke13],[]),5,Rkc6,[11],0),
  (19,(Rkl95,[Rke45],[]),4,Rkc6,[12],0),
  (20,(Rkl95,[Rke29,Rke45],[]),3,Rkc6,[13],0),
  (21,(Rkl95,[Rke21,Rke29,Rke45],[]),2,Rkc6,[14],0),
  (22,(Rkl95,[Rke21,Rke45],[]),1,Rkc6,[15],0),
  (23,(Rkl95,[Rke86],[]),0,Rkc6,[],0),
  (24,(Rkl95,[],[]),917,Rkc6,[17],0),
  (25,(Rkl95,[Rke13],[]),916,Rkc6,[18],0),
  (28,(Rkl95,[Rke45],[]),915,Rkc6,[19],0),
  (29,(Rkl95,[Rke29,Rke45],[]),914,Rkc6,[20],0),
  (30,(Rkl95,[Rke21,Rke29,Rke45],[]),913,Rkc6,[21],0),
  (31,(Rkl95,[Rke21,Rke45],[]),912,Rkc6,[22],0),
  (32,(Rkl95,[Rke86],[]),911,Rkc6,[23],0),
  (34,(Rkl96,[],[]),909,Rkc12,[24],0),
  (36,(Rkl96,[Rke120],[]),908,Rkc12,[25],0),
  (38,(Rkl96,[Rke71,Rke120],[]),907,Rkc12,[61,26],0),
  (41,(Rkl97,[],[]),906,Rkc12,[27],0),
  (43,(Rkl97,[Rke75],[]),905,Rkc12,[28],0),
  (44,(Rkl97,[Rke13,Rke75],[]),904,Rkc12,[29],0),
  (47,(Rkl97,[Rke45,Rke75],[]),903,Rkc12,[30],0),
  (48,(Rkl97,[Rke29,Rke45,Rke75],[]),902,Rkc12,[31],0),
  (49,(Rkl97,[Rke21,Rke29,Rke45,Rke75],[]),901,Rkc12,[32],0),
  (50,(Rkl97,[Rke21,Rke45,Rke75],[]),900,Rkc12,[33],0),
  (51,(Rkl97,[Rke86,Rke75],[]),899,Rkc12,[46,34],0),
  (54,(Rkl97,[],Rkf5),898,Rkc12,[35],0),
  (55,(Rkl97,[Rke13],Rkf5),897,Rkc12,[36],0),
  (58,(Rkl97,[Rke45],Rkf5),896,Rkc12,[37],0),
  (59,(Rkl97,[Rke29,Rke45],Rkf5),895,Rkc12,[38],0),
  (61,(Rkl97,[Rke91,Rke29,Rke45],Rkf5),894,Rkc12,[39],0),
  (62,(Rkl97,[Rke91,Rke45],Rkf5),893,Rkc12,[40],0),
  (63,(Rkl97,[Rke92,Rke91,Rke45],Rkf5),892,Rkc12,[41],0),
  (64,(Rkl97,[Rke93,Rke45],Rkf5),891,Rkc12,[42],0),
  (65,(Rkl97,[Rke47],Rkf5),890,Rkc12,[43],0),
  (66,(Rkl97,[Rke19,Rke47],Rkf5),889,Rkc12,[46,44],0),
  (69,(Rkl97,[],Rkf5),888,Rkc12,[45],0),
  (71,(Rkl97,[Rke79],Rkf5),887,Rkc12,[52],0),
  (74,(Rkl97,[],[]),886,Rkc12,[47],0),
  (75,(Rkl97,[Rke13],[]),885,Rkc12,[48],0),
  (76,(Rkl97,[Rke29,Rke13],[]),884,Rkc12,[49],0),
  (77,(Rkl97,[Rke92,Rke29,Rke13],[]),883,Rkc12,[50],0),
  (79,(Rkl97,[Rke79,Rke92,Rke29,Rke13],[]),882,Rkc12,[51],0),
  (81,(Rkl97,[Rke75,Rke79,Rke92,Rke29,Rke13],[]),881,Rkc12,[52],28),
  (84,(Rkl97,[Rke5],[]),880,Rkc12,[53],0),
  (86,(Rkl97,[],[]),879,Rkc12,[54],0),
  (88,(Rkl97,[Rke79],[]),878,Rkc12,[55],0),
  (89,(Rkl97,[Rke78,Rke79],[]),877,Rkc12,[56],0),
  (90,(Rkl97,[Rke5],[]),876,Rkc12,[59,57],0),
  (93,(Rkl97,[],[]),8,Rkc6,[58],0),
  (95,(Rkl97,[Rke75],[]),7,Rkc6,[],0),
  (96,(Rkl97,[],[]),875,Rkc12,[60],0),
  (99,(Rkl98,[],[]),910,Rkc12,[23],0),
  (102,(Rkl99,[],[]),10,Rkc6,[62],0),
  (103,(Rkl99,[Rke42],[]),9,Rkc6,[],0)]
def CNR29 : List (List ND) := [CNR29_0]
theorem CKR29 : chkS prot SMsR SMR29 [] CNR29 = true := by decide +kernel
