/-! LM, by program: certificates R 2 -/
-- OneSidedModel.told [(182, 182), (-2147483648, 2147483647), (-2147483648, 2147483647), (0, 1)]
def Rkl187 : AL := [some Rka0,some Rka5,some Rka5,some Rka39,none]
def Rkl188 : AL := [some Rka0,some Rka28,some Rka5,some Rka39,none]
def Rkl189 : AL := [some Rka0,some Rka28,some Rka28,some Rka39,none]
def Rka97 : AV := (0,34,34,0)
def Rke170 : SE := (Rka97,pv0)
def Rke171 : SE := (Rka59,(2,198,34,0,0))
def Rkf13 : FA := [(182,0,Rka21),(198,34,Rka28)]
def Rka98 : AV := (0,35,35,0)
def Rke172 : SE := (Rka98,pv0)
def Rke173 : SE := (Rka28,(2,198,34,0,0))
def Rka99 : AV := (0,0,27,3)
def Rke174 : SE := (Rka99,pv0)
def Rka100 : AV := (0,35,62,3)
def Rke175 : SE := (Rka100,pv0)
def Rkl190 : AL := [some Rka0,some Rka28,some Rka28,some Rka39,some Rka100]
def Rke176 : SE := (Rka100,(1,4,0,0,0))
def Rka101 : AV := (0,36,63,3)
def Rke177 : SE := (Rka101,pv0)
def Rka102 : AV := (0,37,64,3)
def Rke178 : SE := (Rka102,pv0)
def Rke179 : SE := (Rka39,(1,3,0,0,0))
def Rkl191 : AL := [some Rka0,some Rka28,some Rka28,some Rka17,some Rka100]
def Rkl192 : AL := [some Rka0,some Rka28,some Rka28,some Rka21,some Rka100]
def Rke180 : SE := (Rka60,pv0)
def Rkf14 : FA := [(182,0,Rka21),(198,34,Rka60)]
def CNR46_0 : List ND := [(0,(Rkl187,[],[]),66,Rkc0,[1],0),
  (1,(Rkl187,[Rke13],[]),65,Rkc0,[2],0),
  (2,(Rkl187,[Rke21,Rke13],[]),64,Rkc0,[3],0),
  (5,(Rkl187,[],Rkf1),63,Rkc0,[4],0),
  (6,(Rkl187,[Rke13],Rkf1),62,Rkc0,[5],0),
  (7,(Rkl187,[Rke26,Rke13],Rkf1),61,Rkc0,[7,6],14),
  (10,(Rkl187,[Rke21],Rkf1),60,Rkc0,[22],0),
  (10,(Rkl188,[Rke19],Rkf1),59,Rkc0,[8],0),
  (13,(Rkl188,[],Rkf1),58,Rkc0,[9],0),
  (14,(Rkl188,[Rke13],Rkf1),57,Rkc0,[10],0),
  (15,(Rkl188,[Rke40,Rke13],Rkf1),56,Rkc0,[12,11],14),
  (18,(Rkl188,[Rke21],Rkf1),55,Rkc0,[22],0),
  (18,(Rkl189,[Rke19],Rkf1),54,Rkc0,[13],0),
  (21,(Rkl189,[],Rkf1),53,Rkc0,[14],0),
  (22,(Rkl189,[Rke149],Rkf1),52,Rkc0,[15],0),
  (23,(Rkl189,[Rke43,Rke149],Rkf1),51,Rkc0,[22,16],0),
  (26,(Rkl189,[],Rkf1),50,Rkc0,[17],0),
  (27,(Rkl189,[Rke13],Rkf1),49,Rkc0,[18],0),
  (30,(Rkl189,[Rke45],Rkf1),48,Rkc0,[19],0),
  (32,(Rkl189,[Rke170,Rke45],Rkf1),47,Rkc0,[20],0),
  (33,(Rkl189,[Rke171],Rkf1),46,Rkc0,[21],0),
  (35,(Rkl189,[Rke9,Rke171],Rkf1),45,Rkc0,[24,22],0),
  (38,(Rkl187,[],Rkf1),1,Rkc0,[23],0),
  (39,(Rkl187,[Rke21],Rkf1),0,Rkc0,[],0),
  (40,(Rkl189,[],Rkf13),44,Rkc0,[25],0),
  (42,(Rkl189,[Rke172],Rkf13),43,Rkc0,[26],0),
  (43,(Rkl189,[Rke77,Rke172],Rkf13),42,Rkc0,[27],0),
  (44,(Rkl189,[Rke13,Rke77,Rke172],Rkf13),41,Rkc0,[28],0),
  (47,(Rkl189,[Rke45,Rke77,Rke172],Rkf13),40,Rkc0,[29],0),
  (49,(Rkl189,[Rke170,Rke45,Rke77,Rke172],Rkf13),39,Rkc0,[30],0),
  (50,(Rkl189,[Rke173,Rke77,Rke172],Rkf13),38,Rkc0,[31],0),
  (51,(Rkl189,[Rke174,Rke172],Rkf13),37,Rkc0,[32],0),
  (52,(Rkl189,[Rke175],Rkf13),36,Rkc0,[33],0),
  (54,(Rkl190,[],Rkf13),35,Rkc0,[34],0),
  (55,(Rkl190,[Rke13],Rkf13),34,Rkc0,[35],0),
  (58,(Rkl190,[Rke45],Rkf13),33,Rkc0,[36],0),
  (60,(Rkl190,[Rke176,Rke45],Rkf13),32,Rkc0,[37],0),
  (61,(Rkl190,[Rke149,Rke176,Rke45],Rkf13),31,Rkc0,[38],0),
  (62,(Rkl190,[],Rkf13),30,Rkc0,[39],0),
  (63,(Rkl190,[Rke13],Rkf13),29,Rkc0,[40],0),
  (66,(Rkl190,[Rke45],Rkf13),28,Rkc0,[41],0),
  (68,(Rkl190,[Rke176,Rke45],Rkf13),27,Rkc0,[42],0),
  (69,(Rkl190,[Rke19,Rke176,Rke45],Rkf13),26,Rkc0,[43],0),
  (70,(Rkl190,[Rke177,Rke45],Rkf13),25,Rkc0,[44],0),
  (71,(Rkl190,[Rke43,Rke177,Rke45],Rkf13),24,Rkc0,[45],0),
  (72,(Rkl190,[],Rkf13),23,Rkc0,[46],0),
  (73,(Rkl190,[Rke13],Rkf13),22,Rkc0,[47],0),
  (76,(Rkl190,[Rke45],Rkf13),21,Rkc0,[48],0),
  (78,(Rkl190,[Rke176,Rke45],Rkf13),20,Rkc0,[49],0),
  (79,(Rkl190,[Rke50,Rke176,Rke45],Rkf13),19,Rkc0,[50],0),
  (80,(Rkl190,[Rke178,Rke45],Rkf13),18,Rkc0,[51],0),
  (81,(Rkl190,[Rke179,Rke178,Rke45],Rkf13),17,Rkc0,[54,52],0),
  (84,(Rkl191,[Rke178,Rke45],Rkf13),14,Rkc0,[53],0),
  (85,(Rkl191,[Rke19,Rke178,Rke45],Rkf13),13,Rkc0,[56],0),
  (88,(Rkl192,[Rke178,Rke45],Rkf13),16,Rkc0,[55],0),
  (89,(Rkl192,[Rke21,Rke178,Rke45],Rkf13),15,Rkc0,[57],0),
  (89,(Rkl191,[Rke19,Rke178,Rke45],Rkf13),12,Rkc0,[57],0),
  (90,(Rkl190,[],Rkf13),11,Rkc0,[58],0),
  (91,(Rkl190,[Rke13],Rkf13),10,Rkc0,[59],0),
  (94,(Rkl190,[Rke45],Rkf13),9,Rkc0,[60],0),
  (96,(Rkl190,[Rke170,Rke45],Rkf13),8,Rkc0,[61],0),
  (97,(Rkl190,[Rke170,Rke45,Rke170,Rke45],Rkf13),7,Rkc0,[62],0),
  (98,(Rkl190,[Rke173,Rke170,Rke45],Rkf13),6,Rkc0,[63],0),
  (99,(Rkl190,[Rke19,Rke173,Rke170,Rke45],Rkf13),5,Rkc0,[64],0)]
def CNR46_1 : List ND := [(100,(Rkl190,[Rke180,Rke170,Rke45],Rkf13),4,Rkc0,[65],0),
  (101,(Rkl190,[],Rkf14),3,Rkc0,[66],0),
  (102,(Rkl190,[Rke19],Rkf14),2,Rkc0,[],1)]
def CNR46 : List (List ND) := [CNR46_0, CNR46_1]
theorem CKR46 : chkS prot SMsR SMR46 [(1,1),(2,2)] CNR46 = true := by decide +kernel
-- OneSidedModel.within [(-2147483648, 2147483647), (0, 0), (4, 4)]
def Rkl193 : AL := [some Rka5,some Rka21,some Rka30]
def Rkl194 : AL := [some Rka24,some Rka21,some Rka30]
def Rke181 : SE := (Rka30,(1,2,0,0,0))
def Rka103 : AV := (0,0,4,1)
def Rkl195 : AL := [some Rka103,some Rka21,some Rka30]
def CNR47_0 : List ND := [(0,(Rkl193,[],[]),10,Rkc5,[1],0),
  (1,(Rkl193,[Rke28],[]),9,Rkc5,[2],0),
  (2,(Rkl193,[Rke29,Rke28],[]),8,Rkc5,[8,3],0),
  (5,(Rkl194,[],[]),7,Rkc5,[4],0),
  (6,(Rkl194,[Rke30],[]),6,Rkc5,[5],0),
  (7,(Rkl194,[Rke181,Rke30],[]),5,Rkc5,[8,6],0),
  (10,(Rkl195,[],[]),4,Rkc5,[7],0),
  (11,(Rkl195,[Rke19],[]),3,Rkc5,[10],0),
  (14,(Rkl193,[],[]),1,Rkc5,[9],0),
  (15,(Rkl193,[Rke21],[]),0,Rkc5,[],1),
  (15,(Rkl195,[Rke19],[]),2,Rkc5,[],0)]
def CNR47 : List (List ND) := [CNR47_0]
theorem CKR47 : chkS prot SMsR SMR47 [(0,0)] CNR47 = true := by decide +kernel
-- OneSidedModel.laysNow [(182, 182), (-2147483648, 2147483647)]
def Rkl196 : AL := [some Rka0,some Rka5,some Rka59]
def Rkc24 : List Int := [0,0,-10]
def Rkl197 : AL := [some Rka0,some Rka5,some Rka21]
def Rke182 : SE := (Rka59,(1,2,0,0,0))
def Rkl198 : AL := [some Rka0,some Rka5,some Rka28]
def Rkl199 : AL := [some Rka0,some Rka5,some Rka60]
def Rkl200 : AL := [some Rka0,some Rka5,some Rka8]
def CNR48_0 : List ND := [(0,(Rkl63,[],[]),127,Rkc5,[1],0),
  (1,(Rkl63,[Rke21],[]),126,Rkc5,[2],0),
  (2,(Rkl196,[],[]),124,Rkc24,[4],0),
  (3,(Rkl197,[Rke90],[]),129,Rkc5,[5],0),
  (3,(Rkl196,[Rke182],[]),123,Rkc24,[6],0),
  (5,(Rkl197,[Rke9,Rke90],[]),128,Rkc5,[7],0),
  (5,(Rkl196,[Rke9,Rke182],[]),122,Rkc24,[16,7],0),
  (8,(Rkl198,[],[]),121,Rkc24,[8],0),
  (9,(Rkl198,[Rke13],[]),120,Rkc24,[9],0),
  (12,(Rkl198,[Rke135],[]),119,Rkc24,[11],0),
  (13,(Rkl197,[Rke90,Rke135],[]),131,Rkc5,[12],0),
  (13,(Rkl198,[Rke43,Rke135],[]),118,Rkc24,[13],0),
  (14,(Rkl197,[Rke21,Rke90,Rke135],[]),130,Rkc5,[14],0),
  (14,(Rkl198,[Rke21,Rke43,Rke135],[]),117,Rkc24,[14],0),
  (15,(Rkl198,[],[]),116,Rkc24,[15],0),
  (18,(Rkl199,[],[]),125,Rkc24,[2],0),
  (21,(Rkl200,[],[]),15,Rkc5,[17],0),
  (22,(Rkl200,[Rke13],[]),14,Rkc5,[18],0),
  (25,(Rkl200,[Rke45],[]),13,Rkc5,[19],0),
  (26,(Rkl200,[Rke21,Rke45],[]),12,Rkc5,[20],0),
  (27,(Rkl200,[Rke86],[]),11,Rkc5,[21],0),
  (29,(Rkl200,[Rke71,Rke86],[]),10,Rkc5,[31,22],0),
  (32,(Rkl200,[],Rkf5),9,Rkc5,[23],0),
  (33,(Rkl200,[Rke13],Rkf5),8,Rkc5,[24],0),
  (34,(Rkl200,[Rke21,Rke13],Rkf5),7,Rkc5,[25],0),
  (35,(Rkl200,[Rke13,Rke21,Rke13],Rkf5),6,Rkc5,[26],0),
  (38,(Rkl200,[Rke45,Rke21,Rke13],Rkf5),5,Rkc5,[27],0),
  (39,(Rkl200,[Rke21,Rke45,Rke21,Rke13],Rkf5),4,Rkc5,[28],0),
  (40,(Rkl200,[Rke87,Rke21,Rke13],Rkf5),3,Rkc5,[29],0),
  (41,(Rkl200,[Rke26,Rke87,Rke21,Rke13],Rkf5),2,Rkc5,[30],0),
  (42,(Rkl200,[Rke21,Rke26,Rke87,Rke21,Rke13],Rkf5),1,Rkc5,[31],36),
  (45,(Rkl200,[],[]),0,Rkc5,[],0)]
def CNR48 : List (List ND) := [CNR48_0]
theorem CKR48 : chkS prot SMsR SMR48 [] CNR48 = true := by decide +kernel
-- OneSidedModel.looks [(182, 182), (-2147483648, 2147483647)]
def Rkl201 : AL := [some Rka0,some Rka5,none,none,none]
def Rkl202 : AL := [some Rka0,some Rka5,some Rka17,none,none]
def Rkl203 : AL := [some Rka0,some Rka5,some Rka17,some Rka59,none]
def Rkc25 : List Int := [0,0,0,-13,0]
def Rkl204 : AL := [some Rka0,some Rka5,some Rka17,some Rka21,none]
def Rkl205 : AL := [some Rka0,some Rka5,some Rka17,some Rka28,none]
def Rka104 : AV := (2,209,209,0)
def Rke183 : SE := (Rka104,(2,182,44,0,0))
def Rkl206 : AL := [some Rka0,some Rka5,some Rka17,some Rka60,none]
def Rkl207 : AL := [some Rka0,some Rka5,some Rka39,some Rka59,none]
def Rkc26 : List Int := [0,0,0,-61,0]
def Rkl208 : AL := [some Rka0,some Rka5,some Rka39,some Rka28,none]
def Rkf15 : FA := [(198,34,Rka60)]
def Rkl209 : AL := [some Rka0,some Rka5,some Rka39,some Rka28,some Rka100]
def Rkl210 : AL := [some Rka0,some Rka5,some Rka17,some Rka21,some Rka98]
def Rkl211 : AL := [some Rka0,some Rka5,some Rka17,some Rka28,some Rka100]
def Rkl212 : AL := [some Rka0,some Rka5,some Rka39,some Rka60,some Rka100]
def Rke184 : SE := (Rka5,(2,182,45,0,0))
def Rke185 : SE := (Rka5,(2,182,46,0,0))
def Rke186 : SE := (Rka5,(2,182,47,0,0))
def Rke187 : SE := (Rka5,(2,182,48,0,0))
def Rkf16 : FA := [(182,48,Rka24)]
def Rke188 : SE := (Rka24,(2,182,48,0,0))
def Rka105 : AV := (0,0,100,1)
def Rkl213 : AL := [some Rka0,some Rka5,some Rka17,some Rka105,none]
def Rkc27 : List Int := [0,0,0,-34,0]
def Rke189 : SE := (Rka105,(1,3,0,0,0))
def Rka106 : AV := (0,100,100,0)
def Rke190 : SE := (Rka106,pv0)
def Rka107 : AV := (0,0,99,1)
def Rkl214 : AL := [some Rka0,some Rka5,some Rka17,some Rka107,none]
def Rka108 : AV := (2,208,208,0)
def Rke191 : SE := (Rka108,(2,182,43,0,0))
def Rke192 : SE := (Rka107,(1,3,0,0,0))
def Rke193 : SE := (Rka5,(2,208,0,0,0))
def Rke194 : SE := (Rka5,(2,209,0,0,0))
def Rka109 : AV := (0,1,100,1)
def Rkl215 : AL := [some Rka0,some Rka5,some Rka17,some Rka109,none]
def Rkl216 : AL := [some Rka0,some Rka5,some Rka39,some Rka105,none]
def CNR49_0 : List ND := [(0,(Rkl201,[],[]),4301,Rkc0,[1],0),
  (1,(Rkl201,[Rke13],[]),4300,Rkc0,[2],0),
  (2,(Rkl201,[Rke13,Rke13],[]),4299,Rkc0,[3],0),
  (5,(Rkl201,[Rke45,Rke13],[]),4298,Rkc0,[4],0),
  (6,(Rkl201,[Rke19,Rke45,Rke13],[]),4297,Rkc0,[5],0),
  (7,(Rkl201,[Rke46,Rke13],[]),4296,Rkc0,[6],0),
  (8,(Rkl201,[Rke26,Rke46,Rke13],[]),4295,Rkc0,[7],0),
  (9,(Rkl201,[Rke42,Rke26,Rke46,Rke13],[]),4294,Rkc0,[8],0),
  (10,(Rkl201,[Rke5,Rke46,Rke13],[]),4293,Rkc0,[9],0),
  (11,(Rkl201,[Rke5,Rke13],[]),4292,Rkc0,[10],48),
  (14,(Rkl201,[],[]),4291,Rkc0,[11],0),
  (15,(Rkl201,[Rke19],[]),4290,Rkc0,[12],0),
  (16,(Rkl202,[],[]),4289,Rkc0,[13],0),
  (17,(Rkl202,[Rke21],[]),4288,Rkc0,[14],0),
  (18,(Rkl203,[],[]),4286,Rkc25,[16],0),
  (19,(Rkl204,[Rke145],[]),4304,Rkc0,[17],0),
  (19,(Rkl203,[Rke146],[]),4285,Rkc25,[18],0),
  (20,(Rkl204,[Rke13,Rke145],[]),4303,Rkc0,[19],13),
  (20,(Rkl203,[Rke13,Rke146],[]),4284,Rkc25,[20],13),
  (23,(Rkl204,[Rke68,Rke145],[]),4302,Rkc0,[34,21],0),
  (23,(Rkl203,[Rke68,Rke146],[]),4283,Rkc25,[34,21],0),
  (26,(Rkl205,[],Rkf4),4282,Rkc25,[22],0),
  (27,(Rkl205,[Rke13],Rkf4),4281,Rkc25,[23],0),
  (30,(Rkl205,[Rke183],Rkf4),4280,Rkc25,[25],0),
  (31,(Rkl204,[Rke145,Rke183],Rkf4),4308,Rkc0,[26],0),
  (31,(Rkl205,[Rke81,Rke183],Rkf4),4279,Rkc25,[27],0),
  (32,(Rkl204,[Rke13,Rke145,Rke183],Rkf4),4307,Rkc0,[28],0),
  (32,(Rkl205,[Rke13,Rke81,Rke183],Rkf4),4278,Rkc25,[29],0),
  (33,(Rkl204,[Rke145,Rke13,Rke145,Rke183],Rkf4),4306,Rkc0,[30],37),
  (33,(Rkl205,[Rke81,Rke13,Rke81,Rke183],Rkf4),4277,Rkc25,[31],37),
  (36,(Rkl204,[Rke148,Rke145,Rke183],Rkf4),4305,Rkc0,[32],0),
  (36,(Rkl205,[Rke148,Rke81,Rke183],Rkf4),4276,Rkc25,[32],0),
  (37,(Rkl205,[],Rkf4),4275,Rkc25,[33],0),
  (40,(Rkl206,[],Rkf4),4287,Rkc25,[14],0),
  (43,(Rkl203,[],[]),4144,Rkc0,[35],0),
  (44,(Rkl203,[Rke21],[]),4143,Rkc0,[36],0),
  (45,(Rkl207,[],[]),4141,Rkc26,[38],0),
  (46,(Rkl204,[Rke145],[]),4313,Rkc0,[39],0),
  (46,(Rkl207,[Rke146],[]),4140,Rkc26,[40],0),
  (47,(Rkl204,[Rke13,Rke145],[]),4312,Rkc0,[41],0),
  (47,(Rkl207,[Rke13,Rke146],[]),4139,Rkc26,[42],0),
  (50,(Rkl204,[Rke45,Rke145],[]),4311,Rkc0,[43],0),
  (50,(Rkl207,[Rke45,Rke146],[]),4138,Rkc26,[44],0),
  (52,(Rkl204,[Rke170,Rke45,Rke145],[]),4310,Rkc0,[45],0),
  (52,(Rkl207,[Rke170,Rke45,Rke146],[]),4137,Rkc26,[46],0),
  (53,(Rkl204,[Rke171,Rke145],[]),4309,Rkc0,[105,47],0),
  (53,(Rkl207,[Rke171,Rke146],[]),4136,Rkc26,[105,47],0),
  (56,(Rkl208,[],Rkf15),4135,Rkc26,[48],0),
  (58,(Rkl208,[Rke172],Rkf15),4134,Rkc26,[49],0),
  (59,(Rkl208,[Rke77,Rke172],Rkf15),4133,Rkc26,[51],0),
  (60,(Rkl204,[Rke145,Rke77,Rke172],Rkf15),4315,Rkc0,[52],0),
  (60,(Rkl208,[Rke81,Rke77,Rke172],Rkf15),4132,Rkc26,[53],0),
  (61,(Rkl204,[Rke21,Rke172],Rkf15),4314,Rkc0,[54],0),
  (61,(Rkl208,[Rke174,Rke172],Rkf15),4131,Rkc26,[54],0),
  (62,(Rkl208,[Rke175],Rkf15),4130,Rkc26,[55],0),
  (64,(Rkl209,[],Rkf15),4129,Rkc26,[57],0),
  (65,(Rkl210,[Rke129],Rkf15),4316,Rkc0,[58],0),
  (65,(Rkl209,[Rke97],Rkf15),4128,Rkc26,[100,58],0),
  (68,(Rkl211,[],Rkf15),4127,Rkc26,[59],0),
  (69,(Rkl211,[Rke13],Rkf15),4126,Rkc26,[60],0),
  (72,(Rkl211,[Rke183],Rkf15),4125,Rkc26,[61],0),
  (73,(Rkl211,[Rke13,Rke183],Rkf15),4124,Rkc26,[62],0),
  (76,(Rkl211,[Rke45,Rke183],Rkf15),4123,Rkc26,[63],0),
  (78,(Rkl211,[Rke176,Rke45,Rke183],Rkf15),4122,Rkc26,[64],0)]
def CNR49_1 : List ND := [(79,(Rkl211,[Rke100,Rke183],Rkf15),4121,Rkc26,[65],0),
  (80,(Rkl211,[Rke5],Rkf15),4120,Rkc26,[66],0),
  (81,(Rkl211,[Rke13,Rke5],Rkf15),4119,Rkc26,[67],0),
  (84,(Rkl211,[Rke45,Rke5],Rkf15),4118,Rkc26,[68],0),
  (86,(Rkl211,[Rke176,Rke45,Rke5],Rkf15),4117,Rkc26,[69],0),
  (87,(Rkl211,[Rke19,Rke176,Rke45,Rke5],Rkf15),4116,Rkc26,[70],0),
  (88,(Rkl211,[Rke177,Rke45,Rke5],Rkf15),4115,Rkc26,[71],0),
  (89,(Rkl211,[Rke100,Rke5],Rkf15),4114,Rkc26,[73,72],23),
  (92,(Rkl211,[Rke21],Rkf15),4100,Rkc26,[74],0),
  (92,(Rkl211,[Rke19],Rkf15),4113,Rkc26,[75],0),
  (93,(Rkl211,[Rke13,Rke21],Rkf15),4099,Rkc26,[76],0),
  (93,(Rkl211,[Rke13,Rke19],Rkf15),4112,Rkc26,[77],0),
  (96,(Rkl211,[Rke45,Rke21],Rkf15),4098,Rkc26,[78],0),
  (96,(Rkl211,[Rke45,Rke19],Rkf15),4111,Rkc26,[79],0),
  (98,(Rkl211,[Rke176,Rke45,Rke21],Rkf15),4097,Rkc26,[80],0),
  (98,(Rkl211,[Rke176,Rke45,Rke19],Rkf15),4110,Rkc26,[81],0),
  (99,(Rkl211,[Rke50,Rke176,Rke45,Rke21],Rkf15),4096,Rkc26,[82],0),
  (99,(Rkl211,[Rke50,Rke176,Rke45,Rke19],Rkf15),4109,Rkc26,[83],0),
  (100,(Rkl211,[Rke178,Rke45,Rke21],Rkf15),4095,Rkc26,[84],0),
  (100,(Rkl211,[Rke178,Rke45,Rke19],Rkf15),4108,Rkc26,[85],0),
  (101,(Rkl211,[Rke47,Rke21],Rkf15),4094,Rkc26,[86],0),
  (101,(Rkl211,[Rke47,Rke19],Rkf15),4107,Rkc26,[87],0),
  (102,(Rkl211,[Rke19,Rke47,Rke21],Rkf15),4093,Rkc26,[92,88],0),
  (102,(Rkl211,[Rke19,Rke47,Rke19],Rkf15),4106,Rkc26,[93,89],0),
  (105,(Rkl211,[Rke21],Rkf15),4087,Rkc26,[90],0),
  (105,(Rkl211,[Rke19],Rkf15),4103,Rkc26,[91],0),
  (106,(Rkl211,[Rke19,Rke21],Rkf15),4086,Rkc26,[95],0),
  (106,(Rkl211,[Rke19,Rke19],Rkf15),4102,Rkc26,[97],0),
  (109,(Rkl211,[Rke21],Rkf15),4092,Rkc26,[94],0),
  (109,(Rkl211,[Rke19],Rkf15),4105,Rkc26,[96],0),
  (110,(Rkl211,[Rke21,Rke21],Rkf15),4091,Rkc26,[98],0),
  (110,(Rkl211,[Rke19,Rke21],Rkf15),4085,Rkc26,[100],0),
  (110,(Rkl211,[Rke21,Rke19],Rkf15),4104,Rkc26,[100],0),
  (110,(Rkl211,[Rke19,Rke19],Rkf15),4101,Rkc26,[98],0),
  (113,(Rkl211,[],Rkf15),4090,Rkc26,[99],0),
  (114,(Rkl211,[Rke19],Rkf15),4089,Rkc26,[102],0),
  (117,(Rkl209,[],Rkf15),4084,Rkc26,[101],0),
  (118,(Rkl209,[Rke21],Rkf15),4083,Rkc26,[103],0),
  (118,(Rkl211,[Rke19],Rkf15),4088,Rkc26,[103],0),
  (119,(Rkl209,[],Rkf15),4082,Rkc26,[104],0),
  (122,(Rkl212,[],Rkf15),4142,Rkc26,[36],0),
  (125,(Rkl207,[],[]),3471,Rkc0,[106],0),
  (126,(Rkl207,[Rke97],[]),3470,Rkc0,[208,107],0),
  (129,(Rkl203,[],[]),3469,Rkc0,[108],0),
  (130,(Rkl203,[Rke13],[]),3468,Rkc0,[109],0),
  (131,(Rkl203,[Rke13,Rke13],[]),3467,Rkc0,[110],0),
  (134,(Rkl203,[Rke184,Rke13],[]),3466,Rkc0,[111],0),
  (135,(Rkl203,[Rke19,Rke184,Rke13],[]),3465,Rkc0,[112],0),
  (136,(Rkl203,[Rke5,Rke13],[]),3464,Rkc0,[113],0),
  (139,(Rkl203,[],[]),3463,Rkc0,[114],0),
  (140,(Rkl203,[Rke13],[]),3462,Rkc0,[115],0),
  (141,(Rkl203,[Rke13,Rke13],[]),3461,Rkc0,[116],0),
  (144,(Rkl203,[Rke185,Rke13],[]),3460,Rkc0,[117],0),
  (145,(Rkl203,[Rke26,Rke185,Rke13],[]),3459,Rkc0,[118],0),
  (146,(Rkl203,[Rke5,Rke13],[]),3458,Rkc0,[119],0),
  (149,(Rkl203,[],[]),3457,Rkc0,[120],0),
  (150,(Rkl203,[Rke13],[]),3456,Rkc0,[121],0),
  (151,(Rkl203,[Rke13,Rke13],[]),3455,Rkc0,[122],0),
  (154,(Rkl203,[Rke186,Rke13],[]),3454,Rkc0,[123],0),
  (155,(Rkl203,[Rke26,Rke186,Rke13],[]),3453,Rkc0,[124],0),
  (156,(Rkl203,[Rke5,Rke13],[]),3452,Rkc0,[125],0),
  (159,(Rkl203,[],[]),3451,Rkc0,[126],0),
  (160,(Rkl203,[Rke13],[]),3450,Rkc0,[127],0),
  (161,(Rkl203,[Rke13,Rke13],[]),3449,Rkc0,[128],0)]
def CNR49_2 : List ND := [(164,(Rkl203,[Rke187,Rke13],[]),3448,Rkc0,[135,129],0),
  (167,(Rkl203,[Rke13],Rkf16),3447,Rkc0,[130],0),
  (168,(Rkl203,[Rke26,Rke13],Rkf16),3446,Rkc0,[131],43),
  (171,(Rkl203,[Rke5,Rke13],Rkf16),3445,Rkc0,[132],0),
  (172,(Rkl203,[Rke13,Rke5,Rke13],Rkf16),3444,Rkc0,[133],0),
  (175,(Rkl203,[Rke188,Rke5,Rke13],Rkf16),3443,Rkc0,[134],43),
  (178,(Rkl203,[Rke5,Rke5,Rke13],Rkf16),3442,Rkc0,[137,135],0),
  (181,(Rkl203,[Rke13],[]),3439,Rkc0,[136],0),
  (182,(Rkl203,[Rke26,Rke13],[]),3438,Rkc0,[139],0),
  (185,(Rkl203,[Rke13],Rkf16),3441,Rkc0,[138],0),
  (186,(Rkl203,[Rke13,Rke13],Rkf16),3440,Rkc0,[139],0),
  (189,(Rkl203,[Rke5,Rke13],[]),3437,Rkc0,[140],0),
  (192,(Rkl203,[],[]),3436,Rkc0,[141],0),
  (193,(Rkl203,[Rke21],[]),3435,Rkc0,[142],0),
  (194,(Rkl213,[],[]),3433,Rkc27,[144],0),
  (195,(Rkl204,[Rke145],[]),4318,Rkc0,[145],0),
  (195,(Rkl213,[Rke189],[]),3432,Rkc27,[146],0),
  (197,(Rkl204,[Rke190,Rke145],[]),4317,Rkc0,[147],0),
  (197,(Rkl213,[Rke190,Rke189],[]),3431,Rkc27,[208,147],0),
  (200,(Rkl214,[],[]),3430,Rkc27,[148],0),
  (201,(Rkl214,[Rke13],[]),3429,Rkc27,[149],0),
  (204,(Rkl214,[Rke191],[]),3428,Rkc27,[151],0),
  (205,(Rkl204,[Rke145,Rke191],[]),4344,Rkc0,[152],0),
  (205,(Rkl214,[Rke192,Rke191],[]),3427,Rkc27,[153],0),
  (206,(Rkl204,[Rke145,Rke191,Rke145,Rke191],[]),4343,Rkc0,[154],0),
  (206,(Rkl214,[Rke192,Rke191,Rke192,Rke191],[]),3426,Rkc27,[155],0),
  (207,(Rkl204,[Rke193,Rke145,Rke191],[]),4342,Rkc0,[156],0),
  (207,(Rkl214,[Rke5,Rke192,Rke191],[]),3425,Rkc27,[157],0),
  (208,(Rkl204,[Rke145,Rke193,Rke145,Rke191],[]),4341,Rkc0,[158],0),
  (208,(Rkl214,[Rke192,Rke5,Rke192,Rke191],[]),3424,Rkc27,[159],0),
  (210,(Rkl204,[Rke9,Rke145,Rke193,Rke145,Rke191],[]),4340,Rkc0,[160],0),
  (210,(Rkl214,[Rke9,Rke192,Rke5,Rke192,Rke191],[]),3423,Rkc27,[162],0),
  (211,(Rkl204,[Rke21,Rke193,Rke145,Rke191],[]),4339,Rkc0,[163],0),
  (211,(Rkl205,[Rke21,Rke5,Rke81,Rke191],[]),4347,Rkc0,[164],0),
  (211,(Rkl214,[Rke100,Rke5,Rke192,Rke191],[]),3422,Rkc27,[165],0),
  (212,(Rkl204,[Rke13,Rke21,Rke193,Rke145,Rke191],[]),4338,Rkc0,[166],13),
  (212,(Rkl205,[Rke13,Rke21,Rke5,Rke81,Rke191],[]),4346,Rkc0,[167],13),
  (212,(Rkl214,[Rke13,Rke100,Rke5,Rke192,Rke191],[]),3421,Rkc27,[168],13),
  (215,(Rkl204,[Rke68,Rke21,Rke193,Rke145,Rke191],[]),4337,Rkc0,[198,169],0),
  (215,(Rkl205,[Rke68,Rke21,Rke5,Rke81,Rke191],[]),4345,Rkc0,[199,170],0),
  (215,(Rkl214,[Rke68,Rke100,Rke5,Rke192,Rke191],[]),3420,Rkc27,[199,170],0),
  (218,(Rkl204,[Rke193,Rke145,Rke191],Rkf4),4336,Rkc0,[171],0),
  (218,(Rkl214,[Rke5,Rke192,Rke191],Rkf4),3419,Rkc27,[172],0),
  (219,(Rkl204,[Rke13,Rke193,Rke145,Rke191],Rkf4),4335,Rkc0,[173],0),
  (219,(Rkl214,[Rke13,Rke5,Rke192,Rke191],Rkf4),3418,Rkc27,[174],0),
  (222,(Rkl204,[Rke183,Rke193,Rke145,Rke191],Rkf4),4334,Rkc0,[175],0),
  (222,(Rkl214,[Rke183,Rke5,Rke192,Rke191],Rkf4),3417,Rkc27,[176],0),
  (223,(Rkl204,[Rke145,Rke183,Rke193,Rke145,Rke191],Rkf4),4333,Rkc0,[177],0),
  (223,(Rkl214,[Rke192,Rke183,Rke5,Rke192,Rke191],Rkf4),3416,Rkc27,[178],0),
  (225,(Rkl204,[Rke9,Rke145,Rke183,Rke193,Rke145,Rke191],Rkf4),4332,Rkc0,[179],0),
  (225,(Rkl214,[Rke9,Rke192,Rke183,Rke5,Rke192,Rke191],Rkf4),3415,Rkc27,[181],0),
  (226,(Rkl204,[Rke21,Rke183,Rke193,Rke145,Rke191],Rkf4),4331,Rkc0,[182],0),
  (226,(Rkl205,[Rke21,Rke183,Rke5,Rke81,Rke191],Rkf4),4348,Rkc0,[183],0),
  (226,(Rkl214,[Rke100,Rke183,Rke5,Rke192,Rke191],Rkf4),3414,Rkc27,[183],0),
  (227,(Rkl204,[Rke194,Rke193,Rke145,Rke191],Rkf4),4330,Rkc0,[184],0),
  (227,(Rkl214,[Rke5,Rke5,Rke192,Rke191],Rkf4),3413,Rkc27,[185],0),
  (228,(Rkl204,[Rke145,Rke194,Rke193,Rke145,Rke191],Rkf4),4329,Rkc0,[186],0),
  (228,(Rkl214,[Rke192,Rke5,Rke5,Rke192,Rke191],Rkf4),3412,Rkc27,[187],0),
  (230,(Rkl204,[Rke9,Rke145,Rke194,Rke193,Rke145,Rke191],Rkf4),4328,Rkc0,[188],0),
  (230,(Rkl214,[Rke9,Rke192,Rke5,Rke5,Rke192,Rke191],Rkf4),3411,Rkc27,[189],0),
  (231,(Rkl204,[Rke21,Rke194,Rke193,Rke145,Rke191],Rkf4),4327,Rkc0,[191,190],23),
  (231,(Rkl214,[Rke100,Rke5,Rke5,Rke192,Rke191],Rkf4),3410,Rkc27,[193,192],23),
  (234,(Rkl204,[Rke21,Rke193,Rke145,Rke191],Rkf4),4326,Rkc0,[198],0),
  (234,(Rkl204,[Rke19,Rke193,Rke145,Rke191],Rkf4),4323,Rkc0,[194],0)]
def CNR49_3 : List ND := [(234,(Rkl214,[Rke21,Rke5,Rke192,Rke191],Rkf4),3409,Rkc27,[199],0),
  (234,(Rkl214,[Rke19,Rke5,Rke192,Rke191],Rkf4),3406,Rkc27,[195],0),
  (237,(Rkl204,[Rke193,Rke145,Rke191],Rkf4),4322,Rkc0,[196],0),
  (237,(Rkl214,[Rke5,Rke192,Rke191],Rkf4),3405,Rkc27,[197],0),
  (238,(Rkl204,[Rke19,Rke193,Rke145,Rke191],Rkf4),4321,Rkc0,[201],0),
  (238,(Rkl214,[Rke19,Rke5,Rke192,Rke191],Rkf4),3404,Rkc27,[203],0),
  (241,(Rkl204,[Rke193,Rke145,Rke191],[]),4325,Rkc0,[200],0),
  (241,(Rkl214,[Rke5,Rke192,Rke191],[]),3408,Rkc27,[202],0),
  (242,(Rkl204,[Rke21,Rke193,Rke145,Rke191],[]),4324,Rkc0,[204],0),
  (242,(Rkl204,[Rke19,Rke193,Rke145,Rke191],Rkf4),4320,Rkc0,[204],0),
  (242,(Rkl214,[Rke21,Rke5,Rke192,Rke191],[]),3407,Rkc27,[205],0),
  (242,(Rkl214,[Rke19,Rke5,Rke192,Rke191],Rkf4),3403,Rkc27,[205],0),
  (243,(Rkl204,[Rke5,Rke145,Rke191],[]),4319,Rkc0,[206],0),
  (243,(Rkl214,[Rke5,Rke192,Rke191],[]),3402,Rkc27,[206],0),
  (244,(Rkl214,[],[]),3401,Rkc27,[207],0),
  (247,(Rkl215,[],[]),3434,Rkc27,[142],0),
  (250,(Rkl216,[],[]),0,Rkc0,[],0)]
def CNR49 : List (List ND) := [CNR49_0, CNR49_1, CNR49_2, CNR49_3]
theorem CKR49 : chkS prot SMsR SMR49 [] CNR49 = true := by decide +kernel
-- OneSidedModel.tellsMost [(182, 182)]
def Rkl217 : AL := [some Rka0,none,none,none,none,none]
def Rkl218 : AL := [some Rka0,some Rka36,none,none,none,none]
def Rkl219 : AL := [some Rka0,some Rka36,some Rka21,none,none,none]
def Rka110 : AV := (0,-1,99,1)
def Rkl220 : AL := [some Rka0,some Rka110,some Rka24,some Rka105,none,none]
def Rkc28 : List Int := [0,0,0,-63,0,0]
def Rkl221 : AL := [some Rka0,some Rka36,some Rka21,some Rka21,none,none]
def Rkl222 : AL := [some Rka0,some Rka110,some Rka24,some Rka107,none,none]
def Rka111 : AV := (0,-1,6,1)
def Rkl223 : AL := [some Rka0,some Rka111,some Rka24,some Rka28,none,none]
def Rke195 : SE := (Rka60,(2,188,0,0,0))
def Rkl224 : AL := [some Rka0,some Rka110,some Rka24,some Rka107,some Rka39,none]
def Rkl225 : AL := [some Rka0,some Rka36,some Rka21,some Rka21,some Rka21,none]
def Rkf17 : FA := [(208,0,Rka92)]
def Rkf18 : FA := [(208,0,Rka5)]
def Rkl226 : AL := [some Rka0,some Rka110,some Rka24,some Rka107,some Rka39,some Rka5]
def Rkl227 : AL := [some Rka0,some Rka36,some Rka21,some Rka21,some Rka21,some Rka5]
def Rke196 : SE := (Rka39,(1,4,0,0,0))
def Rkl228 : AL := [some Rka0,some Rka110,some Rka24,some Rka107,some Rka17,some Rka5]
def Rkl229 : AL := [some Rka0,some Rka36,some Rka21,some Rka39,some Rka17,some Rka5]
def Rke197 : SE := (Rka24,(1,2,0,0,0))
def Rka112 : AV := (0,0,2147483646,1)
def Rkl230 : AL := [some Rka0,some Rka110,some Rka112,some Rka107,some Rka17,some Rka67]
def Rkl231 : AL := [some Rka0,some Rka107,some Rka112,some Rka107,some Rka17,some Rka67]
def Rke198 : SE := (Rka67,(1,5,0,0,0))
def Rkl232 : AL := [some Rka0,some Rka110,some Rka24,some Rka109,some Rka39,some Rka5]
def Rkl233 : AL := [some Rka0,some Rka110,some Rka24,some Rka106,none,none]
def Rke199 : SE := (Rka110,(1,1,0,0,0))
def CNR50_0 : List ND := [(0,(Rkl217,[],[]),6370,Rkc6,[1],0),
  (1,(Rkl217,[Rke42],[]),6369,Rkc6,[2],0),
  (2,(Rkl218,[],[]),6368,Rkc6,[3],0),
  (3,(Rkl218,[Rke21],[]),6367,Rkc6,[4],0),
  (4,(Rkl219,[],[]),6366,Rkc6,[5],0),
  (5,(Rkl219,[Rke21],[]),6365,Rkc6,[6],0),
  (6,(Rkl220,[],[]),6363,Rkc28,[8],0),
  (7,(Rkl221,[Rke145],[]),6372,Rkc6,[9],0),
  (7,(Rkl220,[Rke189],[]),6362,Rkc28,[10],0),
  (9,(Rkl221,[Rke190,Rke145],[]),6371,Rkc6,[11],0),
  (9,(Rkl220,[Rke190,Rke189],[]),6361,Rkc28,[96,11],0),
  (12,(Rkl222,[],[]),6360,Rkc28,[13],0),
  (13,(Rkl221,[Rke145],[]),6377,Rkc6,[14],0),
  (13,(Rkl222,[Rke192],[]),6359,Rkc28,[15],0),
  (15,(Rkl221,[Rke9,Rke145],[]),6376,Rkc6,[16],0),
  (15,(Rkl222,[Rke9,Rke192],[]),6358,Rkc28,[17],0),
  (16,(Rkl223,[Rke21],[]),6375,Rkc6,[18],0),
  (16,(Rkl222,[Rke100],[]),6357,Rkc28,[19],0),
  (17,(Rkl223,[Rke13,Rke21],[]),6374,Rkc6,[20],13),
  (17,(Rkl222,[Rke13,Rke100],[]),6356,Rkc28,[21],13),
  (20,(Rkl223,[Rke68,Rke21],[]),6373,Rkc6,[51,22],0),
  (20,(Rkl222,[Rke68,Rke100],[]),6355,Rkc28,[51,22],0),
  (23,(Rkl222,[],Rkf4),6354,Rkc28,[24],0),
  (24,(Rkl221,[Rke145],Rkf4),6382,Rkc6,[25],0),
  (24,(Rkl222,[Rke192],Rkf4),6353,Rkc28,[26],0),
  (26,(Rkl221,[Rke9,Rke145],Rkf4),6381,Rkc6,[27],0),
  (26,(Rkl222,[Rke9,Rke192],Rkf4),6352,Rkc28,[28],0),
  (27,(Rkl221,[Rke21],Rkf4),6380,Rkc6,[29],0),
  (27,(Rkl222,[Rke100],Rkf4),6351,Rkc28,[30],0),
  (28,(Rkl221,[Rke13,Rke21],Rkf4),6379,Rkc6,[31],13),
  (28,(Rkl222,[Rke13,Rke100],Rkf4),6350,Rkc28,[32],13),
  (31,(Rkl221,[Rke195,Rke21],Rkf4),6378,Rkc6,[33],0),
  (31,(Rkl222,[Rke195,Rke100],Rkf4),6349,Rkc28,[51,33],0),
  (34,(Rkl222,[],Rkf4),6348,Rkc28,[35],0),
  (35,(Rkl221,[Rke145],Rkf4),6388,Rkc6,[36],0),
  (35,(Rkl222,[Rke192],Rkf4),6347,Rkc28,[37],0),
  (37,(Rkl221,[Rke9,Rke145],Rkf4),6387,Rkc6,[38],0),
  (37,(Rkl222,[Rke9,Rke192],Rkf4),6346,Rkc28,[39],0),
  (38,(Rkl223,[Rke21],Rkf4),6386,Rkc6,[41],0),
  (38,(Rkl222,[Rke100],Rkf4),6345,Rkc28,[42],0),
  (39,(Rkl221,[Rke145,Rke21],Rkf4),6391,Rkc6,[43],0),
  (39,(Rkl223,[Rke81,Rke21],Rkf4),6385,Rkc6,[44],0),
  (39,(Rkl222,[Rke192,Rke100],Rkf4),6344,Rkc28,[45],0),
  (41,(Rkl221,[Rke9,Rke145,Rke21],Rkf4),6390,Rkc6,[46],0),
  (41,(Rkl223,[Rke9,Rke81,Rke21],Rkf4),6384,Rkc6,[47],0),
  (41,(Rkl222,[Rke9,Rke192,Rke100],Rkf4),6343,Rkc28,[48],0),
  (42,(Rkl221,[Rke21,Rke21],Rkf4),6389,Rkc6,[51],0),
  (42,(Rkl223,[Rke100,Rke21],Rkf4),6383,Rkc6,[51,49],0),
  (42,(Rkl222,[Rke100,Rke100],Rkf4),6342,Rkc28,[51,49],0),
  (45,(Rkl222,[],Rkf4),6339,Rkc28,[50],0),
  (46,(Rkl222,[Rke19],Rkf4),6338,Rkc28,[53],0),
  (49,(Rkl222,[],[]),6341,Rkc28,[52],0),
  (50,(Rkl222,[Rke21],[]),6340,Rkc28,[54],0),
  (50,(Rkl222,[Rke19],Rkf4),6337,Rkc28,[54],0),
  (52,(Rkl224,[],[]),6336,Rkc28,[55],0),
  (53,(Rkl224,[Rke13],[]),6335,Rkc28,[56],0),
  (56,(Rkl224,[Rke191],[]),6334,Rkc28,[58],0),
  (57,(Rkl225,[Rke145,Rke191],[]),6392,Rkc6,[59],0),
  (57,(Rkl224,[Rke192,Rke191],[]),6333,Rkc28,[59],0),
  (58,(Rkl224,[Rke5],[]),6332,Rkc28,[60],0),
  (59,(Rkl224,[Rke13,Rke5],[]),6331,Rkc28,[61],0),
  (62,(Rkl224,[Rke184,Rke5],[]),6330,Rkc28,[62],0),
  (63,(Rkl224,[Rke13,Rke184,Rke5],[]),6329,Rkc28,[63],0),
  (66,(Rkl224,[Rke191,Rke184,Rke5],[]),6328,Rkc28,[65],0)]
def CNR50_1 : List ND := [(67,(Rkl225,[Rke145,Rke191,Rke184,Rke193],[]),6393,Rkc6,[66],0),
  (67,(Rkl224,[Rke192,Rke191,Rke184,Rke5],[]),6327,Rkc28,[66],0),
  (68,(Rkl224,[Rke5,Rke184,Rke5],[]),6326,Rkc28,[67],0),
  (69,(Rkl224,[Rke5,Rke5],[]),6325,Rkc28,[74,68],0),
  (72,(Rkl224,[],[]),6317,Rkc28,[69],0),
  (73,(Rkl224,[Rke13],[]),6316,Rkc28,[70],0),
  (76,(Rkl224,[Rke191],[]),6315,Rkc28,[72],0),
  (77,(Rkl225,[Rke145,Rke191],Rkf17),6394,Rkc6,[73],0),
  (77,(Rkl224,[Rke192,Rke191],[]),6314,Rkc28,[73],0),
  (78,(Rkl224,[Rke5],[]),6313,Rkc28,[82],0),
  (81,(Rkl224,[],[]),6324,Rkc28,[75],0),
  (82,(Rkl224,[Rke13],[]),6323,Rkc28,[76],0),
  (85,(Rkl224,[Rke184],[]),6322,Rkc28,[77],0),
  (86,(Rkl224,[Rke13,Rke184],[]),6321,Rkc28,[78],0),
  (89,(Rkl224,[Rke191,Rke184],[]),6320,Rkc28,[80],0),
  (90,(Rkl225,[Rke145,Rke191,Rke184],Rkf18),6395,Rkc6,[81],0),
  (90,(Rkl224,[Rke192,Rke191,Rke184],[]),6319,Rkc28,[81],0),
  (91,(Rkl224,[Rke5,Rke184],[]),6318,Rkc28,[82],0),
  (92,(Rkl224,[Rke5],[]),6312,Rkc28,[83],0),
  (94,(Rkl226,[],[]),6311,Rkc28,[85],0),
  (96,(Rkl227,[Rke156],[]),6396,Rkc6,[94],0),
  (96,(Rkl226,[Rke196],[]),6310,Rkc28,[94,86],0),
  (99,(Rkl228,[],[]),6309,Rkc28,[87],0),
  (101,(Rkl228,[Rke115],[]),6308,Rkc28,[89],0),
  (102,(Rkl229,[Rke90,Rke115],[]),6397,Rkc6,[94,90],0),
  (102,(Rkl228,[Rke197,Rke115],[]),6307,Rkc28,[94,90],0),
  (105,(Rkl230,[],[]),6306,Rkc28,[91],0),
  (106,(Rkl230,[Rke192],[]),6305,Rkc28,[92],0),
  (107,(Rkl231,[],[]),6304,Rkc28,[93],0),
  (109,(Rkl231,[Rke198],[]),6303,Rkc28,[94],0),
  (110,(Rkl226,[],[]),6302,Rkc28,[95],0),
  (113,(Rkl232,[],[]),6364,Rkc28,[6],0),
  (116,(Rkl233,[],[]),1,Rkc6,[97],0),
  (117,(Rkl233,[Rke199],[]),0,Rkc6,[],0)]
def CNR50 : List (List ND) := [CNR50_0, CNR50_1]
theorem CKR50 : chkS prot SMsR SMR50 [] CNR50 = true := by decide +kernel
-- OneSidedModel.found [(182, 182), (-2147483648, 2147483647)]
def Rkl234 : AL := [some Rka0,some Rka103,none]
def Rkf19 : FA := [(182,0,Rka21),(182,45,Rka21)]
def Rke200 : SE := (Rka96,pv0)
def Rkf20 : FA := [(182,0,Rka21),(182,45,Rka21),(182,46,Rka96)]
def Rkf21 : FA := [(182,0,Rka21),(182,45,Rka21),(182,46,Rka96),(182,47,Rka21)]
def Rkf22 : FA := [(182,0,Rka21),(182,45,Rka21),(182,46,Rka96),(182,47,Rka21),(182,48,Rka36)]
def Rkl235 : AL := [some Rka0,some Rka103,some Rka105]
def Rkl236 : AL := [some Rka0,some Rka103,some Rka21]
def Rke201 : SE := (Rka105,(1,2,0,0,0))
def Rkl237 : AL := [some Rka0,some Rka103,some Rka107]
def Rke202 : SE := (Rka107,(1,2,0,0,0))
def Rkl238 : AL := [some Rka0,some Rka103,some Rka109]
def Rkl239 : AL := [some Rka0,some Rka103,some Rka106]
def Rkl240 : AL := [some Rka0,some Rka103,some Rka94]
def Rkc29 : List Int := [0,0,-18]
def Rke203 : SE := (Rka94,(1,2,0,0,0))
def Rkl241 : AL := [some Rka0,some Rka103,some Rka96]
def Rke204 : SE := (Rka96,(1,2,0,0,0))
def Rkl242 : AL := [some Rka0,some Rka103,some Rka95]
def Rkf23 : FA := [(182,0,Rka21),(182,45,Rka5)]
def Rke205 : SE := (Rka103,(1,1,0,0,0))
def Rkl243 : AL := [some Rka0,some Rka21,some Rka95]
def Rka113 : AV := (0,1,4,1)
def Rkl244 : AL := [some Rka0,some Rka113,some Rka95]
def Rke206 : SE := (Rka113,(1,1,0,0,0))
def Rkl245 : AL := [some Rka0,some Rka17,some Rka95]
def Rka114 : AV := (0,2,4,1)
def Rkl246 : AL := [some Rka0,some Rka114,some Rka95]
def Rke207 : SE := (Rka114,(1,1,0,0,0))
def Rkl247 : AL := [some Rka0,some Rka42,some Rka95]
def Rka115 : AV := (0,3,4,1)
def Rkl248 : AL := [some Rka0,some Rka115,some Rka95]
def Rke208 : SE := (Rka115,(1,1,0,0,0))
def Rkl249 : AL := [some Rka0,some Rka58,some Rka95]
def Rke209 : SE := (Rka110,pv0)
def Rkl250 : AL := [some Rka0,some Rka30,some Rka95]
def CNR51_0 : List ND := [(0,(Rkl63,[],[]),296002,Rkc5,[1],0),
  (1,(Rkl63,[Rke13],[]),296001,Rkc5,[2],0),
  (2,(Rkl63,[Rke21,Rke13],[]),296000,Rkc5,[3],0),
  (5,(Rkl63,[],Rkf1),295999,Rkc5,[4],0),
  (6,(Rkl63,[Rke26],Rkf1),295998,Rkc5,[5],0),
  (7,(Rkl63,[Rke21,Rke26],Rkf1),295997,Rkc5,[6],0),
  (8,(Rkl63,[Rke32,Rke21,Rke26],Rkf1),295996,Rkc5,[8,7],47),
  (11,(Rkl63,[Rke21],Rkf1),295995,Rkc5,[9],0),
  (11,(Rkl234,[Rke19],Rkf1),295992,Rkc5,[11],0),
  (14,(Rkl63,[],Rkf1),295994,Rkc5,[10],0),
  (15,(Rkl63,[Rke42],Rkf1),295993,Rkc5,[],0),
  (16,(Rkl234,[],Rkf1),295991,Rkc5,[12],0),
  (17,(Rkl234,[Rke13],Rkf1),295990,Rkc5,[13],0),
  (18,(Rkl234,[Rke21,Rke13],Rkf1),295989,Rkc5,[14],0),
  (21,(Rkl234,[],Rkf19),295988,Rkc5,[15],0),
  (22,(Rkl234,[Rke13],Rkf19),295987,Rkc5,[16],0),
  (23,(Rkl234,[Rke19,Rke13],Rkf19),295986,Rkc5,[17],0),
  (24,(Rkl234,[Rke13,Rke19,Rke13],Rkf19),295985,Rkc5,[18],2),
  (27,(Rkl234,[Rke25,Rke19,Rke13],Rkf19),295984,Rkc5,[19],0),
  (28,(Rkl234,[Rke159,Rke13],Rkf19),295983,Rkc5,[20],0),
  (29,(Rkl234,[Rke19,Rke159,Rke13],Rkf19),295982,Rkc5,[21],0),
  (30,(Rkl234,[Rke200,Rke13],Rkf19),295981,Rkc5,[22],0),
  (33,(Rkl234,[],Rkf20),295980,Rkc5,[23],0),
  (34,(Rkl234,[Rke13],Rkf20),295979,Rkc5,[24],0),
  (35,(Rkl234,[Rke21,Rke13],Rkf20),295978,Rkc5,[25],0),
  (38,(Rkl234,[],Rkf21),295977,Rkc5,[26],0),
  (39,(Rkl234,[Rke13],Rkf21),295976,Rkc5,[27],0),
  (40,(Rkl234,[Rke42,Rke13],Rkf21),295975,Rkc5,[28],0),
  (43,(Rkl234,[],Rkf22),295974,Rkc5,[29],0),
  (44,(Rkl234,[Rke21],Rkf22),295973,Rkc5,[30],0),
  (45,(Rkl235,[],Rkf22),295971,Rkc24,[32],0),
  (46,(Rkl236,[Rke90],Rkf22),296004,Rkc5,[33],0),
  (46,(Rkl235,[Rke201],Rkf22),295970,Rkc24,[34],0),
  (48,(Rkl236,[Rke190,Rke90],Rkf22),296003,Rkc5,[35],0),
  (48,(Rkl235,[Rke190,Rke201],Rkf22),295969,Rkc24,[44,35],0),
  (51,(Rkl237,[],Rkf22),295968,Rkc24,[36],0),
  (52,(Rkl237,[Rke13],Rkf22),295967,Rkc24,[37],0),
  (55,(Rkl237,[Rke191],Rkf22),295966,Rkc24,[39],0),
  (56,(Rkl236,[Rke90,Rke191],Rkf22),296006,Rkc5,[40],0),
  (56,(Rkl237,[Rke202,Rke191],Rkf22),295965,Rkc24,[41],0),
  (57,(Rkl236,[Rke21,Rke90,Rke191],Rkf22),296005,Rkc5,[42],0),
  (57,(Rkl237,[Rke21,Rke202,Rke191],Rkf22),295964,Rkc24,[42],0),
  (58,(Rkl237,[],Rkf22),295963,Rkc24,[43],0),
  (61,(Rkl238,[],Rkf22),295972,Rkc24,[30],0),
  (64,(Rkl239,[],Rkf22),294962,Rkc5,[45],0),
  (65,(Rkl239,[Rke21],Rkf22),294961,Rkc5,[46],0),
  (66,(Rkl240,[],Rkf1),294959,Rkc29,[48],0),
  (67,(Rkl236,[Rke90],Rkf22),296011,Rkc5,[49],0),
  (67,(Rkl240,[Rke203],Rkf1),294958,Rkc29,[50],0),
  (68,(Rkl236,[Rke19,Rke90],Rkf22),296010,Rkc5,[51],0),
  (68,(Rkl240,[Rke19,Rke203],Rkf1),294957,Rkc29,[52],0),
  (69,(Rkl236,[Rke13,Rke19,Rke90],Rkf22),296009,Rkc5,[53],2),
  (69,(Rkl240,[Rke13,Rke19,Rke203],Rkf1),294956,Rkc29,[54],2),
  (72,(Rkl236,[Rke25,Rke19,Rke90],Rkf22),296008,Rkc5,[55],0),
  (72,(Rkl240,[Rke25,Rke19,Rke203],Rkf1),294955,Rkc29,[56],0),
  (73,(Rkl236,[Rke159,Rke90],Rkf22),296007,Rkc5,[57],0),
  (73,(Rkl240,[Rke159,Rke203],Rkf1),294954,Rkc29,[76,57],0),
  (76,(Rkl241,[],Rkf1),294953,Rkc29,[59],0),
  (77,(Rkl236,[Rke90],Rkf22),296017,Rkc5,[60],0),
  (77,(Rkl241,[Rke204],Rkf1),294952,Rkc29,[61],0),
  (78,(Rkl236,[Rke13,Rke90],Rkf22),296016,Rkc5,[62],0),
  (78,(Rkl241,[Rke13,Rke204],Rkf1),294951,Rkc29,[63],0),
  (81,(Rkl236,[Rke45,Rke90],Rkf22),296015,Rkc5,[64],0),
  (81,(Rkl241,[Rke45,Rke204],Rkf1),294950,Rkc29,[65],0)]
def CNR51_1 : List ND := [(82,(Rkl236,[Rke19,Rke45,Rke90],Rkf22),296014,Rkc5,[66],0),
  (82,(Rkl241,[Rke19,Rke45,Rke204],Rkf1),294949,Rkc29,[67],0),
  (83,(Rkl236,[Rke46,Rke90],Rkf22),296013,Rkc5,[68],0),
  (83,(Rkl241,[Rke46,Rke204],Rkf1),294948,Rkc29,[69],0),
  (84,(Rkl236,[Rke21],Rkf22),296012,Rkc5,[70],0),
  (84,(Rkl241,[Rke200],Rkf1),294947,Rkc29,[74,70],0),
  (87,(Rkl241,[],Rkf1),294946,Rkc29,[71],0),
  (88,(Rkl241,[Rke13],Rkf1),294945,Rkc29,[73],0),
  (89,(Rkl236,[Rke90,Rke13],Rkf22),296018,Rkc5,[74],49),
  (89,(Rkl241,[Rke204,Rke13],Rkf1),294944,Rkc29,[74],49),
  (92,(Rkl241,[],Rkf1),294943,Rkc29,[75],0),
  (95,(Rkl242,[],Rkf1),294960,Rkc29,[46],0),
  (98,(Rkl242,[],Rkf1),30,Rkc5,[77],0),
  (99,(Rkl242,[Rke13],Rkf1),29,Rkc5,[78],0),
  (102,(Rkl242,[Rke184],Rkf1),28,Rkc5,[81,79],0),
  (105,(Rkl242,[],Rkf19),1,Rkc5,[80],0),
  (106,(Rkl242,[Rke42],Rkf19),0,Rkc5,[],0),
  (107,(Rkl242,[],Rkf23),27,Rkc5,[82],0),
  (108,(Rkl242,[Rke205],Rkf23),26,Rkc5,[86,83],0),
  (111,(Rkl243,[],Rkf23),25,Rkc5,[84],0),
  (112,(Rkl243,[Rke13],Rkf23),24,Rkc5,[85],0),
  (115,(Rkl243,[Rke184],Rkf23),23,Rkc5,[106],0),
  (118,(Rkl244,[],Rkf23),22,Rkc5,[87],0),
  (119,(Rkl244,[Rke206],Rkf23),21,Rkc5,[88],0),
  (120,(Rkl244,[Rke19,Rke206],Rkf23),20,Rkc5,[92,89],0),
  (123,(Rkl245,[],Rkf23),19,Rkc5,[90],0),
  (124,(Rkl245,[Rke13],Rkf23),18,Rkc5,[91],0),
  (127,(Rkl245,[Rke185],Rkf23),17,Rkc5,[106],0),
  (130,(Rkl246,[],Rkf23),16,Rkc5,[93],0),
  (131,(Rkl246,[Rke207],Rkf23),15,Rkc5,[94],0),
  (132,(Rkl246,[Rke50,Rke207],Rkf23),14,Rkc5,[98,95],0),
  (135,(Rkl247,[],Rkf23),13,Rkc5,[96],0),
  (136,(Rkl247,[Rke13],Rkf23),12,Rkc5,[97],0),
  (139,(Rkl247,[Rke186],Rkf23),11,Rkc5,[106],0),
  (142,(Rkl248,[],Rkf23),10,Rkc5,[99],0),
  (143,(Rkl248,[Rke208],Rkf23),9,Rkc5,[100],0),
  (144,(Rkl248,[Rke77,Rke208],Rkf23),8,Rkc5,[104,101],0),
  (147,(Rkl249,[],Rkf23),5,Rkc5,[102],0),
  (148,(Rkl249,[Rke13],Rkf23),4,Rkc5,[103],50),
  (151,(Rkl249,[Rke209],Rkf23),3,Rkc5,[106],0),
  (154,(Rkl250,[],Rkf23),7,Rkc5,[105],0),
  (155,(Rkl250,[Rke13],Rkf23),6,Rkc5,[106],0),
  (158,(Rkl242,[Rke5],Rkf1),2,Rkc5,[],0)]
def CNR51 : List (List ND) := [CNR51_0, CNR51_1]
theorem CKR51 : chkS prot SMsR SMR51 [] CNR51 = true := by decide +kernel
-- OneSidedModel.doorOf [(182, 182), (0, 13), (0, 0)]
def Rkl251 : AL := [some Rka0,some Rka25,some Rka21]
def CNR52_0 : List ND := [(0,(Rkl251,[],[]),10,Rkc5,[1],0),
  (1,(Rkl251,[Rke13],[]),9,Rkc5,[2],0),
  (4,(Rkl251,[Rke24],[]),8,Rkc5,[3],0),
  (5,(Rkl251,[Rke32,Rke24],[]),7,Rkc5,[4],0),
  (7,(Rkl251,[Rke33,Rke32,Rke24],[]),6,Rkc5,[5],0),
  (8,(Rkl251,[Rke34,Rke33,Rke32,Rke24],[]),5,Rkc5,[6],0),
  (9,(Rkl251,[Rke35,Rke32,Rke24],[]),4,Rkc5,[7],0),
  (10,(Rkl251,[Rke36,Rke24],[]),3,Rkc5,[8],0),
  (11,(Rkl251,[Rke90,Rke36,Rke24],[]),2,Rkc5,[9],0),
  (12,(Rkl251,[Rke36,Rke24],[]),1,Rkc5,[10],0),
  (13,(Rkl251,[Rke104],[]),0,Rkc5,[],0)]
def CNR52 : List (List ND) := [CNR52_0]
theorem CKR52 : chkS prot SMsR SMR52 [] CNR52 = true := by decide +kernel
-- OneSidedModel.rests [(182, 182), (-2147483648, 2147483647), (-2147483648, 2147483647), (-2147483648, 2147483647)]
def Rkl252 : AL := [some Rka0,some Rka5,some Rka5,some Rka5,none,none,none,none]
def Rkl253 : AL := [some Rka0,some Rka25,some Rka5,some Rka5,none,none,none,none]
def Rkl254 : AL := [some Rka0,some Rka25,some Rka25,some Rka5,none,none,none,none]
def Rka116 : AV := (0,-1,2147483647,1)
def Rkl255 : AL := [some Rka0,some Rka25,some Rka25,some Rka116,none,none,none,none]
def Rkf24 : FA := [(182,0,Rka21),(182,28,Rka25)]
def Rkf25 : FA := [(182,0,Rka21),(182,28,Rka25),(182,29,Rka25)]
def Rkl256 : AL := [some Rka0,some Rka25,some Rka25,some Rka116,some Rka105,none,none,none]
def Rkc30 : List Int := [0,0,0,0,-383,0,0,0]
def Rkl257 : AL := [some Rka0,some Rka25,some Rka25,some Rka116,some Rka21,none,none,none]
def Rke210 : SE := (Rka105,(1,4,0,0,0))
def Rkl258 : AL := [some Rka0,some Rka25,some Rka25,some Rka116,some Rka107,none,none,none]
def Rke211 : SE := (Rka107,(1,4,0,0,0))
def Rkl259 : AL := [some Rka0,some Rka25,some Rka25,some Rka116,some Rka28,none,none,none]
def Rkf26 : FA := [(182,0,Rka21),(182,28,Rka25),(182,29,Rka25),(182,30,Rka21)]
def Rka117 : AV := (2,211,211,0)
def Rke212 : SE := (Rka117,(2,182,50,0,0))
def Rkf27 : FA := [(182,0,Rka21),(182,28,Rka25),(182,29,Rka25),(182,30,Rka21),(182,31,Rka21)]
def Rka118 : AV := (0,0,198,2)
def Rke213 : SE := (Rka118,pv0)
def Rkf28 : FA := [(182,0,Rka21),(182,28,Rka25),(182,29,Rka25),(182,30,Rka21),(182,31,Rka21),(211,0,Rka21)]
def Rka119 : AV := (0,1,199,2)
def Rke214 : SE := (Rka119,pv0)
def Rkl260 : AL := [some Rka0,some Rka25,some Rka25,some Rka116,some Rka107,some Rka43,none,none]
def Rkc31 : List Int := [0,0,0,0,-383,-50,0,0]
def Rkl261 : AL := [some Rka0,some Rka25,some Rka25,some Rka116,some Rka21,some Rka21,none,none]
def Rkf29 : FA := [(182,0,Rka21),(182,28,Rka25),(182,29,Rka25),(182,30,Rka21),(182,31,Rka21),(211,0,Rka21),(211,1,Rka21)]
def Rke215 : SE := (Rka43,(1,5,0,0,0))
def Rkl262 : AL := [some Rka0,some Rka25,some Rka25,some Rka116,some Rka107,some Rka44,none,none]
def Rkf30 : FA := [(182,0,Rka21),(182,28,Rka25),(182,29,Rka25),(188,2,Rka45)]
def Rkf31 : FA := [(182,0,Rka21),(182,28,Rka25),(182,29,Rka25),(182,30,Rka21),(182,31,Rka21),(188,2,Rka45),(211,0,Rka21),(211,1,Rka21)]
def Rke216 : SE := (Rka44,(1,5,0,0,0))
def Rkl263 : AL := [some Rka0,some Rka25,some Rka25,some Rka116,some Rka107,some Rka44,some Rka5,none]
def Rkl264 : AL := [some Rka0,some Rka25,some Rka25,some Rka116,some Rka21,some Rka44,some Rka5,none]
def Rke217 : SE := (Rka21,(2,211,0,0,0))
def Rke218 : SE := (Rka5,(1,6,0,0,0))
def Rke219 : SE := (Rka21,(2,182,30,0,0))
def Rkl265 : AL := [some Rka0,some Rka25,some Rka25,some Rka116,some Rka28,some Rka44,some Rka5,none]
def Rka120 : AV := (0,0,18,2)
def Rke220 : SE := (Rka120,pv0)
def Rkf32 : FA := [(182,0,Rka21),(182,28,Rka25),(182,29,Rka25),(182,30,Rka21),(188,2,Rka45)]
def Rke221 : SE := (Rka28,(2,182,30,0,0))
def Rke222 : SE := (Rka21,(2,211,1,0,0))
def Rke223 : SE := (Rka21,(2,182,31,0,0))
def Rke224 : SE := (Rka28,(2,182,31,0,0))
def Rkl266 : AL := [some Rka0,some Rka25,some Rka25,some Rka116,some Rka107,some Rka45,some Rka5,none]
def Rkl267 : AL := [some Rka0,some Rka25,some Rka25,some Rka116,some Rka109,some Rka43,none,none]
def Rkl268 : AL := [some Rka0,some Rka25,some Rka25,some Rka116,some Rka106,none,none,none]
def Rkf33 : FA := [(182,0,Rka21),(182,28,Rka36),(182,29,Rka25)]
def Rkf34 : FA := [(182,0,Rka21),(182,28,Rka36),(182,29,Rka36)]
def Rkl269 : AL := [some Rka0,some Rka25,some Rka25,some Rka116,some Rka5,some Rka105,none,none]
def Rkc32 : List Int := [0,0,0,0,0,-617,0,0]
def Rke225 : SE := (Rka105,(1,5,0,0,0))
def Rkl270 : AL := [some Rka0,some Rka25,some Rka25,some Rka116,some Rka5,some Rka107,none,none]
def Rkl271 : AL := [some Rka0,some Rka25,some Rka25,some Rka116,some Rka5,some Rka107,some Rka17,none]
def Rkl272 : AL := [some Rka0,some Rka25,some Rka25,some Rka116,some Rka5,some Rka107,some Rka39,some Rka59]
def Rkc33 : List Int := [0,0,0,0,0,-617,0,-54]
def Rkl273 : AL := [some Rka0,some Rka25,some Rka25,some Rka116,some Rka21,some Rka21,some Rka17,some Rka21]
def Rke226 : SE := (Rka59,(1,7,0,0,0))
def Rkl274 : AL := [some Rka0,some Rka25,some Rka25,some Rka116,some Rka5,some Rka107,some Rka39,some Rka28]
def Rke227 : SE := (Rka17,(1,6,0,0,0))
def Rke228 : SE := (Rka39,(1,6,0,0,0))
def Rkl275 : AL := [some Rka0,some Rka25,some Rka25,some Rka116,some Rka5,some Rka107,some Rka17,some Rka28]
def Rka121 : AV := (0,0,90,10)
def Rke229 : SE := (Rka121,pv0)
def Rkl276 : AL := [some Rka0,some Rka25,some Rka25,some Rka116,some Rka21,some Rka21,some Rka17,some Rka28]
def Rke230 : SE := (Rka107,(1,5,0,0,0))
def Rke231 : SE := (Rka107,pv0)
def Rkl277 : AL := [some Rka0,some Rka25,some Rka25,some Rka116,some Rka28,some Rka28,some Rka17,some Rka28]
def Rkf35 : FA := [(182,0,Rka21),(182,28,Rka36),(182,29,Rka36),(211,0,Rka5)]
def Rkl278 : AL := [some Rka0,some Rka25,some Rka25,some Rka116,some Rka5,some Rka107,some Rka39,some Rka60]
def Rkl279 : AL := [some Rka0,some Rka25,some Rka25,some Rka116,some Rka5,some Rka107,some Rka39,some Rka8]
def Rkl280 : AL := [some Rka0,some Rka25,some Rka25,some Rka116,some Rka5,some Rka107,some Rka17,some Rka8]
def Rkl281 : AL := [some Rka0,some Rka25,some Rka25,some Rka116,some Rka21,some Rka21,some Rka17,some Rka8]
def Rke232 : SE := (Rka116,(1,3,0,0,0))
def Rkl282 : AL := [some Rka0,some Rka25,some Rka25,some Rka116,some Rka116,some Rka107,some Rka17,some Rka8]
def Rkl283 : AL := [some Rka0,some Rka25,some Rka25,some Rka21,some Rka21,some Rka21,some Rka17,some Rka8]
def Rkl284 : AL := [some Rka0,some Rka25,some Rka25,some Rka116,some Rka21,some Rka21,some Rka39,some Rka8]
def Rkl285 : AL := [some Rka0,some Rka25,some Rka25,some Rka116,some Rka21,some Rka21,some Rka21,some Rka8]
def Rkl286 : AL := [some Rka0,some Rka25,some Rka25,some Rka116,some Rka5,some Rka107,some Rka21,some Rka8]
def Rkl287 : AL := [some Rka0,some Rka25,some Rka25,some Rka116,some Rka5,some Rka109,some Rka39,some Rka8]
def Rkl288 : AL := [some Rka0,some Rka25,some Rka25,some Rka116,some Rka5,some Rka106,none,none]
def Rkl289 : AL := [some Rka0,some Rka25,some Rka25,some Rka36,some Rka5,some Rka106,none,none]
def Rkl290 : AL := [some Rka0,some Rka25,some Rka25,some Rka24,some Rka5,some Rka106,none,none]
def CNR54_0 : List ND := [(0,(Rkl252,[],[]),101059,Rkc16,[1],0),
  (1,(Rkl252,[Rke13],[]),101058,Rkc16,[2],0),
  (2,(Rkl252,[Rke21,Rke13],[]),101057,Rkc16,[3],0),
  (5,(Rkl252,[],Rkf1),101056,Rkc16,[4],0),
  (6,(Rkl252,[Rke13],Rkf1),101055,Rkc16,[5],0),
  (7,(Rkl252,[Rke26,Rke13],Rkf1),101054,Rkc16,[7,6],3),
  (10,(Rkl252,[Rke21],Rkf1),101053,Rkc16,[31],0),
  (10,(Rkl253,[Rke19],Rkf1),101052,Rkc16,[8],0),
  (13,(Rkl253,[],Rkf1),101051,Rkc16,[9],0),
  (14,(Rkl253,[Rke13],Rkf1),101050,Rkc16,[10],0),
  (15,(Rkl253,[Rke40,Rke13],Rkf1),101049,Rkc16,[12,11],3),
  (18,(Rkl253,[Rke21],Rkf1),101048,Rkc16,[31],0),
  (18,(Rkl254,[Rke19],Rkf1),101047,Rkc16,[13],0),
  (21,(Rkl254,[],Rkf1),101046,Rkc16,[14],0),
  (22,(Rkl254,[Rke34],Rkf1),101045,Rkc16,[15],0),
  (23,(Rkl254,[Rke72,Rke34],Rkf1),101044,Rkc16,[31,16],0),
  (26,(Rkl254,[],Rkf1),101043,Rkc16,[17],0),
  (27,(Rkl254,[Rke13],Rkf1),101042,Rkc16,[18],0),
  (28,(Rkl254,[Rke34,Rke13],Rkf1),101041,Rkc16,[19],0),
  (29,(Rkl254,[Rke21,Rke34,Rke13],Rkf1),101040,Rkc16,[20],52),
  (32,(Rkl254,[Rke104],Rkf1),101039,Rkc16,[21],0),
  (33,(Rkl254,[Rke50,Rke104],Rkf1),101038,Rkc16,[31,22],0),
  (36,(Rkl254,[],Rkf1),101037,Rkc16,[23],0),
  (37,(Rkl254,[Rke13],Rkf1),101036,Rkc16,[24],0),
  (38,(Rkl254,[Rke72,Rke13],Rkf1),101035,Rkc16,[25],0),
  (39,(Rkl254,[Rke21,Rke72,Rke13],Rkf1),101034,Rkc16,[26],52),
  (42,(Rkl254,[Rke104],Rkf1),101033,Rkc16,[27],0),
  (43,(Rkl254,[Rke50,Rke104],Rkf1),101032,Rkc16,[31,28],0),
  (46,(Rkl254,[],Rkf1),101031,Rkc16,[29],0),
  (47,(Rkl254,[Rke78],Rkf1),101030,Rkc16,[30],0),
  (48,(Rkl254,[Rke42,Rke78],Rkf1),101029,Rkc16,[33,31],0),
  (51,(Rkl252,[],Rkf1),1,Rkc16,[32],0),
  (52,(Rkl252,[Rke42],Rkf1),0,Rkc16,[],0),
  (53,(Rkl255,[],Rkf1),101028,Rkc16,[34],0),
  (54,(Rkl255,[Rke13],Rkf1),101027,Rkc16,[35],0),
  (55,(Rkl255,[Rke34,Rke13],Rkf1),101026,Rkc16,[36],0),
  (58,(Rkl255,[],Rkf24),101025,Rkc16,[37],0),
  (59,(Rkl255,[Rke13],Rkf24),101024,Rkc16,[38],0),
  (60,(Rkl255,[Rke72,Rke13],Rkf24),101023,Rkc16,[39],0),
  (63,(Rkl255,[],Rkf25),101022,Rkc16,[40],0),
  (64,(Rkl255,[Rke21],Rkf25),101021,Rkc16,[41],0),
  (66,(Rkl256,[],Rkf25),101019,Rkc30,[43],0),
  (68,(Rkl257,[Rke156],Rkf25),101061,Rkc16,[44],0),
  (68,(Rkl256,[Rke210],Rkf25),101018,Rkc30,[45],0),
  (70,(Rkl257,[Rke190,Rke156],Rkf25),101060,Rkc16,[46],0),
  (70,(Rkl256,[Rke190,Rke210],Rkf25),101017,Rkc30,[175,46],0),
  (73,(Rkl258,[],Rkf25),101016,Rkc30,[47],0),
  (74,(Rkl258,[Rke13],Rkf25),101015,Rkc30,[49],0),
  (76,(Rkl257,[Rke156,Rke13],Rkf25),101064,Rkc16,[50],0),
  (76,(Rkl258,[Rke211,Rke13],Rkf25),101014,Rkc30,[51],0),
  (78,(Rkl257,[Rke9,Rke156,Rke13],Rkf25),101063,Rkc16,[52],0),
  (78,(Rkl258,[Rke9,Rke211,Rke13],Rkf25),101013,Rkc30,[53],0),
  (79,(Rkl259,[Rke21,Rke13],Rkf25),101062,Rkc16,[54],0),
  (79,(Rkl258,[Rke100,Rke13],Rkf25),101012,Rkc30,[54],0),
  (82,(Rkl258,[],Rkf25),101011,Rkc30,[55],0),
  (83,(Rkl258,[Rke13],Rkf25),101010,Rkc30,[57],0),
  (85,(Rkl257,[Rke156,Rke13],Rkf26),101067,Rkc16,[58],0),
  (85,(Rkl258,[Rke211,Rke13],Rkf25),101009,Rkc30,[59],0),
  (87,(Rkl257,[Rke9,Rke156,Rke13],Rkf26),101066,Rkc16,[60],0),
  (87,(Rkl258,[Rke9,Rke211,Rke13],Rkf25),101008,Rkc30,[61],0),
  (88,(Rkl257,[Rke21,Rke13],Rkf26),101065,Rkc16,[62],0),
  (88,(Rkl258,[Rke100,Rke13],Rkf25),101007,Rkc30,[62],0),
  (91,(Rkl258,[],Rkf25),101006,Rkc30,[63],0),
  (92,(Rkl258,[Rke13],Rkf25),101005,Rkc30,[64],0)]
def CNR54_1 : List ND := [(95,(Rkl258,[Rke212],Rkf25),101004,Rkc30,[65],0),
  (96,(Rkl258,[Rke50,Rke212],Rkf25),101003,Rkc30,[67],0),
  (98,(Rkl257,[Rke156,Rke50,Rke212],Rkf27),101070,Rkc16,[68],0),
  (98,(Rkl258,[Rke211,Rke50,Rke212],Rkf25),101002,Rkc30,[69],0),
  (99,(Rkl257,[Rke21,Rke212],Rkf27),101069,Rkc16,[70],0),
  (99,(Rkl258,[Rke213,Rke212],Rkf25),101001,Rkc30,[71],0),
  (100,(Rkl257,[Rke21,Rke21,Rke212],Rkf27),101068,Rkc16,[72],0),
  (100,(Rkl258,[Rke21,Rke213,Rke212],Rkf25),101000,Rkc30,[72],0),
  (101,(Rkl258,[],Rkf25),100999,Rkc30,[73],0),
  (102,(Rkl258,[Rke13],Rkf25),100998,Rkc30,[74],0),
  (105,(Rkl258,[Rke212],Rkf25),100997,Rkc30,[75],0),
  (106,(Rkl258,[Rke50,Rke212],Rkf25),100996,Rkc30,[77],0),
  (108,(Rkl257,[Rke156,Rke50,Rke212],Rkf28),101075,Rkc16,[78],0),
  (108,(Rkl258,[Rke211,Rke50,Rke212],Rkf25),100995,Rkc30,[79],0),
  (109,(Rkl257,[Rke21,Rke212],Rkf28),101074,Rkc16,[80],0),
  (109,(Rkl258,[Rke213,Rke212],Rkf25),100994,Rkc30,[81],0),
  (110,(Rkl257,[Rke19,Rke21,Rke212],Rkf28),101073,Rkc16,[82],0),
  (110,(Rkl258,[Rke19,Rke213,Rke212],Rkf25),100993,Rkc30,[83],0),
  (111,(Rkl257,[Rke19,Rke212],Rkf28),101072,Rkc16,[85],0),
  (111,(Rkl258,[Rke214,Rke212],Rkf25),100992,Rkc30,[84],0),
  (112,(Rkl258,[Rke21,Rke214,Rke212],Rkf25),100991,Rkc30,[86],0),
  (112,(Rkl257,[Rke21,Rke19,Rke212],Rkf28),101071,Rkc16,[86],0),
  (113,(Rkl258,[],Rkf25),100990,Rkc30,[87],0),
  (114,(Rkl258,[Rke21],Rkf25),100989,Rkc30,[88],0),
  (116,(Rkl260,[],Rkf25),100987,Rkc31,[90],0),
  (118,(Rkl261,[Rke133],Rkf29),101078,Rkc16,[91],0),
  (118,(Rkl260,[Rke215],Rkf25),100986,Rkc31,[92],0),
  (119,(Rkl261,[Rke13,Rke133],Rkf29),101077,Rkc16,[93],7),
  (119,(Rkl260,[Rke13,Rke215],Rkf25),100985,Rkc31,[94],7),
  (122,(Rkl261,[Rke51,Rke133],Rkf29),101076,Rkc16,[173,95],0),
  (122,(Rkl260,[Rke51,Rke215],Rkf25),100984,Rkc31,[173,95],0),
  (125,(Rkl262,[],Rkf30),100983,Rkc31,[96],0),
  (126,(Rkl262,[Rke13],Rkf30),100982,Rkc31,[98],0),
  (128,(Rkl261,[Rke133,Rke13],Rkf31),101079,Rkc16,[99],53),
  (128,(Rkl262,[Rke216,Rke13],Rkf30),100981,Rkc31,[99],53),
  (131,(Rkl262,[Rke5],Rkf30),100980,Rkc31,[100],0),
  (133,(Rkl263,[],Rkf30),100979,Rkc31,[101],0),
  (134,(Rkl263,[Rke13],Rkf30),100978,Rkc31,[102],0),
  (137,(Rkl263,[Rke212],Rkf30),100977,Rkc31,[103],0),
  (138,(Rkl263,[Rke50,Rke212],Rkf30),100976,Rkc31,[105],0),
  (140,(Rkl264,[Rke156,Rke50,Rke212],Rkf31),101093,Rkc16,[106],0),
  (140,(Rkl263,[Rke211,Rke50,Rke212],Rkf30),100975,Rkc31,[107],0),
  (141,(Rkl264,[Rke21,Rke212],Rkf31),101092,Rkc16,[108],0),
  (141,(Rkl263,[Rke213,Rke212],Rkf30),100974,Rkc31,[109],0),
  (142,(Rkl264,[Rke21,Rke212,Rke21,Rke212],Rkf31),101091,Rkc16,[110],0),
  (142,(Rkl263,[Rke213,Rke212,Rke213,Rke212],Rkf30),100973,Rkc31,[111],0),
  (143,(Rkl264,[Rke217,Rke21,Rke212],Rkf31),101090,Rkc16,[112],0),
  (143,(Rkl263,[Rke5,Rke213,Rke212],Rkf30),100972,Rkc31,[113],0),
  (145,(Rkl264,[Rke218,Rke217,Rke21,Rke212],Rkf31),101089,Rkc16,[114],0),
  (145,(Rkl263,[Rke218,Rke5,Rke213,Rke212],Rkf30),100971,Rkc31,[115],0),
  (146,(Rkl264,[Rke34,Rke218,Rke217,Rke21,Rke212],Rkf31),101088,Rkc16,[117,116],23),
  (146,(Rkl263,[Rke34,Rke218,Rke5,Rke213,Rke212],Rkf30),100970,Rkc31,[119,118],23),
  (149,(Rkl264,[Rke21,Rke217,Rke21,Rke212],Rkf31),101087,Rkc16,[127],0),
  (149,(Rkl264,[Rke19,Rke217,Rke21,Rke212],Rkf31),101085,Rkc16,[120],0),
  (149,(Rkl263,[Rke21,Rke5,Rke213,Rke212],Rkf30),100969,Rkc31,[128],0),
  (149,(Rkl263,[Rke19,Rke5,Rke213,Rke212],Rkf30),100968,Rkc31,[121],0),
  (152,(Rkl264,[Rke217,Rke21,Rke212],Rkf31),101084,Rkc16,[122],0),
  (152,(Rkl263,[Rke5,Rke213,Rke212],Rkf30),100967,Rkc31,[123],0),
  (153,(Rkl264,[Rke13,Rke217,Rke21,Rke212],Rkf31),101083,Rkc16,[124],0),
  (153,(Rkl263,[Rke13,Rke5,Rke213,Rke212],Rkf30),100966,Rkc31,[126],0),
  (156,(Rkl264,[Rke219,Rke217,Rke21,Rke212],Rkf31),101082,Rkc16,[129],0),
  (156,(Rkl265,[Rke219,Rke5,Rke220,Rke212],Rkf32),101094,Rkc16,[130],0),
  (156,(Rkl263,[Rke221,Rke5,Rke213,Rke212],Rkf30),100965,Rkc31,[131],0),
  (159,(Rkl264,[Rke217,Rke21,Rke212],Rkf31),101086,Rkc16,[129],0)]
def CNR54_2 : List ND := [(159,(Rkl263,[Rke5,Rke213,Rke212],Rkf30),100963,Rkc31,[130],0),
  (160,(Rkl264,[Rke21,Rke217,Rke21,Rke212],Rkf31),101081,Rkc16,[132],0),
  (160,(Rkl263,[Rke21,Rke5,Rke213,Rke212],Rkf30),100962,Rkc31,[133],0),
  (160,(Rkl263,[Rke221,Rke5,Rke213,Rke212],Rkf30),100964,Rkc31,[133],0),
  (161,(Rkl264,[Rke21,Rke21,Rke212],Rkf31),101080,Rkc16,[134],0),
  (161,(Rkl263,[Rke5,Rke213,Rke212],Rkf30),100961,Rkc31,[134],0),
  (162,(Rkl263,[],Rkf30),100960,Rkc31,[135],0),
  (163,(Rkl263,[Rke13],Rkf30),100959,Rkc31,[136],0),
  (166,(Rkl263,[Rke212],Rkf30),100958,Rkc31,[137],0),
  (167,(Rkl263,[Rke50,Rke212],Rkf30),100957,Rkc31,[139],0),
  (169,(Rkl264,[Rke156,Rke50,Rke212],Rkf31),101110,Rkc16,[140],0),
  (169,(Rkl263,[Rke211,Rke50,Rke212],Rkf30),100956,Rkc31,[141],0),
  (170,(Rkl264,[Rke21,Rke212],Rkf31),101109,Rkc16,[142],0),
  (170,(Rkl263,[Rke213,Rke212],Rkf30),100955,Rkc31,[143],0),
  (171,(Rkl264,[Rke19,Rke21,Rke212],Rkf31),101108,Rkc16,[144],0),
  (171,(Rkl263,[Rke19,Rke213,Rke212],Rkf30),100954,Rkc31,[145],0),
  (172,(Rkl264,[Rke19,Rke212],Rkf31),101107,Rkc16,[146],0),
  (172,(Rkl263,[Rke214,Rke212],Rkf30),100953,Rkc31,[147],0),
  (173,(Rkl264,[Rke19,Rke212,Rke19,Rke212],Rkf31),101106,Rkc16,[148],0),
  (173,(Rkl263,[Rke214,Rke212,Rke214,Rke212],Rkf30),100952,Rkc31,[149],0),
  (174,(Rkl264,[Rke222,Rke19,Rke212],Rkf31),101105,Rkc16,[150],0),
  (174,(Rkl263,[Rke5,Rke214,Rke212],Rkf30),100951,Rkc31,[151],0),
  (176,(Rkl264,[Rke218,Rke222,Rke19,Rke212],Rkf31),101104,Rkc16,[152],0),
  (176,(Rkl263,[Rke218,Rke5,Rke214,Rke212],Rkf30),100950,Rkc31,[153],0),
  (177,(Rkl264,[Rke72,Rke218,Rke222,Rke19,Rke212],Rkf31),101103,Rkc16,[156,155],23),
  (177,(Rkl263,[Rke72,Rke218,Rke5,Rke214,Rke212],Rkf30),100949,Rkc31,[157,154],23),
  (180,(Rkl263,[Rke21,Rke5,Rke214,Rke212],Rkf30),100943,Rkc31,[165],0),
  (180,(Rkl264,[Rke21,Rke222,Rke19,Rke212],Rkf31),101102,Rkc16,[164],0),
  (180,(Rkl264,[Rke19,Rke222,Rke19,Rke212],Rkf31),101100,Rkc16,[158],0),
  (180,(Rkl263,[Rke19,Rke5,Rke214,Rke212],Rkf30),100948,Rkc31,[159],0),
  (183,(Rkl264,[Rke222,Rke19,Rke212],Rkf31),101099,Rkc16,[160],0),
  (183,(Rkl263,[Rke5,Rke214,Rke212],Rkf30),100947,Rkc31,[161],0),
  (184,(Rkl264,[Rke13,Rke222,Rke19,Rke212],Rkf31),101098,Rkc16,[162],0),
  (184,(Rkl263,[Rke13,Rke5,Rke214,Rke212],Rkf30),100946,Rkc31,[163],0),
  (187,(Rkl264,[Rke223,Rke222,Rke19,Rke212],Rkf31),101097,Rkc16,[167],0),
  (187,(Rkl263,[Rke224,Rke5,Rke214,Rke212],Rkf30),100945,Rkc31,[168],0),
  (190,(Rkl264,[Rke222,Rke19,Rke212],Rkf31),101101,Rkc16,[167],0),
  (190,(Rkl263,[Rke5,Rke214,Rke212],Rkf30),100942,Rkc31,[166],0),
  (191,(Rkl263,[Rke21,Rke5,Rke214,Rke212],Rkf30),100941,Rkc31,[170],0),
  (191,(Rkl264,[Rke21,Rke222,Rke19,Rke212],Rkf31),101096,Rkc16,[169],0),
  (191,(Rkl263,[Rke224,Rke5,Rke214,Rke212],Rkf30),100944,Rkc31,[170],0),
  (192,(Rkl264,[Rke21,Rke19,Rke212],Rkf31),101095,Rkc16,[171],0),
  (192,(Rkl263,[Rke5,Rke214,Rke212],Rkf30),100940,Rkc31,[171],0),
  (193,(Rkl263,[],Rkf30),100939,Rkc31,[172],0),
  (196,(Rkl266,[],Rkf30),100988,Rkc31,[88],0),
  (199,(Rkl260,[],Rkf25),100638,Rkc30,[174],0),
  (202,(Rkl267,[],Rkf25),101020,Rkc30,[41],0),
  (205,(Rkl268,[],Rkf25),62337,Rkc16,[176],0),
  (206,(Rkl268,[Rke13],Rkf25),62336,Rkc16,[177],0),
  (207,(Rkl268,[Rke42,Rke13],Rkf25),62335,Rkc16,[178],0),
  (210,(Rkl268,[],Rkf33),62334,Rkc16,[179],0),
  (211,(Rkl268,[Rke13],Rkf33),62333,Rkc16,[180],0),
  (212,(Rkl268,[Rke42,Rke13],Rkf33),62332,Rkc16,[181],0),
  (215,(Rkl268,[],Rkf34),62331,Rkc16,[182],0),
  (216,(Rkl268,[Rke21],Rkf34),62330,Rkc16,[183],0),
  (218,(Rkl257,[],Rkf34),62329,Rkc16,[184],0),
  (219,(Rkl257,[Rke21],Rkf34),62328,Rkc16,[185],0),
  (221,(Rkl269,[],Rkf34),62326,Rkc32,[187],0),
  (223,(Rkl261,[Rke133],Rkf34),101112,Rkc16,[188],0),
  (223,(Rkl269,[Rke225],Rkf34),62325,Rkc32,[189],0),
  (225,(Rkl261,[Rke190,Rke133],Rkf34),101111,Rkc16,[190],0),
  (225,(Rkl269,[Rke190,Rke225],Rkf34),62324,Rkc32,[308,190],0),
  (228,(Rkl270,[],Rkf34),62323,Rkc32,[191],0),
  (229,(Rkl270,[Rke19],Rkf34),62322,Rkc32,[192],0)]
def CNR54_3 : List ND := [(231,(Rkl271,[],Rkf34),62321,Rkc32,[193],0),
  (232,(Rkl271,[Rke21],Rkf34),62320,Rkc32,[194],0),
  (234,(Rkl272,[],Rkf34),62318,Rkc33,[196],0),
  (236,(Rkl273,[Rke109],Rkf34),101114,Rkc16,[197],0),
  (236,(Rkl272,[Rke226],Rkf34),62317,Rkc33,[198],0),
  (238,(Rkl273,[Rke9,Rke109],Rkf34),101113,Rkc16,[199],0),
  (238,(Rkl272,[Rke9,Rke226],Rkf34),62316,Rkc33,[278,199],0),
  (241,(Rkl274,[],Rkf34),62315,Rkc33,[201],0),
  (243,(Rkl273,[Rke227],Rkf34),101115,Rkc16,[202],0),
  (243,(Rkl274,[Rke228],Rkf34),62314,Rkc33,[273,202],0),
  (246,(Rkl275,[],Rkf34),62313,Rkc33,[203],0),
  (247,(Rkl275,[Rke13],Rkf34),62312,Rkc33,[204],0),
  (250,(Rkl275,[Rke212],Rkf34),62311,Rkc33,[205],0),
  (251,(Rkl275,[Rke50,Rke212],Rkf34),62310,Rkc33,[206],0),
  (253,(Rkl275,[Rke9,Rke50,Rke212],Rkf34),62309,Rkc33,[208],0),
  (255,(Rkl273,[Rke109,Rke9,Rke50,Rke212],Rkf34),101122,Rkc16,[209],0),
  (255,(Rkl275,[Rke143,Rke9,Rke50,Rke212],Rkf34),62308,Rkc33,[210],0),
  (256,(Rkl273,[Rke21,Rke50,Rke212],Rkf34),101121,Rkc16,[211],0),
  (256,(Rkl275,[Rke229,Rke50,Rke212],Rkf34),62307,Rkc33,[213],0),
  (258,(Rkl273,[Rke133,Rke21,Rke50,Rke212],Rkf34),101120,Rkc16,[214],0),
  (258,(Rkl276,[Rke133,Rke229,Rke50,Rke212],Rkf34),101125,Rkc16,[215],0),
  (258,(Rkl275,[Rke230,Rke229,Rke50,Rke212],Rkf34),62306,Rkc33,[216],0),
  (260,(Rkl273,[Rke9,Rke133,Rke21,Rke50,Rke212],Rkf34),101119,Rkc16,[217],0),
  (260,(Rkl276,[Rke9,Rke133,Rke229,Rke50,Rke212],Rkf34),101124,Rkc16,[218],0),
  (260,(Rkl275,[Rke9,Rke230,Rke229,Rke50,Rke212],Rkf34),62305,Rkc33,[219],0),
  (261,(Rkl273,[Rke21,Rke21,Rke50,Rke212],Rkf34),101118,Rkc16,[220],0),
  (261,(Rkl276,[Rke21,Rke229,Rke50,Rke212],Rkf34),101123,Rkc16,[221],0),
  (261,(Rkl275,[Rke100,Rke229,Rke50,Rke212],Rkf34),62304,Rkc33,[221],0),
  (262,(Rkl273,[Rke21,Rke50,Rke212],Rkf34),101117,Rkc16,[222],0),
  (262,(Rkl275,[Rke231,Rke50,Rke212],Rkf34),62303,Rkc33,[223],0),
  (263,(Rkl273,[Rke21,Rke212],Rkf34),101116,Rkc16,[224],0),
  (263,(Rkl275,[Rke213,Rke212],Rkf34),62302,Rkc33,[224],0),
  (264,(Rkl275,[Rke5],Rkf34),62301,Rkc33,[225],0),
  (265,(Rkl275,[Rke13,Rke5],Rkf34),62300,Rkc33,[226],0),
  (268,(Rkl275,[Rke212,Rke5],Rkf34),62299,Rkc33,[227],0),
  (269,(Rkl275,[Rke50,Rke212,Rke5],Rkf34),62298,Rkc33,[229],0),
  (271,(Rkl276,[Rke133,Rke50,Rke212,Rke5],Rkf34),101127,Rkc16,[230],0),
  (271,(Rkl275,[Rke230,Rke50,Rke212,Rke5],Rkf34),62297,Rkc33,[231],0),
  (272,(Rkl276,[Rke21,Rke212,Rke5],Rkf34),101126,Rkc16,[232],0),
  (272,(Rkl275,[Rke213,Rke212,Rke5],Rkf34),62296,Rkc33,[232],0),
  (273,(Rkl275,[Rke5,Rke5],Rkf34),62295,Rkc33,[273,233],0),
  (276,(Rkl275,[],Rkf34),62294,Rkc33,[234],0),
  (277,(Rkl275,[Rke13],Rkf34),62293,Rkc33,[235],0),
  (280,(Rkl275,[Rke212],Rkf34),62292,Rkc33,[236],0),
  (281,(Rkl275,[Rke50,Rke212],Rkf34),62291,Rkc33,[238],0),
  (283,(Rkl276,[Rke133,Rke50,Rke212],Rkf34),101133,Rkc16,[239],0),
  (283,(Rkl275,[Rke230,Rke50,Rke212],Rkf34),62290,Rkc33,[240],0),
  (285,(Rkl276,[Rke9,Rke133,Rke50,Rke212],Rkf34),101132,Rkc16,[241],0),
  (285,(Rkl275,[Rke9,Rke230,Rke50,Rke212],Rkf34),62289,Rkc33,[242],0),
  (286,(Rkl277,[Rke21,Rke50,Rke212],Rkf34),101131,Rkc16,[243],0),
  (286,(Rkl275,[Rke100,Rke50,Rke212],Rkf34),62288,Rkc33,[244],0),
  (288,(Rkl277,[Rke9,Rke21,Rke50,Rke212],Rkf34),101130,Rkc16,[245],0),
  (288,(Rkl275,[Rke9,Rke100,Rke50,Rke212],Rkf34),62287,Rkc33,[246],0),
  (289,(Rkl277,[Rke21,Rke50,Rke212],Rkf34),101129,Rkc16,[248],0),
  (289,(Rkl275,[Rke229,Rke50,Rke212],Rkf34),62286,Rkc33,[249],0),
  (291,(Rkl273,[Rke109,Rke21,Rke50,Rke212],Rkf35),101138,Rkc16,[250],0),
  (291,(Rkl277,[Rke143,Rke21,Rke50,Rke212],Rkf34),101128,Rkc16,[251],0),
  (291,(Rkl275,[Rke143,Rke229,Rke50,Rke212],Rkf34),62285,Rkc33,[251],0),
  (292,(Rkl273,[Rke21,Rke50,Rke212],Rkf35),101137,Rkc16,[252],0),
  (292,(Rkl275,[Rke231,Rke50,Rke212],Rkf34),62284,Rkc33,[253],0),
  (293,(Rkl273,[Rke21,Rke212],Rkf35),101136,Rkc16,[254],0),
  (293,(Rkl275,[Rke213,Rke212],Rkf34),62283,Rkc33,[255],0),
  (294,(Rkl273,[Rke19,Rke21,Rke212],Rkf35),101135,Rkc16,[256],0),
  (294,(Rkl275,[Rke19,Rke213,Rke212],Rkf34),62282,Rkc33,[257],0)]
def CNR54_4 : List ND := [(295,(Rkl273,[Rke19,Rke212],Rkf35),101134,Rkc16,[258],0),
  (295,(Rkl275,[Rke214,Rke212],Rkf34),62281,Rkc33,[258],0),
  (296,(Rkl275,[Rke5],Rkf34),62280,Rkc33,[259],0),
  (297,(Rkl275,[Rke13,Rke5],Rkf34),62279,Rkc33,[260],0),
  (300,(Rkl275,[Rke212,Rke5],Rkf34),62278,Rkc33,[261],0),
  (301,(Rkl275,[Rke50,Rke212,Rke5],Rkf34),62277,Rkc33,[263],0),
  (303,(Rkl276,[Rke133,Rke50,Rke212,Rke5],Rkf34),101142,Rkc16,[264],0),
  (303,(Rkl275,[Rke230,Rke50,Rke212,Rke5],Rkf34),62276,Rkc33,[265],0),
  (304,(Rkl276,[Rke21,Rke212,Rke5],Rkf34),101141,Rkc16,[266],0),
  (304,(Rkl275,[Rke213,Rke212,Rke5],Rkf34),62275,Rkc33,[267],0),
  (305,(Rkl276,[Rke19,Rke21,Rke212,Rke5],Rkf34),101140,Rkc16,[268],0),
  (305,(Rkl275,[Rke19,Rke213,Rke212,Rke5],Rkf34),62274,Rkc33,[269],0),
  (306,(Rkl276,[Rke19,Rke212,Rke5],Rkf34),101139,Rkc16,[270],0),
  (306,(Rkl275,[Rke214,Rke212,Rke5],Rkf34),62273,Rkc33,[270],0),
  (307,(Rkl275,[Rke5,Rke5],Rkf34),62272,Rkc33,[273,271],0),
  (310,(Rkl275,[],Rkf34),62271,Rkc33,[272],0),
  (311,(Rkl275,[Rke19],Rkf34),62270,Rkc33,[275],0),
  (314,(Rkl274,[],Rkf34),62268,Rkc33,[274],0),
  (315,(Rkl274,[Rke21],Rkf34),62267,Rkc33,[276],0),
  (315,(Rkl275,[Rke19],Rkf34),62269,Rkc33,[276],0),
  (317,(Rkl274,[],Rkf34),62266,Rkc33,[277],0),
  (320,(Rkl278,[],Rkf34),62319,Rkc33,[194],0),
  (323,(Rkl279,[],Rkf34),61725,Rkc32,[279],0),
  (325,(Rkl279,[Rke228],Rkf34),61724,Rkc32,[288,280],0),
  (328,(Rkl280,[],Rkf34),61723,Rkc32,[282],0),
  (330,(Rkl281,[Rke156],Rkf34),101144,Rkc16,[283],0),
  (330,(Rkl280,[Rke79],Rkf34),61722,Rkc32,[284],0),
  (331,(Rkl281,[Rke232,Rke156],Rkf34),101143,Rkc16,[288,285],0),
  (331,(Rkl280,[Rke232,Rke79],Rkf34),61721,Rkc32,[288,285],0),
  (334,(Rkl282,[],Rkf34),3,Rkc16,[287],0),
  (336,(Rkl283,[Rke133],Rkf34),101145,Rkc16,[],0),
  (336,(Rkl282,[Rke230],Rkf34),2,Rkc16,[],0),
  (337,(Rkl279,[],Rkf34),61720,Rkc32,[290],0),
  (339,(Rkl284,[Rke156],Rkf34),101154,Rkc16,[291],0),
  (339,(Rkl279,[Rke79],Rkf34),61719,Rkc32,[292],0),
  (341,(Rkl284,[Rke228,Rke156],Rkf34),101153,Rkc16,[297,293],0),
  (341,(Rkl279,[Rke228,Rke79],Rkf34),61718,Rkc32,[298,294],0),
  (344,(Rkl281,[Rke156],Rkf34),101152,Rkc16,[295],0),
  (344,(Rkl280,[Rke79],Rkf34),61717,Rkc32,[296],0),
  (345,(Rkl281,[Rke19,Rke156],Rkf34),101151,Rkc16,[300],0),
  (345,(Rkl280,[Rke19,Rke79],Rkf34),61716,Rkc32,[302],0),
  (348,(Rkl285,[Rke156],Rkf34),101148,Rkc16,[299],0),
  (348,(Rkl286,[Rke79],Rkf34),61714,Rkc32,[301],0),
  (349,(Rkl285,[Rke21,Rke156],Rkf34),101147,Rkc16,[303],0),
  (349,(Rkl281,[Rke19,Rke156],Rkf34),101150,Rkc16,[304],0),
  (349,(Rkl286,[Rke21,Rke79],Rkf34),61713,Rkc32,[305],0),
  (349,(Rkl280,[Rke19,Rke79],Rkf34),61715,Rkc32,[305],0),
  (350,(Rkl285,[Rke21],Rkf34),101146,Rkc16,[306],0),
  (350,(Rkl281,[Rke19],Rkf34),101149,Rkc16,[306],0),
  (350,(Rkl279,[Rke5],Rkf34),61712,Rkc32,[306],0),
  (352,(Rkl279,[],Rkf34),61711,Rkc32,[307],0),
  (355,(Rkl287,[],Rkf34),62327,Rkc32,[185],0),
  (358,(Rkl288,[],Rkf34),10,Rkc16,[309],0),
  (359,(Rkl288,[Rke232],Rkf34),9,Rkc16,[312,310],0),
  (362,(Rkl289,[],Rkf34),8,Rkc16,[311],0),
  (364,(Rkl289,[Rke79],Rkf34),7,Rkc16,[314],0),
  (367,(Rkl290,[],Rkf34),5,Rkc16,[313],0),
  (368,(Rkl290,[Rke42],Rkf34),4,Rkc16,[],0),
  (368,(Rkl289,[Rke79],Rkf34),6,Rkc16,[],0)]
def CNR54 : List (List ND) := [CNR54_0, CNR54_1, CNR54_2, CNR54_3, CNR54_4]
theorem CKR54_0 : chkB prot SMsR SMR54 [] CNR54 CNR54_0 = true := by decide +kernel
theorem CKR54_1 : chkB prot SMsR SMR54 [] CNR54 CNR54_1 = true := by decide +kernel
theorem CKR54_2 : chkB prot SMsR SMR54 [] CNR54 CNR54_2 = true := by decide +kernel
theorem CKR54_3 : chkB prot SMsR SMR54 [] CNR54 CNR54_3 = true := by decide +kernel
theorem CKR54_4 : chkB prot SMsR SMR54 [] CNR54 CNR54_4 = true := by decide +kernel
theorem CKR54 : chkS prot SMsR SMR54 [] CNR54 = true := chkS_of (allc CKR54_0 (allc CKR54_1 (allc CKR54_2 (allc CKR54_3 (allc CKR54_4 (alln)))))) (by decide +kernel)
