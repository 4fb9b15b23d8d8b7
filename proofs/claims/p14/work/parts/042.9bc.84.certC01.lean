/-! LM, by program: certificates C 1 -/
-- OneSided$Reader.expression [(2, 2), (5, 5), (4, 4), (5, 5)]
def Ckl67 : AL := [some Cka0,some Cka50,some Cka31,some Cka95,none,none]
def Cke161 : SE := (Cka31,(1,2,0,0,0))
def Cke162 : SE := (Cka95,(1,3,0,0,0))
def CNC32_0 : List ND := [(0,(Ckl67,[],[]),7,Ckc9,[1],0),
  (1,(Ckl67,[Cke161],[]),6,Ckc9,[2],0),
  (2,(Ckl67,[Cke35,Cke161],[]),5,Ckc9,[3],0),
  (5,(Ckl67,[],[]),4,Ckc9,[4],0),
  (6,(Ckl67,[Cke0],[]),3,Ckc9,[5],0),
  (7,(Ckl67,[Cke86,Cke0],[]),2,Ckc9,[6],0),
  (8,(Ckl67,[Cke162,Cke86,Cke0],[]),1,Ckc9,[7],31),
  (11,(Ckl67,[],[]),0,Ckc9,[],0)]
def CNC32 : List (List ND) := [CNC32_0]
theorem CKC32 : chkS prot SMsC SMC32 [] CNC32 = true := by decide +kernel
-- OneSided$Reader.operatorOf [(2, 2), (3, 3)]
def Ckl68 : AL := [some Cka0,some Cka32]
def Cke163 : SE := (Cka32,(1,1,0,0,0))
def Cka103 : AV := (0,10011,10011,0)
def Cke164 : SE := (Cka103,pv0)
def CNC33_0 : List ND := [(0,(Ckl68,[],[]),11,Ckc0,[1],0),
  (1,(Ckl68,[Cke163],[]),10,Ckc0,[2],0),
  (124,(Ckl68,[],[]),9,Ckc0,[3],0),
  (125,(Ckl68,[Cke0],[]),8,Ckc0,[4],0),
  (127,(Ckl68,[Cke44,Cke0],[]),7,Ckc0,[6,5],12),
  (130,(Ckl68,[Cke7],[]),6,Ckc0,[9],0),
  (130,(Ckl68,[Cke6],[]),3,Ckc0,[7],0),
  (133,(Ckl68,[],[]),2,Ckc0,[8],0),
  (136,(Ckl68,[Cke164],[]),1,Ckc0,[11],0),
  (139,(Ckl68,[],[]),5,Ckc0,[10],0),
  (140,(Ckl68,[Cke51],[]),4,Ckc0,[],0),
  (140,(Ckl68,[Cke164],[]),0,Ckc0,[],0)]
def CNC33 : List (List ND) := [CNC33_0]
theorem CKC33 : chkS prot SMsC SMC33 [] CNC33 = true := by decide +kernel
-- OneSided$Reader.expression [(2, 2), (5, 5), (3, 3), (5, 5)]
def Ckl69 : AL := [some Cka0,some Cka50,some Cka32,some Cka95,none,none]
def Cke165 : SE := (Cka32,(1,2,0,0,0))
def Ckl70 : AL := [some Cka0,some Cka50,some Cka32,some Cka95,some Cka14,none]
def Ckc10 : List Int := [0,0,0,0,-30,0]
def Ckl71 : AL := [some Cka0,some Cka50,some Cka32,some Cka95,some Cka7,none]
def Cke166 : SE := (Cka7,(1,4,0,0,0))
def Cke167 : SE := (Cka14,(1,4,0,0,0))
def Ckl72 : AL := [some Cka0,some Cka50,some Cka32,some Cka95,some Cka1,none]
def Cka104 : AV := (0,-1,10011,10012)
def Cke168 : SE := (Cka104,pv0)
def Ckl73 : AL := [some Cka0,some Cka50,some Cka32,some Cka95,some Cka1,some Cka104]
def Cke169 : SE := (Cka104,(1,5,0,0,0))
def Ckl74 : AL := [some Cka0,some Cka50,some Cka32,some Cka95,some Cka1,some Cka49]
def Cka105 : AV := (0,0,10011,1)
def Ckl75 : AL := [some Cka0,some Cka50,some Cka32,some Cka95,some Cka1,some Cka105]
def Cke170 : SE := (Cka105,(1,5,0,0,0))
def Ckl76 : AL := [some Cka0,some Cka50,some Cka32,some Cka95,some Cka15,some Cka105]
def CNC34_0 : List ND := [(0,(Ckl69,[],[]),30043,Ckc9,[1],0),
  (1,(Ckl69,[Cke165],[]),30042,Ckc9,[2],0),
  (2,(Ckl69,[Cke35,Cke165],[]),30041,Ckc9,[3],0),
  (12,(Ckl69,[],[]),30040,Ckc9,[4],0),
  (13,(Ckl69,[Cke0],[]),30039,Ckc9,[5],0),
  (14,(Ckl69,[Cke86,Cke0],[]),30038,Ckc9,[6],0),
  (15,(Ckl69,[Cke165,Cke86,Cke0],[]),30037,Ckc9,[7],0),
  (16,(Ckl69,[Cke6,Cke165,Cke86,Cke0],[]),30036,Ckc9,[8],0),
  (17,(Ckl69,[Cke35,Cke86,Cke0],[]),30035,Ckc9,[9],0),
  (18,(Ckl69,[Cke162,Cke35,Cke86,Cke0],[]),30034,Ckc9,[10],32),
  (21,(Ckl69,[],[]),30033,Ckc9,[11],0),
  (22,(Ckl69,[Cke7],[]),30032,Ckc9,[12],0),
  (24,(Ckl70,[],[]),30030,Ckc10,[14],0),
  (26,(Ckl71,[Cke166],[]),30045,Ckc9,[15],0),
  (26,(Ckl70,[Cke167],[]),30029,Ckc10,[16],0),
  (29,(Ckl71,[Cke153,Cke166],[]),30044,Ckc9,[17],0),
  (29,(Ckl70,[Cke153,Cke167],[]),30028,Ckc10,[45,17],0),
  (32,(Ckl72,[],[]),30027,Ckc10,[18],0),
  (33,(Ckl72,[Cke0],[]),30026,Ckc10,[19],0),
  (36,(Ckl72,[Cke46],[]),30025,Ckc10,[45,20],0),
  (39,(Ckl72,[],Ckf7),30024,Ckc10,[21],0),
  (40,(Ckl72,[Cke0],Ckf7),30023,Ckc10,[22],0),
  (41,(Ckl72,[Cke165,Cke0],Ckf7),30022,Ckc10,[23],33),
  (44,(Ckl72,[Cke168],Ckf7),30021,Ckc10,[24],0),
  (46,(Ckl73,[],Ckf7),30020,Ckc10,[25],0),
  (48,(Ckl73,[Cke169],Ckf7),30019,Ckc10,[26],0),
  (49,(Ckl73,[Cke51,Cke169],Ckf7),30018,Ckc10,[28,27],0),
  (52,(Ckl74,[],Ckf7),1,Ckc9,[],0),
  (53,(Ckl75,[],Ckf7),30017,Ckc10,[29],0),
  (54,(Ckl75,[Cke0],Ckf7),30016,Ckc10,[30],6),
  (57,(Ckl75,[],Ckf7),30015,Ckc10,[31],0),
  (58,(Ckl75,[Cke0],Ckf7),30014,Ckc10,[32],0),
  (59,(Ckl75,[Cke86,Cke0],Ckf7),30013,Ckc10,[33],0),
  (60,(Ckl75,[Cke165,Cke86,Cke0],Ckf7),30012,Ckc10,[34],0),
  (61,(Ckl75,[Cke6,Cke165,Cke86,Cke0],Ckf7),30011,Ckc10,[35],0),
  (62,(Ckl75,[Cke35,Cke86,Cke0],Ckf7),30010,Ckc10,[36],0),
  (63,(Ckl75,[Cke162,Cke35,Cke86,Cke0],Ckf7),30009,Ckc10,[37],32),
  (66,(Ckl75,[],[]),30008,Ckc10,[38],0),
  (67,(Ckl75,[Cke86],[]),30007,Ckc10,[39],0),
  (69,(Ckl75,[Cke170,Cke86],[]),30006,Ckc10,[40],30),
  (72,(Ckl75,[],[]),30005,Ckc10,[41],0),
  (73,(Ckl75,[Cke165],[]),30004,Ckc10,[42],0),
  (74,(Ckl75,[Cke6,Cke165],[]),30003,Ckc10,[43],0),
  (78,(Ckl75,[],[]),30002,Ckc10,[44],0),
  (81,(Ckl76,[],[]),30031,Ckc10,[12],0),
  (84,(Ckl70,[],[]),0,Ckc9,[],0)]
def CNC34 : List (List ND) := [CNC34_0]
theorem CKC34 : chkS prot SMsC SMC34 [] CNC34 = true := by decide +kernel
-- OneSided$Reader.operatorOf [(2, 2), (2, 2)]
def Ckl77 : AL := [some Cka0,some Cka18]
def Cka106 : AV := (0,10009,10009,0)
def Cke171 : SE := (Cka106,pv0)
def Cka107 : AV := (0,10010,10010,0)
def Cke172 : SE := (Cka107,pv0)
def Cka108 : AV := (0,10009,10010,1)
def Cke173 : SE := (Cka108,pv0)
def CNC35_0 : List ND := [(0,(Ckl77,[],[]),28,Ckc0,[1],0),
  (1,(Ckl77,[Cke61],[]),27,Ckc0,[19,2],0),
  (92,(Ckl77,[],[]),16,Ckc0,[3],0),
  (93,(Ckl77,[Cke0],[]),15,Ckc0,[4],0),
  (95,(Ckl77,[Cke42,Cke0],[]),14,Ckc0,[6,5],12),
  (98,(Ckl77,[Cke7],[]),13,Ckc0,[9],0),
  (98,(Ckl77,[Cke6],[]),3,Ckc0,[7],0),
  (101,(Ckl77,[],[]),2,Ckc0,[8],0),
  (104,(Ckl77,[Cke171],[]),1,Ckc0,[18],0),
  (107,(Ckl77,[],[]),12,Ckc0,[10],0),
  (108,(Ckl77,[Cke0],[]),11,Ckc0,[11],0),
  (110,(Ckl77,[Cke43,Cke0],[]),10,Ckc0,[13,12],12),
  (113,(Ckl77,[Cke7],[]),9,Ckc0,[16],0),
  (113,(Ckl77,[Cke6],[]),6,Ckc0,[14],0),
  (116,(Ckl77,[],[]),5,Ckc0,[15],0),
  (119,(Ckl77,[Cke172],[]),4,Ckc0,[18],0),
  (122,(Ckl77,[],[]),8,Ckc0,[17],0),
  (123,(Ckl77,[Cke51],[]),7,Ckc0,[],0),
  (123,(Ckl77,[Cke173],[]),0,Ckc0,[],0),
  (124,(Ckl77,[],[]),26,Ckc0,[20],0),
  (125,(Ckl77,[Cke0],[]),25,Ckc0,[21],0),
  (127,(Ckl77,[Cke44,Cke0],[]),24,Ckc0,[23,22],12),
  (130,(Ckl77,[Cke7],[]),19,Ckc0,[26],0),
  (130,(Ckl77,[Cke6],[]),23,Ckc0,[24],0),
  (133,(Ckl77,[],[]),22,Ckc0,[25],0),
  (136,(Ckl77,[Cke164],[]),21,Ckc0,[28],0),
  (139,(Ckl77,[],[]),18,Ckc0,[27],0),
  (140,(Ckl77,[Cke51],[]),17,Ckc0,[],0),
  (140,(Ckl77,[Cke164],[]),20,Ckc0,[],0)]
def CNC35 : List (List ND) := [CNC35_0]
theorem CKC35 : chkS prot SMsC SMC35 [] CNC35 = true := by decide +kernel
-- OneSided$Reader.expression [(2, 2), (5, 5), (2, 2), (5, 5)]
def Ckl78 : AL := [some Cka0,some Cka50,some Cka18,some Cka95,none,none]
def Cke174 : SE := (Cka18,(1,2,0,0,0))
def Ckl79 : AL := [some Cka0,some Cka50,some Cka18,some Cka95,some Cka14,none]
def Ckl80 : AL := [some Cka0,some Cka50,some Cka18,some Cka95,some Cka7,none]
def Ckl81 : AL := [some Cka0,some Cka50,some Cka18,some Cka95,some Cka1,none]
def Cka109 : AV := (0,-1,10011,1)
def Cke175 : SE := (Cka109,pv0)
def Ckl82 : AL := [some Cka0,some Cka50,some Cka18,some Cka95,some Cka1,some Cka109]
def Cke176 : SE := (Cka109,(1,5,0,0,0))
def Ckl83 : AL := [some Cka0,some Cka50,some Cka18,some Cka95,some Cka1,some Cka49]
def Ckl84 : AL := [some Cka0,some Cka50,some Cka18,some Cka95,some Cka1,some Cka105]
def Ckl85 : AL := [some Cka0,some Cka50,some Cka18,some Cka95,some Cka15,some Cka105]
def CNC36_0 : List ND := [(0,(Ckl78,[],[]),30043,Ckc9,[1],0),
  (1,(Ckl78,[Cke174],[]),30042,Ckc9,[2],0),
  (2,(Ckl78,[Cke35,Cke174],[]),30041,Ckc9,[3],0),
  (12,(Ckl78,[],[]),30040,Ckc9,[4],0),
  (13,(Ckl78,[Cke0],[]),30039,Ckc9,[5],0),
  (14,(Ckl78,[Cke86,Cke0],[]),30038,Ckc9,[6],0),
  (15,(Ckl78,[Cke174,Cke86,Cke0],[]),30037,Ckc9,[7],0),
  (16,(Ckl78,[Cke6,Cke174,Cke86,Cke0],[]),30036,Ckc9,[8],0),
  (17,(Ckl78,[Cke36,Cke86,Cke0],[]),30035,Ckc9,[9],0),
  (18,(Ckl78,[Cke162,Cke36,Cke86,Cke0],[]),30034,Ckc9,[10],34),
  (21,(Ckl78,[],[]),30033,Ckc9,[11],0),
  (22,(Ckl78,[Cke7],[]),30032,Ckc9,[12],0),
  (24,(Ckl79,[],[]),30030,Ckc10,[14],0),
  (26,(Ckl80,[Cke166],[]),30045,Ckc9,[15],0),
  (26,(Ckl79,[Cke167],[]),30029,Ckc10,[16],0),
  (29,(Ckl80,[Cke153,Cke166],[]),30044,Ckc9,[17],0),
  (29,(Ckl79,[Cke153,Cke167],[]),30028,Ckc10,[45,17],0),
  (32,(Ckl81,[],[]),30027,Ckc10,[18],0),
  (33,(Ckl81,[Cke0],[]),30026,Ckc10,[19],0),
  (36,(Ckl81,[Cke46],[]),30025,Ckc10,[45,20],0),
  (39,(Ckl81,[],Ckf7),30024,Ckc10,[21],0),
  (40,(Ckl81,[Cke0],Ckf7),30023,Ckc10,[22],0),
  (41,(Ckl81,[Cke174,Cke0],Ckf7),30022,Ckc10,[23],35),
  (44,(Ckl81,[Cke175],Ckf7),30021,Ckc10,[24],0),
  (46,(Ckl82,[],Ckf7),30020,Ckc10,[25],0),
  (48,(Ckl82,[Cke176],Ckf7),30019,Ckc10,[26],0),
  (49,(Ckl82,[Cke51,Cke176],Ckf7),30018,Ckc10,[28,27],0),
  (52,(Ckl83,[],Ckf7),1,Ckc9,[],0),
  (53,(Ckl84,[],Ckf7),30017,Ckc10,[29],0),
  (54,(Ckl84,[Cke0],Ckf7),30016,Ckc10,[30],6),
  (57,(Ckl84,[],Ckf7),30015,Ckc10,[31],0),
  (58,(Ckl84,[Cke0],Ckf7),30014,Ckc10,[32],0),
  (59,(Ckl84,[Cke86,Cke0],Ckf7),30013,Ckc10,[33],0),
  (60,(Ckl84,[Cke174,Cke86,Cke0],Ckf7),30012,Ckc10,[34],0),
  (61,(Ckl84,[Cke6,Cke174,Cke86,Cke0],Ckf7),30011,Ckc10,[35],0),
  (62,(Ckl84,[Cke36,Cke86,Cke0],Ckf7),30010,Ckc10,[36],0),
  (63,(Ckl84,[Cke162,Cke36,Cke86,Cke0],Ckf7),30009,Ckc10,[37],34),
  (66,(Ckl84,[],[]),30008,Ckc10,[38],0),
  (67,(Ckl84,[Cke86],[]),30007,Ckc10,[39],0),
  (69,(Ckl84,[Cke170,Cke86],[]),30006,Ckc10,[40],30),
  (72,(Ckl84,[],[]),30005,Ckc10,[41],0),
  (73,(Ckl84,[Cke174],[]),30004,Ckc10,[42],0),
  (74,(Ckl84,[Cke6,Cke174],[]),30003,Ckc10,[43],0),
  (78,(Ckl84,[],[]),30002,Ckc10,[44],0),
  (81,(Ckl85,[],[]),30031,Ckc10,[12],0),
  (84,(Ckl79,[],[]),0,Ckc9,[],0)]
def CNC36 : List (List ND) := [CNC36_0]
theorem CKC36 : chkS prot SMsC SMC36 [] CNC36 = true := by decide +kernel
-- OneSided$Reader.operatorOf [(2, 2), (1, 1)]
def Ckl86 : AL := [some Cka0,some Cka6]
def Cka110 : AV := (0,10007,10007,0)
def Cke177 : SE := (Cka110,pv0)
def Cka111 : AV := (0,10008,10008,0)
def Cke178 : SE := (Cka111,pv0)
def Cka112 : AV := (0,10007,10008,1)
def Cke179 : SE := (Cka112,pv0)
def CNC37_0 : List ND := [(0,(Ckl86,[],[]),28,Ckc0,[1],0),
  (1,(Ckl86,[Cke129],[]),27,Ckc0,[19,2],0),
  (60,(Ckl86,[],[]),16,Ckc0,[3],0),
  (61,(Ckl86,[Cke0],[]),15,Ckc0,[4],0),
  (63,(Ckl86,[Cke40,Cke0],[]),14,Ckc0,[6,5],12),
  (66,(Ckl86,[Cke7],[]),13,Ckc0,[9],0),
  (66,(Ckl86,[Cke6],[]),3,Ckc0,[7],0),
  (69,(Ckl86,[],[]),2,Ckc0,[8],0),
  (72,(Ckl86,[Cke177],[]),1,Ckc0,[18],0),
  (75,(Ckl86,[],[]),12,Ckc0,[10],0),
  (76,(Ckl86,[Cke0],[]),11,Ckc0,[11],0),
  (78,(Ckl86,[Cke41,Cke0],[]),10,Ckc0,[13,12],12),
  (81,(Ckl86,[Cke7],[]),9,Ckc0,[16],0),
  (81,(Ckl86,[Cke6],[]),6,Ckc0,[14],0),
  (84,(Ckl86,[],[]),5,Ckc0,[15],0),
  (87,(Ckl86,[Cke178],[]),4,Ckc0,[18],0),
  (90,(Ckl86,[],[]),8,Ckc0,[17],0),
  (91,(Ckl86,[Cke51],[]),7,Ckc0,[],0),
  (91,(Ckl86,[Cke179],[]),0,Ckc0,[],0),
  (124,(Ckl86,[],[]),26,Ckc0,[20],0),
  (125,(Ckl86,[Cke0],[]),25,Ckc0,[21],0),
  (127,(Ckl86,[Cke44,Cke0],[]),24,Ckc0,[23,22],12),
  (130,(Ckl86,[Cke7],[]),19,Ckc0,[26],0),
  (130,(Ckl86,[Cke6],[]),23,Ckc0,[24],0),
  (133,(Ckl86,[],[]),22,Ckc0,[25],0),
  (136,(Ckl86,[Cke164],[]),21,Ckc0,[28],0),
  (139,(Ckl86,[],[]),18,Ckc0,[27],0),
  (140,(Ckl86,[Cke51],[]),17,Ckc0,[],0),
  (140,(Ckl86,[Cke164],[]),20,Ckc0,[],0)]
def CNC37 : List (List ND) := [CNC37_0]
theorem CKC37 : chkS prot SMsC SMC37 [] CNC37 = true := by decide +kernel
-- OneSided$Reader.expression [(2, 2), (5, 5), (1, 1), (5, 5)]
def Ckl87 : AL := [some Cka0,some Cka50,some Cka6,some Cka95,none,none]
def Cke180 : SE := (Cka6,(1,2,0,0,0))
def Ckl88 : AL := [some Cka0,some Cka50,some Cka6,some Cka95,some Cka7,none]
def Ckl89 : AL := [some Cka0,some Cka50,some Cka6,some Cka95,some Cka7,some Cka109]
def Ckl90 : AL := [some Cka0,some Cka50,some Cka6,some Cka95,some Cka7,some Cka49]
def Ckl91 : AL := [some Cka0,some Cka50,some Cka6,some Cka95,some Cka7,some Cka105]
def CNC38_0 : List ND := [(0,(Ckl87,[],[]),42,Ckc9,[1],0),
  (1,(Ckl87,[Cke180],[]),41,Ckc9,[2],0),
  (2,(Ckl87,[Cke35,Cke180],[]),40,Ckc9,[3],0),
  (12,(Ckl87,[],[]),39,Ckc9,[4],0),
  (13,(Ckl87,[Cke0],[]),38,Ckc9,[5],0),
  (14,(Ckl87,[Cke86,Cke0],[]),37,Ckc9,[6],0),
  (15,(Ckl87,[Cke180,Cke86,Cke0],[]),36,Ckc9,[7],0),
  (16,(Ckl87,[Cke6,Cke180,Cke86,Cke0],[]),35,Ckc9,[8],0),
  (17,(Ckl87,[Cke22,Cke86,Cke0],[]),34,Ckc9,[9],0),
  (18,(Ckl87,[Cke162,Cke22,Cke86,Cke0],[]),33,Ckc9,[10],36),
  (21,(Ckl87,[],[]),32,Ckc9,[11],0),
  (22,(Ckl87,[Cke7],[]),31,Ckc9,[12],0),
  (24,(Ckl88,[],[]),30,Ckc9,[13],0),
  (26,(Ckl88,[Cke166],[]),29,Ckc9,[14],0),
  (29,(Ckl88,[Cke153,Cke166],[]),28,Ckc9,[15],0),
  (32,(Ckl88,[],[]),27,Ckc9,[16],0),
  (33,(Ckl88,[Cke0],[]),26,Ckc9,[17],0),
  (36,(Ckl88,[Cke46],[]),25,Ckc9,[42,18],0),
  (39,(Ckl88,[],Ckf7),23,Ckc9,[19],0),
  (40,(Ckl88,[Cke0],Ckf7),22,Ckc9,[20],0),
  (41,(Ckl88,[Cke180,Cke0],Ckf7),21,Ckc9,[21],37),
  (44,(Ckl88,[Cke175],Ckf7),20,Ckc9,[22],0),
  (46,(Ckl89,[],Ckf7),19,Ckc9,[23],0),
  (48,(Ckl89,[Cke176],Ckf7),18,Ckc9,[24],0),
  (49,(Ckl89,[Cke51,Cke176],Ckf7),17,Ckc9,[26,25],0),
  (52,(Ckl90,[],Ckf7),16,Ckc9,[],0),
  (53,(Ckl91,[],Ckf7),15,Ckc9,[27],0),
  (54,(Ckl91,[Cke0],Ckf7),14,Ckc9,[28],6),
  (57,(Ckl91,[],Ckf7),13,Ckc9,[29],0),
  (58,(Ckl91,[Cke0],Ckf7),12,Ckc9,[30],0),
  (59,(Ckl91,[Cke86,Cke0],Ckf7),11,Ckc9,[31],0),
  (60,(Ckl91,[Cke180,Cke86,Cke0],Ckf7),10,Ckc9,[32],0),
  (61,(Ckl91,[Cke6,Cke180,Cke86,Cke0],Ckf7),9,Ckc9,[33],0),
  (62,(Ckl91,[Cke22,Cke86,Cke0],Ckf7),8,Ckc9,[34],0),
  (63,(Ckl91,[Cke162,Cke22,Cke86,Cke0],Ckf7),7,Ckc9,[35],36),
  (66,(Ckl91,[],[]),6,Ckc9,[36],0),
  (67,(Ckl91,[Cke86],[]),5,Ckc9,[37],0),
  (69,(Ckl91,[Cke170,Cke86],[]),4,Ckc9,[38],30),
  (72,(Ckl91,[],[]),3,Ckc9,[39],0),
  (73,(Ckl91,[Cke180],[]),2,Ckc9,[40],0),
  (74,(Ckl91,[Cke6,Cke180],[]),1,Ckc9,[41],0),
  (77,(Ckl91,[],[]),0,Ckc9,[],0),
  (84,(Ckl88,[],Ckf6),24,Ckc9,[],0)]
def CNC38 : List (List ND) := [CNC38_0]
theorem CKC38 : chkS prot SMsC SMC38 [] CNC38 = true := by decide +kernel
-- OneSided$Reader.operatorOf [(2, 2), (0, 0)]
def Ckl92 : AL := [some Cka0,some Cka7]
def Ckf48 : FA := [(2,7,Cka81)]
def Cka113 : AV := (0,10005,10005,0)
def Cke181 : SE := (Cka113,pv0)
def Ckf49 : FA := [(2,7,Cka86)]
def Cka114 : AV := (0,10006,10006,0)
def Cke182 : SE := (Cka114,pv0)
def Cka115 : AV := (0,10005,10006,1)
def Cke183 : SE := (Cka115,pv0)
def Cka116 : AV := (0,23,24,1)
def Ckf50 : FA := [(2,7,Cka116)]
def CNC39_0 : List ND := [(0,(Ckl92,[],[]),26,Ckc0,[1],0),
  (1,(Ckl92,[Cke90],[]),25,Ckc0,[17,2],0),
  (28,(Ckl92,[],[]),14,Ckc0,[3],0),
  (29,(Ckl92,[Cke0],[]),13,Ckc0,[4],0),
  (32,(Ckl92,[Cke58],[]),12,Ckc0,[5],0),
  (34,(Ckl92,[Cke143,Cke58],[]),11,Ckc0,[8,6],0),
  (37,(Ckl92,[],Ckf48),2,Ckc0,[7],0),
  (40,(Ckl92,[Cke181],Ckf48),1,Ckc0,[16],0),
  (43,(Ckl92,[],Ckf23),10,Ckc0,[9],0),
  (44,(Ckl92,[Cke0],Ckf23),9,Ckc0,[10],0),
  (47,(Ckl92,[Cke58],Ckf23),8,Ckc0,[11],0),
  (49,(Ckl92,[Cke144,Cke58],Ckf23),7,Ckc0,[14,12],0),
  (52,(Ckl92,[],Ckf49),6,Ckc0,[13],0),
  (55,(Ckl92,[Cke182],Ckf49),5,Ckc0,[16],0),
  (58,(Ckl92,[],Ckf23),4,Ckc0,[15],0),
  (59,(Ckl92,[Cke51],Ckf23),3,Ckc0,[],0),
  (59,(Ckl92,[Cke183],Ckf50),0,Ckc0,[],0),
  (124,(Ckl92,[],[]),24,Ckc0,[18],0),
  (125,(Ckl92,[Cke0],[]),23,Ckc0,[19],0),
  (127,(Ckl92,[Cke44,Cke0],[]),22,Ckc0,[21,20],12),
  (130,(Ckl92,[Cke7],[]),21,Ckc0,[24],0),
  (130,(Ckl92,[Cke6],[]),18,Ckc0,[22],0),
  (133,(Ckl92,[],[]),17,Ckc0,[23],0),
  (136,(Ckl92,[Cke164],[]),16,Ckc0,[26],0),
  (139,(Ckl92,[],[]),20,Ckc0,[25],0),
  (140,(Ckl92,[Cke51],[]),19,Ckc0,[],0),
  (140,(Ckl92,[Cke164],[]),15,Ckc0,[],0)]
def CNC39 : List (List ND) := [CNC39_0]
theorem CKC39 : chkS prot SMsC SMC39 [] CNC39 = true := by decide +kernel
-- OneSided$Reader.expression [(2, 2), (5, 5), (0, 0), (5, 5)]
def Ckl93 : AL := [some Cka0,some Cka50,some Cka7,some Cka95,none,none]
def Ckl94 : AL := [some Cka0,some Cka50,some Cka7,some Cka95,some Cka14,none]
def Ckl95 : AL := [some Cka0,some Cka50,some Cka7,some Cka95,some Cka7,none]
def Ckl96 : AL := [some Cka0,some Cka50,some Cka7,some Cka95,some Cka1,none]
def Ckl97 : AL := [some Cka0,some Cka50,some Cka7,some Cka95,some Cka1,some Cka109]
def Ckl98 : AL := [some Cka0,some Cka50,some Cka7,some Cka95,some Cka1,some Cka49]
def Ckl99 : AL := [some Cka0,some Cka50,some Cka7,some Cka95,some Cka1,some Cka105]
def Ckl100 : AL := [some Cka0,some Cka50,some Cka7,some Cka95,some Cka15,some Cka105]
def CNC40_0 : List ND := [(0,(Ckl93,[],[]),30043,Ckc9,[1],0),
  (1,(Ckl93,[Cke23],[]),30042,Ckc9,[2],0),
  (2,(Ckl93,[Cke35,Cke23],[]),30041,Ckc9,[3],0),
  (12,(Ckl93,[],[]),30040,Ckc9,[4],0),
  (13,(Ckl93,[Cke0],[]),30039,Ckc9,[5],0),
  (14,(Ckl93,[Cke86,Cke0],[]),30038,Ckc9,[6],0),
  (15,(Ckl93,[Cke23,Cke86,Cke0],[]),30037,Ckc9,[7],0),
  (16,(Ckl93,[Cke6,Cke23,Cke86,Cke0],[]),30036,Ckc9,[8],0),
  (17,(Ckl93,[Cke6,Cke86,Cke0],[]),30035,Ckc9,[9],0),
  (18,(Ckl93,[Cke162,Cke6,Cke86,Cke0],[]),30034,Ckc9,[10],38),
  (21,(Ckl93,[],[]),30033,Ckc9,[11],0),
  (22,(Ckl93,[Cke7],[]),30032,Ckc9,[12],0),
  (24,(Ckl94,[],[]),30030,Ckc10,[14],0),
  (26,(Ckl95,[Cke166],[]),30045,Ckc9,[15],0),
  (26,(Ckl94,[Cke167],[]),30029,Ckc10,[16],0),
  (29,(Ckl95,[Cke153,Cke166],[]),30044,Ckc9,[17],0),
  (29,(Ckl94,[Cke153,Cke167],[]),30028,Ckc10,[45,17],0),
  (32,(Ckl96,[],[]),30027,Ckc10,[18],0),
  (33,(Ckl96,[Cke0],[]),30026,Ckc10,[19],0),
  (36,(Ckl96,[Cke46],[]),30025,Ckc10,[45,20],0),
  (39,(Ckl96,[],Ckf7),30024,Ckc10,[21],0),
  (40,(Ckl96,[Cke0],Ckf7),30023,Ckc10,[22],0),
  (41,(Ckl96,[Cke23,Cke0],Ckf7),30022,Ckc10,[23],39),
  (44,(Ckl96,[Cke175],Ckf7),30021,Ckc10,[24],0),
  (46,(Ckl97,[],Ckf7),30020,Ckc10,[25],0),
  (48,(Ckl97,[Cke176],Ckf7),30019,Ckc10,[26],0),
  (49,(Ckl97,[Cke51,Cke176],Ckf7),30018,Ckc10,[28,27],0),
  (52,(Ckl98,[],Ckf7),1,Ckc9,[],0),
  (53,(Ckl99,[],Ckf7),30017,Ckc10,[29],0),
  (54,(Ckl99,[Cke0],Ckf7),30016,Ckc10,[30],6),
  (57,(Ckl99,[],Ckf7),30015,Ckc10,[31],0),
  (58,(Ckl99,[Cke0],Ckf7),30014,Ckc10,[32],0),
  (59,(Ckl99,[Cke86,Cke0],Ckf7),30013,Ckc10,[33],0),
  (60,(Ckl99,[Cke23,Cke86,Cke0],Ckf7),30012,Ckc10,[34],0),
  (61,(Ckl99,[Cke6,Cke23,Cke86,Cke0],Ckf7),30011,Ckc10,[35],0),
  (62,(Ckl99,[Cke6,Cke86,Cke0],Ckf7),30010,Ckc10,[36],0),
  (63,(Ckl99,[Cke162,Cke6,Cke86,Cke0],Ckf7),30009,Ckc10,[37],38),
  (66,(Ckl99,[],[]),30008,Ckc10,[38],0),
  (67,(Ckl99,[Cke86],[]),30007,Ckc10,[39],0),
  (69,(Ckl99,[Cke170,Cke86],[]),30006,Ckc10,[40],30),
  (72,(Ckl99,[],[]),30005,Ckc10,[41],0),
  (73,(Ckl99,[Cke23],[]),30004,Ckc10,[42],0),
  (74,(Ckl99,[Cke6,Cke23],[]),30003,Ckc10,[43],0),
  (78,(Ckl99,[],[]),30002,Ckc10,[44],0),
  (81,(Ckl100,[],[]),30031,Ckc10,[12],0),
  (84,(Ckl94,[],[]),0,Ckc9,[],0)]
def CNC40 : List (List ND) := [CNC40_0]
theorem CKC40 : chkS prot SMsC SMC40 [] CNC40 = true := by decide +kernel
-- OneSided$Reader.part [(2, 2), (5, 5), (4, 4)]
def Ckl101 : AL := [some Cka0,some Cka50,some Cka31,none,none,none]
def Ckl102 : AL := [some Cka0,some Cka50,some Cka31,some Cka96,none,none]
def Ckl103 : AL := [some Cka0,some Cka50,some Cka31,some Cka96,some Cka96,none]
def Ckl104 : AL := [some Cka0,some Cka50,some Cka31,some Cka96,some Cka96,some Cka96]
def Ckl105 : AL := [some Cka0,some Cka50,some Cka31,some Cka7,some Cka96,some Cka96]
def Ckl106 : AL := [some Cka0,some Cka50,some Cka31,some Cka7,some Cka7,some Cka96]
def Ckl107 : AL := [some Cka0,some Cka50,some Cka31,some Cka7,some Cka7,some Cka7]
def Ckl108 : AL := [some Cka0,some Cka50,some Cka31,some Cka6,some Cka96,some Cka96]
def Cke184 : SE := (Cka34,pv0)
def Cka117 : AV := (0,10000,10000,0)
def Cke185 : SE := (Cka117,pv0)
def Cka118 : AV := (0,9999,10028,1)
def Cke186 : SE := (Cka118,pv0)
def Ckl109 : AL := [some Cka0,some Cka50,some Cka31,some Cka7,some Cka7,some Cka6]
def Cka119 : AV := (0,10004,10004,0)
def Cke187 : SE := (Cka119,pv0)
def CNC41_0 : List ND := [(0,(Ckl101,[],[]),87,Ckc9,[1],0),
  (1,(Ckl101,[Cke0],[]),86,Ckc9,[2],0),
  (4,(Ckl101,[Cke60],[]),85,Ckc9,[3],0),
  (5,(Ckl101,[Cke36,Cke60],[]),84,Ckc9,[6,4],0),
  (8,(Ckl101,[],Ckf25),83,Ckc9,[5],0),
  (9,(Ckl101,[Cke6],Ckf25),82,Ckc9,[8],0),
  (12,(Ckl101,[],Ckf24),80,Ckc9,[7],0),
  (13,(Ckl101,[Cke7],Ckf24),79,Ckc9,[9],0),
  (13,(Ckl101,[Cke6],Ckf25),81,Ckc9,[9],0),
  (14,(Ckl102,[],[]),78,Ckc9,[10],0),
  (15,(Ckl102,[Cke0],[]),77,Ckc9,[11],0),
  (18,(Ckl102,[Cke58],[]),76,Ckc9,[12],0),
  (20,(Ckl102,[Cke73,Cke58],[]),75,Ckc9,[15,13],0),
  (23,(Ckl102,[],Ckf46),72,Ckc9,[14],0),
  (24,(Ckl102,[Cke6],Ckf46),71,Ckc9,[17],0),
  (27,(Ckl102,[],Ckf47),74,Ckc9,[16],0),
  (28,(Ckl102,[Cke7],Ckf47),73,Ckc9,[18],0),
  (28,(Ckl102,[Cke6],Ckf46),70,Ckc9,[18],0),
  (30,(Ckl103,[],[]),69,Ckc9,[19],0),
  (31,(Ckl103,[Cke0],[]),68,Ckc9,[20],0),
  (33,(Ckl103,[Cke38,Cke0],[]),67,Ckc9,[22,21],12),
  (36,(Ckl103,[Cke7],[]),66,Ckc9,[23],0),
  (36,(Ckl103,[Cke6],[]),65,Ckc9,[23],0),
  (38,(Ckl104,[],[]),64,Ckc9,[24],0),
  (39,(Ckl104,[Cke142],[]),63,Ckc9,[37,25],0),
  (42,(Ckl105,[],[]),62,Ckc9,[26],0),
  (44,(Ckl105,[Cke157],[]),61,Ckc9,[37,27],0),
  (47,(Ckl106,[],[]),60,Ckc9,[28],0),
  (49,(Ckl106,[Cke158],[]),59,Ckc9,[37,29],0),
  (52,(Ckl107,[],[]),58,Ckc9,[30],0),
  (53,(Ckl107,[Cke0],[]),57,Ckc9,[31],0),
  (56,(Ckl107,[Cke58],[]),56,Ckc9,[32],0),
  (58,(Ckl107,[Cke159,Cke58],[]),55,Ckc9,[37,33],0),
  (61,(Ckl107,[],Ckf23),54,Ckc9,[34],0),
  (62,(Ckl107,[Cke0],Ckf23),53,Ckc9,[35],0),
  (63,(Ckl107,[Cke6,Cke0],Ckf23),52,Ckc9,[36],9),
  (66,(Ckl107,[],Ckf23),51,Ckc9,[],0),
  (67,(Ckl104,[],[]),50,Ckc9,[38],0),
  (68,(Ckl104,[Cke161],[]),49,Ckc9,[39],0),
  (69,(Ckl104,[Cke137,Cke161],[]),48,Ckc9,[40],0),
  (78,(Ckl104,[],[]),47,Ckc9,[41],0),
  (79,(Ckl104,[Cke142],[]),46,Ckc9,[44,42],0),
  (82,(Ckl105,[],[]),45,Ckc9,[43],0),
  (84,(Ckl105,[Cke157],[]),44,Ckc9,[61,44],0),
  (87,(Ckl104,[],[]),43,Ckc9,[45],0),
  (88,(Ckl104,[Cke86],[]),42,Ckc9,[46],0),
  (89,(Ckl104,[Cke142,Cke86],[]),41,Ckc9,[51,47],0),
  (92,(Ckl108,[Cke86],[]),34,Ckc9,[48],0),
  (93,(Ckl108,[Cke0,Cke86],[]),33,Ckc9,[49],0),
  (96,(Ckl108,[Cke18,Cke86],[]),32,Ckc9,[50],0),
  (97,(Ckl108,[Cke184,Cke86],[]),31,Ckc9,[57],0),
  (100,(Ckl105,[Cke86],[]),40,Ckc9,[52],0),
  (103,(Ckl105,[Cke185,Cke86],[]),39,Ckc9,[53],0),
  (104,(Ckl105,[Cke0,Cke185,Cke86],[]),38,Ckc9,[54],0),
  (107,(Ckl105,[Cke58,Cke185,Cke86],[]),37,Ckc9,[55],0),
  (108,(Ckl105,[Cke186,Cke86],[]),36,Ckc9,[56],0),
  (110,(Ckl105,[Cke73,Cke186,Cke86],[]),35,Ckc9,[57],0),
  (111,(Ckl104,[Cke184,Cke86],[]),30,Ckc9,[58],30),
  (114,(Ckl104,[],[]),29,Ckc9,[59],0),
  (115,(Ckl104,[Cke0],[]),28,Ckc9,[60],6),
  (118,(Ckl104,[],[]),27,Ckc9,[87],0),
  (121,(Ckl106,[],[]),26,Ckc9,[62],0),
  (123,(Ckl106,[Cke158],[]),25,Ckc9,[76,63],0),
  (126,(Ckl109,[],[]),24,Ckc9,[64],0)]
def CNC41_1 : List ND := [(127,(Ckl109,[Cke0],[]),23,Ckc9,[65],6),
  (130,(Ckl109,[],[]),22,Ckc9,[66],0),
  (131,(Ckl109,[Cke0],[]),21,Ckc9,[67],0),
  (132,(Ckl109,[Cke86,Cke0],[]),20,Ckc9,[68],0),
  (133,(Ckl109,[Cke7,Cke86,Cke0],[]),19,Ckc9,[69],0),
  (134,(Ckl109,[Cke161,Cke7,Cke86,Cke0],[]),18,Ckc9,[70],0),
  (135,(Ckl109,[Cke6,Cke161,Cke7,Cke86,Cke0],[]),17,Ckc9,[71],0),
  (136,(Ckl109,[Cke137,Cke7,Cke86,Cke0],[]),16,Ckc9,[72],40),
  (139,(Ckl109,[],[]),15,Ckc9,[73],0),
  (140,(Ckl109,[Cke0],[]),14,Ckc9,[74],0),
  (142,(Ckl109,[Cke39,Cke0],[]),13,Ckc9,[75],13),
  (145,(Ckl109,[],[]),12,Ckc9,[87],0),
  (148,(Ckl107,[],[]),11,Ckc9,[77],0),
  (149,(Ckl107,[Cke0],[]),10,Ckc9,[78],6),
  (152,(Ckl107,[],[]),9,Ckc9,[79],0),
  (153,(Ckl107,[Cke0],[]),8,Ckc9,[80],0),
  (154,(Ckl107,[Cke86,Cke0],[]),7,Ckc9,[81],0),
  (155,(Ckl107,[Cke161,Cke86,Cke0],[]),6,Ckc9,[82],0),
  (156,(Ckl107,[Cke6,Cke161,Cke86,Cke0],[]),5,Ckc9,[83],0),
  (157,(Ckl107,[Cke137,Cke86,Cke0],[]),4,Ckc9,[84],31),
  (160,(Ckl107,[],[]),3,Ckc9,[85],0),
  (161,(Ckl107,[Cke86],[]),2,Ckc9,[86],0),
  (164,(Ckl107,[Cke187,Cke86],[]),1,Ckc9,[87],30),
  (167,(Ckl104,[],[]),0,Ckc9,[],0)]
def CNC41 : List (List ND) := [CNC41_0, CNC41_1]
theorem CKC41 : chkS prot SMsC SMC41 [] CNC41 = true := by decide +kernel
-- OneSided$Reader.expression [(2, 2), (5, 5), (4, 4), (4, 4)]
def Ckl110 : AL := [some Cka0,some Cka50,some Cka31,some Cka31,none,none]
def Cke188 : SE := (Cka31,(1,3,0,0,0))
def CNC42_0 : List ND := [(0,(Ckl110,[],[]),7,Ckc9,[1],0),
  (1,(Ckl110,[Cke161],[]),6,Ckc9,[2],0),
  (2,(Ckl110,[Cke35,Cke161],[]),5,Ckc9,[3],0),
  (5,(Ckl110,[],[]),4,Ckc9,[4],0),
  (6,(Ckl110,[Cke0],[]),3,Ckc9,[5],0),
  (7,(Ckl110,[Cke86,Cke0],[]),2,Ckc9,[6],0),
  (8,(Ckl110,[Cke188,Cke86,Cke0],[]),1,Ckc9,[7],41),
  (11,(Ckl110,[],[]),0,Ckc9,[],0)]
def CNC42 : List (List ND) := [CNC42_0]
theorem CKC42 : chkS prot SMsC SMC42 [] CNC42 = true := by decide +kernel
-- OneSided$Reader.expression [(2, 2), (5, 5), (3, 3), (4, 4)]
def Ckl111 : AL := [some Cka0,some Cka50,some Cka32,some Cka31,none,none]
def Ckl112 : AL := [some Cka0,some Cka50,some Cka32,some Cka31,some Cka14,none]
def Ckl113 : AL := [some Cka0,some Cka50,some Cka32,some Cka31,some Cka7,none]
def Ckl114 : AL := [some Cka0,some Cka50,some Cka32,some Cka31,some Cka1,none]
def Ckl115 : AL := [some Cka0,some Cka50,some Cka32,some Cka31,some Cka1,some Cka104]
def Ckl116 : AL := [some Cka0,some Cka50,some Cka32,some Cka31,some Cka1,some Cka49]
def Ckl117 : AL := [some Cka0,some Cka50,some Cka32,some Cka31,some Cka1,some Cka105]
def Ckl118 : AL := [some Cka0,some Cka50,some Cka32,some Cka31,some Cka15,some Cka105]
def CNC43_0 : List ND := [(0,(Ckl111,[],[]),30043,Ckc9,[1],0),
  (1,(Ckl111,[Cke165],[]),30042,Ckc9,[2],0),
  (2,(Ckl111,[Cke35,Cke165],[]),30041,Ckc9,[3],0),
  (12,(Ckl111,[],[]),30040,Ckc9,[4],0),
  (13,(Ckl111,[Cke0],[]),30039,Ckc9,[5],0),
  (14,(Ckl111,[Cke86,Cke0],[]),30038,Ckc9,[6],0),
  (15,(Ckl111,[Cke165,Cke86,Cke0],[]),30037,Ckc9,[7],0),
  (16,(Ckl111,[Cke6,Cke165,Cke86,Cke0],[]),30036,Ckc9,[8],0),
  (17,(Ckl111,[Cke35,Cke86,Cke0],[]),30035,Ckc9,[9],0),
  (18,(Ckl111,[Cke188,Cke35,Cke86,Cke0],[]),30034,Ckc9,[10],42),
  (21,(Ckl111,[],[]),30033,Ckc9,[11],0),
  (22,(Ckl111,[Cke7],[]),30032,Ckc9,[12],0),
  (24,(Ckl112,[],[]),30030,Ckc10,[14],0),
  (26,(Ckl113,[Cke166],[]),30045,Ckc9,[15],0),
  (26,(Ckl112,[Cke167],[]),30029,Ckc10,[16],0),
  (29,(Ckl113,[Cke153,Cke166],[]),30044,Ckc9,[17],0),
  (29,(Ckl112,[Cke153,Cke167],[]),30028,Ckc10,[45,17],0),
  (32,(Ckl114,[],[]),30027,Ckc10,[18],0),
  (33,(Ckl114,[Cke0],[]),30026,Ckc10,[19],0),
  (36,(Ckl114,[Cke46],[]),30025,Ckc10,[45,20],0),
  (39,(Ckl114,[],Ckf7),30024,Ckc10,[21],0),
  (40,(Ckl114,[Cke0],Ckf7),30023,Ckc10,[22],0),
  (41,(Ckl114,[Cke165,Cke0],Ckf7),30022,Ckc10,[23],33),
  (44,(Ckl114,[Cke168],Ckf7),30021,Ckc10,[24],0),
  (46,(Ckl115,[],Ckf7),30020,Ckc10,[25],0),
  (48,(Ckl115,[Cke169],Ckf7),30019,Ckc10,[26],0),
  (49,(Ckl115,[Cke51,Cke169],Ckf7),30018,Ckc10,[28,27],0),
  (52,(Ckl116,[],Ckf7),1,Ckc9,[],0),
  (53,(Ckl117,[],Ckf7),30017,Ckc10,[29],0),
  (54,(Ckl117,[Cke0],Ckf7),30016,Ckc10,[30],6),
  (57,(Ckl117,[],Ckf7),30015,Ckc10,[31],0),
  (58,(Ckl117,[Cke0],Ckf7),30014,Ckc10,[32],0),
  (59,(Ckl117,[Cke86,Cke0],Ckf7),30013,Ckc10,[33],0),
  (60,(Ckl117,[Cke165,Cke86,Cke0],Ckf7),30012,Ckc10,[34],0),
  (61,(Ckl117,[Cke6,Cke165,Cke86,Cke0],Ckf7),30011,Ckc10,[35],0),
  (62,(Ckl117,[Cke35,Cke86,Cke0],Ckf7),30010,Ckc10,[36],0),
  (63,(Ckl117,[Cke188,Cke35,Cke86,Cke0],Ckf7),30009,Ckc10,[37],42),
  (66,(Ckl117,[],[]),30008,Ckc10,[38],0),
  (67,(Ckl117,[Cke86],[]),30007,Ckc10,[39],0),
  (69,(Ckl117,[Cke170,Cke86],[]),30006,Ckc10,[40],30),
  (72,(Ckl117,[],[]),30005,Ckc10,[41],0),
  (73,(Ckl117,[Cke165],[]),30004,Ckc10,[42],0),
  (74,(Ckl117,[Cke6,Cke165],[]),30003,Ckc10,[43],0),
  (78,(Ckl117,[],[]),30002,Ckc10,[44],0),
  (81,(Ckl118,[],[]),30031,Ckc10,[12],0),
  (84,(Ckl112,[],[]),0,Ckc9,[],0)]
def CNC43 : List (List ND) := [CNC43_0]
theorem CKC43 : chkS prot SMsC SMC43 [] CNC43 = true := by decide +kernel
-- OneSided$Reader.expression [(2, 2), (5, 5), (2, 2), (4, 4)]
def Ckl119 : AL := [some Cka0,some Cka50,some Cka18,some Cka31,none,none]
def Ckl120 : AL := [some Cka0,some Cka50,some Cka18,some Cka31,some Cka14,none]
def Ckl121 : AL := [some Cka0,some Cka50,some Cka18,some Cka31,some Cka7,none]
def Ckl122 : AL := [some Cka0,some Cka50,some Cka18,some Cka31,some Cka1,none]
def Ckl123 : AL := [some Cka0,some Cka50,some Cka18,some Cka31,some Cka1,some Cka109]
def Ckl124 : AL := [some Cka0,some Cka50,some Cka18,some Cka31,some Cka1,some Cka49]
def Ckl125 : AL := [some Cka0,some Cka50,some Cka18,some Cka31,some Cka1,some Cka105]
def Ckl126 : AL := [some Cka0,some Cka50,some Cka18,some Cka31,some Cka15,some Cka105]
def CNC44_0 : List ND := [(0,(Ckl119,[],[]),30043,Ckc9,[1],0),
  (1,(Ckl119,[Cke174],[]),30042,Ckc9,[2],0),
  (2,(Ckl119,[Cke35,Cke174],[]),30041,Ckc9,[3],0),
  (12,(Ckl119,[],[]),30040,Ckc9,[4],0),
  (13,(Ckl119,[Cke0],[]),30039,Ckc9,[5],0),
  (14,(Ckl119,[Cke86,Cke0],[]),30038,Ckc9,[6],0),
  (15,(Ckl119,[Cke174,Cke86,Cke0],[]),30037,Ckc9,[7],0),
  (16,(Ckl119,[Cke6,Cke174,Cke86,Cke0],[]),30036,Ckc9,[8],0),
  (17,(Ckl119,[Cke36,Cke86,Cke0],[]),30035,Ckc9,[9],0),
  (18,(Ckl119,[Cke188,Cke36,Cke86,Cke0],[]),30034,Ckc9,[10],43),
  (21,(Ckl119,[],[]),30033,Ckc9,[11],0),
  (22,(Ckl119,[Cke7],[]),30032,Ckc9,[12],0),
  (24,(Ckl120,[],[]),30030,Ckc10,[14],0),
  (26,(Ckl121,[Cke166],[]),30045,Ckc9,[15],0),
  (26,(Ckl120,[Cke167],[]),30029,Ckc10,[16],0),
  (29,(Ckl121,[Cke153,Cke166],[]),30044,Ckc9,[17],0),
  (29,(Ckl120,[Cke153,Cke167],[]),30028,Ckc10,[45,17],0),
  (32,(Ckl122,[],[]),30027,Ckc10,[18],0),
  (33,(Ckl122,[Cke0],[]),30026,Ckc10,[19],0),
  (36,(Ckl122,[Cke46],[]),30025,Ckc10,[45,20],0),
  (39,(Ckl122,[],Ckf7),30024,Ckc10,[21],0),
  (40,(Ckl122,[Cke0],Ckf7),30023,Ckc10,[22],0),
  (41,(Ckl122,[Cke174,Cke0],Ckf7),30022,Ckc10,[23],35),
  (44,(Ckl122,[Cke175],Ckf7),30021,Ckc10,[24],0),
  (46,(Ckl123,[],Ckf7),30020,Ckc10,[25],0),
  (48,(Ckl123,[Cke176],Ckf7),30019,Ckc10,[26],0),
  (49,(Ckl123,[Cke51,Cke176],Ckf7),30018,Ckc10,[28,27],0),
  (52,(Ckl124,[],Ckf7),1,Ckc9,[],0),
  (53,(Ckl125,[],Ckf7),30017,Ckc10,[29],0),
  (54,(Ckl125,[Cke0],Ckf7),30016,Ckc10,[30],6),
  (57,(Ckl125,[],Ckf7),30015,Ckc10,[31],0),
  (58,(Ckl125,[Cke0],Ckf7),30014,Ckc10,[32],0),
  (59,(Ckl125,[Cke86,Cke0],Ckf7),30013,Ckc10,[33],0),
  (60,(Ckl125,[Cke174,Cke86,Cke0],Ckf7),30012,Ckc10,[34],0),
  (61,(Ckl125,[Cke6,Cke174,Cke86,Cke0],Ckf7),30011,Ckc10,[35],0),
  (62,(Ckl125,[Cke36,Cke86,Cke0],Ckf7),30010,Ckc10,[36],0),
  (63,(Ckl125,[Cke188,Cke36,Cke86,Cke0],Ckf7),30009,Ckc10,[37],43),
  (66,(Ckl125,[],[]),30008,Ckc10,[38],0),
  (67,(Ckl125,[Cke86],[]),30007,Ckc10,[39],0),
  (69,(Ckl125,[Cke170,Cke86],[]),30006,Ckc10,[40],30),
  (72,(Ckl125,[],[]),30005,Ckc10,[41],0),
  (73,(Ckl125,[Cke174],[]),30004,Ckc10,[42],0),
  (74,(Ckl125,[Cke6,Cke174],[]),30003,Ckc10,[43],0),
  (78,(Ckl125,[],[]),30002,Ckc10,[44],0),
  (81,(Ckl126,[],[]),30031,Ckc10,[12],0),
  (84,(Ckl120,[],[]),0,Ckc9,[],0)]
def CNC44 : List (List ND) := [CNC44_0]
theorem CKC44 : chkS prot SMsC SMC44 [] CNC44 = true := by decide +kernel
-- OneSided$Reader.expression [(2, 2), (5, 5), (1, 1), (4, 4)]
def Ckl127 : AL := [some Cka0,some Cka50,some Cka6,some Cka31,none,none]
def Ckl128 : AL := [some Cka0,some Cka50,some Cka6,some Cka31,some Cka7,none]
def Ckl129 : AL := [some Cka0,some Cka50,some Cka6,some Cka31,some Cka7,some Cka109]
def Ckl130 : AL := [some Cka0,some Cka50,some Cka6,some Cka31,some Cka7,some Cka49]
def Ckl131 : AL := [some Cka0,some Cka50,some Cka6,some Cka31,some Cka7,some Cka105]
def CNC45_0 : List ND := [(0,(Ckl127,[],[]),42,Ckc9,[1],0),
  (1,(Ckl127,[Cke180],[]),41,Ckc9,[2],0),
  (2,(Ckl127,[Cke35,Cke180],[]),40,Ckc9,[3],0),
  (12,(Ckl127,[],[]),39,Ckc9,[4],0),
  (13,(Ckl127,[Cke0],[]),38,Ckc9,[5],0),
  (14,(Ckl127,[Cke86,Cke0],[]),37,Ckc9,[6],0),
  (15,(Ckl127,[Cke180,Cke86,Cke0],[]),36,Ckc9,[7],0),
  (16,(Ckl127,[Cke6,Cke180,Cke86,Cke0],[]),35,Ckc9,[8],0),
  (17,(Ckl127,[Cke22,Cke86,Cke0],[]),34,Ckc9,[9],0),
  (18,(Ckl127,[Cke188,Cke22,Cke86,Cke0],[]),33,Ckc9,[10],44),
  (21,(Ckl127,[],[]),32,Ckc9,[11],0),
  (22,(Ckl127,[Cke7],[]),31,Ckc9,[12],0),
  (24,(Ckl128,[],[]),30,Ckc9,[13],0),
  (26,(Ckl128,[Cke166],[]),29,Ckc9,[14],0),
  (29,(Ckl128,[Cke153,Cke166],[]),28,Ckc9,[15],0),
  (32,(Ckl128,[],[]),27,Ckc9,[16],0),
  (33,(Ckl128,[Cke0],[]),26,Ckc9,[17],0),
  (36,(Ckl128,[Cke46],[]),25,Ckc9,[42,18],0),
  (39,(Ckl128,[],Ckf7),23,Ckc9,[19],0),
  (40,(Ckl128,[Cke0],Ckf7),22,Ckc9,[20],0),
  (41,(Ckl128,[Cke180,Cke0],Ckf7),21,Ckc9,[21],37),
  (44,(Ckl128,[Cke175],Ckf7),20,Ckc9,[22],0),
  (46,(Ckl129,[],Ckf7),19,Ckc9,[23],0),
  (48,(Ckl129,[Cke176],Ckf7),18,Ckc9,[24],0),
  (49,(Ckl129,[Cke51,Cke176],Ckf7),17,Ckc9,[26,25],0),
  (52,(Ckl130,[],Ckf7),16,Ckc9,[],0),
  (53,(Ckl131,[],Ckf7),15,Ckc9,[27],0),
  (54,(Ckl131,[Cke0],Ckf7),14,Ckc9,[28],6),
  (57,(Ckl131,[],Ckf7),13,Ckc9,[29],0),
  (58,(Ckl131,[Cke0],Ckf7),12,Ckc9,[30],0),
  (59,(Ckl131,[Cke86,Cke0],Ckf7),11,Ckc9,[31],0),
  (60,(Ckl131,[Cke180,Cke86,Cke0],Ckf7),10,Ckc9,[32],0),
  (61,(Ckl131,[Cke6,Cke180,Cke86,Cke0],Ckf7),9,Ckc9,[33],0),
  (62,(Ckl131,[Cke22,Cke86,Cke0],Ckf7),8,Ckc9,[34],0),
  (63,(Ckl131,[Cke188,Cke22,Cke86,Cke0],Ckf7),7,Ckc9,[35],44),
  (66,(Ckl131,[],[]),6,Ckc9,[36],0),
  (67,(Ckl131,[Cke86],[]),5,Ckc9,[37],0),
  (69,(Ckl131,[Cke170,Cke86],[]),4,Ckc9,[38],30),
  (72,(Ckl131,[],[]),3,Ckc9,[39],0),
  (73,(Ckl131,[Cke180],[]),2,Ckc9,[40],0),
  (74,(Ckl131,[Cke6,Cke180],[]),1,Ckc9,[41],0),
  (77,(Ckl131,[],[]),0,Ckc9,[],0),
  (84,(Ckl128,[],Ckf6),24,Ckc9,[],0)]
def CNC45 : List (List ND) := [CNC45_0]
theorem CKC45 : chkS prot SMsC SMC45 [] CNC45 = true := by decide +kernel
-- OneSided$Reader.expression [(2, 2), (5, 5), (0, 0), (4, 4)]
def Ckl132 : AL := [some Cka0,some Cka50,some Cka7,some Cka31,none,none]
def Ckl133 : AL := [some Cka0,some Cka50,some Cka7,some Cka31,some Cka14,none]
def Ckl134 : AL := [some Cka0,some Cka50,some Cka7,some Cka31,some Cka7,none]
def Ckl135 : AL := [some Cka0,some Cka50,some Cka7,some Cka31,some Cka1,none]
def Ckl136 : AL := [some Cka0,some Cka50,some Cka7,some Cka31,some Cka1,some Cka109]
def Ckl137 : AL := [some Cka0,some Cka50,some Cka7,some Cka31,some Cka1,some Cka49]
def Ckl138 : AL := [some Cka0,some Cka50,some Cka7,some Cka31,some Cka1,some Cka105]
def Ckl139 : AL := [some Cka0,some Cka50,some Cka7,some Cka31,some Cka15,some Cka105]
def CNC46_0 : List ND := [(0,(Ckl132,[],[]),30043,Ckc9,[1],0),
  (1,(Ckl132,[Cke23],[]),30042,Ckc9,[2],0),
  (2,(Ckl132,[Cke35,Cke23],[]),30041,Ckc9,[3],0),
  (12,(Ckl132,[],[]),30040,Ckc9,[4],0),
  (13,(Ckl132,[Cke0],[]),30039,Ckc9,[5],0),
  (14,(Ckl132,[Cke86,Cke0],[]),30038,Ckc9,[6],0),
  (15,(Ckl132,[Cke23,Cke86,Cke0],[]),30037,Ckc9,[7],0),
  (16,(Ckl132,[Cke6,Cke23,Cke86,Cke0],[]),30036,Ckc9,[8],0),
  (17,(Ckl132,[Cke6,Cke86,Cke0],[]),30035,Ckc9,[9],0),
  (18,(Ckl132,[Cke188,Cke6,Cke86,Cke0],[]),30034,Ckc9,[10],45),
  (21,(Ckl132,[],[]),30033,Ckc9,[11],0),
  (22,(Ckl132,[Cke7],[]),30032,Ckc9,[12],0),
  (24,(Ckl133,[],[]),30030,Ckc10,[14],0),
  (26,(Ckl134,[Cke166],[]),30045,Ckc9,[15],0),
  (26,(Ckl133,[Cke167],[]),30029,Ckc10,[16],0),
  (29,(Ckl134,[Cke153,Cke166],[]),30044,Ckc9,[17],0),
  (29,(Ckl133,[Cke153,Cke167],[]),30028,Ckc10,[45,17],0),
  (32,(Ckl135,[],[]),30027,Ckc10,[18],0),
  (33,(Ckl135,[Cke0],[]),30026,Ckc10,[19],0),
  (36,(Ckl135,[Cke46],[]),30025,Ckc10,[45,20],0),
  (39,(Ckl135,[],Ckf7),30024,Ckc10,[21],0),
  (40,(Ckl135,[Cke0],Ckf7),30023,Ckc10,[22],0),
  (41,(Ckl135,[Cke23,Cke0],Ckf7),30022,Ckc10,[23],39),
  (44,(Ckl135,[Cke175],Ckf7),30021,Ckc10,[24],0),
  (46,(Ckl136,[],Ckf7),30020,Ckc10,[25],0),
  (48,(Ckl136,[Cke176],Ckf7),30019,Ckc10,[26],0),
  (49,(Ckl136,[Cke51,Cke176],Ckf7),30018,Ckc10,[28,27],0),
  (52,(Ckl137,[],Ckf7),1,Ckc9,[],0),
  (53,(Ckl138,[],Ckf7),30017,Ckc10,[29],0),
  (54,(Ckl138,[Cke0],Ckf7),30016,Ckc10,[30],6),
  (57,(Ckl138,[],Ckf7),30015,Ckc10,[31],0),
  (58,(Ckl138,[Cke0],Ckf7),30014,Ckc10,[32],0),
  (59,(Ckl138,[Cke86,Cke0],Ckf7),30013,Ckc10,[33],0),
  (60,(Ckl138,[Cke23,Cke86,Cke0],Ckf7),30012,Ckc10,[34],0),
  (61,(Ckl138,[Cke6,Cke23,Cke86,Cke0],Ckf7),30011,Ckc10,[35],0),
  (62,(Ckl138,[Cke6,Cke86,Cke0],Ckf7),30010,Ckc10,[36],0),
  (63,(Ckl138,[Cke188,Cke6,Cke86,Cke0],Ckf7),30009,Ckc10,[37],45),
  (66,(Ckl138,[],[]),30008,Ckc10,[38],0),
  (67,(Ckl138,[Cke86],[]),30007,Ckc10,[39],0),
  (69,(Ckl138,[Cke170,Cke86],[]),30006,Ckc10,[40],30),
  (72,(Ckl138,[],[]),30005,Ckc10,[41],0),
  (73,(Ckl138,[Cke23],[]),30004,Ckc10,[42],0),
  (74,(Ckl138,[Cke6,Cke23],[]),30003,Ckc10,[43],0),
  (78,(Ckl138,[],[]),30002,Ckc10,[44],0),
  (81,(Ckl139,[],[]),30031,Ckc10,[12],0),
  (84,(Ckl133,[],[]),0,Ckc9,[],0)]
def CNC46 : List (List ND) := [CNC46_0]
theorem CKC46 : chkS prot SMsC SMC46 [] CNC46 = true := by decide +kernel
-- OneSided$Reader.part [(2, 2), (5, 5), (3, 3)]
def Ckl140 : AL := [some Cka0,some Cka50,some Cka32,none,none,none]
def Ckl141 : AL := [some Cka0,some Cka50,some Cka32,some Cka96,none,none]
def Ckl142 : AL := [some Cka0,some Cka50,some Cka32,some Cka96,some Cka96,none]
def Ckl143 : AL := [some Cka0,some Cka50,some Cka32,some Cka96,some Cka96,some Cka96]
def Ckl144 : AL := [some Cka0,some Cka50,some Cka32,some Cka7,some Cka96,some Cka96]
def Ckl145 : AL := [some Cka0,some Cka50,some Cka32,some Cka7,some Cka7,some Cka96]
def Ckl146 : AL := [some Cka0,some Cka50,some Cka32,some Cka7,some Cka7,some Cka7]
def Ckl147 : AL := [some Cka0,some Cka50,some Cka32,some Cka6,some Cka96,some Cka96]
def Ckl148 : AL := [some Cka0,some Cka50,some Cka32,some Cka7,some Cka7,some Cka6]
def CNC47_0 : List ND := [(0,(Ckl140,[],[]),87,Ckc9,[1],0),
  (1,(Ckl140,[Cke0],[]),86,Ckc9,[2],0),
  (4,(Ckl140,[Cke60],[]),85,Ckc9,[3],0),
  (5,(Ckl140,[Cke36,Cke60],[]),84,Ckc9,[6,4],0),
  (8,(Ckl140,[],Ckf25),83,Ckc9,[5],0),
  (9,(Ckl140,[Cke6],Ckf25),82,Ckc9,[8],0),
  (12,(Ckl140,[],Ckf24),80,Ckc9,[7],0),
  (13,(Ckl140,[Cke7],Ckf24),79,Ckc9,[9],0),
  (13,(Ckl140,[Cke6],Ckf25),81,Ckc9,[9],0),
  (14,(Ckl141,[],[]),78,Ckc9,[10],0),
  (15,(Ckl141,[Cke0],[]),77,Ckc9,[11],0),
  (18,(Ckl141,[Cke58],[]),76,Ckc9,[12],0),
  (20,(Ckl141,[Cke73,Cke58],[]),75,Ckc9,[15,13],0),
  (23,(Ckl141,[],Ckf46),72,Ckc9,[14],0),
  (24,(Ckl141,[Cke6],Ckf46),71,Ckc9,[17],0),
  (27,(Ckl141,[],Ckf47),74,Ckc9,[16],0),
  (28,(Ckl141,[Cke7],Ckf47),73,Ckc9,[18],0),
  (28,(Ckl141,[Cke6],Ckf46),70,Ckc9,[18],0),
  (30,(Ckl142,[],[]),69,Ckc9,[19],0),
  (31,(Ckl142,[Cke0],[]),68,Ckc9,[20],0),
  (33,(Ckl142,[Cke38,Cke0],[]),67,Ckc9,[22,21],12),
  (36,(Ckl142,[Cke7],[]),66,Ckc9,[23],0),
  (36,(Ckl142,[Cke6],[]),65,Ckc9,[23],0),
  (38,(Ckl143,[],[]),64,Ckc9,[24],0),
  (39,(Ckl143,[Cke142],[]),63,Ckc9,[37,25],0),
  (42,(Ckl144,[],[]),62,Ckc9,[26],0),
  (44,(Ckl144,[Cke157],[]),61,Ckc9,[37,27],0),
  (47,(Ckl145,[],[]),60,Ckc9,[28],0),
  (49,(Ckl145,[Cke158],[]),59,Ckc9,[37,29],0),
  (52,(Ckl146,[],[]),58,Ckc9,[30],0),
  (53,(Ckl146,[Cke0],[]),57,Ckc9,[31],0),
  (56,(Ckl146,[Cke58],[]),56,Ckc9,[32],0),
  (58,(Ckl146,[Cke159,Cke58],[]),55,Ckc9,[37,33],0),
  (61,(Ckl146,[],Ckf23),54,Ckc9,[34],0),
  (62,(Ckl146,[Cke0],Ckf23),53,Ckc9,[35],0),
  (63,(Ckl146,[Cke6,Cke0],Ckf23),52,Ckc9,[36],9),
  (66,(Ckl146,[],Ckf23),51,Ckc9,[],0),
  (67,(Ckl143,[],[]),50,Ckc9,[38],0),
  (68,(Ckl143,[Cke165],[]),49,Ckc9,[39],0),
  (69,(Ckl143,[Cke137,Cke165],[]),48,Ckc9,[40],0),
  (78,(Ckl143,[],[]),47,Ckc9,[41],0),
  (79,(Ckl143,[Cke142],[]),46,Ckc9,[44,42],0),
  (82,(Ckl144,[],[]),45,Ckc9,[43],0),
  (84,(Ckl144,[Cke157],[]),44,Ckc9,[61,44],0),
  (87,(Ckl143,[],[]),43,Ckc9,[45],0),
  (88,(Ckl143,[Cke86],[]),42,Ckc9,[46],0),
  (89,(Ckl143,[Cke142,Cke86],[]),41,Ckc9,[51,47],0),
  (92,(Ckl147,[Cke86],[]),34,Ckc9,[48],0),
  (93,(Ckl147,[Cke0,Cke86],[]),33,Ckc9,[49],0),
  (96,(Ckl147,[Cke18,Cke86],[]),32,Ckc9,[50],0),
  (97,(Ckl147,[Cke184,Cke86],[]),31,Ckc9,[57],0),
  (100,(Ckl144,[Cke86],[]),40,Ckc9,[52],0),
  (103,(Ckl144,[Cke185,Cke86],[]),39,Ckc9,[53],0),
  (104,(Ckl144,[Cke0,Cke185,Cke86],[]),38,Ckc9,[54],0),
  (107,(Ckl144,[Cke58,Cke185,Cke86],[]),37,Ckc9,[55],0),
  (108,(Ckl144,[Cke186,Cke86],[]),36,Ckc9,[56],0),
  (110,(Ckl144,[Cke73,Cke186,Cke86],[]),35,Ckc9,[57],0),
  (111,(Ckl143,[Cke184,Cke86],[]),30,Ckc9,[58],30),
  (114,(Ckl143,[],[]),29,Ckc9,[59],0),
  (115,(Ckl143,[Cke0],[]),28,Ckc9,[60],6),
  (118,(Ckl143,[],[]),27,Ckc9,[87],0),
  (121,(Ckl145,[],[]),26,Ckc9,[62],0),
  (123,(Ckl145,[Cke158],[]),25,Ckc9,[76,63],0),
  (126,(Ckl148,[],[]),24,Ckc9,[64],0)]
def CNC47_1 : List ND := [(127,(Ckl148,[Cke0],[]),23,Ckc9,[65],6),
  (130,(Ckl148,[],[]),22,Ckc9,[66],0),
  (131,(Ckl148,[Cke0],[]),21,Ckc9,[67],0),
  (132,(Ckl148,[Cke86,Cke0],[]),20,Ckc9,[68],0),
  (133,(Ckl148,[Cke7,Cke86,Cke0],[]),19,Ckc9,[69],0),
  (134,(Ckl148,[Cke165,Cke7,Cke86,Cke0],[]),18,Ckc9,[70],0),
  (135,(Ckl148,[Cke6,Cke165,Cke7,Cke86,Cke0],[]),17,Ckc9,[71],0),
  (136,(Ckl148,[Cke35,Cke7,Cke86,Cke0],[]),16,Ckc9,[72],46),
  (139,(Ckl148,[],[]),15,Ckc9,[73],0),
  (140,(Ckl148,[Cke0],[]),14,Ckc9,[74],0),
  (142,(Ckl148,[Cke39,Cke0],[]),13,Ckc9,[75],13),
  (145,(Ckl148,[],[]),12,Ckc9,[87],0),
  (148,(Ckl146,[],[]),11,Ckc9,[77],0),
  (149,(Ckl146,[Cke0],[]),10,Ckc9,[78],6),
  (152,(Ckl146,[],[]),9,Ckc9,[79],0),
  (153,(Ckl146,[Cke0],[]),8,Ckc9,[80],0),
  (154,(Ckl146,[Cke86,Cke0],[]),7,Ckc9,[81],0),
  (155,(Ckl146,[Cke165,Cke86,Cke0],[]),6,Ckc9,[82],0),
  (156,(Ckl146,[Cke6,Cke165,Cke86,Cke0],[]),5,Ckc9,[83],0),
  (157,(Ckl146,[Cke35,Cke86,Cke0],[]),4,Ckc9,[84],41),
  (160,(Ckl146,[],[]),3,Ckc9,[85],0),
  (161,(Ckl146,[Cke86],[]),2,Ckc9,[86],0),
  (164,(Ckl146,[Cke187,Cke86],[]),1,Ckc9,[87],30),
  (167,(Ckl143,[],[]),0,Ckc9,[],0)]
def CNC47 : List (List ND) := [CNC47_0, CNC47_1]
theorem CKC47 : chkS prot SMsC SMC47 [] CNC47 = true := by decide +kernel
-- OneSided$Reader.expression [(2, 2), (5, 5), (4, 4), (3, 3)]
def Ckl149 : AL := [some Cka0,some Cka50,some Cka31,some Cka32,none,none]
def Cke189 : SE := (Cka32,(1,3,0,0,0))
def CNC48_0 : List ND := [(0,(Ckl149,[],[]),7,Ckc9,[1],0),
  (1,(Ckl149,[Cke161],[]),6,Ckc9,[2],0),
  (2,(Ckl149,[Cke35,Cke161],[]),5,Ckc9,[3],0),
  (5,(Ckl149,[],[]),4,Ckc9,[4],0),
  (6,(Ckl149,[Cke0],[]),3,Ckc9,[5],0),
  (7,(Ckl149,[Cke86,Cke0],[]),2,Ckc9,[6],0),
  (8,(Ckl149,[Cke189,Cke86,Cke0],[]),1,Ckc9,[7],47),
  (11,(Ckl149,[],[]),0,Ckc9,[],0)]
def CNC48 : List (List ND) := [CNC48_0]
theorem CKC48 : chkS prot SMsC SMC48 [] CNC48 = true := by decide +kernel
-- OneSided$Reader.expression [(2, 2), (5, 5), (3, 3), (3, 3)]
def Ckl150 : AL := [some Cka0,some Cka50,some Cka32,some Cka32,none,none]
def Ckl151 : AL := [some Cka0,some Cka50,some Cka32,some Cka32,some Cka14,none]
def Ckl152 : AL := [some Cka0,some Cka50,some Cka32,some Cka32,some Cka7,none]
def Ckl153 : AL := [some Cka0,some Cka50,some Cka32,some Cka32,some Cka1,none]
def Ckl154 : AL := [some Cka0,some Cka50,some Cka32,some Cka32,some Cka1,some Cka104]
def Ckl155 : AL := [some Cka0,some Cka50,some Cka32,some Cka32,some Cka1,some Cka49]
def Ckl156 : AL := [some Cka0,some Cka50,some Cka32,some Cka32,some Cka1,some Cka105]
def Ckl157 : AL := [some Cka0,some Cka50,some Cka32,some Cka32,some Cka15,some Cka105]
def CNC49_0 : List ND := [(0,(Ckl150,[],[]),30043,Ckc9,[1],0),
  (1,(Ckl150,[Cke165],[]),30042,Ckc9,[2],0),
  (2,(Ckl150,[Cke35,Cke165],[]),30041,Ckc9,[3],0),
  (12,(Ckl150,[],[]),30040,Ckc9,[4],0),
  (13,(Ckl150,[Cke0],[]),30039,Ckc9,[5],0),
  (14,(Ckl150,[Cke86,Cke0],[]),30038,Ckc9,[6],0),
  (15,(Ckl150,[Cke165,Cke86,Cke0],[]),30037,Ckc9,[7],0),
  (16,(Ckl150,[Cke6,Cke165,Cke86,Cke0],[]),30036,Ckc9,[8],0),
  (17,(Ckl150,[Cke35,Cke86,Cke0],[]),30035,Ckc9,[9],0),
  (18,(Ckl150,[Cke189,Cke35,Cke86,Cke0],[]),30034,Ckc9,[10],48),
  (21,(Ckl150,[],[]),30033,Ckc9,[11],0),
  (22,(Ckl150,[Cke7],[]),30032,Ckc9,[12],0),
  (24,(Ckl151,[],[]),30030,Ckc10,[14],0),
  (26,(Ckl152,[Cke166],[]),30045,Ckc9,[15],0),
  (26,(Ckl151,[Cke167],[]),30029,Ckc10,[16],0),
  (29,(Ckl152,[Cke153,Cke166],[]),30044,Ckc9,[17],0),
  (29,(Ckl151,[Cke153,Cke167],[]),30028,Ckc10,[45,17],0),
  (32,(Ckl153,[],[]),30027,Ckc10,[18],0),
  (33,(Ckl153,[Cke0],[]),30026,Ckc10,[19],0),
  (36,(Ckl153,[Cke46],[]),30025,Ckc10,[45,20],0),
  (39,(Ckl153,[],Ckf7),30024,Ckc10,[21],0),
  (40,(Ckl153,[Cke0],Ckf7),30023,Ckc10,[22],0),
  (41,(Ckl153,[Cke165,Cke0],Ckf7),30022,Ckc10,[23],33),
  (44,(Ckl153,[Cke168],Ckf7),30021,Ckc10,[24],0),
  (46,(Ckl154,[],Ckf7),30020,Ckc10,[25],0),
  (48,(Ckl154,[Cke169],Ckf7),30019,Ckc10,[26],0),
  (49,(Ckl154,[Cke51,Cke169],Ckf7),30018,Ckc10,[28,27],0),
  (52,(Ckl155,[],Ckf7),1,Ckc9,[],0),
  (53,(Ckl156,[],Ckf7),30017,Ckc10,[29],0),
  (54,(Ckl156,[Cke0],Ckf7),30016,Ckc10,[30],6),
  (57,(Ckl156,[],Ckf7),30015,Ckc10,[31],0),
  (58,(Ckl156,[Cke0],Ckf7),30014,Ckc10,[32],0),
  (59,(Ckl156,[Cke86,Cke0],Ckf7),30013,Ckc10,[33],0),
  (60,(Ckl156,[Cke165,Cke86,Cke0],Ckf7),30012,Ckc10,[34],0),
  (61,(Ckl156,[Cke6,Cke165,Cke86,Cke0],Ckf7),30011,Ckc10,[35],0),
  (62,(Ckl156,[Cke35,Cke86,Cke0],Ckf7),30010,Ckc10,[36],0),
  (63,(Ckl156,[Cke189,Cke35,Cke86,Cke0],Ckf7),30009,Ckc10,[37],48),
  (66,(Ckl156,[],[]),30008,Ckc10,[38],0),
  (67,(Ckl156,[Cke86],[]),30007,Ckc10,[39],0),
  (69,(Ckl156,[Cke170,Cke86],[]),30006,Ckc10,[40],30),
  (72,(Ckl156,[],[]),30005,Ckc10,[41],0),
  (73,(Ckl156,[Cke165],[]),30004,Ckc10,[42],0),
  (74,(Ckl156,[Cke6,Cke165],[]),30003,Ckc10,[43],0),
  (78,(Ckl156,[],[]),30002,Ckc10,[44],0),
  (81,(Ckl157,[],[]),30031,Ckc10,[12],0),
  (84,(Ckl151,[],[]),0,Ckc9,[],0)]
def CNC49 : List (List ND) := [CNC49_0]
theorem CKC49 : chkS prot SMsC SMC49 [] CNC49 = true := by decide +kernel
-- OneSided$Reader.expression [(2, 2), (5, 5), (2, 2), (3, 3)]
def Ckl158 : AL := [some Cka0,some Cka50,some Cka18,some Cka32,none,none]
def Ckl159 : AL := [some Cka0,some Cka50,some Cka18,some Cka32,some Cka14,none]
def Ckl160 : AL := [some Cka0,some Cka50,some Cka18,some Cka32,some Cka7,none]
def Ckl161 : AL := [some Cka0,some Cka50,some Cka18,some Cka32,some Cka1,none]
def Ckl162 : AL := [some Cka0,some Cka50,some Cka18,some Cka32,some Cka1,some Cka109]
def Ckl163 : AL := [some Cka0,some Cka50,some Cka18,some Cka32,some Cka1,some Cka49]
def Ckl164 : AL := [some Cka0,some Cka50,some Cka18,some Cka32,some Cka1,some Cka105]
def Ckl165 : AL := [some Cka0,some Cka50,some Cka18,some Cka32,some Cka15,some Cka105]
def CNC50_0 : List ND := [(0,(Ckl158,[],[]),30043,Ckc9,[1],0),
  (1,(Ckl158,[Cke174],[]),30042,Ckc9,[2],0),
  (2,(Ckl158,[Cke35,Cke174],[]),30041,Ckc9,[3],0),
  (12,(Ckl158,[],[]),30040,Ckc9,[4],0),
  (13,(Ckl158,[Cke0],[]),30039,Ckc9,[5],0),
  (14,(Ckl158,[Cke86,Cke0],[]),30038,Ckc9,[6],0),
  (15,(Ckl158,[Cke174,Cke86,Cke0],[]),30037,Ckc9,[7],0),
  (16,(Ckl158,[Cke6,Cke174,Cke86,Cke0],[]),30036,Ckc9,[8],0),
  (17,(Ckl158,[Cke36,Cke86,Cke0],[]),30035,Ckc9,[9],0),
  (18,(Ckl158,[Cke189,Cke36,Cke86,Cke0],[]),30034,Ckc9,[10],49),
  (21,(Ckl158,[],[]),30033,Ckc9,[11],0),
  (22,(Ckl158,[Cke7],[]),30032,Ckc9,[12],0),
  (24,(Ckl159,[],[]),30030,Ckc10,[14],0),
  (26,(Ckl160,[Cke166],[]),30045,Ckc9,[15],0),
  (26,(Ckl159,[Cke167],[]),30029,Ckc10,[16],0),
  (29,(Ckl160,[Cke153,Cke166],[]),30044,Ckc9,[17],0),
  (29,(Ckl159,[Cke153,Cke167],[]),30028,Ckc10,[45,17],0),
  (32,(Ckl161,[],[]),30027,Ckc10,[18],0),
  (33,(Ckl161,[Cke0],[]),30026,Ckc10,[19],0),
  (36,(Ckl161,[Cke46],[]),30025,Ckc10,[45,20],0),
  (39,(Ckl161,[],Ckf7),30024,Ckc10,[21],0),
  (40,(Ckl161,[Cke0],Ckf7),30023,Ckc10,[22],0),
  (41,(Ckl161,[Cke174,Cke0],Ckf7),30022,Ckc10,[23],35),
  (44,(Ckl161,[Cke175],Ckf7),30021,Ckc10,[24],0),
  (46,(Ckl162,[],Ckf7),30020,Ckc10,[25],0),
  (48,(Ckl162,[Cke176],Ckf7),30019,Ckc10,[26],0),
  (49,(Ckl162,[Cke51,Cke176],Ckf7),30018,Ckc10,[28,27],0),
  (52,(Ckl163,[],Ckf7),1,Ckc9,[],0),
  (53,(Ckl164,[],Ckf7),30017,Ckc10,[29],0),
  (54,(Ckl164,[Cke0],Ckf7),30016,Ckc10,[30],6),
  (57,(Ckl164,[],Ckf7),30015,Ckc10,[31],0),
  (58,(Ckl164,[Cke0],Ckf7),30014,Ckc10,[32],0),
  (59,(Ckl164,[Cke86,Cke0],Ckf7),30013,Ckc10,[33],0),
  (60,(Ckl164,[Cke174,Cke86,Cke0],Ckf7),30012,Ckc10,[34],0),
  (61,(Ckl164,[Cke6,Cke174,Cke86,Cke0],Ckf7),30011,Ckc10,[35],0),
  (62,(Ckl164,[Cke36,Cke86,Cke0],Ckf7),30010,Ckc10,[36],0),
  (63,(Ckl164,[Cke189,Cke36,Cke86,Cke0],Ckf7),30009,Ckc10,[37],49),
  (66,(Ckl164,[],[]),30008,Ckc10,[38],0),
  (67,(Ckl164,[Cke86],[]),30007,Ckc10,[39],0),
  (69,(Ckl164,[Cke170,Cke86],[]),30006,Ckc10,[40],30),
  (72,(Ckl164,[],[]),30005,Ckc10,[41],0),
  (73,(Ckl164,[Cke174],[]),30004,Ckc10,[42],0),
  (74,(Ckl164,[Cke6,Cke174],[]),30003,Ckc10,[43],0),
  (78,(Ckl164,[],[]),30002,Ckc10,[44],0),
  (81,(Ckl165,[],[]),30031,Ckc10,[12],0),
  (84,(Ckl159,[],[]),0,Ckc9,[],0)]
def CNC50 : List (List ND) := [CNC50_0]
theorem CKC50 : chkS prot SMsC SMC50 [] CNC50 = true := by decide +kernel
-- OneSided$Reader.expression [(2, 2), (5, 5), (1, 1), (3, 3)]
def Ckl166 : AL := [some Cka0,some Cka50,some Cka6,some Cka32,none,none]
def Ckl167 : AL := [some Cka0,some Cka50,some Cka6,some Cka32,some Cka7,none]
def Ckl168 : AL := [some Cka0,some Cka50,some Cka6,some Cka32,some Cka7,some Cka109]
def Ckl169 : AL := [some Cka0,some Cka50,some Cka6,some Cka32,some Cka7,some Cka49]
def Ckl170 : AL := [some Cka0,some Cka50,some Cka6,some Cka32,some Cka7,some Cka105]
def CNC51_0 : List ND := [(0,(Ckl166,[],[]),42,Ckc9,[1],0),
  (1,(Ckl166,[Cke180],[]),41,Ckc9,[2],0),
  (2,(Ckl166,[Cke35,Cke180],[]),40,Ckc9,[3],0),
  (12,(Ckl166,[],[]),39,Ckc9,[4],0),
  (13,(Ckl166,[Cke0],[]),38,Ckc9,[5],0),
  (14,(Ckl166,[Cke86,Cke0],[]),37,Ckc9,[6],0),
  (15,(Ckl166,[Cke180,Cke86,Cke0],[]),36,Ckc9,[7],0),
  (16,(Ckl166,[Cke6,Cke180,Cke86,Cke0],[]),35,Ckc9,[8],0),
  (17,(Ckl166,[Cke22,Cke86,Cke0],[]),34,Ckc9,[9],0),
  (18,(Ckl166,[Cke189,Cke22,Cke86,Cke0],[]),33,Ckc9,[10],50),
  (21,(Ckl166,[],[]),32,Ckc9,[11],0),
  (22,(Ckl166,[Cke7],[]),31,Ckc9,[12],0),
  (24,(Ckl167,[],[]),30,Ckc9,[13],0),
  (26,(Ckl167,[Cke166],[]),29,Ckc9,[14],0),
  (29,(Ckl167,[Cke153,Cke166],[]),28,Ckc9,[15],0),
  (32,(Ckl167,[],[]),27,Ckc9,[16],0),
  (33,(Ckl167,[Cke0],[]),26,Ckc9,[17],0),
  (36,(Ckl167,[Cke46],[]),25,Ckc9,[42,18],0),
  (39,(Ckl167,[],Ckf7),23,Ckc9,[19],0),
  (40,(Ckl167,[Cke0],Ckf7),22,Ckc9,[20],0),
  (41,(Ckl167,[Cke180,Cke0],Ckf7),21,Ckc9,[21],37),
  (44,(Ckl167,[Cke175],Ckf7),20,Ckc9,[22],0),
  (46,(Ckl168,[],Ckf7),19,Ckc9,[23],0),
  (48,(Ckl168,[Cke176],Ckf7),18,Ckc9,[24],0),
  (49,(Ckl168,[Cke51,Cke176],Ckf7),17,Ckc9,[26,25],0),
  (52,(Ckl169,[],Ckf7),16,Ckc9,[],0),
  (53,(Ckl170,[],Ckf7),15,Ckc9,[27],0),
  (54,(Ckl170,[Cke0],Ckf7),14,Ckc9,[28],6),
  (57,(Ckl170,[],Ckf7),13,Ckc9,[29],0),
  (58,(Ckl170,[Cke0],Ckf7),12,Ckc9,[30],0),
  (59,(Ckl170,[Cke86,Cke0],Ckf7),11,Ckc9,[31],0),
  (60,(Ckl170,[Cke180,Cke86,Cke0],Ckf7),10,Ckc9,[32],0),
  (61,(Ckl170,[Cke6,Cke180,Cke86,Cke0],Ckf7),9,Ckc9,[33],0),
  (62,(Ckl170,[Cke22,Cke86,Cke0],Ckf7),8,Ckc9,[34],0),
  (63,(Ckl170,[Cke189,Cke22,Cke86,Cke0],Ckf7),7,Ckc9,[35],50),
  (66,(Ckl170,[],[]),6,Ckc9,[36],0),
  (67,(Ckl170,[Cke86],[]),5,Ckc9,[37],0),
  (69,(Ckl170,[Cke170,Cke86],[]),4,Ckc9,[38],30),
  (72,(Ckl170,[],[]),3,Ckc9,[39],0),
  (73,(Ckl170,[Cke180],[]),2,Ckc9,[40],0),
  (74,(Ckl170,[Cke6,Cke180],[]),1,Ckc9,[41],0),
  (77,(Ckl170,[],[]),0,Ckc9,[],0),
  (84,(Ckl167,[],Ckf6),24,Ckc9,[],0)]
def CNC51 : List (List ND) := [CNC51_0]
theorem CKC51 : chkS prot SMsC SMC51 [] CNC51 = true := by decide +kernel
-- OneSided$Reader.expression [(2, 2), (5, 5), (0, 0), (3, 3)]
def Ckl171 : AL := [some Cka0,some Cka50,some Cka7,some Cka32,none,none]
def Ckl172 : AL := [some Cka0,some Cka50,some Cka7,some Cka32,some Cka14,none]
def Ckl173 : AL := [some Cka0,some Cka50,some Cka7,some Cka32,some Cka7,none]
def Ckl174 : AL := [some Cka0,some Cka50,some Cka7,some Cka32,some Cka1,none]
def Ckl175 : AL := [some Cka0,some Cka50,some Cka7,some Cka32,some Cka1,some Cka109]
def Ckl176 : AL := [some Cka0,some Cka50,some Cka7,some Cka32,some Cka1,some Cka49]
def Ckl177 : AL := [some Cka0,some Cka50,some Cka7,some Cka32,some Cka1,some Cka105]
def Ckl178 : AL := [some Cka0,some Cka50,some Cka7,some Cka32,some Cka15,some Cka105]
def CNC52_0 : List ND := [(0,(Ckl171,[],[]),30043,Ckc9,[1],0),
  (1,(Ckl171,[Cke23],[]),30042,Ckc9,[2],0),
  (2,(Ckl171,[Cke35,Cke23],[]),30041,Ckc9,[3],0),
  (12,(Ckl171,[],[]),30040,Ckc9,[4],0),
  (13,(Ckl171,[Cke0],[]),30039,Ckc9,[5],0),
  (14,(Ckl171,[Cke86,Cke0],[]),30038,Ckc9,[6],0),
  (15,(Ckl171,[Cke23,Cke86,Cke0],[]),30037,Ckc9,[7],0),
  (16,(Ckl171,[Cke6,Cke23,Cke86,Cke0],[]),30036,Ckc9,[8],0),
  (17,(Ckl171,[Cke6,Cke86,Cke0],[]),30035,Ckc9,[9],0),
  (18,(Ckl171,[Cke189,Cke6,Cke86,Cke0],[]),30034,Ckc9,[10],51),
  (21,(Ckl171,[],[]),30033,Ckc9,[11],0),
  (22,(Ckl171,[Cke7],[]),30032,Ckc9,[12],0),
  (24,(Ckl172,[],[]),30030,Ckc10,[14],0),
  (26,(Ckl173,[Cke166],[]),30045,Ckc9,[15],0),
  (26,(Ckl172,[Cke167],[]),30029,Ckc10,[16],0),
  (29,(Ckl173,[Cke153,Cke166],[]),30044,Ckc9,[17],0),
  (29,(Ckl172,[Cke153,Cke167],[]),30028,Ckc10,[45,17],0),
  (32,(Ckl174,[],[]),30027,Ckc10,[18],0),
  (33,(Ckl174,[Cke0],[]),30026,Ckc10,[19],0),
  (36,(Ckl174,[Cke46],[]),30025,Ckc10,[45,20],0),
  (39,(Ckl174,[],Ckf7),30024,Ckc10,[21],0),
  (40,(Ckl174,[Cke0],Ckf7),30023,Ckc10,[22],0),
  (41,(Ckl174,[Cke23,Cke0],Ckf7),30022,Ckc10,[23],39),
  (44,(Ckl174,[Cke175],Ckf7),30021,Ckc10,[24],0),
  (46,(Ckl175,[],Ckf7),30020,Ckc10,[25],0),
  (48,(Ckl175,[Cke176],Ckf7),30019,Ckc10,[26],0),
  (49,(Ckl175,[Cke51,Cke176],Ckf7),30018,Ckc10,[28,27],0),
  (52,(Ckl176,[],Ckf7),1,Ckc9,[],0),
  (53,(Ckl177,[],Ckf7),30017,Ckc10,[29],0),
  (54,(Ckl177,[Cke0],Ckf7),30016,Ckc10,[30],6),
  (57,(Ckl177,[],Ckf7),30015,Ckc10,[31],0),
  (58,(Ckl177,[Cke0],Ckf7),30014,Ckc10,[32],0),
  (59,(Ckl177,[Cke86,Cke0],Ckf7),30013,Ckc10,[33],0),
  (60,(Ckl177,[Cke23,Cke86,Cke0],Ckf7),30012,Ckc10,[34],0),
  (61,(Ckl177,[Cke6,Cke23,Cke86,Cke0],Ckf7),30011,Ckc10,[35],0),
  (62,(Ckl177,[Cke6,Cke86,Cke0],Ckf7),30010,Ckc10,[36],0),
  (63,(Ckl177,[Cke189,Cke6,Cke86,Cke0],Ckf7),30009,Ckc10,[37],51),
  (66,(Ckl177,[],[]),30008,Ckc10,[38],0),
  (67,(Ckl177,[Cke86],[]),30007,Ckc10,[39],0),
  (69,(Ckl177,[Cke170,Cke86],[]),30006,Ckc10,[40],30),
  (72,(Ckl177,[],[]),30005,Ckc10,[41],0),
  (73,(Ckl177,[Cke23],[]),30004,Ckc10,[42],0),
  (74,(Ckl177,[Cke6,Cke23],[]),30003,Ckc10,[43],0),
  (78,(Ckl177,[],[]),30002,Ckc10,[44],0),
  (81,(Ckl178,[],[]),30031,Ckc10,[12],0),
  (84,(Ckl172,[],[]),0,Ckc9,[],0)]
def CNC52 : List (List ND) := [CNC52_0]
theorem CKC52 : chkS prot SMsC SMC52 [] CNC52 = true := by decide +kernel
-- OneSided$Reader.part [(2, 2), (5, 5), (2, 2)]
def Ckl179 : AL := [some Cka0,some Cka50,some Cka18,none,none,none]
def Ckl180 : AL := [some Cka0,some Cka50,some Cka18,some Cka96,none,none]
def Ckl181 : AL := [some Cka0,some Cka50,some Cka18,some Cka96,some Cka96,none]
def Ckl182 : AL := [some Cka0,some Cka50,some Cka18,some Cka96,some Cka96,some Cka96]
def Ckl183 : AL := [some Cka0,some Cka50,some Cka18,some Cka7,some Cka96,some Cka96]
def Ckl184 : AL := [some Cka0,some Cka50,some Cka18,some Cka7,some Cka7,some Cka96]
def Ckl185 : AL := [some Cka0,some Cka50,some Cka18,some Cka7,some Cka7,some Cka7]
def Ckl186 : AL := [some Cka0,some Cka50,some Cka18,some Cka6,some Cka96,some Cka96]
def Ckl187 : AL := [some Cka0,some Cka50,some Cka18,some Cka7,some Cka7,some Cka6]
def CNC53_0 : List ND := [(0,(Ckl179,[],[]),87,Ckc9,[1],0),
  (1,(Ckl179,[Cke0],[]),86,Ckc9,[2],0),
  (4,(Ckl179,[Cke60],[]),85,Ckc9,[3],0),
  (5,(Ckl179,[Cke36,Cke60],[]),84,Ckc9,[6,4],0),
  (8,(Ckl179,[],Ckf25),83,Ckc9,[5],0),
  (9,(Ckl179,[Cke6],Ckf25),82,Ckc9,[8],0),
  (12,(Ckl179,[],Ckf24),80,Ckc9,[7],0),
  (13,(Ckl179,[Cke7],Ckf24),79,Ckc9,[9],0),
  (13,(Ckl179,[Cke6],Ckf25),81,Ckc9,[9],0),
  (14,(Ckl180,[],[]),78,Ckc9,[10],0),
  (15,(Ckl180,[Cke0],[]),77,Ckc9,[11],0),
  (18,(Ckl180,[Cke58],[]),76,Ckc9,[12],0),
  (20,(Ckl180,[Cke73,Cke58],[]),75,Ckc9,[15,13],0),
  (23,(Ckl180,[],Ckf46),72,Ckc9,[14],0),
  (24,(Ckl180,[Cke6],Ckf46),71,Ckc9,[17],0),
  (27,(Ckl180,[],Ckf47),74,Ckc9,[16],0),
  (28,(Ckl180,[Cke7],Ckf47),73,Ckc9,[18],0),
  (28,(Ckl180,[Cke6],Ckf46),70,Ckc9,[18],0),
  (30,(Ckl181,[],[]),69,Ckc9,[19],0),
  (31,(Ckl181,[Cke0],[]),68,Ckc9,[20],0),
  (33,(Ckl181,[Cke38,Cke0],[]),67,Ckc9,[22,21],12),
  (36,(Ckl181,[Cke7],[]),66,Ckc9,[23],0),
  (36,(Ckl181,[Cke6],[]),65,Ckc9,[23],0),
  (38,(Ckl182,[],[]),64,Ckc9,[24],0),
  (39,(Ckl182,[Cke142],[]),63,Ckc9,[37,25],0),
  (42,(Ckl183,[],[]),62,Ckc9,[26],0),
  (44,(Ckl183,[Cke157],[]),61,Ckc9,[37,27],0),
  (47,(Ckl184,[],[]),60,Ckc9,[28],0),
  (49,(Ckl184,[Cke158],[]),59,Ckc9,[37,29],0),
  (52,(Ckl185,[],[]),58,Ckc9,[30],0),
  (53,(Ckl185,[Cke0],[]),57,Ckc9,[31],0),
  (56,(Ckl185,[Cke58],[]),56,Ckc9,[32],0),
  (58,(Ckl185,[Cke159,Cke58],[]),55,Ckc9,[37,33],0),
  (61,(Ckl185,[],Ckf23),54,Ckc9,[34],0),
  (62,(Ckl185,[Cke0],Ckf23),53,Ckc9,[35],0),
  (63,(Ckl185,[Cke6,Cke0],Ckf23),52,Ckc9,[36],9),
  (66,(Ckl185,[],Ckf23),51,Ckc9,[],0),
  (67,(Ckl182,[],[]),50,Ckc9,[38],0),
  (68,(Ckl182,[Cke174],[]),49,Ckc9,[39],0),
  (69,(Ckl182,[Cke137,Cke174],[]),48,Ckc9,[40],0),
  (78,(Ckl182,[],[]),47,Ckc9,[41],0),
  (79,(Ckl182,[Cke142],[]),46,Ckc9,[44,42],0),
  (82,(Ckl183,[],[]),45,Ckc9,[43],0),
  (84,(Ckl183,[Cke157],[]),44,Ckc9,[61,44],0),
  (87,(Ckl182,[],[]),43,Ckc9,[45],0),
  (88,(Ckl182,[Cke86],[]),42,Ckc9,[46],0),
  (89,(Ckl182,[Cke142,Cke86],[]),41,Ckc9,[51,47],0),
  (92,(Ckl186,[Cke86],[]),34,Ckc9,[48],0),
  (93,(Ckl186,[Cke0,Cke86],[]),33,Ckc9,[49],0),
  (96,(Ckl186,[Cke18,Cke86],[]),32,Ckc9,[50],0),
  (97,(Ckl186,[Cke184,Cke86],[]),31,Ckc9,[57],0),
  (100,(Ckl183,[Cke86],[]),40,Ckc9,[52],0),
  (103,(Ckl183,[Cke185,Cke86],[]),39,Ckc9,[53],0),
  (104,(Ckl183,[Cke0,Cke185,Cke86],[]),38,Ckc9,[54],0),
  (107,(Ckl183,[Cke58,Cke185,Cke86],[]),37,Ckc9,[55],0),
  (108,(Ckl183,[Cke186,Cke86],[]),36,Ckc9,[56],0),
  (110,(Ckl183,[Cke73,Cke186,Cke86],[]),35,Ckc9,[57],0),
  (111,(Ckl182,[Cke184,Cke86],[]),30,Ckc9,[58],30),
  (114,(Ckl182,[],[]),29,Ckc9,[59],0),
  (115,(Ckl182,[Cke0],[]),28,Ckc9,[60],6),
  (118,(Ckl182,[],[]),27,Ckc9,[87],0),
  (121,(Ckl184,[],[]),26,Ckc9,[62],0),
  (123,(Ckl184,[Cke158],[]),25,Ckc9,[76,63],0),
  (126,(Ckl187,[],[]),24,Ckc9,[64],0)]
def CNC53_1 : List ND := [(127,(Ckl187,[Cke0],[]),23,Ckc9,[65],6),
  (130,(Ckl187,[],[]),22,Ckc9,[66],0),
  (131,(Ckl187,[Cke0],[]),21,Ckc9,[67],0),
  (132,(Ckl187,[Cke86,Cke0],[]),20,Ckc9,[68],0),
  (133,(Ckl187,[Cke7,Cke86,Cke0],[]),19,Ckc9,[69],0),
  (134,(Ckl187,[Cke174,Cke7,Cke86,Cke0],[]),18,Ckc9,[70],0),
  (135,(Ckl187,[Cke6,Cke174,Cke7,Cke86,Cke0],[]),17,Ckc9,[71],0),
  (136,(Ckl187,[Cke36,Cke7,Cke86,Cke0],[]),16,Ckc9,[72],52),
  (139,(Ckl187,[],[]),15,Ckc9,[73],0),
  (140,(Ckl187,[Cke0],[]),14,Ckc9,[74],0),
  (142,(Ckl187,[Cke39,Cke0],[]),13,Ckc9,[75],13),
  (145,(Ckl187,[],[]),12,Ckc9,[87],0),
  (148,(Ckl185,[],[]),11,Ckc9,[77],0),
  (149,(Ckl185,[Cke0],[]),10,Ckc9,[78],6),
  (152,(Ckl185,[],[]),9,Ckc9,[79],0),
  (153,(Ckl185,[Cke0],[]),8,Ckc9,[80],0),
  (154,(Ckl185,[Cke86,Cke0],[]),7,Ckc9,[81],0),
  (155,(Ckl185,[Cke174,Cke86,Cke0],[]),6,Ckc9,[82],0),
  (156,(Ckl185,[Cke6,Cke174,Cke86,Cke0],[]),5,Ckc9,[83],0),
  (157,(Ckl185,[Cke36,Cke86,Cke0],[]),4,Ckc9,[84],47),
  (160,(Ckl185,[],[]),3,Ckc9,[85],0),
  (161,(Ckl185,[Cke86],[]),2,Ckc9,[86],0),
  (164,(Ckl185,[Cke187,Cke86],[]),1,Ckc9,[87],30),
  (167,(Ckl182,[],[]),0,Ckc9,[],0)]
def CNC53 : List (List ND) := [CNC53_0, CNC53_1]
theorem CKC53 : chkS prot SMsC SMC53 [] CNC53 = true := by decide +kernel
-- OneSided$Reader.expression [(2, 2), (5, 5), (4, 4), (2, 2)]
def Ckl188 : AL := [some Cka0,some Cka50,some Cka31,some Cka18,none,none]
def Cke190 : SE := (Cka18,(1,3,0,0,0))
def CNC54_0 : List ND := [(0,(Ckl188,[],[]),7,Ckc9,[1],0),
  (1,(Ckl188,[Cke161],[]),6,Ckc9,[2],0),
  (2,(Ckl188,[Cke35,Cke161],[]),5,Ckc9,[3],0),
  (5,(Ckl188,[],[]),4,Ckc9,[4],0),
  (6,(Ckl188,[Cke0],[]),3,Ckc9,[5],0),
  (7,(Ckl188,[Cke86,Cke0],[]),2,Ckc9,[6],0),
  (8,(Ckl188,[Cke190,Cke86,Cke0],[]),1,Ckc9,[7],53),
  (11,(Ckl188,[],[]),0,Ckc9,[],0)]
def CNC54 : List (List ND) := [CNC54_0]
theorem CKC54 : chkS prot SMsC SMC54 [] CNC54 = true := by decide +kernel
-- OneSided$Reader.expression [(2, 2), (5, 5), (3, 3), (2, 2)]
def Ckl189 : AL := [some Cka0,some Cka50,some Cka32,some Cka18,none,none]
def Ckl190 : AL := [some Cka0,some Cka50,some Cka32,some Cka18,some Cka14,none]
def Ckl191 : AL := [some Cka0,some Cka50,some Cka32,some Cka18,some Cka7,none]
def Ckl192 : AL := [some Cka0,some Cka50,some Cka32,some Cka18,some Cka1,none]
def Ckl193 : AL := [some Cka0,some Cka50,some Cka32,some Cka18,some Cka1,some Cka104]
def Ckl194 : AL := [some Cka0,some Cka50,some Cka32,some Cka18,some Cka1,some Cka49]
def Ckl195 : AL := [some Cka0,some Cka50,some Cka32,some Cka18,some Cka1,some Cka105]
def Ckl196 : AL := [some Cka0,some Cka50,some Cka32,some Cka18,some Cka15,some Cka105]
def CNC55_0 : List ND := [(0,(Ckl189,[],[]),30043,Ckc9,[1],0),
  (1,(Ckl189,[Cke165],[]),30042,Ckc9,[2],0),
  (2,(Ckl189,[Cke35,Cke165],[]),30041,Ckc9,[3],0),
  (12,(Ckl189,[],[]),30040,Ckc9,[4],0),
  (13,(Ckl189,[Cke0],[]),30039,Ckc9,[5],0),
  (14,(Ckl189,[Cke86,Cke0],[]),30038,Ckc9,[6],0),
  (15,(Ckl189,[Cke165,Cke86,Cke0],[]),30037,Ckc9,[7],0),
  (16,(Ckl189,[Cke6,Cke165,Cke86,Cke0],[]),30036,Ckc9,[8],0),
  (17,(Ckl189,[Cke35,Cke86,Cke0],[]),30035,Ckc9,[9],0),
  (18,(Ckl189,[Cke190,Cke35,Cke86,Cke0],[]),30034,Ckc9,[10],54),
  (21,(Ckl189,[],[]),30033,Ckc9,[11],0),
  (22,(Ckl189,[Cke7],[]),30032,Ckc9,[12],0),
  (24,(Ckl190,[],[]),30030,Ckc10,[14],0),
  (26,(Ckl191,[Cke166],[]),30045,Ckc9,[15],0),
  (26,(Ckl190,[Cke167],[]),30029,Ckc10,[16],0),
  (29,(Ckl191,[Cke153,Cke166],[]),30044,Ckc9,[17],0),
  (29,(Ckl190,[Cke153,Cke167],[]),30028,Ckc10,[45,17],0),
  (32,(Ckl192,[],[]),30027,Ckc10,[18],0),
  (33,(Ckl192,[Cke0],[]),30026,Ckc10,[19],0),
  (36,(Ckl192,[Cke46],[]),30025,Ckc10,[45,20],0),
  (39,(Ckl192,[],Ckf7),30024,Ckc10,[21],0),
  (40,(Ckl192,[Cke0],Ckf7),30023,Ckc10,[22],0),
  (41,(Ckl192,[Cke165,Cke0],Ckf7),30022,Ckc10,[23],33),
  (44,(Ckl192,[Cke168],Ckf7),30021,Ckc10,[24],0),
  (46,(Ckl193,[],Ckf7),30020,Ckc10,[25],0),
  (48,(Ckl193,[Cke169],Ckf7),30019,Ckc10,[26],0),
  (49,(Ckl193,[Cke51,Cke169],Ckf7),30018,Ckc10,[28,27],0),
  (52,(Ckl194,[],Ckf7),1,Ckc9,[],0),
  (53,(Ckl195,[],Ckf7),30017,Ckc10,[29],0),
  (54,(Ckl195,[Cke0],Ckf7),30016,Ckc10,[30],6),
  (57,(Ckl195,[],Ckf7),30015,Ckc10,[31],0),
  (58,(Ckl195,[Cke0],Ckf7),30014,Ckc10,[32],0),
  (59,(Ckl195,[Cke86,Cke0],Ckf7),30013,Ckc10,[33],0),
  (60,(Ckl195,[Cke165,Cke86,Cke0],Ckf7),30012,Ckc10,[34],0),
  (61,(Ckl195,[Cke6,Cke165,Cke86,Cke0],Ckf7),30011,Ckc10,[35],0),
  (62,(Ckl195,[Cke35,Cke86,Cke0],Ckf7),30010,Ckc10,[36],0),
  (63,(Ckl195,[Cke190,Cke35,Cke86,Cke0],Ckf7),30009,Ckc10,[37],54),
  (66,(Ckl195,[],[]),30008,Ckc10,[38],0),
  (67,(Ckl195,[Cke86],[]),30007,Ckc10,[39],0),
  (69,(Ckl195,[Cke170,Cke86],[]),30006,Ckc10,[40],30),
  (72,(Ckl195,[],[]),30005,Ckc10,[41],0),
  (73,(Ckl195,[Cke165],[]),30004,Ckc10,[42],0),
  (74,(Ckl195,[Cke6,Cke165],[]),30003,Ckc10,[43],0),
  (78,(Ckl195,[],[]),30002,Ckc10,[44],0),
  (81,(Ckl196,[],[]),30031,Ckc10,[12],0),
  (84,(Ckl190,[],[]),0,Ckc9,[],0)]
def CNC55 : List (List ND) := [CNC55_0]
theorem CKC55 : chkS prot SMsC SMC55 [] CNC55 = true := by decide +kernel
-- OneSided$Reader.expression [(2, 2), (5, 5), (2, 2), (2, 2)]
def Ckl197 : AL := [some Cka0,some Cka50,some Cka18,some Cka18,none,none]
def Ckl198 : AL := [some Cka0,some Cka50,some Cka18,some Cka18,some Cka14,none]
def Ckl199 : AL := [some Cka0,some Cka50,some Cka18,some Cka18,some Cka7,none]
def Ckl200 : AL := [some Cka0,some Cka50,some Cka18,some Cka18,some Cka1,none]
def Ckl201 : AL := [some Cka0,some Cka50,some Cka18,some Cka18,some Cka1,some Cka109]
def Ckl202 : AL := [some Cka0,some Cka50,some Cka18,some Cka18,some Cka1,some Cka49]
def Ckl203 : AL := [some Cka0,some Cka50,some Cka18,some Cka18,some Cka1,some Cka105]
def Ckl204 : AL := [some Cka0,some Cka50,some Cka18,some Cka18,some Cka15,some Cka105]
def CNC56_0 : List ND := [(0,(Ckl197,[],[]),30043,Ckc9,[1],0),
  (1,(Ckl197,[Cke174],[]),30042,Ckc9,[2],0),
  (2,(Ckl197,[Cke35,Cke174],[]),30041,Ckc9,[3],0),
  (12,(Ckl197,[],[]),30040,Ckc9,[4],0),
  (13,(Ckl197,[Cke0],[]),30039,Ckc9,[5],0),
  (14,(Ckl197,[Cke86,Cke0],[]),30038,Ckc9,[6],0),
  (15,(Ckl197,[Cke174,Cke86,Cke0],[]),30037,Ckc9,[7],0),
  (16,(Ckl197,[Cke6,Cke174,Cke86,Cke0],[]),30036,Ckc9,[8],0),
  (17,(Ckl197,[Cke36,Cke86,Cke0],[]),30035,Ckc9,[9],0),
  (18,(Ckl197,[Cke190,Cke36,Cke86,Cke0],[]),30034,Ckc9,[10],55),
  (21,(Ckl197,[],[]),30033,Ckc9,[11],0),
  (22,(Ckl197,[Cke7],[]),30032,Ckc9,[12],0),
  (24,(Ckl198,[],[]),30030,Ckc10,[14],0),
  (26,(Ckl199,[Cke166],[]),30045,Ckc9,[15],0),
  (26,(Ckl198,[Cke167],[]),30029,Ckc10,[16],0),
  (29,(Ckl199,[Cke153,Cke166],[]),30044,Ckc9,[17],0),
  (29,(Ckl198,[Cke153,Cke167],[]),30028,Ckc10,[45,17],0),
  (32,(Ckl200,[],[]),30027,Ckc10,[18],0),
  (33,(Ckl200,[Cke0],[]),30026,Ckc10,[19],0),
  (36,(Ckl200,[Cke46],[]),30025,Ckc10,[45,20],0),
  (39,(Ckl200,[],Ckf7),30024,Ckc10,[21],0),
  (40,(Ckl200,[Cke0],Ckf7),30023,Ckc10,[22],0),
  (41,(Ckl200,[Cke174,Cke0],Ckf7),30022,Ckc10,[23],35),
  (44,(Ckl200,[Cke175],Ckf7),30021,Ckc10,[24],0),
  (46,(Ckl201,[],Ckf7),30020,Ckc10,[25],0),
  (48,(Ckl201,[Cke176],Ckf7),30019,Ckc10,[26],0),
  (49,(Ckl201,[Cke51,Cke176],Ckf7),30018,Ckc10,[28,27],0),
  (52,(Ckl202,[],Ckf7),1,Ckc9,[],0),
  (53,(Ckl203,[],Ckf7),30017,Ckc10,[29],0),
  (54,(Ckl203,[Cke0],Ckf7),30016,Ckc10,[30],6),
  (57,(Ckl203,[],Ckf7),30015,Ckc10,[31],0),
  (58,(Ckl203,[Cke0],Ckf7),30014,Ckc10,[32],0),
  (59,(Ckl203,[Cke86,Cke0],Ckf7),30013,Ckc10,[33],0),
  (60,(Ckl203,[Cke174,Cke86,Cke0],Ckf7),30012,Ckc10,[34],0),
  (61,(Ckl203,[Cke6,Cke174,Cke86,Cke0],Ckf7),30011,Ckc10,[35],0),
  (62,(Ckl203,[Cke36,Cke86,Cke0],Ckf7),30010,Ckc10,[36],0),
  (63,(Ckl203,[Cke190,Cke36,Cke86,Cke0],Ckf7),30009,Ckc10,[37],55),
  (66,(Ckl203,[],[]),30008,Ckc10,[38],0),
  (67,(Ckl203,[Cke86],[]),30007,Ckc10,[39],0),
  (69,(Ckl203,[Cke170,Cke86],[]),30006,Ckc10,[40],30),
  (72,(Ckl203,[],[]),30005,Ckc10,[41],0),
  (73,(Ckl203,[Cke174],[]),30004,Ckc10,[42],0),
  (74,(Ckl203,[Cke6,Cke174],[]),30003,Ckc10,[43],0),
  (78,(Ckl203,[],[]),30002,Ckc10,[44],0),
  (81,(Ckl204,[],[]),30031,Ckc10,[12],0),
  (84,(Ckl198,[],[]),0,Ckc9,[],0)]
def CNC56 : List (List ND) := [CNC56_0]
theorem CKC56 : chkS prot SMsC SMC56 [] CNC56 = true := by decide +kernel
