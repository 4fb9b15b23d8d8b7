/-! LM, part 96, by program: the contracts, table E -/
set_option maxRecDepth 100000
def SME0 : SM := (198,1,[(2,182,182,0)],[(some (0,0,14,1),(2,188,1,0,0),[],[])],[],[])
def SME1 : SM := (197,2,[(2,182,182,0),(0,-2147483648,2147483647,1)],[(some (0,1,1,0),pv0,[(1,(0,0,13,1))],[]),(some (0,0,0,0),pv0,[],[])],[],[])
def SME2 : SM := (199,1,[(2,182,182,0),(0,0,13,1),(0,0,0,0)],[(some (0,0,3,1),pv0,[],[])],[],[])
def SME3 : SM := (202,1,[(2,182,182,0)],[(some (0,0,6,1),(2,188,2,0,0),[],[])],[],[])
def SME5 : SM := (208,1,[(0,-2147483648,2147483647,1),(0,-2147483648,2147483647,1)],[(some (0,1,1,0),pv0,[],[]),(some (0,0,0,0),pv0,[],[])],[],[])
def SME6 : SM := (254,6,[(2,182,182,0),(0,-2147483648,2147483647,1),(0,-2147483648,2147483647,1),(0,-2147483648,2147483647,1)],[(some (0,-2147483648,2147483647,1),pv0,[],[(182,28,(0,-1,-1,0)),(182,29,(0,-1,-1,0))])],[(182,182,0,0),(182,182,28,28),(182,182,29,29),(182,182,30,30),(182,182,31,31),(211,211,0,0),(211,211,1,1),(196,196,0,3),(197,197,0,1099),(210,210,0,9),(211,211,0,198),(211,211,1,199)],[(182,28,(0,-1,-1,0)),(182,29,(0,-1,-1,0))])
def SMtE0 : List SM := [SME0,SME1,SME2,SME3,SMgoesBy,SME5,SME6]
def SMttE : List (List SM) := [SMtE0]
def SMsE (i : Nat) : Option SM := (SMttE[i / 20]?).bind (fun B => B[i % 20]?)
/-! LM, by program: certificates E 0 -/
-- OneSidedModel.doors [(182, 182)]
def Eka0 : AV := (2,182,182,0)
def Ekl0 : AL := [some Eka0]
def Ekc0 : List Int := [0]
def Eke0 : SE := (Eka0,(1,0,0,0,0))
def Eka1 : AV := (2,188,188,0)
def Eke1 : SE := (Eka1,(2,182,10,0,0))
def Eka2 : AV := (0,1,1,0)
def Eke2 : SE := (Eka2,pv0)
def Eka3 : AV := (0,0,14,1)
def Eke3 : SE := (Eka3,(2,188,1,0,0))
def CNE0_0 : List ND := [(0,(Ekl0,[],[]),4,Ekc0,[1],0),
  (1,(Ekl0,[Eke0],[]),3,Ekc0,[2],0),
  (4,(Ekl0,[Eke1],[]),2,Ekc0,[3],0),
  (5,(Ekl0,[Eke2,Eke1],[]),1,Ekc0,[4],0),
  (6,(Ekl0,[Eke3],[]),0,Ekc0,[],0)]
def CNE0 : List (List ND) := [CNE0_0]
theorem CKE0 : chkS prot SMsE SME0 [] CNE0 = true := by decide +kernel
-- OneSidedModel.isDoor [(182, 182), (-2147483648, 2147483647)]
def Eka4 : AV := (0,-2147483648,2147483647,1)
def Ekl1 : AL := [some Eka0,some Eka4]
def Ekc1 : List Int := [0,0]
def Eke4 : SE := (Eka4,(1,1,0,0,0))
def Eka5 : AV := (0,0,2147483647,1)
def Ekl2 : AL := [some Eka0,some Eka5]
def Eke5 : SE := (Eka5,(1,1,0,0,0))
def Eka6 : AV := (0,0,13,1)
def Ekl3 : AL := [some Eka0,some Eka6]
def Eka7 : AV := (0,1,14,1)
def Ekf0 : FA := [(188,1,Eka7)]
def Eka8 : AV := (0,0,0,0)
def Eke6 : SE := (Eka8,pv0)
def CNE1_0 : List ND := [(0,(Ekl1,[],[]),10,Ekc1,[1],0),
  (1,(Ekl1,[Eke4],[]),9,Ekc1,[8,2],0),
  (4,(Ekl2,[],[]),8,Ekc1,[3],0),
  (5,(Ekl2,[Eke5],[]),7,Ekc1,[4],0),
  (6,(Ekl2,[Eke0,Eke5],[]),6,Ekc1,[5],0),
  (9,(Ekl2,[Eke3,Eke5],[]),5,Ekc1,[8,6],0),
  (12,(Ekl3,[],Ekf0),4,Ekc1,[7],0),
  (13,(Ekl3,[Eke2],Ekf0),3,Ekc1,[10],0),
  (16,(Ekl1,[],[]),1,Ekc1,[9],0),
  (17,(Ekl1,[Eke6],[]),0,Ekc1,[],1),
  (17,(Ekl3,[Eke2],Ekf0),2,Ekc1,[],0)]
def CNE1 : List (List ND) := [CNE1_0]
theorem CKE1 : chkS prot SMsE SME1 [(1,1)] CNE1 = true := by decide +kernel
-- OneSidedModel.doorOf [(182, 182), (0, 13), (0, 0)]
def Ekl4 : AL := [some Eka0,some Eka6,some Eka8]
def Ekc2 : List Int := [0,0,0]
def Eka9 : AV := (0,4,4,0)
def Eke7 : SE := (Eka9,pv0)
def Eka10 : AV := (0,8,8,0)
def Eke8 : SE := (Eka10,pv0)
def Eke9 : SE := (Eka6,(1,1,0,0,0))
def Eka11 : AV := (0,0,104,8)
def Eke10 : SE := (Eka11,pv0)
def Eka12 : AV := (0,4,108,8)
def Eke11 : SE := (Eka12,pv0)
def Eke12 : SE := (Eka8,(1,2,0,0,0))
def Eka13 : AV := (0,0,3,1)
def Eke13 : SE := (Eka13,pv0)
def CNE2_0 : List ND := [(0,(Ekl4,[],[]),10,Ekc2,[1],0),
  (1,(Ekl4,[Eke0],[]),9,Ekc2,[2],0),
  (4,(Ekl4,[Eke1],[]),8,Ekc2,[3],0),
  (5,(Ekl4,[Eke7,Eke1],[]),7,Ekc2,[4],0),
  (7,(Ekl4,[Eke8,Eke7,Eke1],[]),6,Ekc2,[5],0),
  (8,(Ekl4,[Eke9,Eke8,Eke7,Eke1],[]),5,Ekc2,[6],0),
  (9,(Ekl4,[Eke10,Eke7,Eke1],[]),4,Ekc2,[7],0),
  (10,(Ekl4,[Eke11,Eke1],[]),3,Ekc2,[8],0),
  (11,(Ekl4,[Eke12,Eke11,Eke1],[]),2,Ekc2,[9],0),
  (12,(Ekl4,[Eke11,Eke1],[]),1,Ekc2,[10],0),
  (13,(Ekl4,[Eke13],[]),0,Ekc2,[],0)]
def CNE2 : List (List ND) := [CNE2_0]
theorem CKE2 : chkS prot SMsE SME2 [] CNE2 = true := by decide +kernel
-- OneSidedModel.people [(182, 182)]
def Eka14 : AV := (0,2,2,0)
def Eke14 : SE := (Eka14,pv0)
def Eka15 : AV := (0,0,6,1)
def Eke15 : SE := (Eka15,(2,188,2,0,0))
def CNE3_0 : List ND := [(0,(Ekl0,[],[]),4,Ekc0,[1],0),
  (1,(Ekl0,[Eke0],[]),3,Ekc0,[2],0),
  (4,(Ekl0,[Eke1],[]),2,Ekc0,[3],0),
  (5,(Ekl0,[Eke14,Eke1],[]),1,Ekc0,[4],0),
  (6,(Ekl0,[Eke15],[]),0,Ekc0,[],0)]
def CNE3 : List (List ND) := [CNE3_0]
theorem CKE3 : chkS prot SMsE SME3 [] CNE3 = true := by decide +kernel
-- OneSidedModel.isIn [(-2147483648, 2147483647), (-2147483648, 2147483647)]
def Ekl5 : AL := [some Eka4,some Eka4]
def Eke16 : SE := (Eka4,(1,0,0,0,0))
def Eke17 : SE := (Eka4,pv0)
def Eka16 : AV := (0,0,1,1)
def Eke18 : SE := (Eka16,pv0)
def CNE5_0 : List ND := [(0,(Ekl5,[],[]),11,Ekc1,[1],0),
  (1,(Ekl5,[Eke16],[]),10,Ekc1,[2],0),
  (2,(Ekl5,[Eke4,Eke16],[]),9,Ekc1,[3],0),
  (3,(Ekl5,[Eke17],[]),8,Ekc1,[4],0),
  (4,(Ekl5,[Eke2,Eke17],[]),7,Ekc1,[5],0),
  (5,(Ekl5,[Eke18],[]),6,Ekc1,[6],0),
  (6,(Ekl5,[Eke2,Eke18],[]),5,Ekc1,[9,7],0),
  (9,(Ekl5,[],[]),2,Ekc1,[8],0),
  (10,(Ekl5,[Eke2],[]),1,Ekc1,[11],0),
  (13,(Ekl5,[],[]),4,Ekc1,[10],0),
  (14,(Ekl5,[Eke6],[]),3,Ekc1,[],1),
  (14,(Ekl5,[Eke2],[]),0,Ekc1,[],0)]
def CNE5 : List (List ND) := [CNE5_0]
theorem CKE5 : chkS prot SMsE SME5 [] CNE5 = true := by decide +kernel
-- OneSidedModel.rests [(182, 182), (-2147483648, 2147483647), (-2147483648, 2147483647), (-2147483648, 2147483647)]
def Ekl6 : AL := [some Eka0,some Eka4,some Eka4,some Eka4,none,none,none,none]
def Eka17 : AV := (0,-1,-1,0)
def Ekf1 : FA := [(182,28,Eka17),(182,29,Eka17)]
def Ekc3 : List Int := [0,0,0,0,0,0,0,0]
def Ekf2 : FA := [(182,0,Eka8),(182,28,Eka17),(182,29,Eka17)]
def Ekl7 : AL := [some Eka0,some Eka6,some Eka4,some Eka4,none,none,none,none]
def Eke19 : SE := (Eka4,(1,2,0,0,0))
def Ekl8 : AL := [some Eka0,some Eka6,some Eka6,some Eka4,none,none,none,none]
def Eke20 : SE := (Eka6,(1,2,0,0,0))
def Eke21 : SE := (Eka4,(1,3,0,0,0))
def Eke22 : SE := (Eka17,pv0)
def Eka18 : AV := (0,-1,2147483647,1)
def Ekl9 : AL := [some Eka0,some Eka6,some Eka6,some Eka18,none,none,none,none]
def Ekf3 : FA := [(182,0,Eka8),(182,28,Eka6),(182,29,Eka17)]
def Ekf4 : FA := [(182,0,Eka8),(182,28,Eka6),(182,29,Eka6)]
def Eka19 : AV := (0,0,100,1)
def Ekl10 : AL := [some Eka0,some Eka6,some Eka6,some Eka18,some Eka19,none,none,none]
def Ekc4 : List Int := [0,0,0,0,-383,0,0,0]
def Ekl11 : AL := [some Eka0,some Eka6,some Eka6,some Eka18,some Eka8,none,none,none]
def Eke23 : SE := (Eka8,(1,4,0,0,0))
def Eke24 : SE := (Eka19,(1,4,0,0,0))
def Eka20 : AV := (0,100,100,0)
def Eke25 : SE := (Eka20,pv0)
def Eka21 : AV := (0,0,99,1)
def Ekl12 : AL := [some Eka0,some Eka6,some Eka6,some Eka18,some Eka21,none,none,none]
def Eke26 : SE := (Eka21,(1,4,0,0,0))
def Eka22 : AV := (0,10,10,0)
def Eke27 : SE := (Eka22,pv0)
def Eka23 : AV := (0,0,9,1)
def Ekl13 : AL := [some Eka0,some Eka6,some Eka6,some Eka18,some Eka23,none,none,none]
def Eke28 : SE := (Eka23,pv0)
def Ekf5 : FA := [(182,0,Eka8),(182,28,Eka6),(182,29,Eka6),(182,30,Eka8)]
def Eka24 : AV := (2,211,211,0)
def Eke29 : SE := (Eka24,(2,182,50,0,0))
def Ekf6 : FA := [(182,0,Eka8),(182,28,Eka6),(182,29,Eka6),(182,30,Eka8),(182,31,Eka8)]
def Eka25 : AV := (0,0,198,2)
def Eke30 : SE := (Eka25,pv0)
def Ekf7 : FA := [(182,0,Eka8),(182,28,Eka6),(182,29,Eka6),(182,30,Eka8),(182,31,Eka8),(211,0,Eka8)]
def Eka26 : AV := (0,1,199,2)
def Eke31 : SE := (Eka26,pv0)
def Ekl14 : AL := [some Eka0,some Eka6,some Eka6,some Eka18,some Eka21,some Eka15,none,none]
def Ekc5 : List Int := [0,0,0,0,-383,-50,0,0]
def Ekl15 : AL := [some Eka0,some Eka6,some Eka6,some Eka18,some Eka8,some Eka8,none,none]
def Eke32 : SE := (Eka8,(1,5,0,0,0))
def Ekf8 : FA := [(182,0,Eka8),(182,28,Eka6),(182,29,Eka6),(182,30,Eka8),(182,31,Eka8),(211,0,Eka8),(211,1,Eka8)]
def Eke33 : SE := (Eka15,(1,5,0,0,0))
def Eka27 : AV := (0,0,5,1)
def Ekl16 : AL := [some Eka0,some Eka6,some Eka6,some Eka18,some Eka21,some Eka27,none,none]
def Eka28 : AV := (0,1,6,1)
def Ekf9 : FA := [(182,0,Eka8),(182,28,Eka6),(182,29,Eka6),(188,2,Eka28)]
def Ekf10 : FA := [(182,0,Eka8),(182,28,Eka6),(182,29,Eka6),(182,30,Eka8),(182,31,Eka8),(188,2,Eka28),(211,0,Eka8),(211,1,Eka8)]
def Eke34 : SE := (Eka27,(1,5,0,0,0))
def Ekl17 : AL := [some Eka0,some Eka6,some Eka6,some Eka18,some Eka21,some Eka27,some Eka4,none]
def Ekl18 : AL := [some Eka0,some Eka6,some Eka6,some Eka18,some Eka8,some Eka27,some Eka4,none]
def Eke35 : SE := (Eka8,(2,211,0,0,0))
def Eke36 : SE := (Eka4,(1,6,0,0,0))
def Eke37 : SE := (Eka8,(2,182,30,0,0))
def Ekl19 : AL := [some Eka0,some Eka6,some Eka6,some Eka18,some Eka23,some Eka27,some Eka4,none]
def Eka29 : AV := (0,0,18,2)
def Eke38 : SE := (Eka29,pv0)
def Ekf11 : FA := [(182,0,Eka8),(182,28,Eka6),(182,29,Eka6),(182,30,Eka8),(188,2,Eka28)]
def Eke39 : SE := (Eka23,(2,182,30,0,0))
def Eke40 : SE := (Eka8,(2,211,1,0,0))
def Eke41 : SE := (Eka8,(2,182,31,0,0))
def Eke42 : SE := (Eka23,(2,182,31,0,0))
def Ekl20 : AL := [some Eka0,some Eka6,some Eka6,some Eka18,some Eka21,some Eka28,some Eka4,none]
def Eka30 : AV := (0,1,100,1)
def Ekl21 : AL := [some Eka0,some Eka6,some Eka6,some Eka18,some Eka30,some Eka15,none,none]
def Ekl22 : AL := [some Eka0,some Eka6,some Eka6,some Eka18,some Eka20,none,none,none]
def Ekf12 : FA := [(182,0,Eka8),(182,28,Eka17),(182,29,Eka6)]
def Ekl23 : AL := [some Eka0,some Eka6,some Eka6,some Eka18,some Eka4,some Eka19,none,none]
def Ekc6 : List Int := [0,0,0,0,0,-617,0,0]
def Eke43 : SE := (Eka19,(1,5,0,0,0))
def Ekl24 : AL := [some Eka0,some Eka6,some Eka6,some Eka18,some Eka4,some Eka21,none,none]
def Ekl25 : AL := [some Eka0,some Eka6,some Eka6,some Eka18,some Eka4,some Eka21,some Eka2,none]
def Eka31 : AV := (0,0,10,1)
def Ekl26 : AL := [some Eka0,some Eka6,some Eka6,some Eka18,some Eka4,some Eka21,some Eka16,some Eka31]
def Ekc7 : List Int := [0,0,0,0,0,-617,0,-54]
def Ekl27 : AL := [some Eka0,some Eka6,some Eka6,some Eka18,some Eka8,some Eka8,some Eka2,some Eka8]
def Eke44 : SE := (Eka8,(1,7,0,0,0))
def Eke45 : SE := (Eka31,(1,7,0,0,0))
def Ekl28 : AL := [some Eka0,some Eka6,some Eka6,some Eka18,some Eka4,some Eka21,some Eka16,some Eka23]
def Eke46 : SE := (Eka2,(1,6,0,0,0))
def Eke47 : SE := (Eka16,(1,6,0,0,0))
def Ekl29 : AL := [some Eka0,some Eka6,some Eka6,some Eka18,some Eka4,some Eka21,some Eka2,some Eka23]
def Eke48 : SE := (Eka23,(1,7,0,0,0))
def Eka32 : AV := (0,0,90,10)
def Eke49 : SE := (Eka32,pv0)
def Ekl30 : AL := [some Eka0,some Eka6,some Eka6,some Eka18,some Eka8,some Eka8,some Eka2,some Eka23]
def Eke50 : SE := (Eka21,(1,5,0,0,0))
def Eke51 : SE := (Eka21,pv0)
def Ekl31 : AL := [some Eka0,some Eka6,some Eka6,some Eka18,some Eka23,some Eka23,some Eka2,some Eka23]
def Ekf13 : FA := [(182,0,Eka8),(182,28,Eka17),(182,29,Eka17),(211,0,Eka4)]
def Eka33 : AV := (0,1,10,1)
def Ekl32 : AL := [some Eka0,some Eka6,some Eka6,some Eka18,some Eka4,some Eka21,some Eka16,some Eka33]
def Ekl33 : AL := [some Eka0,some Eka6,some Eka6,some Eka18,some Eka4,some Eka21,some Eka16,some Eka22]
def Ekl34 : AL := [some Eka0,some Eka6,some Eka6,some Eka18,some Eka4,some Eka21,some Eka2,some Eka22]
def Ekl35 : AL := [some Eka0,some Eka6,some Eka6,some Eka18,some Eka8,some Eka8,some Eka2,some Eka22]
def Eke52 : SE := (Eka4,(1,4,0,0,0))
def Eke53 : SE := (Eka18,(1,3,0,0,0))
def Ekl36 : AL := [some Eka0,some Eka6,some Eka6,some Eka18,some Eka18,some Eka21,some Eka2,some Eka22]
def Ekl37 : AL := [some Eka0,some Eka6,some Eka6,some Eka8,some Eka8,some Eka8,some Eka2,some Eka22]
def Ekl38 : AL := [some Eka0,some Eka6,some Eka6,some Eka18,some Eka8,some Eka8,some Eka16,some Eka22]
def Ekl39 : AL := [some Eka0,some Eka6,some Eka6,some Eka18,some Eka8,some Eka8,some Eka8,some Eka22]
def Ekl40 : AL := [some Eka0,some Eka6,some Eka6,some Eka18,some Eka4,some Eka21,some Eka8,some Eka22]
def Ekl41 : AL := [some Eka0,some Eka6,some Eka6,some Eka18,some Eka4,some Eka30,some Eka16,some Eka22]
def Ekl42 : AL := [some Eka0,some Eka6,some Eka6,some Eka18,some Eka4,some Eka20,none,none]
def Ekl43 : AL := [some Eka0,some Eka6,some Eka6,some Eka17,some Eka4,some Eka20,none,none]
def Ekl44 : AL := [some Eka0,some Eka6,some Eka6,some Eka5,some Eka4,some Eka20,none,none]
def CNE6_0 : List ND := [(0,(Ekl6,[],Ekf1),101059,Ekc3,[1],0),
  (1,(Ekl6,[Eke0],Ekf1),101058,Ekc3,[2],0),
  (2,(Ekl6,[Eke6,Eke0],Ekf1),101057,Ekc3,[3],0),
  (5,(Ekl6,[],Ekf2),101056,Ekc3,[4],0),
  (6,(Ekl6,[Eke0],Ekf2),101055,Ekc3,[5],0),
  (7,(Ekl6,[Eke4,Eke0],Ekf2),101054,Ekc3,[7,6],1),
  (10,(Ekl6,[Eke6],Ekf2),101053,Ekc3,[31],0),
  (10,(Ekl7,[Eke2],Ekf2),101052,Ekc3,[8],0),
  (13,(Ekl7,[],Ekf2),101051,Ekc3,[9],0),
  (14,(Ekl7,[Eke0],Ekf2),101050,Ekc3,[10],0),
  (15,(Ekl7,[Eke19,Eke0],Ekf2),101049,Ekc3,[12,11],1),
  (18,(Ekl7,[Eke6],Ekf2),101048,Ekc3,[31],0),
  (18,(Ekl8,[Eke2],Ekf2),101047,Ekc3,[13],0),
  (21,(Ekl8,[],Ekf2),101046,Ekc3,[14],0),
  (22,(Ekl8,[Eke9],Ekf2),101045,Ekc3,[15],0),
  (23,(Ekl8,[Eke20,Eke9],Ekf2),101044,Ekc3,[31,16],0),
  (26,(Ekl8,[],Ekf2),101043,Ekc3,[17],0),
  (27,(Ekl8,[Eke0],Ekf2),101042,Ekc3,[18],0),
  (28,(Ekl8,[Eke9,Eke0],Ekf2),101041,Ekc3,[19],0),
  (29,(Ekl8,[Eke6,Eke9,Eke0],Ekf2),101040,Ekc3,[20],2),
  (32,(Ekl8,[Eke13],Ekf2),101039,Ekc3,[21],0),
  (33,(Ekl8,[Eke14,Eke13],Ekf2),101038,Ekc3,[31,22],0),
  (36,(Ekl8,[],Ekf2),101037,Ekc3,[23],0),
  (37,(Ekl8,[Eke0],Ekf2),101036,Ekc3,[24],0),
  (38,(Ekl8,[Eke20,Eke0],Ekf2),101035,Ekc3,[25],0),
  (39,(Ekl8,[Eke6,Eke20,Eke0],Ekf2),101034,Ekc3,[26],2),
  (42,(Ekl8,[Eke13],Ekf2),101033,Ekc3,[27],0),
  (43,(Ekl8,[Eke14,Eke13],Ekf2),101032,Ekc3,[31,28],0),
  (46,(Ekl8,[],Ekf2),101031,Ekc3,[29],0),
  (47,(Ekl8,[Eke21],Ekf2),101030,Ekc3,[30],0),
  (48,(Ekl8,[Eke22,Eke21],Ekf2),101029,Ekc3,[33,31],0),
  (51,(Ekl6,[],Ekf2),1,Ekc3,[32],0),
  (52,(Ekl6,[Eke22],Ekf2),0,Ekc3,[],0),
  (53,(Ekl9,[],Ekf2),101028,Ekc3,[34],0),
  (54,(Ekl9,[Eke0],Ekf2),101027,Ekc3,[35],0),
  (55,(Ekl9,[Eke9,Eke0],Ekf2),101026,Ekc3,[36],0),
  (58,(Ekl9,[],Ekf3),101025,Ekc3,[37],0),
  (59,(Ekl9,[Eke0],Ekf3),101024,Ekc3,[38],0),
  (60,(Ekl9,[Eke20,Eke0],Ekf3),101023,Ekc3,[39],0),
  (63,(Ekl9,[],Ekf4),101022,Ekc3,[40],0),
  (64,(Ekl9,[Eke6],Ekf4),101021,Ekc3,[41],0),
  (66,(Ekl10,[],Ekf4),101019,Ekc4,[43],0),
  (68,(Ekl11,[Eke23],Ekf4),101061,Ekc3,[44],0),
  (68,(Ekl10,[Eke24],Ekf4),101018,Ekc4,[45],0),
  (70,(Ekl11,[Eke25,Eke23],Ekf4),101060,Ekc3,[46],0),
  (70,(Ekl10,[Eke25,Eke24],Ekf4),101017,Ekc4,[175,46],0),
  (73,(Ekl12,[],Ekf4),101016,Ekc4,[47],0),
  (74,(Ekl12,[Eke0],Ekf4),101015,Ekc4,[49],0),
  (76,(Ekl11,[Eke23,Eke0],Ekf4),101064,Ekc3,[50],0),
  (76,(Ekl12,[Eke26,Eke0],Ekf4),101014,Ekc4,[51],0),
  (78,(Ekl11,[Eke27,Eke23,Eke0],Ekf4),101063,Ekc3,[52],0),
  (78,(Ekl12,[Eke27,Eke26,Eke0],Ekf4),101013,Ekc4,[53],0),
  (79,(Ekl13,[Eke6,Eke0],Ekf4),101062,Ekc3,[54],0),
  (79,(Ekl12,[Eke28,Eke0],Ekf4),101012,Ekc4,[54],0),
  (82,(Ekl12,[],Ekf4),101011,Ekc4,[55],0),
  (83,(Ekl12,[Eke0],Ekf4),101010,Ekc4,[57],0),
  (85,(Ekl11,[Eke23,Eke0],Ekf5),101067,Ekc3,[58],0),
  (85,(Ekl12,[Eke26,Eke0],Ekf4),101009,Ekc4,[59],0),
  (87,(Ekl11,[Eke27,Eke23,Eke0],Ekf5),101066,Ekc3,[60],0),
  (87,(Ekl12,[Eke27,Eke26,Eke0],Ekf4),101008,Ekc4,[61],0),
  (88,(Ekl11,[Eke6,Eke0],Ekf5),101065,Ekc3,[62],0),
  (88,(Ekl12,[Eke28,Eke0],Ekf4),101007,Ekc4,[62],0),
  (91,(Ekl12,[],Ekf4),101006,Ekc4,[63],0),
  (92,(Ekl12,[Eke0],Ekf4),101005,Ekc4,[64],0)]
def CNE6_1 : List ND := [(95,(Ekl12,[Eke29],Ekf4),101004,Ekc4,[65],0),
  (96,(Ekl12,[Eke14,Eke29],Ekf4),101003,Ekc4,[67],0),
  (98,(Ekl11,[Eke23,Eke14,Eke29],Ekf6),101070,Ekc3,[68],0),
  (98,(Ekl12,[Eke26,Eke14,Eke29],Ekf4),101002,Ekc4,[69],0),
  (99,(Ekl11,[Eke6,Eke29],Ekf6),101069,Ekc3,[70],0),
  (99,(Ekl12,[Eke30,Eke29],Ekf4),101001,Ekc4,[71],0),
  (100,(Ekl11,[Eke6,Eke6,Eke29],Ekf6),101068,Ekc3,[72],0),
  (100,(Ekl12,[Eke6,Eke30,Eke29],Ekf4),101000,Ekc4,[72],0),
  (101,(Ekl12,[],Ekf4),100999,Ekc4,[73],0),
  (102,(Ekl12,[Eke0],Ekf4),100998,Ekc4,[74],0),
  (105,(Ekl12,[Eke29],Ekf4),100997,Ekc4,[75],0),
  (106,(Ekl12,[Eke14,Eke29],Ekf4),100996,Ekc4,[77],0),
  (108,(Ekl11,[Eke23,Eke14,Eke29],Ekf7),101075,Ekc3,[78],0),
  (108,(Ekl12,[Eke26,Eke14,Eke29],Ekf4),100995,Ekc4,[79],0),
  (109,(Ekl11,[Eke6,Eke29],Ekf7),101074,Ekc3,[80],0),
  (109,(Ekl12,[Eke30,Eke29],Ekf4),100994,Ekc4,[81],0),
  (110,(Ekl11,[Eke2,Eke6,Eke29],Ekf7),101073,Ekc3,[82],0),
  (110,(Ekl12,[Eke2,Eke30,Eke29],Ekf4),100993,Ekc4,[83],0),
  (111,(Ekl11,[Eke2,Eke29],Ekf7),101072,Ekc3,[85],0),
  (111,(Ekl12,[Eke31,Eke29],Ekf4),100992,Ekc4,[84],0),
  (112,(Ekl12,[Eke6,Eke31,Eke29],Ekf4),100991,Ekc4,[86],0),
  (112,(Ekl11,[Eke6,Eke2,Eke29],Ekf7),101071,Ekc3,[86],0),
  (113,(Ekl12,[],Ekf4),100990,Ekc4,[87],0),
  (114,(Ekl12,[Eke6],Ekf4),100989,Ekc4,[88],0),
  (116,(Ekl14,[],Ekf4),100987,Ekc5,[90],0),
  (118,(Ekl15,[Eke32],Ekf8),101078,Ekc3,[91],0),
  (118,(Ekl14,[Eke33],Ekf4),100986,Ekc5,[92],0),
  (119,(Ekl15,[Eke0,Eke32],Ekf8),101077,Ekc3,[93],3),
  (119,(Ekl14,[Eke0,Eke33],Ekf4),100985,Ekc5,[94],3),
  (122,(Ekl15,[Eke15,Eke32],Ekf8),101076,Ekc3,[173,95],0),
  (122,(Ekl14,[Eke15,Eke33],Ekf4),100984,Ekc5,[173,95],0),
  (125,(Ekl16,[],Ekf9),100983,Ekc5,[96],0),
  (126,(Ekl16,[Eke0],Ekf9),100982,Ekc5,[98],0),
  (128,(Ekl15,[Eke32,Eke0],Ekf10),101079,Ekc3,[99],4),
  (128,(Ekl16,[Eke34,Eke0],Ekf9),100981,Ekc5,[99],4),
  (131,(Ekl16,[Eke17],Ekf9),100980,Ekc5,[100],0),
  (133,(Ekl17,[],Ekf9),100979,Ekc5,[101],0),
  (134,(Ekl17,[Eke0],Ekf9),100978,Ekc5,[102],0),
  (137,(Ekl17,[Eke29],Ekf9),100977,Ekc5,[103],0),
  (138,(Ekl17,[Eke14,Eke29],Ekf9),100976,Ekc5,[105],0),
  (140,(Ekl18,[Eke23,Eke14,Eke29],Ekf10),101093,Ekc3,[106],0),
  (140,(Ekl17,[Eke26,Eke14,Eke29],Ekf9),100975,Ekc5,[107],0),
  (141,(Ekl18,[Eke6,Eke29],Ekf10),101092,Ekc3,[108],0),
  (141,(Ekl17,[Eke30,Eke29],Ekf9),100974,Ekc5,[109],0),
  (142,(Ekl18,[Eke6,Eke29,Eke6,Eke29],Ekf10),101091,Ekc3,[110],0),
  (142,(Ekl17,[Eke30,Eke29,Eke30,Eke29],Ekf9),100973,Ekc5,[111],0),
  (143,(Ekl18,[Eke35,Eke6,Eke29],Ekf10),101090,Ekc3,[112],0),
  (143,(Ekl17,[Eke17,Eke30,Eke29],Ekf9),100972,Ekc5,[113],0),
  (145,(Ekl18,[Eke36,Eke35,Eke6,Eke29],Ekf10),101089,Ekc3,[114],0),
  (145,(Ekl17,[Eke36,Eke17,Eke30,Eke29],Ekf9),100971,Ekc5,[115],0),
  (146,(Ekl18,[Eke9,Eke36,Eke35,Eke6,Eke29],Ekf10),101088,Ekc3,[117,116],5),
  (146,(Ekl17,[Eke9,Eke36,Eke17,Eke30,Eke29],Ekf9),100970,Ekc5,[119,118],5),
  (149,(Ekl18,[Eke6,Eke35,Eke6,Eke29],Ekf10),101087,Ekc3,[127],0),
  (149,(Ekl18,[Eke2,Eke35,Eke6,Eke29],Ekf10),101085,Ekc3,[120],0),
  (149,(Ekl17,[Eke6,Eke17,Eke30,Eke29],Ekf9),100969,Ekc5,[128],0),
  (149,(Ekl17,[Eke2,Eke17,Eke30,Eke29],Ekf9),100968,Ekc5,[121],0),
  (152,(Ekl18,[Eke35,Eke6,Eke29],Ekf10),101084,Ekc3,[122],0),
  (152,(Ekl17,[Eke17,Eke30,Eke29],Ekf9),100967,Ekc5,[123],0),
  (153,(Ekl18,[Eke0,Eke35,Eke6,Eke29],Ekf10),101083,Ekc3,[124],0),
  (153,(Ekl17,[Eke0,Eke17,Eke30,Eke29],Ekf9),100966,Ekc5,[126],0),
  (156,(Ekl18,[Eke37,Eke35,Eke6,Eke29],Ekf10),101082,Ekc3,[129],0),
  (156,(Ekl19,[Eke37,Eke17,Eke38,Eke29],Ekf11),101094,Ekc3,[130],0),
  (156,(Ekl17,[Eke39,Eke17,Eke30,Eke29],Ekf9),100965,Ekc5,[131],0),
  (159,(Ekl18,[Eke35,Eke6,Eke29],Ekf10),101086,Ekc3,[129],0)]
def CNE6_2 : List ND := [(159,(Ekl17,[Eke17,Eke30,Eke29],Ekf9),100963,Ekc5,[130],0),
  (160,(Ekl18,[Eke6,Eke35,Eke6,Eke29],Ekf10),101081,Ekc3,[132],0),
  (160,(Ekl17,[Eke6,Eke17,Eke30,Eke29],Ekf9),100962,Ekc5,[133],0),
  (160,(Ekl17,[Eke39,Eke17,Eke30,Eke29],Ekf9),100964,Ekc5,[133],0),
  (161,(Ekl18,[Eke6,Eke6,Eke29],Ekf10),101080,Ekc3,[134],0),
  (161,(Ekl17,[Eke17,Eke30,Eke29],Ekf9),100961,Ekc5,[134],0),
  (162,(Ekl17,[],Ekf9),100960,Ekc5,[135],0),
  (163,(Ekl17,[Eke0],Ekf9),100959,Ekc5,[136],0),
  (166,(Ekl17,[Eke29],Ekf9),100958,Ekc5,[137],0),
  (167,(Ekl17,[Eke14,Eke29],Ekf9),100957,Ekc5,[139],0),
  (169,(Ekl18,[Eke23,Eke14,Eke29],Ekf10),101110,Ekc3,[140],0),
  (169,(Ekl17,[Eke26,Eke14,Eke29],Ekf9),100956,Ekc5,[141],0),
  (170,(Ekl18,[Eke6,Eke29],Ekf10),101109,Ekc3,[142],0),
  (170,(Ekl17,[Eke30,Eke29],Ekf9),100955,Ekc5,[143],0),
  (171,(Ekl18,[Eke2,Eke6,Eke29],Ekf10),101108,Ekc3,[144],0),
  (171,(Ekl17,[Eke2,Eke30,Eke29],Ekf9),100954,Ekc5,[145],0),
  (172,(Ekl18,[Eke2,Eke29],Ekf10),101107,Ekc3,[146],0),
  (172,(Ekl17,[Eke31,Eke29],Ekf9),100953,Ekc5,[147],0),
  (173,(Ekl18,[Eke2,Eke29,Eke2,Eke29],Ekf10),101106,Ekc3,[148],0),
  (173,(Ekl17,[Eke31,Eke29,Eke31,Eke29],Ekf9),100952,Ekc5,[149],0),
  (174,(Ekl18,[Eke40,Eke2,Eke29],Ekf10),101105,Ekc3,[150],0),
  (174,(Ekl17,[Eke17,Eke31,Eke29],Ekf9),100951,Ekc5,[151],0),
  (176,(Ekl18,[Eke36,Eke40,Eke2,Eke29],Ekf10),101104,Ekc3,[152],0),
  (176,(Ekl17,[Eke36,Eke17,Eke31,Eke29],Ekf9),100950,Ekc5,[153],0),
  (177,(Ekl18,[Eke20,Eke36,Eke40,Eke2,Eke29],Ekf10),101103,Ekc3,[156,155],5),
  (177,(Ekl17,[Eke20,Eke36,Eke17,Eke31,Eke29],Ekf9),100949,Ekc5,[157,154],5),
  (180,(Ekl17,[Eke6,Eke17,Eke31,Eke29],Ekf9),100943,Ekc5,[165],0),
  (180,(Ekl18,[Eke6,Eke40,Eke2,Eke29],Ekf10),101102,Ekc3,[164],0),
  (180,(Ekl18,[Eke2,Eke40,Eke2,Eke29],Ekf10),101100,Ekc3,[158],0),
  (180,(Ekl17,[Eke2,Eke17,Eke31,Eke29],Ekf9),100948,Ekc5,[159],0),
  (183,(Ekl18,[Eke40,Eke2,Eke29],Ekf10),101099,Ekc3,[160],0),
  (183,(Ekl17,[Eke17,Eke31,Eke29],Ekf9),100947,Ekc5,[161],0),
  (184,(Ekl18,[Eke0,Eke40,Eke2,Eke29],Ekf10),101098,Ekc3,[162],0),
  (184,(Ekl17,[Eke0,Eke17,Eke31,Eke29],Ekf9),100946,Ekc5,[163],0),
  (187,(Ekl18,[Eke41,Eke40,Eke2,Eke29],Ekf10),101097,Ekc3,[167],0),
  (187,(Ekl17,[Eke42,Eke17,Eke31,Eke29],Ekf9),100945,Ekc5,[168],0),
  (190,(Ekl18,[Eke40,Eke2,Eke29],Ekf10),101101,Ekc3,[167],0),
  (190,(Ekl17,[Eke17,Eke31,Eke29],Ekf9),100942,Ekc5,[166],0),
  (191,(Ekl17,[Eke6,Eke17,Eke31,Eke29],Ekf9),100941,Ekc5,[170],0),
  (191,(Ekl18,[Eke6,Eke40,Eke2,Eke29],Ekf10),101096,Ekc3,[169],0),
  (191,(Ekl17,[Eke42,Eke17,Eke31,Eke29],Ekf9),100944,Ekc5,[170],0),
  (192,(Ekl18,[Eke6,Eke2,Eke29],Ekf10),101095,Ekc3,[171],0),
  (192,(Ekl17,[Eke17,Eke31,Eke29],Ekf9),100940,Ekc5,[171],0),
  (193,(Ekl17,[],Ekf9),100939,Ekc5,[172],0),
  (196,(Ekl20,[],Ekf9),100988,Ekc5,[88],0),
  (199,(Ekl14,[],Ekf4),100638,Ekc4,[174],0),
  (202,(Ekl21,[],Ekf4),101020,Ekc4,[41],0),
  (205,(Ekl22,[],Ekf4),62337,Ekc3,[176],0),
  (206,(Ekl22,[Eke0],Ekf4),62336,Ekc3,[177],0),
  (207,(Ekl22,[Eke22,Eke0],Ekf4),62335,Ekc3,[178],0),
  (210,(Ekl22,[],Ekf12),62334,Ekc3,[179],0),
  (211,(Ekl22,[Eke0],Ekf12),62333,Ekc3,[180],0),
  (212,(Ekl22,[Eke22,Eke0],Ekf12),62332,Ekc3,[181],0),
  (215,(Ekl22,[],Ekf2),62331,Ekc3,[182],0),
  (216,(Ekl22,[Eke6],Ekf2),62330,Ekc3,[183],0),
  (218,(Ekl11,[],Ekf2),62329,Ekc3,[184],0),
  (219,(Ekl11,[Eke6],Ekf2),62328,Ekc3,[185],0),
  (221,(Ekl23,[],Ekf2),62326,Ekc6,[187],0),
  (223,(Ekl15,[Eke32],Ekf2),101112,Ekc3,[188],0),
  (223,(Ekl23,[Eke43],Ekf2),62325,Ekc6,[189],0),
  (225,(Ekl15,[Eke25,Eke32],Ekf2),101111,Ekc3,[190],0),
  (225,(Ekl23,[Eke25,Eke43],Ekf2),62324,Ekc6,[308,190],0),
  (228,(Ekl24,[],Ekf2),62323,Ekc6,[191],0),
  (229,(Ekl24,[Eke2],Ekf2),62322,Ekc6,[192],0)]
def CNE6_3 : List ND := [(231,(Ekl25,[],Ekf2),62321,Ekc6,[193],0),
  (232,(Ekl25,[Eke6],Ekf2),62320,Ekc6,[194],0),
  (234,(Ekl26,[],Ekf2),62318,Ekc7,[196],0),
  (236,(Ekl27,[Eke44],Ekf2),101114,Ekc3,[197],0),
  (236,(Ekl26,[Eke45],Ekf2),62317,Ekc7,[198],0),
  (238,(Ekl27,[Eke27,Eke44],Ekf2),101113,Ekc3,[199],0),
  (238,(Ekl26,[Eke27,Eke45],Ekf2),62316,Ekc7,[278,199],0),
  (241,(Ekl28,[],Ekf2),62315,Ekc7,[201],0),
  (243,(Ekl27,[Eke46],Ekf2),101115,Ekc3,[202],0),
  (243,(Ekl28,[Eke47],Ekf2),62314,Ekc7,[273,202],0),
  (246,(Ekl29,[],Ekf2),62313,Ekc7,[203],0),
  (247,(Ekl29,[Eke0],Ekf2),62312,Ekc7,[204],0),
  (250,(Ekl29,[Eke29],Ekf2),62311,Ekc7,[205],0),
  (251,(Ekl29,[Eke14,Eke29],Ekf2),62310,Ekc7,[206],0),
  (253,(Ekl29,[Eke27,Eke14,Eke29],Ekf2),62309,Ekc7,[208],0),
  (255,(Ekl27,[Eke44,Eke27,Eke14,Eke29],Ekf2),101122,Ekc3,[209],0),
  (255,(Ekl29,[Eke48,Eke27,Eke14,Eke29],Ekf2),62308,Ekc7,[210],0),
  (256,(Ekl27,[Eke6,Eke14,Eke29],Ekf2),101121,Ekc3,[211],0),
  (256,(Ekl29,[Eke49,Eke14,Eke29],Ekf2),62307,Ekc7,[213],0),
  (258,(Ekl27,[Eke32,Eke6,Eke14,Eke29],Ekf2),101120,Ekc3,[214],0),
  (258,(Ekl30,[Eke32,Eke49,Eke14,Eke29],Ekf2),101125,Ekc3,[215],0),
  (258,(Ekl29,[Eke50,Eke49,Eke14,Eke29],Ekf2),62306,Ekc7,[216],0),
  (260,(Ekl27,[Eke27,Eke32,Eke6,Eke14,Eke29],Ekf2),101119,Ekc3,[217],0),
  (260,(Ekl30,[Eke27,Eke32,Eke49,Eke14,Eke29],Ekf2),101124,Ekc3,[218],0),
  (260,(Ekl29,[Eke27,Eke50,Eke49,Eke14,Eke29],Ekf2),62305,Ekc7,[219],0),
  (261,(Ekl27,[Eke6,Eke6,Eke14,Eke29],Ekf2),101118,Ekc3,[220],0),
  (261,(Ekl30,[Eke6,Eke49,Eke14,Eke29],Ekf2),101123,Ekc3,[221],0),
  (261,(Ekl29,[Eke28,Eke49,Eke14,Eke29],Ekf2),62304,Ekc7,[221],0),
  (262,(Ekl27,[Eke6,Eke14,Eke29],Ekf2),101117,Ekc3,[222],0),
  (262,(Ekl29,[Eke51,Eke14,Eke29],Ekf2),62303,Ekc7,[223],0),
  (263,(Ekl27,[Eke6,Eke29],Ekf2),101116,Ekc3,[224],0),
  (263,(Ekl29,[Eke30,Eke29],Ekf2),62302,Ekc7,[224],0),
  (264,(Ekl29,[Eke17],Ekf2),62301,Ekc7,[225],0),
  (265,(Ekl29,[Eke0,Eke17],Ekf2),62300,Ekc7,[226],0),
  (268,(Ekl29,[Eke29,Eke17],Ekf2),62299,Ekc7,[227],0),
  (269,(Ekl29,[Eke14,Eke29,Eke17],Ekf2),62298,Ekc7,[229],0),
  (271,(Ekl30,[Eke32,Eke14,Eke29,Eke17],Ekf2),101127,Ekc3,[230],0),
  (271,(Ekl29,[Eke50,Eke14,Eke29,Eke17],Ekf2),62297,Ekc7,[231],0),
  (272,(Ekl30,[Eke6,Eke29,Eke17],Ekf2),101126,Ekc3,[232],0),
  (272,(Ekl29,[Eke30,Eke29,Eke17],Ekf2),62296,Ekc7,[232],0),
  (273,(Ekl29,[Eke17,Eke17],Ekf2),62295,Ekc7,[273,233],0),
  (276,(Ekl29,[],Ekf2),62294,Ekc7,[234],0),
  (277,(Ekl29,[Eke0],Ekf2),62293,Ekc7,[235],0),
  (280,(Ekl29,[Eke29],Ekf2),62292,Ekc7,[236],0),
  (281,(Ekl29,[Eke14,Eke29],Ekf2),62291,Ekc7,[238],0),
  (283,(Ekl30,[Eke32,Eke14,Eke29],Ekf2),101133,Ekc3,[239],0),
  (283,(Ekl29,[Eke50,Eke14,Eke29],Ekf2),62290,Ekc7,[240],0),
  (285,(Ekl30,[Eke27,Eke32,Eke14,Eke29],Ekf2),101132,Ekc3,[241],0),
  (285,(Ekl29,[Eke27,Eke50,Eke14,Eke29],Ekf2),62289,Ekc7,[242],0),
  (286,(Ekl31,[Eke6,Eke14,Eke29],Ekf2),101131,Ekc3,[243],0),
  (286,(Ekl29,[Eke28,Eke14,Eke29],Ekf2),62288,Ekc7,[244],0),
  (288,(Ekl31,[Eke27,Eke6,Eke14,Eke29],Ekf2),101130,Ekc3,[245],0),
  (288,(Ekl29,[Eke27,Eke28,Eke14,Eke29],Ekf2),62287,Ekc7,[246],0),
  (289,(Ekl31,[Eke6,Eke14,Eke29],Ekf2),101129,Ekc3,[248],0),
  (289,(Ekl29,[Eke49,Eke14,Eke29],Ekf2),62286,Ekc7,[249],0),
  (291,(Ekl27,[Eke44,Eke6,Eke14,Eke29],Ekf13),101138,Ekc3,[250],0),
  (291,(Ekl31,[Eke48,Eke6,Eke14,Eke29],Ekf2),101128,Ekc3,[251],0),
  (291,(Ekl29,[Eke48,Eke49,Eke14,Eke29],Ekf2),62285,Ekc7,[251],0),
  (292,(Ekl27,[Eke6,Eke14,Eke29],Ekf13),101137,Ekc3,[252],0),
  (292,(Ekl29,[Eke51,Eke14,Eke29],Ekf2),62284,Ekc7,[253],0),
  (293,(Ekl27,[Eke6,Eke29],Ekf13),101136,Ekc3,[254],0),
  (293,(Ekl29,[Eke30,Eke29],Ekf2),62283,Ekc7,[255],0),
  (294,(Ekl27,[Eke2,Eke6,Eke29],Ekf13),101135,Ekc3,[256],0),
  (294,(Ekl29,[Eke2,Eke30,Eke29],Ekf2),62282,Ekc7,[257],0)]
def CNE6_4 : List ND := [(295,(Ekl27,[Eke2,Eke29],Ekf13),101134,Ekc3,[258],0),
  (295,(Ekl29,[Eke31,Eke29],Ekf2),62281,Ekc7,[258],0),
  (296,(Ekl29,[Eke17],Ekf2),62280,Ekc7,[259],0),
  (297,(Ekl29,[Eke0,Eke17],Ekf2),62279,Ekc7,[260],0),
  (300,(Ekl29,[Eke29,Eke17],Ekf2),62278,Ekc7,[261],0),
  (301,(Ekl29,[Eke14,Eke29,Eke17],Ekf2),62277,Ekc7,[263],0),
  (303,(Ekl30,[Eke32,Eke14,Eke29,Eke17],Ekf2),101142,Ekc3,[264],0),
  (303,(Ekl29,[Eke50,Eke14,Eke29,Eke17],Ekf2),62276,Ekc7,[265],0),
  (304,(Ekl30,[Eke6,Eke29,Eke17],Ekf2),101141,Ekc3,[266],0),
  (304,(Ekl29,[Eke30,Eke29,Eke17],Ekf2),62275,Ekc7,[267],0),
  (305,(Ekl30,[Eke2,Eke6,Eke29,Eke17],Ekf2),101140,Ekc3,[268],0),
  (305,(Ekl29,[Eke2,Eke30,Eke29,Eke17],Ekf2),62274,Ekc7,[269],0),
  (306,(Ekl30,[Eke2,Eke29,Eke17],Ekf2),101139,Ekc3,[270],0),
  (306,(Ekl29,[Eke31,Eke29,Eke17],Ekf2),62273,Ekc7,[270],0),
  (307,(Ekl29,[Eke17,Eke17],Ekf2),62272,Ekc7,[273,271],0),
  (310,(Ekl29,[],Ekf2),62271,Ekc7,[272],0),
  (311,(Ekl29,[Eke2],Ekf2),62270,Ekc7,[275],0),
  (314,(Ekl28,[],Ekf2),62268,Ekc7,[274],0),
  (315,(Ekl28,[Eke6],Ekf2),62267,Ekc7,[276],0),
  (315,(Ekl29,[Eke2],Ekf2),62269,Ekc7,[276],0),
  (317,(Ekl28,[],Ekf2),62266,Ekc7,[277],0),
  (320,(Ekl32,[],Ekf2),62319,Ekc7,[194],0),
  (323,(Ekl33,[],Ekf2),61725,Ekc6,[279],0),
  (325,(Ekl33,[Eke47],Ekf2),61724,Ekc6,[288,280],0),
  (328,(Ekl34,[],Ekf2),61723,Ekc6,[282],0),
  (330,(Ekl35,[Eke23],Ekf2),101144,Ekc3,[283],0),
  (330,(Ekl34,[Eke52],Ekf2),61722,Ekc6,[284],0),
  (331,(Ekl35,[Eke53,Eke23],Ekf2),101143,Ekc3,[288,285],0),
  (331,(Ekl34,[Eke53,Eke52],Ekf2),61721,Ekc6,[288,285],0),
  (334,(Ekl36,[],Ekf2),3,Ekc3,[287],0),
  (336,(Ekl37,[Eke32],Ekf2),101145,Ekc3,[],0),
  (336,(Ekl36,[Eke50],Ekf2),2,Ekc3,[],0),
  (337,(Ekl33,[],Ekf2),61720,Ekc6,[290],0),
  (339,(Ekl38,[Eke23],Ekf2),101154,Ekc3,[291],0),
  (339,(Ekl33,[Eke52],Ekf2),61719,Ekc6,[292],0),
  (341,(Ekl38,[Eke47,Eke23],Ekf2),101153,Ekc3,[297,293],0),
  (341,(Ekl33,[Eke47,Eke52],Ekf2),61718,Ekc6,[298,294],0),
  (344,(Ekl35,[Eke23],Ekf2),101152,Ekc3,[295],0),
  (344,(Ekl34,[Eke52],Ekf2),61717,Ekc6,[296],0),
  (345,(Ekl35,[Eke2,Eke23],Ekf2),101151,Ekc3,[300],0),
  (345,(Ekl34,[Eke2,Eke52],Ekf2),61716,Ekc6,[302],0),
  (348,(Ekl39,[Eke23],Ekf2),101148,Ekc3,[299],0),
  (348,(Ekl40,[Eke52],Ekf2),61714,Ekc6,[301],0),
  (349,(Ekl39,[Eke6,Eke23],Ekf2),101147,Ekc3,[303],0),
  (349,(Ekl35,[Eke2,Eke23],Ekf2),101150,Ekc3,[304],0),
  (349,(Ekl40,[Eke6,Eke52],Ekf2),61713,Ekc6,[305],0),
  (349,(Ekl34,[Eke2,Eke52],Ekf2),61715,Ekc6,[305],0),
  (350,(Ekl39,[Eke6],Ekf2),101146,Ekc3,[306],0),
  (350,(Ekl35,[Eke2],Ekf2),101149,Ekc3,[306],0),
  (350,(Ekl33,[Eke17],Ekf2),61712,Ekc6,[306],0),
  (352,(Ekl33,[],Ekf2),61711,Ekc6,[307],0),
  (355,(Ekl41,[],Ekf2),62327,Ekc6,[185],0),
  (358,(Ekl42,[],Ekf2),10,Ekc3,[309],0),
  (359,(Ekl42,[Eke53],Ekf2),9,Ekc3,[312,310],0),
  (362,(Ekl43,[],Ekf2),8,Ekc3,[311],0),
  (364,(Ekl43,[Eke52],Ekf2),7,Ekc3,[314],0),
  (367,(Ekl44,[],Ekf2),5,Ekc3,[313],0),
  (368,(Ekl44,[Eke22],Ekf2),4,Ekc3,[],0),
  (368,(Ekl43,[Eke52],Ekf2),6,Ekc3,[],0)]
def CNE6 : List (List ND) := [CNE6_0, CNE6_1, CNE6_2, CNE6_3, CNE6_4]
theorem CKE6_0 : chkB prot SMsE SME6 [] CNE6 CNE6_0 = true := by decide +kernel
theorem CKE6_1 : chkB prot SMsE SME6 [] CNE6 CNE6_1 = true := by decide +kernel
theorem CKE6_2 : chkB prot SMsE SME6 [] CNE6 CNE6_2 = true := by decide +kernel
theorem CKE6_3 : chkB prot SMsE SME6 [] CNE6 CNE6_3 = true := by decide +kernel
theorem CKE6_4 : chkB prot SMsE SME6 [] CNE6 CNE6_4 = true := by decide +kernel
theorem CKE6 : chkS prot SMsE SME6 [] CNE6 = true := chkS_of (allc CKE6_0 (allc CKE6_1 (allc CKE6_2 (allc CKE6_3 (allc CKE6_4 (alln)))))) (by decide +kernel)
/-! LM, by program: the table E holds -/
section TB
variable {xs : Nat → Int} {xl : Nat}
def lowE (xs : Nat → Int) (xl : Nat) (S : SM) : Prop := ∀ k T, SMsE k = some T → T.2.1 < S.2.1 → SMok xs xl INV T
theorem all_cE {P : SM → Prop} {A : SM} {L : List SM} (h : P A) (hl : ∀ B ∈ L, P B) : ∀ B ∈ A :: L, P B := fun B hB => by
  rcases List.mem_cons.mp hB with rfl | q
  · exact h
  · exact hl B q
theorem all_nE {P : SM → Prop} : ∀ B ∈ ([] : List SM), P B := fun B hB => by cases hB
theorem all_lE {P : SM → Prop} {A : List SM} {L : List (List SM)} (h : ∀ B ∈ A, P B) (hl : ∀ C ∈ L, ∀ B ∈ C, P B) : ∀ C ∈ A :: L, ∀ B ∈ C, P B := fun C hC => by
  rcases List.mem_cons.mp hC with rfl | q
  · exact h
  · exact hl C q
theorem tbE_0 : ∀ S ∈ SMtE0, lowE xs xl S → SMok xs xl INV S := all_cE (fun hS => ai_ok INV_ok hS CKE0) (all_cE (fun hS => ai_ok INV_ok hS CKE1) (all_cE (fun hS => ai_ok INV_ok hS CKE2) (all_cE (fun hS => ai_ok INV_ok hS CKE3) (all_cE (fun _ => ok_goesBy) (all_cE (fun hS => ai_ok INV_ok hS CKE5) (all_cE (fun hS => ai_ok INV_ok hS CKE6) (all_nE)))))))
theorem tblE : ∀ C ∈ SMttE, ∀ S ∈ C, lowE xs xl S → SMok xs xl INV S := (all_lE tbE_0 (fun C hC => by cases hC))
theorem tabE {j : Nat} {S : SM} (hj : SMsE j = some S) : SMok xs xl INV S := by
  refine tab_ok (SMs := SMsE) (fun j S hS hl => ?_) S.2.1 j S hj (Nat.le_refl _)
  unfold SMsE at hS
  rw [Option.bind_eq_some_iff] at hS
  obtain ⟨C, c1, c2⟩ := hS
  exact tblE C (List.mem_of_getElem? c1) S (List.mem_of_getElem? c2) hl
theorem TE_rests : SMok xs xl INV SME6 := tabE (j := 6) rfl
end TB
