/-! LM, by program: certificates C 13 -/
-- OneSided$Finder.search [(90, 90), (32, 32), (59, 59), (1, 1)]
def Ckl1774 : AL := [some Cka265,some Cka121,some Cka160,some Cka6,none]
def Ckl1775 : AL := [some Cka265,some Cka121,some Cka160,some Cka6,some Cka92]
def Ckl1776 : AL := [some Cka265,some Cka121,some Cka160,some Cka6,some Cka7]
def Ckl1777 : AL := [some Cka265,some Cka121,some Cka160,some Cka6,some Cka77]
def Ckl1778 : AL := [some Cka265,some Cka121,some Cka160,some Cka6,some Cka240]
def Ckl1779 : AL := [some Cka265,some Cka121,some Cka160,some Cka6,some Cka46]
def CNC238_0 : List ND := [(0,(Ckl1774,[],[]),163,Ckc12,[1],0),
  (1,(Ckl1774,[Cke568],[]),162,Ckc12,[2],0),
  (2,(Ckl1774,[Cke7,Cke568],[]),161,Ckc12,[3],0),
  (5,(Ckl1774,[],Ckf248),160,Ckc12,[4],0),
  (6,(Ckl1774,[Cke568],Ckf248),159,Ckc12,[5],0),
  (9,(Ckl1774,[Cke765,Cke568],Ckf248),158,Ckc12,[6],0),
  (12,(Ckl1774,[],Ckf249),157,Ckc12,[7],0),
  (13,(Ckl1774,[Cke568],Ckf249),156,Ckc12,[8],0),
  (14,(Ckl1774,[Cke7,Cke568],Ckf249),155,Ckc12,[9],0),
  (17,(Ckl1774,[],Ckf250),154,Ckc12,[10],0),
  (18,(Ckl1774,[Cke568],Ckf250),153,Ckc12,[11],0),
  (19,(Ckl1774,[Cke51,Cke568],Ckf250),152,Ckc12,[12],0),
  (22,(Ckl1774,[],Ckf251),151,Ckc12,[13],0),
  (23,(Ckl1774,[Cke568],Ckf251),150,Ckc12,[14],0),
  (24,(Ckl1774,[Cke191,Cke568],Ckf251),149,Ckc12,[15],0),
  (27,(Ckl1774,[],Ckf252),148,Ckc12,[16],0),
  (28,(Ckl1774,[Cke568],Ckf252),147,Ckc12,[17],0),
  (31,(Ckl1774,[Cke650],Ckf252),146,Ckc12,[18],0),
  (32,(Ckl1774,[Cke7,Cke650],Ckf252),145,Ckc12,[19],217),
  (35,(Ckl1774,[],Ckf252),144,Ckc12,[20],0),
  (36,(Ckl1774,[Cke568],Ckf252),143,Ckc12,[21],0),
  (37,(Ckl1774,[Cke200,Cke568],Ckf252),142,Ckc12,[22],0),
  (38,(Ckl1774,[Cke766,Cke200,Cke568],Ckf252),141,Ckc12,[23],0),
  (41,(Ckl1774,[Cke284,Cke200,Cke568],Ckf252),140,Ckc12,[24],237),
  (44,(Ckl1774,[],Ckf252),139,Ckc12,[25],0),
  (45,(Ckl1774,[Cke7],Ckf252),138,Ckc12,[26],0),
  (47,(Ckl1775,[],Ckf252),136,Ckc47,[28],0),
  (49,(Ckl1776,[Cke166],Ckf252),165,Ckc12,[29],0),
  (49,(Ckl1775,[Cke649],Ckf252),135,Ckc47,[30],0),
  (51,(Ckl1776,[Cke48,Cke166],Ckf252),164,Ckc12,[31],0),
  (51,(Ckl1775,[Cke48,Cke649],Ckf252),134,Ckc47,[44,31],0),
  (54,(Ckl1777,[],Ckf252),133,Ckc47,[32],0),
  (55,(Ckl1777,[Cke568],Ckf252),132,Ckc47,[33],0),
  (58,(Ckl1777,[Cke646],Ckf252),131,Ckc47,[35],0),
  (60,(Ckl1776,[Cke166,Cke646],Ckf252),169,Ckc12,[36],0),
  (60,(Ckl1777,[Cke355,Cke646],Ckf252),130,Ckc47,[37],0),
  (61,(Ckl1776,[Cke6,Cke166,Cke646],Ckf252),168,Ckc12,[38],0),
  (61,(Ckl1777,[Cke6,Cke355,Cke646],Ckf252),129,Ckc47,[39],0),
  (63,(Ckl1776,[Cke166,Cke6,Cke166,Cke646],Ckf252),167,Ckc12,[40],0),
  (63,(Ckl1777,[Cke355,Cke6,Cke355,Cke646],Ckf252),128,Ckc47,[41],0),
  (64,(Ckl1776,[Cke6,Cke166,Cke646],Ckf252),166,Ckc12,[42],0),
  (64,(Ckl1777,[Cke351,Cke355,Cke646],Ckf252),127,Ckc47,[42],0),
  (65,(Ckl1777,[],Ckf252),126,Ckc47,[43],0),
  (68,(Ckl1778,[],Ckf252),137,Ckc47,[26],0),
  (71,(Ckl1779,[],Ckf252),5,Ckc12,[45],0),
  (72,(Ckl1779,[Cke568],Ckf252),4,Ckc12,[46],0),
  (73,(Ckl1779,[Cke766,Cke568],Ckf252),3,Ckc12,[47],0),
  (74,(Ckl1779,[Cke7,Cke766,Cke568],Ckf252),2,Ckc12,[48],0),
  (75,(Ckl1779,[Cke7,Cke7,Cke766,Cke568],Ckf252),1,Ckc12,[49],235),
  (78,(Ckl1779,[],Ckf219),0,Ckc12,[],0)]
def CNC238 : List (List ND) := [CNC238_0]
theorem CKC238 : chkS prot SMsC SMC238 [] CNC238 = true := by decide +kernel
-- OneSided$Finder.search [(90, 90), (5, 5), (59, 59), (0, 0)]
def Ckl1780 : AL := [some Cka265,some Cka50,some Cka160,some Cka7,none]
def Ckf324 : FA := [(90,0,Cka7),(90,1,Cka325),(90,2,Cka7),(90,3,Cka49),(90,6,Cka7)]
def Ckl1781 : AL := [some Cka265,some Cka50,some Cka160,some Cka7,some Cka92]
def Ckl1782 : AL := [some Cka265,some Cka50,some Cka160,some Cka7,some Cka7]
def Ckl1783 : AL := [some Cka265,some Cka50,some Cka160,some Cka7,some Cka77]
def Ckl1784 : AL := [some Cka265,some Cka50,some Cka160,some Cka7,some Cka240]
def Ckl1785 : AL := [some Cka265,some Cka50,some Cka160,some Cka7,some Cka46]
def Ckf325 : FA := [(90,6,Cka7)]
def CNC239_0 : List ND := [(0,(Ckl1780,[],[]),163,Ckc12,[1],0),
  (1,(Ckl1780,[Cke568],[]),162,Ckc12,[2],0),
  (2,(Ckl1780,[Cke7,Cke568],[]),161,Ckc12,[3],0),
  (5,(Ckl1780,[],Ckf248),160,Ckc12,[4],0),
  (6,(Ckl1780,[Cke568],Ckf248),159,Ckc12,[5],0),
  (9,(Ckl1780,[Cke765,Cke568],Ckf248),158,Ckc12,[6],0),
  (12,(Ckl1780,[],Ckf249),157,Ckc12,[7],0),
  (13,(Ckl1780,[Cke568],Ckf249),156,Ckc12,[8],0),
  (14,(Ckl1780,[Cke7,Cke568],Ckf249),155,Ckc12,[9],0),
  (17,(Ckl1780,[],Ckf250),154,Ckc12,[10],0),
  (18,(Ckl1780,[Cke568],Ckf250),153,Ckc12,[11],0),
  (19,(Ckl1780,[Cke51,Cke568],Ckf250),152,Ckc12,[12],0),
  (22,(Ckl1780,[],Ckf251),151,Ckc12,[13],0),
  (23,(Ckl1780,[Cke568],Ckf251),150,Ckc12,[14],0),
  (24,(Ckl1780,[Cke74,Cke568],Ckf251),149,Ckc12,[15],0),
  (27,(Ckl1780,[],Ckf324),148,Ckc12,[16],0),
  (28,(Ckl1780,[Cke568],Ckf324),147,Ckc12,[17],0),
  (31,(Ckl1780,[Cke650],Ckf324),146,Ckc12,[18],0),
  (32,(Ckl1780,[Cke7,Cke650],Ckf324),145,Ckc12,[19],217),
  (35,(Ckl1780,[],Ckf324),144,Ckc12,[20],0),
  (36,(Ckl1780,[Cke568],Ckf324),143,Ckc12,[21],0),
  (37,(Ckl1780,[Cke86,Cke568],Ckf324),142,Ckc12,[22],0),
  (38,(Ckl1780,[Cke766,Cke86,Cke568],Ckf324),141,Ckc12,[23],0),
  (41,(Ckl1780,[Cke284,Cke86,Cke568],Ckf324),140,Ckc12,[24],218),
  (44,(Ckl1780,[],Ckf324),139,Ckc12,[25],0),
  (45,(Ckl1780,[Cke7],Ckf324),138,Ckc12,[26],0),
  (47,(Ckl1781,[],Ckf324),136,Ckc47,[28],0),
  (49,(Ckl1782,[Cke166],Ckf324),165,Ckc12,[29],0),
  (49,(Ckl1781,[Cke649],Ckf324),135,Ckc47,[30],0),
  (51,(Ckl1782,[Cke48,Cke166],Ckf324),164,Ckc12,[31],0),
  (51,(Ckl1781,[Cke48,Cke649],Ckf324),134,Ckc47,[44,31],0),
  (54,(Ckl1783,[],Ckf324),133,Ckc47,[32],0),
  (55,(Ckl1783,[Cke568],Ckf324),132,Ckc47,[33],0),
  (58,(Ckl1783,[Cke646],Ckf324),131,Ckc47,[35],0),
  (60,(Ckl1782,[Cke166,Cke646],Ckf324),169,Ckc12,[36],0),
  (60,(Ckl1783,[Cke355,Cke646],Ckf324),130,Ckc47,[37],0),
  (61,(Ckl1782,[Cke6,Cke166,Cke646],Ckf324),168,Ckc12,[38],0),
  (61,(Ckl1783,[Cke6,Cke355,Cke646],Ckf324),129,Ckc47,[39],0),
  (63,(Ckl1782,[Cke166,Cke6,Cke166,Cke646],Ckf324),167,Ckc12,[40],0),
  (63,(Ckl1783,[Cke355,Cke6,Cke355,Cke646],Ckf324),128,Ckc47,[41],0),
  (64,(Ckl1782,[Cke6,Cke166,Cke646],Ckf324),166,Ckc12,[42],0),
  (64,(Ckl1783,[Cke351,Cke355,Cke646],Ckf324),127,Ckc47,[42],0),
  (65,(Ckl1783,[],Ckf324),126,Ckc47,[43],0),
  (68,(Ckl1784,[],Ckf324),137,Ckc47,[26],0),
  (71,(Ckl1785,[],Ckf324),5,Ckc12,[45],0),
  (72,(Ckl1785,[Cke568],Ckf324),4,Ckc12,[46],0),
  (73,(Ckl1785,[Cke766,Cke568],Ckf324),3,Ckc12,[47],0),
  (74,(Ckl1785,[Cke7,Cke766,Cke568],Ckf324),2,Ckc12,[48],0),
  (75,(Ckl1785,[Cke7,Cke7,Cke766,Cke568],Ckf324),1,Ckc12,[49],235),
  (78,(Ckl1785,[],Ckf325),0,Ckc12,[],0)]
def CNC239 : List (List ND) := [CNC239_0]
theorem CKC239 : chkS prot SMsC SMC239 [] CNC239 = true := by decide +kernel
-- OneSided$Finder.search [(90, 90), (32, 32), (59, 59), (0, 0)]
def Ckl1786 : AL := [some Cka265,some Cka121,some Cka160,some Cka7,none]
def Ckl1787 : AL := [some Cka265,some Cka121,some Cka160,some Cka7,some Cka92]
def Ckl1788 : AL := [some Cka265,some Cka121,some Cka160,some Cka7,some Cka7]
def Ckl1789 : AL := [some Cka265,some Cka121,some Cka160,some Cka7,some Cka77]
def Ckl1790 : AL := [some Cka265,some Cka121,some Cka160,some Cka7,some Cka240]
def Ckl1791 : AL := [some Cka265,some Cka121,some Cka160,some Cka7,some Cka46]
def CNC240_0 : List ND := [(0,(Ckl1786,[],[]),163,Ckc12,[1],0),
  (1,(Ckl1786,[Cke568],[]),162,Ckc12,[2],0),
  (2,(Ckl1786,[Cke7,Cke568],[]),161,Ckc12,[3],0),
  (5,(Ckl1786,[],Ckf248),160,Ckc12,[4],0),
  (6,(Ckl1786,[Cke568],Ckf248),159,Ckc12,[5],0),
  (9,(Ckl1786,[Cke765,Cke568],Ckf248),158,Ckc12,[6],0),
  (12,(Ckl1786,[],Ckf249),157,Ckc12,[7],0),
  (13,(Ckl1786,[Cke568],Ckf249),156,Ckc12,[8],0),
  (14,(Ckl1786,[Cke7,Cke568],Ckf249),155,Ckc12,[9],0),
  (17,(Ckl1786,[],Ckf250),154,Ckc12,[10],0),
  (18,(Ckl1786,[Cke568],Ckf250),153,Ckc12,[11],0),
  (19,(Ckl1786,[Cke51,Cke568],Ckf250),152,Ckc12,[12],0),
  (22,(Ckl1786,[],Ckf251),151,Ckc12,[13],0),
  (23,(Ckl1786,[Cke568],Ckf251),150,Ckc12,[14],0),
  (24,(Ckl1786,[Cke74,Cke568],Ckf251),149,Ckc12,[15],0),
  (27,(Ckl1786,[],Ckf324),148,Ckc12,[16],0),
  (28,(Ckl1786,[Cke568],Ckf324),147,Ckc12,[17],0),
  (31,(Ckl1786,[Cke650],Ckf324),146,Ckc12,[18],0),
  (32,(Ckl1786,[Cke7,Cke650],Ckf324),145,Ckc12,[19],217),
  (35,(Ckl1786,[],Ckf324),144,Ckc12,[20],0),
  (36,(Ckl1786,[Cke568],Ckf324),143,Ckc12,[21],0),
  (37,(Ckl1786,[Cke200,Cke568],Ckf324),142,Ckc12,[22],0),
  (38,(Ckl1786,[Cke766,Cke200,Cke568],Ckf324),141,Ckc12,[23],0),
  (41,(Ckl1786,[Cke284,Cke200,Cke568],Ckf324),140,Ckc12,[24],237),
  (44,(Ckl1786,[],Ckf324),139,Ckc12,[25],0),
  (45,(Ckl1786,[Cke7],Ckf324),138,Ckc12,[26],0),
  (47,(Ckl1787,[],Ckf324),136,Ckc47,[28],0),
  (49,(Ckl1788,[Cke166],Ckf324),165,Ckc12,[29],0),
  (49,(Ckl1787,[Cke649],Ckf324),135,Ckc47,[30],0),
  (51,(Ckl1788,[Cke48,Cke166],Ckf324),164,Ckc12,[31],0),
  (51,(Ckl1787,[Cke48,Cke649],Ckf324),134,Ckc47,[44,31],0),
  (54,(Ckl1789,[],Ckf324),133,Ckc47,[32],0),
  (55,(Ckl1789,[Cke568],Ckf324),132,Ckc47,[33],0),
  (58,(Ckl1789,[Cke646],Ckf324),131,Ckc47,[35],0),
  (60,(Ckl1788,[Cke166,Cke646],Ckf324),169,Ckc12,[36],0),
  (60,(Ckl1789,[Cke355,Cke646],Ckf324),130,Ckc47,[37],0),
  (61,(Ckl1788,[Cke6,Cke166,Cke646],Ckf324),168,Ckc12,[38],0),
  (61,(Ckl1789,[Cke6,Cke355,Cke646],Ckf324),129,Ckc47,[39],0),
  (63,(Ckl1788,[Cke166,Cke6,Cke166,Cke646],Ckf324),167,Ckc12,[40],0),
  (63,(Ckl1789,[Cke355,Cke6,Cke355,Cke646],Ckf324),128,Ckc47,[41],0),
  (64,(Ckl1788,[Cke6,Cke166,Cke646],Ckf324),166,Ckc12,[42],0),
  (64,(Ckl1789,[Cke351,Cke355,Cke646],Ckf324),127,Ckc47,[42],0),
  (65,(Ckl1789,[],Ckf324),126,Ckc47,[43],0),
  (68,(Ckl1790,[],Ckf324),137,Ckc47,[26],0),
  (71,(Ckl1791,[],Ckf324),5,Ckc12,[45],0),
  (72,(Ckl1791,[Cke568],Ckf324),4,Ckc12,[46],0),
  (73,(Ckl1791,[Cke766,Cke568],Ckf324),3,Ckc12,[47],0),
  (74,(Ckl1791,[Cke7,Cke766,Cke568],Ckf324),2,Ckc12,[48],0),
  (75,(Ckl1791,[Cke7,Cke7,Cke766,Cke568],Ckf324),1,Ckc12,[49],235),
  (78,(Ckl1791,[],Ckf325),0,Ckc12,[],0)]
def CNC240 : List (List ND) := [CNC240_0]
theorem CKC240 : chkS prot SMsC SMC240 [] CNC240 = true := by decide +kernel
-- OneSided$Finder.tellingPair [(90, 90), (2, 10)]
def Ckl1792 : AL := [some Cka265,some Cka59,none,none,none,none,none,none]
def Ckl1793 : AL := [some Cka265,some Cka59,some Cka49,none,none,none,none,none]
def Ckl1794 : AL := [some Cka265,some Cka59,some Cka49,some Cka7,none,none,none,none]
def Cka326 : AV := (0,-1,99,1)
def Ckl1795 : AL := [some Cka265,some Cka59,some Cka326,some Cka142,some Cka92,none,none,none]
def Ckc48 : List Int := [0,0,0,0,-392,0,0,0]
def Ckl1796 : AL := [some Cka265,some Cka59,some Cka49,some Cka7,some Cka7,none,none,none]
def Cke793 : SE := (Cka59,(1,1,0,0,0))
def Ckl1797 : AL := [some Cka265,some Cka59,some Cka326,some Cka142,some Cka77,none,none,none]
def Ckl1798 : AL := [some Cka265,some Cka59,some Cka326,some Cka142,some Cka77,some Cka92,none,none]
def Ckc49 : List Int := [0,0,0,0,-392,-35,0,0]
def Ckl1799 : AL := [some Cka265,some Cka59,some Cka49,some Cka7,some Cka7,some Cka7,none,none]
def Ckl1800 : AL := [some Cka265,some Cka59,some Cka326,some Cka142,some Cka77,some Cka77,none,none]
def Ckl1801 : AL := [some Cka265,some Cka59,some Cka165,some Cka142,some Cka7,some Cka77,none,none]
def Ckl1802 : AL := [some Cka265,some Cka59,some Cka326,some Cka142,some Cka77,some Cka77,some Cka34,none]
def Ckl1803 : AL := [some Cka265,some Cka59,some Cka326,some Cka142,some Cka77,some Cka77,some Cka34,some Cka34]
def Ckl1804 : AL := [some Cka265,some Cka59,some Cka165,some Cka142,some Cka7,some Cka77,some Cka34,some Cka34]
def Ckl1805 : AL := [some Cka265,some Cka59,some Cka49,some Cka7,some Cka7,some Cka7,some Cka34,some Cka34]
def Ckl1806 : AL := [some Cka265,some Cka59,some Cka49,some Cka7,some Cka7,some Cka6,some Cka34,some Cka34]
def Cka327 : AV := (0,0,2147483646,1)
def Ckl1807 : AL := [some Cka265,some Cka59,some Cka326,some Cka327,some Cka77,some Cka77,some Cka34,some Cka178]
def Cke794 : SE := (Cka178,(1,7,0,0,0))
def Ckl1808 : AL := [some Cka265,some Cka59,some Cka326,some Cka178,some Cka77,some Cka77,some Cka34,some Cka178]
def Ckl1809 : AL := [some Cka265,some Cka59,some Cka165,some Cka178,some Cka7,some Cka73,some Cka34,some Cka178]
def Ckl1810 : AL := [some Cka265,some Cka59,some Cka49,some Cka178,some Cka7,some Cka6,some Cka34,some Cka178]
def Cke795 : SE := (Cka73,(1,5,0,0,0))
def Ckl1811 : AL := [some Cka265,some Cka59,some Cka326,some Cka142,some Cka77,some Cka240,some Cka34,some Cka34]
def Ckl1812 : AL := [some Cka265,some Cka59,some Cka326,some Cka142,some Cka77,some Cka59,none,none]
def Ckl1813 : AL := [some Cka265,some Cka59,some Cka326,some Cka142,some Cka240,some Cka59,none,none]
def Ckl1814 : AL := [some Cka265,some Cka59,some Cka326,some Cka142,some Cka59,none,none,none]
def Cke796 : SE := (Cka326,(1,2,0,0,0))
def CNC241_0 : List ND := [(0,(Ckl1792,[],[]),4319,Ckc13,[1],0),
  (1,(Ckl1792,[Cke51],[]),4318,Ckc13,[2],0),
  (2,(Ckl1793,[],[]),4317,Ckc13,[3],0),
  (3,(Ckl1793,[Cke7],[]),4316,Ckc13,[4],0),
  (4,(Ckl1794,[],[]),4315,Ckc13,[5],0),
  (5,(Ckl1794,[Cke7],[]),4314,Ckc13,[6],0),
  (7,(Ckl1795,[],[]),4312,Ckc48,[8],0),
  (9,(Ckl1796,[Cke166],[]),4321,Ckc13,[9],0),
  (9,(Ckl1795,[Cke649],[]),4311,Ckc48,[10],0),
  (10,(Ckl1796,[Cke793,Cke166],[]),4320,Ckc13,[11],0),
  (10,(Ckl1795,[Cke793,Cke649],[]),4310,Ckc48,[68,11],0),
  (13,(Ckl1797,[],[]),4309,Ckc48,[12],0),
  (14,(Ckl1797,[Cke7],[]),4308,Ckc48,[13],0),
  (16,(Ckl1798,[],[]),4306,Ckc49,[15],0),
  (18,(Ckl1799,[Cke216],[]),4323,Ckc13,[16],0),
  (18,(Ckl1798,[Cke520],[]),4305,Ckc49,[17],0),
  (19,(Ckl1799,[Cke793,Cke216],[]),4322,Ckc13,[18],0),
  (19,(Ckl1798,[Cke793,Cke520],[]),4304,Ckc49,[66,18],0),
  (22,(Ckl1800,[],[]),4303,Ckc49,[19],0),
  (23,(Ckl1800,[Cke568],[]),4302,Ckc49,[20],0),
  (26,(Ckl1800,[Cke650],[]),4301,Ckc49,[22],0),
  (28,(Ckl1801,[Cke166,Cke650],[]),4327,Ckc13,[23],0),
  (28,(Ckl1800,[Cke355,Cke650],[]),4300,Ckc49,[24],0),
  (30,(Ckl1801,[Cke48,Cke166,Cke650],[]),4326,Ckc13,[25],0),
  (30,(Ckl1800,[Cke48,Cke355,Cke650],[]),4299,Ckc49,[26],0),
  (31,(Ckl1801,[Cke7,Cke650],[]),4325,Ckc13,[28],0),
  (31,(Ckl1800,[Cke651,Cke650],[]),4298,Ckc49,[29],0),
  (33,(Ckl1799,[Cke216,Cke7,Cke650],[]),4329,Ckc13,[30],0),
  (33,(Ckl1801,[Cke236,Cke7,Cke650],[]),4324,Ckc13,[31],0),
  (33,(Ckl1800,[Cke236,Cke651,Cke650],[]),4297,Ckc49,[31],0),
  (34,(Ckl1799,[Cke7,Cke650],[]),4328,Ckc13,[32],0),
  (34,(Ckl1800,[Cke652,Cke650],[]),4296,Ckc49,[32],0),
  (35,(Ckl1800,[Cke184],[]),4295,Ckc49,[33],0),
  (37,(Ckl1802,[],[]),4294,Ckc49,[34],0),
  (39,(Ckl1802,[Cke353],[]),4293,Ckc49,[35],0),
  (40,(Ckl1802,[Cke568,Cke353],[]),4292,Ckc49,[36],0),
  (43,(Ckl1802,[Cke658,Cke353],[]),4291,Ckc49,[37],0),
  (45,(Ckl1802,[Cke353,Cke658,Cke353],[]),4290,Ckc49,[38],0),
  (46,(Ckl1802,[Cke184,Cke353],[]),4289,Ckc49,[39],0),
  (49,(Ckl1802,[Cke184],[]),4288,Ckc49,[40],0),
  (51,(Ckl1803,[],[]),4287,Ckc49,[42],0),
  (53,(Ckl1804,[Cke166],[]),4331,Ckc13,[44],0),
  (53,(Ckl1803,[Cke355],[]),4286,Ckc49,[45],0),
  (55,(Ckl1805,[Cke216,Cke166],[]),4332,Ckc13,[64],0),
  (55,(Ckl1804,[Cke236,Cke166],[]),4330,Ckc13,[64,46],0),
  (55,(Ckl1803,[Cke236,Cke355],[]),4285,Ckc49,[64,46],0),
  (58,(Ckl1803,[],[]),4284,Ckc49,[47],0),
  (60,(Ckl1803,[Cke215],[]),4283,Ckc49,[49],0),
  (61,(Ckl1806,[Cke74,Cke215],[]),4333,Ckc13,[64,50],0),
  (61,(Ckl1803,[Cke233,Cke215],[]),4282,Ckc49,[64,50],0),
  (64,(Ckl1807,[],[]),4281,Ckc49,[51],0),
  (66,(Ckl1807,[Cke794],[]),4280,Ckc49,[52],0),
  (67,(Ckl1808,[],[]),4279,Ckc49,[54],0),
  (69,(Ckl1809,[Cke166],[]),4337,Ckc13,[55],0),
  (69,(Ckl1808,[Cke355],[]),4278,Ckc49,[56],0),
  (71,(Ckl1809,[Cke48,Cke166],[]),4336,Ckc13,[57],0),
  (71,(Ckl1808,[Cke48,Cke355],[]),4277,Ckc49,[58],0),
  (72,(Ckl1809,[Cke7],[]),4335,Ckc13,[60],0),
  (72,(Ckl1808,[Cke651],[]),4276,Ckc49,[61],0),
  (74,(Ckl1810,[Cke219,Cke7],[]),4339,Ckc13,[62],0),
  (74,(Ckl1809,[Cke795,Cke7],[]),4334,Ckc13,[63],0),
  (74,(Ckl1808,[Cke236,Cke651],[]),4275,Ckc49,[63],0),
  (75,(Ckl1810,[Cke6],[]),4338,Ckc13,[64],0),
  (75,(Ckl1808,[Cke652],[]),4274,Ckc49,[64],0)]
def CNC241_1 : List ND := [(76,(Ckl1803,[],[]),4273,Ckc49,[65],0),
  (79,(Ckl1811,[],[]),4307,Ckc49,[13],0),
  (82,(Ckl1812,[],[]),3922,Ckc48,[67],0),
  (85,(Ckl1813,[],[]),4313,Ckc48,[6],0),
  (88,(Ckl1814,[],[]),1,Ckc13,[69],0),
  (89,(Ckl1814,[Cke796],[]),0,Ckc13,[],0)]
def CNC241 : List (List ND) := [CNC241_0, CNC241_1]
theorem CKC241 : chkS prot SMsC SMC241 [] CNC241 = true := by decide +kernel
-- OneSided.found [(1, 1), (-2147483648, 2147483647)]
def Ckl1815 : AL := [some Cka161,some Cka55]
def Cke797 : SE := (Cka265,(2,1,13,0,0))
def Ckl1816 : AL := [some Cka161,some Cka32]
def Ckf326 : FA := [(90,0,Cka34)]
def Ckl1817 : AL := [some Cka161,some Cka7]
def Cke798 : SE := (Cka34,(2,90,5,0,0))
def Ckl1818 : AL := [some Cka161,some Cka6]
def Ckl1819 : AL := [some Cka161,some Cka18]
def Cke799 : SE := (Cka326,pv0)
def CNC242_0 : List ND := [(0,(Ckl725,[],[]),70,Ckc0,[1],0),
  (1,(Ckl725,[Cke156],[]),69,Ckc0,[5,2],0),
  (4,(Ckl726,[],[]),68,Ckc0,[3],0),
  (5,(Ckl726,[Cke299],[]),67,Ckc0,[4],0),
  (6,(Ckl726,[Cke35,Cke299],[]),66,Ckc0,[7,5],0),
  (9,(Ckl725,[],[]),1,Ckc0,[6],0),
  (10,(Ckl725,[Cke51],[]),0,Ckc0,[],0),
  (11,(Ckl1815,[],[]),65,Ckc0,[8],0),
  (12,(Ckl1815,[Cke288],[]),64,Ckc0,[9],0),
  (15,(Ckl1815,[Cke797],[]),63,Ckc0,[10],0),
  (16,(Ckl1815,[Cke288,Cke797],[]),62,Ckc0,[12,11],0),
  (19,(Ckl1815,[Cke290,Cke797],[]),61,Ckc0,[13],0),
  (19,(Ckl1815,[Cke291,Cke797],[]),51,Ckc0,[14],0),
  (20,(Ckl1815,[Cke288,Cke290,Cke797],[]),60,Ckc0,[15],0),
  (20,(Ckl1815,[Cke288,Cke291,Cke797],[]),50,Ckc0,[16],0),
  (23,(Ckl1815,[Cke298,Cke290,Cke797],[]),59,Ckc0,[17],0),
  (23,(Ckl1815,[Cke298,Cke291,Cke797],[]),49,Ckc0,[18],0),
  (24,(Ckl1815,[Cke258,Cke298,Cke290,Cke797],[]),58,Ckc0,[19],0),
  (24,(Ckl1815,[Cke258,Cke298,Cke291,Cke797],[]),48,Ckc0,[20],0),
  (25,(Ckl1815,[Cke36,Cke258,Cke298,Cke290,Cke797],[]),57,Ckc0,[25,21],0),
  (25,(Ckl1815,[Cke36,Cke258,Cke298,Cke291,Cke797],[]),47,Ckc0,[26,22],0),
  (28,(Ckl1816,[Cke298,Cke290,Cke797],[]),54,Ckc0,[23],0),
  (28,(Ckl1816,[Cke298,Cke291,Cke797],[]),46,Ckc0,[24],0),
  (29,(Ckl1816,[Cke6,Cke298,Cke290,Cke797],[]),53,Ckc0,[29],0),
  (29,(Ckl1816,[Cke6,Cke298,Cke291,Cke797],[]),45,Ckc0,[30],0),
  (32,(Ckl1815,[Cke298,Cke290,Cke797],[]),56,Ckc0,[27],0),
  (32,(Ckl1815,[Cke298,Cke291,Cke797],[]),43,Ckc0,[28],0),
  (33,(Ckl1815,[Cke7,Cke298,Cke290,Cke797],[]),55,Ckc0,[31],240),
  (33,(Ckl1815,[Cke7,Cke298,Cke291,Cke797],[]),42,Ckc0,[31],239),
  (33,(Ckl1816,[Cke6,Cke298,Cke290,Cke797],[]),52,Ckc0,[31],238),
  (33,(Ckl1816,[Cke6,Cke298,Cke291,Cke797],[]),44,Ckc0,[31],236),
  (36,(Ckl1815,[],[]),41,Ckc0,[32],0),
  (37,(Ckl1815,[Cke288],[]),40,Ckc0,[33],0),
  (40,(Ckl1815,[Cke797],[]),39,Ckc0,[34],0),
  (43,(Ckl1815,[Cke658],[]),38,Ckc0,[37,35],0),
  (46,(Ckl1815,[],Ckf248),37,Ckc0,[36],0),
  (47,(Ckl1815,[Cke51],Ckf248),36,Ckc0,[],0),
  (48,(Ckl1815,[],Ckf326),35,Ckc0,[38],0),
  (49,(Ckl1815,[Cke258],Ckf326),34,Ckc0,[67,39,47,51,59],0),
  (80,(Ckl1817,[],Ckf326),25,Ckc0,[40],0),
  (81,(Ckl1817,[Cke288],Ckf326),24,Ckc0,[41],0),
  (84,(Ckl1817,[Cke797],Ckf326),23,Ckc0,[42],0),
  (87,(Ckl1817,[Cke658],Ckf326),22,Ckc0,[43],0),
  (88,(Ckl1817,[Cke288,Cke658],Ckf326),21,Ckc0,[44],0),
  (91,(Ckl1817,[Cke797,Cke658],Ckf326),20,Ckc0,[45],0),
  (94,(Ckl1817,[Cke798,Cke658],Ckf326),19,Ckc0,[46],0),
  (95,(Ckl1817,[Cke184],Ckf326),18,Ckc0,[],0),
  (96,(Ckl1818,[],Ckf326),5,Ckc0,[48],0),
  (97,(Ckl1818,[Cke288],Ckf326),4,Ckc0,[49],0),
  (100,(Ckl1818,[Cke797],Ckf326),3,Ckc0,[50],0),
  (103,(Ckl1818,[Cke659],Ckf326),2,Ckc0,[],0),
  (104,(Ckl1819,[],Ckf326),33,Ckc0,[52],0),
  (105,(Ckl1819,[Cke288],Ckf326),32,Ckc0,[53],0),
  (108,(Ckl1819,[Cke797],Ckf326),31,Ckc0,[54],0),
  (111,(Ckl1819,[Cke660],Ckf326),30,Ckc0,[55],0),
  (112,(Ckl1819,[Cke288,Cke660],Ckf326),29,Ckc0,[56],0),
  (115,(Ckl1819,[Cke797,Cke660],Ckf326),28,Ckc0,[57],0),
  (118,(Ckl1819,[Cke637,Cke660],Ckf326),27,Ckc0,[58],0),
  (119,(Ckl1819,[Cke184],Ckf326),26,Ckc0,[],0),
  (120,(Ckl1816,[],Ckf326),13,Ckc0,[60],0),
  (121,(Ckl1816,[Cke288],Ckf326),12,Ckc0,[61],0),
  (124,(Ckl1816,[Cke797],Ckf326),11,Ckc0,[62],0),
  (125,(Ckl1816,[Cke288,Cke797],Ckf326),10,Ckc0,[64,63],0),
  (128,(Ckl1816,[Cke290,Cke797],Ckf326),9,Ckc0,[65],0)]
def CNC242_1 : List ND := [(128,(Ckl1816,[Cke291,Cke797],Ckf326),8,Ckc0,[65],0),
  (131,(Ckl1816,[Cke68,Cke797],[]),7,Ckc0,[66],241),
  (134,(Ckl1816,[Cke799],[]),6,Ckc0,[],0),
  (135,(Ckl1815,[],Ckf326),17,Ckc0,[68],0),
  (136,(Ckl1815,[Cke288],Ckf326),16,Ckc0,[69],0),
  (139,(Ckl1815,[Cke797],Ckf326),15,Ckc0,[70],0),
  (142,(Ckl1815,[Cke661],Ckf326),14,Ckc0,[],0)]
def CNC242 : List (List ND) := [CNC242_0, CNC242_1]
theorem CKC242 : chkS prot SMsC SMC242 [] CNC242 = true := by decide +kernel
-- OneSided.isHinge [(1, 1), (-2147483648, 2147483647)]
def CNC243_0 : List ND := [(0,(Ckl725,[],[]),21,Ckc0,[1],0),
  (1,(Ckl725,[Cke288],[]),20,Ckc0,[2],0),
  (2,(Ckl725,[Cke156,Cke288],[]),19,Ckc0,[4,3],136),
  (5,(Ckl725,[Cke7],[]),18,Ckc0,[19],0),
  (5,(Ckl727,[Cke6],[]),17,Ckc0,[5],0),
  (8,(Ckl727,[],[]),16,Ckc0,[6],0),
  (9,(Ckl727,[Cke288],[]),15,Ckc0,[8,7],0),
  (12,(Ckl727,[Cke290],[]),14,Ckc0,[9],0),
  (12,(Ckl727,[Cke291],[]),10,Ckc0,[10],0),
  (15,(Ckl727,[Cke195],[]),13,Ckc0,[11],0),
  (15,(Ckl727,[Cke77],[]),9,Ckc0,[12],0),
  (16,(Ckl727,[Cke237,Cke195],[]),12,Ckc0,[14],0),
  (16,(Ckl727,[Cke237,Cke77],[]),8,Ckc0,[13],0),
  (17,(Ckl727,[Cke79],[]),7,Ckc0,[15],0),
  (17,(Ckl727,[Cke196],[]),11,Ckc0,[15],0),
  (20,(Ckl727,[Cke141],[]),6,Ckc0,[16],0),
  (21,(Ckl727,[Cke22,Cke141],[]),5,Ckc0,[19,17],0),
  (24,(Ckl727,[],[]),4,Ckc0,[18],0),
  (25,(Ckl727,[Cke6],[]),3,Ckc0,[21],0),
  (28,(Ckl725,[],[]),1,Ckc0,[20],0),
  (29,(Ckl725,[Cke7],[]),0,Ckc0,[],1),
  (29,(Ckl727,[Cke6],[]),2,Ckc0,[],0)]
def CNC243 : List (List ND) := [CNC243_0]
theorem CKC243 : chkS prot SMsC SMC243 [(1,1)] CNC243 = true := by decide +kernel
-- OneSided$Rents.tryPrices [(96, 96), (5, 5), (60, 60), (0, 0), (0, 13)]
def Cka328 : AV := (2,96,96,0)
def Ckl1820 : AL := [some Cka328,some Cka50,some Cka157,some Cka7,some Cka62,none,none,none,none]
def Ckl1821 : AL := [some Cka328,some Cka50,some Cka157,some Cka7,some Cka62,some Cka96,none,none,none]
def Ckl1822 : AL := [some Cka328,some Cka50,some Cka157,some Cka7,some Cka62,some Cka96,some Cka92,none,none]
def Ckc50 : List Int := [0,0,0,0,0,0,-167,0,0]
def Ckl1823 : AL := [some Cka328,some Cka50,some Cka157,some Cka7,some Cka62,some Cka96,some Cka7,none,none]
def Ckl1824 : AL := [some Cka328,some Cka50,some Cka157,some Cka7,some Cka62,some Cka96,some Cka77,none,none]
def Ckl1825 : AL := [some Cka328,some Cka50,some Cka157,some Cka7,some Cka62,some Cka96,some Cka77,some Cka55,none]
def Ckc51 : List Int := [0,0,0,0,0,0,-167,-32,0]
def Ckl1826 : AL := [some Cka328,some Cka50,some Cka157,some Cka7,some Cka62,some Cka96,some Cka7,some Cka7,none]
def Cke800 : SE := (Cka55,(1,7,0,0,0))
def Ckl1827 : AL := [some Cka328,some Cka50,some Cka157,some Cka7,some Cka62,some Cka96,some Cka77,some Cka80,none]
def Ckl1828 : AL := [some Cka328,some Cka50,some Cka157,some Cka7,some Cka62,some Cka6,some Cka77,some Cka80,none]
def Ckl1829 : AL := [some Cka328,some Cka50,some Cka157,some Cka7,some Cka62,some Cka6,some Cka7,some Cka7,none]
def Cke801 : SE := (Cka80,(1,7,0,0,0))
def Ckl1830 : AL := [some Cka328,some Cka50,some Cka157,some Cka7,some Cka62,some Cka6,some Cka7,some Cka80,none]
def Ckl1831 : AL := [some Cka328,some Cka50,some Cka157,some Cka7,some Cka62,some Cka7,some Cka77,some Cka80,none]
def Ckl1832 : AL := [some Cka328,some Cka50,some Cka157,some Cka7,some Cka62,some Cka96,some Cka77,some Cka80,some Cka147]
def Cke802 : SE := (Cka328,(1,0,0,0,0))
def Cka329 : AV := (2,99,99,0)
def Cke803 : SE := (Cka329,(2,96,4,0,0))
def Ckl1833 : AL := [some Cka328,some Cka50,some Cka157,some Cka7,some Cka62,some Cka96,some Cka7,some Cka80,some Cka147]
def Cka330 : AV := (0,0,36,4)
def Cke804 : SE := (Cka330,pv0)
def Ckl1834 : AL := [some Cka328,some Cka50,some Cka157,some Cka7,some Cka62,some Cka96,some Cka7,some Cka7,some Cka147]
def Cka331 : AV := (0,0,39,1)
def Cke805 : SE := (Cka331,pv0)
def Ckl1835 : AL := [some Cka328,some Cka50,some Cka157,some Cka7,some Cka62,some Cka96,some Cka77,some Cka120,some Cka147]
def Ckl1836 : AL := [some Cka328,some Cka50,some Cka157,some Cka7,some Cka62,some Cka96,some Cka77,some Cka31,none]
def Ckl1837 : AL := [some Cka328,some Cka50,some Cka157,some Cka7,some Cka62,some Cka96,some Cka240,some Cka31,none]
def Ckl1838 : AL := [some Cka328,some Cka50,some Cka157,some Cka7,some Cka62,some Cka96,some Cka46,none,none]
def CNC244_0 : List ND := [(0,(Ckl1820,[],[]),1855,Ckc15,[1],0),
  (1,(Ckl1820,[Cke354],[]),1854,Ckc15,[2],0),
  (4,(Ckl1820,[Cke316],[]),1853,Ckc15,[3],0),
  (6,(Ckl1820,[Cke144,Cke316],[]),1852,Ckc15,[13,4],0),
  (9,(Ckl1820,[],Ckf96),1851,Ckc15,[5],0),
  (10,(Ckl1820,[Cke354],Ckf96),1850,Ckc15,[6],0),
  (13,(Ckl1820,[Cke303],Ckf96),1849,Ckc15,[7],0),
  (15,(Ckl1820,[Cke410,Cke303],Ckf96),1848,Ckc15,[8],0),
  (16,(Ckl1820,[Cke184],Ckf96),1847,Ckc15,[9],0),
  (17,(Ckl1820,[Cke6,Cke184],Ckf96),1846,Ckc15,[10],0),
  (18,(Ckl1820,[Cke242],Ckf96),1845,Ckc15,[13,11],0),
  (21,(Ckl1820,[],Ckf96),1844,Ckc15,[12],0),
  (22,(Ckl1820,[Cke6],Ckf96),1843,Ckc15,[15],0),
  (25,(Ckl1820,[],[]),1841,Ckc15,[14],0),
  (26,(Ckl1820,[Cke7],[]),1840,Ckc15,[16],0),
  (26,(Ckl1820,[Cke6],Ckf96),1842,Ckc15,[16],0),
  (28,(Ckl1821,[],[]),1839,Ckc15,[17],0),
  (29,(Ckl1821,[Cke7],[]),1838,Ckc15,[18],0),
  (31,(Ckl1822,[],[]),1836,Ckc50,[20],0),
  (33,(Ckl1823,[Cke212],[]),1857,Ckc15,[21],0),
  (33,(Ckl1822,[Cke671],[]),1835,Ckc50,[22],0),
  (35,(Ckl1823,[Cke48,Cke212],[]),1856,Ckc15,[23],0),
  (35,(Ckl1822,[Cke48,Cke671],[]),1834,Ckc50,[76,23],0),
  (38,(Ckl1824,[],[]),1833,Ckc50,[24],0),
  (39,(Ckl1824,[Cke7],[]),1832,Ckc50,[25],0),
  (41,(Ckl1825,[],[]),1830,Ckc51,[27],0),
  (43,(Ckl1826,[Cke386],[]),1859,Ckc15,[28],0),
  (43,(Ckl1825,[Cke800],[]),1829,Ckc51,[29],0),
  (44,(Ckl1826,[Cke35,Cke386],[]),1858,Ckc15,[30],0),
  (44,(Ckl1825,[Cke35,Cke800],[]),1828,Ckc51,[74,30],0),
  (47,(Ckl1827,[],[]),1827,Ckc51,[31],0),
  (49,(Ckl1827,[Cke158],[]),1826,Ckc51,[48,32],0),
  (52,(Ckl1828,[],[]),1823,Ckc51,[33],0),
  (53,(Ckl1828,[Cke86],[]),1822,Ckc51,[34],0),
  (55,(Ckl1828,[Cke410,Cke86],[]),1821,Ckc51,[36],0),
  (57,(Ckl1829,[Cke386,Cke410,Cke86],[]),1864,Ckc15,[37],0),
  (57,(Ckl1828,[Cke801,Cke410,Cke86],[]),1820,Ckc51,[38],0),
  (58,(Ckl1829,[Cke354,Cke386,Cke410,Cke86],[]),1863,Ckc15,[39],0),
  (58,(Ckl1828,[Cke354,Cke801,Cke410,Cke86],[]),1819,Ckc51,[40],0),
  (61,(Ckl1829,[Cke316,Cke386,Cke410,Cke86],[]),1862,Ckc15,[41],0),
  (61,(Ckl1828,[Cke316,Cke801,Cke410,Cke86],[]),1818,Ckc51,[43],0),
  (63,(Ckl1829,[Cke212,Cke316,Cke386,Cke410,Cke86],[]),1861,Ckc15,[45],0),
  (63,(Ckl1830,[Cke212,Cke316,Cke801,Cke410,Cke86],[]),1866,Ckc15,[44],0),
  (63,(Ckl1828,[Cke672,Cke316,Cke801,Cke410,Cke86],[]),1817,Ckc51,[46],0),
  (64,(Ckl1830,[Cke7,Cke212,Cke316,Cke801,Cke410,Cke86],[]),1865,Ckc15,[47],122),
  (64,(Ckl1829,[Cke7,Cke212,Cke316,Cke386,Cke410,Cke86],[]),1860,Ckc15,[47],122),
  (64,(Ckl1828,[Cke7,Cke672,Cke316,Cke801,Cke410,Cke86],[]),1816,Ckc51,[47],122),
  (67,(Ckl1828,[Cke244],[]),1815,Ckc51,[50],0),
  (70,(Ckl1831,[],[]),1825,Ckc51,[49],0),
  (71,(Ckl1831,[Cke7],[]),1824,Ckc51,[51],0),
  (71,(Ckl1828,[Cke244],[]),1814,Ckc51,[51],0),
  (73,(Ckl1832,[],[]),1813,Ckc51,[52],0),
  (74,(Ckl1832,[Cke802],[]),1812,Ckc51,[53],0),
  (77,(Ckl1832,[Cke803],[]),1811,Ckc51,[54],0),
  (78,(Ckl1832,[Cke74,Cke803],[]),1810,Ckc51,[55],0),
  (80,(Ckl1832,[Cke48,Cke74,Cke803],[]),1809,Ckc51,[56],0),
  (81,(Ckl1832,[Cke7,Cke803],[]),1808,Ckc51,[58],0),
  (83,(Ckl1833,[Cke212,Cke7,Cke803],[]),1871,Ckc15,[59],0),
  (83,(Ckl1832,[Cke672,Cke7,Cke803],[]),1807,Ckc51,[60],0),
  (84,(Ckl1833,[Cke7,Cke803],[]),1870,Ckc15,[61],0),
  (84,(Ckl1832,[Cke97,Cke803],[]),1806,Ckc51,[62],0),
  (85,(Ckl1833,[Cke35,Cke7,Cke803],[]),1869,Ckc15,[63],0),
  (85,(Ckl1832,[Cke35,Cke97,Cke803],[]),1805,Ckc51,[64],0),
  (86,(Ckl1833,[Cke7,Cke803],[]),1868,Ckc15,[66],0)]
def CNC244_1 : List ND := [(86,(Ckl1832,[Cke804,Cke803],[]),1804,Ckc51,[67],0),
  (88,(Ckl1834,[Cke386,Cke7,Cke803],[]),1874,Ckc15,[68],0),
  (88,(Ckl1833,[Cke801,Cke7,Cke803],[]),1867,Ckc15,[69],0),
  (88,(Ckl1832,[Cke801,Cke804,Cke803],[]),1803,Ckc51,[69],0),
  (89,(Ckl1834,[Cke7,Cke803],[]),1873,Ckc15,[70],0),
  (89,(Ckl1832,[Cke805,Cke803],[]),1802,Ckc51,[71],0),
  (91,(Ckl1834,[Cke245,Cke7,Cke803],[]),1872,Ckc15,[72],0),
  (91,(Ckl1832,[Cke245,Cke805,Cke803],[]),1801,Ckc51,[72],0),
  (92,(Ckl1832,[],[]),1800,Ckc51,[73],0),
  (95,(Ckl1835,[],[]),1831,Ckc51,[25],0),
  (98,(Ckl1836,[],[]),1671,Ckc50,[75],0),
  (101,(Ckl1837,[],[]),1837,Ckc50,[18],0),
  (104,(Ckl1838,[],[]),0,Ckc15,[],0)]
def CNC244 : List (List ND) := [CNC244_0, CNC244_1]
theorem CKC244 : chkS prot SMsC SMC244 [] CNC244 = true := by decide +kernel
-- OneSided$Rents.tryPrices [(96, 96), (5, 5), (60, 60), (1, 1), (0, 13)]
def Ckl1839 : AL := [some Cka328,some Cka50,some Cka157,some Cka6,some Cka62,none,none,none,none]
def Ckl1840 : AL := [some Cka328,some Cka50,some Cka157,some Cka6,some Cka62,some Cka96,none,none,none]
def Ckl1841 : AL := [some Cka328,some Cka50,some Cka157,some Cka6,some Cka62,some Cka96,some Cka92,none,none]
def Ckl1842 : AL := [some Cka328,some Cka50,some Cka157,some Cka6,some Cka62,some Cka96,some Cka7,none,none]
def Ckl1843 : AL := [some Cka328,some Cka50,some Cka157,some Cka6,some Cka62,some Cka96,some Cka77,none,none]
def Ckl1844 : AL := [some Cka328,some Cka50,some Cka157,some Cka6,some Cka62,some Cka96,some Cka77,some Cka55,none]
def Ckl1845 : AL := [some Cka328,some Cka50,some Cka157,some Cka6,some Cka62,some Cka96,some Cka7,some Cka7,none]
def Ckl1846 : AL := [some Cka328,some Cka50,some Cka157,some Cka6,some Cka62,some Cka96,some Cka77,some Cka80,none]
def Ckl1847 : AL := [some Cka328,some Cka50,some Cka157,some Cka6,some Cka62,some Cka6,some Cka77,some Cka80,none]
def Ckl1848 : AL := [some Cka328,some Cka50,some Cka157,some Cka6,some Cka62,some Cka6,some Cka7,some Cka7,none]
def Ckl1849 : AL := [some Cka328,some Cka50,some Cka157,some Cka6,some Cka62,some Cka6,some Cka7,some Cka80,none]
def Ckl1850 : AL := [some Cka328,some Cka50,some Cka157,some Cka6,some Cka62,some Cka7,some Cka77,some Cka80,none]
def Ckl1851 : AL := [some Cka328,some Cka50,some Cka157,some Cka6,some Cka62,some Cka96,some Cka77,some Cka80,some Cka147]
def Ckl1852 : AL := [some Cka328,some Cka50,some Cka157,some Cka6,some Cka62,some Cka96,some Cka7,some Cka80,some Cka147]
def Cka332 : AV := (0,40,76,4)
def Cke806 : SE := (Cka332,pv0)
def Ckl1853 : AL := [some Cka328,some Cka50,some Cka157,some Cka6,some Cka62,some Cka96,some Cka7,some Cka7,some Cka147]
def Cka333 : AV := (0,40,79,1)
def Cke807 : SE := (Cka333,pv0)
def Ckl1854 : AL := [some Cka328,some Cka50,some Cka157,some Cka6,some Cka62,some Cka96,some Cka77,some Cka120,some Cka147]
def Ckl1855 : AL := [some Cka328,some Cka50,some Cka157,some Cka6,some Cka62,some Cka96,some Cka77,some Cka31,none]
def Ckl1856 : AL := [some Cka328,some Cka50,some Cka157,some Cka6,some Cka62,some Cka96,some Cka240,some Cka31,none]
def Ckl1857 : AL := [some Cka328,some Cka50,some Cka157,some Cka6,some Cka62,some Cka96,some Cka46,none,none]
def CNC245_0 : List ND := [(0,(Ckl1839,[],[]),1855,Ckc15,[1],0),
  (1,(Ckl1839,[Cke354],[]),1854,Ckc15,[2],0),
  (4,(Ckl1839,[Cke316],[]),1853,Ckc15,[3],0),
  (6,(Ckl1839,[Cke144,Cke316],[]),1852,Ckc15,[13,4],0),
  (9,(Ckl1839,[],Ckf96),1851,Ckc15,[5],0),
  (10,(Ckl1839,[Cke354],Ckf96),1850,Ckc15,[6],0),
  (13,(Ckl1839,[Cke303],Ckf96),1849,Ckc15,[7],0),
  (15,(Ckl1839,[Cke410,Cke303],Ckf96),1848,Ckc15,[8],0),
  (16,(Ckl1839,[Cke184],Ckf96),1847,Ckc15,[9],0),
  (17,(Ckl1839,[Cke6,Cke184],Ckf96),1846,Ckc15,[10],0),
  (18,(Ckl1839,[Cke242],Ckf96),1845,Ckc15,[13,11],0),
  (21,(Ckl1839,[],Ckf96),1842,Ckc15,[12],0),
  (22,(Ckl1839,[Cke6],Ckf96),1841,Ckc15,[15],0),
  (25,(Ckl1839,[],[]),1844,Ckc15,[14],0),
  (26,(Ckl1839,[Cke7],[]),1843,Ckc15,[16],0),
  (26,(Ckl1839,[Cke6],Ckf96),1840,Ckc15,[16],0),
  (28,(Ckl1840,[],[]),1839,Ckc15,[17],0),
  (29,(Ckl1840,[Cke7],[]),1838,Ckc15,[18],0),
  (31,(Ckl1841,[],[]),1836,Ckc50,[20],0),
  (33,(Ckl1842,[Cke212],[]),1857,Ckc15,[21],0),
  (33,(Ckl1841,[Cke671],[]),1835,Ckc50,[22],0),
  (35,(Ckl1842,[Cke48,Cke212],[]),1856,Ckc15,[23],0),
  (35,(Ckl1841,[Cke48,Cke671],[]),1834,Ckc50,[70,23],0),
  (38,(Ckl1843,[],[]),1833,Ckc50,[24],0),
  (39,(Ckl1843,[Cke7],[]),1832,Ckc50,[25],0),
  (41,(Ckl1844,[],[]),1830,Ckc51,[27],0),
  (43,(Ckl1845,[Cke386],[]),1859,Ckc15,[28],0),
  (43,(Ckl1844,[Cke800],[]),1829,Ckc51,[29],0),
  (44,(Ckl1845,[Cke35,Cke386],[]),1858,Ckc15,[30],0),
  (44,(Ckl1844,[Cke35,Cke800],[]),1828,Ckc51,[68,30],0),
  (47,(Ckl1846,[],[]),1827,Ckc51,[31],0),
  (49,(Ckl1846,[Cke158],[]),1826,Ckc51,[48,32],0),
  (52,(Ckl1847,[],[]),1823,Ckc51,[33],0),
  (53,(Ckl1847,[Cke86],[]),1822,Ckc51,[34],0),
  (55,(Ckl1847,[Cke410,Cke86],[]),1821,Ckc51,[36],0),
  (57,(Ckl1848,[Cke386,Cke410,Cke86],[]),1864,Ckc15,[37],0),
  (57,(Ckl1847,[Cke801,Cke410,Cke86],[]),1820,Ckc51,[38],0),
  (58,(Ckl1848,[Cke354,Cke386,Cke410,Cke86],[]),1863,Ckc15,[39],0),
  (58,(Ckl1847,[Cke354,Cke801,Cke410,Cke86],[]),1819,Ckc51,[40],0),
  (61,(Ckl1848,[Cke316,Cke386,Cke410,Cke86],[]),1862,Ckc15,[41],0),
  (61,(Ckl1847,[Cke316,Cke801,Cke410,Cke86],[]),1818,Ckc51,[43],0),
  (63,(Ckl1848,[Cke212,Cke316,Cke386,Cke410,Cke86],[]),1861,Ckc15,[45],0),
  (63,(Ckl1849,[Cke212,Cke316,Cke801,Cke410,Cke86],[]),1866,Ckc15,[44],0),
  (63,(Ckl1847,[Cke672,Cke316,Cke801,Cke410,Cke86],[]),1817,Ckc51,[46],0),
  (64,(Ckl1849,[Cke7,Cke212,Cke316,Cke801,Cke410,Cke86],[]),1865,Ckc15,[47],122),
  (64,(Ckl1848,[Cke7,Cke212,Cke316,Cke386,Cke410,Cke86],[]),1860,Ckc15,[47],122),
  (64,(Ckl1847,[Cke7,Cke672,Cke316,Cke801,Cke410,Cke86],[]),1816,Ckc51,[47],122),
  (67,(Ckl1847,[Cke244],[]),1815,Ckc51,[50],0),
  (70,(Ckl1850,[],[]),1825,Ckc51,[49],0),
  (71,(Ckl1850,[Cke7],[]),1824,Ckc51,[51],0),
  (71,(Ckl1847,[Cke244],[]),1814,Ckc51,[51],0),
  (73,(Ckl1851,[],[]),1813,Ckc51,[52],0),
  (74,(Ckl1851,[Cke802],[]),1812,Ckc51,[53],0),
  (77,(Ckl1851,[Cke803],[]),1811,Ckc51,[54],0),
  (78,(Ckl1851,[Cke191,Cke803],[]),1810,Ckc51,[55],0),
  (80,(Ckl1851,[Cke48,Cke191,Cke803],[]),1809,Ckc51,[56],0),
  (81,(Ckl1851,[Cke48,Cke803],[]),1808,Ckc51,[58],0),
  (83,(Ckl1852,[Cke212,Cke48,Cke803],[]),1867,Ckc15,[59],0),
  (83,(Ckl1851,[Cke672,Cke48,Cke803],[]),1807,Ckc51,[59],0),
  (84,(Ckl1851,[Cke758,Cke803],[]),1806,Ckc51,[60],0),
  (85,(Ckl1851,[Cke35,Cke758,Cke803],[]),1805,Ckc51,[61],0),
  (86,(Ckl1851,[Cke806,Cke803],[]),1804,Ckc51,[63],0),
  (88,(Ckl1853,[Cke386,Cke38,Cke803],[]),1868,Ckc15,[64],0),
  (88,(Ckl1851,[Cke801,Cke806,Cke803],[]),1803,Ckc51,[64],0)]
def CNC245_1 : List ND := [(89,(Ckl1851,[Cke807,Cke803],[]),1802,Ckc51,[65],0),
  (91,(Ckl1851,[Cke245,Cke807,Cke803],[]),1801,Ckc51,[66],0),
  (92,(Ckl1851,[],[]),1800,Ckc51,[67],0),
  (95,(Ckl1854,[],[]),1831,Ckc51,[25],0),
  (98,(Ckl1855,[],[]),1671,Ckc50,[69],0),
  (101,(Ckl1856,[],[]),1837,Ckc50,[18],0),
  (104,(Ckl1857,[],[]),0,Ckc15,[],0)]
def CNC245 : List (List ND) := [CNC245_0, CNC245_1]
theorem CKC245 : chkS prot SMsC SMC245 [] CNC245 = true := by decide +kernel
-- OneSided$Rents.withHinges [(96, 96), (-2147483648, 2147483647), (0, 99), (0, 3), (1, 2)]
def Ckl1858 : AL := [some Cka328,some Cka34,some Cka263,some Cka80,some Cka19,none,none,none]
def Ckl1859 : AL := [some Cka328,some Cka34,some Cka263,some Cka80,some Cka19,some Cka34,none,none]
def Ckl1860 : AL := [some Cka328,some Cka34,some Cka263,some Cka80,some Cka19,some Cka34,some Cka34,none]
def Cke808 : SE := (Cka62,(2,96,0,0,0))
def Cke809 : SE := (Cka62,(2,96,1,0,0))
def Ckl1861 : AL := [some Cka328,some Cka34,some Cka263,some Cka80,some Cka19,some Cka34,some Cka34,some Cka34]
def Cke810 : SE := (Cka19,(1,4,0,0,0))
def CNC246_0 : List ND := [(0,(Ckl1858,[],[]),67,Ckc13,[1],0),
  (1,(Ckl1858,[Cke802],[]),66,Ckc13,[2],0),
  (4,(Ckl1858,[Cke803],[]),65,Ckc13,[3],0),
  (5,(Ckl1858,[Cke567,Cke803],[]),64,Ckc13,[4],0),
  (7,(Ckl1858,[Cke48,Cke567,Cke803],[]),63,Ckc13,[5],0),
  (8,(Ckl1858,[Cke97,Cke803],[]),62,Ckc13,[6],0),
  (9,(Ckl1858,[Cke35,Cke97,Cke803],[]),61,Ckc13,[7],0),
  (10,(Ckl1858,[Cke804,Cke803],[]),60,Ckc13,[8],0),
  (11,(Ckl1858,[Cke555,Cke804,Cke803],[]),59,Ckc13,[9],0),
  (12,(Ckl1858,[Cke805,Cke803],[]),58,Ckc13,[10],0),
  (13,(Ckl1858,[Cke184],[]),57,Ckc13,[11],0),
  (15,(Ckl1859,[],[]),56,Ckc13,[12],0),
  (16,(Ckl1859,[Cke802],[]),55,Ckc13,[13],0),
  (19,(Ckl1859,[Cke803],[]),54,Ckc13,[14],0),
  (21,(Ckl1859,[Cke48,Cke803],[]),53,Ckc13,[15],0),
  (22,(Ckl1859,[Cke567,Cke48,Cke803],[]),52,Ckc13,[16],0),
  (24,(Ckl1859,[Cke48,Cke567,Cke48,Cke803],[]),51,Ckc13,[17],0),
  (25,(Ckl1859,[Cke97,Cke48,Cke803],[]),50,Ckc13,[18],0),
  (26,(Ckl1859,[Cke758,Cke803],[]),49,Ckc13,[19],0),
  (27,(Ckl1859,[Cke35,Cke758,Cke803],[]),48,Ckc13,[20],0),
  (28,(Ckl1859,[Cke806,Cke803],[]),47,Ckc13,[21],0),
  (29,(Ckl1859,[Cke555,Cke806,Cke803],[]),46,Ckc13,[22],0),
  (30,(Ckl1859,[Cke807,Cke803],[]),45,Ckc13,[23],0),
  (31,(Ckl1859,[Cke184],[]),44,Ckc13,[24],0),
  (33,(Ckl1860,[],[]),43,Ckc13,[25],0),
  (34,(Ckl1860,[Cke156],[]),42,Ckc13,[26],0),
  (35,(Ckl1860,[Cke6,Cke156],[]),41,Ckc13,[27],0),
  (36,(Ckl1860,[Cke802,Cke6,Cke156],[]),40,Ckc13,[28],0),
  (39,(Ckl1860,[Cke808,Cke6,Cke156],[]),39,Ckc13,[29],0),
  (40,(Ckl1860,[Cke252,Cke156],[]),38,Ckc13,[30],0),
  (41,(Ckl1860,[Cke6,Cke252,Cke156],[]),37,Ckc13,[31],0),
  (42,(Ckl1860,[Cke802,Cke6,Cke252,Cke156],[]),36,Ckc13,[32],0),
  (45,(Ckl1860,[Cke809,Cke6,Cke252,Cke156],[]),35,Ckc13,[33],0),
  (46,(Ckl1860,[Cke252,Cke252,Cke156],[]),34,Ckc13,[34],0),
  (47,(Ckl1860,[Cke184,Cke156],[]),33,Ckc13,[35],0),
  (48,(Ckl1860,[Cke51,Cke184,Cke156],[]),32,Ckc13,[36],0),
  (49,(Ckl1860,[Cke184,Cke156],[]),31,Ckc13,[37],0),
  (50,(Ckl1860,[Cke184],[]),30,Ckc13,[38],0),
  (52,(Ckl1861,[],[]),29,Ckc13,[39],0),
  (54,(Ckl1861,[Cke215],[]),28,Ckc13,[40],0),
  (56,(Ckl1861,[Cke311,Cke215],[]),27,Ckc13,[41],0),
  (58,(Ckl1861,[Cke810,Cke311,Cke215],[]),26,Ckc13,[42],0),
  (59,(Ckl1861,[Cke253,Cke215],[]),25,Ckc13,[48,43],0),
  (62,(Ckl1861,[Cke215],[]),24,Ckc13,[44],0),
  (63,(Ckl1861,[Cke6,Cke215],[]),23,Ckc13,[45],0),
  (64,(Ckl1861,[Cke802,Cke6,Cke215],[]),22,Ckc13,[46],0),
  (67,(Ckl1861,[Cke808,Cke6,Cke215],[]),21,Ckc13,[47],0),
  (68,(Ckl1861,[Cke252,Cke215],[]),20,Ckc13,[50],0),
  (71,(Ckl1861,[Cke215],[]),18,Ckc13,[49],0),
  (72,(Ckl1861,[Cke7,Cke215],[]),17,Ckc13,[51],0),
  (72,(Ckl1861,[Cke252,Cke215],[]),19,Ckc13,[51],0),
  (73,(Ckl1861,[Cke184],[]),16,Ckc13,[52],0),
  (75,(Ckl1861,[],[]),15,Ckc13,[53],0),
  (77,(Ckl1861,[Cke215],[]),14,Ckc13,[54],0),
  (79,(Ckl1861,[Cke353,Cke215],[]),13,Ckc13,[55],0),
  (81,(Ckl1861,[Cke810,Cke353,Cke215],[]),12,Ckc13,[56],0),
  (82,(Ckl1861,[Cke253,Cke215],[]),11,Ckc13,[62,57],0),
  (85,(Ckl1861,[Cke215],[]),10,Ckc13,[58],0),
  (86,(Ckl1861,[Cke6,Cke215],[]),9,Ckc13,[59],0),
  (87,(Ckl1861,[Cke802,Cke6,Cke215],[]),8,Ckc13,[60],0),
  (90,(Ckl1861,[Cke809,Cke6,Cke215],[]),7,Ckc13,[61],0),
  (91,(Ckl1861,[Cke252,Cke215],[]),6,Ckc13,[64],0),
  (94,(Ckl1861,[Cke215],[]),4,Ckc13,[63],0),
  (95,(Ckl1861,[Cke7,Cke215],[]),3,Ckc13,[65],0)]
def CNC246_1 : List ND := [(95,(Ckl1861,[Cke252,Cke215],[]),5,Ckc13,[65],0),
  (96,(Ckl1861,[Cke184],[]),2,Ckc13,[66],0),
  (98,(Ckl1861,[],[]),1,Ckc13,[67],0),
  (100,(Ckl1861,[Cke215],[]),0,Ckc13,[],0)]
def CNC246 : List (List ND) := [CNC246_0, CNC246_1]
theorem CKC246 : chkS prot SMsC SMC246 [] CNC246 = true := by decide +kernel
-- java/util/Arrays.fill [(97, 97), (1000000, 1000000)]
def Cka334 : AV := (2,97,97,0)
def Cka335 : AV := (0,1000000,1000000,0)
def Ckl1862 : AL := [some Cka334,some Cka335,none,none]
def Ckl1863 : AL := [some Cka334,some Cka335,some Cka7,none]
def Cke811 : SE := (Cka334,(1,0,0,0,0))
def Ckl1864 : AL := [some Cka334,some Cka335,some Cka92,some Cka46]
def Ckl1865 : AL := [some Cka334,some Cka335,some Cka7,some Cka46]
def Cke812 : SE := (Cka46,(1,3,0,0,0))
def Ckl1866 : AL := [some Cka334,some Cka335,some Cka77,some Cka46]
def Cke813 : SE := (Cka335,(1,1,0,0,0))
def Ckl1867 : AL := [some Cka334,some Cka335,some Cka240,some Cka46]
def Ckl1868 : AL := [some Cka334,some Cka335,some Cka46,some Cka46]
def CNC247_0 : List ND := [(0,(Ckl1862,[],[]),104,Ckc7,[1],0),
  (1,(Ckl1862,[Cke7],[]),103,Ckc7,[2],0),
  (2,(Ckl1863,[],[]),102,Ckc7,[3],0),
  (3,(Ckl1863,[Cke811],[]),101,Ckc7,[4],0),
  (4,(Ckl1863,[Cke48],[]),100,Ckc7,[5],0),
  (5,(Ckl1864,[],[]),98,Ckc20,[7],0),
  (6,(Ckl1865,[Cke23],[]),106,Ckc7,[8],0),
  (6,(Ckl1864,[Cke128],[]),97,Ckc20,[9],0),
  (7,(Ckl1865,[Cke812,Cke23],[]),105,Ckc7,[10],0),
  (7,(Ckl1864,[Cke812,Cke128],[]),96,Ckc20,[18,10],0),
  (10,(Ckl1866,[],[]),95,Ckc20,[11],0),
  (11,(Ckl1866,[Cke811],[]),94,Ckc20,[13],0),
  (12,(Ckl1865,[Cke23,Cke811],[]),108,Ckc7,[14],0),
  (12,(Ckl1866,[Cke361,Cke811],[]),93,Ckc20,[15],0),
  (13,(Ckl1865,[Cke813,Cke23,Cke811],[]),107,Ckc7,[16],0),
  (13,(Ckl1866,[Cke813,Cke361,Cke811],[]),92,Ckc20,[16],0),
  (14,(Ckl1866,[],[]),91,Ckc20,[17],0),
  (17,(Ckl1867,[],[]),99,Ckc20,[5],0),
  (20,(Ckl1868,[],[]),0,Ckc7,[],0)]
def CNC247 : List (List ND) := [CNC247_0]
theorem CKC247 : chkS prot SMsC SMC247 [] CNC247 = true := by decide +kernel
-- OneSided$Rents.fillBest [(96, 96), (5, 5), (-2147483648, 2147483647), (-2147483648, 2147483647), (0, 9)]
def Ckl1869 : AL := [some Cka328,some Cka50,some Cka34,some Cka34,some Cka77,none,none,none,none,none,none]
def Cke814 : SE := (Cka334,(2,96,2,0,0))
def Cke815 : SE := (Cka335,pv0)
def Ckl1870 : AL := [some Cka328,some Cka50,some Cka34,some Cka34,some Cka77,some Cka6,none,none,none,none,none]
def Ckl1871 : AL := [some Cka328,some Cka50,some Cka34,some Cka34,some Cka77,some Cka96,some Cka92,none,none,none,none]
def Ckc52 : List Int := [0,0,0,0,0,0,-15,0,0,0,0]
def Ckl1872 : AL := [some Cka328,some Cka50,some Cka34,some Cka34,some Cka77,some Cka96,some Cka240,some Cka63,some Cka65,some Cka34,some Cka34]
def Ckc53 : List Int := [0,0,0,0,0,0,-1196,0,0,0,0]
def Ckl1873 : AL := [some Cka328,some Cka50,some Cka34,some Cka34,some Cka77,some Cka6,some Cka7,none,none,none,none]
def Cke816 : SE := (Cka240,(1,6,0,0,0))
def Ckl1874 : AL := [some Cka328,some Cka50,some Cka34,some Cka34,some Cka77,some Cka96,some Cka77,none,none,none,none]
def Ckl1875 : AL := [some Cka328,some Cka50,some Cka34,some Cka34,some Cka77,some Cka96,some Cka73,some Cka63,some Cka65,some Cka34,some Cka34]
def Ckl1876 : AL := [some Cka328,some Cka50,some Cka34,some Cka34,some Cka77,some Cka6,some Cka77,none,none,none,none]
def Ckl1877 : AL := [some Cka328,some Cka50,some Cka34,some Cka34,some Cka77,some Cka6,some Cka73,some Cka63,some Cka65,some Cka34,some Cka34]
def Ckl1878 : AL := [some Cka328,some Cka50,some Cka34,some Cka34,some Cka77,some Cka7,some Cka77,none,none,none,none]
def Ckl1879 : AL := [some Cka328,some Cka50,some Cka34,some Cka34,some Cka77,some Cka7,some Cka73,some Cka63,some Cka65,some Cka34,some Cka34]
def Ckl1880 : AL := [some Cka328,some Cka50,some Cka34,some Cka34,some Cka77,some Cka7,some Cka77,some Cka7,none,none,none]
def Ckl1881 : AL := [some Cka328,some Cka50,some Cka34,some Cka34,some Cka77,some Cka96,some Cka77,some Cka61,some Cka65,some Cka34,some Cka34]
def Ckc54 : List Int := [0,0,0,0,0,0,-1196,-79,0,0,0]
def Ckl1882 : AL := [some Cka328,some Cka50,some Cka34,some Cka34,some Cka77,some Cka96,some Cka7,some Cka6,some Cka65,some Cka34,some Cka34]
def Cke817 : SE := (Cka61,(1,7,0,0,0))
def Ckl1883 : AL := [some Cka328,some Cka50,some Cka34,some Cka34,some Cka77,some Cka96,some Cka77,some Cka62,some Cka65,some Cka34,some Cka34]
def Cke818 : SE := (Cka62,(1,7,0,0,0))
def Ckl1884 : AL := [some Cka328,some Cka50,some Cka34,some Cka34,some Cka77,some Cka96,some Cka77,some Cka62,some Cka65,none,none]
def Ckl1885 : AL := [some Cka328,some Cka50,some Cka34,some Cka34,some Cka77,some Cka7,some Cka7,some Cka7,some Cka65,none,none]
def Cke819 : SE := (Cka65,(1,8,0,0,0))
def Cka336 : AV := (2,98,98,0)
def Cke820 : SE := (Cka336,(2,96,3,0,0))
def Ckl1886 : AL := [some Cka328,some Cka50,some Cka34,some Cka34,some Cka77,some Cka96,some Cka77,some Cka62,some Cka65,some Cka34,none]
def Ckl1887 : AL := [some Cka328,some Cka50,some Cka34,some Cka34,some Cka77,some Cka7,some Cka7,some Cka7,some Cka65,some Cka34,none]
def Ckl1888 : AL := [some Cka328,some Cka50,some Cka34,some Cka34,some Cka77,some Cka96,some Cka77,some Cka62,some Cka65,some Cka127,some Cka34]
def Cke821 : SE := (Cka127,(1,9,0,0,0))
def Cke822 : SE := (Cka34,(1,10,0,0,0))
def Ckl1889 : AL := [some Cka328,some Cka50,some Cka34,some Cka34,some Cka77,some Cka96,some Cka77,some Cka62,some Cka65,some Cka34,some Cka127]
def Cke823 : SE := (Cka127,(1,10,0,0,0))
def Ckl1890 : AL := [some Cka328,some Cka50,some Cka34,some Cka34,some Cka77,some Cka96,some Cka77,some Cka63,some Cka65,some Cka34,some Cka34]
def Ckl1891 : AL := [some Cka328,some Cka50,some Cka34,some Cka34,some Cka77,some Cka7,some Cka240,some Cka7,none,none,none]
def CNC248_0 : List ND := [(0,(Ckl1869,[],[]),13340,Ckc24,[1],0),
  (1,(Ckl1869,[Cke802],[]),13339,Ckc24,[2],0),
  (4,(Ckl1869,[Cke814],[]),13338,Ckc24,[3],0),
  (6,(Ckl1869,[Cke815,Cke814],[]),13337,Ckc24,[4],247),
  (9,(Ckl1869,[],[]),13336,Ckc24,[5],0),
  (10,(Ckl1869,[Cke802],[]),13335,Ckc24,[6],0),
  (13,(Ckl1869,[Cke814],[]),13334,Ckc24,[7],0),
  (15,(Ckl1869,[Cke355,Cke814],[]),13333,Ckc24,[8],0),
  (16,(Ckl1869,[Cke7,Cke355,Cke814],[]),13332,Ckc24,[9],0),
  (17,(Ckl1869,[],[]),13331,Ckc24,[10],0),
  (18,(Ckl1869,[Cke6],[]),13330,Ckc24,[11],0),
  (20,(Ckl1870,[],[]),13329,Ckc24,[12],0),
  (21,(Ckl1870,[Cke7],[]),13328,Ckc24,[13],0),
  (23,(Ckl1871,[],[]),13326,Ckc52,[16],0),
  (23,(Ckl1872,[],Ckf31),13156,Ckc53,[17],0),
  (25,(Ckl1873,[Cke212],[]),13342,Ckc24,[18],0),
  (25,(Ckl1871,[Cke671],[]),13325,Ckc52,[19],0),
  (25,(Ckl1872,[Cke816],Ckf31),13155,Ckc53,[20],0),
  (27,(Ckl1873,[Cke48,Cke212],[]),13341,Ckc24,[21],0),
  (27,(Ckl1871,[Cke48,Cke671],[]),13324,Ckc52,[134,21],0),
  (27,(Ckl1872,[Cke48,Cke816],Ckf31),13154,Ckc53,[135,22],0),
  (30,(Ckl1874,[],[]),13323,Ckc52,[24],0),
  (30,(Ckl1875,[],Ckf31),13153,Ckc53,[25],0),
  (32,(Ckl1873,[Cke219],[]),13343,Ckc24,[26],0),
  (32,(Ckl1874,[Cke158],[]),13322,Ckc52,[134,26],0),
  (32,(Ckl1875,[Cke158],Ckf31),13152,Ckc53,[135,27],0),
  (35,(Ckl1876,[],[]),13321,Ckc52,[28],0),
  (35,(Ckl1877,[],Ckf31),13151,Ckc53,[29],0),
  (36,(Ckl1876,[Cke7],[]),13320,Ckc52,[30],0),
  (36,(Ckl1877,[Cke7],Ckf31),13150,Ckc53,[31],0),
  (38,(Ckl1878,[],[]),13319,Ckc52,[32],0),
  (38,(Ckl1879,[],Ckf31),13149,Ckc53,[33],0),
  (39,(Ckl1878,[Cke7],[]),13318,Ckc52,[34],0),
  (39,(Ckl1879,[Cke7],Ckf31),13148,Ckc53,[35],0),
  (41,(Ckl1880,[],[]),13317,Ckc52,[36],0),
  (41,(Ckl1881,[],Ckf31),13146,Ckc54,[38],0),
  (43,(Ckl1880,[Cke386],[]),13316,Ckc52,[39],0),
  (43,(Ckl1882,[Cke421],Ckf31),13346,Ckc24,[40],0),
  (43,(Ckl1881,[Cke817],Ckf31),13145,Ckc54,[41],0),
  (44,(Ckl1880,[Cke86,Cke386],[]),13315,Ckc52,[42],0),
  (44,(Ckl1882,[Cke86,Cke421],Ckf31),13345,Ckc24,[43],0),
  (44,(Ckl1881,[Cke86,Cke817],Ckf31),13144,Ckc54,[44],0),
  (47,(Ckl1880,[Cke76,Cke386],[]),13314,Ckc52,[130,45],0),
  (47,(Ckl1882,[Cke348,Cke421],Ckf31),13344,Ckc24,[131,46],0),
  (47,(Ckl1881,[Cke348,Cke817],Ckf31),13143,Ckc54,[131,46],0),
  (50,(Ckl1880,[],Ckf31),13162,Ckc24,[47],0),
  (50,(Ckl1883,[],Ckf31),13142,Ckc54,[48],0),
  (51,(Ckl1880,[Cke86],Ckf31),13161,Ckc24,[49],0),
  (51,(Ckl1883,[Cke86],Ckf31),13141,Ckc54,[50],0),
  (54,(Ckl1880,[Cke77],Ckf31),13160,Ckc24,[51],0),
  (54,(Ckl1883,[Cke77],Ckf31),13140,Ckc54,[53],0),
  (56,(Ckl1880,[Cke386,Cke77],Ckf31),13159,Ckc24,[54],0),
  (56,(Ckl1882,[Cke421,Cke77],Ckf103),13347,Ckc24,[55],0),
  (56,(Ckl1883,[Cke818,Cke77],Ckf31),13139,Ckc54,[55],0),
  (57,(Ckl1880,[Cke250],Ckf31),13158,Ckc24,[56],0),
  (57,(Ckl1883,[Cke79],Ckf31),13138,Ckc54,[56],0),
  (59,(Ckl1884,[],Ckf31),13137,Ckc54,[57],0),
  (60,(Ckl1884,[Cke209],Ckf31),13136,Ckc54,[59],0),
  (62,(Ckl1885,[Cke386,Cke209],Ckf31),13348,Ckc24,[60],0),
  (62,(Ckl1884,[Cke818,Cke209],Ckf31),13135,Ckc54,[60],0),
  (63,(Ckl1884,[Cke184],Ckf31),13134,Ckc54,[61],0),
  (64,(Ckl1884,[Cke6,Cke184],Ckf31),13133,Ckc54,[62],0),
  (65,(Ckl1884,[Cke242],Ckf31),13132,Ckc54,[75,63],0),
  (68,(Ckl1884,[],Ckf31),13131,Ckc54,[64],0)]
def CNC248_1 : List ND := [(69,(Ckl1884,[Cke802],Ckf31),13130,Ckc54,[65],0),
  (72,(Ckl1884,[Cke814],Ckf31),13129,Ckc54,[66],0),
  (74,(Ckl1884,[Cke819,Cke814],Ckf31),13128,Ckc54,[67],0),
  (77,(Ckl1884,[Cke97,Cke814],Ckf31),13127,Ckc54,[68],0),
  (78,(Ckl1884,[Cke184],Ckf31),13126,Ckc54,[69],0),
  (79,(Ckl1884,[Cke802,Cke184],Ckf31),13125,Ckc54,[70],0),
  (82,(Ckl1884,[Cke820,Cke184],Ckf31),13124,Ckc54,[72],0),
  (84,(Ckl1885,[Cke386,Cke820,Cke184],Ckf31),13349,Ckc24,[73],0),
  (84,(Ckl1884,[Cke818,Cke820,Cke184],Ckf31),13123,Ckc54,[73],0),
  (85,(Ckl1884,[Cke184,Cke184],Ckf31),13122,Ckc54,[74],0),
  (86,(Ckl1884,[Cke184],Ckf31),13121,Ckc54,[76],0),
  (89,(Ckl1884,[],Ckf31),13120,Ckc54,[76],0),
  (91,(Ckl1884,[Cke184],Ckf31),13119,Ckc54,[77],0),
  (93,(Ckl1886,[],Ckf31),13118,Ckc54,[78],0),
  (94,(Ckl1886,[Cke210],Ckf31),13117,Ckc54,[80],0),
  (96,(Ckl1887,[Cke386,Cke210],Ckf31),13350,Ckc24,[81],0),
  (96,(Ckl1886,[Cke818,Cke210],Ckf31),13116,Ckc54,[81],0),
  (97,(Ckl1886,[Cke184],Ckf31),13115,Ckc54,[82],0),
  (98,(Ckl1886,[Cke6,Cke184],Ckf31),13114,Ckc54,[83],0),
  (99,(Ckl1886,[Cke242],Ckf31),13113,Ckc54,[96,84],0),
  (102,(Ckl1886,[],Ckf31),13112,Ckc54,[85],0),
  (103,(Ckl1886,[Cke802],Ckf31),13111,Ckc54,[86],0),
  (106,(Ckl1886,[Cke814],Ckf31),13110,Ckc54,[87],0),
  (108,(Ckl1886,[Cke819,Cke814],Ckf31),13109,Ckc54,[88],0),
  (111,(Ckl1886,[Cke97,Cke814],Ckf31),13108,Ckc54,[89],0),
  (112,(Ckl1886,[Cke184],Ckf31),13107,Ckc54,[90],0),
  (113,(Ckl1886,[Cke802,Cke184],Ckf31),13106,Ckc54,[91],0),
  (116,(Ckl1886,[Cke820,Cke184],Ckf31),13105,Ckc54,[93],0),
  (118,(Ckl1887,[Cke386,Cke820,Cke184],Ckf31),13351,Ckc24,[94],0),
  (118,(Ckl1886,[Cke818,Cke820,Cke184],Ckf31),13104,Ckc54,[94],0),
  (119,(Ckl1886,[Cke184,Cke184],Ckf31),13103,Ckc54,[95],0),
  (120,(Ckl1886,[Cke184],Ckf31),13102,Ckc54,[97],0),
  (123,(Ckl1886,[],Ckf31),13101,Ckc54,[97],0),
  (125,(Ckl1886,[Cke184],Ckf31),13100,Ckc54,[98],0),
  (127,(Ckl1883,[],Ckf31),13099,Ckc54,[99],0),
  (129,(Ckl1883,[Cke403],Ckf31),13098,Ckc54,[100],0),
  (130,(Ckl1883,[Cke802,Cke403],Ckf31),13097,Ckc54,[101],0),
  (133,(Ckl1883,[Cke814,Cke403],Ckf31),13096,Ckc54,[102],0),
  (135,(Ckl1883,[Cke819,Cke814,Cke403],Ckf31),13095,Ckc54,[103],0),
  (138,(Ckl1883,[Cke97,Cke814,Cke403],Ckf31),13094,Ckc54,[104],0),
  (139,(Ckl1883,[Cke184,Cke403],Ckf31),13093,Ckc54,[113,105],0),
  (142,(Ckl1888,[],Ckf31),13092,Ckc54,[106],0),
  (143,(Ckl1888,[Cke802],Ckf31),13091,Ckc54,[107],0),
  (146,(Ckl1888,[Cke814],Ckf31),13090,Ckc54,[108],0),
  (148,(Ckl1888,[Cke819,Cke814],Ckf31),13089,Ckc54,[109],0),
  (151,(Ckl1888,[Cke97,Cke814],Ckf31),13088,Ckc54,[110],0),
  (153,(Ckl1888,[Cke821,Cke97,Cke814],Ckf31),13087,Ckc54,[111],0),
  (154,(Ckl1888,[],Ckf31),13086,Ckc54,[112],0),
  (155,(Ckl1888,[Cke6],Ckf31),13085,Ckc54,[113],0),
  (157,(Ckl1883,[],Ckf31),13084,Ckc54,[114],0),
  (159,(Ckl1883,[Cke822],Ckf31),13083,Ckc54,[115],0),
  (160,(Ckl1883,[Cke802,Cke822],Ckf31),13082,Ckc54,[116],0),
  (163,(Ckl1883,[Cke814,Cke822],Ckf31),13081,Ckc54,[117],0),
  (165,(Ckl1883,[Cke819,Cke814,Cke822],Ckf31),13080,Ckc54,[118],0),
  (168,(Ckl1883,[Cke97,Cke814,Cke822],Ckf31),13079,Ckc54,[119],0),
  (169,(Ckl1883,[Cke184,Cke822],Ckf31),13078,Ckc54,[128,120],0),
  (172,(Ckl1889,[],Ckf31),13077,Ckc54,[121],0),
  (173,(Ckl1889,[Cke802],Ckf31),13076,Ckc54,[122],0),
  (176,(Ckl1889,[Cke814],Ckf31),13075,Ckc54,[123],0),
  (178,(Ckl1889,[Cke819,Cke814],Ckf31),13074,Ckc54,[124],0),
  (181,(Ckl1889,[Cke97,Cke814],Ckf31),13073,Ckc54,[125],0),
  (183,(Ckl1889,[Cke823,Cke97,Cke814],Ckf31),13072,Ckc54,[126],0),
  (184,(Ckl1889,[],Ckf31),13071,Ckc54,[127],0),
  (185,(Ckl1889,[Cke6],Ckf31),13070,Ckc54,[128],0)]
def CNC248_2 : List ND := [(187,(Ckl1883,[],Ckf31),13069,Ckc54,[129],0),
  (190,(Ckl1890,[],Ckf31),13147,Ckc54,[35],0),
  (193,(Ckl1880,[],Ckf104),13313,Ckc52,[132],0),
  (193,(Ckl1890,[],Ckf31),11962,Ckc53,[133],0),
  (196,(Ckl1891,[],Ckf104),13327,Ckc52,[13],0),
  (196,(Ckl1872,[],Ckf31),13157,Ckc53,[14],0),
  (199,(Ckl1871,[],[]),0,Ckc24,[],0),
  (199,(Ckl1872,[],Ckf31),1,Ckc24,[],0)]
def CNC248 : List (List ND) := [CNC248_0, CNC248_1, CNC248_2]
theorem CKC248 : chkS prot SMsC SMC248 [] CNC248 = true := by decide +kernel
-- OneSided$Rents.cheapest [(96, 96), (5, 5), (-2147483648, 2147483647), (-2147483648, 2147483647), (0, 9), (0, 9)]
def Ckl1892 : AL := [some Cka328,some Cka50,some Cka34,some Cka34,some Cka77,some Cka77,none,none,none,none,none,none,none,none]
def Ckl1893 : AL := [some Cka328,some Cka50,some Cka34,some Cka34,some Cka77,some Cka77,some Cka77,none,none,none,none,none,none,none]
def Ckl1894 : AL := [some Cka328,some Cka50,some Cka34,some Cka34,some Cka77,some Cka77,some Cka77,some Cka7,none,none,none,none,none,none]
def Ckl1895 : AL := [some Cka328,some Cka50,some Cka34,some Cka34,some Cka77,some Cka77,some Cka77,some Cka7,some Cka92,none,none,none,none,none]
def Ckc55 : List Int := [0,0,0,0,0,0,0,0,-20,0,0,0,0,0]
def Ckl1896 : AL := [some Cka328,some Cka50,some Cka34,some Cka34,some Cka77,some Cka77,some Cka77,some Cka34,some Cka240,some Cka61,some Cka65,some Cka96,some Cka96,some Cka77]
def Ckc56 : List Int := [0,0,0,0,0,0,0,0,-1030,0,0,0,0,0]
def Ckl1897 : AL := [some Cka328,some Cka50,some Cka34,some Cka34,some Cka77,some Cka77,some Cka77,some Cka7,some Cka7,none,none,none,none,none]
def Cke824 : SE := (Cka92,(1,8,0,0,0))
def Cke825 : SE := (Cka240,(1,8,0,0,0))
def Ckl1898 : AL := [some Cka328,some Cka50,some Cka34,some Cka34,some Cka77,some Cka77,some Cka77,some Cka7,some Cka77,none,none,none,none,none]
def Ckl1899 : AL := [some Cka328,some Cka50,some Cka34,some Cka34,some Cka77,some Cka77,some Cka77,some Cka34,some Cka73,some Cka61,some Cka65,some Cka96,some Cka96,some Cka77]
def Ckl1900 : AL := [some Cka328,some Cka50,some Cka34,some Cka34,some Cka77,some Cka77,some Cka77,some Cka7,some Cka77,some Cka7,none,none,none,none]
def Ckl1901 : AL := [some Cka328,some Cka50,some Cka34,some Cka34,some Cka77,some Cka77,some Cka77,some Cka34,some Cka77,some Cka61,some Cka65,some Cka96,some Cka96,some Cka77]
def Ckc57 : List Int := [0,0,0,0,0,0,0,0,-1030,-67,0,0,0,0]
def Cke826 : SE := (Cka7,(1,9,0,0,0))
def Ckl1902 : AL := [some Cka328,some Cka50,some Cka34,some Cka34,some Cka77,some Cka77,some Cka77,some Cka7,some Cka7,some Cka6,some Cka65,some Cka96,some Cka96,some Cka77]
def Cke827 : SE := (Cka6,(1,9,0,0,0))
def Cke828 : SE := (Cka61,(1,9,0,0,0))
def Ckl1903 : AL := [some Cka328,some Cka50,some Cka34,some Cka34,some Cka77,some Cka77,some Cka77,some Cka34,some Cka77,some Cka62,some Cka65,some Cka96,some Cka96,some Cka77]
def Cke829 : SE := (Cka62,(1,9,0,0,0))
def Ckl1904 : AL := [some Cka328,some Cka50,some Cka34,some Cka34,some Cka77,some Cka77,some Cka77,some Cka34,some Cka77,some Cka62,some Cka65,none,none,none]
def Cke830 : SE := (Cka65,(1,10,0,0,0))
def Ckl1905 : AL := [some Cka328,some Cka50,some Cka34,some Cka34,some Cka77,some Cka77,some Cka77,some Cka7,some Cka7,some Cka7,some Cka65,none,none,none]
def Ckl1906 : AL := [some Cka328,some Cka50,some Cka34,some Cka34,some Cka77,some Cka77,some Cka77,some Cka34,some Cka77,some Cka62,some Cka65,some Cka96,none,none]
def Ckl1907 : AL := [some Cka328,some Cka50,some Cka34,some Cka34,some Cka77,some Cka77,some Cka77,some Cka7,some Cka7,some Cka7,some Cka65,some Cka96,none,none]
def Ckl1908 : AL := [some Cka328,some Cka50,some Cka34,some Cka34,some Cka77,some Cka77,some Cka77,some Cka34,some Cka77,some Cka62,some Cka65,some Cka96,some Cka96,none]
def Cke831 : SE := (Cka96,(1,11,0,0,0))
def Ckl1909 : AL := [some Cka328,some Cka50,some Cka34,some Cka34,some Cka77,some Cka77,some Cka77,some Cka34,some Cka77,some Cka62,some Cka65,some Cka6,some Cka96,none]
def Ckl1910 : AL := [some Cka328,some Cka50,some Cka34,some Cka34,some Cka77,some Cka77,some Cka77,some Cka34,some Cka77,some Cka62,some Cka65,some Cka7,some Cka96,none]
def Ckl1911 : AL := [some Cka328,some Cka50,some Cka34,some Cka34,some Cka77,some Cka77,some Cka77,some Cka34,some Cka77,some Cka62,some Cka65,some Cka7,some Cka96,some Cka77]
def Cke832 : SE := (Cka96,(1,12,0,0,0))
def Cke833 : SE := (Cka77,(1,13,0,0,0))
def Ckl1912 : AL := [some Cka328,some Cka50,some Cka34,some Cka34,some Cka77,some Cka77,some Cka77,some Cka7,some Cka7,some Cka7,some Cka65,some Cka96,some Cka96,some Cka77]
def Ckl1913 : AL := [some Cka328,some Cka50,some Cka34,some Cka34,some Cka77,some Cka77,some Cka77,some Cka7,some Cka96,some Cka62,some Cka65,some Cka96,some Cka96,some Cka77]
def Ckl1914 : AL := [some Cka328,some Cka50,some Cka34,some Cka34,some Cka77,some Cka77,some Cka77,some Cka34,some Cka77,some Cka63,some Cka65,some Cka96,some Cka96,some Cka77]
def Ckl1915 : AL := [some Cka328,some Cka50,some Cka34,some Cka34,some Cka77,some Cka77,some Cka77,some Cka7,some Cka240,some Cka7,none,none,none,none]
def CNC249_0 : List ND := [(0,(Ckl1892,[],[]),11564,Ckc38,[1],0),
  (2,(Ckl1892,[Cke355],[]),11563,Ckc38,[2],0),
  (4,(Ckl1893,[],[]),11562,Ckc38,[3],0),
  (5,(Ckl1893,[Cke7],[]),11561,Ckc38,[4],0),
  (7,(Ckl1894,[],[]),11560,Ckc38,[5],0),
  (8,(Ckl1894,[Cke7],[]),11559,Ckc38,[6],0),
  (10,(Ckl1895,[],[]),11557,Ckc55,[9],0),
  (10,(Ckl1896,[],Ckf31),11332,Ckc56,[10],0),
  (12,(Ckl1897,[Cke241],[]),11566,Ckc38,[11],0),
  (12,(Ckl1895,[Cke824],[]),11556,Ckc55,[12],0),
  (12,(Ckl1896,[Cke825],Ckf31),11331,Ckc56,[13],0),
  (14,(Ckl1897,[Cke48,Cke241],[]),11565,Ckc38,[14],0),
  (14,(Ckl1895,[Cke48,Cke824],[]),11555,Ckc55,[138,14],0),
  (14,(Ckl1896,[Cke48,Cke825],Ckf31),11330,Ckc56,[139,15],0),
  (17,(Ckl1898,[],[]),11554,Ckc55,[16],0),
  (17,(Ckl1899,[],Ckf31),11329,Ckc56,[17],0),
  (19,(Ckl1898,[Cke672],[]),11553,Ckc55,[18],0),
  (19,(Ckl1899,[Cke672],Ckf31),11328,Ckc56,[19],0),
  (21,(Ckl1898,[Cke236,Cke672],[]),11552,Ckc55,[138,20],0),
  (21,(Ckl1899,[Cke236,Cke672],Ckf31),11327,Ckc56,[139,21],0),
  (24,(Ckl1898,[],[]),11551,Ckc55,[22],0),
  (24,(Ckl1899,[],Ckf31),11326,Ckc56,[23],0),
  (25,(Ckl1898,[Cke802],[]),11550,Ckc55,[24],0),
  (25,(Ckl1899,[Cke802],Ckf31),11325,Ckc56,[25],0),
  (28,(Ckl1898,[Cke814],[]),11549,Ckc55,[26],0),
  (28,(Ckl1899,[Cke814],Ckf31),11324,Ckc56,[27],0),
  (30,(Ckl1898,[Cke672,Cke814],[]),11548,Ckc55,[28],0),
  (30,(Ckl1899,[Cke672,Cke814],Ckf31),11323,Ckc56,[29],0),
  (31,(Ckl1898,[Cke184],[]),11547,Ckc55,[30],0),
  (31,(Ckl1899,[Cke184],Ckf31),11322,Ckc56,[31],0),
  (33,(Ckl1898,[Cke815,Cke184],[]),11546,Ckc55,[138,32],0),
  (33,(Ckl1899,[Cke815,Cke184],Ckf31),11321,Ckc56,[139,33],0),
  (36,(Ckl1898,[],[]),11545,Ckc55,[34],0),
  (36,(Ckl1899,[],Ckf31),11320,Ckc56,[35],0),
  (37,(Ckl1898,[Cke7],[]),11544,Ckc55,[36],0),
  (37,(Ckl1899,[Cke7],Ckf31),11319,Ckc56,[37],0),
  (39,(Ckl1900,[],[]),11543,Ckc55,[38],0),
  (39,(Ckl1901,[],Ckf31),11317,Ckc57,[40],0),
  (41,(Ckl1900,[Cke826],[]),11542,Ckc55,[41],0),
  (41,(Ckl1902,[Cke827],Ckf31),11569,Ckc38,[42],0),
  (41,(Ckl1901,[Cke828],Ckf31),11316,Ckc57,[43],0),
  (42,(Ckl1900,[Cke86,Cke826],[]),11541,Ckc55,[44],0),
  (42,(Ckl1902,[Cke86,Cke827],Ckf31),11568,Ckc38,[45],0),
  (42,(Ckl1901,[Cke86,Cke828],Ckf31),11315,Ckc57,[46],0),
  (45,(Ckl1900,[Cke76,Cke826],[]),11540,Ckc55,[134,47],0),
  (45,(Ckl1902,[Cke348,Cke827],Ckf31),11567,Ckc38,[135,48],0),
  (45,(Ckl1901,[Cke348,Cke828],Ckf31),11314,Ckc57,[135,48],0),
  (48,(Ckl1900,[],Ckf31),11338,Ckc38,[49],0),
  (48,(Ckl1903,[],Ckf31),11313,Ckc57,[50],0),
  (49,(Ckl1900,[Cke86],Ckf31),11337,Ckc38,[51],0),
  (49,(Ckl1903,[Cke86],Ckf31),11312,Ckc57,[52],0),
  (52,(Ckl1900,[Cke77],Ckf31),11336,Ckc38,[53],0),
  (52,(Ckl1903,[Cke77],Ckf31),11311,Ckc57,[55],0),
  (54,(Ckl1900,[Cke826,Cke77],Ckf31),11335,Ckc38,[56],0),
  (54,(Ckl1902,[Cke827,Cke77],Ckf103),11570,Ckc38,[57],0),
  (54,(Ckl1903,[Cke829,Cke77],Ckf31),11310,Ckc57,[57],0),
  (55,(Ckl1900,[Cke250],Ckf31),11334,Ckc38,[58],0),
  (55,(Ckl1903,[Cke79],Ckf31),11309,Ckc57,[58],0),
  (57,(Ckl1904,[],Ckf31),11308,Ckc57,[59],0),
  (59,(Ckl1904,[Cke830],Ckf31),11307,Ckc57,[60],0),
  (62,(Ckl1904,[Cke97],Ckf31),11306,Ckc57,[61],0),
  (64,(Ckl1904,[Cke672,Cke97],Ckf31),11305,Ckc57,[71,62],0),
  (67,(Ckl1904,[],Ckf31),11304,Ckc57,[63],0),
  (68,(Ckl1904,[Cke209],Ckf31),11303,Ckc57,[65],0)]
def CNC249_1 : List ND := [(70,(Ckl1905,[Cke826,Cke209],Ckf31),11571,Ckc38,[66],0),
  (70,(Ckl1904,[Cke829,Cke209],Ckf31),11302,Ckc57,[66],0),
  (71,(Ckl1904,[Cke184],Ckf31),11301,Ckc57,[67],0),
  (72,(Ckl1904,[Cke6,Cke184],Ckf31),11300,Ckc57,[68],0),
  (73,(Ckl1904,[Cke242],Ckf31),11299,Ckc57,[71,69],0),
  (76,(Ckl1904,[],Ckf31),11296,Ckc57,[70],0),
  (77,(Ckl1904,[Cke6],Ckf31),11295,Ckc57,[73],0),
  (80,(Ckl1904,[],Ckf31),11298,Ckc57,[72],0),
  (81,(Ckl1904,[Cke7],Ckf31),11297,Ckc57,[74],0),
  (81,(Ckl1904,[Cke6],Ckf31),11294,Ckc57,[74],0),
  (83,(Ckl1906,[],Ckf31),11293,Ckc57,[75],0),
  (85,(Ckl1906,[Cke830],Ckf31),11292,Ckc57,[76],0),
  (88,(Ckl1906,[Cke97],Ckf31),11291,Ckc57,[77],0),
  (90,(Ckl1906,[Cke672,Cke97],Ckf31),11290,Ckc57,[87,78],0),
  (93,(Ckl1906,[],Ckf31),11289,Ckc57,[79],0),
  (94,(Ckl1906,[Cke210],Ckf31),11288,Ckc57,[81],0),
  (96,(Ckl1907,[Cke826,Cke210],Ckf31),11572,Ckc38,[82],0),
  (96,(Ckl1906,[Cke829,Cke210],Ckf31),11287,Ckc57,[82],0),
  (97,(Ckl1906,[Cke184],Ckf31),11286,Ckc57,[83],0),
  (98,(Ckl1906,[Cke6,Cke184],Ckf31),11285,Ckc57,[84],0),
  (99,(Ckl1906,[Cke242],Ckf31),11284,Ckc57,[87,85],0),
  (102,(Ckl1906,[],Ckf31),11281,Ckc57,[86],0),
  (103,(Ckl1906,[Cke6],Ckf31),11280,Ckc57,[89],0),
  (106,(Ckl1906,[],Ckf31),11283,Ckc57,[88],0),
  (107,(Ckl1906,[Cke7],Ckf31),11282,Ckc57,[90],0),
  (107,(Ckl1906,[Cke6],Ckf31),11279,Ckc57,[90],0),
  (109,(Ckl1908,[],Ckf31),11278,Ckc57,[91],0),
  (111,(Ckl1908,[Cke831],Ckf31),11277,Ckc57,[95,92],0),
  (114,(Ckl1909,[],Ckf31),11276,Ckc57,[93],0),
  (116,(Ckl1909,[Cke830],Ckf31),11275,Ckc57,[94],0),
  (119,(Ckl1909,[Cke97],Ckf31),11274,Ckc57,[97],0),
  (122,(Ckl1910,[],Ckf31),11273,Ckc57,[96],0),
  (124,(Ckl1910,[Cke830],Ckf31),11272,Ckc57,[97],0),
  (127,(Ckl1908,[Cke97],Ckf31),11271,Ckc57,[98],0),
  (129,(Ckl1903,[],Ckf31),11270,Ckc57,[99],0),
  (131,(Ckl1903,[Cke831],Ckf31),11269,Ckc57,[102,100],0),
  (134,(Ckl1911,[],Ckf31),11268,Ckc57,[101],0),
  (136,(Ckl1911,[Cke832],Ckf31),11267,Ckc57,[132,102],0),
  (139,(Ckl1903,[],Ckf31),11266,Ckc57,[103],0),
  (140,(Ckl1903,[Cke802],Ckf31),11265,Ckc57,[104],0),
  (143,(Ckl1903,[Cke814],Ckf31),11264,Ckc57,[105],0),
  (145,(Ckl1903,[Cke833,Cke814],Ckf31),11263,Ckc57,[106],0),
  (146,(Ckl1903,[Cke184],Ckf31),11262,Ckc57,[107],0),
  (147,(Ckl1903,[Cke802,Cke184],Ckf31),11261,Ckc57,[108],0),
  (150,(Ckl1903,[Cke820,Cke184],Ckf31),11260,Ckc57,[110],0),
  (152,(Ckl1912,[Cke826,Cke820,Cke184],Ckf31),11573,Ckc38,[111],0),
  (152,(Ckl1903,[Cke829,Cke820,Cke184],Ckf31),11259,Ckc57,[111],0),
  (153,(Ckl1903,[Cke184,Cke184],Ckf31),11258,Ckc57,[112],0),
  (154,(Ckl1903,[Cke184],Ckf31),11257,Ckc57,[113],0),
  (155,(Ckl1903,[Cke802,Cke184],Ckf31),11256,Ckc57,[114],0),
  (158,(Ckl1903,[Cke814,Cke184],Ckf31),11255,Ckc57,[115],0),
  (160,(Ckl1903,[Cke672,Cke814,Cke184],Ckf31),11254,Ckc57,[116],0),
  (161,(Ckl1903,[Cke184,Cke184],Ckf31),11253,Ckc57,[132,117],0),
  (164,(Ckl1903,[],Ckf31),10313,Ckc56,[119],0),
  (166,(Ckl1913,[Cke386],Ckf31),11577,Ckc38,[120],0),
  (166,(Ckl1903,[Cke215],Ckf31),10312,Ckc56,[121],0),
  (167,(Ckl1913,[Cke6,Cke386],Ckf31),11576,Ckc38,[122],0),
  (167,(Ckl1903,[Cke6,Cke215],Ckf31),10311,Ckc56,[124],0),
  (169,(Ckl1913,[Cke829,Cke6,Cke386],Ckf31),11575,Ckc38,[126],0),
  (169,(Ckl1912,[Cke826,Cke6,Cke386],Ckf31),11579,Ckc38,[125],0),
  (169,(Ckl1903,[Cke829,Cke6,Cke215],Ckf31),10310,Ckc56,[127],0),
  (170,(Ckl1912,[Cke6,Cke386],Ckf31),11578,Ckc38,[128],0),
  (170,(Ckl1913,[Cke252,Cke386],Ckf31),11574,Ckc38,[128],0),
  (170,(Ckl1903,[Cke252,Cke215],Ckf31),10309,Ckc56,[128],0)]
def CNC249_2 : List ND := [(171,(Ckl1903,[Cke184],Ckf31),10308,Ckc56,[129],0),
  (173,(Ckl1903,[],Ckf31),10307,Ckc56,[130],0),
  (175,(Ckl1903,[Cke833],Ckf31),10306,Ckc56,[131],0),
  (177,(Ckl1903,[],Ckf31),10305,Ckc56,[135],0),
  (180,(Ckl1903,[],Ckf31),11252,Ckc57,[133],0),
  (183,(Ckl1914,[],Ckf31),11318,Ckc57,[37],0),
  (186,(Ckl1900,[],Ckf104),11539,Ckc55,[136],0),
  (186,(Ckl1901,[],Ckf31),10304,Ckc56,[137],0),
  (189,(Ckl1915,[],Ckf104),11558,Ckc55,[6],0),
  (189,(Ckl1896,[],Ckf31),11333,Ckc56,[7],0),
  (192,(Ckl1895,[],[]),1,Ckc38,[140],0),
  (192,(Ckl1896,[],Ckf31),3,Ckc38,[141],0),
  (194,(Ckl1895,[Cke386],[]),0,Ckc38,[],0),
  (194,(Ckl1896,[Cke215],Ckf31),2,Ckc38,[],0)]
def CNC249 : List (List ND) := [CNC249_0, CNC249_1, CNC249_2]
theorem CKC249 : chkS prot SMsC SMC249 [] CNC249 = true := by decide +kernel
-- OneSided$Rents.doorsOf [(96, 96), (5, 5), (60, 60), (0, 5), (0, 99)]
def Ckl1916 : AL := [some Cka328,some Cka50,some Cka157,some Cka67,some Cka263,none,none,none]
def Ckl1917 : AL := [some Cka328,some Cka50,some Cka157,some Cka67,some Cka263,some Cka70,none,none]
def Ckl1918 : AL := [some Cka328,some Cka50,some Cka157,some Cka67,some Cka263,some Cka70,some Cka34,none]
def Ckl1919 : AL := [some Cka328,some Cka50,some Cka157,some Cka67,some Cka263,some Cka70,some Cka34,some Cka34]
def Cke834 : SE := (Cka263,(1,4,0,0,0))
def CNC250_0 : List ND := [(0,(Ckl1916,[],[]),57,Ckc13,[1],0),
  (1,(Ckl1916,[Cke86],[]),56,Ckc13,[2],0),
  (4,(Ckl1916,[Cke83],[]),55,Ckc13,[3],0),
  (5,(Ckl1916,[Cke84,Cke83],[]),54,Ckc13,[4],0),
  (6,(Ckl1916,[Cke85],[]),53,Ckc13,[5],0),
  (8,(Ckl1917,[],[]),52,Ckc13,[6],0),
  (9,(Ckl1917,[Cke86],[]),51,Ckc13,[7],0),
  (11,(Ckl1917,[Cke419,Cke86],[]),50,Ckc13,[8],0),
  (14,(Ckl1917,[Cke141,Cke86],[]),49,Ckc13,[9],0),
  (15,(Ckl1917,[Cke354,Cke141,Cke86],[]),48,Ckc13,[10],0),
  (18,(Ckl1917,[Cke316,Cke141,Cke86],[]),47,Ckc13,[11],0),
  (19,(Ckl1917,[Cke354,Cke316,Cke141,Cke86],[]),46,Ckc13,[12],0),
  (22,(Ckl1917,[Cke303,Cke316,Cke141,Cke86],[]),45,Ckc13,[13],142),
  (25,(Ckl1917,[Cke184],[]),44,Ckc13,[14],0),
  (27,(Ckl1918,[],[]),43,Ckc13,[15],0),
  (28,(Ckl1918,[Cke86],[]),42,Ckc13,[16],0),
  (30,(Ckl1918,[Cke419,Cke86],[]),41,Ckc13,[17],0),
  (33,(Ckl1918,[Cke141,Cke86],[]),40,Ckc13,[18],0),
  (34,(Ckl1918,[Cke354,Cke141,Cke86],[]),39,Ckc13,[19],0),
  (37,(Ckl1918,[Cke316,Cke141,Cke86],[]),38,Ckc13,[20],0),
  (38,(Ckl1918,[Cke354,Cke316,Cke141,Cke86],[]),37,Ckc13,[21],0),
  (41,(Ckl1918,[Cke303,Cke316,Cke141,Cke86],[]),36,Ckc13,[22],143),
  (44,(Ckl1918,[Cke184],[]),35,Ckc13,[23],0),
  (46,(Ckl1919,[],[]),34,Ckc13,[24],0),
  (47,(Ckl1919,[Cke802],[]),33,Ckc13,[25],0),
  (49,(Ckl1919,[Cke353,Cke802],[]),32,Ckc13,[26],0),
  (51,(Ckl1919,[Cke834,Cke353,Cke802],[]),31,Ckc13,[27],0),
  (53,(Ckl1919,[Cke419,Cke834,Cke353,Cke802],[]),30,Ckc13,[28],0),
  (56,(Ckl1919,[Cke141,Cke834,Cke353,Cke802],[]),29,Ckc13,[29],0),
  (57,(Ckl1919,[Cke6,Cke141,Cke834,Cke353,Cke802],[]),28,Ckc13,[30],246),
  (60,(Ckl1919,[Cke184],[]),27,Ckc13,[31],0),
  (62,(Ckl1919,[],[]),26,Ckc13,[32],0),
  (63,(Ckl1919,[Cke802],[]),25,Ckc13,[33],0),
  (65,(Ckl1919,[Cke215,Cke802],[]),24,Ckc13,[34],0),
  (67,(Ckl1919,[Cke834,Cke215,Cke802],[]),23,Ckc13,[35],0),
  (69,(Ckl1919,[Cke419,Cke834,Cke215,Cke802],[]),22,Ckc13,[36],0),
  (72,(Ckl1919,[Cke141,Cke834,Cke215,Cke802],[]),21,Ckc13,[37],0),
  (73,(Ckl1919,[Cke22,Cke141,Cke834,Cke215,Cke802],[]),20,Ckc13,[38],246),
  (76,(Ckl1919,[Cke184],[]),19,Ckc13,[39],0),
  (78,(Ckl1919,[],[]),18,Ckc13,[40],0),
  (79,(Ckl1919,[Cke802],[]),17,Ckc13,[41],0),
  (80,(Ckl1919,[Cke86,Cke802],[]),16,Ckc13,[42],0),
  (82,(Ckl1919,[Cke353,Cke86,Cke802],[]),15,Ckc13,[43],0),
  (84,(Ckl1919,[Cke215,Cke353,Cke86,Cke802],[]),14,Ckc13,[44],0),
  (86,(Ckl1919,[Cke419,Cke215,Cke353,Cke86,Cke802],[]),13,Ckc13,[45],0),
  (89,(Ckl1919,[Cke97,Cke215,Cke353,Cke86,Cke802],[]),12,Ckc13,[46],248),
  (92,(Ckl1919,[],[]),11,Ckc13,[47],0),
  (93,(Ckl1919,[Cke802],[]),10,Ckc13,[48],0),
  (94,(Ckl1919,[Cke86,Cke802],[]),9,Ckc13,[49],0),
  (96,(Ckl1919,[Cke353,Cke86,Cke802],[]),8,Ckc13,[50],0),
  (98,(Ckl1919,[Cke215,Cke353,Cke86,Cke802],[]),7,Ckc13,[51],0),
  (99,(Ckl1919,[Cke354,Cke215,Cke353,Cke86,Cke802],[]),6,Ckc13,[52],0),
  (102,(Ckl1919,[Cke277,Cke215,Cke353,Cke86,Cke802],[]),5,Ckc13,[53],0),
  (103,(Ckl1919,[Cke84,Cke277,Cke215,Cke353,Cke86,Cke802],[]),4,Ckc13,[54],0),
  (104,(Ckl1919,[Cke97,Cke215,Cke353,Cke86,Cke802],[]),3,Ckc13,[55],0),
  (106,(Ckl1919,[Cke419,Cke97,Cke215,Cke353,Cke86,Cke802],[]),2,Ckc13,[56],0),
  (109,(Ckl1919,[Cke97,Cke97,Cke215,Cke353,Cke86,Cke802],[]),1,Ckc13,[57],249),
  (112,(Ckl1919,[Cke184],[]),0,Ckc13,[],0)]
def CNC250 : List (List ND) := [CNC250_0]
theorem CKC250 : chkS prot SMsC SMC250 [] CNC250 = true := by decide +kernel
-- OneSided$Rents.takeRents [(96, 96), (5, 5), (60, 60), (0, 99)]
def Ckl1920 : AL := [some Cka328,some Cka50,some Cka157,some Cka263,none,none,none,none]
def Cke835 : SE := (Cka263,(1,3,0,0,0))
def Ckl1921 : AL := [some Cka328,some Cka50,some Cka157,some Cka263,some Cka77,none,none,none]
def Ckl1922 : AL := [some Cka328,some Cka50,some Cka157,some Cka263,some Cka77,some Cka77,none,none]
def Cka337 : AV := (0,0,576,64)
def Cke836 : SE := (Cka337,pv0)
def Cka338 : AV := (0,1,577,64)
def Cke837 : SE := (Cka338,pv0)
def Cka339 : AV := (2,100,100,0)
def Cke838 : SE := (Cka339,(2,96,5,0,0))
def Cka340 : AV := (2,101,101,0)
def Cke839 : SE := (Cka340,(2,96,6,0,0))
def Ckl1923 : AL := [some Cka328,some Cka50,some Cka157,some Cka263,some Cka77,some Cka77,some Cka66,none]
def Ckc58 : List Int := [0,0,0,0,0,0,-43,0]
def Ckl1924 : AL := [some Cka328,some Cka50,some Cka157,some Cka263,some Cka77,some Cka77,some Cka7,none]
def Cke840 : SE := (Cka66,(1,6,0,0,0))
def Ckl1925 : AL := [some Cka328,some Cka50,some Cka157,some Cka263,some Cka77,some Cka77,some Cka67,none]
def Cke841 : SE := (Cka67,(1,6,0,0,0))
def Ckl1926 : AL := [some Cka328,some Cka50,some Cka157,some Cka263,some Cka77,some Cka77,some Cka67,some Cka34]
def Ckl1927 : AL := [some Cka328,some Cka50,some Cka157,some Cka263,some Cka77,some Cka77,some Cka68,some Cka34]
def CNC251_0 : List ND := [(0,(Ckl1920,[],[]),341,Ckc13,[1],0),
  (1,(Ckl1920,[Cke835],[]),340,Ckc13,[2],0),
  (3,(Ckl1920,[Cke48,Cke835],[]),339,Ckc13,[3],0),
  (4,(Ckl1920,[Cke97],[]),338,Ckc13,[4],0),
  (6,(Ckl1921,[],[]),337,Ckc13,[5],0),
  (7,(Ckl1921,[Cke835],[]),336,Ckc13,[6],0),
  (9,(Ckl1921,[Cke48,Cke835],[]),335,Ckc13,[7],0),
  (10,(Ckl1921,[Cke97],[]),334,Ckc13,[8],0),
  (12,(Ckl1922,[],[]),333,Ckc13,[9],0),
  (13,(Ckl1922,[Cke802],[]),332,Ckc13,[10],0),
  (16,(Ckl1922,[Cke820],[]),331,Ckc13,[11],0),
  (17,(Ckl1922,[Cke802,Cke820],[]),330,Ckc13,[12],0),
  (20,(Ckl1922,[Cke808,Cke820],[]),329,Ckc13,[13],0),
  (22,(Ckl1922,[Cke355,Cke808,Cke820],[]),328,Ckc13,[14],0),
  (24,(Ckl1922,[Cke642,Cke355,Cke808,Cke820],[]),327,Ckc13,[15],0),
  (25,(Ckl1922,[Cke836,Cke808,Cke820],[]),326,Ckc13,[16],0),
  (26,(Ckl1922,[Cke6,Cke836,Cke808,Cke820],[]),325,Ckc13,[17],0),
  (27,(Ckl1922,[Cke837,Cke808,Cke820],[]),324,Ckc13,[18],0),
  (28,(Ckl1922,[],[]),323,Ckc13,[19],0),
  (29,(Ckl1922,[Cke802],[]),322,Ckc13,[20],0),
  (32,(Ckl1922,[Cke820],[]),321,Ckc13,[21],0),
  (33,(Ckl1922,[Cke802,Cke820],[]),320,Ckc13,[22],0),
  (36,(Ckl1922,[Cke809,Cke820],[]),319,Ckc13,[23],0),
  (38,(Ckl1922,[Cke236,Cke809,Cke820],[]),318,Ckc13,[24],0),
  (40,(Ckl1922,[Cke642,Cke236,Cke809,Cke820],[]),317,Ckc13,[25],0),
  (41,(Ckl1922,[Cke836,Cke809,Cke820],[]),316,Ckc13,[26],0),
  (42,(Ckl1922,[Cke6,Cke836,Cke809,Cke820],[]),315,Ckc13,[27],0),
  (43,(Ckl1922,[Cke837,Cke809,Cke820],[]),314,Ckc13,[28],0),
  (44,(Ckl1922,[],[]),313,Ckc13,[29],0),
  (45,(Ckl1922,[Cke802],[]),312,Ckc13,[30],0),
  (48,(Ckl1922,[Cke838],[]),311,Ckc13,[31],0),
  (49,(Ckl1922,[Cke835,Cke838],[]),310,Ckc13,[32],0),
  (50,(Ckl1922,[Cke7,Cke835,Cke838],[]),309,Ckc13,[33],0),
  (51,(Ckl1922,[],[]),308,Ckc13,[34],0),
  (52,(Ckl1922,[Cke802],[]),307,Ckc13,[35],0),
  (55,(Ckl1922,[Cke839],[]),306,Ckc13,[36],0),
  (56,(Ckl1922,[Cke835,Cke839],[]),305,Ckc13,[37],0),
  (57,(Ckl1922,[Cke7,Cke835,Cke839],[]),304,Ckc13,[38],0),
  (58,(Ckl1922,[],[]),303,Ckc13,[39],0),
  (59,(Ckl1922,[Cke7],[]),302,Ckc13,[40],0),
  (61,(Ckl1923,[],[]),300,Ckc58,[42],0),
  (63,(Ckl1924,[Cke212],[]),344,Ckc13,[43],0),
  (63,(Ckl1923,[Cke840],[]),299,Ckc58,[44],0),
  (64,(Ckl1924,[Cke86,Cke212],[]),343,Ckc13,[45],0),
  (64,(Ckl1923,[Cke86,Cke840],[]),298,Ckc58,[46],0),
  (67,(Ckl1924,[Cke82,Cke212],[]),342,Ckc13,[88,47],0),
  (67,(Ckl1923,[Cke82,Cke840],[]),297,Ckc58,[88,47],0),
  (70,(Ckl1925,[],Ckf32),296,Ckc58,[48],0),
  (71,(Ckl1925,[Cke802],Ckf32),295,Ckc58,[49],0),
  (72,(Ckl1925,[Cke86,Cke802],Ckf32),294,Ckc58,[50],0),
  (73,(Ckl1925,[Cke354,Cke86,Cke802],Ckf32),293,Ckc58,[52],0),
  (75,(Ckl1924,[Cke212,Cke354,Cke86,Cke802],Ckf32),346,Ckc13,[53],0),
  (75,(Ckl1925,[Cke841,Cke354,Cke86,Cke802],Ckf32),292,Ckc58,[54],0),
  (76,(Ckl1924,[Cke835,Cke212,Cke354,Cke86,Cke802],Ckf32),345,Ckc13,[55],250),
  (76,(Ckl1925,[Cke835,Cke841,Cke354,Cke86,Cke802],Ckf32),291,Ckc58,[55],250),
  (79,(Ckl1925,[Cke184],Ckf32),290,Ckc58,[56],0),
  (81,(Ckl1926,[],Ckf32),289,Ckc58,[57],0),
  (82,(Ckl1926,[Cke802],Ckf32),288,Ckc58,[58],0),
  (85,(Ckl1926,[Cke838],Ckf32),287,Ckc58,[59],0),
  (86,(Ckl1926,[Cke835,Cke838],Ckf32),286,Ckc58,[60],0),
  (87,(Ckl1926,[Cke835,Cke838,Cke835,Cke838],Ckf32),285,Ckc58,[61],0),
  (88,(Ckl1926,[Cke184,Cke835,Cke838],Ckf32),284,Ckc58,[62],0),
  (90,(Ckl1926,[Cke215,Cke184,Cke835,Cke838],Ckf32),283,Ckc58,[63],0),
  (91,(Ckl1926,[Cke802,Cke215,Cke184,Cke835,Cke838],Ckf32),282,Ckc58,[64],0)]
def CNC251_1 : List ND := [(94,(Ckl1926,[Cke808,Cke215,Cke184,Cke835,Cke838],Ckf32),281,Ckc58,[65],0),
  (95,(Ckl1926,[Cke184,Cke184,Cke835,Cke838],Ckf32),280,Ckc58,[66],0),
  (96,(Ckl1926,[Cke6,Cke184,Cke184,Cke835,Cke838],Ckf32),279,Ckc58,[67],0),
  (97,(Ckl1926,[Cke242,Cke184,Cke835,Cke838],Ckf32),278,Ckc58,[68],0),
  (99,(Ckl1926,[Cke355,Cke242,Cke184,Cke835,Cke838],Ckf32),277,Ckc58,[69],0),
  (100,(Ckl1926,[Cke97,Cke184,Cke835,Cke838],Ckf32),276,Ckc58,[70],0),
  (101,(Ckl1926,[Cke184,Cke835,Cke838],Ckf32),275,Ckc58,[71],0),
  (102,(Ckl1926,[],Ckf32),274,Ckc58,[72],0),
  (103,(Ckl1926,[Cke802],Ckf32),273,Ckc58,[73],0),
  (106,(Ckl1926,[Cke839],Ckf32),272,Ckc58,[74],0),
  (107,(Ckl1926,[Cke835,Cke839],Ckf32),271,Ckc58,[75],0),
  (108,(Ckl1926,[Cke835,Cke839,Cke835,Cke839],Ckf32),270,Ckc58,[76],0),
  (109,(Ckl1926,[Cke184,Cke835,Cke839],Ckf32),269,Ckc58,[77],0),
  (111,(Ckl1926,[Cke215,Cke184,Cke835,Cke839],Ckf32),268,Ckc58,[78],0),
  (112,(Ckl1926,[Cke802,Cke215,Cke184,Cke835,Cke839],Ckf32),267,Ckc58,[79],0),
  (115,(Ckl1926,[Cke809,Cke215,Cke184,Cke835,Cke839],Ckf32),266,Ckc58,[80],0),
  (116,(Ckl1926,[Cke184,Cke184,Cke835,Cke839],Ckf32),265,Ckc58,[81],0),
  (117,(Ckl1926,[Cke6,Cke184,Cke184,Cke835,Cke839],Ckf32),264,Ckc58,[82],0),
  (118,(Ckl1926,[Cke242,Cke184,Cke835,Cke839],Ckf32),263,Ckc58,[83],0),
  (120,(Ckl1926,[Cke236,Cke242,Cke184,Cke835,Cke839],Ckf32),262,Ckc58,[84],0),
  (121,(Ckl1926,[Cke97,Cke184,Cke835,Cke839],Ckf32),261,Ckc58,[85],0),
  (122,(Ckl1926,[Cke184,Cke835,Cke839],Ckf32),260,Ckc58,[86],0),
  (123,(Ckl1926,[],Ckf32),259,Ckc58,[87],0),
  (126,(Ckl1927,[],Ckf32),301,Ckc58,[40],0),
  (129,(Ckl1923,[],[]),0,Ckc13,[],0)]
def CNC251 : List (List ND) := [CNC251_0, CNC251_1]
theorem CKC251 : chkS prot SMsC SMC251 [] CNC251 = true := by decide +kernel
-- OneSided$Rents.settle [(96, 96), (5, 5), (60, 60), (0, 13), (0, 13)]
def Ckl1928 : AL := [some Cka328,some Cka50,some Cka157,some Cka62,some Cka62,none]
def Ckl1929 : AL := [some Cka328,some Cka50,some Cka157,some Cka62,some Cka62,some Cka61]
def Ckc59 : List Int := [0,0,0,0,0,-19]
def Ckl1930 : AL := [some Cka328,some Cka50,some Cka157,some Cka62,some Cka62,some Cka7]
def Ckl1931 : AL := [some Cka328,some Cka50,some Cka157,some Cka62,some Cka62,some Cka62]
def Ckl1932 : AL := [some Cka328,some Cka50,some Cka157,some Cka62,some Cka62,some Cka63]
def Ckl1933 : AL := [some Cka328,some Cka50,some Cka157,some Cka62,some Cka62,some Cka262]
def Ckc60 : List Int := [0,0,0,0,0,-10]
def Cke842 : SE := (Cka262,(1,5,0,0,0))
def Ckl1934 : AL := [some Cka328,some Cka50,some Cka157,some Cka62,some Cka62,some Cka263]
def Cke843 : SE := (Cka263,(1,5,0,0,0))
def Ckl1935 : AL := [some Cka328,some Cka50,some Cka157,some Cka62,some Cka62,some Cka264]
def Ckl1936 : AL := [some Cka328,some Cka50,some Cka157,some Cka62,some Cka62,some Cka261]
def CNC252_0 : List ND := [(0,(Ckl1928,[],[]),1319,Ckc9,[1],0),
  (1,(Ckl1928,[Cke802],[]),1318,Ckc9,[2],0),
  (2,(Ckl1928,[Cke78,Cke802],[]),1317,Ckc9,[3],0),
  (5,(Ckl1928,[],[]),1316,Ckc9,[4],0),
  (6,(Ckl1928,[Cke802],[]),1315,Ckc9,[5],0),
  (8,(Ckl1928,[Cke410,Cke802],[]),1314,Ckc9,[6],0),
  (11,(Ckl1928,[],[]),1313,Ckc9,[7],0),
  (12,(Ckl1928,[Cke802],[]),1312,Ckc9,[8],0),
  (13,(Ckl1928,[Cke86,Cke802],[]),1311,Ckc9,[9],0),
  (14,(Ckl1928,[Cke354,Cke86,Cke802],[]),1310,Ckc9,[10],0),
  (15,(Ckl1928,[Cke7,Cke354,Cke86,Cke802],[]),1309,Ckc9,[11],0),
  (16,(Ckl1928,[Cke802,Cke7,Cke354,Cke86,Cke802],[]),1308,Ckc9,[12],0),
  (19,(Ckl1928,[Cke808,Cke7,Cke354,Cke86,Cke802],[]),1307,Ckc9,[13],244),
  (22,(Ckl1928,[],[]),1306,Ckc9,[14],0),
  (23,(Ckl1928,[Cke802],[]),1305,Ckc9,[15],0),
  (24,(Ckl1928,[Cke86,Cke802],[]),1304,Ckc9,[16],0),
  (25,(Ckl1928,[Cke354,Cke86,Cke802],[]),1303,Ckc9,[17],0),
  (26,(Ckl1928,[Cke6,Cke354,Cke86,Cke802],[]),1302,Ckc9,[18],0),
  (27,(Ckl1928,[Cke802,Cke6,Cke354,Cke86,Cke802],[]),1301,Ckc9,[19],0),
  (30,(Ckl1928,[Cke809,Cke6,Cke354,Cke86,Cke802],[]),1300,Ckc9,[20],245),
  (33,(Ckl1928,[],[]),1299,Ckc9,[21],0),
  (34,(Ckl1928,[Cke7],[]),1298,Ckc9,[22],0),
  (36,(Ckl1929,[],[]),1296,Ckc59,[24],0),
  (38,(Ckl1930,[Cke216],[]),1322,Ckc9,[25],0),
  (38,(Ckl1929,[Cke246],[]),1295,Ckc59,[26],0),
  (39,(Ckl1930,[Cke86,Cke216],[]),1321,Ckc9,[27],0),
  (39,(Ckl1929,[Cke86,Cke246],[]),1294,Ckc59,[28],0),
  (42,(Ckl1930,[Cke76,Cke216],[]),1320,Ckc9,[54,29],0),
  (42,(Ckl1929,[Cke76,Cke246],[]),1293,Ckc59,[54,29],0),
  (45,(Ckl1931,[],Ckf31),1292,Ckc59,[30],0),
  (46,(Ckl1931,[Cke802],Ckf31),1291,Ckc59,[31],0),
  (49,(Ckl1931,[Cke820],Ckf31),1290,Ckc59,[33],0),
  (51,(Ckl1930,[Cke216,Cke820],Ckf31),1332,Ckc9,[34],0),
  (51,(Ckl1931,[Cke247,Cke820],Ckf31),1289,Ckc59,[35],0),
  (52,(Ckl1930,[Cke86,Cke216,Cke820],Ckf31),1331,Ckc9,[36],0),
  (52,(Ckl1931,[Cke86,Cke247,Cke820],Ckf31),1288,Ckc59,[37],0),
  (55,(Ckl1930,[Cke77,Cke216,Cke820],Ckf31),1330,Ckc9,[38],0),
  (55,(Ckl1931,[Cke77,Cke247,Cke820],Ckf31),1287,Ckc59,[39],0),
  (57,(Ckl1930,[Cke216,Cke77,Cke216,Cke820],Ckf31),1329,Ckc9,[40],0),
  (57,(Ckl1931,[Cke247,Cke77,Cke247,Cke820],Ckf31),1286,Ckc59,[41],0),
  (58,(Ckl1930,[Cke250,Cke216,Cke820],Ckf31),1328,Ckc9,[42],0),
  (58,(Ckl1931,[Cke79,Cke247,Cke820],Ckf31),1285,Ckc59,[43],0),
  (61,(Ckl1930,[Cke97,Cke216,Cke820],Ckf31),1327,Ckc9,[44],0),
  (61,(Ckl1931,[Cke97,Cke247,Cke820],Ckf31),1284,Ckc59,[45],0),
  (63,(Ckl1930,[Cke642,Cke97,Cke216,Cke820],Ckf31),1326,Ckc9,[46],0),
  (63,(Ckl1931,[Cke642,Cke97,Cke247,Cke820],Ckf31),1283,Ckc59,[47],0),
  (64,(Ckl1930,[Cke836,Cke216,Cke820],Ckf31),1325,Ckc9,[48],0),
  (64,(Ckl1931,[Cke836,Cke247,Cke820],Ckf31),1282,Ckc59,[49],0),
  (65,(Ckl1930,[Cke6,Cke836,Cke216,Cke820],Ckf31),1324,Ckc9,[50],0),
  (65,(Ckl1931,[Cke6,Cke836,Cke247,Cke820],Ckf31),1281,Ckc59,[51],0),
  (66,(Ckl1930,[Cke837,Cke216,Cke820],Ckf31),1323,Ckc9,[52],0),
  (66,(Ckl1931,[Cke837,Cke247,Cke820],Ckf31),1280,Ckc59,[52],0),
  (67,(Ckl1931,[],Ckf31),1279,Ckc59,[53],0),
  (70,(Ckl1932,[],Ckf31),1297,Ckc59,[22],0),
  (73,(Ckl1929,[],[]),1012,Ckc9,[55],0),
  (74,(Ckl1929,[Cke7],[]),1011,Ckc9,[56],0),
  (76,(Ckl1933,[],[]),1009,Ckc60,[58],0),
  (78,(Ckl1930,[Cke216],[]),1334,Ckc9,[59],0),
  (78,(Ckl1933,[Cke842],[]),1008,Ckc60,[60],0),
  (80,(Ckl1930,[Cke564,Cke216],[]),1333,Ckc9,[61],0),
  (80,(Ckl1933,[Cke564,Cke842],[]),1007,Ckc60,[69,61],0),
  (83,(Ckl1934,[],[]),1006,Ckc60,[62],0),
  (84,(Ckl1934,[Cke802],[]),1005,Ckc60,[63],0),
  (85,(Ckl1934,[Cke86,Cke802],[]),1004,Ckc60,[64],0)]
def CNC252_1 : List ND := [(86,(Ckl1934,[Cke354,Cke86,Cke802],[]),1003,Ckc60,[66],0),
  (88,(Ckl1930,[Cke216,Cke354,Cke86,Cke802],[]),1335,Ckc9,[67],251),
  (88,(Ckl1934,[Cke843,Cke354,Cke86,Cke802],[]),1002,Ckc60,[67],251),
  (91,(Ckl1934,[],[]),1001,Ckc60,[68],0),
  (94,(Ckl1935,[],[]),1010,Ckc60,[56],0),
  (97,(Ckl1936,[],[]),0,Ckc9,[],0)]
def CNC252 : List (List ND) := [CNC252_0, CNC252_1]
theorem CKC252 : chkS prot SMsC SMC252 [] CNC252 = true := by decide +kernel
