/-! summaries of the methods, and the heads of their loops: by a program; each is checked below -/
def inlL : List Nat := [7, 20, 25, 35, 37, 46, 47, 53, 61, 62, 63, 67, 68, 69, 70, 71, 72, 78, 114, 115, 116, 117, 119, 120, 121, 122, 124, 125, 126, 128, 129, 132, 136, 137, 138, 139, 144, 150, 151, 152, 153, 154, 157, 158, 159, 160, 161, 162, 186, 205, 206, 207, 208]
/-- MapItch$Planes.sortAt -/
def sy_1 : aY := ([.inl (false, iMin, iMax, false), .inl (false, iMin, iMax, false)], [], [(some (false, iMin, iMax, false), [])], [], 0)
def sh_1 : List (Nat × List aH) := []
def sT_1 : List (Nat × aY) := []
/-- MapItch$Planes.withSort -/
def sy_2 : aY := ([.inl (false, iMin, iMax, false), .inl (false, iMin, iMax, false), .inl (false, iMin, iMax, false)], [], [(some (false, iMin, iMax, false), [])], [], 0)
def sh_2 : List (Nat × List aH) := []
def sT_2 : List (Nat × aY) := []
/-- MapItch$Planes.further -/
def sy_3 : aY := ([.inl (false, iMin, iMax, false), .inl (false, iMin, iMax, false), .inl (false, iMin, iMax, false)], [], [(some (false, iMin, iMax, false), [])], [], 1)
def sh_3 : List (Nat × List aH) := []
def sT_3 : List (Nat × aY) := [(48, sy_1), (49, sy_2)]
/-- MapItch$Planes.wrong -/
def sy_4 : aY := ([.inl (false, iMin, iMax, false), .inl (false, iMin, iMax, false)], [], [(some (false, iMin, iMax, false), [])], [], 0)
def sh_4 : List (Nat × List aH) := []
def sT_4 : List (Nat × aY) := []
/-- MapItch$Planes.taken -/
def sy_5 : aY := ([.inl (false, iMin, iMax, false), .inl (false, iMin, iMax, false), .inl (false, iMin, iMax, false)], [], [(some (false, iMin, iMax, false), [])], [], 0)
def sh_5 : List (Nat × List aH) := []
def sT_5 : List (Nat × aY) := []
/-- MapItch$County.beside -/
def sy_6 : aY := ([.inl (false, iMin, iMax, false)], [], [(some (false, iMin, iMax, false), [])], [], 0)
def sh_6 : List (Nat × List aH) := []
def sT_6 : List (Nat × aY) := []
/-- MapItch$County.itchAtSeam -/
def sy_7 : aY := ([.inl (false, iMin, iMax, false), .inl (false, iMin, iMax, false)], [], [(some (false, iMin, iMax, false), [])], [], 0)
def sh_7 : List (Nat × List aH) := []
def sT_7 : List (Nat × aY) := []
/-- MapItch$County.itchWithin -/
def sy_8 : aY := ([.inl (false, iMin, iMax, false), .inl (false, iMin, iMax, false)], [], [(some (false, iMin, iMax, false), [])], [], 0)
def sh_8 : List (Nat × List aH) := []
def sT_8 : List (Nat × aY) := []
/-- java/lang/Integer.bitCount -/
def sy_9 : aY := ([.inl (false, iMin, iMax, false)], [], [(some (false, iMin, iMax, false), [])], [], 0)
def sh_9 : List (Nat × List aH) := []
def sT_9 : List (Nat × aY) := []
/-- java/lang/Integer.lowestOneBit -/
def sy_10 : aY := ([.inl (false, iMin, iMax, false)], [], [(some (false, iMin, iMax, false), [])], [], 0)
def sh_10 : List (Nat × List aH) := []
def sT_10 : List (Nat × aY) := []
/-- java/lang/Math.abs -/
def sy_11 : aY := ([.inl (false, iMin, iMax, false)], [], [(some (false, iMin, iMax, false), [])], [], 0)
def sh_11 : List (Nat × List aH) := []
def sT_11 : List (Nat × aY) := []
/-- java/lang/Math.max -/
def sy_12 : aY := ([.inl (false, iMin, iMax, false), .inl (false, iMin, iMax, false)], [], [(some (false, iMin, iMax, false), [])], [], 0)
def sh_12 : List (Nat × List aH) := []
def sT_12 : List (Nat × aY) := []
/-- java/lang/Math.min -/
def sy_13 : aY := ([.inl (false, iMin, iMax, false), .inl (false, iMin, iMax, false)], [], [(some (false, iMin, iMax, false), [])], [], 0)
def sh_13 : List (Nat × List aH) := []
def sT_13 : List (Nat × aY) := []
/-- java/lang/Math.floorMod -/
def sy_14 : aY := ([.inl (false, iMin, iMax, false), .inl (false, 4, 4, false)], [], [(some (false, (-3), 7, false), [])], [], 0)
def sh_14 : List (Nat × List aH) := []
def sT_14 : List (Nat × aY) := []
/-- MapItch$Fraction.common -/
def sy_15 : aY := ([.inl (false, iMin, iMax, false), .inl (false, iMin, iMax, false)], [], [(some (false, iMin, iMax, false), [])], [], 0)
def sh_15 : List (Nat × List aH) := [(7, [([some (.inl (false, iMin, iMax, false)), some (.inl (false, iMin, iMax, false)), some (.inl (false, iMin, iMax, false)), some (.inl (false, iMin, iMax, false)), some (.inl (false, 0, 100, false)), none], [], [(.inl 4, true)], 0)])]
def sT_15 : List (Nat × aY) := []
/-- MapItch$Fraction.part -/
def sy_16 : aY := ([.inl (false, iMin, iMax, false), .inl (false, iMin, iMax, false), .inl (false, iMin, iMax, false)], [], [(some (false, iMin, iMax, false), [])], [], 1)
def sh_16 : List (Nat × List aH) := []
def sT_16 : List (Nat × aY) := [(219, sy_11), (39, sy_15)]
/-- MapItch$Fraction.power -/
def sy_17 : aY := ([.inl (false, iMin, iMax, false), .inl (false, iMin, iMax, false)], [], [(some (false, iMin, iMax, false), [])], [], 0)
def sh_17 : List (Nat × List aH) := [(4, [([some (.inl (false, iMin, iMax, false)), some (.inl (false, iMin, iMax, false)), some (.inl (false, iMin, iMax, false)), some (.inl (false, 0, iMax, false))], [], [(.inl 3, true)], 0)])]
def sT_17 : List (Nat × aY) := []
/-- MapItch$Fraction.waysToMove -/
def sy_18 : aY := ([.inl (false, iMin, iMax, false), .inl (false, 0, 10, false), .inl (false, 0, 6, false)], [], [(some (false, iMin, iMax, false), [])], [], 1)
def sh_18 : List (Nat × List aH) := [(8, [([some (.inl (false, iMin, iMax, false)), some (.inl (false, 0, 10, false)), some (.inl (false, 0, 6, false)), some (.inl (false, iMin, iMax, false)), some (.inl (false, iMin, iMax, false)), some (.inl (false, 0, 7, false))], [], [(.inl 5, true)], 0)])]
def sT_18 : List (Nat × aY) := [(40, sy_17)]
/-- MapItch$Fraction.worth -/
def sy_19 : aY := ([.inl (false, iMin, iMax, false), .inl (false, iMin, iMax, false), .inl (false, iMin, iMax, false), .inl (false, iMin, iMax, false), .inl (false, iMin, iMax, false)], [], [(some (false, iMin, iMax, false), [])], [], 2)
def sh_19 : List (Nat × List aH) := []
def sT_19 : List (Nat × aY) := [(220, sy_12), (221, sy_13), (38, sy_16)]
/-- MapItch$County.ownCells -/
def sy_20 : aY := ([.inr 15, .inl (false, iMin, iMax, false)], [], [(some (false, iMin, iMax, false), [])], [], 1)
def sh_20 : List (Nat × List aH) := []
def sT_20 : List (Nat × aY) := []
/-- MapItch$County.placeSurveyor -/
def sy_21 : aY := ([.inr 15, .inl (false, iMin, iMax, false)], [], [(none, [])], [(15, 8, 8), (20, 0, 4), (21, 0, 4), (22, 0, 4)], 2)
def sh_21 : List (Nat × List aH) := []
def sT_21 : List (Nat × aY) := [(14, sy_6), (15, sy_7), (16, sy_8), (21, sy_20)]
/-- MapItch$County.stand -/
def sy_22 : aY := ([.inr 15], [], [(none, [])], [(15, 0, 0), (15, 7, 8), (20, 0, 4), (21, 0, 4), (22, 0, 4)], 3)
def sh_22 : List (Nat × List aH) := [(7, [([some (.inr 15), some (.inl (false, 0, 3, false)), none], [], [(.inl 1, true)], 0)]), (53, [([some (.inr 15), some (.inl (false, 0, iMax, false)), none], [], [(.inl 1, true)], 1)])]
def sT_22 : List (Nat × aY) := [(14, sy_6), (13, sy_21)]
/-- MapItch$County.clear -/
def sy_23 : aY := ([.inr 15], [], [(none, [])], [(15, 0, 6), (16, 0, 3)], 0)
def sh_23 : List (Nat × List aH) := [(37, [([some (.inr 15), some (.inl (false, 0, 3, false))], [], [(.inl 1, true)], 0)])]
def sT_23 : List (Nat × aY) := []
/-- MapItch$County.ownCells -/
def sy_24 : aY := ([.inr 23, .inl (false, iMin, iMax, false)], [], [(some (false, iMin, iMax, false), [])], [], 1)
def sh_24 : List (Nat × List aH) := []
def sT_24 : List (Nat × aY) := []
/-- MapItch$County.placeSurveyor -/
def sy_25 : aY := ([.inr 23, .inl (false, iMin, iMax, false)], [], [(none, [])], [(23, 8, 8), (28, 0, 4), (29, 0, 4), (30, 0, 4)], 2)
def sh_25 : List (Nat × List aH) := []
def sT_25 : List (Nat × aY) := [(14, sy_6), (15, sy_7), (16, sy_8), (21, sy_24)]
/-- MapItch$County.stand -/
def sy_26 : aY := ([.inr 23], [], [(none, [])], [(23, 0, 0), (23, 7, 8), (28, 0, 4), (29, 0, 4), (30, 0, 4)], 3)
def sh_26 : List (Nat × List aH) := [(7, [([some (.inr 23), some (.inl (false, 0, 3, false)), none], [], [(.inl 1, true)], 0)]), (53, [([some (.inr 23), some (.inl (false, 0, iMax, false)), none], [], [(.inl 1, true)], 1)])]
def sT_26 : List (Nat × aY) := [(14, sy_6), (13, sy_25)]
/-- MapItch$County.clear -/
def sy_27 : aY := ([.inr 23], [], [(none, [])], [(23, 0, 6), (24, 0, 3)], 0)
def sh_27 : List (Nat × List aH) := [(37, [([some (.inr 23), some (.inl (false, 0, 3, false))], [], [(.inl 1, true)], 0)])]
def sT_27 : List (Nat × aY) := []
/-- MapItch$County.itch -/
def sy_28 : aY := ([.inr 15, .inl (false, iMin, iMax, false), .inl (false, iMin, iMax, false)], [], [(some (false, iMin, iMax, false), [])], [], 1)
def sh_28 : List (Nat × List aH) := []
def sT_28 : List (Nat × aY) := [(217, sy_9)]
/-- MapItch$County.itchOfAll -/
def sy_29 : aY := ([.inr 15, .inl (false, iMin, iMax, false)], [], [(some (false, iMin, iMax, false), [])], [], 2)
def sh_29 : List (Nat × List aH) := [(4, [([some (.inr 15), some (.inl (false, iMin, iMax, false)), some (.inl (false, iMin, iMax, false)), some (.inl (false, 0, iMax, false))], [], [(.inl 3, true)], 0)])]
def sT_29 : List (Nat × aY) := [(17, sy_28)]
/-- MapItch$County.districtOf -/
def sy_30 : aY := ([.inr 15, .inl (false, iMin, iMax, false)], [], [(some (false, (-1000000), 2, false), [])], [], 0)
def sh_30 : List (Nat × List aH) := [(2, [([some (.inr 15), some (.inl (false, iMin, iMax, false)), some (.inl (false, 0, 3, false))], [], [(.inl 2, true)], 0)])]
def sT_30 : List (Nat × aY) := []
/-- MapItch$County.whoFeels -/
def sy_31 : aY := ([.inr 15, .inl (false, iMin, iMax, false)], [], [(some (false, iMin, iMax, false), [])], [], 0)
def sh_31 : List (Nat × List aH) := [(4, [([some (.inr 15), some (.inl (false, iMin, iMax, false)), some (.inl (false, iMin, iMax, false)), some (.inl (false, 0, 4, false))], [], [(.inl 3, true)], 0)])]
def sT_31 : List (Nat × aY) := []
/-- MapItch$County.whoRests -/
def sy_32 : aY := ([.inr 15, .inl (false, iMin, iMax, false)], [], [(some (false, iMin, iMax, false), [])], [], 2)
def sh_32 : List (Nat × List aH) := [(4, [([some (.inr 15), some (.inl (false, iMin, iMax, false)), some (.inl (false, iMin, iMax, false)), some (.inl (false, 0, iMax, false))], [], [(.inl 3, true)], 0)])]
def sT_32 : List (Nat × aY) := [(17, sy_28)]
/-- MapItch$County.allRestOn -/
def sy_33 : aY := ([.inr 15, .inl (false, iMin, iMax, false)], [], [(some (false, 0, 1, false), [])], [], 1)
def sh_33 : List (Nat × List aH) := []
def sT_33 : List (Nat × aY) := [(51, sy_4)]
/-- MapItch$County.landAfterYear -/
def sy_34 : aY := ([.inr 15, .inl (false, iMin, iMax, false)], [], [(some (false, iMin, iMax, false), [])], [], 2)
def sh_34 : List (Nat × List aH) := [(4, [([some (.inr 15), some (.inl (false, iMin, iMax, false)), some (.inl (false, iMin, iMax, false)), some (.inl (false, 0, 4, false)), none], [], [(.inl 3, true)], 0)])]
def sT_34 : List (Nat × aY) := [(51, sy_4), (52, sy_5), (216, sy_10), (21, sy_20)]
/-- MapItch$County.feltBy -/
def sy_35 : aY := ([.inr 15, .inl (false, iMin, iMax, false)], [], [(some (false, iMin, iMax, false), [])], [], 0)
def sh_35 : List (Nat × List aH) := [(4, [([some (.inr 15), some (.inl (false, iMin, iMax, false)), some (.inl (false, iMin, iMax, false)), some (.inl (false, 0, 4, false))], [], [(.inl 3, true)], 0)])]
def sT_35 : List (Nat × aY) := []
/-- MapItch$County.fewestMen -/
def sy_36 : aY := ([.inr 15], [], [(some (false, (-1000000), 2147483646, false), [])], [], 1)
def sh_36 : List (Nat × List aH) := [(5, [([some (.inr 15), some (.inl (false, (-1000000), 2147483646, false)), some (.inl (false, 0, iMax, false)), none], [], [(.inl 2, true)], 0)])]
def sT_36 : List (Nat × aY) := [(217, sy_9), (30, sy_35)]
/-- MapItch$County.howManySignBefore -/
def sy_37 : aY := ([.inr 15, .inl (false, iMin, iMax, false), .inl (false, iMin, iMax, false)], [], [(some (false, iMin, iMax, false), [])], [], 2)
def sh_37 : List (Nat × List aH) := [(13, [([some (.inr 15), some (.inl (false, iMin, iMax, false)), some (.inl (false, iMin, iMax, false)), some (.inl (false, iMin, iMax, false)), some (.inl (false, iMin, iMax, false)), some (.inl (false, 0, iMax, false)), none], [], [(.inl 5, true)], 0)])]
def sT_37 : List (Nat × aY) := [(17, sy_28)]
/-- MapItch$County.signer -/
def sy_38 : aY := ([.inr 15, .inl (false, iMin, iMax, false)], [], [(some (false, (-1000000), 2147483646, false), [])], [], 3)
def sh_38 : List (Nat × List aH) := [(7, [([some (.inr 15), some (.inl (false, iMin, iMax, false)), some (.inl (false, iMin, iMax, false)), some (.inl (false, 0, iMax, false))], [], [(.inl 3, true)], 0)])]
def sT_38 : List (Nat × aY) := [(51, sy_4), (32, sy_37)]
/-- MapItch$County.sheetAfterStroke -/
def sy_39 : aY := ([.inr 15, .inl (false, iMin, iMax, false), .inl (false, iMin, iMax, false)], [], [(some (false, iMin, iMax, false), [])], [], 2)
def sh_39 : List (Nat × List aH) := []
def sT_39 : List (Nat × aY) := [(49, sy_2), (50, sy_3)]
/-- MapItch$County.itchesAsTold -/
def sy_40 : aY := ([.inr 15, .inl (false, iMin, iMax, false), .inr 57], [], [(some (false, 0, 1, false), [])], [], 2)
def sh_40 : List (Nat × List aH) := [(2, [([some (.inr 15), some (.inl (false, iMin, iMax, false)), some (.inr 57), some (.inl (false, 0, 4, false))], [], [(.inl 3, true)], 0)])]
def sT_40 : List (Nat × aY) := [(17, sy_28)]
/-- MapItch$County.become -/
def sy_41 : aY := ([.inr 15, .inr 23], [], [(none, [])], [(15, 0, 8), (16, 0, 3), (17, 0, 4), (18, 0, 4), (19, 0, 4), (20, 0, 4), (21, 0, 4), (22, 0, 4)], 0)
def sh_41 : List (Nat × List aH) := []
def sT_41 : List (Nat × aY) := []
/-- MapItch$County.become -/
def sy_42 : aY := ([.inr 31, .inr 15], [], [(none, [])], [(31, 0, 8), (32, 0, 3), (33, 0, 4), (34, 0, 4), (35, 0, 4), (36, 0, 4), (37, 0, 4), (38, 0, 4)], 0)
def sh_42 : List (Nat × List aH) := []
def sT_42 : List (Nat × aY) := []
/-- MapItch$County.become -/
def sy_43 : aY := ([.inr 39, .inr 15], [], [(none, [])], [(39, 0, 8), (40, 0, 3), (41, 0, 4), (42, 0, 4), (43, 0, 4), (44, 0, 4), (45, 0, 4), (46, 0, 4)], 0)
def sh_43 : List (Nat × List aH) := []
def sT_43 : List (Nat × aY) := []
/-- MapItch$County.become -/
def sy_44 : aY := ([.inr 15, .inr 31], [], [(none, [])], [(15, 0, 8), (16, 0, 3), (17, 0, 4), (18, 0, 4), (19, 0, 4), (20, 0, 4), (21, 0, 4), (22, 0, 4)], 0)
def sh_44 : List (Nat × List aH) := []
def sT_44 : List (Nat × aY) := []
/-- MapItch$County.become -/
def sy_45 : aY := ([.inr 15, .inr 39], [], [(none, [])], [(15, 0, 8), (16, 0, 3), (17, 0, 4), (18, 0, 4), (19, 0, 4), (20, 0, 4), (21, 0, 4), (22, 0, 4)], 0)
def sh_45 : List (Nat × List aH) := []
def sT_45 : List (Nat × aY) := []
/-- MapItch$Rows.present -/
def sy_46 : aY := ([.inr 1], [], [(some (false, iMin, iMax, false), [])], [], 2)
def sh_46 : List (Nat × List aH) := [(4, [([some (.inr 1), some (.inl (false, iMin, iMax, false)), some (.inl (false, 0, 8, false))], [], [(.inl 2, true)], 0)])]
def sT_46 : List (Nat × aY) := []
/-- MapItch$Rows.make -/
def sy_47 : aY := ([.inr 1, .inl (false, iMin, iMax, false), .inl (false, iMin, iMax, false), .inl (false, iMin, iMax, false)], [], [(none, [])], [(3, 0, 40), (4, 0, 40), (5, 0, 40), (6, 0, 40), (7, 0, 40), (8, 0, 40), (9, 0, 40), (10, 0, 40), (11, 0, 8), (12, 0, 8)], 1)
def sh_47 : List (Nat × List aH) := [(35, [([some (.inr 1), some (.inl (false, 0, 7, false)), some (.inl (false, iMin, iMax, false)), some (.inl (false, 0, 40, false)), some (.inl (false, 0, 40, false))], [], [(.inl 4, true)], 0)])]
def sT_47 : List (Nat × aY) := []
/-- MapItch$Rows.remove -/
def sy_48 : aY := ([.inr 1, .inl (false, iMin, iMax, false)], [], [(some (false, 0, 40, false), [])], [(12, 0, 8)], 2)
def sh_48 : List (Nat × List aH) := []
def sT_48 : List (Nat × aY) := []
/-- MapItch$Rows.at -/
def sy_49 : aY := ([.inr 1, .inl (false, iMin, iMax, false), .inl (false, iMin, iMax, false)], [], [(some (false, iMin, iMax, false), [])], [], 2)
def sh_49 : List (Nat × List aH) := []
def sT_49 : List (Nat × aY) := []
/-- MapItch$Rows.put -/
def sy_50 : aY := ([.inr 1, .inl (false, iMin, iMax, false), .inl (false, iMin, iMax, false), .inl (false, iMin, iMax, false)], [], [(some (false, iMin, iMax, false), [])], [(3, 0, 40), (4, 0, 40), (5, 0, 40), (6, 0, 40), (7, 0, 40), (8, 0, 40), (9, 0, 40), (10, 0, 40)], 2)
def sh_50 : List (Nat × List aH) := []
def sT_50 : List (Nat × aY) := []
/-- MapItch$Rows.move -/
def sy_51 : aY := ([.inr 1, .inl (false, iMin, iMax, false), .inl (false, iMin, iMax, false), .inl (false, iMin, iMax, false), .inl (false, iMin, iMax, false), .inl (false, iMin, iMax, false)], [], [(none, [])], [(3, 0, 40), (4, 0, 40), (5, 0, 40), (6, 0, 40), (7, 0, 40), (8, 0, 40), (9, 0, 40), (10, 0, 40)], 2)
/-- MapItch$Reader.kindOf -/
def sy_52 : aY := ([.inl (false, iMin, iMax, false)], [], [(some (false, 0, 5, false), [])], [], 0)
def sh_52 : List (Nat × List aH) := []
def sT_52 : List (Nat × aY) := []
/-- MapItch$Reader.add -/
def sy_53 : aY := ([.inr 13, .inl (false, iMin, iMax, false)], [], [(some (false, 1, 120, false), [])], [(13, 1, 1), (14, 0, 120)], 0)
def sh_53 : List (Nat × List aH) := []
def sT_53 : List (Nat × aY) := []
/-- MapItch$Reader.takeLetter -/
def sy_54 : aY := ([.inr 13, .inl (false, iMin, iMax, false), .inl (false, iMin, iMax, false)], [], [(some (false, iMin, iMax, false), [])], [(13, 2, 3)], 2)
def sh_54 : List (Nat × List aH) := []
def sT_54 : List (Nat × aY) := []
/-- MapItch$Reader.take -/
def sy_55 : aY := ([.inr 13, .inl (false, iMin, iMax, false)], [], [(none, [])], [(13, 2, 3)], 3)
def sh_55 : List (Nat × List aH) := []
def sT_55 : List (Nat × aY) := [(65, sy_54)]
/-- MapItch$Reader.takeNumber -/
def sy_56 : aY := ([.inr 13, .inl (false, iMin, iMax, false), .inl (false, iMin, iMax, false)], [], [(some (false, iMin, iMax, false), [])], [(13, 2, 3)], 1)
def sh_56 : List (Nat × List aH) := [(20, [([some (.inr 13), some (.inl (false, iMin, iMax, false)), some (.inl (false, iMin, iMax, false)), some (.inl (false, iMin, iMax, false)), some (.inl (false, iMin, iMax, false)), some (.inl (false, iMin, iMax, false))], [], [(.inl 5, true)], 0)])]
def sT_56 : List (Nat × aY) := []
/-- MapItch$Reader.readLaw -/
def sy_57 : aY := ([.inr 13, .inr 23], [], [(none, [])], [(13, 2, 3), (23, 1, 2)], 4)
def sh_57 : List (Nat × List aH) := []
def sT_57 : List (Nat × aY) := [(64, sy_55), (66, sy_56)]
/-- MapItch$Reader.readSorts -/
def sy_58 : aY := ([.inr 13, .inl (false, iMin, iMax, false)], [], [(some (false, iMin, iMax, false), [])], [(13, 2, 3)], 4)
def sh_58 : List (Nat × List aH) := [(9, [([some (.inr 13), some (.inl (false, iMin, iMax, false)), some (.inl (false, iMin, iMax, false)), some (.inl (false, 0, 15, false))], [], [(.inl 3, true)], 0)])]
def sT_58 : List (Nat × aY) := [(49, sy_2), (65, sy_54), (64, sy_55)]
/-- MapItch$Reader.readDistricts -/
def sy_59 : aY := ([.inr 13, .inr 23], [], [(none, [])], [(13, 2, 3), (24, 0, 3)], 4)
def sh_59 : List (Nat × List aH) := [(8, [([some (.inr 13), some (.inr 23), some (.inl (false, 0, 15, false)), none], [], [(.inl 2, true)], 0)])]
def sT_59 : List (Nat × aY) := [(65, sy_54), (64, sy_55)]
/-- MapItch$Reader.readSurveyor -/
def sy_60 : aY := ([.inr 13, .inr 23], [], [(none, [])], [(13, 2, 3), (13, 3, 3), (23, 6, 6), (25, 0, 4), (26, 0, 4), (27, 0, 4)], 4)
def sh_60 : List (Nat × List aH) := []
def sT_60 : List (Nat × aY) := [(60, sy_52), (64, sy_55), (66, sy_56)]
/-- MapItch$Reader.read -/
def sy_61 : aY := ([.inr 13, .inr 23], [], [(none, [(13, 1, 0, 0)])], [(13, 1, 2), (13, 2, 3), (13, 3, 3), (23, 0, 0), (23, 0, 6), (23, 1, 4), (23, 6, 8), (24, 0, 3), (25, 0, 4), (26, 0, 4), (27, 0, 4), (28, 0, 4), (29, 0, 4), (30, 0, 4)], 5)
def sh_61 : List (Nat × List aH) := [(46, [([some (.inr 13), some (.inr 23), some (.inl (false, 0, 7, false))], [], [(.inl 2, true)], 0)])]
def sT_61 : List (Nat × aY) := [(12, sy_26), (10, sy_27), (56, sy_57), (57, sy_58), (58, sy_59), (59, sy_60)]
/-- MapItch$Acts.forgetAll -/
def sy_62 : aY := ([.inr 48], [], [(none, [])], [(48, 3, 4)], 0)
def sh_62 : List (Nat × List aH) := []
def sT_62 : List (Nat × aY) := []
/-- MapItch$Acts.keep -/
def sy_63 : aY := ([.inr 48, .inr 15], [], [(none, [])], [(48, 3, 4), (49, 0, 24), (50, 0, 24), (51, 0, 24)], 1)
def sh_63 : List (Nat × List aH) := []
def sT_63 : List (Nat × aY) := [(221, sy_13)]
/-- MapItch$Acts.takeBack -/
def sy_64 : aY := ([.inr 48, .inr 15], [], [(none, [])], [(15, 3, 5), (48, 3, 4)], 0)
def sh_64 : List (Nat × List aH) := []
def sT_64 : List (Nat × aY) := []
/-- MapItch$Plan.lastStroke -/
def sy_65 : aY := ([.inr 15, .inl (false, iMin, iMax, false), .inl (false, iMin, iMax, false)], [], [(some (false, (-1000000), 59, false), [])], [], 3)
def sh_65 : List (Nat × List aH) := [(22, [([some (.inr 15), some (.inl (false, iMin, iMax, false)), some (.inl (false, iMin, iMax, false)), some (.inl (false, 0, 60, false))], [], [(.inl 3, true)], 0)])]
def sT_65 : List (Nat × aY) := [(48, sy_1), (51, sy_4), (217, sy_9), (27, sy_39)]
/-- MapItch$Plan.seekTwo -/
def sy_66 : aY := ([.inr 54, .inr 15, .inl (false, iMin, iMax, false)], [], [(none, [])], [(54, 0, 2)], 4)
def sh_66 : List (Nat × List aH) := [(8, [([some (.inr 54), some (.inr 15), some (.inl (false, iMin, iMax, false)), some (.inl (false, 0, 60, false))], [], [(.inl 3, true)], 0)])]
def sT_66 : List (Nat × aY) := [(48, sy_1), (27, sy_39), (45, sy_65)]
/-- MapItch$Plan.seek -/
def sy_67 : aY := ([.inr 54, .inr 15, .inl (false, 0, 1, false)], [], [(none, [])], [(54, 0, 0), (54, 0, 2), (54, 1, 2)], 5)
def sh_67 : List (Nat × List aH) := []
def sT_67 : List (Nat × aY) := [(51, sy_4), (45, sy_65), (44, sy_66)]
/-- MapItch$Fits.consider -/
def sy_68 : aY := ([.inr 55, .inr 15, .inr 57, .inl (false, iMin, iMax, false)], [], [(none, [])], [(55, 1, 2), (56, 0, 15)], 3)
def sh_68 : List (Nat × List aH) := [(23, [([some (.inr 55), some (.inr 15), some (.inr 57), some (.inl (false, iMin, iMax, false)), some (.inl (false, 0, 15, false))], [], [(.inl 4, true)], 0)])]
def sT_68 : List (Nat × aY) := [(217, sy_9), (19, sy_40)]
/-- MapItch$Fits.gather -/
def sy_69 : aY := ([.inr 55, .inr 15, .inr 57], [], [(none, [])], [(55, 1, 1), (55, 1, 2), (55, 2, 2), (56, 0, 15)], 4)
def sh_69 : List (Nat × List aH) := [(13, [([some (.inr 55), some (.inr 15), some (.inr 57), some (.inl (false, 0, 15, false)), none], [], [(.inl 3, true)], 0)]), (41, [([some (.inr 55), some (.inr 15), some (.inr 57), some (.inl (false, 0, 15, false)), none], [], [(.inl 3, true)], 1)]), (50, [([some (.inr 55), some (.inr 15), some (.inr 57), some (.inl (false, 0, 14, false)), some (.inl (false, 0, 15, false))], [], [(.inl 3, true), (.inl 4, true)], 1)])]
def sT_69 : List (Nat × aY) := [(34, sy_68)]
/-- MapItch$Fits.nearestToHalf -/
def sy_70 : aY := ([.inr 55], [], [(some (false, (-1000000), 14, false), [])], [], 2)
def sh_70 : List (Nat × List aH) := [(14, [([some (.inr 55), some (.inl (false, 0, 14, false)), some (.inl (false, 1, 15, false))], [], [(.inl 2, true)], 0)])]
def sT_70 : List (Nat × aY) := [(219, sy_11)]
/-- MapItch$Asks.isOne -/
def sy_71 : aY := ([.inl (false, iMin, iMax, false), .inl (false, iMin, iMax, false)], [], [(some (false, 0, 1, false), [])], [], 0)
def sh_71 : List (Nat × List aH) := [(4, [([some (.inl (false, iMin, iMax, false)), some (.inl (false, iMin, iMax, false)), some (.inl (false, iMin, iMax, false)), some (.inl (false, 0, 7, false))], [], [(.inl 3, true)], 0)])]
def sT_71 : List (Nat × aY) := []
/-- MapItch$Asks.sizeBody -/
def sy_72 : aY := ([.inr 15, .inl (false, iMin, iMax, false)], [], [(some (false, 0, 24, false), [])], [], 1)
def sh_72 : List (Nat × List aH) := []
def sT_72 : List (Nat × aY) := []
/-- MapItch$Asks.markBody -/
def sy_73 : aY := ([.inr 15, .inl (false, iMin, iMax, false)], [], [(some (false, 0, 24, false), [])], [], 1)
def sh_73 : List (Nat × List aH) := []
def sT_73 : List (Nat × aY) := []
/-- MapItch$Asks.give -/
def sy_74 : aY := ([.inr 52, .inr 15, .inl (false, iMin, iMax, false), .inl (false, iMin, iMax, false), .inl (false, 13, 13, false)], [], [(some (false, 0, 0, false), [])], [], 0)
def sh_74 : List (Nat × List aH) := []
def sT_74 : List (Nat × aY) := []
/-- MapItch$Asks.give -/
def sy_75 : aY := ([.inr 52, .inr 15, .inl (false, iMin, iMax, false), .inl (false, iMin, iMax, false), .inl (false, 12, 12, false)], [], [(some (false, iMin, iMax, false), [])], [(52, 1, 1), (53, 0, 16)], 2)
def sh_75 : List (Nat × List aH) := []
def sT_75 : List (Nat × aY) := [(51, sy_4), (17, sy_28), (8, sy_72), (9, sy_73), (6, sy_74)]
/-- MapItch$Asks.give -/
def sy_76 : aY := ([.inr 52, .inr 15, .inl (false, iMin, iMax, false), .inl (false, iMin, iMax, false), .inl (false, 11, 11, false)], [], [(some (false, iMin, iMax, false), [])], [(52, 1, 1), (53, 0, 16)], 3)
def sh_76 : List (Nat × List aH) := []
def sT_76 : List (Nat × aY) := [(51, sy_4), (17, sy_28), (8, sy_72), (9, sy_73), (6, sy_75)]
/-- MapItch$Asks.give -/
def sy_77 : aY := ([.inr 52, .inr 15, .inl (false, iMin, iMax, false), .inl (false, iMin, iMax, false), .inl (false, 10, 10, false)], [], [(some (false, iMin, iMax, false), [])], [(52, 1, 1), (53, 0, 16)], 4)
def sh_77 : List (Nat × List aH) := []
def sT_77 : List (Nat × aY) := [(51, sy_4), (17, sy_28), (8, sy_72), (9, sy_73), (6, sy_76)]
/-- MapItch$Asks.give -/
def sy_78 : aY := ([.inr 52, .inr 15, .inl (false, iMin, iMax, false), .inl (false, iMin, iMax, false), .inl (false, 9, 9, false)], [], [(some (false, iMin, iMax, false), [])], [(52, 1, 1), (53, 0, 16)], 5)
def sh_78 : List (Nat × List aH) := []
def sT_78 : List (Nat × aY) := [(51, sy_4), (17, sy_28), (8, sy_72), (9, sy_73), (6, sy_77)]
/-- MapItch$Asks.give -/
def sy_79 : aY := ([.inr 52, .inr 15, .inl (false, iMin, iMax, false), .inl (false, iMin, iMax, false), .inl (false, 8, 8, false)], [], [(some (false, iMin, iMax, false), [])], [(52, 1, 1), (53, 0, 16)], 6)
def sh_79 : List (Nat × List aH) := []
def sT_79 : List (Nat × aY) := [(51, sy_4), (17, sy_28), (8, sy_72), (9, sy_73), (6, sy_78)]
/-- MapItch$Asks.give -/
def sy_80 : aY := ([.inr 52, .inr 15, .inl (false, iMin, iMax, false), .inl (false, iMin, iMax, false), .inl (false, 7, 7, false)], [], [(some (false, iMin, iMax, false), [])], [(52, 1, 1), (53, 0, 16)], 7)
def sh_80 : List (Nat × List aH) := []
def sT_80 : List (Nat × aY) := [(51, sy_4), (17, sy_28), (8, sy_72), (9, sy_73), (6, sy_79)]
/-- MapItch$Asks.give -/
def sy_81 : aY := ([.inr 52, .inr 15, .inl (false, iMin, iMax, false), .inl (false, iMin, iMax, false), .inl (false, 6, 6, false)], [], [(some (false, iMin, iMax, false), [])], [(52, 1, 1), (53, 0, 16)], 8)
def sh_81 : List (Nat × List aH) := []
def sT_81 : List (Nat × aY) := [(51, sy_4), (17, sy_28), (8, sy_72), (9, sy_73), (6, sy_80)]
/-- MapItch$Asks.give -/
def sy_82 : aY := ([.inr 52, .inr 15, .inl (false, iMin, iMax, false), .inl (false, iMin, iMax, false), .inl (false, 5, 5, false)], [], [(some (false, iMin, iMax, false), [])], [(52, 1, 1), (53, 0, 16)], 9)
def sh_82 : List (Nat × List aH) := []
def sT_82 : List (Nat × aY) := [(51, sy_4), (17, sy_28), (8, sy_72), (9, sy_73), (6, sy_81)]
/-- MapItch$Asks.give -/
def sy_83 : aY := ([.inr 52, .inr 15, .inl (false, iMin, iMax, false), .inl (false, iMin, iMax, false), .inl (false, 4, 4, false)], [], [(some (false, iMin, iMax, false), [])], [(52, 1, 1), (53, 0, 16)], 10)
def sh_83 : List (Nat × List aH) := []
def sT_83 : List (Nat × aY) := [(51, sy_4), (17, sy_28), (8, sy_72), (9, sy_73), (6, sy_82)]
/-- MapItch$Asks.give -/
def sy_84 : aY := ([.inr 52, .inr 15, .inl (false, iMin, iMax, false), .inl (false, iMin, iMax, false), .inl (false, 3, 3, false)], [], [(some (false, iMin, iMax, false), [])], [(52, 1, 1), (53, 0, 16)], 11)
def sh_84 : List (Nat × List aH) := []
def sT_84 : List (Nat × aY) := [(51, sy_4), (17, sy_28), (8, sy_72), (9, sy_73), (6, sy_83)]
/-- MapItch$Asks.give -/
def sy_85 : aY := ([.inr 52, .inr 15, .inl (false, iMin, iMax, false), .inl (false, iMin, iMax, false), .inl (false, 2, 2, false)], [], [(some (false, iMin, iMax, false), [])], [(52, 1, 1), (53, 0, 16)], 12)
def sh_85 : List (Nat × List aH) := []
def sT_85 : List (Nat × aY) := [(51, sy_4), (17, sy_28), (8, sy_72), (9, sy_73), (6, sy_84)]
/-- MapItch$Asks.give -/
def sy_86 : aY := ([.inr 52, .inr 15, .inl (false, iMin, iMax, false), .inl (false, iMin, iMax, false), .inl (false, 1, 1, false)], [], [(some (false, iMin, iMax, false), [])], [(52, 1, 1), (53, 0, 16)], 13)
def sh_86 : List (Nat × List aH) := []
def sT_86 : List (Nat × aY) := [(51, sy_4), (17, sy_28), (8, sy_72), (9, sy_73), (6, sy_85)]
/-- MapItch$Asks.give -/
def sy_87 : aY := ([.inr 52, .inr 15, .inl (false, iMin, iMax, false), .inl (false, iMin, iMax, false), .inl (false, 0, 0, false)], [], [(some (false, iMin, iMax, false), [])], [(52, 1, 1), (53, 0, 16)], 14)
def sh_87 : List (Nat × List aH) := []
def sT_87 : List (Nat × aY) := [(51, sy_4), (17, sy_28), (8, sy_72), (9, sy_73), (6, sy_86)]
/-- MapItch$Asks.answer -/
def sy_88 : aY := ([.inr 52, .inr 15, .inl (false, iMin, iMax, false), .inl (false, iMin, iMax, false)], [], [(some (false, iMin, iMax, false), [])], [(52, 1, 1), (53, 0, 16)], 15)
def sh_88 : List (Nat × List aH) := []
def sT_88 : List (Nat × aY) := [(8, sy_72), (9, sy_73), (6, sy_87)]
/-- MapItch$Asks.left -/
def sy_89 : aY := ([.inr 52, .inl (false, iMin, iMax, false)], [], [(some (false, iMin, iMax, false), [])], [], 0)
def sh_89 : List (Nat × List aH) := []
def sT_89 : List (Nat × aY) := []
/-- MapItch.hear -/
def sy_90 : aY := ([.inr 0, .inl (false, iMin, iMax, false), .inl (false, iMin, iMax, false), .inl (false, iMin, iMax, false)], [], [(none, [])], [(57, 0, 4)], 3)
def sh_90 : List (Nat × List aH) := [(3, [([some (.inr 0), some (.inl (false, iMin, iMax, false)), some (.inl (false, iMin, iMax, false)), some (.inl (false, iMin, iMax, false)), some (.inl (false, 0, 4, false))], [], [(.inl 4, true)], 0)])]
def sT_90 : List (Nat × aY) := [(76, sy_49)]
/-- MapItch.row -/
def sy_91 : aY := ([.inr 0, .inl (false, iMin, iMax, false), .inl (false, iMin, iMax, false), .inl (false, iMin, iMax, false)], [], [(some (false, (-1000014), 40, false), [])], [(0, 11, 11), (3, 0, 40), (4, 0, 40), (5, 0, 40), (6, 0, 40), (7, 0, 40), (8, 0, 40), (9, 0, 40), (10, 0, 40), (11, 0, 8), (12, 0, 8)], 2)
def sh_91 : List (Nat × List aH) := []
def sT_91 : List (Nat × aY) := [(74, sy_47)]
/-- MapItch.set -/
def sy_92 : aY := ([.inr 0, .inl (false, iMin, iMax, false), .inl (false, iMin, iMax, false), .inl (false, iMin, iMax, false)], [], [(some (false, iMin, iMax, false), [])], [(0, 11, 11), (3, 0, 40), (4, 0, 40), (5, 0, 40), (6, 0, 40), (7, 0, 40), (8, 0, 40), (9, 0, 40), (10, 0, 40)], 3)
def sh_92 : List (Nat × List aH) := []
def sT_92 : List (Nat × aY) := [(77, sy_50)]
/-- MapItch.copy -/
def sy_93 : aY := ([.inr 0, .inl (false, iMin, iMax, false), .inl (false, iMin, iMax, false), .inl (false, iMin, iMax, false), .inl (false, iMin, iMax, false), .inl (false, iMin, iMax, false)], [], [(some (false, (-1000015), 40, false), [])], [(0, 11, 11), (3, 0, 40), (4, 0, 40), (5, 0, 40), (6, 0, 40), (7, 0, 40), (8, 0, 40), (9, 0, 40), (10, 0, 40)], 3)
def sh_93 : List (Nat × List aH) := []
def sT_93 : List (Nat × aY) := [(79, sy_51)]
/-- MapItch.drop -/
def sy_94 : aY := ([.inr 0, .inl (false, iMin, iMax, false)], [], [(some (false, (-1000011), 40, false), [])], [(0, 11, 11), (12, 0, 8)], 3)
def sh_94 : List (Nat × List aH) := []
def sT_94 : List (Nat × aY) := [(75, sy_48)]
/-- MapItch.feed -/
def sy_95 : aY := ([.inr 0, .inl (false, iMin, iMax, false)], [], [(some (false, (-1000003), 120, false), [])], [(13, 1, 1), (14, 0, 120)], 1)
def sh_95 : List (Nat × List aH) := []
def sT_95 : List (Nat × aY) := [(54, sy_53)]
/-- MapItch.county -/
def sy_96 : aY := ([.inr 0], [], [(some (false, iMin, iMax, false), [(13, 1, 0, 0)])], [(0, 10, 10), (13, 1, 2), (13, 2, 3), (13, 3, 3), (15, 0, 8), (16, 0, 3), (17, 0, 4), (18, 0, 4), (19, 0, 4), (20, 0, 4), (21, 0, 4), (22, 0, 4), (23, 0, 0), (23, 0, 6), (23, 1, 4), (23, 6, 8), (24, 0, 3), (25, 0, 4), (26, 0, 4), (27, 0, 4), (28, 0, 4), (29, 0, 4), (30, 0, 4), (48, 3, 4)], 6)
def sh_96 : List (Nat × List aH) := []
def sT_96 : List (Nat × aY) := [(11, sy_41), (55, sy_61), (0, sy_62)]
/-- MapItch.fault -/
def sy_97 : aY := ([.inr 0], [], [(some (false, iMin, iMax, false), [])], [], 0)
def sh_97 : List (Nat × List aH) := []
def sT_97 : List (Nat × aY) := []
/-- MapItch.undo -/
def sy_98 : aY := ([.inr 0], [], [(some (false, iMin, iMax, false), [])], [(15, 3, 5), (48, 3, 4)], 1)
def sh_98 : List (Nat × List aH) := []
def sT_98 : List (Nat × aY) := [(2, sy_64)]
/-- MapItch.stroke -/
def sy_99 : aY := ([.inr 0, .inl (false, iMin, iMax, false), .inl (false, iMin, iMax, false)], [], [(some (false, iMin, iMax, false), [])], [(15, 4, 4), (48, 3, 4), (49, 0, 24), (50, 0, 24), (51, 0, 24)], 3)
def sh_99 : List (Nat × List aH) := []
def sT_99 : List (Nat × aY) := [(48, sy_1), (51, sy_4), (27, sy_39), (1, sy_63)]
/-- MapItch.brook -/
def sy_100 : aY := ([.inr 0, .inl (false, iMin, iMax, false)], [], [(some (false, iMin, iMax, false), [])], [(15, 3, 3), (48, 3, 4), (49, 0, 24), (50, 0, 24), (51, 0, 24)], 2)
def sh_100 : List (Nat × List aH) := []
def sT_100 : List (Nat × aY) := [(48, sy_1), (50, sy_3), (1, sy_63)]
/-- MapItch.oblige -/
def sy_101 : aY := ([.inr 0, .inl (false, iMin, iMax, false)], [], [(some (false, iMin, iMax, false), [])], [(15, 3, 3), (48, 3, 4), (49, 0, 24), (50, 0, 24), (51, 0, 24)], 2)
def sh_101 : List (Nat × List aH) := []
def sT_101 : List (Nat × aY) := [(51, sy_4), (52, sy_5), (217, sy_9), (21, sy_20), (1, sy_63)]
/-- MapItch.years -/
def sy_102 : aY := ([.inr 0, .inl (false, iMin, iMax, false)], [], [(some (false, iMin, iMax, false), [])], [(15, 3, 3), (15, 5, 5), (48, 3, 4), (49, 0, 24), (50, 0, 24), (51, 0, 24)], 3)
def sh_102 : List (Nat × List aH) := [(47, [([some (.inr 0), some (.inl (false, 1, 24, false)), some (.inl (false, 0, 24, false))], [], [(.inl 2, true)], 0)])]
def sT_102 : List (Nat × aY) := [(51, sy_4), (28, sy_34), (1, sy_63)]
/-- MapItch.cell -/
def sy_103 : aY := ([.inr 0, .inl (false, iMin, iMax, false), .inl (false, iMin, iMax, false)], [], [(some (false, iMin, iMax, false), [])], [], 1)
def sh_103 : List (Nat × List aH) := []
def sT_103 : List (Nat × aY) := [(48, sy_1), (22, sy_30), (23, sy_31)]
/-- MapItch.surveyor -/
def sy_104 : aY := ([.inr 0, .inl (false, iMin, iMax, false), .inl (false, iMin, iMax, false)], [], [(some (false, iMin, iMax, false), [])], [], 2)
def sh_104 : List (Nat × List aH) := []
def sT_104 : List (Nat × aY) := [(51, sy_4), (17, sy_28)]
/-- MapItch.bits -/
def sy_105 : aY := ([.inr 0, .inl (false, iMin, iMax, false)], [], [(some (false, iMin, iMax, false), [])], [], 3)
def sh_105 : List (Nat × List aH) := []
def sT_105 : List (Nat × aY) := [(51, sy_4), (24, sy_32)]
/-- MapItch.strokes -/
def sy_106 : aY := ([.inr 0, .inl (false, iMin, iMax, false), .inl (false, iMin, iMax, false)], [], [(some (false, iMin, iMax, false), [])], [(54, 0, 0), (54, 0, 2), (54, 1, 2)], 6)
def sh_106 : List (Nat × List aH) := []
def sT_106 : List (Nat × aY) := [(43, sy_67)]
/-- MapItch.unfelt -/
def sy_107 : aY := ([.inr 0], [], [(some (false, iMin, iMax, false), [])], [], 2)
def sh_107 : List (Nat × List aH) := []
def sT_107 : List (Nat × aY) := [(51, sy_4)]
/-- MapItch.each -/
def sy_108 : aY := ([.inr 0, .inl (false, iMin, iMax, false), .inl (false, iMin, iMax, false)], [], [(some (false, iMin, iMax, false), [])], [(0, 11, 11), (57, 0, 4)], 4)
def sh_108 : List (Nat × List aH) := [(33, [([some (.inr 0), some (.inl (false, 0, 7, false)), some (.inl (false, 0, 40, false)), some (.inl (false, 0, 0, false)), some (.inl (false, iMin, iMax, false)), some (.inl (false, 0, 15, false))], [], [(.inl 5, true)], 0)])]
def sT_108 : List (Nat × aY) := [(19, sy_40), (118, sy_90)]
/-- MapItch.fit -/
def sy_109 : aY := ([.inr 0, .inl (false, iMin, iMax, false), .inl (false, iMin, iMax, false), .inl (false, iMin, iMax, false)], [], [(some (false, iMin, iMax, false), [])], [(0, 11, 11), (55, 1, 1), (55, 1, 2), (55, 2, 2), (56, 0, 15), (57, 0, 4)], 5)
def sh_109 : List (Nat × List aH) := []
def sT_109 : List (Nat × aY) := [(33, sy_69), (118, sy_90)]
/-- MapItch.scratch -/
def sy_110 : aY := ([.inr 0, .inl (false, iMin, iMax, false), .inl (false, iMin, iMax, false)], [], [(some (false, (-1000012), 14, false), [])], [(0, 11, 11), (55, 1, 1), (55, 1, 2), (55, 2, 2), (56, 0, 15), (57, 0, 4)], 5)
def sh_110 : List (Nat × List aH) := []
def sT_110 : List (Nat × aY) := [(33, sy_69), (36, sy_70), (118, sy_90)]
/-- MapItch.men -/
def sy_111 : aY := ([.inr 0, .inl (false, iMin, iMax, false)], [], [(some (false, iMin, iMax, false), [])], [], 2)
def sh_111 : List (Nat × List aH) := []
def sT_111 : List (Nat × aY) := [(217, sy_9), (29, sy_36)]
/-- MapItch.sign -/
def sy_112 : aY := ([.inr 0, .inl (false, iMin, iMax, false)], [], [(some (false, (-1000002), 2147483646, false), [])], [], 4)
def sh_112 : List (Nat × List aH) := []
def sT_112 : List (Nat × aY) := [(31, sy_38)]
/-- MapItch.settled -/
def sy_113 : aY := ([.inr 0, .inl (false, iMin, iMax, false)], [], [(some (false, iMin, iMax, false), [])], [], 3)
def sh_113 : List (Nat × List aH) := [(36, [([some (.inr 0), some (.inl (false, 0, 1, false)), some (.inl (false, iMin, iMax, false)), some (.inl (false, iMin, iMax, false)), some (.inl (false, 0, 40, false))], [], [(.inl 4, true)], 0)])]
def sT_113 : List (Nat × aY) := [(51, sy_4), (26, sy_33), (28, sy_34)]
/-- MapItch.drawnSo -/
def sy_114 : aY := ([.inr 0, .inl (false, iMin, iMax, false), .inl (false, iMin, iMax, false), .inl (false, iMin, iMax, false), .inl (false, iMin, iMax, false)], [], [(some (true, iMin, iMax, false), [])], [], 2)
def sh_114 : List (Nat × List aH) := []
def sT_114 : List (Nat × aY) := [(48, sy_1), (218, sy_14), (38, sy_16), (40, sy_17), (41, sy_18)]
/-- MapItch.quarrel -/
def sy_115 : aY := ([.inr 0, .inl (false, iMin, iMax, false), .inl (false, iMin, iMax, false), .inl (false, iMin, iMax, false)], [], [(some (false, iMin, iMax, false), [])], [(0, 11, 11), (57, 0, 4)], 4)
def sh_115 : List (Nat × List aH) := [(44, [([some (.inr 0), some (.inl (false, 0, 7, false)), some (.inl (false, 0, 36, false)), some (.inl (false, 0, 1, false)), some (.inl (false, 0, 0, false)), some (.inl (false, 0, 4, false))], [], [(.inl 5, true)], 0)])]
def sT_115 : List (Nat × aY) := [(42, sy_19), (118, sy_90)]
/-- MapItch.drawn -/
def sy_116 : aY := ([.inr 0, .inl (false, iMin, iMax, false), .inl (false, iMin, iMax, false), .inl (false, iMin, iMax, false)], [], [(some (false, iMin, iMax, false), [])], [], 3)
def sh_116 : List (Nat × List aH) := [(64, [([some (.inr 0), some (.inl (false, 0, 60, false)), some (.inl (false, 1, 999999, false)), some (.inl (false, 0, 1, false)), some (.inl (true, 0, 2147483646, false)), none, some (.inl (false, iMin, iMax, false)), some (.inl (false, iMin, iMax, false)), some (.inl (false, 0, 60, false))], [], [(.inl 8, true)], 0)])]
def sT_116 : List (Nat × aY) := [(50, sy_3), (51, sy_4), (18, sy_29), (26, sy_33), (28, sy_34)]
/-- MapItch.image -/
def sy_117 : aY := ([.inr 0, .inl (false, iMin, iMax, false)], [], [(some (false, (-1000002), 1, false), [])], [(31, 0, 8), (32, 0, 3), (33, 0, 4), (34, 0, 4), (35, 0, 4), (36, 0, 4), (37, 0, 4), (38, 0, 4), (39, 0, 8), (40, 0, 3), (41, 0, 4), (42, 0, 4), (43, 0, 4), (44, 0, 4), (45, 0, 4), (46, 0, 4)], 1)
def sh_117 : List (Nat × List aH) := []
def sT_117 : List (Nat × aY) := [(11, sy_42), (11, sy_43)]
/-- MapItch.restore -/
def sy_118 : aY := ([.inr 0, .inl (false, iMin, iMax, false)], [], [(some (false, (-1000002), 1, false), [])], [(15, 0, 8), (16, 0, 3), (17, 0, 4), (18, 0, 4), (19, 0, 4), (20, 0, 4), (21, 0, 4), (22, 0, 4), (48, 3, 4)], 1)
def sh_118 : List (Nat × List aH) := []
def sT_118 : List (Nat × aY) := [(11, sy_44), (11, sy_45), (0, sy_62)]
/-- MapItch.kind -/
def sy_119 : aY := ([.inr 0, .inl (false, iMin, iMax, false)], [], [(some (false, iMin, iMax, false), [])], [], 1)
def sh_119 : List (Nat × List aH) := []
def sT_119 : List (Nat × aY) := []
/-- MapItch.as -/
def sy_120 : aY := ([.inr 0, .inl (false, iMin, iMax, false), .inl (false, iMin, iMax, false)], [], [(some (false, (-1000013), 3, false), [])], [(0, 11, 11)], 1)
def sh_120 : List (Nat × List aH) := []
def sT_120 : List (Nat × aY) := [(3, sy_71)]
/-- MapItch.ask -/
def sy_121 : aY := ([.inr 0, .inl (false, iMin, iMax, false), .inl (false, iMin, iMax, false)], [], [(some (false, iMin, iMax, false), [])], [(52, 1, 1), (53, 0, 16)], 16)
def sh_121 : List (Nat × List aH) := []
def sT_121 : List (Nat × aY) := [(4, sy_88)]
/-- MapItch.trace -/
def sy_122 : aY := ([.inr 0, .inl (false, iMin, iMax, false)], [], [(some (false, iMin, iMax, false), [])], [], 1)
def sh_122 : List (Nat × List aH) := []
def sT_122 : List (Nat × aY) := [(5, sy_89)]
/-- MapItch.count -/
def sy_123 : aY := ([.inr 0, .inl (false, iMin, iMax, false)], [], [(some (false, iMin, iMax, false), [])], [], 3)
def sh_123 : List (Nat × List aH) := []
def sT_123 : List (Nat × aY) := [(51, sy_4), (217, sy_9), (73, sy_46)]
/-- MapItch.status -/
def sy_124 : aY := ([.inr 0], [], [(some (false, iMin, iMax, false), [])], [], 0)
def sh_124 : List (Nat × List aH) := []
def sT_124 : List (Nat × aY) := []
/-- MapItchModel.bitsOf -/
def sy_125 : aY := ([.inl (false, iMin, iMax, false)], [], [(some (false, iMin, iMax, false), [])], [], 0)
/-- MapItchModel.divisor -/
def sy_126 : aY := ([.inl (true, lMin, lMax, false), .inl (true, lMin, lMax, true)], [], [(some (true, lMin, lMax, true), [])], [], 0)
/-- MapItchModel.copyTo -/
def sy_127 : aY := ([.inr 58, .inr 64, .inr 67], [], [(none, [])], [(67, 0, 62)], 0)
def sh_127 : List (Nat × List aH) := [(2, [([some (.inr 58), some (.inr 64), some (.inr 67), some (.inl (false, 0, 62, false))], [], [(.inl 3, true)], 0)])]
def sT_127 : List (Nat × aY) := []
/-- MapItchModel.copyTo -/
def sy_128 : aY := ([.inr 58, .inr 67, .inr 68], [], [(none, [])], [(68, 0, 62)], 0)
def sh_128 : List (Nat × List aH) := [(2, [([some (.inr 58), some (.inr 67), some (.inr 68), some (.inl (false, 0, 62, false))], [], [(.inl 3, true)], 0)])]
def sT_128 : List (Nat × aY) := []
/-- MapItchModel.copyTo -/
def sy_129 : aY := ([.inr 58, .inr 68, .inr 67], [], [(none, [])], [(67, 0, 62)], 0)
def sh_129 : List (Nat × List aH) := [(2, [([some (.inr 58), some (.inr 68), some (.inr 67), some (.inl (false, 0, 62, false))], [], [(.inl 3, true)], 0)])]
def sT_129 : List (Nat × aY) := []
/-- MapItchModel.remember -/
def sy_130 : aY := ([.inr 58], [], [(none, [])], [(58, 12, 12), (65, 0, 1488)], 0)
def sh_130 : List (Nat × List aH) := [(11, [([some (.inr 58), some (.inl (false, 0, 1426, false))], [(58, 12, 24, 24)], [(.inl 1, true)], 0)]), (51, [([some (.inr 58), some (.inl (false, 0, 62, false))], [(58, 12, 0, 23)], [(.inl 1, true)], 1)])]
def sT_130 : List (Nat × aY) := []
/-- MapItchModel.kindOf -/
def sy_131 : aY := ([.inl (false, (-1), (-1), false)], [], [(some (false, (-1), (-1), false), [])], [], 0)
def sh_131 : List (Nat × List aH) := []
def sT_131 : List (Nat × aY) := []
/-- MapItchModel.kindOf -/
def sy_132 : aY := ([.inl (false, iMin, iMax, false)], [], [(some (false, (-1), 5, false), [])], [], 0)
def sh_132 : List (Nat × List aH) := []
def sT_132 : List (Nat × aY) := []
/-- MapItchModel.takesNumber -/
def sy_133 : aY := ([.inr 58, .inl (false, 0, 0, false), .inl (false, 14, 14, false)], [], [(some (false, 0, 0, false), []), (some (false, 1, 1, false), [(58, 8, 0, 14)])], [(58, 6, 8)], 2)
def sh_133 : List (Nat × List aH) := []
def sT_133 : List (Nat × aY) := []
/-- MapItchModel.takesNumber -/
def sy_134 : aY := ([.inr 58, .inl (false, 0, 0, false), .inl (false, 3, 3, false)], [], [(some (false, 0, 0, false), []), (some (false, 1, 1, false), [(58, 8, 0, 3)])], [(58, 6, 8)], 2)
def sh_134 : List (Nat × List aH) := []
def sT_134 : List (Nat × aY) := []
/-- MapItchModel.takesNumber -/
def sy_135 : aY := ([.inr 58, .inl (false, 0, 0, false), .inl (false, 2, 2, false)], [], [(some (false, 0, 0, false), []), (some (false, 1, 1, false), [(58, 8, 0, 2)])], [(58, 6, 8)], 2)
def sh_135 : List (Nat × List aH) := []
def sT_135 : List (Nat × aY) := []
/-- MapItchModel.takesNumber -/
def sy_136 : aY := ([.inr 58, .inl (false, 1, 1, false), .inl (false, 5, 5, false)], [], [(some (false, 0, 0, false), []), (some (false, 1, 1, false), [(58, 8, 1, 5)])], [(58, 6, 8)], 2)
def sh_136 : List (Nat × List aH) := []
def sT_136 : List (Nat × aY) := []
/-- MapItchModel.takesCells -/
def sy_137 : aY := ([.inr 58, .inl (false, 109, 109, false), .inl (false, 97, 97, false), .inl (false, 4, 4, false), .inl (false, 0, 0, false)], [], [(some (false, 0, 1, false), [])], [(58, 6, 7), (63, 0, 62)], 2)
def sh_137 : List (Nat × List aH) := [(13, [([some (.inr 58), some (.inl (false, 109, 109, false)), some (.inl (false, 97, 97, false)), some (.inl (false, 4, 4, false)), some (.inl (false, 0, 0, false)), some (.inl (false, 0, 15, false))], [], [(.inl 5, true)], 0)])]
def sT_137 : List (Nat × aY) := []
/-- MapItchModel.takesCells -/
def sy_138 : aY := ([.inr 58, .inl (false, 110, 110, false), .inl (false, 97, 97, false), .inl (false, 4, 4, false), .inl (false, 15, 15, false)], [], [(some (false, 0, 1, false), [])], [(58, 6, 7), (63, 0, 62)], 2)
def sh_138 : List (Nat × List aH) := [(13, [([some (.inr 58), some (.inl (false, 110, 110, false)), some (.inl (false, 97, 97, false)), some (.inl (false, 4, 4, false)), some (.inl (false, 15, 15, false)), some (.inl (false, 0, 15, false))], [], [(.inl 5, true)], 0)])]
def sT_138 : List (Nat × aY) := []
/-- MapItchModel.takesCells -/
def sy_139 : aY := ([.inr 58, .inl (false, 99, 99, false), .inl (false, 101, 101, false), .inl (false, 3, 3, false), .inl (false, 30, 30, false)], [], [(some (false, 0, 1, false), [])], [(58, 6, 7), (63, 0, 62)], 2)
def sh_139 : List (Nat × List aH) := [(13, [([some (.inr 58), some (.inl (false, 99, 99, false)), some (.inl (false, 101, 101, false)), some (.inl (false, 3, 3, false)), some (.inl (false, 30, 30, false)), some (.inl (false, 0, 15, false))], [], [(.inl 5, true)], 0)])]
def sT_139 : List (Nat × aY) := []
/-- MapItchModel.takesLaw -/
def sy_140 : aY := ([.inr 58], [], [(some (false, 0, 1, false), [])], [(58, 6, 6), (58, 6, 8), (58, 7, 7), (63, 0, 62)], 3)
def sh_140 : List (Nat × List aH) := []
def sT_140 : List (Nat × aY) := [(140, sy_133), (140, sy_134)]
/-- MapItchModel.takesAll -/
def sy_141 : aY := ([.inr 58], [], [(some (false, 0, 1, false), [])], [(58, 6, 6), (58, 6, 7), (58, 6, 8), (58, 7, 7), (63, 0, 62)], 4)
def sh_141 : List (Nat × List aH) := [(50, [([some (.inr 58)], [(63, 57, 0, 4)], [(.inr (63, 57), true)], 0)])]
def sT_141 : List (Nat × aY) := [(143, sy_132), (140, sy_135), (140, sy_136), (142, sy_137), (142, sy_138), (142, sy_139), (141, sy_140)]
/-- MapItchModel.layFelt -/
def sy_142 : aY := ([.inr 58], [], [(none, [])], [(58, 13, 13), (66, 0, 4)], 2)
def sh_142 : List (Nat × List aH) := [(7, [([some (.inr 58), some (.inl (false, 0, 15, false)), none, none], [], [(.inl 1, true)], 0)]), (15, [([some (.inr 58), some (.inl (false, 0, 14, false)), some (.inl (false, 0, 15, false)), none], [], [(.inl 1, true), (.inl 2, true)], 0)]), (80, [([some (.inr 58), some (.inl (false, 0, 4, false)), none, none], [], [(.inl 1, true)], 1)]), (100, [([some (.inr 58), some (.inl (false, 0, 3, false)), some (.inl (false, 0, 15, false)), none], [], [(.inl 1, true), (.inl 2, true)], 1)]), (141, [([some (.inr 58), some (.inl (false, 0, 3, false)), some (.inl (false, 0, 14, false)), some (.inl (false, 0, 15, false))], [], [(.inl 1, true), (.inl 2, true), (.inl 3, true)], 1)])]
def sT_142 : List (Nat × aY) := []
/-- MapItchModel.wrongIn -/
def sy_143 : aY := ([.inr 58, .inr 64], [], [(some (false, iMin, iMax, false), [])], [], 0)
def sh_143 : List (Nat × List aH) := [(4, [([some (.inr 58), some (.inr 64), some (.inl (false, iMin, iMax, false)), some (.inl (false, 0, 15, false))], [], [(.inl 3, true)], 0)])]
def sT_143 : List (Nat × aY) := []
/-- MapItchModel.wrongIn -/
def sy_144 : aY := ([.inr 58, .inr 67], [], [(some (false, iMin, iMax, false), [])], [], 0)
def sh_144 : List (Nat × List aH) := [(4, [([some (.inr 58), some (.inr 67), some (.inl (false, iMin, iMax, false)), some (.inl (false, 0, 15, false))], [], [(.inl 3, true)], 0)])]
def sT_144 : List (Nat × aY) := []
/-- MapItchModel.draws -/
def sy_145 : aY := ([.inr 58, .inr 64, .inl (false, 0, 14, false), .inl (false, 0, 3, false)], [], [(none, [])], [(64, 0, 62)], 0)
def sh_145 : List (Nat × List aH) := []
def sT_145 : List (Nat × aY) := []
/-- MapItchModel.draws -/
def sy_146 : aY := ([.inr 58, .inr 67, .inl (false, 0, 14, false), .inl (false, 0, 3, false)], [], [(none, [])], [(67, 0, 62)], 0)
def sh_146 : List (Nat × List aH) := []
def sT_146 : List (Nat × aY) := []
/-- MapItchModel.flows -/
def sy_147 : aY := ([.inr 64, .inl (false, 0, 14, false)], [], [(none, [])], [(64, 0, 62)], 0)
def sh_147 : List (Nat × List aH) := []
def sT_147 : List (Nat × aY) := []
/-- MapItchModel.obliges -/
def sy_148 : aY := ([.inr 64, .inl (false, iMin, iMax, false), .inl (false, iMin, iMax, false)], [], [(some (false, 0, iMax, false), [])], [(64, 0, 62)], 0)
def sh_148 : List (Nat × List aH) := [(5, [([some (.inr 64), some (.inl (false, iMin, iMax, false)), some (.inl (false, iMin, iMax, false)), some (.inl (false, 0, iMax, false)), some (.inl (false, 0, 15, false))], [], [(.inl 4, true)], 0)])]
def sT_148 : List (Nat × aY) := []
/-- MapItchModel.passes -/
def sy_149 : aY := ([.inr 64], [], [(none, [])], [(64, 0, 62)], 1)
def sh_149 : List (Nat × List aH) := [(2, [([some (.inr 64), some (.inl (false, 0, 4, false))], [], [(.inl 1, true)], 0)])]
def sT_149 : List (Nat × aY) := [(171, sy_148)]
/-- MapItchModel.flows -/
def sy_150 : aY := ([.inr 67, .inl (false, 0, 14, false)], [], [(none, [])], [(67, 0, 62)], 0)
def sh_150 : List (Nat × List aH) := []
def sT_150 : List (Nat × aY) := []
/-- MapItchModel.obliges -/
def sy_151 : aY := ([.inr 67, .inl (false, iMin, iMax, false), .inl (false, iMin, iMax, false)], [], [(some (false, 0, iMax, false), [])], [(67, 0, 62)], 0)
def sh_151 : List (Nat × List aH) := [(5, [([some (.inr 67), some (.inl (false, iMin, iMax, false)), some (.inl (false, iMin, iMax, false)), some (.inl (false, 0, iMax, false)), some (.inl (false, 0, 15, false))], [], [(.inl 4, true)], 0)])]
def sT_151 : List (Nat × aY) := []
/-- MapItchModel.passes -/
def sy_152 : aY := ([.inr 67], [], [(none, [])], [(67, 0, 62)], 1)
def sh_152 : List (Nat × List aH) := [(2, [([some (.inr 67), some (.inl (false, 0, 4, false))], [], [(.inl 1, true)], 0)])]
def sT_152 : List (Nat × aY) := [(171, sy_151)]
/-- MapItchModel.itchOf -/
def sy_153 : aY := ([.inr 58, .inl (false, 0, 3, false), .inl (false, iMin, iMax, false)], [], [(some (false, iMin, iMax, false), [])], [], 2)
def sh_153 : List (Nat × List aH) := []
def sT_153 : List (Nat × aY) := []
/-- MapItchModel.itchBy -/
def sy_154 : aY := ([.inr 58, .inl (false, 0, 3, false), .inl (false, iMin, iMax, false)], [], [(some (false, iMin, iMax, false), [])], [], 3)
def sh_154 : List (Nat × List aH) := [(5, [([some (.inr 58), some (.inl (false, 0, 3, false)), some (.inl (false, iMin, iMax, false)), some (.inl (false, iMin, iMax, false)), some (.inl (false, 0, 15, false))], [], [(.inl 4, true)], 0)])]
def sT_154 : List (Nat × aY) := [(163, sy_153)]
/-- MapItchModel.itch -/
def sy_155 : aY := ([.inr 58, .inl (false, 0, 3, false)], [], [(some (false, iMin, iMax, false), [])], [], 4)
def sh_155 : List (Nat × List aH) := []
def sT_155 : List (Nat × aY) := [(156, sy_143), (164, sy_154)]
/-- MapItchModel.allItch -/
def sy_156 : aY := ([.inr 58, .inl (false, iMin, iMax, false)], [], [(some (false, iMin, iMax, false), [])], [], 4)
def sh_156 : List (Nat × List aH) := [(4, [([some (.inr 58), some (.inl (false, iMin, iMax, false)), some (.inl (false, iMin, iMax, false)), some (.inl (false, 0, 4, false))], [], [(.inl 3, true)], 0)])]
def sT_156 : List (Nat × aY) := [(164, sy_154)]
/-- MapItchModel.atRest -/
def sy_157 : aY := ([.inr 58, .inl (false, iMin, iMax, false)], [], [(some (false, iMin, iMax, false), [])], [], 4)
def sh_157 : List (Nat × List aH) := [(4, [([some (.inr 58), some (.inl (false, iMin, iMax, false)), some (.inl (false, iMin, iMax, false)), some (.inl (false, 0, 4, false))], [], [(.inl 3, true)], 0)])]
def sT_157 : List (Nat × aY) := [(164, sy_154)]
/-- MapItchModel.isDone -/
def sy_158 : aY := ([.inr 58, .inl (false, iMin, iMax, false)], [], [(some (false, 0, 1, false), [])], [], 5)
def sh_158 : List (Nat × List aH) := []
def sT_158 : List (Nat × aY) := [(156, sy_144), (166, sy_156)]
/-- MapItchModel.lays -/
def sy_159 : aY := ([.inr 58, .inl (false, 0, 59, false), .inr 64], [], [(some (false, 0, 1, false), [])], [(67, 0, 62)], 1)
def sh_159 : List (Nat × List aH) := []
def sT_159 : List (Nat × aY) := [(179, sy_127), (167, sy_146)]
/-- MapItchModel.lays -/
def sy_160 : aY := ([.inr 58, .inl (false, 0, 59, false), .inr 68], [], [(some (false, 0, 1, false), [])], [(67, 0, 62)], 1)
def sh_160 : List (Nat × List aH) := []
def sT_160 : List (Nat × aY) := [(179, sy_129), (167, sy_146)]
/-- MapItchModel.fewest -/
def sy_161 : aY := ([.inr 58, .inl (false, iMin, iMax, false)], [], [(some (false, 0, 3, false), [])], [(67, 0, 62), (68, 0, 62), (69, 0, 2)], 6)
def sh_161 : List (Nat × List aH) := [(24, [([some (.inr 58), some (.inl (false, iMin, iMax, false)), some (.inl (false, 0, 60, false)), none], [], [(.inl 2, true)], 0)]), (67, [([some (.inr 58), some (.inl (false, iMin, iMax, false)), some (.inl (false, 0, 62, false)), none], [], [(.inl 2, true)], 1)]), (99, [([some (.inr 58), some (.inl (false, iMin, iMax, false)), some (.inl (false, 0, 60, false)), some (.inl (false, 0, 60, false))], [], [(.inl 2, true), (.inl 3, true)], 1)])]
def sT_161 : List (Nat × aY) := [(179, sy_127), (179, sy_128), (180, sy_158), (182, sy_159), (182, sy_160)]
/-- MapItchModel.isOf -/
def sy_162 : aY := ([.inl (false, iMin, iMax, false), .inl (false, iMin, iMax, false)], [], [(some (false, 0, 1, false), [])], [], 0)
def sh_162 : List (Nat × List aH) := []
def sT_162 : List (Nat × aY) := []
/-- MapItchModel.greater -/
def sy_163 : aY := ([.inl (false, iMin, iMax, false), .inl (false, iMin, iMax, false)], [], [(some (false, iMin, iMax, false), [])], [], 0)
def sh_163 : List (Nat × List aH) := []
def sT_163 : List (Nat × aY) := []
/-- MapItchModel.lesser -/
def sy_164 : aY := ([.inl (false, iMin, iMax, false), .inl (false, iMin, iMax, false)], [], [(some (false, iMin, iMax, false), [])], [], 0)
def sh_164 : List (Nat × List aH) := []
def sT_164 : List (Nat × aY) := []
/-- MapItchModel.plainMark -/
def sy_165 : aY := ([.inr 58, .inl (false, 0, 3, false)], [], [(some (false, iMin, iMax, false), [])], [(58, 25, 25), (73, 0, 16)], 3)
def sh_165 : List (Nat × List aH) := []
def sT_165 : List (Nat × aY) := []
/-- MapItchModel.plainSize -/
def sy_166 : aY := ([.inr 58, .inl (false, 0, 3, false)], [], [(some (false, iMin, iMax, false), [])], [(58, 25, 25), (73, 0, 16)], 6)
def sh_166 : List (Nat × List aH) := []
def sT_166 : List (Nat × aY) := [(165, sy_155), (209, sy_165)]
/-- MapItchModel.clerkSize -/
def sy_167 : aY := ([.inr 58, .inl (false, 0, 3, false)], [], [(some (false, iMin, iMax, false), [])], [(58, 25, 25), (73, 0, 16)], 6)
def sh_167 : List (Nat × List aH) := []
def sT_167 : List (Nat × aY) := [(165, sy_155)]
/-- MapItchModel.clerkMark -/
def sy_168 : aY := ([.inr 58, .inl (false, 0, 3, false)], [], [(some (false, iMin, iMax, false), [])], [(58, 25, 25), (73, 0, 16)], 7)
def sh_168 : List (Nat × List aH) := []
def sT_168 : List (Nat × aY) := [(211, sy_167)]
/-- MapItchModel.makes -/
def sy_169 : aY := ([.inr 58, .inl (false, iMin, iMax, false)], [(58, 18, 0, 320), (64, 57, 0, 0)], [(some (false, 1, 1, false), [])], [], 0)
def sh_169 : List (Nat × List aH) := [(4, [([some (.inr 58), some (.inl (false, iMin, iMax, false)), some (.inl (false, 1, 1, false)), some (.inl (false, 0, 0, false))], [(58, 18, 0, 320), (64, 57, 0, 0)], [(.inl 3, true)], 0)])]
def sT_169 : List (Nat × aY) := []
/-- MapItchModel.layFits -/
def sy_170 : aY := ([.inr 58], [(58, 18, 0, 320), (64, 57, 0, 0)], [(none, [])], [(58, 19, 20), (70, 0, 15)], 1)
def sh_170 : List (Nat × List aH) := [(13, [([some (.inr 58), some (.inl (false, 0, 15, false)), none], [(58, 18, 0, 320), (64, 57, 0, 0)], [(.inl 1, true)], 0)]), (34, [([some (.inr 58), some (.inl (false, 0, 32768, false)), none], [(58, 18, 0, 320), (64, 57, 0, 0)], [(.inl 1, true)], 1)]), (103, [([some (.inr 58), some (.inl (false, 0, 32767, false)), some (.inl (false, 0, 15, false))], [(58, 18, 0, 320), (64, 57, 0, 0)], [(.inl 1, true), (.inl 2, true)], 1)])]
def sT_170 : List (Nat × aY) := [(123, sy_125), (185, sy_169)]
/-- MapItchModel.makes -/
def sy_171 : aY := ([.inr 58, .inl (false, iMin, iMax, false)], [(58, 18, 0, 319), (64, 57, 1, 1)], [(some (false, 0, 1, false), [])], [], 4)
def sh_171 : List (Nat × List aH) := [(4, [([some (.inr 58), some (.inl (false, iMin, iMax, false)), some (.inl (false, 0, 1, false)), some (.inl (false, 0, 1, false))], [(58, 18, 0, 319), (64, 57, 1, 1)], [(.inl 3, true)], 0)])]
def sT_171 : List (Nat × aY) := [(164, sy_154)]
/-- MapItchModel.layFits -/
def sy_172 : aY := ([.inr 58], [(58, 18, 0, 319), (64, 57, 1, 1)], [(none, [])], [(58, 19, 20), (70, 0, 15)], 5)
def sh_172 : List (Nat × List aH) := [(13, [([some (.inr 58), some (.inl (false, 0, 15, false)), none], [(58, 18, 0, 319), (64, 57, 1, 1)], [(.inl 1, true)], 0)]), (34, [([some (.inr 58), some (.inl (false, 0, 32768, false)), none], [(58, 18, 0, 319), (64, 57, 1, 1)], [(.inl 1, true)], 1)]), (103, [([some (.inr 58), some (.inl (false, 0, 32767, false)), some (.inl (false, 0, 15, false))], [(58, 18, 0, 319), (64, 57, 1, 1)], [(.inl 1, true), (.inl 2, true)], 1)])]
def sT_172 : List (Nat × aY) := [(123, sy_125), (185, sy_171)]
/-- MapItchModel.makes -/
def sy_173 : aY := ([.inr 58, .inl (false, iMin, iMax, false)], [(58, 18, 0, 318), (64, 57, 2, 2)], [(some (false, 0, 1, false), [])], [], 4)
def sh_173 : List (Nat × List aH) := [(4, [([some (.inr 58), some (.inl (false, iMin, iMax, false)), some (.inl (false, 0, 1, false)), some (.inl (false, 0, 3, false))], [(58, 18, 0, 318), (64, 57, 2, 2)], [(.inl 3, true)], 0)])]
def sT_173 : List (Nat × aY) := [(164, sy_154)]
/-- MapItchModel.layFits -/
def sy_174 : aY := ([.inr 58], [(58, 18, 0, 318), (64, 57, 2, 2)], [(none, [])], [(58, 19, 20), (70, 0, 15)], 5)
def sh_174 : List (Nat × List aH) := [(13, [([some (.inr 58), some (.inl (false, 0, 15, false)), none], [(58, 18, 0, 318), (64, 57, 2, 2)], [(.inl 1, true)], 0)]), (34, [([some (.inr 58), some (.inl (false, 0, 32768, false)), none], [(58, 18, 0, 318), (64, 57, 2, 2)], [(.inl 1, true)], 1)]), (103, [([some (.inr 58), some (.inl (false, 0, 32767, false)), some (.inl (false, 0, 15, false))], [(58, 18, 0, 318), (64, 57, 2, 2)], [(.inl 1, true), (.inl 2, true)], 1)])]
def sT_174 : List (Nat × aY) := [(123, sy_125), (185, sy_173)]
/-- MapItchModel.makes -/
def sy_175 : aY := ([.inr 58, .inl (false, iMin, iMax, false)], [(58, 18, 0, 317), (64, 57, 3, 3)], [(some (false, 0, 1, false), [])], [], 4)
def sh_175 : List (Nat × List aH) := [(4, [([some (.inr 58), some (.inl (false, iMin, iMax, false)), some (.inl (false, 0, 1, false)), some (.inl (false, 0, 3, false))], [(58, 18, 0, 317), (64, 57, 3, 3)], [(.inl 3, true)], 0)])]
def sT_175 : List (Nat × aY) := [(164, sy_154)]
/-- MapItchModel.layFits -/
def sy_176 : aY := ([.inr 58], [(58, 18, 0, 317), (64, 57, 3, 3)], [(none, [])], [(58, 19, 20), (70, 0, 15)], 5)
def sh_176 : List (Nat × List aH) := [(13, [([some (.inr 58), some (.inl (false, 0, 15, false)), none], [(58, 18, 0, 317), (64, 57, 3, 3)], [(.inl 1, true)], 0)]), (34, [([some (.inr 58), some (.inl (false, 0, 32768, false)), none], [(58, 18, 0, 317), (64, 57, 3, 3)], [(.inl 1, true)], 1)]), (103, [([some (.inr 58), some (.inl (false, 0, 32767, false)), some (.inl (false, 0, 15, false))], [(58, 18, 0, 317), (64, 57, 3, 3)], [(.inl 1, true), (.inl 2, true)], 1)])]
def sT_176 : List (Nat × aY) := [(123, sy_125), (185, sy_175)]
/-- MapItchModel.makes -/
def sy_177 : aY := ([.inr 58, .inl (false, iMin, iMax, false)], [(58, 18, 0, 316), (64, 57, 4, 4)], [(some (false, 0, 1, false), [])], [], 4)
def sh_177 : List (Nat × List aH) := [(4, [([some (.inr 58), some (.inl (false, iMin, iMax, false)), some (.inl (false, 0, 1, false)), some (.inl (false, 0, 4, false))], [(58, 18, 0, 316), (64, 57, 4, 4)], [(.inl 3, true)], 0)])]
def sT_177 : List (Nat × aY) := [(164, sy_154)]
/-- MapItchModel.layFits -/
def sy_178 : aY := ([.inr 58], [(58, 18, 0, 316), (64, 57, 4, 4)], [(none, [])], [(58, 19, 20), (70, 0, 15)], 5)
def sh_178 : List (Nat × List aH) := [(13, [([some (.inr 58), some (.inl (false, 0, 15, false)), none], [(58, 18, 0, 316), (64, 57, 4, 4)], [(.inl 1, true)], 0)]), (34, [([some (.inr 58), some (.inl (false, 0, 32768, false)), none], [(58, 18, 0, 316), (64, 57, 4, 4)], [(.inl 1, true)], 1)]), (103, [([some (.inr 58), some (.inl (false, 0, 32767, false)), some (.inl (false, 0, 15, false))], [(58, 18, 0, 316), (64, 57, 4, 4)], [(.inl 1, true), (.inl 2, true)], 1)])]
def sT_178 : List (Nat × aY) := [(123, sy_125), (185, sy_177)]
/-- MapItchModel.row -/
def sy_179 : aY := ([.inr 58, .inl (false, iMin, iMax, false), .inl (false, iMin, iMax, false), .inl (false, iMin, iMax, false)], [], [(some (false, (-1000014), 40, false), [])], [(58, 3, 3), (59, 0, 8), (60, 0, 8), (61, 0, 320)], 2)
def sh_179 : List (Nat × List aH) := [(52, [([some (.inr 58), some (.inl (false, 0, 7, false)), some (.inl (false, 0, 2, false)), some (.inl (false, 0, 40, false)), some (.inl (false, 0, 40, false))], [], [(.inl 4, true)], 0)])]
def sT_179 : List (Nat × aY) := []
/-- MapItchModel.set -/
def sy_180 : aY := ([.inr 58, .inl (false, iMin, iMax, false), .inl (false, iMin, iMax, false), .inl (false, iMin, iMax, false)], [], [(some (false, iMin, iMax, false), [])], [(58, 3, 3), (61, 0, 320)], 2)
def sh_180 : List (Nat × List aH) := []
def sT_180 : List (Nat × aY) := []
/-- MapItchModel.copy -/
def sy_181 : aY := ([.inr 58, .inl (false, iMin, iMax, false), .inl (false, iMin, iMax, false), .inl (false, iMin, iMax, false), .inl (false, iMin, iMax, false), .inl (false, iMin, iMax, false)], [], [(some (false, iMin, iMax, false), [])], [(58, 3, 3), (61, 0, 320)], 2)
/-- MapItchModel.drop -/
def sy_182 : aY := ([.inr 58, .inl (false, iMin, iMax, false)], [], [(some (false, (-1000011), 40, false), [])], [(58, 3, 3), (59, 0, 8)], 2)
def sh_182 : List (Nat × List aH) := []
def sT_182 : List (Nat × aY) := []
/-- MapItchModel.feed -/
def sy_183 : aY := ([.inr 58, .inl (false, iMin, iMax, false)], [], [(some (false, (-1000003), 120, false), [])], [(58, 5, 5), (62, 0, 120)], 1)
def sh_183 : List (Nat × List aH) := []
def sT_183 : List (Nat × aY) := []
/-- MapItchModel.county -/
def sy_184 : aY := ([.inr 58], [], [(some (false, iMin, iMax, false), [(58, 5, 0, 0)])], [(58, 5, 6), (58, 6, 7), (58, 6, 8), (58, 7, 7), (58, 12, 13), (63, 0, 62), (64, 0, 62), (66, 0, 4)], 5)
def sh_184 : List (Nat × List aH) := [(7, [([some (.inr 58), some (.inl (false, 0, 62, false)), none], [], [(.inl 1, true)], 0)]), (58, [([some (.inr 58), some (.inl (false, 1, 1, false)), some (.inl (false, 0, 62, false))], [(58, 5, 0, 0)], [(.inl 2, true)], 1)])]
def sT_184 : List (Nat × aY) := [(145, sy_141), (155, sy_142)]
/-- MapItchModel.fault -/
def sy_185 : aY := ([.inr 58], [], [(some (false, iMin, iMax, false), [])], [], 0)
def sh_185 : List (Nat × List aH) := []
def sT_185 : List (Nat × aY) := []
/-- MapItchModel.undo -/
def sy_186 : aY := ([.inr 58], [], [(some (false, (-1000002), 23, false), [])], [(58, 12, 12), (64, 0, 62)], 0)
def sh_186 : List (Nat × List aH) := [(22, [([some (.inr 58), some (.inl (false, 0, 62, false))], [(58, 12, 0, 23)], [(.inl 1, true)], 0)])]
def sT_186 : List (Nat × aY) := []
/-- MapItchModel.stroke -/
def sy_187 : aY := ([.inr 58, .inl (false, iMin, iMax, false), .inl (false, iMin, iMax, false)], [], [(some (false, iMin, iMax, false), [])], [(58, 12, 12), (64, 0, 62), (65, 0, 1488)], 2)
def sh_187 : List (Nat × List aH) := []
def sT_187 : List (Nat × aY) := [(148, sy_130), (156, sy_143), (167, sy_145)]
/-- MapItchModel.brook -/
def sy_188 : aY := ([.inr 58, .inl (false, iMin, iMax, false)], [], [(some (false, (-1000002), 3, false), [])], [(58, 12, 12), (64, 0, 62), (65, 0, 1488)], 2)
def sh_188 : List (Nat × List aH) := []
def sT_188 : List (Nat × aY) := [(148, sy_130), (169, sy_147)]
/-- MapItchModel.oblige -/
def sy_189 : aY := ([.inr 58, .inl (false, iMin, iMax, false)], [], [(some (false, (-1000001), iMax, false), [])], [(58, 12, 12), (64, 0, 62), (65, 0, 1488)], 2)
def sh_189 : List (Nat × List aH) := []
def sT_189 : List (Nat × aY) := [(148, sy_130), (171, sy_148)]
/-- MapItchModel.years -/
def sy_190 : aY := ([.inr 58, .inl (false, iMin, iMax, false)], [], [(some (false, iMin, iMax, false), [])], [(58, 12, 12), (64, 0, 62), (65, 0, 1488)], 2)
def sh_190 : List (Nat × List aH) := [(43, [([some (.inr 58), some (.inl (false, 1, 24, false)), some (.inl (false, 0, 24, false))], [], [(.inl 2, true)], 0)])]
def sT_190 : List (Nat × aY) := [(148, sy_130), (156, sy_143), (173, sy_149)]
/-- MapItchModel.cell -/
def sy_191 : aY := ([.inr 58, .inl (false, iMin, iMax, false), .inl (false, iMin, iMax, false)], [], [(some (false, iMin, iMax, false), [])], [], 2)
def sh_191 : List (Nat × List aH) := [(71, [([some (.inr 58), some (.inl (false, 0, 14, false)), some (.inl (false, 3, 4, false)), some (.inl (false, iMin, iMax, false)), some (.inl (false, 0, 4, false))], [], [(.inl 4, true)], 0)])]
def sT_191 : List (Nat × aY) := []
/-- MapItchModel.surveyor -/
def sy_192 : aY := ([.inr 58, .inl (false, iMin, iMax, false), .inl (false, iMin, iMax, false)], [], [(some (false, iMin, iMax, false), [])], [], 5)
def sh_192 : List (Nat × List aH) := []
def sT_192 : List (Nat × aY) := [(165, sy_155)]
/-- MapItchModel.bits -/
def sy_193 : aY := ([.inr 58, .inl (false, iMin, iMax, false)], [], [(some (false, iMin, iMax, false), [])], [], 5)
def sh_193 : List (Nat × List aH) := []
def sT_193 : List (Nat × aY) := [(156, sy_143), (177, sy_157)]
/-- MapItchModel.strokes -/
def sy_194 : aY := ([.inr 58, .inl (false, iMin, iMax, false), .inl (false, iMin, iMax, false)], [], [(some (false, iMin, iMax, false), [])], [(67, 0, 62), (68, 0, 62), (69, 0, 2)], 7)
def sh_194 : List (Nat × List aH) := []
def sT_194 : List (Nat × aY) := [(181, sy_161)]
/-- MapItchModel.unfelt -/
def sy_195 : aY := ([.inr 58], [], [(some (false, iMin, iMax, false), [])], [], 5)
def sh_195 : List (Nat × List aH) := [(14, [([some (.inr 58), some (.inl (false, iMin, iMax, false)), some (.inl (false, 0, 15, false))], [], [(.inl 2, true)], 0)])]
def sT_195 : List (Nat × aY) := [(156, sy_143), (166, sy_156)]
/-- MapItchModel.each -/
def sy_196 : aY := ([.inr 58, .inl (false, iMin, iMax, false), .inl (false, iMin, iMax, false)], [(64, 57, 0, 0)], [(some (false, iMin, iMax, false), [])], [(58, 3, 3), (58, 18, 18)], 3)
def sh_196 : List (Nat × List aH) := [(37, [([some (.inr 58), some (.inl (false, 0, 7, false)), some (.inl (false, 0, 40, false)), some (.inl (false, 0, 0, false)), some (.inl (false, iMin, iMax, false)), some (.inl (false, 0, 15, false))], [(58, 18, 0, 320), (64, 57, 0, 0)], [(.inl 5, true)], 0)])]
def sT_196 : List (Nat × aY) := [(185, sy_169)]
/-- MapItchModel.each -/
def sy_197 : aY := ([.inr 58, .inl (false, iMin, iMax, false), .inl (false, iMin, iMax, false)], [(64, 57, 1, 1)], [(some (false, iMin, iMax, false), [])], [(58, 3, 3), (58, 18, 18)], 5)
def sh_197 : List (Nat × List aH) := [(37, [([some (.inr 58), some (.inl (false, 0, 7, false)), some (.inl (false, 0, 39, false)), some (.inl (false, 0, 0, false)), some (.inl (false, iMin, iMax, false)), some (.inl (false, 0, 15, false))], [(58, 18, 0, 319), (64, 57, 1, 1)], [(.inl 5, true)], 0)])]
def sT_197 : List (Nat × aY) := [(185, sy_171)]
/-- MapItchModel.each -/
def sy_198 : aY := ([.inr 58, .inl (false, iMin, iMax, false), .inl (false, iMin, iMax, false)], [(64, 57, 2, 2)], [(some (false, iMin, iMax, false), [])], [(58, 3, 3), (58, 18, 18)], 5)
def sh_198 : List (Nat × List aH) := [(37, [([some (.inr 58), some (.inl (false, 0, 7, false)), some (.inl (false, 0, 38, false)), some (.inl (false, 0, 0, false)), some (.inl (false, iMin, iMax, false)), some (.inl (false, 0, 15, false))], [(58, 18, 0, 318), (64, 57, 2, 2)], [(.inl 5, true)], 0)])]
def sT_198 : List (Nat × aY) := [(185, sy_173)]
/-- MapItchModel.each -/
def sy_199 : aY := ([.inr 58, .inl (false, iMin, iMax, false), .inl (false, iMin, iMax, false)], [(64, 57, 3, 3)], [(some (false, iMin, iMax, false), [])], [(58, 3, 3), (58, 18, 18)], 5)
def sh_199 : List (Nat × List aH) := [(37, [([some (.inr 58), some (.inl (false, 0, 7, false)), some (.inl (false, 0, 37, false)), some (.inl (false, 0, 0, false)), some (.inl (false, iMin, iMax, false)), some (.inl (false, 0, 15, false))], [(58, 18, 0, 317), (64, 57, 3, 3)], [(.inl 5, true)], 0)])]
def sT_199 : List (Nat × aY) := [(185, sy_175)]
/-- MapItchModel.each -/
def sy_200 : aY := ([.inr 58, .inl (false, iMin, iMax, false), .inl (false, iMin, iMax, false)], [(64, 57, 4, 4)], [(some (false, iMin, iMax, false), [])], [(58, 3, 3), (58, 18, 18)], 5)
def sh_200 : List (Nat × List aH) := [(37, [([some (.inr 58), some (.inl (false, 0, 7, false)), some (.inl (false, 0, 36, false)), some (.inl (false, 0, 0, false)), some (.inl (false, iMin, iMax, false)), some (.inl (false, 0, 15, false))], [(58, 18, 0, 316), (64, 57, 4, 4)], [(.inl 5, true)], 0)])]
def sT_200 : List (Nat × aY) := [(185, sy_177)]
/-- MapItchModel.fit -/
def sy_201 : aY := ([.inr 58, .inl (false, iMin, iMax, false), .inl (false, iMin, iMax, false), .inl (false, iMin, iMax, false)], [(64, 57, 0, 0)], [(some (false, iMin, iMax, false), [])], [(58, 3, 3), (58, 18, 20), (70, 0, 15)], 3)
def sh_201 : List (Nat × List aH) := []
def sT_201 : List (Nat × aY) := [(188, sy_170)]
/-- MapItchModel.fit -/
def sy_202 : aY := ([.inr 58, .inl (false, iMin, iMax, false), .inl (false, iMin, iMax, false), .inl (false, iMin, iMax, false)], [(64, 57, 1, 1)], [(some (false, iMin, iMax, false), [])], [(58, 3, 3), (58, 18, 20), (70, 0, 15)], 6)
def sh_202 : List (Nat × List aH) := []
def sT_202 : List (Nat × aY) := [(188, sy_172)]
/-- MapItchModel.fit -/
def sy_203 : aY := ([.inr 58, .inl (false, iMin, iMax, false), .inl (false, iMin, iMax, false), .inl (false, iMin, iMax, false)], [(64, 57, 2, 2)], [(some (false, iMin, iMax, false), [])], [(58, 3, 3), (58, 18, 20), (70, 0, 15)], 6)
def sh_203 : List (Nat × List aH) := []
def sT_203 : List (Nat × aY) := [(188, sy_174)]
/-- MapItchModel.fit -/
def sy_204 : aY := ([.inr 58, .inl (false, iMin, iMax, false), .inl (false, iMin, iMax, false), .inl (false, iMin, iMax, false)], [(64, 57, 3, 3)], [(some (false, iMin, iMax, false), [])], [(58, 3, 3), (58, 18, 20), (70, 0, 15)], 6)
def sh_204 : List (Nat × List aH) := []
def sT_204 : List (Nat × aY) := [(188, sy_176)]
/-- MapItchModel.fit -/
def sy_205 : aY := ([.inr 58, .inl (false, iMin, iMax, false), .inl (false, iMin, iMax, false), .inl (false, iMin, iMax, false)], [(64, 57, 4, 4)], [(some (false, iMin, iMax, false), [])], [(58, 3, 3), (58, 18, 20), (70, 0, 15)], 6)
def sh_205 : List (Nat × List aH) := []
def sT_205 : List (Nat × aY) := [(188, sy_178)]
/-- MapItchModel.scratch -/
def sy_206 : aY := ([.inr 58, .inl (false, iMin, iMax, false), .inl (false, iMin, iMax, false)], [(64, 57, 0, 0)], [(some (false, (-1000012), 14, false), [])], [(58, 3, 3), (58, 18, 20), (70, 0, 15)], 3)
def sh_206 : List (Nat × List aH) := [(43, [([some (.inr 58), some (.inl (false, 0, 7, false)), some (.inl (false, 0, 40, false)), some (.inl (false, 0, 0, false)), some (.inl (false, (-1000000), (-1000000), false)), some (.inl (false, 14, 14, false))], [], [(.inl 5, false)], 0), ([some (.inr 58), some (.inl (false, 0, 7, false)), some (.inl (false, 0, 40, false)), some (.inl (false, 0, 0, false)), some (.inl (false, 0, 14, false)), some (.inl (false, (-1), 13, false))], [], [(.inl 5, false)], 0)])]
def sT_206 : List (Nat × aY) := [(188, sy_170)]
/-- MapItchModel.scratch -/
def sy_207 : aY := ([.inr 58, .inl (false, iMin, iMax, false), .inl (false, iMin, iMax, false)], [(64, 57, 1, 1)], [(some (false, (-1000012), 14, false), [])], [(58, 3, 3), (58, 18, 20), (70, 0, 15)], 6)
def sh_207 : List (Nat × List aH) := [(43, [([some (.inr 58), some (.inl (false, 0, 7, false)), some (.inl (false, 0, 39, false)), some (.inl (false, 0, 0, false)), some (.inl (false, (-1000000), (-1000000), false)), some (.inl (false, 14, 14, false))], [], [(.inl 5, false)], 0), ([some (.inr 58), some (.inl (false, 0, 7, false)), some (.inl (false, 0, 39, false)), some (.inl (false, 0, 0, false)), some (.inl (false, 0, 14, false)), some (.inl (false, (-1), 13, false))], [], [(.inl 5, false)], 0)])]
def sT_207 : List (Nat × aY) := [(188, sy_172)]
/-- MapItchModel.scratch -/
def sy_208 : aY := ([.inr 58, .inl (false, iMin, iMax, false), .inl (false, iMin, iMax, false)], [(64, 57, 2, 2)], [(some (false, (-1000012), 14, false), [])], [(58, 3, 3), (58, 18, 20), (70, 0, 15)], 6)
def sh_208 : List (Nat × List aH) := [(43, [([some (.inr 58), some (.inl (false, 0, 7, false)), some (.inl (false, 0, 38, false)), some (.inl (false, 0, 0, false)), some (.inl (false, (-1000000), (-1000000), false)), some (.inl (false, 14, 14, false))], [], [(.inl 5, false)], 0), ([some (.inr 58), some (.inl (false, 0, 7, false)), some (.inl (false, 0, 38, false)), some (.inl (false, 0, 0, false)), some (.inl (false, 0, 14, false)), some (.inl (false, (-1), 13, false))], [], [(.inl 5, false)], 0)])]
def sT_208 : List (Nat × aY) := [(188, sy_174)]
/-- MapItchModel.scratch -/
def sy_209 : aY := ([.inr 58, .inl (false, iMin, iMax, false), .inl (false, iMin, iMax, false)], [(64, 57, 3, 3)], [(some (false, (-1000012), 14, false), [])], [(58, 3, 3), (58, 18, 20), (70, 0, 15)], 6)
def sh_209 : List (Nat × List aH) := [(43, [([some (.inr 58), some (.inl (false, 0, 7, false)), some (.inl (false, 0, 37, false)), some (.inl (false, 0, 0, false)), some (.inl (false, (-1000000), (-1000000), false)), some (.inl (false, 14, 14, false))], [], [(.inl 5, false)], 0), ([some (.inr 58), some (.inl (false, 0, 7, false)), some (.inl (false, 0, 37, false)), some (.inl (false, 0, 0, false)), some (.inl (false, 0, 14, false)), some (.inl (false, (-1), 13, false))], [], [(.inl 5, false)], 0)])]
def sT_209 : List (Nat × aY) := [(188, sy_176)]
/-- MapItchModel.scratch -/
def sy_210 : aY := ([.inr 58, .inl (false, iMin, iMax, false), .inl (false, iMin, iMax, false)], [(64, 57, 4, 4)], [(some (false, (-1000012), 14, false), [])], [(58, 3, 3), (58, 18, 20), (70, 0, 15)], 6)
def sh_210 : List (Nat × List aH) := [(43, [([some (.inr 58), some (.inl (false, 0, 7, false)), some (.inl (false, 0, 36, false)), some (.inl (false, 0, 0, false)), some (.inl (false, (-1000000), (-1000000), false)), some (.inl (false, 14, 14, false))], [], [(.inl 5, false)], 0), ([some (.inr 58), some (.inl (false, 0, 7, false)), some (.inl (false, 0, 36, false)), some (.inl (false, 0, 0, false)), some (.inl (false, 0, 14, false)), some (.inl (false, (-1), 13, false))], [], [(.inl 5, false)], 0)])]
def sT_210 : List (Nat × aY) := [(188, sy_178)]
/-- MapItchModel.men -/
def sy_211 : aY := ([.inr 58, .inl (false, iMin, iMax, false)], [], [(some (false, iMin, iMax, false), [])], [], 1)
def sh_211 : List (Nat × List aH) := [(27, [([some (.inr 58), some (.inl (false, 0, 1, false)), some (.inl (false, (-1000000), 2147483646, false)), some (.inl (false, 0, iMax, false)), none, none], [], [(.inl 3, true)], 0)]), (46, [([some (.inr 58), some (.inl (false, 0, 1, false)), some (.inl (false, (-1000000), 2147483646, false)), some (.inl (false, 0, 2147483646, false)), some (.inl (false, iMin, iMax, false)), some (.inl (false, 0, 4, false))], [], [(.inl 3, true), (.inl 5, true)], 0)])]
def sT_211 : List (Nat × aY) := [(123, sy_125)]
/-- MapItchModel.sign -/
def sy_212 : aY := ([.inr 58, .inl (false, iMin, iMax, false)], [], [(some (false, (-1000002), 3, false), [])], [], 5)
def sh_212 : List (Nat × List aH) := [(24, [([some (.inr 58), some (.inl (false, 0, 3, false)), some (.inl (false, 0, 4, false)), none, none], [], [(.inl 2, true)], 0)]), (40, [([some (.inr 58), some (.inl (false, 0, 3, false)), some (.inl (false, 0, 3, false)), some (.inl (false, iMin, iMax, false)), some (.inl (false, 0, 4, false))], [], [(.inl 2, true), (.inl 4, true)], 0)])]
def sT_212 : List (Nat × aY) := [(165, sy_155)]
/-- MapItchModel.settled -/
def sy_213 : aY := ([.inr 58, .inl (false, iMin, iMax, false)], [], [(some (false, iMin, iMax, false), [])], [(67, 0, 62)], 5)
def sh_213 : List (Nat × List aH) := [(36, [([some (.inr 58), some (.inl (false, 0, 1, false)), some (.inl (false, 0, 40, false)), none], [], [(.inl 2, true)], 0)])]
def sT_213 : List (Nat × aY) := [(179, sy_127), (156, sy_144), (173, sy_152), (166, sy_156)]
/-- MapItchModel.drawnSo -/
def sy_214 : aY := ([.inr 58, .inl (false, iMin, iMax, false), .inl (false, iMin, iMax, false), .inl (false, iMin, iMax, false), .inl (false, iMin, iMax, false)], [], [(some (true, lMin, lMax, false), [])], [], 2)
def sh_214 : List (Nat × List aH) := [(64, [([some (.inr 58), some (.inl (false, 0, 14, false)), some (.inl (false, 0, 10, false)), some (.inl (false, 0, 6, false)), some (.inl (false, 0, 1, false)), some (.inr 71), some (.inl (true, 1, 1, false)), none, some (.inl (false, 0, 4, false)), none, none, none, none, none], [], [(.inl 8, true)], 0)]), (102, [([some (.inr 58), some (.inl (false, 0, 14, false)), some (.inl (false, 0, 10, false)), some (.inl (false, 0, 6, false)), some (.inl (false, 0, 1, false)), some (.inr 71), some (.inl (true, 1, 1, false)), none, some (.inl (false, 0, 0, false)), none, none, none, none, none], [], [(.inl 8, true)], 1), ([some (.inr 58), some (.inl (false, 0, 14, false)), some (.inl (false, 0, 10, false)), some (.inl (false, 1, 6, false)), some (.inl (false, 0, 1, false)), some (.inr 71), some (.inl (true, 10, 10, false)), none, some (.inl (false, 1, 1, false)), some (.inl (true, lMin, lMax, false)), none, some (.inl (false, (-1), (-1), false)), none, none], [], [(.inl 8, true)], 1), ([some (.inr 58), some (.inl (false, 0, 14, false)), some (.inl (false, 0, 10, false)), some (.inl (false, 2, 6, false)), some (.inl (false, 0, 1, false)), some (.inr 71), some (.inl (true, 100, 100, false)), none, some (.inl (false, 2, 2, false)), some (.inl (true, lMin, lMax, false)), none, some (.inl (false, (-1), (-1), false)), none, none], [], [(.inl 8, true)], 1), ([some (.inr 58), some (.inl (false, 0, 14, false)), some (.inl (false, 0, 10, false)), some (.inl (false, 3, 6, false)), some (.inl (false, 0, 1, false)), some (.inr 71), some (.inl (true, 1000, 1000, false)), none, some (.inl (false, 3, 3, false)), some (.inl (true, lMin, lMax, false)), none, some (.inl (false, (-1), (-1), false)), none, none], [], [(.inl 8, true)], 1), ([some (.inr 58), some (.inl (false, 0, 14, false)), some (.inl (false, 0, 10, false)), some (.inl (false, 4, 6, false)), some (.inl (false, 0, 1, false)), some (.inr 71), some (.inl (true, 10000, 10000, false)), none, some (.inl (false, 4, 4, false)), some (.inl (true, lMin, lMax, false)), none, some (.inl (false, (-1), (-1), false)), none, none], [], [(.inl 8, true)], 1), ([some (.inr 58), some (.inl (false, 0, 14, false)), some (.inl (false, 0, 10, false)), some (.inl (false, 5, 6, false)), some (.inl (false, 0, 1, false)), some (.inr 71), some (.inl (true, 100000, 100000, false)), none, some (.inl (false, 5, 5, false)), some (.inl (true, lMin, lMax, false)), none, some (.inl (false, (-1), (-1), false)), none, none], [], [(.inl 8, true)], 1), ([some (.inr 58), some (.inl (false, 0, 14, false)), some (.inl (false, 0, 10, false)), some (.inl (false, 6, 6, false)), some (.inl (false, 0, 1, false)), some (.inr 71), some (.inl (true, 1000000, 1000000, false)), none, some (.inl (false, 6, 6, false)), some (.inl (true, lMin, lMax, false)), none, some (.inl (false, (-1), (-1), false)), none, none], [], [(.inl 8, true)], 1)]), (117, [([some (.inr 58), some (.inl (false, 0, 14, false)), some (.inl (false, 0, 10, false)), some (.inl (false, 1, 6, false)), some (.inl (false, 0, 1, false)), some (.inr 71), some (.inl (true, 1, 1, false)), none, some (.inl (false, 0, 0, false)), some (.inl (true, lMin, lMax, false)), none, some (.inl (false, (-1), 3, false)), none, none], [], [(.inl 8, true), (.inl 11, false)], 1), ([some (.inr 58), some (.inl (false, 0, 14, false)), some (.inl (false, 0, 10, false)), some (.inl (false, 2, 6, false)), some (.inl (false, 0, 1, false)), some (.inr 71), some (.inl (true, 10, 10, false)), none, some (.inl (false, 1, 1, false)), some (.inl (true, lMin, lMax, false)), none, some (.inl (false, (-1), 3, false)), none, none], [], [(.inl 8, true), (.inl 11, false)], 1), ([some (.inr 58), some (.inl (false, 0, 14, false)), some (.inl (false, 0, 10, false)), some (.inl (false, 3, 6, false)), some (.inl (false, 0, 1, false)), some (.inr 71), some (.inl (true, 100, 100, false)), none, some (.inl (false, 2, 2, false)), some (.inl (true, lMin, lMax, false)), none, some (.inl (false, (-1), 3, false)), none, none], [], [(.inl 8, true), (.inl 11, false)], 1), ([some (.inr 58), some (.inl (false, 0, 14, false)), some (.inl (false, 0, 10, false)), some (.inl (false, 4, 6, false)), some (.inl (false, 0, 1, false)), some (.inr 71), some (.inl (true, 1000, 1000, false)), none, some (.inl (false, 3, 3, false)), some (.inl (true, lMin, lMax, false)), none, some (.inl (false, (-1), 3, false)), none, none], [], [(.inl 8, true), (.inl 11, false)], 1), ([some (.inr 58), some (.inl (false, 0, 14, false)), some (.inl (false, 0, 10, false)), some (.inl (false, 5, 6, false)), some (.inl (false, 0, 1, false)), some (.inr 71), some (.inl (true, 10000, 10000, false)), none, some (.inl (false, 4, 4, false)), some (.inl (true, lMin, lMax, false)), none, some (.inl (false, (-1), 3, false)), none, none], [], [(.inl 8, true), (.inl 11, false)], 1), ([some (.inr 58), some (.inl (false, 0, 14, false)), some (.inl (false, 0, 10, false)), some (.inl (false, 6, 6, false)), some (.inl (false, 0, 1, false)), some (.inr 71), some (.inl (true, 100000, 100000, false)), none, some (.inl (false, 5, 5, false)), some (.inl (true, lMin, lMax, false)), none, some (.inl (false, (-1), 3, false)), none, none], [], [(.inl 8, true), (.inl 11, false)], 1)])]
def sT_214 : List (Nat × aY) := [(194, sy_126)]
/-- MapItchModel.quarrel -/
def sy_215 : aY := ([.inr 58, .inl (false, iMin, iMax, false), .inl (false, iMin, iMax, false), .inl (false, iMin, iMax, false)], [], [(some (false, iMin, iMax, false), [])], [(58, 3, 3), (58, 18, 18)], 3)
/-- MapItchModel.drawn -/
def sy_216 : aY := ([.inr 58, .inl (false, iMin, iMax, false), .inl (false, iMin, iMax, false), .inl (false, iMin, iMax, false)], [], [(some (false, iMin, iMax, false), [])], [(67, 0, 62)], 5)
def sh_216 : List (Nat × List aH) := [(68, [([some (.inr 58), some (.inl (false, 0, 60, false)), some (.inl (false, 1, 999999, false)), some (.inl (false, 0, 1, false)), some (.inl (true, 0, 2147483646, false)), none, some (.inl (false, iMin, iMax, false)), some (.inl (false, iMin, iMax, false)), some (.inl (false, 0, 60, false)), none], [], [(.inl 8, true)], 0)])]
def sT_216 : List (Nat × aY) := [(179, sy_127), (156, sy_144), (169, sy_150), (173, sy_152), (166, sy_156)]
/-- MapItchModel.image -/
def sy_217 : aY := ([.inr 58, .inl (false, iMin, iMax, false)], [], [(some (false, (-1000002), 1, false), [])], [(72, 0, 124)], 1)
def sh_217 : List (Nat × List aH) := [(24, [([some (.inr 58), some (.inl (false, 0, 1, false)), some (.inl (false, 0, 62, false))], [], [(.inl 2, true)], 0)])]
def sT_217 : List (Nat × aY) := []
/-- MapItchModel.restore -/
def sy_218 : aY := ([.inr 58, .inl (false, iMin, iMax, false)], [], [(some (false, (-1000002), 1, false), [])], [(58, 12, 13), (64, 0, 62), (66, 0, 4)], 3)
def sh_218 : List (Nat × List aH) := [(32, [([some (.inr 58), some (.inl (false, 0, 1, false)), some (.inl (false, 0, 62, false))], [], [(.inl 2, true)], 0)])]
def sT_218 : List (Nat × aY) := [(155, sy_142)]
/-- MapItchModel.kind -/
def sy_219 : aY := ([.inr 58, .inl (false, iMin, iMax, false)], [], [(some (false, iMin, iMax, false), [])], [], 2)
def sh_219 : List (Nat × List aH) := []
def sT_219 : List (Nat × aY) := []
/-- MapItchModel.as -/
def sy_220 : aY := ([.inr 58, .inl (false, iMin, iMax, false), .inl (false, iMin, iMax, false)], [], [(some (false, (-1000013), 3, false), [])], [(58, 3, 3)], 2)
def sh_220 : List (Nat × List aH) := []
def sT_220 : List (Nat × aY) := [(203, sy_162)]
/-- MapItchModel.ask -/
def sy_221 : aY := ([.inr 58, .inl (false, iMin, iMax, false), .inl (false, iMin, iMax, false)], [], [(some (false, iMin, iMax, false), [])], [(58, 25, 25), (73, 0, 16)], 8)
def sh_221 : List (Nat × List aH) := []
def sT_221 : List (Nat × aY) := [(209, sy_165), (210, sy_166), (211, sy_167), (212, sy_168)]
/-- MapItchModel.trace -/
def sy_222 : aY := ([.inr 58, .inl (false, iMin, iMax, false)], [], [(some (false, iMin, iMax, false), [])], [], 1)
def sh_222 : List (Nat × List aH) := []
def sT_222 : List (Nat × aY) := []
/-- MapItchModel.count -/
def sy_223 : aY := ([.inr 58, .inl (false, iMin, iMax, false)], [], [(some (false, iMin, iMax, false), [])], [], 1)
def sh_223 : List (Nat × List aH) := [(4, [([some (.inr 58), some (.inl (false, iMin, iMax, false)), some (.inl (false, iMin, iMax, false)), some (.inl (false, 0, 8, false))], [], [(.inl 3, true)], 0)])]
def sT_223 : List (Nat × aY) := [(123, sy_125), (156, sy_143)]
/-- MapItchModel.status -/
def sy_224 : aY := ([.inr 58], [], [(some (false, iMin, iMax, false), [])], [], 0)
def sh_224 : List (Nat × List aH) := []
def sT_224 : List (Nat × aY) := []
