/-! the program as tables: classes, fields, links, methods, calls, constants, the order in which cells are made -/
def cnmL : List String := ["PoleSets$Vector", "PoleSets$Crack", "PoleSets$Group", "PoleSets$Gather", "PoleSets$Folding", "PoleSets$Circle", "PoleSets$Settling", "PoleSets$Hazards", "PoleSets$Survey", "PoleSets$Scan", "PoleSets$Grouping", "PoleSets", "PoleSetsModel", "PoleSetsLaw", "java/lang/Math", "java/lang/Integer"]
def cName (c : Nat) : String := cnmL.getD c ""
def fldsL : List (List (String × String × Bool)) := [
  [("x", "J", false), ("y", "J", false), ("z", "J", false)],
  [("slot", "I", true), ("pole", "LPoleSets$Vector;", true), ("line", "I", false), ("direction", "I", false), ("dip", "I", false), ("at", "I", false), ("plain", "I", false), ("lie", "I", false), ("weight", "I", false)],
  [("gather", "LPoleSets$Gather;", true), ("seedPole", "LPoleSets$Vector;", true), ("mean", "LPoleSets$Vector;", true), ("size", "I", false), ("leastLie", "I", false), ("measured", "Z", false), ("seed", "I", false), ("direction", "I", false), ("dip", "I", false), ("cone", "I", false), ("half", "I", false)],
  [("sum", "LPoleSets$Vector;", true), ("mass", "J", false)],
  [("survey", "LPoleSets$Survey;", true), ("grouping", "LPoleSets$Grouping;", true), ("circle", "LPoleSets$Circle;", true), ("axle", "LPoleSets$Vector;", true), ("aside", "LPoleSets$Vector;", true), ("turned", "LPoleSets$Vector;", true), ("guide", "LPoleSets$Vector;", true), ("gather", "LPoleSets$Gather;", true)],
  [("sines", "[I", true)],
  [("survey", "LPoleSets$Survey;", true), ("grouping", "LPoleSets$Grouping;", true), ("circle", "LPoleSets$Circle;", true), ("places", "[I", true), ("means", "[LPoleSets$Vector;", true), ("gather", "LPoleSets$Gather;", true), ("rounds", "I", false), ("reach", "I", false), ("edition", "I", false)],
  [("grouping", "LPoleSets$Grouping;", true), ("circle", "LPoleSets$Circle;", true), ("edge", "LPoleSets$Vector;", true), ("trends", "[I", true), ("plunges", "[I", true), ("facing", "I", false), ("steepness", "I", false), ("friction", "I", false), ("side", "I", false), ("edition", "I", false)],
  [("circle", "LPoleSets$Circle;", true), ("trends", "[I", true), ("plunges", "[I", true), ("lengths", "[I", true), ("arrows", "[LPoleSets$Vector;", true), ("cracks", "[LPoleSets$Crack;", true), ("angles", "[I", true), ("lines", "I", false), ("count", "I", false), ("cap", "I", false), ("edition", "I", false)],
  [("survey", "LPoleSets$Survey;", true), ("circle", "LPoleSets$Circle;", true), ("trial", "LPoleSets$Vector;", true), ("weft", "[J", true), ("girdle", "[I", true), ("cluster", "[I", true), ("bestLine", "[I", true), ("thickest", "[I", true), ("weftEdition", "I", false), ("axesEdition", "I", false), ("lineEdition", "I", false), ("thickEdition", "I", false), ("thickAngle", "I", false)],
  [("survey", "LPoleSets$Survey;", true), ("circle", "LPoleSets$Circle;", true), ("places", "[I", true), ("groups", "[LPoleSets$Group;", true), ("means", "[LPoleSets$Vector;", true), ("heapOf", "[I", true), ("heapSizes", "[I", true), ("heapLies", "[I", true), ("queue", "[I", true), ("links", "[I", true), ("setsBy", "[I", true), ("massAt", "[I", true), ("link", "I", false), ("least", "I", false), ("sets", "I", false), ("edition", "I", false), ("bridgeEdition", "I", false), ("bridgeCount", "I", false), ("firstBridge", "I", false)],
  [("circle", "LPoleSets$Circle;", true), ("survey", "LPoleSets$Survey;", true), ("grouping", "LPoleSets$Grouping;", true), ("settling", "LPoleSets$Settling;", true), ("scan", "LPoleSets$Scan;", true), ("hazards", "LPoleSets$Hazards;", true), ("folding", "LPoleSets$Folding;", true), ("asked", "LPoleSets$Vector;", true), ("status", "I", false)],
  [("status", "I", false), ("lines", "I", false), ("cracks", "I", false), ("link", "I", false), ("least", "I", false), ("cap", "I", false), ("slopeDirection", "I", false), ("slopeDip", "I", false), ("friction", "I", false), ("side", "I", false), ("trend", "[I", true), ("plunge", "[I", true), ("length", "[I", true), ("on", "[I", true), ("direction", "[I", true), ("dip", "[I", true), ("place", "[I", true), ("px", "[I", true), ("py", "[I", true), ("pz", "[I", true), ("ax", "[I", true), ("ay", "[I", true), ("az", "[I", true), ("vx", "I", false), ("vy", "I", false), ("vz", "I", false), ("groupOf", "[I", true), ("setOf", "[I", true), ("size", "[I", true), ("leastLie", "[I", true), ("groups", "I", false), ("sets", "I", false), ("sx", "J", false), ("sy", "J", false), ("sz", "J", false), ("mass", "J", false), ("mx", "[I", true), ("my", "[I", true), ("mz", "[I", true), ("settledOf", "[I", true), ("rounds", "I", false), ("fabric", "[J", true), ("gaps", "I", false), ("apparent", "I", false), ("truly", "I", false), ("lieDirection", "[I", true), ("lieDip", "[I", true), ("wedgeTrend", "[I", true), ("wedgePlunge", "[I", true)]]
def ftcL : List (List Nat) := [[1, 1, 1], [0, 2, 0, 0, 0, 0, 0, 0, 0], [2, 2, 2, 0, 0, 3, 0, 0, 0, 0, 0], [2, 1], [2, 2, 2, 2, 2, 2, 2, 2], [2], [2, 2, 2, 2, 2, 2, 0, 0, 0], [2, 2, 2, 2, 2, 0, 0, 0, 0, 0], [2, 2, 2, 2, 2, 2, 2, 0, 0, 0, 0], [2, 2, 2, 2, 2, 2, 2, 2, 0, 0, 0, 0, 0], [2, 2, 2, 2, 2, 2, 2, 2, 2, 2, 2, 2, 0, 0, 0, 0, 0, 0, 0], [2, 2, 2, 2, 2, 2, 2, 2, 0], [0, 0, 0, 0, 0, 0, 0, 0, 0, 0, 2, 2, 2, 2, 2, 2, 2, 2, 2, 2, 2, 2, 2, 0, 0, 0, 2, 2, 2, 2, 0, 0, 1, 1, 1, 1, 2, 2, 2, 2, 0, 2, 0, 0, 0, 2, 2, 2, 2]]
def fQ (c k : Nat) : String × String × Bool := (fldsL.getD c []).getD k ("", "", false)
def fT (c : Nat) : u_T := fun k => (cName c, (fQ c k).1, (fQ c k).2.1, (fQ c k).2.2)
def nf (c : Nat) : Nat := (fldsL.getD c []).length
def ftc (c k : Nat) : Nat := (ftcL.getD c []).getD k 9
def fTy (c k : Nat) : FieldType := (parseFieldDescriptor (fQ c k).2.1).getD .int
def clsV : List vw_C := (List.range 13).map fun c => (cName c, fT c, nf c)
def fldL : List (List (Nat × Nat × Nat × Nat)) := [
  [(9, 0, 0, 157), (15, 0, 1, 162), (18, 0, 2, 167)],
  [(7, 1, 0, 188), (16, 1, 1, 190), (20, 1, 3, 200), (23, 1, 4, 201), (32, 1, 6, 206), (38, 1, 7, 208), (41, 1, 2, 197), (44, 1, 5, 203), (47, 1, 8, 212)],
  [(10, 2, 0, 320), (19, 2, 1, 322), (23, 2, 2, 324), (26, 2, 3, 327), (30, 2, 4, 329), (33, 2, 5, 331), (37, 3, 1, 311), (41, 2, 7, 335), (44, 2, 8, 338), (55, 2, 9, 342), (58, 2, 10, 344), (61, 2, 6, 333)],
  [(12, 3, 0, 309), (22, 3, 1, 310), (30, 0, 0, 160), (33, 0, 1, 165), (36, 0, 2, 170)],
  [(9, 4, 0, 589), (15, 4, 1, 590), (19, 4, 2, 591), (26, 4, 3, 592), (30, 4, 4, 593), (33, 4, 5, 594), (36, 4, 6, 595), (42, 4, 7, 596), (65, 0, 0, 158), (69, 0, 1, 163), (72, 0, 2, 168), (79, 10, 4, 378), (92, 8, 8, 256), (98, 10, 2, 373), (102, 8, 5, 245), (106, 1, 1, 192), (111, 1, 8, 213)],
  [(9, 5, 0, 139), (57, 0, 0, 161), (61, 0, 1, 166), (66, 0, 2, 171)],
  [(9, 6, 0, 453), (15, 6, 1, 454), (19, 6, 2, 455), (23, 6, 3, 456), (29, 6, 4, 458), (37, 6, 5, 460), (41, 6, 8, 464), (45, 8, 10, 260), (48, 6, 7, 463), (54, 6, 6, 461), (64, 8, 8, 254), (67, 10, 2, 372), (70, 10, 14, 393), (73, 10, 4, 379), (78, 8, 5, 246), (82, 1, 1, 193), (105, 1, 8, 215)],
  [(9, 7, 0, 546), (15, 7, 1, 547), (22, 7, 2, 548), (26, 7, 3, 549), (30, 7, 4, 550), (33, 7, 5, 551), (37, 7, 6, 553), (40, 7, 7, 555), (43, 7, 8, 556), (46, 7, 9, 557), (58, 10, 14, 394), (63, 10, 3, 376), (67, 2, 8, 339), (72, 2, 7, 336), (78, 10, 4, 380), (93, 10, 15, 398)],
  [(9, 8, 0, 236), (15, 8, 1, 237), (19, 8, 2, 238), (22, 8, 3, 239), (27, 8, 4, 241), (34, 8, 5, 243), (41, 8, 6, 249), (44, 8, 9, 258), (48, 8, 7, 250), (51, 8, 8, 253), (60, 1, 2, 198), (63, 1, 5, 204), (70, 1, 1, 194), (81, 1, 8, 214), (87, 1, 0, 189), (90, 8, 10, 263), (115, 1, 7, 209), (134, 1, 6, 207), (137, 1, 4, 202)],
  [(9, 9, 0, 492), (15, 9, 1, 493), (22, 9, 2, 494), (26, 9, 3, 495), (30, 9, 4, 497), (34, 9, 5, 499), (37, 9, 6, 501), (40, 9, 7, 503), (43, 9, 8, 505), (47, 9, 9, 506), (50, 9, 10, 507), (53, 9, 11, 508), (56, 8, 10, 261), (61, 8, 8, 252), (64, 8, 5, 244), (68, 1, 1, 191), (73, 1, 8, 211), (88, 0, 0, 159), (92, 0, 1, 164), (95, 0, 2, 169), (132, 9, 12, 509)],
  [(9, 10, 0, 369), (15, 10, 1, 370), (19, 10, 2, 371), (25, 10, 3, 375), (31, 10, 4, 377), (36, 2, 2, 325), (40, 10, 5, 382), (43, 10, 6, 383), (46, 10, 7, 384), (49, 10, 8, 385), (52, 10, 9, 386), (55, 10, 10, 387), (58, 10, 11, 388), (61, 10, 12, 389), (65, 10, 13, 391), (68, 10, 15, 397), (71, 10, 16, 399), (74, 8, 10, 262), (77, 8, 8, 255), (109, 10, 17, 400), (112, 10, 18, 402), (122, 2, 3, 328), (129, 10, 14, 396), (137, 8, 5, 248), (141, 1, 7, 210), (152, 2, 4, 330), (163, 2, 5, 332), (173, 2, 0, 321), (182, 1, 8, 216), (185, 1, 1, 195), (188, 2, 1, 323), (208, 2, 7, 337), (211, 2, 8, 340), (220, 2, 6, 334), (223, 2, 9, 343), (230, 2, 10, 345), (235, 3, 1, 312), (246, 1, 2, 199), (257, 1, 5, 205), (264, 8, 4, 242)],
  [(10, 11, 0, 616), (21, 11, 1, 617), (30, 11, 2, 618), (39, 11, 3, 619), (46, 11, 4, 620), (55, 11, 5, 621), (62, 11, 6, 622), (69, 11, 7, 623), (73, 11, 8, 624), (85, 8, 7, 251), (103, 8, 3, 240), (107, 8, 8, 257), (124, 10, 12, 390), (127, 10, 13, 392), (134, 8, 9, 259), (163, 10, 14, 395), (172, 10, 2, 374), (175, 8, 5, 247), (235, 10, 18, 403), (238, 10, 17, 401), (241, 1, 1, 196), (244, 10, 4, 381), (262, 6, 6, 462), (271, 6, 3, 457), (272, 6, 4, 459), (301, 9, 3, 496), (308, 9, 5, 500), (311, 9, 4, 498), (317, 9, 6, 502), (326, 9, 7, 504), (341, 2, 2, 326), (389, 7, 5, 552), (392, 7, 6, 554), (404, 2, 8, 341)],
  [(7, 12, 3, 1410), (13, 12, 4, 1411), (16, 12, 5, 1412), (19, 12, 7, 1414), (22, 12, 8, 1415), (25, 12, 9, 1416), (28, 12, 10, 1417), (32, 12, 11, 1418), (35, 12, 12, 1419), (38, 12, 13, 1420), (41, 12, 14, 1421), (44, 12, 15, 1422), (47, 12, 16, 1423), (50, 12, 17, 1424), (53, 12, 18, 1425), (56, 12, 19, 1426), (59, 12, 20, 1427), (62, 12, 21, 1428), (65, 12, 22, 1429), (68, 12, 26, 1433), (71, 12, 27, 1434), (74, 12, 28, 1435), (77, 12, 29, 1436), (80, 12, 36, 1443), (83, 12, 37, 1444), (86, 12, 38, 1445), (89, 12, 39, 1446), (92, 12, 41, 1448), (96, 12, 45, 1452), (99, 12, 46, 1453), (102, 12, 47, 1454), (105, 12, 48, 1455), (108, 12, 0, 1407), (127, 12, 23, 1430), (130, 12, 24, 1431), (133, 12, 25, 1432), (186, 12, 1, 1408), (196, 12, 2, 1409), (213, 12, 6, 1413), (226, 12, 30, 1437), (244, 12, 31, 1438), (250, 12, 32, 1439), (254, 12, 33, 1440), (257, 12, 34, 1441), (260, 12, 35, 1442), (378, 12, 40, 1447), (408, 12, 42, 1449), (411, 12, 43, 1450), (418, 12, 44, 1451)],
  [],
  [],
  []]
def fldE (own idx : Nat) : Option (Nat × Nat × Nat × Nat) := (fldL.getD own []).find? (fun q => q.1 == idx)
def fld (own idx : Nat) : Option (Nat × Nat) := (fldE own idx).map (fun q => (q.2.1, q.2.2.1))
def mNmL : List MethodName := [
  ⟨"PoleSets$Vector", "<init>", "()V"⟩,
  ⟨"PoleSets$Vector", "put", "(JJJ)V"⟩,
  ⟨"PoleSets$Vector", "copy", "(LPoleSets$Vector;)V"⟩,
  ⟨"PoleSets$Vector", "number", "(I)J"⟩,
  ⟨"PoleSets$Vector", "dot", "(LPoleSets$Vector;)J"⟩,
  ⟨"PoleSets$Vector", "square", "()J"⟩,
  ⟨"PoleSets$Vector", "isZero", "()Z"⟩,
  ⟨"PoleSets$Vector", "putCross", "(LPoleSets$Vector;LPoleSets$Vector;)V"⟩,
  ⟨"PoleSets$Vector", "turnUp", "()V"⟩,
  ⟨"PoleSets$Crack", "<init>", "(I)V"⟩,
  ⟨"PoleSets$Crack", "lay", "(II)V"⟩,
  ⟨"PoleSets$Crack", "tell", "(I)I"⟩,
  ⟨"PoleSets$Group", "<init>", "()V"⟩,
  ⟨"PoleSets$Group", "begin", "(II)V"⟩,
  ⟨"PoleSets$Group", "tell", "(I)J"⟩,
  ⟨"PoleSets$Gather", "<init>", "()V"⟩,
  ⟨"PoleSets$Gather", "clear", "()V"⟩,
  ⟨"PoleSets$Gather", "add", "(ILPoleSets$Vector;LPoleSets$Vector;)V"⟩,
  ⟨"PoleSets$Gather", "reachOfSum", "()J"⟩,
  ⟨"PoleSets$Gather", "tightness", "()I"⟩,
  ⟨"PoleSets$Gather", "meanInto", "(LPoleSets$Vector;)V"⟩,
  ⟨"PoleSets$Folding", "<init>", "(LPoleSets$Survey;LPoleSets$Grouping;LPoleSets$Circle;)V"⟩,
  ⟨"PoleSets$Folding", "turnInto", "(LPoleSets$Vector;ILPoleSets$Vector;)V"⟩,
  ⟨"PoleSets$Folding", "tightBy", "(IIII)I"⟩,
  ⟨"PoleSets$Circle", "<init>", "()V"⟩,
  ⟨"PoleSets$Circle", "bow", "(I)I"⟩,
  ⟨"PoleSets$Circle", "sine", "(I)I"⟩,
  ⟨"PoleSets$Circle", "cosine", "(I)I"⟩,
  ⟨"PoleSets$Circle", "poleInto", "(IILPoleSets$Vector;)V"⟩,
  ⟨"PoleSets$Circle", "arrowInto", "(IILPoleSets$Vector;)V"⟩,
  ⟨"PoleSets$Circle", "areNear", "(LPoleSets$Vector;LPoleSets$Vector;I)Z"⟩,
  ⟨"PoleSets$Circle", "angleOf", "(LPoleSets$Vector;LPoleSets$Vector;)I"⟩,
  ⟨"PoleSets$Circle", "nearestOf", "(LPoleSets$Vector;[LPoleSets$Vector;I)I"⟩,
  ⟨"PoleSets$Circle", "trendOf", "(LPoleSets$Vector;)I"⟩,
  ⟨"PoleSets$Circle", "levelOf", "(LPoleSets$Vector;I)J"⟩,
  ⟨"PoleSets$Circle", "tiltOf", "(JJ)I"⟩,
  ⟨"PoleSets$Circle", "plungeOf", "(LPoleSets$Vector;I)I"⟩,
  ⟨"PoleSets$Circle", "lieOf", "(LPoleSets$Vector;)I"⟩,
  ⟨"PoleSets$Settling", "<init>", "(LPoleSets$Survey;LPoleSets$Grouping;LPoleSets$Circle;)V"⟩,
  ⟨"PoleSets$Settling", "settle", "(I)V"⟩,
  ⟨"PoleSets$Settling", "begin", "()V"⟩,
  ⟨"PoleSets$Settling", "moveCracks", "()Z"⟩,
  ⟨"PoleSets$Settling", "placeFor", "(LPoleSets$Vector;)I"⟩,
  ⟨"PoleSets$Settling", "renewMeans", "()V"⟩,
  ⟨"PoleSets$Settling", "countMoved", "()I"⟩,
  ⟨"PoleSets$Settling", "countNowhere", "()I"⟩,
  ⟨"PoleSets$Hazards", "<init>", "(LPoleSets$Grouping;LPoleSets$Circle;)V"⟩,
  ⟨"PoleSets$Hazards", "cut", "(IIII)V"⟩,
  ⟨"PoleSets$Hazards", "off", "(II)I"⟩,
  ⟨"PoleSets$Hazards", "slidingSets", "(II)I"⟩,
  ⟨"PoleSets$Hazards", "topplingSets", "(II)I"⟩,
  ⟨"PoleSets$Hazards", "wedgeInto", "(IILPoleSets$Vector;)Z"⟩,
  ⟨"PoleSets$Hazards", "findWedges", "()V"⟩,
  ⟨"PoleSets$Hazards", "wedgeSlides", "(III)Z"⟩,
  ⟨"PoleSets$Hazards", "countWedges", "(II)I"⟩,
  ⟨"PoleSets$Hazards", "firstCouple", "()I"⟩,
  ⟨"PoleSets$Hazards", "countAll", "(II)I"⟩,
  ⟨"PoleSets$Hazards", "holding", "(I)I"⟩,
  ⟨"PoleSets$Survey", "<init>", "(LPoleSets$Circle;)V"⟩,
  ⟨"PoleSets$Survey", "hasLine", "(I)Z"⟩,
  ⟨"PoleSets$Survey", "hasCrack", "(I)Z"⟩,
  ⟨"PoleSets$Survey", "addLine", "(III)I"⟩,
  ⟨"PoleSets$Survey", "addCrack", "(IIII)I"⟩,
  ⟨"PoleSets$Survey", "removeCrack", "(I)V"⟩,
  ⟨"PoleSets$Survey", "weighBy", "(I)V"⟩,
  ⟨"PoleSets$Survey", "weightBy", "(LPoleSets$Vector;LPoleSets$Vector;)I"⟩,
  ⟨"PoleSets$Survey", "angleBetween", "(II)I"⟩,
  ⟨"PoleSets$Survey", "countNear", "(II)I"⟩,
  ⟨"PoleSets$Survey", "countAlike", "(I)I"⟩,
  ⟨"PoleSets$Survey", "countLies", "()I"⟩,
  ⟨"PoleSets$Survey", "isFirstOfItsLie", "(I)Z"⟩,
  ⟨"PoleSets$Survey", "tellLine", "(II)I"⟩,
  ⟨"PoleSets$Survey", "countOnLine", "(I)I"⟩,
  ⟨"PoleSets$Survey", "massOfAll", "()J"⟩,
  ⟨"PoleSets$Survey", "thickAt", "(LPoleSets$Vector;I)I"⟩,
  ⟨"PoleSets$Survey", "inPetal", "(IZ)I"⟩,
  ⟨"PoleSets$Survey", "blindLines", "(LPoleSets$Vector;I)I"⟩,
  ⟨"PoleSets$Scan", "<init>", "(LPoleSets$Survey;LPoleSets$Circle;)V"⟩,
  ⟨"PoleSets$Scan", "weave", "()V"⟩,
  ⟨"PoleSets$Scan", "addToWeft", "(LPoleSets$Vector;J)V"⟩,
  ⟨"PoleSets$Scan", "shareOf", "(LPoleSets$Vector;)J"⟩,
  ⟨"PoleSets$Scan", "findAxes", "()V"⟩,
  ⟨"PoleSets$Scan", "putPair", "([III)V"⟩,
  ⟨"PoleSets$Scan", "findBestLine", "()V"⟩,
  ⟨"PoleSets$Scan", "weightsBy", "(LPoleSets$Vector;)I"⟩,
  ⟨"PoleSets$Scan", "findThickest", "(I)V"⟩,
  ⟨"PoleSets$Grouping", "<init>", "(LPoleSets$Survey;LPoleSets$Circle;)V"⟩,
  ⟨"PoleSets$Grouping", "groupBy", "(II)V"⟩,
  ⟨"PoleSets$Grouping", "spread", "(IIII)I"⟩,
  ⟨"PoleSets$Grouping", "scatter", "()V"⟩,
  ⟨"PoleSets$Grouping", "heapUp", "(II)I"⟩,
  ⟨"PoleSets$Grouping", "countSets", "(II)I"⟩,
  ⟨"PoleSets$Grouping", "countBy", "(I)I"⟩,
  ⟨"PoleSets$Grouping", "leastLink", "(II)I"⟩,
  ⟨"PoleSets$Grouping", "nearestOpen", "(I)I"⟩,
  ⟨"PoleSets$Grouping", "findBridges", "()V"⟩,
  ⟨"PoleSets$Grouping", "isBridge", "(I)Z"⟩,
  ⟨"PoleSets$Grouping", "refresh", "()V"⟩,
  ⟨"PoleSets$Grouping", "findHeapLies", "(I)V"⟩,
  ⟨"PoleSets$Grouping", "numberHeap", "(II)V"⟩,
  ⟨"PoleSets$Grouping", "hasSet", "(I)Z"⟩,
  ⟨"PoleSets$Grouping", "findPlaced", "(II)I"⟩,
  ⟨"PoleSets$Grouping", "countStrays", "()I"⟩,
  ⟨"PoleSets$Grouping", "fingerprint", "()I"⟩,
  ⟨"PoleSets$Grouping", "measureAll", "()V"⟩,
  ⟨"PoleSets$Grouping", "measured", "(I)LPoleSets$Group;"⟩,
  ⟨"PoleSets$Grouping", "measure", "(ILPoleSets$Group;)V"⟩,
  ⟨"PoleSets$Grouping", "findSeed", "(ILPoleSets$Group;)V"⟩,
  ⟨"PoleSets$Grouping", "countAround", "(II)I"⟩,
  ⟨"PoleSets$Grouping", "openCone", "(ILPoleSets$Group;)V"⟩,
  ⟨"PoleSets$Grouping", "angleOfMeans", "(II)I"⟩,
  ⟨"PoleSets$Grouping", "conesMeet", "(II)Z"⟩,
  ⟨"PoleSets$Grouping", "countInCone", "(II)I"⟩,
  ⟨"PoleSets$Grouping", "isOn", "(III)Z"⟩,
  ⟨"PoleSets$Grouping", "countOn", "(II)I"⟩,
  ⟨"PoleSets$Grouping", "apparentGap", "(II)I"⟩,
  ⟨"PoleSets$Grouping", "trueGap", "(II)I"⟩,
  ⟨"PoleSets", "<init>", "()V"⟩,
  ⟨"PoleSets", "status", "()I"⟩,
  ⟨"PoleSets", "line", "(III)I"⟩,
  ⟨"PoleSets", "crack", "(IIII)I"⟩,
  ⟨"PoleSets", "drop", "(I)I"⟩,
  ⟨"PoleSets", "link", "(II)I"⟩,
  ⟨"PoleSets", "cap", "(I)I"⟩,
  ⟨"PoleSets", "slope", "(IIII)I"⟩,
  ⟨"PoleSets", "many", "(I)I"⟩,
  ⟨"PoleSets", "of", "(II)I"⟩,
  ⟨"PoleSets", "along", "(II)I"⟩,
  ⟨"PoleSets", "angle", "(II)I"⟩,
  ⟨"PoleSets", "near", "(II)I"⟩,
  ⟨"PoleSets", "set", "(II)J"⟩,
  ⟨"PoleSets", "member", "(II)I"⟩,
  ⟨"PoleSets", "stray", "(I)I"⟩,
  ⟨"PoleSets", "apart", "(II)I"⟩,
  ⟨"PoleSets", "hangs", "(II)I"⟩,
  ⟨"PoleSets", "overlap", "(III)I"⟩,
  ⟨"PoleSets", "digest", "()I"⟩,
  ⟨"PoleSets", "without", "(I)I"⟩,
  ⟨"PoleSets", "bridges", "(I)I"⟩,
  ⟨"PoleSets", "nearestSet", "(II)I"⟩,
  ⟨"PoleSets", "would", "(I)I"⟩,
  ⟨"PoleSets", "linkFor", "(I)I"⟩,
  ⟨"PoleSets", "settled", "(II)I"⟩,
  ⟨"PoleSets", "settledIn", "(II)I"⟩,
  ⟨"PoleSets", "settledLie", "(II)I"⟩,
  ⟨"PoleSets", "thick", "(III)I"⟩,
  ⟨"PoleSets", "excess", "(III)I"⟩,
  ⟨"PoleSets", "rose", "(II)I"⟩,
  ⟨"PoleSets", "fabric", "(I)I"⟩,
  ⟨"PoleSets", "axis", "(ZI)I"⟩,
  ⟨"PoleSets", "nextLine", "(I)I"⟩,
  ⟨"PoleSets", "blind", "(III)I"⟩,
  ⟨"PoleSets", "peak", "(II)I"⟩,
  ⟨"PoleSets", "spacing", "(III)I"⟩,
  ⟨"PoleSets", "meets", "(IIIII)I"⟩,
  ⟨"PoleSets", "block", "(IIIIII)J"⟩,
  ⟨"PoleSets", "wedge", "(III)I"⟩,
  ⟨"PoleSets", "risk", "(I)I"⟩,
  ⟨"PoleSets", "safety", "(I)I"⟩,
  ⟨"PoleSets", "safest", "(I)I"⟩,
  ⟨"PoleSets", "steepest", "()I"⟩,
  ⟨"PoleSets", "fold", "(IIII)I"⟩,
  ⟨"PoleSets", "unfold", "(IIII)I"⟩,
  ⟨"PoleSets", "answer", "(I)I"⟩,
  ⟨"PoleSets", "refuse", "(I)I"⟩,
  ⟨"PoleSets", "answerOrNothing", "(I)I"⟩,
  ⟨"PoleSets", "areTwoSets", "(II)Z"⟩,
  ⟨"PoleSets", "within", "(III)Z"⟩,
  ⟨"PoleSets", "isLie", "(II)Z"⟩,
  ⟨"PoleSets", "isLine", "(III)Z"⟩,
  ⟨"PoleSets", "parted", "(JJ)J"⟩,
  ⟨"PoleSets", "root", "(J)J"⟩,
  ⟨"PoleSets", "slant", "(LPoleSets$Vector;LPoleSets$Vector;)J"⟩,
  ⟨"PoleSets", "plainDirection", "(II)I"⟩,
  ⟨"PoleSets", "lieNumber", "(II)I"⟩,
  ⟨"PoleSets", "lieNumber", "(II)I"⟩,
  ⟨"PoleSetsModel", "<init>", "()V"⟩,
  ⟨"PoleSetsModel", "status", "()I"⟩,
  ⟨"PoleSetsModel", "refuse", "(I)I"⟩,
  ⟨"PoleSetsModel", "gives", "(I)I"⟩,
  ⟨"PoleSetsModel", "givesLong", "(J)J"⟩,
  ⟨"PoleSetsModel", "isFrom", "(III)Z"⟩,
  ⟨"PoleSetsModel", "sine", "(I)I"⟩,
  ⟨"PoleSetsModel", "cosine", "(I)I"⟩,
  ⟨"PoleSetsModel", "root", "(J)J"⟩,
  ⟨"PoleSetsModel", "plainDirection", "(II)I"⟩,
  ⟨"PoleSetsModel", "laysPole", "(II)V"⟩,
  ⟨"PoleSetsModel", "laysArrow", "(II)V"⟩,
  ⟨"PoleSetsModel", "dot", "(JJJJJJ)J"⟩,
  ⟨"PoleSetsModel", "square", "(JJJ)J"⟩,
  ⟨"PoleSetsModel", "isNear", "(JJI)Z"⟩,
  ⟨"PoleSetsModel", "angleOf", "(JJ)I"⟩,
  ⟨"PoleSetsModel", "dotOf", "(II)J"⟩,
  ⟨"PoleSetsModel", "squareOf", "(I)J"⟩,
  ⟨"PoleSetsModel", "angleBetween", "(II)I"⟩,
  ⟨"PoleSetsModel", "areNear", "(III)Z"⟩,
  ⟨"PoleSetsModel", "weightBy", "(IJJJ)I"⟩,
  ⟨"PoleSetsModel", "weight", "(I)I"⟩,
  ⟨"PoleSetsModel", "line", "(III)I"⟩,
  ⟨"PoleSetsModel", "isLie", "(II)Z"⟩,
  ⟨"PoleSetsModel", "isLine", "(I)Z"⟩,
  ⟨"PoleSetsModel", "isCrack", "(I)Z"⟩,
  ⟨"PoleSetsModel", "crack", "(IIII)I"⟩,
  ⟨"PoleSetsModel", "drop", "(I)I"⟩,
  ⟨"PoleSetsModel", "link", "(II)I"⟩,
  ⟨"PoleSetsModel", "cap", "(I)I"⟩,
  ⟨"PoleSetsModel", "slope", "(IIII)I"⟩,
  ⟨"PoleSetsModel", "lieOf", "(I)I"⟩,
  ⟨"PoleSetsModel", "laysGroups", "(II)V"⟩,
  ⟨"PoleSetsModel", "bigGroups", "()I"⟩,
  ⟨"PoleSetsModel", "laysSets", "()V"⟩,
  ⟨"PoleSetsModel", "members", "(I)I"⟩,
  ⟨"PoleSetsModel", "nearIn", "(II)I"⟩,
  ⟨"PoleSetsModel", "seedOf", "(I)I"⟩,
  ⟨"PoleSetsModel", "beginsSum", "()V"⟩,
  ⟨"PoleSetsModel", "sums", "(JJJIZ)V"⟩,
  ⟨"PoleSetsModel", "laysSum", "([IIJJJ)V"⟩,
  ⟨"PoleSetsModel", "laysMean", "()Z"⟩,
  ⟨"PoleSetsModel", "turnsUp", "()V"⟩,
  ⟨"PoleSetsModel", "laysSumOf", "(I)V"⟩,
  ⟨"PoleSetsModel", "laysMeanOf", "(I)V"⟩,
  ⟨"PoleSetsModel", "laysMeans", "()V"⟩,
  ⟨"PoleSetsModel", "layMean", "(I)V"⟩,
  ⟨"PoleSetsModel", "trendOf", "()I"⟩,
  ⟨"PoleSetsModel", "outOf", "(I)I"⟩,
  ⟨"PoleSetsModel", "dipOfVector", "()I"⟩,
  ⟨"PoleSetsModel", "directionOfVector", "()I"⟩,
  ⟨"PoleSetsModel", "longOf", "()J"⟩,
  ⟨"PoleSetsModel", "tight", "()I"⟩,
  ⟨"PoleSetsModel", "squareOfMean", "(I)J"⟩,
  ⟨"PoleSetsModel", "dotWithMean", "(II)J"⟩,
  ⟨"PoleSetsModel", "angleToMean", "(II)I"⟩,
  ⟨"PoleSetsModel", "isNearMean", "(III)Z"⟩,
  ⟨"PoleSetsModel", "coneOf", "(I)I"⟩,
  ⟨"PoleSetsModel", "halfOf", "(I)I"⟩,
  ⟨"PoleSetsModel", "isSet", "(I)Z"⟩,
  ⟨"PoleSetsModel", "areSets", "(II)Z"⟩,
  ⟨"PoleSetsModel", "unlikeLies", "()I"⟩,
  ⟨"PoleSetsModel", "many", "(I)I"⟩,
  ⟨"PoleSetsModel", "alikeTo", "(I)I"⟩,
  ⟨"PoleSetsModel", "of", "(II)I"⟩,
  ⟨"PoleSetsModel", "along", "(II)I"⟩,
  ⟨"PoleSetsModel", "angle", "(II)I"⟩,
  ⟨"PoleSetsModel", "near", "(II)I"⟩,
  ⟨"PoleSetsModel", "set", "(II)J"⟩,
  ⟨"PoleSetsModel", "nthOf", "(II)I"⟩,
  ⟨"PoleSetsModel", "member", "(II)I"⟩,
  ⟨"PoleSetsModel", "stray", "(I)I"⟩,
  ⟨"PoleSetsModel", "angleOfMeans", "(II)I"⟩,
  ⟨"PoleSetsModel", "apart", "(II)I"⟩,
  ⟨"PoleSetsModel", "hangs", "(II)I"⟩,
  ⟨"PoleSetsModel", "overlap", "(III)I"⟩,
  ⟨"PoleSetsModel", "digest", "()I"⟩,
  ⟨"PoleSetsModel", "without", "(I)I"⟩,
  ⟨"PoleSetsModel", "isBridge", "(I)Z"⟩,
  ⟨"PoleSetsModel", "bridges", "(I)I"⟩,
  ⟨"PoleSetsModel", "nearestTo", "(I)I"⟩,
  ⟨"PoleSetsModel", "nearestSet", "(II)I"⟩,
  ⟨"PoleSetsModel", "setsBy", "(I)I"⟩,
  ⟨"PoleSetsModel", "would", "(I)I"⟩,
  ⟨"PoleSetsModel", "linkFor", "(I)I"⟩,
  ⟨"PoleSetsModel", "round", "(I)Z"⟩,
  ⟨"PoleSetsModel", "settles", "(I)V"⟩,
  ⟨"PoleSetsModel", "isReach", "(I)Z"⟩,
  ⟨"PoleSetsModel", "settled", "(II)I"⟩,
  ⟨"PoleSetsModel", "settledIn", "(II)I"⟩,
  ⟨"PoleSetsModel", "settledLie", "(II)I"⟩,
  ⟨"PoleSetsModel", "weights", "()J"⟩,
  ⟨"PoleSetsModel", "thickAt", "(III)I"⟩,
  ⟨"PoleSetsModel", "thick", "(III)I"⟩,
  ⟨"PoleSetsModel", "excess", "(III)I"⟩,
  ⟨"PoleSetsModel", "rose", "(II)I"⟩,
  ⟨"PoleSetsModel", "laysFabric", "()V"⟩,
  ⟨"PoleSetsModel", "fabric", "(I)I"⟩,
  ⟨"PoleSetsModel", "hasOf", "()J"⟩,
  ⟨"PoleSetsModel", "axis", "(ZI)I"⟩,
  ⟨"PoleSetsModel", "nextLine", "(I)I"⟩,
  ⟨"PoleSetsModel", "blind", "(III)I"⟩,
  ⟨"PoleSetsModel", "peak", "(II)I"⟩,
  ⟨"PoleSetsModel", "coefficient", "(IJJJ)J"⟩,
  ⟨"PoleSetsModel", "laysSpacing", "(II)Z"⟩,
  ⟨"PoleSetsModel", "spacing", "(III)I"⟩,
  ⟨"PoleSetsModel", "meets", "(IIIII)I"⟩,
  ⟨"PoleSetsModel", "laysCross", "(JJJJJJ)V"⟩,
  ⟨"PoleSetsModel", "crossesMeans", "(II)V"⟩,
  ⟨"PoleSetsModel", "isLength", "(I)Z"⟩,
  ⟨"PoleSetsModel", "block", "(IIIIII)J"⟩,
  ⟨"PoleSetsModel", "laysWedge", "(II)Z"⟩,
  ⟨"PoleSetsModel", "plungeOfVector", "()I"⟩,
  ⟨"PoleSetsModel", "wedge", "(III)I"⟩,
  ⟨"PoleSetsModel", "off", "(II)I"⟩,
  ⟨"PoleSetsModel", "ones", "(I)I"⟩,
  ⟨"PoleSetsModel", "laysLies", "()V"⟩,
  ⟨"PoleSetsModel", "sliding", "()I"⟩,
  ⟨"PoleSetsModel", "slidingBy", "(II)I"⟩,
  ⟨"PoleSetsModel", "topplingBy", "(II)I"⟩,
  ⟨"PoleSetsModel", "doesSlide", "(IIII)Z"⟩,
  ⟨"PoleSetsModel", "wedgesBy", "(II)I"⟩,
  ⟨"PoleSetsModel", "firstWedge", "()I"⟩,
  ⟨"PoleSetsModel", "risk", "(I)I"⟩,
  ⟨"PoleSetsModel", "safety", "(I)I"⟩,
  ⟨"PoleSetsModel", "risksBy", "(II)I"⟩,
  ⟨"PoleSetsModel", "safest", "(I)I"⟩,
  ⟨"PoleSetsModel", "steepest", "()I"⟩,
  ⟨"PoleSetsModel", "laysTurned", "(JJJII)V"⟩,
  ⟨"PoleSetsModel", "folded", "(IIII)I"⟩,
  ⟨"PoleSetsModel", "fold", "(IIII)I"⟩,
  ⟨"PoleSetsModel", "unfold", "(IIII)I"⟩,
  ⟨"java/lang/Integer", "bitCount", "(I)I"⟩,
  x]
def mCdL : List ByteArray := [prog_12_method_1_code, prog_12_method_2_code, prog_12_method_3_code, prog_12_method_4_code, prog_12_method_5_code, prog_12_method_6_code, prog_12_method_7_code, prog_12_method_8_code, prog_12_method_9_code, prog_3_method_1_code, prog_3_method_2_code, prog_3_method_3_code, prog_6_method_1_code, prog_6_method_2_code, prog_6_method_3_code, prog_5_method_1_code, prog_5_method_2_code, prog_5_method_3_code, prog_5_method_4_code, prog_5_method_5_code, prog_5_method_6_code, prog_4_method_1_code, prog_4_method_2_code, prog_4_method_3_code, prog_2_method_1_code, prog_2_method_2_code, prog_2_method_3_code, prog_2_method_4_code, prog_2_method_5_code, prog_2_method_6_code, prog_2_method_7_code, prog_2_method_8_code, prog_2_method_9_code, prog_2_method_10_code, prog_2_method_11_code, prog_2_method_12_code, prog_2_method_13_code, prog_2_method_14_code, prog_10_method_1_code, prog_10_method_2_code, prog_10_method_3_code, prog_10_method_4_code, prog_10_method_5_code, prog_10_method_6_code, prog_10_method_7_code, prog_10_method_8_code, prog_8_method_1_code, prog_8_method_2_code, prog_8_method_3_code, prog_8_method_4_code, prog_8_method_5_code, prog_8_method_6_code, prog_8_method_7_code, prog_8_method_8_code, prog_8_method_9_code, prog_8_method_10_code, prog_8_method_11_code, prog_8_method_12_code, prog_11_method_1_code, prog_11_method_2_code, prog_11_method_3_code, prog_11_method_4_code, prog_11_method_5_code, prog_11_method_6_code, prog_11_method_7_code, prog_11_method_8_code, prog_11_method_9_code, prog_11_method_10_code, prog_11_method_11_code, prog_11_method_12_code, prog_11_method_13_code, prog_11_method_14_code, prog_11_method_15_code, prog_11_method_16_code, prog_11_method_17_code, prog_11_method_18_code, prog_11_method_19_code, prog_9_method_1_code, prog_9_method_2_code, prog_9_method_3_code, prog_9_method_4_code, prog_9_method_5_code, prog_9_method_6_code, prog_9_method_7_code, prog_9_method_8_code, prog_9_method_9_code, prog_7_method_1_code, prog_7_method_2_code, prog_7_method_3_code, prog_7_method_4_code, prog_7_method_5_code, prog_7_method_6_code, prog_7_method_7_code, prog_7_method_8_code, prog_7_method_9_code, prog_7_method_10_code, prog_7_method_11_code, prog_7_method_12_code, prog_7_method_13_code, prog_7_method_14_code, prog_7_method_15_code, prog_7_method_16_code, prog_7_method_17_code, prog_7_method_18_code, prog_7_method_19_code, prog_7_method_20_code, prog_7_method_21_code, prog_7_method_22_code, prog_7_method_23_code, prog_7_method_24_code, prog_7_method_25_code, prog_7_method_26_code, prog_7_method_27_code, prog_7_method_28_code, prog_7_method_29_code, prog_7_method_30_code, prog_7_method_31_code, prog_1_method_1_code, prog_1_method_2_code, prog_1_method_3_code, prog_1_method_4_code, prog_1_method_5_code, prog_1_method_6_code, prog_1_method_7_code, prog_1_method_8_code, prog_1_method_9_code, prog_1_method_10_code, prog_1_method_11_code, prog_1_method_12_code, prog_1_method_13_code, prog_1_method_14_code, prog_1_method_15_code, prog_1_method_16_code, prog_1_method_17_code, prog_1_method_18_code, prog_1_method_19_code, prog_1_method_20_code, prog_1_method_21_code, prog_1_method_22_code, prog_1_method_23_code, prog_1_method_24_code, prog_1_method_25_code, prog_1_method_26_code, prog_1_method_27_code, prog_1_method_28_code, prog_1_method_29_code, prog_1_method_30_code, prog_1_method_31_code, prog_1_method_32_code, prog_1_method_33_code, prog_1_method_34_code, prog_1_method_35_code, prog_1_method_36_code, prog_1_method_37_code, prog_1_method_38_code, prog_1_method_39_code, prog_1_method_40_code, prog_1_method_41_code, prog_1_method_42_code, prog_1_method_43_code, prog_1_method_44_code, prog_1_method_45_code, prog_1_method_46_code, prog_1_method_47_code, prog_1_method_48_code, prog_1_method_49_code, prog_1_method_50_code, prog_1_method_51_code, prog_1_method_52_code, prog_1_method_53_code, prog_1_method_54_code, prog_1_method_55_code, prog_1_method_56_code, prog_1_method_57_code, prog_1_method_58_code, prog_1_method_58_code, prog_14_method_1_code, prog_14_method_2_code, prog_14_method_3_code, prog_14_method_4_code, prog_14_method_5_code, prog_14_method_6_code, prog_14_method_7_code, prog_14_method_8_code, prog_14_method_9_code, prog_14_method_10_code, prog_14_method_11_code, prog_14_method_12_code, prog_14_method_13_code, prog_14_method_14_code, prog_14_method_15_code, prog_14_method_16_code, prog_14_method_18_code, prog_14_method_19_code, prog_14_method_20_code, prog_14_method_21_code, prog_14_method_22_code, prog_14_method_23_code, prog_14_method_24_code, prog_14_method_25_code, prog_14_method_26_code, prog_14_method_27_code, prog_14_method_28_code, prog_14_method_29_code, prog_14_method_30_code, prog_14_method_31_code, prog_14_method_32_code, prog_14_method_33_code, prog_14_method_34_code, prog_14_method_35_code, prog_14_method_36_code, prog_14_method_37_code, prog_14_method_38_code, prog_14_method_39_code, prog_14_method_40_code, prog_14_method_41_code, prog_14_method_42_code, prog_14_method_43_code, prog_14_method_44_code, prog_14_method_45_code, prog_14_method_46_code, prog_14_method_47_code, prog_14_method_48_code, prog_14_method_49_code, prog_14_method_50_code, prog_14_method_51_code, prog_14_method_52_code, prog_14_method_53_code, prog_14_method_54_code, prog_14_method_55_code, prog_14_method_56_code, prog_14_method_57_code, prog_14_method_58_code, prog_14_method_59_code, prog_14_method_60_code, prog_14_method_61_code, prog_14_method_62_code, prog_14_method_63_code, prog_14_method_64_code, prog_14_method_65_code, prog_14_method_66_code, prog_14_method_67_code, prog_14_method_68_code, prog_14_method_69_code, prog_14_method_70_code, prog_14_method_71_code, prog_14_method_72_code, prog_14_method_73_code, prog_14_method_74_code, prog_14_method_75_code, prog_14_method_76_code, prog_14_method_77_code, prog_14_method_78_code, prog_14_method_79_code, prog_14_method_80_code, prog_14_method_81_code, prog_14_method_82_code, prog_14_method_83_code, prog_14_method_84_code, prog_14_method_85_code, prog_14_method_86_code, prog_14_method_87_code, prog_14_method_88_code, prog_14_method_89_code, prog_14_method_90_code, prog_14_method_91_code, prog_14_method_92_code, prog_14_method_93_code, prog_14_method_94_code, prog_14_method_95_code, prog_14_method_96_code, prog_14_method_97_code, prog_14_method_98_code, prog_14_method_99_code, prog_14_method_100_code, prog_14_method_101_code, prog_14_method_102_code, prog_14_method_103_code, prog_14_method_104_code, prog_14_method_105_code, prog_14_method_106_code, prog_14_method_107_code, prog_14_method_108_code, prog_14_method_109_code, prog_14_method_110_code, prog_14_method_111_code, prog_14_method_112_code, prog_14_method_113_code, prog_14_method_114_code, prog_14_method_115_code, prog_14_method_116_code, prog_14_method_117_code, prog_14_method_118_code, prog_14_method_119_code, prog_14_method_120_code, prog_14_method_121_code, prog_14_method_122_code, prog_14_method_123_code, prog_14_method_124_code, prog_14_method_125_code, prog_14_method_126_code, prog_14_method_127_code, prog_14_method_128_code, prog_14_method_129_code, prog_14_method_130_code, prog_14_method_131_code, prog_14_method_132_code, prog_14_method_133_code, prog_15_method_49_code, code]
def mMxL : List Nat := [1, 7, 2, 2, 2, 1, 1, 3, 2, 2, 3, 2, 1, 3, 2, 1, 1, 6, 1, 3, 8, 4, 12, 7, 3, 2, 2, 2, 6, 5, 8, 15, 8, 8, 3, 11, 3, 4, 5, 3, 2, 4, 3, 3, 3, 3, 3, 5, 3, 7, 7, 4, 5, 9, 7, 4, 5, 4, 3, 2, 2, 5, 8, 4, 3, 9, 3, 5, 4, 3, 3, 3, 4, 4, 5, 6, 5, 3, 4, 4, 6, 16, 3, 4, 4, 5, 4, 3, 9, 2, 5, 6, 2, 6, 4, 2, 4, 3, 4, 6, 2, 5, 3, 3, 2, 3, 4, 7, 5, 6, 3, 3, 6, 4, 5, 7, 5, 1, 1, 4, 5, 2, 4, 3, 5, 2, 3, 3, 3, 3, 3, 3, 2, 3, 3, 4, 1, 2, 2, 5, 2, 3, 3, 3, 3, 4, 6, 3, 2, 3, 2, 4, 3, 5, 9, 9, 5, 2, 3, 6, 3, 5, 9, 2, 2, 2, 3, 3, 2, 3, 4, 8, 4, 2, 2, 2, 1, 1, 2, 2, 3, 3, 3, 1, 8, 2, 4, 3, 12, 6, 5, 5, 3, 2, 3, 4, 10, 3, 4, 2, 2, 2, 5, 3, 4, 3, 5, 2, 7, 3, 4, 4, 5, 5, 1, 10, 10, 1, 1, 3, 3, 2, 2, 3, 2, 4, 1, 1, 3, 2, 3, 3, 4, 4, 6, 2, 3, 5, 2, 4, 3, 5, 3, 5, 3, 5, 4, 3, 3, 3, 4, 7, 5, 2, 4, 5, 4, 4, 2, 2, 3, 5, 3, 1, 6, 3, 3, 4, 8, 4, 4, 6, 4, 2, 1, 15, 11, 6, 9, 10, 6, 4, 6, 13, 3, 1, 9, 3, 4, 4, 3, 3, 4, 1, 5, 5, 8, 6, 3, 3, 2, 3, 4, 2, 19, 12, 5, 9, 1, 4]
def mRtL : List (Option FieldType) := [none, none, none, (some .long), (some .long), (some .long), (some .boolean), none, none, none, none, (some .int), none, none, (some .long), none, none, none, (some .long), (some .int), none, none, none, (some .int), none, (some .int), (some .int), (some .int), none, none, (some .boolean), (some .int), (some .int), (some .int), (some .long), (some .int), (some .int), (some .int), none, none, none, (some .boolean), (some .int), none, (some .int), (some .int), none, none, (some .int), (some .int), (some .int), (some .boolean), none, (some .boolean), (some .int), (some .int), (some .int), (some .int), none, (some .boolean), (some .boolean), (some .int), (some .int), none, none, (some .int), (some .int), (some .int), (some .int), (some .int), (some .boolean), (some .int), (some .int), (some .long), (some .int), (some .int), (some .int), none, none, none, (some .long), none, none, none, (some .int), none, none, none, (some .int), none, (some .int), (some .int), (some .int), (some .int), (some .int), none, (some .boolean), none, none, none, (some .boolean), (some .int), (some .int), (some .int), none, (some (.object "PoleSets$Group")), none, none, (some .int), none, (some .int), (some .boolean), (some .int), (some .boolean), (some .int), (some .int), (some .int), none, (some .int), (some .int), (some .int), (some .int), (some .int), (some .int), (some .int), (some .int), (some .int), (some .int), (some .int), (some .int), (some .long), (some .int), (some .int), (some .int), (some .int), (some .int), (some .int), (some .int), (some .int), (some .int), (some .int), (some .int), (some .int), (some .int), (some .int), (some .int), (some .int), (some .int), (some .int), (some .int), (some .int), (some .int), (some .int), (some .int), (some .int), (some .long), (some .int), (some .int), (some .int), (some .int), (some .int), (some .int), (some .int), (some .int), (some .int), (some .int), (some .boolean), (some .boolean), (some .boolean), (some .boolean), (some .long), (some .long), (some .long), (some .int), (some .int), (some .int), none, (some .int), (some .int), (some .int), (some .long), (some .boolean), (some .int), (some .int), (some .long), (some .int), none, none, (some .long), (some .long), (some .boolean), (some .int), (some .long), (some .long), (some .int), (some .boolean), (some .int), (some .int), (some .int), (some .boolean), (some .boolean), (some .boolean), (some .int), (some .int), (some .int), (some .int), (some .int), (some .int), none, (some .int), none, (some .int), (some .int), (some .int), none, none, none, (some .boolean), none, none, none, none, none, (some .int), (some .int), (some .int), (some .int), (some .long), (some .int), (some .long), (some .long), (some .int), (some .boolean), (some .int), (some .int), (some .boolean), (some .boolean), (some .int), (some .int), (some .int), (some .int), (some .int), (some .int), (some .int), (some .long), (some .int), (some .int), (some .int), (some .int), (some .int), (some .int), (some .int), (some .int), (some .int), (some .boolean), (some .int), (some .int), (some .int), (some .int), (some .int), (some .int), (some .boolean), none, (some .boolean), (some .int), (some .int), (some .int), (some .long), (some .int), (some .int), (some .int), (some .int), none, (some .int), (some .long), (some .int), (some .int), (some .int), (some .int), (some .long), (some .boolean), (some .int), (some .int), none, none, (some .boolean), (some .long), (some .boolean), (some .int), (some .int), (some .int), (some .int), none, (some .int), (some .int), (some .int), (some .boolean), (some .int), (some .int), (some .int), (some .int), (some .int), (some .int), (some .int), none, (some .int), (some .int), (some .int), (some .int), some .boolean]
def mOwL : List Nat := [0, 0, 0, 0, 0, 0, 0, 0, 0, 1, 1, 1, 2, 2, 2, 3, 3, 3, 3, 3, 3, 4, 4, 4, 5, 5, 5, 5, 5, 5, 5, 5, 5, 5, 5, 5, 5, 5, 6, 6, 6, 6, 6, 6, 6, 6, 7, 7, 7, 7, 7, 7, 7, 7, 7, 7, 7, 7, 8, 8, 8, 8, 8, 8, 8, 8, 8, 8, 8, 8, 8, 8, 8, 8, 8, 8, 8, 9, 9, 9, 9, 9, 9, 9, 9, 9, 10, 10, 10, 10, 10, 10, 10, 10, 10, 10, 10, 10, 10, 10, 10, 10, 10, 10, 10, 10, 10, 10, 10, 10, 10, 10, 10, 10, 10, 10, 10, 11, 11, 11, 11, 11, 11, 11, 11, 11, 11, 11, 11, 11, 11, 11, 11, 11, 11, 11, 11, 11, 11, 11, 11, 11, 11, 11, 11, 11, 11, 11, 11, 11, 11, 11, 11, 11, 11, 11, 11, 11, 11, 11, 11, 11, 11, 11, 11, 11, 11, 11, 11, 11, 11, 11, 11, 11, 11, 11, 12, 12, 12, 12, 12, 12, 12, 12, 12, 12, 12, 12, 12, 12, 12, 12, 12, 12, 12, 12, 12, 12, 12, 12, 12, 12, 12, 12, 12, 12, 12, 12, 12, 12, 12, 12, 12, 12, 12, 12, 12, 12, 12, 12, 12, 12, 12, 12, 12, 12, 12, 12, 12, 12, 12, 12, 12, 12, 12, 12, 12, 12, 12, 12, 12, 12, 12, 12, 12, 12, 12, 12, 12, 12, 12, 12, 12, 12, 12, 12, 12, 12, 12, 12, 12, 12, 12, 12, 12, 12, 12, 12, 12, 12, 12, 12, 12, 12, 12, 12, 12, 12, 12, 12, 12, 12, 12, 12, 12, 12, 12, 12, 12, 12, 12, 12, 12, 12, 12, 12, 12, 12, 12, 12, 12, 12, 12, 12, 12, 12, 12, 12, 15, 13]
def mNpL : List Nat := [0, 3, 1, 1, 1, 0, 0, 2, 0, 1, 2, 1, 0, 2, 1, 0, 0, 3, 0, 0, 1, 3, 3, 4, 0, 1, 1, 1, 3, 3, 3, 2, 3, 1, 2, 2, 2, 1, 3, 1, 0, 0, 1, 0, 0, 0, 2, 4, 2, 2, 2, 3, 0, 3, 2, 0, 2, 1, 1, 1, 1, 3, 4, 1, 1, 2, 2, 2, 1, 0, 1, 2, 1, 0, 2, 2, 2, 2, 0, 2, 1, 0, 3, 0, 1, 1, 2, 2, 4, 0, 2, 2, 1, 2, 1, 0, 1, 0, 1, 2, 1, 2, 0, 0, 0, 1, 2, 2, 2, 2, 2, 2, 2, 3, 2, 2, 2, 0, 0, 3, 4, 1, 2, 1, 4, 1, 2, 2, 2, 2, 2, 2, 1, 2, 2, 3, 0, 1, 1, 2, 1, 1, 2, 2, 2, 3, 3, 2, 1, 2, 1, 3, 2, 3, 5, 6, 3, 1, 1, 1, 0, 4, 4, 1, 1, 1, 2, 3, 2, 3, 2, 1, 2, 2, 2, 2, 0, 0, 1, 1, 1, 3, 1, 1, 1, 2, 2, 2, 6, 3, 3, 2, 2, 1, 2, 3, 4, 1, 3, 2, 1, 1, 4, 1, 2, 1, 4, 1, 2, 0, 0, 1, 2, 1, 0, 5, 5, 0, 0, 1, 1, 0, 1, 0, 1, 0, 0, 0, 0, 1, 2, 2, 3, 1, 1, 1, 2, 0, 1, 1, 2, 2, 2, 2, 2, 2, 2, 1, 2, 2, 2, 3, 0, 1, 1, 1, 1, 2, 1, 1, 1, 1, 1, 1, 2, 2, 2, 0, 3, 3, 3, 2, 0, 1, 0, 2, 1, 3, 2, 4, 2, 3, 5, 6, 2, 1, 6, 2, 0, 3, 2, 1, 0, 0, 2, 2, 4, 2, 0, 1, 1, 2, 1, 0, 5, 4, 4, 4, 1, 1]
def mKdL : List Nat := [2, 0, 0, 0, 0, 0, 0, 0, 0, 2, 0, 0, 2, 0, 0, 2, 0, 0, 0, 0, 0, 2, 0, 0, 2, 1, 0, 0, 0, 0, 0, 0, 0, 0, 0, 0, 0, 0, 2, 0, 0, 0, 0, 0, 0, 0, 2, 0, 1, 0, 0, 0, 0, 0, 0, 0, 0, 0, 2, 0, 0, 0, 0, 0, 0, 0, 0, 0, 0, 0, 0, 0, 0, 0, 0, 0, 0, 2, 0, 0, 0, 0, 1, 0, 0, 0, 2, 0, 0, 0, 0, 0, 0, 0, 0, 0, 0, 0, 0, 0, 0, 0, 0, 0, 0, 0, 0, 0, 0, 0, 0, 0, 0, 0, 0, 0, 0, 2, 0, 0, 0, 0, 0, 0, 0, 0, 0, 0, 0, 0, 0, 0, 0, 0, 0, 0, 0, 0, 0, 0, 0, 0, 0, 0, 0, 0, 0, 0, 0, 0, 0, 0, 0, 0, 0, 0, 0, 0, 0, 0, 0, 0, 0, 0, 0, 0, 0, 1, 1, 1, 1, 1, 1, 1, 1, 1, 2, 0, 0, 0, 0, 1, 1, 1, 1, 1, 0, 0, 1, 1, 1, 1, 0, 0, 0, 0, 0, 0, 0, 1, 0, 0, 0, 0, 0, 0, 0, 0, 0, 0, 0, 0, 0, 0, 0, 0, 0, 0, 0, 0, 0, 0, 0, 0, 0, 0, 0, 0, 0, 0, 0, 0, 0, 0, 0, 0, 0, 0, 0, 0, 0, 0, 0, 0, 0, 0, 0, 0, 0, 0, 0, 0, 0, 0, 0, 0, 0, 0, 0, 0, 0, 0, 0, 1, 0, 0, 0, 0, 0, 0, 0, 0, 0, 0, 0, 0, 0, 0, 0, 0, 0, 0, 0, 0, 0, 1, 0, 0, 0, 0, 1, 1, 0, 0, 0, 0, 0, 0, 0, 0, 0, 0, 0, 0, 0, 0, 0, 0, 1, 1]
/-- where a method's own words stand in the table: its code, what it is (of an object or none), its choice, its class -/
def mWsL : List (Nat × Nat × Nat × Nat) := [(155, 154, 0, 105), (674, 672, 673, 105), (831, 829, 830, 105), (929, 927, 928, 105), (716, 714, 715, 105), (721, 719, 720, 105), (1309, 1307, 1308, 105), (1289, 1287, 1288, 105), (851, 849, 850, 105), (184, 183, 0, 106), (697, 695, 696, 106), (925, 923, 924, 106), (299, 298, 0, 108), (811, 809, 810, 108), (969, 967, 968, 108), (305, 304, 0, 109), (836, 834, 835, 109), (841, 839, 840, 109), (973, 971, 972, 109), (980, 978, 979, 109), (846, 844, 845, 109), (583, 582, 0, 113), (1390, 1389, 28, 113), (1383, 1381, 1382, 113), (129, 128, 0, 103), (133, 132, 0, 103), (1342, 1340, 1341, 103), (1167, 1165, 1166, 103), (707, 705, 706, 103), (670, 668, 669, 103), (1040, 1038, 1039, 103), (732, 730, 731, 103), (1083, 1081, 1082, 103), (859, 857, 858, 103), (864, 863, 10, 103), (869, 868, 11, 103), (1315, 1313, 1314, 103), (855, 853, 854, 103), (447, 446, 0, 110), (1106, 1104, 1105, 110), (1110, 1109, 19, 110), (1115, 1114, 20, 110), (1119, 1118, 21, 110), (1125, 1124, 22, 110), (1132, 1130, 1131, 110), (1136, 1134, 1135, 110), (542, 541, 0, 112), (771, 769, 770, 112), (886, 885, 0, 112), (883, 881, 882, 112), (1330, 1328, 1329, 112), (1303, 1301, 1302, 112), (1323, 1321, 1322, 112), (1338, 1337, 27, 112), (1334, 1332, 1333, 112), (1348, 1346, 1347, 112), (1367, 1365, 1366, 112), (1356, 1354, 1355, 112), (148, 147, 0, 104), (689, 687, 688, 104), (743, 741, 742, 104), (666, 664, 665, 104), (693, 691, 692, 104), (747, 745, 746, 104), (763, 761, 762, 104), (712, 710, 711, 104), (795, 793, 794, 104), (955, 953, 954, 104), (921, 919, 920, 104), (905, 903, 904, 104), (909, 908, 13, 104), (937, 935, 936, 104), (941, 940, 14, 104), (1163, 1161, 1162, 104), (1154, 1152, 1153, 104), (1177, 1175, 1176, 104), (1233, 1231, 1232, 104), (488, 487, 0, 111), (1185, 1183, 1184, 111), (1189, 1188, 23, 111), (1205, 1204, 24, 111), (1199, 1197, 1198, 111), (1210, 1209, 0, 111), (1218, 1216, 1217, 111), (1224, 1223, 25, 111), (1241, 1239, 1240, 111), (291, 290, 0, 107), (755, 753, 754, 107), (791, 790, 4, 107), (787, 786, 3, 107), (783, 782, 2, 107), (1062, 1060, 1061, 107), (1093, 1091, 1092, 107), (1024, 1022, 1023, 107), (1028, 1027, 17, 107), (1070, 1068, 1069, 107), (1074, 1073, 18, 107), (779, 777, 778, 107), (799, 798, 5, 107), (807, 806, 6, 107), (964, 962, 963, 107), (996, 994, 995, 107), (913, 911, 912, 107), (1053, 1051, 1052, 107), (775, 773, 774, 107), (815, 813, 814, 107), (819, 818, 7, 107), (823, 822, 8, 107), (827, 826, 9, 107), (874, 873, 12, 107), (1016, 1014, 1015, 107), (1044, 1042, 1043, 107), (1036, 1034, 1035, 107), (1254, 1253, 26, 107), (1250, 1248, 1249, 107), (1258, 1256, 1257, 107), (1265, 1263, 1264, 107), (121, 120, 0, 102), (647, 645, 646, 102), (651, 649, 650, 102), (682, 680, 681, 102), (739, 737, 738, 102), (751, 749, 750, 102), (759, 757, 758, 102), (767, 765, 766, 102), (900, 898, 899, 102), (917, 915, 916, 102), (933, 931, 932, 102), (946, 944, 945, 102), (951, 949, 950, 102), (960, 958, 959, 102), (992, 990, 991, 102), (1004, 1002, 1003, 102), (1008, 1006, 1007, 102), (1020, 1018, 1019, 102), (1032, 1030, 1031, 102), (1049, 1047, 1048, 102), (1058, 1056, 1057, 102), (1066, 1064, 1065, 102), (1079, 1077, 1078, 102), (1089, 1087, 1088, 102), (1098, 1096, 1097, 102), (1102, 1100, 1101, 102), (1140, 1138, 1139, 102), (1144, 1142, 1143, 102), (1149, 1147, 1148, 102), (1159, 1157, 1158, 102), (1173, 1171, 1172, 102), (1181, 1179, 1180, 102), (1195, 1193, 1194, 102), (1214, 1212, 1213, 102), (1229, 1227, 1228, 102), (1237, 1235, 1236, 102), (1246, 1244, 1245, 102), (1279, 1277, 1278, 102), (1285, 1283, 1284, 102), (1297, 1295, 1296, 102), (1319, 1317, 1318, 102), (1352, 1350, 1351, 102), (1362, 1360, 1361, 102), (1375, 1373, 1374, 102), (1379, 1377, 1378, 102), (1400, 1398, 1399, 102), (678, 677, 1, 102), (662, 661, 0, 102), (1000, 999, 15, 102), (1012, 1011, 16, 102), (657, 656, 0, 102), (685, 684, 0, 102), (654, 653, 0, 102), (138, 137, 0, 102), (725, 724, 0, 102), (1268, 1267, 0, 102), (700, 699, 0, 102), (703, 702, 0, 102), (703, 702, 0, 102), (1405, 1404, 0, 114), (1558, 1556, 1557, 114), (1570, 1569, 29, 114), (1585, 1584, 31, 114), (1827, 1826, 71, 114), (1565, 1564, 0, 114), (1580, 1579, 0, 114), (1577, 1576, 0, 114), (1711, 1710, 0, 114), (1603, 1602, 0, 114), (1600, 1599, 33, 114), (1574, 1573, 30, 114), (1642, 1641, 0, 114), (1649, 1648, 0, 114), (1652, 1651, 0, 114), (1811, 1810, 0, 114), (1639, 1638, 38, 114), (1646, 1645, 39, 114), (1808, 1807, 69, 114), (1635, 1634, 37, 114), (1707, 1706, 52, 114), (1703, 1702, 51, 114), (1562, 1560, 1561, 114), (1592, 1591, 0, 114), (1596, 1595, 32, 114), (1611, 1610, 34, 114), (1589, 1587, 1588, 114), (1607, 1605, 1606, 114), (1615, 1613, 1614, 114), (1619, 1617, 1618, 114), (1623, 1621, 1622, 114), (1658, 1657, 40, 114), (1631, 1630, 36, 114), (1663, 1662, 41, 114), (1627, 1626, 35, 114), (1788, 1787, 67, 114), (1691, 1690, 48, 114), (1687, 1686, 47, 114), (1699, 1698, 50, 114), (1718, 1717, 53, 114), (1695, 1694, 49, 114), (1722, 1721, 54, 114), (1726, 1725, 55, 114), (1683, 1682, 46, 114), (1679, 1678, 45, 114), (1675, 1674, 44, 114), (1730, 1729, 56, 114), (1738, 1737, 58, 114), (1746, 1745, 60, 114), (1742, 1741, 59, 114), (1734, 1733, 57, 114), (1831, 1830, 72, 114), (1835, 1834, 73, 114), (1852, 1851, 77, 114), (1848, 1847, 76, 114), (1844, 1843, 75, 114), (1860, 1859, 79, 114), (1840, 1839, 74, 114), (1856, 1855, 78, 114), (1823, 1822, 70, 114), (1880, 1879, 81, 114), (1784, 1783, 66, 114), (1780, 1778, 1779, 114), (1796, 1795, 68, 114), (1792, 1790, 1791, 114), (1800, 1798, 1799, 114), (1804, 1802, 1803, 114), (1815, 1813, 1814, 114), (1819, 1817, 1818, 114), (1868, 1867, 80, 114), (1864, 1862, 1863, 114), (1872, 1870, 1871, 114), (1884, 1883, 82, 114), (1876, 1874, 1875, 114), (1888, 1886, 1887, 114), (1892, 1890, 1891, 114), (1896, 1894, 1895, 114), (1900, 1898, 1899, 114), (1908, 1907, 83, 114), (1904, 1902, 1903, 114), (1916, 1915, 84, 114), (1912, 1910, 1911, 114), (1924, 1923, 85, 114), (1920, 1918, 1919, 114), (1928, 1926, 1927, 114), (1943, 1942, 87, 114), (1939, 1938, 86, 114), (1935, 1934, 0, 114), (1932, 1930, 1931, 114), (1947, 1945, 1946, 114), (1951, 1949, 1950, 114), (1967, 1966, 89, 114), (1959, 1958, 88, 114), (1955, 1953, 1954, 114), (1963, 1961, 1962, 114), (1971, 1969, 1970, 114), (1979, 1978, 90, 114), (1975, 1973, 1974, 114), (1987, 1986, 91, 114), (1983, 1981, 1982, 114), (1991, 1989, 1990, 114), (1996, 1994, 1995, 114), (2000, 1998, 1999, 114), (2013, 2012, 93, 114), (2008, 2007, 92, 114), (2004, 2002, 2003, 114), (2017, 2015, 2016, 114), (1759, 1758, 63, 114), (1755, 1754, 62, 114), (2024, 2023, 0, 114), (2021, 2019, 2020, 114), (1750, 1749, 61, 114), (1763, 1762, 64, 114), (2029, 2027, 2028, 114), (1770, 1769, 0, 114), (1776, 1775, 0, 114), (1671, 1670, 43, 114), (1667, 1666, 42, 114), (1767, 1766, 65, 114), (2037, 2036, 94, 114), (2045, 2044, 96, 114), (2041, 2040, 95, 114), (2049, 2048, 97, 114), (2033, 2031, 2032, 114), (2053, 2051, 2052, 114), (2061, 2060, 98, 114), (2057, 2055, 2056, 114), (2065, 2063, 2064, 114), (2077, 2076, 100, 114), (2073, 2072, 99, 114), (2069, 2067, 2068, 114), (2081, 2079, 2080, 114), (893, 892, 0, 116)]
def mName (y : Nat) : MethodName := mNmL.getD y x
def mCode (y : Nat) : ByteArray := mCdL.getD y code
def mMx (y : Nat) : Nat := mMxL.getD y 0
def mRt (y : Nat) : Option FieldType := mRtL.getD y none
def mOw (y : Nat) : Nat := mOwL.getD y 0
def mNp (y : Nat) : Nat := mNpL.getD y 0
def mKd (y : Nat) : Nat := mKdL.getD y 0
def mWs (y : Nat) : Nat × Nat × Nat × Nat := mWsL.getD y (0, 0, 0, 0)
def calL : List (List (Nat × Nat × Nat × Nat)) := [
  [(21, 1, 0, 832)],
  [(15, 0, 1, 187), (26, 173, 1, 698), (35, 174, 1, 701), (50, 3, 0, 926)],
  [(9, 15, 0, 303), (18, 0, 1, 319), (47, 18, 0, 970), (51, 19, 0, 977), (64, 3, 0, 988)],
  [(11, 0, 1, 308), (18, 1, 0, 837), (26, 4, 0, 842), (39, 5, 0, 974), (43, 171, 1, 975), (49, 18, 0, 981), (57, 170, 1, 847), (66, 8, 0, 848)],
  [(25, 0, 1, 586), (41, 15, 0, 588), (46, 27, 0, 1384), (52, 26, 0, 1385), (57, 4, 0, 1392), (61, 7, 0, 1393), (75, 1, 0, 1386), (85, 22, 0, 1387), (89, 16, 0, 1394), (114, 17, 0, 1395), (118, 19, 0, 1396)],
  [(15, 25, 0, 131), (22, 170, 1, 136), (32, 173, 1, 708), (35, 1, 0, 671), (41, 4, 0, 733), (47, 5, 0, 735), (51, 31, 0, 1084), (69, 34, 0, 861), (73, 35, 0, 866), (77, 33, 0, 856), (81, 174, 1, 870)],
  [(33, 0, 1, 450), (36, 15, 0, 452), (51, 40, 0, 1107), (57, 41, 0, 1112), (61, 43, 0, 1122), (74, 2, 0, 1111), (88, 42, 0, 1116), (92, 32, 0, 1120), (98, 31, 0, 1121), (102, 16, 0, 1126), (108, 17, 0, 1127), (112, 20, 0, 1128)],
  [(21, 0, 1, 545), (75, 48, 0, 884), (82, 7, 0, 1304), (86, 8, 0, 1305), (89, 6, 0, 1306), (94, 51, 0, 1324), (98, 33, 0, 1325), (104, 36, 0, 1326), (108, 26, 0, 1339), (112, 27, 0, 1343), (117, 53, 0, 1335), (121, 49, 0, 1368), (124, 308, 0, 1369), (129, 50, 0, 1370), (132, 54, 0, 1371), (137, 170, 1, 1358)],
  [(31, 0, 1, 153), (38, 9, 0, 182), (54, 29, 0, 667), (66, 10, 0, 694), (74, 28, 0, 704), (77, 65, 0, 709), (84, 31, 0, 729), (93, 4, 0, 713), (99, 5, 0, 718), (103, 170, 1, 722), (107, 171, 1, 723), (111, 66, 0, 956), (118, 70, 0, 906), (122, 72, 0, 938), (126, 3, 0, 942), (130, 30, 0, 1155)],
  [(21, 0, 1, 491), (76, 79, 0, 1186), (80, 73, 0, 1190), (84, 170, 1, 1191), (100, 78, 0, 1200), (103, 28, 0, 1201), (109, 80, 0, 1202), (113, 5, 0, 1207), (116, 82, 0, 1208), (121, 29, 0, 1220), (124, 84, 0, 1221), (128, 65, 0, 1225), (135, 74, 0, 1242)],
  [(35, 12, 0, 297), (80, 66, 0, 792), (84, 89, 0, 784), (87, 88, 0, 788), (91, 90, 0, 780), (94, 91, 0, 1094), (97, 94, 0, 1025), (115, 96, 0, 1071), (119, 101, 0, 1075), (125, 98, 0, 796), (132, 99, 0, 804), (146, 13, 0, 808), (149, 97, 0, 776), (155, 102, 0, 1054), (159, 105, 0, 812), (166, 106, 0, 816), (170, 107, 0, 820), (177, 16, 0, 833), (191, 17, 0, 838), (195, 2, 0, 828), (199, 20, 0, 843), (202, 37, 0, 852), (214, 109, 0, 871), (217, 108, 0, 824), (226, 31, 0, 875), (239, 110, 0, 1045), (242, 30, 0, 1037), (249, 113, 0, 1251), (253, 114, 0, 1259), (260, 170, 1, 1261), (267, 172, 1, 1266), (271, 115, 0, 1274)],
  [(9, 24, 0, 127), (18, 58, 0, 146), (27, 86, 0, 289), (36, 38, 0, 445), (45, 77, 0, 486), (52, 46, 0, 540), (61, 21, 0, 581), (68, 0, 1, 615), (77, 169, 0, 652), (81, 164, 0, 659), (88, 61, 0, 663), (92, 163, 0, 675), (95, 168, 0, 683), (99, 59, 0, 686), (110, 62, 0, 690), (114, 60, 0, 740), (117, 63, 0, 744), (121, 167, 0, 655), (130, 87, 0, 752), (137, 64, 0, 760), (140, 47, 0, 768), (144, 104, 0, 772), (147, 49, 0, 880), (151, 308, 0, 891), (156, 97, 0, 901), (159, 69, 0, 902), (166, 102, 0, 910), (169, 68, 0, 918), (179, 11, 0, 922), (184, 71, 0, 934), (187, 66, 0, 947), (190, 67, 0, 952), (193, 100, 0, 961), (196, 105, 0, 965), (200, 14, 0, 966), (205, 101, 0, 993), (208, 165, 0, 997), (211, 166, 0, 1009), (214, 110, 0, 1013), (217, 93, 0, 1021), (220, 112, 0, 1033), (223, 111, 0, 1041), (226, 103, 0, 1050), (229, 91, 0, 1059), (232, 95, 0, 1067), (248, 32, 0, 1080), (252, 31, 0, 1085), (256, 92, 0, 1090), (259, 39, 0, 1103), (265, 44, 0, 1129), (268, 45, 0, 1133), (273, 37, 0, 1145), (277, 28, 0, 1150), (281, 74, 0, 1151), (285, 73, 0, 1160), (289, 27, 0, 1164), (294, 75, 0, 1174), (298, 78, 0, 1182), (305, 81, 0, 1196), (314, 83, 0, 1215), (320, 76, 0, 1230), (323, 85, 0, 1238), (329, 114, 0, 1247), (332, 115, 0, 1255), (335, 116, 0, 1262), (338, 29, 0, 1280), (344, 172, 0, 1281), (348, 170, 0, 1272), (353, 7, 0, 1286), (357, 4, 0, 1269), (373, 51, 0, 1300), (377, 3, 0, 1310), (380, 33, 0, 1311), (383, 36, 0, 1312), (386, 52, 0, 1320), (395, 50, 0, 1327), (398, 54, 0, 1331), (401, 55, 0, 1345), (407, 57, 0, 1353), (411, 56, 0, 1364), (414, 23, 0, 1380), (425, 5, 0, 1271), (428, 171, 0, 1273)],
  [(111, 182, 0, 1578), (120, 185, 0, 1601), (124, 183, 0, 1575), (136, 188, 0, 1640), (142, 190, 0, 1650), (146, 189, 0, 1647), (150, 192, 0, 1636), (154, 193, 0, 1643), (158, 191, 0, 1809), (164, 184, 0, 1709), (174, 196, 0, 1704), (178, 181, 0, 1563), (183, 178, 0, 1567), (189, 187, 0, 1571), (193, 179, 0, 1582), (199, 199, 0, 1590), (203, 200, 0, 1593), (207, 186, 0, 1597), (210, 201, 0, 1608), (216, 210, 0, 1624), (219, 293, 0, 1664), (223, 291, 0, 1774), (229, 195, 0, 1632), (233, 207, 0, 1655), (238, 208, 0, 1628), (241, 209, 0, 1660), (247, 212, 0, 1688), (263, 214, 0, 1696), (266, 197, 0, 1700), (269, 215, 0, 1715), (273, 218, 0, 1723), (276, 213, 0, 1684), (279, 216, 0, 1692), (283, 219, 0, 1680), (287, 217, 0, 1719), (291, 220, 0, 1676), (294, 223, 0, 1735), (297, 224, 0, 1743), (300, 225, 0, 1739), (303, 227, 0, 1828), (309, 230, 0, 1845), (312, 229, 0, 1849), (315, 231, 0, 1841), (321, 232, 0, 1857), (324, 235, 0, 1820), (327, 237, 0, 1781), (330, 211, 0, 1785), (333, 239, 0, 1793), (336, 194, 0, 1805), (339, 221, 0, 1672), (342, 222, 0, 1727), (345, 180, 0, 1824), (348, 226, 0, 1731), (351, 228, 0, 1832), (354, 233, 0, 1837), (357, 234, 0, 1853), (360, 245, 0, 1865), (363, 236, 0, 1877), (366, 248, 0, 1881), (369, 254, 0, 1905), (372, 256, 0, 1913), (375, 258, 0, 1921), (381, 261, 0, 1940), (384, 263, 0, 1933), (387, 262, 0, 1936), (390, 268, 0, 1956), (394, 267, 0, 1964), (397, 272, 0, 1976), (400, 274, 0, 1984), (414, 279, 0, 2010), (421, 280, 0, 2005), (424, 283, 0, 1756), (428, 285, 0, 2022), (431, 284, 0, 1752), (437, 287, 0, 1747), (440, 288, 0, 1760), (445, 292, 0, 1668), (448, 294, 0, 1764), (451, 290, 0, 1768), (454, 296, 0, 2042), (458, 295, 0, 2034), (461, 297, 0, 2038), (464, 298, 0, 2046), (467, 301, 0, 2058), (470, 304, 0, 2074), (474, 305, 0, 2070)],
  [(9, 117, 0, 119), (12, 176, 0, 1403), (13, 118, 0, 644), (17, 177, 0, 1555), (18, 119, 0, 648), (22, 198, 0, 1559), (23, 120, 0, 679), (27, 202, 0, 1586), (28, 121, 0, 736), (32, 203, 0, 1604), (33, 122, 0, 748), (37, 204, 0, 1612), (38, 123, 0, 756), (41, 205, 0, 1616), (42, 124, 0, 764), (45, 206, 0, 1620), (46, 125, 0, 897), (49, 238, 0, 1777), (50, 126, 0, 914), (53, 240, 0, 1789), (54, 127, 0, 930), (57, 241, 0, 1797), (58, 128, 0, 943), (61, 242, 0, 1801), (62, 129, 0, 948), (65, 243, 0, 1812), (66, 130, 0, 957), (70, 244, 0, 1816), (71, 131, 0, 989), (74, 246, 0, 1861), (75, 132, 0, 1001), (78, 247, 0, 1869), (79, 133, 0, 1005), (82, 249, 0, 1873), (83, 134, 0, 1017), (86, 250, 0, 1885), (87, 135, 0, 1029), (90, 251, 0, 1889), (91, 136, 0, 1046), (94, 252, 0, 1893), (95, 137, 0, 1055), (98, 253, 0, 1897), (99, 138, 0, 1063), (102, 255, 0, 1901), (103, 139, 0, 1076), (106, 257, 0, 1909), (107, 140, 0, 1086), (110, 259, 0, 1917), (111, 141, 0, 1095), (114, 260, 0, 1925), (115, 142, 0, 1099), (118, 264, 0, 1929), (119, 143, 0, 1137), (122, 265, 0, 1944), (123, 144, 0, 1141), (126, 266, 0, 1948), (127, 145, 0, 1146), (130, 269, 0, 1952), (131, 146, 0, 1156), (134, 270, 0, 1960), (135, 147, 0, 1170), (138, 271, 0, 1968), (139, 148, 0, 1178), (142, 273, 0, 1972), (143, 149, 0, 1192), (147, 275, 0, 1980), (148, 150, 0, 1211), (151, 276, 0, 1988), (152, 151, 0, 1226), (155, 277, 0, 1993), (156, 152, 0, 1234), (159, 278, 0, 1997), (160, 153, 0, 1243), (163, 281, 0, 2001), (164, 154, 0, 1276), (168, 282, 0, 2014), (169, 155, 0, 1282), (173, 286, 0, 2018), (174, 156, 0, 1294), (177, 289, 0, 2026), (178, 157, 0, 1316), (181, 299, 0, 2030), (182, 158, 0, 1349), (185, 300, 0, 2050), (186, 159, 0, 1359), (189, 302, 0, 2054), (190, 160, 0, 1372), (193, 303, 0, 2062), (194, 161, 0, 1376), (197, 306, 0, 2066), (198, 162, 0, 1397), (201, 307, 0, 2078)],
  [],
  []]
def calE (own idx : Nat) : Option (Nat × Nat × Nat × Nat) := (calL.getD own []).find? (fun q => q.1 == idx)
def cal (own idx : Nat) : Option Nat := (calE own idx).map (fun q => q.2.1)
def objL : List (List (Nat × Nat)) := [[(3, 156)], [(1, 185)], [(1, 300)], [(3, 306)], [(3, 584)], [(3, 130)], [(3, 448)], [(3, 543)], [(3, 149)], [(3, 489)], [(3, 292)], [(1, 122)], [(1, 1406)], [], [], []]
def objE (own idx : Nat) : Option (Nat × Nat) := (objL.getD own []).find? (fun q => q.1 == idx)
def prmL : List (List (Nat × Nat × Nat)) := [[], [], [], [(61, 3, 985)], [], [(26, 5, 1168)], [], [(49, 5, 887), (55, 1, 890)], [], [], [(101, 0, 876), (106, 1, 801)], [(361, 4, 1291), (367, 1, 1298), (370, 0, 1299)], [(168, 3, 1714), (236, 1, 1659), (318, 0, 1751), (434, 4, 2025), (443, 2, 1771)], [], [], []]
def prmE (own idx : Nat) : Option (Nat × Nat × Nat) := (prmL.getD own []).find? (fun q => q.1 == idx)
def prm (own idx : Nat) : Option Nat := (prmE own idx).map (fun q => q.2.1)
def prNm : List MethodName := [⟨"java/lang/Math", "max", "(II)I"⟩, ⟨"java/lang/Math", "min", "(II)I"⟩, ⟨"java/lang/Math", "abs", "(I)I"⟩, ⟨"java/lang/Math", "min", "(JJ)J"⟩, ⟨"java/lang/Math", "abs", "(J)J"⟩, ⟨"java/lang/Math", "floorMod", "(II)I"⟩]
def kiL : List (List (Nat × Int32 × Nat)) := [[], [], [], [(52, 1000000, 982)], [], [(21, 40500, 135)], [], [], [], [(120, 1073741824, 1219)], [(136, 1073741824, 800), (256, 100000, 1260)], [(352, 100000, 658), (410, 1073741824, 1363)], [(115, 40500, 1581), (182, 100000, 1566), (232, 1000000, 1654), (407, 100001, 2009)], [], [], [(265, 1431655765, 894), (266, 858993459, 895), (267, 252645135, 896)]]
def klL : List (List (Nat × Int64 × Nat)) := [[(25, 1000, 1290)], [], [], [(47, 1000, 976), (53, 1000000, 983), (55, 100, 984)], [(55, 1000, 1391)], [(19, 4000, 134), (45, 1000000, 734), (55, (-1), 860), (64, 1000, 865)], [], [(115, 1000, 1344), (135, 100, 1357)], [(97, 1000000, 717)], [(98, 2, 1206)], [(233, 2, 879), (274, 1000, 1275)], [(292, 1000, 1169), (417, 4294967296, 726), (419, 32768, 727), (421, 1073741824, 728), (423, 1000000, 1270)], [(116, 3037000499, 1712), (118, 2, 1713), (140, 1000000, 1653), (162, 1000, 1708), (307, 100, 1836), (405, 9223372036854775807, 1992)], [], [], []]
def kiE (own idx : Nat) : Option (Nat × Int32 × Nat) := (kiL.getD own []).find? (fun q => q.1 == idx)
def klE (own idx : Nat) : Option (Nat × Int64 × Nat) := (klL.getD own []).find? (fun q => q.1 == idx)
def kI (own idx : Nat) : Option Int32 := (kiE own idx).map (fun q => q.2.1)
def kL (own idx : Nat) : Option Int64 := (klE own idx).map (fun q => q.2.1)
def clkL : List (List (Nat × Nat × Nat)) := [[], [(13, 0, 186)], [(7, 3, 301), (16, 0, 318)], [(9, 0, 307)], [(23, 0, 585), (39, 3, 587)], [], [(27, 0, 449), (34, 3, 451)], [(19, 0, 544)], [(25, 0, 150), (32, 1, 179)], [(19, 0, 490)], [(23, 2, 293), (29, 0, 295)], [(7, 5, 125), (16, 8, 144), (25, 10, 287), (34, 6, 443), (43, 9, 484), (50, 7, 538), (59, 4, 579), (66, 0, 614)], [], [(7, 11, 117), (10, 12, 1401)], [], []]
def clkE (own idx : Nat) : Option (Nat × Nat × Nat) := (clkL.getD own []).find? (fun q => q.1 == idx)
def clk (own idx : Nat) : Option Nat := (clkE own idx).map (fun q => q.2.1)
def cWsL : List (Nat × Nat) := [(152, 105), (181, 106), (296, 108), (302, 109), (580, 113), (126, 103), (444, 110), (539, 112), (145, 104), (485, 111), (288, 107), (118, 102), (1402, 114)]
def cWs (c : Nat) : Nat × Nat := cWsL.getD c (0, 0)
/-- arrays of references: kind, class of the elements, place of its word -/
def arkL : List (Nat × Nat × Nat) := [(4, 0, 151), (5, 1, 180), (6, 2, 294)]
def NT : Nat := 378
def shL : List (Nat × Nat) := [(2, 0), (1, 11), (1, 5), (2, 630), (1, 8), (2, 6), (2, 6), (2, 6), (4, 6), (5, 60), (2, 3600), (1, 10), (2, 60), (6, 30), (4, 30), (2, 60), (2, 60), (2, 60), (2, 60), (2, 60), (2, 46), (2, 91), (1, 6), (2, 60), (4, 30), (1, 3), (1, 0), (1, 9), (1, 0), (3, 6), (2, 2), (2, 2), (2, 3), (2, 3), (1, 7), (1, 0), (2, 900), (2, 900), (1, 4), (1, 0), (1, 0), (1, 0), (1, 0), (1, 3), (1, 0), (1, 0), (1, 12), (2, 6), (2, 6), (2, 6), (2, 60), (2, 60), (2, 60), (2, 60), (2, 60), (2, 60), (2, 60), (2, 6), (2, 6), (2, 6), (2, 60), (2, 60), (2, 60), (2, 60), (2, 30), (2, 30), (2, 30), (2, 60), (3, 6), (2, 30), (2, 30), (2, 900), (2, 900), (0, 0), (0, 0), (0, 0), (0, 0), (0, 0), (0, 0), (0, 0), (0, 0), (0, 0), (0, 0), (0, 0), (0, 0), (0, 0), (0, 0), (0, 0), (0, 0), (0, 0), (0, 0), (0, 0), (0, 0), (0, 0), (0, 0), (0, 0), (0, 0), (0, 0), (0, 0), (0, 0)]
def psL : List Nat := [0, 0, 1, 2, 3, 4, 5, 6, 7, 14, 135, 136, 137, 138, 139, 290, 291, 292, 293, 294, 295, 296, 297, 298, 299, 330, 331, 332, 333, 334, 335, 336, 337, 338, 339, 340, 341, 342, 343, 344, 345, 346, 347, 348, 349, 350, 351, 352, 353, 354, 355, 356, 357, 358, 359, 360, 361, 362, 363, 364, 365, 366, 367, 368, 369, 370, 371, 372, 373, 374, 375, 376, 377, 0, 0, 0, 0, 0, 0, 0, 0, 0, 0, 0, 0, 0, 0, 0, 0, 0, 0, 0, 0, 0, 0, 0, 0, 0, 0, 0]
def SH (a : Nat) : Nat × Nat := if a < 100 then shL.getD a (0, 0) else if 100 ≤ a ∧ a < 106 then (1, 0) else if 200 ≤ a ∧ a < 260 then (1, 1) else if 300 ≤ a ∧ a < 360 then (1, 0) else if 400 ≤ a ∧ a < 430 then (1, 2) else if 500 ≤ a ∧ a < 530 then (1, 3) else if 600 ≤ a ∧ a < 630 then (1, 0) else if 700 ≤ a ∧ a < 730 then (1, 0) else if 800 ≤ a ∧ a < 830 then (1, 0) else if 900 ≤ a ∧ a < 930 then (1, 0) else (0, 0)
def pos (a : Nat) : Nat := if a < 100 then psL.getD a 0 else if a < 200 then 8 + 1 * (a - 100) else if a < 300 then 15 + 2 * (a - 200) else if a < 400 then 16 + 2 * (a - 300) else if a < 500 then 140 + 5 * (a - 400) else if a < 600 then 141 + 5 * (a - 500) else if a < 700 then 142 + 5 * (a - 600) else if a < 800 then 143 + 5 * (a - 700) else if a < 900 then 144 + 5 * (a - 800) else if a < 1000 then 300 + 1 * (a - 900) else 0
def adL : List Nat := [1, 2, 3, 4, 5, 6, 7, 8, 100, 101, 102, 103, 104, 105, 9, 200, 300, 201, 301, 202, 302, 203, 303, 204, 304, 205, 305, 206, 306, 207, 307, 208, 308, 209, 309, 210, 310, 211, 311, 212, 312, 213, 313, 214, 314, 215, 315, 216, 316, 217, 317, 218, 318, 219, 319, 220, 320, 221, 321, 222, 322, 223, 323, 224, 324, 225, 325, 226, 326, 227, 327, 228, 328, 229, 329, 230, 330, 231, 331, 232, 332, 233, 333, 234, 334, 235, 335, 236, 336, 237, 337, 238, 338, 239, 339, 240, 340, 241, 341, 242, 342, 243, 343, 244, 344, 245, 345, 246, 346, 247, 347, 248, 348, 249, 349, 250, 350, 251, 351, 252, 352, 253, 353, 254, 354, 255, 355, 256, 356, 257, 357, 258, 358, 259, 359, 10, 11, 12, 13, 14, 400, 500, 600, 700, 800, 401, 501, 601, 701, 801, 402, 502, 602, 702, 802, 403, 503, 603, 703, 803, 404, 504, 604, 704, 804, 405, 505, 605, 705, 805, 406, 506, 606, 706, 806, 407, 507, 607, 707, 807, 408, 508, 608, 708, 808, 409, 509, 609, 709, 809, 410, 510, 610, 710, 810, 411, 511, 611, 711, 811, 412, 512, 612, 712, 812, 413, 513, 613, 713, 813, 414, 514, 614, 714, 814, 415, 515, 615, 715, 815, 416, 516, 616, 716, 816, 417, 517, 617, 717, 817, 418, 518, 618, 718, 818, 419, 519, 619, 719, 819, 420, 520, 620, 720, 820, 421, 521, 621, 721, 821, 422, 522, 622, 722, 822, 423, 523, 623, 723, 823, 424, 524, 624, 724, 824, 425, 525, 625, 725, 825, 426, 526, 626, 726, 826, 427, 527, 627, 727, 827, 428, 528, 628, 728, 828, 429, 529, 629, 729, 829, 15, 16, 17, 18, 19, 20, 21, 22, 23, 24, 900, 901, 902, 903, 904, 905, 906, 907, 908, 909, 910, 911, 912, 913, 914, 915, 916, 917, 918, 919, 920, 921, 922, 923, 924, 925, 926, 927, 928, 929, 25, 26, 27, 28, 29, 30, 31, 32, 33, 34, 35, 36, 37, 38, 39, 40, 41, 42, 43, 44, 45, 46, 47, 48, 49, 50, 51, 52, 53, 54, 55, 56, 57, 58, 59, 60, 61, 62, 63, 64, 65, 66, 67, 68, 69, 70, 71, 72]
def ADR (i : Nat) : Nat := adL.getD i 0
def szSh (q : Nat × Nat) : Nat := if q.1 = 1 then nf q.2 else q.2
/-- how many slots the first n cells have together -/
def slN : Nat → Nat | 0 => 0 | n + 1 => slN n + szSh (SH (ADR n))
theorem inT1 {w : Jvm.Cond} (h : w ∈ tables_1_1) : w ∈ lw_tbl := List.mem_append_right _ (List.mem_append_left _ h)
theorem inT2 {w : Jvm.Cond} (h : w ∈ tables_1_2) : w ∈ lw_tbl := List.mem_append_right _ (List.mem_append_right _ (List.mem_append_left _ h))
theorem inT3 {w : Jvm.Cond} (h : w ∈ tables_1_3) : w ∈ lw_tbl := List.mem_append_right _ (List.mem_append_right _ (List.mem_append_right _ (List.mem_append_left _ h)))
theorem inT4 {w : Jvm.Cond} (h : w ∈ tables_1_4) : w ∈ lw_tbl := List.mem_append_right _ (List.mem_append_right _ (List.mem_append_right _ (List.mem_append_right _ (List.mem_append_left _ h))))
theorem inT5 {w : Jvm.Cond} (h : w ∈ tables_1_5) : w ∈ lw_tbl := List.mem_append_right _ (List.mem_append_right _ (List.mem_append_right _ (List.mem_append_right _ (List.mem_append_right _ (List.mem_append_left _ h)))))
theorem inT6 {w : Jvm.Cond} (h : w ∈ tables_1_6) : w ∈ lw_tbl := List.mem_append_right _ (List.mem_append_right _ (List.mem_append_right _ (List.mem_append_right _ (List.mem_append_right _ (List.mem_append_right _ (List.mem_append_left _ h))))))
theorem inT7 {w : Jvm.Cond} (h : w ∈ tables_1_7) : w ∈ lw_tbl := List.mem_append_right _ (List.mem_append_right _ (List.mem_append_right _ (List.mem_append_right _ (List.mem_append_right _ (List.mem_append_right _ (List.mem_append_right _ (List.mem_append_left _ h)))))))
theorem inT8 {w : Jvm.Cond} (h : w ∈ tables_1_8) : w ∈ lw_tbl := List.mem_append_right _ (List.mem_append_right _ (List.mem_append_right _ (List.mem_append_right _ (List.mem_append_right _ (List.mem_append_right _ (List.mem_append_right _ (List.mem_append_right _ (List.mem_append_left _ h))))))))
theorem inT9 {w : Jvm.Cond} (h : w ∈ tables_1_9) : w ∈ lw_tbl := List.mem_append_right _ (List.mem_append_right _ (List.mem_append_right _ (List.mem_append_right _ (List.mem_append_right _ (List.mem_append_right _ (List.mem_append_right _ (List.mem_append_right _ (List.mem_append_right _ (h)))))))))
def atW (p : Nat) (w : Jvm.Cond) : Bool := decide (lw_tbl[p]? = some w)
theorem atW_mem {p : Nat} {w : Jvm.Cond} (h : atW p w = true) : w ∈ lw_tbl := List.mem_of_getElem? (of_decide_eq_true h)
def chkF : Bool := (List.range 16).all fun own => (fldL.getD own []).all fun q => decide (q.2.1 < 13) && decide (q.2.2.1 < nf q.2.1) && atW q.2.2.2 (.fieldLink (cName own) q.1 (cName q.2.1) (fQ q.2.1 q.2.2.1).1 (fQ q.2.1 q.2.2.1).2.1)
theorem chkF_ok : chkF = true := by decide +kernel
def chkM1 (y : Nat) : Bool := decide ((mName y).cls = cName (mOw y)) && (if mKd y = 1 then atW (mWs y).2.1 (.static (mName y)) else atW (mWs y).2.1 (.instanceMethod (mName y))) && (if mKd y = 0 then atW (mWs y).2.2.1 (.selects (mName y).cls (mName y) (mName y)) else true) && atW (mWs y).2.2.2 (.initialized (mName y).cls)
def chkM2 (y : Nat) : Bool := decide ((mName y).cls ≠ "java/lang/invoke/MethodHandle" ∧ (mName y).cls ≠ "java/lang/invoke/VarHandle" ∧ (parseMethodDescriptor (mName y).desc).map (fun d => d.parameters.length) = some (mNp y)) && decide (Jvm.plainName (mName y).cls = true) && decide (mKd y = 2 → (mName y).name = "<init>" ∧ mRt y = none) && decide (mMx y ≤ 40) && decide (mKd y < 3) && decide (mOw y < 16)
theorem chkM1_0 : ((List.range 40).all fun i => chkM1 (0 + i)) = true := by decide +kernel
theorem chkM1_40 : ((List.range 40).all fun i => chkM1 (40 + i)) = true := by decide +kernel
theorem chkM1_80 : ((List.range 40).all fun i => chkM1 (80 + i)) = true := by decide +kernel
theorem chkM1_120 : ((List.range 40).all fun i => chkM1 (120 + i)) = true := by decide +kernel
theorem chkM1_160 : ((List.range 40).all fun i => chkM1 (160 + i)) = true := by decide +kernel
theorem chkM1_200 : ((List.range 40).all fun i => chkM1 (200 + i)) = true := by decide +kernel
theorem chkM1_240 : ((List.range 40).all fun i => chkM1 (240 + i)) = true := by decide +kernel
theorem chkM1_280 : ((List.range 29).all fun i => chkM1 (280 + i)) = true := by decide +kernel
theorem chkM1_ok (y : Nat) (h : y < 309) : chkM1 y = true := by
  rcases Nat.lt_or_ge y 40 with q0 | q0
  · have := List.all_eq_true.mp chkM1_0 (y - 0) (List.mem_range.mpr (by omega)); rwa [show 0 + (y - 0) = y by omega] at this
  rcases Nat.lt_or_ge y 80 with q40 | q40
  · have := List.all_eq_true.mp chkM1_40 (y - 40) (List.mem_range.mpr (by omega)); rwa [show 40 + (y - 40) = y by omega] at this
  rcases Nat.lt_or_ge y 120 with q80 | q80
  · have := List.all_eq_true.mp chkM1_80 (y - 80) (List.mem_range.mpr (by omega)); rwa [show 80 + (y - 80) = y by omega] at this
  rcases Nat.lt_or_ge y 160 with q120 | q120
  · have := List.all_eq_true.mp chkM1_120 (y - 120) (List.mem_range.mpr (by omega)); rwa [show 120 + (y - 120) = y by omega] at this
  rcases Nat.lt_or_ge y 200 with q160 | q160
  · have := List.all_eq_true.mp chkM1_160 (y - 160) (List.mem_range.mpr (by omega)); rwa [show 160 + (y - 160) = y by omega] at this
  rcases Nat.lt_or_ge y 240 with q200 | q200
  · have := List.all_eq_true.mp chkM1_200 (y - 200) (List.mem_range.mpr (by omega)); rwa [show 200 + (y - 200) = y by omega] at this
  rcases Nat.lt_or_ge y 280 with q240 | q240
  · have := List.all_eq_true.mp chkM1_240 (y - 240) (List.mem_range.mpr (by omega)); rwa [show 240 + (y - 240) = y by omega] at this
  have := List.all_eq_true.mp chkM1_280 (y - 280) (List.mem_range.mpr (by omega)); rwa [show 280 + (y - 280) = y by omega] at this
theorem chkM2_0 : ((List.range 40).all fun i => chkM2 (0 + i)) = true := by decide +kernel
theorem chkM2_40 : ((List.range 40).all fun i => chkM2 (40 + i)) = true := by decide +kernel
theorem chkM2_80 : ((List.range 40).all fun i => chkM2 (80 + i)) = true := by decide +kernel
theorem chkM2_120 : ((List.range 40).all fun i => chkM2 (120 + i)) = true := by decide +kernel
theorem chkM2_160 : ((List.range 40).all fun i => chkM2 (160 + i)) = true := by decide +kernel
theorem chkM2_200 : ((List.range 40).all fun i => chkM2 (200 + i)) = true := by decide +kernel
theorem chkM2_240 : ((List.range 40).all fun i => chkM2 (240 + i)) = true := by decide +kernel
theorem chkM2_280 : ((List.range 29).all fun i => chkM2 (280 + i)) = true := by decide +kernel
theorem chkM2_ok (y : Nat) (h : y < 309) : chkM2 y = true := by
  rcases Nat.lt_or_ge y 40 with q0 | q0
  · have := List.all_eq_true.mp chkM2_0 (y - 0) (List.mem_range.mpr (by omega)); rwa [show 0 + (y - 0) = y by omega] at this
  rcases Nat.lt_or_ge y 80 with q40 | q40
  · have := List.all_eq_true.mp chkM2_40 (y - 40) (List.mem_range.mpr (by omega)); rwa [show 40 + (y - 40) = y by omega] at this
  rcases Nat.lt_or_ge y 120 with q80 | q80
  · have := List.all_eq_true.mp chkM2_80 (y - 80) (List.mem_range.mpr (by omega)); rwa [show 80 + (y - 80) = y by omega] at this
  rcases Nat.lt_or_ge y 160 with q120 | q120
  · have := List.all_eq_true.mp chkM2_120 (y - 120) (List.mem_range.mpr (by omega)); rwa [show 120 + (y - 120) = y by omega] at this
  rcases Nat.lt_or_ge y 200 with q160 | q160
  · have := List.all_eq_true.mp chkM2_160 (y - 160) (List.mem_range.mpr (by omega)); rwa [show 160 + (y - 160) = y by omega] at this
  rcases Nat.lt_or_ge y 240 with q200 | q200
  · have := List.all_eq_true.mp chkM2_200 (y - 200) (List.mem_range.mpr (by omega)); rwa [show 200 + (y - 200) = y by omega] at this
  rcases Nat.lt_or_ge y 280 with q240 | q240
  · have := List.all_eq_true.mp chkM2_240 (y - 240) (List.mem_range.mpr (by omega)); rwa [show 240 + (y - 240) = y by omega] at this
  have := List.all_eq_true.mp chkM2_280 (y - 280) (List.mem_range.mpr (by omega)); rwa [show 280 + (y - 280) = y by omega] at this
def chkC : Bool := (List.range 16).all fun own => (calL.getD own []).all fun q => decide (q.2.1 < 309) && (if q.2.2.1 = 0 then atW q.2.2.2 (.methodLink (cName own) q.1 (mName q.2.1)) else atW q.2.2.2 (.methodLinkNest (cName own) q.1 (mName q.2.1) "PoleSets"))
theorem chkC_ok : chkC = true := by decide +kernel
def chkO : Bool := (List.range 16).all fun own => (objL.getD own []).all fun q => atW q.2 (.methodLink (cName own) q.1 objectInit)
theorem chkO_ok : chkO = true := by decide +kernel
theorem objI_ok : Jvm.Cond.instanceMethod objectInit ∈ lw_tbl ∧ Jvm.Cond.code objectInit ⟨#[0xb1]⟩ 1 none ∈ lw_tbl := ⟨List.mem_of_getElem? (i := 123) (by decide +kernel), List.mem_of_getElem? (i := 124) (by decide +kernel)⟩
def chkP : Bool := (List.range 16).all fun own => (prmL.getD own []).all (fun q => decide (q.2.1 < 6) && atW q.2.2 (.methodLink (cName own) q.1 (prNm.getD q.2.1 x)))
theorem chkP_ok : chkP = true := by decide +kernel
theorem prc0 : Jvm.Cond.code (prNm.getD 0 x) Lib.Math.max.code 2 ((some .int)) ∈ lw_tbl := inT4 (List.mem_of_getElem? (i := 57) (by decide +kernel))
theorem prs0 : Jvm.Cond.static (prNm.getD 0 x) ∈ lw_tbl := List.mem_of_getElem? (i := 877) (by decide +kernel)
theorem prc1 : Jvm.Cond.code (prNm.getD 1 x) Lib.Math.min.code 2 ((some .int)) ∈ lw_tbl := inT3 (List.mem_of_getElem? (i := 222) (by decide +kernel))
theorem prs1 : Jvm.Cond.static (prNm.getD 1 x) ∈ lw_tbl := List.mem_of_getElem? (i := 802) (by decide +kernel)
theorem prc2 : Jvm.Cond.code (prNm.getD 2 x) Lib.Math.abs.code 1 ((some .int)) ∈ lw_tbl := inT7 (List.mem_of_getElem? (i := 232) (by decide +kernel))
theorem prs2 : Jvm.Cond.static (prNm.getD 2 x) ∈ lw_tbl := List.mem_of_getElem? (i := 1772) (by decide +kernel)
theorem prc3 : Jvm.Cond.code (prNm.getD 3 x) Lib.MathLoose.min_long.code 4 ((some .long)) ∈ lw_tbl := inT4 (List.mem_of_getElem? (i := 166) (by decide +kernel))
theorem prs3 : Jvm.Cond.static (prNm.getD 3 x) ∈ lw_tbl := List.mem_of_getElem? (i := 986) (by decide +kernel)
theorem prc4 : Jvm.Cond.code (prNm.getD 4 x) Lib.MathLoose.abs_long.code 2 ((some .long)) ∈ lw_tbl := inT5 (List.mem_of_getElem? (i := 232) (by decide +kernel))
theorem prs4 : Jvm.Cond.static (prNm.getD 4 x) ∈ lw_tbl := List.mem_of_getElem? (i := 1292) (by decide +kernel)
theorem prc5 : Jvm.Cond.code (prNm.getD 5 x) prog_16_method_50_code 3 ((some .int)) ∈ lw_tbl := inT4 (List.mem_of_getElem? (i := 68) (by decide +kernel))
theorem prs5 : Jvm.Cond.static (prNm.getD 5 x) ∈ lw_tbl := List.mem_of_getElem? (i := 888) (by decide +kernel)
theorem pri_ok : Jvm.Cond.initialized "java/lang/Math" ∈ lw_tbl := List.mem_of_getElem? (i := 115) (by decide +kernel)
def chkK : Bool := (List.range 16).all fun own => (kiL.getD own []).all (fun q => atW q.2.2 (.constant (cName own) q.1 q.2.1)) && (klL.getD own []).all (fun q => atW q.2.2 (.constantLong (cName own) q.1 q.2.1))
theorem chkK_ok : chkK = true := by decide +kernel
def chkL : Bool := (List.range 16).all fun own => (clkL.getD own []).all (fun q => decide (q.2.1 < 13) && atW q.2.2 (.classLink (cName own) q.1 (cName q.2.1)))
theorem chkL_ok : chkL = true := by decide +kernel
def chkW : Bool := (List.range 13).all fun c => atW (cWs c).1 (.instantiable (cName c) (nf c)) && atW (cWs c).2 (.initialized (cName c))
theorem chkW_ok : chkW = true := by decide +kernel
def chkA : Bool := arkL.all (fun q => atW q.2.2 (.arrayOver (.object (cName q.2.1)))) && atW 143 (.arrayClass .int) && atW 537 (.arrayClass .long)
theorem chkA_ok : chkA = true := by decide +kernel

def lypL : List (List Nat) := [[172, 174, 176], [217, 219, 221, 223, 225, 227, 229, 231, 233], [346, 348, 350, 352, 354, 356, 358, 360, 362, 364, 366], [313, 315], [597, 599, 601, 603, 605, 607, 609, 611], [140], [465, 467, 469, 471, 473, 475, 477, 479, 481], [558, 560, 562, 564, 566, 568, 570, 572, 574, 576], [264, 266, 268, 270, 272, 274, 276, 278, 280, 282, 284], [510, 512, 514, 516, 518, 520, 522, 524, 526, 528, 530, 532, 534], [404, 406, 408, 410, 412, 414, 416, 418, 420, 422, 424, 426, 428, 430, 432, 434, 436, 438, 440], [625, 627, 629, 631, 633, 635, 637, 639, 641], [1456, 1458, 1460, 1462, 1464, 1466, 1468, 1470, 1472, 1474, 1476, 1478, 1480, 1482, 1484, 1486, 1488, 1490, 1492, 1494, 1496, 1498, 1500, 1502, 1504, 1506, 1508, 1510, 1512, 1514, 1516, 1518, 1520, 1522, 1524, 1526, 1528, 1530, 1532, 1534, 1536, 1538, 1540, 1542, 1544, 1546, 1548, 1550, 1552]]
def chkY : Bool := (List.range 13).all fun c => (List.range (nf c)).all fun k => atW ((lypL.getD c []).getD k 0) (u_lay (cName c) (fT c) k) && decide (parseFieldDescriptor (fQ c k).2.1 = some (fTy c k)) && decide (ftc c k = (match fTy c k with | .int => 0 | .long => 1 | .boolean => 3 | .object _ => 2 | .array _ => 2 | _ => 9))
theorem chkY_ok : chkY = true := by decide +kernel
theorem chkN_ok : ((List.range 13).all fun c => (List.range (nf c)).all fun a => (List.range (nf c)).all fun b => decide (a = b ∨ (fQ c a).1 ≠ (fQ c b).1)) = true := by decide +kernel
theorem lay1_ok : ((List.range NT).all fun i => decide (pos (ADR i) = i ∧ ADR i ≠ 0 ∧ (SH (ADR i)).1 ≠ 0 ∧ ADR i < 1000)) = true := by decide +kernel
theorem lay2_ok : ((List.range 1000).all fun a => decide (a = 0 ∨ (SH a).1 = 0 ∨ (pos a < NT ∧ ADR (pos a) = a))) = true := by decide +kernel
def lw_gd : List Jvm.Cond := lw_tbl.filter goodWord
theorem gd_mem {w : Jvm.Cond} (h : w ∈ lw_tbl) (g : goodWord w = true) : w ∈ lw_gd := List.mem_filter.mpr ⟨h, g⟩
def ALLn (P : Nat → Prop) : Nat → Nat → Prop | 0, _ => True | n + 1, s => P s ∧ ALLn P n (s + 1)
theorem ALLn_at {P : Nat → Prop} : ∀ (n s : Nat), ALLn P n s → ∀ y, s ≤ y → y < s + n → P y
  | 0, s, _, y, h1, h2 => absurd h2 (by omega)
  | n + 1, s, h, y, h1, h2 => by
    rcases Nat.eq_or_lt_of_le h1 with e | e
    · exact e ▸ h.1
    · exact ALLn_at n (s + 1) h.2 y e (by omega)
def codeW (y : Nat) : Jvm.Cond := .code (mName y) (mCode y) (mMx y) (mRt y)
set_option maxRecDepth 20000 in
theorem cdk0 : ALLn (fun y => codeW y ∈ lw_tbl) 16 0 := ⟨inT1 (List.mem_of_getElem? (i := 54) rfl), inT3 (List.mem_of_getElem? (i := 93) rfl), inT4 (List.mem_of_getElem? (i := 10) rfl), inT4 (List.mem_of_getElem? (i := 108) rfl), inT3 (List.mem_of_getElem? (i := 135) rfl), inT3 (List.mem_of_getElem? (i := 140) rfl), inT6 (List.mem_of_getElem? (i := 8) rfl), inT5 (List.mem_of_getElem? (i := 228) rfl), inT4 (List.mem_of_getElem? (i := 30) rfl), inT1 (List.mem_of_getElem? (i := 83) rfl), inT3 (List.mem_of_getElem? (i := 116) rfl), inT4 (List.mem_of_getElem? (i := 104) rfl), inT1 (List.mem_of_getElem? (i := 198) rfl), inT3 (List.mem_of_getElem? (i := 230) rfl), inT4 (List.mem_of_getElem? (i := 148) rfl), inT1 (List.mem_of_getElem? (i := 204) rfl), trivial⟩
set_option maxRecDepth 20000 in
theorem cdk1 : ALLn (fun y => codeW y ∈ lw_tbl) 16 16 := ⟨inT4 (List.mem_of_getElem? (i := 15) rfl), inT4 (List.mem_of_getElem? (i := 20) rfl), inT4 (List.mem_of_getElem? (i := 152) rfl), inT4 (List.mem_of_getElem? (i := 159) rfl), inT4 (List.mem_of_getElem? (i := 25) rfl), inT3 (List.mem_of_getElem? (i := 2) rfl), inT6 (List.mem_of_getElem? (i := 89) rfl), inT6 (List.mem_of_getElem? (i := 82) rfl), inT1 (List.mem_of_getElem? (i := 28) rfl), inT1 (List.mem_of_getElem? (i := 32) rfl), inT6 (List.mem_of_getElem? (i := 41) rfl), inT5 (List.mem_of_getElem? (i := 106) rfl), inT3 (List.mem_of_getElem? (i := 126) rfl), inT3 (List.mem_of_getElem? (i := 89) rfl), inT4 (List.mem_of_getElem? (i := 219) rfl), inT3 (List.mem_of_getElem? (i := 151) rfl), trivial⟩
set_option maxRecDepth 20000 in
theorem cdk2 : ALLn (fun y => codeW y ∈ lw_tbl) 16 32 := ⟨inT5 (List.mem_of_getElem? (i := 22) rfl), inT4 (List.mem_of_getElem? (i := 38) rfl), inT4 (List.mem_of_getElem? (i := 43) rfl), inT4 (List.mem_of_getElem? (i := 48) rfl), inT6 (List.mem_of_getElem? (i := 14) rfl), inT4 (List.mem_of_getElem? (i := 34) rfl), inT2 (List.mem_of_getElem? (i := 106) rfl), inT5 (List.mem_of_getElem? (i := 45) rfl), inT5 (List.mem_of_getElem? (i := 49) rfl), inT5 (List.mem_of_getElem? (i := 54) rfl), inT5 (List.mem_of_getElem? (i := 58) rfl), inT5 (List.mem_of_getElem? (i := 64) rfl), inT5 (List.mem_of_getElem? (i := 71) rfl), inT5 (List.mem_of_getElem? (i := 75) rfl), inT2 (List.mem_of_getElem? (i := 201) rfl), inT3 (List.mem_of_getElem? (i := 190) rfl), trivial⟩
set_option maxRecDepth 20000 in
theorem cdk3 : ALLn (fun y => codeW y ∈ lw_tbl) 16 48 := ⟨inT4 (List.mem_of_getElem? (i := 65) rfl), inT4 (List.mem_of_getElem? (i := 62) rfl), inT6 (List.mem_of_getElem? (i := 29) rfl), inT6 (List.mem_of_getElem? (i := 2) rfl), inT6 (List.mem_of_getElem? (i := 22) rfl), inT6 (List.mem_of_getElem? (i := 37) rfl), inT6 (List.mem_of_getElem? (i := 33) rfl), inT6 (List.mem_of_getElem? (i := 47) rfl), inT6 (List.mem_of_getElem? (i := 66) rfl), inT6 (List.mem_of_getElem? (i := 55) rfl), inT1 (List.mem_of_getElem? (i := 47) rfl), inT3 (List.mem_of_getElem? (i := 108) rfl), inT3 (List.mem_of_getElem? (i := 162) rfl), inT3 (List.mem_of_getElem? (i := 85) rfl), inT3 (List.mem_of_getElem? (i := 112) rfl), inT3 (List.mem_of_getElem? (i := 166) rfl), trivial⟩
set_option maxRecDepth 20000 in
theorem cdk4 : ALLn (fun y => codeW y ∈ lw_tbl) 16 64 := ⟨inT3 (List.mem_of_getElem? (i := 182) rfl), inT3 (List.mem_of_getElem? (i := 131) rfl), inT3 (List.mem_of_getElem? (i := 214) rfl), inT4 (List.mem_of_getElem? (i := 134) rfl), inT4 (List.mem_of_getElem? (i := 100) rfl), inT4 (List.mem_of_getElem? (i := 84) rfl), inT4 (List.mem_of_getElem? (i := 88) rfl), inT4 (List.mem_of_getElem? (i := 116) rfl), inT4 (List.mem_of_getElem? (i := 120) rfl), inT5 (List.mem_of_getElem? (i := 102) rfl), inT5 (List.mem_of_getElem? (i := 93) rfl), inT5 (List.mem_of_getElem? (i := 116) rfl), inT5 (List.mem_of_getElem? (i := 172) rfl), inT2 (List.mem_of_getElem? (i := 147) rfl), inT5 (List.mem_of_getElem? (i := 124) rfl), inT5 (List.mem_of_getElem? (i := 128) rfl), trivial⟩
set_option maxRecDepth 20000 in
theorem cdk5 : ALLn (fun y => codeW y ∈ lw_tbl) 16 80 := ⟨inT5 (List.mem_of_getElem? (i := 144) rfl), inT5 (List.mem_of_getElem? (i := 138) rfl), inT5 (List.mem_of_getElem? (i := 149) rfl), inT5 (List.mem_of_getElem? (i := 157) rfl), inT5 (List.mem_of_getElem? (i := 163) rfl), inT5 (List.mem_of_getElem? (i := 180) rfl), inT1 (List.mem_of_getElem? (i := 190) rfl), inT3 (List.mem_of_getElem? (i := 174) rfl), inT3 (List.mem_of_getElem? (i := 210) rfl), inT3 (List.mem_of_getElem? (i := 206) rfl), inT3 (List.mem_of_getElem? (i := 202) rfl), inT5 (List.mem_of_getElem? (i := 1) rfl), inT5 (List.mem_of_getElem? (i := 32) rfl), inT4 (List.mem_of_getElem? (i := 203) rfl), inT4 (List.mem_of_getElem? (i := 207) rfl), inT5 (List.mem_of_getElem? (i := 9) rfl), trivial⟩
set_option maxRecDepth 20000 in
theorem cdk6 : ALLn (fun y => codeW y ∈ lw_tbl) 16 96 := ⟨inT5 (List.mem_of_getElem? (i := 13) rfl), inT3 (List.mem_of_getElem? (i := 198) rfl), inT3 (List.mem_of_getElem? (i := 218) rfl), inT3 (List.mem_of_getElem? (i := 226) rfl), inT4 (List.mem_of_getElem? (i := 143) rfl), inT4 (List.mem_of_getElem? (i := 175) rfl), inT4 (List.mem_of_getElem? (i := 92) rfl), inT4 (List.mem_of_getElem? (i := 232) rfl), inT3 (List.mem_of_getElem? (i := 194) rfl), inT3 (List.mem_of_getElem? (i := 234) rfl), inT3 (List.mem_of_getElem? (i := 238) rfl), inT4 (List.mem_of_getElem? (i := 2) rfl), inT4 (List.mem_of_getElem? (i := 6) rfl), inT4 (List.mem_of_getElem? (i := 53) rfl), inT4 (List.mem_of_getElem? (i := 195) rfl), inT4 (List.mem_of_getElem? (i := 223) rfl), trivial⟩
set_option maxRecDepth 20000 in
theorem cdk7 : ALLn (fun y => codeW y ∈ lw_tbl) 16 112 := ⟨inT4 (List.mem_of_getElem? (i := 215) rfl), inT5 (List.mem_of_getElem? (i := 193) rfl), inT5 (List.mem_of_getElem? (i := 189) rfl), inT5 (List.mem_of_getElem? (i := 197) rfl), inT5 (List.mem_of_getElem? (i := 204) rfl), inT1 (List.mem_of_getElem? (i := 20) rfl), inT3 (List.mem_of_getElem? (i := 66) rfl), inT3 (List.mem_of_getElem? (i := 70) rfl), inT3 (List.mem_of_getElem? (i := 101) rfl), inT3 (List.mem_of_getElem? (i := 158) rfl), inT3 (List.mem_of_getElem? (i := 170) rfl), inT3 (List.mem_of_getElem? (i := 178) rfl), inT3 (List.mem_of_getElem? (i := 186) rfl), inT4 (List.mem_of_getElem? (i := 79) rfl), inT4 (List.mem_of_getElem? (i := 96) rfl), inT4 (List.mem_of_getElem? (i := 112) rfl), trivial⟩
set_option maxRecDepth 20000 in
theorem cdk8 : ALLn (fun y => codeW y ∈ lw_tbl) 16 128 := ⟨inT4 (List.mem_of_getElem? (i := 125) rfl), inT4 (List.mem_of_getElem? (i := 130) rfl), inT4 (List.mem_of_getElem? (i := 139) rfl), inT4 (List.mem_of_getElem? (i := 171) rfl), inT4 (List.mem_of_getElem? (i := 183) rfl), inT4 (List.mem_of_getElem? (i := 187) rfl), inT4 (List.mem_of_getElem? (i := 199) rfl), inT4 (List.mem_of_getElem? (i := 211) rfl), inT4 (List.mem_of_getElem? (i := 228) rfl), inT4 (List.mem_of_getElem? (i := 237) rfl), inT5 (List.mem_of_getElem? (i := 5) rfl), inT5 (List.mem_of_getElem? (i := 18) rfl), inT5 (List.mem_of_getElem? (i := 28) rfl), inT5 (List.mem_of_getElem? (i := 37) rfl), inT5 (List.mem_of_getElem? (i := 41) rfl), inT5 (List.mem_of_getElem? (i := 79) rfl), trivial⟩
set_option maxRecDepth 20000 in
theorem cdk9 : ALLn (fun y => codeW y ∈ lw_tbl) 16 144 := ⟨inT5 (List.mem_of_getElem? (i := 83) rfl), inT5 (List.mem_of_getElem? (i := 88) rfl), inT5 (List.mem_of_getElem? (i := 98) rfl), inT5 (List.mem_of_getElem? (i := 112) rfl), inT5 (List.mem_of_getElem? (i := 120) rfl), inT5 (List.mem_of_getElem? (i := 134) rfl), inT5 (List.mem_of_getElem? (i := 153) rfl), inT5 (List.mem_of_getElem? (i := 168) rfl), inT5 (List.mem_of_getElem? (i := 176) rfl), inT5 (List.mem_of_getElem? (i := 185) rfl), inT5 (List.mem_of_getElem? (i := 218) rfl), inT5 (List.mem_of_getElem? (i := 224) rfl), inT5 (List.mem_of_getElem? (i := 236) rfl), inT6 (List.mem_of_getElem? (i := 18) rfl), inT6 (List.mem_of_getElem? (i := 51) rfl), inT6 (List.mem_of_getElem? (i := 61) rfl), trivial⟩
set_option maxRecDepth 20000 in
theorem cdk10 : ALLn (fun y => codeW y ∈ lw_tbl) 16 160 := ⟨inT6 (List.mem_of_getElem? (i := 74) rfl), inT6 (List.mem_of_getElem? (i := 78) rfl), inT6 (List.mem_of_getElem? (i := 99) rfl), inT3 (List.mem_of_getElem? (i := 97) rfl), inT3 (List.mem_of_getElem? (i := 81) rfl), inT4 (List.mem_of_getElem? (i := 179) rfl), inT4 (List.mem_of_getElem? (i := 191) rfl), inT3 (List.mem_of_getElem? (i := 76) rfl), inT3 (List.mem_of_getElem? (i := 104) rfl), inT3 (List.mem_of_getElem? (i := 73) rfl), inT1 (List.mem_of_getElem? (i := 37) rfl), inT3 (List.mem_of_getElem? (i := 144) rfl), inT5 (List.mem_of_getElem? (i := 207) rfl), inT3 (List.mem_of_getElem? (i := 119) rfl), inT3 (List.mem_of_getElem? (i := 122) rfl), inT3 (List.mem_of_getElem? (i := 122) rfl), trivial⟩
set_option maxRecDepth 20000 in
theorem cdk11 : ALLn (fun y => codeW y ∈ lw_tbl) 16 176 := ⟨inT6 (List.mem_of_getElem? (i := 104) rfl), inT7 (List.mem_of_getElem? (i := 17) rfl), inT7 (List.mem_of_getElem? (i := 29) rfl), inT7 (List.mem_of_getElem? (i := 44) rfl), inT8 (List.mem_of_getElem? (i := 46) rfl), inT7 (List.mem_of_getElem? (i := 24) rfl), inT7 (List.mem_of_getElem? (i := 39) rfl), inT7 (List.mem_of_getElem? (i := 36) rfl), inT7 (List.mem_of_getElem? (i := 170) rfl), inT7 (List.mem_of_getElem? (i := 62) rfl), inT7 (List.mem_of_getElem? (i := 59) rfl), inT7 (List.mem_of_getElem? (i := 33) rfl), inT7 (List.mem_of_getElem? (i := 101) rfl), inT7 (List.mem_of_getElem? (i := 108) rfl), inT7 (List.mem_of_getElem? (i := 111) rfl), inT8 (List.mem_of_getElem? (i := 30) rfl), trivial⟩
set_option maxRecDepth 20000 in
theorem cdk12 : ALLn (fun y => codeW y ∈ lw_tbl) 16 192 := ⟨inT7 (List.mem_of_getElem? (i := 98) rfl), inT7 (List.mem_of_getElem? (i := 105) rfl), inT8 (List.mem_of_getElem? (i := 27) rfl), inT7 (List.mem_of_getElem? (i := 94) rfl), inT7 (List.mem_of_getElem? (i := 166) rfl), inT7 (List.mem_of_getElem? (i := 162) rfl), inT7 (List.mem_of_getElem? (i := 21) rfl), inT7 (List.mem_of_getElem? (i := 51) rfl), inT7 (List.mem_of_getElem? (i := 55) rfl), inT7 (List.mem_of_getElem? (i := 70) rfl), inT7 (List.mem_of_getElem? (i := 48) rfl), inT7 (List.mem_of_getElem? (i := 66) rfl), inT7 (List.mem_of_getElem? (i := 74) rfl), inT7 (List.mem_of_getElem? (i := 78) rfl), inT7 (List.mem_of_getElem? (i := 82) rfl), inT7 (List.mem_of_getElem? (i := 117) rfl), trivial⟩
set_option maxRecDepth 20000 in
theorem cdk13 : ALLn (fun y => codeW y ∈ lw_tbl) 16 208 := ⟨inT7 (List.mem_of_getElem? (i := 90) rfl), inT7 (List.mem_of_getElem? (i := 122) rfl), inT7 (List.mem_of_getElem? (i := 86) rfl), inT8 (List.mem_of_getElem? (i := 7) rfl), inT7 (List.mem_of_getElem? (i := 150) rfl), inT7 (List.mem_of_getElem? (i := 146) rfl), inT7 (List.mem_of_getElem? (i := 158) rfl), inT7 (List.mem_of_getElem? (i := 177) rfl), inT7 (List.mem_of_getElem? (i := 154) rfl), inT7 (List.mem_of_getElem? (i := 181) rfl), inT7 (List.mem_of_getElem? (i := 185) rfl), inT7 (List.mem_of_getElem? (i := 142) rfl), inT7 (List.mem_of_getElem? (i := 138) rfl), inT7 (List.mem_of_getElem? (i := 134) rfl), inT7 (List.mem_of_getElem? (i := 189) rfl), inT7 (List.mem_of_getElem? (i := 197) rfl), trivial⟩
set_option maxRecDepth 20000 in
theorem cdk14 : ALLn (fun y => codeW y ∈ lw_tbl) 16 224 := ⟨inT7 (List.mem_of_getElem? (i := 205) rfl), inT7 (List.mem_of_getElem? (i := 201) rfl), inT7 (List.mem_of_getElem? (i := 193) rfl), inT8 (List.mem_of_getElem? (i := 50) rfl), inT8 (List.mem_of_getElem? (i := 54) rfl), inT8 (List.mem_of_getElem? (i := 71) rfl), inT8 (List.mem_of_getElem? (i := 67) rfl), inT8 (List.mem_of_getElem? (i := 63) rfl), inT8 (List.mem_of_getElem? (i := 79) rfl), inT8 (List.mem_of_getElem? (i := 59) rfl), inT8 (List.mem_of_getElem? (i := 75) rfl), inT8 (List.mem_of_getElem? (i := 42) rfl), inT8 (List.mem_of_getElem? (i := 99) rfl), inT8 (List.mem_of_getElem? (i := 3) rfl), inT7 (List.mem_of_getElem? (i := 239) rfl), inT8 (List.mem_of_getElem? (i := 15) rfl), trivial⟩
set_option maxRecDepth 20000 in
theorem cdk15 : ALLn (fun y => codeW y ∈ lw_tbl) 16 240 := ⟨inT8 (List.mem_of_getElem? (i := 11) rfl), inT8 (List.mem_of_getElem? (i := 19) rfl), inT8 (List.mem_of_getElem? (i := 23) rfl), inT8 (List.mem_of_getElem? (i := 34) rfl), inT8 (List.mem_of_getElem? (i := 38) rfl), inT8 (List.mem_of_getElem? (i := 87) rfl), inT8 (List.mem_of_getElem? (i := 83) rfl), inT8 (List.mem_of_getElem? (i := 91) rfl), inT8 (List.mem_of_getElem? (i := 103) rfl), inT8 (List.mem_of_getElem? (i := 95) rfl), inT8 (List.mem_of_getElem? (i := 107) rfl), inT8 (List.mem_of_getElem? (i := 111) rfl), inT8 (List.mem_of_getElem? (i := 115) rfl), inT8 (List.mem_of_getElem? (i := 119) rfl), inT8 (List.mem_of_getElem? (i := 127) rfl), inT8 (List.mem_of_getElem? (i := 123) rfl), trivial⟩
set_option maxRecDepth 20000 in
theorem cdk16 : ALLn (fun y => codeW y ∈ lw_tbl) 16 256 := ⟨inT8 (List.mem_of_getElem? (i := 135) rfl), inT8 (List.mem_of_getElem? (i := 131) rfl), inT8 (List.mem_of_getElem? (i := 143) rfl), inT8 (List.mem_of_getElem? (i := 139) rfl), inT8 (List.mem_of_getElem? (i := 147) rfl), inT8 (List.mem_of_getElem? (i := 162) rfl), inT8 (List.mem_of_getElem? (i := 158) rfl), inT8 (List.mem_of_getElem? (i := 154) rfl), inT8 (List.mem_of_getElem? (i := 151) rfl), inT8 (List.mem_of_getElem? (i := 166) rfl), inT8 (List.mem_of_getElem? (i := 170) rfl), inT8 (List.mem_of_getElem? (i := 186) rfl), inT8 (List.mem_of_getElem? (i := 178) rfl), inT8 (List.mem_of_getElem? (i := 174) rfl), inT8 (List.mem_of_getElem? (i := 182) rfl), inT8 (List.mem_of_getElem? (i := 190) rfl), trivial⟩
set_option maxRecDepth 20000 in
theorem cdk17 : ALLn (fun y => codeW y ∈ lw_tbl) 16 272 := ⟨inT8 (List.mem_of_getElem? (i := 198) rfl), inT8 (List.mem_of_getElem? (i := 194) rfl), inT8 (List.mem_of_getElem? (i := 206) rfl), inT8 (List.mem_of_getElem? (i := 202) rfl), inT8 (List.mem_of_getElem? (i := 210) rfl), inT8 (List.mem_of_getElem? (i := 215) rfl), inT8 (List.mem_of_getElem? (i := 219) rfl), inT8 (List.mem_of_getElem? (i := 232) rfl), inT8 (List.mem_of_getElem? (i := 227) rfl), inT8 (List.mem_of_getElem? (i := 223) rfl), inT8 (List.mem_of_getElem? (i := 236) rfl), inT7 (List.mem_of_getElem? (i := 218) rfl), inT7 (List.mem_of_getElem? (i := 214) rfl), inT9 (List.mem_of_getElem? (i := 3) rfl), inT9 (List.mem_of_getElem? (i := 0) rfl), inT7 (List.mem_of_getElem? (i := 209) rfl), trivial⟩
set_option maxRecDepth 20000 in
theorem cdk18 : ALLn (fun y => codeW y ∈ lw_tbl) 16 288 := ⟨inT7 (List.mem_of_getElem? (i := 222) rfl), inT9 (List.mem_of_getElem? (i := 8) rfl), inT7 (List.mem_of_getElem? (i := 229) rfl), inT7 (List.mem_of_getElem? (i := 235) rfl), inT7 (List.mem_of_getElem? (i := 130) rfl), inT7 (List.mem_of_getElem? (i := 126) rfl), inT7 (List.mem_of_getElem? (i := 226) rfl), inT9 (List.mem_of_getElem? (i := 16) rfl), inT9 (List.mem_of_getElem? (i := 24) rfl), inT9 (List.mem_of_getElem? (i := 20) rfl), inT9 (List.mem_of_getElem? (i := 28) rfl), inT9 (List.mem_of_getElem? (i := 12) rfl), inT9 (List.mem_of_getElem? (i := 32) rfl), inT9 (List.mem_of_getElem? (i := 40) rfl), inT9 (List.mem_of_getElem? (i := 36) rfl), inT9 (List.mem_of_getElem? (i := 44) rfl), trivial⟩
set_option maxRecDepth 20000 in
theorem cdk19 : ALLn (fun y => codeW y ∈ lw_tbl) 5 304 := ⟨inT9 (List.mem_of_getElem? (i := 56) rfl), inT9 (List.mem_of_getElem? (i := 52) rfl), inT9 (List.mem_of_getElem? (i := 48) rfl), inT9 (List.mem_of_getElem? (i := 60) rfl), inT4 (List.mem_of_getElem? (i := 72) rfl), trivial⟩
theorem cd_ok (y : Nat) (h : y < 309) : codeW y ∈ lw_tbl := by
  rcases Nat.lt_or_ge y 16 with q0 | q0
  · exact ALLn_at _ _ cdk0 y (by omega) (by omega)
  rcases Nat.lt_or_ge y 32 with q1 | q1
  · exact ALLn_at _ _ cdk1 y (by omega) (by omega)
  rcases Nat.lt_or_ge y 48 with q2 | q2
  · exact ALLn_at _ _ cdk2 y (by omega) (by omega)
  rcases Nat.lt_or_ge y 64 with q3 | q3
  · exact ALLn_at _ _ cdk3 y (by omega) (by omega)
  rcases Nat.lt_or_ge y 80 with q4 | q4
  · exact ALLn_at _ _ cdk4 y (by omega) (by omega)
  rcases Nat.lt_or_ge y 96 with q5 | q5
  · exact ALLn_at _ _ cdk5 y (by omega) (by omega)
  rcases Nat.lt_or_ge y 112 with q6 | q6
  · exact ALLn_at _ _ cdk6 y (by omega) (by omega)
  rcases Nat.lt_or_ge y 128 with q7 | q7
  · exact ALLn_at _ _ cdk7 y (by omega) (by omega)
  rcases Nat.lt_or_ge y 144 with q8 | q8
  · exact ALLn_at _ _ cdk8 y (by omega) (by omega)
  rcases Nat.lt_or_ge y 160 with q9 | q9
  · exact ALLn_at _ _ cdk9 y (by omega) (by omega)
  rcases Nat.lt_or_ge y 176 with q10 | q10
  · exact ALLn_at _ _ cdk10 y (by omega) (by omega)
  rcases Nat.lt_or_ge y 192 with q11 | q11
  · exact ALLn_at _ _ cdk11 y (by omega) (by omega)
  rcases Nat.lt_or_ge y 208 with q12 | q12
  · exact ALLn_at _ _ cdk12 y (by omega) (by omega)
  rcases Nat.lt_or_ge y 224 with q13 | q13
  · exact ALLn_at _ _ cdk13 y (by omega) (by omega)
  rcases Nat.lt_or_ge y 240 with q14 | q14
  · exact ALLn_at _ _ cdk14 y (by omega) (by omega)
  rcases Nat.lt_or_ge y 256 with q15 | q15
  · exact ALLn_at _ _ cdk15 y (by omega) (by omega)
  rcases Nat.lt_or_ge y 272 with q16 | q16
  · exact ALLn_at _ _ cdk16 y (by omega) (by omega)
  rcases Nat.lt_or_ge y 288 with q17 | q17
  · exact ALLn_at _ _ cdk17 y (by omega) (by omega)
  rcases Nat.lt_or_ge y 304 with q18 | q18
  · exact ALLn_at _ _ cdk18 y (by omega) (by omega)
  exact ALLn_at _ _ cdk19 y (by omega) (by omega)
def nestL : List Jvm.Cond := (List.range 16).flatMap fun own => (calL.getD own []).filterMap fun q => if q.2.2.1 = 0 then none else some (.methodLinkNest (cName own) q.1 (mName q.2.1) "PoleSets")
