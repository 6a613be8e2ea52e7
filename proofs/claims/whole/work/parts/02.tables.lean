/-! the program as tables: classes, fields, links, methods, calls, constants, the order in which cells are made -/
def cnmL : List String := ["PoleSets$Vector", "PoleSets$Crack", "PoleSets$Group", "PoleSets$Gather", "PoleSets$Folding", "PoleSets$Circle", "PoleSets$Settling", "PoleSets$Hazards", "PoleSets$Survey", "PoleSets$Scan", "PoleSets$Grouping", "PoleSets", "PoleSetsModel", "PoleSetsLaw", "java/lang/Math", "java/lang/Integer"]
def cName (c : Nat) : String := cnmL.getD c ""
def fldsL : List (List (String × String × Bool)) := [
  [("x", "J", false), ("y", "J", false), ("z", "J", false)],
  [("slot", "I", true), ("pole", "LPoleSets$Vector;", true), ("line", "I", false), ("direction", "I", false), ("dip", "I", false), ("at", "I", false), ("plain", "I", false), ("lie", "I", false), ("weight", "I", false)],
  [("gather", "LPoleSets$Gather;", true), ("seedPole", "LPoleSets$Vector;", true), ("mean", "LPoleSets$Vector;", true), ("size", "I", false), ("leastLie", "I", false), ("measured", "Z", false), ("seed", "I", false), ("direction", "I", false), ("dip", "I", false), ("cone", "I", false), ("half", "I", false)],
  [("sum", "LPoleSets$Vector;", true), ("mass", "J", false)],
  [("survey", "LPoleSets$Survey;", true), ("grouping", "LPoleSets$Grouping;", true), ("circle", "LPoleSets$Circle;", true), ("axle", "LPoleSets$Vector;", true), ("aside", "LPoleSets$Vector;", true), ("turned", "LPoleSets$Vector;", true), ("guide", "LPoleSets$Vector;", true), ("gather", "LPoleSets$Gather;", true)],
  [("sines", "[I", true)],
  [("survey", "LPoleSets$Survey;", true), ("grouping", "LPoleSets$Grouping;", true), ("circle", "LPoleSets$Circle;", true), ("places", "[I", true), ("means", "[LPoleSets$Vector;", true), ("gather", "LPoleSets$Gather;", true), ("rounds", "I", false), ("reach", "I", false), ("edition", "I", false)],
  [("grouping", "LPoleSets$Grouping;", true), ("circle", "LPoleSets$Circle;", true), ("edge", "LPoleSets$Vector;", true), ("trends", "[I", true), ("plunges", "[I", true), ("facing", "I", false), ("steepness", "I", false), ("friction", "I", false), ("side", "I", false), ("edition", "I", false)],
  [("circle", "LPoleSets$Circle;", true), ("trends", "[I", true), ("plunges", "[I", true), ("lengths", "[I", true), ("arrows", "[LPoleSets$Vector;", true), ("cracks", "[LPoleSets$Crack;", true), ("angles", "[I", true), ("lines", "I", false), ("count", "I", false), ("cap", "I", false), ("edition", "I", false)],
  [("survey", "LPoleSets$Survey;", true), ("circle", "LPoleSets$Circle;", true), ("trial", "LPoleSets$Vector;", true), ("weft", "[J", true), ("girdle", "[I", true), ("cluster", "[I", true), ("bestLine", "[I", true), ("thickest", "[I", true), ("weftEdition", "I", false), ("axesEdition", "I", false), ("lineEdition", "I", false), ("thickEdition", "I", false), ("thickAngle", "I", false)],
  [("survey", "LPoleSets$Survey;", true), ("circle", "LPoleSets$Circle;", true), ("places", "[I", true), ("groups", "[LPoleSets$Group;", true), ("means", "[LPoleSets$Vector;", true), ("heapOf", "[I", true), ("heapSizes", "[I", true), ("heapLies", "[I", true), ("queue", "[I", true), ("links", "[I", true), ("setsBy", "[I", true), ("massAt", "[I", true), ("link", "I", false), ("least", "I", false), ("sets", "I", false), ("edition", "I", false), ("bridgeEdition", "I", false), ("bridgeCount", "I", false), ("firstBridge", "I", false)],
  [("circle", "LPoleSets$Circle;", true), ("survey", "LPoleSets$Survey;", true), ("grouping", "LPoleSets$Grouping;", true), ("settling", "LPoleSets$Settling;", true), ("scan", "LPoleSets$Scan;", true), ("hazards", "LPoleSets$Hazards;", true), ("folding", "LPoleSets$Folding;", true), ("asked", "LPoleSets$Vector;", true), ("status", "I", false)],
  [("status", "I", false), ("lines", "I", false), ("cracks", "I", false), ("link", "I", false), ("least", "I", false), ("cap", "I", false), ("slopeDirection", "I", false), ("slopeDip", "I", false), ("friction", "I", false), ("side", "I", false), ("trend", "[I", true), ("plunge", "[I", true), ("length", "[I", true), ("on", "[I", true), ("direction", "[I", true), ("dip", "[I", true), ("place", "[I", true), ("px", "[I", true), ("py", "[I", true), ("pz", "[I", true), ("ax", "[I", true), ("ay", "[I", true), ("az", "[I", true), ("vx", "I", false), ("vy", "I", false), ("vz", "I", false), ("groupOf", "[I", true), ("setOf", "[I", true), ("size", "[I", true), ("leastLie", "[I", true), ("groups", "I", false), ("sets", "I", false), ("sx", "J", false), ("sy", "J", false), ("sz", "J", false), ("mass", "J", false), ("mx", "[I", true), ("my", "[I", true), ("mz", "[I", true), ("settledOf", "[I", true), ("rounds", "I", false), ("fabric", "[J", true), ("gaps", "I", false), ("apparent", "I", false), ("truly", "I", false), ("lieDirection", "[I", true), ("lieDip", "[I", true), ("wedgeTrend", "[I", true), ("wedgePlunge", "[I", true)]]
def ftcL : List (List Nat) := [[1, 1, 1], [0, 2, 0, 0, 0, 0, 0, 0, 0], [2, 2, 2, 0, 0, 3, 0, 0, 0, 0, 0], [2, 1], [2, 2, 2, 2, 2, 2, 2, 2], [2], [2, 2, 2, 2, 2, 2, 0, 0, 0], [2, 2, 2, 2, 2, 0, 0, 0, 0, 0], [2, 2, 2, 2, 2, 2, 2, 0, 0, 0, 0], [2, 2, 2, 2, 2, 2, 2, 2, 0, 0, 0, 0, 0], [2, 2, 2, 2, 2, 2, 2, 2, 2, 2, 2, 2, 0, 0, 0, 0, 0, 0, 0], [2, 2, 2, 2, 2, 2, 2, 2, 0], [0, 0, 0, 0, 0, 0, 0, 0, 0, 0, 2, 2, 2, 2, 2, 2, 2, 2, 2, 2, 2, 2, 2, 0, 0, 0, 2, 2, 2, 2, 0, 0, 1, 1, 1, 1, 2, 2, 2, 2, 0, 2, 0, 0, 0, 2, 2, 2, 2]]
def fQ (c k : Nat) : String × String × Bool := (fldsL.getD c []).getD k ("", "", false)
def fT (c : Nat) : u_T := fun k => (cName c, (fQ c k).1, (fQ c k).2.1, (fQ c k).2.2)
def nf (c : Nat) : Nat := (fldsL.getD c []).length
def ftc (c k : Nat) : Nat := (ftcL.getD c []).getD k 9
def fTy (c k : Nat) : FieldType := (parseFieldDescriptor (fQ c k).2.1).getD .int
def clsV : List vw_C := (List.range 13).map fun c => (cName c, fT c, nf c)
def fldL : List (List (Nat × Nat × Nat × Nat)) := [
  [(9, 0, 0, 161), (15, 0, 1, 166), (18, 0, 2, 171)],
  [(7, 1, 0, 192), (16, 1, 1, 194), (20, 1, 3, 204), (23, 1, 4, 205), (32, 1, 6, 210), (38, 1, 7, 212), (41, 1, 2, 201), (44, 1, 5, 207), (47, 1, 8, 216)],
  [(10, 2, 0, 324), (19, 2, 1, 326), (23, 2, 2, 328), (26, 2, 3, 331), (30, 2, 4, 333), (33, 2, 5, 335), (37, 3, 1, 315), (41, 2, 7, 339), (44, 2, 8, 342), (55, 2, 9, 346), (58, 2, 10, 348), (61, 2, 6, 337)],
  [(12, 3, 0, 313), (22, 3, 1, 314), (30, 0, 0, 164), (33, 0, 1, 169), (36, 0, 2, 174)],
  [(9, 4, 0, 593), (15, 4, 1, 594), (19, 4, 2, 595), (26, 4, 3, 596), (30, 4, 4, 597), (33, 4, 5, 598), (36, 4, 6, 599), (42, 4, 7, 600), (65, 0, 0, 162), (69, 0, 1, 167), (72, 0, 2, 172), (79, 10, 4, 382), (92, 8, 8, 260), (98, 10, 2, 377), (102, 8, 5, 249), (106, 1, 1, 196), (111, 1, 8, 217)],
  [(9, 5, 0, 139), (59, 0, 0, 165), (63, 0, 1, 170), (68, 0, 2, 175)],
  [(9, 6, 0, 457), (15, 6, 1, 458), (19, 6, 2, 459), (23, 6, 3, 460), (29, 6, 4, 462), (40, 6, 5, 464), (44, 6, 8, 468), (48, 8, 10, 264), (51, 6, 7, 467), (57, 6, 6, 465), (67, 8, 8, 258), (70, 10, 2, 376), (73, 10, 14, 397), (76, 10, 4, 383), (81, 8, 5, 250), (85, 1, 1, 197), (108, 1, 8, 219)],
  [(9, 7, 0, 550), (15, 7, 1, 551), (22, 7, 2, 552), (26, 7, 3, 553), (30, 7, 4, 554), (33, 7, 5, 555), (37, 7, 6, 557), (40, 7, 7, 559), (43, 7, 8, 560), (46, 7, 9, 561), (58, 10, 14, 398), (63, 10, 3, 380), (67, 2, 8, 343), (72, 2, 7, 340), (78, 10, 4, 384), (93, 10, 15, 402)],
  [(9, 8, 0, 240), (15, 8, 1, 241), (19, 8, 2, 242), (22, 8, 3, 243), (27, 8, 4, 245), (37, 8, 5, 247), (44, 8, 6, 253), (47, 8, 9, 262), (51, 8, 7, 254), (54, 8, 8, 257), (63, 1, 2, 202), (66, 1, 5, 208), (73, 1, 1, 198), (84, 1, 8, 218), (90, 1, 0, 193), (93, 8, 10, 267), (118, 1, 7, 213), (137, 1, 6, 211), (140, 1, 4, 206)],
  [(9, 9, 0, 496), (15, 9, 1, 497), (22, 9, 2, 498), (26, 9, 3, 499), (30, 9, 4, 501), (34, 9, 5, 503), (37, 9, 6, 505), (40, 9, 7, 507), (43, 9, 8, 509), (47, 9, 9, 510), (50, 9, 10, 511), (53, 9, 11, 512), (56, 8, 10, 265), (61, 8, 8, 256), (64, 8, 5, 248), (68, 1, 1, 195), (73, 1, 8, 215), (88, 0, 0, 163), (92, 0, 1, 168), (95, 0, 2, 173), (134, 9, 12, 513)],
  [(9, 10, 0, 373), (15, 10, 1, 374), (19, 10, 2, 375), (25, 10, 3, 379), (31, 10, 4, 381), (36, 2, 2, 329), (40, 10, 5, 386), (43, 10, 6, 387), (46, 10, 7, 388), (49, 10, 8, 389), (52, 10, 9, 390), (55, 10, 10, 391), (58, 10, 11, 392), (61, 10, 12, 393), (65, 10, 13, 395), (68, 10, 15, 401), (71, 10, 16, 403), (74, 8, 10, 266), (77, 8, 8, 259), (109, 10, 17, 404), (112, 10, 18, 406), (122, 2, 3, 332), (129, 10, 14, 400), (139, 8, 5, 252), (143, 1, 7, 214), (154, 2, 4, 334), (165, 2, 5, 336), (175, 2, 0, 325), (184, 1, 8, 220), (187, 1, 1, 199), (190, 2, 1, 327), (210, 2, 7, 341), (213, 2, 8, 344), (222, 2, 6, 338), (225, 2, 9, 347), (232, 2, 10, 349), (237, 3, 1, 316), (248, 1, 2, 203), (259, 1, 5, 209), (266, 8, 4, 246)],
  [(10, 11, 0, 618), (21, 11, 1, 619), (30, 11, 2, 620), (39, 11, 3, 621), (46, 11, 4, 622), (55, 11, 5, 623), (62, 11, 6, 624), (69, 11, 7, 625), (73, 11, 8, 626), (85, 8, 7, 255), (103, 8, 3, 244), (107, 8, 8, 261), (124, 10, 12, 394), (127, 10, 13, 396), (134, 8, 9, 263), (163, 10, 14, 399), (172, 10, 2, 378), (175, 8, 5, 251), (235, 10, 18, 407), (238, 10, 17, 405), (241, 1, 1, 200), (244, 10, 4, 385), (262, 6, 6, 466), (271, 6, 3, 461), (272, 6, 4, 463), (301, 9, 3, 500), (308, 9, 5, 504), (311, 9, 4, 502), (317, 9, 6, 506), (326, 9, 7, 508), (341, 2, 2, 330), (389, 7, 5, 556), (392, 7, 6, 558), (404, 2, 8, 345)],
  [(7, 12, 3, 1412), (13, 12, 4, 1413), (16, 12, 5, 1414), (19, 12, 7, 1416), (22, 12, 8, 1417), (25, 12, 9, 1418), (28, 12, 10, 1419), (32, 12, 11, 1420), (35, 12, 12, 1421), (38, 12, 13, 1422), (41, 12, 14, 1423), (44, 12, 15, 1424), (47, 12, 16, 1425), (50, 12, 17, 1426), (53, 12, 18, 1427), (56, 12, 19, 1428), (59, 12, 20, 1429), (62, 12, 21, 1430), (65, 12, 22, 1431), (68, 12, 26, 1435), (71, 12, 27, 1436), (74, 12, 28, 1437), (77, 12, 29, 1438), (80, 12, 36, 1445), (83, 12, 37, 1446), (86, 12, 38, 1447), (89, 12, 39, 1448), (92, 12, 41, 1450), (96, 12, 45, 1454), (99, 12, 46, 1455), (102, 12, 47, 1456), (105, 12, 48, 1457), (108, 12, 0, 1409), (127, 12, 23, 1432), (130, 12, 24, 1433), (133, 12, 25, 1434), (186, 12, 1, 1410), (196, 12, 2, 1411), (213, 12, 6, 1415), (226, 12, 30, 1439), (244, 12, 31, 1440), (250, 12, 32, 1441), (254, 12, 33, 1442), (257, 12, 34, 1443), (260, 12, 35, 1444), (378, 12, 40, 1449), (408, 12, 42, 1451), (411, 12, 43, 1452), (418, 12, 44, 1453)],
  [],
  [],
  []]
def fldE (own idx : Nat) : Option (Nat × Nat × Nat × Nat) := (fldL.getD own []).find? (fun q => q.1 == idx)
def fld (own idx : Nat) : Option (Nat × Nat) := (fldE own idx).map (fun q => (q.2.1, q.2.2.1))
def mNmL : List MethodName := [
  ⟨"PoleSets$Vector", "<init>", "()V"⟩,
  ⟨"PoleSets$Vector", "put", "(JJJ)V"⟩,
  ⟨"PoleSets$Vector", "copy", "(LPoleSets$Vector;)V"⟩,
  ⟨"PoleSets$Vector", "number", "(I)J"⟩,
  ⟨"PoleSets$Vector", "dot", "(LPoleSets$Vector;)J"⟩,
  ⟨"PoleSets$Vector", "square", "()J"⟩,
  ⟨"PoleSets$Vector", "isZero", "()Z"⟩,
  ⟨"PoleSets$Vector", "putCross", "(LPoleSets$Vector;LPoleSets$Vector;)V"⟩,
  ⟨"PoleSets$Vector", "turnUp", "()V"⟩,
  ⟨"PoleSets$Crack", "<init>", "(I)V"⟩,
  ⟨"PoleSets$Crack", "lay", "(II)V"⟩,
  ⟨"PoleSets$Crack", "tell", "(I)I"⟩,
  ⟨"PoleSets$Group", "<init>", "()V"⟩,
  ⟨"PoleSets$Group", "begin", "(II)V"⟩,
  ⟨"PoleSets$Group", "tell", "(I)J"⟩,
  ⟨"PoleSets$Gather", "<init>", "()V"⟩,
  ⟨"PoleSets$Gather", "clear", "()V"⟩,
  ⟨"PoleSets$Gather", "add", "(ILPoleSets$Vector;LPoleSets$Vector;)V"⟩,
  ⟨"PoleSets$Gather", "reachOfSum", "()J"⟩,
  ⟨"PoleSets$Gather", "tightness", "()I"⟩,
  ⟨"PoleSets$Gather", "meanInto", "(LPoleSets$Vector;)V"⟩,
  ⟨"PoleSets$Folding", "<init>", "(LPoleSets$Survey;LPoleSets$Grouping;LPoleSets$Circle;)V"⟩,
  ⟨"PoleSets$Folding", "turnInto", "(LPoleSets$Vector;ILPoleSets$Vector;)V"⟩,
  ⟨"PoleSets$Folding", "tightBy", "(IIII)I"⟩,
  ⟨"PoleSets$Circle", "<init>", "()V"⟩,
  ⟨"PoleSets$Circle", "bow", "(I)I"⟩,
  ⟨"PoleSets$Circle", "sine", "(I)I"⟩,
  ⟨"PoleSets$Circle", "cosine", "(I)I"⟩,
  ⟨"PoleSets$Circle", "poleInto", "(IILPoleSets$Vector;)V"⟩,
  ⟨"PoleSets$Circle", "arrowInto", "(IILPoleSets$Vector;)V"⟩,
  ⟨"PoleSets$Circle", "areNear", "(LPoleSets$Vector;LPoleSets$Vector;I)Z"⟩,
  ⟨"PoleSets$Circle", "angleOf", "(LPoleSets$Vector;LPoleSets$Vector;)I"⟩,
  ⟨"PoleSets$Circle", "nearestOf", "(LPoleSets$Vector;[LPoleSets$Vector;I)I"⟩,
  ⟨"PoleSets$Circle", "trendOf", "(LPoleSets$Vector;)I"⟩,
  ⟨"PoleSets$Circle", "levelOf", "(LPoleSets$Vector;I)J"⟩,
  ⟨"PoleSets$Circle", "tiltOf", "(JJ)I"⟩,
  ⟨"PoleSets$Circle", "plungeOf", "(LPoleSets$Vector;I)I"⟩,
  ⟨"PoleSets$Circle", "lieOf", "(LPoleSets$Vector;)I"⟩,
  ⟨"PoleSets$Settling", "<init>", "(LPoleSets$Survey;LPoleSets$Grouping;LPoleSets$Circle;)V"⟩,
  ⟨"PoleSets$Settling", "settle", "(I)V"⟩,
  ⟨"PoleSets$Settling", "begin", "()V"⟩,
  ⟨"PoleSets$Settling", "moveCracks", "()Z"⟩,
  ⟨"PoleSets$Settling", "placeFor", "(LPoleSets$Vector;)I"⟩,
  ⟨"PoleSets$Settling", "renewMeans", "()V"⟩,
  ⟨"PoleSets$Settling", "countMoved", "()I"⟩,
  ⟨"PoleSets$Settling", "countNowhere", "()I"⟩,
  ⟨"PoleSets$Hazards", "<init>", "(LPoleSets$Grouping;LPoleSets$Circle;)V"⟩,
  ⟨"PoleSets$Hazards", "cut", "(IIII)V"⟩,
  ⟨"PoleSets$Hazards", "off", "(II)I"⟩,
  ⟨"PoleSets$Hazards", "slidingSets", "(II)I"⟩,
  ⟨"PoleSets$Hazards", "topplingSets", "(II)I"⟩,
  ⟨"PoleSets$Hazards", "wedgeInto", "(IILPoleSets$Vector;)Z"⟩,
  ⟨"PoleSets$Hazards", "findWedges", "()V"⟩,
  ⟨"PoleSets$Hazards", "wedgeSlides", "(III)Z"⟩,
  ⟨"PoleSets$Hazards", "countWedges", "(II)I"⟩,
  ⟨"PoleSets$Hazards", "firstCouple", "()I"⟩,
  ⟨"PoleSets$Hazards", "countAll", "(II)I"⟩,
  ⟨"PoleSets$Hazards", "holding", "(I)I"⟩,
  ⟨"PoleSets$Survey", "<init>", "(LPoleSets$Circle;)V"⟩,
  ⟨"PoleSets$Survey", "hasLine", "(I)Z"⟩,
  ⟨"PoleSets$Survey", "hasCrack", "(I)Z"⟩,
  ⟨"PoleSets$Survey", "addLine", "(III)I"⟩,
  ⟨"PoleSets$Survey", "addCrack", "(IIII)I"⟩,
  ⟨"PoleSets$Survey", "removeCrack", "(I)V"⟩,
  ⟨"PoleSets$Survey", "weighBy", "(I)V"⟩,
  ⟨"PoleSets$Survey", "weightBy", "(LPoleSets$Vector;LPoleSets$Vector;)I"⟩,
  ⟨"PoleSets$Survey", "angleBetween", "(II)I"⟩,
  ⟨"PoleSets$Survey", "countNear", "(II)I"⟩,
  ⟨"PoleSets$Survey", "countAlike", "(I)I"⟩,
  ⟨"PoleSets$Survey", "countLies", "()I"⟩,
  ⟨"PoleSets$Survey", "isFirstOfItsLie", "(I)Z"⟩,
  ⟨"PoleSets$Survey", "tellLine", "(II)I"⟩,
  ⟨"PoleSets$Survey", "countOnLine", "(I)I"⟩,
  ⟨"PoleSets$Survey", "massOfAll", "()J"⟩,
  ⟨"PoleSets$Survey", "thickAt", "(LPoleSets$Vector;I)I"⟩,
  ⟨"PoleSets$Survey", "inPetal", "(IZ)I"⟩,
  ⟨"PoleSets$Survey", "blindLines", "(LPoleSets$Vector;I)I"⟩,
  ⟨"PoleSets$Scan", "<init>", "(LPoleSets$Survey;LPoleSets$Circle;)V"⟩,
  ⟨"PoleSets$Scan", "weave", "()V"⟩,
  ⟨"PoleSets$Scan", "addToWeft", "(LPoleSets$Vector;J)V"⟩,
  ⟨"PoleSets$Scan", "shareOf", "(LPoleSets$Vector;)J"⟩,
  ⟨"PoleSets$Scan", "findAxes", "()V"⟩,
  ⟨"PoleSets$Scan", "putPair", "([III)V"⟩,
  ⟨"PoleSets$Scan", "findBestLine", "()V"⟩,
  ⟨"PoleSets$Scan", "weightsBy", "(LPoleSets$Vector;)I"⟩,
  ⟨"PoleSets$Scan", "findThickest", "(I)V"⟩,
  ⟨"PoleSets$Grouping", "<init>", "(LPoleSets$Survey;LPoleSets$Circle;)V"⟩,
  ⟨"PoleSets$Grouping", "groupBy", "(II)V"⟩,
  ⟨"PoleSets$Grouping", "spread", "(IIII)I"⟩,
  ⟨"PoleSets$Grouping", "scatter", "()V"⟩,
  ⟨"PoleSets$Grouping", "heapUp", "(II)I"⟩,
  ⟨"PoleSets$Grouping", "countSets", "(II)I"⟩,
  ⟨"PoleSets$Grouping", "countBy", "(I)I"⟩,
  ⟨"PoleSets$Grouping", "leastLink", "(II)I"⟩,
  ⟨"PoleSets$Grouping", "nearestOpen", "(I)I"⟩,
  ⟨"PoleSets$Grouping", "findBridges", "()V"⟩,
  ⟨"PoleSets$Grouping", "isBridge", "(I)Z"⟩,
  ⟨"PoleSets$Grouping", "refresh", "()V"⟩,
  ⟨"PoleSets$Grouping", "findHeapLies", "(I)V"⟩,
  ⟨"PoleSets$Grouping", "numberHeap", "(II)V"⟩,
  ⟨"PoleSets$Grouping", "hasSet", "(I)Z"⟩,
  ⟨"PoleSets$Grouping", "findPlaced", "(II)I"⟩,
  ⟨"PoleSets$Grouping", "countStrays", "()I"⟩,
  ⟨"PoleSets$Grouping", "fingerprint", "()I"⟩,
  ⟨"PoleSets$Grouping", "measureAll", "()V"⟩,
  ⟨"PoleSets$Grouping", "measured", "(I)LPoleSets$Group;"⟩,
  ⟨"PoleSets$Grouping", "measure", "(ILPoleSets$Group;)V"⟩,
  ⟨"PoleSets$Grouping", "findSeed", "(ILPoleSets$Group;)V"⟩,
  ⟨"PoleSets$Grouping", "countAround", "(II)I"⟩,
  ⟨"PoleSets$Grouping", "openCone", "(ILPoleSets$Group;)V"⟩,
  ⟨"PoleSets$Grouping", "angleOfMeans", "(II)I"⟩,
  ⟨"PoleSets$Grouping", "conesMeet", "(II)Z"⟩,
  ⟨"PoleSets$Grouping", "countInCone", "(II)I"⟩,
  ⟨"PoleSets$Grouping", "isOn", "(III)Z"⟩,
  ⟨"PoleSets$Grouping", "countOn", "(II)I"⟩,
  ⟨"PoleSets$Grouping", "apparentGap", "(II)I"⟩,
  ⟨"PoleSets$Grouping", "trueGap", "(II)I"⟩,
  ⟨"PoleSets", "<init>", "()V"⟩,
  ⟨"PoleSets", "status", "()I"⟩,
  ⟨"PoleSets", "line", "(III)I"⟩,
  ⟨"PoleSets", "crack", "(IIII)I"⟩,
  ⟨"PoleSets", "drop", "(I)I"⟩,
  ⟨"PoleSets", "link", "(II)I"⟩,
  ⟨"PoleSets", "cap", "(I)I"⟩,
  ⟨"PoleSets", "slope", "(IIII)I"⟩,
  ⟨"PoleSets", "many", "(I)I"⟩,
  ⟨"PoleSets", "of", "(II)I"⟩,
  ⟨"PoleSets", "along", "(II)I"⟩,
  ⟨"PoleSets", "angle", "(II)I"⟩,
  ⟨"PoleSets", "near", "(II)I"⟩,
  ⟨"PoleSets", "set", "(II)J"⟩,
  ⟨"PoleSets", "member", "(II)I"⟩,
  ⟨"PoleSets", "stray", "(I)I"⟩,
  ⟨"PoleSets", "apart", "(II)I"⟩,
  ⟨"PoleSets", "hangs", "(II)I"⟩,
  ⟨"PoleSets", "overlap", "(III)I"⟩,
  ⟨"PoleSets", "digest", "()I"⟩,
  ⟨"PoleSets", "without", "(I)I"⟩,
  ⟨"PoleSets", "bridges", "(I)I"⟩,
  ⟨"PoleSets", "nearestSet", "(II)I"⟩,
  ⟨"PoleSets", "would", "(I)I"⟩,
  ⟨"PoleSets", "linkFor", "(I)I"⟩,
  ⟨"PoleSets", "settled", "(II)I"⟩,
  ⟨"PoleSets", "settledIn", "(II)I"⟩,
  ⟨"PoleSets", "settledLie", "(II)I"⟩,
  ⟨"PoleSets", "thick", "(III)I"⟩,
  ⟨"PoleSets", "excess", "(III)I"⟩,
  ⟨"PoleSets", "rose", "(II)I"⟩,
  ⟨"PoleSets", "fabric", "(I)I"⟩,
  ⟨"PoleSets", "axis", "(ZI)I"⟩,
  ⟨"PoleSets", "nextLine", "(I)I"⟩,
  ⟨"PoleSets", "blind", "(III)I"⟩,
  ⟨"PoleSets", "peak", "(II)I"⟩,
  ⟨"PoleSets", "spacing", "(III)I"⟩,
  ⟨"PoleSets", "meets", "(IIIII)I"⟩,
  ⟨"PoleSets", "block", "(IIIIII)J"⟩,
  ⟨"PoleSets", "wedge", "(III)I"⟩,
  ⟨"PoleSets", "risk", "(I)I"⟩,
  ⟨"PoleSets", "safety", "(I)I"⟩,
  ⟨"PoleSets", "safest", "(I)I"⟩,
  ⟨"PoleSets", "steepest", "()I"⟩,
  ⟨"PoleSets", "fold", "(IIII)I"⟩,
  ⟨"PoleSets", "unfold", "(IIII)I"⟩,
  ⟨"PoleSets", "answer", "(I)I"⟩,
  ⟨"PoleSets", "refuse", "(I)I"⟩,
  ⟨"PoleSets", "answerOrNothing", "(I)I"⟩,
  ⟨"PoleSets", "areTwoSets", "(II)Z"⟩,
  ⟨"PoleSets", "within", "(III)Z"⟩,
  ⟨"PoleSets", "isLie", "(II)Z"⟩,
  ⟨"PoleSets", "isLine", "(III)Z"⟩,
  ⟨"PoleSets", "parted", "(JJ)J"⟩,
  ⟨"PoleSets", "root", "(J)J"⟩,
  ⟨"PoleSets", "slant", "(LPoleSets$Vector;LPoleSets$Vector;)J"⟩,
  ⟨"PoleSets", "plainDirection", "(II)I"⟩,
  ⟨"PoleSets", "lieNumber", "(II)I"⟩,
  ⟨"PoleSets", "fillWithVectors", "([LPoleSets$Vector;)V"⟩,
  ⟨"PoleSetsModel", "<init>", "()V"⟩,
  ⟨"PoleSetsModel", "status", "()I"⟩,
  ⟨"PoleSetsModel", "refuse", "(I)I"⟩,
  ⟨"PoleSetsModel", "gives", "(I)I"⟩,
  ⟨"PoleSetsModel", "givesLong", "(J)J"⟩,
  ⟨"PoleSetsModel", "isFrom", "(III)Z"⟩,
  ⟨"PoleSetsModel", "sine", "(I)I"⟩,
  ⟨"PoleSetsModel", "cosine", "(I)I"⟩,
  ⟨"PoleSetsModel", "root", "(J)J"⟩,
  ⟨"PoleSetsModel", "plainDirection", "(II)I"⟩,
  ⟨"PoleSetsModel", "laysPole", "(II)V"⟩,
  ⟨"PoleSetsModel", "laysArrow", "(II)V"⟩,
  ⟨"PoleSetsModel", "dot", "(JJJJJJ)J"⟩,
  ⟨"PoleSetsModel", "square", "(JJJ)J"⟩,
  ⟨"PoleSetsModel", "isNear", "(JJI)Z"⟩,
  ⟨"PoleSetsModel", "angleOf", "(JJ)I"⟩,
  ⟨"PoleSetsModel", "dotOf", "(II)J"⟩,
  ⟨"PoleSetsModel", "squareOf", "(I)J"⟩,
  ⟨"PoleSetsModel", "angleBetween", "(II)I"⟩,
  ⟨"PoleSetsModel", "areNear", "(III)Z"⟩,
  ⟨"PoleSetsModel", "weightBy", "(IJJJ)I"⟩,
  ⟨"PoleSetsModel", "weight", "(I)I"⟩,
  ⟨"PoleSetsModel", "line", "(III)I"⟩,
  ⟨"PoleSetsModel", "isLie", "(II)Z"⟩,
  ⟨"PoleSetsModel", "isLine", "(I)Z"⟩,
  ⟨"PoleSetsModel", "isCrack", "(I)Z"⟩,
  ⟨"PoleSetsModel", "crack", "(IIII)I"⟩,
  ⟨"PoleSetsModel", "drop", "(I)I"⟩,
  ⟨"PoleSetsModel", "link", "(II)I"⟩,
  ⟨"PoleSetsModel", "cap", "(I)I"⟩,
  ⟨"PoleSetsModel", "slope", "(IIII)I"⟩,
  ⟨"PoleSetsModel", "lieOf", "(I)I"⟩,
  ⟨"PoleSetsModel", "laysGroups", "(II)V"⟩,
  ⟨"PoleSetsModel", "bigGroups", "()I"⟩,
  ⟨"PoleSetsModel", "laysSets", "()V"⟩,
  ⟨"PoleSetsModel", "members", "(I)I"⟩,
  ⟨"PoleSetsModel", "nearIn", "(II)I"⟩,
  ⟨"PoleSetsModel", "seedOf", "(I)I"⟩,
  ⟨"PoleSetsModel", "beginsSum", "()V"⟩,
  ⟨"PoleSetsModel", "sums", "(JJJIZ)V"⟩,
  ⟨"PoleSetsModel", "laysSum", "([IIJJJ)V"⟩,
  ⟨"PoleSetsModel", "laysMean", "()Z"⟩,
  ⟨"PoleSetsModel", "turnsUp", "()V"⟩,
  ⟨"PoleSetsModel", "laysSumOf", "(I)V"⟩,
  ⟨"PoleSetsModel", "laysMeanOf", "(I)V"⟩,
  ⟨"PoleSetsModel", "laysMeans", "()V"⟩,
  ⟨"PoleSetsModel", "layMean", "(I)V"⟩,
  ⟨"PoleSetsModel", "trendOf", "()I"⟩,
  ⟨"PoleSetsModel", "outOf", "(I)I"⟩,
  ⟨"PoleSetsModel", "dipOfVector", "()I"⟩,
  ⟨"PoleSetsModel", "directionOfVector", "()I"⟩,
  ⟨"PoleSetsModel", "longOf", "()J"⟩,
  ⟨"PoleSetsModel", "tight", "()I"⟩,
  ⟨"PoleSetsModel", "squareOfMean", "(I)J"⟩,
  ⟨"PoleSetsModel", "dotWithMean", "(II)J"⟩,
  ⟨"PoleSetsModel", "angleToMean", "(II)I"⟩,
  ⟨"PoleSetsModel", "isNearMean", "(III)Z"⟩,
  ⟨"PoleSetsModel", "coneOf", "(I)I"⟩,
  ⟨"PoleSetsModel", "halfOf", "(I)I"⟩,
  ⟨"PoleSetsModel", "isSet", "(I)Z"⟩,
  ⟨"PoleSetsModel", "areSets", "(II)Z"⟩,
  ⟨"PoleSetsModel", "unlikeLies", "()I"⟩,
  ⟨"PoleSetsModel", "many", "(I)I"⟩,
  ⟨"PoleSetsModel", "alikeTo", "(I)I"⟩,
  ⟨"PoleSetsModel", "of", "(II)I"⟩,
  ⟨"PoleSetsModel", "along", "(II)I"⟩,
  ⟨"PoleSetsModel", "angle", "(II)I"⟩,
  ⟨"PoleSetsModel", "near", "(II)I"⟩,
  ⟨"PoleSetsModel", "set", "(II)J"⟩,
  ⟨"PoleSetsModel", "nthOf", "(II)I"⟩,
  ⟨"PoleSetsModel", "member", "(II)I"⟩,
  ⟨"PoleSetsModel", "stray", "(I)I"⟩,
  ⟨"PoleSetsModel", "angleOfMeans", "(II)I"⟩,
  ⟨"PoleSetsModel", "apart", "(II)I"⟩,
  ⟨"PoleSetsModel", "hangs", "(II)I"⟩,
  ⟨"PoleSetsModel", "overlap", "(III)I"⟩,
  ⟨"PoleSetsModel", "digest", "()I"⟩,
  ⟨"PoleSetsModel", "without", "(I)I"⟩,
  ⟨"PoleSetsModel", "isBridge", "(I)Z"⟩,
  ⟨"PoleSetsModel", "bridges", "(I)I"⟩,
  ⟨"PoleSetsModel", "nearestTo", "(I)I"⟩,
  ⟨"PoleSetsModel", "nearestSet", "(II)I"⟩,
  ⟨"PoleSetsModel", "setsBy", "(I)I"⟩,
  ⟨"PoleSetsModel", "would", "(I)I"⟩,
  ⟨"PoleSetsModel", "linkFor", "(I)I"⟩,
  ⟨"PoleSetsModel", "round", "(I)Z"⟩,
  ⟨"PoleSetsModel", "settles", "(I)V"⟩,
  ⟨"PoleSetsModel", "isReach", "(I)Z"⟩,
  ⟨"PoleSetsModel", "settled", "(II)I"⟩,
  ⟨"PoleSetsModel", "settledIn", "(II)I"⟩,
  ⟨"PoleSetsModel", "settledLie", "(II)I"⟩,
  ⟨"PoleSetsModel", "weights", "()J"⟩,
  ⟨"PoleSetsModel", "thickAt", "(III)I"⟩,
  ⟨"PoleSetsModel", "thick", "(III)I"⟩,
  ⟨"PoleSetsModel", "excess", "(III)I"⟩,
  ⟨"PoleSetsModel", "rose", "(II)I"⟩,
  ⟨"PoleSetsModel", "laysFabric", "()V"⟩,
  ⟨"PoleSetsModel", "fabric", "(I)I"⟩,
  ⟨"PoleSetsModel", "hasOf", "()J"⟩,
  ⟨"PoleSetsModel", "axis", "(ZI)I"⟩,
  ⟨"PoleSetsModel", "nextLine", "(I)I"⟩,
  ⟨"PoleSetsModel", "blind", "(III)I"⟩,
  ⟨"PoleSetsModel", "peak", "(II)I"⟩,
  ⟨"PoleSetsModel", "coefficient", "(IJJJ)J"⟩,
  ⟨"PoleSetsModel", "laysSpacing", "(II)Z"⟩,
  ⟨"PoleSetsModel", "spacing", "(III)I"⟩,
  ⟨"PoleSetsModel", "meets", "(IIIII)I"⟩,
  ⟨"PoleSetsModel", "laysCross", "(JJJJJJ)V"⟩,
  ⟨"PoleSetsModel", "crossesMeans", "(II)V"⟩,
  ⟨"PoleSetsModel", "isLength", "(I)Z"⟩,
  ⟨"PoleSetsModel", "block", "(IIIIII)J"⟩,
  ⟨"PoleSetsModel", "laysWedge", "(II)Z"⟩,
  ⟨"PoleSetsModel", "plungeOfVector", "()I"⟩,
  ⟨"PoleSetsModel", "wedge", "(III)I"⟩,
  ⟨"PoleSetsModel", "off", "(II)I"⟩,
  ⟨"PoleSetsModel", "ones", "(I)I"⟩,
  ⟨"PoleSetsModel", "laysLies", "()V"⟩,
  ⟨"PoleSetsModel", "sliding", "()I"⟩,
  ⟨"PoleSetsModel", "slidingBy", "(II)I"⟩,
  ⟨"PoleSetsModel", "topplingBy", "(II)I"⟩,
  ⟨"PoleSetsModel", "doesSlide", "(IIII)Z"⟩,
  ⟨"PoleSetsModel", "wedgesBy", "(II)I"⟩,
  ⟨"PoleSetsModel", "firstWedge", "()I"⟩,
  ⟨"PoleSetsModel", "risk", "(I)I"⟩,
  ⟨"PoleSetsModel", "safety", "(I)I"⟩,
  ⟨"PoleSetsModel", "risksBy", "(II)I"⟩,
  ⟨"PoleSetsModel", "safest", "(I)I"⟩,
  ⟨"PoleSetsModel", "steepest", "()I"⟩,
  ⟨"PoleSetsModel", "laysTurned", "(JJJII)V"⟩,
  ⟨"PoleSetsModel", "folded", "(IIII)I"⟩,
  ⟨"PoleSetsModel", "fold", "(IIII)I"⟩,
  ⟨"PoleSetsModel", "unfold", "(IIII)I"⟩,
  ⟨"java/lang/Integer", "bitCount", "(I)I"⟩,
  x]
def mCdL : List ByteArray := [prog_12_method_1_code, prog_12_method_2_code, prog_12_method_3_code, prog_12_method_4_code, prog_12_method_5_code, prog_12_method_6_code, prog_12_method_7_code, prog_12_method_8_code, prog_12_method_9_code, prog_3_method_1_code, prog_3_method_2_code, prog_3_method_3_code, prog_6_method_1_code, prog_6_method_2_code, prog_6_method_3_code, prog_5_method_1_code, prog_5_method_2_code, prog_5_method_3_code, prog_5_method_4_code, prog_5_method_5_code, prog_5_method_6_code, prog_4_method_1_code, prog_4_method_2_code, prog_4_method_3_code, prog_2_method_1_code, prog_2_method_2_code, prog_2_method_3_code, prog_2_method_4_code, prog_2_method_5_code, prog_2_method_6_code, prog_2_method_7_code, prog_2_method_8_code, prog_2_method_9_code, prog_2_method_10_code, prog_2_method_11_code, prog_2_method_12_code, prog_2_method_13_code, prog_2_method_14_code, prog_10_method_1_code, prog_10_method_2_code, prog_10_method_3_code, prog_10_method_4_code, prog_10_method_5_code, prog_10_method_6_code, prog_10_method_7_code, prog_10_method_8_code, prog_8_method_1_code, prog_8_method_2_code, prog_8_method_3_code, prog_8_method_4_code, prog_8_method_5_code, prog_8_method_6_code, prog_8_method_7_code, prog_8_method_8_code, prog_8_method_9_code, prog_8_method_10_code, prog_8_method_11_code, prog_8_method_12_code, prog_11_method_1_code, prog_11_method_2_code, prog_11_method_3_code, prog_11_method_4_code, prog_11_method_5_code, prog_11_method_6_code, prog_11_method_7_code, prog_11_method_8_code, prog_11_method_9_code, prog_11_method_10_code, prog_11_method_11_code, prog_11_method_12_code, prog_11_method_13_code, prog_11_method_14_code, prog_11_method_15_code, prog_11_method_16_code, prog_11_method_17_code, prog_11_method_18_code, prog_11_method_19_code, prog_9_method_1_code, prog_9_method_2_code, prog_9_method_3_code, prog_9_method_4_code, prog_9_method_5_code, prog_9_method_6_code, prog_9_method_7_code, prog_9_method_8_code, prog_9_method_9_code, prog_7_method_1_code, prog_7_method_2_code, prog_7_method_3_code, prog_7_method_4_code, prog_7_method_5_code, prog_7_method_6_code, prog_7_method_7_code, prog_7_method_8_code, prog_7_method_9_code, prog_7_method_10_code, prog_7_method_11_code, prog_7_method_12_code, prog_7_method_13_code, prog_7_method_14_code, prog_7_method_15_code, prog_7_method_16_code, prog_7_method_17_code, prog_7_method_18_code, prog_7_method_19_code, prog_7_method_20_code, prog_7_method_21_code, prog_7_method_22_code, prog_7_method_23_code, prog_7_method_24_code, prog_7_method_25_code, prog_7_method_26_code, prog_7_method_27_code, prog_7_method_28_code, prog_7_method_29_code, prog_7_method_30_code, prog_7_method_31_code, prog_1_method_1_code, prog_1_method_2_code, prog_1_method_3_code, prog_1_method_4_code, prog_1_method_5_code, prog_1_method_6_code, prog_1_method_7_code, prog_1_method_8_code, prog_1_method_9_code, prog_1_method_10_code, prog_1_method_11_code, prog_1_method_12_code, prog_1_method_13_code, prog_1_method_14_code, prog_1_method_15_code, prog_1_method_16_code, prog_1_method_17_code, prog_1_method_18_code, prog_1_method_19_code, prog_1_method_20_code, prog_1_method_21_code, prog_1_method_22_code, prog_1_method_23_code, prog_1_method_24_code, prog_1_method_25_code, prog_1_method_26_code, prog_1_method_27_code, prog_1_method_28_code, prog_1_method_29_code, prog_1_method_30_code, prog_1_method_31_code, prog_1_method_32_code, prog_1_method_33_code, prog_1_method_34_code, prog_1_method_35_code, prog_1_method_36_code, prog_1_method_37_code, prog_1_method_38_code, prog_1_method_39_code, prog_1_method_40_code, prog_1_method_41_code, prog_1_method_42_code, prog_1_method_43_code, prog_1_method_44_code, prog_1_method_45_code, prog_1_method_46_code, prog_1_method_47_code, prog_1_method_48_code, prog_1_method_49_code, prog_1_method_50_code, prog_1_method_51_code, prog_1_method_52_code, prog_1_method_53_code, prog_1_method_54_code, prog_1_method_55_code, prog_1_method_56_code, prog_1_method_57_code, prog_1_method_58_code, prog_1_method_59_code, prog_14_method_1_code, prog_14_method_2_code, prog_14_method_3_code, prog_14_method_4_code, prog_14_method_5_code, prog_14_method_6_code, prog_14_method_7_code, prog_14_method_8_code, prog_14_method_9_code, prog_14_method_10_code, prog_14_method_11_code, prog_14_method_12_code, prog_14_method_13_code, prog_14_method_14_code, prog_14_method_15_code, prog_14_method_16_code, prog_14_method_18_code, prog_14_method_19_code, prog_14_method_20_code, prog_14_method_21_code, prog_14_method_22_code, prog_14_method_23_code, prog_14_method_24_code, prog_14_method_25_code, prog_14_method_26_code, prog_14_method_27_code, prog_14_method_28_code, prog_14_method_29_code, prog_14_method_30_code, prog_14_method_31_code, prog_14_method_32_code, prog_14_method_33_code, prog_14_method_34_code, prog_14_method_35_code, prog_14_method_36_code, prog_14_method_37_code, prog_14_method_38_code, prog_14_method_39_code, prog_14_method_40_code, prog_14_method_41_code, prog_14_method_42_code, prog_14_method_43_code, prog_14_method_44_code, prog_14_method_45_code, prog_14_method_46_code, prog_14_method_47_code, prog_14_method_48_code, prog_14_method_49_code, prog_14_method_50_code, prog_14_method_51_code, prog_14_method_52_code, prog_14_method_53_code, prog_14_method_54_code, prog_14_method_55_code, prog_14_method_56_code, prog_14_method_57_code, prog_14_method_58_code, prog_14_method_59_code, prog_14_method_60_code, prog_14_method_61_code, prog_14_method_62_code, prog_14_method_63_code, prog_14_method_64_code, prog_14_method_65_code, prog_14_method_66_code, prog_14_method_67_code, prog_14_method_68_code, prog_14_method_69_code, prog_14_method_70_code, prog_14_method_71_code, prog_14_method_72_code, prog_14_method_73_code, prog_14_method_74_code, prog_14_method_75_code, prog_14_method_76_code, prog_14_method_77_code, prog_14_method_78_code, prog_14_method_79_code, prog_14_method_80_code, prog_14_method_81_code, prog_14_method_82_code, prog_14_method_83_code, prog_14_method_84_code, prog_14_method_85_code, prog_14_method_86_code, prog_14_method_87_code, prog_14_method_88_code, prog_14_method_89_code, prog_14_method_90_code, prog_14_method_91_code, prog_14_method_92_code, prog_14_method_93_code, prog_14_method_94_code, prog_14_method_95_code, prog_14_method_96_code, prog_14_method_97_code, prog_14_method_98_code, prog_14_method_99_code, prog_14_method_100_code, prog_14_method_101_code, prog_14_method_102_code, prog_14_method_103_code, prog_14_method_104_code, prog_14_method_105_code, prog_14_method_106_code, prog_14_method_107_code, prog_14_method_108_code, prog_14_method_109_code, prog_14_method_110_code, prog_14_method_111_code, prog_14_method_112_code, prog_14_method_113_code, prog_14_method_114_code, prog_14_method_115_code, prog_14_method_116_code, prog_14_method_117_code, prog_14_method_118_code, prog_14_method_119_code, prog_14_method_120_code, prog_14_method_121_code, prog_14_method_122_code, prog_14_method_123_code, prog_14_method_124_code, prog_14_method_125_code, prog_14_method_126_code, prog_14_method_127_code, prog_14_method_128_code, prog_14_method_129_code, prog_14_method_130_code, prog_14_method_131_code, prog_14_method_132_code, prog_14_method_133_code, prog_15_method_49_code, code]
def mMxL : List Nat := [1, 7, 2, 2, 2, 1, 1, 3, 2, 2, 3, 2, 1, 3, 2, 1, 1, 6, 1, 3, 8, 4, 12, 7, 3, 2, 2, 2, 6, 5, 8, 15, 8, 8, 3, 11, 3, 4, 4, 3, 2, 4, 3, 3, 3, 3, 3, 5, 3, 7, 7, 4, 5, 9, 7, 4, 5, 4, 3, 2, 2, 5, 8, 4, 3, 9, 3, 5, 4, 3, 3, 3, 4, 4, 5, 6, 5, 3, 4, 4, 6, 16, 3, 4, 4, 5, 4, 3, 9, 2, 5, 6, 2, 6, 4, 2, 4, 3, 4, 6, 2, 5, 3, 3, 2, 3, 4, 7, 5, 6, 3, 3, 6, 4, 5, 7, 5, 1, 1, 4, 5, 2, 4, 3, 5, 2, 3, 3, 3, 3, 3, 3, 2, 3, 3, 4, 1, 2, 2, 5, 2, 3, 3, 3, 3, 4, 6, 3, 2, 3, 2, 4, 3, 5, 9, 9, 5, 2, 3, 6, 3, 5, 9, 2, 2, 2, 3, 3, 2, 3, 4, 8, 4, 2, 2, 2, 1, 1, 2, 2, 3, 3, 3, 1, 8, 2, 4, 3, 12, 6, 5, 5, 3, 2, 3, 4, 10, 3, 4, 2, 2, 2, 5, 3, 4, 3, 5, 2, 7, 3, 4, 4, 5, 5, 1, 10, 10, 1, 1, 3, 3, 2, 2, 3, 2, 4, 1, 1, 3, 2, 3, 3, 4, 4, 6, 2, 3, 5, 2, 4, 3, 5, 3, 5, 3, 5, 4, 3, 3, 3, 4, 7, 5, 2, 4, 5, 4, 4, 2, 2, 3, 5, 3, 1, 6, 3, 3, 4, 8, 4, 4, 6, 4, 2, 1, 15, 11, 6, 9, 10, 6, 4, 6, 13, 3, 1, 9, 3, 4, 4, 3, 3, 4, 1, 5, 5, 8, 6, 3, 3, 2, 3, 4, 2, 19, 12, 5, 9, 1, 4]
def mRtL : List (Option FieldType) := [none, none, none, (some .long), (some .long), (some .long), (some .boolean), none, none, none, none, (some .int), none, none, (some .long), none, none, none, (some .long), (some .int), none, none, none, (some .int), none, (some .int), (some .int), (some .int), none, none, (some .boolean), (some .int), (some .int), (some .int), (some .long), (some .int), (some .int), (some .int), none, none, none, (some .boolean), (some .int), none, (some .int), (some .int), none, none, (some .int), (some .int), (some .int), (some .boolean), none, (some .boolean), (some .int), (some .int), (some .int), (some .int), none, (some .boolean), (some .boolean), (some .int), (some .int), none, none, (some .int), (some .int), (some .int), (some .int), (some .int), (some .boolean), (some .int), (some .int), (some .long), (some .int), (some .int), (some .int), none, none, none, (some .long), none, none, none, (some .int), none, none, none, (some .int), none, (some .int), (some .int), (some .int), (some .int), (some .int), none, (some .boolean), none, none, none, (some .boolean), (some .int), (some .int), (some .int), none, (some (.object "PoleSets$Group")), none, none, (some .int), none, (some .int), (some .boolean), (some .int), (some .boolean), (some .int), (some .int), (some .int), none, (some .int), (some .int), (some .int), (some .int), (some .int), (some .int), (some .int), (some .int), (some .int), (some .int), (some .int), (some .int), (some .long), (some .int), (some .int), (some .int), (some .int), (some .int), (some .int), (some .int), (some .int), (some .int), (some .int), (some .int), (some .int), (some .int), (some .int), (some .int), (some .int), (some .int), (some .int), (some .int), (some .int), (some .int), (some .int), (some .int), (some .int), (some .long), (some .int), (some .int), (some .int), (some .int), (some .int), (some .int), (some .int), (some .int), (some .int), (some .int), (some .boolean), (some .boolean), (some .boolean), (some .boolean), (some .long), (some .long), (some .long), (some .int), (some .int), none, none, (some .int), (some .int), (some .int), (some .long), (some .boolean), (some .int), (some .int), (some .long), (some .int), none, none, (some .long), (some .long), (some .boolean), (some .int), (some .long), (some .long), (some .int), (some .boolean), (some .int), (some .int), (some .int), (some .boolean), (some .boolean), (some .boolean), (some .int), (some .int), (some .int), (some .int), (some .int), (some .int), none, (some .int), none, (some .int), (some .int), (some .int), none, none, none, (some .boolean), none, none, none, none, none, (some .int), (some .int), (some .int), (some .int), (some .long), (some .int), (some .long), (some .long), (some .int), (some .boolean), (some .int), (some .int), (some .boolean), (some .boolean), (some .int), (some .int), (some .int), (some .int), (some .int), (some .int), (some .int), (some .long), (some .int), (some .int), (some .int), (some .int), (some .int), (some .int), (some .int), (some .int), (some .int), (some .boolean), (some .int), (some .int), (some .int), (some .int), (some .int), (some .int), (some .boolean), none, (some .boolean), (some .int), (some .int), (some .int), (some .long), (some .int), (some .int), (some .int), (some .int), none, (some .int), (some .long), (some .int), (some .int), (some .int), (some .int), (some .long), (some .boolean), (some .int), (some .int), none, none, (some .boolean), (some .long), (some .boolean), (some .int), (some .int), (some .int), (some .int), none, (some .int), (some .int), (some .int), (some .boolean), (some .int), (some .int), (some .int), (some .int), (some .int), (some .int), (some .int), none, (some .int), (some .int), (some .int), (some .int), some .boolean]
def mOwL : List Nat := [0, 0, 0, 0, 0, 0, 0, 0, 0, 1, 1, 1, 2, 2, 2, 3, 3, 3, 3, 3, 3, 4, 4, 4, 5, 5, 5, 5, 5, 5, 5, 5, 5, 5, 5, 5, 5, 5, 6, 6, 6, 6, 6, 6, 6, 6, 7, 7, 7, 7, 7, 7, 7, 7, 7, 7, 7, 7, 8, 8, 8, 8, 8, 8, 8, 8, 8, 8, 8, 8, 8, 8, 8, 8, 8, 8, 8, 9, 9, 9, 9, 9, 9, 9, 9, 9, 10, 10, 10, 10, 10, 10, 10, 10, 10, 10, 10, 10, 10, 10, 10, 10, 10, 10, 10, 10, 10, 10, 10, 10, 10, 10, 10, 10, 10, 10, 10, 11, 11, 11, 11, 11, 11, 11, 11, 11, 11, 11, 11, 11, 11, 11, 11, 11, 11, 11, 11, 11, 11, 11, 11, 11, 11, 11, 11, 11, 11, 11, 11, 11, 11, 11, 11, 11, 11, 11, 11, 11, 11, 11, 11, 11, 11, 11, 11, 11, 11, 11, 11, 11, 11, 11, 11, 11, 11, 11, 12, 12, 12, 12, 12, 12, 12, 12, 12, 12, 12, 12, 12, 12, 12, 12, 12, 12, 12, 12, 12, 12, 12, 12, 12, 12, 12, 12, 12, 12, 12, 12, 12, 12, 12, 12, 12, 12, 12, 12, 12, 12, 12, 12, 12, 12, 12, 12, 12, 12, 12, 12, 12, 12, 12, 12, 12, 12, 12, 12, 12, 12, 12, 12, 12, 12, 12, 12, 12, 12, 12, 12, 12, 12, 12, 12, 12, 12, 12, 12, 12, 12, 12, 12, 12, 12, 12, 12, 12, 12, 12, 12, 12, 12, 12, 12, 12, 12, 12, 12, 12, 12, 12, 12, 12, 12, 12, 12, 12, 12, 12, 12, 12, 12, 12, 12, 12, 12, 12, 12, 12, 12, 12, 12, 12, 12, 12, 12, 12, 12, 12, 12, 15, 13]
def mNpL : List Nat := [0, 3, 1, 1, 1, 0, 0, 2, 0, 1, 2, 1, 0, 2, 1, 0, 0, 3, 0, 0, 1, 3, 3, 4, 0, 1, 1, 1, 3, 3, 3, 2, 3, 1, 2, 2, 2, 1, 3, 1, 0, 0, 1, 0, 0, 0, 2, 4, 2, 2, 2, 3, 0, 3, 2, 0, 2, 1, 1, 1, 1, 3, 4, 1, 1, 2, 2, 2, 1, 0, 1, 2, 1, 0, 2, 2, 2, 2, 0, 2, 1, 0, 3, 0, 1, 1, 2, 2, 4, 0, 2, 2, 1, 2, 1, 0, 1, 0, 1, 2, 1, 2, 0, 0, 0, 1, 2, 2, 2, 2, 2, 2, 2, 3, 2, 2, 2, 0, 0, 3, 4, 1, 2, 1, 4, 1, 2, 2, 2, 2, 2, 2, 1, 2, 2, 3, 0, 1, 1, 2, 1, 1, 2, 2, 2, 3, 3, 2, 1, 2, 1, 3, 2, 3, 5, 6, 3, 1, 1, 1, 0, 4, 4, 1, 1, 1, 2, 3, 2, 3, 2, 1, 2, 2, 2, 1, 0, 0, 1, 1, 1, 3, 1, 1, 1, 2, 2, 2, 6, 3, 3, 2, 2, 1, 2, 3, 4, 1, 3, 2, 1, 1, 4, 1, 2, 1, 4, 1, 2, 0, 0, 1, 2, 1, 0, 5, 5, 0, 0, 1, 1, 0, 1, 0, 1, 0, 0, 0, 0, 1, 2, 2, 3, 1, 1, 1, 2, 0, 1, 1, 2, 2, 2, 2, 2, 2, 2, 1, 2, 2, 2, 3, 0, 1, 1, 1, 1, 2, 1, 1, 1, 1, 1, 1, 2, 2, 2, 0, 3, 3, 3, 2, 0, 1, 0, 2, 1, 3, 2, 4, 2, 3, 5, 6, 2, 1, 6, 2, 0, 3, 2, 1, 0, 0, 2, 2, 4, 2, 0, 1, 1, 2, 1, 0, 5, 4, 4, 4, 1, 1]
def mKdL : List Nat := [2, 0, 0, 0, 0, 0, 0, 0, 0, 2, 0, 0, 2, 0, 0, 2, 0, 0, 0, 0, 0, 2, 0, 0, 2, 1, 0, 0, 0, 0, 0, 0, 0, 0, 0, 0, 0, 0, 2, 0, 0, 0, 0, 0, 0, 0, 2, 0, 1, 0, 0, 0, 0, 0, 0, 0, 0, 0, 2, 0, 0, 0, 0, 0, 0, 0, 0, 0, 0, 0, 0, 0, 0, 0, 0, 0, 0, 2, 0, 0, 0, 0, 1, 0, 0, 0, 2, 0, 0, 0, 0, 0, 0, 0, 0, 0, 0, 0, 0, 0, 0, 0, 0, 0, 0, 0, 0, 0, 0, 0, 0, 0, 0, 0, 0, 0, 0, 2, 0, 0, 0, 0, 0, 0, 0, 0, 0, 0, 0, 0, 0, 0, 0, 0, 0, 0, 0, 0, 0, 0, 0, 0, 0, 0, 0, 0, 0, 0, 0, 0, 0, 0, 0, 0, 0, 0, 0, 0, 0, 0, 0, 0, 0, 0, 0, 0, 0, 1, 1, 1, 1, 1, 1, 1, 1, 1, 2, 0, 0, 0, 0, 1, 1, 1, 1, 1, 0, 0, 1, 1, 1, 1, 0, 0, 0, 0, 0, 0, 0, 1, 0, 0, 0, 0, 0, 0, 0, 0, 0, 0, 0, 0, 0, 0, 0, 0, 0, 0, 0, 0, 0, 0, 0, 0, 0, 0, 0, 0, 0, 0, 0, 0, 0, 0, 0, 0, 0, 0, 0, 0, 0, 0, 0, 0, 0, 0, 0, 0, 0, 0, 0, 0, 0, 0, 0, 0, 0, 0, 0, 0, 0, 0, 0, 1, 0, 0, 0, 0, 0, 0, 0, 0, 0, 0, 0, 0, 0, 0, 0, 0, 0, 0, 0, 0, 0, 1, 0, 0, 0, 0, 1, 1, 0, 0, 0, 0, 0, 0, 0, 0, 0, 0, 0, 0, 0, 0, 0, 0, 1, 1]
/-- where a method's own words stand in the table: its code, what it is (of an object or none), its choice, its class -/
def mWsL : List (Nat × Nat × Nat × Nat) := [(159, 158, 0, 105), (676, 674, 675, 105), (833, 831, 832, 105), (931, 929, 930, 105), (718, 716, 717, 105), (723, 721, 722, 105), (1311, 1309, 1310, 105), (1291, 1289, 1290, 105), (853, 851, 852, 105), (188, 187, 0, 106), (699, 697, 698, 106), (927, 925, 926, 106), (303, 302, 0, 108), (813, 811, 812, 108), (971, 969, 970, 108), (309, 308, 0, 109), (838, 836, 837, 109), (843, 841, 842, 109), (975, 973, 974, 109), (982, 980, 981, 109), (848, 846, 847, 109), (587, 586, 0, 113), (1392, 1391, 28, 113), (1385, 1383, 1384, 113), (129, 128, 0, 103), (133, 132, 0, 103), (1344, 1342, 1343, 103), (1169, 1167, 1168, 103), (709, 707, 708, 103), (672, 670, 671, 103), (1042, 1040, 1041, 103), (734, 732, 733, 103), (1085, 1083, 1084, 103), (861, 859, 860, 103), (866, 865, 10, 103), (871, 870, 11, 103), (1317, 1315, 1316, 103), (857, 855, 856, 103), (451, 450, 0, 110), (1108, 1106, 1107, 110), (1112, 1111, 19, 110), (1117, 1116, 20, 110), (1121, 1120, 21, 110), (1127, 1126, 22, 110), (1134, 1132, 1133, 110), (1138, 1136, 1137, 110), (546, 545, 0, 112), (773, 771, 772, 112), (888, 887, 0, 112), (885, 883, 884, 112), (1332, 1330, 1331, 112), (1305, 1303, 1304, 112), (1325, 1323, 1324, 112), (1340, 1339, 27, 112), (1336, 1334, 1335, 112), (1350, 1348, 1349, 112), (1369, 1367, 1368, 112), (1358, 1356, 1357, 112), (148, 147, 0, 104), (691, 689, 690, 104), (745, 743, 744, 104), (668, 666, 667, 104), (695, 693, 694, 104), (749, 747, 748, 104), (765, 763, 764, 104), (714, 712, 713, 104), (797, 795, 796, 104), (957, 955, 956, 104), (923, 921, 922, 104), (907, 905, 906, 104), (911, 910, 13, 104), (939, 937, 938, 104), (943, 942, 14, 104), (1165, 1163, 1164, 104), (1156, 1154, 1155, 104), (1179, 1177, 1178, 104), (1235, 1233, 1234, 104), (492, 491, 0, 111), (1187, 1185, 1186, 111), (1191, 1190, 23, 111), (1207, 1206, 24, 111), (1201, 1199, 1200, 111), (1212, 1211, 0, 111), (1220, 1218, 1219, 111), (1226, 1225, 25, 111), (1243, 1241, 1242, 111), (295, 294, 0, 107), (757, 755, 756, 107), (793, 792, 4, 107), (789, 788, 3, 107), (785, 784, 2, 107), (1064, 1062, 1063, 107), (1095, 1093, 1094, 107), (1026, 1024, 1025, 107), (1030, 1029, 17, 107), (1072, 1070, 1071, 107), (1076, 1075, 18, 107), (781, 779, 780, 107), (801, 800, 5, 107), (809, 808, 6, 107), (966, 964, 965, 107), (998, 996, 997, 107), (915, 913, 914, 107), (1055, 1053, 1054, 107), (777, 775, 776, 107), (817, 815, 816, 107), (821, 820, 7, 107), (825, 824, 8, 107), (829, 828, 9, 107), (876, 875, 12, 107), (1018, 1016, 1017, 107), (1046, 1044, 1045, 107), (1038, 1036, 1037, 107), (1256, 1255, 26, 107), (1252, 1250, 1251, 107), (1260, 1258, 1259, 107), (1267, 1265, 1266, 107), (121, 120, 0, 102), (649, 647, 648, 102), (653, 651, 652, 102), (684, 682, 683, 102), (741, 739, 740, 102), (753, 751, 752, 102), (761, 759, 760, 102), (769, 767, 768, 102), (902, 900, 901, 102), (919, 917, 918, 102), (935, 933, 934, 102), (948, 946, 947, 102), (953, 951, 952, 102), (962, 960, 961, 102), (994, 992, 993, 102), (1006, 1004, 1005, 102), (1010, 1008, 1009, 102), (1022, 1020, 1021, 102), (1034, 1032, 1033, 102), (1051, 1049, 1050, 102), (1060, 1058, 1059, 102), (1068, 1066, 1067, 102), (1081, 1079, 1080, 102), (1091, 1089, 1090, 102), (1100, 1098, 1099, 102), (1104, 1102, 1103, 102), (1142, 1140, 1141, 102), (1146, 1144, 1145, 102), (1151, 1149, 1150, 102), (1161, 1159, 1160, 102), (1175, 1173, 1174, 102), (1183, 1181, 1182, 102), (1197, 1195, 1196, 102), (1216, 1214, 1215, 102), (1231, 1229, 1230, 102), (1239, 1237, 1238, 102), (1248, 1246, 1247, 102), (1281, 1279, 1280, 102), (1287, 1285, 1286, 102), (1299, 1297, 1298, 102), (1321, 1319, 1320, 102), (1354, 1352, 1353, 102), (1364, 1362, 1363, 102), (1377, 1375, 1376, 102), (1381, 1379, 1380, 102), (1402, 1400, 1401, 102), (680, 679, 1, 102), (664, 663, 0, 102), (1002, 1001, 15, 102), (1014, 1013, 16, 102), (659, 658, 0, 102), (687, 686, 0, 102), (656, 655, 0, 102), (138, 137, 0, 102), (727, 726, 0, 102), (1270, 1269, 0, 102), (702, 701, 0, 102), (705, 704, 0, 102), (154, 153, 0, 102), (1407, 1406, 0, 114), (1560, 1558, 1559, 114), (1572, 1571, 29, 114), (1587, 1586, 31, 114), (1829, 1828, 71, 114), (1567, 1566, 0, 114), (1582, 1581, 0, 114), (1579, 1578, 0, 114), (1713, 1712, 0, 114), (1605, 1604, 0, 114), (1602, 1601, 33, 114), (1576, 1575, 30, 114), (1644, 1643, 0, 114), (1651, 1650, 0, 114), (1654, 1653, 0, 114), (1813, 1812, 0, 114), (1641, 1640, 38, 114), (1648, 1647, 39, 114), (1810, 1809, 69, 114), (1637, 1636, 37, 114), (1709, 1708, 52, 114), (1705, 1704, 51, 114), (1564, 1562, 1563, 114), (1594, 1593, 0, 114), (1598, 1597, 32, 114), (1613, 1612, 34, 114), (1591, 1589, 1590, 114), (1609, 1607, 1608, 114), (1617, 1615, 1616, 114), (1621, 1619, 1620, 114), (1625, 1623, 1624, 114), (1660, 1659, 40, 114), (1633, 1632, 36, 114), (1665, 1664, 41, 114), (1629, 1628, 35, 114), (1790, 1789, 67, 114), (1693, 1692, 48, 114), (1689, 1688, 47, 114), (1701, 1700, 50, 114), (1720, 1719, 53, 114), (1697, 1696, 49, 114), (1724, 1723, 54, 114), (1728, 1727, 55, 114), (1685, 1684, 46, 114), (1681, 1680, 45, 114), (1677, 1676, 44, 114), (1732, 1731, 56, 114), (1740, 1739, 58, 114), (1748, 1747, 60, 114), (1744, 1743, 59, 114), (1736, 1735, 57, 114), (1833, 1832, 72, 114), (1837, 1836, 73, 114), (1854, 1853, 77, 114), (1850, 1849, 76, 114), (1846, 1845, 75, 114), (1862, 1861, 79, 114), (1842, 1841, 74, 114), (1858, 1857, 78, 114), (1825, 1824, 70, 114), (1882, 1881, 81, 114), (1786, 1785, 66, 114), (1782, 1780, 1781, 114), (1798, 1797, 68, 114), (1794, 1792, 1793, 114), (1802, 1800, 1801, 114), (1806, 1804, 1805, 114), (1817, 1815, 1816, 114), (1821, 1819, 1820, 114), (1870, 1869, 80, 114), (1866, 1864, 1865, 114), (1874, 1872, 1873, 114), (1886, 1885, 82, 114), (1878, 1876, 1877, 114), (1890, 1888, 1889, 114), (1894, 1892, 1893, 114), (1898, 1896, 1897, 114), (1902, 1900, 1901, 114), (1910, 1909, 83, 114), (1906, 1904, 1905, 114), (1918, 1917, 84, 114), (1914, 1912, 1913, 114), (1926, 1925, 85, 114), (1922, 1920, 1921, 114), (1930, 1928, 1929, 114), (1945, 1944, 87, 114), (1941, 1940, 86, 114), (1937, 1936, 0, 114), (1934, 1932, 1933, 114), (1949, 1947, 1948, 114), (1953, 1951, 1952, 114), (1969, 1968, 89, 114), (1961, 1960, 88, 114), (1957, 1955, 1956, 114), (1965, 1963, 1964, 114), (1973, 1971, 1972, 114), (1981, 1980, 90, 114), (1977, 1975, 1976, 114), (1989, 1988, 91, 114), (1985, 1983, 1984, 114), (1993, 1991, 1992, 114), (1998, 1996, 1997, 114), (2002, 2000, 2001, 114), (2015, 2014, 93, 114), (2010, 2009, 92, 114), (2006, 2004, 2005, 114), (2019, 2017, 2018, 114), (1761, 1760, 63, 114), (1757, 1756, 62, 114), (2026, 2025, 0, 114), (2023, 2021, 2022, 114), (1752, 1751, 61, 114), (1765, 1764, 64, 114), (2031, 2029, 2030, 114), (1772, 1771, 0, 114), (1778, 1777, 0, 114), (1673, 1672, 43, 114), (1669, 1668, 42, 114), (1769, 1768, 65, 114), (2039, 2038, 94, 114), (2047, 2046, 96, 114), (2043, 2042, 95, 114), (2051, 2050, 97, 114), (2035, 2033, 2034, 114), (2055, 2053, 2054, 114), (2063, 2062, 98, 114), (2059, 2057, 2058, 114), (2067, 2065, 2066, 114), (2079, 2078, 100, 114), (2075, 2074, 99, 114), (2071, 2069, 2070, 114), (2083, 2081, 2082, 114), (895, 894, 0, 116)]
def mName (y : Nat) : MethodName := mNmL.getD y x
def mCode (y : Nat) : ByteArray := mCdL.getD y code
def mMx (y : Nat) : Nat := mMxL.getD y 0
def mRt (y : Nat) : Option FieldType := mRtL.getD y none
def mOw (y : Nat) : Nat := mOwL.getD y 0
def mNp (y : Nat) : Nat := mNpL.getD y 0
def mKd (y : Nat) : Nat := mKdL.getD y 0
def mWs (y : Nat) : Nat × Nat × Nat × Nat := mWsL.getD y (0, 0, 0, 0)
def calL : List (List (Nat × Nat × Nat × Nat)) := [
  [(21, 1, 0, 834)],
  [(15, 0, 1, 191), (26, 173, 1, 700), (35, 174, 1, 703), (50, 3, 0, 928)],
  [(9, 15, 0, 307), (18, 0, 1, 323), (47, 18, 0, 972), (51, 19, 0, 979), (64, 3, 0, 990)],
  [(11, 0, 1, 312), (18, 1, 0, 839), (26, 4, 0, 844), (39, 5, 0, 976), (43, 171, 1, 977), (49, 18, 0, 983), (57, 170, 1, 849), (66, 8, 0, 850)],
  [(25, 0, 1, 590), (41, 15, 0, 592), (46, 27, 0, 1386), (52, 26, 0, 1387), (57, 4, 0, 1394), (61, 7, 0, 1395), (75, 1, 0, 1388), (85, 22, 0, 1389), (89, 16, 0, 1396), (114, 17, 0, 1397), (118, 19, 0, 1398)],
  [(15, 25, 0, 131), (22, 170, 1, 136), (32, 173, 1, 710), (35, 1, 0, 673), (41, 4, 0, 735), (47, 5, 0, 737), (51, 31, 0, 1086), (71, 34, 0, 863), (75, 35, 0, 868), (79, 33, 0, 858), (83, 174, 1, 872)],
  [(33, 175, 1, 454), (39, 15, 0, 456), (54, 40, 0, 1109), (60, 41, 0, 1114), (64, 43, 0, 1124), (77, 2, 0, 1113), (91, 42, 0, 1118), (95, 32, 0, 1122), (101, 31, 0, 1123), (105, 16, 0, 1128), (111, 17, 0, 1129), (115, 20, 0, 1130)],
  [(21, 0, 1, 549), (75, 48, 0, 886), (82, 7, 0, 1306), (86, 8, 0, 1307), (89, 6, 0, 1308), (94, 51, 0, 1326), (98, 33, 0, 1327), (104, 36, 0, 1328), (108, 26, 0, 1341), (112, 27, 0, 1345), (117, 53, 0, 1337), (121, 49, 0, 1370), (124, 308, 0, 1371), (129, 50, 0, 1372), (132, 54, 0, 1373), (137, 170, 1, 1360)],
  [(31, 175, 1, 152), (41, 9, 0, 186), (57, 29, 0, 669), (69, 10, 0, 696), (77, 28, 0, 706), (80, 65, 0, 711), (87, 31, 0, 731), (96, 4, 0, 715), (102, 5, 0, 720), (106, 170, 1, 724), (110, 171, 1, 725), (114, 66, 0, 958), (121, 70, 0, 908), (125, 72, 0, 940), (129, 3, 0, 944), (133, 30, 0, 1157)],
  [(21, 0, 1, 495), (76, 79, 0, 1188), (80, 73, 0, 1192), (84, 170, 1, 1193), (100, 78, 0, 1202), (103, 28, 0, 1203), (109, 80, 0, 1204), (113, 5, 0, 1209), (116, 82, 0, 1210), (123, 29, 0, 1222), (126, 84, 0, 1223), (130, 65, 0, 1227), (137, 74, 0, 1244)],
  [(35, 12, 0, 301), (80, 66, 0, 794), (84, 89, 0, 786), (87, 88, 0, 790), (91, 90, 0, 782), (94, 91, 0, 1096), (97, 94, 0, 1027), (115, 96, 0, 1073), (119, 101, 0, 1077), (125, 98, 0, 798), (132, 99, 0, 806), (148, 13, 0, 810), (151, 97, 0, 778), (157, 102, 0, 1056), (161, 105, 0, 814), (168, 106, 0, 818), (172, 107, 0, 822), (179, 16, 0, 835), (193, 17, 0, 840), (197, 2, 0, 830), (201, 20, 0, 845), (204, 37, 0, 854), (216, 109, 0, 873), (219, 108, 0, 826), (228, 31, 0, 877), (241, 110, 0, 1047), (244, 30, 0, 1039), (251, 113, 0, 1253), (255, 114, 0, 1261), (262, 170, 1, 1263), (269, 172, 1, 1268), (273, 115, 0, 1276)],
  [(9, 24, 0, 127), (18, 58, 0, 146), (27, 86, 0, 293), (36, 38, 0, 449), (45, 77, 0, 490), (52, 46, 0, 544), (61, 21, 0, 585), (68, 0, 1, 157), (77, 169, 0, 654), (81, 164, 0, 661), (88, 61, 0, 665), (92, 163, 0, 677), (95, 168, 0, 685), (99, 59, 0, 688), (110, 62, 0, 692), (114, 60, 0, 742), (117, 63, 0, 746), (121, 167, 0, 657), (130, 87, 0, 754), (137, 64, 0, 762), (140, 47, 0, 770), (144, 104, 0, 774), (147, 49, 0, 882), (151, 308, 0, 893), (156, 97, 0, 903), (159, 69, 0, 904), (166, 102, 0, 912), (169, 68, 0, 920), (179, 11, 0, 924), (184, 71, 0, 936), (187, 66, 0, 949), (190, 67, 0, 954), (193, 100, 0, 963), (196, 105, 0, 967), (200, 14, 0, 968), (205, 101, 0, 995), (208, 165, 0, 999), (211, 166, 0, 1011), (214, 110, 0, 1015), (217, 93, 0, 1023), (220, 112, 0, 1035), (223, 111, 0, 1043), (226, 103, 0, 1052), (229, 91, 0, 1061), (232, 95, 0, 1069), (248, 32, 0, 1082), (252, 31, 0, 1087), (256, 92, 0, 1092), (259, 39, 0, 1105), (265, 44, 0, 1131), (268, 45, 0, 1135), (273, 37, 0, 1147), (277, 28, 0, 1152), (281, 74, 0, 1153), (285, 73, 0, 1162), (289, 27, 0, 1166), (294, 75, 0, 1176), (298, 78, 0, 1184), (305, 81, 0, 1198), (314, 83, 0, 1217), (320, 76, 0, 1232), (323, 85, 0, 1240), (329, 114, 0, 1249), (332, 115, 0, 1257), (335, 116, 0, 1264), (338, 29, 0, 1282), (344, 172, 0, 1283), (348, 170, 0, 1274), (353, 7, 0, 1288), (357, 4, 0, 1271), (373, 51, 0, 1302), (377, 3, 0, 1312), (380, 33, 0, 1313), (383, 36, 0, 1314), (386, 52, 0, 1322), (395, 50, 0, 1329), (398, 54, 0, 1333), (401, 55, 0, 1347), (407, 57, 0, 1355), (411, 56, 0, 1366), (414, 23, 0, 1382), (425, 5, 0, 1273), (428, 171, 0, 1275)],
  [(111, 182, 0, 1580), (120, 185, 0, 1603), (124, 183, 0, 1577), (136, 188, 0, 1642), (142, 190, 0, 1652), (146, 189, 0, 1649), (150, 192, 0, 1638), (154, 193, 0, 1645), (158, 191, 0, 1811), (164, 184, 0, 1711), (174, 196, 0, 1706), (178, 181, 0, 1565), (183, 178, 0, 1569), (189, 187, 0, 1573), (193, 179, 0, 1584), (199, 199, 0, 1592), (203, 200, 0, 1595), (207, 186, 0, 1599), (210, 201, 0, 1610), (216, 210, 0, 1626), (219, 293, 0, 1666), (223, 291, 0, 1776), (229, 195, 0, 1634), (233, 207, 0, 1657), (238, 208, 0, 1630), (241, 209, 0, 1662), (247, 212, 0, 1690), (263, 214, 0, 1698), (266, 197, 0, 1702), (269, 215, 0, 1717), (273, 218, 0, 1725), (276, 213, 0, 1686), (279, 216, 0, 1694), (283, 219, 0, 1682), (287, 217, 0, 1721), (291, 220, 0, 1678), (294, 223, 0, 1737), (297, 224, 0, 1745), (300, 225, 0, 1741), (303, 227, 0, 1830), (309, 230, 0, 1847), (312, 229, 0, 1851), (315, 231, 0, 1843), (321, 232, 0, 1859), (324, 235, 0, 1822), (327, 237, 0, 1783), (330, 211, 0, 1787), (333, 239, 0, 1795), (336, 194, 0, 1807), (339, 221, 0, 1674), (342, 222, 0, 1729), (345, 180, 0, 1826), (348, 226, 0, 1733), (351, 228, 0, 1834), (354, 233, 0, 1839), (357, 234, 0, 1855), (360, 245, 0, 1867), (363, 236, 0, 1879), (366, 248, 0, 1883), (369, 254, 0, 1907), (372, 256, 0, 1915), (375, 258, 0, 1923), (381, 261, 0, 1942), (384, 263, 0, 1935), (387, 262, 0, 1938), (390, 268, 0, 1958), (394, 267, 0, 1966), (397, 272, 0, 1978), (400, 274, 0, 1986), (414, 279, 0, 2012), (421, 280, 0, 2007), (424, 283, 0, 1758), (428, 285, 0, 2024), (431, 284, 0, 1754), (437, 287, 0, 1749), (440, 288, 0, 1762), (445, 292, 0, 1670), (448, 294, 0, 1766), (451, 290, 0, 1770), (454, 296, 0, 2044), (458, 295, 0, 2036), (461, 297, 0, 2040), (464, 298, 0, 2048), (467, 301, 0, 2060), (470, 304, 0, 2076), (474, 305, 0, 2072)],
  [(9, 117, 0, 119), (12, 176, 0, 1405), (13, 118, 0, 646), (17, 177, 0, 1557), (18, 119, 0, 650), (22, 198, 0, 1561), (23, 120, 0, 681), (27, 202, 0, 1588), (28, 121, 0, 738), (32, 203, 0, 1606), (33, 122, 0, 750), (37, 204, 0, 1614), (38, 123, 0, 758), (41, 205, 0, 1618), (42, 124, 0, 766), (45, 206, 0, 1622), (46, 125, 0, 899), (49, 238, 0, 1779), (50, 126, 0, 916), (53, 240, 0, 1791), (54, 127, 0, 932), (57, 241, 0, 1799), (58, 128, 0, 945), (61, 242, 0, 1803), (62, 129, 0, 950), (65, 243, 0, 1814), (66, 130, 0, 959), (70, 244, 0, 1818), (71, 131, 0, 991), (74, 246, 0, 1863), (75, 132, 0, 1003), (78, 247, 0, 1871), (79, 133, 0, 1007), (82, 249, 0, 1875), (83, 134, 0, 1019), (86, 250, 0, 1887), (87, 135, 0, 1031), (90, 251, 0, 1891), (91, 136, 0, 1048), (94, 252, 0, 1895), (95, 137, 0, 1057), (98, 253, 0, 1899), (99, 138, 0, 1065), (102, 255, 0, 1903), (103, 139, 0, 1078), (106, 257, 0, 1911), (107, 140, 0, 1088), (110, 259, 0, 1919), (111, 141, 0, 1097), (114, 260, 0, 1927), (115, 142, 0, 1101), (118, 264, 0, 1931), (119, 143, 0, 1139), (122, 265, 0, 1946), (123, 144, 0, 1143), (126, 266, 0, 1950), (127, 145, 0, 1148), (130, 269, 0, 1954), (131, 146, 0, 1158), (134, 270, 0, 1962), (135, 147, 0, 1172), (138, 271, 0, 1970), (139, 148, 0, 1180), (142, 273, 0, 1974), (143, 149, 0, 1194), (147, 275, 0, 1982), (148, 150, 0, 1213), (151, 276, 0, 1990), (152, 151, 0, 1228), (155, 277, 0, 1995), (156, 152, 0, 1236), (159, 278, 0, 1999), (160, 153, 0, 1245), (163, 281, 0, 2003), (164, 154, 0, 1278), (168, 282, 0, 2016), (169, 155, 0, 1284), (173, 286, 0, 2020), (174, 156, 0, 1296), (177, 289, 0, 2028), (178, 157, 0, 1318), (181, 299, 0, 2032), (182, 158, 0, 1351), (185, 300, 0, 2052), (186, 159, 0, 1361), (189, 302, 0, 2056), (190, 160, 0, 1374), (193, 303, 0, 2064), (194, 161, 0, 1378), (197, 306, 0, 2068), (198, 162, 0, 1399), (201, 307, 0, 2080)],
  [],
  []]
def calE (own idx : Nat) : Option (Nat × Nat × Nat × Nat) := (calL.getD own []).find? (fun q => q.1 == idx)
def cal (own idx : Nat) : Option Nat := (calE own idx).map (fun q => q.2.1)
def objL : List (List (Nat × Nat)) := [[(3, 160)], [(1, 189)], [(1, 304)], [(3, 310)], [(3, 588)], [(3, 130)], [(3, 452)], [(3, 547)], [(3, 149)], [(3, 493)], [(3, 296)], [(1, 122)], [(1, 1408)], [], [], []]
def objE (own idx : Nat) : Option (Nat × Nat) := (objL.getD own []).find? (fun q => q.1 == idx)
def prmL : List (List (Nat × Nat × Nat)) := [[], [], [], [(61, 3, 987)], [], [(26, 5, 1170)], [], [(49, 5, 889), (55, 1, 892)], [], [], [(101, 0, 878), (106, 1, 803)], [(361, 4, 1293), (367, 1, 1300), (370, 0, 1301)], [(168, 3, 1716), (236, 1, 1661), (318, 0, 1753), (434, 4, 2027), (443, 2, 1773)], [], [], []]
def prmE (own idx : Nat) : Option (Nat × Nat × Nat) := (prmL.getD own []).find? (fun q => q.1 == idx)
def prm (own idx : Nat) : Option Nat := (prmE own idx).map (fun q => q.2.1)
def prNm : List MethodName := [⟨"java/lang/Math", "max", "(II)I"⟩, ⟨"java/lang/Math", "min", "(II)I"⟩, ⟨"java/lang/Math", "abs", "(I)I"⟩, ⟨"java/lang/Math", "min", "(JJ)J"⟩, ⟨"java/lang/Math", "abs", "(J)J"⟩, ⟨"java/lang/Math", "floorMod", "(II)I"⟩]
def kiL : List (List (Nat × Int32 × Nat)) := [[], [], [], [(52, 1000000, 984)], [], [(21, 40500, 135)], [], [], [], [(122, 2147483647, 1221)], [(138, 2147483647, 802), (258, 100000, 1262)], [(352, 100000, 660), (410, 2147483647, 1365)], [(115, 40500, 1583), (182, 100000, 1568), (232, 1000000, 1656), (407, 100001, 2011)], [], [], [(265, 1431655765, 896), (266, 858993459, 897), (267, 252645135, 898)]]
def klL : List (List (Nat × Int64 × Nat)) := [[(25, 1000, 1292)], [], [], [(47, 1000, 978), (53, 1000000, 985), (55, 100, 986)], [(55, 1000, 1393)], [(19, 4000, 134), (45, 1000000, 736), (57, (-9223372036854775808), 862), (66, 1000, 867)], [], [(115, 1000, 1346), (135, 100, 1359)], [(100, 1000000, 719)], [(98, 2, 1208)], [(235, 2, 881), (276, 1000, 1277)], [(292, 1000, 1171), (417, 4294967296, 728), (419, 32768, 729), (421, 1073741824, 730), (423, 1000000, 1272)], [(116, 3037000499, 1714), (118, 2, 1715), (140, 1000000, 1655), (162, 1000, 1710), (307, 100, 1838), (405, 9223372036854775807, 1994)], [], [], []]
def kiE (own idx : Nat) : Option (Nat × Int32 × Nat) := (kiL.getD own []).find? (fun q => q.1 == idx)
def klE (own idx : Nat) : Option (Nat × Int64 × Nat) := (klL.getD own []).find? (fun q => q.1 == idx)
def kI (own idx : Nat) : Option Int32 := (kiE own idx).map (fun q => q.2.1)
def kL (own idx : Nat) : Option Int64 := (klE own idx).map (fun q => q.2.1)
def clkL : List (List (Nat × Nat × Nat)) := [[], [(13, 0, 190)], [(7, 3, 305), (16, 0, 322)], [(9, 0, 311)], [(23, 0, 589), (39, 3, 591)], [], [(27, 0, 453), (37, 3, 455)], [(19, 0, 548)], [(25, 0, 150), (35, 1, 183)], [(19, 0, 494)], [(23, 2, 297), (29, 0, 299)], [(7, 5, 125), (16, 8, 144), (25, 10, 291), (34, 6, 447), (43, 9, 488), (50, 7, 542), (59, 4, 583), (66, 0, 155)], [], [(7, 11, 117), (10, 12, 1403)], [], []]
def clkE (own idx : Nat) : Option (Nat × Nat × Nat) := (clkL.getD own []).find? (fun q => q.1 == idx)
def clk (own idx : Nat) : Option Nat := (clkE own idx).map (fun q => q.2.1)
def cWsL : List (Nat × Nat) := [(156, 105), (185, 106), (300, 108), (306, 109), (584, 113), (126, 103), (448, 110), (543, 112), (145, 104), (489, 111), (292, 107), (118, 102), (1404, 114)]
def cWs (c : Nat) : Nat × Nat := cWsL.getD c (0, 0)
/-- arrays of references: kind, class of the elements, place of its word -/
def arkL : List (Nat × Nat × Nat) := [(4, 0, 151), (5, 1, 184), (6, 2, 298)]
def NT : Nat := 378
def shL : List (Nat × Nat) := [(2, 0), (1, 11), (1, 5), (2, 630), (1, 8), (2, 6), (2, 6), (2, 6), (4, 6), (5, 60), (2, 3600), (1, 10), (2, 60), (6, 30), (4, 30), (2, 60), (2, 60), (2, 60), (2, 60), (2, 60), (2, 46), (2, 91), (1, 6), (2, 60), (4, 30), (1, 3), (1, 0), (1, 9), (1, 0), (3, 6), (2, 2), (2, 2), (2, 3), (2, 3), (1, 7), (1, 0), (2, 900), (2, 900), (1, 4), (1, 0), (1, 0), (1, 0), (1, 0), (1, 3), (1, 0), (1, 0), (1, 12), (2, 6), (2, 6), (2, 6), (2, 60), (2, 60), (2, 60), (2, 60), (2, 60), (2, 60), (2, 60), (2, 6), (2, 6), (2, 6), (2, 60), (2, 60), (2, 60), (2, 60), (2, 30), (2, 30), (2, 30), (2, 60), (3, 6), (2, 30), (2, 30), (2, 900), (2, 900), (0, 0), (0, 0), (0, 0), (0, 0), (0, 0), (0, 0), (0, 0), (0, 0), (0, 0), (0, 0), (0, 0), (0, 0), (0, 0), (0, 0), (0, 0), (0, 0), (0, 0), (0, 0), (0, 0), (0, 0), (0, 0), (0, 0), (0, 0), (0, 0), (0, 0), (0, 0), (0, 0)]
def psL : List Nat := [0, 0, 1, 2, 3, 4, 5, 6, 7, 14, 135, 136, 137, 138, 139, 290, 291, 292, 293, 294, 295, 296, 297, 298, 299, 330, 331, 332, 333, 334, 335, 336, 337, 338, 339, 340, 341, 342, 343, 344, 345, 346, 347, 348, 349, 350, 351, 352, 353, 354, 355, 356, 357, 358, 359, 360, 361, 362, 363, 364, 365, 366, 367, 368, 369, 370, 371, 372, 373, 374, 375, 376, 377, 0, 0, 0, 0, 0, 0, 0, 0, 0, 0, 0, 0, 0, 0, 0, 0, 0, 0, 0, 0, 0, 0, 0, 0, 0, 0, 0]
def SH (a : Nat) : Nat × Nat := if a < 100 then shL.getD a (0, 0) else if 100 ≤ a ∧ a < 106 then (1, 0) else if 200 ≤ a ∧ a < 260 then (1, 1) else if 300 ≤ a ∧ a < 360 then (1, 0) else if 400 ≤ a ∧ a < 430 then (1, 2) else if 500 ≤ a ∧ a < 530 then (1, 3) else if 600 ≤ a ∧ a < 630 then (1, 0) else if 700 ≤ a ∧ a < 730 then (1, 0) else if 800 ≤ a ∧ a < 830 then (1, 0) else if 900 ≤ a ∧ a < 930 then (1, 0) else (0, 0)
def pos (a : Nat) : Nat := if a < 100 then psL.getD a 0 else if a < 200 then 8 + 1 * (a - 100) else if a < 300 then 15 + 2 * (a - 200) else if a < 400 then 16 + 2 * (a - 300) else if a < 500 then 140 + 5 * (a - 400) else if a < 600 then 141 + 5 * (a - 500) else if a < 700 then 142 + 5 * (a - 600) else if a < 800 then 143 + 5 * (a - 700) else if a < 900 then 144 + 5 * (a - 800) else if a < 1000 then 300 + 1 * (a - 900) else 0
def adL : List Nat := [1, 2, 3, 4, 5, 6, 7, 8, 100, 101, 102, 103, 104, 105, 9, 200, 300, 201, 301, 202, 302, 203, 303, 204, 304, 205, 305, 206, 306, 207, 307, 208, 308, 209, 309, 210, 310, 211, 311, 212, 312, 213, 313, 214, 314, 215, 315, 216, 316, 217, 317, 218, 318, 219, 319, 220, 320, 221, 321, 222, 322, 223, 323, 224, 324, 225, 325, 226, 326, 227, 327, 228, 328, 229, 329, 230, 330, 231, 331, 232, 332, 233, 333, 234, 334, 235, 335, 236, 336, 237, 337, 238, 338, 239, 339, 240, 340, 241, 341, 242, 342, 243, 343, 244, 344, 245, 345, 246, 346, 247, 347, 248, 348, 249, 349, 250, 350, 251, 351, 252, 352, 253, 353, 254, 354, 255, 355, 256, 356, 257, 357, 258, 358, 259, 359, 10, 11, 12, 13, 14, 400, 500, 600, 700, 800, 401, 501, 601, 701, 801, 402, 502, 602, 702, 802, 403, 503, 603, 703, 803, 404, 504, 604, 704, 804, 405, 505, 605, 705, 805, 406, 506, 606, 706, 806, 407, 507, 607, 707, 807, 408, 508, 608, 708, 808, 409, 509, 609, 709, 809, 410, 510, 610, 710, 810, 411, 511, 611, 711, 811, 412, 512, 612, 712, 812, 413, 513, 613, 713, 813, 414, 514, 614, 714, 814, 415, 515, 615, 715, 815, 416, 516, 616, 716, 816, 417, 517, 617, 717, 817, 418, 518, 618, 718, 818, 419, 519, 619, 719, 819, 420, 520, 620, 720, 820, 421, 521, 621, 721, 821, 422, 522, 622, 722, 822, 423, 523, 623, 723, 823, 424, 524, 624, 724, 824, 425, 525, 625, 725, 825, 426, 526, 626, 726, 826, 427, 527, 627, 727, 827, 428, 528, 628, 728, 828, 429, 529, 629, 729, 829, 15, 16, 17, 18, 19, 20, 21, 22, 23, 24, 900, 901, 902, 903, 904, 905, 906, 907, 908, 909, 910, 911, 912, 913, 914, 915, 916, 917, 918, 919, 920, 921, 922, 923, 924, 925, 926, 927, 928, 929, 25, 26, 27, 28, 29, 30, 31, 32, 33, 34, 35, 36, 37, 38, 39, 40, 41, 42, 43, 44, 45, 46, 47, 48, 49, 50, 51, 52, 53, 54, 55, 56, 57, 58, 59, 60, 61, 62, 63, 64, 65, 66, 67, 68, 69, 70, 71, 72]
def ADR (i : Nat) : Nat := adL.getD i 0
def szSh (q : Nat × Nat) : Nat := if q.1 = 1 then nf q.2 else q.2
/-- how many slots the first n cells have together -/
def slN : Nat → Nat | 0 => 0 | n + 1 => slN n + szSh (SH (ADR n))
theorem inT1 {w : Jvm.Cond} (h : w ∈ tables_1_1) : w ∈ lw_tbl := List.mem_append_right _ (List.mem_append_left _ h)
theorem inT2 {w : Jvm.Cond} (h : w ∈ tables_1_2) : w ∈ lw_tbl := List.mem_append_right _ (List.mem_append_right _ (List.mem_append_left _ h))
theorem inT3 {w : Jvm.Cond} (h : w ∈ tables_1_3) : w ∈ lw_tbl := List.mem_append_right _ (List.mem_append_right _ (List.mem_append_right _ (List.mem_append_left _ h)))
theorem inT4 {w : Jvm.Cond} (h : w ∈ tables_1_4) : w ∈ lw_tbl := List.mem_append_right _ (List.mem_append_right _ (List.mem_append_right _ (List.mem_append_right _ (List.mem_append_left _ h))))
theorem inT5 {w : Jvm.Cond} (h : w ∈ tables_1_5) : w ∈ lw_tbl := List.mem_append_right _ (List.mem_append_right _ (List.mem_append_right _ (List.mem_append_right _ (List.mem_append_right _ (List.mem_append_left _ h)))))
theorem inT6 {w : Jvm.Cond} (h : w ∈ tables_1_6) : w ∈ lw_tbl := List.mem_append_right _ (List.mem_append_right _ (List.mem_append_right _ (List.mem_append_right _ (List.mem_append_right _ (List.mem_append_right _ (List.mem_append_left _ h))))))
theorem inT7 {w : Jvm.Cond} (h : w ∈ tables_1_7) : w ∈ lw_tbl := List.mem_append_right _ (List.mem_append_right _ (List.mem_append_right _ (List.mem_append_right _ (List.mem_append_right _ (List.mem_append_right _ (List.mem_append_right _ (List.mem_append_left _ h)))))))
theorem inT8 {w : Jvm.Cond} (h : w ∈ tables_1_8) : w ∈ lw_tbl := List.mem_append_right _ (List.mem_append_right _ (List.mem_append_right _ (List.mem_append_right _ (List.mem_append_right _ (List.mem_append_right _ (List.mem_append_right _ (List.mem_append_right _ (List.mem_append_left _ h))))))))
theorem inT9 {w : Jvm.Cond} (h : w ∈ tables_1_9) : w ∈ lw_tbl := List.mem_append_right _ (List.mem_append_right _ (List.mem_append_right _ (List.mem_append_right _ (List.mem_append_right _ (List.mem_append_right _ (List.mem_append_right _ (List.mem_append_right _ (List.mem_append_right _ (h)))))))))
def atW (p : Nat) (w : Jvm.Cond) : Bool := decide (lw_tbl[p]? = some w)
theorem atW_mem {p : Nat} {w : Jvm.Cond} (h : atW p w = true) : w ∈ lw_tbl := List.mem_of_getElem? (of_decide_eq_true h)
def chkF : Bool := (List.range 16).all fun own => (fldL.getD own []).all fun q => decide (q.2.1 < 13) && decide (q.2.2.1 < nf q.2.1) && atW q.2.2.2 (.fieldLink (cName own) q.1 (cName q.2.1) (fQ q.2.1 q.2.2.1).1 (fQ q.2.1 q.2.2.1).2.1)
theorem chkF_ok : chkF = true := by decide +kernel
def chkM1 (y : Nat) : Bool := decide ((mName y).cls = cName (mOw y)) && (if mKd y = 1 then atW (mWs y).2.1 (.static (mName y)) else atW (mWs y).2.1 (.instanceMethod (mName y))) && (if mKd y = 0 then atW (mWs y).2.2.1 (.selects (mName y).cls (mName y) (mName y)) else true) && atW (mWs y).2.2.2 (.initialized (mName y).cls)
def chkM2 (y : Nat) : Bool := decide ((mName y).cls ≠ "java/lang/invoke/MethodHandle" ∧ (mName y).cls ≠ "java/lang/invoke/VarHandle" ∧ (parseMethodDescriptor (mName y).desc).map (fun d => d.parameters.length) = some (mNp y)) && decide (Jvm.plainName (mName y).cls = true) && decide (mKd y = 2 → (mName y).name = "<init>" ∧ mRt y = none) && decide (mMx y ≤ 40) && decide (mKd y < 3) && decide (mOw y < 16)
theorem chkM1_0 : ((List.range 40).all fun i => chkM1 (0 + i)) = true := by decide +kernel
theorem chkM1_40 : ((List.range 40).all fun i => chkM1 (40 + i)) = true := by decide +kernel
theorem chkM1_80 : ((List.range 40).all fun i => chkM1 (80 + i)) = true := by decide +kernel
theorem chkM1_120 : ((List.range 40).all fun i => chkM1 (120 + i)) = true := by decide +kernel
theorem chkM1_160 : ((List.range 40).all fun i => chkM1 (160 + i)) = true := by decide +kernel
theorem chkM1_200 : ((List.range 40).all fun i => chkM1 (200 + i)) = true := by decide +kernel
theorem chkM1_240 : ((List.range 40).all fun i => chkM1 (240 + i)) = true := by decide +kernel
theorem chkM1_280 : ((List.range 29).all fun i => chkM1 (280 + i)) = true := by decide +kernel
theorem chkM1_ok (y : Nat) (h : y < 309) : chkM1 y = true := by
  rcases Nat.lt_or_ge y 40 with q0 | q0
  · have := List.all_eq_true.mp chkM1_0 (y - 0) (List.mem_range.mpr (by omega)); rwa [show 0 + (y - 0) = y by omega] at this
  rcases Nat.lt_or_ge y 80 with q40 | q40
  · have := List.all_eq_true.mp chkM1_40 (y - 40) (List.mem_range.mpr (by omega)); rwa [show 40 + (y - 40) = y by omega] at this
  rcases Nat.lt_or_ge y 120 with q80 | q80
  · have := List.all_eq_true.mp chkM1_80 (y - 80) (List.mem_range.mpr (by omega)); rwa [show 80 + (y - 80) = y by omega] at this
  rcases Nat.lt_or_ge y 160 with q120 | q120
  · have := List.all_eq_true.mp chkM1_120 (y - 120) (List.mem_range.mpr (by omega)); rwa [show 120 + (y - 120) = y by omega] at this
  rcases Nat.lt_or_ge y 200 with q160 | q160
  · have := List.all_eq_true.mp chkM1_160 (y - 160) (List.mem_range.mpr (by omega)); rwa [show 160 + (y - 160) = y by omega] at this
  rcases Nat.lt_or_ge y 240 with q200 | q200
  · have := List.all_eq_true.mp chkM1_200 (y - 200) (List.mem_range.mpr (by omega)); rwa [show 200 + (y - 200) = y by omega] at this
  rcases Nat.lt_or_ge y 280 with q240 | q240
  · have := List.all_eq_true.mp chkM1_240 (y - 240) (List.mem_range.mpr (by omega)); rwa [show 240 + (y - 240) = y by omega] at this
  have := List.all_eq_true.mp chkM1_280 (y - 280) (List.mem_range.mpr (by omega)); rwa [show 280 + (y - 280) = y by omega] at this
theorem chkM2_0 : ((List.range 40).all fun i => chkM2 (0 + i)) = true := by decide +kernel
theorem chkM2_40 : ((List.range 40).all fun i => chkM2 (40 + i)) = true := by decide +kernel
theorem chkM2_80 : ((List.range 40).all fun i => chkM2 (80 + i)) = true := by decide +kernel
theorem chkM2_120 : ((List.range 40).all fun i => chkM2 (120 + i)) = true := by decide +kernel
theorem chkM2_160 : ((List.range 40).all fun i => chkM2 (160 + i)) = true := by decide +kernel
theorem chkM2_200 : ((List.range 40).all fun i => chkM2 (200 + i)) = true := by decide +kernel
theorem chkM2_240 : ((List.range 40).all fun i => chkM2 (240 + i)) = true := by decide +kernel
theorem chkM2_280 : ((List.range 29).all fun i => chkM2 (280 + i)) = true := by decide +kernel
theorem chkM2_ok (y : Nat) (h : y < 309) : chkM2 y = true := by
  rcases Nat.lt_or_ge y 40 with q0 | q0
  · have := List.all_eq_true.mp chkM2_0 (y - 0) (List.mem_range.mpr (by omega)); rwa [show 0 + (y - 0) = y by omega] at this
  rcases Nat.lt_or_ge y 80 with q40 | q40
  · have := List.all_eq_true.mp chkM2_40 (y - 40) (List.mem_range.mpr (by omega)); rwa [show 40 + (y - 40) = y by omega] at this
  rcases Nat.lt_or_ge y 120 with q80 | q80
  · have := List.all_eq_true.mp chkM2_80 (y - 80) (List.mem_range.mpr (by omega)); rwa [show 80 + (y - 80) = y by omega] at this
  rcases Nat.lt_or_ge y 160 with q120 | q120
  · have := List.all_eq_true.mp chkM2_120 (y - 120) (List.mem_range.mpr (by omega)); rwa [show 120 + (y - 120) = y by omega] at this
  rcases Nat.lt_or_ge y 200 with q160 | q160
  · have := List.all_eq_true.mp chkM2_160 (y - 160) (List.mem_range.mpr (by omega)); rwa [show 160 + (y - 160) = y by omega] at this
  rcases Nat.lt_or_ge y 240 with q200 | q200
  · have := List.all_eq_true.mp chkM2_200 (y - 200) (List.mem_range.mpr (by omega)); rwa [show 200 + (y - 200) = y by omega] at this
  rcases Nat.lt_or_ge y 280 with q240 | q240
  · have := List.all_eq_true.mp chkM2_240 (y - 240) (List.mem_range.mpr (by omega)); rwa [show 240 + (y - 240) = y by omega] at this
  have := List.all_eq_true.mp chkM2_280 (y - 280) (List.mem_range.mpr (by omega)); rwa [show 280 + (y - 280) = y by omega] at this
def chkC : Bool := (List.range 16).all fun own => (calL.getD own []).all fun q => decide (q.2.1 < 309) && (if q.2.2.1 = 0 then atW q.2.2.2 (.methodLink (cName own) q.1 (mName q.2.1)) else atW q.2.2.2 (.methodLinkNest (cName own) q.1 (mName q.2.1) "PoleSets"))
theorem chkC_ok : chkC = true := by decide +kernel
def chkO : Bool := (List.range 16).all fun own => (objL.getD own []).all fun q => atW q.2 (.methodLink (cName own) q.1 objectInit)
theorem chkO_ok : chkO = true := by decide +kernel
theorem objI_ok : Jvm.Cond.instanceMethod objectInit ∈ lw_tbl ∧ Jvm.Cond.code objectInit ⟨#[0xb1]⟩ 1 none ∈ lw_tbl := ⟨List.mem_of_getElem? (i := 123) (by decide +kernel), List.mem_of_getElem? (i := 124) (by decide +kernel)⟩
def chkP : Bool := (List.range 16).all fun own => (prmL.getD own []).all (fun q => decide (q.2.1 < 6) && atW q.2.2 (.methodLink (cName own) q.1 (prNm.getD q.2.1 x)))
theorem chkP_ok : chkP = true := by decide +kernel
theorem prc0 : Jvm.Cond.code (prNm.getD 0 x) Lib.Math.max.code 2 ((some .int)) ∈ lw_tbl := inT4 (List.mem_of_getElem? (i := 59) (by decide +kernel))
theorem prs0 : Jvm.Cond.static (prNm.getD 0 x) ∈ lw_tbl := List.mem_of_getElem? (i := 879) (by decide +kernel)
theorem prc1 : Jvm.Cond.code (prNm.getD 1 x) Lib.Math.min.code 2 ((some .int)) ∈ lw_tbl := inT3 (List.mem_of_getElem? (i := 224) (by decide +kernel))
theorem prs1 : Jvm.Cond.static (prNm.getD 1 x) ∈ lw_tbl := List.mem_of_getElem? (i := 804) (by decide +kernel)
theorem prc2 : Jvm.Cond.code (prNm.getD 2 x) Lib.Math.abs.code 1 ((some .int)) ∈ lw_tbl := inT7 (List.mem_of_getElem? (i := 234) (by decide +kernel))
theorem prs2 : Jvm.Cond.static (prNm.getD 2 x) ∈ lw_tbl := List.mem_of_getElem? (i := 1774) (by decide +kernel)
theorem prc3 : Jvm.Cond.code (prNm.getD 3 x) Lib.MathLoose.min_long.code 4 ((some .long)) ∈ lw_tbl := inT4 (List.mem_of_getElem? (i := 168) (by decide +kernel))
theorem prs3 : Jvm.Cond.static (prNm.getD 3 x) ∈ lw_tbl := List.mem_of_getElem? (i := 988) (by decide +kernel)
theorem prc4 : Jvm.Cond.code (prNm.getD 4 x) Lib.MathLoose.abs_long.code 2 ((some .long)) ∈ lw_tbl := inT5 (List.mem_of_getElem? (i := 234) (by decide +kernel))
theorem prs4 : Jvm.Cond.static (prNm.getD 4 x) ∈ lw_tbl := List.mem_of_getElem? (i := 1294) (by decide +kernel)
theorem prc5 : Jvm.Cond.code (prNm.getD 5 x) prog_16_method_50_code 3 ((some .int)) ∈ lw_tbl := inT4 (List.mem_of_getElem? (i := 70) (by decide +kernel))
theorem prs5 : Jvm.Cond.static (prNm.getD 5 x) ∈ lw_tbl := List.mem_of_getElem? (i := 890) (by decide +kernel)
theorem pri_ok : Jvm.Cond.initialized "java/lang/Math" ∈ lw_tbl := List.mem_of_getElem? (i := 115) (by decide +kernel)
def chkK : Bool := (List.range 16).all fun own => (kiL.getD own []).all (fun q => atW q.2.2 (.constant (cName own) q.1 q.2.1)) && (klL.getD own []).all (fun q => atW q.2.2 (.constantLong (cName own) q.1 q.2.1))
theorem chkK_ok : chkK = true := by decide +kernel
def chkL : Bool := (List.range 16).all fun own => (clkL.getD own []).all (fun q => decide (q.2.1 < 13) && atW q.2.2 (.classLink (cName own) q.1 (cName q.2.1)))
theorem chkL_ok : chkL = true := by decide +kernel
def chkW : Bool := (List.range 13).all fun c => atW (cWs c).1 (.instantiable (cName c) (nf c)) && atW (cWs c).2 (.initialized (cName c))
theorem chkW_ok : chkW = true := by decide +kernel
def chkA : Bool := arkL.all (fun q => atW q.2.2 (.arrayOver (.object (cName q.2.1)))) && atW 143 (.arrayClass .int) && atW 541 (.arrayClass .long)
theorem chkA_ok : chkA = true := by decide +kernel

def lypL : List (List Nat) := [[176, 178, 180], [221, 223, 225, 227, 229, 231, 233, 235, 237], [350, 352, 354, 356, 358, 360, 362, 364, 366, 368, 370], [317, 319], [601, 603, 605, 607, 609, 611, 613, 615], [140], [469, 471, 473, 475, 477, 479, 481, 483, 485], [562, 564, 566, 568, 570, 572, 574, 576, 578, 580], [268, 270, 272, 274, 276, 278, 280, 282, 284, 286, 288], [514, 516, 518, 520, 522, 524, 526, 528, 530, 532, 534, 536, 538], [408, 410, 412, 414, 416, 418, 420, 422, 424, 426, 428, 430, 432, 434, 436, 438, 440, 442, 444], [627, 629, 631, 633, 635, 637, 639, 641, 643], [1458, 1460, 1462, 1464, 1466, 1468, 1470, 1472, 1474, 1476, 1478, 1480, 1482, 1484, 1486, 1488, 1490, 1492, 1494, 1496, 1498, 1500, 1502, 1504, 1506, 1508, 1510, 1512, 1514, 1516, 1518, 1520, 1522, 1524, 1526, 1528, 1530, 1532, 1534, 1536, 1538, 1540, 1542, 1544, 1546, 1548, 1550, 1552, 1554]]
def chkY : Bool := (List.range 13).all fun c => (List.range (nf c)).all fun k => atW ((lypL.getD c []).getD k 0) (u_lay (cName c) (fT c) k) && decide (parseFieldDescriptor (fQ c k).2.1 = some (fTy c k)) && decide (ftc c k = (match fTy c k with | .int => 0 | .long => 1 | .boolean => 3 | .object _ => 2 | .array _ => 2 | _ => 9))
theorem chkY_ok : chkY = true := by decide +kernel
theorem chkN_ok : ((List.range 13).all fun c => (List.range (nf c)).all fun a => (List.range (nf c)).all fun b => decide (a = b ∨ (fQ c a).1 ≠ (fQ c b).1)) = true := by decide +kernel
theorem lay1_ok : ((List.range NT).all fun i => decide (pos (ADR i) = i ∧ ADR i ≠ 0 ∧ (SH (ADR i)).1 ≠ 0 ∧ ADR i < 1000)) = true := by decide +kernel
theorem lay2_ok : ((List.range 1000).all fun a => decide (a = 0 ∨ (SH a).1 = 0 ∨ (pos a < NT ∧ ADR (pos a) = a))) = true := by decide +kernel
def lw_gd : List Jvm.Cond := lw_tbl.filter goodWord
theorem gd_mem {w : Jvm.Cond} (h : w ∈ lw_tbl) (g : goodWord w = true) : w ∈ lw_gd := List.mem_filter.mpr ⟨h, g⟩
def ALLn (P : Nat → Prop) : Nat → Nat → Prop | 0, _ => True | n + 1, s => P s ∧ ALLn P n (s + 1)
theorem ALLn_at {P : Nat → Prop} : ∀ (n s : Nat), ALLn P n s → ∀ y, s ≤ y → y < s + n → P y
  | 0, s, _, y, h1, h2 => absurd h2 (by omega)
  | n + 1, s, h, y, h1, h2 => by
    rcases Nat.eq_or_lt_of_le h1 with e | e
    · exact e ▸ h.1
    · exact ALLn_at n (s + 1) h.2 y e (by omega)
def codeW (y : Nat) : Jvm.Cond := .code (mName y) (mCode y) (mMx y) (mRt y)
set_option maxRecDepth 20000 in
theorem cdk0 : ALLn (fun y => codeW y ∈ lw_tbl) 16 0 := ⟨inT1 (List.mem_of_getElem? (i := 58) rfl), inT3 (List.mem_of_getElem? (i := 95) rfl), inT4 (List.mem_of_getElem? (i := 12) rfl), inT4 (List.mem_of_getElem? (i := 110) rfl), inT3 (List.mem_of_getElem? (i := 137) rfl), inT3 (List.mem_of_getElem? (i := 142) rfl), inT6 (List.mem_of_getElem? (i := 10) rfl), inT5 (List.mem_of_getElem? (i := 230) rfl), inT4 (List.mem_of_getElem? (i := 32) rfl), inT1 (List.mem_of_getElem? (i := 87) rfl), inT3 (List.mem_of_getElem? (i := 118) rfl), inT4 (List.mem_of_getElem? (i := 106) rfl), inT1 (List.mem_of_getElem? (i := 202) rfl), inT3 (List.mem_of_getElem? (i := 232) rfl), inT4 (List.mem_of_getElem? (i := 150) rfl), inT1 (List.mem_of_getElem? (i := 208) rfl), trivial⟩
set_option maxRecDepth 20000 in
theorem cdk1 : ALLn (fun y => codeW y ∈ lw_tbl) 16 16 := ⟨inT4 (List.mem_of_getElem? (i := 17) rfl), inT4 (List.mem_of_getElem? (i := 22) rfl), inT4 (List.mem_of_getElem? (i := 154) rfl), inT4 (List.mem_of_getElem? (i := 161) rfl), inT4 (List.mem_of_getElem? (i := 27) rfl), inT3 (List.mem_of_getElem? (i := 6) rfl), inT6 (List.mem_of_getElem? (i := 91) rfl), inT6 (List.mem_of_getElem? (i := 84) rfl), inT1 (List.mem_of_getElem? (i := 28) rfl), inT1 (List.mem_of_getElem? (i := 32) rfl), inT6 (List.mem_of_getElem? (i := 43) rfl), inT5 (List.mem_of_getElem? (i := 108) rfl), inT3 (List.mem_of_getElem? (i := 128) rfl), inT3 (List.mem_of_getElem? (i := 91) rfl), inT4 (List.mem_of_getElem? (i := 221) rfl), inT3 (List.mem_of_getElem? (i := 153) rfl), trivial⟩
set_option maxRecDepth 20000 in
theorem cdk2 : ALLn (fun y => codeW y ∈ lw_tbl) 16 32 := ⟨inT5 (List.mem_of_getElem? (i := 24) rfl), inT4 (List.mem_of_getElem? (i := 40) rfl), inT4 (List.mem_of_getElem? (i := 45) rfl), inT4 (List.mem_of_getElem? (i := 50) rfl), inT6 (List.mem_of_getElem? (i := 16) rfl), inT4 (List.mem_of_getElem? (i := 36) rfl), inT2 (List.mem_of_getElem? (i := 110) rfl), inT5 (List.mem_of_getElem? (i := 47) rfl), inT5 (List.mem_of_getElem? (i := 51) rfl), inT5 (List.mem_of_getElem? (i := 56) rfl), inT5 (List.mem_of_getElem? (i := 60) rfl), inT5 (List.mem_of_getElem? (i := 66) rfl), inT5 (List.mem_of_getElem? (i := 73) rfl), inT5 (List.mem_of_getElem? (i := 77) rfl), inT2 (List.mem_of_getElem? (i := 205) rfl), inT3 (List.mem_of_getElem? (i := 192) rfl), trivial⟩
set_option maxRecDepth 20000 in
theorem cdk3 : ALLn (fun y => codeW y ∈ lw_tbl) 16 48 := ⟨inT4 (List.mem_of_getElem? (i := 67) rfl), inT4 (List.mem_of_getElem? (i := 64) rfl), inT6 (List.mem_of_getElem? (i := 31) rfl), inT6 (List.mem_of_getElem? (i := 4) rfl), inT6 (List.mem_of_getElem? (i := 24) rfl), inT6 (List.mem_of_getElem? (i := 39) rfl), inT6 (List.mem_of_getElem? (i := 35) rfl), inT6 (List.mem_of_getElem? (i := 49) rfl), inT6 (List.mem_of_getElem? (i := 68) rfl), inT6 (List.mem_of_getElem? (i := 57) rfl), inT1 (List.mem_of_getElem? (i := 47) rfl), inT3 (List.mem_of_getElem? (i := 110) rfl), inT3 (List.mem_of_getElem? (i := 164) rfl), inT3 (List.mem_of_getElem? (i := 87) rfl), inT3 (List.mem_of_getElem? (i := 114) rfl), inT3 (List.mem_of_getElem? (i := 168) rfl), trivial⟩
set_option maxRecDepth 20000 in
theorem cdk4 : ALLn (fun y => codeW y ∈ lw_tbl) 16 64 := ⟨inT3 (List.mem_of_getElem? (i := 184) rfl), inT3 (List.mem_of_getElem? (i := 133) rfl), inT3 (List.mem_of_getElem? (i := 216) rfl), inT4 (List.mem_of_getElem? (i := 136) rfl), inT4 (List.mem_of_getElem? (i := 102) rfl), inT4 (List.mem_of_getElem? (i := 86) rfl), inT4 (List.mem_of_getElem? (i := 90) rfl), inT4 (List.mem_of_getElem? (i := 118) rfl), inT4 (List.mem_of_getElem? (i := 122) rfl), inT5 (List.mem_of_getElem? (i := 104) rfl), inT5 (List.mem_of_getElem? (i := 95) rfl), inT5 (List.mem_of_getElem? (i := 118) rfl), inT5 (List.mem_of_getElem? (i := 174) rfl), inT2 (List.mem_of_getElem? (i := 151) rfl), inT5 (List.mem_of_getElem? (i := 126) rfl), inT5 (List.mem_of_getElem? (i := 130) rfl), trivial⟩
set_option maxRecDepth 20000 in
theorem cdk5 : ALLn (fun y => codeW y ∈ lw_tbl) 16 80 := ⟨inT5 (List.mem_of_getElem? (i := 146) rfl), inT5 (List.mem_of_getElem? (i := 140) rfl), inT5 (List.mem_of_getElem? (i := 151) rfl), inT5 (List.mem_of_getElem? (i := 159) rfl), inT5 (List.mem_of_getElem? (i := 165) rfl), inT5 (List.mem_of_getElem? (i := 182) rfl), inT1 (List.mem_of_getElem? (i := 194) rfl), inT3 (List.mem_of_getElem? (i := 176) rfl), inT3 (List.mem_of_getElem? (i := 212) rfl), inT3 (List.mem_of_getElem? (i := 208) rfl), inT3 (List.mem_of_getElem? (i := 204) rfl), inT5 (List.mem_of_getElem? (i := 3) rfl), inT5 (List.mem_of_getElem? (i := 34) rfl), inT4 (List.mem_of_getElem? (i := 205) rfl), inT4 (List.mem_of_getElem? (i := 209) rfl), inT5 (List.mem_of_getElem? (i := 11) rfl), trivial⟩
set_option maxRecDepth 20000 in
theorem cdk6 : ALLn (fun y => codeW y ∈ lw_tbl) 16 96 := ⟨inT5 (List.mem_of_getElem? (i := 15) rfl), inT3 (List.mem_of_getElem? (i := 200) rfl), inT3 (List.mem_of_getElem? (i := 220) rfl), inT3 (List.mem_of_getElem? (i := 228) rfl), inT4 (List.mem_of_getElem? (i := 145) rfl), inT4 (List.mem_of_getElem? (i := 177) rfl), inT4 (List.mem_of_getElem? (i := 94) rfl), inT4 (List.mem_of_getElem? (i := 234) rfl), inT3 (List.mem_of_getElem? (i := 196) rfl), inT3 (List.mem_of_getElem? (i := 236) rfl), inT4 (List.mem_of_getElem? (i := 0) rfl), inT4 (List.mem_of_getElem? (i := 4) rfl), inT4 (List.mem_of_getElem? (i := 8) rfl), inT4 (List.mem_of_getElem? (i := 55) rfl), inT4 (List.mem_of_getElem? (i := 197) rfl), inT4 (List.mem_of_getElem? (i := 225) rfl), trivial⟩
set_option maxRecDepth 20000 in
theorem cdk7 : ALLn (fun y => codeW y ∈ lw_tbl) 16 112 := ⟨inT4 (List.mem_of_getElem? (i := 217) rfl), inT5 (List.mem_of_getElem? (i := 195) rfl), inT5 (List.mem_of_getElem? (i := 191) rfl), inT5 (List.mem_of_getElem? (i := 199) rfl), inT5 (List.mem_of_getElem? (i := 206) rfl), inT1 (List.mem_of_getElem? (i := 20) rfl), inT3 (List.mem_of_getElem? (i := 68) rfl), inT3 (List.mem_of_getElem? (i := 72) rfl), inT3 (List.mem_of_getElem? (i := 103) rfl), inT3 (List.mem_of_getElem? (i := 160) rfl), inT3 (List.mem_of_getElem? (i := 172) rfl), inT3 (List.mem_of_getElem? (i := 180) rfl), inT3 (List.mem_of_getElem? (i := 188) rfl), inT4 (List.mem_of_getElem? (i := 81) rfl), inT4 (List.mem_of_getElem? (i := 98) rfl), inT4 (List.mem_of_getElem? (i := 114) rfl), trivial⟩
set_option maxRecDepth 20000 in
theorem cdk8 : ALLn (fun y => codeW y ∈ lw_tbl) 16 128 := ⟨inT4 (List.mem_of_getElem? (i := 127) rfl), inT4 (List.mem_of_getElem? (i := 132) rfl), inT4 (List.mem_of_getElem? (i := 141) rfl), inT4 (List.mem_of_getElem? (i := 173) rfl), inT4 (List.mem_of_getElem? (i := 185) rfl), inT4 (List.mem_of_getElem? (i := 189) rfl), inT4 (List.mem_of_getElem? (i := 201) rfl), inT4 (List.mem_of_getElem? (i := 213) rfl), inT4 (List.mem_of_getElem? (i := 230) rfl), inT4 (List.mem_of_getElem? (i := 239) rfl), inT5 (List.mem_of_getElem? (i := 7) rfl), inT5 (List.mem_of_getElem? (i := 20) rfl), inT5 (List.mem_of_getElem? (i := 30) rfl), inT5 (List.mem_of_getElem? (i := 39) rfl), inT5 (List.mem_of_getElem? (i := 43) rfl), inT5 (List.mem_of_getElem? (i := 81) rfl), trivial⟩
set_option maxRecDepth 20000 in
theorem cdk9 : ALLn (fun y => codeW y ∈ lw_tbl) 16 144 := ⟨inT5 (List.mem_of_getElem? (i := 85) rfl), inT5 (List.mem_of_getElem? (i := 90) rfl), inT5 (List.mem_of_getElem? (i := 100) rfl), inT5 (List.mem_of_getElem? (i := 114) rfl), inT5 (List.mem_of_getElem? (i := 122) rfl), inT5 (List.mem_of_getElem? (i := 136) rfl), inT5 (List.mem_of_getElem? (i := 155) rfl), inT5 (List.mem_of_getElem? (i := 170) rfl), inT5 (List.mem_of_getElem? (i := 178) rfl), inT5 (List.mem_of_getElem? (i := 187) rfl), inT5 (List.mem_of_getElem? (i := 220) rfl), inT5 (List.mem_of_getElem? (i := 226) rfl), inT5 (List.mem_of_getElem? (i := 238) rfl), inT6 (List.mem_of_getElem? (i := 20) rfl), inT6 (List.mem_of_getElem? (i := 53) rfl), inT6 (List.mem_of_getElem? (i := 63) rfl), trivial⟩
set_option maxRecDepth 20000 in
theorem cdk10 : ALLn (fun y => codeW y ∈ lw_tbl) 16 160 := ⟨inT6 (List.mem_of_getElem? (i := 76) rfl), inT6 (List.mem_of_getElem? (i := 80) rfl), inT6 (List.mem_of_getElem? (i := 101) rfl), inT3 (List.mem_of_getElem? (i := 99) rfl), inT3 (List.mem_of_getElem? (i := 83) rfl), inT4 (List.mem_of_getElem? (i := 181) rfl), inT4 (List.mem_of_getElem? (i := 193) rfl), inT3 (List.mem_of_getElem? (i := 78) rfl), inT3 (List.mem_of_getElem? (i := 106) rfl), inT3 (List.mem_of_getElem? (i := 75) rfl), inT1 (List.mem_of_getElem? (i := 37) rfl), inT3 (List.mem_of_getElem? (i := 146) rfl), inT5 (List.mem_of_getElem? (i := 209) rfl), inT3 (List.mem_of_getElem? (i := 121) rfl), inT3 (List.mem_of_getElem? (i := 124) rfl), inT1 (List.mem_of_getElem? (i := 53) rfl), trivial⟩
set_option maxRecDepth 20000 in
theorem cdk11 : ALLn (fun y => codeW y ∈ lw_tbl) 16 176 := ⟨inT6 (List.mem_of_getElem? (i := 106) rfl), inT7 (List.mem_of_getElem? (i := 19) rfl), inT7 (List.mem_of_getElem? (i := 31) rfl), inT7 (List.mem_of_getElem? (i := 46) rfl), inT8 (List.mem_of_getElem? (i := 48) rfl), inT7 (List.mem_of_getElem? (i := 26) rfl), inT7 (List.mem_of_getElem? (i := 41) rfl), inT7 (List.mem_of_getElem? (i := 38) rfl), inT7 (List.mem_of_getElem? (i := 172) rfl), inT7 (List.mem_of_getElem? (i := 64) rfl), inT7 (List.mem_of_getElem? (i := 61) rfl), inT7 (List.mem_of_getElem? (i := 35) rfl), inT7 (List.mem_of_getElem? (i := 103) rfl), inT7 (List.mem_of_getElem? (i := 110) rfl), inT7 (List.mem_of_getElem? (i := 113) rfl), inT8 (List.mem_of_getElem? (i := 32) rfl), trivial⟩
set_option maxRecDepth 20000 in
theorem cdk12 : ALLn (fun y => codeW y ∈ lw_tbl) 16 192 := ⟨inT7 (List.mem_of_getElem? (i := 100) rfl), inT7 (List.mem_of_getElem? (i := 107) rfl), inT8 (List.mem_of_getElem? (i := 29) rfl), inT7 (List.mem_of_getElem? (i := 96) rfl), inT7 (List.mem_of_getElem? (i := 168) rfl), inT7 (List.mem_of_getElem? (i := 164) rfl), inT7 (List.mem_of_getElem? (i := 23) rfl), inT7 (List.mem_of_getElem? (i := 53) rfl), inT7 (List.mem_of_getElem? (i := 57) rfl), inT7 (List.mem_of_getElem? (i := 72) rfl), inT7 (List.mem_of_getElem? (i := 50) rfl), inT7 (List.mem_of_getElem? (i := 68) rfl), inT7 (List.mem_of_getElem? (i := 76) rfl), inT7 (List.mem_of_getElem? (i := 80) rfl), inT7 (List.mem_of_getElem? (i := 84) rfl), inT7 (List.mem_of_getElem? (i := 119) rfl), trivial⟩
set_option maxRecDepth 20000 in
theorem cdk13 : ALLn (fun y => codeW y ∈ lw_tbl) 16 208 := ⟨inT7 (List.mem_of_getElem? (i := 92) rfl), inT7 (List.mem_of_getElem? (i := 124) rfl), inT7 (List.mem_of_getElem? (i := 88) rfl), inT8 (List.mem_of_getElem? (i := 9) rfl), inT7 (List.mem_of_getElem? (i := 152) rfl), inT7 (List.mem_of_getElem? (i := 148) rfl), inT7 (List.mem_of_getElem? (i := 160) rfl), inT7 (List.mem_of_getElem? (i := 179) rfl), inT7 (List.mem_of_getElem? (i := 156) rfl), inT7 (List.mem_of_getElem? (i := 183) rfl), inT7 (List.mem_of_getElem? (i := 187) rfl), inT7 (List.mem_of_getElem? (i := 144) rfl), inT7 (List.mem_of_getElem? (i := 140) rfl), inT7 (List.mem_of_getElem? (i := 136) rfl), inT7 (List.mem_of_getElem? (i := 191) rfl), inT7 (List.mem_of_getElem? (i := 199) rfl), trivial⟩
set_option maxRecDepth 20000 in
theorem cdk14 : ALLn (fun y => codeW y ∈ lw_tbl) 16 224 := ⟨inT7 (List.mem_of_getElem? (i := 207) rfl), inT7 (List.mem_of_getElem? (i := 203) rfl), inT7 (List.mem_of_getElem? (i := 195) rfl), inT8 (List.mem_of_getElem? (i := 52) rfl), inT8 (List.mem_of_getElem? (i := 56) rfl), inT8 (List.mem_of_getElem? (i := 73) rfl), inT8 (List.mem_of_getElem? (i := 69) rfl), inT8 (List.mem_of_getElem? (i := 65) rfl), inT8 (List.mem_of_getElem? (i := 81) rfl), inT8 (List.mem_of_getElem? (i := 61) rfl), inT8 (List.mem_of_getElem? (i := 77) rfl), inT8 (List.mem_of_getElem? (i := 44) rfl), inT8 (List.mem_of_getElem? (i := 101) rfl), inT8 (List.mem_of_getElem? (i := 5) rfl), inT8 (List.mem_of_getElem? (i := 1) rfl), inT8 (List.mem_of_getElem? (i := 17) rfl), trivial⟩
set_option maxRecDepth 20000 in
theorem cdk15 : ALLn (fun y => codeW y ∈ lw_tbl) 16 240 := ⟨inT8 (List.mem_of_getElem? (i := 13) rfl), inT8 (List.mem_of_getElem? (i := 21) rfl), inT8 (List.mem_of_getElem? (i := 25) rfl), inT8 (List.mem_of_getElem? (i := 36) rfl), inT8 (List.mem_of_getElem? (i := 40) rfl), inT8 (List.mem_of_getElem? (i := 89) rfl), inT8 (List.mem_of_getElem? (i := 85) rfl), inT8 (List.mem_of_getElem? (i := 93) rfl), inT8 (List.mem_of_getElem? (i := 105) rfl), inT8 (List.mem_of_getElem? (i := 97) rfl), inT8 (List.mem_of_getElem? (i := 109) rfl), inT8 (List.mem_of_getElem? (i := 113) rfl), inT8 (List.mem_of_getElem? (i := 117) rfl), inT8 (List.mem_of_getElem? (i := 121) rfl), inT8 (List.mem_of_getElem? (i := 129) rfl), inT8 (List.mem_of_getElem? (i := 125) rfl), trivial⟩
set_option maxRecDepth 20000 in
theorem cdk16 : ALLn (fun y => codeW y ∈ lw_tbl) 16 256 := ⟨inT8 (List.mem_of_getElem? (i := 137) rfl), inT8 (List.mem_of_getElem? (i := 133) rfl), inT8 (List.mem_of_getElem? (i := 145) rfl), inT8 (List.mem_of_getElem? (i := 141) rfl), inT8 (List.mem_of_getElem? (i := 149) rfl), inT8 (List.mem_of_getElem? (i := 164) rfl), inT8 (List.mem_of_getElem? (i := 160) rfl), inT8 (List.mem_of_getElem? (i := 156) rfl), inT8 (List.mem_of_getElem? (i := 153) rfl), inT8 (List.mem_of_getElem? (i := 168) rfl), inT8 (List.mem_of_getElem? (i := 172) rfl), inT8 (List.mem_of_getElem? (i := 188) rfl), inT8 (List.mem_of_getElem? (i := 180) rfl), inT8 (List.mem_of_getElem? (i := 176) rfl), inT8 (List.mem_of_getElem? (i := 184) rfl), inT8 (List.mem_of_getElem? (i := 192) rfl), trivial⟩
set_option maxRecDepth 20000 in
theorem cdk17 : ALLn (fun y => codeW y ∈ lw_tbl) 16 272 := ⟨inT8 (List.mem_of_getElem? (i := 200) rfl), inT8 (List.mem_of_getElem? (i := 196) rfl), inT8 (List.mem_of_getElem? (i := 208) rfl), inT8 (List.mem_of_getElem? (i := 204) rfl), inT8 (List.mem_of_getElem? (i := 212) rfl), inT8 (List.mem_of_getElem? (i := 217) rfl), inT8 (List.mem_of_getElem? (i := 221) rfl), inT8 (List.mem_of_getElem? (i := 234) rfl), inT8 (List.mem_of_getElem? (i := 229) rfl), inT8 (List.mem_of_getElem? (i := 225) rfl), inT8 (List.mem_of_getElem? (i := 238) rfl), inT7 (List.mem_of_getElem? (i := 220) rfl), inT7 (List.mem_of_getElem? (i := 216) rfl), inT9 (List.mem_of_getElem? (i := 5) rfl), inT9 (List.mem_of_getElem? (i := 2) rfl), inT7 (List.mem_of_getElem? (i := 211) rfl), trivial⟩
set_option maxRecDepth 20000 in
theorem cdk18 : ALLn (fun y => codeW y ∈ lw_tbl) 16 288 := ⟨inT7 (List.mem_of_getElem? (i := 224) rfl), inT9 (List.mem_of_getElem? (i := 10) rfl), inT7 (List.mem_of_getElem? (i := 231) rfl), inT7 (List.mem_of_getElem? (i := 237) rfl), inT7 (List.mem_of_getElem? (i := 132) rfl), inT7 (List.mem_of_getElem? (i := 128) rfl), inT7 (List.mem_of_getElem? (i := 228) rfl), inT9 (List.mem_of_getElem? (i := 18) rfl), inT9 (List.mem_of_getElem? (i := 26) rfl), inT9 (List.mem_of_getElem? (i := 22) rfl), inT9 (List.mem_of_getElem? (i := 30) rfl), inT9 (List.mem_of_getElem? (i := 14) rfl), inT9 (List.mem_of_getElem? (i := 34) rfl), inT9 (List.mem_of_getElem? (i := 42) rfl), inT9 (List.mem_of_getElem? (i := 38) rfl), inT9 (List.mem_of_getElem? (i := 46) rfl), trivial⟩
set_option maxRecDepth 20000 in
theorem cdk19 : ALLn (fun y => codeW y ∈ lw_tbl) 5 304 := ⟨inT9 (List.mem_of_getElem? (i := 58) rfl), inT9 (List.mem_of_getElem? (i := 54) rfl), inT9 (List.mem_of_getElem? (i := 50) rfl), inT9 (List.mem_of_getElem? (i := 62) rfl), inT4 (List.mem_of_getElem? (i := 74) rfl), trivial⟩
theorem cd_ok (y : Nat) (h : y < 309) : codeW y ∈ lw_tbl := by
  rcases Nat.lt_or_ge y 16 with q0 | q0
  · exact ALLn_at _ _ cdk0 y (by omega) (by omega)
  rcases Nat.lt_or_ge y 32 with q1 | q1
  · exact ALLn_at _ _ cdk1 y (by omega) (by omega)
  rcases Nat.lt_or_ge y 48 with q2 | q2
  · exact ALLn_at _ _ cdk2 y (by omega) (by omega)
  rcases Nat.lt_or_ge y 64 with q3 | q3
  · exact ALLn_at _ _ cdk3 y (by omega) (by omega)
  rcases Nat.lt_or_ge y 80 with q4 | q4
  · exact ALLn_at _ _ cdk4 y (by omega) (by omega)
  rcases Nat.lt_or_ge y 96 with q5 | q5
  · exact ALLn_at _ _ cdk5 y (by omega) (by omega)
  rcases Nat.lt_or_ge y 112 with q6 | q6
  · exact ALLn_at _ _ cdk6 y (by omega) (by omega)
  rcases Nat.lt_or_ge y 128 with q7 | q7
  · exact ALLn_at _ _ cdk7 y (by omega) (by omega)
  rcases Nat.lt_or_ge y 144 with q8 | q8
  · exact ALLn_at _ _ cdk8 y (by omega) (by omega)
  rcases Nat.lt_or_ge y 160 with q9 | q9
  · exact ALLn_at _ _ cdk9 y (by omega) (by omega)
  rcases Nat.lt_or_ge y 176 with q10 | q10
  · exact ALLn_at _ _ cdk10 y (by omega) (by omega)
  rcases Nat.lt_or_ge y 192 with q11 | q11
  · exact ALLn_at _ _ cdk11 y (by omega) (by omega)
  rcases Nat.lt_or_ge y 208 with q12 | q12
  · exact ALLn_at _ _ cdk12 y (by omega) (by omega)
  rcases Nat.lt_or_ge y 224 with q13 | q13
  · exact ALLn_at _ _ cdk13 y (by omega) (by omega)
  rcases Nat.lt_or_ge y 240 with q14 | q14
  · exact ALLn_at _ _ cdk14 y (by omega) (by omega)
  rcases Nat.lt_or_ge y 256 with q15 | q15
  · exact ALLn_at _ _ cdk15 y (by omega) (by omega)
  rcases Nat.lt_or_ge y 272 with q16 | q16
  · exact ALLn_at _ _ cdk16 y (by omega) (by omega)
  rcases Nat.lt_or_ge y 288 with q17 | q17
  · exact ALLn_at _ _ cdk17 y (by omega) (by omega)
  rcases Nat.lt_or_ge y 304 with q18 | q18
  · exact ALLn_at _ _ cdk18 y (by omega) (by omega)
  exact ALLn_at _ _ cdk19 y (by omega) (by omega)
def nestL : List Jvm.Cond := (List.range 16).flatMap fun own => (calL.getD own []).filterMap fun q => if q.2.2.1 = 0 then none else some (.methodLinkNest (cName own) q.1 (mName q.2.1) "PoleSets")
