/-! THE PROGRAM: classes, links, methods, code by labels. Written by wip/whole/gen.py out of the Statement. -/
def aT0 : u_T := fun k => match k with
  | 0 => ("RiverThinksAgainModel", "thrown", "I", false)
  | 1 => ("RiverThinksAgainModel", "told", "I", false)
  | 2 => ("RiverThinksAgainModel", "row", "[J", true)
  | 3 => ("RiverThinksAgainModel", "rows", "I", false)
  | 4 => ("RiverThinksAgainModel", "columns", "I", false)
  | 5 => ("RiverThinksAgainModel", "changes", "I", false)
  | 6 => ("RiverThinksAgainModel", "skyLong", "I", false)
  | 7 => ("RiverThinksAgainModel", "sky", "[I", true)
  | 8 => ("RiverThinksAgainModel", "now", "[I", true)
  | 9 => ("RiverThinksAgainModel", "then", "[I", true)
  | 10 => ("RiverThinksAgainModel", "tape", "[I", true)
  | 11 => ("RiverThinksAgainModel", "taped", "I", false)
  | 12 => ("RiverThinksAgainModel", "at", "I", false)
  | 13 => ("RiverThinksAgainModel", "to", "I", false)
  | 14 => ("RiverThinksAgainModel", "nest", "I", false)
  | 15 => ("RiverThinksAgainModel", "read", "[I", true)
  | 16 => ("RiverThinksAgainModel", "code", "[I", true)
  | 17 => ("RiverThinksAgainModel", "readCode", "[I", true)
  | 18 => ("RiverThinksAgainModel", "codeLong", "I", false)
  | 19 => ("RiverThinksAgainModel", "codesRead", "I", false)
  | 20 => ("RiverThinksAgainModel", "stack", "[I", true)
  | 21 => ("RiverThinksAgainModel", "asked", "[I", true)
  | 22 => ("RiverThinksAgainModel", "course", "[I", true)
  | 23 => ("RiverThinksAgainModel", "isOn", "[Z", true)
  | 24 => ("RiverThinksAgainModel", "courseLong", "I", false)
  | 25 => ("RiverThinksAgainModel", "isLake", "Z", false)
  | 26 => ("RiverThinksAgainModel", "undos", "I", false)
  | 27 => ("RiverThinksAgainModel", "undone", "[I", true)
  | 28 => ("RiverThinksAgainModel", "actSign", "[I", true)
  | 29 => ("RiverThinksAgainModel", "actOne", "[I", true)
  | 30 => ("RiverThinksAgainModel", "actTwo", "[I", true)
  | 31 => ("RiverThinksAgainModel", "actThree", "[I", true)
  | 32 => ("RiverThinksAgainModel", "acts", "I", false)
  | 33 => ("RiverThinksAgainModel", "was", "[I", true)
  | 34 => ("RiverThinksAgainModel", "wasLong", "I", false)
  | 35 => ("RiverThinksAgainModel", "often", "[I", true)
  | 36 => ("RiverThinksAgainModel", "put", "[I", true)
  | 37 => ("RiverThinksAgainModel", "highest", "I", false)
  | 38 => ("RiverThinksAgainModel", "ship", "[I", true)
  | 39 => ("RiverThinksAgainModel", "deep", "[I", true)
  | 40 => ("RiverThinksAgainModel", "tideOf", "[I", true)
  | 41 => ("RiverThinksAgainModel", "isAsked", "[Z", true)
  | 42 => ("RiverThinksAgainModel", "isTaken", "[Z", true)
  | 43 => ("RiverThinksAgainModel", "steps", "[I", true)
  | 44 => ("RiverThinksAgainModel", "flood", "[I", true)
  | 45 => ("RiverThinksAgainModel", "bestAway", "J", false)
  | 46 => ("RiverThinksAgainModel", "seenMany", "I", false)
  | 47 => ("RiverThinksAgainModel", "seenTide", "[I", true)
  | 48 => ("RiverThinksAgainModel", "seenField", "[I", true)
  | 49 => ("RiverThinksAgainModel", "seenIs", "[I", true)
  | 50 => ("RiverThinksAgainModel", "courseOf", "[J", true)
  | 51 => ("RiverThinksAgainModel", "markMany", "I", false)
  | 52 => ("RiverThinksAgainModel", "markAt", "[I", true)
  | 53 => ("RiverThinksAgainModel", "markTo", "[I", true)
  | 54 => ("RiverThinksAgainModel", "winning", "[I", true)
  | 55 => ("RiverThinksAgainModel", "wasCode", "[I", true)
  | 56 => ("RiverThinksAgainModel", "random", "I", false)
  | 57 => ("RiverThinksAgainModel", "isKept", "[Z", true)
  | 58 => ("RiverThinksAgainModel", "keptChanges", "[I", true)
  | _ => ("RiverThinksAgainModel", "kept", "[I", true)
def aY0 : List FieldType := [.int, .int, (.array .long), .int, .int, .int, .int, (.array .int), (.array .int), (.array .int), (.array .int), .int, .int, .int, .int, (.array .int), (.array .int), (.array .int), .int, .int, (.array .int), (.array .int), (.array .int), (.array .boolean), .int, .boolean, .int, (.array .int), (.array .int), (.array .int), (.array .int), (.array .int), .int, (.array .int), .int, (.array .int), (.array .int), .int, (.array .int), (.array .int), (.array .int), (.array .boolean), (.array .boolean), (.array .int), (.array .int), .long, .int, (.array .int), (.array .int), (.array .int), (.array .long), .int, (.array .int), (.array .int), (.array .int), (.array .int), .int, (.array .boolean), (.array .int), (.array .int)]
def aQ0 : List Nat := [1308, 1310, 1312, 1314, 1316, 1318, 1320, 1322, 1324, 1326, 1328, 1330, 1332, 1334, 1336, 1338, 1340, 1342, 1344, 1346, 1348, 1350, 1352, 1354, 1356, 1358, 1360, 1362, 1364, 1366, 1368, 1370, 1372, 1374, 1376, 1378, 1380, 1382, 1384, 1386, 1388, 1390, 1392, 1394, 1396, 1398, 1400, 1402, 1404, 1406, 1408, 1410, 1412, 1414, 1416, 1418, 1420, 1422, 1424, 1426]
def aT1 : u_T := fun k => match k with
  | 0 => ("RiverThinksAgain", "text", "LRiverThinksAgain$Text;", true)
  | 1 => ("RiverThinksAgain", "told", "LRiverThinksAgain$Told;", true)
  | 2 => ("RiverThinksAgain", "land", "LRiverThinksAgain$Land;", true)
  | 3 => ("RiverThinksAgain", "forces", "LRiverThinksAgain$Forces;", true)
  | 4 => ("RiverThinksAgain", "rule", "LRiverThinksAgain$Rule;", true)
  | 5 => ("RiverThinksAgain", "otherRule", "LRiverThinksAgain$Rule;", true)
  | 6 => ("RiverThinksAgain", "reader", "LRiverThinksAgain$RuleReader;", true)
  | 7 => ("RiverThinksAgain", "now", "LRiverThinksAgain$State;", true)
  | 8 => ("RiverThinksAgain", "before", "LRiverThinksAgain$State;", true)
  | 9 => ("RiverThinksAgain", "dream", "LRiverThinksAgain$State;", true)
  | 10 => ("RiverThinksAgain", "river", "LRiverThinksAgain$River;", true)
  | 11 => ("RiverThinksAgain", "past", "LRiverThinksAgain$Past;", true)
  | 12 => ("RiverThinksAgain", "kept", "[LRiverThinksAgain$State;", true)
  | 13 => ("RiverThinksAgain", "keptNumbers", "I", false)
  | 14 => ("RiverThinksAgain", "sightings", "LRiverThinksAgain$Noted;", true)
  | 15 => ("RiverThinksAgain", "marks", "LRiverThinksAgain$Noted;", true)
  | 16 => ("RiverThinksAgain", "harbour", "LRiverThinksAgain$Harbour;", true)
  | 17 => ("RiverThinksAgain", "followed", "[J", true)
  | 18 => ("RiverThinksAgain", "winningCuts", "[I", true)
  | _ => ("RiverThinksAgain", "openRuns", "[J", true)
def aY1 : List FieldType := [(.object "RiverThinksAgain$Text"), (.object "RiverThinksAgain$Told"), (.object "RiverThinksAgain$Land"), (.object "RiverThinksAgain$Forces"), (.object "RiverThinksAgain$Rule"), (.object "RiverThinksAgain$Rule"), (.object "RiverThinksAgain$RuleReader"), (.object "RiverThinksAgain$State"), (.object "RiverThinksAgain$State"), (.object "RiverThinksAgain$State"), (.object "RiverThinksAgain$River"), (.object "RiverThinksAgain$Past"), (.array (.object "RiverThinksAgain$State")), .int, (.object "RiverThinksAgain$Noted"), (.object "RiverThinksAgain$Noted"), (.object "RiverThinksAgain$Harbour"), (.array .long), (.array .int), (.array .long)]
def aQ1 : List Nat := [464, 466, 468, 470, 472, 474, 476, 478, 480, 482, 484, 486, 488, 490, 492, 494, 496, 498, 500, 502]
def aT2 : u_T := fun k => match k with
  | 0 => ("RiverThinksAgain$Forces", "digits", "[I", true)
  | _ => ("RiverThinksAgain$Forces", "size", "I", false)
def aY2 : List FieldType := [(.array .int), .int]
def aQ2 : List Nat := [223, 225]
def aT3 : u_T := fun k => match k with
  | 0 => ("RiverThinksAgain$Harbour", "draughts", "[I", true)
  | 1 => ("RiverThinksAgain$Harbour", "depths", "[I", true)
  | 2 => ("RiverThinksAgain$Harbour", "floods", "[J", true)
  | 3 => ("RiverThinksAgain$Harbour", "ships", "I", false)
  | _ => ("RiverThinksAgain$Harbour", "tides", "I", false)
def aY3 : List FieldType := [(.array .int), (.array .int), (.array .long), .int, .int]
def aQ3 : List Nat := [433, 435, 437, 439, 441]
def aT4 : u_T := fun k => match k with
  | 0 => ("RiverThinksAgain$Land", "rows", "I", false)
  | 1 => ("RiverThinksAgain$Land", "columns", "I", false)
  | 2 => ("RiverThinksAgain$Land", "fields", "I", false)
  | 3 => ("RiverThinksAgain$Land", "all", "J", false)
  | 4 => ("RiverThinksAgain$Land", "lastRow", "J", false)
  | 5 => ("RiverThinksAgain$Land", "firstColumn", "J", false)
  | 6 => ("RiverThinksAgain$Land", "lastColumn", "J", false)
  | 7 => ("RiverThinksAgain$Land", "rowOf", "[I", true)
  | 8 => ("RiverThinksAgain$Land", "columnOf", "[I", true)
  | _ => ("RiverThinksAgain$Land", "neighbours", "[I", true)
def aY4 : List FieldType := [.int, .int, .int, .long, .long, .long, .long, (.array .int), (.array .int), (.array .int)]
def aQ4 : List Nat := [193, 195, 197, 199, 201, 203, 205, 207, 209, 211]
def aT5 : u_T := fun k => match k with
  | 0 => ("RiverThinksAgain$Noted", "when", "[I", true)
  | 1 => ("RiverThinksAgain$Noted", "field", "[I", true)
  | 2 => ("RiverThinksAgain$Noted", "what", "[I", true)
  | _ => ("RiverThinksAgain$Noted", "size", "I", false)
def aY5 : List FieldType := [(.array .int), (.array .int), (.array .int), .int]
def aQ5 : List Nat := [413, 415, 417, 419]
def aT6 : u_T := fun k => match k with
  | 0 => ("RiverThinksAgain$Past", "states", "[LRiverThinksAgain$State;", true)
  | 1 => ("RiverThinksAgain$Past", "next", "I", false)
  | _ => ("RiverThinksAgain$Past", "size", "I", false)
def aY6 : List FieldType := [(.array (.object "RiverThinksAgain$State")), .int, .int]
def aQ6 : List Nat := [392, 394, 396]
def aT7 : u_T := fun k => match k with
  | 0 => ("RiverThinksAgain$River", "land", "LRiverThinksAgain$Land;", true)
  | 1 => ("RiverThinksAgain$River", "forces", "LRiverThinksAgain$Forces;", true)
  | 2 => ("RiverThinksAgain$River", "state", "LRiverThinksAgain$State;", false)
  | 3 => ("RiverThinksAgain$River", "rule", "LRiverThinksAgain$Rule;", false)
  | 4 => ("RiverThinksAgain$River", "things", "[I", true)
  | 5 => ("RiverThinksAgain$River", "dislikes", "[I", true)
  | 6 => ("RiverThinksAgain$River", "known", "[J", true)
  | 7 => ("RiverThinksAgain$River", "force", "I", false)
  | 8 => ("RiverThinksAgain$River", "path", "[I", true)
  | 9 => ("RiverThinksAgain$River", "length", "I", false)
  | 10 => ("RiverThinksAgain$River", "on", "J", false)
  | 11 => ("RiverThinksAgain$River", "mouth", "I", false)
  | 12 => ("RiverThinksAgain$River", "seat", "I", false)
  | 13 => ("RiverThinksAgain$River", "rememberedPath", "[I", true)
  | _ => ("RiverThinksAgain$River", "rememberedLength", "I", false)
def aY7 : List FieldType := [(.object "RiverThinksAgain$Land"), (.object "RiverThinksAgain$Forces"), (.object "RiverThinksAgain$State"), (.object "RiverThinksAgain$Rule"), (.array .int), (.array .int), (.array .long), .int, (.array .int), .int, .long, .int, .int, (.array .int), .int]
def aQ7 : List Nat := [348, 350, 352, 354, 356, 358, 360, 362, 364, 366, 368, 370, 372, 374, 376]
def aT8 : u_T := fun k => match k with
  | 0 => ("RiverThinksAgain$Rule", "steps", "[I", true)
  | 1 => ("RiverThinksAgain$Rule", "pile", "[I", true)
  | _ => ("RiverThinksAgain$Rule", "size", "I", false)
def aY8 : List FieldType := [(.array .int), (.array .int), .int]
def aQ8 : List Nat := [248, 250, 252]
def aT9 : u_T := fun k => match k with
  | 0 => ("RiverThinksAgain$RuleReader", "steps", "[I", true)
  | 1 => ("RiverThinksAgain$RuleReader", "waiting", "[I", true)
  | 2 => ("RiverThinksAgain$RuleReader", "size", "I", false)
  | 3 => ("RiverThinksAgain$RuleReader", "waits", "I", false)
  | 4 => ("RiverThinksAgain$RuleReader", "nested", "I", false)
  | 5 => ("RiverThinksAgain$RuleReader", "digits", "I", false)
  | _ => ("RiverThinksAgain$RuleReader", "wantsThing", "Z", false)
def aY9 : List FieldType := [(.array .int), (.array .int), .int, .int, .int, .int, .boolean]
def aQ9 : List Nat := [268, 270, 272, 274, 276, 278, 280]
def aT10 : u_T := fun k => match k with
  | 0 => ("RiverThinksAgain$State", "heights", "[I", true)
  | 1 => ("RiverThinksAgain$State", "walls", "J", false)
  | 2 => ("RiverThinksAgain$State", "bed", "J", false)
  | 3 => ("RiverThinksAgain$State", "source", "I", false)
  | 4 => ("RiverThinksAgain$State", "tide", "I", false)
  | _ => ("RiverThinksAgain$State", "lakes", "I", false)
def aY10 : List FieldType := [(.array .int), .long, .long, .int, .int, .int]
def aQ10 : List Nat := [307, 309, 311, 313, 315, 317]
def aT11 : u_T := fun k => match k with
  | 0 => ("RiverThinksAgain$Text", "signs", "[C", true)
  | _ => ("RiverThinksAgain$Text", "length", "I", false)
def aY11 : List FieldType := [(.array .char), .int]
def aQ11 : List Nat := [134, 136]
def aT12 : u_T := fun k => match k with
  | 0 => ("RiverThinksAgain$Told", "numbers", "[J", true)
  | _ => ("RiverThinksAgain$Told", "size", "I", false)
def aY12 : List FieldType := [(.array .long), .int]
def aQ12 : List Nat := [150, 152]
def aCls : List vw_C := [("RiverThinksAgainModel", aT0, 60), ("RiverThinksAgain", aT1, 20), ("RiverThinksAgain$Forces", aT2, 2), ("RiverThinksAgain$Harbour", aT3, 5), ("RiverThinksAgain$Land", aT4, 10), ("RiverThinksAgain$Noted", aT5, 4), ("RiverThinksAgain$Past", aT6, 3), ("RiverThinksAgain$River", aT7, 15), ("RiverThinksAgain$Rule", aT8, 3), ("RiverThinksAgain$RuleReader", aT9, 7), ("RiverThinksAgain$State", aT10, 6), ("RiverThinksAgain$Text", aT11, 2), ("RiverThinksAgain$Told", aT12, 2), ("java/util/NoSuchElementException", aT0, 0)]
def aNc : Nat := 13
def aClY : List (String × List FieldType) := [("RiverThinksAgainModel", aY0), ("RiverThinksAgain", aY1), ("RiverThinksAgain$Forces", aY2), ("RiverThinksAgain$Harbour", aY3), ("RiverThinksAgain$Land", aY4), ("RiverThinksAgain$Noted", aY5), ("RiverThinksAgain$Past", aY6), ("RiverThinksAgain$River", aY7), ("RiverThinksAgain$Rule", aY8), ("RiverThinksAgain$RuleReader", aY9), ("RiverThinksAgain$State", aY10), ("RiverThinksAgain$Text", aY11), ("RiverThinksAgain$Told", aY12)]
def aClQ : List (List Nat) := [aQ0, aQ1, aQ2, aQ3, aQ4, aQ5, aQ6, aQ7, aQ8, aQ9, aQ10, aQ11, aQ12]
def aClI : List (Nat × Nat) := [(1243, 100), (115, 86), (216, 91), (423, 99), (157, 89), (400, 98), (380, 97), (321, 96), (229, 92), (256, 94), (284, 95), (123, 87), (141, 88)]
def aOwn : List String := ["RiverThinksAgainModel", "RiverThinksAgain", "RiverThinksAgain$Forces", "RiverThinksAgain$Harbour", "RiverThinksAgain$Land", "RiverThinksAgain$Noted", "RiverThinksAgain$Past", "RiverThinksAgain$River", "RiverThinksAgain$Rule", "RiverThinksAgain$RuleReader", "RiverThinksAgain$State", "RiverThinksAgain$Text", "RiverThinksAgain$Told", "RiverThinksAgainLaw", "java/lang/Integer", "java/lang/Long", "java/util/Arrays"]
def aNm (o : Nat) : String := aOwn.getD o ""
def aFl : List (List (Nat × Nat × Nat)) := [[(9, 2, 1250), (13, 3, 1251), (17, 4, 1252), (20, 6, 1254), (23, 7, 1255), (27, 8, 1256), (30, 9, 1257), (33, 10, 1258), (36, 15, 1263), (39, 16, 1264), (42, 17, 1265), (45, 20, 1268), (48, 21, 1269), (51, 22, 1270), (54, 23, 1271), (58, 27, 1275), (61, 28, 1276), (64, 29, 1277), (67, 30, 1278), (70, 31, 1279), (73, 33, 1281), (76, 35, 1283), (79, 36, 1284), (82, 38, 1286), (85, 39, 1287), (88, 40, 1288), (91, 41, 1289), (94, 42, 1290), (97, 43, 1291), (100, 44, 1292), (103, 47, 1295), (106, 48, 1296), (109, 49, 1297), (112, 50, 1298), (115, 52, 1300), (118, 53, 1301), (121, 54, 1302), (124, 55, 1303), (127, 57, 1305), (130, 58, 1306), (133, 59, 1307), (136, 0, 1248), (143, 1, 1249), (154, 11, 1259), (157, 12, 1260), (160, 14, 1262), (169, 13, 1261), (203, 26, 1274), (206, 5, 1253), (209, 46, 1294), (212, 51, 1299), (215, 19, 1267), (248, 18, 1266), (268, 24, 1272), (275, 25, 1273), (349, 32, 1280), (370, 34, 1282), (396, 37, 1285), (424, 45, 1293), (459, 56, 1304)], [(10, 64, 444), (19, 65, 445), (26, 66, 446), (33, 67, 447), (40, 68, 448), (44, 69, 449), (50, 70, 450), (57, 71, 451), (61, 72, 452), (64, 73, 453), (72, 74, 454), (79, 75, 455), (83, 76, 456), (90, 78, 458), (94, 79, 459), (100, 80, 460), (104, 81, 461), (108, 82, 462), (112, 83, 463), (205, 77, 457)], [(9, 128, 221), (15, 129, 222)], [(9, 192, 428), (15, 193, 429), (18, 194, 430), (34, 195, 431), (37, 196, 432)], [(9, 263, 188), (15, 264, 190), (18, 265, 192), (34, 256, 173), (38, 257, 175), (41, 258, 177), (44, 259, 180), (50, 260, 182), (53, 261, 186), (56, 262, 187)], [(9, 320, 405), (15, 321, 407), (18, 322, 409), (21, 323, 411)], [(11, 384, 388), (18, 385, 389), (26, 386, 390)], [(11, 452, 332), (15, 453, 333), (18, 454, 334), (22, 456, 336), (25, 461, 346), (28, 448, 326), (32, 449, 328), (36, 450, 329), (40, 451, 331), (56, 455, 335), (74, 459, 342), (77, 457, 338), (80, 458, 340), (83, 460, 344), (153, 462, 347)], [(9, 512, 245), (15, 513, 246), (34, 514, 247)], [(9, 576, 261), (15, 577, 262), (50, 582, 267), (54, 580, 265), (61, 578, 263), (64, 579, 264), (67, 581, 266)], [(9, 640, 289), (21, 641, 292), (25, 642, 295), (28, 643, 298), (32, 644, 302), (35, 645, 304)], [(9, 704, 128), (15, 705, 129)], [(9, 768, 146), (15, 769, 148)], [], [], [], []]
def aFn : List (List (Nat × Nat × Nat)) := [[], [(133, 258, 178), (145, 705, 133), (158, 640, 291), (165, 458, 341), (173, 641, 294), (176, 642, 297), (208, 323, 412), (274, 644, 303), (281, 386, 391), (282, 257, 176), (285, 643, 300), (291, 457, 339), (292, 456, 337), (295, 459, 343), (298, 460, 345), (317, 259, 181), (341, 450, 330), (344, 448, 327), (379, 260, 185), (408, 320, 406), (411, 321, 408), (414, 322, 410), (456, 645, 306), (463, 256, 174), (471, 769, 149), (472, 768, 147)], [(19, 705, 132)], [(22, 705, 131), (64, 260, 184)], [], [], [], [(44, 644, 301), (63, 641, 293), (86, 643, 299), (93, 258, 179), (98, 260, 183), (101, 264, 191), (115, 640, 290), (118, 642, 296), (121, 263, 189), (144, 645, 305)], [], [(18, 705, 130)], [], [], [], [], [], [], []]
def aMl : List (List (Nat × Nat × Nat)) := [[(139, 97, 1851), (146, 10, 1468), (150, 4, 1442), (172, 17, 1496), (189, 9, 1462), (193, 6, 1449), (197, 7, 1454), (200, 8, 1458), (218, 16, 1492), (222, 15, 1488), (225, 18, 1499), (231, 19, 1504), (235, 14, 1484), (244, 20, 1532), (251, 13, 1480), (254, 21, 1536), (258, 33, 1584), (262, 31, 1576), (265, 32, 1580), (271, 26, 1557), (279, 27, 1560), (282, 28, 1564), (285, 29, 1568), (288, 30, 1572), (292, 23, 1544), (297, 24, 1549), (300, 25, 1553), (307, 36, 1596), (311, 44, 1629), (314, 42, 1621), (317, 41, 1617), (324, 39, 1609), (327, 40, 1613), (330, 43, 1625), (334, 46, 1637), (337, 47, 1642), (340, 49, 1650), (343, 51, 1658), (346, 53, 1666), (354, 55, 1674), (357, 56, 1679), (360, 58, 1687), (365, 60, 1696), (373, 63, 1709), (376, 64, 1713), (379, 67, 1725), (383, 122, 1729), (389, 70, 1738), (393, 69, 1734), (399, 75, 1758), (403, 78, 1771), (409, 77, 1767), (412, 80, 1779), (416, 84, 1796), (420, 83, 1792), (428, 82, 1788), (432, 89, 1815), (435, 88, 1811), (438, 121, 1819), (444, 94, 1837), (452, 101, 1865), (455, 100, 1862), (463, 103, 1872)], [(25, 239, 158), (39, 265, 230), (69, 253, 322), (78, 249, 381), (115, 285, 509), (119, 286, 517), (123, 154, 525), (127, 155, 537), (130, 289, 553), (137, 290, 561), (141, 229, 567), (148, 269, 578), (152, 242, 809), (161, 260, 871), (169, 161, 830), (179, 255, 920), (182, 258, 1234), (186, 159, 713), (189, 282, 718), (192, 287, 529), (195, 240, 541), (199, 281, 542), (202, 250, 549), (219, 283, 726), (223, 254, 731), (227, 251, 781), (230, 292, 787), (233, 293, 791), (237, 122, 795), (243, 163, 805), (247, 164, 810), (250, 166, 818), (253, 168, 826), (257, 170, 835), (260, 172, 843), (263, 174, 851), (266, 288, 847), (270, 173, 848), (277, 252, 863), (288, 244, 855), (301, 180, 887), (304, 261, 890), (307, 262, 895), (311, 294, 903), (320, 184, 916), (323, 256, 924), (326, 243, 943), (330, 189, 944), (334, 185, 921), (338, 295, 925), (345, 263, 952), (348, 264, 956), (351, 192, 965), (354, 237, 999), (358, 195, 1019), (362, 232, 969), (365, 233, 975), (368, 259, 979), (371, 234, 980), (375, 196, 1022), (382, 246, 1029), (386, 247, 1037), (389, 248, 1045), (392, 200, 1050), (395, 121, 1061), (399, 204, 1071), (402, 201, 1054), (405, 202, 1057), (417, 208, 1087), (421, 209, 1091), (425, 241, 1095), (428, 120, 1100), (431, 125, 1105), (439, 212, 1109), (443, 213, 1113), (447, 216, 1124), (450, 219, 1134), (453, 220, 1138), (459, 217, 1127), (466, 230, 1153), (468, 224, 1154)], [(33, 287, 573)], [(40, 287, 974), (44, 235, 984), (47, 292, 989), (52, 236, 990), (56, 293, 994), (70, 238, 1003), (74, 243, 1007), (78, 123, 1008)], [(21, 240, 162), (59, 242, 758)], [], [(22, 283, 785)], [(50, 230, 739), (59, 255, 735), (67, 256, 743), (71, 259, 770), (104, 257, 750), (108, 241, 754), (112, 258, 762), (124, 267, 766), (130, 243, 774), (156, 263, 960)], [(21, 266, 236)], [(29, 266, 583), (33, 270, 584), (42, 288, 589), (46, 271, 590), (57, 277, 697), (70, 272, 594), (74, 274, 602), (77, 276, 693), (80, 273, 598), (83, 275, 606), (97, 279, 705), (101, 278, 701)], [(38, 124, 546)], [(19, 288, 533)], [(23, 293, 930)], [(7, 225, 1162), (15, 226, 1230), (18, 227, 1238), (22, 150, 116), (25, 0, 1244), (26, 151, 505), (30, 2, 1434), (31, 152, 513), (35, 3, 1438), (36, 153, 521), (40, 5, 1445), (41, 156, 557), (44, 11, 1472), (45, 157, 574), (48, 12, 1476), (49, 141, 1158), (54, 22, 1540), (55, 1, 1430), (58, 142, 1227), (60, 34, 1587), (61, 158, 709), (65, 35, 1591), (66, 160, 722), (69, 38, 1604), (70, 162, 801), (73, 45, 1633), (74, 165, 814), (77, 48, 1646), (78, 167, 822), (81, 50, 1654), (82, 169, 831), (85, 52, 1662), (86, 171, 839), (89, 54, 1670), (90, 175, 859), (93, 37, 1600), (94, 176, 867), (97, 57, 1683), (98, 177, 875), (101, 59, 1691), (102, 178, 879), (105, 61, 1700), (106, 179, 883), (109, 62, 1705), (110, 181, 899), (113, 65, 1717), (114, 182, 907), (117, 66, 1721), (118, 183, 912), (121, 68, 1730), (122, 186, 931), (125, 71, 1742), (126, 187, 935), (129, 72, 1746), (130, 188, 939), (133, 73, 1750), (134, 190, 948), (137, 74, 1754), (138, 191, 961), (141, 76, 1762), (142, 193, 995), (145, 79, 1775), (146, 194, 1015), (149, 81, 1784), (150, 197, 1025), (154, 85, 1799), (155, 198, 1033), (158, 86, 1803), (159, 199, 1041), (162, 87, 1807), (163, 203, 1067), (166, 90, 1820), (167, 205, 1075), (170, 91, 1824), (171, 206, 1079), (174, 92, 1829), (175, 207, 1083), (178, 93, 1833), (179, 210, 1096), (182, 95, 1841), (183, 211, 1101), (186, 96, 1845), (187, 214, 1116), (190, 98, 1854), (191, 215, 1120), (194, 99, 1858), (195, 218, 1130), (198, 102, 1868), (199, 221, 1141), (202, 104, 1877), (203, 222, 1145), (206, 105, 1881), (207, 223, 1149), (210, 106, 1885), (211, 143, 1235), (214, 107, 1889)], [], [(311, 120, 1011)], []]
def aMn : List (List (Nat × Nat × Nat)) := [[], [(9, 284, 124), (18, 291, 142), (32, 228, 217), (49, 268, 257), (56, 280, 285), (89, 245, 401), (99, 231, 424)], [], [(60, 161, 988)], [], [], [(17, 280, 387)], [(89, 161, 747)], [], [], [], [], [(19, 161, 929)], [], [], [], []]
def aPl : List (List (Nat × Nat × Nat)) := [[(3, 0, 1247), (163, 5, 1453), (180, 2, 1508), (185, 3, 1509), (304, 6, 1595)], [(1, 0, 119), (211, 5, 716), (216, 6, 717)], [(3, 0, 220), (24, 5, 571), (30, 6, 572)], [(3, 0, 427), (28, 5, 973)], [(3, 0, 161), (25, 5, 166), (31, 6, 169)], [(3, 0, 404), (25, 6, 1049)], [(3, 0, 384), (29, 5, 786)], [(3, 0, 325), (136, 6, 779), (141, 5, 780), (147, 1, 894)], [(3, 0, 233), (25, 5, 240), (31, 6, 241), (38, 1, 242)], [(3, 0, 260), (36, 5, 588), (88, 4, 611), (94, 6, 704)], [(3, 0, 288), (15, 1, 730)], [(3, 0, 127), (23, 5, 565), (29, 6, 566)], [(3, 0, 145)], [], [], [], []]
def aCl : List (List (Nat × Nat × Nat)) := [[], [(7, 11, 122), (16, 12, 140), (23, 4, 156), (30, 2, 215), (37, 8, 228), (47, 9, 255), (54, 10, 283), (67, 7, 320), (76, 6, 379), (87, 5, 399), (97, 3, 422)], [], [], [], [], [(9, 10, 385)], [], [], [], [], [], [], [(8, 1, 114), (23, 0, 1242)], [], [], []]
def aKi : List (List (Nat × Int × Nat)) := [[(415, (1000000), 1783), (462, (1103515245), 1876)], [(462, (1103515245), 1137)], [], [], [], [], [], [], [], [], [], [], [], [], [(264, (65536), 1014), (265, (1431655765), 1064), (266, (858993459), 1065), (267, (252645135), 1066)], [], []]
def aKl : List (List (Nat × Nat × Nat)) := [[(176, 64, 1466), (178, 73, 1467), (295, 19, 1548), (320, 25, 1641), (322, 76, 1608), (363, 115, 1695), (368, 15, 1704), (407, 36, 1766), (442, 18, 1828), (448, 28, 1849), (450, 26, 1850)], [(315, 15, 911), (437, 26, 1108)], [], [], [(48, 15, 172)], [], [], [(134, 15, 778)], [], [], [], [], [], [], [], [(314, 6148914691236517221, 798), (316, 3689348814741910339, 799), (318, 1085102592571150111, 800)], []]
def aKs : List (List (Nat × Nat × Nat)) := [[(229, 3, 1503), (238, 4, 1529), (240, 5, 1530), (242, 6, 1531), (352, 7, 1678)], [], [], [], [], [], [], [], [], [(86, 2, 610)], [], [], [], [], [], [], []]
-- static links of IF_NONE: [('RiverThinksAgain$Rule', 18, 'RiverThinksAgain$Rule', 'IF_NONE', '[I', 234, None), ('RiverThinksAgain$RuleReader', 24, 'RiverThinksAgain$Rule', 'IF_NONE', '[I', 582, 'RiverThinksAgain')]
def aSl : List (Nat × Nat × Nat × Bool) := [(8, 18, 234, false), (9, 24, 582, true)]
def aTx : List (String × Nat × Nat × String) := [("RiverThinksAgain$RuleReader", 86, 610, "hswftrc"), ("RiverThinksAgainModel", 229, 1503, "hswftrc"), ("RiverThinksAgainModel", 238, 1529, "<>="), ("RiverThinksAgainModel", 240, 1530, "+-"), ("RiverThinksAgainModel", 242, 1531, "*/"), ("RiverThinksAgainModel", 352, 1678, "nschw")]
/-- owner, name, code, locals, answer, kind (0 by a receiver, 1 static, 2 a constructor), class of the receiver, values taken, rank, places of the words: code, static or instanceMethod, selects, initialized -/
abbrev aMx : Type := Nat × MethodName × ByteArray × Nat × Option FieldType × Nat × Nat × Nat × Nat × Nat × Nat × Nat × Nat
def aM00 : aMx := (0, ⟨"", "", ""⟩, ⟨#[]⟩, 0, none, 9, 999, 0, 0, 0, 0, 0, 0)
def aMc0 : List aMx := [(0, ⟨"RiverThinksAgainModel", "<init>", "()V"⟩, prog_14_method_1_code, 1, none, 2, 0, 1, 0, 1246, 1245, 0, 100),
  (0, ⟨"RiverThinksAgainModel", "thrown", "()I"⟩, prog_14_method_2_code, 1, (some .int), 0, 0, 1, 0, 1433, 1431, 1432, 100),
  (0, ⟨"RiverThinksAgainModel", "sign", "(I)I"⟩, prog_14_method_15_code, 3, (some .int), 0, 0, 2, 0, 1437, 1435, 1436, 100),
  (0, ⟨"RiverThinksAgainModel", "end", "(I)Z"⟩, prog_14_method_16_code, 2, (some .boolean), 0, 0, 2, 1, 1441, 1439, 1440, 100),
  (0, ⟨"RiverThinksAgainModel", "in", "(JJJ)Z"⟩, prog_14_method_4_code, 6, (some .boolean), 1, 0, 3, 0, 1444, 1443, 0, 100),
  (0, ⟨"RiverThinksAgainModel", "land", "()I"⟩, prog_14_method_24_code, 5, (some .int), 0, 0, 1, 3, 1448, 1446, 1447, 100),
  (0, ⟨"RiverThinksAgainModel", "begins", "(I)I"⟩, prog_14_method_17_code, 3, (some .int), 0, 0, 2, 0, 1452, 1451, 32, 100),
  (0, ⟨"RiverThinksAgainModel", "digitIn", "(II)I"⟩, prog_14_method_22_code, 3, (some .int), 0, 0, 3, 1, 1457, 1456, 33, 100),
  (0, ⟨"RiverThinksAgainModel", "number", "(I)I"⟩, prog_14_method_21_code, 4, (some .int), 0, 0, 2, 2, 1461, 1460, 34, 100),
  (0, ⟨"RiverThinksAgainModel", "isDigit", "()Z"⟩, prog_14_method_19_code, 1, (some .boolean), 0, 0, 1, 1, 1465, 1464, 35, 100),
  (0, ⟨"RiverThinksAgainModel", "fields", "()I"⟩, prog_14_method_9_code, 1, (some .int), 0, 0, 1, 0, 1471, 1470, 36, 100),
  (0, ⟨"RiverThinksAgainModel", "force", "()I"⟩, prog_14_method_25_code, 3, (some .int), 0, 0, 1, 3, 1475, 1473, 1474, 100),
  (0, ⟨"RiverThinksAgainModel", "rule", "()I"⟩, prog_14_method_32_code, 2, (some .int), 0, 0, 1, 5, 1479, 1477, 1478, 100),
  (0, ⟨"RiverThinksAgainModel", "readsRule", "()I"⟩, prog_14_method_30_code, 3, (some .int), 0, 0, 1, 4, 1483, 1482, 37, 100),
  (0, ⟨"RiverThinksAgainModel", "readsRank", "(I)Z"⟩, prog_14_method_29_code, 4, (some .boolean), 0, 0, 2, 3, 1487, 1486, 38, 100),
  (0, ⟨"RiverThinksAgainModel", "readsThing", "()Z"⟩, prog_14_method_28_code, 2, (some .boolean), 0, 0, 1, 3, 1491, 1490, 39, 100),
  (0, ⟨"RiverThinksAgainModel", "takes", "(I)Z"⟩, prog_14_method_18_code, 3, (some .boolean), 0, 0, 2, 1, 1495, 1494, 40, 100),
  (0, ⟨"RiverThinksAgainModel", "flag", "(Z)I"⟩, prog_14_method_6_code, 1, (some .int), 1, 0, 1, 0, 1498, 1497, 0, 100),
  (0, ⟨"RiverThinksAgainModel", "codes", "(I)V"⟩, prog_14_method_27_code, 2, none, 0, 0, 2, 0, 1502, 1501, 41, 100),
  (0, ⟨"RiverThinksAgainModel", "takesOf", "(Ljava/lang/String;)I"⟩, prog_14_method_20_code, 3, (some .int), 0, 0, 2, 0, 1507, 1506, 42, 100),
  (0, ⟨"RiverThinksAgainModel", "faultOf", "(IIZ)I"⟩, prog_14_method_23_code, 5, (some .int), 0, 0, 4, 0, 1535, 1534, 43, 100),
  (0, ⟨"RiverThinksAgainModel", "laysCode", "([II)V"⟩, prog_14_method_31_code, 4, none, 0, 0, 3, 0, 1539, 1538, 44, 100),
  (0, ⟨"RiverThinksAgainModel", "field", "(II)I"⟩, prog_14_method_40_code, 3, (some .int), 0, 0, 3, 5, 1543, 1541, 1542, 100),
  (0, ⟨"RiverThinksAgainModel", "isField", "(I)Z"⟩, prog_14_method_10_code, 2, (some .boolean), 0, 0, 2, 1, 1547, 1546, 45, 100),
  (0, ⟨"RiverThinksAgainModel", "refuse", "()I"⟩, prog_14_method_3_code, 1, (some .int), 0, 0, 1, 0, 1552, 1551, 46, 100),
  (0, ⟨"RiverThinksAgainModel", "laysCourse", "([I)V"⟩, prog_14_method_37_code, 8, none, 0, 0, 2, 4, 1556, 1555, 47, 100),
  (0, ⟨"RiverThinksAgainModel", "hasWall", "([II)Z"⟩, prog_14_method_12_code, 2, (some .boolean), 1, 0, 2, 0, 1559, 1558, 0, 100),
  (0, ⟨"RiverThinksAgainModel", "goesTo", "(I)V"⟩, prog_14_method_36_code, 2, none, 0, 0, 2, 0, 1563, 1562, 48, 100),
  (0, ⟨"RiverThinksAgainModel", "isLast", "(I)Z"⟩, prog_14_method_11_code, 2, (some .boolean), 0, 0, 2, 1, 1567, 1566, 49, 100),
  (0, ⟨"RiverThinksAgainModel", "beside", "(II)I"⟩, prog_14_method_14_code, 5, (some .int), 0, 0, 3, 1, 1571, 1570, 50, 100),
  (0, ⟨"RiverThinksAgainModel", "dislike", "([III)I"⟩, prog_14_method_35_code, 4, (some .int), 0, 0, 4, 3, 1575, 1574, 51, 100),
  (0, ⟨"RiverThinksAgainModel", "forceOn", "(I)I"⟩, prog_14_method_26_code, 2, (some .int), 0, 0, 2, 0, 1579, 1578, 52, 100)]
def aMc1 : List aMx := [(0, ⟨"RiverThinksAgainModel", "ruled", "()I"⟩, prog_14_method_34_code, 4, (some .int), 0, 0, 1, 2, 1583, 1582, 53, 100),
  (0, ⟨"RiverThinksAgainModel", "worked", "(III)I"⟩, prog_14_method_33_code, 3, (some .int), 1, 0, 3, 1, 1586, 1585, 0, 100),
  (0, ⟨"RiverThinksAgainModel", "dislikes", "(II)I"⟩, prog_14_method_41_code, 3, (some .int), 0, 0, 3, 4, 1590, 1588, 1589, 100),
  (0, ⟨"RiverThinksAgainModel", "sheet", "(IIII)I"⟩, prog_14_method_42_code, 8, (some .int), 0, 0, 5, 2, 1594, 1592, 1593, 100),
  (0, ⟨"RiverThinksAgainModel", "sumOf", "([II)I"⟩, prog_14_method_13_code, 5, (some .int), 0, 0, 3, 1, 1599, 1598, 54, 100),
  (0, ⟨"RiverThinksAgainModel", "undo", "()I"⟩, prog_14_method_46_code, 2, (some .int), 0, 0, 1, 0, 1603, 1601, 1602, 100),
  (0, ⟨"RiverThinksAgainModel", "tides", "(I)I"⟩, prog_14_method_54_code, 3, (some .int), 0, 0, 2, 7, 1607, 1605, 1606, 100),
  (0, ⟨"RiverThinksAgainModel", "putsBy", "()V"⟩, prog_14_method_43_code, 2, none, 0, 0, 1, 0, 1612, 1611, 55, 100),
  (0, ⟨"RiverThinksAgainModel", "tidesGo", "([II)I"⟩, prog_14_method_49_code, 5, (some .int), 0, 0, 3, 6, 1616, 1615, 56, 100),
  (0, ⟨"RiverThinksAgainModel", "tideGoes", "([I)V"⟩, prog_14_method_48_code, 4, none, 0, 0, 2, 5, 1620, 1619, 57, 100),
  (0, ⟨"RiverThinksAgainModel", "isBesideCourse", "(I)Z"⟩, prog_14_method_47_code, 5, (some .boolean), 0, 0, 2, 2, 1624, 1623, 58, 100),
  (0, ⟨"RiverThinksAgainModel", "enters", "(J)V"⟩, prog_14_method_8_code, 3, none, 0, 0, 2, 0, 1628, 1627, 59, 100),
  (0, ⟨"RiverThinksAgainModel", "adds", "(I)I"⟩, prog_14_method_44_code, 3, (some .int), 0, 0, 2, 0, 1632, 1631, 60, 100),
  (0, ⟨"RiverThinksAgainModel", "cut", "(II)I"⟩, prog_14_method_55_code, 3, (some .int), 0, 0, 3, 3, 1636, 1634, 1635, 100),
  (0, ⟨"RiverThinksAgainModel", "cuts", "([III)I"⟩, prog_14_method_50_code, 4, (some .int), 0, 0, 4, 2, 1640, 1639, 61, 100),
  (0, ⟨"RiverThinksAgainModel", "counted", "(I)I"⟩, prog_14_method_45_code, 2, (some .int), 0, 0, 2, 1, 1645, 1644, 62, 100),
  (0, ⟨"RiverThinksAgainModel", "heap", "(II)I"⟩, prog_14_method_56_code, 3, (some .int), 0, 0, 3, 3, 1649, 1647, 1648, 100),
  (0, ⟨"RiverThinksAgainModel", "heaps", "(II)I"⟩, prog_14_method_51_code, 3, (some .int), 0, 0, 3, 2, 1653, 1652, 63, 100),
  (0, ⟨"RiverThinksAgainModel", "wall", "(I)I"⟩, prog_14_method_57_code, 2, (some .int), 0, 0, 2, 3, 1657, 1655, 1656, 100),
  (0, ⟨"RiverThinksAgainModel", "walls", "([II)I"⟩, prog_14_method_52_code, 3, (some .int), 0, 0, 3, 2, 1661, 1660, 64, 100),
  (0, ⟨"RiverThinksAgainModel", "source", "(I)I"⟩, prog_14_method_58_code, 2, (some .int), 0, 0, 2, 2, 1665, 1663, 1664, 100),
  (0, ⟨"RiverThinksAgainModel", "moves", "(I)I"⟩, prog_14_method_53_code, 3, (some .int), 0, 0, 2, 1, 1669, 1668, 65, 100),
  (0, ⟨"RiverThinksAgainModel", "year", "()I"⟩, prog_14_method_61_code, 5, (some .int), 0, 0, 1, 8, 1673, 1671, 1672, 100),
  (0, ⟨"RiverThinksAgainModel", "readsAct", "()Z"⟩, prog_14_method_59_code, 2, (some .boolean), 0, 0, 1, 3, 1677, 1676, 66, 100),
  (0, ⟨"RiverThinksAgainModel", "does", "(I)Z"⟩, prog_14_method_60_code, 4, (some .boolean), 0, 0, 2, 7, 1682, 1681, 67, 100),
  (0, ⟨"RiverThinksAgainModel", "course", "()I"⟩, prog_14_method_63_code, 2, (some .int), 0, 0, 1, 5, 1686, 1684, 1685, 100),
  (0, ⟨"RiverThinksAgainModel", "mouth", "()I"⟩, prog_14_method_38_code, 1, (some .int), 0, 0, 1, 0, 1690, 1689, 68, 100),
  (0, ⟨"RiverThinksAgainModel", "ahead", "(I)I"⟩, prog_14_method_64_code, 2, (some .int), 0, 0, 2, 7, 1694, 1692, 1693, 100),
  (0, ⟨"RiverThinksAgainModel", "copies", "()V"⟩, prog_14_method_62_code, 2, none, 0, 0, 1, 0, 1699, 1698, 69, 100),
  (0, ⟨"RiverThinksAgainModel", "sits", "()I"⟩, prog_14_method_65_code, 2, (some .int), 0, 0, 1, 6, 1703, 1701, 1702, 100),
  (0, ⟨"RiverThinksAgainModel", "alters", "(I)I"⟩, prog_14_method_68_code, 3, (some .int), 0, 0, 2, 6, 1708, 1706, 1707, 100),
  (0, ⟨"RiverThinksAgainModel", "putsCourse", "()V"⟩, prog_14_method_66_code, 2, none, 0, 0, 1, 0, 1712, 1711, 70, 100)]
def aMc2 : List aMx := [(0, ⟨"RiverThinksAgainModel", "isAsPut", "()Z"⟩, prog_14_method_67_code, 3, (some .boolean), 0, 0, 1, 0, 1716, 1715, 71, 100),
  (0, ⟨"RiverThinksAgainModel", "mouths", "(I)I"⟩, prog_14_method_69_code, 5, (some .int), 0, 0, 2, 6, 1720, 1718, 1719, 100),
  (0, ⟨"RiverThinksAgainModel", "dry", "(I)J"⟩, prog_14_method_70_code, 8, (some .long), 0, 0, 2, 6, 1724, 1722, 1723, 100),
  (0, ⟨"RiverThinksAgainModel", "courseBits", "()J"⟩, prog_14_method_39_code, 4, (some .long), 0, 0, 1, 1, 1728, 1727, 72, 100),
  (0, ⟨"RiverThinksAgainModel", "sends", "(I)I"⟩, prog_14_method_73_code, 2, (some .int), 0, 0, 2, 7, 1733, 1731, 1732, 100),
  (0, ⟨"RiverThinksAgainModel", "fewestWalls", "(I)I"⟩, prog_14_method_72_code, 4, (some .int), 0, 0, 2, 6, 1737, 1736, 73, 100),
  (0, ⟨"RiverThinksAgainModel", "putsWalls", "(IIII)Z"⟩, prog_14_method_71_code, 6, (some .boolean), 0, 0, 5, 5, 1741, 1740, 74, 100),
  (0, ⟨"RiverThinksAgainModel", "stops", "()I"⟩, prog_14_method_74_code, 1, (some .int), 0, 0, 1, 7, 1745, 1743, 1744, 100),
  (0, ⟨"RiverThinksAgainModel", "longest", "()I"⟩, prog_14_method_75_code, 4, (some .int), 0, 0, 1, 5, 1749, 1747, 1748, 100),
  (0, ⟨"RiverThinksAgainModel", "least", "()I"⟩, prog_14_method_76_code, 3, (some .int), 0, 0, 1, 5, 1753, 1751, 1752, 100),
  (0, ⟨"RiverThinksAgainModel", "draught", "()I"⟩, prog_14_method_78_code, 2, (some .int), 0, 0, 1, 5, 1757, 1755, 1756, 100),
  (0, ⟨"RiverThinksAgainModel", "draughtOn", "([I)I"⟩, prog_14_method_77_code, 3, (some .int), 0, 0, 2, 0, 1761, 1760, 75, 100),
  (0, ⟨"RiverThinksAgainModel", "timetable", "(I)I"⟩, prog_14_method_81_code, 10, (some .int), 0, 0, 2, 6, 1765, 1763, 1764, 100),
  (0, ⟨"RiverThinksAgainModel", "matched", "(III)I"⟩, prog_14_method_80_code, 7, (some .int), 0, 0, 4, 1, 1770, 1769, 76, 100),
  (0, ⟨"RiverThinksAgainModel", "finds", "(II)Z"⟩, prog_14_method_79_code, 4, (some .boolean), 0, 0, 3, 0, 1774, 1773, 77, 100),
  (0, ⟨"RiverThinksAgainModel", "way", "(I)I"⟩, prog_14_method_82_code, 8, (some .int), 0, 0, 2, 2, 1778, 1776, 1777, 100),
  (0, ⟨"RiverThinksAgainModel", "isDeep", "(II)Z"⟩, prog_14_method_83_code, 3, (some .boolean), 0, 0, 3, 1, 1782, 1781, 78, 100),
  (0, ⟨"RiverThinksAgainModel", "arms", "()I"⟩, prog_14_method_86_code, 2, (some .int), 0, 0, 1, 4, 1787, 1785, 1786, 100),
  (0, ⟨"RiverThinksAgainModel", "takesAway", "(IIJ)V"⟩, prog_14_method_85_code, 6, none, 0, 0, 4, 3, 1791, 1790, 79, 100),
  (0, ⟨"RiverThinksAgainModel", "comes", "(J)Z"⟩, prog_14_method_84_code, 8, (some .boolean), 0, 0, 2, 2, 1795, 1794, 80, 100),
  (0, ⟨"RiverThinksAgainModel", "has", "(JI)Z"⟩, prog_14_method_5_code, 3, (some .boolean), 1, 0, 2, 0, 1798, 1797, 0, 100),
  (0, ⟨"RiverThinksAgainModel", "seen", "(III)I"⟩, prog_14_method_87_code, 4, (some .int), 0, 0, 4, 2, 1802, 1800, 1801, 100),
  (0, ⟨"RiverThinksAgainModel", "forget", "()I"⟩, prog_14_method_88_code, 2, (some .int), 0, 0, 1, 0, 1806, 1804, 1805, 100),
  (0, ⟨"RiverThinksAgainModel", "fits", "()I"⟩, prog_14_method_91_code, 2, (some .int), 0, 0, 1, 8, 1810, 1808, 1809, 100),
  (0, ⟨"RiverThinksAgainModel", "fitting", "()I"⟩, prog_14_method_90_code, 3, (some .int), 0, 0, 1, 7, 1814, 1813, 81, 100),
  (0, ⟨"RiverThinksAgainModel", "isAsSeen", "(I)Z"⟩, prog_14_method_89_code, 5, (some .boolean), 0, 0, 2, 6, 1818, 1817, 82, 100),
  (0, ⟨"RiverThinksAgainModel", "reed", "(I)I"⟩, prog_14_method_92_code, 8, (some .int), 0, 0, 2, 8, 1823, 1821, 1822, 100),
  (0, ⟨"RiverThinksAgainModel", "marked", "(II)I"⟩, prog_14_method_93_code, 3, (some .int), 0, 0, 3, 2, 1827, 1825, 1826, 100),
  (0, ⟨"RiverThinksAgainModel", "wiped", "()I"⟩, prog_14_method_94_code, 2, (some .int), 0, 0, 1, 0, 1832, 1830, 1831, 100),
  (0, ⟨"RiverThinksAgainModel", "laws", "()I"⟩, prog_14_method_96_code, 5, (some .int), 0, 0, 1, 3, 1836, 1834, 1835, 100),
  (0, ⟨"RiverThinksAgainModel", "goesBy", "(IIII)I"⟩, prog_14_method_95_code, 10, (some .int), 0, 0, 5, 2, 1840, 1839, 83, 100),
  (0, ⟨"RiverThinksAgainModel", "bar", "(II)I"⟩, prog_14_method_97_code, 7, (some .int), 0, 0, 3, 1, 1844, 1842, 1843, 100)]
def aMc3 : List aMx := [(0, ⟨"RiverThinksAgainModel", "open", "(III)I"⟩, prog_14_method_98_code, 14, (some .int), 0, 0, 4, 1, 1848, 1846, 1847, 100),
  (0, ⟨"RiverThinksAgainModel", "common", "(JJ)J"⟩, prog_14_method_7_code, 4, (some .long), 1, 0, 2, 0, 1853, 1852, 0, 100),
  (0, ⟨"RiverThinksAgainModel", "law", "()I"⟩, prog_14_method_99_code, 5, (some .int), 0, 0, 1, 5, 1857, 1855, 1856, 100),
  (0, ⟨"RiverThinksAgainModel", "rests", "(I)I"⟩, prog_14_method_102_code, 5, (some .int), 0, 0, 2, 3, 1861, 1859, 1860, 100),
  (0, ⟨"RiverThinksAgainModel", "isRest", "(III)Z"⟩, prog_14_method_101_code, 5, (some .boolean), 1, 0, 3, 2, 1864, 1863, 0, 100),
  (0, ⟨"RiverThinksAgainModel", "gets", "(III)I"⟩, prog_14_method_100_code, 3, (some .int), 1, 0, 3, 1, 1867, 1866, 0, 100),
  (0, ⟨"RiverThinksAgainModel", "years", "(II)I"⟩, prog_14_method_104_code, 7, (some .int), 0, 0, 3, 7, 1871, 1869, 1870, 100),
  (0, ⟨"RiverThinksAgainModel", "draws", "(I)I"⟩, prog_14_method_103_code, 2, (some .int), 0, 0, 2, 0, 1875, 1874, 84, 100),
  (0, ⟨"RiverThinksAgainModel", "keep", "(I)Z"⟩, prog_14_method_105_code, 3, (some .boolean), 0, 0, 2, 1, 1880, 1878, 1879, 100),
  (0, ⟨"RiverThinksAgainModel", "again", "(I)Z"⟩, prog_14_method_106_code, 3, (some .boolean), 0, 0, 2, 1, 1884, 1882, 1883, 100),
  (0, ⟨"RiverThinksAgainModel", "count", "(I)I"⟩, prog_14_method_107_code, 2, (some .int), 0, 0, 2, 2, 1888, 1886, 1887, 100),
  (0, ⟨"RiverThinksAgainModel", "row", "(I)J"⟩, prog_14_method_108_code, 2, (some .long), 0, 0, 2, 1, 1892, 1890, 1891, 100),
  aM00,
  aM00,
  aM00,
  aM00,
  aM00,
  aM00,
  aM00,
  aM00,
  aM00,
  aM00,
  aM00,
  aM00,
  (14, ⟨"java/lang/Integer", "numberOfTrailingZeros", "(I)I"⟩, prog_20_method_48_code, 2, (some .int), 1, 999, 1, 0, 1013, 1012, 0, 113),
  (14, ⟨"java/lang/Integer", "bitCount", "(I)I"⟩, prog_20_method_49_code, 1, (some .int), 1, 999, 1, 0, 1063, 1062, 0, 113),
  (15, ⟨"java/lang/Long", "bitCount", "(J)I"⟩, prog_21_method_50_code, 2, (some .int), 1, 999, 1, 0, 797, 796, 0, 112),
  (15, ⟨"java/lang/Long", "numberOfTrailingZeros", "(J)I"⟩, prog_21_method_49_code, 3, (some .int), 1, 999, 1, 1, 1010, 1009, 0, 112),
  (16, ⟨"java/util/Arrays", "fill", "([II)V"⟩, prog_32_method_103_code, 4, none, 1, 999, 2, 0, 548, 547, 0, 101),
  (16, ⟨"java/util/Arrays", "fill", "([JJ)V"⟩, prog_32_method_101_code, 5, none, 1, 999, 2, 0, 1107, 1106, 0, 101),
  aM00,
  aM00]
def aMc4 : List aMx := [aM00,
  aM00,
  aM00,
  aM00,
  aM00,
  aM00,
  aM00,
  aM00,
  aM00,
  aM00,
  aM00,
  aM00,
  (13, ⟨"RiverThinksAgainLaw", "law", "([I)Z"⟩, code, 8, (some .boolean), 1, 999, 1, 9, 0, 0, 0, 85),
  (13, ⟨"RiverThinksAgainLaw", "field", "(LRiverThinksAgain;II[J)I"⟩, method_3_code, 5, (some .int), 1, 999, 4, 6, 1160, 1159, 0, 85),
  (13, ⟨"RiverThinksAgainLaw", "dislikes", "(LRiverThinksAgain;II[J)I"⟩, method_4_code, 5, (some .int), 1, 999, 4, 3, 1229, 1228, 0, 85),
  (13, ⟨"RiverThinksAgainLaw", "row", "(LRiverThinksAgain;I[J)I"⟩, method_5_code, 4, (some .int), 1, 999, 3, 1, 1237, 1236, 0, 85),
  aM00,
  aM00,
  aM00,
  aM00,
  aM00,
  aM00,
  (1, ⟨"RiverThinksAgain", "<init>", "()V"⟩, prog_1_method_1_code, 2, none, 2, 1, 1, 2, 118, 117, 0, 86),
  (1, ⟨"RiverThinksAgain", "sign", "(I)I"⟩, prog_1_method_2_code, 2, (some .int), 0, 1, 2, 1, 508, 506, 507, 86),
  (1, ⟨"RiverThinksAgain", "end", "(I)Z"⟩, prog_1_method_3_code, 2, (some .boolean), 0, 1, 2, 1, 516, 514, 515, 86),
  (1, ⟨"RiverThinksAgain", "land", "()I"⟩, prog_1_method_4_code, 2, (some .int), 0, 1, 1, 3, 524, 522, 523, 86),
  (1, ⟨"RiverThinksAgain", "wrongSignOfLand", "()I"⟩, prog_1_method_10_code, 3, (some .int), 0, 1, 1, 2, 528, 527, 0, 86),
  (1, ⟨"RiverThinksAgain", "takeLand", "()V"⟩, prog_1_method_11_code, 2, none, 0, 1, 1, 2, 540, 539, 1, 86),
  (1, ⟨"RiverThinksAgain", "force", "()I"⟩, prog_1_method_5_code, 3, (some .int), 0, 1, 1, 3, 560, 558, 559, 86),
  (1, ⟨"RiverThinksAgain", "rule", "()I"⟩, prog_1_method_6_code, 2, (some .int), 0, 1, 1, 5, 577, 575, 576, 86),
  (1, ⟨"RiverThinksAgain", "sheet", "(IIII)I"⟩, prog_1_method_9_code, 8, (some .int), 0, 1, 5, 1, 712, 710, 711, 86),
  (1, ⟨"RiverThinksAgain", "heightOf", "(II)I"⟩, prog_1_method_12_code, 3, (some .int), 1, 1, 2, 0, 715, 714, 0, 86)]
def aMc5 : List aMx := [(1, ⟨"RiverThinksAgain", "tides", "(I)I"⟩, prog_1_method_13_code, 3, (some .int), 0, 1, 2, 5, 725, 723, 724, 86),
  (1, ⟨"RiverThinksAgain", "bit", "(JI)I"⟩, prog_1_method_78_code, 3, (some .int), 1, 1, 2, 0, 749, 748, 0, 86),
  (1, ⟨"RiverThinksAgain", "cut", "(II)I"⟩, prog_1_method_14_code, 3, (some .int), 0, 1, 3, 3, 804, 802, 803, 86),
  (1, ⟨"RiverThinksAgain", "cutOff", "(LRiverThinksAgain$State;II)I"⟩, prog_1_method_21_code, 4, (some .int), 0, 1, 4, 1, 808, 807, 11, 86),
  (1, ⟨"RiverThinksAgain", "remembered", "(I)I"⟩, prog_1_method_20_code, 2, (some .int), 0, 1, 2, 2, 813, 812, 12, 86),
  (1, ⟨"RiverThinksAgain", "heap", "(II)I"⟩, prog_1_method_15_code, 3, (some .int), 0, 1, 3, 3, 817, 815, 816, 86),
  (1, ⟨"RiverThinksAgain", "heapOn", "(II)I"⟩, prog_1_method_22_code, 3, (some .int), 0, 1, 3, 1, 821, 820, 13, 86),
  (1, ⟨"RiverThinksAgain", "wall", "(I)I"⟩, prog_1_method_16_code, 2, (some .int), 0, 1, 2, 3, 825, 823, 824, 86),
  (1, ⟨"RiverThinksAgain", "turnWall", "(LRiverThinksAgain$State;I)I"⟩, prog_1_method_23_code, 3, (some .int), 0, 1, 3, 1, 829, 828, 14, 86),
  (1, ⟨"RiverThinksAgain", "source", "(I)I"⟩, prog_1_method_17_code, 2, (some .int), 0, 1, 2, 3, 834, 832, 833, 86),
  (1, ⟨"RiverThinksAgain", "moveSource", "(I)I"⟩, prog_1_method_24_code, 3, (some .int), 0, 1, 2, 0, 838, 837, 15, 86),
  (1, ⟨"RiverThinksAgain", "year", "()I"⟩, prog_1_method_18_code, 6, (some .int), 0, 1, 1, 6, 842, 840, 841, 86),
  (1, ⟨"RiverThinksAgain", "wrongSignOfYear", "()I"⟩, prog_1_method_25_code, 6, (some .int), 0, 1, 1, 2, 846, 845, 16, 86),
  (1, ⟨"RiverThinksAgain", "digitsOfAct", "(C)I"⟩, prog_1_method_26_code, 1, (some .int), 1, 1, 1, 0, 850, 849, 0, 86),
  (1, ⟨"RiverThinksAgain", "doAct", "(I)I"⟩, prog_1_method_27_code, 5, (some .int), 0, 1, 2, 5, 854, 853, 17, 86),
  (1, ⟨"RiverThinksAgain", "undo", "()I"⟩, prog_1_method_19_code, 1, (some .int), 0, 1, 1, 2, 862, 860, 861, 86),
  (1, ⟨"RiverThinksAgain", "course", "()I"⟩, prog_1_method_28_code, 2, (some .int), 0, 1, 1, 5, 870, 868, 869, 86),
  (1, ⟨"RiverThinksAgain", "ahead", "(I)I"⟩, prog_1_method_29_code, 2, (some .int), 0, 1, 2, 5, 878, 876, 877, 86),
  (1, ⟨"RiverThinksAgain", "sits", "()I"⟩, prog_1_method_30_code, 2, (some .int), 0, 1, 1, 5, 882, 880, 881, 86),
  (1, ⟨"RiverThinksAgain", "alters", "(I)I"⟩, prog_1_method_31_code, 3, (some .int), 0, 1, 2, 5, 886, 884, 885, 86),
  (1, ⟨"RiverThinksAgain", "isNotAhead", "(I)Z"⟩, prog_1_method_34_code, 1, (some .boolean), 1, 1, 1, 0, 889, 888, 0, 86),
  (1, ⟨"RiverThinksAgain", "mouths", "(I)I"⟩, prog_1_method_32_code, 4, (some .int), 0, 1, 2, 5, 902, 900, 901, 86),
  (1, ⟨"RiverThinksAgain", "dry", "(I)J"⟩, prog_1_method_33_code, 7, (some .long), 0, 1, 2, 5, 910, 908, 909, 86),
  (1, ⟨"RiverThinksAgain", "sends", "(I)I"⟩, prog_1_method_35_code, 2, (some .int), 0, 1, 2, 6, 915, 913, 914, 86),
  (1, ⟨"RiverThinksAgain", "fewestWalls", "(I)I"⟩, prog_1_method_39_code, 5, (some .int), 0, 1, 2, 5, 919, 918, 18, 86),
  (1, ⟨"RiverThinksAgain", "turningWalls", "(LRiverThinksAgain$River;IIJI)J"⟩, prog_1_method_40_code, 11, (some .long), 1, 1, 5, 4, 923, 922, 0, 86),
  (1, ⟨"RiverThinksAgain", "stops", "()I"⟩, prog_1_method_36_code, 1, (some .int), 0, 1, 1, 6, 934, 932, 933, 86),
  (1, ⟨"RiverThinksAgain", "longest", "()I"⟩, prog_1_method_37_code, 5, (some .int), 0, 1, 1, 5, 938, 936, 937, 86),
  (1, ⟨"RiverThinksAgain", "least", "()I"⟩, prog_1_method_38_code, 5, (some .int), 0, 1, 1, 6, 942, 940, 941, 86),
  (1, ⟨"RiverThinksAgain", "altersIfCut", "(II)Z"⟩, prog_1_method_41_code, 3, (some .boolean), 0, 1, 3, 5, 947, 946, 19, 86),
  (1, ⟨"RiverThinksAgain", "draught", "()I"⟩, prog_1_method_42_code, 1, (some .int), 0, 1, 1, 5, 951, 949, 950, 86),
  (1, ⟨"RiverThinksAgain", "timetable", "(I)I"⟩, prog_1_method_43_code, 3, (some .int), 0, 1, 2, 6, 964, 962, 963, 86)]
def aMc6 : List aMx := [(1, ⟨"RiverThinksAgain", "planShips", "(I)I"⟩, prog_1_method_46_code, 4, (some .int), 0, 1, 2, 5, 968, 967, 20, 86),
  (1, ⟨"RiverThinksAgain", "way", "(I)I"⟩, prog_1_method_44_code, 5, (some .int), 0, 1, 2, 4, 998, 996, 997, 86),
  (1, ⟨"RiverThinksAgain", "arms", "()I"⟩, prog_1_method_45_code, 5, (some .int), 0, 1, 1, 3, 1018, 1016, 1017, 86),
  (1, ⟨"RiverThinksAgain", "damsBelow", "(LRiverThinksAgain$Land;LRiverThinksAgain$State;IIJ)J"⟩, prog_1_method_47_code, 9, (some .long), 1, 1, 5, 2, 1021, 1020, 0, 86),
  (1, ⟨"RiverThinksAgain", "comesDown", "(LRiverThinksAgain$Land;IJ)Z"⟩, prog_1_method_48_code, 9, (some .boolean), 1, 1, 3, 1, 1024, 1023, 0, 86),
  (1, ⟨"RiverThinksAgain", "seen", "(III)I"⟩, prog_1_method_49_code, 4, (some .int), 0, 1, 4, 1, 1028, 1026, 1027, 86),
  (1, ⟨"RiverThinksAgain", "forget", "()I"⟩, prog_1_method_50_code, 1, (some .int), 0, 1, 1, 1, 1036, 1034, 1035, 86),
  (1, ⟨"RiverThinksAgain", "fits", "()I"⟩, prog_1_method_51_code, 2, (some .int), 0, 1, 1, 6, 1044, 1042, 1043, 86),
  (1, ⟨"RiverThinksAgain", "fittingColumns", "(I)I"⟩, prog_1_method_53_code, 5, (some .int), 0, 1, 2, 5, 1053, 1052, 24, 86),
  (1, ⟨"RiverThinksAgain", "placeOf", "(II)I"⟩, prog_1_method_54_code, 2, (some .int), 1, 1, 2, 0, 1056, 1055, 0, 86),
  (1, ⟨"RiverThinksAgain", "isAsSeen", "(I)Z"⟩, prog_1_method_55_code, 5, (some .boolean), 0, 1, 2, 1, 1060, 1059, 25, 86),
  (1, ⟨"RiverThinksAgain", "reed", "(I)I"⟩, prog_1_method_52_code, 7, (some .int), 0, 1, 2, 6, 1070, 1068, 1069, 86),
  (1, ⟨"RiverThinksAgain", "leftAtMost", "(III)I"⟩, prog_1_method_56_code, 6, (some .int), 0, 1, 4, 1, 1074, 1073, 26, 86),
  (1, ⟨"RiverThinksAgain", "marked", "(II)I"⟩, prog_1_method_57_code, 3, (some .int), 0, 1, 3, 1, 1078, 1076, 1077, 86),
  (1, ⟨"RiverThinksAgain", "wiped", "()I"⟩, prog_1_method_58_code, 1, (some .int), 0, 1, 1, 1, 1082, 1080, 1081, 86),
  (1, ⟨"RiverThinksAgain", "laws", "()I"⟩, prog_1_method_59_code, 5, (some .int), 0, 1, 1, 4, 1086, 1084, 1085, 86),
  (1, ⟨"RiverThinksAgain", "isAsMarked", "(III)Z"⟩, prog_1_method_60_code, 5, (some .boolean), 0, 1, 4, 3, 1090, 1089, 27, 86),
  (1, ⟨"RiverThinksAgain", "wayByLaw", "(IIII)I"⟩, prog_1_method_61_code, 10, (some .int), 0, 1, 5, 2, 1094, 1093, 28, 86),
  (1, ⟨"RiverThinksAgain", "bar", "(II)I"⟩, prog_1_method_62_code, 7, (some .int), 0, 1, 3, 1, 1099, 1097, 1098, 86),
  (1, ⟨"RiverThinksAgain", "open", "(III)I"⟩, prog_1_method_63_code, 12, (some .int), 0, 1, 4, 2, 1104, 1102, 1103, 86),
  (1, ⟨"RiverThinksAgain", "tellFraction", "(JJ)V"⟩, prog_1_method_65_code, 7, none, 0, 1, 3, 1, 1112, 1111, 29, 86),
  (1, ⟨"RiverThinksAgain", "commonDivisor", "(JJ)J"⟩, prog_1_method_66_code, 11, (some .long), 1, 1, 2, 0, 1115, 1114, 0, 86),
  (1, ⟨"RiverThinksAgain", "law", "()I"⟩, prog_1_method_64_code, 3, (some .int), 0, 1, 1, 5, 1119, 1117, 1118, 86),
  (1, ⟨"RiverThinksAgain", "rests", "(I)I"⟩, prog_1_method_67_code, 5, (some .int), 0, 1, 2, 2, 1123, 1121, 1122, 86),
  (1, ⟨"RiverThinksAgain", "isContent", "(III)Z"⟩, prog_1_method_69_code, 5, (some .boolean), 1, 1, 3, 1, 1126, 1125, 0, 86),
  (1, ⟨"RiverThinksAgain", "gain", "(III)I"⟩, prog_1_method_70_code, 4, (some .int), 1, 1, 3, 0, 1129, 1128, 0, 86),
  (1, ⟨"RiverThinksAgain", "years", "(II)I"⟩, prog_1_method_68_code, 8, (some .int), 0, 1, 3, 5, 1133, 1131, 1132, 86),
  (1, ⟨"RiverThinksAgain", "drawn", "(I)I"⟩, prog_1_method_71_code, 1, (some .int), 1, 1, 1, 0, 1136, 1135, 0, 86),
  (1, ⟨"RiverThinksAgain", "lot", "(II)I"⟩, prog_1_method_72_code, 2, (some .int), 1, 1, 2, 0, 1140, 1139, 0, 86),
  (1, ⟨"RiverThinksAgain", "keep", "(I)Z"⟩, prog_1_method_73_code, 2, (some .boolean), 0, 1, 2, 1, 1144, 1142, 1143, 86),
  (1, ⟨"RiverThinksAgain", "again", "(I)Z"⟩, prog_1_method_74_code, 2, (some .boolean), 0, 1, 2, 1, 1148, 1146, 1147, 86),
  (1, ⟨"RiverThinksAgain", "count", "(I)I"⟩, prog_1_method_75_code, 2, (some .int), 0, 1, 2, 1, 1152, 1150, 1151, 86)]
def aMc7 : List aMx := [(1, ⟨"RiverThinksAgain", "countOfNotes", "(I)I"⟩, prog_1_method_77_code, 2, (some .int), 0, 1, 2, 0, 1157, 1156, 30, 86),
  (1, ⟨"RiverThinksAgain", "field", "(II)I"⟩, prog_1_method_7_code, 3, (some .int), 0, 1, 3, 5, 1165, 1163, 1164, 86),
  (1, ⟨"RiverThinksAgain", "dislikes", "(II)I"⟩, prog_1_method_8_code, 3, (some .int), 0, 1, 3, 2, 1233, 1231, 1232, 86),
  (1, ⟨"RiverThinksAgain", "row", "(I)J"⟩, prog_1_method_76_code, 2, (some .long), 0, 1, 2, 0, 1241, 1239, 1240, 86),
  (2, ⟨"RiverThinksAgain$Forces", "<init>", "()V"⟩, prog_2_method_1_code, 1, none, 2, 2, 1, 0, 219, 218, 0, 91),
  (2, ⟨"RiverThinksAgain$Forces", "take", "(LRiverThinksAgain$Text;)V"⟩, prog_2_method_2_code, 3, none, 0, 2, 2, 2, 570, 568, 569, 91),
  (2, ⟨"RiverThinksAgain$Forces", "at", "(I)I"⟩, prog_2_method_3_code, 2, (some .int), 0, 2, 2, 0, 742, 740, 741, 91),
  (3, ⟨"RiverThinksAgain$Harbour", "<init>", "()V"⟩, prog_3_method_1_code, 1, none, 2, 3, 1, 0, 426, 425, 0, 99),
  (3, ⟨"RiverThinksAgain$Harbour", "welcome", "(LRiverThinksAgain$Text;)V"⟩, prog_3_method_2_code, 3, none, 0, 3, 2, 2, 972, 970, 971, 99),
  (3, ⟨"RiverThinksAgain$Harbour", "addTide", "(I)V"⟩, prog_3_method_3_code, 2, none, 0, 3, 2, 0, 978, 976, 977, 99),
  (3, ⟨"RiverThinksAgain$Harbour", "plan", "(LRiverThinksAgain$Told;)I"⟩, prog_3_method_4_code, 7, (some .int), 0, 3, 2, 3, 983, 981, 982, 99),
  (3, ⟨"RiverThinksAgain$Harbour", "mostShips", "(II)I"⟩, prog_3_method_6_code, 7, (some .int), 0, 3, 3, 1, 987, 986, 21, 99),
  (3, ⟨"RiverThinksAgain$Harbour", "leastTide", "(III)I"⟩, prog_3_method_5_code, 6, (some .int), 0, 3, 4, 2, 993, 992, 22, 99),
  (3, ⟨"RiverThinksAgain$Harbour", "shortestWay", "(LRiverThinksAgain$Land;JILRiverThinksAgain$Told;)I"⟩, prog_3_method_7_code, 9, (some .int), 0, 3, 5, 3, 1002, 1000, 1001, 99),
  (3, ⟨"RiverThinksAgain$Harbour", "tellWay", "(LRiverThinksAgain$Land;IILRiverThinksAgain$Told;)V"⟩, prog_3_method_8_code, 7, none, 0, 3, 5, 2, 1006, 1005, 23, 99),
  (4, ⟨"RiverThinksAgain$Land", "<init>", "()V"⟩, prog_4_method_1_code, 1, none, 2, 4, 1, 1, 160, 159, 0, 89),
  (4, ⟨"RiverThinksAgain$Land", "measure", "(II)V"⟩, prog_4_method_2_code, 4, none, 0, 4, 3, 0, 165, 163, 164, 89),
  (4, ⟨"RiverThinksAgain$Land", "neighbour", "(II)I"⟩, prog_4_method_5_code, 3, (some .int), 0, 4, 3, 1, 757, 755, 756, 89),
  (4, ⟨"RiverThinksAgain$Land", "holds", "(I)Z"⟩, prog_4_method_3_code, 2, (some .boolean), 0, 4, 2, 0, 761, 759, 760, 89),
  (4, ⟨"RiverThinksAgain$Land", "around", "(J)J"⟩, prog_4_method_6_code, 7, (some .long), 0, 4, 2, 0, 777, 775, 776, 89),
  (4, ⟨"RiverThinksAgain$Land", "fieldAt", "(II)I"⟩, prog_4_method_4_code, 3, (some .int), 0, 4, 3, 0, 858, 856, 857, 89),
  (5, ⟨"RiverThinksAgain$Noted", "<init>", "()V"⟩, prog_5_method_1_code, 1, none, 2, 5, 1, 0, 403, 402, 0, 98),
  (5, ⟨"RiverThinksAgain$Noted", "note", "(III)I"⟩, prog_5_method_2_code, 4, (some .int), 0, 5, 4, 0, 1032, 1030, 1031, 98),
  (5, ⟨"RiverThinksAgain$Noted", "wipe", "()I"⟩, prog_5_method_4_code, 2, (some .int), 0, 5, 1, 0, 1040, 1038, 1039, 98),
  (5, ⟨"RiverThinksAgain$Noted", "latest", "()I"⟩, prog_5_method_3_code, 3, (some .int), 0, 5, 1, 0, 1048, 1046, 1047, 98),
  (6, ⟨"RiverThinksAgain$Past", "<init>", "()V"⟩, prog_6_method_1_code, 2, none, 2, 6, 1, 1, 383, 382, 0, 97),
  (6, ⟨"RiverThinksAgain$Past", "forgetAll", "()V"⟩, prog_6_method_4_code, 1, none, 0, 6, 1, 0, 552, 550, 551, 97),
  (6, ⟨"RiverThinksAgain$Past", "push", "(LRiverThinksAgain$State;)V"⟩, prog_6_method_2_code, 2, none, 0, 6, 2, 1, 784, 782, 783, 97),
  (6, ⟨"RiverThinksAgain$Past", "pop", "(LRiverThinksAgain$State;)Z"⟩, prog_6_method_3_code, 2, (some .boolean), 0, 6, 2, 1, 866, 864, 865, 97),
  (7, ⟨"RiverThinksAgain$River", "<init>", "(LRiverThinksAgain$Land;LRiverThinksAgain$Forces;LRiverThinksAgain$State;LRiverThinksAgain$Rule;)V"⟩, prog_7_method_1_code, 5, none, 2, 7, 5, 0, 324, 323, 0, 96),
  (7, ⟨"RiverThinksAgain$River", "pass", "(LRiverThinksAgain$State;LRiverThinksAgain$Rule;I)I"⟩, prog_7_method_4_code, 6, (some .int), 0, 7, 4, 4, 734, 732, 733, 96),
  (7, ⟨"RiverThinksAgain$River", "look", "(LRiverThinksAgain$State;LRiverThinksAgain$Rule;)V"⟩, prog_7_method_2_code, 3, none, 0, 7, 3, 1, 738, 736, 737, 96)]
def aMc8 : List aMx := [(7, ⟨"RiverThinksAgain$River", "trace", "(J)V"⟩, prog_7_method_5_code, 6, none, 0, 7, 2, 3, 746, 744, 745, 96),
  (7, ⟨"RiverThinksAgain$River", "liked", "(IJ)I"⟩, prog_7_method_6_code, 9, (some .int), 0, 7, 3, 2, 753, 752, 10, 96),
  (7, ⟨"RiverThinksAgain$River", "dislike", "(II)I"⟩, prog_7_method_7_code, 4, (some .int), 0, 7, 3, 1, 765, 763, 764, 96),
  (7, ⟨"RiverThinksAgain$River", "settle", "()V"⟩, prog_7_method_8_code, 4, none, 0, 7, 1, 1, 773, 771, 772, 96),
  (7, ⟨"RiverThinksAgain$River", "flow", "(LRiverThinksAgain$State;LRiverThinksAgain$Rule;)V"⟩, prog_7_method_3_code, 3, none, 0, 7, 3, 4, 874, 872, 873, 96),
  (7, ⟨"RiverThinksAgain$River", "rememberPath", "()V"⟩, prog_7_method_9_code, 1, none, 0, 7, 1, 0, 893, 891, 892, 96),
  (7, ⟨"RiverThinksAgain$River", "isOnRememberedPath", "()Z"⟩, prog_7_method_10_code, 2, (some .boolean), 0, 7, 1, 0, 898, 896, 897, 96),
  (7, ⟨"RiverThinksAgain$River", "highest", "()I"⟩, prog_7_method_11_code, 3, (some .int), 0, 7, 1, 0, 955, 953, 954, 96),
  (7, ⟨"RiverThinksAgain$River", "deepestShip", "()I"⟩, prog_7_method_12_code, 2, (some .int), 0, 7, 1, 1, 959, 957, 958, 96),
  (8, ⟨"RiverThinksAgain$Rule", "<init>", "()V"⟩, prog_8_method_1_code, 1, none, 2, 8, 1, 1, 232, 231, 0, 92),
  (8, ⟨"RiverThinksAgain$Rule", "take", "([II)V"⟩, prog_8_method_2_code, 3, none, 0, 8, 3, 0, 239, 237, 238, 92),
  (8, ⟨"RiverThinksAgain$Rule", "reckon", "([I)I"⟩, prog_8_method_3_code, 7, (some .int), 0, 8, 2, 0, 769, 767, 768, 92),
  (9, ⟨"RiverThinksAgain$RuleReader", "<init>", "()V"⟩, prog_9_method_1_code, 1, none, 2, 9, 1, 0, 259, 258, 0, 94),
  (9, ⟨"RiverThinksAgain$RuleReader", "read", "(LRiverThinksAgain$Text;LRiverThinksAgain$Rule;)I"⟩, prog_9_method_2_code, 5, (some .int), 0, 9, 3, 4, 581, 579, 580, 94),
  (9, ⟨"RiverThinksAgain$RuleReader", "begin", "()V"⟩, prog_9_method_3_code, 1, none, 0, 9, 1, 0, 587, 586, 2, 94),
  (9, ⟨"RiverThinksAgain$RuleReader", "takes", "(C)Z"⟩, prog_9_method_4_code, 2, (some .boolean), 0, 9, 2, 3, 593, 592, 3, 94),
  (9, ⟨"RiverThinksAgain$RuleReader", "takesDigit", "(I)Z"⟩, prog_9_method_5_code, 2, (some .boolean), 0, 9, 2, 1, 597, 596, 4, 94),
  (9, ⟨"RiverThinksAgain$RuleReader", "put", "(I)V"⟩, prog_9_method_8_code, 2, none, 0, 9, 2, 0, 601, 600, 5, 94),
  (9, ⟨"RiverThinksAgain$RuleReader", "takesThing", "(C)Z"⟩, prog_9_method_6_code, 3, (some .boolean), 0, 9, 2, 1, 605, 604, 6, 94),
  (9, ⟨"RiverThinksAgain$RuleReader", "await", "(I)V"⟩, prog_9_method_9_code, 2, none, 0, 9, 2, 0, 609, 608, 7, 94),
  (9, ⟨"RiverThinksAgain$RuleReader", "takesJoin", "(C)Z"⟩, prog_9_method_7_code, 3, (some .boolean), 0, 9, 2, 2, 696, 695, 8, 94),
  (9, ⟨"RiverThinksAgain$RuleReader", "release", "(I)V"⟩, prog_9_method_10_code, 3, none, 0, 9, 2, 1, 700, 699, 9, 94),
  (9, ⟨"RiverThinksAgain$RuleReader", "bindingOf", "(I)I"⟩, prog_9_method_12_code, 1, (some .int), 1, 9, 1, 0, 703, 702, 0, 94),
  (9, ⟨"RiverThinksAgain$RuleReader", "joinOf", "(C)I"⟩, prog_9_method_11_code, 1, (some .int), 1, 9, 1, 0, 707, 706, 0, 94),
  (10, ⟨"RiverThinksAgain$State", "<init>", "()V"⟩, prog_10_method_1_code, 1, none, 2, 10, 1, 0, 287, 286, 0, 95),
  (10, ⟨"RiverThinksAgain$State", "clear", "()V"⟩, prog_10_method_3_code, 1, none, 0, 10, 1, 1, 545, 543, 544, 95),
  (10, ⟨"RiverThinksAgain$State", "sum", "()I"⟩, prog_10_method_4_code, 3, (some .int), 0, 10, 1, 0, 721, 719, 720, 95),
  (10, ⟨"RiverThinksAgain$State", "copy", "(LRiverThinksAgain$State;)V"⟩, prog_10_method_2_code, 2, none, 0, 10, 2, 0, 729, 727, 728, 95),
  (11, ⟨"RiverThinksAgain$Text", "<init>", "()V"⟩, prog_11_method_1_code, 1, none, 2, 11, 1, 0, 126, 125, 0, 87),
  (11, ⟨"RiverThinksAgain$Text", "append", "(I)I"⟩, prog_11_method_2_code, 3, (some .int), 0, 11, 2, 0, 512, 510, 511, 87),
  (11, ⟨"RiverThinksAgain$Text", "shorten", "(I)Z"⟩, prog_11_method_3_code, 2, (some .boolean), 0, 11, 2, 0, 520, 518, 519, 87),
  (11, ⟨"RiverThinksAgain$Text", "digit", "(I)I"⟩, prog_11_method_6_code, 3, (some .int), 0, 11, 2, 1, 532, 530, 531, 87)]
def aMc9 : List aMx := [(11, ⟨"RiverThinksAgain$Text", "at", "(I)C"⟩, prog_11_method_5_code, 2, (some .char), 0, 11, 2, 0, 536, 534, 535, 87),
  (11, ⟨"RiverThinksAgain$Text", "empty", "()V"⟩, prog_11_method_4_code, 1, none, 0, 11, 1, 0, 556, 554, 555, 87),
  (11, ⟨"RiverThinksAgain$Text", "wrongDigit", "(CI)I"⟩, prog_11_method_7_code, 5, (some .int), 0, 11, 3, 1, 564, 562, 563, 87),
  (12, ⟨"RiverThinksAgain$Told", "<init>", "()V"⟩, prog_12_method_1_code, 1, none, 2, 12, 1, 0, 144, 143, 0, 88),
  (12, ⟨"RiverThinksAgain$Told", "start", "()V"⟩, prog_12_method_2_code, 1, none, 0, 12, 1, 0, 790, 788, 789, 88),
  (12, ⟨"RiverThinksAgain$Told", "add", "(J)V"⟩, prog_12_method_3_code, 3, none, 0, 12, 2, 0, 794, 792, 793, 88),
  (12, ⟨"RiverThinksAgain$Told", "raise", "(I)V"⟩, prog_12_method_5_code, 2, none, 0, 12, 2, 0, 906, 904, 905, 88),
  (12, ⟨"RiverThinksAgain$Told", "addSet", "(J)V"⟩, prog_12_method_4_code, 4, none, 0, 12, 2, 1, 928, 926, 927, 88)]
def aMt : List (List aMx) := [aMc0, aMc1, aMc2, aMc3, aMc4, aMc5, aMc6, aMc7, aMc8, aMc9]
def aMe (k : Nat) : aMx := (aMt.getD (k / 32) []).getD (k % 32) aM00
def aLm0 : List (List Instr) := [[.aload 0, .invokedynamic 0, .aload 0, .iconst 40, .newarray .long, .putfield 194, .aload 0, .iconst 2, .putfield 3, .aload 0, .iconst 2, .putfield 4, .aload 0, .iconst 1, .putfield 6, .aload 0, .iconst 20, .newarray .int, .putfield 199, .aload 0, .iconst 111, .newarray .int, .putfield 200, .aload 0, .iconst 111, .newarray .int, .putfield 201, .aload 0, .iconst 80, .newarray .int, .putfield 202, .aload 0, .iconst 36, .newarray .int, .putfield 207, .aload 0, .iconst 80, .newarray .int, .putfield 208, .aload 0, .iconst 80, .newarray .int, .putfield 209, .aload 0, .iconst 80, .newarray .int, .putfield 212, .aload 0, .iconst 7, .newarray .int, .putfield 213, .aload 0, .iconst 36, .newarray .int, .putfield 214, .aload 0, .iconst 36, .newarray .boolean, .putfield 215, .aload 0, .iconst 1776, .newarray .int, .putfield 219, .aload 0, .iconst 60, .newarray .int, .putfield 220, .aload 0, .iconst 60, .newarray .int, .putfield 221, .aload 0, .iconst 60, .newarray .int, .putfield 222, .aload 0, .iconst 60, .newarray .int, .putfield 223, .aload 0, .iconst 36, .newarray .int, .putfield 225, .aload 0, .iconst 6, .newarray .int, .putfield 227, .aload 0, .iconst 3, .newarray .int, .putfield 228, .aload 0, .iconst 8, .newarray .int, .putfield 230, .aload 0, .iconst 20, .newarray .int, .putfield 231, .aload 0, .iconst 20, .newarray .int, .putfield 232, .aload 0, .iconst 20, .newarray .boolean, .putfield 233, .aload 0, .iconst 20, .newarray .boolean, .putfield 234, .aload 0, .iconst 36, .newarray .int, .putfield 235, .aload 0, .iconst 36, .newarray .int, .putfield 236, .aload 0, .iconst 10, .newarray .int, .putfield 239, .aload 0, .iconst 10, .newarray .int, .putfield 240, .aload 0, .iconst 10, .newarray .int, .putfield 241, .aload 0, .iconst 6, .newarray .long, .putfield 242, .aload 0, .iconst 10, .newarray .int, .putfield 244, .aload 0, .iconst 10, .newarray .int, .putfield 245, .aload 0, .iconst 610, .newarray .int, .putfield 246, .aload 0, .iconst 80, .newarray .int, .putfield 247, .aload 0, .iconst 3, .newarray .boolean, .putfield 249, .aload 0, .iconst 3, .newarray .int, .putfield 250, .aload 0, .iconst 333, .newarray .int, .putfield 251, .return_]]
def aLm1 : List (List Instr) := [[.aload 0, .getfield 0, .ireturn]]
def aLm2 : List (List Instr) := [[.aload 0, .iconst 0, .putfield 0, .aload 0, .getfield 11, .iconst 76, .if_icmp .le 129, .iconst (-1), .ireturn],
  [.iconst 0, .istore 2, .jsr 130],
  [.iload 2, .iconst 4, .if_icmp .ge 131, .aload 0, .getfield 10, .aload 0, .getfield 11, .iload 2, .iadd, .iload 1, .iconst 24, .iconst 8, .iload 2, .imul, .isub, .ishr, .iconst 255, .iand, .iastore, .iinc 2 (1), .goto 130],
  [.aload 0, .dup, .getfield 11, .iconst 4, .iadd, .putfield 11, .aload 0, .getfield 11, .ireturn]]
def aLm3 : List (List Instr) := [[.aload 0, .iconst 0, .putfield 0, .iload 1, .i2l, .ldc2_w 16, .aload 0, .getfield 11, .i2l, .invokestatic 4, .ifCond .ne 193, .iconst 0, .freturn],
  [.aload 0, .iload 1, .putfield 11, .iconst 1, .freturn]]
def aLm4 : List (List Instr) := [[.lload 0, .lload 2, .lcmp, .ifCond .lt 257, .lload 0, .lload 4, .lcmp, .ifCond .gt 257, .iconst 1, .goto 258],
  [.iconst 0, .jsr 258],
  [.freturn]]
def aLm5 : List (List Instr) := [[.aload 0, .iconst 0, .putfield 0, .aload 0, .iconst 80, .invokestatic 6, .pop, .aload 0, .iconst 2, .iconst 6, .invokestatic 7, .istore 1, .iload 1, .ifCond .ge 321, .iconst (-1), .goto 322],
  [.aload 0, .iconst 2, .iconst 6, .invokestatic 7, .jsr 322],
  [.istore 2, .iload 2, .ifCond .le 323, .iconst 1, .goto 324],
  [.iconst 0, .jsr 324],
  [.istore 3, .iconst 0, .istore 4, .jsr 325],
  [.iload 3, .ifCond .eq 328, .iload 4, .iload 1, .iload 2, .imul, .if_icmp .ge 328, .aload 0, .getfield 15, .iload 4, .aload 0, .iconst 1, .invokestatic 8, .iastore, .aload 0, .getfield 15, .iload 4, .iaload, .ifCond .lt 326, .iconst 1, .goto 327],
  [.iconst 0, .jsr 327],
  [.istore 3, .iinc 4 (1), .goto 325],
  [.iload 3, .ifCond .eq 329, .aload 0, .getfield 12, .aload 0, .getfield 13, .if_icmp .ge 330, .jsr 329],
  [.iconst (-1), .aload 0, .getfield 12, .isub, .ireturn],
  [.aload 0, .iload 1, .putfield 3, .aload 0, .iload 2, .putfield 4, .iconst 0, .istore 4, .jsr 331],
  [.iload 4, .iconst 36, .if_icmp .ge 334, .aload 0, .getfield 8, .iload 4, .iload 4, .iload 1, .iload 2, .imul, .if_icmp .ge 332, .aload 0, .getfield 15, .iload 4, .iaload, .goto 333],
  [.iconst 0, .jsr 333],
  [.iastore, .aload 0, .getfield 8, .iconst 36, .iload 4, .iadd, .iconst 0, .iastore, .aload 0, .getfield 8, .iconst 72, .iload 4, .iadd, .iconst 0, .iastore, .iinc 4 (1), .goto 331],
  [.aload 0, .getfield 8, .iconst 108, .iconst 0, .iastore, .aload 0, .getfield 8, .iconst 109, .iconst 0, .iastore, .aload 0, .getfield 8, .iconst 110, .iconst 0, .iastore, .aload 0, .iconst 0, .putfield 26, .aload 0, .dup, .getfield 5, .iconst 1, .iadd, .putfield 5, .aload 0, .iconst 0, .putfield 46, .aload 0, .iconst 0, .putfield 51, .aload 0, .invokestatic 10, .ireturn]]
def aLm6 : List (List Instr) := [[.aload 0, .getfield 11, .istore 2, .aload 0, .iconst 0, .putfield 11, .aload 0, .iconst 0, .putfield 12, .aload 0, .iconst 0, .putfield 14, .aload 0, .iload 2, .iload 1, .invokedynamic 5, .putfield 13, .iload 2, .ireturn]]
def aLm7 : List (List Instr) := [[.aload 0, .getfield 12, .aload 0, .getfield 13, .if_icmp .ge 449, .aload 0, .getfield 10, .aload 0, .getfield 12, .iaload, .iconst 48, .isub, .i2l, .iload 1, .i2l, .iload 2, .i2l, .invokestatic 4, .ifCond .ne 450, .jsr 449],
  [.iconst (-1), .ireturn],
  [.aload 0, .dup, .getfield 12, .iconst 1, .iadd, .putfield 12, .aload 0, .getfield 10, .aload 0, .getfield 12, .iconst 1, .isub, .iaload, .iconst 48, .isub, .ireturn]]
def aLm8 : List (List Instr) := [[.aload 0, .invokestatic 9, .ifCond .ne 513, .iconst (-1), .ireturn],
  [.iconst 0, .istore 2, .iconst 0, .istore 3, .jsr 514],
  [.iload 3, .iload 1, .if_icmp .ge 515, .aload 0, .invokestatic 9, .ifCond .eq 515, .iconst 10, .iload 2, .imul, .aload 0, .getfield 10, .aload 0, .getfield 12, .iaload, .iadd, .iconst 48, .isub, .istore 2, .aload 0, .dup, .getfield 12, .iconst 1, .iadd, .putfield 12, .iinc 3 (1), .goto 514],
  [.iload 2, .ireturn]]
def aLm9 : List (List Instr) := [[.aload 0, .getfield 12, .aload 0, .getfield 13, .if_icmp .ge 577, .aload 0, .getfield 10, .aload 0, .getfield 12, .iaload, .i2l, .ldc2_w 64, .ldc2_w 73, .invokestatic 4, .ifCond .eq 577, .iconst 1, .goto 578],
  [.iconst 0, .jsr 578],
  [.freturn]]
def aLm10 : List (List Instr) := [[.aload 0, .getfield 3, .aload 0, .getfield 4, .imul, .ireturn]]
def aLm11 : List (List Instr) := [[.aload 0, .iconst 0, .putfield 0, .aload 0, .iconst 80, .invokestatic 6, .pop, .iconst 0, .istore 1, .jsr 705],
  [.iload 1, .iconst 20, .if_icmp .ge 706, .aload 0, .invokestatic 9, .ifCond .eq 706, .aload 0, .getfield 15, .iload 1, .aload 0, .iconst 1, .invokestatic 8, .iastore, .iinc 1 (1), .goto 705],
  [.iload 1, .ifCond .eq 707, .aload 0, .getfield 12, .aload 0, .getfield 13, .if_icmp .ge 708, .jsr 707],
  [.iconst (-1), .aload 0, .getfield 12, .isub, .ireturn],
  [.aload 0, .iload 1, .putfield 6, .iconst 0, .istore 2, .jsr 709],
  [.iload 2, .iload 1, .if_icmp .ge 710, .aload 0, .getfield 7, .iload 2, .aload 0, .getfield 15, .iload 2, .iaload, .iastore, .iinc 2 (1), .goto 709],
  [.iload 1, .ireturn]]
def aLm12 : List (List Instr) := [[.aload 0, .iconst 0, .putfield 0, .aload 0, .invokestatic 13, .istore 1, .iload 1, .ifCond .ne 769, .aload 0, .aload 0, .getfield 17, .aload 0, .getfield 19, .invokestatic 21, .jsr 769],
  [.iload 1, .ireturn]]
def aLm13 : List (List Instr) := [[.aload 0, .iconst 40, .invokestatic 6, .istore 1, .aload 0, .iconst 0, .putfield 19, .iload 1, .ifCond .eq 833, .aload 0, .iconst 0, .invokestatic 14, .ifCond .eq 834, .jsr 833],
  [.iconst 1, .goto 835],
  [.iconst 0, .jsr 835],
  [.istore 2, .aload 0, .iload 1, .iconst 40, .iload 2, .invokestatic 20, .ireturn]]
def aLm14 : List (List Instr) := [[.iload 1, .iconst 3, .if_icmp .ne 897, .aload 0, .invokestatic 15, .freturn],
  [.aload 0, .iload 1, .iconst 1, .iadd, .invokestatic 14, .ifCond .ne 898, .iconst 0, .freturn],
  [.iconst 1, .istore 2, .jsr 899],
  [.iload 2, .ifCond .eq 910, .aload 0, .iload 1, .ifCond .ne 900, .ldc 4, .goto 902],
  [.iload 1, .iconst 1, .if_icmp .ne 901, .ldc 5, .goto 902],
  [.ldc 6, .jsr 902],
  [.invokestatic 19, .istore 3, .iload 3, .ifCond .ge 903, .iconst 1, .freturn],
  [.aload 0, .iload 1, .iconst 1, .iadd, .invokestatic 14, .ifCond .ne 904, .iconst 0, .freturn],
  [.aload 0, .iconst 2000, .iload 3, .iadd, .iload 1, .ifCond .ne 905, .iconst 0, .goto 907],
  [.iload 1, .iconst 1, .if_icmp .ne 906, .iconst 3, .goto 907],
  [.iconst 5, .jsr 907],
  [.iadd, .invokestatic 18, .iload 1, .ifCond .le 908, .iconst 1, .goto 909],
  [.iconst 0, .jsr 909],
  [.istore 2, .goto 899],
  [.iconst 1, .freturn]]
def aLm15 : List (List Instr) := [[.aload 0, .iconst 45, .invokestatic 16, .ifCond .eq 961, .aload 0, .invokestatic 15, .istore 1, .aload 0, .iconst 3000, .invokestatic 18, .iload 1, .freturn],
  [.aload 0, .invokestatic 9, .ifCond .eq 962, .aload 0, .aload 0, .iconst 3, .invokestatic 8, .invokestatic 18, .iconst 1, .freturn],
  [.aload 0, .ldc 3, .invokestatic 19, .istore 1, .iload 1, .ifCond .lt 963, .aload 0, .iconst 1000, .iload 1, .iadd, .invokestatic 18, .iconst 1, .freturn],
  [.aload 0, .getfield 14, .iconst 4, .if_icmp .eq 964, .aload 0, .iconst 40, .invokestatic 16, .ifCond .ne 965, .jsr 964],
  [.iconst 0, .freturn],
  [.aload 0, .dup, .getfield 14, .iconst 1, .iadd, .putfield 14, .aload 0, .iconst 0, .invokestatic 14, .ifCond .eq 966, .aload 0, .iconst 41, .invokestatic 16, .ifCond .ne 967, .jsr 966],
  [.iconst 0, .freturn],
  [.aload 0, .dup, .getfield 14, .iconst 1, .isub, .putfield 14, .iconst 1, .freturn]]
def aLm16 : List (List Instr) := [[.aload 0, .getfield 12, .aload 0, .getfield 13, .if_icmp .ge 1025, .aload 0, .getfield 10, .aload 0, .getfield 12, .iaload, .iload 1, .if_icmp .ne 1025, .iconst 1, .goto 1026],
  [.iconst 0, .jsr 1026],
  [.istore 2, .aload 0, .dup, .getfield 12, .iload 2, .invokestatic 17, .iadd, .putfield 12, .iload 2, .freturn]]
def aLm17 : List (List Instr) := [[.iload 0, .ifCond .eq 1089, .iconst 1, .goto 1090],
  [.iconst 0, .jsr 1090],
  [.ireturn]]
def aLm18 : List (List Instr) := [[.aload 0, .getfield 17, .aload 0, .getfield 19, .iload 1, .iastore, .aload 0, .dup, .getfield 19, .iconst 1, .iadd, .putfield 19, .return_]]
def aLm19 : List (List Instr) := [[.iconst 0, .istore 2, .jsr 1217],
  [.iload 2, .aload 1, .invokedynamic 2, .if_icmp .ge 1219, .aload 0, .getfield 12, .aload 0, .getfield 13, .if_icmp .ge 1219, .aload 1, .iload 2, .invokedynamic 3, .aload 0, .getfield 10, .aload 0, .getfield 12, .iaload, .if_icmp .ne 1218, .aload 0, .dup, .getfield 12, .iconst 1, .iadd, .putfield 12, .iload 2, .ireturn],
  [.iinc 2 (1), .goto 1217],
  [.iconst (-1), .ireturn]]
def aLm20 : List (List Instr) := [[.iload 3, .ifCond .eq 1281, .aload 0, .getfield 12, .aload 0, .getfield 13, .if_icmp .ne 1281, .iconst 1, .goto 1282],
  [.iconst 0, .jsr 1282],
  [.istore 4, .iload 1, .iload 2, .if_icmp .le 1284, .iload 4, .ifCond .ne 1283, .aload 0, .getfield 12, .iload 2, .if_icmp .lt 1284, .jsr 1283],
  [.iconst (-1), .iload 2, .isub, .ireturn],
  [.iload 4, .ifCond .eq 1285, .iconst 0, .goto 1286],
  [.iconst (-1), .aload 0, .getfield 12, .isub, .jsr 1286],
  [.ireturn]]
def aLm21 : List (List Instr) := [[.aload 0, .iload 2, .putfield 18, .iconst 0, .istore 3, .jsr 1345],
  [.iload 3, .iload 2, .if_icmp .ge 1346, .aload 0, .getfield 16, .iload 3, .aload 1, .iload 3, .iaload, .iastore, .iinc 3 (1), .goto 1345],
  [.return_]]
def aLm22 : List (List Instr) := [[.aload 0, .iconst 0, .putfield 0, .aload 0, .iload 1, .invokestatic 23, .ifCond .eq 1409, .iload 2, .i2l, .ldc2_w 16, .ldc2_w 19, .invokestatic 4, .ifCond .ne 1410, .jsr 1409],
  [.aload 0, .invokestatic 24, .ireturn],
  [.aload 0, .aload 0, .getfield 8, .invokestatic 25, .iload 2, .tableswitch 1414 (0) (2) #[1411, 1412, 1413]],
  [.aload 0, .getfield 8, .iload 1, .iaload, .ireturn],
  [.aload 0, .getfield 8, .iconst 36, .iload 1, .iadd, .iaload, .ireturn],
  [.aload 0, .getfield 8, .iconst 72, .iload 1, .iadd, .iaload, .ireturn],
  [.aload 0, .getfield 23, .iload 1, .baload, .invokestatic 17, .ireturn]]
def aLm23 : List (List Instr) := [[.iload 1, .i2l, .ldc2_w 16, .aload 0, .invokestatic 10, .iconst 1, .isub, .i2l, .invokestatic 4, .freturn]]
def aLm24 : List (List Instr) := [[.aload 0, .iconst 1, .putfield 0, .iconst 0, .ireturn]]
def aLm25 : List (List Instr) := [[.aload 0, .iconst 0, .putfield 24, .iconst 0, .istore 2, .jsr 1601],
  [.iload 2, .iconst 36, .if_icmp .ge 1602, .aload 0, .getfield 23, .iload 2, .iconst 0, .bastore, .iinc 2 (1), .goto 1601],
  [.aload 0, .aload 1, .aload 1, .iconst 108, .iaload, .invokestatic 26, .putfield 153, .aload 0, .getfield 25, .ifCond .eq 1603, .return_],
  [.aload 1, .iconst 108, .iaload, .istore 2, .aload 0, .iload 2, .invokestatic 27, .jsr 1604],
  [.aload 0, .getfield 25, .ifCond .ne 1618, .aload 0, .iload 2, .invokestatic 28, .ifCond .ne 1618, .iconst (-1), .istore 3, .iconst 0, .istore 4, .iconst 0, .istore 5, .jsr 1605],
  [.iload 5, .iconst 3, .if_icmp .ge 1614, .aload 0, .iload 2, .iload 5, .invokestatic 29, .istore 6, .iload 6, .ifCond .lt 1613, .aload 1, .iload 6, .invokestatic 26, .ifCond .ne 1613, .aload 0, .getfield 23, .iload 6, .baload, .ifCond .ne 1613, .aload 0, .aload 1, .iload 6, .iload 5, .ifCond .le 1606, .iconst 1, .goto 1607],
  [.iconst 0, .jsr 1607],
  [.invokestatic 17, .invokestatic 30, .istore 7, .iload 3, .ifCond .lt 1608, .iload 7, .iload 4, .if_icmp .ge 1609, .jsr 1608],
  [.iload 6, .goto 1610],
  [.iload 3, .jsr 1610],
  [.istore 3, .iload 3, .iload 6, .if_icmp .ne 1611, .iload 7, .goto 1612],
  [.iload 4, .jsr 1612],
  [.istore 4, .jsr 1613],
  [.iinc 5 (1), .goto 1605],
  [.aload 0, .iload 3, .ifCond .ge 1615, .iconst 1, .goto 1616],
  [.iconst 0, .jsr 1616],
  [.putfield 153, .aload 0, .getfield 25, .ifCond .ne 1617, .iload 3, .istore 2, .aload 0, .iload 2, .invokestatic 27, .jsr 1617],
  [.goto 1604],
  [.return_]]
def aLm26 : List (List Instr) := [[.aload 0, .iconst 36, .iload 1, .iadd, .iaload, .iconst 1, .if_icmp .ne 1665, .iconst 1, .goto 1666],
  [.iconst 0, .jsr 1666],
  [.freturn]]
def aLm27 : List (List Instr) := [[.aload 0, .getfield 22, .aload 0, .getfield 24, .iload 1, .iastore, .aload 0, .dup, .getfield 24, .iconst 1, .iadd, .putfield 24, .aload 0, .getfield 23, .iload 1, .iconst 1, .bastore, .return_]]
def aLm28 : List (List Instr) := [[.iload 1, .aload 0, .invokestatic 10, .aload 0, .getfield 4, .isub, .if_icmp .lt 1793, .iconst 1, .goto 1794],
  [.iconst 0, .jsr 1794],
  [.freturn]]
def aLm29 : List (List Instr) := [[.iload 1, .aload 0, .getfield 4, .idiv, .iload 2, .ifCond .ne 1857, .iconst 1, .goto 1859],
  [.iload 2, .iconst 3, .if_icmp .ne 1858, .iconst (-1), .goto 1859],
  [.iconst 0, .jsr 1859],
  [.iadd, .istore 3, .iload 1, .aload 0, .getfield 4, .irem, .iload 2, .iconst 2, .if_icmp .ne 1860, .iconst 1, .goto 1862],
  [.iload 2, .iconst 1, .if_icmp .ne 1861, .iconst (-1), .goto 1862],
  [.iconst 0, .jsr 1862],
  [.iadd, .istore 4, .iload 3, .i2l, .ldc2_w 16, .aload 0, .getfield 3, .iconst 1, .isub, .i2l, .invokestatic 4, .ifCond .eq 1863, .iload 4, .i2l, .ldc2_w 16, .aload 0, .getfield 4, .iconst 1, .isub, .i2l, .invokestatic 4, .ifCond .eq 1863, .aload 0, .getfield 4, .iload 3, .imul, .iload 4, .iadd, .goto 1864],
  [.iconst (-1), .jsr 1864],
  [.ireturn]]
def aLm30 : List (List Instr) := [[.aload 0, .getfield 21, .iconst 0, .aload 1, .iload 2, .iaload, .iastore, .aload 0, .getfield 21, .iconst 1, .iload 3, .iastore, .aload 0, .getfield 21, .iconst 2, .aload 1, .iconst 72, .iload 2, .iadd, .iaload, .iastore, .aload 0, .getfield 21, .iconst 3, .aload 0, .aload 1, .iconst 109, .iaload, .invokestatic 31, .iastore, .aload 0, .getfield 21, .iconst 4, .aload 1, .iconst 109, .iaload, .iconst 7, .irem, .iastore, .aload 0, .getfield 21, .iconst 5, .iload 2, .aload 0, .getfield 4, .idiv, .iastore, .aload 0, .getfield 21, .iconst 6, .iload 2, .aload 0, .getfield 4, .irem, .iastore, .aload 0, .invokestatic 32, .ireturn]]
def aLm31 : List (List Instr) := [[.aload 0, .getfield 7, .iload 1, .aload 0, .getfield 6, .irem, .iaload, .ireturn]]
def aLm32 : List (List Instr) := [[.iconst 0, .istore 1, .iconst 0, .istore 2, .jsr 2049],
  [.iload 2, .aload 0, .getfield 18, .if_icmp .ge 2055, .aload 0, .getfield 16, .iload 2, .iaload, .istore 3, .iload 3, .iconst 3000, .if_icmp .ne 2050, .aload 0, .getfield 20, .iload 1, .iconst 1, .isub, .aload 0, .getfield 20, .iload 1, .iconst 1, .isub, .iaload, .ineg, .iastore, .goto 2054],
  [.iload 3, .iconst 2000, .if_icmp .lt 2051, .iinc 1 (-1), .aload 0, .getfield 20, .iload 1, .iconst 1, .isub, .iload 3, .iconst 2000, .isub, .aload 0, .getfield 20, .iload 1, .iconst 1, .isub, .iaload, .aload 0, .getfield 20, .iload 1, .iaload, .invokestatic 33, .iastore, .goto 2054],
  [.aload 0, .getfield 20, .iload 1, .iload 3, .iconst 1000, .if_icmp .lt 2052, .aload 0, .getfield 21, .iload 3, .iconst 1000, .isub, .iaload, .goto 2053],
  [.iload 3, .jsr 2053],
  [.iastore, .iinc 1 (1), .jsr 2054],
  [.iinc 2 (1), .goto 2049],
  [.aload 0, .getfield 18, .ifCond .ne 2056, .aload 0, .getfield 21, .iconst 0, .iaload, .iconst 2, .aload 0, .getfield 21, .iconst 1, .iaload, .imul, .iadd, .aload 0, .getfield 21, .iconst 2, .iaload, .isub, .goto 2057],
  [.aload 0, .getfield 20, .iconst 0, .iaload, .jsr 2057],
  [.ireturn]]
def aLm33 : List (List Instr) := [[.iload 0, .tableswitch 2125 (0) (5) #[2113, 2116, 2119, 2122, 2123, 2124]],
  [.iload 1, .iload 2, .if_icmp .ge 2114, .iconst 1, .goto 2115],
  [.iconst 0, .jsr 2115],
  [.invokestatic 17, .ireturn],
  [.iload 1, .iload 2, .if_icmp .le 2117, .iconst 1, .goto 2118],
  [.iconst 0, .jsr 2118],
  [.invokestatic 17, .ireturn],
  [.iload 1, .iload 2, .if_icmp .ne 2120, .iconst 1, .goto 2121],
  [.iconst 0, .jsr 2121],
  [.invokestatic 17, .ireturn],
  [.iload 1, .iload 2, .iadd, .ireturn],
  [.iload 1, .iload 2, .isub, .ireturn],
  [.iload 1, .iload 2, .imul, .ireturn],
  [.iload 2, .ifCond .ne 2126, .iconst 0, .goto 2127],
  [.iload 1, .iload 2, .idiv, .jsr 2127],
  [.ireturn]]
def aLm34 : List (List Instr) := [[.aload 0, .iconst 0, .putfield 0, .aload 0, .iload 1, .invokestatic 23, .ifCond .eq 2177, .iload 2, .i2l, .ldc2_w 16, .ldc2_w 17, .invokestatic 4, .ifCond .ne 2178, .jsr 2177],
  [.aload 0, .invokestatic 24, .ireturn],
  [.aload 0, .aload 0, .getfield 8, .iload 1, .iload 2, .invokestatic 30, .ireturn]]
def aLm35 : List (List Instr) := [[.aload 0, .iconst 0, .putfield 0, .iload 1, .i2l, .ldc2_w 16, .ldc2_w 19, .invokestatic 4, .ifCond .eq 2241, .iload 2, .iconst 36, .if_icmp .le 2242, .jsr 2241],
  [.iconst (-1), .ireturn],
  [.iload 1, .iconst 3, .if_icmp .eq 2243, .iload 2, .ifCond .ge 2243, .iconst (-2), .ireturn],
  [.iload 3, .istore 5, .iconst 0, .istore 6, .jsr 2244],
  [.iload 6, .aload 0, .invokestatic 10, .if_icmp .ge 2251, .iload 1, .ifCond .ne 2245, .iload 5, .i2b, .goto 2247],
  [.iload 1, .iconst 1, .if_icmp .ne 2246, .iload 5, .i2s, .goto 2247],
  [.iload 5, .jsr 2247],
  [.istore 7, .aload 0, .getfield 8, .iload 6, .iload 1, .iconst 3, .if_icmp .eq 2248, .iload 6, .iload 2, .if_icmp .lt 2249, .jsr 2248],
  [.iconst 0, .goto 2250],
  [.iconst 0, .iconst 9, .iload 7, .invokedynamic 5, .invokedynamic 6, .jsr 2250],
  [.iastore, .iload 5, .iload 4, .iadd, .istore 5, .iinc 6 (1), .goto 2244],
  [.iload 1, .iconst 3, .if_icmp .ne 2252, .iconst (-3), .goto 2253],
  [.aload 0, .aload 0, .getfield 8, .iconst 0, .invokestatic 36, .jsr 2253],
  [.ireturn]]
def aLm36 : List (List Instr) := [[.iconst 0, .istore 3, .iconst 0, .istore 4, .jsr 2305],
  [.iload 4, .aload 0, .invokestatic 10, .if_icmp .ge 2306, .iload 3, .aload 1, .iload 2, .iload 4, .iadd, .iaload, .iadd, .istore 3, .iinc 4 (1), .goto 2305],
  [.iload 3, .ireturn]]
def aLm37 : List (List Instr) := [[.aload 0, .iconst 0, .putfield 0, .aload 0, .getfield 26, .ifCond .ne 2369, .iconst (-1), .ireturn],
  [.aload 0, .dup, .getfield 26, .iconst 1, .isub, .putfield 26, .iconst 0, .istore 1, .jsr 2370],
  [.iload 1, .iconst 111, .if_icmp .ge 2371, .aload 0, .getfield 8, .iload 1, .aload 0, .getfield 27, .iconst 111, .aload 0, .getfield 26, .imul, .iload 1, .iadd, .iaload, .iastore, .iinc 1 (1), .goto 2370],
  [.aload 0, .getfield 26, .ireturn]]
def aLm38 : List (List Instr) := [[.aload 0, .iconst 0, .putfield 0, .iload 1, .i2l, .ldc2_w 16, .ldc2_w 76, .invokestatic 4, .ifCond .ne 2433, .iconst (-1), .ireturn],
  [.aload 0, .invokestatic 39, .aload 0, .aload 0, .getfield 8, .iload 1, .invokestatic 40, .istore 2, .aload 0, .iconst 0, .putfield 1, .aload 0, .aload 0, .aload 0, .getfield 8, .iconst 0, .invokestatic 36, .i2l, .invokestatic 43, .aload 0, .aload 0, .aload 0, .getfield 8, .iconst 72, .invokestatic 36, .i2l, .invokestatic 43, .aload 0, .iload 2, .invokestatic 44, .ireturn]]
def aLm39 : List (List Instr) := [[.iconst 0, .istore 1, .jsr 2497],
  [.iload 1, .iconst 111, .if_icmp .ge 2498, .aload 0, .getfield 27, .iconst 111, .aload 0, .getfield 26, .imul, .iload 1, .iadd, .aload 0, .getfield 8, .iload 1, .iaload, .iastore, .iinc 1 (1), .goto 2497],
  [.return_]]
def aLm40 : List (List Instr) := [[.iconst 0, .istore 3, .iconst 0, .istore 4, .jsr 2561],
  [.iload 4, .iload 2, .if_icmp .ge 2564, .aload 0, .aload 1, .invokestatic 41, .iload 3, .aload 0, .getfield 25, .ifCond .ne 2562, .iconst 1, .goto 2563],
  [.iconst 0, .jsr 2563],
  [.invokestatic 17, .iadd, .istore 3, .iinc 4 (1), .goto 2561],
  [.iload 3, .ireturn]]
def aLm41 : List (List Instr) := [[.aload 0, .aload 1, .invokestatic 25, .iconst 0, .istore 2, .jsr 2625],
  [.iload 2, .aload 0, .invokestatic 10, .if_icmp .ge 2630, .aload 0, .getfield 23, .iload 2, .baload, .ifCond .eq 2626, .iconst (-1), .goto 2629],
  [.aload 1, .iload 2, .invokestatic 26, .ifCond .ne 2627, .aload 0, .iload 2, .invokestatic 42, .ifCond .eq 2627, .iconst 1, .goto 2628],
  [.iconst 0, .jsr 2628],
  [.invokestatic 17, .jsr 2629],
  [.istore 3, .aload 1, .iload 2, .iconst 0, .iconst 9, .aload 1, .iload 2, .iaload, .iload 3, .iadd, .invokedynamic 5, .invokedynamic 6, .iastore, .aload 1, .iconst 72, .iload 2, .iadd, .aload 0, .getfield 23, .iload 2, .baload, .invokestatic 17, .iastore, .iinc 2 (1), .goto 2625],
  [.aload 0, .getfield 25, .ifCond .eq 2631, .aload 1, .iconst 110, .iconst 9999, .aload 1, .iconst 110, .iaload, .iconst 1, .iadd, .invokedynamic 5, .iastore, .aload 0, .getfield 24, .ifCond .le 2631, .aload 0, .getfield 22, .aload 0, .getfield 24, .iconst 1, .isub, .iaload, .istore 2, .aload 1, .iload 2, .iconst 9, .aload 1, .iload 2, .iaload, .iconst 3, .iadd, .invokedynamic 5, .iastore, .jsr 2631],
  [.aload 1, .iconst 109, .dup2, .iaload, .iconst 1, .iadd, .iastore, .return_]]
def aLm42 : List (List Instr) := [[.iconst 0, .istore 2, .iconst 0, .istore 3, .jsr 2689],
  [.iload 3, .iconst 4, .if_icmp .ge 2693, .aload 0, .iload 1, .iload 3, .invokestatic 29, .istore 4, .iload 2, .ifCond .ne 2690, .iload 4, .ifCond .lt 2691, .aload 0, .getfield 23, .iload 4, .baload, .ifCond .eq 2691, .jsr 2690],
  [.iconst 1, .goto 2692],
  [.iconst 0, .jsr 2692],
  [.istore 2, .iinc 3 (1), .goto 2689],
  [.iload 2, .freturn]]
def aLm43 : List (List Instr) := [[.aload 0, .getfield 2, .aload 0, .getfield 1, .lload 1, .lastore, .aload 0, .dup, .getfield 1, .iconst 1, .iadd, .putfield 1, .return_]]
def aLm44 : List (List Instr) := [[.aload 0, .dup, .getfield 26, .iconst 1, .iadd, .putfield 26, .aload 0, .getfield 26, .iconst 15, .if_icmp .le 2819, .iconst 0, .istore 2, .jsr 2817],
  [.iload 2, .iconst 1665, .if_icmp .ge 2818, .aload 0, .getfield 27, .iload 2, .aload 0, .getfield 27, .iload 2, .iconst 111, .iadd, .iaload, .iastore, .iinc 2 (1), .goto 2817],
  [.aload 0, .dup, .getfield 26, .iconst 1, .isub, .putfield 26, .jsr 2819],
  [.iload 1, .ireturn]]
def aLm45 : List (List Instr) := [[.aload 0, .iconst 0, .putfield 0, .aload 0, .invokestatic 39, .aload 0, .aload 0, .aload 0, .getfield 8, .iload 1, .iload 2, .invokestatic 46, .invokestatic 47, .ireturn]]
def aLm46 : List (List Instr) := [[.aload 0, .iload 2, .invokestatic 23, .ifCond .eq 2945, .iload 3, .i2l, .ldc2_w 17, .ldc2_w 25, .invokestatic 4, .ifCond .ne 2946, .jsr 2945],
  [.iconst (-1), .ireturn],
  [.aload 1, .iload 2, .iaload, .iload 3, .if_icmp .ge 2947, .iconst (-2), .ireturn],
  [.aload 1, .iload 2, .dup2, .iaload, .iload 3, .isub, .iastore, .aload 1, .iload 2, .iaload, .ireturn]]
def aLm47 : List (List Instr) := [[.iload 1, .ifCond .ge 3009, .iload 1, .goto 3010],
  [.aload 0, .iload 1, .invokestatic 44, .jsr 3010],
  [.ireturn]]
def aLm48 : List (List Instr) := [[.aload 0, .iconst 0, .putfield 0, .aload 0, .invokestatic 39, .aload 0, .aload 0, .iload 1, .iload 2, .invokestatic 49, .invokestatic 47, .ireturn]]
def aLm49 : List (List Instr) := [[.aload 0, .iload 1, .invokestatic 23, .ifCond .eq 3137, .iload 2, .i2l, .ldc2_w 17, .ldc2_w 25, .invokestatic 4, .ifCond .ne 3138, .jsr 3137],
  [.iconst (-1), .ireturn],
  [.aload 0, .getfield 8, .iload 1, .iaload, .iload 2, .iadd, .iconst 9, .if_icmp .le 3139, .iconst (-3), .ireturn],
  [.aload 0, .getfield 8, .iload 1, .dup2, .iaload, .iload 2, .iadd, .iastore, .aload 0, .getfield 8, .iload 1, .iaload, .ireturn]]
def aLm50 : List (List Instr) := [[.aload 0, .iconst 0, .putfield 0, .aload 0, .invokestatic 39, .aload 0, .aload 0, .aload 0, .getfield 8, .iload 1, .invokestatic 51, .invokestatic 47, .ireturn]]
def aLm51 : List (List Instr) := [[.aload 0, .iload 2, .invokestatic 23, .ifCond .ne 3265, .iconst (-1), .ireturn],
  [.aload 1, .iload 2, .invokestatic 26, .ifCond .ne 3266, .aload 0, .aload 1, .iconst 36, .invokestatic 36, .iconst 8, .if_icmp .ne 3266, .iconst (-2), .ireturn],
  [.aload 1, .iconst 36, .iload 2, .iadd, .iconst 1, .aload 1, .iconst 36, .iload 2, .iadd, .iaload, .isub, .iastore, .aload 0, .aload 1, .iconst 36, .invokestatic 36, .ireturn]]
def aLm52 : List (List Instr) := [[.aload 0, .iconst 0, .putfield 0, .aload 0, .invokestatic 39, .aload 0, .aload 0, .iload 1, .invokestatic 53, .invokestatic 47, .ireturn]]
def aLm53 : List (List Instr) := [[.iload 1, .i2l, .ldc2_w 16, .aload 0, .getfield 4, .iconst 1, .isub, .i2l, .invokestatic 4, .ifCond .ne 3393, .iconst (-1), .ireturn],
  [.aload 0, .getfield 8, .iconst 108, .iaload, .istore 2, .aload 0, .getfield 8, .iconst 108, .iload 1, .iastore, .iload 2, .iload 1, .if_icmp .ne 3394, .iconst (-2), .goto 3395],
  [.iload 2, .jsr 3395],
  [.ireturn]]
def aLm54 : List (List Instr) := [[.aload 0, .iconst 0, .putfield 0, .aload 0, .iconst 60, .invokestatic 6, .istore 1, .aload 0, .iconst 0, .putfield 32, .iconst 1, .istore 2, .jsr 3457],
  [.iload 2, .ifCond .eq 3458, .aload 0, .getfield 12, .aload 0, .getfield 13, .if_icmp .ge 3458, .aload 0, .invokestatic 55, .istore 2, .goto 3457],
  [.aload 0, .iload 1, .iconst 60, .iload 2, .invokestatic 20, .istore 3, .iload 3, .ifCond .ge 3459, .iload 3, .ireturn],
  [.aload 0, .invokestatic 39, .iconst 0, .istore 4, .jsr 3460],
  [.iload 4, .aload 0, .getfield 32, .if_icmp .ge 3461, .aload 0, .iload 4, .invokestatic 56, .ifCond .eq 3461, .iinc 4 (1), .goto 3460],
  [.aload 0, .iconst 0, .putfield 1, .aload 0, .iload 4, .aload 0, .getfield 32, .if_icmp .ge 3462, .iconst 1, .goto 3463],
  [.iconst 0, .jsr 3463],
  [.invokestatic 17, .i2l, .invokestatic 43, .aload 0, .aload 0, .getfield 8, .iconst 109, .iaload, .i2l, .invokestatic 43, .iload 4, .ifCond .le 3464, .aload 0, .iload 4, .invokestatic 44, .goto 3465],
  [.iconst 0, .jsr 3465],
  [.ireturn]]
def aLm55 : List (List Instr) := [[.aload 0, .getfield 32, .istore 1, .aload 0, .getfield 28, .iload 1, .aload 0, .ldc 7, .invokestatic 19, .iastore, .aload 0, .dup, .getfield 32, .iconst 1, .iadd, .putfield 32, .aload 0, .getfield 28, .iload 1, .iaload, .ifCond .ge 3521, .iconst 0, .freturn],
  [.aload 0, .getfield 29, .iload 1, .aload 0, .iconst 1, .invokestatic 8, .iastore, .aload 0, .getfield 29, .iload 1, .iaload, .ifCond .lt 3522, .aload 0, .getfield 28, .iload 1, .iaload, .iconst 2, .if_icmp .ge 3525, .jsr 3522],
  [.aload 0, .getfield 29, .iload 1, .iaload, .ifCond .lt 3523, .iconst 1, .goto 3524],
  [.iconst 0, .jsr 3524],
  [.freturn],
  [.aload 0, .getfield 30, .iload 1, .aload 0, .iconst 1, .invokestatic 8, .iastore, .aload 0, .getfield 30, .iload 1, .iaload, .ifCond .lt 3526, .aload 0, .getfield 28, .iload 1, .iaload, .iconst 4, .if_icmp .ne 3529, .jsr 3526],
  [.aload 0, .getfield 30, .iload 1, .iaload, .ifCond .lt 3527, .iconst 1, .goto 3528],
  [.iconst 0, .jsr 3528],
  [.freturn],
  [.aload 0, .getfield 31, .iload 1, .aload 0, .iconst 1, .iconst 9, .invokestatic 7, .iastore, .aload 0, .getfield 31, .iload 1, .iaload, .ifCond .lt 3530, .iconst 1, .goto 3531],
  [.iconst 0, .jsr 3531],
  [.freturn]]
def aLm56 : List (List Instr) := [[.aload 0, .getfield 29, .iload 1, .iaload, .istore 2, .iload 2, .aload 0, .getfield 3, .if_icmp .ge 3585, .aload 0, .getfield 30, .iload 1, .iaload, .aload 0, .getfield 4, .if_icmp .ge 3585, .aload 0, .getfield 4, .iload 2, .imul, .aload 0, .getfield 30, .iload 1, .iaload, .iadd, .goto 3586],
  [.iconst (-1), .jsr 3586],
  [.istore 3, .aload 0, .getfield 28, .iload 1, .iaload, .tableswitch 3597 (0) (3) #[3587, 3588, 3591, 3594]],
  [.aload 0, .aload 0, .getfield 8, .iload 2, .invokestatic 40, .pop, .iconst 1, .freturn],
  [.aload 0, .iload 2, .invokestatic 53, .ifCond .lt 3589, .iconst 1, .goto 3590],
  [.iconst 0, .jsr 3590],
  [.freturn],
  [.aload 0, .aload 0, .getfield 8, .iload 3, .aload 0, .getfield 31, .iload 1, .iaload, .invokestatic 46, .ifCond .lt 3592, .iconst 1, .goto 3593],
  [.iconst 0, .jsr 3593],
  [.freturn],
  [.aload 0, .iload 3, .aload 0, .getfield 31, .iload 1, .iaload, .invokestatic 49, .ifCond .lt 3595, .iconst 1, .goto 3596],
  [.iconst 0, .jsr 3596],
  [.freturn],
  [.aload 0, .aload 0, .getfield 8, .iload 3, .invokestatic 51, .ifCond .lt 3598, .iconst 1, .goto 3599],
  [.iconst 0, .jsr 3599],
  [.freturn]]
def aLm57 : List (List Instr) := [[.aload 0, .iconst 0, .putfield 0, .aload 0, .aload 0, .getfield 8, .invokestatic 25, .aload 0, .iconst 0, .putfield 1, .iconst 0, .istore 1, .jsr 3649],
  [.iload 1, .aload 0, .getfield 24, .if_icmp .ge 3650, .aload 0, .aload 0, .getfield 22, .iload 1, .iaload, .i2l, .invokestatic 43, .iinc 1 (1), .goto 3649],
  [.aload 0, .invokestatic 58, .ireturn]]
def aLm58 : List (List Instr) := [[.aload 0, .getfield 25, .ifCond .eq 3713, .iconst (-2), .goto 3714],
  [.aload 0, .getfield 22, .aload 0, .getfield 24, .iconst 1, .isub, .iaload, .aload 0, .getfield 4, .irem, .jsr 3714],
  [.ireturn]]
def aLm59 : List (List Instr) := [[.aload 0, .iconst 0, .putfield 0, .iload 1, .i2l, .ldc2_w 16, .ldc2_w 115, .invokestatic 4, .ifCond .ne 3777, .iconst (-1), .ireturn],
  [.aload 0, .invokestatic 60, .aload 0, .aload 0, .getfield 9, .iload 1, .invokestatic 40, .pop, .aload 0, .aload 0, .getfield 9, .invokestatic 25, .aload 0, .iconst 0, .putfield 1, .aload 0, .aload 0, .getfield 24, .i2l, .invokestatic 43, .aload 0, .aload 0, .aload 0, .getfield 9, .iconst 0, .invokestatic 36, .i2l, .invokestatic 43, .aload 0, .invokestatic 58, .ireturn]]
def aLm60 : List (List Instr) := [[.iconst 0, .istore 1, .jsr 3841],
  [.iload 1, .iconst 111, .if_icmp .ge 3842, .aload 0, .getfield 9, .iload 1, .aload 0, .getfield 8, .iload 1, .iaload, .iastore, .iinc 1 (1), .goto 3841],
  [.return_]]
def aLm61 : List (List Instr) := [[.aload 0, .iconst 0, .putfield 0, .aload 0, .invokestatic 60, .iconst 0, .istore 1, .jsr 3905],
  [.iload 1, .iconst 99, .if_icmp .gt 3909, .aload 0, .aload 0, .getfield 9, .invokestatic 25, .aload 0, .getfield 25, .ifCond .eq 3908, .aload 0, .iconst 0, .putfield 1, .aload 0, .aload 0, .getfield 24, .ifCond .ne 3906, .ldc2_w 15, .goto 3907],
  [.aload 0, .getfield 22, .aload 0, .getfield 24, .iconst 1, .isub, .iaload, .i2l, .jsr 3907],
  [.invokestatic 43, .iload 1, .ireturn],
  [.aload 0, .aload 0, .getfield 9, .invokestatic 41, .iinc 1 (1), .goto 3905],
  [.iconst (-2), .ireturn]]
def aLm62 : List (List Instr) := [[.aload 0, .iconst 0, .putfield 0, .iload 1, .i2l, .ldc2_w 17, .ldc2_w 115, .invokestatic 4, .ifCond .ne 3969, .iconst (-1), .ireturn],
  [.aload 0, .invokestatic 60, .aload 0, .aload 0, .getfield 9, .invokestatic 25, .aload 0, .invokestatic 63, .iconst 0, .istore 2, .jsr 3970],
  [.iload 2, .iload 1, .if_icmp .ge 3972, .aload 0, .aload 0, .getfield 9, .invokestatic 25, .aload 0, .invokestatic 64, .ifCond .ne 3971, .aload 0, .iconst 0, .putfield 1, .aload 0, .aload 0, .invokestatic 58, .i2l, .invokestatic 43, .iload 2, .ireturn],
  [.aload 0, .aload 0, .getfield 9, .invokestatic 41, .iinc 2 (1), .goto 3970],
  [.iconst (-2), .ireturn]]
def aLm63 : List (List Instr) := [[.aload 0, .aload 0, .getfield 24, .putfield 34, .iconst 0, .istore 1, .jsr 4033],
  [.iload 1, .aload 0, .getfield 24, .if_icmp .ge 4034, .aload 0, .getfield 33, .iload 1, .aload 0, .getfield 22, .iload 1, .iaload, .iastore, .iinc 1 (1), .goto 4033],
  [.return_]]
def aLm64 : List (List Instr) := [[.aload 0, .getfield 34, .aload 0, .getfield 24, .if_icmp .ne 4097, .iconst 1, .goto 4098],
  [.iconst 0, .jsr 4098],
  [.istore 1, .iconst 0, .istore 2, .jsr 4099],
  [.iload 2, .aload 0, .getfield 24, .if_icmp .ge 4102, .iload 1, .ifCond .eq 4102, .aload 0, .getfield 33, .iload 2, .iaload, .aload 0, .getfield 22, .iload 2, .iaload, .if_icmp .ne 4100, .iconst 1, .goto 4101],
  [.iconst 0, .jsr 4101],
  [.istore 1, .iinc 2 (1), .goto 4099],
  [.iload 1, .freturn]]
def aLm65 : List (List Instr) := [[.aload 0, .iconst 0, .putfield 0, .iload 1, .i2l, .ldc2_w 17, .ldc2_w 115, .invokestatic 4, .ifCond .ne 4161, .iconst (-1), .ireturn],
  [.aload 0, .invokestatic 60, .iconst 0, .istore 2, .iconst 0, .istore 3, .iconst 0, .istore 4, .jsr 4162],
  [.iload 4, .aload 0, .getfield 4, .if_icmp .ge 4163, .aload 0, .getfield 35, .iload 4, .iconst 0, .iastore, .iinc 4 (1), .goto 4162],
  [.iconst 0, .istore 4, .jsr 4164],
  [.iload 4, .iload 1, .if_icmp .ge 4166, .aload 0, .aload 0, .getfield 9, .invokestatic 41, .iload 2, .aload 0, .getfield 25, .invokestatic 17, .iadd, .istore 2, .aload 0, .getfield 25, .ifCond .ne 4165, .aload 0, .getfield 35, .aload 0, .invokestatic 58, .dup2, .iaload, .iconst 1, .iadd, .iastore, .iload 3, .iconst 1, .aload 0, .invokestatic 58, .ishl, .ior, .istore 3, .jsr 4165],
  [.iinc 4 (1), .goto 4164],
  [.aload 0, .iconst 0, .putfield 1, .iconst 0, .istore 4, .jsr 4167],
  [.iload 4, .aload 0, .getfield 4, .if_icmp .ge 4168, .aload 0, .aload 0, .getfield 35, .iload 4, .iaload, .i2l, .invokestatic 43, .iinc 4 (1), .goto 4167],
  [.aload 0, .iload 2, .i2l, .invokestatic 43, .iload 3, .ireturn]]
def aLm66 : List (List Instr) := [[.aload 0, .iconst 0, .putfield 0, .iload 1, .i2l, .ldc2_w 17, .ldc2_w 115, .invokestatic 4, .ifCond .ne 4225, .ldc2_w 15, .lreturn],
  [.aload 0, .invokestatic 60, .ldc2_w 17, .aload 0, .invokestatic 10, .lshl, .ldc2_w 17, .lsub, .lstore 2, .ldc2_w 16, .lstore 4, .iconst 0, .istore 6, .jsr 4226],
  [.iload 6, .iload 1, .if_icmp .ge 4227, .aload 0, .aload 0, .getfield 9, .invokestatic 41, .lload 2, .aload 0, .invokestatic 67, .land, .lstore 2, .lload 4, .aload 0, .invokestatic 67, .lor, .lstore 4, .iinc 6 (1), .goto 4226],
  [.ldc2_w 17, .aload 0, .invokestatic 10, .lshl, .ldc2_w 17, .lsub, .lload 4, .ldc2_w 15, .lxor, .land, .lstore 6, .aload 0, .iconst 0, .putfield 1, .aload 0, .lload 6, .invokestatic 122, .i2l, .invokestatic 43, .aload 0, .lload 2, .invokestatic 122, .i2l, .invokestatic 43, .lload 6, .lreturn]]
def aLm67 : List (List Instr) := [[.ldc2_w 16, .lstore 1, .iconst 0, .istore 3, .jsr 4289],
  [.iload 3, .aload 0, .invokestatic 10, .if_icmp .ge 4292, .lload 1, .aload 0, .getfield 23, .iload 3, .baload, .ifCond .eq 4290, .ldc2_w 17, .iload 3, .lshl, .goto 4291],
  [.ldc2_w 16, .jsr 4291],
  [.lor, .lstore 1, .iinc 3 (1), .goto 4289],
  [.lload 1, .lreturn]]
def aLm68 : List (List Instr) := [[.aload 0, .iconst 0, .putfield 0, .iload 1, .i2l, .ldc2_w 16, .aload 0, .getfield 4, .iconst 1, .isub, .i2l, .invokestatic 4, .ifCond .eq 4353, .aload 0, .iload 1, .invokestatic 69, .goto 4354],
  [.iconst (-1), .jsr 4354],
  [.ireturn]]
def aLm69 : List (List Instr) := [[.iconst 0, .istore 2, .jsr 4417],
  [.iload 2, .iconst 3, .if_icmp .gt 4421, .aload 0, .invokestatic 60, .aload 0, .iconst 0, .iload 2, .iconst 0, .iload 1, .invokestatic 70, .ifCond .eq 4420, .aload 0, .iconst 0, .putfield 1, .iconst 0, .istore 3, .jsr 4418],
  [.iload 3, .iload 2, .if_icmp .ge 4419, .aload 0, .aload 0, .getfield 36, .iload 3, .iaload, .i2l, .invokestatic 43, .iinc 3 (1), .goto 4418],
  [.iload 2, .ireturn],
  [.iinc 2 (1), .goto 4417],
  [.iconst (-2), .ireturn]]
def aLm70 : List (List Instr) := [[.iload 1, .iload 2, .if_icmp .ne 4483, .aload 0, .aload 0, .getfield 9, .invokestatic 25, .aload 0, .invokestatic 58, .iload 4, .if_icmp .ne 4481, .iconst 1, .goto 4482],
  [.iconst 0, .jsr 4482],
  [.freturn],
  [.iload 3, .istore 5, .jsr 4484],
  [.iload 5, .aload 0, .invokestatic 10, .if_icmp .ge 4487, .aload 0, .getfield 9, .iload 5, .invokestatic 26, .ifCond .ne 4486, .iload 5, .aload 0, .getfield 9, .iconst 108, .iaload, .if_icmp .eq 4486, .aload 0, .getfield 9, .iconst 36, .iload 5, .iadd, .iconst 1, .iastore, .aload 0, .getfield 36, .iload 1, .iload 5, .iastore, .aload 0, .iload 1, .iconst 1, .iadd, .iload 2, .iload 5, .iconst 1, .iadd, .iload 4, .invokestatic 70, .ifCond .eq 4485, .iconst 1, .freturn],
  [.aload 0, .getfield 9, .iconst 36, .iload 5, .iadd, .iconst 0, .iastore, .jsr 4486],
  [.iinc 5 (1), .goto 4484],
  [.iconst 0, .freturn]]
def aLm71 : List (List Instr) := [[.aload 0, .iconst 0, .putfield 0, .aload 0, .iconst (-2), .invokestatic 69, .ireturn]]
def aLm72 : List (List Instr) := [[.aload 0, .iconst 0, .putfield 0, .aload 0, .invokestatic 60, .iconst (-2), .istore 1, .iconst (-1), .istore 2, .iconst 0, .istore 3, .jsr 4609],
  [.iload 3, .aload 0, .invokestatic 10, .if_icmp .ge 4613, .aload 0, .getfield 8, .iload 3, .invokestatic 26, .ifCond .ne 4612, .iload 3, .aload 0, .getfield 8, .iconst 108, .iaload, .if_icmp .eq 4612, .aload 0, .getfield 9, .iconst 36, .iload 3, .iadd, .iconst 1, .iastore, .aload 0, .aload 0, .getfield 9, .invokestatic 25, .aload 0, .getfield 9, .iconst 36, .iload 3, .iadd, .iconst 0, .iastore, .aload 0, .getfield 24, .iload 2, .if_icmp .le 4610, .iload 3, .goto 4611],
  [.iload 1, .jsr 4611],
  [.istore 1, .iload 2, .aload 0, .getfield 24, .invokedynamic 6, .istore 2, .jsr 4612],
  [.iinc 3 (1), .goto 4609],
  [.iload 1, .ifCond .lt 4614, .aload 0, .aload 0, .getfield 8, .invokestatic 25, .aload 0, .iconst 0, .putfield 1, .aload 0, .iload 2, .i2l, .invokestatic 43, .aload 0, .aload 0, .getfield 24, .i2l, .invokestatic 43, .jsr 4614],
  [.iload 1, .ireturn]]
def aLm73 : List (List Instr) := [[.aload 0, .iconst 0, .putfield 0, .aload 0, .invokestatic 60, .aload 0, .aload 0, .getfield 9, .invokestatic 25, .aload 0, .invokestatic 63, .iconst 1, .istore 1, .jsr 4673],
  [.iload 1, .iconst 9, .if_icmp .gt 4677, .iconst 0, .istore 2, .jsr 4674],
  [.iload 2, .aload 0, .invokestatic 10, .if_icmp .ge 4676, .aload 0, .getfield 8, .iload 2, .iaload, .iload 1, .if_icmp .lt 4675, .aload 0, .getfield 9, .iload 2, .aload 0, .getfield 8, .iload 2, .iaload, .iload 1, .isub, .iastore, .aload 0, .aload 0, .getfield 9, .invokestatic 25, .aload 0, .getfield 9, .iload 2, .aload 0, .getfield 8, .iload 2, .iaload, .iastore, .aload 0, .invokestatic 64, .ifCond .ne 4675, .aload 0, .iconst 0, .putfield 1, .aload 0, .iload 2, .i2l, .invokestatic 43, .iload 1, .ireturn],
  [.iinc 2 (1), .goto 4674],
  [.iinc 1 (1), .goto 4673],
  [.iconst (-2), .ireturn]]
def aLm74 : List (List Instr) := [[.aload 0, .iconst 0, .putfield 0, .aload 0, .aload 0, .getfield 8, .invokestatic 25, .aload 0, .aload 0, .getfield 8, .invokestatic 75, .istore 1, .aload 0, .iconst 0, .putfield 1, .aload 0, .aload 0, .getfield 37, .i2l, .invokestatic 43, .iload 1, .ireturn]]
def aLm75 : List (List Instr) := [[.aload 0, .iconst (-1), .putfield 37, .iconst 0, .istore 2, .jsr 4801],
  [.iload 2, .aload 0, .getfield 24, .if_icmp .ge 4805, .aload 0, .aload 0, .getfield 37, .ifCond .lt 4802, .aload 1, .aload 0, .getfield 22, .iload 2, .iaload, .iaload, .aload 1, .aload 0, .getfield 37, .iaload, .if_icmp .le 4803, .jsr 4802],
  [.aload 0, .getfield 22, .iload 2, .iaload, .goto 4804],
  [.aload 0, .getfield 37, .jsr 4804],
  [.putfield 37, .iinc 2 (1), .goto 4801],
  [.aload 0, .getfield 25, .ifCond .ne 4806, .aload 0, .getfield 37, .ifCond .ge 4807, .jsr 4806],
  [.iconst 0, .goto 4808],
  [.iconst 9, .aload 1, .aload 0, .getfield 37, .iaload, .isub, .jsr 4808],
  [.ireturn]]
def aLm76 : List (List Instr) := [[.aload 0, .iconst 0, .putfield 0, .aload 0, .iconst 80, .invokestatic 6, .pop, .iload 1, .i2l, .ldc2_w 17, .ldc2_w 36, .invokestatic 4, .ifCond .ne 4865, .iconst (-100), .ireturn],
  [.iconst 0, .istore 2, .iconst 1, .istore 3, .jsr 4866],
  [.iload 3, .ifCond .eq 4869, .iload 2, .iconst 8, .if_icmp .ge 4869, .aload 0, .iconst 1, .iconst 9, .invokestatic 7, .istore 4, .iload 4, .ifCond .le 4867, .iconst 1, .goto 4868],
  [.iconst 0, .jsr 4868],
  [.istore 3, .aload 0, .getfield 38, .iload 2, .iload 4, .iastore, .iload 2, .iload 3, .invokestatic 17, .iadd, .istore 2, .goto 4866],
  [.iload 2, .ifCond .eq 4870, .aload 0, .getfield 12, .aload 0, .getfield 13, .if_icmp .ge 4871, .jsr 4870],
  [.iconst (-1), .aload 0, .getfield 12, .isub, .ireturn],
  [.aload 0, .invokestatic 60, .iconst 0, .istore 4, .jsr 4872],
  [.iload 4, .iload 1, .if_icmp .ge 4873, .aload 0, .aload 0, .getfield 9, .invokestatic 25, .aload 0, .getfield 39, .iload 4, .aload 0, .aload 0, .getfield 9, .invokestatic 75, .iastore, .aload 0, .getfield 42, .iload 4, .iconst 0, .bastore, .aload 0, .aload 0, .getfield 9, .invokestatic 41, .iinc 4 (1), .goto 4872],
  [.aload 0, .iconst 0, .iload 2, .iload 1, .invokestatic 77, .istore 4, .iload 4, .istore 5, .aload 0, .iconst 0, .putfield 1, .iconst 0, .istore 6, .jsr 4874],
  [.iload 6, .iload 2, .if_icmp .ge 4890, .aload 0, .iload 6, .iconst 1, .iadd, .iload 2, .iload 1, .invokestatic 77, .iload 5, .if_icmp .ne 4875, .iconst (-1), .goto 4876],
  [.iconst 0, .jsr 4876],
  [.istore 7, .iload 7, .ifCond .ne 4877, .iconst 1, .goto 4878],
  [.iconst 0, .jsr 4878],
  [.istore 8, .jsr 4879],
  [.iload 8, .ifCond .eq 4887, .aload 0, .getfield 42, .iload 7, .baload, .ifCond .ne 4880, .aload 0, .getfield 39, .iload 7, .iaload, .aload 0, .getfield 38, .iload 6, .iaload, .if_icmp .lt 4880, .iconst 1, .goto 4881],
  [.iconst 0, .jsr 4881],
  [.istore 9, .iload 9, .ifCond .eq 4886, .aload 0, .getfield 42, .iload 7, .iconst 1, .bastore, .aload 0, .iload 6, .iconst 1, .iadd, .iload 2, .iload 1, .invokestatic 77, .iload 5, .iconst 1, .isub, .if_icmp .eq 4882, .iconst 1, .goto 4883],
  [.iconst 0, .jsr 4883],
  [.istore 8, .aload 0, .getfield 42, .iload 7, .iload 8, .ifCond .ne 4884, .iconst 1, .goto 4885],
  [.iconst 0, .jsr 4885],
  [.bastore, .jsr 4886],
  [.iload 7, .iload 8, .invokestatic 17, .iadd, .istore 7, .goto 4879],
  [.iload 5, .iload 7, .ifCond .lt 4888, .iconst 1, .goto 4889],
  [.iconst 0, .jsr 4889],
  [.invokestatic 17, .isub, .istore 5, .aload 0, .iload 7, .i2l, .invokestatic 43, .iinc 6 (1), .goto 4874],
  [.iload 4, .ireturn]]
def aLm77 : List (List Instr) := [[.iconst 0, .istore 4, .iconst 0, .istore 5, .jsr 4929],
  [.iload 5, .iload 3, .if_icmp .ge 4930, .aload 0, .getfield 40, .iload 5, .iconst (-1), .iastore, .iinc 5 (1), .goto 4929],
  [.iload 1, .istore 5, .jsr 4931],
  [.iload 5, .iload 2, .if_icmp .ge 4934, .iconst 0, .istore 6, .jsr 4932],
  [.iload 6, .iload 3, .if_icmp .ge 4933, .aload 0, .getfield 41, .iload 6, .iconst 0, .bastore, .iinc 6 (1), .goto 4932],
  [.iload 4, .aload 0, .iload 5, .iload 3, .invokestatic 78, .invokestatic 17, .iadd, .istore 4, .iinc 5 (1), .goto 4931],
  [.iload 4, .ireturn]]
def aLm78 : List (List Instr) := [[.iconst 0, .istore 3, .jsr 4993],
  [.iload 3, .iload 2, .if_icmp .ge 4996, .aload 0, .getfield 42, .iload 3, .baload, .ifCond .ne 4995, .aload 0, .getfield 41, .iload 3, .baload, .ifCond .ne 4995, .aload 0, .getfield 39, .iload 3, .iaload, .aload 0, .getfield 38, .iload 1, .iaload, .if_icmp .lt 4995, .aload 0, .getfield 41, .iload 3, .iconst 1, .bastore, .aload 0, .getfield 40, .iload 3, .iaload, .ifCond .lt 4994, .aload 0, .aload 0, .getfield 40, .iload 3, .iaload, .iload 2, .invokestatic 78, .ifCond .eq 4995, .jsr 4994],
  [.aload 0, .getfield 40, .iload 3, .iload 1, .iastore, .iconst 1, .freturn],
  [.iinc 3 (1), .goto 4993],
  [.iconst 0, .freturn]]
def aLm79 : List (List Instr) := [[.aload 0, .iconst 0, .putfield 0, .iload 1, .i2l, .ldc2_w 17, .ldc2_w 25, .invokestatic 4, .ifCond .ne 5057, .iconst (-1), .ireturn],
  [.iconst 0, .istore 2, .jsr 5058],
  [.iload 2, .aload 0, .invokestatic 10, .if_icmp .ge 5061, .aload 0, .getfield 43, .iload 2, .aload 0, .iload 2, .invokestatic 28, .ifCond .eq 5059, .aload 0, .iload 2, .iload 1, .invokestatic 80, .ifCond .eq 5059, .iconst 1, .goto 5060],
  [.iconst 1000000, .jsr 5060],
  [.iastore, .iinc 2 (1), .goto 5058],
  [.iconst 0, .istore 2, .jsr 5062],
  [.iload 2, .aload 0, .invokestatic 10, .if_icmp .ge 5069, .iconst 0, .istore 3, .jsr 5063],
  [.iload 3, .aload 0, .invokestatic 10, .if_icmp .ge 5068, .iconst 0, .istore 4, .jsr 5064],
  [.iload 4, .iconst 4, .if_icmp .ge 5067, .aload 0, .iload 3, .iload 1, .invokestatic 80, .ifCond .eq 5067, .aload 0, .iload 3, .iload 4, .invokestatic 29, .istore 5, .aload 0, .getfield 43, .iload 3, .iload 5, .ifCond .lt 5065, .aload 0, .getfield 43, .iload 3, .iaload, .aload 0, .getfield 43, .iload 5, .iaload, .iconst 1, .iadd, .invokedynamic 5, .goto 5066],
  [.aload 0, .getfield 43, .iload 3, .iaload, .jsr 5066],
  [.iastore, .iinc 4 (1), .goto 5064],
  [.iinc 3 (1), .goto 5063],
  [.iinc 2 (1), .goto 5062],
  [.aload 0, .getfield 43, .aload 0, .getfield 8, .iconst 108, .iaload, .iaload, .istore 2, .iload 2, .iconst 1000000, .if_icmp .lt 5070, .iconst (-2), .ireturn],
  [.aload 0, .iconst 0, .putfield 1, .aload 0, .getfield 8, .iconst 108, .iaload, .istore 3, .aload 0, .iload 3, .i2l, .invokestatic 43, .iload 2, .iconst 1, .isub, .istore 4, .jsr 5071],
  [.iload 4, .ifCond .le 5077, .iconst (-1), .istore 5, .iconst 0, .istore 6, .jsr 5072],
  [.iload 6, .iconst 4, .if_icmp .ge 5076, .aload 0, .iload 3, .iload 6, .invokestatic 29, .istore 7, .iload 7, .ifCond .lt 5074, .aload 0, .getfield 43, .iload 7, .iaload, .iload 4, .if_icmp .ne 5074, .iload 5, .ifCond .lt 5073, .iload 7, .iload 5, .if_icmp .ge 5074, .jsr 5073],
  [.iload 7, .goto 5075],
  [.iload 5, .jsr 5075],
  [.istore 5, .iinc 6 (1), .goto 5072],
  [.iload 5, .istore 3, .aload 0, .iload 3, .i2l, .invokestatic 43, .iinc 4 (-1), .goto 5071],
  [.iload 2, .ireturn]]
def aLm80 : List (List Instr) := [[.aload 0, .getfield 8, .iload 1, .invokestatic 26, .ifCond .ne 5121, .aload 0, .getfield 8, .iload 1, .iaload, .iconst 9, .iload 2, .isub, .if_icmp .gt 5121, .iconst 1, .goto 5122],
  [.iconst 0, .jsr 5122],
  [.freturn]]
def aLm81 : List (List Instr) := [[.aload 0, .iconst 0, .putfield 0, .aload 0, .ldc2_w 15, .putfield 109, .iconst 0, .istore 1, .aload 0, .iconst 0, .iconst 0, .ldc2_w 16, .invokestatic 82, .jsr 5185],
  [.aload 0, .getfield 45, .ldc2_w 16, .lcmp, .ifCond .ge 5186, .iinc 1 (1), .aload 0, .iload 1, .iconst 0, .ldc2_w 16, .invokestatic 82, .goto 5185],
  [.aload 0, .iconst 0, .putfield 1, .aload 0, .aload 0, .getfield 45, .invokestatic 43, .iload 1, .ireturn]]
def aLm82 : List (List Instr) := [[.iload 1, .ifCond .ne 5252, .aload 0, .aload 0, .lload 3, .invokestatic 83, .ifCond .ne 5250, .aload 0, .getfield 45, .ldc2_w 16, .lcmp, .ifCond .lt 5249, .lload 3, .aload 0, .getfield 45, .lcmp, .ifCond .ge 5250, .jsr 5249],
  [.lload 3, .goto 5251],
  [.aload 0, .getfield 45, .jsr 5251],
  [.putfield 109, .return_],
  [.iload 2, .istore 5, .jsr 5253],
  [.iload 5, .aload 0, .invokestatic 10, .if_icmp .ge 5255, .aload 0, .getfield 8, .iload 5, .invokestatic 26, .ifCond .ne 5254, .iload 5, .aload 0, .getfield 8, .iconst 108, .iaload, .if_icmp .eq 5254, .aload 0, .iload 1, .iconst 1, .isub, .iload 5, .iconst 1, .iadd, .lload 3, .ldc2_w 17, .iload 5, .lshl, .lor, .invokestatic 82, .jsr 5254],
  [.iinc 5 (1), .goto 5253],
  [.return_]]
def aLm83 : List (List Instr) := [[.aload 0, .getfield 8, .iconst 108, .iaload, .istore 3, .iconst 0, .istore 4, .jsr 5313],
  [.iload 4, .aload 0, .invokestatic 10, .if_icmp .ge 5317, .aload 0, .getfield 23, .iload 4, .aload 0, .getfield 8, .iload 4, .invokestatic 26, .ifCond .ne 5314, .lload 1, .iload 4, .invokestatic 84, .ifCond .eq 5315, .jsr 5314],
  [.iconst 1, .goto 5316],
  [.iconst 0, .jsr 5316],
  [.bastore, .iinc 4 (1), .goto 5313],
  [.aload 0, .getfield 23, .iload 3, .baload, .ifCond .eq 5318, .iconst 0, .freturn],
  [.iconst 1, .istore 4, .aload 0, .getfield 44, .iconst 0, .iload 3, .iastore, .aload 0, .getfield 23, .iload 3, .iconst 1, .bastore, .iconst 0, .istore 5, .jsr 5319],
  [.iload 5, .iload 4, .if_icmp .ge 5324, .aload 0, .aload 0, .getfield 44, .iload 5, .iaload, .invokestatic 28, .ifCond .eq 5320, .iconst 1, .freturn],
  [.iconst 0, .istore 6, .jsr 5321],
  [.iload 6, .iconst 4, .if_icmp .ge 5323, .aload 0, .aload 0, .getfield 44, .iload 5, .iaload, .iload 6, .invokestatic 29, .istore 7, .iload 7, .ifCond .lt 5322, .aload 0, .getfield 23, .iload 7, .baload, .ifCond .ne 5322, .aload 0, .getfield 23, .iload 7, .iconst 1, .bastore, .aload 0, .getfield 44, .iload 4, .iload 7, .iastore, .iinc 4 (1), .jsr 5322],
  [.iinc 6 (1), .goto 5321],
  [.iinc 5 (1), .goto 5319],
  [.iconst 0, .freturn]]
def aLm84 : List (List Instr) := [[.lload 0, .iload 2, .lshr, .ldc2_w 17, .land, .ldc2_w 17, .lcmp, .ifCond .ne 5377, .iconst 1, .goto 5378],
  [.iconst 0, .jsr 5378],
  [.freturn]]
def aLm85 : List (List Instr) := [[.aload 0, .iconst 0, .putfield 0, .iload 1, .i2l, .ldc2_w 16, .ldc2_w 36, .invokestatic 4, .ifCond .eq 5441, .aload 0, .iload 2, .invokestatic 23, .ifCond .eq 5441, .iload 3, .i2l, .ldc2_w 16, .ldc2_w 17, .invokestatic 4, .ifCond .eq 5441, .aload 0, .getfield 46, .iconst 10, .if_icmp .ne 5442, .jsr 5441],
  [.iconst (-1), .ireturn],
  [.aload 0, .getfield 47, .aload 0, .getfield 46, .iload 1, .iastore, .aload 0, .getfield 48, .aload 0, .getfield 46, .iload 2, .iastore, .aload 0, .getfield 49, .aload 0, .getfield 46, .iload 3, .iastore, .aload 0, .dup, .getfield 46, .iconst 1, .iadd, .putfield 46, .aload 0, .getfield 46, .ireturn]]
def aLm86 : List (List Instr) := [[.aload 0, .iconst 0, .putfield 0, .aload 0, .getfield 46, .istore 1, .aload 0, .iconst 0, .putfield 46, .iload 1, .ireturn]]
def aLm87 : List (List Instr) := [[.aload 0, .iconst 0, .putfield 0, .aload 0, .invokestatic 88, .istore 1, .aload 0, .iconst 0, .putfield 1, .aload 0, .iload 1, .invokestatic 121, .i2l, .invokestatic 43, .iload 1, .ireturn]]
def aLm88 : List (List Instr) := [[.iconst 0, .istore 1, .iconst 0, .istore 2, .jsr 5633],
  [.iload 2, .aload 0, .getfield 4, .if_icmp .ge 5636, .iload 1, .aload 0, .iload 2, .invokestatic 89, .ifCond .eq 5634, .iconst 1, .iload 2, .ishl, .goto 5635],
  [.iconst 0, .jsr 5635],
  [.ior, .istore 1, .iinc 2 (1), .goto 5633],
  [.iload 1, .ireturn]]
def aLm89 : List (List Instr) := [[.aload 0, .invokestatic 60, .aload 0, .getfield 9, .iconst 108, .iload 1, .iastore, .iconst 1, .istore 2, .iconst 0, .istore 3, .jsr 5697],
  [.iload 3, .iconst 20, .if_icmp .gt 5703, .aload 0, .aload 0, .getfield 9, .invokestatic 25, .iconst 0, .istore 4, .jsr 5698],
  [.iload 4, .aload 0, .getfield 46, .if_icmp .ge 5702, .iload 2, .ifCond .eq 5700, .aload 0, .getfield 47, .iload 4, .iaload, .iload 3, .if_icmp .ne 5699, .aload 0, .getfield 23, .aload 0, .getfield 48, .iload 4, .iaload, .baload, .invokestatic 17, .aload 0, .getfield 49, .iload 4, .iaload, .if_icmp .ne 5700, .jsr 5699],
  [.iconst 1, .goto 5701],
  [.iconst 0, .jsr 5701],
  [.istore 2, .iinc 4 (1), .goto 5698],
  [.aload 0, .aload 0, .getfield 9, .invokestatic 41, .iinc 3 (1), .goto 5697],
  [.iload 2, .freturn]]
def aLm90 : List (List Instr) := [[.aload 0, .iconst 0, .putfield 0, .iload 1, .i2l, .ldc2_w 16, .ldc2_w 36, .invokestatic 4, .ifCond .ne 5761, .iconst (-1), .ireturn],
  [.aload 0, .invokestatic 88, .istore 2, .iload 2, .ifCond .ne 5762, .iconst (-2), .ireturn],
  [.iconst 0, .istore 3, .jsr 5763],
  [.iload 3, .aload 0, .getfield 4, .if_icmp .ge 5764, .aload 0, .invokestatic 60, .aload 0, .getfield 9, .iconst 108, .iload 3, .iastore, .aload 0, .aload 0, .getfield 9, .iload 1, .invokestatic 40, .pop, .aload 0, .aload 0, .getfield 9, .invokestatic 25, .aload 0, .getfield 50, .iload 3, .aload 0, .invokestatic 67, .lastore, .iinc 3 (1), .goto 5763],
  [.iconst (-1), .istore 3, .iconst 1000000, .istore 4, .iconst 0, .istore 5, .jsr 5765],
  [.iload 5, .aload 0, .invokestatic 10, .if_icmp .ge 5772, .iconst 0, .istore 6, .iconst 0, .istore 7, .jsr 5766],
  [.iload 7, .aload 0, .getfield 4, .if_icmp .ge 5769, .iload 6, .iload 2, .i2l, .iload 7, .invokestatic 84, .ifCond .eq 5767, .aload 0, .getfield 50, .iload 7, .laload, .iload 5, .invokestatic 84, .ifCond .eq 5767, .iconst 1, .goto 5768],
  [.iconst 0, .jsr 5768],
  [.invokestatic 17, .iadd, .istore 6, .iinc 7 (1), .goto 5766],
  [.iload 6, .iload 2, .invokestatic 121, .iload 6, .isub, .invokedynamic 6, .istore 7, .iload 7, .iload 4, .if_icmp .ge 5770, .iload 5, .goto 5771],
  [.iload 3, .jsr 5771],
  [.istore 3, .iload 4, .iload 7, .invokedynamic 5, .istore 4, .iinc 5 (1), .goto 5765],
  [.aload 0, .iconst 0, .putfield 1, .aload 0, .iload 4, .i2l, .invokestatic 43, .iload 3, .ireturn]]
def aLm91 : List (List Instr) := [[.aload 0, .iconst 0, .putfield 0, .aload 0, .iload 1, .invokestatic 23, .ifCond .eq 5825, .aload 0, .iload 1, .invokestatic 28, .ifCond .ne 5825, .iload 2, .i2l, .ldc2_w 16, .ldc2_w 18, .invokestatic 4, .ifCond .eq 5825, .aload 0, .getfield 51, .iconst 10, .if_icmp .ne 5826, .jsr 5825],
  [.iconst (-1), .ireturn],
  [.aload 0, .getfield 52, .aload 0, .getfield 51, .iload 1, .iastore, .aload 0, .getfield 53, .aload 0, .getfield 51, .iload 2, .iastore, .aload 0, .dup, .getfield 51, .iconst 1, .iadd, .putfield 51, .aload 0, .getfield 51, .ireturn]]
def aLm92 : List (List Instr) := [[.aload 0, .iconst 0, .putfield 0, .aload 0, .getfield 51, .istore 1, .aload 0, .iconst 0, .putfield 51, .iload 1, .ireturn]]
def aLm93 : List (List Instr) := [[.aload 0, .iconst 0, .putfield 0, .iconst 0, .istore 1, .aload 0, .iconst 0, .putfield 1, .iconst 0, .istore 2, .jsr 5953],
  [.iload 2, .iconst 64, .if_icmp .ge 5959, .iconst 1, .istore 3, .iconst 0, .istore 4, .jsr 5954],
  [.iload 4, .aload 0, .getfield 51, .if_icmp .ge 5957, .iload 3, .ifCond .eq 5955, .aload 0, .aload 0, .getfield 52, .iload 4, .iaload, .iload 2, .iconst 16, .idiv, .iload 2, .iconst 4, .idiv, .iconst 4, .irem, .iload 2, .iconst 4, .irem, .invokestatic 94, .aload 0, .getfield 53, .iload 4, .iaload, .if_icmp .ne 5955, .iconst 1, .goto 5956],
  [.iconst 0, .jsr 5956],
  [.istore 3, .iinc 4 (1), .goto 5954],
  [.iload 3, .ifCond .eq 5958, .iload 1, .ifCond .ne 5958, .aload 0, .iload 2, .iconst 16, .idiv, .i2l, .invokestatic 43, .aload 0, .iload 2, .iconst 4, .idiv, .iconst 4, .irem, .i2l, .invokestatic 43, .aload 0, .iload 2, .iconst 4, .irem, .i2l, .invokestatic 43, .jsr 5958],
  [.iload 1, .iload 3, .invokestatic 17, .iadd, .istore 1, .iinc 2 (1), .goto 5953],
  [.iload 1, .ireturn]]
def aLm94 : List (List Instr) := [[.iconst (-1), .istore 5, .iconst 0, .istore 6, .iconst 0, .istore 7, .jsr 6017],
  [.iload 7, .iconst 3, .if_icmp .ge 6022, .aload 0, .iload 1, .iload 7, .invokestatic 29, .istore 8, .iload 8, .ifCond .lt 6021, .aload 0, .getfield 8, .iload 8, .invokestatic 26, .ifCond .ne 6021, .iload 2, .aload 0, .getfield 8, .iload 8, .iaload, .imul, .iload 3, .iload 7, .ifCond .le 6018, .iconst 1, .goto 6019],
  [.iconst 0, .jsr 6019],
  [.invokestatic 17, .imul, .iadd, .iload 4, .aload 0, .getfield 8, .iconst 72, .iload 8, .iadd, .iaload, .imul, .isub, .istore 9, .iload 5, .ifCond .lt 6020, .iload 9, .iload 6, .if_icmp .ge 6021, .jsr 6020],
  [.iload 7, .istore 5, .iload 9, .istore 6, .jsr 6021],
  [.iinc 7 (1), .goto 6017],
  [.iload 5, .ireturn]]
def aLm95 : List (List Instr) := [[.aload 0, .iconst 0, .putfield 0, .iload 1, .i2l, .ldc2_w 16, .ldc2_w 76, .invokestatic 4, .ifCond .eq 6081, .iload 2, .i2l, .ldc2_w 17, .ldc2_w 25, .invokestatic 4, .ifCond .ne 6082, .jsr 6081],
  [.iconst (-1), .ireturn],
  [.iconst 0, .istore 3, .jsr 6083],
  [.iload 3, .iload 1, .if_icmp .gt 6090, .iconst 0, .istore 4, .jsr 6084],
  [.iload 4, .iconst 10, .if_icmp .ge 6089, .iconst 10, .iload 3, .imul, .iload 4, .iadd, .istore 5, .aload 0, .getfield 54, .iload 5, .iconst 0, .iastore, .iload 2, .iload 3, .invokedynamic 5, .istore 6, .jsr 6085],
  [.iload 6, .ifCond .le 6088, .aload 0, .getfield 54, .iload 5, .iload 6, .iload 4, .if_icmp .eq 6086, .aload 0, .getfield 54, .iconst 10, .iload 3, .iload 6, .isub, .imul, .iload 6, .iadd, .iaload, .ifCond .ne 6086, .iload 6, .goto 6087],
  [.aload 0, .getfield 54, .iload 5, .iaload, .jsr 6087],
  [.iastore, .iinc 6 (-1), .goto 6085],
  [.iinc 4 (1), .goto 6084],
  [.iinc 3 (1), .goto 6083],
  [.aload 0, .getfield 54, .iconst 10, .iload 1, .imul, .iaload, .ireturn]]
def aLm96 : List (List Instr) := [[.aload 0, .iconst 0, .putfield 0, .iload 1, .i2l, .ldc2_w 17, .ldc2_w 28, .invokestatic 4, .ifCond .eq 6145, .iload 2, .i2l, .ldc2_w 17, .ldc2_w 28, .invokestatic 4, .ifCond .eq 6145, .iload 3, .i2l, .ldc2_w 16, .ldc2_w 26, .invokestatic 4, .ifCond .ne 6146, .jsr 6145],
  [.iconst (-1), .ireturn],
  [.ldc2_w 16, .lstore 4, .ldc2_w 17, .lstore 6, .iconst 0, .istore 8, .jsr 6147],
  [.iload 8, .iload 1, .if_icmp .ge 6148, .lload 6, .ldc2_w 26, .lmul, .lstore 6, .iinc 8 (1), .goto 6147],
  [.iconst 0, .istore 8, .jsr 6149],
  [.iload 8, .iconst 1, .iload 1, .ishl, .if_icmp .ge 6158, .ldc2_w 17, .lstore 9, .iconst 0, .istore 11, .iconst 0, .istore 12, .iconst 0, .istore 13, .jsr 6150],
  [.iload 13, .iload 1, .if_icmp .ge 6155, .lload 9, .iload 8, .i2l, .iload 13, .invokestatic 84, .ifCond .eq 6151, .iload 3, .i2l, .goto 6152],
  [.iconst 10, .iload 3, .isub, .i2l, .jsr 6152],
  [.lmul, .lstore 9, .iload 8, .i2l, .iload 13, .invokestatic 84, .ifCond .eq 6153, .iload 11, .iconst 1, .iadd, .goto 6154],
  [.iconst 0, .jsr 6154],
  [.istore 11, .iload 12, .iload 11, .invokedynamic 6, .istore 12, .iinc 13 (1), .goto 6150],
  [.lload 4, .iload 12, .iload 2, .if_icmp .lt 6156, .lload 9, .goto 6157],
  [.ldc2_w 16, .jsr 6157],
  [.ladd, .lstore 4, .iinc 8 (1), .goto 6149],
  [.lload 4, .lload 6, .invokestatic 97, .lstore 8, .aload 0, .iconst 0, .putfield 1, .aload 0, .lload 4, .lload 8, .ldiv, .invokestatic 43, .aload 0, .lload 6, .lload 8, .ldiv, .invokestatic 43, .iconst 0, .ireturn]]
def aLm97 : List (List Instr) := [[.lload 2, .ldc2_w 16, .lcmp, .ifCond .ne 6209, .lload 0, .goto 6210],
  [.lload 2, .lload 0, .lload 2, .lrem, .invokestatic 97, .jsr 6210],
  [.lreturn]]
def aLm98 : List (List Instr) := [[.aload 0, .iconst 0, .putfield 0, .aload 0, .invokestatic 13, .istore 1, .iload 1, .ifCond .ge 6273, .iload 1, .iconst 1, .iadd, .iconst 10000, .isub, .ireturn],
  [.aload 0, .aload 0, .getfield 8, .invokestatic 25, .aload 0, .getfield 24, .istore 2, .aload 0, .getfield 18, .istore 3, .iconst 0, .istore 4, .jsr 6274],
  [.iload 4, .aload 0, .getfield 18, .if_icmp .ge 6275, .aload 0, .getfield 55, .iload 4, .aload 0, .getfield 16, .iload 4, .iaload, .iastore, .iinc 4 (1), .goto 6274],
  [.aload 0, .aload 0, .getfield 17, .aload 0, .getfield 19, .invokestatic 21, .aload 0, .aload 0, .getfield 8, .invokestatic 25, .aload 0, .aload 0, .getfield 55, .iload 3, .invokestatic 21, .aload 0, .iconst 0, .putfield 1, .aload 0, .aload 0, .getfield 24, .i2l, .invokestatic 43, .aload 0, .iload 2, .i2l, .invokestatic 43, .aload 0, .invokestatic 58, .ireturn]]
def aLm99 : List (List Instr) := [[.aload 0, .iconst 0, .putfield 0, .iload 1, .i2l, .ldc2_w 16, .ldc2_w 36, .invokestatic 4, .ifCond .ne 6337, .iconst (-1), .ireturn],
  [.iconst 0, .istore 2, .aload 0, .iconst 0, .putfield 1, .iconst 0, .istore 3, .jsr 6338],
  [.iload 3, .iconst 9, .if_icmp .gt 6343, .iconst 0, .istore 4, .jsr 6339],
  [.iload 4, .iconst 9, .if_icmp .gt 6342, .iload 3, .iload 4, .iload 1, .invokestatic 100, .ifCond .eq 6341, .iload 4, .iload 3, .iload 1, .invokestatic 100, .ifCond .eq 6341, .iload 2, .ifCond .ne 6340, .aload 0, .iload 3, .i2l, .invokestatic 43, .aload 0, .iload 4, .i2l, .invokestatic 43, .jsr 6340],
  [.iinc 2 (1), .jsr 6341],
  [.iinc 4 (1), .goto 6339],
  [.iinc 3 (1), .goto 6338],
  [.iload 2, .ireturn]]
def aLm100 : List (List Instr) := [[.iconst 1, .istore 3, .iconst 0, .istore 4, .jsr 6401],
  [.iload 4, .iconst 9, .if_icmp .gt 6404, .iload 3, .ifCond .eq 6402, .iload 4, .iload 1, .iload 2, .invokestatic 101, .iload 0, .iload 1, .iload 2, .invokestatic 101, .if_icmp .gt 6402, .iconst 1, .goto 6403],
  [.iconst 0, .jsr 6403],
  [.istore 3, .iinc 4 (1), .goto 6401],
  [.iload 3, .freturn]]
def aLm101 : List (List Instr) := [[.iload 2, .iconst 9, .iload 0, .iload 1, .iadd, .invokedynamic 5, .imul, .iconst 9, .idiv, .iconst 2, .iload 0, .imul, .iconst 3, .idiv, .isub, .iload 0, .iload 1, .if_icmp .le 6465, .iconst 1, .goto 6466],
  [.iconst 0, .jsr 6466],
  [.invokestatic 17, .isub, .ireturn]]
def aLm102 : List (List Instr) := [[.aload 0, .iconst 0, .putfield 0, .iload 2, .i2l, .ldc2_w 17, .ldc2_w 76, .invokestatic 4, .ifCond .ne 6529, .iconst (-1), .ireturn],
  [.aload 0, .iload 1, .putfield 56, .aload 0, .invokestatic 60, .iconst 0, .istore 3, .iconst 0, .istore 4, .jsr 6530],
  [.iload 4, .iload 2, .if_icmp .ge 6534, .aload 0, .iconst 4, .invokestatic 103, .istore 5, .iload 5, .iconst 2, .if_icmp .ge 6531, .iload 3, .aload 0, .aload 0, .getfield 9, .iconst 1, .invokestatic 40, .iadd, .istore 3, .goto 6533],
  [.aload 0, .aload 0, .invokestatic 10, .invokestatic 103, .istore 6, .iload 5, .iconst 2, .if_icmp .ne 6532, .aload 0, .aload 0, .getfield 9, .iload 6, .iconst 1, .aload 0, .iconst 3, .invokestatic 103, .iadd, .invokestatic 46, .pop, .goto 6533],
  [.aload 0, .aload 0, .getfield 9, .iload 6, .invokestatic 51, .pop, .jsr 6533],
  [.iinc 4 (1), .goto 6530],
  [.aload 0, .iconst 0, .putfield 1, .aload 0, .aload 0, .aload 0, .getfield 9, .iconst 0, .invokestatic 36, .i2l, .invokestatic 43, .aload 0, .aload 0, .getfield 9, .iconst 110, .iaload, .i2l, .invokestatic 43, .iload 3, .ireturn]]
def aLm103 : List (List Instr) := [[.aload 0, .aload 0, .getfield 56, .iconst 1103515245, .imul, .iconst 12345, .iadd, .putfield 56, .aload 0, .getfield 56, .iconst 16, .iushr, .iload 1, .irem, .ireturn]]
def aLm104 : List (List Instr) := [[.aload 0, .iconst 0, .putfield 0, .iload 1, .i2l, .ldc2_w 16, .ldc2_w 18, .invokestatic 4, .ifCond .ne 6657, .iconst 0, .freturn],
  [.aload 0, .getfield 57, .iload 1, .iconst 1, .bastore, .aload 0, .getfield 58, .iload 1, .aload 0, .getfield 5, .iastore, .iconst 0, .istore 2, .jsr 6658],
  [.iload 2, .iconst 111, .if_icmp .ge 6659, .aload 0, .getfield 59, .iconst 111, .iload 1, .imul, .iload 2, .iadd, .aload 0, .getfield 8, .iload 2, .iaload, .iastore, .iinc 2 (1), .goto 6658],
  [.iconst 1, .freturn]]
def aLm105 : List (List Instr) := [[.aload 0, .iconst 0, .putfield 0, .iload 1, .i2l, .ldc2_w 16, .ldc2_w 18, .invokestatic 4, .ifCond .eq 6721, .aload 0, .getfield 57, .iload 1, .baload, .ifCond .eq 6721, .aload 0, .getfield 58, .iload 1, .iaload, .aload 0, .getfield 5, .if_icmp .eq 6722, .jsr 6721],
  [.iconst 0, .freturn],
  [.iconst 0, .istore 2, .jsr 6723],
  [.iload 2, .iconst 111, .if_icmp .ge 6724, .aload 0, .getfield 8, .iload 2, .aload 0, .getfield 59, .iconst 111, .iload 1, .imul, .iload 2, .iadd, .iaload, .iastore, .iinc 2 (1), .goto 6723],
  [.aload 0, .iconst 0, .putfield 26, .iconst 1, .freturn]]
def aLm106 : List (List Instr) := [[.aload 0, .iconst 0, .putfield 0, .iload 1, .tableswitch 6799 (0) (13) #[6785, 6786, 6787, 6788, 6789, 6790, 6791, 6792, 6793, 6794, 6795, 6796, 6797, 6798]],
  [.aload 0, .getfield 3, .ireturn],
  [.aload 0, .getfield 4, .ireturn],
  [.aload 0, .getfield 8, .iconst 108, .iaload, .ireturn],
  [.aload 0, .getfield 8, .iconst 109, .iaload, .ireturn],
  [.aload 0, .getfield 8, .iconst 110, .iaload, .ireturn],
  [.aload 0, .aload 0, .getfield 8, .iconst 0, .invokestatic 36, .ireturn],
  [.aload 0, .aload 0, .getfield 8, .iconst 36, .invokestatic 36, .ireturn],
  [.aload 0, .aload 0, .getfield 8, .iconst 72, .invokestatic 36, .ireturn],
  [.aload 0, .aload 0, .getfield 8, .iconst 109, .iaload, .invokestatic 31, .ireturn],
  [.aload 0, .getfield 46, .ireturn],
  [.aload 0, .getfield 51, .ireturn],
  [.aload 0, .getfield 26, .ireturn],
  [.aload 0, .getfield 1, .ireturn],
  [.aload 0, .getfield 11, .ireturn],
  [.iconst (-100), .ireturn]]
def aLm107 : List (List Instr) := [[.aload 0, .iconst 0, .putfield 0, .iload 1, .i2l, .ldc2_w 16, .aload 0, .getfield 1, .iconst 1, .isub, .i2l, .invokestatic 4, .ifCond .ne 6849, .aload 0, .iconst 1, .putfield 0, .ldc2_w 16, .lreturn],
  [.aload 0, .getfield 2, .iload 1, .laload, .lreturn]]
def aLm120 : List (List Instr) := [[.iload 0, .iconst (-1), .ixor, .iload 0, .iconst 1, .isub, .iand, .istore 0, .iload 0, .ifCond .gt 7681, .iload 0, .iconst 32, .iand, .ireturn],
  [.iconst 1, .istore 1, .iload 0, .iconst 65536, .if_icmp .le 7682, .iinc 1 (16), .iload 0, .iconst 16, .iushr, .istore 0, .jsr 7682],
  [.iload 0, .iconst 256, .if_icmp .le 7683, .iinc 1 (8), .iload 0, .iconst 8, .iushr, .istore 0, .jsr 7683],
  [.iload 0, .iconst 16, .if_icmp .le 7684, .iinc 1 (4), .iload 0, .iconst 4, .iushr, .istore 0, .jsr 7684],
  [.iload 0, .iconst 4, .if_icmp .le 7685, .iinc 1 (2), .iload 0, .iconst 2, .iushr, .istore 0, .jsr 7685],
  [.iload 1, .iload 0, .iconst 1, .iushr, .iadd, .ireturn]]
def aLm121 : List (List Instr) := [[.iload 0, .iload 0, .iconst 1, .iushr, .iconst 1431655765, .iand, .isub, .istore 0, .iload 0, .iconst 858993459, .iand, .iload 0, .iconst 2, .iushr, .iconst 858993459, .iand, .iadd, .istore 0, .iload 0, .iload 0, .iconst 4, .iushr, .iadd, .iconst 252645135, .iand, .istore 0, .iload 0, .iload 0, .iconst 8, .iushr, .iadd, .istore 0, .iload 0, .iload 0, .iconst 16, .iushr, .iadd, .istore 0, .iload 0, .iconst 63, .iand, .ireturn]]
def aLm122 : List (List Instr) := [[.lload 0, .lload 0, .iconst 1, .lushr, .ldc2_w 6148914691236517221, .land, .lsub, .lstore 0, .lload 0, .ldc2_w 3689348814741910339, .land, .lload 0, .iconst 2, .lushr, .ldc2_w 3689348814741910339, .land, .ladd, .lstore 0, .lload 0, .lload 0, .iconst 4, .lushr, .ladd, .ldc2_w 1085102592571150111, .land, .lstore 0, .lload 0, .lload 0, .iconst 8, .lushr, .ladd, .lstore 0, .lload 0, .lload 0, .iconst 16, .lushr, .ladd, .lstore 0, .lload 0, .lload 0, .iconst 32, .lushr, .ladd, .lstore 0, .lload 0, .l2i, .iconst 127, .iand, .ireturn]]
def aLm123 : List (List Instr) := [[.lload 0, .l2i, .istore 2, .iload 2, .ifCond .ne 7873, .iconst 32, .lload 0, .iconst 32, .lushr, .l2i, .invokestatic 120, .iadd, .goto 7874],
  [.iload 2, .invokestatic 120, .jsr 7874],
  [.ireturn]]
def aLm124 : List (List Instr) := [[.iconst 0, .istore 2, .aload 0, .arraylength, .istore 3, .jsr 7937],
  [.iload 2, .iload 3, .if_icmp .ge 7938, .aload 0, .iload 2, .iload 1, .iastore, .iinc 2 (1), .goto 7937],
  [.return_]]
def aLm125 : List (List Instr) := [[.iconst 0, .istore 3, .aload 0, .arraylength, .istore 4, .jsr 8001],
  [.iload 3, .iload 4, .if_icmp .ge 8002, .aload 0, .iload 3, .lload 1, .lastore, .iinc 3 (1), .goto 8001],
  [.return_]]
def aLm140 : List (List Instr) := [[.new 1, .dup, .invokestatic 150, .astore 1, .new 0, .dup, .invokestatic 0, .astore 2, .iconst 1, .newarray .long, .astore 3, .iconst 0, .istore 4, .jsr 8961],
  [.iload 4, .aload 0, .arraylength, .iconst 5, .isub, .if_icmp .gt 9014, .aload 0, .iload 4, .iaload, .iconst 63, .iand, .tableswitch 9013 (0) (44) #[8962, 8963, 8964, 8965, 8966, 8967, 8970, 8973, 8974, 8975, 8976, 8977, 8978, 8979, 8980, 8981, 8982, 8983, 8984, 8985, 8986, 8987, 8988, 8989, 8990, 8991, 8992, 8993, 8994, 8995, 8996, 8997, 8998, 8999, 9000, 9001, 9002, 9003, 9004, 9005, 9006, 9007, 9008, 9009, 9010]],
  [.aload 1, .aload 0, .iload 4, .iconst 1, .iadd, .iaload, .invokestatic 151, .aload 2, .aload 0, .iload 4, .iconst 1, .iadd, .iaload, .invokestatic 2, .if_icmp .eq 9013, .iconst 0, .freturn],
  [.aload 1, .aload 0, .iload 4, .iconst 1, .iadd, .iaload, .invokestatic 152, .aload 2, .aload 0, .iload 4, .iconst 1, .iadd, .iaload, .invokestatic 3, .if_icmp .eq 9013, .iconst 0, .freturn],
  [.aload 1, .invokestatic 153, .aload 2, .invokestatic 5, .if_icmp .eq 9013, .iconst 0, .freturn],
  [.aload 1, .invokestatic 156, .aload 2, .invokestatic 11, .if_icmp .eq 9013, .iconst 0, .freturn],
  [.aload 1, .invokestatic 157, .aload 2, .invokestatic 12, .if_icmp .eq 9013, .iconst 0, .freturn],
  [.aload 1, .aload 0, .iload 4, .iconst 1, .iadd, .iaload, .aload 0, .iload 4, .iconst 2, .iadd, .iaload, .aload 3, .invokestatic 141, .istore 5, .aload 2, .aload 0, .iload 4, .iconst 1, .iadd, .iaload, .aload 0, .iload 4, .iconst 2, .iadd, .iaload, .invokestatic 22, .istore 6, .aload 2, .invokestatic 1, .iload 5, .if_icmp .eq 8968, .iconst 0, .freturn],
  [.iload 5, .ifCond .ne 8969, .aload 3, .iconst 0, .laload, .iload 6, .i2l, .lcmp, .ifCond .eq 8969, .iconst 0, .freturn],
  [.goto 9013],
  [.aload 1, .aload 0, .iload 4, .iconst 1, .iadd, .iaload, .aload 0, .iload 4, .iconst 2, .iadd, .iaload, .aload 3, .invokestatic 142, .istore 5, .aload 2, .aload 0, .iload 4, .iconst 1, .iadd, .iaload, .aload 0, .iload 4, .iconst 2, .iadd, .iaload, .invokestatic 34, .istore 6, .aload 2, .invokestatic 1, .iload 5, .if_icmp .eq 8971, .iconst 0, .freturn],
  [.iload 5, .ifCond .ne 8972, .aload 3, .iconst 0, .laload, .iload 6, .i2l, .lcmp, .ifCond .eq 8972, .iconst 0, .freturn],
  [.goto 9013],
  [.aload 1, .aload 0, .iload 4, .iconst 1, .iadd, .iaload, .aload 0, .iload 4, .iconst 2, .iadd, .iaload, .aload 0, .iload 4, .iconst 3, .iadd, .iaload, .aload 0, .iload 4, .iconst 4, .iadd, .iaload, .invokestatic 158, .aload 2, .aload 0, .iload 4, .iconst 1, .iadd, .iaload, .aload 0, .iload 4, .iconst 2, .iadd, .iaload, .aload 0, .iload 4, .iconst 3, .iadd, .iaload, .aload 0, .iload 4, .iconst 4, .iadd, .iaload, .invokestatic 35, .if_icmp .eq 9013, .iconst 0, .freturn],
  [.aload 1, .aload 0, .iload 4, .iconst 1, .iadd, .iaload, .invokestatic 160, .aload 2, .aload 0, .iload 4, .iconst 1, .iadd, .iaload, .invokestatic 38, .if_icmp .eq 9013, .iconst 0, .freturn],
  [.aload 1, .aload 0, .iload 4, .iconst 1, .iadd, .iaload, .aload 0, .iload 4, .iconst 2, .iadd, .iaload, .invokestatic 162, .aload 2, .aload 0, .iload 4, .iconst 1, .iadd, .iaload, .aload 0, .iload 4, .iconst 2, .iadd, .iaload, .invokestatic 45, .if_icmp .eq 9013, .iconst 0, .freturn],
  [.aload 1, .aload 0, .iload 4, .iconst 1, .iadd, .iaload, .aload 0, .iload 4, .iconst 2, .iadd, .iaload, .invokestatic 165, .aload 2, .aload 0, .iload 4, .iconst 1, .iadd, .iaload, .aload 0, .iload 4, .iconst 2, .iadd, .iaload, .invokestatic 48, .if_icmp .eq 9013, .iconst 0, .freturn],
  [.aload 1, .aload 0, .iload 4, .iconst 1, .iadd, .iaload, .invokestatic 167, .aload 2, .aload 0, .iload 4, .iconst 1, .iadd, .iaload, .invokestatic 50, .if_icmp .eq 9013, .iconst 0, .freturn],
  [.aload 1, .aload 0, .iload 4, .iconst 1, .iadd, .iaload, .invokestatic 169, .aload 2, .aload 0, .iload 4, .iconst 1, .iadd, .iaload, .invokestatic 52, .if_icmp .eq 9013, .iconst 0, .freturn],
  [.aload 1, .invokestatic 171, .aload 2, .invokestatic 54, .if_icmp .eq 9013, .iconst 0, .freturn],
  [.aload 1, .invokestatic 175, .aload 2, .invokestatic 37, .if_icmp .eq 9013, .iconst 0, .freturn],
  [.aload 1, .invokestatic 176, .aload 2, .invokestatic 57, .if_icmp .eq 9013, .iconst 0, .freturn],
  [.aload 1, .aload 0, .iload 4, .iconst 1, .iadd, .iaload, .invokestatic 177, .aload 2, .aload 0, .iload 4, .iconst 1, .iadd, .iaload, .invokestatic 59, .if_icmp .eq 9013, .iconst 0, .freturn],
  [.aload 1, .invokestatic 178, .aload 2, .invokestatic 61, .if_icmp .eq 9013, .iconst 0, .freturn],
  [.aload 1, .aload 0, .iload 4, .iconst 1, .iadd, .iaload, .invokestatic 179, .aload 2, .aload 0, .iload 4, .iconst 1, .iadd, .iaload, .invokestatic 62, .if_icmp .eq 9013, .iconst 0, .freturn],
  [.aload 1, .aload 0, .iload 4, .iconst 1, .iadd, .iaload, .invokestatic 181, .aload 2, .aload 0, .iload 4, .iconst 1, .iadd, .iaload, .invokestatic 65, .if_icmp .eq 9013, .iconst 0, .freturn],
  [.aload 1, .aload 0, .iload 4, .iconst 1, .iadd, .iaload, .invokestatic 182, .aload 2, .aload 0, .iload 4, .iconst 1, .iadd, .iaload, .invokestatic 66, .lcmp, .ifCond .eq 9013, .iconst 0, .freturn],
  [.aload 1, .aload 0, .iload 4, .iconst 1, .iadd, .iaload, .invokestatic 183, .aload 2, .aload 0, .iload 4, .iconst 1, .iadd, .iaload, .invokestatic 68, .if_icmp .eq 9013, .iconst 0, .freturn],
  [.aload 1, .invokestatic 186, .aload 2, .invokestatic 71, .if_icmp .eq 9013, .iconst 0, .freturn],
  [.aload 1, .invokestatic 187, .aload 2, .invokestatic 72, .if_icmp .eq 9013, .iconst 0, .freturn],
  [.aload 1, .invokestatic 188, .aload 2, .invokestatic 73, .if_icmp .eq 9013, .iconst 0, .freturn],
  [.aload 1, .invokestatic 190, .aload 2, .invokestatic 74, .if_icmp .eq 9013, .iconst 0, .freturn],
  [.aload 1, .aload 0, .iload 4, .iconst 1, .iadd, .iaload, .invokestatic 191, .aload 2, .aload 0, .iload 4, .iconst 1, .iadd, .iaload, .invokestatic 76, .if_icmp .eq 9013, .iconst 0, .freturn],
  [.aload 1, .aload 0, .iload 4, .iconst 1, .iadd, .iaload, .invokestatic 193, .aload 2, .aload 0, .iload 4, .iconst 1, .iadd, .iaload, .invokestatic 79, .if_icmp .eq 9013, .iconst 0, .freturn],
  [.aload 1, .invokestatic 194, .aload 2, .invokestatic 81, .if_icmp .eq 9013, .iconst 0, .freturn],
  [.aload 1, .aload 0, .iload 4, .iconst 1, .iadd, .iaload, .aload 0, .iload 4, .iconst 2, .iadd, .iaload, .aload 0, .iload 4, .iconst 3, .iadd, .iaload, .invokestatic 197, .aload 2, .aload 0, .iload 4, .iconst 1, .iadd, .iaload, .aload 0, .iload 4, .iconst 2, .iadd, .iaload, .aload 0, .iload 4, .iconst 3, .iadd, .iaload, .invokestatic 85, .if_icmp .eq 9013, .iconst 0, .freturn],
  [.aload 1, .invokestatic 198, .aload 2, .invokestatic 86, .if_icmp .eq 9013, .iconst 0, .freturn],
  [.aload 1, .invokestatic 199, .aload 2, .invokestatic 87, .if_icmp .eq 9013, .iconst 0, .freturn],
  [.aload 1, .aload 0, .iload 4, .iconst 1, .iadd, .iaload, .invokestatic 203, .aload 2, .aload 0, .iload 4, .iconst 1, .iadd, .iaload, .invokestatic 90, .if_icmp .eq 9013, .iconst 0, .freturn],
  [.aload 1, .aload 0, .iload 4, .iconst 1, .iadd, .iaload, .aload 0, .iload 4, .iconst 2, .iadd, .iaload, .invokestatic 205, .aload 2, .aload 0, .iload 4, .iconst 1, .iadd, .iaload, .aload 0, .iload 4, .iconst 2, .iadd, .iaload, .invokestatic 91, .if_icmp .eq 9013, .iconst 0, .freturn],
  [.aload 1, .invokestatic 206, .aload 2, .invokestatic 92, .if_icmp .eq 9013, .iconst 0, .freturn],
  [.aload 1, .invokestatic 207, .aload 2, .invokestatic 93, .if_icmp .eq 9013, .iconst 0, .freturn],
  [.aload 1, .aload 0, .iload 4, .iconst 1, .iadd, .iaload, .aload 0, .iload 4, .iconst 2, .iadd, .iaload, .invokestatic 210, .aload 2, .aload 0, .iload 4, .iconst 1, .iadd, .iaload, .aload 0, .iload 4, .iconst 2, .iadd, .iaload, .invokestatic 95, .if_icmp .eq 9013, .iconst 0, .freturn],
  [.aload 1, .aload 0, .iload 4, .iconst 1, .iadd, .iaload, .aload 0, .iload 4, .iconst 2, .iadd, .iaload, .aload 0, .iload 4, .iconst 3, .iadd, .iaload, .invokestatic 211, .aload 2, .aload 0, .iload 4, .iconst 1, .iadd, .iaload, .aload 0, .iload 4, .iconst 2, .iadd, .iaload, .aload 0, .iload 4, .iconst 3, .iadd, .iaload, .invokestatic 96, .if_icmp .eq 9013, .iconst 0, .freturn],
  [.aload 1, .invokestatic 214, .aload 2, .invokestatic 98, .if_icmp .eq 9013, .iconst 0, .freturn],
  [.aload 1, .aload 0, .iload 4, .iconst 1, .iadd, .iaload, .invokestatic 215, .aload 2, .aload 0, .iload 4, .iconst 1, .iadd, .iaload, .invokestatic 99, .if_icmp .eq 9013, .iconst 0, .freturn],
  [.aload 1, .aload 0, .iload 4, .iconst 1, .iadd, .iaload, .aload 0, .iload 4, .iconst 2, .iadd, .iaload, .invokestatic 218, .aload 2, .aload 0, .iload 4, .iconst 1, .iadd, .iaload, .aload 0, .iload 4, .iconst 2, .iadd, .iaload, .invokestatic 102, .if_icmp .eq 9013, .iconst 0, .freturn],
  [.aload 1, .aload 0, .iload 4, .iconst 1, .iadd, .iaload, .invokestatic 221, .aload 2, .aload 0, .iload 4, .iconst 1, .iadd, .iaload, .invokestatic 104, .if_icmp .eq 9013, .iconst 0, .freturn],
  [.aload 1, .aload 0, .iload 4, .iconst 1, .iadd, .iaload, .invokestatic 222, .aload 2, .aload 0, .iload 4, .iconst 1, .iadd, .iaload, .invokestatic 105, .if_icmp .eq 9013, .iconst 0, .freturn],
  [.aload 1, .aload 0, .iload 4, .iconst 1, .iadd, .iaload, .invokestatic 223, .aload 2, .aload 0, .iload 4, .iconst 1, .iadd, .iaload, .invokestatic 106, .if_icmp .eq 9013, .iconst 0, .freturn],
  [.aload 1, .aload 0, .iload 4, .iconst 1, .iadd, .iaload, .aload 3, .invokestatic 143, .istore 5, .aload 2, .aload 0, .iload 4, .iconst 1, .iadd, .iaload, .invokestatic 107, .lstore 6, .aload 2, .invokestatic 1, .iload 5, .if_icmp .eq 9011, .iconst 0, .freturn],
  [.iload 5, .ifCond .ne 9012, .aload 3, .iconst 0, .laload, .lload 6, .lcmp, .ifCond .eq 9012, .iconst 0, .freturn],
  [.goto 9013],
  [.iinc 4 (5), .goto 8961],
  [.iconst 1, .freturn]]
def aLm141 : List (List Instr) := [[.aload 3, .iconst 0, .aload 0, .iload 1, .iload 2, .invokestatic 225, .i2l, .lastore, .goto 9026],
  [.astore 4, .iconst 1, .ireturn],
  [.iconst 0, .ireturn]]
def aLm142 : List (List Instr) := [[.aload 3, .iconst 0, .aload 0, .iload 1, .iload 2, .invokestatic 226, .i2l, .lastore, .goto 9090],
  [.astore 4, .iconst 1, .ireturn],
  [.iconst 0, .ireturn]]
def aLm143 : List (List Instr) := [[.aload 2, .iconst 0, .aload 0, .iload 1, .invokestatic 227, .lastore, .goto 9154],
  [.astore 3, .iconst 1, .ireturn],
  [.iconst 0, .ireturn]]
def aLm150 : List (List Instr) := [[.aload 0, .invokedynamic 0, .aload 0, .new 11, .dup, .invokestatic 284, .putfield 448, .aload 0, .new 12, .dup, .invokestatic 291, .putfield 449, .aload 0, .new 4, .dup, .invokestatic 239, .putfield 450, .aload 0, .new 2, .dup, .invokestatic 228, .putfield 451, .aload 0, .new 8, .dup, .invokestatic 265, .putfield 452, .aload 0, .new 8, .dup, .invokestatic 265, .putfield 453, .aload 0, .new 9, .dup, .invokestatic 268, .putfield 454, .aload 0, .new 10, .dup, .invokestatic 280, .putfield 455, .aload 0, .new 10, .dup, .invokestatic 280, .putfield 456, .aload 0, .new 10, .dup, .invokestatic 280, .putfield 457, .aload 0, .new 7, .dup, .aload 0, .getfield 66, .aload 0, .getfield 67, .aload 0, .getfield 71, .aload 0, .getfield 68, .invokestatic 253, .putfield 458, .aload 0, .new 6, .dup, .invokestatic 249, .putfield 459, .aload 0, .iconst 3, .anewarray 10, .putfield 460, .aload 0, .new 5, .dup, .invokestatic 245, .putfield 462, .aload 0, .new 5, .dup, .invokestatic 245, .putfield 463, .aload 0, .new 3, .dup, .invokestatic 231, .putfield 464, .aload 0, .iconst 126, .newarray .long, .putfield 465, .aload 0, .iconst 61, .newarray .int, .putfield 466, .aload 0, .iconst 13, .newarray .long, .putfield 467, .iconst 0, .istore 1, .jsr 9601],
  [.iload 1, .iconst 3, .if_icmp .ge 9602, .aload 0, .getfield 76, .iload 1, .new 10, .dup, .invokestatic 280, .aastore, .iinc 1 (1), .goto 9601],
  [.return_]]
def aLm151 : List (List Instr) := [[.aload 0, .getfield 64, .iload 1, .invokestatic 285, .ireturn]]
def aLm152 : List (List Instr) := [[.aload 0, .getfield 64, .iload 1, .invokestatic 286, .freturn]]
def aLm153 : List (List Instr) := [[.aload 0, .invokestatic 154, .istore 1, .iload 1, .iconst (-1), .if_icmp .ne 9793, .aload 0, .invokestatic 155, .jsr 9793],
  [.aload 0, .getfield 64, .invokestatic 289, .iload 1, .iconst (-1), .if_icmp .ne 9794, .aload 0, .getfield 66, .getfield 258, .goto 9795],
  [.iconst (-1), .iload 1, .isub, .jsr 9795],
  [.ireturn]]
def aLm154 : List (List Instr) := [[.iconst 0, .istore 1, .jsr 9857],
  [.iload 1, .iconst 2, .if_icmp .ge 9860, .aload 0, .getfield 64, .iload 1, .invokestatic 287, .istore 2, .iload 2, .iconst 2, .if_icmp .lt 9858, .iload 2, .iconst 6, .if_icmp .le 9859, .jsr 9858],
  [.iload 1, .ireturn],
  [.iinc 1 (1), .goto 9857],
  [.iconst 2, .aload 0, .getfield 64, .iconst 0, .invokestatic 287, .aload 0, .getfield 64, .iconst 1, .invokestatic 287, .imul, .iadd, .istore 1, .iconst 2, .istore 2, .jsr 9861],
  [.iload 2, .iload 1, .if_icmp .ge 9863, .aload 0, .getfield 64, .iload 2, .invokestatic 287, .iconst (-1), .if_icmp .ne 9862, .iload 2, .ireturn],
  [.iinc 2 (1), .goto 9861],
  [.aload 0, .getfield 64, .getfield 705, .iload 1, .if_icmp .le 9864, .iload 1, .goto 9865],
  [.iconst (-1), .jsr 9865],
  [.ireturn]]
def aLm155 : List (List Instr) := [[.aload 0, .getfield 66, .aload 0, .getfield 64, .iconst 0, .invokestatic 287, .aload 0, .getfield 64, .iconst 1, .invokestatic 287, .invokestatic 240, .aload 0, .getfield 71, .invokestatic 281, .iconst 0, .istore 1, .jsr 9921],
  [.iload 1, .aload 0, .getfield 66, .getfield 258, .if_icmp .ge 9922, .aload 0, .getfield 71, .getfield 640, .iload 1, .aload 0, .getfield 64, .iconst 2, .iload 1, .iadd, .invokestatic 287, .iastore, .iinc 1 (1), .goto 9921],
  [.aload 0, .getfield 75, .invokestatic 250, .aload 0, .iconst 0, .putfield 269, .aload 0, .getfield 78, .iconst 0, .putfield 1283, .aload 0, .getfield 79, .iconst 0, .putfield 1283, .return_]]
def aLm156 : List (List Instr) := [[.aload 0, .getfield 64, .iconst 48, .iconst 20, .invokestatic 290, .istore 1, .iconst (-1), .iload 1, .isub, .istore 2, .iload 1, .iconst (-1), .if_icmp .ne 9985, .aload 0, .getfield 67, .aload 0, .getfield 64, .invokestatic 229, .aload 0, .getfield 64, .getfield 705, .istore 2, .jsr 9985],
  [.aload 0, .getfield 64, .invokestatic 289, .iload 2, .ireturn]]
def aLm157 : List (List Instr) := [[.aload 0, .getfield 70, .aload 0, .getfield 64, .aload 0, .getfield 68, .invokestatic 269, .istore 1, .aload 0, .getfield 64, .invokestatic 289, .iload 1, .iconst (-1), .if_icmp .ne 10049, .iconst 0, .goto 10050],
  [.iconst (-1), .iload 1, .isub, .jsr 10050],
  [.ireturn]]
def aLm158 : List (List Instr) := [[.iload 1, .ifCond .lt 10113, .iload 1, .iconst 3, .if_icmp .gt 10113, .iload 2, .iconst 36, .if_icmp .le 10114, .jsr 10113],
  [.iconst (-1), .ireturn],
  [.iload 1, .iconst 3, .if_icmp .ge 10115, .iload 2, .ifCond .ge 10115, .iconst (-2), .ireturn],
  [.iload 1, .iconst 3, .if_icmp .ne 10116, .iconst 0, .goto 10117],
  [.iload 2, .jsr 10117],
  [.istore 5, .iload 3, .istore 6, .iconst 0, .istore 7, .jsr 10118],
  [.iload 7, .aload 0, .getfield 66, .getfield 258, .if_icmp .ge 10121, .aload 0, .getfield 71, .getfield 640, .iload 7, .iload 7, .iload 5, .if_icmp .ge 10119, .iload 1, .iload 6, .invokestatic 159, .goto 10120],
  [.iconst 0, .jsr 10120],
  [.iastore, .iload 6, .iload 4, .iadd, .istore 6, .iinc 7 (1), .goto 10118],
  [.iload 1, .iconst 3, .if_icmp .ne 10122, .iconst (-3), .goto 10123],
  [.aload 0, .getfield 71, .invokestatic 282, .jsr 10123],
  [.ireturn]]
def aLm159 : List (List Instr) := [[.iload 0, .ifCond .ne 10177, .iload 1, .i2b, .goto 10179],
  [.iload 0, .iconst 1, .if_icmp .ne 10178, .iload 1, .i2s, .goto 10179],
  [.iload 1, .jsr 10179],
  [.istore 2, .iconst 0, .iconst 9, .iload 2, .invokedynamic 5, .invokedynamic 6, .ireturn]]
def aLm160 : List (List Instr) := [[.iload 1, .ifCond .lt 10241, .iload 1, .iconst 60, .if_icmp .le 10242, .jsr 10241],
  [.iconst (-1), .ireturn],
  [.aload 0, .getfield 72, .aload 0, .getfield 71, .invokestatic 283, .aload 0, .getfield 74, .aload 0, .getfield 71, .aload 0, .getfield 68, .iload 1, .invokestatic 254, .istore 2, .aload 0, .getfield 75, .aload 0, .getfield 72, .invokestatic 251, .aload 0, .getfield 65, .invokestatic 292, .aload 0, .getfield 65, .aload 0, .getfield 71, .invokestatic 282, .i2l, .invokestatic 293, .aload 0, .getfield 65, .aload 0, .getfield 71, .getfield 642, .invokestatic 122, .i2l, .invokestatic 293, .iload 2, .ireturn]]
def aLm161 : List (List Instr) := [[.lload 0, .iload 2, .lushr, .ldc2_w 17, .land, .l2i, .ireturn]]
def aLm162 : List (List Instr) := [[.aload 0, .getfield 72, .aload 0, .getfield 71, .invokestatic 283, .aload 0, .aload 0, .aload 0, .getfield 71, .iload 1, .iload 2, .invokestatic 163, .invokestatic 164, .ireturn]]
def aLm163 : List (List Instr) := [[.aload 0, .getfield 66, .iload 2, .invokestatic 242, .ifCond .eq 10433, .iload 3, .iconst 1, .if_icmp .lt 10433, .iload 3, .iconst 9, .if_icmp .le 10434, .jsr 10433],
  [.iconst (-1), .ireturn],
  [.aload 1, .getfield 640, .iload 2, .iaload, .iload 3, .if_icmp .ge 10435, .iconst (-2), .ireturn],
  [.aload 1, .getfield 640, .iload 2, .dup2, .iaload, .iload 3, .isub, .iastore, .aload 1, .getfield 640, .iload 2, .iaload, .ireturn]]
def aLm164 : List (List Instr) := [[.iload 1, .ifCond .lt 10497, .aload 0, .getfield 75, .aload 0, .getfield 72, .invokestatic 251, .jsr 10497],
  [.iload 1, .ireturn]]
def aLm165 : List (List Instr) := [[.aload 0, .getfield 72, .aload 0, .getfield 71, .invokestatic 283, .aload 0, .aload 0, .iload 1, .iload 2, .invokestatic 166, .invokestatic 164, .ireturn]]
def aLm166 : List (List Instr) := [[.aload 0, .getfield 66, .iload 1, .invokestatic 242, .ifCond .eq 10625, .iload 2, .iconst 1, .if_icmp .lt 10625, .iload 2, .iconst 9, .if_icmp .le 10626, .jsr 10625],
  [.iconst (-1), .ireturn],
  [.aload 0, .getfield 71, .getfield 640, .iload 1, .iaload, .iload 2, .iadd, .iconst 9, .if_icmp .le 10627, .iconst (-3), .ireturn],
  [.aload 0, .getfield 71, .getfield 640, .iload 1, .dup2, .iaload, .iload 2, .iadd, .iastore, .aload 0, .getfield 71, .getfield 640, .iload 1, .iaload, .ireturn]]
def aLm167 : List (List Instr) := [[.aload 0, .getfield 72, .aload 0, .getfield 71, .invokestatic 283, .aload 0, .aload 0, .aload 0, .getfield 71, .iload 1, .invokestatic 168, .invokestatic 164, .ireturn]]
def aLm168 : List (List Instr) := [[.aload 0, .getfield 66, .iload 2, .invokestatic 242, .ifCond .ne 10753, .iconst (-1), .ireturn],
  [.aload 1, .getfield 641, .iload 2, .invokestatic 161, .ifCond .ne 10754, .aload 1, .getfield 641, .invokestatic 122, .iconst 8, .if_icmp .lt 10754, .iconst (-2), .ireturn],
  [.aload 1, .dup, .getfield 641, .ldc2_w 17, .iload 2, .lshl, .lxor, .putfield 2625, .aload 1, .getfield 641, .invokestatic 122, .ireturn]]
def aLm169 : List (List Instr) := [[.aload 0, .getfield 72, .aload 0, .getfield 71, .invokestatic 283, .aload 0, .aload 0, .iload 1, .invokestatic 170, .invokestatic 164, .ireturn]]
def aLm170 : List (List Instr) := [[.iload 1, .ifCond .lt 10881, .iload 1, .aload 0, .getfield 66, .getfield 257, .if_icmp .lt 10882, .jsr 10881],
  [.iconst (-1), .ireturn],
  [.iload 1, .aload 0, .getfield 71, .getfield 643, .if_icmp .ne 10883, .iconst (-2), .ireturn],
  [.aload 0, .getfield 71, .getfield 643, .istore 2, .aload 0, .getfield 71, .iload 1, .putfield 2563, .iload 2, .ireturn]]
def aLm171 : List (List Instr) := [[.aload 0, .invokestatic 172, .istore 1, .iload 1, .iconst (-1), .if_icmp .eq 10945, .aload 0, .getfield 64, .invokestatic 289, .iconst (-1), .iload 1, .isub, .ireturn],
  [.aload 0, .getfield 72, .aload 0, .getfield 71, .invokestatic 283, .iconst 0, .istore 2, .iconst 0, .istore 3, .iconst 0, .istore 4, .iconst 0, .istore 5, .jsr 10946],
  [.iload 5, .iconst 60, .if_icmp .ge 10949, .iload 4, .aload 0, .getfield 64, .getfield 705, .if_icmp .ge 10949, .iload 3, .ifCond .ne 10949, .aload 0, .iload 4, .invokestatic 174, .ifCond .ge 10947, .iconst 1, .istore 3, .goto 10948],
  [.iinc 2 (1), .jsr 10948],
  [.iload 4, .iconst 1, .aload 0, .getfield 64, .iload 4, .invokestatic 288, .invokestatic 173, .iadd, .iadd, .istore 4, .iinc 5 (1), .goto 10946],
  [.iload 2, .ifCond .le 10950, .aload 0, .getfield 75, .aload 0, .getfield 72, .invokestatic 251, .jsr 10950],
  [.aload 0, .getfield 64, .invokestatic 289, .aload 0, .getfield 65, .invokestatic 292, .aload 0, .getfield 65, .iload 3, .i2l, .invokestatic 293, .aload 0, .getfield 65, .aload 0, .getfield 71, .getfield 644, .i2l, .invokestatic 293, .iload 2, .ireturn]]
def aLm172 : List (List Instr) := [[.aload 0, .getfield 64, .getfield 705, .iconst 60, .invokedynamic 5, .istore 1, .iconst 32, .istore 2, .iconst 0, .istore 3, .iconst 0, .istore 4, .jsr 11009],
  [.iload 4, .iload 1, .if_icmp .ge 11015, .iload 3, .ifCond .ne 11010, .aload 0, .getfield 64, .iload 4, .invokestatic 288, .istore 2, .iload 2, .invokestatic 173, .istore 3, .iload 3, .ifCond .ne 11014, .iload 4, .ireturn],
  [.iload 3, .iconst 1, .if_icmp .ne 11011, .iload 2, .invokestatic 173, .iconst 3, .if_icmp .ne 11011, .iconst 1, .goto 11012],
  [.iconst 0, .jsr 11012],
  [.istore 5, .aload 0, .getfield 64, .iload 4, .invokestatic 287, .iload 5, .if_icmp .ge 11013, .iload 4, .ireturn],
  [.iinc 3 (-1), .jsr 11014],
  [.iinc 4 (1), .goto 11009],
  [.aload 0, .getfield 64, .getfield 705, .iconst 60, .if_icmp .le 11016, .iconst 60, .ireturn],
  [.iload 3, .ifCond .le 11017, .iload 1, .goto 11018],
  [.iconst (-1), .jsr 11018],
  [.ireturn]]
def aLm173 : List (List Instr) := [[.iload 0, .lookupswitch 11076 #[((99), 11075), ((104), 11075), ((110), 11073), ((115), 11073), ((119), 11074)]],
  [.iconst 1, .ireturn],
  [.iconst 2, .ireturn],
  [.iconst 3, .ireturn],
  [.iconst 0, .ireturn]]
def aLm174 : List (List Instr) := [[.aload 0, .getfield 64, .iload 1, .iconst 1, .iadd, .invokestatic 287, .istore 2, .aload 0, .getfield 66, .iload 2, .aload 0, .getfield 64, .iload 1, .iconst 2, .iadd, .invokestatic 287, .invokestatic 244, .istore 3, .aload 0, .getfield 64, .iload 1, .iconst 3, .iadd, .invokestatic 287, .istore 4, .aload 0, .getfield 64, .iload 1, .invokestatic 288, .lookupswitch 11142 #[((99), 11138), ((104), 11139), ((110), 11137), ((115), 11141), ((119), 11140)]],
  [.aload 0, .getfield 74, .aload 0, .getfield 71, .aload 0, .getfield 68, .iload 2, .invokestatic 254, .ireturn],
  [.aload 0, .aload 0, .getfield 71, .iload 3, .iload 4, .invokestatic 163, .ireturn],
  [.aload 0, .iload 3, .iload 4, .invokestatic 166, .ireturn],
  [.aload 0, .aload 0, .getfield 71, .iload 3, .invokestatic 168, .ireturn],
  [.aload 0, .iload 2, .invokestatic 170, .ireturn],
  [.iconst (-1), .ireturn]]
def aLm175 : List (List Instr) := [[.aload 0, .getfield 75, .aload 0, .getfield 71, .invokestatic 252, .ifCond .eq 11201, .aload 0, .getfield 75, .getfield 386, .goto 11202],
  [.iconst (-1), .jsr 11202],
  [.ireturn]]
def aLm176 : List (List Instr) := [[.aload 0, .getfield 74, .aload 0, .getfield 71, .aload 0, .getfield 68, .invokestatic 260, .aload 0, .getfield 65, .invokestatic 292, .iconst 0, .istore 1, .jsr 11265],
  [.iload 1, .aload 0, .getfield 74, .getfield 457, .if_icmp .ge 11266, .aload 0, .getfield 65, .aload 0, .getfield 74, .getfield 456, .iload 1, .iaload, .i2l, .invokestatic 293, .iinc 1 (1), .goto 11265],
  [.aload 0, .getfield 74, .getfield 459, .ireturn]]
def aLm177 : List (List Instr) := [[.iload 1, .ifCond .lt 11329, .iload 1, .iconst 99, .if_icmp .le 11330, .jsr 11329],
  [.iconst (-1), .ireturn],
  [.aload 0, .getfield 73, .aload 0, .getfield 71, .invokestatic 283, .aload 0, .getfield 74, .aload 0, .getfield 73, .aload 0, .getfield 68, .iload 1, .invokestatic 254, .pop, .aload 0, .getfield 74, .aload 0, .getfield 73, .aload 0, .getfield 68, .invokestatic 260, .aload 0, .getfield 65, .invokestatic 292, .aload 0, .getfield 65, .aload 0, .getfield 74, .getfield 457, .i2l, .invokestatic 293, .aload 0, .getfield 65, .aload 0, .getfield 73, .invokestatic 282, .i2l, .invokestatic 293, .aload 0, .getfield 74, .getfield 459, .ireturn]]
def aLm178 : List (List Instr) := [[.aload 0, .getfield 73, .aload 0, .getfield 71, .invokestatic 283, .iconst 0, .istore 1, .jsr 11393],
  [.iload 1, .iconst 99, .if_icmp .gt 11395, .aload 0, .getfield 74, .aload 0, .getfield 73, .aload 0, .getfield 68, .iconst 1, .invokestatic 254, .pop, .aload 0, .getfield 74, .getfield 459, .iconst (-2), .if_icmp .ne 11394, .aload 0, .getfield 65, .invokestatic 292, .aload 0, .getfield 65, .aload 0, .getfield 74, .getfield 460, .i2l, .invokestatic 293, .iload 1, .ireturn],
  [.iinc 1 (1), .goto 11393],
  [.iconst (-2), .ireturn]]
def aLm179 : List (List Instr) := [[.iload 1, .invokestatic 180, .ifCond .eq 11457, .iconst (-1), .ireturn],
  [.aload 0, .getfield 73, .aload 0, .getfield 71, .invokestatic 283, .aload 0, .getfield 74, .aload 0, .getfield 73, .aload 0, .getfield 68, .iconst 1, .invokestatic 254, .pop, .aload 0, .getfield 74, .invokestatic 261, .iconst 1, .istore 2, .jsr 11458],
  [.iload 2, .iload 1, .if_icmp .ge 11460, .aload 0, .getfield 74, .aload 0, .getfield 73, .aload 0, .getfield 68, .iconst 1, .invokestatic 254, .pop, .aload 0, .getfield 74, .invokestatic 262, .ifCond .ne 11459, .aload 0, .getfield 65, .invokestatic 292, .aload 0, .getfield 65, .aload 0, .getfield 74, .getfield 459, .i2l, .invokestatic 293, .iload 2, .ireturn],
  [.iinc 2 (1), .goto 11458],
  [.iconst (-2), .ireturn]]
def aLm180 : List (List Instr) := [[.iload 0, .iconst 1, .if_icmp .lt 11521, .iload 0, .iconst 99, .if_icmp .le 11522, .jsr 11521],
  [.iconst 1, .goto 11523],
  [.iconst 0, .jsr 11523],
  [.freturn]]
def aLm181 : List (List Instr) := [[.iload 1, .invokestatic 180, .ifCond .eq 11585, .iconst (-1), .ireturn],
  [.aload 0, .getfield 65, .invokestatic 292, .iconst 0, .istore 2, .jsr 11586],
  [.iload 2, .aload 0, .getfield 66, .getfield 257, .if_icmp .gt 11587, .aload 0, .getfield 65, .ldc2_w 16, .invokestatic 293, .iinc 2 (1), .goto 11586],
  [.iconst 0, .istore 2, .aload 0, .getfield 73, .aload 0, .getfield 71, .invokestatic 283, .iconst 0, .istore 3, .jsr 11588],
  [.iload 3, .iload 1, .if_icmp .ge 11591, .aload 0, .getfield 74, .aload 0, .getfield 73, .aload 0, .getfield 68, .iconst 1, .invokestatic 254, .pop, .aload 0, .getfield 74, .getfield 459, .iconst (-2), .if_icmp .ne 11589, .aload 0, .getfield 65, .aload 0, .getfield 66, .getfield 257, .invokestatic 294, .goto 11590],
  [.aload 0, .getfield 65, .aload 0, .getfield 74, .getfield 459, .invokestatic 294, .iload 2, .iconst 1, .aload 0, .getfield 74, .getfield 459, .ishl, .ior, .istore 2, .jsr 11590],
  [.iinc 3 (1), .goto 11588],
  [.iload 2, .ireturn]]
def aLm182 : List (List Instr) := [[.iload 1, .invokestatic 180, .ifCond .eq 11649, .ldc2_w 15, .lreturn],
  [.aload 0, .getfield 66, .getfield 259, .lstore 2, .aload 0, .getfield 66, .getfield 259, .lstore 4, .aload 0, .getfield 73, .aload 0, .getfield 71, .invokestatic 283, .iconst 0, .istore 6, .jsr 11650],
  [.iload 6, .iload 1, .if_icmp .ge 11651, .aload 0, .getfield 74, .aload 0, .getfield 73, .aload 0, .getfield 68, .iconst 1, .invokestatic 254, .pop, .lload 2, .aload 0, .getfield 74, .getfield 458, .ldc2_w 15, .lxor, .land, .lstore 2, .lload 4, .aload 0, .getfield 74, .getfield 458, .land, .lstore 4, .iinc 6 (1), .goto 11650],
  [.aload 0, .getfield 65, .invokestatic 292, .aload 0, .getfield 65, .lload 2, .invokestatic 122, .i2l, .invokestatic 293, .aload 0, .getfield 65, .lload 4, .invokestatic 122, .i2l, .invokestatic 293, .lload 2, .lreturn]]
def aLm183 : List (List Instr) := [[.iload 1, .ifCond .lt 11713, .iload 1, .aload 0, .getfield 66, .getfield 257, .if_icmp .lt 11714, .jsr 11713],
  [.iconst (-1), .ireturn],
  [.aload 0, .iload 1, .invokestatic 184, .ireturn]]
def aLm184 : List (List Instr) := [[.aload 0, .getfield 74, .aload 0, .getfield 71, .aload 0, .getfield 68, .invokestatic 255, .iconst 0, .istore 2, .jsr 11777],
  [.iload 2, .iconst 3, .if_icmp .gt 11779, .aload 0, .getfield 74, .iload 2, .iconst 0, .ldc2_w 16, .iload 1, .invokestatic 185, .lstore 3, .lload 3, .ldc2_w 15, .lcmp, .ifCond .eq 11778, .aload 0, .getfield 65, .invokestatic 292, .aload 0, .getfield 65, .lload 3, .invokestatic 295, .iload 2, .ireturn],
  [.iinc 2 (1), .goto 11777],
  [.iconst (-2), .ireturn]]
def aLm185 : List (List Instr) := [[.aload 0, .aload 0, .getfield 450, .getfield 641, .lload 3, .lor, .invokestatic 256, .iload 1, .ifCond .gt 11843, .aload 0, .getfield 459, .iload 5, .if_icmp .ne 11841, .lload 3, .goto 11842],
  [.ldc2_w 15, .jsr 11842],
  [.lreturn],
  [.iload 1, .iconst 1, .if_icmp .ne 11844, .aload 0, .getfield 458, .goto 11845],
  [.aload 0, .getfield 448, .getfield 259, .jsr 11845],
  [.aload 0, .getfield 450, .getfield 641, .ldc2_w 15, .lxor, .land, .lstore 6, .iload 2, .istore 8, .jsr 11846],
  [.iload 8, .aload 0, .getfield 448, .getfield 258, .if_icmp .ge 11849, .iload 8, .aload 0, .getfield 450, .getfield 643, .if_icmp .eq 11848, .lload 6, .iload 8, .invokestatic 161, .ifCond .ne 11847, .goto 11848],
  [.aload 0, .iload 1, .iconst 1, .isub, .iload 8, .iconst 1, .iadd, .lload 3, .ldc2_w 17, .iload 8, .lshl, .lor, .iload 5, .invokestatic 185, .lstore 9, .lload 9, .ldc2_w 15, .lcmp, .ifCond .eq 11848, .lload 9, .lreturn],
  [.iinc 8 (1), .goto 11846],
  [.ldc2_w 15, .lreturn]]
def aLm186 : List (List Instr) := [[.aload 0, .iconst (-2), .invokestatic 184, .ireturn]]
def aLm187 : List (List Instr) := [[.aload 0, .getfield 74, .aload 0, .getfield 71, .aload 0, .getfield 68, .invokestatic 260, .aload 0, .getfield 74, .getfield 457, .istore 1, .iconst (-1), .istore 2, .iconst 0, .istore 3, .iconst 0, .istore 4, .jsr 11969],
  [.iload 4, .aload 0, .getfield 66, .getfield 258, .if_icmp .ge 11973, .iload 4, .aload 0, .getfield 71, .getfield 643, .if_icmp .eq 11972, .aload 0, .getfield 71, .getfield 641, .iload 4, .invokestatic 161, .iconst 1, .if_icmp .ne 11970, .goto 11972],
  [.aload 0, .getfield 74, .aload 0, .getfield 71, .getfield 641, .ldc2_w 17, .iload 4, .lshl, .lor, .invokestatic 256, .iload 2, .iconst (-1), .if_icmp .eq 11971, .aload 0, .getfield 74, .getfield 457, .iload 3, .if_icmp .le 11972, .jsr 11971],
  [.iload 4, .istore 2, .aload 0, .getfield 74, .getfield 457, .istore 3, .jsr 11972],
  [.iinc 4 (1), .goto 11969],
  [.iload 2, .iconst (-1), .if_icmp .ne 11974, .iconst (-2), .ireturn],
  [.aload 0, .getfield 65, .invokestatic 292, .aload 0, .getfield 65, .iload 3, .i2l, .invokestatic 293, .aload 0, .getfield 65, .iload 1, .i2l, .invokestatic 293, .iload 2, .ireturn]]
def aLm188 : List (List Instr) := [[.aload 0, .getfield 74, .aload 0, .getfield 71, .aload 0, .getfield 68, .invokestatic 260, .aload 0, .getfield 74, .invokestatic 261, .aload 0, .getfield 74, .getfield 458, .aload 0, .getfield 66, .aload 0, .getfield 74, .getfield 458, .invokestatic 243, .lor, .lstore 1, .aload 0, .getfield 73, .aload 0, .getfield 71, .invokestatic 283, .iconst 1, .istore 3, .jsr 12033],
  [.iload 3, .iconst 9, .if_icmp .gt 12037, .iconst 0, .istore 4, .jsr 12034],
  [.iload 4, .aload 0, .getfield 66, .getfield 258, .if_icmp .ge 12036, .lload 1, .iload 4, .invokestatic 161, .iconst 1, .if_icmp .ne 12035, .aload 0, .iload 4, .iload 3, .invokestatic 189, .ifCond .eq 12035, .aload 0, .getfield 65, .invokestatic 292, .aload 0, .getfield 65, .iload 4, .i2l, .invokestatic 293, .iload 3, .ireturn],
  [.iinc 4 (1), .goto 12034],
  [.iinc 3 (1), .goto 12033],
  [.iconst (-2), .ireturn]]
def aLm189 : List (List Instr) := [[.aload 0, .getfield 71, .getfield 640, .iload 1, .iaload, .iload 2, .if_icmp .ge 12097, .iconst 0, .freturn],
  [.aload 0, .getfield 73, .getfield 640, .iload 1, .aload 0, .getfield 71, .getfield 640, .iload 1, .iaload, .iload 2, .isub, .iastore, .aload 0, .getfield 74, .aload 0, .getfield 73, .aload 0, .getfield 68, .invokestatic 260, .aload 0, .getfield 73, .getfield 640, .iload 1, .aload 0, .getfield 71, .getfield 640, .iload 1, .iaload, .iastore, .aload 0, .getfield 74, .invokestatic 262, .ifCond .ne 12098, .iconst 1, .goto 12099],
  [.iconst 0, .jsr 12099],
  [.freturn]]
def aLm190 : List (List Instr) := [[.aload 0, .getfield 74, .aload 0, .getfield 71, .aload 0, .getfield 68, .invokestatic 260, .aload 0, .getfield 65, .invokestatic 292, .aload 0, .getfield 65, .aload 0, .getfield 74, .invokestatic 263, .i2l, .invokestatic 293, .aload 0, .getfield 74, .invokestatic 264, .ireturn]]
def aLm191 : List (List Instr) := [[.iload 1, .iconst 1, .if_icmp .lt 12225, .iload 1, .iconst 20, .if_icmp .le 12226, .jsr 12225],
  [.iconst (-100), .goto 12227],
  [.aload 0, .iload 1, .invokestatic 192, .jsr 12227],
  [.istore 2, .aload 0, .getfield 64, .invokestatic 289, .iload 2, .ireturn]]
def aLm192 : List (List Instr) := [[.aload 0, .getfield 64, .iconst 49, .iconst 8, .invokestatic 290, .istore 2, .iload 2, .iconst (-1), .if_icmp .eq 12289, .iconst (-1), .iload 2, .isub, .ireturn],
  [.aload 0, .getfield 80, .aload 0, .getfield 64, .invokestatic 232, .aload 0, .getfield 73, .aload 0, .getfield 71, .invokestatic 283, .iconst 0, .istore 3, .jsr 12290],
  [.iload 3, .iload 1, .if_icmp .ge 12291, .aload 0, .getfield 74, .aload 0, .getfield 73, .aload 0, .getfield 68, .invokestatic 260, .aload 0, .getfield 80, .aload 0, .getfield 74, .invokestatic 264, .invokestatic 233, .aload 0, .getfield 74, .invokestatic 259, .iinc 3 (1), .goto 12290],
  [.aload 0, .getfield 80, .aload 0, .getfield 65, .invokestatic 234, .ireturn]]
def aLm193 : List (List Instr) := [[.iload 1, .iconst 1, .if_icmp .lt 12353, .iload 1, .iconst 9, .if_icmp .le 12354, .jsr 12353],
  [.iconst (-1), .ireturn],
  [.ldc2_w 16, .lstore 2, .iconst 0, .istore 4, .jsr 12355],
  [.iload 4, .aload 0, .getfield 66, .getfield 258, .if_icmp .ge 12357, .aload 0, .getfield 71, .getfield 640, .iload 4, .iaload, .iconst 9, .iload 1, .isub, .if_icmp .gt 12356, .lload 2, .ldc2_w 17, .iload 4, .lshl, .lor, .lstore 2, .jsr 12356],
  [.iinc 4 (1), .goto 12355],
  [.aload 0, .getfield 80, .aload 0, .getfield 66, .lload 2, .aload 0, .getfield 71, .getfield 641, .ldc2_w 15, .lxor, .land, .aload 0, .getfield 71, .getfield 643, .aload 0, .getfield 65, .invokestatic 237, .ireturn]]
def aLm194 : List (List Instr) := [[.ldc2_w 16, .lstore 1, .iconst 0, .istore 3, .iconst 0, .istore 4, .jsr 12417],
  [.iload 4, .iconst 3, .if_icmp .gt 12419, .aload 0, .getfield 66, .aload 0, .getfield 71, .iload 4, .aload 0, .getfield 66, .getfield 258, .ldc2_w 16, .invokestatic 195, .lstore 1, .iload 4, .istore 3, .lload 1, .ldc2_w 15, .lcmp, .ifCond .eq 12418, .goto 12419],
  [.iinc 4 (1), .goto 12417],
  [.aload 0, .getfield 65, .invokestatic 292, .aload 0, .getfield 65, .lload 1, .invokestatic 293, .iload 3, .ireturn]]
def aLm195 : List (List Instr) := [[.iload 2, .ifCond .gt 12483, .aload 0, .aload 1, .getfield 643, .aload 1, .getfield 641, .lload 4, .lor, .invokestatic 196, .ifCond .eq 12481, .ldc2_w 15, .goto 12482],
  [.lload 4, .jsr 12482],
  [.lreturn],
  [.iload 2, .iconst 1, .isub, .istore 6, .jsr 12484],
  [.iload 6, .iload 3, .if_icmp .ge 12487, .iload 6, .aload 1, .getfield 643, .if_icmp .ne 12485, .goto 12486],
  [.aload 0, .aload 1, .iload 2, .iconst 1, .isub, .iload 6, .lload 4, .ldc2_w 17, .iload 6, .lshl, .lor, .invokestatic 195, .lstore 7, .lload 7, .ldc2_w 15, .lcmp, .ifCond .eq 12486, .lload 7, .lreturn],
  [.iinc 6 (1), .goto 12484],
  [.ldc2_w 15, .lreturn]]
def aLm196 : List (List Instr) := [[.ldc2_w 17, .iload 1, .lshl, .lload 2, .ldc2_w 15, .lxor, .land, .lstore 4, .iconst 0, .istore 6, .jsr 12545],
  [.iload 6, .aload 0, .getfield 258, .if_icmp .ge 12548, .lload 4, .aload 0, .lload 4, .invokestatic 243, .lload 2, .ldc2_w 15, .lxor, .land, .lor, .lstore 7, .lload 7, .aload 0, .getfield 260, .land, .ldc2_w 16, .lcmp, .ifCond .eq 12546, .iconst 1, .freturn],
  [.lload 7, .lload 4, .lcmp, .ifCond .ne 12547, .iconst 0, .freturn],
  [.lload 7, .lstore 4, .iinc 6 (1), .goto 12545],
  [.iconst 0, .freturn]]
def aLm197 : List (List Instr) := [[.iload 1, .ifCond .lt 12609, .iload 1, .iconst 20, .if_icmp .gt 12609, .aload 0, .getfield 66, .iload 2, .invokestatic 242, .ifCond .eq 12609, .iload 3, .ifCond .lt 12609, .iload 3, .iconst 1, .if_icmp .le 12610, .jsr 12609],
  [.iconst (-1), .ireturn],
  [.aload 0, .getfield 78, .iload 1, .iload 2, .iload 3, .invokestatic 246, .ireturn]]
def aLm198 : List (List Instr) := [[.aload 0, .getfield 78, .invokestatic 247, .ireturn]]
def aLm199 : List (List Instr) := [[.aload 0, .aload 0, .getfield 78, .invokestatic 248, .invokestatic 200, .istore 1, .aload 0, .getfield 65, .invokestatic 292, .aload 0, .getfield 65, .iload 1, .invokestatic 121, .i2l, .invokestatic 293, .iload 1, .ireturn]]
def aLm200 : List (List Instr) := [[.iconst 0, .istore 2, .iconst 0, .istore 3, .jsr 12801],
  [.iload 3, .aload 0, .getfield 66, .getfield 257, .if_icmp .ge 12805, .aload 0, .getfield 73, .aload 0, .getfield 71, .invokestatic 283, .aload 0, .getfield 73, .iload 3, .putfield 2563, .iconst 0, .istore 4, .jsr 12802],
  [.iload 4, .iload 1, .if_icmp .gt 12803, .iload 4, .iconst 20, .if_icmp .gt 12803, .aload 0, .getfield 74, .aload 0, .getfield 73, .aload 0, .getfield 68, .iconst 1, .invokestatic 254, .pop, .aload 0, .getfield 81, .iload 3, .iload 4, .invokestatic 201, .aload 0, .getfield 74, .getfield 458, .lastore, .iinc 4 (1), .goto 12802],
  [.aload 0, .iload 3, .invokestatic 202, .ifCond .eq 12804, .iload 2, .iconst 1, .iload 3, .ishl, .ior, .istore 2, .jsr 12804],
  [.iinc 3 (1), .goto 12801],
  [.iload 2, .ireturn]]
def aLm201 : List (List Instr) := [[.iload 0, .iconst 21, .imul, .iload 1, .iadd, .ireturn]]
def aLm202 : List (List Instr) := [[.iconst 0, .istore 2, .jsr 12929],
  [.iload 2, .aload 0, .getfield 78, .getfield 323, .if_icmp .ge 12931, .aload 0, .getfield 81, .iload 1, .aload 0, .getfield 78, .getfield 320, .iload 2, .iaload, .invokestatic 201, .laload, .lstore 3, .lload 3, .aload 0, .getfield 78, .getfield 321, .iload 2, .iaload, .invokestatic 161, .aload 0, .getfield 78, .getfield 322, .iload 2, .iaload, .if_icmp .eq 12930, .iconst 0, .freturn],
  [.iinc 2 (1), .goto 12929],
  [.iconst 1, .freturn]]
def aLm203 : List (List Instr) := [[.iload 1, .ifCond .lt 12993, .iload 1, .iconst 20, .if_icmp .le 12994, .jsr 12993],
  [.iconst (-1), .ireturn],
  [.aload 0, .iload 1, .aload 0, .getfield 78, .invokestatic 248, .invokedynamic 6, .invokestatic 200, .istore 2, .iload 2, .ifCond .ne 12995, .iconst (-2), .ireturn],
  [.iconst (-1), .istore 3, .iconst 0, .istore 4, .iconst 0, .istore 5, .jsr 12996],
  [.iload 5, .aload 0, .getfield 66, .getfield 258, .if_icmp .ge 12999, .aload 0, .iload 2, .iload 1, .iload 5, .invokestatic 204, .istore 6, .iload 3, .iconst (-1), .if_icmp .eq 12997, .iload 6, .iload 4, .if_icmp .ge 12998, .jsr 12997],
  [.iload 5, .istore 3, .iload 6, .istore 4, .jsr 12998],
  [.iinc 5 (1), .goto 12996],
  [.aload 0, .getfield 65, .invokestatic 292, .aload 0, .getfield 65, .iload 4, .i2l, .invokestatic 293, .iload 3, .ireturn]]
def aLm204 : List (List Instr) := [[.iconst 0, .istore 4, .iconst 0, .istore 5, .jsr 13057],
  [.iload 5, .aload 0, .getfield 66, .getfield 257, .if_icmp .ge 13059, .iload 1, .i2l, .iload 5, .invokestatic 161, .iconst 1, .if_icmp .ne 13058, .iload 4, .aload 0, .getfield 81, .iload 5, .iload 2, .invokestatic 201, .laload, .iload 3, .invokestatic 161, .iadd, .istore 4, .jsr 13058],
  [.iinc 5 (1), .goto 13057],
  [.iload 4, .iload 1, .invokestatic 121, .iload 4, .isub, .invokedynamic 6, .ireturn]]
def aLm205 : List (List Instr) := [[.aload 0, .getfield 66, .iload 1, .invokestatic 242, .ifCond .eq 13121, .aload 0, .getfield 66, .getfield 260, .iload 1, .invokestatic 161, .iconst 1, .if_icmp .eq 13121, .iload 2, .ifCond .lt 13121, .iload 2, .iconst 2, .if_icmp .le 13122, .jsr 13121],
  [.iconst (-1), .ireturn],
  [.aload 0, .getfield 79, .iconst 0, .iload 1, .iload 2, .invokestatic 246, .ireturn]]
def aLm206 : List (List Instr) := [[.aload 0, .getfield 79, .invokestatic 247, .ireturn]]
def aLm207 : List (List Instr) := [[.aload 0, .getfield 65, .invokestatic 292, .iconst 0, .istore 1, .iconst 0, .istore 2, .jsr 13249],
  [.iload 2, .iconst 3, .if_icmp .gt 13256, .iconst 0, .istore 3, .jsr 13250],
  [.iload 3, .iconst 3, .if_icmp .gt 13255, .iconst 0, .istore 4, .jsr 13251],
  [.iload 4, .iconst 3, .if_icmp .gt 13254, .aload 0, .iload 2, .iload 3, .iload 4, .invokestatic 208, .ifCond .ne 13252, .goto 13253],
  [.iinc 1 (1), .iload 1, .iconst 1, .if_icmp .ne 13253, .aload 0, .getfield 65, .iload 2, .i2l, .invokestatic 293, .aload 0, .getfield 65, .iload 3, .i2l, .invokestatic 293, .aload 0, .getfield 65, .iload 4, .i2l, .invokestatic 293, .jsr 13253],
  [.iinc 4 (1), .goto 13251],
  [.iinc 3 (1), .goto 13250],
  [.iinc 2 (1), .goto 13249],
  [.iload 1, .ireturn]]
def aLm208 : List (List Instr) := [[.iconst 0, .istore 4, .jsr 13313],
  [.iload 4, .aload 0, .getfield 79, .getfield 323, .if_icmp .ge 13315, .aload 0, .aload 0, .getfield 79, .getfield 321, .iload 4, .iaload, .iload 1, .iload 2, .iload 3, .invokestatic 209, .aload 0, .getfield 79, .getfield 322, .iload 4, .iaload, .if_icmp .eq 13314, .iconst 0, .freturn],
  [.iinc 4 (1), .goto 13313],
  [.iconst 1, .freturn]]
def aLm209 : List (List Instr) := [[.iconst (-1), .istore 5, .iconst 0, .istore 6, .iconst 0, .istore 7, .jsr 13377],
  [.iload 7, .iconst 3, .if_icmp .ge 13383, .aload 0, .getfield 66, .iload 1, .iload 7, .invokestatic 241, .istore 8, .iload 8, .iconst (-1), .if_icmp .eq 13382, .aload 0, .getfield 71, .getfield 641, .iload 8, .invokestatic 161, .iconst 1, .if_icmp .ne 13378, .goto 13382],
  [.iload 2, .aload 0, .getfield 71, .getfield 640, .iload 8, .iaload, .imul, .iload 7, .ifCond .ne 13379, .iconst 0, .goto 13380],
  [.iload 3, .jsr 13380],
  [.iadd, .iload 4, .aload 0, .getfield 71, .getfield 642, .iload 8, .invokestatic 161, .imul, .isub, .istore 9, .iload 5, .iconst (-1), .if_icmp .eq 13381, .iload 9, .iload 6, .if_icmp .ge 13382, .jsr 13381],
  [.iload 7, .istore 5, .iload 9, .istore 6, .jsr 13382],
  [.iinc 7 (1), .goto 13377],
  [.iload 5, .ireturn]]
def aLm210 : List (List Instr) := [[.iload 1, .ifCond .lt 13441, .iload 1, .iconst 60, .if_icmp .gt 13441, .iload 2, .iconst 1, .if_icmp .lt 13441, .iload 2, .iconst 9, .if_icmp .le 13442, .jsr 13441],
  [.iconst (-1), .ireturn],
  [.iconst 0, .istore 3, .jsr 13443],
  [.iload 3, .iload 1, .if_icmp .gt 13450, .iconst 0, .istore 4, .iconst 1, .istore 5, .jsr 13444],
  [.iload 5, .iload 2, .if_icmp .gt 13449, .iload 5, .iload 3, .if_icmp .gt 13449, .aload 0, .getfield 82, .iload 3, .iload 5, .isub, .iaload, .iconst 1, .iload 5, .ishl, .iconst (-1), .ixor, .iand, .ifCond .eq 13445, .iconst 1, .goto 13446],
  [.iconst 0, .jsr 13446],
  [.istore 6, .iload 4, .iload 6, .ifCond .eq 13447, .iconst 0, .goto 13448],
  [.iconst 1, .iload 5, .ishl, .jsr 13448],
  [.ior, .istore 4, .iinc 5 (1), .goto 13444],
  [.aload 0, .getfield 82, .iload 3, .iload 4, .iastore, .iinc 3 (1), .goto 13443],
  [.aload 0, .getfield 82, .iload 1, .iaload, .ifCond .ne 13451, .iconst 0, .goto 13452],
  [.aload 0, .getfield 82, .iload 1, .iaload, .invokestatic 120, .jsr 13452],
  [.ireturn]]
def aLm211 : List (List Instr) := [[.iload 1, .iconst 1, .if_icmp .lt 13505, .iload 1, .iconst 12, .if_icmp .gt 13505, .iload 2, .iconst 1, .if_icmp .lt 13505, .iload 2, .iconst 12, .if_icmp .gt 13505, .iload 3, .ifCond .lt 13505, .iload 3, .iconst 10, .if_icmp .le 13506, .jsr 13505],
  [.iconst (-1), .ireturn],
  [.aload 0, .getfield 83, .ldc2_w 16, .invokestatic 125, .aload 0, .getfield 83, .iconst 0, .ldc2_w 17, .lastore, .ldc2_w 17, .lstore 4, .ldc2_w 16, .lstore 6, .iconst 0, .istore 8, .jsr 13507],
  [.iload 8, .iload 1, .if_icmp .ge 13510, .lload 4, .lload 6, .lsub, .lstore 9, .lload 4, .ldc2_w 26, .lmul, .lstore 4, .lload 6, .ldc2_w 26, .lmul, .aload 0, .getfield 83, .iload 2, .iconst 1, .isub, .laload, .iload 3, .i2l, .lmul, .ladd, .lstore 6, .iload 2, .iconst 1, .isub, .istore 11, .jsr 13508],
  [.iload 11, .ifCond .le 13509, .aload 0, .getfield 83, .iload 11, .aload 0, .getfield 83, .iload 11, .iconst 1, .isub, .laload, .iload 3, .i2l, .lmul, .lastore, .iinc 11 (-1), .goto 13508],
  [.aload 0, .getfield 83, .iconst 0, .lload 9, .iconst 10, .iload 3, .isub, .i2l, .lmul, .lastore, .iinc 8 (1), .goto 13507],
  [.aload 0, .lload 6, .lload 4, .invokestatic 212, .iconst 0, .ireturn]]
def aLm212 : List (List Instr) := [[.lload 1, .lload 3, .invokestatic 213, .lstore 5, .aload 0, .getfield 65, .invokestatic 292, .aload 0, .getfield 65, .lload 5, .ldc2_w 16, .lcmp, .ifCond .ne 13569, .lload 1, .goto 13570],
  [.lload 1, .lload 5, .ldiv, .jsr 13570],
  [.invokestatic 293, .aload 0, .getfield 65, .lload 5, .ldc2_w 16, .lcmp, .ifCond .ne 13571, .lload 3, .goto 13572],
  [.lload 3, .lload 5, .ldiv, .jsr 13572],
  [.invokestatic 293, .return_]]
def aLm213 : List (List Instr) := [[.lload 0, .lstore 4, .lload 2, .lstore 6, .iconst 0, .istore 8, .jsr 13633],
  [.iload 8, .iconst 200, .if_icmp .ge 13634, .lload 6, .ldc2_w 16, .lcmp, .ifCond .eq 13634, .lload 4, .lload 6, .lrem, .lstore 9, .lload 6, .lstore 4, .lload 9, .lstore 6, .iinc 8 (1), .goto 13633],
  [.lload 4, .lreturn]]
def aLm214 : List (List Instr) := [[.aload 0, .getfield 70, .aload 0, .getfield 64, .aload 0, .getfield 69, .invokestatic 269, .istore 1, .aload 0, .getfield 64, .invokestatic 289, .iload 1, .iconst (-1), .if_icmp .eq 13697, .iconst (-10000), .iload 1, .isub, .ireturn],
  [.aload 0, .getfield 74, .aload 0, .getfield 71, .aload 0, .getfield 68, .invokestatic 260, .aload 0, .getfield 74, .getfield 457, .istore 2, .aload 0, .getfield 74, .aload 0, .getfield 71, .aload 0, .getfield 69, .invokestatic 260, .aload 0, .getfield 65, .invokestatic 292, .aload 0, .getfield 65, .aload 0, .getfield 74, .getfield 457, .i2l, .invokestatic 293, .aload 0, .getfield 65, .iload 2, .i2l, .invokestatic 293, .aload 0, .getfield 74, .getfield 459, .ireturn]]
def aLm215 : List (List Instr) := [[.iload 1, .ifCond .lt 13761, .iload 1, .iconst 20, .if_icmp .le 13762, .jsr 13761],
  [.iconst (-1), .ireturn],
  [.aload 0, .getfield 65, .invokestatic 292, .iconst 0, .istore 2, .iconst 0, .istore 3, .jsr 13763],
  [.iload 3, .iconst 9, .if_icmp .gt 13768, .iconst 0, .istore 4, .jsr 13764],
  [.iload 4, .iconst 9, .if_icmp .gt 13767, .iload 1, .iload 3, .iload 4, .invokestatic 216, .ifCond .eq 13766, .iload 1, .iload 4, .iload 3, .invokestatic 216, .ifCond .ne 13765, .goto 13766],
  [.iinc 2 (1), .iload 2, .iconst 1, .if_icmp .ne 13766, .aload 0, .getfield 65, .iload 3, .i2l, .invokestatic 293, .aload 0, .getfield 65, .iload 4, .i2l, .invokestatic 293, .jsr 13766],
  [.iinc 4 (1), .goto 13764],
  [.iinc 3 (1), .goto 13763],
  [.iload 2, .ireturn]]
def aLm216 : List (List Instr) := [[.iload 0, .iload 1, .iload 2, .invokestatic 217, .istore 3, .iconst 0, .istore 4, .jsr 13825],
  [.iload 4, .iconst 9, .if_icmp .gt 13827, .iload 0, .iload 4, .iload 2, .invokestatic 217, .iload 3, .if_icmp .le 13826, .iconst 0, .freturn],
  [.iinc 4 (1), .goto 13825],
  [.iconst 1, .freturn]]
def aLm217 : List (List Instr) := [[.iconst 2, .iload 1, .imul, .iconst 3, .idiv, .iload 1, .iload 2, .if_icmp .le 13889, .iconst 1, .goto 13890],
  [.iconst 0, .jsr 13890],
  [.iadd, .istore 3, .iload 0, .iconst 9, .iload 1, .iload 2, .iadd, .invokedynamic 5, .imul, .iconst 9, .idiv, .iload 3, .isub, .ireturn]]
def aLm218 : List (List Instr) := [[.iload 2, .iconst 1, .if_icmp .lt 13953, .iload 2, .iconst 60, .if_icmp .le 13954, .jsr 13953],
  [.iconst (-1), .ireturn],
  [.aload 0, .getfield 73, .aload 0, .getfield 71, .invokestatic 283, .iload 1, .istore 3, .iconst 0, .istore 4, .iconst 0, .istore 5, .jsr 13955],
  [.iload 5, .iload 2, .if_icmp .ge 13959, .iload 3, .invokestatic 219, .istore 3, .iload 3, .iconst 4, .invokestatic 220, .istore 6, .iload 6, .iconst 2, .if_icmp .ge 13956, .iload 4, .aload 0, .getfield 74, .aload 0, .getfield 73, .aload 0, .getfield 68, .iconst 1, .invokestatic 254, .iadd, .istore 4, .goto 13958],
  [.iload 3, .invokestatic 219, .istore 3, .iload 3, .aload 0, .getfield 66, .getfield 258, .invokestatic 220, .istore 7, .iload 6, .iconst 2, .if_icmp .ne 13957, .iload 3, .invokestatic 219, .istore 3, .aload 0, .aload 0, .getfield 73, .iload 7, .iload 3, .iconst 3, .invokestatic 220, .iconst 1, .iadd, .invokestatic 163, .pop, .goto 13958],
  [.aload 0, .aload 0, .getfield 73, .iload 7, .invokestatic 168, .pop, .jsr 13958],
  [.iinc 5 (1), .goto 13955],
  [.aload 0, .getfield 65, .invokestatic 292, .aload 0, .getfield 65, .aload 0, .getfield 73, .invokestatic 282, .i2l, .invokestatic 293, .aload 0, .getfield 65, .aload 0, .getfield 73, .getfield 645, .i2l, .invokestatic 293, .iload 4, .ireturn]]
def aLm219 : List (List Instr) := [[.iload 0, .iconst 1103515245, .imul, .iconst 12345, .iadd, .ireturn]]
def aLm220 : List (List Instr) := [[.iload 1, .iconst 1, .if_icmp .ge 14081, .iconst 0, .goto 14082],
  [.iload 0, .iconst 16, .iushr, .iload 1, .irem, .jsr 14082],
  [.ireturn]]
def aLm221 : List (List Instr) := [[.iload 1, .ifCond .lt 14145, .iload 1, .iconst 3, .if_icmp .lt 14146, .jsr 14145],
  [.iconst 0, .freturn],
  [.aload 0, .getfield 76, .iload 1, .aaload, .aload 0, .getfield 71, .invokestatic 283, .aload 0, .dup, .getfield 77, .iconst 1, .iload 1, .ishl, .ior, .putfield 269, .iconst 1, .freturn]]
def aLm222 : List (List Instr) := [[.iload 1, .ifCond .lt 14209, .iload 1, .iconst 3, .if_icmp .ge 14209, .aload 0, .getfield 77, .i2l, .iload 1, .invokestatic 161, .ifCond .ne 14210, .jsr 14209],
  [.iconst 0, .freturn],
  [.aload 0, .getfield 71, .aload 0, .getfield 76, .iload 1, .aaload, .invokestatic 283, .aload 0, .getfield 75, .invokestatic 250, .iconst 1, .freturn]]
def aLm223 : List (List Instr) := [[.iload 1, .tableswitch 14282 (0) (8) #[14273, 14274, 14275, 14276, 14277, 14278, 14279, 14280, 14281]],
  [.aload 0, .getfield 66, .getfield 256, .ireturn],
  [.aload 0, .getfield 66, .getfield 257, .ireturn],
  [.aload 0, .getfield 71, .getfield 643, .ireturn],
  [.aload 0, .getfield 71, .getfield 644, .ireturn],
  [.aload 0, .getfield 71, .getfield 645, .ireturn],
  [.aload 0, .getfield 71, .invokestatic 282, .ireturn],
  [.aload 0, .getfield 71, .getfield 641, .invokestatic 122, .ireturn],
  [.aload 0, .getfield 71, .getfield 642, .invokestatic 122, .ireturn],
  [.aload 0, .getfield 67, .aload 0, .getfield 71, .getfield 644, .invokestatic 230, .ireturn],
  [.aload 0, .iload 1, .invokestatic 224, .ireturn]]
def aLm224 : List (List Instr) := [[.iload 1, .tableswitch 14342 (9) (13) #[14337, 14338, 14339, 14340, 14341]],
  [.aload 0, .getfield 78, .getfield 323, .ireturn],
  [.aload 0, .getfield 79, .getfield 323, .ireturn],
  [.aload 0, .getfield 75, .getfield 386, .ireturn],
  [.aload 0, .getfield 65, .getfield 769, .ireturn],
  [.aload 0, .getfield 64, .getfield 705, .ireturn],
  [.iconst (-100), .ireturn]]
def aLm225 : List (List Instr) := [[.aload 0, .getfield 66, .iload 1, .invokestatic 242, .ifCond .eq 14401, .iload 2, .ifCond .lt 14401, .iload 2, .iconst 3, .if_icmp .le 14402, .jsr 14401],
  [.athrow],
  [.iload 2, .ifCond .ne 14403, .aload 0, .getfield 71, .getfield 640, .iload 1, .iaload, .ireturn],
  [.iload 2, .iconst 3, .if_icmp .ne 14404, .aload 0, .getfield 74, .aload 0, .getfield 71, .aload 0, .getfield 68, .invokestatic 260, .aload 0, .getfield 74, .getfield 458, .iload 1, .invokestatic 161, .ireturn],
  [.iload 2, .iconst 1, .if_icmp .ne 14405, .aload 0, .getfield 71, .getfield 641, .goto 14406],
  [.aload 0, .getfield 71, .getfield 642, .jsr 14406],
  [.iload 1, .invokestatic 161, .ireturn]]
def aLm226 : List (List Instr) := [[.aload 0, .getfield 66, .iload 1, .invokestatic 242, .ifCond .eq 14465, .iload 2, .ifCond .lt 14465, .iload 2, .iconst 1, .if_icmp .le 14466, .jsr 14465],
  [.athrow],
  [.aload 0, .getfield 74, .aload 0, .getfield 71, .aload 0, .getfield 68, .invokestatic 255, .aload 0, .getfield 74, .iload 1, .iload 2, .invokestatic 258, .ireturn]]
def aLm227 : List (List Instr) := [[.iload 1, .ifCond .lt 14529, .iload 1, .aload 0, .getfield 65, .getfield 769, .if_icmp .lt 14530, .jsr 14529],
  [.athrow],
  [.aload 0, .getfield 65, .getfield 768, .iload 1, .laload, .lreturn]]
def aLm228 : List (List Instr) := [[.aload 0, .invokedynamic 0, .aload 0, .iconst 20, .newarray .int, .putfield 704, .aload 0, .iconst 1, .putfield 513, .return_]]
def aLm229 : List (List Instr) := [[.aload 0, .iconst 1, .iconst 20, .aload 1, .getfield 705, .invokedynamic 5, .invokedynamic 6, .putfield 513, .iconst 0, .istore 2, .jsr 14657],
  [.iload 2, .aload 0, .getfield 129, .if_icmp .ge 14658, .aload 0, .getfield 128, .iload 2, .iconst 0, .aload 1, .iload 2, .invokestatic 287, .invokedynamic 6, .iastore, .iinc 2 (1), .goto 14657],
  [.return_]]
def aLm230 : List (List Instr) := [[.iload 1, .ifCond .lt 14721, .aload 0, .getfield 129, .iconst 1, .if_icmp .ge 14722, .jsr 14721],
  [.iconst 0, .goto 14723],
  [.aload 0, .getfield 128, .iload 1, .aload 0, .getfield 129, .irem, .iaload, .jsr 14723],
  [.ireturn]]
def aLm231 : List (List Instr) := [[.aload 0, .invokedynamic 0, .aload 0, .iconst 8, .newarray .int, .putfield 960, .aload 0, .iconst 20, .newarray .int, .putfield 961, .aload 0, .iconst 36, .newarray .long, .putfield 962, .return_]]
def aLm232 : List (List Instr) := [[.aload 0, .iconst 8, .aload 1, .getfield 705, .invokedynamic 5, .putfield 771, .aload 0, .iconst 0, .putfield 772, .iconst 0, .istore 2, .jsr 14849],
  [.iload 2, .aload 0, .getfield 195, .if_icmp .ge 14850, .aload 0, .getfield 192, .iload 2, .aload 1, .iload 2, .invokestatic 287, .iastore, .iinc 2 (1), .goto 14849],
  [.return_]]
def aLm233 : List (List Instr) := [[.aload 0, .getfield 196, .iconst 20, .if_icmp .ge 14913, .aload 0, .getfield 193, .aload 0, .getfield 196, .iload 1, .iastore, .aload 0, .dup, .getfield 196, .iconst 1, .iadd, .putfield 772, .jsr 14913],
  [.return_]]
def aLm234 : List (List Instr) := [[.aload 0, .iconst 0, .iconst 0, .invokestatic 235, .istore 2, .iload 2, .istore 3, .iconst 0, .istore 4, .aload 1, .invokestatic 292, .iconst 0, .istore 5, .jsr 14977],
  [.iload 5, .aload 0, .getfield 195, .if_icmp .ge 14979, .aload 0, .iload 5, .iload 4, .iload 3, .invokestatic 236, .istore 6, .aload 1, .iload 6, .i2l, .invokestatic 293, .iload 6, .iconst (-1), .if_icmp .eq 14978, .iload 4, .iconst 1, .iload 6, .ishl, .ior, .istore 4, .iinc 3 (-1), .jsr 14978],
  [.iinc 5 (1), .goto 14977],
  [.iload 2, .ireturn]]
def aLm235 : List (List Instr) := [[.iconst 0, .istore 3, .iconst 0, .istore 4, .iconst 9, .istore 5, .jsr 15041],
  [.iload 5, .iconst 1, .if_icmp .lt 15049, .iconst 0, .istore 6, .jsr 15042],
  [.iload 6, .aload 0, .getfield 196, .if_icmp .ge 15045, .iload 4, .aload 0, .getfield 193, .iload 6, .iaload, .iload 5, .if_icmp .ne 15043, .iconst 1, .iload 2, .i2l, .iload 6, .invokestatic 161, .isub, .goto 15044],
  [.iconst 0, .jsr 15044],
  [.iadd, .istore 4, .iinc 6 (1), .goto 15042],
  [.iload 1, .istore 6, .jsr 15046],
  [.iload 6, .aload 0, .getfield 195, .if_icmp .ge 15048, .aload 0, .getfield 192, .iload 6, .iaload, .iload 5, .if_icmp .ne 15047, .iload 4, .ifCond .le 15047, .iinc 4 (-1), .iinc 3 (1), .jsr 15047],
  [.iinc 6 (1), .goto 15046],
  [.iinc 5 (-1), .goto 15041],
  [.iload 3, .ireturn]]
def aLm236 : List (List Instr) := [[.aload 0, .iload 1, .iconst 1, .iadd, .iload 2, .invokestatic 235, .iload 3, .if_icmp .ne 15105, .iconst (-1), .ireturn],
  [.iconst 0, .istore 4, .jsr 15106],
  [.iload 4, .aload 0, .getfield 196, .if_icmp .ge 15110, .iload 2, .i2l, .iload 4, .invokestatic 161, .ifCond .ne 15107, .aload 0, .getfield 193, .iload 4, .iaload, .aload 0, .getfield 192, .iload 1, .iaload, .if_icmp .lt 15107, .iconst 1, .goto 15108],
  [.iconst 0, .jsr 15108],
  [.istore 5, .iload 5, .ifCond .eq 15109, .aload 0, .iload 1, .iconst 1, .iadd, .iload 2, .iconst 1, .iload 4, .ishl, .ior, .invokestatic 235, .iload 3, .iconst 1, .isub, .if_icmp .ne 15109, .iload 4, .ireturn],
  [.iinc 4 (1), .goto 15106],
  [.iconst (-1), .ireturn]]
def aLm237 : List (List Instr) := [[.aload 1, .getfield 260, .lload 2, .land, .lstore 6, .iconst 0, .istore 8, .jsr 15169],
  [.iload 8, .iconst 36, .if_icmp .ge 15171, .aload 0, .getfield 194, .iload 8, .lload 6, .lastore, .lload 6, .iload 4, .invokestatic 161, .iconst 1, .if_icmp .ne 15170, .aload 0, .aload 1, .iload 4, .iload 8, .aload 5, .invokestatic 238, .iload 8, .iconst 1, .iadd, .ireturn],
  [.lload 6, .aload 1, .lload 6, .invokestatic 243, .lload 2, .land, .lor, .lstore 6, .iinc 8 (1), .goto 15169],
  [.iconst (-2), .ireturn]]
def aLm238 : List (List Instr) := [[.aload 4, .invokestatic 292, .aload 4, .iload 2, .i2l, .invokestatic 293, .iload 2, .istore 5, .iload 3, .iconst 36, .invokedynamic 5, .iconst 1, .isub, .istore 6, .jsr 15233],
  [.iload 6, .ifCond .lt 15234, .aload 1, .ldc2_w 17, .iload 5, .lshl, .invokestatic 243, .aload 0, .getfield 194, .iload 6, .laload, .land, .invokestatic 123, .istore 5, .aload 4, .iload 5, .i2l, .invokestatic 293, .iinc 6 (-1), .goto 15233],
  [.return_]]
def aLm239 : List (List Instr) := [[.aload 0, .invokedynamic 0, .aload 0, .iconst 36, .newarray .int, .putfield 1223, .aload 0, .iconst 36, .newarray .int, .putfield 1224, .aload 0, .iconst 108, .newarray .int, .putfield 1225, .aload 0, .iconst 2, .iconst 2, .invokestatic 240, .return_]]
def aLm240 : List (List Instr) := [[.aload 0, .iconst 2, .iconst 6, .iload 1, .invokedynamic 5, .invokedynamic 6, .putfield 1024, .aload 0, .iconst 2, .iconst 6, .iload 2, .invokedynamic 5, .invokedynamic 6, .putfield 1025, .aload 0, .aload 0, .getfield 256, .aload 0, .getfield 257, .imul, .putfield 1026, .aload 0, .ldc2_w 17, .aload 0, .getfield 258, .lshl, .ldc2_w 17, .lsub, .putfield 1091, .aload 0, .aload 0, .getfield 259, .ldc2_w 17, .aload 0, .getfield 258, .aload 0, .getfield 257, .isub, .lshl, .ldc2_w 17, .lsub, .ldc2_w 15, .lxor, .land, .putfield 1092, .aload 0, .ldc2_w 16, .putfield 1093, .iconst 0, .istore 3, .jsr 15361],
  [.iload 3, .aload 0, .getfield 258, .if_icmp .ge 15370, .aload 0, .getfield 263, .iload 3, .iload 3, .aload 0, .getfield 257, .idiv, .iastore, .aload 0, .getfield 264, .iload 3, .iload 3, .aload 0, .getfield 257, .irem, .iastore, .aload 0, .dup, .getfield 261, .aload 0, .getfield 264, .iload 3, .iaload, .ifCond .ne 15362, .ldc2_w 17, .iload 3, .lshl, .goto 15363],
  [.ldc2_w 16, .jsr 15363],
  [.lor, .putfield 1093, .aload 0, .getfield 265, .iload 3, .iconst 3, .imul, .iconst 0, .iadd, .aload 0, .getfield 263, .iload 3, .iaload, .aload 0, .getfield 256, .iconst 1, .isub, .if_icmp .ge 15364, .iload 3, .aload 0, .getfield 257, .iadd, .goto 15365],
  [.iconst (-1), .jsr 15365],
  [.iastore, .aload 0, .getfield 265, .iload 3, .iconst 3, .imul, .iconst 1, .iadd, .aload 0, .getfield 264, .iload 3, .iaload, .ifCond .le 15366, .iload 3, .iconst 1, .isub, .goto 15367],
  [.iconst (-1), .jsr 15367],
  [.iastore, .aload 0, .getfield 265, .iload 3, .iconst 3, .imul, .iconst 2, .iadd, .aload 0, .getfield 264, .iload 3, .iaload, .aload 0, .getfield 257, .iconst 1, .isub, .if_icmp .ge 15368, .iload 3, .iconst 1, .iadd, .goto 15369],
  [.iconst (-1), .jsr 15369],
  [.iastore, .iinc 3 (1), .goto 15361],
  [.aload 0, .aload 0, .getfield 261, .aload 0, .getfield 257, .iconst 1, .isub, .lshl, .putfield 1094, .return_]]
def aLm241 : List (List Instr) := [[.aload 0, .iload 1, .invokestatic 242, .ifCond .eq 15425, .iload 2, .ifCond .lt 15425, .iload 2, .iconst 3, .if_icmp .ge 15425, .aload 0, .getfield 265, .iload 1, .iconst 3, .imul, .iload 2, .iadd, .iaload, .goto 15426],
  [.iconst (-1), .jsr 15426],
  [.ireturn]]
def aLm242 : List (List Instr) := [[.iload 1, .ifCond .lt 15489, .iload 1, .aload 0, .getfield 258, .if_icmp .ge 15489, .iconst 1, .goto 15490],
  [.iconst 0, .jsr 15490],
  [.freturn]]
def aLm243 : List (List Instr) := [[.lload 1, .aload 0, .getfield 257, .lshl, .lload 1, .aload 0, .getfield 257, .lushr, .lor, .lstore 3, .lload 1, .aload 0, .getfield 261, .ldc2_w 15, .lxor, .land, .iconst 1, .lushr, .lload 1, .aload 0, .getfield 262, .ldc2_w 15, .lxor, .land, .iconst 1, .lshl, .lor, .lstore 5, .lload 3, .lload 5, .lor, .aload 0, .getfield 259, .land, .lreturn]]
def aLm244 : List (List Instr) := [[.iload 1, .ifCond .lt 15617, .iload 1, .aload 0, .getfield 256, .if_icmp .ge 15617, .iload 2, .ifCond .lt 15617, .iload 2, .aload 0, .getfield 257, .if_icmp .lt 15618, .jsr 15617],
  [.iconst (-1), .ireturn],
  [.iload 1, .aload 0, .getfield 257, .imul, .iload 2, .iadd, .ireturn]]
def aLm245 : List (List Instr) := [[.aload 0, .invokedynamic 0, .aload 0, .iconst 10, .newarray .int, .putfield 1472, .aload 0, .iconst 10, .newarray .int, .putfield 1473, .aload 0, .iconst 10, .newarray .int, .putfield 1474, .return_]]
def aLm246 : List (List Instr) := [[.aload 0, .getfield 323, .iconst 10, .if_icmp .lt 15745, .iconst (-1), .ireturn],
  [.aload 0, .getfield 320, .aload 0, .getfield 323, .iload 1, .iastore, .aload 0, .getfield 321, .aload 0, .getfield 323, .iload 2, .iastore, .aload 0, .getfield 322, .aload 0, .getfield 323, .iload 3, .iastore, .aload 0, .dup, .getfield 323, .iconst 1, .iadd, .putfield 1283, .aload 0, .getfield 323, .ireturn]]
def aLm247 : List (List Instr) := [[.aload 0, .getfield 323, .istore 1, .aload 0, .iconst 0, .putfield 1283, .iload 1, .ireturn]]
def aLm248 : List (List Instr) := [[.iconst (-1), .istore 1, .iconst 0, .istore 2, .jsr 15873],
  [.iload 2, .aload 0, .getfield 323, .if_icmp .ge 15874, .iload 1, .aload 0, .getfield 320, .iload 2, .iaload, .invokedynamic 6, .istore 1, .iinc 2 (1), .goto 15873],
  [.iload 1, .ireturn]]
def aLm249 : List (List Instr) := [[.aload 0, .invokedynamic 0, .aload 0, .iconst 15, .anewarray 10, .putfield 1728, .iconst 0, .istore 1, .jsr 15937],
  [.iload 1, .iconst 15, .if_icmp .ge 15938, .aload 0, .getfield 384, .iload 1, .new 10, .dup, .invokestatic 280, .aastore, .iinc 1 (1), .goto 15937],
  [.return_]]
def aLm250 : List (List Instr) := [[.aload 0, .iconst 0, .putfield 1538, .return_]]
def aLm251 : List (List Instr) := [[.aload 0, .getfield 384, .aload 0, .getfield 385, .aaload, .aload 1, .invokestatic 283, .aload 0, .aload 0, .getfield 385, .iconst 1, .iadd, .iconst 15, .if_icmp .ge 16065, .aload 0, .getfield 385, .iconst 1, .iadd, .goto 16066],
  [.iconst 0, .jsr 16066],
  [.putfield 1537, .aload 0, .iconst 15, .aload 0, .getfield 386, .iconst 1, .iadd, .invokedynamic 5, .putfield 1538, .return_]]
def aLm252 : List (List Instr) := [[.aload 0, .getfield 386, .ifCond .ne 16129, .iconst 0, .freturn],
  [.aload 0, .aload 0, .getfield 385, .ifCond .le 16130, .aload 0, .getfield 385, .iconst 1, .isub, .goto 16131],
  [.iconst 14, .jsr 16131],
  [.putfield 1537, .aload 1, .aload 0, .getfield 384, .aload 0, .getfield 385, .aaload, .invokestatic 283, .aload 0, .dup, .getfield 386, .iconst 1, .isub, .putfield 1538, .iconst 1, .freturn]]
def aLm253 : List (List Instr) := [[.aload 0, .invokedynamic 0, .aload 0, .iconst 7, .newarray .int, .putfield 1988, .aload 0, .iconst 72, .newarray .int, .putfield 1989, .aload 0, .iconst 2, .newarray .long, .putfield 1990, .aload 0, .iconst 36, .newarray .int, .putfield 1992, .aload 0, .iconst 36, .newarray .int, .putfield 1997, .aload 0, .aload 1, .putfield 1984, .aload 0, .aload 2, .putfield 1985, .aload 0, .aload 3, .putfield 1986, .aload 0, .aload 4, .putfield 1987, .return_]]
def aLm254 : List (List Instr) := [[.iconst 0, .istore 4, .iconst 0, .istore 5, .jsr 16257],
  [.iload 5, .iload 3, .if_icmp .ge 16260, .aload 0, .aload 1, .aload 2, .invokestatic 255, .aload 0, .aload 1, .getfield 641, .invokestatic 256, .aload 0, .invokestatic 259, .iload 4, .aload 0, .getfield 459, .iconst (-2), .if_icmp .ne 16258, .iconst 0, .goto 16259],
  [.iconst 1, .jsr 16259],
  [.iadd, .istore 4, .iinc 5 (1), .goto 16257],
  [.iload 4, .ireturn]]
def aLm255 : List (List Instr) := [[.aload 0, .aload 1, .putfield 1986, .aload 0, .aload 2, .putfield 1987, .aload 0, .aload 0, .getfield 449, .aload 1, .getfield 644, .invokestatic 230, .putfield 1799, .aload 0, .getfield 454, .iconst 0, .ldc2_w 16, .lastore, .aload 0, .getfield 454, .iconst 1, .ldc2_w 16, .lastore, .return_]]
def aLm256 : List (List Instr) := [[.aload 0, .iconst 0, .putfield 1801, .aload 0, .ldc2_w 16, .putfield 1866, .aload 0, .iconst (-2), .putfield 1803, .aload 0, .iconst (-1), .putfield 1804, .lload 1, .aload 0, .getfield 450, .getfield 643, .invokestatic 161, .iconst 1, .if_icmp .ne 16385, .iconst (-1), .goto 16386],
  [.aload 0, .getfield 450, .getfield 643, .jsr 16386],
  [.istore 3, .iconst 0, .istore 4, .jsr 16387],
  [.iload 4, .aload 0, .getfield 448, .getfield 258, .if_icmp .ge 16391, .iload 3, .iconst (-1), .if_icmp .eq 16391, .aload 0, .getfield 456, .iload 4, .iload 3, .iastore, .aload 0, .iload 4, .iconst 1, .iadd, .putfield 1801, .aload 0, .dup, .getfield 458, .ldc2_w 17, .iload 3, .lshl, .lor, .putfield 1866, .aload 0, .getfield 448, .getfield 260, .iload 3, .invokestatic 161, .iconst 1, .if_icmp .ne 16388, .aload 0, .aload 0, .getfield 448, .getfield 264, .iload 3, .iaload, .putfield 1803, .return_],
  [.aload 0, .iload 3, .lload 1, .aload 0, .getfield 458, .lor, .invokestatic 257, .istore 5, .aload 0, .iload 5, .iconst (-1), .if_icmp .ne 16389, .iload 3, .goto 16390],
  [.iconst (-1), .jsr 16390],
  [.putfield 1804, .iload 5, .istore 3, .iinc 4 (1), .goto 16387],
  [.return_]]
def aLm257 : List (List Instr) := [[.iconst (-1), .istore 4, .iconst 0, .istore 5, .iconst 0, .istore 6, .jsr 16449],
  [.iload 6, .iconst 3, .if_icmp .ge 16455, .aload 0, .getfield 448, .iload 1, .iload 6, .invokestatic 241, .istore 7, .iload 7, .iconst (-1), .if_icmp .eq 16454, .lload 2, .iload 7, .invokestatic 161, .iconst 1, .if_icmp .ne 16450, .goto 16454],
  [.aload 0, .iload 7, .iload 6, .ifCond .ne 16451, .iconst 0, .goto 16452],
  [.iconst 1, .jsr 16452],
  [.invokestatic 258, .istore 8, .iload 4, .iconst (-1), .if_icmp .eq 16453, .iload 8, .iload 5, .if_icmp .ge 16454, .jsr 16453],
  [.iload 7, .istore 4, .iload 8, .istore 5, .jsr 16454],
  [.iinc 6 (1), .goto 16449],
  [.iload 4, .ireturn]]
def aLm258 : List (List Instr) := [[.iload 1, .iconst 2, .imul, .iload 2, .iadd, .istore 3, .aload 0, .getfield 454, .iload 2, .laload, .iload 1, .invokestatic 161, .ifCond .ne 16513, .aload 0, .getfield 452, .iconst 0, .aload 0, .getfield 450, .getfield 640, .iload 1, .iaload, .iastore, .aload 0, .getfield 452, .iconst 1, .iload 2, .iastore, .aload 0, .getfield 452, .iconst 2, .aload 0, .getfield 450, .getfield 642, .iload 1, .invokestatic 161, .iastore, .aload 0, .getfield 452, .iconst 3, .aload 0, .getfield 455, .iastore, .aload 0, .getfield 452, .iconst 4, .aload 0, .getfield 450, .getfield 644, .iconst 7, .irem, .iastore, .aload 0, .getfield 452, .iconst 5, .aload 0, .getfield 448, .getfield 263, .iload 1, .iaload, .iastore, .aload 0, .getfield 452, .iconst 6, .aload 0, .getfield 448, .getfield 264, .iload 1, .iaload, .iastore, .aload 0, .getfield 453, .iload 3, .aload 0, .getfield 451, .aload 0, .getfield 452, .invokestatic 267, .iastore, .aload 0, .getfield 454, .iload 2, .dup2, .laload, .ldc2_w 17, .iload 1, .lshl, .lor, .lastore, .jsr 16513],
  [.aload 0, .getfield 453, .iload 3, .iaload, .ireturn]]
def aLm259 : List (List Instr) := [[.aload 0, .getfield 448, .aload 0, .getfield 458, .invokestatic 243, .aload 0, .getfield 458, .ldc2_w 15, .lxor, .land, .aload 0, .getfield 450, .getfield 641, .ldc2_w 15, .lxor, .land, .lstore 1, .iconst 0, .istore 3, .jsr 16577],
  [.iload 3, .aload 0, .getfield 448, .getfield 258, .if_icmp .ge 16580, .aload 0, .getfield 458, .iload 3, .invokestatic 161, .iconst 1, .if_icmp .ne 16578, .aload 0, .getfield 450, .getfield 640, .iload 3, .iconst 0, .aload 0, .getfield 450, .getfield 640, .iload 3, .iaload, .iconst 1, .isub, .invokedynamic 6, .iastore, .goto 16579],
  [.lload 1, .iload 3, .invokestatic 161, .iconst 1, .if_icmp .ne 16579, .aload 0, .getfield 450, .getfield 640, .iload 3, .iconst 9, .aload 0, .getfield 450, .getfield 640, .iload 3, .iaload, .iconst 1, .iadd, .invokedynamic 5, .iastore, .jsr 16579],
  [.iinc 3 (1), .goto 16577],
  [.aload 0, .getfield 460, .iconst (-1), .if_icmp .eq 16581, .aload 0, .getfield 450, .getfield 640, .aload 0, .getfield 460, .iconst 9, .aload 0, .getfield 450, .getfield 640, .aload 0, .getfield 460, .iaload, .iconst 3, .iadd, .invokedynamic 5, .iastore, .jsr 16581],
  [.aload 0, .getfield 459, .iconst (-2), .if_icmp .ne 16582, .aload 0, .getfield 450, .iconst 9999, .aload 0, .getfield 450, .getfield 645, .iconst 1, .iadd, .invokedynamic 5, .putfield 2565, .jsr 16582],
  [.aload 0, .getfield 450, .aload 0, .getfield 458, .putfield 2626, .aload 0, .getfield 450, .dup, .getfield 644, .iconst 1, .iadd, .putfield 2564, .return_]]
def aLm260 : List (List Instr) := [[.aload 0, .aload 1, .aload 2, .invokestatic 255, .aload 0, .aload 1, .getfield 641, .invokestatic 256, .return_]]
def aLm261 : List (List Instr) := [[.aload 0, .getfield 456, .iconst 0, .aload 0, .getfield 461, .iconst 0, .iconst 36, .invokedynamic 1, .aload 0, .aload 0, .getfield 457, .putfield 1806, .return_]]
def aLm262 : List (List Instr) := [[.aload 0, .getfield 457, .aload 0, .getfield 462, .if_icmp .eq 16769, .iconst 0, .freturn],
  [.iconst 0, .istore 1, .jsr 16770],
  [.iload 1, .aload 0, .getfield 457, .if_icmp .ge 16772, .aload 0, .getfield 456, .iload 1, .iaload, .aload 0, .getfield 461, .iload 1, .iaload, .if_icmp .eq 16771, .iconst 0, .freturn],
  [.iinc 1 (1), .goto 16770],
  [.iconst 1, .freturn]]
def aLm263 : List (List Instr) := [[.iconst (-1), .istore 1, .iconst 0, .istore 2, .jsr 16833],
  [.iload 2, .aload 0, .getfield 457, .if_icmp .ge 16836, .iload 1, .iconst (-1), .if_icmp .eq 16834, .aload 0, .getfield 450, .getfield 640, .aload 0, .getfield 456, .iload 2, .iaload, .iaload, .aload 0, .getfield 450, .getfield 640, .iload 1, .iaload, .if_icmp .le 16835, .jsr 16834],
  [.aload 0, .getfield 456, .iload 2, .iaload, .istore 1, .jsr 16835],
  [.iinc 2 (1), .goto 16833],
  [.iload 1, .ireturn]]
def aLm264 : List (List Instr) := [[.aload 0, .invokestatic 263, .istore 1, .aload 0, .getfield 459, .iconst (-2), .if_icmp .eq 16897, .iload 1, .iconst (-1), .if_icmp .ne 16898, .jsr 16897],
  [.iconst 0, .goto 16899],
  [.iconst 9, .aload 0, .getfield 450, .getfield 640, .iload 1, .iaload, .isub, .jsr 16899],
  [.ireturn]]
def aLm265 : List (List Instr) := [[.aload 0, .invokedynamic 0, .aload 0, .iconst 40, .newarray .int, .putfield 2240, .aload 0, .iconst 40, .newarray .int, .putfield 2241, .aload 0, .ldc 1, .ldc 1, .arraylength, .invokestatic 266, .return_]]
def aLm266 : List (List Instr) := [[.aload 0, .iconst 0, .iconst 40, .iload 2, .aload 1, .arraylength, .invokedynamic 5, .invokedynamic 5, .invokedynamic 6, .putfield 2050, .aload 1, .iconst 0, .aload 0, .getfield 512, .iconst 0, .aload 0, .getfield 514, .invokedynamic 1, .return_]]
def aLm267 : List (List Instr) := [[.iconst (-1), .istore 2, .iconst 0, .istore 3, .jsr 17089],
  [.iload 3, .aload 0, .getfield 514, .if_icmp .ge 17113, .aload 0, .getfield 512, .iload 3, .iaload, .istore 4, .iload 4, .ifCond .lt 17094, .iload 2, .iconst 39, .if_icmp .ge 17090, .iload 2, .iconst 1, .iadd, .goto 17091],
  [.iload 2, .jsr 17091],
  [.istore 2, .iload 4, .iconst 1000, .isub, .istore 5, .aload 0, .getfield 513, .iload 2, .iload 5, .ifCond .lt 17092, .iload 5, .aload 1, .arraylength, .if_icmp .ge 17092, .aload 1, .iload 5, .iaload, .goto 17093],
  [.iload 4, .jsr 17093],
  [.iastore, .goto 17112],
  [.iload 4, .iconst (-1), .if_icmp .ne 17095, .iload 2, .ifCond .lt 17095, .aload 0, .getfield 513, .iload 2, .aload 0, .getfield 513, .iload 2, .iaload, .ineg, .iastore, .jsr 17095],
  [.iload 4, .iconst (-1), .if_icmp .eq 17112, .iload 2, .iconst 1, .if_icmp .ge 17096, .goto 17112],
  [.aload 0, .getfield 513, .iload 2, .iconst 1, .isub, .iaload, .istore 5, .aload 0, .getfield 513, .iload 2, .iaload, .istore 6, .iinc 2 (-1), .iload 4, .tableswitch 17109 (-7) (-2) #[17106, 17103, 17102, 17101, 17098, 17097]],
  [.aload 0, .getfield 513, .iload 2, .iload 5, .iload 6, .imul, .iastore, .goto 17112],
  [.aload 0, .getfield 513, .iload 2, .iload 6, .ifCond .ne 17099, .iconst 0, .goto 17100],
  [.iload 5, .iload 6, .idiv, .jsr 17100],
  [.iastore, .goto 17112],
  [.aload 0, .getfield 513, .iload 2, .iload 5, .iload 6, .iadd, .iastore, .goto 17112],
  [.aload 0, .getfield 513, .iload 2, .iload 5, .iload 6, .isub, .iastore, .goto 17112],
  [.aload 0, .getfield 513, .iload 2, .iload 5, .iload 6, .if_icmp .ge 17104, .iconst 1, .goto 17105],
  [.iconst 0, .jsr 17105],
  [.iastore, .goto 17112],
  [.aload 0, .getfield 513, .iload 2, .iload 5, .iload 6, .if_icmp .le 17107, .iconst 1, .goto 17108],
  [.iconst 0, .jsr 17108],
  [.iastore, .goto 17112],
  [.aload 0, .getfield 513, .iload 2, .iload 5, .iload 6, .if_icmp .ne 17110, .iconst 1, .goto 17111],
  [.iconst 0, .jsr 17111],
  [.iastore, .jsr 17112],
  [.iinc 3 (1), .goto 17089],
  [.aload 0, .getfield 513, .iconst 0, .iaload, .ireturn]]
def aLm268 : List (List Instr) := [[.aload 0, .invokedynamic 0, .aload 0, .iconst 40, .newarray .int, .putfield 2496, .aload 0, .iconst 40, .newarray .int, .putfield 2497, .return_]]
def aLm269 : List (List Instr) := [[.aload 1, .getfield 705, .ifCond .ne 17217, .aload 2, .ldc 1, .ldc 1, .arraylength, .invokestatic 266, .iconst (-1), .ireturn],
  [.aload 0, .invokestatic 270, .aload 1, .getfield 705, .iconst 40, .invokedynamic 5, .istore 3, .iconst 0, .istore 4, .jsr 17218],
  [.iload 4, .iload 3, .if_icmp .ge 17220, .aload 0, .aload 1, .iload 4, .invokestatic 288, .invokestatic 271, .ifCond .ne 17219, .iload 4, .ireturn],
  [.iinc 4 (1), .goto 17218],
  [.aload 1, .getfield 705, .iconst 40, .if_icmp .gt 17221, .aload 0, .getfield 582, .ifCond .ne 17221, .aload 0, .getfield 580, .ifCond .le 17222, .jsr 17221],
  [.iload 3, .ireturn],
  [.aload 0, .iconst 0, .invokestatic 277, .aload 2, .aload 0, .getfield 576, .aload 0, .getfield 578, .invokestatic 266, .iconst (-1), .ireturn]]
def aLm270 : List (List Instr) := [[.aload 0, .iconst 0, .putfield 2306, .aload 0, .iconst 0, .putfield 2307, .aload 0, .iconst 0, .putfield 2308, .aload 0, .iconst 0, .putfield 2309, .aload 0, .iconst 1, .putfield 2438, .return_]]
def aLm271 : List (List Instr) := [[.iload 1, .iconst 48, .if_icmp .lt 17345, .iload 1, .iconst 57, .if_icmp .gt 17345, .aload 0, .iload 1, .iconst 48, .isub, .invokestatic 272, .freturn],
  [.aload 0, .iconst 0, .putfield 2309, .aload 0, .getfield 582, .ifCond .eq 17346, .aload 0, .iload 1, .invokestatic 274, .goto 17347],
  [.aload 0, .iload 1, .invokestatic 276, .jsr 17347],
  [.freturn]]
def aLm272 : List (List Instr) := [[.aload 0, .getfield 582, .ifCond .eq 17409, .aload 0, .iload 1, .invokestatic 273, .aload 0, .iconst 1, .putfield 2309, .aload 0, .iconst 0, .putfield 2438, .iconst 1, .freturn],
  [.aload 0, .getfield 581, .ifCond .eq 17410, .aload 0, .getfield 581, .iconst 3, .if_icmp .ge 17410, .aload 0, .getfield 578, .iconst 1, .if_icmp .ge 17411, .jsr 17410],
  [.iconst 0, .freturn],
  [.aload 0, .getfield 576, .aload 0, .getfield 578, .iconst 1, .isub, .aload 0, .getfield 576, .aload 0, .getfield 578, .iconst 1, .isub, .iaload, .iconst 10, .imul, .iload 1, .iadd, .iastore, .aload 0, .dup, .getfield 581, .iconst 1, .iadd, .putfield 2309, .iconst 1, .freturn]]
def aLm273 : List (List Instr) := [[.aload 0, .getfield 578, .iconst 40, .if_icmp .ge 17473, .aload 0, .getfield 576, .aload 0, .getfield 578, .iload 1, .iastore, .aload 0, .dup, .getfield 578, .iconst 1, .iadd, .putfield 2306, .jsr 17473],
  [.return_]]
def aLm274 : List (List Instr) := [[.iload 1, .iconst 45, .if_icmp .ne 17537, .aload 0, .iconst (-1), .invokestatic 275, .iconst 1, .freturn],
  [.iload 1, .iconst 40, .if_icmp .ne 17539, .aload 0, .getfield 580, .iconst 4, .if_icmp .lt 17538, .iconst 0, .freturn],
  [.aload 0, .dup, .getfield 580, .iconst 1, .iadd, .putfield 2308, .aload 0, .iconst 0, .invokestatic 275, .iconst 1, .freturn],
  [.ldc 2, .iload 1, .invokedynamic 4, .istore 2, .iload 2, .ifCond .ge 17540, .iconst 0, .freturn],
  [.aload 0, .iconst 1000, .iload 2, .iadd, .invokestatic 273, .aload 0, .iconst 0, .putfield 2438, .iconst 1, .freturn]]
def aLm275 : List (List Instr) := [[.aload 0, .getfield 579, .iconst 40, .if_icmp .ge 17601, .aload 0, .getfield 577, .aload 0, .getfield 579, .iload 1, .iastore, .aload 0, .dup, .getfield 579, .iconst 1, .iadd, .putfield 2307, .jsr 17601],
  [.return_]]
def aLm276 : List (List Instr) := [[.iload 1, .iconst 41, .if_icmp .ne 17666, .aload 0, .getfield 580, .iconst 1, .if_icmp .ge 17665, .iconst 0, .freturn],
  [.aload 0, .dup, .getfield 580, .iconst 1, .isub, .putfield 2308, .aload 0, .iconst 1, .invokestatic 277, .aload 0, .iconst 0, .aload 0, .getfield 579, .iconst 1, .isub, .invokedynamic 6, .putfield 2307, .iconst 1, .freturn],
  [.iload 1, .invokestatic 279, .istore 2, .iload 2, .iconst 1, .if_icmp .ne 17667, .iconst 0, .freturn],
  [.aload 0, .iconst 2, .iload 2, .invokestatic 278, .invokedynamic 6, .invokestatic 277, .iload 2, .invokestatic 278, .iconst 1, .if_icmp .ne 17668, .aload 0, .getfield 579, .ifCond .le 17668, .aload 0, .getfield 577, .aload 0, .getfield 579, .iconst 1, .isub, .iaload, .invokestatic 278, .iconst 1, .if_icmp .ne 17668, .iconst 0, .freturn],
  [.aload 0, .iload 2, .invokestatic 275, .aload 0, .iconst 1, .putfield 2438, .iconst 1, .freturn]]
def aLm277 : List (List Instr) := [[.aload 0, .getfield 579, .iconst 1, .isub, .istore 2, .jsr 17729],
  [.iload 2, .ifCond .lt 17730, .aload 0, .getfield 577, .iload 2, .iaload, .invokestatic 278, .iload 1, .if_icmp .lt 17730, .aload 0, .aload 0, .getfield 577, .iload 2, .iaload, .invokestatic 273, .aload 0, .iload 2, .putfield 2307, .iinc 2 (-1), .goto 17729],
  [.return_]]
def aLm278 : List (List Instr) := [[.iload 0, .tableswitch 17797 (-5) (0) #[17796, 17796, 17795, 17795, 17794, 17793]],
  [.iconst 0, .ireturn],
  [.iconst 4, .ireturn],
  [.iconst 3, .ireturn],
  [.iconst 2, .ireturn],
  [.iconst 1, .ireturn]]
def aLm279 : List (List Instr) := [[.iload 0, .tableswitch 17864 (42) (62) #[17857, 17859, 17864, 17860, 17864, 17858, 17864, 17864, 17864, 17864, 17864, 17864, 17864, 17864, 17864, 17864, 17864, 17864, 17861, 17863, 17862]],
  [.iconst (-2), .ireturn],
  [.iconst (-3), .ireturn],
  [.iconst (-4), .ireturn],
  [.iconst (-5), .ireturn],
  [.iconst (-6), .ireturn],
  [.iconst (-7), .ireturn],
  [.iconst (-8), .ireturn],
  [.iconst 1, .ireturn]]
def aLm280 : List (List Instr) := [[.aload 0, .invokedynamic 0, .aload 0, .iconst 36, .newarray .int, .putfield 2752, .return_]]
def aLm281 : List (List Instr) := [[.aload 0, .getfield 640, .iconst 0, .invokestatic 124, .aload 0, .ldc2_w 16, .putfield 2625, .aload 0, .ldc2_w 16, .putfield 2626, .aload 0, .iconst 0, .putfield 2563, .aload 0, .iconst 0, .putfield 2564, .aload 0, .iconst 0, .putfield 2565, .return_]]
def aLm282 : List (List Instr) := [[.iconst 0, .istore 1, .iconst 0, .istore 2, .jsr 18049],
  [.iload 2, .iconst 36, .if_icmp .ge 18050, .iload 1, .aload 0, .getfield 640, .iload 2, .iaload, .iadd, .istore 1, .iinc 2 (1), .goto 18049],
  [.iload 1, .ireturn]]
def aLm283 : List (List Instr) := [[.aload 1, .getfield 640, .iconst 0, .aload 0, .getfield 640, .iconst 0, .iconst 36, .invokedynamic 1, .aload 0, .aload 1, .getfield 641, .putfield 2625, .aload 0, .aload 1, .getfield 642, .putfield 2626, .aload 0, .aload 1, .getfield 643, .putfield 2563, .aload 0, .aload 1, .getfield 644, .putfield 2564, .aload 0, .aload 1, .getfield 645, .putfield 2565, .return_]]
def aLm284 : List (List Instr) := [[.aload 0, .invokedynamic 0, .aload 0, .iconst 80, .newarray .char, .putfield 3008, .return_]]
def aLm285 : List (List Instr) := [[.aload 0, .getfield 705, .iconst 4, .iadd, .iconst 80, .if_icmp .le 18241, .iconst (-1), .ireturn],
  [.iconst 24, .istore 2, .jsr 18242],
  [.iload 2, .ifCond .lt 18243, .aload 0, .getfield 704, .aload 0, .getfield 705, .iload 1, .iload 2, .iushr, .iconst 255, .iand, .i2c, .castore, .aload 0, .dup, .getfield 705, .iconst 1, .iadd, .putfield 2817, .iinc 2 (-8), .goto 18242],
  [.aload 0, .getfield 705, .ireturn]]
def aLm286 : List (List Instr) := [[.iload 1, .ifCond .lt 18305, .iload 1, .aload 0, .getfield 705, .if_icmp .le 18306, .jsr 18305],
  [.iconst 0, .freturn],
  [.aload 0, .iload 1, .putfield 2817, .iconst 1, .freturn]]
def aLm287 : List (List Instr) := [[.aload 0, .iload 1, .invokestatic 288, .istore 2, .iload 2, .iconst 48, .if_icmp .lt 18369, .iload 2, .iconst 57, .if_icmp .gt 18369, .iload 2, .iconst 48, .isub, .goto 18370],
  [.iconst (-1), .jsr 18370],
  [.ireturn]]
def aLm288 : List (List Instr) := [[.iload 1, .ifCond .lt 18433, .iload 1, .aload 0, .getfield 705, .if_icmp .lt 18434, .jsr 18433],
  [.iconst 0, .goto 18435],
  [.aload 0, .getfield 704, .iload 1, .caload, .jsr 18435],
  [.dreturn]]
def aLm289 : List (List Instr) := [[.aload 0, .iconst 0, .putfield 2817, .return_]]
def aLm290 : List (List Instr) := [[.iconst 1, .aload 0, .getfield 705, .iload 2, .invokedynamic 5, .invokedynamic 6, .istore 3, .iconst 0, .istore 4, .jsr 18561],
  [.iload 4, .iload 3, .if_icmp .ge 18564, .aload 0, .iload 4, .invokestatic 288, .iload 1, .if_icmp .lt 18562, .aload 0, .iload 4, .invokestatic 288, .iconst 57, .if_icmp .le 18563, .jsr 18562],
  [.iload 4, .ireturn],
  [.iinc 4 (1), .goto 18561],
  [.aload 0, .getfield 705, .iload 2, .if_icmp .le 18565, .iload 2, .goto 18566],
  [.iconst (-1), .jsr 18566],
  [.ireturn]]
def aLm291 : List (List Instr) := [[.aload 0, .invokedynamic 0, .aload 0, .iconst 36, .newarray .long, .putfield 3264, .return_]]
def aLm292 : List (List Instr) := [[.aload 0, .iconst 0, .putfield 3073, .return_]]
def aLm293 : List (List Instr) := [[.aload 0, .getfield 769, .iconst 36, .if_icmp .ge 18753, .aload 0, .getfield 768, .aload 0, .getfield 769, .lload 1, .lastore, .aload 0, .dup, .getfield 769, .iconst 1, .iadd, .putfield 3073, .jsr 18753],
  [.return_]]
def aLm294 : List (List Instr) := [[.iload 1, .ifCond .lt 18817, .iload 1, .aload 0, .getfield 769, .if_icmp .ge 18817, .aload 0, .getfield 768, .iload 1, .dup2, .laload, .ldc2_w 17, .ladd, .lastore, .jsr 18817],
  [.return_]]
def aLm295 : List (List Instr) := [[.iconst 0, .istore 3, .jsr 18881],
  [.iload 3, .iconst 36, .if_icmp .ge 18883, .lload 1, .iload 3, .invokestatic 161, .iconst 1, .if_icmp .ne 18882, .aload 0, .iload 3, .i2l, .invokestatic 293, .jsr 18882],
  [.iinc 3 (1), .goto 18881],
  [.return_]]
def aLc0 : List (List (List Instr)) := [aLm0, aLm1, aLm2, aLm3, aLm4, aLm5, aLm6, aLm7, aLm8, aLm9, aLm10, aLm11, aLm12, aLm13, aLm14, aLm15, aLm16, aLm17, aLm18, aLm19, aLm20, aLm21, aLm22, aLm23, aLm24, aLm25, aLm26, aLm27, aLm28, aLm29, aLm30, aLm31]
def aLp0 : List (List Nat) := [[0], [0], [0, 16, 18, 53], [0, 21], [0, 17, 18], [0, 28, 35, 44, 45, 49, 87, 88, 95, 110, 117, 130, 161, 162, 191], [0], [0, 34, 36], [0, 9, 13, 59], [0, 37, 38], [0], [0, 14, 44, 59, 66, 73, 96], [0, 26], [0, 24, 28, 29], [0, 10, 22, 24, 38, 48, 50, 60, 72, 86, 95, 96, 108, 109, 113], [0, 23, 41, 63, 80, 82, 109, 111], [0, 28, 29], [0, 8, 9], [0], [0, 2, 50, 56], [0, 19, 20, 40, 44, 53, 59], [0, 7, 27], [0, 25, 30, 64, 71, 81, 91], [0], [0], [0, 7, 26, 46, 56, 79, 131, 132, 151, 156, 157, 169, 171, 173, 179, 188, 189, 206, 209], [0, 14, 15], [0], [0, 17, 18], [0, 14, 23, 24, 41, 50, 51, 99, 100], [0], [0]]
def aLc1 : List (List (List Instr)) := [aLm32, aLm33, aLm34, aLm35, aLm36, aLm37, aLm38, aLm39, aLm40, aLm41, aLm42, aLm43, aLm44, aLm45, aLm46, aLm47, aLm48, aLm49, aLm50, aLm51, aLm52, aLm53, aLm54, aLm55, aLm56, aLm57, aLm58, aLm59, aLm60, aLm61, aLm62, aLm63]
def aLp1 : List (List Nat) := [[0, 4, 46, 89, 114, 115, 119, 125, 157, 163], [0, 40, 49, 50, 54, 63, 64, 68, 77, 78, 82, 86, 90, 94, 102, 105], [0, 23, 28], [0, 23, 25, 37, 43, 62, 73, 75, 94, 98, 109, 123, 133, 142], [0, 5, 29], [0, 14, 26, 58], [0, 19], [0, 2, 34], [0, 5, 28, 29, 40], [0, 7, 28, 48, 49, 52, 91, 146], [0, 4, 36, 40, 41, 48], [0], [0, 21, 49, 59], [0], [0, 20, 22, 32], [0, 8, 13], [0], [0, 20, 22, 38], [0], [0, 10, 33], [0], [0, 18, 44, 45], [0, 19, 42, 57, 64, 88, 107, 108, 141, 142], [0, 39, 69, 82, 83, 84, 114, 127, 128, 129, 155, 156], [0, 44, 45, 84, 96, 108, 109, 110, 132, 133, 134, 152, 153, 154, 170, 171], [0, 20, 45], [0, 12, 28], [0, 19], [0, 2, 26], [0, 11, 51, 63, 68, 82], [0, 19, 37, 73, 87], [0, 10, 36]]
def aLc2 : List (List (List Instr)) := [aLm64, aLm65, aLm66, aLm67, aLm68, aLm69, aLm70, aLm71, aLm72, aLm73, aLm74, aLm75, aLm76, aLm77, aLm78, aLm79, aLm80, aLm81, aLm82, aLm83, aLm84, aLm85, aLm86, aLm87, aLm88, aLm89, aLm90, aLm91, aLm92, aLm93, aLm94, aLm95]
def aLp2 : List (List Nat) := [[0, 15, 16, 19, 50, 51, 58], [0, 19, 30, 53, 56, 109, 115, 123, 150], [0, 21, 40, 76], [0, 4, 28, 29, 37], [0, 29, 30], [0, 2, 29, 51, 53, 59], [0, 26, 27, 28, 31, 102, 113, 119], [0], [0, 16, 86, 87, 97, 103, 135], [0, 23, 31, 103, 109, 115], [0], [0, 7, 40, 49, 53, 62, 76, 80, 89], [0, 27, 31, 59, 60, 79, 94, 101, 108, 159, 180, 205, 206, 217, 218, 220, 256, 257, 293, 294, 311, 312, 313, 326, 337, 338, 357], [0, 6, 26, 29, 38, 58, 79], [0, 2, 70, 79, 85], [0, 19, 21, 55, 58, 65, 67, 77, 88, 143, 149, 156, 162, 168, 191, 215, 226, 270, 275, 277, 285, 300], [0, 28, 29], [0, 21, 43], [0, 31, 35, 39, 43, 46, 96, 102], [0, 11, 47, 51, 52, 59, 70, 90, 113, 116, 172, 178, 184], [0, 14, 15], [0, 44, 46], [0], [0], [0, 4, 27, 28, 36], [0, 16, 33, 82, 86, 87, 94, 108], [0, 19, 31, 33, 87, 97, 112, 152, 153, 165, 191, 192, 208], [0, 42, 44], [0], [0, 14, 25, 75, 76, 83, 118, 131], [0, 9, 60, 61, 94, 102, 108], [0, 29, 31, 33, 41, 72, 113, 120, 127, 133, 139]]
def aLc3 : List (List (List Instr)) := [aLm96, aLm97, aLm98, aLm99, aLm100, aLm101, aLm102, aLm103, aLm104, aLm105, aLm106, aLm107, [], [], [], [], [], [], [], [], [], [], [], [], aLm120, aLm121, aLm122, aLm123, aLm124, aLm125, [], []]
def aLp3 : List (List Nat) := [[0, 41, 43, 52, 72, 75, 95, 119, 124, 145, 146, 163, 176, 177, 186], [0, 10, 17], [0, 22, 43, 72], [0, 19, 28, 37, 81, 84, 90, 96], [0, 5, 36, 37, 44], [0, 28, 29], [0, 19, 33, 67, 104, 115, 121], [0], [0, 19, 38, 67], [0, 39, 41, 43, 72], [0, 76, 81, 86, 94, 102, 110, 120, 131, 142, 154, 159, 164, 169, 174, 179], [0, 28], [], [], [], [], [], [], [], [], [], [], [], [], [0, 17, 34, 49, 62, 74], [0], [0], [0, 21, 25], [0, 5, 20], [0, 6, 22], [], []]
def aLc4 : List (List (List Instr)) := [[], [], [], [], [], [], [], [], [], [], [], [], aLm140, aLm141, aLm142, aLm143, [], [], [], [], [], [], aLm150, aLm151, aLm152, aLm153, aLm154, aLm155, aLm156, aLm157, aLm158, aLm159]
def aLp4 : List (List Nat) := [[], [], [], [], [], [], [], [], [], [], [], [], [0, 23, 232, 257, 282, 295, 308, 321, 369, 386, 389, 437, 454, 457, 518, 543, 580, 617, 642, 667, 680, 693, 706, 731, 744, 769, 794, 820, 845, 858, 871, 884, 897, 922, 947, 960, 1009, 1022, 1035, 1060, 1097, 1110, 1123, 1160, 1209, 1222, 1247, 1284, 1309, 1334, 1359, 1395, 1411, 1414, 1420], [0, 13, 17], [0, 13, 17], [0, 11, 14], [], [], [], [], [], [], [0, 219, 243], [0], [0], [0, 14, 36, 39], [0, 2, 27, 29, 35, 57, 76, 82, 97, 98], [0, 32, 68], [0, 40], [0, 32, 35], [0, 15, 17, 29, 38, 39, 47, 84, 85, 99, 109, 116], [0, 9, 19, 20]]
def aLc5 : List (List (List Instr)) := [aLm160, aLm161, aLm162, aLm163, aLm164, aLm165, aLm166, aLm167, aLm168, aLm169, aLm170, aLm171, aLm172, aLm173, aLm174, aLm175, aLm176, aLm177, aLm178, aLm179, aLm180, aLm181, aLm182, aLm183, aLm184, aLm185, aLm186, aLm187, aLm188, aLm189, aLm190, aLm191]
def aLp5 : List (List Nat) := [[0, 10, 12], [0], [0], [0, 22, 24, 37], [0, 15], [0], [0, 22, 24, 43], [0], [0, 13, 39], [0], [0, 15, 17, 31], [0, 21, 42, 79, 82, 107, 122], [0, 21, 53, 70, 71, 90, 93, 99, 114, 122, 123], [0, 52, 54, 56, 58], [0, 100, 117, 129, 137, 147, 153], [0, 24, 25], [0, 24, 58], [0, 10, 12], [0, 13, 72, 78], [0, 9, 46, 102, 108], [0, 11, 15, 16], [0, 9, 18, 43, 58, 109, 135, 141], [0, 11, 42, 97], [0, 15, 17], [0, 17, 59, 65], [0, 30, 33, 34, 46, 53, 70, 107, 140, 146], [0], [0, 30, 73, 108, 119, 125, 133], [0, 58, 67, 118, 124, 130], [0, 15, 82, 83], [0], [0, 11, 16, 21]]
def aLc6 : List (List (List Instr)) := [aLm192, aLm193, aLm194, aLm195, aLm196, aLm197, aLm198, aLm199, aLm200, aLm201, aLm202, aLm203, aLm204, aLm205, aLm206, aLm207, aLm208, aLm209, aLm210, aLm211, aLm212, aLm213, aLm214, aLm215, aLm216, aLm217, aLm218, aLm219, aLm220, aLm221, aLm222, aLm223]
def aLp6 : List (List Nat) := [[0, 21, 45, 92], [0, 11, 13, 18, 54, 60], [0, 7, 49, 55], [0, 28, 30, 31, 36, 54, 85, 91], [0, 14, 54, 64, 74], [0, 30, 32], [0], [0], [0, 4, 37, 91, 105, 111], [0], [0, 2, 59, 65], [0, 10, 12, 35, 43, 77, 84, 90], [0, 6, 49, 55], [0, 35, 37], [0], [0, 11, 18, 26, 46, 82, 88, 94, 100], [0, 3, 47, 53], [0, 9, 52, 73, 74, 106, 114, 120], [0, 21, 23, 25, 36, 71, 72, 85, 89, 98, 112, 125, 134], [0, 32, 34, 58, 104, 134, 154], [0, 29, 33, 51, 55], [0, 9, 45], [0, 34], [0, 10, 12, 23, 32, 62, 89, 95, 101], [0, 10, 30, 36], [0, 14, 15], [0, 11, 13, 32, 80, 130, 141, 147], [0], [0, 9, 15], [0, 9, 11], [0, 21, 23], [0, 52, 60, 68, 76, 84, 92, 100, 111, 122, 137]]
def aLc7 : List (List (List Instr)) := [aLm224, aLm225, aLm226, aLm227, aLm228, aLm229, aLm230, aLm231, aLm232, aLm233, aLm234, aLm235, aLm236, aLm237, aLm238, aLm239, aLm240, aLm241, aLm242, aLm243, aLm244, aLm245, aLm246, aLm247, aLm248, aLm249, aLm250, aLm251, aLm252, aLm253, aLm254, aLm255]
def aLp7 : List (List Nat) := [[0, 36, 44, 52, 60, 68, 76], [0, 20, 28, 42, 74, 89, 96], [0, 20, 28], [0, 15, 23], [0], [0, 19, 48], [0, 12, 16, 27], [0], [0, 20, 45], [0, 29], [0, 19, 64, 70], [0, 9, 18, 53, 54, 63, 66, 98, 104, 110], [0, 14, 17, 56, 57, 86, 92], [0, 11, 54, 73], [0, 25, 65], [0], [0, 86, 138, 139, 176, 177, 202, 203, 234, 235, 242], [0, 30, 31], [0, 16, 17], [0], [0, 24, 26], [0], [0, 11], [0], [0, 4, 29], [0, 15, 40], [0], [0, 34, 35], [0, 9, 26, 28], [0], [0, 6, 45, 46, 55], [0]]
def aLc8 : List (List (List Instr)) := [aLm256, aLm257, aLm258, aLm259, aLm260, aLm261, aLm262, aLm263, aLm264, aLm265, aLm266, aLm267, aLm268, aLm269, aLm270, aLm271, aLm272, aLm273, aLm274, aLm275, aLm276, aLm277, aLm278, aLm279, aLm280, aLm281, aLm282, aLm283, aLm284, aLm285, aLm286, aLm287]
def aLp8 : List (List Nat) := [[0, 40, 47, 51, 125, 149, 150, 162], [0, 9, 46, 58, 59, 77, 85, 91], [0, 144], [0, 35, 85, 119, 125, 164, 195], [0], [0], [0, 13, 15, 40, 46], [0, 4, 43, 50, 56], [0, 19, 23, 35], [0], [0], [0, 4, 37, 38, 71, 73, 77, 100, 114, 176, 190, 204, 209, 213, 227, 241, 257, 258, 262, 278, 279, 283, 299, 300, 301, 307], [0], [0, 20, 37, 59, 65, 88, 90], [0], [0, 21, 41, 46], [0, 24, 47, 49], [0, 29], [0, 13, 29, 46, 59], [0, 29], [0, 16, 47, 59, 106], [0, 7, 45], [0, 40, 42, 44, 46, 48], [0, 100, 103, 106, 109, 112, 115, 118, 121], [0], [0], [0, 4, 25], [0], [0], [0, 13, 16, 53], [0, 12, 14], [0, 25, 26]]
def aLc9 : List (List (List Instr)) := [aLm288, aLm289, aLm290, aLm291, aLm292, aLm293, aLm294, aLm295]
def aLp9 : List (List Nat) := [[0, 12, 16, 22], [0], [0, 16, 43, 46, 52, 64, 65], [0], [0], [0, 29], [0, 22], [0, 2, 23, 29]]
def aLt : List (List (List (List Instr))) := [aLc0, aLc1, aLc2, aLc3, aLc4, aLc5, aLc6, aLc7, aLc8, aLc9]
def aPt : List (List (List Nat)) := [aLp0, aLp1, aLp2, aLp3, aLp4, aLp5, aLp6, aLp7, aLp8, aLp9]
def aLms (k : Nat) : List (List Instr) := (aLt.getD (k / 32) []).getD (k % 32) []
def aLps (k : Nat) : List Nat := (aPt.getD (k / 32) []).getD (k % 32) []
def aLab (L : Nat) : List Instr := (aLms (L / 64)).getD (L % 64) []
def aHl (k : Nat) : Option Nat := if k = 141 then some 225 else if k = 142 then some 226 else if k = 143 then some 227 else none
def aMi_of (k : Nat) : aMi := (k * 64, (aMe k).2.2.2.2.2.2.2.1, (aMe k).2.2.2.1, (aMe k).2.2.2.2.2.2.2.2.1, if (aMe k).2.2.2.2.2.1 = 0 then some (aMe k).2.2.2.2.2.2.1 else if (aMe k).2.2.2.2.2.1 = 2 then some 999 else if aHl k = none then none else some 1, aHl k)
def aP : aPg := (aLab, aMi_of, fun ci => aClY.getD ci ("", []))
