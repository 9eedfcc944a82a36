/-! THE STATIC DATA, by program: classes, fields, methods by number, their instructions; the cells by their numbers -/
def z_CN : List String := ["java/util/ArrayList", "RollMill$BiteLaw", "RollMill$Coil", "RollMill$Line", "RollMill$Orders", "RollMill$Planner", "RollMill$Reader", "RollMill$Readings", "RollMill$Rules", "RollMill$Run", "RollMill$Stand", "RollMill", "RollMillModel"]
def z_C (c : Nat) : String := z_CN.getD c ""
def z_FL : List (List (String × String × String × Bool)) := [[("java/util/AbstractList", "modCount", "I", false), ("java/util/ArrayList", "elementData", "[Ljava/lang/Object;", false), ("java/util/ArrayList", "size", "I", false)], [("RollMill$BiteLaw", "drafts", "[I", true), ("RollMill$BiteLaw", "presses", "[I", true), ("RollMill$BiteLaw", "many", "I", false)], [("RollMill$Coil", "thicknesses", "[I", true), ("RollMill$Coil", "hardnesses", "[I", true), ("RollMill$Coil", "many", "I", false)], [("RollMill$Line", "law", "LRollMill$BiteLaw;", true), ("RollMill$Line", "stands", "Ljava/util/ArrayList;", true)], [("RollMill$Orders", "widths", "[I", true), ("RollMill$Orders", "thicknesses", "[I", true), ("RollMill$Orders", "ticks", "[I", true), ("RollMill$Orders", "dues", "[I", true), ("RollMill$Orders", "many", "I", false), ("RollMill$Orders", "rows", "[J", false), ("RollMill$Orders", "rowsChanged", "[J", false), ("RollMill$Orders", "kept", "J", false), ("RollMill$Orders", "keptMany", "I", false)], [("RollMill$Planner", "line", "LRollMill$Line;", true), ("RollMill$Planner", "passes", "[I", true), ("RollMill$Planner", "many", "I", false), ("RollMill$Planner", "steps", "[I", true), ("RollMill$Planner", "stepped", "I", false), ("RollMill$Planner", "presses", "[I", true), ("RollMill$Planner", "tried", "[I", true), ("RollMill$Planner", "best", "[I", true), ("RollMill$Planner", "bestGreatest", "I", false), ("RollMill$Planner", "bestSum", "I", false), ("RollMill$Planner", "keptOut", "[I", true), ("RollMill$Planner", "keptPress", "[I", true), ("RollMill$Planner", "keptGap", "[I", true), ("RollMill$Planner", "keptStands", "I", false)], [("RollMill$Reader", "text", "[I", true), ("RollMill$Reader", "length", "I", false), ("RollMill$Reader", "stands", "I", false), ("RollMill$Reader", "told", "LRollMill$Rules;", false), ("RollMill$Reader", "draft", "LRollMill$Rules;", false), ("RollMill$Reader", "token", "I", false), ("RollMill$Reader", "tokenAt", "I", false), ("RollMill$Reader", "tokenEnd", "I", false), ("RollMill$Reader", "number", "I", false), ("RollMill$Reader", "digits", "I", false), ("RollMill$Reader", "fault", "I", false), ("RollMill$Reader", "faultAt", "I", false)], [("RollMill$Readings", "tonight", "I", false), ("RollMill$Readings", "coils", "[I", true), ("RollMill$Readings", "places", "[I", true), ("RollMill$Readings", "thicknesses", "[I", true), ("RollMill$Readings", "toldOn", "[I", true), ("RollMill$Readings", "backOn", "[I", true), ("RollMill$Readings", "many", "I", false), ("RollMill$Readings", "recalled", "[I", true)], [("RollMill$Rules", "steps", "[I", true), ("RollMill$Rules", "stepped", "I", false), ("RollMill$Rules", "stack", "[I", true), ("RollMill$Rules", "clauseStand", "[I", true), ("RollMill$Rules", "wantedFrom", "[I", true), ("RollMill$Rules", "unlessFrom", "[I", true), ("RollMill$Rules", "clauseEnd", "[I", true), ("RollMill$Rules", "clauses", "I", false), ("RollMill$Rules", "late", "I", false), ("RollMill$Rules", "drift", "I", false), ("RollMill$Rules", "tear", "I", false), ("RollMill$Rules", "loop", "I", false)], [("RollMill$Run", "line", "LRollMill$Line;", true), ("RollMill$Run", "coil", "LRollMill$Coil;", true), ("RollMill$Run", "told", "Z", false), ("RollMill$Run", "aim", "I", false), ("RollMill$Run", "ticks", "I", false), ("RollMill$Run", "endedAt", "I", false), ("RollMill$Run", "greatest", "I", false), ("RollMill$Run", "cameOut", "I", false), ("RollMill$Run", "lengths", "I", false), ("RollMill$Run", "outs", "[I", true), ("RollMill$Run", "pulls", "[I", true), ("RollMill$Run", "gauges", "[I", true), ("RollMill$Run", "gauged", "I", false), ("RollMill$Run", "values", "[I", true)], [("RollMill$Stand", "stiffness", "I", true), ("RollMill$Stand", "most", "I", true), ("RollMill$Stand", "low", "I", true), ("RollMill$Stand", "high", "I", true), ("RollMill$Stand", "screws", "I", false), ("RollMill$Stand", "speed", "I", false), ("RollMill$Stand", "turn", "I", false), ("RollMill$Stand", "water", "I", false), ("RollMill$Stand", "gap", "I", false), ("RollMill$Stand", "wear", "I", false), ("RollMill$Stand", "changes", "I", false), ("RollMill$Stand", "in", "I", false), ("RollMill$Stand", "hard", "I", false), ("RollMill$Stand", "out", "I", false), ("RollMill$Stand", "press", "I", false)], [("RollMill", "line", "LRollMill$Line;", true), ("RollMill", "tape", "[I", true), ("RollMill", "taped", "I", false), ("RollMill", "reader", "LRollMill$Reader;", true), ("RollMill", "coil", "LRollMill$Coil;", true), ("RollMill", "latest", "LRollMill$Run;", true), ("RollMill", "planner", "LRollMill$Planner;", true), ("RollMill", "slicesIn", "[I", true), ("RollMill", "slicesOut", "[I", true), ("RollMill", "orders", "LRollMill$Orders;", true), ("RollMill", "readings", "LRollMill$Readings;", true)], [("RollMillModel", "thrown", "I", false), ("RollMillModel", "stands", "I", false), ("RollMillModel", "stiffness", "[I", true), ("RollMillModel", "most", "[I", true), ("RollMillModel", "low", "[I", true), ("RollMillModel", "high", "[I", true), ("RollMillModel", "screws", "[I", true), ("RollMillModel", "speed", "[I", true), ("RollMillModel", "turn", "[I", true), ("RollMillModel", "water", "[I", true), ("RollMillModel", "gap", "[I", true), ("RollMillModel", "wear", "[I", true), ("RollMillModel", "changed", "[I", true), ("RollMillModel", "points", "I", false), ("RollMillModel", "draft", "[I", true), ("RollMillModel", "force", "[I", true), ("RollMillModel", "tape", "[I", true), ("RollMillModel", "taped", "I", false), ("RollMillModel", "faultKind", "I", false), ("RollMillModel", "faultPlace", "I", false), ("RollMillModel", "size", "I", false), ("RollMillModel", "next", "I", false), ("RollMillModel", "sort", "I", false), ("RollMillModel", "place", "I", false), ("RollMillModel", "long0", "I", false), ("RollMillModel", "value", "I", false), ("RollMillModel", "sign", "I", false), ("RollMillModel", "word", "J", false), ("RollMillModel", "hasRules", "Z", false), ("RollMillModel", "bank", "I", false), ("RollMillModel", "top", "I", false), ("RollMillModel", "waiting", "I", false), ("RollMillModel", "depth", "I", false), ("RollMillModel", "clausesRead", "I", false), ("RollMillModel", "param", "[I", true), ("RollMillModel", "clauses", "[I", true), ("RollMillModel", "clauseOf", "[I", true), ("RollMillModel", "clauseAt", "[I", true), ("RollMillModel", "unlessAt", "[I", true), ("RollMillModel", "code", "[I", true), ("RollMillModel", "waits", "[I", true), ("RollMillModel", "tested", "[Z", true), ("RollMillModel", "segments", "I", false), ("RollMillModel", "ticks", "I", false), ("RollMillModel", "culprit", "I", false), ("RollMillModel", "greatest", "I", false), ("RollMillModel", "came", "I", false), ("RollMillModel", "ranStands", "I", false), ("RollMillModel", "hasRun", "Z", false), ("RollMillModel", "segThick", "[I", true), ("RollMillModel", "segHard", "[I", true), ("RollMillModel", "went", "[I", true), ("RollMillModel", "gauged", "[I", true), ("RollMillModel", "pulls", "[I", true), ("RollMillModel", "gauges", "I", false), ("RollMillModel", "aim", "I", false), ("RollMillModel", "bit", "[Z", true), ("RollMillModel", "ins", "[I", true), ("RollMillModel", "outs", "[I", true), ("RollMillModel", "presses", "[I", true), ("RollMillModel", "hards", "[I", true), ("RollMillModel", "hardNow", "[I", true), ("RollMillModel", "values", "[I", true), ("RollMillModel", "pile", "[I", true), ("RollMillModel", "passes", "I", false), ("RollMillModel", "plannedStands", "I", false), ("RollMillModel", "passOf", "[I", true), ("RollMillModel", "plannedOut", "[I", true), ("RollMillModel", "plannedPress", "[I", true), ("RollMillModel", "plannedGap", "[I", true), ("RollMillModel", "worst", "[J", true), ("RollMillModel", "sums", "[J", true), ("RollMillModel", "first", "I", false), ("RollMillModel", "presses0", "[I", true), ("RollMillModel", "slice", "[I", true), ("RollMillModel", "sliceOut", "[I", true), ("RollMillModel", "orders", "I", false), ("RollMillModel", "rowMany", "I", false), ("RollMillModel", "orderWidth", "[I", true), ("RollMillModel", "orderThick", "[I", true), ("RollMillModel", "orderTicks", "[I", true), ("RollMillModel", "orderDue", "[I", true), ("RollMillModel", "rowOrder", "[I", true), ("RollMillModel", "rowChange", "[Z", true), ("RollMillModel", "coinBehind", "[I", true), ("RollMillModel", "changesBehind", "[I", true), ("RollMillModel", "ahead", "[I", true), ("RollMillModel", "aheadNext", "[I", true), ("RollMillModel", "along", "[I", true), ("RollMillModel", "tonight", "I", false), ("RollMillModel", "readings", "I", false), ("RollMillModel", "readCoil", "[I", true), ("RollMillModel", "readPlace", "[I", true), ("RollMillModel", "readThick", "[I", true), ("RollMillModel", "readTold", "[I", true), ("RollMillModel", "readBack", "[I", true), ("RollMillModel", "latest", "[I", true)]]
def z_N (c : Nat) : Nat := (z_FL.getD c []).length
def z_T (c : Nat) : u_T := fun k => (z_FL.getD c []).getD k ("", "", "", false)
def z_TC : List (List Nat) := [[0, 3, 0], [3, 3, 0], [3, 3, 0], [3, 3], [3, 3, 3, 3, 0, 3, 3, 2, 0], [3, 3, 0, 3, 0, 3, 3, 3, 0, 0, 3, 3, 3, 0], [3, 0, 0, 3, 3, 0, 0, 0, 0, 0, 0, 0], [0, 3, 3, 3, 3, 3, 0, 3], [3, 0, 3, 3, 3, 3, 3, 0, 0, 0, 0, 0], [3, 3, 1, 0, 0, 0, 0, 0, 0, 3, 3, 3, 0, 3], [0, 0, 0, 0, 0, 0, 0, 0, 0, 0, 0, 0, 0, 0, 0], [3, 3, 0, 3, 3, 3, 3, 3, 3, 3, 3], [0, 0, 3, 3, 3, 3, 3, 3, 3, 3, 3, 3, 3, 0, 3, 3, 3, 0, 0, 0, 0, 0, 0, 0, 0, 0, 0, 2, 1, 0, 0, 0, 0, 0, 3, 3, 3, 3, 3, 3, 3, 3, 0, 0, 0, 0, 0, 0, 1, 3, 3, 3, 3, 3, 0, 0, 3, 3, 3, 3, 3, 3, 3, 3, 0, 0, 3, 3, 3, 3, 3, 3, 0, 3, 3, 3, 0, 0, 3, 3, 3, 3, 3, 3, 3, 3, 3, 3, 3, 0, 0, 3, 3, 3, 3, 3, 3]]
def z_tc (c k : Nat) : Nat := (z_TC.getD c []).getD k 9
def z_kd (a : Nat) : Nat := cond (Nat.blt a 62) (cond (Nat.blt a 31) (cond (Nat.blt a 15) (cond (Nat.blt a 7) (cond (Nat.blt a 3) (cond (Nat.blt a 1) (11) (cond (Nat.blt a 2) (3) (1))) (cond (Nat.blt a 5) (cond (Nat.blt a 4) (20) (20)) (cond (Nat.blt a 6) (0) (20)))) (cond (Nat.blt a 11) (cond (Nat.blt a 9) (cond (Nat.blt a 8) (6) (8)) (cond (Nat.blt a 10) (20) (20))) (cond (Nat.blt a 13) (cond (Nat.blt a 12) (20) (20)) (cond (Nat.blt a 14) (20) (20))))) (cond (Nat.blt a 23) (cond (Nat.blt a 19) (cond (Nat.blt a 17) (cond (Nat.blt a 16) (8) (20)) (cond (Nat.blt a 18) (20) (20))) (cond (Nat.blt a 21) (cond (Nat.blt a 20) (20) (20)) (cond (Nat.blt a 22) (20) (2)))) (cond (Nat.blt a 27) (cond (Nat.blt a 25) (cond (Nat.blt a 24) (20) (20)) (cond (Nat.blt a 26) (9) (20))) (cond (Nat.blt a 29) (cond (Nat.blt a 28) (20) (20)) (cond (Nat.blt a 30) (20) (5)))))) (cond (Nat.blt a 46) (cond (Nat.blt a 38) (cond (Nat.blt a 34) (cond (Nat.blt a 32) (20) (cond (Nat.blt a 33) (20) (20))) (cond (Nat.blt a 36) (cond (Nat.blt a 35) (20) (20)) (cond (Nat.blt a 37) (20) (20)))) (cond (Nat.blt a 42) (cond (Nat.blt a 40) (cond (Nat.blt a 39) (20) (20)) (cond (Nat.blt a 41) (20) (4))) (cond (Nat.blt a 44) (cond (Nat.blt a 43) (20) (20)) (cond (Nat.blt a 45) (20) (20))))) (cond (Nat.blt a 54) (cond (Nat.blt a 50) (cond (Nat.blt a 48) (cond (Nat.blt a 47) (21) (21)) (cond (Nat.blt a 49) (7) (20))) (cond (Nat.blt a 52) (cond (Nat.blt a 51) (20) (20)) (cond (Nat.blt a 53) (20) (20)))) (cond (Nat.blt a 58) (cond (Nat.blt a 56) (cond (Nat.blt a 55) (20) (12)) (cond (Nat.blt a 57) (20) (20))) (cond (Nat.blt a 60) (cond (Nat.blt a 59) (20) (20)) (cond (Nat.blt a 61) (20) (20))))))) (cond (Nat.blt a 93) (cond (Nat.blt a 77) (cond (Nat.blt a 69) (cond (Nat.blt a 65) (cond (Nat.blt a 63) (20) (cond (Nat.blt a 64) (20) (20))) (cond (Nat.blt a 67) (cond (Nat.blt a 66) (20) (20)) (cond (Nat.blt a 68) (20) (20)))) (cond (Nat.blt a 73) (cond (Nat.blt a 71) (cond (Nat.blt a 70) (20) (20)) (cond (Nat.blt a 72) (20) (20))) (cond (Nat.blt a 75) (cond (Nat.blt a 74) (20) (20)) (cond (Nat.blt a 76) (20) (20))))) (cond (Nat.blt a 85) (cond (Nat.blt a 81) (cond (Nat.blt a 79) (cond (Nat.blt a 78) (22) (20)) (cond (Nat.blt a 80) (20) (20))) (cond (Nat.blt a 83) (cond (Nat.blt a 82) (20) (20)) (cond (Nat.blt a 84) (22) (20)))) (cond (Nat.blt a 89) (cond (Nat.blt a 87) (cond (Nat.blt a 86) (20) (20)) (cond (Nat.blt a 88) (20) (20))) (cond (Nat.blt a 91) (cond (Nat.blt a 90) (20) (20)) (cond (Nat.blt a 92) (20) (20)))))) (cond (Nat.blt a 109) (cond (Nat.blt a 101) (cond (Nat.blt a 97) (cond (Nat.blt a 95) (cond (Nat.blt a 94) (20) (20)) (cond (Nat.blt a 96) (21) (21))) (cond (Nat.blt a 99) (cond (Nat.blt a 98) (20) (20)) (cond (Nat.blt a 100) (20) (20)))) (cond (Nat.blt a 105) (cond (Nat.blt a 103) (cond (Nat.blt a 102) (20) (20)) (cond (Nat.blt a 104) (20) (20))) (cond (Nat.blt a 107) (cond (Nat.blt a 106) (22) (20)) (cond (Nat.blt a 108) (20) (20))))) (cond (Nat.blt a 117) (cond (Nat.blt a 113) (cond (Nat.blt a 111) (cond (Nat.blt a 110) (20) (20)) (cond (Nat.blt a 112) (20) (20))) (cond (Nat.blt a 115) (cond (Nat.blt a 114) (20) (20)) (cond (Nat.blt a 116) (20) (20)))) (cond (Nat.blt a 121) (cond (Nat.blt a 119) (cond (Nat.blt a 118) (21) (10)) (cond (Nat.blt a 120) (23) (10))) (cond (Nat.blt a 123) (cond (Nat.blt a 122) (10) (10)) (cond (Nat.blt a 124) (10) (99)))))))
def z_kl (a : Nat) : Nat := cond (Nat.blt a 62) (cond (Nat.blt a 31) (cond (Nat.blt a 15) (cond (Nat.blt a 7) (cond (Nat.blt a 3) (cond (Nat.blt a 1) (11) (cond (Nat.blt a 2) (2) (3))) (cond (Nat.blt a 5) (cond (Nat.blt a 4) (11) (11)) (cond (Nat.blt a 6) (3) (400)))) (cond (Nat.blt a 11) (cond (Nat.blt a 9) (cond (Nat.blt a 8) (12) (12)) (cond (Nat.blt a 10) (400) (400))) (cond (Nat.blt a 13) (cond (Nat.blt a 12) (12) (12)) (cond (Nat.blt a 14) (12) (12))))) (cond (Nat.blt a 23) (cond (Nat.blt a 19) (cond (Nat.blt a 17) (cond (Nat.blt a 16) (12) (400)) (cond (Nat.blt a 18) (400) (12))) (cond (Nat.blt a 21) (cond (Nat.blt a 20) (12) (12)) (cond (Nat.blt a 22) (12) (3)))) (cond (Nat.blt a 27) (cond (Nat.blt a 25) (cond (Nat.blt a 24) (40) (40)) (cond (Nat.blt a 26) (14) (200))) (cond (Nat.blt a 29) (cond (Nat.blt a 28) (5) (44)) (cond (Nat.blt a 30) (10) (14)))))) (cond (Nat.blt a 46) (cond (Nat.blt a 38) (cond (Nat.blt a 34) (cond (Nat.blt a 32) (12) (cond (Nat.blt a 33) (13) (845))) (cond (Nat.blt a 36) (cond (Nat.blt a 35) (5) (5)) (cond (Nat.blt a 37) (5) (5)))) (cond (Nat.blt a 42) (cond (Nat.blt a 40) (cond (Nat.blt a 39) (5) (5)) (cond (Nat.blt a 41) (5) (9))) (cond (Nat.blt a 44) (cond (Nat.blt a 43) (9) (9)) (cond (Nat.blt a 45) (9) (9))))) (cond (Nat.blt a 54) (cond (Nat.blt a 50) (cond (Nat.blt a 48) (cond (Nat.blt a 47) (4608) (4608)) (cond (Nat.blt a 49) (8) (100))) (cond (Nat.blt a 52) (cond (Nat.blt a 51) (100) (100)) (cond (Nat.blt a 53) (100) (100)))) (cond (Nat.blt a 58) (cond (Nat.blt a 56) (cond (Nat.blt a 55) (40) (97)) (cond (Nat.blt a 57) (5) (5))) (cond (Nat.blt a 60) (cond (Nat.blt a 59) (5) (5)) (cond (Nat.blt a 61) (5) (5))))))) (cond (Nat.blt a 93) (cond (Nat.blt a 77) (cond (Nat.blt a 69) (cond (Nat.blt a 65) (cond (Nat.blt a 63) (5) (cond (Nat.blt a 64) (5) (5))) (cond (Nat.blt a 67) (cond (Nat.blt a 66) (5) (5)) (cond (Nat.blt a 68) (10) (10)))) (cond (Nat.blt a 73) (cond (Nat.blt a 71) (cond (Nat.blt a 70) (400) (8)) (cond (Nat.blt a 72) (2) (24))) (cond (Nat.blt a 75) (cond (Nat.blt a 74) (24) (24)) (cond (Nat.blt a 76) (2000) (420))))) (cond (Nat.blt a 85) (cond (Nat.blt a 81) (cond (Nat.blt a 79) (cond (Nat.blt a 78) (9) (40)) (cond (Nat.blt a 80) (40) (200))) (cond (Nat.blt a 83) (cond (Nat.blt a 82) (64) (5)) (cond (Nat.blt a 84) (5) (5)))) (cond (Nat.blt a 89) (cond (Nat.blt a 87) (cond (Nat.blt a 86) (5) (5)) (cond (Nat.blt a 88) (5) (40))) (cond (Nat.blt a 91) (cond (Nat.blt a 90) (10) (420)) (cond (Nat.blt a 92) (13) (5)))))) (cond (Nat.blt a 109) (cond (Nat.blt a 101) (cond (Nat.blt a 97) (cond (Nat.blt a 95) (cond (Nat.blt a 94) (5) (5)) (cond (Nat.blt a 96) (78) (78))) (cond (Nat.blt a 99) (cond (Nat.blt a 98) (845) (5)) (cond (Nat.blt a 100) (5) (9)))) (cond (Nat.blt a 105) (cond (Nat.blt a 103) (cond (Nat.blt a 102) (9) (9)) (cond (Nat.blt a 104) (9) (9))) (cond (Nat.blt a 107) (cond (Nat.blt a 106) (9) (41472)) (cond (Nat.blt a 108) (41472) (9))))) (cond (Nat.blt a 117) (cond (Nat.blt a 113) (cond (Nat.blt a 111) (cond (Nat.blt a 110) (9) (90)) (cond (Nat.blt a 112) (100) (100))) (cond (Nat.blt a 115) (cond (Nat.blt a 114) (100) (100)) (cond (Nat.blt a 116) (100) (40)))) (cond (Nat.blt a 121) (cond (Nat.blt a 119) (cond (Nat.blt a 118) (1) (15)) (cond (Nat.blt a 120) (10) (15))) (cond (Nat.blt a 123) (cond (Nat.blt a 122) (15) (15)) (cond (Nat.blt a 124) (15) (0)))))))
def z_bend (i : Nat) : Int32 := [(4 : Int32), 1, 0, 1, 4].getD i 0
def z_tx : String := "gap in out press gauge aim tick wear pull hard not and or unless stand late drift tear loop "
def z_txl : Nat := 92
def z_ch (i : Nat) : Int32 := Int32.ofNat ([103, 97, 112, 32, 105, 110, 32, 111, 117, 116, 32, 112, 114, 101, 115, 115, 32, 103, 97, 117, 103, 101, 32, 97, 105, 109, 32, 116, 105, 99, 107, 32, 119, 101, 97, 114, 32, 112, 117, 108, 108, 32, 104, 97, 114, 100, 32, 110, 111, 116, 32, 97, 110, 100, 32, 111, 114, 32, 117, 110, 108, 101, 115, 115, 32, 115, 116, 97, 110, 100, 32, 108, 97, 116, 101, 32, 100, 114, 105, 102, 116, 32, 116, 101, 97, 114, 32, 108, 111, 111, 112, 32].getD i 0)
/-- references that never change behind the making; the others by d -/
def z_rs (d : Nat → Nat → Option Nat) (a k : Nat) : Option Nat := cond (Nat.beq a 0) (cond (Nat.beq k 0) (some 1) (cond (Nat.beq k 1) (some 6) (cond (Nat.beq k 3) (some 7) (cond (Nat.beq k 4) (some 22) (cond (Nat.beq k 5) (some 25) (cond (Nat.beq k 6) (some 30) (cond (Nat.beq k 7) (some 39) (cond (Nat.beq k 8) (some 40) (cond (Nat.beq k 9) (some 41) (cond (Nat.beq k 10) (some 48) (d 0 k))))))))))) (cond (Nat.beq a 1) (cond (Nat.beq k 0) (some 2) (cond (Nat.beq k 1) (some 5) (d 1 k))) (cond (Nat.beq a 2) (cond (Nat.beq k 0) (some 3) (cond (Nat.beq k 1) (some 4) (d 2 k))) (cond (Nat.beq a 5) (d 5 k) (cond (Nat.beq a 7) (cond (Nat.beq k 0) (some 6) (d 7 k)) (cond (Nat.beq a 8) (cond (Nat.beq k 0) (some 9) (cond (Nat.beq k 2) (some 10) (cond (Nat.beq k 3) (some 11) (cond (Nat.beq k 4) (some 12) (cond (Nat.beq k 5) (some 13) (cond (Nat.beq k 6) (some 14) (d 8 k))))))) (cond (Nat.beq a 15) (cond (Nat.beq k 0) (some 16) (cond (Nat.beq k 2) (some 17) (cond (Nat.beq k 3) (some 18) (cond (Nat.beq k 4) (some 19) (cond (Nat.beq k 5) (some 20) (cond (Nat.beq k 6) (some 21) (d 15 k))))))) (cond (Nat.beq a 22) (cond (Nat.beq k 0) (some 23) (cond (Nat.beq k 1) (some 24) (d 22 k))) (cond (Nat.beq a 25) (cond (Nat.beq k 0) (some 1) (cond (Nat.beq k 1) (some 22) (cond (Nat.beq k 9) (some 26) (cond (Nat.beq k 10) (some 27) (cond (Nat.beq k 11) (some 28) (cond (Nat.beq k 13) (some 29) (d 25 k))))))) (cond (Nat.beq a 30) (cond (Nat.beq k 0) (some 1) (cond (Nat.beq k 1) (some 31) (cond (Nat.beq k 3) (some 32) (cond (Nat.beq k 5) (some 33) (cond (Nat.beq k 6) (some 34) (cond (Nat.beq k 7) (some 35) (cond (Nat.beq k 10) (some 36) (cond (Nat.beq k 11) (some 37) (cond (Nat.beq k 12) (some 38) (d 30 k)))))))))) (cond (Nat.beq a 41) (cond (Nat.beq k 0) (some 42) (cond (Nat.beq k 1) (some 43) (cond (Nat.beq k 2) (some 44) (cond (Nat.beq k 3) (some 45) (d 41 k))))) (cond (Nat.beq a 48) (cond (Nat.beq k 1) (some 49) (cond (Nat.beq k 2) (some 50) (cond (Nat.beq k 3) (some 51) (cond (Nat.beq k 4) (some 52) (cond (Nat.beq k 5) (some 53) (cond (Nat.beq k 7) (some 54) (d 48 k))))))) (cond (Nat.beq a 55) (cond (Nat.blt k 97) (cond (Nat.blt k 48) (cond (Nat.blt k 24) (cond (Nat.blt k 12) (cond (Nat.blt k 6) (cond (Nat.blt k 3) (cond (Nat.blt k 1) (d 55 k) (cond (Nat.blt k 2) (d 55 k) (some 56))) (cond (Nat.blt k 4) (some 57) (cond (Nat.blt k 5) (some 58) (some 59)))) (cond (Nat.blt k 9) (cond (Nat.blt k 7) (some 60) (cond (Nat.blt k 8) (some 61) (some 62))) (cond (Nat.blt k 10) (some 63) (cond (Nat.blt k 11) (some 64) (some 65))))) (cond (Nat.blt k 18) (cond (Nat.blt k 15) (cond (Nat.blt k 13) (some 66) (cond (Nat.blt k 14) (d 55 k) (some 67))) (cond (Nat.blt k 16) (some 68) (cond (Nat.blt k 17) (some 69) (d 55 k)))) (cond (Nat.blt k 21) (cond (Nat.blt k 19) (d 55 k) (cond (Nat.blt k 20) (d 55 k) (d 55 k))) (cond (Nat.blt k 22) (d 55 k) (cond (Nat.blt k 23) (d 55 k) (d 55 k)))))) (cond (Nat.blt k 36) (cond (Nat.blt k 30) (cond (Nat.blt k 27) (cond (Nat.blt k 25) (d 55 k) (cond (Nat.blt k 26) (d 55 k) (d 55 k))) (cond (Nat.blt k 28) (d 55 k) (cond (Nat.blt k 29) (d 55 k) (d 55 k)))) (cond (Nat.blt k 33) (cond (Nat.blt k 31) (d 55 k) (cond (Nat.blt k 32) (d 55 k) (d 55 k))) (cond (Nat.blt k 34) (d 55 k) (cond (Nat.blt k 35) (some 70) (some 71))))) (cond (Nat.blt k 42) (cond (Nat.blt k 39) (cond (Nat.blt k 37) (some 72) (cond (Nat.blt k 38) (some 73) (some 74))) (cond (Nat.blt k 40) (some 75) (cond (Nat.blt k 41) (some 76) (some 77)))) (cond (Nat.blt k 45) (cond (Nat.blt k 43) (d 55 k) (cond (Nat.blt k 44) (d 55 k) (d 55 k))) (cond (Nat.blt k 46) (d 55 k) (cond (Nat.blt k 47) (d 55 k) (d 55 k))))))) (cond (Nat.blt k 72) (cond (Nat.blt k 60) (cond (Nat.blt k 54) (cond (Nat.blt k 51) (cond (Nat.blt k 49) (d 55 k) (cond (Nat.blt k 50) (some 78) (some 79))) (cond (Nat.blt k 52) (some 80) (cond (Nat.blt k 53) (some 81) (some 82)))) (cond (Nat.blt k 57) (cond (Nat.blt k 55) (d 55 k) (cond (Nat.blt k 56) (d 55 k) (some 83))) (cond (Nat.blt k 58) (some 84) (cond (Nat.blt k 59) (some 85) (some 86))))) (cond (Nat.blt k 66) (cond (Nat.blt k 63) (cond (Nat.blt k 61) (some 87) (cond (Nat.blt k 62) (some 88) (some 89))) (cond (Nat.blt k 64) (some 90) (cond (Nat.blt k 65) (d 55 k) (d 55 k)))) (cond (Nat.blt k 69) (cond (Nat.blt k 67) (some 91) (cond (Nat.blt k 68) (some 92) (some 93))) (cond (Nat.blt k 70) (some 94) (cond (Nat.blt k 71) (some 95) (some 96)))))) (cond (Nat.blt k 84) (cond (Nat.blt k 78) (cond (Nat.blt k 75) (cond (Nat.blt k 73) (d 55 k) (cond (Nat.blt k 74) (some 97) (some 98))) (cond (Nat.blt k 76) (some 99) (cond (Nat.blt k 77) (d 55 k) (d 55 k)))) (cond (Nat.blt k 81) (cond (Nat.blt k 79) (some 100) (cond (Nat.blt k 80) (some 101) (some 102))) (cond (Nat.blt k 82) (some 103) (cond (Nat.blt k 83) (some 104) (some 105))))) (cond (Nat.blt k 90) (cond (Nat.blt k 87) (cond (Nat.blt k 85) (some 106) (cond (Nat.blt k 86) (some 107) (some 108))) (cond (Nat.blt k 88) (some 109) (cond (Nat.blt k 89) (some 110) (d 55 k)))) (cond (Nat.blt k 93) (cond (Nat.blt k 91) (d 55 k) (cond (Nat.blt k 92) (some 111) (some 112))) (cond (Nat.blt k 95) (cond (Nat.blt k 94) (some 113) (some 114)) (cond (Nat.blt k 96) (some 115) (some 116)))))))) (d 55 k)) (d a k)))))))))))))
/-! THE SMALL MACHINE: a function that runs the methods' instructions over a store of numbers, longs and references whose cells have numbers of their own (the place in the order of making). A world: (lo, n, cells, slots, I, L, R): numbers below lo or n are made; I a k: the int (a field or a place of an array) k of cell a; L: longs; R: references. -/
abbrev ZW : Type := Nat × Nat × Nat × Nat × (Nat → Nat → Int32) × (Nat → Nat → Int64) × (Nat → Nat → Option Nat)
abbrev ZR : Type := Option ((Option Value ⊕ Nat) × ZW)
abbrev ZL : Type := List (Nat × Value)
/-- pc, instruction, its length, whether the next one is a cut; what it names, by number; switch targets; places of its words -/
abbrev ZE : Type := Nat × Instr × Nat × Bool × (Nat × Nat × Nat × Nat × Int) × List (Int × Nat) × List Nat
abbrev ZC : Type := Nat → List Value → ZW → ZR
abbrev ZX : Type := Nat × (Nat → Int32)
abbrev z_I (w : ZW) : Nat → Nat → Int32 := w.2.2.2.2.1
abbrev z_L (w : ZW) : Nat → Nat → Int64 := w.2.2.2.2.2.1
abbrev z_R (w : ZW) : Nat → Nat → Option Nat := w.2.2.2.2.2.2
def z_up {α : Type} (f : Nat → Nat → α) (a k : Nat) (v : α) : Nat → Nat → α := fun b j => cond (Nat.beq b a) (cond (Nat.beq j k) v (f b j)) (f b j)
abbrev z_si (w : ZW) (a k : Nat) (v : Int32) : ZW := (w.1, w.2.1, w.2.2.1, w.2.2.2.1, z_up (z_I w) a k v, z_L w, z_R w)
abbrev z_sl (w : ZW) (a k : Nat) (v : Int64) : ZW := (w.1, w.2.1, w.2.2.1, w.2.2.2.1, z_I w, z_up (z_L w) a k v, z_R w)
abbrev z_sr (w : ZW) (a k : Nat) (v : Option Nat) : ZW := (w.1, w.2.1, w.2.2.1, w.2.2.2.1, z_I w, z_L w, z_up (z_R w) a k v)
/-- a cell more, of so many slots -/
abbrev z_mk (w : ZW) (k : Nat) : ZW := (w.1, w.2.1 + 1, w.2.2.1 + 1, w.2.2.2.1 + k, z_I w, z_L w, z_R w)
/-- an exception is made: it is no cell of the store -/
abbrev z_mx (w : ZW) : ZW := (w.1, w.2.1, w.2.2.1 + 1, w.2.2.2.1 + 6, z_I w, z_L w, z_R w)
def z_al (w : ZW) (a : Nat) : Bool := Nat.blt a w.1 || Nat.blt a w.2.1
def z_ok (w : ZW) (a c : Nat) : Bool := z_al w a && Nat.beq (z_kd a) c
def z_in (i : Int32) (n : Nat) : Bool := !decide (i < 0) && Nat.blt i.toNatClampNeg n
def z_gd (b : Bool) (x : ZR) : ZR := cond b x none
def z_lk : ZL → Nat → Option Value
  | [], _ => none
  | (i, v) :: l, k => cond (Nat.beq i k) (some v) (z_lk l k)
def z_norm (live : List Nat) (lo : ZL) : ZL := live.filterMap (fun i => (z_lk lo i).map (fun v => (i, v)))
def z_st1 (lo : ZL) (i : Nat) (v : Value) : ZL := (i, v) :: lo.filter (fun q => !(q.1 == i) && !(q.1 + 1 == i && q.2.category == 2))
def z_st2 (lo : ZL) (i : Nat) (v : Value) : ZL := (i, v) :: lo.filter (fun q => !(q.1 == i) && (!(q.1 == i + 1) && !(q.1 + 1 == i && q.2.category == 2)))
def z_fv (w : ZW) (a k : Nat) (t : Nat) : Value := match t with
  | 3 => va_rf (z_R w a k)
  | 2 => .long (z_L w a k)
  | _ => .int (z_I w a k)
def z_b1 (x : Int32) : Bool := x &&& 1 == x
/-- a handler: from, to (pcs), which exception, the answer behind it -/
abbrev ZH : Type := Nat × Nat × Nat × Int × Nat
def z_hd : List ZH → Nat → Nat → Option Int
  | [], _, _ => none
  | (f, t, e, v, _) :: l, pc, E => cond (Nat.ble f pc && Nat.blt pc t && Nat.beq e E) (some v) (z_hd l pc E)
def z_x (hs : List ZH) (pc : Nat) (E : Nat) (w : ZW) : ZR := match z_hd hs pc E with
  | some v => some (.inl (some (.int (Int32.ofInt v))), w)
  | none => some (.inr E, w)
def z_b0 (hx : Nat → ZW → ZR) (r : ZR) (k : ZW → ZR) : ZR := match r with
  | some (.inl none, w) => k w
  | some (.inr E, w) => hx E w
  | _ => none
def z_bi (hx : Nat → ZW → ZR) (r : ZR) (k : Int32 → ZW → ZR) : ZR := match r with
  | some (.inl (some (.int v)), w) => k v w
  | some (.inr E, w) => hx E w
  | _ => none
def z_bl (hx : Nat → ZW → ZR) (r : ZR) (k : Int64 → ZW → ZR) : ZR := match r with
  | some (.inl (some (.long v)), w) => k v w
  | some (.inr E, w) => hx E w
  | _ => none
def z_br (hx : Nat → ZW → ZR) (r : ZR) (k : Nat → ZW → ZR) : ZR := match r with
  | some (.inl (some (.ref v)), w) => k v w
  | some (.inr E, w) => hx E w
  | _ => none
def z_sw (x : Int32) (go : Nat → ZR) : List (Int × Nat) → Nat → ZR
  | [], d => go d
  | (v, t) :: l, d => if x = Int32.ofInt v then go t else z_sw x go l d
def z_ii (st : List Value) (k : Int32 → Int32 → List Value → ZR) : ZR := match st with
  | .int y :: .int x :: r => k x y r
  | _ => none
def z_ll (st : List Value) (k : Int64 → Int64 → List Value → ZR) : ZR := match st with
  | .long y :: .long x :: r => k x y r
  | _ => none
def z_i1 (st : List Value) (k : Int32 → List Value → ZR) : ZR := match st with
  | .int x :: r => k x r
  | _ => none
def z_l1 (st : List Value) (k : Int64 → List Value → ZR) : ZR := match st with
  | .long x :: r => k x r
  | _ => none
def z_li (st : List Value) (k : Int64 → Int32 → List Value → ZR) : ZR := match st with
  | .int y :: .long x :: r => k x y r
  | _ => none
/-- a reference behind an index -/
def z_ir (st : List Value) (k : Nat → Int32 → List Value → ZR) : ZR := match st with
  | .int i :: .ref a :: r => k a i r
  | _ => none
def z_r1 (st : List Value) (k : Nat → List Value → ZR) : ZR := match st with
  | .ref a :: r => k a r
  | _ => none
def z_iir (st : List Value) (k : Nat → Int32 → Int32 → List Value → ZR) : ZR := match st with
  | .int x :: .int i :: .ref a :: r => k a i x r
  | _ => none
def z_lir (st : List Value) (k : Nat → Int32 → Int64 → List Value → ZR) : ZR := match st with
  | .long x :: .int i :: .ref a :: r => k a i x r
  | _ => none
def z_rir (st : List Value) (k : Nat → Int32 → Nat → List Value → ZR) : ZR := match st with
  | .ref x :: .int i :: .ref a :: r => k a i x r
  | _ => none
def z_dup (st : List Value) (k : List Value → ZR) : ZR := match st with
  | .int x :: r => k (.int x :: .int x :: r)
  | .ref x :: r => k (.ref x :: .ref x :: r)
  | _ => none
def z_dup2 (st : List Value) (k : List Value → ZR) : ZR := match st with
  | .int x :: .ref y :: r => k (.int x :: .ref y :: .int x :: .ref y :: r)
  | .long x :: r => k (.long x :: .long x :: r)
  | _ => none
def z_dx1 (st : List Value) (k : List Value → ZR) : ZR := match st with
  | .ref x :: .ref y :: r => k (.ref x :: .ref y :: .ref x :: r)
  | .int x :: .ref y :: r => k (.int x :: .ref y :: .int x :: r)
  | _ => none
def z_pop (st : List Value) (k : List Value → ZR) : ZR := match st with
  | .int _ :: r => k r
  | .ref _ :: r => k r
  | _ => none
def z_put (w : ZW) (a k t : Nat) (v : Value) (kk : ZW → ZR) : ZR := match t, v with
  | 0, .int x => kk (z_si w a k x)
  | 1, .int x => z_gd (z_b1 x) (kk (z_si w a k x))
  | 2, .long x => kk (z_sl w a k x)
  | 3, .ref b => kk (z_sr w a k (some b))
  | 3, .null => kk (z_sr w a k none)
  | _, _ => none
/-- the first n of a row of values, the others -/
def z_take : Nat → List Value → List Value → (List Value → List Value → ZR) → ZR
  | 0, acc, r, k => k acc r
  | n + 1, acc, v :: r, k => z_take n (v :: acc) r k
  | _ + 1, _, [], _ => none
def z_ret (hx : Nat → ZW → ZR) (d : Nat) (r : ZR) (k : List Value → ZW → ZR) : ZR := match d with
  | 0 => z_b0 hx r (fun w => k [] w)
  | 1 => z_bi hx r (fun v w => k [.int v] w)
  | 2 => z_bl hx r (fun v w => k [.long v] w)
  | _ => z_br hx r (fun v w => k [.ref v] w)
def z_cpy (w : ZW) (a0 a1 sp dp n : Nat) : ZW := (w.1, w.2.1, w.2.2.1, w.2.2.2.1, (fun b => cond (Nat.beq b a1) (va_cpy (z_I w a0) (z_I w a1) sp dp n) (z_I w b)), z_L w, z_R w)
def z_step (X : ZX) (call : ZC) (hs : List ZH) (go : Nat → ZL → List Value → ZW → ZR) (nx : ZL → List Value → ZW → ZR) (e : ZE) (lo : ZL) (st : List Value) (w : ZW) : ZR :=
  match e with
  | (pc, ins, _, _, (a, b, c, d, n), ts, _) => match ins with
    | .nop => nx lo st w
    | .aconst_null => nx lo (.null :: st) w
    | .iconst _ => nx lo (.int (Int32.ofInt n) :: st) w
    | .bipush _ => nx lo (.int (Int32.ofInt n) :: st) w
    | .sipush _ => nx lo (.int (Int32.ofInt n) :: st) w
    | .ldc _ => cond (Nat.beq b 1) (nx lo (.ref a :: st) w) (nx lo (.int (Int32.ofInt n) :: st) w)
    | .ldc_w _ => nx lo (.int (Int32.ofInt n) :: st) w
    | .lconst _ => nx lo (.long (Int64.ofInt n) :: st) w
    | .ldc2_w _ => nx lo (.long (Int64.ofInt n) :: st) w
    | .iload i => (match z_lk lo i with | some (.int x) => nx lo (.int x :: st) w | _ => none)
    | .iload_n i => (match z_lk lo i with | some (.int x) => nx lo (.int x :: st) w | _ => none)
    | .lload i => (match z_lk lo i with | some (.long x) => nx lo (.long x :: st) w | _ => none)
    | .lload_n i => (match z_lk lo i with | some (.long x) => nx lo (.long x :: st) w | _ => none)
    | .aload i => (match z_lk lo i with | some (.ref x) => nx lo (.ref x :: st) w | _ => none)
    | .aload_n i => (match z_lk lo i with | some (.ref x) => nx lo (.ref x :: st) w | _ => none)
    | .istore i => z_i1 st (fun x r => nx (z_st1 lo i (.int x)) r w)
    | .istore_n i => z_i1 st (fun x r => nx (z_st1 lo i (.int x)) r w)
    | .lstore i => z_l1 st (fun x r => nx (z_st2 lo i (.long x)) r w)
    | .lstore_n i => z_l1 st (fun x r => nx (z_st2 lo i (.long x)) r w)
    | .astore i => z_r1 st (fun x r => nx (z_st1 lo i (.ref x)) r w)
    | .astore_n i => z_r1 st (fun x r => nx (z_st1 lo i (.ref x)) r w)
    | .iinc i _ => (match z_lk lo i with | some (.int x) => nx (z_st1 lo i (.int (x + Int32.ofInt n))) st w | _ => none)
    | .iadd => z_ii st (fun x y r => nx lo (.int (x + y) :: r) w)
    | .isub => z_ii st (fun x y r => nx lo (.int (x - y) :: r) w)
    | .imul => z_ii st (fun x y r => nx lo (.int (x * y) :: r) w)
    | .idiv => z_ii st (fun x y r => if y = 0 then none else nx lo (.int (x / y) :: r) w)
    | .irem => z_ii st (fun x y r => if y = 0 then none else nx lo (.int (x - x / y * y) :: r) w)
    | .ineg => z_i1 st (fun x r => nx lo (.int (-x) :: r) w)
    | .iand => z_ii st (fun x y r => nx lo (.int (x &&& y) :: r) w)
    | .ior => z_ii st (fun x y r => nx lo (.int (x ||| y) :: r) w)
    | .ixor => z_ii st (fun x y r => nx lo (.int (x ^^^ y) :: r) w)
    | .ishl => z_ii st (fun x y r => nx lo (.int (x <<< (y &&& 31)) :: r) w)
    | .ishr => z_ii st (fun x y r => nx lo (.int (x >>> (y &&& 31)) :: r) w)
    | .iushr => z_ii st (fun x y r => nx lo (.int ((x.toUInt32 >>> (y.toUInt32 &&& Int32.toUInt32 31)).toInt32) :: r) w)
    | .ladd => z_ll st (fun x y r => nx lo (.long (x + y) :: r) w)
    | .lsub => z_ll st (fun x y r => nx lo (.long (x - y) :: r) w)
    | .lmul => z_ll st (fun x y r => nx lo (.long (x * y) :: r) w)
    | .ldiv => z_ll st (fun x y r => if y = 0 then none else nx lo (.long (x / y) :: r) w)
    | .lneg => z_l1 st (fun x r => nx lo (.long (-x) :: r) w)
    | .land => z_ll st (fun x y r => nx lo (.long (x &&& y) :: r) w)
    | .lor => z_ll st (fun x y r => nx lo (.long (x ||| y) :: r) w)
    | .lshl => z_li st (fun x y r => nx lo (.long (x <<< (y.toInt64 &&& 63)) :: r) w)
    | .lshr => z_li st (fun x y r => nx lo (.long (x >>> (y.toInt64 &&& 63)) :: r) w)
    | .lushr => z_li st (fun x y r => nx lo (.long ((x.toUInt64 >>> (y.toInt64.toUInt64 &&& Int64.toUInt64 63)).toInt64) :: r) w)
    | .lcmp => z_ll st (fun x y r => nx lo (.int (lg_cmp x y) :: r) w)
    | .i2l => z_i1 st (fun x r => nx lo (.long x.toInt64 :: r) w)
    | .l2i => z_l1 st (fun x r => nx lo (.int x.toInt32 :: r) w)
    | .dup => z_dup st (fun r => nx lo r w)
    | .dup2 => z_dup2 st (fun r => nx lo r w)
    | .dup_x1 => z_dx1 st (fun r => nx lo r w)
    | .pop => z_pop st (fun r => nx lo r w)
    | .goto _ => go a lo st w
    | .ifCond .eq _ => z_i1 st (fun x r => if x = 0 then go a lo r w else nx lo r w)
    | .ifCond .ne _ => z_i1 st (fun x r => if x = 0 then nx lo r w else go a lo r w)
    | .ifCond .lt _ => z_i1 st (fun x r => if x < 0 then go a lo r w else nx lo r w)
    | .ifCond .ge _ => z_i1 st (fun x r => if 0 ≤ x then go a lo r w else nx lo r w)
    | .ifCond .gt _ => z_i1 st (fun x r => if 0 < x then go a lo r w else nx lo r w)
    | .ifCond .le _ => z_i1 st (fun x r => if x ≤ 0 then go a lo r w else nx lo r w)
    | .if_icmp .eq _ => z_ii st (fun x y r => if x = y then go a lo r w else nx lo r w)
    | .if_icmp .ne _ => z_ii st (fun x y r => if x = y then nx lo r w else go a lo r w)
    | .if_icmp .lt _ => z_ii st (fun x y r => if x < y then go a lo r w else nx lo r w)
    | .if_icmp .ge _ => z_ii st (fun x y r => if y ≤ x then go a lo r w else nx lo r w)
    | .if_icmp .gt _ => z_ii st (fun x y r => if y < x then go a lo r w else nx lo r w)
    | .if_icmp .le _ => z_ii st (fun x y r => if x ≤ y then go a lo r w else nx lo r w)
    | .if_acmp .eq _ => (match st with | .ref y :: .ref x :: r => cond (Nat.beq x y) (go a lo r w) (nx lo r w) | _ => none)
    | .tableswitch _ _ _ _ => z_i1 st (fun x r => z_sw x (fun t => go t lo r w) ts a)
    | .lookupswitch _ _ => z_i1 st (fun x r => z_sw x (fun t => go t lo r w) ts a)
    | .getfield _ => z_r1 st (fun x r => z_gd (z_ok w x a) (nx lo (z_fv w x b c :: r) w))
    | .putfield _ => (match st with | v :: .ref x :: r => z_gd (z_ok w x a) (z_put w x b c v (fun w => nx lo r w)) | _ => none)
    | .getstatic _ => nx lo (.ref a :: st) w
    | .iaload => z_ir st (fun x i r => cond (Nat.ble 1000 x)
        (cond (Nat.beq x 1001) (z_gd (z_in i X.1) (nx lo (.int (X.2 i.toNatClampNeg) :: r) w)) (cond (Nat.beq x 1000) (z_gd (z_in i 5) (nx lo (.int (z_bend i.toNatClampNeg) :: r) w)) none))
        (z_gd (z_ok w x 20) (z_gd (z_in i (z_kl x)) (nx lo (.int (z_I w x i.toNatClampNeg) :: r) w))))
    | .baload => z_ir st (fun x i r => z_gd (z_ok w x 22) (z_gd (z_in i (z_kl x)) (nx lo (.int (z_I w x i.toNatClampNeg) :: r) w)))
    | .laload => z_ir st (fun x i r => z_gd (z_ok w x 21) (z_gd (z_in i (z_kl x)) (nx lo (.long (z_L w x i.toNatClampNeg) :: r) w)))
    | .aaload => z_ir st (fun x i r => z_gd (z_ok w x 23) (z_gd (z_in i (z_kl x)) (nx lo (va_rf (z_R w x i.toNatClampNeg) :: r) w)))
    | .iastore => z_iir st (fun x i v r => z_gd (z_ok w x 20) (z_gd (z_in i (z_kl x)) (nx lo r (z_si w x i.toNatClampNeg v))))
    | .bastore => z_iir st (fun x i v r => z_gd (z_ok w x 22) (z_gd (z_in i (z_kl x)) (z_gd (z_b1 v) (nx lo r (z_si w x i.toNatClampNeg v)))))
    | .lastore => z_lir st (fun x i v r => z_gd (z_ok w x 21) (z_gd (z_in i (z_kl x)) (nx lo r (z_sl w x i.toNatClampNeg v))))
    | .aastore => z_rir st (fun x i v r => z_gd (z_ok w x 23) (z_gd (z_in i (z_kl x)) (z_gd (z_ok w v 10) (nx lo r (z_sr w x i.toNatClampNeg (some v))))))
    | .arraylength => z_r1 st (fun x r => cond (Nat.ble 1000 x)
        (cond (Nat.beq x 1001) (nx lo (.int (Int32.ofNat X.1) :: r) w) (cond (Nat.beq x 1003) (nx lo (.int (Int32.ofNat 0) :: r) w) none))
        (z_gd (z_al w x && Nat.ble 20 (z_kd x)) (nx lo (.int (Int32.ofNat (z_kl x)) :: r) w)))
    | .checkcast _ => z_r1 st (fun x r => z_gd (z_ok w x a) (nx lo (.ref x :: r) w))
    | .new _ => cond (Nat.beq b 1) (z_x hs (pc + 7) a (z_mx w)) (z_gd (Nat.beq (z_kd w.2.1) a && Nat.blt w.2.1 1000) (nx lo (.ref w.2.1 :: st) (z_mk w c)))
    | .newarray _ => z_i1 st (fun x r => z_gd (Nat.beq (z_kd w.2.1) a && Nat.blt w.2.1 1000 && z_in x 100000 && Nat.beq x.toNatClampNeg (z_kl w.2.1)) (nx lo (.ref w.2.1 :: r) (z_mk w x.toNatClampNeg)))
    | .anewarray _ => z_i1 st (fun x r => z_gd (Nat.beq (z_kd w.2.1) 23 && Nat.blt w.2.1 1000 && z_in x 100000 && Nat.beq x.toNatClampNeg (z_kl w.2.1)) (nx lo (.ref w.2.1 :: r) (z_mk w x.toNatClampNeg)))
    | .invokestatic _ => cond (Nat.beq b 7)
        (match st with
          | .int m :: .int dp :: .ref y :: .int sp :: .ref x :: r => z_gd (z_ok w x 20 && z_ok w y 20 && (z_in sp 100000 && (z_in dp 100000 && z_in m 100000))) (z_gd (Nat.ble (sp.toNatClampNeg + m.toNatClampNeg) (z_kl x) && Nat.ble (dp.toNatClampNeg + m.toNatClampNeg) (z_kl y)) (nx lo r (z_cpy w x y sp.toNatClampNeg dp.toNatClampNeg m.toNatClampNeg)))
          | _ => none)
        (z_take c [] st (fun av r => z_ret (z_x hs pc) d (call a av w) (fun v w => nx lo (v ++ r) w)))
    | .invokevirtual _ => z_take c [] st (fun av r => z_r1 r (fun x r => z_gd (cond (Nat.beq b 8) (Nat.beq x 1002) (z_ok w x n.toNat)) (z_ret (z_x hs pc) d (call a (.ref x :: av) w) (fun v w => nx lo (v ++ r) w))))
    | .invokespecial _ => cond (Nat.beq b 3) (z_r1 st (fun _ r => nx lo r w)) (z_take c [] st (fun av r => z_r1 r (fun x r => z_ret (z_x hs pc) d (call a (.ref x :: av) w) (fun v w => nx lo (v ++ r) w))))
    | .ireturn => (match st with | [.int x] => z_gd (cond (Nat.beq a 1) (z_b1 x) true) (some (.inl (some (.int x)), w)) | _ => none)
    | .lreturn => (match st with | [.long x] => some (.inl (some (.long x)), w) | _ => none)
    | .areturn => (match st with | [.ref x] => some (.inl (some (.ref x)), w) | _ => none)
    | .return_ => (match st with | [] => some (.inl none, w) | _ => none)
    | _ => none
def z_drop (t : Nat) : List ZE → List ZE
  | [] => []
  | e :: es => cond (Nat.beq e.1 t) (e :: es) (z_drop t es)
def z_ct : List (Nat × List Nat) → Nat → Option (List Nat)
  | [], _ => none
  | (p, l) :: r, t => cond (Nat.beq p t) (some l) (z_ct r t)
def z_exec (X : ZX) (call : ZC) (hs : List ZH) (cuts : List (Nat × List Nat)) (jmp : Nat → ZL → List Value → ZW → ZR) : Nat → List ZE → ZL → List Value → ZW → ZR
  | 0, _, _, _, _ => none
  | _ + 1, [], _, _, _ => none
  | m + 1, e :: es, lo, st, w => z_step X call hs
      (fun t lo st w => match z_ct cuts t with | some l => jmp t (z_norm l lo) st w | none => z_exec X call hs cuts jmp m (z_drop t es) lo st w)
      (fun lo st w => cond e.2.2.2.1 (match z_ct cuts (e.1 + e.2.2.1) with | some l => jmp (e.1 + e.2.2.1) (z_norm l lo) st w | none => none) (z_exec X call hs cuts jmp m es lo st w))
      e lo st w
