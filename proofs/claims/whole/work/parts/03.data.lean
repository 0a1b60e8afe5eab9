/-! the program as data, by a program of mine out of the printed texts: classes, objects, methods, blocks -/
def z_T0 : u_T := fun k => match k with
  | 0 => ("SlipRoom$Law", "values", "[I", true)
  | 1 => ("SlipRoom$Law", "stack", "[I", true)
  | _ => ("SlipRoom$Law", "height", "I", false)
def z_T1 : u_T := fun k => match k with
  | 0 => ("SlipRoom$Ledger", "loans", "I", false)
  | 1 => ("SlipRoom$Ledger", "loanRows", "[I", true)
  | 2 => ("SlipRoom$Ledger", "latestBegin", "I", false)
  | 3 => ("SlipRoom$Ledger", "bookUntil", "[I", true)
  | 4 => ("SlipRoom$Ledger", "readerUntil", "[I", true)
  | 5 => ("SlipRoom$Ledger", "slip", "[I", true)
  | 6 => ("SlipRoom$Ledger", "laid", "[I", true)
  | 7 => ("SlipRoom$Ledger", "readPages", "[I", true)
  | 8 => ("SlipRoom$Ledger", "allReadAt", "[I", true)
  | 9 => ("SlipRoom$Ledger", "readBits", "[J", true)
  | 10 => ("SlipRoom$Ledger", "looks", "I", false)
  | 11 => ("SlipRoom$Ledger", "lookRows", "[I", true)
  | 12 => ("SlipRoom$Ledger", "wishes", "I", false)
  | 13 => ("SlipRoom$Ledger", "wishHours", "[I", true)
  | 14 => ("SlipRoom$Ledger", "wishReady", "[I", true)
  | 15 => ("SlipRoom$Ledger", "tales", "[I", true)
  | _ => ("SlipRoom$Ledger", "refusals", "[I", true)
def z_T2 : u_T := fun k => match k with
  | 0 => ("SlipRoom$Parser", "tokens", "LSlipRoom$Tokens;", true)
  | 1 => ("SlipRoom$Parser", "plan", "LSlipRoom$Plan;", false)
  | 2 => ("SlipRoom$Parser", "fault", "I", false)
  | _ => ("SlipRoom$Parser", "place", "I", false)
def z_T3 : u_T := fun k => match k with
  | 0 => ("SlipRoom$Plan", "books", "I", false)
  | 1 => ("SlipRoom$Plan", "pages", "[I", true)
  | 2 => ("SlipRoom$Plan", "partPages", "[I", true)
  | 3 => ("SlipRoom$Plan", "readers", "I", false)
  | 4 => ("SlipRoom$Plan", "pace", "[I", true)
  | 5 => ("SlipRoom$Plan", "colour", "[I", true)
  | 6 => ("SlipRoom$Plan", "back", "[I", true)
  | 7 => ("SlipRoom$Plan", "ends", "[I", true)
  | 8 => ("SlipRoom$Plan", "lawFrom", "[I", true)
  | 9 => ("SlipRoom$Plan", "lawTo", "[I", true)
  | 10 => ("SlipRoom$Plan", "code", "[I", true)
  | _ => ("SlipRoom$Plan", "codeLength", "I", false)
def z_T4 : u_T := fun k => match k with
  | 0 => ("SlipRoom$Settling", "fewestLooks", "[I", true)
  | _ => ("SlipRoom$Settling", "firstBook", "[I", true)
def z_T5 : u_T := fun k => match k with
  | 0 => ("SlipRoom$Sharing", "plan", "LSlipRoom$Plan;", false)
  | 1 => ("SlipRoom$Sharing", "looks", "I", false)
  | 2 => ("SlipRoom$Sharing", "number", "[I", true)
  | 3 => ("SlipRoom$Sharing", "hour", "[I", true)
  | 4 => ("SlipRoom$Sharing", "colour", "[I", true)
  | 5 => ("SlipRoom$Sharing", "page", "[I", true)
  | 6 => ("SlipRoom$Sharing", "lentHours", "[I", true)
  | 7 => ("SlipRoom$Sharing", "begunLoans", "[I", true)
  | 8 => ("SlipRoom$Sharing", "fits", "[Z", true)
  | _ => ("SlipRoom$Sharing", "splits", "[I", true)
def z_T6 : u_T := fun k => match k with
  | 0 => ("SlipRoom$Tokens", "text", "[B", true)
  | 1 => ("SlipRoom$Tokens", "length", "I", false)
  | 2 => ("SlipRoom$Tokens", "behind", "I", false)
  | 3 => ("SlipRoom$Tokens", "kind", "I", false)
  | 4 => ("SlipRoom$Tokens", "start", "I", false)
  | 5 => ("SlipRoom$Tokens", "number", "I", false)
  | _ => ("SlipRoom$Tokens", "word", "LSlipRoom$Word;", false)
def z_T7 : u_T := fun k => match k with
  | 0 => ("SlipRoom$Turns", "order", "[I", true)
  | 1 => ("SlipRoom$Turns", "length", "I", false)
  | 2 => ("SlipRoom$Turns", "row", "[I", true)
  | _ => ("SlipRoom$Turns", "least", "I", false)
def z_T8 : u_T := fun k => match k with
  | 0 => ("SlipRoom", "tape", "[B", true)
  | 1 => ("SlipRoom", "tapeLength", "I", false)
  | 2 => ("SlipRoom", "faultPlace", "I", false)
  | 3 => ("SlipRoom", "plan", "LSlipRoom$Plan;", false)
  | 4 => ("SlipRoom", "draft", "LSlipRoom$Plan;", false)
  | 5 => ("SlipRoom", "parser", "LSlipRoom$Parser;", true)
  | 6 => ("SlipRoom", "now", "LSlipRoom$Ledger;", true)
  | 7 => ("SlipRoom", "kept", "LSlipRoom$Ledger;", true)
  | 8 => ("SlipRoom", "imageKept", "Z", false)
  | 9 => ("SlipRoom", "law", "LSlipRoom$Law;", true)
  | 10 => ("SlipRoom", "sharing", "LSlipRoom$Sharing;", true)
  | 11 => ("SlipRoom", "turns", "LSlipRoom$Turns;", true)
  | _ => ("SlipRoom", "settling", "LSlipRoom$Settling;", true)
def z_T9 : u_T := fun k => match k with
  | 0 => ("SlipRoomModel", "values", "[Ljava/lang/String;", true)
  | 1 => ("SlipRoomModel", "code", "I", false)
  | 2 => ("SlipRoomModel", "books", "I", false)
  | 3 => ("SlipRoomModel", "readers", "I", false)
  | 4 => ("SlipRoomModel", "readBooks", "I", false)
  | 5 => ("SlipRoomModel", "readReaders", "I", false)
  | 6 => ("SlipRoomModel", "pages", "[I", true)
  | 7 => ("SlipRoomModel", "parts", "[I", true)
  | 8 => ("SlipRoomModel", "pace", "[I", true)
  | 9 => ("SlipRoomModel", "colour", "[I", true)
  | 10 => ("SlipRoomModel", "back", "[I", true)
  | 11 => ("SlipRoomModel", "begin", "[I", true)
  | 12 => ("SlipRoomModel", "finish", "[I", true)
  | 13 => ("SlipRoomModel", "signs", "[I", true)
  | 14 => ("SlipRoomModel", "status", "[I", true)
  | 15 => ("SlipRoomModel", "isEnds", "[Z", true)
  | 16 => ("SlipRoomModel", "tape", "[I", true)
  | 17 => ("SlipRoomModel", "taped", "I", false)
  | 18 => ("SlipRoomModel", "at", "I", false)
  | 19 => ("SlipRoomModel", "size", "I", false)
  | 20 => ("SlipRoomModel", "token", "I", false)
  | 21 => ("SlipRoomModel", "number", "I", false)
  | 22 => ("SlipRoomModel", "begins", "I", false)
  | 23 => ("SlipRoomModel", "ends", "I", false)
  | 24 => ("SlipRoomModel", "bad", "I", false)
  | 25 => ("SlipRoomModel", "badPlace", "I", false)
  | 26 => ("SlipRoomModel", "faultPlace", "I", false)
  | 27 => ("SlipRoomModel", "laid", "I", false)
  | 28 => ("SlipRoomModel", "loans", "I", false)
  | 29 => ("SlipRoomModel", "latest", "I", false)
  | 30 => ("SlipRoomModel", "slips", "[I", true)
  | 31 => ("SlipRoomModel", "laidAt", "[I", true)
  | 32 => ("SlipRoomModel", "throughAt", "[I", true)
  | 33 => ("SlipRoomModel", "bookEnd", "[I", true)
  | 34 => ("SlipRoomModel", "readerEnd", "[I", true)
  | 35 => ("SlipRoomModel", "isRead", "[Z", true)
  | 36 => ("SlipRoomModel", "loanReader", "[I", true)
  | 37 => ("SlipRoomModel", "loanBook", "[I", true)
  | 38 => ("SlipRoomModel", "loanFrom", "[I", true)
  | 39 => ("SlipRoomModel", "loanHours", "[I", true)
  | 40 => ("SlipRoomModel", "loanBegan", "[I", true)
  | 41 => ("SlipRoomModel", "loanRead", "[I", true)
  | 42 => ("SlipRoomModel", "asked", "[I", true)
  | 43 => ("SlipRoomModel", "stack", "[I", true)
  | 44 => ("SlipRoomModel", "looks", "I", false)
  | 45 => ("SlipRoomModel", "lookBook", "[I", true)
  | 46 => ("SlipRoomModel", "lookHour", "[I", true)
  | 47 => ("SlipRoomModel", "lookColour", "[I", true)
  | 48 => ("SlipRoomModel", "lookPage", "[I", true)
  | 49 => ("SlipRoomModel", "row", "[I", true)
  | 50 => ("SlipRoomModel", "who", "[I", true)
  | 51 => ("SlipRoomModel", "may", "[I", true)
  | 52 => ("SlipRoomModel", "sure", "[I", true)
  | 53 => ("SlipRoomModel", "lowest", "[I", true)
  | 54 => ("SlipRoomModel", "highest", "[I", true)
  | 55 => ("SlipRoomModel", "rowMany", "I", false)
  | 56 => ("SlipRoomModel", "wayMany", "I", false)
  | 57 => ("SlipRoomModel", "wishes", "I", false)
  | 58 => ("SlipRoomModel", "wishReader", "[I", true)
  | 59 => ("SlipRoomModel", "wishHours", "[I", true)
  | 60 => ("SlipRoomModel", "wishReady", "[I", true)
  | 61 => ("SlipRoomModel", "order", "[I", true)
  | 62 => ("SlipRoomModel", "orderTry", "[I", true)
  | 63 => ("SlipRoomModel", "orderMany", "I", false)
  | 64 => ("SlipRoomModel", "orderLeast", "I", false)
  | 65 => ("SlipRoomModel", "tales", "[I", true)
  | 66 => ("SlipRoomModel", "settles", "[I", true)
  | 67 => ("SlipRoomModel", "hasImage", "Z", false)
  | 68 => ("SlipRoomModel", "kept", "[I", true)
  | 69 => ("SlipRoomModel", "readThen", "[Z", true)
  | _ => ("SlipRoomModel", "keptAt", "I", false)
abbrev z_cls : List vw_C := [("SlipRoom$Law", z_T0, 3), ("SlipRoom$Ledger", z_T1, 17), ("SlipRoom$Parser", z_T2, 4), ("SlipRoom$Plan", z_T3, 12), ("SlipRoom$Settling", z_T4, 2), ("SlipRoom$Sharing", z_T5, 10), ("SlipRoom$Tokens", z_T6, 7), ("SlipRoom$Turns", z_T7, 4), ("SlipRoom", z_T8, 13), ("SlipRoomModel", z_T9, 71)]
abbrev z_own : List String := ["SlipRoom$Law", "SlipRoom$Ledger", "SlipRoom$Parser", "SlipRoom$Plan", "SlipRoom$Settling", "SlipRoom$Sharing", "SlipRoom$Tokens", "SlipRoom$Turns", "SlipRoom", "SlipRoomModel", "SlipRoom$Word", "SlipRoomLaw", "java/lang/Integer", "java/lang/Long", "java/lang/Math", "java/util/Arrays"]
def z_n : Nat := 117
/-- what kind of row an object is: 1 int, 2 byte, 3 boolean, 4 long, 5 text; 0 none -/
def z_at (a : Nat) : Nat := (cond (Nat.blt a 59) (cond (Nat.blt a 29) (cond (Nat.blt a 14) (cond (Nat.blt a 7) (cond (Nat.blt a 3) (cond (Nat.blt a 1) 0 (cond (Nat.blt a 2) 2 0)) 1) (cond (Nat.blt a 10) 1 (cond (Nat.blt a 12) 1 (cond (Nat.blt a 13) 0 1)))) (cond (Nat.blt a 21) 1 (cond (Nat.blt a 25) (cond (Nat.blt a 23) (cond (Nat.blt a 22) 1 0) 0) 1))) (cond (Nat.blt a 44) (cond (Nat.blt a 36) (cond (Nat.blt a 32) 1 (cond (Nat.blt a 34) (cond (Nat.blt a 33) 4 1) 1)) (cond (Nat.blt a 40) (cond (Nat.blt a 38) 1 (cond (Nat.blt a 39) 0 1)) 1)) (cond (Nat.blt a 51) (cond (Nat.blt a 47) (cond (Nat.blt a 45) 1 (cond (Nat.blt a 46) 1 4)) 1) (cond (Nat.blt a 55) (cond (Nat.blt a 53) (cond (Nat.blt a 52) 1 0) 1) (cond (Nat.blt a 57) (cond (Nat.blt a 56) 0 1) 1))))) (cond (Nat.blt a 88) (cond (Nat.blt a 73) (cond (Nat.blt a 66) (cond (Nat.blt a 62) 1 (cond (Nat.blt a 64) (cond (Nat.blt a 63) 3 1) (cond (Nat.blt a 65) 0 1))) (cond (Nat.blt a 69) (cond (Nat.blt a 67) 1 (cond (Nat.blt a 68) 0 1)) (cond (Nat.blt a 71) (cond (Nat.blt a 70) 1 0) (cond (Nat.blt a 72) 5 1)))) (cond (Nat.blt a 80) 1 (cond (Nat.blt a 84) (cond (Nat.blt a 82) (cond (Nat.blt a 81) 1 3) 1) 1))) (cond (Nat.blt a 103) (cond (Nat.blt a 95) (cond (Nat.blt a 91) (cond (Nat.blt a 89) 3 1) 1) 1) (cond (Nat.blt a 110) 1 (cond (Nat.blt a 114) 1 (cond (Nat.blt a 116) (cond (Nat.blt a 115) 1 3) (cond (Nat.blt a 117) 4 0)))))))
def z_ln (a : Nat) : Nat := (cond (Nat.blt a 59) (cond (Nat.blt a 29) (cond (Nat.blt a 14) (cond (Nat.blt a 7) (cond (Nat.blt a 3) (cond (Nat.blt a 1) 0 (cond (Nat.blt a 2) 700 0)) (cond (Nat.blt a 5) 10 8)) (cond (Nat.blt a 10) 8 (cond (Nat.blt a 12) (cond (Nat.blt a 11) 8 700) (cond (Nat.blt a 13) 0 10)))) (cond (Nat.blt a 21) (cond (Nat.blt a 17) (cond (Nat.blt a 15) 10 8) 8) (cond (Nat.blt a 25) (cond (Nat.blt a 23) (cond (Nat.blt a 22) 700 0) 0) (cond (Nat.blt a 27) (cond (Nat.blt a 26) 1200 10) (cond (Nat.blt a 28) 8 80))))) (cond (Nat.blt a 44) (cond (Nat.blt a 36) (cond (Nat.blt a 32) 80 (cond (Nat.blt a 34) (cond (Nat.blt a 33) 560 96) 7)) (cond (Nat.blt a 40) (cond (Nat.blt a 38) (cond (Nat.blt a 37) 60 5) (cond (Nat.blt a 39) 0 1200)) (cond (Nat.blt a 42) (cond (Nat.blt a 41) 10 8) 80))) (cond (Nat.blt a 51) (cond (Nat.blt a 47) (cond (Nat.blt a 45) 80 (cond (Nat.blt a 46) 80 560)) (cond (Nat.blt a 49) (cond (Nat.blt a 48) 96 7) (cond (Nat.blt a 50) 7 60))) (cond (Nat.blt a 55) (cond (Nat.blt a 53) (cond (Nat.blt a 52) 5 0) (cond (Nat.blt a 54) 7 64)) (cond (Nat.blt a 57) (cond (Nat.blt a 56) 0 6) 6))))) (cond (Nat.blt a 88) (cond (Nat.blt a 73) (cond (Nat.blt a 66) (cond (Nat.blt a 62) (cond (Nat.blt a 60) 6 48) (cond (Nat.blt a 64) (cond (Nat.blt a 63) 512 64) (cond (Nat.blt a 65) 0 7))) (cond (Nat.blt a 69) (cond (Nat.blt a 67) 7 (cond (Nat.blt a 68) 0 64)) (cond (Nat.blt a 71) (cond (Nat.blt a 70) 64 0) (cond (Nat.blt a 72) 7 20)))) (cond (Nat.blt a 80) (cond (Nat.blt a 76) (cond (Nat.blt a 74) 20 16) (cond (Nat.blt a 78) 16 (cond (Nat.blt a 79) 16 1400))) (cond (Nat.blt a 84) (cond (Nat.blt a 82) (cond (Nat.blt a 81) 5 16) (cond (Nat.blt a 83) 700 80)) (cond (Nat.blt a 86) 80 (cond (Nat.blt a 87) 10 8))))) (cond (Nat.blt a 103) (cond (Nat.blt a 95) (cond (Nat.blt a 91) (cond (Nat.blt a 89) 32080 200) 200) (cond (Nat.blt a 99) (cond (Nat.blt a 97) (cond (Nat.blt a 96) 7 60) 24) (cond (Nat.blt a 101) 24 6))) (cond (Nat.blt a 110) (cond (Nat.blt a 106) (cond (Nat.blt a 104) 24 (cond (Nat.blt a 105) 24 8)) (cond (Nat.blt a 108) (cond (Nat.blt a 107) 8 7) 7)) (cond (Nat.blt a 114) (cond (Nat.blt a 112) 7 (cond (Nat.blt a 113) 60 64)) (cond (Nat.blt a 116) (cond (Nat.blt a 115) 1644 32080) (cond (Nat.blt a 117) 1 0)))))))
/-- the class of an object -/
def z_oc (a : Nat) : Nat := (cond (Nat.blt a 59) (cond (Nat.blt a 29) (cond (Nat.blt a 14) (cond (Nat.blt a 7) (cond (Nat.blt a 3) (cond (Nat.blt a 1) 8 (cond (Nat.blt a 2) 99 3)) 99) (cond (Nat.blt a 10) 99 (cond (Nat.blt a 12) 99 (cond (Nat.blt a 13) 3 99)))) (cond (Nat.blt a 21) 99 (cond (Nat.blt a 25) (cond (Nat.blt a 23) (cond (Nat.blt a 22) 99 2) (cond (Nat.blt a 24) 6 1)) 99))) (cond (Nat.blt a 44) (cond (Nat.blt a 36) 99 (cond (Nat.blt a 40) (cond (Nat.blt a 38) 99 (cond (Nat.blt a 39) 1 99)) 99)) (cond (Nat.blt a 51) 99 (cond (Nat.blt a 55) (cond (Nat.blt a 53) (cond (Nat.blt a 52) 99 0) 99) (cond (Nat.blt a 57) (cond (Nat.blt a 56) 5 99) 99))))) (cond (Nat.blt a 88) (cond (Nat.blt a 73) (cond (Nat.blt a 66) (cond (Nat.blt a 62) 99 (cond (Nat.blt a 64) 99 (cond (Nat.blt a 65) 7 99))) (cond (Nat.blt a 69) (cond (Nat.blt a 67) 99 (cond (Nat.blt a 68) 4 99)) (cond (Nat.blt a 71) (cond (Nat.blt a 70) 99 9) 99))) 99) 99))
def z_nf (c : Nat) : Nat := ([3, 17, 4, 12, 2, 10, 7, 4, 13, 71] : List Nat).getD c 0
/-- is it an object of the kind -/
def z_isO (c a : Nat) : Bool := match c with
  | 0 => Nat.beq a 52
  | 1 => Nat.beq a 24 || Nat.beq a 38
  | 2 => Nat.beq a 22
  | 3 => Nat.beq a 2 || Nat.beq a 12
  | 4 => Nat.beq a 67
  | 5 => Nat.beq a 55
  | 6 => Nat.beq a 23
  | 7 => Nat.beq a 64
  | 8 => Nat.beq a 0
  | 9 => Nat.beq a 70
  | 10 => Nat.ble 1000 a && Nat.blt a 1017
  | _ => false
/-- a field: 0 a number (1: of two), 1 a reference that changes, 2 a reference to a place behind, 3 a fixed one -/
def z_ftg (c k : Nat) : Nat × Nat := match c with
  | 0 => ([(2, 1), (2, 2), (0, 0)] : List (Nat × Nat)).getD k (9, 0)
  | 1 => ([(0, 0), (2, 1), (0, 0), (2, 2), (2, 3), (2, 4), (2, 5), (2, 6), (2, 7), (2, 8), (0, 0), (2, 9), (0, 0), (2, 10), (2, 11), (2, 12), (2, 13)] : List (Nat × Nat)).getD k (9, 0)
  | 2 => ([(3, 23), (1, 0), (0, 0), (0, 0)] : List (Nat × Nat)).getD k (9, 0)
  | 3 => ([(0, 0), (2, 1), (2, 2), (0, 0), (2, 3), (2, 4), (2, 5), (2, 6), (2, 7), (2, 8), (2, 9), (0, 0)] : List (Nat × Nat)).getD k (9, 0)
  | 4 => ([(2, 1), (2, 2)] : List (Nat × Nat)).getD k (9, 0)
  | 5 => ([(1, 0), (0, 0), (2, 1), (2, 2), (2, 3), (2, 4), (2, 5), (2, 6), (2, 7), (2, 8)] : List (Nat × Nat)).getD k (9, 0)
  | 6 => ([(3, 1), (0, 0), (0, 0), (0, 0), (0, 0), (0, 0), (1, 0)] : List (Nat × Nat)).getD k (9, 0)
  | 7 => ([(2, 1), (0, 0), (2, 2), (0, 0)] : List (Nat × Nat)).getD k (9, 0)
  | 8 => ([(3, 1), (0, 0), (0, 0), (1, 0), (1, 0), (3, 22), (3, 24), (3, 38), (0, 1), (3, 52), (3, 55), (3, 64), (3, 67)] : List (Nat × Nat)).getD k (9, 0)
  | 9 => ([(2, 1), (0, 0), (0, 0), (0, 0), (0, 0), (0, 0), (2, 2), (2, 3), (2, 4), (2, 5), (2, 6), (2, 7), (2, 8), (2, 9), (2, 10), (2, 11), (2, 12), (0, 0), (0, 0), (0, 0), (0, 0), (0, 0), (0, 0), (0, 0), (0, 0), (0, 0), (0, 0), (0, 0), (0, 0), (0, 0), (2, 13), (2, 14), (2, 15), (2, 16), (2, 17), (2, 18), (2, 19), (2, 20), (2, 21), (2, 22), (2, 23), (2, 24), (2, 25), (2, 26), (0, 0), (2, 27), (2, 28), (2, 29), (2, 30), (2, 31), (2, 32), (2, 33), (2, 34), (2, 35), (2, 36), (0, 0), (0, 0), (0, 0), (2, 37), (2, 38), (2, 39), (2, 40), (2, 41), (0, 0), (0, 0), (2, 42), (2, 43), (0, 1), (2, 44), (2, 45), (0, 0)] : List (Nat × Nat)).getD k (9, 0)
  | _ => (9, 0)
abbrev z_I : Type := Instr × Nat × List Nat
abbrev z_B : Type := List (Nat × List Bool × List z_I)
section
/-- SlipRoom$Law.holds -/
noncomputable def z_b0 : z_B := [
  (0, [true, true, true, true, false], [(.aload_n 0, 1, []), (.iconst 0, 1, []), (.putfield 18, 3, [0, 2, 0, 0, 0, 329]), (.iconst 0, 1, []), (.iload_n 2, 1, []), (.invokestatic 22, 3, [187, 2, 0, 0, 1, 879]), (.istore 4, 2, [])]),
  (12, [true, true, false, true, true], [(.iload 4, 2, []), (.iload_n 3, 1, []), (.if_icmp .ge 24, 3, []), (.iload 4, 2, []), (.aload_n 1, 1, []), (.arraylength, 1, []), (.if_icmp .ge 17, 3, []), (.aload_n 0, 1, []), (.aload_n 1, 1, []), (.iload 4, 2, []), (.iaload, 1, []), (.invokevirtual 28, 3, [1, 2, 2, 0, 0, 880]), (.iinc 4 1, 3, []), (.goto (-24), 3, [])]),
  (39, [true, false, false, false, false], [(.aload_n 0, 1, []), (.invokevirtual 32, 3, [4, 1, 2, 0, 1, 884]), (.ifCond .eq 7, 3, []), (.iconst 1, 1, []), (.goto 4, 3, [])]),
  (50, [false, false, false, false, false], [(.iconst 0, 1, [])]),
  (51, [false, false, false, false, false], [(.ireturn, 1, [])])]
/-- SlipRoom$Law.obey -/
noncomputable def z_b1 : z_B := [
  (0, [true, true, false, false], [(.iload_n 1, 1, []), (.bipush (-33), 2, []), (.if_icmp .ne 22, 3, []), (.aload_n 0, 1, []), (.aload_n 0, 1, []), (.invokevirtual 32, 3, [4, 1, 2, 0, 1, 884]), (.ifCond .ne 7, 3, []), (.iconst 1, 1, []), (.goto 4, 3, [])]),
  (18, [false, false, false, false], [(.iconst 0, 1, [])]),
  (19, [false, false, false, false], [(.invokevirtual 36, 3, [3, 2, 2, 0, 0, 888]), (.goto 70, 3, [])]),
  (25, [true, true, false, false], [(.iload_n 1, 1, []), (.ifCond .ge 27, 3, []), (.aload_n 0, 1, []), (.invokevirtual 32, 3, [4, 1, 2, 0, 1, 884]), (.istore_n 2, 1, []), (.aload_n 0, 1, []), (.invokevirtual 32, 3, [4, 1, 2, 0, 1, 884]), (.istore_n 3, 1, []), (.aload_n 0, 1, []), (.iload_n 1, 1, []), (.ineg, 1, []), (.iload_n 3, 1, []), (.iload_n 2, 1, []), (.invokestatic 39, 3, [2, 3, 0, 0, 1, 892]), (.invokevirtual 36, 3, [3, 2, 2, 0, 0, 888]), (.goto 42, 3, [])]),
  (53, [true, true, false, false], [(.iload_n 1, 1, []), (.sipush 10000, 3, []), (.if_icmp .ge 11, 3, []), (.aload_n 0, 1, []), (.iload_n 1, 1, []), (.invokevirtual 36, 3, [3, 2, 2, 0, 0, 888]), (.goto 27, 3, [])]),
  (68, [true, true, false, false], [(.iload_n 1, 1, []), (.sipush 10000, 3, []), (.isub, 1, []), (.bipush 7, 2, []), (.if_icmp .ge 17, 3, []), (.aload_n 0, 1, []), (.aload_n 0, 1, []), (.getfield 9, 3, [0, 0, 2, 1, 0, 326]), (.iload_n 1, 1, []), (.sipush 10000, 3, []), (.isub, 1, []), (.iaload, 1, []), (.invokevirtual 36, 3, [3, 2, 2, 0, 0, 888])]),
  (92, [false, false, false, false], [(.return_, 1, [])])]
/-- SlipRoom$Law.apply -/
noncomputable def z_b2 : z_B := [
  (0, [true, true, true], [(.iload_n 0, 1, []), (.lookupswitch 129 #[(38, 81), (42, 125), (43, 117), (45, 121), (60, 95), (61, 106), (124, 67)], 67, [])]),
  (68, [false, true, true], [(.iload_n 1, 1, []), (.ifCond .ne 7, 3, []), (.iload_n 2, 1, []), (.ifCond .eq 7, 3, [])]),
  (76, [false, false, false], [(.iconst 1, 1, []), (.goto 4, 3, [])]),
  (80, [false, false, false], [(.iconst 0, 1, [])]),
  (81, [false, false, false], [(.ireturn, 1, [])]),
  (82, [false, true, true], [(.iload_n 1, 1, []), (.ifCond .eq 11, 3, []), (.iload_n 2, 1, []), (.ifCond .eq 7, 3, []), (.iconst 1, 1, []), (.goto 4, 3, [])]),
  (94, [false, false, false], [(.iconst 0, 1, [])]),
  (95, [false, false, false], [(.ireturn, 1, [])]),
  (96, [false, true, true], [(.iload_n 1, 1, []), (.iload_n 2, 1, []), (.if_icmp .ge 7, 3, []), (.iconst 1, 1, []), (.goto 4, 3, [])]),
  (105, [false, false, false], [(.iconst 0, 1, [])]),
  (106, [false, false, false], [(.ireturn, 1, [])]),
  (107, [false, true, true], [(.iload_n 1, 1, []), (.iload_n 2, 1, []), (.if_icmp .ne 7, 3, []), (.iconst 1, 1, []), (.goto 4, 3, [])]),
  (116, [false, false, false], [(.iconst 0, 1, [])]),
  (117, [false, false, false], [(.ireturn, 1, [])]),
  (118, [false, true, true], [(.iload_n 1, 1, []), (.iload_n 2, 1, []), (.iadd, 1, []), (.ireturn, 1, [])]),
  (122, [false, true, true], [(.iload_n 1, 1, []), (.iload_n 2, 1, []), (.isub, 1, []), (.ireturn, 1, [])]),
  (126, [false, true, true], [(.iload_n 1, 1, []), (.iload_n 2, 1, []), (.imul, 1, []), (.ireturn, 1, [])]),
  (130, [false, true, true], [(.iload_n 2, 1, []), (.ifCond .ne 7, 3, []), (.iconst 0, 1, []), (.goto 6, 3, [])]),
  (138, [false, true, true], [(.iload_n 1, 1, []), (.iload_n 2, 1, []), (.idiv, 1, [])]),
  (141, [false, false, false], [(.ireturn, 1, [])])]
/-- SlipRoom$Law.push -/
noncomputable def z_b3 : z_B := [
  (0, [true, true], [(.aload_n 0, 1, []), (.getfield 18, 3, [0, 2, 0, 0, 0, 329]), (.aload_n 0, 1, []), (.getfield 15, 3, [0, 1, 2, 2, 0, 328]), (.arraylength, 1, []), (.if_icmp .ge 23, 3, []), (.aload_n 0, 1, []), (.getfield 15, 3, [0, 1, 2, 2, 0, 328]), (.aload_n 0, 1, []), (.getfield 18, 3, [0, 2, 0, 0, 0, 329]), (.iload_n 1, 1, []), (.iastore, 1, []), (.aload_n 0, 1, []), (.dup, 1, []), (.getfield 18, 3, [0, 2, 0, 0, 0, 329]), (.iconst 1, 1, []), (.iadd, 1, []), (.putfield 18, 3, [0, 2, 0, 0, 0, 329])]),
  (32, [false, false], [(.return_, 1, [])])]
/-- SlipRoom$Law.pop -/
noncomputable def z_b4 : z_B := [
  (0, [true], [(.aload_n 0, 1, []), (.getfield 18, 3, [0, 2, 0, 0, 0, 329]), (.iconst 1, 1, []), (.if_icmp .ge 5, 3, []), (.iconst 0, 1, []), (.ireturn, 1, [])]),
  (10, [true], [(.aload_n 0, 1, []), (.dup, 1, []), (.getfield 18, 3, [0, 2, 0, 0, 0, 329]), (.iconst 1, 1, []), (.isub, 1, []), (.putfield 18, 3, [0, 2, 0, 0, 0, 329]), (.aload_n 0, 1, []), (.getfield 15, 3, [0, 1, 2, 2, 0, 328]), (.aload_n 0, 1, []), (.getfield 18, 3, [0, 2, 0, 0, 0, 329]), (.iaload, 1, []), (.ireturn, 1, [])])]
/-- SlipRoom$Ledger.clear -/
noncomputable def z_b5 : z_B := [
  (0, [true], [(.aload_n 0, 1, []), (.iconst 0, 1, []), (.putfield 9, 3, [1, 0, 0, 0, 0, 248]), (.aload_n 0, 1, []), (.iconst 0, 1, []), (.putfield 19, 3, [1, 2, 0, 0, 0, 254]), (.aload_n 0, 1, []), (.iconst 0, 1, []), (.putfield 44, 3, [1, 10, 0, 0, 0, 269]), (.aload_n 0, 1, []), (.iconst 0, 1, []), (.putfield 50, 3, [1, 12, 0, 0, 0, 273]), (.aload_n 0, 1, []), (.getfield 22, 3, [1, 3, 2, 2, 0, 256]), (.iconst 0, 1, []), (.invokestatic 65, 3, [190, 2, 0, 0, 0, 752]), (.aload_n 0, 1, []), (.getfield 25, 3, [1, 4, 2, 3, 0, 258]), (.iconst 0, 1, []), (.invokestatic 65, 3, [190, 2, 0, 0, 0, 752]), (.aload_n 0, 1, []), (.getfield 28, 3, [1, 5, 2, 4, 0, 260]), (.iconst 0, 1, []), (.invokestatic 65, 3, [190, 2, 0, 0, 0, 752]), (.aload_n 0, 1, []), (.getfield 31, 3, [1, 6, 2, 5, 0, 262]), (.iconst 0, 1, []), (.invokestatic 65, 3, [190, 2, 0, 0, 0, 752]), (.aload_n 0, 1, []), (.getfield 34, 3, [1, 7, 2, 6, 0, 264]), (.iconst 0, 1, []), (.invokestatic 65, 3, [190, 2, 0, 0, 0, 752]), (.aload_n 0, 1, []), (.getfield 37, 3, [1, 8, 2, 7, 0, 266]), (.iconst (-1), 1, []), (.invokestatic 65, 3, [190, 2, 0, 0, 0, 752]), (.aload_n 0, 1, []), (.getfield 40, 3, [1, 9, 2, 8, 0, 268]), (.lconst 0, 1, []), (.invokestatic 71, 3, [189, 2, 0, 0, 0, 755]), (.aload_n 0, 1, []), (.getfield 59, 3, [1, 15, 2, 12, 0, 280]), (.iconst 0, 1, []), (.invokestatic 65, 3, [190, 2, 0, 0, 0, 752]), (.return_, 1, [])])]
/-- SlipRoom$Ledger.copy -/
noncomputable def z_b6 : z_B := [
  (0, [true, true], [(.aload_n 0, 1, []), (.aload_n 1, 1, []), (.getfield 9, 3, [1, 0, 0, 0, 0, 248]), (.putfield 9, 3, [1, 0, 0, 0, 0, 248]), (.aload_n 0, 1, []), (.aload_n 1, 1, []), (.getfield 19, 3, [1, 2, 0, 0, 0, 254]), (.putfield 19, 3, [1, 2, 0, 0, 0, 254]), (.aload_n 0, 1, []), (.aload_n 1, 1, []), (.getfield 44, 3, [1, 10, 0, 0, 0, 269]), (.putfield 44, 3, [1, 10, 0, 0, 0, 269]), (.aload_n 0, 1, []), (.aload_n 1, 1, []), (.getfield 50, 3, [1, 12, 0, 0, 0, 273]), (.putfield 50, 3, [1, 12, 0, 0, 0, 273]), (.aload_n 1, 1, []), (.getfield 15, 3, [1, 1, 2, 1, 0, 251]), (.iconst 0, 1, []), (.aload_n 0, 1, []), (.getfield 15, 3, [1, 1, 2, 1, 0, 251]), (.iconst 0, 1, []), (.aload_n 0, 1, []), (.getfield 9, 3, [1, 0, 0, 0, 0, 248]), (.bipush 6, 2, []), (.imul, 1, []), (.invokestatic 74, 3, [0, 5, 6, 0, 0, 490]), (.aload_n 1, 1, []), (.getfield 22, 3, [1, 3, 2, 2, 0, 256]), (.iconst 0, 1, []), (.aload_n 0, 1, []), (.getfield 22, 3, [1, 3, 2, 2, 0, 256]), (.iconst 0, 1, []), (.bipush 10, 2, []), (.invokestatic 74, 3, [0, 5, 6, 0, 0, 490]), (.aload_n 1, 1, []), (.getfield 25, 3, [1, 4, 2, 3, 0, 258]), (.iconst 0, 1, []), (.aload_n 0, 1, []), (.getfield 25, 3, [1, 4, 2, 3, 0, 258]), (.iconst 0, 1, []), (.bipush 8, 2, []), (.invokestatic 74, 3, [0, 5, 6, 0, 0, 490]), (.aload_n 1, 1, []), (.getfield 28, 3, [1, 5, 2, 4, 0, 260]), (.iconst 0, 1, []), (.aload_n 0, 1, []), (.getfield 28, 3, [1, 5, 2, 4, 0, 260]), (.iconst 0, 1, []), (.bipush 80, 2, []), (.invokestatic 74, 3, [0, 5, 6, 0, 0, 490]), (.aload_n 1, 1, []), (.getfield 31, 3, [1, 6, 2, 5, 0, 262]), (.iconst 0, 1, []), (.aload_n 0, 1, []), (.getfield 31, 3, [1, 6, 2, 5, 0, 262]), (.iconst 0, 1, []), (.bipush 80, 2, []), (.invokestatic 74, 3, [0, 5, 6, 0, 0, 490]), (.aload_n 1, 1, []), (.getfield 34, 3, [1, 7, 2, 6, 0, 264]), (.iconst 0, 1, []), (.aload_n 0, 1, []), (.getfield 34, 3, [1, 7, 2, 6, 0, 264]), (.iconst 0, 1, []), (.bipush 80, 2, []), (.invokestatic 74, 3, [0, 5, 6, 0, 0, 490]), (.aload_n 1, 1, []), (.getfield 37, 3, [1, 8, 2, 7, 0, 266]), (.iconst 0, 1, []), (.aload_n 0, 1, []), (.getfield 37, 3, [1, 8, 2, 7, 0, 266]), (.iconst 0, 1, []), (.bipush 80, 2, []), (.invokestatic 74, 3, [0, 5, 6, 0, 0, 490]), (.aload_n 1, 1, []), (.getfield 40, 3, [1, 9, 2, 8, 0, 268]), (.iconst 0, 1, []), (.aload_n 0, 1, []), (.getfield 40, 3, [1, 9, 2, 8, 0, 268]), (.iconst 0, 1, []), (.sipush 560, 3, []), (.invokestatic 74, 3, [0, 5, 6, 0, 0, 490]), (.aload_n 1, 1, []), (.getfield 47, 3, [1, 11, 2, 9, 0, 272]), (.iconst 0, 1, []), (.aload_n 0, 1, []), (.getfield 47, 3, [1, 11, 2, 9, 0, 272]), (.iconst 0, 1, []), (.aload_n 0, 1, []), (.getfield 44, 3, [1, 10, 0, 0, 0, 269]), (.iconst 4, 1, []), (.imul, 1, []), (.invokestatic 74, 3, [0, 5, 6, 0, 0, 490]), (.aload_n 1, 1, []), (.getfield 53, 3, [1, 13, 2, 10, 0, 276]), (.iconst 0, 1, []), (.aload_n 0, 1, []), (.getfield 53, 3, [1, 13, 2, 10, 0, 276]), (.iconst 0, 1, []), (.bipush 7, 2, []), (.invokestatic 74, 3, [0, 5, 6, 0, 0, 490]), (.aload_n 1, 1, []), (.getfield 56, 3, [1, 14, 2, 11, 0, 278]), (.iconst 0, 1, []), (.aload_n 0, 1, []), (.getfield 56, 3, [1, 14, 2, 11, 0, 278]), (.iconst 0, 1, []), (.bipush 7, 2, []), (.invokestatic 74, 3, [0, 5, 6, 0, 0, 490]), (.aload_n 1, 1, []), (.getfield 59, 3, [1, 15, 2, 12, 0, 280]), (.iconst 0, 1, []), (.aload_n 0, 1, []), (.getfield 59, 3, [1, 15, 2, 12, 0, 280]), (.iconst 0, 1, []), (.bipush 60, 2, []), (.invokestatic 74, 3, [0, 5, 6, 0, 0, 490]), (.aload_n 1, 1, []), (.getfield 62, 3, [1, 16, 2, 13, 0, 282]), (.iconst 0, 1, []), (.aload_n 0, 1, []), (.getfield 62, 3, [1, 16, 2, 13, 0, 282]), (.iconst 0, 1, []), (.iconst 5, 1, []), (.invokestatic 74, 3, [0, 5, 6, 0, 0, 490]), (.return_, 1, [])])]
/-- SlipRoom$Ledger.isRead -/
noncomputable def z_b7 : z_B := [
  (0, [true, true, true], [(.aload_n 0, 1, []), (.getfield 40, 3, [1, 9, 2, 8, 0, 268]), (.iload_n 1, 1, []), (.bipush 7, 2, []), (.imul, 1, []), (.iload_n 2, 1, []), (.iconst 1, 1, []), (.isub, 1, []), (.bipush 64, 2, []), (.idiv, 1, []), (.iadd, 1, []), (.laload, 1, []), (.iload_n 2, 1, []), (.iconst 1, 1, []), (.isub, 1, []), (.bipush 64, 2, []), (.irem, 1, []), (.lushr, 1, []), (.lconst 1, 1, []), (.land, 1, []), (.lconst 1, 1, []), (.lcmp, 1, []), (.ifCond .ne 7, 3, []), (.iconst 1, 1, []), (.goto 4, 3, [])]),
  (34, [false, false, false], [(.iconst 0, 1, [])]),
  (35, [false, false, false], [(.ireturn, 1, [])])]
/-- SlipRoom$Ledger.mark -/
noncomputable def z_b8 : z_B := [
  (0, [true, true, true, true, true], [(.aload_n 0, 1, []), (.iload_n 1, 1, []), (.iload_n 2, 1, []), (.invokevirtual 80, 3, [7, 3, 2, 1, 1, 859]), (.ifCond .eq 4, 3, []), (.return_, 1, [])]),
  (10, [true, true, true, true, true], [(.aload_n 0, 1, []), (.getfield 40, 3, [1, 9, 2, 8, 0, 268]), (.iload_n 1, 1, []), (.bipush 7, 2, []), (.imul, 1, []), (.iload_n 2, 1, []), (.iconst 1, 1, []), (.isub, 1, []), (.bipush 64, 2, []), (.idiv, 1, []), (.iadd, 1, []), (.dup2, 1, []), (.laload, 1, []), (.lconst 1, 1, []), (.iload_n 2, 1, []), (.iconst 1, 1, []), (.isub, 1, []), (.bipush 64, 2, []), (.irem, 1, []), (.lshl, 1, []), (.lor, 1, []), (.lastore, 1, []), (.aload_n 0, 1, []), (.getfield 34, 3, [1, 7, 2, 6, 0, 264]), (.iload_n 1, 1, []), (.dup2, 1, []), (.iaload, 1, []), (.iconst 1, 1, []), (.iadd, 1, []), (.iastore, 1, []), (.aload_n 0, 1, []), (.getfield 34, 3, [1, 7, 2, 6, 0, 264]), (.iload_n 1, 1, []), (.iaload, 1, []), (.iload_n 3, 1, []), (.if_icmp .ne 11, 3, []), (.aload_n 0, 1, []), (.getfield 37, 3, [1, 8, 2, 7, 0, 266]), (.iload_n 1, 1, []), (.iload 4, 2, []), (.iastore, 1, [])]),
  (65, [false, false, false, false, false], [(.return_, 1, [])])]
/-- SlipRoom$Ledger.openedPages -/
noncomputable def z_b9 : z_B := [
  (0, [true, true, false, false, false, false, false], [(.iconst 0, 1, []), (.istore_n 2, 1, []), (.iconst 0, 1, []), (.istore_n 3, 1, [])]),
  (4, [true, true, true, true, false, false, false], [(.iload_n 3, 1, []), (.bipush 7, 2, []), (.if_icmp .ge 57, 3, []), (.lconst 0, 1, []), (.lstore 4, 2, []), (.iconst 0, 1, []), (.istore 6, 2, [])]),
  (16, [true, true, true, true, true, false, true], [(.iload 6, 2, []), (.bipush 8, 2, []), (.if_icmp .ge 30, 3, []), (.lload 4, 2, []), (.aload_n 0, 1, []), (.getfield 40, 3, [1, 9, 2, 8, 0, 268]), (.iload 6, 2, []), (.iload_n 1, 1, []), (.invokestatic 84, 3, [103, 2, 1, 0, 1, 806]), (.bipush 7, 2, []), (.imul, 1, []), (.iload_n 3, 1, []), (.iadd, 1, []), (.laload, 1, []), (.lor, 1, []), (.lstore 4, 2, []), (.iinc 6 1, 3, []), (.goto (-31), 3, [])]),
  (50, [true, true, true, true, true, false, false], [(.iload_n 2, 1, []), (.lload 4, 2, []), (.invokestatic 88, 3, [186, 1, 0, 0, 1, 809]), (.iadd, 1, []), (.istore_n 2, 1, []), (.iinc 3 1, 3, []), (.goto (-57), 3, [])]),
  (64, [false, false, true, false, false, false, false], [(.iload_n 2, 1, []), (.ireturn, 1, [])])]
/-- SlipRoom$Ledger.pagesInARow -/
noncomputable def z_b10 : z_B := [
  (0, [true, true, true, false], [(.iconst 1, 1, []), (.istore_n 3, 1, [])]),
  (2, [true, true, true, true], [(.iload_n 3, 1, []), (.iload_n 2, 1, []), (.if_icmp .gt 18, 3, []), (.aload_n 0, 1, []), (.iload_n 1, 1, []), (.iload_n 3, 1, []), (.invokevirtual 80, 3, [7, 3, 2, 1, 1, 859]), (.ifCond .eq 9, 3, []), (.iinc 3 1, 3, []), (.goto (-17), 3, [])]),
  (22, [false, false, false, true], [(.iload_n 3, 1, []), (.iconst 1, 1, []), (.isub, 1, []), (.ireturn, 1, [])])]
/-- SlipRoom$Ledger.onlyTheEnds -/
noncomputable def z_b11 : z_B := [
  (0, [true, true, true], [(.aload_n 0, 1, []), (.iload_n 1, 1, []), (.iload_n 2, 1, []), (.invokevirtual 80, 3, [7, 3, 2, 1, 1, 859]), (.ifCond .eq 20, 3, []), (.bipush 10, 2, []), (.aload_n 0, 1, []), (.getfield 34, 3, [1, 7, 2, 6, 0, 264]), (.iload_n 1, 1, []), (.iaload, 1, []), (.imul, 1, []), (.iload_n 2, 1, []), (.if_icmp .ge 7, 3, []), (.iconst 1, 1, []), (.goto 4, 3, [])]),
  (26, [false, false, false], [(.iconst 0, 1, [])]),
  (27, [false, false, false], [(.ireturn, 1, [])])]
/-- SlipRoom$Ledger.enterLoan -/
noncomputable def z_b12 : z_B := [
  (0, [true, true, true, true, true, true, true, false], [(.aload_n 0, 1, []), (.getfield 9, 3, [1, 0, 0, 0, 0, 248]), (.bipush 6, 2, []), (.imul, 1, []), (.istore 7, 2, []), (.aload_n 0, 1, []), (.getfield 15, 3, [1, 1, 2, 1, 0, 251]), (.iload 7, 2, []), (.iload_n 1, 1, []), (.iastore, 1, []), (.aload_n 0, 1, []), (.getfield 15, 3, [1, 1, 2, 1, 0, 251]), (.iload 7, 2, []), (.iconst 1, 1, []), (.iadd, 1, []), (.iload_n 2, 1, []), (.iastore, 1, []), (.aload_n 0, 1, []), (.getfield 15, 3, [1, 1, 2, 1, 0, 251]), (.iload 7, 2, []), (.iconst 2, 1, []), (.iadd, 1, []), (.iload_n 3, 1, []), (.iastore, 1, []), (.aload_n 0, 1, []), (.getfield 15, 3, [1, 1, 2, 1, 0, 251]), (.iload 7, 2, []), (.iconst 3, 1, []), (.iadd, 1, []), (.iload 4, 2, []), (.iastore, 1, []), (.aload_n 0, 1, []), (.getfield 15, 3, [1, 1, 2, 1, 0, 251]), (.iload 7, 2, []), (.iconst 4, 1, []), (.iadd, 1, []), (.iload 5, 2, []), (.iastore, 1, []), (.aload_n 0, 1, []), (.getfield 15, 3, [1, 1, 2, 1, 0, 251]), (.iload 7, 2, []), (.iconst 5, 1, []), (.iadd, 1, []), (.iload 6, 2, []), (.iastore, 1, []), (.aload_n 0, 1, []), (.dup, 1, []), (.getfield 9, 3, [1, 0, 0, 0, 0, 248]), (.iconst 1, 1, []), (.iadd, 1, []), (.putfield 9, 3, [1, 0, 0, 0, 0, 248]), (.aload_n 0, 1, []), (.iload_n 3, 1, []), (.putfield 19, 3, [1, 2, 0, 0, 0, 254]), (.aload_n 0, 1, []), (.getfield 22, 3, [1, 3, 2, 2, 0, 256]), (.iload_n 2, 1, []), (.iload_n 3, 1, []), (.iload 4, 2, []), (.iadd, 1, []), (.iastore, 1, []), (.aload_n 0, 1, []), (.getfield 25, 3, [1, 4, 2, 3, 0, 258]), (.iload_n 1, 1, []), (.iload_n 3, 1, []), (.iload 4, 2, []), (.iadd, 1, []), (.iastore, 1, []), (.return_, 1, [])])]
/-- SlipRoom$Ledger.slipsIn -/
noncomputable def z_b13 : z_B := [
  (0, [true, true, false, false], [(.iconst 0, 1, []), (.istore_n 2, 1, []), (.iconst 0, 1, []), (.istore_n 3, 1, [])]),
  (4, [true, true, true, true], [(.iload_n 3, 1, []), (.bipush 8, 2, []), (.if_icmp .ge 25, 3, []), (.aload_n 0, 1, []), (.getfield 28, 3, [1, 5, 2, 4, 0, 260]), (.iload_n 3, 1, []), (.iload_n 1, 1, []), (.invokestatic 84, 3, [103, 2, 1, 0, 1, 806]), (.iaload, 1, []), (.ifCond .le 6, 3, []), (.iinc 2 1, 3, [])]),
  (26, [true, true, true, true], [(.iinc 3 1, 3, []), (.goto (-25), 3, [])]),
  (32, [false, false, true, false], [(.iload_n 2, 1, []), (.ireturn, 1, [])])]
/-- SlipRoom$Ledger.moveSlips -/
noncomputable def z_b14 : z_B := [
  (0, [true, true, true, true, false, false, false, false], [(.iconst 0, 1, []), (.istore 4, 2, []), (.iconst 0, 1, []), (.istore 5, 2, [])]),
  (6, [true, true, true, true, true, true, false, false], [(.iload 5, 2, []), (.bipush 8, 2, []), (.if_icmp .ge 87, 3, []), (.iload 5, 2, []), (.iload_n 1, 1, []), (.invokestatic 84, 3, [103, 2, 1, 0, 1, 806]), (.istore 6, 2, []), (.aload_n 0, 1, []), (.getfield 28, 3, [1, 5, 2, 4, 0, 260]), (.iload 6, 2, []), (.iaload, 1, []), (.iload_n 2, 1, []), (.iadd, 1, []), (.istore 7, 2, []), (.aload_n 0, 1, []), (.getfield 28, 3, [1, 5, 2, 4, 0, 260]), (.iload 6, 2, []), (.iaload, 1, []), (.ifCond .le 33, 3, []), (.iload_n 2, 1, []), (.ifCond .eq 15, 3, []), (.iload 7, 2, []), (.iconst 1, 1, []), (.if_icmp .lt 9, 3, []), (.iload 7, 2, []), (.iload_n 3, 1, []), (.if_icmp .le 17, 3, [])]),
  (58, [true, true, true, true, true, true, true, false], [(.aload_n 0, 1, []), (.getfield 28, 3, [1, 5, 2, 4, 0, 260]), (.iload 6, 2, []), (.iconst (-1), 1, []), (.iastore, 1, []), (.iinc 4 1, 3, []), (.goto 22, 3, [])]),
  (72, [true, true, true, true, true, true, true, true], [(.aload_n 0, 1, []), (.getfield 28, 3, [1, 5, 2, 4, 0, 260]), (.iload 6, 2, []), (.iaload, 1, []), (.ifCond .le 12, 3, []), (.aload_n 0, 1, []), (.getfield 28, 3, [1, 5, 2, 4, 0, 260]), (.iload 6, 2, []), (.iload 7, 2, []), (.iastore, 1, [])]),
  (91, [true, true, true, true, true, true, false, false], [(.iinc 5 1, 3, []), (.goto (-88), 3, [])]),
  (97, [false, false, false, false, true, false, false, false], [(.iload 4, 2, []), (.ireturn, 1, [])])]
/-- SlipRoom$Ledger.enterLook -/
noncomputable def z_b15 : z_B := [
  (0, [true, true, true, true, true, false], [(.aload_n 0, 1, []), (.getfield 44, 3, [1, 10, 0, 0, 0, 269]), (.iconst 4, 1, []), (.imul, 1, []), (.istore 5, 2, []), (.aload_n 0, 1, []), (.getfield 47, 3, [1, 11, 2, 9, 0, 272]), (.iload 5, 2, []), (.iload_n 1, 1, []), (.iastore, 1, []), (.aload_n 0, 1, []), (.getfield 47, 3, [1, 11, 2, 9, 0, 272]), (.iload 5, 2, []), (.iconst 1, 1, []), (.iadd, 1, []), (.iload_n 2, 1, []), (.iastore, 1, []), (.aload_n 0, 1, []), (.getfield 47, 3, [1, 11, 2, 9, 0, 272]), (.iload 5, 2, []), (.iconst 2, 1, []), (.iadd, 1, []), (.iload_n 3, 1, []), (.iastore, 1, []), (.aload_n 0, 1, []), (.getfield 47, 3, [1, 11, 2, 9, 0, 272]), (.iload 5, 2, []), (.iconst 3, 1, []), (.iadd, 1, []), (.iload 4, 2, []), (.iastore, 1, []), (.aload_n 0, 1, []), (.dup, 1, []), (.getfield 44, 3, [1, 10, 0, 0, 0, 269]), (.iconst 1, 1, []), (.iadd, 1, []), (.putfield 44, 3, [1, 10, 0, 0, 0, 269]), (.aload_n 0, 1, []), (.getfield 44, 3, [1, 10, 0, 0, 0, 269]), (.iconst 1, 1, []), (.isub, 1, []), (.ireturn, 1, [])])]
/-- SlipRoom$Ledger.looksIn -/
noncomputable def z_b16 : z_B := [
  (0, [true, true, false, false], [(.iconst 0, 1, []), (.istore_n 2, 1, []), (.iconst 0, 1, []), (.istore_n 3, 1, [])]),
  (4, [true, true, true, true], [(.iload_n 3, 1, []), (.aload_n 0, 1, []), (.getfield 44, 3, [1, 10, 0, 0, 0, 269]), (.if_icmp .ge 21, 3, []), (.aload_n 0, 1, []), (.iload_n 3, 1, []), (.invokevirtual 94, 3, [17, 2, 2, 1, 1, 969]), (.iload_n 1, 1, []), (.if_icmp .ne 6, 3, []), (.iinc 2 1, 3, [])]),
  (24, [true, true, true, true], [(.iinc 3 1, 3, []), (.goto (-23), 3, [])]),
  (30, [false, false, true, false], [(.iload_n 2, 1, []), (.ireturn, 1, [])])]
/-- SlipRoom$Ledger.lookBook -/
noncomputable def z_b17 : z_B := [
  (0, [true, true], [(.aload_n 0, 1, []), (.getfield 47, 3, [1, 11, 2, 9, 0, 272]), (.iload_n 1, 1, []), (.iconst 4, 1, []), (.imul, 1, []), (.iaload, 1, []), (.ireturn, 1, [])])]
/-- SlipRoom$Ledger.lookHour -/
noncomputable def z_b18 : z_B := [
  (0, [true, true], [(.aload_n 0, 1, []), (.getfield 47, 3, [1, 11, 2, 9, 0, 272]), (.iload_n 1, 1, []), (.iconst 4, 1, []), (.imul, 1, []), (.iconst 1, 1, []), (.iadd, 1, []), (.iaload, 1, []), (.ireturn, 1, [])])]
/-- SlipRoom$Ledger.lookColour -/
noncomputable def z_b19 : z_B := [
  (0, [true, true], [(.aload_n 0, 1, []), (.getfield 47, 3, [1, 11, 2, 9, 0, 272]), (.iload_n 1, 1, []), (.iconst 4, 1, []), (.imul, 1, []), (.iconst 2, 1, []), (.iadd, 1, []), (.iaload, 1, []), (.ireturn, 1, [])])]
/-- SlipRoom$Ledger.lookPage -/
noncomputable def z_b20 : z_B := [
  (0, [true, true], [(.aload_n 0, 1, []), (.getfield 47, 3, [1, 11, 2, 9, 0, 272]), (.iload_n 1, 1, []), (.iconst 4, 1, []), (.imul, 1, []), (.iconst 3, 1, []), (.iadd, 1, []), (.iaload, 1, []), (.ireturn, 1, [])])]
/-- SlipRoom$Ledger.enterWish -/
noncomputable def z_b21 : z_B := [
  (0, [true, true, true], [(.aload_n 0, 1, []), (.getfield 53, 3, [1, 13, 2, 10, 0, 276]), (.aload_n 0, 1, []), (.getfield 50, 3, [1, 12, 0, 0, 0, 273]), (.iload_n 1, 1, []), (.iastore, 1, []), (.aload_n 0, 1, []), (.getfield 56, 3, [1, 14, 2, 11, 0, 278]), (.aload_n 0, 1, []), (.getfield 50, 3, [1, 12, 0, 0, 0, 273]), (.iload_n 2, 1, []), (.iastore, 1, []), (.aload_n 0, 1, []), (.dup, 1, []), (.getfield 50, 3, [1, 12, 0, 0, 0, 273]), (.iconst 1, 1, []), (.iadd, 1, []), (.putfield 50, 3, [1, 12, 0, 0, 0, 273]), (.aload_n 0, 1, []), (.getfield 50, 3, [1, 12, 0, 0, 0, 273]), (.ireturn, 1, [])])]
/-- SlipRoom$Parser.parse -/
noncomputable def z_b22 : z_B := [
  (0, [true, true, true, false], [(.aload_n 0, 1, []), (.aload_n 2, 1, []), (.putfield 27, 3, [2, 1, 1, 0, 0, 230]), (.aload_n 0, 1, []), (.getfield 27, 3, [2, 1, 1, 0, 0, 230]), (.invokevirtual 31, 3, [35, 1, 2, 3, 0, 573]), (.aload_n 0, 1, []), (.iconst 0, 1, []), (.putfield 9, 3, [2, 2, 0, 0, 0, 231]), (.aload_n 0, 1, []), (.iconst (-1), 1, []), (.putfield 15, 3, [2, 3, 0, 0, 0, 232]), (.aload_n 0, 1, []), (.getfield 23, 3, [2, 0, 3, 23, 0, 229]), (.iload_n 1, 1, []), (.invokevirtual 36, 3, [59, 2, 2, 6, 0, 577]), (.iconst 0, 1, []), (.istore_n 3, 1, [])]),
  (32, [true, true, false, true], [(.iload_n 3, 1, []), (.iload_n 1, 1, []), (.if_icmp .ge 64, 3, []), (.aload_n 0, 1, []), (.getfield 23, 3, [2, 0, 3, 23, 0, 229]), (.getfield 40, 3, [6, 3, 0, 0, 1, 207]), (.ifCond .eq 54, 3, []), (.aload_n 0, 1, []), (.getfield 23, 3, [2, 0, 3, 23, 0, 229]), (.getfield 43, 3, [6, 6, 1, 0, 1, 213]), (.getstatic 47, 3, [1001, 0, 663]), (.if_acmp .ne 10, 3, []), (.aload_n 0, 1, []), (.invokevirtual 52, 3, [25, 1, 2, 2, 0, 665]), (.goto 28, 3, [])]),
  (67, [true, true, false, true], [(.aload_n 0, 1, []), (.getfield 23, 3, [2, 0, 3, 23, 0, 229]), (.getfield 43, 3, [6, 6, 1, 0, 1, 213]), (.getstatic 55, 3, [1003, 0, 692]), (.if_acmp .ne 10, 3, []), (.aload_n 0, 1, []), (.invokevirtual 58, 3, [26, 1, 2, 2, 0, 694]), (.goto 8, 3, [])]),
  (87, [true, true, false, true], [(.aload_n 0, 1, []), (.iconst 1, 1, []), (.invokevirtual 61, 3, [24, 2, 2, 2, 0, 669])]),
  (92, [true, true, false, true], [(.iinc 3 1, 3, []), (.goto (-63), 3, [])]),
  (98, [true, false, false, false], [(.aload_n 0, 1, []), (.getfield 9, 3, [2, 2, 0, 0, 0, 231]), (.ireturn, 1, [])])]
/-- SlipRoom$Parser.faultPlace -/
noncomputable def z_b23 : z_B := [
  (0, [true], [(.aload_n 0, 1, []), (.getfield 15, 3, [2, 3, 0, 0, 0, 232]), (.ireturn, 1, [])])]
/-- SlipRoom$Parser.fail -/
noncomputable def z_b24 : z_B := [
  (0, [true, true], [(.aload_n 0, 1, []), (.getfield 9, 3, [2, 2, 0, 0, 0, 231]), (.ifCond .ne 19, 3, []), (.aload_n 0, 1, []), (.iload_n 1, 1, []), (.putfield 9, 3, [2, 2, 0, 0, 0, 231]), (.aload_n 0, 1, []), (.aload_n 0, 1, []), (.getfield 23, 3, [2, 0, 3, 23, 0, 229]), (.getfield 64, 3, [6, 4, 0, 0, 1, 209]), (.putfield 15, 3, [2, 3, 0, 0, 0, 232])]),
  (23, [true, false], [(.aload_n 0, 1, []), (.getfield 23, 3, [2, 0, 3, 23, 0, 229]), (.invokevirtual 67, 3, [60, 1, 2, 6, 0, 673]), (.return_, 1, [])])]
/-- SlipRoom$Parser.bookClause -/
noncomputable def z_b25 : z_B := [
  (0, [true, false], [(.aload_n 0, 1, []), (.getfield 27, 3, [2, 1, 1, 0, 0, 230]), (.getfield 70, 3, [3, 0, 0, 0, 1, 125]), (.istore_n 1, 1, []), (.iload_n 1, 1, []), (.bipush 10, 2, []), (.if_icmp .lt 9, 3, []), (.aload_n 0, 1, []), (.iconst 2, 1, []), (.invokevirtual 61, 3, [24, 2, 2, 2, 0, 669]), (.return_, 1, [])]),
  (20, [true, true], [(.aload_n 0, 1, []), (.getfield 27, 3, [2, 1, 1, 0, 0, 230]), (.dup, 1, []), (.getfield 70, 3, [3, 0, 0, 0, 1, 125]), (.iconst 1, 1, []), (.iadd, 1, []), (.putfield 70, 3, [3, 0, 0, 0, 1, 125]), (.aload_n 0, 1, []), (.getfield 23, 3, [2, 0, 3, 23, 0, 229]), (.invokevirtual 73, 3, [61, 1, 2, 6, 0, 677]), (.aload_n 0, 1, []), (.getfield 27, 3, [2, 1, 1, 0, 0, 230]), (.getfield 76, 3, [3, 1, 2, 1, 1, 128]), (.iload_n 1, 1, []), (.aload_n 0, 1, []), (.iconst 1, 1, []), (.sipush 400, 3, []), (.invokevirtual 80, 3, [29, 3, 2, 2, 1, 678]), (.iastore, 1, []), (.aload_n 0, 1, []), (.getfield 27, 3, [2, 1, 1, 0, 0, 230]), (.getfield 84, 3, [3, 2, 2, 2, 1, 131]), (.iload_n 1, 1, []), (.aload_n 0, 1, []), (.getstatic 87, 3, [1002, 0, 682]), (.invokevirtual 90, 3, [27, 2, 2, 2, 1, 684]), (.ifCond .eq 14, 3, []), (.aload_n 0, 1, []), (.iconst 1, 1, []), (.sipush 400, 3, []), (.invokevirtual 80, 3, [29, 3, 2, 2, 1, 678]), (.goto 4, 3, [])]),
  (86, [true, false], [(.iconst 0, 1, [])]),
  (87, [true, false], [(.iastore, 1, []), (.aload_n 0, 1, []), (.bipush 59, 2, []), (.invokevirtual 94, 3, [28, 2, 2, 2, 0, 688]), (.return_, 1, [])])]
/-- SlipRoom$Parser.readerClause -/
noncomputable def z_b26 : z_B := [
  (0, [true, false], [(.aload_n 0, 1, []), (.getfield 27, 3, [2, 1, 1, 0, 0, 230]), (.getfield 97, 3, [3, 3, 0, 0, 1, 136]), (.istore_n 1, 1, []), (.iload_n 1, 1, []), (.bipush 8, 2, []), (.if_icmp .lt 9, 3, []), (.aload_n 0, 1, []), (.iconst 2, 1, []), (.invokevirtual 61, 3, [24, 2, 2, 2, 0, 669]), (.return_, 1, [])]),
  (20, [true, true], [(.aload_n 0, 1, []), (.getfield 27, 3, [2, 1, 1, 0, 0, 230]), (.dup, 1, []), (.getfield 97, 3, [3, 3, 0, 0, 1, 136]), (.iconst 1, 1, []), (.iadd, 1, []), (.putfield 97, 3, [3, 3, 0, 0, 1, 136]), (.aload_n 0, 1, []), (.getfield 23, 3, [2, 0, 3, 23, 0, 229]), (.invokevirtual 73, 3, [61, 1, 2, 6, 0, 677]), (.aload_n 0, 1, []), (.getfield 27, 3, [2, 1, 1, 0, 0, 230]), (.getfield 100, 3, [3, 4, 2, 3, 1, 138]), (.iload_n 1, 1, []), (.aload_n 0, 1, []), (.iconst 1, 1, []), (.bipush 60, 2, []), (.invokevirtual 80, 3, [29, 3, 2, 2, 1, 678]), (.iastore, 1, []), (.aload_n 0, 1, []), (.getfield 27, 3, [2, 1, 1, 0, 0, 230]), (.getfield 103, 3, [3, 5, 2, 4, 1, 142]), (.iload_n 1, 1, []), (.aload_n 0, 1, []), (.getstatic 106, 3, [1004, 0, 698]), (.invokevirtual 90, 3, [27, 2, 2, 2, 1, 684]), (.ifCond .eq 12, 3, []), (.aload_n 0, 1, []), (.iconst 0, 1, []), (.iconst 3, 1, []), (.invokevirtual 80, 3, [29, 3, 2, 2, 1, 678]), (.goto 4, 3, [])]),
  (83, [true, true], [(.iconst 0, 1, [])]),
  (84, [true, true], [(.iastore, 1, []), (.aload_n 0, 1, []), (.getfield 27, 3, [2, 1, 1, 0, 0, 230]), (.getfield 109, 3, [3, 6, 2, 5, 1, 146]), (.iload_n 1, 1, []), (.aload_n 0, 1, []), (.getstatic 112, 3, [1005, 0, 700]), (.invokevirtual 90, 3, [27, 2, 2, 2, 1, 684]), (.ifCond .eq 13, 3, []), (.aload_n 0, 1, []), (.iconst 0, 1, []), (.bipush 20, 2, []), (.invokevirtual 80, 3, [29, 3, 2, 2, 1, 678]), (.goto 4, 3, [])]),
  (113, [true, true], [(.iconst 0, 1, [])]),
  (114, [true, true], [(.iastore, 1, []), (.aload_n 0, 1, []), (.getfield 27, 3, [2, 1, 1, 0, 0, 230]), (.getfield 115, 3, [3, 7, 2, 6, 1, 150]), (.iload_n 1, 1, []), (.aload_n 0, 1, []), (.getstatic 118, 3, [1006, 0, 702]), (.invokevirtual 90, 3, [27, 2, 2, 2, 1, 684]), (.ifCond .eq 7, 3, []), (.iconst 1, 1, []), (.goto 4, 3, [])]),
  (137, [true, true], [(.iconst 0, 1, [])]),
  (138, [true, true], [(.iastore, 1, []), (.aload_n 0, 1, []), (.getfield 27, 3, [2, 1, 1, 0, 0, 230]), (.getfield 121, 3, [3, 8, 2, 7, 1, 153]), (.iload_n 1, 1, []), (.aload_n 0, 1, []), (.getfield 27, 3, [2, 1, 1, 0, 0, 230]), (.getfield 124, 3, [3, 11, 0, 0, 1, 161]), (.iastore, 1, []), (.aload_n 0, 1, []), (.getstatic 127, 3, [1007, 0, 704]), (.invokevirtual 90, 3, [27, 2, 2, 2, 1, 684]), (.ifCond .eq 9, 3, []), (.aload_n 0, 1, []), (.iconst 0, 1, []), (.iconst 0, 1, []), (.invokevirtual 130, 3, [30, 3, 2, 2, 0, 706])]),
  (171, [true, true], [(.aload_n 0, 1, []), (.getfield 27, 3, [2, 1, 1, 0, 0, 230]), (.getfield 134, 3, [3, 9, 2, 8, 1, 156]), (.iload_n 1, 1, []), (.aload_n 0, 1, []), (.getfield 27, 3, [2, 1, 1, 0, 0, 230]), (.getfield 124, 3, [3, 11, 0, 0, 1, 161]), (.iastore, 1, []), (.aload_n 0, 1, []), (.bipush 59, 2, []), (.invokevirtual 94, 3, [28, 2, 2, 2, 0, 688]), (.return_, 1, [])])]
/-- SlipRoom$Parser.passWord -/
noncomputable def z_b27 : z_B := [
  (0, [true, true, false], [(.aload_n 0, 1, []), (.getfield 23, 3, [2, 0, 3, 23, 0, 229]), (.getfield 43, 3, [6, 6, 1, 0, 1, 213]), (.aload_n 1, 1, []), (.if_acmp .ne 7, 3, []), (.iconst 1, 1, []), (.goto 4, 3, [])]),
  (15, [true, false, false], [(.iconst 0, 1, [])]),
  (16, [true, false, false], [(.istore_n 2, 1, []), (.iload_n 2, 1, []), (.ifCond .eq 10, 3, []), (.aload_n 0, 1, []), (.getfield 23, 3, [2, 0, 3, 23, 0, 229]), (.invokevirtual 73, 3, [61, 1, 2, 6, 0, 677])]),
  (28, [false, false, true], [(.iload_n 2, 1, []), (.ireturn, 1, [])])]
/-- SlipRoom$Parser.passSign -/
noncomputable def z_b28 : z_B := [
  (0, [true, true], [(.aload_n 0, 1, []), (.getfield 23, 3, [2, 0, 3, 23, 0, 229]), (.getfield 40, 3, [6, 3, 0, 0, 1, 207]), (.iload_n 1, 1, []), (.if_icmp .ne 13, 3, []), (.aload_n 0, 1, []), (.getfield 23, 3, [2, 0, 3, 23, 0, 229]), (.invokevirtual 73, 3, [61, 1, 2, 6, 0, 677]), (.goto 8, 3, [])]),
  (21, [true, false], [(.aload_n 0, 1, []), (.iconst 1, 1, []), (.invokevirtual 61, 3, [24, 2, 2, 2, 0, 669])]),
  (26, [false, false], [(.return_, 1, [])])]
/-- SlipRoom$Parser.takeNumber -/
noncomputable def z_b29 : z_B := [
  (0, [true, true, true, false], [(.aload_n 0, 1, []), (.getfield 23, 3, [2, 0, 3, 23, 0, 229]), (.getfield 137, 3, [6, 5, 0, 0, 1, 211]), (.istore_n 3, 1, []), (.aload_n 0, 1, []), (.getfield 23, 3, [2, 0, 3, 23, 0, 229]), (.getfield 40, 3, [6, 3, 0, 0, 1, 207]), (.iconst 1, 1, []), (.if_icmp .eq 11, 3, []), (.aload_n 0, 1, []), (.iconst 1, 1, []), (.invokevirtual 61, 3, [24, 2, 2, 2, 0, 669]), (.goto 28, 3, [])]),
  (27, [true, true, true, true], [(.iload_n 3, 1, []), (.iload_n 1, 1, []), (.if_icmp .lt 8, 3, []), (.iload_n 3, 1, []), (.iload_n 2, 1, []), (.if_icmp .le 11, 3, [])]),
  (37, [true, false, false, true], [(.aload_n 0, 1, []), (.iconst 2, 1, []), (.invokevirtual 61, 3, [24, 2, 2, 2, 0, 669]), (.goto 10, 3, [])]),
  (45, [true, false, false, true], [(.aload_n 0, 1, []), (.getfield 23, 3, [2, 0, 3, 23, 0, 229]), (.invokevirtual 73, 3, [61, 1, 2, 6, 0, 677])]),
  (52, [false, false, false, true], [(.iload_n 3, 1, []), (.ireturn, 1, [])])]
/-- SlipRoom$Parser.level -/
noncomputable def z_b30 : z_B := [
  (0, [true, true, true, false, false, false, false], [(.iload_n 1, 1, []), (.iconst 2, 1, []), (.if_icmp .ne 10, 3, []), (.aload_n 0, 1, []), (.invokevirtual 140, 3, [33, 1, 2, 2, 1, 710]), (.goto 4, 3, [])]),
  (12, [true, true, true, false, false, false, false], [(.iconst 0, 1, [])]),
  (13, [true, true, true, false, false, false, false], [(.istore_n 3, 1, []), (.aload_n 0, 1, []), (.iload_n 1, 1, []), (.iload_n 2, 1, []), (.invokevirtual 144, 3, [31, 3, 2, 2, 0, 716]), (.iload_n 1, 1, []), (.iconst 2, 1, []), (.if_icmp .ne 7, 3, []), (.iconst 1, 1, []), (.goto 6, 3, [])]),
  (29, [true, true, true, true, false, false, false], [(.sipush 700, 3, [])]),
  (32, [true, true, true, true, false, false, false], [(.istore 4, 2, []), (.iconst 0, 1, []), (.istore 5, 2, [])]),
  (37, [true, true, true, true, true, true, false], [(.iload 5, 2, []), (.iload 4, 2, []), (.if_icmp .ge 52, 3, []), (.aload_n 0, 1, []), (.getfield 23, 3, [2, 0, 3, 23, 0, 229]), (.invokevirtual 147, 3, [62, 1, 2, 6, 1, 732]), (.iload_n 1, 1, []), (.if_icmp .ne 41, 3, []), (.aload_n 0, 1, []), (.getfield 23, 3, [2, 0, 3, 23, 0, 229]), (.invokevirtual 150, 3, [63, 1, 2, 6, 1, 740]), (.istore 6, 2, []), (.aload_n 0, 1, []), (.getfield 23, 3, [2, 0, 3, 23, 0, 229]), (.invokevirtual 73, 3, [61, 1, 2, 6, 0, 677]), (.aload_n 0, 1, []), (.iload_n 1, 1, []), (.iload_n 2, 1, []), (.invokevirtual 144, 3, [31, 3, 2, 2, 0, 716]), (.aload_n 0, 1, []), (.getfield 27, 3, [2, 1, 1, 0, 0, 230]), (.iload 6, 2, []), (.ineg, 1, []), (.invokevirtual 153, 3, [36, 2, 2, 3, 0, 728]), (.iinc 5 1, 3, []), (.goto (-53), 3, [])]),
  (93, [true, false, false, true, false, false, false], [(.iconst 0, 1, []), (.istore 5, 2, [])]),
  (96, [true, false, false, true, false, true, false], [(.iload 5, 2, []), (.iload_n 3, 1, []), (.if_icmp .ge 18, 3, []), (.aload_n 0, 1, []), (.getfield 27, 3, [2, 1, 1, 0, 0, 230]), (.bipush (-33), 2, []), (.invokevirtual 153, 3, [36, 2, 2, 3, 0, 728]), (.iinc 5 1, 3, []), (.goto (-18), 3, [])]),
  (117, [false, false, false, false, false, false, false], [(.return_, 1, [])])]
/-- SlipRoom$Parser.operand -/
noncomputable def z_b31 : z_B := [
  (0, [true, true, true], [(.iload_n 1, 1, []), (.iconst 4, 1, []), (.if_icmp .ge 14, 3, []), (.aload_n 0, 1, []), (.iload_n 1, 1, []), (.iconst 1, 1, []), (.iadd, 1, []), (.iload_n 2, 1, []), (.invokevirtual 130, 3, [30, 3, 2, 2, 0, 706]), (.goto 42, 3, [])]),
  (16, [true, false, true], [(.aload_n 0, 1, []), (.getfield 23, 3, [2, 0, 3, 23, 0, 229]), (.getfield 40, 3, [6, 3, 0, 0, 1, 207]), (.bipush 40, 2, []), (.if_icmp .ne 26, 3, []), (.aload_n 0, 1, []), (.getfield 23, 3, [2, 0, 3, 23, 0, 229]), (.invokevirtual 73, 3, [61, 1, 2, 6, 0, 677]), (.aload_n 0, 1, []), (.iload_n 2, 1, []), (.iconst 1, 1, []), (.iadd, 1, []), (.invokevirtual 156, 3, [32, 2, 2, 2, 0, 720]), (.aload_n 0, 1, []), (.bipush 41, 2, []), (.invokevirtual 94, 3, [28, 2, 2, 2, 0, 688]), (.goto 7, 3, [])]),
  (51, [true, false, false], [(.aload_n 0, 1, []), (.invokevirtual 159, 3, [34, 1, 2, 2, 0, 724])]),
  (55, [false, false, false], [(.return_, 1, [])])]
/-- SlipRoom$Parser.exprWithin -/
noncomputable def z_b32 : z_B := [
  (0, [true, true], [(.iload_n 1, 1, []), (.iconst 5, 1, []), (.if_icmp .gt 12, 3, []), (.aload_n 0, 1, []), (.iconst 0, 1, []), (.iload_n 1, 1, []), (.invokevirtual 130, 3, [30, 3, 2, 2, 0, 706]), (.goto 50, 3, [])]),
  (14, [true, false], [(.aload_n 0, 1, []), (.getfield 23, 3, [2, 0, 3, 23, 0, 229]), (.getfield 40, 3, [6, 3, 0, 0, 1, 207]), (.iconst 1, 1, []), (.if_icmp .eq 26, 3, []), (.aload_n 0, 1, []), (.getfield 23, 3, [2, 0, 3, 23, 0, 229]), (.getfield 40, 3, [6, 3, 0, 0, 1, 207]), (.iconst 2, 1, []), (.if_icmp .eq 15, 3, []), (.aload_n 0, 1, []), (.getfield 23, 3, [2, 0, 3, 23, 0, 229]), (.getfield 40, 3, [6, 3, 0, 0, 1, 207]), (.bipush 40, 2, []), (.if_icmp .ne 11, 3, [])]),
  (48, [true, false], [(.aload_n 0, 1, []), (.iconst 2, 1, []), (.invokevirtual 61, 3, [24, 2, 2, 2, 0, 669]), (.goto 8, 3, [])]),
  (56, [true, false], [(.aload_n 0, 1, []), (.iconst 1, 1, []), (.invokevirtual 61, 3, [24, 2, 2, 2, 0, 669])]),
  (61, [false, false], [(.return_, 1, [])])]
/-- SlipRoom$Parser.passNots -/
noncomputable def z_b33 : z_B := [
  (0, [true, false], [(.iconst 0, 1, []), (.istore_n 1, 1, [])]),
  (2, [true, true], [(.iload_n 1, 1, []), (.bipush 6, 2, []), (.if_icmp .ge 19, 3, []), (.aload_n 0, 1, []), (.getstatic 162, 3, [1010, 0, 714]), (.invokevirtual 90, 3, [27, 2, 2, 2, 1, 684]), (.ifCond .eq 9, 3, []), (.iinc 1 1, 3, []), (.goto (-19), 3, [])]),
  (24, [true, true], [(.aload_n 0, 1, []), (.getfield 23, 3, [2, 0, 3, 23, 0, 229]), (.getfield 43, 3, [6, 6, 1, 0, 1, 213]), (.getstatic 162, 3, [1010, 0, 714]), (.if_acmp .ne 8, 3, []), (.aload_n 0, 1, []), (.iconst 2, 1, []), (.invokevirtual 61, 3, [24, 2, 2, 2, 0, 669])]),
  (42, [false, true], [(.iload_n 1, 1, []), (.ireturn, 1, [])])]
/-- SlipRoom$Parser.takePart -/
noncomputable def z_b34 : z_B := [
  (0, [true], [(.aload_n 0, 1, []), (.getfield 23, 3, [2, 0, 3, 23, 0, 229]), (.getfield 40, 3, [6, 3, 0, 0, 1, 207]), (.iconst 1, 1, []), (.if_icmp .eq 22, 3, []), (.aload_n 0, 1, []), (.getfield 23, 3, [2, 0, 3, 23, 0, 229]), (.getfield 40, 3, [6, 3, 0, 0, 1, 207]), (.iconst 2, 1, []), (.if_icmp .eq 11, 3, []), (.aload_n 0, 1, []), (.iconst 1, 1, []), (.invokevirtual 61, 3, [24, 2, 2, 2, 0, 669]), (.goto 106, 3, [])]),
  (30, [true], [(.aload_n 0, 1, []), (.getfield 23, 3, [2, 0, 3, 23, 0, 229]), (.getfield 137, 3, [6, 5, 0, 0, 1, 211]), (.sipush 9999, 3, []), (.if_icmp .le 11, 3, []), (.aload_n 0, 1, []), (.iconst 2, 1, []), (.invokevirtual 61, 3, [24, 2, 2, 2, 0, 669]), (.goto 85, 3, [])]),
  (51, [true], [(.aload_n 0, 1, []), (.getfield 23, 3, [2, 0, 3, 23, 0, 229]), (.getfield 40, 3, [6, 3, 0, 0, 1, 207]), (.iconst 2, 1, []), (.if_icmp .ne 25, 3, []), (.aload_n 0, 1, []), (.getfield 23, 3, [2, 0, 3, 23, 0, 229]), (.getfield 43, 3, [6, 6, 1, 0, 1, 213]), (.getfield 165, 3, [10, 1, 5, 0, 1, 1706]), (.iconst (-1), 1, []), (.if_icmp .ne 11, 3, []), (.aload_n 0, 1, []), (.iconst 3, 1, []), (.invokevirtual 61, 3, [24, 2, 2, 2, 0, 669]), (.goto 52, 3, [])]),
  (84, [true], [(.aload_n 0, 1, []), (.getfield 27, 3, [2, 1, 1, 0, 0, 230]), (.aload_n 0, 1, []), (.getfield 23, 3, [2, 0, 3, 23, 0, 229]), (.getfield 40, 3, [6, 3, 0, 0, 1, 207]), (.iconst 2, 1, []), (.if_icmp .ne 20, 3, []), (.sipush 10000, 3, []), (.aload_n 0, 1, []), (.getfield 23, 3, [2, 0, 3, 23, 0, 229]), (.getfield 43, 3, [6, 6, 1, 0, 1, 213]), (.getfield 165, 3, [10, 1, 5, 0, 1, 1706]), (.iadd, 1, []), (.goto 10, 3, [])]),
  (116, [true], [(.aload_n 0, 1, []), (.getfield 23, 3, [2, 0, 3, 23, 0, 229]), (.getfield 137, 3, [6, 5, 0, 0, 1, 211])]),
  (123, [true], [(.invokevirtual 153, 3, [36, 2, 2, 3, 0, 728]), (.aload_n 0, 1, []), (.getfield 23, 3, [2, 0, 3, 23, 0, 229]), (.invokevirtual 73, 3, [61, 1, 2, 6, 0, 677])]),
  (133, [false], [(.return_, 1, [])])]
/-- SlipRoom$Plan.clear -/
noncomputable def z_b35 : z_B := [
  (0, [true], [(.aload_n 0, 1, []), (.iconst 0, 1, []), (.putfield 9, 3, [3, 0, 0, 0, 0, 124]), (.aload_n 0, 1, []), (.iconst 0, 1, []), (.putfield 22, 3, [3, 3, 0, 0, 0, 133]), (.aload_n 0, 1, []), (.iconst 0, 1, []), (.putfield 46, 3, [3, 11, 0, 0, 0, 160]), (.return_, 1, [])])]
/-- SlipRoom$Plan.putCode -/
noncomputable def z_b36 : z_B := [
  (0, [true, true], [(.aload_n 0, 1, []), (.getfield 46, 3, [3, 11, 0, 0, 0, 160]), (.aload_n 0, 1, []), (.getfield 43, 3, [3, 10, 2, 9, 0, 158]), (.arraylength, 1, []), (.if_icmp .ge 23, 3, []), (.aload_n 0, 1, []), (.getfield 43, 3, [3, 10, 2, 9, 0, 158]), (.aload_n 0, 1, []), (.getfield 46, 3, [3, 11, 0, 0, 0, 160]), (.iload_n 1, 1, []), (.iastore, 1, []), (.aload_n 0, 1, []), (.dup, 1, []), (.getfield 46, 3, [3, 11, 0, 0, 0, 160]), (.iconst 1, 1, []), (.iadd, 1, []), (.putfield 46, 3, [3, 11, 0, 0, 0, 160])]),
  (32, [false, false], [(.return_, 1, [])])]
/-- SlipRoom$Plan.partBegin -/
noncomputable def z_b37 : z_B := [
  (0, [true, true, true, false], [(.aload_n 0, 1, []), (.getfield 19, 3, [3, 2, 2, 2, 0, 130]), (.iload_n 1, 1, []), (.iaload, 1, []), (.istore_n 3, 1, []), (.iload_n 3, 1, []), (.iconst 1, 1, []), (.if_icmp .ge 7, 3, []), (.iconst 1, 1, []), (.goto 10, 3, [])]),
  (16, [false, false, true, true], [(.iload_n 2, 1, []), (.iload_n 2, 1, []), (.iconst 1, 1, []), (.isub, 1, []), (.iload_n 3, 1, []), (.irem, 1, []), (.isub, 1, [])]),
  (23, [false, false, false, false], [(.ireturn, 1, [])])]
/-- SlipRoom$Settling.weigh -/
noncomputable def z_b38 : z_B := [
  (0, [true, true, true, true, false], [(.iconst 0, 1, []), (.istore 4, 2, [])]),
  (3, [true, true, true, true, true], [(.iload 4, 2, []), (.iload_n 3, 1, []), (.if_icmp .gt 33, 3, []), (.iload 4, 2, []), (.bipush 64, 2, []), (.if_icmp .ge 26, 3, []), (.iload 4, 2, []), (.iload_n 3, 1, []), (.iand, 1, []), (.iload 4, 2, []), (.if_icmp .ne 11, 3, []), (.aload_n 0, 1, []), (.aload_n 1, 1, []), (.iload_n 2, 1, []), (.iload 4, 2, []), (.invokevirtual 18, 3, [39, 4, 2, 4, 0, 1133])]),
  (33, [true, true, true, true, true], [(.iinc 4 1, 3, []), (.goto (-33), 3, [])]),
  (39, [false, false, false, false, false], [(.return_, 1, [])])]
/-- SlipRoom$Settling.weighSet -/
noncomputable def z_b39 : z_B := [
  (0, [true, true, true, true, false, false], [(.aload_n 0, 1, []), (.getfield 15, 3, [4, 1, 2, 2, 0, 404]), (.iload_n 3, 1, []), (.iconst (-1), 1, []), (.iastore, 1, []), (.iload_n 3, 1, []), (.invokestatic 22, 3, [185, 1, 0, 0, 1, 1137]), (.iconst 1, 1, []), (.if_icmp .gt 11, 3, []), (.aload_n 0, 1, []), (.getfield 9, 3, [4, 0, 2, 1, 0, 402]), (.iload_n 3, 1, []), (.iconst 0, 1, []), (.iastore, 1, []), (.return_, 1, [])]),
  (23, [true, true, true, true, false, false], [(.aload_n 0, 1, []), (.getfield 9, 3, [4, 0, 2, 1, 0, 402]), (.iload_n 3, 1, []), (.iconst (-1), 1, []), (.iastore, 1, []), (.iconst 0, 1, []), (.istore 4, 2, [])]),
  (33, [true, true, true, true, true, false], [(.iload 4, 2, []), (.iload_n 2, 1, []), (.if_icmp .ge 62, 3, []), (.aload_n 0, 1, []), (.aload_n 1, 1, []), (.iload 4, 2, []), (.iload_n 3, 1, []), (.invokevirtual 28, 3, [40, 4, 2, 4, 1, 1143]), (.istore 5, 2, []), (.iload 5, 2, []), (.iconst (-1), 1, []), (.if_icmp .eq 40, 3, []), (.aload_n 0, 1, []), (.getfield 9, 3, [4, 0, 2, 1, 0, 402]), (.iload_n 3, 1, []), (.iaload, 1, []), (.iconst (-1), 1, []), (.if_icmp .eq 14, 3, []), (.iload 5, 2, []), (.aload_n 0, 1, []), (.getfield 9, 3, [4, 0, 2, 1, 0, 402]), (.iload_n 3, 1, []), (.iaload, 1, []), (.if_icmp .ge 19, 3, [])]),
  (76, [true, true, true, true, true, true], [(.aload_n 0, 1, []), (.getfield 9, 3, [4, 0, 2, 1, 0, 402]), (.iload_n 3, 1, []), (.iload 5, 2, []), (.iastore, 1, []), (.aload_n 0, 1, []), (.getfield 15, 3, [4, 1, 2, 2, 0, 404]), (.iload_n 3, 1, []), (.iload 4, 2, []), (.iastore, 1, [])]),
  (92, [true, true, true, true, true, false], [(.iinc 4 1, 3, []), (.goto (-62), 3, [])]),
  (98, [false, false, false, false, false, false], [(.return_, 1, [])])]
/-- SlipRoom$Settling.looksFrom -/
noncomputable def z_b40 : z_B := [
  (0, [true, true, true, true, false, false, false], [(.iconst 0, 1, []), (.istore 4, 2, []), (.iconst 0, 1, []), (.istore 5, 2, [])]),
  (6, [true, true, true, true, true, true, false], [(.iload 5, 2, []), (.bipush 6, 2, []), (.if_icmp .ge 69, 3, []), (.iload_n 3, 1, []), (.iload 5, 2, []), (.ishr, 1, []), (.iconst 1, 1, []), (.iand, 1, []), (.iconst 1, 1, []), (.if_icmp .ne 53, 3, []), (.aload_n 1, 1, []), (.iload_n 2, 1, []), (.iload_n 3, 1, []), (.aload_n 1, 1, []), (.iload 5, 2, []), (.bipush 10, 2, []), (.imul, 1, []), (.iload_n 2, 1, []), (.iadd, 1, []), (.iaload, 1, []), (.invokestatic 32, 3, [41, 4, 0, 0, 1, 1147]), (.istore 6, 2, []), (.iload 6, 2, []), (.iload_n 3, 1, []), (.if_icmp .eq 14, 3, []), (.aload_n 0, 1, []), (.getfield 9, 3, [4, 0, 2, 1, 0, 402]), (.iload 6, 2, []), (.iaload, 1, []), (.iconst (-1), 1, []), (.if_icmp .ne 5, 3, [])]),
  (57, [false, false, false, false, false, false, false], [(.iconst (-1), 1, []), (.ireturn, 1, [])]),
  (59, [true, true, true, true, true, true, true], [(.iload 4, 2, []), (.aload_n 0, 1, []), (.getfield 9, 3, [4, 0, 2, 1, 0, 402]), (.iload 6, 2, []), (.iaload, 1, []), (.invokestatic 36, 3, [187, 2, 0, 0, 1, 1150]), (.istore 4, 2, [])]),
  (73, [true, true, true, true, true, true, false], [(.iinc 5 1, 3, []), (.goto (-70), 3, [])]),
  (79, [false, false, false, false, true, false, false], [(.iload 4, 2, []), (.iconst 1, 1, []), (.iadd, 1, []), (.ireturn, 1, [])])]
/-- SlipRoom$Settling.leftBy -/
noncomputable def z_b41 : z_B := [
  (0, [true, true, true, true, false, false], [(.iconst 0, 1, []), (.istore 4, 2, []), (.iconst 0, 1, []), (.istore 5, 2, [])]),
  (6, [true, true, true, true, true, true], [(.iload 5, 2, []), (.bipush 6, 2, []), (.if_icmp .ge 41, 3, []), (.iload_n 2, 1, []), (.iload 5, 2, []), (.ishr, 1, []), (.iconst 1, 1, []), (.iand, 1, []), (.iconst 1, 1, []), (.if_icmp .ne 25, 3, []), (.aload_n 0, 1, []), (.iload 5, 2, []), (.bipush 10, 2, []), (.imul, 1, []), (.iload_n 1, 1, []), (.iadd, 1, []), (.iaload, 1, []), (.iload_n 3, 1, []), (.if_icmp .ne 12, 3, []), (.iload 4, 2, []), (.iconst 1, 1, []), (.iload 5, 2, []), (.ishl, 1, []), (.ior, 1, []), (.istore 4, 2, [])]),
  (45, [true, true, true, true, true, true], [(.iinc 5 1, 3, []), (.goto (-42), 3, [])]),
  (51, [false, false, false, false, true, false], [(.iload 4, 2, []), (.ireturn, 1, [])])]
/-- SlipRoom$Sharing.gather -/
noncomputable def z_b42 : z_B := [
  (0, [true, true, true, true, false, false], [(.aload_n 0, 1, []), (.aload_n 1, 1, []), (.putfield 41, 3, [5, 0, 1, 0, 0, 343]), (.aload_n 0, 1, []), (.iconst 0, 1, []), (.putfield 9, 3, [5, 1, 0, 0, 0, 344]), (.iconst 0, 1, []), (.istore 4, 2, [])]),
  (13, [true, false, true, true, true, false], [(.iload 4, 2, []), (.aload_n 2, 1, []), (.getfield 45, 3, [1, 10, 0, 0, 1, 270]), (.if_icmp .ge 26, 3, []), (.aload_n 2, 1, []), (.iload 4, 2, []), (.invokevirtual 48, 3, [17, 2, 2, 1, 1, 988]), (.iload_n 3, 1, []), (.if_icmp .ne 10, 3, []), (.aload_n 0, 1, []), (.aload_n 2, 1, []), (.iload 4, 2, []), (.invokevirtual 52, 3, [48, 3, 2, 5, 0, 989])]),
  (39, [true, false, true, true, true, false], [(.iinc 4 1, 3, []), (.goto (-29), 3, [])]),
  (45, [true, false, true, true, false, false], [(.aload_n 0, 1, []), (.getfield 28, 3, [5, 6, 2, 5, 0, 349]), (.iconst 0, 1, []), (.invokestatic 56, 3, [190, 2, 0, 0, 0, 1005]), (.aload_n 0, 1, []), (.getfield 31, 3, [5, 7, 2, 6, 0, 350]), (.iconst 0, 1, []), (.invokestatic 56, 3, [190, 2, 0, 0, 0, 1005]), (.iconst 0, 1, []), (.istore 4, 2, [])]),
  (64, [true, false, true, true, true, false], [(.iload 4, 2, []), (.aload_n 2, 1, []), (.getfield 62, 3, [1, 0, 0, 0, 1, 249]), (.if_icmp .ge 58, 3, []), (.iload 4, 2, []), (.bipush 6, 2, []), (.imul, 1, []), (.istore 5, 2, []), (.aload_n 2, 1, []), (.getfield 65, 3, [1, 1, 2, 1, 1, 252]), (.iload 5, 2, []), (.iconst 1, 1, []), (.iadd, 1, []), (.iaload, 1, []), (.iload_n 3, 1, []), (.if_icmp .ne 32, 3, []), (.aload_n 0, 1, []), (.aload_n 2, 1, []), (.getfield 65, 3, [1, 1, 2, 1, 1, 252]), (.iload 5, 2, []), (.iaload, 1, []), (.aload_n 2, 1, []), (.getfield 65, 3, [1, 1, 2, 1, 1, 252]), (.iload 5, 2, []), (.iconst 2, 1, []), (.iadd, 1, []), (.iaload, 1, []), (.aload_n 2, 1, []), (.getfield 65, 3, [1, 1, 2, 1, 1, 252]), (.iload 5, 2, []), (.iconst 3, 1, []), (.iadd, 1, []), (.iaload, 1, []), (.invokevirtual 68, 3, [49, 4, 2, 5, 0, 1006])]),
  (122, [true, false, true, true, true, false], [(.iinc 4 1, 3, []), (.goto (-61), 3, [])]),
  (128, [true, false, false, false, false, false], [(.iconst 0, 1, []), (.istore 4, 2, [])]),
  (131, [true, false, false, false, true, false], [(.iload 4, 2, []), (.aload_n 0, 1, []), (.getfield 41, 3, [5, 0, 1, 0, 0, 343]), (.getfield 72, 3, [3, 3, 0, 0, 1, 134]), (.if_icmp .ge 15, 3, []), (.aload_n 0, 1, []), (.iload 4, 2, []), (.invokevirtual 77, 3, [50, 2, 2, 5, 0, 1011]), (.iinc 4 1, 3, []), (.goto (-21), 3, [])]),
  (155, [false, false, false, false, false, false], [(.return_, 1, [])])]
/-- SlipRoom$Sharing.waysInAll -/
noncomputable def z_b43 : z_B := [
  (0, [true], [(.aload_n 0, 1, []), (.iconst (-1), 1, []), (.invokevirtual 81, 3, [54, 2, 2, 5, 0, 1034]), (.aload_n 0, 1, []), (.getfield 38, 3, [5, 9, 2, 8, 0, 352]), (.aload_n 0, 1, []), (.invokevirtual 84, 3, [47, 1, 2, 5, 1, 1015]), (.iaload, 1, []), (.ireturn, 1, [])])]
/-- SlipRoom$Sharing.readersOf -/
noncomputable def z_b44 : z_B := [
  (0, [true, true, false, false], [(.iconst 0, 1, []), (.istore_n 2, 1, []), (.iconst 0, 1, []), (.istore_n 3, 1, [])]),
  (4, [true, true, true, true], [(.iload_n 3, 1, []), (.aload_n 0, 1, []), (.getfield 41, 3, [5, 0, 1, 0, 0, 343]), (.getfield 72, 3, [3, 3, 0, 0, 1, 134]), (.if_icmp .ge 24, 3, []), (.aload_n 0, 1, []), (.iload_n 3, 1, []), (.iload_n 1, 1, []), (.invokevirtual 88, 3, [57, 3, 2, 5, 1, 1055]), (.ifCond .eq 9, 3, []), (.iload_n 2, 1, []), (.iconst 1, 1, []), (.iload_n 3, 1, []), (.ishl, 1, []), (.ior, 1, []), (.istore_n 2, 1, [])]),
  (30, [true, true, true, true], [(.iinc 3 1, 3, []), (.goto (-29), 3, [])]),
  (36, [false, false, true, false], [(.iload_n 2, 1, []), (.ireturn, 1, [])])]
/-- SlipRoom$Sharing.endOf -/
noncomputable def z_b45 : z_B := [
  (0, [true, true, true, false, false, false, false], [(.aload_n 0, 1, []), (.iload_n 1, 1, []), (.invokevirtual 81, 3, [54, 2, 2, 5, 0, 1034]), (.iconst (-1), 1, []), (.istore_n 3, 1, []), (.iconst 0, 1, []), (.istore 4, 2, [])]),
  (10, [true, true, true, true, true, false, false], [(.iload 4, 2, []), (.aload_n 0, 1, []), (.invokevirtual 84, 3, [47, 1, 2, 5, 1, 1015]), (.if_icmp .gt 88, 3, []), (.aload_n 0, 1, []), (.iload_n 1, 1, []), (.iload 4, 2, []), (.invokevirtual 92, 3, [56, 3, 2, 5, 1, 1063]), (.ifCond .eq 72, 3, []), (.iload 4, 2, []), (.ifCond .ne 7, 3, []), (.iconst 1, 1, []), (.goto 13, 3, [])]),
  (38, [true, true, true, true, true, false, false], [(.aload_n 0, 1, []), (.getfield 25, 3, [5, 5, 2, 4, 0, 348]), (.iload 4, 2, []), (.invokestatic 95, 3, [53, 1, 0, 0, 1, 1019]), (.iaload, 1, [])]),
  (48, [true, true, true, true, true, false, false], [(.istore 5, 2, []), (.iload_n 2, 1, []), (.ifCond .eq 17, 3, []), (.iload 5, 2, []), (.iload_n 3, 1, []), (.if_icmp .le 7, 3, []), (.iconst 1, 1, []), (.goto 18, 3, [])]),
  (64, [true, true, true, true, true, true, false], [(.iconst 0, 1, []), (.goto 14, 3, [])]),
  (68, [true, true, true, true, true, true, false], [(.iload 5, 2, []), (.iload_n 3, 1, []), (.if_icmp .ge 7, 3, []), (.iconst 1, 1, []), (.goto 4, 3, [])]),
  (78, [true, true, true, true, true, true, false], [(.iconst 0, 1, [])]),
  (79, [true, true, true, true, true, true, false], [(.istore 6, 2, []), (.iload_n 3, 1, []), (.iconst (-1), 1, []), (.if_icmp .eq 8, 3, []), (.iload 6, 2, []), (.ifCond .eq 8, 3, [])]),
  (91, [true, true, true, false, true, true, false], [(.iload 5, 2, []), (.goto 4, 3, [])]),
  (96, [true, true, true, true, true, false, false], [(.iload_n 3, 1, [])]),
  (97, [true, true, true, false, true, false, false], [(.istore_n 3, 1, [])]),
  (98, [true, true, true, true, true, false, false], [(.iinc 4 1, 3, []), (.goto (-91), 3, [])]),
  (104, [false, false, false, true, false, false, false], [(.iload_n 3, 1, []), (.ireturn, 1, [])])]
/-- SlipRoom$Sharing.movedLooks -/
noncomputable def z_b46 : z_B := [
  (0, [true, false, false], [(.aload_n 0, 1, []), (.invokevirtual 98, 3, [43, 1, 2, 5, 1, 1093]), (.ifCond .le 5, 3, []), (.iconst 0, 1, []), (.ireturn, 1, [])]),
  (9, [true, false, false], [(.iconst 0, 1, []), (.istore_n 1, 1, []), (.iconst 0, 1, []), (.istore_n 2, 1, [])]),
  (13, [true, true, true], [(.iload_n 2, 1, []), (.aload_n 0, 1, []), (.getfield 9, 3, [5, 1, 0, 0, 0, 344]), (.if_icmp .ge 36, 3, []), (.aload_n 0, 1, []), (.getfield 38, 3, [5, 9, 2, 8, 0, 352]), (.aload_n 0, 1, []), (.invokevirtual 84, 3, [47, 1, 2, 5, 1, 1015]), (.iconst 1, 1, []), (.iload_n 2, 1, []), (.ishl, 1, []), (.ixor, 1, []), (.iaload, 1, []), (.ifCond .le 14, 3, []), (.iload_n 1, 1, []), (.iconst 1, 1, []), (.aload_n 0, 1, []), (.getfield 15, 3, [5, 2, 2, 1, 0, 345]), (.iload_n 2, 1, []), (.iaload, 1, []), (.ishl, 1, []), (.ior, 1, []), (.istore_n 1, 1, [])]),
  (48, [true, true, true], [(.iinc 2 1, 3, []), (.goto (-38), 3, [])]),
  (54, [false, true, false], [(.iload_n 1, 1, []), (.ireturn, 1, [])])]
/-- SlipRoom$Sharing.allLooks -/
noncomputable def z_b47 : z_B := [
  (0, [true], [(.iconst 1, 1, []), (.aload_n 0, 1, []), (.getfield 9, 3, [5, 1, 0, 0, 0, 344]), (.ishl, 1, []), (.iconst 1, 1, []), (.isub, 1, []), (.ireturn, 1, [])])]
/-- SlipRoom$Sharing.enter -/
noncomputable def z_b48 : z_B := [
  (0, [true, true, true, false], [(.aload_n 0, 1, []), (.getfield 9, 3, [5, 1, 0, 0, 0, 344]), (.bipush 6, 2, []), (.if_icmp .lt 4, 3, []), (.return_, 1, [])]),
  (10, [true, true, true, false], [(.aload_n 0, 1, []), (.getfield 9, 3, [5, 1, 0, 0, 0, 344]), (.istore_n 3, 1, [])]),
  (15, [true, true, true, true], [(.iload_n 3, 1, []), (.ifCond .le 81, 3, []), (.aload_n 0, 1, []), (.getfield 19, 3, [5, 3, 2, 2, 0, 346]), (.iload_n 3, 1, []), (.iconst 1, 1, []), (.isub, 1, []), (.iaload, 1, []), (.aload_n 1, 1, []), (.iload_n 2, 1, []), (.invokevirtual 101, 3, [18, 2, 2, 1, 1, 993]), (.if_icmp .le 65, 3, []), (.aload_n 0, 1, []), (.getfield 15, 3, [5, 2, 2, 1, 0, 345]), (.iload_n 3, 1, []), (.aload_n 0, 1, []), (.getfield 15, 3, [5, 2, 2, 1, 0, 345]), (.iload_n 3, 1, []), (.iconst 1, 1, []), (.isub, 1, []), (.iaload, 1, []), (.iastore, 1, []), (.aload_n 0, 1, []), (.getfield 19, 3, [5, 3, 2, 2, 0, 346]), (.iload_n 3, 1, []), (.aload_n 0, 1, []), (.getfield 19, 3, [5, 3, 2, 2, 0, 346]), (.iload_n 3, 1, []), (.iconst 1, 1, []), (.isub, 1, []), (.iaload, 1, []), (.iastore, 1, []), (.aload_n 0, 1, []), (.getfield 22, 3, [5, 4, 2, 3, 0, 347]), (.iload_n 3, 1, []), (.aload_n 0, 1, []), (.getfield 22, 3, [5, 4, 2, 3, 0, 347]), (.iload_n 3, 1, []), (.iconst 1, 1, []), (.isub, 1, []), (.iaload, 1, []), (.iastore, 1, []), (.aload_n 0, 1, []), (.getfield 25, 3, [5, 5, 2, 4, 0, 348]), (.iload_n 3, 1, []), (.aload_n 0, 1, []), (.getfield 25, 3, [5, 5, 2, 4, 0, 348]), (.iload_n 3, 1, []), (.iconst 1, 1, []), (.isub, 1, []), (.iaload, 1, []), (.iastore, 1, []), (.iinc 3 (-1), 3, []), (.goto (-79), 3, [])]),
  (97, [true, true, true, true], [(.aload_n 0, 1, []), (.getfield 15, 3, [5, 2, 2, 1, 0, 345]), (.iload_n 3, 1, []), (.iload_n 2, 1, []), (.iastore, 1, []), (.aload_n 0, 1, []), (.getfield 19, 3, [5, 3, 2, 2, 0, 346]), (.iload_n 3, 1, []), (.aload_n 1, 1, []), (.iload_n 2, 1, []), (.invokevirtual 101, 3, [18, 2, 2, 1, 1, 993]), (.iastore, 1, []), (.aload_n 0, 1, []), (.getfield 22, 3, [5, 4, 2, 3, 0, 347]), (.iload_n 3, 1, []), (.aload_n 1, 1, []), (.iload_n 2, 1, []), (.invokevirtual 104, 3, [19, 2, 2, 1, 1, 997]), (.iastore, 1, []), (.aload_n 0, 1, []), (.getfield 25, 3, [5, 5, 2, 4, 0, 348]), (.iload_n 3, 1, []), (.aload_n 1, 1, []), (.iload_n 2, 1, []), (.invokevirtual 107, 3, [20, 2, 2, 1, 1, 1001]), (.iastore, 1, []), (.aload_n 0, 1, []), (.dup, 1, []), (.getfield 9, 3, [5, 1, 0, 0, 0, 344]), (.iconst 1, 1, []), (.iadd, 1, []), (.putfield 9, 3, [5, 1, 0, 0, 0, 344]), (.return_, 1, [])])]
/-- SlipRoom$Sharing.addLoan -/
noncomputable def z_b49 : z_B := [
  (0, [true, true, true, true, false, false], [(.iconst 0, 1, []), (.istore 4, 2, [])]),
  (3, [true, true, true, true, true, false], [(.iload 4, 2, []), (.aload_n 0, 1, []), (.getfield 9, 3, [5, 1, 0, 0, 0, 344]), (.if_icmp .ge 63, 3, []), (.iload_n 2, 1, []), (.aload_n 0, 1, []), (.getfield 19, 3, [5, 3, 2, 2, 0, 346]), (.iload 4, 2, []), (.iaload, 1, []), (.if_icmp .ge 46, 3, []), (.iload_n 1, 1, []), (.bipush 6, 2, []), (.imul, 1, []), (.iload 4, 2, []), (.iadd, 1, []), (.istore 5, 2, []), (.aload_n 0, 1, []), (.getfield 28, 3, [5, 6, 2, 5, 0, 349]), (.iload 5, 2, []), (.dup2, 1, []), (.iaload, 1, []), (.iload_n 3, 1, []), (.aload_n 0, 1, []), (.getfield 19, 3, [5, 3, 2, 2, 0, 346]), (.iload 4, 2, []), (.iaload, 1, []), (.iload_n 2, 1, []), (.isub, 1, []), (.invokestatic 110, 3, [188, 2, 0, 0, 1, 1010]), (.iadd, 1, []), (.iastore, 1, []), (.aload_n 0, 1, []), (.getfield 31, 3, [5, 7, 2, 6, 0, 350]), (.iload 5, 2, []), (.dup2, 1, []), (.iaload, 1, []), (.iconst 1, 1, []), (.iadd, 1, []), (.iastore, 1, [])]),
  (66, [true, true, true, true, true, false], [(.iinc 4 1, 3, []), (.goto (-66), 3, [])]),
  (72, [false, false, false, false, false, false], [(.return_, 1, [])])]
/-- SlipRoom$Sharing.findFits -/
noncomputable def z_b50 : z_B := [
  (0, [true, true, false, false, false, false], [(.iload_n 1, 1, []), (.bipush 64, 2, []), (.imul, 1, []), (.istore_n 2, 1, []), (.aload_n 0, 1, []), (.getfield 34, 3, [5, 8, 2, 7, 0, 351]), (.iload_n 2, 1, []), (.iconst 1, 1, []), (.bastore, 1, []), (.iconst 1, 1, []), (.istore_n 3, 1, [])]),
  (14, [true, true, true, true, false, false], [(.iload_n 3, 1, []), (.aload_n 0, 1, []), (.invokevirtual 84, 3, [47, 1, 2, 5, 1, 1015]), (.if_icmp .gt 100, 3, []), (.iload_n 3, 1, []), (.invokestatic 95, 3, [53, 1, 0, 0, 1, 1019]), (.istore 4, 2, []), (.iload_n 3, 1, []), (.iconst 1, 1, []), (.iload 4, 2, []), (.ishl, 1, []), (.ixor, 1, []), (.istore 5, 2, []), (.aload_n 0, 1, []), (.getfield 34, 3, [5, 8, 2, 7, 0, 351]), (.iload_n 2, 1, []), (.iload_n 3, 1, []), (.iadd, 1, []), (.aload_n 0, 1, []), (.getfield 34, 3, [5, 8, 2, 7, 0, 351]), (.iload_n 2, 1, []), (.iload 5, 2, []), (.iadd, 1, []), (.baload, 1, []), (.ifCond .eq 59, 3, []), (.aload_n 0, 1, []), (.getfield 22, 3, [5, 4, 2, 3, 0, 347]), (.iload 4, 2, []), (.iaload, 1, []), (.aload_n 0, 1, []), (.getfield 41, 3, [5, 0, 1, 0, 0, 343]), (.getfield 116, 3, [3, 5, 2, 4, 1, 144]), (.iload_n 1, 1, []), (.iaload, 1, []), (.if_icmp .ne 40, 3, []), (.iload 5, 2, []), (.ifCond .ne 16, 3, []), (.aload_n 0, 1, []), (.iload_n 1, 1, []), (.iload 4, 2, []), (.invokevirtual 117, 3, [51, 3, 2, 5, 1, 1022]), (.ifCond .eq 25, 3, []), (.goto 18, 3, [])]),
  (92, [true, true, true, true, true, true], [(.aload_n 0, 1, []), (.iload_n 1, 1, []), (.iload 5, 2, []), (.invokestatic 95, 3, [53, 1, 0, 0, 1, 1019]), (.iload 4, 2, []), (.invokevirtual 120, 3, [52, 4, 2, 5, 1, 1026]), (.ifCond .eq 7, 3, [])]),
  (107, [true, true, true, true, false, false], [(.iconst 1, 1, []), (.goto 4, 3, [])]),
  (111, [true, true, true, true, false, false], [(.iconst 0, 1, [])]),
  (112, [true, true, true, true, false, false], [(.bastore, 1, []), (.iinc 3 1, 3, []), (.goto (-102), 3, [])]),
  (119, [false, false, false, false, false, false], [(.return_, 1, [])])]
/-- SlipRoom$Sharing.mayBeFirst -/
noncomputable def z_b51 : z_B := [
  (0, [true, true, true], [(.aload_n 0, 1, []), (.getfield 25, 3, [5, 5, 2, 4, 0, 348]), (.iload_n 2, 1, []), (.iaload, 1, []), (.iconst 1, 1, []), (.isub, 1, []), (.aload_n 0, 1, []), (.getfield 41, 3, [5, 0, 1, 0, 0, 343]), (.getfield 124, 3, [3, 4, 2, 3, 1, 140]), (.iload_n 1, 1, []), (.iaload, 1, []), (.aload_n 0, 1, []), (.getfield 28, 3, [5, 6, 2, 5, 0, 349]), (.iload_n 1, 1, []), (.bipush 6, 2, []), (.imul, 1, []), (.iload_n 2, 1, []), (.iadd, 1, []), (.iaload, 1, []), (.imul, 1, []), (.if_icmp .gt 7, 3, []), (.iconst 1, 1, []), (.goto 4, 3, [])]),
  (36, [false, false, false], [(.iconst 0, 1, [])]),
  (37, [false, false, false], [(.ireturn, 1, [])])]
/-- SlipRoom$Sharing.mayFollow -/
noncomputable def z_b52 : z_B := [
  (0, [true, true, true, true, false, false, false, false], [(.iload_n 1, 1, []), (.bipush 6, 2, []), (.imul, 1, []), (.iload_n 3, 1, []), (.iadd, 1, []), (.istore 4, 2, []), (.iload_n 1, 1, []), (.bipush 6, 2, []), (.imul, 1, []), (.iload_n 2, 1, []), (.iadd, 1, []), (.istore 5, 2, []), (.aload_n 0, 1, []), (.getfield 25, 3, [5, 5, 2, 4, 0, 348]), (.iload_n 2, 1, []), (.iaload, 1, []), (.aload_n 0, 1, []), (.getfield 41, 3, [5, 0, 1, 0, 0, 343]), (.getfield 127, 3, [3, 6, 2, 5, 1, 148]), (.iload_n 1, 1, []), (.iaload, 1, []), (.aload_n 0, 1, []), (.getfield 31, 3, [5, 7, 2, 6, 0, 350]), (.iload 4, 2, []), (.iaload, 1, []), (.aload_n 0, 1, []), (.getfield 31, 3, [5, 7, 2, 6, 0, 350]), (.iload 5, 2, []), (.iaload, 1, []), (.isub, 1, []), (.imul, 1, []), (.isub, 1, []), (.istore 6, 2, []), (.aload_n 0, 1, []), (.getfield 25, 3, [5, 5, 2, 4, 0, 348]), (.iload_n 2, 1, []), (.iaload, 1, []), (.aload_n 0, 1, []), (.getfield 41, 3, [5, 0, 1, 0, 0, 343]), (.getfield 124, 3, [3, 4, 2, 3, 1, 140]), (.iload_n 1, 1, []), (.iaload, 1, []), (.aload_n 0, 1, []), (.getfield 28, 3, [5, 6, 2, 5, 0, 349]), (.iload 4, 2, []), (.iaload, 1, []), (.aload_n 0, 1, []), (.getfield 28, 3, [5, 6, 2, 5, 0, 349]), (.iload 5, 2, []), (.iaload, 1, []), (.isub, 1, []), (.imul, 1, []), (.iadd, 1, []), (.istore 7, 2, []), (.aload_n 0, 1, []), (.getfield 19, 3, [5, 3, 2, 2, 0, 346]), (.iload_n 2, 1, []), (.iaload, 1, []), (.aload_n 0, 1, []), (.getfield 19, 3, [5, 3, 2, 2, 0, 346]), (.iload_n 3, 1, []), (.iaload, 1, []), (.if_icmp .ge 29, 3, []), (.aload_n 0, 1, []), (.getfield 25, 3, [5, 5, 2, 4, 0, 348]), (.iload_n 3, 1, []), (.iaload, 1, []), (.iload 6, 2, []), (.if_icmp .lt 18, 3, []), (.aload_n 0, 1, []), (.getfield 25, 3, [5, 5, 2, 4, 0, 348]), (.iload_n 3, 1, []), (.iaload, 1, []), (.iload 7, 2, []), (.if_icmp .gt 7, 3, []), (.iconst 1, 1, []), (.goto 4, 3, [])]),
  (125, [false, false, false, false, false, false, false, false], [(.iconst 0, 1, [])]),
  (126, [false, false, false, false, false, false, false, false], [(.ireturn, 1, [])])]
/-- SlipRoom$Sharing.lastIn -/
noncomputable def z_b53 : z_B := [
  (0, [true, false, false], [(.iconst 0, 1, []), (.istore_n 1, 1, []), (.iconst 0, 1, []), (.istore_n 2, 1, [])]),
  (4, [true, true, true], [(.iload_n 2, 1, []), (.bipush 6, 2, []), (.if_icmp .ge 20, 3, []), (.iload_n 0, 1, []), (.iload_n 2, 1, []), (.ishr, 1, []), (.iconst 1, 1, []), (.iand, 1, []), (.iconst 1, 1, []), (.if_icmp .ne 5, 3, []), (.iload_n 2, 1, []), (.istore_n 1, 1, [])]),
  (21, [true, true, true], [(.iinc 2 1, 3, []), (.goto (-20), 3, [])]),
  (27, [false, true, false], [(.iload_n 1, 1, []), (.ireturn, 1, [])])]
/-- SlipRoom$Sharing.split -/
noncomputable def z_b54 : z_B := [
  (0, [true, true, false], [(.aload_n 0, 1, []), (.getfield 38, 3, [5, 9, 2, 8, 0, 352]), (.iconst 0, 1, []), (.invokestatic 56, 3, [190, 2, 0, 0, 0, 1005]), (.aload_n 0, 1, []), (.getfield 38, 3, [5, 9, 2, 8, 0, 352]), (.iconst 0, 1, []), (.iconst 1, 1, []), (.iastore, 1, []), (.iconst 0, 1, []), (.istore_n 2, 1, [])]),
  (17, [true, true, true], [(.iload_n 2, 1, []), (.aload_n 0, 1, []), (.getfield 41, 3, [5, 0, 1, 0, 0, 343]), (.getfield 72, 3, [3, 3, 0, 0, 1, 134]), (.if_icmp .ge 19, 3, []), (.iload_n 2, 1, []), (.iload_n 1, 1, []), (.if_icmp .eq 8, 3, []), (.aload_n 0, 1, []), (.iload_n 2, 1, []), (.invokevirtual 130, 3, [55, 2, 2, 5, 0, 1038])]),
  (38, [true, true, true], [(.iinc 2 1, 3, []), (.goto (-24), 3, [])]),
  (44, [false, false, false], [(.return_, 1, [])])]
/-- SlipRoom$Sharing.addSharer -/
noncomputable def z_b55 : z_B := [
  (0, [true, true, false, false, false], [(.iload_n 1, 1, []), (.bipush 64, 2, []), (.imul, 1, []), (.istore_n 2, 1, []), (.aload_n 0, 1, []), (.invokevirtual 84, 3, [47, 1, 2, 5, 1, 1015]), (.istore_n 3, 1, [])]),
  (10, [true, false, true, true, false], [(.iload_n 3, 1, []), (.ifCond .le 58, 3, []), (.iload_n 3, 1, []), (.istore 4, 2, [])]),
  (17, [true, false, true, true, true], [(.iload 4, 2, []), (.ifCond .le 44, 3, []), (.aload_n 0, 1, []), (.getfield 34, 3, [5, 8, 2, 7, 0, 351]), (.iload_n 2, 1, []), (.iload 4, 2, []), (.iadd, 1, []), (.baload, 1, []), (.ifCond .eq 21, 3, []), (.aload_n 0, 1, []), (.getfield 38, 3, [5, 9, 2, 8, 0, 352]), (.iload_n 3, 1, []), (.dup2, 1, []), (.iaload, 1, []), (.aload_n 0, 1, []), (.getfield 38, 3, [5, 9, 2, 8, 0, 352]), (.iload_n 3, 1, []), (.iload 4, 2, []), (.ixor, 1, []), (.iaload, 1, []), (.iadd, 1, []), (.iastore, 1, [])]),
  (52, [true, false, true, true, true], [(.iload 4, 2, []), (.iconst 1, 1, []), (.isub, 1, []), (.iload_n 3, 1, []), (.iand, 1, []), (.istore 4, 2, []), (.goto (-43), 3, [])]),
  (63, [true, false, true, true, false], [(.iinc 3 (-1), 3, []), (.goto (-56), 3, [])]),
  (69, [false, false, false, false, false], [(.return_, 1, [])])]
/-- SlipRoom$Sharing.happens -/
noncomputable def z_b56 : z_B := [
  (0, [true, true, true], [(.aload_n 0, 1, []), (.getfield 34, 3, [5, 8, 2, 7, 0, 351]), (.iload_n 1, 1, []), (.bipush 64, 2, []), (.imul, 1, []), (.iload_n 2, 1, []), (.iadd, 1, []), (.baload, 1, []), (.ifCond .eq 21, 3, []), (.aload_n 0, 1, []), (.getfield 38, 3, [5, 9, 2, 8, 0, 352]), (.aload_n 0, 1, []), (.invokevirtual 84, 3, [47, 1, 2, 5, 1, 1015]), (.iload_n 2, 1, []), (.ixor, 1, []), (.iaload, 1, []), (.ifCond .le 7, 3, []), (.iconst 1, 1, []), (.goto 4, 3, [])]),
  (32, [false, false, false], [(.iconst 0, 1, [])]),
  (33, [false, false, false], [(.ireturn, 1, [])])]
/-- SlipRoom$Sharing.mayHave -/
noncomputable def z_b57 : z_B := [
  (0, [true, true, true, false, false], [(.aload_n 0, 1, []), (.iload_n 1, 1, []), (.invokevirtual 81, 3, [54, 2, 2, 5, 0, 1034]), (.iconst 0, 1, []), (.istore_n 3, 1, []), (.iconst 1, 1, []), (.istore 4, 2, [])]),
  (10, [true, true, true, true, true], [(.iload 4, 2, []), (.aload_n 0, 1, []), (.invokevirtual 84, 3, [47, 1, 2, 5, 1, 1015]), (.if_icmp .gt 39, 3, []), (.iload_n 3, 1, []), (.ifCond .ne 23, 3, []), (.aload_n 0, 1, []), (.iload 4, 2, []), (.iload_n 2, 1, []), (.invokevirtual 133, 3, [58, 3, 2, 5, 1, 1059]), (.ifCond .eq 17, 3, []), (.aload_n 0, 1, []), (.iload_n 1, 1, []), (.iload 4, 2, []), (.invokevirtual 92, 3, [56, 3, 2, 5, 1, 1063]), (.ifCond .eq 7, 3, [])]),
  (43, [true, true, true, false, true], [(.iconst 1, 1, []), (.goto 4, 3, [])]),
  (47, [true, true, true, false, true], [(.iconst 0, 1, [])]),
  (48, [true, true, true, false, true], [(.istore_n 3, 1, []), (.iinc 4 1, 3, []), (.goto (-42), 3, [])]),
  (55, [false, false, false, true, false], [(.iload_n 3, 1, []), (.ireturn, 1, [])])]
/-- SlipRoom$Sharing.holds -/
noncomputable def z_b58 : z_B := [
  (0, [true, true, true, false, false], [(.iconst 0, 1, []), (.istore_n 3, 1, []), (.iconst 0, 1, []), (.istore 4, 2, [])]),
  (5, [true, true, true, true, true], [(.iload 4, 2, []), (.aload_n 0, 1, []), (.getfield 9, 3, [5, 1, 0, 0, 0, 344]), (.if_icmp .ge 40, 3, []), (.iload_n 3, 1, []), (.ifCond .ne 24, 3, []), (.aload_n 0, 1, []), (.getfield 15, 3, [5, 2, 2, 1, 0, 345]), (.iload 4, 2, []), (.iaload, 1, []), (.iload_n 2, 1, []), (.if_icmp .ne 17, 3, []), (.iload_n 1, 1, []), (.iload 4, 2, []), (.ishr, 1, []), (.iconst 1, 1, []), (.iand, 1, []), (.iconst 1, 1, []), (.if_icmp .ne 7, 3, [])]),
  (39, [true, true, true, false, true], [(.iconst 1, 1, []), (.goto 4, 3, [])]),
  (43, [true, true, true, false, true], [(.iconst 0, 1, [])]),
  (44, [true, true, true, false, true], [(.istore_n 3, 1, []), (.iinc 4 1, 3, []), (.goto (-43), 3, [])]),
  (51, [false, false, false, true, false], [(.iload_n 3, 1, []), (.ireturn, 1, [])])]
/-- SlipRoom$Tokens.begin -/
noncomputable def z_b59 : z_B := [
  (0, [true, true], [(.aload_n 0, 1, []), (.iload_n 1, 1, []), (.aload_n 0, 1, []), (.getfield 36, 3, [6, 0, 3, 1, 0, 203]), (.arraylength, 1, []), (.invokestatic 40, 3, [188, 2, 0, 0, 1, 581]), (.putfield 9, 3, [6, 1, 0, 0, 0, 204]), (.aload_n 0, 1, []), (.iconst 0, 1, []), (.putfield 15, 3, [6, 2, 0, 0, 0, 205]), (.aload_n 0, 1, []), (.invokevirtual 46, 3, [61, 1, 2, 6, 0, 584]), (.return_, 1, [])])]
/-- SlipRoom$Tokens.stop -/
noncomputable def z_b60 : z_B := [
  (0, [true], [(.aload_n 0, 1, []), (.aload_n 0, 1, []), (.getfield 9, 3, [6, 1, 0, 0, 0, 204]), (.putfield 15, 3, [6, 2, 0, 0, 0, 205]), (.aload_n 0, 1, []), (.iconst 0, 1, []), (.putfield 18, 3, [6, 3, 0, 0, 0, 206]), (.aload_n 0, 1, []), (.getstatic 27, 3, [1000, 0, 201]), (.putfield 33, 3, [6, 6, 1, 0, 0, 212]), (.return_, 1, [])])]
/-- SlipRoom$Tokens.advance -/
noncomputable def z_b61 : z_B := [
  (0, [true], [(.aload_n 0, 1, []), (.getstatic 27, 3, [1000, 0, 201]), (.putfield 33, 3, [6, 6, 1, 0, 0, 212]), (.aload_n 0, 1, []), (.iconst 0, 1, []), (.putfield 24, 3, [6, 5, 0, 0, 0, 210]), (.aload_n 0, 1, []), (.aload_n 0, 1, []), (.invokevirtual 49, 3, [64, 1, 2, 6, 1, 588]), (.putfield 21, 3, [6, 4, 0, 0, 0, 208]), (.aload_n 0, 1, []), (.aload_n 0, 1, []), (.getfield 21, 3, [6, 4, 0, 0, 0, 208]), (.putfield 15, 3, [6, 2, 0, 0, 0, 205]), (.aload_n 0, 1, []), (.getfield 21, 3, [6, 4, 0, 0, 0, 208]), (.aload_n 0, 1, []), (.getfield 9, 3, [6, 1, 0, 0, 0, 204]), (.if_icmp .lt 11, 3, []), (.aload_n 0, 1, []), (.iconst 0, 1, []), (.putfield 18, 3, [6, 3, 0, 0, 0, 206]), (.goto 118, 3, [])]),
  (47, [true], [(.aload_n 0, 1, []), (.getfield 36, 3, [6, 0, 3, 1, 0, 203]), (.aload_n 0, 1, []), (.getfield 21, 3, [6, 4, 0, 0, 0, 208]), (.baload, 1, []), (.invokestatic 53, 3, [67, 1, 0, 0, 1, 592]), (.ifCond .eq 34, 3, []), (.aload_n 0, 1, []), (.iconst 2, 1, []), (.putfield 18, 3, [6, 3, 0, 0, 0, 206]), (.aload_n 0, 1, []), (.invokevirtual 57, 3, [65, 1, 2, 6, 0, 595]), (.aload_n 0, 1, []), (.aload_n 0, 1, []), (.getfield 36, 3, [6, 0, 3, 1, 0, 203]), (.aload_n 0, 1, []), (.getfield 21, 3, [6, 4, 0, 0, 0, 208]), (.aload_n 0, 1, []), (.getfield 15, 3, [6, 2, 0, 0, 0, 205]), (.invokestatic 60, 3, [73, 3, 0, 0, 3, 599]), (.putfield 33, 3, [6, 6, 1, 0, 0, 212]), (.goto 72, 3, [])]),
  (93, [true], [(.aload_n 0, 1, []), (.getfield 36, 3, [6, 0, 3, 1, 0, 203]), (.aload_n 0, 1, []), (.getfield 21, 3, [6, 4, 0, 0, 0, 208]), (.baload, 1, []), (.invokestatic 64, 3, [68, 1, 0, 0, 1, 653]), (.ifCond .eq 15, 3, []), (.aload_n 0, 1, []), (.iconst 1, 1, []), (.putfield 18, 3, [6, 3, 0, 0, 0, 206]), (.aload_n 0, 1, []), (.invokevirtual 67, 3, [66, 1, 2, 6, 0, 656]), (.goto 45, 3, [])]),
  (120, [true], [(.aload_n 0, 1, []), (.aload_n 0, 1, []), (.getfield 36, 3, [6, 0, 3, 1, 0, 203]), (.aload_n 0, 1, []), (.getfield 21, 3, [6, 4, 0, 0, 0, 208]), (.baload, 1, []), (.invokestatic 70, 3, [69, 1, 0, 0, 1, 660]), (.ifCond .eq 15, 3, []), (.aload_n 0, 1, []), (.getfield 36, 3, [6, 0, 3, 1, 0, 203]), (.aload_n 0, 1, []), (.getfield 21, 3, [6, 4, 0, 0, 0, 208]), (.baload, 1, []), (.goto 4, 3, [])]),
  (148, [true], [(.iconst 3, 1, [])]),
  (149, [true], [(.putfield 18, 3, [6, 3, 0, 0, 0, 206]), (.aload_n 0, 1, []), (.dup, 1, []), (.getfield 15, 3, [6, 2, 0, 0, 0, 205]), (.iconst 1, 1, []), (.iadd, 1, []), (.putfield 15, 3, [6, 2, 0, 0, 0, 205])]),
  (162, [false], [(.return_, 1, [])])]
/-- SlipRoom$Tokens.joins -/
noncomputable def z_b62 : z_B := [
  (0, [true], [(.aload_n 0, 1, []), (.getfield 18, 3, [6, 3, 0, 0, 0, 206]), (.tableswitch 102 42 61 #[96, 98, 102, 98, 102, 96, 102, 102, 102, 102, 102, 102, 102, 102, 102, 102, 102, 102, 100, 100], 96, [])]),
  (100, [false], [(.iconst 4, 1, []), (.ireturn, 1, [])]),
  (102, [false], [(.iconst 3, 1, []), (.ireturn, 1, [])]),
  (104, [false], [(.iconst 2, 1, []), (.ireturn, 1, [])]),
  (106, [true], [(.aload_n 0, 1, []), (.getfield 33, 3, [6, 6, 1, 0, 0, 212]), (.getstatic 73, 3, [1009, 0, 736]), (.if_acmp .ne 7, 3, []), (.iconst 1, 1, []), (.goto 18, 3, [])]),
  (120, [true], [(.aload_n 0, 1, []), (.getfield 33, 3, [6, 6, 1, 0, 0, 212]), (.getstatic 76, 3, [1008, 0, 738]), (.if_acmp .ne 7, 3, []), (.iconst 0, 1, []), (.goto 4, 3, [])]),
  (134, [false], [(.iconst (-1), 1, [])]),
  (135, [false], [(.ireturn, 1, [])])]
/-- SlipRoom$Tokens.operation -/
noncomputable def z_b63 : z_B := [
  (0, [true], [(.aload_n 0, 1, []), (.getfield 33, 3, [6, 6, 1, 0, 0, 212]), (.getstatic 73, 3, [1009, 0, 736]), (.if_acmp .ne 8, 3, []), (.bipush 38, 2, []), (.goto 22, 3, [])]),
  (15, [true], [(.aload_n 0, 1, []), (.getfield 33, 3, [6, 6, 1, 0, 0, 212]), (.getstatic 76, 3, [1008, 0, 738]), (.if_acmp .ne 8, 3, []), (.bipush 124, 2, []), (.goto 7, 3, [])]),
  (30, [true], [(.aload_n 0, 1, []), (.getfield 18, 3, [6, 3, 0, 0, 0, 206])]),
  (34, [false], [(.ireturn, 1, [])])]
/-- SlipRoom$Tokens.behindBlanks -/
noncomputable def z_b64 : z_B := [
  (0, [true, false], [(.aload_n 0, 1, []), (.getfield 15, 3, [6, 2, 0, 0, 0, 205]), (.istore_n 1, 1, [])]),
  (5, [true, true], [(.iload_n 1, 1, []), (.aload_n 0, 1, []), (.getfield 9, 3, [6, 1, 0, 0, 0, 204]), (.if_icmp .ge 31, 3, []), (.aload_n 0, 1, []), (.getfield 36, 3, [6, 0, 3, 1, 0, 203]), (.iload_n 1, 1, []), (.baload, 1, []), (.bipush 32, 2, []), (.if_icmp .eq 14, 3, []), (.aload_n 0, 1, []), (.getfield 36, 3, [6, 0, 3, 1, 0, 203]), (.iload_n 1, 1, []), (.baload, 1, []), (.bipush 10, 2, []), (.if_icmp .ne 9, 3, [])]),
  (35, [true, true], [(.iinc 1 1, 3, []), (.goto (-33), 3, [])]),
  (41, [false, true], [(.iload_n 1, 1, []), (.ireturn, 1, [])])]
/-- SlipRoom$Tokens.passLetters -/
noncomputable def z_b65 : z_B := [
  (0, [true], [(.aload_n 0, 1, []), (.getfield 15, 3, [6, 2, 0, 0, 0, 205]), (.aload_n 0, 1, []), (.getfield 9, 3, [6, 1, 0, 0, 0, 204]), (.if_icmp .ge 31, 3, []), (.aload_n 0, 1, []), (.getfield 36, 3, [6, 0, 3, 1, 0, 203]), (.aload_n 0, 1, []), (.getfield 15, 3, [6, 2, 0, 0, 0, 205]), (.baload, 1, []), (.invokestatic 53, 3, [67, 1, 0, 0, 1, 592]), (.ifCond .eq 16, 3, []), (.aload_n 0, 1, []), (.dup, 1, []), (.getfield 15, 3, [6, 2, 0, 0, 0, 205]), (.iconst 1, 1, []), (.iadd, 1, []), (.putfield 15, 3, [6, 2, 0, 0, 0, 205]), (.goto (-36), 3, [])]),
  (39, [false], [(.return_, 1, [])])]
/-- SlipRoom$Tokens.passDigits -/
noncomputable def z_b66 : z_B := [
  (0, [true], [(.aload_n 0, 1, []), (.getfield 15, 3, [6, 2, 0, 0, 0, 205]), (.aload_n 0, 1, []), (.getfield 9, 3, [6, 1, 0, 0, 0, 204]), (.if_icmp .ge 61, 3, []), (.aload_n 0, 1, []), (.getfield 36, 3, [6, 0, 3, 1, 0, 203]), (.aload_n 0, 1, []), (.getfield 15, 3, [6, 2, 0, 0, 0, 205]), (.baload, 1, []), (.invokestatic 64, 3, [68, 1, 0, 0, 1, 653]), (.ifCond .eq 46, 3, []), (.aload_n 0, 1, []), (.sipush 10000, 3, []), (.aload_n 0, 1, []), (.getfield 24, 3, [6, 5, 0, 0, 0, 210]), (.bipush 10, 2, []), (.imul, 1, []), (.aload_n 0, 1, []), (.getfield 36, 3, [6, 0, 3, 1, 0, 203]), (.aload_n 0, 1, []), (.getfield 15, 3, [6, 2, 0, 0, 0, 205]), (.baload, 1, []), (.iadd, 1, []), (.bipush 48, 2, []), (.isub, 1, []), (.invokestatic 40, 3, [188, 2, 0, 0, 1, 581]), (.putfield 24, 3, [6, 5, 0, 0, 0, 210]), (.aload_n 0, 1, []), (.dup, 1, []), (.getfield 15, 3, [6, 2, 0, 0, 0, 205]), (.iconst 1, 1, []), (.iadd, 1, []), (.putfield 15, 3, [6, 2, 0, 0, 0, 205]), (.goto (-66), 3, [])]),
  (69, [true], [(.aload_n 0, 1, []), (.getfield 15, 3, [6, 2, 0, 0, 0, 205]), (.aload_n 0, 1, []), (.getfield 21, 3, [6, 4, 0, 0, 0, 208]), (.isub, 1, []), (.iconst 4, 1, []), (.if_icmp .le 10, 3, []), (.aload_n 0, 1, []), (.sipush 10000, 3, []), (.putfield 24, 3, [6, 5, 0, 0, 0, 210])]),
  (89, [false], [(.return_, 1, [])])]
/-- SlipRoom$Tokens.isLetter -/
noncomputable def z_b67 : z_B := [
  (0, [true], [(.iload_n 0, 1, []), (.bipush 97, 2, []), (.if_icmp .lt 13, 3, []), (.iload_n 0, 1, []), (.bipush 122, 2, []), (.if_icmp .gt 7, 3, []), (.iconst 1, 1, []), (.goto 4, 3, [])]),
  (16, [false], [(.iconst 0, 1, [])]),
  (17, [false], [(.ireturn, 1, [])])]
/-- SlipRoom$Tokens.isDigit -/
noncomputable def z_b68 : z_B := [
  (0, [true], [(.iload_n 0, 1, []), (.bipush 48, 2, []), (.if_icmp .lt 13, 3, []), (.iload_n 0, 1, []), (.bipush 57, 2, []), (.if_icmp .gt 7, 3, []), (.iconst 1, 1, []), (.goto 4, 3, [])]),
  (16, [false], [(.iconst 0, 1, [])]),
  (17, [false], [(.ireturn, 1, [])])]
/-- SlipRoom$Tokens.isSign -/
noncomputable def z_b69 : z_B := [
  (0, [true], [(.iload_n 0, 1, []), (.tableswitch 105 40 61 #[103, 103, 103, 103, 105, 103, 105, 103, 105, 105, 105, 105, 105, 105, 105, 105, 105, 105, 105, 103, 103, 103], 103, [])]),
  (104, [false], [(.iconst 1, 1, []), (.ireturn, 1, [])]),
  (106, [false], [(.iconst 0, 1, []), (.ireturn, 1, [])])]
/-- SlipRoom$Turns.clear -/
noncomputable def z_b70 : z_B := [
  (0, [true], [(.aload_n 0, 1, []), (.iconst 0, 1, []), (.putfield 15, 3, [7, 1, 0, 0, 0, 383]), (.return_, 1, [])])]
/-- SlipRoom$Turns.arrange -/
noncomputable def z_b71 : z_B := [
  (0, [true, true], [(.aload_n 0, 1, []), (.ldc 25, 2, [0, 1000000, 471]), (.putfield 22, 3, [7, 3, 0, 0, 0, 386]), (.aload_n 0, 1, []), (.aload_n 1, 1, []), (.getfield 26, 3, [1, 12, 0, 0, 1, 274]), (.putfield 15, 3, [7, 1, 0, 0, 0, 383]), (.aload_n 0, 1, []), (.aload_n 1, 1, []), (.iconst 0, 1, []), (.iconst 0, 1, []), (.iconst 0, 1, []), (.iconst 0, 1, []), (.invokevirtual 31, 3, [72, 6, 2, 7, 0, 472]), (.aload_n 0, 1, []), (.getfield 22, 3, [7, 3, 0, 0, 0, 386]), (.ireturn, 1, [])])]
/-- SlipRoom$Turns.place -/
noncomputable def z_b72 : z_B := [
  (0, [true, true, true, true, true, true, false, false, false], [(.iload 5, 2, []), (.aload_n 0, 1, []), (.getfield 22, 3, [7, 3, 0, 0, 0, 386]), (.if_icmp .lt 4, 3, []), (.return_, 1, [])]),
  (10, [true, true, true, true, true, true, false, false, false], [(.iload_n 2, 1, []), (.aload_n 1, 1, []), (.getfield 26, 3, [1, 12, 0, 0, 1, 274]), (.if_icmp .ge 9, 3, []), (.iload_n 2, 1, []), (.bipush 7, 2, []), (.if_icmp .lt 27, 3, [])]),
  (24, [true, false, false, false, false, true, false, false, false], [(.aload_n 0, 1, []), (.iload 5, 2, []), (.putfield 22, 3, [7, 3, 0, 0, 0, 386]), (.aload_n 0, 1, []), (.getfield 19, 3, [7, 2, 2, 2, 0, 385]), (.iconst 0, 1, []), (.aload_n 0, 1, []), (.getfield 9, 3, [7, 0, 2, 1, 0, 381]), (.iconst 0, 1, []), (.aload_n 0, 1, []), (.getfield 15, 3, [7, 1, 0, 0, 0, 383]), (.invokestatic 35, 3, [0, 5, 6, 0, 0, 476]), (.return_, 1, [])]),
  (48, [true, true, true, true, true, true, false, false, false], [(.iconst 0, 1, []), (.istore 6, 2, [])]),
  (51, [true, true, true, true, true, true, true, false, false], [(.iload 6, 2, []), (.aload_n 1, 1, []), (.getfield 26, 3, [1, 12, 0, 0, 1, 274]), (.if_icmp .ge 76, 3, []), (.iload_n 3, 1, []), (.iload 6, 2, []), (.ishr, 1, []), (.iconst 1, 1, []), (.iand, 1, []), (.ifCond .ne 61, 3, []), (.aload_n 1, 1, []), (.getfield 41, 3, [1, 14, 2, 11, 1, 279]), (.iload 6, 2, []), (.iaload, 1, []), (.istore 7, 2, []), (.iload 4, 2, []), (.iload 7, 2, []), (.invokestatic 44, 3, [187, 2, 0, 0, 1, 479]), (.istore 8, 2, []), (.aload_n 0, 1, []), (.getfield 19, 3, [7, 2, 2, 2, 0, 385]), (.iload_n 2, 1, []), (.iload 6, 2, []), (.iastore, 1, []), (.aload_n 0, 1, []), (.aload_n 1, 1, []), (.iload_n 2, 1, []), (.iconst 1, 1, []), (.iadd, 1, []), (.iload_n 3, 1, []), (.iconst 1, 1, []), (.iload 6, 2, []), (.ishl, 1, []), (.ior, 1, []), (.iload 8, 2, []), (.aload_n 1, 1, []), (.getfield 50, 3, [1, 13, 2, 10, 1, 277]), (.iload 6, 2, []), (.iaload, 1, []), (.iadd, 1, []), (.iload 5, 2, []), (.iload 8, 2, []), (.iadd, 1, []), (.iload 7, 2, []), (.isub, 1, []), (.invokevirtual 31, 3, [72, 6, 2, 7, 0, 472])]),
  (127, [true, true, true, true, true, true, true, false, false], [(.iinc 6 1, 3, []), (.goto (-79), 3, [])]),
  (133, [false, false, false, false, false, false, false, false, false], [(.return_, 1, [])])]
/-- SlipRoom$Word.find -/
noncomputable def z_b73 : z_B := [
  (0, [true, true, true, false, false, false], [(.iconst 0, 1, []), (.istore_n 3, 1, [])]),
  (2, [true, true, true, true, false, false], [(.iload_n 3, 1, []), (.getstatic 84, 3, [1100, 0, 602]), (.arraylength, 1, []), (.if_icmp .ge 86, 3, []), (.getstatic 84, 3, [1100, 0, 602]), (.iload_n 3, 1, []), (.aaload, 1, []), (.getfield 76, 3, [10, 0, 4, 0, 0, 1703]), (.astore 4, 2, []), (.iconst 0, 1, []), (.istore 5, 2, [])]),
  (23, [true, true, true, true, true, true], [(.iload 5, 2, []), (.aload 4, 2, []), (.invokevirtual 87, 3, [0, 1, 7, 0, 1, 604]), (.if_icmp .ge 33, 3, []), (.iload_n 1, 1, []), (.iload 5, 2, []), (.iadd, 1, []), (.iload_n 2, 1, []), (.if_icmp .ge 25, 3, []), (.aload_n 0, 1, []), (.iload_n 1, 1, []), (.iload 5, 2, []), (.iadd, 1, []), (.baload, 1, []), (.aload 4, 2, []), (.iload 5, 2, []), (.invokevirtual 93, 3, [0, 2, 8, 0, 1, 614]), (.if_icmp .ne 9, 3, []), (.iinc 5 1, 3, []), (.goto (-37), 3, [])]),
  (63, [true, true, true, true, true, true], [(.iload 5, 2, []), (.aload 4, 2, []), (.invokevirtual 87, 3, [0, 1, 7, 0, 1, 604]), (.if_icmp .ne 17, 3, []), (.iload_n 1, 1, []), (.iload 5, 2, []), (.iadd, 1, []), (.iload_n 2, 1, []), (.if_icmp .ne 9, 3, []), (.getstatic 84, 3, [1100, 0, 602]), (.iload_n 3, 1, []), (.aaload, 1, []), (.areturn, 1, [])]),
  (87, [true, true, true, true, false, false], [(.iinc 3 1, 3, []), (.goto (-88), 3, [])]),
  (93, [false, false, false, false, false, false], [(.getstatic 5, 3, [1000, 0, 652]), (.areturn, 1, [])])]
/-- SlipRoom.feed -/
noncomputable def z_b74 : z_B := [
  (0, [true, true, true, true, true, true], [(.aload_n 0, 1, []), (.getfield 13, 3, [8, 1, 0, 0, 0, 412]), (.bipush 20, 2, []), (.iadd, 1, []), (.sipush 700, 3, []), (.if_icmp .le 5, 3, []), (.iconst (-1), 1, []), (.ireturn, 1, [])]),
  (15, [true, true, true, true, true, true], [(.aload_n 0, 1, []), (.iload_n 1, 1, []), (.invokevirtual 83, 3, [99, 2, 2, 8, 0, 455]), (.aload_n 0, 1, []), (.iload_n 2, 1, []), (.invokevirtual 83, 3, [99, 2, 2, 8, 0, 455]), (.aload_n 0, 1, []), (.iload_n 3, 1, []), (.invokevirtual 83, 3, [99, 2, 2, 8, 0, 455]), (.aload_n 0, 1, []), (.iload 4, 2, []), (.invokevirtual 83, 3, [99, 2, 2, 8, 0, 455]), (.aload_n 0, 1, []), (.iload 5, 2, []), (.invokevirtual 83, 3, [99, 2, 2, 8, 0, 455]), (.aload_n 0, 1, []), (.getfield 13, 3, [8, 1, 0, 0, 0, 412]), (.ireturn, 1, [])])]
/-- SlipRoom.room -/
noncomputable def z_b75 : z_B := [
  (0, [true, true, false, false], [(.iload_n 1, 1, []), (.ifCond .lt 11, 3, []), (.iload_n 1, 1, []), (.aload_n 0, 1, []), (.getfield 13, 3, [8, 1, 0, 0, 0, 412]), (.if_icmp .le 13, 3, [])]),
  (12, [false, false, false, false], [(.athrow, 10, [1, 87, 89, 91, 0, 503, 543])]),
  (22, [true, true, false, false], [(.aload_n 0, 1, []), (.iconst 0, 1, []), (.putfield 13, 3, [8, 1, 0, 0, 0, 412]), (.aload_n 0, 1, []), (.getfield 35, 3, [8, 5, 3, 22, 0, 416]), (.iload_n 1, 1, []), (.aload_n 0, 1, []), (.getfield 27, 3, [8, 4, 1, 0, 0, 415]), (.invokevirtual 94, 3, [22, 3, 2, 2, 1, 569]), (.istore_n 2, 1, []), (.aload_n 0, 1, []), (.aload_n 0, 1, []), (.getfield 35, 3, [8, 5, 3, 22, 0, 416]), (.invokevirtual 98, 3, [23, 1, 2, 2, 1, 744]), (.putfield 17, 3, [8, 2, 0, 0, 0, 413]), (.iload_n 2, 1, []), (.ifCond .eq 18, 3, []), (.aload_n 0, 1, []), (.getfield 42, 3, [8, 6, 3, 24, 0, 417]), (.getfield 101, 3, [1, 16, 2, 13, 1, 283]), (.iconst 0, 1, []), (.dup2, 1, []), (.iaload, 1, []), (.iconst 1, 1, []), (.iadd, 1, []), (.iastore, 1, []), (.iload_n 2, 1, []), (.ireturn, 1, [])]),
  (70, [true, false, false, false], [(.aload_n 0, 1, []), (.getfield 23, 3, [8, 3, 1, 0, 0, 414]), (.astore_n 3, 1, []), (.aload_n 0, 1, []), (.aload_n 0, 1, []), (.getfield 27, 3, [8, 4, 1, 0, 0, 415]), (.putfield 23, 3, [8, 3, 1, 0, 0, 414]), (.aload_n 0, 1, []), (.aload_n 3, 1, []), (.putfield 27, 3, [8, 4, 1, 0, 0, 415]), (.aload_n 0, 1, []), (.getfield 42, 3, [8, 6, 3, 24, 0, 417]), (.invokevirtual 105, 3, [5, 1, 2, 1, 0, 748]), (.aload_n 0, 1, []), (.getfield 72, 3, [8, 11, 3, 64, 0, 422]), (.invokevirtual 108, 3, [70, 1, 2, 7, 0, 758]), (.aload_n 0, 1, []), (.iconst 0, 1, []), (.putfield 49, 3, [8, 8, 0, 1, 0, 419]), (.iconst 0, 1, []), (.ireturn, 1, [])])]
/-- SlipRoom.fault -/
noncomputable def z_b76 : z_B := [
  (0, [true], [(.aload_n 0, 1, []), (.getfield 17, 3, [8, 2, 0, 0, 0, 413]), (.ireturn, 1, [])])]
/-- SlipRoom.count -/
noncomputable def z_b77 : z_B := [
  (0, [true, true], [(.iload_n 1, 1, []), (.tableswitch 96 0 6 #[43, 51, 59, 67, 75, 83, 88], 43, [])]),
  (44, [true, false], [(.aload_n 0, 1, []), (.getfield 23, 3, [8, 3, 1, 0, 0, 414]), (.getfield 109, 3, [3, 0, 0, 0, 1, 126]), (.ireturn, 1, [])]),
  (52, [true, false], [(.aload_n 0, 1, []), (.getfield 23, 3, [8, 3, 1, 0, 0, 414]), (.getfield 112, 3, [3, 3, 0, 0, 1, 135]), (.ireturn, 1, [])]),
  (60, [true, false], [(.aload_n 0, 1, []), (.getfield 42, 3, [8, 6, 3, 24, 0, 417]), (.getfield 115, 3, [1, 0, 0, 0, 1, 250]), (.ireturn, 1, [])]),
  (68, [true, false], [(.aload_n 0, 1, []), (.getfield 42, 3, [8, 6, 3, 24, 0, 417]), (.getfield 118, 3, [1, 10, 0, 0, 1, 271]), (.ireturn, 1, [])]),
  (76, [true, false], [(.aload_n 0, 1, []), (.getfield 42, 3, [8, 6, 3, 24, 0, 417]), (.getfield 121, 3, [1, 12, 0, 0, 1, 275]), (.ireturn, 1, [])]),
  (84, [true, false], [(.aload_n 0, 1, []), (.getfield 13, 3, [8, 1, 0, 0, 0, 412]), (.ireturn, 1, [])]),
  (89, [true, false], [(.aload_n 0, 1, []), (.getfield 42, 3, [8, 6, 3, 24, 0, 417]), (.getfield 124, 3, [1, 2, 0, 0, 1, 255]), (.ireturn, 1, [])]),
  (97, [true, true], [(.aload_n 0, 1, []), (.iload_n 1, 1, []), (.invokevirtual 127, 3, [102, 2, 2, 8, 1, 770]), (.ireturn, 1, [])])]
/-- SlipRoom.book -/
noncomputable def z_b78 : z_B := [
  (0, [true, true, true], [(.aload_n 0, 1, []), (.iload_n 1, 1, []), (.invokevirtual 131, 3, [100, 2, 2, 8, 0, 797]), (.iload_n 2, 1, []), (.tableswitch 92 0 4 #[34, 44, 54, 73, 82], 34, [])]),
  (40, [true, true, false], [(.aload_n 0, 1, []), (.getfield 23, 3, [8, 3, 1, 0, 0, 414]), (.getfield 134, 3, [3, 1, 2, 1, 1, 129]), (.iload_n 1, 1, []), (.iaload, 1, []), (.ireturn, 1, [])]),
  (50, [true, true, false], [(.aload_n 0, 1, []), (.getfield 23, 3, [8, 3, 1, 0, 0, 414]), (.getfield 137, 3, [3, 2, 2, 2, 1, 132]), (.iload_n 1, 1, []), (.iaload, 1, []), (.ireturn, 1, [])]),
  (60, [true, true, false], [(.aload_n 0, 1, []), (.getfield 23, 3, [8, 3, 1, 0, 0, 414]), (.getfield 134, 3, [3, 1, 2, 1, 1, 129]), (.iload_n 1, 1, []), (.iaload, 1, []), (.aload_n 0, 1, []), (.getfield 42, 3, [8, 6, 3, 24, 0, 417]), (.iload_n 1, 1, []), (.invokevirtual 140, 3, [9, 2, 2, 1, 1, 802]), (.isub, 1, []), (.ireturn, 1, [])]),
  (79, [true, true, false], [(.aload_n 0, 1, []), (.getfield 42, 3, [8, 6, 3, 24, 0, 417]), (.iload_n 1, 1, []), (.invokevirtual 143, 3, [13, 2, 2, 1, 1, 815]), (.ireturn, 1, [])]),
  (88, [true, true, false], [(.aload_n 0, 1, []), (.getfield 42, 3, [8, 6, 3, 24, 0, 417]), (.getfield 146, 3, [1, 3, 2, 2, 1, 257]), (.iload_n 1, 1, []), (.iaload, 1, []), (.ireturn, 1, [])]),
  (98, [false, false, false], [(.athrow, 10, [0, 149, 151, 153, 0, 774, 819])])]
/-- SlipRoom.reader -/
noncomputable def z_b79 : z_B := [
  (0, [true, true, true], [(.aload_n 0, 1, []), (.iload_n 1, 1, []), (.invokevirtual 154, 3, [101, 2, 2, 8, 0, 827]), (.iload_n 2, 1, []), (.tableswitch 84 0 4 #[34, 44, 54, 64, 74], 34, [])]),
  (40, [true, true, false], [(.aload_n 0, 1, []), (.getfield 23, 3, [8, 3, 1, 0, 0, 414]), (.getfield 157, 3, [3, 4, 2, 3, 1, 139]), (.iload_n 1, 1, []), (.iaload, 1, []), (.ireturn, 1, [])]),
  (50, [true, true, false], [(.aload_n 0, 1, []), (.getfield 23, 3, [8, 3, 1, 0, 0, 414]), (.getfield 160, 3, [3, 5, 2, 4, 1, 143]), (.iload_n 1, 1, []), (.iaload, 1, []), (.ireturn, 1, [])]),
  (60, [true, true, false], [(.aload_n 0, 1, []), (.getfield 23, 3, [8, 3, 1, 0, 0, 414]), (.getfield 163, 3, [3, 6, 2, 5, 1, 147]), (.iload_n 1, 1, []), (.iaload, 1, []), (.ireturn, 1, [])]),
  (70, [true, true, false], [(.aload_n 0, 1, []), (.getfield 23, 3, [8, 3, 1, 0, 0, 414]), (.getfield 166, 3, [3, 7, 2, 6, 1, 151]), (.iload_n 1, 1, []), (.iaload, 1, []), (.ireturn, 1, [])]),
  (80, [true, true, false], [(.aload_n 0, 1, []), (.getfield 42, 3, [8, 6, 3, 24, 0, 417]), (.getfield 169, 3, [1, 4, 2, 3, 1, 259]), (.iload_n 1, 1, []), (.iaload, 1, []), (.ireturn, 1, [])]),
  (90, [false, false, false], [(.athrow, 10, [0, 149, 172, 153, 0, 774, 832])])]
/-- SlipRoom.loan -/
noncomputable def z_b80 : z_B := [
  (0, [true, true, true, true, true, false, false, false], [(.aload_n 0, 1, []), (.iload_n 1, 1, []), (.invokevirtual 154, 3, [101, 2, 2, 8, 0, 827]), (.aload_n 0, 1, []), (.iload_n 2, 1, []), (.invokevirtual 131, 3, [100, 2, 2, 8, 0, 797]), (.aload_n 0, 1, []), (.iload_n 1, 1, []), (.iload_n 2, 1, []), (.iload_n 3, 1, []), (.iload 4, 2, []), (.invokevirtual 174, 3, [105, 5, 2, 8, 1, 840]), (.ifCond .ne 18, 3, []), (.aload_n 0, 1, []), (.getfield 42, 3, [8, 6, 3, 24, 0, 417]), (.getfield 101, 3, [1, 16, 2, 13, 1, 283]), (.iconst 1, 1, []), (.dup2, 1, []), (.iaload, 1, []), (.iconst 1, 1, []), (.iadd, 1, []), (.iastore, 1, []), (.iconst (-1), 1, []), (.ireturn, 1, [])]),
  (37, [true, true, true, true, true, false, false, false], [(.iload_n 1, 1, []), (.iload_n 2, 1, []), (.invokestatic 178, 3, [103, 2, 0, 0, 1, 844]), (.istore 5, 2, []), (.aload_n 0, 1, []), (.iload_n 1, 1, []), (.iload_n 2, 1, []), (.invokevirtual 182, 3, [106, 3, 2, 8, 1, 845]), (.istore 6, 2, []), (.aload_n 0, 1, []), (.getfield 42, 3, [8, 6, 3, 24, 0, 417]), (.getfield 185, 3, [1, 6, 2, 5, 1, 263]), (.iload 5, 2, []), (.iaload, 1, []), (.ifCond .ne 44, 3, []), (.aload_n 0, 1, []), (.getfield 23, 3, [8, 3, 1, 0, 0, 414]), (.getfield 166, 3, [3, 7, 2, 6, 1, 151]), (.iload_n 1, 1, []), (.iaload, 1, []), (.iconst 1, 1, []), (.if_icmp .ne 31, 3, []), (.aload_n 0, 1, []), (.getfield 42, 3, [8, 6, 3, 24, 0, 417]), (.iload 5, 2, []), (.aload_n 0, 1, []), (.getfield 23, 3, [8, 3, 1, 0, 0, 414]), (.getfield 134, 3, [3, 1, 2, 1, 1, 129]), (.iload_n 2, 1, []), (.iaload, 1, []), (.aload_n 0, 1, []), (.getfield 23, 3, [8, 3, 1, 0, 0, 414]), (.getfield 134, 3, [3, 1, 2, 1, 1, 129]), (.iload_n 2, 1, []), (.iaload, 1, []), (.iload_n 3, 1, []), (.invokevirtual 188, 3, [8, 5, 2, 1, 0, 855])]),
  (106, [true, true, true, true, true, true, true, false], [(.aload_n 0, 1, []), (.iload_n 1, 1, []), (.iload_n 2, 1, []), (.iload 6, 2, []), (.iload_n 3, 1, []), (.iload 4, 2, []), (.invokevirtual 192, 3, [107, 6, 2, 8, 1, 863]), (.istore 7, 2, []), (.aload_n 0, 1, []), (.getfield 42, 3, [8, 6, 3, 24, 0, 417]), (.getfield 196, 3, [1, 5, 2, 4, 1, 261]), (.iload 5, 2, []), (.iload 7, 2, []), (.iastore, 1, []), (.aload_n 0, 1, []), (.getfield 42, 3, [8, 6, 3, 24, 0, 417]), (.getfield 185, 3, [1, 6, 2, 5, 1, 263]), (.iload 5, 2, []), (.iload 7, 2, []), (.iastore, 1, []), (.aload_n 0, 1, []), (.getfield 42, 3, [8, 6, 3, 24, 0, 417]), (.iload_n 1, 1, []), (.iload_n 2, 1, []), (.iload_n 3, 1, []), (.iload 4, 2, []), (.iload 6, 2, []), (.iload 7, 2, []), (.iload 6, 2, []), (.isub, 1, []), (.invokevirtual 199, 3, [12, 7, 2, 1, 0, 895]), (.iload 7, 2, []), (.iload 6, 2, []), (.isub, 1, []), (.ireturn, 1, [])])]
/-- SlipRoom.lent -/
noncomputable def z_b81 : z_B := [
  (0, [true, true, true], [(.iload_n 1, 1, []), (.ifCond .lt 24, 3, []), (.iload_n 1, 1, []), (.aload_n 0, 1, []), (.getfield 42, 3, [8, 6, 3, 24, 0, 417]), (.getfield 115, 3, [1, 0, 0, 0, 1, 250]), (.if_icmp .ge 13, 3, []), (.iload_n 2, 1, []), (.ifCond .lt 9, 3, []), (.iload_n 2, 1, []), (.bipush 6, 2, []), (.if_icmp .lt 13, 3, [])]),
  (25, [false, false, false], [(.athrow, 10, [0, 149, 203, 153, 0, 774, 906])]),
  (35, [true, true, true], [(.aload_n 0, 1, []), (.getfield 42, 3, [8, 6, 3, 24, 0, 417]), (.getfield 205, 3, [1, 1, 2, 1, 1, 253]), (.iload_n 1, 1, []), (.bipush 6, 2, []), (.imul, 1, []), (.iload_n 2, 1, []), (.iadd, 1, []), (.iaload, 1, []), (.ireturn, 1, [])])]
/-- SlipRoom.drop -/
noncomputable def z_b82 : z_B := [
  (0, [true, true, true, true], [(.aload_n 0, 1, []), (.iload_n 1, 1, []), (.invokevirtual 131, 3, [100, 2, 2, 8, 0, 797]), (.iload_n 2, 1, []), (.aload_n 0, 1, []), (.getfield 42, 3, [8, 6, 3, 24, 0, 417]), (.getfield 124, 3, [1, 2, 0, 0, 1, 255]), (.if_icmp .lt 35, 3, []), (.iload_n 2, 1, []), (.sipush 8759, 3, []), (.if_icmp .gt 28, 3, []), (.iload_n 2, 1, []), (.aload_n 0, 1, []), (.getfield 42, 3, [8, 6, 3, 24, 0, 417]), (.getfield 146, 3, [1, 3, 2, 2, 1, 257]), (.iload_n 1, 1, []), (.iaload, 1, []), (.if_icmp .lt 15, 3, []), (.iload_n 3, 1, []), (.bipush (-50), 2, []), (.if_icmp .lt 9, 3, []), (.iload_n 3, 1, []), (.bipush 50, 2, []), (.if_icmp .le 18, 3, [])]),
  (48, [true, false, false, false], [(.aload_n 0, 1, []), (.getfield 42, 3, [8, 6, 3, 24, 0, 417]), (.getfield 101, 3, [1, 16, 2, 13, 1, 283]), (.iconst 2, 1, []), (.dup2, 1, []), (.iaload, 1, []), (.iconst 1, 1, []), (.iadd, 1, []), (.iastore, 1, []), (.iconst (-1), 1, []), (.ireturn, 1, [])]),
  (63, [true, true, true, true], [(.aload_n 0, 1, []), (.getfield 42, 3, [8, 6, 3, 24, 0, 417]), (.iload_n 2, 1, []), (.putfield 124, 3, [1, 2, 0, 0, 1, 255]), (.aload_n 0, 1, []), (.getfield 42, 3, [8, 6, 3, 24, 0, 417]), (.iload_n 1, 1, []), (.iload_n 3, 1, []), (.aload_n 0, 1, []), (.getfield 23, 3, [8, 3, 1, 0, 0, 414]), (.getfield 134, 3, [3, 1, 2, 1, 1, 129]), (.iload_n 1, 1, []), (.iaload, 1, []), (.invokevirtual 208, 3, [14, 4, 2, 1, 1, 914]), (.ireturn, 1, [])])]
/-- SlipRoom.slip -/
noncomputable def z_b83 : z_B := [
  (0, [true, true, true], [(.aload_n 0, 1, []), (.iload_n 1, 1, []), (.invokevirtual 154, 3, [101, 2, 2, 8, 0, 827]), (.aload_n 0, 1, []), (.iload_n 2, 1, []), (.invokevirtual 131, 3, [100, 2, 2, 8, 0, 797]), (.aload_n 0, 1, []), (.getfield 42, 3, [8, 6, 3, 24, 0, 417]), (.getfield 196, 3, [1, 5, 2, 4, 1, 261]), (.iload_n 1, 1, []), (.iload_n 2, 1, []), (.invokestatic 178, 3, [103, 2, 0, 0, 1, 844]), (.iaload, 1, []), (.ireturn, 1, [])])]
/-- SlipRoom.read -/
noncomputable def z_b84 : z_B := [
  (0, [true, true, true, true, false], [(.aload_n 0, 1, []), (.iload_n 1, 1, []), (.invokevirtual 154, 3, [101, 2, 2, 8, 0, 827]), (.aload_n 0, 1, []), (.iload_n 2, 1, []), (.invokevirtual 131, 3, [100, 2, 2, 8, 0, 797]), (.iload_n 1, 1, []), (.iload_n 2, 1, []), (.invokestatic 178, 3, [103, 2, 0, 0, 1, 844]), (.istore 4, 2, []), (.iload_n 3, 1, []), (.tableswitch 98 0 3 #[30, 41, 60, 87], 30, [])]),
  (48, [true, false, false, false, true], [(.aload_n 0, 1, []), (.getfield 42, 3, [8, 6, 3, 24, 0, 417]), (.getfield 212, 3, [1, 7, 2, 6, 1, 265]), (.iload 4, 2, []), (.iaload, 1, []), (.ireturn, 1, [])]),
  (59, [true, false, true, false, true], [(.aload_n 0, 1, []), (.getfield 42, 3, [8, 6, 3, 24, 0, 417]), (.iload 4, 2, []), (.aload_n 0, 1, []), (.getfield 23, 3, [8, 3, 1, 0, 0, 414]), (.getfield 134, 3, [3, 1, 2, 1, 1, 129]), (.iload_n 2, 1, []), (.iaload, 1, []), (.invokevirtual 215, 3, [10, 3, 2, 1, 1, 932]), (.ireturn, 1, [])]),
  (78, [true, false, true, false, true], [(.aload_n 0, 1, []), (.getfield 42, 3, [8, 6, 3, 24, 0, 417]), (.iload 4, 2, []), (.aload_n 0, 1, []), (.getfield 23, 3, [8, 3, 1, 0, 0, 414]), (.getfield 134, 3, [3, 1, 2, 1, 1, 129]), (.iload_n 2, 1, []), (.iaload, 1, []), (.invokevirtual 218, 3, [11, 3, 2, 1, 1, 936]), (.ifCond .eq 7, 3, []), (.iconst 1, 1, []), (.goto 4, 3, [])]),
  (103, [false, false, false, false, false], [(.iconst 0, 1, [])]),
  (104, [false, false, false, false, false], [(.ireturn, 1, [])]),
  (105, [true, false, false, false, true], [(.aload_n 0, 1, []), (.getfield 42, 3, [8, 6, 3, 24, 0, 417]), (.getfield 222, 3, [1, 8, 2, 7, 1, 267]), (.iload 4, 2, []), (.iaload, 1, []), (.ireturn, 1, [])]),
  (116, [false, false, false, false, false], [(.athrow, 10, [0, 149, 225, 153, 0, 774, 940])])]
/-- SlipRoom.has -/
noncomputable def z_b85 : z_B := [
  (0, [true, true, true, true], [(.aload_n 0, 1, []), (.iload_n 1, 1, []), (.invokevirtual 154, 3, [101, 2, 2, 8, 0, 827]), (.aload_n 0, 1, []), (.iload_n 2, 1, []), (.invokevirtual 131, 3, [100, 2, 2, 8, 0, 797]), (.iload_n 3, 1, []), (.iconst 1, 1, []), (.if_icmp .lt 16, 3, []), (.iload_n 3, 1, []), (.aload_n 0, 1, []), (.getfield 23, 3, [8, 3, 1, 0, 0, 414]), (.getfield 134, 3, [3, 1, 2, 1, 1, 129]), (.iload_n 2, 1, []), (.iaload, 1, []), (.if_icmp .le 13, 3, [])]),
  (28, [false, false, false, false], [(.athrow, 10, [0, 149, 227, 153, 0, 774, 948])]),
  (38, [true, true, true, true], [(.aload_n 0, 1, []), (.getfield 42, 3, [8, 6, 3, 24, 0, 417]), (.iload_n 1, 1, []), (.iload_n 2, 1, []), (.invokestatic 178, 3, [103, 2, 0, 0, 1, 844]), (.iload_n 3, 1, []), (.invokevirtual 229, 3, [7, 3, 2, 1, 1, 949]), (.ireturn, 1, [])])]
/-- SlipRoom.ahead -/
noncomputable def z_b86 : z_B := [
  (0, [true, true, true, true, false, false], [(.aload_n 0, 1, []), (.iload_n 1, 1, []), (.invokevirtual 154, 3, [101, 2, 2, 8, 0, 827]), (.aload_n 0, 1, []), (.iload_n 2, 1, []), (.invokevirtual 154, 3, [101, 2, 2, 8, 0, 827]), (.aload_n 0, 1, []), (.iload_n 3, 1, []), (.invokevirtual 131, 3, [100, 2, 2, 8, 0, 797]), (.aload_n 0, 1, []), (.getfield 42, 3, [8, 6, 3, 24, 0, 417]), (.getfield 196, 3, [1, 5, 2, 4, 1, 261]), (.iload_n 1, 1, []), (.iload_n 3, 1, []), (.invokestatic 178, 3, [103, 2, 0, 0, 1, 844]), (.iaload, 1, []), (.istore 4, 2, []), (.aload_n 0, 1, []), (.getfield 42, 3, [8, 6, 3, 24, 0, 417]), (.getfield 196, 3, [1, 5, 2, 4, 1, 261]), (.iload_n 2, 1, []), (.iload_n 3, 1, []), (.invokestatic 178, 3, [103, 2, 0, 0, 1, 844]), (.iaload, 1, []), (.istore 5, 2, []), (.iload_n 1, 1, []), (.iload_n 2, 1, []), (.if_icmp .eq 15, 3, []), (.iload 4, 2, []), (.iconst 1, 1, []), (.if_icmp .lt 9, 3, []), (.iload 5, 2, []), (.iconst 1, 1, []), (.if_icmp .ge 13, 3, [])]),
  (62, [false, false, false, false, false, false], [(.athrow, 10, [0, 149, 232, 153, 0, 774, 957])]),
  (72, [false, false, false, false, true, true], [(.iload 4, 2, []), (.iload 5, 2, []), (.isub, 1, []), (.ireturn, 1, [])])]
/-- SlipRoom.look -/
noncomputable def z_b87 : z_B := [
  (0, [true, true, true, true, true, false], [(.aload_n 0, 1, []), (.iload_n 1, 1, []), (.invokevirtual 131, 3, [100, 2, 2, 8, 0, 797]), (.iload_n 2, 1, []), (.ifCond .lt 37, 3, []), (.iload_n 2, 1, []), (.sipush 8759, 3, []), (.if_icmp .gt 30, 3, []), (.iload_n 3, 1, []), (.ifCond .lt 26, 3, []), (.iload_n 3, 1, []), (.iconst 3, 1, []), (.if_icmp .gt 21, 3, []), (.iload 4, 2, []), (.iconst 1, 1, []), (.if_icmp .lt 15, 3, []), (.iload 4, 2, []), (.sipush 401, 3, []), (.if_icmp .gt 7, 3, []), (.iconst 1, 1, []), (.goto 4, 3, [])]),
  (43, [true, true, true, true, true, false], [(.iconst 0, 1, [])]),
  (44, [true, true, true, true, true, false], [(.istore 5, 2, []), (.iload 5, 2, []), (.ifCond .eq 28, 3, []), (.aload_n 0, 1, []), (.getfield 42, 3, [8, 6, 3, 24, 0, 417]), (.getfield 118, 3, [1, 10, 0, 0, 1, 271]), (.bipush 24, 2, []), (.if_icmp .ge 16, 3, []), (.aload_n 0, 1, []), (.getfield 42, 3, [8, 6, 3, 24, 0, 417]), (.iload_n 1, 1, []), (.invokevirtual 234, 3, [16, 2, 2, 1, 1, 965]), (.bipush 6, 2, []), (.if_icmp .lt 18, 3, [])]),
  (76, [true, false, false, false, false, false], [(.aload_n 0, 1, []), (.getfield 42, 3, [8, 6, 3, 24, 0, 417]), (.getfield 101, 3, [1, 16, 2, 13, 1, 283]), (.iconst 3, 1, []), (.dup2, 1, []), (.iaload, 1, []), (.iconst 1, 1, []), (.iadd, 1, []), (.iastore, 1, []), (.iconst (-1), 1, []), (.ireturn, 1, [])]),
  (91, [true, true, true, true, true, false], [(.aload_n 0, 1, []), (.getfield 42, 3, [8, 6, 3, 24, 0, 417]), (.iload_n 1, 1, []), (.iload_n 2, 1, []), (.iload_n 3, 1, []), (.iload 4, 2, []), (.invokevirtual 237, 3, [15, 5, 2, 1, 1, 973]), (.ireturn, 1, [])])]
/-- SlipRoom.ways -/
noncomputable def z_b88 : z_B := [
  (0, [true, true], [(.aload_n 0, 1, []), (.iload_n 1, 1, []), (.invokevirtual 131, 3, [100, 2, 2, 8, 0, 797]), (.aload_n 0, 1, []), (.getfield 65, 3, [8, 10, 3, 55, 0, 421]), (.aload_n 0, 1, []), (.getfield 23, 3, [8, 3, 1, 0, 0, 414]), (.aload_n 0, 1, []), (.getfield 42, 3, [8, 6, 3, 24, 0, 417]), (.iload_n 1, 1, []), (.invokevirtual 241, 3, [42, 4, 2, 5, 0, 984]), (.aload_n 0, 1, []), (.getfield 65, 3, [8, 10, 3, 55, 0, 421]), (.invokevirtual 245, 3, [43, 1, 2, 5, 1, 1030]), (.ireturn, 1, [])])]
/-- SlipRoom.whose -/
noncomputable def z_b89 : z_B := [
  (0, [true, true, true, false], [(.iload_n 1, 1, []), (.ifCond .lt 23, 3, []), (.iload_n 1, 1, []), (.aload_n 0, 1, []), (.getfield 42, 3, [8, 6, 3, 24, 0, 417]), (.getfield 118, 3, [1, 10, 0, 0, 1, 271]), (.if_icmp .ge 12, 3, []), (.iload_n 2, 1, []), (.ifCond .lt 8, 3, []), (.iload_n 2, 1, []), (.iconst 1, 1, []), (.if_icmp .le 13, 3, [])]),
  (24, [false, false, false, false], [(.athrow, 10, [0, 149, 248, 153, 0, 774, 1049])]),
  (34, [true, true, true, false], [(.aload_n 0, 1, []), (.getfield 65, 3, [8, 10, 3, 55, 0, 421]), (.aload_n 0, 1, []), (.getfield 23, 3, [8, 3, 1, 0, 0, 414]), (.aload_n 0, 1, []), (.getfield 42, 3, [8, 6, 3, 24, 0, 417]), (.aload_n 0, 1, []), (.getfield 42, 3, [8, 6, 3, 24, 0, 417]), (.iload_n 1, 1, []), (.invokevirtual 250, 3, [17, 2, 2, 1, 1, 1050]), (.invokevirtual 241, 3, [42, 4, 2, 5, 0, 984]), (.aload_n 0, 1, []), (.getfield 65, 3, [8, 10, 3, 55, 0, 421]), (.iload_n 1, 1, []), (.invokevirtual 253, 3, [44, 2, 2, 5, 1, 1051]), (.istore_n 3, 1, []), (.iload_n 2, 1, []), (.ifCond .ne 7, 3, []), (.iload_n 3, 1, []), (.goto 7, 3, [])]),
  (74, [false, false, false, true], [(.iload_n 3, 1, []), (.invokestatic 256, 3, [104, 1, 0, 0, 1, 1067])]),
  (78, [false, false, false, false], [(.ireturn, 1, [])])]
/-- SlipRoom.ends -/
noncomputable def z_b90 : z_B := [
  (0, [true, true, true, true], [(.aload_n 0, 1, []), (.iload_n 1, 1, []), (.invokevirtual 154, 3, [101, 2, 2, 8, 0, 827]), (.aload_n 0, 1, []), (.iload_n 2, 1, []), (.invokevirtual 131, 3, [100, 2, 2, 8, 0, 797]), (.iload_n 3, 1, []), (.ifCond .lt 8, 3, []), (.iload_n 3, 1, []), (.iconst 1, 1, []), (.if_icmp .le 14, 3, [])]),
  (19, [false, false, false, false], [(.athrow, 11, [0, 149, 259, 153, 1, 774, 1077])]),
  (30, [true, true, true, true], [(.aload_n 0, 1, []), (.getfield 65, 3, [8, 10, 3, 55, 0, 421]), (.aload_n 0, 1, []), (.getfield 23, 3, [8, 3, 1, 0, 0, 414]), (.aload_n 0, 1, []), (.getfield 42, 3, [8, 6, 3, 24, 0, 417]), (.iload_n 2, 1, []), (.invokevirtual 241, 3, [42, 4, 2, 5, 0, 984]), (.aload_n 0, 1, []), (.getfield 65, 3, [8, 10, 3, 55, 0, 421]), (.iload_n 1, 1, []), (.iload_n 3, 1, []), (.iconst 1, 1, []), (.if_icmp .ne 7, 3, []), (.iconst 1, 1, []), (.goto 4, 3, [])]),
  (60, [false, false, false, false], [(.iconst 0, 1, [])]),
  (61, [false, false, false, false], [(.invokevirtual 261, 3, [45, 3, 2, 5, 1, 1078]), (.ireturn, 1, [])])]
/-- SlipRoom.moved -/
noncomputable def z_b91 : z_B := [
  (0, [true, true], [(.aload_n 0, 1, []), (.iload_n 1, 1, []), (.invokevirtual 131, 3, [100, 2, 2, 8, 0, 797]), (.aload_n 0, 1, []), (.getfield 65, 3, [8, 10, 3, 55, 0, 421]), (.aload_n 0, 1, []), (.getfield 23, 3, [8, 3, 1, 0, 0, 414]), (.aload_n 0, 1, []), (.getfield 42, 3, [8, 6, 3, 24, 0, 417]), (.iload_n 1, 1, []), (.invokevirtual 241, 3, [42, 4, 2, 5, 0, 984]), (.aload_n 0, 1, []), (.getfield 65, 3, [8, 10, 3, 55, 0, 421]), (.invokevirtual 265, 3, [46, 1, 2, 5, 1, 1089]), (.ireturn, 1, [])])]
/-- SlipRoom.wish -/
noncomputable def z_b92 : z_B := [
  (0, [true, true, true, true], [(.aload_n 0, 1, []), (.iload_n 1, 1, []), (.invokevirtual 154, 3, [101, 2, 2, 8, 0, 827]), (.aload_n 0, 1, []), (.getfield 42, 3, [8, 6, 3, 24, 0, 417]), (.getfield 121, 3, [1, 12, 0, 0, 1, 275]), (.bipush 7, 2, []), (.if_icmp .ge 25, 3, []), (.iload_n 2, 1, []), (.iconst 1, 1, []), (.if_icmp .lt 20, 3, []), (.iload_n 2, 1, []), (.bipush 99, 2, []), (.if_icmp .gt 14, 3, []), (.iload_n 3, 1, []), (.ifCond .lt 10, 3, []), (.iload_n 3, 1, []), (.sipush 999, 3, []), (.if_icmp .le 18, 3, [])]),
  (39, [true, false, false, false], [(.aload_n 0, 1, []), (.getfield 42, 3, [8, 6, 3, 24, 0, 417]), (.getfield 101, 3, [1, 16, 2, 13, 1, 283]), (.iconst 4, 1, []), (.dup2, 1, []), (.iaload, 1, []), (.iconst 1, 1, []), (.iadd, 1, []), (.iastore, 1, []), (.iconst (-1), 1, []), (.ireturn, 1, [])]),
  (54, [true, false, true, true], [(.aload_n 0, 1, []), (.getfield 42, 3, [8, 6, 3, 24, 0, 417]), (.iload_n 2, 1, []), (.iload_n 3, 1, []), (.invokevirtual 268, 3, [21, 3, 2, 1, 1, 1101]), (.ireturn, 1, [])])]
/-- SlipRoom.waiting -/
noncomputable def z_b93 : z_B := [
  (0, [true], [(.aload_n 0, 1, []), (.getfield 72, 3, [8, 11, 3, 64, 0, 422]), (.aload_n 0, 1, []), (.getfield 42, 3, [8, 6, 3, 24, 0, 417]), (.invokevirtual 271, 3, [71, 2, 2, 7, 1, 467]), (.ireturn, 1, [])])]
/-- SlipRoom.turn -/
noncomputable def z_b94 : z_B := [
  (0, [true, true], [(.iload_n 1, 1, []), (.ifCond .lt 14, 3, []), (.iload_n 1, 1, []), (.aload_n 0, 1, []), (.getfield 72, 3, [8, 11, 3, 64, 0, 422]), (.getfield 275, 3, [7, 1, 0, 0, 1, 384]), (.if_icmp .lt 14, 3, [])]),
  (15, [false, false], [(.athrow, 11, [0, 149, 278, 153, 1, 774, 1112])]),
  (26, [true, true], [(.aload_n 0, 1, []), (.getfield 72, 3, [8, 11, 3, 64, 0, 422]), (.getfield 280, 3, [7, 0, 2, 1, 1, 382]), (.iload_n 1, 1, []), (.iaload, 1, []), (.ireturn, 1, [])])]
/-- SlipRoom.tale -/
noncomputable def z_b95 : z_B := [
  (0, [true, true, true, true], [(.aload_n 0, 1, []), (.iload_n 2, 1, []), (.invokevirtual 131, 3, [100, 2, 2, 8, 0, 797]), (.iload_n 1, 1, []), (.ifCond .lt 20, 3, []), (.iload_n 1, 1, []), (.bipush 6, 2, []), (.if_icmp .ge 14, 3, []), (.iload_n 3, 1, []), (.ifCond .lt 10, 3, []), (.iload_n 3, 1, []), (.sipush 401, 3, []), (.if_icmp .le 5, 3, [])]),
  (26, [false, false, false, false], [(.iconst 0, 1, []), (.ireturn, 1, [])]),
  (28, [true, true, true, true], [(.aload_n 0, 1, []), (.getfield 42, 3, [8, 6, 3, 24, 0, 417]), (.getfield 283, 3, [1, 15, 2, 12, 1, 281]), (.iload_n 1, 1, []), (.bipush 10, 2, []), (.imul, 1, []), (.iload_n 2, 1, []), (.iadd, 1, []), (.iload_n 3, 1, []), (.iastore, 1, []), (.iconst 1, 1, []), (.ireturn, 1, [])])]
/-- SlipRoom.settle -/
noncomputable def z_b96 : z_B := [
  (0, [true, true, true], [(.iload_n 2, 1, []), (.ifCond .lt 8, 3, []), (.iload_n 2, 1, []), (.iconst 1, 1, []), (.if_icmp .le 14, 3, [])]),
  (9, [false, false, false], [(.athrow, 11, [0, 149, 286, 153, 1, 774, 1127])]),
  (20, [true, true, true], [(.iload_n 1, 1, []), (.ifCond .lt 9, 3, []), (.iload_n 1, 1, []), (.bipush 64, 2, []), (.if_icmp .lt 14, 3, [])]),
  (30, [false, false, false], [(.athrow, 11, [1, 87, 288, 91, 1, 503, 1128])]),
  (41, [true, true, true], [(.aload_n 0, 1, []), (.getfield 79, 3, [8, 12, 3, 67, 0, 423]), (.aload_n 0, 1, []), (.getfield 42, 3, [8, 6, 3, 24, 0, 417]), (.getfield 283, 3, [1, 15, 2, 12, 1, 281]), (.aload_n 0, 1, []), (.getfield 23, 3, [8, 3, 1, 0, 0, 414]), (.getfield 109, 3, [3, 0, 0, 0, 1, 126]), (.iload_n 1, 1, []), (.invokevirtual 290, 3, [38, 4, 2, 4, 0, 1129]), (.iload_n 2, 1, []), (.ifCond .ne 15, 3, []), (.aload_n 0, 1, []), (.getfield 79, 3, [8, 12, 3, 67, 0, 423]), (.getfield 294, 3, [4, 0, 2, 1, 1, 403]), (.iload_n 1, 1, []), (.iaload, 1, []), (.goto 12, 3, [])]),
  (79, [true, true, false], [(.aload_n 0, 1, []), (.getfield 79, 3, [8, 12, 3, 67, 0, 423]), (.getfield 297, 3, [4, 1, 2, 2, 1, 405]), (.iload_n 1, 1, []), (.iaload, 1, [])]),
  (88, [false, false, false], [(.ireturn, 1, [])])]
/-- SlipRoom.image -/
noncomputable def z_b97 : z_B := [
  (0, [true], [(.aload_n 0, 1, []), (.getfield 46, 3, [8, 7, 3, 38, 0, 418]), (.aload_n 0, 1, []), (.getfield 42, 3, [8, 6, 3, 24, 0, 417]), (.invokevirtual 300, 3, [6, 2, 2, 1, 0, 486]), (.aload_n 0, 1, []), (.iconst 1, 1, []), (.putfield 49, 3, [8, 8, 0, 1, 0, 419]), (.return_, 1, [])])]
/-- SlipRoom.restore -/
noncomputable def z_b98 : z_B := [
  (0, [true], [(.aload_n 0, 1, []), (.getfield 49, 3, [8, 8, 0, 1, 0, 419]), (.ifCond .eq 14, 3, []), (.aload_n 0, 1, []), (.getfield 42, 3, [8, 6, 3, 24, 0, 417]), (.aload_n 0, 1, []), (.getfield 46, 3, [8, 7, 3, 38, 0, 418]), (.invokevirtual 300, 3, [6, 2, 2, 1, 0, 486])]),
  (18, [true], [(.aload_n 0, 1, []), (.getfield 49, 3, [8, 8, 0, 1, 0, 419]), (.ireturn, 1, [])])]
/-- SlipRoom.putBytes -/
noncomputable def z_b99 : z_B := [
  (0, [true, true, false], [(.bipush 24, 2, []), (.istore_n 2, 1, [])]),
  (3, [true, true, true], [(.iload_n 2, 1, []), (.ifCond .lt 42, 3, []), (.aload_n 0, 1, []), (.getfield 13, 3, [8, 1, 0, 0, 0, 412]), (.sipush 700, 3, []), (.if_icmp .ge 32, 3, []), (.aload_n 0, 1, []), (.getfield 9, 3, [8, 0, 3, 1, 0, 411]), (.aload_n 0, 1, []), (.getfield 13, 3, [8, 1, 0, 0, 0, 412]), (.iload_n 1, 1, []), (.iload_n 2, 1, []), (.iushr, 1, []), (.i2b, 1, []), (.bastore, 1, []), (.aload_n 0, 1, []), (.dup, 1, []), (.getfield 13, 3, [8, 1, 0, 0, 0, 412]), (.iconst 1, 1, []), (.iadd, 1, []), (.putfield 13, 3, [8, 1, 0, 0, 0, 412]), (.iinc 2 (-8), 3, []), (.goto (-40), 3, [])]),
  (46, [false, false, false], [(.return_, 1, [])])]
/-- SlipRoom.requireBook -/
noncomputable def z_b100 : z_B := [
  (0, [true, true], [(.iload_n 1, 1, []), (.ifCond .lt 14, 3, []), (.iload_n 1, 1, []), (.aload_n 0, 1, []), (.getfield 23, 3, [8, 3, 1, 0, 0, 414]), (.getfield 109, 3, [3, 0, 0, 0, 1, 126]), (.if_icmp .lt 14, 3, [])]),
  (15, [false, false], [(.athrow, 11, [0, 149, 304, 153, 1, 774, 801])]),
  (26, [false, false], [(.return_, 1, [])])]
/-- SlipRoom.requireReader -/
noncomputable def z_b101 : z_B := [
  (0, [true, true], [(.iload_n 1, 1, []), (.ifCond .lt 14, 3, []), (.iload_n 1, 1, []), (.aload_n 0, 1, []), (.getfield 23, 3, [8, 3, 1, 0, 0, 414]), (.getfield 112, 3, [3, 3, 0, 0, 1, 135]), (.if_icmp .lt 14, 3, [])]),
  (15, [false, false], [(.athrow, 11, [0, 149, 306, 153, 1, 774, 831])]),
  (26, [false, false], [(.return_, 1, [])])]
/-- SlipRoom.refused -/
noncomputable def z_b102 : z_B := [
  (0, [true, true], [(.iload_n 1, 1, []), (.bipush 7, 2, []), (.if_icmp .lt 9, 3, []), (.iload_n 1, 1, []), (.bipush 12, 2, []), (.if_icmp .lt 14, 3, [])]),
  (12, [false, false], [(.athrow, 11, [0, 149, 308, 153, 1, 774, 783])]),
  (23, [true, true], [(.aload_n 0, 1, []), (.getfield 42, 3, [8, 6, 3, 24, 0, 417]), (.getfield 101, 3, [1, 16, 2, 13, 1, 283]), (.iload_n 1, 1, []), (.bipush 7, 2, []), (.isub, 1, []), (.iaload, 1, []), (.ireturn, 1, [])])]
/-- SlipRoom.cellOf -/
noncomputable def z_b103 : z_B := [
  (0, [true, true], [(.iload_n 0, 1, []), (.bipush 10, 2, []), (.imul, 1, []), (.iload_n 1, 1, []), (.iadd, 1, []), (.ireturn, 1, [])])]
/-- SlipRoom.onlyOne -/
noncomputable def z_b104 : z_B := [
  (0, [true, false, false], [(.iconst (-1), 1, []), (.istore_n 1, 1, []), (.iconst 0, 1, []), (.istore_n 2, 1, [])]),
  (4, [true, true, true], [(.iload_n 2, 1, []), (.bipush 8, 2, []), (.if_icmp .ge 18, 3, []), (.iload_n 0, 1, []), (.iconst 1, 1, []), (.iload_n 2, 1, []), (.ishl, 1, []), (.if_icmp .ne 5, 3, []), (.iload_n 2, 1, []), (.istore_n 1, 1, [])]),
  (19, [true, true, true], [(.iinc 2 1, 3, []), (.goto (-18), 3, [])]),
  (25, [false, true, false], [(.iload_n 1, 1, []), (.ireturn, 1, [])])]
/-- SlipRoom.mayLend -/
noncomputable def z_b105 : z_B := [
  (0, [true, true, true, true, true], [(.aload_n 0, 1, []), (.getfield 42, 3, [8, 6, 3, 24, 0, 417]), (.getfield 115, 3, [1, 0, 0, 0, 1, 250]), (.sipush 200, 3, []), (.if_icmp .ge 16, 3, []), (.iload 4, 2, []), (.iconst 1, 1, []), (.if_icmp .lt 10, 3, []), (.iload 4, 2, []), (.bipush 24, 2, []), (.if_icmp .le 5, 3, [])]),
  (26, [false, false, false, false, false], [(.iconst 0, 1, []), (.ireturn, 1, [])]),
  (28, [true, true, true, true, true], [(.iload_n 3, 1, []), (.aload_n 0, 1, []), (.getfield 42, 3, [8, 6, 3, 24, 0, 417]), (.getfield 124, 3, [1, 2, 0, 0, 1, 255]), (.if_icmp .lt 52, 3, []), (.iload_n 3, 1, []), (.sipush 8759, 3, []), (.if_icmp .gt 45, 3, []), (.iload_n 3, 1, []), (.iload 4, 2, []), (.iadd, 1, []), (.iconst 1, 1, []), (.isub, 1, []), (.sipush 8759, 3, []), (.if_icmp .gt 33, 3, []), (.iload_n 3, 1, []), (.aload_n 0, 1, []), (.getfield 42, 3, [8, 6, 3, 24, 0, 417]), (.getfield 169, 3, [1, 4, 2, 3, 1, 259]), (.iload_n 1, 1, []), (.iaload, 1, []), (.if_icmp .lt 20, 3, []), (.iload_n 3, 1, []), (.aload_n 0, 1, []), (.getfield 42, 3, [8, 6, 3, 24, 0, 417]), (.getfield 146, 3, [1, 3, 2, 2, 1, 257]), (.iload_n 2, 1, []), (.iaload, 1, []), (.if_icmp .lt 7, 3, []), (.iconst 1, 1, []), (.goto 4, 3, [])]),
  (88, [false, false, false, false, false], [(.iconst 0, 1, [])]),
  (89, [false, false, false, false, false], [(.ireturn, 1, [])])]
/-- SlipRoom.beginOf -/
noncomputable def z_b106 : z_B := [
  (0, [true, true, true, false], [(.iload_n 1, 1, []), (.iload_n 2, 1, []), (.invokestatic 178, 3, [103, 2, 0, 0, 1, 844]), (.istore_n 3, 1, []), (.aload_n 0, 1, []), (.getfield 42, 3, [8, 6, 3, 24, 0, 417]), (.getfield 185, 3, [1, 6, 2, 5, 1, 263]), (.iload_n 3, 1, []), (.iaload, 1, []), (.ifCond .ne 5, 3, []), (.iconst 1, 1, []), (.ireturn, 1, [])]),
  (20, [true, true, true, true], [(.aload_n 0, 1, []), (.getfield 42, 3, [8, 6, 3, 24, 0, 417]), (.getfield 196, 3, [1, 5, 2, 4, 1, 261]), (.iload_n 3, 1, []), (.iaload, 1, []), (.iconst (-1), 1, []), (.if_icmp .eq 27, 3, []), (.iconst 1, 1, []), (.aload_n 0, 1, []), (.getfield 42, 3, [8, 6, 3, 24, 0, 417]), (.getfield 196, 3, [1, 5, 2, 4, 1, 261]), (.iload_n 3, 1, []), (.iaload, 1, []), (.aload_n 0, 1, []), (.getfield 23, 3, [8, 3, 1, 0, 0, 414]), (.getfield 163, 3, [3, 6, 2, 5, 1, 147]), (.iload_n 1, 1, []), (.iaload, 1, []), (.isub, 1, []), (.invokestatic 310, 3, [187, 2, 0, 0, 1, 849]), (.ireturn, 1, [])]),
  (57, [true, false, true, true], [(.aload_n 0, 1, []), (.getfield 23, 3, [8, 3, 1, 0, 0, 414]), (.iload_n 2, 1, []), (.aload_n 0, 1, []), (.getfield 42, 3, [8, 6, 3, 24, 0, 417]), (.getfield 185, 3, [1, 6, 2, 5, 1, 263]), (.iload_n 3, 1, []), (.iaload, 1, []), (.aload_n 0, 1, []), (.getfield 23, 3, [8, 3, 1, 0, 0, 414]), (.getfield 134, 3, [3, 1, 2, 1, 1, 129]), (.iload_n 2, 1, []), (.iaload, 1, []), (.invokestatic 315, 3, [188, 2, 0, 0, 1, 850]), (.invokevirtual 318, 3, [37, 3, 2, 3, 1, 851]), (.ireturn, 1, [])])]
/-- SlipRoom.readLoan -/
noncomputable def z_b107 : z_B := [
  (0, [true, true, true, true, true, true, false, false], [(.iload_n 3, 1, []), (.istore 6, 2, []), (.iload 4, 2, []), (.istore 7, 2, [])]),
  (7, [true, true, true, true, true, true, true, true], [(.iload 7, 2, []), (.iload 4, 2, []), (.iload 5, 2, []), (.iadd, 1, []), (.if_icmp .ge 22, 3, []), (.aload_n 0, 1, []), (.iload_n 1, 1, []), (.iload_n 2, 1, []), (.iload_n 3, 1, []), (.iload 6, 2, []), (.iload 7, 2, []), (.invokevirtual 321, 3, [108, 6, 2, 8, 1, 867]), (.istore 6, 2, []), (.iinc 7 1, 3, []), (.goto (-26), 3, [])]),
  (36, [false, false, false, false, false, false, true, false], [(.iload 6, 2, []), (.ireturn, 1, [])])]
/-- SlipRoom.readHour -/
noncomputable def z_b108 : z_B := [
  (0, [true, true, true, true, true, true, false, false, false, false, false], [(.iload_n 1, 1, []), (.iload_n 2, 1, []), (.invokestatic 178, 3, [103, 2, 0, 0, 1, 844]), (.istore 6, 2, []), (.aload_n 0, 1, []), (.getfield 23, 3, [8, 3, 1, 0, 0, 414]), (.getfield 134, 3, [3, 1, 2, 1, 1, 129]), (.iload_n 2, 1, []), (.iaload, 1, []), (.istore 7, 2, []), (.iload 4, 2, []), (.istore 8, 2, []), (.iconst 0, 1, []), (.istore 9, 2, []), (.iconst 0, 1, []), (.istore 10, 2, [])]),
  (28, [true, true, true, true, false, true, true, true, true, true, true], [(.iload 10, 2, []), (.aload_n 0, 1, []), (.getfield 23, 3, [8, 3, 1, 0, 0, 414]), (.getfield 157, 3, [3, 4, 2, 3, 1, 139]), (.iload_n 1, 1, []), (.iaload, 1, []), (.if_icmp .ge 57, 3, []), (.iload 8, 2, []), (.iload 7, 2, []), (.if_icmp .gt 50, 3, []), (.iload 9, 2, []), (.ifCond .ne 45, 3, []), (.aload_n 0, 1, []), (.getfield 42, 3, [8, 6, 3, 24, 0, 417]), (.iload 6, 2, []), (.iload 8, 2, []), (.iload 7, 2, []), (.iload 5, 2, []), (.invokevirtual 188, 3, [8, 5, 2, 1, 0, 855]), (.aload_n 0, 1, []), (.iload_n 1, 1, []), (.iload_n 2, 1, []), (.iload 8, 2, []), (.iload 8, 2, []), (.iload_n 3, 1, []), (.isub, 1, []), (.iconst 1, 1, []), (.iadd, 1, []), (.iload 5, 2, []), (.invokevirtual 324, 3, [109, 6, 2, 8, 1, 871]), (.istore 9, 2, []), (.iinc 8 1, 3, []), (.iinc 10 1, 3, []), (.goto (-65), 3, [])]),
  (96, [false, false, false, false, false, false, false, false, true, false, false], [(.iload 8, 2, []), (.ireturn, 1, [])])]
/-- SlipRoom.stopsBehind -/
noncomputable def z_b109 : z_B := [
  (0, [true, true, true, true, true, true], [(.aload_n 0, 1, []), (.getfield 23, 3, [8, 3, 1, 0, 0, 414]), (.getfield 328, 3, [3, 8, 2, 7, 1, 154]), (.iload_n 1, 1, []), (.iaload, 1, []), (.aload_n 0, 1, []), (.getfield 23, 3, [8, 3, 1, 0, 0, 414]), (.getfield 331, 3, [3, 9, 2, 8, 1, 157]), (.iload_n 1, 1, []), (.iaload, 1, []), (.if_icmp .lt 5, 3, []), (.iconst 0, 1, []), (.ireturn, 1, [])]),
  (23, [true, true, true, true, true, true], [(.aload_n 0, 1, []), (.getfield 56, 3, [8, 9, 3, 52, 0, 420]), (.getfield 334, 3, [0, 0, 2, 1, 1, 327]), (.iconst 0, 1, []), (.iload_n 3, 1, []), (.iastore, 1, []), (.aload_n 0, 1, []), (.getfield 56, 3, [8, 9, 3, 52, 0, 420]), (.getfield 334, 3, [0, 0, 2, 1, 1, 327]), (.iconst 1, 1, []), (.aload_n 0, 1, []), (.getfield 23, 3, [8, 3, 1, 0, 0, 414]), (.getfield 134, 3, [3, 1, 2, 1, 1, 129]), (.iload_n 2, 1, []), (.iaload, 1, []), (.iload_n 3, 1, []), (.isub, 1, []), (.iastore, 1, []), (.aload_n 0, 1, []), (.getfield 56, 3, [8, 9, 3, 52, 0, 420]), (.getfield 334, 3, [0, 0, 2, 1, 1, 327]), (.iconst 2, 1, []), (.iload_n 3, 1, []), (.aload_n 0, 1, []), (.getfield 23, 3, [8, 3, 1, 0, 0, 414]), (.iload_n 2, 1, []), (.iload_n 3, 1, []), (.invokevirtual 318, 3, [37, 3, 2, 3, 1, 851]), (.isub, 1, []), (.iconst 1, 1, []), (.iadd, 1, []), (.iastore, 1, []), (.aload_n 0, 1, []), (.getfield 56, 3, [8, 9, 3, 52, 0, 420]), (.getfield 334, 3, [0, 0, 2, 1, 1, 327]), (.iconst 3, 1, []), (.iload 4, 2, []), (.iastore, 1, []), (.aload_n 0, 1, []), (.getfield 56, 3, [8, 9, 3, 52, 0, 420]), (.getfield 334, 3, [0, 0, 2, 1, 1, 327]), (.iconst 4, 1, []), (.iload 5, 2, []), (.bipush 24, 2, []), (.irem, 1, []), (.iastore, 1, []), (.aload_n 0, 1, []), (.getfield 56, 3, [8, 9, 3, 52, 0, 420]), (.getfield 334, 3, [0, 0, 2, 1, 1, 327]), (.iconst 5, 1, []), (.iload 5, 2, []), (.bipush 24, 2, []), (.idiv, 1, []), (.iastore, 1, []), (.aload_n 0, 1, []), (.getfield 56, 3, [8, 9, 3, 52, 0, 420]), (.getfield 334, 3, [0, 0, 2, 1, 1, 327]), (.bipush 6, 2, []), (.iload_n 2, 1, []), (.iastore, 1, []), (.aload_n 0, 1, []), (.getfield 56, 3, [8, 9, 3, 52, 0, 420]), (.aload_n 0, 1, []), (.getfield 23, 3, [8, 3, 1, 0, 0, 414]), (.getfield 337, 3, [3, 10, 2, 9, 1, 159]), (.aload_n 0, 1, []), (.getfield 23, 3, [8, 3, 1, 0, 0, 414]), (.getfield 328, 3, [3, 8, 2, 7, 1, 154]), (.iload_n 1, 1, []), (.iaload, 1, []), (.aload_n 0, 1, []), (.getfield 23, 3, [8, 3, 1, 0, 0, 414]), (.getfield 331, 3, [3, 9, 2, 8, 1, 157]), (.iload_n 1, 1, []), (.iaload, 1, []), (.invokevirtual 340, 3, [0, 4, 2, 0, 1, 875]), (.ireturn, 1, [])])]
/-- SlipRoomModel.thrown -/
noncomputable def z_b110 : z_B := [
  (0, [true], [(.aload_n 0, 1, []), (.getfield 170, 3, [9, 1, 0, 0, 0, 1167]), (.ireturn, 1, [])])]
/-- SlipRoomModel.fail -/
noncomputable def z_b111 : z_B := [
  (0, [true, true], [(.aload_n 0, 1, []), (.iload_n 1, 1, []), (.putfield 170, 3, [9, 1, 0, 0, 0, 1167]), (.iconst 0, 1, []), (.ireturn, 1, [])])]
/-- SlipRoomModel.isIn -/
noncomputable def z_b112 : z_B := [
  (0, [true, true, true], [(.iload_n 0, 1, []), (.iload_n 1, 1, []), (.if_icmp .lt 12, 3, []), (.iload_n 0, 1, []), (.iload_n 2, 1, []), (.if_icmp .gt 7, 3, []), (.iconst 1, 1, []), (.goto 4, 3, [])]),
  (14, [false, false, false], [(.iconst 0, 1, [])]),
  (15, [false, false, false], [(.ireturn, 1, [])])]
/-- SlipRoomModel.isBook -/
noncomputable def z_b113 : z_B := [
  (0, [true, true], [(.iload_n 1, 1, []), (.iconst 0, 1, []), (.aload_n 0, 1, []), (.getfield 173, 3, [9, 2, 0, 0, 0, 1168]), (.iconst 1, 1, []), (.isub, 1, []), (.invokestatic 176, 3, [112, 3, 0, 0, 1, 1502]), (.ireturn, 1, [])])]
/-- SlipRoomModel.isReader -/
noncomputable def z_b114 : z_B := [
  (0, [true, true], [(.iload_n 1, 1, []), (.iconst 0, 1, []), (.aload_n 0, 1, []), (.getfield 180, 3, [9, 3, 0, 0, 0, 1169]), (.iconst 1, 1, []), (.isub, 1, []), (.invokestatic 176, 3, [112, 3, 0, 0, 1, 1502]), (.ireturn, 1, [])])]
/-- SlipRoomModel.feed -/
noncomputable def z_b115 : z_B := [
  (0, [true, true, true, true, true, true, false, false], [(.aload_n 0, 1, []), (.iconst 0, 1, []), (.putfield 170, 3, [9, 1, 0, 0, 0, 1167]), (.aload_n 0, 1, []), (.getfield 183, 3, [9, 17, 0, 0, 0, 1183]), (.bipush 20, 2, []), (.iadd, 1, []), (.sipush 700, 3, []), (.if_icmp .le 5, 3, []), (.iconst (-1), 1, []), (.ireturn, 1, [])]),
  (20, [true, true, true, true, true, true, false, false], [(.iconst 0, 1, []), (.istore 6, 2, [])]),
  (23, [true, true, true, true, true, true, true, false], [(.iload 6, 2, []), (.bipush 20, 2, []), (.if_icmp .ge 93, 3, []), (.iload 6, 2, []), (.iconst 4, 1, []), (.if_icmp .ge 7, 3, []), (.iload_n 1, 1, []), (.goto 39, 3, [])]),
  (40, [true, true, true, true, true, true, true, false], [(.iload 6, 2, []), (.bipush 8, 2, []), (.if_icmp .ge 7, 3, []), (.iload_n 2, 1, []), (.goto 28, 3, [])]),
  (51, [true, true, true, true, true, true, true, false], [(.iload 6, 2, []), (.bipush 12, 2, []), (.if_icmp .ge 7, 3, []), (.iload_n 3, 1, []), (.goto 17, 3, [])]),
  (62, [true, true, true, true, true, true, true, false], [(.iload 6, 2, []), (.bipush 16, 2, []), (.if_icmp .ge 8, 3, []), (.iload 4, 2, []), (.goto 5, 3, [])]),
  (74, [true, true, true, true, true, true, true, false], [(.iload 5, 2, [])]),
  (76, [true, true, true, true, true, true, true, false], [(.istore 7, 2, []), (.aload_n 0, 1, []), (.getfield 61, 3, [9, 16, 2, 12, 0, 1182]), (.aload_n 0, 1, []), (.getfield 183, 3, [9, 17, 0, 0, 0, 1183]), (.iload 7, 2, []), (.bipush 24, 2, []), (.bipush 8, 2, []), (.iload 6, 2, []), (.iconst 4, 1, []), (.irem, 1, []), (.imul, 1, []), (.isub, 1, []), (.ishr, 1, []), (.sipush 255, 3, []), (.iand, 1, []), (.iastore, 1, []), (.aload_n 0, 1, []), (.dup, 1, []), (.getfield 183, 3, [9, 17, 0, 0, 0, 1183]), (.iconst 1, 1, []), (.iadd, 1, []), (.putfield 183, 3, [9, 17, 0, 0, 0, 1183]), (.iinc 6 1, 3, []), (.goto (-94), 3, [])]),
  (120, [true, false, false, false, false, false, false, false], [(.aload_n 0, 1, []), (.getfield 183, 3, [9, 17, 0, 0, 0, 1183]), (.ireturn, 1, [])])]
/-- SlipRoomModel.byteAt -/
noncomputable def z_b116 : z_B := [
  (0, [true, true], [(.iload_n 1, 1, []), (.aload_n 0, 1, []), (.getfield 186, 3, [9, 19, 0, 0, 0, 1185]), (.if_icmp .ge 12, 3, []), (.aload_n 0, 1, []), (.getfield 61, 3, [9, 16, 2, 12, 0, 1182]), (.iload_n 1, 1, []), (.iaload, 1, []), (.goto 4, 3, [])]),
  (17, [false, false], [(.iconst (-1), 1, [])]),
  (18, [false, false], [(.ireturn, 1, [])])]
/-- SlipRoomModel.isLetter -/
noncomputable def z_b117 : z_B := [
  (0, [true], [(.iload_n 0, 1, []), (.bipush 97, 2, []), (.if_icmp .lt 13, 3, []), (.iload_n 0, 1, []), (.bipush 122, 2, []), (.if_icmp .gt 7, 3, []), (.iconst 1, 1, []), (.goto 4, 3, [])]),
  (16, [false], [(.iconst 0, 1, [])]),
  (17, [false], [(.ireturn, 1, [])])]
/-- SlipRoomModel.isDigit -/
noncomputable def z_b118 : z_B := [
  (0, [true], [(.iload_n 0, 1, []), (.bipush 48, 2, []), (.if_icmp .lt 13, 3, []), (.iload_n 0, 1, []), (.bipush 57, 2, []), (.if_icmp .gt 7, 3, []), (.iconst 1, 1, []), (.goto 4, 3, [])]),
  (16, [false], [(.iconst 0, 1, [])]),
  (17, [false], [(.ireturn, 1, [])])]
/-- SlipRoomModel.isMark -/
noncomputable def z_b119 : z_B := [
  (0, [true], [(.iload_n 0, 1, []), (.bipush 59, 2, []), (.if_icmp .eq 51, 3, []), (.iload_n 0, 1, []), (.bipush 40, 2, []), (.if_icmp .eq 45, 3, []), (.iload_n 0, 1, []), (.bipush 41, 2, []), (.if_icmp .eq 39, 3, []), (.iload_n 0, 1, []), (.bipush 43, 2, []), (.if_icmp .eq 33, 3, []), (.iload_n 0, 1, []), (.bipush 45, 2, []), (.if_icmp .eq 27, 3, []), (.iload_n 0, 1, []), (.bipush 42, 2, []), (.if_icmp .eq 21, 3, []), (.iload_n 0, 1, []), (.bipush 47, 2, []), (.if_icmp .eq 15, 3, []), (.iload_n 0, 1, []), (.bipush 60, 2, []), (.if_icmp .eq 9, 3, []), (.iload_n 0, 1, []), (.bipush 61, 2, []), (.if_icmp .ne 7, 3, [])]),
  (54, [false], [(.iconst 1, 1, []), (.goto 4, 3, [])]),
  (58, [false], [(.iconst 0, 1, [])]),
  (59, [false], [(.ireturn, 1, [])])]
/-- SlipRoomModel.stepOn -/
noncomputable def z_b120 : z_B := [
  (0, [true, false], [(.aload_n 0, 1, []), (.aload_n 0, 1, []), (.getfield 189, 3, [9, 18, 0, 0, 0, 1184]), (.invokevirtual 192, 3, [116, 2, 2, 9, 1, 1400]), (.bipush 32, 2, []), (.if_icmp .eq 16, 3, []), (.aload_n 0, 1, []), (.aload_n 0, 1, []), (.getfield 189, 3, [9, 18, 0, 0, 0, 1184]), (.invokevirtual 192, 3, [116, 2, 2, 9, 1, 1400]), (.bipush 10, 2, []), (.if_icmp .ne 16, 3, [])]),
  (26, [true, false], [(.aload_n 0, 1, []), (.dup, 1, []), (.getfield 189, 3, [9, 18, 0, 0, 0, 1184]), (.iconst 1, 1, []), (.iadd, 1, []), (.putfield 189, 3, [9, 18, 0, 0, 0, 1184]), (.goto (-36), 3, [])]),
  (39, [true, false], [(.aload_n 0, 1, []), (.aload_n 0, 1, []), (.getfield 189, 3, [9, 18, 0, 0, 0, 1184]), (.putfield 196, 3, [9, 22, 0, 0, 0, 1188]), (.aload_n 0, 1, []), (.aload_n 0, 1, []), (.getfield 189, 3, [9, 18, 0, 0, 0, 1184]), (.invokevirtual 192, 3, [116, 2, 2, 9, 1, 1400]), (.istore_n 1, 1, []), (.iload_n 1, 1, []), (.iconst (-1), 1, []), (.if_icmp .ne 11, 3, []), (.aload_n 0, 1, []), (.iconst 0, 1, []), (.putfield 199, 3, [9, 20, 0, 0, 0, 1186]), (.goto 146, 3, [])]),
  (69, [true, true], [(.iload_n 1, 1, []), (.invokestatic 202, 3, [117, 1, 0, 0, 1, 1404]), (.ifCond .eq 38, 3, [])]),
  (76, [true, false], [(.aload_n 0, 1, []), (.aload_n 0, 1, []), (.getfield 189, 3, [9, 18, 0, 0, 0, 1184]), (.invokevirtual 192, 3, [116, 2, 2, 9, 1, 1400]), (.invokestatic 202, 3, [117, 1, 0, 0, 1, 1404]), (.ifCond .eq 16, 3, []), (.aload_n 0, 1, []), (.dup, 1, []), (.getfield 189, 3, [9, 18, 0, 0, 0, 1184]), (.iconst 1, 1, []), (.iadd, 1, []), (.putfield 189, 3, [9, 18, 0, 0, 0, 1184]), (.goto (-24), 3, [])]),
  (103, [true, false], [(.aload_n 0, 1, []), (.iconst 1, 1, []), (.putfield 199, 3, [9, 20, 0, 0, 0, 1186]), (.goto 104, 3, [])]),
  (111, [true, true], [(.iload_n 1, 1, []), (.invokestatic 206, 3, [118, 1, 0, 0, 1, 1407]), (.ifCond .eq 71, 3, []), (.aload_n 0, 1, []), (.iconst 0, 1, []), (.putfield 209, 3, [9, 21, 0, 0, 0, 1187])]),
  (123, [true, false], [(.aload_n 0, 1, []), (.aload_n 0, 1, []), (.getfield 189, 3, [9, 18, 0, 0, 0, 1184]), (.invokevirtual 192, 3, [116, 2, 2, 9, 1, 1400]), (.invokestatic 206, 3, [118, 1, 0, 0, 1, 1407]), (.ifCond .eq 44, 3, []), (.aload_n 0, 1, []), (.ldc 212, 2, [0, 100000, 1410]), (.bipush 10, 2, []), (.aload_n 0, 1, []), (.getfield 209, 3, [9, 21, 0, 0, 0, 1187]), (.imul, 1, []), (.aload_n 0, 1, []), (.aload_n 0, 1, []), (.getfield 189, 3, [9, 18, 0, 0, 0, 1184]), (.invokevirtual 192, 3, [116, 2, 2, 9, 1, 1400]), (.iadd, 1, []), (.bipush 48, 2, []), (.isub, 1, []), (.invokestatic 213, 3, [188, 2, 0, 0, 1, 1411]), (.putfield 209, 3, [9, 21, 0, 0, 0, 1187]), (.aload_n 0, 1, []), (.dup, 1, []), (.getfield 189, 3, [9, 18, 0, 0, 0, 1184]), (.iconst 1, 1, []), (.iadd, 1, []), (.putfield 189, 3, [9, 18, 0, 0, 0, 1184]), (.goto (-52), 3, [])]),
  (178, [true, false], [(.aload_n 0, 1, []), (.iconst 2, 1, []), (.putfield 199, 3, [9, 20, 0, 0, 0, 1186]), (.goto 29, 3, [])]),
  (186, [true, true], [(.aload_n 0, 1, []), (.dup, 1, []), (.getfield 189, 3, [9, 18, 0, 0, 0, 1184]), (.iconst 1, 1, []), (.iadd, 1, []), (.putfield 189, 3, [9, 18, 0, 0, 0, 1184]), (.aload_n 0, 1, []), (.iload_n 1, 1, []), (.invokestatic 219, 3, [119, 1, 0, 0, 1, 1412]), (.ifCond .eq 7, 3, []), (.iconst 3, 1, []), (.goto 4, 3, [])]),
  (208, [true, false], [(.iconst 4, 1, [])]),
  (209, [true, false], [(.putfield 199, 3, [9, 20, 0, 0, 0, 1186])]),
  (212, [true, false], [(.aload_n 0, 1, []), (.aload_n 0, 1, []), (.getfield 189, 3, [9, 18, 0, 0, 0, 1184]), (.putfield 222, 3, [9, 23, 0, 0, 0, 1189]), (.return_, 1, [])])]
/-- SlipRoomModel.wrong -/
noncomputable def z_b121 : z_B := [
  (0, [true, true], [(.aload_n 0, 1, []), (.getfield 225, 3, [9, 24, 0, 0, 0, 1190]), (.ifCond .eq 4, 3, []), (.return_, 1, [])]),
  (8, [true, true], [(.aload_n 0, 1, []), (.iload_n 1, 1, []), (.putfield 225, 3, [9, 24, 0, 0, 0, 1190]), (.aload_n 0, 1, []), (.aload_n 0, 1, []), (.getfield 196, 3, [9, 22, 0, 0, 0, 1188]), (.putfield 228, 3, [9, 25, 0, 0, 0, 1191]), (.return_, 1, [])])]
/-- SlipRoomModel.is -/
noncomputable def z_b122 : z_B := [
  (0, [true, true, false, false], [(.aload_n 0, 1, []), (.getfield 225, 3, [9, 24, 0, 0, 0, 1190]), (.ifCond .ne 31, 3, []), (.aload_n 0, 1, []), (.getfield 199, 3, [9, 20, 0, 0, 0, 1186]), (.iconst 1, 1, []), (.if_icmp .ne 23, 3, []), (.aload_n 1, 1, []), (.invokevirtual 231, 3, [0, 1, 7, 0, 1, 1419]), (.aload_n 0, 1, []), (.getfield 222, 3, [9, 23, 0, 0, 0, 1189]), (.aload_n 0, 1, []), (.getfield 196, 3, [9, 22, 0, 0, 0, 1188]), (.isub, 1, []), (.if_icmp .ne 7, 3, []), (.iconst 1, 1, []), (.goto 4, 3, [])]),
  (35, [true, true, false, false], [(.iconst 0, 1, [])]),
  (36, [true, true, false, false], [(.istore_n 2, 1, []), (.iconst 0, 1, []), (.istore_n 3, 1, [])]),
  (39, [true, true, true, true], [(.iload_n 2, 1, []), (.ifCond .eq 42, 3, []), (.iload_n 3, 1, []), (.aload_n 1, 1, []), (.invokevirtual 231, 3, [0, 1, 7, 0, 1, 1419]), (.if_icmp .ge 34, 3, []), (.aload_n 1, 1, []), (.iload_n 3, 1, []), (.invokevirtual 235, 3, [0, 2, 8, 0, 1, 1420]), (.aload_n 0, 1, []), (.getfield 61, 3, [9, 16, 2, 12, 0, 1182]), (.aload_n 0, 1, []), (.getfield 196, 3, [9, 22, 0, 0, 0, 1188]), (.iload_n 3, 1, []), (.iadd, 1, []), (.iaload, 1, []), (.if_icmp .ne 7, 3, []), (.iconst 1, 1, []), (.goto 4, 3, [])]),
  (74, [true, true, false, true], [(.iconst 0, 1, [])]),
  (75, [true, true, false, true], [(.istore_n 2, 1, []), (.iinc 3 1, 3, []), (.goto (-40), 3, [])]),
  (82, [false, false, true, false], [(.iload_n 2, 1, []), (.ireturn, 1, [])])]
/-- SlipRoomModel.isMarked -/
noncomputable def z_b123 : z_B := [
  (0, [true, true], [(.aload_n 0, 1, []), (.getfield 225, 3, [9, 24, 0, 0, 0, 1190]), (.ifCond .ne 28, 3, []), (.aload_n 0, 1, []), (.getfield 199, 3, [9, 20, 0, 0, 0, 1186]), (.iconst 3, 1, []), (.if_icmp .ne 20, 3, []), (.aload_n 0, 1, []), (.getfield 61, 3, [9, 16, 2, 12, 0, 1182]), (.aload_n 0, 1, []), (.getfield 196, 3, [9, 22, 0, 0, 0, 1188]), (.iaload, 1, []), (.iload_n 1, 1, []), (.if_icmp .ne 7, 3, []), (.iconst 1, 1, []), (.goto 4, 3, [])]),
  (32, [false, false], [(.iconst 0, 1, [])]),
  (33, [false, false], [(.ireturn, 1, [])])]
/-- SlipRoomModel.which -/
noncomputable def z_b124 : z_B := [
  (0, [true, true, false], [(.iconst 0, 1, []), (.istore_n 2, 1, [])]),
  (2, [true, true, true], [(.iload_n 2, 1, []), (.aload_n 1, 1, []), (.arraylength, 1, []), (.if_icmp .ge 21, 3, []), (.aload_n 0, 1, []), (.aload_n 1, 1, []), (.iload_n 2, 1, []), (.aaload, 1, []), (.invokevirtual 239, 3, [122, 2, 2, 9, 1, 1415]), (.ifCond .eq 5, 3, []), (.iload_n 2, 1, []), (.ireturn, 1, [])]),
  (20, [true, true, true], [(.iinc 2 1, 3, []), (.goto (-21), 3, [])]),
  (26, [false, false, false], [(.iconst (-1), 1, []), (.ireturn, 1, [])])]
/-- SlipRoomModel.passes -/
noncomputable def z_b125 : z_B := [
  (0, [true, true, false], [(.aload_n 0, 1, []), (.aload_n 1, 1, []), (.invokevirtual 239, 3, [122, 2, 2, 9, 1, 1415]), (.istore_n 2, 1, []), (.iload_n 2, 1, []), (.ifCond .eq 7, 3, []), (.aload_n 0, 1, []), (.invokevirtual 243, 3, [120, 1, 2, 9, 0, 1396])]),
  (14, [false, false, true], [(.iload_n 2, 1, []), (.ireturn, 1, [])])]
/-- SlipRoomModel.mark -/
noncomputable def z_b126 : z_B := [
  (0, [true, true], [(.aload_n 0, 1, []), (.getfield 225, 3, [9, 24, 0, 0, 0, 1190]), (.ifCond .ne 16, 3, []), (.aload_n 0, 1, []), (.iload_n 1, 1, []), (.invokevirtual 246, 3, [123, 2, 2, 9, 1, 1451]), (.ifCond .ne 8, 3, []), (.aload_n 0, 1, []), (.iconst 1, 1, []), (.invokevirtual 249, 3, [121, 2, 2, 9, 0, 1425])]),
  (20, [true, false], [(.aload_n 0, 1, []), (.getfield 225, 3, [9, 24, 0, 0, 0, 1190]), (.ifCond .ne 7, 3, []), (.aload_n 0, 1, []), (.invokevirtual 243, 3, [120, 1, 2, 9, 0, 1396])]),
  (31, [false, false], [(.return_, 1, [])])]
/-- SlipRoomModel.readNumber -/
noncomputable def z_b127 : z_B := [
  (0, [true, true, true, false], [(.aload_n 0, 1, []), (.getfield 225, 3, [9, 24, 0, 0, 0, 1190]), (.ifCond .eq 5, 3, []), (.iconst 0, 1, []), (.ireturn, 1, [])]),
  (9, [true, true, true, false], [(.aload_n 0, 1, []), (.getfield 199, 3, [9, 20, 0, 0, 0, 1186]), (.iconst 2, 1, []), (.if_icmp .eq 11, 3, []), (.aload_n 0, 1, []), (.iconst 1, 1, []), (.invokevirtual 249, 3, [121, 2, 2, 9, 0, 1425]), (.goto 37, 3, [])]),
  (25, [true, true, true, false], [(.aload_n 0, 1, []), (.getfield 222, 3, [9, 23, 0, 0, 0, 1189]), (.aload_n 0, 1, []), (.getfield 196, 3, [9, 22, 0, 0, 0, 1188]), (.isub, 1, []), (.iconst 4, 1, []), (.if_icmp .gt 19, 3, []), (.aload_n 0, 1, []), (.getfield 209, 3, [9, 21, 0, 0, 0, 1187]), (.iload_n 1, 1, []), (.if_icmp .lt 11, 3, []), (.aload_n 0, 1, []), (.getfield 209, 3, [9, 21, 0, 0, 0, 1187]), (.iload_n 2, 1, []), (.if_icmp .le 8, 3, [])]),
  (54, [true, false, false, false], [(.aload_n 0, 1, []), (.iconst 2, 1, []), (.invokevirtual 249, 3, [121, 2, 2, 9, 0, 1425])]),
  (59, [true, false, false, false], [(.aload_n 0, 1, []), (.getfield 209, 3, [9, 21, 0, 0, 0, 1187]), (.istore_n 3, 1, []), (.aload_n 0, 1, []), (.getfield 225, 3, [9, 24, 0, 0, 0, 1190]), (.ifCond .ne 7, 3, []), (.aload_n 0, 1, []), (.invokevirtual 243, 3, [120, 1, 2, 9, 0, 1396])]),
  (75, [false, false, false, true], [(.iload_n 3, 1, []), (.ireturn, 1, [])])]
/-- SlipRoomModel.lay -/
noncomputable def z_b128 : z_B := [
  (0, [true, true], [(.aload_n 0, 1, []), (.getfield 225, 3, [9, 24, 0, 0, 0, 1190]), (.ifCond .eq 4, 3, []), (.return_, 1, [])]),
  (8, [true, true], [(.aload_n 0, 1, []), (.getfield 51, 3, [9, 13, 2, 9, 0, 1179]), (.sipush 700, 3, []), (.aload_n 0, 1, []), (.getfield 253, 3, [9, 27, 0, 0, 0, 1193]), (.iadd, 1, []), (.iload_n 1, 1, []), (.iastore, 1, []), (.aload_n 0, 1, []), (.dup, 1, []), (.getfield 253, 3, [9, 27, 0, 0, 0, 1193]), (.iconst 1, 1, []), (.iadd, 1, []), (.putfield 253, 3, [9, 27, 0, 0, 0, 1193]), (.return_, 1, [])])]
/-- SlipRoomModel.readPart -/
noncomputable def z_b129 : z_B := [
  (0, [true, true, false], [(.aload_n 0, 1, []), (.getfield 225, 3, [9, 24, 0, 0, 0, 1190]), (.ifCond .eq 4, 3, []), (.return_, 1, [])]),
  (8, [true, true, false], [(.aload_n 0, 1, []), (.getfield 199, 3, [9, 20, 0, 0, 0, 1186]), (.iconst 2, 1, []), (.if_icmp .ne 16, 3, []), (.aload_n 0, 1, []), (.aload_n 0, 1, []), (.iconst 0, 1, []), (.sipush 9999, 3, []), (.invokevirtual 256, 3, [127, 3, 2, 9, 1, 1429]), (.invokevirtual 259, 3, [128, 2, 2, 9, 0, 1476]), (.return_, 1, [])]),
  (29, [true, true, false], [(.aload_n 0, 1, []), (.getfield 199, 3, [9, 20, 0, 0, 0, 1186]), (.iconst 1, 1, []), (.if_icmp .ne 41, 3, []), (.aload_n 0, 1, []), (.aload_n 0, 1, []), (.getfield 23, 3, [9, 0, 2, 1, 0, 1166]), (.invokevirtual 262, 3, [124, 2, 2, 9, 1, 1480]), (.istore_n 2, 1, []), (.iload_n 2, 1, []), (.iconst (-1), 1, []), (.if_icmp .ne 8, 3, []), (.aload_n 0, 1, []), (.iconst 3, 1, []), (.invokevirtual 249, 3, [121, 2, 2, 9, 0, 1425])]),
  (56, [true, false, true], [(.aload_n 0, 1, []), (.iconst (-1), 1, []), (.iload_n 2, 1, []), (.isub, 1, []), (.invokevirtual 259, 3, [128, 2, 2, 9, 0, 1476]), (.aload_n 0, 1, []), (.getfield 225, 3, [9, 24, 0, 0, 0, 1190]), (.ifCond .ne 7, 3, []), (.aload_n 0, 1, []), (.invokevirtual 243, 3, [120, 1, 2, 9, 0, 1396])]),
  (74, [false, false, false], [(.return_, 1, [])]),
  (75, [true, true, false], [(.aload_n 0, 1, []), (.bipush 40, 2, []), (.invokevirtual 266, 3, [126, 2, 2, 9, 0, 1484]), (.aload_n 0, 1, []), (.iload_n 1, 1, []), (.iconst 1, 1, []), (.iadd, 1, []), (.invokevirtual 269, 3, [134, 2, 2, 9, 0, 1447]), (.aload_n 0, 1, []), (.bipush 41, 2, []), (.invokevirtual 266, 3, [126, 2, 2, 9, 0, 1484]), (.return_, 1, [])])]
/-- SlipRoomModel.readProduct -/
noncomputable def z_b130 : z_B := [
  (0, [true, true, false], [(.aload_n 0, 1, []), (.iload_n 1, 1, []), (.invokevirtual 272, 3, [129, 2, 2, 9, 0, 1472])]),
  (5, [true, true, false], [(.aload_n 0, 1, []), (.bipush 42, 2, []), (.invokevirtual 246, 3, [123, 2, 2, 9, 1, 1451]), (.ifCond .ne 12, 3, []), (.aload_n 0, 1, []), (.bipush 47, 2, []), (.invokevirtual 246, 3, [123, 2, 2, 9, 1, 1451]), (.ifCond .eq 37, 3, [])]),
  (23, [true, true, false], [(.aload_n 0, 1, []), (.bipush 42, 2, []), (.invokevirtual 246, 3, [123, 2, 2, 9, 1, 1451]), (.ifCond .eq 8, 3, []), (.bipush (-22), 2, []), (.goto 5, 3, [])]),
  (37, [true, true, false], [(.bipush (-23), 2, [])]),
  (39, [true, true, false], [(.istore_n 2, 1, []), (.aload_n 0, 1, []), (.invokevirtual 243, 3, [120, 1, 2, 9, 0, 1396]), (.aload_n 0, 1, []), (.iload_n 1, 1, []), (.invokevirtual 272, 3, [129, 2, 2, 9, 0, 1472]), (.aload_n 0, 1, []), (.iload_n 2, 1, []), (.invokevirtual 259, 3, [128, 2, 2, 9, 0, 1476]), (.goto (-49), 3, [])]),
  (57, [false, false, false], [(.return_, 1, [])])]
/-- SlipRoomModel.readSum -/
noncomputable def z_b131 : z_B := [
  (0, [true, true, false], [(.aload_n 0, 1, []), (.iload_n 1, 1, []), (.invokevirtual 275, 3, [130, 2, 2, 9, 0, 1468])]),
  (5, [true, true, false], [(.aload_n 0, 1, []), (.bipush 43, 2, []), (.invokevirtual 246, 3, [123, 2, 2, 9, 1, 1451]), (.ifCond .ne 12, 3, []), (.aload_n 0, 1, []), (.bipush 45, 2, []), (.invokevirtual 246, 3, [123, 2, 2, 9, 1, 1451]), (.ifCond .eq 37, 3, [])]),
  (23, [true, true, false], [(.aload_n 0, 1, []), (.bipush 43, 2, []), (.invokevirtual 246, 3, [123, 2, 2, 9, 1, 1451]), (.ifCond .eq 8, 3, []), (.bipush (-20), 2, []), (.goto 5, 3, [])]),
  (37, [true, true, false], [(.bipush (-21), 2, [])]),
  (39, [true, true, false], [(.istore_n 2, 1, []), (.aload_n 0, 1, []), (.invokevirtual 243, 3, [120, 1, 2, 9, 0, 1396]), (.aload_n 0, 1, []), (.iload_n 1, 1, []), (.invokevirtual 275, 3, [130, 2, 2, 9, 0, 1468]), (.aload_n 0, 1, []), (.iload_n 2, 1, []), (.invokevirtual 259, 3, [128, 2, 2, 9, 0, 1476]), (.goto (-49), 3, [])]),
  (57, [false, false, false], [(.return_, 1, [])])]
/-- SlipRoomModel.readNot -/
noncomputable def z_b132 : z_B := [
  (0, [true, true, false, false], [(.iconst 0, 1, []), (.istore_n 2, 1, [])]),
  (2, [true, true, true, false], [(.aload_n 0, 1, []), (.ldc_w 278, 3, [1, 1210, 1463]), (.invokevirtual 239, 3, [122, 2, 2, 9, 1, 1415]), (.ifCond .eq 31, 3, []), (.iload_n 2, 1, []), (.bipush 6, 2, []), (.if_icmp .ne 8, 3, []), (.aload_n 0, 1, []), (.iconst 2, 1, []), (.invokevirtual 249, 3, [121, 2, 2, 9, 0, 1425])]),
  (23, [true, true, true, false], [(.iinc 2 1, 3, []), (.aload_n 0, 1, []), (.getfield 225, 3, [9, 24, 0, 0, 0, 1190]), (.ifCond .ne (-28), 3, []), (.aload_n 0, 1, []), (.invokevirtual 243, 3, [120, 1, 2, 9, 0, 1396]), (.goto (-35), 3, [])]),
  (40, [true, true, true, false], [(.aload_n 0, 1, []), (.iload_n 1, 1, []), (.invokevirtual 280, 3, [131, 2, 2, 9, 0, 1464]), (.aload_n 0, 1, []), (.bipush 60, 2, []), (.invokevirtual 246, 3, [123, 2, 2, 9, 1, 1451]), (.ifCond .ne 12, 3, []), (.aload_n 0, 1, []), (.bipush 61, 2, []), (.invokevirtual 246, 3, [123, 2, 2, 9, 1, 1451]), (.ifCond .eq 34, 3, [])]),
  (63, [true, true, true, false], [(.aload_n 0, 1, []), (.bipush 60, 2, []), (.invokevirtual 246, 3, [123, 2, 2, 9, 1, 1451]), (.ifCond .eq 8, 3, []), (.bipush (-24), 2, []), (.goto 5, 3, [])]),
  (77, [true, true, true, false], [(.bipush (-25), 2, [])]),
  (79, [true, true, true, false], [(.istore_n 3, 1, []), (.aload_n 0, 1, []), (.invokevirtual 243, 3, [120, 1, 2, 9, 0, 1396]), (.aload_n 0, 1, []), (.iload_n 1, 1, []), (.invokevirtual 280, 3, [131, 2, 2, 9, 0, 1464]), (.aload_n 0, 1, []), (.iload_n 3, 1, []), (.invokevirtual 259, 3, [128, 2, 2, 9, 0, 1476])]),
  (94, [true, false, true, false], [(.iconst 0, 1, []), (.istore_n 3, 1, [])]),
  (96, [true, false, true, true], [(.iload_n 3, 1, []), (.iload_n 2, 1, []), (.if_icmp .ge 15, 3, []), (.aload_n 0, 1, []), (.bipush (-28), 2, []), (.invokevirtual 259, 3, [128, 2, 2, 9, 0, 1476]), (.iinc 3 1, 3, []), (.goto (-14), 3, [])]),
  (113, [false, false, false, false], [(.return_, 1, [])])]
/-- SlipRoomModel.readAnd -/
noncomputable def z_b133 : z_B := [
  (0, [true, true], [(.aload_n 0, 1, []), (.iload_n 1, 1, []), (.invokevirtual 283, 3, [132, 2, 2, 9, 0, 1459])]),
  (5, [true, true], [(.aload_n 0, 1, []), (.ldc_w 286, 3, [1, 1209, 1488]), (.invokevirtual 239, 3, [122, 2, 2, 9, 1, 1415]), (.ifCond .eq 21, 3, []), (.aload_n 0, 1, []), (.invokevirtual 243, 3, [120, 1, 2, 9, 0, 1396]), (.aload_n 0, 1, []), (.iload_n 1, 1, []), (.invokevirtual 283, 3, [132, 2, 2, 9, 0, 1459]), (.aload_n 0, 1, []), (.bipush (-26), 2, []), (.invokevirtual 259, 3, [128, 2, 2, 9, 0, 1476]), (.goto (-25), 3, [])]),
  (33, [false, false], [(.return_, 1, [])])]
/-- SlipRoomModel.readExpression -/
noncomputable def z_b134 : z_B := [
  (0, [true, true, false], [(.aload_n 0, 1, []), (.getfield 225, 3, [9, 24, 0, 0, 0, 1190]), (.ifCond .eq 4, 3, []), (.return_, 1, [])]),
  (8, [true, true, false], [(.aload_n 0, 1, []), (.getfield 199, 3, [9, 20, 0, 0, 0, 1186]), (.iconst 2, 1, []), (.if_icmp .eq 20, 3, []), (.aload_n 0, 1, []), (.getfield 199, 3, [9, 20, 0, 0, 0, 1186]), (.iconst 1, 1, []), (.if_icmp .eq 12, 3, []), (.aload_n 0, 1, []), (.bipush 40, 2, []), (.invokevirtual 246, 3, [123, 2, 2, 9, 1, 1451]), (.ifCond .eq 7, 3, [])]),
  (33, [true, true, false], [(.iconst 1, 1, []), (.goto 4, 3, [])]),
  (37, [true, true, false], [(.iconst 0, 1, [])]),
  (38, [true, true, false], [(.istore_n 2, 1, []), (.iload_n 2, 1, []), (.ifCond .ne 11, 3, []), (.aload_n 0, 1, []), (.iconst 1, 1, []), (.invokevirtual 249, 3, [121, 2, 2, 9, 0, 1425]), (.goto 14, 3, [])]),
  (51, [true, true, false], [(.iload_n 1, 1, []), (.bipush 6, 2, []), (.if_icmp .ne 8, 3, []), (.aload_n 0, 1, []), (.iconst 2, 1, []), (.invokevirtual 249, 3, [121, 2, 2, 9, 0, 1425])]),
  (62, [true, true, false], [(.aload_n 0, 1, []), (.iload_n 1, 1, []), (.invokevirtual 288, 3, [133, 2, 2, 9, 0, 1455])]),
  (67, [true, true, false], [(.aload_n 0, 1, []), (.ldc_w 291, 3, [1, 1208, 1489]), (.invokevirtual 239, 3, [122, 2, 2, 9, 1, 1415]), (.ifCond .eq 21, 3, []), (.aload_n 0, 1, []), (.invokevirtual 243, 3, [120, 1, 2, 9, 0, 1396]), (.aload_n 0, 1, []), (.iload_n 1, 1, []), (.invokevirtual 288, 3, [133, 2, 2, 9, 0, 1455]), (.aload_n 0, 1, []), (.bipush (-27), 2, []), (.invokevirtual 259, 3, [128, 2, 2, 9, 0, 1476]), (.goto (-25), 3, [])]),
  (95, [false, false, false], [(.return_, 1, [])])]
/-- SlipRoomModel.readBook -/
noncomputable def z_b135 : z_B := [
  (0, [true, false], [(.aload_n 0, 1, []), (.getfield 293, 3, [9, 4, 0, 0, 0, 1170]), (.bipush 10, 2, []), (.if_icmp .ne 8, 3, []), (.aload_n 0, 1, []), (.iconst 2, 1, []), (.invokevirtual 249, 3, [121, 2, 2, 9, 0, 1425])]),
  (14, [true, false], [(.aload_n 0, 1, []), (.getfield 225, 3, [9, 24, 0, 0, 0, 1190]), (.ifCond .eq 4, 3, []), (.return_, 1, [])]),
  (22, [true, false], [(.aload_n 0, 1, []), (.invokevirtual 243, 3, [120, 1, 2, 9, 0, 1396]), (.bipush 10, 2, []), (.aload_n 0, 1, []), (.getfield 293, 3, [9, 4, 0, 0, 0, 1170]), (.iadd, 1, []), (.istore_n 1, 1, []), (.aload_n 0, 1, []), (.getfield 29, 3, [9, 6, 2, 2, 0, 1172]), (.iload_n 1, 1, []), (.aload_n 0, 1, []), (.iconst 1, 1, []), (.sipush 400, 3, []), (.invokevirtual 256, 3, [127, 3, 2, 9, 1, 1429]), (.iastore, 1, []), (.aload_n 0, 1, []), (.getfield 33, 3, [9, 7, 2, 3, 0, 1173]), (.iload_n 1, 1, []), (.aload_n 0, 1, []), (.ldc_w 296, 3, [1, 1202, 1433]), (.invokevirtual 297, 3, [125, 2, 2, 9, 1, 1434]), (.ifCond .eq 14, 3, []), (.aload_n 0, 1, []), (.iconst 1, 1, []), (.sipush 400, 3, []), (.invokevirtual 256, 3, [127, 3, 2, 9, 1, 1429]), (.goto 4, 3, [])]),
  (74, [true, false], [(.iconst 0, 1, [])]),
  (75, [true, false], [(.iastore, 1, []), (.aload_n 0, 1, []), (.dup, 1, []), (.getfield 293, 3, [9, 4, 0, 0, 0, 1170]), (.iconst 1, 1, []), (.iadd, 1, []), (.putfield 293, 3, [9, 4, 0, 0, 0, 1170]), (.return_, 1, [])])]
/-- SlipRoomModel.readReader -/
noncomputable def z_b136 : z_B := [
  (0, [true, false], [(.aload_n 0, 1, []), (.getfield 300, 3, [9, 5, 0, 0, 0, 1171]), (.bipush 8, 2, []), (.if_icmp .ne 8, 3, []), (.aload_n 0, 1, []), (.iconst 2, 1, []), (.invokevirtual 249, 3, [121, 2, 2, 9, 0, 1425])]),
  (14, [true, false], [(.aload_n 0, 1, []), (.getfield 225, 3, [9, 24, 0, 0, 0, 1190]), (.ifCond .eq 4, 3, []), (.return_, 1, [])]),
  (22, [true, false], [(.aload_n 0, 1, []), (.invokevirtual 243, 3, [120, 1, 2, 9, 0, 1396]), (.bipush 8, 2, []), (.aload_n 0, 1, []), (.getfield 300, 3, [9, 5, 0, 0, 0, 1171]), (.iadd, 1, []), (.istore_n 1, 1, []), (.aload_n 0, 1, []), (.getfield 36, 3, [9, 8, 2, 4, 0, 1174]), (.iload_n 1, 1, []), (.aload_n 0, 1, []), (.iconst 1, 1, []), (.bipush 60, 2, []), (.invokevirtual 256, 3, [127, 3, 2, 9, 1, 1429]), (.iastore, 1, []), (.aload_n 0, 1, []), (.getfield 39, 3, [9, 9, 2, 5, 0, 1175]), (.iload_n 1, 1, []), (.aload_n 0, 1, []), (.ldc_w 303, 3, [1, 1204, 1443]), (.invokevirtual 297, 3, [125, 2, 2, 9, 1, 1434]), (.ifCond .eq 12, 3, []), (.aload_n 0, 1, []), (.iconst 0, 1, []), (.iconst 3, 1, []), (.invokevirtual 256, 3, [127, 3, 2, 9, 1, 1429]), (.goto 4, 3, [])]),
  (71, [true, true], [(.iconst 0, 1, [])]),
  (72, [true, true], [(.iastore, 1, []), (.aload_n 0, 1, []), (.getfield 42, 3, [9, 10, 2, 6, 0, 1176]), (.iload_n 1, 1, []), (.aload_n 0, 1, []), (.ldc_w 304, 3, [1, 1205, 1444]), (.invokevirtual 297, 3, [125, 2, 2, 9, 1, 1434]), (.ifCond .eq 13, 3, []), (.aload_n 0, 1, []), (.iconst 0, 1, []), (.bipush 20, 2, []), (.invokevirtual 256, 3, [127, 3, 2, 9, 1, 1429]), (.goto 4, 3, [])]),
  (98, [true, true], [(.iconst 0, 1, [])]),
  (99, [true, true], [(.iastore, 1, []), (.aload_n 0, 1, []), (.getfield 57, 3, [9, 15, 2, 11, 0, 1181]), (.iload_n 1, 1, []), (.aload_n 0, 1, []), (.ldc_w 305, 3, [1, 1206, 1445]), (.invokevirtual 297, 3, [125, 2, 2, 9, 1, 1434]), (.bastore, 1, []), (.aload_n 0, 1, []), (.getfield 45, 3, [9, 11, 2, 7, 0, 1177]), (.iload_n 1, 1, []), (.aload_n 0, 1, []), (.getfield 253, 3, [9, 27, 0, 0, 0, 1193]), (.iastore, 1, []), (.aload_n 0, 1, []), (.ldc_w 306, 3, [1, 1207, 1446]), (.invokevirtual 297, 3, [125, 2, 2, 9, 1, 1434]), (.ifCond .eq 8, 3, []), (.aload_n 0, 1, []), (.iconst 0, 1, []), (.invokevirtual 269, 3, [134, 2, 2, 9, 0, 1447])]),
  (138, [true, true], [(.aload_n 0, 1, []), (.getfield 48, 3, [9, 12, 2, 8, 0, 1178]), (.iload_n 1, 1, []), (.aload_n 0, 1, []), (.getfield 253, 3, [9, 27, 0, 0, 0, 1193]), (.iastore, 1, []), (.aload_n 0, 1, []), (.dup, 1, []), (.getfield 300, 3, [9, 5, 0, 0, 0, 1171]), (.iconst 1, 1, []), (.iadd, 1, []), (.putfield 300, 3, [9, 5, 0, 0, 0, 1171]), (.return_, 1, [])])]
/-- SlipRoomModel.room -/
noncomputable def z_b137 : z_B := [
  (0, [true, true], [(.aload_n 0, 1, []), (.iconst 0, 1, []), (.putfield 170, 3, [9, 1, 0, 0, 0, 1167]), (.iload_n 1, 1, []), (.ifCond .lt 11, 3, []), (.iload_n 1, 1, []), (.aload_n 0, 1, []), (.getfield 183, 3, [9, 17, 0, 0, 0, 1183]), (.if_icmp .le 9, 3, [])]),
  (17, [true, false], [(.aload_n 0, 1, []), (.iconst 1, 1, []), (.invokevirtual 308, 3, [111, 2, 2, 9, 1, 1392]), (.ireturn, 1, [])]),
  (23, [true, true], [(.aload_n 0, 1, []), (.iconst 0, 1, []), (.putfield 183, 3, [9, 17, 0, 0, 0, 1183]), (.aload_n 0, 1, []), (.iload_n 1, 1, []), (.putfield 186, 3, [9, 19, 0, 0, 0, 1185]), (.aload_n 0, 1, []), (.iconst 0, 1, []), (.putfield 189, 3, [9, 18, 0, 0, 0, 1184]), (.aload_n 0, 1, []), (.iconst 0, 1, []), (.putfield 225, 3, [9, 24, 0, 0, 0, 1190]), (.aload_n 0, 1, []), (.iconst (-1), 1, []), (.putfield 64, 3, [9, 26, 0, 0, 0, 1192]), (.aload_n 0, 1, []), (.iconst 0, 1, []), (.putfield 253, 3, [9, 27, 0, 0, 0, 1193]), (.aload_n 0, 1, []), (.iconst 0, 1, []), (.putfield 293, 3, [9, 4, 0, 0, 0, 1170]), (.aload_n 0, 1, []), (.iconst 0, 1, []), (.putfield 300, 3, [9, 5, 0, 0, 0, 1171]), (.aload_n 0, 1, []), (.invokevirtual 243, 3, [120, 1, 2, 9, 0, 1396])]),
  (67, [true, false], [(.aload_n 0, 1, []), (.getfield 225, 3, [9, 24, 0, 0, 0, 1190]), (.ifCond .ne 57, 3, []), (.aload_n 0, 1, []), (.getfield 199, 3, [9, 20, 0, 0, 0, 1186]), (.ifCond .eq 50, 3, []), (.aload_n 0, 1, []), (.ldc 21, 2, [1, 1201, 1165]), (.invokevirtual 239, 3, [122, 2, 2, 9, 1, 1415]), (.ifCond .eq 10, 3, []), (.aload_n 0, 1, []), (.invokevirtual 311, 3, [135, 1, 2, 9, 0, 1421]), (.goto 25, 3, [])]),
  (97, [true, false], [(.aload_n 0, 1, []), (.ldc_w 314, 3, [1, 1203, 1438]), (.invokevirtual 239, 3, [122, 2, 2, 9, 1, 1415]), (.ifCond .eq 10, 3, []), (.aload_n 0, 1, []), (.invokevirtual 316, 3, [136, 1, 2, 9, 0, 1439]), (.goto 8, 3, [])]),
  (114, [true, false], [(.aload_n 0, 1, []), (.iconst 1, 1, []), (.invokevirtual 249, 3, [121, 2, 2, 9, 0, 1425])]),
  (119, [true, false], [(.aload_n 0, 1, []), (.bipush 59, 2, []), (.invokevirtual 266, 3, [126, 2, 2, 9, 0, 1484]), (.goto (-58), 3, [])]),
  (128, [true, false], [(.aload_n 0, 1, []), (.getfield 225, 3, [9, 24, 0, 0, 0, 1190]), (.ifCond .eq 26, 3, []), (.aload_n 0, 1, []), (.aload_n 0, 1, []), (.getfield 228, 3, [9, 25, 0, 0, 0, 1191]), (.putfield 64, 3, [9, 26, 0, 0, 0, 1192]), (.aload_n 0, 1, []), (.getfield 54, 3, [9, 14, 2, 10, 0, 1180]), (.iconst 0, 1, []), (.dup2, 1, []), (.iaload, 1, []), (.iconst 1, 1, []), (.iadd, 1, []), (.iastore, 1, []), (.aload_n 0, 1, []), (.getfield 225, 3, [9, 24, 0, 0, 0, 1190]), (.ireturn, 1, [])]),
  (158, [true, false], [(.aload_n 0, 1, []), (.invokevirtual 319, 3, [138, 1, 2, 9, 0, 1490]), (.iconst 0, 1, []), (.ireturn, 1, [])])]
/-- SlipRoomModel.take -/
noncomputable def z_b138 : z_B := [
  (0, [true, false], [(.aload_n 0, 1, []), (.aload_n 0, 1, []), (.getfield 293, 3, [9, 4, 0, 0, 0, 1170]), (.putfield 173, 3, [9, 2, 0, 0, 0, 1168]), (.aload_n 0, 1, []), (.aload_n 0, 1, []), (.getfield 300, 3, [9, 5, 0, 0, 0, 1171]), (.putfield 180, 3, [9, 3, 0, 0, 0, 1169]), (.iconst 0, 1, []), (.istore_n 1, 1, [])]),
  (18, [true, true], [(.iload_n 1, 1, []), (.bipush 10, 2, []), (.if_icmp .ge 39, 3, []), (.aload_n 0, 1, []), (.getfield 29, 3, [9, 6, 2, 2, 0, 1172]), (.iload_n 1, 1, []), (.aload_n 0, 1, []), (.getfield 29, 3, [9, 6, 2, 2, 0, 1172]), (.bipush 10, 2, []), (.iload_n 1, 1, []), (.iadd, 1, []), (.iaload, 1, []), (.iastore, 1, []), (.aload_n 0, 1, []), (.getfield 33, 3, [9, 7, 2, 3, 0, 1173]), (.iload_n 1, 1, []), (.aload_n 0, 1, []), (.getfield 33, 3, [9, 7, 2, 3, 0, 1173]), (.bipush 10, 2, []), (.iload_n 1, 1, []), (.iadd, 1, []), (.iaload, 1, []), (.iastore, 1, []), (.iinc 1 1, 3, []), (.goto (-39), 3, [])]),
  (60, [true, false], [(.iconst 0, 1, []), (.istore_n 1, 1, [])]),
  (62, [true, true], [(.iload_n 1, 1, []), (.bipush 8, 2, []), (.if_icmp .ge 99, 3, []), (.aload_n 0, 1, []), (.getfield 36, 3, [9, 8, 2, 4, 0, 1174]), (.iload_n 1, 1, []), (.aload_n 0, 1, []), (.getfield 36, 3, [9, 8, 2, 4, 0, 1174]), (.bipush 8, 2, []), (.iload_n 1, 1, []), (.iadd, 1, []), (.iaload, 1, []), (.iastore, 1, []), (.aload_n 0, 1, []), (.getfield 39, 3, [9, 9, 2, 5, 0, 1175]), (.iload_n 1, 1, []), (.aload_n 0, 1, []), (.getfield 39, 3, [9, 9, 2, 5, 0, 1175]), (.bipush 8, 2, []), (.iload_n 1, 1, []), (.iadd, 1, []), (.iaload, 1, []), (.iastore, 1, []), (.aload_n 0, 1, []), (.getfield 42, 3, [9, 10, 2, 6, 0, 1176]), (.iload_n 1, 1, []), (.aload_n 0, 1, []), (.getfield 42, 3, [9, 10, 2, 6, 0, 1176]), (.bipush 8, 2, []), (.iload_n 1, 1, []), (.iadd, 1, []), (.iaload, 1, []), (.iastore, 1, []), (.aload_n 0, 1, []), (.getfield 57, 3, [9, 15, 2, 11, 0, 1181]), (.iload_n 1, 1, []), (.aload_n 0, 1, []), (.getfield 57, 3, [9, 15, 2, 11, 0, 1181]), (.bipush 8, 2, []), (.iload_n 1, 1, []), (.iadd, 1, []), (.baload, 1, []), (.bastore, 1, []), (.aload_n 0, 1, []), (.getfield 45, 3, [9, 11, 2, 7, 0, 1177]), (.iload_n 1, 1, []), (.aload_n 0, 1, []), (.getfield 45, 3, [9, 11, 2, 7, 0, 1177]), (.bipush 8, 2, []), (.iload_n 1, 1, []), (.iadd, 1, []), (.iaload, 1, []), (.iastore, 1, []), (.aload_n 0, 1, []), (.getfield 48, 3, [9, 12, 2, 8, 0, 1178]), (.iload_n 1, 1, []), (.aload_n 0, 1, []), (.getfield 48, 3, [9, 12, 2, 8, 0, 1178]), (.bipush 8, 2, []), (.iload_n 1, 1, []), (.iadd, 1, []), (.iaload, 1, []), (.iastore, 1, []), (.iinc 1 1, 3, []), (.goto (-99), 3, [])]),
  (164, [true, false], [(.iconst 0, 1, []), (.istore_n 1, 1, [])]),
  (166, [true, true], [(.iload_n 1, 1, []), (.aload_n 0, 1, []), (.getfield 253, 3, [9, 27, 0, 0, 0, 1193]), (.if_icmp .ge 25, 3, []), (.aload_n 0, 1, []), (.getfield 51, 3, [9, 13, 2, 9, 0, 1179]), (.iload_n 1, 1, []), (.aload_n 0, 1, []), (.getfield 51, 3, [9, 13, 2, 9, 0, 1179]), (.sipush 700, 3, []), (.iload_n 1, 1, []), (.iadd, 1, []), (.iaload, 1, []), (.iastore, 1, []), (.iinc 1 1, 3, []), (.goto (-27), 3, [])]),
  (196, [true, false], [(.aload_n 0, 1, []), (.iconst 0, 1, []), (.putfield 322, 3, [9, 28, 0, 0, 0, 1194]), (.aload_n 0, 1, []), (.iconst 0, 1, []), (.putfield 325, 3, [9, 29, 0, 0, 0, 1195]), (.aload_n 0, 1, []), (.iconst 0, 1, []), (.putfield 328, 3, [9, 44, 0, 0, 0, 1210]), (.aload_n 0, 1, []), (.iconst 0, 1, []), (.putfield 331, 3, [9, 57, 0, 0, 0, 1223]), (.aload_n 0, 1, []), (.iconst (-1), 1, []), (.putfield 155, 3, [9, 63, 0, 0, 0, 1229]), (.aload_n 0, 1, []), (.iconst 0, 1, []), (.putfield 334, 3, [9, 67, 0, 1, 0, 1233]), (.iconst 0, 1, []), (.istore_n 1, 1, [])]),
  (228, [true, true], [(.iload_n 1, 1, []), (.bipush 10, 2, []), (.if_icmp .ge 16, 3, []), (.aload_n 0, 1, []), (.getfield 77, 3, [9, 33, 2, 16, 0, 1199]), (.iload_n 1, 1, []), (.iconst 0, 1, []), (.iastore, 1, []), (.iinc 1 1, 3, []), (.goto (-16), 3, [])]),
  (247, [true, false], [(.iconst 0, 1, []), (.istore_n 1, 1, [])]),
  (249, [true, true], [(.iload_n 1, 1, []), (.bipush 8, 2, []), (.if_icmp .ge 16, 3, []), (.aload_n 0, 1, []), (.getfield 80, 3, [9, 34, 2, 17, 0, 1200]), (.iload_n 1, 1, []), (.iconst 0, 1, []), (.iastore, 1, []), (.iinc 1 1, 3, []), (.goto (-16), 3, [])]),
  (268, [true, false], [(.iconst 0, 1, []), (.istore_n 1, 1, [])]),
  (270, [true, true], [(.iload_n 1, 1, []), (.bipush 80, 2, []), (.if_icmp .ge 30, 3, []), (.aload_n 0, 1, []), (.getfield 68, 3, [9, 30, 2, 13, 0, 1196]), (.iload_n 1, 1, []), (.iconst 0, 1, []), (.iastore, 1, []), (.aload_n 0, 1, []), (.getfield 71, 3, [9, 31, 2, 14, 0, 1197]), (.iload_n 1, 1, []), (.iconst 0, 1, []), (.iastore, 1, []), (.aload_n 0, 1, []), (.getfield 74, 3, [9, 32, 2, 15, 0, 1198]), (.iload_n 1, 1, []), (.iconst (-1), 1, []), (.iastore, 1, []), (.iinc 1 1, 3, []), (.goto (-30), 3, [])]),
  (303, [true, false], [(.iconst 0, 1, []), (.istore_n 1, 1, [])]),
  (305, [true, true], [(.iload_n 1, 1, []), (.sipush 32080, 3, []), (.if_icmp .ge 16, 3, []), (.aload_n 0, 1, []), (.getfield 83, 3, [9, 35, 2, 18, 0, 1201]), (.iload_n 1, 1, []), (.iconst 0, 1, []), (.bastore, 1, []), (.iinc 1 1, 3, []), (.goto (-17), 3, [])]),
  (325, [true, false], [(.iconst 0, 1, []), (.istore_n 1, 1, [])]),
  (327, [true, true], [(.iload_n 1, 1, []), (.bipush 60, 2, []), (.if_icmp .ge 16, 3, []), (.aload_n 0, 1, []), (.getfield 158, 3, [9, 65, 2, 42, 0, 1231]), (.iload_n 1, 1, []), (.iconst 0, 1, []), (.iastore, 1, []), (.iinc 1 1, 3, []), (.goto (-16), 3, [])]),
  (346, [false, false], [(.return_, 1, [])])]
/-- SlipRoomModel.fault -/
noncomputable def z_b139 : z_B := [
  (0, [true], [(.aload_n 0, 1, []), (.iconst 0, 1, []), (.putfield 170, 3, [9, 1, 0, 0, 0, 1167]), (.aload_n 0, 1, []), (.getfield 64, 3, [9, 26, 0, 0, 0, 1192]), (.ireturn, 1, [])])]
/-- SlipRoomModel.count -/
noncomputable def z_b140 : z_B := [
  (0, [true, true], [(.aload_n 0, 1, []), (.iconst 0, 1, []), (.putfield 170, 3, [9, 1, 0, 0, 0, 1167]), (.iload_n 1, 1, []), (.bipush 7, 2, []), (.bipush 11, 2, []), (.invokestatic 176, 3, [112, 3, 0, 0, 1, 1502]), (.ifCond .eq 13, 3, []), (.aload_n 0, 1, []), (.getfield 54, 3, [9, 14, 2, 10, 0, 1180]), (.iload_n 1, 1, []), (.bipush 7, 2, []), (.isub, 1, []), (.iaload, 1, []), (.ireturn, 1, [])]),
  (26, [true, true], [(.iload_n 1, 1, []), (.tableswitch 76 0 6 #[41, 46, 51, 56, 61, 66, 71], 41, [])]),
  (68, [true, false], [(.aload_n 0, 1, []), (.getfield 173, 3, [9, 2, 0, 0, 0, 1168]), (.ireturn, 1, [])]),
  (73, [true, false], [(.aload_n 0, 1, []), (.getfield 180, 3, [9, 3, 0, 0, 0, 1169]), (.ireturn, 1, [])]),
  (78, [true, false], [(.aload_n 0, 1, []), (.getfield 322, 3, [9, 28, 0, 0, 0, 1194]), (.ireturn, 1, [])]),
  (83, [true, false], [(.aload_n 0, 1, []), (.getfield 328, 3, [9, 44, 0, 0, 0, 1210]), (.ireturn, 1, [])]),
  (88, [true, false], [(.aload_n 0, 1, []), (.getfield 331, 3, [9, 57, 0, 0, 0, 1223]), (.ireturn, 1, [])]),
  (93, [true, false], [(.aload_n 0, 1, []), (.getfield 183, 3, [9, 17, 0, 0, 0, 1183]), (.ireturn, 1, [])]),
  (98, [true, false], [(.aload_n 0, 1, []), (.getfield 325, 3, [9, 29, 0, 0, 0, 1195]), (.ireturn, 1, [])]),
  (103, [true, false], [(.aload_n 0, 1, []), (.iconst 1, 1, []), (.invokevirtual 308, 3, [111, 2, 2, 9, 1, 1392]), (.ireturn, 1, [])])]
/-- SlipRoomModel.pair -/
noncomputable def z_b141 : z_B := [
  (0, [true, true], [(.bipush 8, 2, []), (.iload_n 1, 1, []), (.imul, 1, []), (.iload_n 0, 1, []), (.iadd, 1, []), (.ireturn, 1, [])])]
/-- SlipRoomModel.hasRead -/
noncomputable def z_b142 : z_B := [
  (0, [true, true, true, true], [(.aload_n 0, 1, []), (.getfield 83, 3, [9, 35, 2, 18, 0, 1201]), (.sipush 401, 3, []), (.iload_n 1, 1, []), (.iload_n 2, 1, []), (.invokestatic 338, 3, [141, 2, 0, 0, 1, 1521]), (.imul, 1, []), (.iload_n 3, 1, []), (.iadd, 1, []), (.baload, 1, []), (.ireturn, 1, [])])]
/-- SlipRoomModel.unopened -/
noncomputable def z_b143 : z_B := [
  (0, [true, true, false, false, false, false], [(.iconst 0, 1, []), (.istore_n 2, 1, []), (.iconst 1, 1, []), (.istore_n 3, 1, [])]),
  (4, [true, true, true, true, false, false], [(.iload_n 3, 1, []), (.aload_n 0, 1, []), (.getfield 29, 3, [9, 6, 2, 2, 0, 1172]), (.iload_n 1, 1, []), (.iaload, 1, []), (.if_icmp .gt 56, 3, []), (.iconst 0, 1, []), (.istore 4, 2, []), (.iconst 0, 1, []), (.istore 5, 2, [])]),
  (20, [true, true, true, true, true, true], [(.iload 5, 2, []), (.aload_n 0, 1, []), (.getfield 180, 3, [9, 3, 0, 0, 0, 1169]), (.if_icmp .ge 22, 3, []), (.iload 4, 2, []), (.aload_n 0, 1, []), (.iload 5, 2, []), (.iload_n 1, 1, []), (.iload_n 3, 1, []), (.invokevirtual 341, 3, [142, 4, 2, 9, 1, 1517]), (.ior, 1, []), (.istore 4, 2, []), (.iinc 5 1, 3, []), (.goto (-25), 3, [])]),
  (48, [true, true, true, true, true, false], [(.iload_n 2, 1, []), (.iload 4, 2, []), (.ifCond .eq 7, 3, []), (.iconst 0, 1, []), (.goto 4, 3, [])]),
  (58, [true, true, false, true, false, false], [(.iconst 1, 1, [])]),
  (59, [true, true, false, true, false, false], [(.iadd, 1, []), (.istore_n 2, 1, []), (.iinc 3 1, 3, []), (.goto (-60), 3, [])]),
  (67, [false, false, true, false, false, false], [(.iload_n 2, 1, []), (.ireturn, 1, [])])]
/-- SlipRoomModel.slipsIn -/
noncomputable def z_b144 : z_B := [
  (0, [true, true, false, false], [(.iconst 0, 1, []), (.istore_n 2, 1, []), (.iconst 0, 1, []), (.istore_n 3, 1, [])]),
  (4, [true, true, true, true], [(.iload_n 3, 1, []), (.aload_n 0, 1, []), (.getfield 180, 3, [9, 3, 0, 0, 0, 1169]), (.if_icmp .ge 30, 3, []), (.iload_n 2, 1, []), (.aload_n 0, 1, []), (.getfield 68, 3, [9, 30, 2, 13, 0, 1196]), (.iload_n 3, 1, []), (.iload_n 1, 1, []), (.invokestatic 338, 3, [141, 2, 0, 0, 1, 1521]), (.iaload, 1, []), (.ifCond .le 7, 3, []), (.iconst 1, 1, []), (.goto 4, 3, [])]),
  (30, [true, true, false, true], [(.iconst 0, 1, [])]),
  (31, [true, true, false, true], [(.iadd, 1, []), (.istore_n 2, 1, []), (.iinc 3 1, 3, []), (.goto (-32), 3, [])]),
  (39, [false, false, true, false], [(.iload_n 2, 1, []), (.ireturn, 1, [])])]
/-- SlipRoomModel.book -/
noncomputable def z_b145 : z_B := [
  (0, [true, true, true], [(.aload_n 0, 1, []), (.iconst 0, 1, []), (.putfield 170, 3, [9, 1, 0, 0, 0, 1167]), (.aload_n 0, 1, []), (.iload_n 1, 1, []), (.invokevirtual 344, 3, [113, 2, 2, 9, 1, 1509]), (.ifCond .ne 9, 3, []), (.aload_n 0, 1, []), (.iconst 1, 1, []), (.invokevirtual 308, 3, [111, 2, 2, 9, 1, 1392]), (.ireturn, 1, [])]),
  (19, [true, true, true], [(.iload_n 2, 1, []), (.tableswitch 69 0 4 #[36, 43, 50, 56, 62], 36, [])]),
  (56, [true, true, false], [(.aload_n 0, 1, []), (.getfield 29, 3, [9, 6, 2, 2, 0, 1172]), (.iload_n 1, 1, []), (.iaload, 1, []), (.ireturn, 1, [])]),
  (63, [true, true, false], [(.aload_n 0, 1, []), (.getfield 33, 3, [9, 7, 2, 3, 0, 1173]), (.iload_n 1, 1, []), (.iaload, 1, []), (.ireturn, 1, [])]),
  (70, [true, true, false], [(.aload_n 0, 1, []), (.iload_n 1, 1, []), (.invokevirtual 347, 3, [143, 2, 2, 9, 1, 1513]), (.ireturn, 1, [])]),
  (76, [true, true, false], [(.aload_n 0, 1, []), (.iload_n 1, 1, []), (.invokevirtual 350, 3, [144, 2, 2, 9, 1, 1524]), (.ireturn, 1, [])]),
  (82, [true, true, false], [(.aload_n 0, 1, []), (.getfield 77, 3, [9, 33, 2, 16, 0, 1199]), (.iload_n 1, 1, []), (.iaload, 1, []), (.ireturn, 1, [])]),
  (89, [true, false, false], [(.aload_n 0, 1, []), (.iconst 1, 1, []), (.invokevirtual 308, 3, [111, 2, 2, 9, 1, 1392]), (.ireturn, 1, [])])]
/-- SlipRoomModel.reader -/
noncomputable def z_b146 : z_B := [
  (0, [true, true, true], [(.aload_n 0, 1, []), (.iconst 0, 1, []), (.putfield 170, 3, [9, 1, 0, 0, 0, 1167]), (.aload_n 0, 1, []), (.iload_n 1, 1, []), (.invokevirtual 353, 3, [114, 2, 2, 9, 1, 1532]), (.ifCond .ne 9, 3, []), (.aload_n 0, 1, []), (.iconst 1, 1, []), (.invokevirtual 308, 3, [111, 2, 2, 9, 1, 1392]), (.ireturn, 1, [])]),
  (19, [true, true, true], [(.iload_n 2, 1, []), (.tableswitch 79 0 4 #[36, 43, 50, 57, 72], 36, [])]),
  (56, [true, true, false], [(.aload_n 0, 1, []), (.getfield 36, 3, [9, 8, 2, 4, 0, 1174]), (.iload_n 1, 1, []), (.iaload, 1, []), (.ireturn, 1, [])]),
  (63, [true, true, false], [(.aload_n 0, 1, []), (.getfield 39, 3, [9, 9, 2, 5, 0, 1175]), (.iload_n 1, 1, []), (.iaload, 1, []), (.ireturn, 1, [])]),
  (70, [true, true, false], [(.aload_n 0, 1, []), (.getfield 42, 3, [9, 10, 2, 6, 0, 1176]), (.iload_n 1, 1, []), (.iaload, 1, []), (.ireturn, 1, [])]),
  (77, [true, true, false], [(.aload_n 0, 1, []), (.getfield 57, 3, [9, 15, 2, 11, 0, 1181]), (.iload_n 1, 1, []), (.baload, 1, []), (.ifCond .eq 7, 3, []), (.iconst 1, 1, []), (.goto 4, 3, [])]),
  (90, [false, false, false], [(.iconst 0, 1, [])]),
  (91, [false, false, false], [(.ireturn, 1, [])]),
  (92, [true, true, false], [(.aload_n 0, 1, []), (.getfield 80, 3, [9, 34, 2, 17, 0, 1200]), (.iload_n 1, 1, []), (.iaload, 1, []), (.ireturn, 1, [])]),
  (99, [true, false, false], [(.aload_n 0, 1, []), (.iconst 1, 1, []), (.invokevirtual 308, 3, [111, 2, 2, 9, 1, 1392]), (.ireturn, 1, [])])]
/-- SlipRoomModel.reckon -/
noncomputable def z_b147 : z_B := [
  (0, [true, true, true], [(.iload_n 0, 1, []), (.tableswitch 103 (-26) (-20) #[89, 78, 67, 55, 51, 47, 43], 43, [])]),
  (44, [false, true, true], [(.iload_n 1, 1, []), (.iload_n 2, 1, []), (.iadd, 1, []), (.ireturn, 1, [])]),
  (48, [false, true, true], [(.iload_n 1, 1, []), (.iload_n 2, 1, []), (.isub, 1, []), (.ireturn, 1, [])]),
  (52, [false, true, true], [(.iload_n 1, 1, []), (.iload_n 2, 1, []), (.imul, 1, []), (.ireturn, 1, [])]),
  (56, [false, true, true], [(.iload_n 2, 1, []), (.ifCond .ne 7, 3, []), (.iconst 0, 1, []), (.goto 6, 3, [])]),
  (64, [false, true, true], [(.iload_n 1, 1, []), (.iload_n 2, 1, []), (.idiv, 1, [])]),
  (67, [false, false, false], [(.ireturn, 1, [])]),
  (68, [false, true, true], [(.iload_n 1, 1, []), (.iload_n 2, 1, []), (.if_icmp .ge 7, 3, []), (.iconst 1, 1, []), (.goto 4, 3, [])]),
  (77, [false, false, false], [(.iconst 0, 1, [])]),
  (78, [false, false, false], [(.ireturn, 1, [])]),
  (79, [false, true, true], [(.iload_n 1, 1, []), (.iload_n 2, 1, []), (.if_icmp .ne 7, 3, []), (.iconst 1, 1, []), (.goto 4, 3, [])]),
  (88, [false, false, false], [(.iconst 0, 1, [])]),
  (89, [false, false, false], [(.ireturn, 1, [])]),
  (90, [false, true, true], [(.iload_n 1, 1, []), (.ifCond .eq 11, 3, []), (.iload_n 2, 1, []), (.ifCond .eq 7, 3, []), (.iconst 1, 1, []), (.goto 4, 3, [])]),
  (102, [false, false, false], [(.iconst 0, 1, [])]),
  (103, [false, false, false], [(.ireturn, 1, [])]),
  (104, [false, true, true], [(.iload_n 1, 1, []), (.ifCond .ne 7, 3, []), (.iload_n 2, 1, []), (.ifCond .eq 7, 3, [])]),
  (112, [false, false, false], [(.iconst 1, 1, []), (.goto 4, 3, [])]),
  (116, [false, false, false], [(.iconst 0, 1, [])]),
  (117, [false, false, false], [(.ireturn, 1, [])])]
/-- SlipRoomModel.stops -/
noncomputable def z_b148 : z_B := [
  (0, [true, true, true, true, true, true, false, false, false], [(.aload_n 0, 1, []), (.getfield 104, 3, [9, 42, 2, 25, 0, 1208]), (.iconst 0, 1, []), (.iload_n 3, 1, []), (.iastore, 1, []), (.aload_n 0, 1, []), (.getfield 104, 3, [9, 42, 2, 25, 0, 1208]), (.iconst 1, 1, []), (.aload_n 0, 1, []), (.getfield 29, 3, [9, 6, 2, 2, 0, 1172]), (.iload_n 2, 1, []), (.iaload, 1, []), (.iload_n 3, 1, []), (.isub, 1, []), (.iastore, 1, []), (.aload_n 0, 1, []), (.getfield 104, 3, [9, 42, 2, 25, 0, 1208]), (.iconst 2, 1, []), (.aload_n 0, 1, []), (.getfield 33, 3, [9, 7, 2, 3, 0, 1173]), (.iload_n 2, 1, []), (.iaload, 1, []), (.ifCond .ne 7, 3, []), (.iload_n 3, 1, []), (.goto 15, 3, [])]),
  (39, [true, true, true, true, true, true, false, false, false], [(.iload_n 3, 1, []), (.iconst 1, 1, []), (.isub, 1, []), (.aload_n 0, 1, []), (.getfield 33, 3, [9, 7, 2, 3, 0, 1173]), (.iload_n 2, 1, []), (.iaload, 1, []), (.irem, 1, []), (.iconst 1, 1, []), (.iadd, 1, [])]),
  (51, [true, true, true, false, true, true, false, false, false], [(.iastore, 1, []), (.aload_n 0, 1, []), (.getfield 104, 3, [9, 42, 2, 25, 0, 1208]), (.iconst 3, 1, []), (.iload 4, 2, []), (.iastore, 1, []), (.aload_n 0, 1, []), (.getfield 104, 3, [9, 42, 2, 25, 0, 1208]), (.iconst 4, 1, []), (.iload 5, 2, []), (.bipush 24, 2, []), (.irem, 1, []), (.iastore, 1, []), (.aload_n 0, 1, []), (.getfield 104, 3, [9, 42, 2, 25, 0, 1208]), (.iconst 5, 1, []), (.iload 5, 2, []), (.bipush 24, 2, []), (.idiv, 1, []), (.iastore, 1, []), (.aload_n 0, 1, []), (.getfield 104, 3, [9, 42, 2, 25, 0, 1208]), (.bipush 6, 2, []), (.iload_n 2, 1, []), (.iastore, 1, []), (.iconst 0, 1, []), (.istore 6, 2, []), (.aload_n 0, 1, []), (.getfield 45, 3, [9, 11, 2, 7, 0, 1177]), (.iload_n 1, 1, []), (.iaload, 1, []), (.istore 7, 2, [])]),
  (101, [true, true, false, false, false, false, true, true, false], [(.iload 7, 2, []), (.aload_n 0, 1, []), (.getfield 48, 3, [9, 12, 2, 8, 0, 1178]), (.iload_n 1, 1, []), (.iaload, 1, []), (.if_icmp .ge 126, 3, []), (.aload_n 0, 1, []), (.getfield 51, 3, [9, 13, 2, 9, 0, 1179]), (.iload 7, 2, []), (.iaload, 1, []), (.istore 8, 2, []), (.iload 8, 2, []), (.bipush (-20), 2, []), (.if_icmp .le 35, 3, []), (.aload_n 0, 1, []), (.getfield 107, 3, [9, 43, 2, 26, 0, 1209]), (.iload 6, 2, []), (.iload 8, 2, []), (.ifCond .lt 8, 3, []), (.iload 8, 2, []), (.goto 12, 3, [])]),
  (144, [true, true, false, false, false, false, true, true, true], [(.aload_n 0, 1, []), (.getfield 104, 3, [9, 42, 2, 25, 0, 1208]), (.iconst (-1), 1, []), (.iload 8, 2, []), (.isub, 1, []), (.iaload, 1, [])]),
  (153, [true, true, false, false, false, false, true, true, false], [(.iastore, 1, []), (.iinc 6 1, 3, []), (.goto 72, 3, [])]),
  (160, [true, true, false, false, false, false, true, true, true], [(.iload 8, 2, []), (.bipush (-28), 2, []), (.if_icmp .ne 32, 3, []), (.aload_n 0, 1, []), (.getfield 107, 3, [9, 43, 2, 26, 0, 1209]), (.iload 6, 2, []), (.iconst 1, 1, []), (.isub, 1, []), (.aload_n 0, 1, []), (.getfield 107, 3, [9, 43, 2, 26, 0, 1209]), (.iload 6, 2, []), (.iconst 1, 1, []), (.isub, 1, []), (.iaload, 1, []), (.ifCond .eq 7, 3, []), (.iconst 0, 1, []), (.goto 4, 3, [])]),
  (191, [true, true, false, false, false, false, true, true, false], [(.iconst 1, 1, [])]),
  (192, [true, true, false, false, false, false, true, true, false], [(.iastore, 1, []), (.goto 36, 3, [])]),
  (196, [true, true, false, false, false, false, true, true, true], [(.iinc 6 (-1), 3, []), (.aload_n 0, 1, []), (.getfield 107, 3, [9, 43, 2, 26, 0, 1209]), (.iload 6, 2, []), (.iconst 1, 1, []), (.isub, 1, []), (.iload 8, 2, []), (.aload_n 0, 1, []), (.getfield 107, 3, [9, 43, 2, 26, 0, 1209]), (.iload 6, 2, []), (.iconst 1, 1, []), (.isub, 1, []), (.iaload, 1, []), (.aload_n 0, 1, []), (.getfield 107, 3, [9, 43, 2, 26, 0, 1209]), (.iload 6, 2, []), (.iaload, 1, []), (.invokestatic 356, 3, [147, 3, 0, 0, 1, 1557]), (.iastore, 1, [])]),
  (229, [true, true, false, false, false, false, true, true, false], [(.iinc 7 1, 3, []), (.goto (-131), 3, [])]),
  (235, [true, false, false, false, false, false, true, false, false], [(.iload 6, 2, []), (.ifCond .le 16, 3, []), (.aload_n 0, 1, []), (.getfield 107, 3, [9, 43, 2, 26, 0, 1209]), (.iconst 0, 1, []), (.iaload, 1, []), (.ifCond .eq 7, 3, []), (.iconst 1, 1, []), (.goto 4, 3, [])]),
  (253, [false, false, false, false, false, false, false, false, false], [(.iconst 0, 1, [])]),
  (254, [false, false, false, false, false, false, false, false, false], [(.ireturn, 1, [])])]
/-- SlipRoomModel.turnPage -/
noncomputable def z_b149 : z_B := [
  (0, [true, true, true, true, true], [(.aload_n 0, 1, []), (.getfield 83, 3, [9, 35, 2, 18, 0, 1201]), (.sipush 401, 3, []), (.iload_n 1, 1, []), (.iload_n 2, 1, []), (.invokestatic 338, 3, [141, 2, 0, 0, 1, 1521]), (.imul, 1, []), (.iload_n 3, 1, []), (.iadd, 1, []), (.iconst 1, 1, []), (.bastore, 1, []), (.aload_n 0, 1, []), (.getfield 74, 3, [9, 32, 2, 15, 0, 1198]), (.iload_n 1, 1, []), (.iload_n 2, 1, []), (.invokestatic 338, 3, [141, 2, 0, 0, 1, 1521]), (.iaload, 1, []), (.iconst (-1), 1, []), (.if_icmp .ne 30, 3, []), (.aload_n 0, 1, []), (.iload_n 1, 1, []), (.iload_n 2, 1, []), (.invokevirtual 360, 3, [150, 3, 2, 9, 1, 1544]), (.aload_n 0, 1, []), (.getfield 29, 3, [9, 6, 2, 2, 0, 1172]), (.iload_n 2, 1, []), (.iaload, 1, []), (.if_icmp .ne 15, 3, []), (.aload_n 0, 1, []), (.getfield 74, 3, [9, 32, 2, 15, 0, 1198]), (.iload_n 1, 1, []), (.iload_n 2, 1, []), (.invokestatic 338, 3, [141, 2, 0, 0, 1, 1521]), (.iload 4, 2, []), (.iastore, 1, [])]),
  (58, [false, false, false, false, false], [(.return_, 1, [])])]
/-- SlipRoomModel.readOf -/
noncomputable def z_b150 : z_B := [
  (0, [true, true, true, false, false], [(.iconst 0, 1, []), (.istore_n 3, 1, []), (.iconst 1, 1, []), (.istore 4, 2, [])]),
  (5, [true, true, true, true, true], [(.iload 4, 2, []), (.aload_n 0, 1, []), (.getfield 29, 3, [9, 6, 2, 2, 0, 1172]), (.iload_n 2, 1, []), (.iaload, 1, []), (.if_icmp .gt 28, 3, []), (.iload_n 3, 1, []), (.aload_n 0, 1, []), (.iload_n 1, 1, []), (.iload_n 2, 1, []), (.iload 4, 2, []), (.invokevirtual 341, 3, [142, 4, 2, 9, 1, 1517]), (.ifCond .eq 7, 3, []), (.iconst 1, 1, []), (.goto 4, 3, [])]),
  (32, [true, true, true, false, true], [(.iconst 0, 1, [])]),
  (33, [true, true, true, false, true], [(.iadd, 1, []), (.istore_n 3, 1, []), (.iinc 4 1, 3, []), (.goto (-33), 3, [])]),
  (41, [false, false, false, true, false], [(.iload_n 3, 1, []), (.ireturn, 1, [])])]
/-- SlipRoomModel.beginOf -/
noncomputable def z_b151 : z_B := [
  (0, [true, true, true, false, false], [(.aload_n 0, 1, []), (.getfield 68, 3, [9, 30, 2, 13, 0, 1196]), (.iload_n 1, 1, []), (.iload_n 2, 1, []), (.invokestatic 338, 3, [141, 2, 0, 0, 1, 1521]), (.iaload, 1, []), (.istore_n 3, 1, []), (.iload_n 3, 1, []), (.iconst (-1), 1, []), (.if_icmp .eq 24, 3, []), (.iload_n 3, 1, []), (.ifCond .ne 7, 3, []), (.iconst 1, 1, []), (.goto 15, 3, [])]),
  (24, [true, true, false, true, false], [(.iconst 1, 1, []), (.iload_n 3, 1, []), (.aload_n 0, 1, []), (.getfield 42, 3, [9, 10, 2, 6, 0, 1176]), (.iload_n 1, 1, []), (.iaload, 1, []), (.isub, 1, []), (.invokestatic 363, 3, [187, 2, 0, 0, 1, 1552])]),
  (36, [false, false, false, false, false], [(.ireturn, 1, [])]),
  (37, [true, true, true, false, false], [(.aload_n 0, 1, []), (.getfield 29, 3, [9, 6, 2, 2, 0, 1172]), (.iload_n 2, 1, []), (.iaload, 1, []), (.aload_n 0, 1, []), (.getfield 71, 3, [9, 31, 2, 14, 0, 1197]), (.iload_n 1, 1, []), (.iload_n 2, 1, []), (.invokestatic 338, 3, [141, 2, 0, 0, 1, 1521]), (.iaload, 1, []), (.invokestatic 213, 3, [188, 2, 0, 0, 1, 1411]), (.istore 4, 2, []), (.aload_n 0, 1, []), (.getfield 33, 3, [9, 7, 2, 3, 0, 1173]), (.iload_n 2, 1, []), (.iaload, 1, []), (.ifCond .ne 7, 3, []), (.iconst 1, 1, []), (.goto 23, 3, [])]),
  (71, [true, false, true, false, true], [(.iload 4, 2, []), (.iconst 1, 1, []), (.isub, 1, []), (.aload_n 0, 1, []), (.getfield 33, 3, [9, 7, 2, 3, 0, 1173]), (.iload_n 2, 1, []), (.iaload, 1, []), (.idiv, 1, []), (.aload_n 0, 1, []), (.getfield 33, 3, [9, 7, 2, 3, 0, 1173]), (.iload_n 2, 1, []), (.iaload, 1, []), (.imul, 1, []), (.iconst 1, 1, []), (.iadd, 1, [])]),
  (91, [false, false, false, false, false], [(.ireturn, 1, [])])]
/-- SlipRoomModel.loan -/
noncomputable def z_b152 : z_B := [
  (0, [true, true, true, true, true, false, false, false, false, false, false], [(.aload_n 0, 1, []), (.iconst 0, 1, []), (.putfield 170, 3, [9, 1, 0, 0, 0, 1167]), (.aload_n 0, 1, []), (.iload_n 1, 1, []), (.invokevirtual 353, 3, [114, 2, 2, 9, 1, 1532]), (.ifCond .eq 11, 3, []), (.aload_n 0, 1, []), (.iload_n 2, 1, []), (.invokevirtual 344, 3, [113, 2, 2, 9, 1, 1509]), (.ifCond .ne 9, 3, [])]),
  (21, [true, false, false, false, false, false, false, false, false, false, false], [(.aload_n 0, 1, []), (.iconst 1, 1, []), (.invokevirtual 308, 3, [111, 2, 2, 9, 1, 1392]), (.ireturn, 1, [])]),
  (27, [true, true, true, true, true, false, false, false, false, false, false], [(.aload_n 0, 1, []), (.getfield 322, 3, [9, 28, 0, 0, 0, 1194]), (.sipush 200, 3, []), (.if_icmp .ge 55, 3, []), (.iload 4, 2, []), (.iconst 1, 1, []), (.bipush 24, 2, []), (.invokestatic 176, 3, [112, 3, 0, 0, 1, 1502]), (.ifCond .eq 44, 3, []), (.iload_n 3, 1, []), (.aload_n 0, 1, []), (.getfield 325, 3, [9, 29, 0, 0, 0, 1195]), (.sipush 8760, 3, []), (.iload 4, 2, []), (.isub, 1, []), (.invokestatic 176, 3, [112, 3, 0, 0, 1, 1502]), (.ifCond .eq 27, 3, []), (.aload_n 0, 1, []), (.getfield 80, 3, [9, 34, 2, 17, 0, 1200]), (.iload_n 1, 1, []), (.iaload, 1, []), (.iload_n 3, 1, []), (.if_icmp .gt 17, 3, []), (.aload_n 0, 1, []), (.getfield 77, 3, [9, 33, 2, 16, 0, 1199]), (.iload_n 2, 1, []), (.iaload, 1, []), (.iload_n 3, 1, []), (.if_icmp .gt 7, 3, []), (.iconst 1, 1, []), (.goto 4, 3, [])]),
  (89, [true, true, true, true, true, false, false, false, false, false, false], [(.iconst 0, 1, [])]),
  (90, [true, true, true, true, true, false, false, false, false, false, false], [(.istore 5, 2, []), (.iload 5, 2, []), (.ifCond .ne 15, 3, []), (.aload_n 0, 1, []), (.getfield 54, 3, [9, 14, 2, 10, 0, 1180]), (.iconst 1, 1, []), (.dup2, 1, []), (.iaload, 1, []), (.iconst 1, 1, []), (.iadd, 1, []), (.iastore, 1, []), (.iconst (-1), 1, []), (.ireturn, 1, [])]),
  (109, [true, true, true, true, true, false, false, false, false, false, false], [(.aload_n 0, 1, []), (.getfield 68, 3, [9, 30, 2, 13, 0, 1196]), (.iload_n 1, 1, []), (.iload_n 2, 1, []), (.invokestatic 338, 3, [141, 2, 0, 0, 1, 1521]), (.iaload, 1, []), (.ifCond .ne 25, 3, []), (.aload_n 0, 1, []), (.getfield 57, 3, [9, 15, 2, 11, 0, 1181]), (.iload_n 1, 1, []), (.baload, 1, []), (.ifCond .eq 16, 3, []), (.aload_n 0, 1, []), (.iload_n 1, 1, []), (.iload_n 2, 1, []), (.aload_n 0, 1, []), (.getfield 29, 3, [9, 6, 2, 2, 0, 1172]), (.iload_n 2, 1, []), (.iaload, 1, []), (.iload_n 3, 1, []), (.invokevirtual 366, 3, [149, 5, 2, 9, 0, 1540])]),
  (144, [true, true, true, true, true, false, false, false, false, false, false], [(.aload_n 0, 1, []), (.iload_n 1, 1, []), (.iload_n 2, 1, []), (.invokevirtual 370, 3, [151, 3, 2, 9, 1, 1548]), (.istore 6, 2, []), (.aload_n 0, 1, []), (.getfield 86, 3, [9, 36, 2, 19, 0, 1202]), (.aload_n 0, 1, []), (.getfield 322, 3, [9, 28, 0, 0, 0, 1194]), (.iload_n 1, 1, []), (.iastore, 1, []), (.aload_n 0, 1, []), (.getfield 89, 3, [9, 37, 2, 20, 0, 1203]), (.aload_n 0, 1, []), (.getfield 322, 3, [9, 28, 0, 0, 0, 1194]), (.iload_n 2, 1, []), (.iastore, 1, []), (.aload_n 0, 1, []), (.getfield 92, 3, [9, 38, 2, 21, 0, 1204]), (.aload_n 0, 1, []), (.getfield 322, 3, [9, 28, 0, 0, 0, 1194]), (.iload_n 3, 1, []), (.iastore, 1, []), (.aload_n 0, 1, []), (.getfield 95, 3, [9, 39, 2, 22, 0, 1205]), (.aload_n 0, 1, []), (.getfield 322, 3, [9, 28, 0, 0, 0, 1194]), (.iload 4, 2, []), (.iastore, 1, []), (.aload_n 0, 1, []), (.getfield 98, 3, [9, 40, 2, 23, 0, 1206]), (.aload_n 0, 1, []), (.getfield 322, 3, [9, 28, 0, 0, 0, 1194]), (.iload 6, 2, []), (.iastore, 1, []), (.iconst 0, 1, []), (.istore 7, 2, []), (.iload_n 3, 1, []), (.istore 8, 2, [])]),
  (210, [true, true, true, true, true, false, true, true, true, false, false], [(.iload 8, 2, []), (.iload_n 3, 1, []), (.iload 4, 2, []), (.iadd, 1, []), (.if_icmp .ge 86, 3, []), (.iconst 1, 1, []), (.istore 9, 2, []), (.iconst 0, 1, []), (.istore 10, 2, [])]),
  (225, [true, true, true, true, true, false, true, true, true, true, true], [(.iload 10, 2, []), (.aload_n 0, 1, []), (.getfield 36, 3, [9, 8, 2, 4, 0, 1174]), (.iload_n 1, 1, []), (.iaload, 1, []), (.if_icmp .ge 63, 3, []), (.iload 9, 2, []), (.ifCond .eq 58, 3, []), (.iload 6, 2, []), (.aload_n 0, 1, []), (.getfield 29, 3, [9, 6, 2, 2, 0, 1172]), (.iload_n 2, 1, []), (.iaload, 1, []), (.if_icmp .gt 47, 3, []), (.aload_n 0, 1, []), (.iload_n 1, 1, []), (.iload_n 2, 1, []), (.iload 6, 2, []), (.iload 8, 2, []), (.invokevirtual 366, 3, [149, 5, 2, 9, 0, 1540]), (.iinc 7 1, 3, []), (.aload_n 0, 1, []), (.iload_n 1, 1, []), (.iload_n 2, 1, []), (.iload 6, 2, []), (.iload 7, 2, []), (.iload 8, 2, []), (.invokevirtual 373, 3, [148, 6, 2, 9, 1, 1553]), (.ifCond .ne 7, 3, []), (.iconst 1, 1, []), (.goto 4, 3, [])]),
  (284, [true, true, true, true, true, false, true, true, true, false, true], [(.iconst 0, 1, [])]),
  (285, [true, true, true, true, true, false, true, true, true, false, true], [(.istore 9, 2, []), (.iinc 6 1, 3, []), (.iinc 10 1, 3, []), (.goto (-68), 3, [])]),
  (296, [true, true, true, true, true, false, true, true, true, false, false], [(.iinc 8 1, 3, []), (.goto (-89), 3, [])]),
  (302, [true, true, true, true, true, false, true, true, false, false, false], [(.aload_n 0, 1, []), (.getfield 101, 3, [9, 41, 2, 24, 0, 1207]), (.aload_n 0, 1, []), (.getfield 322, 3, [9, 28, 0, 0, 0, 1194]), (.iload 7, 2, []), (.iastore, 1, []), (.aload_n 0, 1, []), (.dup, 1, []), (.getfield 322, 3, [9, 28, 0, 0, 0, 1194]), (.iconst 1, 1, []), (.iadd, 1, []), (.putfield 322, 3, [9, 28, 0, 0, 0, 1194]), (.aload_n 0, 1, []), (.getfield 68, 3, [9, 30, 2, 13, 0, 1196]), (.iload_n 1, 1, []), (.iload_n 2, 1, []), (.invokestatic 338, 3, [141, 2, 0, 0, 1, 1521]), (.iload 6, 2, []), (.iastore, 1, []), (.aload_n 0, 1, []), (.getfield 71, 3, [9, 31, 2, 14, 0, 1197]), (.iload_n 1, 1, []), (.iload_n 2, 1, []), (.invokestatic 338, 3, [141, 2, 0, 0, 1, 1521]), (.iload 6, 2, []), (.iastore, 1, []), (.aload_n 0, 1, []), (.getfield 77, 3, [9, 33, 2, 16, 0, 1199]), (.iload_n 2, 1, []), (.iload_n 3, 1, []), (.iload 4, 2, []), (.iadd, 1, []), (.iastore, 1, []), (.aload_n 0, 1, []), (.getfield 80, 3, [9, 34, 2, 17, 0, 1200]), (.iload_n 1, 1, []), (.iload_n 3, 1, []), (.iload 4, 2, []), (.iadd, 1, []), (.iastore, 1, []), (.aload_n 0, 1, []), (.iload_n 3, 1, []), (.putfield 325, 3, [9, 29, 0, 0, 0, 1195]), (.iload 7, 2, []), (.ireturn, 1, [])])]
/-- SlipRoomModel.lent -/
noncomputable def z_b153 : z_B := [
  (0, [true, true, true], [(.aload_n 0, 1, []), (.iconst 0, 1, []), (.putfield 170, 3, [9, 1, 0, 0, 0, 1167]), (.iload_n 1, 1, []), (.iconst 0, 1, []), (.aload_n 0, 1, []), (.getfield 322, 3, [9, 28, 0, 0, 0, 1194]), (.iconst 1, 1, []), (.isub, 1, []), (.invokestatic 176, 3, [112, 3, 0, 0, 1, 1502]), (.ifCond .ne 9, 3, []), (.aload_n 0, 1, []), (.iconst 1, 1, []), (.invokevirtual 308, 3, [111, 2, 2, 9, 1, 1392]), (.ireturn, 1, [])]),
  (25, [true, true, true], [(.iload_n 2, 1, []), (.tableswitch 80 0 5 #[38, 45, 52, 59, 66, 73], 38, [])]),
  (64, [true, true, false], [(.aload_n 0, 1, []), (.getfield 86, 3, [9, 36, 2, 19, 0, 1202]), (.iload_n 1, 1, []), (.iaload, 1, []), (.ireturn, 1, [])]),
  (71, [true, true, false], [(.aload_n 0, 1, []), (.getfield 89, 3, [9, 37, 2, 20, 0, 1203]), (.iload_n 1, 1, []), (.iaload, 1, []), (.ireturn, 1, [])]),
  (78, [true, true, false], [(.aload_n 0, 1, []), (.getfield 92, 3, [9, 38, 2, 21, 0, 1204]), (.iload_n 1, 1, []), (.iaload, 1, []), (.ireturn, 1, [])]),
  (85, [true, true, false], [(.aload_n 0, 1, []), (.getfield 95, 3, [9, 39, 2, 22, 0, 1205]), (.iload_n 1, 1, []), (.iaload, 1, []), (.ireturn, 1, [])]),
  (92, [true, true, false], [(.aload_n 0, 1, []), (.getfield 98, 3, [9, 40, 2, 23, 0, 1206]), (.iload_n 1, 1, []), (.iaload, 1, []), (.ireturn, 1, [])]),
  (99, [true, true, false], [(.aload_n 0, 1, []), (.getfield 101, 3, [9, 41, 2, 24, 0, 1207]), (.iload_n 1, 1, []), (.iaload, 1, []), (.ireturn, 1, [])]),
  (106, [true, false, false], [(.aload_n 0, 1, []), (.iconst 1, 1, []), (.invokevirtual 308, 3, [111, 2, 2, 9, 1, 1392]), (.ireturn, 1, [])])]
/-- SlipRoomModel.drop -/
noncomputable def z_b154 : z_B := [
  (0, [true, true, true, true, false, false, false, false, false], [(.aload_n 0, 1, []), (.iconst 0, 1, []), (.putfield 170, 3, [9, 1, 0, 0, 0, 1167]), (.aload_n 0, 1, []), (.iload_n 1, 1, []), (.invokevirtual 344, 3, [113, 2, 2, 9, 1, 1509]), (.ifCond .ne 9, 3, []), (.aload_n 0, 1, []), (.iconst 1, 1, []), (.invokevirtual 308, 3, [111, 2, 2, 9, 1, 1392]), (.ireturn, 1, [])]),
  (19, [true, true, true, true, false, false, false, false, false], [(.iload_n 2, 1, []), (.aload_n 0, 1, []), (.getfield 325, 3, [9, 29, 0, 0, 0, 1195]), (.sipush 8759, 3, []), (.invokestatic 176, 3, [112, 3, 0, 0, 1, 1502]), (.ifCond .eq 24, 3, []), (.aload_n 0, 1, []), (.getfield 77, 3, [9, 33, 2, 16, 0, 1199]), (.iload_n 1, 1, []), (.iaload, 1, []), (.iload_n 2, 1, []), (.if_icmp .gt 14, 3, []), (.iload_n 3, 1, []), (.bipush (-50), 2, []), (.bipush 50, 2, []), (.invokestatic 176, 3, [112, 3, 0, 0, 1, 1502]), (.ifCond .ne 15, 3, [])]),
  (54, [true, false, false, false, false, false, false, false, false], [(.aload_n 0, 1, []), (.getfield 54, 3, [9, 14, 2, 10, 0, 1180]), (.iconst 2, 1, []), (.dup2, 1, []), (.iaload, 1, []), (.iconst 1, 1, []), (.iadd, 1, []), (.iastore, 1, []), (.iconst (-1), 1, []), (.ireturn, 1, [])]),
  (66, [true, true, true, true, false, false, false, false, false], [(.iconst 0, 1, []), (.istore 4, 2, []), (.iconst 0, 1, []), (.istore 5, 2, [])]),
  (72, [true, true, true, true, true, true, false, false, false], [(.iload 5, 2, []), (.aload_n 0, 1, []), (.getfield 180, 3, [9, 3, 0, 0, 0, 1169]), (.if_icmp .ge 100, 3, []), (.iload 5, 2, []), (.iload_n 1, 1, []), (.invokestatic 338, 3, [141, 2, 0, 0, 1, 1521]), (.istore 6, 2, []), (.aload_n 0, 1, []), (.getfield 68, 3, [9, 30, 2, 13, 0, 1196]), (.iload 6, 2, []), (.iaload, 1, []), (.ifCond .gt 6, 3, []), (.goto 73, 3, [])]),
  (102, [true, true, true, true, true, true, true, false, false], [(.aload_n 0, 1, []), (.getfield 68, 3, [9, 30, 2, 13, 0, 1196]), (.iload 6, 2, []), (.iaload, 1, []), (.iload_n 3, 1, []), (.iadd, 1, []), (.istore 7, 2, []), (.iload_n 3, 1, []), (.ifCond .eq 22, 3, []), (.iload 7, 2, []), (.iconst 1, 1, []), (.aload_n 0, 1, []), (.getfield 29, 3, [9, 6, 2, 2, 0, 1172]), (.iload_n 1, 1, []), (.iaload, 1, []), (.invokestatic 176, 3, [112, 3, 0, 0, 1, 1502]), (.ifCond .eq 7, 3, []), (.iconst 1, 1, []), (.goto 4, 3, [])]),
  (136, [true, true, true, true, true, true, true, true, false], [(.iconst 0, 1, [])]),
  (137, [true, true, true, true, true, true, true, true, false], [(.istore 8, 2, []), (.aload_n 0, 1, []), (.getfield 68, 3, [9, 30, 2, 13, 0, 1196]), (.iload 6, 2, []), (.iload 8, 2, []), (.ifCond .eq 8, 3, []), (.iload 7, 2, []), (.goto 4, 3, [])]),
  (155, [true, true, true, true, true, true, false, false, true], [(.iconst (-1), 1, [])]),
  (156, [true, true, true, true, true, true, false, false, true], [(.iastore, 1, []), (.iload 4, 2, []), (.iload 8, 2, []), (.ifCond .eq 7, 3, []), (.iconst 0, 1, []), (.goto 4, 3, [])]),
  (168, [true, true, true, true, false, true, false, false, false], [(.iconst 1, 1, [])]),
  (169, [true, true, true, true, false, true, false, false, false], [(.iadd, 1, []), (.istore 4, 2, [])]),
  (172, [true, true, true, true, true, true, false, false, false], [(.iinc 5 1, 3, []), (.goto (-103), 3, [])]),
  (178, [true, false, true, false, true, false, false, false, false], [(.aload_n 0, 1, []), (.iload_n 2, 1, []), (.putfield 325, 3, [9, 29, 0, 0, 0, 1195]), (.iload 4, 2, []), (.ireturn, 1, [])])]
/-- SlipRoomModel.slip -/
noncomputable def z_b155 : z_B := [
  (0, [true, true, true], [(.aload_n 0, 1, []), (.iconst 0, 1, []), (.putfield 170, 3, [9, 1, 0, 0, 0, 1167]), (.aload_n 0, 1, []), (.iload_n 1, 1, []), (.invokevirtual 353, 3, [114, 2, 2, 9, 1, 1532]), (.ifCond .eq 24, 3, []), (.aload_n 0, 1, []), (.iload_n 2, 1, []), (.invokevirtual 344, 3, [113, 2, 2, 9, 1, 1509]), (.ifCond .eq 16, 3, []), (.aload_n 0, 1, []), (.getfield 68, 3, [9, 30, 2, 13, 0, 1196]), (.iload_n 1, 1, []), (.iload_n 2, 1, []), (.invokestatic 338, 3, [141, 2, 0, 0, 1, 1521]), (.iaload, 1, []), (.goto 8, 3, [])]),
  (34, [true, false, false], [(.aload_n 0, 1, []), (.iconst 1, 1, []), (.invokevirtual 308, 3, [111, 2, 2, 9, 1, 1392])]),
  (39, [false, false, false], [(.ireturn, 1, [])])]
/-- SlipRoomModel.inARow -/
noncomputable def z_b156 : z_B := [
  (0, [true, true, true, false], [(.iconst 0, 1, []), (.istore_n 3, 1, [])]),
  (2, [true, true, true, true], [(.iload_n 3, 1, []), (.aload_n 0, 1, []), (.getfield 29, 3, [9, 6, 2, 2, 0, 1172]), (.iload_n 2, 1, []), (.iaload, 1, []), (.if_icmp .ge 21, 3, []), (.aload_n 0, 1, []), (.iload_n 1, 1, []), (.iload_n 2, 1, []), (.iload_n 3, 1, []), (.iconst 1, 1, []), (.iadd, 1, []), (.invokevirtual 341, 3, [142, 4, 2, 9, 1, 1517]), (.ifCond .eq 9, 3, []), (.iinc 3 1, 3, []), (.goto (-25), 3, [])]),
  (30, [false, false, false, true], [(.iload_n 3, 1, []), (.ireturn, 1, [])])]
/-- SlipRoomModel.read -/
noncomputable def z_b157 : z_B := [
  (0, [true, true, true, true], [(.aload_n 0, 1, []), (.iconst 0, 1, []), (.putfield 170, 3, [9, 1, 0, 0, 0, 1167]), (.aload_n 0, 1, []), (.iload_n 1, 1, []), (.invokevirtual 353, 3, [114, 2, 2, 9, 1, 1532]), (.ifCond .eq 11, 3, []), (.aload_n 0, 1, []), (.iload_n 2, 1, []), (.invokevirtual 344, 3, [113, 2, 2, 9, 1, 1509]), (.ifCond .ne 9, 3, [])]),
  (21, [true, false, false, false], [(.aload_n 0, 1, []), (.iconst 1, 1, []), (.invokevirtual 308, 3, [111, 2, 2, 9, 1, 1392]), (.ireturn, 1, [])]),
  (27, [true, true, true, true], [(.iload_n 3, 1, []), (.tableswitch 96 0 3 #[32, 39, 46, 85], 32, [])]),
  (60, [true, true, true, false], [(.aload_n 0, 1, []), (.iload_n 1, 1, []), (.iload_n 2, 1, []), (.invokevirtual 360, 3, [150, 3, 2, 9, 1, 1544]), (.ireturn, 1, [])]),
  (67, [true, true, true, false], [(.aload_n 0, 1, []), (.iload_n 1, 1, []), (.iload_n 2, 1, []), (.invokevirtual 376, 3, [156, 3, 2, 9, 1, 1576]), (.ireturn, 1, [])]),
  (74, [true, true, true, false], [(.aload_n 0, 1, []), (.iload_n 1, 1, []), (.iload_n 2, 1, []), (.aload_n 0, 1, []), (.getfield 29, 3, [9, 6, 2, 2, 0, 1172]), (.iload_n 2, 1, []), (.iaload, 1, []), (.invokevirtual 341, 3, [142, 4, 2, 9, 1, 1517]), (.ifCond .eq 25, 3, []), (.bipush 10, 2, []), (.aload_n 0, 1, []), (.iload_n 1, 1, []), (.iload_n 2, 1, []), (.invokevirtual 360, 3, [150, 3, 2, 9, 1, 1544]), (.imul, 1, []), (.aload_n 0, 1, []), (.getfield 29, 3, [9, 6, 2, 2, 0, 1172]), (.iload_n 2, 1, []), (.iaload, 1, []), (.if_icmp .ge 7, 3, []), (.iconst 1, 1, []), (.goto 4, 3, [])]),
  (111, [false, false, false, false], [(.iconst 0, 1, [])]),
  (112, [false, false, false, false], [(.ireturn, 1, [])]),
  (113, [true, true, true, false], [(.aload_n 0, 1, []), (.getfield 74, 3, [9, 32, 2, 15, 0, 1198]), (.iload_n 1, 1, []), (.iload_n 2, 1, []), (.invokestatic 338, 3, [141, 2, 0, 0, 1, 1521]), (.iaload, 1, []), (.ireturn, 1, [])]),
  (124, [true, false, false, false], [(.aload_n 0, 1, []), (.iconst 1, 1, []), (.invokevirtual 308, 3, [111, 2, 2, 9, 1, 1392]), (.ireturn, 1, [])])]
/-- SlipRoomModel.has -/
noncomputable def z_b158 : z_B := [
  (0, [true, true, true, true], [(.aload_n 0, 1, []), (.iconst 0, 1, []), (.putfield 170, 3, [9, 1, 0, 0, 0, 1167]), (.aload_n 0, 1, []), (.iload_n 1, 1, []), (.invokevirtual 353, 3, [114, 2, 2, 9, 1, 1532]), (.ifCond .eq 25, 3, []), (.aload_n 0, 1, []), (.iload_n 2, 1, []), (.invokevirtual 344, 3, [113, 2, 2, 9, 1, 1509]), (.ifCond .eq 17, 3, []), (.iload_n 3, 1, []), (.iconst 1, 1, []), (.aload_n 0, 1, []), (.getfield 29, 3, [9, 6, 2, 2, 0, 1172]), (.iload_n 2, 1, []), (.iaload, 1, []), (.invokestatic 176, 3, [112, 3, 0, 0, 1, 1502]), (.ifCond .ne 10, 3, [])]),
  (35, [true, false, false, false], [(.aload_n 0, 1, []), (.iconst 1, 1, []), (.putfield 170, 3, [9, 1, 0, 0, 0, 1167]), (.iconst 0, 1, []), (.ireturn, 1, [])]),
  (42, [true, true, true, true], [(.aload_n 0, 1, []), (.iload_n 1, 1, []), (.iload_n 2, 1, []), (.iload_n 3, 1, []), (.invokevirtual 341, 3, [142, 4, 2, 9, 1, 1517]), (.ireturn, 1, [])])]
/-- SlipRoomModel.ahead -/
noncomputable def z_b159 : z_B := [
  (0, [true, true, true, true], [(.aload_n 0, 1, []), (.iconst 0, 1, []), (.putfield 170, 3, [9, 1, 0, 0, 0, 1167]), (.aload_n 0, 1, []), (.iload_n 1, 1, []), (.invokevirtual 353, 3, [114, 2, 2, 9, 1, 1532]), (.ifCond .eq 50, 3, []), (.aload_n 0, 1, []), (.iload_n 2, 1, []), (.invokevirtual 353, 3, [114, 2, 2, 9, 1, 1532]), (.ifCond .eq 42, 3, []), (.aload_n 0, 1, []), (.iload_n 3, 1, []), (.invokevirtual 344, 3, [113, 2, 2, 9, 1, 1509]), (.ifCond .eq 34, 3, []), (.iload_n 1, 1, []), (.iload_n 2, 1, []), (.if_icmp .eq 29, 3, []), (.aload_n 0, 1, []), (.getfield 68, 3, [9, 30, 2, 13, 0, 1196]), (.iload_n 1, 1, []), (.iload_n 3, 1, []), (.invokestatic 338, 3, [141, 2, 0, 0, 1, 1521]), (.iaload, 1, []), (.ifCond .le 16, 3, []), (.aload_n 0, 1, []), (.getfield 68, 3, [9, 30, 2, 13, 0, 1196]), (.iload_n 2, 1, []), (.iload_n 3, 1, []), (.invokestatic 338, 3, [141, 2, 0, 0, 1, 1521]), (.iaload, 1, []), (.ifCond .gt 9, 3, [])]),
  (60, [true, false, false, false], [(.aload_n 0, 1, []), (.iconst 1, 1, []), (.invokevirtual 308, 3, [111, 2, 2, 9, 1, 1392]), (.ireturn, 1, [])]),
  (66, [true, true, true, true], [(.aload_n 0, 1, []), (.getfield 68, 3, [9, 30, 2, 13, 0, 1196]), (.iload_n 1, 1, []), (.iload_n 3, 1, []), (.invokestatic 338, 3, [141, 2, 0, 0, 1, 1521]), (.iaload, 1, []), (.aload_n 0, 1, []), (.getfield 68, 3, [9, 30, 2, 13, 0, 1196]), (.iload_n 2, 1, []), (.iload_n 3, 1, []), (.invokestatic 338, 3, [141, 2, 0, 0, 1, 1521]), (.iaload, 1, []), (.isub, 1, []), (.ireturn, 1, [])])]
/-- SlipRoomModel.looksOf -/
noncomputable def z_b160 : z_B := [
  (0, [true, true, false, false], [(.iconst 0, 1, []), (.istore_n 2, 1, []), (.iconst 0, 1, []), (.istore_n 3, 1, [])]),
  (4, [true, true, true, true], [(.iload_n 3, 1, []), (.aload_n 0, 1, []), (.getfield 328, 3, [9, 44, 0, 0, 0, 1210]), (.if_icmp .ge 27, 3, []), (.iload_n 2, 1, []), (.aload_n 0, 1, []), (.getfield 110, 3, [9, 45, 2, 27, 0, 1211]), (.iload_n 3, 1, []), (.iaload, 1, []), (.iload_n 1, 1, []), (.if_icmp .ne 7, 3, []), (.iconst 1, 1, []), (.goto 4, 3, [])]),
  (27, [true, true, false, true], [(.iconst 0, 1, [])]),
  (28, [true, true, false, true], [(.iadd, 1, []), (.istore_n 2, 1, []), (.iinc 3 1, 3, []), (.goto (-29), 3, [])]),
  (36, [false, false, true, false], [(.iload_n 2, 1, []), (.ireturn, 1, [])])]
/-- SlipRoomModel.look -/
noncomputable def z_b161 : z_B := [
  (0, [true, true, true, true, true], [(.aload_n 0, 1, []), (.iconst 0, 1, []), (.putfield 170, 3, [9, 1, 0, 0, 0, 1167]), (.aload_n 0, 1, []), (.iload_n 1, 1, []), (.invokevirtual 344, 3, [113, 2, 2, 9, 1, 1509]), (.ifCond .ne 9, 3, []), (.aload_n 0, 1, []), (.iconst 1, 1, []), (.invokevirtual 308, 3, [111, 2, 2, 9, 1, 1392]), (.ireturn, 1, [])]),
  (19, [true, true, true, true, true], [(.aload_n 0, 1, []), (.getfield 328, 3, [9, 44, 0, 0, 0, 1210]), (.bipush 24, 2, []), (.if_icmp .eq 45, 3, []), (.aload_n 0, 1, []), (.iload_n 1, 1, []), (.invokevirtual 379, 3, [160, 2, 2, 9, 1, 1592]), (.bipush 6, 2, []), (.if_icmp .eq 35, 3, []), (.iload_n 2, 1, []), (.iconst 0, 1, []), (.sipush 8759, 3, []), (.invokestatic 176, 3, [112, 3, 0, 0, 1, 1502]), (.ifCond .eq 24, 3, []), (.iload_n 3, 1, []), (.iconst 0, 1, []), (.iconst 3, 1, []), (.invokestatic 176, 3, [112, 3, 0, 0, 1, 1502]), (.ifCond .eq 15, 3, []), (.iload 4, 2, []), (.iconst 1, 1, []), (.sipush 401, 3, []), (.invokestatic 176, 3, [112, 3, 0, 0, 1, 1502]), (.ifCond .ne 15, 3, [])]),
  (70, [true, false, false, false, false], [(.aload_n 0, 1, []), (.getfield 54, 3, [9, 14, 2, 10, 0, 1180]), (.iconst 3, 1, []), (.dup2, 1, []), (.iaload, 1, []), (.iconst 1, 1, []), (.iadd, 1, []), (.iastore, 1, []), (.iconst (-1), 1, []), (.ireturn, 1, [])]),
  (82, [true, true, true, true, true], [(.aload_n 0, 1, []), (.getfield 110, 3, [9, 45, 2, 27, 0, 1211]), (.aload_n 0, 1, []), (.getfield 328, 3, [9, 44, 0, 0, 0, 1210]), (.iload_n 1, 1, []), (.iastore, 1, []), (.aload_n 0, 1, []), (.getfield 113, 3, [9, 46, 2, 28, 0, 1212]), (.aload_n 0, 1, []), (.getfield 328, 3, [9, 44, 0, 0, 0, 1210]), (.iload_n 2, 1, []), (.iastore, 1, []), (.aload_n 0, 1, []), (.getfield 116, 3, [9, 47, 2, 29, 0, 1213]), (.aload_n 0, 1, []), (.getfield 328, 3, [9, 44, 0, 0, 0, 1210]), (.iload_n 3, 1, []), (.iastore, 1, []), (.aload_n 0, 1, []), (.getfield 119, 3, [9, 48, 2, 30, 0, 1214]), (.aload_n 0, 1, []), (.getfield 328, 3, [9, 44, 0, 0, 0, 1210]), (.iload 4, 2, []), (.iastore, 1, []), (.aload_n 0, 1, []), (.dup, 1, []), (.getfield 328, 3, [9, 44, 0, 0, 0, 1210]), (.iconst 1, 1, []), (.iadd, 1, []), (.putfield 328, 3, [9, 44, 0, 0, 0, 1210]), (.aload_n 0, 1, []), (.getfield 328, 3, [9, 44, 0, 0, 0, 1210]), (.iconst 1, 1, []), (.isub, 1, []), (.ireturn, 1, [])])]
/-- SlipRoomModel.lentBetween -/
noncomputable def z_b162 : z_B := [
  (0, [true, true, true, true, true, false, false], [(.iconst 0, 1, []), (.istore 5, 2, []), (.iconst 0, 1, []), (.istore 6, 2, [])]),
  (6, [true, true, true, true, true, true, true], [(.iload 6, 2, []), (.aload_n 0, 1, []), (.getfield 322, 3, [9, 28, 0, 0, 0, 1194]), (.if_icmp .ge 75, 3, []), (.aload_n 0, 1, []), (.getfield 86, 3, [9, 36, 2, 19, 0, 1202]), (.iload 6, 2, []), (.iaload, 1, []), (.iload_n 1, 1, []), (.if_icmp .ne 58, 3, []), (.aload_n 0, 1, []), (.getfield 89, 3, [9, 37, 2, 20, 0, 1203]), (.iload 6, 2, []), (.iaload, 1, []), (.iload_n 2, 1, []), (.if_icmp .eq 6, 3, []), (.goto 44, 3, [])]),
  (40, [true, true, true, true, true, true, true], [(.iload 5, 2, []), (.iconst 0, 1, []), (.iload 4, 2, []), (.aload_n 0, 1, []), (.getfield 92, 3, [9, 38, 2, 21, 0, 1204]), (.iload 6, 2, []), (.iaload, 1, []), (.aload_n 0, 1, []), (.getfield 95, 3, [9, 39, 2, 22, 0, 1205]), (.iload 6, 2, []), (.iaload, 1, []), (.iadd, 1, []), (.invokestatic 213, 3, [188, 2, 0, 0, 1, 1411]), (.iload_n 3, 1, []), (.aload_n 0, 1, []), (.getfield 92, 3, [9, 38, 2, 21, 0, 1204]), (.iload 6, 2, []), (.iaload, 1, []), (.invokestatic 363, 3, [187, 2, 0, 0, 1, 1552]), (.isub, 1, []), (.invokestatic 363, 3, [187, 2, 0, 0, 1, 1552]), (.iadd, 1, []), (.istore 5, 2, [])]),
  (81, [true, true, true, true, true, true, true], [(.iinc 6 1, 3, []), (.goto (-78), 3, [])]),
  (87, [false, false, false, false, false, true, false], [(.iload 5, 2, []), (.ireturn, 1, [])])]
/-- SlipRoomModel.begunBetween -/
noncomputable def z_b163 : z_B := [
  (0, [true, true, true, true, true, false, false], [(.iconst 0, 1, []), (.istore 5, 2, []), (.iconst 0, 1, []), (.istore 6, 2, [])]),
  (6, [true, true, true, true, true, true, true], [(.iload 6, 2, []), (.aload_n 0, 1, []), (.getfield 322, 3, [9, 28, 0, 0, 0, 1194]), (.if_icmp .ge 59, 3, []), (.iload 5, 2, []), (.aload_n 0, 1, []), (.getfield 86, 3, [9, 36, 2, 19, 0, 1202]), (.iload 6, 2, []), (.iaload, 1, []), (.iload_n 1, 1, []), (.if_icmp .ne 36, 3, []), (.aload_n 0, 1, []), (.getfield 89, 3, [9, 37, 2, 20, 0, 1203]), (.iload 6, 2, []), (.iaload, 1, []), (.iload_n 2, 1, []), (.if_icmp .ne 25, 3, []), (.aload_n 0, 1, []), (.getfield 92, 3, [9, 38, 2, 21, 0, 1204]), (.iload 6, 2, []), (.iaload, 1, []), (.iload_n 3, 1, []), (.iload 4, 2, []), (.iconst 1, 1, []), (.isub, 1, []), (.invokestatic 176, 3, [112, 3, 0, 0, 1, 1502]), (.ifCond .eq 7, 3, []), (.iconst 1, 1, []), (.goto 4, 3, [])]),
  (61, [true, true, true, true, true, false, true], [(.iconst 0, 1, [])]),
  (62, [true, true, true, true, true, false, true], [(.iadd, 1, []), (.istore 5, 2, []), (.iinc 6 1, 3, []), (.goto (-62), 3, [])]),
  (71, [false, false, false, false, false, true, false], [(.iload 5, 2, []), (.ireturn, 1, [])])]
/-- SlipRoomModel.layLooks -/
noncomputable def z_b164 : z_B := [
  (0, [true, true, true, false, false], [(.aload_n 0, 1, []), (.iconst 0, 1, []), (.putfield 382, 3, [9, 55, 0, 0, 0, 1221]), (.iconst 0, 1, []), (.istore_n 3, 1, [])]),
  (7, [true, true, true, true, false], [(.iload_n 3, 1, []), (.aload_n 0, 1, []), (.getfield 328, 3, [9, 44, 0, 0, 0, 1210]), (.if_icmp .ge 101, 3, []), (.aload_n 0, 1, []), (.getfield 110, 3, [9, 45, 2, 27, 0, 1211]), (.iload_n 3, 1, []), (.iaload, 1, []), (.iload_n 1, 1, []), (.if_icmp .ne 85, 3, []), (.iload_n 3, 1, []), (.iload_n 2, 1, []), (.if_icmp .ne 6, 3, []), (.goto 77, 3, [])]),
  (33, [true, true, true, true, false], [(.aload_n 0, 1, []), (.getfield 382, 3, [9, 55, 0, 0, 0, 1221]), (.istore 4, 2, [])]),
  (39, [true, true, true, true, true], [(.iload 4, 2, []), (.ifCond .le 48, 3, []), (.aload_n 0, 1, []), (.getfield 113, 3, [9, 46, 2, 28, 0, 1212]), (.aload_n 0, 1, []), (.getfield 122, 3, [9, 49, 2, 31, 0, 1215]), (.iload 4, 2, []), (.iconst 1, 1, []), (.isub, 1, []), (.iaload, 1, []), (.iaload, 1, []), (.aload_n 0, 1, []), (.getfield 113, 3, [9, 46, 2, 28, 0, 1212]), (.iload_n 3, 1, []), (.iaload, 1, []), (.if_icmp .le 25, 3, []), (.aload_n 0, 1, []), (.getfield 122, 3, [9, 49, 2, 31, 0, 1215]), (.iload 4, 2, []), (.aload_n 0, 1, []), (.getfield 122, 3, [9, 49, 2, 31, 0, 1215]), (.iload 4, 2, []), (.iconst 1, 1, []), (.isub, 1, []), (.iaload, 1, []), (.iastore, 1, []), (.iinc 4 (-1), 3, []), (.goto (-47), 3, [])]),
  (89, [true, true, true, true, true], [(.aload_n 0, 1, []), (.getfield 122, 3, [9, 49, 2, 31, 0, 1215]), (.iload 4, 2, []), (.iload_n 3, 1, []), (.iastore, 1, []), (.aload_n 0, 1, []), (.dup, 1, []), (.getfield 382, 3, [9, 55, 0, 0, 0, 1221]), (.iconst 1, 1, []), (.iadd, 1, []), (.putfield 382, 3, [9, 55, 0, 0, 0, 1221])]),
  (107, [true, true, true, true, false], [(.iinc 3 1, 3, []), (.goto (-103), 3, [])]),
  (113, [false, false, false, false, false], [(.return_, 1, [])])]
/-- SlipRoomModel.mayHave -/
noncomputable def z_b165 : z_B := [
  (0, [true, true, true, true, false, false, false, false, false], [(.aload_n 0, 1, []), (.getfield 122, 3, [9, 49, 2, 31, 0, 1215]), (.iload_n 2, 1, []), (.iaload, 1, []), (.istore 4, 2, []), (.aload_n 0, 1, []), (.getfield 39, 3, [9, 9, 2, 5, 0, 1175]), (.iload_n 3, 1, []), (.iaload, 1, []), (.aload_n 0, 1, []), (.getfield 116, 3, [9, 47, 2, 29, 0, 1213]), (.iload 4, 2, []), (.iaload, 1, []), (.if_icmp .eq 5, 3, []), (.iconst 0, 1, []), (.ireturn, 1, [])]),
  (26, [true, true, true, true, true, false, false, false, false], [(.iload_n 2, 1, []), (.iconst 1, 1, []), (.isub, 1, []), (.istore 5, 2, [])]),
  (31, [true, true, false, true, true, true, false, false, false], [(.iload 5, 2, []), (.ifCond .lt 20, 3, []), (.aload_n 0, 1, []), (.getfield 125, 3, [9, 50, 2, 32, 0, 1216]), (.iload 5, 2, []), (.iaload, 1, []), (.iload_n 3, 1, []), (.if_icmp .eq 9, 3, []), (.iinc 5 (-1), 3, []), (.goto (-19), 3, [])]),
  (53, [true, true, false, true, true, true, false, false, false], [(.iload 5, 2, []), (.ifCond .ge 42, 3, []), (.aload_n 0, 1, []), (.getfield 119, 3, [9, 48, 2, 30, 0, 1214]), (.iload 4, 2, []), (.iaload, 1, []), (.iconst 1, 1, []), (.isub, 1, []), (.aload_n 0, 1, []), (.getfield 36, 3, [9, 8, 2, 4, 0, 1174]), (.iload_n 3, 1, []), (.iaload, 1, []), (.aload_n 0, 1, []), (.iload_n 3, 1, []), (.iload_n 1, 1, []), (.iconst 0, 1, []), (.aload_n 0, 1, []), (.getfield 113, 3, [9, 46, 2, 28, 0, 1212]), (.iload 4, 2, []), (.iaload, 1, []), (.invokevirtual 385, 3, [162, 5, 2, 9, 1, 1620]), (.imul, 1, []), (.if_icmp .gt 7, 3, []), (.iconst 1, 1, []), (.goto 4, 3, [])]),
  (95, [false, false, false, false, false, false, false, false, false], [(.iconst 0, 1, [])]),
  (96, [false, false, false, false, false, false, false, false, false], [(.ireturn, 1, [])]),
  (97, [true, true, false, true, true, true, false, false, false], [(.aload_n 0, 1, []), (.getfield 122, 3, [9, 49, 2, 31, 0, 1215]), (.iload 5, 2, []), (.iaload, 1, []), (.istore 6, 2, []), (.aload_n 0, 1, []), (.getfield 119, 3, [9, 48, 2, 30, 0, 1214]), (.iload 6, 2, []), (.iaload, 1, []), (.aload_n 0, 1, []), (.getfield 42, 3, [9, 10, 2, 6, 0, 1176]), (.iload_n 3, 1, []), (.iaload, 1, []), (.aload_n 0, 1, []), (.iload_n 3, 1, []), (.iload_n 1, 1, []), (.aload_n 0, 1, []), (.getfield 113, 3, [9, 46, 2, 28, 0, 1212]), (.iload 6, 2, []), (.iaload, 1, []), (.aload_n 0, 1, []), (.getfield 113, 3, [9, 46, 2, 28, 0, 1212]), (.iload 4, 2, []), (.iaload, 1, []), (.invokevirtual 389, 3, [163, 5, 2, 9, 1, 1624]), (.imul, 1, []), (.isub, 1, []), (.istore 7, 2, []), (.aload_n 0, 1, []), (.getfield 119, 3, [9, 48, 2, 30, 0, 1214]), (.iload 6, 2, []), (.iaload, 1, []), (.aload_n 0, 1, []), (.getfield 36, 3, [9, 8, 2, 4, 0, 1174]), (.iload_n 3, 1, []), (.iaload, 1, []), (.aload_n 0, 1, []), (.iload_n 3, 1, []), (.iload_n 1, 1, []), (.aload_n 0, 1, []), (.getfield 113, 3, [9, 46, 2, 28, 0, 1212]), (.iload 6, 2, []), (.iaload, 1, []), (.aload_n 0, 1, []), (.getfield 113, 3, [9, 46, 2, 28, 0, 1212]), (.iload 4, 2, []), (.iaload, 1, []), (.invokevirtual 385, 3, [162, 5, 2, 9, 1, 1620]), (.imul, 1, []), (.iadd, 1, []), (.istore 8, 2, []), (.aload_n 0, 1, []), (.getfield 113, 3, [9, 46, 2, 28, 0, 1212]), (.iload 6, 2, []), (.iaload, 1, []), (.aload_n 0, 1, []), (.getfield 113, 3, [9, 46, 2, 28, 0, 1212]), (.iload 4, 2, []), (.iaload, 1, []), (.if_icmp .ge 24, 3, []), (.aload_n 0, 1, []), (.getfield 119, 3, [9, 48, 2, 30, 0, 1214]), (.iload 4, 2, []), (.iaload, 1, []), (.iload 7, 2, []), (.iload 8, 2, []), (.invokestatic 176, 3, [112, 3, 0, 0, 1, 1502]), (.ifCond .eq 7, 3, []), (.iconst 1, 1, []), (.goto 4, 3, [])]),
  (218, [false, false, false, false, false, false, false, false, false], [(.iconst 0, 1, [])]),
  (219, [false, false, false, false, false, false, false, false, false], [(.ireturn, 1, [])])]
/-- SlipRoomModel.tellWay -/
noncomputable def z_b166 : z_B := [
  (0, [true, false, false, false], [(.iconst 0, 1, []), (.istore_n 1, 1, [])]),
  (2, [true, true, false, false], [(.iload_n 1, 1, []), (.aload_n 0, 1, []), (.getfield 382, 3, [9, 55, 0, 0, 0, 1221]), (.if_icmp .ge 53, 3, []), (.aload_n 0, 1, []), (.getfield 128, 3, [9, 51, 2, 33, 0, 1217]), (.aload_n 0, 1, []), (.getfield 122, 3, [9, 49, 2, 31, 0, 1215]), (.iload_n 1, 1, []), (.iaload, 1, []), (.dup2, 1, []), (.iaload, 1, []), (.iconst 1, 1, []), (.aload_n 0, 1, []), (.getfield 125, 3, [9, 50, 2, 32, 0, 1216]), (.iload_n 1, 1, []), (.iaload, 1, []), (.ishl, 1, []), (.ior, 1, []), (.iastore, 1, []), (.aload_n 0, 1, []), (.getfield 131, 3, [9, 52, 2, 34, 0, 1218]), (.aload_n 0, 1, []), (.getfield 122, 3, [9, 49, 2, 31, 0, 1215]), (.iload_n 1, 1, []), (.iaload, 1, []), (.dup2, 1, []), (.iaload, 1, []), (.iconst 1, 1, []), (.aload_n 0, 1, []), (.getfield 125, 3, [9, 50, 2, 32, 0, 1216]), (.iload_n 1, 1, []), (.iaload, 1, []), (.ishl, 1, []), (.iand, 1, []), (.iastore, 1, []), (.iinc 1 1, 3, []), (.goto (-55), 3, [])]),
  (60, [true, false, false, false], [(.iconst 0, 1, []), (.istore_n 1, 1, [])]),
  (62, [true, true, false, false], [(.iload_n 1, 1, []), (.aload_n 0, 1, []), (.getfield 180, 3, [9, 3, 0, 0, 0, 1169]), (.if_icmp .ge 107, 3, []), (.iconst 1, 1, []), (.istore_n 2, 1, []), (.iconst 0, 1, []), (.istore_n 3, 1, [])]),
  (74, [true, true, true, true], [(.iload_n 3, 1, []), (.aload_n 0, 1, []), (.getfield 382, 3, [9, 55, 0, 0, 0, 1221]), (.if_icmp .ge 35, 3, []), (.aload_n 0, 1, []), (.getfield 125, 3, [9, 50, 2, 32, 0, 1216]), (.iload_n 3, 1, []), (.iaload, 1, []), (.iload_n 1, 1, []), (.if_icmp .ne 17, 3, []), (.aload_n 0, 1, []), (.getfield 119, 3, [9, 48, 2, 30, 0, 1214]), (.aload_n 0, 1, []), (.getfield 122, 3, [9, 49, 2, 31, 0, 1215]), (.iload_n 3, 1, []), (.iaload, 1, []), (.iaload, 1, []), (.goto 4, 3, [])]),
  (106, [true, true, true, true], [(.iload_n 2, 1, [])]),
  (107, [true, true, false, true], [(.istore_n 2, 1, []), (.iinc 3 1, 3, []), (.goto (-37), 3, [])]),
  (114, [true, true, true, false], [(.aload_n 0, 1, []), (.getfield 134, 3, [9, 53, 2, 35, 0, 1219]), (.iload_n 1, 1, []), (.aload_n 0, 1, []), (.getfield 392, 3, [9, 56, 0, 0, 0, 1222]), (.ifCond .ne 7, 3, []), (.iload_n 2, 1, []), (.goto 13, 3, [])]),
  (130, [true, true, true, false], [(.aload_n 0, 1, []), (.getfield 134, 3, [9, 53, 2, 35, 0, 1219]), (.iload_n 1, 1, []), (.iaload, 1, []), (.iload_n 2, 1, []), (.invokestatic 213, 3, [188, 2, 0, 0, 1, 1411])]),
  (140, [true, true, true, false], [(.iastore, 1, []), (.aload_n 0, 1, []), (.getfield 137, 3, [9, 54, 2, 36, 0, 1220]), (.iload_n 1, 1, []), (.aload_n 0, 1, []), (.getfield 392, 3, [9, 56, 0, 0, 0, 1222]), (.ifCond .ne 7, 3, []), (.iload_n 2, 1, []), (.goto 13, 3, [])]),
  (157, [true, true, true, false], [(.aload_n 0, 1, []), (.getfield 137, 3, [9, 54, 2, 36, 0, 1220]), (.iload_n 1, 1, []), (.iaload, 1, []), (.iload_n 2, 1, []), (.invokestatic 363, 3, [187, 2, 0, 0, 1, 1552])]),
  (167, [true, true, false, false], [(.iastore, 1, []), (.iinc 1 1, 3, []), (.goto (-109), 3, [])]),
  (174, [true, false, false, false], [(.aload_n 0, 1, []), (.dup, 1, []), (.getfield 392, 3, [9, 56, 0, 0, 0, 1222]), (.iconst 1, 1, []), (.iadd, 1, []), (.putfield 392, 3, [9, 56, 0, 0, 0, 1222]), (.return_, 1, [])])]
/-- SlipRoomModel.wayOn -/
noncomputable def z_b167 : z_B := [
  (0, [true, true, true, false], [(.iload_n 2, 1, []), (.aload_n 0, 1, []), (.getfield 382, 3, [9, 55, 0, 0, 0, 1221]), (.if_icmp .ne 8, 3, []), (.aload_n 0, 1, []), (.invokevirtual 395, 3, [166, 1, 2, 9, 0, 1612]), (.return_, 1, [])]),
  (13, [true, true, true, false], [(.iconst 0, 1, []), (.istore_n 3, 1, [])]),
  (15, [true, true, true, true], [(.iload_n 3, 1, []), (.aload_n 0, 1, []), (.getfield 180, 3, [9, 3, 0, 0, 0, 1169]), (.if_icmp .ge 37, 3, []), (.aload_n 0, 1, []), (.iload_n 1, 1, []), (.iload_n 2, 1, []), (.iload_n 3, 1, []), (.invokevirtual 398, 3, [165, 4, 2, 9, 1, 1616]), (.ifCond .ne 6, 3, []), (.goto 18, 3, [])]),
  (36, [true, true, true, true], [(.aload_n 0, 1, []), (.getfield 125, 3, [9, 50, 2, 32, 0, 1216]), (.iload_n 2, 1, []), (.iload_n 3, 1, []), (.iastore, 1, []), (.aload_n 0, 1, []), (.iload_n 1, 1, []), (.iload_n 2, 1, []), (.iconst 1, 1, []), (.iadd, 1, []), (.invokevirtual 401, 3, [167, 3, 2, 9, 0, 1608])]),
  (51, [true, true, true, true], [(.iinc 3 1, 3, []), (.goto (-39), 3, [])]),
  (57, [false, false, false, false], [(.return_, 1, [])])]
/-- SlipRoomModel.tellWays -/
noncomputable def z_b168 : z_B := [
  (0, [true, true, true, false], [(.aload_n 0, 1, []), (.iload_n 1, 1, []), (.iload_n 2, 1, []), (.invokevirtual 405, 3, [164, 3, 2, 9, 0, 1604]), (.aload_n 0, 1, []), (.iconst 0, 1, []), (.putfield 392, 3, [9, 56, 0, 0, 0, 1222]), (.iconst 0, 1, []), (.istore_n 3, 1, [])]),
  (13, [true, true, false, true], [(.iload_n 3, 1, []), (.bipush 24, 2, []), (.if_icmp .ge 25, 3, []), (.aload_n 0, 1, []), (.getfield 128, 3, [9, 51, 2, 33, 0, 1217]), (.iload_n 3, 1, []), (.iconst 0, 1, []), (.iastore, 1, []), (.aload_n 0, 1, []), (.getfield 131, 3, [9, 52, 2, 34, 0, 1218]), (.iload_n 3, 1, []), (.sipush 255, 3, []), (.iastore, 1, []), (.iinc 3 1, 3, []), (.goto (-25), 3, [])]),
  (41, [true, true, false, false], [(.aload_n 0, 1, []), (.iload_n 1, 1, []), (.iconst 0, 1, []), (.invokevirtual 401, 3, [167, 3, 2, 9, 0, 1608]), (.return_, 1, [])])]
/-- SlipRoomModel.ways -/
noncomputable def z_b169 : z_B := [
  (0, [true, true], [(.aload_n 0, 1, []), (.iconst 0, 1, []), (.putfield 170, 3, [9, 1, 0, 0, 0, 1167]), (.aload_n 0, 1, []), (.iload_n 1, 1, []), (.invokevirtual 344, 3, [113, 2, 2, 9, 1, 1509]), (.ifCond .ne 9, 3, []), (.aload_n 0, 1, []), (.iconst 1, 1, []), (.invokevirtual 308, 3, [111, 2, 2, 9, 1, 1392]), (.ireturn, 1, [])]),
  (19, [true, true], [(.aload_n 0, 1, []), (.iload_n 1, 1, []), (.iconst (-1), 1, []), (.invokevirtual 408, 3, [168, 3, 2, 9, 0, 1600]), (.aload_n 0, 1, []), (.getfield 392, 3, [9, 56, 0, 0, 0, 1222]), (.ireturn, 1, [])])]
/-- SlipRoomModel.whose -/
noncomputable def z_b170 : z_B := [
  (0, [true, true, true, false], [(.aload_n 0, 1, []), (.iconst 0, 1, []), (.putfield 170, 3, [9, 1, 0, 0, 0, 1167]), (.iload_n 1, 1, []), (.iconst 0, 1, []), (.aload_n 0, 1, []), (.getfield 328, 3, [9, 44, 0, 0, 0, 1210]), (.iconst 1, 1, []), (.isub, 1, []), (.invokestatic 176, 3, [112, 3, 0, 0, 1, 1502]), (.ifCond .eq 12, 3, []), (.iload_n 2, 1, []), (.ifCond .lt 8, 3, []), (.iload_n 2, 1, []), (.iconst 1, 1, []), (.if_icmp .le 9, 3, [])]),
  (28, [true, false, false, false], [(.aload_n 0, 1, []), (.iconst 1, 1, []), (.invokevirtual 308, 3, [111, 2, 2, 9, 1, 1392]), (.ireturn, 1, [])]),
  (34, [true, true, true, false], [(.aload_n 0, 1, []), (.aload_n 0, 1, []), (.getfield 110, 3, [9, 45, 2, 27, 0, 1211]), (.iload_n 1, 1, []), (.iaload, 1, []), (.iconst (-1), 1, []), (.invokevirtual 408, 3, [168, 3, 2, 9, 0, 1600]), (.iload_n 2, 1, []), (.ifCond .ne 10, 3, []), (.aload_n 0, 1, []), (.getfield 128, 3, [9, 51, 2, 33, 0, 1217]), (.iload_n 1, 1, []), (.iaload, 1, []), (.ireturn, 1, [])]),
  (56, [true, true, false, false], [(.aload_n 0, 1, []), (.getfield 392, 3, [9, 56, 0, 0, 0, 1222]), (.ifCond .eq 12, 3, []), (.aload_n 0, 1, []), (.getfield 131, 3, [9, 52, 2, 34, 0, 1218]), (.iload_n 1, 1, []), (.iaload, 1, []), (.ifCond .ne 5, 3, [])]),
  (72, [false, false, false, false], [(.iconst (-1), 1, []), (.ireturn, 1, [])]),
  (74, [true, true, false, false], [(.iconst 0, 1, []), (.istore_n 3, 1, [])]),
  (76, [true, true, false, true], [(.aload_n 0, 1, []), (.getfield 131, 3, [9, 52, 2, 34, 0, 1218]), (.iload_n 1, 1, []), (.iaload, 1, []), (.iload_n 3, 1, []), (.ishr, 1, []), (.iconst 1, 1, []), (.iand, 1, []), (.ifCond .ne 9, 3, []), (.iinc 3 1, 3, []), (.goto (-16), 3, [])]),
  (95, [false, false, false, true], [(.iload_n 3, 1, []), (.ireturn, 1, [])])]
/-- SlipRoomModel.ends -/
noncomputable def z_b171 : z_B := [
  (0, [true, true, true, true], [(.aload_n 0, 1, []), (.iconst 0, 1, []), (.putfield 170, 3, [9, 1, 0, 0, 0, 1167]), (.aload_n 0, 1, []), (.iload_n 1, 1, []), (.invokevirtual 353, 3, [114, 2, 2, 9, 1, 1532]), (.ifCond .eq 20, 3, []), (.aload_n 0, 1, []), (.iload_n 2, 1, []), (.invokevirtual 344, 3, [113, 2, 2, 9, 1, 1509]), (.ifCond .eq 12, 3, []), (.iload_n 3, 1, []), (.ifCond .lt 8, 3, []), (.iload_n 3, 1, []), (.iconst 1, 1, []), (.if_icmp .le 9, 3, [])]),
  (30, [true, false, false, false], [(.aload_n 0, 1, []), (.iconst 1, 1, []), (.invokevirtual 308, 3, [111, 2, 2, 9, 1, 1392]), (.ireturn, 1, [])]),
  (36, [true, true, true, true], [(.aload_n 0, 1, []), (.iload_n 2, 1, []), (.iconst (-1), 1, []), (.invokevirtual 408, 3, [168, 3, 2, 9, 0, 1600]), (.aload_n 0, 1, []), (.getfield 392, 3, [9, 56, 0, 0, 0, 1222]), (.ifCond .ne 7, 3, []), (.iconst (-1), 1, []), (.goto 22, 3, [])]),
  (53, [true, true, false, true], [(.iload_n 3, 1, []), (.ifCond .ne 12, 3, []), (.aload_n 0, 1, []), (.getfield 134, 3, [9, 53, 2, 35, 0, 1219]), (.iload_n 1, 1, []), (.iaload, 1, []), (.goto 9, 3, [])]),
  (66, [true, true, false, false], [(.aload_n 0, 1, []), (.getfield 137, 3, [9, 54, 2, 36, 0, 1220]), (.iload_n 1, 1, []), (.iaload, 1, [])]),
  (72, [false, false, false, false], [(.ireturn, 1, [])])]
/-- SlipRoomModel.moved -/
noncomputable def z_b172 : z_B := [
  (0, [true, true, false, false], [(.aload_n 0, 1, []), (.iconst 0, 1, []), (.putfield 170, 3, [9, 1, 0, 0, 0, 1167]), (.aload_n 0, 1, []), (.iload_n 1, 1, []), (.invokevirtual 344, 3, [113, 2, 2, 9, 1, 1509]), (.ifCond .ne 9, 3, []), (.aload_n 0, 1, []), (.iconst 1, 1, []), (.invokevirtual 308, 3, [111, 2, 2, 9, 1, 1392]), (.ireturn, 1, [])]),
  (19, [true, true, false, false], [(.aload_n 0, 1, []), (.iload_n 1, 1, []), (.iconst (-1), 1, []), (.invokevirtual 408, 3, [168, 3, 2, 9, 0, 1600]), (.aload_n 0, 1, []), (.getfield 392, 3, [9, 56, 0, 0, 0, 1222]), (.ifCond .le 5, 3, []), (.iconst 0, 1, []), (.ireturn, 1, [])]),
  (34, [true, true, false, false], [(.iconst 0, 1, []), (.istore_n 2, 1, []), (.iconst 0, 1, []), (.istore_n 3, 1, [])]),
  (38, [true, true, true, true], [(.iload_n 3, 1, []), (.aload_n 0, 1, []), (.getfield 328, 3, [9, 44, 0, 0, 0, 1210]), (.if_icmp .ge 45, 3, []), (.aload_n 0, 1, []), (.getfield 110, 3, [9, 45, 2, 27, 0, 1211]), (.iload_n 3, 1, []), (.iaload, 1, []), (.iload_n 1, 1, []), (.if_icmp .eq 6, 3, []), (.goto 26, 3, [])]),
  (59, [true, true, true, true], [(.aload_n 0, 1, []), (.iload_n 1, 1, []), (.iload_n 3, 1, []), (.invokevirtual 408, 3, [168, 3, 2, 9, 0, 1600]), (.iload_n 2, 1, []), (.aload_n 0, 1, []), (.getfield 392, 3, [9, 56, 0, 0, 0, 1222]), (.ifCond .le 9, 3, []), (.iconst 1, 1, []), (.iload_n 3, 1, []), (.ishl, 1, []), (.goto 4, 3, [])]),
  (79, [true, true, false, true], [(.iconst 0, 1, [])]),
  (80, [true, true, false, true], [(.ior, 1, []), (.istore_n 2, 1, [])]),
  (82, [true, true, true, true], [(.iinc 3 1, 3, []), (.goto (-47), 3, [])]),
  (88, [false, false, true, false], [(.iload_n 2, 1, []), (.ireturn, 1, [])])]
/-- SlipRoomModel.wish -/
noncomputable def z_b173 : z_B := [
  (0, [true, true, true, true], [(.aload_n 0, 1, []), (.iconst 0, 1, []), (.putfield 170, 3, [9, 1, 0, 0, 0, 1167]), (.aload_n 0, 1, []), (.iload_n 1, 1, []), (.invokevirtual 353, 3, [114, 2, 2, 9, 1, 1532]), (.ifCond .ne 9, 3, []), (.aload_n 0, 1, []), (.iconst 1, 1, []), (.invokevirtual 308, 3, [111, 2, 2, 9, 1, 1392]), (.ireturn, 1, [])]),
  (19, [true, true, true, true], [(.aload_n 0, 1, []), (.getfield 331, 3, [9, 57, 0, 0, 0, 1223]), (.bipush 7, 2, []), (.if_icmp .eq 24, 3, []), (.iload_n 2, 1, []), (.iconst 1, 1, []), (.bipush 99, 2, []), (.invokestatic 176, 3, [112, 3, 0, 0, 1, 1502]), (.ifCond .eq 14, 3, []), (.iload_n 3, 1, []), (.iconst 0, 1, []), (.sipush 999, 3, []), (.invokestatic 176, 3, [112, 3, 0, 0, 1, 1502]), (.ifCond .ne 15, 3, [])]),
  (49, [true, false, false, false], [(.aload_n 0, 1, []), (.getfield 54, 3, [9, 14, 2, 10, 0, 1180]), (.iconst 4, 1, []), (.dup2, 1, []), (.iaload, 1, []), (.iconst 1, 1, []), (.iadd, 1, []), (.iastore, 1, []), (.iconst (-1), 1, []), (.ireturn, 1, [])]),
  (61, [true, true, true, true], [(.aload_n 0, 1, []), (.getfield 140, 3, [9, 58, 2, 37, 0, 1224]), (.aload_n 0, 1, []), (.getfield 331, 3, [9, 57, 0, 0, 0, 1223]), (.iload_n 1, 1, []), (.iastore, 1, []), (.aload_n 0, 1, []), (.getfield 143, 3, [9, 59, 2, 38, 0, 1225]), (.aload_n 0, 1, []), (.getfield 331, 3, [9, 57, 0, 0, 0, 1223]), (.iload_n 2, 1, []), (.iastore, 1, []), (.aload_n 0, 1, []), (.getfield 146, 3, [9, 60, 2, 39, 0, 1226]), (.aload_n 0, 1, []), (.getfield 331, 3, [9, 57, 0, 0, 0, 1223]), (.iload_n 3, 1, []), (.iastore, 1, []), (.aload_n 0, 1, []), (.dup, 1, []), (.getfield 331, 3, [9, 57, 0, 0, 0, 1223]), (.iconst 1, 1, []), (.iadd, 1, []), (.putfield 331, 3, [9, 57, 0, 0, 0, 1223]), (.aload_n 0, 1, []), (.getfield 331, 3, [9, 57, 0, 0, 0, 1223]), (.ireturn, 1, [])])]
/-- SlipRoomModel.orderOn -/
noncomputable def z_b174 : z_B := [
  (0, [true, true, true, true, true, false, false], [(.iload_n 1, 1, []), (.aload_n 0, 1, []), (.getfield 331, 3, [9, 57, 0, 0, 0, 1223]), (.if_icmp .ne 57, 3, []), (.aload_n 0, 1, []), (.getfield 411, 3, [9, 64, 0, 0, 0, 1230]), (.iconst (-1), 1, []), (.if_icmp .eq 13, 3, []), (.iload 4, 2, []), (.aload_n 0, 1, []), (.getfield 411, 3, [9, 64, 0, 0, 0, 1230]), (.if_icmp .lt 4, 3, []), (.return_, 1, [])]),
  (26, [true, true, false, false, true, false, false], [(.aload_n 0, 1, []), (.iload 4, 2, []), (.putfield 411, 3, [9, 64, 0, 0, 0, 1230]), (.iconst 0, 1, []), (.istore 5, 2, [])]),
  (35, [true, true, false, false, false, true, false], [(.iload 5, 2, []), (.iload_n 1, 1, []), (.if_icmp .ge 23, 3, []), (.aload_n 0, 1, []), (.getfield 149, 3, [9, 61, 2, 40, 0, 1227]), (.iload 5, 2, []), (.aload_n 0, 1, []), (.getfield 152, 3, [9, 62, 2, 41, 0, 1228]), (.iload 5, 2, []), (.iaload, 1, []), (.iastore, 1, []), (.iinc 5 1, 3, []), (.goto (-23), 3, [])]),
  (61, [false, false, false, false, false, false, false], [(.return_, 1, [])]),
  (62, [true, true, true, true, true, false, false], [(.iconst 0, 1, []), (.istore 5, 2, [])]),
  (65, [true, true, true, true, true, true, false], [(.iload 5, 2, []), (.aload_n 0, 1, []), (.getfield 331, 3, [9, 57, 0, 0, 0, 1223]), (.if_icmp .ge 79, 3, []), (.iload_n 2, 1, []), (.iload 5, 2, []), (.ishr, 1, []), (.iconst 1, 1, []), (.iand, 1, []), (.iconst 1, 1, []), (.if_icmp .ne 6, 3, []), (.goto 60, 3, [])]),
  (87, [true, true, true, true, true, true, false], [(.aload_n 0, 1, []), (.getfield 152, 3, [9, 62, 2, 41, 0, 1228]), (.iload_n 1, 1, []), (.iload 5, 2, []), (.iastore, 1, []), (.iload_n 3, 1, []), (.aload_n 0, 1, []), (.getfield 146, 3, [9, 60, 2, 39, 0, 1226]), (.iload 5, 2, []), (.iaload, 1, []), (.invokestatic 363, 3, [187, 2, 0, 0, 1, 1552]), (.istore 6, 2, []), (.aload_n 0, 1, []), (.iload_n 1, 1, []), (.iconst 1, 1, []), (.iadd, 1, []), (.iload_n 2, 1, []), (.iconst 1, 1, []), (.iload 5, 2, []), (.ishl, 1, []), (.ior, 1, []), (.iload 6, 2, []), (.aload_n 0, 1, []), (.getfield 143, 3, [9, 59, 2, 38, 0, 1225]), (.iload 5, 2, []), (.iaload, 1, []), (.iadd, 1, []), (.iload 4, 2, []), (.iload 6, 2, []), (.iadd, 1, []), (.aload_n 0, 1, []), (.getfield 146, 3, [9, 60, 2, 39, 0, 1226]), (.iload 5, 2, []), (.iaload, 1, []), (.isub, 1, []), (.invokevirtual 414, 3, [174, 5, 2, 9, 0, 1648])]),
  (144, [true, true, true, true, true, true, false], [(.iinc 5 1, 3, []), (.goto (-82), 3, [])]),
  (150, [false, false, false, false, false, false, false], [(.return_, 1, [])])]
/-- SlipRoomModel.waiting -/
noncomputable def z_b175 : z_B := [
  (0, [true], [(.aload_n 0, 1, []), (.iconst 0, 1, []), (.putfield 170, 3, [9, 1, 0, 0, 0, 1167]), (.aload_n 0, 1, []), (.iconst (-1), 1, []), (.putfield 411, 3, [9, 64, 0, 0, 0, 1230]), (.aload_n 0, 1, []), (.aload_n 0, 1, []), (.getfield 331, 3, [9, 57, 0, 0, 0, 1223]), (.putfield 155, 3, [9, 63, 0, 0, 0, 1229]), (.aload_n 0, 1, []), (.iconst 0, 1, []), (.iconst 0, 1, []), (.iconst 0, 1, []), (.iconst 0, 1, []), (.invokevirtual 414, 3, [174, 5, 2, 9, 0, 1648]), (.aload_n 0, 1, []), (.getfield 411, 3, [9, 64, 0, 0, 0, 1230]), (.ireturn, 1, [])])]
/-- SlipRoomModel.turn -/
noncomputable def z_b176 : z_B := [
  (0, [true, true], [(.aload_n 0, 1, []), (.iconst 0, 1, []), (.putfield 170, 3, [9, 1, 0, 0, 0, 1167]), (.iload_n 1, 1, []), (.iconst 0, 1, []), (.aload_n 0, 1, []), (.getfield 155, 3, [9, 63, 0, 0, 0, 1229]), (.iconst 1, 1, []), (.isub, 1, []), (.invokestatic 176, 3, [112, 3, 0, 0, 1, 1502]), (.ifCond .eq 12, 3, []), (.aload_n 0, 1, []), (.getfield 149, 3, [9, 61, 2, 40, 0, 1227]), (.iload_n 1, 1, []), (.iaload, 1, []), (.goto 8, 3, [])]),
  (28, [true, false], [(.aload_n 0, 1, []), (.iconst 1, 1, []), (.invokevirtual 308, 3, [111, 2, 2, 9, 1, 1392])]),
  (33, [false, false], [(.ireturn, 1, [])])]
/-- SlipRoomModel.tale -/
noncomputable def z_b177 : z_B := [
  (0, [true, true, true, true], [(.aload_n 0, 1, []), (.iconst 0, 1, []), (.putfield 170, 3, [9, 1, 0, 0, 0, 1167]), (.aload_n 0, 1, []), (.iload_n 2, 1, []), (.invokevirtual 344, 3, [113, 2, 2, 9, 1, 1509]), (.ifCond .ne 10, 3, []), (.aload_n 0, 1, []), (.iconst 1, 1, []), (.putfield 170, 3, [9, 1, 0, 0, 0, 1167]), (.iconst 0, 1, []), (.ireturn, 1, [])]),
  (20, [true, true, true, true], [(.iload_n 1, 1, []), (.iconst 0, 1, []), (.iconst 5, 1, []), (.invokestatic 176, 3, [112, 3, 0, 0, 1, 1502]), (.ifCond .eq 14, 3, []), (.iload_n 3, 1, []), (.iconst 0, 1, []), (.sipush 401, 3, []), (.invokestatic 176, 3, [112, 3, 0, 0, 1, 1502]), (.ifCond .ne 5, 3, [])]),
  (40, [false, false, false, false], [(.iconst 0, 1, []), (.ireturn, 1, [])]),
  (42, [true, true, true, true], [(.aload_n 0, 1, []), (.getfield 158, 3, [9, 65, 2, 42, 0, 1231]), (.bipush 10, 2, []), (.iload_n 1, 1, []), (.imul, 1, []), (.iload_n 2, 1, []), (.iadd, 1, []), (.iload_n 3, 1, []), (.iastore, 1, []), (.iconst 1, 1, []), (.ireturn, 1, [])])]
/-- SlipRoomModel.bitsOf -/
noncomputable def z_b178 : z_B := [
  (0, [true, false, false], [(.iconst 0, 1, []), (.istore_n 1, 1, []), (.iload_n 0, 1, []), (.istore_n 2, 1, [])]),
  (4, [false, true, true], [(.iload_n 2, 1, []), (.ifCond .eq 15, 3, []), (.iinc 1 1, 3, []), (.iload_n 2, 1, []), (.iload_n 2, 1, []), (.iconst 1, 1, []), (.isub, 1, []), (.iand, 1, []), (.istore_n 2, 1, []), (.goto (-13), 3, [])]),
  (20, [false, true, false], [(.iload_n 1, 1, []), (.ireturn, 1, [])])]
/-- SlipRoomModel.settlesBy -/
noncomputable def z_b179 : z_B := [
  (0, [true, true, true, false, false, false, false], [(.iconst 0, 1, []), (.istore_n 3, 1, []), (.iconst 0, 1, []), (.istore 4, 2, [])]),
  (5, [true, true, true, true, true, false, false], [(.iload 4, 2, []), (.bipush 6, 2, []), (.if_icmp .ge 121, 3, []), (.iload_n 1, 1, []), (.iload 4, 2, []), (.ishr, 1, []), (.iconst 1, 1, []), (.iand, 1, []), (.ifCond .ne 6, 3, []), (.goto 103, 3, [])]),
  (24, [true, true, true, true, true, false, false], [(.iconst 0, 1, []), (.istore 5, 2, []), (.iconst 0, 1, []), (.istore 6, 2, [])]),
  (30, [true, true, true, true, true, true, true], [(.iload 6, 2, []), (.bipush 6, 2, []), (.if_icmp .ge 59, 3, []), (.iload 5, 2, []), (.iload_n 1, 1, []), (.iload 6, 2, []), (.ishr, 1, []), (.iconst 1, 1, []), (.iand, 1, []), (.iconst 1, 1, []), (.if_icmp .ne 37, 3, []), (.aload_n 0, 1, []), (.getfield 158, 3, [9, 65, 2, 42, 0, 1231]), (.bipush 10, 2, []), (.iload 6, 2, []), (.imul, 1, []), (.iload_n 2, 1, []), (.iadd, 1, []), (.iaload, 1, []), (.aload_n 0, 1, []), (.getfield 158, 3, [9, 65, 2, 42, 0, 1231]), (.bipush 10, 2, []), (.iload 4, 2, []), (.imul, 1, []), (.iload_n 2, 1, []), (.iadd, 1, []), (.iaload, 1, []), (.if_icmp .ne 10, 3, []), (.iconst 1, 1, []), (.iload 6, 2, []), (.ishl, 1, []), (.goto 4, 3, [])]),
  (83, [true, true, true, true, true, false, true], [(.iconst 0, 1, [])]),
  (84, [true, true, true, true, true, false, true], [(.ior, 1, []), (.istore 5, 2, []), (.iinc 6 1, 3, []), (.goto (-60), 3, [])]),
  (93, [true, true, true, true, true, true, false], [(.iload 5, 2, []), (.iload_n 1, 1, []), (.if_icmp .eq 14, 3, []), (.aload_n 0, 1, []), (.getfield 161, 3, [9, 66, 2, 43, 0, 1232]), (.iload 5, 2, []), (.iaload, 1, []), (.iconst (-1), 1, []), (.if_icmp .ne 5, 3, [])]),
  (110, [false, false, false, false, false, false, false], [(.iconst (-1), 1, []), (.ireturn, 1, [])]),
  (112, [true, true, true, true, true, true, false], [(.iload_n 3, 1, []), (.aload_n 0, 1, []), (.getfield 161, 3, [9, 66, 2, 43, 0, 1232]), (.iload 5, 2, []), (.iaload, 1, []), (.invokestatic 363, 3, [187, 2, 0, 0, 1, 1552]), (.istore_n 3, 1, [])]),
  (124, [true, true, true, true, true, false, false], [(.iinc 4 1, 3, []), (.goto (-122), 3, [])]),
  (130, [false, false, false, true, false, false, false], [(.iload_n 3, 1, []), (.iconst 1, 1, []), (.iadd, 1, []), (.ireturn, 1, [])])]
/-- SlipRoomModel.settle -/
noncomputable def z_b180 : z_B := [
  (0, [true, true, true, false, false, false, false], [(.aload_n 0, 1, []), (.iconst 0, 1, []), (.putfield 170, 3, [9, 1, 0, 0, 0, 1167]), (.iload_n 2, 1, []), (.ifCond .lt 8, 3, []), (.iload_n 2, 1, []), (.iconst 1, 1, []), (.if_icmp .le 9, 3, [])]),
  (14, [true, false, false, false, false, false, false], [(.aload_n 0, 1, []), (.iconst 1, 1, []), (.invokevirtual 308, 3, [111, 2, 2, 9, 1, 1392]), (.ireturn, 1, [])]),
  (20, [true, true, true, false, false, false, false], [(.iload_n 1, 1, []), (.iconst 0, 1, []), (.bipush 63, 2, []), (.invokestatic 176, 3, [112, 3, 0, 0, 1, 1502]), (.ifCond .ne 9, 3, []), (.aload_n 0, 1, []), (.iconst 2, 1, []), (.invokevirtual 308, 3, [111, 2, 2, 9, 1, 1392]), (.ireturn, 1, [])]),
  (36, [true, true, true, false, false, false, false], [(.iconst (-1), 1, []), (.istore_n 3, 1, []), (.iconst 0, 1, []), (.istore 4, 2, [])]),
  (41, [true, true, true, true, true, false, false], [(.iload 4, 2, []), (.iload_n 1, 1, []), (.if_icmp .gt 113, 3, []), (.aload_n 0, 1, []), (.getfield 161, 3, [9, 66, 2, 43, 0, 1232]), (.iload 4, 2, []), (.iload 4, 2, []), (.invokestatic 417, 3, [178, 1, 0, 0, 1, 1664]), (.iconst 2, 1, []), (.if_icmp .ge 7, 3, []), (.iconst 0, 1, []), (.goto 4, 3, [])]),
  (66, [true, true, true, false, true, false, false], [(.iconst (-1), 1, [])]),
  (67, [true, true, true, false, true, false, false], [(.iastore, 1, []), (.iconst (-1), 1, []), (.istore_n 3, 1, []), (.iconst 0, 1, []), (.istore 5, 2, [])]),
  (73, [true, true, true, true, true, true, false], [(.iload 5, 2, []), (.aload_n 0, 1, []), (.getfield 173, 3, [9, 2, 0, 0, 0, 1168]), (.if_icmp .ge 72, 3, []), (.iload 4, 2, []), (.invokestatic 417, 3, [178, 1, 0, 0, 1, 1664]), (.iconst 1, 1, []), (.if_icmp .le 63, 3, []), (.aload_n 0, 1, []), (.iload 4, 2, []), (.iload 5, 2, []), (.invokevirtual 420, 3, [179, 3, 2, 9, 1, 1667]), (.istore 6, 2, []), (.iload 6, 2, []), (.iconst (-1), 1, []), (.if_icmp .eq 41, 3, []), (.aload_n 0, 1, []), (.getfield 161, 3, [9, 66, 2, 43, 0, 1232]), (.iload 4, 2, []), (.iaload, 1, []), (.iconst (-1), 1, []), (.if_icmp .eq 18, 3, []), (.iload 6, 2, []), (.aload_n 0, 1, []), (.getfield 161, 3, [9, 66, 2, 43, 0, 1232]), (.iload 4, 2, []), (.iaload, 1, []), (.if_icmp .lt 6, 3, []), (.goto 15, 3, [])]),
  (133, [true, true, true, false, true, true, true], [(.aload_n 0, 1, []), (.getfield 161, 3, [9, 66, 2, 43, 0, 1232]), (.iload 4, 2, []), (.iload 6, 2, []), (.iastore, 1, []), (.iload 5, 2, []), (.istore_n 3, 1, [])]),
  (145, [true, true, true, true, true, true, false], [(.iinc 5 1, 3, []), (.goto (-75), 3, [])]),
  (151, [true, true, true, true, true, false, false], [(.iinc 4 1, 3, []), (.goto (-113), 3, [])]),
  (157, [true, true, true, true, false, false, false], [(.iload_n 2, 1, []), (.ifCond .ne 12, 3, []), (.aload_n 0, 1, []), (.getfield 161, 3, [9, 66, 2, 43, 0, 1232]), (.iload_n 1, 1, []), (.iaload, 1, []), (.goto 4, 3, [])]),
  (170, [false, false, false, true, false, false, false], [(.iload_n 3, 1, [])]),
  (171, [false, false, false, false, false, false, false], [(.ireturn, 1, [])])]
/-- SlipRoomModel.keep -/
noncomputable def z_b181 : z_B := [
  (0, [true, true, false], [(.iconst 0, 1, []), (.istore_n 2, 1, [])]),
  (2, [true, true, true], [(.iload_n 2, 1, []), (.aload_n 1, 1, []), (.arraylength, 1, []), (.if_icmp .ge 23, 3, []), (.aload_n 0, 1, []), (.getfield 164, 3, [9, 68, 2, 44, 0, 1234]), (.aload_n 0, 1, []), (.getfield 423, 3, [9, 70, 0, 0, 0, 1236]), (.iload_n 2, 1, []), (.iadd, 1, []), (.aload_n 1, 1, []), (.iload_n 2, 1, []), (.iaload, 1, []), (.iastore, 1, []), (.iinc 2 1, 3, []), (.goto (-23), 3, [])]),
  (28, [true, true, false], [(.aload_n 0, 1, []), (.dup, 1, []), (.getfield 423, 3, [9, 70, 0, 0, 0, 1236]), (.aload_n 1, 1, []), (.arraylength, 1, []), (.iadd, 1, []), (.putfield 423, 3, [9, 70, 0, 0, 0, 1236]), (.return_, 1, [])])]
/-- SlipRoomModel.giveBack -/
noncomputable def z_b182 : z_B := [
  (0, [true, true, false], [(.iconst 0, 1, []), (.istore_n 2, 1, [])]),
  (2, [true, true, true], [(.iload_n 2, 1, []), (.aload_n 1, 1, []), (.arraylength, 1, []), (.if_icmp .ge 23, 3, []), (.aload_n 1, 1, []), (.iload_n 2, 1, []), (.aload_n 0, 1, []), (.getfield 164, 3, [9, 68, 2, 44, 0, 1234]), (.aload_n 0, 1, []), (.getfield 423, 3, [9, 70, 0, 0, 0, 1236]), (.iload_n 2, 1, []), (.iadd, 1, []), (.iaload, 1, []), (.iastore, 1, []), (.iinc 2 1, 3, []), (.goto (-23), 3, [])]),
  (28, [true, true, false], [(.aload_n 0, 1, []), (.dup, 1, []), (.getfield 423, 3, [9, 70, 0, 0, 0, 1236]), (.aload_n 1, 1, []), (.arraylength, 1, []), (.iadd, 1, []), (.putfield 423, 3, [9, 70, 0, 0, 0, 1236]), (.return_, 1, [])])]
/-- SlipRoomModel.image -/
noncomputable def z_b183 : z_B := [
  (0, [true, false], [(.aload_n 0, 1, []), (.iconst 0, 1, []), (.putfield 170, 3, [9, 1, 0, 0, 0, 1167]), (.aload_n 0, 1, []), (.iconst 1, 1, []), (.putfield 334, 3, [9, 67, 0, 1, 0, 1233]), (.aload_n 0, 1, []), (.getfield 164, 3, [9, 68, 2, 44, 0, 1234]), (.iconst 0, 1, []), (.aload_n 0, 1, []), (.getfield 322, 3, [9, 28, 0, 0, 0, 1194]), (.iastore, 1, []), (.aload_n 0, 1, []), (.getfield 164, 3, [9, 68, 2, 44, 0, 1234]), (.iconst 1, 1, []), (.aload_n 0, 1, []), (.getfield 325, 3, [9, 29, 0, 0, 0, 1195]), (.iastore, 1, []), (.aload_n 0, 1, []), (.getfield 164, 3, [9, 68, 2, 44, 0, 1234]), (.iconst 2, 1, []), (.aload_n 0, 1, []), (.getfield 328, 3, [9, 44, 0, 0, 0, 1210]), (.iastore, 1, []), (.aload_n 0, 1, []), (.getfield 164, 3, [9, 68, 2, 44, 0, 1234]), (.iconst 3, 1, []), (.aload_n 0, 1, []), (.getfield 331, 3, [9, 57, 0, 0, 0, 1223]), (.iastore, 1, []), (.aload_n 0, 1, []), (.iconst 4, 1, []), (.putfield 423, 3, [9, 70, 0, 0, 0, 1236]), (.aload_n 0, 1, []), (.aload_n 0, 1, []), (.getfield 77, 3, [9, 33, 2, 16, 0, 1199]), (.invokevirtual 426, 3, [181, 2, 2, 9, 0, 1675]), (.aload_n 0, 1, []), (.aload_n 0, 1, []), (.getfield 80, 3, [9, 34, 2, 17, 0, 1200]), (.invokevirtual 426, 3, [181, 2, 2, 9, 0, 1675]), (.aload_n 0, 1, []), (.aload_n 0, 1, []), (.getfield 68, 3, [9, 30, 2, 13, 0, 1196]), (.invokevirtual 426, 3, [181, 2, 2, 9, 0, 1675]), (.aload_n 0, 1, []), (.aload_n 0, 1, []), (.getfield 71, 3, [9, 31, 2, 14, 0, 1197]), (.invokevirtual 426, 3, [181, 2, 2, 9, 0, 1675]), (.aload_n 0, 1, []), (.aload_n 0, 1, []), (.getfield 74, 3, [9, 32, 2, 15, 0, 1198]), (.invokevirtual 426, 3, [181, 2, 2, 9, 0, 1675]), (.aload_n 0, 1, []), (.aload_n 0, 1, []), (.getfield 86, 3, [9, 36, 2, 19, 0, 1202]), (.invokevirtual 426, 3, [181, 2, 2, 9, 0, 1675]), (.aload_n 0, 1, []), (.aload_n 0, 1, []), (.getfield 89, 3, [9, 37, 2, 20, 0, 1203]), (.invokevirtual 426, 3, [181, 2, 2, 9, 0, 1675]), (.aload_n 0, 1, []), (.aload_n 0, 1, []), (.getfield 92, 3, [9, 38, 2, 21, 0, 1204]), (.invokevirtual 426, 3, [181, 2, 2, 9, 0, 1675]), (.aload_n 0, 1, []), (.aload_n 0, 1, []), (.getfield 95, 3, [9, 39, 2, 22, 0, 1205]), (.invokevirtual 426, 3, [181, 2, 2, 9, 0, 1675]), (.aload_n 0, 1, []), (.aload_n 0, 1, []), (.getfield 98, 3, [9, 40, 2, 23, 0, 1206]), (.invokevirtual 426, 3, [181, 2, 2, 9, 0, 1675]), (.aload_n 0, 1, []), (.aload_n 0, 1, []), (.getfield 101, 3, [9, 41, 2, 24, 0, 1207]), (.invokevirtual 426, 3, [181, 2, 2, 9, 0, 1675]), (.aload_n 0, 1, []), (.aload_n 0, 1, []), (.getfield 110, 3, [9, 45, 2, 27, 0, 1211]), (.invokevirtual 426, 3, [181, 2, 2, 9, 0, 1675]), (.aload_n 0, 1, []), (.aload_n 0, 1, []), (.getfield 113, 3, [9, 46, 2, 28, 0, 1212]), (.invokevirtual 426, 3, [181, 2, 2, 9, 0, 1675]), (.aload_n 0, 1, []), (.aload_n 0, 1, []), (.getfield 116, 3, [9, 47, 2, 29, 0, 1213]), (.invokevirtual 426, 3, [181, 2, 2, 9, 0, 1675]), (.aload_n 0, 1, []), (.aload_n 0, 1, []), (.getfield 119, 3, [9, 48, 2, 30, 0, 1214]), (.invokevirtual 426, 3, [181, 2, 2, 9, 0, 1675]), (.aload_n 0, 1, []), (.aload_n 0, 1, []), (.getfield 140, 3, [9, 58, 2, 37, 0, 1224]), (.invokevirtual 426, 3, [181, 2, 2, 9, 0, 1675]), (.aload_n 0, 1, []), (.aload_n 0, 1, []), (.getfield 143, 3, [9, 59, 2, 38, 0, 1225]), (.invokevirtual 426, 3, [181, 2, 2, 9, 0, 1675]), (.aload_n 0, 1, []), (.aload_n 0, 1, []), (.getfield 146, 3, [9, 60, 2, 39, 0, 1226]), (.invokevirtual 426, 3, [181, 2, 2, 9, 0, 1675]), (.aload_n 0, 1, []), (.aload_n 0, 1, []), (.getfield 158, 3, [9, 65, 2, 42, 0, 1231]), (.invokevirtual 426, 3, [181, 2, 2, 9, 0, 1675]), (.aload_n 0, 1, []), (.aload_n 0, 1, []), (.getfield 54, 3, [9, 14, 2, 10, 0, 1180]), (.invokevirtual 426, 3, [181, 2, 2, 9, 0, 1675]), (.iconst 0, 1, []), (.istore_n 1, 1, [])]),
  (217, [true, true], [(.iload_n 1, 1, []), (.aload_n 0, 1, []), (.getfield 83, 3, [9, 35, 2, 18, 0, 1201]), (.arraylength, 1, []), (.if_icmp .ge 21, 3, []), (.aload_n 0, 1, []), (.getfield 167, 3, [9, 69, 2, 45, 0, 1235]), (.iload_n 1, 1, []), (.aload_n 0, 1, []), (.getfield 83, 3, [9, 35, 2, 18, 0, 1201]), (.iload_n 1, 1, []), (.baload, 1, []), (.bastore, 1, []), (.iinc 1 1, 3, []), (.goto (-24), 3, [])]),
  (244, [false, false], [(.return_, 1, [])])]
/-- SlipRoomModel.restore -/
noncomputable def z_b184 : z_B := [
  (0, [true, false], [(.aload_n 0, 1, []), (.iconst 0, 1, []), (.putfield 170, 3, [9, 1, 0, 0, 0, 1167]), (.aload_n 0, 1, []), (.getfield 334, 3, [9, 67, 0, 1, 0, 1233]), (.ifCond .ne 5, 3, []), (.iconst 0, 1, []), (.ireturn, 1, [])]),
  (14, [true, false], [(.aload_n 0, 1, []), (.aload_n 0, 1, []), (.getfield 164, 3, [9, 68, 2, 44, 0, 1234]), (.iconst 0, 1, []), (.iaload, 1, []), (.putfield 322, 3, [9, 28, 0, 0, 0, 1194]), (.aload_n 0, 1, []), (.aload_n 0, 1, []), (.getfield 164, 3, [9, 68, 2, 44, 0, 1234]), (.iconst 1, 1, []), (.iaload, 1, []), (.putfield 325, 3, [9, 29, 0, 0, 0, 1195]), (.aload_n 0, 1, []), (.aload_n 0, 1, []), (.getfield 164, 3, [9, 68, 2, 44, 0, 1234]), (.iconst 2, 1, []), (.iaload, 1, []), (.putfield 328, 3, [9, 44, 0, 0, 0, 1210]), (.aload_n 0, 1, []), (.aload_n 0, 1, []), (.getfield 164, 3, [9, 68, 2, 44, 0, 1234]), (.iconst 3, 1, []), (.iaload, 1, []), (.putfield 331, 3, [9, 57, 0, 0, 0, 1223]), (.aload_n 0, 1, []), (.iconst 4, 1, []), (.putfield 423, 3, [9, 70, 0, 0, 0, 1236]), (.aload_n 0, 1, []), (.aload_n 0, 1, []), (.getfield 77, 3, [9, 33, 2, 16, 0, 1199]), (.invokevirtual 430, 3, [182, 2, 2, 9, 0, 1683]), (.aload_n 0, 1, []), (.aload_n 0, 1, []), (.getfield 80, 3, [9, 34, 2, 17, 0, 1200]), (.invokevirtual 430, 3, [182, 2, 2, 9, 0, 1683]), (.aload_n 0, 1, []), (.aload_n 0, 1, []), (.getfield 68, 3, [9, 30, 2, 13, 0, 1196]), (.invokevirtual 430, 3, [182, 2, 2, 9, 0, 1683]), (.aload_n 0, 1, []), (.aload_n 0, 1, []), (.getfield 71, 3, [9, 31, 2, 14, 0, 1197]), (.invokevirtual 430, 3, [182, 2, 2, 9, 0, 1683]), (.aload_n 0, 1, []), (.aload_n 0, 1, []), (.getfield 74, 3, [9, 32, 2, 15, 0, 1198]), (.invokevirtual 430, 3, [182, 2, 2, 9, 0, 1683]), (.aload_n 0, 1, []), (.aload_n 0, 1, []), (.getfield 86, 3, [9, 36, 2, 19, 0, 1202]), (.invokevirtual 430, 3, [182, 2, 2, 9, 0, 1683]), (.aload_n 0, 1, []), (.aload_n 0, 1, []), (.getfield 89, 3, [9, 37, 2, 20, 0, 1203]), (.invokevirtual 430, 3, [182, 2, 2, 9, 0, 1683]), (.aload_n 0, 1, []), (.aload_n 0, 1, []), (.getfield 92, 3, [9, 38, 2, 21, 0, 1204]), (.invokevirtual 430, 3, [182, 2, 2, 9, 0, 1683]), (.aload_n 0, 1, []), (.aload_n 0, 1, []), (.getfield 95, 3, [9, 39, 2, 22, 0, 1205]), (.invokevirtual 430, 3, [182, 2, 2, 9, 0, 1683]), (.aload_n 0, 1, []), (.aload_n 0, 1, []), (.getfield 98, 3, [9, 40, 2, 23, 0, 1206]), (.invokevirtual 430, 3, [182, 2, 2, 9, 0, 1683]), (.aload_n 0, 1, []), (.aload_n 0, 1, []), (.getfield 101, 3, [9, 41, 2, 24, 0, 1207]), (.invokevirtual 430, 3, [182, 2, 2, 9, 0, 1683]), (.aload_n 0, 1, []), (.aload_n 0, 1, []), (.getfield 110, 3, [9, 45, 2, 27, 0, 1211]), (.invokevirtual 430, 3, [182, 2, 2, 9, 0, 1683]), (.aload_n 0, 1, []), (.aload_n 0, 1, []), (.getfield 113, 3, [9, 46, 2, 28, 0, 1212]), (.invokevirtual 430, 3, [182, 2, 2, 9, 0, 1683]), (.aload_n 0, 1, []), (.aload_n 0, 1, []), (.getfield 116, 3, [9, 47, 2, 29, 0, 1213]), (.invokevirtual 430, 3, [182, 2, 2, 9, 0, 1683]), (.aload_n 0, 1, []), (.aload_n 0, 1, []), (.getfield 119, 3, [9, 48, 2, 30, 0, 1214]), (.invokevirtual 430, 3, [182, 2, 2, 9, 0, 1683]), (.aload_n 0, 1, []), (.aload_n 0, 1, []), (.getfield 140, 3, [9, 58, 2, 37, 0, 1224]), (.invokevirtual 430, 3, [182, 2, 2, 9, 0, 1683]), (.aload_n 0, 1, []), (.aload_n 0, 1, []), (.getfield 143, 3, [9, 59, 2, 38, 0, 1225]), (.invokevirtual 430, 3, [182, 2, 2, 9, 0, 1683]), (.aload_n 0, 1, []), (.aload_n 0, 1, []), (.getfield 146, 3, [9, 60, 2, 39, 0, 1226]), (.invokevirtual 430, 3, [182, 2, 2, 9, 0, 1683]), (.aload_n 0, 1, []), (.aload_n 0, 1, []), (.getfield 158, 3, [9, 65, 2, 42, 0, 1231]), (.invokevirtual 430, 3, [182, 2, 2, 9, 0, 1683]), (.aload_n 0, 1, []), (.aload_n 0, 1, []), (.getfield 54, 3, [9, 14, 2, 10, 0, 1180]), (.invokevirtual 430, 3, [182, 2, 2, 9, 0, 1683]), (.iconst 0, 1, []), (.istore_n 1, 1, [])]),
  (221, [true, true], [(.iload_n 1, 1, []), (.aload_n 0, 1, []), (.getfield 83, 3, [9, 35, 2, 18, 0, 1201]), (.arraylength, 1, []), (.if_icmp .ge 21, 3, []), (.aload_n 0, 1, []), (.getfield 83, 3, [9, 35, 2, 18, 0, 1201]), (.iload_n 1, 1, []), (.aload_n 0, 1, []), (.getfield 167, 3, [9, 69, 2, 45, 0, 1235]), (.iload_n 1, 1, []), (.baload, 1, []), (.bastore, 1, []), (.iinc 1 1, 3, []), (.goto (-24), 3, [])]),
  (248, [false, false], [(.iconst 1, 1, []), (.ireturn, 1, [])])]
/-- java/lang/Integer.bitCount -/
noncomputable def z_b185 : z_B := [
  (0, [true], [(.iload_n 0, 1, []), (.iload_n 0, 1, []), (.iconst 1, 1, []), (.iushr, 1, []), (.ldc_w 265, 3, [0, 1431655765, 1140]), (.iand, 1, []), (.isub, 1, []), (.istore_n 0, 1, []), (.iload_n 0, 1, []), (.ldc_w 266, 3, [0, 858993459, 1141]), (.iand, 1, []), (.iload_n 0, 1, []), (.iconst 2, 1, []), (.iushr, 1, []), (.ldc_w 266, 3, [0, 858993459, 1141]), (.iand, 1, []), (.iadd, 1, []), (.istore_n 0, 1, []), (.iload_n 0, 1, []), (.iload_n 0, 1, []), (.iconst 4, 1, []), (.iushr, 1, []), (.iadd, 1, []), (.ldc_w 267, 3, [0, 252645135, 1142]), (.iand, 1, []), (.istore_n 0, 1, []), (.iload_n 0, 1, []), (.iload_n 0, 1, []), (.bipush 8, 2, []), (.iushr, 1, []), (.iadd, 1, []), (.istore_n 0, 1, []), (.iload_n 0, 1, []), (.iload_n 0, 1, []), (.bipush 16, 2, []), (.iushr, 1, []), (.iadd, 1, []), (.istore_n 0, 1, []), (.iload_n 0, 1, []), (.bipush 63, 2, []), (.iand, 1, []), (.ireturn, 1, [])])]
/-- java/lang/Long.bitCount -/
noncomputable def z_b186 : z_B := [
  (0, [true, false], [(.lload_n 0, 1, []), (.lload_n 0, 1, []), (.iconst 1, 1, []), (.lushr, 1, []), (.ldc2_w 314, 3, [6148914691236517205, 812]), (.land, 1, []), (.lsub, 1, []), (.lstore_n 0, 1, []), (.lload_n 0, 1, []), (.ldc2_w 316, 3, [3689348814741910323, 813]), (.land, 1, []), (.lload_n 0, 1, []), (.iconst 2, 1, []), (.lushr, 1, []), (.ldc2_w 316, 3, [3689348814741910323, 813]), (.land, 1, []), (.ladd, 1, []), (.lstore_n 0, 1, []), (.lload_n 0, 1, []), (.lload_n 0, 1, []), (.iconst 4, 1, []), (.lushr, 1, []), (.ladd, 1, []), (.ldc2_w 318, 3, [1085102592571150095, 814]), (.land, 1, []), (.lstore_n 0, 1, []), (.lload_n 0, 1, []), (.lload_n 0, 1, []), (.bipush 8, 2, []), (.lushr, 1, []), (.ladd, 1, []), (.lstore_n 0, 1, []), (.lload_n 0, 1, []), (.lload_n 0, 1, []), (.bipush 16, 2, []), (.lushr, 1, []), (.ladd, 1, []), (.lstore_n 0, 1, []), (.lload_n 0, 1, []), (.lload_n 0, 1, []), (.bipush 32, 2, []), (.lushr, 1, []), (.ladd, 1, []), (.lstore_n 0, 1, []), (.lload_n 0, 1, []), (.l2i, 1, []), (.bipush 127, 2, []), (.iand, 1, []), (.ireturn, 1, [])])]
/-- java/lang/Math.max -/
noncomputable def z_b187 : z_B := [
  (0, [true, true], [(.iload_n 0, 1, []), (.iload_n 1, 1, []), (.if_icmp .lt 7, 3, []), (.iload_n 0, 1, []), (.goto 4, 3, [])]),
  (9, [false, true], [(.iload_n 1, 1, [])]),
  (10, [false, false], [(.ireturn, 1, [])])]
/-- java/lang/Math.min -/
noncomputable def z_b188 : z_B := [
  (0, [true, true], [(.iload_n 0, 1, []), (.iload_n 1, 1, []), (.if_icmp .gt 7, 3, []), (.iload_n 0, 1, []), (.goto 4, 3, [])]),
  (9, [false, true], [(.iload_n 1, 1, [])]),
  (10, [false, false], [(.ireturn, 1, [])])]
/-- java/util/Arrays.fill -/
noncomputable def z_b189 : z_B := [
  (0, [true, true, false, false, false], [(.iconst 0, 1, []), (.istore_n 3, 1, []), (.aload_n 0, 1, []), (.arraylength, 1, []), (.istore 4, 2, [])]),
  (6, [true, true, false, true, true], [(.iload_n 3, 1, []), (.iload 4, 2, []), (.if_icmp .ge 13, 3, []), (.aload_n 0, 1, []), (.iload_n 3, 1, []), (.lload_n 1, 1, []), (.lastore, 1, []), (.iinc 3 1, 3, []), (.goto (-13), 3, [])]),
  (22, [false, false, false, false, false], [(.return_, 1, [])])]
/-- java/util/Arrays.fill -/
noncomputable def z_b190 : z_B := [
  (0, [true, true, false, false], [(.iconst 0, 1, []), (.istore_n 2, 1, []), (.aload_n 0, 1, []), (.arraylength, 1, []), (.istore_n 3, 1, [])]),
  (5, [true, true, true, true], [(.iload_n 2, 1, []), (.iload_n 3, 1, []), (.if_icmp .ge 13, 3, []), (.aload_n 0, 1, []), (.iload_n 2, 1, []), (.iload_n 1, 1, []), (.iastore, 1, []), (.iinc 2 1, 3, []), (.goto (-12), 3, [])]),
  (20, [false, false, false, false], [(.return_, 1, [])])]
/-- SlipRoomLaw.room -/
noncomputable def z_b191 : z_B := [
  (0, [true, true, true, false], [(.aload_n 2, 1, []), (.iconst 0, 1, []), (.aload_n 0, 1, []), (.iload_n 1, 1, []), (.invokevirtual 7, 3, [75, 2, 2, 8, 1, 499]), (.i2l, 1, []), (.lastore, 1, []), (.goto 6, 3, [])]),
  (15, [false, false, false, false], [(.iconst 0, 1, []), (.ireturn, 1, [])])]
/-- SlipRoomLaw.count -/
noncomputable def z_b192 : z_B := [
  (0, [true, true, true, false], [(.aload_n 2, 1, []), (.iconst 0, 1, []), (.aload_n 0, 1, []), (.iload_n 1, 1, []), (.invokevirtual 15, 3, [77, 2, 2, 8, 1, 766]), (.i2l, 1, []), (.lastore, 1, []), (.goto 6, 3, [])]),
  (15, [false, false, false, false], [(.iconst 0, 1, []), (.ireturn, 1, [])])]
/-- SlipRoomLaw.book -/
noncomputable def z_b193 : z_B := [
  (0, [true, true, true, true, false], [(.aload_n 3, 1, []), (.iconst 0, 1, []), (.aload_n 0, 1, []), (.iload_n 1, 1, []), (.iload_n 2, 1, []), (.invokevirtual 20, 3, [78, 3, 2, 8, 1, 793]), (.i2l, 1, []), (.lastore, 1, []), (.goto 7, 3, [])]),
  (17, [false, false, false, false, false], [(.iconst 0, 1, []), (.ireturn, 1, [])])]
/-- SlipRoomLaw.reader -/
noncomputable def z_b194 : z_B := [
  (0, [true, true, true, true, false], [(.aload_n 3, 1, []), (.iconst 0, 1, []), (.aload_n 0, 1, []), (.iload_n 1, 1, []), (.iload_n 2, 1, []), (.invokevirtual 24, 3, [79, 3, 2, 8, 1, 823]), (.i2l, 1, []), (.lastore, 1, []), (.goto 7, 3, [])]),
  (17, [false, false, false, false, false], [(.iconst 0, 1, []), (.ireturn, 1, [])])]
/-- SlipRoomLaw.loan -/
noncomputable def z_b195 : z_B := [
  (0, [true, true, true, true, true, true, false], [(.aload 5, 2, []), (.iconst 0, 1, []), (.aload_n 0, 1, []), (.iload_n 1, 1, []), (.iload_n 2, 1, []), (.iload_n 3, 1, []), (.iload 4, 2, []), (.invokevirtual 27, 3, [80, 5, 2, 8, 1, 836]), (.i2l, 1, []), (.lastore, 1, []), (.goto 7, 3, [])]),
  (21, [false, false, false, false, false, false, false], [(.iconst 0, 1, []), (.ireturn, 1, [])])]
/-- SlipRoomLaw.lent -/
noncomputable def z_b196 : z_B := [
  (0, [true, true, true, true, false], [(.aload_n 3, 1, []), (.iconst 0, 1, []), (.aload_n 0, 1, []), (.iload_n 1, 1, []), (.iload_n 2, 1, []), (.invokevirtual 31, 3, [81, 3, 2, 8, 1, 902]), (.i2l, 1, []), (.lastore, 1, []), (.goto 7, 3, [])]),
  (17, [false, false, false, false, false], [(.iconst 0, 1, []), (.ireturn, 1, [])])]
/-- SlipRoomLaw.drop -/
noncomputable def z_b197 : z_B := [
  (0, [true, true, true, true, true, false], [(.aload 4, 2, []), (.iconst 0, 1, []), (.aload_n 0, 1, []), (.iload_n 1, 1, []), (.iload_n 2, 1, []), (.iload_n 3, 1, []), (.invokevirtual 34, 3, [82, 4, 2, 8, 1, 910]), (.i2l, 1, []), (.lastore, 1, []), (.goto 7, 3, [])]),
  (19, [false, false, false, false, false, false], [(.iconst 0, 1, []), (.ireturn, 1, [])])]
/-- SlipRoomLaw.slip -/
noncomputable def z_b198 : z_B := [
  (0, [true, true, true, true, false], [(.aload_n 3, 1, []), (.iconst 0, 1, []), (.aload_n 0, 1, []), (.iload_n 1, 1, []), (.iload_n 2, 1, []), (.invokevirtual 38, 3, [83, 3, 2, 8, 1, 921]), (.i2l, 1, []), (.lastore, 1, []), (.goto 7, 3, [])]),
  (17, [false, false, false, false, false], [(.iconst 0, 1, []), (.ireturn, 1, [])])]
/-- SlipRoomLaw.read -/
noncomputable def z_b199 : z_B := [
  (0, [true, true, true, true, true, false], [(.aload 4, 2, []), (.iconst 0, 1, []), (.aload_n 0, 1, []), (.iload_n 1, 1, []), (.iload_n 2, 1, []), (.iload_n 3, 1, []), (.invokevirtual 41, 3, [84, 4, 2, 8, 1, 928]), (.i2l, 1, []), (.lastore, 1, []), (.goto 7, 3, [])]),
  (19, [false, false, false, false, false, false], [(.iconst 0, 1, []), (.ireturn, 1, [])])]
/-- SlipRoomLaw.has -/
noncomputable def z_b200 : z_B := [
  (0, [true, true, true, true, true, false], [(.aload 4, 2, []), (.iconst 0, 1, []), (.aload_n 0, 1, []), (.iload_n 1, 1, []), (.iload_n 2, 1, []), (.iload_n 3, 1, []), (.invokevirtual 44, 3, [85, 4, 2, 8, 1, 944]), (.ifCond .eq 7, 3, []), (.lconst 1, 1, []), (.goto 4, 3, [])]),
  (17, [false, false, false, false, false, false], [(.lconst 0, 1, [])]),
  (18, [false, false, false, false, false, false], [(.lastore, 1, []), (.goto 7, 3, [])]),
  (26, [false, false, false, false, false, false], [(.iconst 0, 1, []), (.ireturn, 1, [])])]
/-- SlipRoomLaw.ahead -/
noncomputable def z_b201 : z_B := [
  (0, [true, true, true, true, true, false], [(.aload 4, 2, []), (.iconst 0, 1, []), (.aload_n 0, 1, []), (.iload_n 1, 1, []), (.iload_n 2, 1, []), (.iload_n 3, 1, []), (.invokevirtual 48, 3, [86, 4, 2, 8, 1, 953]), (.i2l, 1, []), (.lastore, 1, []), (.goto 7, 3, [])]),
  (19, [false, false, false, false, false, false], [(.iconst 0, 1, []), (.ireturn, 1, [])])]
/-- SlipRoomLaw.look -/
noncomputable def z_b202 : z_B := [
  (0, [true, true, true, true, true, true, false], [(.aload 5, 2, []), (.iconst 0, 1, []), (.aload_n 0, 1, []), (.iload_n 1, 1, []), (.iload_n 2, 1, []), (.iload_n 3, 1, []), (.iload 4, 2, []), (.invokevirtual 51, 3, [87, 5, 2, 8, 1, 961]), (.i2l, 1, []), (.lastore, 1, []), (.goto 7, 3, [])]),
  (21, [false, false, false, false, false, false, false], [(.iconst 0, 1, []), (.ireturn, 1, [])])]
/-- SlipRoomLaw.ways -/
noncomputable def z_b203 : z_B := [
  (0, [true, true, true, false], [(.aload_n 2, 1, []), (.iconst 0, 1, []), (.aload_n 0, 1, []), (.iload_n 1, 1, []), (.invokevirtual 54, 3, [88, 2, 2, 8, 1, 980]), (.i2l, 1, []), (.lastore, 1, []), (.goto 6, 3, [])]),
  (15, [false, false, false, false], [(.iconst 0, 1, []), (.ireturn, 1, [])])]
/-- SlipRoomLaw.whose -/
noncomputable def z_b204 : z_B := [
  (0, [true, true, true, true, false], [(.aload_n 3, 1, []), (.iconst 0, 1, []), (.aload_n 0, 1, []), (.iload_n 1, 1, []), (.iload_n 2, 1, []), (.invokevirtual 57, 3, [89, 3, 2, 8, 1, 1045]), (.i2l, 1, []), (.lastore, 1, []), (.goto 7, 3, [])]),
  (17, [false, false, false, false, false], [(.iconst 0, 1, []), (.ireturn, 1, [])])]
/-- SlipRoomLaw.ends -/
noncomputable def z_b205 : z_B := [
  (0, [true, true, true, true, true, false], [(.aload 4, 2, []), (.iconst 0, 1, []), (.aload_n 0, 1, []), (.iload_n 1, 1, []), (.iload_n 2, 1, []), (.iload_n 3, 1, []), (.invokevirtual 60, 3, [90, 4, 2, 8, 1, 1073]), (.i2l, 1, []), (.lastore, 1, []), (.goto 7, 3, [])]),
  (19, [false, false, false, false, false, false], [(.iconst 0, 1, []), (.ireturn, 1, [])])]
/-- SlipRoomLaw.moved -/
noncomputable def z_b206 : z_B := [
  (0, [true, true, true, false], [(.aload_n 2, 1, []), (.iconst 0, 1, []), (.aload_n 0, 1, []), (.iload_n 1, 1, []), (.invokevirtual 63, 3, [91, 2, 2, 8, 1, 1085]), (.i2l, 1, []), (.lastore, 1, []), (.goto 6, 3, [])]),
  (15, [false, false, false, false], [(.iconst 0, 1, []), (.ireturn, 1, [])])]
/-- SlipRoomLaw.wish -/
noncomputable def z_b207 : z_B := [
  (0, [true, true, true, true, true, false], [(.aload 4, 2, []), (.iconst 0, 1, []), (.aload_n 0, 1, []), (.iload_n 1, 1, []), (.iload_n 2, 1, []), (.iload_n 3, 1, []), (.invokevirtual 66, 3, [92, 4, 2, 8, 1, 1097]), (.i2l, 1, []), (.lastore, 1, []), (.goto 7, 3, [])]),
  (19, [false, false, false, false, false, false], [(.iconst 0, 1, []), (.ireturn, 1, [])])]
/-- SlipRoomLaw.turn -/
noncomputable def z_b208 : z_B := [
  (0, [true, true, true, false], [(.aload_n 2, 1, []), (.iconst 0, 1, []), (.aload_n 0, 1, []), (.iload_n 1, 1, []), (.invokevirtual 69, 3, [94, 2, 2, 8, 1, 1108]), (.i2l, 1, []), (.lastore, 1, []), (.goto 6, 3, [])]),
  (15, [false, false, false, false], [(.iconst 0, 1, []), (.ireturn, 1, [])])]
/-- SlipRoomLaw.tale -/
noncomputable def z_b209 : z_B := [
  (0, [true, true, true, true, true, false], [(.aload 4, 2, []), (.iconst 0, 1, []), (.aload_n 0, 1, []), (.iload_n 1, 1, []), (.iload_n 2, 1, []), (.iload_n 3, 1, []), (.invokevirtual 72, 3, [95, 4, 2, 8, 1, 1116]), (.ifCond .eq 7, 3, []), (.lconst 1, 1, []), (.goto 4, 3, [])]),
  (17, [false, false, false, false, false, false], [(.lconst 0, 1, [])]),
  (18, [false, false, false, false, false, false], [(.lastore, 1, []), (.goto 7, 3, [])]),
  (26, [false, false, false, false, false, false], [(.iconst 0, 1, []), (.ireturn, 1, [])])]
/-- SlipRoomLaw.settle -/
noncomputable def z_b210 : z_B := [
  (0, [true, true, true, true, false], [(.aload_n 3, 1, []), (.iconst 0, 1, []), (.aload_n 0, 1, []), (.iload_n 1, 1, []), (.iload_n 2, 1, []), (.invokevirtual 75, 3, [96, 3, 2, 8, 1, 1123]), (.i2l, 1, []), (.lastore, 1, []), (.goto 11, 3, [])]),
  (21, [false, false, false, false, false], [(.iconst 0, 1, []), (.ireturn, 1, [])])]
/-- SlipRoomLaw.law -/
noncomputable def z_b211 : z_B := [
  (23, [true, true, true, true, true, false, false], [(.iload 4, 2, []), (.aload_n 0, 1, []), (.arraylength, 1, []), (.bipush 6, 2, []), (.isub, 1, []), (.if_icmp .gt 1701, 3, []), (.aload_n 0, 1, []), (.iload 4, 2, []), (.iaload, 1, []), (.bipush 31, 2, []), (.iand, 1, []), (.tableswitch 1685 0 24 #[116, 189, 245, 258, 314, 382, 450, 542, 610, 690, 758, 838, 925, 1005, 1097, 1153, 1221, 1301, 1357, 1437, 1450, 1506, 1593, 1661, 1672], 116, [])]),
  (156, [true, true, true, true, true, false, false], [(.aload_n 1, 1, []), (.aload_n 0, 1, []), (.iload 4, 2, []), (.iconst 1, 1, []), (.iadd, 1, []), (.iaload, 1, []), (.aload_n 0, 1, []), (.iload 4, 2, []), (.iconst 2, 1, []), (.iadd, 1, []), (.iaload, 1, []), (.aload_n 0, 1, []), (.iload 4, 2, []), (.iconst 3, 1, []), (.iadd, 1, []), (.iaload, 1, []), (.aload_n 0, 1, []), (.iload 4, 2, []), (.iconst 4, 1, []), (.iadd, 1, []), (.iaload, 1, []), (.aload_n 0, 1, []), (.iload 4, 2, []), (.iconst 5, 1, []), (.iadd, 1, []), (.iaload, 1, []), (.invokevirtual 82, 3, [74, 6, 2, 8, 1, 451]), (.aload_n 2, 1, []), (.aload_n 0, 1, []), (.iload 4, 2, []), (.iconst 1, 1, []), (.iadd, 1, []), (.iaload, 1, []), (.aload_n 0, 1, []), (.iload 4, 2, []), (.iconst 2, 1, []), (.iadd, 1, []), (.iaload, 1, []), (.aload_n 0, 1, []), (.iload 4, 2, []), (.iconst 3, 1, []), (.iadd, 1, []), (.iaload, 1, []), (.aload_n 0, 1, []), (.iload 4, 2, []), (.iconst 4, 1, []), (.iadd, 1, []), (.iaload, 1, []), (.aload_n 0, 1, []), (.iload 4, 2, []), (.iconst 5, 1, []), (.iadd, 1, []), (.iaload, 1, []), (.invokevirtual 86, 3, [115, 6, 2, 9, 1, 1384]), (.if_icmp .eq 1501, 3, []), (.iconst 0, 1, []), (.ireturn, 1, [])]),
  (229, [true, true, true, true, true, false, false], [(.aload_n 1, 1, []), (.aload_n 0, 1, []), (.iload 4, 2, []), (.iconst 1, 1, []), (.iadd, 1, []), (.iaload, 1, []), (.aload_n 3, 1, []), (.invokestatic 87, 3, [191, 3, 4, 0, 1, 495]), (.istore 5, 2, []), (.aload_n 2, 1, []), (.aload_n 0, 1, []), (.iload 4, 2, []), (.iconst 1, 1, []), (.iadd, 1, []), (.iaload, 1, []), (.invokevirtual 92, 3, [137, 2, 2, 9, 1, 1388]), (.istore 6, 2, []), (.aload_n 2, 1, []), (.invokevirtual 93, 3, [110, 1, 2, 9, 1, 1380]), (.iload 5, 2, []), (.if_icmp .eq 5, 3, []), (.iconst 0, 1, []), (.ireturn, 1, [])]),
  (265, [true, true, true, true, true, true, true], [(.iload 5, 2, []), (.ifCond .ne 15, 3, []), (.aload_n 3, 1, []), (.iconst 0, 1, []), (.laload, 1, []), (.iload 6, 2, []), (.i2l, 1, []), (.lcmp, 1, []), (.ifCond .eq 5, 3, []), (.iconst 0, 1, []), (.ireturn, 1, [])]),
  (282, [true, true, true, true, true, false, false], [(.goto 1443, 3, [])]),
  (285, [true, true, true, true, true, false, false], [(.aload_n 1, 1, []), (.invokevirtual 97, 3, [76, 1, 2, 8, 1, 459]), (.aload_n 2, 1, []), (.invokevirtual 100, 3, [139, 1, 2, 9, 1, 1494]), (.if_icmp .eq 1432, 3, []), (.iconst 0, 1, []), (.ireturn, 1, [])]),
  (298, [true, true, true, true, true, false, false], [(.aload_n 1, 1, []), (.aload_n 0, 1, []), (.iload 4, 2, []), (.iconst 1, 1, []), (.iadd, 1, []), (.iaload, 1, []), (.aload_n 3, 1, []), (.invokestatic 101, 3, [192, 3, 4, 0, 1, 762]), (.istore 5, 2, []), (.aload_n 2, 1, []), (.aload_n 0, 1, []), (.iload 4, 2, []), (.iconst 1, 1, []), (.iadd, 1, []), (.iaload, 1, []), (.invokevirtual 103, 3, [140, 2, 2, 9, 1, 1498]), (.istore 6, 2, []), (.aload_n 2, 1, []), (.invokevirtual 93, 3, [110, 1, 2, 9, 1, 1380]), (.iload 5, 2, []), (.if_icmp .eq 5, 3, []), (.iconst 0, 1, []), (.ireturn, 1, [])]),
  (334, [true, true, true, true, true, true, true], [(.iload 5, 2, []), (.ifCond .ne 15, 3, []), (.aload_n 3, 1, []), (.iconst 0, 1, []), (.laload, 1, []), (.iload 6, 2, []), (.i2l, 1, []), (.lcmp, 1, []), (.ifCond .eq 5, 3, []), (.iconst 0, 1, []), (.ireturn, 1, [])]),
  (351, [true, true, true, true, true, false, false], [(.goto 1374, 3, [])]),
  (354, [true, true, true, true, true, false, false], [(.aload_n 1, 1, []), (.aload_n 0, 1, []), (.iload 4, 2, []), (.iconst 1, 1, []), (.iadd, 1, []), (.iaload, 1, []), (.aload_n 0, 1, []), (.iload 4, 2, []), (.iconst 2, 1, []), (.iadd, 1, []), (.iaload, 1, []), (.aload_n 3, 1, []), (.invokestatic 104, 3, [193, 4, 4, 0, 1, 790]), (.istore 5, 2, []), (.aload_n 2, 1, []), (.aload_n 0, 1, []), (.iload 4, 2, []), (.iconst 1, 1, []), (.iadd, 1, []), (.iaload, 1, []), (.aload_n 0, 1, []), (.iload 4, 2, []), (.iconst 2, 1, []), (.iadd, 1, []), (.iaload, 1, []), (.invokevirtual 107, 3, [145, 3, 2, 9, 1, 1505]), (.istore 6, 2, []), (.aload_n 2, 1, []), (.invokevirtual 93, 3, [110, 1, 2, 9, 1, 1380]), (.iload 5, 2, []), (.if_icmp .eq 5, 3, []), (.iconst 0, 1, []), (.ireturn, 1, [])]),
  (402, [true, true, true, true, true, true, true], [(.iload 5, 2, []), (.ifCond .ne 15, 3, []), (.aload_n 3, 1, []), (.iconst 0, 1, []), (.laload, 1, []), (.iload 6, 2, []), (.i2l, 1, []), (.lcmp, 1, []), (.ifCond .eq 5, 3, []), (.iconst 0, 1, []), (.ireturn, 1, [])]),
  (419, [true, true, true, true, true, false, false], [(.goto 1306, 3, [])]),
  (422, [true, true, true, true, true, false, false], [(.aload_n 1, 1, []), (.aload_n 0, 1, []), (.iload 4, 2, []), (.iconst 1, 1, []), (.iadd, 1, []), (.iaload, 1, []), (.aload_n 0, 1, []), (.iload 4, 2, []), (.iconst 2, 1, []), (.iadd, 1, []), (.iaload, 1, []), (.aload_n 3, 1, []), (.invokestatic 108, 3, [194, 4, 4, 0, 1, 820]), (.istore 5, 2, []), (.aload_n 2, 1, []), (.aload_n 0, 1, []), (.iload 4, 2, []), (.iconst 1, 1, []), (.iadd, 1, []), (.iaload, 1, []), (.aload_n 0, 1, []), (.iload 4, 2, []), (.iconst 2, 1, []), (.iadd, 1, []), (.iaload, 1, []), (.invokevirtual 110, 3, [146, 3, 2, 9, 1, 1528]), (.istore 6, 2, []), (.aload_n 2, 1, []), (.invokevirtual 93, 3, [110, 1, 2, 9, 1, 1380]), (.iload 5, 2, []), (.if_icmp .eq 5, 3, []), (.iconst 0, 1, []), (.ireturn, 1, [])]),
  (470, [true, true, true, true, true, true, true], [(.iload 5, 2, []), (.ifCond .ne 15, 3, []), (.aload_n 3, 1, []), (.iconst 0, 1, []), (.laload, 1, []), (.iload 6, 2, []), (.i2l, 1, []), (.lcmp, 1, []), (.ifCond .eq 5, 3, []), (.iconst 0, 1, []), (.ireturn, 1, [])]),
  (487, [true, true, true, true, true, false, false], [(.goto 1238, 3, [])]),
  (490, [true, true, true, true, true, false, false], [(.aload_n 1, 1, []), (.aload_n 0, 1, []), (.iload 4, 2, []), (.iconst 1, 1, []), (.iadd, 1, []), (.iaload, 1, []), (.aload_n 0, 1, []), (.iload 4, 2, []), (.iconst 2, 1, []), (.iadd, 1, []), (.iaload, 1, []), (.aload_n 0, 1, []), (.iload 4, 2, []), (.iconst 3, 1, []), (.iadd, 1, []), (.iaload, 1, []), (.aload_n 0, 1, []), (.iload 4, 2, []), (.iconst 4, 1, []), (.iadd, 1, []), (.iaload, 1, []), (.aload_n 3, 1, []), (.invokestatic 111, 3, [195, 6, 4, 0, 1, 833]), (.istore 5, 2, []), (.aload_n 2, 1, []), (.aload_n 0, 1, []), (.iload 4, 2, []), (.iconst 1, 1, []), (.iadd, 1, []), (.iaload, 1, []), (.aload_n 0, 1, []), (.iload 4, 2, []), (.iconst 2, 1, []), (.iadd, 1, []), (.iaload, 1, []), (.aload_n 0, 1, []), (.iload 4, 2, []), (.iconst 3, 1, []), (.iadd, 1, []), (.iaload, 1, []), (.aload_n 0, 1, []), (.iload 4, 2, []), (.iconst 4, 1, []), (.iadd, 1, []), (.iaload, 1, []), (.invokevirtual 114, 3, [152, 5, 2, 9, 1, 1536]), (.istore 6, 2, []), (.aload_n 2, 1, []), (.invokevirtual 93, 3, [110, 1, 2, 9, 1, 1380]), (.iload 5, 2, []), (.if_icmp .eq 5, 3, []), (.iconst 0, 1, []), (.ireturn, 1, [])]),
  (562, [true, true, true, true, true, true, true], [(.iload 5, 2, []), (.ifCond .ne 15, 3, []), (.aload_n 3, 1, []), (.iconst 0, 1, []), (.laload, 1, []), (.iload 6, 2, []), (.i2l, 1, []), (.lcmp, 1, []), (.ifCond .eq 5, 3, []), (.iconst 0, 1, []), (.ireturn, 1, [])]),
  (579, [true, true, true, true, true, false, false], [(.goto 1146, 3, [])]),
  (582, [true, true, true, true, true, false, false], [(.aload_n 1, 1, []), (.aload_n 0, 1, []), (.iload 4, 2, []), (.iconst 1, 1, []), (.iadd, 1, []), (.iaload, 1, []), (.aload_n 0, 1, []), (.iload 4, 2, []), (.iconst 2, 1, []), (.iadd, 1, []), (.iaload, 1, []), (.aload_n 3, 1, []), (.invokestatic 115, 3, [196, 4, 4, 0, 1, 899]), (.istore 5, 2, []), (.aload_n 2, 1, []), (.aload_n 0, 1, []), (.iload 4, 2, []), (.iconst 1, 1, []), (.iadd, 1, []), (.iaload, 1, []), (.aload_n 0, 1, []), (.iload 4, 2, []), (.iconst 2, 1, []), (.iadd, 1, []), (.iaload, 1, []), (.invokevirtual 117, 3, [153, 3, 2, 9, 1, 1560]), (.istore 6, 2, []), (.aload_n 2, 1, []), (.invokevirtual 93, 3, [110, 1, 2, 9, 1, 1380]), (.iload 5, 2, []), (.if_icmp .eq 5, 3, []), (.iconst 0, 1, []), (.ireturn, 1, [])]),
  (630, [true, true, true, true, true, true, true], [(.iload 5, 2, []), (.ifCond .ne 15, 3, []), (.aload_n 3, 1, []), (.iconst 0, 1, []), (.laload, 1, []), (.iload 6, 2, []), (.i2l, 1, []), (.lcmp, 1, []), (.ifCond .eq 5, 3, []), (.iconst 0, 1, []), (.ireturn, 1, [])]),
  (647, [true, true, true, true, true, false, false], [(.goto 1078, 3, [])]),
  (650, [true, true, true, true, true, false, false], [(.aload_n 1, 1, []), (.aload_n 0, 1, []), (.iload 4, 2, []), (.iconst 1, 1, []), (.iadd, 1, []), (.iaload, 1, []), (.aload_n 0, 1, []), (.iload 4, 2, []), (.iconst 2, 1, []), (.iadd, 1, []), (.iaload, 1, []), (.aload_n 0, 1, []), (.iload 4, 2, []), (.iconst 3, 1, []), (.iadd, 1, []), (.iaload, 1, []), (.aload_n 3, 1, []), (.invokestatic 118, 3, [197, 5, 4, 0, 1, 907]), (.istore 5, 2, []), (.aload_n 2, 1, []), (.aload_n 0, 1, []), (.iload 4, 2, []), (.iconst 1, 1, []), (.iadd, 1, []), (.iaload, 1, []), (.aload_n 0, 1, []), (.iload 4, 2, []), (.iconst 2, 1, []), (.iadd, 1, []), (.iaload, 1, []), (.aload_n 0, 1, []), (.iload 4, 2, []), (.iconst 3, 1, []), (.iadd, 1, []), (.iaload, 1, []), (.invokevirtual 121, 3, [154, 4, 2, 9, 1, 1564]), (.istore 6, 2, []), (.aload_n 2, 1, []), (.invokevirtual 93, 3, [110, 1, 2, 9, 1, 1380]), (.iload 5, 2, []), (.if_icmp .eq 5, 3, []), (.iconst 0, 1, []), (.ireturn, 1, [])]),
  (710, [true, true, true, true, true, true, true], [(.iload 5, 2, []), (.ifCond .ne 15, 3, []), (.aload_n 3, 1, []), (.iconst 0, 1, []), (.laload, 1, []), (.iload 6, 2, []), (.i2l, 1, []), (.lcmp, 1, []), (.ifCond .eq 5, 3, []), (.iconst 0, 1, []), (.ireturn, 1, [])]),
  (727, [true, true, true, true, true, false, false], [(.goto 998, 3, [])]),
  (730, [true, true, true, true, true, false, false], [(.aload_n 1, 1, []), (.aload_n 0, 1, []), (.iload 4, 2, []), (.iconst 1, 1, []), (.iadd, 1, []), (.iaload, 1, []), (.aload_n 0, 1, []), (.iload 4, 2, []), (.iconst 2, 1, []), (.iadd, 1, []), (.iaload, 1, []), (.aload_n 3, 1, []), (.invokestatic 122, 3, [198, 4, 4, 0, 1, 918]), (.istore 5, 2, []), (.aload_n 2, 1, []), (.aload_n 0, 1, []), (.iload 4, 2, []), (.iconst 1, 1, []), (.iadd, 1, []), (.iaload, 1, []), (.aload_n 0, 1, []), (.iload 4, 2, []), (.iconst 2, 1, []), (.iadd, 1, []), (.iaload, 1, []), (.invokevirtual 124, 3, [155, 3, 2, 9, 1, 1568]), (.istore 6, 2, []), (.aload_n 2, 1, []), (.invokevirtual 93, 3, [110, 1, 2, 9, 1, 1380]), (.iload 5, 2, []), (.if_icmp .eq 5, 3, []), (.iconst 0, 1, []), (.ireturn, 1, [])]),
  (778, [true, true, true, true, true, true, true], [(.iload 5, 2, []), (.ifCond .ne 15, 3, []), (.aload_n 3, 1, []), (.iconst 0, 1, []), (.laload, 1, []), (.iload 6, 2, []), (.i2l, 1, []), (.lcmp, 1, []), (.ifCond .eq 5, 3, []), (.iconst 0, 1, []), (.ireturn, 1, [])]),
  (795, [true, true, true, true, true, false, false], [(.goto 930, 3, [])]),
  (798, [true, true, true, true, true, false, false], [(.aload_n 1, 1, []), (.aload_n 0, 1, []), (.iload 4, 2, []), (.iconst 1, 1, []), (.iadd, 1, []), (.iaload, 1, []), (.aload_n 0, 1, []), (.iload 4, 2, []), (.iconst 2, 1, []), (.iadd, 1, []), (.iaload, 1, []), (.aload_n 0, 1, []), (.iload 4, 2, []), (.iconst 3, 1, []), (.iadd, 1, []), (.iaload, 1, []), (.aload_n 3, 1, []), (.invokestatic 125, 3, [199, 5, 4, 0, 1, 925]), (.istore 5, 2, []), (.aload_n 2, 1, []), (.aload_n 0, 1, []), (.iload 4, 2, []), (.iconst 1, 1, []), (.iadd, 1, []), (.iaload, 1, []), (.aload_n 0, 1, []), (.iload 4, 2, []), (.iconst 2, 1, []), (.iadd, 1, []), (.iaload, 1, []), (.aload_n 0, 1, []), (.iload 4, 2, []), (.iconst 3, 1, []), (.iadd, 1, []), (.iaload, 1, []), (.invokevirtual 127, 3, [157, 4, 2, 9, 1, 1572]), (.istore 6, 2, []), (.aload_n 2, 1, []), (.invokevirtual 93, 3, [110, 1, 2, 9, 1, 1380]), (.iload 5, 2, []), (.if_icmp .eq 5, 3, []), (.iconst 0, 1, []), (.ireturn, 1, [])]),
  (858, [true, true, true, true, true, true, true], [(.iload 5, 2, []), (.ifCond .ne 15, 3, []), (.aload_n 3, 1, []), (.iconst 0, 1, []), (.laload, 1, []), (.iload 6, 2, []), (.i2l, 1, []), (.lcmp, 1, []), (.ifCond .eq 5, 3, []), (.iconst 0, 1, []), (.ireturn, 1, [])]),
  (875, [true, true, true, true, true, false, false], [(.goto 850, 3, [])]),
  (878, [true, true, true, true, true, false, false], [(.aload_n 1, 1, []), (.aload_n 0, 1, []), (.iload 4, 2, []), (.iconst 1, 1, []), (.iadd, 1, []), (.iaload, 1, []), (.aload_n 0, 1, []), (.iload 4, 2, []), (.iconst 2, 1, []), (.iadd, 1, []), (.iaload, 1, []), (.aload_n 0, 1, []), (.iload 4, 2, []), (.iconst 3, 1, []), (.iadd, 1, []), (.iaload, 1, []), (.aload_n 3, 1, []), (.invokestatic 128, 3, [200, 5, 4, 0, 1, 941]), (.istore 5, 2, []), (.aload_n 2, 1, []), (.aload_n 0, 1, []), (.iload 4, 2, []), (.iconst 1, 1, []), (.iadd, 1, []), (.iaload, 1, []), (.aload_n 0, 1, []), (.iload 4, 2, []), (.iconst 2, 1, []), (.iadd, 1, []), (.iaload, 1, []), (.aload_n 0, 1, []), (.iload 4, 2, []), (.iconst 3, 1, []), (.iadd, 1, []), (.iaload, 1, []), (.invokevirtual 130, 3, [158, 4, 2, 9, 1, 1580]), (.istore 6, 2, []), (.aload_n 2, 1, []), (.invokevirtual 93, 3, [110, 1, 2, 9, 1, 1380]), (.iload 5, 2, []), (.if_icmp .eq 5, 3, []), (.iconst 0, 1, []), (.ireturn, 1, [])]),
  (938, [true, true, true, true, true, true, true], [(.iload 5, 2, []), (.ifCond .ne 22, 3, []), (.aload_n 3, 1, []), (.iconst 0, 1, []), (.laload, 1, []), (.iload 6, 2, []), (.ifCond .eq 7, 3, []), (.lconst 1, 1, []), (.goto 4, 3, [])]),
  (955, [true, true, true, true, true, false, false], [(.lconst 0, 1, [])]),
  (956, [true, true, true, true, true, false, false], [(.lcmp, 1, []), (.ifCond .eq 5, 3, []), (.iconst 0, 1, []), (.ireturn, 1, [])]),
  (962, [true, true, true, true, true, false, false], [(.goto 763, 3, [])]),
  (965, [true, true, true, true, true, false, false], [(.aload_n 1, 1, []), (.aload_n 0, 1, []), (.iload 4, 2, []), (.iconst 1, 1, []), (.iadd, 1, []), (.iaload, 1, []), (.aload_n 0, 1, []), (.iload 4, 2, []), (.iconst 2, 1, []), (.iadd, 1, []), (.iaload, 1, []), (.aload_n 0, 1, []), (.iload 4, 2, []), (.iconst 3, 1, []), (.iadd, 1, []), (.iaload, 1, []), (.aload_n 3, 1, []), (.invokestatic 131, 3, [201, 5, 4, 0, 1, 950]), (.istore 5, 2, []), (.aload_n 2, 1, []), (.aload_n 0, 1, []), (.iload 4, 2, []), (.iconst 1, 1, []), (.iadd, 1, []), (.iaload, 1, []), (.aload_n 0, 1, []), (.iload 4, 2, []), (.iconst 2, 1, []), (.iadd, 1, []), (.iaload, 1, []), (.aload_n 0, 1, []), (.iload 4, 2, []), (.iconst 3, 1, []), (.iadd, 1, []), (.iaload, 1, []), (.invokevirtual 133, 3, [159, 4, 2, 9, 1, 1584]), (.istore 6, 2, []), (.aload_n 2, 1, []), (.invokevirtual 93, 3, [110, 1, 2, 9, 1, 1380]), (.iload 5, 2, []), (.if_icmp .eq 5, 3, []), (.iconst 0, 1, []), (.ireturn, 1, [])]),
  (1025, [true, true, true, true, true, true, true], [(.iload 5, 2, []), (.ifCond .ne 15, 3, []), (.aload_n 3, 1, []), (.iconst 0, 1, []), (.laload, 1, []), (.iload 6, 2, []), (.i2l, 1, []), (.lcmp, 1, []), (.ifCond .eq 5, 3, []), (.iconst 0, 1, []), (.ireturn, 1, [])]),
  (1042, [true, true, true, true, true, false, false], [(.goto 683, 3, [])]),
  (1045, [true, true, true, true, true, false, false], [(.aload_n 1, 1, []), (.aload_n 0, 1, []), (.iload 4, 2, []), (.iconst 1, 1, []), (.iadd, 1, []), (.iaload, 1, []), (.aload_n 0, 1, []), (.iload 4, 2, []), (.iconst 2, 1, []), (.iadd, 1, []), (.iaload, 1, []), (.aload_n 0, 1, []), (.iload 4, 2, []), (.iconst 3, 1, []), (.iadd, 1, []), (.iaload, 1, []), (.aload_n 0, 1, []), (.iload 4, 2, []), (.iconst 4, 1, []), (.iadd, 1, []), (.iaload, 1, []), (.aload_n 3, 1, []), (.invokestatic 134, 3, [202, 6, 4, 0, 1, 958]), (.istore 5, 2, []), (.aload_n 2, 1, []), (.aload_n 0, 1, []), (.iload 4, 2, []), (.iconst 1, 1, []), (.iadd, 1, []), (.iaload, 1, []), (.aload_n 0, 1, []), (.iload 4, 2, []), (.iconst 2, 1, []), (.iadd, 1, []), (.iaload, 1, []), (.aload_n 0, 1, []), (.iload 4, 2, []), (.iconst 3, 1, []), (.iadd, 1, []), (.iaload, 1, []), (.aload_n 0, 1, []), (.iload 4, 2, []), (.iconst 4, 1, []), (.iadd, 1, []), (.iaload, 1, []), (.invokevirtual 136, 3, [161, 5, 2, 9, 1, 1588]), (.istore 6, 2, []), (.aload_n 2, 1, []), (.invokevirtual 93, 3, [110, 1, 2, 9, 1, 1380]), (.iload 5, 2, []), (.if_icmp .eq 5, 3, []), (.iconst 0, 1, []), (.ireturn, 1, [])]),
  (1117, [true, true, true, true, true, true, true], [(.iload 5, 2, []), (.ifCond .ne 15, 3, []), (.aload_n 3, 1, []), (.iconst 0, 1, []), (.laload, 1, []), (.iload 6, 2, []), (.i2l, 1, []), (.lcmp, 1, []), (.ifCond .eq 5, 3, []), (.iconst 0, 1, []), (.ireturn, 1, [])]),
  (1134, [true, true, true, true, true, false, false], [(.goto 591, 3, [])]),
  (1137, [true, true, true, true, true, false, false], [(.aload_n 1, 1, []), (.aload_n 0, 1, []), (.iload 4, 2, []), (.iconst 1, 1, []), (.iadd, 1, []), (.iaload, 1, []), (.aload_n 3, 1, []), (.invokestatic 137, 3, [203, 3, 4, 0, 1, 977]), (.istore 5, 2, []), (.aload_n 2, 1, []), (.aload_n 0, 1, []), (.iload 4, 2, []), (.iconst 1, 1, []), (.iadd, 1, []), (.iaload, 1, []), (.invokevirtual 139, 3, [169, 2, 2, 9, 1, 1596]), (.istore 6, 2, []), (.aload_n 2, 1, []), (.invokevirtual 93, 3, [110, 1, 2, 9, 1, 1380]), (.iload 5, 2, []), (.if_icmp .eq 5, 3, []), (.iconst 0, 1, []), (.ireturn, 1, [])]),
  (1173, [true, true, true, true, true, true, true], [(.iload 5, 2, []), (.ifCond .ne 15, 3, []), (.aload_n 3, 1, []), (.iconst 0, 1, []), (.laload, 1, []), (.iload 6, 2, []), (.i2l, 1, []), (.lcmp, 1, []), (.ifCond .eq 5, 3, []), (.iconst 0, 1, []), (.ireturn, 1, [])]),
  (1190, [true, true, true, true, true, false, false], [(.goto 535, 3, [])]),
  (1193, [true, true, true, true, true, false, false], [(.aload_n 1, 1, []), (.aload_n 0, 1, []), (.iload 4, 2, []), (.iconst 1, 1, []), (.iadd, 1, []), (.iaload, 1, []), (.aload_n 0, 1, []), (.iload 4, 2, []), (.iconst 2, 1, []), (.iadd, 1, []), (.iaload, 1, []), (.aload_n 3, 1, []), (.invokestatic 140, 3, [204, 4, 4, 0, 1, 1042]), (.istore 5, 2, []), (.aload_n 2, 1, []), (.aload_n 0, 1, []), (.iload 4, 2, []), (.iconst 1, 1, []), (.iadd, 1, []), (.iaload, 1, []), (.aload_n 0, 1, []), (.iload 4, 2, []), (.iconst 2, 1, []), (.iadd, 1, []), (.iaload, 1, []), (.invokevirtual 142, 3, [170, 3, 2, 9, 1, 1628]), (.istore 6, 2, []), (.aload_n 2, 1, []), (.invokevirtual 93, 3, [110, 1, 2, 9, 1, 1380]), (.iload 5, 2, []), (.if_icmp .eq 5, 3, []), (.iconst 0, 1, []), (.ireturn, 1, [])]),
  (1241, [true, true, true, true, true, true, true], [(.iload 5, 2, []), (.ifCond .ne 15, 3, []), (.aload_n 3, 1, []), (.iconst 0, 1, []), (.laload, 1, []), (.iload 6, 2, []), (.i2l, 1, []), (.lcmp, 1, []), (.ifCond .eq 5, 3, []), (.iconst 0, 1, []), (.ireturn, 1, [])]),
  (1258, [true, true, true, true, true, false, false], [(.goto 467, 3, [])]),
  (1261, [true, true, true, true, true, false, false], [(.aload_n 1, 1, []), (.aload_n 0, 1, []), (.iload 4, 2, []), (.iconst 1, 1, []), (.iadd, 1, []), (.iaload, 1, []), (.aload_n 0, 1, []), (.iload 4, 2, []), (.iconst 2, 1, []), (.iadd, 1, []), (.iaload, 1, []), (.aload_n 0, 1, []), (.iload 4, 2, []), (.iconst 3, 1, []), (.iadd, 1, []), (.iaload, 1, []), (.aload_n 3, 1, []), (.invokestatic 143, 3, [205, 5, 4, 0, 1, 1070]), (.istore 5, 2, []), (.aload_n 2, 1, []), (.aload_n 0, 1, []), (.iload 4, 2, []), (.iconst 1, 1, []), (.iadd, 1, []), (.iaload, 1, []), (.aload_n 0, 1, []), (.iload 4, 2, []), (.iconst 2, 1, []), (.iadd, 1, []), (.iaload, 1, []), (.aload_n 0, 1, []), (.iload 4, 2, []), (.iconst 3, 1, []), (.iadd, 1, []), (.iaload, 1, []), (.invokevirtual 145, 3, [171, 4, 2, 9, 1, 1632]), (.istore 6, 2, []), (.aload_n 2, 1, []), (.invokevirtual 93, 3, [110, 1, 2, 9, 1, 1380]), (.iload 5, 2, []), (.if_icmp .eq 5, 3, []), (.iconst 0, 1, []), (.ireturn, 1, [])]),
  (1321, [true, true, true, true, true, true, true], [(.iload 5, 2, []), (.ifCond .ne 15, 3, []), (.aload_n 3, 1, []), (.iconst 0, 1, []), (.laload, 1, []), (.iload 6, 2, []), (.i2l, 1, []), (.lcmp, 1, []), (.ifCond .eq 5, 3, []), (.iconst 0, 1, []), (.ireturn, 1, [])]),
  (1338, [true, true, true, true, true, false, false], [(.goto 387, 3, [])]),
  (1341, [true, true, true, true, true, false, false], [(.aload_n 1, 1, []), (.aload_n 0, 1, []), (.iload 4, 2, []), (.iconst 1, 1, []), (.iadd, 1, []), (.iaload, 1, []), (.aload_n 3, 1, []), (.invokestatic 146, 3, [206, 3, 4, 0, 1, 1082]), (.istore 5, 2, []), (.aload_n 2, 1, []), (.aload_n 0, 1, []), (.iload 4, 2, []), (.iconst 1, 1, []), (.iadd, 1, []), (.iaload, 1, []), (.invokevirtual 148, 3, [172, 2, 2, 9, 1, 1636]), (.istore 6, 2, []), (.aload_n 2, 1, []), (.invokevirtual 93, 3, [110, 1, 2, 9, 1, 1380]), (.iload 5, 2, []), (.if_icmp .eq 5, 3, []), (.iconst 0, 1, []), (.ireturn, 1, [])]),
  (1377, [true, true, true, true, true, true, true], [(.iload 5, 2, []), (.ifCond .ne 15, 3, []), (.aload_n 3, 1, []), (.iconst 0, 1, []), (.laload, 1, []), (.iload 6, 2, []), (.i2l, 1, []), (.lcmp, 1, []), (.ifCond .eq 5, 3, []), (.iconst 0, 1, []), (.ireturn, 1, [])]),
  (1394, [true, true, true, true, true, false, false], [(.goto 331, 3, [])]),
  (1397, [true, true, true, true, true, false, false], [(.aload_n 1, 1, []), (.aload_n 0, 1, []), (.iload 4, 2, []), (.iconst 1, 1, []), (.iadd, 1, []), (.iaload, 1, []), (.aload_n 0, 1, []), (.iload 4, 2, []), (.iconst 2, 1, []), (.iadd, 1, []), (.iaload, 1, []), (.aload_n 0, 1, []), (.iload 4, 2, []), (.iconst 3, 1, []), (.iadd, 1, []), (.iaload, 1, []), (.aload_n 3, 1, []), (.invokestatic 149, 3, [207, 5, 4, 0, 1, 1094]), (.istore 5, 2, []), (.aload_n 2, 1, []), (.aload_n 0, 1, []), (.iload 4, 2, []), (.iconst 1, 1, []), (.iadd, 1, []), (.iaload, 1, []), (.aload_n 0, 1, []), (.iload 4, 2, []), (.iconst 2, 1, []), (.iadd, 1, []), (.iaload, 1, []), (.aload_n 0, 1, []), (.iload 4, 2, []), (.iconst 3, 1, []), (.iadd, 1, []), (.iaload, 1, []), (.invokevirtual 151, 3, [173, 4, 2, 9, 1, 1640]), (.istore 6, 2, []), (.aload_n 2, 1, []), (.invokevirtual 93, 3, [110, 1, 2, 9, 1, 1380]), (.iload 5, 2, []), (.if_icmp .eq 5, 3, []), (.iconst 0, 1, []), (.ireturn, 1, [])]),
  (1457, [true, true, true, true, true, true, true], [(.iload 5, 2, []), (.ifCond .ne 15, 3, []), (.aload_n 3, 1, []), (.iconst 0, 1, []), (.laload, 1, []), (.iload 6, 2, []), (.i2l, 1, []), (.lcmp, 1, []), (.ifCond .eq 5, 3, []), (.iconst 0, 1, []), (.ireturn, 1, [])]),
  (1474, [true, true, true, true, true, false, false], [(.goto 251, 3, [])]),
  (1477, [true, true, true, true, true, false, false], [(.aload_n 1, 1, []), (.invokevirtual 152, 3, [93, 1, 2, 8, 1, 463]), (.aload_n 2, 1, []), (.invokevirtual 155, 3, [175, 1, 2, 9, 1, 1644]), (.if_icmp .eq 240, 3, []), (.iconst 0, 1, []), (.ireturn, 1, [])]),
  (1490, [true, true, true, true, true, false, false], [(.aload_n 1, 1, []), (.aload_n 0, 1, []), (.iload 4, 2, []), (.iconst 1, 1, []), (.iadd, 1, []), (.iaload, 1, []), (.aload_n 3, 1, []), (.invokestatic 156, 3, [208, 3, 4, 0, 1, 1105]), (.istore 5, 2, []), (.aload_n 2, 1, []), (.aload_n 0, 1, []), (.iload 4, 2, []), (.iconst 1, 1, []), (.iadd, 1, []), (.iaload, 1, []), (.invokevirtual 158, 3, [176, 2, 2, 9, 1, 1652]), (.istore 6, 2, []), (.aload_n 2, 1, []), (.invokevirtual 93, 3, [110, 1, 2, 9, 1, 1380]), (.iload 5, 2, []), (.if_icmp .eq 5, 3, []), (.iconst 0, 1, []), (.ireturn, 1, [])]),
  (1526, [true, true, true, true, true, true, true], [(.iload 5, 2, []), (.ifCond .ne 15, 3, []), (.aload_n 3, 1, []), (.iconst 0, 1, []), (.laload, 1, []), (.iload 6, 2, []), (.i2l, 1, []), (.lcmp, 1, []), (.ifCond .eq 5, 3, []), (.iconst 0, 1, []), (.ireturn, 1, [])]),
  (1543, [true, true, true, true, true, false, false], [(.goto 182, 3, [])]),
  (1546, [true, true, true, true, true, false, false], [(.aload_n 1, 1, []), (.aload_n 0, 1, []), (.iload 4, 2, []), (.iconst 1, 1, []), (.iadd, 1, []), (.iaload, 1, []), (.aload_n 0, 1, []), (.iload 4, 2, []), (.iconst 2, 1, []), (.iadd, 1, []), (.iaload, 1, []), (.aload_n 0, 1, []), (.iload 4, 2, []), (.iconst 3, 1, []), (.iadd, 1, []), (.iaload, 1, []), (.aload_n 3, 1, []), (.invokestatic 159, 3, [209, 5, 4, 0, 1, 1113]), (.istore 5, 2, []), (.aload_n 2, 1, []), (.aload_n 0, 1, []), (.iload 4, 2, []), (.iconst 1, 1, []), (.iadd, 1, []), (.iaload, 1, []), (.aload_n 0, 1, []), (.iload 4, 2, []), (.iconst 2, 1, []), (.iadd, 1, []), (.iaload, 1, []), (.aload_n 0, 1, []), (.iload 4, 2, []), (.iconst 3, 1, []), (.iadd, 1, []), (.iaload, 1, []), (.invokevirtual 161, 3, [177, 4, 2, 9, 1, 1656]), (.istore 6, 2, []), (.aload_n 2, 1, []), (.invokevirtual 93, 3, [110, 1, 2, 9, 1, 1380]), (.iload 5, 2, []), (.if_icmp .eq 5, 3, []), (.iconst 0, 1, []), (.ireturn, 1, [])]),
  (1606, [true, true, true, true, true, true, true], [(.iload 5, 2, []), (.ifCond .ne 22, 3, []), (.aload_n 3, 1, []), (.iconst 0, 1, []), (.laload, 1, []), (.iload 6, 2, []), (.ifCond .eq 7, 3, []), (.lconst 1, 1, []), (.goto 4, 3, [])]),
  (1623, [true, true, true, true, true, false, false], [(.lconst 0, 1, [])]),
  (1624, [true, true, true, true, true, false, false], [(.lcmp, 1, []), (.ifCond .eq 5, 3, []), (.iconst 0, 1, []), (.ireturn, 1, [])]),
  (1630, [true, true, true, true, true, false, false], [(.goto 95, 3, [])]),
  (1633, [true, true, true, true, true, false, false], [(.aload_n 1, 1, []), (.aload_n 0, 1, []), (.iload 4, 2, []), (.iconst 1, 1, []), (.iadd, 1, []), (.iaload, 1, []), (.aload_n 0, 1, []), (.iload 4, 2, []), (.iconst 2, 1, []), (.iadd, 1, []), (.iaload, 1, []), (.aload_n 3, 1, []), (.invokestatic 162, 3, [210, 4, 4, 0, 1, 1120]), (.istore 5, 2, []), (.aload_n 2, 1, []), (.aload_n 0, 1, []), (.iload 4, 2, []), (.iconst 1, 1, []), (.iadd, 1, []), (.iaload, 1, []), (.aload_n 0, 1, []), (.iload 4, 2, []), (.iconst 2, 1, []), (.iadd, 1, []), (.iaload, 1, []), (.invokevirtual 164, 3, [180, 3, 2, 9, 1, 1660]), (.istore 6, 2, []), (.aload_n 2, 1, []), (.invokevirtual 93, 3, [110, 1, 2, 9, 1, 1380]), (.iload 5, 2, []), (.if_icmp .eq 5, 3, []), (.iconst 0, 1, []), (.ireturn, 1, [])]),
  (1681, [true, true, true, true, true, true, true], [(.iload 5, 2, []), (.ifCond .ne 15, 3, []), (.aload_n 3, 1, []), (.iconst 0, 1, []), (.laload, 1, []), (.iload 6, 2, []), (.i2l, 1, []), (.lcmp, 1, []), (.ifCond .eq 5, 3, []), (.iconst 0, 1, []), (.ireturn, 1, [])]),
  (1698, [true, true, true, true, true, false, false], [(.goto 27, 3, [])]),
  (1701, [true, true, true, true, true, false, false], [(.aload_n 1, 1, []), (.invokevirtual 165, 3, [97, 1, 2, 8, 0, 482]), (.aload_n 2, 1, []), (.invokevirtual 168, 3, [183, 1, 2, 9, 0, 1671]), (.goto 16, 3, [])]),
  (1712, [true, true, true, true, true, false, false], [(.aload_n 1, 1, []), (.invokevirtual 169, 3, [98, 1, 2, 8, 1, 491]), (.aload_n 2, 1, []), (.invokevirtual 173, 3, [184, 1, 2, 9, 1, 1679]), (.if_icmp .eq 5, 3, []), (.iconst 0, 1, []), (.ireturn, 1, [])]),
  (1725, [true, true, true, true, true, false, false], [(.iinc 4 6, 3, []), (.goto (-1705), 3, [])]),
  (1731, [false, false, false, false, false, false, false], [(.iconst 1, 1, []), (.ireturn, 1, [])])]
end
noncomputable def z_bs : List z_B := [z_b0, z_b1, z_b2, z_b3, z_b4, z_b5, z_b6, z_b7, z_b8, z_b9, z_b10, z_b11, z_b12, z_b13, z_b14, z_b15, z_b16, z_b17, z_b18, z_b19, z_b20, z_b21, z_b22, z_b23, z_b24, z_b25, z_b26, z_b27, z_b28, z_b29, z_b30, z_b31, z_b32, z_b33, z_b34, z_b35, z_b36, z_b37, z_b38, z_b39, z_b40, z_b41, z_b42, z_b43, z_b44, z_b45, z_b46, z_b47, z_b48, z_b49, z_b50, z_b51, z_b52, z_b53, z_b54, z_b55, z_b56, z_b57, z_b58, z_b59, z_b60, z_b61, z_b62, z_b63, z_b64, z_b65, z_b66, z_b67, z_b68, z_b69, z_b70, z_b71, z_b72, z_b73, z_b74, z_b75, z_b76, z_b77, z_b78, z_b79, z_b80, z_b81, z_b82, z_b83, z_b84, z_b85, z_b86, z_b87, z_b88, z_b89, z_b90, z_b91, z_b92, z_b93, z_b94, z_b95, z_b96, z_b97, z_b98, z_b99, z_b100, z_b101, z_b102, z_b103, z_b104, z_b105, z_b106, z_b107, z_b108, z_b109, z_b110, z_b111, z_b112, z_b113, z_b114, z_b115, z_b116, z_b117, z_b118, z_b119, z_b120, z_b121, z_b122, z_b123, z_b124, z_b125, z_b126, z_b127, z_b128, z_b129, z_b130, z_b131, z_b132, z_b133, z_b134, z_b135, z_b136, z_b137, z_b138, z_b139, z_b140, z_b141, z_b142, z_b143, z_b144, z_b145, z_b146, z_b147, z_b148, z_b149, z_b150, z_b151, z_b152, z_b153, z_b154, z_b155, z_b156, z_b157, z_b158, z_b159, z_b160, z_b161, z_b162, z_b163, z_b164, z_b165, z_b166, z_b167, z_b168, z_b169, z_b170, z_b171, z_b172, z_b173, z_b174, z_b175, z_b176, z_b177, z_b178, z_b179, z_b180, z_b181, z_b182, z_b183, z_b184, z_b185, z_b186, z_b187, z_b188, z_b189, z_b190, z_b191, z_b192, z_b193, z_b194, z_b195, z_b196, z_b197, z_b198, z_b199, z_b200, z_b201, z_b202, z_b203, z_b204, z_b205, z_b206, z_b207, z_b208, z_b209, z_b210, z_b211]
/-- name, bytes, locals, answer, class -/
noncomputable def z_md : List (MethodName × ByteArray × Nat × Option FieldType × Nat × List (Nat × Int32)) := [
  (⟨"SlipRoom$Law", "holds", "([III)Z"⟩, prog_2_method_2_code, 5, (some .boolean), 0, []),
  (⟨"SlipRoom$Law", "obey", "(I)V"⟩, prog_2_method_3_code, 4, none, 0, []),
  (⟨"SlipRoom$Law", "apply", "(III)I"⟩, prog_2_method_4_code, 3, (some .int), 0, []),
  (⟨"SlipRoom$Law", "push", "(I)V"⟩, prog_2_method_5_code, 2, none, 0, []),
  (⟨"SlipRoom$Law", "pop", "()I"⟩, prog_2_method_6_code, 1, (some .int), 0, []),
  (⟨"SlipRoom$Ledger", "clear", "()V"⟩, prog_3_method_2_code, 1, none, 1, []),
  (⟨"SlipRoom$Ledger", "copy", "(LSlipRoom$Ledger;)V"⟩, prog_3_method_3_code, 2, none, 1, []),
  (⟨"SlipRoom$Ledger", "isRead", "(II)Z"⟩, prog_3_method_4_code, 3, (some .boolean), 1, []),
  (⟨"SlipRoom$Ledger", "mark", "(IIII)V"⟩, prog_3_method_5_code, 5, none, 1, []),
  (⟨"SlipRoom$Ledger", "openedPages", "(I)I"⟩, prog_3_method_6_code, 7, (some .int), 1, []),
  (⟨"SlipRoom$Ledger", "pagesInARow", "(II)I"⟩, prog_3_method_7_code, 4, (some .int), 1, []),
  (⟨"SlipRoom$Ledger", "onlyTheEnds", "(II)Z"⟩, prog_3_method_8_code, 3, (some .boolean), 1, []),
  (⟨"SlipRoom$Ledger", "enterLoan", "(IIIIII)V"⟩, prog_3_method_9_code, 8, none, 1, []),
  (⟨"SlipRoom$Ledger", "slipsIn", "(I)I"⟩, prog_3_method_10_code, 4, (some .int), 1, []),
  (⟨"SlipRoom$Ledger", "moveSlips", "(III)I"⟩, prog_3_method_11_code, 8, (some .int), 1, []),
  (⟨"SlipRoom$Ledger", "enterLook", "(IIII)I"⟩, prog_3_method_12_code, 6, (some .int), 1, []),
  (⟨"SlipRoom$Ledger", "looksIn", "(I)I"⟩, prog_3_method_13_code, 4, (some .int), 1, []),
  (⟨"SlipRoom$Ledger", "lookBook", "(I)I"⟩, prog_3_method_14_code, 2, (some .int), 1, []),
  (⟨"SlipRoom$Ledger", "lookHour", "(I)I"⟩, prog_3_method_15_code, 2, (some .int), 1, []),
  (⟨"SlipRoom$Ledger", "lookColour", "(I)I"⟩, prog_3_method_16_code, 2, (some .int), 1, []),
  (⟨"SlipRoom$Ledger", "lookPage", "(I)I"⟩, prog_3_method_17_code, 2, (some .int), 1, []),
  (⟨"SlipRoom$Ledger", "enterWish", "(II)I"⟩, prog_3_method_18_code, 3, (some .int), 1, []),
  (⟨"SlipRoom$Parser", "parse", "(ILSlipRoom$Plan;)I"⟩, prog_4_method_2_code, 4, (some .int), 2, []),
  (⟨"SlipRoom$Parser", "faultPlace", "()I"⟩, prog_4_method_3_code, 1, (some .int), 2, []),
  (⟨"SlipRoom$Parser", "fail", "(I)V"⟩, prog_4_method_4_code, 2, none, 2, []),
  (⟨"SlipRoom$Parser", "bookClause", "()V"⟩, prog_4_method_5_code, 2, none, 2, []),
  (⟨"SlipRoom$Parser", "readerClause", "()V"⟩, prog_4_method_6_code, 2, none, 2, []),
  (⟨"SlipRoom$Parser", "passWord", "(LSlipRoom$Word;)Z"⟩, prog_4_method_7_code, 3, (some .boolean), 2, []),
  (⟨"SlipRoom$Parser", "passSign", "(I)V"⟩, prog_4_method_8_code, 2, none, 2, []),
  (⟨"SlipRoom$Parser", "takeNumber", "(II)I"⟩, prog_4_method_9_code, 4, (some .int), 2, []),
  (⟨"SlipRoom$Parser", "level", "(II)V"⟩, prog_4_method_10_code, 7, none, 2, []),
  (⟨"SlipRoom$Parser", "operand", "(II)V"⟩, prog_4_method_11_code, 3, none, 2, []),
  (⟨"SlipRoom$Parser", "exprWithin", "(I)V"⟩, prog_4_method_12_code, 2, none, 2, []),
  (⟨"SlipRoom$Parser", "passNots", "()I"⟩, prog_4_method_13_code, 2, (some .int), 2, []),
  (⟨"SlipRoom$Parser", "takePart", "()V"⟩, prog_4_method_14_code, 1, none, 2, []),
  (⟨"SlipRoom$Plan", "clear", "()V"⟩, prog_5_method_2_code, 1, none, 3, []),
  (⟨"SlipRoom$Plan", "putCode", "(I)V"⟩, prog_5_method_3_code, 2, none, 3, []),
  (⟨"SlipRoom$Plan", "partBegin", "(II)I"⟩, prog_5_method_4_code, 4, (some .int), 3, []),
  (⟨"SlipRoom$Settling", "weigh", "([III)V"⟩, prog_6_method_2_code, 5, none, 4, []),
  (⟨"SlipRoom$Settling", "weighSet", "([III)V"⟩, prog_6_method_3_code, 6, none, 4, []),
  (⟨"SlipRoom$Settling", "looksFrom", "([III)I"⟩, prog_6_method_4_code, 7, (some .int), 4, []),
  (⟨"SlipRoom$Settling", "leftBy", "([IIII)I"⟩, prog_6_method_5_code, 6, (some .int), 4, []),
  (⟨"SlipRoom$Sharing", "gather", "(LSlipRoom$Plan;LSlipRoom$Ledger;I)V"⟩, prog_7_method_2_code, 6, none, 5, []),
  (⟨"SlipRoom$Sharing", "waysInAll", "()I"⟩, prog_7_method_3_code, 1, (some .int), 5, []),
  (⟨"SlipRoom$Sharing", "readersOf", "(I)I"⟩, prog_7_method_4_code, 4, (some .int), 5, []),
  (⟨"SlipRoom$Sharing", "endOf", "(IZ)I"⟩, prog_7_method_5_code, 7, (some .int), 5, []),
  (⟨"SlipRoom$Sharing", "movedLooks", "()I"⟩, prog_7_method_6_code, 3, (some .int), 5, []),
  (⟨"SlipRoom$Sharing", "allLooks", "()I"⟩, prog_7_method_7_code, 1, (some .int), 5, []),
  (⟨"SlipRoom$Sharing", "enter", "(LSlipRoom$Ledger;I)V"⟩, prog_7_method_8_code, 4, none, 5, []),
  (⟨"SlipRoom$Sharing", "addLoan", "(III)V"⟩, prog_7_method_9_code, 6, none, 5, []),
  (⟨"SlipRoom$Sharing", "findFits", "(I)V"⟩, prog_7_method_10_code, 6, none, 5, []),
  (⟨"SlipRoom$Sharing", "mayBeFirst", "(II)Z"⟩, prog_7_method_11_code, 3, (some .boolean), 5, []),
  (⟨"SlipRoom$Sharing", "mayFollow", "(III)Z"⟩, prog_7_method_12_code, 8, (some .boolean), 5, []),
  (⟨"SlipRoom$Sharing", "lastIn", "(I)I"⟩, prog_7_method_13_code, 3, (some .int), 5, []),
  (⟨"SlipRoom$Sharing", "split", "(I)V"⟩, prog_7_method_14_code, 3, none, 5, []),
  (⟨"SlipRoom$Sharing", "addSharer", "(I)V"⟩, prog_7_method_15_code, 5, none, 5, []),
  (⟨"SlipRoom$Sharing", "happens", "(II)Z"⟩, prog_7_method_16_code, 3, (some .boolean), 5, []),
  (⟨"SlipRoom$Sharing", "mayHave", "(II)Z"⟩, prog_7_method_17_code, 5, (some .boolean), 5, []),
  (⟨"SlipRoom$Sharing", "holds", "(II)Z"⟩, prog_7_method_18_code, 5, (some .boolean), 5, []),
  (⟨"SlipRoom$Tokens", "begin", "(I)V"⟩, prog_8_method_2_code, 2, none, 6, []),
  (⟨"SlipRoom$Tokens", "stop", "()V"⟩, prog_8_method_3_code, 1, none, 6, []),
  (⟨"SlipRoom$Tokens", "advance", "()V"⟩, prog_8_method_4_code, 1, none, 6, []),
  (⟨"SlipRoom$Tokens", "joins", "()I"⟩, prog_8_method_5_code, 1, (some .int), 6, []),
  (⟨"SlipRoom$Tokens", "operation", "()I"⟩, prog_8_method_6_code, 1, (some .int), 6, []),
  (⟨"SlipRoom$Tokens", "behindBlanks", "()I"⟩, prog_8_method_7_code, 2, (some .int), 6, []),
  (⟨"SlipRoom$Tokens", "passLetters", "()V"⟩, prog_8_method_8_code, 1, none, 6, []),
  (⟨"SlipRoom$Tokens", "passDigits", "()V"⟩, prog_8_method_9_code, 1, none, 6, []),
  (⟨"SlipRoom$Tokens", "isLetter", "(I)Z"⟩, prog_8_method_10_code, 1, (some .boolean), 6, []),
  (⟨"SlipRoom$Tokens", "isDigit", "(I)Z"⟩, prog_8_method_11_code, 1, (some .boolean), 6, []),
  (⟨"SlipRoom$Tokens", "isSign", "(I)Z"⟩, prog_8_method_12_code, 1, (some .boolean), 6, []),
  (⟨"SlipRoom$Turns", "clear", "()V"⟩, prog_9_method_2_code, 1, none, 7, []),
  (⟨"SlipRoom$Turns", "arrange", "(LSlipRoom$Ledger;)I"⟩, prog_9_method_3_code, 2, (some .int), 7, []),
  (⟨"SlipRoom$Turns", "place", "(LSlipRoom$Ledger;IIII)V"⟩, prog_9_method_4_code, 9, none, 7, []),
  (⟨"SlipRoom$Word", "find", "([BII)LSlipRoom$Word;"⟩, prog_10_method_4_code, 6, (some (.object "SlipRoom$Word")), 10, []),
  (⟨"SlipRoom", "feed", "(IIIII)I"⟩, prog_1_method_2_code, 6, (some .int), 8, []),
  (⟨"SlipRoom", "room", "(I)I"⟩, prog_1_method_3_code, 4, (some .int), 8, []),
  (⟨"SlipRoom", "fault", "()I"⟩, prog_1_method_4_code, 1, (some .int), 8, []),
  (⟨"SlipRoom", "count", "(I)I"⟩, prog_1_method_5_code, 2, (some .int), 8, []),
  (⟨"SlipRoom", "book", "(II)I"⟩, prog_1_method_6_code, 3, (some .int), 8, []),
  (⟨"SlipRoom", "reader", "(II)I"⟩, prog_1_method_7_code, 3, (some .int), 8, []),
  (⟨"SlipRoom", "loan", "(IIII)I"⟩, prog_1_method_8_code, 8, (some .int), 8, []),
  (⟨"SlipRoom", "lent", "(II)I"⟩, prog_1_method_9_code, 3, (some .int), 8, []),
  (⟨"SlipRoom", "drop", "(III)I"⟩, prog_1_method_10_code, 4, (some .int), 8, []),
  (⟨"SlipRoom", "slip", "(II)I"⟩, prog_1_method_11_code, 3, (some .int), 8, []),
  (⟨"SlipRoom", "read", "(III)I"⟩, prog_1_method_12_code, 5, (some .int), 8, []),
  (⟨"SlipRoom", "has", "(III)Z"⟩, prog_1_method_13_code, 4, (some .boolean), 8, []),
  (⟨"SlipRoom", "ahead", "(III)I"⟩, prog_1_method_14_code, 6, (some .int), 8, []),
  (⟨"SlipRoom", "look", "(IIII)I"⟩, prog_1_method_15_code, 6, (some .int), 8, []),
  (⟨"SlipRoom", "ways", "(I)I"⟩, prog_1_method_16_code, 2, (some .int), 8, []),
  (⟨"SlipRoom", "whose", "(II)I"⟩, prog_1_method_17_code, 4, (some .int), 8, []),
  (⟨"SlipRoom", "ends", "(III)I"⟩, prog_1_method_18_code, 4, (some .int), 8, []),
  (⟨"SlipRoom", "moved", "(I)I"⟩, prog_1_method_19_code, 2, (some .int), 8, []),
  (⟨"SlipRoom", "wish", "(III)I"⟩, prog_1_method_20_code, 4, (some .int), 8, []),
  (⟨"SlipRoom", "waiting", "()I"⟩, prog_1_method_21_code, 1, (some .int), 8, []),
  (⟨"SlipRoom", "turn", "(I)I"⟩, prog_1_method_22_code, 2, (some .int), 8, []),
  (⟨"SlipRoom", "tale", "(III)Z"⟩, prog_1_method_23_code, 4, (some .boolean), 8, []),
  (⟨"SlipRoom", "settle", "(II)I"⟩, prog_1_method_24_code, 3, (some .int), 8, []),
  (⟨"SlipRoom", "image", "()V"⟩, prog_1_method_25_code, 1, none, 8, []),
  (⟨"SlipRoom", "restore", "()Z"⟩, prog_1_method_26_code, 1, (some .boolean), 8, []),
  (⟨"SlipRoom", "putBytes", "(I)V"⟩, prog_1_method_27_code, 3, none, 8, []),
  (⟨"SlipRoom", "requireBook", "(I)V"⟩, prog_1_method_28_code, 2, none, 8, []),
  (⟨"SlipRoom", "requireReader", "(I)V"⟩, prog_1_method_29_code, 2, none, 8, []),
  (⟨"SlipRoom", "refused", "(I)I"⟩, prog_1_method_30_code, 2, (some .int), 8, []),
  (⟨"SlipRoom", "cellOf", "(II)I"⟩, prog_1_method_31_code, 2, (some .int), 8, []),
  (⟨"SlipRoom", "onlyOne", "(I)I"⟩, prog_1_method_32_code, 3, (some .int), 8, []),
  (⟨"SlipRoom", "mayLend", "(IIII)Z"⟩, prog_1_method_33_code, 5, (some .boolean), 8, []),
  (⟨"SlipRoom", "beginOf", "(II)I"⟩, prog_1_method_34_code, 4, (some .int), 8, []),
  (⟨"SlipRoom", "readLoan", "(IIIII)I"⟩, prog_1_method_35_code, 8, (some .int), 8, []),
  (⟨"SlipRoom", "readHour", "(IIIII)I"⟩, prog_1_method_36_code, 11, (some .int), 8, []),
  (⟨"SlipRoom", "stopsBehind", "(IIIII)Z"⟩, prog_1_method_37_code, 6, (some .boolean), 8, []),
  (⟨"SlipRoomModel", "thrown", "()I"⟩, prog_12_method_2_code, 1, (some .int), 9, []),
  (⟨"SlipRoomModel", "fail", "(I)I"⟩, prog_12_method_3_code, 2, (some .int), 9, []),
  (⟨"SlipRoomModel", "isIn", "(III)Z"⟩, prog_12_method_4_code, 3, (some .boolean), 9, []),
  (⟨"SlipRoomModel", "isBook", "(I)Z"⟩, prog_12_method_5_code, 2, (some .boolean), 9, []),
  (⟨"SlipRoomModel", "isReader", "(I)Z"⟩, prog_12_method_6_code, 2, (some .boolean), 9, []),
  (⟨"SlipRoomModel", "feed", "(IIIII)I"⟩, prog_12_method_7_code, 8, (some .int), 9, []),
  (⟨"SlipRoomModel", "byteAt", "(I)I"⟩, prog_12_method_8_code, 2, (some .int), 9, []),
  (⟨"SlipRoomModel", "isLetter", "(I)Z"⟩, prog_12_method_9_code, 1, (some .boolean), 9, []),
  (⟨"SlipRoomModel", "isDigit", "(I)Z"⟩, prog_12_method_10_code, 1, (some .boolean), 9, []),
  (⟨"SlipRoomModel", "isMark", "(I)Z"⟩, prog_12_method_11_code, 1, (some .boolean), 9, []),
  (⟨"SlipRoomModel", "stepOn", "()V"⟩, prog_12_method_12_code, 2, none, 9, []),
  (⟨"SlipRoomModel", "wrong", "(I)V"⟩, prog_12_method_13_code, 2, none, 9, []),
  (⟨"SlipRoomModel", "is", "(Ljava/lang/String;)Z"⟩, prog_12_method_14_code, 4, (some .boolean), 9, []),
  (⟨"SlipRoomModel", "isMarked", "(I)Z"⟩, prog_12_method_15_code, 2, (some .boolean), 9, []),
  (⟨"SlipRoomModel", "which", "([Ljava/lang/String;)I"⟩, prog_12_method_16_code, 3, (some .int), 9, []),
  (⟨"SlipRoomModel", "passes", "(Ljava/lang/String;)Z"⟩, prog_12_method_17_code, 3, (some .boolean), 9, []),
  (⟨"SlipRoomModel", "mark", "(I)V"⟩, prog_12_method_18_code, 2, none, 9, []),
  (⟨"SlipRoomModel", "readNumber", "(II)I"⟩, prog_12_method_19_code, 4, (some .int), 9, []),
  (⟨"SlipRoomModel", "lay", "(I)V"⟩, prog_12_method_20_code, 2, none, 9, []),
  (⟨"SlipRoomModel", "readPart", "(I)V"⟩, prog_12_method_21_code, 3, none, 9, []),
  (⟨"SlipRoomModel", "readProduct", "(I)V"⟩, prog_12_method_22_code, 3, none, 9, []),
  (⟨"SlipRoomModel", "readSum", "(I)V"⟩, prog_12_method_23_code, 3, none, 9, []),
  (⟨"SlipRoomModel", "readNot", "(I)V"⟩, prog_12_method_24_code, 4, none, 9, []),
  (⟨"SlipRoomModel", "readAnd", "(I)V"⟩, prog_12_method_25_code, 2, none, 9, []),
  (⟨"SlipRoomModel", "readExpression", "(I)V"⟩, prog_12_method_26_code, 3, none, 9, []),
  (⟨"SlipRoomModel", "readBook", "()V"⟩, prog_12_method_27_code, 2, none, 9, []),
  (⟨"SlipRoomModel", "readReader", "()V"⟩, prog_12_method_28_code, 2, none, 9, []),
  (⟨"SlipRoomModel", "room", "(I)I"⟩, prog_12_method_29_code, 2, (some .int), 9, []),
  (⟨"SlipRoomModel", "take", "()V"⟩, prog_12_method_30_code, 2, none, 9, []),
  (⟨"SlipRoomModel", "fault", "()I"⟩, prog_12_method_31_code, 1, (some .int), 9, []),
  (⟨"SlipRoomModel", "count", "(I)I"⟩, prog_12_method_32_code, 2, (some .int), 9, []),
  (⟨"SlipRoomModel", "pair", "(II)I"⟩, prog_12_method_33_code, 2, (some .int), 9, []),
  (⟨"SlipRoomModel", "hasRead", "(III)Z"⟩, prog_12_method_34_code, 4, (some .boolean), 9, []),
  (⟨"SlipRoomModel", "unopened", "(I)I"⟩, prog_12_method_35_code, 6, (some .int), 9, []),
  (⟨"SlipRoomModel", "slipsIn", "(I)I"⟩, prog_12_method_36_code, 4, (some .int), 9, []),
  (⟨"SlipRoomModel", "book", "(II)I"⟩, prog_12_method_37_code, 3, (some .int), 9, []),
  (⟨"SlipRoomModel", "reader", "(II)I"⟩, prog_12_method_38_code, 3, (some .int), 9, []),
  (⟨"SlipRoomModel", "reckon", "(III)I"⟩, prog_12_method_39_code, 3, (some .int), 9, []),
  (⟨"SlipRoomModel", "stops", "(IIIII)Z"⟩, prog_12_method_40_code, 9, (some .boolean), 9, []),
  (⟨"SlipRoomModel", "turnPage", "(IIII)V"⟩, prog_12_method_41_code, 5, none, 9, []),
  (⟨"SlipRoomModel", "readOf", "(II)I"⟩, prog_12_method_42_code, 5, (some .int), 9, []),
  (⟨"SlipRoomModel", "beginOf", "(II)I"⟩, prog_12_method_43_code, 5, (some .int), 9, []),
  (⟨"SlipRoomModel", "loan", "(IIII)I"⟩, prog_12_method_44_code, 11, (some .int), 9, []),
  (⟨"SlipRoomModel", "lent", "(II)I"⟩, prog_12_method_45_code, 3, (some .int), 9, []),
  (⟨"SlipRoomModel", "drop", "(III)I"⟩, prog_12_method_46_code, 9, (some .int), 9, []),
  (⟨"SlipRoomModel", "slip", "(II)I"⟩, prog_12_method_47_code, 3, (some .int), 9, []),
  (⟨"SlipRoomModel", "inARow", "(II)I"⟩, prog_12_method_48_code, 4, (some .int), 9, []),
  (⟨"SlipRoomModel", "read", "(III)I"⟩, prog_12_method_49_code, 4, (some .int), 9, []),
  (⟨"SlipRoomModel", "has", "(III)Z"⟩, prog_12_method_50_code, 4, (some .boolean), 9, []),
  (⟨"SlipRoomModel", "ahead", "(III)I"⟩, prog_12_method_51_code, 4, (some .int), 9, []),
  (⟨"SlipRoomModel", "looksOf", "(I)I"⟩, prog_12_method_52_code, 4, (some .int), 9, []),
  (⟨"SlipRoomModel", "look", "(IIII)I"⟩, prog_12_method_53_code, 5, (some .int), 9, []),
  (⟨"SlipRoomModel", "lentBetween", "(IIII)I"⟩, prog_12_method_54_code, 7, (some .int), 9, []),
  (⟨"SlipRoomModel", "begunBetween", "(IIII)I"⟩, prog_12_method_55_code, 7, (some .int), 9, []),
  (⟨"SlipRoomModel", "layLooks", "(II)V"⟩, prog_12_method_56_code, 5, none, 9, []),
  (⟨"SlipRoomModel", "mayHave", "(III)Z"⟩, prog_12_method_57_code, 9, (some .boolean), 9, []),
  (⟨"SlipRoomModel", "tellWay", "()V"⟩, prog_12_method_58_code, 4, none, 9, []),
  (⟨"SlipRoomModel", "wayOn", "(II)V"⟩, prog_12_method_59_code, 4, none, 9, []),
  (⟨"SlipRoomModel", "tellWays", "(II)V"⟩, prog_12_method_60_code, 4, none, 9, []),
  (⟨"SlipRoomModel", "ways", "(I)I"⟩, prog_12_method_61_code, 2, (some .int), 9, []),
  (⟨"SlipRoomModel", "whose", "(II)I"⟩, prog_12_method_62_code, 4, (some .int), 9, []),
  (⟨"SlipRoomModel", "ends", "(III)I"⟩, prog_12_method_63_code, 4, (some .int), 9, []),
  (⟨"SlipRoomModel", "moved", "(I)I"⟩, prog_12_method_64_code, 4, (some .int), 9, []),
  (⟨"SlipRoomModel", "wish", "(III)I"⟩, prog_12_method_65_code, 4, (some .int), 9, []),
  (⟨"SlipRoomModel", "orderOn", "(IIII)V"⟩, prog_12_method_66_code, 7, none, 9, []),
  (⟨"SlipRoomModel", "waiting", "()I"⟩, prog_12_method_67_code, 1, (some .int), 9, []),
  (⟨"SlipRoomModel", "turn", "(I)I"⟩, prog_12_method_68_code, 2, (some .int), 9, []),
  (⟨"SlipRoomModel", "tale", "(III)Z"⟩, prog_12_method_69_code, 4, (some .boolean), 9, []),
  (⟨"SlipRoomModel", "bitsOf", "(I)I"⟩, prog_12_method_70_code, 3, (some .int), 9, []),
  (⟨"SlipRoomModel", "settlesBy", "(II)I"⟩, prog_12_method_71_code, 7, (some .int), 9, []),
  (⟨"SlipRoomModel", "settle", "(II)I"⟩, prog_12_method_72_code, 7, (some .int), 9, []),
  (⟨"SlipRoomModel", "keep", "([I)V"⟩, prog_12_method_73_code, 3, none, 9, []),
  (⟨"SlipRoomModel", "giveBack", "([I)V"⟩, prog_12_method_74_code, 3, none, 9, []),
  (⟨"SlipRoomModel", "image", "()V"⟩, prog_12_method_75_code, 2, none, 9, []),
  (⟨"SlipRoomModel", "restore", "()Z"⟩, prog_12_method_76_code, 2, (some .boolean), 9, []),
  (⟨"java/lang/Integer", "bitCount", "(I)I"⟩, prog_19_method_49_code, 1, (some .int), 12, []),
  (⟨"java/lang/Long", "bitCount", "(J)I"⟩, prog_20_method_50_code, 2, (some .int), 13, []),
  (⟨"java/lang/Math", "max", "(II)I"⟩, prog_21_method_65_code, 2, (some .int), 14, []),
  (⟨"java/lang/Math", "min", "(II)I"⟩, prog_21_method_69_code, 2, (some .int), 14, []),
  (⟨"java/util/Arrays", "fill", "([JJ)V"⟩, prog_30_method_101_code, 5, none, 15, []),
  (⟨"java/util/Arrays", "fill", "([II)V"⟩, prog_30_method_103_code, 4, none, 15, []),
  (⟨"SlipRoomLaw", "room", "(LSlipRoom;I[J)I"⟩, method_3_code, 4, (some .int), 11, [(1, 1)]),
  (⟨"SlipRoomLaw", "count", "(LSlipRoom;I[J)I"⟩, method_4_code, 4, (some .int), 11, [(0, 1)]),
  (⟨"SlipRoomLaw", "book", "(LSlipRoom;II[J)I"⟩, method_5_code, 5, (some .int), 11, [(0, 1)]),
  (⟨"SlipRoomLaw", "reader", "(LSlipRoom;II[J)I"⟩, method_6_code, 5, (some .int), 11, [(0, 1)]),
  (⟨"SlipRoomLaw", "loan", "(LSlipRoom;IIII[J)I"⟩, method_7_code, 7, (some .int), 11, [(0, 1)]),
  (⟨"SlipRoomLaw", "lent", "(LSlipRoom;II[J)I"⟩, method_8_code, 5, (some .int), 11, [(0, 1)]),
  (⟨"SlipRoomLaw", "drop", "(LSlipRoom;III[J)I"⟩, method_9_code, 6, (some .int), 11, [(0, 1)]),
  (⟨"SlipRoomLaw", "slip", "(LSlipRoom;II[J)I"⟩, method_10_code, 5, (some .int), 11, [(0, 1)]),
  (⟨"SlipRoomLaw", "read", "(LSlipRoom;III[J)I"⟩, method_11_code, 6, (some .int), 11, [(0, 1)]),
  (⟨"SlipRoomLaw", "has", "(LSlipRoom;III[J)I"⟩, method_12_code, 6, (some .int), 11, [(0, 1)]),
  (⟨"SlipRoomLaw", "ahead", "(LSlipRoom;III[J)I"⟩, method_13_code, 6, (some .int), 11, [(0, 1)]),
  (⟨"SlipRoomLaw", "look", "(LSlipRoom;IIII[J)I"⟩, method_14_code, 7, (some .int), 11, [(0, 1)]),
  (⟨"SlipRoomLaw", "ways", "(LSlipRoom;I[J)I"⟩, method_15_code, 4, (some .int), 11, [(0, 1)]),
  (⟨"SlipRoomLaw", "whose", "(LSlipRoom;II[J)I"⟩, method_16_code, 5, (some .int), 11, [(0, 1)]),
  (⟨"SlipRoomLaw", "ends", "(LSlipRoom;III[J)I"⟩, method_17_code, 6, (some .int), 11, [(0, 1)]),
  (⟨"SlipRoomLaw", "moved", "(LSlipRoom;I[J)I"⟩, method_18_code, 4, (some .int), 11, [(0, 1)]),
  (⟨"SlipRoomLaw", "wish", "(LSlipRoom;III[J)I"⟩, method_19_code, 6, (some .int), 11, [(0, 1)]),
  (⟨"SlipRoomLaw", "turn", "(LSlipRoom;I[J)I"⟩, method_20_code, 4, (some .int), 11, [(0, 1)]),
  (⟨"SlipRoomLaw", "tale", "(LSlipRoom;III[J)I"⟩, method_21_code, 6, (some .int), 11, [(0, 1)]),
  (⟨"SlipRoomLaw", "settle", "(LSlipRoom;II[J)I"⟩, method_22_code, 5, (some .int), 11, [(0, 1), (1, 2)]),
  (⟨"SlipRoomLaw", "law", "([I)Z"⟩, code, 7, (some .boolean), 11, [])]
/-- messages and texts by their entries -/
def z_msgs : List (Nat × String) := [(89, "the tape has not so many bytes"), (151, "a book has no such number"), (172, "a reader has no such number"), (203, "there is no such loan or number"), (225, "reading has no such number"), (227, "there is no such page"), (232, "there are no two slips"), (248, "there is no such look or number"), (259, "an end is the least or the greatest"), (278, "the order has no such turn"), (286, "settling has no such number"), (288, "there are no such tales"), (304, "there is no such book"), (306, "there is no such reader"), (308, "there is no such count")]
def z_strs : List (Nat × String × Nat) := [(21, "book", 1201), (278, "not", 1210), (286, "and", 1209), (291, "or", 1208), (296, "parts", 1202), (303, "colour", 1204), (304, "back", 1205), (305, "ends", 1206), (306, "stops", 1207), (314, "reader", 1203)]
/-- the handlers as the tables have them -/
def z_hh : List (List (Nat × Nat × Nat × Nat)) := [[], [], [], [], [], [], [], [], [], [], [], [], [], [], [], [], [], [], [], [], [], [], [], [], [], [], [], [], [], [], [], [], [], [], [], [], [], [], [], [], [], [], [], [], [], [], [], [], [], [], [], [], [], [], [], [], [], [], [], [], [], [], [], [], [], [], [], [], [], [], [], [], [], [], [], [], [], [], [], [], [], [], [], [], [], [], [], [], [], [], [], [], [], [], [], [], [], [], [], [], [], [], [], [], [], [], [], [], [], [], [], [], [], [], [], [], [], [], [], [], [], [], [], [], [], [], [], [], [], [], [], [], [], [], [], [], [], [], [], [], [], [], [], [], [], [], [], [], [], [], [], [], [], [], [], [], [], [], [], [], [], [], [], [], [], [], [], [], [], [], [], [], [], [], [], [], [], [], [], [], [], [], [], [], [], [], [], [], [], [], [], [((0), (9), (12), (13))], [((0), (9), (12), (18))], [((0), (10), (13), (18))], [((0), (10), (13), (18))], [((0), (14), (17), (18))], [((0), (10), (13), (18))], [((0), (12), (15), (18))], [((0), (10), (13), (18))], [((0), (12), (15), (18))], [((0), (19), (22), (18))], [((0), (12), (15), (18))], [((0), (14), (17), (18))], [((0), (9), (12), (18))], [((0), (10), (13), (18))], [((0), (12), (15), (18))], [((0), (9), (12), (18))], [((0), (12), (15), (18))], [((0), (9), (12), (18))], [((0), (19), (22), (18))], [((0), (10), (13), (18)), ((0), (10), (17), (13))], []]
/-- the places of a method's words in the tables: code, static or not, selects, class; its parameters -/
def z_mi : List (Nat × Nat × Nat × Nat × Nat) := [(878, 876, 877, 91, 3), (883, 882, 25, 91, 1), (894, 893, 0, 91, 3), (891, 890, 27, 91, 1), (887, 886, 26, 91, 0), (751, 749, 750, 90, 0), (489, 487, 488, 90, 1), (862, 860, 861, 90, 2), (858, 856, 857, 90, 4), (805, 803, 804, 90, 1), (935, 933, 934, 90, 2), (939, 937, 938, 90, 2), (898, 896, 897, 90, 6), (818, 816, 817, 90, 1), (917, 915, 916, 90, 3), (976, 974, 975, 90, 4), (968, 966, 967, 90, 1), (972, 970, 971, 90, 1), (996, 994, 995, 90, 1), (1000, 998, 999, 90, 1), (1004, 1002, 1003, 90, 1), (1104, 1102, 1103, 90, 2), (572, 570, 571, 86, 2), (747, 745, 746, 86, 0), (672, 671, 7, 86, 1), (668, 667, 6, 86, 0), (697, 696, 11, 86, 0), (687, 686, 9, 86, 1), (691, 690, 10, 86, 1), (681, 680, 8, 86, 2), (709, 708, 12, 86, 2), (719, 718, 14, 86, 2), (723, 722, 15, 86, 1), (713, 712, 13, 86, 0), (727, 726, 16, 86, 0), (576, 574, 575, 85, 0), (731, 729, 730, 85, 1), (854, 852, 853, 85, 2), (1132, 1130, 1131, 94, 3), (1136, 1135, 39, 94, 3), (1146, 1145, 40, 94, 3), (1149, 1148, 0, 94, 4), (987, 985, 986, 92, 3), (1033, 1031, 1032, 92, 0), (1054, 1052, 1053, 92, 1), (1081, 1079, 1080, 92, 2), (1092, 1090, 1091, 92, 0), (1018, 1017, 31, 92, 0), (992, 991, 28, 92, 2), (1009, 1008, 29, 92, 3), (1014, 1013, 30, 92, 1), (1025, 1024, 32, 92, 2), (1029, 1028, 33, 92, 3), (1021, 1020, 0, 92, 1), (1037, 1036, 34, 92, 1), (1041, 1040, 35, 92, 1), (1066, 1065, 38, 92, 2), (1058, 1057, 36, 92, 2), (1062, 1061, 37, 92, 2), (580, 578, 579, 87, 1), (676, 674, 675, 87, 0), (587, 585, 586, 87, 0), (735, 733, 734, 87, 0), (743, 741, 742, 87, 0), (591, 590, 3, 87, 0), (598, 597, 4, 87, 0), (659, 658, 5, 87, 0), (594, 593, 0, 87, 1), (655, 654, 0, 87, 1), (662, 661, 0, 87, 1), (761, 759, 760, 93, 0), (470, 468, 469, 93, 1), (475, 474, 1, 93, 5), (601, 600, 0, 89, 3), (454, 452, 453, 84, 5), (502, 500, 501, 84, 1), (462, 460, 461, 84, 0), (769, 767, 768, 84, 1), (796, 794, 795, 84, 2), (826, 824, 825, 84, 2), (839, 837, 838, 84, 4), (905, 903, 904, 84, 2), (913, 911, 912, 84, 3), (924, 922, 923, 84, 2), (931, 929, 930, 84, 3), (947, 945, 946, 84, 3), (956, 954, 955, 84, 3), (964, 962, 963, 84, 4), (983, 981, 982, 84, 1), (1048, 1046, 1047, 84, 2), (1076, 1074, 1075, 84, 3), (1088, 1086, 1087, 84, 1), (1100, 1098, 1099, 84, 3), (466, 464, 465, 84, 0), (1111, 1109, 1110, 84, 1), (1119, 1117, 1118, 84, 3), (1126, 1124, 1125, 84, 2), (485, 483, 484, 84, 0), (494, 492, 493, 84, 0), (458, 457, 0, 84, 1), (800, 799, 18, 84, 1), (830, 829, 19, 84, 1), (773, 772, 17, 84, 1), (808, 807, 0, 84, 2), (1069, 1068, 0, 84, 1), (843, 842, 20, 84, 4), (848, 847, 21, 84, 2), (866, 865, 22, 84, 5), (870, 869, 23, 84, 5), (874, 873, 24, 84, 5), (1383, 1381, 1382, 95, 0), (1395, 1394, 41, 95, 1), (1504, 1503, 0, 95, 3), (1512, 1511, 61, 95, 1), (1535, 1534, 65, 95, 1), (1387, 1385, 1386, 95, 5), (1403, 1402, 43, 95, 1), (1406, 1405, 0, 95, 1), (1409, 1408, 0, 95, 1), (1414, 1413, 0, 95, 1), (1399, 1398, 42, 95, 0), (1428, 1427, 46, 95, 1), (1418, 1417, 44, 95, 1), (1454, 1453, 51, 95, 1), (1483, 1482, 58, 95, 1), (1437, 1436, 48, 95, 1), (1487, 1486, 59, 95, 1), (1432, 1431, 47, 95, 2), (1479, 1478, 57, 95, 1), (1475, 1474, 56, 95, 1), (1471, 1470, 55, 95, 1), (1467, 1466, 54, 95, 1), (1462, 1461, 53, 95, 1), (1458, 1457, 52, 95, 1), (1450, 1449, 50, 95, 1), (1424, 1423, 45, 95, 0), (1442, 1441, 49, 95, 0), (1391, 1389, 1390, 95, 1), (1493, 1492, 60, 95, 0), (1497, 1495, 1496, 95, 0), (1501, 1499, 1500, 95, 1), (1523, 1522, 0, 95, 2), (1520, 1519, 63, 95, 3), (1516, 1515, 62, 95, 1), (1527, 1526, 64, 95, 1), (1508, 1506, 1507, 95, 2), (1531, 1529, 1530, 95, 2), (1559, 1558, 0, 95, 3), (1556, 1555, 69, 95, 5), (1543, 1542, 66, 95, 4), (1547, 1546, 67, 95, 2), (1551, 1550, 68, 95, 2), (1539, 1537, 1538, 95, 4), (1563, 1561, 1562, 95, 2), (1567, 1565, 1566, 95, 3), (1571, 1569, 1570, 95, 2), (1579, 1578, 70, 95, 2), (1575, 1573, 1574, 95, 3), (1583, 1581, 1582, 95, 3), (1587, 1585, 1586, 95, 3), (1595, 1594, 71, 95, 1), (1591, 1589, 1590, 95, 4), (1623, 1622, 77, 95, 4), (1627, 1626, 78, 95, 4), (1607, 1606, 73, 95, 2), (1619, 1618, 76, 95, 3), (1615, 1614, 75, 95, 0), (1611, 1610, 74, 95, 2), (1603, 1602, 72, 95, 2), (1599, 1597, 1598, 95, 1), (1631, 1629, 1630, 95, 2), (1635, 1633, 1634, 95, 3), (1639, 1637, 1638, 95, 1), (1643, 1641, 1642, 95, 3), (1651, 1650, 79, 95, 4), (1647, 1645, 1646, 95, 0), (1655, 1653, 1654, 95, 1), (1659, 1657, 1658, 95, 3), (1666, 1665, 0, 95, 1), (1670, 1669, 80, 95, 2), (1663, 1661, 1662, 95, 2), (1678, 1677, 81, 95, 1), (1686, 1685, 82, 95, 1), (1674, 1672, 1673, 95, 0), (1682, 1680, 1681, 95, 0), (1139, 1138, 0, 109, 1), (811, 810, 0, 107, 1), (481, 480, 0, 100, 2), (583, 582, 0, 100, 2), (757, 756, 0, 105, 2), (754, 753, 0, 105, 2), (497, 496, 0, 83, 3), (764, 763, 0, 83, 3), (792, 791, 0, 83, 4), (822, 821, 0, 83, 4), (835, 834, 0, 83, 6), (901, 900, 0, 83, 4), (909, 908, 0, 83, 5), (920, 919, 0, 83, 4), (927, 926, 0, 83, 5), (943, 942, 0, 83, 5), (952, 951, 0, 83, 5), (960, 959, 0, 83, 6), (979, 978, 0, 83, 3), (1044, 1043, 0, 83, 4), (1072, 1071, 0, 83, 5), (1084, 1083, 0, 83, 3), (1096, 1095, 0, 83, 5), (1107, 1106, 0, 83, 3), (1115, 1114, 0, 83, 5), (1122, 1121, 0, 83, 4), (0, 0, 0, 0, 1)]
