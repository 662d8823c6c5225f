/-! THE PROGRAM: its classes, its methods, its code, resolved. Printed by wip/whole/tools/gen_tab.py. -/
def xT0 : u_T := fun k => match k with
  | 0 => ("OneBoots$Hours", "words", "[J", true)
  | 1 => ("OneBoots$Hours", "stack", "[J", true)
  | 2 => ("OneBoots$Hours", "lane", "LOneBoots$Lane;", true)
  | 3 => ("OneBoots$Hours", "rule", "LOneBoots$Rule;", false)
  | 4 => ("OneBoots$Hours", "second", "I", false)
  | _ => ("OneBoots$Hours", "froze", "I", false)
def xT1 : u_T := fun k => match k with
  | 0 => ("OneBoots$Image", "lane", "LOneBoots$Lane;", true)
  | 1 => ("OneBoots$Image", "world", "LOneBoots$World;", true)
  | 2 => ("OneBoots$Image", "prints", "LOneBoots$Prints;", true)
  | 3 => ("OneBoots$Image", "inForce", "I", false)
  | _ => ("OneBoots$Image", "x", "I", false)
def xT2 : u_T := fun k => match k with
  | 0 => ("OneBoots$Lane", "wet", "[I", true)
  | 1 => ("OneBoots$Lane", "home", "[I", true)
  | 2 => ("OneBoots$Lane", "sizes", "[I", true)
  | 3 => ("OneBoots$Lane", "frostRows", "[I", true)
  | 4 => ("OneBoots$Lane", "wantRows", "[I", true)
  | 5 => ("OneBoots$Lane", "numbers", "[I", true)
  | 6 => ("OneBoots$Lane", "places", "I", false)
  | 7 => ("OneBoots$Lane", "size", "I", false)
  | 8 => ("OneBoots$Lane", "sole", "I", false)
  | 9 => ("OneBoots$Lane", "bootsAt", "I", false)
  | 10 => ("OneBoots$Lane", "brothers", "I", false)
  | 11 => ("OneBoots$Lane", "frosts", "I", false)
  | _ => ("OneBoots$Lane", "wants", "I", false)
def xT3 : u_T := fun k => match k with
  | 0 => ("OneBoots$Past", "rows", "[I", true)
  | 1 => ("OneBoots$Past", "next", "I", false)
  | _ => ("OneBoots$Past", "number", "I", false)
def xT4 : u_T := fun k => match k with
  | 0 => ("OneBoots$Prints", "rows", "[I", true)
  | _ => ("OneBoots$Prints", "number", "I", false)
def xT5 : u_T := fun k => match k with
  | 0 => ("OneBoots$Relays", "worlds", "[LOneBoots$World;", true)
  | 1 => ("OneBoots$Relays", "row", "[I", true)
  | 2 => ("OneBoots$Relays", "found", "Z", false)
  | 3 => ("OneBoots$Relays", "leastChill", "I", false)
  | 4 => ("OneBoots$Relays", "names", "[I", true)
  | _ => ("OneBoots$Relays", "most", "I", false)
def xT6 : u_T := fun k => match k with
  | 0 => ("OneBoots$Rule", "steps", "[I", true)
  | _ => ("OneBoots$Rule", "ends", "[I", true)
def xT7 : u_T := fun k => match k with
  | 0 => ("OneBoots$RuleReader", "steps", "[I", true)
  | 1 => ("OneBoots$RuleReader", "ends", "[I", true)
  | 2 => ("OneBoots$RuleReader", "stepCount", "I", false)
  | 3 => ("OneBoots$RuleReader", "clauseCount", "I", false)
  | _ => ("OneBoots$RuleReader", "partCount", "I", false)
def xT8 : u_T := fun k => match k with
  | 0 => ("OneBoots$Tape", "bytes", "[B", true)
  | 1 => ("OneBoots$Tape", "length", "I", false)
  | 2 => ("OneBoots$Tape", "fault", "I", false)
  | 3 => ("OneBoots$Tape", "kind", "I", false)
  | 4 => ("OneBoots$Tape", "start", "I", false)
  | 5 => ("OneBoots$Tape", "stop", "I", false)
  | _ => ("OneBoots$Tape", "value", "I", false)
def xT9 : u_T := fun k => match k with
  | 0 => ("OneBoots$Trials", "trial", "LOneBoots$World;", true)
  | 1 => ("OneBoots$Trials", "alike", "[I", true)
  | 2 => ("OneBoots$Trials", "cobbledCost", "[I", true)
  | 3 => ("OneBoots$Trials", "who", "I", false)
  | _ => ("OneBoots$Trials", "draw", "I", false)
def xT10 : u_T := fun k => match k with
  | _ => ("OneBoots$World", "cells", "[I", true)
def xT11 : u_T := fun k => match k with
  | 0 => ("OneBoots", "tape", "LOneBoots$Tape;", true)
  | 1 => ("OneBoots", "ruleReader", "LOneBoots$RuleReader;", true)
  | 2 => ("OneBoots", "rules", "[LOneBoots$Rule;", true)
  | 3 => ("OneBoots", "images", "[LOneBoots$Image;", true)
  | 4 => ("OneBoots", "now", "LOneBoots$World;", true)
  | 5 => ("OneBoots", "past", "LOneBoots$Past;", true)
  | 6 => ("OneBoots", "prints", "LOneBoots$Prints;", true)
  | 7 => ("OneBoots", "hours", "LOneBoots$Hours;", true)
  | 8 => ("OneBoots", "trials", "LOneBoots$Trials;", true)
  | 9 => ("OneBoots", "relays", "LOneBoots$Relays;", true)
  | 10 => ("OneBoots", "laneNow", "LOneBoots$Lane;", true)
  | 11 => ("OneBoots", "laneRead", "LOneBoots$Lane;", true)
  | 12 => ("OneBoots", "ruleCount", "I", false)
  | 13 => ("OneBoots", "inForce", "I", false)
  | _ => ("OneBoots", "x", "I", false)
def xT12 : u_T := fun k => match k with
  | 0 => ("OneBootsModel", "tape", "[B", true)
  | 1 => ("OneBootsModel", "taped", "I", false)
  | 2 => ("OneBootsModel", "rules", "I", false)
  | 3 => ("OneBootsModel", "sign", "[I", true)
  | 4 => ("OneBootsModel", "length", "[I", true)
  | 5 => ("OneBootsModel", "clause", "[I", true)
  | 6 => ("OneBootsModel", "clauses", "[I", true)
  | 7 => ("OneBootsModel", "read", "[I", true)
  | 8 => ("OneBootsModel", "next", "I", false)
  | 9 => ("OneBootsModel", "wrong", "I", false)
  | 10 => ("OneBootsModel", "number", "I", false)
  | 11 => ("OneBootsModel", "text", "I", false)
  | 12 => ("OneBootsModel", "made", "I", false)
  | 13 => ("OneBootsModel", "deep", "I", false)
  | 14 => ("OneBootsModel", "lines", "I", false)
  | 15 => ("OneBootsModel", "open", "[I", true)
  | 16 => ("OneBootsModel", "opened", "I", false)
  | 17 => ("OneBootsModel", "stack", "[J", true)
  | 18 => ("OneBootsModel", "top", "I", false)
  | 19 => ("OneBootsModel", "word", "[J", true)
  | 20 => ("OneBootsModel", "said", "[I", true)
  | 21 => ("OneBootsModel", "force", "I", false)
  | 22 => ("OneBootsModel", "x", "I", false)
  | 23 => ("OneBootsModel", "second", "I", false)
  | 24 => ("OneBootsModel", "isFrostDrawn", "Z", false)
  | 25 => ("OneBootsModel", "becameFrozen", "I", false)
  | 26 => ("OneBootsModel", "wasSaid", "[I", true)
  | 27 => ("OneBootsModel", "undone", "I", false)
  | 28 => ("OneBootsModel", "kept", "[I", true)
  | 29 => ("OneBootsModel", "lentWho", "I", false)
  | 30 => ("OneBootsModel", "lentMuch", "I", false)
  | 31 => ("OneBootsModel", "relayPay", "I", false)
  | 32 => ("OneBootsModel", "relayChill", "I", false)
  | 33 => ("OneBootsModel", "mostAt", "[I", true)
  | 34 => ("OneBootsModel", "costFrom", "[I", true)
  | 35 => ("OneBootsModel", "drawX", "J", false)
  | 36 => ("OneBootsModel", "images", "[I", true)
  | 37 => ("OneBootsModel", "imageForce", "[I", true)
  | 38 => ("OneBootsModel", "imageX", "[I", true)
  | _ => ("OneBootsModel", "isMade", "[Z", true)
def xcls : List vw_C := [("OneBoots$Hours", xT0, 6), ("OneBoots$Image", xT1, 5), ("OneBoots$Lane", xT2, 13), ("OneBoots$Past", xT3, 3),
  ("OneBoots$Prints", xT4, 2), ("OneBoots$Relays", xT5, 6), ("OneBoots$Rule", xT6, 2), ("OneBoots$RuleReader", xT7, 5),
  ("OneBoots$Tape", xT8, 7), ("OneBoots$Trials", xT9, 5), ("OneBoots$World", xT10, 1), ("OneBoots", xT11, 15),
  ("OneBootsModel", xT12, 40)]
def xftyL : List (List FieldType) := [[.array .long, .array .long, .object "OneBoots$Lane", .object "OneBoots$Rule", .int, .int],
  [.object "OneBoots$Lane", .object "OneBoots$World", .object "OneBoots$Prints", .int, .int],
  [.array .int, .array .int, .array .int, .array .int, .array .int, .array .int, .int, .int, .int, .int, .int, .int, .int],
  [.array .int, .int, .int],
  [.array .int, .int],
  [.array (.object "OneBoots$World"), .array .int, .boolean, .int, .array .int, .int],
  [.array .int, .array .int],
  [.array .int, .array .int, .int, .int, .int],
  [.array .byte, .int, .int, .int, .int, .int, .int],
  [.object "OneBoots$World", .array .int, .array .int, .int, .int],
  [.array .int],
  [.object "OneBoots$Tape", .object "OneBoots$RuleReader", .array (.object "OneBoots$Rule"), .array (.object "OneBoots$Image"), .object "OneBoots$World", .object "OneBoots$Past", .object "OneBoots$Prints", .object "OneBoots$Hours", .object "OneBoots$Trials", .object "OneBoots$Relays", .object "OneBoots$Lane", .object "OneBoots$Lane", .int, .int, .int],
  [.array .byte, .int, .int, .array .int, .array .int, .array .int, .array .int, .array .int, .int, .int, .int, .int, .int, .int, .int, .array .int, .int, .array .long, .int, .array .long, .array .int, .int, .int, .int, .boolean, .int, .array .int, .int, .array .int, .int, .int, .int, .int, .array .int, .array .int, .long, .array .int, .array .int, .array .int, .array .boolean]]
def xfty (ci : Nat) : List FieldType := xftyL.getD ci []
def xacl (t : Nat) : Nat := if t = 4 then 6 else if t = 5 then 1 else if t = 6 then 10 else 0
def xynL : List MethodName := [⟨"OneBoots$Hours", "<init>", "()V"⟩, ⟨"OneBoots$Hours", "pass", "(LOneBoots$World;Z)I"⟩, ⟨"OneBoots$Hours", "pay", "(LOneBoots$World;)I"⟩, ⟨"OneBoots$Hours", "walk", "(LOneBoots$World;IZ)V"⟩,
  ⟨"OneBoots$Hours", "fillWords", "(LOneBoots$World;IZ)V"⟩, ⟨"OneBoots$Hours", "chill", "(LOneBoots$World;IZ)V"⟩, ⟨"OneBoots$Hours", "bareFeet", "(LOneBoots$World;I)I"⟩, ⟨"OneBoots$Hours", "turn", "(LOneBoots$World;)V"⟩,
  ⟨"OneBoots$Image", "<init>", "()V"⟩, ⟨"OneBoots$Lane", "<init>", "()V"⟩, ⟨"OneBoots$Lane", "copyFrom", "(LOneBoots$Lane;)V"⟩, ⟨"OneBoots$Lane", "fits", "(I)Z"⟩,
  ⟨"OneBoots$Lane", "hasFrost", "(I)Z"⟩, ⟨"OneBoots$Lane", "nextWant", "(II)I"⟩, ⟨"OneBoots$Lane", "goalOf", "(II)I"⟩, ⟨"OneBoots$Lane", "read", "(LOneBoots$Tape;)Z"⟩,
  ⟨"OneBoots$Lane", "clear", "()V"⟩, ⟨"OneBoots$Lane", "fillUntold", "()V"⟩, ⟨"OneBoots$Lane", "mayStand", "(IZ)Z"⟩, ⟨"OneBoots$Lane", "readClause", "(LOneBoots$Tape;I)Z"⟩,
  ⟨"OneBoots$Lane", "readLane", "(LOneBoots$Tape;)Z"⟩, ⟨"OneBoots$Lane", "readBrother", "(LOneBoots$Tape;)Z"⟩, ⟨"OneBoots$Lane", "readWet", "(LOneBoots$Tape;)Z"⟩, ⟨"OneBoots$Lane", "readFrost", "(LOneBoots$Tape;)Z"⟩,
  ⟨"OneBoots$Lane", "readWant", "(LOneBoots$Tape;)Z"⟩, ⟨"OneBoots$Lane", "number", "(LOneBoots$Tape;III)Z"⟩, ⟨"OneBoots$Past", "<init>", "()V"⟩, ⟨"OneBoots$Past", "keep", "(LOneBoots$World;)V"⟩,
  ⟨"OneBoots$Past", "giveBack", "(LOneBoots$World;)Z"⟩, ⟨"OneBoots$Prints", "<init>", "()V"⟩, ⟨"OneBoots$Prints", "add", "(IIIZ)V"⟩, ⟨"OneBoots$Prints", "copyFrom", "(LOneBoots$Prints;)V"⟩,
  ⟨"OneBoots$Prints", "lastHour", "()I"⟩, ⟨"OneBoots$Prints", "agree", "(LOneBoots$World;II)Z"⟩, ⟨"OneBoots$Relays", "<init>", "()V"⟩, ⟨"OneBoots$Relays", "find", "(LOneBoots$Hours;LOneBoots$World;I)V"⟩,
  ⟨"OneBoots$Relays", "search", "(LOneBoots$Hours;III)V"⟩, ⟨"OneBoots$Relays", "takes", "(LOneBoots$World;I)Z"⟩, ⟨"OneBoots$Relays", "judge", "(II)V"⟩, ⟨"OneBoots$Rule", "<init>", "([I[I)V"⟩,
  ⟨"OneBoots$Rule", "way", "([J[J)J"⟩, ⟨"OneBoots$Rule", "run", "(II[J[J)J"⟩, ⟨"OneBoots$Rule", "joined", "(IJJ)J"⟩, ⟨"OneBoots$RuleReader", "<init>", "()V"⟩,
  ⟨"OneBoots$RuleReader", "made", "()LOneBoots$Rule;"⟩, ⟨"OneBoots$RuleReader", "read", "(LOneBoots$Tape;)Z"⟩, ⟨"OneBoots$RuleReader", "test", "(LOneBoots$Tape;I)Z"⟩, ⟨"OneBoots$RuleReader", "fact", "(LOneBoots$Tape;I)Z"⟩,
  ⟨"OneBoots$RuleReader", "inner", "(LOneBoots$Tape;IZ)Z"⟩, ⟨"OneBoots$RuleReader", "comparing", "(LOneBoots$Tape;)I"⟩, ⟨"OneBoots$RuleReader", "sum", "(LOneBoots$Tape;)Z"⟩, ⟨"OneBoots$RuleReader", "reckoning", "(LOneBoots$Tape;)I"⟩,
  ⟨"OneBoots$RuleReader", "value", "(LOneBoots$Tape;)Z"⟩, ⟨"OneBoots$RuleReader", "oneMorePart", "(LOneBoots$Tape;)Z"⟩, ⟨"OneBoots$RuleReader", "put", "(I)V"⟩, ⟨"OneBoots$Tape", "<init>", "()V"⟩,
  ⟨"OneBoots$Tape", "add", "(I)V"⟩, ⟨"OneBoots$Tape", "open", "()V"⟩, ⟨"OneBoots$Tape", "next", "()V"⟩, ⟨"OneBoots$Tape", "runEnd", "(ICC)I"⟩,
  ⟨"OneBoots$Tape", "isSign", "(I)Z"⟩, ⟨"OneBoots$Tape", "isTooLong", "()Z"⟩, ⟨"OneBoots$Tape", "wordIn", "(Ljava/lang/String;)I"⟩, ⟨"OneBoots$Tape", "isPart", "(Ljava/lang/String;II)Z"⟩,
  ⟨"OneBoots$Tape", "fail", "(I)Z"⟩, ⟨"OneBoots$Trials", "<init>", "()V"⟩, ⟨"OneBoots$Trials", "after", "(LOneBoots$Hours;LOneBoots$World;I)LOneBoots$World;"⟩, ⟨"OneBoots$Trials", "earn", "(LOneBoots$Hours;I)I"⟩,
  ⟨"OneBoots$Trials", "tryLent", "(LOneBoots$World;I)V"⟩, ⟨"OneBoots$Trials", "mostLent", "(LOneBoots$Hours;LOneBoots$World;II)I"⟩, ⟨"OneBoots$Trials", "secondBid", "(LOneBoots$Hours;LOneBoots$World;I)I"⟩, ⟨"OneBoots$Trials", "bySecond", "(LOneBoots$Hours;LOneBoots$World;II)I"⟩,
  ⟨"OneBoots$Trials", "winter", "(LOneBoots$Hours;LOneBoots$World;II)I"⟩, ⟨"OneBoots$Trials", "agreeing", "(LOneBoots$Hours;LOneBoots$Prints;)I"⟩, ⟨"OneBoots$Trials", "agrees", "(LOneBoots$Hours;LOneBoots$Prints;I)Z"⟩, ⟨"OneBoots$Trials", "fewestAlike", "(LOneBoots$Hours;II)I"⟩,
  ⟨"OneBoots$Trials", "see", "(LOneBoots$Lane;)V"⟩, ⟨"OneBoots$Trials", "leastCost", "(IIIIII)I"⟩, ⟨"OneBoots$Trials", "costUntilCobbled", "(IIIIIII)I"⟩, ⟨"OneBoots$World", "<init>", "()V"⟩,
  ⟨"OneBoots$World", "copyFrom", "(LOneBoots$World;)V"⟩, ⟨"OneBoots$World", "begin", "(LOneBoots$Lane;)V"⟩, ⟨"OneBoots$World", "dress", "(I)V"⟩, ⟨"OneBoots$World", "placeOfBoot", "(I)I"⟩,
  ⟨"OneBoots$World", "bootBitsOf", "(I)I"⟩, ⟨"OneBoots$World", "allEarned", "()I"⟩, ⟨"OneBoots$World", "allChill", "()I"⟩, ⟨"OneBoots$World", "sumOf", "(I)I"⟩,
  ⟨"OneBoots", "<init>", "()V"⟩, ⟨"OneBoots", "feed", "(IIIII)I"⟩, ⟨"OneBoots", "end", "(I)I"⟩, ⟨"OneBoots", "lane", "()I"⟩,
  ⟨"OneBoots", "rule", "()I"⟩, ⟨"OneBoots", "force", "(I)I"⟩, ⟨"OneBoots", "brother", "(II)I"⟩, ⟨"OneBoots", "boot", "(II)I"⟩,
  ⟨"OneBoots", "wet", "(I)I"⟩, ⟨"OneBoots", "hour", "()I"⟩, ⟨"OneBoots", "wear", "(II)I"⟩, ⟨"OneBoots", "off", "(I)I"⟩,
  ⟨"OneBoots", "cobble", "(I)I"⟩, ⟨"OneBoots", "undo", "()I"⟩, ⟨"OneBoots", "ahead", "(III)I"⟩, ⟨"OneBoots", "lend", "(II)I"⟩,
  ⟨"OneBoots", "worth", "(II)I"⟩, ⟨"OneBoots", "bids", "(I)I"⟩, ⟨"OneBoots", "relay", "(II)I"⟩, ⟨"OneBoots", "print", "(IIIZ)I"⟩,
  ⟨"OneBoots", "feet", "(I)I"⟩, ⟨"OneBoots", "look", "(II)I"⟩, ⟨"OneBoots", "cobbler", "(IIIIII)I"⟩, ⟨"OneBoots", "second", "(III)I"⟩,
  ⟨"OneBoots", "seed", "(I)I"⟩, ⟨"OneBoots", "winters", "(IIII)I"⟩, ⟨"OneBoots", "count", "(I)I"⟩, ⟨"OneBoots", "image", "(I)I"⟩,
  ⟨"OneBoots", "back", "(I)I"⟩, ⟨"OneBoots", "hasLane", "()Z"⟩, ⟨"OneBoots", "isBrother", "(I)Z"⟩, ⟨"OneBoots", "isPlace", "(I)Z"⟩,
  ⟨"OneBoots", "isBoot", "(I)Z"⟩, ⟨"OneBoots", "isLending", "(I)Z"⟩, ⟨"OneBoots", "isHourOfAll", "(I)Z"⟩, ⟨"OneBoots", "isUpTo99", "(I)Z"⟩,
  ⟨"OneBoots", "readyHours", "()LOneBoots$Hours;"⟩, ⟨"OneBootsModel", "<init>", "()V"⟩, ⟨"OneBootsModel", "in", "(JJJ)Z"⟩, ⟨"OneBootsModel", "four", "(I)V"⟩,
  ⟨"OneBootsModel", "feed", "(IIIII)I"⟩, ⟨"OneBootsModel", "end", "(I)I"⟩, ⟨"OneBootsModel", "fails", "(II)Z"⟩, ⟨"OneBootsModel", "see", "()I"⟩,
  ⟨"OneBootsModel", "isDigit", "(I)Z"⟩, ⟨"OneBootsModel", "isLetter", "(I)Z"⟩, ⟨"OneBootsModel", "isWord", "(J)Z"⟩, ⟨"OneBootsModel", "passWord", "()V"⟩,
  ⟨"OneBootsModel", "takesWord", "(J)Z"⟩, ⟨"OneBootsModel", "numberHere", "(II)Z"⟩, ⟨"OneBootsModel", "wordHere", "()I"⟩, ⟨"OneBootsModel", "puts", "(II)V"⟩,
  ⟨"OneBootsModel", "makes", "(I)Z"⟩, ⟨"OneBootsModel", "opens", "(I)Z"⟩, ⟨"OneBootsModel", "strength", "(I)I"⟩, ⟨"OneBootsModel", "settles", "(I)V"⟩,
  ⟨"OneBootsModel", "value", "()Z"⟩, ⟨"OneBootsModel", "term", "()Z"⟩, ⟨"OneBootsModel", "sum", "()Z"⟩, ⟨"OneBootsModel", "compare", "()Z"⟩,
  ⟨"OneBootsModel", "fact", "()Z"⟩, ⟨"OneBootsModel", "isInside", "()Z"⟩, ⟨"OneBootsModel", "closes", "()V"⟩, ⟨"OneBootsModel", "tested", "()Z"⟩,
  ⟨"OneBootsModel", "isWalkHere", "()Z"⟩, ⟨"OneBootsModel", "cellHere", "(III)Z"⟩, ⟨"OneBootsModel", "isLaneHere", "(I)Z"⟩, ⟨"OneBootsModel", "isBrotherHere", "(I)Z"⟩,
  ⟨"OneBootsModel", "isWetHere", "()Z"⟩, ⟨"OneBootsModel", "isFrostHere", "(I)Z"⟩, ⟨"OneBootsModel", "isWantHere", "(I)Z"⟩, ⟨"OneBootsModel", "isSoleHere", "(I)Z"⟩,
  ⟨"OneBootsModel", "areBootsHere", "(I)Z"⟩, ⟨"OneBootsModel", "laneLineHere", "(I)Z"⟩, ⟨"OneBootsModel", "isLaneWord", "()Z"⟩, ⟨"OneBootsModel", "clauseHere", "()Z"⟩,
  ⟨"OneBootsModel", "readsAll", "()Z"⟩, ⟨"OneBootsModel", "rule", "()I"⟩, ⟨"OneBootsModel", "lane", "()I"⟩, ⟨"OneBootsModel", "isRule", "(I)Z"⟩,
  ⟨"OneBootsModel", "push", "(J)V"⟩, ⟨"OneBootsModel", "pop", "()J"⟩, ⟨"OneBootsModel", "one", "(IJJ)J"⟩, ⟨"OneBootsModel", "reckons", "(III)J"⟩,
  ⟨"OneBootsModel", "isLane", "()Z"⟩, ⟨"OneBootsModel", "isBrother", "(I)Z"⟩, ⟨"OneBootsModel", "isPlace", "(I)Z"⟩, ⟨"OneBootsModel", "brotherOf", "(II)I"⟩,
  ⟨"OneBootsModel", "wearerOf", "(I)I"⟩, ⟨"OneBootsModel", "placeOf", "(I)I"⟩, ⟨"OneBootsModel", "wornOf", "(I)I"⟩, ⟨"OneBootsModel", "isHoled", "(I)Z"⟩,
  ⟨"OneBootsModel", "fits", "(I)Z"⟩, ⟨"OneBootsModel", "bootsOn", "(I)I"⟩, ⟨"OneBootsModel", "bootsMany", "(I)I"⟩, ⟨"OneBootsModel", "nextWant", "(I)I"⟩,
  ⟨"OneBootsModel", "goalOf", "(I)I"⟩, ⟨"OneBootsModel", "force", "(I)I"⟩, ⟨"OneBootsModel", "brother", "(II)I"⟩, ⟨"OneBootsModel", "boot", "(II)I"⟩,
  ⟨"OneBootsModel", "wet", "(I)I"⟩, ⟨"OneBootsModel", "isFrost", "()Z"⟩, ⟨"OneBootsModel", "othersAt", "(I)I"⟩, ⟨"OneBootsModel", "words", "(I)V"⟩,
  ⟨"OneBootsModel", "summedBy", "(I)J"⟩, ⟨"OneBootsModel", "wayOf", "(I)J"⟩, ⟨"OneBootsModel", "earnsNow", "()I"⟩, ⟨"OneBootsModel", "walks", "(II)V"⟩,
  ⟨"OneBootsModel", "wetFeet", "(I)I"⟩, ⟨"OneBootsModel", "chills", "(II)V"⟩, ⟨"OneBootsModel", "goesHome", "(I)V"⟩, ⟨"OneBootsModel", "passes", "()I"⟩,
  ⟨"OneBootsModel", "passesOn", "(I)I"⟩, ⟨"OneBootsModel", "keepsAct", "()V"⟩, ⟨"OneBootsModel", "undo", "()I"⟩, ⟨"OneBootsModel", "hour", "()I"⟩,
  ⟨"OneBootsModel", "putsOn", "(II)V"⟩, ⟨"OneBootsModel", "takesOff", "(II)V"⟩, ⟨"OneBootsModel", "canWear", "(II)Z"⟩, ⟨"OneBootsModel", "wear", "(II)I"⟩,
  ⟨"OneBootsModel", "off", "(I)I"⟩, ⟨"OneBootsModel", "earnedAll", "()I"⟩, ⟨"OneBootsModel", "cobble", "(I)I"⟩, ⟨"OneBootsModel", "keeps", "()V"⟩,
  ⟨"OneBootsModel", "laysBack", "()V"⟩, ⟨"OneBootsModel", "ahead", "(III)I"⟩, ⟨"OneBootsModel", "lendsTo", "(I)V"⟩, ⟨"OneBootsModel", "paysLent", "(II)I"⟩,
  ⟨"OneBootsModel", "findsLend", "(II)V"⟩, ⟨"OneBootsModel", "lend", "(II)I"⟩, ⟨"OneBootsModel", "worth", "(II)I"⟩, ⟨"OneBootsModel", "bids", "(I)I"⟩,
  ⟨"OneBootsModel", "power", "(II)I"⟩, ⟨"OneBootsModel", "namedIn", "(III)I"⟩, ⟨"OneBootsModel", "runsRelay", "(II)V"⟩, ⟨"OneBootsModel", "relay", "(II)I"⟩,
  ⟨"OneBootsModel", "print", "(IIIZ)I"⟩, ⟨"OneBootsModel", "beginsBy", "(I)V"⟩, ⟨"OneBootsModel", "woreAt", "(II)Z"⟩, ⟨"OneBootsModel", "arePrintsSo", "(I)Z"⟩,
  ⟨"OneBootsModel", "fitsPrints", "(I)Z"⟩, ⟨"OneBootsModel", "isOf", "(II)Z"⟩, ⟨"OneBootsModel", "feetBits", "()I"⟩, ⟨"OneBootsModel", "feet", "(I)I"⟩,
  ⟨"OneBootsModel", "fillsMost", "(II)V"⟩, ⟨"OneBootsModel", "alikeAt", "(II)I"⟩, ⟨"OneBootsModel", "look", "(II)I"⟩, ⟨"OneBootsModel", "holesCost", "(IIII)I"⟩,
  ⟨"OneBootsModel", "cobbler", "(IIIIII)I"⟩, ⟨"OneBootsModel", "second", "(III)I"⟩, ⟨"OneBootsModel", "seed", "(I)I"⟩, ⟨"OneBootsModel", "draw", "(I)I"⟩,
  ⟨"OneBootsModel", "winters", "(IIII)I"⟩, ⟨"OneBootsModel", "count", "(I)I"⟩, ⟨"OneBootsModel", "image", "(I)I"⟩, ⟨"OneBootsModel", "back", "(I)I"⟩,
  ⟨"java/lang/Integer", "compare", "(II)I"⟩, ⟨"java/lang/Integer", "bitCount", "(I)I"⟩, ⟨"java/lang/Long", "compare", "(JJ)I"⟩, ⟨"java/lang/Math", "max", "(II)I"⟩,
  ⟨"java/lang/Math", "min", "(II)I"⟩, ⟨"java/lang/String", "length", "()I"⟩, ⟨"java/lang/String", "charAt", "(I)C"⟩, ⟨"java/lang/String", "coder", "()B"⟩,
  ⟨"java/lang/String", "isLatin1", "()Z"⟩, ⟨"java/lang/String", "checkIndex", "(II)V"⟩, ⟨"java/lang/StringLatin1", "charAt", "([BI)C"⟩, ⟨"java/util/Arrays", "fill", "([II)V"⟩,
  ⟨"java/util/Arrays", "copyOf", "([II)[I"⟩, ⟨"jdk/internal/util/Preconditions", "checkIndex", "(IILjava/util/function/BiFunction;)I"⟩, ⟨"OneBootsLaw", "law", "([I)Z"⟩]
def xyn (j : Nat) : MethodName := xynL.getD j ⟨"", "", ""⟩
def xbtL : List ByteArray := [prog_2_method_1_code, prog_2_method_2_code, prog_2_method_3_code, prog_2_method_4_code, prog_2_method_5_code, prog_2_method_6_code, prog_2_method_7_code, prog_2_method_8_code,
  prog_3_method_1_code, prog_4_method_1_code, prog_4_method_2_code, prog_4_method_3_code, prog_4_method_4_code, prog_4_method_5_code, prog_4_method_6_code, prog_4_method_7_code,
  prog_4_method_8_code, prog_4_method_9_code, prog_4_method_10_code, prog_4_method_11_code, prog_4_method_12_code, prog_4_method_13_code, prog_4_method_14_code, prog_4_method_15_code,
  prog_4_method_16_code, prog_4_method_17_code, prog_5_method_1_code, prog_5_method_2_code, prog_5_method_3_code, prog_6_method_1_code, prog_6_method_2_code, prog_6_method_3_code,
  prog_6_method_4_code, prog_6_method_5_code, prog_7_method_1_code, prog_7_method_2_code, prog_7_method_3_code, prog_7_method_4_code, prog_7_method_5_code, prog_8_method_1_code,
  prog_8_method_2_code, prog_8_method_3_code, prog_8_method_4_code, prog_9_method_1_code, prog_9_method_2_code, prog_9_method_3_code, prog_9_method_4_code, prog_9_method_5_code,
  prog_9_method_6_code, prog_9_method_7_code, prog_9_method_8_code, prog_9_method_9_code, prog_9_method_10_code, prog_9_method_11_code, prog_9_method_12_code, prog_10_method_1_code,
  prog_10_method_2_code, prog_10_method_3_code, prog_10_method_4_code, prog_10_method_5_code, prog_10_method_6_code, prog_10_method_7_code, prog_10_method_8_code, prog_10_method_9_code,
  prog_10_method_10_code, prog_11_method_1_code, prog_11_method_2_code, prog_11_method_3_code, prog_11_method_4_code, prog_11_method_5_code, prog_11_method_6_code, prog_11_method_7_code,
  prog_11_method_8_code, prog_11_method_9_code, prog_11_method_10_code, prog_11_method_11_code, prog_11_method_12_code, prog_11_method_13_code, prog_11_method_14_code, prog_12_method_1_code,
  prog_12_method_2_code, prog_12_method_3_code, prog_12_method_4_code, prog_12_method_5_code, prog_12_method_6_code, prog_12_method_7_code, prog_12_method_8_code, prog_12_method_9_code,
  prog_1_method_1_code, prog_1_method_2_code, prog_1_method_3_code, prog_1_method_4_code, prog_1_method_5_code, prog_1_method_6_code, prog_1_method_7_code, prog_1_method_8_code,
  prog_1_method_9_code, prog_1_method_10_code, prog_1_method_11_code, prog_1_method_12_code, prog_1_method_13_code, prog_1_method_14_code, prog_1_method_15_code, prog_1_method_16_code,
  prog_1_method_17_code, prog_1_method_18_code, prog_1_method_19_code, prog_1_method_20_code, prog_1_method_21_code, prog_1_method_22_code, prog_1_method_23_code, prog_1_method_24_code,
  prog_1_method_25_code, prog_1_method_26_code, prog_1_method_27_code, prog_1_method_28_code, prog_1_method_29_code, prog_1_method_30_code, prog_1_method_31_code, prog_1_method_32_code,
  prog_1_method_33_code, prog_1_method_34_code, prog_1_method_35_code, prog_1_method_36_code, prog_1_method_37_code, prog_14_method_1_code, prog_14_method_2_code, prog_14_method_3_code,
  prog_14_method_4_code, prog_14_method_5_code, prog_14_method_6_code, prog_14_method_7_code, prog_14_method_8_code, prog_14_method_9_code, prog_14_method_10_code, prog_14_method_11_code,
  prog_14_method_12_code, prog_14_method_13_code, prog_14_method_14_code, prog_14_method_15_code, prog_14_method_16_code, prog_14_method_17_code, prog_14_method_18_code, prog_14_method_19_code,
  prog_14_method_20_code, prog_14_method_21_code, prog_14_method_22_code, prog_14_method_23_code, prog_14_method_24_code, prog_14_method_25_code, prog_14_method_26_code, prog_14_method_27_code,
  prog_14_method_28_code, prog_14_method_29_code, prog_14_method_30_code, prog_14_method_31_code, prog_14_method_32_code, prog_14_method_33_code, prog_14_method_34_code, prog_14_method_35_code,
  prog_14_method_36_code, prog_14_method_37_code, prog_14_method_38_code, prog_14_method_39_code, prog_14_method_40_code, prog_14_method_41_code, prog_14_method_42_code, prog_14_method_43_code,
  prog_14_method_44_code, prog_14_method_45_code, prog_14_method_46_code, prog_14_method_47_code, prog_14_method_48_code, prog_14_method_49_code, prog_14_method_50_code, prog_14_method_51_code,
  prog_14_method_52_code, prog_14_method_53_code, prog_14_method_54_code, prog_14_method_55_code, prog_14_method_56_code, prog_14_method_57_code, prog_14_method_58_code, prog_14_method_59_code,
  prog_14_method_60_code, prog_14_method_61_code, prog_14_method_62_code, prog_14_method_63_code, prog_14_method_64_code, prog_14_method_65_code, prog_14_method_66_code, prog_14_method_67_code,
  prog_14_method_68_code, prog_14_method_69_code, prog_14_method_70_code, prog_14_method_71_code, prog_14_method_72_code, prog_14_method_73_code, prog_14_method_74_code, prog_14_method_75_code,
  prog_14_method_76_code, prog_14_method_77_code, prog_14_method_78_code, prog_14_method_79_code, prog_14_method_80_code, prog_14_method_81_code, prog_14_method_82_code, prog_14_method_83_code,
  prog_14_method_84_code, prog_14_method_85_code, prog_14_method_86_code, prog_14_method_87_code, prog_14_method_88_code, prog_14_method_89_code, prog_14_method_90_code, prog_14_method_91_code,
  prog_14_method_92_code, prog_14_method_93_code, prog_14_method_94_code, prog_14_method_95_code, prog_14_method_96_code, prog_14_method_97_code, prog_14_method_98_code, prog_14_method_99_code,
  prog_14_method_100_code, prog_14_method_101_code, prog_14_method_102_code, prog_14_method_103_code, prog_14_method_104_code, prog_14_method_105_code, prog_14_method_106_code, prog_14_method_107_code,
  prog_14_method_108_code, prog_14_method_109_code, prog_14_method_110_code, prog_14_method_111_code, prog_14_method_112_code, prog_14_method_113_code, prog_14_method_114_code, prog_14_method_115_code,
  prog_14_method_116_code, prog_14_method_117_code, prog_14_method_118_code, prog_14_method_119_code, prog_16_method_40_code, prog_16_method_49_code, prog_17_method_42_code, prog_18_method_65_code,
  prog_18_method_69_code, prog_19_method_54_code, prog_19_method_56_code, prog_19_method_152_code, prog_19_method_154_code, prog_19_method_155_code, prog_20_method_2_code, prog_23_method_103_code,
  prog_23_method_123_code, prog_24_method_11_code, code]
def xbt (j : Nat) : ByteArray := xbtL.getD j ⟨#[]⟩
def xmxL : List Nat := [1, 6, 8, 8, 12, 7, 6, 3, 1, 1, 2, 2, 3, 7, 4, 4, 1, 1, 3, 3, 2, 2, 2, 2, 3, 5, 1, 2, 2, 1, 5, 2, 3, 8, 2, 4, 7, 5, 3, 3,
  7, 8, 5, 1, 1, 3, 6, 5, 4, 1, 6, 1, 3, 2, 2, 1, 3, 1, 3, 5, 2, 1, 5, 5, 2, 1, 4, 5, 3, 9, 9, 10, 7, 5, 6, 8, 5, 9, 12, 1,
  2, 3, 3, 3, 3, 1, 1, 4, 1, 6, 2, 2, 2, 3, 3, 3, 2, 2, 4, 3, 3, 1, 5, 4, 4, 2, 3, 6, 3, 6, 9, 5, 3, 9, 2, 3, 3, 1, 2, 2,
  2, 1, 1, 1, 2, 1, 6, 3, 6, 2, 3, 1, 2, 2, 6, 1, 3, 5, 1, 3, 2, 2, 1, 2, 3, 2, 2, 5, 3, 2, 1, 3, 2, 4, 2, 4, 1, 3, 3, 2,
  2, 2, 2, 3, 2, 1, 2, 2, 3, 1, 5, 11, 1, 2, 2, 3, 2, 2, 2, 2, 2, 2, 2, 5, 3, 3, 3, 3, 2, 3, 4, 4, 4, 2, 5, 8, 4, 5, 3, 4,
  4, 2, 2, 1, 3, 3, 3, 4, 2, 3, 2, 2, 2, 5, 3, 4, 5, 3, 4, 8, 4, 4, 6, 7, 6, 3, 4, 4, 4, 2, 3, 6, 6, 7, 6, 7, 11, 9, 3, 2,
  8, 2, 3, 3, 2, 1, 4, 2, 2, 1, 2, 1, 1, 2, 2, 4, 3, 3, 4]
def xmx (j : Nat) : Nat := xmxL.getD j 0
def xnpL : List Nat := [0, 2, 1, 3, 3, 3, 2, 1, 0, 0, 1, 1, 1, 2, 2, 1, 0, 0, 2, 2, 1, 1, 1, 1, 1, 4, 0, 1, 1, 0, 4, 1, 0, 3, 0, 3, 4, 2, 2, 2,
  2, 4, 3, 0, 0, 1, 2, 2, 3, 1, 1, 1, 1, 1, 1, 0, 1, 0, 0, 3, 1, 0, 1, 3, 1, 0, 3, 2, 2, 4, 3, 4, 4, 2, 3, 3, 1, 6, 7, 0,
  1, 1, 1, 1, 1, 0, 0, 1, 0, 5, 1, 0, 0, 1, 2, 2, 1, 0, 2, 1, 1, 0, 3, 2, 2, 1, 2, 4, 1, 2, 6, 3, 1, 4, 1, 1, 1, 0, 1, 1,
  1, 1, 1, 1, 0, 0, 3, 1, 5, 1, 2, 0, 1, 1, 1, 0, 1, 2, 0, 2, 1, 1, 1, 1, 0, 0, 0, 0, 0, 0, 0, 0, 0, 3, 1, 1, 0, 1, 1, 1,
  1, 1, 0, 0, 0, 0, 0, 1, 1, 0, 3, 3, 0, 1, 1, 2, 1, 1, 1, 1, 1, 1, 1, 1, 1, 1, 2, 2, 1, 0, 1, 1, 1, 1, 0, 2, 1, 2, 1, 0,
  1, 0, 0, 0, 2, 2, 2, 2, 1, 0, 1, 0, 0, 3, 1, 2, 2, 2, 2, 1, 2, 3, 2, 2, 4, 1, 2, 1, 1, 2, 0, 1, 2, 2, 2, 4, 6, 3, 1, 1,
  4, 1, 1, 1, 2, 1, 2, 2, 2, 0, 1, 0, 0, 2, 2, 2, 2, 3, 1]
def xnp (j : Nat) : Nat := xnpL.getD j 0
def xnaL : List Nat := [1, 3, 2, 4, 4, 4, 3, 2, 1, 1, 2, 2, 2, 3, 3, 2, 1, 1, 3, 3, 2, 2, 2, 2, 2, 5, 1, 2, 2, 1, 5, 2, 1, 4, 1, 4, 5, 2, 3, 3,
  3, 5, 3, 1, 1, 2, 3, 3, 4, 1, 2, 1, 2, 2, 2, 1, 2, 1, 1, 4, 2, 1, 2, 4, 2, 1, 4, 3, 3, 5, 4, 5, 5, 3, 4, 4, 2, 7, 8, 1,
  2, 2, 2, 2, 2, 1, 1, 2, 1, 6, 2, 1, 1, 2, 3, 3, 2, 1, 3, 2, 2, 1, 4, 3, 3, 2, 3, 5, 2, 3, 7, 4, 2, 5, 2, 2, 2, 1, 2, 2,
  2, 1, 1, 1, 1, 1, 3, 2, 6, 2, 3, 1, 2, 2, 2, 1, 2, 3, 1, 3, 2, 2, 1, 2, 1, 1, 1, 1, 1, 1, 1, 1, 1, 4, 2, 2, 1, 2, 2, 2,
  2, 2, 1, 1, 1, 1, 1, 2, 2, 1, 3, 4, 1, 2, 2, 3, 2, 2, 2, 2, 2, 2, 2, 2, 2, 2, 3, 3, 2, 1, 2, 2, 2, 2, 1, 3, 2, 3, 2, 1,
  2, 1, 1, 1, 3, 3, 3, 3, 2, 1, 2, 1, 1, 4, 2, 3, 3, 3, 3, 2, 2, 4, 3, 3, 5, 2, 3, 2, 2, 2, 1, 2, 3, 3, 3, 5, 7, 4, 2, 2,
  5, 2, 2, 2, 2, 1, 2, 2, 2, 1, 2, 1, 1, 2, 2, 2, 2, 3, 1]
def xna (j : Nat) : Nat := xnaL.getD j 0
def xrcL : List Nat := [0, 0, 0, 0, 0, 0, 0, 0, 1, 2, 2, 2, 2, 2, 2, 2, 2, 2, 2, 2, 2, 2, 2, 2, 2, 2, 3, 3, 3, 4, 4, 4, 4, 4, 5, 5, 5, 5, 5, 6,
  6, 6, 6, 7, 7, 7, 7, 7, 7, 7, 7, 7, 7, 7, 7, 8, 8, 8, 8, 8, 8, 8, 8, 8, 8, 9, 9, 9, 9, 9, 9, 9, 9, 9, 9, 9, 9, 9, 9, 10,
  10, 10, 10, 10, 10, 10, 10, 10, 11, 11, 11, 11, 11, 11, 11, 11, 11, 11, 11, 11, 11, 11, 11, 11, 11, 11, 11, 11, 11, 11, 11, 11, 11, 11, 11, 11, 11, 11, 11, 11,
  11, 11, 11, 11, 11, 12, 12, 12, 12, 12, 12, 12, 12, 12, 12, 12, 12, 12, 12, 12, 12, 12, 12, 12, 12, 12, 12, 12, 12, 12, 12, 12, 12, 12, 12, 12, 12, 12, 12, 12,
  12, 12, 12, 12, 12, 12, 12, 12, 12, 12, 12, 12, 12, 12, 12, 12, 12, 12, 12, 12, 12, 12, 12, 12, 12, 12, 12, 12, 12, 12, 12, 12, 12, 12, 12, 12, 12, 12, 12, 12,
  12, 12, 12, 12, 12, 12, 12, 12, 12, 12, 12, 12, 12, 12, 12, 12, 12, 12, 12, 12, 12, 12, 12, 12, 12, 12, 12, 12, 12, 12, 12, 12, 12, 12, 12, 12, 12, 12, 12, 12,
  12, 12, 12, 12, 0, 0, 0, 0, 0, 90, 90, 90, 90, 90, 0, 0, 0, 0, 0]
def xrc (j : Nat) : Nat := xrcL.getD j 0
def xocL : List Nat := [0, 0, 0, 0, 0, 0, 0, 0, 1, 2, 2, 2, 2, 2, 2, 2, 2, 2, 2, 2, 2, 2, 2, 2, 2, 2, 3, 3, 3, 4, 4, 4, 4, 4, 5, 5, 5, 5, 5, 6,
  6, 6, 6, 7, 7, 7, 7, 7, 7, 7, 7, 7, 7, 7, 7, 8, 8, 8, 8, 8, 8, 8, 8, 8, 8, 9, 9, 9, 9, 9, 9, 9, 9, 9, 9, 9, 9, 9, 9, 10,
  10, 10, 10, 10, 10, 10, 10, 10, 11, 11, 11, 11, 11, 11, 11, 11, 11, 11, 11, 11, 11, 11, 11, 11, 11, 11, 11, 11, 11, 11, 11, 11, 11, 11, 11, 11, 11, 11, 11, 11,
  11, 11, 11, 11, 11, 12, 12, 12, 12, 12, 12, 12, 12, 12, 12, 12, 12, 12, 12, 12, 12, 12, 12, 12, 12, 12, 12, 12, 12, 12, 12, 12, 12, 12, 12, 12, 12, 12, 12, 12,
  12, 12, 12, 12, 12, 12, 12, 12, 12, 12, 12, 12, 12, 12, 12, 12, 12, 12, 12, 12, 12, 12, 12, 12, 12, 12, 12, 12, 12, 12, 12, 12, 12, 12, 12, 12, 12, 12, 12, 12,
  12, 12, 12, 12, 12, 12, 12, 12, 12, 12, 12, 12, 12, 12, 12, 12, 12, 12, 12, 12, 12, 12, 12, 12, 12, 12, 12, 12, 12, 12, 12, 12, 12, 12, 12, 12, 12, 12, 12, 12,
  12, 12, 12, 12, 13, 13, 14, 15, 15, 16, 16, 16, 16, 16, 17, 18, 18, 19, 20]
def xoc (j : Nat) : Nat := xocL.getD j 0
def xcnL : List String := ["OneBoots$Hours", "OneBoots$Image", "OneBoots$Lane", "OneBoots$Past", "OneBoots$Prints", "OneBoots$Relays",
  "OneBoots$Rule", "OneBoots$RuleReader", "OneBoots$Tape", "OneBoots$Trials", "OneBoots$World", "OneBoots",
  "OneBootsModel", "java/lang/Integer", "java/lang/Long", "java/lang/Math", "java/lang/String", "java/lang/StringLatin1",
  "java/util/Arrays", "jdk/internal/util/Preconditions", "OneBootsLaw"]
def xcn (c : Nat) : String := xcnL.getD c ""
def xrtL : List (Option FieldType) := [none, some (.int), some (.int), none, none, none, some (.int), none, none, none, none, some (.boolean),
  some (.boolean), some (.int), some (.int), some (.boolean), none, none, some (.boolean), some (.boolean), some (.boolean), some (.boolean), some (.boolean), some (.boolean),
  some (.boolean), some (.boolean), none, none, some (.boolean), none, none, none, some (.int), some (.boolean), none, none,
  none, some (.boolean), none, none, some (.long), some (.long), some (.long), none, some (.object "OneBoots$Rule"), some (.boolean), some (.boolean), some (.boolean),
  some (.boolean), some (.int), some (.boolean), some (.int), some (.boolean), some (.boolean), none, none, none, none, none, some (.int),
  some (.boolean), some (.boolean), some (.int), some (.boolean), some (.boolean), none, some (.object "OneBoots$World"), some (.int), none, some (.int), some (.int), some (.int),
  some (.int), some (.int), some (.boolean), some (.int), none, some (.int), some (.int), none, none, none, none, some (.int),
  some (.int), some (.int), some (.int), some (.int), none, some (.int), some (.int), some (.int), some (.int), some (.int), some (.int), some (.int),
  some (.int), some (.int), some (.int), some (.int), some (.int), some (.int), some (.int), some (.int), some (.int), some (.int), some (.int), some (.int),
  some (.int), some (.int), some (.int), some (.int), some (.int), some (.int), some (.int), some (.int), some (.int), some (.boolean), some (.boolean), some (.boolean),
  some (.boolean), some (.boolean), some (.boolean), some (.boolean), some (.object "OneBoots$Hours"), none, some (.boolean), none, some (.int), some (.int), some (.boolean), some (.int),
  some (.boolean), some (.boolean), some (.boolean), none, some (.boolean), some (.boolean), some (.int), none, some (.boolean), some (.boolean), some (.int), none,
  some (.boolean), some (.boolean), some (.boolean), some (.boolean), some (.boolean), some (.boolean), none, some (.boolean), some (.boolean), some (.boolean), some (.boolean), some (.boolean),
  some (.boolean), some (.boolean), some (.boolean), some (.boolean), some (.boolean), some (.boolean), some (.boolean), some (.boolean), some (.boolean), some (.int), some (.int), some (.boolean),
  none, some (.long), some (.long), some (.long), some (.boolean), some (.boolean), some (.boolean), some (.int), some (.int), some (.int), some (.int), some (.boolean),
  some (.boolean), some (.int), some (.int), some (.int), some (.int), some (.int), some (.int), some (.int), some (.int), some (.boolean), some (.int), none,
  some (.long), some (.long), some (.int), none, some (.int), none, none, some (.int), some (.int), none, some (.int), some (.int),
  none, none, some (.boolean), some (.int), some (.int), some (.int), some (.int), none, none, some (.int), none, some (.int),
  none, some (.int), some (.int), some (.int), some (.int), some (.int), none, some (.int), some (.int), none, some (.boolean), some (.boolean),
  some (.boolean), some (.boolean), some (.int), some (.int), none, some (.int), some (.int), some (.int), some (.int), some (.int), some (.int), some (.int),
  some (.int), some (.int), some (.int), some (.int), some (.int), some (.int), some (.int), some (.int), some (.int), some (.int), some (.char), some (.byte),
  some (.boolean), none, some (.char), none, some (.array .int), some (.int), some (.boolean)]
def xrt (j : Nat) : Option FieldType := xrtL.getD j none
def xrk (j : Nat) : FieldType := (xrt j).getD .int
abbrev xnM : Nat := 259
abbrev xnC : Nat := 258
abbrev j_Hours_init : Nat := 0
abbrev j_Hours_pass : Nat := 1
abbrev j_Hours_pay : Nat := 2
abbrev j_Hours_walk : Nat := 3
abbrev j_Hours_fillWords : Nat := 4
abbrev j_Hours_chill : Nat := 5
abbrev j_Hours_bareFeet : Nat := 6
abbrev j_Hours_turn : Nat := 7
abbrev j_Image_init : Nat := 8
abbrev j_Lane_init : Nat := 9
abbrev j_Lane_copyFrom : Nat := 10
abbrev j_Lane_fits : Nat := 11
abbrev j_Lane_hasFrost : Nat := 12
abbrev j_Lane_nextWant : Nat := 13
abbrev j_Lane_goalOf : Nat := 14
abbrev j_Lane_read : Nat := 15
abbrev j_Lane_clear : Nat := 16
abbrev j_Lane_fillUntold : Nat := 17
abbrev j_Lane_mayStand : Nat := 18
abbrev j_Lane_readClause : Nat := 19
abbrev j_Lane_readLane : Nat := 20
abbrev j_Lane_readBrother : Nat := 21
abbrev j_Lane_readWet : Nat := 22
abbrev j_Lane_readFrost : Nat := 23
abbrev j_Lane_readWant : Nat := 24
abbrev j_Lane_number : Nat := 25
abbrev j_Past_init : Nat := 26
abbrev j_Past_keep : Nat := 27
abbrev j_Past_giveBack : Nat := 28
abbrev j_Prints_init : Nat := 29
abbrev j_Prints_add : Nat := 30
abbrev j_Prints_copyFrom : Nat := 31
abbrev j_Prints_lastHour : Nat := 32
abbrev j_Prints_agree : Nat := 33
abbrev j_Relays_init : Nat := 34
abbrev j_Relays_find : Nat := 35
abbrev j_Relays_search : Nat := 36
abbrev j_Relays_takes : Nat := 37
abbrev j_Relays_judge : Nat := 38
abbrev j_Rule_init : Nat := 39
abbrev j_Rule_way : Nat := 40
abbrev j_Rule_run : Nat := 41
abbrev j_Rule_joined : Nat := 42
abbrev j_RuleReader_init : Nat := 43
abbrev j_RuleReader_made : Nat := 44
abbrev j_RuleReader_read : Nat := 45
abbrev j_RuleReader_test : Nat := 46
abbrev j_RuleReader_fact : Nat := 47
abbrev j_RuleReader_inner : Nat := 48
abbrev j_RuleReader_comparing : Nat := 49
abbrev j_RuleReader_sum : Nat := 50
abbrev j_RuleReader_reckoning : Nat := 51
abbrev j_RuleReader_value : Nat := 52
abbrev j_RuleReader_oneMorePart : Nat := 53
abbrev j_RuleReader_put : Nat := 54
abbrev j_Tape_init : Nat := 55
abbrev j_Tape_add : Nat := 56
abbrev j_Tape_open : Nat := 57
abbrev j_Tape_next : Nat := 58
abbrev j_Tape_runEnd : Nat := 59
abbrev j_Tape_isSign : Nat := 60
abbrev j_Tape_isTooLong : Nat := 61
abbrev j_Tape_wordIn : Nat := 62
abbrev j_Tape_isPart : Nat := 63
abbrev j_Tape_fail : Nat := 64
abbrev j_Trials_init : Nat := 65
abbrev j_Trials_after : Nat := 66
abbrev j_Trials_earn : Nat := 67
abbrev j_Trials_tryLent : Nat := 68
abbrev j_Trials_mostLent : Nat := 69
abbrev j_Trials_secondBid : Nat := 70
abbrev j_Trials_bySecond : Nat := 71
abbrev j_Trials_winter : Nat := 72
abbrev j_Trials_agreeing : Nat := 73
abbrev j_Trials_agrees : Nat := 74
abbrev j_Trials_fewestAlike : Nat := 75
abbrev j_Trials_see : Nat := 76
abbrev j_Trials_leastCost : Nat := 77
abbrev j_Trials_costUntilCobbled : Nat := 78
abbrev j_World_init : Nat := 79
abbrev j_World_copyFrom : Nat := 80
abbrev j_World_begin : Nat := 81
abbrev j_World_dress : Nat := 82
abbrev j_World_placeOfBoot : Nat := 83
abbrev j_World_bootBitsOf : Nat := 84
abbrev j_World_allEarned : Nat := 85
abbrev j_World_allChill : Nat := 86
abbrev j_World_sumOf : Nat := 87
abbrev j_O_init : Nat := 88
abbrev j_O_feed : Nat := 89
abbrev j_O_end : Nat := 90
abbrev j_O_lane : Nat := 91
abbrev j_O_rule : Nat := 92
abbrev j_O_force : Nat := 93
abbrev j_O_brother : Nat := 94
abbrev j_O_boot : Nat := 95
abbrev j_O_wet : Nat := 96
abbrev j_O_hour : Nat := 97
abbrev j_O_wear : Nat := 98
abbrev j_O_off : Nat := 99
abbrev j_O_cobble : Nat := 100
abbrev j_O_undo : Nat := 101
abbrev j_O_ahead : Nat := 102
abbrev j_O_lend : Nat := 103
abbrev j_O_worth : Nat := 104
abbrev j_O_bids : Nat := 105
abbrev j_O_relay : Nat := 106
abbrev j_O_print : Nat := 107
abbrev j_O_feet : Nat := 108
abbrev j_O_look : Nat := 109
abbrev j_O_cobbler : Nat := 110
abbrev j_O_second : Nat := 111
abbrev j_O_seed : Nat := 112
abbrev j_O_winters : Nat := 113
abbrev j_O_count : Nat := 114
abbrev j_O_image : Nat := 115
abbrev j_O_back : Nat := 116
abbrev j_O_hasLane : Nat := 117
abbrev j_O_isBrother : Nat := 118
abbrev j_O_isPlace : Nat := 119
abbrev j_O_isBoot : Nat := 120
abbrev j_O_isLending : Nat := 121
abbrev j_O_isHourOfAll : Nat := 122
abbrev j_O_isUpTo99 : Nat := 123
abbrev j_O_readyHours : Nat := 124
abbrev j_M_init : Nat := 125
abbrev j_M_in : Nat := 126
abbrev j_M_four : Nat := 127
abbrev j_M_feed : Nat := 128
abbrev j_M_end : Nat := 129
abbrev j_M_fails : Nat := 130
abbrev j_M_see : Nat := 131
abbrev j_M_isDigit : Nat := 132
abbrev j_M_isLetter : Nat := 133
abbrev j_M_isWord : Nat := 134
abbrev j_M_passWord : Nat := 135
abbrev j_M_takesWord : Nat := 136
abbrev j_M_numberHere : Nat := 137
abbrev j_M_wordHere : Nat := 138
abbrev j_M_puts : Nat := 139
abbrev j_M_makes : Nat := 140
abbrev j_M_opens : Nat := 141
abbrev j_M_strength : Nat := 142
abbrev j_M_settles : Nat := 143
abbrev j_M_value : Nat := 144
abbrev j_M_term : Nat := 145
abbrev j_M_sum : Nat := 146
abbrev j_M_compare : Nat := 147
abbrev j_M_fact : Nat := 148
abbrev j_M_isInside : Nat := 149
abbrev j_M_closes : Nat := 150
abbrev j_M_tested : Nat := 151
abbrev j_M_isWalkHere : Nat := 152
abbrev j_M_cellHere : Nat := 153
abbrev j_M_isLaneHere : Nat := 154
abbrev j_M_isBrotherHere : Nat := 155
abbrev j_M_isWetHere : Nat := 156
abbrev j_M_isFrostHere : Nat := 157
abbrev j_M_isWantHere : Nat := 158
abbrev j_M_isSoleHere : Nat := 159
abbrev j_M_areBootsHere : Nat := 160
abbrev j_M_laneLineHere : Nat := 161
abbrev j_M_isLaneWord : Nat := 162
abbrev j_M_clauseHere : Nat := 163
abbrev j_M_readsAll : Nat := 164
abbrev j_M_rule : Nat := 165
abbrev j_M_lane : Nat := 166
abbrev j_M_isRule : Nat := 167
abbrev j_M_push : Nat := 168
abbrev j_M_pop : Nat := 169
abbrev j_M_one : Nat := 170
abbrev j_M_reckons : Nat := 171
abbrev j_M_isLane : Nat := 172
abbrev j_M_isBrother : Nat := 173
abbrev j_M_isPlace : Nat := 174
abbrev j_M_brotherOf : Nat := 175
abbrev j_M_wearerOf : Nat := 176
abbrev j_M_placeOf : Nat := 177
abbrev j_M_wornOf : Nat := 178
abbrev j_M_isHoled : Nat := 179
abbrev j_M_fits : Nat := 180
abbrev j_M_bootsOn : Nat := 181
abbrev j_M_bootsMany : Nat := 182
abbrev j_M_nextWant : Nat := 183
abbrev j_M_goalOf : Nat := 184
abbrev j_M_force : Nat := 185
abbrev j_M_brother : Nat := 186
abbrev j_M_boot : Nat := 187
abbrev j_M_wet : Nat := 188
abbrev j_M_isFrost : Nat := 189
abbrev j_M_othersAt : Nat := 190
abbrev j_M_words : Nat := 191
abbrev j_M_summedBy : Nat := 192
abbrev j_M_wayOf : Nat := 193
abbrev j_M_earnsNow : Nat := 194
abbrev j_M_walks : Nat := 195
abbrev j_M_wetFeet : Nat := 196
abbrev j_M_chills : Nat := 197
abbrev j_M_goesHome : Nat := 198
abbrev j_M_passes : Nat := 199
abbrev j_M_passesOn : Nat := 200
abbrev j_M_keepsAct : Nat := 201
abbrev j_M_undo : Nat := 202
abbrev j_M_hour : Nat := 203
abbrev j_M_putsOn : Nat := 204
abbrev j_M_takesOff : Nat := 205
abbrev j_M_canWear : Nat := 206
abbrev j_M_wear : Nat := 207
abbrev j_M_off : Nat := 208
abbrev j_M_earnedAll : Nat := 209
abbrev j_M_cobble : Nat := 210
abbrev j_M_keeps : Nat := 211
abbrev j_M_laysBack : Nat := 212
abbrev j_M_ahead : Nat := 213
abbrev j_M_lendsTo : Nat := 214
abbrev j_M_paysLent : Nat := 215
abbrev j_M_findsLend : Nat := 216
abbrev j_M_lend : Nat := 217
abbrev j_M_worth : Nat := 218
abbrev j_M_bids : Nat := 219
abbrev j_M_power : Nat := 220
abbrev j_M_namedIn : Nat := 221
abbrev j_M_runsRelay : Nat := 222
abbrev j_M_relay : Nat := 223
abbrev j_M_print : Nat := 224
abbrev j_M_beginsBy : Nat := 225
abbrev j_M_woreAt : Nat := 226
abbrev j_M_arePrintsSo : Nat := 227
abbrev j_M_fitsPrints : Nat := 228
abbrev j_M_isOf : Nat := 229
abbrev j_M_feetBits : Nat := 230
abbrev j_M_feet : Nat := 231
abbrev j_M_fillsMost : Nat := 232
abbrev j_M_alikeAt : Nat := 233
abbrev j_M_look : Nat := 234
abbrev j_M_holesCost : Nat := 235
abbrev j_M_cobbler : Nat := 236
abbrev j_M_second : Nat := 237
abbrev j_M_seed : Nat := 238
abbrev j_M_draw : Nat := 239
abbrev j_M_winters : Nat := 240
abbrev j_M_count : Nat := 241
abbrev j_M_image : Nat := 242
abbrev j_M_back : Nat := 243
abbrev j_Integer_compare : Nat := 244
abbrev j_Integer_bitCount : Nat := 245
abbrev j_Long_compare : Nat := 246
abbrev j_Math_max : Nat := 247
abbrev j_Math_min : Nat := 248
abbrev j_String_length : Nat := 249
abbrev j_String_charAt : Nat := 250
abbrev j_String_coder : Nat := 251
abbrev j_String_isLatin1 : Nat := 252
abbrev j_String_checkIndex : Nat := 253
abbrev j_StringLatin1_charAt : Nat := 254
abbrev j_Arrays_fill : Nat := 255
abbrev j_Arrays_copyOf : Nat := 256
abbrev j_Preconditions_checkIndex : Nat := 257
abbrev j_L_law : Nat := 258
def xg0 : List (Option (Instr × Nat)) := [some (.aload 0, 1), some (.invokespecial 9999, 3), none, none, some (.aload 0, 1), some (.iconst 15, 2), none, some (.newarray .long, 2),
  none, some (.putfield 0, 3), none, none, some (.aload 0, 1), some (.iconst 40, 2), none, some (.newarray .long, 2),
  none, some (.putfield 1, 3), none, none, some (.aload 0, 1), some (.new 2, 3), none, none,
  some (.dup, 1), some (.invokespecial 9, 3), none, none, some (.putfield 2, 3), none, none, some (.aload 0, 1),
  some (.aconst_null, 1), some (.putfield 3, 3), none, none, some (.aload 0, 1), some (.iconst (-1), 1), some (.putfield 4, 3), none,
  none, some (.aload 0, 1), some (.iconst 0, 1), some (.putfield 5, 3), none, none, some (.return_, 1)]
def xg1 : List (Option (Instr × Nat)) := [some (.iload 2, 1), some (.ifCond .ne 21, 3), none, none, some (.aload 0, 1), some (.getfield 2, 3), none, none,
  some (.aload 1, 1), some (.getfield 640, 3), none, none, some (.iconst 30, 2), none, some (.iaload, 1), some (.invokevirtual 12, 3),
  none, none, some (.ifCond .eq 25, 3), none, none, some (.iconst 1, 1), some (.goto 26, 3), none,
  none, some (.iconst 0, 1), some (.istore 3, 1), some (.aload 0, 1), some (.aload 1, 1), some (.invokevirtual 2, 3), none, none,
  some (.istore 4, 2), none, some (.iconst 0, 1), some (.istore 5, 2), none, some (.iload 5, 2), none, some (.aload 0, 1),
  some (.getfield 2, 3), none, none, some (.getfield 138, 3), none, none, some (.if_icmp .ge 76, 3), none,
  none, some (.aload 1, 1), some (.getfield 640, 3), none, none, some (.iconst 12, 2), none, some (.iload 5, 2),
  none, some (.iadd, 1), some (.iaload, 1), some (.ifCond .ne 70, 3), none, none, some (.aload 0, 1), some (.aload 1, 1),
  some (.iload 5, 2), none, some (.iload 3, 1), some (.invokevirtual 3, 3), none, none, some (.iinc 5 1, 3), none,
  none, some (.goto 37, 3), none, none, some (.iconst 0, 1), some (.istore 5, 2), none, some (.iload 5, 2),
  none, some (.aload 0, 1), some (.getfield 2, 3), none, none, some (.getfield 138, 3), none, none,
  some (.if_icmp .ge 105, 3), none, none, some (.aload 0, 1), some (.aload 1, 1), some (.iload 5, 2), none, some (.iload 3, 1),
  some (.invokevirtual 5, 3), none, none, some (.iinc 5 1, 3), none, none, some (.goto 79, 3), none,
  none, some (.aload 0, 1), some (.aload 1, 1), some (.invokevirtual 7, 3), none, none, some (.iload 4, 2), none,
  some (.ireturn, 1)]
def xg2 : List (Option (Instr × Nat)) := [some (.iconst 0, 1), some (.istore 2, 1), some (.aload 0, 1), some (.getfield 2, 3), none, none, some (.getfield 132, 3), none,
  none, some (.astore 3, 1), some (.iconst 0, 1), some (.istore 4, 2), none, some (.iload 4, 2), none, some (.aload 0, 1),
  some (.getfield 2, 3), none, none, some (.getfield 140, 3), none, none, some (.if_icmp .ge 146, 3), none,
  none, some (.aload 3, 1), some (.iconst 4, 1), some (.iload 4, 2), none, some (.imul, 1), some (.iaload, 1), some (.istore 5, 2),
  none, some (.aload 1, 1), some (.getfield 640, 3), none, none, some (.iconst 0, 1), some (.iload 5, 2), none,
  some (.iadd, 1), some (.iaload, 1), some (.aload 3, 1), some (.iconst 4, 1), some (.iload 4, 2), none, some (.imul, 1), some (.iconst 1, 1),
  some (.iadd, 1), some (.iaload, 1), some (.if_icmp .ne 57, 3), none, none, some (.iconst 1, 1), some (.goto 58, 3), none,
  none, some (.iconst 0, 1), some (.istore 6, 2), none, some (.aload 1, 1), some (.getfield 640, 3), none, none,
  some (.iconst 30, 2), none, some (.iaload, 1), some (.aload 3, 1), some (.iconst 4, 1), some (.iload 4, 2), none, some (.imul, 1),
  some (.iconst 2, 1), some (.iadd, 1), some (.iaload, 1), some (.if_icmp .ne 82, 3), none, none, some (.iconst 1, 1), some (.goto 83, 3),
  none, none, some (.iconst 0, 1), some (.istore 7, 2), none, some (.iload 6, 2), none, some (.ifCond .eq 140, 3),
  none, none, some (.iload 7, 2), none, some (.ifCond .eq 140, 3), none, none, some (.aload 1, 1),
  some (.getfield 640, 3), none, none, some (.iconst 12, 2), none, some (.iload 5, 2), none, some (.iadd, 1),
  some (.iaload, 1), some (.ifCond .ne 140, 3), none, none, some (.aload 1, 1), some (.getfield 640, 3), none, none,
  some (.iconst 18, 2), none, some (.iload 5, 2), none, some (.iadd, 1), some (.dup2, 1), some (.iaload, 1), some (.aload 3, 1),
  some (.iconst 4, 1), some (.iload 4, 2), none, some (.imul, 1), some (.iconst 3, 1), some (.iadd, 1), some (.iaload, 1), some (.iadd, 1),
  some (.iastore, 1), some (.iload 2, 1), some (.aload 3, 1), some (.iconst 4, 1), some (.iload 4, 2), none, some (.imul, 1), some (.iconst 3, 1),
  some (.iadd, 1), some (.iaload, 1), some (.iadd, 1), some (.istore 2, 1), some (.iinc 4 1, 3), none, none, some (.goto 13, 3),
  none, none, some (.iload 2, 1), some (.ireturn, 1)]
def xg3 : List (Option (Instr × Nat)) := [some (.aload 1, 1), some (.getfield 640, 3), none, none, some (.iconst 0, 1), some (.iload 2, 1), some (.iadd, 1), some (.iaload, 1),
  some (.istore 4, 2), none, some (.iload 4, 2), none, some (.istore 5, 2), none, some (.aload 0, 1), some (.getfield 3, 3),
  none, none, some (.ifnonnull 49, 3), none, none, some (.iload 5, 2), none, some (.aload 0, 1),
  some (.getfield 2, 3), none, none, some (.iload 2, 1), some (.aload 1, 1), some (.getfield 640, 3), none, none,
  some (.iconst 30, 2), none, some (.iaload, 1), some (.invokevirtual 14, 3), none, none, some (.iload 4, 2), none,
  some (.invokestatic 244, 3), none, none, some (.iadd, 1), some (.istore 5, 2), none, some (.goto 80, 3), none,
  none, some (.aload 0, 1), some (.aload 1, 1), some (.iload 2, 1), some (.iload 3, 1), some (.invokevirtual 4, 3), none, none,
  some (.iload 5, 2), none, some (.aload 0, 1), some (.getfield 3, 3), none, none, some (.aload 0, 1), some (.getfield 0, 3),
  none, none, some (.aload 0, 1), some (.getfield 1, 3), none, none, some (.invokevirtual 40, 3), none,
  none, some (.ldc2_w 0, 1), some (.invokestatic 246, 3), none, none, some (.iadd, 1), some (.istore 5, 2), none,
  some (.iload 5, 2), none, some (.iload 4, 2), none, some (.if_icmp .eq 104, 3), none, none, some (.iload 5, 2),
  none, some (.ifCond .lt 104, 3), none, none, some (.iload 5, 2), none, some (.aload 0, 1), some (.getfield 2, 3),
  none, none, some (.getfield 134, 3), none, none, some (.if_icmp .lt 105, 3), none, none,
  some (.return_, 1), some (.aload 1, 1), some (.getfield 640, 3), none, none, some (.iconst 0, 1), some (.iload 2, 1), some (.iadd, 1),
  some (.iload 5, 2), none, some (.iastore, 1), some (.iconst 0, 1), some (.istore 6, 2), none, some (.iload 6, 2), none,
  some (.iconst 2, 1), some (.if_icmp .ge 184, 3), none, none, some (.aload 1, 1), some (.getfield 640, 3), none, none,
  some (.iconst 24, 2), none, some (.iload 6, 2), none, some (.iadd, 1), some (.iaload, 1), some (.iload 2, 1), some (.if_icmp .ne 178, 3),
  none, none, some (.aload 1, 1), some (.getfield 640, 3), none, none, some (.iconst 28, 2), none,
  some (.iload 6, 2), none, some (.iadd, 1), some (.iaload, 1), some (.iload 3, 1), some (.ifCond .eq 156, 3), none, none,
  some (.iconst 2, 1), some (.goto 157, 3), none, none, some (.iconst 1, 1), some (.iadd, 1), some (.istore 7, 2), none,
  some (.aload 1, 1), some (.getfield 640, 3), none, none, some (.iconst 28, 2), none, some (.iload 6, 2), none,
  some (.iadd, 1), some (.iload 7, 2), none, some (.iconst 999, 3), none, none, some (.invokestatic 248, 3), none,
  none, some (.iastore, 1), some (.iinc 6 1, 3), none, none, some (.goto 118, 3), none, none,
  some (.return_, 1)]
def xg4 : List (Option (Instr × Nat)) := [some (.aload 1, 1), some (.getfield 640, 3), none, none, some (.astore 4, 2), none, some (.aload 4, 2), none,
  some (.iconst 0, 1), some (.iload 2, 1), some (.iadd, 1), some (.iaload, 1), some (.istore 5, 2), none, some (.aload 4, 2), none,
  some (.iconst 30, 2), none, some (.iaload, 1), some (.istore 6, 2), none, some (.aload 0, 1), some (.getfield 2, 3), none,
  none, some (.iload 2, 1), some (.iload 6, 2), none, some (.invokevirtual 13, 3), none, none, some (.istore 7, 2),
  none, some (.aload 0, 1), some (.getfield 0, 3), none, none, some (.iconst 0, 1), some (.iload 2, 1), some (.i2l, 1),
  some (.lastore, 1), some (.aload 0, 1), some (.getfield 0, 3), none, none, some (.iconst 1, 1), some (.iload 5, 2), none,
  some (.i2l, 1), some (.lastore, 1), some (.aload 0, 1), some (.getfield 0, 3), none, none, some (.iconst 2, 1), some (.aload 0, 1),
  some (.getfield 2, 3), none, none, some (.getfield 129, 3), none, none, some (.iload 2, 1), some (.iaload, 1),
  some (.i2l, 1), some (.lastore, 1), some (.aload 0, 1), some (.getfield 0, 3), none, none, some (.iconst 3, 1), some (.aload 0, 1),
  some (.getfield 2, 3), none, none, some (.getfield 130, 3), none, none, some (.iload 2, 1), some (.iaload, 1),
  some (.i2l, 1), some (.lastore, 1), some (.aload 0, 1), some (.getfield 0, 3), none, none, some (.iconst 4, 1), some (.iload 6, 2),
  none, some (.i2l, 1), some (.lastore, 1), some (.aload 0, 1), some (.getfield 0, 3), none, none, some (.iconst 5, 1),
  some (.aload 4, 2), none, some (.iconst 31, 2), none, some (.iaload, 1), some (.i2l, 1), some (.lastore, 1), some (.aload 0, 1),
  some (.getfield 0, 3), none, none, some (.iconst 6, 2), none, some (.iload 7, 2), none, some (.ifCond .ge 127, 3),
  none, none, some (.aload 0, 1), some (.getfield 2, 3), none, none, some (.getfield 129, 3), none,
  none, some (.iload 2, 1), some (.iaload, 1), some (.i2l, 1), some (.goto 142, 3), none, none, some (.aload 0, 1),
  some (.getfield 2, 3), none, none, some (.getfield 132, 3), none, none, some (.iconst 4, 1), some (.iload 7, 2),
  none, some (.imul, 1), some (.iconst 1, 1), some (.iadd, 1), some (.iaload, 1), some (.i2l, 1), some (.lastore, 1), some (.aload 0, 1),
  some (.getfield 0, 3), none, none, some (.iconst 7, 2), none, some (.iload 7, 2), none, some (.ifCond .ge 158, 3),
  none, none, some (.ldc2_w 0, 1), some (.goto 173, 3), none, none, some (.aload 0, 1), some (.getfield 2, 3),
  none, none, some (.getfield 132, 3), none, none, some (.iconst 4, 1), some (.iload 7, 2), none,
  some (.imul, 1), some (.iconst 3, 1), some (.iadd, 1), some (.iaload, 1), some (.i2l, 1), some (.lastore, 1), some (.aload 0, 1), some (.getfield 0, 3),
  none, none, some (.iconst 8, 2), none, some (.iload 7, 2), none, some (.ifCond .ge 189, 3), none,
  none, some (.ldc2_w 0, 1), some (.goto 207, 3), none, none, some (.aload 0, 1), some (.getfield 2, 3), none,
  none, some (.getfield 132, 3), none, none, some (.iconst 4, 1), some (.iload 7, 2), none, some (.imul, 1),
  some (.iconst 2, 1), some (.iadd, 1), some (.iaload, 1), some (.iload 6, 2), none, some (.isub, 1), some (.i2l, 1), some (.lastore, 1),
  some (.aload 0, 1), some (.getfield 0, 3), none, none, some (.iconst 9, 2), none, some (.aload 0, 1), some (.getfield 2, 3),
  none, none, some (.getfield 128, 3), none, none, some (.iload 5, 2), none, some (.iaload, 1),
  some (.i2l, 1), some (.lastore, 1), some (.aload 0, 1), some (.getfield 0, 3), none, none, some (.iconst 10, 2), none,
  some (.iload 3, 1), some (.ifCond .eq 240, 3), none, none, some (.ldc2_w 1, 1), some (.goto 241, 3), none, none,
  some (.ldc2_w 0, 1), some (.lastore, 1), some (.aload 0, 1), some (.getfield 0, 3), none, none, some (.iconst 11, 2), none,
  some (.aload 0, 1), some (.getfield 4, 3), none, none, some (.iload 2, 1), some (.if_icmp .ne 262, 3), none, none,
  some (.ldc2_w 2, 3), none, none, some (.goto 271, 3), none, none, some (.aload 1, 1), some (.iload 2, 1),
  some (.invokevirtual 84, 3), none, none, some (.invokestatic 245, 3), none, none, some (.i2l, 1), some (.lastore, 1),
  some (.aload 0, 1), some (.getfield 0, 3), none, none, some (.iconst 12, 2), none, some (.aload 4, 2), none,
  some (.iconst 6, 2), none, some (.iload 2, 1), some (.iadd, 1), some (.iaload, 1), some (.i2l, 1), some (.lastore, 1), some (.iconst (-1), 1),
  some (.istore 8, 2), none, some (.iconst 0, 1), some (.istore 9, 2), none, some (.iload 9, 2), none, some (.aload 0, 1),
  some (.getfield 2, 3), none, none, some (.getfield 138, 3), none, none, some (.if_icmp .ge 333, 3), none,
  none, some (.iload 8, 2), none, some (.aload 4, 2), none, some (.iconst 0, 1), some (.iload 9, 2), none,
  some (.iadd, 1), some (.iaload, 1), some (.iload 5, 2), none, some (.if_icmp .ne 323, 3), none, none, some (.iconst 1, 1),
  some (.goto 324, 3), none, none, some (.iconst 0, 1), some (.iadd, 1), some (.istore 8, 2), none, some (.iinc 9 1, 3),
  none, none, some (.goto 293, 3), none, none, some (.aload 0, 1), some (.getfield 0, 3), none,
  none, some (.iconst 13, 2), none, some (.iload 8, 2), none, some (.i2l, 1), some (.lastore, 1), some (.iconst 0, 1),
  some (.istore 9, 2), none, some (.iconst 0, 1), some (.istore 10, 2), none, some (.iload 10, 2), none, some (.iconst 2, 1),
  some (.if_icmp .ge 408, 3), none, none, some (.aload 4, 2), none, some (.iconst 24, 2), none, some (.iload 10, 2),
  none, some (.iadd, 1), some (.iaload, 1), some (.iconst (-1), 1), some (.if_icmp .ne 384, 3), none, none, some (.aload 4, 2),
  none, some (.iconst 26, 2), none, some (.iload 10, 2), none, some (.iadd, 1), some (.iaload, 1), some (.iload 5, 2),
  none, some (.if_icmp .ne 384, 3), none, none, some (.iconst 1, 1), some (.goto 385, 3), none, none,
  some (.iconst 0, 1), some (.istore 11, 2), none, some (.iload 9, 2), none, some (.iload 11, 2), none, some (.ifCond .eq 398, 3),
  none, none, some (.iconst 1, 1), some (.goto 399, 3), none, none, some (.iconst 0, 1), some (.iadd, 1),
  some (.istore 9, 2), none, some (.iinc 10 1, 3), none, none, some (.goto 349, 3), none, none,
  some (.aload 0, 1), some (.getfield 0, 3), none, none, some (.iconst 14, 2), none, some (.iload 9, 2), none,
  some (.i2l, 1), some (.lastore, 1), some (.return_, 1)]
def xg5 : List (Option (Instr × Nat)) := [some (.aload 1, 1), some (.getfield 640, 3), none, none, some (.iconst 0, 1), some (.iload 2, 1), some (.iadd, 1), some (.iaload, 1),
  some (.istore 4, 2), none, some (.aload 1, 1), some (.getfield 640, 3), none, none, some (.iconst 6, 2), none,
  some (.iload 2, 1), some (.iadd, 1), some (.iaload, 1), some (.istore 5, 2), none, some (.iload 4, 2), none, some (.aload 0, 1),
  some (.getfield 2, 3), none, none, some (.getfield 129, 3), none, none, some (.iload 2, 1), some (.iaload, 1),
  some (.if_icmp .ne 53, 3), none, none, some (.aload 1, 1), some (.getfield 640, 3), none, none, some (.iconst 6, 2),
  none, some (.iload 2, 1), some (.iadd, 1), some (.iload 5, 2), none, some (.iconst 4, 1), some (.isub, 1), some (.iconst 0, 1),
  some (.invokestatic 247, 3), none, none, some (.iastore, 1), some (.return_, 1), some (.iload 3, 1), some (.ifCond .eq 72, 3), none,
  none, some (.iconst 2, 1), some (.aload 0, 1), some (.getfield 2, 3), none, none, some (.getfield 128, 3), none,
  none, some (.iload 4, 2), none, some (.iaload, 1), some (.imul, 1), some (.goto 82, 3), none, none,
  some (.aload 0, 1), some (.getfield 2, 3), none, none, some (.getfield 128, 3), none, none, some (.iload 4, 2),
  none, some (.iaload, 1), some (.istore 6, 2), none, some (.iload 5, 2), none, some (.aload 0, 1), some (.aload 1, 1),
  some (.iload 2, 1), some (.invokevirtual 6, 3), none, none, some (.iload 6, 2), none, some (.imul, 1), some (.iadd, 1),
  some (.iconst 99, 2), none, some (.invokestatic 248, 3), none, none, some (.istore 5, 2), none, some (.aload 1, 1),
  some (.getfield 640, 3), none, none, some (.iconst 6, 2), none, some (.iload 2, 1), some (.iadd, 1), some (.iload 5, 2),
  none, some (.iastore, 1), some (.iload 5, 2), none, some (.iconst 60, 2), none, some (.if_icmp .lt 153, 3), none,
  none, some (.aload 1, 1), some (.getfield 640, 3), none, none, some (.iconst 12, 2), none, some (.iload 2, 1),
  some (.iadd, 1), some (.iaload, 1), some (.ifCond .ne 153, 3), none, none, some (.aload 1, 1), some (.getfield 640, 3), none,
  none, some (.iconst 12, 2), none, some (.iload 2, 1), some (.iadd, 1), some (.iconst 1, 1), some (.iastore, 1), some (.aload 0, 1),
  some (.dup, 1), some (.getfield 5, 3), none, none, some (.iconst 1, 1), some (.iadd, 1), some (.putfield 5, 3), none,
  none, some (.return_, 1)]
def xg6 : List (Option (Instr × Nat)) := [some (.aload 0, 1), some (.getfield 4, 3), none, none, some (.iload 2, 1), some (.if_icmp .ne 10, 3), none, none,
  some (.iconst 0, 1), some (.ireturn, 1), some (.iconst 0, 1), some (.istore 3, 1), some (.iconst 0, 1), some (.istore 4, 2), none, some (.iload 4, 2),
  none, some (.iconst 2, 1), some (.if_icmp .ge 76, 3), none, none, some (.aload 1, 1), some (.getfield 640, 3), none,
  none, some (.iconst 28, 2), none, some (.iload 4, 2), none, some (.iadd, 1), some (.iaload, 1), some (.aload 0, 1),
  some (.getfield 2, 3), none, none, some (.getfield 136, 3), none, none, some (.if_icmp .ge 45, 3), none,
  none, some (.iconst 1, 1), some (.goto 46, 3), none, none, some (.iconst 0, 1), some (.istore 5, 2), none,
  some (.aload 1, 1), some (.getfield 640, 3), none, none, some (.iconst 24, 2), none, some (.iload 4, 2), none,
  some (.iadd, 1), some (.iaload, 1), some (.iload 2, 1), some (.if_icmp .ne 67, 3), none, none, some (.iload 5, 2), none,
  some (.ifCond .ne 70, 3), none, none, some (.iinc 3 1, 3), none, none, some (.iinc 4 1, 3), none,
  none, some (.goto 15, 3), none, none, some (.iload 3, 1), some (.ireturn, 1)]
def xg7 : List (Option (Instr × Nat)) := [some (.aload 1, 1), some (.getfield 640, 3), none, none, some (.iconst 30, 2), none, some (.iaload, 1), some (.iconst 23, 2),
  none, some (.if_icmp .ge 24, 3), none, none, some (.aload 1, 1), some (.getfield 640, 3), none, none,
  some (.iconst 30, 2), none, some (.dup2, 1), some (.iaload, 1), some (.iconst 1, 1), some (.iadd, 1), some (.iastore, 1), some (.return_, 1),
  some (.aload 1, 1), some (.getfield 640, 3), none, none, some (.iconst 30, 2), none, some (.iconst 0, 1), some (.iastore, 1),
  some (.aload 1, 1), some (.getfield 640, 3), none, none, some (.iconst 31, 2), none, some (.aload 1, 1), some (.getfield 640, 3),
  none, none, some (.iconst 31, 2), none, some (.iaload, 1), some (.iconst 1, 1), some (.iadd, 1), some (.iconst 999, 3),
  none, none, some (.invokestatic 248, 3), none, none, some (.iastore, 1), some (.iconst 0, 1), some (.istore 2, 1),
  some (.iload 2, 1), some (.aload 0, 1), some (.getfield 2, 3), none, none, some (.getfield 138, 3), none, none,
  some (.if_icmp .ge 110, 3), none, none, some (.aload 1, 1), some (.getfield 640, 3), none, none, some (.iconst 0, 1),
  some (.iload 2, 1), some (.iadd, 1), some (.aload 0, 1), some (.getfield 2, 3), none, none, some (.getfield 129, 3), none,
  none, some (.iload 2, 1), some (.iaload, 1), some (.iastore, 1), some (.aload 1, 1), some (.getfield 640, 3), none, none,
  some (.iconst 6, 2), none, some (.iload 2, 1), some (.iadd, 1), some (.iconst 0, 1), some (.iastore, 1), some (.aload 1, 1), some (.getfield 640, 3),
  none, none, some (.iconst 12, 2), none, some (.iload 2, 1), some (.iadd, 1), some (.iconst 0, 1), some (.iastore, 1),
  some (.iinc 2 1, 3), none, none, some (.goto 56, 3), none, none, some (.return_, 1)]
def xg8 : List (Option (Instr × Nat)) := [some (.aload 0, 1), some (.invokespecial 9999, 3), none, none, some (.aload 0, 1), some (.new 2, 3), none, none,
  some (.dup, 1), some (.invokespecial 9, 3), none, none, some (.putfield 64, 3), none, none, some (.aload 0, 1),
  some (.new 10, 3), none, none, some (.dup, 1), some (.invokespecial 79, 3), none, none, some (.putfield 65, 3),
  none, none, some (.aload 0, 1), some (.new 4, 3), none, none, some (.dup, 1), some (.invokespecial 29, 3),
  none, none, some (.putfield 66, 3), none, none, some (.aload 0, 1), some (.iconst (-1), 1), some (.putfield 67, 3),
  none, none, some (.aload 0, 1), some (.iconst 0, 1), some (.putfield 68, 3), none, none, some (.return_, 1)]
def xg9 : List (Option (Instr × Nat)) := [some (.aload 0, 1), some (.invokespecial 9999, 3), none, none, some (.aload 0, 1), some (.iconst 10, 2), none, some (.newarray .int, 2),
  none, some (.putfield 128, 3), none, none, some (.aload 0, 1), some (.iconst 6, 2), none, some (.newarray .int, 2),
  none, some (.putfield 129, 3), none, none, some (.aload 0, 1), some (.iconst 6, 2), none, some (.newarray .int, 2),
  none, some (.putfield 130, 3), none, none, some (.aload 0, 1), some (.iconst 8, 2), none, some (.newarray .int, 2),
  none, some (.putfield 131, 3), none, none, some (.aload 0, 1), some (.iconst 40, 2), none, some (.newarray .int, 2),
  none, some (.putfield 132, 3), none, none, some (.aload 0, 1), some (.iconst 4, 1), some (.newarray .int, 2), none,
  some (.putfield 133, 3), none, none, some (.aload 0, 1), some (.iconst 0, 1), some (.putfield 134, 3), none, none,
  some (.aload 0, 1), some (.iconst 0, 1), some (.putfield 135, 3), none, none, some (.aload 0, 1), some (.iconst 0, 1), some (.putfield 136, 3),
  none, none, some (.aload 0, 1), some (.iconst 0, 1), some (.putfield 137, 3), none, none, some (.aload 0, 1),
  some (.iconst 0, 1), some (.putfield 138, 3), none, none, some (.aload 0, 1), some (.iconst 0, 1), some (.putfield 139, 3), none,
  none, some (.aload 0, 1), some (.iconst 0, 1), some (.putfield 140, 3), none, none, some (.return_, 1)]
def xg10 : List (Option (Instr × Nat)) := [some (.aload 1, 1), some (.getfield 128, 3), none, none, some (.iconst 0, 1), some (.aload 0, 1), some (.getfield 128, 3), none,
  none, some (.iconst 0, 1), some (.aload 0, 1), some (.getfield 128, 3), none, none, some (.arraylength, 1), some (.invokestatic 9998, 3),
  none, none, some (.aload 1, 1), some (.getfield 129, 3), none, none, some (.iconst 0, 1), some (.aload 0, 1),
  some (.getfield 129, 3), none, none, some (.iconst 0, 1), some (.aload 0, 1), some (.getfield 129, 3), none, none,
  some (.arraylength, 1), some (.invokestatic 9998, 3), none, none, some (.aload 1, 1), some (.getfield 130, 3), none, none,
  some (.iconst 0, 1), some (.aload 0, 1), some (.getfield 130, 3), none, none, some (.iconst 0, 1), some (.aload 0, 1), some (.getfield 130, 3),
  none, none, some (.arraylength, 1), some (.invokestatic 9998, 3), none, none, some (.aload 1, 1), some (.getfield 131, 3),
  none, none, some (.iconst 0, 1), some (.aload 0, 1), some (.getfield 131, 3), none, none, some (.iconst 0, 1),
  some (.aload 0, 1), some (.getfield 131, 3), none, none, some (.arraylength, 1), some (.invokestatic 9998, 3), none, none,
  some (.aload 1, 1), some (.getfield 132, 3), none, none, some (.iconst 0, 1), some (.aload 0, 1), some (.getfield 132, 3), none,
  none, some (.iconst 0, 1), some (.aload 0, 1), some (.getfield 132, 3), none, none, some (.arraylength, 1), some (.invokestatic 9998, 3),
  none, none, some (.aload 0, 1), some (.aload 1, 1), some (.getfield 134, 3), none, none, some (.putfield 134, 3),
  none, none, some (.aload 0, 1), some (.aload 1, 1), some (.getfield 135, 3), none, none, some (.putfield 135, 3),
  none, none, some (.aload 0, 1), some (.aload 1, 1), some (.getfield 136, 3), none, none, some (.putfield 136, 3),
  none, none, some (.aload 0, 1), some (.aload 1, 1), some (.getfield 137, 3), none, none, some (.putfield 137, 3),
  none, none, some (.aload 0, 1), some (.aload 1, 1), some (.getfield 138, 3), none, none, some (.putfield 138, 3),
  none, none, some (.aload 0, 1), some (.aload 1, 1), some (.getfield 139, 3), none, none, some (.putfield 139, 3),
  none, none, some (.aload 0, 1), some (.aload 1, 1), some (.getfield 140, 3), none, none, some (.putfield 140, 3),
  none, none, some (.return_, 1)]
def xg11 : List (Option (Instr × Nat)) := [some (.aload 0, 1), some (.getfield 130, 3), none, none, some (.iload 1, 1), some (.iaload, 1), some (.aload 0, 1), some (.getfield 135, 3),
  none, none, some (.if_icmp .gt 17, 3), none, none, some (.iconst 1, 1), some (.goto 18, 3), none,
  none, some (.iconst 0, 1), some (.ireturn, 1)]
def xg12 : List (Option (Instr × Nat)) := [some (.iconst 0, 1), some (.istore 2, 1), some (.iload 2, 1), some (.aload 0, 1), some (.getfield 139, 3), none, none, some (.if_icmp .ge 44, 3),
  none, none, some (.aload 0, 1), some (.getfield 131, 3), none, none, some (.iconst 2, 1), some (.iload 2, 1),
  some (.imul, 1), some (.iaload, 1), some (.iload 1, 1), some (.if_icmp .gt 38, 3), none, none, some (.iload 1, 1), some (.aload 0, 1),
  some (.getfield 131, 3), none, none, some (.iconst 2, 1), some (.iload 2, 1), some (.imul, 1), some (.iconst 1, 1), some (.iadd, 1),
  some (.iaload, 1), some (.if_icmp .gt 38, 3), none, none, some (.iconst 1, 1), some (.ireturn, 1), some (.iinc 2 1, 3), none,
  none, some (.goto 2, 3), none, none, some (.iconst 0, 1), some (.ireturn, 1)]
def xg13 : List (Option (Instr × Nat)) := [some (.iconst (-1), 1), some (.istore 3, 1), some (.iconst 24, 2), none, some (.istore 4, 2), none, some (.iconst 0, 1), some (.istore 5, 2),
  none, some (.iload 5, 2), none, some (.aload 0, 1), some (.getfield 140, 3), none, none, some (.if_icmp .ge 70, 3),
  none, none, some (.aload 0, 1), some (.getfield 132, 3), none, none, some (.iconst 4, 1), some (.iload 5, 2),
  none, some (.imul, 1), some (.iconst 2, 1), some (.iadd, 1), some (.iaload, 1), some (.istore 6, 2), none, some (.aload 0, 1),
  some (.getfield 132, 3), none, none, some (.iconst 4, 1), some (.iload 5, 2), none, some (.imul, 1), some (.iaload, 1),
  some (.iload 1, 1), some (.if_icmp .ne 64, 3), none, none, some (.iload 6, 2), none, some (.iload 2, 1), some (.if_icmp .lt 64, 3),
  none, none, some (.iload 6, 2), none, some (.iload 4, 2), none, some (.if_icmp .ge 64, 3), none,
  none, some (.iload 5, 2), none, some (.istore 3, 1), some (.iload 6, 2), none, some (.istore 4, 2), none,
  some (.iinc 5 1, 3), none, none, some (.goto 9, 3), none, none, some (.iload 3, 1), some (.ireturn, 1)]
def xg14 : List (Option (Instr × Nat)) := [some (.aload 0, 1), some (.iload 1, 1), some (.iload 2, 1), some (.invokevirtual 13, 3), none, none, some (.istore 3, 1), some (.iload 3, 1),
  some (.ifCond .ge 20, 3), none, none, some (.aload 0, 1), some (.getfield 129, 3), none, none, some (.iload 1, 1),
  some (.iaload, 1), some (.goto 30, 3), none, none, some (.aload 0, 1), some (.getfield 132, 3), none, none,
  some (.iconst 4, 1), some (.iload 3, 1), some (.imul, 1), some (.iconst 1, 1), some (.iadd, 1), some (.iaload, 1), some (.ireturn, 1)]
def xg15 : List (Option (Instr × Nat)) := [some (.aload 0, 1), some (.invokevirtual 16, 3), none, none, some (.aload 1, 1), some (.invokevirtual 57, 3), none, none,
  some (.iconst 0, 1), some (.istore 2, 1), some (.iload 2, 1), some (.iconst 40, 2), none, some (.if_icmp .gt 121, 3), none, none,
  some (.aload 1, 1), some (.ldc 0, 2), none, some (.invokevirtual 62, 3), none, none, some (.istore 3, 1), some (.iload 3, 1),
  some (.ifCond .ge 33, 3), none, none, some (.aload 1, 1), some (.iconst 0, 1), some (.invokevirtual 64, 3), none, none,
  some (.ireturn, 1), some (.iload 2, 1), some (.iconst 40, 2), none, some (.if_icmp .eq 56, 3), none, none, some (.aload 0, 1),
  some (.iload 3, 1), some (.iload 2, 1), some (.ifCond .ne 49, 3), none, none, some (.iconst 1, 1), some (.goto 50, 3), none,
  none, some (.iconst 0, 1), some (.invokevirtual 18, 3), none, none, some (.ifCond .ne 62, 3), none, none,
  some (.aload 1, 1), some (.iconst 4, 1), some (.invokevirtual 64, 3), none, none, some (.ireturn, 1), some (.aload 1, 1), some (.invokevirtual 58, 3),
  none, none, some (.aload 0, 1), some (.aload 1, 1), some (.iload 3, 1), some (.invokevirtual 19, 3), none, none,
  some (.ifCond .ne 77, 3), none, none, some (.iconst 0, 1), some (.ireturn, 1), some (.aload 1, 1), some (.iconst 59, 2), none,
  some (.invokevirtual 60, 3), none, none, some (.ifCond .ne 111, 3), none, none, some (.aload 0, 1), some (.invokevirtual 17, 3),
  none, none, some (.aload 1, 1), some (.getfield 515, 3), none, none, some (.ifCond .eq 105, 3), none,
  none, some (.aload 1, 1), some (.iconst 0, 1), some (.invokevirtual 64, 3), none, none, some (.ifCond .eq 109, 3), none,
  none, some (.iconst 1, 1), some (.goto 110, 3), none, none, some (.iconst 0, 1), some (.ireturn, 1), some (.aload 1, 1),
  some (.invokevirtual 58, 3), none, none, some (.iinc 2 1, 3), none, none, some (.goto 10, 3), none,
  none, some (.iconst 0, 1), some (.ireturn, 1)]
def xg16 : List (Option (Instr × Nat)) := [some (.aload 0, 1), some (.getfield 128, 3), none, none, some (.iconst 0, 1), some (.invokestatic 255, 3), none, none,
  some (.aload 0, 1), some (.iconst 0, 1), some (.putfield 134, 3), none, none, some (.aload 0, 1), some (.iconst 0, 1), some (.putfield 135, 3),
  none, none, some (.aload 0, 1), some (.iconst (-1), 1), some (.putfield 136, 3), none, none, some (.aload 0, 1),
  some (.iconst (-1), 1), some (.putfield 137, 3), none, none, some (.aload 0, 1), some (.iconst 0, 1), some (.putfield 138, 3), none,
  none, some (.aload 0, 1), some (.iconst 0, 1), some (.putfield 139, 3), none, none, some (.aload 0, 1), some (.iconst 0, 1),
  some (.putfield 140, 3), none, none, some (.return_, 1)]
def xg17 : List (Option (Instr × Nat)) := [some (.aload 0, 1), some (.aload 0, 1), some (.getfield 136, 3), none, none, some (.iconst (-1), 1), some (.if_icmp .ne 14, 3), none,
  none, some (.iconst 30, 2), none, some (.goto 18, 3), none, none, some (.aload 0, 1), some (.getfield 136, 3),
  none, none, some (.putfield 136, 3), none, none, some (.aload 0, 1), some (.aload 0, 1), some (.getfield 137, 3),
  none, none, some (.iconst (-1), 1), some (.if_icmp .ne 34, 3), none, none, some (.iconst 0, 1), some (.goto 38, 3),
  none, none, some (.aload 0, 1), some (.getfield 137, 3), none, none, some (.putfield 137, 3), none,
  none, some (.return_, 1)]
def xg18 : List (Option (Instr × Nat)) := [some (.iload 2, 1), some (.ifCond .ne 8, 3), none, none, some (.iload 1, 1), some (.ifCond .ne 22, 3), none, none,
  some (.iload 2, 1), some (.ifCond .eq 20, 3), none, none, some (.iload 1, 1), some (.ifCond .ne 20, 3), none, none,
  some (.iconst 1, 1), some (.goto 21, 3), none, none, some (.iconst 0, 1), some (.ireturn, 1), some (.iload 1, 1), some (.tableswitch 116 1 5 #[56, 71, 73, 87, 102], 33),
  none, none, none, none, none, none, none, none,
  none, none, none, none, none, none, none, none,
  none, none, none, none, none, none, none, none,
  none, none, none, none, none, none, none, none,
  some (.aload 0, 1), some (.getfield 138, 3), none, none, some (.iconst 6, 2), none, some (.if_icmp .ge 69, 3), none,
  none, some (.iconst 1, 1), some (.goto 70, 3), none, none, some (.iconst 0, 1), some (.ireturn, 1), some (.iconst 1, 1),
  some (.ireturn, 1), some (.aload 0, 1), some (.getfield 139, 3), none, none, some (.iconst 4, 1), some (.if_icmp .ge 85, 3), none,
  none, some (.iconst 1, 1), some (.goto 86, 3), none, none, some (.iconst 0, 1), some (.ireturn, 1), some (.aload 0, 1),
  some (.getfield 140, 3), none, none, some (.iconst 10, 2), none, some (.if_icmp .ge 100, 3), none, none,
  some (.iconst 1, 1), some (.goto 101, 3), none, none, some (.iconst 0, 1), some (.ireturn, 1), some (.aload 0, 1), some (.getfield 136, 3),
  none, none, some (.iconst (-1), 1), some (.if_icmp .ne 114, 3), none, none, some (.iconst 1, 1), some (.goto 115, 3),
  none, none, some (.iconst 0, 1), some (.ireturn, 1), some (.aload 0, 1), some (.getfield 137, 3), none, none,
  some (.iconst (-1), 1), some (.if_icmp .ne 128, 3), none, none, some (.iconst 1, 1), some (.goto 129, 3), none, none,
  some (.iconst 0, 1), some (.ireturn, 1)]
def xg19 : List (Option (Instr × Nat)) := [some (.iload 2, 1), some (.tableswitch 96 0 5 #[40, 46, 52, 58, 64, 70], 39), none, none, none, none, none, none,
  none, none, none, none, none, none, none, none,
  none, none, none, none, none, none, none, none,
  none, none, none, none, none, none, none, none,
  none, none, none, none, none, none, none, none,
  some (.aload 0, 1), some (.aload 1, 1), some (.invokevirtual 20, 3), none, none, some (.ireturn, 1), some (.aload 0, 1), some (.aload 1, 1),
  some (.invokevirtual 21, 3), none, none, some (.ireturn, 1), some (.aload 0, 1), some (.aload 1, 1), some (.invokevirtual 22, 3), none,
  none, some (.ireturn, 1), some (.aload 0, 1), some (.aload 1, 1), some (.invokevirtual 23, 3), none, none, some (.ireturn, 1),
  some (.aload 0, 1), some (.aload 1, 1), some (.invokevirtual 24, 3), none, none, some (.ireturn, 1), some (.aload 0, 1), some (.aload 1, 1),
  some (.iconst 0, 1), some (.iconst 1, 1), some (.iconst 99, 2), none, some (.invokevirtual 25, 3), none, none, some (.ifCond .ne 84, 3),
  none, none, some (.iconst 0, 1), some (.ireturn, 1), some (.aload 0, 1), some (.aload 0, 1), some (.getfield 133, 3), none,
  none, some (.iconst 0, 1), some (.iaload, 1), some (.putfield 136, 3), none, none, some (.iconst 1, 1), some (.ireturn, 1),
  some (.aload 0, 1), some (.aload 1, 1), some (.iconst 0, 1), some (.iconst 0, 1), some (.aload 0, 1), some (.getfield 134, 3), none, none,
  some (.iconst 1, 1), some (.isub, 1), some (.invokevirtual 25, 3), none, none, some (.ifCond .ne 114, 3), none, none,
  some (.iconst 0, 1), some (.ireturn, 1), some (.aload 0, 1), some (.aload 0, 1), some (.getfield 133, 3), none, none, some (.iconst 0, 1),
  some (.iaload, 1), some (.putfield 137, 3), none, none, some (.iconst 1, 1), some (.ireturn, 1)]
def xg20 : List (Option (Instr × Nat)) := [some (.aload 0, 1), some (.aload 1, 1), some (.iconst 0, 1), some (.iconst 2, 1), some (.iconst 10, 2), none, some (.invokevirtual 25, 3), none,
  none, some (.ifCond .eq 24, 3), none, none, some (.aload 0, 1), some (.aload 1, 1), some (.iconst 1, 1), some (.iconst 0, 1),
  some (.iconst 9, 2), none, some (.invokevirtual 25, 3), none, none, some (.ifCond .ne 26, 3), none, none,
  some (.iconst 0, 1), some (.ireturn, 1), some (.aload 0, 1), some (.aload 0, 1), some (.getfield 133, 3), none, none, some (.iconst 0, 1),
  some (.iaload, 1), some (.putfield 134, 3), none, none, some (.aload 0, 1), some (.aload 0, 1), some (.getfield 133, 3), none,
  none, some (.iconst 1, 1), some (.iaload, 1), some (.putfield 135, 3), none, none, some (.iconst 1, 1), some (.ireturn, 1)]
def xg21 : List (Option (Instr × Nat)) := [some (.aload 0, 1), some (.aload 1, 1), some (.iconst 0, 1), some (.iconst 0, 1), some (.aload 0, 1), some (.getfield 134, 3), none, none,
  some (.iconst 1, 1), some (.isub, 1), some (.invokevirtual 25, 3), none, none, some (.ifCond .eq 28, 3), none, none,
  some (.aload 0, 1), some (.aload 1, 1), some (.iconst 1, 1), some (.iconst 0, 1), some (.iconst 9, 2), none, some (.invokevirtual 25, 3), none,
  none, some (.ifCond .ne 30, 3), none, none, some (.iconst 0, 1), some (.ireturn, 1), some (.aload 0, 1), some (.getfield 129, 3),
  none, none, some (.aload 0, 1), some (.getfield 138, 3), none, none, some (.aload 0, 1), some (.getfield 133, 3),
  none, none, some (.iconst 0, 1), some (.iaload, 1), some (.iastore, 1), some (.aload 0, 1), some (.getfield 130, 3), none,
  none, some (.aload 0, 1), some (.getfield 138, 3), none, none, some (.aload 0, 1), some (.getfield 133, 3), none,
  none, some (.iconst 1, 1), some (.iaload, 1), some (.iastore, 1), some (.aload 0, 1), some (.dup, 1), some (.getfield 138, 3), none,
  none, some (.iconst 1, 1), some (.iadd, 1), some (.putfield 138, 3), none, none, some (.iconst 1, 1), some (.ireturn, 1)]
def xg22 : List (Option (Instr × Nat)) := [some (.aload 0, 1), some (.aload 1, 1), some (.iconst 0, 1), some (.iconst 0, 1), some (.aload 0, 1), some (.getfield 134, 3), none, none,
  some (.iconst 1, 1), some (.isub, 1), some (.invokevirtual 25, 3), none, none, some (.ifCond .eq 28, 3), none, none,
  some (.aload 0, 1), some (.aload 1, 1), some (.iconst 1, 1), some (.iconst 0, 1), some (.iconst 9, 2), none, some (.invokevirtual 25, 3), none,
  none, some (.ifCond .ne 30, 3), none, none, some (.iconst 0, 1), some (.ireturn, 1), some (.aload 0, 1), some (.getfield 128, 3),
  none, none, some (.aload 0, 1), some (.getfield 133, 3), none, none, some (.iconst 0, 1), some (.iaload, 1),
  some (.aload 0, 1), some (.getfield 133, 3), none, none, some (.iconst 1, 1), some (.iaload, 1), some (.iastore, 1), some (.iconst 1, 1),
  some (.ireturn, 1)]
def xg23 : List (Option (Instr × Nat)) := [some (.aload 0, 1), some (.aload 1, 1), some (.iconst 0, 1), some (.iconst 0, 1), some (.iconst 23, 2), none, some (.invokevirtual 25, 3), none,
  none, some (.ifCond .eq 29, 3), none, none, some (.aload 0, 1), some (.aload 1, 1), some (.iconst 1, 1), some (.aload 0, 1),
  some (.getfield 133, 3), none, none, some (.iconst 0, 1), some (.iaload, 1), some (.iconst 23, 2), none, some (.invokevirtual 25, 3),
  none, none, some (.ifCond .ne 31, 3), none, none, some (.iconst 0, 1), some (.ireturn, 1), some (.aload 0, 1),
  some (.getfield 131, 3), none, none, some (.iconst 2, 1), some (.aload 0, 1), some (.getfield 139, 3), none, none,
  some (.imul, 1), some (.aload 0, 1), some (.getfield 133, 3), none, none, some (.iconst 0, 1), some (.iaload, 1), some (.iastore, 1),
  some (.aload 0, 1), some (.getfield 131, 3), none, none, some (.iconst 2, 1), some (.aload 0, 1), some (.getfield 139, 3), none,
  none, some (.imul, 1), some (.iconst 1, 1), some (.iadd, 1), some (.aload 0, 1), some (.getfield 133, 3), none, none,
  some (.iconst 1, 1), some (.iaload, 1), some (.iastore, 1), some (.aload 0, 1), some (.dup, 1), some (.getfield 139, 3), none, none,
  some (.iconst 1, 1), some (.iadd, 1), some (.putfield 139, 3), none, none, some (.iconst 1, 1), some (.ireturn, 1)]
def xg24 : List (Option (Instr × Nat)) := [some (.aload 0, 1), some (.aload 1, 1), some (.iconst 0, 1), some (.iconst 0, 1), some (.aload 0, 1), some (.getfield 138, 3), none, none,
  some (.iconst 1, 1), some (.isub, 1), some (.invokevirtual 25, 3), none, none, some (.ifCond .eq 60, 3), none, none,
  some (.aload 0, 1), some (.aload 1, 1), some (.iconst 1, 1), some (.iconst 0, 1), some (.aload 0, 1), some (.getfield 134, 3), none, none,
  some (.iconst 1, 1), some (.isub, 1), some (.invokevirtual 25, 3), none, none, some (.ifCond .eq 60, 3), none, none,
  some (.aload 0, 1), some (.aload 1, 1), some (.iconst 2, 1), some (.iconst 0, 1), some (.iconst 23, 2), none, some (.invokevirtual 25, 3), none,
  none, some (.ifCond .eq 60, 3), none, none, some (.aload 0, 1), some (.aload 1, 1), some (.iconst 3, 1), some (.iconst 1, 1),
  some (.iconst 50, 2), none, some (.invokevirtual 25, 3), none, none, some (.ifCond .eq 60, 3), none, none,
  some (.iconst 1, 1), some (.goto 61, 3), none, none, some (.iconst 0, 1), some (.istore 2, 1), some (.iload 2, 1), some (.ifCond .ne 68, 3),
  none, none, some (.iconst 0, 1), some (.ireturn, 1), some (.aload 0, 1), some (.getfield 133, 3), none, none,
  some (.iconst 0, 1), some (.aload 0, 1), some (.getfield 132, 3), none, none, some (.iconst 4, 1), some (.aload 0, 1), some (.getfield 140, 3),
  none, none, some (.imul, 1), some (.iconst 4, 1), some (.invokestatic 9998, 3), none, none, some (.aload 0, 1),
  some (.dup, 1), some (.getfield 140, 3), none, none, some (.iconst 1, 1), some (.iadd, 1), some (.putfield 140, 3), none,
  none, some (.iconst 1, 1), some (.ireturn, 1)]
def xg25 : List (Option (Instr × Nat)) := [some (.aload 1, 1), some (.getfield 515, 3), none, none, some (.iconst 2, 1), some (.if_icmp .eq 14, 3), none, none,
  some (.aload 1, 1), some (.iconst 0, 1), some (.invokevirtual 64, 3), none, none, some (.ireturn, 1), some (.aload 1, 1), some (.invokevirtual 61, 3),
  none, none, some (.ifCond .ne 38, 3), none, none, some (.aload 1, 1), some (.getfield 518, 3), none,
  none, some (.iload 3, 1), some (.if_icmp .lt 38, 3), none, none, some (.aload 1, 1), some (.getfield 518, 3), none,
  none, some (.iload 4, 2), none, some (.if_icmp .le 44, 3), none, none, some (.aload 1, 1), some (.iconst 1, 1),
  some (.invokevirtual 64, 3), none, none, some (.ireturn, 1), some (.aload 0, 1), some (.getfield 133, 3), none, none,
  some (.iload 2, 1), some (.aload 1, 1), some (.getfield 518, 3), none, none, some (.iastore, 1), some (.aload 1, 1), some (.invokevirtual 58, 3),
  none, none, some (.iconst 1, 1), some (.ireturn, 1)]
def xg26 : List (Option (Instr × Nat)) := [some (.aload 0, 1), some (.invokespecial 9999, 3), none, none, some (.aload 0, 1), some (.iconst 660, 3), none, none,
  some (.newarray .int, 2), none, some (.putfield 192, 3), none, none, some (.aload 0, 1), some (.iconst 0, 1), some (.putfield 193, 3),
  none, none, some (.aload 0, 1), some (.iconst 0, 1), some (.putfield 194, 3), none, none, some (.return_, 1)]
def xg27 : List (Option (Instr × Nat)) := [some (.aload 1, 1), some (.getfield 640, 3), none, none, some (.iconst 0, 1), some (.aload 0, 1), some (.getfield 192, 3), none,
  none, some (.aload 0, 1), some (.getfield 193, 3), none, none, some (.iconst 33, 2), none, some (.imul, 1),
  some (.iconst 33, 2), none, some (.invokestatic 9998, 3), none, none, some (.aload 0, 1), some (.aload 0, 1), some (.getfield 193, 3),
  none, none, some (.iconst 1, 1), some (.iadd, 1), some (.iconst 20, 2), none, some (.irem, 1), some (.putfield 193, 3),
  none, none, some (.aload 0, 1), some (.aload 0, 1), some (.getfield 194, 3), none, none, some (.iconst 1, 1),
  some (.iadd, 1), some (.iconst 20, 2), none, some (.invokestatic 248, 3), none, none, some (.putfield 194, 3), none,
  none, some (.return_, 1)]
def xg28 : List (Option (Instr × Nat)) := [some (.aload 0, 1), some (.getfield 194, 3), none, none, some (.ifCond .ne 9, 3), none, none, some (.iconst 0, 1),
  some (.ireturn, 1), some (.aload 0, 1), some (.dup, 1), some (.getfield 194, 3), none, none, some (.iconst 1, 1), some (.isub, 1),
  some (.putfield 194, 3), none, none, some (.aload 0, 1), some (.aload 0, 1), some (.getfield 193, 3), none, none,
  some (.iconst 20, 2), none, some (.iadd, 1), some (.iconst 1, 1), some (.isub, 1), some (.iconst 20, 2), none, some (.irem, 1),
  some (.putfield 193, 3), none, none, some (.aload 0, 1), some (.getfield 192, 3), none, none, some (.aload 0, 1),
  some (.getfield 193, 3), none, none, some (.iconst 33, 2), none, some (.imul, 1), some (.aload 1, 1), some (.getfield 640, 3),
  none, none, some (.iconst 0, 1), some (.iconst 33, 2), none, some (.invokestatic 9998, 3), none, none,
  some (.iconst 1, 1), some (.ireturn, 1)]
def xg29 : List (Option (Instr × Nat)) := [some (.aload 0, 1), some (.invokespecial 9999, 3), none, none, some (.aload 0, 1), some (.iconst 40, 2), none, some (.newarray .int, 2),
  none, some (.putfield 256, 3), none, none, some (.aload 0, 1), some (.iconst 0, 1), some (.putfield 257, 3), none,
  none, some (.return_, 1)]
def xg30 : List (Option (Instr × Nat)) := [some (.aload 0, 1), some (.getfield 257, 3), none, none, some (.iconst 10, 2), none, some (.if_icmp .ge 82, 3), none,
  none, some (.aload 0, 1), some (.getfield 256, 3), none, none, some (.iconst 4, 1), some (.aload 0, 1), some (.getfield 257, 3),
  none, none, some (.imul, 1), some (.iload 1, 1), some (.iastore, 1), some (.aload 0, 1), some (.getfield 256, 3), none,
  none, some (.iconst 4, 1), some (.aload 0, 1), some (.getfield 257, 3), none, none, some (.imul, 1), some (.iconst 1, 1),
  some (.iadd, 1), some (.iload 2, 1), some (.iastore, 1), some (.aload 0, 1), some (.getfield 256, 3), none, none, some (.iconst 4, 1),
  some (.aload 0, 1), some (.getfield 257, 3), none, none, some (.imul, 1), some (.iconst 2, 1), some (.iadd, 1), some (.iload 3, 1),
  some (.iastore, 1), some (.aload 0, 1), some (.getfield 256, 3), none, none, some (.iconst 4, 1), some (.aload 0, 1), some (.getfield 257, 3),
  none, none, some (.imul, 1), some (.iconst 3, 1), some (.iadd, 1), some (.iload 4, 2), none, some (.ifCond .eq 70, 3),
  none, none, some (.iconst 1, 1), some (.goto 71, 3), none, none, some (.iconst 0, 1), some (.iastore, 1),
  some (.aload 0, 1), some (.dup, 1), some (.getfield 257, 3), none, none, some (.iconst 1, 1), some (.iadd, 1), some (.putfield 257, 3),
  none, none, some (.return_, 1)]
def xg31 : List (Option (Instr × Nat)) := [some (.aload 1, 1), some (.getfield 256, 3), none, none, some (.iconst 0, 1), some (.aload 0, 1), some (.getfield 256, 3), none,
  none, some (.iconst 0, 1), some (.aload 0, 1), some (.getfield 256, 3), none, none, some (.arraylength, 1), some (.invokestatic 9998, 3),
  none, none, some (.aload 0, 1), some (.aload 1, 1), some (.getfield 257, 3), none, none, some (.putfield 257, 3),
  none, none, some (.return_, 1)]
def xg32 : List (Option (Instr × Nat)) := [some (.iconst 0, 1), some (.istore 1, 1), some (.iconst 0, 1), some (.istore 2, 1), some (.iload 2, 1), some (.aload 0, 1), some (.getfield 257, 3), none,
  none, some (.if_icmp .ge 31, 3), none, none, some (.iload 1, 1), some (.aload 0, 1), some (.getfield 256, 3), none,
  none, some (.iconst 4, 1), some (.iload 2, 1), some (.imul, 1), some (.iaload, 1), some (.invokestatic 247, 3), none, none,
  some (.istore 1, 1), some (.iinc 2 1, 3), none, none, some (.goto 4, 3), none, none, some (.iload 1, 1),
  some (.ireturn, 1)]
def xg33 : List (Option (Instr × Nat)) := [some (.iconst 0, 1), some (.istore 4, 2), none, some (.iload 4, 2), none, some (.aload 0, 1), some (.getfield 257, 3), none,
  none, some (.if_icmp .ge 131, 3), none, none, some (.aload 0, 1), some (.getfield 256, 3), none, none,
  some (.iconst 4, 1), some (.iload 4, 2), none, some (.imul, 1), some (.iaload, 1), some (.iload 3, 1), some (.if_icmp .eq 28, 3), none,
  none, some (.goto 125, 3), none, none, some (.iconst 0, 1), some (.istore 5, 2), none, some (.iconst 0, 1),
  some (.istore 6, 2), none, some (.iload 6, 2), none, some (.iload 2, 1), some (.if_icmp .ge 107, 3), none, none,
  some (.aload 1, 1), some (.getfield 640, 3), none, none, some (.iconst 0, 1), some (.iload 6, 2), none, some (.iadd, 1),
  some (.iaload, 1), some (.aload 0, 1), some (.getfield 256, 3), none, none, some (.iconst 4, 1), some (.iload 4, 2), none,
  some (.imul, 1), some (.iconst 1, 1), some (.iadd, 1), some (.iaload, 1), some (.if_icmp .ne 67, 3), none, none, some (.iconst 1, 1),
  some (.goto 68, 3), none, none, some (.iconst 0, 1), some (.istore 7, 2), none, some (.iload 7, 2), none,
  some (.ifCond .eq 101, 3), none, none, some (.aload 1, 1), some (.iload 6, 2), none, some (.invokevirtual 84, 3), none,
  none, some (.invokestatic 245, 3), none, none, some (.aload 0, 1), some (.getfield 256, 3), none, none,
  some (.iconst 4, 1), some (.iload 4, 2), none, some (.imul, 1), some (.iconst 2, 1), some (.iadd, 1), some (.iaload, 1), some (.if_icmp .ne 101, 3),
  none, none, some (.iconst 1, 1), some (.istore 5, 2), none, some (.iinc 6 1, 3), none, none,
  some (.goto 34, 3), none, none, some (.iload 5, 2), none, some (.aload 0, 1), some (.getfield 256, 3), none,
  none, some (.iconst 4, 1), some (.iload 4, 2), none, some (.imul, 1), some (.iconst 3, 1), some (.iadd, 1), some (.iaload, 1),
  some (.if_icmp .eq 125, 3), none, none, some (.iconst 0, 1), some (.ireturn, 1), some (.iinc 4 1, 3), none, none,
  some (.goto 3, 3), none, none, some (.iconst 1, 1), some (.ireturn, 1)]
def xg34 : List (Option (Instr × Nat)) := [some (.aload 0, 1), some (.invokespecial 9999, 3), none, none, some (.aload 0, 1), some (.iconst 5, 1), some (.anewarray 6, 3), none,
  none, some (.putfield 320, 3), none, none, some (.aload 0, 1), some (.iconst 4, 1), some (.newarray .int, 2), none,
  some (.putfield 321, 3), none, none, some (.aload 0, 1), some (.iconst 0, 1), some (.putfield 322, 3), none, none,
  some (.aload 0, 1), some (.iconst 0, 1), some (.putfield 323, 3), none, none, some (.aload 0, 1), some (.iconst 4, 1), some (.newarray .int, 2),
  none, some (.putfield 324, 3), none, none, some (.aload 0, 1), some (.iconst 0, 1), some (.putfield 325, 3), none,
  none, some (.iconst 0, 1), some (.istore 1, 1), some (.iload 1, 1), some (.iconst 4, 1), some (.if_icmp .gt 67, 3), none, none,
  some (.aload 0, 1), some (.getfield 320, 3), none, none, some (.iload 1, 1), some (.new 10, 3), none, none,
  some (.dup, 1), some (.invokespecial 79, 3), none, none, some (.aastore, 1), some (.iinc 1 1, 3), none, none,
  some (.goto 43, 3), none, none, some (.return_, 1)]
def xg35 : List (Option (Instr × Nat)) := [some (.aload 0, 1), some (.getfield 320, 3), none, none, some (.iconst 0, 1), some (.aaload, 1), some (.aload 2, 1), some (.invokevirtual 80, 3),
  none, none, some (.aload 0, 1), some (.iconst 0, 1), some (.putfield 322, 3), none, none, some (.aload 0, 1),
  some (.aload 1, 1), some (.iload 3, 1), some (.iconst 0, 1), some (.iconst 0, 1), some (.invokevirtual 36, 3), none, none, some (.return_, 1)]
def xg36 : List (Option (Instr × Nat)) := [some (.iload 3, 1), some (.iload 2, 1), some (.if_icmp .ge 10, 3), none, none, some (.iload 3, 1), some (.iconst 4, 1), some (.if_icmp .lt 26, 3),
  none, none, some (.aload 0, 1), some (.aload 0, 1), some (.getfield 320, 3), none, none, some (.iload 3, 1),
  some (.aaload, 1), some (.invokevirtual 86, 3), none, none, some (.iload 4, 2), none, some (.invokevirtual 38, 3), none,
  none, some (.return_, 1), some (.aload 0, 1), some (.getfield 320, 3), none, none, some (.iload 3, 1), some (.iconst 1, 1),
  some (.iadd, 1), some (.aaload, 1), some (.astore 5, 2), none, some (.iconst (-1), 1), some (.istore 6, 2), none, some (.iload 6, 2),
  none, some (.aload 1, 1), some (.getfield 2, 3), none, none, some (.getfield 138, 3), none, none,
  some (.if_icmp .ge 123, 3), none, none, some (.aload 5, 2), none, some (.aload 0, 1), some (.getfield 320, 3), none,
  none, some (.iload 3, 1), some (.aaload, 1), some (.invokevirtual 80, 3), none, none, some (.iload 6, 2), none,
  some (.iconst (-1), 1), some (.if_icmp .eq 90, 3), none, none, some (.aload 1, 1), some (.getfield 2, 3), none, none,
  some (.iload 6, 2), none, some (.invokevirtual 11, 3), none, none, some (.ifCond .eq 117, 3), none, none,
  some (.aload 5, 2), none, some (.iload 6, 2), none, some (.invokestatic 37, 3), none, none, some (.ifCond .eq 117, 3),
  none, none, some (.aload 0, 1), some (.getfield 321, 3), none, none, some (.iload 3, 1), some (.iload 6, 2),
  none, some (.iastore, 1), some (.aload 0, 1), some (.aload 1, 1), some (.iload 2, 1), some (.iload 3, 1), some (.iconst 1, 1), some (.iadd, 1),
  some (.iload 4, 2), none, some (.aload 1, 1), some (.aload 5, 2), none, some (.iconst 0, 1), some (.invokevirtual 1, 3), none,
  none, some (.iadd, 1), some (.invokevirtual 36, 3), none, none, some (.iinc 6 1, 3), none, none,
  some (.goto 39, 3), none, none, some (.return_, 1)]
def xg37 : List (Option (Instr × Nat)) := [some (.iconst 0, 1), some (.istore 2, 1), some (.iconst 0, 1), some (.istore 3, 1), some (.iload 3, 1), some (.iconst 2, 1), some (.if_icmp .ge 68, 3), none,
  none, some (.aload 0, 1), some (.iload 3, 1), some (.invokevirtual 83, 3), none, none, some (.aload 0, 1), some (.getfield 640, 3),
  none, none, some (.iconst 0, 1), some (.iload 1, 1), some (.iadd, 1), some (.iaload, 1), some (.if_icmp .ne 29, 3), none,
  none, some (.iconst 1, 1), some (.goto 30, 3), none, none, some (.iconst 0, 1), some (.istore 4, 2), none,
  some (.iload 4, 2), none, some (.ifCond .eq 62, 3), none, none, some (.aload 0, 1), some (.getfield 640, 3), none,
  none, some (.iconst 24, 2), none, some (.iload 3, 1), some (.iadd, 1), some (.iaload, 1), some (.iload 1, 1), some (.if_icmp .eq 62, 3),
  none, none, some (.aload 0, 1), some (.getfield 640, 3), none, none, some (.iconst 24, 2), none,
  some (.iload 3, 1), some (.iadd, 1), some (.iload 1, 1), some (.iastore, 1), some (.iconst 1, 1), some (.istore 2, 1), some (.iinc 3 1, 3), none,
  none, some (.goto 4, 3), none, none, some (.iload 2, 1), some (.ireturn, 1)]
def xg38 : List (Option (Instr × Nat)) := [some (.aload 0, 1), some (.getfield 322, 3), none, none, some (.ifCond .eq 31, 3), none, none, some (.iload 2, 1),
  some (.aload 0, 1), some (.getfield 325, 3), none, none, some (.if_icmp .gt 31, 3), none, none, some (.iload 2, 1),
  some (.aload 0, 1), some (.getfield 325, 3), none, none, some (.if_icmp .ne 60, 3), none, none, some (.iload 1, 1),
  some (.aload 0, 1), some (.getfield 323, 3), none, none, some (.if_icmp .ge 60, 3), none, none, some (.aload 0, 1),
  some (.iconst 1, 1), some (.putfield 322, 3), none, none, some (.aload 0, 1), some (.iload 2, 1), some (.putfield 325, 3), none,
  none, some (.aload 0, 1), some (.iload 1, 1), some (.putfield 323, 3), none, none, some (.aload 0, 1), some (.getfield 321, 3),
  none, none, some (.iconst 0, 1), some (.aload 0, 1), some (.getfield 324, 3), none, none, some (.iconst 0, 1),
  some (.iconst 4, 1), some (.invokestatic 9998, 3), none, none, some (.return_, 1)]
def xg39 : List (Option (Instr × Nat)) := [some (.aload 0, 1), some (.invokespecial 9999, 3), none, none, some (.aload 0, 1), some (.aload 1, 1), some (.putfield 384, 3), none,
  none, some (.aload 0, 1), some (.aload 2, 1), some (.putfield 385, 3), none, none, some (.return_, 1)]
def xg40 : List (Option (Instr × Nat)) := [some (.iconst 0, 1), some (.istore 3, 1), some (.iconst 0, 1), some (.istore 4, 2), none, some (.iload 4, 2), none, some (.iconst 1, 1),
  some (.iadd, 1), some (.aload 0, 1), some (.getfield 385, 3), none, none, some (.arraylength, 1), some (.if_icmp .ge 78, 3), none,
  none, some (.aload 0, 1), some (.getfield 385, 3), none, none, some (.iload 4, 2), none, some (.iaload, 1),
  some (.istore 5, 2), none, some (.aload 0, 1), some (.getfield 385, 3), none, none, some (.iload 4, 2), none,
  some (.iconst 1, 1), some (.iadd, 1), some (.iaload, 1), some (.istore 6, 2), none, some (.iload 5, 2), none, some (.iload 6, 2),
  none, some (.if_icmp .eq 59, 3), none, none, some (.aload 0, 1), some (.iload 5, 2), none, some (.iload 6, 2),
  none, some (.aload 1, 1), some (.aload 2, 1), some (.invokevirtual 41, 3), none, none, some (.ldc2_w 0, 1), some (.lcmp, 1),
  some (.ifCond .eq 69, 3), none, none, some (.aload 0, 1), some (.iload 3, 1), some (.iload 5, 2), none, some (.aload 1, 1),
  some (.aload 2, 1), some (.invokevirtual 41, 3), none, none, some (.lreturn, 1), some (.iload 6, 2), none, some (.istore 3, 1),
  some (.iinc 4 2, 3), none, none, some (.goto 5, 3), none, none, some (.ldc2_w 0, 1), some (.lreturn, 1)]
def xg41 : List (Option (Instr × Nat)) := [some (.iconst 0, 1), some (.istore 5, 2), none, some (.iload 1, 1), some (.istore 6, 2), none, some (.iload 6, 2), none,
  some (.iload 2, 1), some (.if_icmp .ge 151, 3), none, none, some (.aload 0, 1), some (.getfield 384, 3), none, none,
  some (.iload 6, 2), none, some (.iaload, 1), some (.iconst 31, 2), none, some (.iand, 1), some (.istore 7, 2), none,
  some (.iload 7, 2), none, some (.iconst 15, 2), none, some (.if_icmp .gt 76, 3), none, none, some (.iload 5, 2),
  none, some (.aload 4, 2), none, some (.arraylength, 1), some (.if_icmp .lt 41, 3), none, none, some (.ldc2_w 0, 1),
  some (.lreturn, 1), some (.aload 4, 2), none, some (.iload 5, 2), none, some (.iload 7, 2), none, some (.iconst 15, 2),
  none, some (.if_icmp .ne 65, 3), none, none, some (.aload 0, 1), some (.getfield 384, 3), none, none,
  some (.iload 6, 2), none, some (.iaload, 1), some (.iconst 5, 1), some (.ishr, 1), some (.i2l, 1), some (.goto 69, 3), none,
  none, some (.aload 3, 1), some (.iload 7, 2), none, some (.laload, 1), some (.lastore, 1), some (.iinc 5 1, 3), none,
  none, some (.goto 145, 3), none, none, some (.iload 7, 2), none, some (.iconst 16, 2), none,
  some (.if_icmp .ne 110, 3), none, none, some (.iload 5, 2), none, some (.iconst 1, 1), some (.if_icmp .ge 91, 3), none,
  none, some (.ldc2_w 0, 1), some (.lreturn, 1), some (.aload 4, 2), none, some (.iload 5, 2), none, some (.iconst 1, 1),
  some (.isub, 1), some (.ldc2_w 1, 1), some (.aload 4, 2), none, some (.iload 5, 2), none, some (.iconst 1, 1), some (.isub, 1),
  some (.laload, 1), some (.lsub, 1), some (.lastore, 1), some (.goto 145, 3), none, none, some (.iload 5, 2), none,
  some (.iconst 2, 1), some (.if_icmp .ge 118, 3), none, none, some (.ldc2_w 0, 1), some (.lreturn, 1), some (.iinc 5 (-1), 3), none,
  none, some (.aload 4, 2), none, some (.iload 5, 2), none, some (.iconst 1, 1), some (.isub, 1), some (.iload 7, 2),
  none, some (.aload 4, 2), none, some (.iload 5, 2), none, some (.iconst 1, 1), some (.isub, 1), some (.laload, 1),
  some (.aload 4, 2), none, some (.iload 5, 2), none, some (.laload, 1), some (.invokestatic 42, 3), none, none,
  some (.lastore, 1), some (.iinc 6 1, 3), none, none, some (.goto 6, 3), none, none, some (.iload 5, 2),
  none, some (.iconst 1, 1), some (.if_icmp .ne 164, 3), none, none, some (.aload 4, 2), none, some (.iconst 0, 1),
  some (.laload, 1), some (.goto 165, 3), none, none, some (.ldc2_w 0, 1), some (.lreturn, 1)]
def xg42 : List (Option (Instr × Nat)) := [some (.iload 0, 1), some (.tableswitch 164 17 27 #[60, 64, 68, 72, 86, 100, 112, 124, 136, 148, 160], 59), none, none, none, none, none, none,
  none, none, none, none, none, none, none, none,
  none, none, none, none, none, none, none, none,
  none, none, none, none, none, none, none, none,
  none, none, none, none, none, none, none, none,
  none, none, none, none, none, none, none, none,
  none, none, none, none, none, none, none, none,
  none, none, none, none, some (.lload 1, 1), some (.lload 3, 1), some (.ladd, 1), some (.lreturn, 1),
  some (.lload 1, 1), some (.lload 3, 1), some (.lsub, 1), some (.lreturn, 1), some (.lload 1, 1), some (.lload 3, 1), some (.lmul, 1), some (.lreturn, 1),
  some (.lload 3, 1), some (.ldc2_w 0, 1), some (.lcmp, 1), some (.ifCond .ne 82, 3), none, none, some (.ldc2_w 0, 1), some (.goto 85, 3),
  none, none, some (.lload 1, 1), some (.lload 3, 1), some (.ldiv, 1), some (.lreturn, 1), some (.lload 3, 1), some (.ldc2_w 0, 1),
  some (.lcmp, 1), some (.ifCond .ne 96, 3), none, none, some (.ldc2_w 0, 1), some (.goto 99, 3), none, none,
  some (.lload 1, 1), some (.lload 3, 1), some (.lrem, 1), some (.lreturn, 1), some (.lload 1, 1), some (.lload 3, 1), some (.lcmp, 1), some (.ifCond .ge 110, 3),
  none, none, some (.ldc2_w 1, 1), some (.goto 111, 3), none, none, some (.ldc2_w 0, 1), some (.lreturn, 1),
  some (.lload 1, 1), some (.lload 3, 1), some (.lcmp, 1), some (.ifCond .gt 122, 3), none, none, some (.ldc2_w 1, 1), some (.goto 123, 3),
  none, none, some (.ldc2_w 0, 1), some (.lreturn, 1), some (.lload 1, 1), some (.lload 3, 1), some (.lcmp, 1), some (.ifCond .ne 134, 3),
  none, none, some (.ldc2_w 1, 1), some (.goto 135, 3), none, none, some (.ldc2_w 0, 1), some (.lreturn, 1),
  some (.lload 1, 1), some (.lload 3, 1), some (.lcmp, 1), some (.ifCond .lt 146, 3), none, none, some (.ldc2_w 1, 1), some (.goto 147, 3),
  none, none, some (.ldc2_w 0, 1), some (.lreturn, 1), some (.lload 1, 1), some (.lload 3, 1), some (.lcmp, 1), some (.ifCond .le 158, 3),
  none, none, some (.ldc2_w 1, 1), some (.goto 159, 3), none, none, some (.ldc2_w 0, 1), some (.lreturn, 1),
  some (.lload 1, 1), some (.lload 3, 1), some (.land, 1), some (.lreturn, 1), some (.lload 1, 1), some (.lload 3, 1), some (.lor, 1), some (.lreturn, 1)]
def xg43 : List (Option (Instr × Nat)) := [some (.aload 0, 1), some (.invokespecial 9999, 3), none, none, some (.aload 0, 1), some (.iconst 400, 3), none, none,
  some (.newarray .int, 2), none, some (.putfield 448, 3), none, none, some (.aload 0, 1), some (.iconst 24, 2), none,
  some (.newarray .int, 2), none, some (.putfield 449, 3), none, none, some (.aload 0, 1), some (.iconst 0, 1), some (.putfield 450, 3),
  none, none, some (.aload 0, 1), some (.iconst 0, 1), some (.putfield 451, 3), none, none, some (.aload 0, 1),
  some (.iconst 0, 1), some (.putfield 452, 3), none, none, some (.return_, 1)]
def xg44 : List (Option (Instr × Nat)) := [some (.new 6, 3), none, none, some (.dup, 1), some (.aload 0, 1), some (.getfield 448, 3), none, none,
  some (.aload 0, 1), some (.getfield 450, 3), none, none, some (.invokestatic 256, 3), none, none, some (.aload 0, 1),
  some (.getfield 449, 3), none, none, some (.iconst 2, 1), some (.aload 0, 1), some (.getfield 451, 3), none, none,
  some (.imul, 1), some (.invokestatic 256, 3), none, none, some (.invokespecial 39, 3), none, none, some (.areturn, 1)]
def xg45 : List (Option (Instr × Nat)) := [some (.aload 0, 1), some (.iconst 0, 1), some (.putfield 450, 3), none, none, some (.aload 0, 1), some (.iconst 0, 1), some (.putfield 452, 3),
  none, none, some (.aload 1, 1), some (.invokevirtual 57, 3), none, none, some (.iconst 0, 1), some (.istore 2, 1),
  some (.iload 2, 1), some (.iconst 12, 2), none, some (.if_icmp .gt 160, 3), none, none, some (.aload 1, 1), some (.ldc 2, 2),
  none, some (.invokevirtual 62, 3), none, none, some (.ifCond .ge 37, 3), none, none, some (.aload 1, 1),
  some (.iconst 0, 1), some (.invokevirtual 64, 3), none, none, some (.ireturn, 1), some (.iload 2, 1), some (.iconst 12, 2), none,
  some (.if_icmp .ne 49, 3), none, none, some (.aload 1, 1), some (.iconst 4, 1), some (.invokevirtual 64, 3), none, none,
  some (.ireturn, 1), some (.aload 1, 1), some (.invokevirtual 58, 3), none, none, some (.aload 0, 1), some (.aload 1, 1), some (.invokevirtual 50, 3),
  none, none, some (.ifCond .ne 63, 3), none, none, some (.iconst 0, 1), some (.ireturn, 1), some (.aload 0, 1),
  some (.getfield 449, 3), none, none, some (.iconst 2, 1), some (.iload 2, 1), some (.imul, 1), some (.aload 0, 1), some (.getfield 450, 3),
  none, none, some (.iastore, 1), some (.aload 1, 1), some (.ldc 6, 2), none, some (.invokevirtual 62, 3), none,
  none, some (.ifCond .ne 99, 3), none, none, some (.aload 1, 1), some (.invokevirtual 58, 3), none, none,
  some (.aload 0, 1), some (.aload 1, 1), some (.iconst 0, 1), some (.invokevirtual 46, 3), none, none, some (.ifCond .ne 99, 3), none,
  none, some (.iconst 0, 1), some (.ireturn, 1), some (.aload 0, 1), some (.getfield 449, 3), none, none, some (.iconst 2, 1),
  some (.iload 2, 1), some (.imul, 1), some (.iconst 1, 1), some (.iadd, 1), some (.aload 0, 1), some (.getfield 450, 3), none, none,
  some (.iastore, 1), some (.aload 0, 1), some (.iload 2, 1), some (.iconst 1, 1), some (.iadd, 1), some (.putfield 451, 3), none, none,
  some (.aload 1, 1), some (.iconst 59, 2), none, some (.invokevirtual 60, 3), none, none, some (.ifCond .ne 150, 3), none,
  none, some (.aload 1, 1), some (.getfield 515, 3), none, none, some (.ifCond .eq 144, 3), none, none,
  some (.aload 1, 1), some (.iconst 0, 1), some (.invokevirtual 64, 3), none, none, some (.ifCond .eq 148, 3), none, none,
  some (.iconst 1, 1), some (.goto 149, 3), none, none, some (.iconst 0, 1), some (.ireturn, 1), some (.aload 1, 1), some (.invokevirtual 58, 3),
  none, none, some (.iinc 2 1, 3), none, none, some (.goto 16, 3), none, none,
  some (.iconst 0, 1), some (.ireturn, 1)]
def xg46 : List (Option (Instr × Nat)) := [some (.aload 0, 1), some (.aload 1, 1), some (.iload 2, 1), some (.invokevirtual 47, 3), none, none, some (.ifCond .ne 11, 3), none,
  none, some (.iconst 0, 1), some (.ireturn, 1), some (.iconst 0, 1), some (.istore 3, 1), some (.iconst 0, 1), some (.istore 4, 2), none,
  some (.iload 4, 2), none, some (.iconst 400, 3), none, none, some (.if_icmp .ge 91, 3), none, none,
  some (.aload 1, 1), some (.ldc 10, 2), none, some (.invokevirtual 62, 3), none, none, some (.istore 5, 2), none,
  some (.iload 5, 2), none, some (.ifCond .eq 47, 3), none, none, some (.iload 3, 1), some (.ifCond .eq 47, 3), none,
  none, some (.aload 0, 1), some (.iconst 28, 2), none, some (.invokevirtual 54, 3), none, none, some (.iload 5, 2),
  none, some (.ifCond .ge 54, 3), none, none, some (.iconst 1, 1), some (.ireturn, 1), some (.aload 1, 1), some (.invokevirtual 58, 3),
  none, none, some (.aload 0, 1), some (.aload 1, 1), some (.iload 2, 1), some (.invokevirtual 47, 3), none, none,
  some (.ifCond .ne 69, 3), none, none, some (.iconst 0, 1), some (.ireturn, 1), some (.iload 5, 2), none, some (.ifCond .ne 83, 3),
  none, none, some (.aload 0, 1), some (.iconst 27, 2), none, some (.invokevirtual 54, 3), none, none,
  some (.goto 85, 3), none, none, some (.iconst 1, 1), some (.istore 3, 1), some (.iinc 4 1, 3), none, none,
  some (.goto 16, 3), none, none, some (.iconst 0, 1), some (.ireturn, 1)]
def xg47 : List (Option (Instr × Nat)) := [some (.aload 1, 1), some (.ldc 8, 2), none, some (.invokevirtual 62, 3), none, none, some (.ifCond .ne 13, 3), none,
  none, some (.iconst 1, 1), some (.goto 14, 3), none, none, some (.iconst 0, 1), some (.istore 3, 1), some (.iload 3, 1),
  some (.ifCond .ne 28, 3), none, none, some (.aload 1, 1), some (.iconst 91, 2), none, some (.invokevirtual 60, 3), none,
  none, some (.ifCond .eq 36, 3), none, none, some (.aload 0, 1), some (.aload 1, 1), some (.iload 2, 1), some (.iload 3, 1),
  some (.invokevirtual 48, 3), none, none, some (.ireturn, 1), some (.aload 0, 1), some (.aload 1, 1), some (.invokevirtual 50, 3), none,
  none, some (.ifCond .ne 46, 3), none, none, some (.iconst 0, 1), some (.ireturn, 1), some (.aload 1, 1), some (.invokestatic 49, 3),
  none, none, some (.istore 4, 2), none, some (.iload 4, 2), none, some (.ifCond .ge 63, 3), none,
  none, some (.aload 1, 1), some (.iconst 0, 1), some (.invokevirtual 64, 3), none, none, some (.ireturn, 1), some (.aload 0, 1),
  some (.aload 1, 1), some (.invokevirtual 53, 3), none, none, some (.ifCond .ne 73, 3), none, none, some (.iconst 0, 1),
  some (.ireturn, 1), some (.aload 1, 1), some (.invokevirtual 58, 3), none, none, some (.aload 0, 1), some (.aload 1, 1), some (.invokevirtual 50, 3),
  none, none, some (.ifCond .ne 87, 3), none, none, some (.iconst 0, 1), some (.ireturn, 1), some (.aload 0, 1),
  some (.iload 4, 2), none, some (.invokevirtual 54, 3), none, none, some (.iconst 1, 1), some (.ireturn, 1)]
def xg48 : List (Option (Instr × Nat)) := [some (.iload 2, 1), some (.iconst 10, 2), none, some (.if_icmp .lt 12, 3), none, none, some (.aload 1, 1), some (.iconst 2, 1),
  some (.invokevirtual 64, 3), none, none, some (.ireturn, 1), some (.aload 1, 1), some (.invokevirtual 58, 3), none, none,
  some (.iload 3, 1), some (.ifCond .eq 41, 3), none, none, some (.aload 0, 1), some (.aload 1, 1), some (.iload 2, 1), some (.iconst 1, 1),
  some (.iadd, 1), some (.invokevirtual 47, 3), none, none, some (.ifCond .ne 33, 3), none, none, some (.iconst 0, 1),
  some (.ireturn, 1), some (.aload 0, 1), some (.iconst 16, 2), none, some (.invokevirtual 54, 3), none, none, some (.iconst 1, 1),
  some (.ireturn, 1), some (.aload 0, 1), some (.aload 1, 1), some (.iload 2, 1), some (.iconst 1, 1), some (.iadd, 1), some (.invokevirtual 46, 3), none,
  none, some (.ifCond .ne 54, 3), none, none, some (.iconst 0, 1), some (.ireturn, 1), some (.aload 1, 1), some (.iconst 93, 2),
  none, some (.invokevirtual 60, 3), none, none, some (.ifCond .ne 69, 3), none, none, some (.aload 1, 1),
  some (.iconst 0, 1), some (.invokevirtual 64, 3), none, none, some (.ireturn, 1), some (.aload 1, 1), some (.invokevirtual 58, 3), none,
  none, some (.iconst 1, 1), some (.ireturn, 1)]
def xg49 : List (Option (Instr × Nat)) := [some (.aload 0, 1), some (.getfield 515, 3), none, none, some (.iconst 3, 1), some (.if_icmp .eq 10, 3), none, none,
  some (.iconst (-1), 1), some (.ireturn, 1), some (.aload 0, 1), some (.getfield 518, 3), none, none, some (.lookupswitch 79 #[(60, 64), (61, 70), (62, 76), (316, 67), (318, 73)], 50), none,
  none, none, none, none, none, none, none, none,
  none, none, none, none, none, none, none, none,
  none, none, none, none, none, none, none, none,
  none, none, none, none, none, none, none, none,
  none, none, none, none, none, none, none, none,
  none, none, none, none, none, none, none, none,
  some (.iconst 22, 2), none, some (.ireturn, 1), some (.iconst 23, 2), none, some (.ireturn, 1), some (.iconst 24, 2), none,
  some (.ireturn, 1), some (.iconst 25, 2), none, some (.ireturn, 1), some (.iconst 26, 2), none, some (.ireturn, 1), some (.iconst (-1), 1),
  some (.ireturn, 1)]
def xg50 : List (Option (Instr × Nat)) := [some (.aload 0, 1), some (.aload 1, 1), some (.invokevirtual 52, 3), none, none, some (.ifCond .ne 10, 3), none, none,
  some (.iconst 0, 1), some (.ireturn, 1), some (.iconst (-1), 1), some (.istore 2, 1), some (.iconst 0, 1), some (.istore 3, 1), some (.iload 3, 1), some (.iconst 400, 3),
  none, none, some (.if_icmp .ge 99, 3), none, none, some (.aload 1, 1), some (.invokestatic 51, 3), none,
  none, some (.istore 4, 2), none, some (.iload 4, 2), none, some (.iconst 19, 2), none, some (.if_icmp .lt 38, 3),
  none, none, some (.iconst 1, 1), some (.goto 39, 3), none, none, some (.iconst 0, 1), some (.istore 5, 2),
  none, some (.iload 5, 2), none, some (.ifCond .ne 55, 3), none, none, some (.iload 2, 1), some (.ifCond .lt 55, 3),
  none, none, some (.aload 0, 1), some (.iload 2, 1), some (.invokevirtual 54, 3), none, none, some (.iload 4, 2),
  none, some (.ifCond .ge 62, 3), none, none, some (.iconst 1, 1), some (.ireturn, 1), some (.aload 1, 1), some (.invokevirtual 58, 3),
  none, none, some (.aload 0, 1), some (.aload 1, 1), some (.invokevirtual 52, 3), none, none, some (.ifCond .ne 76, 3),
  none, none, some (.iconst 0, 1), some (.ireturn, 1), some (.iload 5, 2), none, some (.ifCond .eq 90, 3), none,
  none, some (.aload 0, 1), some (.iload 4, 2), none, some (.invokevirtual 54, 3), none, none, some (.goto 93, 3),
  none, none, some (.iload 4, 2), none, some (.istore 2, 1), some (.iinc 3 1, 3), none, none,
  some (.goto 14, 3), none, none, some (.iconst 0, 1), some (.ireturn, 1)]
def xg51 : List (Option (Instr × Nat)) := [some (.aload 0, 1), some (.getfield 515, 3), none, none, some (.iconst 3, 1), some (.if_icmp .eq 10, 3), none, none,
  some (.iconst (-1), 1), some (.ireturn, 1), some (.aload 0, 1), some (.getfield 518, 3), none, none, some (.tableswitch 87 37 47 #[84, 87, 87, 87, 87, 78, 72, 87, 75, 87, 81], 58), none,
  none, none, none, none, none, none, none, none,
  none, none, none, none, none, none, none, none,
  none, none, none, none, none, none, none, none,
  none, none, none, none, none, none, none, none,
  none, none, none, none, none, none, none, none,
  none, none, none, none, none, none, none, none,
  none, none, none, none, none, none, none, none,
  some (.iconst 17, 2), none, some (.ireturn, 1), some (.iconst 18, 2), none, some (.ireturn, 1), some (.iconst 19, 2), none,
  some (.ireturn, 1), some (.iconst 20, 2), none, some (.ireturn, 1), some (.iconst 21, 2), none, some (.ireturn, 1), some (.iconst (-1), 1),
  some (.ireturn, 1)]
def xg52 : List (Option (Instr × Nat)) := [some (.aload 1, 1), some (.getfield 515, 3), none, none, some (.iconst 2, 1), some (.if_icmp .ne 34, 3), none, none,
  some (.aload 1, 1), some (.invokevirtual 61, 3), none, none, some (.ifCond .eq 21, 3), none, none, some (.aload 1, 1),
  some (.iconst 1, 1), some (.invokevirtual 64, 3), none, none, some (.ireturn, 1), some (.iconst 15, 2), none, some (.aload 1, 1),
  some (.getfield 518, 3), none, none, some (.iconst 5, 1), some (.ishl, 1), some (.ior, 1), some (.istore 2, 1), some (.goto 51, 3),
  none, none, some (.aload 1, 1), some (.ldc 4, 2), none, some (.invokevirtual 62, 3), none, none,
  some (.istore 2, 1), some (.iload 2, 1), some (.ifCond .ge 51, 3), none, none, some (.aload 1, 1), some (.iconst 0, 1), some (.invokevirtual 64, 3),
  none, none, some (.ireturn, 1), some (.aload 0, 1), some (.aload 1, 1), some (.invokevirtual 53, 3), none, none,
  some (.ifCond .ne 61, 3), none, none, some (.iconst 0, 1), some (.ireturn, 1), some (.aload 0, 1), some (.iload 2, 1), some (.invokevirtual 54, 3),
  none, none, some (.aload 1, 1), some (.invokevirtual 58, 3), none, none, some (.iconst 1, 1), some (.ireturn, 1)]
def xg53 : List (Option (Instr × Nat)) := [some (.aload 0, 1), some (.dup, 1), some (.getfield 452, 3), none, none, some (.iconst 1, 1), some (.iadd, 1), some (.putfield 452, 3),
  none, none, some (.aload 0, 1), some (.getfield 452, 3), none, none, some (.iconst 60, 2), none,
  some (.if_icmp .le 27, 3), none, none, some (.aload 1, 1), some (.iconst 3, 1), some (.invokevirtual 64, 3), none, none,
  some (.ifCond .eq 31, 3), none, none, some (.iconst 1, 1), some (.goto 32, 3), none, none, some (.iconst 0, 1),
  some (.ireturn, 1)]
def xg54 : List (Option (Instr × Nat)) := [some (.aload 0, 1), some (.getfield 450, 3), none, none, some (.aload 0, 1), some (.getfield 448, 3), none, none,
  some (.arraylength, 1), some (.if_icmp .ge 32, 3), none, none, some (.aload 0, 1), some (.getfield 448, 3), none, none,
  some (.aload 0, 1), some (.getfield 450, 3), none, none, some (.iload 1, 1), some (.iastore, 1), some (.aload 0, 1), some (.dup, 1),
  some (.getfield 450, 3), none, none, some (.iconst 1, 1), some (.iadd, 1), some (.putfield 450, 3), none, none,
  some (.return_, 1)]
def xg55 : List (Option (Instr × Nat)) := [some (.aload 0, 1), some (.invokespecial 9999, 3), none, none, some (.aload 0, 1), some (.iconst 400, 3), none, none,
  some (.newarray .byte, 2), none, some (.putfield 512, 3), none, none, some (.aload 0, 1), some (.iconst 0, 1), some (.putfield 513, 3),
  none, none, some (.aload 0, 1), some (.iconst 0, 1), some (.putfield 514, 3), none, none, some (.aload 0, 1),
  some (.iconst 0, 1), some (.putfield 515, 3), none, none, some (.aload 0, 1), some (.iconst 0, 1), some (.putfield 516, 3), none,
  none, some (.aload 0, 1), some (.iconst 0, 1), some (.putfield 517, 3), none, none, some (.aload 0, 1), some (.iconst 0, 1),
  some (.putfield 518, 3), none, none, some (.return_, 1)]
def xg56 : List (Option (Instr × Nat)) := [some (.iconst 24, 2), none, some (.istore 2, 1), some (.iload 2, 1), some (.ifCond .lt 46, 3), none, none, some (.aload 0, 1),
  some (.getfield 513, 3), none, none, some (.iconst 400, 3), none, none, some (.if_icmp .ge 40, 3), none,
  none, some (.aload 0, 1), some (.getfield 512, 3), none, none, some (.aload 0, 1), some (.getfield 513, 3), none,
  none, some (.iload 1, 1), some (.iload 2, 1), some (.ishr, 1), some (.i2b, 1), some (.bastore, 1), some (.aload 0, 1), some (.dup, 1),
  some (.getfield 513, 3), none, none, some (.iconst 1, 1), some (.iadd, 1), some (.putfield 513, 3), none, none,
  some (.iinc 2 (-8), 3), none, none, some (.goto 3, 3), none, none, some (.return_, 1)]
def xg57 : List (Option (Instr × Nat)) := [some (.aload 0, 1), some (.iconst 0, 1), some (.putfield 514, 3), none, none, some (.aload 0, 1), some (.iconst 0, 1), some (.putfield 517, 3),
  none, none, some (.aload 0, 1), some (.invokevirtual 58, 3), none, none, some (.return_, 1)]
def xg58 : List (Option (Instr × Nat)) := [some (.aload 0, 1), some (.aload 0, 1), some (.aload 0, 1), some (.getfield 517, 3), none, none, some (.iconst 32, 2), none,
  some (.iconst 32, 2), none, some (.invokevirtual 59, 3), none, none, some (.putfield 516, 3), none, none,
  some (.aload 0, 1), some (.aload 0, 1), some (.getfield 516, 3), none, none, some (.putfield 517, 3), none, none,
  some (.aload 0, 1), some (.iconst 0, 1), some (.putfield 518, 3), none, none, some (.aload 0, 1), some (.getfield 516, 3), none,
  none, some (.aload 0, 1), some (.getfield 513, 3), none, none, some (.if_icmp .lt 46, 3), none, none,
  some (.aload 0, 1), some (.iconst 0, 1), some (.putfield 515, 3), none, none, some (.return_, 1), some (.aload 0, 1), some (.getfield 512, 3),
  none, none, some (.aload 0, 1), some (.getfield 516, 3), none, none, some (.baload, 1), some (.iconst 255, 3),
  none, none, some (.iand, 1), some (.istore 1, 1), some (.iload 1, 1), some (.iconst 97, 2), none, some (.if_icmp .lt 96, 3),
  none, none, some (.iload 1, 1), some (.iconst 122, 2), none, some (.if_icmp .gt 96, 3), none, none,
  some (.aload 0, 1), some (.iconst 1, 1), some (.putfield 515, 3), none, none, some (.aload 0, 1), some (.aload 0, 1), some (.aload 0, 1),
  some (.getfield 516, 3), none, none, some (.iconst 97, 2), none, some (.iconst 122, 2), none, some (.invokevirtual 59, 3),
  none, none, some (.putfield 517, 3), none, none, some (.goto 261, 3), none, none,
  some (.iload 1, 1), some (.iconst 48, 2), none, some (.if_icmp .lt 182, 3), none, none, some (.iload 1, 1), some (.iconst 57, 2),
  none, some (.if_icmp .gt 182, 3), none, none, some (.aload 0, 1), some (.iconst 2, 1), some (.putfield 515, 3), none,
  none, some (.aload 0, 1), some (.aload 0, 1), some (.aload 0, 1), some (.getfield 516, 3), none, none, some (.iconst 48, 2),
  none, some (.iconst 57, 2), none, some (.invokevirtual 59, 3), none, none, some (.putfield 517, 3), none,
  none, some (.aload 0, 1), some (.getfield 516, 3), none, none, some (.istore 2, 1), some (.iload 2, 1), some (.aload 0, 1),
  some (.getfield 517, 3), none, none, some (.if_icmp .ge 179, 3), none, none, some (.iload 2, 1), some (.aload 0, 1),
  some (.getfield 516, 3), none, none, some (.iconst 5, 1), some (.iadd, 1), some (.if_icmp .ge 179, 3), none, none,
  some (.aload 0, 1), some (.aload 0, 1), some (.getfield 518, 3), none, none, some (.iconst 10, 2), none, some (.imul, 1),
  some (.aload 0, 1), some (.getfield 512, 3), none, none, some (.iload 2, 1), some (.baload, 1), some (.iadd, 1), some (.iconst 48, 2),
  none, some (.isub, 1), some (.putfield 518, 3), none, none, some (.iinc 2 1, 3), none, none,
  some (.goto 134, 3), none, none, some (.goto 261, 3), none, none, some (.aload 0, 1), some (.iconst 3, 1),
  some (.putfield 515, 3), none, none, some (.aload 0, 1), some (.aload 0, 1), some (.getfield 516, 3), none, none,
  some (.iconst 1, 1), some (.iadd, 1), some (.putfield 517, 3), none, none, some (.aload 0, 1), some (.iload 1, 1), some (.putfield 518, 3),
  none, none, some (.iload 1, 1), some (.iconst 60, 2), none, some (.if_icmp .eq 214, 3), none, none,
  some (.iload 1, 1), some (.iconst 62, 2), none, some (.if_icmp .ne 261, 3), none, none, some (.aload 0, 1), some (.getfield 517, 3),
  none, none, some (.aload 0, 1), some (.getfield 513, 3), none, none, some (.if_icmp .ge 261, 3), none,
  none, some (.aload 0, 1), some (.getfield 512, 3), none, none, some (.aload 0, 1), some (.getfield 517, 3), none,
  none, some (.baload, 1), some (.iconst 61, 2), none, some (.if_icmp .ne 261, 3), none, none, some (.aload 0, 1),
  some (.dup, 1), some (.getfield 517, 3), none, none, some (.iconst 1, 1), some (.iadd, 1), some (.putfield 517, 3), none,
  none, some (.aload 0, 1), some (.dup, 1), some (.getfield 518, 3), none, none, some (.iconst 256, 3), none,
  none, some (.iadd, 1), some (.putfield 518, 3), none, none, some (.return_, 1)]
def xg59 : List (Option (Instr × Nat)) := [some (.iload 1, 1), some (.istore 4, 2), none, some (.iload 4, 2), none, some (.aload 0, 1), some (.getfield 513, 3), none,
  none, some (.if_icmp .ge 40, 3), none, none, some (.aload 0, 1), some (.getfield 512, 3), none, none,
  some (.iload 4, 2), none, some (.baload, 1), some (.iload 2, 1), some (.if_icmp .lt 40, 3), none, none, some (.aload 0, 1),
  some (.getfield 512, 3), none, none, some (.iload 4, 2), none, some (.baload, 1), some (.iload 3, 1), some (.if_icmp .gt 40, 3),
  none, none, some (.iinc 4 1, 3), none, none, some (.goto 3, 3), none, none,
  some (.iload 4, 2), none, some (.ireturn, 1)]
def xg60 : List (Option (Instr × Nat)) := [some (.aload 0, 1), some (.getfield 515, 3), none, none, some (.iconst 3, 1), some (.if_icmp .ne 20, 3), none, none,
  some (.aload 0, 1), some (.getfield 518, 3), none, none, some (.iload 1, 1), some (.if_icmp .ne 20, 3), none, none,
  some (.iconst 1, 1), some (.goto 21, 3), none, none, some (.iconst 0, 1), some (.ireturn, 1)]
def xg61 : List (Option (Instr × Nat)) := [some (.aload 0, 1), some (.getfield 517, 3), none, none, some (.aload 0, 1), some (.getfield 516, 3), none, none,
  some (.isub, 1), some (.iconst 5, 1), some (.if_icmp .le 17, 3), none, none, some (.iconst 1, 1), some (.goto 18, 3), none,
  none, some (.iconst 0, 1), some (.ireturn, 1)]
def xg62 : List (Option (Instr × Nat)) := [some (.aload 0, 1), some (.getfield 515, 3), none, none, some (.iconst 1, 1), some (.if_icmp .eq 10, 3), none, none,
  some (.iconst (-1), 1), some (.ireturn, 1), some (.iconst 0, 1), some (.istore 2, 1), some (.iconst 0, 1), some (.istore 3, 1), some (.iconst 0, 1), some (.istore 4, 2),
  none, some (.iload 4, 2), none, some (.aload 1, 1), some (.invokevirtual 249, 3), none, none, some (.if_icmp .gt 73, 3),
  none, none, some (.iload 4, 2), none, some (.aload 1, 1), some (.invokevirtual 249, 3), none, none,
  some (.if_icmp .eq 46, 3), none, none, some (.aload 1, 1), some (.iload 4, 2), none, some (.invokevirtual 250, 3), none,
  none, some (.iconst 32, 2), none, some (.if_icmp .ne 67, 3), none, none, some (.aload 0, 1), some (.aload 1, 1),
  some (.iload 3, 1), some (.iload 4, 2), none, some (.invokevirtual 63, 3), none, none, some (.ifCond .eq 59, 3), none,
  none, some (.iload 2, 1), some (.ireturn, 1), some (.iinc 2 1, 3), none, none, some (.iload 4, 2), none,
  some (.iconst 1, 1), some (.iadd, 1), some (.istore 3, 1), some (.iinc 4 1, 3), none, none, some (.goto 17, 3), none,
  none, some (.iconst (-1), 1), some (.ireturn, 1)]
def xg63 : List (Option (Instr × Nat)) := [some (.iload 3, 1), some (.iload 2, 1), some (.isub, 1), some (.aload 0, 1), some (.getfield 517, 3), none, none, some (.aload 0, 1),
  some (.getfield 516, 3), none, none, some (.isub, 1), some (.if_icmp .eq 17, 3), none, none, some (.iconst 0, 1),
  some (.ireturn, 1), some (.iload 2, 1), some (.istore 4, 2), none, some (.iload 4, 2), none, some (.iload 3, 1), some (.if_icmp .ge 57, 3),
  none, none, some (.aload 0, 1), some (.getfield 512, 3), none, none, some (.aload 0, 1), some (.getfield 516, 3),
  none, none, some (.iload 4, 2), none, some (.iadd, 1), some (.iload 2, 1), some (.isub, 1), some (.baload, 1),
  some (.aload 1, 1), some (.iload 4, 2), none, some (.invokevirtual 250, 3), none, none, some (.if_icmp .eq 51, 3), none,
  none, some (.iconst 0, 1), some (.ireturn, 1), some (.iinc 4 1, 3), none, none, some (.goto 20, 3), none,
  none, some (.iconst 1, 1), some (.ireturn, 1)]
def xg64 : List (Option (Instr × Nat)) := [some (.aload 0, 1), some (.iconst 1, 1), some (.iconst 8, 2), none, some (.aload 0, 1), some (.getfield 516, 3), none, none,
  some (.imul, 1), some (.iadd, 1), some (.iload 1, 1), some (.iadd, 1), some (.putfield 514, 3), none, none, some (.iconst 0, 1),
  some (.ireturn, 1)]
def xg65 : List (Option (Instr × Nat)) := [some (.aload 0, 1), some (.invokespecial 9999, 3), none, none, some (.aload 0, 1), some (.new 10, 3), none, none,
  some (.dup, 1), some (.invokespecial 79, 3), none, none, some (.putfield 576, 3), none, none, some (.aload 0, 1),
  some (.iconst 40, 2), none, some (.newarray .int, 2), none, some (.putfield 577, 3), none, none, some (.aload 0, 1),
  some (.iconst 31, 2), none, some (.newarray .int, 2), none, some (.putfield 578, 3), none, none, some (.aload 0, 1),
  some (.iconst (-1), 1), some (.putfield 579, 3), none, none, some (.aload 0, 1), some (.iconst 0, 1), some (.putfield 580, 3), none,
  none, some (.return_, 1)]
def xg66 : List (Option (Instr × Nat)) := [some (.aload 0, 1), some (.getfield 576, 3), none, none, some (.aload 2, 1), some (.invokevirtual 80, 3), none, none,
  some (.aload 0, 1), some (.aload 1, 1), some (.iload 3, 1), some (.invokevirtual 67, 3), none, none, some (.pop, 1), some (.aload 0, 1),
  some (.getfield 576, 3), none, none, some (.areturn, 1)]
def xg67 : List (Option (Instr × Nat)) := [some (.iconst 0, 1), some (.istore 3, 1), some (.iconst 0, 1), some (.istore 4, 2), none, some (.iload 4, 2), none, some (.iload 2, 1),
  some (.if_icmp .ge 29, 3), none, none, some (.iload 3, 1), some (.aload 1, 1), some (.aload 0, 1), some (.getfield 576, 3), none,
  none, some (.iconst 0, 1), some (.invokevirtual 1, 3), none, none, some (.iadd, 1), some (.istore 3, 1), some (.iinc 4 1, 3),
  none, none, some (.goto 5, 3), none, none, some (.iload 3, 1), some (.ireturn, 1)]
def xg68 : List (Option (Instr × Nat)) := [some (.aload 0, 1), some (.getfield 576, 3), none, none, some (.aload 1, 1), some (.invokevirtual 80, 3), none, none,
  some (.aload 0, 1), some (.getfield 576, 3), none, none, some (.iload 2, 1), some (.invokevirtual 82, 3), none, none,
  some (.return_, 1)]
def xg69 : List (Option (Instr × Nat)) := [some (.aload 0, 1), some (.aload 2, 1), some (.iconst (-1), 1), some (.invokevirtual 68, 3), none, none, some (.aload 0, 1), some (.aload 1, 1),
  some (.iload 3, 1), some (.invokevirtual 67, 3), none, none, some (.istore 5, 2), none, some (.iconst (-1), 1), some (.istore 6, 2),
  none, some (.iconst 0, 1), some (.istore 7, 2), none, some (.iload 7, 2), none, some (.aload 1, 1), some (.getfield 2, 3),
  none, none, some (.getfield 138, 3), none, none, some (.if_icmp .ge 90, 3), none, none,
  some (.iload 7, 2), none, some (.iload 4, 2), none, some (.if_icmp .eq 84, 3), none, none, some (.aload 1, 1),
  some (.getfield 2, 3), none, none, some (.iload 7, 2), none, some (.invokevirtual 11, 3), none, none,
  some (.ifCond .ne 54, 3), none, none, some (.goto 84, 3), none, none, some (.aload 0, 1), some (.aload 2, 1),
  some (.iload 7, 2), none, some (.invokevirtual 68, 3), none, none, some (.aload 0, 1), some (.aload 1, 1), some (.iload 3, 1),
  some (.invokevirtual 67, 3), none, none, some (.istore 8, 2), none, some (.iload 8, 2), none, some (.iload 5, 2),
  none, some (.if_icmp .le 84, 3), none, none, some (.iload 8, 2), none, some (.istore 5, 2), none,
  some (.iload 7, 2), none, some (.istore 6, 2), none, some (.iinc 7 1, 3), none, none, some (.goto 20, 3),
  none, none, some (.aload 0, 1), some (.iload 6, 2), none, some (.putfield 579, 3), none, none,
  some (.iload 5, 2), none, some (.ireturn, 1)]
def xg70 : List (Option (Instr × Nat)) := [some (.aload 0, 1), some (.aload 2, 1), some (.iconst (-1), 1), some (.invokevirtual 68, 3), none, none, some (.aload 0, 1), some (.aload 1, 1),
  some (.iload 3, 1), some (.invokevirtual 67, 3), none, none, some (.istore 4, 2), none, some (.iconst 0, 1), some (.istore 5, 2),
  none, some (.iconst 0, 1), some (.istore 6, 2), none, some (.iconst 0, 1), some (.istore 7, 2), none, some (.iload 7, 2),
  none, some (.aload 1, 1), some (.getfield 2, 3), none, none, some (.getfield 138, 3), none, none,
  some (.if_icmp .ge 94, 3), none, none, some (.aload 1, 1), some (.getfield 2, 3), none, none, some (.iload 7, 2),
  none, some (.invokevirtual 11, 3), none, none, some (.ifCond .eq 88, 3), none, none, some (.aload 0, 1),
  some (.aload 2, 1), some (.iload 7, 2), none, some (.invokevirtual 68, 3), none, none, some (.aload 0, 1), some (.aload 1, 1),
  some (.iload 3, 1), some (.invokevirtual 67, 3), none, none, some (.iload 4, 2), none, some (.isub, 1), some (.istore 8, 2),
  none, some (.iload 6, 2), none, some (.iload 8, 2), none, some (.iload 5, 2), none, some (.invokestatic 248, 3),
  none, none, some (.invokestatic 247, 3), none, none, some (.istore 6, 2), none, some (.iload 5, 2),
  none, some (.iload 8, 2), none, some (.invokestatic 247, 3), none, none, some (.istore 5, 2), none,
  some (.iinc 7 1, 3), none, none, some (.goto 23, 3), none, none, some (.iload 6, 2), none,
  some (.ireturn, 1)]
def xg71 : List (Option (Instr × Nat)) := [some (.aload 0, 1), some (.getfield 576, 3), none, none, some (.aload 2, 1), some (.invokevirtual 80, 3), none, none,
  some (.aload 0, 1), some (.aload 1, 1), some (.iload 4, 2), none, some (.invokevirtual 67, 3), none, none, some (.istore 5, 2),
  none, some (.iconst 0, 1), some (.istore 6, 2), none, some (.iconst (-2), 2), none, some (.istore 7, 2), none,
  some (.iconst 0, 1), some (.istore 8, 2), none, some (.iload 8, 2), none, some (.aload 1, 1), some (.getfield 2, 3), none,
  none, some (.getfield 138, 3), none, none, some (.if_icmp .ge 117, 3), none, none, some (.aload 1, 1),
  some (.getfield 2, 3), none, none, some (.getfield 130, 3), none, none, some (.iload 8, 2), none,
  some (.iaload, 1), some (.iload 3, 1), some (.if_icmp .gt 111, 3), none, none, some (.aload 2, 1), some (.iload 8, 2), none,
  some (.invokevirtual 84, 3), none, none, some (.ifCond .eq 65, 3), none, none, some (.goto 111, 3), none,
  none, some (.aload 1, 1), some (.iload 8, 2), none, some (.putfield 4, 3), none, none, some (.aload 0, 1),
  some (.getfield 576, 3), none, none, some (.aload 2, 1), some (.invokevirtual 80, 3), none, none, some (.aload 0, 1),
  some (.aload 1, 1), some (.iload 4, 2), none, some (.invokevirtual 67, 3), none, none, some (.iload 5, 2), none,
  some (.isub, 1), some (.istore 9, 2), none, some (.iload 7, 2), none, some (.ifCond .lt 103, 3), none, none,
  some (.iload 9, 2), none, some (.iload 6, 2), none, some (.if_icmp .le 111, 3), none, none, some (.iload 9, 2),
  none, some (.istore 6, 2), none, some (.iload 8, 2), none, some (.istore 7, 2), none, some (.iinc 8 1, 3),
  none, none, some (.goto 27, 3), none, none, some (.aload 1, 1), some (.iconst (-1), 1), some (.putfield 4, 3),
  none, none, some (.aload 0, 1), some (.iload 7, 2), none, some (.putfield 579, 3), none, none,
  some (.iload 6, 2), none, some (.ireturn, 1)]
def xg72 : List (Option (Instr × Nat)) := [some (.aload 0, 1), some (.getfield 576, 3), none, none, some (.aload 2, 1), some (.invokevirtual 80, 3), none, none,
  some (.iconst 0, 1), some (.istore 5, 2), none, some (.iconst 0, 1), some (.istore 6, 2), none, some (.iload 6, 2), none,
  some (.iload 3, 1), some (.if_icmp .ge 80, 3), none, none, some (.aload 0, 1), some (.aload 0, 1), some (.getfield 580, 3), none,
  none, some (.i2l, 1), some (.ldc2_w 1103515245, 3), none, none, some (.lmul, 1), some (.ldc2_w 12345, 3), none,
  none, some (.ladd, 1), some (.l2i, 1), some (.iconst 2147483647, 2), none, some (.iand, 1), some (.putfield 580, 3), none,
  none, some (.iload 5, 2), none, some (.aload 1, 1), some (.aload 0, 1), some (.getfield 576, 3), none, none,
  some (.aload 0, 1), some (.getfield 580, 3), none, none, some (.iconst 65536, 2), none, some (.idiv, 1), some (.iconst 100, 2),
  none, some (.irem, 1), some (.iload 4, 2), none, some (.if_icmp .ge 67, 3), none, none, some (.iconst 1, 1),
  some (.goto 68, 3), none, none, some (.iconst 0, 1), some (.invokevirtual 1, 3), none, none, some (.iadd, 1),
  some (.istore 5, 2), none, some (.iinc 6 1, 3), none, none, some (.goto 14, 3), none, none,
  some (.iload 5, 2), none, some (.ireturn, 1)]
def xg73 : List (Option (Instr × Nat)) := [some (.iconst 0, 1), some (.istore 3, 1), some (.iconst (-1), 1), some (.istore 4, 2), none, some (.iload 4, 2), none, some (.aload 1, 1),
  some (.getfield 2, 3), none, none, some (.getfield 138, 3), none, none, some (.if_icmp .ge 78, 3), none,
  none, some (.iload 4, 2), none, some (.iconst (-1), 1), some (.if_icmp .eq 35, 3), none, none, some (.aload 1, 1),
  some (.getfield 2, 3), none, none, some (.iload 4, 2), none, some (.invokevirtual 11, 3), none, none,
  some (.ifCond .eq 72, 3), none, none, some (.aload 0, 1), some (.aload 1, 1), some (.aload 2, 1), some (.iload 4, 2), none,
  some (.invokevirtual 74, 3), none, none, some (.ifCond .eq 72, 3), none, none, some (.aload 0, 1), some (.iload 3, 1),
  some (.ifCond .ne 56, 3), none, none, some (.iload 4, 2), none, some (.goto 60, 3), none, none,
  some (.aload 0, 1), some (.getfield 579, 3), none, none, some (.putfield 579, 3), none, none, some (.iload 3, 1),
  some (.iconst 1, 1), some (.iload 4, 2), none, some (.iconst 1, 1), some (.iadd, 1), some (.ishl, 1), some (.ior, 1), some (.istore 3, 1),
  some (.iinc 4 1, 3), none, none, some (.goto 5, 3), none, none, some (.iload 3, 1), some (.ireturn, 1)]
def xg74 : List (Option (Instr × Nat)) := [some (.aload 0, 1), some (.getfield 576, 3), none, none, some (.aload 1, 1), some (.getfield 2, 3), none, none,
  some (.invokevirtual 81, 3), none, none, some (.aload 0, 1), some (.getfield 576, 3), none, none, some (.iload 3, 1),
  some (.invokevirtual 82, 3), none, none, some (.aload 2, 1), some (.invokevirtual 32, 3), none, none, some (.istore 4, 2),
  none, some (.iconst 0, 1), some (.istore 5, 2), none, some (.iload 5, 2), none, some (.iload 4, 2), none,
  some (.if_icmp .gt 80, 3), none, none, some (.aload 2, 1), some (.aload 0, 1), some (.getfield 576, 3), none, none,
  some (.aload 1, 1), some (.getfield 2, 3), none, none, some (.getfield 138, 3), none, none, some (.iload 5, 2),
  none, some (.invokevirtual 33, 3), none, none, some (.ifCond .ne 57, 3), none, none, some (.iconst 0, 1),
  some (.ireturn, 1), some (.iload 5, 2), none, some (.iload 4, 2), none, some (.if_icmp .ge 74, 3), none, none,
  some (.aload 1, 1), some (.aload 0, 1), some (.getfield 576, 3), none, none, some (.iconst 0, 1), some (.invokevirtual 1, 3), none,
  none, some (.pop, 1), some (.iinc 5 1, 3), none, none, some (.goto 28, 3), none, none,
  some (.iconst 1, 1), some (.ireturn, 1)]
def xg75 : List (Option (Instr × Nat)) := [some (.aload 0, 1), some (.getfield 577, 3), none, none, some (.iconst 0, 1), some (.invokestatic 255, 3), none, none,
  some (.iconst (-1), 1), some (.istore 4, 2), none, some (.iload 4, 2), none, some (.aload 1, 1), some (.getfield 2, 3), none,
  none, some (.getfield 138, 3), none, none, some (.if_icmp .ge 76, 3), none, none, some (.iload 2, 1),
  some (.iload 4, 2), none, some (.iconst 1, 1), some (.iadd, 1), some (.ishr, 1), some (.iconst 1, 1), some (.iand, 1), some (.iconst 1, 1),
  some (.if_icmp .ne 70, 3), none, none, some (.aload 0, 1), some (.getfield 576, 3), none, none, some (.aload 1, 1),
  some (.getfield 2, 3), none, none, some (.invokevirtual 81, 3), none, none, some (.aload 0, 1), some (.getfield 576, 3),
  none, none, some (.iload 4, 2), none, some (.invokevirtual 82, 3), none, none, some (.aload 0, 1),
  some (.aload 1, 1), some (.iload 3, 1), some (.invokevirtual 67, 3), none, none, some (.pop, 1), some (.aload 0, 1), some (.aload 1, 1),
  some (.getfield 2, 3), none, none, some (.invokevirtual 76, 3), none, none, some (.iinc 4 1, 3), none,
  none, some (.goto 11, 3), none, none, some (.iconst 8, 2), none, some (.istore 4, 2), none,
  some (.iconst 0, 1), some (.istore 5, 2), none, some (.iload 5, 2), none, some (.aload 1, 1), some (.getfield 2, 3), none,
  none, some (.getfield 134, 3), none, none, some (.if_icmp .ge 155, 3), none, none, some (.iconst 0, 1),
  some (.istore 6, 2), none, some (.iconst 0, 1), some (.istore 7, 2), none, some (.iload 7, 2), none, some (.iconst 4, 1),
  some (.if_icmp .ge 132, 3), none, none, some (.iload 6, 2), none, some (.aload 0, 1), some (.getfield 577, 3), none,
  none, some (.iload 5, 2), none, some (.iconst 4, 1), some (.imul, 1), some (.iload 7, 2), none, some (.iadd, 1),
  some (.iaload, 1), some (.invokestatic 247, 3), none, none, some (.istore 6, 2), none, some (.iinc 7 1, 3), none,
  none, some (.goto 101, 3), none, none, some (.iload 6, 2), none, some (.iload 4, 2), none,
  some (.if_icmp .ge 149, 3), none, none, some (.iload 6, 2), none, some (.istore 4, 2), none, some (.aload 0, 1),
  some (.iload 5, 2), none, some (.putfield 579, 3), none, none, some (.iinc 5 1, 3), none, none,
  some (.goto 83, 3), none, none, some (.iload 4, 2), none, some (.ireturn, 1)]
def xg76 : List (Option (Instr × Nat)) := [some (.iconst 0, 1), some (.istore 2, 1), some (.iload 2, 1), some (.aload 1, 1), some (.getfield 134, 3), none, none, some (.if_icmp .ge 85, 3),
  none, none, some (.iconst 0, 1), some (.istore 3, 1), some (.iconst 0, 1), some (.istore 4, 2), none, some (.iload 4, 2),
  none, some (.aload 1, 1), some (.getfield 138, 3), none, none, some (.if_icmp .ge 65, 3), none, none,
  some (.aload 0, 1), some (.getfield 576, 3), none, none, some (.getfield 640, 3), none, none, some (.iconst 0, 1),
  some (.iload 4, 2), none, some (.iadd, 1), some (.iaload, 1), some (.iload 2, 1), some (.if_icmp .ne 59, 3), none, none,
  some (.iload 3, 1), some (.iconst 1, 1), some (.aload 0, 1), some (.getfield 576, 3), none, none, some (.iload 4, 2), none,
  some (.invokevirtual 84, 3), none, none, some (.invokestatic 245, 3), none, none, some (.iadd, 1), some (.invokestatic 247, 3),
  none, none, some (.istore 3, 1), some (.iinc 4 1, 3), none, none, some (.goto 15, 3), none,
  none, some (.aload 0, 1), some (.getfield 577, 3), none, none, some (.iload 2, 1), some (.iconst 4, 1), some (.imul, 1),
  some (.iload 3, 1), some (.iadd, 1), some (.dup2, 1), some (.iaload, 1), some (.iconst 1, 1), some (.iadd, 1), some (.iastore, 1), some (.iinc 2 1, 3),
  none, none, some (.goto 2, 3), none, none, some (.return_, 1)]
def xg77 : List (Option (Instr × Nat)) := [some (.iload 3, 1), some (.ifCond .lt 10, 3), none, none, some (.iload 3, 1), some (.iconst 30, 2), none, some (.if_icmp .le 12, 3),
  none, none, some (.iconst 0, 1), some (.ireturn, 1), some (.aload 0, 1), some (.getfield 578, 3), none, none,
  some (.iload 3, 1), some (.iconst 0, 1), some (.iastore, 1), some (.iload 3, 1), some (.iconst 1, 1), some (.isub, 1), some (.istore 7, 2), none,
  some (.iload 7, 2), none, some (.ifCond .lt 66, 3), none, none, some (.aload 0, 1), some (.iload 1, 1), some (.iconst 0, 1),
  some (.iload 4, 2), none, some (.iload 6, 2), none, some (.iload 7, 2), none, some (.iload 7, 2), none,
  some (.iconst 1, 1), some (.iadd, 1), some (.iload 3, 1), some (.invokevirtual 78, 3), none, none, some (.istore 8, 2), none,
  some (.aload 0, 1), some (.getfield 578, 3), none, none, some (.iload 7, 2), none, some (.iload 5, 2), none,
  some (.iload 8, 2), none, some (.iadd, 1), some (.iastore, 1), some (.iinc 7 (-1), 3), none, none, some (.goto 24, 3),
  none, none, some (.aload 0, 1), some (.iload 1, 1), some (.iload 2, 1), some (.iload 4, 2), none, some (.iload 6, 2),
  none, some (.iconst 0, 1), some (.iconst 0, 1), some (.iload 3, 1), some (.invokevirtual 78, 3), none, none, some (.ireturn, 1)]
def xg78 : List (Option (Instr × Nat)) := [some (.iload 2, 1), some (.istore 8, 2), none, some (.iconst 0, 1), some (.istore 9, 2), none, some (.iconst 1000000, 2), none,
  some (.istore 10, 2), none, some (.iload 5, 2), none, some (.istore 11, 2), none, some (.iload 11, 2), none,
  some (.iload 7, 2), none, some (.if_icmp .gt 101, 3), none, none, some (.iload 11, 2), none, some (.iload 6, 2),
  none, some (.if_icmp .lt 72, 3), none, none, some (.iload 9, 2), none, some (.aload 0, 1), some (.getfield 578, 3),
  none, none, some (.iload 11, 2), none, some (.iaload, 1), some (.iadd, 1), some (.iload 10, 2), none,
  some (.if_icmp .gt 72, 3), none, none, some (.iload 9, 2), none, some (.aload 0, 1), some (.getfield 578, 3), none,
  none, some (.iload 11, 2), none, some (.iaload, 1), some (.iadd, 1), some (.istore 10, 2), none, some (.aload 0, 1),
  some (.iload 11, 2), none, some (.iload 7, 2), none, some (.if_icmp .ge 68, 3), none, none, some (.iload 11, 2),
  none, some (.goto 69, 3), none, none, some (.iconst (-1), 1), some (.putfield 579, 3), none, none,
  some (.iload 8, 2), none, some (.iload 3, 1), some (.iadd, 1), some (.istore 8, 2), none, some (.iload 9, 2), none,
  some (.iload 8, 2), none, some (.iload 1, 1), some (.if_icmp .lt 91, 3), none, none, some (.iload 4, 2), none,
  some (.goto 92, 3), none, none, some (.iconst 0, 1), some (.iadd, 1), some (.istore 9, 2), none, some (.iinc 11 1, 3),
  none, none, some (.goto 14, 3), none, none, some (.iload 10, 2), none, some (.ireturn, 1)]
def xg79 : List (Option (Instr × Nat)) := [some (.aload 0, 1), some (.invokespecial 9999, 3), none, none, some (.aload 0, 1), some (.iconst 33, 2), none, some (.newarray .int, 2),
  none, some (.putfield 640, 3), none, none, some (.return_, 1)]
def xg80 : List (Option (Instr × Nat)) := [some (.aload 1, 1), some (.getfield 640, 3), none, none, some (.iconst 0, 1), some (.aload 0, 1), some (.getfield 640, 3), none,
  none, some (.iconst 0, 1), some (.iconst 33, 2), none, some (.invokestatic 9998, 3), none, none, some (.return_, 1)]
def xg81 : List (Option (Instr × Nat)) := [some (.aload 0, 1), some (.getfield 640, 3), none, none, some (.iconst 0, 1), some (.invokestatic 255, 3), none, none,
  some (.aload 1, 1), some (.getfield 129, 3), none, none, some (.iconst 0, 1), some (.aload 0, 1), some (.getfield 640, 3), none,
  none, some (.iconst 0, 1), some (.aload 1, 1), some (.getfield 138, 3), none, none, some (.invokestatic 9998, 3), none,
  none, some (.iconst 0, 1), some (.istore 2, 1), some (.iload 2, 1), some (.iconst 2, 1), some (.if_icmp .ge 61, 3), none, none,
  some (.aload 0, 1), some (.getfield 640, 3), none, none, some (.iconst 24, 2), none, some (.iload 2, 1), some (.iadd, 1),
  some (.iconst (-1), 1), some (.iastore, 1), some (.aload 0, 1), some (.getfield 640, 3), none, none, some (.iconst 26, 2), none,
  some (.iload 2, 1), some (.iadd, 1), some (.aload 1, 1), some (.getfield 137, 3), none, none, some (.iastore, 1), some (.iinc 2 1, 3),
  none, none, some (.goto 27, 3), none, none, some (.return_, 1)]
def xg82 : List (Option (Instr × Nat)) := [some (.iconst 0, 1), some (.istore 2, 1), some (.iload 2, 1), some (.iconst 2, 1), some (.if_icmp .ge 33, 3), none, none, some (.aload 0, 1),
  some (.getfield 640, 3), none, none, some (.iconst 24, 2), none, some (.iload 2, 1), some (.iadd, 1), some (.iload 1, 1),
  some (.iastore, 1), some (.aload 0, 1), some (.getfield 640, 3), none, none, some (.iconst 26, 2), none, some (.iload 2, 1),
  some (.iadd, 1), some (.iconst 0, 1), some (.iastore, 1), some (.iinc 2 1, 3), none, none, some (.goto 2, 3), none,
  none, some (.return_, 1)]
def xg83 : List (Option (Instr × Nat)) := [some (.aload 0, 1), some (.getfield 640, 3), none, none, some (.iconst 24, 2), none, some (.iload 1, 1), some (.iadd, 1),
  some (.iaload, 1), some (.istore 2, 1), some (.iload 2, 1), some (.ifCond .ge 26, 3), none, none, some (.aload 0, 1), some (.getfield 640, 3),
  none, none, some (.iconst 26, 2), none, some (.iload 1, 1), some (.iadd, 1), some (.iaload, 1), some (.goto 34, 3),
  none, none, some (.aload 0, 1), some (.getfield 640, 3), none, none, some (.iconst 0, 1), some (.iload 2, 1),
  some (.iadd, 1), some (.iaload, 1), some (.ireturn, 1)]
def xg84 : List (Option (Instr × Nat)) := [some (.aload 0, 1), some (.getfield 640, 3), none, none, some (.iconst 24, 2), none, some (.iaload, 1), some (.iload 1, 1),
  some (.if_icmp .ne 15, 3), none, none, some (.iconst 1, 1), some (.goto 16, 3), none, none, some (.iconst 0, 1),
  some (.istore 2, 1), some (.aload 0, 1), some (.getfield 640, 3), none, none, some (.iconst 25, 2), none, some (.iaload, 1),
  some (.iload 1, 1), some (.if_icmp .ne 34, 3), none, none, some (.iload 2, 1), some (.iconst 2, 1), some (.iadd, 1), some (.goto 35, 3),
  none, none, some (.iload 2, 1), some (.ireturn, 1)]
def xg85 : List (Option (Instr × Nat)) := [some (.aload 0, 1), some (.iconst 18, 2), none, some (.invokevirtual 87, 3), none, none, some (.ireturn, 1)]
def xg86 : List (Option (Instr × Nat)) := [some (.aload 0, 1), some (.iconst 6, 2), none, some (.invokevirtual 87, 3), none, none, some (.ireturn, 1)]
def xg87 : List (Option (Instr × Nat)) := [some (.iconst 0, 1), some (.istore 2, 1), some (.iconst 0, 1), some (.istore 3, 1), some (.iload 3, 1), some (.iconst 6, 2), none, some (.if_icmp .ge 27, 3),
  none, none, some (.iload 2, 1), some (.aload 0, 1), some (.getfield 640, 3), none, none, some (.iload 1, 1),
  some (.iload 3, 1), some (.iadd, 1), some (.iaload, 1), some (.iadd, 1), some (.istore 2, 1), some (.iinc 3 1, 3), none, none,
  some (.goto 4, 3), none, none, some (.iload 2, 1), some (.ireturn, 1)]
def xg88 : List (Option (Instr × Nat)) := [some (.aload 0, 1), some (.invokespecial 9999, 3), none, none, some (.aload 0, 1), some (.new 8, 3), none, none,
  some (.dup, 1), some (.invokespecial 55, 3), none, none, some (.putfield 704, 3), none, none, some (.aload 0, 1),
  some (.new 7, 3), none, none, some (.dup, 1), some (.invokespecial 43, 3), none, none, some (.putfield 705, 3),
  none, none, some (.aload 0, 1), some (.iconst 6, 2), none, some (.anewarray 4, 3), none, none,
  some (.putfield 706, 3), none, none, some (.aload 0, 1), some (.iconst 4, 1), some (.anewarray 5, 3), none, none,
  some (.putfield 707, 3), none, none, some (.aload 0, 1), some (.new 10, 3), none, none, some (.dup, 1),
  some (.invokespecial 79, 3), none, none, some (.putfield 708, 3), none, none, some (.aload 0, 1), some (.new 3, 3),
  none, none, some (.dup, 1), some (.invokespecial 26, 3), none, none, some (.putfield 709, 3), none,
  none, some (.aload 0, 1), some (.new 4, 3), none, none, some (.dup, 1), some (.invokespecial 29, 3), none,
  none, some (.putfield 710, 3), none, none, some (.aload 0, 1), some (.new 0, 3), none, none,
  some (.dup, 1), some (.invokespecial 0, 3), none, none, some (.putfield 711, 3), none, none, some (.aload 0, 1),
  some (.new 9, 3), none, none, some (.dup, 1), some (.invokespecial 65, 3), none, none, some (.putfield 712, 3),
  none, none, some (.aload 0, 1), some (.new 5, 3), none, none, some (.dup, 1), some (.invokespecial 34, 3),
  none, none, some (.putfield 713, 3), none, none, some (.aload 0, 1), some (.aload 0, 1), some (.getfield 711, 3),
  none, none, some (.getfield 2, 3), none, none, some (.putfield 714, 3), none, none,
  some (.aload 0, 1), some (.new 2, 3), none, none, some (.dup, 1), some (.invokespecial 9, 3), none, none,
  some (.putfield 715, 3), none, none, some (.aload 0, 1), some (.iconst 0, 1), some (.putfield 716, 3), none, none,
  some (.aload 0, 1), some (.iconst (-1), 1), some (.putfield 717, 3), none, none, some (.aload 0, 1), some (.iconst 0, 1), some (.putfield 718, 3),
  none, none, some (.return_, 1)]
def xg89 : List (Option (Instr × Nat)) := [some (.aload 0, 1), some (.getfield 704, 3), none, none, some (.getfield 513, 3), none, none, some (.iconst 20, 2),
  none, some (.iadd, 1), some (.iconst 400, 3), none, none, some (.if_icmp .le 18, 3), none, none,
  some (.iconst (-1), 1), some (.ireturn, 1), some (.aload 0, 1), some (.getfield 704, 3), none, none, some (.iload 1, 1), some (.invokevirtual 56, 3),
  none, none, some (.aload 0, 1), some (.getfield 704, 3), none, none, some (.iload 2, 1), some (.invokevirtual 56, 3),
  none, none, some (.aload 0, 1), some (.getfield 704, 3), none, none, some (.iload 3, 1), some (.invokevirtual 56, 3),
  none, none, some (.aload 0, 1), some (.getfield 704, 3), none, none, some (.iload 4, 2), none,
  some (.invokevirtual 56, 3), none, none, some (.aload 0, 1), some (.getfield 704, 3), none, none, some (.iload 5, 2),
  none, some (.invokevirtual 56, 3), none, none, some (.aload 0, 1), some (.getfield 704, 3), none, none,
  some (.getfield 513, 3), none, none, some (.ireturn, 1)]
def xg90 : List (Option (Instr × Nat)) := [some (.iload 1, 1), some (.ifCond .lt 15, 3), none, none, some (.iload 1, 1), some (.aload 0, 1), some (.getfield 704, 3), none,
  none, some (.getfield 513, 3), none, none, some (.if_icmp .le 17, 3), none, none, some (.iconst (-1), 1),
  some (.ireturn, 1), some (.aload 0, 1), some (.getfield 704, 3), none, none, some (.iload 1, 1), some (.putfield 513, 3), none,
  none, some (.iload 1, 1), some (.ireturn, 1)]
def xg91 : List (Option (Instr × Nat)) := [some (.aload 0, 1), some (.getfield 715, 3), none, none, some (.aload 0, 1), some (.getfield 704, 3), none, none,
  some (.invokevirtual 15, 3), none, none, some (.istore 1, 1), some (.aload 0, 1), some (.getfield 704, 3), none, none,
  some (.iconst 0, 1), some (.putfield 513, 3), none, none, some (.iload 1, 1), some (.ifCond .ne 35, 3), none, none,
  some (.iconst (-2), 2), none, some (.aload 0, 1), some (.getfield 704, 3), none, none, some (.getfield 514, 3), none,
  none, some (.isub, 1), some (.ireturn, 1), some (.aload 0, 1), some (.getfield 714, 3), none, none, some (.aload 0, 1),
  some (.getfield 715, 3), none, none, some (.invokevirtual 10, 3), none, none, some (.aload 0, 1), some (.getfield 708, 3),
  none, none, some (.aload 0, 1), some (.getfield 714, 3), none, none, some (.invokevirtual 81, 3), none,
  none, some (.aload 0, 1), some (.getfield 710, 3), none, none, some (.iconst 0, 1), some (.putfield 257, 3), none,
  none, some (.aload 0, 1), some (.getfield 709, 3), none, none, some (.iconst 0, 1), some (.putfield 194, 3), none,
  none, some (.aload 0, 1), some (.getfield 714, 3), none, none, some (.getfield 138, 3), none, none,
  some (.ireturn, 1)]
def xg92 : List (Option (Instr × Nat)) := [some (.aload 0, 1), some (.getfield 716, 3), none, none, some (.iconst 6, 2), none, some (.if_icmp .lt 11, 3), none,
  none, some (.iconst (-1), 1), some (.ireturn, 1), some (.aload 0, 1), some (.getfield 705, 3), none, none, some (.aload 0, 1),
  some (.getfield 704, 3), none, none, some (.invokevirtual 45, 3), none, none, some (.istore 1, 1), some (.aload 0, 1),
  some (.getfield 704, 3), none, none, some (.iconst 0, 1), some (.putfield 513, 3), none, none, some (.iload 1, 1),
  some (.ifCond .ne 46, 3), none, none, some (.iconst (-2), 2), none, some (.aload 0, 1), some (.getfield 704, 3), none,
  none, some (.getfield 514, 3), none, none, some (.isub, 1), some (.ireturn, 1), some (.aload 0, 1), some (.getfield 706, 3),
  none, none, some (.aload 0, 1), some (.getfield 716, 3), none, none, some (.aload 0, 1), some (.getfield 705, 3),
  none, none, some (.invokevirtual 44, 3), none, none, some (.aastore, 1), some (.aload 0, 1), some (.dup, 1),
  some (.getfield 716, 3), none, none, some (.iconst 1, 1), some (.iadd, 1), some (.putfield 716, 3), none, none,
  some (.aload 0, 1), some (.getfield 716, 3), none, none, some (.iconst 1, 1), some (.isub, 1), some (.ireturn, 1)]
def xg93 : List (Option (Instr × Nat)) := [some (.iload 1, 1), some (.iconst (-1), 1), some (.if_icmp .lt 13, 3), none, none, some (.iload 1, 1), some (.aload 0, 1), some (.getfield 716, 3),
  none, none, some (.if_icmp .lt 16, 3), none, none, some (.iconst (-2), 2), none, some (.ireturn, 1),
  some (.aload 0, 1), some (.getfield 717, 3), none, none, some (.istore 2, 1), some (.aload 0, 1), some (.iload 1, 1), some (.putfield 717, 3),
  none, none, some (.iload 2, 1), some (.ireturn, 1)]
def xg94 : List (Option (Instr × Nat)) := [some (.aload 0, 1), some (.iload 1, 1), some (.invokevirtual 118, 3), none, none, some (.ifCond .ne 10, 3), none, none,
  some (.iconst (-1), 1), some (.ireturn, 1), some (.iload 2, 1), some (.tableswitch 155 0 7 #[56, 68, 78, 88, 101, 114, 123, 136], 45), none, none, none, none,
  none, none, none, none, none, none, none, none,
  none, none, none, none, none, none, none, none,
  none, none, none, none, none, none, none, none,
  none, none, none, none, none, none, none, none,
  none, none, none, none, none, none, none, none,
  some (.aload 0, 1), some (.getfield 708, 3), none, none, some (.getfield 640, 3), none, none, some (.iconst 0, 1),
  some (.iload 1, 1), some (.iadd, 1), some (.iaload, 1), some (.ireturn, 1), some (.aload 0, 1), some (.getfield 714, 3), none, none,
  some (.getfield 129, 3), none, none, some (.iload 1, 1), some (.iaload, 1), some (.ireturn, 1), some (.aload 0, 1), some (.getfield 714, 3),
  none, none, some (.getfield 130, 3), none, none, some (.iload 1, 1), some (.iaload, 1), some (.ireturn, 1),
  some (.aload 0, 1), some (.getfield 708, 3), none, none, some (.getfield 640, 3), none, none, some (.iconst 6, 2),
  none, some (.iload 1, 1), some (.iadd, 1), some (.iaload, 1), some (.ireturn, 1), some (.aload 0, 1), some (.getfield 708, 3), none,
  none, some (.getfield 640, 3), none, none, some (.iconst 12, 2), none, some (.iload 1, 1), some (.iadd, 1),
  some (.iaload, 1), some (.ireturn, 1), some (.aload 0, 1), some (.getfield 708, 3), none, none, some (.iload 1, 1), some (.invokevirtual 84, 3),
  none, none, some (.ireturn, 1), some (.aload 0, 1), some (.getfield 708, 3), none, none, some (.getfield 640, 3),
  none, none, some (.iconst 18, 2), none, some (.iload 1, 1), some (.iadd, 1), some (.iaload, 1), some (.ireturn, 1),
  some (.aload 0, 1), some (.getfield 714, 3), none, none, some (.iload 1, 1), some (.aload 0, 1), some (.getfield 708, 3), none,
  none, some (.getfield 640, 3), none, none, some (.iconst 30, 2), none, some (.iaload, 1), some (.invokevirtual 14, 3),
  none, none, some (.ireturn, 1), some (.iconst (-1), 1), some (.ireturn, 1)]
def xg95 : List (Option (Instr × Nat)) := [some (.aload 0, 1), some (.iload 1, 1), some (.invokevirtual 120, 3), none, none, some (.ifCond .ne 11, 3), none, none,
  some (.iconst (-2), 2), none, some (.ireturn, 1), some (.iload 2, 1), some (.tableswitch 107 0 3 #[44, 57, 66, 79], 32), none, none, none,
  none, none, none, none, none, none, none, none,
  none, none, none, none, none, none, none, none,
  none, none, none, none, none, none, none, none,
  none, none, none, none, some (.aload 0, 1), some (.getfield 708, 3), none, none,
  some (.getfield 640, 3), none, none, some (.iconst 24, 2), none, some (.iload 1, 1), some (.iadd, 1), some (.iaload, 1),
  some (.ireturn, 1), some (.aload 0, 1), some (.getfield 708, 3), none, none, some (.iload 1, 1), some (.invokevirtual 83, 3), none,
  none, some (.ireturn, 1), some (.aload 0, 1), some (.getfield 708, 3), none, none, some (.getfield 640, 3), none,
  none, some (.iconst 28, 2), none, some (.iload 1, 1), some (.iadd, 1), some (.iaload, 1), some (.ireturn, 1), some (.aload 0, 1),
  some (.getfield 708, 3), none, none, some (.getfield 640, 3), none, none, some (.iconst 28, 2), none,
  some (.iload 1, 1), some (.iadd, 1), some (.iaload, 1), some (.aload 0, 1), some (.getfield 714, 3), none, none, some (.getfield 136, 3),
  none, none, some (.if_icmp .lt 105, 3), none, none, some (.iconst 1, 1), some (.goto 106, 3), none,
  none, some (.iconst 0, 1), some (.ireturn, 1), some (.iconst (-2), 2), none, some (.ireturn, 1)]
def xg96 : List (Option (Instr × Nat)) := [some (.aload 0, 1), some (.iload 1, 1), some (.invokevirtual 119, 3), none, none, some (.ifCond .eq 20, 3), none, none,
  some (.aload 0, 1), some (.getfield 714, 3), none, none, some (.getfield 128, 3), none, none, some (.iload 1, 1),
  some (.iaload, 1), some (.goto 21, 3), none, none, some (.iconst (-1), 1), some (.ireturn, 1)]
def xg97 : List (Option (Instr × Nat)) := [some (.aload 0, 1), some (.getfield 708, 3), none, none, some (.getfield 640, 3), none, none, some (.iconst 30, 2),
  none, some (.iaload, 1), some (.iconst 23, 2), none, some (.if_icmp .lt 35, 3), none, none, some (.aload 0, 1),
  some (.getfield 708, 3), none, none, some (.getfield 640, 3), none, none, some (.iconst 31, 2), none,
  some (.iaload, 1), some (.iconst 999, 3), none, none, some (.if_icmp .lt 35, 3), none, none, some (.iconst 1, 1),
  some (.goto 36, 3), none, none, some (.iconst 0, 1), some (.istore 1, 1), some (.aload 0, 1), some (.invokevirtual 117, 3), none,
  none, some (.ifCond .eq 48, 3), none, none, some (.iload 1, 1), some (.ifCond .eq 50, 3), none, none,
  some (.iconst (-1), 1), some (.ireturn, 1), some (.aload 0, 1), some (.getfield 709, 3), none, none, some (.aload 0, 1), some (.getfield 708, 3),
  none, none, some (.invokevirtual 27, 3), none, none, some (.aload 0, 1), some (.invokevirtual 124, 3), none,
  none, some (.aload 0, 1), some (.getfield 708, 3), none, none, some (.iconst 0, 1), some (.invokevirtual 1, 3), none,
  none, some (.ireturn, 1)]
def xg98 : List (Option (Instr × Nat)) := [some (.aload 0, 1), some (.iload 1, 1), some (.invokevirtual 120, 3), none, none, some (.ifCond .eq 27, 3), none, none,
  some (.aload 0, 1), some (.iload 2, 1), some (.invokevirtual 118, 3), none, none, some (.ifCond .eq 27, 3), none, none,
  some (.aload 0, 1), some (.getfield 714, 3), none, none, some (.iload 2, 1), some (.invokevirtual 11, 3), none, none,
  some (.ifCond .ne 30, 3), none, none, some (.iconst (-2), 2), none, some (.ireturn, 1), some (.aload 0, 1), some (.getfield 708, 3),
  none, none, some (.getfield 640, 3), none, none, some (.iconst 24, 2), none, some (.iload 1, 1),
  some (.iadd, 1), some (.iaload, 1), some (.istore 3, 1), some (.iload 3, 1), some (.iload 2, 1), some (.if_icmp .eq 70, 3), none, none,
  some (.aload 0, 1), some (.getfield 708, 3), none, none, some (.iload 1, 1), some (.invokevirtual 83, 3), none, none,
  some (.aload 0, 1), some (.getfield 708, 3), none, none, some (.getfield 640, 3), none, none, some (.iconst 0, 1),
  some (.iload 2, 1), some (.iadd, 1), some (.iaload, 1), some (.if_icmp .eq 73, 3), none, none, some (.iconst (-2), 2), none,
  some (.ireturn, 1), some (.aload 0, 1), some (.getfield 709, 3), none, none, some (.aload 0, 1), some (.getfield 708, 3), none,
  none, some (.invokevirtual 27, 3), none, none, some (.aload 0, 1), some (.getfield 708, 3), none, none,
  some (.getfield 640, 3), none, none, some (.iconst 24, 2), none, some (.iload 1, 1), some (.iadd, 1), some (.iload 2, 1),
  some (.iastore, 1), some (.iload 3, 1), some (.ireturn, 1)]
def xg99 : List (Option (Instr × Nat)) := [some (.aload 0, 1), some (.iload 1, 1), some (.invokevirtual 120, 3), none, none, some (.ifCond .eq 24, 3), none, none,
  some (.aload 0, 1), some (.getfield 708, 3), none, none, some (.getfield 640, 3), none, none, some (.iconst 24, 2),
  none, some (.iload 1, 1), some (.iadd, 1), some (.iaload, 1), some (.iconst (-1), 1), some (.if_icmp .ne 26, 3), none, none,
  some (.iconst (-1), 1), some (.ireturn, 1), some (.aload 0, 1), some (.getfield 709, 3), none, none, some (.aload 0, 1), some (.getfield 708, 3),
  none, none, some (.invokevirtual 27, 3), none, none, some (.aload 0, 1), some (.getfield 708, 3), none,
  none, some (.iload 1, 1), some (.invokevirtual 83, 3), none, none, some (.istore 2, 1), some (.aload 0, 1), some (.getfield 708, 3),
  none, none, some (.getfield 640, 3), none, none, some (.iconst 24, 2), none, some (.iload 1, 1),
  some (.iadd, 1), some (.iconst (-1), 1), some (.iastore, 1), some (.aload 0, 1), some (.getfield 708, 3), none, none, some (.getfield 640, 3),
  none, none, some (.iconst 26, 2), none, some (.iload 1, 1), some (.iadd, 1), some (.iload 2, 1), some (.iastore, 1),
  some (.iload 2, 1), some (.ireturn, 1)]
def xg100 : List (Option (Instr × Nat)) := [some (.aload 0, 1), some (.getfield 708, 3), none, none, some (.invokevirtual 85, 3), none, none, some (.aload 0, 1),
  some (.getfield 708, 3), none, none, some (.getfield 640, 3), none, none, some (.iconst 32, 2), none,
  some (.iaload, 1), some (.isub, 1), some (.istore 2, 1), some (.aload 0, 1), some (.iload 1, 1), some (.invokevirtual 120, 3), none, none,
  some (.ifCond .eq 48, 3), none, none, some (.aload 0, 1), some (.getfield 708, 3), none, none, some (.getfield 640, 3),
  none, none, some (.iconst 28, 2), none, some (.iload 1, 1), some (.iadd, 1), some (.iaload, 1), some (.ifCond .eq 48, 3),
  none, none, some (.iload 2, 1), some (.iconst 10, 2), none, some (.if_icmp .ge 50, 3), none, none,
  some (.iconst (-1), 1), some (.ireturn, 1), some (.aload 0, 1), some (.getfield 709, 3), none, none, some (.aload 0, 1), some (.getfield 708, 3),
  none, none, some (.invokevirtual 27, 3), none, none, some (.aload 0, 1), some (.getfield 708, 3), none,
  none, some (.getfield 640, 3), none, none, some (.iconst 28, 2), none, some (.iload 1, 1), some (.iadd, 1),
  some (.iconst 0, 1), some (.iastore, 1), some (.aload 0, 1), some (.getfield 708, 3), none, none, some (.getfield 640, 3), none,
  none, some (.iconst 32, 2), none, some (.dup2, 1), some (.iaload, 1), some (.iconst 10, 2), none, some (.iadd, 1),
  some (.iastore, 1), some (.iload 2, 1), some (.iconst 10, 2), none, some (.isub, 1), some (.ireturn, 1)]
def xg101 : List (Option (Instr × Nat)) := [some (.aload 0, 1), some (.getfield 709, 3), none, none, some (.aload 0, 1), some (.getfield 708, 3), none, none,
  some (.invokevirtual 28, 3), none, none, some (.ifCond .eq 24, 3), none, none, some (.aload 0, 1), some (.getfield 709, 3),
  none, none, some (.getfield 194, 3), none, none, some (.goto 25, 3), none, none,
  some (.iconst (-1), 1), some (.ireturn, 1)]
def xg102 : List (Option (Instr × Nat)) := [some (.aload 0, 1), some (.iload 1, 1), some (.invokevirtual 118, 3), none, none, some (.ifCond .eq 27, 3), none, none,
  some (.iload 2, 1), some (.ifCond .lt 27, 3), none, none, some (.iload 2, 1), some (.iconst 96, 2), none, some (.if_icmp .gt 27, 3),
  none, none, some (.iload 3, 1), some (.ifCond .lt 27, 3), none, none, some (.iload 3, 1), some (.iconst 2, 1),
  some (.if_icmp .le 29, 3), none, none, some (.iconst (-1), 1), some (.ireturn, 1), some (.aload 0, 1), some (.getfield 712, 3), none,
  none, some (.aload 0, 1), some (.invokevirtual 124, 3), none, none, some (.aload 0, 1), some (.getfield 708, 3), none,
  none, some (.iload 2, 1), some (.invokevirtual 66, 3), none, none, some (.astore 4, 2), none, some (.iload 3, 1),
  some (.lookupswitch 97 #[(0, 76), (1, 86)], 28), none, none, none, none, none, none, none,
  none, none, none, none, none, none, none, none,
  none, none, none, none, none, none, none, none,
  none, none, none, none, some (.aload 4, 2), none, some (.getfield 640, 3), none,
  none, some (.iconst 0, 1), some (.iload 1, 1), some (.iadd, 1), some (.iaload, 1), some (.ireturn, 1), some (.aload 4, 2), none,
  some (.getfield 640, 3), none, none, some (.iconst 6, 2), none, some (.iload 1, 1), some (.iadd, 1), some (.iaload, 1),
  some (.ireturn, 1), some (.aload 4, 2), none, some (.getfield 640, 3), none, none, some (.iconst 18, 2), none,
  some (.iload 1, 1), some (.iadd, 1), some (.iaload, 1), some (.ireturn, 1)]
def xg103 : List (Option (Instr × Nat)) := [some (.aload 0, 1), some (.invokevirtual 117, 3), none, none, some (.ifCond .eq 23, 3), none, none, some (.iload 1, 1),
  some (.invokestatic 121, 3), none, none, some (.ifCond .eq 23, 3), none, none, some (.iload 2, 1), some (.ifCond .lt 23, 3),
  none, none, some (.iload 2, 1), some (.iconst 1, 1), some (.if_icmp .le 26, 3), none, none, some (.iconst (-2), 2),
  none, some (.ireturn, 1), some (.aload 0, 1), some (.getfield 712, 3), none, none, some (.aload 0, 1), some (.invokevirtual 124, 3),
  none, none, some (.aload 0, 1), some (.getfield 708, 3), none, none, some (.iload 1, 1), some (.iconst (-1), 1),
  some (.invokevirtual 69, 3), none, none, some (.istore 3, 1), some (.iload 2, 1), some (.ifCond .ne 58, 3), none, none,
  some (.aload 0, 1), some (.getfield 712, 3), none, none, some (.getfield 579, 3), none, none, some (.goto 59, 3),
  none, none, some (.iload 3, 1), some (.ireturn, 1)]
def xg104 : List (Option (Instr × Nat)) := [some (.aload 0, 1), some (.iload 1, 1), some (.invokevirtual 118, 3), none, none, some (.ifCond .eq 15, 3), none, none,
  some (.iload 2, 1), some (.invokestatic 121, 3), none, none, some (.ifCond .ne 17, 3), none, none, some (.iconst (-1), 1),
  some (.ireturn, 1), some (.aload 0, 1), some (.invokevirtual 124, 3), none, none, some (.astore 3, 1), some (.aload 0, 1), some (.getfield 712, 3),
  none, none, some (.aload 3, 1), some (.aload 0, 1), some (.getfield 708, 3), none, none, some (.iload 2, 1),
  some (.iconst (-1), 1), some (.invokevirtual 69, 3), none, none, some (.aload 0, 1), some (.getfield 712, 3), none, none,
  some (.aload 3, 1), some (.aload 0, 1), some (.getfield 708, 3), none, none, some (.iload 2, 1), some (.iload 1, 1), some (.invokevirtual 69, 3),
  none, none, some (.isub, 1), some (.ireturn, 1)]
def xg105 : List (Option (Instr × Nat)) := [some (.aload 0, 1), some (.invokevirtual 117, 3), none, none, some (.ifCond .eq 14, 3), none, none, some (.iload 1, 1),
  some (.invokestatic 121, 3), none, none, some (.ifCond .ne 16, 3), none, none, some (.iconst (-1), 1), some (.ireturn, 1),
  some (.aload 0, 1), some (.getfield 712, 3), none, none, some (.aload 0, 1), some (.invokevirtual 124, 3), none, none,
  some (.aload 0, 1), some (.getfield 708, 3), none, none, some (.iload 1, 1), some (.invokevirtual 70, 3), none, none,
  some (.ireturn, 1)]
def xg106 : List (Option (Instr × Nat)) := [some (.aload 0, 1), some (.invokevirtual 117, 3), none, none, some (.ifCond .eq 26, 3), none, none, some (.iload 1, 1),
  some (.iconst 1, 1), some (.if_icmp .lt 26, 3), none, none, some (.iload 1, 1), some (.iconst 4, 1), some (.if_icmp .gt 26, 3), none,
  none, some (.iload 2, 1), some (.ifCond .lt 26, 3), none, none, some (.iload 2, 1), some (.iconst 4, 1), some (.if_icmp .le 29, 3),
  none, none, some (.iconst (-3), 2), none, some (.ireturn, 1), some (.iload 2, 1), some (.iload 1, 1), some (.if_icmp .le 37, 3),
  none, none, some (.iconst (-2), 2), none, some (.ireturn, 1), some (.aload 0, 1), some (.getfield 713, 3), none,
  none, some (.aload 0, 1), some (.invokevirtual 124, 3), none, none, some (.aload 0, 1), some (.getfield 708, 3), none,
  none, some (.iload 1, 1), some (.invokevirtual 35, 3), none, none, some (.iload 2, 1), some (.ifCond .ne 67, 3), none,
  none, some (.aload 0, 1), some (.getfield 713, 3), none, none, some (.getfield 325, 3), none, none,
  some (.goto 78, 3), none, none, some (.aload 0, 1), some (.getfield 713, 3), none, none, some (.getfield 324, 3),
  none, none, some (.iload 2, 1), some (.iconst 1, 1), some (.isub, 1), some (.iaload, 1), some (.ireturn, 1)]
def xg107 : List (Option (Instr × Nat)) := [some (.iload 1, 1), some (.iconst (-1), 1), some (.if_icmp .ne 15, 3), none, none, some (.aload 0, 1), some (.getfield 710, 3), none,
  none, some (.iconst 0, 1), some (.putfield 257, 3), none, none, some (.iconst 0, 1), some (.ireturn, 1), some (.iload 1, 1),
  some (.invokestatic 122, 3), none, none, some (.ifCond .eq 43, 3), none, none, some (.aload 0, 1), some (.iload 2, 1),
  some (.invokevirtual 119, 3), none, none, some (.ifCond .eq 43, 3), none, none, some (.iload 3, 1), some (.ifCond .lt 43, 3),
  none, none, some (.iload 3, 1), some (.iconst 2, 1), some (.if_icmp .gt 43, 3), none, none, some (.iconst 1, 1),
  some (.goto 44, 3), none, none, some (.iconst 0, 1), some (.istore 5, 2), none, some (.iload 5, 2), none,
  some (.ifCond .eq 63, 3), none, none, some (.aload 0, 1), some (.getfield 710, 3), none, none, some (.getfield 257, 3),
  none, none, some (.iconst 10, 2), none, some (.if_icmp .lt 66, 3), none, none, some (.iconst (-2), 2),
  none, some (.ireturn, 1), some (.aload 0, 1), some (.getfield 710, 3), none, none, some (.iload 1, 1), some (.iload 2, 1),
  some (.iload 3, 1), some (.iload 4, 2), none, some (.invokevirtual 30, 3), none, none, some (.aload 0, 1), some (.getfield 710, 3),
  none, none, some (.getfield 257, 3), none, none, some (.ireturn, 1)]
def xg108 : List (Option (Instr × Nat)) := [some (.aload 0, 1), some (.invokevirtual 117, 3), none, none, some (.ifCond .eq 16, 3), none, none, some (.iload 1, 1),
  some (.ifCond .lt 16, 3), none, none, some (.iload 1, 1), some (.iconst 1, 1), some (.if_icmp .le 19, 3), none, none,
  some (.iconst (-3), 2), none, some (.ireturn, 1), some (.aload 0, 1), some (.getfield 712, 3), none, none, some (.aload 0, 1),
  some (.invokevirtual 124, 3), none, none, some (.aload 0, 1), some (.getfield 710, 3), none, none, some (.invokevirtual 73, 3),
  none, none, some (.istore 2, 1), some (.iload 1, 1), some (.ifCond .ne 44, 3), none, none, some (.iload 2, 1),
  some (.invokestatic 245, 3), none, none, some (.ireturn, 1), some (.iload 2, 1), some (.ifCond .ne 53, 3), none, none,
  some (.iconst (-2), 2), none, some (.goto 60, 3), none, none, some (.aload 0, 1), some (.getfield 712, 3), none,
  none, some (.getfield 579, 3), none, none, some (.ireturn, 1)]
def xg109 : List (Option (Instr × Nat)) := [some (.aload 0, 1), some (.invokevirtual 117, 3), none, none, some (.ifCond .eq 23, 3), none, none, some (.iload 1, 1),
  some (.invokestatic 122, 3), none, none, some (.ifCond .eq 23, 3), none, none, some (.iload 2, 1), some (.ifCond .lt 23, 3),
  none, none, some (.iload 2, 1), some (.iconst 1, 1), some (.if_icmp .le 25, 3), none, none, some (.iconst (-1), 1),
  some (.ireturn, 1), some (.aload 0, 1), some (.invokevirtual 124, 3), none, none, some (.astore 3, 1), some (.aload 0, 1), some (.getfield 712, 3),
  none, none, some (.aload 3, 1), some (.aload 0, 1), some (.getfield 710, 3), none, none, some (.invokevirtual 73, 3),
  none, none, some (.istore 4, 2), none, some (.iload 4, 2), none, some (.ifCond .ne 52, 3), none,
  none, some (.iconst (-2), 2), none, some (.ireturn, 1), some (.aload 0, 1), some (.getfield 712, 3), none, none,
  some (.aload 3, 1), some (.iload 4, 2), none, some (.iload 1, 1), some (.invokevirtual 75, 3), none, none, some (.istore 5, 2),
  none, some (.iload 2, 1), some (.ifCond .ne 79, 3), none, none, some (.aload 0, 1), some (.getfield 712, 3), none,
  none, some (.getfield 579, 3), none, none, some (.goto 81, 3), none, none, some (.iload 5, 2),
  none, some (.ireturn, 1)]
def xg110 : List (Option (Instr × Nat)) := [some (.aload 0, 1), some (.iload 1, 1), some (.invokevirtual 120, 3), none, none, some (.ifCond .eq 34, 3), none, none,
  some (.iload 2, 1), some (.iconst 1, 1), some (.if_icmp .lt 34, 3), none, none, some (.iload 2, 1), some (.iconst 30, 2), none,
  some (.if_icmp .gt 34, 3), none, none, some (.iload 6, 2), none, some (.ifCond .lt 34, 3), none, none,
  some (.iload 6, 2), none, some (.iconst 1, 1), some (.if_icmp .gt 34, 3), none, none, some (.iconst 1, 1), some (.goto 35, 3),
  none, none, some (.iconst 0, 1), some (.istore 7, 2), none, some (.iload 7, 2), none, some (.ifCond .eq 65, 3),
  none, none, some (.iload 3, 1), some (.invokestatic 123, 3), none, none, some (.ifCond .eq 65, 3), none,
  none, some (.iload 4, 2), none, some (.invokestatic 123, 3), none, none, some (.ifCond .eq 65, 3), none,
  none, some (.iload 5, 2), none, some (.invokestatic 123, 3), none, none, some (.ifCond .ne 68, 3), none,
  none, some (.iconst (-2), 2), none, some (.ireturn, 1), some (.aload 0, 1), some (.getfield 712, 3), none, none,
  some (.aload 0, 1), some (.getfield 714, 3), none, none, some (.getfield 136, 3), none, none, some (.aload 0, 1),
  some (.getfield 708, 3), none, none, some (.getfield 640, 3), none, none, some (.iconst 28, 2), none,
  some (.iload 1, 1), some (.iadd, 1), some (.iaload, 1), some (.iload 2, 1), some (.iload 3, 1), some (.iload 4, 2), none, some (.iload 5, 2),
  none, some (.invokevirtual 77, 3), none, none, some (.istore 8, 2), none, some (.iload 6, 2), none,
  some (.ifCond .ne 112, 3), none, none, some (.iload 8, 2), none, some (.goto 119, 3), none, none,
  some (.aload 0, 1), some (.getfield 712, 3), none, none, some (.getfield 579, 3), none, none, some (.ireturn, 1)]
def xg111 : List (Option (Instr × Nat)) := [some (.aload 0, 1), some (.invokevirtual 117, 3), none, none, some (.ifCond .eq 33, 3), none, none, some (.iload 1, 1),
  some (.ifCond .lt 33, 3), none, none, some (.iload 1, 1), some (.iconst 9, 2), none, some (.if_icmp .gt 33, 3), none,
  none, some (.iload 2, 1), some (.invokestatic 121, 3), none, none, some (.ifCond .eq 33, 3), none, none,
  some (.iload 3, 1), some (.ifCond .lt 33, 3), none, none, some (.iload 3, 1), some (.iconst 1, 1), some (.if_icmp .le 36, 3), none,
  none, some (.iconst (-100000), 2), none, some (.ireturn, 1), some (.aload 0, 1), some (.getfield 712, 3), none, none,
  some (.aload 0, 1), some (.invokevirtual 124, 3), none, none, some (.aload 0, 1), some (.getfield 708, 3), none, none,
  some (.iload 1, 1), some (.iload 2, 1), some (.invokevirtual 71, 3), none, none, some (.istore 4, 2), none, some (.iload 3, 1),
  some (.ifCond .ne 64, 3), none, none, some (.iload 4, 2), none, some (.goto 71, 3), none, none,
  some (.aload 0, 1), some (.getfield 712, 3), none, none, some (.getfield 579, 3), none, none, some (.ireturn, 1)]
def xg112 : List (Option (Instr × Nat)) := [some (.iload 1, 1), some (.ifCond .ge 6, 3), none, none, some (.iconst (-1), 1), some (.ireturn, 1), some (.aload 0, 1), some (.getfield 718, 3),
  none, none, some (.istore 2, 1), some (.aload 0, 1), some (.iload 1, 1), some (.putfield 718, 3), none, none,
  some (.iload 2, 1), some (.ireturn, 1)]
def xg113 : List (Option (Instr × Nat)) := [some (.iload 1, 1), some (.iconst 1, 1), some (.if_icmp .lt 26, 3), none, none, some (.iload 1, 1), some (.iconst 10, 2), none,
  some (.if_icmp .gt 26, 3), none, none, some (.iload 2, 1), some (.iconst 1, 1), some (.if_icmp .lt 26, 3), none, none,
  some (.iload 2, 1), some (.iconst 72, 2), none, some (.if_icmp .gt 26, 3), none, none, some (.iconst 1, 1), some (.goto 27, 3),
  none, none, some (.iconst 0, 1), some (.istore 5, 2), none, some (.aload 0, 1), some (.invokevirtual 117, 3), none,
  none, some (.ifCond .eq 62, 3), none, none, some (.iload 5, 2), none, some (.ifCond .eq 62, 3), none,
  none, some (.iload 3, 1), some (.ifCond .lt 62, 3), none, none, some (.iload 3, 1), some (.iconst 100, 2), none,
  some (.if_icmp .gt 62, 3), none, none, some (.iload 4, 2), none, some (.ifCond .lt 62, 3), none, none,
  some (.iload 4, 2), none, some (.iconst 1, 1), some (.if_icmp .le 64, 3), none, none, some (.iconst (-1), 1), some (.ireturn, 1),
  some (.aload 0, 1), some (.invokevirtual 124, 3), none, none, some (.astore 6, 2), none, some (.aload 0, 1), some (.getfield 712, 3),
  none, none, some (.aload 0, 1), some (.getfield 718, 3), none, none, some (.putfield 580, 3), none,
  none, some (.iconst 0, 1), some (.istore 7, 2), none, some (.iconst 0, 1), some (.istore 8, 2), none, some (.iload 8, 2),
  none, some (.iload 1, 1), some (.if_icmp .ge 119, 3), none, none, some (.iload 7, 2), none, some (.aload 0, 1),
  some (.getfield 712, 3), none, none, some (.aload 6, 2), none, some (.aload 0, 1), some (.getfield 708, 3), none,
  none, some (.iload 2, 1), some (.iload 3, 1), some (.invokevirtual 72, 3), none, none, some (.iadd, 1), some (.istore 7, 2),
  none, some (.iinc 8 1, 3), none, none, some (.goto 87, 3), none, none, some (.iload 4, 2),
  none, some (.ifCond .ne 129, 3), none, none, some (.iload 7, 2), none, some (.goto 134, 3), none,
  none, some (.aload 6, 2), none, some (.getfield 5, 3), none, none, some (.ireturn, 1)]
def xg114 : List (Option (Instr × Nat)) := [some (.iload 1, 1), some (.tableswitch 230 0 15 #[80, 88, 107, 115, 123, 131, 136, 141, 152, 163, 171, 182, 190, 198, 203, 211], 79), none, none, none, none, none, none,
  none, none, none, none, none, none, none, none,
  none, none, none, none, none, none, none, none,
  none, none, none, none, none, none, none, none,
  none, none, none, none, none, none, none, none,
  none, none, none, none, none, none, none, none,
  none, none, none, none, none, none, none, none,
  none, none, none, none, none, none, none, none,
  none, none, none, none, none, none, none, none,
  none, none, none, none, none, none, none, none,
  some (.aload 0, 1), some (.getfield 714, 3), none, none, some (.getfield 134, 3), none, none, some (.ireturn, 1),
  some (.aload 0, 1), some (.invokevirtual 117, 3), none, none, some (.ifCond .eq 105, 3), none, none, some (.aload 0, 1),
  some (.getfield 714, 3), none, none, some (.getfield 135, 3), none, none, some (.goto 106, 3), none,
  none, some (.iconst (-1), 1), some (.ireturn, 1), some (.aload 0, 1), some (.getfield 714, 3), none, none, some (.getfield 138, 3),
  none, none, some (.ireturn, 1), some (.aload 0, 1), some (.getfield 714, 3), none, none, some (.getfield 139, 3),
  none, none, some (.ireturn, 1), some (.aload 0, 1), some (.getfield 714, 3), none, none, some (.getfield 140, 3),
  none, none, some (.ireturn, 1), some (.aload 0, 1), some (.getfield 716, 3), none, none, some (.ireturn, 1),
  some (.aload 0, 1), some (.getfield 717, 3), none, none, some (.ireturn, 1), some (.aload 0, 1), some (.getfield 708, 3), none,
  none, some (.getfield 640, 3), none, none, some (.iconst 30, 2), none, some (.iaload, 1), some (.ireturn, 1),
  some (.aload 0, 1), some (.getfield 708, 3), none, none, some (.getfield 640, 3), none, none, some (.iconst 31, 2),
  none, some (.iaload, 1), some (.ireturn, 1), some (.aload 0, 1), some (.getfield 708, 3), none, none, some (.invokevirtual 85, 3),
  none, none, some (.ireturn, 1), some (.aload 0, 1), some (.getfield 708, 3), none, none, some (.getfield 640, 3),
  none, none, some (.iconst 32, 2), none, some (.iaload, 1), some (.ireturn, 1), some (.aload 0, 1), some (.getfield 710, 3),
  none, none, some (.getfield 257, 3), none, none, some (.ireturn, 1), some (.aload 0, 1), some (.getfield 709, 3),
  none, none, some (.getfield 194, 3), none, none, some (.ireturn, 1), some (.aload 0, 1), some (.getfield 718, 3),
  none, none, some (.ireturn, 1), some (.aload 0, 1), some (.getfield 704, 3), none, none, some (.getfield 513, 3),
  none, none, some (.ireturn, 1), some (.aload 0, 1), some (.invokevirtual 117, 3), none, none, some (.ifCond .eq 228, 3),
  none, none, some (.aload 0, 1), some (.getfield 714, 3), none, none, some (.getfield 136, 3), none,
  none, some (.goto 229, 3), none, none, some (.iconst (-1), 1), some (.ireturn, 1), some (.iconst (-1), 1), some (.ireturn, 1)]
def xg115 : List (Option (Instr × Nat)) := [some (.iload 1, 1), some (.ifCond .lt 9, 3), none, none, some (.iload 1, 1), some (.iconst 4, 1), some (.if_icmp .lt 11, 3), none,
  none, some (.iconst (-1), 1), some (.ireturn, 1), some (.aload 0, 1), some (.getfield 707, 3), none, none, some (.iload 1, 1),
  some (.aaload, 1), some (.astore 2, 1), some (.aload 2, 1), some (.ifnonnull 37, 3), none, none, some (.new 1, 3), none,
  none, some (.dup, 1), some (.invokespecial 8, 3), none, none, some (.astore 2, 1), some (.aload 0, 1), some (.getfield 707, 3),
  none, none, some (.iload 1, 1), some (.aload 2, 1), some (.aastore, 1), some (.aload 2, 1), some (.getfield 64, 3), none,
  none, some (.aload 0, 1), some (.getfield 714, 3), none, none, some (.invokevirtual 10, 3), none, none,
  some (.aload 2, 1), some (.getfield 65, 3), none, none, some (.aload 0, 1), some (.getfield 708, 3), none, none,
  some (.invokevirtual 80, 3), none, none, some (.aload 2, 1), some (.getfield 66, 3), none, none, some (.aload 0, 1),
  some (.getfield 710, 3), none, none, some (.invokevirtual 31, 3), none, none, some (.aload 2, 1), some (.aload 0, 1),
  some (.getfield 717, 3), none, none, some (.putfield 67, 3), none, none, some (.aload 2, 1), some (.aload 0, 1),
  some (.getfield 718, 3), none, none, some (.putfield 68, 3), none, none, some (.aload 0, 1), some (.getfield 708, 3),
  none, none, some (.getfield 640, 3), none, none, some (.iconst 31, 2), none, some (.iaload, 1),
  some (.ireturn, 1)]
def xg116 : List (Option (Instr × Nat)) := [some (.iload 1, 1), some (.ifCond .lt 9, 3), none, none, some (.iload 1, 1), some (.iconst 4, 1), some (.if_icmp .lt 11, 3), none,
  none, some (.iconst (-1), 1), some (.ireturn, 1), some (.aload 0, 1), some (.getfield 707, 3), none, none, some (.iload 1, 1),
  some (.aaload, 1), some (.astore 2, 1), some (.aload 2, 1), some (.ifnonnull 24, 3), none, none, some (.iconst (-1), 1), some (.ireturn, 1),
  some (.aload 0, 1), some (.getfield 714, 3), none, none, some (.aload 2, 1), some (.getfield 64, 3), none, none,
  some (.invokevirtual 10, 3), none, none, some (.aload 0, 1), some (.getfield 708, 3), none, none, some (.aload 2, 1),
  some (.getfield 65, 3), none, none, some (.invokevirtual 80, 3), none, none, some (.aload 0, 1), some (.getfield 710, 3),
  none, none, some (.aload 2, 1), some (.getfield 66, 3), none, none, some (.invokevirtual 31, 3), none,
  none, some (.aload 0, 1), some (.aload 2, 1), some (.getfield 67, 3), none, none, some (.putfield 717, 3), none,
  none, some (.aload 0, 1), some (.aload 2, 1), some (.getfield 68, 3), none, none, some (.putfield 718, 3), none,
  none, some (.aload 0, 1), some (.getfield 709, 3), none, none, some (.iconst 0, 1), some (.putfield 194, 3), none,
  none, some (.aload 0, 1), some (.getfield 708, 3), none, none, some (.getfield 640, 3), none, none,
  some (.iconst 31, 2), none, some (.iaload, 1), some (.ireturn, 1)]
def xg117 : List (Option (Instr × Nat)) := [some (.aload 0, 1), some (.getfield 714, 3), none, none, some (.getfield 134, 3), none, none, some (.ifCond .le 14, 3),
  none, none, some (.iconst 1, 1), some (.goto 15, 3), none, none, some (.iconst 0, 1), some (.ireturn, 1)]
def xg118 : List (Option (Instr × Nat)) := [some (.iload 1, 1), some (.ifCond .lt 19, 3), none, none, some (.iload 1, 1), some (.aload 0, 1), some (.getfield 714, 3), none,
  none, some (.getfield 138, 3), none, none, some (.if_icmp .ge 19, 3), none, none, some (.iconst 1, 1),
  some (.goto 20, 3), none, none, some (.iconst 0, 1), some (.ireturn, 1)]
def xg119 : List (Option (Instr × Nat)) := [some (.iload 1, 1), some (.ifCond .lt 19, 3), none, none, some (.iload 1, 1), some (.aload 0, 1), some (.getfield 714, 3), none,
  none, some (.getfield 134, 3), none, none, some (.if_icmp .ge 19, 3), none, none, some (.iconst 1, 1),
  some (.goto 20, 3), none, none, some (.iconst 0, 1), some (.ireturn, 1)]
def xg120 : List (Option (Instr × Nat)) := [some (.aload 0, 1), some (.invokevirtual 117, 3), none, none, some (.ifCond .eq 20, 3), none, none, some (.iload 1, 1),
  some (.ifCond .lt 20, 3), none, none, some (.iload 1, 1), some (.iconst 2, 1), some (.if_icmp .ge 20, 3), none, none,
  some (.iconst 1, 1), some (.goto 21, 3), none, none, some (.iconst 0, 1), some (.ireturn, 1)]
def xg121 : List (Option (Instr × Nat)) := [some (.iload 0, 1), some (.iconst 1, 1), some (.if_icmp .lt 15, 3), none, none, some (.iload 0, 1), some (.iconst 24, 2), none,
  some (.if_icmp .gt 15, 3), none, none, some (.iconst 1, 1), some (.goto 16, 3), none, none, some (.iconst 0, 1),
  some (.ireturn, 1)]
def xg122 : List (Option (Instr × Nat)) := [some (.iload 0, 1), some (.ifCond .lt 14, 3), none, none, some (.iload 0, 1), some (.iconst 47, 2), none, some (.if_icmp .gt 14, 3),
  none, none, some (.iconst 1, 1), some (.goto 15, 3), none, none, some (.iconst 0, 1), some (.ireturn, 1)]
def xg123 : List (Option (Instr × Nat)) := [some (.iload 0, 1), some (.ifCond .lt 14, 3), none, none, some (.iload 0, 1), some (.iconst 99, 2), none, some (.if_icmp .gt 14, 3),
  none, none, some (.iconst 1, 1), some (.goto 15, 3), none, none, some (.iconst 0, 1), some (.ireturn, 1)]
def xg124 : List (Option (Instr × Nat)) := [some (.aload 0, 1), some (.getfield 717, 3), none, none, some (.ifCond .lt 22, 3), none, none, some (.aload 0, 1),
  some (.getfield 717, 3), none, none, some (.aload 0, 1), some (.getfield 716, 3), none, none, some (.if_icmp .ge 22, 3),
  none, none, some (.iconst 1, 1), some (.goto 23, 3), none, none, some (.iconst 0, 1), some (.istore 1, 1),
  some (.aload 0, 1), some (.getfield 711, 3), none, none, some (.iload 1, 1), some (.ifCond .eq 44, 3), none, none,
  some (.aload 0, 1), some (.getfield 706, 3), none, none, some (.aload 0, 1), some (.getfield 717, 3), none, none,
  some (.aaload, 1), some (.goto 45, 3), none, none, some (.aconst_null, 1), some (.putfield 3, 3), none, none,
  some (.aload 0, 1), some (.getfield 711, 3), none, none, some (.iconst (-1), 1), some (.putfield 4, 3), none, none,
  some (.aload 0, 1), some (.getfield 711, 3), none, none, some (.iconst 0, 1), some (.putfield 5, 3), none, none,
  some (.aload 0, 1), some (.getfield 711, 3), none, none, some (.areturn, 1)]
def xg125 : List (Option (Instr × Nat)) := [some (.aload 0, 1), some (.invokespecial 9999, 3), none, none, some (.aload 0, 1), some (.iconst 400, 3), none, none,
  some (.newarray .byte, 2), none, some (.putfield 768, 3), none, none, some (.aload 0, 1), some (.iconst 2400, 3), none,
  none, some (.newarray .int, 2), none, some (.putfield 771, 3), none, none, some (.aload 0, 1), some (.iconst 7, 2),
  none, some (.newarray .int, 2), none, some (.putfield 772, 3), none, none, some (.aload 0, 1), some (.iconst 288, 3),
  none, none, some (.newarray .int, 2), none, some (.putfield 773, 3), none, none, some (.aload 0, 1),
  some (.iconst 6, 2), none, some (.newarray .int, 2), none, some (.putfield 774, 3), none, none, some (.aload 0, 1),
  some (.iconst 110, 2), none, some (.newarray .int, 2), none, some (.putfield 775, 3), none, none, some (.aload 0, 1),
  some (.iconst 400, 3), none, none, some (.newarray .int, 2), none, some (.putfield 783, 3), none, none,
  some (.aload 0, 1), some (.iconst 64, 2), none, some (.newarray .long, 2), none, some (.putfield 785, 3), none, none,
  some (.aload 0, 1), some (.iconst 15, 2), none, some (.newarray .long, 2), none, some (.putfield 787, 3), none, none,
  some (.aload 0, 1), some (.iconst 151, 3), none, none, some (.newarray .int, 2), none, some (.putfield 788, 3), none,
  none, some (.aload 0, 1), some (.iconst (-1), 1), some (.putfield 789, 3), none, none, some (.aload 0, 1), some (.iconst (-1), 1),
  some (.putfield 791, 3), none, none, some (.aload 0, 1), some (.iconst 1040, 3), none, none, some (.newarray .int, 2),
  none, some (.putfield 794, 3), none, none, some (.aload 0, 1), some (.iconst 52, 2), none, some (.newarray .int, 2),
  none, some (.putfield 796, 3), none, none, some (.aload 0, 1), some (.iconst 70, 2), none, some (.newarray .int, 2),
  none, some (.putfield 801, 3), none, none, some (.aload 0, 1), some (.iconst 31, 2), none, some (.newarray .int, 2),
  none, some (.putfield 802, 3), none, none, some (.aload 0, 1), some (.iconst 604, 3), none, none,
  some (.newarray .int, 2), none, some (.putfield 804, 3), none, none, some (.aload 0, 1), some (.iconst 4, 1), some (.newarray .int, 2),
  none, some (.putfield 805, 3), none, none, some (.aload 0, 1), some (.iconst 4, 1), some (.newarray .int, 2), none,
  some (.putfield 806, 3), none, none, some (.aload 0, 1), some (.iconst 4, 1), some (.newarray .boolean, 2), none, some (.putfield 807, 3),
  none, none, some (.return_, 1)]
def xg126 : List (Option (Instr × Nat)) := [some (.lload 0, 1), some (.lload 2, 1), some (.lcmp, 1), some (.ifCond .lt 17, 3), none, none, some (.lload 0, 1), some (.lload 4, 2),
  none, some (.lcmp, 1), some (.ifCond .gt 17, 3), none, none, some (.iconst 1, 1), some (.goto 18, 3), none,
  none, some (.iconst 0, 1), some (.ireturn, 1)]
def xg127 : List (Option (Instr × Nat)) := [some (.iconst 24, 2), none, some (.istore 2, 1), some (.iload 2, 1), some (.ifCond .lt 36, 3), none, none, some (.aload 0, 1),
  some (.getfield 768, 3), none, none, some (.aload 0, 1), some (.getfield 769, 3), none, none, some (.iload 1, 1),
  some (.iload 2, 1), some (.ishr, 1), some (.i2b, 1), some (.bastore, 1), some (.aload 0, 1), some (.dup, 1), some (.getfield 769, 3), none,
  none, some (.iconst 1, 1), some (.iadd, 1), some (.putfield 769, 3), none, none, some (.iinc 2 (-8), 3), none,
  none, some (.goto 3, 3), none, none, some (.return_, 1)]
def xg128 : List (Option (Instr × Nat)) := [some (.aload 0, 1), some (.getfield 769, 3), none, none, some (.iconst 20, 2), none, some (.iadd, 1), some (.iconst 400, 3),
  none, none, some (.if_icmp .le 15, 3), none, none, some (.iconst (-1), 1), some (.ireturn, 1), some (.aload 0, 1),
  some (.iload 1, 1), some (.invokevirtual 127, 3), none, none, some (.aload 0, 1), some (.iload 2, 1), some (.invokevirtual 127, 3), none,
  none, some (.aload 0, 1), some (.iload 3, 1), some (.invokevirtual 127, 3), none, none, some (.aload 0, 1), some (.iload 4, 2),
  none, some (.invokevirtual 127, 3), none, none, some (.aload 0, 1), some (.iload 5, 2), none, some (.invokevirtual 127, 3),
  none, none, some (.aload 0, 1), some (.getfield 769, 3), none, none, some (.ireturn, 1)]
def xg129 : List (Option (Instr × Nat)) := [some (.iload 1, 1), some (.ifCond .lt 12, 3), none, none, some (.iload 1, 1), some (.aload 0, 1), some (.getfield 769, 3), none,
  none, some (.if_icmp .le 14, 3), none, none, some (.iconst (-1), 1), some (.ireturn, 1), some (.aload 0, 1), some (.iload 1, 1),
  some (.putfield 769, 3), none, none, some (.iload 1, 1), some (.ireturn, 1)]
def xg130 : List (Option (Instr × Nat)) := [some (.aload 0, 1), some (.getfield 777, 3), none, none, some (.ifCond .ne 19, 3), none, none, some (.aload 0, 1),
  some (.iconst 1, 1), some (.iconst 8, 2), none, some (.iload 2, 1), some (.imul, 1), some (.iadd, 1), some (.iload 1, 1), some (.iadd, 1),
  some (.putfield 777, 3), none, none, some (.iconst 0, 1), some (.ireturn, 1)]
def xg131 : List (Option (Instr × Nat)) := [some (.aload 0, 1), some (.getfield 776, 3), none, none, some (.aload 0, 1), some (.getfield 769, 3), none, none,
  some (.if_icmp .ge 38, 3), none, none, some (.aload 0, 1), some (.getfield 768, 3), none, none, some (.aload 0, 1),
  some (.getfield 776, 3), none, none, some (.baload, 1), some (.iconst 32, 2), none, some (.if_icmp .ne 38, 3), none,
  none, some (.aload 0, 1), some (.dup, 1), some (.getfield 776, 3), none, none, some (.iconst 1, 1), some (.iadd, 1),
  some (.putfield 776, 3), none, none, some (.goto 0, 3), none, none, some (.aload 0, 1), some (.getfield 776, 3),
  none, none, some (.aload 0, 1), some (.getfield 769, 3), none, none, some (.if_icmp .ge 65, 3), none,
  none, some (.aload 0, 1), some (.getfield 768, 3), none, none, some (.aload 0, 1), some (.getfield 776, 3), none,
  none, some (.baload, 1), some (.iconst 255, 3), none, none, some (.iand, 1), some (.goto 66, 3), none,
  none, some (.iconst (-1), 1), some (.ireturn, 1)]
def xg132 : List (Option (Instr × Nat)) := [some (.iload 1, 1), some (.aload 0, 1), some (.getfield 769, 3), none, none, some (.if_icmp .ge 34, 3), none, none,
  some (.aload 0, 1), some (.getfield 768, 3), none, none, some (.iload 1, 1), some (.baload, 1), some (.iconst 48, 2), none,
  some (.if_icmp .lt 34, 3), none, none, some (.aload 0, 1), some (.getfield 768, 3), none, none, some (.iload 1, 1),
  some (.baload, 1), some (.iconst 57, 2), none, some (.if_icmp .gt 34, 3), none, none, some (.iconst 1, 1), some (.goto 35, 3),
  none, none, some (.iconst 0, 1), some (.ireturn, 1)]
def xg133 : List (Option (Instr × Nat)) := [some (.iload 1, 1), some (.aload 0, 1), some (.getfield 769, 3), none, none, some (.if_icmp .ge 34, 3), none, none,
  some (.aload 0, 1), some (.getfield 768, 3), none, none, some (.iload 1, 1), some (.baload, 1), some (.iconst 97, 2), none,
  some (.if_icmp .lt 34, 3), none, none, some (.aload 0, 1), some (.getfield 768, 3), none, none, some (.iload 1, 1),
  some (.baload, 1), some (.iconst 122, 2), none, some (.if_icmp .gt 34, 3), none, none, some (.iconst 1, 1), some (.goto 35, 3),
  none, none, some (.iconst 0, 1), some (.ireturn, 1)]
def xg134 : List (Option (Instr × Nat)) := [some (.aload 0, 1), some (.invokevirtual 131, 3), none, none, some (.pop, 1), some (.ldc2_w 0, 1), some (.lstore 3, 1), some (.iconst 0, 1),
  some (.istore 5, 2), none, some (.aload 0, 1), some (.aload 0, 1), some (.getfield 776, 3), none, none, some (.iload 5, 2),
  none, some (.iadd, 1), some (.invokevirtual 133, 3), none, none, some (.ifCond .eq 56, 3), none, none,
  some (.iload 5, 2), none, some (.iconst 8, 2), none, some (.if_icmp .ge 50, 3), none, none, some (.lload 3, 1),
  some (.iconst 8, 2), none, some (.lshl, 1), some (.aload 0, 1), some (.getfield 768, 3), none, none, some (.aload 0, 1),
  some (.getfield 776, 3), none, none, some (.iload 5, 2), none, some (.iadd, 1), some (.baload, 1), some (.i2l, 1),
  some (.lor, 1), some (.lstore 3, 1), some (.iinc 5 1, 3), none, none, some (.goto 10, 3), none, none,
  some (.iload 5, 2), none, some (.ifCond .le 78, 3), none, none, some (.iload 5, 2), none, some (.iconst 8, 2),
  none, some (.if_icmp .ge 78, 3), none, none, some (.lload 3, 1), some (.lload 1, 1), some (.lcmp, 1), some (.ifCond .ne 78, 3),
  none, none, some (.iconst 1, 1), some (.goto 79, 3), none, none, some (.iconst 0, 1), some (.ireturn, 1)]
def xg135 : List (Option (Instr × Nat)) := [some (.aload 0, 1), some (.aload 0, 1), some (.getfield 776, 3), none, none, some (.invokevirtual 133, 3), none, none,
  some (.ifCond .eq 24, 3), none, none, some (.aload 0, 1), some (.dup, 1), some (.getfield 776, 3), none, none,
  some (.iconst 1, 1), some (.iadd, 1), some (.putfield 776, 3), none, none, some (.goto 0, 3), none, none,
  some (.return_, 1)]
def xg136 : List (Option (Instr × Nat)) := [some (.aload 0, 1), some (.lload 1, 1), some (.invokevirtual 134, 3), none, none, some (.ifCond .ne 10, 3), none, none,
  some (.iconst 0, 1), some (.ireturn, 1), some (.aload 0, 1), some (.invokevirtual 135, 3), none, none, some (.iconst 1, 1), some (.ireturn, 1)]
def xg137 : List (Option (Instr × Nat)) := [some (.aload 0, 1), some (.invokevirtual 131, 3), none, none, some (.pop, 1), some (.aload 0, 1), some (.aload 0, 1), some (.getfield 776, 3),
  none, none, some (.invokevirtual 132, 3), none, none, some (.ifCond .ne 26, 3), none, none,
  some (.aload 0, 1), some (.iconst 0, 1), some (.aload 0, 1), some (.getfield 776, 3), none, none, some (.invokevirtual 130, 3), none,
  none, some (.ireturn, 1), some (.aload 0, 1), some (.getfield 776, 3), none, none, some (.istore 3, 1), some (.iconst 0, 1),
  some (.istore 4, 2), none, some (.aload 0, 1), some (.aload 0, 1), some (.getfield 776, 3), none, none, some (.invokevirtual 132, 3),
  none, none, some (.ifCond .eq 88, 3), none, none, some (.aload 0, 1), some (.getfield 776, 3), none,
  none, some (.iload 3, 1), some (.isub, 1), some (.iconst 5, 1), some (.if_icmp .ge 75, 3), none, none, some (.iconst 10, 2),
  none, some (.iload 4, 2), none, some (.imul, 1), some (.aload 0, 1), some (.getfield 768, 3), none, none,
  some (.aload 0, 1), some (.getfield 776, 3), none, none, some (.baload, 1), some (.iadd, 1), some (.iconst 48, 2), none,
  some (.isub, 1), some (.istore 4, 2), none, some (.aload 0, 1), some (.dup, 1), some (.getfield 776, 3), none, none,
  some (.iconst 1, 1), some (.iadd, 1), some (.putfield 776, 3), none, none, some (.goto 34, 3), none, none,
  some (.aload 0, 1), some (.iload 4, 2), none, some (.putfield 778, 3), none, none, some (.aload 0, 1), some (.getfield 776, 3),
  none, none, some (.iload 3, 1), some (.isub, 1), some (.iconst 5, 1), some (.if_icmp .gt 117, 3), none, none,
  some (.iload 4, 2), none, some (.i2l, 1), some (.iload 1, 1), some (.i2l, 1), some (.iload 2, 1), some (.i2l, 1), some (.invokestatic 126, 3),
  none, none, some (.ifCond .ne 126, 3), none, none, some (.aload 0, 1), some (.iconst 1, 1), some (.iload 3, 1),
  some (.invokevirtual 130, 3), none, none, some (.ifCond .eq 130, 3), none, none, some (.iconst 1, 1), some (.goto 131, 3),
  none, none, some (.iconst 0, 1), some (.ireturn, 1)]
def xg138 : List (Option (Instr × Nat)) := [some (.aload 0, 1), some (.ldc2_w 27710370737579378, 3), none, none, some (.invokevirtual 134, 3), none, none, some (.ifCond .eq 12, 3),
  none, none, some (.iconst 0, 1), some (.ireturn, 1), some (.aload 0, 1), some (.ldc2_w 482854658917, 3), none, none,
  some (.invokevirtual 134, 3), none, none, some (.ifCond .eq 24, 3), none, none, some (.iconst 1, 1), some (.ireturn, 1),
  some (.aload 0, 1), some (.ldc2_w 1752132965, 3), none, none, some (.invokevirtual 134, 3), none, none, some (.ifCond .eq 36, 3),
  none, none, some (.iconst 2, 1), some (.ireturn, 1), some (.aload 0, 1), some (.ldc2_w 1936292453, 3), none, none,
  some (.invokevirtual 134, 3), none, none, some (.ifCond .eq 48, 3), none, none, some (.iconst 3, 1), some (.ireturn, 1),
  some (.aload 0, 1), some (.ldc2_w 1752135026, 3), none, none, some (.invokevirtual 134, 3), none, none, some (.ifCond .eq 60, 3),
  none, none, some (.iconst 4, 1), some (.ireturn, 1), some (.aload 0, 1), some (.ldc2_w 6578553, 3), none, none,
  some (.invokevirtual 134, 3), none, none, some (.ifCond .eq 72, 3), none, none, some (.iconst 5, 1), some (.ireturn, 1),
  some (.aload 0, 1), some (.ldc2_w 1735352684, 3), none, none, some (.invokevirtual 134, 3), none, none, some (.ifCond .eq 85, 3),
  none, none, some (.iconst 6, 2), none, some (.ireturn, 1), some (.aload 0, 1), some (.ldc2_w 7364985, 3), none,
  none, some (.invokevirtual 134, 3), none, none, some (.ifCond .eq 98, 3), none, none, some (.iconst 7, 2),
  none, some (.ireturn, 1), some (.aload 0, 1), some (.ldc2_w 504364296556, 3), none, none, some (.invokevirtual 134, 3), none,
  none, some (.ifCond .eq 111, 3), none, none, some (.iconst 8, 2), none, some (.ireturn, 1), some (.aload 0, 1),
  some (.ldc2_w 7824756, 3), none, none, some (.invokevirtual 134, 3), none, none, some (.ifCond .eq 124, 3), none,
  none, some (.iconst 9, 2), none, some (.ireturn, 1), some (.aload 0, 1), some (.ldc2_w 440006570868, 3), none, none,
  some (.invokevirtual 134, 3), none, none, some (.ifCond .eq 137, 3), none, none, some (.iconst 10, 2), none,
  some (.ireturn, 1), some (.aload 0, 1), some (.ldc2_w 422776370291, 3), none, none, some (.invokevirtual 134, 3), none, none,
  some (.ifCond .eq 150, 3), none, none, some (.iconst 11, 2), none, some (.ireturn, 1), some (.aload 0, 1), some (.ldc2_w 426953501804, 3),
  none, none, some (.invokevirtual 134, 3), none, none, some (.ifCond .eq 163, 3), none, none,
  some (.iconst 12, 2), none, some (.ireturn, 1), some (.aload 0, 1), some (.ldc2_w 122545758368371, 3), none, none, some (.invokevirtual 134, 3),
  none, none, some (.ifCond .eq 178, 3), none, none, some (.iconst 13, 2), none, some (.goto 194, 3),
  none, none, some (.aload 0, 1), some (.ldc2_w 465893420647, 3), none, none, some (.invokevirtual 134, 3), none,
  none, some (.ifCond .eq 193, 3), none, none, some (.iconst 14, 2), none, some (.goto 194, 3), none,
  none, some (.iconst (-1), 1), some (.ireturn, 1)]
def xg139 : List (Option (Instr × Nat)) := [some (.aload 0, 1), some (.getfield 771, 3), none, none, some (.iconst 400, 3), none, none, some (.aload 0, 1),
  some (.getfield 779, 3), none, none, some (.imul, 1), some (.aload 0, 1), some (.getfield 772, 3), none, none,
  some (.aload 0, 1), some (.getfield 779, 3), none, none, some (.iaload, 1), some (.iadd, 1), some (.iload 1, 1), some (.iconst 16, 2),
  none, some (.iload 2, 1), some (.imul, 1), some (.iadd, 1), some (.iastore, 1), some (.aload 0, 1), some (.getfield 772, 3), none,
  none, some (.aload 0, 1), some (.getfield 779, 3), none, none, some (.dup2, 1), some (.iaload, 1), some (.iconst 1, 1),
  some (.iadd, 1), some (.iastore, 1), some (.return_, 1)]
def xg140 : List (Option (Instr × Nat)) := [some (.aload 0, 1), some (.getfield 780, 3), none, none, some (.iconst 60, 2), none, some (.if_icmp .ne 16, 3), none,
  none, some (.aload 0, 1), some (.iconst 3, 1), some (.iload 1, 1), some (.invokevirtual 130, 3), none, none, some (.ireturn, 1),
  some (.aload 0, 1), some (.dup, 1), some (.getfield 780, 3), none, none, some (.iconst 1, 1), some (.iadd, 1), some (.putfield 780, 3),
  none, none, some (.iconst 1, 1), some (.ireturn, 1)]
def xg141 : List (Option (Instr × Nat)) := [some (.aload 0, 1), some (.getfield 781, 3), none, none, some (.iconst 10, 2), none, some (.if_icmp .ne 19, 3), none,
  none, some (.aload 0, 1), some (.iconst 2, 1), some (.aload 0, 1), some (.getfield 776, 3), none, none, some (.invokevirtual 130, 3),
  none, none, some (.ireturn, 1), some (.aload 0, 1), some (.dup, 1), some (.getfield 781, 3), none, none,
  some (.iconst 1, 1), some (.iadd, 1), some (.putfield 781, 3), none, none, some (.aload 0, 1), some (.getfield 783, 3), none,
  none, some (.aload 0, 1), some (.getfield 784, 3), none, none, some (.iload 1, 1), some (.iastore, 1), some (.aload 0, 1),
  some (.dup, 1), some (.getfield 784, 3), none, none, some (.iconst 1, 1), some (.iadd, 1), some (.putfield 784, 3), none,
  none, some (.iconst 1, 1), some (.ireturn, 1)]
def xg142 : List (Option (Instr × Nat)) := [some (.iload 0, 1), some (.iconst 13, 2), none, some (.if_icmp .ne 10, 3), none, none, some (.iconst 1, 1), some (.goto 31, 3),
  none, none, some (.iload 0, 1), some (.iconst 12, 2), none, some (.if_icmp .ne 20, 3), none, none,
  some (.iconst 2, 1), some (.goto 31, 3), none, none, some (.iload 0, 1), some (.iconst 11, 2), none, some (.if_icmp .ne 30, 3),
  none, none, some (.iconst 3, 1), some (.goto 31, 3), none, none, some (.iconst 0, 1), some (.ireturn, 1)]
def xg143 : List (Option (Instr × Nat)) := [some (.aload 0, 1), some (.getfield 784, 3), none, none, some (.ifCond .le 76, 3), none, none, some (.aload 0, 1),
  some (.getfield 783, 3), none, none, some (.aload 0, 1), some (.getfield 784, 3), none, none, some (.iconst 1, 1),
  some (.isub, 1), some (.iaload, 1), some (.invokestatic 142, 3), none, none, some (.iload 1, 1), some (.if_icmp .lt 76, 3), none,
  none, some (.aload 0, 1), some (.dup, 1), some (.getfield 784, 3), none, none, some (.iconst 1, 1), some (.isub, 1),
  some (.putfield 784, 3), none, none, some (.aload 0, 1), some (.aload 0, 1), some (.getfield 783, 3), none, none,
  some (.aload 0, 1), some (.getfield 784, 3), none, none, some (.iaload, 1), some (.iconst 0, 1), some (.invokevirtual 139, 3), none,
  none, some (.aload 0, 1), some (.getfield 783, 3), none, none, some (.aload 0, 1), some (.getfield 784, 3), none,
  none, some (.iaload, 1), some (.iconst 11, 2), none, some (.if_icmp .ne 0, 3), none, none, some (.aload 0, 1),
  some (.dup, 1), some (.getfield 781, 3), none, none, some (.iconst 1, 1), some (.isub, 1), some (.putfield 781, 3), none,
  none, some (.goto 0, 3), none, none, some (.return_, 1)]
def xg144 : List (Option (Instr × Nat)) := [some (.aload 0, 1), some (.invokevirtual 131, 3), none, none, some (.pop, 1), some (.aload 0, 1), some (.getfield 776, 3), none,
  none, some (.istore 1, 1), some (.aload 0, 1), some (.aload 0, 1), some (.getfield 776, 3), none, none, some (.invokevirtual 132, 3),
  none, none, some (.ifCond .eq 52, 3), none, none, some (.aload 0, 1), some (.iconst 0, 1), some (.iconst 99999, 2),
  none, some (.invokevirtual 137, 3), none, none, some (.ifCond .eq 39, 3), none, none, some (.aload 0, 1),
  some (.iload 1, 1), some (.invokevirtual 140, 3), none, none, some (.ifCond .ne 41, 3), none, none, some (.iconst 0, 1),
  some (.ireturn, 1), some (.aload 0, 1), some (.iconst 0, 1), some (.aload 0, 1), some (.getfield 778, 3), none, none, some (.invokevirtual 139, 3),
  none, none, some (.iconst 1, 1), some (.ireturn, 1), some (.aload 0, 1), some (.invokevirtual 138, 3), none, none,
  some (.istore 2, 1), some (.iload 2, 1), some (.ifCond .ge 68, 3), none, none, some (.aload 0, 1), some (.iconst 0, 1), some (.iload 1, 1),
  some (.invokevirtual 130, 3), none, none, some (.ireturn, 1), some (.aload 0, 1), some (.iload 1, 1), some (.invokevirtual 140, 3), none,
  none, some (.ifCond .ne 78, 3), none, none, some (.iconst 0, 1), some (.ireturn, 1), some (.aload 0, 1), some (.invokevirtual 135, 3),
  none, none, some (.aload 0, 1), some (.iconst 1, 1), some (.iload 2, 1), some (.invokevirtual 139, 3), none, none,
  some (.iconst 1, 1), some (.ireturn, 1)]
def xg145 : List (Option (Instr × Nat)) := [some (.aload 0, 1), some (.invokevirtual 144, 3), none, none, some (.ifCond .ne 9, 3), none, none, some (.iconst 0, 1),
  some (.ireturn, 1), some (.aload 0, 1), some (.invokevirtual 131, 3), none, none, some (.iconst 42, 2), none, some (.if_icmp .eq 36, 3),
  none, none, some (.aload 0, 1), some (.invokevirtual 131, 3), none, none, some (.iconst 47, 2), none,
  some (.if_icmp .eq 36, 3), none, none, some (.aload 0, 1), some (.invokevirtual 131, 3), none, none, some (.iconst 37, 2),
  none, some (.if_icmp .ne 103, 3), none, none, some (.aload 0, 1), some (.getfield 768, 3), none, none,
  some (.aload 0, 1), some (.getfield 776, 3), none, none, some (.baload, 1), some (.iconst 42, 2), none, some (.if_icmp .ne 54, 3),
  none, none, some (.iconst 4, 1), some (.goto 74, 3), none, none, some (.aload 0, 1), some (.getfield 768, 3),
  none, none, some (.aload 0, 1), some (.getfield 776, 3), none, none, some (.baload, 1), some (.iconst 47, 2),
  none, some (.if_icmp .ne 72, 3), none, none, some (.iconst 5, 1), some (.goto 74, 3), none, none,
  some (.iconst 14, 2), none, some (.istore 1, 1), some (.aload 0, 1), some (.dup, 1), some (.getfield 776, 3), none, none,
  some (.iconst 1, 1), some (.iadd, 1), some (.putfield 776, 3), none, none, some (.aload 0, 1), some (.invokevirtual 144, 3), none,
  none, some (.ifCond .ne 94, 3), none, none, some (.iconst 0, 1), some (.ireturn, 1), some (.aload 0, 1), some (.iload 1, 1),
  some (.iconst 0, 1), some (.invokevirtual 139, 3), none, none, some (.goto 9, 3), none, none, some (.iconst 1, 1),
  some (.ireturn, 1)]
def xg146 : List (Option (Instr × Nat)) := [some (.aload 0, 1), some (.invokevirtual 145, 3), none, none, some (.ifCond .ne 9, 3), none, none, some (.iconst 0, 1),
  some (.ireturn, 1), some (.aload 0, 1), some (.invokevirtual 131, 3), none, none, some (.iconst 43, 2), none, some (.if_icmp .eq 27, 3),
  none, none, some (.aload 0, 1), some (.invokevirtual 131, 3), none, none, some (.iconst 45, 2), none,
  some (.if_icmp .ne 75, 3), none, none, some (.aload 0, 1), some (.getfield 768, 3), none, none, some (.aload 0, 1),
  some (.getfield 776, 3), none, none, some (.baload, 1), some (.iconst 43, 2), none, some (.if_icmp .ne 45, 3), none,
  none, some (.iconst 2, 1), some (.goto 46, 3), none, none, some (.iconst 3, 1), some (.istore 1, 1), some (.aload 0, 1),
  some (.dup, 1), some (.getfield 776, 3), none, none, some (.iconst 1, 1), some (.iadd, 1), some (.putfield 776, 3), none,
  none, some (.aload 0, 1), some (.invokevirtual 145, 3), none, none, some (.ifCond .ne 66, 3), none, none,
  some (.iconst 0, 1), some (.ireturn, 1), some (.aload 0, 1), some (.iload 1, 1), some (.iconst 0, 1), some (.invokevirtual 139, 3), none, none,
  some (.goto 9, 3), none, none, some (.iconst 1, 1), some (.ireturn, 1)]
def xg147 : List (Option (Instr × Nat)) := [some (.aload 0, 1), some (.invokevirtual 146, 3), none, none, some (.ifCond .ne 9, 3), none, none, some (.iconst 0, 1),
  some (.ireturn, 1), some (.aload 0, 1), some (.invokevirtual 131, 3), none, none, some (.istore 1, 1), some (.aload 0, 1), some (.getfield 776, 3),
  none, none, some (.istore 2, 1), some (.iload 1, 1), some (.iconst 60, 2), none, some (.if_icmp .eq 44, 3), none,
  none, some (.iload 1, 1), some (.iconst 61, 2), none, some (.if_icmp .eq 44, 3), none, none, some (.iload 1, 1),
  some (.iconst 62, 2), none, some (.if_icmp .eq 44, 3), none, none, some (.aload 0, 1), some (.iconst 0, 1), some (.iload 2, 1),
  some (.invokevirtual 130, 3), none, none, some (.ireturn, 1), some (.aload 0, 1), some (.dup, 1), some (.getfield 776, 3), none,
  none, some (.iconst 1, 1), some (.iadd, 1), some (.putfield 776, 3), none, none, some (.iload 1, 1), some (.iconst 61, 2),
  none, some (.if_icmp .eq 89, 3), none, none, some (.aload 0, 1), some (.getfield 776, 3), none, none,
  some (.aload 0, 1), some (.getfield 769, 3), none, none, some (.if_icmp .ge 89, 3), none, none, some (.aload 0, 1),
  some (.getfield 768, 3), none, none, some (.aload 0, 1), some (.getfield 776, 3), none, none, some (.baload, 1),
  some (.iconst 61, 2), none, some (.if_icmp .ne 89, 3), none, none, some (.iconst 1, 1), some (.goto 90, 3), none,
  none, some (.iconst 0, 1), some (.istore 3, 1), some (.iload 3, 1), some (.ifCond .eq 105, 3), none, none, some (.aload 0, 1),
  some (.dup, 1), some (.getfield 776, 3), none, none, some (.iconst 1, 1), some (.iadd, 1), some (.putfield 776, 3), none,
  none, some (.aload 0, 1), some (.iload 2, 1), some (.invokevirtual 140, 3), none, none, some (.ifCond .ne 115, 3), none,
  none, some (.iconst 0, 1), some (.ireturn, 1), some (.iload 1, 1), some (.iconst 60, 2), none, some (.if_icmp .ne 133, 3), none,
  none, some (.iload 3, 1), some (.ifCond .eq 129, 3), none, none, some (.iconst 1, 1), some (.goto 152, 3), none,
  none, some (.iconst 0, 1), some (.goto 152, 3), none, none, some (.iload 1, 1), some (.iconst 61, 2), none,
  some (.if_icmp .ne 143, 3), none, none, some (.iconst 2, 1), some (.goto 152, 3), none, none, some (.iload 3, 1),
  some (.ifCond .eq 151, 3), none, none, some (.iconst 3, 1), some (.goto 152, 3), none, none, some (.iconst 4, 1),
  some (.istore 4, 2), none, some (.aload 0, 1), some (.invokevirtual 146, 3), none, none, some (.ifCond .ne 163, 3), none,
  none, some (.iconst 0, 1), some (.ireturn, 1), some (.aload 0, 1), some (.iconst 6, 2), none, some (.iload 4, 2), none,
  some (.iadd, 1), some (.iconst 0, 1), some (.invokevirtual 139, 3), none, none, some (.iconst 1, 1), some (.ireturn, 1)]
def xg148 : List (Option (Instr × Nat)) := [some (.iconst 1, 1), some (.istore 1, 1), some (.iload 1, 1), some (.ifCond .eq 75, 3), none, none, some (.iconst 0, 1), some (.istore 1, 1),
  some (.aload 0, 1), some (.invokevirtual 131, 3), none, none, some (.istore 2, 1), some (.aload 0, 1), some (.ldc2_w 7237492, 3), none,
  none, some (.invokevirtual 134, 3), none, none, some (.ifCond .eq 43, 3), none, none, some (.aload 0, 1),
  some (.iconst 11, 2), none, some (.invokevirtual 141, 3), none, none, some (.ifCond .ne 34, 3), none, none,
  some (.iconst 0, 1), some (.ireturn, 1), some (.aload 0, 1), some (.invokevirtual 135, 3), none, none, some (.iconst 1, 1), some (.istore 1, 1),
  some (.goto 72, 3), none, none, some (.iload 2, 1), some (.iconst 91, 2), none, some (.if_icmp .ne 72, 3), none,
  none, some (.aload 0, 1), some (.iconst 91, 2), none, some (.invokevirtual 141, 3), none, none, some (.ifCond .ne 60, 3),
  none, none, some (.iconst 0, 1), some (.ireturn, 1), some (.aload 0, 1), some (.dup, 1), some (.getfield 776, 3), none,
  none, some (.iconst 1, 1), some (.iadd, 1), some (.putfield 776, 3), none, none, some (.iconst 1, 1), some (.istore 1, 1),
  some (.goto 2, 3), none, none, some (.aload 0, 1), some (.invokevirtual 147, 3), none, none, some (.ireturn, 1)]
def xg149 : List (Option (Instr × Nat)) := [some (.iconst 0, 1), some (.istore 1, 1), some (.iload 1, 1), some (.aload 0, 1), some (.getfield 784, 3), none, none, some (.if_icmp .ge 29, 3),
  none, none, some (.aload 0, 1), some (.getfield 783, 3), none, none, some (.iload 1, 1), some (.iaload, 1),
  some (.iconst 91, 2), none, some (.if_icmp .ne 23, 3), none, none, some (.iconst 1, 1), some (.ireturn, 1), some (.iinc 1 1, 3),
  none, none, some (.goto 2, 3), none, none, some (.iconst 0, 1), some (.ireturn, 1)]
def xg150 : List (Option (Instr × Nat)) := [some (.aload 0, 1), some (.iconst 3, 1), some (.invokevirtual 143, 3), none, none, some (.aload 0, 1), some (.invokevirtual 131, 3), none,
  none, some (.iconst 93, 2), none, some (.if_icmp .ne 64, 3), none, none, some (.aload 0, 1), some (.invokevirtual 149, 3),
  none, none, some (.ifCond .eq 64, 3), none, none, some (.aload 0, 1), some (.iconst 1, 1), some (.invokevirtual 143, 3),
  none, none, some (.aload 0, 1), some (.dup, 1), some (.getfield 784, 3), none, none, some (.iconst 1, 1),
  some (.isub, 1), some (.putfield 784, 3), none, none, some (.aload 0, 1), some (.dup, 1), some (.getfield 781, 3), none,
  none, some (.iconst 1, 1), some (.isub, 1), some (.putfield 781, 3), none, none, some (.aload 0, 1), some (.dup, 1),
  some (.getfield 776, 3), none, none, some (.iconst 1, 1), some (.iadd, 1), some (.putfield 776, 3), none, none,
  some (.aload 0, 1), some (.iconst 3, 1), some (.invokevirtual 143, 3), none, none, some (.goto 5, 3), none, none,
  some (.return_, 1)]
def xg151 : List (Option (Instr × Nat)) := [some (.aload 0, 1), some (.iconst 0, 1), some (.putfield 784, 3), none, none, some (.aload 0, 1), some (.iconst 0, 1), some (.putfield 781, 3),
  none, none, some (.iconst 1, 1), some (.istore 1, 1), some (.iload 1, 1), some (.ifCond .eq 112, 3), none, none,
  some (.aload 0, 1), some (.invokevirtual 148, 3), none, none, some (.ifCond .ne 25, 3), none, none, some (.iconst 0, 1),
  some (.ireturn, 1), some (.aload 0, 1), some (.invokevirtual 150, 3), none, none, some (.aload 0, 1), some (.ldc2_w 6385252, 3), none,
  none, some (.invokevirtual 134, 3), none, none, some (.ifCond .ne 49, 3), none, none, some (.aload 0, 1),
  some (.ldc2_w 28530, 3), none, none, some (.invokevirtual 134, 3), none, none, some (.ifCond .eq 53, 3), none,
  none, some (.iconst 1, 1), some (.goto 54, 3), none, none, some (.iconst 0, 1), some (.istore 1, 1), some (.iload 1, 1),
  some (.ifCond .eq 12, 3), none, none, some (.aload 0, 1), some (.ldc2_w 6385252, 3), none, none, some (.invokevirtual 134, 3),
  none, none, some (.ifCond .eq 74, 3), none, none, some (.iconst 12, 2), none, some (.goto 76, 3),
  none, none, some (.iconst 13, 2), none, some (.istore 2, 1), some (.aload 0, 1), some (.invokevirtual 135, 3), none,
  none, some (.aload 0, 1), some (.iload 2, 1), some (.invokestatic 142, 3), none, none, some (.invokevirtual 143, 3), none,
  none, some (.aload 0, 1), some (.getfield 783, 3), none, none, some (.aload 0, 1), some (.getfield 784, 3), none,
  none, some (.iload 2, 1), some (.iastore, 1), some (.aload 0, 1), some (.dup, 1), some (.getfield 784, 3), none, none,
  some (.iconst 1, 1), some (.iadd, 1), some (.putfield 784, 3), none, none, some (.goto 12, 3), none, none,
  some (.aload 0, 1), some (.invokevirtual 149, 3), none, none, some (.ifCond .eq 134, 3), none, none, some (.aload 0, 1),
  some (.invokevirtual 131, 3), none, none, some (.pop, 1), some (.aload 0, 1), some (.iconst 0, 1), some (.aload 0, 1), some (.getfield 776, 3),
  none, none, some (.invokevirtual 130, 3), none, none, some (.ireturn, 1), some (.aload 0, 1), some (.iconst 1, 1),
  some (.invokevirtual 143, 3), none, none, some (.iconst 1, 1), some (.ireturn, 1)]
def xg152 : List (Option (Instr × Nat)) := [some (.aload 0, 1), some (.invokevirtual 135, 3), none, none, some (.iconst 48, 2), none, some (.aload 0, 1), some (.getfield 779, 3),
  none, none, some (.imul, 1), some (.iconst 4, 1), some (.aload 0, 1), some (.getfield 774, 3), none, none,
  some (.aload 0, 1), some (.getfield 779, 3), none, none, some (.iaload, 1), some (.imul, 1), some (.iadd, 1), some (.istore 1, 1),
  some (.aload 0, 1), some (.getfield 773, 3), none, none, some (.iload 1, 1), some (.aload 0, 1), some (.getfield 772, 3), none,
  none, some (.aload 0, 1), some (.getfield 779, 3), none, none, some (.iaload, 1), some (.iastore, 1), some (.aload 0, 1),
  some (.invokevirtual 146, 3), none, none, some (.ifCond .ne 48, 3), none, none, some (.iconst 0, 1), some (.ireturn, 1),
  some (.aload 0, 1), some (.getfield 773, 3), none, none, some (.iload 1, 1), some (.iconst 1, 1), some (.iadd, 1), some (.aload 0, 1),
  some (.getfield 772, 3), none, none, some (.aload 0, 1), some (.getfield 779, 3), none, none, some (.iaload, 1),
  some (.iastore, 1), some (.aload 0, 1), some (.getfield 773, 3), none, none, some (.iload 1, 1), some (.iconst 2, 1), some (.iadd, 1),
  some (.iconst (-1), 1), some (.iastore, 1), some (.aload 0, 1), some (.ldc2_w 26982, 3), none, none, some (.invokevirtual 136, 3), none,
  none, some (.ifCond .eq 110, 3), none, none, some (.aload 0, 1), some (.getfield 773, 3), none, none,
  some (.iload 1, 1), some (.iconst 2, 1), some (.iadd, 1), some (.aload 0, 1), some (.getfield 772, 3), none, none, some (.aload 0, 1),
  some (.getfield 779, 3), none, none, some (.iaload, 1), some (.iastore, 1), some (.aload 0, 1), some (.invokevirtual 151, 3), none,
  none, some (.ifCond .ne 110, 3), none, none, some (.iconst 0, 1), some (.ireturn, 1), some (.aload 0, 1), some (.getfield 773, 3),
  none, none, some (.iload 1, 1), some (.iconst 3, 1), some (.iadd, 1), some (.aload 0, 1), some (.getfield 772, 3), none,
  none, some (.aload 0, 1), some (.getfield 779, 3), none, none, some (.iaload, 1), some (.iastore, 1), some (.aload 0, 1),
  some (.getfield 774, 3), none, none, some (.aload 0, 1), some (.getfield 779, 3), none, none, some (.dup2, 1),
  some (.iaload, 1), some (.iconst 1, 1), some (.iadd, 1), some (.iastore, 1), some (.iconst 1, 1), some (.ireturn, 1)]
def xg153 : List (Option (Instr × Nat)) := [some (.aload 0, 1), some (.iload 2, 1), some (.iload 3, 1), some (.invokevirtual 137, 3), none, none, some (.ifCond .ne 11, 3), none,
  none, some (.iconst 0, 1), some (.ireturn, 1), some (.aload 0, 1), some (.getfield 775, 3), none, none, some (.iload 1, 1),
  some (.aload 0, 1), some (.getfield 778, 3), none, none, some (.iastore, 1), some (.iconst 1, 1), some (.ireturn, 1)]
def xg154 : List (Option (Instr × Nat)) := [some (.aload 0, 1), some (.getfield 775, 3), none, none, some (.iconst 0, 1), some (.iaload, 1), some (.ifCond .le 16, 3), none,
  none, some (.aload 0, 1), some (.iconst 4, 1), some (.iload 1, 1), some (.invokevirtual 130, 3), none, none, some (.ireturn, 1),
  some (.aload 0, 1), some (.invokevirtual 135, 3), none, none, some (.aload 0, 1), some (.iconst 0, 1), some (.iconst 2, 1), some (.iconst 10, 2),
  none, some (.invokevirtual 153, 3), none, none, some (.ifCond .eq 46, 3), none, none, some (.aload 0, 1),
  some (.iconst 1, 1), some (.iconst 0, 1), some (.iconst 9, 2), none, some (.invokevirtual 153, 3), none, none, some (.ifCond .eq 46, 3),
  none, none, some (.iconst 1, 1), some (.goto 47, 3), none, none, some (.iconst 0, 1), some (.ireturn, 1)]
def xg155 : List (Option (Instr × Nat)) := [some (.aload 0, 1), some (.getfield 775, 3), none, none, some (.iconst 2, 1), some (.iaload, 1), some (.iconst 6, 2), none,
  some (.if_icmp .ne 18, 3), none, none, some (.aload 0, 1), some (.iconst 4, 1), some (.iload 1, 1), some (.invokevirtual 130, 3), none,
  none, some (.ireturn, 1), some (.aload 0, 1), some (.invokevirtual 135, 3), none, none, some (.iconst 10, 2), none,
  some (.iconst 6, 2), none, some (.aload 0, 1), some (.getfield 775, 3), none, none, some (.iconst 2, 1), some (.iaload, 1),
  some (.imul, 1), some (.iadd, 1), some (.istore 2, 1), some (.aload 0, 1), some (.iload 2, 1), some (.iconst 0, 1), some (.aload 0, 1), some (.getfield 775, 3),
  none, none, some (.iconst 0, 1), some (.iaload, 1), some (.iconst 1, 1), some (.isub, 1), some (.invokevirtual 153, 3), none,
  none, some (.ifCond .eq 65, 3), none, none, some (.aload 0, 1), some (.iload 2, 1), some (.iconst 2, 1), some (.iadd, 1),
  some (.iconst 0, 1), some (.iconst 9, 2), none, some (.invokevirtual 153, 3), none, none, some (.ifCond .ne 67, 3), none,
  none, some (.iconst 0, 1), some (.ireturn, 1), some (.aload 0, 1), some (.getfield 775, 3), none, none, some (.iload 2, 1),
  some (.iconst 1, 1), some (.iadd, 1), some (.aload 0, 1), some (.getfield 775, 3), none, none, some (.iload 2, 1), some (.iaload, 1),
  some (.iastore, 1), some (.iconst 3, 1), some (.istore 3, 1), some (.iload 3, 1), some (.iconst 6, 2), none, some (.if_icmp .ge 104, 3), none,
  none, some (.aload 0, 1), some (.getfield 775, 3), none, none, some (.iload 2, 1), some (.iload 3, 1), some (.iadd, 1),
  some (.iconst 0, 1), some (.iastore, 1), some (.iinc 3 1, 3), none, none, some (.goto 83, 3), none, none,
  some (.aload 0, 1), some (.getfield 775, 3), none, none, some (.iconst 2, 1), some (.dup2, 1), some (.iaload, 1), some (.iconst 1, 1),
  some (.iadd, 1), some (.iastore, 1), some (.iconst 1, 1), some (.ireturn, 1)]
def xg156 : List (Option (Instr × Nat)) := [some (.aload 0, 1), some (.invokevirtual 135, 3), none, none, some (.aload 0, 1), some (.iconst 0, 1), some (.aload 0, 1), some (.getfield 775, 3),
  none, none, some (.iconst 0, 1), some (.iaload, 1), some (.iconst 1, 1), some (.isub, 1), some (.invokevirtual 137, 3), none,
  none, some (.ifCond .ne 22, 3), none, none, some (.iconst 0, 1), some (.ireturn, 1), some (.aload 0, 1), some (.iconst 100, 2),
  none, some (.aload 0, 1), some (.getfield 778, 3), none, none, some (.iadd, 1), some (.iconst 0, 1), some (.iconst 9, 2),
  none, some (.invokevirtual 153, 3), none, none, some (.ireturn, 1)]
def xg157 : List (Option (Instr × Nat)) := [some (.aload 0, 1), some (.getfield 775, 3), none, none, some (.iconst 3, 1), some (.iaload, 1), some (.iconst 4, 1), some (.if_icmp .ne 17, 3),
  none, none, some (.aload 0, 1), some (.iconst 4, 1), some (.iload 1, 1), some (.invokevirtual 130, 3), none, none,
  some (.ireturn, 1), some (.aload 0, 1), some (.invokevirtual 135, 3), none, none, some (.iconst 52, 2), none, some (.iconst 2, 1),
  some (.aload 0, 1), some (.getfield 775, 3), none, none, some (.iconst 3, 1), some (.iaload, 1), some (.imul, 1), some (.iadd, 1),
  some (.istore 2, 1), some (.aload 0, 1), some (.iload 2, 1), some (.iconst 0, 1), some (.iconst 23, 2), none, some (.invokevirtual 153, 3), none,
  none, some (.ifCond .eq 62, 3), none, none, some (.aload 0, 1), some (.iload 2, 1), some (.iconst 1, 1), some (.iadd, 1),
  some (.aload 0, 1), some (.getfield 775, 3), none, none, some (.iload 2, 1), some (.iaload, 1), some (.iconst 23, 2), none,
  some (.invokevirtual 153, 3), none, none, some (.ifCond .ne 64, 3), none, none, some (.iconst 0, 1), some (.ireturn, 1),
  some (.aload 0, 1), some (.getfield 775, 3), none, none, some (.iconst 3, 1), some (.dup2, 1), some (.iaload, 1), some (.iconst 1, 1),
  some (.iadd, 1), some (.iastore, 1), some (.iconst 1, 1), some (.ireturn, 1)]
def xg158 : List (Option (Instr × Nat)) := [some (.aload 0, 1), some (.getfield 775, 3), none, none, some (.iconst 4, 1), some (.iaload, 1), some (.iconst 10, 2), none,
  some (.if_icmp .ne 18, 3), none, none, some (.aload 0, 1), some (.iconst 4, 1), some (.iload 1, 1), some (.invokevirtual 130, 3), none,
  none, some (.ireturn, 1), some (.aload 0, 1), some (.invokevirtual 135, 3), none, none, some (.iconst 60, 2), none,
  some (.iconst 4, 1), some (.aload 0, 1), some (.getfield 775, 3), none, none, some (.iconst 4, 1), some (.iaload, 1), some (.imul, 1),
  some (.iadd, 1), some (.istore 2, 1), some (.aload 0, 1), some (.iload 2, 1), some (.iconst 0, 1), some (.aload 0, 1), some (.getfield 775, 3), none,
  none, some (.iconst 2, 1), some (.iaload, 1), some (.iconst 1, 1), some (.isub, 1), some (.invokevirtual 153, 3), none, none,
  some (.ifCond .eq 96, 3), none, none, some (.aload 0, 1), some (.iload 2, 1), some (.iconst 1, 1), some (.iadd, 1), some (.iconst 0, 1),
  some (.aload 0, 1), some (.getfield 775, 3), none, none, some (.iconst 0, 1), some (.iaload, 1), some (.iconst 1, 1), some (.isub, 1),
  some (.invokevirtual 153, 3), none, none, some (.ifCond .eq 96, 3), none, none, some (.aload 0, 1), some (.iload 2, 1),
  some (.iconst 2, 1), some (.iadd, 1), some (.iconst 0, 1), some (.iconst 23, 2), none, some (.invokevirtual 153, 3), none, none,
  some (.ifCond .eq 96, 3), none, none, some (.aload 0, 1), some (.iload 2, 1), some (.iconst 3, 1), some (.iadd, 1), some (.iconst 1, 1),
  some (.iconst 50, 2), none, some (.invokevirtual 153, 3), none, none, some (.ifCond .ne 98, 3), none, none,
  some (.iconst 0, 1), some (.ireturn, 1), some (.aload 0, 1), some (.getfield 775, 3), none, none, some (.iconst 4, 1), some (.dup2, 1),
  some (.iaload, 1), some (.iconst 1, 1), some (.iadd, 1), some (.iastore, 1), some (.iconst 1, 1), some (.ireturn, 1)]
def xg159 : List (Option (Instr × Nat)) := [some (.aload 0, 1), some (.getfield 775, 3), none, none, some (.iconst 8, 2), none, some (.iaload, 1), some (.ifCond .lt 17, 3),
  none, none, some (.aload 0, 1), some (.iconst 4, 1), some (.iload 1, 1), some (.invokevirtual 130, 3), none, none,
  some (.ireturn, 1), some (.aload 0, 1), some (.invokevirtual 135, 3), none, none, some (.aload 0, 1), some (.iconst 8, 2), none,
  some (.iconst 1, 1), some (.iconst 99, 2), none, some (.invokevirtual 153, 3), none, none, some (.ireturn, 1)]
def xg160 : List (Option (Instr × Nat)) := [some (.aload 0, 1), some (.getfield 775, 3), none, none, some (.iconst 9, 2), none, some (.iaload, 1), some (.ifCond .lt 17, 3),
  none, none, some (.aload 0, 1), some (.iconst 4, 1), some (.iload 1, 1), some (.invokevirtual 130, 3), none, none,
  some (.ireturn, 1), some (.aload 0, 1), some (.invokevirtual 135, 3), none, none, some (.aload 0, 1), some (.iconst 9, 2), none,
  some (.iconst 0, 1), some (.aload 0, 1), some (.getfield 775, 3), none, none, some (.iconst 0, 1), some (.iaload, 1), some (.iconst 1, 1),
  some (.isub, 1), some (.invokevirtual 153, 3), none, none, some (.ireturn, 1)]
def xg161 : List (Option (Instr × Nat)) := [some (.aload 0, 1), some (.ldc2_w 1818324581, 3), none, none, some (.invokevirtual 134, 3), none, none, some (.ifCond .eq 16, 3),
  none, none, some (.aload 0, 1), some (.iload 1, 1), some (.invokevirtual 154, 3), none, none, some (.ireturn, 1),
  some (.aload 0, 1), some (.getfield 775, 3), none, none, some (.iconst 0, 1), some (.iaload, 1), some (.ifCond .ne 32, 3), none,
  none, some (.aload 0, 1), some (.iconst 4, 1), some (.iload 1, 1), some (.invokevirtual 130, 3), none, none, some (.ireturn, 1),
  some (.aload 0, 1), some (.ldc2_w 27710370737579378, 3), none, none, some (.invokevirtual 134, 3), none, none, some (.ifCond .eq 48, 3),
  none, none, some (.aload 0, 1), some (.iload 1, 1), some (.invokevirtual 155, 3), none, none, some (.ireturn, 1),
  some (.aload 0, 1), some (.ldc2_w 7824756, 3), none, none, some (.invokevirtual 134, 3), none, none, some (.ifCond .eq 63, 3),
  none, none, some (.aload 0, 1), some (.invokevirtual 156, 3), none, none, some (.ireturn, 1), some (.aload 0, 1),
  some (.ldc2_w 440006570868, 3), none, none, some (.invokevirtual 134, 3), none, none, some (.ifCond .eq 79, 3), none,
  none, some (.aload 0, 1), some (.iload 1, 1), some (.invokevirtual 157, 3), none, none, some (.ireturn, 1), some (.aload 0, 1),
  some (.ldc2_w 2002873972, 3), none, none, some (.invokevirtual 134, 3), none, none, some (.ifCond .eq 95, 3), none,
  none, some (.aload 0, 1), some (.iload 1, 1), some (.invokevirtual 158, 3), none, none, some (.ireturn, 1), some (.aload 0, 1),
  some (.ldc2_w 1936682085, 3), none, none, some (.invokevirtual 134, 3), none, none, some (.ifCond .eq 113, 3), none,
  none, some (.aload 0, 1), some (.iload 1, 1), some (.invokevirtual 159, 3), none, none, some (.goto 118, 3), none,
  none, some (.aload 0, 1), some (.iload 1, 1), some (.invokevirtual 160, 3), none, none, some (.ireturn, 1)]
def xg162 : List (Option (Instr × Nat)) := [some (.aload 0, 1), some (.ldc2_w 1818324581, 3), none, none, some (.invokevirtual 134, 3), none, none, some (.ifCond .ne 40, 3),
  none, none, some (.aload 0, 1), some (.ldc2_w 27710370737579378, 3), none, none, some (.invokevirtual 134, 3), none,
  none, some (.ifCond .ne 40, 3), none, none, some (.aload 0, 1), some (.ldc2_w 7824756, 3), none, none,
  some (.invokevirtual 134, 3), none, none, some (.ifCond .ne 40, 3), none, none, some (.aload 0, 1), some (.ldc2_w 440006570868, 3),
  none, none, some (.invokevirtual 134, 3), none, none, some (.ifCond .eq 44, 3), none, none,
  some (.iconst 1, 1), some (.goto 45, 3), none, none, some (.iconst 0, 1), some (.istore 1, 1), some (.iload 1, 1), some (.ifCond .ne 80, 3),
  none, none, some (.aload 0, 1), some (.ldc2_w 2002873972, 3), none, none, some (.invokevirtual 134, 3), none,
  none, some (.ifCond .ne 80, 3), none, none, some (.aload 0, 1), some (.ldc2_w 1936682085, 3), none, none,
  some (.invokevirtual 134, 3), none, none, some (.ifCond .ne 80, 3), none, none, some (.aload 0, 1), some (.ldc2_w 422776370291, 3),
  none, none, some (.invokevirtual 134, 3), none, none, some (.ifCond .eq 84, 3), none, none,
  some (.iconst 1, 1), some (.goto 85, 3), none, none, some (.iconst 0, 1), some (.ireturn, 1)]
def xg163 : List (Option (Instr × Nat)) := [some (.aload 0, 1), some (.invokevirtual 131, 3), none, none, some (.pop, 1), some (.aload 0, 1), some (.getfield 776, 3), none,
  none, some (.istore 1, 1), some (.aload 0, 1), some (.getfield 779, 3), none, none, some (.iconst 6, 2), none,
  some (.if_icmp .ne 23, 3), none, none, some (.iconst 1, 1), some (.goto 24, 3), none, none, some (.iconst 0, 1),
  some (.istore 2, 1), some (.iload 2, 1), some (.ifCond .eq 39, 3), none, none, some (.aload 0, 1), some (.invokevirtual 162, 3), none,
  none, some (.ifCond .ne 56, 3), none, none, some (.goto 49, 3), none, none, some (.aload 0, 1),
  some (.ldc2_w 2002873451, 3), none, none, some (.invokevirtual 134, 3), none, none, some (.ifCond .ne 56, 3), none,
  none, some (.aload 0, 1), some (.iconst 0, 1), some (.iload 1, 1), some (.invokevirtual 130, 3), none, none, some (.ireturn, 1),
  some (.aload 0, 1), some (.getfield 782, 3), none, none, some (.iload 2, 1), some (.ifCond .eq 69, 3), none, none,
  some (.iconst 40, 2), none, some (.goto 71, 3), none, none, some (.iconst 12, 2), none, some (.if_icmp .ne 81, 3),
  none, none, some (.aload 0, 1), some (.iconst 4, 1), some (.iload 1, 1), some (.invokevirtual 130, 3), none, none,
  some (.ireturn, 1), some (.aload 0, 1), some (.dup, 1), some (.getfield 782, 3), none, none, some (.iconst 1, 1), some (.iadd, 1),
  some (.putfield 782, 3), none, none, some (.iload 2, 1), some (.ifCond .eq 103, 3), none, none, some (.aload 0, 1),
  some (.iload 1, 1), some (.invokevirtual 161, 3), none, none, some (.goto 107, 3), none, none, some (.aload 0, 1),
  some (.invokevirtual 152, 3), none, none, some (.ireturn, 1)]
def xg164 : List (Option (Instr × Nat)) := [some (.aload 0, 1), some (.getfield 772, 3), none, none, some (.aload 0, 1), some (.getfield 779, 3), none, none,
  some (.iconst 0, 1), some (.iastore, 1), some (.aload 0, 1), some (.iconst 0, 1), some (.putfield 782, 3), none, none, some (.aload 0, 1),
  some (.iconst 0, 1), some (.putfield 776, 3), none, none, some (.aload 0, 1), some (.iconst 0, 1), some (.putfield 777, 3), none,
  none, some (.aload 0, 1), some (.iconst 0, 1), some (.putfield 780, 3), none, none, some (.aload 0, 1), some (.invokevirtual 163, 3),
  none, none, some (.istore 1, 1), some (.iload 1, 1), some (.ifCond .eq 66, 3), none, none, some (.aload 0, 1),
  some (.invokevirtual 131, 3), none, none, some (.iconst 59, 2), none, some (.if_icmp .ne 66, 3), none, none,
  some (.aload 0, 1), some (.dup, 1), some (.getfield 776, 3), none, none, some (.iconst 1, 1), some (.iadd, 1), some (.putfield 776, 3),
  none, none, some (.aload 0, 1), some (.invokevirtual 163, 3), none, none, some (.istore 1, 1), some (.goto 35, 3),
  none, none, some (.iload 1, 1), some (.ifCond .eq 88, 3), none, none, some (.aload 0, 1), some (.invokevirtual 131, 3),
  none, none, some (.iconst (-1), 1), some (.if_icmp .eq 88, 3), none, none, some (.aload 0, 1), some (.iconst 0, 1),
  some (.aload 0, 1), some (.getfield 776, 3), none, none, some (.invokevirtual 130, 3), none, none, some (.pop, 1),
  some (.aload 0, 1), some (.iconst 0, 1), some (.putfield 769, 3), none, none, some (.aload 0, 1), some (.getfield 777, 3), none,
  none, some (.ifCond .ne 104, 3), none, none, some (.iconst 1, 1), some (.goto 105, 3), none, none,
  some (.iconst 0, 1), some (.ireturn, 1)]
def xg165 : List (Option (Instr × Nat)) := [some (.aload 0, 1), some (.getfield 770, 3), none, none, some (.iconst 6, 2), none, some (.if_icmp .ne 11, 3), none,
  none, some (.iconst (-1), 1), some (.ireturn, 1), some (.aload 0, 1), some (.aload 0, 1), some (.getfield 770, 3), none, none,
  some (.putfield 779, 3), none, none, some (.aload 0, 1), some (.getfield 774, 3), none, none, some (.aload 0, 1),
  some (.getfield 779, 3), none, none, some (.iconst 0, 1), some (.iastore, 1), some (.aload 0, 1), some (.invokevirtual 164, 3), none,
  none, some (.ifCond .ne 44, 3), none, none, some (.iconst (-2), 2), none, some (.aload 0, 1), some (.getfield 777, 3),
  none, none, some (.isub, 1), some (.ireturn, 1), some (.aload 0, 1), some (.dup, 1), some (.getfield 770, 3), none,
  none, some (.iconst 1, 1), some (.iadd, 1), some (.putfield 770, 3), none, none, some (.aload 0, 1), some (.getfield 770, 3),
  none, none, some (.iconst 1, 1), some (.isub, 1), some (.ireturn, 1)]
def xg166 : List (Option (Instr × Nat)) := [some (.aload 0, 1), some (.iconst 6, 2), none, some (.putfield 779, 3), none, none, some (.iconst 0, 1), some (.istore 1, 1),
  some (.iload 1, 1), some (.iconst 10, 2), none, some (.if_icmp .ge 37, 3), none, none, some (.aload 0, 1), some (.getfield 775, 3),
  none, none, some (.iload 1, 1), some (.iload 1, 1), some (.iconst 7, 2), none, some (.if_icmp .le 29, 3), none,
  none, some (.iconst (-1), 1), some (.goto 30, 3), none, none, some (.iconst 0, 1), some (.iastore, 1), some (.iinc 1 1, 3),
  none, none, some (.goto 8, 3), none, none, some (.iconst 0, 1), some (.istore 1, 1), some (.iload 1, 1),
  some (.iconst 10, 2), none, some (.if_icmp .ge 61, 3), none, none, some (.aload 0, 1), some (.getfield 775, 3), none,
  none, some (.iconst 100, 2), none, some (.iload 1, 1), some (.iadd, 1), some (.iconst 0, 1), some (.iastore, 1), some (.iinc 1 1, 3),
  none, none, some (.goto 39, 3), none, none, some (.aload 0, 1), some (.invokevirtual 164, 3), none,
  none, some (.ifCond .ne 76, 3), none, none, some (.iconst (-2), 2), none, some (.aload 0, 1), some (.getfield 777, 3),
  none, none, some (.isub, 1), some (.ireturn, 1), some (.iconst 0, 1), some (.istore 1, 1), some (.iload 1, 1), some (.iconst 151, 3),
  none, none, some (.if_icmp .ge 113, 3), none, none, some (.aload 0, 1), some (.getfield 788, 3), none,
  none, some (.iload 1, 1), some (.iload 1, 1), some (.iconst 110, 2), none, some (.if_icmp .ge 105, 3), none, none,
  some (.aload 0, 1), some (.getfield 775, 3), none, none, some (.iload 1, 1), some (.iaload, 1), some (.goto 106, 3), none,
  none, some (.iconst 0, 1), some (.iastore, 1), some (.iinc 1 1, 3), none, none, some (.goto 78, 3), none,
  none, some (.aload 0, 1), some (.getfield 788, 3), none, none, some (.iconst 8, 2), none, some (.iaload, 1),
  some (.ifCond .ge 132, 3), none, none, some (.aload 0, 1), some (.getfield 788, 3), none, none, some (.iconst 8, 2),
  none, some (.iconst 30, 2), none, some (.iastore, 1), some (.aload 0, 1), some (.getfield 788, 3), none, none,
  some (.iconst 9, 2), none, some (.iaload, 1), some (.ifCond .ge 150, 3), none, none, some (.aload 0, 1), some (.getfield 788, 3),
  none, none, some (.iconst 9, 2), none, some (.iconst 0, 1), some (.iastore, 1), some (.iconst 0, 1), some (.istore 1, 1),
  some (.iload 1, 1), some (.iconst 2, 1), some (.if_icmp .ge 209, 3), none, none, some (.aload 0, 1), some (.getfield 788, 3), none,
  none, some (.iconst 46, 2), none, some (.iconst 3, 1), some (.iload 1, 1), some (.imul, 1), some (.iadd, 1), some (.iconst (-1), 1),
  some (.iastore, 1), some (.aload 0, 1), some (.getfield 788, 3), none, none, some (.iconst 46, 2), none, some (.iconst 3, 1),
  some (.iload 1, 1), some (.imul, 1), some (.iadd, 1), some (.iconst 1, 1), some (.iadd, 1), some (.aload 0, 1), some (.getfield 788, 3), none,
  none, some (.iconst 9, 2), none, some (.iaload, 1), some (.iastore, 1), some (.aload 0, 1), some (.getfield 788, 3), none,
  none, some (.iconst 46, 2), none, some (.iconst 3, 1), some (.iload 1, 1), some (.imul, 1), some (.iadd, 1), some (.iconst 2, 1),
  some (.iadd, 1), some (.iconst 0, 1), some (.iastore, 1), some (.iinc 1 1, 3), none, none, some (.goto 152, 3), none,
  none, some (.aload 0, 1), some (.iconst 0, 1), some (.putfield 795, 3), none, none, some (.aload 0, 1), some (.getfield 788, 3),
  none, none, some (.iconst 2, 1), some (.iaload, 1), some (.ireturn, 1)]
def xg167 : List (Option (Instr × Nat)) := [some (.iload 1, 1), some (.ifCond .lt 16, 3), none, none, some (.iload 1, 1), some (.aload 0, 1), some (.getfield 770, 3), none,
  none, some (.if_icmp .ge 16, 3), none, none, some (.iconst 1, 1), some (.goto 17, 3), none, none,
  some (.iconst 0, 1), some (.ireturn, 1)]
def xg168 : List (Option (Instr × Nat)) := [some (.aload 0, 1), some (.getfield 785, 3), none, none, some (.aload 0, 1), some (.getfield 786, 3), none, none,
  some (.lload 1, 1), some (.lastore, 1), some (.aload 0, 1), some (.dup, 1), some (.getfield 786, 3), none, none, some (.iconst 1, 1),
  some (.iadd, 1), some (.putfield 786, 3), none, none, some (.return_, 1)]
def xg169 : List (Option (Instr × Nat)) := [some (.aload 0, 1), some (.dup, 1), some (.getfield 786, 3), none, none, some (.iconst 1, 1), some (.isub, 1), some (.putfield 786, 3),
  none, none, some (.aload 0, 1), some (.getfield 785, 3), none, none, some (.aload 0, 1), some (.getfield 786, 3),
  none, none, some (.laload, 1), some (.lreturn, 1)]
def xg170 : List (Option (Instr × Nat)) := [some (.iload 0, 1), some (.tableswitch 172 2 14 #[68, 72, 76, 80, 108, 120, 132, 144, 156, 172, 168, 172, 94], 67), none, none, none, none, none, none,
  none, none, none, none, none, none, none, none,
  none, none, none, none, none, none, none, none,
  none, none, none, none, none, none, none, none,
  none, none, none, none, none, none, none, none,
  none, none, none, none, none, none, none, none,
  none, none, none, none, none, none, none, none,
  none, none, none, none, none, none, none, none,
  none, none, none, none, some (.lload 1, 1), some (.lload 3, 1), some (.ladd, 1), some (.lreturn, 1),
  some (.lload 1, 1), some (.lload 3, 1), some (.lsub, 1), some (.lreturn, 1), some (.lload 1, 1), some (.lload 3, 1), some (.lmul, 1), some (.lreturn, 1),
  some (.lload 3, 1), some (.ldc2_w 0, 1), some (.lcmp, 1), some (.ifCond .ne 90, 3), none, none, some (.ldc2_w 0, 1), some (.goto 93, 3),
  none, none, some (.lload 1, 1), some (.lload 3, 1), some (.ldiv, 1), some (.lreturn, 1), some (.lload 3, 1), some (.ldc2_w 0, 1),
  some (.lcmp, 1), some (.ifCond .ne 104, 3), none, none, some (.ldc2_w 0, 1), some (.goto 107, 3), none, none,
  some (.lload 1, 1), some (.lload 3, 1), some (.lrem, 1), some (.lreturn, 1), some (.lload 1, 1), some (.lload 3, 1), some (.lcmp, 1), some (.ifCond .ge 118, 3),
  none, none, some (.ldc2_w 1, 1), some (.goto 119, 3), none, none, some (.ldc2_w 0, 1), some (.lreturn, 1),
  some (.lload 1, 1), some (.lload 3, 1), some (.lcmp, 1), some (.ifCond .gt 130, 3), none, none, some (.ldc2_w 1, 1), some (.goto 131, 3),
  none, none, some (.ldc2_w 0, 1), some (.lreturn, 1), some (.lload 1, 1), some (.lload 3, 1), some (.lcmp, 1), some (.ifCond .ne 142, 3),
  none, none, some (.ldc2_w 1, 1), some (.goto 143, 3), none, none, some (.ldc2_w 0, 1), some (.lreturn, 1),
  some (.lload 1, 1), some (.lload 3, 1), some (.lcmp, 1), some (.ifCond .lt 154, 3), none, none, some (.ldc2_w 1, 1), some (.goto 155, 3),
  none, none, some (.ldc2_w 0, 1), some (.lreturn, 1), some (.lload 1, 1), some (.lload 3, 1), some (.lcmp, 1), some (.ifCond .le 166, 3),
  none, none, some (.ldc2_w 1, 1), some (.goto 167, 3), none, none, some (.ldc2_w 0, 1), some (.lreturn, 1),
  some (.lload 1, 1), some (.lload 3, 1), some (.land, 1), some (.lreturn, 1), some (.lload 1, 1), some (.lload 3, 1), some (.lor, 1), some (.lreturn, 1)]
def xg171 : List (Option (Instr × Nat)) := [some (.aload 0, 1), some (.iconst 0, 1), some (.putfield 786, 3), none, none, some (.iload 2, 1), some (.istore 4, 2), none,
  some (.iload 4, 2), none, some (.iload 3, 1), some (.if_icmp .ge 135, 3), none, none, some (.aload 0, 1), some (.getfield 771, 3),
  none, none, some (.iconst 400, 3), none, none, some (.iload 1, 1), some (.imul, 1), some (.iload 4, 2),
  none, some (.iadd, 1), some (.iaload, 1), some (.iconst 15, 2), none, some (.iand, 1), some (.istore 5, 2), none,
  some (.aload 0, 1), some (.getfield 771, 3), none, none, some (.iconst 400, 3), none, none, some (.iload 1, 1),
  some (.imul, 1), some (.iload 4, 2), none, some (.iadd, 1), some (.iaload, 1), some (.iconst 4, 1), some (.ishr, 1), some (.istore 6, 2),
  none, some (.iload 5, 2), none, some (.ifCond .ne 64, 3), none, none, some (.aload 0, 1), some (.iload 6, 2),
  none, some (.i2l, 1), some (.invokevirtual 168, 3), none, none, some (.goto 129, 3), none, none,
  some (.iload 5, 2), none, some (.iconst 1, 1), some (.if_icmp .ne 84, 3), none, none, some (.aload 0, 1), some (.aload 0, 1),
  some (.getfield 787, 3), none, none, some (.iload 6, 2), none, some (.laload, 1), some (.invokevirtual 168, 3), none,
  none, some (.goto 129, 3), none, none, some (.iload 5, 2), none, some (.iconst 11, 2), none,
  some (.if_icmp .ne 104, 3), none, none, some (.aload 0, 1), some (.ldc2_w 1, 1), some (.aload 0, 1), some (.invokevirtual 169, 3), none,
  none, some (.lsub, 1), some (.invokevirtual 168, 3), none, none, some (.goto 129, 3), none, none,
  some (.aload 0, 1), some (.invokevirtual 169, 3), none, none, some (.lstore 7, 2), none, some (.aload 0, 1), some (.invokevirtual 169, 3),
  none, none, some (.lstore 9, 2), none, some (.aload 0, 1), some (.iload 5, 2), none, some (.lload 9, 2),
  none, some (.lload 7, 2), none, some (.invokestatic 170, 3), none, none, some (.invokevirtual 168, 3), none,
  none, some (.iinc 4 1, 3), none, none, some (.goto 8, 3), none, none, some (.aload 0, 1),
  some (.invokevirtual 169, 3), none, none, some (.lreturn, 1)]
def xg172 : List (Option (Instr × Nat)) := [some (.aload 0, 1), some (.getfield 788, 3), none, none, some (.iconst 0, 1), some (.iaload, 1), some (.ifCond .le 13, 3), none,
  none, some (.iconst 1, 1), some (.goto 14, 3), none, none, some (.iconst 0, 1), some (.ireturn, 1)]
def xg173 : List (Option (Instr × Nat)) := [some (.iload 1, 1), some (.ifCond .lt 18, 3), none, none, some (.iload 1, 1), some (.aload 0, 1), some (.getfield 788, 3), none,
  none, some (.iconst 2, 1), some (.iaload, 1), some (.if_icmp .ge 18, 3), none, none, some (.iconst 1, 1), some (.goto 19, 3),
  none, none, some (.iconst 0, 1), some (.ireturn, 1)]
def xg174 : List (Option (Instr × Nat)) := [some (.iload 1, 1), some (.ifCond .lt 18, 3), none, none, some (.iload 1, 1), some (.aload 0, 1), some (.getfield 788, 3), none,
  none, some (.iconst 0, 1), some (.iaload, 1), some (.if_icmp .ge 18, 3), none, none, some (.iconst 1, 1), some (.goto 19, 3),
  none, none, some (.iconst 0, 1), some (.ireturn, 1)]
def xg175 : List (Option (Instr × Nat)) := [some (.aload 0, 1), some (.getfield 788, 3), none, none, some (.iconst 10, 2), none, some (.iconst 6, 2), none,
  some (.iload 1, 1), some (.imul, 1), some (.iadd, 1), some (.iload 2, 1), some (.iadd, 1), some (.iaload, 1), some (.ireturn, 1)]
def xg176 : List (Option (Instr × Nat)) := [some (.aload 0, 1), some (.getfield 788, 3), none, none, some (.iconst 46, 2), none, some (.iconst 3, 1), some (.iload 1, 1),
  some (.imul, 1), some (.iadd, 1), some (.iaload, 1), some (.ireturn, 1)]
def xg177 : List (Option (Instr × Nat)) := [some (.aload 0, 1), some (.iload 1, 1), some (.invokevirtual 176, 3), none, none, some (.ifCond .ge 24, 3), none, none,
  some (.aload 0, 1), some (.getfield 788, 3), none, none, some (.iconst 46, 2), none, some (.iconst 3, 1), some (.iload 1, 1),
  some (.imul, 1), some (.iadd, 1), some (.iconst 1, 1), some (.iadd, 1), some (.iaload, 1), some (.goto 34, 3), none, none,
  some (.aload 0, 1), some (.aload 0, 1), some (.iload 1, 1), some (.invokevirtual 176, 3), none, none, some (.iconst 0, 1), some (.invokevirtual 175, 3),
  none, none, some (.ireturn, 1)]
def xg178 : List (Option (Instr × Nat)) := [some (.aload 0, 1), some (.getfield 788, 3), none, none, some (.iconst 46, 2), none, some (.iconst 3, 1), some (.iload 1, 1),
  some (.imul, 1), some (.iadd, 1), some (.iconst 2, 1), some (.iadd, 1), some (.iaload, 1), some (.ireturn, 1)]
def xg179 : List (Option (Instr × Nat)) := [some (.aload 0, 1), some (.iload 1, 1), some (.invokevirtual 178, 3), none, none, some (.aload 0, 1), some (.getfield 788, 3), none,
  none, some (.iconst 8, 2), none, some (.iaload, 1), some (.if_icmp .lt 19, 3), none, none, some (.iconst 1, 1),
  some (.goto 20, 3), none, none, some (.iconst 0, 1), some (.ireturn, 1)]
def xg180 : List (Option (Instr × Nat)) := [some (.aload 0, 1), some (.iload 1, 1), some (.iconst 2, 1), some (.invokevirtual 175, 3), none, none, some (.aload 0, 1), some (.getfield 788, 3),
  none, none, some (.iconst 1, 1), some (.iaload, 1), some (.if_icmp .gt 19, 3), none, none, some (.iconst 1, 1),
  some (.goto 20, 3), none, none, some (.iconst 0, 1), some (.ireturn, 1)]
def xg181 : List (Option (Instr × Nat)) := [some (.aload 0, 1), some (.iconst 0, 1), some (.invokevirtual 176, 3), none, none, some (.iload 1, 1), some (.if_icmp .ne 13, 3), none,
  none, some (.iconst 1, 1), some (.goto 14, 3), none, none, some (.iconst 0, 1), some (.aload 0, 1), some (.iconst 1, 1),
  some (.invokevirtual 176, 3), none, none, some (.iload 1, 1), some (.if_icmp .ne 27, 3), none, none, some (.iconst 2, 1),
  some (.goto 28, 3), none, none, some (.iconst 0, 1), some (.ior, 1), some (.ireturn, 1)]
def xg182 : List (Option (Instr × Nat)) := [some (.iload 1, 1), some (.aload 0, 1), some (.getfield 791, 3), none, none, some (.if_icmp .ne 12, 3), none, none,
  some (.iconst 2, 1), some (.goto 41, 3), none, none, some (.aload 0, 1), some (.iconst 0, 1), some (.invokevirtual 176, 3), none,
  none, some (.iload 1, 1), some (.if_icmp .ne 25, 3), none, none, some (.iconst 1, 1), some (.goto 26, 3), none,
  none, some (.iconst 0, 1), some (.aload 0, 1), some (.iconst 1, 1), some (.invokevirtual 176, 3), none, none, some (.iload 1, 1),
  some (.if_icmp .ne 39, 3), none, none, some (.iconst 1, 1), some (.goto 40, 3), none, none, some (.iconst 0, 1),
  some (.iadd, 1), some (.ireturn, 1)]
def xg183 : List (Option (Instr × Nat)) := [some (.iconst (-1), 1), some (.istore 2, 1), some (.iconst 0, 1), some (.istore 3, 1), some (.iload 3, 1), some (.aload 0, 1), some (.getfield 788, 3), none,
  none, some (.iconst 4, 1), some (.iaload, 1), some (.if_icmp .ge 91, 3), none, none, some (.iconst 60, 2), none,
  some (.iconst 4, 1), some (.iload 3, 1), some (.imul, 1), some (.iadd, 1), some (.istore 4, 2), none, some (.aload 0, 1), some (.getfield 788, 3),
  none, none, some (.iload 4, 2), none, some (.iaload, 1), some (.iload 1, 1), some (.if_icmp .ne 85, 3), none,
  none, some (.aload 0, 1), some (.getfield 788, 3), none, none, some (.iload 4, 2), none, some (.iconst 2, 1),
  some (.iadd, 1), some (.iaload, 1), some (.aload 0, 1), some (.getfield 788, 3), none, none, some (.iconst 5, 1), some (.iaload, 1),
  some (.if_icmp .ge 54, 3), none, none, some (.goto 85, 3), none, none, some (.iload 2, 1), some (.ifCond .lt 83, 3),
  none, none, some (.aload 0, 1), some (.getfield 788, 3), none, none, some (.iload 4, 2), none,
  some (.iconst 2, 1), some (.iadd, 1), some (.iaload, 1), some (.aload 0, 1), some (.getfield 788, 3), none, none, some (.iconst 60, 2),
  none, some (.iconst 4, 1), some (.iload 2, 1), some (.imul, 1), some (.iadd, 1), some (.iconst 2, 1), some (.iadd, 1), some (.iaload, 1),
  some (.if_icmp .ge 85, 3), none, none, some (.iload 3, 1), some (.istore 2, 1), some (.iinc 3 1, 3), none, none,
  some (.goto 4, 3), none, none, some (.iload 2, 1), some (.ireturn, 1)]
def xg184 : List (Option (Instr × Nat)) := [some (.aload 0, 1), some (.iload 1, 1), some (.invokevirtual 183, 3), none, none, some (.istore 2, 1), some (.iload 2, 1), some (.ifCond .ge 19, 3),
  none, none, some (.aload 0, 1), some (.iload 1, 1), some (.iconst 1, 1), some (.invokevirtual 175, 3), none, none,
  some (.goto 32, 3), none, none, some (.aload 0, 1), some (.getfield 788, 3), none, none, some (.iconst 60, 2),
  none, some (.iconst 4, 1), some (.iload 2, 1), some (.imul, 1), some (.iadd, 1), some (.iconst 1, 1), some (.iadd, 1), some (.iaload, 1),
  some (.ireturn, 1)]
def xg185 : List (Option (Instr × Nat)) := [some (.iload 1, 1), some (.iconst (-1), 1), some (.if_icmp .eq 16, 3), none, none, some (.aload 0, 1), some (.iload 1, 1), some (.invokevirtual 167, 3),
  none, none, some (.ifCond .ne 16, 3), none, none, some (.iconst (-2), 2), none, some (.ireturn, 1),
  some (.aload 0, 1), some (.getfield 789, 3), none, none, some (.istore 2, 1), some (.aload 0, 1), some (.iload 1, 1), some (.putfield 789, 3),
  none, none, some (.iload 2, 1), some (.ireturn, 1)]
def xg186 : List (Option (Instr × Nat)) := [some (.aload 0, 1), some (.iload 1, 1), some (.invokevirtual 173, 3), none, none, some (.ifCond .ne 10, 3), none, none,
  some (.iconst (-1), 1), some (.ireturn, 1), some (.iload 2, 1), some (.tableswitch 82 0 7 #[56, 56, 56, 56, 56, 63, 69, 76], 45), none, none, none, none,
  none, none, none, none, none, none, none, none,
  none, none, none, none, none, none, none, none,
  none, none, none, none, none, none, none, none,
  none, none, none, none, none, none, none, none,
  none, none, none, none, none, none, none, none,
  some (.aload 0, 1), some (.iload 1, 1), some (.iload 2, 1), some (.invokevirtual 175, 3), none, none, some (.ireturn, 1), some (.aload 0, 1),
  some (.iload 1, 1), some (.invokevirtual 181, 3), none, none, some (.ireturn, 1), some (.aload 0, 1), some (.iload 1, 1), some (.iconst 5, 1),
  some (.invokevirtual 175, 3), none, none, some (.ireturn, 1), some (.aload 0, 1), some (.iload 1, 1), some (.invokevirtual 184, 3), none,
  none, some (.ireturn, 1), some (.iconst (-1), 1), some (.ireturn, 1)]
def xg187 : List (Option (Instr × Nat)) := [some (.aload 0, 1), some (.invokevirtual 172, 3), none, none, some (.ifCond .eq 17, 3), none, none, some (.iload 1, 1),
  some (.i2l, 1), some (.ldc2_w 0, 1), some (.ldc2_w 1, 1), some (.invokestatic 126, 3), none, none, some (.ifCond .ne 20, 3), none,
  none, some (.iconst (-2), 2), none, some (.ireturn, 1), some (.iload 2, 1), some (.tableswitch 84 0 3 #[52, 58, 64, 70], 31), none, none,
  none, none, none, none, none, none, none, none,
  none, none, none, none, none, none, none, none,
  none, none, none, none, none, none, none, none,
  none, none, none, none, some (.aload 0, 1), some (.iload 1, 1), some (.invokevirtual 176, 3), none,
  none, some (.ireturn, 1), some (.aload 0, 1), some (.iload 1, 1), some (.invokevirtual 177, 3), none, none, some (.ireturn, 1),
  some (.aload 0, 1), some (.iload 1, 1), some (.invokevirtual 178, 3), none, none, some (.ireturn, 1), some (.aload 0, 1), some (.iload 1, 1),
  some (.invokevirtual 179, 3), none, none, some (.ifCond .eq 82, 3), none, none, some (.iconst 1, 1), some (.goto 83, 3),
  none, none, some (.iconst 0, 1), some (.ireturn, 1), some (.iconst (-2), 2), none, some (.ireturn, 1)]
def xg188 : List (Option (Instr × Nat)) := [some (.aload 0, 1), some (.iload 1, 1), some (.invokevirtual 174, 3), none, none, some (.ifCond .eq 20, 3), none, none,
  some (.aload 0, 1), some (.getfield 788, 3), none, none, some (.iconst 100, 2), none, some (.iload 1, 1), some (.iadd, 1),
  some (.iaload, 1), some (.goto 21, 3), none, none, some (.iconst (-1), 1), some (.ireturn, 1)]
def xg189 : List (Option (Instr × Nat)) := [some (.aload 0, 1), some (.getfield 792, 3), none, none, some (.istore 1, 1), some (.iconst 0, 1), some (.istore 2, 1), some (.iload 2, 1),
  some (.aload 0, 1), some (.getfield 788, 3), none, none, some (.iconst 3, 1), some (.iaload, 1), some (.if_icmp .ge 75, 3), none,
  none, some (.iload 1, 1), some (.ifCond .ne 63, 3), none, none, some (.aload 0, 1), some (.getfield 788, 3), none,
  none, some (.iconst 5, 1), some (.iaload, 1), some (.aload 0, 1), some (.getfield 788, 3), none, none, some (.iconst 52, 2),
  none, some (.iconst 2, 1), some (.iload 2, 1), some (.imul, 1), some (.iadd, 1), some (.iaload, 1), some (.if_icmp .lt 67, 3), none,
  none, some (.aload 0, 1), some (.getfield 788, 3), none, none, some (.iconst 5, 1), some (.iaload, 1), some (.aload 0, 1),
  some (.getfield 788, 3), none, none, some (.iconst 52, 2), none, some (.iconst 2, 1), some (.iload 2, 1), some (.imul, 1),
  some (.iadd, 1), some (.iconst 1, 1), some (.iadd, 1), some (.iaload, 1), some (.if_icmp .gt 67, 3), none, none, some (.iconst 1, 1),
  some (.goto 68, 3), none, none, some (.iconst 0, 1), some (.istore 1, 1), some (.iinc 2 1, 3), none, none,
  some (.goto 7, 3), none, none, some (.iload 1, 1), some (.ireturn, 1)]
def xg190 : List (Option (Instr × Nat)) := [some (.iconst 0, 1), some (.istore 2, 1), some (.iconst 0, 1), some (.istore 3, 1), some (.iload 3, 1), some (.aload 0, 1), some (.getfield 788, 3), none,
  none, some (.iconst 2, 1), some (.iaload, 1), some (.if_icmp .ge 48, 3), none, none, some (.iload 2, 1), some (.iload 3, 1),
  some (.iload 1, 1), some (.if_icmp .eq 39, 3), none, none, some (.aload 0, 1), some (.iload 3, 1), some (.iconst 0, 1), some (.invokevirtual 175, 3),
  none, none, some (.aload 0, 1), some (.iload 1, 1), some (.iconst 0, 1), some (.invokevirtual 175, 3), none, none,
  some (.if_icmp .ne 39, 3), none, none, some (.iconst 1, 1), some (.goto 40, 3), none, none, some (.iconst 0, 1),
  some (.iadd, 1), some (.istore 2, 1), some (.iinc 3 1, 3), none, none, some (.goto 4, 3), none, none,
  some (.iload 2, 1), some (.ireturn, 1)]
def xg191 : List (Option (Instr × Nat)) := [some (.aload 0, 1), some (.iload 1, 1), some (.invokevirtual 183, 3), none, none, some (.istore 2, 1), some (.aload 0, 1), some (.iload 1, 1),
  some (.iconst 0, 1), some (.invokevirtual 175, 3), none, none, some (.istore 3, 1), some (.aload 0, 1), some (.getfield 787, 3), none,
  none, some (.iconst 0, 1), some (.iload 1, 1), some (.i2l, 1), some (.lastore, 1), some (.aload 0, 1), some (.getfield 787, 3), none,
  none, some (.iconst 1, 1), some (.iload 3, 1), some (.i2l, 1), some (.lastore, 1), some (.aload 0, 1), some (.getfield 787, 3), none,
  none, some (.iconst 2, 1), some (.aload 0, 1), some (.iload 1, 1), some (.iconst 1, 1), some (.invokevirtual 175, 3), none, none,
  some (.i2l, 1), some (.lastore, 1), some (.aload 0, 1), some (.getfield 787, 3), none, none, some (.iconst 3, 1), some (.aload 0, 1),
  some (.iload 1, 1), some (.iconst 2, 1), some (.invokevirtual 175, 3), none, none, some (.i2l, 1), some (.lastore, 1), some (.aload 0, 1),
  some (.getfield 787, 3), none, none, some (.iconst 4, 1), some (.aload 0, 1), some (.getfield 788, 3), none, none,
  some (.iconst 5, 1), some (.iaload, 1), some (.i2l, 1), some (.lastore, 1), some (.aload 0, 1), some (.getfield 787, 3), none, none,
  some (.iconst 5, 1), some (.aload 0, 1), some (.getfield 788, 3), none, none, some (.iconst 6, 2), none, some (.iaload, 1),
  some (.i2l, 1), some (.lastore, 1), some (.aload 0, 1), some (.getfield 787, 3), none, none, some (.iconst 6, 2), none,
  some (.aload 0, 1), some (.iload 1, 1), some (.invokevirtual 184, 3), none, none, some (.i2l, 1), some (.lastore, 1), some (.aload 0, 1),
  some (.getfield 787, 3), none, none, some (.iconst 7, 2), none, some (.iload 2, 1), some (.ifCond .ge 109, 3), none,
  none, some (.ldc2_w 0, 1), some (.goto 123, 3), none, none, some (.aload 0, 1), some (.getfield 788, 3), none,
  none, some (.iconst 60, 2), none, some (.iconst 4, 1), some (.iload 2, 1), some (.imul, 1), some (.iadd, 1), some (.iconst 3, 1),
  some (.iadd, 1), some (.iaload, 1), some (.i2l, 1), some (.lastore, 1), some (.aload 0, 1), some (.getfield 787, 3), none, none,
  some (.iconst 8, 2), none, some (.iload 2, 1), some (.ifCond .ge 138, 3), none, none, some (.ldc2_w 0, 1), some (.goto 159, 3),
  none, none, some (.aload 0, 1), some (.getfield 788, 3), none, none, some (.iconst 60, 2), none,
  some (.iconst 4, 1), some (.iload 2, 1), some (.imul, 1), some (.iadd, 1), some (.iconst 2, 1), some (.iadd, 1), some (.iaload, 1), some (.aload 0, 1),
  some (.getfield 788, 3), none, none, some (.iconst 5, 1), some (.iaload, 1), some (.isub, 1), some (.i2l, 1), some (.lastore, 1),
  some (.aload 0, 1), some (.getfield 787, 3), none, none, some (.iconst 9, 2), none, some (.aload 0, 1), some (.getfield 788, 3),
  none, none, some (.iconst 100, 2), none, some (.iload 3, 1), some (.iadd, 1), some (.iaload, 1), some (.i2l, 1),
  some (.lastore, 1), some (.aload 0, 1), some (.getfield 787, 3), none, none, some (.iconst 10, 2), none, some (.aload 0, 1),
  some (.invokevirtual 189, 3), none, none, some (.ifCond .eq 194, 3), none, none, some (.ldc2_w 1, 1), some (.goto 195, 3),
  none, none, some (.ldc2_w 0, 1), some (.lastore, 1), some (.aload 0, 1), some (.getfield 787, 3), none, none,
  some (.iconst 11, 2), none, some (.aload 0, 1), some (.iload 1, 1), some (.invokevirtual 182, 3), none, none, some (.i2l, 1),
  some (.lastore, 1), some (.aload 0, 1), some (.getfield 787, 3), none, none, some (.iconst 12, 2), none, some (.aload 0, 1),
  some (.iload 1, 1), some (.iconst 3, 1), some (.invokevirtual 175, 3), none, none, some (.i2l, 1), some (.lastore, 1), some (.aload 0, 1),
  some (.getfield 787, 3), none, none, some (.iconst 13, 2), none, some (.aload 0, 1), some (.iload 1, 1), some (.invokevirtual 190, 3),
  none, none, some (.i2l, 1), some (.lastore, 1), some (.aload 0, 1), some (.getfield 787, 3), none, none,
  some (.iconst 14, 2), none, some (.aload 0, 1), some (.iconst 0, 1), some (.invokevirtual 176, 3), none, none, some (.ifCond .ge 263, 3),
  none, none, some (.aload 0, 1), some (.iconst 0, 1), some (.invokevirtual 177, 3), none, none, some (.iload 3, 1),
  some (.if_icmp .ne 263, 3), none, none, some (.iconst 1, 1), some (.goto 264, 3), none, none, some (.iconst 0, 1),
  some (.aload 0, 1), some (.iconst 1, 1), some (.invokevirtual 176, 3), none, none, some (.ifCond .ge 285, 3), none, none,
  some (.aload 0, 1), some (.iconst 1, 1), some (.invokevirtual 177, 3), none, none, some (.iload 3, 1), some (.if_icmp .ne 285, 3), none,
  none, some (.iconst 1, 1), some (.goto 286, 3), none, none, some (.iconst 0, 1), some (.iadd, 1), some (.i2l, 1),
  some (.lastore, 1), some (.return_, 1)]
def xg192 : List (Option (Instr × Nat)) := [some (.iconst 0, 1), some (.istore 2, 1), some (.iload 2, 1), some (.aload 0, 1), some (.getfield 774, 3), none, none, some (.iload 1, 1),
  some (.iaload, 1), some (.if_icmp .ge 84, 3), none, none, some (.iconst 48, 2), none, some (.iload 1, 1), some (.imul, 1),
  some (.iconst 4, 1), some (.iload 2, 1), some (.imul, 1), some (.iadd, 1), some (.istore 3, 1), some (.aload 0, 1), some (.getfield 773, 3), none,
  none, some (.iload 3, 1), some (.iconst 2, 1), some (.iadd, 1), some (.iaload, 1), some (.ifCond .lt 58, 3), none, none,
  some (.aload 0, 1), some (.iload 1, 1), some (.aload 0, 1), some (.getfield 773, 3), none, none, some (.iload 3, 1), some (.iconst 2, 1),
  some (.iadd, 1), some (.iaload, 1), some (.aload 0, 1), some (.getfield 773, 3), none, none, some (.iload 3, 1), some (.iconst 3, 1),
  some (.iadd, 1), some (.iaload, 1), some (.invokevirtual 171, 3), none, none, some (.ldc2_w 1, 1), some (.lcmp, 1), some (.ifCond .ne 78, 3),
  none, none, some (.aload 0, 1), some (.iload 1, 1), some (.aload 0, 1), some (.getfield 773, 3), none, none,
  some (.iload 3, 1), some (.iaload, 1), some (.aload 0, 1), some (.getfield 773, 3), none, none, some (.iload 3, 1), some (.iconst 1, 1),
  some (.iadd, 1), some (.iaload, 1), some (.invokevirtual 171, 3), none, none, some (.lreturn, 1), some (.iinc 2 1, 3), none,
  none, some (.goto 2, 3), none, none, some (.ldc2_w 0, 1), some (.lreturn, 1)]
def xg193 : List (Option (Instr × Nat)) := [some (.aload 0, 1), some (.getfield 789, 3), none, none, some (.ifCond .ge 21, 3), none, none, some (.aload 0, 1),
  some (.iload 1, 1), some (.invokevirtual 184, 3), none, none, some (.aload 0, 1), some (.iload 1, 1), some (.iconst 0, 1), some (.invokevirtual 175, 3),
  none, none, some (.isub, 1), some (.i2l, 1), some (.lreturn, 1), some (.aload 0, 1), some (.iload 1, 1), some (.invokevirtual 191, 3),
  none, none, some (.aload 0, 1), some (.aload 0, 1), some (.getfield 789, 3), none, none, some (.invokevirtual 192, 3),
  none, none, some (.lreturn, 1)]
def xg194 : List (Option (Instr × Nat)) := [some (.iconst 0, 1), some (.istore 1, 1), some (.iconst 0, 1), some (.istore 2, 1), some (.iload 2, 1), some (.aload 0, 1), some (.getfield 788, 3), none,
  none, some (.iconst 4, 1), some (.iaload, 1), some (.if_icmp .ge 123, 3), none, none, some (.iconst 60, 2), none,
  some (.iconst 4, 1), some (.iload 2, 1), some (.imul, 1), some (.iadd, 1), some (.istore 3, 1), some (.iconst 10, 2), none, some (.iconst 6, 2),
  none, some (.aload 0, 1), some (.getfield 788, 3), none, none, some (.iload 3, 1), some (.iaload, 1), some (.imul, 1),
  some (.iadd, 1), some (.istore 4, 2), none, some (.aload 0, 1), some (.getfield 788, 3), none, none, some (.iload 3, 1),
  some (.iconst 2, 1), some (.iadd, 1), some (.iaload, 1), some (.aload 0, 1), some (.getfield 788, 3), none, none, some (.iconst 5, 1),
  some (.iaload, 1), some (.if_icmp .ne 117, 3), none, none, some (.aload 0, 1), some (.getfield 788, 3), none, none,
  some (.iload 4, 2), none, some (.iaload, 1), some (.aload 0, 1), some (.getfield 788, 3), none, none, some (.iload 3, 1),
  some (.iconst 1, 1), some (.iadd, 1), some (.iaload, 1), some (.if_icmp .ne 117, 3), none, none, some (.aload 0, 1), some (.getfield 788, 3),
  none, none, some (.iload 4, 2), none, some (.iconst 4, 1), some (.iadd, 1), some (.iaload, 1), some (.iconst 1, 1),
  some (.if_icmp .ne 86, 3), none, none, some (.goto 117, 3), none, none, some (.aload 0, 1), some (.getfield 788, 3),
  none, none, some (.iload 4, 2), none, some (.iconst 5, 1), some (.iadd, 1), some (.dup2, 1), some (.iaload, 1),
  some (.aload 0, 1), some (.getfield 788, 3), none, none, some (.iload 3, 1), some (.iconst 3, 1), some (.iadd, 1), some (.iaload, 1),
  some (.iadd, 1), some (.iastore, 1), some (.iload 1, 1), some (.aload 0, 1), some (.getfield 788, 3), none, none, some (.iload 3, 1),
  some (.iconst 3, 1), some (.iadd, 1), some (.iaload, 1), some (.iadd, 1), some (.istore 1, 1), some (.iinc 2 1, 3), none, none,
  some (.goto 4, 3), none, none, some (.iload 1, 1), some (.ireturn, 1)]
def xg195 : List (Option (Instr × Nat)) := [some (.aload 0, 1), some (.iload 1, 1), some (.iconst 4, 1), some (.invokevirtual 175, 3), none, none, some (.iconst 1, 1), some (.if_icmp .ne 11, 3),
  none, none, some (.return_, 1), some (.aload 0, 1), some (.iload 1, 1), some (.invokevirtual 193, 3), none, none,
  some (.lstore 3, 1), some (.aload 0, 1), some (.iload 1, 1), some (.iconst 0, 1), some (.invokevirtual 175, 3), none, none, some (.lload 3, 1),
  some (.ldc2_w 0, 1), some (.lcmp, 1), some (.ifCond .ge 33, 3), none, none, some (.iconst (-1), 1), some (.goto 44, 3), none,
  none, some (.lload 3, 1), some (.ldc2_w 0, 1), some (.lcmp, 1), some (.ifCond .le 43, 3), none, none, some (.iconst 1, 1),
  some (.goto 44, 3), none, none, some (.iconst 0, 1), some (.iadd, 1), some (.istore 5, 2), none, some (.aload 0, 1),
  some (.iload 5, 2), none, some (.invokevirtual 174, 3), none, none, some (.ifCond .eq 67, 3), none, none,
  some (.iload 5, 2), none, some (.aload 0, 1), some (.iload 1, 1), some (.iconst 0, 1), some (.invokevirtual 175, 3), none, none,
  some (.if_icmp .ne 68, 3), none, none, some (.return_, 1), some (.aload 0, 1), some (.getfield 788, 3), none, none,
  some (.iconst 10, 2), none, some (.iconst 6, 2), none, some (.iload 1, 1), some (.imul, 1), some (.iadd, 1), some (.iload 5, 2),
  none, some (.iastore, 1), some (.iconst 0, 1), some (.istore 6, 2), none, some (.iload 6, 2), none, some (.iconst 2, 1),
  some (.if_icmp .ge 150, 3), none, none, some (.aload 0, 1), some (.iload 6, 2), none, some (.invokevirtual 176, 3), none,
  none, some (.iload 1, 1), some (.if_icmp .eq 104, 3), none, none, some (.goto 144, 3), none, none,
  some (.aload 0, 1), some (.iload 6, 2), none, some (.invokevirtual 178, 3), none, none, some (.iload 2, 1), some (.iadd, 1),
  some (.istore 7, 2), none, some (.aload 0, 1), some (.getfield 788, 3), none, none, some (.iconst 46, 2), none,
  some (.iconst 3, 1), some (.iload 6, 2), none, some (.imul, 1), some (.iadd, 1), some (.iconst 2, 1), some (.iadd, 1), some (.iload 7, 2),
  none, some (.iconst 999, 3), none, none, some (.if_icmp .le 141, 3), none, none, some (.iconst 999, 3),
  none, none, some (.goto 143, 3), none, none, some (.iload 7, 2), none, some (.iastore, 1),
  some (.iinc 6 1, 3), none, none, some (.goto 85, 3), none, none, some (.return_, 1)]
def xg196 : List (Option (Instr × Nat)) := [some (.iconst 0, 1), some (.istore 2, 1), some (.iconst 0, 1), some (.istore 3, 1), some (.iload 3, 1), some (.iconst 2, 1), some (.if_icmp .ge 48, 3), none,
  none, some (.iload 1, 1), some (.aload 0, 1), some (.getfield 791, 3), none, none, some (.if_icmp .eq 48, 3), none,
  none, some (.iload 2, 1), some (.aload 0, 1), some (.iload 3, 1), some (.invokevirtual 176, 3), none, none, some (.iload 1, 1),
  some (.if_icmp .ne 35, 3), none, none, some (.aload 0, 1), some (.iload 3, 1), some (.invokevirtual 179, 3), none, none,
  some (.ifCond .eq 39, 3), none, none, some (.iconst 1, 1), some (.goto 40, 3), none, none, some (.iconst 0, 1),
  some (.iadd, 1), some (.istore 2, 1), some (.iinc 3 1, 3), none, none, some (.goto 4, 3), none, none,
  some (.iload 2, 1), some (.ireturn, 1)]
def xg197 : List (Option (Instr × Nat)) := [some (.iconst 10, 2), none, some (.iconst 6, 2), none, some (.iload 1, 1), some (.imul, 1), some (.iadd, 1), some (.istore 3, 1),
  some (.aload 0, 1), some (.getfield 788, 3), none, none, some (.iload 3, 1), some (.iaload, 1), some (.aload 0, 1), some (.getfield 788, 3),
  none, none, some (.iload 3, 1), some (.iconst 1, 1), some (.iadd, 1), some (.iaload, 1), some (.if_icmp .ne 38, 3), none,
  none, some (.aload 0, 1), some (.getfield 788, 3), none, none, some (.iload 3, 1), some (.iconst 3, 1), some (.iadd, 1),
  some (.iaload, 1), some (.iconst 4, 1), some (.isub, 1), some (.goto 69, 3), none, none, some (.aload 0, 1), some (.getfield 788, 3),
  none, none, some (.iload 3, 1), some (.iconst 3, 1), some (.iadd, 1), some (.iaload, 1), some (.iload 2, 1), some (.aload 0, 1),
  some (.iload 1, 1), some (.invokevirtual 196, 3), none, none, some (.imul, 1), some (.aload 0, 1), some (.getfield 788, 3), none,
  none, some (.iconst 100, 2), none, some (.aload 0, 1), some (.getfield 788, 3), none, none, some (.iload 3, 1),
  some (.iaload, 1), some (.iadd, 1), some (.iaload, 1), some (.imul, 1), some (.iadd, 1), some (.istore 4, 2), none, some (.aload 0, 1),
  some (.getfield 788, 3), none, none, some (.iload 3, 1), some (.iconst 3, 1), some (.iadd, 1), some (.iload 4, 2), none,
  some (.ifCond .ge 87, 3), none, none, some (.iconst 0, 1), some (.goto 101, 3), none, none, some (.iload 4, 2),
  none, some (.iconst 99, 2), none, some (.if_icmp .le 99, 3), none, none, some (.iconst 99, 2), none,
  some (.goto 101, 3), none, none, some (.iload 4, 2), none, some (.iastore, 1), some (.aload 0, 1), some (.getfield 788, 3),
  none, none, some (.iload 3, 1), some (.iconst 3, 1), some (.iadd, 1), some (.iaload, 1), some (.iconst 60, 2), none,
  some (.if_icmp .lt 127, 3), none, none, some (.aload 0, 1), some (.getfield 788, 3), none, none, some (.iload 3, 1),
  some (.iconst 4, 1), some (.iadd, 1), some (.iaload, 1), some (.iconst 1, 1), some (.if_icmp .ne 128, 3), none, none, some (.return_, 1),
  some (.aload 0, 1), some (.getfield 788, 3), none, none, some (.iload 3, 1), some (.iconst 4, 1), some (.iadd, 1), some (.iconst 1, 1),
  some (.iastore, 1), some (.aload 0, 1), some (.dup, 1), some (.getfield 793, 3), none, none, some (.iconst 1, 1), some (.iadd, 1),
  some (.putfield 793, 3), none, none, some (.return_, 1)]
def xg198 : List (Option (Instr × Nat)) := [some (.iconst 10, 2), none, some (.iconst 6, 2), none, some (.iload 1, 1), some (.imul, 1), some (.iadd, 1), some (.istore 2, 1),
  some (.aload 0, 1), some (.getfield 788, 3), none, none, some (.iload 2, 1), some (.aload 0, 1), some (.getfield 788, 3), none,
  none, some (.iload 2, 1), some (.iconst 1, 1), some (.iadd, 1), some (.iaload, 1), some (.iastore, 1), some (.aload 0, 1), some (.getfield 788, 3),
  none, none, some (.iload 2, 1), some (.iconst 3, 1), some (.iadd, 1), some (.iconst 0, 1), some (.iastore, 1), some (.aload 0, 1),
  some (.getfield 788, 3), none, none, some (.iload 2, 1), some (.iconst 4, 1), some (.iadd, 1), some (.iconst 0, 1), some (.iastore, 1),
  some (.return_, 1)]
def xg199 : List (Option (Instr × Nat)) := [some (.aload 0, 1), some (.invokevirtual 189, 3), none, none, some (.ifCond .eq 11, 3), none, none, some (.iconst 2, 1),
  some (.goto 12, 3), none, none, some (.iconst 1, 1), some (.istore 1, 1), some (.aload 0, 1), some (.invokevirtual 194, 3), none,
  none, some (.istore 2, 1), some (.iconst 0, 1), some (.istore 3, 1), some (.iload 3, 1), some (.aload 0, 1), some (.getfield 788, 3), none,
  none, some (.iconst 2, 1), some (.iaload, 1), some (.if_icmp .ge 42, 3), none, none, some (.aload 0, 1), some (.iload 3, 1),
  some (.iload 1, 1), some (.invokevirtual 195, 3), none, none, some (.iinc 3 1, 3), none, none, some (.goto 20, 3),
  none, none, some (.iconst 0, 1), some (.istore 3, 1), some (.iload 3, 1), some (.aload 0, 1), some (.getfield 788, 3), none,
  none, some (.iconst 2, 1), some (.iaload, 1), some (.if_icmp .ge 66, 3), none, none, some (.aload 0, 1), some (.iload 3, 1),
  some (.iload 1, 1), some (.invokevirtual 197, 3), none, none, some (.iinc 3 1, 3), none, none, some (.goto 44, 3),
  none, none, some (.aload 0, 1), some (.getfield 788, 3), none, none, some (.iconst 5, 1), some (.dup2, 1),
  some (.iaload, 1), some (.iconst 1, 1), some (.iadd, 1), some (.iastore, 1), some (.aload 0, 1), some (.getfield 788, 3), none, none,
  some (.iconst 5, 1), some (.iaload, 1), some (.iconst 24, 2), none, some (.if_icmp .ge 89, 3), none, none, some (.iload 2, 1),
  some (.ireturn, 1), some (.aload 0, 1), some (.getfield 788, 3), none, none, some (.iconst 5, 1), some (.iconst 0, 1), some (.iastore, 1),
  some (.aload 0, 1), some (.getfield 788, 3), none, none, some (.iconst 6, 2), none, some (.dup2, 1), some (.iaload, 1),
  some (.iconst 1, 1), some (.iadd, 1), some (.iastore, 1), some (.iconst 0, 1), some (.istore 3, 1), some (.iload 3, 1), some (.aload 0, 1), some (.getfield 788, 3),
  none, none, some (.iconst 2, 1), some (.iaload, 1), some (.if_icmp .ge 130, 3), none, none, some (.aload 0, 1),
  some (.iload 3, 1), some (.invokevirtual 198, 3), none, none, some (.iinc 3 1, 3), none, none, some (.goto 109, 3),
  none, none, some (.iload 2, 1), some (.ireturn, 1)]
def xg200 : List (Option (Instr × Nat)) := [some (.iconst 0, 1), some (.istore 2, 1), some (.iconst 0, 1), some (.istore 3, 1), some (.iload 3, 1), some (.iload 1, 1), some (.if_icmp .ge 22, 3), none,
  none, some (.iload 2, 1), some (.aload 0, 1), some (.invokevirtual 199, 3), none, none, some (.iadd, 1), some (.istore 2, 1),
  some (.iinc 3 1, 3), none, none, some (.goto 4, 3), none, none, some (.iload 2, 1), some (.ireturn, 1)]
def xg201 : List (Option (Instr × Nat)) := [some (.aload 0, 1), some (.getfield 795, 3), none, none, some (.iconst 20, 2), none, some (.if_icmp .ne 50, 3), none,
  none, some (.iconst 52, 2), none, some (.istore 1, 1), some (.iload 1, 1), some (.iconst 1040, 3), none, none,
  some (.if_icmp .ge 40, 3), none, none, some (.aload 0, 1), some (.getfield 794, 3), none, none, some (.iload 1, 1),
  some (.iconst 52, 2), none, some (.isub, 1), some (.aload 0, 1), some (.getfield 794, 3), none, none, some (.iload 1, 1),
  some (.iaload, 1), some (.iastore, 1), some (.iinc 1 1, 3), none, none, some (.goto 12, 3), none, none,
  some (.aload 0, 1), some (.dup, 1), some (.getfield 795, 3), none, none, some (.iconst 1, 1), some (.isub, 1), some (.putfield 795, 3),
  none, none, some (.iconst 0, 1), some (.istore 1, 1), some (.iload 1, 1), some (.iconst 52, 2), none, some (.if_icmp .ge 84, 3),
  none, none, some (.aload 0, 1), some (.getfield 794, 3), none, none, some (.iconst 52, 2), none,
  some (.aload 0, 1), some (.getfield 795, 3), none, none, some (.imul, 1), some (.iload 1, 1), some (.iadd, 1), some (.aload 0, 1),
  some (.getfield 788, 3), none, none, some (.iload 1, 1), some (.iaload, 1), some (.iastore, 1), some (.iinc 1 1, 3), none,
  none, some (.goto 52, 3), none, none, some (.aload 0, 1), some (.dup, 1), some (.getfield 795, 3), none,
  none, some (.iconst 1, 1), some (.iadd, 1), some (.putfield 795, 3), none, none, some (.return_, 1)]
def xg202 : List (Option (Instr × Nat)) := [some (.aload 0, 1), some (.getfield 795, 3), none, none, some (.ifCond .ne 9, 3), none, none, some (.iconst (-1), 1),
  some (.ireturn, 1), some (.aload 0, 1), some (.dup, 1), some (.getfield 795, 3), none, none, some (.iconst 1, 1), some (.isub, 1),
  some (.putfield 795, 3), none, none, some (.iconst 0, 1), some (.istore 1, 1), some (.iload 1, 1), some (.iconst 52, 2), none,
  some (.if_icmp .ge 53, 3), none, none, some (.aload 0, 1), some (.getfield 788, 3), none, none, some (.iload 1, 1),
  some (.aload 0, 1), some (.getfield 794, 3), none, none, some (.iconst 52, 2), none, some (.aload 0, 1), some (.getfield 795, 3),
  none, none, some (.imul, 1), some (.iload 1, 1), some (.iadd, 1), some (.iaload, 1), some (.iastore, 1), some (.iinc 1 1, 3),
  none, none, some (.goto 21, 3), none, none, some (.aload 0, 1), some (.getfield 795, 3), none,
  none, some (.ireturn, 1)]
def xg203 : List (Option (Instr × Nat)) := [some (.aload 0, 1), some (.invokevirtual 172, 3), none, none, some (.ifCond .eq 31, 3), none, none, some (.aload 0, 1),
  some (.getfield 788, 3), none, none, some (.iconst 5, 1), some (.iaload, 1), some (.iconst 23, 2), none, some (.if_icmp .ne 33, 3),
  none, none, some (.aload 0, 1), some (.getfield 788, 3), none, none, some (.iconst 6, 2), none,
  some (.iaload, 1), some (.iconst 999, 3), none, none, some (.if_icmp .ne 33, 3), none, none, some (.iconst (-1), 1),
  some (.ireturn, 1), some (.aload 0, 1), some (.invokevirtual 201, 3), none, none, some (.aload 0, 1), some (.invokevirtual 199, 3), none,
  none, some (.ireturn, 1)]
def xg204 : List (Option (Instr × Nat)) := [some (.aload 0, 1), some (.getfield 788, 3), none, none, some (.iconst 46, 2), none, some (.iconst 3, 1), some (.iload 1, 1),
  some (.imul, 1), some (.iadd, 1), some (.iload 2, 1), some (.iastore, 1), some (.return_, 1)]
def xg205 : List (Option (Instr × Nat)) := [some (.aload 0, 1), some (.getfield 788, 3), none, none, some (.iconst 46, 2), none, some (.iconst 3, 1), some (.iload 1, 1),
  some (.imul, 1), some (.iadd, 1), some (.iconst (-1), 1), some (.iastore, 1), some (.aload 0, 1), some (.getfield 788, 3), none, none,
  some (.iconst 46, 2), none, some (.iconst 3, 1), some (.iload 1, 1), some (.imul, 1), some (.iadd, 1), some (.iconst 1, 1), some (.iadd, 1),
  some (.iload 2, 1), some (.iastore, 1), some (.return_, 1)]
def xg206 : List (Option (Instr × Nat)) := [some (.aload 0, 1), some (.iload 1, 1), some (.invokevirtual 176, 3), none, none, some (.iload 2, 1), some (.if_icmp .eq 35, 3), none,
  none, some (.aload 0, 1), some (.iload 2, 1), some (.invokevirtual 180, 3), none, none, some (.ifCond .eq 35, 3), none,
  none, some (.aload 0, 1), some (.iload 1, 1), some (.invokevirtual 177, 3), none, none, some (.aload 0, 1), some (.iload 2, 1),
  some (.iconst 0, 1), some (.invokevirtual 175, 3), none, none, some (.if_icmp .ne 35, 3), none, none, some (.iconst 1, 1),
  some (.goto 36, 3), none, none, some (.iconst 0, 1), some (.ireturn, 1)]
def xg207 : List (Option (Instr × Nat)) := [some (.iload 1, 1), some (.i2l, 1), some (.ldc2_w 0, 1), some (.ldc2_w 1, 1), some (.invokestatic 126, 3), none, none, some (.ifCond .eq 27, 3),
  none, none, some (.aload 0, 1), some (.iload 2, 1), some (.invokevirtual 173, 3), none, none, some (.ifCond .eq 27, 3),
  none, none, some (.aload 0, 1), some (.iload 1, 1), some (.iload 2, 1), some (.invokevirtual 206, 3), none, none,
  some (.ifCond .ne 30, 3), none, none, some (.iconst (-2), 2), none, some (.ireturn, 1), some (.aload 0, 1), some (.invokevirtual 201, 3),
  none, none, some (.aload 0, 1), some (.iload 1, 1), some (.invokevirtual 176, 3), none, none, some (.istore 3, 1),
  some (.aload 0, 1), some (.iload 1, 1), some (.iload 2, 1), some (.invokevirtual 204, 3), none, none, some (.iload 3, 1), some (.ireturn, 1)]
def xg208 : List (Option (Instr × Nat)) := [some (.aload 0, 1), some (.invokevirtual 172, 3), none, none, some (.ifCond .eq 25, 3), none, none, some (.iload 1, 1),
  some (.i2l, 1), some (.ldc2_w 0, 1), some (.ldc2_w 1, 1), some (.invokestatic 126, 3), none, none, some (.ifCond .eq 25, 3), none,
  none, some (.aload 0, 1), some (.iload 1, 1), some (.invokevirtual 176, 3), none, none, some (.ifCond .ge 27, 3), none,
  none, some (.iconst (-1), 1), some (.ireturn, 1), some (.aload 0, 1), some (.invokevirtual 201, 3), none, none, some (.aload 0, 1),
  some (.iload 1, 1), some (.aload 0, 1), some (.iload 1, 1), some (.invokevirtual 177, 3), none, none, some (.invokevirtual 205, 3), none,
  none, some (.aload 0, 1), some (.iload 1, 1), some (.invokevirtual 177, 3), none, none, some (.ireturn, 1)]
def xg209 : List (Option (Instr × Nat)) := [some (.iconst 0, 1), some (.istore 1, 1), some (.iconst 0, 1), some (.istore 2, 1), some (.iload 2, 1), some (.aload 0, 1), some (.getfield 788, 3), none,
  none, some (.iconst 2, 1), some (.iaload, 1), some (.if_icmp .ge 29, 3), none, none, some (.iload 1, 1), some (.aload 0, 1),
  some (.iload 2, 1), some (.iconst 5, 1), some (.invokevirtual 175, 3), none, none, some (.iadd, 1), some (.istore 1, 1), some (.iinc 2 1, 3),
  none, none, some (.goto 4, 3), none, none, some (.iload 1, 1), some (.ireturn, 1)]
def xg210 : List (Option (Instr × Nat)) := [some (.aload 0, 1), some (.invokevirtual 172, 3), none, none, some (.ifCond .eq 42, 3), none, none, some (.iload 1, 1),
  some (.i2l, 1), some (.ldc2_w 0, 1), some (.ldc2_w 1, 1), some (.invokestatic 126, 3), none, none, some (.ifCond .eq 42, 3), none,
  none, some (.aload 0, 1), some (.iload 1, 1), some (.invokevirtual 178, 3), none, none, some (.ifCond .eq 42, 3), none,
  none, some (.aload 0, 1), some (.invokevirtual 209, 3), none, none, some (.aload 0, 1), some (.getfield 788, 3), none,
  none, some (.iconst 7, 2), none, some (.iaload, 1), some (.isub, 1), some (.iconst 10, 2), none, some (.if_icmp .ge 44, 3),
  none, none, some (.iconst (-1), 1), some (.ireturn, 1), some (.aload 0, 1), some (.invokevirtual 201, 3), none, none,
  some (.aload 0, 1), some (.getfield 788, 3), none, none, some (.iconst 46, 2), none, some (.iconst 3, 1), some (.iload 1, 1),
  some (.imul, 1), some (.iadd, 1), some (.iconst 2, 1), some (.iadd, 1), some (.iconst 0, 1), some (.iastore, 1), some (.aload 0, 1), some (.getfield 788, 3),
  none, none, some (.iconst 7, 2), none, some (.dup2, 1), some (.iaload, 1), some (.iconst 10, 2), none,
  some (.iadd, 1), some (.iastore, 1), some (.aload 0, 1), some (.invokevirtual 209, 3), none, none, some (.aload 0, 1), some (.getfield 788, 3),
  none, none, some (.iconst 7, 2), none, some (.iaload, 1), some (.isub, 1), some (.ireturn, 1)]
def xg211 : List (Option (Instr × Nat)) := [some (.iconst 0, 1), some (.istore 1, 1), some (.iload 1, 1), some (.iconst 52, 2), none, some (.if_icmp .ge 26, 3), none, none,
  some (.aload 0, 1), some (.getfield 796, 3), none, none, some (.iload 1, 1), some (.aload 0, 1), some (.getfield 788, 3), none,
  none, some (.iload 1, 1), some (.iaload, 1), some (.iastore, 1), some (.iinc 1 1, 3), none, none, some (.goto 2, 3),
  none, none, some (.return_, 1)]
def xg212 : List (Option (Instr × Nat)) := [some (.iconst 0, 1), some (.istore 1, 1), some (.iload 1, 1), some (.iconst 52, 2), none, some (.if_icmp .ge 26, 3), none, none,
  some (.aload 0, 1), some (.getfield 788, 3), none, none, some (.iload 1, 1), some (.aload 0, 1), some (.getfield 796, 3), none,
  none, some (.iload 1, 1), some (.iaload, 1), some (.iastore, 1), some (.iinc 1 1, 3), none, none, some (.goto 2, 3),
  none, none, some (.return_, 1)]
def xg213 : List (Option (Instr × Nat)) := [some (.aload 0, 1), some (.iload 1, 1), some (.invokevirtual 173, 3), none, none, some (.ifCond .eq 32, 3), none, none,
  some (.iload 2, 1), some (.i2l, 1), some (.ldc2_w 0, 1), some (.ldc2_w 96, 3), none, none, some (.invokestatic 126, 3), none,
  none, some (.ifCond .eq 32, 3), none, none, some (.iload 3, 1), some (.i2l, 1), some (.ldc2_w 0, 1), some (.ldc2_w 2, 3),
  none, none, some (.invokestatic 126, 3), none, none, some (.ifCond .ne 34, 3), none, none,
  some (.iconst (-1), 1), some (.ireturn, 1), some (.aload 0, 1), some (.invokevirtual 211, 3), none, none, some (.aload 0, 1), some (.iload 2, 1),
  some (.invokevirtual 200, 3), none, none, some (.pop, 1), some (.aload 0, 1), some (.iload 1, 1), some (.iload 3, 1), some (.ifCond .ne 54, 3),
  none, none, some (.iconst 0, 1), some (.goto 64, 3), none, none, some (.iload 3, 1), some (.iconst 1, 1),
  some (.if_icmp .ne 63, 3), none, none, some (.iconst 3, 1), some (.goto 64, 3), none, none, some (.iconst 5, 1),
  some (.invokevirtual 175, 3), none, none, some (.istore 4, 2), none, some (.aload 0, 1), some (.invokevirtual 212, 3), none,
  none, some (.iload 4, 2), none, some (.ireturn, 1)]
def xg214 : List (Option (Instr × Nat)) := [some (.iconst 0, 1), some (.istore 2, 1), some (.iload 2, 1), some (.iconst 2, 1), some (.if_icmp .ge 32, 3), none, none, some (.iload 1, 1),
  some (.ifCond .ge 20, 3), none, none, some (.aload 0, 1), some (.iload 2, 1), some (.iconst 0, 1), some (.invokevirtual 205, 3), none,
  none, some (.goto 26, 3), none, none, some (.aload 0, 1), some (.iload 2, 1), some (.iload 1, 1), some (.invokevirtual 204, 3),
  none, none, some (.iinc 2 1, 3), none, none, some (.goto 2, 3), none, none,
  some (.return_, 1)]
def xg215 : List (Option (Instr × Nat)) := [some (.aload 0, 1), some (.invokevirtual 211, 3), none, none, some (.aload 0, 1), some (.iload 1, 1), some (.invokevirtual 214, 3), none,
  none, some (.aload 0, 1), some (.iload 2, 1), some (.invokevirtual 200, 3), none, none, some (.istore 3, 1), some (.aload 0, 1),
  some (.invokevirtual 212, 3), none, none, some (.iload 3, 1), some (.ireturn, 1)]
def xg216 : List (Option (Instr × Nat)) := [some (.aload 0, 1), some (.iconst (-1), 1), some (.putfield 797, 3), none, none, some (.aload 0, 1), some (.aload 0, 1), some (.iconst (-1), 1),
  some (.iload 1, 1), some (.invokevirtual 215, 3), none, none, some (.putfield 798, 3), none, none, some (.iconst 0, 1),
  some (.istore 3, 1), some (.iload 3, 1), some (.aload 0, 1), some (.getfield 788, 3), none, none, some (.iconst 2, 1), some (.iaload, 1),
  some (.if_icmp .ge 80, 3), none, none, some (.iload 3, 1), some (.iload 2, 1), some (.if_icmp .eq 74, 3), none, none,
  some (.aload 0, 1), some (.iload 3, 1), some (.invokevirtual 180, 3), none, none, some (.ifCond .ne 43, 3), none, none,
  some (.goto 74, 3), none, none, some (.aload 0, 1), some (.iload 3, 1), some (.iload 1, 1), some (.invokevirtual 215, 3), none,
  none, some (.istore 4, 2), none, some (.iload 4, 2), none, some (.aload 0, 1), some (.getfield 798, 3), none,
  none, some (.if_icmp .gt 63, 3), none, none, some (.goto 74, 3), none, none, some (.aload 0, 1),
  some (.iload 3, 1), some (.putfield 797, 3), none, none, some (.aload 0, 1), some (.iload 4, 2), none, some (.putfield 798, 3),
  none, none, some (.iinc 3 1, 3), none, none, some (.goto 17, 3), none, none,
  some (.return_, 1)]
def xg217 : List (Option (Instr × Nat)) := [some (.aload 0, 1), some (.invokevirtual 172, 3), none, none, some (.ifCond .eq 29, 3), none, none, some (.iload 1, 1),
  some (.i2l, 1), some (.ldc2_w 1, 1), some (.ldc2_w 24, 3), none, none, some (.invokestatic 126, 3), none, none,
  some (.ifCond .eq 29, 3), none, none, some (.iload 2, 1), some (.i2l, 1), some (.ldc2_w 0, 1), some (.ldc2_w 1, 1), some (.invokestatic 126, 3),
  none, none, some (.ifCond .ne 32, 3), none, none, some (.iconst (-2), 2), none, some (.ireturn, 1),
  some (.aload 0, 1), some (.iload 1, 1), some (.iconst (-1), 1), some (.invokevirtual 216, 3), none, none, some (.iload 2, 1), some (.ifCond .ne 49, 3),
  none, none, some (.aload 0, 1), some (.getfield 797, 3), none, none, some (.goto 53, 3), none,
  none, some (.aload 0, 1), some (.getfield 798, 3), none, none, some (.ireturn, 1)]
def xg218 : List (Option (Instr × Nat)) := [some (.aload 0, 1), some (.iload 1, 1), some (.invokevirtual 173, 3), none, none, some (.ifCond .eq 20, 3), none, none,
  some (.iload 2, 1), some (.i2l, 1), some (.ldc2_w 1, 1), some (.ldc2_w 24, 3), none, none, some (.invokestatic 126, 3), none,
  none, some (.ifCond .ne 22, 3), none, none, some (.iconst (-1), 1), some (.ireturn, 1), some (.aload 0, 1), some (.iload 2, 1),
  some (.iconst (-1), 1), some (.invokevirtual 216, 3), none, none, some (.aload 0, 1), some (.getfield 798, 3), none, none,
  some (.istore 3, 1), some (.aload 0, 1), some (.iload 2, 1), some (.iload 1, 1), some (.invokevirtual 216, 3), none, none, some (.iload 3, 1),
  some (.aload 0, 1), some (.getfield 798, 3), none, none, some (.isub, 1), some (.ireturn, 1)]
def xg219 : List (Option (Instr × Nat)) := [some (.aload 0, 1), some (.invokevirtual 172, 3), none, none, some (.ifCond .eq 19, 3), none, none, some (.iload 1, 1),
  some (.i2l, 1), some (.ldc2_w 1, 1), some (.ldc2_w 24, 3), none, none, some (.invokestatic 126, 3), none, none,
  some (.ifCond .ne 21, 3), none, none, some (.iconst (-1), 1), some (.ireturn, 1), some (.iconst 0, 1), some (.istore 2, 1), some (.iconst 0, 1),
  some (.istore 3, 1), some (.iconst 0, 1), some (.istore 4, 2), none, some (.aload 0, 1), some (.iconst (-1), 1), some (.iload 1, 1), some (.invokevirtual 215, 3),
  none, none, some (.istore 5, 2), none, some (.iconst 0, 1), some (.istore 6, 2), none, some (.iload 6, 2),
  none, some (.aload 0, 1), some (.getfield 788, 3), none, none, some (.iconst 2, 1), some (.iaload, 1), some (.if_icmp .ge 125, 3),
  none, none, some (.aload 0, 1), some (.iload 6, 2), none, some (.invokevirtual 180, 3), none, none,
  some (.ifCond .ne 62, 3), none, none, some (.goto 119, 3), none, none, some (.aload 0, 1), some (.iload 6, 2),
  none, some (.iload 1, 1), some (.invokevirtual 215, 3), none, none, some (.iload 5, 2), none, some (.isub, 1),
  some (.istore 7, 2), none, some (.iload 2, 1), some (.ifCond .eq 84, 3), none, none, some (.iload 7, 2), none,
  some (.iload 3, 1), some (.if_icmp .le 100, 3), none, none, some (.iload 3, 1), some (.istore 4, 2), none, some (.iload 7, 2),
  none, some (.istore 3, 1), some (.iload 2, 1), some (.ifCond .ne 116, 3), none, none, some (.iconst 0, 1), some (.istore 4, 2),
  none, some (.goto 116, 3), none, none, some (.iload 2, 1), some (.iconst 1, 1), some (.if_icmp .eq 112, 3), none,
  none, some (.iload 7, 2), none, some (.iload 4, 2), none, some (.if_icmp .le 116, 3), none, none,
  some (.iload 7, 2), none, some (.istore 4, 2), none, some (.iinc 2 1, 3), none, none, some (.iinc 6 1, 3),
  none, none, some (.goto 39, 3), none, none, some (.iload 2, 1), some (.iconst 2, 1), some (.if_icmp .lt 135, 3),
  none, none, some (.iload 4, 2), none, some (.ifCond .ge 139, 3), none, none, some (.iconst 0, 1),
  some (.goto 141, 3), none, none, some (.iload 4, 2), none, some (.ireturn, 1)]
def xg220 : List (Option (Instr × Nat)) := [some (.iconst 1, 1), some (.istore 2, 1), some (.iconst 0, 1), some (.istore 3, 1), some (.iload 3, 1), some (.iload 1, 1), some (.if_icmp .ge 19, 3), none,
  none, some (.iload 2, 1), some (.iload 0, 1), some (.imul, 1), some (.istore 2, 1), some (.iinc 3 1, 3), none, none,
  some (.goto 4, 3), none, none, some (.iload 2, 1), some (.ireturn, 1)]
def xg221 : List (Option (Instr × Nat)) := [some (.iload 1, 1), some (.aload 0, 1), some (.getfield 788, 3), none, none, some (.iconst 2, 1), some (.iaload, 1), some (.iconst 1, 1),
  some (.iadd, 1), some (.iload 2, 1), some (.iconst 1, 1), some (.isub, 1), some (.iload 3, 1), some (.isub, 1), some (.invokestatic 220, 3), none,
  none, some (.idiv, 1), some (.aload 0, 1), some (.getfield 788, 3), none, none, some (.iconst 2, 1), some (.iaload, 1),
  some (.iconst 1, 1), some (.iadd, 1), some (.irem, 1), some (.iconst 1, 1), some (.isub, 1), some (.ireturn, 1)]
def xg222 : List (Option (Instr × Nat)) := [some (.aload 0, 1), some (.iconst 0, 1), some (.putfield 799, 3), none, none, some (.aload 0, 1), some (.iconst 0, 1), some (.putfield 800, 3),
  none, none, some (.aload 0, 1), some (.invokevirtual 211, 3), none, none, some (.iconst 0, 1), some (.istore 3, 1),
  some (.iload 3, 1), some (.iload 2, 1), some (.if_icmp .ge 88, 3), none, none, some (.aload 0, 1), some (.iload 1, 1), some (.iload 2, 1),
  some (.iload 3, 1), some (.invokevirtual 221, 3), none, none, some (.istore 4, 2), none, some (.iconst 0, 1), some (.istore 5, 2),
  none, some (.iload 5, 2), none, some (.iconst 2, 1), some (.if_icmp .ge 69, 3), none, none, some (.iload 4, 2),
  none, some (.ifCond .lt 69, 3), none, none, some (.aload 0, 1), some (.iload 5, 2), none, some (.iload 4, 2),
  none, some (.invokevirtual 206, 3), none, none, some (.ifCond .eq 63, 3), none, none, some (.aload 0, 1),
  some (.iload 5, 2), none, some (.iload 4, 2), none, some (.invokevirtual 204, 3), none, none, some (.iinc 5 1, 3),
  none, none, some (.goto 33, 3), none, none, some (.aload 0, 1), some (.dup, 1), some (.getfield 799, 3),
  none, none, some (.aload 0, 1), some (.invokevirtual 199, 3), none, none, some (.iadd, 1), some (.putfield 799, 3),
  none, none, some (.iinc 3 1, 3), none, none, some (.goto 16, 3), none, none,
  some (.iconst 0, 1), some (.istore 3, 1), some (.iload 3, 1), some (.aload 0, 1), some (.getfield 788, 3), none, none, some (.iconst 2, 1),
  some (.iaload, 1), some (.if_icmp .ge 121, 3), none, none, some (.aload 0, 1), some (.dup, 1), some (.getfield 800, 3), none,
  none, some (.aload 0, 1), some (.iload 3, 1), some (.iconst 3, 1), some (.invokevirtual 175, 3), none, none, some (.iadd, 1),
  some (.putfield 800, 3), none, none, some (.iinc 3 1, 3), none, none, some (.goto 90, 3), none,
  none, some (.aload 0, 1), some (.invokevirtual 212, 3), none, none, some (.return_, 1)]
def xg223 : List (Option (Instr × Nat)) := [some (.aload 0, 1), some (.invokevirtual 172, 3), none, none, some (.ifCond .eq 31, 3), none, none, some (.iload 1, 1),
  some (.i2l, 1), some (.ldc2_w 1, 1), some (.ldc2_w 4, 3), none, none, some (.invokestatic 126, 3), none, none,
  some (.ifCond .eq 31, 3), none, none, some (.iload 2, 1), some (.i2l, 1), some (.ldc2_w 0, 1), some (.ldc2_w 4, 3), none,
  none, some (.invokestatic 126, 3), none, none, some (.ifCond .ne 34, 3), none, none, some (.iconst (-3), 2),
  none, some (.ireturn, 1), some (.iconst (-1), 1), some (.istore 3, 1), some (.iconst 0, 1), some (.istore 4, 2), none, some (.iconst 0, 1),
  some (.istore 5, 2), none, some (.iconst 0, 1), some (.istore 6, 2), none, some (.iload 6, 2), none, some (.aload 0, 1),
  some (.getfield 788, 3), none, none, some (.iconst 2, 1), some (.iaload, 1), some (.iconst 1, 1), some (.iadd, 1), some (.iload 1, 1),
  some (.invokestatic 220, 3), none, none, some (.if_icmp .ge 124, 3), none, none, some (.aload 0, 1), some (.iload 6, 2),
  none, some (.iload 1, 1), some (.invokevirtual 222, 3), none, none, some (.iload 3, 1), some (.ifCond .lt 103, 3), none,
  none, some (.aload 0, 1), some (.getfield 799, 3), none, none, some (.iload 4, 2), none, some (.if_icmp .lt 118, 3),
  none, none, some (.aload 0, 1), some (.getfield 799, 3), none, none, some (.iload 4, 2), none,
  some (.if_icmp .ne 103, 3), none, none, some (.aload 0, 1), some (.getfield 800, 3), none, none, some (.iload 5, 2),
  none, some (.if_icmp .lt 103, 3), none, none, some (.goto 118, 3), none, none, some (.iload 6, 2),
  none, some (.istore 3, 1), some (.aload 0, 1), some (.getfield 799, 3), none, none, some (.istore 4, 2), none,
  some (.aload 0, 1), some (.getfield 800, 3), none, none, some (.istore 5, 2), none, some (.iinc 6 1, 3), none,
  none, some (.goto 45, 3), none, none, some (.iload 2, 1), some (.ifCond .ne 133, 3), none, none,
  some (.iload 4, 2), none, some (.goto 152, 3), none, none, some (.iload 2, 1), some (.iload 1, 1), some (.if_icmp .le 143, 3),
  none, none, some (.iconst (-2), 2), none, some (.goto 152, 3), none, none, some (.aload 0, 1),
  some (.iload 3, 1), some (.iload 1, 1), some (.iload 2, 1), some (.iconst 1, 1), some (.isub, 1), some (.invokevirtual 221, 3), none, none,
  some (.ireturn, 1)]
def xg224 : List (Option (Instr × Nat)) := [some (.iload 1, 1), some (.iconst (-1), 1), some (.if_icmp .ne 16, 3), none, none, some (.aload 0, 1), some (.getfield 788, 3), none,
  none, some (.iconst 150, 3), none, none, some (.iconst 0, 1), some (.iastore, 1), some (.iconst 0, 1), some (.ireturn, 1),
  some (.iload 1, 1), some (.i2l, 1), some (.ldc2_w 0, 1), some (.ldc2_w 47, 3), none, none, some (.invokestatic 126, 3), none,
  none, some (.ifCond .eq 61, 3), none, none, some (.aload 0, 1), some (.iload 2, 1), some (.invokevirtual 174, 3), none,
  none, some (.ifCond .eq 61, 3), none, none, some (.iload 3, 1), some (.i2l, 1), some (.ldc2_w 0, 1), some (.ldc2_w 2, 3),
  none, none, some (.invokestatic 126, 3), none, none, some (.ifCond .eq 61, 3), none, none,
  some (.aload 0, 1), some (.getfield 788, 3), none, none, some (.iconst 150, 3), none, none, some (.iaload, 1),
  some (.iconst 10, 2), none, some (.if_icmp .ne 64, 3), none, none, some (.iconst (-2), 2), none, some (.ireturn, 1),
  some (.iconst 110, 2), none, some (.iconst 4, 1), some (.aload 0, 1), some (.getfield 788, 3), none, none, some (.iconst 150, 3),
  none, none, some (.iaload, 1), some (.imul, 1), some (.iadd, 1), some (.istore 5, 2), none, some (.aload 0, 1),
  some (.getfield 788, 3), none, none, some (.iload 5, 2), none, some (.iload 1, 1), some (.iastore, 1), some (.aload 0, 1),
  some (.getfield 788, 3), none, none, some (.iload 5, 2), none, some (.iconst 1, 1), some (.iadd, 1), some (.iload 2, 1),
  some (.iastore, 1), some (.aload 0, 1), some (.getfield 788, 3), none, none, some (.iload 5, 2), none, some (.iconst 2, 1),
  some (.iadd, 1), some (.iload 3, 1), some (.iastore, 1), some (.aload 0, 1), some (.getfield 788, 3), none, none, some (.iload 5, 2),
  none, some (.iconst 3, 1), some (.iadd, 1), some (.iload 4, 2), none, some (.ifCond .eq 124, 3), none, none,
  some (.iconst 1, 1), some (.goto 125, 3), none, none, some (.iconst 0, 1), some (.iastore, 1), some (.aload 0, 1), some (.getfield 788, 3),
  none, none, some (.iconst 150, 3), none, none, some (.dup2, 1), some (.iaload, 1), some (.iconst 1, 1),
  some (.iadd, 1), some (.iastore, 1), some (.aload 0, 1), some (.getfield 788, 3), none, none, some (.iconst 150, 3), none,
  none, some (.iaload, 1), some (.ireturn, 1)]
def xg225 : List (Option (Instr × Nat)) := [some (.aload 0, 1), some (.getfield 788, 3), none, none, some (.iconst 5, 1), some (.iconst 0, 1), some (.iastore, 1), some (.aload 0, 1),
  some (.getfield 788, 3), none, none, some (.iconst 6, 2), none, some (.iconst 0, 1), some (.iastore, 1), some (.iconst 0, 1),
  some (.istore 2, 1), some (.iload 2, 1), some (.aload 0, 1), some (.getfield 788, 3), none, none, some (.iconst 2, 1), some (.iaload, 1),
  some (.if_icmp .ge 53, 3), none, none, some (.aload 0, 1), some (.iload 2, 1), some (.invokevirtual 198, 3), none, none,
  some (.aload 0, 1), some (.getfield 788, 3), none, none, some (.iconst 10, 2), none, some (.iconst 6, 2), none,
  some (.iload 2, 1), some (.imul, 1), some (.iadd, 1), some (.iconst 5, 1), some (.iadd, 1), some (.iconst 0, 1), some (.iastore, 1), some (.iinc 2 1, 3),
  none, none, some (.goto 17, 3), none, none, some (.iconst 0, 1), some (.istore 2, 1), some (.iload 2, 1),
  some (.iconst 2, 1), some (.if_icmp .ge 80, 3), none, none, some (.aload 0, 1), some (.getfield 788, 3), none, none,
  some (.iconst 46, 2), none, some (.iconst 3, 1), some (.iload 2, 1), some (.imul, 1), some (.iadd, 1), some (.iconst 2, 1), some (.iadd, 1),
  some (.iconst 0, 1), some (.iastore, 1), some (.iinc 2 1, 3), none, none, some (.goto 55, 3), none, none,
  some (.aload 0, 1), some (.iload 1, 1), some (.invokevirtual 214, 3), none, none, some (.return_, 1)]
def xg226 : List (Option (Instr × Nat)) := [some (.iconst 0, 1), some (.istore 3, 1), some (.iload 3, 1), some (.aload 0, 1), some (.getfield 788, 3), none, none, some (.iconst 2, 1),
  some (.iaload, 1), some (.if_icmp .ge 39, 3), none, none, some (.aload 0, 1), some (.iload 3, 1), some (.iconst 0, 1), some (.invokevirtual 175, 3),
  none, none, some (.iload 1, 1), some (.if_icmp .ne 33, 3), none, none, some (.aload 0, 1), some (.iload 3, 1),
  some (.invokevirtual 182, 3), none, none, some (.iload 2, 1), some (.if_icmp .ne 33, 3), none, none, some (.iconst 1, 1),
  some (.ireturn, 1), some (.iinc 3 1, 3), none, none, some (.goto 2, 3), none, none, some (.iconst 0, 1),
  some (.ireturn, 1)]
def xg227 : List (Option (Instr × Nat)) := [some (.iconst 0, 1), some (.istore 2, 1), some (.iload 2, 1), some (.aload 0, 1), some (.getfield 788, 3), none, none, some (.iconst 150, 3),
  none, none, some (.iaload, 1), some (.if_icmp .ge 79, 3), none, none, some (.iconst 110, 2), none,
  some (.iconst 4, 1), some (.iload 2, 1), some (.imul, 1), some (.iadd, 1), some (.istore 3, 1), some (.aload 0, 1), some (.getfield 788, 3), none,
  none, some (.iload 3, 1), some (.iaload, 1), some (.iload 1, 1), some (.if_icmp .ne 73, 3), none, none, some (.aload 0, 1),
  some (.aload 0, 1), some (.getfield 788, 3), none, none, some (.iload 3, 1), some (.iconst 1, 1), some (.iadd, 1), some (.iaload, 1),
  some (.aload 0, 1), some (.getfield 788, 3), none, none, some (.iload 3, 1), some (.iconst 2, 1), some (.iadd, 1), some (.iaload, 1),
  some (.invokevirtual 226, 3), none, none, some (.aload 0, 1), some (.getfield 788, 3), none, none, some (.iload 3, 1),
  some (.iconst 3, 1), some (.iadd, 1), some (.iaload, 1), some (.iconst 1, 1), some (.if_icmp .ne 67, 3), none, none, some (.iconst 1, 1),
  some (.goto 68, 3), none, none, some (.iconst 0, 1), some (.if_icmp .eq 73, 3), none, none, some (.iconst 0, 1),
  some (.ireturn, 1), some (.iinc 2 1, 3), none, none, some (.goto 2, 3), none, none, some (.iconst 1, 1),
  some (.ireturn, 1)]
def xg228 : List (Option (Instr × Nat)) := [some (.aload 0, 1), some (.invokevirtual 211, 3), none, none, some (.aload 0, 1), some (.iload 1, 1), some (.invokevirtual 225, 3), none,
  none, some (.aload 0, 1), some (.iconst 0, 1), some (.invokevirtual 227, 3), none, none, some (.istore 2, 1), some (.iconst 1, 1),
  some (.istore 3, 1), some (.iload 3, 1), some (.iconst 48, 2), none, some (.if_icmp .ge 44, 3), none, none, some (.iload 2, 1),
  some (.ifCond .eq 44, 3), none, none, some (.aload 0, 1), some (.invokevirtual 199, 3), none, none, some (.pop, 1),
  some (.aload 0, 1), some (.iload 3, 1), some (.invokevirtual 227, 3), none, none, some (.istore 2, 1), some (.iinc 3 1, 3), none,
  none, some (.goto 17, 3), none, none, some (.aload 0, 1), some (.invokevirtual 212, 3), none, none,
  some (.iload 2, 1), some (.ireturn, 1)]
def xg229 : List (Option (Instr × Nat)) := [some (.iload 0, 1), some (.iload 1, 1), some (.ishr, 1), some (.iconst 1, 1), some (.iand, 1), some (.iconst 1, 1), some (.if_icmp .ne 13, 3), none,
  none, some (.iconst 1, 1), some (.goto 14, 3), none, none, some (.iconst 0, 1), some (.ireturn, 1)]
def xg230 : List (Option (Instr × Nat)) := [some (.iconst 0, 1), some (.istore 1, 1), some (.iconst 0, 1), some (.istore 2, 1), some (.iload 2, 1), some (.aload 0, 1), some (.getfield 788, 3), none,
  none, some (.iconst 2, 1), some (.iaload, 1), some (.if_icmp .gt 54, 3), none, none, some (.iload 2, 1), some (.ifCond .eq 28, 3),
  none, none, some (.aload 0, 1), some (.iload 2, 1), some (.iconst 1, 1), some (.isub, 1), some (.invokevirtual 180, 3), none,
  none, some (.ifCond .eq 48, 3), none, none, some (.iload 1, 1), some (.aload 0, 1), some (.iload 2, 1), some (.iconst 1, 1),
  some (.isub, 1), some (.invokevirtual 228, 3), none, none, some (.ifCond .eq 45, 3), none, none, some (.iconst 1, 1),
  some (.iload 2, 1), some (.ishl, 1), some (.goto 46, 3), none, none, some (.iconst 0, 1), some (.ior, 1), some (.istore 1, 1),
  some (.iinc 2 1, 3), none, none, some (.goto 4, 3), none, none, some (.iload 1, 1), some (.ireturn, 1)]
def xg231 : List (Option (Instr × Nat)) := [some (.aload 0, 1), some (.invokevirtual 172, 3), none, none, some (.ifCond .eq 17, 3), none, none, some (.iload 1, 1),
  some (.i2l, 1), some (.ldc2_w 0, 1), some (.ldc2_w 1, 1), some (.invokestatic 126, 3), none, none, some (.ifCond .ne 20, 3), none,
  none, some (.iconst (-3), 2), none, some (.ireturn, 1), some (.aload 0, 1), some (.invokevirtual 230, 3), none, none,
  some (.istore 2, 1), some (.iconst 0, 1), some (.istore 3, 1), some (.iconst (-2), 2), none, some (.istore 4, 2), none, some (.aload 0, 1),
  some (.getfield 788, 3), none, none, some (.iconst 2, 1), some (.iaload, 1), some (.istore 5, 2), none, some (.iload 5, 2),
  none, some (.ifCond .lt 71, 3), none, none, some (.iload 2, 1), some (.iload 5, 2), none, some (.invokestatic 229, 3),
  none, none, some (.ifCond .ne 56, 3), none, none, some (.goto 65, 3), none, none,
  some (.iinc 3 1, 3), none, none, some (.iload 5, 2), none, some (.iconst 1, 1), some (.isub, 1), some (.istore 4, 2),
  none, some (.iinc 5 (-1), 3), none, none, some (.goto 39, 3), none, none, some (.iload 1, 1),
  some (.ifCond .ne 79, 3), none, none, some (.iload 3, 1), some (.goto 81, 3), none, none, some (.iload 4, 2),
  none, some (.ireturn, 1)]
def xg232 : List (Option (Instr × Nat)) := [some (.aload 0, 1), some (.invokevirtual 211, 3), none, none, some (.aload 0, 1), some (.iload 1, 1), some (.invokevirtual 225, 3), none,
  none, some (.aload 0, 1), some (.iload 2, 1), some (.invokevirtual 200, 3), none, none, some (.pop, 1), some (.iconst 0, 1),
  some (.istore 3, 1), some (.iload 3, 1), some (.aload 0, 1), some (.getfield 788, 3), none, none, some (.iconst 0, 1), some (.iaload, 1),
  some (.if_icmp .ge 105, 3), none, none, some (.iconst 0, 1), some (.istore 4, 2), none, some (.iconst 0, 1), some (.istore 5, 2),
  none, some (.iload 5, 2), none, some (.aload 0, 1), some (.getfield 788, 3), none, none, some (.iconst 2, 1),
  some (.iaload, 1), some (.if_icmp .ge 84, 3), none, none, some (.aload 0, 1), some (.iload 5, 2), none, some (.iconst 0, 1),
  some (.invokevirtual 175, 3), none, none, some (.iload 3, 1), some (.if_icmp .ne 78, 3), none, none, some (.aload 0, 1),
  some (.iload 5, 2), none, some (.invokevirtual 182, 3), none, none, some (.iconst 1, 1), some (.iadd, 1), some (.iload 4, 2),
  none, some (.if_icmp .le 78, 3), none, none, some (.aload 0, 1), some (.iload 5, 2), none, some (.invokevirtual 182, 3),
  none, none, some (.iconst 1, 1), some (.iadd, 1), some (.istore 4, 2), none, some (.iinc 5 1, 3), none,
  none, some (.goto 33, 3), none, none, some (.aload 0, 1), some (.getfield 801, 3), none, none,
  some (.iconst 10, 2), none, some (.iload 1, 1), some (.iconst 1, 1), some (.iadd, 1), some (.imul, 1), some (.iload 3, 1), some (.iadd, 1),
  some (.iload 4, 2), none, some (.iastore, 1), some (.iinc 3 1, 3), none, none, some (.goto 17, 3), none,
  none, some (.aload 0, 1), some (.invokevirtual 212, 3), none, none, some (.return_, 1)]
def xg233 : List (Option (Instr × Nat)) := [some (.iconst 0, 1), some (.istore 3, 1), some (.iconst 0, 1), some (.istore 4, 2), none, some (.iload 4, 2), none, some (.iconst 4, 1),
  some (.if_icmp .ge 89, 3), none, none, some (.iconst 0, 1), some (.istore 5, 2), none, some (.iconst 0, 1), some (.istore 6, 2),
  none, some (.iload 6, 2), none, some (.aload 0, 1), some (.getfield 788, 3), none, none, some (.iconst 2, 1),
  some (.iaload, 1), some (.if_icmp .gt 70, 3), none, none, some (.iload 5, 2), none, some (.iload 1, 1), some (.iload 6, 2),
  none, some (.invokestatic 229, 3), none, none, some (.ifCond .eq 60, 3), none, none, some (.aload 0, 1),
  some (.getfield 801, 3), none, none, some (.iconst 10, 2), none, some (.iload 6, 2), none, some (.imul, 1),
  some (.iload 2, 1), some (.iadd, 1), some (.iaload, 1), some (.iload 4, 2), none, some (.if_icmp .ne 60, 3), none, none,
  some (.iconst 1, 1), some (.goto 61, 3), none, none, some (.iconst 0, 1), some (.iadd, 1), some (.istore 5, 2), none,
  some (.iinc 6 1, 3), none, none, some (.goto 17, 3), none, none, some (.iload 5, 2), none,
  some (.iload 3, 1), some (.if_icmp .le 81, 3), none, none, some (.iload 5, 2), none, some (.goto 82, 3), none,
  none, some (.iload 3, 1), some (.istore 3, 1), some (.iinc 4 1, 3), none, none, some (.goto 5, 3), none,
  none, some (.iload 3, 1), some (.ireturn, 1)]
def xg234 : List (Option (Instr × Nat)) := [some (.aload 0, 1), some (.invokevirtual 172, 3), none, none, some (.ifCond .eq 29, 3), none, none, some (.iload 1, 1),
  some (.i2l, 1), some (.ldc2_w 0, 1), some (.ldc2_w 47, 3), none, none, some (.invokestatic 126, 3), none, none,
  some (.ifCond .eq 29, 3), none, none, some (.iload 2, 1), some (.i2l, 1), some (.ldc2_w 0, 1), some (.ldc2_w 1, 1), some (.invokestatic 126, 3),
  none, none, some (.ifCond .ne 31, 3), none, none, some (.iconst (-1), 1), some (.ireturn, 1), some (.aload 0, 1),
  some (.invokevirtual 230, 3), none, none, some (.istore 3, 1), some (.iload 3, 1), some (.ifCond .ne 43, 3), none, none,
  some (.iconst (-2), 2), none, some (.ireturn, 1), some (.iconst 0, 1), some (.istore 4, 2), none, some (.iload 4, 2), none,
  some (.aload 0, 1), some (.getfield 788, 3), none, none, some (.iconst 2, 1), some (.iaload, 1), some (.if_icmp .gt 81, 3), none,
  none, some (.iload 3, 1), some (.iload 4, 2), none, some (.invokestatic 229, 3), none, none, some (.ifCond .eq 75, 3),
  none, none, some (.aload 0, 1), some (.iload 4, 2), none, some (.iconst 1, 1), some (.isub, 1), some (.iload 1, 1),
  some (.invokevirtual 232, 3), none, none, some (.iinc 4 1, 3), none, none, some (.goto 46, 3), none,
  none, some (.iconst 0, 1), some (.istore 4, 2), none, some (.iconst 1, 1), some (.istore 5, 2), none, some (.iload 5, 2),
  none, some (.aload 0, 1), some (.getfield 788, 3), none, none, some (.iconst 0, 1), some (.iaload, 1), some (.if_icmp .ge 125, 3),
  none, none, some (.aload 0, 1), some (.iload 3, 1), some (.iload 5, 2), none, some (.invokevirtual 233, 3), none,
  none, some (.aload 0, 1), some (.iload 3, 1), some (.iload 4, 2), none, some (.invokevirtual 233, 3), none, none,
  some (.if_icmp .ge 119, 3), none, none, some (.iload 5, 2), none, some (.istore 4, 2), none, some (.iinc 5 1, 3),
  none, none, some (.goto 87, 3), none, none, some (.iload 2, 1), some (.ifCond .ne 134, 3), none,
  none, some (.iload 4, 2), none, some (.goto 141, 3), none, none, some (.aload 0, 1), some (.iload 3, 1),
  some (.iload 4, 2), none, some (.invokevirtual 233, 3), none, none, some (.ireturn, 1)]
def xg235 : List (Option (Instr × Nat)) := [some (.iconst 0, 1), some (.istore 5, 2), none, some (.iconst 1, 1), some (.istore 6, 2), none, some (.iload 6, 2), none,
  some (.iload 2, 1), some (.if_icmp .gt 45, 3), none, none, some (.iload 5, 2), none, some (.iload 1, 1), some (.iload 6, 2),
  none, some (.iload 3, 1), some (.imul, 1), some (.iadd, 1), some (.aload 0, 1), some (.getfield 788, 3), none, none,
  some (.iconst 8, 2), none, some (.iaload, 1), some (.if_icmp .lt 35, 3), none, none, some (.iload 4, 2), none,
  some (.goto 36, 3), none, none, some (.iconst 0, 1), some (.iadd, 1), some (.istore 5, 2), none, some (.iinc 6 1, 3),
  none, none, some (.goto 6, 3), none, none, some (.iload 5, 2), none, some (.ireturn, 1)]
def xg236 : List (Option (Instr × Nat)) := [some (.aload 0, 1), some (.invokevirtual 172, 3), none, none, some (.ifCond .eq 78, 3), none, none, some (.iload 1, 1),
  some (.i2l, 1), some (.ldc2_w 0, 1), some (.ldc2_w 1, 1), some (.invokestatic 126, 3), none, none, some (.ifCond .eq 78, 3), none,
  none, some (.iload 2, 1), some (.i2l, 1), some (.ldc2_w 1, 1), some (.ldc2_w 30, 3), none, none, some (.invokestatic 126, 3),
  none, none, some (.ifCond .eq 78, 3), none, none, some (.iload 3, 1), some (.i2l, 1), some (.ldc2_w 0, 1),
  some (.ldc2_w 99, 3), none, none, some (.invokestatic 126, 3), none, none, some (.ifCond .eq 78, 3), none,
  none, some (.iload 4, 2), none, some (.i2l, 1), some (.ldc2_w 0, 1), some (.ldc2_w 99, 3), none, none,
  some (.invokestatic 126, 3), none, none, some (.ifCond .eq 78, 3), none, none, some (.iload 5, 2), none,
  some (.i2l, 1), some (.ldc2_w 0, 1), some (.ldc2_w 99, 3), none, none, some (.invokestatic 126, 3), none, none,
  some (.ifCond .eq 78, 3), none, none, some (.iload 6, 2), none, some (.i2l, 1), some (.ldc2_w 0, 1), some (.ldc2_w 1, 1),
  some (.invokestatic 126, 3), none, none, some (.ifCond .ne 81, 3), none, none, some (.iconst (-2), 2), none,
  some (.ireturn, 1), some (.iload 2, 1), some (.iconst 1, 1), some (.isub, 1), some (.istore 7, 2), none, some (.iload 7, 2), none,
  some (.ifCond .lt 180, 3), none, none, some (.aload 0, 1), some (.iconst 0, 1), some (.iload 2, 1), some (.iload 7, 2), none,
  some (.isub, 1), some (.iload 3, 1), some (.iload 5, 2), none, some (.invokevirtual 235, 3), none, none, some (.istore 8, 2),
  none, some (.iload 7, 2), none, some (.iconst 1, 1), some (.iadd, 1), some (.istore 9, 2), none, some (.iload 9, 2),
  none, some (.iload 2, 1), some (.if_icmp .ge 162, 3), none, none, some (.aload 0, 1), some (.iconst 0, 1), some (.iload 9, 2),
  none, some (.iload 7, 2), none, some (.isub, 1), some (.iload 3, 1), some (.iload 5, 2), none, some (.invokevirtual 235, 3),
  none, none, some (.aload 0, 1), some (.getfield 802, 3), none, none, some (.iload 9, 2), none,
  some (.iaload, 1), some (.iadd, 1), some (.istore 10, 2), none, some (.iload 10, 2), none, some (.iload 8, 2), none,
  some (.if_icmp .ge 152, 3), none, none, some (.iload 10, 2), none, some (.goto 154, 3), none, none,
  some (.iload 8, 2), none, some (.istore 8, 2), none, some (.iinc 9 1, 3), none, none, some (.goto 111, 3),
  none, none, some (.aload 0, 1), some (.getfield 802, 3), none, none, some (.iload 7, 2), none,
  some (.iload 4, 2), none, some (.iload 8, 2), none, some (.iadd, 1), some (.iastore, 1), some (.iinc 7 (-1), 3), none,
  none, some (.goto 86, 3), none, none, some (.iconst (-1), 1), some (.istore 7, 2), none, some (.aload 0, 1),
  some (.aload 0, 1), some (.iload 1, 1), some (.invokevirtual 178, 3), none, none, some (.iload 2, 1), some (.iload 3, 1), some (.iload 5, 2),
  none, some (.invokevirtual 235, 3), none, none, some (.istore 8, 2), none, some (.iload 2, 1), some (.iconst 1, 1),
  some (.isub, 1), some (.istore 9, 2), none, some (.iload 9, 2), none, some (.ifCond .lt 256, 3), none, none,
  some (.aload 0, 1), some (.aload 0, 1), some (.iload 1, 1), some (.invokevirtual 178, 3), none, none, some (.iload 9, 2), none,
  some (.iload 3, 1), some (.iload 5, 2), none, some (.invokevirtual 235, 3), none, none, some (.aload 0, 1), some (.getfield 802, 3),
  none, none, some (.iload 9, 2), none, some (.iaload, 1), some (.iadd, 1), some (.istore 10, 2), none,
  some (.iload 10, 2), none, some (.iload 8, 2), none, some (.if_icmp .lt 242, 3), none, none, some (.goto 250, 3),
  none, none, some (.iload 9, 2), none, some (.istore 7, 2), none, some (.iload 10, 2), none,
  some (.istore 8, 2), none, some (.iinc 9 (-1), 3), none, none, some (.goto 203, 3), none, none,
  some (.iload 6, 2), none, some (.ifCond .ne 266, 3), none, none, some (.iload 8, 2), none, some (.goto 268, 3),
  none, none, some (.iload 7, 2), none, some (.ireturn, 1)]
def xg237 : List (Option (Instr × Nat)) := [some (.aload 0, 1), some (.invokevirtual 172, 3), none, none, some (.ifCond .eq 41, 3), none, none, some (.iload 1, 1),
  some (.i2l, 1), some (.ldc2_w 0, 1), some (.ldc2_w 9, 3), none, none, some (.invokestatic 126, 3), none, none,
  some (.ifCond .eq 41, 3), none, none, some (.iload 2, 1), some (.i2l, 1), some (.ldc2_w 1, 1), some (.ldc2_w 24, 3), none,
  none, some (.invokestatic 126, 3), none, none, some (.ifCond .eq 41, 3), none, none, some (.iload 3, 1),
  some (.i2l, 1), some (.ldc2_w 0, 1), some (.ldc2_w 1, 1), some (.invokestatic 126, 3), none, none, some (.ifCond .ne 45, 3), none,
  none, some (.iconst (-100000), 3), none, none, some (.ireturn, 1), some (.aload 0, 1), some (.invokevirtual 211, 3), none,
  none, some (.aload 0, 1), some (.iload 2, 1), some (.invokevirtual 200, 3), none, none, some (.istore 4, 2), none,
  some (.aload 0, 1), some (.invokevirtual 212, 3), none, none, some (.iconst (-2), 2), none, some (.istore 5, 2), none,
  some (.iconst 0, 1), some (.istore 6, 2), none, some (.iconst 0, 1), some (.istore 7, 2), none, some (.iload 7, 2), none,
  some (.aload 0, 1), some (.getfield 788, 3), none, none, some (.iconst 2, 1), some (.iaload, 1), some (.if_icmp .ge 158, 3), none,
  none, some (.aload 0, 1), some (.iload 7, 2), none, some (.invokevirtual 181, 3), none, none, some (.ifCond .ne 152, 3),
  none, none, some (.aload 0, 1), some (.iload 7, 2), none, some (.iconst 2, 1), some (.invokevirtual 175, 3), none,
  none, some (.iload 1, 1), some (.if_icmp .le 104, 3), none, none, some (.goto 152, 3), none, none,
  some (.aload 0, 1), some (.iload 7, 2), none, some (.putfield 791, 3), none, none, some (.aload 0, 1), some (.iload 2, 1),
  some (.invokevirtual 200, 3), none, none, some (.iload 4, 2), none, some (.isub, 1), some (.istore 8, 2), none,
  some (.aload 0, 1), some (.invokevirtual 212, 3), none, none, some (.aload 0, 1), some (.iconst (-1), 1), some (.putfield 791, 3), none,
  none, some (.iload 5, 2), none, some (.ifCond .lt 144, 3), none, none, some (.iload 8, 2), none,
  some (.iload 6, 2), none, some (.if_icmp .gt 144, 3), none, none, some (.goto 152, 3), none, none,
  some (.iload 7, 2), none, some (.istore 5, 2), none, some (.iload 8, 2), none, some (.istore 6, 2), none,
  some (.iinc 7 1, 3), none, none, some (.goto 70, 3), none, none, some (.iload 3, 1), some (.ifCond .ne 167, 3),
  none, none, some (.iload 6, 2), none, some (.goto 169, 3), none, none, some (.iload 5, 2),
  none, some (.ireturn, 1)]
def xg238 : List (Option (Instr × Nat)) := [some (.iload 1, 1), some (.ifCond .ge 6, 3), none, none, some (.iconst (-1), 1), some (.ireturn, 1), some (.aload 0, 1), some (.getfield 790, 3),
  none, none, some (.istore 2, 1), some (.aload 0, 1), some (.iload 1, 1), some (.putfield 790, 3), none, none,
  some (.iload 2, 1), some (.ireturn, 1)]
def xg239 : List (Option (Instr × Nat)) := [some (.aload 0, 1), some (.aload 0, 1), some (.getfield 803, 3), none, none, some (.ldc2_w 1103515245, 3), none, none,
  some (.lmul, 1), some (.ldc2_w 12345, 3), none, none, some (.ladd, 1), some (.ldc2_w 2147483648, 3), none, none,
  some (.lrem, 1), some (.putfield 803, 3), none, none, some (.aload 0, 1), some (.getfield 803, 3), none, none,
  some (.ldc2_w 65536, 3), none, none, some (.ldiv, 1), some (.iload 1, 1), some (.i2l, 1), some (.lrem, 1), some (.l2i, 1),
  some (.ireturn, 1)]
def xg240 : List (Option (Instr × Nat)) := [some (.aload 0, 1), some (.invokevirtual 172, 3), none, none, some (.ifCond .eq 54, 3), none, none, some (.iload 1, 1),
  some (.i2l, 1), some (.ldc2_w 1, 1), some (.ldc2_w 10, 3), none, none, some (.invokestatic 126, 3), none, none,
  some (.ifCond .eq 54, 3), none, none, some (.iload 2, 1), some (.i2l, 1), some (.ldc2_w 1, 1), some (.ldc2_w 72, 3), none,
  none, some (.invokestatic 126, 3), none, none, some (.ifCond .eq 54, 3), none, none, some (.iload 3, 1),
  some (.i2l, 1), some (.ldc2_w 0, 1), some (.ldc2_w 100, 3), none, none, some (.invokestatic 126, 3), none, none,
  some (.ifCond .eq 54, 3), none, none, some (.iload 4, 2), none, some (.i2l, 1), some (.ldc2_w 0, 1), some (.ldc2_w 1, 1),
  some (.invokestatic 126, 3), none, none, some (.ifCond .ne 56, 3), none, none, some (.iconst (-1), 1), some (.ireturn, 1),
  some (.aload 0, 1), some (.aload 0, 1), some (.getfield 790, 3), none, none, some (.i2l, 1), some (.putfield 803, 3), none,
  none, some (.iconst 0, 1), some (.istore 5, 2), none, some (.aload 0, 1), some (.iconst 0, 1), some (.putfield 793, 3), none,
  none, some (.aload 0, 1), some (.invokevirtual 211, 3), none, none, some (.iconst 0, 1), some (.istore 6, 2), none,
  some (.iload 6, 2), none, some (.iload 1, 1), some (.if_icmp .ge 139, 3), none, none, some (.iconst 0, 1), some (.istore 7, 2),
  none, some (.iload 7, 2), none, some (.iload 2, 1), some (.if_icmp .ge 129, 3), none, none, some (.aload 0, 1),
  some (.aload 0, 1), some (.iconst 100, 2), none, some (.invokevirtual 239, 3), none, none, some (.iload 3, 1), some (.if_icmp .ge 110, 3),
  none, none, some (.iconst 1, 1), some (.goto 111, 3), none, none, some (.iconst 0, 1), some (.putfield 792, 3),
  none, none, some (.iload 5, 2), none, some (.aload 0, 1), some (.invokevirtual 199, 3), none, none,
  some (.iadd, 1), some (.istore 5, 2), none, some (.iinc 7 1, 3), none, none, some (.goto 89, 3), none,
  none, some (.aload 0, 1), some (.invokevirtual 212, 3), none, none, some (.iinc 6 1, 3), none, none,
  some (.goto 80, 3), none, none, some (.aload 0, 1), some (.iconst 0, 1), some (.putfield 792, 3), none, none,
  some (.iload 4, 2), none, some (.ifCond .ne 154, 3), none, none, some (.iload 5, 2), none, some (.goto 158, 3),
  none, none, some (.aload 0, 1), some (.getfield 793, 3), none, none, some (.ireturn, 1)]
def xg241 : List (Option (Instr × Nat)) := [some (.iload 1, 1), some (.tableswitch 186 0 15 #[80, 87, 80, 80, 80, 105, 110, 115, 122, 130, 135, 143, 152, 157, 162, 167], 79), none, none, none, none, none, none,
  none, none, none, none, none, none, none, none,
  none, none, none, none, none, none, none, none,
  none, none, none, none, none, none, none, none,
  none, none, none, none, none, none, none, none,
  none, none, none, none, none, none, none, none,
  none, none, none, none, none, none, none, none,
  none, none, none, none, none, none, none, none,
  none, none, none, none, none, none, none, none,
  none, none, none, none, none, none, none, none,
  some (.aload 0, 1), some (.getfield 788, 3), none, none, some (.iload 1, 1), some (.iaload, 1), some (.ireturn, 1), some (.aload 0, 1),
  some (.invokevirtual 172, 3), none, none, some (.ifCond .eq 103, 3), none, none, some (.aload 0, 1), some (.getfield 788, 3),
  none, none, some (.iconst 1, 1), some (.iaload, 1), some (.goto 104, 3), none, none, some (.iconst (-1), 1),
  some (.ireturn, 1), some (.aload 0, 1), some (.getfield 770, 3), none, none, some (.ireturn, 1), some (.aload 0, 1), some (.getfield 789, 3),
  none, none, some (.ireturn, 1), some (.aload 0, 1), some (.getfield 788, 3), none, none, some (.iconst 5, 1),
  some (.iaload, 1), some (.ireturn, 1), some (.aload 0, 1), some (.getfield 788, 3), none, none, some (.iconst 6, 2), none,
  some (.iaload, 1), some (.ireturn, 1), some (.aload 0, 1), some (.invokevirtual 209, 3), none, none, some (.ireturn, 1), some (.aload 0, 1),
  some (.getfield 788, 3), none, none, some (.iconst 7, 2), none, some (.iaload, 1), some (.ireturn, 1), some (.aload 0, 1),
  some (.getfield 788, 3), none, none, some (.iconst 150, 3), none, none, some (.iaload, 1), some (.ireturn, 1),
  some (.aload 0, 1), some (.getfield 795, 3), none, none, some (.ireturn, 1), some (.aload 0, 1), some (.getfield 790, 3), none,
  none, some (.ireturn, 1), some (.aload 0, 1), some (.getfield 769, 3), none, none, some (.ireturn, 1), some (.aload 0, 1),
  some (.invokevirtual 172, 3), none, none, some (.ifCond .eq 184, 3), none, none, some (.aload 0, 1), some (.getfield 788, 3),
  none, none, some (.iconst 8, 2), none, some (.iaload, 1), some (.goto 185, 3), none, none,
  some (.iconst (-1), 1), some (.ireturn, 1), some (.iconst (-1), 1), some (.ireturn, 1)]
def xg242 : List (Option (Instr × Nat)) := [some (.iload 1, 1), some (.i2l, 1), some (.ldc2_w 0, 1), some (.ldc2_w 3, 3), none, none, some (.invokestatic 126, 3), none,
  none, some (.ifCond .ne 14, 3), none, none, some (.iconst (-1), 1), some (.ireturn, 1), some (.aload 0, 1), some (.getfield 807, 3),
  none, none, some (.iload 1, 1), some (.iconst 1, 1), some (.bastore, 1), some (.aload 0, 1), some (.getfield 805, 3), none,
  none, some (.iload 1, 1), some (.aload 0, 1), some (.getfield 789, 3), none, none, some (.iastore, 1), some (.aload 0, 1),
  some (.getfield 806, 3), none, none, some (.iload 1, 1), some (.aload 0, 1), some (.getfield 790, 3), none, none,
  some (.iastore, 1), some (.iconst 0, 1), some (.istore 2, 1), some (.iload 2, 1), some (.iconst 151, 3), none, none, some (.if_icmp .ge 74, 3),
  none, none, some (.aload 0, 1), some (.getfield 804, 3), none, none, some (.iconst 151, 3), none,
  none, some (.iload 1, 1), some (.imul, 1), some (.iload 2, 1), some (.iadd, 1), some (.aload 0, 1), some (.getfield 788, 3), none,
  none, some (.iload 2, 1), some (.iaload, 1), some (.iastore, 1), some (.iinc 2 1, 3), none, none, some (.goto 43, 3),
  none, none, some (.aload 0, 1), some (.getfield 788, 3), none, none, some (.iconst 6, 2), none,
  some (.iaload, 1), some (.ireturn, 1)]
def xg243 : List (Option (Instr × Nat)) := [some (.iload 1, 1), some (.i2l, 1), some (.ldc2_w 0, 1), some (.ldc2_w 3, 3), none, none, some (.invokestatic 126, 3), none,
  none, some (.ifCond .eq 21, 3), none, none, some (.aload 0, 1), some (.getfield 807, 3), none, none,
  some (.iload 1, 1), some (.baload, 1), some (.ifCond .ne 23, 3), none, none, some (.iconst (-1), 1), some (.ireturn, 1), some (.aload 0, 1),
  some (.aload 0, 1), some (.getfield 805, 3), none, none, some (.iload 1, 1), some (.iaload, 1), some (.putfield 789, 3), none,
  none, some (.aload 0, 1), some (.aload 0, 1), some (.getfield 806, 3), none, none, some (.iload 1, 1), some (.iaload, 1),
  some (.putfield 790, 3), none, none, some (.aload 0, 1), some (.iconst 0, 1), some (.putfield 795, 3), none, none,
  some (.iconst 0, 1), some (.istore 2, 1), some (.iload 2, 1), some (.iconst 151, 3), none, none, some (.if_icmp .ge 81, 3), none,
  none, some (.aload 0, 1), some (.getfield 788, 3), none, none, some (.iload 2, 1), some (.aload 0, 1), some (.getfield 804, 3),
  none, none, some (.iconst 151, 3), none, none, some (.iload 1, 1), some (.imul, 1), some (.iload 2, 1),
  some (.iadd, 1), some (.iaload, 1), some (.iastore, 1), some (.iinc 2 1, 3), none, none, some (.goto 50, 3), none,
  none, some (.aload 0, 1), some (.getfield 788, 3), none, none, some (.iconst 6, 2), none, some (.iaload, 1),
  some (.ireturn, 1)]
def xg244 : List (Option (Instr × Nat)) := [some (.iload 0, 1), some (.iload 1, 1), some (.if_icmp .ge 9, 3), none, none, some (.iconst (-1), 1), some (.goto 19, 3), none,
  none, some (.iload 0, 1), some (.iload 1, 1), some (.if_icmp .ne 18, 3), none, none, some (.iconst 0, 1), some (.goto 19, 3),
  none, none, some (.iconst 1, 1), some (.ireturn, 1)]
def xg245 : List (Option (Instr × Nat)) := [some (.iload 0, 1), some (.iload 0, 1), some (.iconst 1, 1), some (.iushr, 1), some (.iconst 1431655765, 3), none, none, some (.iand, 1),
  some (.isub, 1), some (.istore 0, 1), some (.iload 0, 1), some (.iconst 858993459, 3), none, none, some (.iand, 1), some (.iload 0, 1),
  some (.iconst 2, 1), some (.iushr, 1), some (.iconst 858993459, 3), none, none, some (.iand, 1), some (.iadd, 1), some (.istore 0, 1),
  some (.iload 0, 1), some (.iload 0, 1), some (.iconst 4, 1), some (.iushr, 1), some (.iadd, 1), some (.iconst 252645135, 3), none, none,
  some (.iand, 1), some (.istore 0, 1), some (.iload 0, 1), some (.iload 0, 1), some (.iconst 8, 2), none, some (.iushr, 1), some (.iadd, 1),
  some (.istore 0, 1), some (.iload 0, 1), some (.iload 0, 1), some (.iconst 16, 2), none, some (.iushr, 1), some (.iadd, 1), some (.istore 0, 1),
  some (.iload 0, 1), some (.iconst 63, 2), none, some (.iand, 1), some (.ireturn, 1)]
def xg246 : List (Option (Instr × Nat)) := [some (.lload 0, 1), some (.lload 2, 1), some (.lcmp, 1), some (.ifCond .ge 10, 3), none, none, some (.iconst (-1), 1), some (.goto 21, 3),
  none, none, some (.lload 0, 1), some (.lload 2, 1), some (.lcmp, 1), some (.ifCond .ne 20, 3), none, none,
  some (.iconst 0, 1), some (.goto 21, 3), none, none, some (.iconst 1, 1), some (.ireturn, 1)]
def xg247 : List (Option (Instr × Nat)) := [some (.iload 0, 1), some (.iload 1, 1), some (.if_icmp .lt 9, 3), none, none, some (.iload 0, 1), some (.goto 10, 3), none,
  none, some (.iload 1, 1), some (.ireturn, 1)]
def xg248 : List (Option (Instr × Nat)) := [some (.iload 0, 1), some (.iload 1, 1), some (.if_icmp .gt 9, 3), none, none, some (.iload 0, 1), some (.goto 10, 3), none,
  none, some (.iload 1, 1), some (.ireturn, 1)]
def xg249 : List (Option (Instr × Nat)) := [some (.aload 0, 1), some (.getfield 5760, 3), none, none, some (.arraylength, 1), some (.aload 0, 1), some (.invokevirtual 251, 3), none,
  none, some (.ishr, 1), some (.ireturn, 1)]
def xg250 : List (Option (Instr × Nat)) := [some (.aload 0, 1), some (.invokevirtual 252, 3), none, none, some (.ifCond .eq 16, 3), none, none, some (.aload 0, 1),
  some (.getfield 5760, 3), none, none, some (.iload 1, 1), some (.invokestatic 254, 3), none, none, some (.ireturn, 1),
  some (.aload 0, 1), some (.getfield 5760, 3), none, none, some (.iload 1, 1), none, none, none,
  some (.ireturn, 1)]
def xg251 : List (Option (Instr × Nat)) := [some (.getstatic 0, 3), none, none, some (.ifCond .eq 13, 3), none, none, some (.aload 0, 1), some (.getfield 5761, 3),
  none, none, some (.goto 14, 3), none, none, some (.iconst 1, 1), some (.ireturn, 1)]
def xg252 : List (Option (Instr × Nat)) := [some (.getstatic 0, 3), none, none, some (.ifCond .eq 17, 3), none, none, some (.aload 0, 1), some (.getfield 5761, 3),
  none, none, some (.ifCond .ne 17, 3), none, none, some (.iconst 1, 1), some (.goto 18, 3), none,
  none, some (.iconst 0, 1), some (.ireturn, 1)]
def xg253 : List (Option (Instr × Nat)) := [some (.iload 0, 1), some (.iload 1, 1), some (.getstatic 1, 3), none, none, some (.invokestatic 257, 3), none, none,
  some (.pop, 1), some (.return_, 1)]
def xg254 : List (Option (Instr × Nat)) := [some (.iload 1, 1), some (.aload 0, 1), some (.arraylength, 1), some (.invokestatic 253, 3), none, none, some (.aload 0, 1), some (.iload 1, 1),
  some (.baload, 1), some (.iconst 255, 3), none, none, some (.iand, 1), some (.i2c, 1), some (.ireturn, 1)]
def xg255 : List (Option (Instr × Nat)) := [some (.iconst 0, 1), some (.istore 2, 1), some (.aload 0, 1), some (.arraylength, 1), some (.istore 3, 1), some (.iload 2, 1), some (.iload 3, 1), some (.if_icmp .ge 20, 3),
  none, none, some (.aload 0, 1), some (.iload 2, 1), some (.iload 1, 1), some (.iastore, 1), some (.iinc 2 1, 3), none,
  none, some (.goto 5, 3), none, none, some (.return_, 1)]
def xg256 : List (Option (Instr × Nat)) := [some (.iload 1, 1), some (.aload 0, 1), some (.arraylength, 1), some (.if_icmp .ne 14, 3), none, none, some (.aload 0, 1), some (.invokevirtual 9997, 3),
  none, none, some (.checkcast 0, 3), none, none, some (.areturn, 1), some (.iload 1, 1), some (.newarray .int, 2),
  none, some (.astore 2, 1), some (.aload 0, 1), some (.iconst 0, 1), some (.aload 2, 1), some (.iconst 0, 1), some (.aload 0, 1), some (.arraylength, 1),
  some (.iload 1, 1), some (.invokestatic 248, 3), none, none, some (.invokestatic 9998, 3), none, none, some (.aload 2, 1),
  some (.areturn, 1)]
def xg257 : List (Option (Instr × Nat)) := [some (.iload 0, 1), some (.ifCond .lt 9, 3), none, none, some (.iload 0, 1), some (.iload 1, 1), some (.if_icmp .lt 16, 3), none,
  none, some (.aload 2, 1), some (.iload 0, 1), some (.iload 1, 1), none, none, none, none,
  some (.iload 0, 1), some (.ireturn, 1)]
def xg258_0 : List (Option (Instr × Nat)) := [some (.new 11, 3), none, none, some (.dup, 1), some (.invokespecial 88, 3), none, none, some (.astore 1, 1),
  some (.new 12, 3), none, none, some (.dup, 1), some (.invokespecial 125, 3), none, none, some (.astore 2, 1),
  some (.iconst 0, 1), some (.istore 3, 1), some (.iload 3, 1), some (.aload 0, 1), some (.arraylength, 1), some (.iconst 7, 2), none, some (.isub, 1),
  some (.if_icmp .gt 1048, 3), none, none, some (.aload 0, 1), some (.iload 3, 1), some (.iaload, 1), some (.iconst 31, 2), none,
  some (.iand, 1), some (.tableswitch 1042 0 27 #[160, 223, 246, 259, 272, 295, 328, 361, 384, 397, 430, 453, 476, 489, 532, 565, 598, 621, 654, 723, 746, 779, 854, 897, 920, 973, 996, 1019], 127), none, none, none, none, none, none,
  none, none, none, none, none, none, none, none,
  none, none, none, none, none, none, none, none,
  none, none, none, none, none, none, none, none,
  none, none, none, none, none, none, none, none,
  none, none, none, none, none, none, none, none,
  none, none, none, none, none, none, none, none,
  none, none, none, none, none, none, none, none,
  none, none, none, none, none, none, none, none,
  none, none, none, none, none, none, none, none,
  none, none, none, none, none, none, none, none,
  none, none, none, none, none, none, none, none,
  none, none]
def xg258_1 : List (Option (Instr × Nat)) := [none, none, none, none, none, none, none, none,
  none, none, none, none, none, none, none, none,
  none, none, none, none, none, none, none, none,
  none, none, none, none, none, none, some (.aload 1, 1), some (.aload 0, 1),
  some (.iload 3, 1), some (.iconst 1, 1), some (.iadd, 1), some (.iaload, 1), some (.aload 0, 1), some (.iload 3, 1), some (.iconst 2, 1), some (.iadd, 1),
  some (.iaload, 1), some (.aload 0, 1), some (.iload 3, 1), some (.iconst 3, 1), some (.iadd, 1), some (.iaload, 1), some (.aload 0, 1), some (.iload 3, 1),
  some (.iconst 4, 1), some (.iadd, 1), some (.iaload, 1), some (.aload 0, 1), some (.iload 3, 1), some (.iconst 5, 1), some (.iadd, 1), some (.iaload, 1),
  some (.invokevirtual 89, 3), none, none, some (.aload 2, 1), some (.aload 0, 1), some (.iload 3, 1), some (.iconst 1, 1), some (.iadd, 1),
  some (.iaload, 1), some (.aload 0, 1), some (.iload 3, 1), some (.iconst 2, 1), some (.iadd, 1), some (.iaload, 1), some (.aload 0, 1), some (.iload 3, 1),
  some (.iconst 3, 1), some (.iadd, 1), some (.iaload, 1), some (.aload 0, 1), some (.iload 3, 1), some (.iconst 4, 1), some (.iadd, 1), some (.iaload, 1),
  some (.aload 0, 1), some (.iload 3, 1), some (.iconst 5, 1), some (.iadd, 1), some (.iaload, 1), some (.invokevirtual 128, 3), none, none,
  some (.if_icmp .eq 1042, 3), none, none, some (.iconst 0, 1), some (.ireturn, 1), some (.aload 1, 1), some (.aload 0, 1), some (.iload 3, 1),
  some (.iconst 1, 1), some (.iadd, 1), some (.iaload, 1), some (.invokevirtual 90, 3), none, none, some (.aload 2, 1), some (.aload 0, 1),
  some (.iload 3, 1), some (.iconst 1, 1), some (.iadd, 1), some (.iaload, 1), some (.invokevirtual 129, 3), none, none, some (.if_icmp .eq 1042, 3),
  none, none, some (.iconst 0, 1), some (.ireturn, 1), some (.aload 1, 1), some (.invokevirtual 91, 3), none, none,
  some (.aload 2, 1), some (.invokevirtual 166, 3), none, none, some (.if_icmp .eq 1042, 3), none, none, some (.iconst 0, 1),
  some (.ireturn, 1), some (.aload 1, 1)]
def xg258_2 : List (Option (Instr × Nat)) := [some (.invokevirtual 92, 3), none, none, some (.aload 2, 1), some (.invokevirtual 165, 3), none, none, some (.if_icmp .eq 1042, 3),
  none, none, some (.iconst 0, 1), some (.ireturn, 1), some (.aload 1, 1), some (.aload 0, 1), some (.iload 3, 1), some (.iconst 1, 1),
  some (.iadd, 1), some (.iaload, 1), some (.invokevirtual 93, 3), none, none, some (.aload 2, 1), some (.aload 0, 1), some (.iload 3, 1),
  some (.iconst 1, 1), some (.iadd, 1), some (.iaload, 1), some (.invokevirtual 185, 3), none, none, some (.if_icmp .eq 1042, 3), none,
  none, some (.iconst 0, 1), some (.ireturn, 1), some (.aload 1, 1), some (.aload 0, 1), some (.iload 3, 1), some (.iconst 1, 1), some (.iadd, 1),
  some (.iaload, 1), some (.aload 0, 1), some (.iload 3, 1), some (.iconst 2, 1), some (.iadd, 1), some (.iaload, 1), some (.invokevirtual 94, 3), none,
  none, some (.aload 2, 1), some (.aload 0, 1), some (.iload 3, 1), some (.iconst 1, 1), some (.iadd, 1), some (.iaload, 1), some (.aload 0, 1),
  some (.iload 3, 1), some (.iconst 2, 1), some (.iadd, 1), some (.iaload, 1), some (.invokevirtual 186, 3), none, none, some (.if_icmp .eq 1042, 3),
  none, none, some (.iconst 0, 1), some (.ireturn, 1), some (.aload 1, 1), some (.aload 0, 1), some (.iload 3, 1), some (.iconst 1, 1),
  some (.iadd, 1), some (.iaload, 1), some (.aload 0, 1), some (.iload 3, 1), some (.iconst 2, 1), some (.iadd, 1), some (.iaload, 1), some (.invokevirtual 95, 3),
  none, none, some (.aload 2, 1), some (.aload 0, 1), some (.iload 3, 1), some (.iconst 1, 1), some (.iadd, 1), some (.iaload, 1),
  some (.aload 0, 1), some (.iload 3, 1), some (.iconst 2, 1), some (.iadd, 1), some (.iaload, 1), some (.invokevirtual 187, 3), none, none,
  some (.if_icmp .eq 1042, 3), none, none, some (.iconst 0, 1), some (.ireturn, 1), some (.aload 1, 1), some (.aload 0, 1), some (.iload 3, 1),
  some (.iconst 1, 1), some (.iadd, 1), some (.iaload, 1), some (.invokevirtual 96, 3), none, none, some (.aload 2, 1), some (.aload 0, 1),
  some (.iload 3, 1), some (.iconst 1, 1), some (.iadd, 1), some (.iaload, 1), some (.invokevirtual 188, 3), none, none, some (.if_icmp .eq 1042, 3),
  none, none, some (.iconst 0, 1), some (.ireturn, 1), some (.aload 1, 1), some (.invokevirtual 97, 3), none, none,
  some (.aload 2, 1), some (.invokevirtual 203, 3)]
def xg258_3 : List (Option (Instr × Nat)) := [none, none, some (.if_icmp .eq 1042, 3), none, none, some (.iconst 0, 1), some (.ireturn, 1), some (.aload 1, 1),
  some (.aload 0, 1), some (.iload 3, 1), some (.iconst 1, 1), some (.iadd, 1), some (.iaload, 1), some (.aload 0, 1), some (.iload 3, 1), some (.iconst 2, 1),
  some (.iadd, 1), some (.iaload, 1), some (.invokevirtual 98, 3), none, none, some (.aload 2, 1), some (.aload 0, 1), some (.iload 3, 1),
  some (.iconst 1, 1), some (.iadd, 1), some (.iaload, 1), some (.aload 0, 1), some (.iload 3, 1), some (.iconst 2, 1), some (.iadd, 1), some (.iaload, 1),
  some (.invokevirtual 207, 3), none, none, some (.if_icmp .eq 1042, 3), none, none, some (.iconst 0, 1), some (.ireturn, 1),
  some (.aload 1, 1), some (.aload 0, 1), some (.iload 3, 1), some (.iconst 1, 1), some (.iadd, 1), some (.iaload, 1), some (.invokevirtual 99, 3), none,
  none, some (.aload 2, 1), some (.aload 0, 1), some (.iload 3, 1), some (.iconst 1, 1), some (.iadd, 1), some (.iaload, 1), some (.invokevirtual 208, 3),
  none, none, some (.if_icmp .eq 1042, 3), none, none, some (.iconst 0, 1), some (.ireturn, 1), some (.aload 1, 1),
  some (.aload 0, 1), some (.iload 3, 1), some (.iconst 1, 1), some (.iadd, 1), some (.iaload, 1), some (.invokevirtual 100, 3), none, none,
  some (.aload 2, 1), some (.aload 0, 1), some (.iload 3, 1), some (.iconst 1, 1), some (.iadd, 1), some (.iaload, 1), some (.invokevirtual 210, 3), none,
  none, some (.if_icmp .eq 1042, 3), none, none, some (.iconst 0, 1), some (.ireturn, 1), some (.aload 1, 1), some (.invokevirtual 101, 3),
  none, none, some (.aload 2, 1), some (.invokevirtual 202, 3), none, none, some (.if_icmp .eq 1042, 3), none,
  none, some (.iconst 0, 1), some (.ireturn, 1), some (.aload 1, 1), some (.aload 0, 1), some (.iload 3, 1), some (.iconst 1, 1), some (.iadd, 1),
  some (.iaload, 1), some (.aload 0, 1), some (.iload 3, 1), some (.iconst 2, 1), some (.iadd, 1), some (.iaload, 1), some (.aload 0, 1), some (.iload 3, 1),
  some (.iconst 3, 1), some (.iadd, 1), some (.iaload, 1), some (.invokevirtual 102, 3), none, none, some (.aload 2, 1), some (.aload 0, 1),
  some (.iload 3, 1), some (.iconst 1, 1), some (.iadd, 1), some (.iaload, 1), some (.aload 0, 1), some (.iload 3, 1), some (.iconst 2, 1), some (.iadd, 1),
  some (.iaload, 1), some (.aload 0, 1)]
def xg258_4 : List (Option (Instr × Nat)) := [some (.iload 3, 1), some (.iconst 3, 1), some (.iadd, 1), some (.iaload, 1), some (.invokevirtual 213, 3), none, none, some (.if_icmp .eq 1042, 3),
  none, none, some (.iconst 0, 1), some (.ireturn, 1), some (.aload 1, 1), some (.aload 0, 1), some (.iload 3, 1), some (.iconst 1, 1),
  some (.iadd, 1), some (.iaload, 1), some (.aload 0, 1), some (.iload 3, 1), some (.iconst 2, 1), some (.iadd, 1), some (.iaload, 1), some (.invokevirtual 103, 3),
  none, none, some (.aload 2, 1), some (.aload 0, 1), some (.iload 3, 1), some (.iconst 1, 1), some (.iadd, 1), some (.iaload, 1),
  some (.aload 0, 1), some (.iload 3, 1), some (.iconst 2, 1), some (.iadd, 1), some (.iaload, 1), some (.invokevirtual 217, 3), none, none,
  some (.if_icmp .eq 1042, 3), none, none, some (.iconst 0, 1), some (.ireturn, 1), some (.aload 1, 1), some (.aload 0, 1), some (.iload 3, 1),
  some (.iconst 1, 1), some (.iadd, 1), some (.iaload, 1), some (.aload 0, 1), some (.iload 3, 1), some (.iconst 2, 1), some (.iadd, 1), some (.iaload, 1),
  some (.invokevirtual 104, 3), none, none, some (.aload 2, 1), some (.aload 0, 1), some (.iload 3, 1), some (.iconst 1, 1), some (.iadd, 1),
  some (.iaload, 1), some (.aload 0, 1), some (.iload 3, 1), some (.iconst 2, 1), some (.iadd, 1), some (.iaload, 1), some (.invokevirtual 218, 3), none,
  none, some (.if_icmp .eq 1042, 3), none, none, some (.iconst 0, 1), some (.ireturn, 1), some (.aload 1, 1), some (.aload 0, 1),
  some (.iload 3, 1), some (.iconst 1, 1), some (.iadd, 1), some (.iaload, 1), some (.invokevirtual 105, 3), none, none, some (.aload 2, 1),
  some (.aload 0, 1), some (.iload 3, 1), some (.iconst 1, 1), some (.iadd, 1), some (.iaload, 1), some (.invokevirtual 219, 3), none, none,
  some (.if_icmp .eq 1042, 3), none, none, some (.iconst 0, 1), some (.ireturn, 1), some (.aload 1, 1), some (.aload 0, 1), some (.iload 3, 1),
  some (.iconst 1, 1), some (.iadd, 1), some (.iaload, 1), some (.aload 0, 1), some (.iload 3, 1), some (.iconst 2, 1), some (.iadd, 1), some (.iaload, 1),
  some (.invokevirtual 106, 3), none, none, some (.aload 2, 1), some (.aload 0, 1), some (.iload 3, 1), some (.iconst 1, 1), some (.iadd, 1),
  some (.iaload, 1), some (.aload 0, 1), some (.iload 3, 1), some (.iconst 2, 1), some (.iadd, 1), some (.iaload, 1), some (.invokevirtual 223, 3), none,
  none, some (.if_icmp .eq 1042, 3)]
def xg258_5 : List (Option (Instr × Nat)) := [none, none, some (.iconst 0, 1), some (.ireturn, 1), some (.aload 1, 1), some (.aload 0, 1), some (.iload 3, 1), some (.iconst 1, 1),
  some (.iadd, 1), some (.iaload, 1), some (.aload 0, 1), some (.iload 3, 1), some (.iconst 2, 1), some (.iadd, 1), some (.iaload, 1), some (.aload 0, 1),
  some (.iload 3, 1), some (.iconst 3, 1), some (.iadd, 1), some (.iaload, 1), some (.aload 0, 1), some (.iload 3, 1), some (.iconst 4, 1), some (.iadd, 1),
  some (.iaload, 1), some (.ifCond .eq 682, 3), none, none, some (.iconst 1, 1), some (.goto 683, 3), none, none,
  some (.iconst 0, 1), some (.invokevirtual 107, 3), none, none, some (.aload 2, 1), some (.aload 0, 1), some (.iload 3, 1), some (.iconst 1, 1),
  some (.iadd, 1), some (.iaload, 1), some (.aload 0, 1), some (.iload 3, 1), some (.iconst 2, 1), some (.iadd, 1), some (.iaload, 1), some (.aload 0, 1),
  some (.iload 3, 1), some (.iconst 3, 1), some (.iadd, 1), some (.iaload, 1), some (.aload 0, 1), some (.iload 3, 1), some (.iconst 4, 1), some (.iadd, 1),
  some (.iaload, 1), some (.ifCond .eq 714, 3), none, none, some (.iconst 1, 1), some (.goto 715, 3), none, none,
  some (.iconst 0, 1), some (.invokevirtual 224, 3), none, none, some (.if_icmp .eq 1042, 3), none, none, some (.iconst 0, 1),
  some (.ireturn, 1), some (.aload 1, 1), some (.aload 0, 1), some (.iload 3, 1), some (.iconst 1, 1), some (.iadd, 1), some (.iaload, 1), some (.invokevirtual 108, 3),
  none, none, some (.aload 2, 1), some (.aload 0, 1), some (.iload 3, 1), some (.iconst 1, 1), some (.iadd, 1), some (.iaload, 1),
  some (.invokevirtual 231, 3), none, none, some (.if_icmp .eq 1042, 3), none, none, some (.iconst 0, 1), some (.ireturn, 1),
  some (.aload 1, 1), some (.aload 0, 1), some (.iload 3, 1), some (.iconst 1, 1), some (.iadd, 1), some (.iaload, 1), some (.aload 0, 1), some (.iload 3, 1),
  some (.iconst 2, 1), some (.iadd, 1), some (.iaload, 1), some (.invokevirtual 109, 3), none, none, some (.aload 2, 1), some (.aload 0, 1),
  some (.iload 3, 1), some (.iconst 1, 1), some (.iadd, 1), some (.iaload, 1), some (.aload 0, 1), some (.iload 3, 1), some (.iconst 2, 1), some (.iadd, 1),
  some (.iaload, 1), some (.invokevirtual 234, 3), none, none, some (.if_icmp .eq 1042, 3), none, none, some (.iconst 0, 1),
  some (.ireturn, 1), some (.aload 1, 1)]
def xg258_6 : List (Option (Instr × Nat)) := [some (.aload 0, 1), some (.iload 3, 1), some (.iconst 1, 1), some (.iadd, 1), some (.iaload, 1), some (.aload 0, 1), some (.iload 3, 1), some (.iconst 2, 1),
  some (.iadd, 1), some (.iaload, 1), some (.aload 0, 1), some (.iload 3, 1), some (.iconst 3, 1), some (.iadd, 1), some (.iaload, 1), some (.aload 0, 1),
  some (.iload 3, 1), some (.iconst 4, 1), some (.iadd, 1), some (.iaload, 1), some (.aload 0, 1), some (.iload 3, 1), some (.iconst 5, 1), some (.iadd, 1),
  some (.iaload, 1), some (.aload 0, 1), some (.iload 3, 1), some (.iconst 6, 2), none, some (.iadd, 1), some (.iaload, 1), some (.invokevirtual 110, 3),
  none, none, some (.aload 2, 1), some (.aload 0, 1), some (.iload 3, 1), some (.iconst 1, 1), some (.iadd, 1), some (.iaload, 1),
  some (.aload 0, 1), some (.iload 3, 1), some (.iconst 2, 1), some (.iadd, 1), some (.iaload, 1), some (.aload 0, 1), some (.iload 3, 1), some (.iconst 3, 1),
  some (.iadd, 1), some (.iaload, 1), some (.aload 0, 1), some (.iload 3, 1), some (.iconst 4, 1), some (.iadd, 1), some (.iaload, 1), some (.aload 0, 1),
  some (.iload 3, 1), some (.iconst 5, 1), some (.iadd, 1), some (.iaload, 1), some (.aload 0, 1), some (.iload 3, 1), some (.iconst 6, 2), none,
  some (.iadd, 1), some (.iaload, 1), some (.invokevirtual 236, 3), none, none, some (.if_icmp .eq 1042, 3), none, none,
  some (.iconst 0, 1), some (.ireturn, 1), some (.aload 1, 1), some (.aload 0, 1), some (.iload 3, 1), some (.iconst 1, 1), some (.iadd, 1), some (.iaload, 1),
  some (.aload 0, 1), some (.iload 3, 1), some (.iconst 2, 1), some (.iadd, 1), some (.iaload, 1), some (.aload 0, 1), some (.iload 3, 1), some (.iconst 3, 1),
  some (.iadd, 1), some (.iaload, 1), some (.invokevirtual 111, 3), none, none, some (.aload 2, 1), some (.aload 0, 1), some (.iload 3, 1),
  some (.iconst 1, 1), some (.iadd, 1), some (.iaload, 1), some (.aload 0, 1), some (.iload 3, 1), some (.iconst 2, 1), some (.iadd, 1), some (.iaload, 1),
  some (.aload 0, 1), some (.iload 3, 1), some (.iconst 3, 1), some (.iadd, 1), some (.iaload, 1), some (.invokevirtual 237, 3), none, none,
  some (.if_icmp .eq 1042, 3), none, none, some (.iconst 0, 1), some (.ireturn, 1), some (.aload 1, 1), some (.aload 0, 1), some (.iload 3, 1),
  some (.iconst 1, 1), some (.iadd, 1), some (.iaload, 1), some (.invokevirtual 112, 3), none, none, some (.aload 2, 1), some (.aload 0, 1),
  some (.iload 3, 1), some (.iconst 1, 1)]
def xg258_7 : List (Option (Instr × Nat)) := [some (.iadd, 1), some (.iaload, 1), some (.invokevirtual 238, 3), none, none, some (.if_icmp .eq 1042, 3), none, none,
  some (.iconst 0, 1), some (.ireturn, 1), some (.aload 1, 1), some (.aload 0, 1), some (.iload 3, 1), some (.iconst 1, 1), some (.iadd, 1), some (.iaload, 1),
  some (.aload 0, 1), some (.iload 3, 1), some (.iconst 2, 1), some (.iadd, 1), some (.iaload, 1), some (.aload 0, 1), some (.iload 3, 1), some (.iconst 3, 1),
  some (.iadd, 1), some (.iaload, 1), some (.aload 0, 1), some (.iload 3, 1), some (.iconst 4, 1), some (.iadd, 1), some (.iaload, 1), some (.invokevirtual 113, 3),
  none, none, some (.aload 2, 1), some (.aload 0, 1), some (.iload 3, 1), some (.iconst 1, 1), some (.iadd, 1), some (.iaload, 1),
  some (.aload 0, 1), some (.iload 3, 1), some (.iconst 2, 1), some (.iadd, 1), some (.iaload, 1), some (.aload 0, 1), some (.iload 3, 1), some (.iconst 3, 1),
  some (.iadd, 1), some (.iaload, 1), some (.aload 0, 1), some (.iload 3, 1), some (.iconst 4, 1), some (.iadd, 1), some (.iaload, 1), some (.invokevirtual 240, 3),
  none, none, some (.if_icmp .eq 1042, 3), none, none, some (.iconst 0, 1), some (.ireturn, 1), some (.aload 1, 1),
  some (.aload 0, 1), some (.iload 3, 1), some (.iconst 1, 1), some (.iadd, 1), some (.iaload, 1), some (.invokevirtual 114, 3), none, none,
  some (.aload 2, 1), some (.aload 0, 1), some (.iload 3, 1), some (.iconst 1, 1), some (.iadd, 1), some (.iaload, 1), some (.invokevirtual 241, 3), none,
  none, some (.if_icmp .eq 1042, 3), none, none, some (.iconst 0, 1), some (.ireturn, 1), some (.aload 1, 1), some (.aload 0, 1),
  some (.iload 3, 1), some (.iconst 1, 1), some (.iadd, 1), some (.iaload, 1), some (.invokevirtual 115, 3), none, none, some (.aload 2, 1),
  some (.aload 0, 1), some (.iload 3, 1), some (.iconst 1, 1), some (.iadd, 1), some (.iaload, 1), some (.invokevirtual 242, 3), none, none,
  some (.if_icmp .eq 1042, 3), none, none, some (.iconst 0, 1), some (.ireturn, 1), some (.aload 1, 1), some (.aload 0, 1), some (.iload 3, 1),
  some (.iconst 1, 1), some (.iadd, 1), some (.iaload, 1), some (.invokevirtual 116, 3), none, none, some (.aload 2, 1), some (.aload 0, 1),
  some (.iload 3, 1), some (.iconst 1, 1), some (.iadd, 1), some (.iaload, 1), some (.invokevirtual 243, 3), none, none, some (.if_icmp .eq 1042, 3),
  none, none]
def xg258_8 : List (Option (Instr × Nat)) := [some (.iconst 0, 1), some (.ireturn, 1), some (.iinc 3 7, 3), none, none, some (.goto 18, 3), none, none,
  some (.iconst 1, 1), some (.ireturn, 1)]
def xg258 : List (Option (Instr × Nat)) := xg258_0 ++ (xg258_1 ++ (xg258_2 ++ (xg258_3 ++ (xg258_4 ++ (xg258_5 ++ (xg258_6 ++ (xg258_7 ++ (xg258_8))))))))
def xgL : List (List (Option (Instr × Nat))) := [xg0, xg1, xg2, xg3, xg4, xg5, xg6, xg7, xg8, xg9, xg10, xg11, xg12, xg13, xg14, xg15, xg16, xg17, xg18, xg19,
  xg20, xg21, xg22, xg23, xg24, xg25, xg26, xg27, xg28, xg29, xg30, xg31, xg32, xg33, xg34, xg35, xg36, xg37, xg38, xg39,
  xg40, xg41, xg42, xg43, xg44, xg45, xg46, xg47, xg48, xg49, xg50, xg51, xg52, xg53, xg54, xg55, xg56, xg57, xg58, xg59,
  xg60, xg61, xg62, xg63, xg64, xg65, xg66, xg67, xg68, xg69, xg70, xg71, xg72, xg73, xg74, xg75, xg76, xg77, xg78, xg79,
  xg80, xg81, xg82, xg83, xg84, xg85, xg86, xg87, xg88, xg89, xg90, xg91, xg92, xg93, xg94, xg95, xg96, xg97, xg98, xg99,
  xg100, xg101, xg102, xg103, xg104, xg105, xg106, xg107, xg108, xg109, xg110, xg111, xg112, xg113, xg114, xg115, xg116, xg117, xg118, xg119,
  xg120, xg121, xg122, xg123, xg124, xg125, xg126, xg127, xg128, xg129, xg130, xg131, xg132, xg133, xg134, xg135, xg136, xg137, xg138, xg139,
  xg140, xg141, xg142, xg143, xg144, xg145, xg146, xg147, xg148, xg149, xg150, xg151, xg152, xg153, xg154, xg155, xg156, xg157, xg158, xg159,
  xg160, xg161, xg162, xg163, xg164, xg165, xg166, xg167, xg168, xg169, xg170, xg171, xg172, xg173, xg174, xg175, xg176, xg177, xg178, xg179,
  xg180, xg181, xg182, xg183, xg184, xg185, xg186, xg187, xg188, xg189, xg190, xg191, xg192, xg193, xg194, xg195, xg196, xg197, xg198, xg199,
  xg200, xg201, xg202, xg203, xg204, xg205, xg206, xg207, xg208, xg209, xg210, xg211, xg212, xg213, xg214, xg215, xg216, xg217, xg218, xg219,
  xg220, xg221, xg222, xg223, xg224, xg225, xg226, xg227, xg228, xg229, xg230, xg231, xg232, xg233, xg234, xg235, xg236, xg237, xg238, xg239,
  xg240, xg241, xg242, xg243, xg244, xg245, xg246, xg247, xg248, xg249, xg250, xg251, xg252, xg253, xg254, xg255, xg256, xg257, xg258]
def xG (j pc : Nat) : Option (Instr × Nat) := ((xgL.getD j [])[pc]?).getD none
def xstr : List (Nat × String × Nat × String) := [(0, "OneBoots$Lane", 70, "lane brother wet frost want sole boots"),
  (2, "OneBoots$RuleReader", 44, "walk"),
  (4, "OneBoots$RuleReader", 107, "brother place home size hour day goal pay until wet frost boots chill others lying"),
  (6, "OneBoots$RuleReader", 61, "if"),
  (8, "OneBoots$RuleReader", 82, "not"),
  (10, "OneBoots$RuleReader", 76, "and or")]
def xlens : List Nat := [38, 4, 82, 2, 3, 6]
def xbyt : List (List Int32) := [[108, 97, 110, 101, 32, 98, 114, 111, 116, 104, 101, 114, 32, 119, 101, 116, 32, 102, 114, 111, 115, 116, 32, 119, 97, 110, 116, 32, 115, 111, 108, 101, 32, 98, 111, 111, 116, 115],
  [119, 97, 108, 107],
  [98, 114, 111, 116, 104, 101, 114, 32, 112, 108, 97, 99, 101, 32, 104, 111, 109, 101, 32, 115, 105, 122, 101, 32, 104, 111, 117, 114, 32, 100, 97, 121, 32, 103, 111, 97, 108, 32, 112, 97, 121, 32, 117, 110, 116, 105, 108, 32, 119, 101, 116, 32, 102, 114, 111, 115, 116, 32, 98, 111, 111, 116, 115, 32, 99, 104, 105, 108, 108, 32, 111, 116, 104, 101, 114, 115, 32, 108, 121, 105, 110, 103],
  [105, 102],
  [110, 111, 116],
  [97, 110, 100, 32, 111, 114]]
def xgt : List Cond := lw_tbl.filter goodWord
def xnst : List Cond := [.methodLinkNest "OneBoots" 9 ⟨"OneBoots$Tape", "<init>", "()V"⟩ "OneBoots", .methodLinkNest "OneBoots" 18 ⟨"OneBoots$RuleReader", "<init>", "()V"⟩ "OneBoots",
  .methodLinkNest "OneBoots" 37 ⟨"OneBoots$World", "<init>", "()V"⟩ "OneBoots", .methodLinkNest "OneBoots" 44 ⟨"OneBoots$Past", "<init>", "()V"⟩ "OneBoots",
  .methodLinkNest "OneBoots" 51 ⟨"OneBoots$Prints", "<init>", "()V"⟩ "OneBoots", .methodLinkNest "OneBoots" 58 ⟨"OneBoots$Hours", "<init>", "()V"⟩ "OneBoots",
  .methodLinkNest "OneBoots$Hours" 22 ⟨"OneBoots$Lane", "<init>", "()V"⟩ "OneBoots", .methodLinkNest "OneBoots" 65 ⟨"OneBoots$Trials", "<init>", "()V"⟩ "OneBoots",
  .methodLinkNest "OneBoots$Trials" 11 ⟨"OneBoots$World", "<init>", "()V"⟩ "OneBoots", .methodLinkNest "OneBoots$Relays" 35 ⟨"OneBoots$World", "<init>", "()V"⟩ "OneBoots",
  .methodLinkNest "OneBoots" 86 ⟨"OneBoots$Lane", "<init>", "()V"⟩ "OneBoots", .methodLinkNest "OneBoots" 276 ⟨"OneBoots$Image", "<init>", "()V"⟩ "OneBoots",
  .methodLinkNest "OneBoots$Image" 11 ⟨"OneBoots$Lane", "<init>", "()V"⟩ "OneBoots", .methodLinkNest "OneBoots$Image" 20 ⟨"OneBoots$World", "<init>", "()V"⟩ "OneBoots",
  .methodLinkNest "OneBoots$Image" 27 ⟨"OneBoots$Prints", "<init>", "()V"⟩ "OneBoots", .castable "[I" "java/lang/Cloneable"]
