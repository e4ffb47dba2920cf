/-! names of classes, fields and methods; the words of each link, by their places in lw_tbl -/
def cnm (c : Nat) : String := ["TypedBlocks$Checker", "TypedBlocks$Machine", "TypedBlocks$Program", "TypedBlocks$Shelf", "TypedBlocks$Text", "TypedBlocks", "TypedBlocksModel", "TypedBlocksLaw", "java/lang/Integer"].getD c ""
def TX0 : u_T := fun k => match k with
  | 0 => ("TypedBlocks$Checker", "program", "LTypedBlocks$Program;", false)
  | 1 => ("TypedBlocks$Checker", "registers", "[I", true)
  | 2 => ("TypedBlocks$Checker", "stack", "[I", true)
  | 3 => ("TypedBlocks$Checker", "allFields", "[I", true)
  | 4 => ("TypedBlocks$Checker", "standsFor", "[Z", true)
  | 5 => ("TypedBlocks$Checker", "open", "I", false)
  | 6 => ("TypedBlocks$Checker", "ended", "Z", false)
  | 7 => ("TypedBlocks$Checker", "height", "I", false)
  | 8 => ("TypedBlocks$Checker", "place", "I", false)
  | _ => ("TypedBlocks$Checker", "refusal", "I", false)
def TX1 : u_T := fun k => match k with
  | 0 => ("TypedBlocks$Machine", "program", "LTypedBlocks$Program;", false)
  | 1 => ("TypedBlocks$Machine", "registers", "[I", true)
  | 2 => ("TypedBlocks$Machine", "stack", "[I", true)
  | 3 => ("TypedBlocks$Machine", "sortOf", "[I", true)
  | 4 => ("TypedBlocks$Machine", "fields", "[I", true)
  | 5 => ("TypedBlocks$Machine", "height", "I", false)
  | 6 => ("TypedBlocks$Machine", "tuples", "I", false)
  | 7 => ("TypedBlocks$Machine", "block", "I", false)
  | 8 => ("TypedBlocks$Machine", "place", "I", false)
  | 9 => ("TypedBlocks$Machine", "steps", "I", false)
  | _ => ("TypedBlocks$Machine", "how", "I", false)
def TX2 : u_T := fun k => match k with
  | _ => ("TypedBlocks$Program", "cells", "[I", true)
def TX3 : u_T := fun k => match k with
  | 0 => ("TypedBlocks$Shelf", "rows", "[[I", true)
  | 1 => ("TypedBlocks$Shelf", "next", "I", false)
  | _ => ("TypedBlocks$Shelf", "held", "I", false)
def TX4 : u_T := fun k => match k with
  | 0 => ("TypedBlocks$Text", "told", "LTypedBlocks$Program;", true)
  | 1 => ("TypedBlocks$Text", "letters", "[I", true)
  | 2 => ("TypedBlocks$Text", "length", "I", false)
  | _ => ("TypedBlocks$Text", "at", "I", false)
def TX5 : u_T := fun k => match k with
  | 0 => ("TypedBlocks", "text", "LTypedBlocks$Text;", true)
  | 1 => ("TypedBlocks", "now", "LTypedBlocks$Program;", true)
  | 2 => ("TypedBlocks", "trial", "LTypedBlocks$Program;", true)
  | 3 => ("TypedBlocks", "checker", "LTypedBlocks$Checker;", true)
  | 4 => ("TypedBlocks", "machine", "LTypedBlocks$Machine;", true)
  | 5 => ("TypedBlocks", "undoable", "LTypedBlocks$Shelf;", true)
  | _ => ("TypedBlocks", "kept", "LTypedBlocks$Shelf;", true)
def TX6 : u_T := fun k => match k with
  | 0 => ("TypedBlocksModel", "sorts", "I", false)
  | 1 => ("TypedBlocksModel", "fields", "[I", true)
  | 2 => ("TypedBlocksModel", "field", "[I", true)
  | 3 => ("TypedBlocksModel", "labels", "I", false)
  | 4 => ("TypedBlocksModel", "high", "[I", true)
  | 5 => ("TypedBlocksModel", "stack", "[I", true)
  | 6 => ("TypedBlocksModel", "newSorts", "I", false)
  | 7 => ("TypedBlocksModel", "newFields", "[I", true)
  | 8 => ("TypedBlocksModel", "newField", "[I", true)
  | 9 => ("TypedBlocksModel", "newLabels", "I", false)
  | 10 => ("TypedBlocksModel", "newHigh", "[I", true)
  | 11 => ("TypedBlocksModel", "newStack", "[I", true)
  | 12 => ("TypedBlocksModel", "newSlot", "[I", true)
  | 13 => ("TypedBlocksModel", "meant", "I", false)
  | 14 => ("TypedBlocksModel", "slot", "[I", true)
  | 15 => ("TypedBlocksModel", "acts", "I", false)
  | 16 => ("TypedBlocksModel", "kept", "I", false)
  | 17 => ("TypedBlocksModel", "length", "I", false)
  | 18 => ("TypedBlocksModel", "text", "[B", true)
  | 19 => ("TypedBlocksModel", "next", "I", false)
  | 20 => ("TypedBlocksModel", "place", "I", false)
  | 21 => ("TypedBlocksModel", "isWrong", "Z", false)
  | 22 => ("TypedBlocksModel", "register", "[I", true)
  | 23 => ("TypedBlocksModel", "pile", "[I", true)
  | 24 => ("TypedBlocksModel", "piled", "I", false)
  | 25 => ("TypedBlocksModel", "isBelow", "Z", false)
  | 26 => ("TypedBlocksModel", "refusedAt", "I", false)
  | 27 => ("TypedBlocksModel", "reason", "I", false)
  | 28 => ("TypedBlocksModel", "holds", "[I", true)
  | 29 => ("TypedBlocksModel", "heap", "[I", true)
  | 30 => ("TypedBlocksModel", "sortAt", "[I", true)
  | 31 => ("TypedBlocksModel", "things", "[I", true)
  | 32 => ("TypedBlocksModel", "height", "I", false)
  | 33 => ("TypedBlocksModel", "tuples", "I", false)
  | 34 => ("TypedBlocksModel", "pc", "I", false)
  | 35 => ("TypedBlocksModel", "at", "I", false)
  | _ => ("TypedBlocksModel", "how", "I", false)
def TXs (c : Nat) : u_T := [TX0, TX1, TX2, TX3, TX4, TX5, TX6].getD c TX0
abbrev vwCl : List vw_C := [("TypedBlocks$Checker", TX0, 10), ("TypedBlocks$Machine", TX1, 11), ("TypedBlocks$Program", TX2, 1), ("TypedBlocks$Shelf", TX3, 3), ("TypedBlocks$Text", TX4, 4), ("TypedBlocks", TX5, 7), ("TypedBlocksModel", TX6, 37)]
def mnmL : List MethodName := [⟨"TypedBlocks$Checker", "<init>", "()V"⟩, ⟨"TypedBlocks$Checker", "take", "(LTypedBlocks$Program;)V"⟩, ⟨"TypedBlocks$Checker", "wantsSuffice", "(II)Z"⟩, ⟨"TypedBlocks$Checker", "isPlainlyEnough", "(II)Z"⟩, ⟨"TypedBlocks$Checker", "heightSuffices", "(IIII)Z"⟩, ⟨"TypedBlocks$Checker", "isEnough", "(II)Z"⟩, ⟨"TypedBlocks$Checker", "isCode", "(I)Z"⟩, ⟨"TypedBlocks$Checker", "register", "(I)I"⟩, ⟨"TypedBlocks$Checker", "setRegister", "(II)V"⟩, ⟨"TypedBlocks$Checker", "fromTop", "(I)I"⟩, ⟨"TypedBlocks$Checker", "begin", "(I)V"⟩, ⟨"TypedBlocks$Checker", "passes", "(II)Z"⟩, ⟨"TypedBlocks$Checker", "isSure", "(I)Z"⟩, ⟨"TypedBlocks$Checker", "sureBits", "()I"⟩, ⟨"TypedBlocks$Checker", "joinBits", "(I)I"⟩, ⟨"TypedBlocks$Checker", "step", "(II)I"⟩, ⟨"TypedBlocks$Checker", "jump", "(I)I"⟩, ⟨"TypedBlocks$Checker", "setField", "(III)I"⟩, ⟨"TypedBlocks$Checker", "getField", "(III)I"⟩, ⟨"TypedBlocks$Checker", "push", "(I)Z"⟩, ⟨"TypedBlocks$Checker", "pop", "(I)I"⟩, ⟨"TypedBlocks$Checker", "isTuple", "(I)Z"⟩, ⟨"TypedBlocks$Checker", "sortOf", "(I)I"⟩, ⟨"TypedBlocks$Checker", "fieldsOf", "(I)I"⟩, ⟨"TypedBlocks$Checker", "fieldsSet", "(I)I"⟩, ⟨"TypedBlocks$Checker", "tuple", "(II)I"⟩, ⟨"TypedBlocks$Machine", "<init>", "()V"⟩, ⟨"TypedBlocks$Machine", "begin", "(LTypedBlocks$Program;I)V"⟩, ⟨"TypedBlocks$Machine", "makeFirstTuples", "(I)V"⟩, ⟨"TypedBlocks$Machine", "firstThing", "(II)I"⟩, ⟨"TypedBlocks$Machine", "goOn", "(I)V"⟩, ⟨"TypedBlocks$Machine", "goTo", "(I)V"⟩, ⟨"TypedBlocks$Machine", "register", "(I)I"⟩, ⟨"TypedBlocks$Machine", "isWord", "(I)Z"⟩, ⟨"TypedBlocks$Machine", "isLabel", "(I)Z"⟩, ⟨"TypedBlocks$Machine", "step", "()I"⟩, ⟨"TypedBlocks$Machine", "leave", "(III)I"⟩, ⟨"TypedBlocks$Machine", "goOnAt", "(I)I"⟩, ⟨"TypedBlocks$Machine", "goOnBehind", "()I"⟩, ⟨"TypedBlocks$Machine", "goOnWith", "(II)I"⟩, ⟨"TypedBlocks$Machine", "sum", "(II)I"⟩, ⟨"TypedBlocks$Machine", "makeTuple", "(II)I"⟩, ⟨"TypedBlocks$Machine", "fieldAt", "(II)I"⟩, ⟨"TypedBlocks$Machine", "setField", "(III)I"⟩, ⟨"TypedBlocks$Machine", "getField", "(III)I"⟩, ⟨"TypedBlocks$Machine", "push", "(I)Z"⟩, ⟨"TypedBlocks$Machine", "pop", "(I)I"⟩, ⟨"TypedBlocks$Program", "<init>", "()V"⟩, ⟨"TypedBlocks$Program", "cell", "(I)I"⟩, ⟨"TypedBlocks$Program", "setCell", "(II)V"⟩, ⟨"TypedBlocks$Program", "copyFrom", "([I)V"⟩, ⟨"TypedBlocks$Program", "empty", "()V"⟩, ⟨"TypedBlocks$Program", "sorts", "()I"⟩, ⟨"TypedBlocks$Program", "labels", "()I"⟩, ⟨"TypedBlocks$Program", "allLabels", "()I"⟩, ⟨"TypedBlocks$Program", "hasSort", "(I)Z"⟩, ⟨"TypedBlocks$Program", "hasLabel", "(I)Z"⟩, ⟨"TypedBlocks$Program", "hasInstruction", "(II)Z"⟩, ⟨"TypedBlocks$Program", "hasType", "(I)Z"⟩, ⟨"TypedBlocks$Program", "fields", "(I)I"⟩, ⟨"TypedBlocks$Program", "fieldType", "(II)I"⟩, ⟨"TypedBlocks$Program", "addSort", "()V"⟩, ⟨"TypedBlocks$Program", "addField", "(II)V"⟩, ⟨"TypedBlocks$Program", "addLabel", "()V"⟩, ⟨"TypedBlocks$Program", "labelCell", "(II)I"⟩, ⟨"TypedBlocks$Program", "setLabelCell", "(III)V"⟩, ⟨"TypedBlocks$Program", "wanted", "(II)I"⟩, ⟨"TypedBlocks$Program", "setWanted", "(III)V"⟩, ⟨"TypedBlocks$Program", "wantedHeight", "(I)I"⟩, ⟨"TypedBlocks$Program", "wantedFromTop", "(II)I"⟩, ⟨"TypedBlocks$Program", "addWantedBelow", "(II)V"⟩, ⟨"TypedBlocks$Program", "openBelow", "(I)I"⟩, ⟨"TypedBlocks$Program", "setOpenBelow", "(II)V"⟩, ⟨"TypedBlocks$Program", "size", "(I)I"⟩, ⟨"TypedBlocks$Program", "part", "(III)I"⟩, ⟨"TypedBlocks$Program", "setInstruction", "(IIIIII)V"⟩, ⟨"TypedBlocks$Program", "makeRoom", "(II)V"⟩, ⟨"TypedBlocks$Program", "takeOut", "(II)V"⟩, ⟨"TypedBlocks$Program", "instructions", "()I"⟩, ⟨"TypedBlocks$Program", "allows", "(IIII)Z"⟩, ⟨"TypedBlocks$Program", "mayBeTold", "(IIIIII)Z"⟩, ⟨"TypedBlocks$Program", "choices", "(III)I"⟩, ⟨"TypedBlocks$Program", "isTarget", "(II)Z"⟩, ⟨"TypedBlocks$Program", "targets", "(I)I"⟩, ⟨"TypedBlocks$Program", "wantedCode", "(I)I"⟩, ⟨"TypedBlocks$Program", "codeBit", "(I)I"⟩, ⟨"TypedBlocks$Shelf", "<init>", "(I)V"⟩, ⟨"TypedBlocks$Shelf", "clear", "()V"⟩, ⟨"TypedBlocks$Shelf", "hold", "([I)V"⟩, ⟨"TypedBlocks$Shelf", "giveBack", "(LTypedBlocks$Program;)V"⟩, ⟨"TypedBlocks$Text", "<init>", "()V"⟩, ⟨"TypedBlocks$Text", "append", "(I)Z"⟩, ⟨"TypedBlocks$Text", "readAll", "()I"⟩, ⟨"TypedBlocks$Text", "isClosed", "()Z"⟩, ⟨"TypedBlocks$Text", "readItem", "()Z"⟩, ⟨"TypedBlocks$Text", "readSort", "()Z"⟩, ⟨"TypedBlocks$Text", "readLabel", "()Z"⟩, ⟨"TypedBlocks$Text", "readInstruction", "()Z"⟩, ⟨"TypedBlocks$Text", "isTold", "(I)Z"⟩, ⟨"TypedBlocks$Text", "peek", "()I"⟩, ⟨"TypedBlocks$Text", "isFigure", "(I)Z"⟩, ⟨"TypedBlocks$Text", "readFigure", "()I"⟩, ⟨"TypedBlocks$Text", "readNumber", "()I"⟩, ⟨"TypedBlocks$Text", "passes", "(I)Z"⟩, ⟨"TypedBlocks", "<init>", "()V"⟩, ⟨"TypedBlocks", "write", "(I)I"⟩, ⟨"TypedBlocks", "wipe", "()I"⟩, ⟨"TypedBlocks", "fault", "()I"⟩, ⟨"TypedBlocks", "lay", "()I"⟩, ⟨"TypedBlocks", "sort", "(II)I"⟩, ⟨"TypedBlocks", "label", "(II)I"⟩, ⟨"TypedBlocks", "code", "(III)I"⟩, ⟨"TypedBlocks", "put", "(IIIIII)I"⟩, ⟨"TypedBlocks", "add", "(IIIIII)I"⟩, ⟨"TypedBlocks", "cut", "(II)I"⟩, ⟨"TypedBlocks", "want", "(III)I"⟩, ⟨"TypedBlocks", "below", "(II)I"⟩, ⟨"TypedBlocks", "undo", "()I"⟩, ⟨"TypedBlocks", "check", "(I)I"⟩, ⟨"TypedBlocks", "reason", "(I)I"⟩, ⟨"TypedBlocks", "ahead", "(III)I"⟩, ⟨"TypedBlocks", "sure", "()I"⟩, ⟨"TypedBlocks", "joins", "(I)I"⟩, ⟨"TypedBlocks", "might", "(II)I"⟩, ⟨"TypedBlocks", "reached", "()I"⟩, ⟨"TypedBlocks", "mends", "(II)I"⟩, ⟨"TypedBlocks", "mendsBy", "(III)Z"⟩, ⟨"TypedBlocks", "run", "(III)I"⟩, ⟨"TypedBlocks", "day", "(III)I"⟩, ⟨"TypedBlocks", "drawn", "(II)I"⟩, ⟨"TypedBlocks", "change", "(I)V"⟩, ⟨"TypedBlocks", "keep", "()I"⟩, ⟨"TypedBlocks", "back", "()I"⟩, ⟨"TypedBlocks", "count", "(I)I"⟩, ⟨"TypedBlocksModel", "<init>", "()V"⟩, ⟨"TypedBlocksModel", "in", "(JJJ)Z"⟩, ⟨"TypedBlocksModel", "has", "(II)Z"⟩, ⟨"TypedBlocksModel", "bits", "(I)I"⟩, ⟨"TypedBlocksModel", "begins", "()V"⟩, ⟨"TypedBlocksModel", "tellsSort", "(II)V"⟩, ⟨"TypedBlocksModel", "tellsLabel", "(III)V"⟩, ⟨"TypedBlocksModel", "tells", "(IIII)V"⟩, ⟨"TypedBlocksModel", "settles", "()V"⟩, ⟨"TypedBlocksModel", "write", "(I)I"⟩, ⟨"TypedBlocksModel", "wipe", "()I"⟩, ⟨"TypedBlocksModel", "letterAt", "(I)I"⟩, ⟨"TypedBlocksModel", "number", "(II)I"⟩, ⟨"TypedBlocksModel", "comma", "()V"⟩, ⟨"TypedBlocksModel", "isFigure", "()Z"⟩, ⟨"TypedBlocksModel", "type", "()I"⟩, ⟨"TypedBlocksModel", "sortItem", "()V"⟩, ⟨"TypedBlocksModel", "labelItem", "()V"⟩, ⟨"TypedBlocksModel", "codeItem", "()V"⟩, ⟨"TypedBlocksModel", "labelsIn", "(III)I"⟩, ⟨"TypedBlocksModel", "mayBe", "(IIIIII)Z"⟩, ⟨"TypedBlocksModel", "reads", "()V"⟩, ⟨"TypedBlocksModel", "fault", "()I"⟩, ⟨"TypedBlocksModel", "lay", "()I"⟩, ⟨"TypedBlocksModel", "isLabel", "(I)Z"⟩, ⟨"TypedBlocksModel", "spot", "(III)I"⟩, ⟨"TypedBlocksModel", "many", "(II)I"⟩, ⟨"TypedBlocksModel", "isCode", "(II)Z"⟩, ⟨"TypedBlocksModel", "isType", "(I)Z"⟩, ⟨"TypedBlocksModel", "sort", "(II)I"⟩, ⟨"TypedBlocksModel", "label", "(II)I"⟩, ⟨"TypedBlocksModel", "code", "(III)I"⟩, ⟨"TypedBlocksModel", "copies", "(II)V"⟩, ⟨"TypedBlocksModel", "known", "()V"⟩, ⟨"TypedBlocksModel", "writes", "(IIIIIII)V"⟩, ⟨"TypedBlocksModel", "put", "(IIIIII)I"⟩, ⟨"TypedBlocksModel", "add", "(IIIIII)I"⟩, ⟨"TypedBlocksModel", "cut", "(II)I"⟩, ⟨"TypedBlocksModel", "want", "(III)I"⟩, ⟨"TypedBlocksModel", "below", "(II)I"⟩, ⟨"TypedBlocksModel", "undo", "()I"⟩, ⟨"TypedBlocksModel", "joinsFlat", "(III)Z"⟩, ⟨"TypedBlocksModel", "isEnough", "(III)Z"⟩, ⟨"TypedBlocksModel", "stands", "(II)V"⟩, ⟨"TypedBlocksModel", "areEnough", "(II)Z"⟩, ⟨"TypedBlocksModel", "isStackEnough", "(II)Z"⟩, ⟨"TypedBlocksModel", "jumps", "(II)I"⟩, ⟨"TypedBlocksModel", "isTuple", "(I)Z"⟩, ⟨"TypedBlocksModel", "sortOf", "(I)I"⟩, ⟨"TypedBlocksModel", "setOf", "(I)I"⟩, ⟨"TypedBlocksModel", "puts", "(IIII)I"⟩, ⟨"TypedBlocksModel", "gets", "(III)I"⟩, ⟨"TypedBlocksModel", "pushes", "(I)I"⟩, ⟨"TypedBlocksModel", "pops", "(I)I"⟩, ⟨"TypedBlocksModel", "moves", "(II)I"⟩, ⟨"TypedBlocksModel", "goes", "(II)I"⟩, ⟨"TypedBlocksModel", "ends", "(I)Z"⟩, ⟨"TypedBlocksModel", "checks", "(III)V"⟩, ⟨"TypedBlocksModel", "isSure", "(II)Z"⟩, ⟨"TypedBlocksModel", "check", "(I)I"⟩, ⟨"TypedBlocksModel", "reason", "(I)I"⟩, ⟨"TypedBlocksModel", "ahead", "(III)I"⟩, ⟨"TypedBlocksModel", "sureOnes", "(I)I"⟩, ⟨"TypedBlocksModel", "sure", "()I"⟩, ⟨"TypedBlocksModel", "joins", "(I)I"⟩, ⟨"TypedBlocksModel", "might", "(II)I"⟩, ⟨"TypedBlocksModel", "reached", "()I"⟩, ⟨"TypedBlocksModel", "mends", "(II)I"⟩, ⟨"TypedBlocksModel", "begun", "(II)I"⟩, ⟨"TypedBlocksModel", "starts", "(I)V"⟩, ⟨"TypedBlocksModel", "isWord", "(I)Z"⟩, ⟨"TypedBlocksModel", "isHeap", "(I)Z"⟩, ⟨"TypedBlocksModel", "goesTo", "(I)V"⟩, ⟨"TypedBlocksModel", "lands", "(II)V"⟩, ⟨"TypedBlocksModel", "makes", "(II)V"⟩, ⟨"TypedBlocksModel", "stores", "(III)V"⟩, ⟨"TypedBlocksModel", "loads", "(III)V"⟩, ⟨"TypedBlocksModel", "piles", "(I)V"⟩, ⟨"TypedBlocksModel", "unpiles", "(I)V"⟩, ⟨"TypedBlocksModel", "adds", "(II)V"⟩, ⟨"TypedBlocksModel", "parts", "(II)V"⟩, ⟨"TypedBlocksModel", "backs", "(I)V"⟩, ⟨"TypedBlocksModel", "step", "()V"⟩, ⟨"TypedBlocksModel", "run", "(III)I"⟩, ⟨"TypedBlocksModel", "day", "(III)I"⟩, ⟨"TypedBlocksModel", "keep", "()I"⟩, ⟨"TypedBlocksModel", "back", "()I"⟩, ⟨"TypedBlocksModel", "count", "(I)I"⟩, ⟨"java/lang/Integer", "bitCount", "(I)I"⟩, ⟨"TypedBlocksLaw", "law", "([I)Z"⟩]
def mname (t : Nat) : MethodName := mnmL.getD t ⟨"", "", ""⟩
def mret (t : Nat) : Option FieldType := if mans t = 1 then some .int else if mans t = 2 then some .boolean else none
def yStrLen : MethodName := ⟨"java/lang/String", "length", "()I"⟩
def yStrAt : MethodName := ⟨"java/lang/String", "charAt", "(I)C"⟩
def invW (c k way t : Nat) : List Cond := match way with
  | 0 => [.methodLink (cnm c) k (mname t), .instanceMethod (mname t), .selects (cnm (mown t)) (mname t) (mname t)]
  | 1 => [.methodLink (cnm c) k (mname t), .instanceMethod (mname t)]
  | 2 => [.methodLink (cnm c) k (mname t), .static (mname t)]
  | 3 => [.instanceMethod (mname t)]
  | 4 => [.methodLink (cnm c) k objectInit, .instanceMethod objectInit, .code objectInit ⟨#[0xb1]⟩ 1 none]
  | 5 => [.methodLink (cnm c) k arraycopyName, .native arraycopyName, .static arraycopyName, .initialized "java/lang/System"]
  | 6 => [.methodLink (cnm c) k yStrLen, .instanceMethod yStrLen, .selects "java/lang/String" yStrLen yStrLen, .initialized "java/lang/String"]
  | 7 => [.methodLink (cnm c) k yStrAt, .instanceMethod yStrAt, .selects "java/lang/String" yStrAt yStrAt, .initialized "java/lang/String"]
  | _ => []
def linvP : List (List (Nat × List Nat)) := [[(3, [149, 107, 108]), (11, [118]), (32, [617, 619, 9]), (36, [631, 353, 354]), (40, [621, 390, 391]), (43, [622, 596, 597]), (46, [623, 624]), (50, [626, 501, 502]), (54, [627, 628]), (57, [630, 508, 509]), (60, [685, 686]), (68, [645, 647, 11]), (84, [641, 643, 10]), (88, [649, 651, 12]), (91, [636, 414, 415]), (94, [637, 638, 639]), (97, [727, 365, 366]), (101, [728, 633, 634]), (104, [704, 706, 21]), (107, [653, 431, 432]), (111, [654, 655, 656]), (114, [658, 660, 13]), (118, [662, 664, 14]), (121, [670, 672, 16]), (124, [692, 694, 19]), (127, [696, 698, 20]), (130, [681, 683, 17]), (133, [700, 701, 702]), (136, [674, 675]), (139, [677, 678]), (142, [680, 528, 529]), (145, [688, 690, 18]), (148, [666, 668, 15])],
  [(5, [192, 107, 108]), (13, [118]), (31, [763, 765, 23]), (35, [771, 501, 502]), (39, [768, 769]), (46, [772, 390, 391]), (50, [773, 508, 509]), (53, [774, 776, 24]), (57, [778, 780, 25]), (66, [767, 528, 529]), (78, [786, 546, 547]), (82, [787, 789, 26]), (86, [791, 431, 432]), (90, [792, 793, 794]), (93, [796, 798, 27]), (96, [804, 806, 29]), (99, [811, 813, 30]), (102, [815, 817, 31]), (105, [824, 826, 33]), (108, [800, 802, 28]), (111, [828, 830, 34]), (114, [832, 834, 35]), (117, [836, 838, 36]), (120, [808, 809]), (123, [840, 841]), (126, [823, 353, 354]), (128, [819, 821, 32])],
  [(5, [120, 107, 108]), (15, [443, 445, 444, 98]), (21, [515, 365, 366]), (25, [376, 326, 327]), (28, [549, 536, 537]), (32, [429, 414, 415]), (36, [588, 373, 374]), (39, [340, 341, 342]), (42, [344, 345, 346]), (46, [393, 394, 395]), (50, [381, 382, 383]), (54, [389, 390, 391]), (57, [430, 431, 432]), (61, [434, 435, 436]), (65, [559, 418]), (69, [420, 421]), (75, [493, 494]), (79, [500, 501, 502]), (82, [504, 505]), (85, [507, 508, 509])],
  [(1, [238, 107, 108]), (23, [564, 445, 444, 98]), (29, [608, 440, 441])],
  [(3, [114, 107, 108]), (11, [118]), (29, [309, 310, 311]), (32, [313, 315, 0]), (36, [364, 365, 366]), (40, [489, 490, 491]), (44, [496, 497, 498]), (47, [511, 512, 513]), (50, [317, 319, 1]), (53, [321, 323, 2]), (56, [360, 362, 5]), (59, [409, 411, 8]), (62, [325, 326, 327]), (65, [329, 330]), (69, [332, 334, 3]), (72, [336, 337, 338]), (76, [348, 349, 350]), (79, [352, 353, 354]), (82, [356, 358, 4]), (85, [368, 370, 6]), (88, [377, 378, 379]), (92, [385, 386, 387]), (95, [397, 399, 7]), (98, [401, 402, 403]), (101, [405, 406, 407]), (104, [413, 414, 415]), (107, [417, 418]), (111, [425, 426, 427]), (114, [438, 435, 436]), (118, [372, 373, 374])],
  [(1, [106, 107, 108]), (9, [112]), (18, [118]), (28, [147]), (35, [190]), (42, [235, 236]), (54, [253, 254, 255, 94]), (60, [263, 264, 265, 94]), (64, [301, 302, 303]), (68, [305, 306, 307]), (78, [439, 440, 441]), (85, [485, 486, 487]), (89, [516, 517, 518]), (92, [520, 365, 366]), (95, [525, 373, 374]), (98, [526, 353, 354]), (102, [527, 528, 529]), (106, [535, 536, 537]), (109, [539, 390, 391]), (112, [540, 394, 395]), (115, [545, 546, 547]), (119, [550, 431, 432]), (123, [555, 556, 557]), (127, [560, 561, 562]), (130, [565, 435, 436]), (134, [570, 414, 415]), (137, [571, 426, 427]), (141, [576, 577, 578]), (144, [584, 585, 586]), (147, [589, 501, 502]), (150, [590, 378, 379]), (154, [595, 596, 597]), (157, [599, 402, 403]), (163, [604, 605, 606]), (167, [613, 614, 615]), (170, [632, 633, 634]), (179, [716, 638, 639]), (182, [717, 655, 656]), (188, [718, 701, 702]), (191, [723, 724, 725]), (194, [733, 734, 735]), (197, [741, 512, 513]), (200, [746, 490, 491]), (203, [751, 753, 22]), (207, [759, 760, 761]), (211, [782, 783, 784]), (224, [843, 793, 794]), (225, [844, 809]), (228, [849, 850]), (231, [855, 857, 37]), (234, [861, 862]), (248, [879, 326, 327]), (251, [880, 881, 882])],
  [(1, [889, 107, 108]), (62, [890, 892, 38]), (65, [894, 896, 39]), (69, [898, 900, 40]), (73, [902, 904, 41]), (77, [906, 908, 42]), (106, [1028, 1029]), (116, [1043, 1045, 44]), (130, [1051, 1053, 46]), (136, [1061, 1063, 48]), (140, [1067, 1069, 49]), (143, [1071, 1073, 50]), (147, [1079, 1080]), (151, [1083, 1084]), (160, [1047, 1049, 45]), (163, [1057, 1059, 47]), (166, [1075, 1077, 51]), (169, [1039, 1041, 43]), (172, [1099, 1101, 52]), (176, [1105, 1107, 53]), (187, [1113, 1115, 54]), (193, [1118, 1119]), (196, [1129, 1131, 56]), (199, [1125, 1127, 55]), (202, [1133, 1135, 57]), (206, [1149, 1151, 58]), (209, [1196, 1198, 65]), (219, [1192, 1194, 64]), (222, [1223, 1225, 71]), (225, [1227, 1229, 72]), (228, [1186, 1187]), (231, [1189, 1190]), (234, [1200, 1202, 66]), (237, [1208, 1209]), (240, [1178, 1180, 62]), (243, [1182, 1184, 63]), (247, [1204, 1206, 67]), (250, [1211, 1213, 68]), (253, [1215, 1217, 69]), (256, [1219, 1221, 70]), (259, [1170, 1172, 60]), (268, [1174, 1176, 61]), (271, [1231, 1232]), (274, [1166, 1168, 59]), (279, [1251, 1253, 74]), (282, [1247, 1249, 73]), (285, [1282, 1283]), (307, [1289, 1291, 77]), (310, [1308, 1309]), (313, [1297, 1298]), (316, [1325, 1327, 84]), (320, [1293, 1295, 78]), (323, [1300, 1302, 79]), (326, [1304, 1306, 80]), (329, [1313, 1315, 81]), (332, [1317, 1319, 82]), (335, [1321, 1323, 83]), (338, [1329, 1331, 85]), (341, [1333, 1335, 86]), (350, [1278, 1280, 75]), (353, [1285, 1287, 76]), (366, [1346, 1347])],
  [(9, [103, 104]), (12, [886, 887]), (13, [469, 470, 471]), (17, [1022, 1023, 1024]), (18, [473, 474, 475]), (22, [1031, 1032, 1033]), (23, [477, 478, 479]), (26, [1035, 1036, 1037]), (27, [481, 482, 483]), (30, [1086, 1087, 1088]), (31, [521, 522, 523]), (35, [1090, 1091, 1092]), (36, [531, 532, 533]), (39, [1095, 1096, 1097]), (40, [541, 542, 543]), (44, [1109, 1110, 1111]), (45, [551, 552, 553]), (49, [1121, 1122, 1123]), (50, [566, 567, 568]), (53, [1137, 1138, 1139]), (54, [572, 573, 574]), (57, [1141, 1142, 1143]), (58, [580, 581, 582]), (61, [1145, 1146, 1147]), (62, [591, 592, 593]), (65, [1154, 1155, 1156]), (66, [600, 601, 602]), (69, [1158, 1159, 1160]), (70, [609, 610, 611]), (73, [1162, 1163, 1164]), (74, [708, 709, 710]), (77, [1234, 1235, 1236]), (78, [712, 713, 714]), (81, [1238, 1239, 1240]), (82, [719, 720, 721]), (85, [1243, 1244, 1245]), (86, [729, 730, 731]), (89, [1255, 1256, 1257]), (90, [737, 738, 739]), (93, [1259, 1260, 1261]), (94, [742, 743, 744]), (97, [1263, 1264, 1265]), (98, [747, 748, 749]), (101, [1267, 1268, 1269]), (102, [755, 756, 757]), (105, [1271, 1272, 1273]), (106, [845, 846, 847]), (109, [1337, 1338, 1339]), (110, [867, 868, 869]), (113, [1349, 1350, 1351]), (114, [871, 872, 873]), (117, [1353, 1354, 1355]), (118, [875, 876, 877]), (121, [1357, 1358, 1359])],
  []]
def wAt (ps : List Nat) : List Cond := ps.filterMap (fun i => lw_tbl[i]?)
/-- the words that the limit of a call keeps -/
def gtbl : List Cond := lw_tbl.filter goodWord
theorem wAt_in {ps : List Nat} {ws : List Cond} (h : ws = wAt ps) (hg : ws.all goodWord = true) {w : Cond} (hw : w ∈ ws) : w ∈ gtbl := by
  have h1 := List.all_eq_true.mp hg w hw
  rw [h] at hw
  obtain ⟨i, -, hi⟩ := List.mem_filterMap.mp hw
  exact List.mem_filter.mpr ⟨List.mem_of_getElem? hi, h1⟩
theorem lkp_mem {α : Type} : ∀ {l : List (Nat × α)} {k : Nat} {a : α}, lkp l k = some a → (k, a) ∈ l
  | e :: r, k, a, h => by
    unfold lkp at h
    split at h
    · rename_i q
      cases h
      cases q
      exact List.mem_cons_self
    · exact List.mem_cons_of_mem _ (lkp_mem h)
theorem getD_lt {α : Type} {l : List (List α)} {c : Nat} {x : α} (h : x ∈ l.getD c []) : c < l.length := by
  rcases Nat.lt_or_ge c l.length with q | q
  · exact q
  · rw [List.getD_eq_getElem?_getD, List.getElem?_eq_none q] at h
    cases h
set_option maxRecDepth 100000 in
theorem inv_chk : (List.range 9).all (fun c => (linv.getD c []).all (fun e => decide (invW c e.1 e.2.1 e.2.2 = wAt ((lkp (linvP.getD c []) e.1).getD [])) && (invW c e.1 e.2.1 e.2.2).all goodWord)) = true := by decide +kernel
theorem inv_in {c k way t : Nat} (h : invOf c k = some (way, t)) {w : Cond} (hw : w ∈ invW c k way t) : w ∈ gtbl := by
  have h1 := lkp_mem h
  have h2 := List.all_eq_true.mp inv_chk c (List.mem_range.mpr (getD_lt h1))
  have h3 := List.all_eq_true.mp h2 _ h1
  simp only [Bool.and_eq_true, decide_eq_true_eq] at h3
  exact wAt_in h3.1 h3.2 hw
def mW (t : Nat) : List Cond := [.code (mname t) (codeOf t) (mmax t) (mret t), .initialized (mname t).cls]
def mWP : List (List Nat) := [[148, 91], [616, 91], [620, 91], [629, 91], [625, 91], [684, 91], [687, 91], [657, 91], [661, 91], [703, 91], [644, 91], [640, 91], [635, 91], [726, 91], [736, 91], [652, 91], [707, 91], [673, 91], [695, 91], [648, 91], [699, 91], [676, 91], [679, 91], [669, 91], [691, 91], [665, 91], [191, 92], [762, 92], [766, 92], [770, 92], [785, 92], [781, 92], [795, 92], [810, 92], [842, 92], [790, 92], [835, 92], [839, 92], [803, 92], [799, 92], [807, 92], [814, 92], [822, 92], [818, 92], [827, 92], [777, 92], [831, 92], [119, 90], [343, 90], [347, 90], [442, 90], [312, 90], [328, 90], [367, 90], [514, 90], [375, 90], [538, 90], [548, 90], [587, 90], [355, 90], [530, 90], [351, 90], [339, 90], [408, 90], [396, 90], [384, 90], [503, 90], [380, 90], [392, 90], [510, 90], [388, 90], [598, 90], [404, 90], [416, 90], [433, 90], [437, 90], [428, 90], [579, 90], [883, 90], [558, 90], [419, 90], [422, 90], [495, 90], [492, 90], [499, 90], [506, 90], [237, 93], [519, 93], [563, 93], [607, 93], [113, 89], [304, 89], [308, 89], [488, 89], [316, 89], [324, 89], [363, 89], [412, 89], [371, 89], [320, 89], [331, 89], [335, 89], [400, 89], [359, 89], [105, 88], [472, 88], [476, 88], [480, 88], [484, 88], [524, 88], [534, 88], [544, 88], [554, 88], [569, 88], [575, 88], [583, 88], [594, 88], [603, 88], [612, 88], [711, 88], [715, 88], [722, 88], [732, 88], [740, 88], [745, 88], [750, 88], [754, 88], [758, 88], [848, 88], [851, 88], [858, 88], [870, 88], [874, 88], [878, 88], [888, 99], [1030, 99], [1210, 99], [1348, 99], [893, 99], [897, 99], [901, 99], [905, 99], [909, 99], [1025, 99], [1034, 99], [1046, 99], [1074, 99], [1070, 99], [1054, 99], [1064, 99], [1050, 99], [1060, 99], [1078, 99], [1085, 99], [1081, 99], [1042, 99], [1038, 99], [1089, 99], [1102, 99], [1120, 99], [1108, 99], [1116, 99], [1152, 99], [1093, 99], [1098, 99], [1112, 99], [1132, 99], [1128, 99], [1136, 99], [1124, 99], [1140, 99], [1144, 99], [1148, 99], [1157, 99], [1161, 99], [1199, 99], [1195, 99], [1173, 99], [1226, 99], [1230, 99], [1222, 99], [1188, 99], [1191, 99], [1203, 99], [1185, 99], [1207, 99], [1214, 99], [1218, 99], [1181, 99], [1177, 99], [1233, 99], [1169, 99], [1254, 99], [1165, 99], [1237, 99], [1241, 99], [1250, 99], [1246, 99], [1258, 99], [1262, 99], [1266, 99], [1270, 99], [1284, 99], [1281, 99], [1299, 99], [1310, 99], [1328, 99], [1292, 99], [1303, 99], [1307, 99], [1316, 99], [1320, 99], [1324, 99], [1296, 99], [1332, 99], [1336, 99], [1288, 99], [1274, 99], [1340, 99], [1352, 99], [1356, 99], [1360, 99], [863, 100]]
theorem tb_1 {w : Cond} (h : w ∈ tables_1_1) (hg : goodWord w = true) : w ∈ gtbl := List.mem_filter.mpr ⟨by unfold lw_tbl tables_1; simp only [List.mem_append]; exact Or.inr (Or.inl h), hg⟩
theorem tb_2 {w : Cond} (h : w ∈ tables_1_2) (hg : goodWord w = true) : w ∈ gtbl := List.mem_filter.mpr ⟨by unfold lw_tbl tables_1; simp only [List.mem_append]; exact Or.inr (Or.inr (Or.inl h)), hg⟩
theorem tb_3 {w : Cond} (h : w ∈ tables_1_3) (hg : goodWord w = true) : w ∈ gtbl := List.mem_filter.mpr ⟨by unfold lw_tbl tables_1; simp only [List.mem_append]; exact Or.inr (Or.inr (Or.inr (Or.inl h))), hg⟩
theorem tb_4 {w : Cond} (h : w ∈ tables_1_4) (hg : goodWord w = true) : w ∈ gtbl := List.mem_filter.mpr ⟨by unfold lw_tbl tables_1; simp only [List.mem_append]; exact Or.inr (Or.inr (Or.inr (Or.inr (Or.inl h)))), hg⟩
theorem tb_5 {w : Cond} (h : w ∈ tables_1_5) (hg : goodWord w = true) : w ∈ gtbl := List.mem_filter.mpr ⟨by unfold lw_tbl tables_1; simp only [List.mem_append]; exact Or.inr (Or.inr (Or.inr (Or.inr (Or.inr (Or.inl h))))), hg⟩
theorem tb_6 {w : Cond} (h : w ∈ tables_1_6) (hg : goodWord w = true) : w ∈ gtbl := List.mem_filter.mpr ⟨by unfold lw_tbl tables_1; simp only [List.mem_append]; exact Or.inr (Or.inr (Or.inr (Or.inr (Or.inr (Or.inr h))))), hg⟩
set_option maxRecDepth 100000 in
theorem cw_0 : Cond.code (mname 0) (codeOf 0) (mmax 0) (mret 0) ∈ gtbl := tb_1 (List.mem_of_getElem? (i := 61) (by rfl)) rfl
set_option maxRecDepth 100000 in
theorem cw_1 : Cond.code (mname 1) (codeOf 1) (mmax 1) (mret 1) ∈ gtbl := tb_3 (List.mem_of_getElem? (i := 49) (by rfl)) rfl
set_option maxRecDepth 100000 in
theorem cw_2 : Cond.code (mname 2) (codeOf 2) (mmax 2) (mret 2) ∈ gtbl := tb_3 (List.mem_of_getElem? (i := 53) (by rfl)) rfl
set_option maxRecDepth 100000 in
theorem cw_3 : Cond.code (mname 3) (codeOf 3) (mmax 3) (mret 3) ∈ gtbl := tb_3 (List.mem_of_getElem? (i := 62) (by rfl)) rfl
set_option maxRecDepth 100000 in
theorem cw_4 : Cond.code (mname 4) (codeOf 4) (mmax 4) (mret 4) ∈ gtbl := tb_3 (List.mem_of_getElem? (i := 58) (by rfl)) rfl
set_option maxRecDepth 100000 in
theorem cw_5 : Cond.code (mname 5) (codeOf 5) (mmax 5) (mret 5) ∈ gtbl := tb_3 (List.mem_of_getElem? (i := 117) (by rfl)) rfl
set_option maxRecDepth 100000 in
theorem cw_6 : Cond.code (mname 6) (codeOf 6) (mmax 6) (mret 6) ∈ gtbl := tb_3 (List.mem_of_getElem? (i := 120) (by rfl)) rfl
set_option maxRecDepth 100000 in
theorem cw_7 : Cond.code (mname 7) (codeOf 7) (mmax 7) (mret 7) ∈ gtbl := tb_3 (List.mem_of_getElem? (i := 90) (by rfl)) rfl
set_option maxRecDepth 100000 in
theorem cw_8 : Cond.code (mname 8) (codeOf 8) (mmax 8) (mret 8) ∈ gtbl := tb_3 (List.mem_of_getElem? (i := 94) (by rfl)) rfl
set_option maxRecDepth 100000 in
theorem cw_9 : Cond.code (mname 9) (codeOf 9) (mmax 9) (mret 9) ∈ gtbl := tb_3 (List.mem_of_getElem? (i := 136) (by rfl)) rfl
set_option maxRecDepth 100000 in
theorem cw_10 : Cond.code (mname 10) (codeOf 10) (mmax 10) (mret 10) ∈ gtbl := tb_3 (List.mem_of_getElem? (i := 77) (by rfl)) rfl
set_option maxRecDepth 100000 in
theorem cw_11 : Cond.code (mname 11) (codeOf 11) (mmax 11) (mret 11) ∈ gtbl := tb_3 (List.mem_of_getElem? (i := 73) (by rfl)) rfl
set_option maxRecDepth 100000 in
theorem cw_12 : Cond.code (mname 12) (codeOf 12) (mmax 12) (mret 12) ∈ gtbl := tb_3 (List.mem_of_getElem? (i := 68) (by rfl)) rfl
set_option maxRecDepth 100000 in
theorem cw_13 : Cond.code (mname 13) (codeOf 13) (mmax 13) (mret 13) ∈ gtbl := tb_3 (List.mem_of_getElem? (i := 159) (by rfl)) rfl
set_option maxRecDepth 100000 in
theorem cw_14 : Cond.code (mname 14) (codeOf 14) (mmax 14) (mret 14) ∈ gtbl := tb_3 (List.mem_of_getElem? (i := 169) (by rfl)) rfl
set_option maxRecDepth 100000 in
theorem cw_15 : Cond.code (mname 15) (codeOf 15) (mmax 15) (mret 15) ∈ gtbl := tb_3 (List.mem_of_getElem? (i := 85) (by rfl)) rfl
set_option maxRecDepth 100000 in
theorem cw_16 : Cond.code (mname 16) (codeOf 16) (mmax 16) (mret 16) ∈ gtbl := tb_3 (List.mem_of_getElem? (i := 140) (by rfl)) rfl
set_option maxRecDepth 100000 in
theorem cw_17 : Cond.code (mname 17) (codeOf 17) (mmax 17) (mret 17) ∈ gtbl := tb_3 (List.mem_of_getElem? (i := 106) (by rfl)) rfl
set_option maxRecDepth 100000 in
theorem cw_18 : Cond.code (mname 18) (codeOf 18) (mmax 18) (mret 18) ∈ gtbl := tb_3 (List.mem_of_getElem? (i := 128) (by rfl)) rfl
set_option maxRecDepth 100000 in
theorem cw_19 : Cond.code (mname 19) (codeOf 19) (mmax 19) (mret 19) ∈ gtbl := tb_3 (List.mem_of_getElem? (i := 81) (by rfl)) rfl
set_option maxRecDepth 100000 in
theorem cw_20 : Cond.code (mname 20) (codeOf 20) (mmax 20) (mret 20) ∈ gtbl := tb_3 (List.mem_of_getElem? (i := 132) (by rfl)) rfl
set_option maxRecDepth 100000 in
theorem cw_21 : Cond.code (mname 21) (codeOf 21) (mmax 21) (mret 21) ∈ gtbl := tb_3 (List.mem_of_getElem? (i := 109) (by rfl)) rfl
set_option maxRecDepth 100000 in
theorem cw_22 : Cond.code (mname 22) (codeOf 22) (mmax 22) (mret 22) ∈ gtbl := tb_3 (List.mem_of_getElem? (i := 112) (by rfl)) rfl
set_option maxRecDepth 100000 in
theorem cw_23 : Cond.code (mname 23) (codeOf 23) (mmax 23) (mret 23) ∈ gtbl := tb_3 (List.mem_of_getElem? (i := 102) (by rfl)) rfl
set_option maxRecDepth 100000 in
theorem cw_24 : Cond.code (mname 24) (codeOf 24) (mmax 24) (mret 24) ∈ gtbl := tb_3 (List.mem_of_getElem? (i := 124) (by rfl)) rfl
set_option maxRecDepth 100000 in
theorem cw_25 : Cond.code (mname 25) (codeOf 25) (mmax 25) (mret 25) ∈ gtbl := tb_3 (List.mem_of_getElem? (i := 98) (by rfl)) rfl
set_option maxRecDepth 100000 in
theorem cw_26 : Cond.code (mname 26) (codeOf 26) (mmax 26) (mret 26) ∈ gtbl := tb_1 (List.mem_of_getElem? (i := 104) (by rfl)) rfl
set_option maxRecDepth 100000 in
theorem cw_27 : Cond.code (mname 27) (codeOf 27) (mmax 27) (mret 27) ∈ gtbl := tb_3 (List.mem_of_getElem? (i := 195) (by rfl)) rfl
set_option maxRecDepth 100000 in
theorem cw_28 : Cond.code (mname 28) (codeOf 28) (mmax 28) (mret 28) ∈ gtbl := tb_3 (List.mem_of_getElem? (i := 199) (by rfl)) rfl
set_option maxRecDepth 100000 in
theorem cw_29 : Cond.code (mname 29) (codeOf 29) (mmax 29) (mret 29) ∈ gtbl := tb_3 (List.mem_of_getElem? (i := 203) (by rfl)) rfl
set_option maxRecDepth 100000 in
theorem cw_30 : Cond.code (mname 30) (codeOf 30) (mmax 30) (mret 30) ∈ gtbl := tb_3 (List.mem_of_getElem? (i := 218) (by rfl)) rfl
set_option maxRecDepth 100000 in
theorem cw_31 : Cond.code (mname 31) (codeOf 31) (mmax 31) (mret 31) ∈ gtbl := tb_3 (List.mem_of_getElem? (i := 214) (by rfl)) rfl
set_option maxRecDepth 100000 in
theorem cw_32 : Cond.code (mname 32) (codeOf 32) (mmax 32) (mret 32) ∈ gtbl := tb_3 (List.mem_of_getElem? (i := 228) (by rfl)) rfl
set_option maxRecDepth 100000 in
theorem cw_33 : Cond.code (mname 33) (codeOf 33) (mmax 33) (mret 33) ∈ gtbl := tb_4 (List.mem_of_getElem? (i := 3) (by rfl)) rfl
set_option maxRecDepth 100000 in
theorem cw_34 : Cond.code (mname 34) (codeOf 34) (mmax 34) (mret 34) ∈ gtbl := tb_4 (List.mem_of_getElem? (i := 35) (by rfl)) rfl
set_option maxRecDepth 100000 in
theorem cw_35 : Cond.code (mname 35) (codeOf 35) (mmax 35) (mret 35) ∈ gtbl := tb_3 (List.mem_of_getElem? (i := 223) (by rfl)) rfl
set_option maxRecDepth 100000 in
theorem cw_36 : Cond.code (mname 36) (codeOf 36) (mmax 36) (mret 36) ∈ gtbl := tb_4 (List.mem_of_getElem? (i := 28) (by rfl)) rfl
set_option maxRecDepth 100000 in
theorem cw_37 : Cond.code (mname 37) (codeOf 37) (mmax 37) (mret 37) ∈ gtbl := tb_4 (List.mem_of_getElem? (i := 32) (by rfl)) rfl
set_option maxRecDepth 100000 in
theorem cw_38 : Cond.code (mname 38) (codeOf 38) (mmax 38) (mret 38) ∈ gtbl := tb_3 (List.mem_of_getElem? (i := 236) (by rfl)) rfl
set_option maxRecDepth 100000 in
theorem cw_39 : Cond.code (mname 39) (codeOf 39) (mmax 39) (mret 39) ∈ gtbl := tb_3 (List.mem_of_getElem? (i := 232) (by rfl)) rfl
set_option maxRecDepth 100000 in
theorem cw_40 : Cond.code (mname 40) (codeOf 40) (mmax 40) (mret 40) ∈ gtbl := tb_4 (List.mem_of_getElem? (i := 0) (by rfl)) rfl
set_option maxRecDepth 100000 in
theorem cw_41 : Cond.code (mname 41) (codeOf 41) (mmax 41) (mret 41) ∈ gtbl := tb_4 (List.mem_of_getElem? (i := 7) (by rfl)) rfl
set_option maxRecDepth 100000 in
theorem cw_42 : Cond.code (mname 42) (codeOf 42) (mmax 42) (mret 42) ∈ gtbl := tb_4 (List.mem_of_getElem? (i := 15) (by rfl)) rfl
set_option maxRecDepth 100000 in
theorem cw_43 : Cond.code (mname 43) (codeOf 43) (mmax 43) (mret 43) ∈ gtbl := tb_4 (List.mem_of_getElem? (i := 11) (by rfl)) rfl
set_option maxRecDepth 100000 in
theorem cw_44 : Cond.code (mname 44) (codeOf 44) (mmax 44) (mret 44) ∈ gtbl := tb_4 (List.mem_of_getElem? (i := 20) (by rfl)) rfl
set_option maxRecDepth 100000 in
theorem cw_45 : Cond.code (mname 45) (codeOf 45) (mmax 45) (mret 45) ∈ gtbl := tb_3 (List.mem_of_getElem? (i := 210) (by rfl)) rfl
set_option maxRecDepth 100000 in
theorem cw_46 : Cond.code (mname 46) (codeOf 46) (mmax 46) (mret 46) ∈ gtbl := tb_4 (List.mem_of_getElem? (i := 24) (by rfl)) rfl
set_option maxRecDepth 100000 in
theorem cw_47 : Cond.code (mname 47) (codeOf 47) (mmax 47) (mret 47) ∈ gtbl := tb_1 (List.mem_of_getElem? (i := 32) (by rfl)) rfl
set_option maxRecDepth 100000 in
theorem cw_48 : Cond.code (mname 48) (codeOf 48) (mmax 48) (mret 48) ∈ gtbl := tb_2 (List.mem_of_getElem? (i := 16) (by rfl)) rfl
set_option maxRecDepth 100000 in
theorem cw_49 : Cond.code (mname 49) (codeOf 49) (mmax 49) (mret 49) ∈ gtbl := tb_2 (List.mem_of_getElem? (i := 20) (by rfl)) rfl
set_option maxRecDepth 100000 in
theorem cw_50 : Cond.code (mname 50) (codeOf 50) (mmax 50) (mret 50) ∈ gtbl := tb_2 (List.mem_of_getElem? (i := 115) (by rfl)) rfl
set_option maxRecDepth 100000 in
theorem cw_51 : Cond.code (mname 51) (codeOf 51) (mmax 51) (mret 51) ∈ gtbl := tb_1 (List.mem_of_getElem? (i := 225) (by rfl)) rfl
set_option maxRecDepth 100000 in
theorem cw_52 : Cond.code (mname 52) (codeOf 52) (mmax 52) (mret 52) ∈ gtbl := tb_2 (List.mem_of_getElem? (i := 1) (by rfl)) rfl
set_option maxRecDepth 100000 in
theorem cw_53 : Cond.code (mname 53) (codeOf 53) (mmax 53) (mret 53) ∈ gtbl := tb_2 (List.mem_of_getElem? (i := 40) (by rfl)) rfl
set_option maxRecDepth 100000 in
theorem cw_54 : Cond.code (mname 54) (codeOf 54) (mmax 54) (mret 54) ∈ gtbl := tb_2 (List.mem_of_getElem? (i := 187) (by rfl)) rfl
set_option maxRecDepth 100000 in
theorem cw_55 : Cond.code (mname 55) (codeOf 55) (mmax 55) (mret 55) ∈ gtbl := tb_2 (List.mem_of_getElem? (i := 48) (by rfl)) rfl
set_option maxRecDepth 100000 in
theorem cw_56 : Cond.code (mname 56) (codeOf 56) (mmax 56) (mret 56) ∈ gtbl := tb_2 (List.mem_of_getElem? (i := 211) (by rfl)) rfl
set_option maxRecDepth 100000 in
theorem cw_57 : Cond.code (mname 57) (codeOf 57) (mmax 57) (mret 57) ∈ gtbl := tb_2 (List.mem_of_getElem? (i := 221) (by rfl)) rfl
set_option maxRecDepth 100000 in
theorem cw_58 : Cond.code (mname 58) (codeOf 58) (mmax 58) (mret 58) ∈ gtbl := tb_3 (List.mem_of_getElem? (i := 20) (by rfl)) rfl
set_option maxRecDepth 100000 in
theorem cw_59 : Cond.code (mname 59) (codeOf 59) (mmax 59) (mret 59) ∈ gtbl := tb_2 (List.mem_of_getElem? (i := 28) (by rfl)) rfl
set_option maxRecDepth 100000 in
theorem cw_60 : Cond.code (mname 60) (codeOf 60) (mmax 60) (mret 60) ∈ gtbl := tb_2 (List.mem_of_getElem? (i := 203) (by rfl)) rfl
set_option maxRecDepth 100000 in
theorem cw_61 : Cond.code (mname 61) (codeOf 61) (mmax 61) (mret 61) ∈ gtbl := tb_2 (List.mem_of_getElem? (i := 24) (by rfl)) rfl
set_option maxRecDepth 100000 in
theorem cw_62 : Cond.code (mname 62) (codeOf 62) (mmax 62) (mret 62) ∈ gtbl := tb_2 (List.mem_of_getElem? (i := 12) (by rfl)) rfl
set_option maxRecDepth 100000 in
theorem cw_63 : Cond.code (mname 63) (codeOf 63) (mmax 63) (mret 63) ∈ gtbl := tb_2 (List.mem_of_getElem? (i := 81) (by rfl)) rfl
set_option maxRecDepth 100000 in
theorem cw_64 : Cond.code (mname 64) (codeOf 64) (mmax 64) (mret 64) ∈ gtbl := tb_2 (List.mem_of_getElem? (i := 69) (by rfl)) rfl
set_option maxRecDepth 100000 in
theorem cw_65 : Cond.code (mname 65) (codeOf 65) (mmax 65) (mret 65) ∈ gtbl := tb_2 (List.mem_of_getElem? (i := 57) (by rfl)) rfl
set_option maxRecDepth 100000 in
theorem cw_66 : Cond.code (mname 66) (codeOf 66) (mmax 66) (mret 66) ∈ gtbl := tb_2 (List.mem_of_getElem? (i := 176) (by rfl)) rfl
set_option maxRecDepth 100000 in
theorem cw_67 : Cond.code (mname 67) (codeOf 67) (mmax 67) (mret 67) ∈ gtbl := tb_2 (List.mem_of_getElem? (i := 53) (by rfl)) rfl
set_option maxRecDepth 100000 in
theorem cw_68 : Cond.code (mname 68) (codeOf 68) (mmax 68) (mret 68) ∈ gtbl := tb_2 (List.mem_of_getElem? (i := 65) (by rfl)) rfl
set_option maxRecDepth 100000 in
theorem cw_69 : Cond.code (mname 69) (codeOf 69) (mmax 69) (mret 69) ∈ gtbl := tb_2 (List.mem_of_getElem? (i := 183) (by rfl)) rfl
set_option maxRecDepth 100000 in
theorem cw_70 : Cond.code (mname 70) (codeOf 70) (mmax 70) (mret 70) ∈ gtbl := tb_2 (List.mem_of_getElem? (i := 61) (by rfl)) rfl
set_option maxRecDepth 100000 in
theorem cw_71 : Cond.code (mname 71) (codeOf 71) (mmax 71) (mret 71) ∈ gtbl := tb_3 (List.mem_of_getElem? (i := 31) (by rfl)) rfl
set_option maxRecDepth 100000 in
theorem cw_72 : Cond.code (mname 72) (codeOf 72) (mmax 72) (mret 72) ∈ gtbl := tb_2 (List.mem_of_getElem? (i := 77) (by rfl)) rfl
set_option maxRecDepth 100000 in
theorem cw_73 : Cond.code (mname 73) (codeOf 73) (mmax 73) (mret 73) ∈ gtbl := tb_2 (List.mem_of_getElem? (i := 89) (by rfl)) rfl
set_option maxRecDepth 100000 in
theorem cw_74 : Cond.code (mname 74) (codeOf 74) (mmax 74) (mret 74) ∈ gtbl := tb_2 (List.mem_of_getElem? (i := 106) (by rfl)) rfl
set_option maxRecDepth 100000 in
theorem cw_75 : Cond.code (mname 75) (codeOf 75) (mmax 75) (mret 75) ∈ gtbl := tb_2 (List.mem_of_getElem? (i := 110) (by rfl)) rfl
set_option maxRecDepth 100000 in
theorem cw_76 : Cond.code (mname 76) (codeOf 76) (mmax 76) (mret 76) ∈ gtbl := tb_2 (List.mem_of_getElem? (i := 101) (by rfl)) rfl
set_option maxRecDepth 100000 in
theorem cw_77 : Cond.code (mname 77) (codeOf 77) (mmax 77) (mret 77) ∈ gtbl := tb_3 (List.mem_of_getElem? (i := 12) (by rfl)) rfl
set_option maxRecDepth 100000 in
theorem cw_78 : Cond.code (mname 78) (codeOf 78) (mmax 78) (mret 78) ∈ gtbl := tb_4 (List.mem_of_getElem? (i := 76) (by rfl)) rfl
set_option maxRecDepth 100000 in
theorem cw_79 : Cond.code (mname 79) (codeOf 79) (mmax 79) (mret 79) ∈ gtbl := tb_2 (List.mem_of_getElem? (i := 231) (by rfl)) rfl
set_option maxRecDepth 100000 in
theorem cw_80 : Cond.code (mname 80) (codeOf 80) (mmax 80) (mret 80) ∈ gtbl := tb_2 (List.mem_of_getElem? (i := 92) (by rfl)) rfl
set_option maxRecDepth 100000 in
theorem cw_81 : Cond.code (mname 81) (codeOf 81) (mmax 81) (mret 81) ∈ gtbl := tb_2 (List.mem_of_getElem? (i := 95) (by rfl)) rfl
set_option maxRecDepth 100000 in
theorem cw_82 : Cond.code (mname 82) (codeOf 82) (mmax 82) (mret 82) ∈ gtbl := tb_2 (List.mem_of_getElem? (i := 168) (by rfl)) rfl
set_option maxRecDepth 100000 in
theorem cw_83 : Cond.code (mname 83) (codeOf 83) (mmax 83) (mret 83) ∈ gtbl := tb_2 (List.mem_of_getElem? (i := 165) (by rfl)) rfl
set_option maxRecDepth 100000 in
theorem cw_84 : Cond.code (mname 84) (codeOf 84) (mmax 84) (mret 84) ∈ gtbl := tb_2 (List.mem_of_getElem? (i := 172) (by rfl)) rfl
set_option maxRecDepth 100000 in
theorem cw_85 : Cond.code (mname 85) (codeOf 85) (mmax 85) (mret 85) ∈ gtbl := tb_2 (List.mem_of_getElem? (i := 179) (by rfl)) rfl
set_option maxRecDepth 100000 in
theorem cw_86 : Cond.code (mname 86) (codeOf 86) (mmax 86) (mret 86) ∈ gtbl := tb_1 (List.mem_of_getElem? (i := 150) (by rfl)) rfl
set_option maxRecDepth 100000 in
theorem cw_87 : Cond.code (mname 87) (codeOf 87) (mmax 87) (mret 87) ∈ gtbl := tb_2 (List.mem_of_getElem? (i := 192) (by rfl)) rfl
set_option maxRecDepth 100000 in
theorem cw_88 : Cond.code (mname 88) (codeOf 88) (mmax 88) (mret 88) ∈ gtbl := tb_2 (List.mem_of_getElem? (i := 236) (by rfl)) rfl
set_option maxRecDepth 100000 in
theorem cw_89 : Cond.code (mname 89) (codeOf 89) (mmax 89) (mret 89) ∈ gtbl := tb_3 (List.mem_of_getElem? (i := 40) (by rfl)) rfl
set_option maxRecDepth 100000 in
theorem cw_90 : Cond.code (mname 90) (codeOf 90) (mmax 90) (mret 90) ∈ gtbl := tb_1 (List.mem_of_getElem? (i := 26) (by rfl)) rfl
set_option maxRecDepth 100000 in
theorem cw_91 : Cond.code (mname 91) (codeOf 91) (mmax 91) (mret 91) ∈ gtbl := tb_1 (List.mem_of_getElem? (i := 217) (by rfl)) rfl
set_option maxRecDepth 100000 in
theorem cw_92 : Cond.code (mname 92) (codeOf 92) (mmax 92) (mret 92) ∈ gtbl := tb_1 (List.mem_of_getElem? (i := 221) (by rfl)) rfl
set_option maxRecDepth 100000 in
theorem cw_93 : Cond.code (mname 93) (codeOf 93) (mmax 93) (mret 93) ∈ gtbl := tb_2 (List.mem_of_getElem? (i := 161) (by rfl)) rfl
set_option maxRecDepth 100000 in
theorem cw_94 : Cond.code (mname 94) (codeOf 94) (mmax 94) (mret 94) ∈ gtbl := tb_1 (List.mem_of_getElem? (i := 229) (by rfl)) rfl
set_option maxRecDepth 100000 in
theorem cw_95 : Cond.code (mname 95) (codeOf 95) (mmax 95) (mret 95) ∈ gtbl := tb_1 (List.mem_of_getElem? (i := 237) (by rfl)) rfl
set_option maxRecDepth 100000 in
theorem cw_96 : Cond.code (mname 96) (codeOf 96) (mmax 96) (mret 96) ∈ gtbl := tb_2 (List.mem_of_getElem? (i := 36) (by rfl)) rfl
set_option maxRecDepth 100000 in
theorem cw_97 : Cond.code (mname 97) (codeOf 97) (mmax 97) (mret 97) ∈ gtbl := tb_2 (List.mem_of_getElem? (i := 85) (by rfl)) rfl
set_option maxRecDepth 100000 in
theorem cw_98 : Cond.code (mname 98) (codeOf 98) (mmax 98) (mret 98) ∈ gtbl := tb_2 (List.mem_of_getElem? (i := 44) (by rfl)) rfl
set_option maxRecDepth 100000 in
theorem cw_99 : Cond.code (mname 99) (codeOf 99) (mmax 99) (mret 99) ∈ gtbl := tb_1 (List.mem_of_getElem? (i := 233) (by rfl)) rfl
set_option maxRecDepth 100000 in
theorem cw_100 : Cond.code (mname 100) (codeOf 100) (mmax 100) (mret 100) ∈ gtbl := tb_2 (List.mem_of_getElem? (i := 4) (by rfl)) rfl
set_option maxRecDepth 100000 in
theorem cw_101 : Cond.code (mname 101) (codeOf 101) (mmax 101) (mret 101) ∈ gtbl := tb_2 (List.mem_of_getElem? (i := 8) (by rfl)) rfl
set_option maxRecDepth 100000 in
theorem cw_102 : Cond.code (mname 102) (codeOf 102) (mmax 102) (mret 102) ∈ gtbl := tb_2 (List.mem_of_getElem? (i := 73) (by rfl)) rfl
set_option maxRecDepth 100000 in
theorem cw_103 : Cond.code (mname 103) (codeOf 103) (mmax 103) (mret 103) ∈ gtbl := tb_2 (List.mem_of_getElem? (i := 32) (by rfl)) rfl
set_option maxRecDepth 100000 in
theorem cw_104 : Cond.code (mname 104) (codeOf 104) (mmax 104) (mret 104) ∈ gtbl := tb_1 (List.mem_of_getElem? (i := 18) (by rfl)) rfl
set_option maxRecDepth 100000 in
theorem cw_105 : Cond.code (mname 105) (codeOf 105) (mmax 105) (mret 105) ∈ gtbl := tb_2 (List.mem_of_getElem? (i := 145) (by rfl)) rfl
set_option maxRecDepth 100000 in
theorem cw_106 : Cond.code (mname 106) (codeOf 106) (mmax 106) (mret 106) ∈ gtbl := tb_2 (List.mem_of_getElem? (i := 149) (by rfl)) rfl
set_option maxRecDepth 100000 in
theorem cw_107 : Cond.code (mname 107) (codeOf 107) (mmax 107) (mret 107) ∈ gtbl := tb_2 (List.mem_of_getElem? (i := 153) (by rfl)) rfl
set_option maxRecDepth 100000 in
theorem cw_108 : Cond.code (mname 108) (codeOf 108) (mmax 108) (mret 108) ∈ gtbl := tb_2 (List.mem_of_getElem? (i := 157) (by rfl)) rfl
set_option maxRecDepth 100000 in
theorem cw_109 : Cond.code (mname 109) (codeOf 109) (mmax 109) (mret 109) ∈ gtbl := tb_2 (List.mem_of_getElem? (i := 197) (by rfl)) rfl
set_option maxRecDepth 100000 in
theorem cw_110 : Cond.code (mname 110) (codeOf 110) (mmax 110) (mret 110) ∈ gtbl := tb_2 (List.mem_of_getElem? (i := 207) (by rfl)) rfl
set_option maxRecDepth 100000 in
theorem cw_111 : Cond.code (mname 111) (codeOf 111) (mmax 111) (mret 111) ∈ gtbl := tb_2 (List.mem_of_getElem? (i := 217) (by rfl)) rfl
set_option maxRecDepth 100000 in
theorem cw_112 : Cond.code (mname 112) (codeOf 112) (mmax 112) (mret 112) ∈ gtbl := tb_2 (List.mem_of_getElem? (i := 227) (by rfl)) rfl
set_option maxRecDepth 100000 in
theorem cw_113 : Cond.code (mname 113) (codeOf 113) (mmax 113) (mret 113) ∈ gtbl := tb_3 (List.mem_of_getElem? (i := 2) (by rfl)) rfl
set_option maxRecDepth 100000 in
theorem cw_114 : Cond.code (mname 114) (codeOf 114) (mmax 114) (mret 114) ∈ gtbl := tb_3 (List.mem_of_getElem? (i := 8) (by rfl)) rfl
set_option maxRecDepth 100000 in
theorem cw_115 : Cond.code (mname 115) (codeOf 115) (mmax 115) (mret 115) ∈ gtbl := tb_3 (List.mem_of_getElem? (i := 16) (by rfl)) rfl
set_option maxRecDepth 100000 in
theorem cw_116 : Cond.code (mname 116) (codeOf 116) (mmax 116) (mret 116) ∈ gtbl := tb_3 (List.mem_of_getElem? (i := 27) (by rfl)) rfl
set_option maxRecDepth 100000 in
theorem cw_117 : Cond.code (mname 117) (codeOf 117) (mmax 117) (mret 117) ∈ gtbl := tb_3 (List.mem_of_getElem? (i := 36) (by rfl)) rfl
set_option maxRecDepth 100000 in
theorem cw_118 : Cond.code (mname 118) (codeOf 118) (mmax 118) (mret 118) ∈ gtbl := tb_3 (List.mem_of_getElem? (i := 45) (by rfl)) rfl
set_option maxRecDepth 100000 in
theorem cw_119 : Cond.code (mname 119) (codeOf 119) (mmax 119) (mret 119) ∈ gtbl := tb_3 (List.mem_of_getElem? (i := 144) (by rfl)) rfl
set_option maxRecDepth 100000 in
theorem cw_120 : Cond.code (mname 120) (codeOf 120) (mmax 120) (mret 120) ∈ gtbl := tb_3 (List.mem_of_getElem? (i := 148) (by rfl)) rfl
set_option maxRecDepth 100000 in
theorem cw_121 : Cond.code (mname 121) (codeOf 121) (mmax 121) (mret 121) ∈ gtbl := tb_3 (List.mem_of_getElem? (i := 155) (by rfl)) rfl
set_option maxRecDepth 100000 in
theorem cw_122 : Cond.code (mname 122) (codeOf 122) (mmax 122) (mret 122) ∈ gtbl := tb_3 (List.mem_of_getElem? (i := 165) (by rfl)) rfl
set_option maxRecDepth 100000 in
theorem cw_123 : Cond.code (mname 123) (codeOf 123) (mmax 123) (mret 123) ∈ gtbl := tb_3 (List.mem_of_getElem? (i := 173) (by rfl)) rfl
set_option maxRecDepth 100000 in
theorem cw_124 : Cond.code (mname 124) (codeOf 124) (mmax 124) (mret 124) ∈ gtbl := tb_3 (List.mem_of_getElem? (i := 178) (by rfl)) rfl
set_option maxRecDepth 100000 in
theorem cw_125 : Cond.code (mname 125) (codeOf 125) (mmax 125) (mret 125) ∈ gtbl := tb_3 (List.mem_of_getElem? (i := 183) (by rfl)) rfl
set_option maxRecDepth 100000 in
theorem cw_126 : Cond.code (mname 126) (codeOf 126) (mmax 126) (mret 126) ∈ gtbl := tb_3 (List.mem_of_getElem? (i := 187) (by rfl)) rfl
set_option maxRecDepth 100000 in
theorem cw_127 : Cond.code (mname 127) (codeOf 127) (mmax 127) (mret 127) ∈ gtbl := tb_3 (List.mem_of_getElem? (i := 191) (by rfl)) rfl
set_option maxRecDepth 100000 in
theorem cw_128 : Cond.code (mname 128) (codeOf 128) (mmax 128) (mret 128) ∈ gtbl := tb_4 (List.mem_of_getElem? (i := 41) (by rfl)) rfl
set_option maxRecDepth 100000 in
theorem cw_129 : Cond.code (mname 129) (codeOf 129) (mmax 129) (mret 129) ∈ gtbl := tb_4 (List.mem_of_getElem? (i := 44) (by rfl)) rfl
set_option maxRecDepth 100000 in
theorem cw_130 : Cond.code (mname 130) (codeOf 130) (mmax 130) (mret 130) ∈ gtbl := tb_4 (List.mem_of_getElem? (i := 51) (by rfl)) rfl
set_option maxRecDepth 100000 in
theorem cw_131 : Cond.code (mname 131) (codeOf 131) (mmax 131) (mret 131) ∈ gtbl := tb_4 (List.mem_of_getElem? (i := 63) (by rfl)) rfl
set_option maxRecDepth 100000 in
theorem cw_132 : Cond.code (mname 132) (codeOf 132) (mmax 132) (mret 132) ∈ gtbl := tb_4 (List.mem_of_getElem? (i := 67) (by rfl)) rfl
set_option maxRecDepth 100000 in
theorem cw_133 : Cond.code (mname 133) (codeOf 133) (mmax 133) (mret 133) ∈ gtbl := tb_4 (List.mem_of_getElem? (i := 71) (by rfl)) rfl
set_option maxRecDepth 100000 in
theorem cw_134 : Cond.code (mname 134) (codeOf 134) (mmax 134) (mret 134) ∈ gtbl := tb_4 (List.mem_of_getElem? (i := 81) (by rfl)) rfl
set_option maxRecDepth 100000 in
theorem cw_135 : Cond.code (mname 135) (codeOf 135) (mmax 135) (mret 135) ∈ gtbl := tb_4 (List.mem_of_getElem? (i := 223) (by rfl)) rfl
set_option maxRecDepth 100000 in
theorem cw_136 : Cond.code (mname 136) (codeOf 136) (mmax 136) (mret 136) ∈ gtbl := tb_5 (List.mem_of_getElem? (i := 163) (by rfl)) rfl
set_option maxRecDepth 100000 in
theorem cw_137 : Cond.code (mname 137) (codeOf 137) (mmax 137) (mret 137) ∈ gtbl := tb_6 (List.mem_of_getElem? (i := 61) (by rfl)) rfl
set_option maxRecDepth 100000 in
theorem cw_138 : Cond.code (mname 138) (codeOf 138) (mmax 138) (mret 138) ∈ gtbl := tb_4 (List.mem_of_getElem? (i := 86) (by rfl)) rfl
set_option maxRecDepth 100000 in
theorem cw_139 : Cond.code (mname 139) (codeOf 139) (mmax 139) (mret 139) ∈ gtbl := tb_4 (List.mem_of_getElem? (i := 90) (by rfl)) rfl
set_option maxRecDepth 100000 in
theorem cw_140 : Cond.code (mname 140) (codeOf 140) (mmax 140) (mret 140) ∈ gtbl := tb_4 (List.mem_of_getElem? (i := 94) (by rfl)) rfl
set_option maxRecDepth 100000 in
theorem cw_141 : Cond.code (mname 141) (codeOf 141) (mmax 141) (mret 141) ∈ gtbl := tb_4 (List.mem_of_getElem? (i := 98) (by rfl)) rfl
set_option maxRecDepth 100000 in
theorem cw_142 : Cond.code (mname 142) (codeOf 142) (mmax 142) (mret 142) ∈ gtbl := tb_4 (List.mem_of_getElem? (i := 102) (by rfl)) rfl
set_option maxRecDepth 100000 in
theorem cw_143 : Cond.code (mname 143) (codeOf 143) (mmax 143) (mret 143) ∈ gtbl := tb_4 (List.mem_of_getElem? (i := 218) (by rfl)) rfl
set_option maxRecDepth 100000 in
theorem cw_144 : Cond.code (mname 144) (codeOf 144) (mmax 144) (mret 144) ∈ gtbl := tb_4 (List.mem_of_getElem? (i := 227) (by rfl)) rfl
set_option maxRecDepth 100000 in
theorem cw_145 : Cond.code (mname 145) (codeOf 145) (mmax 145) (mret 145) ∈ gtbl := tb_4 (List.mem_of_getElem? (i := 239) (by rfl)) rfl
set_option maxRecDepth 100000 in
theorem cw_146 : Cond.code (mname 146) (codeOf 146) (mmax 146) (mret 146) ∈ gtbl := tb_5 (List.mem_of_getElem? (i := 27) (by rfl)) rfl
set_option maxRecDepth 100000 in
theorem cw_147 : Cond.code (mname 147) (codeOf 147) (mmax 147) (mret 147) ∈ gtbl := tb_5 (List.mem_of_getElem? (i := 23) (by rfl)) rfl
set_option maxRecDepth 100000 in
theorem cw_148 : Cond.code (mname 148) (codeOf 148) (mmax 148) (mret 148) ∈ gtbl := tb_5 (List.mem_of_getElem? (i := 7) (by rfl)) rfl
set_option maxRecDepth 100000 in
theorem cw_149 : Cond.code (mname 149) (codeOf 149) (mmax 149) (mret 149) ∈ gtbl := tb_5 (List.mem_of_getElem? (i := 17) (by rfl)) rfl
set_option maxRecDepth 100000 in
theorem cw_150 : Cond.code (mname 150) (codeOf 150) (mmax 150) (mret 150) ∈ gtbl := tb_5 (List.mem_of_getElem? (i := 3) (by rfl)) rfl
set_option maxRecDepth 100000 in
theorem cw_151 : Cond.code (mname 151) (codeOf 151) (mmax 151) (mret 151) ∈ gtbl := tb_5 (List.mem_of_getElem? (i := 13) (by rfl)) rfl
set_option maxRecDepth 100000 in
theorem cw_152 : Cond.code (mname 152) (codeOf 152) (mmax 152) (mret 152) ∈ gtbl := tb_5 (List.mem_of_getElem? (i := 31) (by rfl)) rfl
set_option maxRecDepth 100000 in
theorem cw_153 : Cond.code (mname 153) (codeOf 153) (mmax 153) (mret 153) ∈ gtbl := tb_5 (List.mem_of_getElem? (i := 38) (by rfl)) rfl
set_option maxRecDepth 100000 in
theorem cw_154 : Cond.code (mname 154) (codeOf 154) (mmax 154) (mret 154) ∈ gtbl := tb_5 (List.mem_of_getElem? (i := 34) (by rfl)) rfl
set_option maxRecDepth 100000 in
theorem cw_155 : Cond.code (mname 155) (codeOf 155) (mmax 155) (mret 155) ∈ gtbl := tb_4 (List.mem_of_getElem? (i := 235) (by rfl)) rfl
set_option maxRecDepth 100000 in
theorem cw_156 : Cond.code (mname 156) (codeOf 156) (mmax 156) (mret 156) ∈ gtbl := tb_4 (List.mem_of_getElem? (i := 231) (by rfl)) rfl
set_option maxRecDepth 100000 in
theorem cw_157 : Cond.code (mname 157) (codeOf 157) (mmax 157) (mret 157) ∈ gtbl := tb_5 (List.mem_of_getElem? (i := 42) (by rfl)) rfl
set_option maxRecDepth 100000 in
theorem cw_158 : Cond.code (mname 158) (codeOf 158) (mmax 158) (mret 158) ∈ gtbl := tb_5 (List.mem_of_getElem? (i := 55) (by rfl)) rfl
set_option maxRecDepth 100000 in
theorem cw_159 : Cond.code (mname 159) (codeOf 159) (mmax 159) (mret 159) ∈ gtbl := tb_5 (List.mem_of_getElem? (i := 73) (by rfl)) rfl
set_option maxRecDepth 100000 in
theorem cw_160 : Cond.code (mname 160) (codeOf 160) (mmax 160) (mret 160) ∈ gtbl := tb_5 (List.mem_of_getElem? (i := 61) (by rfl)) rfl
set_option maxRecDepth 100000 in
theorem cw_161 : Cond.code (mname 161) (codeOf 161) (mmax 161) (mret 161) ∈ gtbl := tb_5 (List.mem_of_getElem? (i := 69) (by rfl)) rfl
set_option maxRecDepth 100000 in
theorem cw_162 : Cond.code (mname 162) (codeOf 162) (mmax 162) (mret 162) ∈ gtbl := tb_5 (List.mem_of_getElem? (i := 105) (by rfl)) rfl
set_option maxRecDepth 100000 in
theorem cw_163 : Cond.code (mname 163) (codeOf 163) (mmax 163) (mret 163) ∈ gtbl := tb_5 (List.mem_of_getElem? (i := 46) (by rfl)) rfl
set_option maxRecDepth 100000 in
theorem cw_164 : Cond.code (mname 164) (codeOf 164) (mmax 164) (mret 164) ∈ gtbl := tb_5 (List.mem_of_getElem? (i := 51) (by rfl)) rfl
set_option maxRecDepth 100000 in
theorem cw_165 : Cond.code (mname 165) (codeOf 165) (mmax 165) (mret 165) ∈ gtbl := tb_5 (List.mem_of_getElem? (i := 65) (by rfl)) rfl
set_option maxRecDepth 100000 in
theorem cw_166 : Cond.code (mname 166) (codeOf 166) (mmax 166) (mret 166) ∈ gtbl := tb_5 (List.mem_of_getElem? (i := 85) (by rfl)) rfl
set_option maxRecDepth 100000 in
theorem cw_167 : Cond.code (mname 167) (codeOf 167) (mmax 167) (mret 167) ∈ gtbl := tb_5 (List.mem_of_getElem? (i := 81) (by rfl)) rfl
set_option maxRecDepth 100000 in
theorem cw_168 : Cond.code (mname 168) (codeOf 168) (mmax 168) (mret 168) ∈ gtbl := tb_5 (List.mem_of_getElem? (i := 89) (by rfl)) rfl
set_option maxRecDepth 100000 in
theorem cw_169 : Cond.code (mname 169) (codeOf 169) (mmax 169) (mret 169) ∈ gtbl := tb_5 (List.mem_of_getElem? (i := 77) (by rfl)) rfl
set_option maxRecDepth 100000 in
theorem cw_170 : Cond.code (mname 170) (codeOf 170) (mmax 170) (mret 170) ∈ gtbl := tb_5 (List.mem_of_getElem? (i := 93) (by rfl)) rfl
set_option maxRecDepth 100000 in
theorem cw_171 : Cond.code (mname 171) (codeOf 171) (mmax 171) (mret 171) ∈ gtbl := tb_5 (List.mem_of_getElem? (i := 97) (by rfl)) rfl
set_option maxRecDepth 100000 in
theorem cw_172 : Cond.code (mname 172) (codeOf 172) (mmax 172) (mret 172) ∈ gtbl := tb_5 (List.mem_of_getElem? (i := 101) (by rfl)) rfl
set_option maxRecDepth 100000 in
theorem cw_173 : Cond.code (mname 173) (codeOf 173) (mmax 173) (mret 173) ∈ gtbl := tb_5 (List.mem_of_getElem? (i := 110) (by rfl)) rfl
set_option maxRecDepth 100000 in
theorem cw_174 : Cond.code (mname 174) (codeOf 174) (mmax 174) (mret 174) ∈ gtbl := tb_5 (List.mem_of_getElem? (i := 114) (by rfl)) rfl
set_option maxRecDepth 100000 in
theorem cw_175 : Cond.code (mname 175) (codeOf 175) (mmax 175) (mret 175) ∈ gtbl := tb_5 (List.mem_of_getElem? (i := 152) (by rfl)) rfl
set_option maxRecDepth 100000 in
theorem cw_176 : Cond.code (mname 176) (codeOf 176) (mmax 176) (mret 176) ∈ gtbl := tb_5 (List.mem_of_getElem? (i := 148) (by rfl)) rfl
set_option maxRecDepth 100000 in
theorem cw_177 : Cond.code (mname 177) (codeOf 177) (mmax 177) (mret 177) ∈ gtbl := tb_5 (List.mem_of_getElem? (i := 126) (by rfl)) rfl
set_option maxRecDepth 100000 in
theorem cw_178 : Cond.code (mname 178) (codeOf 178) (mmax 178) (mret 178) ∈ gtbl := tb_5 (List.mem_of_getElem? (i := 179) (by rfl)) rfl
set_option maxRecDepth 100000 in
theorem cw_179 : Cond.code (mname 179) (codeOf 179) (mmax 179) (mret 179) ∈ gtbl := tb_5 (List.mem_of_getElem? (i := 183) (by rfl)) rfl
set_option maxRecDepth 100000 in
theorem cw_180 : Cond.code (mname 180) (codeOf 180) (mmax 180) (mret 180) ∈ gtbl := tb_5 (List.mem_of_getElem? (i := 175) (by rfl)) rfl
set_option maxRecDepth 100000 in
theorem cw_181 : Cond.code (mname 181) (codeOf 181) (mmax 181) (mret 181) ∈ gtbl := tb_5 (List.mem_of_getElem? (i := 141) (by rfl)) rfl
set_option maxRecDepth 100000 in
theorem cw_182 : Cond.code (mname 182) (codeOf 182) (mmax 182) (mret 182) ∈ gtbl := tb_5 (List.mem_of_getElem? (i := 144) (by rfl)) rfl
set_option maxRecDepth 100000 in
theorem cw_183 : Cond.code (mname 183) (codeOf 183) (mmax 183) (mret 183) ∈ gtbl := tb_5 (List.mem_of_getElem? (i := 156) (by rfl)) rfl
set_option maxRecDepth 100000 in
theorem cw_184 : Cond.code (mname 184) (codeOf 184) (mmax 184) (mret 184) ∈ gtbl := tb_5 (List.mem_of_getElem? (i := 138) (by rfl)) rfl
set_option maxRecDepth 100000 in
theorem cw_185 : Cond.code (mname 185) (codeOf 185) (mmax 185) (mret 185) ∈ gtbl := tb_5 (List.mem_of_getElem? (i := 160) (by rfl)) rfl
set_option maxRecDepth 100000 in
theorem cw_186 : Cond.code (mname 186) (codeOf 186) (mmax 186) (mret 186) ∈ gtbl := tb_5 (List.mem_of_getElem? (i := 167) (by rfl)) rfl
set_option maxRecDepth 100000 in
theorem cw_187 : Cond.code (mname 187) (codeOf 187) (mmax 187) (mret 187) ∈ gtbl := tb_5 (List.mem_of_getElem? (i := 171) (by rfl)) rfl
set_option maxRecDepth 100000 in
theorem cw_188 : Cond.code (mname 188) (codeOf 188) (mmax 188) (mret 188) ∈ gtbl := tb_5 (List.mem_of_getElem? (i := 134) (by rfl)) rfl
set_option maxRecDepth 100000 in
theorem cw_189 : Cond.code (mname 189) (codeOf 189) (mmax 189) (mret 189) ∈ gtbl := tb_5 (List.mem_of_getElem? (i := 130) (by rfl)) rfl
set_option maxRecDepth 100000 in
theorem cw_190 : Cond.code (mname 190) (codeOf 190) (mmax 190) (mret 190) ∈ gtbl := tb_5 (List.mem_of_getElem? (i := 186) (by rfl)) rfl
set_option maxRecDepth 100000 in
theorem cw_191 : Cond.code (mname 191) (codeOf 191) (mmax 191) (mret 191) ∈ gtbl := tb_5 (List.mem_of_getElem? (i := 122) (by rfl)) rfl
set_option maxRecDepth 100000 in
theorem cw_192 : Cond.code (mname 192) (codeOf 192) (mmax 192) (mret 192) ∈ gtbl := tb_5 (List.mem_of_getElem? (i := 207) (by rfl)) rfl
set_option maxRecDepth 100000 in
theorem cw_193 : Cond.code (mname 193) (codeOf 193) (mmax 193) (mret 193) ∈ gtbl := tb_5 (List.mem_of_getElem? (i := 118) (by rfl)) rfl
set_option maxRecDepth 100000 in
theorem cw_194 : Cond.code (mname 194) (codeOf 194) (mmax 194) (mret 194) ∈ gtbl := tb_5 (List.mem_of_getElem? (i := 190) (by rfl)) rfl
set_option maxRecDepth 100000 in
theorem cw_195 : Cond.code (mname 195) (codeOf 195) (mmax 195) (mret 195) ∈ gtbl := tb_5 (List.mem_of_getElem? (i := 194) (by rfl)) rfl
set_option maxRecDepth 100000 in
theorem cw_196 : Cond.code (mname 196) (codeOf 196) (mmax 196) (mret 196) ∈ gtbl := tb_5 (List.mem_of_getElem? (i := 203) (by rfl)) rfl
set_option maxRecDepth 100000 in
theorem cw_197 : Cond.code (mname 197) (codeOf 197) (mmax 197) (mret 197) ∈ gtbl := tb_5 (List.mem_of_getElem? (i := 199) (by rfl)) rfl
set_option maxRecDepth 100000 in
theorem cw_198 : Cond.code (mname 198) (codeOf 198) (mmax 198) (mret 198) ∈ gtbl := tb_5 (List.mem_of_getElem? (i := 211) (by rfl)) rfl
set_option maxRecDepth 100000 in
theorem cw_199 : Cond.code (mname 199) (codeOf 199) (mmax 199) (mret 199) ∈ gtbl := tb_5 (List.mem_of_getElem? (i := 215) (by rfl)) rfl
set_option maxRecDepth 100000 in
theorem cw_200 : Cond.code (mname 200) (codeOf 200) (mmax 200) (mret 200) ∈ gtbl := tb_5 (List.mem_of_getElem? (i := 219) (by rfl)) rfl
set_option maxRecDepth 100000 in
theorem cw_201 : Cond.code (mname 201) (codeOf 201) (mmax 201) (mret 201) ∈ gtbl := tb_5 (List.mem_of_getElem? (i := 223) (by rfl)) rfl
set_option maxRecDepth 100000 in
theorem cw_202 : Cond.code (mname 202) (codeOf 202) (mmax 202) (mret 202) ∈ gtbl := tb_5 (List.mem_of_getElem? (i := 237) (by rfl)) rfl
set_option maxRecDepth 100000 in
theorem cw_203 : Cond.code (mname 203) (codeOf 203) (mmax 203) (mret 203) ∈ gtbl := tb_5 (List.mem_of_getElem? (i := 234) (by rfl)) rfl
set_option maxRecDepth 100000 in
theorem cw_204 : Cond.code (mname 204) (codeOf 204) (mmax 204) (mret 204) ∈ gtbl := tb_6 (List.mem_of_getElem? (i := 12) (by rfl)) rfl
set_option maxRecDepth 100000 in
theorem cw_205 : Cond.code (mname 205) (codeOf 205) (mmax 205) (mret 205) ∈ gtbl := tb_6 (List.mem_of_getElem? (i := 23) (by rfl)) rfl
set_option maxRecDepth 100000 in
theorem cw_206 : Cond.code (mname 206) (codeOf 206) (mmax 206) (mret 206) ∈ gtbl := tb_6 (List.mem_of_getElem? (i := 41) (by rfl)) rfl
set_option maxRecDepth 100000 in
theorem cw_207 : Cond.code (mname 207) (codeOf 207) (mmax 207) (mret 207) ∈ gtbl := tb_6 (List.mem_of_getElem? (i := 5) (by rfl)) rfl
set_option maxRecDepth 100000 in
theorem cw_208 : Cond.code (mname 208) (codeOf 208) (mmax 208) (mret 208) ∈ gtbl := tb_6 (List.mem_of_getElem? (i := 16) (by rfl)) rfl
set_option maxRecDepth 100000 in
theorem cw_209 : Cond.code (mname 209) (codeOf 209) (mmax 209) (mret 209) ∈ gtbl := tb_6 (List.mem_of_getElem? (i := 20) (by rfl)) rfl
set_option maxRecDepth 100000 in
theorem cw_210 : Cond.code (mname 210) (codeOf 210) (mmax 210) (mret 210) ∈ gtbl := tb_6 (List.mem_of_getElem? (i := 29) (by rfl)) rfl
set_option maxRecDepth 100000 in
theorem cw_211 : Cond.code (mname 211) (codeOf 211) (mmax 211) (mret 211) ∈ gtbl := tb_6 (List.mem_of_getElem? (i := 33) (by rfl)) rfl
set_option maxRecDepth 100000 in
theorem cw_212 : Cond.code (mname 212) (codeOf 212) (mmax 212) (mret 212) ∈ gtbl := tb_6 (List.mem_of_getElem? (i := 37) (by rfl)) rfl
set_option maxRecDepth 100000 in
theorem cw_213 : Cond.code (mname 213) (codeOf 213) (mmax 213) (mret 213) ∈ gtbl := tb_6 (List.mem_of_getElem? (i := 9) (by rfl)) rfl
set_option maxRecDepth 100000 in
theorem cw_214 : Cond.code (mname 214) (codeOf 214) (mmax 214) (mret 214) ∈ gtbl := tb_6 (List.mem_of_getElem? (i := 45) (by rfl)) rfl
set_option maxRecDepth 100000 in
theorem cw_215 : Cond.code (mname 215) (codeOf 215) (mmax 215) (mret 215) ∈ gtbl := tb_6 (List.mem_of_getElem? (i := 49) (by rfl)) rfl
set_option maxRecDepth 100000 in
theorem cw_216 : Cond.code (mname 216) (codeOf 216) (mmax 216) (mret 216) ∈ gtbl := tb_6 (List.mem_of_getElem? (i := 1) (by rfl)) rfl
set_option maxRecDepth 100000 in
theorem cw_217 : Cond.code (mname 217) (codeOf 217) (mmax 217) (mret 217) ∈ gtbl := tb_5 (List.mem_of_getElem? (i := 227) (by rfl)) rfl
set_option maxRecDepth 100000 in
theorem cw_218 : Cond.code (mname 218) (codeOf 218) (mmax 218) (mret 218) ∈ gtbl := tb_6 (List.mem_of_getElem? (i := 53) (by rfl)) rfl
set_option maxRecDepth 100000 in
theorem cw_219 : Cond.code (mname 219) (codeOf 219) (mmax 219) (mret 219) ∈ gtbl := tb_6 (List.mem_of_getElem? (i := 65) (by rfl)) rfl
set_option maxRecDepth 100000 in
theorem cw_220 : Cond.code (mname 220) (codeOf 220) (mmax 220) (mret 220) ∈ gtbl := tb_6 (List.mem_of_getElem? (i := 69) (by rfl)) rfl
set_option maxRecDepth 100000 in
theorem cw_221 : Cond.code (mname 221) (codeOf 221) (mmax 221) (mret 221) ∈ gtbl := tb_6 (List.mem_of_getElem? (i := 73) (by rfl)) rfl
set_option maxRecDepth 100000 in
theorem cw_222 : Cond.code (mname 222) (codeOf 222) (mmax 222) (mret 222) ∈ gtbl := tb_4 (List.mem_of_getElem? (i := 56) (by rfl)) rfl
set_option maxRecDepth 100000 in
theorem codeW : ∀ t, t < 223 → Cond.code (mname t) (codeOf t) (mmax t) (mret t) ∈ gtbl
  | 0, _ => cw_0
  | 1, _ => cw_1
  | 2, _ => cw_2
  | 3, _ => cw_3
  | 4, _ => cw_4
  | 5, _ => cw_5
  | 6, _ => cw_6
  | 7, _ => cw_7
  | 8, _ => cw_8
  | 9, _ => cw_9
  | 10, _ => cw_10
  | 11, _ => cw_11
  | 12, _ => cw_12
  | 13, _ => cw_13
  | 14, _ => cw_14
  | 15, _ => cw_15
  | 16, _ => cw_16
  | 17, _ => cw_17
  | 18, _ => cw_18
  | 19, _ => cw_19
  | 20, _ => cw_20
  | 21, _ => cw_21
  | 22, _ => cw_22
  | 23, _ => cw_23
  | 24, _ => cw_24
  | 25, _ => cw_25
  | 26, _ => cw_26
  | 27, _ => cw_27
  | 28, _ => cw_28
  | 29, _ => cw_29
  | 30, _ => cw_30
  | 31, _ => cw_31
  | 32, _ => cw_32
  | 33, _ => cw_33
  | 34, _ => cw_34
  | 35, _ => cw_35
  | 36, _ => cw_36
  | 37, _ => cw_37
  | 38, _ => cw_38
  | 39, _ => cw_39
  | 40, _ => cw_40
  | 41, _ => cw_41
  | 42, _ => cw_42
  | 43, _ => cw_43
  | 44, _ => cw_44
  | 45, _ => cw_45
  | 46, _ => cw_46
  | 47, _ => cw_47
  | 48, _ => cw_48
  | 49, _ => cw_49
  | 50, _ => cw_50
  | 51, _ => cw_51
  | 52, _ => cw_52
  | 53, _ => cw_53
  | 54, _ => cw_54
  | 55, _ => cw_55
  | 56, _ => cw_56
  | 57, _ => cw_57
  | 58, _ => cw_58
  | 59, _ => cw_59
  | 60, _ => cw_60
  | 61, _ => cw_61
  | 62, _ => cw_62
  | 63, _ => cw_63
  | 64, _ => cw_64
  | 65, _ => cw_65
  | 66, _ => cw_66
  | 67, _ => cw_67
  | 68, _ => cw_68
  | 69, _ => cw_69
  | 70, _ => cw_70
  | 71, _ => cw_71
  | 72, _ => cw_72
  | 73, _ => cw_73
  | 74, _ => cw_74
  | 75, _ => cw_75
  | 76, _ => cw_76
  | 77, _ => cw_77
  | 78, _ => cw_78
  | 79, _ => cw_79
  | 80, _ => cw_80
  | 81, _ => cw_81
  | 82, _ => cw_82
  | 83, _ => cw_83
  | 84, _ => cw_84
  | 85, _ => cw_85
  | 86, _ => cw_86
  | 87, _ => cw_87
  | 88, _ => cw_88
  | 89, _ => cw_89
  | 90, _ => cw_90
  | 91, _ => cw_91
  | 92, _ => cw_92
  | 93, _ => cw_93
  | 94, _ => cw_94
  | 95, _ => cw_95
  | 96, _ => cw_96
  | 97, _ => cw_97
  | 98, _ => cw_98
  | 99, _ => cw_99
  | 100, _ => cw_100
  | 101, _ => cw_101
  | 102, _ => cw_102
  | 103, _ => cw_103
  | 104, _ => cw_104
  | 105, _ => cw_105
  | 106, _ => cw_106
  | 107, _ => cw_107
  | 108, _ => cw_108
  | 109, _ => cw_109
  | 110, _ => cw_110
  | 111, _ => cw_111
  | 112, _ => cw_112
  | 113, _ => cw_113
  | 114, _ => cw_114
  | 115, _ => cw_115
  | 116, _ => cw_116
  | 117, _ => cw_117
  | 118, _ => cw_118
  | 119, _ => cw_119
  | 120, _ => cw_120
  | 121, _ => cw_121
  | 122, _ => cw_122
  | 123, _ => cw_123
  | 124, _ => cw_124
  | 125, _ => cw_125
  | 126, _ => cw_126
  | 127, _ => cw_127
  | 128, _ => cw_128
  | 129, _ => cw_129
  | 130, _ => cw_130
  | 131, _ => cw_131
  | 132, _ => cw_132
  | 133, _ => cw_133
  | 134, _ => cw_134
  | 135, _ => cw_135
  | 136, _ => cw_136
  | 137, _ => cw_137
  | 138, _ => cw_138
  | 139, _ => cw_139
  | 140, _ => cw_140
  | 141, _ => cw_141
  | 142, _ => cw_142
  | 143, _ => cw_143
  | 144, _ => cw_144
  | 145, _ => cw_145
  | 146, _ => cw_146
  | 147, _ => cw_147
  | 148, _ => cw_148
  | 149, _ => cw_149
  | 150, _ => cw_150
  | 151, _ => cw_151
  | 152, _ => cw_152
  | 153, _ => cw_153
  | 154, _ => cw_154
  | 155, _ => cw_155
  | 156, _ => cw_156
  | 157, _ => cw_157
  | 158, _ => cw_158
  | 159, _ => cw_159
  | 160, _ => cw_160
  | 161, _ => cw_161
  | 162, _ => cw_162
  | 163, _ => cw_163
  | 164, _ => cw_164
  | 165, _ => cw_165
  | 166, _ => cw_166
  | 167, _ => cw_167
  | 168, _ => cw_168
  | 169, _ => cw_169
  | 170, _ => cw_170
  | 171, _ => cw_171
  | 172, _ => cw_172
  | 173, _ => cw_173
  | 174, _ => cw_174
  | 175, _ => cw_175
  | 176, _ => cw_176
  | 177, _ => cw_177
  | 178, _ => cw_178
  | 179, _ => cw_179
  | 180, _ => cw_180
  | 181, _ => cw_181
  | 182, _ => cw_182
  | 183, _ => cw_183
  | 184, _ => cw_184
  | 185, _ => cw_185
  | 186, _ => cw_186
  | 187, _ => cw_187
  | 188, _ => cw_188
  | 189, _ => cw_189
  | 190, _ => cw_190
  | 191, _ => cw_191
  | 192, _ => cw_192
  | 193, _ => cw_193
  | 194, _ => cw_194
  | 195, _ => cw_195
  | 196, _ => cw_196
  | 197, _ => cw_197
  | 198, _ => cw_198
  | 199, _ => cw_199
  | 200, _ => cw_200
  | 201, _ => cw_201
  | 202, _ => cw_202
  | 203, _ => cw_203
  | 204, _ => cw_204
  | 205, _ => cw_205
  | 206, _ => cw_206
  | 207, _ => cw_207
  | 208, _ => cw_208
  | 209, _ => cw_209
  | 210, _ => cw_210
  | 211, _ => cw_211
  | 212, _ => cw_212
  | 213, _ => cw_213
  | 214, _ => cw_214
  | 215, _ => cw_215
  | 216, _ => cw_216
  | 217, _ => cw_217
  | 218, _ => cw_218
  | 219, _ => cw_219
  | 220, _ => cw_220
  | 221, _ => cw_221
  | 222, _ => cw_222
  | n + 223, h => absurd h (by omega)
theorem inW_chk : (List.range 223).all (fun t => decide ([Cond.initialized (mname t).cls] = wAt [(mWP.getD t []).getD 1 0]) && goodWord (Cond.initialized (mname t).cls)) = true := by decide +kernel
theorem mW_in {t : Nat} (ht : t < 223) {w : Cond} (hw : w ∈ mW t) : w ∈ gtbl := by
  rcases List.mem_cons.mp hw with rfl | hw
  · exact codeW t ht
  · have h3 := List.all_eq_true.mp inW_chk t (List.mem_range.mpr ht)
    simp only [Bool.and_eq_true, decide_eq_true_eq] at h3
    exact wAt_in h3.1 (by simp [h3.2]) hw
/-- names: the class of a method is its own; no method handles; as many parameters as said -/
theorem nm_chk : (List.range 223).all (fun t => decide ((mname t).cls = cnm (mown t)) && decide ((mname t).cls ≠ "java/lang/invoke/MethodHandle") && decide ((mname t).cls ≠ "java/lang/invoke/VarHandle") && decide ((parseMethodDescriptor (mname t).desc).map (fun d => d.parameters.length) = some (mpar t)) && plainName (mname t).cls) = true := by decide +kernel
theorem inv_lt : (List.range 9).all (fun c => (linv.getD c []).all (fun e => decide (3 < e.2.1) || decide (e.2.2 < 223))) = true := by decide +kernel
theorem inv_init : (List.range 9).all (fun c => (linv.getD c []).all (fun e => (decide (e.2.1 ≠ 1) && decide (e.2.1 ≠ 3)) || (decide ((mname e.2.2).name = "<init>") && decide (mans e.2.2 = 0)))) = true := by decide +kernel
def fldW (c k ci j : Nat) : Cond := .fieldLink (cnm c) k (cnm ci) (TXs ci j).2.1 (TXs ci j).2.2.1
def lfldP : List (List (Nat × List Nat)) := [[(12, [152]), (18, [153]), (22, [154]), (25, [155]), (28, [156]), (64, [159]), (71, [157]), (74, [158]), (78, [161]), (81, [163])],
  [(14, [195]), (18, [196]), (22, [197]), (25, [198]), (28, [199]), (42, [200]), (60, [206]), (63, [208]), (69, [201]), (72, [202]), (75, [204])],
  [(11, [121])],
  [(11, [241]), (16, [243]), (20, [242])],
  [(12, [127]), (18, [129]), (22, [131]), (26, [132])],
  [(10, [446]), (19, [447]), (23, [448]), (29, [449]), (36, [450]), (45, [451]), (49, [452]), (71, [128]), (74, [122]), (82, [130]), (160, [244]), (173, [162]), (176, [164]), (185, [160]), (214, [209]), (217, [207]), (220, [203]), (223, [205])],
  [(7, [911]), (13, [912]), (16, [914]), (19, [915]), (22, [917]), (25, [918]), (28, [920]), (31, [921]), (34, [922]), (37, [924]), (40, [928]), (44, [932]), (47, [933]), (50, [938]), (53, [939]), (56, [940]), (59, [941]), (80, [916]), (84, [919]), (87, [923]), (90, [910]), (93, [913]), (96, [925]), (99, [926]), (110, [927]), (113, [929]), (124, [931]), (157, [930]), (213, [934]), (216, [935]), (262, [937]), (265, [936]), (288, [943]), (291, [942]), (294, [945]), (297, [944]), (300, [946])],
  [],
  []]
set_option maxRecDepth 100000 in
theorem fld_chk : (List.range 9).all (fun c => (lfld.getD c []).all (fun e => decide ([fldW c e.1 e.2.1 e.2.2.1] = wAt ((lkp (lfldP.getD c []) e.1).getD [])) && goodWord (fldW c e.1 e.2.1 e.2.2.1) && decide (e.2.1 < 7) && decide (e.2.2.1 < nfld e.2.1) && decide (e.2.2.2 = (tfld.getD e.2.1 []).getD e.2.2.1 0) && decide ((TXs e.2.1 e.2.2.1).1 = cnm e.2.1))) = true := by decide +kernel
theorem fld_in {c k ci j ty : Nat} (h : fldOf c k = some (ci, j, ty)) : fldW c k ci j ∈ gtbl ∧ ci < 7 ∧ j < nfld ci ∧ ty = (tfld.getD ci []).getD j 0 ∧ (TXs ci j).1 = cnm ci := by
  have h1 := lkp_mem h
  have h2 := List.all_eq_true.mp fld_chk c (List.mem_range.mpr (getD_lt h1))
  have h3 := List.all_eq_true.mp h2 _ h1
  simp only [Bool.and_eq_true, decide_eq_true_eq] at h3
  obtain ⟨⟨⟨⟨⟨a1, a2⟩, a3⟩, a4⟩, a5⟩, a6⟩ := h3
  exact ⟨wAt_in a1 (by simp [a2]) List.mem_cons_self, a3, a4, a5, a6⟩
set_option maxRecDepth 100000 in
theorem lay_chk : (List.range 7).all (fun c => decide (u_ws (cnm c) (TXs c) (nfld c) = wAt (([[165, 167, 169, 171, 173, 175, 177, 179, 181, 183], [210, 212, 214, 216, 218, 220, 222, 224, 226, 228, 230], [123], [245, 247, 249], [133, 135, 137, 139], [453, 455, 457, 459, 461, 463, 465], [947, 949, 951, 953, 955, 957, 959, 961, 963, 965, 967, 969, 971, 973, 975, 977, 979, 981, 983, 985, 987, 989, 991, 993, 995, 997, 999, 1001, 1003, 1005, 1007, 1009, 1011, 1013, 1015, 1017, 1019]] : List (List Nat)).getD c [])) && (u_ws (cnm c) (TXs c) (nfld c)).all goodWord) = true := by decide +kernel
theorem lay_in {c : Nat} (hc : c < 7) : ∀ w ∈ u_ws (cnm c) (TXs c) (nfld c), w ∈ gtbl := by
  intro w hw
  have h3 := List.all_eq_true.mp lay_chk c (List.mem_range.mpr hc)
  simp only [Bool.and_eq_true, decide_eq_true_eq] at h3
  exact wAt_in h3.1 h3.2 hw
/-- the types of the fields as their descriptors say; the names of one class's fields differ -/
def tyD (ci j : Nat) : FieldType := (parseFieldDescriptor (TXs ci j).2.2.1).getD .int
theorem ty_chk : (List.range 7).all (fun c => (List.range (nfld c)).all (fun j => decide (parseFieldDescriptor (TXs c j).2.2.1 = some (tyD c j)) && (if tyf c j = 2 then (tyD c j).isReference else if tyf c j = 1 then decide (tyD c j = .boolean) else decide (tyD c j = .int)))) = true := by decide +kernel
theorem nam_chk : (List.range 7).all (fun c => (List.range (nfld c)).all (fun j => (List.range (nfld c)).all (fun i => decide (i = j) || decide ((TXs c i).2.1 ≠ (TXs c j).2.1)))) = true := by decide +kernel
def newW (c k ci : Nat) : List Cond := [.classLink (cnm c) k (cnm ci), .instantiable (cnm ci) (nfld ci), .initialized (cnm ci)]
def lnewP : List (List (Nat × List Nat)) := [[(9, [150, 116, 90])],
  [(11, [193, 116, 90])],
  [],
  [],
  [(9, [115, 116, 90])],
  [(7, [109, 110, 89]), (16, [142, 116, 90]), (26, [144, 145, 91]), (33, [187, 188, 92]), (40, [233, 234, 93])],
  [],
  [(7, [101, 102, 88]), (10, [884, 885, 99])],
  []]
theorem new_chk : (List.range 9).all (fun c => (lnew.getD c []).all (fun e => decide (newW c e.1 e.2 = wAt ((lkp (lnewP.getD c []) e.1).getD [])) && (newW c e.1 e.2).all goodWord && decide (e.2 < 7))) = true := by decide +kernel
theorem new_in {c k ci : Nat} (h : newOf c k = some ci) : (∀ w ∈ newW c k ci, w ∈ gtbl) ∧ ci < 7 := by
  have h1 := lkp_mem h
  have h2 := List.all_eq_true.mp new_chk c (List.mem_range.mpr (getD_lt h1))
  have h3 := List.all_eq_true.mp h2 _ h1
  simp only [Bool.and_eq_true, decide_eq_true_eq] at h3
  exact ⟨fun w hw => wAt_in h3.1.1 h3.1.2 hw, h3.2⟩
def llngP : List (List (Nat × List Nat)) := [[],
  [],
  [],
  [],
  [],
  [(239, [852]), (241, [853]), (243, [854])],
  [(102, [1026]), (104, [1027]), (120, [1055]), (122, [1056]), (128, [1065]), (134, [1066]), (155, [1082]), (179, [1153]), (181, [1094]), (183, [1103]), (185, [1104]), (191, [1117]), (277, [1242]), (303, [1311]), (305, [1312]), (344, [1275]), (346, [1276]), (348, [1277]), (356, [1341]), (358, [1342]), (360, [1343]), (362, [1344]), (364, [1345])],
  [],
  []]
theorem lng_chk : (List.range 9).all (fun c => (llng.getD c []).all (fun e => decide ([Cond.constantLong (cnm c) e.1 (Int64.ofInt e.2)] = wAt ((lkp (llngP.getD c []) e.1).getD [])) && goodWord (Cond.constantLong (cnm c) e.1 (Int64.ofInt e.2)) && decide (-1000000 < e.2) && decide (e.2 < 1000000))) = true := by decide +kernel
theorem lng_in {c k : Nat} {v : Int} (h : lngOf c k = some v) : Cond.constantLong (cnm c) k (Int64.ofInt v) ∈ gtbl ∧ -1000000 < v ∧ v < 1000000 := by
  have h1 := lkp_mem h
  have h2 := List.all_eq_true.mp lng_chk c (List.mem_range.mpr (getD_lt h1))
  have h3 := List.all_eq_true.mp h2 _ h1
  simp only [Bool.and_eq_true, decide_eq_true_eq] at h3
  exact ⟨wAt_in h3.1.1.1 (by simp [h3.1.1.2]) List.mem_cons_self, h3.1.2, h3.2⟩
def lintP : List (List (Nat × List Nat)) := [[], [], [], [], [], [], [], [], [(265, [864]), (266, [865]), (267, [866])]]
theorem int_chk : (List.range 9).all (fun c => (lint.getD c []).all (fun e => decide ([Cond.constant (cnm c) e.1 (Int32.ofInt e.2)] = wAt ((lkp (lintP.getD c []) e.1).getD [])) && goodWord (Cond.constant (cnm c) e.1 (Int32.ofInt e.2)) && decide (-2147483648 ≤ e.2) && decide (e.2 < 2147483648))) = true := by decide +kernel
theorem int_in {c k : Nat} {v : Int} (h : intOf c k = some v) : Cond.constant (cnm c) k (Int32.ofInt v) ∈ gtbl ∧ -2147483648 ≤ v ∧ v < 2147483648 := by
  have h1 := lkp_mem h
  have h2 := List.all_eq_true.mp int_chk c (List.mem_range.mpr (getD_lt h1))
  have h3 := List.all_eq_true.mp h2 _ h1
  simp only [Bool.and_eq_true, decide_eq_true_eq] at h3
  exact ⟨wAt_in h3.1.1.1 (by simp [h3.1.1.2]) List.mem_cons_self, h3.1.2, h3.2⟩
theorem arc_in : Cond.arrayClass .int ∈ gtbl ∧ Cond.arrayClass .byte ∈ gtbl ∧ Cond.arrayClass .boolean ∈ gtbl := ⟨wAt_in (ps := [126]) (ws := [Cond.arrayClass .int]) (by decide +kernel) (by decide +kernel) List.mem_cons_self, wAt_in (ps := [468]) (ws := [Cond.arrayClass .byte]) (by decide +kernel) (by decide +kernel) List.mem_cons_self, wAt_in (ps := [186]) (ws := [Cond.arrayClass .boolean]) (by decide +kernel) (by decide +kernel) List.mem_cons_self⟩
