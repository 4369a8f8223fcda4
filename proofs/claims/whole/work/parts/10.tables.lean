/-! TABLES OF THE PLAIN MACHINE, printed by wip/whole/tools/gen_tables.py out of claim/Statement.lean -/
def am_T0 : u_T := fun k => match k with
  | 0 => ("SectionTemplates", "reader", "LSectionTemplates$Reader;", true)
  | 1 => ("SectionTemplates", "templates", "LSectionTemplates$Templates;", false)
  | 2 => ("SectionTemplates", "draft", "LSectionTemplates$Templates;", false)
  | 3 => ("SectionTemplates", "ground", "LSectionTemplates$Ground;", true)
  | 4 => ("SectionTemplates", "walkedGround", "LSectionTemplates$Ground;", true)
  | 5 => ("SectionTemplates", "axisLevel", "I", false)
  | 6 => ("SectionTemplates", "axisBank", "I", false)
  | 7 => ("SectionTemplates", "landLeft", "I", false)
  | 8 => ("SectionTemplates", "landRight", "I", false)
  | 9 => ("SectionTemplates", "arithmetic", "LSectionTemplates$Arithmetic;", true)
  | 10 => ("SectionTemplates", "section", "LSectionTemplates$Section;", true)
  | 11 => ("SectionTemplates", "walker", "LSectionTemplates$Walker;", true)
  | 12 => ("SectionTemplates", "areas", "LSectionTemplates$Areas;", true)
  | 13 => ("SectionTemplates", "cutKept", "LSectionTemplates$Earthwork;", true)
  | 14 => ("SectionTemplates", "fillKept", "LSectionTemplates$Earthwork;", true)
  | 15 => ("SectionTemplates", "sectionsKept", "I", false)
  | 16 => ("SectionTemplates", "lastMetre", "I", false)
  | _ => ("SectionTemplates", "told", "LSectionTemplates$Fraction;", true)
def am_T1 : u_T := fun k => match k with
  | 0 => ("SectionTemplates$Templates", "kinds", "[I", true)
  | 1 => ("SectionTemplates$Templates", "firsts", "[I", true)
  | 2 => ("SectionTemplates$Templates", "seconds", "[I", true)
  | 3 => ("SectionTemplates$Templates", "targets", "[I", true)
  | 4 => ("SectionTemplates$Templates", "ends", "[I", true)
  | 5 => ("SectionTemplates$Templates", "orders", "I", false)
  | 6 => ("SectionTemplates$Templates", "steps", "I", false)
  | _ => ("SectionTemplates$Templates", "size", "I", false)
def am_T2 : u_T := fun k => match k with
  | 0 => ("SectionTemplates$Reader", "signs", "[I", true)
  | 1 => ("SectionTemplates$Reader", "size", "I", false)
  | 2 => ("SectionTemplates$Reader", "at", "I", false)
  | 3 => ("SectionTemplates$Reader", "wrong", "Z", false)
  | 4 => ("SectionTemplates$Reader", "into", "LSectionTemplates$Templates;", false)
  | 5 => ("SectionTemplates$Reader", "waiting", "[I", true)
  | _ => ("SectionTemplates$Reader", "open", "I", false)
def am_T3 : u_T := fun k => match k with
  | 0 => ("SectionTemplates$Ground", "offs", "[I", true)
  | 1 => ("SectionTemplates$Ground", "levels", "[I", true)
  | _ => ("SectionTemplates$Ground", "size", "I", false)
def am_T4 : u_T := fun k => match k with
  | 0 => ("SectionTemplates$Arithmetic", "common", "LSectionTemplates$Whole;", true)
  | 1 => ("SectionTemplates$Arithmetic", "again", "LSectionTemplates$Whole;", true)
  | 2 => ("SectionTemplates$Arithmetic", "aUp", "LSectionTemplates$Whole;", true)
  | 3 => ("SectionTemplates$Arithmetic", "bUp", "LSectionTemplates$Whole;", true)
  | 4 => ("SectionTemplates$Arithmetic", "aLow", "LSectionTemplates$Whole;", true)
  | 5 => ("SectionTemplates$Arithmetic", "bLow", "LSectionTemplates$Whole;", true)
  | 6 => ("SectionTemplates$Arithmetic", "up", "LSectionTemplates$Whole;", true)
  | 7 => ("SectionTemplates$Arithmetic", "rest", "LSectionTemplates$Whole;", true)
  | 8 => ("SectionTemplates$Arithmetic", "divisor", "LSectionTemplates$Whole;", true)
  | 9 => ("SectionTemplates$Arithmetic", "other", "LSectionTemplates$Whole;", true)
  | _ => ("SectionTemplates$Arithmetic", "unused", "LSectionTemplates$Whole;", true)
def am_T5 : u_T := fun k => match k with
  | 0 => ("SectionTemplates$Whole", "limbs", "[J", true)
  | _ => ("SectionTemplates$Whole", "size", "I", false)
def am_T6 : u_T := fun k => match k with
  | 0 => ("SectionTemplates$Section", "left", "LSectionTemplates$Side;", true)
  | 1 => ("SectionTemplates$Section", "right", "LSectionTemplates$Side;", true)
  | 2 => ("SectionTemplates$Section", "walked", "Z", false)
  | 3 => ("SectionTemplates$Section", "taken", "[I", true)
  | _ => ("SectionTemplates$Section", "choices", "I", false)
def am_T7 : u_T := fun k => match k with
  | 0 => ("SectionTemplates$Side", "sign", "I", true)
  | 1 => ("SectionTemplates$Side", "codes", "[I", true)
  | 2 => ("SectionTemplates$Side", "outs", "[J", true)
  | 3 => ("SectionTemplates$Side", "heights", "[J", true)
  | 4 => ("SectionTemplates$Side", "rises", "[J", true)
  | 5 => ("SectionTemplates$Side", "runs", "[J", true)
  | 6 => ("SectionTemplates$Side", "last", "I", false)
  | 7 => ("SectionTemplates$Side", "ended", "Z", false)
  | 8 => ("SectionTemplates$Side", "endOut", "LSectionTemplates$Fraction;", true)
  | _ => ("SectionTemplates$Side", "endLevel", "LSectionTemplates$Fraction;", true)
def am_T8 : u_T := fun k => match k with
  | 0 => ("SectionTemplates$Fraction", "sign", "I", false)
  | 1 => ("SectionTemplates$Fraction", "up", "LSectionTemplates$Whole;", true)
  | _ => ("SectionTemplates$Fraction", "low", "LSectionTemplates$Whole;", true)
def am_T9 : u_T := fun k => match k with
  | 0 => ("SectionTemplates$Walker", "section", "LSectionTemplates$Section;", true)
  | 1 => ("SectionTemplates$Walker", "ground", "LSectionTemplates$Ground;", true)
  | 2 => ("SectionTemplates$Walker", "arithmetic", "LSectionTemplates$Arithmetic;", true)
  | 3 => ("SectionTemplates$Walker", "side", "LSectionTemplates$Side;", false)
  | 4 => ("SectionTemplates$Walker", "here", "LSectionTemplates$Fraction;", true)
  | 5 => ("SectionTemplates$Walker", "there", "LSectionTemplates$Fraction;", true)
  | _ => ("SectionTemplates$Walker", "spare", "LSectionTemplates$Fraction;", true)
def am_T10 : u_T := fun k => match k with
  | 0 => ("SectionTemplates$Areas", "section", "LSectionTemplates$Section;", true)
  | 1 => ("SectionTemplates$Areas", "ground", "LSectionTemplates$Ground;", true)
  | 2 => ("SectionTemplates$Areas", "arithmetic", "LSectionTemplates$Arithmetic;", true)
  | 3 => ("SectionTemplates$Areas", "cut", "LSectionTemplates$Fraction;", true)
  | 4 => ("SectionTemplates$Areas", "fill", "LSectionTemplates$Fraction;", true)
  | 5 => ("SectionTemplates$Areas", "settled", "Z", false)
  | 6 => ("SectionTemplates$Areas", "side", "LSectionTemplates$Side;", false)
  | 7 => ("SectionTemplates$Areas", "index", "I", false)
  | 8 => ("SectionTemplates$Areas", "place", "J", false)
  | 9 => ("SectionTemplates$Areas", "here", "LSectionTemplates$Fraction;", true)
  | 10 => ("SectionTemplates$Areas", "there", "LSectionTemplates$Fraction;", true)
  | 11 => ("SectionTemplates$Areas", "halfWidth", "LSectionTemplates$Fraction;", true)
  | 12 => ("SectionTemplates$Areas", "share", "LSectionTemplates$Fraction;", true)
  | _ => ("SectionTemplates$Areas", "spare", "LSectionTemplates$Fraction;", true)
def am_T11 : u_T := fun k => match k with
  | 0 => ("SectionTemplates$Earthwork", "last", "LSectionTemplates$Whole;", true)
  | 1 => ("SectionTemplates$Earthwork", "kept", "LSectionTemplates$Whole;", true)
  | 2 => ("SectionTemplates$Earthwork", "product", "LSectionTemplates$Whole;", true)
  | 3 => ("SectionTemplates$Earthwork", "halfDistance", "LSectionTemplates$Whole;", true)
  | _ => ("SectionTemplates$Earthwork", "volume", "LSectionTemplates$Fraction;", true)
def am_T12 : u_T := fun k => match k with
  | 0 => ("SectionTemplatesModel", "limbs", "[I", true)
  | 1 => ("SectionTemplatesModel", "sizes", "[I", true)
  | 2 => ("SectionTemplatesModel", "signs", "[I", true)
  | 3 => ("SectionTemplatesModel", "text", "[I", true)
  | 4 => ("SectionTemplatesModel", "count", "I", false)
  | 5 => ("SectionTemplatesModel", "place", "I", false)
  | 6 => ("SectionTemplatesModel", "wrong", "I", false)
  | 7 => ("SectionTemplatesModel", "ops", "[I", true)
  | 8 => ("SectionTemplatesModel", "ones", "[I", true)
  | 9 => ("SectionTemplatesModel", "twos", "[I", true)
  | 10 => ("SectionTemplatesModel", "goes", "[I", true)
  | 11 => ("SectionTemplatesModel", "begins", "[I", true)
  | 12 => ("SectionTemplatesModel", "templates", "I", false)
  | 13 => ("SectionTemplatesModel", "rows", "I", false)
  | 14 => ("SectionTemplatesModel", "number", "I", false)
  | 15 => ("SectionTemplatesModel", "opened", "[I", true)
  | 16 => ("SectionTemplatesModel", "openCount", "I", false)
  | 17 => ("SectionTemplatesModel", "groundOffs", "[I", true)
  | 18 => ("SectionTemplatesModel", "groundLevels", "[I", true)
  | 19 => ("SectionTemplatesModel", "points", "I", false)
  | 20 => ("SectionTemplatesModel", "axisLevel", "I", false)
  | 21 => ("SectionTemplatesModel", "bank", "I", false)
  | 22 => ("SectionTemplatesModel", "lands", "[I", true)
  | 23 => ("SectionTemplatesModel", "corners", "I", false)
  | 24 => ("SectionTemplatesModel", "codes", "[I", true)
  | 25 => ("SectionTemplatesModel", "axisAt", "I", false)
  | 26 => ("SectionTemplatesModel", "ends", "[Z", true)
  | 27 => ("SectionTemplatesModel", "asked", "I", false)
  | 28 => ("SectionTemplatesModel", "answers", "[I", true)
  | 29 => ("SectionTemplatesModel", "side", "I", false)
  | 30 => ("SectionTemplatesModel", "out", "J", false)
  | 31 => ("SectionTemplatesModel", "high", "J", false)
  | 32 => ("SectionTemplatesModel", "sideCorners", "I", false)
  | 33 => ("SectionTemplatesModel", "ended", "Z", false)
  | 34 => ("SectionTemplatesModel", "lineFrom", "I", false)
  | 35 => ("SectionTemplatesModel", "lineTo", "I", false)
  | 36 => ("SectionTemplatesModel", "wide", "J", false)
  | 37 => ("SectionTemplatesModel", "kept", "I", false)
  | _ => ("SectionTemplatesModel", "metres", "[I", true)
abbrev vwCl : List vw_C := [("SectionTemplates", am_T0, 18), ("SectionTemplates$Templates", am_T1, 8), ("SectionTemplates$Reader", am_T2, 7), ("SectionTemplates$Ground", am_T3, 3), ("SectionTemplates$Arithmetic", am_T4, 11), ("SectionTemplates$Whole", am_T5, 2), ("SectionTemplates$Section", am_T6, 5), ("SectionTemplates$Side", am_T7, 10), ("SectionTemplates$Fraction", am_T8, 3), ("SectionTemplates$Walker", am_T9, 7), ("SectionTemplates$Areas", am_T10, 14), ("SectionTemplates$Earthwork", am_T11, 5), ("SectionTemplatesModel", am_T12, 39)]
def am_ftyL : List (List FieldType) := [[(.object "SectionTemplates$Reader"), (.object "SectionTemplates$Templates"), (.object "SectionTemplates$Templates"), (.object "SectionTemplates$Ground"), (.object "SectionTemplates$Ground"), .int, .int, .int, .int, (.object "SectionTemplates$Arithmetic"), (.object "SectionTemplates$Section"), (.object "SectionTemplates$Walker"), (.object "SectionTemplates$Areas"), (.object "SectionTemplates$Earthwork"), (.object "SectionTemplates$Earthwork"), .int, .int, (.object "SectionTemplates$Fraction")],
  [.array .int, .array .int, .array .int, .array .int, .array .int, .int, .int, .int],
  [.array .int, .int, .int, .boolean, (.object "SectionTemplates$Templates"), .array .int, .int],
  [.array .int, .array .int, .int],
  [(.object "SectionTemplates$Whole"), (.object "SectionTemplates$Whole"), (.object "SectionTemplates$Whole"), (.object "SectionTemplates$Whole"), (.object "SectionTemplates$Whole"), (.object "SectionTemplates$Whole"), (.object "SectionTemplates$Whole"), (.object "SectionTemplates$Whole"), (.object "SectionTemplates$Whole"), (.object "SectionTemplates$Whole"), (.object "SectionTemplates$Whole")],
  [.array .long, .int],
  [(.object "SectionTemplates$Side"), (.object "SectionTemplates$Side"), .boolean, .array .int, .int],
  [.int, .array .int, .array .long, .array .long, .array .long, .array .long, .int, .boolean, (.object "SectionTemplates$Fraction"), (.object "SectionTemplates$Fraction")],
  [.int, (.object "SectionTemplates$Whole"), (.object "SectionTemplates$Whole")],
  [(.object "SectionTemplates$Section"), (.object "SectionTemplates$Ground"), (.object "SectionTemplates$Arithmetic"), (.object "SectionTemplates$Side"), (.object "SectionTemplates$Fraction"), (.object "SectionTemplates$Fraction"), (.object "SectionTemplates$Fraction")],
  [(.object "SectionTemplates$Section"), (.object "SectionTemplates$Ground"), (.object "SectionTemplates$Arithmetic"), (.object "SectionTemplates$Fraction"), (.object "SectionTemplates$Fraction"), .boolean, (.object "SectionTemplates$Side"), .int, .long, (.object "SectionTemplates$Fraction"), (.object "SectionTemplates$Fraction"), (.object "SectionTemplates$Fraction"), (.object "SectionTemplates$Fraction"), (.object "SectionTemplates$Fraction")],
  [(.object "SectionTemplates$Whole"), (.object "SectionTemplates$Whole"), (.object "SectionTemplates$Whole"), (.object "SectionTemplates$Whole"), (.object "SectionTemplates$Fraction")],
  [.array .int, .array .int, .array .int, .array .int, .int, .int, .int, .array .int, .array .int, .array .int, .array .int, .array .int, .int, .int, .int, .array .int, .int, .array .int, .array .int, .int, .int, .int, .array .int, .int, .array .int, .int, .array .boolean, .int, .array .int, .int, .long, .long, .int, .boolean, .int, .int, .long, .int, .array .int]]
def am_finL : List (List Bool) := [[true, false, false, true, true, false, false, false, false, true, true, true, true, true, true, false, false, true], [true, true, true, true, true, false, false, false], [true, false, false, false, false, true, false], [true, true, false], [true, true, true, true, true, true, true, true, true, true, true], [true, false], [true, true, false, true, false], [true, true, true, true, true, true, false, false, true, true], [false, true, true], [true, true, true, false, true, true, true], [true, true, true, true, true, false, false, false, false, true, true, true, true, true], [true, true, true, true, true], [true, true, true, true, false, false, false, true, true, true, true, true, false, false, false, true, false, true, true, false, false, false, true, false, true, false, true, false, true, false, false, false, false, false, false, false, false, false, true]]
def am_dflL : List (List Value) := [[.null, .null, .null, .null, .null, .int 0, .int 0, .int 0, .int 0, .null, .null, .null, .null, .null, .null, .int 0, .int 0, .null],
  [.null, .null, .null, .null, .null, .int 0, .int 0, .int 0],
  [.null, .int 0, .int 0, .int 0, .null, .null, .int 0],
  [.null, .null, .int 0],
  [.null, .null, .null, .null, .null, .null, .null, .null, .null, .null, .null],
  [.null, .int 0],
  [.null, .null, .int 0, .null, .int 0],
  [.int 0, .null, .null, .null, .null, .null, .int 0, .int 0, .null, .null],
  [.int 0, .null, .null],
  [.null, .null, .null, .null, .null, .null, .null],
  [.null, .null, .null, .null, .null, .int 0, .null, .int 0, .long 0, .null, .null, .null, .null, .null],
  [.null, .null, .null, .null, .null],
  [.null, .null, .null, .null, .int 0, .int 0, .int 0, .null, .null, .null, .null, .null, .int 0, .int 0, .int 0, .null, .int 0, .null, .null, .int 0, .int 0, .int 0, .null, .int 0, .null, .int 0, .null, .int 0, .null, .int 0, .long 0, .long 0, .int 0, .int 0, .int 0, .int 0, .long 0, .int 0, .null]]
def am_fty (ci f : Nat) : FieldType := ((am_ftyL[ci]?.getD [])[f]?).getD .int
def am_fin (ci f : Nat) : Bool := ((am_finL[ci]?.getD [])[f]?).getD true
def am_dfl (ci : Nat) : List Value := (am_dflL[ci]?).getD []
def am_cnL : List String := ["SectionTemplates", "SectionTemplates$Templates", "SectionTemplates$Reader", "SectionTemplates$Ground", "SectionTemplates$Arithmetic", "SectionTemplates$Whole", "java/lang/Math", "SectionTemplates$Section", "SectionTemplates$Side", "SectionTemplates$Fraction", "SectionTemplates$Walker", "SectionTemplates$Areas", "SectionTemplates$Earthwork", "java/lang/Long", "SectionTemplatesModel", "SectionTemplatesLaw"]
def am_cn (o : Nat) : String := (am_cnL[o]?).getD ""
/-- a method: name, locals, answer, owner, is it a constructor, its class, frames and locals that its calls need -/
def am_mL : List (MethodName × Nat × Option FieldType × Nat × Bool × Nat × Nat × Nat) := [
  (⟨"SectionTemplates", "<init>", "()V"⟩, 1, none, 0, true, 0, 5, 104),
  (⟨"SectionTemplates$Templates", "<init>", "()V"⟩, 1, none, 1, true, 1, 1, 20),
  (⟨"SectionTemplates$Reader", "<init>", "(LSectionTemplates$Templates;)V"⟩, 2, none, 2, true, 2, 1, 20),
  (⟨"SectionTemplates$Ground", "<init>", "()V"⟩, 1, none, 3, true, 3, 1, 20),
  (⟨"SectionTemplates$Arithmetic", "<init>", "()V"⟩, 1, none, 4, true, 4, 2, 42),
  (⟨"SectionTemplates$Whole", "<init>", "(I)V"⟩, 2, none, 5, true, 5, 1, 21),
  (⟨"java/lang/Math", "max", "(II)I"⟩, 2, (some FieldType.int), 6, false, 99, 0, 0),
  (⟨"SectionTemplates$Section", "<init>", "()V"⟩, 1, none, 7, true, 6, 4, 84),
  (⟨"SectionTemplates$Side", "<init>", "(I)V"⟩, 2, none, 8, true, 7, 3, 63),
  (⟨"SectionTemplates$Fraction", "<init>", "(I)V"⟩, 2, none, 9, true, 8, 2, 42),
  (⟨"SectionTemplates$Whole", "put", "(J)V"⟩, 7, none, 5, false, 5, 0, 0),
  (⟨"SectionTemplates$Walker", "<init>", "(LSectionTemplates$Section;LSectionTemplates$Ground;LSectionTemplates$Arithmetic;)V"⟩, 4, none, 10, true, 9, 3, 63),
  (⟨"SectionTemplates$Areas", "<init>", "(LSectionTemplates$Section;LSectionTemplates$Ground;LSectionTemplates$Arithmetic;)V"⟩, 4, none, 11, true, 10, 3, 63),
  (⟨"SectionTemplates$Earthwork", "<init>", "()V"⟩, 1, none, 12, true, 11, 3, 63),
  (⟨"SectionTemplates", "unit", "(I)Z"⟩, 2, (some FieldType.boolean), 0, false, 0, 1, 21),
  (⟨"SectionTemplates$Reader", "collect", "(I)Z"⟩, 2, (some FieldType.boolean), 2, false, 2, 0, 0),
  (⟨"SectionTemplates", "read", "()I"⟩, 4, (some FieldType.int), 0, false, 0, 6, 138),
  (⟨"SectionTemplates$Reader", "parse", "(LSectionTemplates$Templates;)Z"⟩, 3, (some FieldType.boolean), 2, false, 2, 5, 116),
  (⟨"SectionTemplates$Templates", "empty", "()V"⟩, 1, none, 1, false, 1, 0, 0),
  (⟨"SectionTemplates$Reader", "template", "()V"⟩, 4, none, 2, false, 2, 4, 93),
  (⟨"SectionTemplates$Templates", "isFull", "()Z"⟩, 1, (some FieldType.boolean), 1, false, 1, 0, 0),
  (⟨"SectionTemplates$Reader", "expect", "(I)V"⟩, 2, none, 2, false, 2, 1, 20),
  (⟨"SectionTemplates$Reader", "skipBlanks", "()V"⟩, 1, none, 2, false, 2, 0, 0),
  (⟨"SectionTemplates$Reader", "sign", "()I"⟩, 1, (some FieldType.int), 2, false, 2, 0, 0),
  (⟨"SectionTemplates$Templates", "begin", "()V"⟩, 1, none, 1, false, 1, 0, 0),
  (⟨"SectionTemplates$Reader", "closeSteps", "()V"⟩, 2, none, 2, false, 2, 3, 63),
  (⟨"SectionTemplates$Templates", "kindOf", "(I)I"⟩, 2, (some FieldType.int), 1, false, 1, 2, 42),
  (⟨"SectionTemplates$Templates", "inside", "(I)I"⟩, 2, (some FieldType.int), 1, false, 1, 1, 21),
  (⟨"java/lang/Math", "min", "(II)I"⟩, 2, (some FieldType.int), 6, false, 99, 0, 0),
  (⟨"SectionTemplates$Templates", "aimHere", "(I)V"⟩, 2, none, 1, false, 1, 0, 0),
  (⟨"SectionTemplates$Reader", "openSteps", "()V"⟩, 1, none, 2, false, 2, 1, 20),
  (⟨"SectionTemplates$Templates", "markOthers", "(I)V"⟩, 2, none, 1, false, 1, 2, 42),
  (⟨"SectionTemplates$Templates", "addOrder", "(III)I"⟩, 5, (some FieldType.int), 1, false, 1, 0, 0),
  (⟨"SectionTemplates$Reader", "waitFor", "(I)V"⟩, 2, none, 2, false, 2, 0, 0),
  (⟨"SectionTemplates$Templates", "finish", "()V"⟩, 1, none, 1, false, 1, 0, 0),
  (⟨"SectionTemplates$Reader", "step", "(I)V"⟩, 5, none, 2, false, 2, 3, 69),
  (⟨"SectionTemplates$Reader", "kindBy", "(I)I"⟩, 1, (some FieldType.int), 2, false, 2, 0, 0),
  (⟨"SectionTemplates$Templates", "hasAllSteps", "()Z"⟩, 1, (some FieldType.boolean), 1, false, 1, 0, 0),
  (⟨"SectionTemplates$Reader", "choice", "()V"⟩, 3, none, 2, false, 2, 2, 47),
  (⟨"SectionTemplates$Reader", "conditionBy", "(I)I"⟩, 1, (some FieldType.int), 2, false, 2, 0, 0),
  (⟨"SectionTemplates$Reader", "number", "(I)I"⟩, 7, (some FieldType.int), 2, false, 2, 1, 21),
  (⟨"SectionTemplates$Reader", "isDigit", "(I)Z"⟩, 1, (some FieldType.boolean), 2, false, 2, 0, 0),
  (⟨"SectionTemplates$Templates", "addStep", "(III)I"⟩, 4, (some FieldType.int), 1, false, 1, 1, 24),
  (⟨"SectionTemplates$Reader", "signedNumber", "()I"⟩, 1, (some FieldType.int), 2, false, 2, 2, 47),
  (⟨"SectionTemplates$Reader", "forget", "()V"⟩, 1, none, 2, false, 2, 0, 0),
  (⟨"SectionTemplates$Section", "forget", "()V"⟩, 1, none, 7, false, 6, 0, 0),
  (⟨"SectionTemplates", "ground", "(II)Z"⟩, 3, (some FieldType.boolean), 0, false, 0, 2, 44),
  (⟨"SectionTemplates$Ground", "add", "(II)Z"⟩, 3, (some FieldType.boolean), 3, false, 3, 1, 22),
  (⟨"SectionTemplates", "within", "(III)Z"⟩, 3, (some FieldType.boolean), 0, false, 0, 0, 0),
  (⟨"SectionTemplates", "clear", "()V"⟩, 1, none, 0, false, 0, 1, 20),
  (⟨"SectionTemplates$Ground", "empty", "()V"⟩, 1, none, 3, false, 3, 0, 0),
  (⟨"SectionTemplates", "axis", "(II)Z"⟩, 3, (some FieldType.boolean), 0, false, 0, 1, 22),
  (⟨"SectionTemplates", "land", "(II)Z"⟩, 3, (some FieldType.boolean), 0, false, 0, 1, 22),
  (⟨"SectionTemplates", "isSide", "(I)Z"⟩, 1, (some FieldType.boolean), 0, false, 0, 0, 0),
  (⟨"SectionTemplates", "run", "(I)I"⟩, 2, (some FieldType.int), 0, false, 0, 7, 208),
  (⟨"SectionTemplates$Ground", "copy", "(LSectionTemplates$Ground;)V"⟩, 3, none, 3, false, 3, 0, 0),
  (⟨"SectionTemplates$Section", "begin", "(J)V"⟩, 3, none, 7, false, 6, 1, 22),
  (⟨"SectionTemplates$Side", "begin", "(J)V"⟩, 3, none, 8, false, 7, 0, 0),
  (⟨"SectionTemplates$Areas", "forget", "()V"⟩, 1, none, 11, false, 10, 0, 0),
  (⟨"SectionTemplates$Walker", "walk", "(LSectionTemplates$Side;LSectionTemplates$Templates;II)V"⟩, 12, none, 10, false, 9, 6, 177),
  (⟨"SectionTemplates$Templates", "startOf", "(I)I"⟩, 2, (some FieldType.int), 1, false, 1, 0, 0),
  (⟨"SectionTemplates$Templates", "endOf", "(I)I"⟩, 2, (some FieldType.int), 1, false, 1, 0, 0),
  (⟨"SectionTemplates$Templates", "firstOf", "(I)I"⟩, 2, (some FieldType.int), 1, false, 1, 2, 42),
  (⟨"SectionTemplates$Templates", "secondOf", "(I)I"⟩, 2, (some FieldType.int), 1, false, 1, 2, 42),
  (⟨"SectionTemplates$Templates", "targetOf", "(I)I"⟩, 2, (some FieldType.int), 1, false, 1, 2, 42),
  (⟨"SectionTemplates$Walker", "holds", "(IJ)Z"⟩, 6, (some FieldType.boolean), 10, false, 9, 4, 85),
  (⟨"SectionTemplates$Walker", "gapUp", "()J"⟩, 3, (some FieldType.long), 10, false, 9, 3, 63),
  (⟨"SectionTemplates$Side", "out", "(I)J"⟩, 2, (some FieldType.long), 8, false, 7, 2, 42),
  (⟨"SectionTemplates$Side", "inside", "(I)I"⟩, 2, (some FieldType.int), 8, false, 7, 1, 21),
  (⟨"SectionTemplates$Ground", "upper", "(J)J"⟩, 6, (some FieldType.long), 3, false, 3, 1, 24),
  (⟨"SectionTemplates$Ground", "pointsUpTo", "(J)I"⟩, 5, (some FieldType.int), 3, false, 3, 0, 0),
  (⟨"SectionTemplates$Side", "height", "(I)J"⟩, 2, (some FieldType.long), 8, false, 7, 2, 42),
  (⟨"SectionTemplates$Ground", "lower", "(J)J"⟩, 4, (some FieldType.long), 3, false, 3, 1, 24),
  (⟨"java/lang/Math", "abs", "(J)J"⟩, 2, (some FieldType.long), 6, false, 99, 0, 0),
  (⟨"SectionTemplates$Walker", "gapLow", "()J"⟩, 1, (some FieldType.long), 10, false, 9, 3, 63),
  (⟨"SectionTemplates$Walker", "choose", "(ZZ)Z"⟩, 3, (some FieldType.boolean), 10, false, 9, 1, 21),
  (⟨"SectionTemplates$Section", "addChoice", "(I)V"⟩, 2, none, 7, false, 6, 0, 0),
  (⟨"SectionTemplates$Walker", "slope", "(JJ)V"⟩, 8, none, 10, false, 9, 5, 150),
  (⟨"java/lang/Long", "compare", "(JJ)I"⟩, 4, (some FieldType.int), 13, false, 99, 0, 0),
  (⟨"SectionTemplates$Arithmetic", "ratio", "(LSectionTemplates$Fraction;JJ)V"⟩, 10, none, 4, false, 4, 1, 30),
  (⟨"SectionTemplates$Arithmetic", "commonOf", "(JJ)J"⟩, 11, (some FieldType.long), 4, false, 4, 0, 0),
  (⟨"SectionTemplates$Walker", "meet", "(IJJ)V"⟩, 18, none, 10, false, 9, 4, 113),
  (⟨"SectionTemplates$Ground", "nextPoint", "(IJ)I"⟩, 7, (some FieldType.int), 3, false, 3, 0, 0),
  (⟨"SectionTemplates$Ground", "outOf", "(II)J"⟩, 3, (some FieldType.long), 3, false, 3, 0, 0),
  (⟨"SectionTemplates$Ground", "levelOf", "(I)J"⟩, 2, (some FieldType.long), 3, false, 3, 0, 0),
  (⟨"SectionTemplates$Arithmetic", "add", "(LSectionTemplates$Fraction;LSectionTemplates$Fraction;LSectionTemplates$Fraction;I)V"⟩, 8, none, 4, false, 4, 3, 86),
  (⟨"SectionTemplates$Arithmetic", "findCommon", "(LSectionTemplates$Whole;LSectionTemplates$Whole;LSectionTemplates$Whole;)V"⟩, 5, none, 4, false, 4, 2, 62),
  (⟨"SectionTemplates$Whole", "copy", "(LSectionTemplates$Whole;)V"⟩, 4, none, 5, false, 5, 0, 0),
  (⟨"SectionTemplates$Whole", "eighteen", "(I)J"⟩, 3, (some FieldType.long), 5, false, 5, 0, 0),
  (⟨"SectionTemplates$Arithmetic", "divide", "(LSectionTemplates$Whole;LSectionTemplates$Whole;LSectionTemplates$Whole;)V"⟩, 13, none, 4, false, 4, 1, 30),
  (⟨"SectionTemplates$Whole", "factor", "()J"⟩, 1, (some FieldType.long), 5, false, 5, 0, 0),
  (⟨"SectionTemplates$Whole", "scale", "(LSectionTemplates$Whole;J)V"⟩, 11, none, 5, false, 5, 0, 0),
  (⟨"SectionTemplates$Whole", "beginDigits", "(I)V"⟩, 2, none, 5, false, 5, 0, 0),
  (⟨"SectionTemplates$Whole", "timesAt", "(LSectionTemplates$Whole;I)J"⟩, 10, (some FieldType.long), 5, false, 5, 0, 0),
  (⟨"SectionTemplates$Whole", "takeAway", "(LSectionTemplates$Whole;JI)V"⟩, 10, none, 5, false, 5, 0, 0),
  (⟨"SectionTemplates$Whole", "setDigit", "(IJ)V"⟩, 4, none, 5, false, 5, 0, 0),
  (⟨"SectionTemplates$Whole", "unscale", "(J)V"⟩, 9, none, 5, false, 5, 0, 0),
  (⟨"SectionTemplates$Whole", "product", "(LSectionTemplates$Whole;LSectionTemplates$Whole;)V"⟩, 11, none, 5, false, 5, 0, 0),
  (⟨"SectionTemplates$Whole", "compare", "(LSectionTemplates$Whole;)I"⟩, 3, (some FieldType.int), 5, false, 5, 0, 0),
  (⟨"SectionTemplates$Whole", "sum", "(LSectionTemplates$Whole;LSectionTemplates$Whole;)V"⟩, 11, none, 5, false, 5, 0, 0),
  (⟨"SectionTemplates$Whole", "difference", "(LSectionTemplates$Whole;LSectionTemplates$Whole;)V"⟩, 10, none, 5, false, 5, 0, 0),
  (⟨"SectionTemplates$Arithmetic", "product", "(LSectionTemplates$Fraction;LSectionTemplates$Fraction;LSectionTemplates$Fraction;Z)V"⟩, 5, none, 4, false, 4, 3, 86),
  (⟨"SectionTemplates$Side", "add", "(IJJJJ)V"⟩, 10, none, 8, false, 7, 0, 0),
  (⟨"SectionTemplates$Walker", "wall", "()V"⟩, 3, none, 10, false, 9, 3, 63),
  (⟨"SectionTemplates$Walker", "stride", "(IJJ)V"⟩, 6, none, 10, false, 9, 1, 29),
  (⟨"SectionTemplates$Section", "corners", "()I"⟩, 1, (some FieldType.int), 7, false, 6, 0, 0),
  (⟨"SectionTemplates", "corner", "(III)J"⟩, 8, (some FieldType.long), 0, false, 0, 3, 63),
  (⟨"SectionTemplates", "missing", "(I)J"⟩, 1, (some FieldType.long), 0, false, 0, 0, 0),
  (⟨"SectionTemplates$Section", "sideOf", "(I)LSectionTemplates$Side;"⟩, 2, (some (FieldType.object "SectionTemplates$Side")), 7, false, 6, 0, 0),
  (⟨"SectionTemplates$Section", "indexOf", "(I)I"⟩, 2, (some FieldType.int), 7, false, 6, 0, 0),
  (⟨"SectionTemplates$Side", "isEnd", "(I)Z"⟩, 2, (some FieldType.boolean), 8, false, 7, 0, 0),
  (⟨"SectionTemplates", "tell", "(LSectionTemplates$Fraction;II)J"⟩, 3, (some FieldType.long), 0, false, 0, 1, 22),
  (⟨"SectionTemplates", "code", "(I)I"⟩, 2, (some FieldType.int), 0, false, 0, 3, 63),
  (⟨"SectionTemplates$Side", "codeAt", "(I)I"⟩, 2, (some FieldType.int), 8, false, 7, 2, 42),
  (⟨"SectionTemplates", "ended", "(I)Z"⟩, 2, (some FieldType.boolean), 0, false, 0, 1, 21),
  (⟨"SectionTemplates$Section", "sideBy", "(I)LSectionTemplates$Side;"⟩, 2, (some (FieldType.object "SectionTemplates$Side")), 7, false, 6, 0, 0),
  (⟨"SectionTemplates", "passed", "(I)Z"⟩, 3, (some FieldType.boolean), 0, false, 0, 4, 87),
  (⟨"SectionTemplates$Side", "against", "(IJLSectionTemplates$Arithmetic;)I"⟩, 5, (some FieldType.int), 8, false, 7, 3, 63),
  (⟨"SectionTemplates$Arithmetic", "compare", "(LSectionTemplates$Fraction;J)I"⟩, 4, (some FieldType.int), 4, false, 4, 1, 30),
  (⟨"SectionTemplates", "condition", "(I)I"⟩, 2, (some FieldType.int), 0, false, 0, 1, 21),
  (⟨"SectionTemplates$Section", "choiceAt", "(I)I"⟩, 2, (some FieldType.int), 7, false, 6, 0, 0),
  (⟨"SectionTemplates", "area", "(ZI)J"⟩, 3, (some FieldType.long), 0, false, 0, 7, 183),
  (⟨"SectionTemplates$Areas", "settle", "()V"⟩, 2, none, 11, false, 10, 6, 162),
  (⟨"SectionTemplates$Areas", "startAt", "(LSectionTemplates$Side;)V"⟩, 2, none, 11, false, 10, 0, 0),
  (⟨"SectionTemplates$Areas", "findPiece", "()Z"⟩, 2, (some FieldType.boolean), 11, false, 10, 4, 87),
  (⟨"SectionTemplates$Areas", "measurePiece", "()V"⟩, 5, none, 11, false, 10, 5, 138),
  (⟨"SectionTemplates$Areas", "gapAt", "(LSectionTemplates$Fraction;J)V"⟩, 6, none, 11, false, 10, 4, 113),
  (⟨"SectionTemplates$Side", "levelUp", "(IJ)J"⟩, 5, (some FieldType.long), 8, false, 7, 3, 63),
  (⟨"SectionTemplates$Side", "runOf", "(I)J"⟩, 2, (some FieldType.long), 8, false, 7, 2, 42),
  (⟨"SectionTemplates$Side", "rise", "(I)J"⟩, 2, (some FieldType.long), 8, false, 7, 2, 42),
  (⟨"SectionTemplates$Side", "levelLow", "(I)J"⟩, 2, (some FieldType.long), 8, false, 7, 3, 63),
  (⟨"SectionTemplates$Areas", "addTriangle", "(LSectionTemplates$Fraction;LSectionTemplates$Fraction;)V"⟩, 3, none, 11, false, 10, 5, 134),
  (⟨"SectionTemplates$Areas", "addShare", "()V"⟩, 2, none, 11, false, 10, 4, 113),
  (⟨"SectionTemplates$Areas", "addTrapezium", "()V"⟩, 1, none, 11, false, 10, 5, 134),
  (⟨"SectionTemplates", "level", "(II)J"⟩, 7, (some FieldType.long), 0, false, 0, 4, 87),
  (⟨"SectionTemplates", "keep", "(I)I"⟩, 5, (some FieldType.int), 0, false, 0, 7, 183),
  (⟨"SectionTemplates$Earthwork", "add", "(LSectionTemplates$Fraction;JLSectionTemplates$Arithmetic;)V"⟩, 5, none, 12, false, 11, 2, 62),
  (⟨"SectionTemplates", "volume", "(ZI)J"⟩, 3, (some FieldType.long), 0, false, 0, 2, 44),
  (⟨"SectionTemplates", "count", "(I)I"⟩, 2, (some FieldType.int), 0, false, 0, 1, 20),
  (⟨"SectionTemplatesModel", "<init>", "()V"⟩, 2, none, 14, true, 12, 5, 122),
  (⟨"SectionTemplatesModel", "set", "(IJJ)V"⟩, 6, none, 14, false, 12, 4, 97),
  (⟨"SectionTemplatesModel", "size", "(J)J"⟩, 2, (some FieldType.long), 14, false, 12, 0, 0),
  (⟨"SectionTemplatesModel", "setNumber", "(IJ)V"⟩, 6, none, 14, false, 12, 0, 0),
  (⟨"SectionTemplatesModel", "reduce", "(I)V"⟩, 2, none, 14, false, 12, 3, 76),
  (⟨"SectionTemplatesModel", "common", "(II)V"⟩, 5, none, 14, false, 12, 2, 50),
  (⟨"SectionTemplatesModel", "copyNumber", "(II)V"⟩, 4, none, 14, false, 12, 0, 0),
  (⟨"SectionTemplatesModel", "isOdd", "(I)Z"⟩, 2, (some FieldType.boolean), 14, false, 12, 0, 0),
  (⟨"SectionTemplatesModel", "halve", "(I)V"⟩, 7, none, 14, false, 12, 1, 21),
  (⟨"SectionTemplatesModel", "trim", "(I)V"⟩, 2, none, 14, false, 12, 0, 0),
  (⟨"SectionTemplatesModel", "compareNumbers", "(II)I"⟩, 4, (some FieldType.int), 14, false, 12, 0, 0),
  (⟨"SectionTemplatesModel", "takeNumbers", "(III)V"⟩, 10, none, 14, false, 12, 1, 21),
  (⟨"SectionTemplatesModel", "addNumbers", "(III)V"⟩, 10, none, 14, false, 12, 0, 0),
  (⟨"SectionTemplatesModel", "divideNumbers", "(IIII)V"⟩, 7, none, 14, false, 12, 2, 50),
  (⟨"SectionTemplatesModel", "unit", "(I)Z"⟩, 2, (some FieldType.boolean), 14, false, 12, 0, 0),
  (⟨"SectionTemplatesModel", "read", "()I"⟩, 4, (some FieldType.int), 14, false, 12, 5, 108),
  (⟨"SectionTemplatesModel", "next", "()I"⟩, 1, (some FieldType.int), 14, false, 12, 0, 0),
  (⟨"SectionTemplatesModel", "eat", "(I)Z"⟩, 3, (some FieldType.boolean), 14, false, 12, 1, 20),
  (⟨"SectionTemplatesModel", "readTemplate", "()Z"⟩, 5, (some FieldType.boolean), 14, false, 12, 4, 84),
  (⟨"SectionTemplatesModel", "readAsk", "()Z"⟩, 3, (some FieldType.boolean), 14, false, 12, 3, 62),
  (⟨"SectionTemplatesModel", "readNumber", "(ZZ)Z"⟩, 9, (some FieldType.boolean), 14, false, 12, 1, 20),
  (⟨"SectionTemplatesModel", "open", "()Z"⟩, 1, (some FieldType.boolean), 14, false, 12, 2, 42),
  (⟨"SectionTemplatesModel", "row", "(III)V"⟩, 5, none, 14, false, 12, 0, 0),
  (⟨"SectionTemplatesModel", "readStep", "(I)Z"⟩, 3, (some FieldType.boolean), 14, false, 12, 2, 48),
  (⟨"SectionTemplatesModel", "close", "()Z"⟩, 2, (some FieldType.boolean), 14, false, 12, 3, 62),
  (⟨"SectionTemplatesModel", "ground", "(II)Z"⟩, 3, (some FieldType.boolean), 14, false, 12, 1, 22),
  (⟨"SectionTemplatesModel", "isIn", "(III)Z"⟩, 3, (some FieldType.boolean), 14, false, 12, 0, 0),
  (⟨"SectionTemplatesModel", "clear", "()V"⟩, 1, none, 14, false, 12, 0, 0),
  (⟨"SectionTemplatesModel", "axis", "(II)Z"⟩, 3, (some FieldType.boolean), 14, false, 12, 1, 22),
  (⟨"SectionTemplatesModel", "land", "(II)Z"⟩, 3, (some FieldType.boolean), 14, false, 12, 0, 0),
  (⟨"SectionTemplatesModel", "run", "(I)I"⟩, 2, (some FieldType.int), 14, false, 12, 10, 236),
  (⟨"SectionTemplatesModel", "walk", "(II)V"⟩, 6, none, 14, false, 12, 7, 184),
  (⟨"SectionTemplatesModel", "corner", "(I)V"⟩, 3, none, 14, false, 12, 5, 122),
  (⟨"SectionTemplatesModel", "slope", "(II)V"⟩, 19, none, 14, false, 12, 6, 146),
  (⟨"SectionTemplatesModel", "above", "()J"⟩, 7, (some FieldType.long), 14, false, 12, 1, 23),
  (⟨"SectionTemplatesModel", "line", "(J)V"⟩, 4, none, 14, false, 12, 0, 0),
  (⟨"SectionTemplatesModel", "isBeyond", "(IIII)Z"⟩, 11, (some FieldType.boolean), 14, false, 12, 0, 0),
  (⟨"SectionTemplatesModel", "times", "(III)V"⟩, 4, none, 14, false, 12, 4, 97),
  (⟨"SectionTemplatesModel", "multiplyNumbers", "(III)V"⟩, 13, none, 14, false, 12, 1, 21),
  (⟨"SectionTemplatesModel", "add", "(III)V"⟩, 4, none, 14, false, 12, 5, 123),
  (⟨"SectionTemplatesModel", "plus", "(IIII)V"⟩, 7, none, 14, false, 12, 4, 97),
  (⟨"SectionTemplatesModel", "wall", "()V"⟩, 4, none, 14, false, 12, 6, 146),
  (⟨"SectionTemplatesModel", "take", "(III)V"⟩, 4, none, 14, false, 12, 5, 123),
  (⟨"SectionTemplatesModel", "holds", "(II)Z"⟩, 5, (some FieldType.boolean), 14, false, 12, 2, 49),
  (⟨"SectionTemplatesModel", "turn", "()V"⟩, 4, none, 14, false, 12, 2, 45),
  (⟨"SectionTemplatesModel", "copy", "(II)V"⟩, 3, none, 14, false, 12, 1, 23),
  (⟨"SectionTemplatesModel", "areas", "()V"⟩, 3, none, 14, false, 12, 9, 214),
  (⟨"SectionTemplatesModel", "compare", "(II)I"⟩, 4, (some FieldType.int), 14, false, 12, 2, 53),
  (⟨"SectionTemplatesModel", "piece", "(I)V"⟩, 2, none, 14, false, 12, 8, 193),
  (⟨"SectionTemplatesModel", "between", "(III)V"⟩, 4, none, 14, false, 12, 7, 170),
  (⟨"SectionTemplatesModel", "groundAt", "(II)V"⟩, 5, none, 14, false, 12, 6, 146),
  (⟨"SectionTemplatesModel", "sectionAt", "(III)V"⟩, 4, none, 14, false, 12, 6, 146),
  (⟨"SectionTemplatesModel", "over", "(III)V"⟩, 4, none, 14, false, 12, 4, 97),
  (⟨"SectionTemplatesModel", "addHalf", "(III)V"⟩, 4, none, 14, false, 12, 6, 146),
  (⟨"SectionTemplatesModel", "corner", "(III)J"⟩, 4, (some FieldType.long), 14, false, 12, 2, 48),
  (⟨"SectionTemplatesModel", "isCorner", "(I)Z"⟩, 2, (some FieldType.boolean), 14, false, 12, 0, 0),
  (⟨"SectionTemplatesModel", "bad", "(I)J"⟩, 1, (some FieldType.long), 14, false, 12, 0, 0),
  (⟨"SectionTemplatesModel", "tell", "(II)J"⟩, 3, (some FieldType.long), 14, false, 12, 1, 26),
  (⟨"SectionTemplatesModel", "digits", "(II)J"⟩, 7, (some FieldType.long), 14, false, 12, 0, 0),
  (⟨"SectionTemplatesModel", "code", "(I)I"⟩, 2, (some FieldType.int), 14, false, 12, 1, 21),
  (⟨"SectionTemplatesModel", "ended", "(I)Z"⟩, 2, (some FieldType.boolean), 14, false, 12, 0, 0),
  (⟨"SectionTemplatesModel", "passed", "(I)Z"⟩, 4, (some FieldType.boolean), 14, false, 12, 5, 122),
  (⟨"SectionTemplatesModel", "condition", "(I)I"⟩, 2, (some FieldType.int), 14, false, 12, 0, 0),
  (⟨"SectionTemplatesModel", "area", "(ZI)J"⟩, 3, (some FieldType.long), 14, false, 12, 2, 48),
  (⟨"SectionTemplatesModel", "level", "(II)J"⟩, 6, (some FieldType.long), 14, false, 12, 7, 169),
  (⟨"SectionTemplatesModel", "keep", "(I)I"⟩, 2, (some FieldType.int), 14, false, 12, 4, 98),
  (⟨"SectionTemplatesModel", "whole", "(II)V"⟩, 3, none, 14, false, 12, 3, 76),
  (⟨"SectionTemplatesModel", "volume", "(ZI)J"⟩, 5, (some FieldType.long), 14, false, 12, 6, 146),
  (⟨"SectionTemplatesModel", "count", "(I)I"⟩, 2, (some FieldType.int), 14, false, 12, 0, 0),
  (⟨"SectionTemplatesLaw", "law", "([I)Z"⟩, 4, (some FieldType.boolean), 15, false, 99, 11, 257)]
def am_m (k : Nat) : MethodName × Nat × Option FieldType × Nat × Bool × Nat × Nat × Nat := (am_mL[k]?).getD (⟨"", "", ""⟩, 0, none, 99, false, 99, 0, 0)
def am_name (k : Nat) : MethodName := (am_m k).1
def am_mxl (k : Nat) : Nat := (am_m k).2.1
def am_ret (k : Nat) : Option FieldType := (am_m k).2.2.1
def am_own (k : Nat) : Nat := (am_m k).2.2.2.1
def am_isi (k : Nat) : Bool := (am_m k).2.2.2.2.1
def am_rcv (k : Nat) : Nat := (am_m k).2.2.2.2.2.1
def am_fr (k : Nat) : Nat := (am_m k).2.2.2.2.2.2.1
def am_lc (k : Nat) : Nat := (am_m k).2.2.2.2.2.2.2
def am_ctor (k ci : Nat) : Bool := am_isi k && (am_rcv k == ci)
def am_fnd {α : Type} : List ((Nat × Nat) × α) → Nat → Nat → Option α
  | [], _, _ => none
  | q :: r, o, j => match Nat.beq q.1.1 o && Nat.beq q.1.2 j with
    | true => some q.2
    | false => am_fnd r o j
def am_fldL : List ((Nat × Nat) × (Nat × Nat × Nat)) := [((0, 12), (0, 1, 468)), ((0, 16), (0, 2, 469)), ((0, 24), (0, 0, 467)), ((0, 31), (0, 3, 470)), ((0, 35), (0, 4, 471)), ((0, 39), (0, 7, 474)), ((0, 43), (0, 8, 475)), ((0, 49), (0, 9, 476)), ((0, 56), (0, 10, 477)), ((0, 65), (0, 11, 478)), ((0, 72), (0, 12, 479)), ((0, 79), (0, 13, 480)), ((0, 83), (0, 14, 481)), ((0, 91), (0, 17, 484)), ((0, 103), (2, 2, 145)), ((0, 110), (1, 7, 116)), ((0, 126), (0, 5, 472)), ((0, 129), (0, 6, 473)), ((0, 146), (6, 0, 335)), ((0, 154), (6, 1, 338)), ((0, 173), (7, 0, 290)), ((0, 181), (7, 8, 307)), ((0, 184), (7, 9, 310)), ((0, 204), (6, 2, 340)), ((0, 211), (7, 7, 303)), ((0, 214), (7, 6, 300)), ((0, 227), (10, 3, 397)), ((0, 230), (10, 4, 399)), ((0, 246), (0, 15, 482)), ((0, 249), (0, 16, 483)), ((0, 255), (11, 4, 453)), ((0, 258), (3, 2, 175)), ((0, 259), (2, 1, 144)), ((0, 260), (6, 4, 343)), ((0, 267), (8, 0, 271)), ((0, 268), (8, 1, 275)), ((0, 272), (8, 2, 279)), ((11, 14), (10, 3, 396)), ((11, 20), (10, 4, 398)), ((11, 23), (10, 9, 404)), ((11, 26), (10, 10, 405)), ((11, 29), (10, 11, 406)), ((11, 32), (10, 12, 407)), ((11, 35), (10, 13, 408)), ((11, 38), (10, 0, 393)), ((11, 42), (10, 1, 394)), ((11, 46), (10, 2, 395)), ((11, 50), (6, 0, 334)), ((11, 56), (10, 6, 401)), ((11, 59), (10, 5, 400)), ((11, 81), (8, 0, 270)), ((11, 92), (10, 7, 402)), ((11, 95), (10, 8, 403)), ((11, 99), (7, 6, 298)), ((11, 104), (6, 1, 337)), ((11, 115), (7, 0, 289)), ((11, 130), (7, 8, 305)), ((4, 14), (4, 0, 209)), ((4, 20), (4, 1, 210)), ((4, 23), (4, 2, 211)), ((4, 26), (4, 3, 212)), ((4, 29), (4, 4, 213)), ((4, 32), (4, 5, 214)), ((4, 35), (4, 6, 215)), ((4, 38), (4, 7, 216)), ((4, 41), (4, 8, 217)), ((4, 44), (4, 9, 218)), ((4, 47), (4, 10, 219)), ((4, 60), (8, 0, 268)), ((4, 66), (8, 1, 274)), ((4, 71), (8, 2, 278)), ((4, 100), (5, 1, 202)), ((12, 14), (11, 0, 448)), ((12, 20), (11, 1, 449)), ((12, 23), (11, 2, 450)), ((12, 26), (11, 3, 451)), ((12, 32), (11, 4, 452)), ((12, 36), (8, 1, 273)), ((12, 39), (8, 2, 277)), ((12, 62), (5, 1, 201)), ((12, 66), (8, 0, 269)), ((9, 12), (8, 1, 272)), ((9, 18), (8, 2, 276)), ((3, 9), (3, 0, 172)), ((3, 15), (3, 1, 173)), ((3, 24), (3, 2, 174)), ((2, 9), (2, 0, 142)), ((2, 15), (2, 5, 149)), ((2, 18), (2, 4, 148)), ((2, 22), (2, 1, 143)), ((2, 31), (2, 2, 146)), ((2, 34), (2, 3, 147)), ((2, 38), (1, 7, 117)), ((2, 56), (2, 6, 150)), ((7, 14), (6, 0, 332)), ((7, 20), (6, 1, 336)), ((7, 23), (6, 3, 341)), ((7, 31), (6, 2, 339)), ((7, 35), (6, 4, 342)), ((7, 39), (7, 6, 297)), ((8, 9), (7, 1, 291)), ((8, 15), (7, 2, 292)), ((8, 19), (7, 3, 293)), ((8, 22), (7, 4, 294)), ((8, 25), (7, 5, 295)), ((8, 33), (7, 8, 304)), ((8, 37), (7, 9, 308)), ((8, 40), (7, 0, 287)), ((8, 44), (7, 6, 296)), ((8, 47), (7, 7, 302)), ((1, 9), (1, 0, 108)), ((1, 15), (1, 1, 109)), ((1, 18), (1, 2, 110)), ((1, 21), (1, 3, 111)), ((1, 24), (1, 4, 112)), ((1, 27), (1, 5, 113)), ((1, 31), (1, 7, 115)), ((1, 34), (1, 6, 114)), ((10, 14), (9, 4, 367)), ((10, 20), (9, 5, 368)), ((10, 23), (9, 6, 369)), ((10, 26), (9, 0, 363)), ((10, 30), (9, 1, 364)), ((10, 34), (9, 2, 365)), ((10, 38), (6, 0, 333)), ((10, 44), (9, 3, 366)), ((10, 56), (7, 7, 301)), ((10, 89), (7, 0, 288)), ((10, 119), (7, 6, 299)), ((10, 137), (7, 8, 306)), ((10, 146), (7, 9, 309)), ((5, 15), (5, 0, 199)), ((5, 23), (5, 1, 200)), ((14, 1), (12, 1, 1126)), ((14, 7), (12, 0, 1125)), ((14, 44), (12, 2, 1127)), ((14, 83), (12, 3, 1128)), ((14, 86), (12, 7, 1132)), ((14, 89), (12, 8, 1133)), ((14, 92), (12, 9, 1134)), ((14, 95), (12, 10, 1135)), ((14, 98), (12, 11, 1136)), ((14, 101), (12, 15, 1140)), ((14, 104), (12, 17, 1142)), ((14, 107), (12, 18, 1143)), ((14, 111), (12, 22, 1147)), ((14, 114), (12, 24, 1149)), ((14, 117), (12, 26, 1151)), ((14, 121), (12, 28, 1153)), ((14, 124), (12, 38, 1163)), ((14, 131), (12, 4, 1129)), ((14, 135), (12, 5, 1130)), ((14, 142), (12, 6, 1131)), ((14, 151), (12, 14, 1139)), ((14, 154), (12, 13, 1138)), ((14, 167), (12, 16, 1141)), ((14, 186), (12, 12, 1137)), ((14, 189), (12, 23, 1148)), ((14, 192), (12, 27, 1152)), ((14, 201), (12, 19, 1144)), ((14, 204), (12, 20, 1145)), ((14, 207), (12, 21, 1146)), ((14, 210), (12, 34, 1159)), ((14, 213), (12, 35, 1160)), ((14, 216), (12, 36, 1161)), ((14, 220), (12, 31, 1156)), ((14, 223), (12, 29, 1154)), ((14, 226), (12, 30, 1155)), ((14, 239), (12, 25, 1150)), ((14, 242), (12, 32, 1157)), ((14, 251), (12, 33, 1158)), ((14, 318), (12, 37, 1162))]
def am_met_0 : List ((Nat × Nat) × (Nat × Nat × Nat × Nat × Nat × Nat)) := [((0, 3), (3, 0, 0, 99, 0, 0)), ((0, 11), (2, 1, 0, 104, 105, 0)), ((0, 21), (2, 2, 1, 138, 139, 0)), ((0, 30), (2, 3, 0, 168, 169, 0)), ((0, 48), (2, 4, 0, 186, 187, 0)), ((0, 55), (2, 7, 0, 245, 246, 0)), ((0, 62), (2, 11, 3, 357, 358, 0)), ((0, 71), (2, 12, 3, 387, 388, 0)), ((0, 78), (2, 13, 0, 440, 441, 0)), ((0, 88), (2, 9, 1, 466, 258, 0)), ((0, 95), (1, 15, 1, 526, 527, 528)), ((0, 99), (1, 17, 1, 534, 535, 536)), ((0, 106), (1, 44, 0, 642, 643, 644)), ((0, 109), (1, 45, 0, 646, 647, 648)), ((0, 113), (1, 47, 2, 654, 655, 656)), ((0, 117), (1, 50, 0, 667, 668, 669)), ((0, 122), (0, 48, 3, 677, 661, 0)), ((0, 132), (0, 53, 1, 682, 683, 0)), ((0, 135), (1, 55, 1, 689, 690, 691)), ((0, 141), (1, 56, 1, 694, 695, 696)), ((0, 145), (1, 58, 0, 702, 703, 704)), ((0, 150), (1, 59, 4, 706, 707, 708)), ((0, 157), (1, 105, 0, 896, 897, 898)), ((0, 161), (0, 107, 1, 904, 905, 0))]
def am_met_1 : List ((Nat × Nat) × (Nat × Nat × Nat × Nat × Nat × Nat)) := [((0, 165), (1, 108, 1, 909, 910, 911)), ((0, 169), (1, 109, 1, 913, 914, 915)), ((0, 178), (1, 110, 1, 917, 918, 919)), ((0, 187), (0, 111, 3, 921, 922, 0)), ((0, 191), (1, 67, 1, 925, 740, 741)), ((0, 194), (1, 71, 1, 926, 759, 760)), ((0, 197), (1, 79, 3, 927, 789, 790)), ((0, 201), (1, 113, 1, 932, 933, 934)), ((0, 208), (1, 115, 1, 940, 941, 942)), ((0, 217), (1, 117, 3, 948, 949, 950)), ((0, 221), (1, 120, 1, 963, 964, 965)), ((0, 224), (1, 122, 0, 971, 972, 973)), ((0, 233), (4, 5, 1, 1037, 767, 0)), ((0, 239), (1, 127, 2, 1038, 997, 998)), ((0, 243), (1, 130, 1, 1039, 1011, 1012)), ((0, 252), (1, 136, 3, 1044, 1045, 1046)), ((0, 275), (1, 88, 1, 924, 828, 829)), ((11, 3), (3, 0, 0, 390, 0, 0)), ((11, 11), (2, 9, 1, 392, 258, 0)), ((11, 63), (1, 79, 3, 975, 789, 790)), ((11, 69), (1, 123, 1, 976, 978, 23)), ((11, 74), (1, 124, 0, 981, 983, 24)), ((11, 78), (1, 125, 0, 986, 988, 25)), ((11, 85), (1, 131, 2, 1021, 1023, 27))]
def am_met_2 : List ((Nat × Nat) × (Nat × Nat × Nat × Nat × Nat × Nat)) := [((11, 89), (1, 133, 0, 1029, 1031, 29)), ((11, 107), (1, 117, 3, 985, 949, 950)), ((11, 111), (1, 126, 2, 990, 992, 26)), ((11, 116), (1, 82, 2, 1015, 804, 805)), ((11, 122), (1, 83, 2, 1016, 808, 809)), ((11, 126), (1, 110, 1, 1017, 918, 919)), ((11, 133), (1, 85, 4, 1014, 816, 817)), ((11, 139), (1, 101, 4, 1019, 881, 882)), ((11, 143), (1, 67, 1, 1020, 740, 741)), ((11, 147), (1, 69, 1, 994, 751, 752)), ((11, 151), (1, 72, 1, 995, 763, 764)), ((11, 154), (1, 127, 2, 996, 997, 998)), ((11, 158), (1, 130, 1, 1010, 1011, 1012)), ((11, 161), (1, 132, 0, 1025, 1027, 28)), ((4, 3), (3, 0, 0, 189, 0, 0)), ((4, 11), (2, 5, 1, 192, 193, 0)), ((4, 50), (4, 5, 1, 792, 767, 0)), ((4, 56), (0, 80, 2, 793, 794, 0)), ((4, 67), (1, 10, 1, 797, 264, 265)), ((4, 74), (0, 78, 2, 798, 786, 0)), ((4, 80), (1, 86, 3, 819, 821, 20)), ((4, 84), (1, 89, 3, 831, 832, 833)), ((4, 87), (1, 97, 2, 864, 865, 866)), ((4, 91), (1, 98, 1, 868, 869, 870))]
def am_met_3 : List ((Nat × Nat) × (Nat × Nat × Nat × Nat × Nat × Nat)) := [((4, 94), (1, 99, 2, 872, 873, 874)), ((4, 97), (1, 100, 2, 876, 877, 878)), ((4, 103), (1, 90, 0, 835, 836, 837)), ((4, 107), (1, 91, 2, 839, 840, 841)), ((4, 111), (1, 92, 1, 843, 844, 845)), ((4, 114), (1, 93, 2, 847, 848, 849)), ((4, 119), (1, 94, 3, 851, 852, 853)), ((4, 123), (1, 95, 2, 856, 857, 858)), ((4, 127), (1, 96, 1, 860, 861, 862)), ((4, 130), (1, 87, 1, 823, 824, 825)), ((4, 134), (1, 88, 1, 827, 828, 829)), ((12, 3), (3, 0, 0, 443, 0, 0)), ((12, 11), (2, 5, 1, 445, 193, 0)), ((12, 31), (2, 9, 1, 447, 258, 0)), ((12, 42), (1, 89, 3, 1048, 832, 833)), ((12, 48), (1, 99, 2, 1049, 873, 874)), ((12, 56), (1, 10, 1, 1052, 264, 265)), ((12, 60), (1, 97, 2, 1053, 865, 866)), ((12, 69), (1, 87, 1, 1054, 824, 825)), ((9, 1), (3, 0, 0, 260, 0, 0)), ((9, 9), (2, 5, 1, 262, 193, 0)), ((9, 21), (1, 10, 1, 263, 264, 265)), ((3, 3), (3, 0, 0, 171, 0, 0)), ((3, 20), (0, 48, 3, 660, 661, 0))]
def am_met_4 : List ((Nat × Nat) × (Nat × Nat × Nat × Nat × Nat × Nat)) := [((3, 28), (1, 70, 1, 754, 756, 15)), ((2, 3), (3, 0, 0, 141, 0, 0)), ((2, 26), (1, 18, 0, 538, 539, 540)), ((2, 39), (1, 19, 0, 542, 544, 0)), ((2, 42), (1, 22, 0, 554, 556, 2)), ((2, 45), (1, 20, 0, 546, 547, 548)), ((2, 49), (1, 21, 1, 550, 552, 1)), ((2, 53), (1, 24, 0, 562, 563, 564)), ((2, 59), (1, 23, 0, 558, 560, 3)), ((2, 63), (1, 25, 0, 566, 568, 4)), ((2, 66), (1, 34, 0, 602, 603, 604)), ((2, 69), (1, 35, 1, 606, 608, 8)), ((2, 72), (0, 36, 1, 610, 611, 0)), ((2, 76), (1, 37, 0, 613, 614, 615)), ((2, 79), (1, 38, 0, 617, 619, 9)), ((2, 82), (1, 40, 1, 624, 626, 10)), ((2, 85), (1, 43, 0, 638, 640, 11)), ((2, 88), (1, 42, 3, 633, 634, 635)), ((2, 92), (0, 39, 1, 621, 622, 0)), ((2, 95), (1, 30, 0, 586, 588, 6)), ((2, 98), (1, 33, 1, 598, 600, 7)), ((2, 101), (1, 26, 1, 570, 571, 572)), ((2, 104), (1, 29, 1, 582, 583, 584)), ((2, 107), (1, 31, 1, 590, 591, 592))]
def am_met_5 : List ((Nat × Nat) × (Nat × Nat × Nat × Nat × Nat × Nat)) := [((2, 110), (1, 32, 3, 594, 595, 596)), ((2, 113), (0, 41, 1, 628, 629, 0)), ((2, 118), (4, 1, 2, 632, 579, 0)), ((7, 3), (3, 0, 0, 248, 0, 0)), ((7, 11), (2, 8, 1, 251, 252, 0)), ((7, 27), (1, 57, 1, 698, 699, 700)), ((8, 3), (3, 0, 0, 254, 0, 0)), ((8, 30), (2, 9, 1, 257, 258, 0)), ((8, 51), (1, 110, 1, 952, 918, 919)), ((8, 55), (1, 118, 2, 953, 954, 955)), ((8, 61), (1, 67, 1, 957, 740, 741)), ((8, 65), (0, 78, 2, 958, 786, 0)), ((8, 70), (1, 68, 1, 743, 745, 14)), ((8, 74), (4, 0, 2, 748, 197, 0)), ((8, 80), (1, 71, 1, 1000, 759, 760)), ((8, 83), (1, 128, 1, 1001, 1002, 1003)), ((8, 88), (1, 129, 1, 1006, 1007, 1008)), ((8, 91), (4, 1, 2, 747, 579, 0)), ((1, 3), (3, 0, 0, 107, 0, 0)), ((1, 37), (1, 32, 3, 637, 595, 596)), ((1, 41), (1, 27, 1, 574, 576, 5)), ((1, 45), (4, 1, 2, 578, 579, 0)), ((1, 51), (4, 0, 2, 581, 197, 0)), ((10, 3), (3, 0, 0, 360, 0, 0))]
def am_met_6 : List ((Nat × Nat) × (Nat × Nat × Nat × Nat × Nat × Nat)) := [((10, 11), (2, 9, 1, 362, 258, 0)), ((10, 47), (1, 60, 1, 710, 711, 712)), ((10, 53), (1, 61, 1, 714, 715, 716)), ((10, 62), (1, 26, 1, 718, 571, 572)), ((10, 65), (1, 62, 1, 719, 720, 721)), ((10, 68), (1, 63, 1, 723, 724, 725)), ((10, 71), (1, 64, 1, 727, 728, 729)), ((10, 74), (1, 65, 2, 731, 733, 12)), ((10, 78), (1, 75, 2, 773, 775, 17)), ((10, 82), (1, 77, 2, 781, 783, 18)), ((10, 86), (1, 103, 0, 888, 890, 21)), ((10, 93), (1, 104, 3, 892, 894, 22)), ((10, 99), (1, 102, 5, 884, 885, 886)), ((10, 103), (1, 76, 1, 777, 778, 779)), ((10, 106), (1, 66, 0, 735, 737, 13)), ((10, 110), (4, 5, 1, 766, 767, 0)), ((10, 116), (1, 74, 0, 769, 771, 16)), ((10, 122), (1, 67, 1, 739, 740, 741)), ((10, 126), (1, 69, 1, 750, 751, 752)), ((10, 131), (1, 71, 1, 758, 759, 760)), ((10, 134), (1, 72, 1, 762, 763, 764)), ((10, 140), (1, 79, 3, 788, 789, 790)), ((10, 149), (0, 78, 2, 785, 786, 0)), ((10, 155), (1, 81, 3, 799, 801, 19))]
def am_met_7 : List ((Nat × Nat) × (Nat × Nat × Nat × Nat × Nat × Nat)) := [((10, 158), (1, 85, 4, 815, 816, 817)), ((10, 161), (1, 101, 4, 880, 881, 882)), ((10, 165), (1, 82, 2, 803, 804, 805)), ((10, 169), (1, 83, 2, 807, 808, 809)), ((10, 173), (1, 84, 1, 811, 812, 813)), ((5, 3), (3, 0, 0, 195, 0, 0)), ((5, 9), (4, 0, 2, 196, 197, 0)), ((15, 9), (2, 0, 0, 96, 97, 0)), ((15, 12), (2, 139, 0, 1065, 1066, 0)), ((15, 13), (1, 14, 1, 522, 523, 524)), ((15, 17), (1, 153, 1, 1244, 1245, 1246)), ((15, 18), (1, 16, 0, 530, 531, 532)), ((15, 22), (1, 154, 0, 1248, 1249, 1250)), ((15, 23), (1, 46, 2, 650, 651, 652)), ((15, 27), (1, 164, 2, 1291, 1292, 1293)), ((15, 28), (1, 49, 0, 663, 664, 665)), ((15, 31), (1, 166, 0, 1300, 1301, 1302)), ((15, 32), (1, 51, 2, 671, 672, 673)), ((15, 35), (1, 167, 2, 1304, 1305, 1306)), ((15, 36), (1, 52, 2, 678, 679, 680)), ((15, 39), (1, 168, 2, 1308, 1309, 1310)), ((15, 40), (1, 54, 1, 685, 686, 687)), ((15, 44), (1, 169, 1, 1312, 1313, 1314)), ((15, 45), (1, 106, 3, 900, 901, 902))]
def am_met_8 : List ((Nat × Nat) × (Nat × Nat × Nat × Nat × Nat × Nat)) := [((15, 49), (1, 193, 3, 1410, 1411, 1412)), ((15, 50), (1, 112, 1, 928, 929, 930)), ((15, 53), (1, 198, 1, 1430, 1431, 1432)), ((15, 54), (1, 114, 1, 936, 937, 938)), ((15, 57), (1, 199, 1, 1434, 1435, 1436)), ((15, 58), (1, 116, 1, 944, 945, 946)), ((15, 61), (1, 200, 1, 1438, 1439, 1440)), ((15, 62), (1, 119, 1, 959, 960, 961)), ((15, 65), (1, 201, 1, 1442, 1443, 1444)), ((15, 66), (1, 121, 2, 967, 968, 969)), ((15, 70), (1, 202, 2, 1446, 1447, 1448)), ((15, 71), (1, 134, 2, 1033, 1034, 1035)), ((15, 75), (1, 203, 2, 1450, 1451, 1452)), ((15, 76), (1, 135, 1, 1040, 1041, 1042)), ((15, 79), (1, 204, 1, 1454, 1455, 1456)), ((15, 80), (1, 137, 2, 1055, 1056, 1057)), ((15, 83), (1, 206, 2, 1462, 1463, 1464)), ((15, 84), (1, 138, 1, 1059, 1060, 1061)), ((15, 87), (1, 207, 1, 1467, 1468, 1469)), ((14, 12), (1, 148, 1, 1104, 1106, 37)), ((14, 18), (1, 145, 2, 1091, 1093, 34)), ((14, 22), (1, 149, 2, 1108, 1110, 38)), ((14, 26), (1, 151, 3, 1116, 1118, 40)), ((14, 30), (1, 142, 2, 1078, 1080, 31))]
def am_met_9 : List ((Nat × Nat) × (Nat × Nat × Nat × Nat × Nat × Nat)) := [((14, 34), (1, 147, 1, 1099, 1101, 36)), ((14, 37), (1, 150, 3, 1112, 1114, 39)), ((14, 40), (1, 146, 1, 1095, 1097, 35)), ((14, 47), (1, 144, 2, 1087, 1089, 33)), ((14, 51), (1, 152, 4, 1121, 1123, 41)), ((14, 55), (0, 141, 1, 1075, 1076, 0)), ((14, 59), (1, 143, 1, 1083, 1085, 32)), ((14, 62), (1, 177, 3, 1345, 1347, 58)), ((14, 65), (1, 179, 4, 1353, 1355, 60)), ((14, 70), (1, 197, 2, 1426, 1428, 76)), ((14, 76), (3, 0, 0, 1068, 0, 0)), ((14, 127), (1, 140, 3, 1071, 1073, 30)), ((14, 138), (1, 155, 0, 1252, 1254, 42)), ((14, 157), (1, 161, 3, 1279, 1281, 48)), ((14, 160), (1, 159, 2, 1268, 1270, 46)), ((14, 164), (1, 156, 1, 1256, 1258, 43)), ((14, 170), (1, 160, 0, 1275, 1277, 47)), ((14, 174), (1, 158, 0, 1264, 1266, 45)), ((14, 177), (1, 162, 1, 1283, 1285, 49)), ((14, 180), (1, 163, 0, 1287, 1289, 50)), ((14, 183), (1, 157, 0, 1260, 1262, 44)), ((14, 197), (0, 165, 3, 1297, 1298, 0)), ((14, 229), (1, 174, 1, 1333, 1335, 55)), ((14, 235), (1, 173, 0, 1329, 1331, 54))]
def am_met_10 : List ((Nat × Nat) × (Nat × Nat × Nat × Nat × Nat × Nat)) := [((14, 245), (1, 171, 1, 1321, 1323, 52)), ((14, 248), (1, 181, 3, 1361, 1363, 62)), ((14, 255), (1, 175, 4, 1337, 1339, 56)), ((14, 259), (1, 176, 3, 1341, 1343, 57)), ((14, 262), (1, 178, 3, 1349, 1351, 59)), ((14, 265), (1, 172, 2, 1325, 1327, 53)), ((14, 268), (1, 180, 0, 1357, 1359, 61)), ((14, 271), (1, 182, 2, 1365, 1367, 63)), ((14, 275), (1, 184, 2, 1373, 1375, 65)), ((14, 278), (1, 170, 2, 1316, 1318, 51)), ((14, 281), (1, 183, 0, 1369, 1371, 64)), ((14, 284), (1, 185, 0, 1377, 1379, 66)), ((14, 287), (1, 186, 2, 1381, 1383, 67)), ((14, 290), (1, 191, 3, 1401, 1403, 72)), ((14, 293), (1, 189, 2, 1393, 1395, 70)), ((14, 296), (1, 190, 3, 1397, 1399, 71)), ((14, 299), (1, 188, 3, 1389, 1391, 69)), ((14, 302), (1, 192, 3, 1405, 1407, 73)), ((14, 305), (1, 187, 1, 1385, 1387, 68)), ((14, 308), (1, 194, 1, 1414, 1416, 74)), ((14, 311), (0, 195, 1, 1418, 1419, 0)), ((14, 315), (1, 196, 2, 1422, 1424, 75)), ((14, 321), (1, 205, 2, 1458, 1460, 77))]
def am_metL : List ((Nat × Nat) × (Nat × Nat × Nat × Nat × Nat × Nat)) := am_met_0 ++ (am_met_1 ++ (am_met_2 ++ (am_met_3 ++ (am_met_4 ++ (am_met_5 ++ (am_met_6 ++ (am_met_7 ++ (am_met_8 ++ (am_met_9 ++ (am_met_10))))))))))
def am_newL : List ((Nat × Nat) × (Nat × Nat × Nat × Nat)) := [((0, 9), (1, 102, 103, 80)), ((0, 19), (2, 136, 137, 81)), ((0, 28), (3, 166, 167, 82)), ((0, 46), (4, 184, 185, 83)), ((0, 53), (6, 243, 244, 86)), ((0, 60), (9, 355, 356, 89)), ((0, 69), (10, 385, 386, 90)), ((0, 76), (11, 438, 439, 91)), ((0, 86), (8, 465, 256, 88)), ((11, 9), (8, 391, 256, 88)), ((4, 9), (5, 190, 191, 84)), ((12, 9), (5, 444, 191, 84)), ((12, 29), (8, 446, 256, 88)), ((9, 7), (5, 261, 191, 84)), ((7, 9), (7, 249, 250, 87)), ((8, 28), (8, 255, 256, 88)), ((10, 9), (8, 361, 256, 88)), ((15, 7), (0, 94, 95, 79)), ((15, 10), (12, 1063, 1064, 92))]
def am_ldiL : List ((Nat × Nat) × (Int32 × Nat)) := [((0, 38), (1000000, 183)), ((0, 120), (-100000, 675)), ((0, 121), (100000, 676)), ((11, 73), (1000000, 980)), ((4, 118), (1000000, 796)), ((3, 18), (-100000, 658)), ((3, 19), (100000, 659)), ((2, 117), (100000, 631)), ((14, 50), (65000, 1120)), ((14, 82), (67600, 1069)), ((14, 110), (1000000, 1070)), ((14, 195), (-100000, 1295)), ((14, 196), (100000, 1296))]
def am_ldlL : List ((Nat × Nat) × (Int64 × Nat)) := [((0, 139), (1000, 693)), ((0, 263), (-2, 907)), ((0, 265), (-1, 908)), ((11, 137), (2, 1018)), ((12, 52), (1000, 1050)), ((12, 54), (2, 1051)), ((8, 86), (1000, 1005)), ((10, 97), (1000, 749)), ((5, 21), (1000000000, 267)), ((5, 27), (999999999, 855)), ((14, 10), (1000000000, 1082)), ((14, 16), (2, 1103)), ((14, 68), (-1, 1409)), ((14, 74), (-2, 1421)), ((14, 145), (1000000, 1272)), ((14, 147), (10, 1273)), ((14, 149), (48, 1274)), ((14, 233), (1000, 1320)), ((14, 324), (500, 1466))]
def am_fld (o j : Nat) : Option (Nat × Nat) := (am_fnd am_fldL o j).map fun q => (q.1, q.2.1)
def am_met (o j : Nat) : Option (Nat × Nat × Nat) := (am_fnd am_metL o j).map fun q => (q.1, q.2.1, q.2.2.1)
def am_newc (o j : Nat) : Option Nat := (am_fnd am_newL o j).map fun q => q.1
def am_ldi (o j : Nat) : Option Int32 := (am_fnd am_ldiL o j).map fun q => q.1
def am_ldl (o j : Nat) : Option Int64 := (am_fnd am_ldlL o j).map fun q => q.1
def am_NF : List (String × Nat × String × String × String × String) := [("SectionTemplates", 110, "SectionTemplates$Templates", "size", "I", "SectionTemplates"), ("SectionTemplates$Reader", 38, "SectionTemplates$Templates", "size", "I", "SectionTemplates"), ("SectionTemplates", 259, "SectionTemplates$Reader", "size", "I", "SectionTemplates"), ("SectionTemplates", 103, "SectionTemplates$Reader", "at", "I", "SectionTemplates"), ("SectionTemplates", 258, "SectionTemplates$Ground", "size", "I", "SectionTemplates"), ("SectionTemplates$Earthwork", 62, "SectionTemplates$Whole", "size", "I", "SectionTemplates"), ("SectionTemplates$Arithmetic", 100, "SectionTemplates$Whole", "size", "I", "SectionTemplates"), ("SectionTemplates$Arithmetic", 60, "SectionTemplates$Fraction", "sign", "I", "SectionTemplates"), ("SectionTemplates$Earthwork", 66, "SectionTemplates$Fraction", "sign", "I", "SectionTemplates"), ("SectionTemplates$Areas", 81, "SectionTemplates$Fraction", "sign", "I", "SectionTemplates"), ("SectionTemplates", 267, "SectionTemplates$Fraction", "sign", "I", "SectionTemplates"), ("SectionTemplates$Earthwork", 36, "SectionTemplates$Fraction", "up", "LSectionTemplates$Whole;", "SectionTemplates"), ("SectionTemplates$Arithmetic", 66, "SectionTemplates$Fraction", "up", "LSectionTemplates$Whole;", "SectionTemplates"), ("SectionTemplates", 268, "SectionTemplates$Fraction", "up", "LSectionTemplates$Whole;", "SectionTemplates"), ("SectionTemplates$Earthwork", 39, "SectionTemplates$Fraction", "low", "LSectionTemplates$Whole;", "SectionTemplates"), ("SectionTemplates$Arithmetic", 71, "SectionTemplates$Fraction", "low", "LSectionTemplates$Whole;", "SectionTemplates"), ("SectionTemplates", 272, "SectionTemplates$Fraction", "low", "LSectionTemplates$Whole;", "SectionTemplates"), ("SectionTemplates$Walker", 89, "SectionTemplates$Side", "sign", "I", "SectionTemplates"), ("SectionTemplates$Areas", 115, "SectionTemplates$Side", "sign", "I", "SectionTemplates"), ("SectionTemplates", 173, "SectionTemplates$Side", "sign", "I", "SectionTemplates"), ("SectionTemplates$Section", 39, "SectionTemplates$Side", "last", "I", "SectionTemplates"), ("SectionTemplates$Areas", 99, "SectionTemplates$Side", "last", "I", "SectionTemplates"), ("SectionTemplates$Walker", 119, "SectionTemplates$Side", "last", "I", "SectionTemplates"), ("SectionTemplates", 214, "SectionTemplates$Side", "last", "I", "SectionTemplates"), ("SectionTemplates$Walker", 56, "SectionTemplates$Side", "ended", "Z", "SectionTemplates"), ("SectionTemplates", 211, "SectionTemplates$Side", "ended", "Z", "SectionTemplates"), ("SectionTemplates$Areas", 130, "SectionTemplates$Side", "endOut", "LSectionTemplates$Fraction;", "SectionTemplates"), ("SectionTemplates$Walker", 137, "SectionTemplates$Side", "endOut", "LSectionTemplates$Fraction;", "SectionTemplates"), ("SectionTemplates", 181, "SectionTemplates$Side", "endOut", "LSectionTemplates$Fraction;", "SectionTemplates"), ("SectionTemplates$Walker", 146, "SectionTemplates$Side", "endLevel", "LSectionTemplates$Fraction;", "SectionTemplates"), ("SectionTemplates", 184, "SectionTemplates$Side", "endLevel", "LSectionTemplates$Fraction;", "SectionTemplates"), ("SectionTemplates$Walker", 38, "SectionTemplates$Section", "left", "LSectionTemplates$Side;", "SectionTemplates"), ("SectionTemplates$Areas", 50, "SectionTemplates$Section", "left", "LSectionTemplates$Side;", "SectionTemplates"), ("SectionTemplates", 146, "SectionTemplates$Section", "left", "LSectionTemplates$Side;", "SectionTemplates"), ("SectionTemplates$Areas", 104, "SectionTemplates$Section", "right", "LSectionTemplates$Side;", "SectionTemplates"), ("SectionTemplates", 154, "SectionTemplates$Section", "right", "LSectionTemplates$Side;", "SectionTemplates"), ("SectionTemplates", 204, "SectionTemplates$Section", "walked", "Z", "SectionTemplates"), ("SectionTemplates", 260, "SectionTemplates$Section", "choices", "I", "SectionTemplates"), ("SectionTemplates", 227, "SectionTemplates$Areas", "cut", "LSectionTemplates$Fraction;", "SectionTemplates"), ("SectionTemplates", 230, "SectionTemplates$Areas", "fill", "LSectionTemplates$Fraction;", "SectionTemplates"), ("SectionTemplates", 255, "SectionTemplates$Earthwork", "volume", "LSectionTemplates$Fraction;", "SectionTemplates")]
def am_NM : List (String × Nat × MethodName × String) := [("SectionTemplates", 11, ⟨"SectionTemplates$Templates", "<init>", "()V"⟩, "SectionTemplates"), ("SectionTemplates", 30, ⟨"SectionTemplates$Ground", "<init>", "()V"⟩, "SectionTemplates"), ("SectionTemplates", 48, ⟨"SectionTemplates$Arithmetic", "<init>", "()V"⟩, "SectionTemplates"), ("SectionTemplates", 55, ⟨"SectionTemplates$Section", "<init>", "()V"⟩, "SectionTemplates"), ("SectionTemplates", 78, ⟨"SectionTemplates$Earthwork", "<init>", "()V"⟩, "SectionTemplates"), ("SectionTemplates$Ground", 20, ⟨"SectionTemplates", "within", "(III)Z"⟩, "SectionTemplates")]
