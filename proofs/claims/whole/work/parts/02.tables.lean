/-! tables of the pure machine: printed by gen.py out of the Statement -/
def pm_cn : List String := ["PaneDesk$Box", "PaneDesk$Desk", "PaneDesk$Floats", "PaneDesk$History", "PaneDesk$Layout", "PaneDesk$Line", "PaneDesk$Row", "PaneDesk$Screens", 
  "PaneDesk", "PaneDeskModel", "PaneDeskLaw", "java/lang/Math", "java/lang/Long", "java/lang/System"]
def pm_T0 : u_T := fun k => match k with
  | 0 => ("PaneDesk$Box", "x", "I", false)
  | 1 => ("PaneDesk$Box", "y", "I", false)
  | 2 => ("PaneDesk$Box", "w", "I", false)
  | _ => ("PaneDesk$Box", "h", "I", false)
def pm_ty0 : Nat → FieldType := fun k => match k with
  | 0 => .int
  | 1 => .int
  | 2 => .int
  | _ => .int
def pm_T1 : u_T := fun k => match k with
  | 0 => ("PaneDesk$Desk", "rows", "[LPaneDesk$Row;", true)
  | 1 => ("PaneDesk$Desk", "layouts", "[LPaneDesk$Layout;", true)
  | 2 => ("PaneDesk$Desk", "screens", "LPaneDesk$Screens;", true)
  | 3 => ("PaneDesk$Desk", "floats", "LPaneDesk$Floats;", true)
  | _ => ("PaneDesk$Desk", "homes", "[I", true)
def pm_ty1 : Nat → FieldType := fun k => match k with
  | 0 => .array (.object "PaneDesk$Row")
  | 1 => .array (.object "PaneDesk$Layout")
  | 2 => .object "PaneDesk$Screens"
  | 3 => .object "PaneDesk$Floats"
  | _ => .array .int
def pm_T2 : u_T := fun k => match k with
  | 0 => ("PaneDesk$Floats", "afloat", "J", false)
  | _ => ("PaneDesk$Floats", "shares", "[I", true)
def pm_ty2 : Nat → FieldType := fun k => match k with
  | 0 => .long
  | _ => .array .int
def pm_T3 : u_T := fun k => match k with
  | 0 => ("PaneDesk$History", "desks", "[LPaneDesk$Desk;", true)
  | 1 => ("PaneDesk$History", "first", "I", false)
  | 2 => ("PaneDesk$History", "kept", "I", false)
  | _ => ("PaneDesk$History", "undone", "I", false)
def pm_ty3 : Nat → FieldType := fun k => match k with
  | 0 => .array (.object "PaneDesk$Desk")
  | 1 => .int
  | 2 => .int
  | _ => .int
def pm_T4 : u_T := fun k => match k with
  | 0 => ("PaneDesk$Layout", "kind", "I", false)
  | 1 => ("PaneDesk$Layout", "masters", "I", false)
  | _ => ("PaneDesk$Layout", "part", "I", false)
def pm_ty4 : Nat → FieldType := fun k => match k with
  | 0 => .int
  | 1 => .int
  | _ => .int
def pm_T5 : u_T := fun k => match k with
  | 0 => ("PaneDesk$Line", "numbers", "[I", true)
  | _ => ("PaneDesk$Line", "size", "I", false)
def pm_ty5 : Nat → FieldType := fun k => match k with
  | 0 => .array .int
  | _ => .int
def pm_T6 : u_T := fun k => match k with
  | 0 => ("PaneDesk$Row", "order", "LPaneDesk$Line;", true)
  | _ => ("PaneDesk$Row", "focusPlace", "I", false)
def pm_ty6 : Nat → FieldType := fun k => match k with
  | 0 => .object "PaneDesk$Line"
  | _ => .int
def pm_T7 : u_T := fun k => match k with
  | 0 => ("PaneDesk$Screens", "boxes", "[LPaneDesk$Box;", true)
  | 1 => ("PaneDesk$Screens", "workspaces", "[I", true)
  | 2 => ("PaneDesk$Screens", "many", "I", false)
  | 3 => ("PaneDesk$Screens", "current", "I", false)
  | 4 => ("PaneDesk$Screens", "visible", "LPaneDesk$Line;", true)
  | _ => ("PaneDesk$Screens", "hidden", "LPaneDesk$Line;", true)
def pm_ty7 : Nat → FieldType := fun k => match k with
  | 0 => .array (.object "PaneDesk$Box")
  | 1 => .array .int
  | 2 => .int
  | 3 => .int
  | 4 => .object "PaneDesk$Line"
  | _ => .object "PaneDesk$Line"
def pm_T8 : u_T := fun k => match k with
  | 0 => ("PaneDesk", "desk", "LPaneDesk$Desk;", false)
  | 1 => ("PaneDesk", "before", "LPaneDesk$Desk;", false)
  | 2 => ("PaneDesk", "history", "LPaneDesk$History;", true)
  | 3 => ("PaneDesk", "waiting", "[LPaneDesk$Box;", true)
  | 4 => ("PaneDesk", "waits", "I", false)
  | _ => ("PaneDesk", "box", "LPaneDesk$Box;", true)
def pm_ty8 : Nat → FieldType := fun k => match k with
  | 0 => .object "PaneDesk$Desk"
  | 1 => .object "PaneDesk$Desk"
  | 2 => .object "PaneDesk$History"
  | 3 => .array (.object "PaneDesk$Box")
  | 4 => .int
  | _ => .object "PaneDesk$Box"
def pm_T9 : u_T := fun k => match k with
  | 0 => ("PaneDeskModel", "all", "[I", true)
  | 1 => ("PaneDeskModel", "hand", "I", false)
  | 2 => ("PaneDeskModel", "last", "I", false)
  | 3 => ("PaneDeskModel", "s", "I", false)
  | 4 => ("PaneDeskModel", "waiting", "[I", true)
  | 5 => ("PaneDeskModel", "waits", "I", false)
  | 6 => ("PaneDeskModel", "row", "[I", true)
  | 7 => ("PaneDeskModel", "tiles", "[I", true)
  | 8 => ("PaneDeskModel", "tx", "[I", true)
  | 9 => ("PaneDeskModel", "ty", "[I", true)
  | 10 => ("PaneDeskModel", "tw", "[I", true)
  | 11 => ("PaneDeskModel", "th", "[I", true)
  | 12 => ("PaneDeskModel", "n", "I", false)
  | 13 => ("PaneDeskModel", "only", "I", false)
  | 14 => ("PaneDeskModel", "bf", "[I", true)
  | 15 => ("PaneDeskModel", "bn", "[I", true)
  | 16 => ("PaneDeskModel", "bx", "[I", true)
  | 17 => ("PaneDeskModel", "by", "[I", true)
  | 18 => ("PaneDeskModel", "bw", "[I", true)
  | 19 => ("PaneDeskModel", "bh", "[I", true)
  | 20 => ("PaneDeskModel", "parts", "I", false)
  | 21 => ("PaneDeskModel", "found", "[I", true)
  | _ => ("PaneDeskModel", "told", "J", false)
def pm_ty9 : Nat → FieldType := fun k => match k with
  | 0 => .array .int
  | 1 => .int
  | 2 => .int
  | 3 => .int
  | 4 => .array .int
  | 5 => .int
  | 6 => .array .int
  | 7 => .array .int
  | 8 => .array .int
  | 9 => .array .int
  | 10 => .array .int
  | 11 => .array .int
  | 12 => .int
  | 13 => .int
  | 14 => .array .int
  | 15 => .array .int
  | 16 => .array .int
  | 17 => .array .int
  | 18 => .array .int
  | 19 => .array .int
  | 20 => .int
  | 21 => .array .int
  | _ => .long
abbrev pm_cl : List vw_C := [("PaneDesk$Box", pm_T0, 4), ("PaneDesk$Desk", pm_T1, 5), ("PaneDesk$Floats", pm_T2, 2), ("PaneDesk$History", pm_T3, 4), 
  ("PaneDesk$Layout", pm_T4, 3), ("PaneDesk$Line", pm_T5, 2), ("PaneDesk$Row", pm_T6, 2), ("PaneDesk$Screens", pm_T7, 6), 
  ("PaneDesk", pm_T8, 6), ("PaneDeskModel", pm_T9, 23)]
/-- the kinds of the fields: 0 an int, 1 a long, 2 a reference -/
def pm_fk : List (List Nat) := [[0, 0, 0, 0], [2, 2, 2, 2, 2], [1, 2], [2, 0, 0, 0], 
  [0, 0, 0], [2, 0], [2, 0], [2, 2, 0, 0, 2, 2], 
  [2, 2, 2, 2, 0, 2], [2, 0, 0, 0, 2, 0, 2, 2, 2, 2, 2, 2, 0, 0, 2, 2, 2, 2, 2, 2, 0, 2, 1]]
/-- the fields that are final -/
def pm_ff : List (List Bool) := [[false, false, false, false], [true, true, true, true, true], [false, true], [true, false, false, false], 
  [false, false, false], [true, false], [true, false], [true, true, false, false, true, true], 
  [false, false, true, true, false, true], [true, false, false, false, true, false, true, true, true, true, true, true, false, false, true, true, true, true, true, true, false, true, false]]
def pm_nms : List MethodName := [⟨"PaneDesk$Box", "<init>", "()V"⟩, ⟨"PaneDesk$Box", "put", "(IIII)V"⟩, ⟨"PaneDesk$Box", "fill", "(LPaneDesk$Box;)V"⟩, 
  ⟨"PaneDesk$Box", "sameAs", "(LPaneDesk$Box;)Z"⟩, ⟨"PaneDesk$Box", "side", "(I)I"⟩, ⟨"PaneDesk$Box", "holds", "(II)Z"⟩, 
  ⟨"PaneDesk$Box", "turn", "()V"⟩, ⟨"PaneDesk$Box", "keepLeft", "(I)V"⟩, ⟨"PaneDesk$Box", "dropLeft", "(I)V"⟩, 
  ⟨"PaneDesk$Box", "stack", "(II)V"⟩, ⟨"PaneDesk$Box", "lineUp", "(II)V"⟩, ⟨"PaneDesk$Box", "edge", "(III)I"⟩, 
  ⟨"PaneDesk$Desk", "<init>", "()V"⟩, ⟨"PaneDesk$Desk", "has", "(I)Z"⟩, ⟨"PaneDesk$Desk", "freeWindow", "()I"⟩, 
  ⟨"PaneDesk$Desk", "windows", "()I"⟩, ⟨"PaneDesk$Desk", "currentRow", "()LPaneDesk$Row;"⟩, ⟨"PaneDesk$Desk", "currentLayout", "()LPaneDesk$Layout;"⟩, 
  ⟨"PaneDesk$Desk", "insert", "(II)V"⟩, ⟨"PaneDesk$Desk", "remove", "(I)V"⟩, ⟨"PaneDesk$Desk", "carry", "(II)V"⟩, 
  ⟨"PaneDesk$Desk", "turnTo", "(I)V"⟩, ⟨"PaneDesk$Desk", "tilesAhead", "(LPaneDesk$Row;I)I"⟩, ⟨"PaneDesk$Desk", "fullTile", "(LPaneDesk$Row;)I"⟩, 
  ⟨"PaneDesk$Desk", "findBox", "(ILPaneDesk$Box;)Z"⟩, ⟨"PaneDesk$Desk", "windowAt", "(IILPaneDesk$Box;)I"⟩, ⟨"PaneDesk$Desk", "floatHolds", "(IIIILPaneDesk$Box;)Z"⟩, 
  ⟨"PaneDesk$Desk", "tileAt", "(IIILPaneDesk$Box;)I"⟩, ⟨"PaneDesk$Desk", "fill", "(LPaneDesk$Desk;)V"⟩, ⟨"PaneDesk$Desk", "sameAs", "(LPaneDesk$Desk;)Z"⟩, 
  ⟨"PaneDesk$Floats", "<init>", "()V"⟩, ⟨"PaneDesk$Floats", "has", "(I)Z"⟩, ⟨"PaneDesk$Floats", "many", "()I"⟩, 
  ⟨"PaneDesk$Floats", "share", "(II)I"⟩, ⟨"PaneDesk$Floats", "put", "(IIIII)V"⟩, ⟨"PaneDesk$Floats", "drop", "(I)V"⟩, 
  ⟨"PaneDesk$Floats", "narrow", "(LPaneDesk$Box;I)V"⟩, ⟨"PaneDesk$Floats", "fill", "(LPaneDesk$Floats;)V"⟩, ⟨"PaneDesk$Floats", "sameAs", "(LPaneDesk$Floats;)Z"⟩, 
  ⟨"PaneDesk$Floats", "addTo", "(J)J"⟩, ⟨"PaneDesk$History", "<init>", "()V"⟩, ⟨"PaneDesk$History", "keep", "(LPaneDesk$Desk;)LPaneDesk$Desk;"⟩, 
  ⟨"PaneDesk$History", "back", "(LPaneDesk$Desk;)LPaneDesk$Desk;"⟩, ⟨"PaneDesk$History", "again", "(LPaneDesk$Desk;)LPaneDesk$Desk;"⟩, ⟨"PaneDesk$History", "exchange", "(ILPaneDesk$Desk;)LPaneDesk$Desk;"⟩, 
  ⟨"PaneDesk$Layout", "<init>", "()V"⟩, ⟨"PaneDesk$Layout", "fill", "(LPaneDesk$Layout;)V"⟩, ⟨"PaneDesk$Layout", "sameAs", "(LPaneDesk$Layout;)Z"⟩, 
  ⟨"PaneDesk$Layout", "addTo", "(J)J"⟩, ⟨"PaneDesk$Layout", "narrow", "(LPaneDesk$Box;II)V"⟩, ⟨"PaneDesk$Layout", "tall", "(LPaneDesk$Box;II)V"⟩, 
  ⟨"PaneDesk$Layout", "middle", "(LPaneDesk$Box;II)V"⟩, ⟨"PaneDesk$Layout", "grid", "(LPaneDesk$Box;II)V"⟩, ⟨"PaneDesk$Layout", "balanced", "(LPaneDesk$Box;II)V"⟩, 
  ⟨"PaneDesk$Line", "<init>", "(I)V"⟩, ⟨"PaneDesk$Line", "get", "(I)I"⟩, ⟨"PaneDesk$Line", "find", "(I)I"⟩, 
  ⟨"PaneDesk$Line", "insertAt", "(II)V"⟩, ⟨"PaneDesk$Line", "removeAt", "(I)V"⟩, ⟨"PaneDesk$Line", "exchange", "(II)V"⟩, 
  ⟨"PaneDesk$Line", "fill", "(LPaneDesk$Line;)V"⟩, ⟨"PaneDesk$Line", "sameAs", "(LPaneDesk$Line;)Z"⟩, ⟨"PaneDesk$Line", "addTo", "(J)J"⟩, 
  ⟨"PaneDesk$Row", "<init>", "()V"⟩, ⟨"PaneDesk$Row", "focused", "()I"⟩, ⟨"PaneDesk$Row", "insert", "(I)V"⟩, 
  ⟨"PaneDesk$Row", "remove", "(I)V"⟩, ⟨"PaneDesk$Row", "turnTo", "(I)V"⟩, ⟨"PaneDesk$Row", "rearrange", "(I)V"⟩, 
  ⟨"PaneDesk$Row", "carryFocus", "(I)V"⟩, ⟨"PaneDesk$Row", "fill", "(LPaneDesk$Row;)V"⟩, ⟨"PaneDesk$Row", "sameAs", "(LPaneDesk$Row;)Z"⟩, 
  ⟨"PaneDesk$Row", "addTo", "(J)J"⟩, ⟨"PaneDesk$Screens", "<init>", "()V"⟩, ⟨"PaneDesk$Screens", "has", "(I)Z"⟩, 
  ⟨"PaneDesk$Screens", "workspaceOf", "(I)I"⟩, ⟨"PaneDesk$Screens", "currentWorkspace", "()I"⟩, ⟨"PaneDesk$Screens", "screenOf", "(I)I"⟩, 
  ⟨"PaneDesk$Screens", "screenAt", "(II)I"⟩, ⟨"PaneDesk$Screens", "bring", "(I)V"⟩, ⟨"PaneDesk$Screens", "bringGreedily", "(I)V"⟩, 
  ⟨"PaneDesk$Screens", "bringHidden", "(I)V"⟩, ⟨"PaneDesk$Screens", "deal", "([LPaneDesk$Box;I)V"⟩, ⟨"PaneDesk$Screens", "fill", "(LPaneDesk$Screens;)V"⟩, 
  ⟨"PaneDesk$Screens", "sameAs", "(LPaneDesk$Screens;)Z"⟩, ⟨"PaneDesk$Screens", "addTo", "(J)J"⟩, ⟨"PaneDesk", "<init>", "()V"⟩, 
  ⟨"PaneDesk", "open", "()I"⟩, ⟨"PaneDesk", "close", "(I)Z"⟩, ⟨"PaneDesk", "move", "(I)Z"⟩, 
  ⟨"PaneDesk", "view", "(IZ)Z"⟩, ⟨"PaneDesk", "shift", "(I)Z"⟩, ⟨"PaneDesk", "send", "(II)Z"⟩, 
  ⟨"PaneDesk", "focus", "(I)Z"⟩, ⟨"PaneDesk", "click", "(II)Z"⟩, ⟨"PaneDesk", "lift", "(IIIII)Z"⟩, 
  ⟨"PaneDesk", "sink", "(I)Z"⟩, ⟨"PaneDesk", "layout", "(I)Z"⟩, ⟨"PaneDesk", "shape", "(II)Z"⟩, 
  ⟨"PaneDesk", "rectangle", "(IIII)I"⟩, ⟨"PaneDesk", "rescreen", "()Z"⟩, ⟨"PaneDesk", "undo", "()I"⟩, 
  ⟨"PaneDesk", "redo", "()I"⟩, ⟨"PaneDesk", "workspace", "(II)I"⟩, ⟨"PaneDesk", "screen", "(II)I"⟩, 
  ⟨"PaneDesk", "count", "(I)I"⟩, ⟨"PaneDesk", "row", "(II)I"⟩, ⟨"PaneDesk", "window", "(II)I"⟩, 
  ⟨"PaneDesk", "place", "(II)I"⟩, ⟨"PaneDesk", "shown", "(II)I"⟩, ⟨"PaneDesk", "at", "(II)I"⟩, 
  ⟨"PaneDesk", "sum", "()J"⟩, ⟨"PaneDesk", "begin", "()V"⟩, ⟨"PaneDesk", "end", "()Z"⟩, 
  ⟨"PaneDesk", "isWorkspace", "(I)Z"⟩, ⟨"PaneDesk", "isShare", "(I)Z"⟩, ⟨"PaneDesk", "isCorner", "(I)Z"⟩, 
  ⟨"PaneDesk", "isLength", "(I)Z"⟩, ⟨"PaneDesk", "mix", "(JI)J"⟩, ⟨"PaneDeskModel", "<init>", "()V"⟩, 
  ⟨"PaneDeskModel", "space", "(I)I"⟩, ⟨"PaneDeskModel", "seat", "(I)I"⟩, ⟨"PaneDeskModel", "isIn", "(II)Z"⟩, 
  ⟨"PaneDeskModel", "copy", "(II)V"⟩, ⟨"PaneDeskModel", "begins", "()V"⟩, ⟨"PaneDeskModel", "ends", "()Z"⟩, 
  ⟨"PaneDeskModel", "isThere", "(I)Z"⟩, ⟨"PaneDeskModel", "homeOf", "(I)I"⟩, ⟨"PaneDeskModel", "placeIn", "(II)I"⟩, 
  ⟨"PaneDeskModel", "currentSpace", "()I"⟩, ⟨"PaneDeskModel", "focusOf", "(I)I"⟩, ⟨"PaneDeskModel", "insert", "(II)V"⟩, 
  ⟨"PaneDeskModel", "remove", "(II)V"⟩, ⟨"PaneDeskModel", "carry", "(III)V"⟩, ⟨"PaneDeskModel", "screenOf", "(I)I"⟩, 
  ⟨"PaneDeskModel", "first", "(II)V"⟩, ⟨"PaneDeskModel", "views", "(IZ)V"⟩, ⟨"PaneDeskModel", "shifts", "(II)V"⟩, 
  ⟨"PaneDeskModel", "focuses", "(I)V"⟩, ⟨"PaneDeskModel", "open", "()I"⟩, ⟨"PaneDeskModel", "sinks", "(I)V"⟩, 
  ⟨"PaneDeskModel", "close", "(I)Z"⟩, ⟨"PaneDeskModel", "move", "(I)Z"⟩, ⟨"PaneDeskModel", "view", "(IZ)Z"⟩, 
  ⟨"PaneDeskModel", "shift", "(I)Z"⟩, ⟨"PaneDeskModel", "send", "(II)Z"⟩, ⟨"PaneDeskModel", "focus", "(I)Z"⟩, 
  ⟨"PaneDeskModel", "click", "(II)Z"⟩, ⟨"PaneDeskModel", "isPart", "(I)Z"⟩, ⟨"PaneDeskModel", "lift", "(IIIII)Z"⟩, 
  ⟨"PaneDeskModel", "sink", "(I)Z"⟩, ⟨"PaneDeskModel", "layout", "(I)Z"⟩, ⟨"PaneDeskModel", "shape", "(II)Z"⟩, 
  ⟨"PaneDeskModel", "isFar", "(I)Z"⟩, ⟨"PaneDeskModel", "rectangle", "(IIII)I"⟩, ⟨"PaneDeskModel", "rescreen", "()Z"⟩, 
  ⟨"PaneDeskModel", "undo", "()I"⟩, ⟨"PaneDeskModel", "redo", "()I"⟩, ⟨"PaneDeskModel", "put", "(IIIII)V"⟩, 
  ⟨"PaneDeskModel", "stack", "(IIIIII)V"⟩, ⟨"PaneDeskModel", "wide", "(III)I"⟩, ⟨"PaneDeskModel", "tall", "(IIIIII)V"⟩, 
  ⟨"PaneDeskModel", "grid", "(IIII)V"⟩, ⟨"PaneDeskModel", "part", "(IIIIII)V"⟩, ⟨"PaneDeskModel", "balance", "(IIII)V"⟩, 
  ⟨"PaneDeskModel", "middle", "(IIIIII)V"⟩, ⟨"PaneDeskModel", "lays", "(II)V"⟩, ⟨"PaneDeskModel", "finds", "(IIII)V"⟩, 
  ⟨"PaneDeskModel", "isShown", "(I)Z"⟩, ⟨"PaneDeskModel", "isOver", "(II)Z"⟩, ⟨"PaneDeskModel", "screenAt", "(II)I"⟩, 
  ⟨"PaneDeskModel", "at", "(II)I"⟩, ⟨"PaneDeskModel", "shown", "(II)I"⟩, ⟨"PaneDeskModel", "workspace", "(II)I"⟩, 
  ⟨"PaneDeskModel", "screen", "(II)I"⟩, ⟨"PaneDeskModel", "count", "(I)I"⟩, ⟨"PaneDeskModel", "row", "(II)I"⟩, 
  ⟨"PaneDeskModel", "window", "(II)I"⟩, ⟨"PaneDeskModel", "place", "(II)I"⟩, ⟨"PaneDeskModel", "tell", "(J)V"⟩, 
  ⟨"PaneDeskModel", "sum", "()J"⟩, ⟨"java/lang/Math", "floorMod", "(II)I"⟩, ⟨"java/lang/Math", "max", "(II)I"⟩, 
  ⟨"java/lang/Math", "min", "(II)I"⟩, ⟨"java/lang/Long", "bitCount", "(J)I"⟩, ⟨"PaneDeskLaw", "law", "([I)Z"⟩]
def pm_bys : List ByteArray := [prog_2_method_1_code, prog_2_method_2_code, prog_2_method_3_code, prog_2_method_4_code, prog_2_method_5_code, prog_2_method_6_code, prog_2_method_7_code, prog_2_method_8_code, 
  prog_2_method_9_code, prog_2_method_10_code, prog_2_method_11_code, prog_2_method_12_code, prog_3_method_1_code, prog_3_method_2_code, prog_3_method_3_code, prog_3_method_4_code, 
  prog_3_method_5_code, prog_3_method_6_code, prog_3_method_7_code, prog_3_method_8_code, prog_3_method_9_code, prog_3_method_10_code, prog_3_method_11_code, prog_3_method_12_code, 
  prog_3_method_13_code, prog_3_method_14_code, prog_3_method_15_code, prog_3_method_16_code, prog_3_method_17_code, prog_3_method_18_code, prog_4_method_1_code, prog_4_method_2_code, 
  prog_4_method_3_code, prog_4_method_4_code, prog_4_method_5_code, prog_4_method_6_code, prog_4_method_7_code, prog_4_method_8_code, prog_4_method_9_code, prog_4_method_10_code, 
  prog_5_method_1_code, prog_5_method_2_code, prog_5_method_3_code, prog_5_method_4_code, prog_5_method_5_code, prog_6_method_1_code, prog_6_method_2_code, prog_6_method_3_code, 
  prog_6_method_4_code, prog_6_method_5_code, prog_6_method_6_code, prog_6_method_7_code, prog_6_method_8_code, prog_6_method_9_code, prog_7_method_1_code, prog_7_method_2_code, 
  prog_7_method_3_code, prog_7_method_4_code, prog_7_method_5_code, prog_7_method_6_code, prog_7_method_7_code, prog_7_method_8_code, prog_7_method_9_code, prog_8_method_1_code, 
  prog_8_method_2_code, prog_8_method_3_code, prog_8_method_4_code, prog_8_method_5_code, prog_8_method_6_code, prog_8_method_7_code, prog_8_method_8_code, prog_8_method_9_code, 
  prog_8_method_10_code, prog_9_method_1_code, prog_9_method_2_code, prog_9_method_3_code, prog_9_method_4_code, prog_9_method_5_code, prog_9_method_6_code, prog_9_method_7_code, 
  prog_9_method_8_code, prog_9_method_9_code, prog_9_method_10_code, prog_9_method_11_code, prog_9_method_12_code, prog_9_method_13_code, prog_1_method_1_code, prog_1_method_2_code, 
  prog_1_method_3_code, prog_1_method_4_code, prog_1_method_5_code, prog_1_method_6_code, prog_1_method_7_code, prog_1_method_8_code, prog_1_method_9_code, prog_1_method_10_code, 
  prog_1_method_11_code, prog_1_method_12_code, prog_1_method_13_code, prog_1_method_14_code, prog_1_method_15_code, prog_1_method_16_code, prog_1_method_17_code, prog_1_method_18_code, 
  prog_1_method_19_code, prog_1_method_20_code, prog_1_method_21_code, prog_1_method_22_code, prog_1_method_23_code, prog_1_method_24_code, prog_1_method_25_code, prog_1_method_26_code, 
  prog_1_method_27_code, prog_1_method_28_code, prog_1_method_29_code, prog_1_method_30_code, prog_1_method_31_code, prog_1_method_32_code, prog_1_method_33_code, prog_11_method_1_code, 
  prog_11_method_2_code, prog_11_method_3_code, prog_11_method_4_code, prog_11_method_5_code, prog_11_method_6_code, prog_11_method_7_code, prog_11_method_8_code, prog_11_method_9_code, 
  prog_11_method_10_code, prog_11_method_11_code, prog_11_method_12_code, prog_11_method_13_code, prog_11_method_14_code, prog_11_method_15_code, prog_11_method_16_code, prog_11_method_17_code, 
  prog_11_method_18_code, prog_11_method_19_code, prog_11_method_20_code, prog_11_method_21_code, prog_11_method_22_code, prog_11_method_23_code, prog_11_method_24_code, prog_11_method_25_code, 
  prog_11_method_26_code, prog_11_method_27_code, prog_11_method_28_code, prog_11_method_29_code, prog_11_method_30_code, prog_11_method_31_code, prog_11_method_32_code, prog_11_method_33_code, 
  prog_11_method_34_code, prog_11_method_35_code, prog_11_method_36_code, prog_11_method_37_code, prog_11_method_38_code, prog_11_method_39_code, prog_11_method_40_code, prog_11_method_41_code, 
  prog_11_method_42_code, prog_11_method_43_code, prog_11_method_44_code, prog_11_method_45_code, prog_11_method_46_code, prog_11_method_47_code, prog_11_method_48_code, prog_11_method_49_code, 
  prog_11_method_50_code, prog_11_method_51_code, prog_11_method_52_code, prog_11_method_53_code, prog_11_method_54_code, prog_11_method_55_code, prog_11_method_56_code, prog_11_method_57_code, 
  prog_11_method_58_code, prog_11_method_59_code, prog_11_method_60_code, prog_11_method_61_code, prog_11_method_62_code, prog_13_method_50_code, prog_13_method_65_code, prog_13_method_69_code, 
  prog_12_method_50_code, code]
def pm_rts : List (Option FieldType) := [none, none, none, (some .boolean), (some .int), (some .boolean), none, none, 
  none, none, none, (some .int), none, (some .boolean), (some .int), (some .int), 
  (some (.object "PaneDesk$Row")), (some (.object "PaneDesk$Layout")), none, none, none, none, (some .int), (some .int), 
  (some .boolean), (some .int), (some .boolean), (some .int), none, (some .boolean), none, (some .boolean), 
  (some .int), (some .int), none, none, none, none, (some .boolean), (some .long), 
  none, (some (.object "PaneDesk$Desk")), (some (.object "PaneDesk$Desk")), (some (.object "PaneDesk$Desk")), (some (.object "PaneDesk$Desk")), none, none, (some .boolean), 
  (some .long), none, none, none, none, none, none, (some .int), 
  (some .int), none, none, none, none, (some .boolean), (some .long), none, 
  (some .int), none, none, none, none, none, none, (some .boolean), 
  (some .long), none, (some .boolean), (some .int), (some .int), (some .int), (some .int), none, 
  none, none, none, none, (some .boolean), (some .long), none, (some .int), 
  (some .boolean), (some .boolean), (some .boolean), (some .boolean), (some .boolean), (some .boolean), (some .boolean), (some .boolean), 
  (some .boolean), (some .boolean), (some .boolean), (some .int), (some .boolean), (some .int), (some .int), (some .int), 
  (some .int), (some .int), (some .int), (some .int), (some .int), (some .int), (some .int), (some .long), 
  none, (some .boolean), (some .boolean), (some .boolean), (some .boolean), (some .boolean), (some .long), none, 
  (some .int), (some .int), (some .boolean), none, none, (some .boolean), (some .boolean), (some .int), 
  (some .int), (some .int), (some .int), none, none, none, (some .int), none, 
  none, none, none, (some .int), none, (some .boolean), (some .boolean), (some .boolean), 
  (some .boolean), (some .boolean), (some .boolean), (some .boolean), (some .boolean), (some .boolean), (some .boolean), (some .boolean), 
  (some .boolean), (some .boolean), (some .int), (some .boolean), (some .int), (some .int), none, none, 
  (some .int), none, none, none, none, none, none, none, 
  (some .boolean), (some .boolean), (some .int), (some .int), (some .int), (some .int), (some .int), (some .int), 
  (some .int), (some .int), (some .int), none, (some .long), (some .int), (some .int), (some .int), 
  (some .int), (some .boolean)]
/-- of each method: its locals, its class, its parameters, its kind (0 static, 1 of an object, 2 a constructor), frames, words -/
def pm_ns : List (Nat × Nat × Nat × Nat × Nat × Nat) := [(1, 0, 0, 2, 1, 20), (5, 0, 4, 1, 0, 0), (2, 0, 1, 1, 1, 24), (2, 0, 1, 1, 0, 0), (2, 0, 1, 1, 0, 0), (3, 0, 2, 1, 0, 0), (1, 0, 0, 1, 1, 24), (2, 0, 1, 1, 0, 0), 
  (2, 0, 1, 1, 0, 0), (5, 0, 2, 1, 2, 44), (5, 0, 2, 1, 2, 44), (4, 0, 3, 0, 1, 21), (2, 1, 0, 2, 3, 69), (2, 1, 1, 1, 0, 0), (2, 1, 0, 1, 0, 0), (3, 1, 0, 1, 0, 0), 
  (1, 1, 0, 1, 1, 20), (1, 1, 0, 1, 1, 20), (3, 1, 2, 1, 3, 69), (2, 1, 1, 1, 3, 69), (5, 1, 2, 1, 4, 91), (2, 1, 1, 1, 4, 91), (5, 1, 2, 1, 1, 21), (4, 1, 1, 1, 2, 41), 
  (7, 1, 2, 1, 5, 117), (7, 1, 3, 1, 6, 146), (6, 1, 5, 1, 2, 50), (10, 1, 4, 1, 5, 117), (3, 1, 1, 1, 3, 69), (3, 1, 1, 1, 2, 44), (1, 2, 0, 2, 1, 20), (2, 2, 1, 1, 0, 0), 
  (1, 2, 0, 1, 1, 21), (3, 2, 2, 1, 0, 0), (7, 2, 5, 1, 0, 0), (2, 2, 1, 1, 1, 26), (7, 2, 2, 1, 1, 24), (2, 2, 1, 1, 1, 26), (3, 2, 1, 1, 0, 0), (7, 2, 1, 1, 1, 22), 
  (1, 3, 0, 2, 1, 20), (3, 3, 1, 1, 4, 90), (2, 3, 1, 1, 2, 46), (2, 3, 1, 1, 2, 46), (5, 3, 2, 1, 1, 22), (1, 4, 0, 2, 1, 20), (2, 4, 1, 1, 0, 0), (2, 4, 1, 1, 0, 0), 
  (3, 4, 1, 1, 1, 22), (4, 4, 3, 1, 4, 94), (5, 4, 3, 1, 3, 68), (7, 4, 3, 1, 3, 68), (7, 4, 3, 0, 3, 68), (9, 4, 3, 0, 2, 44), (2, 5, 1, 2, 1, 21), (2, 5, 1, 1, 0, 0), 
  (3, 5, 1, 1, 0, 0), (3, 5, 2, 1, 1, 26), (2, 5, 1, 1, 1, 26), (4, 5, 2, 1, 0, 0), (2, 5, 1, 1, 1, 26), (3, 5, 1, 1, 0, 0), (6, 5, 1, 1, 1, 22), (1, 6, 0, 2, 2, 42), 
  (1, 6, 0, 1, 1, 21), (2, 6, 1, 1, 2, 48), (3, 6, 1, 1, 2, 47), (2, 6, 1, 1, 1, 22), (4, 6, 1, 1, 3, 70), (3, 6, 1, 1, 2, 48), (2, 6, 1, 1, 2, 47), (2, 6, 1, 1, 1, 22), 
  (3, 6, 1, 1, 2, 47), (2, 7, 0, 2, 2, 48), (2, 7, 1, 1, 0, 0), (2, 7, 1, 1, 1, 21), (1, 7, 0, 1, 0, 0), (3, 7, 1, 1, 0, 0), (4, 7, 2, 1, 1, 22), (3, 7, 1, 1, 3, 69), 
  (3, 7, 1, 1, 3, 69), (2, 7, 1, 1, 2, 48), (4, 7, 2, 1, 2, 48), (3, 7, 1, 1, 2, 47), (3, 7, 1, 1, 1, 22), (7, 7, 1, 1, 2, 47), (2, 8, 0, 2, 4, 90), (2, 8, 0, 1, 6, 132), 
  (2, 8, 1, 1, 6, 132), (2, 8, 1, 1, 6, 132), (3, 8, 2, 1, 6, 132), (2, 8, 1, 1, 7, 154), (3, 8, 2, 1, 6, 132), (2, 8, 1, 1, 6, 132), (5, 8, 2, 1, 7, 172), (6, 8, 5, 1, 6, 132), 
  (2, 8, 1, 1, 6, 132), (2, 8, 1, 1, 6, 132), (3, 8, 2, 1, 6, 132), (5, 8, 4, 1, 1, 24), (1, 8, 0, 1, 6, 132), (1, 8, 0, 1, 3, 67), (1, 8, 0, 1, 3, 67), (3, 8, 2, 1, 2, 42), 
  (3, 8, 2, 1, 1, 22), (2, 8, 1, 1, 2, 41), (5, 8, 2, 1, 2, 45), (3, 8, 2, 1, 1, 21), (4, 8, 2, 1, 1, 22), (3, 8, 2, 1, 6, 143), (3, 8, 2, 1, 7, 172), (4, 8, 0, 1, 3, 73), 
  (1, 8, 0, 1, 4, 91), (1, 8, 0, 1, 5, 112), (1, 8, 1, 0, 0, 0), (1, 8, 1, 0, 0, 0), (1, 8, 1, 0, 0, 0), (1, 8, 1, 0, 0, 0), (3, 8, 2, 0, 0, 0), (2, 9, 0, 2, 1, 21), 
  (2, 9, 1, 1, 0, 0), (2, 9, 1, 1, 0, 0), (2, 9, 2, 0, 0, 0), (4, 9, 2, 1, 0, 0), (1, 9, 0, 1, 1, 23), (3, 9, 0, 1, 1, 23), (2, 9, 1, 1, 1, 21), (4, 9, 1, 1, 2, 46), 
  (6, 9, 2, 1, 1, 21), (1, 9, 0, 1, 0, 0), (3, 9, 1, 1, 1, 21), (6, 9, 2, 1, 1, 21), (7, 9, 2, 1, 2, 46), (7, 9, 3, 1, 0, 0), (4, 9, 1, 1, 0, 0), (5, 9, 2, 1, 0, 0), 
  (8, 9, 2, 1, 1, 24), (5, 9, 2, 1, 3, 72), (3, 9, 1, 1, 3, 69), (3, 9, 0, 1, 2, 46), (3, 9, 1, 1, 1, 21), (2, 9, 1, 1, 3, 72), (7, 9, 1, 1, 2, 45), (3, 9, 2, 1, 2, 51), 
  (3, 9, 1, 1, 4, 96), (3, 9, 2, 1, 4, 96), (2, 9, 1, 1, 4, 91), (5, 9, 2, 1, 7, 197), (1, 9, 1, 0, 0, 0), (7, 9, 5, 1, 2, 45), (2, 9, 1, 1, 2, 45), (2, 9, 1, 1, 2, 45), 
  (4, 9, 2, 1, 2, 45), (1, 9, 1, 0, 0, 0), (5, 9, 4, 1, 1, 20), (3, 9, 0, 1, 2, 45), (1, 9, 0, 1, 0, 0), (1, 9, 0, 1, 0, 0), (6, 9, 5, 1, 0, 0), (11, 9, 6, 1, 1, 25), 
  (4, 9, 3, 0, 0, 0), (8, 9, 6, 1, 2, 55), (11, 9, 4, 1, 2, 55), (7, 9, 6, 1, 0, 0), (13, 9, 4, 1, 1, 26), (10, 9, 6, 1, 3, 82), (12, 9, 2, 1, 4, 111), (5, 9, 4, 1, 0, 0), 
  (7, 9, 1, 1, 5, 142), (3, 9, 2, 1, 0, 0), (5, 9, 2, 1, 1, 24), (10, 9, 2, 1, 6, 168), (3, 9, 2, 1, 6, 168), (3, 9, 2, 1, 1, 21), (4, 9, 2, 1, 1, 21), (5, 9, 1, 1, 1, 21), 
  (6, 9, 2, 1, 2, 43), (4, 9, 2, 1, 1, 21), (4, 9, 2, 1, 3, 69), (3, 9, 1, 1, 0, 0), (5, 9, 0, 1, 1, 22), (3, 11, 2, 0, 0, 0), (2, 11, 2, 0, 0, 0), (2, 11, 2, 0, 0, 0), 
  (2, 12, 1, 0, 0, 0), (4, 10, 1, 0, 8, 221)]
/-- calls: class, place in its pool, the method, whether by the nest -/
def pm_lks : List (Nat × Nat × Nat × Bool) := [(0, 24, 1, false), (0, 28, 11, false), (0, 32, 182, false), (1, 23, 63, true), (1, 24, 45, true), (1, 27, 73, false), (1, 34, 30, true), (1, 53, 76, false), 
  (1, 57, 65, false), (1, 61, 66, false), (1, 64, 79, false), (1, 67, 19, false), (1, 68, 18, false), (1, 71, 67, false), (1, 74, 55, false), (1, 78, 31, false), 
  (1, 82, 64, false), (1, 85, 13, false), (1, 86, 77, false), (1, 93, 2, false), (1, 99, 36, false), (1, 106, 23, false), (1, 110, 56, false), (1, 113, 22, false), 
  (1, 117, 49, false), (1, 120, 78, false), (1, 124, 75, false), (1, 127, 26, false), (1, 131, 27, false), (1, 135, 5, false), (1, 139, 70, false), (1, 142, 46, false), 
  (1, 145, 83, false), (1, 148, 37, false), (1, 157, 71, false), (1, 161, 47, false), (1, 164, 84, false), (1, 167, 38, false), (2, 19, 184, false), (2, 25, 34, false), 
  (2, 40, 33, false), (2, 50, 1, false), (2, 59, 31, false), (2, 63, 118, true), (3, 27, 44, false), (3, 31, 12, false), (3, 32, 181, false), (4, 21, 118, true), 
  (4, 25, 6, false), (4, 30, 50, false), (4, 34, 52, false), (4, 37, 53, false), (4, 43, 51, false), (4, 46, 9, false), (4, 50, 183, false), (4, 56, 182, false), 
  (4, 59, 7, false), (4, 63, 8, false), (4, 66, 10, false), (5, 9, 182, false), (5, 31, 183, false), (5, 34, 118, true), (6, 11, 54, false), (6, 24, 55, false), 
  (6, 28, 182, false), (6, 34, 57, false), (6, 38, 56, false), (6, 41, 58, false), (6, 47, 181, false), (6, 50, 69, false), (6, 53, 59, false), (6, 56, 64, false), 
  (6, 60, 60, false), (6, 64, 61, false), (6, 68, 118, true), (6, 72, 62, false), (7, 17, 0, true), (7, 18, 1, false), (7, 35, 54, false), (7, 45, 57, false), 
  (7, 49, 74, false), (7, 53, 5, false), (7, 57, 77, false), (7, 61, 81, false), (7, 64, 56, false), (7, 67, 58, false), (7, 73, 55, false), (7, 76, 75, false), 
  (7, 79, 76, false), (7, 83, 183, false), (7, 89, 2, false), (7, 93, 60, false), (7, 96, 3, false), (7, 100, 61, false), (7, 103, 4, false), (7, 106, 118, true), 
  (7, 110, 62, false), (8, 9, 12, false), (8, 21, 40, true), (8, 32, 0, true), (8, 41, 14, false), (8, 45, 112, false), (8, 52, 76, false), (8, 57, 18, false), 
  (8, 61, 113, false), (8, 65, 13, false), (8, 73, 35, false), (8, 79, 19, false), (8, 82, 16, false), (8, 86, 68, false), (8, 91, 114, false), (8, 94, 80, false), 
  (8, 97, 79, false), (8, 100, 64, false), (8, 103, 92, false), (8, 107, 20, false), (8, 110, 21, false), (8, 113, 78, false), (8, 117, 25, false), (8, 121, 93, false), 
  (8, 124, 75, false), (8, 128, 90, false), (8, 132, 115, false), (8, 135, 34, false), (8, 141, 17, false), (8, 154, 116, false), (8, 157, 117, false), (8, 160, 1, false), 
  (8, 163, 82, false), (8, 170, 42, false), (8, 177, 43, false), (8, 184, 55, false), (8, 192, 74, false), (8, 193, 56, false), (8, 199, 4, false), (8, 202, 15, false), 
  (8, 211, 32, false), (8, 227, 22, false), (8, 231, 77, false), (8, 238, 31, false), (8, 239, 33, false), (8, 242, 24, false), (8, 248, 85, false), (8, 252, 48, false), 
  (8, 253, 72, false), (8, 254, 39, false), (8, 255, 28, false), (8, 259, 29, false), (8, 263, 41, false), (9, 56, 120, false), (9, 68, 123, false), (9, 76, 122, false), 
  (9, 80, 121, false), (9, 83, 128, false), (9, 87, 134, false), (9, 90, 135, false), (9, 93, 127, false), (9, 96, 129, false), (9, 100, 136, false), (9, 104, 132, false), 
  (9, 107, 131, false), (9, 110, 130, false), (9, 113, 124, false), (9, 116, 125, false), (9, 120, 126, false), (9, 124, 140, false), (9, 128, 133, false), (9, 132, 137, false), 
  (9, 135, 138, false), (9, 138, 170, false), (9, 141, 171, false), (9, 144, 148, false), (9, 150, 153, false), (9, 153, 158, false), (9, 160, 159, false), (9, 164, 160, false), 
  (9, 171, 163, false), (9, 174, 161, false), (9, 180, 162, false), (9, 184, 164, false), (9, 187, 165, false), (9, 190, 167, false), (9, 193, 166, false), (9, 196, 169, false), 
  (9, 199, 168, false), (9, 210, 179, false), (10, 9, 86, false), (10, 12, 119, false), (10, 13, 87, false), (10, 17, 139, false), (10, 18, 88, false), (10, 22, 141, false), 
  (10, 23, 89, false), (10, 26, 142, false), (10, 27, 90, false), (10, 31, 143, false), (10, 32, 91, false), (10, 35, 144, false), (10, 36, 92, false), (10, 40, 145, false), 
  (10, 41, 93, false), (10, 44, 146, false), (10, 45, 94, false), (10, 48, 147, false), (10, 49, 95, false), (10, 53, 149, false), (10, 54, 96, false), (10, 57, 150, false), 
  (10, 58, 97, false), (10, 61, 151, false), (10, 62, 98, false), (10, 65, 152, false), (10, 66, 99, false), (10, 70, 154, false), (10, 71, 100, false), (10, 75, 155, false), 
  (10, 76, 101, false), (10, 79, 156, false), (10, 80, 102, false), (10, 83, 157, false), (10, 84, 103, false), (10, 88, 173, false), (10, 89, 104, false), (10, 92, 174, false), 
  (10, 93, 105, false), (10, 97, 175, false), (10, 98, 106, false), (10, 101, 176, false), (10, 102, 107, false), (10, 105, 177, false), (10, 106, 108, false), (10, 109, 178, false), 
  (10, 110, 109, false), (10, 113, 172, false), (10, 114, 110, false), (10, 117, 171, false), (10, 118, 111, false), (10, 122, 180, false)]
def pm_lkp : List Nat := [316, 573, 576, 75, 111, 131, 200, 423, 331, 403, 483, 484, 485, 495, 544, 529, 524, 724, 725, 533, 
  534, 549, 726, 553, 557, 515, 516, 525, 545, 543, 292, 303, 307, 317, 345, 353, 357, 366, 694, 394, 
  538, 542, 765, 766, 374, 381, 378, 754, 561, 565, 587, 594, 597, 569, 577, 578, 579, 583, 590, 85, 
  300, 749, 81, 437, 335, 336, 407, 411, 428, 429, 441, 433, 296, 349, 759, 760, 138, 161, 166, 167, 
  520, 507, 456, 460, 464, 465, 647, 648, 649, 650, 312, 311, 361, 365, 740, 741, 745, 66, 234, 256, 
  280, 284, 323, 327, 337, 386, 390, 399, 419, 424, 449, 452, 466, 474, 475, 479, 491, 503, 511, 601, 
  602, 603, 608, 611, 620, 632, 635, 638, 643, 655, 663, 671, 676, 677, 678, 686, 690, 704, 705, 714, 
  715, 720, 736, 750, 755, 761, 288, 341, 370, 774, 861, 886, 852, 893, 921, 925, 889, 865, 917, 897, 
  869, 933, 856, 873, 882, 901, 909, 937, 949, 957, 969, 1016, 1035, 989, 985, 993, 1004, 981, 996, 1000, 
  1008, 961, 977, 965, 973, 1084, 58, 769, 276, 848, 382, 878, 415, 905, 445, 913, 470, 929, 486, 941, 
  487, 945, 499, 953, 604, 1012, 612, 1019, 616, 1023, 624, 1027, 628, 1031, 639, 1038, 651, 1042, 659, 1046, 
  667, 1055, 672, 1059, 682, 1063, 700, 1067, 706, 1071, 710, 1075, 716, 1051, 727, 1050, 731, 1079]
/-- where Object.<init> is named, and where arraycopy is -/
def pm_obj : List (Nat × Nat) := [(0, 3), (1, 3), (2, 3), (3, 3), (4, 3), (5, 3), (6, 3), (7, 3), (8, 1), (9, 1)]
def pm_objp : List Nat := [141, 69, 203, 237, 114, 84, 78, 134, 61, 772]
def pm_cpy : List (Nat × Nat) := [(1, 151), (2, 53), (5, 25)]
def pm_cpyp : List Nat := [322, 321, 171]
/-- fields: class, place in its pool, the class of the field, its number -/
def pm_fls : List (Nat × Nat × Nat × Nat) := [(0, 9, 0, 0), (0, 15, 0, 1), (0, 18, 0, 2), (0, 21, 0, 3), (1, 11, 1, 0), (1, 19, 1, 1), (1, 28, 1, 2), (1, 35, 1, 3), 
  (1, 39, 1, 4), (1, 43, 6, 0), (1, 47, 5, 1), (1, 89, 7, 0), (1, 103, 4, 0), (2, 9, 2, 0), (2, 15, 2, 1), (2, 31, 0, 0), 
  (2, 37, 0, 2), (2, 44, 0, 1), (2, 47, 0, 3), (3, 11, 3, 0), (3, 17, 3, 2), (3, 21, 3, 1), (3, 24, 3, 3), (4, 11, 4, 0), 
  (4, 15, 4, 1), (4, 18, 4, 2), (4, 40, 0, 2), (4, 69, 0, 3), (5, 15, 5, 0), (5, 21, 5, 1), (6, 14, 6, 0), (6, 20, 6, 1), 
  (6, 44, 5, 1), (7, 11, 7, 0), (7, 22, 7, 1), (7, 26, 7, 2), (7, 30, 7, 3), (7, 38, 7, 4), (7, 42, 7, 5), (7, 70, 5, 1), 
  (8, 10, 8, 0), (8, 16, 8, 1), (8, 22, 8, 2), (8, 28, 8, 3), (8, 33, 8, 4), (8, 37, 8, 5), (8, 48, 1, 2), (8, 69, 1, 3), 
  (8, 145, 4, 0), (8, 148, 4, 1), (8, 151, 4, 2), (8, 167, 3, 2), (8, 174, 3, 3), (8, 180, 7, 4), (8, 189, 7, 5), (8, 196, 7, 0), 
  (8, 205, 7, 2), (8, 208, 5, 1), (8, 213, 1, 0), (8, 217, 1, 1), (8, 221, 6, 0), (8, 224, 6, 1), (8, 234, 1, 4), (9, 8, 9, 0), 
  (9, 14, 9, 4), (9, 17, 9, 6), (9, 20, 9, 7), (9, 23, 9, 8), (9, 26, 9, 9), (9, 29, 9, 10), (9, 32, 9, 11), (9, 35, 9, 14), 
  (9, 38, 9, 15), (9, 41, 9, 16), (9, 44, 9, 17), (9, 47, 9, 18), (9, 50, 9, 19), (9, 53, 9, 21), (9, 60, 9, 3), (9, 64, 9, 1), 
  (9, 73, 9, 2), (9, 147, 9, 5), (9, 157, 9, 12), (9, 168, 9, 20), (9, 177, 9, 13), (9, 202, 9, 22)]
def pm_flp : List Nat := [142, 144, 146, 149, 211, 213, 215, 217, 219, 101, 90, 175, 117, 204, 205, 143, 148, 145, 150, 240, 
  242, 241, 244, 115, 118, 120, 147, 151, 88, 89, 100, 103, 91, 174, 177, 178, 180, 181, 183, 92, 
  257, 258, 259, 260, 261, 262, 216, 218, 116, 119, 121, 243, 245, 182, 184, 176, 179, 93, 212, 214, 
  102, 104, 220, 778, 782, 784, 785, 786, 787, 788, 789, 792, 793, 794, 795, 796, 797, 799, 781, 779, 
  780, 783, 790, 798, 791, 800]
/-- class links: class, place, the class named -/
def pm_kls : List (Nat × Nat × Nat) := [(1, 9, 6), (1, 17, 4), (1, 25, 7), (1, 32, 2), (3, 9, 1), (6, 9, 5), (7, 9, 0), (7, 33, 5), 
  (8, 7, 1), (8, 19, 3), (8, 26, 0), (10, 7, 8), (10, 10, 9)]
def pm_klp : List Nat := [70, 72, 129, 198, 238, 79, 135, 165, 64, 232, 255, 56, 767]
def pm_ks : List (Nat × Nat × Int32) := [(9, 7, 41160), (9, 67, 40180), (9, 72, 39200)]
def pm_ksp : List Nat := [773, 860, 877]
def pm_js : List (Nat × Nat × Int64) := [(2, 29, -1), (8, 246, 7), (8, 266, 1000003), (9, 206, 1000003), (9, 208, 7), (12, 314, 6148914691236517205), (12, 316, 3689348814741910323), (12, 318, 1085102592571150095)]
def pm_jsp : List Nat := [398, 735, 744, 1088, 1083, 697, 698, 699]
def pm_mp : List (List Nat) := [[50, 139], [50, 162, 163], [50, 313, 314], [50, 362, 363], [50, 679, 680], [50, 508, 509], [50, 562, 563], [50, 580, 581], 
  [50, 584, 585], [50, 570, 571], [50, 591, 592], [50, 574], [44, 67], [44, 387, 388], [44, 281, 282], [44, 687, 688], 
  [44, 420, 421], [44, 621, 622], [44, 328, 329], [44, 400, 401], [44, 480, 481], [44, 492, 493], [44, 554, 555], [44, 551, 7], 
  [44, 721, 722], [44, 512, 513], [44, 527, 5], [44, 547, 6], [44, 289, 290], [44, 342, 343], [52, 201], [52, 530, 531], 
  [52, 691, 692], [52, 539, 540], [52, 395, 396], [52, 391, 392], [52, 535, 536], [52, 318, 319], [52, 367, 368], [52, 762, 763], 
  [53, 235], [53, 371, 372], [53, 656, 657], [53, 664, 665], [53, 376, 2], [48, 112], [48, 304, 305], [48, 354, 355], 
  [48, 751, 752], [48, 558, 559], [48, 567, 8], [48, 599, 9], [48, 588], [48, 595], [46, 82], [46, 438, 439], 
  [46, 408, 409], [46, 168, 169], [46, 412, 413], [46, 442, 443], [46, 297, 298], [46, 350, 351], [46, 746, 747], [45, 76], 
  [45, 434, 435], [45, 332, 333], [45, 404, 405], [45, 496, 497], [45, 425, 426], [45, 431, 3], [45, 293, 294], [45, 346, 347], 
  [45, 756, 757], [49, 132], [49, 521, 522], [49, 517, 518], [49, 324, 325], [49, 457, 458], [49, 504, 505], [49, 467, 468], 
  [49, 453, 454], [49, 462, 4], [49, 644, 645], [49, 308, 309], [49, 358, 359], [49, 737, 738], [43, 59], [43, 277, 278], 
  [43, 383, 384], [43, 416, 417], [43, 446, 447], [43, 471, 472], [43, 476, 477], [43, 488, 489], [43, 500, 501], [43, 605, 606], 
  [43, 613, 614], [43, 617, 618], [43, 625, 626], [43, 629, 630], [43, 640, 641], [43, 652, 653], [43, 660, 661], [43, 668, 669], 
  [43, 673, 674], [43, 683, 684], [43, 701, 702], [43, 707, 708], [43, 711, 712], [43, 717, 718], [43, 728, 729], [43, 732, 733], 
  [43, 286, 0], [43, 339, 1], [43, 450], [43, 609], [43, 633], [43, 636], [43, 742], [54, 770], 
  [54, 776, 10], [54, 854, 11], [54, 887], [54, 863, 13], [54, 858, 12], [54, 875, 16], [54, 884, 17], [54, 891, 18], 
  [54, 895, 19], [54, 867, 14], [54, 935, 26], [54, 871, 15], [54, 899, 20], [54, 911, 22], [54, 923, 24], [54, 927, 25], 
  [54, 919, 23], [54, 939, 27], [54, 951, 28], [54, 849, 850], [54, 903, 21], [54, 879, 880], [54, 906, 907], [54, 914, 915], 
  [54, 930, 931], [54, 942, 943], [54, 946, 947], [54, 954, 955], [54, 1017], [54, 1013, 1014], [54, 1020, 1021], [54, 1024, 1025], 
  [54, 1028, 1029], [54, 1036], [54, 1032, 1033], [54, 1039, 1040], [54, 1043, 1044], [54, 1047, 1048], [54, 991, 36], [54, 987, 35], 
  [54, 994], [54, 983, 34], [54, 998, 37], [54, 1006, 39], [54, 1002, 38], [54, 1010, 40], [54, 979, 33], [54, 963, 30], 
  [54, 975, 32], [54, 967, 31], [54, 959, 29], [54, 970, 971], [54, 1052, 1053], [54, 1056, 1057], [54, 1060, 1061], [54, 1064, 1065], 
  [54, 1068, 1069], [54, 1072, 1073], [54, 1076, 1077], [54, 1086, 41], [54, 1080, 1081], [47, 379], [47, 86], [47, 301], 
  [55, 695]]
def pm_lyp : List (List Nat) := [[152, 154, 156, 158], [221, 223, 225, 227, 229], [206, 208], [246, 248, 250, 252], 
  [122, 124, 126], [94, 96], [105, 107], [185, 187, 189, 191, 193, 195], 
  [263, 265, 267, 269, 271, 273], [801, 803, 805, 807, 809, 811, 813, 815, 817, 819, 821, 823, 825, 827, 829, 831, 833, 835, 837, 839, 841, 843, 845]]
def pm_inp : List Nat := [137, 65, 199, 233, 110, 80, 74, 130, 
  57, 768]
def pm_iip : List Nat := [50, 44, 52, 53, 48, 46, 45, 49, 
  43, 54]
def pm_nm (y : Nat) : MethodName := pm_nms.getD y ⟨"", "", ""⟩
def pm_mb (y : Nat) : ByteArray := pm_bys.getD y ByteArray.empty
def pm_rt (y : Nat) : Option FieldType := pm_rts.getD y none
def pm_mx (y : Nat) : Nat := (pm_ns.getD y (0, 0, 0, 0, 0, 0)).1
def pm_oc (y : Nat) : Nat := (pm_ns.getD y (0, 0, 0, 0, 0, 0)).2.1
def pm_na (y : Nat) : Nat := (pm_ns.getD y (0, 0, 0, 0, 0, 0)).2.2.1
def pm_kd (y : Nat) : Nat := (pm_ns.getD y (0, 0, 0, 0, 0, 0)).2.2.2.1
def pm_fr (y : Nat) : Nat := (pm_ns.getD y (0, 0, 0, 0, 0, 0)).2.2.2.2.1
def pm_lc (y : Nat) : Nat := (pm_ns.getD y (0, 0, 0, 0, 0, 0)).2.2.2.2.2
def pm_cs (c : Nat) : String := pm_cn.getD c ""
def pm_lk (c i : Nat) : Option (Nat × Bool) := (pm_lks.find? (fun e => e.1 == c && e.2.1 == i)).map (fun e => e.2.2)
def pm_fl (c i : Nat) : Option (Nat × Nat) := (pm_fls.find? (fun e => e.1 == c && e.2.1 == i)).map (fun e => e.2.2)
def pm_kl (c i : Nat) : Option Nat := (pm_kls.find? (fun e => e.1 == c && e.2.1 == i)).map (fun e => e.2.2)
def pm_ki (c i : Nat) : Option Int32 := (pm_ks.find? (fun e => e.1 == c && e.2.1 == i)).map (fun e => e.2.2)
def pm_kj (c i : Nat) : Option Int64 := (pm_js.find? (fun e => e.1 == c && e.2.1 == i)).map (fun e => e.2.2)
/-! the tables hold what they say -/
theorem pm_gw {b : List Cond} {ps : List Nat} {w : Cond} {ws : List Cond} (h : ps.map (fun i => b[i]?) = ws.map some) (hw : w ∈ ws) : w ∈ b := by
  have h1 : some w ∈ ps.map (fun i => b[i]?) := by rw [h]; exact List.mem_map.mpr ⟨w, hw, rfl⟩
  obtain ⟨i, -, hi⟩ := List.mem_map.mp h1
  exact List.mem_of_getElem? hi
set_option maxRecDepth 100000 in
theorem pm_lks_ok : pm_lkp.map (fun i => lw_tbl[i]?) = (pm_lks.map (fun e => if e.2.2.2 then Cond.methodLinkNest (pm_cs e.1) e.2.1 (pm_nm e.2.2.1) "PaneDesk" else Cond.methodLink (pm_cs e.1) e.2.1 (pm_nm e.2.2.1))).map some := by decide +kernel
set_option maxRecDepth 100000 in
theorem pm_obj_ok : pm_objp.map (fun i => lw_tbl[i]?) = (pm_obj.map (fun e => Cond.methodLink (pm_cs e.1) e.2 objectInit)).map some := by decide +kernel
set_option maxRecDepth 100000 in
theorem pm_cpy_ok : pm_cpyp.map (fun i => lw_tbl[i]?) = (pm_cpy.map (fun e => Cond.methodLink (pm_cs e.1) e.2 arraycopyName)).map some := by decide +kernel
set_option maxRecDepth 100000 in
theorem pm_fls_ok : pm_flp.map (fun i => lw_tbl[i]?) = (pm_fls.map (fun e => match pm_cl[e.2.2.1]? with | some q => Cond.fieldLink (pm_cs e.1) e.2.1 (q.2.1 e.2.2.2).1 (q.2.1 e.2.2.2).2.1 (q.2.1 e.2.2.2).2.2.1 | none => Cond.initialized "")).map some := by decide +kernel
set_option maxRecDepth 100000 in
theorem pm_kls_ok : pm_klp.map (fun i => lw_tbl[i]?) = (pm_kls.map (fun e => Cond.classLink (pm_cs e.1) e.2.1 (pm_cs e.2.2))).map some := by decide +kernel
set_option maxRecDepth 100000 in
theorem pm_ks_ok : pm_ksp.map (fun i => lw_tbl[i]?) = (pm_ks.map (fun e => Cond.constant (pm_cs e.1) e.2.1 e.2.2)).map some := by decide +kernel
set_option maxRecDepth 100000 in
theorem pm_js_ok : pm_jsp.map (fun i => lw_tbl[i]?) = (pm_js.map (fun e => Cond.constantLong (pm_cs e.1) e.2.1 e.2.2)).map some := by decide +kernel
def pm_need (y : Nat) : List Cond := .initialized (pm_nm y).cls :: (if pm_kd y = 0 then [.static (pm_nm y)] else if pm_kd y = 1 then [.instanceMethod (pm_nm y), .selects (pm_nm y).cls (pm_nm y) (pm_nm y)] else [.instanceMethod (pm_nm y)])
set_option maxRecDepth 100000 in
theorem pm_mp_ok : ∀ y, y < 185 → (pm_mp.getD y []).map (fun i => lw_tbl[i]?) = (pm_need y).map some := by decide +kernel
set_option maxRecDepth 100000 in
theorem pm_nm_ok : ∀ y, y < 185 → (pm_nm y).cls = pm_cs (pm_oc y) ∧ plainFor (pm_nm y) = true ∧ (pm_nm y).cls ≠ "java/lang/invoke/MethodHandle" ∧ (pm_nm y).cls ≠ "java/lang/invoke/VarHandle" ∧ (parseMethodDescriptor (pm_nm y).desc).map (fun d => d.parameters.length) = some (pm_na y) ∧ (pm_kd y = 2 → (pm_nm y).name = "<init>" ∧ pm_rt y = none) := by decide +kernel
set_option maxRecDepth 100000 in
theorem pm_ly_ok : ∀ ci, ci < 10 → (pm_lyp.getD ci []).map (fun i => lw_tbl[i]?) = (match pm_cl[ci]? with | some q => u_ws q.1 q.2.1 q.2.2 | none => []).map some := by decide +kernel
set_option maxRecDepth 100000 in
theorem pm_in_ok : pm_inp.map (fun i => lw_tbl[i]?) = (pm_cl.map (fun q => Cond.instantiable q.1 q.2.2)).map some := by decide +kernel
set_option maxRecDepth 100000 in
theorem pm_ii_ok : pm_iip.map (fun i => lw_tbl[i]?) = (pm_cl.map (fun q => Cond.initialized q.1)).map some := by decide +kernel
theorem pm_misc_ok : ([99, 172, 173, 51, 62] : List Nat).map (fun i => lw_tbl[i]?) = ([.arrayClass .int, .static arraycopyName, .native arraycopyName, .initialized "java/lang/System", .instanceMethod objectInit] : List Cond).map some := by decide +kernel
theorem pm_in1 {w : Cond} (h : w ∈ tables_1_1) : w ∈ lw_tbl := List.mem_append_right _ (List.mem_append_left _ h)
theorem pm_in2 {w : Cond} (h : w ∈ tables_1_2) : w ∈ lw_tbl := List.mem_append_right _ (List.mem_append_right _ (List.mem_append_left _ h))
theorem pm_in3 {w : Cond} (h : w ∈ tables_1_3) : w ∈ lw_tbl := List.mem_append_right _ (List.mem_append_right _ (List.mem_append_right _ (List.mem_append_left _ h)))
theorem pm_in4 {w : Cond} (h : w ∈ tables_1_4) : w ∈ lw_tbl := List.mem_append_right _ (List.mem_append_right _ (List.mem_append_right _ (List.mem_append_right _ (List.mem_append_left _ h))))
theorem pm_in5 {w : Cond} (h : w ∈ tables_1_5) : w ∈ lw_tbl := List.mem_append_right _ (List.mem_append_right _ (List.mem_append_right _ (List.mem_append_right _ (List.mem_append_right _ h))))
set_option maxRecDepth 100000 in
theorem pm_cobj : Cond.code objectInit ⟨#[0xb1]⟩ 1 none ∈ lw_tbl := pm_in1 (List.mem_of_getElem? (i := 21) rfl)
set_option maxRecDepth 100000 in
theorem pm_c0 : Cond.code (pm_nm 0) (pm_mb 0) (pm_mx 0) (pm_rt 0) ∈ lw_tbl := pm_in1 (List.mem_of_getElem? (i := 98) rfl)
set_option maxRecDepth 100000 in
theorem pm_c1 : Cond.code (pm_nm 1) (pm_mb 1) (pm_mx 1) (pm_rt 1) ∈ lw_tbl := pm_in1 (List.mem_of_getElem? (i := 122) rfl)
set_option maxRecDepth 100000 in
theorem pm_c2 : Cond.code (pm_nm 2) (pm_mb 2) (pm_mx 2) (pm_rt 2) ∈ lw_tbl := pm_in2 (List.mem_of_getElem? (i := 33) rfl)
set_option maxRecDepth 100000 in
theorem pm_c3 : Cond.code (pm_nm 3) (pm_mb 3) (pm_mx 3) (pm_rt 3) ∈ lw_tbl := pm_in2 (List.mem_of_getElem? (i := 82) rfl)
set_option maxRecDepth 100000 in
theorem pm_c4 : Cond.code (pm_nm 4) (pm_mb 4) (pm_mx 4) (pm_rt 4) ∈ lw_tbl := pm_in3 (List.mem_of_getElem? (i := 159) rfl)
set_option maxRecDepth 100000 in
theorem pm_c5 : Cond.code (pm_nm 5) (pm_mb 5) (pm_mx 5) (pm_rt 5) ∈ lw_tbl := pm_in2 (List.mem_of_getElem? (i := 228) rfl)
set_option maxRecDepth 100000 in
theorem pm_c6 : Cond.code (pm_nm 6) (pm_mb 6) (pm_mx 6) (pm_rt 6) ∈ lw_tbl := pm_in3 (List.mem_of_getElem? (i := 42) rfl)
set_option maxRecDepth 100000 in
theorem pm_c7 : Cond.code (pm_nm 7) (pm_mb 7) (pm_mx 7) (pm_rt 7) ∈ lw_tbl := pm_in3 (List.mem_of_getElem? (i := 60) rfl)
set_option maxRecDepth 100000 in
theorem pm_c8 : Cond.code (pm_nm 8) (pm_mb 8) (pm_mx 8) (pm_rt 8) ∈ lw_tbl := pm_in3 (List.mem_of_getElem? (i := 64) rfl)
set_option maxRecDepth 100000 in
theorem pm_c9 : Cond.code (pm_nm 9) (pm_mb 9) (pm_mx 9) (pm_rt 9) ∈ lw_tbl := pm_in3 (List.mem_of_getElem? (i := 50) rfl)
set_option maxRecDepth 100000 in
theorem pm_c10 : Cond.code (pm_nm 10) (pm_mb 10) (pm_mx 10) (pm_rt 10) ∈ lw_tbl := pm_in3 (List.mem_of_getElem? (i := 71) rfl)
set_option maxRecDepth 100000 in
theorem pm_c11 : Cond.code (pm_nm 11) (pm_mb 11) (pm_mx 11) (pm_rt 11) ∈ lw_tbl := pm_in3 (List.mem_of_getElem? (i := 53) rfl)
set_option maxRecDepth 100000 in
theorem pm_c12 : Cond.code (pm_nm 12) (pm_mb 12) (pm_mx 12) (pm_rt 12) ∈ lw_tbl := pm_in1 (List.mem_of_getElem? (i := 26) rfl)
set_option maxRecDepth 100000 in
theorem pm_c13 : Cond.code (pm_nm 13) (pm_mb 13) (pm_mx 13) (pm_rt 13) ∈ lw_tbl := pm_in2 (List.mem_of_getElem? (i := 107) rfl)
set_option maxRecDepth 100000 in
theorem pm_c14 : Cond.code (pm_nm 14) (pm_mb 14) (pm_mx 14) (pm_rt 14) ∈ lw_tbl := pm_in2 (List.mem_of_getElem? (i := 1) rfl)
set_option maxRecDepth 100000 in
theorem pm_c15 : Cond.code (pm_nm 15) (pm_mb 15) (pm_mx 15) (pm_rt 15) ∈ lw_tbl := pm_in3 (List.mem_of_getElem? (i := 167) rfl)
set_option maxRecDepth 100000 in
theorem pm_c16 : Cond.code (pm_nm 16) (pm_mb 16) (pm_mx 16) (pm_rt 16) ∈ lw_tbl := pm_in2 (List.mem_of_getElem? (i := 140) rfl)
set_option maxRecDepth 100000 in
theorem pm_c17 : Cond.code (pm_nm 17) (pm_mb 17) (pm_mx 17) (pm_rt 17) ∈ lw_tbl := pm_in3 (List.mem_of_getElem? (i := 101) rfl)
set_option maxRecDepth 100000 in
theorem pm_c18 : Cond.code (pm_nm 18) (pm_mb 18) (pm_mx 18) (pm_rt 18) ∈ lw_tbl := pm_in2 (List.mem_of_getElem? (i := 48) rfl)
set_option maxRecDepth 100000 in
theorem pm_c19 : Cond.code (pm_nm 19) (pm_mb 19) (pm_mx 19) (pm_rt 19) ∈ lw_tbl := pm_in2 (List.mem_of_getElem? (i := 120) rfl)
set_option maxRecDepth 100000 in
theorem pm_c20 : Cond.code (pm_nm 20) (pm_mb 20) (pm_mx 20) (pm_rt 20) ∈ lw_tbl := pm_in2 (List.mem_of_getElem? (i := 200) rfl)
set_option maxRecDepth 100000 in
theorem pm_c21 : Cond.code (pm_nm 21) (pm_mb 21) (pm_mx 21) (pm_rt 21) ∈ lw_tbl := pm_in2 (List.mem_of_getElem? (i := 212) rfl)
set_option maxRecDepth 100000 in
theorem pm_c22 : Cond.code (pm_nm 22) (pm_mb 22) (pm_mx 22) (pm_rt 22) ∈ lw_tbl := pm_in3 (List.mem_of_getElem? (i := 34) rfl)
set_option maxRecDepth 100000 in
theorem pm_c23 : Cond.code (pm_nm 23) (pm_mb 23) (pm_mx 23) (pm_rt 23) ∈ lw_tbl := pm_in3 (List.mem_of_getElem? (i := 30) rfl)
set_option maxRecDepth 100000 in
theorem pm_c24 : Cond.code (pm_nm 24) (pm_mb 24) (pm_mx 24) (pm_rt 24) ∈ lw_tbl := pm_in3 (List.mem_of_getElem? (i := 201) rfl)
set_option maxRecDepth 100000 in
theorem pm_c25 : Cond.code (pm_nm 25) (pm_mb 25) (pm_mx 25) (pm_rt 25) ∈ lw_tbl := pm_in2 (List.mem_of_getElem? (i := 232) rfl)
set_option maxRecDepth 100000 in
theorem pm_c26 : Cond.code (pm_nm 26) (pm_mb 26) (pm_mx 26) (pm_rt 26) ∈ lw_tbl := pm_in3 (List.mem_of_getElem? (i := 6) rfl)
set_option maxRecDepth 100000 in
theorem pm_c27 : Cond.code (pm_nm 27) (pm_mb 27) (pm_mx 27) (pm_rt 27) ∈ lw_tbl := pm_in3 (List.mem_of_getElem? (i := 26) rfl)
set_option maxRecDepth 100000 in
theorem pm_c28 : Cond.code (pm_nm 28) (pm_mb 28) (pm_mx 28) (pm_rt 28) ∈ lw_tbl := pm_in2 (List.mem_of_getElem? (i := 9) rfl)
set_option maxRecDepth 100000 in
theorem pm_c29 : Cond.code (pm_nm 29) (pm_mb 29) (pm_mx 29) (pm_rt 29) ∈ lw_tbl := pm_in2 (List.mem_of_getElem? (i := 62) rfl)
set_option maxRecDepth 100000 in
theorem pm_c30 : Cond.code (pm_nm 30) (pm_mb 30) (pm_mx 30) (pm_rt 30) ∈ lw_tbl := pm_in1 (List.mem_of_getElem? (i := 160) rfl)
set_option maxRecDepth 100000 in
theorem pm_c31 : Cond.code (pm_nm 31) (pm_mb 31) (pm_mx 31) (pm_rt 31) ∈ lw_tbl := pm_in3 (List.mem_of_getElem? (i := 10) rfl)
set_option maxRecDepth 100000 in
theorem pm_c32 : Cond.code (pm_nm 32) (pm_mb 32) (pm_mx 32) (pm_rt 32) ∈ lw_tbl := pm_in3 (List.mem_of_getElem? (i := 171) rfl)
set_option maxRecDepth 100000 in
theorem pm_c33 : Cond.code (pm_nm 33) (pm_mb 33) (pm_mx 33) (pm_rt 33) ∈ lw_tbl := pm_in3 (List.mem_of_getElem? (i := 19) rfl)
set_option maxRecDepth 100000 in
theorem pm_c34 : Cond.code (pm_nm 34) (pm_mb 34) (pm_mx 34) (pm_rt 34) ∈ lw_tbl := pm_in2 (List.mem_of_getElem? (i := 115) rfl)
set_option maxRecDepth 100000 in
theorem pm_c35 : Cond.code (pm_nm 35) (pm_mb 35) (pm_mx 35) (pm_rt 35) ∈ lw_tbl := pm_in2 (List.mem_of_getElem? (i := 111) rfl)
set_option maxRecDepth 100000 in
theorem pm_c36 : Cond.code (pm_nm 36) (pm_mb 36) (pm_mx 36) (pm_rt 36) ∈ lw_tbl := pm_in3 (List.mem_of_getElem? (i := 15) rfl)
set_option maxRecDepth 100000 in
theorem pm_c37 : Cond.code (pm_nm 37) (pm_mb 37) (pm_mx 37) (pm_rt 37) ∈ lw_tbl := pm_in2 (List.mem_of_getElem? (i := 38) rfl)
set_option maxRecDepth 100000 in
theorem pm_c38 : Cond.code (pm_nm 38) (pm_mb 38) (pm_mx 38) (pm_rt 38) ∈ lw_tbl := pm_in2 (List.mem_of_getElem? (i := 87) rfl)
set_option maxRecDepth 100000 in
theorem pm_c39 : Cond.code (pm_nm 39) (pm_mb 39) (pm_mx 39) (pm_rt 39) ∈ lw_tbl := pm_in4 (List.mem_of_getElem? (i := 2) rfl)
set_option maxRecDepth 100000 in
theorem pm_c40 : Cond.code (pm_nm 40) (pm_mb 40) (pm_mx 40) (pm_rt 40) ∈ lw_tbl := pm_in1 (List.mem_of_getElem? (i := 194) rfl)
set_option maxRecDepth 100000 in
theorem pm_c41 : Cond.code (pm_nm 41) (pm_mb 41) (pm_mx 41) (pm_rt 41) ∈ lw_tbl := pm_in2 (List.mem_of_getElem? (i := 91) rfl)
set_option maxRecDepth 100000 in
theorem pm_c42 : Cond.code (pm_nm 42) (pm_mb 42) (pm_mx 42) (pm_rt 42) ∈ lw_tbl := pm_in3 (List.mem_of_getElem? (i := 136) rfl)
set_option maxRecDepth 100000 in
theorem pm_c43 : Cond.code (pm_nm 43) (pm_mb 43) (pm_mx 43) (pm_rt 43) ∈ lw_tbl := pm_in3 (List.mem_of_getElem? (i := 144) rfl)
set_option maxRecDepth 100000 in
theorem pm_c44 : Cond.code (pm_nm 44) (pm_mb 44) (pm_mx 44) (pm_rt 44) ∈ lw_tbl := pm_in2 (List.mem_of_getElem? (i := 95) rfl)
set_option maxRecDepth 100000 in
theorem pm_c45 : Cond.code (pm_nm 45) (pm_mb 45) (pm_mx 45) (pm_rt 45) ∈ lw_tbl := pm_in1 (List.mem_of_getElem? (i := 71) rfl)
set_option maxRecDepth 100000 in
theorem pm_c46 : Cond.code (pm_nm 46) (pm_mb 46) (pm_mx 46) (pm_rt 46) ∈ lw_tbl := pm_in2 (List.mem_of_getElem? (i := 24) rfl)
set_option maxRecDepth 100000 in
theorem pm_c47 : Cond.code (pm_nm 47) (pm_mb 47) (pm_mx 47) (pm_rt 47) ∈ lw_tbl := pm_in2 (List.mem_of_getElem? (i := 74) rfl)
set_option maxRecDepth 100000 in
theorem pm_c48 : Cond.code (pm_nm 48) (pm_mb 48) (pm_mx 48) (pm_rt 48) ∈ lw_tbl := pm_in3 (List.mem_of_getElem? (i := 231) rfl)
set_option maxRecDepth 100000 in
theorem pm_c49 : Cond.code (pm_nm 49) (pm_mb 49) (pm_mx 49) (pm_rt 49) ∈ lw_tbl := pm_in3 (List.mem_of_getElem? (i := 38) rfl)
set_option maxRecDepth 100000 in
theorem pm_c50 : Cond.code (pm_nm 50) (pm_mb 50) (pm_mx 50) (pm_rt 50) ∈ lw_tbl := pm_in3 (List.mem_of_getElem? (i := 46) rfl)
set_option maxRecDepth 100000 in
theorem pm_c51 : Cond.code (pm_nm 51) (pm_mb 51) (pm_mx 51) (pm_rt 51) ∈ lw_tbl := pm_in3 (List.mem_of_getElem? (i := 78) rfl)
set_option maxRecDepth 100000 in
theorem pm_c52 : Cond.code (pm_nm 52) (pm_mb 52) (pm_mx 52) (pm_rt 52) ∈ lw_tbl := pm_in3 (List.mem_of_getElem? (i := 67) rfl)
set_option maxRecDepth 100000 in
theorem pm_c53 : Cond.code (pm_nm 53) (pm_mb 53) (pm_mx 53) (pm_rt 53) ∈ lw_tbl := pm_in3 (List.mem_of_getElem? (i := 74) rfl)
set_option maxRecDepth 100000 in
theorem pm_c54 : Cond.code (pm_nm 54) (pm_mb 54) (pm_mx 54) (pm_rt 54) ∈ lw_tbl := pm_in1 (List.mem_of_getElem? (i := 41) rfl)
set_option maxRecDepth 100000 in
theorem pm_c55 : Cond.code (pm_nm 55) (pm_mb 55) (pm_mx 55) (pm_rt 55) ∈ lw_tbl := pm_in2 (List.mem_of_getElem? (i := 158) rfl)
set_option maxRecDepth 100000 in
theorem pm_c56 : Cond.code (pm_nm 56) (pm_mb 56) (pm_mx 56) (pm_rt 56) ∈ lw_tbl := pm_in2 (List.mem_of_getElem? (i := 128) rfl)
set_option maxRecDepth 100000 in
theorem pm_c57 : Cond.code (pm_nm 57) (pm_mb 57) (pm_mx 57) (pm_rt 57) ∈ lw_tbl := pm_in1 (List.mem_of_getElem? (i := 128) rfl)
set_option maxRecDepth 100000 in
theorem pm_c58 : Cond.code (pm_nm 58) (pm_mb 58) (pm_mx 58) (pm_rt 58) ∈ lw_tbl := pm_in2 (List.mem_of_getElem? (i := 132) rfl)
set_option maxRecDepth 100000 in
theorem pm_c59 : Cond.code (pm_nm 59) (pm_mb 59) (pm_mx 59) (pm_rt 59) ∈ lw_tbl := pm_in2 (List.mem_of_getElem? (i := 162) rfl)
set_option maxRecDepth 100000 in
theorem pm_c60 : Cond.code (pm_nm 60) (pm_mb 60) (pm_mx 60) (pm_rt 60) ∈ lw_tbl := pm_in2 (List.mem_of_getElem? (i := 17) rfl)
set_option maxRecDepth 100000 in
theorem pm_c61 : Cond.code (pm_nm 61) (pm_mb 61) (pm_mx 61) (pm_rt 61) ∈ lw_tbl := pm_in2 (List.mem_of_getElem? (i := 70) rfl)
set_option maxRecDepth 100000 in
theorem pm_c62 : Cond.code (pm_nm 62) (pm_mb 62) (pm_mx 62) (pm_rt 62) ∈ lw_tbl := pm_in3 (List.mem_of_getElem? (i := 226) rfl)
set_option maxRecDepth 100000 in
theorem pm_c63 : Cond.code (pm_nm 63) (pm_mb 63) (pm_mx 63) (pm_rt 63) ∈ lw_tbl := pm_in1 (List.mem_of_getElem? (i := 35) rfl)
set_option maxRecDepth 100000 in
theorem pm_c64 : Cond.code (pm_nm 64) (pm_mb 64) (pm_mx 64) (pm_rt 64) ∈ lw_tbl := pm_in2 (List.mem_of_getElem? (i := 154) rfl)
set_option maxRecDepth 100000 in
theorem pm_c65 : Cond.code (pm_nm 65) (pm_mb 65) (pm_mx 65) (pm_rt 65) ∈ lw_tbl := pm_in2 (List.mem_of_getElem? (i := 52) rfl)
set_option maxRecDepth 100000 in
theorem pm_c66 : Cond.code (pm_nm 66) (pm_mb 66) (pm_mx 66) (pm_rt 66) ∈ lw_tbl := pm_in2 (List.mem_of_getElem? (i := 124) rfl)
set_option maxRecDepth 100000 in
theorem pm_c67 : Cond.code (pm_nm 67) (pm_mb 67) (pm_mx 67) (pm_rt 67) ∈ lw_tbl := pm_in2 (List.mem_of_getElem? (i := 216) rfl)
set_option maxRecDepth 100000 in
theorem pm_c68 : Cond.code (pm_nm 68) (pm_mb 68) (pm_mx 68) (pm_rt 68) ∈ lw_tbl := pm_in2 (List.mem_of_getElem? (i := 145) rfl)
set_option maxRecDepth 100000 in
theorem pm_c69 : Cond.code (pm_nm 69) (pm_mb 69) (pm_mx 69) (pm_rt 69) ∈ lw_tbl := pm_in2 (List.mem_of_getElem? (i := 150) rfl)
set_option maxRecDepth 100000 in
theorem pm_c70 : Cond.code (pm_nm 70) (pm_mb 70) (pm_mx 70) (pm_rt 70) ∈ lw_tbl := pm_in2 (List.mem_of_getElem? (i := 13) rfl)
set_option maxRecDepth 100000 in
theorem pm_c71 : Cond.code (pm_nm 71) (pm_mb 71) (pm_mx 71) (pm_rt 71) ∈ lw_tbl := pm_in2 (List.mem_of_getElem? (i := 66) rfl)
set_option maxRecDepth 100000 in
theorem pm_c72 : Cond.code (pm_nm 72) (pm_mb 72) (pm_mx 72) (pm_rt 72) ∈ lw_tbl := pm_in3 (List.mem_of_getElem? (i := 236) rfl)
set_option maxRecDepth 100000 in
theorem pm_c73 : Cond.code (pm_nm 73) (pm_mb 73) (pm_mx 73) (pm_rt 73) ∈ lw_tbl := pm_in1 (List.mem_of_getElem? (i := 91) rfl)
set_option maxRecDepth 100000 in
theorem pm_c74 : Cond.code (pm_nm 74) (pm_mb 74) (pm_mx 74) (pm_rt 74) ∈ lw_tbl := pm_in3 (List.mem_of_getElem? (i := 1) rfl)
set_option maxRecDepth 100000 in
theorem pm_c75 : Cond.code (pm_nm 75) (pm_mb 75) (pm_mx 75) (pm_rt 75) ∈ lw_tbl := pm_in2 (List.mem_of_getElem? (i := 237) rfl)
set_option maxRecDepth 100000 in
theorem pm_c76 : Cond.code (pm_nm 76) (pm_mb 76) (pm_mx 76) (pm_rt 76) ∈ lw_tbl := pm_in2 (List.mem_of_getElem? (i := 44) rfl)
set_option maxRecDepth 100000 in
theorem pm_c77 : Cond.code (pm_nm 77) (pm_mb 77) (pm_mx 77) (pm_rt 77) ∈ lw_tbl := pm_in2 (List.mem_of_getElem? (i := 177) rfl)
set_option maxRecDepth 100000 in
theorem pm_c78 : Cond.code (pm_nm 78) (pm_mb 78) (pm_mx 78) (pm_rt 78) ∈ lw_tbl := pm_in2 (List.mem_of_getElem? (i := 224) rfl)
set_option maxRecDepth 100000 in
theorem pm_c79 : Cond.code (pm_nm 79) (pm_mb 79) (pm_mx 79) (pm_rt 79) ∈ lw_tbl := pm_in2 (List.mem_of_getElem? (i := 187) rfl)
set_option maxRecDepth 100000 in
theorem pm_c80 : Cond.code (pm_nm 80) (pm_mb 80) (pm_mx 80) (pm_rt 80) ∈ lw_tbl := pm_in2 (List.mem_of_getElem? (i := 173) rfl)
set_option maxRecDepth 100000 in
theorem pm_c81 : Cond.code (pm_nm 81) (pm_mb 81) (pm_mx 81) (pm_rt 81) ∈ lw_tbl := pm_in2 (List.mem_of_getElem? (i := 181) rfl)
set_option maxRecDepth 100000 in
theorem pm_c82 : Cond.code (pm_nm 82) (pm_mb 82) (pm_mx 82) (pm_rt 82) ∈ lw_tbl := pm_in3 (List.mem_of_getElem? (i := 124) rfl)
set_option maxRecDepth 100000 in
theorem pm_c83 : Cond.code (pm_nm 83) (pm_mb 83) (pm_mx 83) (pm_rt 83) ∈ lw_tbl := pm_in2 (List.mem_of_getElem? (i := 28) rfl)
set_option maxRecDepth 100000 in
theorem pm_c84 : Cond.code (pm_nm 84) (pm_mb 84) (pm_mx 84) (pm_rt 84) ∈ lw_tbl := pm_in2 (List.mem_of_getElem? (i := 78) rfl)
set_option maxRecDepth 100000 in
theorem pm_c85 : Cond.code (pm_nm 85) (pm_mb 85) (pm_mx 85) (pm_rt 85) ∈ lw_tbl := pm_in3 (List.mem_of_getElem? (i := 217) rfl)
set_option maxRecDepth 100000 in
theorem pm_c86 : Cond.code (pm_nm 86) (pm_mb 86) (pm_mx 86) (pm_rt 86) ∈ lw_tbl := pm_in1 (List.mem_of_getElem? (i := 18) rfl)
set_option maxRecDepth 100000 in
theorem pm_c87 : Cond.code (pm_nm 87) (pm_mb 87) (pm_mx 87) (pm_rt 87) ∈ lw_tbl := pm_in1 (List.mem_of_getElem? (i := 237) rfl)
set_option maxRecDepth 100000 in
theorem pm_c88 : Cond.code (pm_nm 88) (pm_mb 88) (pm_mx 88) (pm_rt 88) ∈ lw_tbl := pm_in2 (List.mem_of_getElem? (i := 103) rfl)
set_option maxRecDepth 100000 in
theorem pm_c89 : Cond.code (pm_nm 89) (pm_mb 89) (pm_mx 89) (pm_rt 89) ∈ lw_tbl := pm_in2 (List.mem_of_getElem? (i := 136) rfl)
set_option maxRecDepth 100000 in
theorem pm_c90 : Cond.code (pm_nm 90) (pm_mb 90) (pm_mx 90) (pm_rt 90) ∈ lw_tbl := pm_in2 (List.mem_of_getElem? (i := 166) rfl)
set_option maxRecDepth 100000 in
theorem pm_c91 : Cond.code (pm_nm 91) (pm_mb 91) (pm_mx 91) (pm_rt 91) ∈ lw_tbl := pm_in2 (List.mem_of_getElem? (i := 191) rfl)
set_option maxRecDepth 100000 in
theorem pm_c92 : Cond.code (pm_nm 92) (pm_mb 92) (pm_mx 92) (pm_rt 92) ∈ lw_tbl := pm_in2 (List.mem_of_getElem? (i := 196) rfl)
set_option maxRecDepth 100000 in
theorem pm_c93 : Cond.code (pm_nm 93) (pm_mb 93) (pm_mx 93) (pm_rt 93) ∈ lw_tbl := pm_in2 (List.mem_of_getElem? (i := 208) rfl)
set_option maxRecDepth 100000 in
theorem pm_c94 : Cond.code (pm_nm 94) (pm_mb 94) (pm_mx 94) (pm_rt 94) ∈ lw_tbl := pm_in2 (List.mem_of_getElem? (i := 220) rfl)
set_option maxRecDepth 100000 in
theorem pm_c95 : Cond.code (pm_nm 95) (pm_mb 95) (pm_mx 95) (pm_rt 95) ∈ lw_tbl := pm_in3 (List.mem_of_getElem? (i := 85) rfl)
set_option maxRecDepth 100000 in
theorem pm_c96 : Cond.code (pm_nm 96) (pm_mb 96) (pm_mx 96) (pm_rt 96) ∈ lw_tbl := pm_in3 (List.mem_of_getElem? (i := 93) rfl)
set_option maxRecDepth 100000 in
theorem pm_c97 : Cond.code (pm_nm 97) (pm_mb 97) (pm_mx 97) (pm_rt 97) ∈ lw_tbl := pm_in3 (List.mem_of_getElem? (i := 97) rfl)
set_option maxRecDepth 100000 in
theorem pm_c98 : Cond.code (pm_nm 98) (pm_mb 98) (pm_mx 98) (pm_rt 98) ∈ lw_tbl := pm_in3 (List.mem_of_getElem? (i := 105) rfl)
set_option maxRecDepth 100000 in
theorem pm_c99 : Cond.code (pm_nm 99) (pm_mb 99) (pm_mx 99) (pm_rt 99) ∈ lw_tbl := pm_in3 (List.mem_of_getElem? (i := 109) rfl)
set_option maxRecDepth 100000 in
theorem pm_c100 : Cond.code (pm_nm 100) (pm_mb 100) (pm_mx 100) (pm_rt 100) ∈ lw_tbl := pm_in3 (List.mem_of_getElem? (i := 120) rfl)
set_option maxRecDepth 100000 in
theorem pm_c101 : Cond.code (pm_nm 101) (pm_mb 101) (pm_mx 101) (pm_rt 101) ∈ lw_tbl := pm_in3 (List.mem_of_getElem? (i := 132) rfl)
set_option maxRecDepth 100000 in
theorem pm_c102 : Cond.code (pm_nm 102) (pm_mb 102) (pm_mx 102) (pm_rt 102) ∈ lw_tbl := pm_in3 (List.mem_of_getElem? (i := 140) rfl)
set_option maxRecDepth 100000 in
theorem pm_c103 : Cond.code (pm_nm 103) (pm_mb 103) (pm_mx 103) (pm_rt 103) ∈ lw_tbl := pm_in3 (List.mem_of_getElem? (i := 148) rfl)
set_option maxRecDepth 100000 in
theorem pm_c104 : Cond.code (pm_nm 104) (pm_mb 104) (pm_mx 104) (pm_rt 104) ∈ lw_tbl := pm_in3 (List.mem_of_getElem? (i := 153) rfl)
set_option maxRecDepth 100000 in
theorem pm_c105 : Cond.code (pm_nm 105) (pm_mb 105) (pm_mx 105) (pm_rt 105) ∈ lw_tbl := pm_in3 (List.mem_of_getElem? (i := 163) rfl)
set_option maxRecDepth 100000 in
theorem pm_c106 : Cond.code (pm_nm 106) (pm_mb 106) (pm_mx 106) (pm_rt 106) ∈ lw_tbl := pm_in3 (List.mem_of_getElem? (i := 181) rfl)
set_option maxRecDepth 100000 in
theorem pm_c107 : Cond.code (pm_nm 107) (pm_mb 107) (pm_mx 107) (pm_rt 107) ∈ lw_tbl := pm_in3 (List.mem_of_getElem? (i := 187) rfl)
set_option maxRecDepth 100000 in
theorem pm_c108 : Cond.code (pm_nm 108) (pm_mb 108) (pm_mx 108) (pm_rt 108) ∈ lw_tbl := pm_in3 (List.mem_of_getElem? (i := 191) rfl)
set_option maxRecDepth 100000 in
theorem pm_c109 : Cond.code (pm_nm 109) (pm_mb 109) (pm_mx 109) (pm_rt 109) ∈ lw_tbl := pm_in3 (List.mem_of_getElem? (i := 197) rfl)
set_option maxRecDepth 100000 in
theorem pm_c110 : Cond.code (pm_nm 110) (pm_mb 110) (pm_mx 110) (pm_rt 110) ∈ lw_tbl := pm_in3 (List.mem_of_getElem? (i := 208) rfl)
set_option maxRecDepth 100000 in
theorem pm_c111 : Cond.code (pm_nm 111) (pm_mb 111) (pm_mx 111) (pm_rt 111) ∈ lw_tbl := pm_in3 (List.mem_of_getElem? (i := 212) rfl)
set_option maxRecDepth 100000 in
theorem pm_c112 : Cond.code (pm_nm 112) (pm_mb 112) (pm_mx 112) (pm_rt 112) ∈ lw_tbl := pm_in2 (List.mem_of_getElem? (i := 5) rfl)
set_option maxRecDepth 100000 in
theorem pm_c113 : Cond.code (pm_nm 113) (pm_mb 113) (pm_mx 113) (pm_rt 113) ∈ lw_tbl := pm_in2 (List.mem_of_getElem? (i := 58) rfl)
set_option maxRecDepth 100000 in
theorem pm_c114 : Cond.code (pm_nm 114) (pm_mb 114) (pm_mx 114) (pm_rt 114) ∈ lw_tbl := pm_in2 (List.mem_of_getElem? (i := 169) rfl)
set_option maxRecDepth 100000 in
theorem pm_c115 : Cond.code (pm_nm 115) (pm_mb 115) (pm_mx 115) (pm_rt 115) ∈ lw_tbl := pm_in3 (List.mem_of_getElem? (i := 88) rfl)
set_option maxRecDepth 100000 in
theorem pm_c116 : Cond.code (pm_nm 116) (pm_mb 116) (pm_mx 116) (pm_rt 116) ∈ lw_tbl := pm_in3 (List.mem_of_getElem? (i := 112) rfl)
set_option maxRecDepth 100000 in
theorem pm_c117 : Cond.code (pm_nm 117) (pm_mb 117) (pm_mx 117) (pm_rt 117) ∈ lw_tbl := pm_in3 (List.mem_of_getElem? (i := 115) rfl)
set_option maxRecDepth 100000 in
theorem pm_c118 : Cond.code (pm_nm 118) (pm_mb 118) (pm_mx 118) (pm_rt 118) ∈ lw_tbl := pm_in3 (List.mem_of_getElem? (i := 221) rfl)
set_option maxRecDepth 100000 in
theorem pm_c119 : Cond.code (pm_nm 119) (pm_mb 119) (pm_mx 119) (pm_rt 119) ∈ lw_tbl := pm_in4 (List.mem_of_getElem? (i := 9) rfl)
set_option maxRecDepth 100000 in
theorem pm_c120 : Cond.code (pm_nm 120) (pm_mb 120) (pm_mx 120) (pm_rt 120) ∈ lw_tbl := pm_in4 (List.mem_of_getElem? (i := 15) rfl)
set_option maxRecDepth 100000 in
theorem pm_c121 : Cond.code (pm_nm 121) (pm_mb 121) (pm_mx 121) (pm_rt 121) ∈ lw_tbl := pm_in4 (List.mem_of_getElem? (i := 93) rfl)
set_option maxRecDepth 100000 in
theorem pm_c122 : Cond.code (pm_nm 122) (pm_mb 122) (pm_mx 122) (pm_rt 122) ∈ lw_tbl := pm_in4 (List.mem_of_getElem? (i := 126) rfl)
set_option maxRecDepth 100000 in
theorem pm_c123 : Cond.code (pm_nm 123) (pm_mb 123) (pm_mx 123) (pm_rt 123) ∈ lw_tbl := pm_in4 (List.mem_of_getElem? (i := 102) rfl)
set_option maxRecDepth 100000 in
theorem pm_c124 : Cond.code (pm_nm 124) (pm_mb 124) (pm_mx 124) (pm_rt 124) ∈ lw_tbl := pm_in4 (List.mem_of_getElem? (i := 97) rfl)
set_option maxRecDepth 100000 in
theorem pm_c125 : Cond.code (pm_nm 125) (pm_mb 125) (pm_mx 125) (pm_rt 125) ∈ lw_tbl := pm_in4 (List.mem_of_getElem? (i := 114) rfl)
set_option maxRecDepth 100000 in
theorem pm_c126 : Cond.code (pm_nm 126) (pm_mb 126) (pm_mx 126) (pm_rt 126) ∈ lw_tbl := pm_in4 (List.mem_of_getElem? (i := 123) rfl)
set_option maxRecDepth 100000 in
theorem pm_c127 : Cond.code (pm_nm 127) (pm_mb 127) (pm_mx 127) (pm_rt 127) ∈ lw_tbl := pm_in4 (List.mem_of_getElem? (i := 130) rfl)
set_option maxRecDepth 100000 in
theorem pm_c128 : Cond.code (pm_nm 128) (pm_mb 128) (pm_mx 128) (pm_rt 128) ∈ lw_tbl := pm_in4 (List.mem_of_getElem? (i := 134) rfl)
set_option maxRecDepth 100000 in
theorem pm_c129 : Cond.code (pm_nm 129) (pm_mb 129) (pm_mx 129) (pm_rt 129) ∈ lw_tbl := pm_in4 (List.mem_of_getElem? (i := 106) rfl)
set_option maxRecDepth 100000 in
theorem pm_c130 : Cond.code (pm_nm 130) (pm_mb 130) (pm_mx 130) (pm_rt 130) ∈ lw_tbl := pm_in4 (List.mem_of_getElem? (i := 174) rfl)
set_option maxRecDepth 100000 in
theorem pm_c131 : Cond.code (pm_nm 131) (pm_mb 131) (pm_mx 131) (pm_rt 131) ∈ lw_tbl := pm_in4 (List.mem_of_getElem? (i := 110) rfl)
set_option maxRecDepth 100000 in
theorem pm_c132 : Cond.code (pm_nm 132) (pm_mb 132) (pm_mx 132) (pm_rt 132) ∈ lw_tbl := pm_in4 (List.mem_of_getElem? (i := 138) rfl)
set_option maxRecDepth 100000 in
theorem pm_c133 : Cond.code (pm_nm 133) (pm_mb 133) (pm_mx 133) (pm_rt 133) ∈ lw_tbl := pm_in4 (List.mem_of_getElem? (i := 150) rfl)
set_option maxRecDepth 100000 in
theorem pm_c134 : Cond.code (pm_nm 134) (pm_mb 134) (pm_mx 134) (pm_rt 134) ∈ lw_tbl := pm_in4 (List.mem_of_getElem? (i := 162) rfl)
set_option maxRecDepth 100000 in
theorem pm_c135 : Cond.code (pm_nm 135) (pm_mb 135) (pm_mx 135) (pm_rt 135) ∈ lw_tbl := pm_in4 (List.mem_of_getElem? (i := 166) rfl)
set_option maxRecDepth 100000 in
theorem pm_c136 : Cond.code (pm_nm 136) (pm_mb 136) (pm_mx 136) (pm_rt 136) ∈ lw_tbl := pm_in4 (List.mem_of_getElem? (i := 158) rfl)
set_option maxRecDepth 100000 in
theorem pm_c137 : Cond.code (pm_nm 137) (pm_mb 137) (pm_mx 137) (pm_rt 137) ∈ lw_tbl := pm_in4 (List.mem_of_getElem? (i := 178) rfl)
set_option maxRecDepth 100000 in
theorem pm_c138 : Cond.code (pm_nm 138) (pm_mb 138) (pm_mx 138) (pm_rt 138) ∈ lw_tbl := pm_in4 (List.mem_of_getElem? (i := 190) rfl)
set_option maxRecDepth 100000 in
theorem pm_c139 : Cond.code (pm_nm 139) (pm_mb 139) (pm_mx 139) (pm_rt 139) ∈ lw_tbl := pm_in4 (List.mem_of_getElem? (i := 89) rfl)
set_option maxRecDepth 100000 in
theorem pm_c140 : Cond.code (pm_nm 140) (pm_mb 140) (pm_mx 140) (pm_rt 140) ∈ lw_tbl := pm_in4 (List.mem_of_getElem? (i := 142) rfl)
set_option maxRecDepth 100000 in
theorem pm_c141 : Cond.code (pm_nm 141) (pm_mb 141) (pm_mx 141) (pm_rt 141) ∈ lw_tbl := pm_in4 (List.mem_of_getElem? (i := 119) rfl)
set_option maxRecDepth 100000 in
theorem pm_c142 : Cond.code (pm_nm 142) (pm_mb 142) (pm_mx 142) (pm_rt 142) ∈ lw_tbl := pm_in4 (List.mem_of_getElem? (i := 146) rfl)
set_option maxRecDepth 100000 in
theorem pm_c143 : Cond.code (pm_nm 143) (pm_mb 143) (pm_mx 143) (pm_rt 143) ∈ lw_tbl := pm_in4 (List.mem_of_getElem? (i := 154) rfl)
set_option maxRecDepth 100000 in
theorem pm_c144 : Cond.code (pm_nm 144) (pm_mb 144) (pm_mx 144) (pm_rt 144) ∈ lw_tbl := pm_in4 (List.mem_of_getElem? (i := 170) rfl)
set_option maxRecDepth 100000 in
theorem pm_c145 : Cond.code (pm_nm 145) (pm_mb 145) (pm_mx 145) (pm_rt 145) ∈ lw_tbl := pm_in4 (List.mem_of_getElem? (i := 182) rfl)
set_option maxRecDepth 100000 in
theorem pm_c146 : Cond.code (pm_nm 146) (pm_mb 146) (pm_mx 146) (pm_rt 146) ∈ lw_tbl := pm_in4 (List.mem_of_getElem? (i := 186) rfl)
set_option maxRecDepth 100000 in
theorem pm_c147 : Cond.code (pm_nm 147) (pm_mb 147) (pm_mx 147) (pm_rt 147) ∈ lw_tbl := pm_in4 (List.mem_of_getElem? (i := 194) rfl)
set_option maxRecDepth 100000 in
theorem pm_c148 : Cond.code (pm_nm 148) (pm_mb 148) (pm_mx 148) (pm_rt 148) ∈ lw_tbl := pm_in5 (List.mem_of_getElem? (i := 16) rfl)
set_option maxRecDepth 100000 in
theorem pm_c149 : Cond.code (pm_nm 149) (pm_mb 149) (pm_mx 149) (pm_rt 149) ∈ lw_tbl := pm_in5 (List.mem_of_getElem? (i := 13) rfl)
set_option maxRecDepth 100000 in
theorem pm_c150 : Cond.code (pm_nm 150) (pm_mb 150) (pm_mx 150) (pm_rt 150) ∈ lw_tbl := pm_in5 (List.mem_of_getElem? (i := 20) rfl)
set_option maxRecDepth 100000 in
theorem pm_c151 : Cond.code (pm_nm 151) (pm_mb 151) (pm_mx 151) (pm_rt 151) ∈ lw_tbl := pm_in5 (List.mem_of_getElem? (i := 24) rfl)
set_option maxRecDepth 100000 in
theorem pm_c152 : Cond.code (pm_nm 152) (pm_mb 152) (pm_mx 152) (pm_rt 152) ∈ lw_tbl := pm_in5 (List.mem_of_getElem? (i := 28) rfl)
set_option maxRecDepth 100000 in
theorem pm_c153 : Cond.code (pm_nm 153) (pm_mb 153) (pm_mx 153) (pm_rt 153) ∈ lw_tbl := pm_in5 (List.mem_of_getElem? (i := 35) rfl)
set_option maxRecDepth 100000 in
theorem pm_c154 : Cond.code (pm_nm 154) (pm_mb 154) (pm_mx 154) (pm_rt 154) ∈ lw_tbl := pm_in5 (List.mem_of_getElem? (i := 32) rfl)
set_option maxRecDepth 100000 in
theorem pm_c155 : Cond.code (pm_nm 155) (pm_mb 155) (pm_mx 155) (pm_rt 155) ∈ lw_tbl := pm_in5 (List.mem_of_getElem? (i := 39) rfl)
set_option maxRecDepth 100000 in
theorem pm_c156 : Cond.code (pm_nm 156) (pm_mb 156) (pm_mx 156) (pm_rt 156) ∈ lw_tbl := pm_in5 (List.mem_of_getElem? (i := 43) rfl)
set_option maxRecDepth 100000 in
theorem pm_c157 : Cond.code (pm_nm 157) (pm_mb 157) (pm_mx 157) (pm_rt 157) ∈ lw_tbl := pm_in5 (List.mem_of_getElem? (i := 47) rfl)
set_option maxRecDepth 100000 in
theorem pm_c158 : Cond.code (pm_nm 158) (pm_mb 158) (pm_mx 158) (pm_rt 158) ∈ lw_tbl := pm_in4 (List.mem_of_getElem? (i := 230) rfl)
set_option maxRecDepth 100000 in
theorem pm_c159 : Cond.code (pm_nm 159) (pm_mb 159) (pm_mx 159) (pm_rt 159) ∈ lw_tbl := pm_in4 (List.mem_of_getElem? (i := 226) rfl)
set_option maxRecDepth 100000 in
theorem pm_c160 : Cond.code (pm_nm 160) (pm_mb 160) (pm_mx 160) (pm_rt 160) ∈ lw_tbl := pm_in4 (List.mem_of_getElem? (i := 233) rfl)
set_option maxRecDepth 100000 in
theorem pm_c161 : Cond.code (pm_nm 161) (pm_mb 161) (pm_mx 161) (pm_rt 161) ∈ lw_tbl := pm_in4 (List.mem_of_getElem? (i := 222) rfl)
set_option maxRecDepth 100000 in
theorem pm_c162 : Cond.code (pm_nm 162) (pm_mb 162) (pm_mx 162) (pm_rt 162) ∈ lw_tbl := pm_in4 (List.mem_of_getElem? (i := 237) rfl)
set_option maxRecDepth 100000 in
theorem pm_c163 : Cond.code (pm_nm 163) (pm_mb 163) (pm_mx 163) (pm_rt 163) ∈ lw_tbl := pm_in5 (List.mem_of_getElem? (i := 5) rfl)
set_option maxRecDepth 100000 in
theorem pm_c164 : Cond.code (pm_nm 164) (pm_mb 164) (pm_mx 164) (pm_rt 164) ∈ lw_tbl := pm_in5 (List.mem_of_getElem? (i := 1) rfl)
set_option maxRecDepth 100000 in
theorem pm_c165 : Cond.code (pm_nm 165) (pm_mb 165) (pm_mx 165) (pm_rt 165) ∈ lw_tbl := pm_in5 (List.mem_of_getElem? (i := 9) rfl)
set_option maxRecDepth 100000 in
theorem pm_c166 : Cond.code (pm_nm 166) (pm_mb 166) (pm_mx 166) (pm_rt 166) ∈ lw_tbl := pm_in4 (List.mem_of_getElem? (i := 218) rfl)
set_option maxRecDepth 100000 in
theorem pm_c167 : Cond.code (pm_nm 167) (pm_mb 167) (pm_mx 167) (pm_rt 167) ∈ lw_tbl := pm_in4 (List.mem_of_getElem? (i := 202) rfl)
set_option maxRecDepth 100000 in
theorem pm_c168 : Cond.code (pm_nm 168) (pm_mb 168) (pm_mx 168) (pm_rt 168) ∈ lw_tbl := pm_in4 (List.mem_of_getElem? (i := 214) rfl)
set_option maxRecDepth 100000 in
theorem pm_c169 : Cond.code (pm_nm 169) (pm_mb 169) (pm_mx 169) (pm_rt 169) ∈ lw_tbl := pm_in4 (List.mem_of_getElem? (i := 206) rfl)
set_option maxRecDepth 100000 in
theorem pm_c170 : Cond.code (pm_nm 170) (pm_mb 170) (pm_mx 170) (pm_rt 170) ∈ lw_tbl := pm_in4 (List.mem_of_getElem? (i := 198) rfl)
set_option maxRecDepth 100000 in
theorem pm_c171 : Cond.code (pm_nm 171) (pm_mb 171) (pm_mx 171) (pm_rt 171) ∈ lw_tbl := pm_in4 (List.mem_of_getElem? (i := 210) rfl)
set_option maxRecDepth 100000 in
theorem pm_c172 : Cond.code (pm_nm 172) (pm_mb 172) (pm_mx 172) (pm_rt 172) ∈ lw_tbl := pm_in5 (List.mem_of_getElem? (i := 52) rfl)
set_option maxRecDepth 100000 in
theorem pm_c173 : Cond.code (pm_nm 173) (pm_mb 173) (pm_mx 173) (pm_rt 173) ∈ lw_tbl := pm_in5 (List.mem_of_getElem? (i := 56) rfl)
set_option maxRecDepth 100000 in
theorem pm_c174 : Cond.code (pm_nm 174) (pm_mb 174) (pm_mx 174) (pm_rt 174) ∈ lw_tbl := pm_in5 (List.mem_of_getElem? (i := 60) rfl)
set_option maxRecDepth 100000 in
theorem pm_c175 : Cond.code (pm_nm 175) (pm_mb 175) (pm_mx 175) (pm_rt 175) ∈ lw_tbl := pm_in5 (List.mem_of_getElem? (i := 64) rfl)
set_option maxRecDepth 100000 in
theorem pm_c176 : Cond.code (pm_nm 176) (pm_mb 176) (pm_mx 176) (pm_rt 176) ∈ lw_tbl := pm_in5 (List.mem_of_getElem? (i := 68) rfl)
set_option maxRecDepth 100000 in
theorem pm_c177 : Cond.code (pm_nm 177) (pm_mb 177) (pm_mx 177) (pm_rt 177) ∈ lw_tbl := pm_in5 (List.mem_of_getElem? (i := 72) rfl)
set_option maxRecDepth 100000 in
theorem pm_c178 : Cond.code (pm_nm 178) (pm_mb 178) (pm_mx 178) (pm_rt 178) ∈ lw_tbl := pm_in5 (List.mem_of_getElem? (i := 76) rfl)
set_option maxRecDepth 100000 in
theorem pm_c179 : Cond.code (pm_nm 179) (pm_mb 179) (pm_mx 179) (pm_rt 179) ∈ lw_tbl := pm_in5 (List.mem_of_getElem? (i := 85) rfl)
set_option maxRecDepth 100000 in
theorem pm_c180 : Cond.code (pm_nm 180) (pm_mb 180) (pm_mx 180) (pm_rt 180) ∈ lw_tbl := pm_in5 (List.mem_of_getElem? (i := 80) rfl)
set_option maxRecDepth 100000 in
theorem pm_c181 : Cond.code (pm_nm 181) (pm_mb 181) (pm_mx 181) (pm_rt 181) ∈ lw_tbl := pm_in2 (List.mem_of_getElem? (i := 98) rfl)
set_option maxRecDepth 100000 in
theorem pm_c182 : Cond.code (pm_nm 182) (pm_mb 182) (pm_mx 182) (pm_rt 182) ∈ lw_tbl := pm_in1 (List.mem_of_getElem? (i := 45) rfl)
set_option maxRecDepth 100000 in
theorem pm_c183 : Cond.code (pm_nm 183) (pm_mb 183) (pm_mx 183) (pm_rt 183) ∈ lw_tbl := pm_in2 (List.mem_of_getElem? (i := 20) rfl)
set_option maxRecDepth 100000 in
theorem pm_c184 : Cond.code (pm_nm 184) (pm_mb 184) (pm_mx 184) (pm_rt 184) ∈ lw_tbl := pm_in3 (List.mem_of_getElem? (i := 174) rfl)
theorem pm_code_ok : ∀ y, y < 185 → Cond.code (pm_nm y) (pm_mb y) (pm_mx y) (pm_rt y) ∈ lw_tbl :=
  lt_s (lt_s (lt_s (lt_s (lt_s (lt_s (lt_s (lt_s (lt_s (lt_s (lt_s (lt_s (lt_s (lt_s (lt_s (lt_s (lt_s (lt_s (lt_s (lt_s (lt_s (lt_s (lt_s (lt_s (lt_s (lt_s (lt_s (lt_s (lt_s (lt_s (lt_s (lt_s (lt_s (lt_s (lt_s (lt_s (lt_s (lt_s (lt_s (lt_s (lt_s (lt_s (lt_s (lt_s (lt_s (lt_s (lt_s (lt_s (lt_s (lt_s (lt_s (lt_s (lt_s (lt_s (lt_s (lt_s (lt_s (lt_s (lt_s (lt_s (lt_s (lt_s (lt_s (lt_s (lt_s (lt_s (lt_s (lt_s (lt_s (lt_s (lt_s (lt_s (lt_s (lt_s (lt_s (lt_s (lt_s (lt_s (lt_s (lt_s (lt_s (lt_s (lt_s (lt_s (lt_s (lt_s (lt_s (lt_s (lt_s (lt_s (lt_s (lt_s (lt_s (lt_s (lt_s (lt_s (lt_s (lt_s (lt_s (lt_s (lt_s (lt_s (lt_s (lt_s (lt_s (lt_s (lt_s (lt_s (lt_s (lt_s (lt_s (lt_s (lt_s (lt_s (lt_s (lt_s (lt_s (lt_s (lt_s (lt_s (lt_s (lt_s (lt_s (lt_s (lt_s (lt_s (lt_s (lt_s (lt_s (lt_s (lt_s (lt_s (lt_s (lt_s (lt_s (lt_s (lt_s (lt_s (lt_s (lt_s (lt_s (lt_s (lt_s (lt_s (lt_s (lt_s (lt_s (lt_s (lt_s (lt_s (lt_s (lt_s (lt_s (lt_s (lt_s (lt_s (lt_s (lt_s (lt_s (lt_s (lt_s (lt_s (lt_s (lt_s (lt_s (lt_s (lt_s (lt_s (lt_s (lt_s (lt_s (lt_s (lt_s (lt_s (lt_s (lt_s (lt_s (lt_s (lt_s (lt_s (lt_s (lt_s (lt_s (lt_s (lt_s (lt_0) pm_c0) pm_c1) pm_c2) pm_c3) pm_c4) pm_c5) pm_c6) pm_c7) pm_c8) pm_c9) pm_c10) pm_c11) pm_c12) pm_c13) pm_c14) pm_c15) pm_c16) pm_c17) pm_c18) pm_c19) pm_c20) pm_c21) pm_c22) pm_c23) pm_c24) pm_c25) pm_c26) pm_c27) pm_c28) pm_c29) pm_c30) pm_c31) pm_c32) pm_c33) pm_c34) pm_c35) pm_c36) pm_c37) pm_c38) pm_c39) pm_c40) pm_c41) pm_c42) pm_c43) pm_c44) pm_c45) pm_c46) pm_c47) pm_c48) pm_c49) pm_c50) pm_c51) pm_c52) pm_c53) pm_c54) pm_c55) pm_c56) pm_c57) pm_c58) pm_c59) pm_c60) pm_c61) pm_c62) pm_c63) pm_c64) pm_c65) pm_c66) pm_c67) pm_c68) pm_c69) pm_c70) pm_c71) pm_c72) pm_c73) pm_c74) pm_c75) pm_c76) pm_c77) pm_c78) pm_c79) pm_c80) pm_c81) pm_c82) pm_c83) pm_c84) pm_c85) pm_c86) pm_c87) pm_c88) pm_c89) pm_c90) pm_c91) pm_c92) pm_c93) pm_c94) pm_c95) pm_c96) pm_c97) pm_c98) pm_c99) pm_c100) pm_c101) pm_c102) pm_c103) pm_c104) pm_c105) pm_c106) pm_c107) pm_c108) pm_c109) pm_c110) pm_c111) pm_c112) pm_c113) pm_c114) pm_c115) pm_c116) pm_c117) pm_c118) pm_c119) pm_c120) pm_c121) pm_c122) pm_c123) pm_c124) pm_c125) pm_c126) pm_c127) pm_c128) pm_c129) pm_c130) pm_c131) pm_c132) pm_c133) pm_c134) pm_c135) pm_c136) pm_c137) pm_c138) pm_c139) pm_c140) pm_c141) pm_c142) pm_c143) pm_c144) pm_c145) pm_c146) pm_c147) pm_c148) pm_c149) pm_c150) pm_c151) pm_c152) pm_c153) pm_c154) pm_c155) pm_c156) pm_c157) pm_c158) pm_c159) pm_c160) pm_c161) pm_c162) pm_c163) pm_c164) pm_c165) pm_c166) pm_c167) pm_c168) pm_c169) pm_c170) pm_c171) pm_c172) pm_c173) pm_c174) pm_c175) pm_c176) pm_c177) pm_c178) pm_c179) pm_c180) pm_c181) pm_c182) pm_c183) pm_c184
theorem pm_nm0 : ∀ a, a < 4 → ∀ b, b < 4 → a ≠ b → (pm_T0 a).2.1 ≠ (pm_T0 b).2.1 := by decide +kernel
theorem pm_ty0_ok : ∀ k, k < 4 → parseFieldDescriptor (pm_T0 k).2.2.1 = some (pm_ty0 k) := by decide +kernel
theorem pm_nm1 : ∀ a, a < 5 → ∀ b, b < 5 → a ≠ b → (pm_T1 a).2.1 ≠ (pm_T1 b).2.1 := by decide +kernel
theorem pm_ty1_ok : ∀ k, k < 5 → parseFieldDescriptor (pm_T1 k).2.2.1 = some (pm_ty1 k) := by decide +kernel
theorem pm_nm2 : ∀ a, a < 2 → ∀ b, b < 2 → a ≠ b → (pm_T2 a).2.1 ≠ (pm_T2 b).2.1 := by decide +kernel
theorem pm_ty2_ok : ∀ k, k < 2 → parseFieldDescriptor (pm_T2 k).2.2.1 = some (pm_ty2 k) := by decide +kernel
theorem pm_nm3 : ∀ a, a < 4 → ∀ b, b < 4 → a ≠ b → (pm_T3 a).2.1 ≠ (pm_T3 b).2.1 := by decide +kernel
theorem pm_ty3_ok : ∀ k, k < 4 → parseFieldDescriptor (pm_T3 k).2.2.1 = some (pm_ty3 k) := by decide +kernel
theorem pm_nm4 : ∀ a, a < 3 → ∀ b, b < 3 → a ≠ b → (pm_T4 a).2.1 ≠ (pm_T4 b).2.1 := by decide +kernel
theorem pm_ty4_ok : ∀ k, k < 3 → parseFieldDescriptor (pm_T4 k).2.2.1 = some (pm_ty4 k) := by decide +kernel
theorem pm_nm5 : ∀ a, a < 2 → ∀ b, b < 2 → a ≠ b → (pm_T5 a).2.1 ≠ (pm_T5 b).2.1 := by decide +kernel
theorem pm_ty5_ok : ∀ k, k < 2 → parseFieldDescriptor (pm_T5 k).2.2.1 = some (pm_ty5 k) := by decide +kernel
theorem pm_nm6 : ∀ a, a < 2 → ∀ b, b < 2 → a ≠ b → (pm_T6 a).2.1 ≠ (pm_T6 b).2.1 := by decide +kernel
theorem pm_ty6_ok : ∀ k, k < 2 → parseFieldDescriptor (pm_T6 k).2.2.1 = some (pm_ty6 k) := by decide +kernel
theorem pm_nm7 : ∀ a, a < 6 → ∀ b, b < 6 → a ≠ b → (pm_T7 a).2.1 ≠ (pm_T7 b).2.1 := by decide +kernel
theorem pm_ty7_ok : ∀ k, k < 6 → parseFieldDescriptor (pm_T7 k).2.2.1 = some (pm_ty7 k) := by decide +kernel
theorem pm_nm8 : ∀ a, a < 6 → ∀ b, b < 6 → a ≠ b → (pm_T8 a).2.1 ≠ (pm_T8 b).2.1 := by decide +kernel
theorem pm_ty8_ok : ∀ k, k < 6 → parseFieldDescriptor (pm_T8 k).2.2.1 = some (pm_ty8 k) := by decide +kernel
theorem pm_nm9 : ∀ a, a < 23 → ∀ b, b < 23 → a ≠ b → (pm_T9 a).2.1 ≠ (pm_T9 b).2.1 := by decide +kernel
theorem pm_ty9_ok : ∀ k, k < 23 → parseFieldDescriptor (pm_T9 k).2.2.1 = some (pm_ty9 k) := by decide +kernel
