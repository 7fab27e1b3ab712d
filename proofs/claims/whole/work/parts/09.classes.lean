/-! ===== classes: fields in their order, types ===== -/
def R_BP : String := "BoxPacker"
def F_BP : u_T := fun k => match k with
  | 0 => ("BoxPacker", "list", "[LBoxPacker$Item;", true)
  | 1 => ("BoxPacker", "listed", "I", false)
  | 2 => ("BoxPacker", "made", "[LBoxPacker$Box;", true)
  | 3 => ("BoxPacker", "boxesMade", "I", false)
  | _ => ("BoxPacker", "marks", "LBoxPacker$Marks;", true)
def t_BP : Nat → FieldType := fun k => match k with
  | 0 => .array (.object "BoxPacker$Item")
  | 1 => .int
  | 2 => .array (.object "BoxPacker$Box")
  | 3 => .int
  | _ => .object "BoxPacker$Marks"
def R_Box : String := "BoxPacker$Box"
def F_Box : u_T := fun k => match k with
  | 0 => ("BoxPacker$Box", "below", "Z", true)
  | 1 => ("BoxPacker$Box", "content", "[LBoxPacker$Item;", true)
  | 2 => ("BoxPacker$Box", "places", "[I", true)
  | 3 => ("BoxPacker$Box", "deep", "I", true)
  | 4 => ("BoxPacker$Box", "inAll", "I", true)
  | 5 => ("BoxPacker$Box", "width", "I", false)
  | 6 => ("BoxPacker$Box", "height", "I", false)
  | 7 => ("BoxPacker$Box", "depth", "I", false)
  | 8 => ("BoxPacker$Box", "excess", "I", false)
  | 9 => ("BoxPacker$Box", "order", "I", false)
  | 10 => ("BoxPacker$Box", "total", "I", false)
  | _ => ("BoxPacker$Box", "overfull", "I", false)
def t_Box : Nat → FieldType := fun k => match k with
  | 0 => .boolean
  | 1 => .array (.object "BoxPacker$Item")
  | 2 => .array .int
  | 3 => .int
  | 4 => .int
  | 5 => .int
  | 6 => .int
  | 7 => .int
  | 8 => .int
  | 9 => .int
  | 10 => .int
  | _ => .int
def R_Solid : String := "BoxPacker$Solid"
def F_Solid : u_T := fun k => match k with
  | 0 => ("BoxPacker$Solid", "tag", "I", true)
  | 1 => ("BoxPacker$Solid", "width", "I", true)
  | 2 => ("BoxPacker$Solid", "height", "I", true)
  | 3 => ("BoxPacker$Solid", "depth", "I", true)
  | 4 => ("BoxPacker$Solid", "inner", "LBoxPacker$Box;", true)
  | _ => ("BoxPacker$Solid", "shift", "I", true)
def t_Solid : Nat → FieldType := fun k => match k with
  | 0 => .int
  | 1 => .int
  | 2 => .int
  | 3 => .int
  | 4 => .object "BoxPacker$Box"
  | _ => .int
def R_Space : String := "BoxPacker$Space"
def F_Space : u_T := fun k => match k with
  | 0 => ("BoxPacker$Space", "width", "I", true)
  | 1 => ("BoxPacker$Space", "stretch", "I", true)
  | 2 => ("BoxPacker$Space", "stretchOrder", "I", true)
  | 3 => ("BoxPacker$Space", "shrink", "I", true)
  | _ => ("BoxPacker$Space", "shrinkOrder", "I", true)
def t_Space : Nat → FieldType := fun k => match k with
  | 0 => .int
  | 1 => .int
  | 2 => .int
  | 3 => .int
  | _ => .int
def R_Marks : String := "BoxPacker$Marks"
def F_Marks : u_T := fun k => match k with
  | 0 => ("BoxPacker$Marks", "row", "[J", true)
  | _ => ("BoxPacker$Marks", "count", "I", false)
def t_Marks : Nat → FieldType := fun k => match k with
  | 0 => .array .long
  | _ => .int
def R_Mo : String := "BoxPackerModel"
def F_Mo : u_T := fun k => match k with
  | 0 => ("BoxPackerModel", "thrown", "I", false)
  | 1 => ("BoxPackerModel", "kinds", "[I", true)
  | 2 => ("BoxPackerModel", "numbers", "[I", true)
  | 3 => ("BoxPackerModel", "start", "I", false)
  | 4 => ("BoxPackerModel", "end", "I", false)
  | 5 => ("BoxPackerModel", "count", "I", false)
  | 6 => ("BoxPackerModel", "from", "[I", true)
  | 7 => ("BoxPackerModel", "isBelow", "[Z", true)
  | 8 => ("BoxPackerModel", "width", "[I", true)
  | 9 => ("BoxPackerModel", "height", "[I", true)
  | 10 => ("BoxPackerModel", "depth", "[I", true)
  | 11 => ("BoxPackerModel", "excess", "[I", true)
  | 12 => ("BoxPackerModel", "order", "[I", true)
  | 13 => ("BoxPackerModel", "total", "[I", true)
  | 14 => ("BoxPackerModel", "badness", "[I", true)
  | 15 => ("BoxPackerModel", "overfull", "[I", true)
  | 16 => ("BoxPackerModel", "deep", "[I", true)
  | 17 => ("BoxPackerModel", "inAll", "[I", true)
  | 18 => ("BoxPackerModel", "good", "Z", false)
  | 19 => ("BoxPackerModel", "length", "J", false)
  | 20 => ("BoxPackerModel", "before", "J", false)
  | 21 => ("BoxPackerModel", "across", "J", false)
  | 22 => ("BoxPackerModel", "under", "J", false)
  | 23 => ("BoxPackerModel", "stretch", "[J", true)
  | 24 => ("BoxPackerModel", "shrink", "[J", true)
  | 25 => ("BoxPackerModel", "marks", "[J", true)
  | _ => ("BoxPackerModel", "marked", "I", false)
def t_Mo : Nat → FieldType := fun k => match k with
  | 0 => .int
  | 1 => .array .int
  | 2 => .array .int
  | 3 => .int
  | 4 => .int
  | 5 => .int
  | 6 => .array .int
  | 7 => .array .boolean
  | 8 => .array .int
  | 9 => .array .int
  | 10 => .array .int
  | 11 => .array .int
  | 12 => .array .int
  | 13 => .array .int
  | 14 => .array .int
  | 15 => .array .int
  | 16 => .array .int
  | 17 => .array .int
  | 18 => .boolean
  | 19 => .long
  | 20 => .long
  | 21 => .long
  | 22 => .long
  | 23 => .array .long
  | 24 => .array .long
  | 25 => .array .long
  | _ => .int
abbrev CL : List vw_C := [(R_BP, F_BP, 5), (R_Box, F_Box, 12), (R_Solid, F_Solid, 6), (R_Space, F_Space, 5), (R_Marks, F_Marks, 2), (R_Mo, F_Mo, 27)]
/-- the classes of arrays: ints, longs, booleans, items, boxes -/
abbrev TY (cA : Nat → ClassId) : List (ClassId × FieldType) := [(cA 0, .int), (cA 1, .long), (cA 2, .boolean), (cA 3, .object "BoxPacker$Item"), (cA 4, .object "BoxPacker$Box")]
set_option maxRecDepth 20000 in
theorem k_BP : hv_Cl CL TS 0 R_BP F_BP 5 t_BP := ⟨rfl, by decide +kernel, by decide +kernel, by decide +kernel⟩
set_option maxRecDepth 20000 in
theorem k_Box : hv_Cl CL TS 1 R_Box F_Box 12 t_Box := ⟨rfl, by decide +kernel, by decide +kernel, by decide +kernel⟩
set_option maxRecDepth 20000 in
theorem k_Solid : hv_Cl CL TS 2 R_Solid F_Solid 6 t_Solid := ⟨rfl, by decide +kernel, by decide +kernel, by decide +kernel⟩
set_option maxRecDepth 20000 in
theorem k_Space : hv_Cl CL TS 3 R_Space F_Space 5 t_Space := ⟨rfl, by decide +kernel, by decide +kernel, by decide +kernel⟩
set_option maxRecDepth 20000 in
theorem k_Marks : hv_Cl CL TS 4 R_Marks F_Marks 2 t_Marks := ⟨rfl, by decide +kernel, by decide +kernel, by decide +kernel⟩
set_option maxRecDepth 20000 in
theorem k_Mo : hv_Cl CL TS 5 R_Mo F_Mo 27 t_Mo := ⟨rfl, by decide +kernel, by decide +kernel, by decide +kernel⟩
