def R_WR : String := "WaferRunner"
def F_WR : u_T := fun k => match k with
  | 0 => ("WaferRunner", "tape", "[B", true)
  | 1 => ("WaferRunner", "tapeLength", "I", false)
  | 2 => ("WaferRunner", "arguments", "[J", true)
  | 3 => ("WaferRunner", "argumentCount", "I", false)
  | 4 => ("WaferRunner", "reader", "LWaferRunner$Reader;", true)
  | 5 => ("WaferRunner", "validator", "LWaferRunner$Validator;", true)
  | 6 => ("WaferRunner", "machine", "LWaferRunner$Machine;", true)
  | 7 => ("WaferRunner", "current", "LWaferRunner$Wafer;", false)
  | 8 => ("WaferRunner", "spare", "LWaferRunner$Wafer;", false)
  | 9 => ("WaferRunner", "loaded", "Z", false)
  | _ => ("WaferRunner", "reason", "I", false)
def t_WR : Nat → FieldType := fun k => match k with
  | 0 => .array .byte
  | 1 => .int
  | 2 => .array .long
  | 3 => .int
  | 4 => .object "WaferRunner$Reader"
  | 5 => .object "WaferRunner$Validator"
  | 6 => .object "WaferRunner$Machine"
  | 7 => .object "WaferRunner$Wafer"
  | 8 => .object "WaferRunner$Wafer"
  | 9 => .boolean
  | _ => .int
theorem n_WR : ∀ a, a < 11 → ∀ b, b < 11 → a ≠ b → (F_WR a).2.1 ≠ (F_WR b).2.1 := by decide +kernel
theorem t_WR_ok : ∀ k, k < 11 → parseFieldDescriptor (F_WR k).2.2.1 = some (t_WR k) := by decide +kernel
theorem df_WR : ∀ j, j < 11 → defaultValue (t_WR j) = vp_V [.null, .int 0, .null, .int 0, .null, .null, .null, .null, .null, .int 0, .int 0] j := by decide +kernel
def R_Rd : String := "WaferRunner$Reader"
def F_Rd : u_T := fun k => match k with
  | 0 => ("WaferRunner$Reader", "source", "LWaferRunner$Source;", true)
  | 1 => ("WaferRunner$Reader", "bodyReader", "LWaferRunner$BodyReader;", true)
  | 2 => ("WaferRunner$Reader", "wafer", "LWaferRunner$Wafer;", false)
  | _ => ("WaferRunner$Reader", "codeCount", "I", false)
def t_Rd : Nat → FieldType := fun k => match k with
  | 0 => .object "WaferRunner$Source"
  | 1 => .object "WaferRunner$BodyReader"
  | 2 => .object "WaferRunner$Wafer"
  | _ => .int
theorem n_Rd : ∀ a, a < 4 → ∀ b, b < 4 → a ≠ b → (F_Rd a).2.1 ≠ (F_Rd b).2.1 := by decide +kernel
theorem t_Rd_ok : ∀ k, k < 4 → parseFieldDescriptor (F_Rd k).2.2.1 = some (t_Rd k) := by decide +kernel
theorem df_Rd : ∀ j, j < 4 → defaultValue (t_Rd j) = vp_V [.null, .null, .null, .int 0] j := by decide +kernel
def R_BR : String := "WaferRunner$BodyReader"
def F_BR : u_T := fun k => match k with
  | 0 => ("WaferRunner$BodyReader", "open", "[I", true)
  | 1 => ("WaferRunner$BodyReader", "openCount", "I", false)
  | 2 => ("WaferRunner$BodyReader", "source", "LWaferRunner$Source;", false)
  | _ => ("WaferRunner$BodyReader", "code", "LWaferRunner$Code;", false)
def t_BR : Nat → FieldType := fun k => match k with
  | 0 => .array .int
  | 1 => .int
  | 2 => .object "WaferRunner$Source"
  | _ => .object "WaferRunner$Code"
theorem n_BR : ∀ a, a < 4 → ∀ b, b < 4 → a ≠ b → (F_BR a).2.1 ≠ (F_BR b).2.1 := by decide +kernel
theorem t_BR_ok : ∀ k, k < 4 → parseFieldDescriptor (F_BR k).2.2.1 = some (t_BR k) := by decide +kernel
theorem df_BR : ∀ j, j < 4 → defaultValue (t_BR j) = vp_V [.null, .int 0, .null, .null] j := by decide +kernel
def R_So : String := "WaferRunner$Source"
def F_So : u_T := fun k => match k with
  | 0 => ("WaferRunner$Source", "bytes", "[B", false)
  | 1 => ("WaferRunner$Source", "at", "I", false)
  | 2 => ("WaferRunner$Source", "limit", "I", false)
  | _ => ("WaferRunner$Source", "failed", "Z", false)
def t_So : Nat → FieldType := fun k => match k with
  | 0 => .array .byte
  | 1 => .int
  | 2 => .int
  | _ => .boolean
theorem n_So : ∀ a, a < 4 → ∀ b, b < 4 → a ≠ b → (F_So a).2.1 ≠ (F_So b).2.1 := by decide +kernel
theorem t_So_ok : ∀ k, k < 4 → parseFieldDescriptor (F_So k).2.2.1 = some (t_So k) := by decide +kernel
theorem df_So : ∀ j, j < 4 → defaultValue (t_So j) = vp_V [.null, .int 0, .int 0, .int 0] j := by decide +kernel
def R_Va : String := "WaferRunner$Validator"
def F_Va : u_T := fun k => match k with
  | _ => ("WaferRunner$Validator", "bodyValidator", "LWaferRunner$BodyValidator;", true)
def t_Va : Nat → FieldType := fun k => match k with
  | _ => .object "WaferRunner$BodyValidator"
theorem n_Va : ∀ a, a < 1 → ∀ b, b < 1 → a ≠ b → (F_Va a).2.1 ≠ (F_Va b).2.1 := by decide +kernel
theorem t_Va_ok : ∀ k, k < 1 → parseFieldDescriptor (F_Va k).2.2.1 = some (t_Va k) := by decide +kernel
theorem df_Va : ∀ j, j < 1 → defaultValue (t_Va j) = vp_V [.null] j := by decide +kernel
def R_BV : String := "WaferRunner$BodyValidator"
def F_BV : u_T := fun k => match k with
  | 0 => ("WaferRunner$BodyValidator", "wafer", "LWaferRunner$Wafer;", false)
  | 1 => ("WaferRunner$BodyValidator", "code", "LWaferRunner$Code;", false)
  | 2 => ("WaferRunner$BodyValidator", "function", "I", false)
  | 3 => ("WaferRunner$BodyValidator", "types", "[I", true)
  | 4 => ("WaferRunner$BodyValidator", "height", "I", false)
  | 5 => ("WaferRunner$BodyValidator", "openers", "[I", true)
  | 6 => ("WaferRunner$BodyValidator", "bases", "[I", true)
  | 7 => ("WaferRunner$BodyValidator", "blockTypes", "[I", true)
  | 8 => ("WaferRunner$BodyValidator", "labelTypes", "[I", true)
  | 9 => ("WaferRunner$BodyValidator", "unreachable", "[Z", true)
  | 10 => ("WaferRunner$BodyValidator", "openCount", "I", false)
  | _ => ("WaferRunner$BodyValidator", "failed", "Z", false)
def t_BV : Nat → FieldType := fun k => match k with
  | 0 => .object "WaferRunner$Wafer"
  | 1 => .object "WaferRunner$Code"
  | 2 => .int
  | 3 => .array .int
  | 4 => .int
  | 5 => .array .int
  | 6 => .array .int
  | 7 => .array .int
  | 8 => .array .int
  | 9 => .array .boolean
  | 10 => .int
  | _ => .boolean
theorem n_BV : ∀ a, a < 12 → ∀ b, b < 12 → a ≠ b → (F_BV a).2.1 ≠ (F_BV b).2.1 := by decide +kernel
theorem t_BV_ok : ∀ k, k < 12 → parseFieldDescriptor (F_BV k).2.2.1 = some (t_BV k) := by decide +kernel
theorem df_BV : ∀ j, j < 12 → defaultValue (t_BV j) = vp_V [.null, .null, .int 0, .null, .int 0, .null, .null, .null, .null, .null, .int 0, .int 0] j := by decide +kernel
def R_Ma : String := "WaferRunner$Machine"
def F_Ma : u_T := fun k => match k with
  | 0 => ("WaferRunner$Machine", "bytes", "[B", true)
  | 1 => ("WaferRunner$Machine", "written", "Z", false)
  | 2 => ("WaferRunner$Machine", "pages", "I", false)
  | 3 => ("WaferRunner$Machine", "globals", "[J", true)
  | 4 => ("WaferRunner$Machine", "steps", "I", false)
  | 5 => ("WaferRunner$Machine", "wafer", "LWaferRunner$Wafer;", false)
  | 6 => ("WaferRunner$Machine", "code", "LWaferRunner$Code;", false)
  | 7 => ("WaferRunner$Machine", "reason", "I", false)
  | 8 => ("WaferRunner$Machine", "next", "I", false)
  | 9 => ("WaferRunner$Machine", "stack", "[J", true)
  | 10 => ("WaferRunner$Machine", "height", "I", false)
  | 11 => ("WaferRunner$Machine", "functions", "[I", true)
  | 12 => ("WaferRunner$Machine", "bases", "[I", true)
  | 13 => ("WaferRunner$Machine", "returns", "[I", true)
  | 14 => ("WaferRunner$Machine", "depth", "I", false)
  | 15 => ("WaferRunner$Machine", "variables", "I", false)
  | _ => ("WaferRunner$Machine", "values", "I", false)
def t_Ma : Nat → FieldType := fun k => match k with
  | 0 => .array .byte
  | 1 => .boolean
  | 2 => .int
  | 3 => .array .long
  | 4 => .int
  | 5 => .object "WaferRunner$Wafer"
  | 6 => .object "WaferRunner$Code"
  | 7 => .int
  | 8 => .int
  | 9 => .array .long
  | 10 => .int
  | 11 => .array .int
  | 12 => .array .int
  | 13 => .array .int
  | 14 => .int
  | 15 => .int
  | _ => .int
theorem n_Ma : ∀ a, a < 17 → ∀ b, b < 17 → a ≠ b → (F_Ma a).2.1 ≠ (F_Ma b).2.1 := by decide +kernel
theorem t_Ma_ok : ∀ k, k < 17 → parseFieldDescriptor (F_Ma k).2.2.1 = some (t_Ma k) := by decide +kernel
theorem df_Ma : ∀ j, j < 17 → defaultValue (t_Ma j) = vp_V [.null, .int 0, .int 0, .null, .int 0, .null, .null, .int 0, .int 0, .null, .int 0, .null, .null, .null, .int 0, .int 0, .int 0] j := by decide +kernel
def R_Wa : String := "WaferRunner$Wafer"
def F_Wa : u_T := fun k => match k with
  | 0 => ("WaferRunner$Wafer", "typeCount", "I", false)
  | 1 => ("WaferRunner$Wafer", "parameterCounts", "[I", true)
  | 2 => ("WaferRunner$Wafer", "parameters", "[I", true)
  | 3 => ("WaferRunner$Wafer", "results", "[I", true)
  | 4 => ("WaferRunner$Wafer", "functionCount", "I", false)
  | 5 => ("WaferRunner$Wafer", "functionTypes", "[I", true)
  | 6 => ("WaferRunner$Wafer", "starts", "[I", true)
  | 7 => ("WaferRunner$Wafer", "localCounts", "[I", true)
  | 8 => ("WaferRunner$Wafer", "locals", "[I", true)
  | 9 => ("WaferRunner$Wafer", "hasMemory", "Z", false)
  | 10 => ("WaferRunner$Wafer", "pagesAtFirst", "J", false)
  | 11 => ("WaferRunner$Wafer", "pagesMost", "J", false)
  | 12 => ("WaferRunner$Wafer", "globalCount", "I", false)
  | 13 => ("WaferRunner$Wafer", "globalTypes", "[I", true)
  | 14 => ("WaferRunner$Wafer", "globalsChange", "[Z", true)
  | 15 => ("WaferRunner$Wafer", "initialTypes", "[I", true)
  | 16 => ("WaferRunner$Wafer", "initialValues", "[J", true)
  | 17 => ("WaferRunner$Wafer", "exports", "LWaferRunner$Exports;", true)
  | _ => ("WaferRunner$Wafer", "code", "LWaferRunner$Code;", true)
def t_Wa : Nat → FieldType := fun k => match k with
  | 0 => .int
  | 1 => .array .int
  | 2 => .array .int
  | 3 => .array .int
  | 4 => .int
  | 5 => .array .int
  | 6 => .array .int
  | 7 => .array .int
  | 8 => .array .int
  | 9 => .boolean
  | 10 => .long
  | 11 => .long
  | 12 => .int
  | 13 => .array .int
  | 14 => .array .boolean
  | 15 => .array .int
  | 16 => .array .long
  | 17 => .object "WaferRunner$Exports"
  | _ => .object "WaferRunner$Code"
theorem n_Wa : ∀ a, a < 19 → ∀ b, b < 19 → a ≠ b → (F_Wa a).2.1 ≠ (F_Wa b).2.1 := by decide +kernel
theorem t_Wa_ok : ∀ k, k < 19 → parseFieldDescriptor (F_Wa k).2.2.1 = some (t_Wa k) := by decide +kernel
theorem df_Wa : ∀ j, j < 19 → defaultValue (t_Wa j) = vp_V [.int 0, .null, .null, .null, .int 0, .null, .null, .null, .null, .int 0, .long 0, .long 0, .int 0, .null, .null, .null, .null, .null, .null] j := by decide +kernel
def R_Ex : String := "WaferRunner$Exports"
def F_Ex : u_T := fun k => match k with
  | 0 => ("WaferRunner$Exports", "size", "I", false)
  | 1 => ("WaferRunner$Exports", "kinds", "[I", true)
  | 2 => ("WaferRunner$Exports", "indices", "[I", true)
  | 3 => ("WaferRunner$Exports", "nameLengths", "[I", true)
  | _ => ("WaferRunner$Exports", "names", "[B", true)
def t_Ex : Nat → FieldType := fun k => match k with
  | 0 => .int
  | 1 => .array .int
  | 2 => .array .int
  | 3 => .array .int
  | _ => .array .byte
theorem n_Ex : ∀ a, a < 5 → ∀ b, b < 5 → a ≠ b → (F_Ex a).2.1 ≠ (F_Ex b).2.1 := by decide +kernel
theorem t_Ex_ok : ∀ k, k < 5 → parseFieldDescriptor (F_Ex k).2.2.1 = some (t_Ex k) := by decide +kernel
theorem df_Ex : ∀ j, j < 5 → defaultValue (t_Ex j) = vp_V [.int 0, .null, .null, .null, .null] j := by decide +kernel
def R_Co : String := "WaferRunner$Code"
def F_Co : u_T := fun k => match k with
  | 0 => ("WaferRunner$Code", "size", "I", false)
  | 1 => ("WaferRunner$Code", "ops", "[I", true)
  | 2 => ("WaferRunner$Code", "values", "[J", true)
  | 3 => ("WaferRunner$Code", "extras", "[I", true)
  | 4 => ("WaferRunner$Code", "ends", "[I", true)
  | 5 => ("WaferRunner$Code", "elses", "[I", true)
  | 6 => ("WaferRunner$Code", "heights", "[I", true)
  | 7 => ("WaferRunner$Code", "targets", "[I", true)
  | 8 => ("WaferRunner$Code", "labelCount", "I", false)
  | 9 => ("WaferRunner$Code", "labels", "[I", true)
  | _ => ("WaferRunner$Code", "labelTargets", "[I", true)
def t_Co : Nat → FieldType := fun k => match k with
  | 0 => .int
  | 1 => .array .int
  | 2 => .array .long
  | 3 => .array .int
  | 4 => .array .int
  | 5 => .array .int
  | 6 => .array .int
  | 7 => .array .int
  | 8 => .int
  | 9 => .array .int
  | _ => .array .int
theorem n_Co : ∀ a, a < 11 → ∀ b, b < 11 → a ≠ b → (F_Co a).2.1 ≠ (F_Co b).2.1 := by decide +kernel
theorem t_Co_ok : ∀ k, k < 11 → parseFieldDescriptor (F_Co k).2.2.1 = some (t_Co k) := by decide +kernel
theorem df_Co : ∀ j, j < 11 → defaultValue (t_Co j) = vp_V [.int 0, .null, .null, .null, .null, .null, .null, .null, .int 0, .null, .null] j := by decide +kernel
def R_Mo : String := "WaferRunnerModel"
def F_Mo : u_T := fun k => match k with
  | 0 => ("WaferRunnerModel", "refused", "LWaferRunnerModel$Refused;", true)
  | 1 => ("WaferRunnerModel", "magic", "[I", true)
  | 2 => ("WaferRunnerModel", "module", "LWaferRunnerModel$Module;", false)
  | 3 => ("WaferRunnerModel", "spare", "LWaferRunnerModel$Module;", false)
  | 4 => ("WaferRunnerModel", "m", "LWaferRunnerModel$Module;", false)
  | 5 => ("WaferRunnerModel", "cursor", "I", false)
  | 6 => ("WaferRunnerModel", "limit", "I", false)
  | 7 => ("WaferRunnerModel", "blocks", "[I", true)
  | 8 => ("WaferRunnerModel", "stack", "[I", true)
  | 9 => ("WaferRunnerModel", "top", "I", false)
  | 10 => ("WaferRunnerModel", "heights", "[I", true)
  | 11 => ("WaferRunnerModel", "labels", "[I", true)
  | 12 => ("WaferRunnerModel", "outs", "[I", true)
  | 13 => ("WaferRunnerModel", "kinds", "[I", true)
  | 14 => ("WaferRunnerModel", "lost", "[Z", true)
  | 15 => ("WaferRunnerModel", "depth", "I", false)
  | 16 => ("WaferRunnerModel", "function", "I", false)
  | 17 => ("WaferRunnerModel", "memory", "[B", true)
  | 18 => ("WaferRunnerModel", "pages", "I", false)
  | 19 => ("WaferRunnerModel", "globals", "[J", true)
  | 20 => ("WaferRunnerModel", "values", "[J", true)
  | 21 => ("WaferRunnerModel", "valueTop", "I", false)
  | 22 => ("WaferRunnerModel", "frameFunction", "[I", true)
  | 23 => ("WaferRunnerModel", "frameReturn", "[I", true)
  | 24 => ("WaferRunnerModel", "frameBase", "[I", true)
  | 25 => ("WaferRunnerModel", "frameLabels", "[I", true)
  | 26 => ("WaferRunnerModel", "frames", "I", false)
  | 27 => ("WaferRunnerModel", "labelAt", "[I", true)
  | 28 => ("WaferRunnerModel", "labelHeight", "[I", true)
  | 29 => ("WaferRunnerModel", "labelTop", "I", false)
  | 30 => ("WaferRunnerModel", "steps", "I", false)
  | 31 => ("WaferRunnerModel", "tape", "[B", true)
  | 32 => ("WaferRunnerModel", "taped", "I", false)
  | 33 => ("WaferRunnerModel", "there", "Z", false)
  | 34 => ("WaferRunnerModel", "reason", "I", false)
  | 35 => ("WaferRunnerModel", "arguments", "[J", true)
  | 36 => ("WaferRunnerModel", "argumentCount", "I", false)
  | _ => ("WaferRunnerModel", "code", "I", false)
def t_Mo : Nat → FieldType := fun k => match k with
  | 0 => .object "WaferRunnerModel$Refused"
  | 1 => .array .int
  | 2 => .object "WaferRunnerModel$Module"
  | 3 => .object "WaferRunnerModel$Module"
  | 4 => .object "WaferRunnerModel$Module"
  | 5 => .int
  | 6 => .int
  | 7 => .array .int
  | 8 => .array .int
  | 9 => .int
  | 10 => .array .int
  | 11 => .array .int
  | 12 => .array .int
  | 13 => .array .int
  | 14 => .array .boolean
  | 15 => .int
  | 16 => .int
  | 17 => .array .byte
  | 18 => .int
  | 19 => .array .long
  | 20 => .array .long
  | 21 => .int
  | 22 => .array .int
  | 23 => .array .int
  | 24 => .array .int
  | 25 => .array .int
  | 26 => .int
  | 27 => .array .int
  | 28 => .array .int
  | 29 => .int
  | 30 => .int
  | 31 => .array .byte
  | 32 => .int
  | 33 => .boolean
  | 34 => .int
  | 35 => .array .long
  | 36 => .int
  | _ => .int
theorem n_Mo : ∀ a, a < 38 → ∀ b, b < 38 → a ≠ b → (F_Mo a).2.1 ≠ (F_Mo b).2.1 := by decide +kernel
theorem t_Mo_ok : ∀ k, k < 38 → parseFieldDescriptor (F_Mo k).2.2.1 = some (t_Mo k) := by decide +kernel
theorem df_Mo : ∀ j, j < 38 → defaultValue (t_Mo j) = vp_V [.null, .null, .null, .null, .null, .int 0, .int 0, .null, .null, .int 0, .null, .null, .null, .null, .null, .int 0, .int 0, .null, .int 0, .null, .null, .int 0, .null, .null, .null, .null, .int 0, .null, .null, .int 0, .int 0, .null, .int 0, .int 0, .int 0, .null, .int 0, .int 0] j := by decide +kernel
def R_Mm : String := "WaferRunnerModel$Module"
def F_Mm : u_T := fun k => match k with
  | 0 => ("WaferRunnerModel$Module", "bytes", "[B", true)
  | 1 => ("WaferRunnerModel$Module", "length", "I", false)
  | 2 => ("WaferRunnerModel$Module", "types", "I", false)
  | 3 => ("WaferRunnerModel$Module", "parameterCount", "[I", true)
  | 4 => ("WaferRunnerModel$Module", "parameterTypes", "[[I", true)
  | 5 => ("WaferRunnerModel$Module", "results", "[I", true)
  | 6 => ("WaferRunnerModel$Module", "functions", "I", false)
  | 7 => ("WaferRunnerModel$Module", "typeOf", "[J", true)
  | 8 => ("WaferRunnerModel$Module", "codes", "I", false)
  | 9 => ("WaferRunnerModel$Module", "codeAt", "[I", true)
  | 10 => ("WaferRunnerModel$Module", "codeEnd", "[I", true)
  | 11 => ("WaferRunnerModel$Module", "localCount", "[I", true)
  | 12 => ("WaferRunnerModel$Module", "localTypes", "[[I", true)
  | 13 => ("WaferRunnerModel$Module", "memories", "I", false)
  | 14 => ("WaferRunnerModel$Module", "least", "J", false)
  | 15 => ("WaferRunnerModel$Module", "most", "J", false)
  | 16 => ("WaferRunnerModel$Module", "hasMost", "Z", false)
  | 17 => ("WaferRunnerModel$Module", "globals", "I", false)
  | 18 => ("WaferRunnerModel$Module", "globalTypes", "[I", true)
  | 19 => ("WaferRunnerModel$Module", "globalKinds", "[I", true)
  | 20 => ("WaferRunnerModel$Module", "changes", "[Z", true)
  | 21 => ("WaferRunnerModel$Module", "starts", "[J", true)
  | 22 => ("WaferRunnerModel$Module", "exports", "I", false)
  | 23 => ("WaferRunnerModel$Module", "exportKinds", "[I", true)
  | 24 => ("WaferRunnerModel$Module", "exportOf", "[J", true)
  | 25 => ("WaferRunnerModel$Module", "nameAt", "[I", true)
  | 26 => ("WaferRunnerModel$Module", "nameLength", "[I", true)
  | 27 => ("WaferRunnerModel$Module", "endOf", "[I", true)
  | _ => ("WaferRunnerModel$Module", "elseOf", "[I", true)
def t_Mm : Nat → FieldType := fun k => match k with
  | 0 => .array .byte
  | 1 => .int
  | 2 => .int
  | 3 => .array .int
  | 4 => .array (.array .int)
  | 5 => .array .int
  | 6 => .int
  | 7 => .array .long
  | 8 => .int
  | 9 => .array .int
  | 10 => .array .int
  | 11 => .array .int
  | 12 => .array (.array .int)
  | 13 => .int
  | 14 => .long
  | 15 => .long
  | 16 => .boolean
  | 17 => .int
  | 18 => .array .int
  | 19 => .array .int
  | 20 => .array .boolean
  | 21 => .array .long
  | 22 => .int
  | 23 => .array .int
  | 24 => .array .long
  | 25 => .array .int
  | 26 => .array .int
  | 27 => .array .int
  | _ => .array .int
theorem n_Mm : ∀ a, a < 29 → ∀ b, b < 29 → a ≠ b → (F_Mm a).2.1 ≠ (F_Mm b).2.1 := by decide +kernel
theorem t_Mm_ok : ∀ k, k < 29 → parseFieldDescriptor (F_Mm k).2.2.1 = some (t_Mm k) := by decide +kernel
theorem df_Mm : ∀ j, j < 29 → defaultValue (t_Mm j) = vp_V [.null, .int 0, .int 0, .null, .null, .null, .int 0, .null, .int 0, .null, .null, .null, .null, .int 0, .long 0, .long 0, .int 0, .int 0, .null, .null, .null, .null, .int 0, .null, .null, .null, .null, .null, .null] j := by decide +kernel
def R_Rf : String := "WaferRunnerModel$Refused"
def F_Rf : u_T := fun k => match k with
  | 0 => ("java/lang/Throwable", "backtrace", "Ljava/lang/Object;", false)
  | 1 => ("java/lang/Throwable", "detailMessage", "Ljava/lang/String;", false)
  | 2 => ("java/lang/Throwable", "cause", "Ljava/lang/Throwable;", false)
  | 3 => ("java/lang/Throwable", "stackTrace", "[Ljava/lang/StackTraceElement;", false)
  | 4 => ("java/lang/Throwable", "depth", "I", false)
  | 5 => ("java/lang/Throwable", "suppressedExceptions", "Ljava/util/List;", false)
  | _ => ("WaferRunnerModel$Refused", "reason", "I", false)
def t_Rf : Nat → FieldType := fun k => match k with
  | 0 => .object "java/lang/Object"
  | 1 => .object "java/lang/String"
  | 2 => .object "java/lang/Throwable"
  | 3 => .array (.object "java/lang/StackTraceElement")
  | 4 => .int
  | 5 => .object "java/util/List"
  | _ => .int
theorem n_Rf : ∀ a, a < 7 → ∀ b, b < 7 → a ≠ b → (F_Rf a).2.1 ≠ (F_Rf b).2.1 := by decide +kernel
theorem t_Rf_ok : ∀ k, k < 7 → parseFieldDescriptor (F_Rf k).2.2.1 = some (t_Rf k) := by decide +kernel
theorem df_Rf : ∀ j, j < 7 → defaultValue (t_Rf j) = vp_V [.null, .null, .null, .null, .int 0, .null, .int 0] j := by decide +kernel
def R_xI : String := "java/lang/IndexOutOfBoundsException"
def F_xI : u_T := fun k => match k with
  | _ => ("", "", "", false)
def t_xI : Nat → FieldType := fun k => match k with
  | _ => .int
theorem n_xI : ∀ a, a < 0 → ∀ b, b < 0 → a ≠ b → (F_xI a).2.1 ≠ (F_xI b).2.1 := by decide +kernel
theorem t_xI_ok : ∀ k, k < 0 → parseFieldDescriptor (F_xI k).2.2.1 = some (t_xI k) := by decide +kernel
def R_xA : String := "java/lang/IllegalArgumentException"
def F_xA : u_T := fun k => match k with
  | _ => ("", "", "", false)
def t_xA : Nat → FieldType := fun k => match k with
  | _ => .int
theorem n_xA : ∀ a, a < 0 → ∀ b, b < 0 → a ≠ b → (F_xA a).2.1 ≠ (F_xA b).2.1 := by decide +kernel
theorem t_xA_ok : ∀ k, k < 0 → parseFieldDescriptor (F_xA k).2.2.1 = some (t_xA k) := by decide +kernel
def R_xU : String := "java/lang/UnsupportedOperationException"
def F_xU : u_T := fun k => match k with
  | _ => ("", "", "", false)
def t_xU : Nat → FieldType := fun k => match k with
  | _ => .int
theorem n_xU : ∀ a, a < 0 → ∀ b, b < 0 → a ≠ b → (F_xU a).2.1 ≠ (F_xU b).2.1 := by decide +kernel
theorem t_xU_ok : ∀ k, k < 0 → parseFieldDescriptor (F_xU k).2.2.1 = some (t_xU k) := by decide +kernel
def R_xS : String := "java/lang/IllegalStateException"
def F_xS : u_T := fun k => match k with
  | _ => ("", "", "", false)
def t_xS : Nat → FieldType := fun k => match k with
  | _ => .int
theorem n_xS : ∀ a, a < 0 → ∀ b, b < 0 → a ≠ b → (F_xS a).2.1 ≠ (F_xS b).2.1 := by decide +kernel
theorem t_xS_ok : ∀ k, k < 0 → parseFieldDescriptor (F_xS k).2.2.1 = some (t_xS k) := by decide +kernel
def R_xR : String := "java/lang/ArithmeticException"
def F_xR : u_T := fun k => match k with
  | _ => ("", "", "", false)
def t_xR : Nat → FieldType := fun k => match k with
  | _ => .int
theorem n_xR : ∀ a, a < 0 → ∀ b, b < 0 → a ≠ b → (F_xR a).2.1 ≠ (F_xR b).2.1 := by decide +kernel
theorem t_xR_ok : ∀ k, k < 0 → parseFieldDescriptor (F_xR k).2.2.1 = some (t_xR k) := by decide +kernel
def R_Op : String := "WaferRunner$Op"
def R_Ar : String := "WaferRunner$Arithmetic"
def R_La : String := "WaferRunnerLaw"
abbrev classes : List vw_C := [(R_WR, F_WR, 11), (R_Rd, F_Rd, 4), (R_BR, F_BR, 4), (R_So, F_So, 4), (R_Va, F_Va, 1), (R_BV, F_BV, 12), (R_Ma, F_Ma, 17), (R_Wa, F_Wa, 19), (R_Ex, F_Ex, 5), (R_Co, F_Co, 11), (R_Mo, F_Mo, 38), (R_Mm, F_Mm, 29), (R_Rf, F_Rf, 7), (R_xI, F_xI, 0), (R_xA, F_xA, 0), (R_xU, F_xU, 0), (R_xS, F_xS, 0), (R_xR, F_xR, 0)]
abbrev xtys (cB cI cJ cZ cG : ClassId) : xx_Tys := [(cB, .byte), (cI, .int), (cJ, .long), (cZ, .boolean), (cG, .array .int)]

theorem i_WR : ∀ w ∈ u_ws R_WR F_WR 11, w ∈ lw_good := by decide +kernel
theorem i_Rd : ∀ w ∈ u_ws R_Rd F_Rd 4, w ∈ lw_good := by decide +kernel
theorem i_BR : ∀ w ∈ u_ws R_BR F_BR 4, w ∈ lw_good := by decide +kernel
theorem i_So : ∀ w ∈ u_ws R_So F_So 4, w ∈ lw_good := by decide +kernel
theorem i_Va : ∀ w ∈ u_ws R_Va F_Va 1, w ∈ lw_good := by decide +kernel
theorem i_BV : ∀ w ∈ u_ws R_BV F_BV 12, w ∈ lw_good := by decide +kernel
theorem i_Ma : ∀ w ∈ u_ws R_Ma F_Ma 17, w ∈ lw_good := by decide +kernel
theorem i_Wa : ∀ w ∈ u_ws R_Wa F_Wa 19, w ∈ lw_good := by decide +kernel
theorem i_Ex : ∀ w ∈ u_ws R_Ex F_Ex 5, w ∈ lw_good := by decide +kernel
theorem i_Co : ∀ w ∈ u_ws R_Co F_Co 11, w ∈ lw_good := by decide +kernel
theorem i_Mo : ∀ w ∈ u_ws R_Mo F_Mo 38, w ∈ lw_good := by decide +kernel
theorem i_Mm : ∀ w ∈ u_ws R_Mm F_Mm 29, w ∈ lw_good := by decide +kernel
theorem i_Rf : ∀ w ∈ u_ws R_Rf F_Rf 7, w ∈ lw_good := by decide +kernel
def xtexts : List (String × Nat × String) := [("WaferRunner", 54, "the tape would be too long"), ("WaferRunner", 65, "not a length that the tape can keep"), ("WaferRunner", 81, "not a module that can be read and is valid"), ("WaferRunner", 108, "too many arguments"), ("WaferRunner", 156, "there is no module"), ("WaferRunner", 159, "a number out of range"), ("WaferRunner", 121, "another number of arguments"), ("WaferRunner", 129, "the run was ended"), ("WaferRunner", 152, "no such count")]
