def jR0 : String := "SluicePit$Acts"
def jT0 : u_T := fun k => match k with
  | 0 => ("SluicePit$Acts", "desks", "[I", true)
  | 1 => ("SluicePit$Acts", "sizes", "[I", true)
  | 2 => ("SluicePit$Acts", "bars", "[[I", true)
  | 3 => ("SluicePit$Acts", "next", "I", false)
  | _ => ("SluicePit$Acts", "count", "I", false)
def jY0 : Nat → FieldType := fun k => match k with
  | 0 => .array .int
  | 1 => .array .int
  | 2 => .array (.array .int)
  | 3 => .int
  | _ => .int
theorem jnm0 : ∀ a, a < 5 → ∀ b, b < 5 → a ≠ b → (jT0 a).2.1 ≠ (jT0 b).2.1 := by decide +kernel
theorem jY0_ok : ∀ k, k < 5 → parseFieldDescriptor (jT0 k).2.2.1 = some (jY0 k) := by decide +kernel
set_option maxRecDepth 20000 in
theorem jin0 : ∀ w ∈ u_ws jR0 jT0 5, w ∈ jTW := (List.forall_mem_cons.mpr ⟨jw_269, (List.forall_mem_cons.mpr ⟨jw_271, (List.forall_mem_cons.mpr ⟨jw_273, (List.forall_mem_cons.mpr ⟨jw_275, (List.forall_mem_cons.mpr ⟨jw_277, (fun _ h => absurd h List.not_mem_nil)⟩)⟩)⟩)⟩)⟩)
def jR1 : String := "SluicePit$Opera"
def jT1 : u_T := fun k => match k with
  | 0 => ("SluicePit$Opera", "statements", "I", false)
  | 1 => ("SluicePit$Opera", "cells", "I", false)
  | 2 => ("SluicePit$Opera", "pit", "I", false)
  | 3 => ("SluicePit$Opera", "bank", "I", false)
  | 4 => ("SluicePit$Opera", "desks", "I", false)
  | 5 => ("SluicePit$Opera", "bed", "[I", true)
  | 6 => ("SluicePit$Opera", "water", "[I", true)
  | 7 => ("SluicePit$Opera", "sluice", "[I", true)
  | 8 => ("SluicePit$Opera", "arms", "[I", true)
  | 9 => ("SluicePit$Opera", "names", "[[I", true)
  | 10 => ("SluicePit$Opera", "mills", "LSluicePit$Stand;", true)
  | 11 => ("SluicePit$Opera", "boats", "LSluicePit$Stand;", true)
  | 12 => ("SluicePit$Opera", "claques", "LSluicePit$Stand;", true)
  | _ => ("SluicePit$Opera", "parts", "LSluicePit$Parts;", true)
def jY1 : Nat → FieldType := fun k => match k with
  | 0 => .int
  | 1 => .int
  | 2 => .int
  | 3 => .int
  | 4 => .int
  | 5 => .array .int
  | 6 => .array .int
  | 7 => .array .int
  | 8 => .array .int
  | 9 => .array (.array .int)
  | 10 => .object "SluicePit$Stand"
  | 11 => .object "SluicePit$Stand"
  | 12 => .object "SluicePit$Stand"
  | _ => .object "SluicePit$Parts"
theorem jnm1 : ∀ a, a < 14 → ∀ b, b < 14 → a ≠ b → (jT1 a).2.1 ≠ (jT1 b).2.1 := by decide +kernel
theorem jY1_ok : ∀ k, k < 14 → parseFieldDescriptor (jT1 k).2.2.1 = some (jY1 k) := by decide +kernel
set_option maxRecDepth 20000 in
theorem jin1 : ∀ w ∈ u_ws jR1 jT1 14, w ∈ jTW := (List.forall_mem_cons.mpr ⟨jw_207, (List.forall_mem_cons.mpr ⟨jw_209, (List.forall_mem_cons.mpr ⟨jw_211, (List.forall_mem_cons.mpr ⟨jw_213, (List.forall_mem_cons.mpr ⟨jw_215, (List.forall_mem_cons.mpr ⟨jw_217, (List.forall_mem_cons.mpr ⟨jw_219, (List.forall_mem_cons.mpr ⟨jw_221, (List.forall_mem_cons.mpr ⟨jw_223, (List.forall_mem_cons.mpr ⟨jw_225, (List.forall_mem_cons.mpr ⟨jw_227, (List.forall_mem_cons.mpr ⟨jw_229, (List.forall_mem_cons.mpr ⟨jw_231, (List.forall_mem_cons.mpr ⟨jw_233, (fun _ h => absurd h List.not_mem_nil)⟩)⟩)⟩)⟩)⟩)⟩)⟩)⟩)⟩)⟩)⟩)⟩)⟩)⟩)
def jR2 : String := "SluicePit$OperaReader"
def jT2 : u_T := fun k => match k with
  | 0 => ("SluicePit$OperaReader", "reader", "LSluicePit$Reader;", true)
  | 1 => ("SluicePit$OperaReader", "partReader", "LSluicePit$PartReader;", true)
  | _ => ("SluicePit$OperaReader", "opera", "LSluicePit$Opera;", false)
def jY2 : Nat → FieldType := fun k => match k with
  | 0 => .object "SluicePit$Reader"
  | 1 => .object "SluicePit$PartReader"
  | _ => .object "SluicePit$Opera"
theorem jnm2 : ∀ a, a < 3 → ∀ b, b < 3 → a ≠ b → (jT2 a).2.1 ≠ (jT2 b).2.1 := by decide +kernel
theorem jY2_ok : ∀ k, k < 3 → parseFieldDescriptor (jT2 k).2.2.1 = some (jY2 k) := by decide +kernel
set_option maxRecDepth 20000 in
theorem jin2 : ∀ w ∈ u_ws jR2 jT2 3, w ∈ jTW := (List.forall_mem_cons.mpr ⟨jw_245, (List.forall_mem_cons.mpr ⟨jw_247, (List.forall_mem_cons.mpr ⟨jw_249, (fun _ h => absurd h List.not_mem_nil)⟩)⟩)⟩)
def jR3 : String := "SluicePit$PartReader"
def jT3 : u_T := fun k => match k with
  | 0 => ("SluicePit$PartReader", "reader", "LSluicePit$Reader;", true)
  | 1 => ("SluicePit$PartReader", "bars", "[I", true)
  | _ => ("SluicePit$PartReader", "count", "I", false)
def jY3 : Nat → FieldType := fun k => match k with
  | 0 => .object "SluicePit$Reader"
  | 1 => .array .int
  | _ => .int
theorem jnm3 : ∀ a, a < 3 → ∀ b, b < 3 → a ≠ b → (jT3 a).2.1 ≠ (jT3 b).2.1 := by decide +kernel
theorem jY3_ok : ∀ k, k < 3 → parseFieldDescriptor (jT3 k).2.2.1 = some (jY3 k) := by decide +kernel
set_option maxRecDepth 20000 in
theorem jin3 : ∀ w ∈ u_ws jR3 jT3 3, w ∈ jTW := (List.forall_mem_cons.mpr ⟨jw_94, (List.forall_mem_cons.mpr ⟨jw_96, (List.forall_mem_cons.mpr ⟨jw_98, (fun _ h => absurd h List.not_mem_nil)⟩)⟩)⟩)
def jR4 : String := "SluicePit$Parts"
def jT4 : u_T := fun k => match k with
  | 0 => ("SluicePit$Parts", "bars", "[[I", true)
  | _ => ("SluicePit$Parts", "sizes", "[I", true)
def jY4 : Nat → FieldType := fun k => match k with
  | 0 => .array (.array .int)
  | _ => .array .int
theorem jnm4 : ∀ a, a < 2 → ∀ b, b < 2 → a ≠ b → (jT4 a).2.1 ≠ (jT4 b).2.1 := by decide +kernel
theorem jY4_ok : ∀ k, k < 2 → parseFieldDescriptor (jT4 k).2.2.1 = some (jY4 k) := by decide +kernel
set_option maxRecDepth 20000 in
theorem jin4 : ∀ w ∈ u_ws jR4 jT4 2, w ∈ jTW := (List.forall_mem_cons.mpr ⟨jw_138, (List.forall_mem_cons.mpr ⟨jw_140, (fun _ h => absurd h List.not_mem_nil)⟩)⟩)
def jR5 : String := "SluicePit$Pool"
def jT5 : u_T := fun k => match k with
  | 0 => ("SluicePit$Pool", "water", "[I", true)
  | 1 => ("SluicePit$Pool", "boats", "[I", true)
  | 2 => ("SluicePit$Pool", "came", "I", false)
  | 3 => ("SluicePit$Pool", "ranOut", "I", false)
  | 4 => ("SluicePit$Pool", "drunk", "I", false)
  | 5 => ("SluicePit$Pool", "spilt", "I", false)
  | 6 => ("SluicePit$Pool", "trilled", "Z", false)
  | 7 => ("SluicePit$Pool", "silent", "I", false)
  | 8 => ("SluicePit$Pool", "hasty", "I", false)
  | 9 => ("SluicePit$Pool", "left", "I", false)
  | _ => ("SluicePit$Pool", "behind", "I", false)
def jY5 : Nat → FieldType := fun k => match k with
  | 0 => .array .int
  | 1 => .array .int
  | 2 => .int
  | 3 => .int
  | 4 => .int
  | 5 => .int
  | 6 => .boolean
  | 7 => .int
  | 8 => .int
  | 9 => .int
  | _ => .int
theorem jnm5 : ∀ a, a < 11 → ∀ b, b < 11 → a ≠ b → (jT5 a).2.1 ≠ (jT5 b).2.1 := by decide +kernel
theorem jY5_ok : ∀ k, k < 11 → parseFieldDescriptor (jT5 k).2.2.1 = some (jY5 k) := by decide +kernel
set_option maxRecDepth 20000 in
theorem jin5 : ∀ w ∈ u_ws jR5 jT5 11, w ∈ jTW := (List.forall_mem_cons.mpr ⟨jw_330, (List.forall_mem_cons.mpr ⟨jw_332, (List.forall_mem_cons.mpr ⟨jw_334, (List.forall_mem_cons.mpr ⟨jw_336, (List.forall_mem_cons.mpr ⟨jw_338, (List.forall_mem_cons.mpr ⟨jw_340, (List.forall_mem_cons.mpr ⟨jw_342, (List.forall_mem_cons.mpr ⟨jw_344, (List.forall_mem_cons.mpr ⟨jw_346, (List.forall_mem_cons.mpr ⟨jw_348, (List.forall_mem_cons.mpr ⟨jw_350, (fun _ h => absurd h List.not_mem_nil)⟩)⟩)⟩)⟩)⟩)⟩)⟩)⟩)⟩)⟩)⟩)
def jR6 : String := "SluicePit$Question"
def jT6 : u_T := fun k => match k with
  | 0 => ("SluicePit$Question", "reader", "LSluicePit$Reader;", true)
  | 1 => ("SluicePit$Question", "run", "LSluicePit$Run;", true)
  | 2 => ("SluicePit$Question", "rows", "[[I", true)
  | 3 => ("SluicePit$Question", "used", "I", false)
  | _ => ("SluicePit$Question", "opera", "LSluicePit$Opera;", false)
def jY6 : Nat → FieldType := fun k => match k with
  | 0 => .object "SluicePit$Reader"
  | 1 => .object "SluicePit$Run"
  | 2 => .array (.array .int)
  | 3 => .int
  | _ => .object "SluicePit$Opera"
theorem jnm6 : ∀ a, a < 5 → ∀ b, b < 5 → a ≠ b → (jT6 a).2.1 ≠ (jT6 b).2.1 := by decide +kernel
theorem jY6_ok : ∀ k, k < 5 → parseFieldDescriptor (jT6 k).2.2.1 = some (jY6 k) := by decide +kernel
set_option maxRecDepth 20000 in
theorem jin6 : ∀ w ∈ u_ws jR6 jT6 5, w ∈ jTW := (List.forall_mem_cons.mpr ⟨jw_365, (List.forall_mem_cons.mpr ⟨jw_367, (List.forall_mem_cons.mpr ⟨jw_369, (List.forall_mem_cons.mpr ⟨jw_371, (List.forall_mem_cons.mpr ⟨jw_373, (fun _ h => absurd h List.not_mem_nil)⟩)⟩)⟩)⟩)⟩)
def jR7 : String := "SluicePit$Reader"
def jT7 : u_T := fun k => match k with
  | 0 => ("SluicePit$Reader", "tape", "LSluicePit$Tape;", true)
  | 1 => ("SluicePit$Reader", "sort", "I", false)
  | 2 => ("SluicePit$Reader", "word", "[I", true)
  | 3 => ("SluicePit$Reader", "place", "I", false)
  | 4 => ("SluicePit$Reader", "behind", "I", false)
  | 5 => ("SluicePit$Reader", "fault", "I", false)
  | _ => ("SluicePit$Reader", "faultPlace", "I", false)
def jY7 : Nat → FieldType := fun k => match k with
  | 0 => .object "SluicePit$Tape"
  | 1 => .int
  | 2 => .array .int
  | 3 => .int
  | 4 => .int
  | 5 => .int
  | _ => .int
theorem jnm7 : ∀ a, a < 7 → ∀ b, b < 7 → a ≠ b → (jT7 a).2.1 ≠ (jT7 b).2.1 := by decide +kernel
theorem jY7_ok : ∀ k, k < 7 → parseFieldDescriptor (jT7 k).2.2.1 = some (jY7 k) := by decide +kernel
set_option maxRecDepth 20000 in
theorem jin7 : ∀ w ∈ u_ws jR7 jT7 7, w ∈ jTW := (List.forall_mem_cons.mpr ⟨jw_66, (List.forall_mem_cons.mpr ⟨jw_68, (List.forall_mem_cons.mpr ⟨jw_70, (List.forall_mem_cons.mpr ⟨jw_72, (List.forall_mem_cons.mpr ⟨jw_74, (List.forall_mem_cons.mpr ⟨jw_76, (List.forall_mem_cons.mpr ⟨jw_78, (fun _ h => absurd h List.not_mem_nil)⟩)⟩)⟩)⟩)⟩)⟩)⟩)
def jR8 : String := "SluicePit$Run"
def jT8 : u_T := fun k => match k with
  | 0 => ("SluicePit$Run", "waters", "[[I", true)
  | 1 => ("SluicePit$Run", "boats", "[[I", true)
  | _ => ("SluicePit$Run", "measures", "[[I", true)
def jY8 : Nat → FieldType := fun k => match k with
  | 0 => .array (.array .int)
  | 1 => .array (.array .int)
  | _ => .array (.array .int)
theorem jnm8 : ∀ a, a < 3 → ∀ b, b < 3 → a ≠ b → (jT8 a).2.1 ≠ (jT8 b).2.1 := by decide +kernel
theorem jY8_ok : ∀ k, k < 3 → parseFieldDescriptor (jT8 k).2.2.1 = some (jY8 k) := by decide +kernel
set_option maxRecDepth 20000 in
theorem jin8 : ∀ w ∈ u_ws jR8 jT8 3, w ∈ jTW := (List.forall_mem_cons.mpr ⟨jw_290, (List.forall_mem_cons.mpr ⟨jw_292, (List.forall_mem_cons.mpr ⟨jw_294, (fun _ h => absurd h List.not_mem_nil)⟩)⟩)⟩)
def jR9 : String := "SluicePit$Stand"
def jT9 : u_T := fun k => match k with
  | 0 => ("SluicePit$Stand", "cells", "[I", true)
  | 1 => ("SluicePit$Stand", "amounts", "[I", true)
  | _ => ("SluicePit$Stand", "count", "I", false)
def jY9 : Nat → FieldType := fun k => match k with
  | 0 => .array .int
  | 1 => .array .int
  | _ => .int
theorem jnm9 : ∀ a, a < 3 → ∀ b, b < 3 → a ≠ b → (jT9 a).2.1 ≠ (jT9 b).2.1 := by decide +kernel
theorem jY9_ok : ∀ k, k < 3 → parseFieldDescriptor (jT9 k).2.2.1 = some (jY9 k) := by decide +kernel
set_option maxRecDepth 20000 in
theorem jin9 : ∀ w ∈ u_ws jR9 jT9 3, w ∈ jTW := (List.forall_mem_cons.mpr ⟨jw_122, (List.forall_mem_cons.mpr ⟨jw_124, (List.forall_mem_cons.mpr ⟨jw_126, (fun _ h => absurd h List.not_mem_nil)⟩)⟩)⟩)
def jR10 : String := "SluicePit$Tape"
def jT10 : u_T := fun k => match k with
  | 0 => ("SluicePit$Tape", "bytes", "[I", true)
  | _ => ("SluicePit$Tape", "size", "I", false)
def jY10 : Nat → FieldType := fun k => match k with
  | 0 => .array .int
  | _ => .int
theorem jnm10 : ∀ a, a < 2 → ∀ b, b < 2 → a ≠ b → (jT10 a).2.1 ≠ (jT10 b).2.1 := by decide +kernel
theorem jY10_ok : ∀ k, k < 2 → parseFieldDescriptor (jT10 k).2.2.1 = some (jY10 k) := by decide +kernel
set_option maxRecDepth 20000 in
theorem jin10 : ∀ w ∈ u_ws jR10 jT10 2, w ∈ jTW := (List.forall_mem_cons.mpr ⟨jw_40, (List.forall_mem_cons.mpr ⟨jw_42, (fun _ h => absurd h List.not_mem_nil)⟩)⟩)
def jR11 : String := "SluicePit"
def jT11 : u_T := fun k => match k with
  | 0 => ("SluicePit", "tape", "LSluicePit$Tape;", true)
  | 1 => ("SluicePit", "reader", "LSluicePit$Reader;", true)
  | 2 => ("SluicePit", "partReader", "LSluicePit$PartReader;", true)
  | 3 => ("SluicePit", "operaReader", "LSluicePit$OperaReader;", true)
  | 4 => ("SluicePit", "question", "LSluicePit$Question;", true)
  | 5 => ("SluicePit", "acts", "LSluicePit$Acts;", true)
  | 6 => ("SluicePit", "run", "LSluicePit$Run;", true)
  | 7 => ("SluicePit", "pool", "LSluicePit$Pool;", true)
  | 8 => ("SluicePit", "played", "LSluicePit$Opera;", false)
  | 9 => ("SluicePit", "spare", "LSluicePit$Opera;", false)
  | 10 => ("SluicePit", "wetRow", "[I", true)
  | 11 => ("SluicePit", "wetTold", "Z", false)
  | 12 => ("SluicePit", "drawn", "J", false)
  | 13 => ("SluicePit", "imageRow", "[I", true)
  | _ => ("SluicePit", "imageSize", "I", false)
def jY11 : Nat → FieldType := fun k => match k with
  | 0 => .object "SluicePit$Tape"
  | 1 => .object "SluicePit$Reader"
  | 2 => .object "SluicePit$PartReader"
  | 3 => .object "SluicePit$OperaReader"
  | 4 => .object "SluicePit$Question"
  | 5 => .object "SluicePit$Acts"
  | 6 => .object "SluicePit$Run"
  | 7 => .object "SluicePit$Pool"
  | 8 => .object "SluicePit$Opera"
  | 9 => .object "SluicePit$Opera"
  | 10 => .array .int
  | 11 => .boolean
  | 12 => .long
  | 13 => .array .int
  | _ => .int
theorem jnm11 : ∀ a, a < 15 → ∀ b, b < 15 → a ≠ b → (jT11 a).2.1 ≠ (jT11 b).2.1 := by decide +kernel
theorem jY11_ok : ∀ k, k < 15 → parseFieldDescriptor (jT11 k).2.2.1 = some (jY11 k) := by decide +kernel
set_option maxRecDepth 20000 in
theorem jin11 : ∀ w ∈ u_ws jR11 jT11 15, w ∈ jTW := (List.forall_mem_cons.mpr ⟨jw_391, (List.forall_mem_cons.mpr ⟨jw_393, (List.forall_mem_cons.mpr ⟨jw_395, (List.forall_mem_cons.mpr ⟨jw_397, (List.forall_mem_cons.mpr ⟨jw_399, (List.forall_mem_cons.mpr ⟨jw_401, (List.forall_mem_cons.mpr ⟨jw_403, (List.forall_mem_cons.mpr ⟨jw_405, (List.forall_mem_cons.mpr ⟨jw_407, (List.forall_mem_cons.mpr ⟨jw_409, (List.forall_mem_cons.mpr ⟨jw_411, (List.forall_mem_cons.mpr ⟨jw_413, (List.forall_mem_cons.mpr ⟨jw_415, (List.forall_mem_cons.mpr ⟨jw_417, (List.forall_mem_cons.mpr ⟨jw_419, (fun _ h => absurd h List.not_mem_nil)⟩)⟩)⟩)⟩)⟩)⟩)⟩)⟩)⟩)⟩)⟩)⟩)⟩)⟩)⟩)
def jR12 : String := "SluicePitModel"
def jT12 : u_T := fun k => match k with
  | 0 => ("SluicePitModel", "tape", "[I", true)
  | 1 => ("SluicePitModel", "taped", "I", false)
  | 2 => ("SluicePitModel", "at", "I", false)
  | 3 => ("SluicePitModel", "end", "I", false)
  | 4 => ("SluicePitModel", "ended", "I", false)
  | 5 => ("SluicePitModel", "bad", "I", false)
  | 6 => ("SluicePitModel", "badPlace", "I", false)
  | 7 => ("SluicePitModel", "fault", "I", false)
  | 8 => ("SluicePitModel", "faultPlace", "I", false)
  | 9 => ("SluicePitModel", "numberPlace", "I", false)
  | 10 => ("SluicePitModel", "riverWord", "[C", true)
  | 11 => ("SluicePitModel", "bedWord", "[C", true)
  | 12 => ("SluicePitModel", "atWord", "[C", true)
  | 13 => ("SluicePitModel", "waterWord", "[C", true)
  | 14 => ("SluicePitModel", "deskWord", "[C", true)
  | 15 => ("SluicePitModel", "armsWord", "[C", true)
  | 16 => ("SluicePitModel", "playsWord", "[C", true)
  | 17 => ("SluicePitModel", "pitWord", "[C", true)
  | 18 => ("SluicePitModel", "sluiceWord", "[C", true)
  | 19 => ("SluicePitModel", "millWord", "[C", true)
  | 20 => ("SluicePitModel", "needsWord", "[C", true)
  | 21 => ("SluicePitModel", "boatWord", "[C", true)
  | 22 => ("SluicePitModel", "draftWord", "[C", true)
  | 23 => ("SluicePitModel", "claqueWord", "[C", true)
  | 24 => ("SluicePitModel", "drinksWord", "[C", true)
  | 25 => ("SluicePitModel", "bankWord", "[C", true)
  | 26 => ("SluicePitModel", "timesWord", "[C", true)
  | 27 => ("SluicePitModel", "namePlace", "I", false)
  | 28 => ("SluicePitModel", "many", "[I", true)
  | 29 => ("SluicePitModel", "names", "[J", true)
  | 30 => ("SluicePitModel", "cellsTold", "I", false)
  | 31 => ("SluicePitModel", "cellMany", "I", false)
  | 32 => ("SluicePitModel", "beds", "[I", true)
  | 33 => ("SluicePitModel", "waters", "[I", true)
  | 34 => ("SluicePitModel", "sluices", "[I", true)
  | 35 => ("SluicePitModel", "arms", "[I", true)
  | 36 => ("SluicePitModel", "parts", "[I", true)
  | 37 => ("SluicePitModel", "mills", "[I", true)
  | 38 => ("SluicePitModel", "boats", "[I", true)
  | 39 => ("SluicePitModel", "claques", "[I", true)
  | 40 => ("SluicePitModel", "pitOf", "[I", true)
  | 41 => ("SluicePitModel", "bankOf", "[I", true)
  | 42 => ("SluicePitModel", "statements", "I", false)
  | 43 => ("SluicePitModel", "barAt", "[I", true)
  | 44 => ("SluicePitModel", "barMany", "I", false)
  | 45 => ("SluicePitModel", "openFrom", "[I", true)
  | 46 => ("SluicePitModel", "open", "I", false)
  | 47 => ("SluicePitModel", "silent", "I", false)
  | 48 => ("SluicePitModel", "outDesk", "I", false)
  | 49 => ("SluicePitModel", "outBar", "I", false)
  | 50 => ("SluicePitModel", "againBehind", "I", false)
  | 51 => ("SluicePitModel", "againMany", "I", false)
  | 52 => ("SluicePitModel", "water", "[I", true)
  | 53 => ("SluicePitModel", "boatAt", "[I", true)
  | 54 => ("SluicePitModel", "isTrilled", "Z", false)
  | 55 => ("SluicePitModel", "came", "I", false)
  | 56 => ("SluicePitModel", "ranOut", "I", false)
  | 57 => ("SluicePitModel", "drunk", "I", false)
  | 58 => ("SluicePitModel", "spilt", "I", false)
  | 59 => ("SluicePitModel", "deepAt", "[I", true)
  | 60 => ("SluicePitModel", "boatIn", "[I", true)
  | 61 => ("SluicePitModel", "sumAt", "[I", true)
  | 62 => ("SluicePitModel", "kept", "[I", true)
  | 63 => ("SluicePitModel", "undoable", "I", false)
  | 64 => ("SluicePitModel", "newest", "I", false)
  | 65 => ("SluicePitModel", "isWet", "Z", false)
  | 66 => ("SluicePitModel", "wetAt", "[I", true)
  | 67 => ("SluicePitModel", "seeded", "J", false)
  | 68 => ("SluicePitModel", "firstAsked", "[C", true)
  | 69 => ("SluicePitModel", "lastAsked", "[C", true)
  | 70 => ("SluicePitModel", "oftenAsked", "[C", true)
  | 71 => ("SluicePitModel", "totalAsked", "[C", true)
  | 72 => ("SluicePitModel", "mostAsked", "[C", true)
  | 73 => ("SluicePitModel", "leastAsked", "[C", true)
  | 74 => ("SluicePitModel", "notAsked", "[C", true)
  | 75 => ("SluicePitModel", "andAsked", "[C", true)
  | 76 => ("SluicePitModel", "orAsked", "[C", true)
  | 77 => ("SluicePitModel", "allAsked", "[C", true)
  | 78 => ("SluicePitModel", "minAsked", "[C", true)
  | 79 => ("SluicePitModel", "maxAsked", "[C", true)
  | 80 => ("SluicePitModel", "barAsked", "[C", true)
  | 81 => ("SluicePitModel", "cameAsked", "[C", true)
  | 82 => ("SluicePitModel", "outAsked", "[C", true)
  | 83 => ("SluicePitModel", "drunkAsked", "[C", true)
  | 84 => ("SluicePitModel", "spiltAsked", "[C", true)
  | 85 => ("SluicePitModel", "trillsAsked", "[C", true)
  | 86 => ("SluicePitModel", "deepAsked", "[C", true)
  | 87 => ("SluicePitModel", "boatAsked", "[C", true)
  | 88 => ("SluicePitModel", "qCodes", "[I", true)
  | 89 => ("SluicePitModel", "qCoded", "I", false)
  | 90 => ("SluicePitModel", "qWait", "[I", true)
  | 91 => ("SluicePitModel", "qWaits", "I", false)
  | 92 => ("SluicePitModel", "qOpened", "I", false)
  | 93 => ("SluicePitModel", "qBase", "I", false)
  | 94 => ("SluicePitModel", "qPile", "[J", true)
  | 95 => ("SluicePitModel", "qPiled", "I", false)
  | 96 => ("SluicePitModel", "qAnswer", "J", false)
  | 97 => ("SluicePitModel", "qIsNew", "Z", false)
  | 98 => ("SluicePitModel", "octet", "[I", true)
  | _ => ("SluicePitModel", "octets", "I", false)
def jY12 : Nat → FieldType := fun k => match k with
  | 0 => .array .int
  | 1 => .int
  | 2 => .int
  | 3 => .int
  | 4 => .int
  | 5 => .int
  | 6 => .int
  | 7 => .int
  | 8 => .int
  | 9 => .int
  | 10 => .array .char
  | 11 => .array .char
  | 12 => .array .char
  | 13 => .array .char
  | 14 => .array .char
  | 15 => .array .char
  | 16 => .array .char
  | 17 => .array .char
  | 18 => .array .char
  | 19 => .array .char
  | 20 => .array .char
  | 21 => .array .char
  | 22 => .array .char
  | 23 => .array .char
  | 24 => .array .char
  | 25 => .array .char
  | 26 => .array .char
  | 27 => .int
  | 28 => .array .int
  | 29 => .array .long
  | 30 => .int
  | 31 => .int
  | 32 => .array .int
  | 33 => .array .int
  | 34 => .array .int
  | 35 => .array .int
  | 36 => .array .int
  | 37 => .array .int
  | 38 => .array .int
  | 39 => .array .int
  | 40 => .array .int
  | 41 => .array .int
  | 42 => .int
  | 43 => .array .int
  | 44 => .int
  | 45 => .array .int
  | 46 => .int
  | 47 => .int
  | 48 => .int
  | 49 => .int
  | 50 => .int
  | 51 => .int
  | 52 => .array .int
  | 53 => .array .int
  | 54 => .boolean
  | 55 => .int
  | 56 => .int
  | 57 => .int
  | 58 => .int
  | 59 => .array .int
  | 60 => .array .int
  | 61 => .array .int
  | 62 => .array .int
  | 63 => .int
  | 64 => .int
  | 65 => .boolean
  | 66 => .array .int
  | 67 => .long
  | 68 => .array .char
  | 69 => .array .char
  | 70 => .array .char
  | 71 => .array .char
  | 72 => .array .char
  | 73 => .array .char
  | 74 => .array .char
  | 75 => .array .char
  | 76 => .array .char
  | 77 => .array .char
  | 78 => .array .char
  | 79 => .array .char
  | 80 => .array .char
  | 81 => .array .char
  | 82 => .array .char
  | 83 => .array .char
  | 84 => .array .char
  | 85 => .array .char
  | 86 => .array .char
  | 87 => .array .char
  | 88 => .array .int
  | 89 => .int
  | 90 => .array .int
  | 91 => .int
  | 92 => .int
  | 93 => .int
  | 94 => .array .long
  | 95 => .int
  | 96 => .long
  | 97 => .boolean
  | 98 => .array .int
  | _ => .int
theorem jnm12 : ∀ a, a < 100 → ∀ b, b < 100 → a ≠ b → (jT12 a).2.1 ≠ (jT12 b).2.1 := by decide +kernel
theorem jY12_ok : ∀ k, k < 100 → parseFieldDescriptor (jT12 k).2.2.1 = some (jY12 k) := by decide +kernel
set_option maxRecDepth 20000 in
theorem jin12 : ∀ w ∈ u_ws jR12 jT12 100, w ∈ jTW := (List.forall_mem_cons.mpr ⟨jw_1267, (List.forall_mem_cons.mpr ⟨jw_1269, (List.forall_mem_cons.mpr ⟨jw_1271, (List.forall_mem_cons.mpr ⟨jw_1273, (List.forall_mem_cons.mpr ⟨jw_1275, (List.forall_mem_cons.mpr ⟨jw_1277, (List.forall_mem_cons.mpr ⟨jw_1279, (List.forall_mem_cons.mpr ⟨jw_1281, (List.forall_mem_cons.mpr ⟨jw_1283, (List.forall_mem_cons.mpr ⟨jw_1285, (List.forall_mem_cons.mpr ⟨jw_1287, (List.forall_mem_cons.mpr ⟨jw_1289, (List.forall_mem_cons.mpr ⟨jw_1291, (List.forall_mem_cons.mpr ⟨jw_1293, (List.forall_mem_cons.mpr ⟨jw_1295, (List.forall_mem_cons.mpr ⟨jw_1297, (List.forall_mem_cons.mpr ⟨jw_1299, (List.forall_mem_cons.mpr ⟨jw_1301, (List.forall_mem_cons.mpr ⟨jw_1303, (List.forall_mem_cons.mpr ⟨jw_1305, (List.forall_mem_cons.mpr ⟨jw_1307, (List.forall_mem_cons.mpr ⟨jw_1309, (List.forall_mem_cons.mpr ⟨jw_1311, (List.forall_mem_cons.mpr ⟨jw_1313, (List.forall_mem_cons.mpr ⟨jw_1315, (List.forall_mem_cons.mpr ⟨jw_1317, (List.forall_mem_cons.mpr ⟨jw_1319, (List.forall_mem_cons.mpr ⟨jw_1321, (List.forall_mem_cons.mpr ⟨jw_1323, (List.forall_mem_cons.mpr ⟨jw_1325, (List.forall_mem_cons.mpr ⟨jw_1327, (List.forall_mem_cons.mpr ⟨jw_1329, (List.forall_mem_cons.mpr ⟨jw_1331, (List.forall_mem_cons.mpr ⟨jw_1333, (List.forall_mem_cons.mpr ⟨jw_1335, (List.forall_mem_cons.mpr ⟨jw_1337, (List.forall_mem_cons.mpr ⟨jw_1339, (List.forall_mem_cons.mpr ⟨jw_1341, (List.forall_mem_cons.mpr ⟨jw_1343, (List.forall_mem_cons.mpr ⟨jw_1345, (List.forall_mem_cons.mpr ⟨jw_1347, (List.forall_mem_cons.mpr ⟨jw_1349, (List.forall_mem_cons.mpr ⟨jw_1351, (List.forall_mem_cons.mpr ⟨jw_1353, (List.forall_mem_cons.mpr ⟨jw_1355, (List.forall_mem_cons.mpr ⟨jw_1357, (List.forall_mem_cons.mpr ⟨jw_1359, (List.forall_mem_cons.mpr ⟨jw_1361, (List.forall_mem_cons.mpr ⟨jw_1363, (List.forall_mem_cons.mpr ⟨jw_1365, (List.forall_mem_cons.mpr ⟨jw_1367, (List.forall_mem_cons.mpr ⟨jw_1369, (List.forall_mem_cons.mpr ⟨jw_1371, (List.forall_mem_cons.mpr ⟨jw_1373, (List.forall_mem_cons.mpr ⟨jw_1375, (List.forall_mem_cons.mpr ⟨jw_1377, (List.forall_mem_cons.mpr ⟨jw_1379, (List.forall_mem_cons.mpr ⟨jw_1381, (List.forall_mem_cons.mpr ⟨jw_1383, (List.forall_mem_cons.mpr ⟨jw_1385, (List.forall_mem_cons.mpr ⟨jw_1387, (List.forall_mem_cons.mpr ⟨jw_1389, (List.forall_mem_cons.mpr ⟨jw_1391, (List.forall_mem_cons.mpr ⟨jw_1393, (List.forall_mem_cons.mpr ⟨jw_1395, (List.forall_mem_cons.mpr ⟨jw_1397, (List.forall_mem_cons.mpr ⟨jw_1399, (List.forall_mem_cons.mpr ⟨jw_1401, (List.forall_mem_cons.mpr ⟨jw_1403, (List.forall_mem_cons.mpr ⟨jw_1405, (List.forall_mem_cons.mpr ⟨jw_1407, (List.forall_mem_cons.mpr ⟨jw_1409, (List.forall_mem_cons.mpr ⟨jw_1411, (List.forall_mem_cons.mpr ⟨jw_1413, (List.forall_mem_cons.mpr ⟨jw_1415, (List.forall_mem_cons.mpr ⟨jw_1417, (List.forall_mem_cons.mpr ⟨jw_1419, (List.forall_mem_cons.mpr ⟨jw_1421, (List.forall_mem_cons.mpr ⟨jw_1423, (List.forall_mem_cons.mpr ⟨jw_1425, (List.forall_mem_cons.mpr ⟨jw_1427, (List.forall_mem_cons.mpr ⟨jw_1429, (List.forall_mem_cons.mpr ⟨jw_1431, (List.forall_mem_cons.mpr ⟨jw_1433, (List.forall_mem_cons.mpr ⟨jw_1435, (List.forall_mem_cons.mpr ⟨jw_1437, (List.forall_mem_cons.mpr ⟨jw_1439, (List.forall_mem_cons.mpr ⟨jw_1441, (List.forall_mem_cons.mpr ⟨jw_1443, (List.forall_mem_cons.mpr ⟨jw_1445, (List.forall_mem_cons.mpr ⟨jw_1447, (List.forall_mem_cons.mpr ⟨jw_1449, (List.forall_mem_cons.mpr ⟨jw_1451, (List.forall_mem_cons.mpr ⟨jw_1453, (List.forall_mem_cons.mpr ⟨jw_1455, (List.forall_mem_cons.mpr ⟨jw_1457, (List.forall_mem_cons.mpr ⟨jw_1459, (List.forall_mem_cons.mpr ⟨jw_1461, (List.forall_mem_cons.mpr ⟨jw_1463, (List.forall_mem_cons.mpr ⟨jw_1465, (fun _ h => absurd h List.not_mem_nil)⟩)⟩)⟩)⟩)⟩)⟩)⟩)⟩)⟩)⟩)⟩)⟩)⟩)⟩)⟩)⟩)⟩)⟩)⟩)⟩)⟩)⟩)⟩)⟩)⟩)⟩)⟩)⟩)⟩)⟩)⟩)⟩)⟩)⟩)⟩)⟩)⟩)⟩)⟩)⟩)⟩)⟩)⟩)⟩)⟩)⟩)⟩)⟩)⟩)⟩)⟩)⟩)⟩)⟩)⟩)⟩)⟩)⟩)⟩)⟩)⟩)⟩)⟩)⟩)⟩)⟩)⟩)⟩)⟩)⟩)⟩)⟩)⟩)⟩)⟩)⟩)⟩)⟩)⟩)⟩)⟩)⟩)⟩)⟩)⟩)⟩)⟩)⟩)⟩)⟩)⟩)⟩)⟩)⟩)⟩)⟩)⟩)⟩)⟩)⟩)
abbrev jcl : List vw_C := [(jR0, jT0, 5), (jR1, jT1, 14), (jR2, jT2, 3), (jR3, jT3, 3), (jR4, jT4, 2), (jR5, jT5, 11), (jR6, jT6, 5), (jR7, jT7, 7), (jR8, jT8, 3), (jR9, jT9, 3), (jR10, jT10, 2), (jR11, jT11, 15), (jR12, jT12, 100)]
def jfl : List (List Nat) := [[2, 2, 2, 0, 0], [0, 0, 0, 0, 0, 2, 2, 2, 2, 2, 2, 2, 2, 2], [2, 2, 3], [2, 2, 0], [2, 2], [2, 2, 0, 0, 0, 0, 0, 0, 0, 0, 0], [2, 2, 2, 0, 3], [2, 0, 2, 0, 0, 0, 0], [2, 2, 2], [2, 2, 0], [2, 0], [2, 2, 2, 2, 2, 2, 2, 2, 3, 3, 2, 0, 1, 2, 0], [2, 0, 0, 0, 0, 0, 0, 0, 0, 0, 2, 2, 2, 2, 2, 2, 2, 2, 2, 2, 2, 2, 2, 2, 2, 2, 2, 0, 2, 2, 0, 0, 2, 2, 2, 2, 2, 2, 2, 2, 2, 2, 0, 2, 0, 2, 0, 0, 0, 0, 0, 0, 2, 2, 0, 0, 0, 0, 0, 2, 2, 2, 2, 0, 0, 0, 2, 1, 2, 2, 2, 2, 2, 2, 2, 2, 2, 2, 2, 2, 2, 2, 2, 2, 2, 2, 2, 2, 2, 0, 2, 0, 0, 0, 2, 0, 1, 0, 2, 0]]
def jft (ci k : Nat) : Nat := (jfl.getD ci []).getD k 9
def jnf (ci : Nat) : Nat := (jfl.getD ci []).length
