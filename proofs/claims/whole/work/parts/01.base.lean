def zT : List Cond := lw_tbl.filter goodWord
theorem zm {w : Cond} (i : Nat) (h : lw_tbl[i]? = some w) (g : goodWord w = true) : w ∈ zT := List.mem_filter.mpr ⟨List.mem_of_getElem? h, g⟩
theorem zT_ok : ∀ w ∈ zT, (w.onTables && w.keeps) = true ∨ ∃ ty, w = .arrayClass ty := fun w h => good_of_word (List.mem_filter.mp h).2
theorem zgood {w : Cond} (h : w ∈ zT) : GoodIn zT (w :: zT) := fun v hv => (List.mem_cons.mp hv).elim (fun e => by rw [e]; exact ⟨h, zT_ok w h⟩) (fun k => ⟨k, zT_ok v k⟩)
def zIsN : Cond → Bool
  | .fieldLinkNest .. => true
  | .methodLinkNest .. => true
  | _ => false
def zNW : List Cond := lw_tbl.filter zIsN
theorem znm {w : Cond} (i : Nat) (h : lw_tbl[i]? = some w) (g : zIsN w = true) : w ∈ zNW := List.mem_filter.mpr ⟨List.mem_of_getElem? h, g⟩
abbrev RF : String := "FootprintRules"
abbrev RCu : String := "FootprintRules$Cut"
abbrev RFa : String := "FootprintRules$Family"
abbrev RFR : String := "FootprintRules$FamilyReader"
abbrev RFp : String := "FootprintRules$Footprint"
abbrev RHm : String := "FootprintRules$HandMade"
abbrev RKe : String := "FootprintRules$Key"
abbrev RKi : String := "FootprintRules$Kind"
abbrev RLi : String := "FootprintRules$Line"
abbrev RMa : String := "FootprintRules$Maker"
abbrev RSp : String := "FootprintRules$Spans"
abbrev RWo : String := "FootprintRules$Words"
abbrev RM : String := "FootprintRulesModel"
abbrev RL : String := "FootprintRulesLaw"
abbrev RJM : String := "java/lang/Math"
abbrev RJS : String := "java/lang/String"
abbrev RJL : String := "java/lang/StringLatin1"
abbrev RJU : String := "java/lang/StringUTF16"
abbrev RJP : String := "jdk/internal/util/Preconditions"
def TWo : u_T := fun k => match k with
  | 0 => ("FootprintRules$Words", "units", "[C", true)
  | 1 => ("FootprintRules$Words", "length", "I", false)
  | 2 => ("FootprintRules$Words", "start", "I", false)
  | 3 => ("FootprintRules$Words", "end", "I", false)
  | _ => ("FootprintRules$Words", "place", "I", false)
def tyWo : Nat → FieldType := fun k => match k with
  | 0 => .array .char
  | 1 => .int
  | 2 => .int
  | 3 => .int
  | _ => .int
theorem nmWo : ∀ a, a < 5 → ∀ b, b < 5 → a ≠ b → (TWo a).2.1 ≠ (TWo b).2.1 := by decide +kernel
theorem tyWo_ok : ∀ k, k < 5 → parseFieldDescriptor (TWo k).2.2.1 = some (tyWo k) := by decide +kernel
set_option maxRecDepth 20000 in
theorem inZ_Wo : ∀ w ∈ u_ws RWo TWo 5, w ∈ zT := by decide +kernel
def TFR : u_T := fun k => match k with
  | 0 => ("FootprintRules$FamilyReader", "words", "LFootprintRules$Words;", true)
  | _ => ("FootprintRules$FamilyReader", "toldKeys", "I", false)
def tyFR : Nat → FieldType := fun k => match k with
  | 0 => .object "FootprintRules$Words"
  | _ => .int
theorem nmFR : ∀ a, a < 2 → ∀ b, b < 2 → a ≠ b → (TFR a).2.1 ≠ (TFR b).2.1 := by decide +kernel
theorem tyFR_ok : ∀ k, k < 2 → parseFieldDescriptor (TFR k).2.2.1 = some (tyFR k) := by decide +kernel
set_option maxRecDepth 20000 in
theorem inZ_FR : ∀ w ∈ u_ws RFR TFR 2, w ∈ zT := by decide +kernel
def TFa : u_T := fun k => match k with
  | 0 => ("FootprintRules$Family", "values", "[I", true)
  | 1 => ("FootprintRules$Family", "letters", "[C", true)
  | 2 => ("FootprintRules$Family", "letterCount", "I", false)
  | _ => ("FootprintRules$Family", "kind", "LFootprintRules$Kind;", false)
def tyFa : Nat → FieldType := fun k => match k with
  | 0 => .array .int
  | 1 => .array .char
  | 2 => .int
  | _ => .object "FootprintRules$Kind"
theorem nmFa : ∀ a, a < 4 → ∀ b, b < 4 → a ≠ b → (TFa a).2.1 ≠ (TFa b).2.1 := by decide +kernel
theorem tyFa_ok : ∀ k, k < 4 → parseFieldDescriptor (TFa k).2.2.1 = some (tyFa k) := by decide +kernel
set_option maxRecDepth 20000 in
theorem inZ_Fa : ∀ w ∈ u_ws RFa TFa 4, w ∈ zT := by decide +kernel
def TSp : u_T := fun k => match k with
  | 0 => ("FootprintRules$Spans", "lows", "[J", true)
  | 1 => ("FootprintRules$Spans", "highs", "[J", true)
  | 2 => ("FootprintRules$Spans", "toldBits", "I", false)
  | _ => ("FootprintRules$Spans", "exactBits", "I", false)
def tySp : Nat → FieldType := fun k => match k with
  | 0 => .array .long
  | 1 => .array .long
  | 2 => .int
  | _ => .int
theorem nmSp : ∀ a, a < 4 → ∀ b, b < 4 → a ≠ b → (TSp a).2.1 ≠ (TSp b).2.1 := by decide +kernel
theorem tySp_ok : ∀ k, k < 4 → parseFieldDescriptor (TSp k).2.2.1 = some (tySp k) := by decide +kernel
set_option maxRecDepth 20000 in
theorem inZ_Sp : ∀ w ∈ u_ws RSp TSp 4, w ∈ zT := by decide +kernel
def TMa : u_T := fun k => match k with
  | 0 => ("FootprintRules$Maker", "spans", "LFootprintRules$Spans;", true)
  | 1 => ("FootprintRules$Maker", "leftOut", "[Z", true)
  | 2 => ("FootprintRules$Maker", "print", "LFootprintRules$Footprint;", true)
  | 3 => ("FootprintRules$Maker", "rounding", "J", false)
  | 4 => ("FootprintRules$Maker", "toe", "J", false)
  | 5 => ("FootprintRules$Maker", "heel", "J", false)
  | 6 => ("FootprintRules$Maker", "side", "J", false)
  | 7 => ("FootprintRules$Maker", "pitch", "J", false)
  | 8 => ("FootprintRules$Maker", "outer", "J", false)
  | 9 => ("FootprintRules$Maker", "inner", "J", false)
  | 10 => ("FootprintRules$Maker", "across", "J", false)
  | _ => ("FootprintRules$Maker", "hole", "J", false)
def tyMa : Nat → FieldType := fun k => match k with
  | 0 => .object "FootprintRules$Spans"
  | 1 => .array .boolean
  | 2 => .object "FootprintRules$Footprint"
  | 3 => .long
  | 4 => .long
  | 5 => .long
  | 6 => .long
  | 7 => .long
  | 8 => .long
  | 9 => .long
  | 10 => .long
  | _ => .long
theorem nmMa : ∀ a, a < 12 → ∀ b, b < 12 → a ≠ b → (TMa a).2.1 ≠ (TMa b).2.1 := by decide +kernel
theorem tyMa_ok : ∀ k, k < 12 → parseFieldDescriptor (TMa k).2.2.1 = some (tyMa k) := by decide +kernel
set_option maxRecDepth 20000 in
theorem inZ_Ma : ∀ w ∈ u_ws RMa TMa 12, w ∈ zT := by decide +kernel
def TCu : u_T := fun k => match k with
  | 0 => ("FootprintRules$Cut", "parts", "J", false)
  | 1 => ("FootprintRules$Cut", "size", "J", false)
  | 2 => ("FootprintRules$Cut", "ahead", "J", false)
  | _ => ("FootprintRules$Cut", "gap", "J", false)
def tyCu : Nat → FieldType := fun k => match k with
  | 0 => .long
  | 1 => .long
  | 2 => .long
  | _ => .long
theorem nmCu : ∀ a, a < 4 → ∀ b, b < 4 → a ≠ b → (TCu a).2.1 ≠ (TCu b).2.1 := by decide +kernel
theorem tyCu_ok : ∀ k, k < 4 → parseFieldDescriptor (TCu k).2.2.1 = some (tyCu k) := by decide +kernel
set_option maxRecDepth 20000 in
theorem inZ_Cu : ∀ w ∈ u_ws RCu TCu 4, w ∈ zT := by decide +kernel
def TFp : u_T := fun k => match k with
  | 0 => ("FootprintRules$Footprint", "atHand", "Z", false)
  | 1 => ("FootprintRules$Footprint", "cells", "[J", true)
  | 2 => ("FootprintRules$Footprint", "count", "I", false)
  | 3 => ("FootprintRules$Footprint", "thermal", "I", false)
  | 4 => ("FootprintRules$Footprint", "family", "LFootprintRules$Family;", false)
  | 5 => ("FootprintRules$Footprint", "density", "I", false)
  | 6 => ("FootprintRules$Footprint", "outerHigh", "J", false)
  | 7 => ("FootprintRules$Footprint", "yard", "[J", true)
  | 8 => ("FootprintRules$Footprint", "columns", "LFootprintRules$Cut;", true)
  | 9 => ("FootprintRules$Footprint", "rows", "LFootprintRules$Cut;", true)
  | 10 => ("FootprintRules$Footprint", "pasteLeft", "J", false)
  | 11 => ("FootprintRules$Footprint", "pasteLow", "J", false)
  | 12 => ("FootprintRules$Footprint", "line", "LFootprintRules$Line;", true)
  | 13 => ("FootprintRules$Footprint", "nameLength", "I", false)
  | _ => ("FootprintRules$Footprint", "isWritten", "Z", false)
def tyFp : Nat → FieldType := fun k => match k with
  | 0 => .boolean
  | 1 => .array .long
  | 2 => .int
  | 3 => .int
  | 4 => .object "FootprintRules$Family"
  | 5 => .int
  | 6 => .long
  | 7 => .array .long
  | 8 => .object "FootprintRules$Cut"
  | 9 => .object "FootprintRules$Cut"
  | 10 => .long
  | 11 => .long
  | 12 => .object "FootprintRules$Line"
  | 13 => .int
  | _ => .boolean
theorem nmFp : ∀ a, a < 15 → ∀ b, b < 15 → a ≠ b → (TFp a).2.1 ≠ (TFp b).2.1 := by decide +kernel
theorem tyFp_ok : ∀ k, k < 15 → parseFieldDescriptor (TFp k).2.2.1 = some (tyFp k) := by decide +kernel
set_option maxRecDepth 20000 in
theorem inZ_Fp : ∀ w ∈ u_ws RFp TFp 15, w ∈ zT := by decide +kernel
def TLi : u_T := fun k => match k with
  | 0 => ("FootprintRules$Line", "units", "[C", true)
  | _ => ("FootprintRules$Line", "length", "I", false)
def tyLi : Nat → FieldType := fun k => match k with
  | 0 => .array .char
  | _ => .int
theorem nmLi : ∀ a, a < 2 → ∀ b, b < 2 → a ≠ b → (TLi a).2.1 ≠ (TLi b).2.1 := by decide +kernel
theorem tyLi_ok : ∀ k, k < 2 → parseFieldDescriptor (TLi k).2.2.1 = some (tyLi k) := by decide +kernel
set_option maxRecDepth 20000 in
theorem inZ_Li : ∀ w ∈ u_ws RLi TLi 2, w ∈ zT := by decide +kernel
def THm : u_T := fun k => match k with
  | 0 => ("FootprintRules$HandMade", "isThere", "[Z", true)
  | 1 => ("FootprintRules$HandMade", "boxes", "[J", true)
  | _ => ("FootprintRules$HandMade", "count", "I", false)
def tyHm : Nat → FieldType := fun k => match k with
  | 0 => .array .boolean
  | 1 => .array .long
  | _ => .int
theorem nmHm : ∀ a, a < 3 → ∀ b, b < 3 → a ≠ b → (THm a).2.1 ≠ (THm b).2.1 := by decide +kernel
theorem tyHm_ok : ∀ k, k < 3 → parseFieldDescriptor (THm k).2.2.1 = some (tyHm k) := by decide +kernel
set_option maxRecDepth 20000 in
theorem inZ_Hm : ∀ w ∈ u_ws RHm THm 3, w ∈ zT := by decide +kernel
def TF : u_T := fun k => match k with
  | 0 => ("FootprintRules", "reader", "LFootprintRules$FamilyReader;", true)
  | 1 => ("FootprintRules", "families", "[LFootprintRules$Family;", true)
  | 2 => ("FootprintRules", "familyCount", "I", false)
  | 3 => ("FootprintRules", "handMade", "LFootprintRules$HandMade;", true)
  | 4 => ("FootprintRules", "maker", "LFootprintRules$Maker;", true)
  | _ => ("FootprintRules", "print", "LFootprintRules$Footprint;", true)
def tyF : Nat → FieldType := fun k => match k with
  | 0 => .object "FootprintRules$FamilyReader"
  | 1 => .array (.object "FootprintRules$Family")
  | 2 => .int
  | 3 => .object "FootprintRules$HandMade"
  | 4 => .object "FootprintRules$Maker"
  | _ => .object "FootprintRules$Footprint"
theorem nmF : ∀ a, a < 6 → ∀ b, b < 6 → a ≠ b → (TF a).2.1 ≠ (TF b).2.1 := by decide +kernel
theorem tyF_ok : ∀ k, k < 6 → parseFieldDescriptor (TF k).2.2.1 = some (tyF k) := by decide +kernel
set_option maxRecDepth 20000 in
theorem inZ_F : ∀ w ∈ u_ws RF TF 6, w ∈ zT := by decide +kernel
def TM : u_T := fun k => match k with
  | 0 => ("FootprintRulesModel", "thrown", "I", false)
  | 1 => ("FootprintRulesModel", "units", "[I", true)
  | 2 => ("FootprintRulesModel", "size", "I", false)
  | 3 => ("FootprintRulesModel", "families", "I", false)
  | 4 => ("FootprintRulesModel", "kinds", "[I", true)
  | 5 => ("FootprintRulesModel", "values", "[J", true)
  | 6 => ("FootprintRulesModel", "names", "[J", true)
  | 7 => ("FootprintRulesModel", "low", "[J", true)
  | 8 => ("FootprintRulesModel", "high", "[J", true)
  | 9 => ("FootprintRulesModel", "told", "[Z", true)
  | 10 => ("FootprintRulesModel", "leftOut", "[Z", true)
  | 11 => ("FootprintRulesModel", "isMade", "[Z", true)
  | 12 => ("FootprintRulesModel", "hands", "[J", true)
  | 13 => ("FootprintRulesModel", "atHand", "Z", false)
  | 14 => ("FootprintRulesModel", "family", "I", false)
  | 15 => ("FootprintRulesModel", "density", "I", false)
  | 16 => ("FootprintRulesModel", "pads", "I", false)
  | 17 => ("FootprintRulesModel", "pad", "[J", true)
  | 18 => ("FootprintRulesModel", "court", "[J", true)
  | 19 => ("FootprintRulesModel", "hasThermal", "Z", false)
  | 20 => ("FootprintRulesModel", "title", "[I", true)
  | 21 => ("FootprintRulesModel", "titleSize", "I", false)
  | 22 => ("FootprintRulesModel", "out", "[I", true)
  | 23 => ("FootprintRulesModel", "written", "I", false)
  | 24 => ("FootprintRulesModel", "at", "I", false)
  | 25 => ("FootprintRulesModel", "begin", "I", false)
  | 26 => ("FootprintRulesModel", "words", "I", false)
  | _ => ("FootprintRulesModel", "paste0", "J", false)
def tyM : Nat → FieldType := fun k => match k with
  | 0 => .int
  | 1 => .array .int
  | 2 => .int
  | 3 => .int
  | 4 => .array .int
  | 5 => .array .long
  | 6 => .array .long
  | 7 => .array .long
  | 8 => .array .long
  | 9 => .array .boolean
  | 10 => .array .boolean
  | 11 => .array .boolean
  | 12 => .array .long
  | 13 => .boolean
  | 14 => .int
  | 15 => .int
  | 16 => .int
  | 17 => .array .long
  | 18 => .array .long
  | 19 => .boolean
  | 20 => .array .int
  | 21 => .int
  | 22 => .array .int
  | 23 => .int
  | 24 => .int
  | 25 => .int
  | 26 => .int
  | _ => .long
theorem nmM : ∀ a, a < 28 → ∀ b, b < 28 → a ≠ b → (TM a).2.1 ≠ (TM b).2.1 := by decide +kernel
theorem tyM_ok : ∀ k, k < 28 → parseFieldDescriptor (TM k).2.2.1 = some (tyM k) := by decide +kernel
set_option maxRecDepth 20000 in
theorem inZ_M : ∀ w ∈ u_ws RM TM 28, w ∈ zT := by decide +kernel
abbrev vwCl : List vw_C := [(RWo, TWo, 5), (RFR, TFR, 2), (RFa, TFa, 4), (RSp, TSp, 4), (RMa, TMa, 12), (RCu, TCu, 4), (RFp, TFp, 15), (RLi, TLi, 2), (RHm, THm, 3), (RF, TF, 6), (RM, TM, 28)]
