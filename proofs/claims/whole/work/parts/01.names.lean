def x_tb : List Cond := lw_tbl.filter goodWord
theorem x_in {w : Cond} (h : w ∈ lw_tbl) (hg : goodWord w = true) : w ∈ x_tb := List.mem_filter.mpr ⟨h, hg⟩
theorem x_lay {C : String} {T : u_T} {N : Nat} {L : List Cond} (h : ∀ k, k < N → u_lay C T k ∈ L) : ∀ w ∈ u_ws C T N, w ∈ L := fun w hw => by
  obtain ⟨k, hk, rfl⟩ := List.mem_map.mp hw
  exact h k (List.mem_range.mp hk)
def R_BitReader : String := "PieceRow$BitReader"
def F_BitReader : u_T := fun k => match k with
  | 0 => ("PieceRow$BitReader", "row", "LPieceRow$Bytes;", true)
  | 1 => ("PieceRow$BitReader", "at", "I", false)
  | _ => ("PieceRow$BitReader", "end", "I", false)
def t_BitReader : Nat → FieldType := fun k => match k with
  | 0 => (.object "PieceRow$Bytes")
  | 1 => .int
  | _ => .int
theorem n_BitReader : ∀ a, a < 3 → ∀ b, b < 3 → a ≠ b → (F_BitReader a).2.1 ≠ (F_BitReader b).2.1 := by decide +kernel
theorem t_BitReader_ok : ∀ k, k < 3 → parseFieldDescriptor (F_BitReader k).2.2.1 = some (t_BitReader k) := by decide +kernel
set_option maxRecDepth 100000 in
theorem i_BitReader : ∀ w ∈ u_ws R_BitReader F_BitReader 3, w ∈ x_tb := x_lay fun k hk => match k, hk with
  | 0, _ => x_in (List.mem_of_getElem? (i := 308) rfl) rfl
  | 1, _ => x_in (List.mem_of_getElem? (i := 310) rfl) rfl
  | 2, _ => x_in (List.mem_of_getElem? (i := 312) rfl) rfl
  | k + 3, hk => absurd hk (Nat.not_lt.mpr (Nat.le_add_left _ _))
def R_BitWriter : String := "PieceRow$BitWriter"
def F_BitWriter : u_T := fun k => match k with
  | 0 => ("PieceRow$BitWriter", "data", "[B", true)
  | 1 => ("PieceRow$BitWriter", "length", "I", false)
  | 2 => ("PieceRow$BitWriter", "open", "I", false)
  | _ => ("PieceRow$BitWriter", "openCount", "I", false)
def t_BitWriter : Nat → FieldType := fun k => match k with
  | 0 => (.array .byte)
  | 1 => .int
  | 2 => .int
  | _ => .int
theorem n_BitWriter : ∀ a, a < 4 → ∀ b, b < 4 → a ≠ b → (F_BitWriter a).2.1 ≠ (F_BitWriter b).2.1 := by decide +kernel
theorem t_BitWriter_ok : ∀ k, k < 4 → parseFieldDescriptor (F_BitWriter k).2.2.1 = some (t_BitWriter k) := by decide +kernel
set_option maxRecDepth 100000 in
theorem i_BitWriter : ∀ w ∈ u_ws R_BitWriter F_BitWriter 4, w ∈ x_tb := x_lay fun k hk => match k, hk with
  | 0, _ => x_in (List.mem_of_getElem? (i := 124) rfl) rfl
  | 1, _ => x_in (List.mem_of_getElem? (i := 126) rfl) rfl
  | 2, _ => x_in (List.mem_of_getElem? (i := 128) rfl) rfl
  | 3, _ => x_in (List.mem_of_getElem? (i := 130) rfl) rfl
  | k + 4, hk => absurd hk (Nat.not_lt.mpr (Nat.le_add_left _ _))
def R_Bytes : String := "PieceRow$Bytes"
def F_Bytes : u_T := fun k => match k with
  | 0 => ("PieceRow$Bytes", "data", "[B", true)
  | _ => ("PieceRow$Bytes", "length", "I", false)
def t_Bytes : Nat → FieldType := fun k => match k with
  | 0 => (.array .byte)
  | _ => .int
theorem n_Bytes : ∀ a, a < 2 → ∀ b, b < 2 → a ≠ b → (F_Bytes a).2.1 ≠ (F_Bytes b).2.1 := by decide +kernel
theorem t_Bytes_ok : ∀ k, k < 2 → parseFieldDescriptor (F_Bytes k).2.2.1 = some (t_Bytes k) := by decide +kernel
set_option maxRecDepth 100000 in
theorem i_Bytes : ∀ w ∈ u_ws R_Bytes F_Bytes 2, w ∈ x_tb := x_lay fun k hk => match k, hk with
  | 0, _ => x_in (List.mem_of_getElem? (i := 101) rfl) rfl
  | 1, _ => x_in (List.mem_of_getElem? (i := 103) rfl) rfl
  | k + 2, hk => absurd hk (Nat.not_lt.mpr (Nat.le_add_left _ _))
def R_Code : String := "PieceRow$Code"
def F_Code : u_T := fun k => match k with
  | 0 => ("PieceRow$Code", "lengths", "[I", true)
  | 1 => ("PieceRow$Code", "codes", "[I", true)
  | _ => ("PieceRow$Code", "next", "[I", true)
def t_Code : Nat → FieldType := fun k => match k with
  | 0 => (.array .int)
  | 1 => (.array .int)
  | _ => (.array .int)
theorem n_Code : ∀ a, a < 3 → ∀ b, b < 3 → a ≠ b → (F_Code a).2.1 ≠ (F_Code b).2.1 := by decide +kernel
theorem t_Code_ok : ∀ k, k < 3 → parseFieldDescriptor (F_Code k).2.2.1 = some (t_Code k) := by decide +kernel
set_option maxRecDepth 100000 in
theorem i_Code : ∀ w ∈ u_ws R_Code F_Code 3, w ∈ x_tb := x_lay fun k hk => match k, hk with
  | 0, _ => x_in (List.mem_of_getElem? (i := 195) rfl) rfl
  | 1, _ => x_in (List.mem_of_getElem? (i := 197) rfl) rfl
  | 2, _ => x_in (List.mem_of_getElem? (i := 199) rfl) rfl
  | k + 3, hk => absurd hk (Nat.not_lt.mpr (Nat.le_add_left _ _))
def R_Header : String := "PieceRow$Header"
def F_Header : u_T := fun k => match k with
  | 0 => ("PieceRow$Header", "lists", "LPieceRow$Lists;", true)
  | 1 => ("PieceRow$Header", "row", "[I", true)
  | 2 => ("PieceRow$Header", "told", "[I", true)
  | 3 => ("PieceRow$Header", "counts", "[I", true)
  | 4 => ("PieceRow$Header", "code", "LPieceRow$Code;", true)
  | 5 => ("PieceRow$Header", "rowLength", "I", false)
  | 6 => ("PieceRow$Header", "toldCount", "I", false)
  | 7 => ("PieceRow$Header", "symbolLengths", "I", false)
  | 8 => ("PieceRow$Header", "distanceLengths", "I", false)
  | _ => ("PieceRow$Header", "codeLengths", "I", false)
def t_Header : Nat → FieldType := fun k => match k with
  | 0 => (.object "PieceRow$Lists")
  | 1 => (.array .int)
  | 2 => (.array .int)
  | 3 => (.array .int)
  | 4 => (.object "PieceRow$Code")
  | 5 => .int
  | 6 => .int
  | 7 => .int
  | 8 => .int
  | _ => .int
theorem n_Header : ∀ a, a < 10 → ∀ b, b < 10 → a ≠ b → (F_Header a).2.1 ≠ (F_Header b).2.1 := by decide +kernel
theorem t_Header_ok : ∀ k, k < 10 → parseFieldDescriptor (F_Header k).2.2.1 = some (t_Header k) := by decide +kernel
set_option maxRecDepth 100000 in
theorem i_Header : ∀ w ∈ u_ws R_Header F_Header 10, w ∈ x_tb := x_lay fun k hk => match k, hk with
  | 0, _ => x_in (List.mem_of_getElem? (i := 212) rfl) rfl
  | 1, _ => x_in (List.mem_of_getElem? (i := 214) rfl) rfl
  | 2, _ => x_in (List.mem_of_getElem? (i := 216) rfl) rfl
  | 3, _ => x_in (List.mem_of_getElem? (i := 218) rfl) rfl
  | 4, _ => x_in (List.mem_of_getElem? (i := 220) rfl) rfl
  | 5, _ => x_in (List.mem_of_getElem? (i := 222) rfl) rfl
  | 6, _ => x_in (List.mem_of_getElem? (i := 224) rfl) rfl
  | 7, _ => x_in (List.mem_of_getElem? (i := 226) rfl) rfl
  | 8, _ => x_in (List.mem_of_getElem? (i := 228) rfl) rfl
  | 9, _ => x_in (List.mem_of_getElem? (i := 230) rfl) rfl
  | k + 10, hk => absurd hk (Nat.not_lt.mpr (Nat.le_add_left _ _))
def R_Lists : String := "PieceRow$Lists"
def F_Lists : u_T := fun k => match k with
  | 0 => ("PieceRow$Lists", "symbols", "[I", true)
  | 1 => ("PieceRow$Lists", "counts", "[I", true)
  | 2 => ("PieceRow$Lists", "pairs", "[[B", true)
  | 3 => ("PieceRow$Lists", "items", "[I", false)
  | 4 => ("PieceRow$Lists", "itemsBefore", "[I", false)
  | _ => ("PieceRow$Lists", "many", "I", false)
def t_Lists : Nat → FieldType := fun k => match k with
  | 0 => (.array .int)
  | 1 => (.array .int)
  | 2 => (.array (.array .byte))
  | 3 => (.array .int)
  | 4 => (.array .int)
  | _ => .int
theorem n_Lists : ∀ a, a < 6 → ∀ b, b < 6 → a ≠ b → (F_Lists a).2.1 ≠ (F_Lists b).2.1 := by decide +kernel
theorem t_Lists_ok : ∀ k, k < 6 → parseFieldDescriptor (F_Lists k).2.2.1 = some (t_Lists k) := by decide +kernel
set_option maxRecDepth 100000 in
theorem i_Lists : ∀ w ∈ u_ws R_Lists F_Lists 6, w ∈ x_tb := x_lay fun k hk => match k, hk with
  | 0, _ => x_in (List.mem_of_getElem? (i := 164) rfl) rfl
  | 1, _ => x_in (List.mem_of_getElem? (i := 166) rfl) rfl
  | 2, _ => x_in (List.mem_of_getElem? (i := 168) rfl) rfl
  | 3, _ => x_in (List.mem_of_getElem? (i := 170) rfl) rfl
  | 4, _ => x_in (List.mem_of_getElem? (i := 172) rfl) rfl
  | 5, _ => x_in (List.mem_of_getElem? (i := 174) rfl) rfl
  | k + 6, hk => absurd hk (Nat.not_lt.mpr (Nat.le_add_left _ _))
def R_Matches : String := "PieceRow$Matches"
def F_Matches : u_T := fun k => match k with
  | 0 => ("PieceRow$Matches", "row", "LPieceRow$Bytes;", true)
  | 1 => ("PieceRow$Matches", "latest", "[I", true)
  | _ => ("PieceRow$Matches", "before", "[I", true)
def t_Matches : Nat → FieldType := fun k => match k with
  | 0 => (.object "PieceRow$Bytes")
  | 1 => (.array .int)
  | _ => (.array .int)
theorem n_Matches : ∀ a, a < 3 → ∀ b, b < 3 → a ≠ b → (F_Matches a).2.1 ≠ (F_Matches b).2.1 := by decide +kernel
theorem t_Matches_ok : ∀ k, k < 3 → parseFieldDescriptor (F_Matches k).2.2.1 = some (t_Matches k) := by decide +kernel
set_option maxRecDepth 100000 in
theorem i_Matches : ∀ w ∈ u_ws R_Matches F_Matches 3, w ∈ x_tb := x_lay fun k hk => match k, hk with
  | 0, _ => x_in (List.mem_of_getElem? (i := 142) rfl) rfl
  | 1, _ => x_in (List.mem_of_getElem? (i := 144) rfl) rfl
  | 2, _ => x_in (List.mem_of_getElem? (i := 146) rfl) rfl
  | k + 3, hk => absurd hk (Nat.not_lt.mpr (Nat.le_add_left _ _))
def R_Packer : String := "PieceRow$Packer"
def F_Packer : u_T := fun k => match k with
  | 0 => ("PieceRow$Packer", "row", "LPieceRow$Bytes;", true)
  | 1 => ("PieceRow$Packer", "out", "LPieceRow$BitWriter;", true)
  | 2 => ("PieceRow$Packer", "matches", "LPieceRow$Matches;", true)
  | 3 => ("PieceRow$Packer", "lists", "LPieceRow$Lists;", true)
  | 4 => ("PieceRow$Packer", "header", "LPieceRow$Header;", true)
  | 5 => ("PieceRow$Packer", "tokens", "[I", true)
  | 6 => ("PieceRow$Packer", "symbolCounts", "[I", true)
  | 7 => ("PieceRow$Packer", "distanceCounts", "[I", true)
  | 8 => ("PieceRow$Packer", "fixedSymbols", "LPieceRow$Code;", true)
  | 9 => ("PieceRow$Packer", "fixedDistances", "LPieceRow$Code;", true)
  | 10 => ("PieceRow$Packer", "madeSymbols", "LPieceRow$Code;", true)
  | 11 => ("PieceRow$Packer", "madeDistances", "LPieceRow$Code;", true)
  | 12 => ("PieceRow$Packer", "tokenCount", "I", false)
  | _ => ("PieceRow$Packer", "extraBits", "I", false)
def t_Packer : Nat → FieldType := fun k => match k with
  | 0 => (.object "PieceRow$Bytes")
  | 1 => (.object "PieceRow$BitWriter")
  | 2 => (.object "PieceRow$Matches")
  | 3 => (.object "PieceRow$Lists")
  | 4 => (.object "PieceRow$Header")
  | 5 => (.array .int)
  | 6 => (.array .int)
  | 7 => (.array .int)
  | 8 => (.object "PieceRow$Code")
  | 9 => (.object "PieceRow$Code")
  | 10 => (.object "PieceRow$Code")
  | 11 => (.object "PieceRow$Code")
  | 12 => .int
  | _ => .int
theorem n_Packer : ∀ a, a < 14 → ∀ b, b < 14 → a ≠ b → (F_Packer a).2.1 ≠ (F_Packer b).2.1 := by decide +kernel
theorem t_Packer_ok : ∀ k, k < 14 → parseFieldDescriptor (F_Packer k).2.2.1 = some (t_Packer k) := by decide +kernel
set_option maxRecDepth 100000 in
theorem i_Packer : ∀ w ∈ u_ws R_Packer F_Packer 14, w ∈ x_tb := x_lay fun k hk => match k, hk with
  | 0, _ => x_in (List.mem_of_getElem? (i := 263) rfl) rfl
  | 1, _ => x_in (List.mem_of_getElem? (i := 265) rfl) rfl
  | 2, _ => x_in (List.mem_of_getElem? (i := 267) rfl) rfl
  | 3, _ => x_in (List.mem_of_getElem? (i := 269) rfl) rfl
  | 4, _ => x_in (List.mem_of_getElem? (i := 271) rfl) rfl
  | 5, _ => x_in (List.mem_of_getElem? (i := 273) rfl) rfl
  | 6, _ => x_in (List.mem_of_getElem? (i := 275) rfl) rfl
  | 7, _ => x_in (List.mem_of_getElem? (i := 277) rfl) rfl
  | 8, _ => x_in (List.mem_of_getElem? (i := 279) rfl) rfl
  | 9, _ => x_in (List.mem_of_getElem? (i := 281) rfl) rfl
  | 10, _ => x_in (List.mem_of_getElem? (i := 283) rfl) rfl
  | 11, _ => x_in (List.mem_of_getElem? (i := 285) rfl) rfl
  | 12, _ => x_in (List.mem_of_getElem? (i := 287) rfl) rfl
  | 13, _ => x_in (List.mem_of_getElem? (i := 289) rfl) rfl
  | k + 14, hk => absurd hk (Nat.not_lt.mpr (Nat.le_add_left _ _))
def R_Table : String := "PieceRow$Table"
def F_Table : u_T := fun k => match k with
  | 0 => ("PieceRow$Table", "counts", "[I", true)
  | 1 => ("PieceRow$Table", "offsets", "[I", true)
  | _ => ("PieceRow$Table", "symbols", "[I", true)
def t_Table : Nat → FieldType := fun k => match k with
  | 0 => (.array .int)
  | 1 => (.array .int)
  | _ => (.array .int)
theorem n_Table : ∀ a, a < 3 → ∀ b, b < 3 → a ≠ b → (F_Table a).2.1 ≠ (F_Table b).2.1 := by decide +kernel
theorem t_Table_ok : ∀ k, k < 3 → parseFieldDescriptor (F_Table k).2.2.1 = some (t_Table k) := by decide +kernel
set_option maxRecDepth 100000 in
theorem i_Table : ∀ w ∈ u_ws R_Table F_Table 3, w ∈ x_tb := x_lay fun k hk => match k, hk with
  | 0, _ => x_in (List.mem_of_getElem? (i := 325) rfl) rfl
  | 1, _ => x_in (List.mem_of_getElem? (i := 327) rfl) rfl
  | 2, _ => x_in (List.mem_of_getElem? (i := 329) rfl) rfl
  | k + 3, hk => absurd hk (Nat.not_lt.mpr (Nat.le_add_left _ _))
def R_Unpacker : String := "PieceRow$Unpacker"
def F_Unpacker : u_T := fun k => match k with
  | 0 => ("PieceRow$Unpacker", "in", "LPieceRow$BitReader;", true)
  | 1 => ("PieceRow$Unpacker", "out", "LPieceRow$Bytes;", true)
  | 2 => ("PieceRow$Unpacker", "fixedSymbols", "LPieceRow$Table;", true)
  | 3 => ("PieceRow$Unpacker", "fixedDistances", "LPieceRow$Table;", true)
  | 4 => ("PieceRow$Unpacker", "madeSymbols", "LPieceRow$Table;", true)
  | 5 => ("PieceRow$Unpacker", "madeDistances", "LPieceRow$Table;", true)
  | 6 => ("PieceRow$Unpacker", "lengthCodes", "LPieceRow$Table;", true)
  | 7 => ("PieceRow$Unpacker", "lengths", "[I", true)
  | 8 => ("PieceRow$Unpacker", "outStart", "I", false)
  | _ => ("PieceRow$Unpacker", "farthest", "I", false)
def t_Unpacker : Nat → FieldType := fun k => match k with
  | 0 => (.object "PieceRow$BitReader")
  | 1 => (.object "PieceRow$Bytes")
  | 2 => (.object "PieceRow$Table")
  | 3 => (.object "PieceRow$Table")
  | 4 => (.object "PieceRow$Table")
  | 5 => (.object "PieceRow$Table")
  | 6 => (.object "PieceRow$Table")
  | 7 => (.array .int)
  | 8 => .int
  | _ => .int
theorem n_Unpacker : ∀ a, a < 10 → ∀ b, b < 10 → a ≠ b → (F_Unpacker a).2.1 ≠ (F_Unpacker b).2.1 := by decide +kernel
theorem t_Unpacker_ok : ∀ k, k < 10 → parseFieldDescriptor (F_Unpacker k).2.2.1 = some (t_Unpacker k) := by decide +kernel
set_option maxRecDepth 100000 in
theorem i_Unpacker : ∀ w ∈ u_ws R_Unpacker F_Unpacker 10, w ∈ x_tb := x_lay fun k hk => match k, hk with
  | 0, _ => x_in (List.mem_of_getElem? (i := 353) rfl) rfl
  | 1, _ => x_in (List.mem_of_getElem? (i := 355) rfl) rfl
  | 2, _ => x_in (List.mem_of_getElem? (i := 357) rfl) rfl
  | 3, _ => x_in (List.mem_of_getElem? (i := 359) rfl) rfl
  | 4, _ => x_in (List.mem_of_getElem? (i := 361) rfl) rfl
  | 5, _ => x_in (List.mem_of_getElem? (i := 363) rfl) rfl
  | 6, _ => x_in (List.mem_of_getElem? (i := 365) rfl) rfl
  | 7, _ => x_in (List.mem_of_getElem? (i := 367) rfl) rfl
  | 8, _ => x_in (List.mem_of_getElem? (i := 369) rfl) rfl
  | 9, _ => x_in (List.mem_of_getElem? (i := 371) rfl) rfl
  | k + 10, hk => absurd hk (Nat.not_lt.mpr (Nat.le_add_left _ _))
def R_P : String := "PieceRow"
def F_P : u_T := fun k => match k with
  | 0 => ("PieceRow", "piece", "LPieceRow$Bytes;", true)
  | 1 => ("PieceRow", "image", "LPieceRow$Bytes;", true)
  | 2 => ("PieceRow", "packer", "LPieceRow$Packer;", true)
  | 3 => ("PieceRow", "pieces", "I", false)
  | 4 => ("PieceRow", "plain", "Z", false)
  | 5 => ("PieceRow", "closed", "Z", false)
  | 6 => ("PieceRow", "known", "LPieceRow$Bytes;", true)
  | 7 => ("PieceRow", "knownStarts", "[I", true)
  | 8 => ("PieceRow", "unpacker", "LPieceRow$Unpacker;", true)
  | _ => ("PieceRow", "knownPieces", "I", false)
def t_P : Nat → FieldType := fun k => match k with
  | 0 => (.object "PieceRow$Bytes")
  | 1 => (.object "PieceRow$Bytes")
  | 2 => (.object "PieceRow$Packer")
  | 3 => .int
  | 4 => .boolean
  | 5 => .boolean
  | 6 => (.object "PieceRow$Bytes")
  | 7 => (.array .int)
  | 8 => (.object "PieceRow$Unpacker")
  | _ => .int
theorem n_P : ∀ a, a < 10 → ∀ b, b < 10 → a ≠ b → (F_P a).2.1 ≠ (F_P b).2.1 := by decide +kernel
theorem t_P_ok : ∀ k, k < 10 → parseFieldDescriptor (F_P k).2.2.1 = some (t_P k) := by decide +kernel
set_option maxRecDepth 100000 in
theorem i_P : ∀ w ∈ u_ws R_P F_P 10, w ∈ x_tb := x_lay fun k hk => match k, hk with
  | 0, _ => x_in (List.mem_of_getElem? (i := 384) rfl) rfl
  | 1, _ => x_in (List.mem_of_getElem? (i := 386) rfl) rfl
  | 2, _ => x_in (List.mem_of_getElem? (i := 388) rfl) rfl
  | 3, _ => x_in (List.mem_of_getElem? (i := 390) rfl) rfl
  | 4, _ => x_in (List.mem_of_getElem? (i := 392) rfl) rfl
  | 5, _ => x_in (List.mem_of_getElem? (i := 394) rfl) rfl
  | 6, _ => x_in (List.mem_of_getElem? (i := 396) rfl) rfl
  | 7, _ => x_in (List.mem_of_getElem? (i := 398) rfl) rfl
  | 8, _ => x_in (List.mem_of_getElem? (i := 400) rfl) rfl
  | 9, _ => x_in (List.mem_of_getElem? (i := 402) rfl) rfl
  | k + 10, hk => absurd hk (Nat.not_lt.mpr (Nat.le_add_left _ _))
def R_Tree : String := "PieceRowModel$Tree"
def F_Tree : u_T := fun k => match k with
  | 0 => ("PieceRowModel$Tree", "next", "[I", true)
  | _ => ("PieceRowModel$Tree", "nodes", "I", false)
def t_Tree : Nat → FieldType := fun k => match k with
  | 0 => (.array .int)
  | _ => .int
theorem n_Tree : ∀ a, a < 2 → ∀ b, b < 2 → a ≠ b → (F_Tree a).2.1 ≠ (F_Tree b).2.1 := by decide +kernel
theorem t_Tree_ok : ∀ k, k < 2 → parseFieldDescriptor (F_Tree k).2.2.1 = some (t_Tree k) := by decide +kernel
set_option maxRecDepth 100000 in
theorem i_Tree : ∀ w ∈ u_ws R_Tree F_Tree 2, w ∈ x_tb := x_lay fun k hk => match k, hk with
  | 0, _ => x_in (List.mem_of_getElem? (i := 790) rfl) rfl
  | 1, _ => x_in (List.mem_of_getElem? (i := 792) rfl) rfl
  | k + 2, hk => absurd hk (Nat.not_lt.mpr (Nat.le_add_left _ _))
def R_M : String := "PieceRowModel"
def F_M : u_T := fun k => match k with
  | 0 => ("PieceRowModel", "plain", "Z", false)
  | 1 => ("PieceRowModel", "closed", "Z", false)
  | 2 => ("PieceRowModel", "rowSize", "I", false)
  | 3 => ("PieceRowModel", "row", "[B", true)
  | 4 => ("PieceRowModel", "pieces", "I", false)
  | 5 => ("PieceRowModel", "starts", "[I", true)
  | 6 => ("PieceRowModel", "imageSize", "I", false)
  | 7 => ("PieceRowModel", "image", "[B", true)
  | 8 => ("PieceRowModel", "readSize", "I", false)
  | 9 => ("PieceRowModel", "readRow", "[B", true)
  | 10 => ("PieceRowModel", "readPieces", "I", false)
  | 11 => ("PieceRowModel", "readStart", "[I", true)
  | 12 => ("PieceRowModel", "readAt", "[I", true)
  | 13 => ("PieceRowModel", "readMany", "[I", true)
  | 14 => ("PieceRowModel", "piece", "[B", true)
  | 15 => ("PieceRowModel", "packed", "[B", true)
  | 16 => ("PieceRowModel", "packedBits", "I", false)
  | 17 => ("PieceRowModel", "pairBefore", "[I", true)
  | 18 => ("PieceRowModel", "pairLast", "[I", true)
  | 19 => ("PieceRowModel", "tokens", "I", false)
  | 20 => ("PieceRowModel", "tokenLength", "[I", true)
  | 21 => ("PieceRowModel", "tokenValue", "[I", true)
  | 22 => ("PieceRowModel", "counts", "[I", true)
  | 23 => ("PieceRowModel", "lengths", "[I", true)
  | 24 => ("PieceRowModel", "fixed", "[I", true)
  | 25 => ("PieceRowModel", "ranked", "[I", true)
  | 26 => ("PieceRowModel", "weight", "[I", true)
  | 27 => ("PieceRowModel", "weightBefore", "[I", true)
  | 28 => ("PieceRowModel", "items", "[I", true)
  | 29 => ("PieceRowModel", "lengthRow", "[I", true)
  | 30 => ("PieceRowModel", "steps", "I", false)
  | 31 => ("PieceRowModel", "step", "[I", true)
  | 32 => ("PieceRowModel", "stepMore", "[I", true)
  | 33 => ("PieceRowModel", "codes", "[I", true)
  | 34 => ("PieceRowModel", "symbolTree", "LPieceRowModel$Tree;", true)
  | 35 => ("PieceRowModel", "distanceTree", "LPieceRowModel$Tree;", true)
  | 36 => ("PieceRowModel", "smallTree", "LPieceRowModel$Tree;", true)
  | 37 => ("PieceRowModel", "readLengths", "[I", true)
  | 38 => ("PieceRowModel", "source", "[B", false)
  | 39 => ("PieceRowModel", "sourceFrom", "I", false)
  | 40 => ("PieceRowModel", "sourceBits", "I", false)
  | 41 => ("PieceRowModel", "readBits", "I", false)
  | 42 => ("PieceRowModel", "wrong", "Z", false)
  | 43 => ("PieceRowModel", "target", "[B", false)
  | 44 => ("PieceRowModel", "made", "I", false)
  | _ => ("PieceRowModel", "room", "I", false)
def t_M : Nat → FieldType := fun k => match k with
  | 0 => .boolean
  | 1 => .boolean
  | 2 => .int
  | 3 => (.array .byte)
  | 4 => .int
  | 5 => (.array .int)
  | 6 => .int
  | 7 => (.array .byte)
  | 8 => .int
  | 9 => (.array .byte)
  | 10 => .int
  | 11 => (.array .int)
  | 12 => (.array .int)
  | 13 => (.array .int)
  | 14 => (.array .byte)
  | 15 => (.array .byte)
  | 16 => .int
  | 17 => (.array .int)
  | 18 => (.array .int)
  | 19 => .int
  | 20 => (.array .int)
  | 21 => (.array .int)
  | 22 => (.array .int)
  | 23 => (.array .int)
  | 24 => (.array .int)
  | 25 => (.array .int)
  | 26 => (.array .int)
  | 27 => (.array .int)
  | 28 => (.array .int)
  | 29 => (.array .int)
  | 30 => .int
  | 31 => (.array .int)
  | 32 => (.array .int)
  | 33 => (.array .int)
  | 34 => (.object "PieceRowModel$Tree")
  | 35 => (.object "PieceRowModel$Tree")
  | 36 => (.object "PieceRowModel$Tree")
  | 37 => (.array .int)
  | 38 => (.array .byte)
  | 39 => .int
  | 40 => .int
  | 41 => .int
  | 42 => .boolean
  | 43 => (.array .byte)
  | 44 => .int
  | _ => .int
theorem n_M : ∀ a, a < 46 → ∀ b, b < 46 → a ≠ b → (F_M a).2.1 ≠ (F_M b).2.1 := by decide +kernel
theorem t_M_ok : ∀ k, k < 46 → parseFieldDescriptor (F_M k).2.2.1 = some (t_M k) := by decide +kernel
set_option maxRecDepth 100000 in
theorem i_M : ∀ w ∈ u_ws R_M F_M 46, w ∈ x_tb := x_lay fun k hk => match k, hk with
  | 0, _ => x_in (List.mem_of_getElem? (i := 841) rfl) rfl
  | 1, _ => x_in (List.mem_of_getElem? (i := 843) rfl) rfl
  | 2, _ => x_in (List.mem_of_getElem? (i := 845) rfl) rfl
  | 3, _ => x_in (List.mem_of_getElem? (i := 847) rfl) rfl
  | 4, _ => x_in (List.mem_of_getElem? (i := 849) rfl) rfl
  | 5, _ => x_in (List.mem_of_getElem? (i := 851) rfl) rfl
  | 6, _ => x_in (List.mem_of_getElem? (i := 853) rfl) rfl
  | 7, _ => x_in (List.mem_of_getElem? (i := 855) rfl) rfl
  | 8, _ => x_in (List.mem_of_getElem? (i := 857) rfl) rfl
  | 9, _ => x_in (List.mem_of_getElem? (i := 859) rfl) rfl
  | 10, _ => x_in (List.mem_of_getElem? (i := 861) rfl) rfl
  | 11, _ => x_in (List.mem_of_getElem? (i := 863) rfl) rfl
  | 12, _ => x_in (List.mem_of_getElem? (i := 865) rfl) rfl
  | 13, _ => x_in (List.mem_of_getElem? (i := 867) rfl) rfl
  | 14, _ => x_in (List.mem_of_getElem? (i := 869) rfl) rfl
  | 15, _ => x_in (List.mem_of_getElem? (i := 871) rfl) rfl
  | 16, _ => x_in (List.mem_of_getElem? (i := 873) rfl) rfl
  | 17, _ => x_in (List.mem_of_getElem? (i := 875) rfl) rfl
  | 18, _ => x_in (List.mem_of_getElem? (i := 877) rfl) rfl
  | 19, _ => x_in (List.mem_of_getElem? (i := 879) rfl) rfl
  | 20, _ => x_in (List.mem_of_getElem? (i := 881) rfl) rfl
  | 21, _ => x_in (List.mem_of_getElem? (i := 883) rfl) rfl
  | 22, _ => x_in (List.mem_of_getElem? (i := 885) rfl) rfl
  | 23, _ => x_in (List.mem_of_getElem? (i := 887) rfl) rfl
  | 24, _ => x_in (List.mem_of_getElem? (i := 889) rfl) rfl
  | 25, _ => x_in (List.mem_of_getElem? (i := 891) rfl) rfl
  | 26, _ => x_in (List.mem_of_getElem? (i := 893) rfl) rfl
  | 27, _ => x_in (List.mem_of_getElem? (i := 895) rfl) rfl
  | 28, _ => x_in (List.mem_of_getElem? (i := 897) rfl) rfl
  | 29, _ => x_in (List.mem_of_getElem? (i := 899) rfl) rfl
  | 30, _ => x_in (List.mem_of_getElem? (i := 901) rfl) rfl
  | 31, _ => x_in (List.mem_of_getElem? (i := 903) rfl) rfl
  | 32, _ => x_in (List.mem_of_getElem? (i := 905) rfl) rfl
  | 33, _ => x_in (List.mem_of_getElem? (i := 907) rfl) rfl
  | 34, _ => x_in (List.mem_of_getElem? (i := 909) rfl) rfl
  | 35, _ => x_in (List.mem_of_getElem? (i := 911) rfl) rfl
  | 36, _ => x_in (List.mem_of_getElem? (i := 913) rfl) rfl
  | 37, _ => x_in (List.mem_of_getElem? (i := 915) rfl) rfl
  | 38, _ => x_in (List.mem_of_getElem? (i := 917) rfl) rfl
  | 39, _ => x_in (List.mem_of_getElem? (i := 919) rfl) rfl
  | 40, _ => x_in (List.mem_of_getElem? (i := 921) rfl) rfl
  | 41, _ => x_in (List.mem_of_getElem? (i := 923) rfl) rfl
  | 42, _ => x_in (List.mem_of_getElem? (i := 925) rfl) rfl
  | 43, _ => x_in (List.mem_of_getElem? (i := 927) rfl) rfl
  | 44, _ => x_in (List.mem_of_getElem? (i := 929) rfl) rfl
  | 45, _ => x_in (List.mem_of_getElem? (i := 931) rfl) rfl
  | k + 46, hk => absurd hk (Nat.not_lt.mpr (Nat.le_add_left _ _))
def R_Arr : String := "java/util/Arrays"
def R_Law : String := "PieceRowLaw"
abbrev vwCl : List vw_C := [(R_BitReader, F_BitReader, 3), (R_BitWriter, F_BitWriter, 4), (R_Bytes, F_Bytes, 2), (R_Code, F_Code, 3), (R_Header, F_Header, 10), (R_Lists, F_Lists, 6), (R_Matches, F_Matches, 3), (R_Packer, F_Packer, 14), (R_Table, F_Table, 3), (R_Unpacker, F_Unpacker, 10), (R_P, F_P, 10), (R_Tree, F_Tree, 2), (R_M, F_M, 46)]
abbrev b_P_init : ByteArray := prog_1_method_1_code
def y_P_init : MethodName := ⟨R_P, "<init>", "()V"⟩
abbrev b_P_begin : ByteArray := prog_1_method_2_code
def y_P_begin : MethodName := ⟨R_P, "begin", "(Z)V"⟩
abbrev b_P_put : ByteArray := prog_1_method_3_code
def y_P_put : MethodName := ⟨R_P, "put", "(JI)I"⟩
abbrev b_P_fill : ByteArray := prog_1_method_4_code
def y_P_fill : MethodName := ⟨R_P, "fill", "(III)I"⟩
abbrev b_P_reference : ByteArray := prog_1_method_5_code
def y_P_reference : MethodName := ⟨R_P, "reference", "()J"⟩
abbrev b_P_close : ByteArray := prog_1_method_6_code
def y_P_close : MethodName := ⟨R_P, "close", "()I"⟩
abbrev b_P_size : ByteArray := prog_1_method_7_code
def y_P_size : MethodName := ⟨R_P, "size", "(I)I"⟩
abbrev b_P_word : ByteArray := prog_1_method_8_code
def y_P_word : MethodName := ⟨R_P, "word", "(I)J"⟩
abbrev b_P_patch : ByteArray := prog_1_method_9_code
def y_P_patch : MethodName := ⟨R_P, "patch", "(II)I"⟩
abbrev b_P_cut : ByteArray := prog_1_method_10_code
def y_P_cut : MethodName := ⟨R_P, "cut", "(I)I"⟩
abbrev b_P_read : ByteArray := prog_1_method_11_code
def y_P_read : MethodName := ⟨R_P, "read", "()I"⟩
abbrev b_P_byteAt : ByteArray := prog_1_method_12_code
def y_P_byteAt : MethodName := ⟨R_P, "byteAt", "(J)I"⟩
abbrev b_P_start : ByteArray := prog_1_method_13_code
def y_P_start : MethodName := ⟨R_P, "start", "(I)I"⟩
abbrev b_P_openLength : ByteArray := prog_1_method_14_code
def y_P_openLength : MethodName := ⟨R_P, "openLength", "()I"⟩
abbrev b_P_closePiece : ByteArray := prog_1_method_15_code
def y_P_closePiece : MethodName := ⟨R_P, "closePiece", "()V"⟩
abbrev b_P_addHead : ByteArray := prog_1_method_16_code
def y_P_addHead : MethodName := ⟨R_P, "addHead", "(I)V"⟩
abbrev b_P_headAt : ByteArray := prog_1_method_17_code
def y_P_headAt : MethodName := ⟨R_P, "headAt", "(I)I"⟩
abbrev b_P_bytesTold : ByteArray := prog_1_method_18_code
def y_P_bytesTold : MethodName := ⟨R_P, "bytesTold", "(I)I"⟩
abbrev b_P_findPieces : ByteArray := prog_1_method_19_code
def y_P_findPieces : MethodName := ⟨R_P, "findPieces", "()I"⟩
abbrev b_P_readPieces : ByteArray := prog_1_method_20_code
def y_P_readPieces : MethodName := ⟨R_P, "readPieces", "(I)Z"⟩
abbrev b_P_checkOf : ByteArray := prog_1_method_21_code
def y_P_checkOf : MethodName := ⟨R_P, "checkOf", "(LPieceRow$Bytes;I)I"⟩
abbrev b_P_fixedLength : ByteArray := prog_1_method_22_code
def y_P_fixedLength : MethodName := ⟨R_P, "fixedLength", "(I)I"⟩
abbrev b_P_lengthSymbol : ByteArray := prog_1_method_23_code
def y_P_lengthSymbol : MethodName := ⟨R_P, "lengthSymbol", "(I)I"⟩
abbrev b_P_lengthExtra : ByteArray := prog_1_method_24_code
def y_P_lengthExtra : MethodName := ⟨R_P, "lengthExtra", "(I)I"⟩
abbrev b_P_lengthBase : ByteArray := prog_1_method_25_code
def y_P_lengthBase : MethodName := ⟨R_P, "lengthBase", "(I)I"⟩
abbrev b_P_distanceSymbol : ByteArray := prog_1_method_26_code
def y_P_distanceSymbol : MethodName := ⟨R_P, "distanceSymbol", "(I)I"⟩
abbrev b_P_distanceExtra : ByteArray := prog_1_method_27_code
def y_P_distanceExtra : MethodName := ⟨R_P, "distanceExtra", "(I)I"⟩
abbrev b_P_distanceBase : ByteArray := prog_1_method_28_code
def y_P_distanceBase : MethodName := ⟨R_P, "distanceBase", "(I)I"⟩
abbrev b_P_repeatExtra : ByteArray := prog_1_method_29_code
def y_P_repeatExtra : MethodName := ⟨R_P, "repeatExtra", "(I)I"⟩
abbrev b_P_repeatBase : ByteArray := prog_1_method_30_code
def y_P_repeatBase : MethodName := ⟨R_P, "repeatBase", "(I)I"⟩
abbrev b_M_init : ByteArray := prog_13_method_1_code
def y_M_init : MethodName := ⟨R_M, "<init>", "()V"⟩
abbrev b_M_lengthBits : ByteArray := prog_13_method_2_code
def y_M_lengthBits : MethodName := ⟨R_M, "lengthBits", "(I)I"⟩
abbrev b_M_lengthBase : ByteArray := prog_13_method_3_code
def y_M_lengthBase : MethodName := ⟨R_M, "lengthBase", "(I)I"⟩
abbrev b_M_distanceBits : ByteArray := prog_13_method_4_code
def y_M_distanceBits : MethodName := ⟨R_M, "distanceBits", "(I)I"⟩
abbrev b_M_distanceBase : ByteArray := prog_13_method_5_code
def y_M_distanceBase : MethodName := ⟨R_M, "distanceBase", "(I)I"⟩
abbrev b_M_lengthSymbol : ByteArray := prog_13_method_6_code
def y_M_lengthSymbol : MethodName := ⟨R_M, "lengthSymbol", "(I)I"⟩
abbrev b_M_distanceSymbol : ByteArray := prog_13_method_7_code
def y_M_distanceSymbol : MethodName := ⟨R_M, "distanceSymbol", "(I)I"⟩
abbrev b_M_smallOrder : ByteArray := prog_13_method_8_code
def y_M_smallOrder : MethodName := ⟨R_M, "smallOrder", "(I)I"⟩
abbrev b_M_writeBit : ByteArray := prog_13_method_9_code
def y_M_writeBit : MethodName := ⟨R_M, "writeBit", "(I)V"⟩
abbrev b_M_writeNumber : ByteArray := prog_13_method_10_code
def y_M_writeNumber : MethodName := ⟨R_M, "writeNumber", "(II)V"⟩
abbrev b_M_codeOf : ByteArray := prog_13_method_11_code
def y_M_codeOf : MethodName := ⟨R_M, "codeOf", "([IIII)I"⟩
abbrev b_M_makeCodes : ByteArray := prog_13_method_12_code
def y_M_makeCodes : MethodName := ⟨R_M, "makeCodes", "([III)V"⟩
abbrev b_M_writeCode : ByteArray := prog_13_method_13_code
def y_M_writeCode : MethodName := ⟨R_M, "writeCode", "([II)V"⟩
abbrev b_M_notePairs : ByteArray := prog_13_method_14_code
def y_M_notePairs : MethodName := ⟨R_M, "notePairs", "([BII)V"⟩
abbrev b_M_cutPart : ByteArray := prog_13_method_15_code
def y_M_cutPart : MethodName := ⟨R_M, "cutPart", "([BIII)V"⟩
abbrev b_M_countTokens : ByteArray := prog_13_method_16_code
def y_M_countTokens : MethodName := ⟨R_M, "countTokens", "()V"⟩
abbrev b_M_rank : ByteArray := prog_13_method_17_code
def y_M_rank : MethodName := ⟨R_M, "rank", "(II)I"⟩
abbrev b_M_findLengths : ByteArray := prog_13_method_18_code
def y_M_findLengths : MethodName := ⟨R_M, "findLengths", "(III)V"⟩
abbrev b_M_takeItem : ByteArray := prog_13_method_19_code
def y_M_takeItem : MethodName := ⟨R_M, "takeItem", "(III)V"⟩
abbrev b_M_tell : ByteArray := prog_13_method_20_code
def y_M_tell : MethodName := ⟨R_M, "tell", "(II)V"⟩
abbrev b_M_tellRow : ByteArray := prog_13_method_21_code
def y_M_tellRow : MethodName := ⟨R_M, "tellRow", "(I)V"⟩
abbrev b_M_stepBits : ByteArray := prog_13_method_22_code
def y_M_stepBits : MethodName := ⟨R_M, "stepBits", "(I)I"⟩
abbrev b_M_needed : ByteArray := prog_13_method_23_code
def y_M_needed : MethodName := ⟨R_M, "needed", "(III)I"⟩
abbrev b_M_bitsBy : ByteArray := prog_13_method_24_code
def y_M_bitsBy : MethodName := ⟨R_M, "bitsBy", "([I)I"⟩
abbrev b_M_writeTokens : ByteArray := prog_13_method_25_code
def y_M_writeTokens : MethodName := ⟨R_M, "writeTokens", "([I)V"⟩
abbrev b_M_makeFixed : ByteArray := prog_13_method_26_code
def y_M_makeFixed : MethodName := ⟨R_M, "makeFixed", "()V"⟩
abbrev b_M_packPart : ByteArray := prog_13_method_27_code
def y_M_packPart : MethodName := ⟨R_M, "packPart", "([BIIIZ)V"⟩
abbrev b_M_endByte : ByteArray := prog_13_method_28_code
def y_M_endByte : MethodName := ⟨R_M, "endByte", "()V"⟩
abbrev b_M_checkOf : ByteArray := prog_13_method_29_code
def y_M_checkOf : MethodName := ⟨R_M, "checkOf", "([BII)J"⟩
abbrev b_M_pack : ByteArray := prog_13_method_30_code
def y_M_pack : MethodName := ⟨R_M, "pack", "([BII)I"⟩
abbrev b_M_readBit : ByteArray := prog_13_method_31_code
def y_M_readBit : MethodName := ⟨R_M, "readBit", "()I"⟩
abbrev b_M_readNumber : ByteArray := prog_13_method_32_code
def y_M_readNumber : MethodName := ⟨R_M, "readNumber", "(I)I"⟩
abbrev b_M_readSymbol : ByteArray := prog_13_method_33_code
def y_M_readSymbol : MethodName := ⟨R_M, "readSymbol", "(LPieceRowModel$Tree;)I"⟩
abbrev b_M_toByte : ByteArray := prog_13_method_34_code
def y_M_toByte : MethodName := ⟨R_M, "toByte", "()V"⟩
abbrev b_M_makeByte : ByteArray := prog_13_method_35_code
def y_M_makeByte : MethodName := ⟨R_M, "makeByte", "(I)V"⟩
abbrev b_M_readStored : ByteArray := prog_13_method_36_code
def y_M_readStored : MethodName := ⟨R_M, "readStored", "()V"⟩
abbrev b_M_readMade : ByteArray := prog_13_method_37_code
def y_M_readMade : MethodName := ⟨R_M, "readMade", "()V"⟩
abbrev b_M_readSymbols : ByteArray := prog_13_method_38_code
def y_M_readSymbols : MethodName := ⟨R_M, "readSymbols", "(I)V"⟩
abbrev b_M_unpack : ByteArray := prog_13_method_39_code
def y_M_unpack : MethodName := ⟨R_M, "unpack", "([BII[BI)I"⟩
abbrev b_M_begin : ByteArray := prog_13_method_40_code
def y_M_begin : MethodName := ⟨R_M, "begin", "(Z)V"⟩
abbrev b_M_add : ByteArray := prog_13_method_41_code
def y_M_add : MethodName := ⟨R_M, "add", "(I)V"⟩
abbrev b_M_closePiece : ByteArray := prog_13_method_42_code
def y_M_closePiece : MethodName := ⟨R_M, "closePiece", "()V"⟩
abbrev b_M_putByte : ByteArray := prog_13_method_43_code
def y_M_putByte : MethodName := ⟨R_M, "putByte", "(I)V"⟩
abbrev b_M_put : ByteArray := prog_13_method_44_code
def y_M_put : MethodName := ⟨R_M, "put", "(JI)I"⟩
abbrev b_M_fill : ByteArray := prog_13_method_45_code
def y_M_fill : MethodName := ⟨R_M, "fill", "(III)I"⟩
abbrev b_M_reference : ByteArray := prog_13_method_46_code
def y_M_reference : MethodName := ⟨R_M, "reference", "()J"⟩
abbrev b_M_close : ByteArray := prog_13_method_47_code
def y_M_close : MethodName := ⟨R_M, "close", "()I"⟩
abbrev b_M_size : ByteArray := prog_13_method_48_code
def y_M_size : MethodName := ⟨R_M, "size", "(I)I"⟩
abbrev b_M_word : ByteArray := prog_13_method_49_code
def y_M_word : MethodName := ⟨R_M, "word", "(I)J"⟩
abbrev b_M_patch : ByteArray := prog_13_method_50_code
def y_M_patch : MethodName := ⟨R_M, "patch", "(II)I"⟩
abbrev b_M_cut : ByteArray := prog_13_method_51_code
def y_M_cut : MethodName := ⟨R_M, "cut", "(I)I"⟩
abbrev b_M_headAt : ByteArray := prog_13_method_52_code
def y_M_headAt : MethodName := ⟨R_M, "headAt", "(I)I"⟩
abbrev b_M_areHeads : ByteArray := prog_13_method_53_code
def y_M_areHeads : MethodName := ⟨R_M, "areHeads", "()Z"⟩
abbrev b_M_readAll : ByteArray := prog_13_method_54_code
def y_M_readAll : MethodName := ⟨R_M, "readAll", "()Z"⟩
abbrev b_M_read : ByteArray := prog_13_method_55_code
def y_M_read : MethodName := ⟨R_M, "read", "()I"⟩
abbrev b_M_byteAt : ByteArray := prog_13_method_56_code
def y_M_byteAt : MethodName := ⟨R_M, "byteAt", "(J)I"⟩
abbrev b_M_start : ByteArray := prog_13_method_57_code
def y_M_start : MethodName := ⟨R_M, "start", "(I)I"⟩
abbrev b_BitReader_init : ByteArray := prog_2_method_1_code
def y_BitReader_init : MethodName := ⟨R_BitReader, "<init>", "(LPieceRow$Bytes;)V"⟩
abbrev b_BitReader_open : ByteArray := prog_2_method_2_code
def y_BitReader_open : MethodName := ⟨R_BitReader, "open", "(II)V"⟩
abbrev b_BitReader_bitsLeft : ByteArray := prog_2_method_3_code
def y_BitReader_bitsLeft : MethodName := ⟨R_BitReader, "bitsLeft", "()I"⟩
abbrev b_BitReader_number : ByteArray := prog_2_method_4_code
def y_BitReader_number : MethodName := ⟨R_BitReader, "number", "(I)I"⟩
abbrev b_BitReader_align : ByteArray := prog_2_method_5_code
def y_BitReader_align : MethodName := ⟨R_BitReader, "align", "()V"⟩
abbrev b_BitWriter_init : ByteArray := prog_3_method_1_code
def y_BitWriter_init : MethodName := ⟨R_BitWriter, "<init>", "()V"⟩
abbrev b_BitWriter_clear : ByteArray := prog_3_method_2_code
def y_BitWriter_clear : MethodName := ⟨R_BitWriter, "clear", "()V"⟩
abbrev b_BitWriter_length : ByteArray := prog_3_method_3_code
def y_BitWriter_length : MethodName := ⟨R_BitWriter, "length", "()I"⟩
abbrev b_BitWriter_number : ByteArray := prog_3_method_4_code
def y_BitWriter_number : MethodName := ⟨R_BitWriter, "number", "(II)V"⟩
abbrev b_BitWriter_leftBehind : ByteArray := prog_3_method_5_code
def y_BitWriter_leftBehind : MethodName := ⟨R_BitWriter, "leftBehind", "(I)I"⟩
abbrev b_BitWriter_align : ByteArray := prog_3_method_6_code
def y_BitWriter_align : MethodName := ⟨R_BitWriter, "align", "()V"⟩
abbrev b_BitWriter_copyTo : ByteArray := prog_3_method_7_code
def y_BitWriter_copyTo : MethodName := ⟨R_BitWriter, "copyTo", "(LPieceRow$Bytes;)V"⟩
abbrev b_Bytes_init : ByteArray := prog_4_method_1_code
def y_Bytes_init : MethodName := ⟨R_Bytes, "<init>", "(I)V"⟩
abbrev b_Bytes_length : ByteArray := prog_4_method_2_code
def y_Bytes_length : MethodName := ⟨R_Bytes, "length", "()I"⟩
abbrev b_Bytes_at : ByteArray := prog_4_method_3_code
def y_Bytes_at : MethodName := ⟨R_Bytes, "at", "(I)I"⟩
abbrev b_Bytes_set : ByteArray := prog_4_method_4_code
def y_Bytes_set : MethodName := ⟨R_Bytes, "set", "(II)V"⟩
abbrev b_Bytes_add : ByteArray := prog_4_method_5_code
def y_Bytes_add : MethodName := ⟨R_Bytes, "add", "(I)V"⟩
abbrev b_Bytes_addAll : ByteArray := prog_4_method_6_code
def y_Bytes_addAll : MethodName := ⟨R_Bytes, "addAll", "(LPieceRow$Bytes;II)V"⟩
abbrev b_Bytes_keep : ByteArray := prog_4_method_7_code
def y_Bytes_keep : MethodName := ⟨R_Bytes, "keep", "(I)V"⟩
abbrev b_Code_init : ByteArray := prog_5_method_1_code
def y_Code_init : MethodName := ⟨R_Code, "<init>", "(I)V"⟩
abbrev b_Code_lengthOf : ByteArray := prog_5_method_2_code
def y_Code_lengthOf : MethodName := ⟨R_Code, "lengthOf", "(I)I"⟩
abbrev b_Code_assign : ByteArray := prog_5_method_3_code
def y_Code_assign : MethodName := ⟨R_Code, "assign", "()V"⟩
abbrev b_Code_turned : ByteArray := prog_5_method_4_code
def y_Code_turned : MethodName := ⟨R_Code, "turned", "(II)I"⟩
abbrev b_Code_bitsFor : ByteArray := prog_5_method_5_code
def y_Code_bitsFor : MethodName := ⟨R_Code, "bitsFor", "([I)I"⟩
abbrev b_Code_write : ByteArray := prog_5_method_6_code
def y_Code_write : MethodName := ⟨R_Code, "write", "(LPieceRow$BitWriter;I)V"⟩
abbrev b_Code_used : ByteArray := prog_5_method_7_code
def y_Code_used : MethodName := ⟨R_Code, "used", "()I"⟩
abbrev b_Header_init : ByteArray := prog_6_method_1_code
def y_Header_init : MethodName := ⟨R_Header, "<init>", "(LPieceRow$Lists;)V"⟩
abbrev b_Header_plan : ByteArray := prog_6_method_2_code
def y_Header_plan : MethodName := ⟨R_Header, "plan", "(LPieceRow$Code;LPieceRow$Code;)I"⟩
abbrev b_Header_gather : ByteArray := prog_6_method_3_code
def y_Header_gather : MethodName := ⟨R_Header, "gather", "(LPieceRow$Code;LPieceRow$Code;)V"⟩
abbrev b_Header_tellRow : ByteArray := prog_6_method_4_code
def y_Header_tellRow : MethodName := ⟨R_Header, "tellRow", "()V"⟩
abbrev b_Header_tellStretch : ByteArray := prog_6_method_5_code
def y_Header_tellStretch : MethodName := ⟨R_Header, "tellStretch", "(II)V"⟩
abbrev b_Header_tell : ByteArray := prog_6_method_6_code
def y_Header_tell : MethodName := ⟨R_Header, "tell", "(II)V"⟩
abbrev b_Header_write : ByteArray := prog_6_method_7_code
def y_Header_write : MethodName := ⟨R_Header, "write", "(LPieceRow$BitWriter;)V"⟩
abbrev b_Lists_init : ByteArray := prog_7_method_1_code
def y_Lists_init : MethodName := ⟨R_Lists, "<init>", "()V"⟩
abbrev b_Lists_fit : ByteArray := prog_7_method_2_code
def y_Lists_fit : MethodName := ⟨R_Lists, "fit", "([II[I)V"⟩
abbrev b_Lists_sort : ByteArray := prog_7_method_3_code
def y_Lists_sort : MethodName := ⟨R_Lists, "sort", "([I)V"⟩
abbrev b_Lists_insert : ByteArray := prog_7_method_4_code
def y_Lists_insert : MethodName := ⟨R_Lists, "insert", "(II)V"⟩
abbrev b_Lists_makeList : ByteArray := prog_7_method_5_code
def y_Lists_makeList : MethodName := ⟨R_Lists, "makeList", "(II)I"⟩
abbrev b_Lists_take : ByteArray := prog_7_method_6_code
def y_Lists_take : MethodName := ⟨R_Lists, "take", "(II[I)I"⟩
abbrev b_Lists_addOne : ByteArray := prog_7_method_7_code
def y_Lists_addOne : MethodName := ⟨R_Lists, "addOne", "([II)V"⟩
abbrev b_Matches_init : ByteArray := prog_8_method_1_code
def y_Matches_init : MethodName := ⟨R_Matches, "<init>", "(LPieceRow$Bytes;)V"⟩
abbrev b_Matches_chain : ByteArray := prog_8_method_2_code
def y_Matches_chain : MethodName := ⟨R_Matches, "chain", "()V"⟩
abbrev b_Matches_best : ByteArray := prog_8_method_3_code
def y_Matches_best : MethodName := ⟨R_Matches, "best", "(II)I"⟩
abbrev b_Matches_sameBytes : ByteArray := prog_8_method_4_code
def y_Matches_sameBytes : MethodName := ⟨R_Matches, "sameBytes", "(III)I"⟩
abbrev b_Packer_init : ByteArray := prog_9_method_1_code
def y_Packer_init : MethodName := ⟨R_Packer, "<init>", "(LPieceRow$Bytes;)V"⟩
abbrev b_Packer_pack : ByteArray := prog_9_method_2_code
def y_Packer_pack : MethodName := ⟨R_Packer, "pack", "()I"⟩
abbrev b_Packer_copyTo : ByteArray := prog_9_method_3_code
def y_Packer_copyTo : MethodName := ⟨R_Packer, "copyTo", "(LPieceRow$Bytes;)V"⟩
abbrev b_Packer_packPart : ByteArray := prog_9_method_4_code
def y_Packer_packPart : MethodName := ⟨R_Packer, "packPart", "(II)V"⟩
abbrev b_Packer_collectTokens : ByteArray := prog_9_method_5_code
def y_Packer_collectTokens : MethodName := ⟨R_Packer, "collectTokens", "(II)V"⟩
abbrev b_Packer_addToken : ByteArray := prog_9_method_6_code
def y_Packer_addToken : MethodName := ⟨R_Packer, "addToken", "(I)V"⟩
abbrev b_Packer_bitsWith : ByteArray := prog_9_method_7_code
def y_Packer_bitsWith : MethodName := ⟨R_Packer, "bitsWith", "(LPieceRow$Code;LPieceRow$Code;)I"⟩
abbrev b_Packer_writeStored : ByteArray := prog_9_method_8_code
def y_Packer_writeStored : MethodName := ⟨R_Packer, "writeStored", "(II)V"⟩
abbrev b_Packer_writeTokens : ByteArray := prog_9_method_9_code
def y_Packer_writeTokens : MethodName := ⟨R_Packer, "writeTokens", "(LPieceRow$Code;LPieceRow$Code;)V"⟩
abbrev b_Table_init : ByteArray := prog_10_method_1_code
def y_Table_init : MethodName := ⟨R_Table, "<init>", "(I)V"⟩
abbrev b_Table_make : ByteArray := prog_10_method_2_code
def y_Table_make : MethodName := ⟨R_Table, "make", "([IIIZ)Z"⟩
abbrev b_Table_sort : ByteArray := prog_10_method_3_code
def y_Table_sort : MethodName := ⟨R_Table, "sort", "([III)V"⟩
abbrev b_Table_next : ByteArray := prog_10_method_4_code
def y_Table_next : MethodName := ⟨R_Table, "next", "(LPieceRow$BitReader;)I"⟩
abbrev b_Unpacker_init : ByteArray := prog_11_method_1_code
def y_Unpacker_init : MethodName := ⟨R_Unpacker, "<init>", "(LPieceRow$Bytes;LPieceRow$Bytes;)V"⟩
abbrev b_Unpacker_unpack : ByteArray := prog_11_method_2_code
def y_Unpacker_unpack : MethodName := ⟨R_Unpacker, "unpack", "(II)Z"⟩
abbrev b_Unpacker_beginningHolds : ByteArray := prog_11_method_3_code
def y_Unpacker_beginningHolds : MethodName := ⟨R_Unpacker, "beginningHolds", "()Z"⟩
abbrev b_Unpacker_checkHolds : ByteArray := prog_11_method_4_code
def y_Unpacker_checkHolds : MethodName := ⟨R_Unpacker, "checkHolds", "()Z"⟩
abbrev b_Unpacker_made : ByteArray := prog_11_method_5_code
def y_Unpacker_made : MethodName := ⟨R_Unpacker, "made", "()I"⟩
abbrev b_Unpacker_copyStored : ByteArray := prog_11_method_6_code
def y_Unpacker_copyStored : MethodName := ⟨R_Unpacker, "copyStored", "()Z"⟩
abbrev b_Unpacker_makeCodes : ByteArray := prog_11_method_7_code
def y_Unpacker_makeCodes : MethodName := ⟨R_Unpacker, "makeCodes", "()Z"⟩
abbrev b_Unpacker_readLengths : ByteArray := prog_11_method_8_code
def y_Unpacker_readLengths : MethodName := ⟨R_Unpacker, "readLengths", "(I)Z"⟩
abbrev b_Unpacker_followSymbols : ByteArray := prog_11_method_9_code
def y_Unpacker_followSymbols : MethodName := ⟨R_Unpacker, "followSymbols", "(LPieceRow$Table;LPieceRow$Table;)Z"⟩
abbrev b_Unpacker_repeatBytes : ByteArray := prog_11_method_10_code
def y_Unpacker_repeatBytes : MethodName := ⟨R_Unpacker, "repeatBytes", "(ILPieceRow$Table;)Z"⟩
abbrev b_Tree_init : ByteArray := prog_14_method_1_code
def y_Tree_init : MethodName := ⟨R_Tree, "<init>", "()V"⟩
abbrev b_Tree_make : ByteArray := prog_14_method_2_code
def y_Tree_make : MethodName := ⟨R_Tree, "make", "([IIIZ)Z"⟩
abbrev b_Tree_grow : ByteArray := prog_14_method_3_code
def y_Tree_grow : MethodName := ⟨R_Tree, "grow", "(III)V"⟩
abbrev b_Arr_fill : ByteArray := prog_17_method_103_code
def y_Arr_fill : MethodName := ⟨R_Arr, "fill", "([II)V"⟩
