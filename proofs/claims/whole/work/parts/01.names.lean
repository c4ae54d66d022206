def gTb : List Cond := lw_tbl.filter goodWord
theorem gm1 {w : Cond} (h : w ∈ tables_1_1) (hg : goodWord w = true) : w ∈ gTb := List.mem_filter.mpr ⟨List.mem_append_right _ (show w ∈ tables_1 from List.mem_append_left _ h), hg⟩
theorem gm2 {w : Cond} (h : w ∈ tables_1_2) (hg : goodWord w = true) : w ∈ gTb := List.mem_filter.mpr ⟨List.mem_append_right _ (show w ∈ tables_1 from List.mem_append_right _ (List.mem_append_left _ h)), hg⟩
theorem gm3 {w : Cond} (h : w ∈ tables_1_3) (hg : goodWord w = true) : w ∈ gTb := List.mem_filter.mpr ⟨List.mem_append_right _ (show w ∈ tables_1 from List.mem_append_right _ (List.mem_append_right _ (List.mem_append_left _ h))), hg⟩
theorem gm4 {w : Cond} (h : w ∈ tables_1_4) (hg : goodWord w = true) : w ∈ gTb := List.mem_filter.mpr ⟨List.mem_append_right _ (show w ∈ tables_1 from List.mem_append_right _ (List.mem_append_right _ (List.mem_append_right _ (List.mem_append_left _ h)))), hg⟩
theorem gm5 {w : Cond} (h : w ∈ tables_1_5) (hg : goodWord w = true) : w ∈ gTb := List.mem_filter.mpr ⟨List.mem_append_right _ (show w ∈ tables_1 from List.mem_append_right _ (List.mem_append_right _ (List.mem_append_right _ (List.mem_append_right _ (h))))), hg⟩
theorem gmS {w : Cond} (h : w ∈ k2_sels lw_privs) (hg : goodWord w = true) : w ∈ gTb := List.mem_filter.mpr ⟨List.mem_append_left _ h, hg⟩
def R_E : String := "GraphPages$Elements"
def T_E : u_T := fun k => match k with
  | 0 => ("GraphPages$Elements", "count", "I", false)
  | 1 => ("GraphPages$Elements", "names", "[I", true)
  | 2 => ("GraphPages$Elements", "parents", "[I", true)
  | 3 => ("GraphPages$Elements", "children", "[I", true)
  | 4 => ("GraphPages$Elements", "attributeStarts", "[I", true)
  | 5 => ("GraphPages$Elements", "attributeCounts", "[I", true)
  | 6 => ("GraphPages$Elements", "textStarts", "[I", true)
  | 7 => ("GraphPages$Elements", "textCounts", "[I", true)
  | 8 => ("GraphPages$Elements", "attributeCount", "I", false)
  | 9 => ("GraphPages$Elements", "attributeNames", "[I", true)
  | 10 => ("GraphPages$Elements", "valueStarts", "[I", true)
  | 11 => ("GraphPages$Elements", "valueCounts", "[I", true)
  | 12 => ("GraphPages$Elements", "textCount", "I", false)
  | _ => ("GraphPages$Elements", "text", "[C", true)
def t_E : Nat → FieldType := fun k => match k with
  | 0 => .int
  | 1 => .array .int
  | 2 => .array .int
  | 3 => .array .int
  | 4 => .array .int
  | 5 => .array .int
  | 6 => .array .int
  | 7 => .array .int
  | 8 => .int
  | 9 => .array .int
  | 10 => .array .int
  | 11 => .array .int
  | 12 => .int
  | _ => .array .char
theorem n_E : ∀ a, a < 14 → ∀ b, b < 14 → a ≠ b → (T_E a).2.1 ≠ (T_E b).2.1 := by decide +kernel
theorem t_E_ok : ∀ k, k < 14 → parseFieldDescriptor (T_E k).2.2.1 = some (t_E k) := by decide +kernel
theorem tu_E : ∀ w ∈ u_ws R_E T_E 14, w ∈ gTb := by decide +kernel
def R_F : String := "GraphPages$FormReader"
def T_F : u_T := fun k => match k with
  | 0 => ("GraphPages$FormReader", "page", "LGraphPages$Page;", true)
  | 1 => ("GraphPages$FormReader", "elements", "LGraphPages$Elements;", true)
  | 2 => ("GraphPages$FormReader", "place", "I", false)
  | 3 => ("GraphPages$FormReader", "open", "I", false)
  | _ => ("GraphPages$FormReader", "depth", "I", false)
def t_F : Nat → FieldType := fun k => match k with
  | 0 => .object "GraphPages$Page"
  | 1 => .object "GraphPages$Elements"
  | 2 => .int
  | 3 => .int
  | _ => .int
theorem n_F : ∀ a, a < 5 → ∀ b, b < 5 → a ≠ b → (T_F a).2.1 ≠ (T_F b).2.1 := by decide +kernel
theorem t_F_ok : ∀ k, k < 5 → parseFieldDescriptor (T_F k).2.2.1 = some (t_F k) := by decide +kernel
theorem tu_F : ∀ w ∈ u_ws R_F T_F 5, w ∈ gTb := by decide +kernel
def R_G : String := "GraphPages$Graph"
def T_G : u_T := fun k => match k with
  | 0 => ("GraphPages$Graph", "count", "I", false)
  | 1 => ("GraphPages$Graph", "kinds", "[I", true)
  | 2 => ("GraphPages$Graph", "sizes", "[I", true)
  | 3 => ("GraphPages$Graph", "contents", "[I", true)
  | 4 => ("GraphPages$Graph", "values", "[I", true)
  | _ => ("GraphPages$Graph", "characters", "[C", true)
def t_G : Nat → FieldType := fun k => match k with
  | 0 => .int
  | 1 => .array .int
  | 2 => .array .int
  | 3 => .array .int
  | 4 => .array .int
  | _ => .array .char
theorem n_G : ∀ a, a < 6 → ∀ b, b < 6 → a ≠ b → (T_G a).2.1 ≠ (T_G b).2.1 := by decide +kernel
theorem t_G_ok : ∀ k, k < 6 → parseFieldDescriptor (T_G k).2.2.1 = some (t_G k) := by decide +kernel
theorem tu_G : ∀ w ∈ u_ws R_G T_G 6, w ∈ gTb := by decide +kernel
def R_H : String := "GraphPages$GraphReader"
def T_H : u_T := fun k => match k with
  | 0 => ("GraphPages$GraphReader", "page", "LGraphPages$Page;", true)
  | 1 => ("GraphPages$GraphReader", "elements", "LGraphPages$Elements;", true)
  | 2 => ("GraphPages$GraphReader", "graph", "LGraphPages$Graph;", true)
  | 3 => ("GraphPages$GraphReader", "objectsOfElements", "[I", true)
  | 4 => ("GraphPages$GraphReader", "objectsOfIds", "[I", true)
  | 5 => ("GraphPages$GraphReader", "nextSlots", "[I", true)
  | 6 => ("GraphPages$GraphReader", "takenSlots", "[I", true)
  | _ => ("GraphPages$GraphReader", "count", "I", false)
def t_H : Nat → FieldType := fun k => match k with
  | 0 => .object "GraphPages$Page"
  | 1 => .object "GraphPages$Elements"
  | 2 => .object "GraphPages$Graph"
  | 3 => .array .int
  | 4 => .array .int
  | 5 => .array .int
  | 6 => .array .int
  | _ => .int
theorem n_H : ∀ a, a < 8 → ∀ b, b < 8 → a ≠ b → (T_H a).2.1 ≠ (T_H b).2.1 := by decide +kernel
theorem t_H_ok : ∀ k, k < 8 → parseFieldDescriptor (T_H k).2.2.1 = some (t_H k) := by decide +kernel
theorem tu_H : ∀ w ∈ u_ws R_H T_H 8, w ∈ gTb := by decide +kernel
def R_A : String := "GraphPages$Matching"
def T_A : u_T := fun k => match k with
  | 0 => ("GraphPages$Matching", "graph", "LGraphPages$Graph;", true)
  | 1 => ("GraphPages$Matching", "partners", "[I", true)
  | 2 => ("GraphPages$Matching", "partnersBack", "[I", true)
  | 3 => ("GraphPages$Matching", "order", "[I", true)
  | _ => ("GraphPages$Matching", "count", "I", false)
def t_A : Nat → FieldType := fun k => match k with
  | 0 => .object "GraphPages$Graph"
  | 1 => .array .int
  | 2 => .array .int
  | 3 => .array .int
  | _ => .int
theorem n_A : ∀ a, a < 5 → ∀ b, b < 5 → a ≠ b → (T_A a).2.1 ≠ (T_A b).2.1 := by decide +kernel
theorem t_A_ok : ∀ k, k < 5 → parseFieldDescriptor (T_A k).2.2.1 = some (t_A k) := by decide +kernel
theorem tu_A : ∀ w ∈ u_ws R_A T_A 5, w ∈ gTb := by decide +kernel
def R_P : String := "GraphPages$Page"
def T_P : u_T := fun k => match k with
  | 0 => ("GraphPages$Page", "end", "I", false)
  | _ => ("GraphPages$Page", "characters", "[C", true)
def t_P : Nat → FieldType := fun k => match k with
  | 0 => .int
  | _ => .array .char
theorem n_P : ∀ a, a < 2 → ∀ b, b < 2 → a ≠ b → (T_P a).2.1 ≠ (T_P b).2.1 := by decide +kernel
theorem t_P_ok : ∀ k, k < 2 → parseFieldDescriptor (T_P k).2.2.1 = some (t_P k) := by decide +kernel
theorem tu_P : ∀ w ∈ u_ws R_P T_P 2, w ∈ gTb := by decide +kernel
def R_R : String := "GraphPages$Reach"
def T_R : u_T := fun k => match k with
  | 0 => ("GraphPages$Reach", "graph", "LGraphPages$Graph;", true)
  | 1 => ("GraphPages$Reach", "references", "[I", true)
  | 2 => ("GraphPages$Reach", "order", "[I", true)
  | _ => ("GraphPages$Reach", "count", "I", false)
def t_R : Nat → FieldType := fun k => match k with
  | 0 => .object "GraphPages$Graph"
  | 1 => .array .int
  | 2 => .array .int
  | _ => .int
theorem n_R : ∀ a, a < 4 → ∀ b, b < 4 → a ≠ b → (T_R a).2.1 ≠ (T_R b).2.1 := by decide +kernel
theorem t_R_ok : ∀ k, k < 4 → parseFieldDescriptor (T_R k).2.2.1 = some (t_R k) := by decide +kernel
theorem tu_R : ∀ w ∈ u_ws R_R T_R 4, w ∈ gTb := by decide +kernel
def R_W : String := "GraphPages$Writer"
def T_W : u_T := fun k => match k with
  | 0 => ("GraphPages$Writer", "graph", "LGraphPages$Graph;", true)
  | 1 => ("GraphPages$Writer", "reach", "LGraphPages$Reach;", true)
  | 2 => ("GraphPages$Writer", "page", "LGraphPages$Page;", true)
  | 3 => ("GraphPages$Writer", "ids", "[I", true)
  | 4 => ("GraphPages$Writer", "order", "[I", true)
  | _ => ("GraphPages$Writer", "count", "I", false)
def t_W : Nat → FieldType := fun k => match k with
  | 0 => .object "GraphPages$Graph"
  | 1 => .object "GraphPages$Reach"
  | 2 => .object "GraphPages$Page"
  | 3 => .array .int
  | 4 => .array .int
  | _ => .int
theorem n_W : ∀ a, a < 6 → ∀ b, b < 6 → a ≠ b → (T_W a).2.1 ≠ (T_W b).2.1 := by decide +kernel
theorem t_W_ok : ∀ k, k < 6 → parseFieldDescriptor (T_W k).2.2.1 = some (t_W k) := by decide +kernel
theorem tu_W : ∀ w ∈ u_ws R_W T_W 6, w ∈ gTb := by decide +kernel
def R_O : String := "GraphPages"
def T_O : u_T := fun k => match k with
  | 0 => ("GraphPages", "graph", "LGraphPages$Graph;", true)
  | 1 => ("GraphPages", "page", "LGraphPages$Page;", true)
  | 2 => ("GraphPages", "understood", "[Z", true)
  | 3 => ("GraphPages", "reach", "LGraphPages$Reach;", true)
  | 4 => ("GraphPages", "matching", "LGraphPages$Matching;", true)
  | 5 => ("GraphPages", "writer", "LGraphPages$Writer;", true)
  | 6 => ("GraphPages", "formReader", "LGraphPages$FormReader;", true)
  | _ => ("GraphPages", "graphReader", "LGraphPages$GraphReader;", true)
def t_O : Nat → FieldType := fun k => match k with
  | 0 => .object "GraphPages$Graph"
  | 1 => .object "GraphPages$Page"
  | 2 => .array .boolean
  | 3 => .object "GraphPages$Reach"
  | 4 => .object "GraphPages$Matching"
  | 5 => .object "GraphPages$Writer"
  | 6 => .object "GraphPages$FormReader"
  | _ => .object "GraphPages$GraphReader"
theorem n_O : ∀ a, a < 8 → ∀ b, b < 8 → a ≠ b → (T_O a).2.1 ≠ (T_O b).2.1 := by decide +kernel
theorem t_O_ok : ∀ k, k < 8 → parseFieldDescriptor (T_O k).2.2.1 = some (t_O k) := by decide +kernel
theorem tu_O : ∀ w ∈ u_ws R_O T_O 8, w ∈ gTb := by decide +kernel
def R_M : String := "GraphPagesModel"
def T_M : u_T := fun k => match k with
  | 0 => ("GraphPagesModel", "count", "I", false)
  | 1 => ("GraphPagesModel", "sort", "[I", true)
  | 2 => ("GraphPagesModel", "room", "[I", true)
  | 3 => ("GraphPagesModel", "what", "[I", true)
  | 4 => ("GraphPagesModel", "cell", "[I", true)
  | 5 => ("GraphPagesModel", "letters", "[I", true)
  | 6 => ("GraphPagesModel", "known", "[Z", true)
  | 7 => ("GraphPagesModel", "used", "I", false)
  | 8 => ("GraphPagesModel", "page", "[C", true)
  | 9 => ("GraphPagesModel", "elements", "I", false)
  | 10 => ("GraphPagesModel", "name", "[I", true)
  | 11 => ("GraphPagesModel", "parent", "[I", true)
  | 12 => ("GraphPagesModel", "firstAttr", "[I", true)
  | 13 => ("GraphPagesModel", "attrCount", "[I", true)
  | 14 => ("GraphPagesModel", "textLength", "[I", true)
  | 15 => ("GraphPagesModel", "text", "[C", true)
  | 16 => ("GraphPagesModel", "slot", "[I", true)
  | 17 => ("GraphPagesModel", "made", "[I", true)
  | 18 => ("GraphPagesModel", "attrs", "I", false)
  | 19 => ("GraphPagesModel", "attrName", "[I", true)
  | 20 => ("GraphPagesModel", "attrFrom", "[I", true)
  | 21 => ("GraphPagesModel", "attrTo", "[I", true)
  | 22 => ("GraphPagesModel", "at", "I", false)
  | 23 => ("GraphPagesModel", "open", "I", false)
  | 24 => ("GraphPagesModel", "depth", "I", false)
  | 25 => ("GraphPagesModel", "nameEnd", "I", false)
  | 26 => ("GraphPagesModel", "reached", "[Z", true)
  | 27 => ("GraphPagesModel", "refs", "[I", true)
  | 28 => ("GraphPagesModel", "id", "[I", true)
  | 29 => ("GraphPagesModel", "order", "[I", true)
  | 30 => ("GraphPagesModel", "given", "I", false)
  | 31 => ("GraphPagesModel", "pile", "[I", true)
  | 32 => ("GraphPagesModel", "piled", "I", false)
  | 33 => ("GraphPagesModel", "pair", "[I", true)
  | _ => ("GraphPagesModel", "back", "[I", true)
def t_M : Nat → FieldType := fun k => match k with
  | 0 => .int
  | 1 => .array .int
  | 2 => .array .int
  | 3 => .array .int
  | 4 => .array .int
  | 5 => .array .int
  | 6 => .array .boolean
  | 7 => .int
  | 8 => .array .char
  | 9 => .int
  | 10 => .array .int
  | 11 => .array .int
  | 12 => .array .int
  | 13 => .array .int
  | 14 => .array .int
  | 15 => .array .char
  | 16 => .array .int
  | 17 => .array .int
  | 18 => .int
  | 19 => .array .int
  | 20 => .array .int
  | 21 => .array .int
  | 22 => .int
  | 23 => .int
  | 24 => .int
  | 25 => .int
  | 26 => .array .boolean
  | 27 => .array .int
  | 28 => .array .int
  | 29 => .array .int
  | 30 => .int
  | 31 => .array .int
  | 32 => .int
  | 33 => .array .int
  | _ => .array .int
theorem n_M : ∀ a, a < 35 → ∀ b, b < 35 → a ≠ b → (T_M a).2.1 ≠ (T_M b).2.1 := by decide +kernel
theorem t_M_ok : ∀ k, k < 35 → parseFieldDescriptor (T_M k).2.2.1 = some (t_M k) := by decide +kernel
theorem tu_M : ∀ w ∈ u_ws R_M T_M 35, w ∈ gTb := by decide +kernel
def R_L : String := "GraphPagesLaw"
def R_J : String := "java/util/Arrays"
def R_N : String := "java/lang/Math"
def R_Q : String := "java/lang/String"
def R_Y : String := "java/lang/StringLatin1"
abbrev vwCl : List vw_C := [(R_E, T_E, 14), (R_F, T_F, 5), (R_G, T_G, 6), (R_H, T_H, 8), (R_A, T_A, 5), (R_P, T_P, 2), (R_R, T_R, 4), (R_W, T_W, 6), (R_O, T_O, 8), (R_M, T_M, 35)]
abbrev b_E_init : ByteArray := prog_2_method_1_code
def y_E_init : MethodName := ⟨R_E, "<init>", "()V"⟩
abbrev w_E_init : List Cond := Cond.code y_E_init b_E_init 1 none :: gTb
theorem tc_E_init : Cond.code y_E_init b_E_init 1 none ∈ gTb := gm1 (List.mem_of_getElem? (i := 149) rfl) rfl
abbrev b_E_removeAll : ByteArray := prog_2_method_2_code
def y_E_removeAll : MethodName := ⟨R_E, "removeAll", "()V"⟩
abbrev w_E_removeAll : List Cond := Cond.code y_E_removeAll b_E_removeAll 1 none :: gTb
theorem tc_E_removeAll : Cond.code y_E_removeAll b_E_removeAll 1 none ∈ gTb := gm3 (List.mem_of_getElem? (i := 91) rfl) rfl
abbrev b_E_addElement : ByteArray := prog_2_method_3_code
def y_E_addElement : MethodName := ⟨R_E, "addElement", "(II)Z"⟩
abbrev w_E_addElement : List Cond := Cond.code y_E_addElement b_E_addElement 3 (some .boolean) :: gTb
theorem tc_E_addElement : Cond.code y_E_addElement b_E_addElement 3 (some .boolean) ∈ gTb := gm3 (List.mem_of_getElem? (i := 114) rfl) rfl
abbrev b_E_addAttribute : ByteArray := prog_2_method_4_code
def y_E_addAttribute : MethodName := ⟨R_E, "addAttribute", "(III)Z"⟩
abbrev w_E_addAttribute : List Cond := Cond.code y_E_addAttribute b_E_addAttribute 4 (some .boolean) :: gTb
theorem tc_E_addAttribute : Cond.code y_E_addAttribute b_E_addAttribute 4 (some .boolean) ∈ gTb := gm3 (List.mem_of_getElem? (i := 137) rfl) rfl
abbrev b_E_addText : ByteArray := prog_2_method_5_code
def y_E_addText : MethodName := ⟨R_E, "addText", "(II)Z"⟩
abbrev w_E_addText : List Cond := Cond.code y_E_addText b_E_addText 3 (some .boolean) :: gTb
theorem tc_E_addText : Cond.code y_E_addText b_E_addText 3 (some .boolean) ∈ gTb := gm3 (List.mem_of_getElem? (i := 153) rfl) rfl
abbrev b_E_findAttribute : ByteArray := prog_2_method_6_code
def y_E_findAttribute : MethodName := ⟨R_E, "findAttribute", "(II)I"⟩
abbrev w_E_findAttribute : List Cond := Cond.code y_E_findAttribute b_E_findAttribute 5 (some .int) :: gTb
theorem tc_E_findAttribute : Cond.code y_E_findAttribute b_E_findAttribute 5 (some .int) ∈ gTb := gm3 (List.mem_of_getElem? (i := 126) rfl) rfl
abbrev b_E_isEmpty : ByteArray := prog_2_method_7_code
def y_E_isEmpty : MethodName := ⟨R_E, "isEmpty", "(I)Z"⟩
abbrev w_E_isEmpty : List Cond := Cond.code y_E_isEmpty b_E_isEmpty 2 (some .boolean) :: gTb
theorem tc_E_isEmpty : Cond.code y_E_isEmpty b_E_isEmpty 2 (some .boolean) ∈ gTb := gm3 (List.mem_of_getElem? (i := 236) rfl) rfl
abbrev b_F_init : ByteArray := prog_3_method_1_code
def y_F_init : MethodName := ⟨R_F, "<init>", "(LGraphPages$Page;LGraphPages$Elements;)V"⟩
abbrev w_F_init : List Cond := Cond.code y_F_init b_F_init 3 none :: gTb
theorem tc_F_init : Cond.code y_F_init b_F_init 3 none ∈ gTb := gm1 (List.mem_of_getElem? (i := 213) rfl) rfl
abbrev b_F_isWellFormed : ByteArray := prog_3_method_2_code
def y_F_isWellFormed : MethodName := ⟨R_F, "isWellFormed", "()Z"⟩
abbrev w_F_isWellFormed : List Cond := Cond.code y_F_isWellFormed b_F_isWellFormed 2 (some .boolean) :: gTb
theorem tc_F_isWellFormed : Cond.code y_F_isWellFormed b_F_isWellFormed 2 (some .boolean) ∈ gTb := gm3 (List.mem_of_getElem? (i := 87) rfl) rfl
abbrev b_F_readPiece : ByteArray := prog_3_method_3_code
def y_F_readPiece : MethodName := ⟨R_F, "readPiece", "()Z"⟩
abbrev w_F_readPiece : List Cond := Cond.code y_F_readPiece b_F_readPiece 2 (some .boolean) :: gTb
theorem tc_F_readPiece : Cond.code y_F_readPiece b_F_readPiece 2 (some .boolean) ∈ gTb := gm3 (List.mem_of_getElem? (i := 95) rfl) rfl
abbrev b_F_readStart : ByteArray := prog_3_method_4_code
def y_F_readStart : MethodName := ⟨R_F, "readStart", "()Z"⟩
abbrev w_F_readStart : List Cond := Cond.code y_F_readStart b_F_readStart 5 (some .boolean) :: gTb
theorem tc_F_readStart : Cond.code y_F_readStart b_F_readStart 5 (some .boolean) ∈ gTb := gm3 (List.mem_of_getElem? (i := 103) rfl) rfl
abbrev b_F_readAttribute : ByteArray := prog_3_method_5_code
def y_F_readAttribute : MethodName := ⟨R_F, "readAttribute", "(I)Z"⟩
abbrev w_F_readAttribute : List Cond := Cond.code y_F_readAttribute b_F_readAttribute 4 (some .boolean) :: gTb
theorem tc_F_readAttribute : Cond.code y_F_readAttribute b_F_readAttribute 4 (some .boolean) ∈ gTb := gm3 (List.mem_of_getElem? (i := 122) rfl) rfl
abbrev b_F_mayStandInValue : ByteArray := prog_3_method_6_code
def y_F_mayStandInValue : MethodName := ⟨R_F, "mayStandInValue", "(I)Z"⟩
abbrev w_F_mayStandInValue : List Cond := Cond.code y_F_mayStandInValue b_F_mayStandInValue 1 (some .boolean) :: gTb
theorem tc_F_mayStandInValue : Cond.code y_F_mayStandInValue b_F_mayStandInValue 1 (some .boolean) ∈ gTb := gm3 (List.mem_of_getElem? (i := 133) rfl) rfl
abbrev b_F_readEnd : ByteArray := prog_3_method_7_code
def y_F_readEnd : MethodName := ⟨R_F, "readEnd", "()Z"⟩
abbrev w_F_readEnd : List Cond := Cond.code y_F_readEnd b_F_readEnd 1 (some .boolean) :: gTb
theorem tc_F_readEnd : Cond.code y_F_readEnd b_F_readEnd 1 (some .boolean) ∈ gTb := gm3 (List.mem_of_getElem? (i := 141) rfl) rfl
abbrev b_F_readEntity : ByteArray := prog_3_method_8_code
def y_F_readEntity : MethodName := ⟨R_F, "readEntity", "()Z"⟩
abbrev w_F_readEntity : List Cond := Cond.code y_F_readEntity b_F_readEntity 1 (some .boolean) :: gTb
theorem tc_F_readEntity : Cond.code y_F_readEntity b_F_readEntity 1 (some .boolean) ∈ gTb := gm3 (List.mem_of_getElem? (i := 157) rfl) rfl
abbrev b_F_readEntityOf : ByteArray := prog_3_method_9_code
def y_F_readEntityOf : MethodName := ⟨R_F, "readEntityOf", "(Ljava/lang/String;C)Z"⟩
abbrev w_F_readEntityOf : List Cond := Cond.code y_F_readEntityOf b_F_readEntityOf 3 (some .boolean) :: gTb
theorem tc_F_readEntityOf : Cond.code y_F_readEntityOf b_F_readEntityOf 3 (some .boolean) ∈ gTb := gm3 (List.mem_of_getElem? (i := 162) rfl) rfl
abbrev b_F_readCode : ByteArray := prog_3_method_10_code
def y_F_readCode : MethodName := ⟨R_F, "readCode", "()Z"⟩
abbrev w_F_readCode : List Cond := Cond.code y_F_readCode b_F_readCode 3 (some .boolean) :: gTb
theorem tc_F_readCode : Cond.code y_F_readCode b_F_readCode 3 (some .boolean) ∈ gTb := gm3 (List.mem_of_getElem? (i := 145) rfl) rfl
abbrev b_F_readName : ByteArray := prog_3_method_11_code
def y_F_readName : MethodName := ⟨R_F, "readName", "()I"⟩
abbrev w_F_readName : List Cond := Cond.code y_F_readName b_F_readName 3 (some .int) :: gTb
theorem tc_F_readName : Cond.code y_F_readName b_F_readName 3 (some .int) ∈ gTb := gm3 (List.mem_of_getElem? (i := 107) rfl) rfl
abbrev b_F_skipSpaces : ByteArray := prog_3_method_12_code
def y_F_skipSpaces : MethodName := ⟨R_F, "skipSpaces", "()Z"⟩
abbrev w_F_skipSpaces : List Cond := Cond.code y_F_skipSpaces b_F_skipSpaces 2 (some .boolean) :: gTb
theorem tc_F_skipSpaces : Cond.code y_F_skipSpaces b_F_skipSpaces 2 (some .boolean) ∈ gTb := gm3 (List.mem_of_getElem? (i := 118) rfl) rfl
abbrev b_F_skip : ByteArray := prog_3_method_13_code
def y_F_skip : MethodName := ⟨R_F, "skip", "(C)Z"⟩
abbrev w_F_skip : List Cond := Cond.code y_F_skip b_F_skip 2 (some .boolean) :: gTb
theorem tc_F_skip : Cond.code y_F_skip b_F_skip 2 (some .boolean) ∈ gTb := gm3 (List.mem_of_getElem? (i := 130) rfl) rfl
abbrev b_G_init : ByteArray := prog_4_method_1_code
def y_G_init : MethodName := ⟨R_G, "<init>", "()V"⟩
abbrev w_G_init : List Cond := Cond.code y_G_init b_G_init 1 none :: gTb
theorem tc_G_init : Cond.code y_G_init b_G_init 1 none ∈ gTb := gm1 (List.mem_of_getElem? (i := 29) rfl) rfl
abbrev b_G_has : ByteArray := prog_4_method_2_code
def y_G_has : MethodName := ⟨R_G, "has", "(I)Z"⟩
abbrev w_G_has : List Cond := Cond.code y_G_has b_G_has 2 (some .boolean) :: gTb
theorem tc_G_has : Cond.code y_G_has b_G_has 2 (some .boolean) ∈ gTb := gm2 (List.mem_of_getElem? (i := 74) rfl) rfl
abbrev b_G_isText : ByteArray := prog_4_method_3_code
def y_G_isText : MethodName := ⟨R_G, "isText", "(I)Z"⟩
abbrev w_G_isText : List Cond := Cond.code y_G_isText b_G_isText 2 (some .boolean) :: gTb
theorem tc_G_isText : Cond.code y_G_isText b_G_isText 2 (some .boolean) ∈ gTb := gm2 (List.mem_of_getElem? (i := 70) rfl) rfl
abbrev b_G_hasSlot : ByteArray := prog_4_method_4_code
def y_G_hasSlot : MethodName := ⟨R_G, "hasSlot", "(II)Z"⟩
abbrev w_G_hasSlot : List Cond := Cond.code y_G_hasSlot b_G_hasSlot 3 (some .boolean) :: gTb
theorem tc_G_hasSlot : Cond.code y_G_hasSlot b_G_hasSlot 3 (some .boolean) ∈ gTb := gm2 (List.mem_of_getElem? (i := 89) rfl) rfl
abbrev b_G_add : ByteArray := prog_4_method_5_code
def y_G_add : MethodName := ⟨R_G, "add", "(II)I"⟩
abbrev w_G_add : List Cond := Cond.code y_G_add b_G_add 3 (some .int) :: gTb
theorem tc_G_add : Cond.code y_G_add b_G_add 3 (some .int) ∈ gTb := gm2 (List.mem_of_getElem? (i := 54) rfl) rfl
abbrev b_G_lay : ByteArray := prog_4_method_6_code
def y_G_lay : MethodName := ⟨R_G, "lay", "(III)V"⟩
abbrev w_G_lay : List Cond := Cond.code y_G_lay b_G_lay 5 none :: gTb
theorem tc_G_lay : Cond.code y_G_lay b_G_lay 5 none ∈ gTb := gm2 (List.mem_of_getElem? (i := 58) rfl) rfl
abbrev b_G_setSlot : ByteArray := prog_4_method_7_code
def y_G_setSlot : MethodName := ⟨R_G, "setSlot", "(IIII)V"⟩
abbrev w_G_setSlot : List Cond := Cond.code y_G_setSlot b_G_setSlot 5 none :: gTb
theorem tc_G_setSlot : Cond.code y_G_setSlot b_G_setSlot 5 none ∈ gTb := gm2 (List.mem_of_getElem? (i := 62) rfl) rfl
abbrev b_G_contentOf : ByteArray := prog_4_method_8_code
def y_G_contentOf : MethodName := ⟨R_G, "contentOf", "(II)I"⟩
abbrev w_G_contentOf : List Cond := Cond.code y_G_contentOf b_G_contentOf 3 (some .int) :: gTb
theorem tc_G_contentOf : Cond.code y_G_contentOf b_G_contentOf 3 (some .int) ∈ gTb := gm2 (List.mem_of_getElem? (i := 115) rfl) rfl
abbrev b_G_valueOf : ByteArray := prog_4_method_9_code
def y_G_valueOf : MethodName := ⟨R_G, "valueOf", "(II)I"⟩
abbrev w_G_valueOf : List Cond := Cond.code y_G_valueOf b_G_valueOf 3 (some .int) :: gTb
theorem tc_G_valueOf : Cond.code y_G_valueOf b_G_valueOf 3 (some .int) ∈ gTb := gm2 (List.mem_of_getElem? (i := 123) rfl) rfl
abbrev b_G_addCharacter : ByteArray := prog_4_method_10_code
def y_G_addCharacter : MethodName := ⟨R_G, "addCharacter", "(IC)Z"⟩
abbrev w_G_addCharacter : List Cond := Cond.code y_G_addCharacter b_G_addCharacter 3 (some .boolean) :: gTb
theorem tc_G_addCharacter : Cond.code y_G_addCharacter b_G_addCharacter 3 (some .boolean) ∈ gTb := gm2 (List.mem_of_getElem? (i := 81) rfl) rfl
abbrev b_G_characterOf : ByteArray := prog_4_method_11_code
def y_G_characterOf : MethodName := ⟨R_G, "characterOf", "(II)C"⟩
abbrev w_G_characterOf : List Cond := Cond.code y_G_characterOf b_G_characterOf 3 (some .char) :: gTb
theorem tc_G_characterOf : Cond.code y_G_characterOf b_G_characterOf 3 (some .char) ∈ gTb := gm2 (List.mem_of_getElem? (i := 127) rfl) rfl
abbrev b_H_init : ByteArray := prog_5_method_1_code
def y_H_init : MethodName := ⟨R_H, "<init>", "(LGraphPages$Page;LGraphPages$Elements;LGraphPages$Graph;)V"⟩
abbrev w_H_init : List Cond := Cond.code y_H_init b_H_init 4 none :: gTb
theorem tc_H_init : Cond.code y_H_init b_H_init 4 none ∈ gTb := gm1 (List.mem_of_getElem? (i := 235) rfl) rfl
abbrev b_H_knowsVersion : ByteArray := prog_5_method_2_code
def y_H_knowsVersion : MethodName := ⟨R_H, "knowsVersion", "()Z"⟩
abbrev w_H_knowsVersion : List Cond := Cond.code y_H_knowsVersion b_H_knowsVersion 1 (some .boolean) :: gTb
theorem tc_H_knowsVersion : Cond.code y_H_knowsVersion b_H_knowsVersion 1 (some .boolean) ∈ gTb := gm3 (List.mem_of_getElem? (i := 177) rfl) rfl
abbrev b_H_understandsHeaders : ByteArray := prog_5_method_3_code
def y_H_understandsHeaders : MethodName := ⟨R_H, "understandsHeaders", "([Z)Z"⟩
abbrev w_H_understandsHeaders : List Cond := Cond.code y_H_understandsHeaders b_H_understandsHeaders 4 (some .boolean) :: gTb
theorem tc_H_understandsHeaders : Cond.code y_H_understandsHeaders b_H_understandsHeaders 4 (some .boolean) ∈ gTb := gm3 (List.mem_of_getElem? (i := 187) rfl) rfl
abbrev b_H_isUnderstood : ByteArray := prog_5_method_4_code
def y_H_isUnderstood : MethodName := ⟨R_H, "isUnderstood", "(I[Z)Z"⟩
abbrev w_H_isUnderstood : List Cond := Cond.code y_H_isUnderstood b_H_isUnderstood 2 (some .boolean) :: gTb
theorem tc_H_isUnderstood : Cond.code y_H_isUnderstood b_H_isUnderstood 2 (some .boolean) ∈ gTb := gm3 (List.mem_of_getElem? (i := 199) rfl) rfl
abbrev b_H_readGraph : ByteArray := prog_5_method_5_code
def y_H_readGraph : MethodName := ⟨R_H, "readGraph", "()I"⟩
abbrev w_H_readGraph : List Cond := Cond.code y_H_readGraph b_H_readGraph 4 (some .int) :: gTb
theorem tc_H_readGraph : Cond.code y_H_readGraph b_H_readGraph 4 (some .int) ∈ gTb := gm3 (List.mem_of_getElem? (i := 203) rfl) rfl
abbrev b_H_findBody : ByteArray := prog_5_method_6_code
def y_H_findBody : MethodName := ⟨R_H, "findBody", "()I"⟩
abbrev w_H_findBody : List Cond := Cond.code y_H_findBody b_H_findBody 3 (some .int) :: gTb
theorem tc_H_findBody : Cond.code y_H_findBody b_H_findBody 3 (some .int) ∈ gTb := gm3 (List.mem_of_getElem? (i := 207) rfl) rfl
abbrev b_H_isSoundBody : ByteArray := prog_5_method_7_code
def y_H_isSoundBody : MethodName := ⟨R_H, "isSoundBody", "(I)Z"⟩
abbrev w_H_isSoundBody : List Cond := Cond.code y_H_isSoundBody b_H_isSoundBody 2 (some .boolean) :: gTb
theorem tc_H_isSoundBody : Cond.code y_H_isSoundBody b_H_isSoundBody 2 (some .boolean) ∈ gTb := gm3 (List.mem_of_getElem? (i := 211) rfl) rfl
abbrev b_H_isSound : ByteArray := prog_5_method_8_code
def y_H_isSound : MethodName := ⟨R_H, "isSound", "(I)Z"⟩
abbrev w_H_isSound : List Cond := Cond.code y_H_isSound b_H_isSound 2 (some .boolean) :: gTb
theorem tc_H_isSound : Cond.code y_H_isSound b_H_isSound 2 (some .boolean) ∈ gTb := gm3 (List.mem_of_getElem? (i := 216) rfl) rfl
abbrev b_H_hasSoundAttributes : ByteArray := prog_5_method_9_code
def y_H_hasSoundAttributes : MethodName := ⟨R_H, "hasSoundAttributes", "(I)Z"⟩
abbrev w_H_hasSoundAttributes : List Cond := Cond.code y_H_hasSoundAttributes b_H_hasSoundAttributes 4 (some .boolean) :: gTb
theorem tc_H_hasSoundAttributes : Cond.code y_H_hasSoundAttributes b_H_hasSoundAttributes 4 (some .boolean) ∈ gTb := gm3 (List.mem_of_getElem? (i := 220) rfl) rfl
abbrev b_H_mayBear : ByteArray := prog_5_method_10_code
def y_H_mayBear : MethodName := ⟨R_H, "mayBear", "(II)Z"⟩
abbrev w_H_mayBear : List Cond := Cond.code y_H_mayBear b_H_mayBear 4 (some .boolean) :: gTb
theorem tc_H_mayBear : Cond.code y_H_mayBear b_H_mayBear 4 (some .boolean) ∈ gTb := gm3 (List.mem_of_getElem? (i := 224) rfl) rfl
abbrev b_H_hasSoundSize : ByteArray := prog_5_method_11_code
def y_H_hasSoundSize : MethodName := ⟨R_H, "hasSoundSize", "(I)Z"⟩
abbrev w_H_hasSoundSize : List Cond := Cond.code y_H_hasSoundSize b_H_hasSoundSize 3 (some .boolean) :: gTb
theorem tc_H_hasSoundSize : Cond.code y_H_hasSoundSize b_H_hasSoundSize 3 (some .boolean) ∈ gTb := gm3 (List.mem_of_getElem? (i := 232) rfl) rfl
abbrev b_H_isObject : ByteArray := prog_5_method_12_code
def y_H_isObject : MethodName := ⟨R_H, "isObject", "(I)Z"⟩
abbrev w_H_isObject : List Cond := Cond.code y_H_isObject b_H_isObject 3 (some .boolean) :: gTb
theorem tc_H_isObject : Cond.code y_H_isObject b_H_isObject 3 (some .boolean) ∈ gTb := gm3 (List.mem_of_getElem? (i := 228) rfl) rfl
abbrev b_H_numberObject : ByteArray := prog_5_method_13_code
def y_H_numberObject : MethodName := ⟨R_H, "numberObject", "(I)Z"⟩
abbrev w_H_numberObject : List Cond := Cond.code y_H_numberObject b_H_numberObject 2 (some .boolean) :: gTb
theorem tc_H_numberObject : Cond.code y_H_numberObject b_H_numberObject 2 (some .boolean) ∈ gTb := gm4 (List.mem_of_getElem? (i := 7) rfl) rfl
abbrev b_H_layObject : ByteArray := prog_5_method_14_code
def y_H_layObject : MethodName := ⟨R_H, "layObject", "(II)V"⟩
abbrev w_H_layObject : List Cond := Cond.code y_H_layObject b_H_layObject 4 none :: gTb
theorem tc_H_layObject : Cond.code y_H_layObject b_H_layObject 4 none ∈ gTb := gm4 (List.mem_of_getElem? (i := 11) rfl) rfl
abbrev b_H_keepId : ByteArray := prog_5_method_15_code
def y_H_keepId : MethodName := ⟨R_H, "keepId", "(I)Z"⟩
abbrev w_H_keepId : List Cond := Cond.code y_H_keepId b_H_keepId 3 (some .boolean) :: gTb
theorem tc_H_keepId : Cond.code y_H_keepId b_H_keepId 3 (some .boolean) ∈ gTb := gm4 (List.mem_of_getElem? (i := 20) rfl) rfl
abbrev b_H_mayStandInBody : ByteArray := prog_5_method_16_code
def y_H_mayStandInBody : MethodName := ⟨R_H, "mayStandInBody", "(II)Z"⟩
abbrev w_H_mayStandInBody : List Cond := Cond.code y_H_mayStandInBody b_H_mayStandInBody 3 (some .boolean) :: gTb
theorem tc_H_mayStandInBody : Cond.code y_H_mayStandInBody b_H_mayStandInBody 3 (some .boolean) ∈ gTb := gm4 (List.mem_of_getElem? (i := 24) rfl) rfl
abbrev b_H_fillSlot : ByteArray := prog_5_method_17_code
def y_H_fillSlot : MethodName := ⟨R_H, "fillSlot", "(I)Z"⟩
abbrev w_H_fillSlot : List Cond := Cond.code y_H_fillSlot b_H_fillSlot 4 (some .boolean) :: gTb
theorem tc_H_fillSlot : Cond.code y_H_fillSlot b_H_fillSlot 4 (some .boolean) ∈ gTb := gm4 (List.mem_of_getElem? (i := 32) rfl) rfl
abbrev b_H_holdElement : ByteArray := prog_5_method_18_code
def y_H_holdElement : MethodName := ⟨R_H, "holdElement", "(III)Z"⟩
abbrev w_H_holdElement : List Cond := Cond.code y_H_holdElement b_H_holdElement 5 (some .boolean) :: gTb
theorem tc_H_holdElement : Cond.code y_H_holdElement b_H_holdElement 5 (some .boolean) ∈ gTb := gm4 (List.mem_of_getElem? (i := 36) rfl) rfl
abbrev b_H_referredBy : ByteArray := prog_5_method_19_code
def y_H_referredBy : MethodName := ⟨R_H, "referredBy", "(I)I"⟩
abbrev w_H_referredBy : List Cond := Cond.code y_H_referredBy b_H_referredBy 3 (some .int) :: gTb
theorem tc_H_referredBy : Cond.code y_H_referredBy b_H_referredBy 3 (some .int) ∈ gTb := gm4 (List.mem_of_getElem? (i := 28) rfl) rfl
abbrev b_H_isOne : ByteArray := prog_5_method_20_code
def y_H_isOne : MethodName := ⟨R_H, "isOne", "(II)Z"⟩
abbrev w_H_isOne : List Cond := Cond.code y_H_isOne b_H_isOne 4 (some .boolean) :: gTb
theorem tc_H_isOne : Cond.code y_H_isOne b_H_isOne 4 (some .boolean) ∈ gTb := gm3 (List.mem_of_getElem? (i := 181) rfl) rfl
abbrev b_H_countIn : ByteArray := prog_5_method_21_code
def y_H_countIn : MethodName := ⟨R_H, "countIn", "(II)I"⟩
abbrev w_H_countIn : List Cond := Cond.code y_H_countIn b_H_countIn 4 (some .int) :: gTb
theorem tc_H_countIn : Cond.code y_H_countIn b_H_countIn 4 (some .int) ∈ gTb := gm3 (List.mem_of_getElem? (i := 191) rfl) rfl
abbrev b_H_countOf : ByteArray := prog_5_method_22_code
def y_H_countOf : MethodName := ⟨R_H, "countOf", "(I)I"⟩
abbrev w_H_countOf : List Cond := Cond.code y_H_countOf b_H_countOf 6 (some .int) :: gTb
theorem tc_H_countOf : Cond.code y_H_countOf b_H_countOf 6 (some .int) ∈ gTb := gm3 (List.mem_of_getElem? (i := 195) rfl) rfl
abbrev b_H_numberIn : ByteArray := prog_5_method_23_code
def y_H_numberIn : MethodName := ⟨R_H, "numberIn", "(I)J"⟩
abbrev w_H_numberIn : List Cond := Cond.code y_H_numberIn b_H_numberIn 8 (some .long) :: gTb
theorem tc_H_numberIn : Cond.code y_H_numberIn b_H_numberIn 8 (some .long) ∈ gTb := gm4 (List.mem_of_getElem? (i := 0) rfl) rfl
abbrev b_A_init : ByteArray := prog_6_method_1_code
def y_A_init : MethodName := ⟨R_A, "<init>", "(LGraphPages$Graph;)V"⟩
abbrev w_A_init : List Cond := Cond.code y_A_init b_A_init 2 none :: gTb
theorem tc_A_init : Cond.code y_A_init b_A_init 2 none ∈ gTb := gm1 (List.mem_of_getElem? (i := 102) rfl) rfl
abbrev b_A_exists : ByteArray := prog_6_method_2_code
def y_A_exists : MethodName := ⟨R_A, "exists", "(II)Z"⟩
abbrev w_A_exists : List Cond := Cond.code y_A_exists b_A_exists 5 (some .boolean) :: gTb
theorem tc_A_exists : Cond.code y_A_exists b_A_exists 5 (some .boolean) ∈ gTb := gm2 (List.mem_of_getElem? (i := 135) rfl) rfl
abbrev b_A_match : ByteArray := prog_6_method_3_code
def y_A_match : MethodName := ⟨R_A, "match", "(II)Z"⟩
abbrev w_A_match : List Cond := Cond.code y_A_match b_A_match 3 (some .boolean) :: gTb
theorem tc_A_match : Cond.code y_A_match b_A_match 3 (some .boolean) ∈ gTb := gm2 (List.mem_of_getElem? (i := 142) rfl) rfl
abbrev b_A_haveSameInside : ByteArray := prog_6_method_4_code
def y_A_haveSameInside : MethodName := ⟨R_A, "haveSameInside", "(II)Z"⟩
abbrev w_A_haveSameInside : List Cond := Cond.code y_A_haveSameInside b_A_haveSameInside 3 (some .boolean) :: gTb
theorem tc_A_haveSameInside : Cond.code y_A_haveSameInside b_A_haveSameInside 3 (some .boolean) ∈ gTb := gm2 (List.mem_of_getElem? (i := 146) rfl) rfl
abbrev b_A_haveSameCharacters : ByteArray := prog_6_method_5_code
def y_A_haveSameCharacters : MethodName := ⟨R_A, "haveSameCharacters", "(II)Z"⟩
abbrev w_A_haveSameCharacters : List Cond := Cond.code y_A_haveSameCharacters b_A_haveSameCharacters 4 (some .boolean) :: gTb
theorem tc_A_haveSameCharacters : Cond.code y_A_haveSameCharacters b_A_haveSameCharacters 4 (some .boolean) ∈ gTb := gm2 (List.mem_of_getElem? (i := 151) rfl) rfl
abbrev b_A_haveSameSlots : ByteArray := prog_6_method_6_code
def y_A_haveSameSlots : MethodName := ⟨R_A, "haveSameSlots", "(II)Z"⟩
abbrev w_A_haveSameSlots : List Cond := Cond.code y_A_haveSameSlots b_A_haveSameSlots 4 (some .boolean) :: gTb
theorem tc_A_haveSameSlots : Cond.code y_A_haveSameSlots b_A_haveSameSlots 4 (some .boolean) ∈ gTb := gm2 (List.mem_of_getElem? (i := 156) rfl) rfl
abbrev b_A_haveSameSlot : ByteArray := prog_6_method_7_code
def y_A_haveSameSlot : MethodName := ⟨R_A, "haveSameSlot", "(III)Z"⟩
abbrev w_A_haveSameSlot : List Cond := Cond.code y_A_haveSameSlot b_A_haveSameSlot 4 (some .boolean) :: gTb
theorem tc_A_haveSameSlot : Cond.code y_A_haveSameSlot b_A_haveSameSlot 4 (some .boolean) ∈ gTb := gm2 (List.mem_of_getElem? (i := 160) rfl) rfl
abbrev b_P_init : ByteArray := prog_7_method_1_code
def y_P_init : MethodName := ⟨R_P, "<init>", "()V"⟩
abbrev w_P_init : List Cond := Cond.code y_P_init b_P_init 1 none :: gTb
theorem tc_P_init : Cond.code y_P_init b_P_init 1 none ∈ gTb := gm1 (List.mem_of_getElem? (i := 65) rfl) rfl
abbrev b_P_codeAt : ByteArray := prog_7_method_2_code
def y_P_codeAt : MethodName := ⟨R_P, "codeAt", "(I)I"⟩
abbrev w_P_codeAt : List Cond := Cond.code y_P_codeAt b_P_codeAt 2 (some .int) :: gTb
theorem tc_P_codeAt : Cond.code y_P_codeAt b_P_codeAt 2 (some .int) ∈ gTb := gm3 (List.mem_of_getElem? (i := 99) rfl) rfl
abbrev b_P_append : ByteArray := prog_7_method_3_code
def y_P_append : MethodName := ⟨R_P, "append", "(C)Z"⟩
abbrev w_P_append : List Cond := Cond.code y_P_append b_P_append 2 (some .boolean) :: gTb
theorem tc_P_append : Cond.code y_P_append b_P_append 2 (some .boolean) ∈ gTb := gm3 (List.mem_of_getElem? (i := 17) rfl) rfl
abbrev b_P_showsAt : ByteArray := prog_7_method_4_code
def y_P_showsAt : MethodName := ⟨R_P, "showsAt", "(ILjava/lang/String;)Z"⟩
abbrev w_P_showsAt : List Cond := Cond.code y_P_showsAt b_P_showsAt 4 (some .boolean) :: gTb
theorem tc_P_showsAt : Cond.code y_P_showsAt b_P_showsAt 4 (some .boolean) ∈ gTb := gm3 (List.mem_of_getElem? (i := 166) rfl) rfl
abbrev b_R_init : ByteArray := prog_8_method_1_code
def y_R_init : MethodName := ⟨R_R, "<init>", "(LGraphPages$Graph;)V"⟩
abbrev w_R_init : List Cond := Cond.code y_R_init b_R_init 2 none :: gTb
theorem tc_R_init : Cond.code y_R_init b_R_init 2 none ∈ gTb := gm1 (List.mem_of_getElem? (i := 82) rfl) rfl
abbrev b_R_startFrom : ByteArray := prog_8_method_2_code
def y_R_startFrom : MethodName := ⟨R_R, "startFrom", "(I)V"⟩
abbrev w_R_startFrom : List Cond := Cond.code y_R_startFrom b_R_startFrom 3 none :: gTb
theorem tc_R_startFrom : Cond.code y_R_startFrom b_R_startFrom 3 none ∈ gTb := gm2 (List.mem_of_getElem? (i := 170) rfl) rfl
abbrev b_R_followSlots : ByteArray := prog_8_method_3_code
def y_R_followSlots : MethodName := ⟨R_R, "followSlots", "(I)V"⟩
abbrev w_R_followSlots : List Cond := Cond.code y_R_followSlots b_R_followSlots 3 none :: gTb
theorem tc_R_followSlots : Cond.code y_R_followSlots b_R_followSlots 3 none ∈ gTb := gm2 (List.mem_of_getElem? (i := 179) rfl) rfl
abbrev b_R_refer : ByteArray := prog_8_method_4_code
def y_R_refer : MethodName := ⟨R_R, "refer", "(I)V"⟩
abbrev w_R_refer : List Cond := Cond.code y_R_refer b_R_refer 2 none :: gTb
theorem tc_R_refer : Cond.code y_R_refer b_R_refer 2 none ∈ gTb := gm2 (List.mem_of_getElem? (i := 175) rfl) rfl
abbrev b_R_isShared : ByteArray := prog_8_method_5_code
def y_R_isShared : MethodName := ⟨R_R, "isShared", "(I)Z"⟩
abbrev w_R_isShared : List Cond := Cond.code y_R_isShared b_R_isShared 2 (some .boolean) :: gTb
theorem tc_R_isShared : Cond.code y_R_isShared b_R_isShared 2 (some .boolean) ∈ gTb := gm2 (List.mem_of_getElem? (i := 190) rfl) rfl
abbrev b_R_countShared : ByteArray := prog_8_method_6_code
def y_R_countShared : MethodName := ⟨R_R, "countShared", "()I"⟩
abbrev w_R_countShared : List Cond := Cond.code y_R_countShared b_R_countShared 3 (some .int) :: gTb
theorem tc_R_countShared : Cond.code y_R_countShared b_R_countShared 3 (some .int) ∈ gTb := gm2 (List.mem_of_getElem? (i := 186) rfl) rfl
abbrev b_W_init : ByteArray := prog_9_method_1_code
def y_W_init : MethodName := ⟨R_W, "<init>", "(LGraphPages$Graph;LGraphPages$Reach;LGraphPages$Page;)V"⟩
abbrev w_W_init : List Cond := Cond.code y_W_init b_W_init 4 none :: gTb
theorem tc_W_init : Cond.code y_W_init b_W_init 4 none ∈ gTb := gm1 (List.mem_of_getElem? (i := 124) rfl) rfl
abbrev b_W_writeFrom : ByteArray := prog_9_method_2_code
def y_W_writeFrom : MethodName := ⟨R_W, "writeFrom", "(I)V"⟩
abbrev w_W_writeFrom : List Cond := Cond.code y_W_writeFrom b_W_writeFrom 3 none :: gTb
theorem tc_W_writeFrom : Cond.code y_W_writeFrom b_W_writeFrom 3 none ∈ gTb := gm2 (List.mem_of_getElem? (i := 198) rfl) rfl
abbrev b_W_writeReference : ByteArray := prog_9_method_3_code
def y_W_writeReference : MethodName := ⟨R_W, "writeReference", "(II)V"⟩
abbrev w_W_writeReference : List Cond := Cond.code y_W_writeReference b_W_writeReference 3 none :: gTb
theorem tc_W_writeReference : Cond.code y_W_writeReference b_W_writeReference 3 none ∈ gTb := gm3 (List.mem_of_getElem? (i := 21) rfl) rfl
abbrev b_W_giveId : ByteArray := prog_9_method_4_code
def y_W_giveId : MethodName := ⟨R_W, "giveId", "(I)V"⟩
abbrev w_W_giveId : List Cond := Cond.code y_W_giveId b_W_giveId 2 none :: gTb
theorem tc_W_giveId : Cond.code y_W_giveId b_W_giveId 2 none ∈ gTb := gm3 (List.mem_of_getElem? (i := 26) rfl) rfl
abbrev b_W_writeElement : ByteArray := prog_9_method_5_code
def y_W_writeElement : MethodName := ⟨R_W, "writeElement", "(II)V"⟩
abbrev w_W_writeElement : List Cond := Cond.code y_W_writeElement b_W_writeElement 5 none :: gTb
theorem tc_W_writeElement : Cond.code y_W_writeElement b_W_writeElement 5 none ∈ gTb := gm3 (List.mem_of_getElem? (i := 43) rfl) rfl
abbrev b_W_firstWrittenSlot : ByteArray := prog_9_method_6_code
def y_W_firstWrittenSlot : MethodName := ⟨R_W, "firstWrittenSlot", "(I)I"⟩
abbrev w_W_firstWrittenSlot : List Cond := Cond.code y_W_firstWrittenSlot b_W_firstWrittenSlot 3 (some .int) :: gTb
theorem tc_W_firstWrittenSlot : Cond.code y_W_firstWrittenSlot b_W_firstWrittenSlot 3 (some .int) ∈ gTb := gm3 (List.mem_of_getElem? (i := 47) rfl) rfl
abbrev b_W_behindLastWrittenSlot : ByteArray := prog_9_method_7_code
def y_W_behindLastWrittenSlot : MethodName := ⟨R_W, "behindLastWrittenSlot", "(I)I"⟩
abbrev w_W_behindLastWrittenSlot : List Cond := Cond.code y_W_behindLastWrittenSlot b_W_behindLastWrittenSlot 3 (some .int) :: gTb
theorem tc_W_behindLastWrittenSlot : Cond.code y_W_behindLastWrittenSlot b_W_behindLastWrittenSlot 3 (some .int) ∈ gTb := gm3 (List.mem_of_getElem? (i := 70) rfl) rfl
abbrev b_W_writeSlots : ByteArray := prog_9_method_8_code
def y_W_writeSlots : MethodName := ⟨R_W, "writeSlots", "(III)V"⟩
abbrev w_W_writeSlots : List Cond := Cond.code y_W_writeSlots b_W_writeSlots 6 none :: gTb
theorem tc_W_writeSlots : Cond.code y_W_writeSlots b_W_writeSlots 6 none ∈ gTb := gm3 (List.mem_of_getElem? (i := 66) rfl) rfl
abbrev b_W_writeCharacters : ByteArray := prog_9_method_9_code
def y_W_writeCharacters : MethodName := ⟨R_W, "writeCharacters", "(I)V"⟩
abbrev w_W_writeCharacters : List Cond := Cond.code y_W_writeCharacters b_W_writeCharacters 4 none :: gTb
theorem tc_W_writeCharacters : Cond.code y_W_writeCharacters b_W_writeCharacters 4 none ∈ gTb := gm3 (List.mem_of_getElem? (i := 58) rfl) rfl
abbrev b_W_writeAttribute : ByteArray := prog_9_method_10_code
def y_W_writeAttribute : MethodName := ⟨R_W, "writeAttribute", "(Ljava/lang/String;I)V"⟩
abbrev w_W_writeAttribute : List Cond := Cond.code y_W_writeAttribute b_W_writeAttribute 3 none :: gTb
theorem tc_W_writeAttribute : Cond.code y_W_writeAttribute b_W_writeAttribute 3 none ∈ gTb := gm3 (List.mem_of_getElem? (i := 32) rfl) rfl
abbrev b_W_writeNumber : ByteArray := prog_9_method_11_code
def y_W_writeNumber : MethodName := ⟨R_W, "writeNumber", "(I)V"⟩
abbrev w_W_writeNumber : List Cond := Cond.code y_W_writeNumber b_W_writeNumber 7 none :: gTb
theorem tc_W_writeNumber : Cond.code y_W_writeNumber b_W_writeNumber 7 none ∈ gTb := gm3 (List.mem_of_getElem? (i := 37) rfl) rfl
abbrev b_W_writeRow : ByteArray := prog_9_method_12_code
def y_W_writeRow : MethodName := ⟨R_W, "writeRow", "(Ljava/lang/String;)V"⟩
abbrev w_W_writeRow : List Cond := Cond.code y_W_writeRow b_W_writeRow 3 none :: gTb
theorem tc_W_writeRow : Cond.code y_W_writeRow b_W_writeRow 3 none ∈ gTb := gm2 (List.mem_of_getElem? (i := 205) rfl) rfl
abbrev b_O_init : ByteArray := prog_1_method_1_code
def y_O_init : MethodName := ⟨R_O, "<init>", "()V"⟩
abbrev w_O_init : List Cond := Cond.code y_O_init b_O_init 2 none :: gTb
theorem tc_O_init : Cond.code y_O_init b_O_init 2 none ∈ gTb := gm1 (List.mem_of_getElem? (i := 21) rfl) rfl
abbrev b_O_make : ByteArray := prog_1_method_2_code
def y_O_make : MethodName := ⟨R_O, "make", "(II)I"⟩
abbrev w_O_make : List Cond := Cond.code y_O_make b_O_make 3 (some .int) :: gTb
theorem tc_O_make : Cond.code y_O_make b_O_make 3 (some .int) ∈ gTb := gm2 (List.mem_of_getElem? (i := 50) rfl) rfl
abbrev b_O_type : ByteArray := prog_1_method_3_code
def y_O_type : MethodName := ⟨R_O, "type", "(IC)Z"⟩
abbrev w_O_type : List Cond := Cond.code y_O_type b_O_type 3 (some .boolean) :: gTb
theorem tc_O_type : Cond.code y_O_type b_O_type 3 (some .boolean) ∈ gTb := gm2 (List.mem_of_getElem? (i := 66) rfl) rfl
abbrev b_O_put : ByteArray := prog_1_method_4_code
def y_O_put : MethodName := ⟨R_O, "put", "(III)Z"⟩
abbrev w_O_put : List Cond := Cond.code y_O_put b_O_put 4 (some .boolean) :: gTb
theorem tc_O_put : Cond.code y_O_put b_O_put 4 (some .boolean) ∈ gTb := gm2 (List.mem_of_getElem? (i := 85) rfl) rfl
abbrev b_O_link : ByteArray := prog_1_method_5_code
def y_O_link : MethodName := ⟨R_O, "link", "(III)Z"⟩
abbrev w_O_link : List Cond := Cond.code y_O_link b_O_link 4 (some .boolean) :: gTb
theorem tc_O_link : Cond.code y_O_link b_O_link 4 (some .boolean) ∈ gTb := gm2 (List.mem_of_getElem? (i := 94) rfl) rfl
abbrev b_O_objects : ByteArray := prog_1_method_6_code
def y_O_objects : MethodName := ⟨R_O, "objects", "()I"⟩
abbrev w_O_objects : List Cond := Cond.code y_O_objects b_O_objects 1 (some .int) :: gTb
theorem tc_O_objects : Cond.code y_O_objects b_O_objects 1 (some .int) ∈ gTb := gm2 (List.mem_of_getElem? (i := 99) rfl) rfl
abbrev b_O_kind : ByteArray := prog_1_method_7_code
def y_O_kind : MethodName := ⟨R_O, "kind", "(I)I"⟩
abbrev w_O_kind : List Cond := Cond.code y_O_kind b_O_kind 2 (some .int) :: gTb
theorem tc_O_kind : Cond.code y_O_kind b_O_kind 2 (some .int) ∈ gTb := gm2 (List.mem_of_getElem? (i := 103) rfl) rfl
abbrev b_O_size : ByteArray := prog_1_method_8_code
def y_O_size : MethodName := ⟨R_O, "size", "(I)I"⟩
abbrev w_O_size : List Cond := Cond.code y_O_size b_O_size 2 (some .int) :: gTb
theorem tc_O_size : Cond.code y_O_size b_O_size 2 (some .int) ∈ gTb := gm2 (List.mem_of_getElem? (i := 107) rfl) rfl
abbrev b_O_holds : ByteArray := prog_1_method_9_code
def y_O_holds : MethodName := ⟨R_O, "holds", "(II)I"⟩
abbrev w_O_holds : List Cond := Cond.code y_O_holds b_O_holds 3 (some .int) :: gTb
theorem tc_O_holds : Cond.code y_O_holds b_O_holds 3 (some .int) ∈ gTb := gm2 (List.mem_of_getElem? (i := 111) rfl) rfl
abbrev b_O_value : ByteArray := prog_1_method_10_code
def y_O_value : MethodName := ⟨R_O, "value", "(II)I"⟩
abbrev w_O_value : List Cond := Cond.code y_O_value b_O_value 3 (some .int) :: gTb
theorem tc_O_value : Cond.code y_O_value b_O_value 3 (some .int) ∈ gTb := gm2 (List.mem_of_getElem? (i := 119) rfl) rfl
abbrev b_O_alike : ByteArray := prog_1_method_11_code
def y_O_alike : MethodName := ⟨R_O, "alike", "(II)Z"⟩
abbrev w_O_alike : List Cond := Cond.code y_O_alike b_O_alike 3 (some .boolean) :: gTb
theorem tc_O_alike : Cond.code y_O_alike b_O_alike 3 (some .boolean) ∈ gTb := gm2 (List.mem_of_getElem? (i := 131) rfl) rfl
abbrev b_O_shared : ByteArray := prog_1_method_12_code
def y_O_shared : MethodName := ⟨R_O, "shared", "(I)I"⟩
abbrev w_O_shared : List Cond := Cond.code y_O_shared b_O_shared 2 (some .int) :: gTb
theorem tc_O_shared : Cond.code y_O_shared b_O_shared 2 (some .int) ∈ gTb := gm2 (List.mem_of_getElem? (i := 166) rfl) rfl
abbrev b_O_encode : ByteArray := prog_1_method_13_code
def y_O_encode : MethodName := ⟨R_O, "encode", "(I)I"⟩
abbrev w_O_encode : List Cond := Cond.code y_O_encode b_O_encode 2 (some .int) :: gTb
theorem tc_O_encode : Cond.code y_O_encode b_O_encode 2 (some .int) ∈ gTb := gm2 (List.mem_of_getElem? (i := 194) rfl) rfl
abbrev b_O_decode : ByteArray := prog_1_method_14_code
def y_O_decode : MethodName := ⟨R_O, "decode", "()I"⟩
abbrev w_O_decode : List Cond := Cond.code y_O_decode b_O_decode 2 (some .int) :: gTb
theorem tc_O_decode : Cond.code y_O_decode b_O_decode 2 (some .int) ∈ gTb := gm3 (List.mem_of_getElem? (i := 83) rfl) rfl
abbrev b_O_clear : ByteArray := prog_1_method_15_code
def y_O_clear : MethodName := ⟨R_O, "clear", "()V"⟩
abbrev w_O_clear : List Cond := Cond.code y_O_clear b_O_clear 1 none :: gTb
theorem tc_O_clear : Cond.code y_O_clear b_O_clear 1 none ∈ gTb := gm4 (List.mem_of_getElem? (i := 41) rfl) rfl
abbrev b_O_understand : ByteArray := prog_1_method_16_code
def y_O_understand : MethodName := ⟨R_O, "understand", "(IZ)Z"⟩
abbrev w_O_understand : List Cond := Cond.code y_O_understand b_O_understand 3 (some .boolean) :: gTb
theorem tc_O_understand : Cond.code y_O_understand b_O_understand 3 (some .boolean) ∈ gTb := gm4 (List.mem_of_getElem? (i := 45) rfl) rfl
abbrev b_O_length : ByteArray := prog_1_method_17_code
def y_O_length : MethodName := ⟨R_O, "length", "()I"⟩
abbrev w_O_length : List Cond := Cond.code y_O_length b_O_length 1 (some .int) :: gTb
theorem tc_O_length : Cond.code y_O_length b_O_length 1 (some .int) ∈ gTb := gm4 (List.mem_of_getElem? (i := 49) rfl) rfl
abbrev b_O_charAt : ByteArray := prog_1_method_18_code
def y_O_charAt : MethodName := ⟨R_O, "charAt", "(I)I"⟩
abbrev w_O_charAt : List Cond := Cond.code y_O_charAt b_O_charAt 2 (some .int) :: gTb
theorem tc_O_charAt : Cond.code y_O_charAt b_O_charAt 2 (some .int) ∈ gTb := gm4 (List.mem_of_getElem? (i := 53) rfl) rfl
abbrev b_O_feed : ByteArray := prog_1_method_19_code
def y_O_feed : MethodName := ⟨R_O, "feed", "(C)Z"⟩
abbrev w_O_feed : List Cond := Cond.code y_O_feed b_O_feed 2 (some .boolean) :: gTb
theorem tc_O_feed : Cond.code y_O_feed b_O_feed 2 (some .boolean) ∈ gTb := gm4 (List.mem_of_getElem? (i := 58) rfl) rfl
abbrev b_O_alter : ByteArray := prog_1_method_20_code
def y_O_alter : MethodName := ⟨R_O, "alter", "(IC)Z"⟩
abbrev w_O_alter : List Cond := Cond.code y_O_alter b_O_alter 3 (some .boolean) :: gTb
theorem tc_O_alter : Cond.code y_O_alter b_O_alter 3 (some .boolean) ∈ gTb := gm4 (List.mem_of_getElem? (i := 63) rfl) rfl
abbrev b_O_cut : ByteArray := prog_1_method_21_code
def y_O_cut : MethodName := ⟨R_O, "cut", "(I)Z"⟩
abbrev w_O_cut : List Cond := Cond.code y_O_cut b_O_cut 2 (some .boolean) :: gTb
theorem tc_O_cut : Cond.code y_O_cut b_O_cut 2 (some .boolean) ∈ gTb := gm4 (List.mem_of_getElem? (i := 67) rfl) rfl
abbrev b_O_isPrintable : ByteArray := prog_1_method_22_code
def y_O_isPrintable : MethodName := ⟨R_O, "isPrintable", "(I)Z"⟩
abbrev w_O_isPrintable : List Cond := Cond.code y_O_isPrintable b_O_isPrintable 1 (some .boolean) :: gTb
theorem tc_O_isPrintable : Cond.code y_O_isPrintable b_O_isPrintable 1 (some .boolean) ∈ gTb := gm2 (List.mem_of_getElem? (i := 77) rfl) rfl
abbrev b_O_isDigit : ByteArray := prog_1_method_23_code
def y_O_isDigit : MethodName := ⟨R_O, "isDigit", "(I)Z"⟩
abbrev w_O_isDigit : List Cond := Cond.code y_O_isDigit b_O_isDigit 1 (some .boolean) :: gTb
theorem tc_O_isDigit : Cond.code y_O_isDigit b_O_isDigit 1 (some .boolean) ∈ gTb := gm3 (List.mem_of_getElem? (i := 148) rfl) rfl
abbrev b_O_isLetter : ByteArray := prog_1_method_24_code
def y_O_isLetter : MethodName := ⟨R_O, "isLetter", "(I)Z"⟩
abbrev w_O_isLetter : List Cond := Cond.code y_O_isLetter b_O_isLetter 1 (some .boolean) :: gTb
theorem tc_O_isLetter : Cond.code y_O_isLetter b_O_isLetter 1 (some .boolean) ∈ gTb := gm3 (List.mem_of_getElem? (i := 110) rfl) rfl
abbrev b_M_init : ByteArray := prog_11_method_1_code
def y_M_init : MethodName := ⟨R_M, "<init>", "()V"⟩
abbrev w_M_init : List Cond := Cond.code y_M_init b_M_init 1 none :: gTb
theorem tc_M_init : Cond.code y_M_init b_M_init 1 none ∈ gTb := gm4 (List.mem_of_getElem? (i := 72) rfl) rfl
abbrev b_M_object : ByteArray := prog_11_method_2_code
def y_M_object : MethodName := ⟨R_M, "object", "(I)Z"⟩
abbrev w_M_object : List Cond := Cond.code y_M_object b_M_object 2 (some .boolean) :: gTb
theorem tc_M_object : Cond.code y_M_object b_M_object 2 (some .boolean) ∈ gTb := gm4 (List.mem_of_getElem? (i := 191) rfl) rfl
abbrev b_M_slotThere : ByteArray := prog_11_method_3_code
def y_M_slotThere : MethodName := ⟨R_M, "slotThere", "(II)Z"⟩
abbrev w_M_slotThere : List Cond := Cond.code y_M_slotThere b_M_slotThere 3 (some .boolean) :: gTb
theorem tc_M_slotThere : Cond.code y_M_slotThere b_M_slotThere 3 (some .boolean) ∈ gTb := gm4 (List.mem_of_getElem? (i := 199) rfl) rfl
abbrev b_M_make : ByteArray := prog_11_method_4_code
def y_M_make : MethodName := ⟨R_M, "make", "(II)I"⟩
abbrev w_M_make : List Cond := Cond.code y_M_make b_M_make 4 (some .int) :: gTb
theorem tc_M_make : Cond.code y_M_make b_M_make 4 (some .int) ∈ gTb := gm4 (List.mem_of_getElem? (i := 183) rfl) rfl
abbrev b_M_type : ByteArray := prog_11_method_5_code
def y_M_type : MethodName := ⟨R_M, "type", "(IC)Z"⟩
abbrev w_M_type : List Cond := Cond.code y_M_type b_M_type 3 (some .boolean) :: gTb
theorem tc_M_type : Cond.code y_M_type b_M_type 3 (some .boolean) ∈ gTb := gm4 (List.mem_of_getElem? (i := 187) rfl) rfl
abbrev b_M_put : ByteArray := prog_11_method_6_code
def y_M_put : MethodName := ⟨R_M, "put", "(III)Z"⟩
abbrev w_M_put : List Cond := Cond.code y_M_put b_M_put 4 (some .boolean) :: gTb
theorem tc_M_put : Cond.code y_M_put b_M_put 4 (some .boolean) ∈ gTb := gm4 (List.mem_of_getElem? (i := 195) rfl) rfl
abbrev b_M_link : ByteArray := prog_11_method_7_code
def y_M_link : MethodName := ⟨R_M, "link", "(III)Z"⟩
abbrev w_M_link : List Cond := Cond.code y_M_link b_M_link 4 (some .boolean) :: gTb
theorem tc_M_link : Cond.code y_M_link b_M_link 4 (some .boolean) ∈ gTb := gm4 (List.mem_of_getElem? (i := 203) rfl) rfl
abbrev b_M_objects : ByteArray := prog_11_method_8_code
def y_M_objects : MethodName := ⟨R_M, "objects", "()I"⟩
abbrev w_M_objects : List Cond := Cond.code y_M_objects b_M_objects 1 (some .int) :: gTb
theorem tc_M_objects : Cond.code y_M_objects b_M_objects 1 (some .int) ∈ gTb := gm4 (List.mem_of_getElem? (i := 207) rfl) rfl
abbrev b_M_kind : ByteArray := prog_11_method_9_code
def y_M_kind : MethodName := ⟨R_M, "kind", "(I)I"⟩
abbrev w_M_kind : List Cond := Cond.code y_M_kind b_M_kind 2 (some .int) :: gTb
theorem tc_M_kind : Cond.code y_M_kind b_M_kind 2 (some .int) ∈ gTb := gm4 (List.mem_of_getElem? (i := 211) rfl) rfl
abbrev b_M_size : ByteArray := prog_11_method_10_code
def y_M_size : MethodName := ⟨R_M, "size", "(I)I"⟩
abbrev w_M_size : List Cond := Cond.code y_M_size b_M_size 2 (some .int) :: gTb
theorem tc_M_size : Cond.code y_M_size b_M_size 2 (some .int) ∈ gTb := gm4 (List.mem_of_getElem? (i := 215) rfl) rfl
abbrev b_M_holds : ByteArray := prog_11_method_11_code
def y_M_holds : MethodName := ⟨R_M, "holds", "(II)I"⟩
abbrev w_M_holds : List Cond := Cond.code y_M_holds b_M_holds 3 (some .int) :: gTb
theorem tc_M_holds : Cond.code y_M_holds b_M_holds 3 (some .int) ∈ gTb := gm4 (List.mem_of_getElem? (i := 219) rfl) rfl
abbrev b_M_value : ByteArray := prog_11_method_12_code
def y_M_value : MethodName := ⟨R_M, "value", "(II)I"⟩
abbrev w_M_value : List Cond := Cond.code y_M_value b_M_value 3 (some .int) :: gTb
theorem tc_M_value : Cond.code y_M_value b_M_value 3 (some .int) ∈ gTb := gm4 (List.mem_of_getElem? (i := 223) rfl) rfl
abbrev b_M_clear : ByteArray := prog_11_method_13_code
def y_M_clear : MethodName := ⟨R_M, "clear", "()V"⟩
abbrev w_M_clear : List Cond := Cond.code y_M_clear b_M_clear 1 none :: gTb
theorem tc_M_clear : Cond.code y_M_clear b_M_clear 1 none ∈ gTb := gm4 (List.mem_of_getElem? (i := 227) rfl) rfl
abbrev b_M_sameOutside : ByteArray := prog_11_method_14_code
def y_M_sameOutside : MethodName := ⟨R_M, "sameOutside", "(II)Z"⟩
abbrev w_M_sameOutside : List Cond := Cond.code y_M_sameOutside b_M_sameOutside 4 (some .boolean) :: gTb
theorem tc_M_sameOutside : Cond.code y_M_sameOutside b_M_sameOutside 4 (some .boolean) ∈ gTb := gm4 (List.mem_of_getElem? (i := 235) rfl) rfl
abbrev b_M_alike : ByteArray := prog_11_method_15_code
def y_M_alike : MethodName := ⟨R_M, "alike", "(II)Z"⟩
abbrev w_M_alike : List Cond := Cond.code y_M_alike b_M_alike 9 (some .boolean) :: gTb
theorem tc_M_alike : Cond.code y_M_alike b_M_alike 9 (some .boolean) ∈ gTb := gm4 (List.mem_of_getElem? (i := 231) rfl) rfl
abbrev b_M_mark : ByteArray := prog_11_method_16_code
def y_M_mark : MethodName := ⟨R_M, "mark", "(I)V"⟩
abbrev w_M_mark : List Cond := Cond.code y_M_mark b_M_mark 4 none :: gTb
theorem tc_M_mark : Cond.code y_M_mark b_M_mark 4 none ∈ gTb := gm5 (List.mem_of_getElem? (i := 3) rfl) rfl
abbrev b_M_shared : ByteArray := prog_11_method_17_code
def y_M_shared : MethodName := ⟨R_M, "shared", "(I)I"⟩
abbrev w_M_shared : List Cond := Cond.code y_M_shared b_M_shared 4 (some .int) :: gTb
theorem tc_M_shared : Cond.code y_M_shared b_M_shared 4 (some .int) ∈ gTb := gm4 (List.mem_of_getElem? (i := 239) rfl) rfl
abbrev b_M_out : ByteArray := prog_11_method_18_code
def y_M_out : MethodName := ⟨R_M, "out", "(IIII)V"⟩
abbrev w_M_out : List Cond := Cond.code y_M_out b_M_out 7 none :: gTb
theorem tc_M_out : Cond.code y_M_out b_M_out 7 none ∈ gTb := gm5 (List.mem_of_getElem? (i := 12) rfl) rfl
abbrev b_M_number : ByteArray := prog_11_method_19_code
def y_M_number : MethodName := ⟨R_M, "number", "(J)V"⟩
abbrev w_M_number : List Cond := Cond.code y_M_number b_M_number 7 none :: gTb
theorem tc_M_number : Cond.code y_M_number b_M_number 7 none ∈ gTb := gm5 (List.mem_of_getElem? (i := 28) rfl) rfl
abbrev b_M_attribute : ByteArray := prog_11_method_20_code
def y_M_attribute : MethodName := ⟨R_M, "attribute", "(III)V"⟩
abbrev w_M_attribute : List Cond := Cond.code y_M_attribute b_M_attribute 4 none :: gTb
theorem tc_M_attribute : Cond.code y_M_attribute b_M_attribute 4 none ∈ gTb := gm5 (List.mem_of_getElem? (i := 24) rfl) rfl
abbrev b_M_reference : ByteArray := prog_11_method_21_code
def y_M_reference : MethodName := ⟨R_M, "reference", "(I)V"⟩
abbrev w_M_reference : List Cond := Cond.code y_M_reference b_M_reference 2 none :: gTb
theorem tc_M_reference : Cond.code y_M_reference b_M_reference 2 none ∈ gTb := gm5 (List.mem_of_getElem? (i := 16) rfl) rfl
abbrev b_M_element : ByteArray := prog_11_method_22_code
def y_M_element : MethodName := ⟨R_M, "element", "(I)V"⟩
abbrev w_M_element : List Cond := Cond.code y_M_element b_M_element 6 none :: gTb
theorem tc_M_element : Cond.code y_M_element b_M_element 6 none ∈ gTb := gm5 (List.mem_of_getElem? (i := 20) rfl) rfl
abbrev b_M_character : ByteArray := prog_11_method_23_code
def y_M_character : MethodName := ⟨R_M, "character", "(I)V"⟩
abbrev w_M_character : List Cond := Cond.code y_M_character b_M_character 2 none :: gTb
theorem tc_M_character : Cond.code y_M_character b_M_character 2 none ∈ gTb := gm5 (List.mem_of_getElem? (i := 34) rfl) rfl
abbrev b_M_work : ByteArray := prog_11_method_24_code
def y_M_work : MethodName := ⟨R_M, "work", "()V"⟩
abbrev w_M_work : List Cond := Cond.code y_M_work b_M_work 3 none :: gTb
theorem tc_M_work : Cond.code y_M_work b_M_work 3 none ∈ gTb := gm5 (List.mem_of_getElem? (i := 38) rfl) rfl
abbrev b_M_encode : ByteArray := prog_11_method_25_code
def y_M_encode : MethodName := ⟨R_M, "encode", "(I)I"⟩
abbrev w_M_encode : List Cond := Cond.code y_M_encode b_M_encode 3 (some .int) :: gTb
theorem tc_M_encode : Cond.code y_M_encode b_M_encode 3 (some .int) ∈ gTb := gm5 (List.mem_of_getElem? (i := 8) rfl) rfl
abbrev b_M_length : ByteArray := prog_11_method_26_code
def y_M_length : MethodName := ⟨R_M, "length", "()I"⟩
abbrev w_M_length : List Cond := Cond.code y_M_length b_M_length 1 (some .int) :: gTb
theorem tc_M_length : Cond.code y_M_length b_M_length 1 (some .int) ∈ gTb := gm5 (List.mem_of_getElem? (i := 42) rfl) rfl
abbrev b_M_charAt : ByteArray := prog_11_method_27_code
def y_M_charAt : MethodName := ⟨R_M, "charAt", "(I)I"⟩
abbrev w_M_charAt : List Cond := Cond.code y_M_charAt b_M_charAt 2 (some .int) :: gTb
theorem tc_M_charAt : Cond.code y_M_charAt b_M_charAt 2 (some .int) ∈ gTb := gm5 (List.mem_of_getElem? (i := 46) rfl) rfl
abbrev b_M_feed : ByteArray := prog_11_method_28_code
def y_M_feed : MethodName := ⟨R_M, "feed", "(C)Z"⟩
abbrev w_M_feed : List Cond := Cond.code y_M_feed b_M_feed 2 (some .boolean) :: gTb
theorem tc_M_feed : Cond.code y_M_feed b_M_feed 2 (some .boolean) ∈ gTb := gm5 (List.mem_of_getElem? (i := 50) rfl) rfl
abbrev b_M_alter : ByteArray := prog_11_method_29_code
def y_M_alter : MethodName := ⟨R_M, "alter", "(IC)Z"⟩
abbrev w_M_alter : List Cond := Cond.code y_M_alter b_M_alter 3 (some .boolean) :: gTb
theorem tc_M_alter : Cond.code y_M_alter b_M_alter 3 (some .boolean) ∈ gTb := gm5 (List.mem_of_getElem? (i := 54) rfl) rfl
abbrev b_M_cut : ByteArray := prog_11_method_30_code
def y_M_cut : MethodName := ⟨R_M, "cut", "(I)Z"⟩
abbrev w_M_cut : List Cond := Cond.code y_M_cut b_M_cut 2 (some .boolean) :: gTb
theorem tc_M_cut : Cond.code y_M_cut b_M_cut 2 (some .boolean) ∈ gTb := gm5 (List.mem_of_getElem? (i := 58) rfl) rfl
abbrev b_M_understand : ByteArray := prog_11_method_31_code
def y_M_understand : MethodName := ⟨R_M, "understand", "(IZ)Z"⟩
abbrev w_M_understand : List Cond := Cond.code y_M_understand b_M_understand 3 (some .boolean) :: gTb
theorem tc_M_understand : Cond.code y_M_understand b_M_understand 3 (some .boolean) ∈ gTb := gm5 (List.mem_of_getElem? (i := 62) rfl) rfl
abbrev b_M_charOr0 : ByteArray := prog_11_method_32_code
def y_M_charOr0 : MethodName := ⟨R_M, "charOr0", "(I)I"⟩
abbrev w_M_charOr0 : List Cond := Cond.code y_M_charOr0 b_M_charOr0 2 (some .int) :: gTb
theorem tc_M_charOr0 : Cond.code y_M_charOr0 b_M_charOr0 2 (some .int) ∈ gTb := gm5 (List.mem_of_getElem? (i := 74) rfl) rfl
abbrev b_M_nameAt : ByteArray := prog_11_method_33_code
def y_M_nameAt : MethodName := ⟨R_M, "nameAt", "(I)I"⟩
abbrev w_M_nameAt : List Cond := Cond.code y_M_nameAt b_M_nameAt 4 (some .int) :: gTb
theorem tc_M_nameAt : Cond.code y_M_nameAt b_M_nameAt 4 (some .int) ∈ gTb := gm5 (List.mem_of_getElem? (i := 82) rfl) rfl
abbrev b_M_wellFormed : ByteArray := prog_11_method_34_code
def y_M_wellFormed : MethodName := ⟨R_M, "wellFormed", "()Z"⟩
abbrev w_M_wellFormed : List Cond := Cond.code y_M_wellFormed b_M_wellFormed 3 (some .boolean) :: gTb
theorem tc_M_wellFormed : Cond.code y_M_wellFormed b_M_wellFormed 3 (some .boolean) ∈ gTb := gm5 (List.mem_of_getElem? (i := 70) rfl) rfl
abbrev b_M_end : ByteArray := prog_11_method_35_code
def y_M_end : MethodName := ⟨R_M, "end", "()Z"⟩
abbrev w_M_end : List Cond := Cond.code y_M_end b_M_end 1 (some .boolean) :: gTb
theorem tc_M_end : Cond.code y_M_end b_M_end 1 (some .boolean) ∈ gTb := gm5 (List.mem_of_getElem? (i := 78) rfl) rfl
abbrev b_M_start : ByteArray := prog_11_method_36_code
def y_M_start : MethodName := ⟨R_M, "start", "()Z"⟩
abbrev w_M_start : List Cond := Cond.code y_M_start b_M_start 7 (some .boolean) :: gTb
theorem tc_M_start : Cond.code y_M_start b_M_start 7 (some .boolean) ∈ gTb := gm5 (List.mem_of_getElem? (i := 86) rfl) rfl
abbrev b_M_attributeAt : ByteArray := prog_11_method_37_code
def y_M_attributeAt : MethodName := ⟨R_M, "attributeAt", "(II)I"⟩
abbrev w_M_attributeAt : List Cond := Cond.code y_M_attributeAt b_M_attributeAt 6 (some .int) :: gTb
theorem tc_M_attributeAt : Cond.code y_M_attributeAt b_M_attributeAt 6 (some .int) ∈ gTb := gm5 (List.mem_of_getElem? (i := 90) rfl) rfl
abbrev b_M_content : ByteArray := prog_11_method_38_code
def y_M_content : MethodName := ⟨R_M, "content", "()Z"⟩
abbrev w_M_content : List Cond := Cond.code y_M_content b_M_content 4 (some .boolean) :: gTb
theorem tc_M_content : Cond.code y_M_content b_M_content 4 (some .boolean) ∈ gTb := gm5 (List.mem_of_getElem? (i := 98) rfl) rfl
abbrev b_M_attr : ByteArray := prog_11_method_39_code
def y_M_attr : MethodName := ⟨R_M, "attr", "(II)I"⟩
abbrev w_M_attr : List Cond := Cond.code y_M_attr b_M_attr 4 (some .int) :: gTb
theorem tc_M_attr : Cond.code y_M_attr b_M_attr 4 (some .int) ∈ gTb := gm5 (List.mem_of_getElem? (i := 94) rfl) rfl
abbrev b_M_countOf : ByteArray := prog_11_method_40_code
def y_M_countOf : MethodName := ⟨R_M, "countOf", "(I)I"⟩
abbrev w_M_countOf : List Cond := Cond.code y_M_countOf b_M_countOf 5 (some .int) :: gTb
theorem tc_M_countOf : Cond.code y_M_countOf b_M_countOf 5 (some .int) ∈ gTb := gm5 (List.mem_of_getElem? (i := 114) rfl) rfl
abbrev b_M_countIn : ByteArray := prog_11_method_41_code
def y_M_countIn : MethodName := ⟨R_M, "countIn", "(II)I"⟩
abbrev w_M_countIn : List Cond := Cond.code y_M_countIn b_M_countIn 4 (some .int) :: gTb
theorem tc_M_countIn : Cond.code y_M_countIn b_M_countIn 4 (some .int) ∈ gTb := gm5 (List.mem_of_getElem? (i := 110) rfl) rfl
abbrev b_M_isOne : ByteArray := prog_11_method_42_code
def y_M_isOne : MethodName := ⟨R_M, "isOne", "(II)Z"⟩
abbrev w_M_isOne : List Cond := Cond.code y_M_isOne b_M_isOne 4 (some .boolean) :: gTb
theorem tc_M_isOne : Cond.code y_M_isOne b_M_isOne 4 (some .boolean) ∈ gTb := gm5 (List.mem_of_getElem? (i := 102) rfl) rfl
abbrev b_M_numberOf : ByteArray := prog_11_method_43_code
def y_M_numberOf : MethodName := ⟨R_M, "numberOf", "(I)J"⟩
abbrev w_M_numberOf : List Cond := Cond.code y_M_numberOf b_M_numberOf 8 (some .long) :: gTb
theorem tc_M_numberOf : Cond.code y_M_numberOf b_M_numberOf 8 (some .long) ∈ gTb := gm5 (List.mem_of_getElem? (i := 138) rfl) rfl
abbrev b_M_isObject : ByteArray := prog_11_method_44_code
def y_M_isObject : MethodName := ⟨R_M, "isObject", "(I)Z"⟩
abbrev w_M_isObject : List Cond := Cond.code y_M_isObject b_M_isObject 2 (some .boolean) :: gTb
theorem tc_M_isObject : Cond.code y_M_isObject b_M_isObject 2 (some .boolean) ∈ gTb := gm5 (List.mem_of_getElem? (i := 122) rfl) rfl
abbrev b_M_must : ByteArray := prog_11_method_45_code
def y_M_must : MethodName := ⟨R_M, "must", "()Z"⟩
abbrev w_M_must : List Cond := Cond.code y_M_must b_M_must 3 (some .boolean) :: gTb
theorem tc_M_must : Cond.code y_M_must b_M_must 3 (some .boolean) ∈ gTb := gm5 (List.mem_of_getElem? (i := 106) rfl) rfl
abbrev b_M_body : ByteArray := prog_11_method_46_code
def y_M_body : MethodName := ⟨R_M, "body", "()I"⟩
abbrev w_M_body : List Cond := Cond.code y_M_body b_M_body 4 (some .int) :: gTb
theorem tc_M_body : Cond.code y_M_body b_M_body 4 (some .int) ∈ gTb := gm5 (List.mem_of_getElem? (i := 118) rfl) rfl
abbrev b_M_mayStand : ByteArray := prog_11_method_47_code
def y_M_mayStand : MethodName := ⟨R_M, "mayStand", "(II)Z"⟩
abbrev w_M_mayStand : List Cond := Cond.code y_M_mayStand b_M_mayStand 3 (some .boolean) :: gTb
theorem tc_M_mayStand : Cond.code y_M_mayStand b_M_mayStand 3 (some .boolean) ∈ gTb := gm5 (List.mem_of_getElem? (i := 134) rfl) rfl
abbrev b_M_fits : ByteArray := prog_11_method_48_code
def y_M_fits : MethodName := ⟨R_M, "fits", "(II)Z"⟩
abbrev w_M_fits : List Cond := Cond.code y_M_fits b_M_fits 6 (some .boolean) :: gTb
theorem tc_M_fits : Cond.code y_M_fits b_M_fits 6 (some .boolean) ∈ gTb := gm5 (List.mem_of_getElem? (i := 130) rfl) rfl
abbrev b_M_slots : ByteArray := prog_11_method_49_code
def y_M_slots : MethodName := ⟨R_M, "slots", "(I)Z"⟩
abbrev w_M_slots : List Cond := Cond.code y_M_slots b_M_slots 7 (some .boolean) :: gTb
theorem tc_M_slots : Cond.code y_M_slots b_M_slots 7 (some .boolean) ∈ gTb := gm5 (List.mem_of_getElem? (i := 145) rfl) rfl
abbrev b_M_withId : ByteArray := prog_11_method_50_code
def y_M_withId : MethodName := ⟨R_M, "withId", "(III)I"⟩
abbrev w_M_withId : List Cond := Cond.code y_M_withId b_M_withId 5 (some .int) :: gTb
theorem tc_M_withId : Cond.code y_M_withId b_M_withId 5 (some .int) ∈ gTb := gm5 (List.mem_of_getElem? (i := 149) rfl) rfl
abbrev b_M_lawful : ByteArray := prog_11_method_51_code
def y_M_lawful : MethodName := ⟨R_M, "lawful", "(I)Z"⟩
abbrev w_M_lawful : List Cond := Cond.code y_M_lawful b_M_lawful 5 (some .boolean) :: gTb
theorem tc_M_lawful : Cond.code y_M_lawful b_M_lawful 5 (some .boolean) ∈ gTb := gm5 (List.mem_of_getElem? (i := 126) rfl) rfl
abbrev b_M_decode : ByteArray := prog_11_method_52_code
def y_M_decode : MethodName := ⟨R_M, "decode", "()I"⟩
abbrev w_M_decode : List Cond := Cond.code y_M_decode b_M_decode 4 (some .int) :: gTb
theorem tc_M_decode : Cond.code y_M_decode b_M_decode 4 (some .int) ∈ gTb := gm5 (List.mem_of_getElem? (i := 66) rfl) rfl
abbrev b_M_target : ByteArray := prog_11_method_53_code
def y_M_target : MethodName := ⟨R_M, "target", "(II)I"⟩
abbrev w_M_target : List Cond := Cond.code y_M_target b_M_target 3 (some .int) :: gTb
theorem tc_M_target : Cond.code y_M_target b_M_target 3 (some .int) ∈ gTb := gm5 (List.mem_of_getElem? (i := 156) rfl) rfl
abbrev b_N_max : ByteArray := prog_12_method_65_code
def y_N_max : MethodName := ⟨R_N, "max", "(II)I"⟩
abbrev w_N_max : List Cond := Cond.code y_N_max b_N_max 2 (some .int) :: gTb
theorem tc_N_max : Cond.code y_N_max b_N_max 2 (some .int) ∈ gTb := gm4 (List.mem_of_getElem? (i := 14) rfl) rfl
abbrev b_J_fill : ByteArray := prog_16_method_103_code
def y_J_fill : MethodName := ⟨R_J, "fill", "([II)V"⟩
abbrev w_J_fill : List Cond := Cond.code y_J_fill b_J_fill 4 none :: gTb
theorem tc_J_fill : Cond.code y_J_fill b_J_fill 4 none ∈ gTb := gm2 (List.mem_of_getElem? (i := 138) rfl) rfl
abbrev b_Q_charAt : ByteArray := prog_13_method_56_code
def y_Q_charAt : MethodName := ⟨R_Q, "charAt", "(I)C"⟩
abbrev w_Q_charAt : List Cond := Cond.code y_Q_charAt b_Q_charAt 2 (some .char) :: gTb
theorem tc_Q_charAt : Cond.code y_Q_charAt b_Q_charAt 2 (some .char) ∈ gTb := gm2 (List.mem_of_getElem? (i := 219) rfl) rfl
abbrev b_Q_coder : ByteArray := prog_13_method_152_code
def y_Q_coder : MethodName := ⟨R_Q, "coder", "()B"⟩
abbrev w_Q_coder : List Cond := Cond.code y_Q_coder b_Q_coder 1 (some .byte) :: gTb
theorem tc_Q_coder : Cond.code y_Q_coder b_Q_coder 1 (some .byte) ∈ gTb := gm2 (List.mem_of_getElem? (i := 213) rfl) rfl
abbrev b_Q_isLatin1 : ByteArray := prog_13_method_154_code
def y_Q_isLatin1 : MethodName := ⟨R_Q, "isLatin1", "()Z"⟩
abbrev w_Q_isLatin1 : List Cond := Cond.code y_Q_isLatin1 b_Q_isLatin1 1 (some .boolean) :: gTb
theorem tc_Q_isLatin1 : Cond.code y_Q_isLatin1 b_Q_isLatin1 1 (some .boolean) ∈ gTb := gm2 (List.mem_of_getElem? (i := 223) rfl) rfl
abbrev b_Q_length : ByteArray := prog_13_method_54_code
def y_Q_length : MethodName := ⟨R_Q, "length", "()I"⟩
abbrev w_Q_length : List Cond := Cond.code y_Q_length b_Q_length 1 (some .int) :: gTb
theorem tc_Q_length : Cond.code y_Q_length b_Q_length 1 (some .int) ∈ gTb := gm2 (List.mem_of_getElem? (i := 209) rfl) rfl
abbrev b_Y_charAt : ByteArray := prog_14_method_2_code
def y_Y_charAt : MethodName := ⟨R_Y, "charAt", "([BI)C"⟩
abbrev w_Y_charAt : List Cond := Cond.code y_Y_charAt b_Y_charAt 2 (some .char) :: gTb
theorem tc_Y_charAt : Cond.code y_Y_charAt b_Y_charAt 2 (some .char) ∈ gTb := gm2 (List.mem_of_getElem? (i := 226) rfl) rfl
theorem tc_objectInit : Cond.code objectInit ⟨#[0xb1]⟩ 1 none ∈ gTb := gm1 (List.mem_of_getElem? (i := 24) rfl) rfl
def gNs : List (String × Nat × MethodName × String) := [(R_O, 9, y_G_init, "GraphPages"), (R_O, 18, y_P_init, "GraphPages"), (R_O, 54, y_E_init, "GraphPages"), (R_F, 76, y_O_isLetter, "GraphPages"), (R_F, 126, y_O_isDigit, "GraphPages"), (R_F, 129, y_O_isPrintable, "GraphPages"), (R_H, 187, y_O_isDigit, "GraphPages")]
theorem gNs_in : ∀ q ∈ gNs, Cond.methodLinkNest q.1 q.2.1 q.2.2.1 q.2.2.2 ∈ lw_tbl := by decide +kernel
theorem gCl_in : ∀ q ∈ vwCl, (∀ w ∈ u_ws q.1 q.2.1 q.2.2, w ∈ gTb) ∧ Cond.instantiable q.1 q.2.2 ∈ gTb := by decide +kernel
abbrev b_L_law : ByteArray := code
