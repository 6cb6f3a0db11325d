/-- the world after both constructors: of each cell its kind (a class by its place in jcl; 100 int[], 101 long[], 102 char[], 103 int[][]) and how long it is -/
def jshl : List (Nat × Nat) := [(11, 15), (10, 2), (100, 1600), (7, 7), (100, 12), (3, 3), (100, 60), (1, 14), (100, 12), (100, 12), (100, 12), (100, 8), (103, 24), (100, 6), (100, 6), (100, 6), (100, 6), (100, 6), (100, 6), (100, 6), (100, 6), (100, 6), (100, 6), (100, 6), (100, 6), (100, 6), (100, 6), (100, 6), (100, 6), (100, 6), (100, 6), (100, 6), (100, 6), (100, 6), (100, 6), (100, 6), (100, 6), (9, 3), (100, 4), (100, 4), (9, 3), (100, 4), (100, 4), (9, 3), (100, 4), (100, 4), (4, 2), (103, 8), (100, 60), (100, 60), (100, 60), (100, 60), (100, 60), (100, 60), (100, 60), (100, 60), (100, 8), (1, 14), (100, 12), (100, 12), (100, 12), (100, 8), (103, 24), (100, 6), (100, 6), (100, 6), (100, 6), (100, 6), (100, 6), (100, 6), (100, 6), (100, 6), (100, 6), (100, 6), (100, 6), (100, 6), (100, 6), (100, 6), (100, 6), (100, 6), (100, 6), (100, 6), (100, 6), (100, 6), (100, 6), (100, 6), (100, 6), (9, 3), (100, 4), (100, 4), (9, 3), (100, 4), (100, 4), (9, 3), (100, 4), (100, 4), (4, 2), (103, 8), (100, 60), (100, 60), (100, 60), (100, 60), (100, 60), (100, 60), (100, 60), (100, 60), (100, 8), (2, 3), (0, 5), (100, 20), (100, 20), (103, 20), (100, 60), (100, 60), (100, 60), (100, 60), (100, 60), (100, 60), (100, 60), (100, 60), (100, 60), (100, 60), (100, 60), (100, 60), (100, 60), (100, 60), (100, 60), (100, 60), (100, 60), (100, 60), (100, 60), (100, 60), (8, 3), (103, 61), (100, 12), (100, 12), (100, 12), (100, 12), (100, 12), (100, 12), (100, 12), (100, 12), (100, 12), (100, 12), (100, 12), (100, 12), (100, 12), (100, 12), (100, 12), (100, 12), (100, 12), (100, 12), (100, 12), (100, 12), (100, 12), (100, 12), (100, 12), (100, 12), (100, 12), (100, 12), (100, 12), (100, 12), (100, 12), (100, 12), (100, 12), (100, 12), (100, 12), (100, 12), (100, 12), (100, 12), (100, 12), (100, 12), (100, 12), (100, 12), (100, 12), (100, 12), (100, 12), (100, 12), (100, 12), (100, 12), (100, 12), (100, 12), (100, 12), (100, 12), (100, 12), (100, 12), (100, 12), (100, 12), (100, 12), (100, 12), (100, 12), (100, 12), (100, 12), (100, 12), (100, 12), (103, 61), (100, 4), (100, 4), (100, 4), (100, 4), (100, 4), (100, 4), (100, 4), (100, 4), (100, 4), (100, 4), (100, 4), (100, 4), (100, 4), (100, 4), (100, 4), (100, 4), (100, 4), (100, 4), (100, 4), (100, 4), (100, 4), (100, 4), (100, 4), (100, 4), (100, 4), (100, 4), (100, 4), (100, 4), (100, 4), (100, 4), (100, 4), (100, 4), (100, 4), (100, 4), (100, 4), (100, 4), (100, 4), (100, 4), (100, 4), (100, 4), (100, 4), (100, 4), (100, 4), (100, 4), (100, 4), (100, 4), (100, 4), (100, 4), (100, 4), (100, 4), (100, 4), (100, 4), (100, 4), (100, 4), (100, 4), (100, 4), (100, 4), (100, 4), (100, 4), (100, 4), (100, 4), (103, 61), (100, 6), (100, 6), (100, 6), (100, 6), (100, 6), (100, 6), (100, 6), (100, 6), (100, 6), (100, 6), (100, 6), (100, 6), (100, 6), (100, 6), (100, 6), (100, 6), (100, 6), (100, 6), (100, 6), (100, 6), (100, 6), (100, 6), (100, 6), (100, 6), (100, 6), (100, 6), (100, 6), (100, 6), (100, 6), (100, 6), (100, 6), (100, 6), (100, 6), (100, 6), (100, 6), (100, 6), (100, 6), (100, 6), (100, 6), (100, 6), (100, 6), (100, 6), (100, 6), (100, 6), (100, 6), (100, 6), (100, 6), (100, 6), (100, 6), (100, 6), (100, 6), (100, 6), (100, 6), (100, 6), (100, 6), (100, 6), (100, 6), (100, 6), (100, 6), (100, 6), (100, 6), (5, 11), (100, 12), (100, 4), (6, 5), (103, 40), (100, 61), (100, 61), (100, 61), (100, 61), (100, 61), (100, 61), (100, 61), (100, 61), (100, 61), (100, 61), (100, 61), (100, 61), (100, 61), (100, 61), (100, 61), (100, 61), (100, 61), (100, 61), (100, 61), (100, 61), (100, 61), (100, 61), (100, 61), (100, 61), (100, 61), (100, 61), (100, 61), (100, 61), (100, 61), (100, 61), (100, 61), (100, 61), (100, 61), (100, 61), (100, 61), (100, 61), (100, 61), (100, 61), (100, 61), (100, 61), (100, 12), (100, 489), (12, 100), (100, 1600), (102, 5), (102, 3), (102, 2), (102, 5), (102, 4), (102, 4), (102, 5), (102, 3), (102, 6), (102, 4), (102, 5), (102, 4), (102, 5), (102, 6), (102, 6), (102, 4), (102, 5), (100, 8), (101, 48), (100, 24), (100, 24), (100, 24), (100, 16), (100, 976), (100, 16), (100, 16), (100, 16), (100, 2), (100, 2), (100, 60), (100, 5), (100, 12), (100, 4), (100, 732), (100, 244), (100, 366), (100, 9760), (100, 12), (102, 5), (102, 4), (102, 5), (102, 5), (102, 4), (102, 5), (102, 3), (102, 3), (102, 2), (102, 3), (102, 3), (102, 3), (102, 3), (102, 4), (102, 3), (102, 5), (102, 5), (102, 6), (102, 4), (102, 4), (100, 1700), (100, 1700), (101, 1700), (100, 489)]
/-- what the final references point at -/
def jpfl : List (List Nat) := [[1, 3, 5, 107, 322, 108, 132, 319, 0, 0, 364, 0, 0, 365, 0], [2, 0], [], [1, 0, 4, 0, 0, 0, 0], [], [3, 6, 0], [], [0, 0, 0, 0, 0, 8, 9, 10, 11, 12, 37, 40, 43, 46], [], [], [], [], [13, 14, 15, 16, 17, 18, 19, 20, 21, 22, 23, 24, 25, 26, 27, 28, 29, 30, 31, 32, 33, 34, 35, 36], [], [], [], [], [], [], [], [], [], [], [], [], [], [], [], [], [], [], [], [], [], [], [], [], [38, 39, 0], [], [], [41, 42, 0], [], [], [44, 45, 0], [], [], [47, 56], [48, 49, 50, 51, 52, 53, 54, 55], [], [], [], [], [], [], [], [], [], [0, 0, 0, 0, 0, 58, 59, 60, 61, 62, 87, 90, 93, 96], [], [], [], [], [63, 64, 65, 66, 67, 68, 69, 70, 71, 72, 73, 74, 75, 76, 77, 78, 79, 80, 81, 82, 83, 84, 85, 86], [], [], [], [], [], [], [], [], [], [], [], [], [], [], [], [], [], [], [], [], [], [], [], [], [88, 89, 0], [], [], [91, 92, 0], [], [], [94, 95, 0], [], [], [97, 106], [98, 99, 100, 101, 102, 103, 104, 105], [], [], [], [], [], [], [], [], [], [3, 5, 0], [109, 110, 111, 0, 0], [], [], [112, 113, 114, 115, 116, 117, 118, 119, 120, 121, 122, 123, 124, 125, 126, 127, 128, 129, 130, 131], [], [], [], [], [], [], [], [], [], [], [], [], [], [], [], [], [], [], [], [], [133, 195, 257], [134, 135, 136, 137, 138, 139, 140, 141, 142, 143, 144, 145, 146, 147, 148, 149, 150, 151, 152, 153, 154, 155, 156, 157, 158, 159, 160, 161, 162, 163, 164, 165, 166, 167, 168, 169, 170, 171, 172, 173, 174, 175, 176, 177, 178, 179, 180, 181, 182, 183, 184, 185, 186, 187, 188, 189, 190, 191, 192, 193, 194], [], [], [], [], [], [], [], [], [], [], [], [], [], [], [], [], [], [], [], [], [], [], [], [], [], [], [], [], [], [], [], [], [], [], [], [], [], [], [], [], [], [], [], [], [], [], [], [], [], [], [], [], [], [], [], [], [], [], [], [], [], [196, 197, 198, 199, 200, 201, 202, 203, 204, 205, 206, 207, 208, 209, 210, 211, 212, 213, 214, 215, 216, 217, 218, 219, 220, 221, 222, 223, 224, 225, 226, 227, 228, 229, 230, 231, 232, 233, 234, 235, 236, 237, 238, 239, 240, 241, 242, 243, 244, 245, 246, 247, 248, 249, 250, 251, 252, 253, 254, 255, 256], [], [], [], [], [], [], [], [], [], [], [], [], [], [], [], [], [], [], [], [], [], [], [], [], [], [], [], [], [], [], [], [], [], [], [], [], [], [], [], [], [], [], [], [], [], [], [], [], [], [], [], [], [], [], [], [], [], [], [], [], [], [258, 259, 260, 261, 262, 263, 264, 265, 266, 267, 268, 269, 270, 271, 272, 273, 274, 275, 276, 277, 278, 279, 280, 281, 282, 283, 284, 285, 286, 287, 288, 289, 290, 291, 292, 293, 294, 295, 296, 297, 298, 299, 300, 301, 302, 303, 304, 305, 306, 307, 308, 309, 310, 311, 312, 313, 314, 315, 316, 317, 318], [], [], [], [], [], [], [], [], [], [], [], [], [], [], [], [], [], [], [], [], [], [], [], [], [], [], [], [], [], [], [], [], [], [], [], [], [], [], [], [], [], [], [], [], [], [], [], [], [], [], [], [], [], [], [], [], [], [], [], [], [], [320, 321, 0, 0, 0, 0, 0, 0, 0, 0, 0], [], [], [3, 132, 323, 0, 0], [324, 325, 326, 327, 328, 329, 330, 331, 332, 333, 334, 335, 336, 337, 338, 339, 340, 341, 342, 343, 344, 345, 346, 347, 348, 349, 350, 351, 352, 353, 354, 355, 356, 357, 358, 359, 360, 361, 362, 363], [], [], [], [], [], [], [], [], [], [], [], [], [], [], [], [], [], [], [], [], [], [], [], [], [], [], [], [], [], [], [], [], [], [], [], [], [], [], [], [], [], [], [367, 0, 0, 0, 0, 0, 0, 0, 0, 0, 368, 369, 370, 371, 372, 373, 374, 375, 376, 377, 378, 379, 380, 381, 382, 383, 384, 0, 385, 386, 0, 0, 387, 388, 389, 390, 391, 392, 393, 394, 395, 396, 0, 397, 0, 398, 0, 0, 0, 0, 0, 0, 399, 400, 0, 0, 0, 0, 0, 401, 402, 403, 404, 0, 0, 0, 405, 0, 406, 407, 408, 409, 410, 411, 412, 413, 414, 415, 416, 417, 418, 419, 420, 421, 422, 423, 424, 425, 426, 0, 427, 0, 0, 0, 428, 0, 0, 0, 429, 0], [], [], [], [], [], [], [], [], [], [], [], [], [], [], [], [], [], [], [], [], [], [], [], [], [], [], [], [], [], [], [], [], [], [], [], [], [], [], [], [], [], [], [], [], [], [], [], [], [], [], [], [], [], [], [], [], [], [], [], [], [], [], []]
abbrev jN0 : Nat := 430
def jsl : List (String × Nat × String) := [("SluicePit$OperaReader", 55, "river"), ("SluicePit$OperaReader", 68, "bed water desk pit sluice mill boat claque bank "), ("SluicePit$OperaReader", 134, "at"), ("SluicePit$OperaReader", 193, "river bed at water desk arms plays pit sluice mill needs boat draft claque drinks bank times "), ("SluicePit$OperaReader", 147, "arms"), ("SluicePit$OperaReader", 149, "plays"), ("SluicePit$PartReader", 91, "durt"), ("SluicePit$PartReader", 59, "times"), ("SluicePit$OperaReader", 108, "needs"), ("SluicePit$OperaReader", 117, "draft"), ("SluicePit$OperaReader", 122, "drinks"), ("SluicePit$Question", 32, "first last often total most least "), ("SluicePit$Question", 104, "not"), ("SluicePit$Question", 119, "all"), ("SluicePit$Question", 168, "bar came out drunk spilt trills deep boat min max "), ("SluicePit$Question", 156, "*/"), ("SluicePit$Question", 151, "+-"), ("SluicePit$Question", 132, "<>="), ("SluicePit$Question", 102, "and"), ("SluicePit$Question", 89, "or")]
def jslen : List Nat := [5, 48, 2, 93, 4, 5, 4, 5, 5, 5, 6, 34, 3, 3, 50, 2, 2, 3, 3, 2]
def jsbyt : List (List Int32) := [[114, 105, 118, 101, 114], [98, 101, 100, 32, 119, 97, 116, 101, 114, 32, 100, 101, 115, 107, 32, 112, 105, 116, 32, 115, 108, 117, 105, 99, 101, 32, 109, 105, 108, 108, 32, 98, 111, 97, 116, 32, 99, 108, 97, 113, 117, 101, 32, 98, 97, 110, 107, 32], [97, 116], [114, 105, 118, 101, 114, 32, 98, 101, 100, 32, 97, 116, 32, 119, 97, 116, 101, 114, 32, 100, 101, 115, 107, 32, 97, 114, 109, 115, 32, 112, 108, 97, 121, 115, 32, 112, 105, 116, 32, 115, 108, 117, 105, 99, 101, 32, 109, 105, 108, 108, 32, 110, 101, 101, 100, 115, 32, 98, 111, 97, 116, 32, 100, 114, 97, 102, 116, 32, 99, 108, 97, 113, 117, 101, 32, 100, 114, 105, 110, 107, 115, 32, 98, 97, 110, 107, 32, 116, 105, 109, 101, 115, 32], [97, 114, 109, 115], [112, 108, 97, 121, 115], [100, 117, 114, 116], [116, 105, 109, 101, 115], [110, 101, 101, 100, 115], [100, 114, 97, 102, 116], [100, 114, 105, 110, 107, 115], [102, 105, 114, 115, 116, 32, 108, 97, 115, 116, 32, 111, 102, 116, 101, 110, 32, 116, 111, 116, 97, 108, 32, 109, 111, 115, 116, 32, 108, 101, 97, 115, 116, 32], [110, 111, 116], [97, 108, 108], [98, 97, 114, 32, 99, 97, 109, 101, 32, 111, 117, 116, 32, 100, 114, 117, 110, 107, 32, 115, 112, 105, 108, 116, 32, 116, 114, 105, 108, 108, 115, 32, 100, 101, 101, 112, 32, 98, 111, 97, 116, 32, 109, 105, 110, 32, 109, 97, 120, 32], [42, 47], [43, 45], [60, 62, 61], [97, 110, 100], [111, 114]]
def jnest : List (String × Nat × MethodName × String) := [("SluicePit$Tape", 19, jy_Sp_put, "SluicePit"), ("SluicePit$Reader", 57, jy_Sp_put, "SluicePit"), ("SluicePit$OperaReader", 23, jy_Op_clear, "SluicePit"), ("SluicePit$Reader", 71, jy_Sp_at, "SluicePit"), ("SluicePit$OperaReader", 140, jy_Sp_put, "SluicePit"), ("SluicePit$OperaReader", 205, jy_Sp_nameRow, "SluicePit"), ("SluicePit$OperaReader", 222, jy_Sp_cellOf, "SluicePit"), ("SluicePit$OperaReader", 180, jy_Sp_at, "SluicePit"), ("SluicePit$OperaReader", 215, jy_Sp_putCell, "SluicePit"), ("SluicePit$OperaReader", 156, jy_Pr_part, "SluicePit"), ("SluicePit$PartReader", 83, jy_Sp_at, "SluicePit"), ("SluicePit$PartReader", 100, jy_Sp_put, "SluicePit"), ("SluicePit$Parts", 20, jy_Sp_at, "SluicePit"), ("SluicePit$Parts", 32, jy_Sp_putCell, "SluicePit"), ("SluicePit$Parts", 24, jy_Sp_put, "SluicePit"), ("SluicePit$Stand", 26, jy_Sp_put, "SluicePit"), ("SluicePit$Pool", 40, jy_Sp_at, "SluicePit"), ("SluicePit$Pool", 44, jy_Sp_put, "SluicePit"), ("SluicePit$Stand", 22, jy_Sp_at, "SluicePit"), ("SluicePit$Run", 50, jy_Sp_at, "SluicePit"), ("SluicePit$Run", 54, jy_Sp_putCell, "SluicePit"), ("SluicePit$Run", 22, jy_Sp_cellOf, "SluicePit"), ("SluicePit$Parts", 28, jy_Sp_cellOf, "SluicePit"), ("SluicePit$Opera", 77, jy_Sp_at, "SluicePit"), ("SluicePit$Acts", 33, jy_Sp_put, "SluicePit"), ("SluicePit$Acts", 47, jy_Sp_putCell, "SluicePit"), ("SluicePit", 250, jy_Pr_part, "SluicePit"), ("SluicePit$Acts", 56, jy_Sp_at, "SluicePit"), ("SluicePit$Acts", 60, jy_Sp_cellOf, "SluicePit"), ("SluicePit$Question", 66, jy_Sp_cellOf, "SluicePit"), ("SluicePit$Question", 128, jy_Sp_putCell, "SluicePit")]
/-! ===== values, worlds ===== -/
abbrev JG : Type := Nat × (Nat → Nat) × (Nat → Nat) × va_G × (Nat → ClassId) × Bool
def jB (G : JG) : Nat := G.1
def jSa (G : JG) : Nat → Nat := G.2.1
def jSv (G : JG) : Nat → Nat := G.2.2.1
def jD (G : JG) : va_G := G.2.2.2.1
def jA (G : JG) : Nat → ClassId := G.2.2.2.2.1
/-- whether the heap's own size is told -/
def jF (G : JG) : Bool := G.2.2.2.2.2
def jad (G : JG) (i : Nat) : Nat := if i < 1000 then jB G + i else if i < 2000 then jSa G (i - 1000) else jSv G (i - 2000)
def jV (G : JG) (v : Value) : Value := match v with
  | .ref i => .ref (jad G i)
  | v => v
theorem jV_cat (G : JG) (v : Value) : (jV G v).category = v.category := by cases v <;> rfl
theorem jad_lt {G : JG} {i : Nat} (h : i < 1000) : jad G i = jB G + i := if_pos h
theorem jV_cats (G : JG) (st : List Value) : (((st.map (jV G)).map fun v => v.category)) = st.map fun v => v.category := by
  rw [List.map_map]; exact List.map_congr_left fun v _ => jV_cat G v
abbrev jtys (G : JG) : List (ClassId × FieldType) := [(jA G 0, .int), (jA G 1, .long), (jA G 2, .char), (jA G 3, .array .int)]
def jws (G : JG) (n : Nat) (ce : Nat → va_E) : va_W := (List.range n).map (fun i => (jB G + i, ce i))
abbrev jAb (G : JG) : Nat → Prop := fun q => jB G ≤ q
def jRep (G : JG) (n : Nat) (ce : Nat → va_E) (H : Heap) : Prop := jB G ≤ H.size ∧ (jF G = true → H.size = jB G + n) ∧ n ≤ 1000 ∧ va_P (jD G) jcl (jws G n ce) H
theorem jws_get {G : JG} {n : Nat} {ce : Nat → va_E} {i : Nat} (h : i < n) : (jws G n ce)[i]? = some (jB G + i, ce i) := by
  unfold jws; rw [List.getElem?_map, List.getElem?_range h]; rfl
theorem jws_of {G : JG} {n : Nat} {ce : Nat → va_E} {i : Nat} {q : Nat × va_E} (h : (jws G n ce)[i]? = some q) : i < n ∧ q = (jB G + i, ce i) := by
  have hl : i < n := by
    have := (List.getElem?_eq_some_iff.mp h).1
    unfold jws at this; rw [List.length_map, List.length_range] at this; exact this
  rw [jws_get hl] at h; cases h; exact ⟨hl, rfl⟩
theorem jws_D {G : JG} {n : Nat} {ce : Nat → va_E} : va_D (jAb G) (jws G n ce) :=
  ⟨fun i j p q hp hq h => by
    obtain ⟨-, rfl⟩ := jws_of hp; obtain ⟨-, rfl⟩ := jws_of hq
    exact Nat.add_left_cancel h, fun k q hk => by obtain ⟨-, rfl⟩ := jws_of hk; exact Nat.le_add_right _ _⟩
theorem jws_congr {G : JG} {n : Nat} {ce ce' : Nat → va_E} (h : ∀ i, i < n → ce i = ce' i) : jws G n ce = jws G n ce' :=
  List.map_congr_left fun i hi => by rw [h i (List.mem_range.mp hi)]
theorem jws_set {G : JG} {n : Nat} {ce : Nat → va_E} {i : Nat} {e : va_E} : (jws G n ce).set i (jB G + i, e) = jws G n (fun k => if k = i then e else ce k) := by
  apply List.ext_getElem?
  intro k
  rw [List.getElem?_set]
  by_cases hk : k < n
  · rw [jws_get hk]
    by_cases hik : i = k
    · subst hik
      rw [if_pos rfl]
      have : i < (jws G n ce).length := by unfold jws; rw [List.length_map, List.length_range]; exact hk
      rw [if_pos this, jws_get hk]
      show some (jB G + i, e) = some (jB G + i, if i = i then e else ce i)
      rw [if_pos rfl]
    · rw [if_neg hik, jws_get hk, if_neg (fun h => hik h.symm)]
  · have e1 : ∀ c : Nat → va_E, (jws G n c)[k]? = none := fun c => List.getElem?_eq_none (by unfold jws; rw [List.length_map, List.length_range]; omega)
    rw [e1, e1]
    by_cases hik : i = k
    · rw [if_pos hik]
      have : ¬ i < (jws G n ce).length := by unfold jws; rw [List.length_map, List.length_range]; omega
      rw [if_neg this]
    · rw [if_neg hik]
theorem jws_push {G : JG} {n : Nat} {ce : Nat → va_E} {e : va_E} : jws G n ce ++ [(jB G + n, e)] = jws G (n + 1) (fun k => if k = n then e else ce k) := by
  have h : jws G n (fun k => if k = n then e else ce k) = jws G n ce := jws_congr fun i hi => if_neg (by omega)
  rw [← h]
  unfold jws
  rw [List.range_succ, List.map_append, List.map_singleton]
  show _ = _ ++ [(jB G + n, if n = n then e else ce n)]
  rw [if_pos rfl]
/-! ===== what the methods take as given of the machine's tables ===== -/
def jX (G : JG) (U : State) : Prop :=
  va_K (jD G) jcl (jtys G) U ∧ vk_S 20 jslen jsbyt (jSa G) (jSv G) (jAb G) U U.heap ∧
  (∀ (i : Nat) (q : String × Nat × String), jsl[i]? = some q → vk_R q.1 q.2.1 q.2.2 (jSa G i) U) ∧
  (∀ q ∈ jnest, va_Nw (.methodLinkNest q.1 q.2.1 q.2.2.1 q.2.2.2) U) ∧
  (Cond.arrayOver (.array .int)).before #[] U = true ∧
  va_Z "java/lang/String" "COMPACT_STRINGS" "Z" (.int 1) (jAb G) U U.heap ∧
  (va_Z "jdk/internal/util/Preconditions" "SIOOBE_FORMATTER" "Ljava/util/function/BiFunction;" .null (jAb G) U U.heap ∨ va_Z "jdk/internal/util/Preconditions" "SIOOBE_FORMATTER" "Ljava/util/function/BiFunction;" (.ref (jSa G 20)) (jAb G) U U.heap)
theorem jX.call {G : JG} {s U : State} {H : Heap} {locs : List Loc} (h : jX G s) (hU : U.heap = H) (hW : s.WarmedH U.vm) (hS : va_S (jAb G) s.heap H locs) : jX G U := by
  obtain ⟨h1, h2, h3, h4, h5, h6, h7⟩ := h
  have hk : ∀ a : Nat, a < s.heap.size → ¬ jAb G a → U.heap[a]? = s.heap[a]? := fun a q1 q2 => by rw [hU]; exact hS.2.1 a q1 q2
  exact ⟨h1.moved hW.alike, (h2.moved hW.alike).kept hk, fun i q hq => (h3 i q hq).warm hW, fun q hq => (h4 q hq).warmM hW, over_moved hW.alike h5, (h6.moved hW.alike).kept hk, h7.imp (fun h => (h.moved hW.alike).kept hk) (fun h => (h.moved hW.alike).kept hk)⟩
theorem jX.blind {G : JG} {U : State} (h : jX G U) (g : JFrame) (mk : MethodId) (a : Array Value) : jX G (U.calling g mk a) := by
  obtain ⟨h1, h2, h3, h4, h5, h6, h7⟩ := h
  have e : U.vm.Alike (U.calling g mk a).vm := Vm.Alike.refl U.vm
  exact ⟨h1.moved e, h2.moved e, fun i q hq => (h3 i q hq).same rfl, fun q hq => (h4 q hq).same rfl rfl, over_moved e h5, h6.moved e, h7.imp (fun h => h.moved e) (fun h => h.moved e)⟩
/-- the fixed things of one method's run -/
def jCx (p : Program) (R : Room) (s : State) (m : MethodId) (args : Array Value) (meth : Method) (c : Code) (G : JG) (cc : ByteArray) (nL D : Nat) (own : String) : Prop :=
  p.tables.exec = Jvm.exec ∧ c.code = cc ∧ c.maxLocals = nL ∧ s.vm.findClass own = some m.cls ∧ (∀ w ∈ jTW, w.before args s = true) ∧ jX G s ∧ jB G ≤ s.heap.size ∧ meth.locks = false ∧ D ≤ R.frames ∧ 64 * D ≤ R.locals ∧ 1 ≤ D
/-- the locals, by place; 'none' where nothing is said -/
def jLs (G : JG) (lsA : Array Slot) (nL : Nat) (ls : List (Option Value)) : Prop := lsA.size = nL ∧ lv_wf lsA ∧ ∀ (i : Nat) (v : Value), ls[i]? = some (some v) → lsA[i]? = some (.val (jV G v))
def jal (G : JG) (ls : List (Option Value)) : List (Nat × Value) := (List.range ls.length).filterMap fun i => match ls[i]? with
  | some (some v) => some (i, jV G v)
  | _ => none
theorem jal_mem {G : JG} {ls : List (Option Value)} {q : Nat × Value} : q ∈ jal G ls ↔ ∃ v, ls[q.1]? = some (some v) ∧ q.2 = jV G v := by
  unfold jal
  rw [List.mem_filterMap]
  constructor
  · rintro ⟨i, -, h⟩
    split at h
    · next v hv => cases h; exact ⟨v, hv, rfl⟩
    · cases h
  · rintro ⟨v, h1, h2⟩
    refine ⟨q.1, List.mem_range.mpr (List.getElem?_eq_some_iff.mp h1).1, ?_⟩
    rw [h1]
    show some (q.1, jV G v) = some q
    rw [← h2]
theorem jLs.has {G : JG} {lsA : Array Slot} {nL : Nat} {ls : List (Option Value)} (h : jLs G lsA nL ls) : lv_has lsA nL (jal G ls) :=
  ⟨h.1, h.2.1, fun q hq => by obtain ⟨v, h1, h2⟩ := jal_mem.mp hq; rw [h2]; exact h.2.2 q.1 v h1⟩
theorem jLs.sub {G : JG} {lsA : Array Slot} {nL : Nat} {ls ls' : List (Option Value)} (h : jLs G lsA nL ls) (hs : ∀ (i : Nat) (v : Value), ls'[i]? = some (some v) → ls[i]? = some (some v)) : jLs G lsA nL ls' :=
  ⟨h.1, h.2.1, fun i v hv => h.2.2 i v (hs i v hv)⟩
/-- the place ahead holds no long -/
def jnl (ls : List (Option Value)) (i : Nat) : Bool := i == 0 || match ls[i - 1]? with
  | some (some (.long _)) => false
  | some (some (.double _)) => false
  | _ => true
theorem jnl_spec {G : JG} {ls : List (Option Value)} {i k : Nat} {v : Value} (h : jnl ls i = true) (hk : ls[k]? = some (some v)) (hki : k + 1 = i) : ¬ (jV G v).category = 2 := by
  subst hki
  unfold jnl at h
  rw [Nat.add_sub_cancel, hk] at h
  cases v <;> simp_all [jV, Value.category]
theorem jLs.of1 {G : JG} {lsA : Array Slot} {nL : Nat} {ls ls' : List (Option Value)} {i : Nat} {v : Value} (hn : jnl ls i = true) (hl : ls.set i (some v) = ls') (h : lv_has lsA nL ((i, jV G v) :: (jal G ls).filter (fun q => !(q.1 == i) && !(q.1 + 1 == i && q.2.category == 2)))) : jLs G lsA nL ls' := by
  refine ⟨h.1, h.2.1, fun j w hj => ?_⟩
  rw [← hl, List.getElem?_set] at hj
  by_cases e : i = j
  · rw [if_pos e] at hj
    split at hj
    · cases hj; rw [← e]; exact h.2.2 _ List.mem_cons_self
    · cases hj
  · rw [if_neg e] at hj
    refine h.2.2 (j, jV G w) (List.mem_cons_of_mem _ (List.mem_filter.mpr ⟨jal_mem.mpr ⟨w, hj, rfl⟩, ?_⟩))
    have e' : ¬ j = i := fun q => e q.symm
    by_cases e2 : j + 1 = i
    · have := jnl_spec (G := G) hn hj e2
      simp [e', this]
    · simp [e', e2]
theorem jLs.of2 {G : JG} {lsA : Array Slot} {nL : Nat} {ls ls' : List (Option Value)} {i : Nat} {v : Value} (hn : jnl ls i = true) (hl : (ls.set i (some v)).set (i + 1) none = ls') (h : lv_has lsA nL ((i, jV G v) :: (jal G ls).filter (fun q => !(q.1 == i) && (!(q.1 == i + 1) && !(q.1 + 1 == i && q.2.category == 2))))) : jLs G lsA nL ls' := by
  refine ⟨h.1, h.2.1, fun j w hj => ?_⟩
  rw [← hl, List.getElem?_set, List.getElem?_set] at hj
  by_cases e0 : i + 1 = j
  · rw [if_pos e0] at hj
    split at hj <;> cases hj
  · rw [if_neg e0] at hj
    by_cases e : i = j
    · rw [if_pos e] at hj
      split at hj
      · cases hj; rw [← e]; exact h.2.2 _ List.mem_cons_self
      · cases hj
    · rw [if_neg e] at hj
      refine h.2.2 (j, jV G w) (List.mem_cons_of_mem _ (List.mem_filter.mpr ⟨jal_mem.mpr ⟨w, hj, rfl⟩, ?_⟩))
      have e' : ¬ j = i := fun q => e q.symm
      have e0' : ¬ j = i + 1 := fun q => e0 q.symm
      by_cases e2 : j + 1 = i
      · have := jnl_spec (G := G) hn hj e2
        simp [e', e0', this]
      · simp [e', e0', e2]
/-- the run from a place in a method, over a world of n cells ce -/
def Wk (p : Program) (l : Launch) (e : Env) (R : Room) (s : State) (m : MethodId) (args : Array Value) (below : List Frame) (meth : Method) (c : Code) (G : JG) (nL : Nat) (Q : State → Prop) (cells slots n : Nat) (ce : Nat → va_E) (pc : Nat) (ls : List (Option Value)) (st : List Value) : Prop :=
  ∀ (lsA : Array Slot) (H : Heap) (locs : List Loc), jLs G lsA nL ls → jRep G n ce H → va_S (jAb G) s.heap H locs → W p l e R s m args below meth c H locs cells slots Q (F0 m pc lsA (st.map (jV G)))
/-- f, if it comes to t with X t, answers for w -/
def J {S : Type} (X : S → Prop) (f : Option S) (w : Prop) : Prop := ∀ t, f = some t → X t → w
theorem J_some {S : Type} {X : S → Prop} {t : S} {w : Prop} (h : X t → w) : J X (some t) w := fun t' ht hX => by cases ht; exact h hX
theorem J_none {S : Type} {X : S → Prop} {w : Prop} : J X none w := fun t' ht _ => by cases ht
theorem J_pos {S : Type} {X : S → Prop} {a b : Option S} {w c : Prop} {i : Decidable c} (hc : c) (h : J X a w) : J X (@ite _ c i a b) w := by rw [if_pos hc]; exact h
theorem J_neg {S : Type} {X : S → Prop} {a b : Option S} {w c : Prop} {i : Decidable c} (hc : ¬ c) (h : J X b w) : J X (@ite _ c i a b) w := by rw [if_neg hc]; exact h
theorem J_mono {S : Type} {X : S → Prop} {f : Option S} {w w' : Prop} (k : w' → w) (h : J X f w') : J X f w := fun t ht hX => k (h t ht hX)
theorem J_br {S : Type} {X : S → Prop} {f : Option S} {w wt wf c : Prop} (k : (c → wt) → (¬ c → wf) → w) (h1 : c → J X f wt) (h2 : ¬ c → J X f wf) : J X f w := fun t ht hX => k (fun hc => h1 hc t ht hX) (fun hc => h2 hc t ht hX)
theorem J_bind {S T : Type} {X : S → Prop} {o : Option T} {g : T → Option S} {w : Prop} (h : ∀ x, o = some x → J X (g x) w) : J X (o.bind g) w := fun t ht hX => by
  cases o with
  | none => cases ht
  | some x => exact h x rfl t ht hX
theorem J_seq {S T : Type} {X : S → Prop} {o : Option T} {g : T → Option S} {w : Prop} (Y : T → Prop) (h1 : J Y o w) (h2 : ∀ x, o = some x → J X (g x) (Y x)) : J X (o.bind g) w := fun t ht hX => by
  cases o with
  | none => cases ht
  | some x => exact h1 x rfl (h2 x rfl t ht hX)
theorem J_all {S A : Type} {X : S → Prop} {f : Option S} {w : A → Prop} (h : ∀ a, J X f (w a)) : J X f (∀ a, w a) := fun t ht hX a => h a t ht hX
theorem J_ite {S : Type} {X : S → Prop} {a b : Option S} {w c : Prop} {i : Decidable c} (h1 : c → J X a w) (h2 : ¬ c → J X b w) : J X (@ite _ c i a b) w := by
  by_cases hc : c
  · rw [if_pos hc]; exact h1 hc
  · rw [if_neg hc]; exact h2 hc
theorem J_div {S : Type} {X : S → Prop} {b : Option S} {w c : Prop} {i : Decidable c} (h2 : ¬ c → J X b w) : J X (@ite _ c i none b) w := J_ite (fun _ => J_none) h2
/-- a loop that may return from the method (inr), else goes on (inl) -/
def jsb {E S T : Type} (o : Option (E ⊕ S)) (w : S → T) (g : E → Option T) : Option T := o.bind fun t => match t with
  | .inl e => g e
  | .inr r => some (w r)
theorem J_sb {E S T : Type} {X : T → Prop} {o : Option (E ⊕ S)} {w : S → T} {g : E → Option T} {k : Prop} (Y : E → Prop) (h1 : J (Sum.elim Y (fun r => X (w r))) o k) (h2 : ∀ e, J X (g e) (Y e)) : J X (jsb o w g) k := fun t ht hX => by
  unfold jsb at ht
  cases o with
  | none => cases ht
  | some u =>
    cases u with
    | inl e => exact h1 (.inl e) rfl (h2 e t ht hX)
    | inr r => cases ht; exact h1 (.inr r) rfl hX
/-- what is said of the locals here is said there -/
def jsubl : List (Option Value) → List (Option Value) → Prop
  | [], _ => True
  | none :: a, [] => jsubl a []
  | none :: a, _ :: b => jsubl a b
  | some v :: a, some w :: b => v = w ∧ jsubl a b
  | some _ :: _, none :: _ => False
  | some _ :: _, [] => False
theorem jsubl_spec : ∀ (a b : List (Option Value)), jsubl a b → ∀ (i : Nat) (v : Value), a[i]? = some (some v) → b[i]? = some (some v)
  | [], _, _, i, v, h => by simp at h
  | none :: a, [], hs, 0, v, h => by simp at h
  | none :: a, [], hs, i + 1, v, h => by have := jsubl_spec a [] hs i v h; simp at this
  | none :: a, _ :: b, hs, 0, v, h => by simp at h
  | none :: a, _ :: b, hs, i + 1, v, h => jsubl_spec a b hs i v h
  | some w :: a, some w' :: b, hs, 0, v, h => by rw [← hs.1]; exact h
  | some w :: a, some w' :: b, hs, i + 1, v, h => jsubl_spec a b hs.2 i v h
def bchk (v : Int32) : Option Int32 := if v = 0 ∨ v = 1 then some v else none
theorem bchk_e {v b : Int32} (h : bchk v = some b) : v = b := by unfold bchk at h; split at h <;> cases h; rfl
theorem bchk_b {v b : Int32} (h : bchk v = some b) : b = 0 ∨ b = 1 := by
  unfold bchk at h; split at h
  · next q => cases h; exact q
  · cases h
theorem bchk_n {v b : Int32} (h : bchk v = some b) : narrow .boolean (.int b) = .int b := by rcases bchk_b h with rfl | rfl <;> rfl
def cchk (v : Int32) : Option Int32 := if v.toUInt32.toUInt16.toUInt32.toInt32 = v then some v else none
theorem cchk_e {v b : Int32} (h : cchk v = some b) : v = b := by unfold cchk at h; split at h <;> cases h; rfl
theorem cchk_n {v b : Int32} (h : cchk v = some b) : narrow .char (.int b) = .int b := by
  unfold cchk at h; split at h
  · next q => cases h; exact congrArg Value.int q
  · cases h
theorem Wk_sub {p : Program} {l : Launch} {e : Env} {R : Room} {s : State} {m : MethodId} {args : Array Value} {below : List Frame} {meth : Method} {c : Code} {G : JG} {nL : Nat} {Q : State → Prop} {cells slots n : Nat} {ce : Nat → va_E} {pc : Nat} {ls ls' : List (Option Value)} {st : List Value} (hs : jsubl ls' ls) (k : Wk p l e R s m args below meth c G nL Q cells slots n ce pc ls' st) : Wk p l e R s m args below meth c G nL Q cells slots n ce pc ls st :=
  fun lsA H locs hl hr hS => k lsA H locs (hl.sub (jsubl_spec ls' ls hs)) hr hS
theorem Wk_sb {p : Program} {l : Launch} {e : Env} {R : Room} {s : State} {m : MethodId} {args : Array Value} {below : List Frame} {meth : Method} {c : Code} {G : JG} {nL : Nat} {Q : State → Prop} {cells slots n : Nat} {ce : Nat → va_E} {pc : Nat} {ls ls' : List (Option Value)} {st : List Value} (k : Wk p l e R s m args below meth c G nL Q cells slots n ce pc ls' st) (hs : jsubl ls' ls) : Wk p l e R s m args below meth c G nL Q cells slots n ce pc ls st := Wk_sub hs k
theorem J_sub {S : Type} {X : S → Prop} {f : Option S} {p : Program} {l : Launch} {e : Env} {R : Room} {s : State} {m : MethodId} {args : Array Value} {below : List Frame} {meth : Method} {c : Code} {G : JG} {nL : Nat} {Q : State → Prop} {cells slots n : Nat} {ce : Nat → va_E} {pc : Nat} {ls ls' : List (Option Value)} {st : List Value} (k : J X f (Wk p l e R s m args below meth c G nL Q cells slots n ce pc ls' st)) (hs : jsubl ls' ls) : J X f (Wk p l e R s m args below meth c G nL Q cells slots n ce pc ls st) := J_mono (Wk_sub hs) k
def jdall (code : ByteArray) (l : List (Nat × Instr × Nat)) : Bool := l.all fun q => decide (decode code q.1 = .ok (q.2.1, q.2.2))
theorem jd {code : ByteArray} {l : List (Nat × Instr × Nat)} (h : jdall code l = true) (i : Nat) {pc len : Nat} {ins : Instr} (hq : l[i]? = some (pc, ins, len)) : decode code pc = .ok (ins, len) :=
  of_decide_eq_true (List.all_eq_true.mp h (pc, ins, len) (List.mem_of_getElem? hq))
def jmin (x y : Int32) : Int32 := if y < x then y else x
def jmax (x y : Int32) : Int32 := if x < y then y else x
abbrev jks (i : Nat) : Prop := 1000 ≤ i ∧ i < 1020
def jsln (i : Nat) : Int32 := nI (jslen.getD (i - 1000) 0)
def jsch (i : Nat) (x : Int32) : Option Int32 := if x < 0 ∨ jslen.getD (i - 1000) 0 ≤ x.toNatClampNeg then none else some ((jsbyt.getD (i - 1000) []).getD x.toNatClampNeg 0)
def jfuel : Nat := 2000
