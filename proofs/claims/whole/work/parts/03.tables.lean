def htl : List Nat := [1, 1, 1, 1, 1, 1, 1, 1, 1, 1, 1, 1, 1, 1, 1, 1, 1, 1, 1, 1, 1, 1, 1, 1, 1, 1, 1, 1, 1, 1, 1, 1, 1, 1, 1, 1, 2, 2, 2, 2, 2, 2, 2, 2, 2, 2, 2, 2, 2, 2, 2, 2, 2, 2, 2, 2, 2, 2, 2, 2, 2, 2, 2, 2, 2, 2, 2, 2, 2, 2, 2, 2, 2, 2, 2, 2, 2, 2, 3, 3, 3, 3, 3, 3, 3, 3, 3, 3, 3, 3, 3, 3, 3, 3, 3, 3, 3, 3, 3, 3, 3, 3, 3, 3, 3, 3, 3, 3, 3, 3, 3, 3, 3, 3, 3, 3, 3, 3, 3, 3, 3, 4, 4, 4, 4, 4, 4, 4, 4, 4, 4, 4, 4, 4, 4, 4, 4, 4, 4, 4, 4, 5, 5, 5, 5, 5, 5, 5, 5, 5, 5, 5, 5, 5, 5, 5, 6, 6, 6, 6, 6, 6, 6, 6, 6, 6, 6, 6, 6, 6, 7, 7, 7, 7, 7, 7, 7, 7, 7, 7, 7, 7, 8, 8, 8, 8, 8, 8, 9, 9, 9, 9, 9, 10, 10, 10, 10, 10, 11, 12]
def ht (m : Nat) : Nat := htl.getD m 100
def mPl : List Nat := [2, 2, 0, 0, 0, 0, 2, 0, 2, 1, 3, 2, 2, 1, 0, 0, 0, 0, 1, 0, 4, 3, 1, 2, 2, 1, 1, 0, 2, 2, 2, 0, 1, 1, 1, 3, 1, 1, 1, 2, 1, 1, 2, 1, 5, 3, 0, 0, 0, 1, 1, 0, 2, 0, 2, 1, 3, 2, 3, 2, 3, 3, 2, 0, 2, 0, 1, 1, 3, 3, 5, 0, 3, 1, 1, 0, 1, 0, 2, 5, 1, 0, 2, 0, 2, 1, 1, 1, 1, 2, 3, 2, 1, 1, 2, 0, 1, 2, 2, 2, 2, 3, 3, 3, 4, 3, 3, 0, 0, 0, 0, 3, 2, 2, 3, 3, 2, 1, 0, 1, 2, 2, 1, 3, 0, 1, 1, 1, 0, 1, 3, 2, 2, 0, 2, 3, 0, 1, 1, 0, 1, 2, 1, 1, 1, 4, 2, 2, 2, 2, 3, 3, 2, 5, 0, 2, 1, 2, 1, 1, 1, 2, 1, 2, 2, 1, 2, 0, 0, 2, 1, 1, 2, 1, 1, 1, 2, 1, 1, 2, 2, 1, 2, 1, 2, 0, 1, 1, 0, 1, 0, 2, 2, 0, 1, 0, 1, 1, 1, 1]
def mP (m : Nat) : Nat := mPl.getD m 0
def mcl : List Nat := [0, 0, 0, 2, 0, 0, 0, 0, 0, 0, 0, 0, 0, 0, 0, 0, 0, 0, 0, 2, 0, 0, 42, 0, 0, 0, 0, 1, 0, 0, 0, 0, 0, 0, 0, 0, 0, 0, 0, 0, 0, 0, 0, 0, 0, 0, 0, 0, 0, 0, 0, 43, 0, 44, 0, 0, 0, 0, 0, 0, 0, 0, 0, 0, 0, 0, 0, 0, 0, 0, 0, 0, 0, 0, 0, 90, 0, 0, 0, 0, 0, 0, 0, 7, 0, 0, 0, 0, 0, 0, 0, 0, 0, 0, 0, 0, 0, 0, 0, 0, 0, 0, 0, 0, 0, 0, 0, 0, 0, 0, 0, 0, 0, 0, 0, 0, 0, 0, 0, 0, 0, 0, 0, 0, 0, 0, 0, 0, 0, 0, 0, 0, 0, 0, 0, 0, 0, 0, 0, 188, 0, 0, 0, 0, 0, 0, 0, 0, 0, 0, 0, 0, 0, 0, 0, 0, 0, 0, 0, 0, 0, 0, 0, 0, 0, 0, 0, 0, 0, 0, 0, 0, 0, 0, 0, 0, 0, 0, 0, 0, 0, 0, 0, 0, 0, 0, 0, 0, 0, 0, 0, 0, 0, 0, 0, 0, 0, 0, 0, 197]
def mc (m : Nat) : Nat := mcl.getD m 0
def msl : List Nat := [0, 0, 0, 40, 0, 0, 0, 0, 0, 0, 0, 0, 0, 0, 0, 0, 0, 0, 0, 135, 0, 0, 6027, 0, 0, 0, 0, 146, 0, 0, 0, 0, 0, 0, 0, 0, 0, 0, 0, 0, 0, 0, 0, 0, 0, 0, 0, 0, 0, 0, 0, 6028, 0, 6030, 0, 0, 0, 0, 0, 0, 0, 0, 0, 0, 0, 0, 0, 0, 0, 0, 0, 0, 0, 0, 0, 12285, 0, 0, 0, 0, 0, 0, 0, 12042, 0, 0, 0, 0, 0, 0, 0, 0, 0, 0, 0, 0, 0, 0, 0, 0, 0, 0, 0, 0, 0, 0, 0, 0, 0, 0, 0, 0, 0, 0, 0, 0, 0, 0, 0, 0, 0, 0, 0, 0, 0, 0, 0, 0, 0, 0, 0, 0, 0, 0, 0, 0, 0, 0, 0, 24686, 0, 0, 0, 0, 0, 0, 0, 0, 0, 0, 0, 0, 0, 0, 0, 0, 0, 0, 0, 0, 0, 0, 0, 0, 0, 0, 0, 0, 0, 0, 0, 0, 0, 0, 0, 0, 0, 0, 0, 0, 0, 0, 0, 0, 0, 0, 0, 0, 0, 0, 0, 0, 0, 0, 0, 0, 0, 0, 0, 36751]
def ms (m : Nat) : Nat := msl.getD m 0
def noL (m : Nat) : Bool := m != 10
def TT0 : u_T := fun k => match k with
  | 0 => ("StrongCells$Book", "acts", "[I", true)
  | 1 => ("StrongCells$Book", "values", "[I", true)
  | _ => ("StrongCells$Book", "count", "I", false)
def tY0 : Nat → FieldType := fun k => match k with
  | 0 => .array .int
  | 1 => .array .int
  | _ => .int
def TT1 : u_T := fun k => match k with
  | 0 => ("StrongCells$Deeds", "shelf", "LStrongCells$Shelf;", true)
  | 1 => ("StrongCells$Deeds", "oldest", "I", false)
  | _ => ("StrongCells$Deeds", "count", "I", false)
def tY1 : Nat → FieldType := fun k => match k with
  | 0 => .object "StrongCells$Shelf"
  | 1 => .int
  | _ => .int
def TT2 : u_T := fun k => match k with
  | 0 => ("StrongCells$Images", "shelf", "LStrongCells$Shelf;", true)
  | _ => ("StrongCells$Images", "seeds", "[I", true)
def tY2 : Nat → FieldType := fun k => match k with
  | 0 => .object "StrongCells$Shelf"
  | _ => .array .int
def TT3 : u_T := fun k => match k with
  | 0 => ("StrongCells$Judge", "needed", "[I", true)
  | _ => ("StrongCells$Judge", "lastOnes", "[I", true)
def tY3 : Nat → FieldType := fun k => match k with
  | 0 => .array .int
  | _ => .array .int
def TT4 : u_T := fun k => match k with
  | _ => ("StrongCells$Shelf", "rows", "[[I", true)
def tY4 : Nat → FieldType := fun k => match k with
  | _ => .array (.array .int)
def TT5 : u_T := fun k => match k with
  | _ => ("StrongCells$State", "row", "[I", true)
def tY5 : Nat → FieldType := fun k => match k with
  | _ => .array .int
def TT6 : u_T := fun k => match k with
  | 0 => ("StrongCells$Ways", "levels", "LStrongCells$Shelf;", true)
  | 1 => ("StrongCells$Ways", "behindFirstBad", "LStrongCells$Shelf;", true)
  | 2 => ("StrongCells$Ways", "walker", "LStrongCells$State;", true)
  | 3 => ("StrongCells$Ways", "nextProcess", "[I", true)
  | 4 => ("StrongCells$Ways", "nextChoice", "[I", true)
  | 5 => ("StrongCells$Ways", "known", "Z", false)
  | 6 => ("StrongCells$Ways", "count", "I", false)
  | 7 => ("StrongCells$Ways", "badCount", "I", false)
  | 8 => ("StrongCells$Ways", "firstBad", "I", false)
  | 9 => ("StrongCells$Ways", "firstBadSteps", "I", false)
  | _ => ("StrongCells$Ways", "longest", "I", false)
def tY6 : Nat → FieldType := fun k => match k with
  | 0 => .object "StrongCells$Shelf"
  | 1 => .object "StrongCells$Shelf"
  | 2 => .object "StrongCells$State"
  | 3 => .array .int
  | 4 => .array .int
  | 5 => .boolean
  | 6 => .int
  | 7 => .int
  | 8 => .int
  | 9 => .int
  | _ => .int
def TT7 : u_T := fun k => match k with
  | 0 => ("StrongCells", "now", "LStrongCells$State;", true)
  | 1 => ("StrongCells", "judge", "LStrongCells$Judge;", true)
  | 2 => ("StrongCells", "allWays", "LStrongCells$Ways;", true)
  | 3 => ("StrongCells", "deeds", "LStrongCells$Deeds;", true)
  | 4 => ("StrongCells", "images", "LStrongCells$Images;", true)
  | 5 => ("StrongCells", "book", "LStrongCells$Book;", true)
  | _ => ("StrongCells", "drawn", "I", false)
def tY7 : Nat → FieldType := fun k => match k with
  | 0 => .object "StrongCells$State"
  | 1 => .object "StrongCells$Judge"
  | 2 => .object "StrongCells$Ways"
  | 3 => .object "StrongCells$Deeds"
  | 4 => .object "StrongCells$Images"
  | 5 => .object "StrongCells$Book"
  | _ => .int
def TT8 : u_T := fun k => match k with
  | 0 => ("StrongCellsModel", "w", "[I", true)
  | 1 => ("StrongCellsModel", "known", "I", false)
  | 2 => ("StrongCellsModel", "kept", "I", false)
  | 3 => ("StrongCellsModel", "seed", "I", false)
  | 4 => ("StrongCellsModel", "imageSeed", "[I", true)
  | 5 => ("StrongCellsModel", "bookOf", "[I", true)
  | 6 => ("StrongCellsModel", "bookIs", "[I", true)
  | 7 => ("StrongCellsModel", "written", "I", false)
  | 8 => ("StrongCellsModel", "reach", "[I", true)
  | 9 => ("StrongCellsModel", "wayOf", "[I", true)
  | 10 => ("StrongCellsModel", "wayBy", "[I", true)
  | 11 => ("StrongCellsModel", "wayMany", "I", false)
  | 12 => ("StrongCellsModel", "wayBad", "I", false)
  | 13 => ("StrongCellsModel", "wayFirst", "I", false)
  | 14 => ("StrongCellsModel", "wayLongest", "I", false)
  | _ => ("StrongCellsModel", "latest", "I", false)
def tY8 : Nat → FieldType := fun k => match k with
  | 0 => .array .int
  | 1 => .int
  | 2 => .int
  | 3 => .int
  | 4 => .array .int
  | 5 => .array .int
  | 6 => .array .int
  | 7 => .int
  | 8 => .array .int
  | 9 => .array .int
  | 10 => .array .int
  | 11 => .int
  | 12 => .int
  | 13 => .int
  | 14 => .int
  | _ => .int
def clss : List vw_C := [("StrongCells$Book", TT0, 3), ("StrongCells$Deeds", TT1, 3), ("StrongCells$Images", TT2, 2), ("StrongCells$Judge", TT3, 2), ("StrongCells$Shelf", TT4, 1), ("StrongCells$State", TT5, 1), ("StrongCells$Ways", TT6, 11), ("StrongCells", TT7, 7), ("StrongCellsModel", TT8, 16)]
def cNl : List Nat := [3, 3, 2, 2, 1, 1, 11, 7, 16]
def cNf (c : Nat) : Nat := cNl.getD c 0
def isIl : List (List Bool) := [[false, false, true], [false, true, true], [false, false], [false, false], [false], [false], [false, false, false, false, false, true, true, true, true, true, true], [false, false, false, false, false, false, true], [false, true, true, true, false, false, false, true, false, false, false, true, true, true, true, true]]
def isI (c k : Nat) : Bool := (isIl.getD c []).getD k false
def isZl : List (List Bool) := [[false, false, false], [false, false, false], [false, false], [false, false], [false], [false], [false, false, false, false, false, true, false, false, false, false, false], [false, false, false, false, false, false, false], [false, false, false, false, false, false, false, false, false, false, false, false, false, false, false, false]]
def isZ (c k : Nat) : Bool := (isZl.getD c []).getD k false
def tYY (c : Nat) : Nat → FieldType := match c with
  | 0 => tY0
  | 1 => tY1
  | 2 => tY2
  | 3 => tY3
  | 4 => tY4
  | 5 => tY5
  | 6 => tY6
  | 7 => tY7
  | _ => tY8
def TTT (c : Nat) : u_T := match c with
  | 0 => TT0
  | 1 => TT1
  | 2 => TT2
  | 3 => TT3
  | 4 => TT4
  | 5 => TT5
  | 6 => TT6
  | 7 => TT7
  | _ => TT8
def cNm (c : Nat) : String := (["StrongCells$Book", "StrongCells$Deeds", "StrongCells$Images", "StrongCells$Judge", "StrongCells$Shelf", "StrongCells$State", "StrongCells$Ways", "StrongCells", "StrongCellsModel"] : List String).getD c ""
theorem clss_get : ∀ c, c < 9 → clss[c]? = some (cNm c, TTT c, cNf c) := by
  intro c h
  match c, h with
  | 0, _ => rfl
  | 1, _ => rfl
  | 2, _ => rfl
  | 3, _ => rfl
  | 4, _ => rfl
  | 5, _ => rfl
  | 6, _ => rfl
  | 7, _ => rfl
  | 8, _ => rfl
  | c + 9, h => exact absurd h (by omega)
theorem tY_ok : ∀ c, c < 9 → ∀ k, k < cNf c → parseFieldDescriptor (TTT c k).2.2.1 = some (tYY c k) := by decide +kernel
theorem nm_ok : ∀ c, c < 9 → ∀ a, a < cNf c → ∀ b, b < cNf c → a ≠ b → (TTT c a).2.1 ≠ (TTT c b).2.1 := by decide +kernel
def layT : List (Nat × Nat × Nat) := [(0, 0, 225), (0, 1, 227), (0, 2, 229), (1, 0, 194), (1, 1, 196), (1, 2, 198), (2, 0, 211), (2, 1, 213), (3, 0, 116), (3, 1, 118), (4, 0, 139), (5, 0, 104), (6, 0, 160), (6, 1, 162), (6, 2, 164), (6, 3, 166), (6, 4, 168), (6, 5, 170), (6, 6, 172), (6, 7, 174), (6, 8, 176), (6, 9, 178), (6, 10, 180), (7, 0, 263), (7, 1, 265), (7, 2, 267), (7, 3, 269), (7, 4, 271), (7, 5, 273), (7, 6, 275), (8, 0, 741), (8, 1, 743), (8, 2, 745), (8, 3, 747), (8, 4, 749), (8, 5, 751), (8, 6, 753), (8, 7, 755), (8, 8, 757), (8, 9, 759), (8, 10, 761), (8, 11, 763), (8, 12, 765), (8, 13, 767), (8, 14, 769), (8, 15, 771)]
theorem layT_ok : layT.all (fun e => (decide (lw_tbl[e.2.2]? = some (u_lay (cNm e.1) (TTT e.1) e.2.1)) && goodWord (u_lay (cNm e.1) (TTT e.1) e.2.1))) = true := by decide +kernel
theorem lay_all : ∀ c, c < 9 → ∀ k, k < cNf c → layT.any (fun e => e.1 == c && e.2.1 == k) = true := by decide +kernel
theorem lay_in (c : Nat) (hc : c < 9) : ∀ w ∈ u_ws (cNm c) (TTT c) (cNf c), w ∈ wsAll := by
  intro w hw
  obtain ⟨k, hk, rfl⟩ := List.mem_map.mp hw
  obtain ⟨e, he, h2⟩ := List.any_eq_true.mp (lay_all c hc k (List.mem_range.mp hk))
  have h3 := List.all_eq_true.mp layT_ok e he
  simp only [Bool.and_eq_true, beq_iff_eq] at h2
  obtain ⟨rfl, rfl⟩ := h2
  exact wsAll_and h3
def iniT : List (Nat × Nat) := [(0, 84), (1, 82), (2, 82), (3, 82), (4, 82), (5, 82), (6, 83), (7, 83), (8, 83), (9, 83), (10, 83), (11, 83), (12, 83), (13, 83), (14, 83), (15, 83), (16, 80), (17, 80), (18, 81), (19, 76), (20, 87), (21, 87), (22, 78), (23, 78), (24, 78), (25, 75), (26, 75), (27, 75), (28, 75), (29, 75), (30, 75), (31, 77), (32, 77), (33, 74), (34, 74), (35, 74), (36, 82), (37, 83), (38, 83), (39, 83), (40, 83), (41, 83), (42, 83), (43, 83), (44, 83), (45, 83), (46, 83), (47, 83), (48, 83), (49, 83), (50, 80), (51, 80), (52, 80), (53, 81), (54, 81), (55, 81), (56, 81), (57, 76), (58, 76), (59, 76), (60, 87), (61, 87), (62, 87), (63, 75), (64, 75), (65, 75), (66, 75), (67, 75), (68, 75), (69, 75), (70, 75), (71, 75), (72, 85), (73, 85), (74, 77), (75, 77), (76, 74), (77, 74), (78, 83), (79, 83), (80, 83), (81, 83), (82, 83), (83, 83), (84, 83), (85, 83), (86, 83), (87, 83), (88, 83), (89, 83), (90, 83), (91, 83), (92, 83), (93, 83), (94, 83), (95, 83), (96, 81), (97, 76), (98, 76), (99, 76), (100, 76), (101, 76), (102, 76), (103, 87), (104, 87), (105, 87), (106, 87), (107, 75), (108, 75), (109, 75), (110, 75), (111, 85), (112, 85), (113, 85), (114, 85), (115, 85), (116, 85), (117, 74), (118, 74), (119, 74), (120, 74), (121, 83), (122, 83), (123, 83), (124, 83), (125, 83), (126, 83), (127, 83), (128, 83), (129, 76), (130, 76), (131, 76), (132, 87), (133, 75), (134, 85), (135, 85), (136, 74), (137, 74), (138, 74), (139, 74), (140, 74), (141, 83), (142, 83), (143, 83), (144, 83), (145, 83), (146, 83), (147, 76), (148, 76), (149, 76), (150, 85), (151, 85), (152, 77), (153, 74), (154, 74), (155, 74), (156, 83), (157, 83), (158, 83), (159, 83), (160, 83), (161, 83), (162, 76), (163, 76), (164, 76), (165, 77), (166, 74), (167, 74), (168, 74), (169, 74), (170, 83), (171, 83), (172, 83), (173, 83), (174, 83), (175, 83), (176, 83), (177, 76), (178, 76), (179, 77), (180, 74), (181, 74), (182, 83), (183, 83), (184, 83), (185, 74), (186, 74), (187, 74), (188, 83), (189, 83), (190, 83), (191, 83), (192, 83), (193, 83), (194, 83), (195, 83), (196, 83), (197, 83), (198, 83), (199, 73)]
theorem iniT_ok : iniT.all (fun e => (decide (lw_tbl[e.2]? = some (Cond.initialized (mN e.1).cls)) && goodWord (Cond.initialized (mN e.1).cls))) = true := by decide +kernel
theorem ini_all : ∀ m, m < 200 → iniT.any (fun e => e.1 == m) = true := by decide +kernel
theorem ini_in (m : Nat) (hm : m < 200) : Cond.initialized (mN m).cls ∈ wsAll := by
  obtain ⟨e, he, h2⟩ := List.any_eq_true.mp (ini_all m hm)
  have h3 := List.all_eq_true.mp iniT_ok e he
  simp only [beq_iff_eq] at h2
  subst h2
  exact wsAll_and h3
def kdl : List Nat := [1, 0, 0, 2, 0, 0, 0, 0, 0, 0, 1, 0, 0, 0, 0, 0, 0, 0, 0, 2, 1, 1, 2, 0, 0, 0, 0, 2, 0, 0, 0, 0, 0, 0, 0, 1, 0, 0, 0, 0, 0, 0, 0, 0, 0, 0, 0, 0, 0, 0, 0, 2, 0, 2, 0, 0, 0, 1, 1, 1, 1, 1, 1, 0, 0, 0, 0, 0, 0, 0, 0, 0, 1, 1, 0, 2, 0, 0, 0, 0, 0, 0, 0, 2, 0, 0, 0, 0, 0, 0, 0, 0, 0, 0, 0, 0, 0, 1, 1, 0, 1, 0, 1, 1, 1, 1, 1, 0, 0, 0, 0, 1, 1, 1, 1, 1, 1, 0, 0, 0, 0, 0, 0, 0, 0, 0, 0, 0, 0, 0, 1, 1, 1, 0, 1, 1, 0, 0, 0, 2, 0, 0, 0, 0, 0, 0, 0, 1, 1, 0, 1, 1, 0, 0, 0, 0, 0, 0, 0, 0, 0, 0, 0, 0, 0, 0, 0, 0, 0, 0, 0, 0, 0, 0, 0, 0, 0, 0, 0, 0, 0, 0, 0, 0, 0, 0, 0, 0, 0, 0, 0, 0, 0, 0, 0, 0, 0, 0, 0, 1]
def kd (m : Nat) : Nat := kdl.getD m 9
def stcT : List (Nat × Nat) := [(0, 336), (10, 888), (20, 566), (21, 544), (35, 283), (57, 323), (58, 333), (59, 343), (60, 537), (61, 541), (62, 533), (72, 498), (73, 558), (97, 330), (98, 320), (100, 362), (102, 365), (103, 609), (104, 530), (105, 547), (106, 521), (111, 495), (112, 432), (113, 550), (114, 612), (115, 508), (116, 512), (130, 379), (131, 359), (132, 516), (134, 490), (135, 501), (147, 376), (148, 390), (150, 487), (151, 606)]
theorem stcT_ok : stcT.all (fun e => (decide (lw_tbl[e.2]? = some (Cond.static (mN e.1))) && goodWord (Cond.static (mN e.1)))) = true := by decide +kernel
def insT : List (Nat × Nat × Nat) := [(1, 664, 665), (2, 672, 673), (3, 219, 0), (4, 660, 661), (5, 403, 404), (6, 929, 47), (7, 788, 15), (8, 958, 52), (9, 1072, 72), (11, 723, 12), (12, 820, 23), (13, 1092, 1093), (14, 1088, 1089), (15, 784, 14), (16, 574, 575), (17, 413, 414), (18, 684, 685), (19, 111, 0), (22, 130, 0), (23, 458, 459), (24, 470, 471), (25, 249, 250), (26, 398, 399), (27, 99, 0), (28, 308, 309), (29, 326, 327), (30, 237, 238), (31, 578, 579), (32, 466, 4), (33, 641, 10), (34, 676, 677), (36, 407, 408), (37, 884, 885), (38, 1100, 1101), (39, 1002, 63), (40, 945, 50), (41, 909, 42), (42, 800, 18), (43, 1096, 1097), (44, 719, 11), (45, 816, 22), (46, 780, 13), (47, 1035, 67), (48, 876, 37), (49, 1079, 1080), (50, 601, 602), (51, 186, 0), (52, 651, 652), (53, 204, 0), (54, 706, 707), (55, 702, 703), (56, 688, 689), (63, 592, 593), (64, 253, 254), (65, 504, 505), (66, 304, 305), (67, 525, 526), (68, 245, 246), (69, 554, 555), (70, 233, 234), (71, 291, 292), (74, 628, 629), (75, 124, 0), (76, 443, 3), (77, 668, 669), (78, 1043, 69), (79, 1017, 1018), (80, 925, 46), (81, 1025, 1026), (82, 978, 57), (83, 714, 0), (84, 812, 21), (85, 897, 39), (86, 796, 17), (87, 921, 45), (88, 840, 28), (89, 994, 61), (90, 1014, 66), (91, 937, 49), (92, 990, 60), (93, 917, 44), (94, 1084, 1085), (95, 880, 38), (96, 698, 699), (99, 350, 351), (101, 340, 0), (107, 295, 296), (108, 287, 288), (109, 241, 242), (110, 300, 301), (117, 680, 681), (118, 598, 8), (119, 647, 648), (120, 656, 657), (121, 1039, 68), (122, 913, 43), (123, 828, 25), (124, 962, 53), (125, 901, 40), (126, 836, 27), (127, 872, 36), (128, 792, 16), (129, 312, 313), (133, 393, 394), (136, 571, 7), (137, 417, 418), (138, 694, 695), (139, 91, 0), (140, 428, 2), (141, 1029, 1030), (142, 905, 41), (143, 933, 48), (144, 852, 31), (145, 824, 24), (146, 856, 32), (149, 355, 356), (152, 476, 5), (153, 562, 563), (154, 582, 583), (155, 423, 424), (156, 970, 55), (157, 1010, 65), (158, 808, 20), (159, 848, 30), (160, 986, 59), (161, 892, 893), (162, 346, 347), (163, 387, 1), (164, 372, 373), (165, 482, 6), (166, 586, 587), (167, 637, 9), (168, 620, 621), (169, 615, 616), (170, 982, 58), (171, 966, 54), (172, 1006, 64), (173, 998, 62), (174, 860, 33), (175, 844, 29), (176, 868, 35), (177, 382, 383), (178, 368, 369), (179, 454, 455), (180, 438, 439), (181, 632, 633), (182, 940, 941), (183, 864, 34), (184, 974, 56), (185, 624, 625), (186, 279, 280), (187, 450, 451), (188, 1068, 71), (189, 832, 26), (190, 1055, 70), (191, 954, 51), (192, 1046, 1047), (193, 1058, 1059), (194, 1062, 1063), (195, 1050, 1051), (196, 804, 19), (197, 948, 949), (198, 775, 776)]
theorem insT_ok : insT.all (fun e => (decide (lw_tbl[e.2.1]? = some (Cond.instanceMethod (mN e.1))) && goodWord (Cond.instanceMethod (mN e.1)))) = true := by decide +kernel
theorem selT_ok : insT.all (fun e => decide (kd e.1 = 2) || (decide (lw_tbl[e.2.2]? = some (Cond.selects (mN e.1).cls (mN e.1) (mN e.1))) && goodWord (Cond.selects (mN e.1).cls (mN e.1) (mN e.1)))) = true := by decide +kernel
theorem kd_all : ∀ m, m < 199 → ((kd m = 1 ∧ stcT.any (fun e => e.1 == m) = true) ∨ (kd m ≠ 1 ∧ insT.any (fun e => e.1 == m) = true)) := by decide +kernel
theorem stc_in (m : Nat) (hm : m < 199) (hk : kd m = 1) : Cond.static (mN m) ∈ wsAll := by
  rcases kd_all m hm with ⟨-, h⟩ | ⟨h, -⟩
  · obtain ⟨e, he, h2⟩ := List.any_eq_true.mp h
    have h3 := List.all_eq_true.mp stcT_ok e he
    simp only [beq_iff_eq] at h2
    subst h2
    exact wsAll_and h3
  · exact absurd hk h
theorem ins_in (m : Nat) (hm : m < 199) (hk : kd m ≠ 1) : Cond.instanceMethod (mN m) ∈ wsAll := by
  rcases kd_all m hm with ⟨h, -⟩ | ⟨-, h⟩
  · exact absurd h hk
  · obtain ⟨e, he, h2⟩ := List.any_eq_true.mp h
    have h3 := List.all_eq_true.mp insT_ok e he
    simp only [beq_iff_eq] at h2
    subst h2
    exact wsAll_and h3
theorem sel_in (m : Nat) (hm : m < 199) (hk : kd m = 0) : Cond.selects (mN m).cls (mN m) (mN m) ∈ wsAll := by
  rcases kd_all m hm with ⟨h, -⟩ | ⟨-, h⟩
  · exact absurd (hk.symm.trans h) (by decide)
  · obtain ⟨e, he, h2⟩ := List.any_eq_true.mp h
    have h3 := List.all_eq_true.mp selT_ok e he
    simp only [beq_iff_eq] at h2
    subst h2
    rw [Bool.or_eq_true] at h3
    rcases h3 with h3 | h3
    · exact absurd (hk.symm.trans (of_decide_eq_true h3)) (by decide)
    · exact wsAll_and h3
def oNm (c : Nat) : String := (["StrongCells", "StrongCells$Book", "StrongCells$Deeds", "StrongCells$Images", "StrongCells$Judge", "StrongCells$Plan", "StrongCells$Shelf", "StrongCells$State", "StrongCells$Steps", "StrongCells$Ways", "StrongCellsLaw", "StrongCellsModel", "java/util/Arrays"] : List String).getD c ""
def mCl : List Nat := [12, 1, 1, 1, 1, 1, 11, 11, 11, 11, 11, 11, 11, 11, 11, 11, 2, 2, 3, 4, 5, 5, 6, 6, 6, 7, 7, 7, 7, 7, 7, 9, 9, 0, 0, 0, 1, 11, 11, 11, 11, 11, 11, 11, 11, 11, 11, 11, 11, 11, 2, 2, 2, 3, 3, 3, 3, 4, 4, 4, 5, 5, 5, 7, 7, 7, 7, 7, 7, 7, 7, 7, 8, 8, 9, 9, 0, 0, 11, 11, 11, 11, 11, 11, 11, 11, 11, 11, 11, 11, 11, 11, 11, 11, 11, 11, 3, 4, 4, 4, 4, 4, 4, 5, 5, 5, 5, 7, 7, 7, 7, 8, 8, 8, 8, 8, 8, 0, 0, 0, 0, 11, 11, 11, 11, 11, 11, 11, 11, 4, 4, 4, 5, 7, 8, 8, 0, 0, 0, 0, 0, 11, 11, 11, 11, 11, 11, 4, 4, 4, 8, 8, 9, 0, 0, 0, 11, 11, 11, 11, 11, 11, 4, 4, 4, 9, 0, 0, 0, 0, 11, 11, 11, 11, 11, 11, 11, 4, 4, 9, 0, 0, 11, 11, 11, 0, 0, 0, 11, 11, 11, 11, 11, 11, 11, 11, 11, 11, 11, 10]
def mC (m : Nat) : Nat := mCl.getD m 99
theorem mC_ok : ∀ m, m < 200 → (mN m).cls = oNm (mC m) := by decide +kernel
def mK (m : Nat) : Nat := ([99, 0, 0, 0, 0, 0, 8, 8, 8, 8, 8, 8, 8, 8, 8, 8, 1, 1, 2, 3, 99, 99, 4, 4, 4, 5, 5, 5, 5, 5, 5, 6, 6, 7, 7, 7, 0, 8, 8, 8, 8, 8, 8, 8, 8, 8, 8, 8, 8, 8, 1, 1, 1, 2, 2, 2, 2, 3, 3, 3, 99, 99, 99, 5, 5, 5, 5, 5, 5, 5, 5, 5, 99, 99, 6, 6, 7, 7, 8, 8, 8, 8, 8, 8, 8, 8, 8, 8, 8, 8, 8, 8, 8, 8, 8, 8, 2, 3, 3, 3, 3, 3, 3, 99, 99, 99, 99, 5, 5, 5, 5, 99, 99, 99, 99, 99, 99, 7, 7, 7, 7, 8, 8, 8, 8, 8, 8, 8, 8, 3, 3, 3, 99, 5, 99, 99, 7, 7, 7, 7, 7, 8, 8, 8, 8, 8, 8, 3, 3, 3, 99, 99, 6, 7, 7, 7, 8, 8, 8, 8, 8, 8, 3, 3, 3, 6, 7, 7, 7, 7, 8, 8, 8, 8, 8, 8, 8, 3, 3, 6, 7, 7, 8, 8, 8, 7, 7, 7, 8, 8, 8, 8, 8, 8, 8, 8, 8, 8, 8, 99] : List Nat).getD m 99
theorem mK_ok : ∀ m, m < 200 → mK m < 9 → (mN m).cls = cNm (mK m) := by decide +kernel
def flT : List (Nat × Nat × Nat × Nat × Nat) := [(7, 11, 5, 0, 102), (6, 22, 5, 0, 103), (4, 11, 3, 0, 114), (4, 17, 3, 1, 115), (6, 17, 4, 0, 138), (9, 16, 6, 0, 144), (9, 20, 6, 1, 145), (9, 26, 6, 2, 146), (9, 30, 6, 3, 147), (9, 34, 6, 4, 148), (9, 37, 6, 5, 149), (9, 45, 6, 6, 150), (0, 143, 6, 6, 151), (9, 49, 6, 7, 152), (0, 146, 6, 7, 153), (9, 52, 6, 8, 154), (0, 149, 6, 8, 155), (9, 55, 6, 9, 156), (0, 187, 6, 9, 157), (9, 58, 6, 10, 158), (0, 152, 6, 10, 159), (2, 14, 1, 0, 191), (2, 22, 1, 1, 192), (2, 18, 1, 2, 193), (3, 14, 2, 0, 209), (3, 20, 2, 1, 210), (1, 11, 0, 0, 222), (1, 15, 0, 1, 223), (1, 18, 0, 2, 224), (0, 10, 7, 0, 256), (0, 19, 7, 1, 257), (0, 26, 7, 2, 258), (0, 33, 7, 3, 259), (0, 40, 7, 4, 260), (0, 47, 7, 5, 261), (0, 101, 7, 6, 262), (11, 7, 8, 0, 725), (11, 39, 8, 1, 726), (11, 282, 8, 2, 727), (11, 219, 8, 3, 728), (11, 13, 8, 4, 729), (11, 16, 8, 5, 730), (11, 19, 8, 6, 731), (11, 207, 8, 7, 732), (11, 22, 8, 8, 733), (11, 25, 8, 9, 734), (11, 28, 8, 10, 735), (11, 179, 8, 11, 736), (11, 182, 8, 12, 737), (11, 176, 8, 13, 738), (11, 185, 8, 14, 739), (11, 272, 8, 15, 740)]
theorem flT_ok : flT.all (fun e => (decide (lw_tbl[e.2.2.2.2]? = some (Cond.fieldLink (oNm e.1) e.2.1 (TTT e.2.2.1 e.2.2.2.1).1 (TTT e.2.2.1 e.2.2.2.1).2.1 (TTT e.2.2.1 e.2.2.2.1).2.2.1)) && goodWord (Cond.fieldLink (oNm e.1) e.2.1 (TTT e.2.2.1 e.2.2.2.1).1 (TTT e.2.2.1 e.2.2.2.1).2.1 (TTT e.2.2.1 e.2.2.2.1).2.2.1)) && decide (e.2.2.1 < 9) && decide (e.2.2.2.1 < cNf e.2.2.1)) = true := by decide +kernel
def flk (m idx : Nat) : Option (Nat × Nat) := (flT.find? (fun e => e.1 == mC m && e.2.1 == idx)).map (fun e => (e.2.2.1, e.2.2.2.1))
theorem flk_ok {m idx ci k : Nat} (hm : m < 200) (h : flk m idx = some (ci, k)) : Cond.fieldLink (mN m).cls idx (TTT ci k).1 (TTT ci k).2.1 (TTT ci k).2.2.1 ∈ wsAll ∧ ci < 9 ∧ k < cNf ci := by
  unfold flk at h
  rw [Option.map_eq_some_iff] at h
  obtain ⟨e, he, h2⟩ := h
  have hm2 := List.mem_of_find?_eq_some he
  have hp := List.find?_some he
  simp only [Bool.and_eq_true, beq_iff_eq] at hp
  have h3 := List.all_eq_true.mp flT_ok e hm2
  simp only [Bool.and_eq_true, decide_eq_true_eq] at h3
  cases h2
  obtain ⟨⟨h4, h5⟩, h6⟩ := h3
  rw [mC_ok m hm, ← hp.1, ← hp.2]
  exact ⟨wsAll_of h4.1 h4.2, h5, h6⟩
def mlT : List (Nat × Nat × Nat × Nat) := [(10, 9, 139, 90), (9, 13, 22, 129), (2, 11, 22, 190), (3, 11, 22, 208), (0, 51, 70, 232), (7, 15, 30, 236), (0, 55, 109, 240), (7, 19, 68, 244), (7, 23, 25, 248), (7, 27, 64, 252), (10, 13, 186, 278), (0, 58, 35, 282), (0, 63, 108, 286), (7, 30, 71, 290), (0, 67, 107, 294), (0, 70, 25, 298), (0, 74, 110, 299), (7, 38, 66, 303), (7, 34, 28, 307), (0, 77, 129, 311), (4, 34, 25, 315), (4, 64, 98, 319), (4, 28, 57, 322), (4, 80, 29, 325), (4, 67, 97, 329), (4, 83, 58, 332), (4, 70, 0, 335), (4, 76, 101, 338), (4, 24, 59, 342), (0, 81, 162, 345), (4, 46, 99, 349), (4, 20, 71, 353), (4, 49, 149, 354), (4, 31, 131, 358), (4, 86, 100, 361), (4, 38, 102, 364), (0, 85, 178, 367), (4, 52, 164, 371), (4, 42, 147, 375), (4, 89, 130, 378), (0, 88, 177, 381), (4, 55, 163, 385), (4, 92, 148, 389), (0, 91, 133, 392), (7, 42, 107, 396), (7, 45, 26, 397), (0, 94, 5, 402), (0, 97, 36, 406), (1, 24, 25, 410), (1, 28, 29, 411), (0, 100, 17, 412), (10, 18, 137, 416), (0, 106, 26, 421), (10, 22, 155, 422), (0, 109, 140, 426), (0, 113, 28, 430), (0, 117, 112, 431), (8, 50, 66, 434), (8, 53, 28, 435), (8, 11, 25, 436), (10, 27, 180, 437), (0, 123, 76, 441), (0, 126, 29, 445), (0, 129, 99, 446), (0, 133, 149, 447), (0, 136, 164, 448), (10, 31, 187, 449), (0, 139, 179, 453), (9, 61, 23, 457), (9, 64, 32, 464), (9, 41, 24, 469), (9, 68, 110, 473), (9, 72, 152, 474), (9, 86, 129, 479), (9, 76, 165, 480), (9, 92, 108, 484), (9, 95, 112, 485), (9, 101, 150, 486), (8, 57, 134, 489), (8, 27, 68, 492), (8, 72, 26, 493), (8, 75, 111, 494), (8, 60, 72, 497), (8, 63, 135, 500), (8, 81, 65, 503), (8, 85, 115, 507), (8, 66, 116, 511), (8, 78, 64, 514), (8, 42, 132, 515), (5, 23, 28, 518), (5, 27, 68, 519), (5, 31, 106, 520), (5, 19, 25, 523), (5, 9, 67, 524), (5, 15, 65, 528), (5, 37, 104, 529), (5, 45, 62, 532), (5, 60, 29, 535), (5, 49, 60, 536), (5, 52, 71, 539), (5, 56, 61, 540), (5, 63, 21, 543), (5, 41, 105, 546), (8, 69, 113, 549), (8, 19, 67, 552), (8, 15, 69, 553), (8, 46, 73, 557), (8, 23, 30, 560), (10, 35, 153, 561), (0, 155, 20, 565), (0, 162, 136, 569), (0, 221, 16, 573), (0, 201, 31, 577), (10, 40, 154, 581), (10, 45, 166, 585), (0, 165, 67, 589), (0, 168, 66, 590), (0, 171, 63, 591), (0, 176, 118, 596), (0, 231, 50, 600), (2, 25, 23, 604), (0, 179, 151, 605), (8, 30, 103, 608), (8, 36, 114, 611), (10, 49, 169, 614), (0, 183, 150, 618), (10, 53, 168, 619), (10, 57, 185, 623), (0, 190, 74, 627), (10, 61, 181, 631), (0, 194, 167, 635), (0, 233, 33, 639), (10, 65, 119, 646), (0, 197, 52, 650), (2, 29, 24, 654), (10, 69, 120, 655), (0, 204, 4, 659), (0, 207, 1, 663), (10, 73, 77, 667), (0, 211, 2, 671), (10, 77, 34, 675), (10, 81, 117, 679), (0, 214, 18, 683), (0, 217, 56, 687), (3, 28, 18, 691), (3, 32, 23, 692), (10, 85, 138, 693), (0, 222, 96, 697), (3, 24, 55, 701), (0, 225, 54, 705), (3, 36, 24, 709), (0, 228, 55, 710), (10, 12, 83, 713), (11, 31, 44, 717), (11, 43, 11, 721), (10, 17, 198, 774), (11, 86, 46, 778), (11, 47, 15, 782), (11, 204, 7, 786), (11, 223, 128, 790), (11, 83, 86, 794), (11, 51, 42, 798), (11, 226, 196, 802), (11, 173, 158, 806), (11, 130, 84, 810), (11, 127, 45, 814), (11, 54, 12, 818), (11, 169, 145, 822), (11, 137, 123, 826), (11, 210, 189, 830), (11, 156, 126, 834), (11, 134, 88, 838), (11, 163, 175, 842), (11, 144, 159, 846), (11, 141, 144, 850), (11, 147, 146, 854), (11, 153, 174, 858), (11, 166, 183, 862), (11, 159, 176, 866), (11, 150, 127, 870), (11, 213, 48, 874), (11, 216, 95, 878), (10, 21, 37, 883), (11, 229, 10, 887), (10, 26, 161, 891), (11, 234, 85, 895), (11, 89, 125, 899), (11, 77, 142, 903), (11, 57, 41, 907), (11, 71, 122, 911), (11, 64, 93, 915), (11, 68, 87, 919), (11, 74, 80, 923), (11, 61, 6, 927), (11, 188, 143, 931), (11, 98, 91, 935), (10, 30, 182, 939), (11, 237, 40, 943), (10, 34, 197, 947), (11, 242, 191, 952), (11, 35, 8, 956), (11, 191, 124, 960), (11, 195, 171, 964), (11, 198, 156, 968), (11, 201, 184, 972), (11, 111, 82, 976), (11, 114, 170, 980), (11, 92, 160, 984), (11, 80, 92, 988), (11, 95, 89, 992), (11, 118, 173, 996), (11, 101, 39, 1000), (11, 121, 172, 1004), (11, 104, 157, 1008), (11, 107, 90, 1012), (10, 39, 79, 1016), (10, 44, 81, 1024), (10, 48, 141, 1028), (11, 253, 47, 1033), (11, 256, 121, 1037), (11, 124, 78, 1041), (10, 52, 192, 1045), (10, 56, 195, 1049), (11, 259, 190, 1053), (10, 60, 193, 1057), (10, 64, 194, 1061), (11, 277, 188, 1066), (11, 269, 9, 1070), (10, 68, 49, 1078), (10, 72, 94, 1083), (10, 76, 14, 1087), (10, 80, 13, 1091), (10, 84, 43, 1095), (10, 88, 38, 1099)]
theorem mlT_ok : mlT.all (fun e => (decide (lw_tbl[e.2.2.2]? = some (Cond.methodLink (oNm e.1) e.2.1 (mN e.2.2.1))) && goodWord (Cond.methodLink (oNm e.1) e.2.1 (mN e.2.2.1))) && decide (e.2.2.1 < 199)) = true := by decide +kernel
def mlk (m idx : Nat) : Option Nat := (mlT.find? (fun e => e.1 == mC m && e.2.1 == idx)).map (fun e => e.2.2.1)
theorem mlk_ok {m idx y : Nat} (hm : m < 200) (h : mlk m idx = some y) : Cond.methodLink (mN m).cls idx (mN y) ∈ wsAll ∧ y < 199 := by
  unfold mlk at h
  rw [Option.map_eq_some_iff] at h
  obtain ⟨e, he, h2⟩ := h
  have hm2 := List.mem_of_find?_eq_some he
  have hp := List.find?_some he
  simp only [Bool.and_eq_true, beq_iff_eq] at hp
  have h3 := List.all_eq_true.mp mlT_ok e hm2
  simp only [Bool.and_eq_true, decide_eq_true_eq] at h3
  cases h2
  obtain ⟨h4, h5⟩ := h3
  rw [mC_ok m hm, ← hp.1, ← hp.2]
  exact ⟨wsAll_of h4.1 h4.2, h5⟩
def nsT : List (Nat × Nat × Nat × Nat × String) := [(0, 9, 27, 98, "StrongCells"), (0, 18, 19, 110, "StrongCells"), (0, 25, 75, 123, "StrongCells"), (9, 25, 27, 143, "StrongCells"), (0, 32, 51, 185, "StrongCells"), (0, 39, 53, 203, "StrongCells"), (0, 46, 3, 218, "StrongCells")]
def nstW : List Cond := nsT.map (fun e => Cond.methodLinkNest (oNm e.1) e.2.1 (mN e.2.2.1) e.2.2.2.2)
theorem nsT_ok : nsT.all (fun e => decide (lw_tbl[e.2.2.2.1]? = some (Cond.methodLinkNest (oNm e.1) e.2.1 (mN e.2.2.1) e.2.2.2.2)) && decide (e.2.2.1 < 199)) = true := by decide +kernel
theorem nstW_in : ∀ w ∈ nstW, w ∈ lw_tbl := by
  intro w hw
  obtain ⟨e, he, rfl⟩ := List.mem_map.mp hw
  have h3 := List.all_eq_true.mp nsT_ok e he
  simp only [Bool.and_eq_true, decide_eq_true_eq] at h3
  exact List.mem_of_getElem? h3.1
def nsk (m idx : Nat) : Option (Nat × String) := (nsT.find? (fun e => e.1 == mC m && e.2.1 == idx)).map (fun e => (e.2.2.1, e.2.2.2.2))
theorem nsk_ok {m idx y : Nat} {host : String} (hm : m < 200) (h : nsk m idx = some (y, host)) : Cond.methodLinkNest (mN m).cls idx (mN y) host ∈ nstW ∧ y < 199 := by
  unfold nsk at h
  rw [Option.map_eq_some_iff] at h
  obtain ⟨e, he, h2⟩ := h
  have hm2 := List.mem_of_find?_eq_some he
  have hp := List.find?_some he
  simp only [Bool.and_eq_true, beq_iff_eq] at hp
  have h3 := List.all_eq_true.mp nsT_ok e hm2
  simp only [Bool.and_eq_true, decide_eq_true_eq] at h3
  cases h2
  obtain ⟨h4, h5⟩ := h3
  rw [mC_ok m hm, ← hp.1, ← hp.2]
  exact ⟨List.mem_map.mpr ⟨e, hm2, rfl⟩, h5⟩
def spN (k : Nat) : MethodName := match k with
  | 0 => Lib.objectInit
  | 1 => Lib.Math.max.name
  | 2 => Lib.Math.min.name
  | _ => arraycopyName
def spT : List (Nat × Nat × Nat × Nat) := [(0, 1, 0, 93), (7, 5, 0, 101), (4, 5, 0, 113), (9, 3, 0, 126), (6, 1, 0, 132), (6, 7, 1, 133), (2, 1, 0, 188), (3, 3, 0, 206), (1, 3, 0, 221), (4, 58, 2, 316), (7, 50, 1, 401), (6, 26, 3, 461), (9, 80, 1, 478), (8, 88, 1, 510), (11, 1, 0, 716)]
theorem spT_ok : spT.all (fun e => (decide (lw_tbl[e.2.2.2]? = some (Cond.methodLink (oNm e.1) e.2.1 (spN e.2.2.1))) && goodWord (Cond.methodLink (oNm e.1) e.2.1 (spN e.2.2.1)))) = true := by decide +kernel
def spk (m idx : Nat) : Option Nat := (spT.find? (fun e => e.1 == mC m && e.2.1 == idx)).map (fun e => e.2.2.1)
theorem spk_ok {m idx y : Nat} (hm : m < 200) (h : spk m idx = some y) : Cond.methodLink (mN m).cls idx (spN y) ∈ wsAll := by
  unfold spk at h
  rw [Option.map_eq_some_iff] at h
  obtain ⟨e, he, h2⟩ := h
  have hm2 := List.mem_of_find?_eq_some he
  have hp := List.find?_some he
  simp only [Bool.and_eq_true, beq_iff_eq] at hp
  have h3 := List.all_eq_true.mp spT_ok e hm2
  cases h2
  rw [mC_ok m hm, ← hp.1, ← hp.2]
  exact wsAll_and h3
theorem sp_w0 : Cond.instanceMethod Lib.objectInit ∈ wsAll := wsAll_of (i := 94) (by decide +kernel) (by decide +kernel)
theorem sp_w1 : Cond.code Lib.objectInit ⟨#[0xb1]⟩ 1 none ∈ wsAll := wsAll_of (i := 95) (by decide +kernel) (by decide +kernel)
theorem sp_maxs : Cond.static Lib.Math.max.name ∈ wsAll := wsAll_of (i := 134) (by decide +kernel) (by decide +kernel)
theorem sp_maxc : Cond.code Lib.Math.max.name Lib.Math.max.code 2 (some .int) ∈ wsAll := wsAll_of (i := 135) (by decide +kernel) (by decide +kernel)
theorem sp_mins : Cond.static Lib.Math.min.name ∈ wsAll := wsAll_of (i := 317) (by decide +kernel) (by decide +kernel)
theorem sp_minc : Cond.code Lib.Math.min.name Lib.Math.min.code 2 (some .int) ∈ wsAll := wsAll_of (i := 318) (by decide +kernel) (by decide +kernel)
theorem sp_mi : Cond.initialized "java/lang/Math" ∈ wsAll := wsAll_of (i := 79) (by decide +kernel) (by decide +kernel)
theorem sp_acn : Cond.native arraycopyName ∈ wsAll := wsAll_of (i := 463) (by decide +kernel) (by decide +kernel)
theorem sp_acs : Cond.static arraycopyName ∈ wsAll := wsAll_of (i := 462) (by decide +kernel) (by decide +kernel)
theorem sp_aci : Cond.initialized "java/lang/System" ∈ wsAll := wsAll_of (i := 86) (by decide +kernel) (by decide +kernel)
theorem sp_arI : Cond.arrayClass .int ∈ wsAll := wsAll_of (i := 107) (by decide +kernel) (by decide +kernel)
theorem sp_arO : Cond.arrayOver (.array .int) ∈ lw_tbl := List.mem_of_getElem? (i := 137) (by decide +kernel)
def clT : List (Nat × Nat × Nat × Nat × Nat × Nat) := [(10, 7, 7, 88, 89, 74), (0, 7, 5, 96, 97, 75), (0, 16, 3, 108, 109, 76), (0, 23, 6, 121, 122, 77), (9, 9, 4, 127, 128, 78), (9, 23, 5, 142, 97, 75), (0, 30, 1, 183, 184, 80), (2, 7, 4, 189, 128, 78), (0, 37, 2, 201, 202, 81), (3, 9, 4, 207, 128, 78), (0, 44, 0, 216, 217, 82), (10, 10, 8, 711, 712, 83)]
theorem clT_ok : clT.all (fun e => (decide (lw_tbl[e.2.2.2.1]? = some (Cond.classLink (oNm e.1) e.2.1 (cNm e.2.2.1))) && goodWord (Cond.classLink (oNm e.1) e.2.1 (cNm e.2.2.1))) && (decide (lw_tbl[e.2.2.2.2.1]? = some (Cond.instantiable (cNm e.2.2.1) (cNf e.2.2.1))) && goodWord (Cond.instantiable (cNm e.2.2.1) (cNf e.2.2.1))) && (decide (lw_tbl[e.2.2.2.2.2]? = some (Cond.initialized (cNm e.2.2.1))) && goodWord (Cond.initialized (cNm e.2.2.1))) && decide (e.2.2.1 < 9)) = true := by decide +kernel
def clk (m idx : Nat) : Option Nat := (clT.find? (fun e => e.1 == mC m && e.2.1 == idx)).map (fun e => e.2.2.1)
theorem clk_ok {m idx y : Nat} (hm : m < 200) (h : clk m idx = some y) : Cond.classLink (mN m).cls idx (cNm y) ∈ wsAll ∧ Cond.instantiable (cNm y) (cNf y) ∈ wsAll ∧ Cond.initialized (cNm y) ∈ wsAll ∧ y < 9 := by
  unfold clk at h
  rw [Option.map_eq_some_iff] at h
  obtain ⟨e, he, h2⟩ := h
  have hm2 := List.mem_of_find?_eq_some he
  have hp := List.find?_some he
  simp only [Bool.and_eq_true, beq_iff_eq] at hp
  have h3 := List.all_eq_true.mp clT_ok e hm2
  simp only [Bool.and_eq_true, decide_eq_true_eq] at h3
  cases h2
  obtain ⟨⟨⟨h4, h5⟩, h6⟩, h7⟩ := h3
  rw [mC_ok m hm, ← hp.1, ← hp.2]
  exact ⟨wsAll_of h4.1 h4.2, wsAll_of h5.1 h5.2, wsAll_of h6.1 h6.2, h7⟩
theorem mna_w : Cond.classLink "StrongCells$Shelf" 15 "[[I" ∈ wsAll := wsAll_of (i := 136) (by decide +kernel) (by decide +kernel)
def mnaM : Nat := 22
def mnaI : Nat := 15
def kiT : List (Nat × Nat × Int32 × Nat) := [(0, 62, (-1000000002), 285), (0, 105, (-1000000001), 420), (9, 67, (1000000), 468), (0, 161, (-1000000003), 568), (0, 175, (-1000000004), 595), (0, 236, (1103515245), 643), (0, 237, (2147483647), 644), (0, 238, (65536), 645), (11, 222, (-1000000002), 882), (11, 233, (-1000000001), 890), (11, 251, (-1000000003), 1023), (11, 252, (-1000000004), 1032), (11, 268, (65536), 1077)]
theorem kiT_ok : kiT.all (fun e => (decide (lw_tbl[e.2.2.2]? = some (Cond.constant (oNm e.1) e.2.1 e.2.2.1)) && goodWord (Cond.constant (oNm e.1) e.2.1 e.2.2.1))) = true := by decide +kernel
def kik (m idx : Nat) : Option Int32 := (kiT.find? (fun e => e.1 == mC m && e.2.1 == idx)).map (fun e => e.2.2.1)
theorem kik_ok {m idx : Nat} {v : Int32} (hm : m < 200) (h : kik m idx = some v) : Cond.constant (mN m).cls idx v ∈ wsAll := by
  unfold kik at h
  rw [Option.map_eq_some_iff] at h
  obtain ⟨e, he, h2⟩ := h
  have hm2 := List.mem_of_find?_eq_some he
  have hp := List.find?_some he
  simp only [Bool.and_eq_true, beq_iff_eq] at hp
  have h3 := List.all_eq_true.mp kiT_ok e hm2
  cases h2
  rw [mC_ok m hm, ← hp.1, ← hp.2]
  exact wsAll_and h3
def klT : List (Nat × Nat × Int64 × Nat) := [(11, 240, (3), 951), (11, 245, (5), 1020), (11, 247, (2), 1021), (11, 249, (4), 1022), (11, 275, (20), 1065), (11, 262, (1103515245), 1074), (11, 264, (12345), 1075), (11, 266, (2147483648), 1076), (11, 280, (16), 1082)]
theorem klT_ok : klT.all (fun e => (decide (lw_tbl[e.2.2.2]? = some (Cond.constantLong (oNm e.1) e.2.1 e.2.2.1)) && goodWord (Cond.constantLong (oNm e.1) e.2.1 e.2.2.1))) = true := by decide +kernel
def klk (m idx : Nat) : Option Int64 := (klT.find? (fun e => e.1 == mC m && e.2.1 == idx)).map (fun e => e.2.2.1)
theorem klk_ok {m idx : Nat} {v : Int64} (hm : m < 200) (h : klk m idx = some v) : Cond.constantLong (mN m).cls idx v ∈ wsAll := by
  unfold klk at h
  rw [Option.map_eq_some_iff] at h
  obtain ⟨e, he, h2⟩ := h
  have hm2 := List.mem_of_find?_eq_some he
  have hp := List.find?_some he
  simp only [Bool.and_eq_true, beq_iff_eq] at hp
  have h3 := List.all_eq_true.mp klT_ok e hm2
  cases h2
  rw [mC_ok m hm, ← hp.1, ← hp.2]
  exact wsAll_and h3
theorem m_plain : ∀ m, m < 200 → plainName (mN m).cls = true := by decide +kernel
theorem m_maxL : ∀ m, m < 200 → mL m ≤ 11 := by decide +kernel
theorem m_cls : ∀ m, m < 200 → (mN m).cls ≠ "java/lang/invoke/MethodHandle" ∧ (mN m).cls ≠ "java/lang/invoke/VarHandle" ∧ (parseMethodDescriptor (mN m).desc).map (fun d => d.parameters.length) = some (mP m) := by decide +kernel
theorem m_init : ∀ m, m < 200 → kd m = 2 → (mN m).name = "<init>" := by decide +kernel
theorem m_ht : ∀ m, m < 200 → 1 ≤ ht m := by decide +kernel
theorem m_ret : ∀ m, m < 200 → mR m = none ∨ mR m = some .int ∨ mR m = some .boolean := by decide +kernel
theorem m_retI : ∀ m, m < 200 → kd m = 2 → mR m = none := by decide +kernel
