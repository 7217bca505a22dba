def htl : List Nat := [1, 1, 1, 1, 6, 1, 9, 9, 9, 1, 1, 1, 1, 1, 1, 1, 1, 1, 1, 1, 1, 1, 1, 1, 1, 1, 1, 1, 1, 1, 1, 1, 1, 1, 1, 1, 2, 1, 1, 1, 1, 1, 1, 1, 1, 1, 1, 1, 1, 1, 2, 2, 2, 2, 2, 2, 2, 2, 2, 2, 2, 2, 2, 2, 2, 2, 2, 2, 2, 2, 2, 2, 2, 2, 2, 2, 2, 1, 1, 1, 1, 1, 1, 1, 1, 1, 1, 1, 1, 1, 1, 1, 1, 1, 1, 1, 3, 3, 3, 3, 3, 3, 3, 3, 3, 3, 3, 3, 3, 3, 3, 3, 3, 3, 3, 3, 3, 3, 3, 3, 1, 1, 1, 1, 1, 1, 1, 1, 1, 4, 4, 4, 4, 4, 4, 4, 4, 4, 4, 4, 4, 1, 1, 1, 1, 1, 1, 5, 5, 5, 5, 5, 5, 5, 5, 5, 1, 1, 1, 1, 1, 1, 6, 6, 6, 6, 6, 6, 6, 6, 1, 1, 1, 1, 1, 1, 1, 7, 7, 7, 7, 7, 1, 1, 1, 8, 8, 8, 1, 1, 1, 1, 1, 1, 1, 1, 1, 1, 1, 10]
def ht (m : Nat) : Nat := htl.getD m 100
def mPl : List Nat := [2, 2, 2, 0, 3, 0, 3, 1, 1, 3, 3, 3, 3, 3, 3, 3, 0, 0, 1, 0, 4, 3, 1, 2, 2, 1, 1, 0, 2, 2, 2, 0, 1, 1, 3, 3, 1, 3, 3, 3, 3, 3, 3, 3, 3, 3, 3, 3, 3, 3, 1, 0, 2, 0, 2, 1, 3, 2, 3, 2, 3, 3, 2, 0, 2, 0, 1, 1, 3, 3, 5, 0, 3, 1, 1, 0, 1, 3, 3, 3, 3, 3, 3, 3, 3, 3, 3, 3, 3, 3, 3, 3, 3, 3, 3, 3, 1, 2, 2, 2, 2, 3, 3, 3, 4, 3, 3, 0, 0, 0, 0, 3, 2, 2, 3, 3, 2, 1, 0, 1, 3, 3, 3, 3, 3, 3, 3, 3, 3, 1, 3, 2, 2, 0, 2, 3, 0, 1, 1, 0, 1, 3, 3, 3, 3, 3, 3, 2, 2, 2, 3, 3, 2, 5, 0, 2, 3, 3, 3, 3, 3, 3, 1, 2, 2, 1, 2, 0, 0, 2, 3, 3, 3, 3, 3, 3, 3, 1, 1, 2, 2, 1, 3, 3, 3, 0, 1, 1, 3, 3, 3, 3, 3, 3, 3, 3, 3, 3, 3, 1]
def mP (m : Nat) : Nat := mPl.getD m 0
def mcl : List Nat := [0, 0, 0, 2, 0, 0, 0, 0, 0, 0, 0, 0, 0, 0, 0, 0, 0, 0, 0, 2, 0, 0, 42, 0, 0, 0, 0, 1, 0, 0, 0, 0, 0, 0, 0, 0, 0, 0, 0, 0, 0, 0, 0, 0, 0, 0, 0, 0, 0, 0, 0, 43, 0, 44, 0, 0, 0, 0, 0, 0, 0, 0, 0, 0, 0, 0, 0, 0, 0, 0, 0, 0, 0, 0, 0, 90, 0, 0, 0, 0, 0, 0, 0, 0, 0, 0, 0, 0, 0, 0, 0, 0, 0, 0, 0, 0, 0, 0, 0, 0, 0, 0, 0, 0, 0, 0, 0, 0, 0, 0, 0, 0, 0, 0, 0, 0, 0, 0, 0, 0, 0, 0, 0, 0, 0, 0, 0, 0, 0, 0, 0, 0, 0, 0, 0, 0, 0, 0, 0, 188, 0, 0, 0, 0, 0, 0, 0, 0, 0, 0, 0, 0, 0, 0, 0, 0, 0, 0, 0, 0, 0, 0, 0, 0, 0, 0, 0, 0, 0, 0, 0, 0, 0, 0, 0, 0, 0, 0, 0, 0, 0, 0, 0, 0, 0, 0, 0, 0, 0, 0, 0, 0, 0, 0, 0, 0, 0, 0, 0, 378]
def mc (m : Nat) : Nat := mcl.getD m 0
def msl : List Nat := [0, 0, 0, 40, 0, 0, 0, 0, 0, 0, 0, 0, 0, 0, 0, 0, 0, 0, 0, 135, 0, 0, 6027, 0, 0, 0, 0, 146, 0, 0, 0, 0, 0, 0, 0, 0, 0, 0, 0, 0, 0, 0, 0, 0, 0, 0, 0, 0, 0, 0, 0, 6028, 0, 6030, 0, 0, 0, 0, 0, 0, 0, 0, 0, 0, 0, 0, 0, 0, 0, 0, 0, 0, 0, 0, 0, 12285, 0, 0, 0, 0, 0, 0, 0, 0, 0, 0, 0, 0, 0, 0, 0, 0, 0, 0, 0, 0, 0, 0, 0, 0, 0, 0, 0, 0, 0, 0, 0, 0, 0, 0, 0, 0, 0, 0, 0, 0, 0, 0, 0, 0, 0, 0, 0, 0, 0, 0, 0, 0, 0, 0, 0, 0, 0, 0, 0, 0, 0, 0, 0, 24686, 0, 0, 0, 0, 0, 0, 0, 0, 0, 0, 0, 0, 0, 0, 0, 0, 0, 0, 0, 0, 0, 0, 0, 0, 0, 0, 0, 0, 0, 0, 0, 0, 0, 0, 0, 0, 0, 0, 0, 0, 0, 0, 0, 0, 0, 0, 0, 0, 0, 0, 0, 0, 0, 0, 0, 0, 0, 0, 0, 49386]
def ms (m : Nat) : Nat := msl.getD m 0
def noL (m : Nat) : Bool := m != 1000
def TT0 : u_T := fun k => match k with
  | 0 => ("StrongCells$Book", "acts", "[I", true)
  | 1 => ("StrongCells$Book", "values", "[I", true)
  | _ => ("StrongCells$Book", "count", "I", false)
def tY0 : Nat → FieldType := fun k => match k with
  | 0 => .array .int
  | 1 => .array .int
  | _ => .int
def TT1 : u_T := fun k => match k with
  | 0 => ("StrongCells$Deeds", "shelf", "LStrongCells$Shelf;", true)
  | 1 => ("StrongCells$Deeds", "oldest", "I", false)
  | _ => ("StrongCells$Deeds", "count", "I", false)
def tY1 : Nat → FieldType := fun k => match k with
  | 0 => .object "StrongCells$Shelf"
  | 1 => .int
  | _ => .int
def TT2 : u_T := fun k => match k with
  | 0 => ("StrongCells$Images", "shelf", "LStrongCells$Shelf;", true)
  | _ => ("StrongCells$Images", "seeds", "[I", true)
def tY2 : Nat → FieldType := fun k => match k with
  | 0 => .object "StrongCells$Shelf"
  | _ => .array .int
def TT3 : u_T := fun k => match k with
  | 0 => ("StrongCells$Judge", "needed", "[I", true)
  | _ => ("StrongCells$Judge", "lastOnes", "[I", true)
def tY3 : Nat → FieldType := fun k => match k with
  | 0 => .array .int
  | _ => .array .int
def TT4 : u_T := fun k => match k with
  | _ => ("StrongCells$Shelf", "rows", "[[I", true)
def tY4 : Nat → FieldType := fun k => match k with
  | _ => .array (.array .int)
def TT5 : u_T := fun k => match k with
  | _ => ("StrongCells$State", "row", "[I", true)
def tY5 : Nat → FieldType := fun k => match k with
  | _ => .array .int
def TT6 : u_T := fun k => match k with
  | 0 => ("StrongCells$Ways", "levels", "LStrongCells$Shelf;", true)
  | 1 => ("StrongCells$Ways", "behindFirstBad", "LStrongCells$Shelf;", true)
  | 2 => ("StrongCells$Ways", "walker", "LStrongCells$State;", true)
  | 3 => ("StrongCells$Ways", "nextProcess", "[I", true)
  | 4 => ("StrongCells$Ways", "nextChoice", "[I", true)
  | 5 => ("StrongCells$Ways", "known", "Z", false)
  | 6 => ("StrongCells$Ways", "count", "I", false)
  | 7 => ("StrongCells$Ways", "badCount", "I", false)
  | 8 => ("StrongCells$Ways", "firstBad", "I", false)
  | 9 => ("StrongCells$Ways", "firstBadSteps", "I", false)
  | _ => ("StrongCells$Ways", "longest", "I", false)
def tY6 : Nat → FieldType := fun k => match k with
  | 0 => .object "StrongCells$Shelf"
  | 1 => .object "StrongCells$Shelf"
  | 2 => .object "StrongCells$State"
  | 3 => .array .int
  | 4 => .array .int
  | 5 => .boolean
  | 6 => .int
  | 7 => .int
  | 8 => .int
  | 9 => .int
  | _ => .int
def TT7 : u_T := fun k => match k with
  | 0 => ("StrongCells", "now", "LStrongCells$State;", true)
  | 1 => ("StrongCells", "judge", "LStrongCells$Judge;", true)
  | 2 => ("StrongCells", "allWays", "LStrongCells$Ways;", true)
  | 3 => ("StrongCells", "deeds", "LStrongCells$Deeds;", true)
  | 4 => ("StrongCells", "images", "LStrongCells$Images;", true)
  | 5 => ("StrongCells", "book", "LStrongCells$Book;", true)
  | _ => ("StrongCells", "drawn", "I", false)
def tY7 : Nat → FieldType := fun k => match k with
  | 0 => .object "StrongCells$State"
  | 1 => .object "StrongCells$Judge"
  | 2 => .object "StrongCells$Ways"
  | 3 => .object "StrongCells$Deeds"
  | 4 => .object "StrongCells$Images"
  | 5 => .object "StrongCells$Book"
  | _ => .int
def clss : List vw_C := [("StrongCells$Book", TT0, 3), ("StrongCells$Deeds", TT1, 3), ("StrongCells$Images", TT2, 2), ("StrongCells$Judge", TT3, 2), ("StrongCells$Shelf", TT4, 1), ("StrongCells$State", TT5, 1), ("StrongCells$Ways", TT6, 11), ("StrongCells", TT7, 7)]
def cNl : List Nat := [3, 3, 2, 2, 1, 1, 11, 7]
def cNf (c : Nat) : Nat := cNl.getD c 0
def isIl : List (List Bool) := [[false, false, true], [false, true, true], [false, false], [false, false], [false], [false], [false, false, false, false, false, true, true, true, true, true, true], [false, false, false, false, false, false, true]]
def isI (c k : Nat) : Bool := (isIl.getD c []).getD k false
def isZl : List (List Bool) := [[false, false, false], [false, false, false], [false, false], [false, false], [false], [false], [false, false, false, false, false, true, false, false, false, false, false], [false, false, false, false, false, false, false]]
def isZ (c k : Nat) : Bool := (isZl.getD c []).getD k false
def tYY (c : Nat) : Nat → FieldType := match c with
  | 0 => tY0
  | 1 => tY1
  | 2 => tY2
  | 3 => tY3
  | 4 => tY4
  | 5 => tY5
  | 6 => tY6
  | _ => tY7
def TTT (c : Nat) : u_T := match c with
  | 0 => TT0
  | 1 => TT1
  | 2 => TT2
  | 3 => TT3
  | 4 => TT4
  | 5 => TT5
  | 6 => TT6
  | _ => TT7
def cNm (c : Nat) : String := (["StrongCells$Book", "StrongCells$Deeds", "StrongCells$Images", "StrongCells$Judge", "StrongCells$Shelf", "StrongCells$State", "StrongCells$Ways", "StrongCells"] : List String).getD c ""
theorem clss_get : ∀ c, c < 8 → clss[c]? = some (cNm c, TTT c, cNf c) := by
  intro c h
  match c, h with
  | 0, _ => rfl
  | 1, _ => rfl
  | 2, _ => rfl
  | 3, _ => rfl
  | 4, _ => rfl
  | 5, _ => rfl
  | 6, _ => rfl
  | 7, _ => rfl
  | c + 8, h => exact absurd h (by omega)
theorem tY_ok : ∀ c, c < 8 → ∀ k, k < cNf c → parseFieldDescriptor (TTT c k).2.2.1 = some (tYY c k) := by decide +kernel
theorem nm_ok : ∀ c, c < 8 → ∀ a, a < cNf c → ∀ b, b < cNf c → a ≠ b → (TTT c a).2.1 ≠ (TTT c b).2.1 := by decide +kernel
def layT : List (Nat × Nat × Nat) := [(0, 0, 162), (0, 1, 164), (0, 2, 166), (1, 0, 131), (1, 1, 133), (1, 2, 135), (2, 0, 148), (2, 1, 150), (3, 0, 53), (3, 1, 55), (4, 0, 76), (5, 0, 41), (6, 0, 97), (6, 1, 99), (6, 2, 101), (6, 3, 103), (6, 4, 105), (6, 5, 107), (6, 6, 109), (6, 7, 111), (6, 8, 113), (6, 9, 115), (6, 10, 117), (7, 0, 200), (7, 1, 202), (7, 2, 204), (7, 3, 206), (7, 4, 208), (7, 5, 210), (7, 6, 212)]
theorem layT_ok : layT.all (fun e => (decide (lw_tbl[e.2.2]? = some (u_lay (cNm e.1) (TTT e.1) e.2.1)) && goodWord (u_lay (cNm e.1) (TTT e.1) e.2.1))) = true := by decide +kernel
theorem lay_all : ∀ c, c < 8 → ∀ k, k < cNf c → layT.any (fun e => e.1 == c && e.2.1 == k) = true := by decide +kernel
theorem lay_in (c : Nat) (hc : c < 8) : ∀ w ∈ u_ws (cNm c) (TTT c) (cNf c), w ∈ wsAll := by
  intro w hw
  obtain ⟨k, hk, rfl⟩ := List.mem_map.mp hw
  obtain ⟨e, he, h2⟩ := List.any_eq_true.mp (lay_all c hc k (List.mem_range.mp hk))
  have h3 := List.all_eq_true.mp layT_ok e he
  simp only [Bool.and_eq_true, beq_iff_eq] at h2
  obtain ⟨rfl, rfl⟩ := h2
  exact wsAll_and h3
def iniT : List (Nat × Nat) := [(0, 22), (1, 11), (2, 11), (3, 20), (4, 11), (5, 20), (6, 11), (7, 11), (8, 11), (9, 12), (10, 12), (11, 12), (12, 12), (13, 12), (14, 12), (15, 12), (16, 18), (17, 18), (18, 19), (19, 14), (20, 21), (21, 21), (22, 16), (23, 16), (24, 16), (25, 13), (26, 13), (27, 13), (28, 13), (29, 13), (30, 13), (31, 15), (32, 15), (33, 12), (34, 12), (35, 12), (36, 20), (37, 12), (38, 12), (39, 12), (40, 12), (41, 12), (42, 12), (43, 12), (44, 12), (45, 12), (46, 12), (47, 12), (48, 12), (49, 12), (50, 18), (51, 18), (52, 18), (53, 19), (54, 19), (55, 19), (56, 19), (57, 14), (58, 14), (59, 14), (60, 21), (61, 21), (62, 21), (63, 13), (64, 13), (65, 13), (66, 13), (67, 13), (68, 13), (69, 13), (70, 13), (71, 13), (72, 23), (73, 23), (74, 15), (75, 15), (76, 12), (77, 12), (78, 12), (79, 12), (80, 12), (81, 12), (82, 12), (83, 12), (84, 12), (85, 12), (86, 12), (87, 12), (88, 12), (89, 12), (90, 12), (91, 12), (92, 12), (93, 12), (94, 12), (95, 12), (96, 19), (97, 14), (98, 14), (99, 14), (100, 14), (101, 14), (102, 14), (103, 21), (104, 21), (105, 21), (106, 21), (107, 13), (108, 13), (109, 13), (110, 13), (111, 23), (112, 23), (113, 23), (114, 23), (115, 23), (116, 23), (117, 12), (118, 12), (119, 12), (120, 12), (121, 12), (122, 12), (123, 12), (124, 12), (125, 12), (126, 12), (127, 12), (128, 12), (129, 14), (130, 14), (131, 14), (132, 21), (133, 13), (134, 23), (135, 23), (136, 12), (137, 12), (138, 12), (139, 12), (140, 12), (141, 12), (142, 12), (143, 12), (144, 12), (145, 12), (146, 12), (147, 14), (148, 14), (149, 14), (150, 23), (151, 23), (152, 15), (153, 12), (154, 12), (155, 12), (156, 12), (157, 12), (158, 12), (159, 12), (160, 12), (161, 12), (162, 14), (163, 14), (164, 14), (165, 15), (166, 12), (167, 12), (168, 12), (169, 12), (170, 12), (171, 12), (172, 12), (173, 12), (174, 12), (175, 12), (176, 12), (177, 14), (178, 14), (179, 15), (180, 12), (181, 12), (182, 12), (183, 12), (184, 12), (185, 12), (186, 12), (187, 12), (188, 12), (189, 12), (190, 12), (191, 12), (192, 12), (193, 12), (194, 12), (195, 12), (196, 12), (197, 12), (198, 12), (199, 11)]
theorem iniT_ok : iniT.all (fun e => (decide (lw_tbl[e.2]? = some (Cond.initialized (mN e.1).cls)) && goodWord (Cond.initialized (mN e.1).cls))) = true := by decide +kernel
theorem ini_all : ∀ m, m < 200 → iniT.any (fun e => e.1 == m) = true := by decide +kernel
theorem ini_in (m : Nat) (hm : m < 200) : Cond.initialized (mN m).cls ∈ wsAll := by
  obtain ⟨e, he, h2⟩ := List.any_eq_true.mp (ini_all m hm)
  have h3 := List.all_eq_true.mp iniT_ok e he
  simp only [beq_iff_eq] at h2
  subst h2
  exact wsAll_and h3
def kdl : List Nat := [1, 1, 1, 2, 1, 0, 1, 1, 1, 1, 1, 1, 1, 1, 1, 1, 0, 0, 0, 2, 1, 1, 2, 0, 0, 0, 0, 2, 0, 0, 0, 0, 0, 0, 1, 1, 0, 1, 1, 1, 1, 1, 1, 1, 1, 1, 1, 1, 1, 1, 0, 2, 0, 2, 0, 0, 0, 1, 1, 1, 1, 1, 1, 0, 0, 0, 0, 0, 0, 0, 0, 0, 1, 1, 0, 2, 0, 1, 1, 1, 1, 1, 1, 1, 1, 1, 1, 1, 1, 1, 1, 1, 1, 1, 1, 1, 0, 1, 1, 0, 1, 0, 1, 1, 1, 1, 1, 0, 0, 0, 0, 1, 1, 1, 1, 1, 1, 0, 0, 0, 1, 1, 1, 1, 1, 1, 1, 1, 1, 0, 1, 1, 1, 0, 1, 1, 0, 0, 0, 2, 0, 1, 1, 1, 1, 1, 1, 1, 1, 0, 1, 1, 0, 0, 0, 0, 1, 1, 1, 1, 1, 1, 0, 0, 0, 0, 0, 0, 0, 0, 1, 1, 1, 1, 1, 1, 1, 0, 0, 0, 0, 0, 1, 1, 1, 0, 0, 0, 1, 1, 1, 1, 1, 1, 1, 1, 1, 1, 1, 1]
def kd (m : Nat) : Nat := kdl.getD m 9
def stcT : List (Nat × Nat) := [(0, 273), (1, 372), (2, 376), (4, 380), (6, 403), (7, 602), (8, 606), (9, 220), (10, 220), (11, 220), (12, 220), (13, 220), (14, 220), (15, 220), (20, 387), (21, 509), (34, 220), (35, 220), (37, 220), (38, 220), (39, 220), (40, 220), (41, 220), (42, 220), (43, 220), (44, 220), (45, 220), (46, 220), (47, 220), (48, 220), (49, 220), (57, 260), (58, 270), (59, 280), (60, 502), (61, 506), (62, 498), (72, 463), (73, 523), (77, 220), (78, 220), (79, 220), (80, 220), (81, 220), (82, 220), (83, 220), (84, 220), (85, 220), (86, 220), (87, 220), (88, 220), (89, 220), (90, 220), (91, 220), (92, 220), (93, 220), (94, 220), (95, 220), (97, 267), (98, 257), (100, 299), (102, 302), (103, 535), (104, 495), (105, 512), (106, 486), (111, 460), (112, 415), (113, 515), (114, 538), (115, 473), (116, 477), (120, 220), (121, 220), (122, 220), (123, 220), (124, 220), (125, 220), (126, 220), (127, 220), (128, 220), (130, 316), (131, 296), (132, 481), (134, 455), (135, 466), (141, 220), (142, 220), (143, 220), (144, 220), (145, 220), (146, 220), (147, 313), (148, 327), (150, 452), (151, 532), (156, 220), (157, 220), (158, 220), (159, 220), (160, 220), (161, 220), (170, 220), (171, 220), (172, 220), (173, 220), (174, 220), (175, 220), (176, 220), (182, 220), (183, 220), (184, 220), (188, 220), (189, 220), (190, 220), (191, 220), (192, 220), (193, 220), (194, 220), (195, 220), (196, 220), (197, 220), (198, 220)]
theorem stcT_ok : stcT.all (fun e => (decide (lw_tbl[e.2]? = some (Cond.static (mN e.1))) && goodWord (Cond.static (mN e.1)))) = true := by decide +kernel
def insT : List (Nat × Nat × Nat) := [(3, 156, 0), (5, 340, 341), (16, 395, 396), (17, 350, 351), (18, 561, 562), (19, 48, 0), (22, 67, 0), (23, 445, 446), (24, 549, 550), (25, 186, 187), (26, 335, 336), (27, 36, 0), (28, 245, 246), (29, 263, 264), (30, 174, 175), (31, 399, 400), (32, 619, 8), (33, 430, 6), (36, 344, 345), (50, 441, 442), (51, 123, 0), (52, 545, 546), (53, 141, 0), (54, 583, 584), (55, 579, 580), (56, 565, 566), (63, 527, 528), (64, 190, 191), (65, 469, 470), (66, 241, 242), (67, 490, 491), (68, 182, 183), (69, 519, 520), (70, 170, 171), (71, 228, 229), (74, 642, 643), (75, 61, 0), (76, 365, 2), (96, 575, 576), (99, 287, 288), (101, 277, 0), (107, 232, 233), (108, 224, 225), (109, 178, 179), (110, 237, 238), (117, 557, 558), (118, 438, 7), (119, 541, 542), (129, 249, 250), (133, 330, 331), (136, 392, 3), (137, 354, 355), (138, 571, 572), (139, 28, 0), (140, 411, 4), (149, 292, 293), (152, 626, 9), (153, 383, 384), (154, 553, 554), (155, 406, 407), (162, 283, 284), (163, 324, 1), (164, 309, 310), (165, 632, 10), (166, 597, 598), (167, 426, 5), (168, 589, 590), (169, 593, 594), (177, 319, 320), (178, 305, 306), (179, 613, 614), (180, 360, 361), (181, 421, 422), (185, 638, 639), (186, 216, 217), (187, 609, 610)]
theorem insT_ok : insT.all (fun e => (decide (lw_tbl[e.2.1]? = some (Cond.instanceMethod (mN e.1))) && goodWord (Cond.instanceMethod (mN e.1)))) = true := by decide +kernel
theorem selT_ok : insT.all (fun e => decide (kd e.1 = 2) || (decide (lw_tbl[e.2.2]? = some (Cond.selects (mN e.1).cls (mN e.1) (mN e.1))) && goodWord (Cond.selects (mN e.1).cls (mN e.1) (mN e.1)))) = true := by decide +kernel
theorem kd_all : ∀ m, m < 199 → ((kd m = 1 ∧ stcT.any (fun e => e.1 == m) = true) ∨ (kd m ≠ 1 ∧ insT.any (fun e => e.1 == m) = true)) := by decide +kernel
theorem stc_in (m : Nat) (hm : m < 199) (hk : kd m = 1) : Cond.static (mN m) ∈ wsAll := by
  rcases kd_all m hm with ⟨-, h⟩ | ⟨h, -⟩
  · obtain ⟨e, he, h2⟩ := List.any_eq_true.mp h
    have h3 := List.all_eq_true.mp stcT_ok e he
    simp only [beq_iff_eq] at h2
    subst h2
    exact wsAll_and h3
  · exact absurd hk h
theorem ins_in (m : Nat) (hm : m < 199) (hk : kd m ≠ 1) : Cond.instanceMethod (mN m) ∈ wsAll := by
  rcases kd_all m hm with ⟨h, -⟩ | ⟨-, h⟩
  · exact absurd h hk
  · obtain ⟨e, he, h2⟩ := List.any_eq_true.mp h
    have h3 := List.all_eq_true.mp insT_ok e he
    simp only [beq_iff_eq] at h2
    subst h2
    exact wsAll_and h3
theorem sel_in (m : Nat) (hm : m < 199) (hk : kd m = 0) : Cond.selects (mN m).cls (mN m) (mN m) ∈ wsAll := by
  rcases kd_all m hm with ⟨h, -⟩ | ⟨-, h⟩
  · exact absurd (hk.symm.trans h) (by decide)
  · obtain ⟨e, he, h2⟩ := List.any_eq_true.mp h
    have h3 := List.all_eq_true.mp selT_ok e he
    simp only [beq_iff_eq] at h2
    subst h2
    rw [Bool.or_eq_true] at h3
    rcases h3 with h3 | h3
    · exact absurd (hk.symm.trans (of_decide_eq_true h3)) (by decide)
    · exact wsAll_and h3
def oNm (c : Nat) : String := (["StrongCells", "StrongCells$Book", "StrongCells$Deeds", "StrongCells$Images", "StrongCells$Judge", "StrongCells$Plan", "StrongCells$Shelf", "StrongCells$State", "StrongCells$Steps", "StrongCells$Ways", "StrongCellsLaw", "java/util/Arrays"] : List String).getD c ""
def mCl : List Nat := [11, 10, 10, 1, 10, 1, 10, 10, 10, 0, 0, 0, 0, 0, 0, 0, 2, 2, 3, 4, 5, 5, 6, 6, 6, 7, 7, 7, 7, 7, 7, 9, 9, 0, 0, 0, 1, 0, 0, 0, 0, 0, 0, 0, 0, 0, 0, 0, 0, 0, 2, 2, 2, 3, 3, 3, 3, 4, 4, 4, 5, 5, 5, 7, 7, 7, 7, 7, 7, 7, 7, 7, 8, 8, 9, 9, 0, 0, 0, 0, 0, 0, 0, 0, 0, 0, 0, 0, 0, 0, 0, 0, 0, 0, 0, 0, 3, 4, 4, 4, 4, 4, 4, 5, 5, 5, 5, 7, 7, 7, 7, 8, 8, 8, 8, 8, 8, 0, 0, 0, 0, 0, 0, 0, 0, 0, 0, 0, 0, 4, 4, 4, 5, 7, 8, 8, 0, 0, 0, 0, 0, 0, 0, 0, 0, 0, 0, 4, 4, 4, 8, 8, 9, 0, 0, 0, 0, 0, 0, 0, 0, 0, 4, 4, 4, 9, 0, 0, 0, 0, 0, 0, 0, 0, 0, 0, 0, 4, 4, 9, 0, 0, 0, 0, 0, 0, 0, 0, 0, 0, 0, 0, 0, 0, 0, 0, 0, 0, 0, 10]
def mC (m : Nat) : Nat := mCl.getD m 99
theorem mC_ok : ∀ m, m < 200 → (mN m).cls = oNm (mC m) := by decide +kernel
def mK (m : Nat) : Nat := ([99, 99, 99, 0, 99, 0, 99, 99, 99, 7, 7, 7, 7, 7, 7, 7, 1, 1, 2, 3, 99, 99, 4, 4, 4, 5, 5, 5, 5, 5, 5, 6, 6, 7, 7, 7, 0, 7, 7, 7, 7, 7, 7, 7, 7, 7, 7, 7, 7, 7, 1, 1, 1, 2, 2, 2, 2, 3, 3, 3, 99, 99, 99, 5, 5, 5, 5, 5, 5, 5, 5, 5, 99, 99, 6, 6, 7, 7, 7, 7, 7, 7, 7, 7, 7, 7, 7, 7, 7, 7, 7, 7, 7, 7, 7, 7, 2, 3, 3, 3, 3, 3, 3, 99, 99, 99, 99, 5, 5, 5, 5, 99, 99, 99, 99, 99, 99, 7, 7, 7, 7, 7, 7, 7, 7, 7, 7, 7, 7, 3, 3, 3, 99, 5, 99, 99, 7, 7, 7, 7, 7, 7, 7, 7, 7, 7, 7, 3, 3, 3, 99, 99, 6, 7, 7, 7, 7, 7, 7, 7, 7, 7, 3, 3, 3, 6, 7, 7, 7, 7, 7, 7, 7, 7, 7, 7, 7, 3, 3, 6, 7, 7, 7, 7, 7, 7, 7, 7, 7, 7, 7, 7, 7, 7, 7, 7, 7, 7, 7, 99] : List Nat).getD m 99
theorem mK_ok : ∀ m, m < 200 → mK m < 8 → (mN m).cls = cNm (mK m) := by decide +kernel
def flT : List (Nat × Nat × Nat × Nat × Nat) := [(7, 11, 5, 0, 39), (6, 22, 5, 0, 40), (4, 11, 3, 0, 51), (4, 17, 3, 1, 52), (6, 17, 4, 0, 75), (9, 16, 6, 0, 81), (9, 20, 6, 1, 82), (9, 26, 6, 2, 83), (9, 30, 6, 3, 84), (9, 34, 6, 4, 85), (9, 37, 6, 5, 86), (9, 45, 6, 6, 87), (0, 143, 6, 6, 88), (9, 49, 6, 7, 89), (0, 146, 6, 7, 90), (9, 52, 6, 8, 91), (0, 149, 6, 8, 92), (9, 55, 6, 9, 93), (0, 187, 6, 9, 94), (9, 58, 6, 10, 95), (0, 152, 6, 10, 96), (2, 14, 1, 0, 128), (2, 22, 1, 1, 129), (2, 18, 1, 2, 130), (3, 14, 2, 0, 146), (3, 20, 2, 1, 147), (1, 11, 0, 0, 159), (1, 15, 0, 1, 160), (1, 18, 0, 2, 161), (0, 10, 7, 0, 193), (0, 19, 7, 1, 194), (0, 26, 7, 2, 195), (0, 33, 7, 3, 196), (0, 40, 7, 4, 197), (0, 47, 7, 5, 198), (0, 101, 7, 6, 199)]
theorem flT_ok : flT.all (fun e => (decide (lw_tbl[e.2.2.2.2]? = some (Cond.fieldLink (oNm e.1) e.2.1 (TTT e.2.2.1 e.2.2.2.1).1 (TTT e.2.2.1 e.2.2.2.1).2.1 (TTT e.2.2.1 e.2.2.2.1).2.2.1)) && goodWord (Cond.fieldLink (oNm e.1) e.2.1 (TTT e.2.2.1 e.2.2.2.1).1 (TTT e.2.2.1 e.2.2.2.1).2.1 (TTT e.2.2.1 e.2.2.2.1).2.2.1)) && decide (e.2.2.1 < 8) && decide (e.2.2.2.1 < cNf e.2.2.1)) = true := by decide +kernel
def flk (m idx : Nat) : Option (Nat × Nat) := (flT.find? (fun e => e.1 == mC m && e.2.1 == idx)).map (fun e => (e.2.2.1, e.2.2.2.1))
theorem flk_ok {m idx ci k : Nat} (hm : m < 200) (h : flk m idx = some (ci, k)) : Cond.fieldLink (mN m).cls idx (TTT ci k).1 (TTT ci k).2.1 (TTT ci k).2.2.1 ∈ wsAll ∧ ci < 8 ∧ k < cNf ci := by
  unfold flk at h
  rw [Option.map_eq_some_iff] at h
  obtain ⟨e, he, h2⟩ := h
  have hm2 := List.mem_of_find?_eq_some he
  have hp := List.find?_some he
  simp only [Bool.and_eq_true, beq_iff_eq] at hp
  have h3 := List.all_eq_true.mp flT_ok e hm2
  simp only [Bool.and_eq_true, decide_eq_true_eq] at h3
  cases h2
  obtain ⟨⟨h4, h5⟩, h6⟩ := h3
  rw [mC_ok m hm, ← hp.1, ← hp.2]
  exact ⟨wsAll_of h4.1 h4.2, h5, h6⟩
def mlT : List (Nat × Nat × Nat × Nat) := [(10, 64, 139, 27), (9, 13, 22, 66), (2, 11, 22, 127), (3, 11, 22, 145), (0, 51, 70, 169), (7, 15, 30, 173), (0, 55, 109, 177), (7, 19, 68, 181), (7, 23, 25, 185), (7, 27, 64, 189), (10, 21, 186, 215), (0, 58, 35, 219), (0, 63, 108, 223), (7, 30, 71, 227), (0, 67, 107, 231), (0, 70, 25, 235), (0, 74, 110, 236), (7, 38, 66, 240), (7, 34, 28, 244), (0, 77, 129, 248), (4, 34, 25, 252), (4, 64, 98, 256), (4, 28, 57, 259), (4, 80, 29, 262), (4, 67, 97, 266), (4, 83, 58, 269), (4, 70, 0, 272), (4, 76, 101, 275), (4, 24, 59, 279), (0, 81, 162, 282), (4, 46, 99, 286), (4, 20, 71, 290), (4, 49, 149, 291), (4, 31, 131, 295), (4, 86, 100, 298), (4, 38, 102, 301), (0, 85, 178, 304), (4, 52, 164, 308), (4, 42, 147, 312), (4, 89, 130, 315), (0, 88, 177, 318), (4, 55, 163, 322), (4, 92, 148, 326), (0, 91, 133, 329), (7, 42, 107, 333), (7, 45, 26, 334), (0, 94, 5, 339), (0, 97, 36, 343), (1, 24, 25, 347), (1, 28, 29, 348), (0, 100, 17, 349), (10, 80, 137, 353), (0, 106, 26, 358), (10, 53, 180, 359), (0, 123, 76, 363), (0, 126, 29, 367), (0, 129, 99, 368), (0, 133, 149, 369), (0, 136, 164, 370), (10, 65, 1, 371), (10, 9, 2, 375), (10, 69, 4, 379), (10, 15, 153, 382), (0, 155, 20, 386), (0, 162, 136, 390), (0, 221, 16, 394), (0, 201, 31, 398), (10, 73, 6, 402), (10, 25, 155, 405), (0, 109, 140, 409), (0, 113, 28, 413), (0, 117, 112, 414), (8, 50, 66, 417), (8, 53, 28, 418), (8, 11, 25, 419), (10, 28, 181, 420), (0, 194, 167, 424), (0, 233, 33, 428), (0, 168, 66, 435), (0, 176, 118, 436), (0, 231, 50, 440), (2, 25, 23, 444), (0, 183, 150, 451), (8, 57, 134, 454), (8, 27, 68, 457), (8, 72, 26, 458), (8, 75, 111, 459), (8, 60, 72, 462), (8, 63, 135, 465), (8, 81, 65, 468), (8, 85, 115, 472), (8, 66, 116, 476), (8, 78, 64, 479), (8, 42, 132, 480), (5, 23, 28, 483), (5, 27, 68, 484), (5, 31, 106, 485), (5, 19, 25, 488), (5, 9, 67, 489), (5, 15, 65, 493), (5, 37, 104, 494), (5, 45, 62, 497), (5, 60, 29, 500), (5, 49, 60, 501), (5, 52, 71, 504), (5, 56, 61, 505), (5, 63, 21, 508), (5, 41, 105, 511), (8, 69, 113, 514), (8, 19, 67, 517), (8, 15, 69, 518), (8, 46, 73, 522), (8, 23, 30, 525), (0, 171, 63, 526), (0, 165, 67, 530), (0, 179, 151, 531), (8, 30, 103, 534), (8, 36, 114, 537), (10, 31, 119, 540), (0, 197, 52, 544), (2, 29, 24, 548), (10, 34, 154, 552), (10, 38, 117, 556), (0, 214, 18, 560), (0, 217, 56, 564), (3, 28, 18, 568), (3, 32, 23, 569), (10, 41, 138, 570), (0, 222, 96, 574), (3, 24, 55, 578), (0, 225, 54, 582), (3, 36, 24, 586), (0, 228, 55, 587), (10, 44, 168, 588), (10, 47, 169, 592), (10, 50, 166, 596), (10, 76, 7, 601), (10, 82, 8, 605), (10, 57, 187, 608), (0, 139, 179, 612), (9, 61, 23, 616), (9, 64, 32, 617), (9, 41, 24, 622), (9, 68, 110, 623), (9, 72, 152, 624), (9, 86, 129, 629), (9, 76, 165, 630), (9, 92, 108, 634), (9, 95, 112, 635), (9, 101, 150, 636), (10, 60, 185, 637), (0, 190, 74, 641)]
theorem mlT_ok : mlT.all (fun e => (decide (lw_tbl[e.2.2.2]? = some (Cond.methodLink (oNm e.1) e.2.1 (mN e.2.2.1))) && goodWord (Cond.methodLink (oNm e.1) e.2.1 (mN e.2.2.1))) && decide (e.2.2.1 < 199)) = true := by decide +kernel
def mlk (m idx : Nat) : Option Nat := (mlT.find? (fun e => e.1 == mC m && e.2.1 == idx)).map (fun e => e.2.2.1)
theorem mlk_ok {m idx y : Nat} (hm : m < 200) (h : mlk m idx = some y) : Cond.methodLink (mN m).cls idx (mN y) ∈ wsAll ∧ y < 199 := by
  unfold mlk at h
  rw [Option.map_eq_some_iff] at h
  obtain ⟨e, he, h2⟩ := h
  have hm2 := List.mem_of_find?_eq_some he
  have hp := List.find?_some he
  simp only [Bool.and_eq_true, beq_iff_eq] at hp
  have h3 := List.all_eq_true.mp mlT_ok e hm2
  simp only [Bool.and_eq_true, decide_eq_true_eq] at h3
  cases h2
  obtain ⟨h4, h5⟩ := h3
  rw [mC_ok m hm, ← hp.1, ← hp.2]
  exact ⟨wsAll_of h4.1 h4.2, h5⟩
def nsT : List (Nat × Nat × Nat × Nat × String) := [(0, 9, 27, 35, "StrongCells"), (0, 18, 19, 47, "StrongCells"), (0, 25, 75, 60, "StrongCells"), (9, 25, 27, 80, "StrongCells"), (0, 32, 51, 122, "StrongCells"), (0, 39, 53, 140, "StrongCells"), (0, 46, 3, 155, "StrongCells")]
def nstW : List Cond := nsT.map (fun e => Cond.methodLinkNest (oNm e.1) e.2.1 (mN e.2.2.1) e.2.2.2.2)
theorem nsT_ok : nsT.all (fun e => decide (lw_tbl[e.2.2.2.1]? = some (Cond.methodLinkNest (oNm e.1) e.2.1 (mN e.2.2.1) e.2.2.2.2)) && decide (e.2.2.1 < 199)) = true := by decide +kernel
theorem nstW_in : ∀ w ∈ nstW, w ∈ lw_tbl := by
  intro w hw
  obtain ⟨e, he, rfl⟩ := List.mem_map.mp hw
  have h3 := List.all_eq_true.mp nsT_ok e he
  simp only [Bool.and_eq_true, decide_eq_true_eq] at h3
  exact List.mem_of_getElem? h3.1
def nsk (m idx : Nat) : Option (Nat × String) := (nsT.find? (fun e => e.1 == mC m && e.2.1 == idx)).map (fun e => (e.2.2.1, e.2.2.2.2))
theorem nsk_ok {m idx y : Nat} {host : String} (hm : m < 200) (h : nsk m idx = some (y, host)) : Cond.methodLinkNest (mN m).cls idx (mN y) host ∈ nstW ∧ y < 199 := by
  unfold nsk at h
  rw [Option.map_eq_some_iff] at h
  obtain ⟨e, he, h2⟩ := h
  have hm2 := List.mem_of_find?_eq_some he
  have hp := List.find?_some he
  simp only [Bool.and_eq_true, beq_iff_eq] at hp
  have h3 := List.all_eq_true.mp nsT_ok e hm2
  simp only [Bool.and_eq_true, decide_eq_true_eq] at h3
  cases h2
  obtain ⟨h4, h5⟩ := h3
  rw [mC_ok m hm, ← hp.1, ← hp.2]
  exact ⟨List.mem_map.mpr ⟨e, hm2, rfl⟩, h5⟩
def spN (k : Nat) : MethodName := match k with
  | 0 => Lib.objectInit
  | 1 => Lib.Math.max.name
  | 2 => Lib.Math.min.name
  | _ => arraycopyName
def spT : List (Nat × Nat × Nat × Nat) := [(0, 1, 0, 30), (7, 5, 0, 38), (4, 5, 0, 50), (9, 3, 0, 63), (6, 1, 0, 69), (6, 7, 1, 70), (2, 1, 0, 125), (3, 3, 0, 143), (1, 3, 0, 158), (4, 58, 2, 253), (7, 50, 1, 338), (6, 26, 3, 448), (8, 88, 1, 475), (9, 80, 1, 628)]
theorem spT_ok : spT.all (fun e => (decide (lw_tbl[e.2.2.2]? = some (Cond.methodLink (oNm e.1) e.2.1 (spN e.2.2.1))) && goodWord (Cond.methodLink (oNm e.1) e.2.1 (spN e.2.2.1)))) = true := by decide +kernel
def spk (m idx : Nat) : Option Nat := (spT.find? (fun e => e.1 == mC m && e.2.1 == idx)).map (fun e => e.2.2.1)
theorem spk_ok {m idx y : Nat} (hm : m < 200) (h : spk m idx = some y) : Cond.methodLink (mN m).cls idx (spN y) ∈ wsAll := by
  unfold spk at h
  rw [Option.map_eq_some_iff] at h
  obtain ⟨e, he, h2⟩ := h
  have hm2 := List.mem_of_find?_eq_some he
  have hp := List.find?_some he
  simp only [Bool.and_eq_true, beq_iff_eq] at hp
  have h3 := List.all_eq_true.mp spT_ok e hm2
  cases h2
  rw [mC_ok m hm, ← hp.1, ← hp.2]
  exact wsAll_and h3
theorem sp_w0 : Cond.instanceMethod Lib.objectInit ∈ wsAll := wsAll_of (i := 31) (by decide +kernel) (by decide +kernel)
theorem sp_w1 : Cond.code Lib.objectInit ⟨#[0xb1]⟩ 1 none ∈ wsAll := wsAll_of (i := 32) (by decide +kernel) (by decide +kernel)
theorem sp_maxs : Cond.static Lib.Math.max.name ∈ wsAll := wsAll_of (i := 71) (by decide +kernel) (by decide +kernel)
theorem sp_maxc : Cond.code Lib.Math.max.name Lib.Math.max.code 2 (some .int) ∈ wsAll := wsAll_of (i := 72) (by decide +kernel) (by decide +kernel)
theorem sp_mins : Cond.static Lib.Math.min.name ∈ wsAll := wsAll_of (i := 254) (by decide +kernel) (by decide +kernel)
theorem sp_minc : Cond.code Lib.Math.min.name Lib.Math.min.code 2 (some .int) ∈ wsAll := wsAll_of (i := 255) (by decide +kernel) (by decide +kernel)
theorem sp_mi : Cond.initialized "java/lang/Math" ∈ wsAll := wsAll_of (i := 17) (by decide +kernel) (by decide +kernel)
theorem sp_acn : Cond.native arraycopyName ∈ wsAll := wsAll_of (i := 450) (by decide +kernel) (by decide +kernel)
theorem sp_acs : Cond.static arraycopyName ∈ wsAll := wsAll_of (i := 449) (by decide +kernel) (by decide +kernel)
theorem sp_aci : Cond.initialized "java/lang/System" ∈ wsAll := wsAll_of (i := 24) (by decide +kernel) (by decide +kernel)
theorem sp_arI : Cond.arrayClass .int ∈ wsAll := wsAll_of (i := 44) (by decide +kernel) (by decide +kernel)
theorem sp_arO : Cond.arrayOver (.array .int) ∈ lw_tbl := List.mem_of_getElem? (i := 74) (by decide +kernel)
def clT : List (Nat × Nat × Nat × Nat × Nat × Nat) := [(10, 16, 7, 25, 26, 12), (0, 7, 5, 33, 34, 13), (0, 16, 3, 45, 46, 14), (0, 23, 6, 58, 59, 15), (9, 9, 4, 64, 65, 16), (9, 23, 5, 79, 34, 13), (0, 30, 1, 120, 121, 18), (2, 7, 4, 126, 65, 16), (0, 37, 2, 138, 139, 19), (3, 9, 4, 144, 65, 16), (0, 44, 0, 153, 154, 20)]
theorem clT_ok : clT.all (fun e => (decide (lw_tbl[e.2.2.2.1]? = some (Cond.classLink (oNm e.1) e.2.1 (cNm e.2.2.1))) && goodWord (Cond.classLink (oNm e.1) e.2.1 (cNm e.2.2.1))) && (decide (lw_tbl[e.2.2.2.2.1]? = some (Cond.instantiable (cNm e.2.2.1) (cNf e.2.2.1))) && goodWord (Cond.instantiable (cNm e.2.2.1) (cNf e.2.2.1))) && (decide (lw_tbl[e.2.2.2.2.2]? = some (Cond.initialized (cNm e.2.2.1))) && goodWord (Cond.initialized (cNm e.2.2.1))) && decide (e.2.2.1 < 8)) = true := by decide +kernel
def clk (m idx : Nat) : Option Nat := (clT.find? (fun e => e.1 == mC m && e.2.1 == idx)).map (fun e => e.2.2.1)
theorem clk_ok {m idx y : Nat} (hm : m < 200) (h : clk m idx = some y) : Cond.classLink (mN m).cls idx (cNm y) ∈ wsAll ∧ Cond.instantiable (cNm y) (cNf y) ∈ wsAll ∧ Cond.initialized (cNm y) ∈ wsAll ∧ y < 8 := by
  unfold clk at h
  rw [Option.map_eq_some_iff] at h
  obtain ⟨e, he, h2⟩ := h
  have hm2 := List.mem_of_find?_eq_some he
  have hp := List.find?_some he
  simp only [Bool.and_eq_true, beq_iff_eq] at hp
  have h3 := List.all_eq_true.mp clT_ok e hm2
  simp only [Bool.and_eq_true, decide_eq_true_eq] at h3
  cases h2
  obtain ⟨⟨⟨h4, h5⟩, h6⟩, h7⟩ := h3
  rw [mC_ok m hm, ← hp.1, ← hp.2]
  exact ⟨wsAll_of h4.1 h4.2, wsAll_of h5.1 h5.2, wsAll_of h6.1 h6.2, h7⟩
theorem mna_w : Cond.classLink "StrongCells$Shelf" 15 "[[I" ∈ wsAll := wsAll_of (i := 73) (by decide +kernel) (by decide +kernel)
def mnaM : Nat := 22
def mnaI : Nat := 15
def kiT : List (Nat × Nat × Int32 × Nat) := [(0, 62, (-1000000002), 222), (0, 105, (-1000000001), 357), (10, 7, (747796405), 374), (10, 8, (2147483647), 378), (0, 161, (-1000000003), 389), (0, 236, (1103515245), 432), (0, 237, (2147483647), 433), (0, 238, (65536), 434), (0, 175, (-1000000004), 600), (10, 56, (-1000000001), 604), (9, 67, (1000000), 621), (10, 63, (-1000000003), 645)]
theorem kiT_ok : kiT.all (fun e => (decide (lw_tbl[e.2.2.2]? = some (Cond.constant (oNm e.1) e.2.1 e.2.2.1)) && goodWord (Cond.constant (oNm e.1) e.2.1 e.2.2.1))) = true := by decide +kernel
def kik (m idx : Nat) : Option Int32 := (kiT.find? (fun e => e.1 == mC m && e.2.1 == idx)).map (fun e => e.2.2.1)
theorem kik_ok {m idx : Nat} {v : Int32} (hm : m < 200) (h : kik m idx = some v) : Cond.constant (mN m).cls idx v ∈ wsAll := by
  unfold kik at h
  rw [Option.map_eq_some_iff] at h
  obtain ⟨e, he, h2⟩ := h
  have hm2 := List.mem_of_find?_eq_some he
  have hp := List.find?_some he
  simp only [Bool.and_eq_true, beq_iff_eq] at hp
  have h3 := List.all_eq_true.mp kiT_ok e hm2
  cases h2
  rw [mC_ok m hm, ← hp.1, ← hp.2]
  exact wsAll_and h3
def klT : List (Nat × Nat × Int64 × Nat) := []
theorem klT_ok : klT.all (fun e => (decide (lw_tbl[e.2.2.2]? = some (Cond.constantLong (oNm e.1) e.2.1 e.2.2.1)) && goodWord (Cond.constantLong (oNm e.1) e.2.1 e.2.2.1))) = true := by decide +kernel
def klk (m idx : Nat) : Option Int64 := (klT.find? (fun e => e.1 == mC m && e.2.1 == idx)).map (fun e => e.2.2.1)
theorem klk_ok {m idx : Nat} {v : Int64} (hm : m < 200) (h : klk m idx = some v) : Cond.constantLong (mN m).cls idx v ∈ wsAll := by
  unfold klk at h
  rw [Option.map_eq_some_iff] at h
  obtain ⟨e, he, h2⟩ := h
  have hm2 := List.mem_of_find?_eq_some he
  have hp := List.find?_some he
  simp only [Bool.and_eq_true, beq_iff_eq] at hp
  have h3 := List.all_eq_true.mp klT_ok e hm2
  cases h2
  rw [mC_ok m hm, ← hp.1, ← hp.2]
  exact wsAll_and h3
theorem m_plain : ∀ m, m < 200 → plainName (mN m).cls = true := by decide +kernel
theorem m_maxL : ∀ m, m < 200 → mL m ≤ 11 := by decide +kernel
theorem m_cls : ∀ m, m < 200 → (mN m).cls ≠ "java/lang/invoke/MethodHandle" ∧ (mN m).cls ≠ "java/lang/invoke/VarHandle" ∧ (parseMethodDescriptor (mN m).desc).map (fun d => d.parameters.length) = some (mP m) := by decide +kernel
theorem m_init : ∀ m, m < 200 → kd m = 2 → (mN m).name = "<init>" := by decide +kernel
theorem m_ht : ∀ m, m < 200 → 1 ≤ ht m := by decide +kernel
theorem m_ret : ∀ m, m < 200 → mR m = none ∨ mR m = some .int ∨ mR m = some .boolean := by decide +kernel
theorem m_retI : ∀ m, m < 200 → kd m = 2 → mR m = none := by decide +kernel
