/-! THE WORLD BEHIND THE CONSTRUCTORS: which cell is what -/
def f0 : Nat → Option Nat := fun _ => none
def SF (L j : Nat) : Shp :=
  if 10 ≤ j ∧ j < 51 then (0, 146, f0) else if 61 ≤ j ∧ j < 77 then (0, 146, f0)
  else if j = 1 then (9, 0, (upf (upf (upf (upf (upf (upf f0 0 (some 2)) 1 (some 4)) 2 (some 7)) 3 (some 58)) 4 (some 77)) 5 (some 83)))
  else if j = 2 then (7, 0, (upf f0 0 (some 3)))
  else if j = 3 then (0, 146, f0)
  else if j = 4 then (5, 0, (upf (upf f0 0 (some 5)) 1 (some 6)))
  else if j = 5 then (0, 7, f0)
  else if j = 6 then (0, 128, f0)
  else if j = 7 then (8, 0, (upf (upf (upf (upf (upf f0 0 (some 8)) 1 (some 51)) 2 (some 54)) 3 (some 56)) 4 (some 57)))
  else if j = 8 then (6, 0, (upf f0 0 (some 9)))
  else if j = 9 then (1, 41, fun i => if i < 41 then some (10 + i) else none)
  else if j = 51 then (6, 0, (upf f0 0 (some 52)))
  else if j = 52 then (1, 1, fun i => if i < 1 then some (53 + i) else none)
  else if j = 53 then (0, 146, f0)
  else if j = 54 then (7, 0, (upf f0 0 (some 55)))
  else if j = 55 then (0, 146, f0)
  else if j = 56 then (0, 41, f0)
  else if j = 57 then (0, 41, f0)
  else if j = 58 then (3, 0, (upf f0 0 (some 59)))
  else if j = 59 then (6, 0, (upf f0 0 (some 60)))
  else if j = 60 then (1, 16, fun i => if i < 16 then some (61 + i) else none)
  else if j = 77 then (4, 0, (upf (upf f0 0 (some 78)) 1 (some 82)))
  else if j = 78 then (6, 0, (upf f0 0 (some 79)))
  else if j = 79 then (1, 2, fun i => if i < 2 then some (80 + i) else none)
  else if j = 80 then (0, 146, f0)
  else if j = 81 then (0, 146, f0)
  else if j = 82 then (0, 2, f0)
  else if j = 83 then (2, 0, (upf (upf f0 0 (some 84)) 1 (some 85)))
  else if j = 84 then (0, 20, f0)
  else if j = 85 then (0, 20, f0)
  else if j = 86 then (10, 0, (upf (upf (upf (upf (upf (upf (upf f0 0 (some 87)) 4 (some 88)) 5 (some 89)) 6 (some 90)) 8 (some 91)) 9 (some 92)) 10 (some 93)))
  else if j = 87 then (0, 11360, f0)
  else if j = 88 then (0, 2, f0)
  else if j = 89 then (0, 20, f0)
  else if j = 90 then (0, 20, f0)
  else if j = 91 then (0, 512, f0)
  else if j = 92 then (0, 64, f0)
  else if j = 93 then (0, 64, f0)
  else (0, L, f0)
def HP (L : Nat) (g : Nat → Nat → Int32) : Hp := (93, 0, 0, SF L, g)
section BB
variable {L : Nat} {g : Nat → Nat → Int32}
theorem HP_1 : (HP L g).1 = 93 := rfl
theorem HP_G {a : Nat} : hG (HP L g) a = g a := rfl
theorem HP_setG {a : Nat} {f : Nat → Int32} : setG (HP L g) a f = HP L (upf g a f) := rfl
theorem HP_S {a : Nat} : hS (HP L g) a = SF L a := rfl
theorem lvH_HP {y : Nat} {g2 : Nat → Nat → Int32} : lvH y (HP L g) (HP L g2) = HP L g2 := by simp only [lvH, HP, Nat.zero_sub]
theorem upf_same {α : Type} {f : Nat → α} {k : Nat} {v : α} : upf f k v k = v := if_pos rfl
theorem upf_ne {α : Type} {f : Nat → α} {k j : Nat} {v : α} (h : ¬ j = k) : upf f k v j = f j := if_neg h
theorem upf_upf {α : Type} {f : Nat → α} {k : Nat} {v w : α} : upf (upf f k v) k w = upf f k w := by
  funext j
  unfold upf
  split <;> rfl
theorem upf_id {α : Type} {f : Nat → α} {k : Nat} : upf f k (f k) = f := by
  funext j
  unfold upf
  split
  · rename_i h; rw [h]
  · rfl
theorem i_1 : inst 1 (HP L g) 7 := ⟨by decide, Nat.le_of_ble_eq_true rfl, rfl⟩
theorem f_1_0 : rv ((hS (HP L g) 1).2.2 0) = .ref 2 := rfl
theorem f_1_1 : rv ((hS (HP L g) 1).2.2 1) = .ref 4 := rfl
theorem f_1_2 : rv ((hS (HP L g) 1).2.2 2) = .ref 7 := rfl
theorem f_1_3 : rv ((hS (HP L g) 1).2.2 3) = .ref 58 := rfl
theorem f_1_4 : rv ((hS (HP L g) 1).2.2 4) = .ref 77 := rfl
theorem f_1_5 : rv ((hS (HP L g) 1).2.2 5) = .ref 83 := rfl
theorem i_2 : inst 2 (HP L g) 5 := ⟨by decide, Nat.le_of_ble_eq_true rfl, rfl⟩
theorem f_2_0 : rv ((hS (HP L g) 2).2.2 0) = .ref 3 := rfl
theorem i_4 : inst 4 (HP L g) 3 := ⟨by decide, Nat.le_of_ble_eq_true rfl, rfl⟩
theorem f_4_0 : rv ((hS (HP L g) 4).2.2 0) = .ref 5 := rfl
theorem f_4_1 : rv ((hS (HP L g) 4).2.2 1) = .ref 6 := rfl
theorem i_7 : inst 7 (HP L g) 6 := ⟨by decide, Nat.le_of_ble_eq_true rfl, rfl⟩
theorem f_7_0 : rv ((hS (HP L g) 7).2.2 0) = .ref 8 := rfl
theorem f_7_1 : rv ((hS (HP L g) 7).2.2 1) = .ref 51 := rfl
theorem f_7_2 : rv ((hS (HP L g) 7).2.2 2) = .ref 54 := rfl
theorem f_7_3 : rv ((hS (HP L g) 7).2.2 3) = .ref 56 := rfl
theorem f_7_4 : rv ((hS (HP L g) 7).2.2 4) = .ref 57 := rfl
theorem i_8 : inst 8 (HP L g) 4 := ⟨by decide, Nat.le_of_ble_eq_true rfl, rfl⟩
theorem f_8_0 : rv ((hS (HP L g) 8).2.2 0) = .ref 9 := rfl
theorem i_51 : inst 51 (HP L g) 4 := ⟨by decide, Nat.le_of_ble_eq_true rfl, rfl⟩
theorem f_51_0 : rv ((hS (HP L g) 51).2.2 0) = .ref 52 := rfl
theorem i_54 : inst 54 (HP L g) 5 := ⟨by decide, Nat.le_of_ble_eq_true rfl, rfl⟩
theorem f_54_0 : rv ((hS (HP L g) 54).2.2 0) = .ref 55 := rfl
theorem i_58 : inst 58 (HP L g) 1 := ⟨by decide, Nat.le_of_ble_eq_true rfl, rfl⟩
theorem f_58_0 : rv ((hS (HP L g) 58).2.2 0) = .ref 59 := rfl
theorem i_59 : inst 59 (HP L g) 4 := ⟨by decide, Nat.le_of_ble_eq_true rfl, rfl⟩
theorem f_59_0 : rv ((hS (HP L g) 59).2.2 0) = .ref 60 := rfl
theorem i_77 : inst 77 (HP L g) 2 := ⟨by decide, Nat.le_of_ble_eq_true rfl, rfl⟩
theorem f_77_0 : rv ((hS (HP L g) 77).2.2 0) = .ref 78 := rfl
theorem f_77_1 : rv ((hS (HP L g) 77).2.2 1) = .ref 82 := rfl
theorem i_78 : inst 78 (HP L g) 4 := ⟨by decide, Nat.le_of_ble_eq_true rfl, rfl⟩
theorem f_78_0 : rv ((hS (HP L g) 78).2.2 0) = .ref 79 := rfl
theorem i_83 : inst 83 (HP L g) 0 := ⟨by decide, Nat.le_of_ble_eq_true rfl, rfl⟩
theorem f_83_0 : rv ((hS (HP L g) 83).2.2 0) = .ref 84 := rfl
theorem f_83_1 : rv ((hS (HP L g) 83).2.2 1) = .ref 85 := rfl
theorem i_86 : inst 86 (HP L g) 8 := ⟨by decide, Nat.le_of_ble_eq_true rfl, rfl⟩
theorem f_86_0 : rv ((hS (HP L g) 86).2.2 0) = .ref 87 := rfl
theorem f_86_4 : rv ((hS (HP L g) 86).2.2 4) = .ref 88 := rfl
theorem f_86_5 : rv ((hS (HP L g) 86).2.2 5) = .ref 89 := rfl
theorem f_86_6 : rv ((hS (HP L g) 86).2.2 6) = .ref 90 := rfl
theorem f_86_8 : rv ((hS (HP L g) 86).2.2 8) = .ref 91 := rfl
theorem f_86_9 : rv ((hS (HP L g) 86).2.2 9) = .ref 92 := rfl
theorem f_86_10 : rv ((hS (HP L g) 86).2.2 10) = .ref 93 := rfl
theorem a_3 : 3 ≤ (HP L g).1 ∧ (hS (HP L g) 3).1 = 0 := ⟨Nat.le_of_ble_eq_true rfl, rfl⟩
theorem b_3 : 3 ≠ 0 ∧ 3 ≤ (HP L g).1 ∧ (hS (HP L g) 3).1 = 0 := ⟨by decide, Nat.le_of_ble_eq_true rfl, rfl⟩
theorem n_3 : (hS (HP L g) 3).2.1 = 146 := rfl
theorem l_3 : 3 ≤ (HP L g).1 ∧ ((hS (HP L g) 3).1 = 0 ∨ (hS (HP L g) 3).1 = 1 ∧ 3 ≠ 0) := ⟨Nat.le_of_ble_eq_true rfl, Or.inl rfl⟩
theorem a_5 : 5 ≤ (HP L g).1 ∧ (hS (HP L g) 5).1 = 0 := ⟨Nat.le_of_ble_eq_true rfl, rfl⟩
theorem b_5 : 5 ≠ 0 ∧ 5 ≤ (HP L g).1 ∧ (hS (HP L g) 5).1 = 0 := ⟨by decide, Nat.le_of_ble_eq_true rfl, rfl⟩
theorem n_5 : (hS (HP L g) 5).2.1 = 7 := rfl
theorem l_5 : 5 ≤ (HP L g).1 ∧ ((hS (HP L g) 5).1 = 0 ∨ (hS (HP L g) 5).1 = 1 ∧ 5 ≠ 0) := ⟨Nat.le_of_ble_eq_true rfl, Or.inl rfl⟩
theorem a_6 : 6 ≤ (HP L g).1 ∧ (hS (HP L g) 6).1 = 0 := ⟨Nat.le_of_ble_eq_true rfl, rfl⟩
theorem b_6 : 6 ≠ 0 ∧ 6 ≤ (HP L g).1 ∧ (hS (HP L g) 6).1 = 0 := ⟨by decide, Nat.le_of_ble_eq_true rfl, rfl⟩
theorem n_6 : (hS (HP L g) 6).2.1 = 128 := rfl
theorem l_6 : 6 ≤ (HP L g).1 ∧ ((hS (HP L g) 6).1 = 0 ∨ (hS (HP L g) 6).1 = 1 ∧ 6 ≠ 0) := ⟨Nat.le_of_ble_eq_true rfl, Or.inl rfl⟩
theorem a_53 : 53 ≤ (HP L g).1 ∧ (hS (HP L g) 53).1 = 0 := ⟨Nat.le_of_ble_eq_true rfl, rfl⟩
theorem b_53 : 53 ≠ 0 ∧ 53 ≤ (HP L g).1 ∧ (hS (HP L g) 53).1 = 0 := ⟨by decide, Nat.le_of_ble_eq_true rfl, rfl⟩
theorem n_53 : (hS (HP L g) 53).2.1 = 146 := rfl
theorem l_53 : 53 ≤ (HP L g).1 ∧ ((hS (HP L g) 53).1 = 0 ∨ (hS (HP L g) 53).1 = 1 ∧ 53 ≠ 0) := ⟨Nat.le_of_ble_eq_true rfl, Or.inl rfl⟩
theorem a_55 : 55 ≤ (HP L g).1 ∧ (hS (HP L g) 55).1 = 0 := ⟨Nat.le_of_ble_eq_true rfl, rfl⟩
theorem b_55 : 55 ≠ 0 ∧ 55 ≤ (HP L g).1 ∧ (hS (HP L g) 55).1 = 0 := ⟨by decide, Nat.le_of_ble_eq_true rfl, rfl⟩
theorem n_55 : (hS (HP L g) 55).2.1 = 146 := rfl
theorem l_55 : 55 ≤ (HP L g).1 ∧ ((hS (HP L g) 55).1 = 0 ∨ (hS (HP L g) 55).1 = 1 ∧ 55 ≠ 0) := ⟨Nat.le_of_ble_eq_true rfl, Or.inl rfl⟩
theorem a_56 : 56 ≤ (HP L g).1 ∧ (hS (HP L g) 56).1 = 0 := ⟨Nat.le_of_ble_eq_true rfl, rfl⟩
theorem b_56 : 56 ≠ 0 ∧ 56 ≤ (HP L g).1 ∧ (hS (HP L g) 56).1 = 0 := ⟨by decide, Nat.le_of_ble_eq_true rfl, rfl⟩
theorem n_56 : (hS (HP L g) 56).2.1 = 41 := rfl
theorem l_56 : 56 ≤ (HP L g).1 ∧ ((hS (HP L g) 56).1 = 0 ∨ (hS (HP L g) 56).1 = 1 ∧ 56 ≠ 0) := ⟨Nat.le_of_ble_eq_true rfl, Or.inl rfl⟩
theorem a_57 : 57 ≤ (HP L g).1 ∧ (hS (HP L g) 57).1 = 0 := ⟨Nat.le_of_ble_eq_true rfl, rfl⟩
theorem b_57 : 57 ≠ 0 ∧ 57 ≤ (HP L g).1 ∧ (hS (HP L g) 57).1 = 0 := ⟨by decide, Nat.le_of_ble_eq_true rfl, rfl⟩
theorem n_57 : (hS (HP L g) 57).2.1 = 41 := rfl
theorem l_57 : 57 ≤ (HP L g).1 ∧ ((hS (HP L g) 57).1 = 0 ∨ (hS (HP L g) 57).1 = 1 ∧ 57 ≠ 0) := ⟨Nat.le_of_ble_eq_true rfl, Or.inl rfl⟩
theorem a_80 : 80 ≤ (HP L g).1 ∧ (hS (HP L g) 80).1 = 0 := ⟨Nat.le_of_ble_eq_true rfl, rfl⟩
theorem b_80 : 80 ≠ 0 ∧ 80 ≤ (HP L g).1 ∧ (hS (HP L g) 80).1 = 0 := ⟨by decide, Nat.le_of_ble_eq_true rfl, rfl⟩
theorem n_80 : (hS (HP L g) 80).2.1 = 146 := rfl
theorem l_80 : 80 ≤ (HP L g).1 ∧ ((hS (HP L g) 80).1 = 0 ∨ (hS (HP L g) 80).1 = 1 ∧ 80 ≠ 0) := ⟨Nat.le_of_ble_eq_true rfl, Or.inl rfl⟩
theorem a_81 : 81 ≤ (HP L g).1 ∧ (hS (HP L g) 81).1 = 0 := ⟨Nat.le_of_ble_eq_true rfl, rfl⟩
theorem b_81 : 81 ≠ 0 ∧ 81 ≤ (HP L g).1 ∧ (hS (HP L g) 81).1 = 0 := ⟨by decide, Nat.le_of_ble_eq_true rfl, rfl⟩
theorem n_81 : (hS (HP L g) 81).2.1 = 146 := rfl
theorem l_81 : 81 ≤ (HP L g).1 ∧ ((hS (HP L g) 81).1 = 0 ∨ (hS (HP L g) 81).1 = 1 ∧ 81 ≠ 0) := ⟨Nat.le_of_ble_eq_true rfl, Or.inl rfl⟩
theorem a_82 : 82 ≤ (HP L g).1 ∧ (hS (HP L g) 82).1 = 0 := ⟨Nat.le_of_ble_eq_true rfl, rfl⟩
theorem b_82 : 82 ≠ 0 ∧ 82 ≤ (HP L g).1 ∧ (hS (HP L g) 82).1 = 0 := ⟨by decide, Nat.le_of_ble_eq_true rfl, rfl⟩
theorem n_82 : (hS (HP L g) 82).2.1 = 2 := rfl
theorem l_82 : 82 ≤ (HP L g).1 ∧ ((hS (HP L g) 82).1 = 0 ∨ (hS (HP L g) 82).1 = 1 ∧ 82 ≠ 0) := ⟨Nat.le_of_ble_eq_true rfl, Or.inl rfl⟩
theorem a_84 : 84 ≤ (HP L g).1 ∧ (hS (HP L g) 84).1 = 0 := ⟨Nat.le_of_ble_eq_true rfl, rfl⟩
theorem b_84 : 84 ≠ 0 ∧ 84 ≤ (HP L g).1 ∧ (hS (HP L g) 84).1 = 0 := ⟨by decide, Nat.le_of_ble_eq_true rfl, rfl⟩
theorem n_84 : (hS (HP L g) 84).2.1 = 20 := rfl
theorem l_84 : 84 ≤ (HP L g).1 ∧ ((hS (HP L g) 84).1 = 0 ∨ (hS (HP L g) 84).1 = 1 ∧ 84 ≠ 0) := ⟨Nat.le_of_ble_eq_true rfl, Or.inl rfl⟩
theorem a_85 : 85 ≤ (HP L g).1 ∧ (hS (HP L g) 85).1 = 0 := ⟨Nat.le_of_ble_eq_true rfl, rfl⟩
theorem b_85 : 85 ≠ 0 ∧ 85 ≤ (HP L g).1 ∧ (hS (HP L g) 85).1 = 0 := ⟨by decide, Nat.le_of_ble_eq_true rfl, rfl⟩
theorem n_85 : (hS (HP L g) 85).2.1 = 20 := rfl
theorem l_85 : 85 ≤ (HP L g).1 ∧ ((hS (HP L g) 85).1 = 0 ∨ (hS (HP L g) 85).1 = 1 ∧ 85 ≠ 0) := ⟨Nat.le_of_ble_eq_true rfl, Or.inl rfl⟩
theorem a_87 : 87 ≤ (HP L g).1 ∧ (hS (HP L g) 87).1 = 0 := ⟨Nat.le_of_ble_eq_true rfl, rfl⟩
theorem b_87 : 87 ≠ 0 ∧ 87 ≤ (HP L g).1 ∧ (hS (HP L g) 87).1 = 0 := ⟨by decide, Nat.le_of_ble_eq_true rfl, rfl⟩
theorem n_87 : (hS (HP L g) 87).2.1 = 11360 := rfl
theorem l_87 : 87 ≤ (HP L g).1 ∧ ((hS (HP L g) 87).1 = 0 ∨ (hS (HP L g) 87).1 = 1 ∧ 87 ≠ 0) := ⟨Nat.le_of_ble_eq_true rfl, Or.inl rfl⟩
theorem a_88 : 88 ≤ (HP L g).1 ∧ (hS (HP L g) 88).1 = 0 := ⟨Nat.le_of_ble_eq_true rfl, rfl⟩
theorem b_88 : 88 ≠ 0 ∧ 88 ≤ (HP L g).1 ∧ (hS (HP L g) 88).1 = 0 := ⟨by decide, Nat.le_of_ble_eq_true rfl, rfl⟩
theorem n_88 : (hS (HP L g) 88).2.1 = 2 := rfl
theorem l_88 : 88 ≤ (HP L g).1 ∧ ((hS (HP L g) 88).1 = 0 ∨ (hS (HP L g) 88).1 = 1 ∧ 88 ≠ 0) := ⟨Nat.le_of_ble_eq_true rfl, Or.inl rfl⟩
theorem a_89 : 89 ≤ (HP L g).1 ∧ (hS (HP L g) 89).1 = 0 := ⟨Nat.le_of_ble_eq_true rfl, rfl⟩
theorem b_89 : 89 ≠ 0 ∧ 89 ≤ (HP L g).1 ∧ (hS (HP L g) 89).1 = 0 := ⟨by decide, Nat.le_of_ble_eq_true rfl, rfl⟩
theorem n_89 : (hS (HP L g) 89).2.1 = 20 := rfl
theorem l_89 : 89 ≤ (HP L g).1 ∧ ((hS (HP L g) 89).1 = 0 ∨ (hS (HP L g) 89).1 = 1 ∧ 89 ≠ 0) := ⟨Nat.le_of_ble_eq_true rfl, Or.inl rfl⟩
theorem a_90 : 90 ≤ (HP L g).1 ∧ (hS (HP L g) 90).1 = 0 := ⟨Nat.le_of_ble_eq_true rfl, rfl⟩
theorem b_90 : 90 ≠ 0 ∧ 90 ≤ (HP L g).1 ∧ (hS (HP L g) 90).1 = 0 := ⟨by decide, Nat.le_of_ble_eq_true rfl, rfl⟩
theorem n_90 : (hS (HP L g) 90).2.1 = 20 := rfl
theorem l_90 : 90 ≤ (HP L g).1 ∧ ((hS (HP L g) 90).1 = 0 ∨ (hS (HP L g) 90).1 = 1 ∧ 90 ≠ 0) := ⟨Nat.le_of_ble_eq_true rfl, Or.inl rfl⟩
theorem a_91 : 91 ≤ (HP L g).1 ∧ (hS (HP L g) 91).1 = 0 := ⟨Nat.le_of_ble_eq_true rfl, rfl⟩
theorem b_91 : 91 ≠ 0 ∧ 91 ≤ (HP L g).1 ∧ (hS (HP L g) 91).1 = 0 := ⟨by decide, Nat.le_of_ble_eq_true rfl, rfl⟩
theorem n_91 : (hS (HP L g) 91).2.1 = 512 := rfl
theorem l_91 : 91 ≤ (HP L g).1 ∧ ((hS (HP L g) 91).1 = 0 ∨ (hS (HP L g) 91).1 = 1 ∧ 91 ≠ 0) := ⟨Nat.le_of_ble_eq_true rfl, Or.inl rfl⟩
theorem a_92 : 92 ≤ (HP L g).1 ∧ (hS (HP L g) 92).1 = 0 := ⟨Nat.le_of_ble_eq_true rfl, rfl⟩
theorem b_92 : 92 ≠ 0 ∧ 92 ≤ (HP L g).1 ∧ (hS (HP L g) 92).1 = 0 := ⟨by decide, Nat.le_of_ble_eq_true rfl, rfl⟩
theorem n_92 : (hS (HP L g) 92).2.1 = 64 := rfl
theorem l_92 : 92 ≤ (HP L g).1 ∧ ((hS (HP L g) 92).1 = 0 ∨ (hS (HP L g) 92).1 = 1 ∧ 92 ≠ 0) := ⟨Nat.le_of_ble_eq_true rfl, Or.inl rfl⟩
theorem a_93 : 93 ≤ (HP L g).1 ∧ (hS (HP L g) 93).1 = 0 := ⟨Nat.le_of_ble_eq_true rfl, rfl⟩
theorem b_93 : 93 ≠ 0 ∧ 93 ≤ (HP L g).1 ∧ (hS (HP L g) 93).1 = 0 := ⟨by decide, Nat.le_of_ble_eq_true rfl, rfl⟩
theorem n_93 : (hS (HP L g) 93).2.1 = 64 := rfl
theorem l_93 : 93 ≤ (HP L g).1 ∧ ((hS (HP L g) 93).1 = 0 ∨ (hS (HP L g) 93).1 = 1 ∧ 93 ≠ 0) := ⟨Nat.le_of_ble_eq_true rfl, Or.inl rfl⟩
theorem c_9 : 9 ≠ 0 ∧ 9 ≤ (HP L g).1 ∧ (hS (HP L g) 9).1 = 1 := ⟨by decide, Nat.le_of_ble_eq_true rfl, rfl⟩
theorem n_9 : (hS (HP L g) 9).2.1 = 41 := rfl
theorem l_9 : 9 ≤ (HP L g).1 ∧ ((hS (HP L g) 9).1 = 0 ∨ (hS (HP L g) 9).1 = 1 ∧ 9 ≠ 0) := ⟨Nat.le_of_ble_eq_true rfl, Or.inr ⟨rfl, by decide⟩⟩
theorem r_9 {i : Nat} (h : i < 41) : rv ((hS (HP L g) 9).2.2 i) = .ref (10 + i) := by
  show rv (if i < 41 then some (10 + i) else none) = _
  rw [if_pos h]
  rfl
theorem c_52 : 52 ≠ 0 ∧ 52 ≤ (HP L g).1 ∧ (hS (HP L g) 52).1 = 1 := ⟨by decide, Nat.le_of_ble_eq_true rfl, rfl⟩
theorem n_52 : (hS (HP L g) 52).2.1 = 1 := rfl
theorem l_52 : 52 ≤ (HP L g).1 ∧ ((hS (HP L g) 52).1 = 0 ∨ (hS (HP L g) 52).1 = 1 ∧ 52 ≠ 0) := ⟨Nat.le_of_ble_eq_true rfl, Or.inr ⟨rfl, by decide⟩⟩
theorem r_52 {i : Nat} (h : i < 1) : rv ((hS (HP L g) 52).2.2 i) = .ref (53 + i) := by
  show rv (if i < 1 then some (53 + i) else none) = _
  rw [if_pos h]
  rfl
theorem c_60 : 60 ≠ 0 ∧ 60 ≤ (HP L g).1 ∧ (hS (HP L g) 60).1 = 1 := ⟨by decide, Nat.le_of_ble_eq_true rfl, rfl⟩
theorem n_60 : (hS (HP L g) 60).2.1 = 16 := rfl
theorem l_60 : 60 ≤ (HP L g).1 ∧ ((hS (HP L g) 60).1 = 0 ∨ (hS (HP L g) 60).1 = 1 ∧ 60 ≠ 0) := ⟨Nat.le_of_ble_eq_true rfl, Or.inr ⟨rfl, by decide⟩⟩
theorem r_60 {i : Nat} (h : i < 16) : rv ((hS (HP L g) 60).2.2 i) = .ref (61 + i) := by
  show rv (if i < 16 then some (61 + i) else none) = _
  rw [if_pos h]
  rfl
theorem c_79 : 79 ≠ 0 ∧ 79 ≤ (HP L g).1 ∧ (hS (HP L g) 79).1 = 1 := ⟨by decide, Nat.le_of_ble_eq_true rfl, rfl⟩
theorem n_79 : (hS (HP L g) 79).2.1 = 2 := rfl
theorem l_79 : 79 ≤ (HP L g).1 ∧ ((hS (HP L g) 79).1 = 0 ∨ (hS (HP L g) 79).1 = 1 ∧ 79 ≠ 0) := ⟨Nat.le_of_ble_eq_true rfl, Or.inr ⟨rfl, by decide⟩⟩
theorem r_79 {i : Nat} (h : i < 2) : rv ((hS (HP L g) 79).2.2 i) = .ref (80 + i) := by
  show rv (if i < 2 then some (80 + i) else none) = _
  rw [if_pos h]
  rfl
/-- the two states, and where their rows lie -/
def isSt (p q : Nat) : Prop := (p = 2 ∧ q = 3) ∨ (p = 54 ∧ q = 55)
theorem st_2 : isSt 2 3 := Or.inl ⟨rfl, rfl⟩
theorem st_54 : isSt 54 55 := Or.inr ⟨rfl, rfl⟩
theorem i_st {p q : Nat} (h : isSt p q) : inst p (HP L g) 5 := by
  rcases h with ⟨rfl, rfl⟩ | ⟨rfl, rfl⟩
  · exact i_2
  · exact i_54
theorem f_st {p q : Nat} (h : isSt p q) : rv ((hS (HP L g) p).2.2 0) = .ref q := by rcases h with ⟨rfl, rfl⟩ | ⟨rfl, rfl⟩ <;> rfl
theorem a_st {p q : Nat} (h : isSt p q) : q ≤ (HP L g).1 ∧ (hS (HP L g) q).1 = 0 := by
  rcases h with ⟨rfl, rfl⟩ | ⟨rfl, rfl⟩
  · exact a_3
  · exact a_55
theorem b_st {p q : Nat} (h : isSt p q) : q ≠ 0 ∧ q ≤ (HP L g).1 ∧ (hS (HP L g) q).1 = 0 := by
  rcases h with ⟨rfl, rfl⟩ | ⟨rfl, rfl⟩
  · exact b_3
  · exact b_55
theorem n_st {p q : Nat} (h : isSt p q) : (hS (HP L g) q).2.1 = 146 := by rcases h with ⟨rfl, rfl⟩ | ⟨rfl, rfl⟩ <;> rfl
theorem l_st {p q : Nat} (h : isSt p q) : q ≤ (HP L g).1 ∧ ((hS (HP L g) q).1 = 0 ∨ (hS (HP L g) q).1 = 1 ∧ q ≠ 0) := ⟨(a_st h).1, Or.inl (a_st h).2⟩
theorem en_0 : enH 0 (HP L g) = HP L g := rfl
theorem en_1 : enH 1 (HP L g) = HP L g := rfl
theorem en_2 : enH 2 (HP L g) = HP L g := rfl
theorem en_4 : enH 4 (HP L g) = HP L g := rfl
theorem en_5 : enH 5 (HP L g) = HP L g := rfl
theorem en_6 : enH 6 (HP L g) = HP L g := rfl
theorem en_7 : enH 7 (HP L g) = HP L g := rfl
theorem en_8 : enH 8 (HP L g) = HP L g := rfl
theorem en_9 : enH 9 (HP L g) = HP L g := rfl
theorem en_10 : enH 10 (HP L g) = HP L g := rfl
theorem en_11 : enH 11 (HP L g) = HP L g := rfl
theorem en_12 : enH 12 (HP L g) = HP L g := rfl
theorem en_13 : enH 13 (HP L g) = HP L g := rfl
theorem en_14 : enH 14 (HP L g) = HP L g := rfl
theorem en_15 : enH 15 (HP L g) = HP L g := rfl
theorem en_16 : enH 16 (HP L g) = HP L g := rfl
theorem en_17 : enH 17 (HP L g) = HP L g := rfl
theorem en_18 : enH 18 (HP L g) = HP L g := rfl
theorem en_20 : enH 20 (HP L g) = HP L g := rfl
theorem en_21 : enH 21 (HP L g) = HP L g := rfl
theorem en_23 : enH 23 (HP L g) = HP L g := rfl
theorem en_24 : enH 24 (HP L g) = HP L g := rfl
theorem en_25 : enH 25 (HP L g) = HP L g := rfl
theorem en_26 : enH 26 (HP L g) = HP L g := rfl
theorem en_28 : enH 28 (HP L g) = HP L g := rfl
theorem en_29 : enH 29 (HP L g) = HP L g := rfl
theorem en_30 : enH 30 (HP L g) = HP L g := rfl
theorem en_31 : enH 31 (HP L g) = HP L g := rfl
theorem en_32 : enH 32 (HP L g) = HP L g := rfl
theorem en_33 : enH 33 (HP L g) = HP L g := rfl
theorem en_34 : enH 34 (HP L g) = HP L g := rfl
theorem en_35 : enH 35 (HP L g) = HP L g := rfl
theorem en_36 : enH 36 (HP L g) = HP L g := rfl
theorem en_37 : enH 37 (HP L g) = HP L g := rfl
theorem en_38 : enH 38 (HP L g) = HP L g := rfl
theorem en_39 : enH 39 (HP L g) = HP L g := rfl
theorem en_40 : enH 40 (HP L g) = HP L g := rfl
theorem en_41 : enH 41 (HP L g) = HP L g := rfl
theorem en_42 : enH 42 (HP L g) = HP L g := rfl
theorem en_43 : enH 43 (HP L g) = HP L g := rfl
theorem en_44 : enH 44 (HP L g) = HP L g := rfl
theorem en_45 : enH 45 (HP L g) = HP L g := rfl
theorem en_46 : enH 46 (HP L g) = HP L g := rfl
theorem en_47 : enH 47 (HP L g) = HP L g := rfl
theorem en_48 : enH 48 (HP L g) = HP L g := rfl
theorem en_49 : enH 49 (HP L g) = HP L g := rfl
theorem en_50 : enH 50 (HP L g) = HP L g := rfl
theorem en_52 : enH 52 (HP L g) = HP L g := rfl
theorem en_54 : enH 54 (HP L g) = HP L g := rfl
theorem en_55 : enH 55 (HP L g) = HP L g := rfl
theorem en_56 : enH 56 (HP L g) = HP L g := rfl
theorem en_57 : enH 57 (HP L g) = HP L g := rfl
theorem en_58 : enH 58 (HP L g) = HP L g := rfl
theorem en_59 : enH 59 (HP L g) = HP L g := rfl
theorem en_60 : enH 60 (HP L g) = HP L g := rfl
theorem en_61 : enH 61 (HP L g) = HP L g := rfl
theorem en_62 : enH 62 (HP L g) = HP L g := rfl
theorem en_63 : enH 63 (HP L g) = HP L g := rfl
theorem en_64 : enH 64 (HP L g) = HP L g := rfl
theorem en_65 : enH 65 (HP L g) = HP L g := rfl
theorem en_66 : enH 66 (HP L g) = HP L g := rfl
theorem en_67 : enH 67 (HP L g) = HP L g := rfl
theorem en_68 : enH 68 (HP L g) = HP L g := rfl
theorem en_69 : enH 69 (HP L g) = HP L g := rfl
theorem en_70 : enH 70 (HP L g) = HP L g := rfl
theorem en_71 : enH 71 (HP L g) = HP L g := rfl
theorem en_72 : enH 72 (HP L g) = HP L g := rfl
theorem en_73 : enH 73 (HP L g) = HP L g := rfl
theorem en_74 : enH 74 (HP L g) = HP L g := rfl
theorem en_76 : enH 76 (HP L g) = HP L g := rfl
theorem en_77 : enH 77 (HP L g) = HP L g := rfl
theorem en_78 : enH 78 (HP L g) = HP L g := rfl
theorem en_79 : enH 79 (HP L g) = HP L g := rfl
theorem en_80 : enH 80 (HP L g) = HP L g := rfl
theorem en_81 : enH 81 (HP L g) = HP L g := rfl
theorem en_82 : enH 82 (HP L g) = HP L g := rfl
theorem en_84 : enH 84 (HP L g) = HP L g := rfl
theorem en_85 : enH 85 (HP L g) = HP L g := rfl
theorem en_86 : enH 86 (HP L g) = HP L g := rfl
theorem en_87 : enH 87 (HP L g) = HP L g := rfl
theorem en_88 : enH 88 (HP L g) = HP L g := rfl
theorem en_89 : enH 89 (HP L g) = HP L g := rfl
theorem en_90 : enH 90 (HP L g) = HP L g := rfl
theorem en_91 : enH 91 (HP L g) = HP L g := rfl
theorem en_92 : enH 92 (HP L g) = HP L g := rfl
theorem en_93 : enH 93 (HP L g) = HP L g := rfl
theorem en_94 : enH 94 (HP L g) = HP L g := rfl
theorem en_95 : enH 95 (HP L g) = HP L g := rfl
theorem en_96 : enH 96 (HP L g) = HP L g := rfl
theorem en_97 : enH 97 (HP L g) = HP L g := rfl
theorem en_98 : enH 98 (HP L g) = HP L g := rfl
theorem en_99 : enH 99 (HP L g) = HP L g := rfl
theorem en_100 : enH 100 (HP L g) = HP L g := rfl
theorem en_101 : enH 101 (HP L g) = HP L g := rfl
theorem en_102 : enH 102 (HP L g) = HP L g := rfl
theorem en_103 : enH 103 (HP L g) = HP L g := rfl
theorem en_104 : enH 104 (HP L g) = HP L g := rfl
theorem en_105 : enH 105 (HP L g) = HP L g := rfl
theorem en_106 : enH 106 (HP L g) = HP L g := rfl
theorem en_107 : enH 107 (HP L g) = HP L g := rfl
theorem en_108 : enH 108 (HP L g) = HP L g := rfl
theorem en_109 : enH 109 (HP L g) = HP L g := rfl
theorem en_110 : enH 110 (HP L g) = HP L g := rfl
theorem en_111 : enH 111 (HP L g) = HP L g := rfl
theorem en_112 : enH 112 (HP L g) = HP L g := rfl
theorem en_113 : enH 113 (HP L g) = HP L g := rfl
theorem en_114 : enH 114 (HP L g) = HP L g := rfl
theorem en_115 : enH 115 (HP L g) = HP L g := rfl
theorem en_116 : enH 116 (HP L g) = HP L g := rfl
theorem en_117 : enH 117 (HP L g) = HP L g := rfl
theorem en_118 : enH 118 (HP L g) = HP L g := rfl
theorem en_119 : enH 119 (HP L g) = HP L g := rfl
theorem en_120 : enH 120 (HP L g) = HP L g := rfl
theorem en_121 : enH 121 (HP L g) = HP L g := rfl
theorem en_122 : enH 122 (HP L g) = HP L g := rfl
theorem en_123 : enH 123 (HP L g) = HP L g := rfl
theorem en_124 : enH 124 (HP L g) = HP L g := rfl
theorem en_125 : enH 125 (HP L g) = HP L g := rfl
theorem en_126 : enH 126 (HP L g) = HP L g := rfl
theorem en_127 : enH 127 (HP L g) = HP L g := rfl
theorem en_128 : enH 128 (HP L g) = HP L g := rfl
theorem en_129 : enH 129 (HP L g) = HP L g := rfl
theorem en_130 : enH 130 (HP L g) = HP L g := rfl
theorem en_131 : enH 131 (HP L g) = HP L g := rfl
theorem en_132 : enH 132 (HP L g) = HP L g := rfl
theorem en_133 : enH 133 (HP L g) = HP L g := rfl
theorem en_134 : enH 134 (HP L g) = HP L g := rfl
theorem en_135 : enH 135 (HP L g) = HP L g := rfl
theorem en_136 : enH 136 (HP L g) = HP L g := rfl
theorem en_137 : enH 137 (HP L g) = HP L g := rfl
theorem en_138 : enH 138 (HP L g) = HP L g := rfl
theorem en_140 : enH 140 (HP L g) = HP L g := rfl
theorem en_141 : enH 141 (HP L g) = HP L g := rfl
theorem en_142 : enH 142 (HP L g) = HP L g := rfl
theorem en_143 : enH 143 (HP L g) = HP L g := rfl
theorem en_144 : enH 144 (HP L g) = HP L g := rfl
theorem en_145 : enH 145 (HP L g) = HP L g := rfl
theorem en_146 : enH 146 (HP L g) = HP L g := rfl
theorem en_147 : enH 147 (HP L g) = HP L g := rfl
theorem en_148 : enH 148 (HP L g) = HP L g := rfl
theorem en_149 : enH 149 (HP L g) = HP L g := rfl
theorem en_150 : enH 150 (HP L g) = HP L g := rfl
theorem en_151 : enH 151 (HP L g) = HP L g := rfl
theorem en_152 : enH 152 (HP L g) = HP L g := rfl
theorem en_153 : enH 153 (HP L g) = HP L g := rfl
theorem en_154 : enH 154 (HP L g) = HP L g := rfl
theorem en_155 : enH 155 (HP L g) = HP L g := rfl
theorem en_156 : enH 156 (HP L g) = HP L g := rfl
theorem en_157 : enH 157 (HP L g) = HP L g := rfl
theorem en_158 : enH 158 (HP L g) = HP L g := rfl
theorem en_159 : enH 159 (HP L g) = HP L g := rfl
theorem en_160 : enH 160 (HP L g) = HP L g := rfl
theorem en_161 : enH 161 (HP L g) = HP L g := rfl
theorem en_162 : enH 162 (HP L g) = HP L g := rfl
theorem en_163 : enH 163 (HP L g) = HP L g := rfl
theorem en_164 : enH 164 (HP L g) = HP L g := rfl
theorem en_165 : enH 165 (HP L g) = HP L g := rfl
theorem en_166 : enH 166 (HP L g) = HP L g := rfl
theorem en_167 : enH 167 (HP L g) = HP L g := rfl
theorem en_168 : enH 168 (HP L g) = HP L g := rfl
theorem en_169 : enH 169 (HP L g) = HP L g := rfl
theorem en_170 : enH 170 (HP L g) = HP L g := rfl
theorem en_171 : enH 171 (HP L g) = HP L g := rfl
theorem en_172 : enH 172 (HP L g) = HP L g := rfl
theorem en_173 : enH 173 (HP L g) = HP L g := rfl
theorem en_174 : enH 174 (HP L g) = HP L g := rfl
theorem en_175 : enH 175 (HP L g) = HP L g := rfl
theorem en_176 : enH 176 (HP L g) = HP L g := rfl
theorem en_177 : enH 177 (HP L g) = HP L g := rfl
theorem en_178 : enH 178 (HP L g) = HP L g := rfl
theorem en_179 : enH 179 (HP L g) = HP L g := rfl
theorem en_180 : enH 180 (HP L g) = HP L g := rfl
theorem en_181 : enH 181 (HP L g) = HP L g := rfl
theorem en_182 : enH 182 (HP L g) = HP L g := rfl
theorem en_183 : enH 183 (HP L g) = HP L g := rfl
theorem en_184 : enH 184 (HP L g) = HP L g := rfl
theorem en_185 : enH 185 (HP L g) = HP L g := rfl
theorem en_186 : enH 186 (HP L g) = HP L g := rfl
theorem en_187 : enH 187 (HP L g) = HP L g := rfl
theorem en_188 : enH 188 (HP L g) = HP L g := rfl
theorem en_189 : enH 189 (HP L g) = HP L g := rfl
theorem en_190 : enH 190 (HP L g) = HP L g := rfl
theorem en_191 : enH 191 (HP L g) = HP L g := rfl
theorem en_192 : enH 192 (HP L g) = HP L g := rfl
theorem en_193 : enH 193 (HP L g) = HP L g := rfl
theorem en_194 : enH 194 (HP L g) = HP L g := rfl
theorem en_195 : enH 195 (HP L g) = HP L g := rfl
theorem en_196 : enH 196 (HP L g) = HP L g := rfl
theorem en_197 : enH 197 (HP L g) = HP L g := rfl
theorem en_198 : enH 198 (HP L g) = HP L g := rfl
end BB
