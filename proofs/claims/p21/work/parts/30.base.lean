/-! THE WORLD BEHIND THE CONSTRUCTORS: which cell is what -/
def f0 : Nat → Option Nat := fun _ => none
/-- one object: 85 cells -/
def S1 (j : Nat) : Shp :=
  if 10 ≤ j ∧ j < 51 then (0, 146, f0) else if 61 ≤ j ∧ j < 77 then (0, 146, f0)
  else if j = 1 then (9, 0, (upf (upf (upf (upf (upf (upf f0 0 (some 2)) 1 (some 4)) 2 (some 7)) 3 (some 58)) 4 (some 77)) 5 (some 83)))
  else if j = 2 then (7, 0, (upf f0 0 (some 3)))
  else if j = 3 then (0, 146, f0)
  else if j = 4 then (5, 0, (upf (upf f0 0 (some 5)) 1 (some 6)))
  else if j = 5 then (0, 7, f0)
  else if j = 6 then (0, 128, f0)
  else if j = 7 then (8, 0, (upf (upf (upf (upf (upf f0 0 (some 8)) 1 (some 51)) 2 (some 54)) 3 (some 56)) 4 (some 57)))
  else if j = 8 then (6, 0, (upf f0 0 (some 9)))
  else if j = 9 then (1, 41, fun i => if i < 41 then some (10 + i) else none)
  else if j = 51 then (6, 0, (upf f0 0 (some 52)))
  else if j = 52 then (1, 1, fun i => if i < 1 then some (53 + i) else none)
  else if j = 53 then (0, 146, f0)
  else if j = 54 then (7, 0, (upf f0 0 (some 55)))
  else if j = 55 then (0, 146, f0)
  else if j = 56 then (0, 41, f0)
  else if j = 57 then (0, 41, f0)
  else if j = 58 then (3, 0, (upf f0 0 (some 59)))
  else if j = 59 then (6, 0, (upf f0 0 (some 60)))
  else if j = 60 then (1, 16, fun i => if i < 16 then some (61 + i) else none)
  else if j = 77 then (4, 0, (upf (upf f0 0 (some 78)) 1 (some 82)))
  else if j = 78 then (6, 0, (upf f0 0 (some 79)))
  else if j = 79 then (1, 2, fun i => if i < 2 then some (80 + i) else none)
  else if j = 80 then (0, 146, f0)
  else if j = 81 then (0, 146, f0)
  else if j = 82 then (0, 2, f0)
  else if j = 83 then (2, 0, (upf (upf f0 0 (some 84)) 1 (some 85)))
  else if j = 84 then (0, 20, f0)
  else if j = 85 then (0, 20, f0)
  else (0, 0, f0)
def SF (L j : Nat) : Shp := if j = 0 then (0, L, f0) else if j ≤ 85 then S1 j else if j ≤ 170 then reS up (S1 (j - 85)) else (0, L, f0)
theorem SF_1 {L j : Nat} (h0 : ¬ j = 0) (h : j ≤ 85) : SF L j = S1 j := by
  unfold SF
  rw [if_neg h0, if_pos h]
def Hq (n : Nat) (S : Nat → Shp) (g : Nat → Nat → Int32) : Hp := (n, 0, 0, S, g)
abbrev HP (L : Nat) (g : Nat → Nat → Int32) : Hp := Hq 170 (SF L) g
section BB
variable {L n : Nat} {S : Nat → Shp} {g : Nat → Nat → Int32}
theorem Hq_G {a : Nat} : Gt (Hq n S g) a = g a := rfl
theorem Hq_setG {a : Nat} {f : Nat → Int32} : setG (Hq n S g) a f = Hq n S (upf g a f) := rfl
theorem lvH_Hq {y : Nat} {g2 : Nat → Nat → Int32} : lvH y (Hq n S g) (Hq n S g2) = Hq n S g2 := by simp only [lvH, Hq, Nat.zero_sub]
theorem upf_same {α : Type} {f : Nat → α} {k : Nat} {v : α} : upf f k v k = v := if_pos rfl
theorem upf_ne {α : Type} {f : Nat → α} {k j : Nat} {v : α} (h : ¬ j = k) : upf f k v j = f j := if_neg h
theorem upf_upf {α : Type} {f : Nat → α} {k : Nat} {v w : α} : upf (upf f k v) k w = upf f k w := by
  funext j
  unfold upf
  split <;> rfl
theorem upf_id {α : Type} {f : Nat → α} {k : Nat} : upf f k (f k) = f := by
  funext j
  unfold upf
  split
  · rename_i h; rw [h]
  · rfl
theorem i_1 : Ins 1 (HP L g) 7 := ⟨by decide, Nat.le_of_ble_eq_true rfl, rfl⟩
theorem f_1_0 : Rf (HP L g) 1 0 = .ref 2 := rfl
theorem f_1_1 : Rf (HP L g) 1 1 = .ref 4 := rfl
theorem f_1_2 : Rf (HP L g) 1 2 = .ref 7 := rfl
theorem f_1_3 : Rf (HP L g) 1 3 = .ref 58 := rfl
theorem f_1_4 : Rf (HP L g) 1 4 = .ref 77 := rfl
theorem f_1_5 : Rf (HP L g) 1 5 = .ref 83 := rfl
theorem i_2 : Ins 2 (HP L g) 5 := ⟨by decide, Nat.le_of_ble_eq_true rfl, rfl⟩
theorem f_2_0 : Rf (HP L g) 2 0 = .ref 3 := rfl
theorem i_4 : Ins 4 (HP L g) 3 := ⟨by decide, Nat.le_of_ble_eq_true rfl, rfl⟩
theorem f_4_0 : Rf (HP L g) 4 0 = .ref 5 := rfl
theorem f_4_1 : Rf (HP L g) 4 1 = .ref 6 := rfl
theorem i_7 : Ins 7 (HP L g) 6 := ⟨by decide, Nat.le_of_ble_eq_true rfl, rfl⟩
theorem f_7_0 : Rf (HP L g) 7 0 = .ref 8 := rfl
theorem f_7_1 : Rf (HP L g) 7 1 = .ref 51 := rfl
theorem f_7_2 : Rf (HP L g) 7 2 = .ref 54 := rfl
theorem f_7_3 : Rf (HP L g) 7 3 = .ref 56 := rfl
theorem f_7_4 : Rf (HP L g) 7 4 = .ref 57 := rfl
theorem i_8 : Ins 8 (HP L g) 4 := ⟨by decide, Nat.le_of_ble_eq_true rfl, rfl⟩
theorem f_8_0 : Rf (HP L g) 8 0 = .ref 9 := rfl
theorem i_51 : Ins 51 (HP L g) 4 := ⟨by decide, Nat.le_of_ble_eq_true rfl, rfl⟩
theorem f_51_0 : Rf (HP L g) 51 0 = .ref 52 := rfl
theorem i_54 : Ins 54 (HP L g) 5 := ⟨by decide, Nat.le_of_ble_eq_true rfl, rfl⟩
theorem f_54_0 : Rf (HP L g) 54 0 = .ref 55 := rfl
theorem i_58 : Ins 58 (HP L g) 1 := ⟨by decide, Nat.le_of_ble_eq_true rfl, rfl⟩
theorem f_58_0 : Rf (HP L g) 58 0 = .ref 59 := rfl
theorem i_59 : Ins 59 (HP L g) 4 := ⟨by decide, Nat.le_of_ble_eq_true rfl, rfl⟩
theorem f_59_0 : Rf (HP L g) 59 0 = .ref 60 := rfl
theorem i_77 : Ins 77 (HP L g) 2 := ⟨by decide, Nat.le_of_ble_eq_true rfl, rfl⟩
theorem f_77_0 : Rf (HP L g) 77 0 = .ref 78 := rfl
theorem f_77_1 : Rf (HP L g) 77 1 = .ref 82 := rfl
theorem i_78 : Ins 78 (HP L g) 4 := ⟨by decide, Nat.le_of_ble_eq_true rfl, rfl⟩
theorem f_78_0 : Rf (HP L g) 78 0 = .ref 79 := rfl
theorem i_83 : Ins 83 (HP L g) 0 := ⟨by decide, Nat.le_of_ble_eq_true rfl, rfl⟩
theorem f_83_0 : Rf (HP L g) 83 0 = .ref 84 := rfl
theorem f_83_1 : Rf (HP L g) 83 1 = .ref 85 := rfl
theorem a_3 : Arr 3 (HP L g) := ⟨Nat.le_of_ble_eq_true rfl, rfl⟩
theorem b_3 : ArW 3 (HP L g) := ⟨by decide, Nat.le_of_ble_eq_true rfl, rfl⟩
theorem n_3 : Lng (HP L g) 3 = 146 := rfl
theorem l_3 : ArL 3 (HP L g) := ⟨Nat.le_of_ble_eq_true rfl, Or.inl rfl⟩
theorem a_5 : Arr 5 (HP L g) := ⟨Nat.le_of_ble_eq_true rfl, rfl⟩
theorem b_5 : ArW 5 (HP L g) := ⟨by decide, Nat.le_of_ble_eq_true rfl, rfl⟩
theorem n_5 : Lng (HP L g) 5 = 7 := rfl
theorem l_5 : ArL 5 (HP L g) := ⟨Nat.le_of_ble_eq_true rfl, Or.inl rfl⟩
theorem a_6 : Arr 6 (HP L g) := ⟨Nat.le_of_ble_eq_true rfl, rfl⟩
theorem b_6 : ArW 6 (HP L g) := ⟨by decide, Nat.le_of_ble_eq_true rfl, rfl⟩
theorem n_6 : Lng (HP L g) 6 = 128 := rfl
theorem l_6 : ArL 6 (HP L g) := ⟨Nat.le_of_ble_eq_true rfl, Or.inl rfl⟩
theorem a_53 : Arr 53 (HP L g) := ⟨Nat.le_of_ble_eq_true rfl, rfl⟩
theorem b_53 : ArW 53 (HP L g) := ⟨by decide, Nat.le_of_ble_eq_true rfl, rfl⟩
theorem n_53 : Lng (HP L g) 53 = 146 := rfl
theorem l_53 : ArL 53 (HP L g) := ⟨Nat.le_of_ble_eq_true rfl, Or.inl rfl⟩
theorem a_55 : Arr 55 (HP L g) := ⟨Nat.le_of_ble_eq_true rfl, rfl⟩
theorem b_55 : ArW 55 (HP L g) := ⟨by decide, Nat.le_of_ble_eq_true rfl, rfl⟩
theorem n_55 : Lng (HP L g) 55 = 146 := rfl
theorem l_55 : ArL 55 (HP L g) := ⟨Nat.le_of_ble_eq_true rfl, Or.inl rfl⟩
theorem a_56 : Arr 56 (HP L g) := ⟨Nat.le_of_ble_eq_true rfl, rfl⟩
theorem b_56 : ArW 56 (HP L g) := ⟨by decide, Nat.le_of_ble_eq_true rfl, rfl⟩
theorem n_56 : Lng (HP L g) 56 = 41 := rfl
theorem l_56 : ArL 56 (HP L g) := ⟨Nat.le_of_ble_eq_true rfl, Or.inl rfl⟩
theorem a_57 : Arr 57 (HP L g) := ⟨Nat.le_of_ble_eq_true rfl, rfl⟩
theorem b_57 : ArW 57 (HP L g) := ⟨by decide, Nat.le_of_ble_eq_true rfl, rfl⟩
theorem n_57 : Lng (HP L g) 57 = 41 := rfl
theorem l_57 : ArL 57 (HP L g) := ⟨Nat.le_of_ble_eq_true rfl, Or.inl rfl⟩
theorem a_80 : Arr 80 (HP L g) := ⟨Nat.le_of_ble_eq_true rfl, rfl⟩
theorem b_80 : ArW 80 (HP L g) := ⟨by decide, Nat.le_of_ble_eq_true rfl, rfl⟩
theorem n_80 : Lng (HP L g) 80 = 146 := rfl
theorem l_80 : ArL 80 (HP L g) := ⟨Nat.le_of_ble_eq_true rfl, Or.inl rfl⟩
theorem a_81 : Arr 81 (HP L g) := ⟨Nat.le_of_ble_eq_true rfl, rfl⟩
theorem b_81 : ArW 81 (HP L g) := ⟨by decide, Nat.le_of_ble_eq_true rfl, rfl⟩
theorem n_81 : Lng (HP L g) 81 = 146 := rfl
theorem l_81 : ArL 81 (HP L g) := ⟨Nat.le_of_ble_eq_true rfl, Or.inl rfl⟩
theorem a_82 : Arr 82 (HP L g) := ⟨Nat.le_of_ble_eq_true rfl, rfl⟩
theorem b_82 : ArW 82 (HP L g) := ⟨by decide, Nat.le_of_ble_eq_true rfl, rfl⟩
theorem n_82 : Lng (HP L g) 82 = 2 := rfl
theorem l_82 : ArL 82 (HP L g) := ⟨Nat.le_of_ble_eq_true rfl, Or.inl rfl⟩
theorem a_84 : Arr 84 (HP L g) := ⟨Nat.le_of_ble_eq_true rfl, rfl⟩
theorem b_84 : ArW 84 (HP L g) := ⟨by decide, Nat.le_of_ble_eq_true rfl, rfl⟩
theorem n_84 : Lng (HP L g) 84 = 20 := rfl
theorem l_84 : ArL 84 (HP L g) := ⟨Nat.le_of_ble_eq_true rfl, Or.inl rfl⟩
theorem a_85 : Arr 85 (HP L g) := ⟨Nat.le_of_ble_eq_true rfl, rfl⟩
theorem b_85 : ArW 85 (HP L g) := ⟨by decide, Nat.le_of_ble_eq_true rfl, rfl⟩
theorem n_85 : Lng (HP L g) 85 = 20 := rfl
theorem l_85 : ArL 85 (HP L g) := ⟨Nat.le_of_ble_eq_true rfl, Or.inl rfl⟩
theorem c_9 : Rws 9 (HP L g) := ⟨by decide, Nat.le_of_ble_eq_true rfl, rfl⟩
theorem n_9 : Lng (HP L g) 9 = 41 := rfl
theorem l_9 : ArL 9 (HP L g) := ⟨Nat.le_of_ble_eq_true rfl, Or.inr ⟨rfl, by decide⟩⟩
theorem r_9 {i : Nat} (h : i < 41) : Rf (HP L g) 9 i = .ref (10 + i) := by
  show rv (if i < 41 then some (10 + i) else none) = _
  rw [if_pos h]
  rfl
theorem c_52 : Rws 52 (HP L g) := ⟨by decide, Nat.le_of_ble_eq_true rfl, rfl⟩
theorem n_52 : Lng (HP L g) 52 = 1 := rfl
theorem l_52 : ArL 52 (HP L g) := ⟨Nat.le_of_ble_eq_true rfl, Or.inr ⟨rfl, by decide⟩⟩
theorem r_52 {i : Nat} (h : i < 1) : Rf (HP L g) 52 i = .ref (53 + i) := by
  show rv (if i < 1 then some (53 + i) else none) = _
  rw [if_pos h]
  rfl
theorem c_60 : Rws 60 (HP L g) := ⟨by decide, Nat.le_of_ble_eq_true rfl, rfl⟩
theorem n_60 : Lng (HP L g) 60 = 16 := rfl
theorem l_60 : ArL 60 (HP L g) := ⟨Nat.le_of_ble_eq_true rfl, Or.inr ⟨rfl, by decide⟩⟩
theorem r_60 {i : Nat} (h : i < 16) : Rf (HP L g) 60 i = .ref (61 + i) := by
  show rv (if i < 16 then some (61 + i) else none) = _
  rw [if_pos h]
  rfl
theorem c_79 : Rws 79 (HP L g) := ⟨by decide, Nat.le_of_ble_eq_true rfl, rfl⟩
theorem n_79 : Lng (HP L g) 79 = 2 := rfl
theorem l_79 : ArL 79 (HP L g) := ⟨Nat.le_of_ble_eq_true rfl, Or.inr ⟨rfl, by decide⟩⟩
theorem r_79 {i : Nat} (h : i < 2) : Rf (HP L g) 79 i = .ref (80 + i) := by
  show rv (if i < 2 then some (80 + i) else none) = _
  rw [if_pos h]
  rfl
/-- p is a State, its row the cell q -/
def St (n : Nat) (S : Nat → Shp) (p q : Nat) : Prop := ∀ g : Nat → Nat → Int32, Ins p (Hq n S g) 5 ∧ Rf (Hq n S g) p 0 = .ref q ∧ Arr q (Hq n S g) ∧ ArW q (Hq n S g) ∧ ArL q (Hq n S g) ∧ Lng (Hq n S g) q = 146
theorem St.i {p q : Nat} (h : St n S p q) : Ins p (Hq n S g) 5 := (h g).1
theorem St.f {p q : Nat} (h : St n S p q) : Rf (Hq n S g) p 0 = .ref q := (h g).2.1
theorem St.a {p q : Nat} (h : St n S p q) : Arr q (Hq n S g) := (h g).2.2.1
theorem St.b {p q : Nat} (h : St n S p q) : ArW q (Hq n S g) := (h g).2.2.2.1
theorem St.l {p q : Nat} (h : St n S p q) : ArL q (Hq n S g) := (h g).2.2.2.2.1
theorem St.len {p q : Nat} (h : St n S p q) : Lng (Hq n S g) q = 146 := (h g).2.2.2.2.2
theorem st_2 : St 170 (SF L) 2 3 := fun g => ⟨i_2, f_2_0, a_3, b_3, l_3, n_3⟩
theorem st_54 : St 170 (SF L) 54 55 := fun g => ⟨i_54, f_54_0, a_55, b_55, l_55, n_55⟩
theorem en_0 : enH 0 (Hq n S g) = Hq n S g := rfl
theorem en_1 : enH 1 (Hq n S g) = Hq n S g := rfl
theorem en_2 : enH 2 (Hq n S g) = Hq n S g := rfl
theorem en_4 : enH 4 (Hq n S g) = Hq n S g := rfl
theorem en_5 : enH 5 (Hq n S g) = Hq n S g := rfl
theorem en_6 : enH 6 (Hq n S g) = Hq n S g := rfl
theorem en_7 : enH 7 (Hq n S g) = Hq n S g := rfl
theorem en_8 : enH 8 (Hq n S g) = Hq n S g := rfl
theorem en_9 : enH 9 (Hq n S g) = Hq n S g := rfl
theorem en_10 : enH 10 (Hq n S g) = Hq n S g := rfl
theorem en_11 : enH 11 (Hq n S g) = Hq n S g := rfl
theorem en_12 : enH 12 (Hq n S g) = Hq n S g := rfl
theorem en_13 : enH 13 (Hq n S g) = Hq n S g := rfl
theorem en_14 : enH 14 (Hq n S g) = Hq n S g := rfl
theorem en_15 : enH 15 (Hq n S g) = Hq n S g := rfl
theorem en_16 : enH 16 (Hq n S g) = Hq n S g := rfl
theorem en_17 : enH 17 (Hq n S g) = Hq n S g := rfl
theorem en_18 : enH 18 (Hq n S g) = Hq n S g := rfl
theorem en_20 : enH 20 (Hq n S g) = Hq n S g := rfl
theorem en_21 : enH 21 (Hq n S g) = Hq n S g := rfl
theorem en_23 : enH 23 (Hq n S g) = Hq n S g := rfl
theorem en_24 : enH 24 (Hq n S g) = Hq n S g := rfl
theorem en_25 : enH 25 (Hq n S g) = Hq n S g := rfl
theorem en_26 : enH 26 (Hq n S g) = Hq n S g := rfl
theorem en_28 : enH 28 (Hq n S g) = Hq n S g := rfl
theorem en_29 : enH 29 (Hq n S g) = Hq n S g := rfl
theorem en_30 : enH 30 (Hq n S g) = Hq n S g := rfl
theorem en_31 : enH 31 (Hq n S g) = Hq n S g := rfl
theorem en_32 : enH 32 (Hq n S g) = Hq n S g := rfl
theorem en_33 : enH 33 (Hq n S g) = Hq n S g := rfl
theorem en_34 : enH 34 (Hq n S g) = Hq n S g := rfl
theorem en_35 : enH 35 (Hq n S g) = Hq n S g := rfl
theorem en_36 : enH 36 (Hq n S g) = Hq n S g := rfl
theorem en_37 : enH 37 (Hq n S g) = Hq n S g := rfl
theorem en_38 : enH 38 (Hq n S g) = Hq n S g := rfl
theorem en_39 : enH 39 (Hq n S g) = Hq n S g := rfl
theorem en_40 : enH 40 (Hq n S g) = Hq n S g := rfl
theorem en_41 : enH 41 (Hq n S g) = Hq n S g := rfl
theorem en_42 : enH 42 (Hq n S g) = Hq n S g := rfl
theorem en_43 : enH 43 (Hq n S g) = Hq n S g := rfl
theorem en_44 : enH 44 (Hq n S g) = Hq n S g := rfl
theorem en_45 : enH 45 (Hq n S g) = Hq n S g := rfl
theorem en_46 : enH 46 (Hq n S g) = Hq n S g := rfl
theorem en_47 : enH 47 (Hq n S g) = Hq n S g := rfl
theorem en_48 : enH 48 (Hq n S g) = Hq n S g := rfl
theorem en_49 : enH 49 (Hq n S g) = Hq n S g := rfl
theorem en_50 : enH 50 (Hq n S g) = Hq n S g := rfl
theorem en_52 : enH 52 (Hq n S g) = Hq n S g := rfl
theorem en_54 : enH 54 (Hq n S g) = Hq n S g := rfl
theorem en_55 : enH 55 (Hq n S g) = Hq n S g := rfl
theorem en_56 : enH 56 (Hq n S g) = Hq n S g := rfl
theorem en_57 : enH 57 (Hq n S g) = Hq n S g := rfl
theorem en_58 : enH 58 (Hq n S g) = Hq n S g := rfl
theorem en_59 : enH 59 (Hq n S g) = Hq n S g := rfl
theorem en_60 : enH 60 (Hq n S g) = Hq n S g := rfl
theorem en_61 : enH 61 (Hq n S g) = Hq n S g := rfl
theorem en_62 : enH 62 (Hq n S g) = Hq n S g := rfl
theorem en_63 : enH 63 (Hq n S g) = Hq n S g := rfl
theorem en_64 : enH 64 (Hq n S g) = Hq n S g := rfl
theorem en_65 : enH 65 (Hq n S g) = Hq n S g := rfl
theorem en_66 : enH 66 (Hq n S g) = Hq n S g := rfl
theorem en_67 : enH 67 (Hq n S g) = Hq n S g := rfl
theorem en_68 : enH 68 (Hq n S g) = Hq n S g := rfl
theorem en_69 : enH 69 (Hq n S g) = Hq n S g := rfl
theorem en_70 : enH 70 (Hq n S g) = Hq n S g := rfl
theorem en_71 : enH 71 (Hq n S g) = Hq n S g := rfl
theorem en_72 : enH 72 (Hq n S g) = Hq n S g := rfl
theorem en_73 : enH 73 (Hq n S g) = Hq n S g := rfl
theorem en_74 : enH 74 (Hq n S g) = Hq n S g := rfl
theorem en_76 : enH 76 (Hq n S g) = Hq n S g := rfl
theorem en_77 : enH 77 (Hq n S g) = Hq n S g := rfl
theorem en_78 : enH 78 (Hq n S g) = Hq n S g := rfl
theorem en_79 : enH 79 (Hq n S g) = Hq n S g := rfl
theorem en_80 : enH 80 (Hq n S g) = Hq n S g := rfl
theorem en_81 : enH 81 (Hq n S g) = Hq n S g := rfl
theorem en_82 : enH 82 (Hq n S g) = Hq n S g := rfl
theorem en_84 : enH 84 (Hq n S g) = Hq n S g := rfl
theorem en_85 : enH 85 (Hq n S g) = Hq n S g := rfl
theorem en_86 : enH 86 (Hq n S g) = Hq n S g := rfl
theorem en_87 : enH 87 (Hq n S g) = Hq n S g := rfl
theorem en_88 : enH 88 (Hq n S g) = Hq n S g := rfl
theorem en_89 : enH 89 (Hq n S g) = Hq n S g := rfl
theorem en_90 : enH 90 (Hq n S g) = Hq n S g := rfl
theorem en_91 : enH 91 (Hq n S g) = Hq n S g := rfl
theorem en_92 : enH 92 (Hq n S g) = Hq n S g := rfl
theorem en_93 : enH 93 (Hq n S g) = Hq n S g := rfl
theorem en_94 : enH 94 (Hq n S g) = Hq n S g := rfl
theorem en_95 : enH 95 (Hq n S g) = Hq n S g := rfl
theorem en_96 : enH 96 (Hq n S g) = Hq n S g := rfl
theorem en_97 : enH 97 (Hq n S g) = Hq n S g := rfl
theorem en_98 : enH 98 (Hq n S g) = Hq n S g := rfl
theorem en_99 : enH 99 (Hq n S g) = Hq n S g := rfl
theorem en_100 : enH 100 (Hq n S g) = Hq n S g := rfl
theorem en_101 : enH 101 (Hq n S g) = Hq n S g := rfl
theorem en_102 : enH 102 (Hq n S g) = Hq n S g := rfl
theorem en_103 : enH 103 (Hq n S g) = Hq n S g := rfl
theorem en_104 : enH 104 (Hq n S g) = Hq n S g := rfl
theorem en_105 : enH 105 (Hq n S g) = Hq n S g := rfl
theorem en_106 : enH 106 (Hq n S g) = Hq n S g := rfl
theorem en_107 : enH 107 (Hq n S g) = Hq n S g := rfl
theorem en_108 : enH 108 (Hq n S g) = Hq n S g := rfl
theorem en_109 : enH 109 (Hq n S g) = Hq n S g := rfl
theorem en_110 : enH 110 (Hq n S g) = Hq n S g := rfl
theorem en_111 : enH 111 (Hq n S g) = Hq n S g := rfl
theorem en_112 : enH 112 (Hq n S g) = Hq n S g := rfl
theorem en_113 : enH 113 (Hq n S g) = Hq n S g := rfl
theorem en_114 : enH 114 (Hq n S g) = Hq n S g := rfl
theorem en_115 : enH 115 (Hq n S g) = Hq n S g := rfl
theorem en_116 : enH 116 (Hq n S g) = Hq n S g := rfl
theorem en_117 : enH 117 (Hq n S g) = Hq n S g := rfl
theorem en_118 : enH 118 (Hq n S g) = Hq n S g := rfl
theorem en_119 : enH 119 (Hq n S g) = Hq n S g := rfl
theorem en_120 : enH 120 (Hq n S g) = Hq n S g := rfl
theorem en_121 : enH 121 (Hq n S g) = Hq n S g := rfl
theorem en_122 : enH 122 (Hq n S g) = Hq n S g := rfl
theorem en_123 : enH 123 (Hq n S g) = Hq n S g := rfl
theorem en_124 : enH 124 (Hq n S g) = Hq n S g := rfl
theorem en_125 : enH 125 (Hq n S g) = Hq n S g := rfl
theorem en_126 : enH 126 (Hq n S g) = Hq n S g := rfl
theorem en_127 : enH 127 (Hq n S g) = Hq n S g := rfl
theorem en_128 : enH 128 (Hq n S g) = Hq n S g := rfl
theorem en_129 : enH 129 (Hq n S g) = Hq n S g := rfl
theorem en_130 : enH 130 (Hq n S g) = Hq n S g := rfl
theorem en_131 : enH 131 (Hq n S g) = Hq n S g := rfl
theorem en_132 : enH 132 (Hq n S g) = Hq n S g := rfl
theorem en_133 : enH 133 (Hq n S g) = Hq n S g := rfl
theorem en_134 : enH 134 (Hq n S g) = Hq n S g := rfl
theorem en_135 : enH 135 (Hq n S g) = Hq n S g := rfl
theorem en_136 : enH 136 (Hq n S g) = Hq n S g := rfl
theorem en_137 : enH 137 (Hq n S g) = Hq n S g := rfl
theorem en_138 : enH 138 (Hq n S g) = Hq n S g := rfl
theorem en_140 : enH 140 (Hq n S g) = Hq n S g := rfl
theorem en_141 : enH 141 (Hq n S g) = Hq n S g := rfl
theorem en_142 : enH 142 (Hq n S g) = Hq n S g := rfl
theorem en_143 : enH 143 (Hq n S g) = Hq n S g := rfl
theorem en_144 : enH 144 (Hq n S g) = Hq n S g := rfl
theorem en_145 : enH 145 (Hq n S g) = Hq n S g := rfl
theorem en_146 : enH 146 (Hq n S g) = Hq n S g := rfl
theorem en_147 : enH 147 (Hq n S g) = Hq n S g := rfl
theorem en_148 : enH 148 (Hq n S g) = Hq n S g := rfl
theorem en_149 : enH 149 (Hq n S g) = Hq n S g := rfl
theorem en_150 : enH 150 (Hq n S g) = Hq n S g := rfl
theorem en_151 : enH 151 (Hq n S g) = Hq n S g := rfl
theorem en_152 : enH 152 (Hq n S g) = Hq n S g := rfl
theorem en_153 : enH 153 (Hq n S g) = Hq n S g := rfl
theorem en_154 : enH 154 (Hq n S g) = Hq n S g := rfl
theorem en_155 : enH 155 (Hq n S g) = Hq n S g := rfl
theorem en_156 : enH 156 (Hq n S g) = Hq n S g := rfl
theorem en_157 : enH 157 (Hq n S g) = Hq n S g := rfl
theorem en_158 : enH 158 (Hq n S g) = Hq n S g := rfl
theorem en_159 : enH 159 (Hq n S g) = Hq n S g := rfl
theorem en_160 : enH 160 (Hq n S g) = Hq n S g := rfl
theorem en_161 : enH 161 (Hq n S g) = Hq n S g := rfl
theorem en_162 : enH 162 (Hq n S g) = Hq n S g := rfl
theorem en_163 : enH 163 (Hq n S g) = Hq n S g := rfl
theorem en_164 : enH 164 (Hq n S g) = Hq n S g := rfl
theorem en_165 : enH 165 (Hq n S g) = Hq n S g := rfl
theorem en_166 : enH 166 (Hq n S g) = Hq n S g := rfl
theorem en_167 : enH 167 (Hq n S g) = Hq n S g := rfl
theorem en_168 : enH 168 (Hq n S g) = Hq n S g := rfl
theorem en_169 : enH 169 (Hq n S g) = Hq n S g := rfl
theorem en_170 : enH 170 (Hq n S g) = Hq n S g := rfl
theorem en_171 : enH 171 (Hq n S g) = Hq n S g := rfl
theorem en_172 : enH 172 (Hq n S g) = Hq n S g := rfl
theorem en_173 : enH 173 (Hq n S g) = Hq n S g := rfl
theorem en_174 : enH 174 (Hq n S g) = Hq n S g := rfl
theorem en_175 : enH 175 (Hq n S g) = Hq n S g := rfl
theorem en_176 : enH 176 (Hq n S g) = Hq n S g := rfl
theorem en_177 : enH 177 (Hq n S g) = Hq n S g := rfl
theorem en_178 : enH 178 (Hq n S g) = Hq n S g := rfl
theorem en_179 : enH 179 (Hq n S g) = Hq n S g := rfl
theorem en_180 : enH 180 (Hq n S g) = Hq n S g := rfl
theorem en_181 : enH 181 (Hq n S g) = Hq n S g := rfl
theorem en_182 : enH 182 (Hq n S g) = Hq n S g := rfl
theorem en_183 : enH 183 (Hq n S g) = Hq n S g := rfl
theorem en_184 : enH 184 (Hq n S g) = Hq n S g := rfl
theorem en_185 : enH 185 (Hq n S g) = Hq n S g := rfl
theorem en_186 : enH 186 (Hq n S g) = Hq n S g := rfl
theorem en_187 : enH 187 (Hq n S g) = Hq n S g := rfl
theorem en_188 : enH 188 (Hq n S g) = Hq n S g := rfl
theorem en_189 : enH 189 (Hq n S g) = Hq n S g := rfl
theorem en_190 : enH 190 (Hq n S g) = Hq n S g := rfl
theorem en_191 : enH 191 (Hq n S g) = Hq n S g := rfl
theorem en_192 : enH 192 (Hq n S g) = Hq n S g := rfl
theorem en_193 : enH 193 (Hq n S g) = Hq n S g := rfl
theorem en_194 : enH 194 (Hq n S g) = Hq n S g := rfl
theorem en_195 : enH 195 (Hq n S g) = Hq n S g := rfl
theorem en_196 : enH 196 (Hq n S g) = Hq n S g := rfl
theorem en_197 : enH 197 (Hq n S g) = Hq n S g := rfl
theorem en_198 : enH 198 (Hq n S g) = Hq n S g := rfl
end BB
