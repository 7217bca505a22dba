/-! CONSTRUCTORS: Ways -/
theorem bindD {y : Nat} {As : List Value} {h : Hp} {r : Rs} {f : Rs → Option Rs} (d : Den y As h = some r) : (Den y As h).bind f = f r := by
  rw [d]
  rfl
section CC
variable {n a N : Nat} {S : Nat → Shp} {g : Nat → Nat → Int32}
theorem c27 {bc bs : Nat} : Den 27 [.ref (n + 1)] (enH 27 (n + 1, bc, bs, upf S (n + 1) (7, 0, fun _ => none), upf g (n + 1) (fun _ => 0))) = some (none, (n + 1 + 1, 0, 0, sSet (upf (upf S (n + 1) (7, 0, fun _ => none)) (n + 1 + 1) (0, 146, fun _ => none)) (n + 1) 0 (n + 1 + 1), upf (upf g (n + 1) (fun _ => 0)) (n + 1 + 1) (fun _ => 0))) := N_27 (n := n + 1) (a := n + 1) (by omega) (Nat.le_refl _) (by show (upf S (n + 1) _ (n + 1)).1 = 7; rw [upf_same])
/-- a State made at n + 1 -/
abbrev staS (S : Nat → Shp) (n : Nat) : Nat → Shp := sSet (upf (upf S (n + 1) (7, 0, fun _ => none)) (n + 1 + 1) (0, 146, fun _ => none)) (n + 1) 0 (n + 1 + 1)
theorem staS_1 {j : Nat} (h : j ≤ n) : (staS S n j).1 = (S j).1 := by
  rw [sSet_1, upf_ne (by omega), upf_ne (by omega)]
abbrev w1S (S : Nat → Shp) (a n : Nat) : Nat → Shp := sSet (shS S n 41) a 0 (n + 1)
abbrev w2S (S : Nat → Shp) (a n : Nat) : Nat → Shp := sSet (shS (w1S S a n) (n + 1 + 1 + 41) 1) a 1 (n + 1 + 1 + 41 + 1)
abbrev w3S (S : Nat → Shp) (a n : Nat) : Nat → Shp := sSet (staS (w2S S a n) (n + 1 + 1 + 41 + 1 + 1 + 1)) a 2 (n + 1 + 1 + 41 + 1 + 1 + 1 + 1)
abbrev w4S (S : Nat → Shp) (a n : Nat) : Nat → Shp := sSet (upf (w3S S a n) (n + 1 + 1 + 41 + 1 + 1 + 1 + 1 + 1 + 1) (0, 41, fun _ => none)) a 3 (n + 1 + 1 + 41 + 1 + 1 + 1 + 1 + 1 + 1)
abbrev w5S (S : Nat → Shp) (a n : Nat) : Nat → Shp := sSet (upf (w4S S a n) (n + 1 + 1 + 41 + 1 + 1 + 1 + 1 + 1 + 1 + 1) (0, 41, fun _ => none)) a 4 (n + 1 + 1 + 41 + 1 + 1 + 1 + 1 + 1 + 1 + 1)
abbrev w3G (g : Nat → Nat → Int32) (n : Nat) : Nat → Nat → Int32 := upf (upf (shG (shG g n 41) (n + 1 + 1 + 41) 1) (n + 1 + 1 + 41 + 1 + 1 + 1 + 1) (fun _ => 0)) (n + 1 + 1 + 41 + 1 + 1 + 1 + 1 + 1) (fun _ => 0)
abbrev w5G (g : Nat → Nat → Int32) (n : Nat) : Nat → Nat → Int32 := upf (upf (w3G g n) (n + 1 + 1 + 41 + 1 + 1 + 1 + 1 + 1 + 1) (fun _ => 0)) (n + 1 + 1 + 41 + 1 + 1 + 1 + 1 + 1 + 1 + 1) (fun _ => 0)
theorem w1_1 {j : Nat} (h : j ≤ n) : (w1S S a n j).1 = (S j).1 := by
  rw [sSet_1, shS_1 h]
theorem w2_1 {j : Nat} (h : j ≤ n) : (w2S S a n j).1 = (S j).1 := by
  rw [sSet_1, shS_1 (by omega), w1_1 h]
theorem w3_1 {j : Nat} (h : j ≤ n) : (w3S S a n j).1 = (S j).1 := by
  rw [sSet_1, staS_1 (by omega), w2_1 h]
theorem w4_1 {j : Nat} (h : j ≤ n) : (w4S S a n j).1 = (S j).1 := by
  rw [sSet_1, upf_ne (by omega), w3_1 h]
theorem N_75 (ha : a ≠ 0) (hn : a ≤ n) (hS : (S a).1 = 8) : Den 75 [.ref a] (n, 90, 12285, S, g) = some (none, (n + 1 + 1 + 41 + 1 + 1 + 1 + 1 + 1 + 1 + 1, 0, 0, w5S S a n, w5G g n)) := by
  have b41 : (nI 41).toNatClampNeg = 41 := rfl
  have lt : ∀ c : Nat, c = 12285 - 1 - 6027 - 1 - 6027 - 11 - 146 - 41 - 41 → True := fun _ _ => trivial
  rw [D0_75, e75_0, e75_1, e75_4, e75_5, e75_8, e75_9, e75_11]
  · refine (bindD (c22 (n := n) (S := S) (g := g) (by omega))).trans ?_
    simp only [psh_n, lvH]
    rw [e75_14, e75_17, e75_18, e75_21, e75_22, e75_23]
    · refine (bindD (c22 (n := n + 1 + 1 + 41) (S := w1S S a n) (g := shG g n 41) (by omega))).trans ?_
      simp only [psh_n, lvH, setS]
      rw [e75_26, e75_29, e75_30, e75_33, e75_34]
      · refine (bindD (c27 (n := n + 1 + 1 + 41 + 1 + 1 + 1) (S := w2S S a n) (g := shG (shG g n 41) (n + 1 + 1 + 41) 1))).trans ?_
        simp only [psh_n, lvH, setS]
        rw [e75_37, e75_40, e75_41, e75_43, e75_45, e75_48, e75_49, e75_51, e75_53, e75_56]
        · simp only [setS, b41]
          rfl
        · exact ⟨ha, by show a ≤ n + 1 + 1 + 41 + 1 + 1 + 1 + 1 + 1 + 1 + 1; omega, by
            show (upf (w4S S a n) (n + 1 + 1 + 41 + 1 + 1 + 1 + 1 + 1 + 1 + 1) _ a).1 = 8
            rw [upf_ne (by omega), w4_1 hn]
            exact hS⟩
        · exact ⟨by decide, Nat.le_of_ble_eq_true rfl, Nat.le_of_ble_eq_true rfl, by decide⟩
        · exact ⟨ha, by show a ≤ n + 1 + 1 + 41 + 1 + 1 + 1 + 1 + 1 + 1; omega, by
            show (upf (w3S S a n) (n + 1 + 1 + 41 + 1 + 1 + 1 + 1 + 1 + 1) _ a).1 = 8
            rw [upf_ne (by omega), w3_1 hn]
            exact hS⟩
        · exact ⟨by decide, Nat.le_of_ble_eq_true rfl, Nat.le_of_ble_eq_true rfl, by decide⟩
        · exact ⟨ha, by show a ≤ n + 1 + 1 + 41 + 1 + 1 + 1 + 1 + 1; omega, by
            show (staS (w2S S a n) (n + 1 + 1 + 41 + 1 + 1 + 1) a).1 = 8
            rw [staS_1 (by omega), w2_1 hn]
            exact hS⟩
      · exact ⟨Nat.le_of_ble_eq_true rfl, Nat.le_of_ble_eq_true rfl⟩
      · exact ⟨Nat.le_of_ble_eq_true rfl, Nat.le_of_ble_eq_true rfl⟩
      · exact ⟨ha, by show a ≤ n + 1 + 1 + 41 + 1 + 1 + 1; omega, by
          show (shS (w1S S a n) (n + 1 + 1 + 41) 1 a).1 = 8
          rw [shS_1 (by omega), w1_1 hn]
          exact hS⟩
    · exact ⟨Nat.le_of_ble_eq_true rfl, Nat.le_of_ble_eq_true rfl⟩
    · exact ⟨Nat.le_of_ble_eq_true rfl, Nat.le_of_ble_eq_true rfl⟩
    · exact ⟨ha, by show a ≤ n + 1 + 1 + 41; omega, (shS_1 hn).trans hS⟩
  · exact ⟨Nat.le_of_ble_eq_true rfl, Nat.le_of_ble_eq_true rfl⟩
  · exact ⟨Nat.le_of_ble_eq_true rfl, Nat.le_of_ble_eq_true rfl⟩
end CC
