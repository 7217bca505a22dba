/-! CONSTRUCTORS: shelves and what has them -/
section CC
variable {n a N : Nat} {S : Nat → Shp} {g : Nat → Nat → Int32}
theorem sSet_1 {k p j : Nat} : (sSet S a k p j).1 = (S j).1 := by
  unfold sSet upf
  by_cases h : j = a
  · rw [if_pos h, h]
  · rw [if_neg h]
theorem mnS_le {j : Nat} (h : j ≤ n) : mnS n N S j = S j := by
  unfold mnS
  rw [if_neg (by omega), if_neg (by omega)]
theorem up_le {j : Nat} {v : Shp} (h : j ≤ n) : upf S (n + 1) v j = S j := upf_ne (by omega)
abbrev nwS (S : Nat → Shp) (n c : Nat) : Nat → Shp := upf S (n + 1) (c, 0, fun _ => none)
abbrev arS (S : Nat → Shp) (n l : Nat) : Nat → Shp := upf S (n + 1) (0, l, fun _ => none)
abbrev zrG (g : Nat → Nat → Int32) (n : Nat) : Nat → Nat → Int32 := upf g (n + 1) (fun _ => 0)
/-- a shelf of N rows made at n + 1 -/
abbrev shS (S : Nat → Shp) (n N : Nat) : Nat → Shp := sSet (mnS (n + 1) N (nwS S n 6)) (n + 1) 0 (n + 1 + 1)
abbrev shG (g : Nat → Nat → Int32) (n N : Nat) : Nat → Nat → Int32 := mnG (n + 1) N (zrG g n)
theorem shS_1 {j : Nat} (h : j ≤ n) : (shS S n N j).1 = (S j).1 := by
  rw [sSet_1, mnS_le (by omega)]
  show (upf S (n + 1) _ j).1 = _
  rw [up_le h]
theorem c22 {bc bs : Nat} (hN : N ≤ 41) : Den 22 [.ref (n + 1), .int (nI N)] (enH 22 (n + 1, bc, bs, nwS S n 6, zrG g n)) = some (none, (n + 1 + 1 + N, 42 - (1 + N), 6027 - (N + N * 146), shS S n N, shG g n N)) := N_22 (n := n + 1) (a := n + 1) (S := nwS S n 6) (g := zrG g n) (by omega) (Nat.le_refl _) (by show (upf S (n + 1) _ (n + 1)).1 = 6; rw [upf_same]) hN
theorem N_51 (ha : a ≠ 0) (hn : a ≤ n) (hS : (S a).1 = 3) : Den 51 [.ref a] (n, 43, 6028, S, g) = some (none, (n + 1 + 1 + 16, 0, 0, sSet (shS S n 16) a 0 (n + 1), shG g n 16)) := by
  rw [D0_51, e51_0, e51_1, e51_4, e51_5, e51_8, e51_9, e51_11]
  · simp only [Nat.reduceSub]
    rw [c22 (by omega)]
    simp only [Option.bind_some, psh_n, lvH]
    rw [e51_14, e51_17]
    · rfl
    · exact ⟨ha, by show a ≤ n + 1 + 1 + 16; omega, (shS_1 hn).trans hS⟩
  · exact ⟨Nat.le_of_ble_eq_true rfl, Nat.le_of_ble_eq_true rfl⟩
  · exact ⟨Nat.le_of_ble_eq_true rfl, Nat.le_of_ble_eq_true rfl⟩
theorem N_53 (ha : a ≠ 0) (hn : a ≤ n) (hS : (S a).1 = 4) : Den 53 [.ref a] (n, 44, 6030, S, g) = some (none, (n + 1 + 1 + 2 + 1, 0, 0, sSet (upf (sSet (shS S n 2) a 0 (n + 1)) (n + 1 + 1 + 2 + 1) (0, 2, fun _ => none)) a 1 (n + 1 + 1 + 2 + 1), upf (shG g n 2) (n + 1 + 1 + 2 + 1) (upd (upd (fun _ => 0) 0 (-1)) 1 (-1)))) := by
  have b2 : (nI 2).toNatClampNeg = 2 := rfl
  have b0 : (nI 0).toNatClampNeg = 0 := rfl
  have b1 : (nI 1).toNatClampNeg = 1 := rfl
  rw [D0_53, e53_0, e53_1, e53_4, e53_5, e53_8, e53_9, e53_10]
  · simp only [Nat.reduceSub]
    rw [c22 (by omega)]
    simp only [Option.bind_some, psh_n, lvH]
    rw [e53_13, e53_16, e53_17, e53_18, e53_20, e53_21, e53_22, e53_23, e53_24, e53_25, e53_26, e53_27, e53_28, e53_31]
    · simp only [setG, setS, sSet, b0, b1, b2, Gt, upf_same, upf_upf]
      rfl
    · refine ⟨ha, by show a ≤ n + 1 + 1 + 2 + 1; omega, ?_⟩
      show (upf (sSet (shS S n 2) a 0 (n + 1)) (n + 1 + 1 + 2 + 1) _ a).1 = 4
      rw [upf_ne (by omega), sSet_1, shS_1 hn]
      exact hS
    · refine ⟨by show n + 1 + 1 + 2 + 1 ≠ 0; omega, Nat.le_refl _, ?_⟩
      show (upf (_ : Nat → Shp) (n + 1 + 1 + 2 + 1) _ (n + 1 + 1 + 2 + 1)).1 = 0
      rw [upf_same]
    · show ¬ (nI 1 < 0 ∨ (upf (_ : Nat → Shp) (n + 1 + 1 + 2 + 1) _ (n + 1 + 1 + 2 + 1)).2.1 ≤ (nI 1).toNatClampNeg)
      rw [upf_same]
      decide
    · refine ⟨by show n + 1 + 1 + 2 + 1 ≠ 0; omega, Nat.le_refl _, ?_⟩
      show (upf (_ : Nat → Shp) (n + 1 + 1 + 2 + 1) _ (n + 1 + 1 + 2 + 1)).1 = 0
      rw [upf_same]
    · show ¬ (nI 0 < 0 ∨ (upf (_ : Nat → Shp) (n + 1 + 1 + 2 + 1) _ (n + 1 + 1 + 2 + 1)).2.1 ≤ (nI 0).toNatClampNeg)
      rw [upf_same]
      decide
    · exact ⟨by decide, Nat.le_of_ble_eq_true rfl, Nat.le_of_ble_eq_true rfl, by decide⟩
    · exact ⟨ha, by show a ≤ n + 1 + 1 + 2; omega, (shS_1 hn).trans hS⟩
  · exact ⟨Nat.le_of_ble_eq_true rfl, Nat.le_of_ble_eq_true rfl⟩
  · exact ⟨Nat.le_of_ble_eq_true rfl, Nat.le_of_ble_eq_true rfl⟩
end CC
