/-! BOUNDS AND DRAWS -/
def drN (k : Nat) : Nat := (k * 1103515245 + 12345) % 2147483648
theorem drN_lt (k : Nat) : drN k < 2147483648 := Nat.mod_lt _ (by decide)
theorem dr_C {k : Nat} : (nI k * nI 1103515245 + nI 12345) &&& nI 2147483647 = nI (drN k) := by
  rw [pk_mul, nI_add, pk_and _ 31 (by decide)]
  have e : (nI (k * 1103515245 + 12345)).toBitVec.toNat % 2 ^ 31 = drN k := by
    unfold drN nI
    rw [Int32.toBitVec_ofNat', BitVec.toNat_ofNat, Nat.mod_mod_of_dvd _ (by decide)]
  rw [e]
theorem C_within {x lo hi : Int32} {H : Hp} : Den 35 [.int x, .int lo, .int hi] H = some (some (b2 (lo ≤ x ∧ x ≤ hi)), H) := by
  rw [D0_35, r_b2, if_an]
  simp only [e35_0, e35_1, e35_2, e35_5, e35_6, e35_7, e35_10, e35_11, e35_14, e35_15, one_01, zero_01]
  by_cases h1 : x < lo
  · rw [if_pos h1, if_neg (Int32.not_le.mpr h1)]
  · rw [if_neg h1, if_pos (Int32.not_lt.mp h1)]
    by_cases h2 : hi < x
    · rw [if_pos h2, if_neg (Int32.not_le.mpr h2)]
    · rw [if_neg h2, if_pos (Int32.not_lt.mp h2)]
section DR
variable {L : Nat} {g : Nat → Nat → Int32} {k n : Nat}
theorem K65536 : ¬ nI 65536 = 0 := by decide
theorem C_draw (hk : g 1 6 = nI k) (h1 : 1 ≤ n) (hn : n < 1000) : Den 33 [.ref 1, .int (nI n)] (HP L g) = some (some (nI (drN k / 65536 % n)), HP L (upf g 1 (upd (g 1) 6 (nI (drN k))))) := by
  have hd := drN_lt k
  have a1 : nI 1 ≤ nI n := (nI_leI (by omega) (by omega)).mpr h1
  have a2 : ¬ nI n = 0 := fun z => by have := (nI_eq (b := 0) (by omega) (by omega)).mp z; omega
  have a3 : upd (g 1) 6 (nI (drN k)) 6 = nI (drN k) := if_pos rfl
  rw [D0_33]
  simp only [e33_0, e33_1, e33_2, e33_5, e33_7, e33_8, e33_11, e33_12, e33_14, e33_15, e33_18, e33_19, e33_20, e33_23, e33_24, e33_27, e33_28, e33_31, e33_33, e33_34, e33_35, e33_36, i_1, hk, dr_C, a1, if_true, K65536, a2, a3, not_false_eq_true, lvH_Hq, Option.bind_some, psh_i, psh_n, Hq_G, Hq_setG, upf_same, upf_upf]
  rw [pk_div (by omega) (by omega) (by omega), pk_rem (by omega) (by omega) (by omega)]
end DR
