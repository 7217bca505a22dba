/-! THE MODEL'S ROWS: 80 of 142 numbers; copies of them -/
def lyR (rs : Nat → Sx) : Nat → Int32 := fun i => lay2 (rs (i / 142)) (i % 142)
abbrev HR (L : Nat) (g : Nat → Nat → Int32) (rs : Nat → Sx) : Hp := HP L (upf g 87 (lyR rs))
def zS : Sx := mkS (fun _ => 0) (fun _ => 0) (fun _ _ => 0) (fun _ _ => 0)
def cpF (F : Nat → Int32) (a b k : Nat) : Nat → Int32 := fun i => if 142 * b ≤ i ∧ i < 142 * b + k then F (142 * a + (i - 142 * b)) else F i
section RR
variable {L a b : Nat} {g : Nat → Nat → Int32} {s : Sx} {f F : Nat → Int32} {rs : Nat → Sx}
theorem lyR_up : layM s (lyR rs) = lyR (upf rs 0 s) := by
  funext i
  unfold layM lyR upf
  by_cases h : i < 142
  · rw [if_pos h, if_pos (by omega), Nat.mod_eq_of_lt h]
  · rw [if_neg h, if_neg (by omega)]
theorem lyR_0 : layM (rs 0) (lyR rs) = lyR rs := by rw [lyR_up, upf_id]
theorem HM_R : HM L g s (lyR rs) = HR L g (upf rs 0 s) := by
  show HP L (upf g 87 (layM s (lyR rs))) = _
  rw [lyR_up]
theorem HR_M : HR L g rs = HM L g (rs 0) (lyR rs) := by
  show _ = HP L (upf g 87 (layM (rs 0) (lyR rs)))
  rw [lyR_0]
theorem cpF_up {j : Nat} (hj : j < 142) : upd (cpF F a b j) (142 * b + j) (cpF F a b j (142 * a + j)) = cpF F a b (j + 1) := by
  have e : cpF F a b j (142 * a + j) = F (142 * a + j) := if_neg (by omega)
  rw [e]
  funext i
  unfold upd cpF
  by_cases h : i = 142 * b + j
  · subst h
    rw [if_pos rfl, if_pos (by omega), Nat.add_sub_cancel_left]
  · rw [if_neg h]
    by_cases h2 : 142 * b ≤ i ∧ i < 142 * b + j
    · rw [if_pos h2, if_pos (by omega)]
    · rw [if_neg h2, if_neg (by omega)]
theorem cpF_0 : cpF F a b 0 = F := by
  funext i
  exact if_neg (by omega)
theorem cpF_R : cpF (lyR rs) a b 142 = lyR (upf rs b (rs a)) := by
  funext i
  unfold cpF lyR upf
  by_cases h : 142 * b ≤ i ∧ i < 142 * b + 142
  · rw [if_pos h, if_pos (by omega), show (142 * a + (i - 142 * b)) / 142 = a by omega, show (142 * a + (i - 142 * b)) % 142 = i % 142 by omega]
  · rw [if_neg h, if_neg (by omega)]
theorem L_copyRow (ha : a < 80) (hb : b < 80) : ∀ k j, j + k = 142 → Rr 8 2 [.ref 86, .int (nI a), .int (nI b), .int (nI j)] [] (HP L (upf g 87 (cpF F a b j))) = some (none, HP L (upf g 87 (cpF F a b 142)))
  | 0, j, h => by
    have : j = 142 := by omega
    subst this
    rw [e8_2]
    simp only [e8_0, e8_1, e8_3, e8_6, e8_9, e8_10, e8_13, e8_16, e8_17, e8_18, e8_19, e8_20, e8_21, e8_24, e8_27, e8_28, e8_29, e8_30, e8_31, e8_32, e8_33, e8_36, e8_39, Int32.le_refl, if_true]
  | k + 1, j, h => by
    have h1 : ¬ nI 142 ≤ nI j := nI_ge (by omega) (by omega)
    have ih := L_copyRow ha hb k (j + 1) (by omega)
    have k1 : ¬ (nI (142 * a + j) < 0 ∨ 11360 ≤ (nI (142 * a + j)).toNatClampNeg) := nI_in (by omega) (by omega)
    have k2 : ¬ (nI (142 * b + j) < 0 ∨ 11360 ≤ (nI (142 * b + j)).toNatClampNeg) := nI_in (by omega) (by omega)
    have k3 : (nI (142 * a + j)).toNatClampNeg = 142 * a + j := nI_clamp (by omega)
    have k4 : (nI (142 * b + j)).toNatClampNeg = 142 * b + j := nI_clamp (by omega)
    rw [e8_2]
    simp only [e8_0, e8_1, e8_3, e8_6, e8_9, e8_10, e8_13, e8_16, e8_17, e8_18, e8_19, e8_20, e8_21, e8_24, e8_27, e8_28, e8_29, e8_30, e8_31, e8_32, e8_33, e8_36, e8_39, i_86, f_86_0, a_87, b_87, n_87, h1, if_false, pk_mul, nI_add, k1, k2, not_false_eq_true, lvH_Hq, Option.bind_some, psh_i, psh_n, Hq_G, Hq_setG, upf_same, upf_upf]
    rw [k3, k4, cpF_up (by omega), ih]
theorem M_copyRow (ha : a < 80) (hb : b < 80) : Den 8 [.ref 86, .int (nI a), .int (nI b)] (HR L g rs) = some (none, HR L g (upf rs b (rs a))) := by
  have h := L_copyRow (L := L) (g := g) (F := lyR rs) ha hb 142 0 (by omega)
  rw [cpF_0, cpF_R] at h
  rw [D0_8]
  simp only [e8_0, e8_1, e8_3, e8_6, e8_9, e8_10, e8_13, e8_16, e8_17, e8_18, e8_19, e8_20, e8_21, e8_24, e8_27, e8_28, e8_29, e8_30, e8_31, e8_32, e8_33, e8_36, e8_39]
  exact h
end RR
