/-! CONSTRUCTORS: small ones -/
def sSet (S : Nat → Shp) (a k p : Nat) : Nat → Shp := upf S a ((S a).1, (S a).2.1, upf (S a).2.2 k (some p))
def mnS (n N : Nat) (S : Nat → Shp) : Nat → Shp := fun j => if j = n + 1 then (1, N, fun i => if i < N then some (n + 2 + i) else none) else if n + 2 ≤ j ∧ j < n + 2 + N then (0, 146, fun _ => none) else S j
def mnG (n N : Nat) (g : Nat → Nat → Int32) : Nat → Nat → Int32 := fun j => if n + 1 ≤ j ∧ j < n + 2 + N then fun _ => 0 else g j
section CC
variable {n a N : Nat} {S : Nat → Shp} {g : Nat → Nat → Int32}
theorem N_27 (ha : a ≠ 0) (hn : a ≤ n) (hS : (S a).1 = 7) : Den 27 [.ref a] (n, 1, 146, S, g) = some (none, (n + 1, 0, 0, sSet (upf S (n + 1) (0, 146, fun _ => none)) a 0 (n + 1), upf g (n + 1) (fun _ => 0))) := by
  rw [D0_27, e27_0, e27_1, e27_4, e27_5, e27_8, e27_10, e27_13]
  · simp only [setS, sSet, c146, Nat.sub_self]
  · exact ⟨ha, Nat.le_succ_of_le hn, by show (upf S (n + 1) _ a).1 = 7; rw [upf_ne (by omega)]; exact hS⟩
  · exact ⟨by decide, Nat.le_refl _, Nat.le_refl _, by decide⟩
theorem N_19 (ha : a ≠ 0) (hn : a ≤ n) (hS : (S a).1 = 5) : Den 19 [.ref a] (n, 2, 135, S, g) = some (none, (n + 1 + 1, 0, 0, sSet (upf (sSet (upf S (n + 1) (0, 7, fun _ => none)) a 0 (n + 1)) (n + 1 + 1) (0, 128, fun _ => none)) a 1 (n + 1 + 1), upf (upf g (n + 1) (fun _ => 0)) (n + 1 + 1) (fun _ => 0))) := by
  rw [D0_19, e19_0, e19_1, e19_4, e19_5, e19_7, e19_9, e19_12, e19_13, e19_16, e19_18, e19_21]
  · simp only [setS, sSet, show (nI 7).toNatClampNeg = 7 from rfl, show (nI 128).toNatClampNeg = 128 from rfl, Nat.reduceSub, Nat.sub_self]
  · refine ⟨ha, Nat.le_succ_of_le (Nat.le_succ_of_le hn), ?_⟩
    show (upf (upf (upf S (n + 1) _) a _) (n + 1 + 1) _ a).1 = 5
    rw [upf_ne (by omega), upf_same]
    show (upf S (n + 1) _ a).1 = 5
    rw [upf_ne (by omega)]
    exact hS
  · exact ⟨by decide, Nat.le_refl _, Nat.le_refl _, by decide⟩
  · exact ⟨ha, Nat.le_succ_of_le hn, by show (upf S (n + 1) _ a).1 = 5; rw [upf_ne (by omega)]; exact hS⟩
  · exact ⟨by decide, by show 1 ≤ 2; omega, by show 7 ≤ 135; omega, by decide⟩
theorem N_3 (ha : a ≠ 0) (hn : a ≤ n) (hS : (S a).1 = 2) : Den 3 [.ref a] (n, 2, 40, S, g) = some (none, (n + 1 + 1, 0, 0, sSet (upf (sSet (upf S (n + 1) (0, 20, fun _ => none)) a 0 (n + 1)) (n + 1 + 1) (0, 20, fun _ => none)) a 1 (n + 1 + 1), upf (upf g (n + 1) (fun _ => 0)) (n + 1 + 1) (fun _ => 0))) := by
  rw [D0_3, e3_0, e3_1, e3_4, e3_5, e3_7, e3_9, e3_12, e3_13, e3_15, e3_17, e3_20]
  · rfl
  · refine ⟨ha, Nat.le_succ_of_le (Nat.le_succ_of_le hn), ?_⟩
    show (upf (upf (upf S (n + 1) _) a _) (n + 1 + 1) _ a).1 = 2
    rw [upf_ne (by omega), upf_same]
    show (upf S (n + 1) _ a).1 = 2
    rw [upf_ne (by omega)]
    exact hS
  · exact ⟨by decide, Nat.le_refl _, Nat.le_refl _, by decide⟩
  · exact ⟨ha, Nat.le_succ_of_le hn, by show (upf S (n + 1) _ a).1 = 2; rw [upf_ne (by omega)]; exact hS⟩
  · exact ⟨by decide, by show 1 ≤ 2; omega, by show 20 ≤ 40; omega, by decide⟩
theorem N_22 (ha : a ≠ 0) (hn : a ≤ n) (hS : (S a).1 = 6) (hN : N ≤ 41) : Den 22 [.ref a, .int (nI N)] (n, 42, 6027, S, g) = some (none, (n + 1 + N, 42 - (1 + N), 6027 - (N + N * 146), sSet (mnS n N S) a 0 (n + 1), mnG n N g)) := by
  have a3 : (nI N).toNatClampNeg = N := nI_clamp (by omega)
  have a4 : ¬ nI N < nI 0 := nI_nlt (by omega) (by omega)
  have h146 : N * 146 ≤ 5986 := by omega
  rw [D0_22, e22_0, e22_1, e22_4, e22_5, e22_6, e22_7, if_neg a4, e22_10, e22_13, e22_17, e22_20]
  · rw [a3]
    rfl
  · rw [a3]
    refine ⟨ha, by show a ≤ n + 1 + N; omega, ?_⟩
    show (if a = n + 1 then (1, N, fun i => if i < N then some (n + 2 + i) else none) else if n + 2 ≤ a ∧ a < n + 2 + N then (0, 146, fun _ => none) else S a).1 = 6
    rw [if_neg (by omega), if_neg (by omega)]
    exact hS
  · rw [a3]
    exact ⟨by rw [← a3] at *; exact nI_pos (by omega), by decide, by show 1 + N ≤ 42; omega, by show N + N * 146 ≤ 6027; omega, by omega, by decide⟩
end CC
