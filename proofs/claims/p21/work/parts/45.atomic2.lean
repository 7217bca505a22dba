/-! class Judge: atomic, whole -/
section JJ
variable {L : Nat} {g : Nat → Nat → Int32} {p q : Nat} {s : Sx}
def nedF (h : Hy) (N j : Nat) (f : Nat → Int32) : Nat → Int32 := fun i => if i < j then nI (mkM (fun b => hAh h b i) N) else f i
theorem L_needed (hs : St 170 (SF L) p q) (hq5 : ¬ q = 5) (hq : g q = lay s) {N : Nat} (hN : s.H 6 = nI N) (h7 : N ≤ 7) {m : Int32} {v : Value} {f : Nat → Int32} : ∀ k j, j + k = N → Rr 129 21 [.ref 4, .ref p, .int (nI N), .int m, .int (nI j), v] [] (HP L (upf g 5 (nedF (hyC s) N j f))) = Rr 129 46 [.ref 4, .ref p, .int (nI N), .int m, .int (nI N), v] [] (HP L (upf g 5 (nedF (hyC s) N N f)))
  | 0, j, h => by
    have : j = N := by omega
    subst this
    rw [e129_21]
    simp only [e129_23, e129_24, Int32.le_refl, if_true]
  | k + 1, j, h => by
    have hj : j < 7 := by omega
    have h1 : ¬ nI N ≤ nI j := nI_ge (by omega) (by omega)
    have k3 : (nI j).toNatClampNeg = j := nI_clamp (by omega)
    have k4 : ¬ 7 ≤ j := by omega
    have k5 : ¬ nI j < 0 := nI_pos (by omega)
    have ih := L_needed hs hq5 hq hN h7 (m := m) (v := v) (f := f) k (j + 1) (by omega)
    have D := D_actsAhead (g := upf g 5 (nedF (hyC s) N j f)) (s := s) hs ((upf_ne hq5).trans hq) hN h7 hj
    rw [e129_21]
    simp only [e129_23, e129_24, h1, if_false, e129_27, e129_28, e129_31, e129_33, e129_34, e129_36, en_97, e129_39, e129_40, e129_43, i_4, f_4_0, b_5, n_5, D, k3, k4, k5, or_self, not_false_eq_true, lvH_Hq, Option.bind_some, psh_i, psh_n, Hq_G, Hq_setG, upf_same, upf_upf, nI_add]
    rw [← ih]
    congr 3
    funext i
    unfold upd nedF
    by_cases e : i = j
    · subst e
      rw [if_pos rfl, if_pos (by omega)]
    · rw [if_neg e]
      by_cases e2 : i < j
      · rw [if_pos e2, if_pos (by omega)]
      · rw [if_neg e2, if_neg (by omega)]
theorem D_atomic (hs : St 170 (SF L) p q) (hq5 : ¬ q = 5) (hq6 : ¬ q = 6) (hq : g q = lay s) {N : Nat} (hN : s.H 6 = nI N) (h7 : N ≤ 7) (ho : hOk (hyC s) N) : ∃ g', Den 129 [.ref 4, .ref p] (HP L g) = some (some (b2c (hAt (hyC s) N)), HP L g') ∧ frm g g' := by
  have D1 := D_get (g := g) (s := s) hs (show 6 < 7 by omega)
  rw [upf_eq hq, hN] at D1
  have D2 := D_endedActs (g := g) (s := s) hs hq h7
  have k1 : (if nI 7 < nI N then nI 7 else nI N) = nI N := if_neg (nI_nlt h7 (by omega))
  have L1 := L_needed (L := L) (g := g) (s := s) hs hq5 hq hN h7 (m := nI (mkM (fun a => ¬ (hyC s).E a = -1) N)) (v := .retAddr 0) (f := g 5) N 0 (by omega)
  have e0 : nedF (hyC s) N 0 (g 5) = g 5 := by
    funext i
    unfold nedF
    rw [if_neg (by omega)]
  rw [e0, upf_id] at L1
  rw [D0_129]
  simp only [e129_0, e129_1, e129_3, e129_6, e129_8, e129_11, e129_12, e129_13, e129_14, e129_17, e129_18, e129_19, en_25, en_98, hs.i, D1, D2, k1, lvH_Hq, Option.bind_some, psh_i, psh_n, Hq_G, Hq_setG, upf_same, upf_upf]
  rw [L1]
  have D3 := D_fill (L := L) (g := upf g 5 (nedF (hyC s) N N (g 5))) (nI 0)
  have k2 : (nI 0).toNatClampNeg = 0 := rfl
  simp only [e129_46, e129_47, e129_50, e129_51, e129_54, e129_55, e129_58, e129_59, e129_60, e129_61, e129_62, en_0, i_4, f_4_1, b_6, n_6, D3, k2, z0n, show ¬ 128 ≤ 0 by omega, or_self, not_false_eq_true, lvH_Hq, Option.bind_some, psh_i, psh_n, Hq_G, Hq_setG, upf_same, upf_upf]
  refine L_atOut (g0 := g) hs hq5 hq6 h7 ho (2 ^ N) 0 _ _ (by omega) (fun i hi => absurd hi (by omega)) ?_ ?_ ?_ ?_
  · rw [upf_ne hq6, upf_ne hq5]; exact hq
  · rw [upf_ne (by decide), upf_same]
    intro i hi
    unfold nedF
    rw [if_pos hi]
  · rw [upf_same]
    intro x hx
    by_cases e : x = 0
    · subst e
      refine ⟨1, by omega, pk_us, fun u hu => ?_⟩
      constructor
      · intro h
        have : u = 0 := by
          match u, hu with
          | 0, _ => rfl
          | 1, _ => cases h
          | 2, _ => cases h
          | 3, _ => cases h
        exact Or.inl ⟨rfl, this⟩
      · rintro (h | ⟨a, h, -⟩)
        · obtain ⟨-, rfl⟩ := h
          rfl
        · omega
    · refine ⟨0, by omega, (pk_un e).trans (if_pos hx), fun u hu => ?_⟩
      constructor
      · intro h
        rw [Nat.zero_testBit] at h
        cases h
      · rintro (h | ⟨a, h, -⟩)
        · exact absurd h.1 e
        · omega
  · intro i h5 h6
    rw [upf_ne h6, upf_ne h5]
end JJ
