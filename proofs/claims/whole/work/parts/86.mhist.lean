/-! THE MODEL'S CALLS: those that keep a history -/
section RR
variable {L : Nat} {g : Nat → Nat → Int32} {m : Sx} {k : Nat} {hs : Nat → Sx} {kp : Nat → Bool} {im : Nat → Sx} {is : Nat → Nat} {sd bk : Nat} {ba bv : Nat → Int32} {rs : Nat → Sx}
theorem M_now (T : MT m k hs kp im is sd bk ba bv g) : ∃ rs : Nat → Sx, HP L g = HM L g m (lyR rs) ∧ ∀ m', MT m' k hs kp im is sd bk ba bv (upf g 87 (layM m' (lyR rs))) ∧ frM g (upf g 87 (layM m' (lyR rs))) := by
  obtain ⟨⟨rs, r1, r2, r3, r4⟩, t1, t2, t3, t4, t5, t6⟩ := T
  subst r2
  refine ⟨rs, HP_M r1, fun m' => ⟨⟨⟨upf rs 0 m', ?_, rfl, ?_, ?_⟩, t1, t2, t3, t4, t5, t6⟩, frM_upf (by omega)⟩⟩
  · show layM m' (lyR rs) = _
    exact lyR_up
  · intro i hi
    show (if 1 + i = 0 then m' else rs (1 + i)) = _
    rw [if_neg (by omega)]
    exact r3 i hi
  · intro i hi hk
    show (if 17 + i = 0 then m' else rs (17 + i)) = _
    rw [if_neg (by omega)]
    exact r4 i hi hk
theorem M_rem (hk : k ≤ 16) (T : MT m k hs kp im is sd bk ba bv g) : ∃ (rs : Nat → Sx) (g1 : Nat → Nat → Int32), Den 47 [.ref 86] (HP L g) = some (none, HM L g1 m (lyR rs)) ∧
    ∀ m', MT m' (if k < 16 then k + 1 else 16) (hcons m hs) kp im is sd bk ba bv (upf g1 87 (layM m' (lyR rs))) ∧ frM g (upf g1 87 (layM m' (lyR rs))) := by
  obtain ⟨⟨rs, r1, r2, r3, r4⟩, t1, t2, t3, t4, t5, t6⟩ := T
  subst r2
  have h := M_remember (L := L) (g := g) (rs := rs) t1 hk
  rw [← HP_R r1, HR_M] at h
  have e0 : shR rs 0 0 = rs 0 := if_neg (by omega)
  rw [e0] at h
  refine ⟨shR rs 0, _, h, fun m' => ⟨⟨⟨upf (shR rs 0) 0 m', ?_, rfl, ?_, ?_⟩, rfl, t2, t3, t4, t5, t6⟩, frM_t (frM_upf (by omega)) (frM_upf (by omega))⟩⟩
  · show layM m' (lyR (shR rs 0)) = _
    exact lyR_up
  · intro i hi
    have hi16 : i < 16 := by
      have : i < if k < 16 then k + 1 else 16 := hi
      split at this <;> omega
    show (if 1 + i = 0 then m' else shR rs 0 (1 + i)) = _
    rw [if_neg (by omega)]
    unfold shR hcons
    rw [if_pos (by omega), Nat.add_sub_cancel_left]
    by_cases e : i = 0
    · rw [if_pos e, e]
    · rw [if_neg e]
      have hi2 : i < if k < 16 then k + 1 else 16 := hi
      have := r3 (i - 1) (by split at hi2 <;> omega)
      rwa [show 1 + (i - 1) = i by omega] at this
  · intro i hi hk
    show (if 17 + i = 0 then m' else shR rs 0 (17 + i)) = _
    rw [if_neg (by omega)]
    unfold shR
    rw [if_neg (by omega)]
    exact r4 i hi hk
theorem M_new (T : MT m k hs kp im is sd bk ba bv g) {v1 v2 v3 v4 v5 : Int32} : ∃ (rs : Nat → Sx) (g1 : Nat → Nat → Int32), Den 44 [.ref 86, .int v1, .int v2, .int v3, .int v4, .int v5] (HP L g) = some (none, HM L g1 (mNew v1 v2 v3 v4 v5) (lyR rs)) ∧ MT (mNew v1 v2 v3 v4 v5) 0 hs kp im is sd bk ba bv (upf g1 87 (layM (mNew v1 v2 v3 v4 v5) (lyR rs))) ∧ frM g (upf g1 87 (layM (mNew v1 v2 v3 v4 v5) (lyR rs))) := by
  obtain ⟨⟨rs, r1, r2, r3, r4⟩, t1, t2, t3, t4, t5, t6⟩ := T
  have h := M_layAnew (L := L) (g := g) (rs := rs) (v1 := v1) (v2 := v2) (v3 := v3) (v4 := v4) (v5 := v5)
  rw [← HP_R r1, ← HM_R] at h
  refine ⟨rs, _, h, ⟨⟨upf rs 0 (mNew v1 v2 v3 v4 v5), ?_, rfl, fun i hi => by omega, ?_⟩, rfl, t2, t3, t4, t5, t6⟩, frM_t (frM_upf (by omega)) (frM_upf (by omega))⟩
  · show layM _ (lyR rs) = _
    exact lyR_up
  · intro i hi hk
    show (if 17 + i = 0 then _ else rs (17 + i)) = _
    rw [if_neg (by omega)]
    exact r4 i hi hk
theorem M_undo (h1 : ∀ n, 1 ≤ n → n ≤ k → n ≤ 16) (hk16 : k ≤ 16) {n : Nat} (hn1 : 1 ≤ n) (hnk : n ≤ k) (T : MT m k hs kp im is sd bk ba bv g) : ∃ g', Den 49 [.ref 86, .int (nI n)] (HP L g) = some (some (nI (k - n)), HP L g') ∧ MT (hs (n - 1)) (k - n) (fun i => hs (i + n)) kp im is sd bk ba bv g' ∧ frM g g' := by
  obtain ⟨⟨rs, r1, r2, r3, r4⟩, t1, t2, t3, t4, t5, t6⟩ := T
  have h := M_undo1 (L := L) (g := g) (rs := rs) hn1 (by omega) t1 hnk hk16
  rw [← HP_R r1] at h
  refine ⟨_, h, ⟨⟨unR rs n (17 - n), rfl, ?_, fun i hi => ?_, fun i hi hk => ?_⟩, rfl, t2, t3, t4, t5, t6⟩, frM_t (frM_upf (by omega)) (frM_upf (by omega))⟩
  · show (if 0 < 17 - n then rs (0 + n) else rs 0) = _
    rw [if_pos (by omega)]
    have := r3 (n - 1) (by omega)
    rwa [show 1 + (n - 1) = 0 + n by omega] at this
  · show (if 1 + i < 17 - n then rs (1 + i + n) else rs (1 + i)) = _
    rw [if_pos (by omega)]
    have := r3 (i + n) (by omega)
    rwa [show 1 + (i + n) = 1 + i + n by omega] at this
  · show (if 17 + i < 17 - n then _ else rs (17 + i)) = _
    rw [if_neg (by omega)]
    exact r4 i hi hk
theorem M_undo2 {n : Nat} (hn1 : 1 ≤ n) (hn : n ≤ 16) (hnk : ¬ n ≤ k) (hk16 : k ≤ 16) (T : MT m k hs kp im is sd bk ba bv g) : Den 49 [.ref 86, .int (nI n)] (HP L g) = some (some (-1000000003), HP L g) := by
  obtain ⟨-, t1, -⟩ := T
  have a1 : ¬ nI n ≤ nI k := nI_ge (by omega) (by omega)
  rw [D0_49]
  simp only [e49_0, e49_1, e49_2, e49_3, e49_6, e49_9, e49_12, e49_14, e49_15, e49_16, e49_17, e49_20, e49_23, e49_25, e49_26, e49_27, e49_29, e49_30, e49_31, e49_33, e49_36, e49_37, e49_38, e49_39, e49_40, e49_41, e49_44, e49_47, e49_51, e49_52, e49_55, e49_56, e49_57, e49_60, e49_61, e49_64, en_8, en_10, i_86, M_in (x := nI n) (lo := nI 1) (hi := nI 16) (l := 1) (u := 16) (by decide) (by decide), in_1_16 hn1 hn, one_n0, t1, a1, if_true, if_false, not_false_eq_true, lvH_Hq, Option.bind_some, psh_i, psh_n, Hq_G]
theorem M_undo0 {x : Int32} (hx : ¬ ∃ j, 1 ≤ j ∧ j ≤ 16 ∧ x = nI j) : Den 49 [.ref 86, .int x] (HP L g) = some (some (-1000000002), HP L g) := by
  have e : b2 (nI 1 ≤ x ∧ x ≤ nI 16) = nI 0 := if_neg (fun z => hx ((rng_n (by omega) (by omega)).mp z))
  have e2 : (nI 0 = 0) = True := eq_true rfl
  rw [D0_49]
  simp only [e49_0, e49_1, e49_2, e49_3, e49_6, e49_9, e49_12, e49_14, e49_15, e49_16, e49_17, e49_20, e49_23, e49_25, e49_26, e49_27, e49_29, e49_30, e49_31, e49_33, e49_36, e49_37, e49_38, e49_39, e49_40, e49_41, e49_44, e49_47, e49_51, e49_52, e49_55, e49_56, e49_57, e49_60, e49_61, e49_64, en_8, en_10, i_86, M_in (x := x) (lo := nI 1) (hi := nI 16) (l := 1) (u := 16) (by decide) (by decide), e, e2, not_true_eq_false, if_false, lvH_Hq, Option.bind_some, psh_i, psh_n]
theorem M_clear {N : Nat} (T : MT m k hs kp im is sd bk ba bv g) : ∃ g', Den 81 [.ref 86] (HP L g) = some (some (m.H 6), HP L g') ∧ MT (mNew (m.H 0) (m.H 1) (m.H 2) (m.H 3) (m.H 4)) 0 hs kp im is sd bk ba bv g' ∧ frM g g' := by
  obtain ⟨rs0, e0, -⟩ := M_now (L := L) T
  obtain ⟨rs, g1, h, h2, h3⟩ := M_new (L := L) T (v1 := m.H 0) (v2 := m.H 1) (v3 := m.H 2) (v4 := m.H 3) (v5 := m.H 4)
  refine ⟨_, ?_, h2, h3⟩
  rw [e0] at h ⊢
  rw [D0_81]
  simp only [e81_0, e81_1, e81_4, e81_6, e81_7, e81_8, e81_9, e81_10, e81_13, e81_14, e81_15, e81_16, e81_19, e81_20, e81_21, e81_22, e81_25, e81_26, e81_27, e81_28, e81_31, e81_32, e81_33, e81_34, e81_37, e81_38, e81_39, e81_42, e81_43, en_44, i_86, f_86_0, a_87, n_87, in_H, rM_H, h, not_false_eq_true, lvH_Hq, Option.bind_some, psh_i, psh_n, Hq_G, Hq_setG, upf_same, upf_upf, Nat.reduceLT, Nat.reduceLeDiff, Nat.reduceAdd, Nat.reduceMul]
theorem M_told_1 {j : Nat} (hj : j < 5) (T : MT m k hs kp im is sd bk ba bv g) : Den 198 [.ref 86, .int (nI j)] (HP L g) = some (some (m.H j), HP L g) := by
  obtain ⟨rs0, e0, -⟩ := M_now (L := L) T
  have a1 : (nI j).toNatClampNeg = j := nI_clamp (by omega)
  have a2 := in_H (show j < 7 by omega)
  have a3 : layM m (lyR rs0) (nI j).toNatClampNeg = m.H j := rM_H (show j < 7 by omega)
  have sw : Rr 198 0 [.ref 86, .int (nI j)] [] (HM L g m (lyR rs0)) = Rr 198 56 [.ref 86, .int (nI j)] [] (HM L g m (lyR rs0)) := by
    match j, hj with
    | 0, _ => simp only [e198_0, e198_1, e198_57, e198_60, e198_61, e198_62, e198_63, e198_64, e198_67, e198_68, e198_69, e198_72, e198_73, e198_74, e198_77, e198_79, e198_80, e198_81, e198_82, e198_85, e198_86, e198_87, e198_90, e198_91, e198_92, e198_93, e198_94, e198_95, e198_98, en_7, en_46, en_128, en_196, K00, if_true]
    | 1, _ => simp only [e198_0, e198_1, e198_57, e198_60, e198_61, e198_62, e198_63, e198_64, e198_67, e198_68, e198_69, e198_72, e198_73, e198_74, e198_77, e198_79, e198_80, e198_81, e198_82, e198_85, e198_86, e198_87, e198_90, e198_91, e198_92, e198_93, e198_94, e198_95, e198_98, en_7, en_46, en_128, en_196, K01, K02, K03, K04, K05, K10, K12, K13, K14, K15, K20, K21, K23, K24, K25, K30, K31, K32, K34, K35, K40, K41, K42, K43, K45, K50, K51, K52, K53, K54, K00, if_true, if_false]
    | 2, _ => simp only [e198_0, e198_1, e198_57, e198_60, e198_61, e198_62, e198_63, e198_64, e198_67, e198_68, e198_69, e198_72, e198_73, e198_74, e198_77, e198_79, e198_80, e198_81, e198_82, e198_85, e198_86, e198_87, e198_90, e198_91, e198_92, e198_93, e198_94, e198_95, e198_98, en_7, en_46, en_128, en_196, K01, K02, K03, K04, K05, K10, K12, K13, K14, K15, K20, K21, K23, K24, K25, K30, K31, K32, K34, K35, K40, K41, K42, K43, K45, K50, K51, K52, K53, K54, K00, if_true, if_false]
    | 3, _ => simp only [e198_0, e198_1, e198_57, e198_60, e198_61, e198_62, e198_63, e198_64, e198_67, e198_68, e198_69, e198_72, e198_73, e198_74, e198_77, e198_79, e198_80, e198_81, e198_82, e198_85, e198_86, e198_87, e198_90, e198_91, e198_92, e198_93, e198_94, e198_95, e198_98, en_7, en_46, en_128, en_196, K01, K02, K03, K04, K05, K10, K12, K13, K14, K15, K20, K21, K23, K24, K25, K30, K31, K32, K34, K35, K40, K41, K42, K43, K45, K50, K51, K52, K53, K54, K00, if_true, if_false]
    | 4, _ => simp only [e198_0, e198_1, e198_57, e198_60, e198_61, e198_62, e198_63, e198_64, e198_67, e198_68, e198_69, e198_72, e198_73, e198_74, e198_77, e198_79, e198_80, e198_81, e198_82, e198_85, e198_86, e198_87, e198_90, e198_91, e198_92, e198_93, e198_94, e198_95, e198_98, en_7, en_46, en_128, en_196, K01, K02, K03, K04, K05, K10, K12, K13, K14, K15, K20, K21, K23, K24, K25, K30, K31, K32, K34, K35, K40, K41, K42, K43, K45, K50, K51, K52, K53, K54, K00, if_true, if_false]
  rw [e0, D0_198, sw, e198_56]
  simp only [e198_1, e198_57, e198_60, e198_61, e198_62, e198_63, e198_64, e198_67, e198_68, e198_69, e198_72, e198_73, e198_74, e198_77, e198_79, e198_80, e198_81, e198_82, e198_85, e198_86, e198_87, e198_90, e198_91, e198_92, e198_93, e198_94, e198_95, e198_98, en_7, en_46, en_128, en_196, i_86, f_86_0, a_87, n_87, a2, a3, not_false_eq_true, lvH_Hq, Option.bind_some, psh_i, psh_n, Hq_G, Hq_setG, upf_same, upf_upf]
end RR
