/-! WHAT THE MODEL'S CELLS STAND FOR; its calls that keep no history -/
def kpN (kp : Nat → Bool) : Nat := (if kp 0 = true then 1 else 0) + (if kp 1 = true then 2 else 0)
/-- row 0: m; behind it hs, k of them; images im with their seeds; the seed sd; the book, bk entries -/
def MT (m : Sx) (k : Nat) (hs : Nat → Sx) (kp : Nat → Bool) (im : Nat → Sx) (is : Nat → Nat) (sd bk : Nat) (ba bv : Nat → Int32) (g : Nat → Nat → Int32) : Prop :=
  (∃ rs : Nat → Sx, g 87 = lyR rs ∧ rs 0 = m ∧ (∀ i, i < k → rs (1 + i) = hs i) ∧ ∀ i, i < 2 → kp i = true → rs (17 + i) = im i) ∧
  g 86 1 = nI k ∧ g 86 2 = nI (kpN kp) ∧ g 86 3 = nI sd ∧ g 86 7 = nI bk ∧ (∀ i, i < 2 → kp i = true → g 88 i = nI (is i)) ∧ (∀ i, i < bk → g 89 i = ba i ∧ g 90 i = bv i)
def frM (g g' : Nat → Nat → Int32) : Prop := ∀ i, i < 86 → g' i = g i
def hcons (m : Sx) (hs : Nat → Sx) : Nat → Sx := fun i => if i = 0 then m else hs (i - 1)
def setB (kp : Nat → Bool) (i : Nat) : Nat → Bool := fun j => if j = i then true else kp j
section RR
variable {L : Nat} {g : Nat → Nat → Int32} {m : Sx} {k : Nat} {hs : Nat → Sx} {kp : Nat → Bool} {im : Nat → Sx} {is : Nat → Nat} {sd bk : Nat} {ba bv : Nat → Int32} {rs : Nat → Sx}
theorem HP_R (h : g 87 = lyR rs) : HP L g = HR L g rs := by
  show _ = HP L (upf g 87 (lyR rs))
  rw [upf_eq h]
theorem HP_M (h : g 87 = lyR rs) : HP L g = HM L g (rs 0) (lyR rs) := by rw [HP_R h, HR_M]
theorem frM_upf {j : Nat} {F : Nat → Int32} (h : 86 ≤ j) : frM g (upf g j F) := fun i hi => if_neg (by omega)
theorem frM_t {g1 g2 : Nat → Nat → Int32} (h : frM g g1) (h2 : frM g1 g2) : frM g g2 := fun i hi => (h2 i hi).trans (h i hi)
theorem frM_r : frM g g := fun _ _ => rfl
theorem M_tear (T : MT m k hs kp im is sd bk ba bv g) : ∃ g', Den 14 [.ref 86] (HP L g) = some (some (nI bk), HP L g') ∧ MT m k hs kp im is sd 0 ba bv g' ∧ frM g g' := by
  obtain ⟨t0, t1, t2, t3, t4, t5, t6⟩ := T
  refine ⟨upf g 86 (upd (g 86) 7 (nI 0)), ?_, ⟨t0, t1, t2, t3, rfl, t5, fun i hi => by omega⟩, frM_upf (by omega)⟩
  rw [D0_14]
  simp only [e14_0, e14_1, e14_4, e14_5, e14_6, e14_7, e14_10, e14_11, i_86, t4, lvH_Hq, Option.bind_some, psh_i, psh_n, Hq_G, Hq_setG, upf_same, upf_upf]
theorem M_seed1 {j : Nat} (hj : j < 2147483648) (T : MT m k hs kp im is sd bk ba bv g) : ∃ g', Den 13 [.ref 86, .int (nI j)] (HP L g) = some (some (nI sd), HP L g') ∧ MT m k hs kp im is j bk ba bv g' ∧ frM g g' := by
  obtain ⟨t0, t1, t2, t3, t4, t5, t6⟩ := T
  have a1 : 0 ≤ nI j := (nI_leI (a := 0) (by omega) hj).mpr (Nat.zero_le _)
  refine ⟨upf g 86 (upd (g 86) 3 (nI j)), ?_, ⟨t0, t1, t2, rfl, t4, t5, t6⟩, frM_upf (by omega)⟩
  rw [D0_13]
  simp only [e13_0, e13_1, e13_4, e13_6, e13_7, e13_8, e13_11, e13_12, e13_13, e13_14, e13_17, e13_18, i_86, t3, a1, if_true, lvH_Hq, Option.bind_some, psh_i, psh_n, Hq_G, Hq_setG, upf_same, upf_upf]
theorem M_seed0 {x : Int32} (hx : x < 0) : Den 13 [.ref 86, .int x] (HP L g) = some (some (-1000000002), HP L g) := by
  rw [D0_13]
  simp only [e13_0, e13_1, e13_4, e13_6, e13_7, e13_8, e13_11, e13_12, e13_13, e13_14, e13_17, e13_18, i_86, if_neg (Int32.not_le.mpr hx), lvH_Hq, Option.bind_some, psh_i, psh_n, Hq_G, Hq_setG, upf_same, upf_upf]
theorem M_write1 {n : Nat} {x y : Int32} (hN : m.H 6 = nI n) (hn : n < 1000) (hx : Ix n x) (hb : bk < 20) (T : MT m k hs kp im is sd bk ba bv g) : ∃ g', Den 94 [.ref 86, .int x, .int y] (HP L g) = some (some (nI (bk + 1)), HP L g') ∧ MT m k hs kp im is sd (bk + 1) (upd ba bk x) (upd bv bk y) g' ∧ frM g g' := by
  obtain ⟨⟨rs, r1, r2, r3⟩, t1, t2, t3, t4, t5, t6⟩ := T
  subst r2
  have a1 := M_isAct (L := L) (g := g) (s := rs 0) (f := lyR rs) (x := x) hN hn
  rw [← HP_M r1, b2c_t hx] at a1
  have a2 : ¬ nI bk = nI 20 := nI_n (by omega) (by omega) (by omega)
  have a3 : (nI bk).toNatClampNeg = bk := nI_clamp (by omega)
  have a4 : ¬ (nI bk < 0 ∨ 20 ≤ (nI bk).toNatClampNeg) := nI_in hb (by omega)
  refine ⟨upf (upf (upf g 89 (upd (g 89) bk x)) 90 (upd (g 90) bk y)) 86 (upd (g 86) 7 (nI (bk + 1))), ?_, ⟨⟨rs, r1, rfl, r3⟩, t1, t2, t3, rfl, t5, ?_⟩, ?_⟩
  · have k1 : ∀ F, upf g 89 F 86 = g 86 := fun F => rfl
    have k2 : ∀ F, upf g 89 F 90 = g 90 := fun F => rfl
    have k3 : ∀ F G, upf (upf g 89 F) 90 G 86 = g 86 := fun F G => rfl
    have k4 : ∀ v, upd (g 86) 7 v 7 = v := fun v => if_pos rfl
    rw [D0_94]
    simp only [e94_0, e94_1, e94_2, e94_5, e94_8, e94_10, e94_11, e94_12, e94_15, e94_17, e94_20, e94_22, e94_23, e94_24, e94_27, e94_28, e94_31, e94_32, e94_33, e94_34, e94_37, e94_38, e94_41, e94_42, e94_43, e94_44, e94_45, e94_48, e94_49, e94_50, e94_53, e94_54, e94_57, en_40, i_86, f_86_5, f_86_6, b_89, n_89, b_90, n_90, a1, a2, a4, one_n0, t4, not_false_eq_true, if_true, if_false, lvH_Hq, Option.bind_some, psh_i, psh_n, Hq_G, Hq_setG, k1, k2, k3, k4, upf_same, nI_add]
    rw [a3]
  · intro i hi
    show upd (g 89) bk x i = _ ∧ upd (g 90) bk y i = _
    unfold upd
    by_cases e : i = bk
    · rw [if_pos e, if_pos e, if_pos e, if_pos e]
      exact ⟨rfl, rfl⟩
    · rw [if_neg e, if_neg e, if_neg e, if_neg e]
      exact t6 i (by omega)
  · exact frM_t (frM_t (frM_upf (by omega)) (frM_upf (by omega))) (frM_upf (by omega))
theorem M_write2 {n : Nat} {x y : Int32} (hN : m.H 6 = nI n) (hn : n < 1000) (hx : Ix n x) (T : MT m k hs kp im is sd 20 ba bv g) : Den 94 [.ref 86, .int x, .int y] (HP L g) = some (some (-1000000004), HP L g) := by
  obtain ⟨⟨rs, r1, r2, r3⟩, t1, t2, t3, t4, t5, t6⟩ := T
  subst r2
  have a1 := M_isAct (L := L) (g := g) (s := rs 0) (f := lyR rs) (x := x) hN hn
  rw [← HP_M r1, b2c_t hx] at a1
  rw [D0_94]
  simp only [e94_0, e94_1, e94_2, e94_5, e94_8, e94_10, e94_11, e94_12, e94_15, e94_17, e94_20, e94_22, e94_23, e94_24, e94_27, e94_28, e94_31, e94_32, e94_33, e94_34, e94_37, e94_38, e94_41, e94_42, e94_43, e94_44, e94_45, e94_48, e94_49, e94_50, e94_53, e94_54, e94_57, en_40, i_86, a1, one_n0, t4, not_false_eq_true, not_true_eq_false, if_true, if_false, lvH_Hq, Option.bind_some, psh_i, psh_n, Hq_G]
theorem M_write0 {n : Nat} {x y : Int32} (hN : m.H 6 = nI n) (hn : n < 1000) (hx : ¬ Ix n x) (T : MT m k hs kp im is sd bk ba bv g) : Den 94 [.ref 86, .int x, .int y] (HP L g) = some (some (-1000000001), HP L g) := by
  obtain ⟨⟨rs, r1, r2, r3⟩, t1, t2, t3, t4, t5, t6⟩ := T
  subst r2
  have a1 := M_isAct (L := L) (g := g) (s := rs 0) (f := lyR rs) (x := x) hN hn
  rw [← HP_M r1, b2c_f hx] at a1
  have e2 : (nI 0 = 0) = True := eq_true rfl
  rw [D0_94]
  simp only [e94_0, e94_1, e94_2, e94_5, e94_8, e94_10, e94_11, e94_12, e94_15, e94_17, e94_20, e94_22, e94_23, e94_24, e94_27, e94_28, e94_31, e94_32, e94_33, e94_34, e94_37, e94_38, e94_41, e94_42, e94_43, e94_44, e94_45, e94_48, e94_49, e94_50, e94_53, e94_54, e94_57, en_40, i_86, a1, e2, not_true_eq_false, if_false, lvH_Hq, Option.bind_some, psh_i, psh_n]
theorem kp_bit (kp : Nat → Bool) : ∀ i, i < 2 → nI (kpN kp) >>> (nI i &&& 31) &&& nI 1 = (if kp i = true then nI 1 else nI 0) := by
  intro i hi
  unfold kpN
  match i, hi with
  | 0, _ => cases kp 0 <;> cases kp 1 <;> decide
  | 1, _ => cases kp 0 <;> cases kp 1 <;> decide
theorem kp_set (kp : Nat → Bool) : ∀ i, i < 2 → nI (kpN kp) ||| nI 1 <<< (nI i &&& 31) = nI (kpN (setB kp i)) := by
  intro i hi
  unfold kpN setB
  match i, hi with
  | 0, _ => cases kp 0 <;> cases kp 1 <;> decide
  | 1, _ => cases kp 0 <;> cases kp 1 <;> decide
theorem in_01 {i : Nat} (hi : i < 2) : b2 (nI 0 ≤ nI i ∧ nI i ≤ nI 1) = nI 1 := if_pos ⟨(nI_leI (by omega) (by omega)).mpr (Nat.zero_le _), (nI_leI (by omega) (by omega)).mpr (by omega)⟩
theorem in_01n {x : Int32} (hx : ¬ Ix 2 x) : b2 (nI 0 ≤ x ∧ x ≤ nI 1) = nI 0 := if_neg (fun z => by
  obtain ⟨j, h1, h2, e⟩ := (rng_n (a := 0) (b := 1) (by omega) (by omega)).mp z
  exact hx ⟨j, by omega, e⟩)
theorem M_keep1 {i : Nat} (hi : i < 2) (T : MT m k hs kp im is sd bk ba bv g) : ∃ g', Den 43 [.ref 86, .int (nI i)] (HP L g) = some (some (nI 1), HP L g') ∧ MT m 0 hs (setB kp i) (upf im i m) (upf is i sd) sd bk ba bv g' ∧ frM g g' := by
  obtain ⟨⟨rs, r1, r2, r3, r4⟩, t1, t2, t3, t4, t5, t6⟩ := T
  subst r2
  have a1 := M_copyRow (L := L) (g := g) (rs := rs) (a := 0) (b := 17 + i) (by omega) (by omega)
  have a3 : (nI i).toNatClampNeg = i := nI_clamp (by omega)
  have a4 : ¬ (nI i < 0 ∨ 2 ≤ (nI i).toNatClampNeg) := nI_in hi (by omega)
  refine ⟨upf (upf (upf (upf g 87 (lyR (upf rs (17 + i) (rs 0)))) 88 (upd (g 88) i (nI sd))) 86 (upd (g 86) 2 (nI (kpN (setB kp i))))) 86 (upd (upd (g 86) 2 (nI (kpN (setB kp i)))) 1 (nI 0)), ?_, ⟨⟨upf rs (17 + i) (rs 0), rfl, if_neg (by omega), fun j hj => by omega, ?_⟩, rfl, rfl, t3, t4, ?_, t6⟩, ?_⟩
  · rw [HP_R r1, D0_43]
    have k1 : ∀ F, upf g 87 F 86 = g 86 := fun F => rfl
    have k2 : ∀ F, upf g 87 F 88 = g 88 := fun F => rfl
    have k3 : ∀ F G, upf (upf g 87 F) 88 G 86 = g 86 := fun F G => rfl
    simp only [e43_0, e43_1, e43_2, e43_3, e43_4, e43_7, e43_10, e43_12, e43_13, e43_14, e43_15, e43_17, e43_18, e43_19, e43_22, e43_23, e43_26, e43_27, e43_28, e43_31, e43_32, e43_33, e43_34, e43_37, e43_38, e43_39, e43_40, e43_41, e43_44, e43_45, e43_46, e43_49, e43_50, en_8, en_10, i_86, f_86_4, b_88, n_88, M_in (x := nI i) (lo := nI 0) (hi := nI 1) (l := 0) (u := 1) (by decide) (by decide), in_01 hi, one_n0, nI_add, a1, a4, not_false_eq_true, if_true, lvH_Hq, Option.bind_some, psh_i, psh_n, Hq_G, Hq_setG, k1, k2, k3, t3, t2, kp_set kp i hi, upf_same]
    rw [a3]
  · intro j hj hk
    show (if 17 + j = 17 + i then rs 0 else rs (17 + j)) = (if j = i then rs 0 else im j)
    by_cases e : j = i
    · rw [if_pos e, if_pos (by omega)]
    · rw [if_neg e, if_neg (by omega)]
      refine r4 j hj ?_
      unfold setB at hk
      rwa [if_neg e] at hk
  · intro j hj hk
    show upd (g 88) i (nI sd) j = nI (if j = i then sd else is j)
    unfold upd
    by_cases e : j = i
    · rw [if_pos e, if_pos e]
    · rw [if_neg e, if_neg e]
      refine t5 j hj ?_
      unfold setB at hk
      rwa [if_neg e] at hk
  · exact frM_t (frM_t (frM_t (frM_upf (by omega)) (frM_upf (by omega))) (frM_upf (by omega))) (frM_upf (by omega))
theorem M_keep0 {x : Int32} (hx : ¬ Ix 2 x) : Den 43 [.ref 86, .int x] (HP L g) = some (some (-1000000001), HP L g) := by
  have e2 : (nI 0 = 0) = True := eq_true rfl
  rw [D0_43]
  simp only [e43_0, e43_1, e43_2, e43_3, e43_4, e43_7, e43_10, e43_12, e43_13, e43_14, e43_15, e43_17, e43_18, e43_19, e43_22, e43_23, e43_26, e43_27, e43_28, e43_31, e43_32, e43_33, e43_34, e43_37, e43_38, e43_39, e43_40, e43_41, e43_44, e43_45, e43_46, e43_49, e43_50, en_8, en_10, i_86, M_in (x := x) (lo := nI 0) (hi := nI 1) (l := 0) (u := 1) (by decide) (by decide), in_01n hx, e2, not_true_eq_false, if_false, lvH_Hq, Option.bind_some, psh_i, psh_n]
theorem M_back1 {i : Nat} (hi : i < 2) (hk : kp i = true) (T : MT m k hs kp im is sd bk ba bv g) : ∃ g', Den 38 [.ref 86, .int (nI i)] (HP L g) = some (some (nI 1), HP L g') ∧ MT (im i) 0 hs kp im is (is i) bk ba bv g' ∧ frM g g' := by
  obtain ⟨⟨rs, r1, r2, r3, r4⟩, t1, t2, t3, t4, t5, t6⟩ := T
  have a1 := M_copyRow (L := L) (g := g) (rs := rs) (a := 17 + i) (b := 0) (by omega) (by omega)
  have a3 : (nI i).toNatClampNeg = i := nI_clamp (by omega)
  have a4 : ¬ (nI i < 0 ∨ 2 ≤ (nI i).toNatClampNeg) := nI_in hi (by omega)
  have a5 : nI (kpN kp) >>> (nI i &&& 31) &&& nI 1 = nI 1 := (kp_bit kp i hi).trans (if_pos hk)
  have a6 : ∀ F, upf g 87 F 88 (nI i).toNatClampNeg = nI (is i) := fun F => by
    rw [a3]
    exact t5 i hi hk
  refine ⟨upf (upf (upf g 87 (lyR (upf rs 0 (rs (17 + i))))) 86 (upd (g 86) 3 (nI (is i)))) 86 (upd (upd (g 86) 3 (nI (is i))) 1 (nI 0)), ?_, ⟨⟨upf rs 0 (rs (17 + i)), rfl, (if_pos rfl).trans (r4 i hi hk), fun j hj => by omega, ?_⟩, rfl, t2, rfl, t4, t5, t6⟩, ?_⟩
  · rw [HP_R r1, D0_38]
    have k1 : ∀ F, upf g 87 F 86 = g 86 := fun F => rfl
    simp only [e38_0, e38_1, e38_2, e38_3, e38_4, e38_7, e38_10, e38_12, e38_13, e38_14, e38_17, e38_18, e38_19, e38_20, e38_21, e38_24, e38_26, e38_27, e38_28, e38_30, e38_31, e38_32, e38_33, e38_36, e38_37, e38_38, e38_41, e38_42, e38_43, e38_46, e38_47, e38_48, e38_51, e38_52, en_8, en_10, i_86, f_86_4, a_88, n_88, M_in (x := nI i) (lo := nI 0) (hi := nI 1) (l := 0) (u := 1) (by decide) (by decide), in_01 hi, one_n0, nI_add, a1, a4, a5, a6, not_false_eq_true, if_true, lvH_Hq, Option.bind_some, psh_i, psh_n, Hq_G, Hq_setG, k1, t2, upf_same]
  · intro j hj hk
    show (if 17 + j = 0 then _ else rs (17 + j)) = _
    rw [if_neg (by omega)]
    exact r4 j hj hk
  · exact frM_t (frM_t (frM_upf (by omega)) (frM_upf (by omega))) (frM_upf (by omega))
theorem M_back2 {i : Nat} (hi : i < 2) (hk : ¬ kp i = true) (T : MT m k hs kp im is sd bk ba bv g) : Den 38 [.ref 86, .int (nI i)] (HP L g) = some (some (-1000000003), HP L g) := by
  obtain ⟨-, t1, t2, -⟩ := T
  have a5 : nI (kpN kp) >>> (nI i &&& 31) &&& nI 1 = nI 0 := (kp_bit kp i hi).trans (if_neg hk)
  have e2 : (nI 0 = 0) = True := eq_true rfl
  rw [D0_38]
  simp only [e38_0, e38_1, e38_2, e38_3, e38_4, e38_7, e38_10, e38_12, e38_13, e38_14, e38_17, e38_18, e38_19, e38_20, e38_21, e38_24, e38_26, e38_27, e38_28, e38_30, e38_31, e38_32, e38_33, e38_36, e38_37, e38_38, e38_41, e38_42, e38_43, e38_46, e38_47, e38_48, e38_51, e38_52, en_8, en_10, i_86, M_in (x := nI i) (lo := nI 0) (hi := nI 1) (l := 0) (u := 1) (by decide) (by decide), in_01 hi, one_n0, a5, e2, not_true_eq_false, not_false_eq_true, if_true, if_false, lvH_Hq, Option.bind_some, psh_i, psh_n, Hq_G, t2]
theorem M_back0 {x : Int32} (hx : ¬ Ix 2 x) : Den 38 [.ref 86, .int x] (HP L g) = some (some (-1000000001), HP L g) := by
  have e2 : (nI 0 = 0) = True := eq_true rfl
  rw [D0_38]
  simp only [e38_0, e38_1, e38_2, e38_3, e38_4, e38_7, e38_10, e38_12, e38_13, e38_14, e38_17, e38_18, e38_19, e38_20, e38_21, e38_24, e38_26, e38_27, e38_28, e38_30, e38_31, e38_32, e38_33, e38_36, e38_37, e38_38, e38_41, e38_42, e38_43, e38_46, e38_47, e38_48, e38_51, e38_52, en_8, en_10, i_86, M_in (x := x) (lo := nI 0) (hi := nI 1) (l := 0) (u := 1) (by decide) (by decide), in_01n hx, e2, not_true_eq_false, if_false, lvH_Hq, Option.bind_some, psh_i, psh_n]
end RR
