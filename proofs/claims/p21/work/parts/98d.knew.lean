/-! A NEW STATE: what holds of it; the class' build -/
section RR
variable {L : Nat} {g g' : Nat → Nat → Int32} {c m s : Sx} {k : Nat} {hc : Nat → Sx} {kp : Nat → Bool} {ic : Nat → Sx} {is : Nat → Nat} {sd bk : Nat} {ba bv : Nat → Int32} {b po bs r n t N : Nat} {x y x1 x2 x3 x4 x5 : Int32}
theorem itN_H : ∀ d, (itr (fun s p => s.sP p 0 (-1)) d s).H = s.H
  | 0 => rfl
  | d + 1 => itN_H d
theorem itN_C : ∀ d, (itr (fun s p => s.sP p 0 (-1)) d s).C = s.C
  | 0 => rfl
  | d + 1 => itN_C d
theorem itN_A : ∀ d, (itr (fun s p => s.sP p 0 (-1)) d s).A = s.A
  | 0 => rfl
  | d + 1 => itN_A d
theorem itN_P {q j : Nat} : ∀ d, (itr (fun s p => s.sP p 0 (-1)) d s).P q j = if q < d ∧ j = 0 then -1 else s.P q j
  | 0 => (if_neg (by omega)).symm
  | d + 1 => by
    have ih := itN_P (q := q) (j := j) d
    show (if q = d ∧ j = 0 then (-1 : Int32) else (itr (fun s p => s.sP p 0 (-1)) d s).P q j) = _
    rw [ih]
    by_cases h : q < d ∧ j = 0
    · rw [if_pos h, if_neg (by omega), if_pos (by omega)]
    · rw [if_neg h]
      by_cases h2 : q = d ∧ j = 0
      · rw [if_pos h2, if_pos (by omega)]
      · rw [if_neg h2, if_neg (by omega)]
theorem mN_H {j : Nat} : (mNew x1 x2 x3 x4 x5).H j = if j = 4 then x5 else if j = 3 then x4 else if j = 2 then x3 else if j = 1 then x2 else if j = 0 then x1 else 0 := by
  unfold mNew
  rw [itN_H]
  rfl
theorem mN_C {j : Nat} : (mNew x1 x2 x3 x4 x5).C j = if j = 0 then (if x1 = nI 2 then nI 1 else nI 0) else 0 := by
  unfold mNew
  rw [itN_C]
  rfl
theorem mN_A {a j : Nat} : (mNew x1 x2 x3 x4 x5).A a j = 0 := by
  unfold mNew
  rw [itN_A]
  rfl
theorem mN_P {q j : Nat} : (mNew x1 x2 x3 x4 x5).P q j = if q < 5 ∧ j = 0 then -1 else 0 := by
  unfold mNew
  rw [itN_P]
  rfl
theorem new_I (ok : okSh b po bs r n) : Iv b po bs r n 0 0 (mNew (nI b) (nI po) (nI bs) (nI r) (nI n)) := by
  have h0 : ∀ q, q < 5 → (mNew (nI b) (nI po) (nI bs) (nI r) (nI n)).P q 0 = -1 := fun q hq => by rw [mN_P, if_pos ⟨hq, rfl⟩]
  have hz : ∀ q j, ¬ j = 0 → (mNew (nI b) (nI po) (nI bs) (nI r) (nI n)).P q j = nI 0 := fun q j hj => by
    rw [mN_P, if_neg (fun z => hj z.2)]
    rfl
  have hb : 1 < bnd b 0 := by
    unfold bnd
    split <;> omega
  have ev : sum5 (evm bs (mNew (nI b) (nI po) (nI bs) (nI r) (nI n))) = 0 := by
    unfold sum5
    rw [evm_0 (h0 0 (by omega)), evm_0 (h0 1 (by omega)), evm_0 (h0 2 (by omega)), evm_0 (h0 3 (by omega)), evm_0 (h0 4 (by omega))]
  have uw : ∀ q, q < 5 → uwm (mNew (nI b) (nI po) (nI bs) (nI r) (nI n)) q = 0 := fun q hq => if_pos (h0 q hq)
  refine ⟨⟨ok, ⟨mN_H, mN_H, mN_H, mN_H, mN_H⟩, mN_H, by omega, fun i hi => ?_, fun a ha => by omega, fun a ha => by omega, fun a ha => by omega, fun q hq => ⟨⟨⟨0, 0, hz q 3 (by decide), by omega, fun _ _ => by omega, hz q 4 (by decide), by omega, fun _ _ _ _ => by omega⟩, ⟨0, by omega, hz q 6 (by decide)⟩, 0, by omega, hz q 7 (by decide), fun i hi => by omega⟩, fun _ => ⟨hz q 1 (by decide), hz q 2 (by decide)⟩, fun z => absurd (h0 q hq) z⟩, ⟨by omega, by omega⟩, ?_, fun p hp z => absurd (h0 p hp) z⟩, mN_H⟩
  · rw [mN_C]
    by_cases e : i = 0
    · rw [if_pos e]
      by_cases e2 : nI b = nI 2
      · rw [if_pos e2]
        exact ⟨1, hb, rfl⟩
      · rw [if_neg e2]
        exact ⟨0, by omega, rfl⟩
    · rw [if_neg e]
      exact ⟨0, by omega, rfl⟩
  · unfold sum5
    rw [uw 0 (by omega), uw 1 (by omega), uw 2 (by omega), uw 3 (by omega), uw 4 (by omega)]
    omega
theorem new_R (sh : shH b po bs r n s) : Rl (rst s) (mNew (nI b) (nI po) (nI bs) (nI r) (nI n)) := by
  obtain ⟨s0, s1, s2, s3, s4⟩ := sh
  have cP : ∀ q j, (rst s).P q j = if j = 0 ∨ j = 3 then -1 else 0 := fun q j => rfl
  refine ⟨⟨fun j hj => ?_, fun i hi => ?_, fun a => ⟨?_, ?_, ?_, ?_, ?_⟩⟩, fun q hq => ?_⟩
  · rw [mN_H]
    show (if j < 5 then s.H j else 0) = _
    match j, hj with
    | 0, _ => exact s0
    | 1, _ => exact s1
    | 2, _ => exact s2
    | 3, _ => exact s3
    | 4, _ => exact s4
    | 5, _ => rfl
    | 6, _ => rfl
  · rw [mN_C]
    show (if i = 0 ∧ s.H 0 = nI 2 then nI 1 else 0) = _
    rw [s0]
    by_cases e : i = 0
    · rw [if_pos e]
      by_cases e2 : nI b = nI 2
      · rw [if_pos e2, if_pos ⟨e, e2⟩]
      · rw [if_neg e2, if_neg (fun z => e2 z.2)]
        rfl
    · rw [if_neg e, if_neg (fun z => e z.1)]
  · rw [mN_A]; rfl
  · rw [mN_A]; rfl
  · rw [mN_A]; rfl
  · rw [mN_A]; rfl
  · rw [mN_A]; rfl
  · have h0 : (mNew (nI b) (nI po) (nI bs) (nI r) (nI n)).P q 0 = -1 := by rw [mN_P, if_pos ⟨hq, rfl⟩]
    have hz : ∀ j, ¬ j = 0 → (mNew (nI b) (nI po) (nI bs) (nI r) (nI n)).P q j = 0 := fun j hj => by
      rw [mN_P, if_neg (fun z => hj z.2)]
    refine ⟨⟨?_, ?_, ?_, ?_⟩, fun z => absurd h0 z, ⟨fun _ => ?_, fun z => absurd h0 z⟩, fun z => absurd h0 z⟩
    · rw [h0, cP, if_pos (Or.inl rfl)]
    · rw [hz 1 (by decide), cP, if_neg (by decide)]
    · rw [hz 2 (by decide), cP, if_neg (by decide)]
    · rw [hz 3 (by decide), cP, if_neg (by decide)]
    · rw [cP, if_pos (Or.inr rfl)]
theorem sh_rst (sh : shH b po bs r n s) : shH b po bs r n (rst s) := sh
theorem C_build0 (hx : ¬ bdIn x1 x2 x3 x4 x5) : Den 153 [.ref 1, .int x1, .int x2, .int x3, .int x4, .int x5] (HP L g) = some (some (-1000000002), HP L g) := by
  rw [D0_153]
  have t1 : ∀ P : Prop, [Decidable P] → P → b2 P = nI 1 := fun P _ h => if_pos h
  have t0 : ∀ P : Prop, [Decidable P] → ¬ P → b2 P = nI 0 := fun P _ h => if_neg h
  by_cases c1 : nI 0 ≤ x1 ∧ x1 ≤ nI 5
  · by_cases c2 : nI 0 ≤ x2 ∧ x2 ≤ nI 1
    · by_cases c3 : nI 0 ≤ x3 ∧ x3 ≤ nI 2
      · by_cases c4 : nI 2 ≤ x4 ∧ x4 ≤ nI 4
        · by_cases c5 : nI 1 ≤ x5 ∧ x5 ≤ nI 3
          · exact absurd ⟨c1, c2, c3, c4, c5⟩ hx
          · simp only [e153_0, e153_1, e153_2, e153_3, e153_6, e153_9, e153_10, e153_11, e153_12, e153_15, e153_18, e153_19, e153_20, e153_21, e153_24, e153_27, e153_29, e153_30, e153_32, e153_33, e153_34, e153_37, e153_40, e153_42, e153_43, e153_44, e153_47, e153_50, e153_52, e153_53, e153_54, e153_55, e153_57, e153_59, e153_62, e153_65, e153_67, e153_68, e153_69, e153_72, e153_73, e153_74, e153_75, e153_77, e153_79, e153_82, e153_83, e153_86, e153_87, e153_90, e153_93, en_20, en_35, en_70, en_108, en_136, i_1, C_within, t1 _ c1, t1 _ c2, t1 _ c3, t1 _ c4, t0 _ c5, one_n0, zz, not_true_eq_false, not_false_eq_true, if_true, if_false, lvH_Hq, Option.bind_some, psh_i]
        · simp only [e153_0, e153_1, e153_2, e153_3, e153_6, e153_9, e153_10, e153_11, e153_12, e153_15, e153_18, e153_19, e153_20, e153_21, e153_24, e153_27, e153_29, e153_30, e153_32, e153_33, e153_34, e153_37, e153_40, e153_42, e153_43, e153_44, e153_47, e153_50, e153_52, e153_53, e153_54, e153_55, e153_57, e153_59, e153_62, e153_65, e153_67, e153_68, e153_69, e153_72, e153_73, e153_74, e153_75, e153_77, e153_79, e153_82, e153_83, e153_86, e153_87, e153_90, e153_93, en_20, en_35, en_70, en_108, en_136, i_1, C_within, t1 _ c1, t1 _ c2, t1 _ c3, t0 _ c4, one_n0, zz, not_true_eq_false, not_false_eq_true, if_true, if_false, lvH_Hq, Option.bind_some, psh_i]
      · simp only [e153_0, e153_1, e153_2, e153_3, e153_6, e153_9, e153_10, e153_11, e153_12, e153_15, e153_18, e153_19, e153_20, e153_21, e153_24, e153_27, e153_29, e153_30, e153_32, e153_33, e153_34, e153_37, e153_40, e153_42, e153_43, e153_44, e153_47, e153_50, e153_52, e153_53, e153_54, e153_55, e153_57, e153_59, e153_62, e153_65, e153_67, e153_68, e153_69, e153_72, e153_73, e153_74, e153_75, e153_77, e153_79, e153_82, e153_83, e153_86, e153_87, e153_90, e153_93, en_20, en_35, en_70, en_108, en_136, i_1, C_within, t1 _ c1, t1 _ c2, t0 _ c3, one_n0, zz, not_true_eq_false, not_false_eq_true, if_true, if_false, lvH_Hq, Option.bind_some, psh_i]
    · simp only [e153_0, e153_1, e153_2, e153_3, e153_6, e153_9, e153_10, e153_11, e153_12, e153_15, e153_18, e153_19, e153_20, e153_21, e153_24, e153_27, e153_29, e153_30, e153_32, e153_33, e153_34, e153_37, e153_40, e153_42, e153_43, e153_44, e153_47, e153_50, e153_52, e153_53, e153_54, e153_55, e153_57, e153_59, e153_62, e153_65, e153_67, e153_68, e153_69, e153_72, e153_73, e153_74, e153_75, e153_77, e153_79, e153_82, e153_83, e153_86, e153_87, e153_90, e153_93, en_20, en_35, en_70, en_108, en_136, i_1, C_within, t1 _ c1, t0 _ c2, one_n0, zz, not_true_eq_false, not_false_eq_true, if_true, if_false, lvH_Hq, Option.bind_some, psh_i]
  · simp only [e153_0, e153_1, e153_2, e153_3, e153_6, e153_9, e153_10, e153_11, e153_12, e153_15, e153_18, e153_19, e153_20, e153_21, e153_24, e153_27, e153_29, e153_30, e153_32, e153_33, e153_34, e153_37, e153_40, e153_42, e153_43, e153_44, e153_47, e153_50, e153_52, e153_53, e153_54, e153_55, e153_57, e153_59, e153_62, e153_65, e153_67, e153_68, e153_69, e153_72, e153_73, e153_74, e153_75, e153_77, e153_79, e153_82, e153_83, e153_86, e153_87, e153_90, e153_93, en_20, en_35, en_70, en_108, en_136, i_1, C_within, t0 _ c1, zz, not_true_eq_false, not_false_eq_true, if_true, if_false, lvH_Hq, Option.bind_some, psh_i]
theorem cbb_b (hb : b < 6) (hpo : po < 2) (hba : bs < 3) (hr : 2 ≤ r) (hr4 : r ≤ 4) (hn : 1 ≤ n) (hn3 : n ≤ 3) : cbb (nI b) (nI bs) (nI r) (nI n) ↔ okSh b po bs r n := by
  rw [okSh_or]
  unfold cbb
  have kb : ∀ i, i < 7 → (nI b = nI i) = (b = i) := fun i hi => propext (nI_eq (by omega) (by omega))
  have ka : ∀ i, i < 7 → (nI bs = nI i) = (bs = i) := fun i hi => propext (nI_eq (by omega) (by omega))
  have kr : (nI r = nI 2) = (r = 2) := propext (nI_eq (by omega) (by omega))
  have kn : (nI n = nI 1) = (n = 1) := propext (nI_eq (by omega) (by omega))
  simp only [kb 1 (by omega), kb 3 (by omega), kb 4 (by omega), kb 5 (by omega), ka 1 (by omega), ka 2 (by omega), kr, kn]
  by_cases h1 : b = 1
  · rw [if_pos h1]
    omega
  · rw [if_neg h1]
    by_cases h3 : b = 3
    · rw [if_pos h3]
      omega
    · rw [if_neg h3]
      by_cases h4 : b = 4
      · rw [if_pos h4]
        omega
      · rw [if_neg h4]
        by_cases h5 : b = 5
        · rw [if_pos h5]
          omega
        · rw [if_neg h5]
          exact ⟨fun _ => by omega, fun _ => trivial⟩
theorem C_bld (hb : b < 6) (hpo : po < 2) (hba : bs < 3) (hr : 2 ≤ r) (hr4 : r ≤ 4) (hn : 1 ≤ n) (hn3 : n ≤ 3) : (okSh b po bs r n → Den 153 [.ref 1, .int (nI b), .int (nI po), .int (nI bs), .int (nI r), .int (nI n)] (HP L g) = Rr 153 68 [.ref 1, .int (nI b), .int (nI po), .int (nI bs), .int (nI r), .int (nI n)] [] (HP L g)) ∧ (¬ okSh b po bs r n → Den 153 [.ref 1, .int (nI b), .int (nI po), .int (nI bs), .int (nI r), .int (nI n)] (HP L g) = some (some (-1000000003), HP L g)) := by
  obtain ⟨c1, c2, c3, c4, c5⟩ := bd_n hb hpo hba hr hr4 hn hn3
  have d1 : b2 (nI 0 ≤ nI b ∧ nI b ≤ nI 5) = nI 1 := if_pos c1
  have d2 : b2 (nI 0 ≤ nI po ∧ nI po ≤ nI 1) = nI 1 := if_pos c2
  have d3 : b2 (nI 0 ≤ nI bs ∧ nI bs ≤ nI 2) = nI 1 := if_pos c3
  have d4 : b2 (nI 2 ≤ nI r ∧ nI r ≤ nI 4) = nI 1 := if_pos c4
  have d5 : b2 (nI 1 ≤ nI n ∧ nI n ≤ nI 3) = nI 1 := if_pos c5
  have hk := cbb_b hb hpo hba hr hr4 hn hn3
  rw [D0_153]
  constructor
  · intro ok
    have d6 : b2 (cbb (nI b) (nI bs) (nI r) (nI n)) = nI 1 := if_pos (hk.mpr ok)
    simp only [e153_0, e153_1, e153_2, e153_3, e153_6, e153_9, e153_10, e153_11, e153_12, e153_15, e153_18, e153_19, e153_20, e153_21, e153_24, e153_27, e153_29, e153_30, e153_32, e153_33, e153_34, e153_37, e153_40, e153_42, e153_43, e153_44, e153_47, e153_50, e153_52, e153_53, e153_54, e153_55, e153_57, e153_59, e153_62, e153_65, e153_67, e153_69, e153_72, e153_73, e153_74, e153_75, e153_77, e153_79, e153_82, e153_83, e153_86, e153_87, e153_90, e153_93, en_20, en_35, en_70, en_108, en_136, i_1, C_within, D_canBeBuilt, d1, d2, d3, d4, d5, d6, one_n0, zz, not_true_eq_false, not_false_eq_true, if_true, if_false, lvH_Hq, Option.bind_some, psh_i]
  · intro ok
    have d6 : b2 (cbb (nI b) (nI bs) (nI r) (nI n)) = nI 0 := if_neg (fun z => ok (hk.mp z))
    simp only [e153_0, e153_1, e153_2, e153_3, e153_6, e153_9, e153_10, e153_11, e153_12, e153_15, e153_18, e153_19, e153_20, e153_21, e153_24, e153_27, e153_29, e153_30, e153_32, e153_33, e153_34, e153_37, e153_40, e153_42, e153_43, e153_44, e153_47, e153_50, e153_52, e153_53, e153_54, e153_55, e153_57, e153_59, e153_62, e153_65, e153_67, e153_69, e153_72, e153_73, e153_74, e153_75, e153_77, e153_79, e153_82, e153_83, e153_86, e153_87, e153_90, e153_93, en_20, en_35, en_70, en_108, en_136, i_1, C_within, D_canBeBuilt, d1, d2, d3, d4, d5, d6, one_n0, zz, not_true_eq_false, not_false_eq_true, if_true, if_false, lvH_Hq, Option.bind_some, psh_i]
theorem C_build (ok : okSh b po bs r n) (T : KT c k hc kp ic is sd bk ba bv g) : ∃ g' c', Den 153 [.ref 1, .int (nI b), .int (nI po), .int (nI bs), .int (nI r), .int (nI n)] (HP L g) = some (some (nI (wN b + n)), HP L g') ∧ KT c' 0 hc kp ic is sd bk ba bv g' ∧ g' 7 5 = nI 0 ∧ frC g g' ∧ Rl c' (mNew (nI b) (nI po) (nI bs) (nI r) (nI n)) := by
  have sh : shH b po bs r n (shp5 c (nI b) (nI po) (nI bs) (nI r) (nI n)) := ⟨rfl, rfl, rfl, rfl, rfl⟩
  have d1 := D_shape (g := g) (s := c) (b := nI b) (po := nI po) (ba := nI bs) (rr := nI r) (rd := nI n) (st_2 (L := L))
  rw [upf_eq T.1] at d1
  obtain ⟨g2, d2, T2, h7, F2⟩ := C_beginAnew (L := L) (KT_c (c' := shp5 c (nI b) (nI po) (nI bs) (nI r) (nI n)) T)
  have hp := prcs_b (sh_rst sh) ok.1
  have d3 := D_processes (g := g2) (s := rst (shp5 c (nI b) (nI po) (nI bs) (nI r) (nI n))) (st_2 (L := L))
  rw [upf_eq T2.1, hp] at d3
  have ok2 := ok
  obtain ⟨o1, o2, o3, o4, o5, o6, o7, -⟩ := ok2
  refine ⟨g2, _, ?_, T2, h7, frC_t (frC_upf (by omega) (by omega)) F2, new_R sh⟩
  rw [(C_bld o1 o2 o3 o4 o5 o6 o7).1 ok, e153_68]
  simp only [e153_1, e153_2, e153_3, e153_6, e153_9, e153_10, e153_11, e153_12, e153_15, e153_18, e153_19, e153_20, e153_21, e153_24, e153_27, e153_29, e153_30, e153_32, e153_33, e153_34, e153_37, e153_40, e153_42, e153_43, e153_44, e153_47, e153_50, e153_52, e153_53, e153_54, e153_55, e153_57, e153_59, e153_62, e153_65, e153_67, e153_69, e153_72, e153_73, e153_74, e153_75, e153_77, e153_79, e153_82, e153_83, e153_86, e153_87, e153_90, e153_93, en_20, en_35, en_70, en_108, en_136, i_1, i_2, f_1_0, d1, d2, d3, lvH_Hq, Option.bind_some, psh_i, psh_n]
theorem C_build1 (hb : b < 6) (hpo : po < 2) (hba : bs < 3) (hr : 2 ≤ r) (hr4 : r ≤ 4) (hn : 1 ≤ n) (hn3 : n ≤ 3) (ok : ¬ okSh b po bs r n) : Den 153 [.ref 1, .int (nI b), .int (nI po), .int (nI bs), .int (nI r), .int (nI n)] (HP L g) = some (some (-1000000003), HP L g) := by
  exact (C_bld hb hpo hba hr hr4 hn hn3).2 ok
end RR
