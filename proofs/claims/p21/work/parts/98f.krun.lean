/-! THE CLASS' CALLS: run -/
section RR
variable {L : Nat} {g g' : Nat → Nat → Int32} {c m s : Sx} {k : Nat} {hc : Nat → Sx} {kp : Nat → Bool} {ic : Nat → Sx} {is : Nat → Nat} {sd bk : Nat} {ba bv : Nat → Int32} {b po bs r n t N : Nat} {x y : Int32}
theorem fw_f : ∀ d d' (m : Sx) (t x : Nat), (∃ c, Rl c m) → Iv b po bs r n t N m → sum5 (evm bs m) < d → sum5 (evm bs m) < d' → fw (wN b + n) d m x = fw (wN b + n) d' m x
  | 0, d', m, t, x, R, I, h, h' => by omega
  | d + 1, 0, m, t, x, R, I, h, h' => by omega
  | d + 1, d' + 1, m, t, x, R, I, h, h' => by
    rw [fw, fw]
    rcases lst_of (m := m) with ⟨e, -⟩ | ⟨h1, h2, h3⟩
    · rw [if_pos e, if_pos e]
    · obtain ⟨kk, k1, k7, ek⟩ := chs_k I R h1 h2
      obtain ⟨s1, s2, s3, s4⟩ := st_ok I R h1 h2 ek k7 (show 0 < kk by omega)
      rw [if_neg (by omega), if_neg (by omega)]
      exact fw_f d d' _ (t + 1) (x + 1) s2 s1 (by omega) (by omega)
theorem fw_5 (h : lst m = 5) {np x : Nat} : fw np 41 m x = (m, x) := by
  rw [fw, if_pos h]
theorem fw_s {p x : Nat} (R : ∃ c, Rl c m) (I : Iv b po bs r n t N m) (h1 : p < 5) (h2 : ¬ m.P p 0 = -1) (h3 : ∀ q, q < p → m.P q 0 = -1) : fw (wN b + n) 41 m x = fw (wN b + n) 41 (mStp m p (wN b + n) (nI 0)) (x + 1) := by
  obtain ⟨kk, k1, k7, ek⟩ := chs_k I R h1 h2
  obtain ⟨s1, s2, s3, s4⟩ := st_ok I R h1 h2 ek k7 (show 0 < kk by omega)
  have h40 := dep_40 I
  have e := lst_at h1 h3 h2
  rw [fw, if_neg (by omega), e]
  exact fw_f 40 41 _ (t + 1) (x + 1) s2 s1 (by omega) (by omega)
/-- the acts of p go on till the end -/
theorem L_krun1 {p : Nat} (hp : p < 5) : ∀ d (m c : Sx) (t s i : Nat) (g : Nat → Nat → Int32) (g3 : g 3 = lay c), Rl c m → Iv b po bs r n t N m → (∀ q, q < p → m.P q 0 = -1) → i + sum5 (evm bs m) ≤ 40 → sum5 (evm bs m) < d →
    ∃ m2 c2 t2 s2 i2, Rr 168 28 [.ref 1, .int (nI s), .int (nI p), .int (nI i)] [] (HP L g) = Rr 168 64 [.ref 1, .int (nI s2), .int (nI p), .int (nI i2)] [] (HP L (upf g 3 (lay c2))) ∧ Rl c2 m2 ∧ Iv b po bs r n t2 N m2 ∧ (∀ q, q < p + 1 → m2.P q 0 = -1) ∧ fw (wN b + n) 41 m s = fw (wN b + n) 41 m2 s2
  | 0, m, c, t, s, i, g, g3, R, I, hq, hi, hd => by omega
  | d + 1, m, c, t, s, i, g, g3, R, I, hq, hi, hd => by
    have e0 := HP_3 (L := L) g3
    by_cases hu : m.P p 0 = -1
    · refine ⟨m, c, t, s, i, ?_, R, I, fun q h => ?_, rfl⟩
      · have e1 : b2 (¬ c.P p 0 = -1) = nI 0 := if_neg (fun z => z ((cP0 R hp).trans hu))
        rw [e0, e168_28]
        by_cases h40 : nI 40 ≤ nI i
        · simp only [e168_0, e168_1, e168_4, e168_7, e168_10, e168_12, e168_13, e168_14, e168_17, e168_18, e168_19, e168_20, e168_22, e168_23, e168_26, e168_27, e168_29, e168_31, e168_34, e168_35, e168_38, e168_39, e168_42, e168_45, e168_46, e168_49, e168_50, e168_51, e168_54, e168_55, e168_58, e168_61, e168_67, e168_70, e168_71, en_66, en_110, en_118, en_150, h40, if_true, upf_upf]
        · simp only [e168_0, e168_1, e168_4, e168_7, e168_10, e168_12, e168_13, e168_14, e168_17, e168_18, e168_19, e168_20, e168_22, e168_23, e168_26, e168_27, e168_29, e168_31, e168_34, e168_35, e168_38, e168_39, e168_42, e168_45, e168_46, e168_49, e168_50, e168_51, e168_54, e168_55, e168_58, e168_61, e168_67, e168_70, e168_71, en_66, en_110, en_118, en_150, h40, if_false, i_1, i_2, f_1_0, D_isUnderWay st_2 hp, e1, zz, if_true, upf_upf, lvH_Hq, Option.bind_some, psh_i]
      · by_cases e : q = p
        · rw [e]
          exact hu
        · exact hq q (by omega)
    · have h1 := ev_pos I hp hu
      have e1 : b2 (¬ c.P p 0 = -1) = nI 1 := if_pos (fun z => hu ((cP0 R hp).symm.trans z))
      have h40 : ¬ nI 40 ≤ nI i := nI_ge (by omega) (by omega)
      obtain ⟨kk, k1, k7, ek⟩ := chs_k I ⟨c, R⟩ hp hu
      obtain ⟨s1, s2, s3, s4⟩ := st_ok I ⟨c, R⟩ hp hu ek k7 (show 0 < kk by omega)
      obtain ⟨d2, R2⟩ := K_go (L := L) I R hp hu ek k7 (show 0 < kk by omega)
      have d2 := d2 2 3 g st_2 g3
      rw [e0] at d2
      obtain ⟨m2, c2, t2, s2', i2, q1, q2, q3, q4, q5⟩ := L_krun1 hp d (mStp m p (wN b + n) (nI 0)) (goC c p (nI 0)) (t + 1) (s + 1) (i + 1) (upf g 3 (lay (goC c p (nI 0)))) upf_same R2 s1 (fun q h => by
        have := hq q h
        rw [stp_n (by omega) (by omega)]
        exact this) (by omega) (by omega)
      rw [upf_upf] at q1
      refine ⟨m2, c2, t2, s2', i2, ?_, q2, q3, q4, (fw_s ⟨c, R⟩ I hp hu hq).trans q5⟩
      rw [e0, e168_28]
      simp only [e168_0, e168_1, e168_4, e168_7, e168_10, e168_12, e168_13, e168_14, e168_17, e168_18, e168_19, e168_20, e168_22, e168_23, e168_26, e168_27, e168_29, e168_31, e168_34, e168_35, e168_38, e168_39, e168_42, e168_45, e168_46, e168_49, e168_50, e168_51, e168_54, e168_55, e168_58, e168_61, e168_67, e168_70, e168_71, en_66, en_110, en_118, en_150, h40, if_false, i_1, i_2, f_1_0, D_isUnderWay st_2 hp, e1, one_n0, d2, upf_upf, nI_add, lvH_Hq, Option.bind_some, psh_i]
      exact q1
theorem L_krun2 : ∀ d p (m c : Sx) (t s : Nat) (g : Nat → Nat → Int32) (v : Value) (g3 : g 3 = lay c), p + d = 5 → Rl c m → Iv b po bs r n t N m → (∀ q, q < p → m.P q 0 = -1) →
    ∃ c2 t2, Rr 168 21 [.ref 1, .int (nI s), .int (nI p), v] [] (HP L g) = some (some (nI (fw (wN b + n) 41 m s).2), HP L (upf g 3 (lay c2))) ∧ Rl c2 (fw (wN b + n) 41 m s).1 ∧ Iv b po bs r n t2 N (fw (wN b + n) 41 m s).1
  | 0, p, m, c, t, s, g, v, g3, h, R, I, hq => by
    have : p = 5 := by omega
    subst this
    rw [fw_5 (lst_5 hq)]
    refine ⟨c, t, ?_, R, I⟩
    rw [HP_3 (L := L) g3, e168_21]
    simp only [e168_0, e168_1, e168_4, e168_7, e168_10, e168_12, e168_13, e168_14, e168_17, e168_18, e168_19, e168_20, e168_22, e168_23, e168_26, e168_27, e168_29, e168_31, e168_34, e168_35, e168_38, e168_39, e168_42, e168_45, e168_46, e168_49, e168_50, e168_51, e168_54, e168_55, e168_58, e168_61, e168_67, e168_70, e168_71, en_66, en_110, en_118, en_150, Int32.le_refl, if_true, upf_upf]
  | d + 1, p, m, c, t, s, g, v, g3, h, R, I, hq => by
    have h5 : ¬ nI 5 ≤ nI p := nI_ge (by omega) (by omega)
    have h40 := dep_40 I
    obtain ⟨m2, c2, t2, s2, i2, q1, q2, q3, q4, q5⟩ := L_krun1 (L := L) (show p < 5 by omega) 41 m c t s 0 g g3 R I hq (by omega) (by omega)
    obtain ⟨c3, t3, z1, z2, z3⟩ := L_krun2 d (p + 1) m2 c2 t2 s2 (upf g 3 (lay c2)) (.int (nI i2)) upf_same (by omega) q2 q3 q4
    rw [upf_upf] at z1
    rw [q5]
    refine ⟨c3, t3, ?_, z2, z3⟩
    rw [e168_21]
    simp only [e168_0, e168_1, e168_4, e168_7, e168_10, e168_12, e168_13, e168_14, e168_17, e168_18, e168_19, e168_20, e168_22, e168_23, e168_26, e168_27, e168_29, e168_31, e168_34, e168_35, e168_38, e168_39, e168_42, e168_45, e168_46, e168_49, e168_50, e168_51, e168_54, e168_55, e168_58, e168_61, e168_67, e168_70, e168_71, en_66, en_110, en_118, en_150, h5, if_false]
    rw [q1, e168_64]
    simp only [e168_0, e168_1, e168_4, e168_7, e168_10, e168_12, e168_13, e168_14, e168_17, e168_18, e168_19, e168_20, e168_22, e168_23, e168_26, e168_27, e168_29, e168_31, e168_34, e168_35, e168_38, e168_39, e168_42, e168_45, e168_46, e168_49, e168_50, e168_51, e168_54, e168_55, e168_58, e168_61, e168_67, e168_70, e168_71, en_66, en_110, en_118, en_150, nI_add]
    exact z1
theorem cntU_n : ∀ d, d < 1000 → ∃ j, j ≤ d ∧ cntU m d = nI j ∧ (j = 0 ↔ ∀ p, p < d → m.P p 0 = -1)
  | 0, _ => ⟨0, by omega, rfl, fun _ p hp => by omega, fun _ => rfl⟩
  | d + 1, h => by
    obtain ⟨j, h1, h2, h3⟩ := cntU_n d (by omega)
    unfold cntU
    by_cases e : m.P d 0 = -1
    · rw [if_pos e]
      refine ⟨j, by omega, h2, fun z p hp => ?_, fun z => h3.mpr (fun p hp => z p (by omega))⟩
      by_cases e2 : p = d
      · rw [e2]
        exact e
      · exact h3.mp z p (by omega)
    · rw [if_neg e, h2, nI_add]
      exact ⟨j + 1, by omega, rfl, fun z => by omega, fun z => absurd (z d (by omega)) e⟩
theorem cnt_lst (R : Rl c m) : (cntU c 5 = 0) ↔ lst m = 5 := by
  rw [cntU_c (c := c) (m := m) 5 (fun p hp => cP0 R hp)]
  obtain ⟨j, h1, h2, h3⟩ := cntU_n (m := m) 5 (by omega)
  rw [h2]
  rcases lst_of (m := m) with ⟨e, h⟩ | ⟨z1, z2, z3⟩
  · exact ⟨fun _ => e, fun _ => by rw [h3.mpr h]; rfl⟩
  · constructor
    · intro z
      have : j = 0 := (nI_eq (b := 0) (by omega) (by omega)).mp z
      exact absurd (h3.mp this _ z1) z2
    · intro z
      omega
theorem C_run0 (R : Rl c m) (hu : lst m = 5) (T : KT c k hc kp ic is sd bk ba bv g) : Den 168 [.ref 1] (HP L g) = some (some (-1000000003), HP L g) := by
  have e := (cnt_lst R).mpr hu
  rw [HP_3 (L := L) T.1, D0_168]
  simp only [e168_0, e168_1, e168_4, e168_7, e168_10, e168_12, e168_13, e168_14, e168_17, e168_18, e168_19, e168_20, e168_22, e168_23, e168_26, e168_27, e168_29, e168_31, e168_34, e168_35, e168_38, e168_39, e168_42, e168_45, e168_46, e168_49, e168_50, e168_51, e168_54, e168_55, e168_58, e168_61, e168_67, e168_70, e168_71, en_66, en_110, en_118, en_150, i_1, i_2, f_1_0, D_underWay st_2, e, not_true_eq_false, if_false, lvH_Hq, Option.bind_some, psh_i]
theorem C_run (I : Iv b po bs r n t N m) (R : Rl c m) (hu : ¬ lst m = 5) (hk16 : k ≤ 16) (T : KT c k hc kp ic is sd bk ba bv g) :
    ∃ g' c' t', Den 168 [.ref 1] (HP L g) = some (some (nI (fw (wN b + n) 41 m 0).2), HP L g') ∧ KT c' (kup k) (hcons c hc) kp ic is sd bk ba bv g' ∧ g' 7 5 = nI 0 ∧ frC g g' ∧ Rl c' (fw (wN b + n) 41 m 0).1 ∧ Iv b po bs r n t' N (fw (wN b + n) 41 m 0).1 := by
  have e : ¬ cntU c 5 = 0 := fun z => hu ((cnt_lst R).mp z)
  obtain ⟨g1, d1, T1, h7, F1⟩ := C_remember (L := L) hk16 T
  obtain ⟨c2, t2, z1, z2, z3⟩ := L_krun2 (L := L) 5 0 m c t 0 g1 (.retAddr 0) T1.1 (by omega) R I (fun q h => by omega)
  refine ⟨_, c2, t2, ?_, KT_c T1, h7, frC_t F1 (frC_upf (by omega) (by omega)), z2, z3⟩
  rw [HP_3 (L := L) T.1] at d1
  rw [HP_3 (L := L) T.1, D0_168]
  simp only [e168_0, e168_1, e168_4, e168_7, e168_10, e168_12, e168_13, e168_14, e168_17, e168_18, e168_19, e168_20, e168_22, e168_23, e168_26, e168_27, e168_29, e168_31, e168_34, e168_35, e168_38, e168_39, e168_42, e168_45, e168_46, e168_49, e168_50, e168_51, e168_54, e168_55, e168_58, e168_61, e168_67, e168_70, e168_71, en_66, en_110, en_118, en_150, i_1, i_2, f_1_0, D_underWay st_2, e, d1, not_false_eq_true, if_true, lvH_Hq, Option.bind_some, psh_i, psh_n]
  exact z1
end RR
