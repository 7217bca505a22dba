/-! THE MODEL'S CALLS: run -/
def lst (m : Sx) : Nat := if ¬ m.P 0 0 = -1 then 0 else if ¬ m.P 1 0 = -1 then 1 else if ¬ m.P 2 0 = -1 then 2 else if ¬ m.P 3 0 = -1 then 3 else if ¬ m.P 4 0 = -1 then 4 else 5
/-- the first way, as far as d steps reach; c: steps taken before -/
def fw (np : Nat) : Nat → Sx → Nat → Sx × Nat
  | 0, m, c => (m, c)
  | d + 1, m, c => if lst m = 5 then (m, c) else fw np d (mStp m (lst m) np (nI 0)) (c + 1)
theorem lst_at {m : Sx} {p : Nat} (hp : p < 5) (h : ∀ q, q < p → m.P q 0 = -1) (hu : ¬ m.P p 0 = -1) : lst m = p := by
  unfold lst
  match p, hp with
  | 0, _ => rw [if_pos hu]
  | 1, _ => rw [if_neg (fun z => z (h 0 (by omega))), if_pos hu]
  | 2, _ => rw [if_neg (fun z => z (h 0 (by omega))), if_neg (fun z => z (h 1 (by omega))), if_pos hu]
  | 3, _ => rw [if_neg (fun z => z (h 0 (by omega))), if_neg (fun z => z (h 1 (by omega))), if_neg (fun z => z (h 2 (by omega))), if_pos hu]
  | 4, _ => rw [if_neg (fun z => z (h 0 (by omega))), if_neg (fun z => z (h 1 (by omega))), if_neg (fun z => z (h 2 (by omega))), if_neg (fun z => z (h 3 (by omega))), if_pos hu]
theorem lst_5 {m : Sx} (h : ∀ q, q < 5 → m.P q 0 = -1) : lst m = 5 := by
  unfold lst
  rw [if_neg (fun z => z (h 0 (by omega))), if_neg (fun z => z (h 1 (by omega))), if_neg (fun z => z (h 2 (by omega))), if_neg (fun z => z (h 3 (by omega))), if_neg (fun z => z (h 4 (by omega)))]
theorem lst_of {m : Sx} : (lst m = 5 ∧ ∀ q, q < 5 → m.P q 0 = -1) ∨ (lst m < 5 ∧ ¬ m.P (lst m) 0 = -1 ∧ ∀ q, q < lst m → m.P q 0 = -1) := by
  by_cases h0 : m.P 0 0 = -1
  · by_cases h1 : m.P 1 0 = -1
    · by_cases h2 : m.P 2 0 = -1
      · by_cases h3 : m.P 3 0 = -1
        · by_cases h4 : m.P 4 0 = -1
          · have h : ∀ q, q < 5 → m.P q 0 = -1 := fun q hq => by
              match q, hq with
              | 0, _ => exact h0
              | 1, _ => exact h1
              | 2, _ => exact h2
              | 3, _ => exact h3
              | 4, _ => exact h4
            exact Or.inl ⟨lst_5 h, h⟩
          · have h : ∀ q, q < 4 → m.P q 0 = -1 := fun q hq => by
              match q, hq with
              | 0, _ => exact h0
              | 1, _ => exact h1
              | 2, _ => exact h2
              | 3, _ => exact h3
            have e := lst_at (by omega) h h4
            rw [e]
            exact Or.inr ⟨by omega, h4, h⟩
        · have h : ∀ q, q < 3 → m.P q 0 = -1 := fun q hq => by
            match q, hq with
            | 0, _ => exact h0
            | 1, _ => exact h1
            | 2, _ => exact h2
          have e := lst_at (by omega) h h3
          rw [e]
          exact Or.inr ⟨by omega, h3, h⟩
      · have h : ∀ q, q < 2 → m.P q 0 = -1 := fun q hq => by
          match q, hq with
          | 0, _ => exact h0
          | 1, _ => exact h1
        have e := lst_at (by omega) h h2
        rw [e]
        exact Or.inr ⟨by omega, h2, h⟩
    · have h : ∀ q, q < 1 → m.P q 0 = -1 := fun q hq => by
        match q, hq with
        | 0, _ => exact h0
      have e := lst_at (by omega) h h1
      rw [e]
      exact Or.inr ⟨by omega, h1, h⟩
  · have h : ∀ q, q < 0 → m.P q 0 = -1 := fun q hq => by omega
    have e := lst_at (by omega) h h0
    rw [e]
    exact Or.inr ⟨by omega, h0, h⟩
section RR
variable {L : Nat} {g : Nat → Nat → Int32} {m : Sx} {k : Nat} {hs : Nat → Sx} {kp : Nat → Bool} {im : Nat → Sx} {is : Nat → Nat} {sd bk : Nat} {ba bv : Nat → Int32} {rs : Nat → Sx} {b po bs r n t N : Nat} {f : Nat → Int32} {x1 x2 x3 x4 x5 : Int32} {h : Hp}
/-- a step with a choice that may be taken: all that is known -/
theorem st_ok {p j kk : Nat} (I : Iv b po bs r n t N m) (R : ∃ c, Rl c m) (hp : p < 5) (hu : ¬ m.P p 0 = -1) (hkk : mChs m p = nI kk) (hk7 : kk ≤ 7) (hj : j < kk) :
    Iv b po bs r n (t + 1) N (mStp m p (wN b + n) (nI j)) ∧ (∃ c, Rl c (mStp m p (wN b + n) (nI j))) ∧ mPre m p (wN b + n) ∧ sum5 (evm bs (mStp m p (wN b + n) (nI j))) + 1 ≤ sum5 (evm bs m) := by
  obtain ⟨c, R⟩ := R
  obtain ⟨s1, s2, s3, s4, -⟩ := step_all I R hp hu (show j < 2147483648 by omega) (by rw [hkk]; exact nI_lt hj (by omega))
  exact ⟨s1, ⟨_, s2⟩, s4, dep_lt I hp hu⟩
theorem chs_k {p : Nat} (I : Iv b po bs r n t N m) (R : ∃ c, Rl c m) (hp : p < 5) (hu : ¬ m.P p 0 = -1) : ∃ kk, 1 ≤ kk ∧ kk ≤ 7 ∧ mChs m p = nI kk := by
  obtain ⟨c, R⟩ := R
  exact (chs_ok I R hp).2.2 hu
theorem uw_np (I : Iv b po bs r n t N m) {p : Nat} (hp : p < 5) (hu : ¬ m.P p 0 = -1) : p < wN b + n := by
  obtain ⟨⟨ok, sh, h6, hN, hC0, hA0, hS, hE, hPI, ⟨-, hev⟩, huw, hK⟩, h5⟩ := I
  exact ((hPI p hp).2.2 hu).1
theorem any_lst (I : Iv b po bs r n t N m) : (∃ i, i < wN b + n ∧ ¬ m.P i 0 = -1) ↔ ¬ lst m = 5 := by
  rcases lst_of (m := m) with ⟨e, h⟩ | ⟨h1, h2, h3⟩
  · constructor
    · rintro ⟨i, hi, hu⟩
      have := np_le I.1.1
      exact absurd (h i (by omega)) hu
    · intro z
      exact absurd e z
  · exact ⟨fun _ z => by omega, fun _ => ⟨_, uw_np I h1 h2, h2⟩⟩
theorem L_find {v : Value} : ∀ d j, j + d = lst m → lst m < 5 → ¬ m.P (lst m) 0 = -1 → (∀ q, q < lst m → m.P q 0 = -1) → Rr 190 11 [.ref 86, v, .int (nI j)] [] (HM L g m f) = Rr 190 25 [.ref 86, v, .int (nI (lst m))] [] (HM L g m f)
  | 0, j, h, h5, hu, hn => by
    have : j = lst m := by omega
    subst this
    rw [e190_11]
    simp only [e190_0, e190_1, e190_2, e190_3, e190_6, e190_9, e190_10, e190_12, e190_13, e190_16, e190_19, e190_22, e190_26, e190_27, e190_28, e190_31, e190_34, e190_37, e190_38, en_86, en_124, en_184, i_86, M_isUnderWay (show lst m < 5 by omega), lvH_Hq, Option.bind_some, psh_i, psh_n, Hq_G, Hq_setG, upf_same, upf_upf, b2_0, hu, not_false_eq_true, not_true_eq_false, if_true, if_false]
  | d + 1, j, h, h5, hu, hn => by
    have ih := L_find (v := v) d (j + 1) (by omega) h5 hu hn
    have hj := hn j (by omega)
    rw [e190_11]
    simp only [e190_0, e190_1, e190_2, e190_3, e190_6, e190_9, e190_10, e190_12, e190_13, e190_16, e190_19, e190_22, e190_26, e190_27, e190_28, e190_31, e190_34, e190_37, e190_38, en_86, en_124, en_184, i_86, M_isUnderWay (show j < 5 by omega), lvH_Hq, Option.bind_some, psh_i, psh_n, Hq_G, Hq_setG, upf_same, upf_upf, b2_0, hj, not_false_eq_true, not_true_eq_false, if_true, if_false, nI_add, ih]
theorem L_first : ∀ d (m : Sx) (t c : Nat) (v : Value), (∃ c, Rl c m) → Iv b po bs r n t N m → sum5 (evm bs m) < d → Rr 190 2 [.ref 86, .int (nI c), v] [] (HM L g m f) = some (some (nI (fw (wN b + n) d m c).2), HM L g (fw (wN b + n) d m c).1 f)
  | 0, m, t, c, v, R, I, hd => by omega
  | d + 1, m, t, c, v, R, I, hd => by
    have hnp := np_le I.1.1
    have hp := prcs_b I.1.2.1 I.1.1.1
    have ha := any_lst I
    rw [fw, e190_2]
    rcases lst_of (m := m) with ⟨e, h⟩ | ⟨h1, h2, h3⟩
    · have eb : b2 (∃ i, i < wN b + n ∧ ¬ m.P i 0 = -1) = nI 0 := if_neg (fun z => ha.mp z e)
      rw [if_pos e]
      simp only [e190_0, e190_1, e190_3, e190_6, e190_9, e190_10, e190_12, e190_13, e190_16, e190_19, e190_22, e190_26, e190_27, e190_28, e190_31, e190_34, e190_37, e190_38, en_86, en_124, en_184, i_86, M_isAny hp hnp, eb, zz, if_true, lvH_Hq, Option.bind_some, psh_i, psh_n, Hq_G, Hq_setG, upf_same, upf_upf]
    · have eb : b2 (∃ i, i < wN b + n ∧ ¬ m.P i 0 = -1) = nI 1 := if_pos (ha.mpr (by omega))
      obtain ⟨kk, k1, k7, ek⟩ := chs_k I R h1 h2
      obtain ⟨s1, s2, s3, s4⟩ := st_ok I R h1 h2 ek k7 (show 0 < kk by omega)
      have ih := L_first d (mStp m (lst m) (wN b + n) (nI 0)) (t + 1) (c + 1) (.int (nI (lst m))) s2 s1 (by omega)
      rw [if_neg (by omega)]
      simp only [e190_0, e190_1, e190_3, e190_6, e190_9, e190_10, e190_12, e190_13, e190_16, e190_19, e190_22, e190_26, e190_27, e190_28, e190_31, e190_34, e190_37, e190_38, en_86, en_124, en_184, i_86, M_isAny hp hnp, eb, one_n0, if_false, lvH_Hq, Option.bind_some, psh_i, psh_n, Hq_G, Hq_setG, upf_same, upf_upf]
      rw [L_find (lst m) 0 (by omega) h1 h2 h3, e190_25]
      simp only [e190_0, e190_1, e190_3, e190_6, e190_9, e190_10, e190_12, e190_13, e190_16, e190_19, e190_22, e190_26, e190_27, e190_28, e190_31, e190_34, e190_37, e190_38, en_86, en_124, en_184, i_86, M_stepNow h1 s3, lvH_Hq, Option.bind_some, psh_i, psh_n, Hq_G, Hq_setG, upf_same, upf_upf, nI_add]
      exact ih
theorem M_run0 (I : Iv b po bs r n t N m) (hu : lst m = 5) (T : MT m k hs kp im is sd bk ba bv g) : Den 195 [.ref 86] (HP L g) = some (some (-1000000003), HP L g) := by
  obtain ⟨rs0, e0, -⟩ := M_now (L := L) T
  have eb : b2 (∃ i, i < wN b + n ∧ ¬ m.P i 0 = -1) = nI 0 := if_neg (fun z => (any_lst I).mp z hu)
  rw [e0, D0_195]
  simp only [e195_0, e195_1, e195_4, e195_7, e195_9, e195_10, e195_11, e195_14, e195_15, e195_18, en_47, en_124, en_190, i_86, M_isAny (prcs_b I.1.2.1 I.1.1.1) (np_le I.1.1), eb, zz, not_true_eq_false, if_false, lvH_Hq, Option.bind_some, psh_i, psh_n, Hq_G, Hq_setG, upf_same, upf_upf]
theorem M_run (I : Iv b po bs r n t N m) (R : ∃ c, Rl c m) (hu : ¬ lst m = 5) (hk16 : k ≤ 16) (T : MT m k hs kp im is sd bk ba bv g) :
    ∃ g', Den 195 [.ref 86] (HP L g) = some (some (nI (fw (wN b + n) 41 m 0).2), HP L g') ∧ MT (fw (wN b + n) 41 m 0).1 (if k < 16 then k + 1 else 16) (hcons m hs) kp im is sd bk ba bv g' ∧ frM g g' := by
  obtain ⟨rs0, e0, -⟩ := M_now (L := L) T
  obtain ⟨rs1, g1, h1, h2⟩ := M_rem (L := L) hk16 T
  have eb : b2 (∃ i, i < wN b + n ∧ ¬ m.P i 0 = -1) = nI 1 := if_pos ((any_lst I).mpr hu)
  have h40 := dep_40 I
  have hF : Den 190 [.ref 86] (HM L g1 m (lyR rs1)) = some (some (nI (fw (wN b + n) 41 m 0).2), HM L g1 (fw (wN b + n) 41 m 0).1 (lyR rs1)) := by
    rw [D0_190]
    simp only [e190_0, e190_1, e190_3, e190_6, e190_9, e190_10, e190_11, e190_12, e190_13, e190_16, e190_19, e190_22, e190_25, e190_26, e190_27, e190_28, e190_31, e190_34, e190_37, e190_38, en_86, en_124, en_184]
    exact L_first 41 m t 0 (.retAddr 0) R I (by omega)
  refine ⟨_, ?_, h2 _⟩
  rw [e0] at h1
  rw [e0, D0_195]
  simp only [e195_0, e195_1, e195_4, e195_7, e195_9, e195_10, e195_11, e195_14, e195_15, e195_18, en_47, en_124, en_190, i_86, M_isAny (prcs_b I.1.2.1 I.1.1.1) (np_le I.1.1), eb, h1, hF, one_n0, not_false_eq_true, if_true, lvH_Hq, Option.bind_some, psh_i, psh_n, Hq_G, Hq_setG, upf_same, upf_upf]
end RR
