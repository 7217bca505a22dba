/-! THE MODEL'S CALLS: run -/
def lst (m : Sx) : Nat := if ¬ m.P 0 0 = -1 then 0 else if ¬ m.P 1 0 = -1 then 1 else if ¬ m.P 2 0 = -1 then 2 else if ¬ m.P 3 0 = -1 then 3 else if ¬ m.P 4 0 = -1 then 4 else 5
/-- the first way, as far as d steps reach; c: steps taken before -/
def fw (np : Nat) : Nat → Sx → Nat → Sx × Nat
  | 0, m, c => (m, c)
  | d + 1, m, c => if lst m = 5 then (m, c) else fw np d (mStp m (lst m) np (nI 0)) (c + 1)
theorem lst_at {m : Sx} {p : Nat} (hp : p < 5) (h : ∀ q, q < p → m.P q 0 = -1) (hu : ¬ m.P p 0 = -1) : lst m = p := by
  unfold lst
  match p, hp with
  | 0, _ => rw [if_pos hu]
  | 1, _ => rw [if_neg (fun z => z (h 0 (by omega))), if_pos hu]
  | 2, _ => rw [if_neg (fun z => z (h 0 (by omega))), if_neg (fun z => z (h 1 (by omega))), if_pos hu]
  | 3, _ => rw [if_neg (fun z => z (h 0 (by omega))), if_neg (fun z => z (h 1 (by omega))), if_neg (fun z => z (h 2 (by omega))), if_pos hu]
  | 4, _ => rw [if_neg (fun z => z (h 0 (by omega))), if_neg (fun z => z (h 1 (by omega))), if_neg (fun z => z (h 2 (by omega))), if_neg (fun z => z (h 3 (by omega))), if_pos hu]
theorem lst_5 {m : Sx} (h : ∀ q, q < 5 → m.P q 0 = -1) : lst m = 5 := by
  unfold lst
  rw [if_neg (fun z => z (h 0 (by omega))), if_neg (fun z => z (h 1 (by omega))), if_neg (fun z => z (h 2 (by omega))), if_neg (fun z => z (h 3 (by omega))), if_neg (fun z => z (h 4 (by omega)))]
theorem lst_of {m : Sx} : (lst m = 5 ∧ ∀ q, q < 5 → m.P q 0 = -1) ∨ (lst m < 5 ∧ ¬ m.P (lst m) 0 = -1 ∧ ∀ q, q < lst m → m.P q 0 = -1) := by
  by_cases h0 : m.P 0 0 = -1
  · by_cases h1 : m.P 1 0 = -1
    · by_cases h2 : m.P 2 0 = -1
      · by_cases h3 : m.P 3 0 = -1
        · by_cases h4 : m.P 4 0 = -1
          · have h : ∀ q, q < 5 → m.P q 0 = -1 := fun q hq => by
              match q, hq with
              | 0, _ => exact h0
              | 1, _ => exact h1
              | 2, _ => exact h2
              | 3, _ => exact h3
              | 4, _ => exact h4
            exact Or.inl ⟨lst_5 h, h⟩
          · have h : ∀ q, q < 4 → m.P q 0 = -1 := fun q hq => by
              match q, hq with
              | 0, _ => exact h0
              | 1, _ => exact h1
              | 2, _ => exact h2
              | 3, _ => exact h3
            have e := lst_at (by omega) h h4
            rw [e]
            exact Or.inr ⟨by omega, h4, h⟩
        · have h : ∀ q, q < 3 → m.P q 0 = -1 := fun q hq => by
            match q, hq with
            | 0, _ => exact h0
            | 1, _ => exact h1
            | 2, _ => exact h2
          have e := lst_at (by omega) h h3
          rw [e]
          exact Or.inr ⟨by omega, h3, h⟩
      · have h : ∀ q, q < 2 → m.P q 0 = -1 := fun q hq => by
          match q, hq with
          | 0, _ => exact h0
          | 1, _ => exact h1
        have e := lst_at (by omega) h h2
        rw [e]
        exact Or.inr ⟨by omega, h2, h⟩
    · have h : ∀ q, q < 1 → m.P q 0 = -1 := fun q hq => by
        match q, hq with
        | 0, _ => exact h0
      have e := lst_at (by omega) h h1
      rw [e]
      exact Or.inr ⟨by omega, h1, h⟩
  · have h : ∀ q, q < 0 → m.P q 0 = -1 := fun q hq => by omega
    have e := lst_at (by omega) h h0
    rw [e]
    exact Or.inr ⟨by omega, h0, h⟩
section RR
variable {L : Nat} {g : Nat → Nat → Int32} {m : Sx} {k : Nat} {hs : Nat → Sx} {kp : Nat → Bool} {im : Nat → Sx} {is : Nat → Nat} {sd bk : Nat} {ba bv : Nat → Int32} {rs : Nat → Sx} {b po bs r n t N : Nat} {f : Nat → Int32} {x1 x2 x3 x4 x5 : Int32} {h : Hp}
/-- a step with a choice that may be taken: all that is known -/
theorem st_ok {p j kk : Nat} (I : Iv b po bs r n t N m) (R : ∃ c, Rl c m) (hp : p < 5) (hu : ¬ m.P p 0 = -1) (hkk : mChs m p = nI kk) (hk7 : kk ≤ 7) (hj : j < kk) :
    Iv b po bs r n (t + 1) N (mStp m p (wN b + n) (nI j)) ∧ (∃ c, Rl c (mStp m p (wN b + n) (nI j))) ∧ mPre m p (wN b + n) ∧ sum5 (evm bs (mStp m p (wN b + n) (nI j))) + 1 ≤ sum5 (evm bs m) := by
  obtain ⟨c, R⟩ := R
  obtain ⟨s1, s2, s3, s4, -⟩ := step_all I R hp hu (show j < 2147483648 by omega) (by rw [hkk]; exact nI_lt hj (by omega))
  exact ⟨s1, ⟨_, s2⟩, s4, dep_lt I hp hu⟩
theorem chs_k {p : Nat} (I : Iv b po bs r n t N m) (R : ∃ c, Rl c m) (hp : p < 5) (hu : ¬ m.P p 0 = -1) : ∃ kk, 1 ≤ kk ∧ kk ≤ 7 ∧ mChs m p = nI kk := by
  obtain ⟨c, R⟩ := R
  exact (chs_ok I R hp).2.2 hu
theorem uw_np (I : Iv b po bs r n t N m) {p : Nat} (hp : p < 5) (hu : ¬ m.P p 0 = -1) : p < wN b + n := by
  obtain ⟨⟨ok, sh, h6, hN, hC0, hA0, hS, hE, hPI, ⟨-, hev⟩, huw, hK⟩, h5⟩ := I
  exact ((hPI p hp).2.2 hu).1
end RR
