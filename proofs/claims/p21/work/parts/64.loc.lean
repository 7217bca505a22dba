/-! ACCESSES BY NUMBERS: the same of the class and the model -/
def celN (b po r n q v k al : Nat) : Nat :=
  if b = 2 then (if q < 1 then (if po = 0 then v - k else if k = r - 1 then v else if k < v then k else k + 1) else k)
  else if b = 4 then (if q < 1 then k else if k = 0 then q - 1 else if k < n then n + (if k - 1 < q - 1 then k - 1 else k) * (n - 1) + (if q - 1 < (if k - 1 < q - 1 then k - 1 else k) then q - 1 else q - 2) else n + (q - 1) * (n - 1) + (k - n))
  else if b = 5 then (if q < 2 then (if k = al - 1 then q else k) else k)
  else 0
def wtN (b n q k al : Nat) : Prop := if q < wN b then ¬ b = 5 ∨ k = al - 1 else b = 4 ∧ n ≤ k
theorem cr4a : ∀ n, n < 4 → ∀ q, q < 5 → ∀ k, k < 6 → (1 ≤ n ∧ 1 ≤ q ∧ q ≤ n ∧ k < 2 * n - 1) → (if nI k = 0 then nI q - nI 1 else if nI k < nI n then mBtw (nI n) (if nI k - nI 1 < nI q - nI 1 then nI k - nI 1 else nI k) (nI q - nI 1) else nI n + (nI q - nI 1) * (nI n - nI 1) + nI k - nI n) = nI (celN 4 0 0 n q 0 k 0) := by decide +kernel
theorem cr4b : ∀ n, n < 4 → ∀ q, q < 5 → ∀ k, k < 6 → (1 ≤ n ∧ 1 ≤ q ∧ q ≤ n ∧ k < 2 * n - 1) → relC (nI n) (nI q - nI 1) (nI k) = nI (celN 4 0 0 n q 0 k 0) := by decide +kernel
theorem cr4c : ∀ n, n < 4 → ∀ q, q < 5 → ∀ k, k < 6 → (1 ≤ n ∧ 1 ≤ q ∧ q ≤ n ∧ k < 2 * n - 1) → celN 4 0 0 n q 0 k 0 < 9 := by decide +kernel
theorem celN_2 {po r n q v k al : Nat} : celN 2 po r n q v k al = if q < 1 then (if po = 0 then v - k else if k = r - 1 then v else if k < v then k else k + 1) else k := if_pos rfl
theorem celN_5 {po r n q v k al : Nat} : celN 5 po r n q v k al = if q < 2 then (if k = al - 1 then q else k) else k := by
  unfold celN
  rw [if_neg (by omega), if_neg (by omega), if_pos rfl]
theorem celN_4 {po r n q v k al : Nat} (h : q < 1) : celN 4 po r n q v k al = k := by
  unfold celN
  rw [if_neg (by omega), if_pos rfl, if_pos h]
theorem celN_x {b po r n q v k al : Nat} (h2 : ¬ b = 2) (h4 : ¬ b = 4) (h5 : ¬ b = 5) : celN b po r n q v k al = 0 := by
  unfold celN
  rw [if_neg h2, if_neg h4, if_neg h5]
theorem bt1 : ∀ r, r < 5 → ∀ v, v < 5 → ∀ k, k < 5 → (2 ≤ r ∧ v < r ∧ k < r) → (if nI k = nI r - nI 1 then nI v else if nI k < nI v then nI k else nI k + nI 1) = nI (celN 2 1 r 0 0 v k 0) ∧ celN 2 1 r 0 0 v k 0 < 9 := by decide +kernel
section LL
variable {b po ba r n q v k al : Nat} {m c : Sx}
theorem nI_n {a b : Nat} (ha : a < 1000) (hb : b < 1000) (h : ¬ a = b) : ¬ nI a = nI b := fun z => h ((nI_eq (by omega) (by omega)).mp z)
theorem acc_le (ok : okSh b po ba r n) (hv : v < r) : accN b po r n q v ≤ 5 ∧ 1 ≤ accN b po r n q v := by
  obtain ⟨-, -, -, h2, h4, h1, h3, -⟩ := ok
  unfold accN
  repeat' split
  all_goals omega
theorem wt_b (ok : okSh b po ba r n) (sh : shH b po ba r n m) (h1 : m.P q 1 = nI k) (h5 : m.P q 5 = nI al) (hk : k < 100) (ha1 : 1 ≤ al) (ha : al < 100) : mWt m q ↔ wtN b n q k al := by
  have hb := ok.1
  have hn := ok.2.2.2.2.2.2.1
  unfold mWt wtN
  rw [wrs_b sh.1 hb, sh.1, sh.2.2.2.2, h1, h5, pk_sub ha1]
  have e5 : nI b = nI 5 ↔ b = 5 := nI_eq (by omega) (by omega)
  have e4 : nI b = nI 4 ↔ b = 4 := nI_eq (by omega) (by omega)
  have ek : nI k = nI (al - 1) ↔ k = al - 1 := nI_eq (by omega) (by omega)
  have en : nI n ≤ nI k ↔ n ≤ k := nI_leI (by omega) (by omega)
  by_cases c1 : q < wN b
  · rw [if_pos c1, if_pos c1, e5, ek]
  · rw [if_neg c1, if_neg c1, e4, en]
theorem cel_b (ok : okSh b po ba r n) (sh : shH b po ba r n m) (hq : q < wN b + n) (hv : v < r) (hval : q < wN b → valW m q = nI v) (h1 : m.P q 1 = nI k) (h5 : m.P q 5 = nI al) (hk : k < al) (hal : al = accN b po r n q v) : mCel m q = nI (celN b po r n q v k al) ∧ celN b po r n q v k al < 9 := by
  have hal5 := acc_le (q := q) ok hv
  have hwt := wt_b (q := q) ok sh h1 h5 (by omega) (by omega) (by omega)
  obtain ⟨hb, hpo, hba, hr2, hr4, hn1, hn3, -⟩ := ok
  have hw := wrs_b (m := m) sh.1 hb
  have e5 : nI b = nI 5 ↔ b = 5 := nI_eq (by omega) (by omega)
  have e4 : nI b = nI 4 ↔ b = 4 := nI_eq (by omega) (by omega)
  have e2 : nI b = nI 2 ↔ b = 2 := nI_eq (by omega) (by omega)
  unfold mCel mCW mCR
  simp only [hw, sh.1, sh.2.2.2.2, h1]
  by_cases b2 : b = 2
  · subst b2
    have hw1 : wN 2 = 1 := rfl
    rw [hw1] at hval ⊢
    by_cases c1 : q < 1
    · rw [if_pos c1, if_pos rfl, hval c1]
      unfold mBit
      rw [sh.2.1, sh.2.2.2.1]
      by_cases p0 : po = 0
      · subst p0
        have ea : accN 2 0 r n q v = v + 1 := by
          unfold accN
          rw [if_pos rfl, if_pos ⟨by rw [hw1]; exact c1, rfl⟩]
        rw [if_pos (by decide), pk_sub (by omega)]
        unfold celN
        rw [if_pos rfl, if_pos c1, if_pos rfl]
        exact ⟨rfl, by omega⟩
      · have p1 : po = 1 := by omega
        subst p1
        have ea : accN 2 1 r n q v = r := by
          unfold accN
          rw [if_pos rfl, if_neg (fun z => by omega)]
        have hb1 := bt1 r (by omega) v (by omega) k (by omega) ⟨hr2, hv, by omega⟩
        rw [if_neg (by decide)]
        have q0 : q = 0 := by omega
        subst q0
        exact hb1
    · rw [if_neg c1, if_pos (Or.inl rfl)]
      unfold celN
      rw [if_pos rfl, if_neg c1]
      have ea : accN 2 po r n q v = r := by
        unfold accN
        rw [if_pos rfl, if_neg (fun z => by rw [hw1] at z; omega)]
      exact ⟨rfl, by omega⟩
  · by_cases b4 : b = 4
    · subst b4
      have hw1 : wN 4 = 1 := rfl
      rw [hw1] at hval hq ⊢
      by_cases c1 : q < 1
      · rw [if_pos c1, if_neg (by decide), if_pos rfl]
        rw [celN_4 c1]
        have ea : accN 4 po r n q v = n := by
          unfold accN
          rw [if_neg (by omega), if_pos rfl, if_pos (by rw [hw1]; exact c1)]
        exact ⟨rfl, by omega⟩
      · have ea : accN 4 po r n q v ≤ 2 * n - 1 := by
          unfold accN
          rw [if_neg (by omega), if_pos rfl, if_neg (by rw [hw1]; exact c1)]
          split <;> omega
        rw [if_neg c1, if_neg (fun z => by rcases z with z | z <;> revert z <;> decide), if_pos rfl]
        exact ⟨cr4a n (by omega) q (by omega) k (by omega) ⟨hn1, by omega, by omega, by omega⟩, cr4c n (by omega) q (by omega) k (by omega) ⟨hn1, by omega, by omega, by omega⟩⟩
    · by_cases b5 : b = 5
      · subst b5
        have hw1 : wN 5 = 2 := rfl
        rw [hw1] at hval hq ⊢
        by_cases c1 : q < 2
        · rw [if_pos c1, if_neg (by decide), if_neg (by decide), if_pos rfl]
          rw [celN_5, if_pos c1]
          unfold wtN at hwt
          rw [hw1, if_pos c1] at hwt
          by_cases w : k = al - 1
          · rw [if_pos w, if_pos (hwt.mpr (Or.inr w))]
            exact ⟨rfl, by omega⟩
          · rw [if_neg w, if_neg (fun z => (hwt.mp z).elim (fun z => z rfl) w)]
            exact ⟨rfl, by omega⟩
        · rw [if_neg c1, if_pos (Or.inr rfl)]
          rw [celN_5, if_neg c1]
          have ea : accN 5 po r n q v = 2 := by
            unfold accN
            rw [if_neg (by omega), if_neg (by omega), if_pos rfl, if_neg (by rw [hw1]; exact c1)]
          exact ⟨rfl, by omega⟩
      · have f2 : ¬ nI b = nI 2 := fun z => b2 (e2.mp z)
        have f4 : ¬ nI b = nI 4 := fun z => b4 (e4.mp z)
        have f5 : ¬ nI b = nI 5 := fun z => b5 (e5.mp z)
        simp only [f2, f4, f5, if_false, or_self, ite_self]
        rw [celN_x b2 b4 b5]
        exact ⟨rfl, by omega⟩
/-- the class' words for the next access are the model's -/
theorem rds_b (hH : ∀ k, k < 7 → c.H k = m.H k) (ok : okSh b po ba r n) (sh : shH b po ba r n m) (hv : v < r) (h1 : m.P q 1 = nI k) (h5 : m.P q 5 = nI al) (hk : k < al) (hal : al = accN b po r n q v) : rds c q (nI k) ↔ ¬ mWt m q := by
  have hal5 := acc_le (q := q) ok hv
  rw [wt_b (q := q) ok sh h1 h5 (by omega) (by omega) (by omega)]
  obtain ⟨hb, hpo, hba, hr2, hr4, hn1, hn3, -⟩ := ok
  have hcw : wrs c = wN b := wrs_b ((hH 0 (by omega)).trans sh.1) hb
  unfold rds wtN
  rw [hcw, hH 0 (by omega), hH 1 (by omega), hH 4 (by omega), sh.1, sh.2.1, sh.2.2.2.2]
  have e5 : nI b = nI 5 ↔ b = 5 := nI_eq (by omega) (by omega)
  have e4 : nI b = nI 4 ↔ b = 4 := nI_eq (by omega) (by omega)
  have e1 : nI po = nI 1 ↔ po = 1 := nI_eq (by omega) (by omega)
  have e2 : nI k < nI 2 ↔ k < 2 := nI_ltI (by omega) (by omega)
  have en : nI k < nI n ↔ k < n := nI_ltI (by omega) (by omega)
  by_cases c1 : q < wN b
  · rw [if_pos c1, if_pos c1, e5, e1, e2]
    by_cases b5 : b = 5
    · subst b5
      unfold accN at hal
      rw [if_neg (by omega), if_neg (by omega), if_pos rfl, if_pos c1] at hal
      by_cases p1 : po = 1
      · rw [if_pos p1] at hal
        constructor
        · rintro ⟨-, z, -⟩; exact absurd p1 z
        · intro z; exact absurd (Or.inr (by omega)) z
      · rw [if_neg p1] at hal
        constructor
        · rintro ⟨-, -, z⟩ (z2 | z2)
          · exact z2 rfl
          · omega
        · intro z
          refine ⟨rfl, p1, ?_⟩
          by_cases k2 : k = al - 1
          · exact absurd (Or.inr k2) z
          · omega
    · constructor
      · rintro ⟨z, -⟩; exact absurd z b5
      · intro z; exact absurd (Or.inl b5) z
  · rw [if_neg c1, if_neg c1, e4, en]
    constructor
    · rintro (z | z) ⟨z2, z3⟩
      · exact z z2
      · omega
    · intro z
      by_cases b4 : b = 4
      · refine Or.inr ?_
        by_cases k2 : k < n
        · exact k2
        · exact absurd ⟨b4, by omega⟩ z
      · exact Or.inl b4
theorem celO_b (hH : ∀ k, k < 7 → c.H k = m.H k) (hcv : valW c q = valW m q) (ok : okSh b po ba r n) (sh : shH b po ba r n m) (hq : q < wN b + n) (hv : v < r) (hval : q < wN b → valW m q = nI v) (h1 : m.P q 1 = nI k) (h5 : m.P q 5 = nI al) (hk : k < al) (hal : al = accN b po r n q v) {rd : Prop} [Decidable rd] (hrd : rd ↔ ¬ mWt m q) : celO c q (nI k) rd = mCel m q := by
  have hal5 := acc_le (q := q) ok hv
  have hb4 := cel_b ok sh hq hv hval h1 h5 hk hal
  have hwt := wt_b (q := q) ok sh h1 h5 (by omega) (by omega) (by omega)
  obtain ⟨hb, hpo, hba, hr2, hr4, hn1, hn3, -⟩ := ok
  have hcw : wrs c = wN b := wrs_b ((hH 0 (by omega)).trans sh.1) hb
  have hw := wrs_b (m := m) sh.1 hb
  have e5 : nI b = nI 5 ↔ b = 5 := nI_eq (by omega) (by omega)
  have e4 : nI b = nI 4 ↔ b = 4 := nI_eq (by omega) (by omega)
  have e2 : nI b = nI 2 ↔ b = 2 := nI_eq (by omega) (by omega)
  by_cases b4 : b = 4
  · rw [hb4.1]
    subst b4
    unfold celO
    rw [hcw, hH 0 (by omega), hH 4 (by omega), sh.1, sh.2.2.2.2, if_neg (by decide), if_pos rfl]
    have hw1 : wN 4 = 1 := rfl
    rw [hw1] at hq ⊢
    by_cases c1 : q < 1
    · rw [if_pos c1]
      unfold celN
      rw [if_neg (by omega), if_pos rfl, if_pos c1]
    · have ea : accN 4 po r n q v ≤ 2 * n - 1 := by
        unfold accN
        rw [if_neg (by omega), if_pos rfl, if_neg (by rw [hw1]; exact c1)]
        split <;> omega
      rw [if_neg c1]
      exact cr4b n (by omega) q (by omega) k (by omega) ⟨hn1, by omega, by omega, by omega⟩
  · unfold celO mCel mCW mCR bitW mBit
    simp only [hcw, hw, hcv, hH 0 (by omega), hH 1 (by omega), hH 3 (by omega), sh.1, h1]
    by_cases b2 : b = 2
    · subst b2
      rw [if_pos rfl, if_pos rfl, if_pos (Or.inl rfl)]
      rfl
    · rw [if_neg (fun z => b2 (e2.mp z)), if_neg (fun z => b4 (e4.mp z)), if_neg (fun z => b2 (e2.mp z)), if_neg (fun z => b4 (e4.mp z)), if_neg (fun z => b4 (e4.mp z))]
      by_cases b5 : b = 5
      · subst b5
        rw [if_pos rfl, if_pos rfl, if_pos (Or.inr rfl)]
        have hw1 : wN 5 = 2 := rfl
        rw [hw1] at hq ⊢
        by_cases c1 : q < 2
        · rw [if_pos c1]
          by_cases w : mWt m q
          · rw [if_pos w, if_neg (fun z => hrd.mp z w)]
          · rw [if_neg w, if_pos (hrd.mpr w)]
        · rw [if_neg c1, if_pos (hrd.mpr (fun z => by
            have z2 := hwt.mp z
            unfold wtN at z2
            rw [hw1, if_neg c1] at z2
            omega))]
      · have f2 : ¬ nI b = nI 2 := fun z => b2 (e2.mp z)
        have f5 : ¬ nI b = nI 5 := fun z => b5 (e5.mp z)
        simp only [f2, f5, if_false, or_self, ite_self]
end LL
