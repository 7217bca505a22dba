/-! the next access laid out -/
section LL
variable {b po ba r n q v k al : Nat} {m c : Sx}
theorem numW_b (hH : ∀ k, k < 7 → c.H k = m.H k) (hcv : valW c q = valW m q) (ok : okSh b po ba r n) (sh : shH b po ba r n m) (h1 : m.P q 1 = nI k) (h4 : c.P q 4 = m.P q 3) (h6 : b = 5 → c.P q 6 = m.P q 4) : numW c q (nI k) = mNm m q := by
  obtain ⟨hb, hpo, hba, hr2, hr4, hn1, hn3, -⟩ := ok
  have hcw : wrs c = wN b := wrs_b ((hH 0 (by omega)).trans sh.1) hb
  have hw := wrs_b (m := m) sh.1 hb
  have e5 : nI b = nI 5 ↔ b = 5 := nI_eq (by omega) (by omega)
  have e4 : nI b = nI 4 ↔ b = 4 := nI_eq (by omega) (by omega)
  have e3 : nI b = nI 3 ↔ b = 3 := nI_eq (by omega) (by omega)
  have e2 : nI b = nI 2 ↔ b = 2 := nI_eq (by omega) (by omega)
  have l2 : nI b < nI 2 ↔ b < 2 := nI_ltI (by omega) (by omega)
  have l5 : nI b < nI 5 ↔ b < 5 := nI_ltI (by omega) (by omega)
  unfold numW mNm mSt
  rw [hcw, hw, hcv, hH 0 (by omega), hH 1 (by omega), h4, sh.1]
  by_cases c1 : q < wN b
  · rw [if_pos c1, if_pos c1]
    by_cases d2 : b = 2
    · subst d2
      rw [if_pos rfl, if_neg (by decide), if_pos rfl]
      have hb2 : mCel m q = bitW c (valW m q) (nI k) := by
        unfold mCel mCW mBit bitW
        simp only [hw, sh.1, hH 1 (by omega), hH 3 (by omega), h1, if_pos c1, if_true]
        rfl
      rw [hb2]
    · rw [if_neg (fun z => d2 (e2.mp z))]
      by_cases d34 : b = 3 ∨ b = 4
      · have q0 : q = 0 := by
          unfold wN at c1
          rw [if_neg (by omega)] at c1
          omega
        subst q0
        rw [if_pos (d34.imp e3.mpr e4.mpr), if_neg (fun z => by have := l2.mp z; omega), if_neg (fun z => d2 (e2.mp z)), if_pos (l5.mpr (by omega))]
        have z10 : nI 10 * nI 0 = nI 0 := by decide
        have add0 : nI 100 * m.P 0 3 + nI 0 = nI 100 * m.P 0 3 := Int32.add_zero _
        rw [z10, add0]
      · rw [if_neg (fun z => d34 (z.imp e3.mp e4.mp))]
        by_cases d5 : b = 5
        · subst d5
          rw [if_pos rfl, if_neg (show ¬ nI 5 < nI 2 by decide), if_neg (show ¬ nI 5 = nI 2 by decide), if_neg (show ¬ nI 5 < nI 5 by decide), h6 rfl, Int32.add_comm (nI 1)]
        · rw [if_neg (fun z => d5 (e5.mp z)), if_pos (l2.mpr (by omega))]
  · rw [if_neg c1, if_neg c1]
theorem sub_add_n {i w n j : Nat} (h : n ≤ j) : nI n + (nI i) * (nI w) + nI j - nI n = nI (i * w + j) := by
  rw [pk_mul, nI_add, nI_add, pk_sub (by omega)]
  congr 1
  omega
/-- an act writes no cell twice -/
theorem wr_inj (ok : okSh b po ba r n) (hb5 : ¬ b = 5) (sh : shH b po ba r n m) (hq : q < wN b + n) (hv : v < r) (hval : q < wN b → valW m q = nI v) (h5 : m.P q 5 = nI al) (hal : al = accN b po r n q v) {i j : Nat} (hi : i < al) (hj : j < al) (wi : mWt (m.sP q 1 (nI i)) q) (wj : mWt (m.sP q 1 (nI j)) q) (e : mCel (m.sP q 1 (nI i)) q = mCel (m.sP q 1 (nI j)) q) : i = j := by
  have hal5 := acc_le (q := q) ok hv
  have vv : ∀ x, valW (m.sP q 1 x) q = valW m q := fun x => valW_sP (by decide)
  have c1 := fun (x : Nat) (hx : x < al) => cel_b (m := m.sP q 1 (nI x)) ok sh hq hv (fun z => (vv _).trans (hval z)) sP_eq ((sP_nk (by decide)).trans h5) hx hal
  have w1 := fun (x : Nat) (hx : x < al) => wt_b (m := m.sP q 1 (nI x)) (q := q) ok sh sP_eq ((sP_nk (by decide)).trans h5) (by omega) (by omega) (by omega)
  rw [(c1 i hi).1, (c1 j hj).1] at e
  have e := (nI_eq (by have := (c1 i hi).2; omega) (by have := (c1 j hj).2; omega)).mp e
  have wi := (w1 i hi).mp wi
  have wj := (w1 j hj).mp wj
  unfold wtN at wi wj
  obtain ⟨hb, hpo, hba, hr2, hr4, hn1, hn3, -⟩ := ok
  by_cases d2 : b = 2
  · subst d2
    rw [celN_2, celN_2] at e
    have hw1 : wN 2 = 1 := rfl
    rw [hw1] at wi wj
    by_cases c1 : q < 1
    · rw [if_pos c1, if_pos c1] at e
      unfold accN at hal
      rw [if_pos rfl, hw1] at hal
      by_cases p0 : po = 0
      · rw [if_pos p0, if_pos p0] at e
        rw [if_pos ⟨c1, p0⟩] at hal
        omega
      · rw [if_neg p0, if_neg p0] at e
        rw [if_neg (fun z => p0 z.2)] at hal
        by_cases a1 : i = r - 1
        · rw [if_pos a1] at e
          by_cases a2 : j = r - 1
          · omega
          · rw [if_neg a2] at e
            by_cases a3 : j < v
            · rw [if_pos a3] at e; omega
            · rw [if_neg a3] at e; omega
        · rw [if_neg a1] at e
          by_cases a2 : j = r - 1
          · rw [if_pos a2] at e
            by_cases a3 : i < v
            · rw [if_pos a3] at e; omega
            · rw [if_neg a3] at e; omega
          · rw [if_neg a2] at e
            by_cases a3 : i < v
            · rw [if_pos a3] at e
              by_cases a4 : j < v
              · rw [if_pos a4] at e; omega
              · rw [if_neg a4] at e; omega
            · rw [if_neg a3] at e
              by_cases a4 : j < v
              · rw [if_pos a4] at e; omega
              · rw [if_neg a4] at e; omega
    · rw [if_neg c1, if_neg c1] at e
      exact e
  · by_cases d4 : b = 4
    · subst d4
      have hw1 : wN 4 = 1 := rfl
      rw [hw1] at wi wj
      by_cases c1 : q < 1
      · rw [celN_4 c1, celN_4 c1] at e
        exact e
      · rw [if_neg c1] at wi wj
        unfold celN at e
        rw [if_neg (by omega), if_pos rfl, if_neg c1, if_neg (by omega), if_neg (by omega), if_neg (by omega), if_pos rfl, if_neg c1, if_neg (by omega), if_neg (by omega)] at e
        omega
    · unfold accN at hal
      rw [if_neg d2, if_neg d4, if_neg hb5] at hal
      omega
theorem prep_b (hH : ∀ k, k < 7 → c.H k = m.H k) (hcv : valW c q = valW m q) (ok : okSh b po ba r n) (sh : shH b po ba r n m) (hq : q < wN b + n) (hv : v < r) (hval : q < wN b → valW m q = nI v) (h1 : m.P q 1 = nI k) (h5 : m.P q 5 = nI al) (hk : k < al) (hal : al = accN b po r n q v) (c1 : c.P q 1 = nI k) (c5 : c.P q 5 = nI al) (h4 : c.P q 4 = m.P q 3) (h6 : b = 5 → c.P q 6 = m.P q 4) : (prep c q).P q 3 = mCel m q ∧ (prep c q).P q 7 = b2 (¬ mWt m q) ∧ (mWt m q → (prep c q).P q 8 = mNm m q) := by
  have hal5 := acc_le (q := q) ok hv
  have hr := rds_b (q := q) hH ok sh hv h1 h5 hk hal
  unfold prep
  rw [c1, c5, if_neg (nI_ge hk (by omega))]
  by_cases w : mWt m q
  · have nr : ¬ rds c q (nI k) := fun z => hr.mp z w
    rw [if_neg nr]
    refine ⟨?_, ?_, fun _ => ?_⟩
    · rw [sP_nk (by decide), sP_eq]
      exact celO_b hH hcv ok sh hq hv hval h1 h5 hk hal ⟨False.elim, fun z => z w⟩
    · rw [sP_nk (by decide), sP_nk (by decide), sP_eq]
      exact (if_neg (fun z => z w)).symm
    · rw [sP_eq]
      exact numW_b hH hcv ok sh h1 h4 h6
  · rw [if_pos (hr.mpr w)]
    refine ⟨?_, ?_, fun z => absurd z w⟩
    · rw [sP_eq]
      exact celO_b hH hcv ok sh hq hv hval h1 h5 hk hal ⟨fun _ => w, fun _ => trivial⟩
    · rw [sP_nk (by decide), sP_eq]
      exact (if_pos w).symm
end LL
