/-! ANY ACT BEGUN: the class' and the model's go together -/
def alM (m : Sx) (p : Nat) (x : Int32) : Int32 := if (m.H 0 = nI 1 ∧ p < wrs m ∧ m.P p 3 = x) ∧ m.H 1 = 0 then nI 0 else mAcc m p x
def kpM (m : Sx) (p : Nat) (x : Int32) : Int32 := if p < wrs m then (if m.H 0 = nI 1 then x else if m.H 0 = nI 3 ∨ m.H 0 = nI 4 then m.P p 3 + nI 1 else m.P p 3) else m.P p 3
section FF
variable {b po ba r n t u N p j : Nat} {m c : Sx} {x : Int32}
theorem mB_H : (mBeg m p x).H = ((m.sH 6 (m.H 6 + nI 1)).sH 5 (m.H 5 + nI 1)).H := by
  unfold mBeg
  dsimp only
  split
  · rw [sP_H, sP_H, sP_H, sP_H, sP_H, sP_H, sP_H]
    funext k
    rw [sH_H, sH_H, sH_H, sH_H, sA_H, sA_H, sA_H, sA_H, sA_H]
  · rw [sP_H, sP_H, sP_H, sP_H, sP_H, sP_H]
    funext k
    rw [sH_H, sH_H, sH_H, sH_H, sA_H, sA_H, sA_H, sA_H, sA_H]
theorem mB_C : (mBeg m p x).C = m.C := by
  unfold mBeg
  dsimp only
  split
  · rw [sP_C, sP_C, sP_C, sP_C, sP_C, sP_C, sP_C, sH_C, sH_C, sA_C, sA_C, sA_C, sA_C, sA_C]
  · rw [sP_C, sP_C, sP_C, sP_C, sP_C, sP_C, sH_C, sH_C, sA_C, sA_C, sA_C, sA_C, sA_C]
theorem mB_A : (mBeg m p x).A = (((((m.sA (ix (m.H 6)) 0 (nI p)).sA (ix (m.H 6)) 1 (if p < wrs m then x else -1)).sA (ix (m.H 6)) 2 (m.H 5)).sA (ix (m.H 6)) 3 (-1)).sA (ix (m.H 6)) 4 (-1)).A := by
  unfold mBeg
  dsimp only
  split
  · rw [sP_A, sP_A, sP_A, sP_A, sP_A, sP_A, sP_A, sH_A, sH_A]
  · rw [sP_A, sP_A, sP_A, sP_A, sP_A, sP_A, sH_A, sH_A]
theorem mB_An {a k : Nat} (h : ¬ a = ix (m.H 6)) : (mBeg m p x).A a k = m.A a k := by
  rw [mB_A]
  simp only [sA_A, h, false_and, if_false]
theorem mB_A0 : (mBeg m p x).A (ix (m.H 6)) 0 = nI p := by
  rw [mB_A]
  simp [sA_A]
theorem mB_A1 : (mBeg m p x).A (ix (m.H 6)) 1 = if p < wrs m then x else -1 := by
  rw [mB_A]
  simp [sA_A]
theorem mB_A2 : (mBeg m p x).A (ix (m.H 6)) 2 = m.H 5 := by
  rw [mB_A]
  simp [sA_A]
theorem mB_A3 : (mBeg m p x).A (ix (m.H 6)) 3 = -1 := by
  rw [mB_A]
  simp [sA_A]
theorem mB_A4 : (mBeg m p x).A (ix (m.H 6)) 4 = -1 := by
  rw [mB_A]
  simp [sA_A]
theorem mB_A5 {k : Nat} (h : 4 < k) : (mBeg m p x).A (ix (m.H 6)) k = m.A (ix (m.H 6)) k := by
  rw [mB_A]
  simp only [sA_A]
  rw [if_neg (by omega), if_neg (by omega), if_neg (by omega), if_neg (by omega), if_neg (by omega)]
theorem mB_Pn {q k : Nat} (h : ¬ q = p) : (mBeg m p x).P q k = m.P q k := by
  unfold mBeg
  dsimp only
  split
  · rw [sP_na h, sP_na h, sP_na h, sP_na h, sP_na h, sP_na h, sP_na h, sH_P, sH_P, sA_P, sA_P, sA_P, sA_P, sA_P]
  · rw [sP_na h, sP_na h, sP_na h, sP_na h, sP_na h, sP_na h, sH_P, sH_P, sA_P, sA_P, sA_P, sA_P, sA_P]
theorem mB_P3 : (mBeg m p x).P p 3 = kpM m p x := by
  unfold mBeg kpM
  dsimp only
  split
  · rw [sP_eq]
  · rw [sP_nk (by decide), sP_nk (by decide), sP_nk (by decide), sP_nk (by decide), sP_nk (by decide), sP_nk (by decide), sH_P, sH_P, sA_P, sA_P, sA_P, sA_P, sA_P]
theorem mB_P5 : (mBeg m p x).P p 5 = alM m p x := by
  unfold mBeg alM
  dsimp only
  split
  · rw [sP_nk (by decide), sP_eq]
  · rw [sP_eq]
theorem mB_Pk {k : Nat} (h3 : ¬ k = 3) (h5 : ¬ k = 5) (h7 : ¬ k = 7) (h4 : ¬ k = 4) (h2 : ¬ k = 2) (h1 : ¬ k = 1) (h0 : ¬ k = 0) : (mBeg m p x).P p k = m.P p k := by
  unfold mBeg
  dsimp only
  split
  · rw [sP_nk h3, sP_nk h5, sP_nk h7, sP_nk h4, sP_nk h2, sP_nk h1, sP_nk h0, sH_P, sH_P, sA_P, sA_P, sA_P, sA_P, sA_P]
  · rw [sP_nk h5, sP_nk h7, sP_nk h4, sP_nk h2, sP_nk h1, sP_nk h0, sH_P, sH_P, sA_P, sA_P, sA_P, sA_P, sA_P]
theorem mB_P0 : (mBeg m p x).P p 0 = m.H 6 := by
  unfold mBeg
  dsimp only
  split
  · rw [sP_nk (by decide), sP_nk (by decide), sP_nk (by decide), sP_nk (by decide), sP_nk (by decide), sP_nk (by decide), sP_eq]
  · rw [sP_nk (by decide), sP_nk (by decide), sP_nk (by decide), sP_nk (by decide), sP_nk (by decide), sP_eq]
theorem mB_P1 : (mBeg m p x).P p 1 = nI 0 := by
  unfold mBeg
  dsimp only
  split
  · rw [sP_nk (by decide), sP_nk (by decide), sP_nk (by decide), sP_nk (by decide), sP_nk (by decide), sP_eq]
  · rw [sP_nk (by decide), sP_nk (by decide), sP_nk (by decide), sP_nk (by decide), sP_eq]
theorem mB_P2 : (mBeg m p x).P p 2 = nI 0 := by
  unfold mBeg
  dsimp only
  split
  · rw [sP_nk (by decide), sP_nk (by decide), sP_nk (by decide), sP_nk (by decide), sP_eq]
  · rw [sP_nk (by decide), sP_nk (by decide), sP_nk (by decide), sP_eq]
theorem mB_P4 : (mBeg m p x).P p 4 = nI 0 := by
  unfold mBeg
  dsimp only
  split
  · rw [sP_nk (by decide), sP_nk (by decide), sP_nk (by decide), sP_eq]
  · rw [sP_nk (by decide), sP_nk (by decide), sP_eq]
theorem mB_P7 : (mBeg m p x).P p 7 = nI 0 := by
  unfold mBeg
  dsimp only
  split
  · rw [sP_nk (by decide), sP_nk (by decide), sP_eq]
  · rw [sP_nk (by decide), sP_eq]
theorem mAcc_b {v : Nat} (ok : okSh b po ba r n) (sh : shH b po ba r n m) (hx : p < wN b → x = nI v) : mAcc m p x = nI (accN b po r n p v) := by
  obtain ⟨hb, hpo, hba, hr2, hr4, hn1, hn3, -⟩ := ok
  have hw := wrs_b (m := m) sh.1 hb
  have e5 : nI b = nI 5 ↔ b = 5 := nI_eq (by omega) (by omega)
  have e4 : nI b = nI 4 ↔ b = 4 := nI_eq (by omega) (by omega)
  have e2 : nI b = nI 2 ↔ b = 2 := nI_eq (by omega) (by omega)
  have p1 : nI po = nI 1 ↔ po = 1 := nI_eq (by omega) (by omega)
  unfold mAcc accN
  rw [hw, sh.1, sh.2.1, sh.2.2.2.1, sh.2.2.2.2]
  by_cases b2 : b = 2
  · rw [if_pos (e2.mpr b2), if_pos b2]
    by_cases c1 : p < wN b
    · by_cases c2 : po = 0
      · rw [if_neg (fun z => z.elim (fun z => z c1) (fun z => by have := p1.mp z; omega)), if_pos ⟨c1, c2⟩, hx c1, nI_add]
      · rw [if_pos (Or.inr (p1.mpr (by omega))), if_neg (fun z => c2 z.2)]
    · rw [if_pos (Or.inl c1), if_neg (fun z => c1 z.1)]
  · rw [if_neg (fun z => b2 (e2.mp z)), if_neg b2]
    by_cases b4 : b = 4
    · rw [if_pos (e4.mpr b4), if_pos b4]
      by_cases c1 : p < wN b
      · rw [if_pos c1, if_pos c1]
      · rw [if_neg c1, if_neg c1]
        by_cases c2 : po = 1
        · rw [if_pos (p1.mpr c2), if_pos c2]
        · rw [if_neg (fun z => c2 (p1.mp z)), if_neg c2, pk_mul, pk_sub (by omega)]
    · rw [if_neg (fun z => b4 (e4.mp z)), if_neg b4]
      by_cases b5 : b = 5
      · rw [if_pos (e5.mpr b5), if_pos b5]
        by_cases c1 : p < wN b
        · rw [if_pos c1, if_pos c1]
          by_cases c2 : po = 1
          · rw [if_pos (p1.mpr c2), if_pos c2]
          · rw [if_neg (fun z => c2 (p1.mp z)), if_neg c2]
        · rw [if_neg c1, if_neg c1]
      · rw [if_neg (fun z => b5 (e5.mp z)), if_neg b5]
/-- the class' count of accesses is the model's -/
theorem accs_b {v : Nat} (ok : okSh b po ba r n) (sh : shH b po ba r n m) (shc : shH b po ba r n c) (hx : p < wN b → x = nI v) (h4 : c.P p 4 = m.P p 3) : accs c p x = alM m p x := by
  unfold alM
  rw [mAcc_b ok sh hx]
  obtain ⟨hb, hpo, hba, hr2, hr4, hn1, hn3, -⟩ := ok
  have hw := wrs_b (m := m) sh.1 hb
  have hcw := wrs_b (m := c) shc.1 hb
  have e5 : nI b = nI 5 ↔ b = 5 := nI_eq (by omega) (by omega)
  have e4 : nI b = nI 4 ↔ b = 4 := nI_eq (by omega) (by omega)
  have e2 : nI b = nI 2 ↔ b = 2 := nI_eq (by omega) (by omega)
  have e1 : nI b = nI 1 ↔ b = 1 := nI_eq (by omega) (by omega)
  have p1 : nI po = nI 1 ↔ po = 1 := nI_eq (by omega) (by omega)
  have p0 : nI po = 0 ↔ po = 0 := nI_eq (b := 0) (by omega) (by omega)
  unfold accs accN
  rw [hcw, hw, shc.1, shc.2.1, shc.2.2.2.1, shc.2.2.2.2, sh.1, sh.2.1, h4]
  by_cases b1 : b = 1
  · rw [if_pos (e1.mpr b1), if_neg (show ¬ b = 2 by omega), if_neg (show ¬ b = 4 by omega), if_neg (show ¬ b = 5 by omega)]
    by_cases c1 : p < wN b ∧ ¬ po = 1 ∧ x = m.P p 3
    · rw [if_pos ⟨c1.1, fun z => c1.2.1 (p1.mp z), c1.2.2⟩, if_pos ⟨⟨e1.mpr b1, c1.1, c1.2.2.symm⟩, p0.mpr (by omega)⟩]
    · rw [if_neg (fun z => c1 ⟨z.1, fun z2 => z.2.1 (p1.mpr z2), z.2.2⟩), if_neg (fun z => c1 ⟨z.1.2.1, fun z2 => by have := p0.mp z.2; omega, z.1.2.2.symm⟩)]
  · rw [if_neg (fun z => b1 (e1.mp z)), if_neg (show ¬ ((nI b = nI 1 ∧ p < wN b ∧ m.P p 3 = x) ∧ nI po = 0) from fun z => b1 (e1.mp z.1.1))]
    by_cases b2 : b = 2
    · rw [if_pos (e2.mpr b2), if_pos b2]
      by_cases c1 : p < wN b
      · by_cases c2 : po = 0
        · rw [if_pos ⟨c1, fun z => by have := p1.mp z; omega⟩, if_pos ⟨c1, c2⟩, hx c1, nI_add]
        · rw [if_neg (fun z => z.2 (p1.mpr (by omega))), if_neg (fun z => c2 z.2)]
      · rw [if_neg (fun z => c1 z.1), if_neg (fun z => c1 z.1)]
    · rw [if_neg (fun z => b2 (e2.mp z)), if_neg b2]
      by_cases b4 : b = 4
      · rw [if_pos (e4.mpr b4), if_pos b4]
        by_cases c1 : p < wN b
        · rw [if_pos c1, if_pos c1]
        · rw [if_neg c1, if_neg c1]
          by_cases c2 : po = 1
          · rw [if_pos (p1.mpr c2), if_pos c2]
          · rw [if_neg (fun z => c2 (p1.mp z)), if_neg c2, pk_mul, pk_sub (by omega)]
      · rw [if_neg (fun z => b4 (e4.mp z)), if_neg b4]
        by_cases b5 : b = 5
        · rw [if_pos (e5.mpr b5), if_pos b5]
          by_cases c1 : p < wN b
          · rw [if_pos c1, if_pos c1]
            by_cases c2 : po = 1
            · rw [if_pos (p1.mpr c2), if_pos c2]
            · rw [if_neg (fun z => c2 (p1.mp z)), if_neg c2]
          · rw [if_neg c1, if_neg c1]
        · rw [if_neg (fun z => b5 (e5.mp z)), if_neg b5]
/-- what holds of an act begun -/
theorem beg_I {v : Nat} (I : Iv b po ba r n t N m) (hp : p < wN b + n) (hu : m.P p 0 = -1) (hN7 : N < 7) (hv : v < r) (hx : p < wN b → x = nI v) :
    Iv b po ba r n (t + 1) (N + 1) (mBeg m p x) ∧ ∃ al, alM m p x = nI al ∧ al < 100 ∧ (al = 0 ∨ (0 < al ∧ al = accN b po r n p v)) := by
  have ht := tm_le I.1
  obtain ⟨⟨ok, sh, h6, hN, hC0, hA0, hS, hE, hPI, ⟨-, hev⟩, huw, hK⟩, h5⟩ := I
  have hb := ok.1
  have hw := wrs_b (m := m) sh.1 hb
  have hnp := np_le ok
  have hp5 : p < 5 := by omega
  have hal5 := acc_le (q := p) ok hv
  have hbm := bnd_m (b := b) (show t ≤ t + 1 by omega)
  have ia : ix (m.H 6) = N := by rw [h6, ix_nI (by omega)]
  have e1b : m.H 0 = nI 1 ↔ b = 1 := by rw [sh.1]; exact nI_eq (by omega) (by omega)
  have e3b : m.H 0 = nI 3 ↔ b = 3 := by rw [sh.1]; exact nI_eq (by omega) (by omega)
  have e4b : m.H 0 = nI 4 ↔ b = 4 := by rw [sh.1]; exact nI_eq (by omega) (by omega)
  obtain ⟨⟨⟨kp, gt, f3, k3, k3b, f4, k4, k4b⟩, f6, o, ho, f7, f8⟩, hz, -⟩ := hPI p hp5
  have hz := hz hu
  have hal : ∃ al, alM m p x = nI al ∧ ((al = 0 ∧ b = 1 ∧ p = 0) ∨ (0 < al ∧ al ≤ 5 ∧ al = accN b po r n p v)) := by
    unfold alM
    rw [mAcc_b ok sh hx, hw]
    by_cases c1 : (m.H 0 = nI 1 ∧ p < wN b ∧ m.P p 3 = x) ∧ m.H 1 = 0
    · rw [if_pos c1]
      refine ⟨0, rfl, Or.inl ⟨rfl, e1b.mp c1.1.1, ?_⟩⟩
      have h1 := e1b.mp c1.1.1
      have h2 := c1.1.2.1
      unfold wN at h2
      rw [if_neg (by omega)] at h2
      omega
    · rw [if_neg c1]
      exact ⟨_, rfl, Or.inr ⟨by omega, by omega, rfl⟩⟩
  obtain ⟨al, eal, hal⟩ := hal
  have hkp : ∃ kp', kpM m p x = nI kp' ∧ kp' < bnd b (t + 1) ∧ (p < wN b → 3 ≤ b → kp' ≤ t + 1) := by
    unfold kpM
    rw [hw, f3]
    by_cases c1 : p < wN b
    · rw [if_pos c1]
      by_cases d1 : b = 1
      · rw [if_pos (e1b.mpr d1), hx c1]
        refine ⟨v, rfl, ?_, fun _ z => by omega⟩
        rw [bnd_lo (by omega)]
        have := ok.2.2.2.2.1
        omega
      · rw [if_neg (fun z => d1 (e1b.mp z))]
        by_cases d3 : b = 3 ∨ b = 4
        · rw [if_pos (d3.imp e3b.mpr e4b.mpr), nI_add]
          have := k3b c1 (by omega)
          refine ⟨kp + 1, rfl, ?_, fun _ _ => by omega⟩
          rw [bnd_hi (by omega)]
          omega
        · rw [if_neg (fun z => d3 (z.imp e3b.mp e4b.mp))]
          exact ⟨kp, rfl, by omega, fun z1 z2 => by have := k3b z1 z2; omega⟩
    · rw [if_neg c1]
      exact ⟨kp, rfl, by omega, fun z => absurd z c1⟩
  obtain ⟨kp', ekp, hkp1, hkp2⟩ := hkp
  refine ⟨?_, al, eal, by omega, hal.imp (fun z => z.1) (fun z => ⟨z.1, z.2.2⟩)⟩
  have B0 := mB_A0 (m := m) (p := p) (x := x)
  have B1 := mB_A1 (m := m) (p := p) (x := x)
  have B2 := mB_A2 (m := m) (p := p) (x := x)
  have B3 := mB_A3 (m := m) (p := p) (x := x)
  have B4 := mB_A4 (m := m) (p := p) (x := x)
  have Bn : ∀ a k, ¬ a = N → (mBeg m p x).A a k = m.A a k := fun a k h => mB_An (by rw [ia]; exact h)
  rw [ia] at B0 B1 B2 B3 B4
  rw [hw] at B1
  rw [h5] at B2
  have mH : ∀ k, k < 5 → (mBeg m p x).H k = m.H k := fun k hk => by
    rw [mB_H, sH_H, if_neg (by omega), sH_H, if_neg (by omega)]
  have mH5 : (mBeg m p x).H 5 = nI (t + 1) := by rw [mB_H, sH_H, if_pos rfl, h5, nI_add]
  have mH6 : (mBeg m p x).H 6 = nI (N + 1) := by rw [mB_H, sH_H, if_neg (by decide), sH_H, if_pos rfl, h6, nI_add]
  have P0 : (mBeg m p x).P p 0 = nI N := mB_P0.trans h6
  have hun : ¬ nI N = -1 := nI_nm1 (by omega)
  have Pn : ∀ q k, ¬ q = p → (mBeg m p x).P q k = m.P q k := fun q k h => mB_Pn h
  have P1 := mB_P1 (m := m) (p := p) (x := x)
  have P2 := mB_P2 (m := m) (p := p) (x := x)
  have P3 := mB_P3 (m := m) (p := p) (x := x)
  have P4 := mB_P4 (m := m) (p := p) (x := x)
  have P5 := mB_P5 (m := m) (p := p) (x := x)
  have P7 := mB_P7 (m := m) (p := p) (x := x)
  have P6 : (mBeg m p x).P p 6 = m.P p 6 := mB_Pk (by decide) (by decide) (by decide) (by decide) (by decide) (by decide) (by decide)
  have mC := mB_C (m := m) (p := p) (x := x)
  rw [ekp] at P3
  rw [eal] at P5
  generalize mBeg m p x = m' at *
  have own : ∀ a, a < N → ∀ q, q < 5 → ¬ q = p → m.P q 0 = nI a → ix (m.P q 0) = a := fun a ha q _ _ e => by rw [e, ix_nI (by omega)]
  have pd : ∀ i, i < 5 → ¬ i = p → ∀ d, pend m' i d → pend m i d := by
    intro i hi e d hd
    have hu' : ¬ m.P i 0 = -1 := by rw [← Pn i 0 e]; exact hd.1
    obtain ⟨-, a2, ha2, e2, -⟩ := (hPI i hi).2.2 hu'
    refine pend_c (m := m) mH (fun k _ => Pn i k e) (Bn _ _ ?_) hd
    rw [e2, ix_nI (by omega)]
    omega
  refine ⟨⟨ok, ⟨by rw [mH 0 (by omega)]; exact sh.1, by rw [mH 1 (by omega)]; exact sh.2.1, by rw [mH 2 (by omega)]; exact sh.2.2.1, by rw [mH 3 (by omega)]; exact sh.2.2.2.1, by rw [mH 4 (by omega)]; exact sh.2.2.2.2⟩, mH6, by omega, fun d hd => by rw [mC]; exact Ix_m hbm (hC0 d hd), ?_, ?_, ?_, ?_, ⟨Nat.le_refl _, ?_⟩, ?_, ?_⟩, mH5⟩
  · intro a ha
    by_cases e : a = N
    · subst e
      refine ⟨p, hp, B0, fun z => ⟨v, hv, by rw [B1, if_pos z]; exact hx z⟩, fun z => by rw [B1, if_neg z], t, by omega, B2, Or.inl ⟨B3, B4, P0⟩⟩
    · obtain ⟨q, hq, g0, g1, g2, s, hs, g3, g4⟩ := hA0 a (by omega)
      refine ⟨q, hq, (Bn a 0 e).trans g0, by rw [Bn a 1 e]; exact g1, by rw [Bn a 1 e]; exact g2, s, by omega, (Bn a 2 e).trans g3, ?_⟩
      rw [Bn a 3 e, Bn a 4 e]
      rcases g4 with ⟨y1, y2, y3⟩ | ⟨e1, y1, y2, y3, y4⟩
      · have hqp : ¬ q = p := fun z => by
          rw [z, hu] at y3
          exact nI_nm1 (by omega) y3.symm
        exact Or.inl ⟨y1, y2, by rw [Pn q 0 hqp]; exact y3⟩
      · exact Or.inr ⟨e1, y1, by omega, y3, y4⟩
  · intro y hy z hzy hzz
    have zN : ¬ z = N := by omega
    by_cases e : y = N
    · subst e
      rw [Bn z 0 zN, B0] at hzz
      obtain ⟨q, hq, g0, g1, g2, s, hs, g3, g4⟩ := hA0 z (by omega)
      have hqp : q = p := (nI_eq (by omega) (by omega)).mp (g0.symm.trans hzz)
      rcases g4 with ⟨y1, y2, y3⟩ | ⟨e1, y1, y2, y3, y4⟩
      · rw [hqp, hu] at y3
        exact absurd y3.symm (nI_nm1 (by omega))
      · have e3 : (hyM m').E z = nI e1 := (Bn z 3 zN).trans y3
        have e4 : (hyM m').S y = nI t := B2
        refine ⟨?_, ?_⟩
        · rw [e3]; exact nI_nm1 (by omega)
        · rw [e3, e4]; exact nI_lt y2 (by omega)
    · rw [Bn z 0 zN, Bn y 0 e] at hzz
      have h := hS y (by omega) z hzy hzz
      have e3 : (hyM m').E z = (hyM m).E z := Bn z 3 zN
      have e4 : (hyM m').S y = (hyM m).S y := Bn y 2 e
      unfold hAh
      rw [e3, e4]
      exact h
  · intro y hy z hzz
    by_cases e : z = N
    · subst e
      rw [B2]
      by_cases e2 : y = z
      · subst e2
        rw [B3]
        exact fun h => nI_nm1 (by omega) h.symm
      · rw [Bn y 3 e2]
        obtain ⟨q, hq, g0, g1, g2, s, hs, g3, g4⟩ := hA0 y (by omega)
        rcases g4 with ⟨y1, -⟩ | ⟨e1, y1, y2, y3, y4⟩
        · rw [y1]; exact fun h => nI_nm1 (by omega) h.symm
        · rw [y3]; exact nI_n (by omega) (by omega) (by omega)
    · rw [Bn z 2 e]
      by_cases e2 : y = N
      · subst e2
        rw [B3]
        obtain ⟨q, hq, g0, g1, g2, s, hs, g3, g4⟩ := hA0 z (by omega)
        rw [g3]
        exact fun h => nI_nm1 (by omega) h.symm
      · rw [Bn y 3 e2]
        exact hE y (by omega) z (by omega)
  · intro q hq
    by_cases e : q = p
    · subst e
      refine ⟨⟨⟨kp', 0, P3, hkp1, hkp2, P4, ?_, fun _ _ _ z4 => ?_⟩, by rw [P6]; exact Ix_m hbm f6, 0, by omega, P7, fun i hi => by omega⟩, fun z => ?_, fun _ => ⟨hp, N, by omega, P0, B0, B3, B4, v, hv, fun z => by rw [B1, if_pos z]; exact hx z, fun z => by rw [B1, if_neg z], 0, al, 0, P1, P5, P2, by omega, fun _ => rfl, ?_⟩⟩
      · unfold bnd
        split <;> omega
      · exact Nat.zero_le _
      · rw [P0] at z; exact absurd z hun
      · rcases hal with ⟨y1, y2, y3⟩ | ⟨y1, y2, y3⟩
        · exact Or.inl ⟨y1, y2, y3, rfl, rfl⟩
        · exact Or.inr ⟨fun _ => y1, by omega, y3, fun z => by omega⟩
    · obtain ⟨g1, g2, g3⟩ := hPI q hq
      refine ⟨PV_m g1 (by omega) (fun k _ _ _ => Pn q k e) (Or.inr ⟨Pn q 0 e, Pn q 1 e⟩), by rw [Pn q 0 e, Pn q 1 e, Pn q 2 e]; exact g2, ?_⟩
      rw [Pn q 0 e]
      intro z
      obtain ⟨y1, a2, y2, y3, y4, y5, y6, v2, y7, y8, y9, k2, al2, g2', y10, y11, y12, y13, y14, y15⟩ := g3 z
      have hna : ¬ a2 = N := by omega
      exact ⟨y1, a2, by omega, (Pn q 0 e).trans y3, (Bn a2 0 hna).trans y4, (Bn a2 3 hna).trans y5, (Bn a2 4 hna).trans y6, v2, y7, fun w => (Bn a2 1 hna).trans (y8 w), fun w => (Bn a2 1 hna).trans (y9 w), k2, al2, g2', (Pn q 1 e).trans y10, (Pn q 5 e).trans y11, (Pn q 2 e).trans y12, y13, y14, y15⟩
  · have hs := sum5_eq (f := evm ba m) (f' := evm ba m') p hp5 (fun q hq e => evm_c (Pn q 0 e) (Pn q 1 e) (Pn q 2 e) (Pn q 5 e))
    have e0 : evm ba m p = 0 := by
      unfold evm
      rw [if_pos hu]
    have e1 : evm ba m' p ≤ 10 := by
      unfold evm
      rw [P0, P1, P2, P5, ix_nI (by omega), ix_nI (by omega)]
      simp only [hun, if_false]
      split
      · omega
      · split <;> omega
    omega
  · have hs := sum5_eq (f := uwm m) (f' := uwm m') p hp5 (fun q hq e => uwm_c (Pn q 0 e))
    have e1 : uwm m' p = 1 := by
      unfold uwm
      rw [P0, if_neg hun]
    omega
  · intro q hq z1 z2 z3
    by_cases e : q = p
    · subst e
      rw [P2] at z2
      exact absurd z2 (by decide)
    · rw [Pn q 0 e] at z1
      rw [Pn q 2 e] at z2
      obtain ⟨-, a2, ha2, e2, -⟩ := (hPI q hq).2.2 z1
      have hA' : m'.A (ix (m.P q 0)) 1 = m.A (ix (m.P q 0)) 1 := Bn _ _ (by rw [e2, ix_nI (by omega)]; omega)
      have cw := mWt_c (m := m) (m' := m') (q := q) mH (Pn q 1 e) (Pn q 5 e)
      have cc := mCel_c (m := m) (m' := m') (q := q) mH (Pn q 0 e) (Pn q 1 e) (Pn q 5 e) hA'
      obtain ⟨y, hy, hs⟩ := hK q hq z1 z2 (fun z => z3 (cw.mpr z))
      refine ⟨fun i => if i = p then y p + 1 else y i, fun i hi ei hd => ?_, ?_⟩
      · dsimp only
        by_cases ep : i = p
        · rw [if_pos ep]; omega
        · rw [if_neg ep]
          rw [cc] at hd
          exact hy i hi ei (pd i hi ep _ hd)
      · have hh := sum5_eq (f := y) (f' := fun i => if i = p then y p + 1 else y i) p hp5 (fun i hi ei => if_neg ei)
        rw [if_pos rfl] at hh
        rw [Pn q 7 e]
        omega
end FF
