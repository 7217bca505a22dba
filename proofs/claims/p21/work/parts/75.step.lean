/-! ANY STEP: the class' and the model's go together -/
section FF
variable {b po ba r n t u N p j : Nat} {m c : Sx}
theorem step_all (I : Iv b po ba r n t N m) (R : Rl c m) (hp : p < 5) (hu : ¬ m.P p 0 = -1) (hj : j < 2147483648) (hch : nI j < mChs m p) :
    Iv b po ba r n (t + 1) N (mStp m p (wN b + n) (nI j)) ∧ Rl (goC c p (nI j)) (mStp m p (wN b + n) (nI j)) ∧ (goE c p (nI j) ↔ (mStp m p (wN b + n) (nI j)).P p 0 = -1) ∧
    mPre m p (wN b + n) ∧ Ix 7 (c.P p 0) ∧ (0 < c.P p 5 → Ix 9 (c.P p 3)) ∧ j < 8 := by
  have ht := tm_le I.1
  have I' := I
  have R' := R
  obtain ⟨⟨ok, sh, h6, hN, hC0, hA0, hS, hE, hPI, ⟨-, hev⟩, huw, hK⟩, h5⟩ := I
  obtain ⟨⟨⟨kp, gt, f3, k3, k3b, f4, k4, k4b⟩, f6, o, ho, e7, e8⟩, -, hPU⟩ := hPI p hp
  obtain ⟨hpn, a, ha, e0, ea0, ea3, ea4, v, hv, ev1, ev2, k, al, g, e1, e5, e2, hg2, hgb, hx⟩ := hPU hu
  have hal5 := acc_le (q := p) ok hv
  have hb := ok.1
  have hba := ok.2.2.1
  have hval := val_b e0 (by omega : a < 1000) ev1
  have hnp := np_le ok
  obtain ⟨⟨RH, RCe, RAc⟩, RPq⟩ := R
  obtain ⟨⟨r0, r1, r2, r4⟩, rb, rc, rd⟩ := RPq p hp
  obtain ⟨rc5, rc50, rc3⟩ := rc.2 hu
  have ec0 : Ix 7 (c.P p 0) := by rw [r0]; exact ⟨a, by omega, e0⟩
  have ics : ∀ q, q < 5 → ¬ m.P q 0 = -1 → Ix 7 (m.P q 0) := by
    intro q hq z
    obtain ⟨-, a2, ha2, e, -⟩ := (hPI q hq).2.2 z
    exact ⟨a2, by omega, e⟩
  have hprc := prcs_b sh hb
  have hww := wrs_b (m := m) sh.1 hb
  by_cases hz : m.P p 5 = nI 0
  · -- no accesses
    have hz0 : m.P p 5 = 0 := hz
    have hal0 : al = 0 := by
      rw [e5] at hz
      exact (nI_eq (by rcases hx with hx | hx <;> omega) (by omega)).mp hz
    have hx := hx.resolve_right (fun z => by omega)
    obtain ⟨-, hb1, hp0, hk0, hg0⟩ := hx
    have hpw : p < wN b := by
      have := wN_1 (b := b)
      omega
    have g2' : m.P p 2 = nI 0 := by rw [e2, hg0]
    have e1' : m.P p 1 = nI 0 := by rw [e1, hk0]
    have eM : mStp m p (wN b + n) (nI j) = (mEnd m p (-1)).sH 5 ((mEnd m p (-1)).H 5 + nI 1) := by
      unfold mStp mStA
      rw [if_pos hz0]
    have gB : goB c p (nI j) = c := by
      unfold goB
      rw [rc5, hz, if_neg (by decide)]
    have le : (goB c p (nI j)).P p 5 ≤ (goB c p (nI j)).P p 1 := by
      rw [gB, rc5, hz, r1, e1']
      exact Int32.le_refl _
    have eC : goC c p (nI j) = tick (fini c p) := by
      unfold goC
      rw [if_pos le, gB]
    rw [eM, eC]
    refine ⟨end_I2 I' hp hu hz (fun z => absurd hpw z), fin_R ⟨RH, RCe, RAc⟩ (fun q hq _ => RPq q hq) ⟨r0, r1, r2, r4⟩ (rc50 hz) g2' ?_, ⟨fun _ => by rw [sH_Px, mE_P0], fun _ => le⟩, ⟨ics p hp hu, ⟨o, by omega, e7⟩, fun z => absurd hz0 z, hnp, hprc, ics, ?_⟩, ec0, ?_, ?_⟩
    · rw [hww, if_pos hpw, e0, ix_nI (by omega)]
      exact ⟨rfl, ea4⟩
    · intro z
      exact absurd hz0 z
    · intro z
      rw [rc5, hz] at z
      exact absurd z (by decide)
    · have hbg : ¬ mBg m p := fun z => by
        have := z.2
        rw [g2'] at this
        exact absurd this (by decide)
      unfold mChs at hch
      rw [if_neg hu, if_pos (Or.inl hbg)] at hch
      have := (nI_ltI hj (by omega)).mp hch
      omega
  · have hz0 : ¬ m.P p 5 = 0 := hz
    have hx := hx.resolve_left (fun z => hz (by rw [e5, z.1]))
    obtain ⟨hk, -, hal, -⟩ := hx
    have hk := hk (by omega)
    have hcel := cel_b ok sh hpn hv hval e1 e5 hk hal
    obtain ⟨rcc, rc7, rcn⟩ := rc3 hz
    have hpl : 0 < c.P p 5 := by
      rw [rc5, e5]
      exact nI_lt (a := 0) (by omega) (by omega)
    have i9 : 0 < c.P p 5 → Ix 9 (c.P p 3) := fun _ => ⟨_, hcel.2, rcc.trans hcel.1⟩
    have i10 : ¬ m.P p 5 = 0 → Ix 10 (mCel m p) := fun _ => ⟨_, by have := hcel.2; omega, hcel.1⟩
    have eba : m.H 2 < nI 2 ↔ ¬ ba = 2 := by
      rw [sh.2.2.1]
      constructor
      · intro z z2
        have := (nI_ltI (by omega) (by omega)).mp z
        omega
      · intro z
        exact nI_lt (by omega) (by omega)
    have cba : c.H 2 = nI 2 ↔ ba = 2 := by
      rw [RH 2 (by omega), sh.2.2.1]
      exact nI_eq (by omega) (by omega)
    have c20 : c.P p 2 = 0 ↔ g = 0 := by
      rw [r2, e2]
      exact nI_eq (b := 0) (by omega) (by omega)
    have m20 : m.P p 2 = 0 ↔ g = 0 := by
      rw [e2]
      exact nI_eq (b := 0) (by omega) (by omega)
    by_cases hbg : ¬ ba = 2 ∧ g = 0
    · -- an access begins
      have g2' : m.P p 2 = nI 0 := by rw [e2, hbg.2]
      obtain ⟨s1, s2, s3, s4, s5⟩ := step_b I' R' hp hu hz g2' hbg.1
      have eM : mStp m p (wN b + n) (nI j) = (mBgA m p (wN b + n)).sH 5 ((mBgA m p (wN b + n)).H 5 + nI 1) := by
        unfold mStp mStA
        rw [if_neg hz0, if_pos ⟨eba.mpr hbg.1, m20.mpr hbg.2⟩]
      have gB : goB c p (nI j) = bgA c p := by
        unfold goB
        rw [if_pos hpl, if_pos ⟨fun z => hbg.1 (cba.mp z), c20.mpr hbg.2⟩]
      have eC : goC c p (nI j) = tick (bgA c p) := by
        unfold goC
        rw [gB, if_neg s3]
      rw [eM, eC]
      refine ⟨s1, s2, ⟨fun z => ?_, fun z => ?_⟩, ⟨ics p hp hu, ⟨o, by omega, e7⟩, i10, hnp, hprc, ics, fun _ _ => s5⟩, ec0, i9, ?_⟩
      · unfold goE at z
        rw [gB] at z
        exact absurd z s3
      · rw [sH_Px, s4] at z
        exact absurd z hu
      · have hb' : ¬ mBg m p := fun z => by
          have := z.2
          rw [g2'] at this
          exact absurd this (by decide)
        unfold mChs at hch
        rw [if_neg hu, if_pos (Or.inl hb')] at hch
        have := (nI_ltI hj (by omega)).mp hch
        omega
    · have hg : m.P p 2 = nI 1 ∨ ba = 2 := by
        by_cases z : ba = 2
        · exact Or.inr z
        · have : g = 1 := by
            by_cases z2 : g = 0
            · exact absurd ⟨z, z2⟩ hbg
            · omega
          exact Or.inl (by rw [e2, this])
      have nbeg : ¬ (m.H 2 < nI 2 ∧ m.P p 2 = 0) := fun z => hbg ⟨eba.mp z.1, m20.mp z.2⟩
      have pre : mPre m p (wN b + n) := ⟨ics p hp hu, ⟨o, by omega, e7⟩, i10, hnp, hprc, ics, fun _ z => absurd z nbeg⟩
      have gB : goB c p (nI j) = prep (((goA c p (nI j)).sP p 2 (nI 0)).sP p 1 ((goA c p (nI j)).P p 1 + nI 1)) p := by
        unfold goB
        rw [if_pos hpl, if_neg (fun z => hbg ⟨fun z2 => z.1 (cba.mpr z2), c20.mp z.2⟩)]
      by_cases hw : mWt m p
      · -- a write ends
        obtain ⟨s1, s2, s3⟩ := step_w I' R' hp hu hz hw hg
        have c7 : ¬ c.P p 7 = nI 1 := by
          rw [rc7]
          unfold b2
          rw [if_neg (fun z => z hw)]
          decide
        have gA : goA c p (nI j) = putD c p := if_neg c7
        rw [gA] at gB
        have eM : mStp m p (wN b + n) (nI j) = (mEw m p).sH 5 ((mEw m p).H 5 + nI 1) := by
          unfold mStp mStA
          rw [if_neg hz0, if_neg nbeg, if_pos hw]
        rw [eM]
        unfold goC goE
        rw [gB]
        refine ⟨s1, s2, s3, pre, ec0, i9, ?_⟩
        unfold mChs at hch
        rw [if_neg hu, if_pos (Or.inr (Or.inl hw))] at hch
        have := (nI_ltI hj (by omega)).mp hch
        omega
      · -- a read ends
        obtain ⟨s1, s2, s3, s4⟩ := step_r I' R' hp hu hz hw hg hj hch
        have c7 : c.P p 7 = nI 1 := by
          rw [rc7]
          exact if_pos hw
        have gA : goA c p (nI j) = tkIn c p (numG c p (nI j)) := if_pos c7
        rw [gA] at gB
        have eM : mStp m p (wN b + n) (nI j) = (mEr m p (nI j)).sH 5 ((mEr m p (nI j)).H 5 + nI 1) := by
          unfold mStp mStA
          rw [if_neg hz0, if_neg nbeg, if_neg hw]
        rw [eM]
        unfold goC goE
        rw [gB]
        exact ⟨s1, s2, s3, pre, ec0, i9, s4⟩
end FF
