/-! the step that ends a read -/
section FF
variable {b po ba r n t u N p : Nat} {m c : Sx} {x : Int32}
theorem ddl_pos {f : Nat → Int32} : ∀ k, 0 < (ddl f (k + 1)).length
  | 0 => by
    rw [ddl, ddl, if_neg (by simp)]
    exact Nat.zero_lt_one
  | k + 1 => by
    have ih := ddl_pos (f := f) k
    rw [ddl]
    split
    · exact ih
    · rw [List.length_append]; omega
theorem ddl_1 {f : Nat → Int32} : ddl f 1 = [f 0] := by
  rw [ddl, ddl, if_neg (by simp)]
  rfl
/-- what a read gets is the same in both -/
theorem got_b {k al g j : Nat} (I : Iv b po ba r n t N m) (R : Rl c m) (hp : p < 5) (hu : ¬ m.P p 0 = -1) (hz : ¬ m.P p 5 = nI 0) (hw : ¬ mWt m p) (hg : m.P p 2 = nI 1 ∨ ba = 2) (hC : ∃ d, d < 9 ∧ mCel m p = nI d) (hj : j < 2147483648) (hch : nI j < mChs m p) :
    numG c p (nI j) = mGot m p (nI j) ∧ Ix (bnd b t) (mGot m p (nI j)) ∧ j < 8 := by
  have ht := tm_le I.1
  obtain ⟨⟨ok, sh, h6, hN, hC0, hA0, hS, hE, hPI, ⟨-, hev⟩, huw, hK⟩, h5⟩ := I
  obtain ⟨⟨RH, RCe, RAc⟩, RPq⟩ := R
  obtain ⟨⟨r0, r1, r2, r4⟩, rb, rc, rd⟩ := RPq p hp
  obtain ⟨-, -, rc3⟩ := rc.2 hu
  obtain ⟨rcc, rc7, rcn⟩ := rc3 hz
  obtain ⟨⟨⟨kp, gt, e3, k3, k3b, e4, k4, k4b⟩, e6, o, ho, e7, e8⟩, -, -⟩ := hPI p hp
  obtain ⟨hb, hpo, hba, hr2, hr4, hn1, hn3, -, hb3, hb4, hb5⟩ := ok
  have eba2 : m.H 2 = nI 2 ↔ ba = 2 := by rw [sh.2.2.1]; exact nI_eq (by omega) (by omega)
  have eba1 : m.H 2 = nI 1 ↔ ba = 1 := by rw [sh.2.2.1]; exact nI_eq (by omega) (by omega)
  have eba0 : m.H 2 = nI 0 ↔ ba = 0 := by rw [sh.2.2.1]; exact nI_eq (by omega) (by omega)
  unfold numG mGot
  unfold mChs at hch
  rw [RH 2 (by omega)]
  rw [if_neg hu] at hch
  by_cases c2 : ba = 2
  · rw [if_pos (eba2.mpr c2), if_pos (eba2.mpr c2), rcc]
    obtain ⟨d, hd, ed⟩ := hC
    rw [ed, ix_nI (by omega)]
    refine ⟨RCe d hd, hC0 d (by omega), ?_⟩
    by_cases cn : ¬ mBg m p ∨ mWt m p ∨ m.P p 7 = 0
    · rw [if_pos cn] at hch
      have := (nI_ltI hj (by omega)).mp hch
      omega
    · rw [if_neg cn, if_neg (fun z => by have := eba1.mp z; omega)] at hch
      split at hch
      · have := (nI_ltI hj (by omega)).mp hch
        omega
      · rw [sh.2.2.2.1] at hch
        have := (nI_ltI hj (by omega)).mp hch
        omega
  · rw [if_neg (fun z => c2 (eba2.mp z)), if_neg (fun z => c2 (eba2.mp z))]
    have g1 := hg.resolve_right c2
    obtain ⟨d9, d10, dl⟩ := rd hu g1 hw
    have hbg : mBg m p := ⟨hu, g1⟩
    have hio : ix (m.P p 7) = o := by rw [e7, ix_nI (by omega)]
    by_cases o0 : o = 0
    · subst o0
      have e70 : m.P p 7 = 0 := e7
      rw [if_pos (Or.inr (Or.inr e70))] at hch
      have hj0 : j = 0 := by
        have := (nI_ltI hj (by omega)).mp hch
        omega
      subst hj0
      have hd : mDd m p = [m.P p 6] := by
        unfold mDd
        rw [hio, ddl_1]
        rfl
      have l0 := dl 0 (m.P p 6) (by rw [hd]; rfl)
      rw [if_pos e70, d9, if_neg (fun z => by
        have h := z.2
        unfold b2 at h
        rw [if_neg (fun z => z e70)] at h
        revert h
        decide)]
      exact ⟨l0, e6, by omega⟩
    · have n70 : ¬ m.P p 7 = 0 := by
        rw [e7]
        exact nI_ne0 (by omega) (by omega)
      have d91 : b2 (¬ m.P p 7 = 0) = nI 1 := if_pos n70
      rw [if_neg (fun z => z.elim (fun z => z hbg) (fun z => z.elim hw n70))] at hch
      rw [if_neg n70, d9, d91]
      by_cases c1 : ba = 1
      · rw [if_pos (eba1.mpr c1)] at hch ⊢
        rw [if_neg (fun z => by have := eba0.mp z.1; omega)]
        have hlen := ddl_len (f := mNum m p) (ix (m.P p 7) + 1)
        have hlen2 : (mDd m p).length ≤ 7 := by
          unfold mDd
          omega
        unfold mReg at hch
        rw [if_pos (by decide)] at hch
        have hjl := (nI_ltI hj (by omega)).mp hch
        unfold mReg
        rw [if_neg (nI_pos hj)]
        unfold fnd
        rw [if_neg (nI_pos hj), ix_nI hj, List.getElem?_eq_getElem hjl]
        have dj := dl j _ (List.getElem?_eq_getElem hjl)
        refine ⟨dj, ?_, by omega⟩
        have hm : (mDd m p)[j] ∈ mDd m p := List.getElem_mem hjl
        unfold mDd at hm
        rw [ddl_mem] at hm
        obtain ⟨i, hi, ei⟩ := hm
        show Ix (bnd b t) (mDd m p)[j]
        unfold mDd
        rw [← ei]
        unfold mNum
        split
        · exact e6
        · have := e8 (i - 1) (by omega)
          rwa [show 8 + (i - 1) = 7 + i by omega] at this
      · have c0 : ba = 0 := by omega
        rw [if_neg (fun z => c1 (eba1.mp z))] at hch ⊢
        rw [if_pos ⟨eba0.mpr c0, rfl⟩]
        have hb2 : b < 3 := by omega
        have hj4 : j < 4 := by
          split at hch
          · have := (nI_ltI hj (by omega)).mp hch
            omega
          · rw [sh.2.2.2.1] at hch
            have := (nI_ltI hj (by omega)).mp hch
            omega
        exact ⟨rfl, ⟨j, by rw [bnd_lo hb2]; omega, rfl⟩, by omega⟩
theorem step_r {j : Nat} (I : Iv b po ba r n t N m) (R : Rl c m) (hp : p < 5) (hu : ¬ m.P p 0 = -1) (hz : ¬ m.P p 5 = nI 0) (hw : ¬ mWt m p) (hg : m.P p 2 = nI 1 ∨ ba = 2) (hj : j < 2147483648) (hch : nI j < mChs m p) :
    Iv b po ba r n (t + 1) N ((mEr m p (nI j)).sH 5 ((mEr m p (nI j)).H 5 + nI 1)) ∧
    Rl (if (prep (((tkIn c p (numG c p (nI j))).sP p 2 (nI 0)).sP p 1 ((tkIn c p (numG c p (nI j))).P p 1 + nI 1)) p).P p 5 ≤ (prep (((tkIn c p (numG c p (nI j))).sP p 2 (nI 0)).sP p 1 ((tkIn c p (numG c p (nI j))).P p 1 + nI 1)) p).P p 1 then tick (fini (prep (((tkIn c p (numG c p (nI j))).sP p 2 (nI 0)).sP p 1 ((tkIn c p (numG c p (nI j))).P p 1 + nI 1)) p) p) else tick (prep (((tkIn c p (numG c p (nI j))).sP p 2 (nI 0)).sP p 1 ((tkIn c p (numG c p (nI j))).P p 1 + nI 1)) p)) ((mEr m p (nI j)).sH 5 ((mEr m p (nI j)).H 5 + nI 1)) ∧
    ((prep (((tkIn c p (numG c p (nI j))).sP p 2 (nI 0)).sP p 1 ((tkIn c p (numG c p (nI j))).P p 1 + nI 1)) p).P p 5 ≤ (prep (((tkIn c p (numG c p (nI j))).sP p 2 (nI 0)).sP p 1 ((tkIn c p (numG c p (nI j))).P p 1 + nI 1)) p).P p 1 ↔ ((mEr m p (nI j)).sH 5 ((mEr m p (nI j)).H 5 + nI 1)).P p 0 = -1) ∧ j < 8 := by
  have ht := tm_le I.1
  have I' := I
  have R' := R
  obtain ⟨⟨ok, sh, h6, hN, hC0, hA0, hS, hE, hPI, ⟨-, hev⟩, huw, hK⟩, h5⟩ := I
  obtain ⟨hPV, -, hPU⟩ := hPI p hp
  obtain ⟨⟨kp, gt, e3, k3, k3b, e4, k4, k4b⟩, e6, o, ho, e7, e8⟩ := hPV
  obtain ⟨hpn, a, ha, e0, ea0, ea3, ea4, v, hv, ev1, ev2, k, al, g, e1, e5, e2, hg2, hgb, hx⟩ := hPU hu
  have hx := hx.resolve_left (fun z => hz (by rw [e5, z.1]))
  obtain ⟨hk, -, hal, -⟩ := hx
  have hk := hk (by omega)
  have hal5 := acc_le (q := p) ok hv
  have hval := val_b e0 (by omega : a < 1000) ev1
  have hcel := cel_b ok sh hpn hv hval e1 e5 hk hal
  have hwt := wt_b (q := p) ok sh e1 e5 (by omega) (by omega) (by omega)
  have hg1 : g = 1 ∨ ba = 2 ∧ g = 0 := by
    rcases hg with hg | hg
    · rw [e2] at hg
      exact Or.inl ((nI_eq (by omega) (by omega)).mp hg)
    · exact Or.inr ⟨hg, hgb hg⟩
  have hb := ok.1
  have hbm := bnd_m (b := b) (show t ≤ t + 1 by omega)
  have e5b : m.H 0 = nI 5 ↔ b = 5 := by rw [sh.1]; exact nI_eq (by omega) (by omega)
  have e4b : m.H 0 = nI 4 ↔ b = 4 := by rw [sh.1]; exact nI_eq (by omega) (by omega)
  have hww := wrs_b (m := m) sh.1 hb
  obtain ⟨hgot, hgx, hj8⟩ := got_b (k := k) (al := al) (g := g) I' R' hp hu hz hw hg ⟨_, hcel.2, hcel.1⟩ hj hch
  rw [hgot]
  generalize hX : mGot m p (nI j) = X at hgot hgx
  obtain ⟨y, hy, ey⟩ := hgx
  obtain ⟨⟨RH, RCe, RAc⟩, RPq⟩ := R
  obtain ⟨⟨r0, r1, r2, r4⟩, rb, rc, rd⟩ := RPq p hp
  obtain ⟨rc5, -, rc3⟩ := rc.2 hu
  have rb := rb hu
  have shc : shH b po ba r n c := ⟨(RH 0 (by omega)).trans sh.1, (RH 1 (by omega)).trans sh.2.1, (RH 2 (by omega)).trans sh.2.2.1, (RH 3 (by omega)).trans sh.2.2.2.1, (RH 4 (by omega)).trans sh.2.2.2.2⟩
  obtain ⟨kp', gt', pl, s3, kb', k3b', s4, gb', k4b', t4, t64, t65, t5, hend⟩ := rd_b (c := c) (x := X) ok sh shc ht hpn hv hk hal (fun z => hw (hwt.mpr z)) e1 e5 e3 k3 k3b e4 k4 ey hy (r1.trans e1) (r4.trans e3) (rc5.trans e5) (fun z1 z2 => by rw [rb.1 (e4b.mpr z1) (by rw [hww]; exact z2), e3, e4]) (fun z => by rw [rb.2 (e5b.mpr z), e4])
  have hmE : mEr m p (nI j) = if mTr m p X = -1 then mSr m p X else mEnd (mSr m p X) p (mTr m p X) := by
    rw [mEr_eq, hX]
  have m1_1 : (mSr m p X).P p 1 = nI (k + 1) := by rw [mSr_1, e1, nI_add]
  have m1_5 : (mSr m p X).P p 5 = nI al := by rw [mSr_k (by omega) (by omega) (by omega) (by omega), e5]
  have m1_0 : (mSr m p X).P p 0 = m.P p 0 := mSr_k (by omega) (by omega) (by omega) (by omega)
  have m1V : PV b n (t + 1) (mSr m p X) p := by
    refine ⟨⟨kp', gt', s3, by omega, fun z1 z2 => by have := k3b' z1 z2; omega, s4, by omega, fun z1 z2 _ z4 => k4b' z1 z2 (by rw [m1_1, ix_nI (by omega)] at z4; exact z4)⟩, by rw [mSr_k (by omega) (by omega) (by omega) (by omega)]; exact Ix_m hbm e6, o, ho, by rw [mSr_k (by omega) (by omega) (by omega) (by omega)]; exact e7, fun i hi => by rw [mSr_k (by omega) (by omega) (by omega) (by omega)]; exact Ix_m hbm (e8 i hi)⟩
  have I1 : Iv0 b po ba r n t (t + 1) N p (mSr m p X) :=
    acc_I I' hp hpn ha e0 ea0 ea3 ea4 hv ev1 ev2 e1 e5 e2 hk hal hg1 (fun k => by rw [mSr_H]) mSr_A (fun d hd => by rw [mSr_C]; exact Ix_m hbm (hC0 d hd)) (fun q k h => mSr_n h) (fun k z1 z2 z3 z4 => mSr_k z1 z2 z3 z4) m1_1 mSr_2 m1V
  generalize hc0 : ((tkIn c p X).sP p 2 (nI 0)).sP p 1 ((tkIn c p X).P p 1 + nI 1) = c0
  have c0H : c0.H = c.H := by rw [← hc0]; exact tkIn_H
  have c0A : c0.A = c.A := by rw [← hc0]; exact tkIn_A
  have c0C : c0.C = c.C := by rw [← hc0]; exact tkIn_C
  have c0n : ∀ q k, ¬ q = p → c0.P q k = c.P q k := fun q k h => by rw [← hc0, sP_na h, sP_na h, tkIn_Pn h]
  have c0t : ∀ k, ¬ k = 1 → ¬ k = 2 → c0.P p k = (tkIn c p X).P p k := fun k z1 z2 => by rw [← hc0, sP_nk z1, sP_nk z2]
  have c00 : c0.P p 0 = c.P p 0 := by rw [c0t 0 (by omega) (by omega), tkIn_P (by omega) (by omega) (by omega)]
  have c01 : c0.P p 1 = nI (k + 1) := by rw [← hc0, sP_eq, tkIn_P (by omega) (by omega) (by omega), r1, e1, nI_add]
  have c02 : c0.P p 2 = nI 0 := by rw [← hc0, sP_nk (by omega), sP_eq]
  have c04 : c0.P p 4 = (mSr m p X).P p 3 := by rw [c0t 4 (by omega) (by omega), t4, s3]
  have c05 : c0.P p 5 = nI pl := by rw [c0t 5 (by omega) (by omega), t5]
  have c06 : c0.P p 6 = (tkIn c p X).P p 6 := c0t 6 (by omega) (by omega)
  have hv0 : valW c0 p = valW m p := by
    unfold valW
    rw [c0A, c00, r0]
    exact (RAc _).2.1
  have hv1 : valW (mSr m p X) p = valW m p := valW_c m1_0 (by rw [mSr_A])
  have sh1 : shH b po ba r n (mSr m p X) := by
    unfold shH
    rw [mSr_H]
    exact sh
  have RH1 : ∀ k, k < 7 → c0.H k = (mSr m p X).H k := fun k hk => by rw [c0H, mSr_H]; exact RH k hk
  have R1 : RS (prep c0 p) (mSr m p X) := ⟨fun k hk => by rw [prep_H]; exact RH1 k hk, fun i hi => by rw [prep_C, c0C, mSr_C]; exact RCe i hi, fun y => by rw [prep_A, c0A, mSr_A]; exact RAc y⟩
  have R2 : ∀ q, q < 5 → ¬ q = p → RP (prep c0 p) (mSr m p X) q := fun q hq h => RP_c (RPq q hq) (fun k => (prep_Pn h).trans (c0n q k h)) (fun k => mSr_n h) (fun k _ => by rw [mSr_H]) (by rw [mSr_A])
  have RA1 : RA (prep c0 p) (mSr m p X) p := by
    refine ⟨?_, ?_, ?_, ?_⟩
    · rw [prep_P (by omega) (by omega) (by omega), c00, m1_0]; exact r0
    · rw [prep_P (by omega) (by omega) (by omega), c01, m1_1]
    · rw [prep_P (by omega) (by omega) (by omega), c02, mSr_2]
    · rw [prep_P (by omega) (by omega) (by omega), c04]
  have p5 : (prep c0 p).P p 5 = nI pl := by rw [prep_P (by omega) (by omega) (by omega), c05]
  have p1 : (prep c0 p).P p 1 = nI (k + 1) := by rw [prep_P (by omega) (by omega) (by omega), c01]
  have p6 : (prep c0 p).P p 6 = (tkIn c p X).P p 6 := by rw [prep_P (by omega) (by omega) (by omega), c06]
  have hww1 : wrs (mSr m p X) = wN b := wrs_b sh1.1 hb
  rw [hmE, p5, p1]
  rcases hend with ⟨hT, hpl, hk1⟩ | ⟨hpw, hpl, z, hz10, hT, hT2⟩
  · -- it goes on
    subst hpl
    rw [if_pos hT, if_neg (nI_ge hk1 (by omega))]
    have pb := prep_b (c := c0) (m := mSr m p X) (q := p) (k := k + 1) RH1 (hv0.trans hv1.symm) ok sh1 hpn hv (fun z => hv1.trans (hval z)) m1_1 m1_5 hk1 hal c01 c05 c04 (fun z => by rw [c06, t65 z, s4])
    refine ⟨con_I I1 hp (by rw [mSr_H]; exact h5) (fun _ => ?_), con_R ⟨R1, fun q hq => ?_⟩, ⟨fun z => absurd z (nI_ge hk1 (by omega)), fun z => ?_⟩, hj8⟩
    · exact ⟨hpn, a, ha, by rw [m1_0]; exact e0, by rw [mSr_A]; exact ea0, by rw [mSr_A]; exact ea3, by rw [mSr_A]; exact ea4, v, hv, by rw [mSr_A]; exact ev1, by rw [mSr_A]; exact ev2, k + 1, pl, 0, m1_1, m1_5, mSr_2, by omega, fun _ => rfl, Or.inr ⟨fun _ => hk1, by omega, hal, fun z => by omega⟩⟩
    · by_cases e : q = p
      · subst e
        refine ⟨RA1, fun _ => ⟨fun z1 z2 => ?_, fun z1 => ?_⟩, ⟨fun z => ?_, fun _ => ⟨by rw [p5, m1_5], fun z => ?_, fun _ => pb⟩⟩, fun _ z => ?_⟩
        · rw [mSr_H] at z1
          rw [hww1] at z2
          rw [p6, t64 (e4b.mp z1) z2, s3, s4]
        · rw [mSr_H] at z1
          rw [p6, t65 (e5b.mp z1), s4]
        · rw [m1_0] at z; exact absurd z hu
        · rw [m1_5] at z; exact absurd z (nI_n (by omega) (by omega) (by omega))
        · rw [mSr_2] at z
          exact absurd z (by decide)
      · exact R2 q hq e
    · rw [sH_Px, m1_0] at z
      exact absurd z hu
  · -- the act ends
    have hTn : ¬ mTr m p X = -1 := by rw [hT]; exact nI_nm1 (by omega)
    rw [if_neg hTn, if_pos (nI_le hpl (by omega))]
    have h3 : (prep c0 p).P p 3 = -1 := by
      unfold prep
      rw [c05, c01, if_pos (nI_le hpl (by omega)), sP_eq]
    refine ⟨end_I I1 hp (by rw [mSr_H]; exact h5) (by rw [m1_0]; exact hu) (fun _ => ⟨z, hz10, hT⟩), fin_R R1 R2 RA1 h3 mSr_2 ?_, ⟨fun _ => by rw [sH_Px, mE_P0], fun _ => nI_le hpl (by omega)⟩, hj8⟩
    rw [hww1, if_neg hpw, p6]
    exact hT2
end FF
