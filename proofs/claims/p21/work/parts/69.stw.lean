/-! the step that ends a write -/
section FF
variable {b po ba r n t u N p : Nat} {m c : Sx} {x : Int32}
theorem wA_H : (mEwA m p).H = m.H := by
  unfold mEwA
  dsimp only
  split <;> rfl
theorem wA_A : (mEwA m p).A = m.A := by
  unfold mEwA
  dsimp only
  split <;> rfl
theorem wA_C : (mEwA m p).C = upf m.C (ix (mCel m p)) (mNm m p) := by
  unfold mEwA
  dsimp only
  split <;> rfl
theorem wA_Pn {q k : Nat} (h : ¬ q = p) : (mEwA m p).P q k = m.P q k := by
  unfold mEwA
  dsimp only
  rw [sP_na h, sP_na h]
  split
  · rw [sP_na h]; rfl
  · rfl
theorem wA_Pk {k : Nat} (h1 : ¬ k = 1) (h2 : ¬ k = 2) (h3 : ¬ k = 3) : (mEwA m p).P p k = m.P p k := by
  unfold mEwA
  dsimp only
  rw [sP_nk h1, sP_nk h2]
  split
  · rw [sP_nk h3]; rfl
  · rfl
theorem wA_P1 : (mEwA m p).P p 1 = m.P p 1 + nI 1 := by
  unfold mEwA
  dsimp only
  rw [sP_eq]
theorem wA_P2 : (mEwA m p).P p 2 = nI 0 := by
  unfold mEwA
  dsimp only
  rw [sP_nk (by decide), sP_eq]
theorem wA_P3 : (mEwA m p).P p 3 = if m.H 0 = nI 5 then mSt m p else m.P p 3 := by
  unfold mEwA
  dsimp only
  rw [sP_nk (by decide), sP_nk (by decide)]
  split
  · rw [sP_eq]
  · rfl
theorem Ix_self {n : Nat} {x : Int32} (h : Ix n x) (hn : n ≤ 2147483648) : x = nI (ix x) ∧ ix x < n := by
  obtain ⟨k, hk, rfl⟩ := h
  rw [ix_nI (by omega)]
  exact ⟨rfl, hk⟩
theorem md10_n {k : Nat} (h : k < 2147483648) : md10 (nI k) = nI (k % 10) := pk_rem h (by omega) (by omega)
theorem mx_n {a b : Nat} (ha : a < 2147483648) (hb : b < 2147483648) : mx (nI a) (nI b) = nI (if a < b then b else a) := by
  unfold mx
  by_cases h : a < b
  · rw [if_pos (nI_lt h hb), if_pos h]
  · rw [if_neg (nI_nlt (by omega) ha), if_neg h]
theorem step_w (I : Iv b po ba r n t N m) (R : Rl c m) (hp : p < 5) (hu : ¬ m.P p 0 = -1) (hz : ¬ m.P p 5 = nI 0) (hw : mWt m p) (hg : m.P p 2 = nI 1 ∨ ba = 2) :
    Iv b po ba r n (t + 1) N ((mEw m p).sH 5 ((mEw m p).H 5 + nI 1)) ∧
    Rl (if (prep (((putD c p).sP p 2 (nI 0)).sP p 1 ((putD c p).P p 1 + nI 1)) p).P p 5 ≤ (prep (((putD c p).sP p 2 (nI 0)).sP p 1 ((putD c p).P p 1 + nI 1)) p).P p 1 then tick (fini (prep (((putD c p).sP p 2 (nI 0)).sP p 1 ((putD c p).P p 1 + nI 1)) p) p) else tick (prep (((putD c p).sP p 2 (nI 0)).sP p 1 ((putD c p).P p 1 + nI 1)) p)) ((mEw m p).sH 5 ((mEw m p).H 5 + nI 1)) ∧
    ((prep (((putD c p).sP p 2 (nI 0)).sP p 1 ((putD c p).P p 1 + nI 1)) p).P p 5 ≤ (prep (((putD c p).sP p 2 (nI 0)).sP p 1 ((putD c p).P p 1 + nI 1)) p).P p 1 ↔ ((mEw m p).sH 5 ((mEw m p).H 5 + nI 1)).P p 0 = -1) := by
  have ht := tm_le I.1
  have I' := I
  obtain ⟨⟨ok, sh, h6, hN, hC0, hA0, hS, hE, hPI, ⟨-, hev⟩, huw, hK⟩, h5⟩ := I
  obtain ⟨hPV, -, hPU⟩ := hPI p hp
  have hPV' := hPV
  obtain ⟨⟨kp, gt, e3, k3, k3b, e4, k4, k4b⟩, e6, o, ho, e7, e8⟩ := hPV
  obtain ⟨hpn, a, ha, e0, ea0, ea3, ea4, v, hv, ev1, ev2, k, al, g, e1, e5, e2, hg2, hgb, hx⟩ := hPU hu
  have hx := hx.resolve_left (fun z => hz (by rw [e5, z.1]))
  obtain ⟨hk, -, hal, -⟩ := hx
  have hk := hk (by omega)
  have hal5 := acc_le (q := p) ok hv
  have hval := val_b e0 (by omega : a < 1000) ev1
  have hcel := cel_b ok sh hpn hv hval e1 e5 hk hal
  have hwt := wt_b (q := p) ok sh e1 e5 (by omega) (by omega) (by omega)
  have hg1 : g = 1 ∨ ba = 2 ∧ g = 0 := by
    rcases hg with hg | hg
    · rw [e2] at hg
      exact Or.inl ((nI_eq (by omega) (by omega)).mp hg)
    · exact Or.inr ⟨hg, hgb hg⟩
  have hb := ok.1
  have hbb : bnd b t ≤ 10000 ∧ bnd b (t + 1) ≤ 10000 := by
    unfold bnd
    split <;> omega
  have hbm := bnd_m (b := b) (show t ≤ t + 1 by omega)
  have hnb := num_bnd ok sh ht hpn hv hval e3 k3 k3b e4 k4
  have hst := st_b (p := p) ok sh e3 e4 (by omega)
  have e5b : m.H 0 = nI 5 ↔ b = 5 := by rw [sh.1]; exact nI_eq (by omega) (by omega)
  have hww := wrs_b (m := m) sh.1 hb
  -- the model's state behind the access
  have m1_3 : ∃ kp', (mEwA m p).P p 3 = nI kp' ∧ kp' < bnd b (t + 1) ∧ (p < wN b → 3 ≤ b → kp' ≤ t + 1) ∧ (¬ b = 5 → kp' = kp) := by
    rw [wA_P3]
    by_cases h5b : b = 5
    · rw [if_pos (e5b.mpr h5b), hst]
      subst h5b
      rw [if_neg (by omega)]
      rw [bnd_hi (by omega)] at k3 k4 ⊢
      have pw : p < wN 5 := by
        unfold wtN at hwt
        have := hwt.mp hw
        by_cases c1 : p < wN 5
        · exact c1
        · rw [if_neg c1] at this
          omega
      have k3c := k3b pw (by omega)
      by_cases h : po = 1
      · rw [if_pos h]
        exact ⟨kp + 1, rfl, by omega, fun _ _ => by omega, fun z => absurd rfl z⟩
      · rw [if_neg h]
        exact ⟨gt / 100 + 1, rfl, by omega, fun _ _ => by omega, fun z => absurd rfl z⟩
    · rw [if_neg (fun z => h5b (e5b.mp z))]
      exact ⟨kp, e3, by omega, fun z1 z2 => by have := k3b z1 z2; omega, fun _ => rfl⟩
  obtain ⟨kp', e3', k3', k3b', kpe⟩ := m1_3
  have m1_1 : (mEwA m p).P p 1 = nI (k + 1) := by rw [wA_P1, e1, nI_add]
  have m1V : PV b n (t + 1) (mEwA m p) p := by
    refine ⟨⟨kp', gt, e3', k3', k3b', by rw [wA_Pk (by omega) (by omega) (by omega)]; exact e4, by omega, fun z1 z2 z3 z4 => ?_⟩, by rw [wA_Pk (by omega) (by omega) (by omega)]; exact Ix_m hbm e6, o, ho, by rw [wA_Pk (by omega) (by omega) (by omega)]; exact e7, fun i hi => by rw [wA_Pk (by omega) (by omega) (by omega)]; exact Ix_m hbm (e8 i hi)⟩
    have wt2 := hwt.mp hw
    unfold wtN at wt2
    rw [if_neg z2] at wt2
    rw [kpe (by omega)]
    refine k4b z1 z2 hu ?_
    rw [e1, ix_nI (by omega)]
    exact wt2.2
  have I1 : Iv0 b po ba r n t (t + 1) N p (mEwA m p) := by
    refine acc_I I' hp hpn ha e0 ea0 ea3 ea4 hv ev1 ev2 e1 e5 e2 hk hal hg1 (fun k => by rw [wA_H]) wA_A (fun d hd => ?_) (fun q k h => wA_Pn h) (fun k z1 z2 z3 _ => wA_Pk z1 z2 z3) m1_1 wA_P2 m1V
    rw [wA_C]
    unfold upf
    split
    · exact hnb
    · exact Ix_m hbm (hC0 d hd)
  -- the class' state behind it
  obtain ⟨⟨RH, RCe, RAc⟩, RPq⟩ := R
  obtain ⟨⟨r0, r1, r2, r4⟩, rb, rc, rd⟩ := RPq p hp
  obtain ⟨rc5, -, rc3⟩ := rc.2 hu
  obtain ⟨rcc, rc7, rcn⟩ := rc3 hz
  have rcn := rcn hw
  have rb := rb hu
  have hcw : wrs c = wN b := wrs_b ((RH 0 (by omega)).trans sh.1) hb
  have cc : ix (c.P p 3) = celN b po r n p v k al := by rw [rcc, hcel.1, ix_nI (by omega)]
  have cH5 : c.H 0 = nI 5 ↔ b = 5 := by rw [RH 0 (by omega)]; exact e5b
  generalize hc0 : ((putD c p).sP p 2 (nI 0)).sP p 1 ((putD c p).P p 1 + nI 1) = c0
  have c0H : c0.H = c.H := by rw [← hc0]; exact putD_H
  have c0A : c0.A = c.A := by rw [← hc0]; exact putD_A
  have c0C : c0.C = upf c.C (ix (c.P p 3)) (c.P p 8) := by rw [← hc0]; exact putD_C
  have c0n : ∀ q k, ¬ q = p → c0.P q k = c.P q k := fun q k h => by rw [← hc0, sP_na h, sP_na h, putD_Pn h]
  have c0k : ∀ k, ¬ k = 1 → ¬ k = 2 → ¬ k = 4 → c0.P p k = c.P p k := fun k z1 z2 z4 => by rw [← hc0, sP_nk z1, sP_nk z2, putD_P z4]
  have c01 : c0.P p 1 = nI (k + 1) := by rw [← hc0, sP_eq, putD_P (by omega), r1, e1, nI_add]
  have c02 : c0.P p 2 = nI 0 := by rw [← hc0, sP_nk (by omega), sP_eq]
  have c04 : c0.P p 4 = (mEwA m p).P p 3 := by
    rw [← hc0, sP_nk (by omega), sP_nk (by omega), wA_P3]
    unfold putD
    by_cases h5b : b = 5
    · rw [if_pos (cH5.mpr h5b), if_pos (e5b.mpr h5b), sP_eq, rcn, hst]
      subst h5b
      have pw : p < wN 5 := by
        have := hwt.mp hw
        unfold wtN at this
        by_cases c1 : p < wN 5
        · exact c1
        · rw [if_neg c1] at this
          omega
      unfold mNm
      rw [hww, if_pos pw, sh.1, if_neg (by decide), if_neg (by decide), hval pw, hst, tag_n]
      have k3c := k3b pw (by omega)
      rw [bnd_hi (by omega)] at k3 k4
      have : wN 5 = 2 := rfl
      have hr4 := ok.2.2.2.2.1
      rw [if_neg (by omega)]
      by_cases h : po = 1
      · rw [if_pos h, pk_div (by omega) (by omega) (by omega)]
        congr 1
        omega
      · rw [if_neg h, pk_div (by omega) (by omega) (by omega)]
        congr 1
        omega
    · rw [if_neg (fun z => h5b (cH5.mp z)), if_neg (fun z => h5b (e5b.mp z))]
      exact r4
  have hv0 : valW c0 p = valW m p := by
    unfold valW
    rw [c0A, c0k 0 (by omega) (by omega) (by omega), r0]
    exact (RAc _).2.1
  have hv1 : valW (mEwA m p) p = valW m p := valW_c (wA_Pk (by omega) (by omega) (by omega)) (by rw [wA_A])
  have sh1 : shH b po ba r n (mEwA m p) := by
    unfold shH
    rw [wA_H]
    exact sh
  have RH1 : ∀ k, k < 7 → c0.H k = (mEwA m p).H k := fun k hk => by rw [c0H, wA_H]; exact RH k hk
  have RS1 : ∀ c1 : Sx, c1.H = c0.H → c1.C = c0.C → c1.A = c0.A → RS c1 (mEwA m p) := by
    intro c1 g1 g2 g3
    refine ⟨fun k hk => by rw [g1]; exact RH1 k hk, fun i hi => ?_, fun y => by rw [g3, c0A, wA_A]; exact RAc y⟩
    rw [g2, c0C, wA_C, cc, rcn, hcel.1, ix_nI (by omega)]
    unfold upf
    split
    · rfl
    · exact RCe i hi
  have RPn : ∀ c1 : Sx, (∀ q k, ¬ q = p → c1.P q k = c0.P q k) → ∀ q, q < 5 → ¬ q = p → RP c1 (mEwA m p) q := by
    intro c1 g1 q hq h
    exact RP_c (RPq q hq) (fun k => (g1 q k h).trans (c0n q k h)) (fun k => wA_Pn h) (fun k _ => by rw [wA_H]) (by rw [wA_A])
  have R1 := RS1 (prep c0 p) prep_H prep_C prep_A
  have R2 := RPn (prep c0 p) (fun q k h => prep_Pn h)
  have RA1 : RA (prep c0 p) (mEwA m p) p := by
    refine ⟨?_, ?_, ?_, ?_⟩
    · rw [prep_P (by omega) (by omega) (by omega), c0k 0 (by omega) (by omega) (by omega), wA_Pk (by omega) (by omega) (by omega)]; exact r0
    · rw [prep_P (by omega) (by omega) (by omega), c01, m1_1]
    · rw [prep_P (by omega) (by omega) (by omega), c02, wA_P2]
    · rw [prep_P (by omega) (by omega) (by omega), c04]
  have p5 : (prep c0 p).P p 5 = nI al := by rw [prep_P (by omega) (by omega) (by omega), c0k 5 (by omega) (by omega) (by omega), rc5, e5]
  have p1 : (prep c0 p).P p 1 = nI (k + 1) := by rw [prep_P (by omega) (by omega) (by omega), c01]
  have p6 : (prep c0 p).P p 6 = c.P p 6 := by rw [prep_P (by omega) (by omega) (by omega), c0k 6 (by omega) (by omega) (by omega)]
  have m15 : (mEwA m p).P p 5 = nI al := by rw [wA_Pk (by omega) (by omega) (by omega), e5]
  have m10 : (mEwA m p).P p 0 = m.P p 0 := wA_Pk (by omega) (by omega) (by omega)
  rw [p5, p1]
  unfold mEw
  rw [m15, m1_1]
  by_cases hl : k + 1 = al
  · -- the act ends
    rw [if_pos (show nI (k + 1) = nI al by rw [hl]), if_pos (show nI al ≤ nI (k + 1) by rw [hl]; exact Int32.le_refl _)]
    have h3 : (prep c0 p).P p 3 = -1 := by
      unfold prep
      rw [c0k 5 (by omega) (by omega) (by omega), rc5, e5, c01, hl, if_pos (Int32.le_refl _), sP_eq]
    refine ⟨end_I I1 hp (by rw [wA_H]; exact h5) (by rw [m10]; exact hu) (fun w => ?_), fin_R R1 R2 RA1 h3 wA_P2 ?_, ⟨fun _ => by rw [sH_Px, mE_P0], fun _ => by rw [hl]; exact Int32.le_refl _⟩⟩
    · rw [hww, if_neg w, e3', md10_n (by omega)]
      exact ⟨_, Nat.mod_lt _ (by omega), rfl⟩
    · have hww1 : wrs (mEwA m p) = wN b := wrs_b sh1.1 hb
      rw [hww1, hww]
      by_cases w : p < wN b
      · rw [if_pos w, if_pos w, m10, e0, ix_nI (by omega), wA_A]
        exact ⟨rfl, ea4⟩
      · rw [if_neg w, if_neg w]
        have wt2 := hwt.mp hw
        unfold wtN at wt2
        rw [if_neg w] at wt2
        have kp1 := kpe (by omega)
        have hge := k4b wt2.1 w hu (by rw [e1, ix_nI (by omega)]; exact wt2.2)
        have rb4 := rb.1 (by rw [sh.1, wt2.1]) (by rw [hww]; exact w)
        rw [p6, rb4, e3', e3, e4, mx_n (by omega) (by omega), if_neg (by omega), kp1]
  · -- it goes on
    have hk1 : k + 1 < al := by omega
    rw [if_neg (nI_n (by omega) (by omega) hl), if_neg (nI_ge hk1 (by omega))]
    have pb := prep_b (c := c0) (m := mEwA m p) (q := p) (k := k + 1) RH1 (hv0.trans hv1.symm) ok sh1 hpn hv (fun z => hv1.trans (hval z)) m1_1 m15 hk1 hal c01 (by rw [c0k 5 (by omega) (by omega) (by omega), rc5, e5]) c04 (fun z => by rw [c0k 6 (by omega) (by omega) (by omega), wA_Pk (by omega) (by omega) (by omega)]; exact rb.2 (e5b.mpr z))
    refine ⟨con_I I1 hp (by rw [wA_H]; exact h5) (fun _ => ?_), con_R ⟨R1, fun q hq => ?_⟩, ⟨fun z => absurd z (nI_ge hk1 (by omega)), fun z => ?_⟩⟩
    · exact ⟨hpn, a, ha, by rw [m10]; exact e0, by rw [wA_A]; exact ea0, by rw [wA_A]; exact ea3, by rw [wA_A]; exact ea4, v, hv, by rw [wA_A]; exact ev1, by rw [wA_A]; exact ev2, k + 1, al, 0, m1_1, m15, wA_P2, by omega, fun _ => rfl, Or.inr ⟨fun _ => hk1, by omega, hal, fun z => by omega⟩⟩
    · by_cases e : q = p
      · subst e
        refine ⟨RA1, fun _ => ⟨fun z1 z2 => ?_, fun z1 => ?_⟩, ⟨fun z => ?_, fun _ => ⟨by rw [p5, m15], fun z => ?_, fun _ => pb⟩⟩, fun _ z => ?_⟩
        · rw [wA_H] at z1
          have hww1 : wrs (mEwA m q) = wrs m := by unfold wrs; rw [wA_H]
          rw [hww1] at z2
          have hb4 : b = 4 := by
            rw [sh.1] at z1
            exact (nI_eq (by omega) (by omega)).mp z1
          rw [p6, wA_P3, if_neg (fun z => by have := e5b.mp z; omega), wA_Pk (by omega) (by omega) (by omega)]
          exact rb.1 z1 z2
        · rw [wA_H] at z1
          rw [p6, wA_Pk (by omega) (by omega) (by omega)]
          exact rb.2 z1
        · rw [m10] at z; exact absurd z hu
        · rw [m15] at z; exact absurd z (nI_n (by omega) (by omega) (by omega))
        · rw [wA_P2] at z
          exact absurd z (by decide)
      · exact R2 q hq e
    · rw [sH_Px, m10] at z
      exact absurd z hu
end FF
