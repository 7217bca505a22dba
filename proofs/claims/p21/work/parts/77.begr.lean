section FF
variable {b po ba r n t u N p j : Nat} {m c : Sx} {x : Int32}
def stS (c : Sx) (p : Nat) (x : Int32) : Sx := (((((((c.sA (ix (c.H 6)) 0 (nI p)).sA (ix (c.H 6)) 1 (if p < wrs c then x else -1)).sA (ix (c.H 6)) 2 (-1)).sA (ix (c.H 6)) 3 (c.H 5)).sA (ix (c.H 6)) 4 (-1)).sH 6 (c.H 6 + nI 1)).sP p 0 (c.H 6))
theorem stA_eq : stA c p x = (stS c p x).sP p 5 (accs (stS c p x) p x) := rfl
theorem stS_H {k : Nat} : (stS c p x).H k = if k = 6 then c.H 6 + nI 1 else c.H k := by
  unfold stS
  rw [sP_H, sH_H, sA_H, sA_H, sA_H, sA_H, sA_H]
theorem stS_C : (stS c p x).C = c.C := by
  unfold stS
  rw [sP_C, sH_C, sA_C, sA_C, sA_C, sA_C, sA_C]
theorem stS_A : (stS c p x).A = (((((c.sA (ix (c.H 6)) 0 (nI p)).sA (ix (c.H 6)) 1 (if p < wrs c then x else -1)).sA (ix (c.H 6)) 2 (-1)).sA (ix (c.H 6)) 3 (c.H 5)).sA (ix (c.H 6)) 4 (-1)).A := by
  unfold stS
  rw [sP_A, sH_A]
theorem stS_P {q k : Nat} (h : ¬ k = 0) : (stS c p x).P q k = c.P q k := by
  unfold stS
  rw [sP_nk h, sH_P, sA_P, sA_P, sA_P, sA_P, sA_P]
theorem stS_Pn {q k : Nat} (h : ¬ q = p) : (stS c p x).P q k = c.P q k := by
  unfold stS
  rw [sP_na h, sH_P, sA_P, sA_P, sA_P, sA_P, sA_P]
theorem stS_P0 : (stS c p x).P p 0 = c.H 6 := by
  unfold stS
  rw [sP_eq]
theorem accs_c {c' : Sx} (hH : ∀ k, k < 5 → c'.H k = c.H k) (h4 : c'.P p 4 = c.P p 4) : accs c' p x = accs c p x := by
  unfold accs wrs
  rw [hH 0 (by omega), hH 1 (by omega), hH 3 (by omega), hH 4 (by omega), h4]
theorem stS_An {a k : Nat} (h : ¬ a = ix (c.H 6)) : (stS c p x).A a k = c.A a k := by
  rw [stS_A]
  simp only [sA_A, h, false_and, if_false]
theorem stS_A0 : (stS c p x).A (ix (c.H 6)) 0 = nI p := by
  rw [stS_A]
  simp [sA_A]
theorem stS_A1 : (stS c p x).A (ix (c.H 6)) 1 = if p < wrs c then x else -1 := by
  rw [stS_A]
  simp [sA_A]
theorem stS_A2 : (stS c p x).A (ix (c.H 6)) 2 = -1 := by
  rw [stS_A]
  simp [sA_A]
theorem stS_A3 : (stS c p x).A (ix (c.H 6)) 3 = c.H 5 := by
  rw [stS_A]
  simp [sA_A]
theorem stS_A4 : (stS c p x).A (ix (c.H 6)) 4 = -1 := by
  rw [stS_A]
  simp [sA_A]
theorem kpSt_6 {s : Sx} : (kpSt s p x).P p 6 = if s.H 0 = nI 4 ∧ ¬ p < wrs s then s.P p 4 else nI 0 := by
  unfold kpSt
  dsimp only
  split
  · split
    · rw [sP_nk (by decide), sP_eq]
    · split
      · rw [sP_nk (by decide), sP_eq]
      · rw [sP_eq]
  · rw [sP_eq]
theorem kpSt_4 {s : Sx} : (kpSt s p x).P p 4 = if p < wrs s then (if s.H 0 = nI 1 then x else if s.H 0 = nI 3 ∨ s.H 0 = nI 4 then s.P p 4 + nI 1 else s.P p 4) else s.P p 4 := by
  unfold kpSt
  dsimp only
  split
  · split
    · rw [sP_eq]
    · split
      · rw [sP_eq]
      · rw [sP_nk (by decide)]
  · rw [sP_nk (by decide)]
theorem tick_H {k : Nat} : (tick c).H k = if k = 5 then c.H 5 + nI 1 else c.H k := rfl
theorem beg_R {v : Nat} (I : Iv b po ba r n t N m) (R : Rl c m) (hp : p < wN b + n) (hu : m.P p 0 = -1) (hN7 : N < 7) (hv : v < r) (hx : p < wN b → x = nI v) : Rl (stC c p x) (mBeg m p x) := by
  have ht := tm_le I.1
  obtain ⟨I', al, eal, hal9, hal⟩ := beg_I I hp hu hN7 hv hx
  obtain ⟨⟨ok, sh, h6, hN, hC0, hA0, hS, hE, hPI, ⟨-, hev⟩, huw, hK⟩, h5⟩ := I
  have hb := ok.1
  have hw := wrs_b (m := m) sh.1 hb
  have hnp := np_le ok
  have hp5 : p < 5 := by omega
  obtain ⟨⟨⟨kp, gt, f3, k3, k3b, f4, k4, k4b⟩, -, -⟩, hz, -⟩ := hPI p hp5
  have hz := hz hu
  have hbb : bnd b t ≤ 10000 := by
    unfold bnd
    split <;> omega
  obtain ⟨⟨RH, RCe, RAc⟩, RPq⟩ := R
  obtain ⟨⟨r0, r1, r2, r4⟩, rb, rc, rd⟩ := RPq p hp5
  have cH6 : c.H 6 = m.H 6 := RH 6 (by omega)
  have shc : shH b po ba r n c := ⟨(RH 0 (by omega)).trans sh.1, (RH 1 (by omega)).trans sh.2.1, (RH 2 (by omega)).trans sh.2.2.1, (RH 3 (by omega)).trans sh.2.2.2.1, (RH 4 (by omega)).trans sh.2.2.2.2⟩
  have hcw := wrs_b (m := c) shc.1 hb
  have hacc : accs (stS c p x) p x = nI al := by
    rw [accs_c (c := c) (fun k hk => by rw [stS_H, if_neg (by omega)]) (stS_P (by decide)), accs_b ok sh shc hx r4, eal]
  -- the class' state ahead of the next access
  have s0H : ∀ k, k < 5 → (kpSt (stA c p x) p x).H k = c.H k := fun k hk => by rw [kpSt_H, stA_eq, sP_H, stS_H, if_neg (by omega)]
  have s0H5 : (kpSt (stA c p x) p x).H 5 = c.H 5 := by rw [kpSt_H, stA_eq, sP_H, stS_H, if_neg (by omega)]
  have s0H6 : (kpSt (stA c p x) p x).H 6 = c.H 6 + nI 1 := by rw [kpSt_H, stA_eq, sP_H, stS_H, if_pos rfl]
  have s0A : (kpSt (stA c p x) p x).A = (stS c p x).A := by rw [kpSt_A, stA_eq, sP_A]
  have s0C : (kpSt (stA c p x) p x).C = c.C := by rw [kpSt_C, stA_eq, sP_C, stS_C]
  have s0n : ∀ q k, ¬ q = p → (kpSt (stA c p x) p x).P q k = c.P q k := fun q k h => by rw [kpSt_Pn h, stA_eq, sP_na h, stS_Pn h]
  have s0k : ∀ k, ¬ k = 4 → ¬ k = 6 → ¬ k = 5 → ¬ k = 0 → (kpSt (stA c p x) p x).P p k = c.P p k := fun k z4 z6 z5 z0 => by rw [kpSt_P z4 z6, stA_eq, sP_nk z5, stS_P z0]
  have s00 : (kpSt (stA c p x) p x).P p 0 = m.H 6 := by rw [kpSt_P (by decide) (by decide), stA_eq, sP_nk (by decide), stS_P0, cH6]
  have s05 : (kpSt (stA c p x) p x).P p 5 = nI al := by rw [kpSt_P (by decide) (by decide), stA_eq, sP_eq, hacc]
  have stAH : ∀ k, k < 5 → (stA c p x).H k = c.H k := fun k hk => by rw [stA_eq, sP_H, stS_H, if_neg (by omega)]
  have stAw : wrs (stA c p x) = wN b := wrs_b ((stAH 0 (by omega)).trans shc.1) hb
  have stA4 : (stA c p x).P p 4 = m.P p 3 := by rw [stA_eq, sP_nk (by decide), stS_P (by decide), r4]
  have s04 : (kpSt (stA c p x) p x).P p 4 = (mBeg m p x).P p 3 := by
    rw [kpSt_4, mB_P3, stAw, stA4, stAH 0 (by omega), RH 0 (by omega)]
    unfold kpM
    rw [hw]
  have s06 : (kpSt (stA c p x) p x).P p 6 = if m.H 0 = nI 4 ∧ ¬ p < wN b then m.P p 3 else nI 0 := by
    rw [kpSt_6, stAw, stA4, stAH 0 (by omega), RH 0 (by omega)]
  have s01 : (kpSt (stA c p x) p x).P p 1 = nI 0 := by rw [s0k 1 (by decide) (by decide) (by decide) (by decide), r1]; exact hz.1
  have s02 : (kpSt (stA c p x) p x).P p 2 = nI 0 := by rw [s0k 2 (by decide) (by decide) (by decide) (by decide), r2]; exact hz.2
  have eC : stC c p x = tick (prep (kpSt (stA c p x) p x) p) := rfl
  rw [eC]
  -- the model's state
  have sh' : shH b po ba r n (mBeg m p x) := I'.1.2.1
  have m0 : (mBeg m p x).P p 0 = m.H 6 := mB_P0
  have m1 : (mBeg m p x).P p 1 = nI 0 := mB_P1
  have m2 : (mBeg m p x).P p 2 = nI 0 := mB_P2
  have m4 : (mBeg m p x).P p 4 = nI 0 := mB_P4
  have m5 : (mBeg m p x).P p 5 = nI al := mB_P5.trans eal
  have ia : ix (m.H 6) = N := by rw [h6, ix_nI (by omega)]
  have hun : ¬ m.H 6 = -1 := by rw [h6]; exact nI_nm1 (by omega)
  have mH : ∀ k, k < 5 → (mBeg m p x).H k = m.H k := fun k hk => by
    rw [mB_H, sH_H, if_neg (by omega), sH_H, if_neg (by omega)]
  have hw' : wrs (mBeg m p x) = wN b := wrs_b sh'.1 hb
  have hvM : p < wN b → valW (mBeg m p x) p = nI v := by
    intro z
    unfold valW
    rw [m0, mB_A1, hw, if_pos z]
    exact hx z
  have hvC : valW (kpSt (stA c p x) p x) p = valW (mBeg m p x) p := by
    unfold valW
    rw [s00, m0, s0A]
    have e1 : (stS c p x).A (ix (m.H 6)) 1 = if p < wrs c then x else -1 := by rw [← cH6]; exact stS_A1
    rw [e1, mB_A1, hcw, hw]
  have RH' : ∀ k, k < 7 → (kpSt (stA c p x) p x).H k = if k = 5 then m.H 5 else (mBeg m p x).H k := by
    intro k hk
    by_cases e5 : k = 5
    · subst e5
      rw [if_pos rfl, s0H5, RH 5 (by omega)]
    · rw [if_neg e5]
      by_cases e6 : k = 6
      · subst e6
        rw [s0H6, cH6, mB_H, sH_H, if_neg (by decide), sH_H, if_pos rfl]
      · rw [s0H k (by omega), mH k (by omega)]
        exact RH k hk
  -- RS
  have hRS : RS (tick (prep (kpSt (stA c p x) p x) p)) (mBeg m p x) := by
    refine ⟨fun k hk => ?_, fun i hi => ?_, fun y => ?_⟩
    · rw [tick_H, prep_H]
      by_cases e5 : k = 5
      · subst e5
        rw [if_pos rfl, s0H5, RH 5 (by omega), mB_H, sH_H, if_pos rfl]
      · rw [if_neg e5, RH' k hk, if_neg e5]
    · show (prep (kpSt (stA c p x) p x) p).C i = _
      rw [prep_C, s0C, mB_C]
      exact RCe i hi
    · have tA : (tick (prep (kpSt (stA c p x) p x) p)).A = (stS c p x).A := by
        show (prep (kpSt (stA c p x) p x) p).A = _
        rw [prep_A, s0A]
      rw [tA]
      by_cases e : y = ix (m.H 6)
      · subst e
        have g0 := stS_A0 (c := c) (p := p) (x := x)
        have g1 := stS_A1 (c := c) (p := p) (x := x)
        have g2 := stS_A2 (c := c) (p := p) (x := x)
        have g3 := stS_A3 (c := c) (p := p) (x := x)
        have g4 := stS_A4 (c := c) (p := p) (x := x)
        rw [cH6] at g0 g1 g2 g3 g4
        rw [g0, g1, g2, g3, g4, mB_A0, mB_A1, mB_A2, mB_A3, mB_A4, hcw, hw, RH 5 (by omega)]
        exact ⟨rfl, rfl, rfl, rfl, rfl⟩
      · have e' : ¬ y = ix (c.H 6) := by rw [cH6]; exact e
        rw [stS_An e', stS_An e', stS_An e', stS_An e', stS_An e', mB_An e, mB_An e, mB_An e, mB_An e, mB_An e]
        exact RAc y
  refine ⟨hRS, fun q hq => ?_⟩
  have tP : ∀ q k, (tick (prep (kpSt (stA c p x) p x) p)).P q k = (prep (kpSt (stA c p x) p x) p).P q k := fun q k => rfl
  by_cases e : q = p
  · subst e
    refine ⟨⟨?_, ?_, ?_, ?_⟩, fun _ => ⟨fun z1 z2 => ?_, fun z => ?_⟩, ⟨fun z => ?_, fun _ => ⟨?_, fun z => ?_, fun z => ?_⟩⟩, fun _ z => ?_⟩
    · rw [tP, prep_P (by decide) (by decide) (by decide), s00, m0]
    · rw [tP, prep_P (by decide) (by decide) (by decide), s01, m1]
    · rw [tP, prep_P (by decide) (by decide) (by decide), s02, m2]
    · rw [tP, prep_P (by decide) (by decide) (by decide), s04]
    · rw [mH 0 (by omega)] at z1
      rw [hw'] at z2
      rw [tP, prep_P (by decide) (by decide) (by decide), s06, if_pos ⟨z1, z2⟩, m4, mB_P3]
      unfold kpM
      rw [hw, if_neg z2, f3, mx_n (by omega) (by omega), if_neg (by omega)]
    · rw [mH 0 (by omega)] at z
      rw [tP, prep_P (by decide) (by decide) (by decide), s06, m4, if_neg (fun z2 => by rw [z] at z2; exact absurd z2.1 (by decide))]
    · rw [m0] at z; exact absurd z hun
    · rw [tP, prep_P (by decide) (by decide) (by decide), s05, m5]
    · rw [m5] at z
      have hal0 : al = 0 := (nI_eq (by omega) (by omega)).mp z
      rw [tP]
      unfold prep
      rw [s05, s01, hal0, if_pos (Int32.le_refl _), sP_eq]
    · rw [m5] at z
      have hal2 := hal.resolve_left (fun z2 => z (by rw [z2]))
      have RH2 : ∀ k, k < 7 → (kpSt (stA c q x) q x).H k = (((mBeg m q x).sH 5 (m.H 5)).H k) := by
        intro k hk
        rw [RH' k hk, sH_H]
      have pb := prep_b (c := kpSt (stA c q x) q x) (m := (mBeg m q x).sH 5 (m.H 5)) (q := q) (k := 0) RH2 hvC ok ⟨sh'.1, sh'.2.1, sh'.2.2.1, sh'.2.2.2.1, sh'.2.2.2.2⟩ hp hv hvM (sH_Px.trans m1) (sH_Px.trans m5) hal2.1 hal2.2 s01 s05 (s04.trans sH_Px.symm) (fun z5 => by
        rw [s06, sH_Px, m4, if_neg (fun z2 => by rw [sh.1, z5] at z2; exact absurd z2.1 (by decide))])
      have hc5 : ∀ k, k < 5 → ((mBeg m q x).sH 5 (m.H 5)).H k = (mBeg m q x).H k := fun k hk => sH_Hn (by omega)
      rw [mCel_c (m := mBeg m q x) (m' := (mBeg m q x).sH 5 (m.H 5)) hc5 sH_Px sH_Px sH_Px sH_Ax, mNm_c (m := mBeg m q x) (m' := (mBeg m q x).sH 5 (m.H 5)) hc5 sH_Px sH_Px sH_Px sH_Px sH_Px sH_Ax] at pb
      have cw := mWt_c (m := mBeg m q x) (m' := (mBeg m q x).sH 5 (m.H 5)) (q := q) hc5 sH_Px sH_Px
      rw [tP, tP, tP]
      exact ⟨pb.1, pb.2.1.trans (b2_congr (not_congr cw)), fun z3 => pb.2.2 (cw.mpr z3)⟩
    · rw [m2] at z
      exact absurd z (by decide)
  · by_cases hq0 : m.P q 0 = -1
    · -- not under way
      obtain ⟨⟨q0, q1, q2, q4⟩, -, qc, -⟩ := RPq q hq
      have cq : ∀ k, (tick (prep (kpSt (stA c p x) p x) p)).P q k = c.P q k := fun k => by rw [tP, prep_Pn e, s0n q k e]
      have mq : ∀ k, (mBeg m p x).P q k = m.P q k := fun k => mB_Pn e
      refine ⟨⟨by rw [cq, mq]; exact q0, by rw [cq, mq]; exact q1, by rw [cq, mq]; exact q2, by rw [cq, mq]; exact q4⟩, fun z => ?_, ⟨fun _ => by rw [cq]; exact qc.1 hq0, fun z => ?_⟩, fun z => ?_⟩
      · rw [mq] at z; exact absurd hq0 z
      · rw [mq] at z; exact absurd hq0 z
      · rw [mq] at z; exact absurd hq0 z
    · obtain ⟨-, a2, ha2, e2, -⟩ := (hPI q hq).2.2 hq0
      refine RP_c (RPq q hq) (fun k => by rw [tP, prep_Pn e, s0n q k e]) (fun k => mB_Pn e) mH (mB_An ?_)
      rw [e2, ia, ix_nI (by omega)]
      omega
end FF
