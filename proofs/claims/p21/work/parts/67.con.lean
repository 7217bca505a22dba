/-! the relation, where an act ends or goes on -/
section FF
variable {b po ba r n t u N p : Nat} {m c : Sx} {x : Int32}
theorem RP_c {c' m' : Sx} {q : Nat} (R : RP c m q) (hc : ∀ k, c'.P q k = c.P q k) (hm : ∀ k, m'.P q k = m.P q k) (hH : ∀ k, k < 5 → m'.H k = m.H k) (hA : m'.A (ix (m.P q 0)) 1 = m.A (ix (m.P q 0)) 1) : RP c' m' q := by
  obtain ⟨⟨a0, a1, a2, a4⟩, rb, rc, rd⟩ := R
  have cw := mWt_c (m := m) (m' := m') (q := q) hH (hm 1) (hm 5)
  have cc := mCel_c (m := m) (m' := m') (q := q) hH (hm 0) (hm 1) (hm 5) hA
  have cn := mNm_c (m := m) (m' := m') (q := q) hH (hm 0) (hm 1) (hm 5) (hm 3) (hm 4) hA
  have cd := mDd_c (m := m) (m' := m') (q := q) (hm 6) (hm 7) (fun i _ => hm (8 + i))
  have hw : wrs m' = wrs m := by unfold wrs; rw [hH 0 (by omega)]
  refine ⟨⟨by rw [hc, hm]; exact a0, by rw [hc, hm]; exact a1, by rw [hc, hm]; exact a2, by rw [hc, hm]; exact a4⟩, ?_, ?_, ?_⟩
  · intro z
    rw [hm] at z
    have h := rb z
    rw [hH 0 (by omega), hw, hc, hm, hm]
    exact h
  · refine ⟨fun z => ?_, fun z => ?_⟩
    · rw [hm] at z
      rw [hc]
      exact rc.1 z
    · rw [hm] at z
      obtain ⟨h1, h2, h3⟩ := rc.2 z
      refine ⟨by rw [hc, hm]; exact h1, fun z2 => ?_, fun z2 => ?_⟩
      · rw [hm] at z2
        rw [hc]
        exact h2 z2
      · rw [hm] at z2
        obtain ⟨h4, h5, h6⟩ := h3 z2
        refine ⟨by rw [hc, cc]; exact h4, ?_, fun z3 => by rw [hc, cn]; exact h6 (cw.mp z3)⟩
        rw [hc, h5]
        exact b2_congr (not_congr cw.symm)
  · intro z1 z2 z3
    rw [hm] at z1 z2
    obtain ⟨h1, h2, h3⟩ := rd z1 z2 (fun z => z3 (cw.mpr z))
    refine ⟨?_, by rw [hc, cd]; exact h2, fun i y hy => ?_⟩
    · rw [hc, h1]
      exact b2_congr (by rw [hm])
    · rw [cd] at hy
      rw [hc]
      exact h3 i y hy
theorem fini_P {q k : Nat} (h0 : ¬ k = 0) (h1 : ¬ k = 1) : (fini c p).P q k = c.P q k := by
  unfold fini
  dsimp only
  rw [sP_nk h1, sP_nk h0]
  split <;> rfl
theorem fini_Pn {q k : Nat} (h : ¬ q = p) : (fini c p).P q k = c.P q k := by
  unfold fini
  dsimp only
  rw [sP_na h, sP_na h]
  split <;> rfl
theorem fini_P0 : (fini c p).P p 0 = -1 := by
  unfold fini
  dsimp only
  rw [sP_nk (by decide), sP_eq]
theorem fini_P1 : (fini c p).P p 1 = nI 0 := by
  unfold fini
  dsimp only
  rw [sP_eq]
theorem fini_H : (fini c p).H = c.H := by
  unfold fini
  dsimp only
  split <;> rfl
theorem fini_C : (fini c p).C = c.C := by
  unfold fini
  dsimp only
  split <;> rfl
theorem fini_A4 {a : Nat} : (fini c p).A a 4 = if a = ix (c.P p 0) then c.H 5 else c.A a 4 := by
  unfold fini
  dsimp only
  rw [sP_A, sP_A, sA_A]
  by_cases h : a = ix (c.P p 0)
  · rw [if_pos ⟨h, rfl⟩, if_pos h]
  · rw [if_neg (fun z => h z.1), if_neg h]
    split
    · rfl
    · rw [sA_A, if_neg (fun z => h z.1)]
theorem fini_A2 {a : Nat} : (fini c p).A a 2 = if a = ix (c.P p 0) ∧ ¬ p < wrs c then md10 (c.P p 6) else c.A a 2 := by
  unfold fini
  dsimp only
  rw [sP_A, sP_A, sA_A, if_neg (fun z => absurd z.2 (by decide))]
  by_cases hw : p < wrs c
  · rw [if_pos hw, if_neg (fun z => z.2 hw)]
  · rw [if_neg hw, sA_A]
    by_cases h : a = ix (c.P p 0)
    · rw [if_pos ⟨h, rfl⟩, if_pos ⟨h, hw⟩]
      rfl
    · rw [if_neg (fun z => h z.1), if_neg (fun z => h z.1)]
theorem fini_A {a k : Nat} (h2 : ¬ k = 2) (h4 : ¬ k = 4) : (fini c p).A a k = c.A a k := by
  unfold fini
  dsimp only
  rw [sP_A, sP_A, sA_A, if_neg (fun z => h4 z.2)]
  split
  · rfl
  · rw [sA_A, if_neg (fun z => h2 z.2)]
theorem wrs_R (R : RS c m) : wrs c = wrs m := by
  unfold wrs
  rw [R.1 0 (by omega)]
theorem fin_R (R : RS c m) (hR : ∀ q, q < 5 → ¬ q = p → RP c m q) (hA : RA c m p) (h3 : c.P p 3 = -1) (hg : m.P p 2 = nI 0) (hx : if p < wrs m then x = -1 ∧ m.A (ix (m.P p 0)) 4 = -1 else x = md10 (c.P p 6)) : Rl (tick (fini c p)) ((mEnd m p x).sH 5 ((mEnd m p x).H 5 + nI 1)) := by
  have hw := wrs_R R
  have c0 := hA.1
  have cH5 : c.H 5 = m.H 5 := R.1 5 (by omega)
  have tP : ∀ q k, (tick (fini c p)).P q k = (fini c p).P q k := fun q k => rfl
  have mP : ∀ q k, ((mEnd m p x).sH 5 ((mEnd m p x).H 5 + nI 1)).P q k = (mEnd m p x).P q k := fun q k => rfl
  have mA : ∀ y k, ((mEnd m p x).sH 5 ((mEnd m p x).H 5 + nI 1)).A y k = (mEnd m p x).A y k := fun q k => rfl
  refine ⟨⟨fun k hk => ?_, fun i hi => ?_, fun y => ⟨?_, ?_, ?_, ?_, ?_⟩⟩, fun q hq => ?_⟩
  · unfold tick
    by_cases e : k = 5
    · subst e
      rw [sH_H, sH_H, if_pos rfl, if_pos rfl, fini_H, mE_H, cH5]
    · rw [sH_H, sH_H, if_neg e, if_neg e, fini_H, mE_H]
      exact R.1 k hk
  · show (fini c p).C i = (mEnd m p x).C i
    rw [fini_C, mE_C]
    exact R.2.1 i hi
  · rw [mA, mE_A (by omega) (by omega)]
    exact (fini_A (by omega) (by omega)).trans (R.2.2 y).1
  · rw [mA, mE_A (by omega) (by omega)]
    exact (fini_A (by omega) (by omega)).trans (R.2.2 y).2.1
  · rw [mA, mE_A4]
    refine fini_A2.trans ?_
    rw [c0, hw]
    by_cases e : y = ix (m.P p 0)
    · rw [if_pos e]
      by_cases w : p < wrs m
      · rw [if_pos w] at hx
        rw [if_neg (fun z => z.2 w), hx.1, e]
        exact (R.2.2 _).2.2.1.trans hx.2
      · rw [if_neg w] at hx
        rw [if_pos ⟨e, w⟩, hx]
    · rw [if_neg e, if_neg (fun z => e z.1)]
      exact (R.2.2 y).2.2.1
  · rw [mA, mE_A (by omega) (by omega)]
    exact (fini_A (by omega) (by omega)).trans (R.2.2 y).2.2.2.1
  · rw [mA, mE_A3]
    refine fini_A4.trans ?_
    rw [c0, cH5]
    by_cases e : y = ix (m.P p 0)
    · rw [if_pos e, if_pos e]
    · rw [if_neg e, if_neg e]
      exact (R.2.2 y).2.2.2.2
  · by_cases e : q = p
    · subst e
      refine ⟨⟨?_, ?_, ?_, ?_⟩, ?_, ⟨fun _ => ?_, ?_⟩, ?_⟩
      · rw [tP, mP, fini_P0, mE_P0]
      · rw [tP, mP, fini_P1, mE_P1]
      · rw [tP, mP, fini_P (by omega) (by omega), mE_P2, hA.2.2.1, hg]
      · rw [tP, mP, fini_P (by omega) (by omega), mE_Pk (by omega), hA.2.2.2]
      · intro z
        rw [mP, mE_P0] at z
        exact absurd rfl z
      · rw [tP, fini_P (by omega) (by omega), h3]
      · intro z
        rw [mP, mE_P0] at z
        exact absurd rfl z
      · intro z
        rw [mP, mE_P0] at z
        exact absurd rfl z
    · refine RP_c (hR q hq e) (fun k => ?_) (fun k => ?_) (fun k hk => ?_) ?_
      · rw [tP, fini_Pn e]
      · rw [mP, mE_Pn e]
      · rw [sH_Hn (by omega), mE_H]
      · rw [mA, mE_A (by omega) (by omega)]
/-- an act goes on -/
theorem con_I (I : Iv0 b po ba r n t (t + 1) N p m) (hp : p < 5) (h5 : m.H 5 = nI t) (hk : ¬ m.P p 0 = -1 → PU b po ba r n N True m p) : Iv b po ba r n (t + 1) N (m.sH 5 (m.H 5 + nI 1)) := by
  obtain ⟨ok, sh, h6, hN, hC, hA, hS, hE, hPI, ⟨-, hev2⟩, huw, hK⟩ := I
  refine ⟨⟨ok, sh, h6, hN, hC, ?_, hS, hE, ?_, ⟨Nat.le_refl _, hev2⟩, huw, fun q hq => ?_⟩, ?_⟩
  · intro a ha
    obtain ⟨q, hq, f0, f1, f2, s, hs, f3, f4⟩ := hA a ha
    refine ⟨q, hq, f0, f1, f2, s, by omega, f3, ?_⟩
    rcases f4 with f4 | ⟨e, g1, g2, g3⟩
    · exact Or.inl f4
    · exact Or.inr ⟨e, g1, by omega, g3⟩
  · intro q hq
    obtain ⟨g1, g2, g3⟩ := hPI q hq
    refine ⟨g1, g2, fun z => ?_⟩
    by_cases e : q = p
    · subst e
      obtain ⟨f1, a2, f2, f3, f4, f5, f6, v2, f7, f8, f9, k2, al2, g2', f10, f11, f12, f13, f14, f15⟩ := hk z
      refine ⟨f1, a2, f2, f3, f4, f5, f6, v2, f7, f8, f9, k2, al2, g2', f10, f11, f12, f13, f14, f15.imp id (fun ⟨f16, f17⟩ => ⟨fun _ => f16 trivial, f17⟩)⟩
    · obtain ⟨f1, a2, f2, f3, f4, f5, f6, v2, f7, f8, f9, k2, al2, g2', f10, f11, f12, f13, f14, f15⟩ := g3 z
      refine ⟨f1, a2, f2, f3, f4, f5, f6, v2, f7, f8, f9, k2, al2, g2', f10, f11, f12, f13, f14, f15.imp id (fun ⟨f16, f17⟩ => ⟨fun _ => f16 e, f17⟩)⟩
  · exact KI_c (hK q hq) (fun k hk => sH_Hn (by omega)) (fun _ k _ => sH_Px) (fun _ => sH_Ax) (fun i hi _ d z => pend_c (m := m) (fun k hk => sH_Hn (by omega)) (fun k _ => sH_Px) sH_Ax z)
  · show m.H 5 + nI 1 = _
    rw [h5, nI_add]
theorem con_R (R : Rl c m) : Rl (tick c) (m.sH 5 (m.H 5 + nI 1)) := by
  refine ⟨⟨fun k hk => ?_, R.1.2.1, R.1.2.2⟩, fun q hq => RP_c (R.2 q hq) (fun k => sH_Px) (fun k => sH_Px) (fun k hk => sH_Hn (by omega)) sH_Ax⟩
  unfold tick
  by_cases e : k = 5
  · subst e
    rw [sH_H, sH_H, if_pos rfl, if_pos rfl, R.1.1 5 (by omega)]
  · rw [sH_H, sH_H, if_neg e, if_neg e]
    exact R.1.1 k hk
end FF
