/-! an act ends, or goes on: TIME goes on -/
section FF
variable {b po ba r n t u N p : Nat} {m c : Sx} {x : Int32}
theorem mE_H {k : Nat} : (mEnd m p x).H k = m.H k := rfl
theorem mE_C : (mEnd m p x).C = m.C := rfl
theorem mE_A3 {a : Nat} : (mEnd m p x).A a 3 = if a = ix (m.P p 0) then m.H 5 else m.A a 3 := by
  unfold mEnd
  simp only [sP_A, sA_A]
  by_cases h : a = ix (m.P p 0)
  · simp [h]
  · simp [h]
theorem mE_A4 {a : Nat} : (mEnd m p x).A a 4 = if a = ix (m.P p 0) then x else m.A a 4 := by
  unfold mEnd
  simp only [sP_A, sA_A]
  by_cases h : a = ix (m.P p 0)
  · simp [h]
  · simp [h]
theorem mE_A {a k : Nat} (h3 : ¬ k = 3) (h4 : ¬ k = 4) : (mEnd m p x).A a k = m.A a k := by
  unfold mEnd
  simp only [sP_A, sA_A]
  rw [if_neg (fun z => h4 z.2), if_neg (fun z => h3 z.2)]
theorem mE_Pn {q k : Nat} (h : ¬ q = p) : (mEnd m p x).P q k = m.P q k := by
  unfold mEnd
  rw [sP_na h, sP_na h, sP_na h]
  rfl
theorem mE_Pk {q k : Nat} (h : 2 < k) : (mEnd m p x).P q k = m.P q k := by
  unfold mEnd
  rw [sP_nk (by omega), sP_nk (by omega), sP_nk (by omega)]
  rfl
theorem mE_P0 : (mEnd m p x).P p 0 = -1 := by
  unfold mEnd
  rw [sP_nk (by decide), sP_nk (by decide), sP_eq]
theorem mE_P1 : (mEnd m p x).P p 1 = nI 0 := by
  unfold mEnd
  rw [sP_nk (by decide), sP_eq]
theorem mE_P2 : (mEnd m p x).P p 2 = nI 0 := by
  unfold mEnd
  rw [sP_eq]
theorem evm_c {m' : Sx} {q : Nat} (h0 : m'.P q 0 = m.P q 0) (h1 : m'.P q 1 = m.P q 1) (h2 : m'.P q 2 = m.P q 2) (h5 : m'.P q 5 = m.P q 5) : evm ba m' q = evm ba m q := by
  unfold evm
  rw [h0, h1, h2, h5]
theorem uwm_c {m' : Sx} {q : Nat} (h0 : m'.P q 0 = m.P q 0) : uwm m' q = uwm m q := by
  unfold uwm
  rw [h0]
theorem pend_c {m' : Sx} {q : Nat} {d : Int32} (hH : ∀ k, k < 5 → m'.H k = m.H k) (hP : ∀ k, k < 6 → m'.P q k = m.P q k) (hA : m'.A (ix (m.P q 0)) 1 = m.A (ix (m.P q 0)) 1) (h : pend m' q d) : pend m q d := by
  obtain ⟨h0, j, j1, j2, j3, j4⟩ := h
  have p0 := hP 0 (by omega)
  have p1 := hP 1 (by omega)
  have p2 := hP 2 (by omega)
  have p5 := hP 5 (by omega)
  have s0 : ∀ y z : Sx, y.P q 0 = z.P q 0 → (y.sP q 1 (nI j)).P q 0 = (z.sP q 1 (nI j)).P q 0 := fun y z h => by rw [sP_nk (by decide), sP_nk (by decide), h]
  have s5 : (m'.sP q 1 (nI j)).P q 5 = (m.sP q 1 (nI j)).P q 5 := by rw [sP_nk (by decide), sP_nk (by decide), p5]
  refine ⟨by rw [← p0]; exact h0, j, by rw [← p1, ← p2]; exact j1, by rw [← p5]; exact j2, ?_, ?_⟩
  · exact (mWt_c (m := m.sP q 1 (nI j)) (m' := m'.sP q 1 (nI j)) hH (by rw [sP_eq, sP_eq]) s5).mp j3
  · rw [← j4]
    refine (mCel_c (m := m.sP q 1 (nI j)) (m' := m'.sP q 1 (nI j)) hH (s0 m' m p0) (by rw [sP_eq, sP_eq]) s5 ?_).symm
    have e : (m.sP q 1 (nI j)).P q 0 = m.P q 0 := sP_nk (by decide)
    rw [e]
    exact hA
/-- K of a process, where nothing of it or of others has changed but that acts went on -/
theorem KI_c {m' : Sx} {q : Nat} (h : KI N m q) (hH : ∀ k, k < 5 → m'.H k = m.H k) (hP : ¬ m'.P q 0 = -1 → ∀ k, k < 8 → m'.P q k = m.P q k) (hA : ¬ m'.P q 0 = -1 → m'.A (ix (m.P q 0)) 1 = m.A (ix (m.P q 0)) 1) (hp : ∀ i, i < 5 → ¬ i = q → ∀ d, pend m' i d → pend m i d) : KI N m' q := by
  intro h0 h2 hw
  have hP := hP h0
  have hA := hA h0
  have cw := mWt_c (m := m) (m' := m') (q := q) hH (hP 1 (by omega)) (hP 5 (by omega))
  have cc := mCel_c (m := m) (m' := m') (q := q) hH (hP 0 (by omega)) (hP 1 (by omega)) (hP 5 (by omega)) hA
  obtain ⟨y, hy, hs⟩ := h (by rw [← hP 0 (by omega)]; exact h0) (by rw [← hP 2 (by omega)]; exact h2) (fun z => hw (cw.mpr z))
  refine ⟨y, fun i hi hq hd => hy i hi hq ?_, by rw [hP 7 (by omega)]; exact hs⟩
  rw [cc] at hd
  exact hp i hi hq _ hd
theorem PV_m {m' : Sx} {q : Nat} (h : PV b n t m q) (htu : t ≤ u) (hP : ∀ k, ¬ k = 0 → ¬ k = 1 → ¬ k = 2 → m'.P q k = m.P q k) (h0 : m'.P q 0 = -1 ∨ m'.P q 0 = m.P q 0 ∧ m'.P q 1 = m.P q 1) : PV b n u m' q := by
  obtain ⟨⟨kp, gt, e3, k3, k3b, e4, k4, k4b⟩, e6, o, ho, e7, e8⟩ := h
  have hb := bnd_m (b := b) htu
  refine ⟨⟨kp, gt, ?_, by omega, fun z1 z2 => Nat.le_trans (k3b z1 z2) htu, ?_, by omega, fun z1 z2 z3 z4 => ?_⟩, ?_, o, ho, ?_, fun i hi => ?_⟩
  · rw [hP 3 (by omega) (by omega) (by omega)]; exact e3
  · rw [hP 4 (by omega) (by omega) (by omega)]; exact e4
  · rcases h0 with h0 | ⟨h0, h1⟩
    · exact absurd h0 z3
    · rw [h0] at z3
      rw [h1] at z4
      exact k4b z1 z2 z3 z4
  · rw [hP 6 (by omega) (by omega) (by omega)]; exact Ix_m hb e6
  · rw [hP 7 (by omega) (by omega) (by omega)]; exact e7
  · rw [hP (8 + i) (by omega) (by omega) (by omega)]; exact Ix_m hb (e8 i hi)
/-- the act of p ends -/
theorem end_I0 {m' : Sx} {a : Nat} (I : Iv0 b po ba r n t u N p m) (hut : u ≤ t + 1) (hpot : t + 1 + sum5 (evm ba m) + 11 * (7 - N) ≤ 77 + evm ba m p) (hp : p < 5) (hu : ¬ m.P p 0 = -1) (hx : ¬ p < wN b → ∃ y, y < 10 ∧ x = nI y) (ia : ix (m.P p 0) = a)
    (H' : ∀ k, ¬ k = 5 → m'.H k = m.H k) (A3 : ∀ y, m'.A y 3 = if y = a then nI t else m.A y 3) (A4 : ∀ y, m'.A y 4 = if y = a then x else m.A y 4) (A' : ∀ y k, ¬ k = 3 → ¬ k = 4 → m'.A y k = m.A y k)
    (Pn : ∀ q k, ¬ q = p → m'.P q k = m.P q k) (Pk : ∀ q k, 2 < k → m'.P q k = m.P q k) (P0 : m'.P p 0 = -1) (P1 : m'.P p 1 = nI 0) (P2 : m'.P p 2 = nI 0) (h5' : m'.H 5 = nI (t + 1)) (hC' : m'.C = m.C) : Iv b po ba r n (t + 1) N m' := by
  have ht := tm_le I
  obtain ⟨ok, sh, h6, hN, hC, hA, hS, hE, hPI, ⟨-, hev2⟩, huw, hK⟩ := I
  obtain ⟨hPV, -, hPU⟩ := hPI p hp
  obtain ⟨hpn, a1, ha, e0, ea0, ea3, ea4, v, hv, ev1, ev2, k, al, g, -⟩ := hPU hu
  have ia1 : a = a1 := by rw [e0, ix_nI (by omega)] at ia; exact ia.symm
  subst ia1
  have own : ∀ q, q < 5 → ¬ q = p → ¬ m.P q 0 = -1 → ¬ ix (m.P q 0) = a := by
    intro q hq hqp hqu z
    obtain ⟨-, a2, ha2, e2, e3, -⟩ := (hPI q hq).2.2 hqu
    rw [e2, ix_nI (by omega)] at z
    subst z
    rw [e3] at ea0
    exact hqp ((nI_eq (by omega) (by omega)).mp ea0)
  have pd : ∀ i, i < 5 → ∀ d, pend m' i d → pend m i d := by
    intro i hi d hd
    by_cases e : i = p
    · subst e
      exact absurd P0 hd.1
    · exact pend_c (fun k hk => H' k (by omega)) (fun k _ => Pn i k e) (A' _ 1 (by omega) (by omega)) hd
  refine ⟨⟨ok, ⟨?_, ?_, ?_, ?_, ?_⟩, ?_, hN, ?_, ?_, ?_, ?_, ?_, ⟨Nat.le_refl _, ?_⟩, ?_, ?_⟩, h5'⟩
  · rw [H' 0 (by omega)]; exact sh.1
  · rw [H' 1 (by omega)]; exact sh.2.1
  · rw [H' 2 (by omega)]; exact sh.2.2.1
  · rw [H' 3 (by omega)]; exact sh.2.2.2.1
  · rw [H' 4 (by omega)]; exact sh.2.2.2.2
  · rw [H' 6 (by omega)]; exact h6
  · intro c hc
    rw [hC']
    exact Ix_m (bnd_m hut) (hC c hc)
  · intro y hy
    obtain ⟨q, hq, f0, f1, f2, s, hs, f3, f4⟩ := hA y hy
    refine ⟨q, hq, by rw [A' y 0 (by omega) (by omega)]; exact f0, by rw [A' y 1 (by omega) (by omega)]; exact f1, by rw [A' y 1 (by omega) (by omega)]; exact f2, s, by omega, by rw [A' y 2 (by omega) (by omega)]; exact f3, ?_⟩
    rw [A3, A4]
    by_cases e : y = a
    · subst e
      rw [if_pos rfl, if_pos rfl]
      refine Or.inr ⟨t, hs, by omega, rfl, fun z => ?_⟩
      have hqp : q = p := (nI_eq (by have := np_le ok; omega) (by omega)).mp (f0.symm.trans ea0)
      rw [hqp] at z
      exact hx z
    · rw [if_neg e, if_neg e]
      rcases f4 with ⟨g1, g2, g3⟩ | ⟨e1, g1, g2, g3, g4⟩
      · refine Or.inl ⟨g1, g2, ?_⟩
        have hqp : ¬ q = p := by
          intro z
          rw [z, e0] at g3
          exact e ((nI_eq (by omega) (by omega)).mp g3).symm
        rw [Pn q 0 hqp]
        exact g3
      · exact Or.inr ⟨e1, g1, by omega, g3, g4⟩
  · intro y hy z hzy hz
    rw [A' z 0 (by omega) (by omega), A' y 0 (by omega) (by omega)] at hz
    have h := hS y hy z hzy hz
    have hza : ¬ z = a := by
      intro e
      subst e
      exact h.1 ea3
    have e1 : (hyM m').E z = (hyM m).E z := (A3 z).trans (if_neg hza)
    have e2 : (hyM m').S y = (hyM m).S y := A' y 2 (by omega) (by omega)
    unfold hAh
    rw [e1, e2]
    exact h
  · intro y hy z hz
    rw [A3, A' z 2 (by omega) (by omega)]
    by_cases e : y = a
    · rw [if_pos e]
      obtain ⟨q, hq, f0, f1, f2, s, hs, f3, f4⟩ := hA z hz
      rw [f3]
      exact nI_n (by omega) (by omega) (by omega)
    · rw [if_neg e]
      exact hE y hy z hz
  · intro q hq
    by_cases e : q = p
    · subst e
      refine ⟨PV_m hPV hut (fun k _ _ _ => Pk q k (by omega)) (Or.inl P0), fun _ => ⟨P1, P2⟩, fun z => absurd P0 z⟩
    · obtain ⟨g1, g2, g3⟩ := hPI q hq
      refine ⟨PV_m g1 hut (fun k _ _ _ => Pn q k e) (Or.inr ⟨Pn q 0 e, Pn q 1 e⟩), by rw [Pn q 0 e, Pn q 1 e, Pn q 2 e]; exact g2, ?_⟩
      rw [Pn q 0 e]
      intro z
      have hna := own q hq e z
      obtain ⟨f1, a2, f2, f3, f4, f5, f6, v2, f7, f8, f9, k2, al2, g2', f10, f11, f12, f13, f14, f15⟩ := g3 z
      have ia2 : ix (m.P q 0) = a2 := by rw [f3, ix_nI (by omega)]
      rw [ia2] at hna
      refine ⟨f1, a2, f2, (Pn q 0 e).trans f3, (A' a2 0 (by omega) (by omega)).trans f4, by rw [A3, if_neg hna]; exact f5, by rw [A4, if_neg hna]; exact f6, v2, f7, fun w => (A' a2 1 (by omega) (by omega)).trans (f8 w), fun w => (A' a2 1 (by omega) (by omega)).trans (f9 w), k2, al2, g2', (Pn q 1 e).trans f10, (Pn q 5 e).trans f11, (Pn q 2 e).trans f12, f13, f14, ?_⟩
      rcases f15 with f15 | ⟨f15, f16⟩
      · exact Or.inl f15
      · exact Or.inr ⟨fun _ => f15 e, f16⟩
  · have hs := sum5_eq (f := evm ba m) (f' := evm ba m') p hp (fun q hq e => evm_c (Pn q 0 e) (Pn q 1 e) (Pn q 2 e) (Pn q 5 e))
    have e0 : evm ba m' p = 0 := by
      unfold evm
      rw [if_pos P0]
    omega
  · have hs : sum5 (uwm m') ≤ sum5 (uwm m) := sum5_le (fun q hq => by
      by_cases e : q = p
      · subst e
        unfold uwm
        rw [if_pos P0]
        omega
      · rw [uwm_c (Pn q 0 e)]
        omega)
    omega
  · intro q hq
    by_cases e : q = p
    · subst e
      intro z
      exact absurd P0 z
    · exact KI_c (hK q hq) (fun k hk => H' k (by omega)) (fun _ k _ => Pn q k e) (fun _ => A' _ 1 (by omega) (by omega)) (fun i hi _ d => pd i hi d)
theorem sH_Ax {k a j : Nat} {v : Int32} : (m.sH k v).A a j = m.A a j := rfl
theorem sH_Px {k a j : Nat} {v : Int32} : (m.sH k v).P a j = m.P a j := rfl
theorem sH_Hs {k : Nat} {v : Int32} : (m.sH k v).H k = v := if_pos rfl
theorem sH_Hn {k j : Nat} {v : Int32} (h : ¬ j = k) : (m.sH k v).H j = m.H j := if_neg h
theorem end_I (I : Iv0 b po ba r n t (t + 1) N p m) (hp : p < 5) (h5 : m.H 5 = nI t) (hu : ¬ m.P p 0 = -1) (hx : ¬ p < wN b → ∃ y, y < 10 ∧ x = nI y) : Iv b po ba r n (t + 1) N ((mEnd m p x).sH 5 ((mEnd m p x).H 5 + nI 1)) := by
  refine end_I0 I (Nat.le_refl _) (by have := I.2.2.2.2.2.2.2.2.2.1.2; omega) hp hu hx rfl (fun k hk => ?_) (fun y => ?_) (fun y => ?_) (fun y k z1 z2 => ?_) (fun q k z => ?_) (fun q k z => ?_) ?_ ?_ ?_ ?_ ?_
  · rw [sH_Hn hk, mE_H]
  · rw [sH_Ax, mE_A3, h5]
  · rw [sH_Ax, mE_A4]
  · rw [sH_Ax, mE_A z1 z2]
  · rw [sH_Px, mE_Pn z]
  · rw [sH_Px, mE_Pk z]
  · rw [sH_Px, mE_P0]
  · rw [sH_Px, mE_P1]
  · rw [sH_Px, mE_P2]
  · rw [sH_Hs, mE_H, h5, nI_add]
  · rw [sH_C, mE_C]
/-- an act without accesses ends -/
theorem end_I2 (I : Iv b po ba r n t N m) (hp : p < 5) (hu : ¬ m.P p 0 = -1) (hz : m.P p 5 = nI 0) (hx : ¬ p < wN b → ∃ y, y < 10 ∧ x = nI y) : Iv b po ba r n (t + 1) N ((mEnd m p x).sH 5 ((mEnd m p x).H 5 + nI 1)) := by
  obtain ⟨⟨ok, sh, h6, hN, hC, hA, hS, hE, hPI, hev, huw, hK⟩, h5⟩ := I
  have ev1 : evm ba m p = 1 := by
    unfold evm
    rw [if_neg hu, hz, ix_nI (by omega), if_pos rfl]
  have I1 : Iv0 b po ba r n t t N p m := ⟨ok, sh, h6, hN, hC, hA, hS, hE, fun q hq => by
    obtain ⟨g1, g2, g3⟩ := hPI q hq
    refine ⟨g1, g2, fun z => ?_⟩
    obtain ⟨f1, a2, f2, f3, f4, f5, f6, v2, f7, f8, f9, k2, al2, g2', f10, f11, f12, f13, f14, f15⟩ := g3 z
    exact ⟨f1, a2, f2, f3, f4, f5, f6, v2, f7, f8, f9, k2, al2, g2', f10, f11, f12, f13, f14, f15.imp id (fun ⟨f16, f17⟩ => ⟨fun _ => f16 (by omega), f17⟩)⟩, hev, huw, hK⟩
  refine end_I0 I1 (by omega) (by rw [ev1]; omega) hp hu hx rfl (fun k hk => ?_) (fun y => ?_) (fun y => ?_) (fun y k z1 z2 => ?_) (fun q k z => ?_) (fun q k z => ?_) ?_ ?_ ?_ ?_ ?_
  · rw [sH_Hn hk, mE_H]
  · rw [sH_Ax, mE_A3, h5]
  · rw [sH_Ax, mE_A4]
  · rw [sH_Ax, mE_A z1 z2]
  · rw [sH_Px, mE_Pn z]
  · rw [sH_Px, mE_Pk z]
  · rw [sH_Px, mE_P0]
  · rw [sH_Px, mE_P1]
  · rw [sH_Px, mE_P2]
  · rw [sH_Hs, mE_H, h5, nI_add]
  · rw [sH_C, mE_C]
end FF
