/-! an access ends: what holds behind it -/
section FF
variable {b po ba r n t u N p : Nat} {m c : Sx} {x : Int32}
theorem bnd_lo {b t : Nat} (h : b < 3) : bnd b t = 4 := if_pos h
theorem bnd_hi {b t : Nat} (h : ¬ b < 3) : bnd b t = 100 * (t + 1) := if_neg h
theorem pend_s {m' : Sx} {q : Nat} {d : Int32} (hH : ∀ k, k < 5 → m'.H k = m.H k) (h0 : m'.P q 0 = m.P q 0) (h5 : m'.P q 5 = m.P q 5) (hl : ix (m.P q 1) + ix (m.P q 2) ≤ ix (m'.P q 1) + ix (m'.P q 2)) (hA : m'.A (ix (m.P q 0)) 1 = m.A (ix (m.P q 0)) 1) (h : pend m' q d) : pend m q d := by
  obtain ⟨g0, j, j1, j2, j3, j4⟩ := h
  have s0 : (m'.sP q 1 (nI j)).P q 0 = (m.sP q 1 (nI j)).P q 0 := by rw [sP_nk (by decide), sP_nk (by decide), h0]
  have s5 : (m'.sP q 1 (nI j)).P q 5 = (m.sP q 1 (nI j)).P q 5 := by rw [sP_nk (by decide), sP_nk (by decide), h5]
  refine ⟨by rw [← h0]; exact g0, j, by omega, by rw [← h5]; exact j2, ?_, ?_⟩
  · exact (mWt_c (m := m.sP q 1 (nI j)) (m' := m'.sP q 1 (nI j)) hH (by rw [sP_eq, sP_eq]) s5).mp j3
  · rw [← j4]
    refine (mCel_c (m := m.sP q 1 (nI j)) (m' := m'.sP q 1 (nI j)) hH s0 (by rw [sP_eq, sP_eq]) s5 ?_).symm
    have e : (m.sP q 1 (nI j)).P q 0 = m.P q 0 := sP_nk (by decide)
    rw [e]
    exact hA
theorem acc_I {m1 : Sx} {a k al g v : Nat} (I : Iv b po ba r n t N m) (hp : p < 5) (hpn : p < wN b + n) (ha : a < N) (e0 : m.P p 0 = nI a) (ea0 : m.A a 0 = nI p) (ea3 : m.A a 3 = -1) (ea4 : m.A a 4 = -1) (hv : v < r) (ev1 : p < wN b → m.A a 1 = nI v) (ev2 : ¬ p < wN b → m.A a 1 = -1) (e1 : m.P p 1 = nI k) (e5 : m.P p 5 = nI al) (e2 : m.P p 2 = nI g) (hk : k < al) (hal : al = accN b po r n p v) (hg : g = 1 ∨ ba = 2 ∧ g = 0)
    (hH : ∀ k, m1.H k = m.H k) (hA : m1.A = m.A) (hC : ∀ c, c < 10 → Ix (bnd b (t + 1)) (m1.C c)) (hPn : ∀ q k, ¬ q = p → m1.P q k = m.P q k) (hPk : ∀ k, ¬ k = 1 → ¬ k = 2 → ¬ k = 3 → ¬ k = 4 → m1.P p k = m.P p k) (h1 : m1.P p 1 = nI (k + 1)) (h2 : m1.P p 2 = nI 0) (hPV : PV b n (t + 1) m1 p) :
    Iv0 b po ba r n t (t + 1) N p m1 := by
  obtain ⟨⟨ok, sh, h6, hN, hC0, hA0, hS, hE, hPI, ⟨-, hev⟩, huw, hK⟩, h5⟩ := I
  have hal5 := acc_le (q := p) ok hv
  have u0 : ¬ m.P p 0 = -1 := by rw [e0]; exact nI_nm1 (by omega)
  have Pq : ∀ q, q < 5 → m1.P q 0 = m.P q 0 := by
    intro q hq
    by_cases e : q = p
    · subst e; exact hPk 0 (by omega) (by omega) (by omega) (by omega)
    · exact hPn q 0 e
  have evp : evm ba m1 p + 1 ≤ evm ba m p := by
    unfold evm
    rw [Pq p hp, if_neg u0, if_neg u0, hPk 5 (by omega) (by omega) (by omega) (by omega), e5, e1, e2, h1, h2, ix_nI (by omega), ix_nI (by omega), ix_nI (by omega), ix_nI (by omega), ix_nI (by omega)]
    simp only [show ¬ al = 0 by omega, if_false]
    rcases hg with rfl | ⟨rfl, rfl⟩
    · split <;> omega
    · simp only [if_true]; omega
  refine ⟨ok, ⟨by rw [hH]; exact sh.1, by rw [hH]; exact sh.2.1, by rw [hH]; exact sh.2.2.1, by rw [hH]; exact sh.2.2.2.1, by rw [hH]; exact sh.2.2.2.2⟩, by rw [hH]; exact h6, hN, hC, ?_, ?_, ?_, ?_, ⟨by omega, ?_⟩, ?_, ?_⟩
  · intro y hy
    obtain ⟨q, hq, f0, f1, f2, s, hs, f3, f4⟩ := hA0 y hy
    have := np_le ok
    rw [← Pq q (by omega)] at f4
    refine ⟨q, hq, by rw [hA]; exact f0, by rw [hA]; exact f1, by rw [hA]; exact f2, s, hs, by rw [hA]; exact f3, by rw [hA]; exact f4⟩
  · intro y hy z hzy hz
    rw [hA] at hz
    have h := hS y hy z hzy hz
    unfold hAh hyM Hy.E Hy.S at h ⊢
    rw [hA]
    exact h
  · rw [hA]; exact hE
  · intro q hq
    by_cases e : q = p
    · subst e
      refine ⟨hPV, fun z => ?_, fun _ => ⟨hpn, a, ha, by rw [Pq q hq]; exact e0, by rw [hA]; exact ea0, by rw [hA]; exact ea3, by rw [hA]; exact ea4, v, hv, by rw [hA]; exact ev1, by rw [hA]; exact ev2, k + 1, al, 0, h1, by rw [hPk 5 (by omega) (by omega) (by omega) (by omega)]; exact e5, h2, by omega, fun _ => rfl, Or.inr ⟨fun z => absurd rfl z, by omega, hal, fun z => by omega⟩⟩⟩
      rw [Pq q hq] at z
      exact absurd z u0
    · obtain ⟨g1, g2, g3⟩ := hPI q hq
      refine ⟨PV_m g1 (by omega) (fun k _ _ _ => hPn q k e) (Or.inr ⟨hPn q 0 e, hPn q 1 e⟩), by rw [hPn q 0 e, hPn q 1 e, hPn q 2 e]; exact g2, ?_⟩
      rw [hPn q 0 e]
      intro z
      obtain ⟨f1, a2, f2, f3, f4, f5, f6, v2, f7, f8, f9, k2, al2, g2', f10, f11, f12, f13, f14, f15⟩ := g3 z
      refine ⟨f1, a2, f2, (hPn q 0 e).trans f3, by rw [hA]; exact f4, by rw [hA]; exact f5, by rw [hA]; exact f6, v2, f7, by rw [hA]; exact f8, by rw [hA]; exact f9, k2, al2, g2', (hPn q 1 e).trans f10, (hPn q 5 e).trans f11, (hPn q 2 e).trans f12, f13, f14, ?_⟩
      exact f15.imp id (fun ⟨f16, f17⟩ => ⟨fun _ => f16 (by omega), f17⟩)
  · have hs := sum5_eq (f := evm ba m) (f' := evm ba m1) p hp (fun q hq e => evm_c (hPn q 0 e) (hPn q 1 e) (hPn q 2 e) (hPn q 5 e))
    omega
  · have hs : sum5 (uwm m1) ≤ sum5 (uwm m) := sum5_le (fun q hq => by rw [uwm_c (Pq q hq)]; omega)
    omega
  · intro q hq
    have pd : ∀ i, i < 5 → ¬ i = q → ∀ d, pend m1 i d → pend m i d := by
      intro i hi _ d hd
      by_cases e : i = p
      · subst e
        refine pend_s (m := m) (fun k _ => hH k) (Pq i hi) (hPk 5 (by omega) (by omega) (by omega) (by omega)) ?_ (by rw [hA]) hd
        rw [h1, h2, e1, e2, ix_nI (by omega), ix_nI (by omega), ix_nI (by omega), ix_nI (by omega)]
        omega
      · exact pend_c (m := m) (fun k _ => hH k) (fun k _ => hPn i k e) (by rw [hA]) hd
    by_cases e : q = p
    · subst e
      intro _ z
      rw [h2] at z
      exact absurd z (by decide)
    · exact KI_c (hK q hq) (fun k _ => hH k) (fun _ k _ => hPn q k e) (fun _ => by rw [hA]) pd
/-- a process' numbers as numbers -/
theorem val_b {a v : Nat} (e0 : m.P p 0 = nI a) (ha : a < 1000) (ev1 : p < wN b → m.A a 1 = nI v) : p < wN b → valW m p = nI v := by
  intro h
  unfold valW
  rw [e0, ix_nI (by omega)]
  exact ev1 h
theorem tag_n {s p v : Nat} : nI 100 * nI s + nI 10 * nI p + nI v = nI (100 * s + 10 * p + v) := by rw [pk_mul, pk_mul, nI_add, nI_add]
theorem st_b {kp gt : Nat} (ok : okSh b po ba r n) (sh : shH b po ba r n m) (e3 : m.P p 3 = nI kp) (e4 : m.P p 4 = nI gt) (hgt : gt < 1000000) : mSt m p = nI (if b < 5 then kp else (if po = 1 then kp else gt / 100) + 1) := by
  have hb := ok.1
  have hpo := ok.2.1
  unfold mSt
  rw [sh.1, sh.2.1, e3, e4]
  by_cases c1 : b < 5
  · rw [if_pos (nI_lt c1 (by omega)), if_pos c1]
  · rw [if_neg (nI_nlt (by omega) (by omega)), if_neg c1]
    by_cases c2 : po = 1
    · subst c2
      rw [if_pos rfl, if_pos rfl, nI_add]
    · rw [if_neg (nI_n (by omega) (by omega) c2), if_neg c2, pk_div (by omega) (by omega) (by omega), nI_add]
theorem num_bnd {kp gt v : Nat} (ok : okSh b po ba r n) (sh : shH b po ba r n m) (ht : t ≤ 77) (hp : p < wN b + n) (hv : v < r) (hval : p < wN b → valW m p = nI v) (e3 : m.P p 3 = nI kp) (h3 : kp < bnd b t) (h3b : p < wN b → 3 ≤ b → kp ≤ t) (e4 : m.P p 4 = nI gt) (h4 : gt < bnd b t) : Ix (bnd b (t + 1)) (mNm m p) := by
  have hbt := bnd_m (b := b) (show t ≤ t + 1 by omega)
  have hbb : bnd b t ≤ 10000 := by
    unfold bnd
    split <;> omega
  have hst := st_b (p := p) ok sh e3 e4 (by omega)
  have hb := ok.1
  have hr4 := ok.2.2.2.2.1
  have hw := wrs_b (m := m) sh.1 hb
  unfold mNm
  rw [hw, sh.1]
  by_cases c1 : p < wN b
  · rw [if_pos c1, hval c1, hst]
    by_cases b2' : b < 2
    · rw [if_pos (nI_lt b2' (by omega))]
      refine ⟨v, ?_, rfl⟩
      rw [bnd_lo (by omega)]
      omega
    · rw [if_neg (nI_nlt (by omega) (by omega))]
      by_cases b3 : b = 2
      · subst b3
        rw [if_pos rfl]
        unfold b2
        split
        · exact ⟨1, by rw [bnd_lo (by omega)]; omega, rfl⟩
        · exact ⟨0, by rw [bnd_lo (by omega)]; omega, rfl⟩
      · rw [if_neg (nI_n (by omega) (by omega) b3), tag_n]
        refine ⟨_, ?_, rfl⟩
        have h3c := h3b c1 (by omega)
        rw [bnd_hi (by omega)] at h4 ⊢
        have p1 : p ≤ 1 := by
          have := wN_le (b := b)
          omega
        by_cases b5 : b < 5
        · rw [if_pos b5]
          omega
        · rw [if_neg b5]
          split <;> omega
  · rw [if_neg c1, e3]
    exact ⟨kp, by omega, rfl⟩
end FF
