/-! HOW MANY STEPS ARE LEFT -/
section FF
variable {b po ba r n t u N p j : Nat} {m c : Sx} {x : Int32}
theorem mBgA_k {n q k : Nat} (hk : k < 6) (h2 : ¬ k = 2) : (mBgA m p n).P q k = m.P q k := by
  unfold mBgA
  rw [mIt_P (by omega), sP_nk (by omega), sP_nk (by omega), sP_nk h2]
theorem mBgA_n {n q k : Nat} (hk : k < 6) (h : ¬ q = p) : (mBgA m p n).P q k = m.P q k := by
  unfold mBgA
  rw [mIt_P (by omega), sP_na h, sP_na h, sP_na h]
theorem mBgA_2 {n : Nat} : (mBgA m p n).P p 2 = nI 1 := by
  unfold mBgA
  rw [mIt_P (by omega), sP_nk (by omega), sP_nk (by omega), sP_eq]
theorem stp_n {n q k : Nat} (hk : k < 6) (h : ¬ q = p) : (mStp m p n x).P q k = m.P q k := by
  unfold mStp
  rw [sH_Px]
  unfold mStA
  split
  · exact mE_Pn h
  · split
    · exact mBgA_n hk h
    · split
      · unfold mEw
        split
        · rw [mE_Pn h, wA_Pn h]
        · exact wA_Pn h
      · rw [mEr_eq]
        split
        · exact mSr_n h
        · rw [mE_Pn h, mSr_n h]
theorem evm_0 {m' : Sx} (h : m'.P p 0 = -1) : evm ba m' p = 0 := if_pos h
theorem evm_v {m' : Sx} {k al g : Nat} (h0 : ¬ m'.P p 0 = -1) (h1 : m'.P p 1 = nI k) (h5 : m'.P p 5 = nI al) (h2 : m'.P p 2 = nI g) (hk : k < 1000) (hal : al < 1000) (hg : g < 1000) : evm ba m' p = if al = 0 then 1 else if ba = 2 then al - k else 2 * (al - k) - g := by
  unfold evm
  rw [if_neg h0, h1, h5, h2, ix_nI (by omega), ix_nI (by omega), ix_nI (by omega)]
theorem stp_e {n' : Nat} (I : Iv b po ba r n t N m) (hp : p < 5) (hu : ¬ m.P p 0 = -1) : evm ba (mStp m p n' x) p + 1 ≤ evm ba m p := by
  obtain ⟨⟨ok, sh, h6, hN, hC0, hA0, hS, hE, hPI, ⟨-, hev⟩, huw, hK⟩, h5⟩ := I
  obtain ⟨-, -, hPU⟩ := hPI p hp
  obtain ⟨hpn, a, ha, e0, ea0, ea3, ea4, v, hv, ev1, ev2, k, al, g, e1, e5, e2, hg2, hgb, hx⟩ := hPU hu
  have hal5 := acc_le (q := p) ok hv
  have hkal : k ≤ al ∧ al ≤ 5 := by rcases hx with hx | hx <;> omega
  have hev := evm_v (ba := ba) hu e1 e5 e2 (by omega) (by omega) (by omega)
  have hpos : 1 ≤ evm ba m p := by
    rw [hev]
    split
    · exact Nat.le_refl _
    · rcases hx with hx | hx
      · omega
      · have := hx.1 (by omega)
        split <;> omega
  have hba := ok.2.2.1
  have eba : m.H 2 < nI 2 ↔ ¬ ba = 2 := by
    rw [sh.2.2.1]
    constructor
    · intro z z2
      have := (nI_ltI (by omega) (by omega)).mp z
      omega
    · intro z
      exact nI_lt (by omega) (by omega)
  have m20 : m.P p 2 = 0 ↔ g = 0 := by
    rw [e2]
    exact nI_eq (b := 0) (by omega) (by omega)
  have ec : evm ba (mStp m p n' x) p = evm ba (mStA m p n' x) p := evm_c rfl rfl rfl rfl
  have next : ∀ m' : Sx, m'.P p 0 = m.P p 0 → m'.P p 1 = m.P p 1 + nI 1 → m'.P p 5 = m.P p 5 → m'.P p 2 = nI 0 → ¬ m.P p 5 = 0 → ¬ (m.H 2 < nI 2 ∧ m.P p 2 = 0) → evm ba m' p + 1 ≤ evm ba m p := by
    intro m' g0 g1 g5 g2 hz nb
    have hz0 : ¬ al = 0 := fun z => hz (by rw [e5, z]; rfl)
    have hk := (hx.resolve_left (fun z => hz0 z.1)).1 (by omega)
    rw [hev, evm_v (ba := ba) (m' := m') (by rw [g0]; exact hu) (g1.trans (by rw [e1, nI_add])) (g5.trans e5) g2 (by omega) (by omega) (by omega), if_neg hz0, if_neg hz0]
    by_cases hb2 : ba = 2
    · rw [if_pos hb2, if_pos hb2]
      omega
    · rw [if_neg hb2, if_neg hb2]
      have : ¬ g = 0 := fun z => nb ⟨eba.mpr hb2, m20.mpr z⟩
      omega
  rw [ec]
  unfold mStA
  split
  · rw [evm_0 mE_P0]
    exact hpos
  · rename_i hz
    have hz0 : ¬ al = 0 := fun z => hz (by rw [e5, z]; rfl)
    split
    · rename_i hb
      rw [hev, evm_v (ba := ba) (by rw [mBgA_k (by omega) (by omega)]; exact hu) ((mBgA_k (by omega) (by omega)).trans e1) ((mBgA_k (by omega) (by omega)).trans e5) mBgA_2 (by omega) (by omega) (by omega), if_neg hz0, if_neg hz0, if_neg (eba.mp hb.1), if_neg (eba.mp hb.1)]
      have := m20.mp hb.2
      have hk := (hx.resolve_left (fun z => hz0 z.1)).1 (by omega)
      omega
    · rename_i nb
      split
      · unfold mEw
        split
        · rw [evm_0 mE_P0]
          exact hpos
        · exact next _ (wA_Pk (by decide) (by decide) (by decide)) wA_P1 (wA_Pk (by decide) (by decide) (by decide)) wA_P2 hz nb
      · rw [mEr_eq]
        split
        · exact next _ (mSr_k (by decide) (by decide) (by decide) (by decide)) mSr_1 (mSr_k (by decide) (by decide) (by decide) (by decide)) mSr_2 hz nb
        · rw [evm_0 mE_P0]
          exact hpos
theorem dep_lt {n' : Nat} (I : Iv b po ba r n t N m) (hp : p < 5) (hu : ¬ m.P p 0 = -1) : sum5 (evm ba (mStp m p n' x)) + 1 ≤ sum5 (evm ba m) := by
  have h1 := stp_e (x := x) (n' := n') I hp hu
  have h2 := sum5_eq (f := evm ba m) (f' := evm ba (mStp m p n' x)) p hp (fun q hq e => evm_c (stp_n (by omega) e) (stp_n (by omega) e) (stp_n (by omega) e) (stp_n (by omega) e))
  omega
theorem acc_2 {q v : Nat} (ok : okSh b po ba r n) (hv : v < r) : (b = 5 → accN b po r n q v ≤ 3) := by
  intro hb
  unfold accN
  rw [if_neg (by omega), if_neg (by omega), if_pos hb]
  split
  · split <;> omega
  · omega
theorem dep_40 (I : Iv b po ba r n t N m) : sum5 (evm ba m) ≤ 40 := by
  obtain ⟨⟨ok, sh, h6, hN, hC0, hA0, hS, hE, hPI, ⟨-, hev⟩, huw, hK⟩, h5⟩ := I
  have key : ∀ q, q < 5 → (b = 5 → evm ba m q ≤ 3) ∧ evm ba m q ≤ 10 ∧ (¬ q < wN b + n → evm ba m q = 0) := by
    intro q hq
    by_cases hu : m.P q 0 = -1
    · rw [evm_0 hu]
      omega
    · obtain ⟨-, -, hPU⟩ := hPI q hq
      obtain ⟨hpn, a, ha, e0, ea0, ea3, ea4, v, hv, ev1, ev2, k, al, g, e1, e5, e2, hg2, hgb, hx⟩ := hPU hu
      have hal5 := acc_le (q := q) ok hv
      have h53 := acc_2 (q := q) ok hv
      have hkal : k ≤ al ∧ al ≤ 5 ∧ (b = 5 → al ≤ 3) := by
        refine ⟨?_, ?_, fun z => ?_⟩
        · rcases hx with hx | hx <;> omega
        · rcases hx with hx | hx <;> omega
        · have := h53 z
          rcases hx with hx | hx <;> omega
      have hb2 := ok.2.2.2.2.2.2.2.2.2.2
      rw [evm_v (ba := ba) hu e1 e5 e2 (by omega) (by omega) (by omega)]
      refine ⟨fun z => ?_, ?_, fun z => absurd hpn z⟩
      · have := hb2 z
        repeat' split
        all_goals omega
      · repeat' split
        all_goals omega
  have k0 := key 0 (by omega)
  have k1 := key 1 (by omega)
  have k2 := key 2 (by omega)
  have k3 := key 3 (by omega)
  have k4 := key 4 (by omega)
  unfold sum5
  by_cases hb : b = 5
  · have := k0.1 hb
    have := k1.1 hb
    have := k2.1 hb
    have := k3.1 hb
    have := k4.1 hb
    omega
  · have : evm ba m 4 = 0 := k4.2.2 (by
      have := ok.2.2.2.2.2.2.1
      unfold wN
      rw [if_neg hb]
      omega)
    omega
end FF
