/-! WHAT MAY BE CHOSEN: the same in both; one at least where an act is under way -/
section FF
variable {b po ba r n t u N p j : Nat} {m c : Sx}
theorem mDd_len {o : Nat} (h : m.P p 7 = nI o) (ho : o ≤ 6) : 1 ≤ (mDd m p).length ∧ (mDd m p).length ≤ 7 := by
  have e : mDd m p = ddl (mNum m p) (o + 1) := by
    unfold mDd
    rw [h, ix_nI (by omega)]
  have h1 := ddl_len (f := mNum m p) (o + 1)
  have h2 := (ddl_mem (f := mNum m p) (x := mNum m p 0) (o + 1)).mpr ⟨0, by omega, rfl⟩
  rw [e]
  exact ⟨List.length_pos_of_mem h2, by omega⟩
theorem chs_ok (I : Iv b po ba r n t N m) (R : Rl c m) (hp : p < 5) : chsC c p = mChs m p ∧ (m.P p 0 = -1 → mChs m p = nI 0) ∧ (¬ m.P p 0 = -1 → ∃ k, 1 ≤ k ∧ k ≤ 7 ∧ mChs m p = nI k) := by
  obtain ⟨⟨ok, sh, h6, hN, hC0, hA0, hS, hE, hPI, ⟨-, hev⟩, huw, hK⟩, h5⟩ := I
  obtain ⟨⟨RH, RCe, RAc⟩, RPq⟩ := R
  obtain ⟨⟨r0, r1, r2, r4⟩, rb, rc, rd⟩ := RPq p hp
  obtain ⟨⟨-, f6, o, ho, e7, e8⟩, -, hPU⟩ := hPI p hp
  by_cases hu : m.P p 0 = -1
  · unfold chsC mChs
    rw [r0, if_pos hu, if_pos hu]
    exact ⟨rfl, fun _ => rfl, fun z => absurd hu z⟩
  · obtain ⟨hpn, a, ha, e0, ea0, ea3, ea4, v, hv, ev1, ev2, k, al, g, e1, e5, e2, hg2, hgb, hx⟩ := hPU hu
    have hal5 := acc_le (q := p) ok hv
    have hlen := mDd_len e7 ho
    have r4b := ok.2.2.2.2.1
    have r2b := ok.2.2.2.1
    have hba := ok.2.2.1
    have m20 : mBg m p ↔ g = 1 := by
      unfold mBg
      rw [e2]
      constructor
      · intro z
        exact (nI_eq (by omega) (by omega)).mp z.2
      · intro z
        exact ⟨hu, by rw [z]⟩
    have c20 : c.P p 2 = 0 ↔ g = 0 := by
      rw [r2, e2]
      exact nI_eq (b := 0) (by omega) (by omega)
    refine ⟨?_, fun z => absurd z hu, fun _ => ?_⟩
    · unfold chsC mChs
      rw [r0, if_neg hu, if_neg hu]
      by_cases hg : g = 0
      · rw [if_pos (Or.inl (c20.mpr hg)), if_pos (Or.inl (fun z => by have := m20.mp z; omega))]
      · have hb : mBg m p := m20.mpr (by omega)
        have hz : ¬ m.P p 5 = nI 0 := by
          rcases hx with hx | hx
          · omega
          · rw [e5]
            have := hx.2.2.2 (by omega)
            exact fun z => by have := (nI_eq (by omega) (by omega)).mp z; omega
        obtain ⟨-, r7, -⟩ := (rc.2 hu).2.2 hz
        by_cases hw : mWt m p
        · rw [if_pos (Or.inr (Or.inl hw)), if_pos (Or.inr (by rw [r7]; exact (b2_0 (q := ¬ mWt m p)).mpr (fun z => z hw)))]
        · obtain ⟨d9, d10, -⟩ := rd hu hb.2 hw
          rw [if_neg (fun z => z.elim (fun z => hg (c20.mp z)) (fun z => by rw [r7, b2_0] at z; exact z hw))]
          have hba2 : ¬ ba = 2 := fun z => by have := hgb z; omega
          rw [RH 2 (by omega), RH 0 (by omega), RH 3 (by omega), d9, d10]
          have h2 : m.H 2 = 0 ↔ ba = 0 := by rw [sh.2.2.1]; exact nI_eq (b := 0) (by omega) (by omega)
          have h21 : m.H 2 = nI 1 ↔ ba = 1 := by rw [sh.2.2.1]; exact nI_eq (by omega) (by omega)
          by_cases h7 : m.P p 7 = 0
          · rw [if_pos (Or.inr (Or.inr h7))]
            have e90 : b2 (¬ m.P p 7 = 0) = 0 := (b2_0 (q := ¬ m.P p 7 = 0)).mpr (fun z => z h7)
            rw [if_pos e90]
            split
            · rfl
            · have ho0 : o = 0 := (nI_eq (b := 0) (by omega) (by omega)).mp (e7.symm.trans h7)
              have e : mDd m p = ddl (mNum m p) 1 := by
                unfold mDd
                rw [e7, ix_nI (by omega), ho0]
              have hl := ddl_len (f := mNum m p) 1
              rw [← e] at hl
              rw [show (mDd m p).length = 1 by omega]
          · have hn : ¬ (¬ mBg m p ∨ mWt m p ∨ m.P p 7 = 0) := fun z => z.elim (fun z => z hb) (fun z => z.elim hw h7)
            rw [if_neg hn]
            have e90 : ¬ b2 (¬ m.P p 7 = 0) = 0 := fun z => (b2_0 (q := ¬ m.P p 7 = 0)).mp z h7
            rw [if_neg e90]
            by_cases hb0 : ba = 0
            · have hm1 : ¬ m.H 2 = nI 1 := fun z => by have := h21.mp z; omega
              rw [if_pos (h2.mpr hb0), if_neg hm1]
            · rw [if_neg (fun z => hb0 (h2.mp z)), if_pos (h21.mpr (by omega))]
              unfold mReg
              rw [if_pos (by decide)]
    · unfold mChs
      rw [if_neg hu]
      split
      · exact ⟨1, by omega, by omega, rfl⟩
      · split
        · unfold mReg
          rw [if_pos (by decide)]
          exact ⟨_, hlen.1, hlen.2, rfl⟩
        · split
          · exact ⟨2, by omega, by omega, rfl⟩
          · exact ⟨r, by omega, by omega, sh.2.2.2.1⟩
end FF
