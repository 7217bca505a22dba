/-! THOSE HOLD THROUGH EVERY STEP AND BEGINNING -/
def GV (b po ba r n t N : Nat) (m : Sx) : Prop := Iv b po ba r n t N m ∧ (∃ c, Rl c m) ∧ VI b r N m
section VV
variable {b po ba r n t N p q k j : Nat} {m s : Sx} {x y v tt : Int32}
theorem VA_c (V : VA r N m) (h : s.A = m.A) : VA r N s := by
  unfold VA
  rw [h]
  exact V
theorem VA_end (V : VA r N m) (h : s.A = m.A) (ht : tt = -1 ∨ (m.A (ix (s.P p 0)) 1 = -1 ∧ ∃ x, x < r ∧ tt = nI x)) : VA r N (mEnd s p tt) := by
  have hA : ∀ a k, (mEnd s p tt).A a k = if a = ix (s.P p 0) ∧ k = 4 then tt else if a = ix (s.P p 0) ∧ k = 3 then s.H 5 else s.A a k := fun a k => rfl
  have h1 : ∀ a, (mEnd s p tt).A a 1 = m.A a 1 := fun a => by
    rw [hA, if_neg (by omega), if_neg (by omega), h]
  have h2 : ∀ a, (mEnd s p tt).A a 2 = m.A a 2 := fun a => by
    rw [hA, if_neg (by omega), if_neg (by omega), h]
  refine ⟨fun a ha => ?_, fun a ha a' ha' => ?_⟩
  · rw [h1]
    by_cases c : a = ix (s.P p 0)
    · rw [hA, if_pos ⟨c, rfl⟩, c]
      exact ht
    · rw [hA, if_neg (fun z => c z.1), if_neg (fun z => c z.1), h]
      exact V.1 a ha
  · rw [h2, h2]
    exact V.2 a ha a' ha'
/-- what a read tells as it ends -/
theorem tr_V (ok : okSh b po ba r n) (sh : shH b po ba r n m) (hp : ¬ p < wN b) (V : ¬ b = 2 → VP b r m) (hx : ¬ b = 2 → Vl r x) (hx4 : b < 2 → Ix 4 x) (h1 : b = 2 → ∃ k, k < r ∧ m.P p 1 = nI k) : mTr m p x = -1 ∨ ∃ y, y < r ∧ mTr m p x = nI y := by
  have hb := ok.1
  have hw := wrs_b (m := m) sh.1 hb
  unfold mTr
  rw [hw, if_neg hp]
  have hH : ∀ k, (mS1 m p).H k = m.H k := fun _ => rfl
  have md : ∀ z, Vl r z → md10 z = -1 ∨ ∃ y, y < r ∧ md10 z = nI y := fun z hz => Or.inr (Vl_md hz)
  have hRd : ¬ b = 2 → VP b r (mRdS (mS1 m p) p (m.P p 1) x) := fun hb2 => VP_RdS (VP_S1 (V hb2)) hp (hx hb2)
  unfold mRdT
  simp only [hH, sh.1]
  by_cases c2 : b = 2
  · rw [if_pos (by rw [c2])]
    obtain ⟨k, hk, e⟩ := h1 c2
    rw [e]
    repeat' split
    · exact Or.inr ⟨k, hk, rfl⟩
    · exact Or.inr ⟨k, hk, rfl⟩
    · exact Or.inl rfl
  · rw [if_neg (nI_n (by omega) (by omega) c2)]
    have X := hx c2
    have R := hRd c2
    by_cases c3 : b = 3
    · rw [if_pos (by rw [c3])]
      split
      · exact md _ X
      · exact md _ (R.2.1 p hp)
    · rw [if_neg (nI_n (by omega) (by omega) c3)]
      by_cases c4 : b = 4
      · rw [if_pos (by rw [c4])]
        split
        · exact md _ (R.2.1 p hp)
        · exact Or.inl rfl
      · rw [if_neg (nI_n (by omega) (by omega) c4)]
        by_cases c5 : b = 5
        · rw [if_pos (by rw [c5])]
          split
          · exact md _ (R.2.2 p 4 (Or.inl rfl))
          · exact Or.inl rfl
        · rw [if_neg (nI_n (by omega) (by omega) c5)]
          obtain ⟨a, ha, e⟩ := hx4 (by omega)
          obtain ⟨a2, ha2, e2, hr⟩ := X
          have e3 : a = a2 := (nI_eq (by omega) (by omega)).mp (e.symm.trans e2)
          subst e3
          exact Or.inr ⟨a, by omega, e⟩
theorem mBgA_A {i : Nat} : (mBgA m p i).A = m.A := by
  unfold mBgA
  refine itr_I (P := fun s : Sx => s.A = m.A) i _ rfl (fun s q _ h => ?_)
  unfold mBgB
  repeat' split
  all_goals first
    | exact h
    | (rw [mNote_A]; exact h)
theorem VI_step (I : Iv b po ba r n t N m) (R : ∃ c, Rl c m) (V : VI b r N m) (hp : p < 5) (hu : ¬ m.P p 0 = -1) (hj : j < 2147483648) (hch : nI j < mChs m p) : VI b r N (mStp m p (wN b + n) (nI j)) := by
  have I' := I
  have ht := tm_le I.1
  obtain ⟨⟨ok, sh, h6, hN, hC0, hA0, hS, hE, hPI, ⟨-, hev⟩, huw, hK⟩, h5⟩ := I
  obtain ⟨⟨⟨kp, gt, f3, k3, k3b, f4, k4, k4b⟩, f6, o, ho, e7, e8⟩, -, hPU⟩ := hPI p hp
  obtain ⟨hpn, a, ha, e0, ea0, ea3, ea4, v, hv, ev1, ev2, k, al, g, e1, e5, e2, hg2, hgb, hx⟩ := hPU hu
  have hal5 := acc_le (q := p) ok hv
  have hb := ok.1
  have hba := ok.2.2.1
  have hval := val_b e0 (by omega : a < 1000) ev1
  have hww := wrs_b (m := m) sh.1 hb
  obtain ⟨VAm, VPm⟩ := V
  have key : VI b r N (mStA m p (wN b + n) (nI j)) := by
    unfold mStA
    by_cases hz : m.P p 5 = 0
    · rw [if_pos hz]
      exact ⟨VA_end VAm rfl (Or.inl rfl), fun hb2 => VP_end (VPm hb2)⟩
    · rw [if_neg hz]
      have hz' : ¬ m.P p 5 = nI 0 := hz
      have hx := hx.resolve_left (fun z => hz' (by rw [e5, z.1]))
      obtain ⟨hk, -, hal, -⟩ := hx
      have hk := hk (by omega)
      have hcel := cel_b ok sh hpn hv hval e1 e5 hk hal
      by_cases hbg : m.H 2 < nI 2 ∧ m.P p 2 = 0
      · rw [if_pos hbg]
        refine ⟨VA_c VAm ?_, fun hb2 => VP_bg I' (VPm hb2) hb2 hp hu⟩
        exact mBgA_A
      · rw [if_neg hbg]
        have hg : m.P p 2 = nI 1 ∨ ba = 2 := by
          by_cases z : ba = 2
          · exact Or.inr z
          · have : g = 1 := by
              by_cases z2 : g = 0
              · refine absurd ⟨?_, ?_⟩ hbg
                · rw [sh.2.2.1]
                  exact nI_lt (by omega) (by omega)
                · rw [e2, z2]
                  rfl
              · omega
            exact Or.inl (by rw [e2, this])
        by_cases hw : mWt m p
        · rw [if_pos hw]
          have hVP : ¬ b = 2 → VP b r (mEwA m p) := by
            intro hb2
            have V := VPm hb2
            have hn := nm_V I' V hb2 hp hu
            unfold mEwA
            dsimp only
            refine VP_P (VP_P ?_ (Or.inr (Or.inl (Or.inl (by omega))))) (Or.inr (Or.inl (Or.inl (by omega))))
            split
            · rename_i c5
              refine VP_P (VP_C V hn) (Or.inr (Or.inr ⟨?_, rfl⟩))
              have b5 : b = 5 := by
                rw [sh.1] at c5
                exact (nI_eq (by omega) (by omega)).mp c5
              by_cases c : p < wN b
              · exact c
              · exfalso
                unfold mWt at hw
                rw [hww, if_neg c, sh.1] at hw
                exact nI_n (by omega) (by omega) (show ¬ b = 4 by omega) hw.1
            · exact VP_C V hn
          have hAA : (mEwA m p).A = m.A := wA_A
          unfold mEw
          split
          · refine ⟨VA_end VAm hAA ?_, fun hb2 => VP_end (hVP hb2)⟩
            split
            · exact Or.inl rfl
            · rename_i c
              rw [hww] at c
              have c4 : b = 4 := by
                unfold mWt at hw
                rw [hww, if_neg c, sh.1] at hw
                exact (nI_eq (by omega) (by omega)).mp hw.1
              refine Or.inr ⟨?_, Vl_md ((hVP (by omega)).2.1 p c)⟩
              have e : (mEwA m p).P p 0 = nI a := (wA_Pk (by omega) (by omega) (by omega)).trans e0
              rw [e, ix_nI (by omega)]
              exact ev2 c
          · exact ⟨VA_c VAm hAA, hVP⟩
        · rw [if_neg hw]
          obtain ⟨c, R⟩ := R
          have hgot := got_b (k := k) (al := al) (g := g) I' R hp hu hz' hw hg ⟨_, hcel.2, hcel.1⟩ hj hch
          have hgV : ¬ b = 2 → Vl r (mGot m p (nI j)) := fun hb2 => got_V I' (VPm hb2) hb2 hp hu hw hg hj hch
          have hSr : ¬ b = 2 → VP b r (mSr m p (mGot m p (nI j))) := by
            intro hb2
            unfold mSr
            rw [hww]
            split
            · exact VP_P (VP_S1 (VPm hb2)) (Or.inl (Vl_mx ((VPm hb2).2.2 p 4 (Or.inl rfl)) (hgV hb2)))
            · rename_i c
              exact VP_RdS (VP_S1 (VPm hb2)) c (hgV hb2)
          rw [mEr_eq]
          split
          · exact ⟨VA_c VAm mSr_A, hSr⟩
          · rename_i hne
            have hpw : ¬ p < wN b := fun z => hne (by
              unfold mTr
              rw [hww, if_pos z])
            refine ⟨VA_end VAm mSr_A (Or.inr ⟨?_, ?_⟩), fun hb2 => VP_end (hSr hb2)⟩
            · rw [mSr_k (by omega) (by omega) (by omega) (by omega), e0, ix_nI (by omega)]
              exact ev2 hpw
            · refine (tr_V ok sh hpw VPm hgV (fun hb2 => ?_) (fun hb2 => ⟨k, ?_, e1⟩)).resolve_left hne
              · have := hgot.2.1
                rwa [bnd_lo (by omega)] at this
              · have : accN b po r n p v = r := by
                  unfold accN
                  rw [if_pos hb2, if_neg (fun z => hpw z.1)]
                omega
  obtain ⟨k1, k2⟩ := key
  exact ⟨VA_c k1 rfl, fun hb2 => VP_H (k2 hb2)⟩
theorem VI_beg {v : Nat} (I : Iv b po ba r n t N m) (V : VI b r N m) : VI b r (N + 1) (mBeg m p x) := by
  have ht := tm_le I.1
  have hN := I.1.2.2.2.1
  have h6 := I.1.2.2.1
  have hb := I.1.1.1
  have hww := wrs_b (m := m) I.1.2.1.1 hb
  have e6 : ix (m.H 6) = N := by rw [h6, ix_nI (by omega)]
  obtain ⟨VAm, VPm⟩ := V
  refine ⟨⟨fun a ha => ?_, fun a ha a' ha' => ?_⟩, fun hb2 => ?_⟩
  · by_cases c : a = ix (m.H 6)
    · rw [c, mB_A4]
      exact Or.inl rfl
    · rw [mB_An c, mB_An c]
      exact VAm.1 a (by omega)
  · have c' : ¬ a' = ix (m.H 6) := by omega
    rw [mB_An c']
    by_cases c : a = ix (m.H 6)
    · rw [c, mB_A2, I.2]
      obtain ⟨p', -, -, -, -, s', hs', e', -⟩ := I.1.2.2.2.2.2.1 a' (by omega)
      rw [e']
      exact nI_lt hs' (by omega)
    · rw [mB_An c]
      exact VAm.2 a (by omega) a' ha'
  · obtain ⟨v1, v2, v3⟩ := VPm hb2
    have hr2 := I.1.1.2.2.2.1
    have hr4 := I.1.1.2.2.2.2.1
    refine ⟨fun c => by rw [mB_C]; exact v1 c, fun q hq => ?_, fun q k hk => ?_⟩
    · by_cases c : q = p
      · subst c
        rw [mB_P3]
        unfold kpM
        rw [hww, if_neg hq]
        exact v2 q hq
      · rw [mB_Pn c]
        exact v2 q hq
    · by_cases c : q = p
      · subst c
        by_cases c4 : k = 4
        · rw [c4, mB_P4]
          exact Vl_v (by omega) hr4
        · rw [mB_Pk (by omega) (by omega) (by omega) c4 (by omega) (by omega) (by omega)]
          exact v3 q k hk
      · rw [mB_Pn c]
        exact v3 q k hk
theorem VI_new (ok : okSh b po ba r n) : VI b r 0 (mNew (nI b) (nI po) (nI ba) (nI r) (nI n)) := by
  have hr2 := ok.2.2.2.1
  have hr4 := ok.2.2.2.2.1
  have h0 : Vl r (nI 0) := Vl_v (by omega) hr4
  refine ⟨⟨fun a ha => by omega, fun a ha => by omega⟩, fun hb2 => ?_⟩
  unfold mNew
  have hb : ¬ nI b = nI 2 := nI_n (by have := ok.1; omega) (by omega) hb2
  refine itr_I (P := VP b r) 5 _ ?_ (fun s q _ hs => VP_P hs (Or.inr (Or.inl (Or.inl (by omega)))))
  rw [if_neg hb]
  exact VP_C ⟨fun _ => h0, fun _ _ => h0, fun _ _ _ => h0⟩ h0
end VV
