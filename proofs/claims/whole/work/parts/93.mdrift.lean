/-! THE MODEL'S CALLS: drift, its loop -/
def drX (np r wn : Nat) : Nat → Sx → Nat → (Nat → Sx) → Nat → Sx × Nat × (Nat → Sx) × Nat
  | 0, m, k, hs, sd => (m, k, hs, sd)
  | d + 1, m, k, hs, sd => drX np r wn d (chM np r wn m sd).2.1 (if (chM np r wn m sd).1 = true then kup k else k) (if (chM np r wn m sd).1 = true then hcons m hs else hs) (chM np r wn m sd).2.2
def GS (b po ba r n : Nat) (m : Sx) : Prop := ∃ t N, Iv b po ba r n t N m ∧ ∃ c, Rl c m
section RR
variable {L : Nat} {g : Nat → Nat → Int32} {m : Sx} {k : Nat} {hs : Nat → Sx} {kp : Nat → Bool} {im : Nat → Sx} {is : Nat → Nat} {sd bk : Nat} {ba bv : Nat → Int32} {rs : Nat → Sx} {b po bs r n t N : Nat} {f : Nat → Int32} {x1 x2 x3 x4 x5 : Int32} {h : Hp}
theorem beg_ok {p v : Nat} {x : Int32} (I : Iv b po bs r n t N m) (R : ∃ c, Rl c m) (hp : p < wN b + n) (hu : m.P p 0 = -1) (hN7 : N < 7) (hv : v < r) (hx : p < wN b → x = nI v) : Iv b po bs r n (t + 1) (N + 1) (mBeg m p x) ∧ ∃ c, Rl c (mBeg m p x) := by
  obtain ⟨c, R⟩ := R
  exact ⟨(beg_I I hp hu hN7 hv hx).1, _, beg_R I R hp hu hN7 hv hx⟩
theorem ch_ok (G : GS b po bs r n m) (hs' : sd < 2147483648) : GS b po bs r n (chM (wN b + n) r (wN b) m sd).2.1 ∧ (chM (wN b + n) r (wN b) m sd).2.2 < 2147483648 := by
  obtain ⟨t, N, I, R⟩ := G
  obtain ⟨hnp, q1, q2, q3, q4, q5, q6⟩ := beg_pre I
  have hn1 : 1 ≤ wN b + n := by
    have := wN_1 (b := b)
    omega
  have hr2 := I.1.1.2.2.2.1
  have hp5 : drN sd / 65536 % (wN b + n) < wN b + n := Nat.mod_lt _ (by omega)
  unfold chM
  generalize drN sd / 65536 % (wN b + n) = p at *
  have p5 : p < 5 := by omega
  by_cases hu : m.P p 0 = -1
  · rw [if_neg (fun z => z hu)]
    by_cases h7 : m.H 6 < nI 7
    · rw [if_pos h7]
      have hN7 : N < 7 := by
        rw [q5] at h7
        exact (nI_ltI (by omega) (by omega)).mp h7
      by_cases hw : p < wN b
      · rw [if_pos hw]
        have hv : drN (drN sd) / 65536 % r < r := Nat.mod_lt _ (by omega)
        obtain ⟨h1, h2⟩ := beg_ok I R hp5 hu hN7 hv (x := nI (drN (drN sd) / 65536 % r)) (fun _ => rfl)
        exact ⟨⟨_, _, h1, h2⟩, drN_lt _⟩
      · rw [if_neg hw]
        obtain ⟨h1, h2⟩ := beg_ok I R hp5 hu hN7 (show 0 < r by omega) (x := nI 0) (fun _ => rfl)
        exact ⟨⟨_, _, h1, h2⟩, drN_lt _⟩
    · rw [if_neg h7]
      exact ⟨⟨t, N, I, R⟩, drN_lt _⟩
  · rw [if_pos hu]
    obtain ⟨kk, k1, k7, ek⟩ := chs_k I R p5 hu
    have ei : ix (mChs m p) = kk := by rw [ek, ix_nI (by omega)]
    rw [ei]
    obtain ⟨s1, s2, s3, s4⟩ := st_ok I R p5 hu ek k7 (show drN (drN sd) / 65536 % kk < kk from Nat.mod_lt _ (by omega))
    exact ⟨⟨_, _, s1, s2⟩, drN_lt _⟩
theorem L_drift {x : Nat} (hx : x < 1000) : ∀ d j (m : Sx) (k : Nat) (hs : Nat → Sx) (sd : Nat) (g : Nat → Nat → Int32), j + d = x → GS b po bs r n m → k ≤ 16 → sd < 2147483648 → MT m k hs kp im is sd bk ba bv g →
    ∃ g', Rr 194 17 [.ref 86, .int (nI x), .int (nI j)] [] (HP L g) = some (some ((drX (wN b + n) r (wN b) d m k hs sd).1.H 5), HP L g') ∧ MT (drX (wN b + n) r (wN b) d m k hs sd).1 (drX (wN b + n) r (wN b) d m k hs sd).2.1 (drX (wN b + n) r (wN b) d m k hs sd).2.2.1 kp im is (drX (wN b + n) r (wN b) d m k hs sd).2.2.2 bk ba bv g' ∧ frM g g'
  | 0, j, m, k, hs, sd, g, h, G, hk, hsd, T => by
    have : j = x := by omega
    subst this
    refine ⟨g, ?_, T, frM_r⟩
    rw [e194_17]
    simp only [e194_0, e194_1, e194_2, e194_3, e194_6, e194_9, e194_12, e194_14, e194_15, e194_16, e194_18, e194_19, e194_22, e194_23, e194_26, e194_29, e194_32, e194_33, e194_36, e194_37, e194_38, en_10, en_188, Int32.le_refl, if_true, i_86, f_86_0, a_87, n_87, in_H, T_H (show 5 < 7 by omega) T, not_false_eq_true, lvH_Hq, Option.bind_some, psh_i, psh_n, Hq_G, Hq_setG, upf_same, upf_upf, Nat.reduceLT, Nat.reduceLeDiff, Nat.reduceAdd, Nat.reduceMul]
    rfl
  | d + 1, j, m, k, hs, sd, g, h, G, hk, hsd, T => by
    have h1 : ¬ nI x ≤ nI j := nI_ge (by omega) (by omega)
    obtain ⟨t, N, I, R⟩ := G
    obtain ⟨g1, d1, T1, F1⟩ := M_chance (L := L) I R hk hsd T
    obtain ⟨G2, hsd2⟩ := ch_ok (sd := sd) ⟨t, N, I, R⟩ hsd
    obtain ⟨g2, d2, T2, F2⟩ := L_drift hx d (j + 1) _ _ _ _ g1 (by omega) G2 (by
      split
      · exact kup_16
      · exact hk) hsd2 T1
    refine ⟨g2, ?_, T2, frM_t F1 F2⟩
    rw [e194_17]
    simp only [e194_0, e194_1, e194_2, e194_3, e194_6, e194_9, e194_12, e194_14, e194_15, e194_16, e194_18, e194_19, e194_22, e194_23, e194_26, e194_29, e194_32, e194_33, e194_36, e194_37, e194_38, en_10, en_188, h1, if_false, i_86, d1, nI_add, lvH_Hq, Option.bind_some, psh_n]
    exact d2
theorem M_drift {x : Nat} (h1 : 1 ≤ x) (h20 : x ≤ 20) (G : GS b po bs r n m) (hk : k ≤ 16) (hsd : sd < 2147483648) (T : MT m k hs kp im is sd bk ba bv g) :
    ∃ g', Den 194 [.ref 86, .int (nI x)] (HP L g) = some (some ((drX (wN b + n) r (wN b) x m k hs sd).1.H 5), HP L g') ∧ MT (drX (wN b + n) r (wN b) x m k hs sd).1 (drX (wN b + n) r (wN b) x m k hs sd).2.1 (drX (wN b + n) r (wN b) x m k hs sd).2.2.1 kp im is (drX (wN b + n) r (wN b) x m k hs sd).2.2.2 bk ba bv g' ∧ frM g g' := by
  obtain ⟨g2, d2, T2, F2⟩ := L_drift (L := L) (show x < 1000 by omega) x 0 m k hs sd g (by omega) G hk hsd T
  have e : b2 (nI 1 ≤ nI x ∧ nI x ≤ nI 20) = nI 1 := if_pos ((rng_n (by omega) (by omega)).mpr ⟨x, h1, h20, rfl⟩)
  refine ⟨g2, ?_, T2, F2⟩
  rw [D0_194]
  simp only [e194_0, e194_1, e194_2, e194_3, e194_6, e194_9, e194_12, e194_14, e194_15, e194_16, e194_18, e194_19, e194_22, e194_23, e194_26, e194_29, e194_32, e194_33, e194_36, e194_37, e194_38, en_10, en_188, M_in (x := nI x) (lo := nI 1) (hi := nI 20) (l := 1) (u := 20) (by decide) (by decide), e, one_n0, not_false_eq_true, if_true, lvH_Hq, Option.bind_some, psh_i]
  exact d2
theorem M_drift0 {x : Int32} (hx : ¬ ∃ j, 1 ≤ j ∧ j ≤ 20 ∧ x = nI j) : Den 194 [.ref 86, .int x] (HP L g) = some (some (-1000000002), HP L g) := by
  have e : b2 (nI 1 ≤ x ∧ x ≤ nI 20) = nI 0 := if_neg (fun z => hx ((rng_n (by omega) (by omega)).mp z))
  rw [D0_194]
  simp only [e194_0, e194_1, e194_2, e194_3, e194_6, e194_9, e194_12, e194_14, e194_15, e194_16, e194_18, e194_19, e194_22, e194_23, e194_26, e194_29, e194_32, e194_33, e194_36, e194_37, e194_38, en_10, en_188, M_in (x := x) (lo := nI 1) (hi := nI 20) (l := 1) (u := 20) (by decide) (by decide), e, zz, not_true_eq_false, if_false, lvH_Hq, Option.bind_some, psh_i]
end RR
