/-! THE MODEL'S CALLS: drift, its loop -/
def drX (np r wn : Nat) : Nat → Sx → Nat → (Nat → Sx) → Nat → Sx × Nat × (Nat → Sx) × Nat
  | 0, m, k, hs, sd => (m, k, hs, sd)
  | d + 1, m, k, hs, sd => drX np r wn d (chM np r wn m sd).2.1 (if (chM np r wn m sd).1 = true then kup k else k) (if (chM np r wn m sd).1 = true then hcons m hs else hs) (chM np r wn m sd).2.2
def GS (b po ba r n : Nat) (m : Sx) : Prop := ∃ t N, Iv b po ba r n t N m ∧ ∃ c, Rl c m
section RR
variable {L : Nat} {g : Nat → Nat → Int32} {m : Sx} {k : Nat} {hs : Nat → Sx} {kp : Nat → Bool} {im : Nat → Sx} {is : Nat → Nat} {sd bk : Nat} {ba bv : Nat → Int32} {rs : Nat → Sx} {b po bs r n t N : Nat} {f : Nat → Int32} {x1 x2 x3 x4 x5 : Int32} {h : Hp}
theorem beg_ok {p v : Nat} {x : Int32} (I : Iv b po bs r n t N m) (R : ∃ c, Rl c m) (hp : p < wN b + n) (hu : m.P p 0 = -1) (hN7 : N < 7) (hv : v < r) (hx : p < wN b → x = nI v) : Iv b po bs r n (t + 1) (N + 1) (mBeg m p x) ∧ ∃ c, Rl c (mBeg m p x) := by
  obtain ⟨c, R⟩ := R
  exact ⟨(beg_I I hp hu hN7 hv hx).1, _, beg_R I R hp hu hN7 hv hx⟩
theorem ch_ok (G : GS b po bs r n m) (hs' : sd < 2147483648) : GS b po bs r n (chM (wN b + n) r (wN b) m sd).2.1 ∧ (chM (wN b + n) r (wN b) m sd).2.2 < 2147483648 := by
  obtain ⟨t, N, I, R⟩ := G
  obtain ⟨hnp, q1, q2, q3, q4, q5, q6⟩ := beg_pre I
  have hn1 : 1 ≤ wN b + n := by
    have := wN_1 (b := b)
    omega
  have hr2 := I.1.1.2.2.2.1
  have hp5 : drN sd / 65536 % (wN b + n) < wN b + n := Nat.mod_lt _ (by omega)
  unfold chM
  generalize drN sd / 65536 % (wN b + n) = p at *
  have p5 : p < 5 := by omega
  by_cases hu : m.P p 0 = -1
  · rw [if_neg (fun z => z hu)]
    by_cases h7 : m.H 6 < nI 7
    · rw [if_pos h7]
      have hN7 : N < 7 := by
        rw [q5] at h7
        exact (nI_ltI (by omega) (by omega)).mp h7
      by_cases hw : p < wN b
      · rw [if_pos hw]
        have hv : drN (drN sd) / 65536 % r < r := Nat.mod_lt _ (by omega)
        obtain ⟨h1, h2⟩ := beg_ok I R hp5 hu hN7 hv (x := nI (drN (drN sd) / 65536 % r)) (fun _ => rfl)
        exact ⟨⟨_, _, h1, h2⟩, drN_lt _⟩
      · rw [if_neg hw]
        obtain ⟨h1, h2⟩ := beg_ok I R hp5 hu hN7 (show 0 < r by omega) (x := nI 0) (fun _ => rfl)
        exact ⟨⟨_, _, h1, h2⟩, drN_lt _⟩
    · rw [if_neg h7]
      exact ⟨⟨t, N, I, R⟩, drN_lt _⟩
  · rw [if_pos hu]
    obtain ⟨kk, k1, k7, ek⟩ := chs_k I R p5 hu
    have ei : ix (mChs m p) = kk := by rw [ek, ix_nI (by omega)]
    rw [ei]
    obtain ⟨s1, s2, s3, s4⟩ := st_ok I R p5 hu ek k7 (show drN (drN sd) / 65536 % kk < kk from Nat.mod_lt _ (by omega))
    exact ⟨⟨_, _, s1, s2⟩, drN_lt _⟩
end RR
