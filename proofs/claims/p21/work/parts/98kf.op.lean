/-! A HOUSE: what its 85 cells stand for; what each call makes of it -/
abbrev Cg : Type := Nat × Nat × Nat × Nat × Nat
abbrev Hs : Type := Cg × Nat × Nat × Sx × Nat × (Nat → Sx) × (Nat → Bool) × (Nat → Sx) × (Nat → Nat) × Nat
abbrev mkH (b po bs r n t N : Nat) (m : Sx) (k : Nat) (hs : Nat → Sx) (kp : Nat → Bool) (im : Nat → Sx) (is : Nat → Nat) (sd : Nat) : Hs := ((b, po, bs, r, n), t, N, m, k, hs, kp, im, is, sd)
def GVs (m : Sx) : Prop := ∃ b po bs r n t N, GV b po bs r n t N m
def HI (s : Hs) : Prop := match s with
  | ((b, po, bs, r, n), t, N, m, k, hs, kp, im, is, sd) => GV b po bs r n t N m ∧ k ≤ 16 ∧ sd < 2147483648 ∧ (∀ i, i < k → GVs (hs i)) ∧ ∀ i, i < 2 → kp i = true → GVs (im i) ∧ is i < 2147483648
def KK (s : Hs) (g : Nat → Nat → Int32) : Prop := match s with
  | ((b, _, _, _, n), _, _, m, k, hs, kp, im, is, sd) => ∃ (c : Sx) (hc ic : Nat → Sx) (ba bv : Nat → Int32), Rl c m ∧ HRl k hs hc ∧ (∀ i, i < 2 → kp i = true → ∃ b po bs r n t N, Iv b po bs r n t N (im i) ∧ Rl (ic i) (im i)) ∧ KWm b n m g ∧ KT c k hc kp ic is sd 0 ba bv g
/-- a call of the house's: what it answers, what becomes of the house -/
def Op (L y : Nat) (As : List Value) (s : Hs) (v : Int32) (s' : Hs) : Prop := ∀ g, KK s g → ∃ g', Den y (.ref 1 :: As) (HP L g) = some (some v, HP L g') ∧ KK s' g' ∧ frC g g'
theorem KW_7 {b n : Nat} {m : Sx} {g g' : Nat → Nat → Int32} (W : KWm b n m g) (h7 : g' 7 = g 7) (h53 : g' 53 = g 53) : KWm b n m g' := KW_fr W h7 h53
theorem KW_0 {b n : Nat} {m : Sx} {g : Nat → Nat → Int32} (h : g 7 5 = nI 0) : KWm b n m g := Or.inl h
section OO
variable {L b po bs r n t N k sd p j : Nat} {m : Sx} {hs im : Nat → Sx} {kp : Nat → Bool} {is : Nat → Nat} {x y : Int32}
theorem tl_0 {np nc : Nat} {ba bv : Nat → Int32} : tlM m N np nc k sd 0 ba bv j = tlM m N np nc k sd 0 (fun _ => 0) (fun _ => 0) j := by
  unfold tlM
  repeat' split
  all_goals rfl
theorem O_told (G : GV b po bs r n t N m) (hj : j < 19) : Op L 186 [.int (nI j)] (mkH b po bs r n t N m k hs kp im is sd) (tlM m N (wN b + n) (clN b r n) k sd 0 (fun _ => 0) (fun _ => 0) j) (mkH b po bs r n t N m k hs kp im is sd) := by
  rintro g ⟨c, hc, ic, ba, bv, R, H, HM, W, T⟩
  obtain ⟨g', d, T', h7, h53, F⟩ := C_told (L := L) (bk := 0) (by omega) (fun i hi => by omega) G.1 R hj T
  rw [tl_0] at d
  exact ⟨g', d, ⟨c, hc, ic, ba, bv, R, H, HM, KW_7 W h7 h53, T'⟩, F⟩
theorem O_cell (G : GV b po bs r n t N m) (hj : j < clN b r n) : Op L 137 [.int (nI j)] (mkH b po bs r n t N m k hs kp im is sd) (m.C j) (mkH b po bs r n t N m k hs kp im is sd) := by
  rintro g ⟨c, hc, ic, ba, bv, R, H, HM, W, T⟩
  exact ⟨g, (C_cell (L := L) (x := 0) G.1 R T).1 j hj, ⟨c, hc, ic, ba, bv, R, H, HM, W, T⟩, frC_r⟩
theorem O_process (G : GV b po bs r n t N m) (hp : p < wN b + n) (hj : j < 6) : Op L 155 [.int (nI p), .int (nI j)] (mkH b po bs r n t N m k hs kp im is sd) (prM m p j) (mkH b po bs r n t N m k hs kp im is sd) := by
  rintro g ⟨c, hc, ic, ba, bv, R, H, HM, W, T⟩
  exact ⟨g, C_process G.1 R hp hj T, ⟨c, hc, ic, ba, bv, R, H, HM, W, T⟩, frC_r⟩
theorem O_act (G : GV b po bs r n t N m) (hp : p < N) (hj : j < 7) : Op L 180 [.int (nI p), .int (nI j)] (mkH b po bs r n t N m k hs kp im is sd) (acM m N p j) (mkH b po bs r n t N m k hs kp im is sd) := by
  rintro g ⟨c, hc, ic, ba, bv, R, H, HM, W, T⟩
  exact ⟨g, C_act G.1 R hp hj T, ⟨c, hc, ic, ba, bv, R, H, HM, W, T⟩, frC_r⟩
theorem O_act0 (G : GV b po bs r n t N m) (hx : ¬ Ix N x) : Op L 180 [.int x, .int y] (mkH b po bs r n t N m k hs kp im is sd) (-1000000001) (mkH b po bs r n t N m k hs kp im is sd) := by
  rintro g ⟨c, hc, ic, ba, bv, R, H, HM, W, T⟩
  exact ⟨g, C_act0 G.1 R hx T, ⟨c, hc, ic, ba, bv, R, H, HM, W, T⟩, frC_r⟩
theorem O_ways (G : GV b po bs r n t N m) (hj : j < 4) : Op L 187 [.int (nI j)] (mkH b po bs r n t N m k hs kp im is sd) (wAns (wAll (wN b + n) N m) j) (mkH b po bs r n t N m k hs kp im is sd) := by
  rintro g ⟨c, hc, ic, ba, bv, R, H, HM, W, T⟩
  obtain ⟨g', d, T', W', F⟩ := C_ways (L := L) G.1 R hj T W
  exact ⟨g', d, ⟨c, hc, ic, ba, bv, R, H, HM, W', T'⟩, F⟩
theorem GV_new (ok : okSh b po bs r n) : GV b po bs r n 0 0 (mNew (nI b) (nI po) (nI bs) (nI r) (nI n)) :=
  ⟨new_I ok, ⟨_, new_R (s := shp5 zS (nI b) (nI po) (nI bs) (nI r) (nI n)) ⟨rfl, rfl, rfl, rfl, rfl⟩⟩, VI_new ok⟩
theorem O_build {b' po' bs' r' n' : Nat} (ok : okSh b' po' bs' r' n') : Op L 153 [.int (nI b'), .int (nI po'), .int (nI bs'), .int (nI r'), .int (nI n')] (mkH b po bs r n t N m k hs kp im is sd) (nI (wN b' + n')) (mkH b' po' bs' r' n' 0 0 (mNew (nI b') (nI po') (nI bs') (nI r') (nI n')) 0 hs kp im is sd) := by
  rintro g ⟨c, hc, ic, ba, bv, R, H, HM, W, T⟩
  obtain ⟨g1, c', d1, T1, h7, F1, R1⟩ := C_build (L := L) ok T
  exact ⟨g1, d1, ⟨c', hc, ic, ba, bv, R1, fun i hi => by omega, HM, KW_0 h7, T1⟩, F1⟩
theorem O_clear (G : GV b po bs r n t N m) : Op L 154 [] (mkH b po bs r n t N m k hs kp im is sd) (nI N) (mkH b po bs r n 0 0 (mNew (nI b) (nI po) (nI bs) (nI r) (nI n)) 0 hs kp im is sd) := by
  rintro g ⟨c, hc, ic, ba, bv, R, H, HM, W, T⟩
  obtain ⟨g1, d1, T1, h7, F1⟩ := C_clear (L := L) T
  rw [R.1.1 6 (by omega), G.1.1.2.2.1] at d1
  exact ⟨g1, d1, ⟨_, hc, ic, ba, bv, new_R (shC R G.1.1.2.1), fun i hi => by omega, HM, KW_0 h7, T1⟩, F1⟩
theorem O_beg (G : GV b po bs r n t N m) (hk : k ≤ 16) (hp : p < wN b + n) (hv : p < wN b → Ix r y) (hu : m.P p 0 = -1) (hN : N < 7) : Op L 166 [.int (nI p), .int y] (mkH b po bs r n t N m k hs kp im is sd) (nI N) (mkH b po bs r n (t + 1) (N + 1) (mBeg m p y) (kup k) (hcons m hs) kp im is sd) := by
  rintro g ⟨c, hc, ic, ba, bv, R, H, HM, W, T⟩
  obtain ⟨g1, d1, T1, h7, F1, R1⟩ := C_beg (L := L) G.1 R hp hv hu hN hk T
  exact ⟨g1, d1, ⟨_, _, ic, ba, bv, R1, HRl_cons G.1 R H, HM, KW_0 h7, T1⟩, F1⟩
theorem O_beg7 (G : GV b po bs r n t 7 m) (hp : p < wN b + n) (hv : p < wN b → Ix r y) (hu : m.P p 0 = -1) : Op L 166 [.int (nI p), .int y] (mkH b po bs r n t 7 m k hs kp im is sd) (-1000000004) (mkH b po bs r n t 7 m k hs kp im is sd) := by
  rintro g ⟨c, hc, ic, ba, bv, R, H, HM, W, T⟩
  exact ⟨g, C_beg3 G.1 R hp hv hu T, ⟨c, hc, ic, ba, bv, R, H, HM, W, T⟩, frC_r⟩
theorem O_step {kk : Nat} (G : GV b po bs r n t N m) (hk : k ≤ 16) (hp : p < wN b + n) (hu : ¬ m.P p 0 = -1) (hkk : mChs m p = nI kk) (hk7 : kk ≤ 7) (hj : j < kk) : Op L 169 [.int (nI p), .int (nI j)] (mkH b po bs r n t N m k hs kp im is sd) (b2 ((mStp m p (wN b + n) (nI j)).P p 0 = -1)) (mkH b po bs r n (t + 1) N (mStp m p (wN b + n) (nI j)) (kup k) (hcons m hs) kp im is sd) := by
  rintro g ⟨c, hc, ic, ba, bv, R, H, HM, W, T⟩
  have hnp := np_le G.1.1.1
  obtain ⟨-, R1⟩ := K_go (L := L) G.1 R (show p < 5 by omega) hu hkk hk7 hj
  obtain ⟨g1, d1, T1, h7, F1⟩ := C_step (L := L) G.1 R hp hu hkk hk7 hj hk T
  exact ⟨g1, d1, ⟨_, _, ic, ba, bv, R1, HRl_cons G.1 R H, HM, KW_0 h7, T1⟩, F1⟩
theorem O_run0 (hu : lst m = 5) : Op L 168 [] (mkH b po bs r n t N m k hs kp im is sd) (-1000000003) (mkH b po bs r n t N m k hs kp im is sd) := by
  rintro g ⟨c, hc, ic, ba, bv, R, H, HM, W, T⟩
  exact ⟨g, C_run0 R hu T, ⟨c, hc, ic, ba, bv, R, H, HM, W, T⟩, frC_r⟩
theorem O_run {t' : Nat} (G : GV b po bs r n t N m) (hk : k ≤ 16) (hu : ¬ lst m = 5) : Op L 168 [] (mkH b po bs r n t N m k hs kp im is sd) (nI (fw (wN b + n) 41 m 0).2) (mkH b po bs r n t' N (fw (wN b + n) 41 m 0).1 (kup k) (hcons m hs) kp im is sd) := by
  rintro g ⟨c, hc, ic, ba, bv, R, H, HM, W, T⟩
  obtain ⟨g1, c', t2, d1, T1, h7, F1, R1, I1⟩ := C_run (L := L) G.1 R hu hk T
  exact ⟨g1, d1, ⟨_, _, ic, ba, bv, R1, HRl_cons G.1 R H, HM, KW_0 h7, T1⟩, F1⟩
theorem O_bad0 (G : GV b po bs r n t N m) (hb : wBd (wAll (wN b + n) N m) = 0) : Op L 185 [] (mkH b po bs r n t N m k hs kp im is sd) (-1000000003) (mkH b po bs r n t N m k hs kp im is sd) := by
  rintro g ⟨c, hc, ic, ba, bv, R, H, HM, W, T⟩
  obtain ⟨g1, d1, T1, W1, F1⟩ := C_bad0 (L := L) G.1 R hb T W
  exact ⟨g1, d1, ⟨c, hc, ic, ba, bv, R, H, HM, W1, T1⟩, F1⟩
theorem O_bad {t' : Nat} (G : GV b po bs r n t N m) (hk : k ≤ 16) (hb : ¬ wBd (wAll (wN b + n) N m) = 0) : Op L 185 [] (mkH b po bs r n t N m k hs kp im is sd) (nI (wFd (wAll (wN b + n) N m))) (mkH b po bs r n t' N (wFs (wAll (wN b + n) N m)) (kup k) (hcons m hs) kp im is sd) := by
  rintro g ⟨c, hc, ic, ba, bv, R, H, HM, W, T⟩
  obtain ⟨g1, c', d1, T1, h7, F1, R1, -⟩ := C_bad (L := L) G.1 R hk hb T W
  exact ⟨g1, d1, ⟨_, _, ic, ba, bv, R1, HRl_cons G.1 R H, HM, KW_0 h7, T1⟩, F1⟩
theorem O_drift {x t' N' : Nat} (G : GV b po bs r n t N m) (hk : k ≤ 16) (hsd : sd < 2147483648) (h1 : 1 ≤ x) (h20 : x ≤ 20) : Op L 181 [.int (nI x)] (mkH b po bs r n t N m k hs kp im is sd) ((drX (wN b + n) r (wN b) x m k hs sd).1.H 5)
    (mkH b po bs r n t' N' (drX (wN b + n) r (wN b) x m k hs sd).1 (drX (wN b + n) r (wN b) x m k hs sd).2.1 (drX (wN b + n) r (wN b) x m k hs sd).2.2.1 kp im is (drX (wN b + n) r (wN b) x m k hs sd).2.2.2) := by
  rintro g ⟨c, hc, ic, ba, bv, R, H, HM, W, T⟩
  obtain ⟨g1, c', hc', d1, T1, W1, R1, H1, -, -, -, F1⟩ := C_drift (L := L) h1 h20 G.1 R hk hsd H T W
  exact ⟨g1, d1, ⟨c', hc', ic, ba, bv, R1, H1, HM, W1, T1⟩, F1⟩
theorem O_undo {b' po' bs' r' n' t' N' : Nat} (hk : k ≤ 16) (h1 : 1 ≤ j) (hj : j ≤ k) : Op L 119 [.int (nI j)] (mkH b po bs r n t N m k hs kp im is sd) (nI (k - j)) (mkH b' po' bs' r' n' t' N' (hs (j - 1)) (k - j) (fun i => hs (i + j)) kp im is sd) := by
  rintro g ⟨c, hc, ic, ba, bv, R, H, HM, W, T⟩
  obtain ⟨g1, d1, T1, h7, F1⟩ := C_undo1 (L := L) h1 hj hk T
  obtain ⟨_, _, _, _, _, _, _, I', R'⟩ := H (j - 1) (by omega)
  exact ⟨g1, d1, ⟨_, _, ic, ba, bv, R', fun i hi => H (i + j) (by omega), HM, KW_0 h7, T1⟩, F1⟩
theorem O_undo2 (hk : k ≤ 16) (h1 : 1 ≤ j) (h16 : j ≤ 16) (hj : ¬ j ≤ k) : Op L 119 [.int (nI j)] (mkH b po bs r n t N m k hs kp im is sd) (-1000000003) (mkH b po bs r n t N m k hs kp im is sd) := by
  rintro g ⟨c, hc, ic, ba, bv, R, H, HM, W, T⟩
  exact ⟨g, C_undo2 h1 h16 hj hk T, ⟨c, hc, ic, ba, bv, R, H, HM, W, T⟩, frC_r⟩
theorem O_keep (G : GV b po bs r n t N m) (hj : j < 2) : Op L 117 [.int (nI j)] (mkH b po bs r n t N m k hs kp im is sd) (nI 1) (mkH b po bs r n t N m 0 hs (setB kp j) (upf im j m) (upf is j sd) sd) := by
  rintro g ⟨c, hc, ic, ba, bv, R, H, HM, W, T⟩
  obtain ⟨g1, d1, T1, h7, h53, F1⟩ := C_keep1 (L := L) hj T
  refine ⟨g1, d1, ⟨_, _, _, ba, bv, R, fun i hi => by omega, fun i hi z => ?_, KW_7 W h7 h53, T1⟩, F1⟩
  by_cases e : i = j
  · rw [e, upf_same, upf_same]
    exact ⟨b, po, bs, r, n, t, N, G.1, R⟩
  · rw [upf_ne e, upf_ne e]
    refine HM i hi ?_
    unfold setB at z
    rwa [if_neg e] at z
theorem O_back {b' po' bs' r' n' t' N' : Nat} (hj : j < 2) (hk : kp j = true) (hs' : is j < 2147483648) : Op L 138 [.int (nI j)] (mkH b po bs r n t N m k hs kp im is sd) (nI 1) (mkH b' po' bs' r' n' t' N' (im j) 0 hs kp im is (is j)) := by
  rintro g ⟨c, hc, ic, ba, bv, R, H, HM, W, T⟩
  obtain ⟨_, _, _, _, _, _, _, I', R'⟩ := HM j hj hk
  obtain ⟨g1, d1, T1, h7, F1⟩ := C_back1 (L := L) hj hk hs' T
  exact ⟨g1, d1, ⟨_, _, ic, ba, bv, R', fun i hi => by omega, HM, KW_0 h7, T1⟩, F1⟩
theorem O_back2 (hj : j < 2) (hk : ¬ kp j = true) : Op L 138 [.int (nI j)] (mkH b po bs r n t N m k hs kp im is sd) (-1000000003) (mkH b po bs r n t N m k hs kp im is sd) := by
  rintro g ⟨c, hc, ic, ba, bv, R, H, HM, W, T⟩
  exact ⟨g, C_back2 hj hk T, ⟨c, hc, ic, ba, bv, R, H, HM, W, T⟩, frC_r⟩
/-! good states along longer deeds -/
theorem GV_ch (G : GV b po bs r n t N m) : ∃ t N, GV b po bs r n t N (chM (wN b + n) r (wN b) m sd).2.1 := by
  obtain ⟨hnp, q1, q2, q3, q4, q5, q6⟩ := beg_pre G.1
  have hn1 : 1 ≤ wN b + n := by
    have := wN_1 (b := b)
    omega
  have hr2 := G.1.1.1.2.2.2.1
  have hp5 : drN sd / 65536 % (wN b + n) < wN b + n := Nat.mod_lt _ (by omega)
  unfold chM
  generalize drN sd / 65536 % (wN b + n) = p at *
  have p5 : p < 5 := by omega
  by_cases hu : m.P p 0 = -1
  · rw [if_neg (fun z => z hu)]
    by_cases h7 : m.H 6 < nI 7
    · rw [if_pos h7]
      have hN7 : N < 7 := by
        rw [q5] at h7
        exact (nI_ltI (by omega) (by omega)).mp h7
      by_cases hw : p < wN b
      · rw [if_pos hw]
        have hv : drN (drN sd) / 65536 % r < r := Nat.mod_lt _ (by omega)
        exact ⟨_, _, GV_beg G hp5 hu hN7 hv (x := nI (drN (drN sd) / 65536 % r)) (fun _ => rfl)⟩
      · rw [if_neg hw]
        exact ⟨_, _, GV_beg G hp5 hu hN7 (show 0 < r by omega) (x := nI 0) (fun _ => rfl)⟩
    · rw [if_neg h7]
      exact ⟨t, N, G⟩
  · rw [if_pos hu]
    obtain ⟨kk, k1, k7, ek⟩ := chs_k G.1 G.2.1 p5 hu
    have ei : ix (mChs m p) = kk := by rw [ek, ix_nI (by omega)]
    rw [ei]
    exact ⟨_, _, GV_step G p5 hu ek k7 (show drN (drN sd) / 65536 % kk < kk from Nat.mod_lt _ (by omega))⟩
theorem HI_cons (G : GVs m) (H : ∀ i, i < k → GVs (hs i)) : ∀ i, i < kup k → GVs (hcons m hs i) := by
  intro i hi
  unfold hcons
  by_cases e : i = 0
  · rw [if_pos e]
    exact G
  · rw [if_neg e]
    unfold kup at hi
    exact H (i - 1) (by split at hi <;> omega)
theorem GV_dr : ∀ d (m : Sx) (k : Nat) (hs : Nat → Sx) (sd : Nat), (∃ t N, GV b po bs r n t N m) → k ≤ 16 → sd < 2147483648 → (∀ i, i < k → GVs (hs i)) →
    (∃ t N, GV b po bs r n t N (drX (wN b + n) r (wN b) d m k hs sd).1) ∧ (drX (wN b + n) r (wN b) d m k hs sd).2.1 ≤ 16 ∧ (drX (wN b + n) r (wN b) d m k hs sd).2.2.2 < 2147483648 ∧ ∀ i, i < (drX (wN b + n) r (wN b) d m k hs sd).2.1 → GVs ((drX (wN b + n) r (wN b) d m k hs sd).2.2.1 i)
  | 0, m, k, hs, sd, G, hk, hsd, H => ⟨G, hk, hsd, H⟩
  | d + 1, m, k, hs, sd, ⟨t, N, G⟩, hk, hsd, H => by
    refine GV_dr d _ _ _ _ (GV_ch G) ?_ (ch_ok (sd := sd) ⟨t, N, G.1, G.2.1⟩ hsd).2 ?_
    · split
      · exact kup_16
      · exact hk
    · split
      · exact HI_cons ⟨_, _, _, _, _, _, _, G⟩ H
      · exact H
theorem GV_fw : ∀ d (m : Sx) (c t : Nat), GV b po bs r n t N m → ∃ t', GV b po bs r n t' N (fw (wN b + n) d m c).1
  | 0, m, c, t, G => ⟨t, G⟩
  | d + 1, m, c, t, G => by
    unfold fw
    by_cases hl : lst m = 5
    · rw [if_pos hl]
      exact ⟨t, G⟩
    · rw [if_neg hl]
      rcases lst_of (m := m) with ⟨e, -⟩ | ⟨l1, l2, -⟩
      · exact absurd e hl
      · obtain ⟨kk, k1, k7, ek⟩ := chs_k G.1 G.2.1 l1 l2
        exact GV_fw d _ (c + 1) (t + 1) (GV_step G l1 l2 ek k7 (show 0 < kk by omega))
end OO
