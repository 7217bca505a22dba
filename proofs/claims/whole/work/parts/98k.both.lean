/-! BOTH SIDES: what holds of all cells between the law's calls; each call answers alike -/
def WW (g : Nat → Nat → Int32) : Prop := ∃ (b po bs r n t N : Nat) (m c : Sx) (k : Nat) (hs hc : Nat → Sx) (kp : Nat → Bool) (im ic : Nat → Sx) (is : Nat → Nat) (sd bk : Nat) (ba bv : Nat → Int32),
  Iv b po bs r n t N m ∧ Rl c m ∧ k ≤ 16 ∧ sd < 2147483648 ∧ bk ≤ 20 ∧ (∀ i, i < bk → Ix 7 (ba i)) ∧ HRl k hs hc ∧
  (∀ i, i < 2 → kp i = true → (∃ b po bs r n t N, Iv b po bs r n t N (im i) ∧ Rl (ic i) (im i)) ∧ is i < 2147483648) ∧
  KWm b n m g ∧ KT c k hc kp ic is sd bk ba bv g ∧ MT m k hs kp im is sd bk ba bv g
def Bth (L y1 y2 : Nat) (As : List Value) (g : Nat → Nat → Int32) : Prop := ∃ v g1 g2, Den y1 (.ref 1 :: As) (HP L g) = some (some v, HP L g1) ∧ g1 0 = g 0 ∧ Den y2 (.ref 86 :: As) (HP L g1) = some (some v, HP L g2) ∧ WW g2 ∧ g2 0 = g 0
section RR
variable {L : Nat} {g g' g1 g2 : Nat → Nat → Int32} {c m s : Sx} {k : Nat} {hs hc : Nat → Sx} {kp : Nat → Bool} {im ic : Nat → Sx} {is : Nat → Nat} {sd bk : Nat} {ba bv : Nat → Int32} {b po bs r n t N : Nat} {x y : Int32}
theorem MT_frC (M : MT m k hs kp im is sd bk ba bv g) (F : frC g g') : MT m k hs kp im is sd bk ba bv g' := by
  obtain ⟨⟨rs, r1, r2, r3⟩, t1, t2, t3, t4, t5, t6⟩ := M
  have h : ∀ i, 86 ≤ i → g' i = g i := fun i hi => F i (Or.inr hi)
  refine ⟨⟨rs, (h 87 (by omega)).trans r1, r2, r3⟩, ?_, ?_, ?_, ?_, fun i hi hk => ?_, fun i hi => ?_⟩
  · rw [h 86 (by omega)]; exact t1
  · rw [h 86 (by omega)]; exact t2
  · rw [h 86 (by omega)]; exact t3
  · rw [h 86 (by omega)]; exact t4
  · rw [h 88 (by omega)]; exact t5 i hi hk
  · rw [h 89 (by omega), h 90 (by omega)]; exact t6 i hi
theorem KT_frM (T : KT c k hc kp ic is sd bk ba bv g) (F : frM g g') : KT c k hc kp ic is sd bk ba bv g' := KT_fr T (fun i hi => F i hi.2.1)
theorem KW_frM (W : KWm b n m g) (F : frM g g') : KWm b n m g' := KW_fr W (F 7 (by omega)) (F 53 (by omega))
theorem KW_7 (W : KWm b n m g) (h7 : g' 7 = g 7) (h53 : g' 53 = g 53) : KWm b n m g' := KW_fr W h7 h53
theorem KW_0 (h : g 7 5 = nI 0) : KWm b n m g := Or.inl h
theorem WW_i (I : Iv b po bs r n t N m) (R : Rl c m) (hk : k ≤ 16) (hsd : sd < 2147483648) (hbk : bk ≤ 20) (hba : ∀ i, i < bk → Ix 7 (ba i)) (H : HRl k hs hc)
    (HM : ∀ i, i < 2 → kp i = true → (∃ b po bs r n t N, Iv b po bs r n t N (im i) ∧ Rl (ic i) (im i)) ∧ is i < 2147483648)
    (W : KWm b n m g1) (T : KT c k hc kp ic is sd bk ba bv g1) (F : frM g1 g2) (M : MT m k hs kp im is sd bk ba bv g2) : WW g2 :=
  ⟨b, po, bs, r, n, t, N, m, c, k, hs, hc, kp, im, ic, is, sd, bk, ba, bv, I, R, hk, hsd, hbk, hba, H, HM, KW_frM W F, KT_frM T F, M⟩
theorem fr_0 (F : frC g g1) (F2 : frM g1 g2) : g2 0 = g 0 := (F2 0 (by omega)).trans (F 0 (Or.inl rfl))
theorem f_0 (F : frC g g1) : g1 0 = g 0 := F 0 (Or.inl rfl)
theorem B_told (w : WW g) : Bth L 186 198 [.int x] g := by
  have w0 := w
  obtain ⟨b, po, bs, r, n, t, N, m, c, k, hs, hc, kp, im, ic, is, sd, bk, ba, bv, I, R, hk, hsd, hbk, hba, H, HM, W, T, M⟩ := w
  by_cases h : ∃ j, j < 19 ∧ x = nI j
  · obtain ⟨j, hj, e⟩ := h
    subst e
    obtain ⟨g1, d1, T1, h7, h53, F1⟩ := C_told (L := L) hbk hba I R hj T
    obtain ⟨g2, d2, M2, F2⟩ := M_told (L := L) hbk hba I hj (MT_frC M F1)
    exact ⟨_, g1, g2, d1, f_0 F1, d2, WW_i I R hk hsd hbk hba H HM (KW_7 W h7 h53) T1 F2 M2, fr_0 F1 F2⟩
  · exact ⟨_, g, g, C_told_out h, rfl, M_told_out (fun i hi e => h ⟨i, hi, e⟩), w0, rfl⟩
theorem B_cell (w : WW g) : Bth L 137 37 [.int x] g := by
  have w0 := w
  obtain ⟨b, po, bs, r, n, t, N, m, c, k, hs, hc, kp, im, ic, is, sd, bk, ba, bv, I, R, hk, hsd, hbk, hba, H, HM, W, T, M⟩ := w
  have c1 := C_cell (L := L) (x := x) I R T
  have c2 := M_cell (L := L) (x := x) I M
  by_cases h : Ix (clN b r n) x
  · obtain ⟨j, hj, e⟩ := h
    subst e
    exact ⟨_, g, g, c1.1 j hj, rfl, c2.1 j hj, w0, rfl⟩
  · exact ⟨_, g, g, c1.2 h, rfl, c2.2 h, w0, rfl⟩
theorem B_process (w : WW g) : Bth L 155 161 [.int x, .int y] g := by
  have w0 := w
  obtain ⟨b, po, bs, r, n, t, N, m, c, k, hs, hc, kp, im, ic, is, sd, bk, ba, bv, I, R, hk, hsd, hbk, hba, H, HM, W, T, M⟩ := w
  by_cases h : Ix (wN b + n) x
  · obtain ⟨p, hp, e⟩ := h
    subst e
    by_cases h2 : ∃ j, j < 6 ∧ y = nI j
    · obtain ⟨j, hj, e⟩ := h2
      subst e
      exact ⟨_, g, g, C_process I R hp hj T, rfl, M_process I hp hj M, w0, rfl⟩
    · exact ⟨_, g, g, C_process1 I R hp (fun i hi e => h2 ⟨i, hi, e⟩) T, rfl, M_process1 I hp (fun i hi e => h2 ⟨i, hi, e⟩) M, w0, rfl⟩
  · exact ⟨_, g, g, C_process0 I R h T, rfl, M_process0 I h M, w0, rfl⟩
theorem B_act (w : WW g) : Bth L 180 182 [.int x, .int y] g := by
  have w0 := w
  obtain ⟨b, po, bs, r, n, t, N, m, c, k, hs, hc, kp, im, ic, is, sd, bk, ba, bv, I, R, hk, hsd, hbk, hba, H, HM, W, T, M⟩ := w
  by_cases h : Ix N x
  · obtain ⟨p, hp, e⟩ := h
    subst e
    by_cases h2 : ∃ j, j < 7 ∧ y = nI j
    · obtain ⟨j, hj, e⟩ := h2
      subst e
      exact ⟨_, g, g, C_act I R hp hj T, rfl, M_act I hp hj M, w0, rfl⟩
    · exact ⟨_, g, g, C_act1 I R hp (fun i hi e => h2 ⟨i, hi, e⟩) T, rfl, M_act1 I hp (fun i hi e => h2 ⟨i, hi, e⟩) M, w0, rfl⟩
  · exact ⟨_, g, g, C_act0 I R h T, rfl, M_act0 I h M, w0, rfl⟩
theorem B_ways (w : WW g) : Bth L 187 197 [.int x] g := by
  have w0 := w
  obtain ⟨b, po, bs, r, n, t, N, m, c, k, hs, hc, kp, im, ic, is, sd, bk, ba, bv, I, R, hk, hsd, hbk, hba, H, HM, W, T, M⟩ := w
  by_cases h : ∃ j, 0 ≤ j ∧ j ≤ 3 ∧ x = nI j
  · obtain ⟨j, -, hj, e⟩ := h
    subst e
    obtain ⟨g1, d1, T1, W1, F1⟩ := C_ways (L := L) I R (show j < 4 by omega) T W
    obtain ⟨g2, d2, M2, F2⟩ := M_ways (L := L) I ⟨c, R⟩ hk (show j < 4 by omega) (MT_frC M F1)
    exact ⟨_, g1, g2, d1, f_0 F1, d2, WW_i I R hk hsd hbk hba H HM W1 T1 F2 M2, fr_0 F1 F2⟩
  · exact ⟨_, g, g, C_ways0 h, rfl, M_ways0 h, w0, rfl⟩
theorem B_build {x1 x2 x3 x4 x5 : Int32} (w : WW g) : Bth L 153 79 [.int x1, .int x2, .int x3, .int x4, .int x5] g := by
  have w0 := w
  obtain ⟨b, po, bs, r, n, t, N, m, c, k, hs, hc, kp, im, ic, is, sd, bk, ba, bv, I, R, hk, hsd, hbk, hba, H, HM, W, T, M⟩ := w
  by_cases h : bdIn x1 x2 x3 x4 x5
  · obtain ⟨b', po', ba', r', n', o1, o2, o3, o4, o5, o6, o7, e1, e2, e3, e4, e5⟩ := bdIn_n h
    subst e1; subst e2; subst e3; subst e4; subst e5
    rcases Classical.em (okSh b' po' ba' r' n') with ok | ok
    · obtain ⟨g1, c', d1, T1, h7, F1, R1⟩ := C_build (L := L) ok T
      obtain ⟨g2, d2, M2, F2⟩ := M_build (L := L) ok (MT_frC M F1)
      exact ⟨_, g1, g2, d1, f_0 F1, d2, WW_i (new_I ok) R1 (by omega) hsd hbk hba (fun i hi => by omega) HM (KW_0 h7) T1 F2 M2, fr_0 F1 F2⟩
    · exact ⟨_, g, g, C_build1 o1 o2 o3 o4 o5 o6 o7 ok, rfl, M_build1 o1 o2 o3 o4 o5 o6 o7 ok, w0, rfl⟩
  · exact ⟨_, g, g, C_build0 h, rfl, M_build0 h, w0, rfl⟩
theorem B_clear (w : WW g) : Bth L 154 81 [] g := by
  obtain ⟨b, po, bs, r, n, t, N, m, c, k, hs, hc, kp, im, ic, is, sd, bk, ba, bv, I, R, hk, hsd, hbk, hba, H, HM, W, T, M⟩ := w
  obtain ⟨g1, d1, T1, h7, F1⟩ := C_clear (L := L) T
  obtain ⟨g2, d2, M2, F2⟩ := M_clear (L := L) (N := N) (MT_frC M F1)
  have ok := I.1.1
  have sh := I.1.2.1
  have sh2 := sh
  obtain ⟨s0, s1, s2, s3, s4⟩ := sh2
  rw [s0, s1, s2, s3, s4] at M2
  rw [R.1.1 6 (by omega)] at d1
  exact ⟨_, g1, g2, d1, f_0 F1, d2, WW_i (new_I ok) (new_R (shC R sh)) (by omega) hsd hbk hba (fun i hi => by omega) HM (KW_0 h7) T1 F2 M2, fr_0 F1 F2⟩
theorem B_begin (w : WW g) : Bth L 166 141 [.int x, .int y] g := by
  have w0 := w
  obtain ⟨b, po, bs, r, n, t, N, m, c, k, hs, hc, kp, im, ic, is, sd, bk, ba, bv, I, R, hk, hsd, hbk, hba, H, HM, W, T, M⟩ := w
  by_cases h : Ix (wN b + n) x
  · obtain ⟨p, hp, e⟩ := h
    subst e
    by_cases hv : p < wN b → Ix r y
    · by_cases hu : m.P p 0 = -1
      · by_cases hN : N < 7
        · obtain ⟨g1, d1, T1, h7, F1, R1⟩ := C_beg (L := L) I R hp hv hu hN hk T
          obtain ⟨g2, d2, M2, F2⟩ := M_beg (L := L) I hp hv hu hN hk (MT_frC M F1)
          have hr2 := I.1.1.2.2.2.1
          obtain ⟨v, hv2, hx⟩ : ∃ v, v < r ∧ (p < wN b → y = nI v) := by
            by_cases hw : p < wN b
            · obtain ⟨v, hv2, e⟩ := hv hw
              exact ⟨v, hv2, fun _ => e⟩
            · exact ⟨0, by omega, fun z => absurd z hw⟩
          obtain ⟨I1, -⟩ := beg_I I hp hu hN hv2 hx
          exact ⟨_, g1, g2, d1, f_0 F1, d2, WW_i I1 R1 kup_16 hsd hbk hba (HRl_cons I R H) HM (KW_0 h7) T1 F2 M2, fr_0 F1 F2⟩
        · have hN7 : N = 7 := by
            have := I.1.2.2.2.1
            omega
          subst hN7
          exact ⟨_, g, g, C_beg3 I R hp hv hu T, rfl, M_beg3 I hp hv hu M, w0, rfl⟩
      · exact ⟨_, g, g, C_beg2 I R hp hv hu T, rfl, M_beg2 I hp hv hu M, w0, rfl⟩
    · have hw : p < wN b := by
        by_cases z : p < wN b
        · exact z
        · exact absurd (fun z2 => absurd z2 z) hv
      have hy : ¬ Ix r y := fun z => hv (fun _ => z)
      exact ⟨_, g, g, C_beg1 I R hp hw hy T, rfl, M_beg1 I hp hw hy M, w0, rfl⟩
  · exact ⟨_, g, g, C_beg0 I R h T, rfl, M_beg0 I h M, w0, rfl⟩
theorem B_step (w : WW g) : Bth L 169 192 [.int x, .int y] g := by
  have w0 := w
  obtain ⟨b, po, bs, r, n, t, N, m, c, k, hs, hc, kp, im, ic, is, sd, bk, ba, bv, I, R, hk, hsd, hbk, hba, H, HM, W, T, M⟩ := w
  by_cases h : Ix (wN b + n) x
  · obtain ⟨p, hp, e⟩ := h
    subst e
    have hnp := np_le I.1.1
    have p5 : p < 5 := by omega
    by_cases hu : m.P p 0 = -1
    · exact ⟨_, g, g, C_step1 I R hp hu T, rfl, M_step1 I hp hu M, w0, rfl⟩
    · obtain ⟨kk, k1, k7, ek⟩ := chs_k I ⟨c, R⟩ p5 hu
      by_cases hy : Ix kk y
      · obtain ⟨j, hj, e⟩ := hy
        subst e
        obtain ⟨s1, s2, s3, s4⟩ := st_ok I ⟨c, R⟩ p5 hu ek k7 hj
        obtain ⟨-, R1⟩ := K_go (L := L) I R p5 hu ek k7 hj
        obtain ⟨g1, d1, T1, h7, F1⟩ := C_step (L := L) I R hp hu ek k7 hj hk T
        obtain ⟨g2, d2, M2, F2⟩ := M_step (L := L) I hp hu ek k7 hj s3 hk (MT_frC M F1)
        exact ⟨_, g1, g2, d1, f_0 F1, d2, WW_i s1 R1 kup_16 hsd hbk hba (HRl_cons I R H) HM (KW_0 h7) T1 F2 M2, fr_0 F1 F2⟩
      · exact ⟨_, g, g, C_step2 I R hp hu ek k7 hy T, rfl, M_step2 I hp hu ek k7 hy M, w0, rfl⟩
  · exact ⟨_, g, g, C_step0 I R h T, rfl, M_step0 I h M, w0, rfl⟩
theorem B_run (w : WW g) : Bth L 168 195 [] g := by
  have w0 := w
  obtain ⟨b, po, bs, r, n, t, N, m, c, k, hs, hc, kp, im, ic, is, sd, bk, ba, bv, I, R, hk, hsd, hbk, hba, H, HM, W, T, M⟩ := w
  by_cases hu : lst m = 5
  · exact ⟨_, g, g, C_run0 R hu T, rfl, M_run0 I hu M, w0, rfl⟩
  · obtain ⟨g1, c', t', d1, T1, h7, F1, R1, I1⟩ := C_run (L := L) I R hu hk T
    obtain ⟨g2, d2, M2, F2⟩ := M_run (L := L) I ⟨c, R⟩ hu hk (MT_frC M F1)
    exact ⟨_, g1, g2, d1, f_0 F1, d2, WW_i I1 R1 kup_16 hsd hbk hba (HRl_cons I R H) HM (KW_0 h7) T1 F2 M2, fr_0 F1 F2⟩
theorem B_bad (w : WW g) : Bth L 185 193 [] g := by
  obtain ⟨b, po, bs, r, n, t, N, m, c, k, hs, hc, kp, im, ic, is, sd, bk, ba, bv, I, R, hk, hsd, hbk, hba, H, HM, W, T, M⟩ := w
  by_cases hb : wBd (wAll (wN b + n) N m) = 0
  · obtain ⟨g1, d1, T1, W1, F1⟩ := C_bad0 (L := L) I R hb T W
    obtain ⟨g2, d2, M2, F2⟩ := M_bad0 (L := L) I ⟨c, R⟩ hk hb (MT_frC M F1)
    exact ⟨_, g1, g2, d1, f_0 F1, d2, WW_i I R hk hsd hbk hba H HM W1 T1 F2 M2, fr_0 F1 F2⟩
  · obtain ⟨g1, c', d1, T1, h7, F1, R1, t', N', I1, -⟩ := C_bad (L := L) I R hk hb T W
    obtain ⟨g2, d2, M2, F2⟩ := M_bad (L := L) I ⟨c, R⟩ hk hb (MT_frC M F1)
    exact ⟨_, g1, g2, d1, f_0 F1, d2, WW_i I1 R1 kup_16 hsd hbk hba (HRl_cons I R H) HM (KW_0 h7) T1 F2 M2, fr_0 F1 F2⟩
theorem B_drift (w : WW g) : Bth L 181 194 [.int x] g := by
  have w0 := w
  obtain ⟨b, po, bs, r, n, t, N, m, c, k, hs, hc, kp, im, ic, is, sd, bk, ba, bv, I, R, hk, hsd, hbk, hba, H, HM, W, T, M⟩ := w
  by_cases h : ∃ j, 1 ≤ j ∧ j ≤ 20 ∧ x = nI j
  · obtain ⟨j, j1, j20, e⟩ := h
    subst e
    obtain ⟨g1, c', hc', d1, T1, W1, R1, H1, ⟨t', N', I1⟩, hk1, hsd1, F1⟩ := C_drift (L := L) j1 j20 I R hk hsd H T W
    obtain ⟨g2, d2, M2, F2⟩ := M_drift (L := L) j1 j20 ⟨t, N, I, c, R⟩ hk hsd (MT_frC M F1)
    exact ⟨_, g1, g2, d1, f_0 F1, d2, WW_i I1 R1 hk1 hsd1 hbk hba H1 HM W1 T1 F2 M2, fr_0 F1 F2⟩
  · exact ⟨_, g, g, C_drift0 h, rfl, M_drift0 h, w0, rfl⟩
theorem B_undo (w : WW g) : Bth L 119 49 [.int x] g := by
  have w0 := w
  obtain ⟨b, po, bs, r, n, t, N, m, c, k, hs, hc, kp, im, ic, is, sd, bk, ba, bv, I, R, hk, hsd, hbk, hba, H, HM, W, T, M⟩ := w
  by_cases h : ∃ j, 1 ≤ j ∧ j ≤ 16 ∧ x = nI j
  · obtain ⟨j, j1, j16, e⟩ := h
    subst e
    by_cases hj : j ≤ k
    · obtain ⟨g1, d1, T1, h7, F1⟩ := C_undo1 (L := L) j1 hj hk T
      obtain ⟨g2, d2, M2, F2⟩ := M_undo (L := L) (fun _ _ h => by omega) hk j1 hj (MT_frC M F1)
      obtain ⟨b', po', bs', r', n', t', N', I', R'⟩ := H (j - 1) (by omega)
      exact ⟨_, g1, g2, d1, f_0 F1, d2, WW_i I' R' (by omega) hsd hbk hba (fun i hi => H (i + j) (by omega)) HM (KW_0 h7) T1 F2 M2, fr_0 F1 F2⟩
    · exact ⟨_, g, g, C_undo2 j1 j16 hj hk T, rfl, M_undo2 j1 j16 hj hk M, w0, rfl⟩
  · exact ⟨_, g, g, C_undo0 h, rfl, M_undo0 h, w0, rfl⟩
theorem B_write (w : WW g) : Bth L 120 94 [.int x, .int y] g := by
  have w0 := w
  obtain ⟨b, po, bs, r, n, t, N, m, c, k, hs, hc, kp, im, ic, is, sd, bk, ba, bv, I, R, hk, hsd, hbk, hba, H, HM, W, T, M⟩ := w
  have h6 := I.1.2.2.1
  have hN := I.1.2.2.2.1
  have h6c : c.H 6 = nI N := (R.1.1 6 (by omega)).trans h6
  by_cases h : Ix N x
  · by_cases hb : bk < 20
    · obtain ⟨g1, d1, T1, h7, h53, F1⟩ := C_write1 (L := L) (y := y) h6c (show N < 1000 by omega) h hb T
      obtain ⟨g2, d2, M2, F2⟩ := M_write1 (L := L) (y := y) h6 (show N < 1000 by omega) h hb (MT_frC M F1)
      refine ⟨_, g1, g2, d1, f_0 F1, d2, WW_i I R hk hsd (show bk + 1 ≤ 20 by omega) (fun i hi => ?_) H HM (KW_7 W h7 h53) T1 F2 M2, fr_0 F1 F2⟩
      unfold upd
      by_cases e : i = bk
      · rw [if_pos e]
        exact Ix_m hN h
      · rw [if_neg e]
        exact hba i (by omega)
    · have e : bk = 20 := by omega
      subst e
      exact ⟨_, g, g, C_write2 h6c (show N < 1000 by omega) h T, rfl, M_write2 h6 (show N < 1000 by omega) h M, w0, rfl⟩
  · exact ⟨_, g, g, C_write0 h6c (show N < 1000 by omega) h T, rfl, M_write0 h6 (show N < 1000 by omega) h M, w0, rfl⟩
theorem B_tear (w : WW g) : Bth L 77 14 [] g := by
  obtain ⟨b, po, bs, r, n, t, N, m, c, k, hs, hc, kp, im, ic, is, sd, bk, ba, bv, I, R, hk, hsd, hbk, hba, H, HM, W, T, M⟩ := w
  obtain ⟨g1, d1, T1, h7, h53, F1⟩ := C_tear (L := L) T
  obtain ⟨g2, d2, M2, F2⟩ := M_tear (L := L) (MT_frC M F1)
  exact ⟨_, g1, g2, d1, f_0 F1, d2, WW_i I R hk hsd (by omega) (fun i hi => by omega) H HM (KW_7 W h7 h53) T1 F2 M2, fr_0 F1 F2⟩
theorem B_seed (w : WW g) : Bth L 34 13 [.int x] g := by
  have w0 := w
  obtain ⟨b, po, bs, r, n, t, N, m, c, k, hs, hc, kp, im, ic, is, sd, bk, ba, bv, I, R, hk, hsd, hbk, hba, H, HM, W, T, M⟩ := w
  by_cases h : x < 0
  · exact ⟨_, g, g, C_seed0 h, rfl, M_seed0 h, w0, rfl⟩
  · obtain ⟨j, hj, e⟩ := nI_of (x := x) h
    subst e
    obtain ⟨g1, d1, T1, h7, h53, F1⟩ := C_seed1 (L := L) hj T
    obtain ⟨g2, d2, M2, F2⟩ := M_seed1 (L := L) hj (MT_frC M F1)
    exact ⟨_, g1, g2, d1, f_0 F1, d2, WW_i I R hk hj hbk hba H HM (KW_7 W h7 h53) T1 F2 M2, fr_0 F1 F2⟩
theorem B_keep (w : WW g) : Bth L 117 43 [.int x] g := by
  have w0 := w
  obtain ⟨b, po, bs, r, n, t, N, m, c, k, hs, hc, kp, im, ic, is, sd, bk, ba, bv, I, R, hk, hsd, hbk, hba, H, HM, W, T, M⟩ := w
  by_cases h : Ix 2 x
  · obtain ⟨i, hi, e⟩ := h
    subst e
    obtain ⟨g1, d1, T1, h7, h53, F1⟩ := C_keep1 (L := L) hi T
    obtain ⟨g2, d2, M2, F2⟩ := M_keep1 (L := L) hi (MT_frC M F1)
    refine ⟨_, g1, g2, d1, f_0 F1, d2, WW_i I R (by omega) hsd hbk hba (fun i hi => by omega) (fun j hj z => ?_) (KW_7 W h7 h53) T1 F2 M2, fr_0 F1 F2⟩
    by_cases e : j = i
    · rw [e, upf_same, upf_same, upf_same]
      exact ⟨⟨b, po, bs, r, n, t, N, I, R⟩, hsd⟩
    · rw [upf_ne e, upf_ne e, upf_ne e]
      refine HM j hj ?_
      unfold setB at z
      rwa [if_neg e] at z
  · exact ⟨_, g, g, C_keep0 h, rfl, M_keep0 h, w0, rfl⟩
theorem B_back (w : WW g) : Bth L 138 38 [.int x] g := by
  have w0 := w
  obtain ⟨b, po, bs, r, n, t, N, m, c, k, hs, hc, kp, im, ic, is, sd, bk, ba, bv, I, R, hk, hsd, hbk, hba, H, HM, W, T, M⟩ := w
  by_cases h : Ix 2 x
  · obtain ⟨i, hi, e⟩ := h
    subst e
    by_cases hkp : kp i = true
    · obtain ⟨⟨b', po', bs', r', n', t', N', I', R'⟩, his⟩ := HM i hi hkp
      obtain ⟨g1, d1, T1, h7, F1⟩ := C_back1 (L := L) hi hkp his T
      obtain ⟨g2, d2, M2, F2⟩ := M_back1 (L := L) hi hkp (MT_frC M F1)
      exact ⟨_, g1, g2, d1, f_0 F1, d2, WW_i I' R' (by omega) his hbk hba (fun i hi => by omega) HM (KW_0 h7) T1 F2 M2, fr_0 F1 F2⟩
    · exact ⟨_, g, g, C_back2 hi hkp T, rfl, M_back2 hi hkp M, w0, rfl⟩
  · exact ⟨_, g, g, C_back0 h, rfl, M_back0 h, w0, rfl⟩
end RR
