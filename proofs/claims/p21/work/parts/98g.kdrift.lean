/-! THE CLASS' CALLS: drift -/
/-- the states ahead of the deeds, side by side -/
def HRl (k : Nat) (hs hc : Nat → Sx) : Prop := ∀ i, i < k → ∃ b po bs r n t N, Iv b po bs r n t N (hs i) ∧ Rl (hc i) (hs i)
noncomputable def KWm (b n : Nat) (m : Sx) (g : Nat → Nat → Int32) : Prop := KW b n (ix (m.H 6)) m g
section RR
variable {L : Nat} {g g' : Nat → Nat → Int32} {c m s : Sx} {k : Nat} {hs hc : Nat → Sx} {kp : Nat → Bool} {ic : Nat → Sx} {is : Nat → Nat} {sd bk : Nat} {ba bv : Nat → Int32} {b po bs r n t N : Nat} {x y : Int32}
theorem HRl_cons (I : Iv b po bs r n t N m) (R : Rl c m) (H : HRl k hs hc) : HRl (kup k) (hcons m hs) (hcons c hc) := by
  intro i hi
  unfold hcons
  by_cases e : i = 0
  · rw [if_pos e, if_pos e]
    exact ⟨b, po, bs, r, n, t, N, I, R⟩
  · rw [if_neg e, if_neg e]
    unfold kup at hi
    exact H (i - 1) (by split at hi <;> omega)
theorem K_draw {j : Nat} (h1 : 1 ≤ j) (hj : j < 1000) (T : KT c k hc kp ic is sd bk ba bv g) : Den 33 [.ref 1, .int (nI j)] (HP L g) = some (some (nI (drN sd / 65536 % j)), HP L (upf g 1 (upd (g 1) 6 (nI (drN sd))))) ∧ KT c k hc kp ic is (drN sd) bk ba bv (upf g 1 (upd (g 1) 6 (nI (drN sd)))) := ⟨C_draw T.2.1 h1 hj, KT_1 T⟩
theorem at3 {f : Nat} {as : List Value} {v : Int32} (h3 : g 3 = lay c) (d : Den f as (HP L (upf g 3 (lay c))) = some (some v, HP L (upf g 3 (lay c)))) : Den f as (HP L g) = some (some v, HP L g) := by
  rw [HP_3 (L := L) h3]
  exact d
theorem C_chance (I : Iv b po bs r n t N m) (R : Rl c m) (hk16 : k ≤ 16) (H : HRl k hs hc) (T : KT c k hc kp ic is sd bk ba bv g) (W : KWm b n m g) :
    ∃ g' c' hc', Den 167 [.ref 1] (HP L g) = some (none, HP L g') ∧ KT c' (if (chM (wN b + n) r (wN b) m sd).1 = true then kup k else k) hc' kp ic is (chM (wN b + n) r (wN b) m sd).2.2 bk ba bv g' ∧
      KWm b n (chM (wN b + n) r (wN b) m sd).2.1 g' ∧ Rl c' (chM (wN b + n) r (wN b) m sd).2.1 ∧ HRl (if (chM (wN b + n) r (wN b) m sd).1 = true then kup k else k) (if (chM (wN b + n) r (wN b) m sd).1 = true then hcons m hs else hs) hc' ∧ frC g g' := by
  obtain ⟨hnp, q1, q2, q3, q4, q5, q6⟩ := beg_pre I
  have hn1 : 1 ≤ wN b + n := by
    have := wN_1 (b := b)
    omega
  have hr2 := I.1.1.2.2.2.1
  have shc := shC R I.1.2.1
  have hpc := prcs_b shc I.1.1.1
  have hwc := wrs_b shc.1 I.1.1.1
  have h6c : c.H 6 = nI N := (R.1.1 6 (by omega)).trans q5
  have hp5 : drN sd / 65536 % (wN b + n) < wN b + n := Nat.mod_lt _ (by omega)
  obtain ⟨d1, T1⟩ := K_draw (L := L) hn1 (by omega) T
  have d0 : Den 108 [.ref 2] (HP L g) = some (some (nI (wN b + n)), HP L g) := at3 T.1 (by rw [D_processes st_2, hpc])
  unfold chM
  have F1 : frC g (upf g 1 (upd (g 1) 6 (nI (drN sd)))) := frC_upf (by omega) (by omega)
  have W1 : KWm b n m (upf g 1 (upd (g 1) 6 (nI (drN sd)))) := KW_fr W rfl rfl
  generalize drN sd / 65536 % (wN b + n) = p at *
  generalize upf g 1 (upd (g 1) 6 (nI (drN sd))) = g1 at *
  have p5 : p < 5 := by omega
  have du : Den 66 [.ref 2, .int (nI p)] (HP L g1) = some (some (b2 (¬ c.P p 0 = -1)), HP L g1) := at3 T1.1 (D_isUnderWay st_2 p5)
  by_cases hu : m.P p 0 = -1
  · have eu : b2 (¬ c.P p 0 = -1) = nI 0 := if_neg (fun z => z ((cP0 R p5).trans hu))
    have dr : Den 63 [.ref 2] (HP L g1) = some (some (b2 (c.H 6 < nI 7)), HP L g1) := at3 T1.1 (D_hasRoom st_2)
    rw [if_neg (show ¬ ¬ m.P p 0 = -1 from fun z => z hu)]
    by_cases h7 : m.H 6 < nI 7
    · rw [if_pos h7]
      have hN7 : N < 7 := by
        rw [q5] at h7
        exact (nI_ltI (by omega) (by omega)).mp h7
      have er : b2 (c.H 6 < nI 7) = nI 1 := if_pos (by rw [h6c]; exact nI_lt hN7 (by omega))
      have dw : Den 67 [.ref 2, .int (nI p)] (HP L g1) = some (some (b2 (p < wrs c)), HP L g1) := at3 T1.1 (D_isWriter st_2 p5)
      by_cases hw : p < wN b
      · rw [if_pos hw]
        have ew : b2 (p < wrs c) = nI 1 := if_pos (by omega)
        have dg : Den 25 [.ref 2, .int (nI 3)] (HP L g1) = some (some (nI r), HP L g1) := at3 T1.1 (by rw [D_get st_2 (show 3 < 7 by omega), shc.2.2.2.1])
        obtain ⟨d2, T2⟩ := K_draw (L := L) (j := r) (by omega) q4 T1
        obtain ⟨g3, d3, T3, h37, F3⟩ := C_remember (L := L) hk16 T2
        have hv : drN (drN sd) / 65536 % r < r := Nat.mod_lt _ (by omega)
        obtain ⟨d4, R4⟩ := K_start (L := L) I R hp5 hu hN7 hv (x := nI (drN (drN sd) / 65536 % r)) (fun _ => rfl) g3 T3.1
        refine ⟨_, _, _, ?_, KT_c T3, Or.inl h37, R4, HRl_cons I R H, frC_t F1 (frC_t (frC_upf (by omega) (by omega)) (frC_t F3 (frC_upf (by omega) (by omega))))⟩
        rw [D0_167]
        simp only [e167_0, e167_1, e167_2, e167_5, e167_8, e167_11, e167_12, e167_13, e167_16, e167_17, e167_20, e167_23, e167_24, e167_25, e167_28, e167_29, e167_32, e167_35, e167_36, e167_37, e167_40, e167_41, e167_44, e167_45, e167_46, e167_49, e167_50, e167_53, e167_54, e167_57, e167_60, e167_63, e167_64, e167_67, e167_68, e167_71, e167_74, e167_75, e167_76, e167_79, e167_80, e167_83, e167_86, e167_89, e167_90, e167_91, e167_92, e167_95, e167_96, e167_99, e167_100, e167_101, e167_104, e167_105, en_25, en_33, en_63, en_66, en_67, en_108, en_112, en_118, en_150, en_151, i_1, i_2, f_1_0, d0, d1, du, eu, dr, er, dw, ew, dg, d2, d3, d4, zz, one_n0, not_false_eq_true, if_true, if_false, lvH_Hq, Option.bind_some, psh_i, psh_n]
      · rw [if_neg hw]
        have ew : b2 (p < wrs c) = nI 0 := if_neg (by omega)
        obtain ⟨g3, d3, T3, h37, F3⟩ := C_remember (L := L) hk16 T1
        obtain ⟨d4, R4⟩ := K_start (L := L) I R hp5 hu hN7 (show 0 < r by omega) (x := nI 0) (fun _ => rfl) g3 T3.1
        refine ⟨_, _, _, ?_, KT_c T3, Or.inl h37, R4, HRl_cons I R H, frC_t F1 (frC_t F3 (frC_upf (by omega) (by omega)))⟩
        rw [D0_167]
        simp only [e167_0, e167_1, e167_2, e167_5, e167_8, e167_11, e167_12, e167_13, e167_16, e167_17, e167_20, e167_23, e167_24, e167_25, e167_28, e167_29, e167_32, e167_35, e167_36, e167_37, e167_40, e167_41, e167_44, e167_45, e167_46, e167_49, e167_50, e167_53, e167_54, e167_57, e167_60, e167_63, e167_64, e167_67, e167_68, e167_71, e167_74, e167_75, e167_76, e167_79, e167_80, e167_83, e167_86, e167_89, e167_90, e167_91, e167_92, e167_95, e167_96, e167_99, e167_100, e167_101, e167_104, e167_105, en_25, en_33, en_63, en_66, en_67, en_108, en_112, en_118, en_150, en_151, i_1, i_2, f_1_0, d0, d1, du, eu, dr, er, dw, ew, d3, d4, zz, one_n0, not_false_eq_true, if_true, if_false, lvH_Hq, Option.bind_some, psh_i, psh_n]
    · rw [if_neg h7]
      have er : b2 (c.H 6 < nI 7) = nI 0 := if_neg (by rw [R.1.1 6 (by omega)]; exact h7)
      refine ⟨_, _, _, ?_, T1, W1, R, H, F1⟩
      rw [D0_167]
      simp only [e167_0, e167_1, e167_2, e167_5, e167_8, e167_11, e167_12, e167_13, e167_16, e167_17, e167_20, e167_23, e167_24, e167_25, e167_28, e167_29, e167_32, e167_35, e167_36, e167_37, e167_40, e167_41, e167_44, e167_45, e167_46, e167_49, e167_50, e167_53, e167_54, e167_57, e167_60, e167_63, e167_64, e167_67, e167_68, e167_71, e167_74, e167_75, e167_76, e167_79, e167_80, e167_83, e167_86, e167_89, e167_90, e167_91, e167_92, e167_95, e167_96, e167_99, e167_100, e167_101, e167_104, e167_105, en_25, en_33, en_63, en_66, en_67, en_108, en_112, en_118, en_150, en_151, i_1, i_2, f_1_0, d0, d1, du, eu, dr, er, zz, not_false_eq_true, if_true, if_false, lvH_Hq, Option.bind_some, psh_i, psh_n]
  · have eu : b2 (¬ c.P p 0 = -1) = nI 1 := if_pos (fun z => hu ((cP0 R p5).symm.trans z))
    rw [if_pos hu]
    obtain ⟨kk, k1, k7, ek⟩ := chs_k I ⟨c, R⟩ p5 hu
    have dc : Den 112 [.ref 2, .int (nI p)] (HP L g1) = some (some (nI kk), HP L g1) := at3 T1.1 (by rw [D_choices st_2 p5, (chs_ok I R p5).1, ek])
    obtain ⟨d2, T2⟩ := K_draw (L := L) (j := kk) k1 (by omega) T1
    have hj : drN (drN sd) / 65536 % kk < kk := Nat.mod_lt _ (by omega)
    obtain ⟨g3, d3, T3, h37, F3⟩ := C_remember (L := L) hk16 T2
    obtain ⟨d4, R4⟩ := K_go (L := L) I R p5 hu ek k7 hj
    have d4 := d4 2 3 g3 st_2 T3.1
    have ei : ix (mChs m p) = kk := by rw [ek, ix_nI (by omega)]
    rw [ei]
    refine ⟨_, _, _, ?_, KT_c T3, Or.inl h37, R4, HRl_cons I R H, frC_t F1 (frC_t (frC_upf (by omega) (by omega)) (frC_t F3 (frC_upf (by omega) (by omega))))⟩
    rw [D0_167]
    simp only [e167_0, e167_1, e167_2, e167_5, e167_8, e167_11, e167_12, e167_13, e167_16, e167_17, e167_20, e167_23, e167_24, e167_25, e167_28, e167_29, e167_32, e167_35, e167_36, e167_37, e167_40, e167_41, e167_44, e167_45, e167_46, e167_49, e167_50, e167_53, e167_54, e167_57, e167_60, e167_63, e167_64, e167_67, e167_68, e167_71, e167_74, e167_75, e167_76, e167_79, e167_80, e167_83, e167_86, e167_89, e167_90, e167_91, e167_92, e167_95, e167_96, e167_99, e167_100, e167_101, e167_104, e167_105, en_25, en_33, en_63, en_66, en_67, en_108, en_112, en_118, en_150, en_151, i_1, i_2, f_1_0, d0, d1, du, eu, dc, d2, d3, d4, one_n0, not_false_eq_true, if_true, if_false, lvH_Hq, Option.bind_some, psh_i, psh_n]
theorem L_kdrift {x : Nat} (hx : x < 1000) : ∀ d j (m c : Sx) (k : Nat) (hs hc : Nat → Sx) (sd : Nat) (g : Nat → Nat → Int32), j + d = x → (∃ t N, Iv b po bs r n t N m) → Rl c m → k ≤ 16 → sd < 2147483648 → HRl k hs hc → KT c k hc kp ic is sd bk ba bv g → KWm b n m g →
    ∃ g' c' hc', Rr 181 15 [.ref 1, .int (nI x), .int (nI j)] [] (HP L g) = some (some ((drX (wN b + n) r (wN b) d m k hs sd).1.H 5), HP L g') ∧ KT c' (drX (wN b + n) r (wN b) d m k hs sd).2.1 hc' kp ic is (drX (wN b + n) r (wN b) d m k hs sd).2.2.2 bk ba bv g' ∧
      KWm b n (drX (wN b + n) r (wN b) d m k hs sd).1 g' ∧ Rl c' (drX (wN b + n) r (wN b) d m k hs sd).1 ∧ HRl (drX (wN b + n) r (wN b) d m k hs sd).2.1 (drX (wN b + n) r (wN b) d m k hs sd).2.2.1 hc' ∧ (∃ t N, Iv b po bs r n t N (drX (wN b + n) r (wN b) d m k hs sd).1) ∧
      (drX (wN b + n) r (wN b) d m k hs sd).2.1 ≤ 16 ∧ (drX (wN b + n) r (wN b) d m k hs sd).2.2.2 < 2147483648 ∧ frC g g'
  | 0, j, m, c, k, hs, hc, sd, g, h, I, R, hk, hsd, H, T, W => by
    have : j = x := by omega
    subst this
    refine ⟨g, c, hc, ?_, T, W, R, H, I, hk, hsd, frC_r⟩
    have dg : Den 25 [.ref 2, .int (nI 5)] (HP L g) = some (some (m.H 5), HP L g) := at3 T.1 (by rw [D_get st_2 (show 5 < 7 by omega), R.1.1 5 (by omega)])
    rw [e181_15]
    simp only [e181_0, e181_1, e181_2, e181_4, e181_7, e181_10, e181_12, e181_13, e181_14, e181_16, e181_17, e181_20, e181_21, e181_24, e181_27, e181_30, e181_31, e181_34, e181_35, e181_38, en_25, en_35, en_167, Int32.le_refl, if_true, i_1, i_2, f_1_0, dg, lvH_Hq, Option.bind_some, psh_i]
    rfl
  | d + 1, j, m, c, k, hs, hc, sd, g, h, I, R, hk, hsd, H, T, W => by
    have h1 : ¬ nI x ≤ nI j := nI_ge (by omega) (by omega)
    obtain ⟨t, N, I⟩ := I
    obtain ⟨g1, c1, hc1, d1, T1, W1, R1, H1, F1⟩ := C_chance (L := L) I R hk H T W
    obtain ⟨⟨t2, N2, I2, -⟩, hsd2⟩ := ch_ok (sd := sd) ⟨t, N, I, c, R⟩ hsd
    obtain ⟨g2, c2, hc2, d2, T2, W2, R2, H2, I3, k2, sd3, F2⟩ := L_kdrift hx d (j + 1) _ c1 _ _ hc1 _ g1 (by omega) ⟨t2, N2, I2⟩ R1 (by
      split
      · exact kup_16
      · exact hk) hsd2 H1 T1 W1
    refine ⟨g2, c2, hc2, ?_, T2, W2, R2, H2, I3, k2, sd3, frC_t F1 F2⟩
    rw [e181_15]
    simp only [e181_0, e181_1, e181_2, e181_4, e181_7, e181_10, e181_12, e181_13, e181_14, e181_16, e181_17, e181_20, e181_21, e181_24, e181_27, e181_30, e181_31, e181_34, e181_35, e181_38, en_25, en_35, en_167, h1, if_false, i_1, d1, nI_add, lvH_Hq, Option.bind_some, psh_n]
    exact d2
theorem C_drift {x : Nat} (h1 : 1 ≤ x) (h20 : x ≤ 20) (I : Iv b po bs r n t N m) (R : Rl c m) (hk : k ≤ 16) (hsd : sd < 2147483648) (H : HRl k hs hc) (T : KT c k hc kp ic is sd bk ba bv g) (W : KWm b n m g) :
    ∃ g' c' hc', Den 181 [.ref 1, .int (nI x)] (HP L g) = some (some ((drX (wN b + n) r (wN b) x m k hs sd).1.H 5), HP L g') ∧ KT c' (drX (wN b + n) r (wN b) x m k hs sd).2.1 hc' kp ic is (drX (wN b + n) r (wN b) x m k hs sd).2.2.2 bk ba bv g' ∧
      KWm b n (drX (wN b + n) r (wN b) x m k hs sd).1 g' ∧ Rl c' (drX (wN b + n) r (wN b) x m k hs sd).1 ∧ HRl (drX (wN b + n) r (wN b) x m k hs sd).2.1 (drX (wN b + n) r (wN b) x m k hs sd).2.2.1 hc' ∧ (∃ t N, Iv b po bs r n t N (drX (wN b + n) r (wN b) x m k hs sd).1) ∧
      (drX (wN b + n) r (wN b) x m k hs sd).2.1 ≤ 16 ∧ (drX (wN b + n) r (wN b) x m k hs sd).2.2.2 < 2147483648 ∧ frC g g' := by
  obtain ⟨g2, c2, hc2, d2, T2, W2, R2, H2, I3, k2, sd3, F2⟩ := L_kdrift (L := L) (show x < 1000 by omega) x 0 m c k hs hc sd g (by omega) ⟨t, N, I⟩ R hk hsd H T W
  have e : b2 (nI 1 ≤ nI x ∧ nI x ≤ nI 20) = nI 1 := if_pos ((rng_n (by omega) (by omega)).mpr ⟨x, h1, h20, rfl⟩)
  refine ⟨g2, c2, hc2, ?_, T2, W2, R2, H2, I3, k2, sd3, F2⟩
  rw [D0_181]
  simp only [e181_0, e181_1, e181_2, e181_4, e181_7, e181_10, e181_12, e181_13, e181_14, e181_16, e181_17, e181_20, e181_21, e181_24, e181_27, e181_30, e181_31, e181_34, e181_35, e181_38, en_25, en_35, en_167, i_1, C_within, e, one_n0, not_false_eq_true, if_true, lvH_Hq, Option.bind_some, psh_i]
  exact d2
theorem C_drift0 (hx : ¬ ∃ j, 1 ≤ j ∧ j ≤ 20 ∧ x = nI j) : Den 181 [.ref 1, .int x] (HP L g) = some (some (-1000000002), HP L g) := by
  have e : b2 (nI 1 ≤ x ∧ x ≤ nI 20) = nI 0 := if_neg (fun z => hx ((rng_n (by omega) (by omega)).mp z))
  rw [D0_181]
  simp only [e181_0, e181_1, e181_2, e181_4, e181_7, e181_10, e181_12, e181_13, e181_14, e181_16, e181_17, e181_20, e181_21, e181_24, e181_27, e181_30, e181_31, e181_34, e181_35, e181_38, en_25, en_35, en_167, i_1, C_within, e, zz, not_true_eq_false, if_false, lvH_Hq, Option.bind_some, psh_i]
end RR
