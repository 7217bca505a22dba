/-! THE MODEL'S CALLS: drift -/
/-- one draw's deed: is there one; what is so then; the seed -/
def chM (np r wn : Nat) (m : Sx) (sd : Nat) : Bool × Sx × Nat :=
  if ¬ m.P (drN sd / 65536 % np) 0 = -1 then (true, mStp m (drN sd / 65536 % np) np (nI (drN (drN sd) / 65536 % ix (mChs m (drN sd / 65536 % np)))), drN (drN sd))
  else if m.H 6 < nI 7 then (if drN sd / 65536 % np < wn then (true, mBeg m (drN sd / 65536 % np) (nI (drN (drN sd) / 65536 % r)), drN (drN sd)) else (true, mBeg m (drN sd / 65536 % np) (nI 0), drN sd))
  else (false, m, drN sd)
def kup (k : Nat) : Nat := if k < 16 then k + 1 else 16
theorem kup_16 {k : Nat} : kup k ≤ 16 := by
  unfold kup
  split <;> omega
section RR
variable {L : Nat} {g : Nat → Nat → Int32} {m : Sx} {k : Nat} {hs : Nat → Sx} {kp : Nat → Bool} {im : Nat → Sx} {is : Nat → Nat} {sd bk : Nat} {ba bv : Nat → Int32} {rs : Nat → Sx} {b po bs r n t N : Nat} {f : Nat → Int32} {x1 x2 x3 x4 x5 : Int32} {h : Hp}
theorem T_87 (T : MT m k hs kp im is sd bk ba bv g) : ∃ f, g 87 = layM m f := by
  obtain ⟨⟨rs, r1, r2, -⟩, -⟩ := T
  subst r2
  exact ⟨lyR rs, r1.trans lyR_0.symm⟩
theorem T_H {i : Nat} (hi : i < 7) (T : MT m k hs kp im is sd bk ba bv g) : g 87 (nI i).toNatClampNeg = m.H i := by
  obtain ⟨f, e⟩ := T_87 T
  rw [e]
  exact rM_H hi
theorem T_46 (I : Iv b po bs r n t N m) (T : MT m k hs kp im is sd bk ba bv g) : Den 46 [.ref 86] (HP L g) = some (some (nI (wN b + n)), HP L g) := by
  obtain ⟨rs0, e0, -⟩ := M_now (L := L) T
  rw [e0, M_processes, prcs_b I.1.2.1 I.1.1.1]
theorem T_86 {p : Nat} (hp : p < 5) (T : MT m k hs kp im is sd bk ba bv g) : Den 86 [.ref 86, .int (nI p)] (HP L g) = some (some (b2 (¬ m.P p 0 = -1)), HP L g) := by
  obtain ⟨rs0, e0, -⟩ := M_now (L := L) T
  rw [e0, M_isUnderWay hp]
theorem T_41 (I : Iv b po bs r n t N m) {p : Nat} (hp : p < 5) (T : MT m k hs kp im is sd bk ba bv g) : Den 41 [.ref 86, .int (nI p)] (HP L g) = some (some (b2 (p < wN b)), HP L g) := by
  obtain ⟨rs0, e0, -⟩ := M_now (L := L) T
  rw [e0, M_isWriter hp, wrs_b I.1.2.1.1 I.1.1.1]
theorem T_143 (I : Iv b po bs r n t N m) {p : Nat} (hp : p < 5) (T : MT m k hs kp im is sd bk ba bv g) : Den 143 [.ref 86, .int (nI p)] (HP L g) = some (some (mChs m p), HP L g) := by
  obtain ⟨rs0, e0, -⟩ := M_now (L := L) T
  obtain ⟨o, ho, e7, hA⟩ := uw_ix I hp
  rw [e0, M_choices hp (show o ≤ 10 by omega) e7]
theorem T_9 {n : Nat} (h1 : 1 ≤ n) (hn : n < 1000) (hs' : sd < 2147483648) (T : MT m k hs kp im is sd bk ba bv g) : Den 9 [.ref 86, .int (nI n)] (HP L g) = some (some (nI (drN sd / 65536 % n)), HP L (upf g 86 (upd (g 86) 3 (nI (drN sd))))) ∧ MT m k hs kp im is (drN sd) bk ba bv (upf g 86 (upd (g 86) 3 (nI (drN sd)))) ∧ frM g (upf g 86 (upd (g 86) 3 (nI (drN sd)))) := by
  obtain ⟨t0, t1, t2, t3, t4, t5, t6⟩ := T
  exact ⟨M_draw t3 hs' h1 hn, ⟨t0, t1, t2, rfl, t4, t5, t6⟩, frM_upf (by omega)⟩
theorem T_rem (hk16 : k ≤ 16) (T : MT m k hs kp im is sd bk ba bv g) : ∃ g1, Den 47 [.ref 86] (HP L g) = some (none, HP L g1) ∧ MT m (kup k) (hcons m hs) kp im is sd bk ba bv g1 ∧ frM g g1 := by
  obtain ⟨rs1, g1, h1, h2⟩ := M_rem (L := L) hk16 T
  exact ⟨_, h1, h2 m⟩
theorem T_184 {p np : Nat} {x : Int32} (hp : p < 5) (pre : mPre m p np) (T : MT m k hs kp im is sd bk ba bv g) : ∃ g1, Den 184 [.ref 86, .int (nI p), .int x] (HP L g) = some (none, HP L g1) ∧ MT (mStp m p np x) k hs kp im is sd bk ba bv g1 ∧ frM g g1 := by
  obtain ⟨rs0, e0, h2⟩ := M_now (L := L) T
  rw [e0]
  exact ⟨_, M_stepNow hp pre, h2 _⟩
theorem T_121 {p : Nat} {x : Int32} (hp : p < 5) (hN : Ix 7 (m.H 6)) (T : MT m k hs kp im is sd bk ba bv g) : ∃ g1, Den 121 [.ref 86, .int (nI p), .int x] (HP L g) = some (some (m.H 6), HP L g1) ∧ MT (mBeg m p x) k hs kp im is sd bk ba bv g1 ∧ frM g g1 := by
  obtain ⟨rs0, e0, h2⟩ := M_now (L := L) T
  rw [e0]
  exact ⟨_, M_beginAct hp hN, h2 _⟩
theorem M_chance (I : Iv b po bs r n t N m) (R : ∃ c, Rl c m) (hk16 : k ≤ 16) (hs' : sd < 2147483648) (T : MT m k hs kp im is sd bk ba bv g) :
    ∃ g', Den 188 [.ref 86] (HP L g) = some (none, HP L g') ∧ MT (chM (wN b + n) r (wN b) m sd).2.1 (if (chM (wN b + n) r (wN b) m sd).1 = true then kup k else k) (if (chM (wN b + n) r (wN b) m sd).1 = true then hcons m hs else hs) kp im is (chM (wN b + n) r (wN b) m sd).2.2 bk ba bv g' ∧ frM g g' := by
  obtain ⟨hnp, q1, q2, q3, q4, q5, q6⟩ := beg_pre I
  have hn1 : 1 ≤ wN b + n := by
    have := wN_1 (b := b)
    omega
  have hr2 := I.1.1.2.2.2.1
  have hp5 : drN sd / 65536 % (wN b + n) < wN b + n := Nat.mod_lt _ (by omega)
  obtain ⟨d1, T1, F1⟩ := T_9 (L := L) hn1 (by omega) hs' T
  unfold chM
  generalize drN sd / 65536 % (wN b + n) = p at *
  generalize upf g 86 (upd (g 86) 3 (nI (drN sd))) = g1 at *
  have p5 : p < 5 := by omega
  by_cases hu : m.P p 0 = -1
  · have eu : b2 (¬ m.P p 0 = -1) = nI 0 := if_neg (fun z => z hu)
    rw [if_neg (fun z => z hu)]
    by_cases h7 : m.H 6 < nI 7
    · rw [if_pos h7]
      have hN7 : N < 7 := by
        rw [q5] at h7
        exact (nI_ltI (by omega) (by omega)).mp h7
      have h7' : ¬ nI 7 ≤ m.H 6 := Int32.not_le.mpr h7
      by_cases hw : p < wN b
      · rw [if_pos hw]
        have ew : b2 (p < wN b) = nI 1 := if_pos hw
        obtain ⟨d2, T2, F2⟩ := T_9 (L := L) (n := r) (by omega) q4 (drN_lt sd) T1
        obtain ⟨g3, d3, T3, F3⟩ := T_rem (L := L) hk16 T2
        obtain ⟨g4, d4, T4, F4⟩ := T_121 (L := L) (x := nI (drN (drN sd) / 65536 % r)) p5 (show Ix 7 (m.H 6) from ⟨N, hN7, q5⟩) T3
        have T5 : MT (mBeg m p (nI (drN (drN sd) / 65536 % r))) (kup k) (hcons m hs) kp im is (drN (drN sd)) bk ba bv (upf g4 86 (upd (g4 86) 15 (m.H 6))) := by
          obtain ⟨t0, t1, t2, t3, t4, t5, t6⟩ := T4
          exact ⟨t0, t1, t2, t3, t4, t5, t6⟩
        refine ⟨_, ?_, T5, frM_t F1 (frM_t F2 (frM_t F3 (frM_t F4 (frM_upf (by omega)))))⟩
        rw [D0_188]
        simp only [e188_0, e188_1, e188_2, e188_5, e188_8, e188_9, e188_10, e188_11, e188_14, e188_17, e188_18, e188_19, e188_20, e188_23, e188_26, e188_27, e188_28, e188_31, e188_32, e188_33, e188_34, e188_37, e188_40, e188_41, e188_44, e188_46, e188_47, e188_49, e188_52, e188_53, e188_54, e188_57, e188_60, e188_61, e188_62, e188_65, e188_66, e188_67, e188_70, e188_73, e188_74, e188_75, e188_76, e188_79, e188_80, e188_81, e188_82, e188_83, e188_86, e188_89, en_9, en_41, en_46, en_47, en_86, en_121, en_143, en_184, i_86, f_86_0, a_87, n_87, in_H, T_H (show 6 < 7 by omega) T1, T_H (show 3 < 7 by omega) T1, q3, T_46 I T, d1, T_86 p5 T1, eu, zz, T_41 I p5 T1, ew, one_n0, d2, d3, d4, h7', not_false_eq_true, if_true, if_false, lvH_Hq, Option.bind_some, psh_i, psh_n, Hq_G, Hq_setG, upf_same, upf_upf, Nat.reduceLT, Nat.reduceLeDiff, Nat.reduceAdd, Nat.reduceMul]
      · rw [if_neg hw]
        have ew : b2 (p < wN b) = nI 0 := if_neg hw
        obtain ⟨g3, d3, T3, F3⟩ := T_rem (L := L) hk16 T1
        obtain ⟨g4, d4, T4, F4⟩ := T_121 (L := L) (x := nI 0) p5 (show Ix 7 (m.H 6) from ⟨N, hN7, q5⟩) T3
        have T5 : MT (mBeg m p (nI 0)) (kup k) (hcons m hs) kp im is (drN sd) bk ba bv (upf g4 86 (upd (g4 86) 15 (m.H 6))) := by
          obtain ⟨t0, t1, t2, t3, t4, t5, t6⟩ := T4
          exact ⟨t0, t1, t2, t3, t4, t5, t6⟩
        refine ⟨_, ?_, T5, frM_t F1 (frM_t F3 (frM_t F4 (frM_upf (by omega))))⟩
        rw [D0_188]
        simp only [e188_0, e188_1, e188_2, e188_5, e188_8, e188_9, e188_10, e188_11, e188_14, e188_17, e188_18, e188_19, e188_20, e188_23, e188_26, e188_27, e188_28, e188_31, e188_32, e188_33, e188_34, e188_37, e188_40, e188_41, e188_44, e188_46, e188_47, e188_49, e188_52, e188_53, e188_54, e188_57, e188_60, e188_61, e188_62, e188_65, e188_66, e188_67, e188_70, e188_73, e188_74, e188_75, e188_76, e188_79, e188_80, e188_81, e188_82, e188_83, e188_86, e188_89, en_9, en_41, en_46, en_47, en_86, en_121, en_143, en_184, i_86, f_86_0, a_87, n_87, in_H, T_H (show 6 < 7 by omega) T1, T_46 I T, d1, T_86 p5 T1, eu, zz, T_41 I p5 T1, ew, d3, d4, h7', not_false_eq_true, if_true, if_false, lvH_Hq, Option.bind_some, psh_i, psh_n, Hq_G, Hq_setG, upf_same, upf_upf, Nat.reduceLT, Nat.reduceLeDiff, Nat.reduceAdd, Nat.reduceMul]
    · rw [if_neg h7]
      refine ⟨_, ?_, T1, F1⟩
      rw [D0_188]
      simp only [e188_0, e188_1, e188_2, e188_5, e188_8, e188_9, e188_10, e188_11, e188_14, e188_17, e188_18, e188_19, e188_20, e188_23, e188_26, e188_27, e188_28, e188_31, e188_32, e188_33, e188_34, e188_37, e188_40, e188_41, e188_44, e188_46, e188_47, e188_49, e188_52, e188_53, e188_54, e188_57, e188_60, e188_61, e188_62, e188_65, e188_66, e188_67, e188_70, e188_73, e188_74, e188_75, e188_76, e188_79, e188_80, e188_81, e188_82, e188_83, e188_86, e188_89, en_9, en_41, en_46, en_47, en_86, en_121, en_143, en_184, i_86, f_86_0, a_87, n_87, in_H, T_H (show 6 < 7 by omega) T1, T_46 I T, d1, T_86 p5 T1, eu, zz, Int32.not_lt.mp h7, not_false_eq_true, if_true, if_false, lvH_Hq, Option.bind_some, psh_i, psh_n, Hq_G, Hq_setG, upf_same, upf_upf, Nat.reduceLT, Nat.reduceLeDiff, Nat.reduceAdd, Nat.reduceMul]
  · have eu : b2 (¬ m.P p 0 = -1) = nI 1 := if_pos hu
    rw [if_pos hu]
    obtain ⟨kk, k1, k7, ek⟩ := chs_k I R p5 hu
    obtain ⟨d2, T2, F2⟩ := T_9 (L := L) (n := kk) k1 (by omega) (drN_lt sd) T1
    obtain ⟨s1, s2, s3, s4⟩ := st_ok I R p5 hu ek k7 (show drN (drN sd) / 65536 % kk < kk from Nat.mod_lt _ (by omega))
    obtain ⟨g3, d3, T3, F3⟩ := T_rem (L := L) hk16 T2
    obtain ⟨g4, d4, T4, F4⟩ := T_184 (L := L) (x := nI (drN (drN sd) / 65536 % kk)) p5 s3 T3
    have ei : ix (mChs m p) = kk := by rw [ek, ix_nI (by omega)]
    rw [ei]
    refine ⟨_, ?_, T4, frM_t F1 (frM_t F2 (frM_t F3 F4))⟩
    rw [D0_188]
    simp only [e188_0, e188_1, e188_2, e188_5, e188_8, e188_9, e188_10, e188_11, e188_14, e188_17, e188_18, e188_19, e188_20, e188_23, e188_26, e188_27, e188_28, e188_31, e188_32, e188_33, e188_34, e188_37, e188_40, e188_41, e188_44, e188_46, e188_47, e188_49, e188_52, e188_53, e188_54, e188_57, e188_60, e188_61, e188_62, e188_65, e188_66, e188_67, e188_70, e188_73, e188_74, e188_75, e188_76, e188_79, e188_80, e188_81, e188_82, e188_83, e188_86, e188_89, en_9, en_41, en_46, en_47, en_86, en_121, en_143, en_184, i_86, T_46 I T, d1, T_86 p5 T1, eu, one_n0, T_143 I p5 T1, ek, d2, d3, d4, not_false_eq_true, if_true, if_false, lvH_Hq, Option.bind_some, psh_i, psh_n, Hq_G, Hq_setG, upf_same, upf_upf, Nat.reduceLT, Nat.reduceLeDiff, Nat.reduceAdd, Nat.reduceMul]
end RR
