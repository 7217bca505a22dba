/-! THE CLASS' CALLS: ways, bad -/
section RR
variable {L : Nat} {g g' g0 : Nat → Nat → Int32} {c m s : Sx} {k : Nat} {hs hc : Nat → Sx} {kp : Nat → Bool} {ic : Nat → Sx} {is : Nat → Nat} {sd bk : Nat} {ba bv : Nat → Int32} {b po bs r n t N : Nat} {x y : Int32} {X : WX}
theorem KT_wc (T : KT c k hc kp ic is sd bk ba bv g) (h : ∀ i, ¬ wkI i → g' i = g i) (h7 : ∀ i, rwI i → ∃ t, g' i = lay t) : KT c k hc kp ic is sd bk ba bv g' := by
  obtain ⟨t3, t1, ⟨o, ho, o1, o2, o3⟩, t4, t5, t6, t7⟩ := T
  have e1 := h 1 (by unfold wkI; omega)
  have e3 := h 3 (by unfold wkI; omega)
  have e58 := h 58 (by unfold wkI; omega)
  have e82 := h 82 (by unfold wkI; omega)
  have e83 := h 83 (by unfold wkI; omega)
  have e84 := h 84 (by unfold wkI; omega)
  have e85 := h 85 (by unfold wkI; omega)
  refine ⟨e3.trans t3, by rw [e1]; exact t1, ⟨o, ho, by rw [e58]; exact o1, by rw [e58]; exact o2, fun i hi => (h _ (by unfold wkI; omega)).trans (o3 i hi)⟩, fun i hi => ⟨by rw [e82]; exact (t4 i hi).1, fun z => (h _ (by unfold wkI; omega)).trans ((t4 i hi).2 z)⟩, by rw [e83]; exact t5, fun i hi => ?_, h7⟩
  rw [e84, e85]
  exact t6 i hi
theorem ixN (I : Iv b po bs r n t N m) : ix (m.H 6) = N := by
  have h6 := I.1.2.2.1
  have hN := I.1.2.2.2.1
  rw [h6, ix_nI (by omega)]
theorem C_through (I : Iv b po bs r n t N m) (R : Rl c m) (T : KT c k hc kp ic is sd bk ba bv g) (W : KWm b n m g) : ∃ g', Den 179 [.ref 7, .ref 2, .ref 4] (HP L g) = some (none, HP L g') ∧ KT c k hc kp ic is sd bk ba bv g' ∧ g' 7 5 = nI 1 ∧ KX (wAll (wN b + n) N m) g' ∧ frC g g' := by
  unfold KWm KW at W
  rw [ixN I] at W
  rcases W with h0 | ⟨h1, h2⟩
  · obtain ⟨t, ht⟩ := T.2.2.2.2.2.2 (10 + 0) (by unfold rwI; omega)
    have e3 : ∀ F : Nat → Int32, upf g 7 F 3 = lay c := fun F => T.1
    have e10 : ∀ F : Nat → Int32, upf g 7 F (10 + 0) = lay t := fun F => ht
    have dput := fun F => D_shPut (g := upf g 7 F) (s := c) (t := t) (st_2 (L := L)) shl_8 (by omega) (show 0 < 41 by omega) (e3 F) (e10 F)
    have dop := fun F => K_open (L := L) (g := upf (upf g 7 F) (10 + 0) (lay c)) (d := 0) (by omega)
    obtain ⟨W1, hpsi⟩ := WI_start I ⟨c, R⟩
    let F0 : Nat → Int32 := upd (upd (upd (upd (upd (upd (g 7) 5 (nI 1)) 6 (nI 0)) 7 (nI 0)) 8 (-1)) 9 (nI 0)) 10 (nI 0)
    let G : Nat → Nat → Int32 := upf (upf (upf (upf g 7 F0) (10 + 0) (lay c)) 56 (upd (g 56) 0 (nI 0))) 57 (upd (g 57) 0 (nI 0))
    have hw : WC g G (wSt m) := by
      refine ⟨fun e he => ?_, ⟨rfl, rfl, rfl, fun z => ?_, rfl⟩, rfl, fun i hi => ?_, fun i hi => ?_⟩
      · have he : e < 1 := he
        have : e = 0 := by omega
        subst this
        exact ⟨⟨c, rfl, R⟩, rfl, rfl⟩
      · have z : 1 ≤ 0 := z
        omega
      · show ∃ t, upf (upf (upf (upf g 7 F0) (10 + 0) (lay c)) 56 _) 57 _ i = lay t
        rw [upf_ne (by unfold rwI at hi; omega), upf_ne (by unfold rwI at hi; omega)]
        by_cases e : i = 10 + 0
        · rw [e, upf_same]
          exact ⟨c, rfl⟩
        · rw [upf_ne e, upf_ne (by unfold rwI at hi; omega)]
          exact T.2.2.2.2.2.2 i hi
      · obtain ⟨i5, i6, i7, i10, i53, i55, i56, i57⟩ := wk_n hi
        show upf (upf (upf (upf g 7 F0) (10 + 0) (lay c)) 56 _) 57 _ i = g i
        rw [upf_ne i57, upf_ne i56, upf_ne (by omega), upf_ne i7]
    obtain ⟨g2, e2, hw2⟩ := kt_all (L := L) 41000 (wSt m) G 0 W1 hw (by omega) (by omega)
    have ep : nI (wDp (wSt m)) - 1 = nI 0 := nI_pred 0
    rw [ep] at e2
    refine ⟨g2, ?_, KT_wc T hw2.2.2.2.2 hw2.2.2.2.1, hw2.2.2.1, hw2.2.1, fun i hi => hw2.2.2.2.2 i (by unfold wkI; omega)⟩
    rw [D0_179]
    simp only [e179_0, e179_1, e179_4, e179_7, e179_8, e179_9, e179_10, e179_13, e179_14, e179_15, e179_18, e179_19, e179_20, e179_23, e179_24, e179_25, e179_28, e179_29, e179_30, e179_33, e179_34, e179_35, e179_38, e179_39, e179_42, e179_43, e179_44, e179_47, e179_48, e179_49, e179_52, e179_53, e179_54, e179_55, e179_59, e179_61, e179_64, e179_65, e179_68, e179_69, e179_72, e179_75, e179_78, e179_79, e179_82, e179_83, e179_84, e179_87, e179_90, e179_91, e179_94, e179_97, e179_100, e179_101, e179_102, e179_103, e179_106, e179_109, e179_112, e179_113, e179_114, e179_117, e179_120, e179_123, e179_124, e179_127, e179_128, e179_129, e179_132, e179_135, e179_136, e179_137, e179_140, e179_143, e179_146, e179_149, e179_152, en_23, en_24, en_32, en_110, en_152, en_165, i_7, i_8, f_7_0, Hq_G, Hq_setG, h0, zz, if_true, one_01, dput, dop, upf_same, upf_upf, lvH_Hq, Option.bind_some, psh_n]
    exact e2
  · refine ⟨g, ?_, T, h1, h2, frC_r⟩
    rw [D0_179]
    simp only [e179_0, e179_1, e179_4, e179_7, e179_8, e179_9, e179_10, e179_13, e179_14, e179_15, e179_18, e179_19, e179_20, e179_23, e179_24, e179_25, e179_28, e179_29, e179_30, e179_33, e179_34, e179_35, e179_38, e179_39, e179_42, e179_43, e179_44, e179_47, e179_48, e179_49, e179_52, e179_53, e179_54, e179_55, e179_59, e179_61, e179_64, e179_65, e179_68, e179_69, e179_72, e179_75, e179_78, e179_79, e179_82, e179_83, e179_84, e179_87, e179_90, e179_91, e179_94, e179_97, e179_100, e179_101, e179_102, e179_103, e179_106, e179_109, e179_112, e179_113, e179_114, e179_117, e179_120, e179_123, e179_124, e179_127, e179_128, e179_129, e179_132, e179_135, e179_136, e179_137, e179_140, e179_143, e179_146, e179_149, e179_152, en_23, en_24, en_32, en_110, en_152, en_165, i_7, Hq_G, h1, one_n0, if_false]
theorem KWm_of (I : Iv b po bs r n t N m) (h1 : g 7 5 = nI 1) (h2 : KX (wAll (wN b + n) N m) g) : KWm b n m g := by
  unfold KWm KW
  rw [ixN I]
  exact Or.inr ⟨h1, h2⟩
theorem C_ways0 (hx : ¬ ∃ j, 0 ≤ j ∧ j ≤ 3 ∧ x = nI j) : Den 187 [.ref 1, .int x] (HP L g) = some (some (-1000000002), HP L g) := by
  have e : b2 (nI 0 ≤ x ∧ x ≤ nI 3) = nI 0 := if_neg (fun z => hx ((rng_n (by omega) (by omega)).mp z))
  rw [D0_187]
  simp only [e187_0, e187_1, e187_2, e187_3, e187_6, e187_9, e187_11, e187_12, e187_13, e187_16, e187_17, e187_20, e187_21, e187_24, e187_27, e187_28, e187_56, e187_57, e187_60, e187_63, e187_64, e187_65, e187_68, e187_71, e187_72, e187_73, e187_76, e187_79, e187_80, e187_81, e187_84, e187_87, en_35, en_179, i_1, C_within, e, zz, not_true_eq_false, if_false, lvH_Hq, Option.bind_some, psh_i]
theorem C_ways (I : Iv b po bs r n t N m) (R : Rl c m) {w : Nat} (hw : w < 4) (T : KT c k hc kp ic is sd bk ba bv g) (W : KWm b n m g) : ∃ g', Den 187 [.ref 1, .int (nI w)] (HP L g) = some (some (wAns (wAll (wN b + n) N m) w), HP L g') ∧ KT c k hc kp ic is sd bk ba bv g' ∧ KWm b n m g' ∧ frC g g' := by
  obtain ⟨g', d, T', h1, h2, F⟩ := C_through (L := L) I R T W
  refine ⟨g', ?_, T', KWm_of I h1 h2, F⟩
  have e : b2 (nI 0 ≤ nI w ∧ nI w ≤ nI 3) = nI 1 := if_pos ((rng_n (by omega) (by omega)).mpr ⟨w, by omega, by omega, rfl⟩)
  obtain ⟨k6, k7, k8, k9, k10⟩ := h2
  rw [D0_187]
  match w, hw with
  | 0, _ =>
    simp only [e187_0, e187_1, e187_2, e187_3, e187_6, e187_9, e187_11, e187_12, e187_13, e187_16, e187_17, e187_20, e187_21, e187_24, e187_27, e187_28, e187_56, e187_57, e187_60, e187_63, e187_64, e187_65, e187_68, e187_71, e187_72, e187_73, e187_76, e187_79, e187_80, e187_81, e187_84, e187_87, en_35, en_179, i_1, i_7, f_1_0, f_1_1, f_1_2, C_within, e, d, K10_19 0 (by decide), Nat.reduceEqDiff, Nat.reduceLT, Nat.reduceLeDiff, Nat.reduceAdd, Nat.reduceMul, one_n0, not_false_eq_true, if_true, if_false, Hq_G, k6, lvH_Hq, Option.bind_some, psh_i, psh_n]
    rfl
  | 1, _ =>
    simp only [e187_0, e187_1, e187_2, e187_3, e187_6, e187_9, e187_11, e187_12, e187_13, e187_16, e187_17, e187_20, e187_21, e187_24, e187_27, e187_28, e187_56, e187_57, e187_60, e187_63, e187_64, e187_65, e187_68, e187_71, e187_72, e187_73, e187_76, e187_79, e187_80, e187_81, e187_84, e187_87, en_35, en_179, i_1, i_7, f_1_0, f_1_1, f_1_2, C_within, e, d, K10_19 1 (by decide), Nat.reduceEqDiff, Nat.reduceLT, Nat.reduceLeDiff, Nat.reduceAdd, Nat.reduceMul, one_n0, not_false_eq_true, if_true, if_false, Hq_G, k7, lvH_Hq, Option.bind_some, psh_i, psh_n]
    rfl
  | 2, _ =>
    simp only [e187_0, e187_1, e187_2, e187_3, e187_6, e187_9, e187_11, e187_12, e187_13, e187_16, e187_17, e187_20, e187_21, e187_24, e187_27, e187_28, e187_56, e187_57, e187_60, e187_63, e187_64, e187_65, e187_68, e187_71, e187_72, e187_73, e187_76, e187_79, e187_80, e187_81, e187_84, e187_87, en_35, en_179, i_1, i_7, f_1_0, f_1_1, f_1_2, C_within, e, d, K10_19 2 (by decide), Nat.reduceEqDiff, Nat.reduceLT, Nat.reduceLeDiff, Nat.reduceAdd, Nat.reduceMul, one_n0, not_false_eq_true, if_true, if_false, Hq_G, k8, lvH_Hq, Option.bind_some, psh_i, psh_n]
    rfl
  | 3, _ =>
    simp only [e187_0, e187_1, e187_2, e187_3, e187_6, e187_9, e187_11, e187_12, e187_13, e187_16, e187_17, e187_20, e187_21, e187_24, e187_27, e187_28, e187_56, e187_57, e187_60, e187_63, e187_64, e187_65, e187_68, e187_71, e187_72, e187_73, e187_76, e187_79, e187_80, e187_81, e187_84, e187_87, en_35, en_179, i_1, i_7, f_1_0, f_1_1, f_1_2, C_within, e, d, K10_19 3 (by decide), Nat.reduceEqDiff, Nat.reduceLT, Nat.reduceLeDiff, Nat.reduceAdd, Nat.reduceMul, one_n0, not_false_eq_true, if_true, if_false, Hq_G, k10, lvH_Hq, Option.bind_some, psh_i, psh_n]
    rfl
  | w + 4, h => omega
theorem C_bad0 (I : Iv b po bs r n t N m) (R : Rl c m) (hb : wBd (wAll (wN b + n) N m) = 0) (T : KT c k hc kp ic is sd bk ba bv g) (W : KWm b n m g) : ∃ g', Den 185 [.ref 1] (HP L g) = some (some (-1000000003), HP L g') ∧ KT c k hc kp ic is sd bk ba bv g' ∧ KWm b n m g' ∧ frC g g' := by
  obtain ⟨g', d, T', h1, h2, F⟩ := C_through (L := L) I R T W
  refine ⟨g', ?_, T', KWm_of I h1 h2, F⟩
  have W2 : WI b po bs r n N (wAll (wN b + n) N m) := WI_fin 41000 _ (WI_start I ⟨c, R⟩).1
  have e8 : g' 7 8 = -1 := h2.2.2.1.trans (W2.2.2.2.2.2.2.1 hb)
  rw [D0_185]
  simp only [e185_0, e185_1, e185_4, e185_5, e185_8, e185_9, e185_12, e185_15, e185_16, e185_19, e185_22, e185_23, e185_26, e185_28, e185_29, e185_30, e185_33, e185_36, e185_37, e185_38, e185_41, e185_42, e185_45, e185_46, e185_49, e185_52, e185_53, en_74, en_118, en_179, i_1, i_7, f_1_0, f_1_1, f_1_2, d, e8, not_true_eq_false, if_false, Hq_G, lvH_Hq, Option.bind_some, psh_i, psh_n]
theorem C_bad (I : Iv b po bs r n t N m) (R : Rl c m) (hk16 : k ≤ 16) (hb : ¬ wBd (wAll (wN b + n) N m) = 0) (T : KT c k hc kp ic is sd bk ba bv g) (W : KWm b n m g) : ∃ g' c', Den 185 [.ref 1] (HP L g) = some (some (nI (wFd (wAll (wN b + n) N m))), HP L g') ∧ KT c' (kup k) (hcons c hc) kp ic is sd bk ba bv g' ∧ g' 7 5 = nI 0 ∧ frC g g' ∧ Rl c' (wFs (wAll (wN b + n) N m)) ∧ GS b po bs r n (wFs (wAll (wN b + n) N m)) := by
  obtain ⟨g1, d1, T1, h1, h2, F1⟩ := C_through (L := L) I R T W
  have W2 : WI b po bs r n N (wAll (wN b + n) N m) := WI_fin 41000 _ (WI_start I ⟨c, R⟩).1
  obtain ⟨⟨j, hj, ej⟩, z1, z2⟩ := W2.2.2.2.2.2.2.2 (by omega)
  have e8 : ¬ g1 7 8 = -1 := by
    rw [h2.2.2.1, ej]
    exact nI_nm1 (by omega)
  obtain ⟨e9, s', e53, Rs⟩ := h2.2.2.2.1 (by omega)
  obtain ⟨g2, d2, T2, h7, F2, f53⟩ := C_remember2 (L := L) hk16 T1
  have dt := D_shTake (g := g2) (s := c) (t := s') (st_2 (L := L)) shl_51 (by omega) (show 0 < 1 by omega) T2.1 (f53.trans e53)
  have d3 : Den 74 [.ref 7, .ref 2] (HP L g2) = some (none, HP L (upf g2 3 (lay s'))) := by
    rw [D0_74]
    simp only [e74_0, e74_1, e74_4, e74_5, e74_6, e74_9, en_24, i_7, i_51, f_7_1, dt, lvH_Hq, Option.bind_some, psh_n]
  refine ⟨upf g2 3 (lay s'), s', ?_, KT_c T2, h7, frC_t F1 (frC_t F2 (frC_upf (by omega) (by omega))), Rs, z2⟩
  rw [D0_185]
  simp only [e185_0, e185_1, e185_4, e185_5, e185_8, e185_9, e185_12, e185_15, e185_16, e185_19, e185_22, e185_23, e185_26, e185_28, e185_29, e185_30, e185_33, e185_36, e185_37, e185_38, e185_41, e185_42, e185_45, e185_46, e185_49, e185_52, e185_53, en_74, en_118, en_179, i_1, i_7, f_1_0, f_1_1, f_1_2, d1, d2, d3, e8, e9, not_false_eq_true, if_true, Hq_G, lvH_Hq, Option.bind_some, psh_i, psh_n]
end RR
