/-! THE CLASS: its walk -/
section RR
variable {L : Nat} {g g' g0 : Nat → Nat → Int32} {c m s : Sx} {b po bs r n t N : Nat} {x y : Int32} {X : WX}
theorem wk_n {i : Nat} (h : ¬ wkI i) : ¬ i = 5 ∧ ¬ i = 6 ∧ ¬ i = 7 ∧ ¬ (10 ≤ i ∧ i < 51) ∧ ¬ i = 53 ∧ ¬ i = 55 ∧ ¬ i = 56 ∧ ¬ i = 57 := by
  unfold wkI at h
  omega
/-- a turn's beginning: the walker as the level's state -/
theorem kturn (W : WI b po bs r n N X) (hx : ¬ wEx X) (hw : WC g0 g X) {d u : Nat} (hd : wDp X = d + 1) (hu : u < 1000000) : ∃ s, Rl s (wRw X d) ∧ g (10 + d) = lay s ∧
    Rr 179 57 [.ref 7, .ref 2, .ref 4, .int (nI (wDp X) - 1), .int (nI u)] [] (HP L g) = if lst (wRw X d) = 5 then Rr 179 100 [.ref 7, .ref 2, .ref 4, .int (nI d), .int (nI u)] [] (HP L (upf g 55 (lay s))) else Rr 179 112 [.ref 7, .ref 2, .ref 4, .int (nI d), .int (nI u)] [] (HP L (upf g 55 (lay s))) := by
  obtain ⟨h1, ⟨k6, -⟩, h3, h4, h5⟩ := hw
  obtain ⟨⟨s, hs, R⟩, -, -⟩ := h1 d (by omega)
  obtain ⟨t, ht⟩ := h4 55 (by unfold rwI; omega)
  have hc : ¬ 500 ≤ wCt X := fun z => hx (Or.inr z)
  have w1 := W.1
  have a0 : ¬ nI 1000000 ≤ nI u := nI_ge hu (by omega)
  have a1 : nI (d + 1) - 1 = nI d := nI_pred d
  have a2 : ¬ nI d < 0 := nI_pos (by omega)
  have a3 : ¬ nI 500 ≤ nI (wCt X) := nI_ge (by omega) (by omega)
  have dt := D_shTake (g := g) (s := t) (t := s) (st_54 (L := L)) shl_8 (by omega) (show d < 41 by omega) ht hs
  have du := D_underWay (g := upf g 55 (lay s)) (s := s) (st_54 (L := L))
  rw [upf_upf] at du
  refine ⟨s, R, hs, ?_⟩
  rw [hd, a1, e179_57]
  simp only [e179_0, e179_1, e179_4, e179_7, e179_8, e179_9, e179_10, e179_13, e179_14, e179_15, e179_18, e179_19, e179_20, e179_23, e179_24, e179_25, e179_28, e179_29, e179_30, e179_33, e179_34, e179_35, e179_38, e179_39, e179_42, e179_43, e179_44, e179_47, e179_48, e179_49, e179_52, e179_53, e179_54, e179_55, e179_59, e179_61, e179_64, e179_65, e179_68, e179_69, e179_72, e179_75, e179_78, e179_79, e179_82, e179_83, e179_84, e179_87, e179_90, e179_91, e179_94, e179_97, e179_101, e179_102, e179_103, e179_106, e179_109, e179_113, e179_114, e179_117, e179_120, e179_123, e179_124, e179_127, e179_128, e179_129, e179_132, e179_135, e179_136, e179_137, e179_140, e179_143, e179_146, e179_149, e179_152, en_23, en_24, en_32, en_110, en_152, en_165, i_7, i_8, i_54, f_7_0, f_7_2, Hq_G, k6, a0, a2, a3, if_false, dt, du, lvH_Hq, Option.bind_some, psh_i, psh_n]
  by_cases hl : lst (wRw X d) = 5
  · rw [if_pos hl, if_neg (fun z => z ((cnt_lst R).mpr hl))]
  · rw [if_neg hl, if_pos (fun z => hl ((cnt_lst R).mp z))]
theorem kt_leaf (W : WI b po bs r n N X) (hx : ¬ wEx X) (hw : WC g0 g X) {d u : Nat} (hd : wDp X = d + 1) (hu : u < 1000000) (hl : lst (wRw X d) = 5) : ∃ g', Rr 179 57 [.ref 7, .ref 2, .ref 4, .int (nI (wDp X) - 1), .int (nI u)] [] (HP L g) = Rr 179 57 [.ref 7, .ref 2, .ref 4, .int (nI d - 1), .int (nI (u + 1))] [] (HP L g') ∧ WC g0 g' (wStep (wN b + n) N X) := by
  obtain ⟨s, R, hs, ht⟩ := kturn (L := L) W hx hw hd hu
  rw [if_pos hl] at ht
  have W0 := W
  obtain ⟨w1, w2, -⟩ := W
  obtain ⟨⟨t, I, -⟩, -⟩ := w2 d (by omega)
  obtain ⟨h1, h2, h3, h4, h5⟩ := hw
  have v7 : upf g 55 (lay s) 7 = g 7 := rfl
  have v53 : upf g 55 (lay s) 53 = g 53 := rfl
  obtain ⟨g2, dc, q1, q2, q3, q4⟩ := K_count (L := L) (g := upf g 55 (lay s)) W0 (fun z => hx (Or.inr z)) (show d ≤ 40 by omega) I R upf_same (by rw [v53]; exact h4 53 (by unfold rwI; omega)) (KX_fr h2 v7 v53) (by rw [v7]; exact h3)
  have eX : wStep (wN b + n) N X = wLf X d (wRw X d) (wOk (wRw X d) N) := by
    unfold wStep
    rw [show wDp X - 1 = d by omega, if_pos hl]
  have ep : nI d + (Int32.ofInt (-1)) = nI d - 1 := by
    rw [Int32.sub_eq_add_neg]
    rfl
  refine ⟨g2, ?_, ?_⟩
  · rw [ht, e179_100]
    simp only [e179_0, e179_1, e179_4, e179_7, e179_8, e179_9, e179_10, e179_13, e179_14, e179_15, e179_18, e179_19, e179_20, e179_23, e179_24, e179_25, e179_28, e179_29, e179_30, e179_33, e179_34, e179_35, e179_38, e179_39, e179_42, e179_43, e179_44, e179_47, e179_48, e179_49, e179_52, e179_53, e179_54, e179_55, e179_59, e179_61, e179_64, e179_65, e179_68, e179_69, e179_72, e179_75, e179_78, e179_79, e179_82, e179_83, e179_84, e179_87, e179_90, e179_91, e179_94, e179_97, e179_101, e179_102, e179_103, e179_106, e179_109, e179_113, e179_114, e179_117, e179_120, e179_123, e179_124, e179_127, e179_128, e179_129, e179_132, e179_135, e179_136, e179_137, e179_140, e179_143, e179_146, e179_149, e179_152, en_23, en_24, en_32, en_110, en_152, en_165, i_7, dc, nI_add, ep, lvH_Hq, Option.bind_some, psh_n]
  · rw [eX]
    refine ⟨fun e he => ?_, q1, q2, fun i hi => ?_, fun i hi => ?_⟩
    · have he : e < d := he
      have z : ∀ i, (10 ≤ i ∧ i < 51) ∨ i = 56 ∨ i = 57 → g2 i = g i := fun i hi => (q4 i (by omega) (by omega) (by omega) (by omega)).trans (upf_ne (by omega))
      rw [z (10 + e) (by omega), z 56 (by omega), z 57 (by omega)]
      exact h1 e (by omega)
    · by_cases e53 : i = 53
      · rw [e53]
        exact q3
      · rw [q4 i (by unfold rwI at hi; omega) (by unfold rwI at hi; omega) (by unfold rwI at hi; omega) e53]
        by_cases e55 : i = 55
        · rw [e55]
          exact ⟨s, rfl⟩
        · rw [upf_ne e55]
          exact h4 i hi
    · obtain ⟨i5, i6, i7, -, i53, i55, -, -⟩ := wk_n hi
      rw [q4 i i5 i6 i7 i53, upf_ne i55]
      exact h5 i hi
theorem kt_pop (W : WI b po bs r n N X) (hx : ¬ wEx X) (hw : WC g0 g X) {d u : Nat} (hd : wDp X = d + 1) (hu : u < 1000000) (hl : ¬ lst (wRw X d) = 5) (hf : fnS (wRw X d) (wN b + n - wNp X d) (wNp X d) (wNc X d) = none) : ∃ g', Rr 179 57 [.ref 7, .ref 2, .ref 4, .int (nI (wDp X) - 1), .int (nI u)] [] (HP L g) = Rr 179 57 [.ref 7, .ref 2, .ref 4, .int (nI d - 1), .int (nI (u + 1))] [] (HP L g') ∧ WC g0 g' (wStep (wN b + n) N X) := by
  obtain ⟨s, R, hs, ht⟩ := kturn (L := L) W hx hw hd hu
  rw [if_neg hl] at ht
  obtain ⟨w1, w2, w3, -⟩ := W
  obtain ⟨⟨t, I, -⟩, he40, hnp, hnc⟩ := w2 d (by omega)
  obtain ⟨h1, h2, h3, h4, h5⟩ := hw
  obtain ⟨-, h56, h57⟩ := h1 d (by omega)
  rcases lst_of (m := wRw X d) with ⟨e, -⟩ | ⟨l1, l2, l3⟩
  · exact absurd e hl
  have hev := ev_pos I l1 l2
  have dg := (K_goOn0 (L := L) (g := upf g 55 (lay s)) I R (show d < 40 by omega) upf_same h56 h57 hnc hnp).1 hf
  have eX : wStep (wN b + n) N X = wPop X d := by
    unfold wStep
    rw [show wDp X - 1 = d by omega, if_neg hl, hf]
    rfl
  have ep : nI d + (Int32.ofInt (-1)) = nI d - 1 := by
    rw [Int32.sub_eq_add_neg]
    rfl
  refine ⟨upf g 55 (lay s), ?_, ?_⟩
  · rw [ht, e179_112]
    simp only [e179_0, e179_1, e179_4, e179_7, e179_8, e179_9, e179_10, e179_13, e179_14, e179_15, e179_18, e179_19, e179_20, e179_23, e179_24, e179_25, e179_28, e179_29, e179_30, e179_33, e179_34, e179_35, e179_38, e179_39, e179_42, e179_43, e179_44, e179_47, e179_48, e179_49, e179_52, e179_53, e179_54, e179_55, e179_59, e179_61, e179_64, e179_65, e179_68, e179_69, e179_72, e179_75, e179_78, e179_79, e179_82, e179_83, e179_84, e179_87, e179_90, e179_91, e179_94, e179_97, e179_101, e179_102, e179_103, e179_106, e179_109, e179_113, e179_114, e179_117, e179_120, e179_123, e179_124, e179_127, e179_128, e179_129, e179_132, e179_135, e179_136, e179_137, e179_140, e179_143, e179_146, e179_149, e179_152, en_23, en_24, en_32, en_110, en_152, en_165, i_7, dg, zz, if_true, nI_add, ep, lvH_Hq, Option.bind_some, psh_i]
  · rw [eX]
    refine ⟨fun e he => ?_, KX_fr h2 rfl rfl, h3, fun i hi => ?_, fun i hi => ?_⟩
    · have he : e < d := he
      rw [upf_ne (by omega)]
      exact h1 e (by omega)
    · by_cases e55 : i = 55
      · rw [e55]
        exact ⟨s, rfl⟩
      · rw [upf_ne e55]
        exact h4 i hi
    · rw [upf_ne (wk_n hi).2.2.2.2.2.1]
      exact h5 i hi
theorem kt_push (W : WI b po bs r n N X) (hx : ¬ wEx X) (hw : WC g0 g X) {d u p j : Nat} (hd : wDp X = d + 1) (hu : u < 1000000) (hl : ¬ lst (wRw X d) = 5) (hf : fnS (wRw X d) (wN b + n - wNp X d) (wNp X d) (wNc X d) = some (p, j)) : ∃ g', Rr 179 57 [.ref 7, .ref 2, .ref 4, .int (nI (wDp X) - 1), .int (nI u)] [] (HP L g) = Rr 179 57 [.ref 7, .ref 2, .ref 4, .int (nI (d + 1)), .int (nI (u + 1))] [] (HP L g') ∧ WC g0 g' (wStep (wN b + n) N X) ∧ wDp (wStep (wN b + n) N X) = d + 2 := by
  obtain ⟨s, R, hs, ht⟩ := kturn (L := L) W hx hw hd hu
  rw [if_neg hl] at ht
  obtain ⟨w1, w2, w3, -⟩ := W
  obtain ⟨⟨t, I, -⟩, he40, hnp, hnc⟩ := w2 d (by omega)
  obtain ⟨h1, h2, h3, h4, h5⟩ := hw
  obtain ⟨-, h56, h57⟩ := h1 d (by omega)
  rcases lst_of (m := wRw X d) with ⟨e, -⟩ | ⟨l1, l2, l3⟩
  · exact absurd e hl
  have hev := ev_pos I l1 l2
  have hnp5 := np_le I.1.1
  obtain ⟨f1, f2, f3⟩ := fnS_some _ _ _ hf
  have p5 : p < 5 := by omega
  obtain ⟨kk, k7, ek, eix, hpos⟩ := chs_ix I ⟨s, R⟩ p5
  rw [eix] at f3
  obtain ⟨-, R2⟩ := K_go (L := L) I R p5 (hpos.mp (by omega)) ek k7 f3
  have dg := (K_goOn0 (L := L) (g := upf g 55 (lay s)) I R (show d < 40 by omega) upf_same h56 h57 hnc hnp).2 p j hf
  have w56 : upf g 55 (lay s) 56 = g 56 := rfl
  have w57 : upf g 55 (lay s) 57 = g 57 := rfl
  rw [w56, w57] at dg
  have eX : wStep (wN b + n) N X = wPsh X d (mStp (wRw X d) p (wN b + n) (nI j)) p j := by
    unfold wStep
    rw [show wDp X - 1 = d by omega, if_neg hl, hf]
    rfl
  obtain ⟨t0, ht0⟩ := h4 (10 + (d + 1)) (by unfold rwI; omega)
  generalize mStp (wRw X d) p (wN b + n) (nI j) = m2 at *
  generalize goC s p (nI j) = s2 at *
  have y0 : upf (upf (upf (upf g 55 (lay s)) 56 (upd (g 56) d (nI p))) 57 (upd (g 57) d (nI (j + 1)))) 55 (lay s2) (10 + (d + 1)) = lay t0 := by
    rw [upf_ne (by omega), upf_ne (by omega), upf_ne (by omega), upf_ne (by omega)]
    exact ht0
  have dput := D_shPut (g := upf (upf (upf (upf g 55 (lay s)) 56 (upd (g 56) d (nI p))) 57 (upd (g 57) d (nI (j + 1)))) 55 (lay s2)) (s := s2) (t := t0) (st_54 (L := L)) shl_8 (by omega) (show d + 1 < 41 by omega) upf_same y0
  have dop := K_open (L := L) (g := upf (upf (upf (upf (upf g 55 (lay s)) 56 (upd (g 56) d (nI p))) 57 (upd (g 57) d (nI (j + 1)))) 55 (lay s2)) (10 + (d + 1)) (lay s2)) (show d + 1 < 41 by omega)
  have y1 : upf (upf (upf (upf (upf g 55 (lay s)) 56 (upd (g 56) d (nI p))) 57 (upd (g 57) d (nI (j + 1)))) 55 (lay s2)) (10 + (d + 1)) (lay s2) 56 = upd (g 56) d (nI p) := (upf_ne (by omega)).trans rfl
  have y2 : upf (upf (upf (upf (upf g 55 (lay s)) 56 (upd (g 56) d (nI p))) 57 (upd (g 57) d (nI (j + 1)))) 55 (lay s2)) (10 + (d + 1)) (lay s2) 57 = upd (g 57) d (nI (j + 1)) := (upf_ne (by omega)).trans rfl
  rw [y1, y2] at dop
  refine ⟨upf (upf (upf (upf (upf (upf (upf g 55 (lay s)) 56 (upd (g 56) d (nI p))) 57 (upd (g 57) d (nI (j + 1)))) 55 (lay s2)) (10 + (d + 1)) (lay s2)) 56 (upd (upd (g 56) d (nI p)) (d + 1) (nI 0))) 57 (upd (upd (g 57) d (nI (j + 1))) (d + 1) (nI 0)), ?_, ?_, ?_⟩
  · rw [ht, e179_112]
    simp only [e179_0, e179_1, e179_4, e179_7, e179_8, e179_9, e179_10, e179_13, e179_14, e179_15, e179_18, e179_19, e179_20, e179_23, e179_24, e179_25, e179_28, e179_29, e179_30, e179_33, e179_34, e179_35, e179_38, e179_39, e179_42, e179_43, e179_44, e179_47, e179_48, e179_49, e179_52, e179_53, e179_54, e179_55, e179_59, e179_61, e179_64, e179_65, e179_68, e179_69, e179_72, e179_75, e179_78, e179_79, e179_82, e179_83, e179_84, e179_87, e179_90, e179_91, e179_94, e179_97, e179_101, e179_102, e179_103, e179_106, e179_109, e179_113, e179_114, e179_117, e179_120, e179_123, e179_124, e179_127, e179_128, e179_129, e179_132, e179_135, e179_136, e179_137, e179_140, e179_143, e179_146, e179_149, e179_152, en_23, en_24, en_32, en_110, en_152, en_165, i_7, i_8, i_54, f_7_0, f_7_2, dg, one_n0, if_false, nI_add, dput, dop, lvH_Hq, Option.bind_some, psh_i, psh_n]
  · rw [eX]
    refine ⟨fun e he => ?_, ?_, ?_, fun i hi => ?_, fun i hi => ?_⟩
    · have he : e < d + 2 := he
      refine ⟨?_, ?_, ?_⟩
      · rw [upf_ne (by omega), upf_ne (by omega)]
        show ∃ s', _ ∧ Rl s' (upf (wRw X) (d + 1) m2 e)
        by_cases c : e = d + 1
        · subst c
          rw [upf_same, upf_same]
          exact ⟨s2, rfl, R2⟩
        · rw [upf_ne (by omega), upf_ne (by omega), upf_ne (by omega), upf_ne (by omega), upf_ne (by omega), upf_ne c]
          exact (h1 e (by omega)).1
      · show upd (upd (g 56) d (nI p)) (d + 1) (nI 0) e = nI (upf (upf (wNp X) d p) (d + 1) 0 e)
        unfold upd upf
        by_cases c : e = d + 1
        · rw [if_pos c, if_pos c]
        · rw [if_neg c, if_neg c]
          by_cases c2 : e = d
          · rw [if_pos c2, if_pos c2]
          · rw [if_neg c2, if_neg c2]
            exact (h1 e (by omega)).2.1
      · show upd (upd (g 57) d (nI (j + 1))) (d + 1) (nI 0) e = nI (upf (upf (wNc X) d (j + 1)) (d + 1) 0 e)
        unfold upd upf
        by_cases c : e = d + 1
        · rw [if_pos c, if_pos c]
        · rw [if_neg c, if_neg c]
          by_cases c2 : e = d
          · rw [if_pos c2, if_pos c2]
          · rw [if_neg c2, if_neg c2]
            exact (h1 e (by omega)).2.2
    · refine KX_fr (X := wPsh X d m2 p j) (g := g) h2 ?_ ?_
      · rw [upf_ne (by omega), upf_ne (by omega), upf_ne (by omega), upf_ne (by omega), upf_ne (by omega), upf_ne (by omega), upf_ne (by omega)]
      · rw [upf_ne (by omega), upf_ne (by omega), upf_ne (by omega), upf_ne (by omega), upf_ne (by omega), upf_ne (by omega), upf_ne (by omega)]
    · rw [upf_ne (by omega), upf_ne (by omega), upf_ne (by omega), upf_ne (by omega), upf_ne (by omega), upf_ne (by omega), upf_ne (by omega)]
      exact h3
    · rw [upf_ne (by unfold rwI at hi; omega), upf_ne (by unfold rwI at hi; omega)]
      by_cases e1 : i = 10 + (d + 1)
      · rw [e1, upf_same]
        exact ⟨s2, rfl⟩
      · rw [upf_ne e1]
        by_cases e2 : i = 55
        · rw [e2, upf_same]
          exact ⟨s2, rfl⟩
        · rw [upf_ne e2, upf_ne (by unfold rwI at hi; omega), upf_ne (by unfold rwI at hi; omega), upf_ne e2]
          exact h4 i hi
    · obtain ⟨i5, i6, i7, i10, i53, i55, i56, i57⟩ := wk_n hi
      rw [upf_ne i57, upf_ne i56, upf_ne (by omega), upf_ne i55, upf_ne i57, upf_ne i56, upf_ne i55]
      exact h5 i hi
  · rw [eX]
    rfl
theorem kt_ex (W : WI b po bs r n N X) (hx : wEx X) (h6 : g 7 6 = nI (wCt X)) {u : Nat} : Rr 179 57 [.ref 7, .ref 2, .ref 4, .int (nI (wDp X) - 1), .int (nI u)] [] (HP L g) = some (none, HP L g) := by
  by_cases cu : nI 1000000 ≤ nI u
  · rw [e179_57]
    simp only [e179_0, e179_1, e179_4, e179_7, e179_8, e179_9, e179_10, e179_13, e179_14, e179_15, e179_18, e179_19, e179_20, e179_23, e179_24, e179_25, e179_28, e179_29, e179_30, e179_33, e179_34, e179_35, e179_38, e179_39, e179_42, e179_43, e179_44, e179_47, e179_48, e179_49, e179_52, e179_53, e179_54, e179_55, e179_59, e179_61, e179_64, e179_65, e179_68, e179_69, e179_72, e179_75, e179_78, e179_79, e179_82, e179_83, e179_84, e179_87, e179_90, e179_91, e179_94, e179_97, e179_100, e179_101, e179_102, e179_103, e179_106, e179_109, e179_112, e179_113, e179_114, e179_117, e179_120, e179_123, e179_124, e179_127, e179_128, e179_129, e179_132, e179_135, e179_136, e179_137, e179_140, e179_143, e179_146, e179_149, e179_152, en_23, en_24, en_32, en_110, en_152, en_165, cu, if_true]
  · by_cases c : wDp X = 0
    · have a1 : nI 0 - 1 < 0 := by decide
      rw [c, e179_57]
      simp only [e179_0, e179_1, e179_4, e179_7, e179_8, e179_9, e179_10, e179_13, e179_14, e179_15, e179_18, e179_19, e179_20, e179_23, e179_24, e179_25, e179_28, e179_29, e179_30, e179_33, e179_34, e179_35, e179_38, e179_39, e179_42, e179_43, e179_44, e179_47, e179_48, e179_49, e179_52, e179_53, e179_54, e179_55, e179_59, e179_61, e179_64, e179_65, e179_68, e179_69, e179_72, e179_75, e179_78, e179_79, e179_82, e179_83, e179_84, e179_87, e179_90, e179_91, e179_94, e179_97, e179_100, e179_101, e179_102, e179_103, e179_106, e179_109, e179_112, e179_113, e179_114, e179_117, e179_120, e179_123, e179_124, e179_127, e179_128, e179_129, e179_132, e179_135, e179_136, e179_137, e179_140, e179_143, e179_146, e179_149, e179_152, en_23, en_24, en_32, en_110, en_152, en_165, cu, a1, if_true, if_false]
    · have a2 : nI 500 ≤ nI (wCt X) := (nI_leI (by omega) (by have := W.2.2.2.2.1; omega)).mpr (hx.resolve_left c)
      obtain ⟨d, hd⟩ : ∃ d, wDp X = d + 1 := ⟨wDp X - 1, by omega⟩
      have a4 : nI (d + 1) - 1 = nI d := nI_pred d
      have a1 : ¬ nI d < 0 := nI_pos (by have := W.1; omega)
      rw [hd, a4, e179_57]
      simp only [e179_0, e179_1, e179_4, e179_7, e179_8, e179_9, e179_10, e179_13, e179_14, e179_15, e179_18, e179_19, e179_20, e179_23, e179_24, e179_25, e179_28, e179_29, e179_30, e179_33, e179_34, e179_35, e179_38, e179_39, e179_42, e179_43, e179_44, e179_47, e179_48, e179_49, e179_52, e179_53, e179_54, e179_55, e179_59, e179_61, e179_64, e179_65, e179_68, e179_69, e179_72, e179_75, e179_78, e179_79, e179_82, e179_83, e179_84, e179_87, e179_90, e179_91, e179_94, e179_97, e179_100, e179_101, e179_102, e179_103, e179_106, e179_109, e179_112, e179_113, e179_114, e179_117, e179_120, e179_123, e179_124, e179_127, e179_128, e179_129, e179_132, e179_135, e179_136, e179_137, e179_140, e179_143, e179_146, e179_149, e179_152, en_23, en_24, en_32, en_110, en_152, en_165, i_7, h6, cu, a1, a2, if_true, if_false, Hq_G]
theorem kt_all : ∀ k X g u, WI b po bs r n N X → WC g0 g X → 41000 ≤ wPsi X + k → u + k ≤ 1000000 → ∃ g', Rr 179 57 [.ref 7, .ref 2, .ref 4, .int (nI (wDp X) - 1), .int (nI u)] [] (HP L g) = some (none, HP L g') ∧ WC g0 g' (wFin (wN b + n) N k X)
  | 0, X, g, u, W, hw, hk, hu => ⟨g, kt_ex W (wEx_psi W (by omega)) hw.2.1.1, hw⟩
  | k + 1, X, g, u, W, hw, hk, hu => by
    unfold wFin
    by_cases c : wEx X
    · rw [if_pos c]
      exact ⟨g, kt_ex W c hw.2.1.1, hw⟩
    · rw [if_neg c]
      obtain ⟨W2, hpsi⟩ := WI_step W c
      obtain ⟨d, hd⟩ := wd1 c
      by_cases hl : lst (wRw X d) = 5
      · obtain ⟨g1, e1, hw1⟩ := kt_leaf (L := L) W c hw hd (show u < 1000000 by omega) hl
        obtain ⟨g2, e2, hw2⟩ := kt_all k _ g1 (u + 1) W2 hw1 (by omega) (by omega)
        have eD : wDp (wStep (wN b + n) N X) = d := by
          unfold wStep
          rw [show wDp X - 1 = d by omega, if_pos hl]
          rfl
        rw [eD] at e2
        exact ⟨g2, e1.trans e2, hw2⟩
      · cases hf : fnS (wRw X d) (wN b + n - wNp X d) (wNp X d) (wNc X d) with
        | none =>
          obtain ⟨g1, e1, hw1⟩ := kt_pop (L := L) W c hw hd (show u < 1000000 by omega) hl hf
          obtain ⟨g2, e2, hw2⟩ := kt_all k _ g1 (u + 1) W2 hw1 (by omega) (by omega)
          have eD : wDp (wStep (wN b + n) N X) = d := by
            unfold wStep
            rw [show wDp X - 1 = d by omega, if_neg hl, hf]
            rfl
          rw [eD] at e2
          exact ⟨g2, e1.trans e2, hw2⟩
        | some q =>
          obtain ⟨q1, q2⟩ := q
          obtain ⟨g1, e1, hw1, eD⟩ := kt_push (L := L) W c hw hd (show u < 1000000 by omega) hl hf
          obtain ⟨g2, e2, hw2⟩ := kt_all k _ g1 (u + 1) W2 hw1 (by omega) (by omega)
          have ep : nI (d + 2) - 1 = nI (d + 1) := nI_pred (d + 1)
          rw [eD, ep] at e2
          exact ⟨g2, e1.trans e2, hw2⟩
end RR
