/-! THE MODEL: the next step of a way; a way counted -/
section RR
variable {L : Nat} {g : Nat → Nat → Int32} {m : Sx} {b po bs r n t N : Nat} {f : Nat → Int32}
def fr92 (d : Nat) (g g' : Nat → Nat → Int32) : Prop := (∀ i, ¬ i = 92 → ¬ i = 93 → g' i = g i) ∧ ∀ x, ¬ x = d → g' 92 x = g 92 x ∧ g' 93 x = g 93 x
theorem L_fnd (I : Iv b po bs r n t N m) (R : ∃ c, Rl c m) {d : Nat} (hd : d < 64) : ∀ e p j (g : Nat → Nat → Int32), p + e = wN b + n → j ≤ 8 → g 92 d = nI p → g 93 d = nI j →
    ((fnS m e p j = none → ∃ g', Rr 156 0 [.ref 86, .int (nI d)] [] (HM L g m f) = some (some (nI 0), HM L g' m f) ∧ fr92 d g g') ∧
     (∀ q1 q2, fnS m e p j = some (q1, q2) → ∃ g', Rr 156 0 [.ref 86, .int (nI d)] [] (HM L g m f) = some (some (nI 1), HM L g' m f) ∧ fr92 d g g' ∧ g' 92 d = nI q1 ∧ g' 93 d = nI q2))
  | 0, p, j, g, h, hj, g2, g3 => by
    have hnp := np_le I.1.1
    have a1 : (nI d).toNatClampNeg = d := nI_clamp (by omega)
    have a2 : ¬ (nI d < 0 ∨ 64 ≤ d) := fun z => z.elim (nI_pos (by omega)) (by omega)
    have a4 : nI (wN b + n) ≤ nI p := (nI_leI (by omega) (by omega)).mpr (by omega)
    have s2 := gMn (L := L) (g := g) (F := layM m f) (show ¬ 92 = 87 by decide)
    refine ⟨fun _ => ⟨g, ?_, fun _ _ _ => rfl, fun _ _ => ⟨rfl, rfl⟩⟩, fun q1 q2 hf => ?_⟩
    · rw [e156_0]
      simp only [e156_1, e156_4, e156_5, e156_6, e156_7, e156_10, e156_13, e156_14, e156_17, e156_18, e156_19, e156_20, e156_21, e156_24, e156_25, e156_26, e156_29, e156_32, e156_33, e156_36, e156_37, e156_38, e156_39, e156_40, e156_41, e156_42, e156_43, e156_46, e156_47, e156_48, e156_49, e156_52, e156_53, e156_56, e156_57, e156_58, e156_59, e156_62, e156_65, e156_66, e156_69, e156_70, en_46, en_143, i_86, f_86_9, a_92, n_92, s2, a1, a2, g2, M_processes, prcs_b I.1.2.1 I.1.1.1, a4, if_true, not_false_eq_true, zero_01, lvH_Hq, Option.bind_some, psh_i]
    · unfold fnS at hf
      exact absurd hf (by simp only [reduceCtorEq, not_false_eq_true])
  | e + 1, p, j, g, h, hj, g2, g3 => by
    have hnp := np_le I.1.1
    have hp5 : p < 5 := by omega
    have a1 : (nI d).toNatClampNeg = d := nI_clamp (by omega)
    have a2 : ¬ (nI d < 0 ∨ 64 ≤ d) := fun z => z.elim (nI_pos (by omega)) (by omega)
    have a4 : ¬ nI (wN b + n) ≤ nI p := nI_ge (by omega) (by omega)
    have s2 : ∀ g : Nat → Nat → Int32, Gt (HP L (upf g 87 (layM m f))) 92 = g 92 := fun g => gMn (show ¬ 92 = 87 by decide)
    have s3 : ∀ g : Nat → Nat → Int32, Gt (HP L (upf g 87 (layM m f))) 93 = g 93 := fun g => gMn (show ¬ 93 = 87 by decide)
    have w2 : ∀ (g : Nat → Nat → Int32) G, setG (HP L (upf g 87 (layM m f))) 92 G = HP L (upf (upf g 92 G) 87 (layM m f)) := fun g G => sMn (show ¬ 92 = 87 by decide)
    have w3 : ∀ (g : Nat → Nat → Int32) G, setG (HP L (upf g 87 (layM m f))) 93 G = HP L (upf (upf g 93 G) 87 (layM m f)) := fun g G => sMn (show ¬ 93 = 87 by decide)
    obtain ⟨kk, k7, ek, eix, -⟩ := chs_ix I R hp5
    obtain ⟨o, ho, e7, hA⟩ := uw_ix I hp5
    have hc := M_choices (L := L) (g := g) (f := f) hp5 (show o ≤ 10 by omega) e7
    rw [ek] at hc
    have ef : fnS m (e + 1) p j = if j < kk then some (p, j) else fnS m e (p + 1) 0 := by
      rw [fnS, eix]
    rw [ef]
    by_cases c : j < kk
    · have c' : nI j < nI kk := nI_lt c (by omega)
      rw [if_pos c]
      refine ⟨fun z => absurd z (by simp only [reduceCtorEq, not_false_eq_true]), fun q1 q2 hf => ?_⟩
      have h2 := Option.some.inj hf
      have e1 : p = q1 := congrArg Prod.fst h2
      have e2 : j = q2 := congrArg Prod.snd h2
      subst e1
      subst e2
      refine ⟨g, ?_, ⟨fun _ _ _ => rfl, fun _ _ => ⟨rfl, rfl⟩⟩, g2, g3⟩
      rw [e156_0]
      simp only [e156_1, e156_4, e156_5, e156_6, e156_7, e156_10, e156_13, e156_14, e156_17, e156_18, e156_19, e156_20, e156_21, e156_24, e156_25, e156_26, e156_29, e156_32, e156_33, e156_36, e156_37, e156_38, e156_39, e156_40, e156_41, e156_42, e156_43, e156_46, e156_47, e156_48, e156_49, e156_52, e156_53, e156_56, e156_57, e156_58, e156_59, e156_62, e156_65, e156_66, e156_69, e156_70, en_46, en_143, i_86, f_86_9, f_86_10, a_92, n_92, a_93, n_93, s2, s3, a1, a2, g2, g3, M_processes, prcs_b I.1.2.1 I.1.1.1, hc, a4, c', if_true, if_false, not_false_eq_true, one_01, lvH_Hq, Option.bind_some, psh_i]
    · have c' : ¬ nI j < nI kk := nI_nlt (by omega) (by omega)
      rw [if_neg c]
      have k1 : upf (upf g 92 (upd (g 92) d (nI (p + 1)))) 93 (upd (g 93) d (nI 0)) 92 = upd (g 92) d (nI (p + 1)) := rfl
      have k2 : upf (upf g 92 (upd (g 92) d (nI (p + 1)))) 93 (upd (g 93) d (nI 0)) 93 = upd (g 93) d (nI 0) := rfl
      have ih := L_fnd I R hd e (p + 1) 0 (upf (upf g 92 (upd (g 92) d (nI (p + 1)))) 93 (upd (g 93) d (nI 0))) (by omega) (by omega) (by rw [k1]; exact if_pos rfl) (by rw [k2]; exact if_pos rfl)
      have hr : Rr 156 0 [.ref 86, .int (nI d)] [] (HM L g m f) = Rr 156 0 [.ref 86, .int (nI d)] [] (HM L (upf (upf g 92 (upd (g 92) d (nI (p + 1)))) 93 (upd (g 93) d (nI 0))) m f) := by
        rw [e156_0]
        have k3 : upf g 92 (upd (g 92) d (nI (p + 1))) 93 = g 93 := rfl
        simp only [e156_1, e156_4, e156_5, e156_6, e156_7, e156_10, e156_13, e156_14, e156_17, e156_18, e156_19, e156_20, e156_21, e156_24, e156_25, e156_26, e156_29, e156_32, e156_33, e156_36, e156_37, e156_38, e156_39, e156_40, e156_41, e156_42, e156_43, e156_46, e156_47, e156_48, e156_49, e156_53, e156_56, e156_57, e156_58, e156_59, e156_62, e156_65, e156_66, e156_69, e156_70, en_46, en_143, i_86, f_86_9, f_86_10, a_92, b_92, n_92, a_93, b_93, n_93, s2, s3, w2, w3, k3, a1, a2, g2, g3, M_processes, prcs_b I.1.2.1 I.1.1.1, hc, a4, c', if_true, if_false, not_false_eq_true, nI_add, lvH_Hq, Option.bind_some, psh_i]
      have fr : ∀ g', fr92 d (upf (upf g 92 (upd (g 92) d (nI (p + 1)))) 93 (upd (g 93) d (nI 0))) g' → fr92 d g g' := by
        rintro g' ⟨f1, f2⟩
        refine ⟨fun i h1 h2 => (f1 i h1 h2).trans ?_, fun x hx => ?_⟩
        · rw [upf_ne h2, upf_ne h1]
        · obtain ⟨y1, y2⟩ := f2 x hx
          rw [k1] at y1
          rw [k2] at y2
          exact ⟨y1.trans (if_neg hx), y2.trans (if_neg hx)⟩
      rw [hr]
      refine ⟨fun z => ?_, fun q1 q2 z => ?_⟩
      · obtain ⟨g', y1, y2⟩ := ih.1 z
        exact ⟨g', y1, fr g' y2⟩
      · obtain ⟨g', y1, y2, y3⟩ := ih.2 q1 q2 z
        exact ⟨g', y1, fr g' y2, y3⟩
theorem M_count (I : Iv b po bs r n t N m) {d ct bd lg : Nat} {fb : Int32} (hd : d ≤ 40) (h11 : g 86 11 = nI ct) (h12 : g 86 12 = nI bd) (h13 : g 86 13 = fb) (h14 : g 86 14 = nI lg) (hlg : lg ≤ 40) (hf0 : bd = 0 → fb = -1) (hf1 : 1 ≤ bd → ∃ j, j < 500 ∧ fb = nI j) :
    ∃ g', Den 171 [.ref 86, .int (nI d)] (HM L g m f) = some (none, HM L g' m f) ∧ (∀ i, ¬ i = 86 → ¬ i = 91 → g' i = g i) ∧
      g' 86 = upd (upd (upd (upd (g 86) 13 (if wOk m N = true then fb else if bd = 0 then nI ct else fb)) 12 (nI (if wOk m N = true then bd else bd + 1))) 14 (nI (if lg < d then d else lg))) 11 (nI (ct + 1)) := by
  have HI := Iv_hI I.1
  have h6 := I.1.2.2.1
  have hN := I.1.2.2.2.1
  obtain ⟨g1, q1, q2⟩ := M_isAtomic (L := L) (g := g) (f := f) HI h6 hN
  have p86 : g1 86 = g 86 := q2 86 (by decide)
  have s6 : ∀ g : Nat → Nat → Int32, Gt (HP L (upf g 87 (layM m f))) 86 = g 86 := fun g => gMn (show ¬ 86 = 87 by decide)
  have w6 : ∀ (g : Nat → Nat → Int32) G, setG (HP L (upf g 87 (layM m f))) 86 G = HP L (upf (upf g 86 G) 87 (layM m f)) := fun g G => sMn (show ¬ 86 = 87 by decide)
  have u1 : ∀ (F : Nat → Int32) v, upd F 13 v 12 = F 12 := fun F v => rfl
  have u2 : ∀ (F : Nat → Int32) v, upd F 13 v 14 = F 14 := fun F v => rfl
  have u3 : ∀ (F : Nat → Int32) v, upd F 13 v 11 = F 11 := fun F v => rfl
  have u4 : ∀ (F : Nat → Int32) v, upd F 12 v 14 = F 14 := fun F v => rfl
  have u5 : ∀ (F : Nat → Int32) v, upd F 12 v 11 = F 11 := fun F v => rfl
  have u6 : ∀ (F : Nat → Int32) v, upd F 14 v 11 = F 11 := fun F v => rfl
  have u7 : ∀ (F : Nat → Int32) v, upd F 14 v 14 = v := fun F v => rfl
  have frm' : ∀ G, (∀ i, ¬ i = 86 → ¬ i = 91 → upf g1 86 G i = g i) := fun G i h1 h2 => (upf_ne h1).trans (q2 i h2)
  have e14 : ∀ {X : Hp → Option Rs} {v : Value} {G : Nat → Int32}, G 14 = nI lg → G 11 = nI ct → (if nI d ≤ nI lg then Rr 171 71 [.ref 86, .int (nI d), v] [.ref 86] (HP L (upf (upf g1 86 G) 87 (layM m f))) else Rr 171 67 [.ref 86, .int (nI d), v] [.ref 86] (HP L (upf (upf g1 86 G) 87 (layM m f)))) = some (none, HP L (upf (upf g1 86 (upd (upd G 14 (nI (if lg < d then d else lg))) 11 (nI (ct + 1)))) 87 (layM m f))) := by
    intro X v G hG hG2
    by_cases c : lg < d
    · rw [if_neg (nI_ge c (by omega)), if_pos c]
      simp only [e171_0, e171_1, e171_2, e171_5, e171_8, e171_9, e171_12, e171_13, e171_14, e171_15, e171_16, e171_19, e171_20, e171_23, e171_26, e171_27, e171_30, e171_33, e171_34, e171_37, e171_40, e171_41, e171_42, e171_45, e171_46, e171_49, e171_50, e171_53, e171_54, e171_55, e171_58, e171_59, e171_60, e171_61, e171_64, e171_67, e171_68, e171_71, e171_72, e171_75, e171_78, e171_79, e171_80, e171_83, e171_84, e171_85, e171_88, en_158, i_86, s6, w6, upf_same, upf_upf, hG, hG2, u6, nI_add]
    · rw [if_pos ((nI_leI (by omega) (by omega)).mpr (by omega)), if_neg c]
      simp only [e171_0, e171_1, e171_2, e171_5, e171_8, e171_9, e171_12, e171_13, e171_14, e171_15, e171_16, e171_19, e171_20, e171_23, e171_26, e171_27, e171_30, e171_33, e171_34, e171_37, e171_40, e171_41, e171_42, e171_45, e171_46, e171_49, e171_50, e171_53, e171_54, e171_55, e171_58, e171_59, e171_60, e171_61, e171_64, e171_67, e171_68, e171_71, e171_72, e171_75, e171_78, e171_79, e171_80, e171_83, e171_84, e171_85, e171_88, en_158, i_86, s6, w6, upf_same, upf_upf, hG, hG2, u6, nI_add]
  have e14 := fun {v : Value} {G : Nat → Int32} => e14 (X := fun _ => none) (v := v) (G := G)
  rw [D0_171]
  by_cases c : hAt (hyM m) N
  · have eo : wOk m N = true := by
      unfold wOk
      rw [b2c_t c, if_pos rfl]
    have e14' := e14 (v := .int (nI 0)) (G := upd (upd (g 86) 13 fb) 12 (nI bd)) (by rw [u4, u2, h14]) (by rw [u5, u3, h11])
    rw [eo, if_pos rfl, if_pos rfl]
    refine ⟨_, ?_, frm' _, upf_same⟩
    rw [← e14']
    simp only [e171_0, e171_1, e171_2, e171_5, e171_8, e171_9, e171_12, e171_13, e171_14, e171_15, e171_16, e171_19, e171_20, e171_23, e171_26, e171_27, e171_30, e171_33, e171_34, e171_37, e171_40, e171_41, e171_42, e171_45, e171_46, e171_49, e171_50, e171_53, e171_54, e171_55, e171_58, e171_59, e171_60, e171_61, e171_64, e171_68, e171_72, e171_75, e171_78, e171_79, e171_80, e171_83, e171_84, e171_85, e171_88, en_158, i_86, q1, b2c_t c, one_n0, zz, not_false_eq_true, if_true, if_false, s6, w6, upf_same, upf_upf, p86, h13, u1, u2, u4, h12, h14, show ∀ k, nI k + nI 0 = nI k from fun k => nI_add k 0, lvH_Hq, Option.bind_some, psh_i]
  · have eo : ¬ wOk m N = true := by
      unfold wOk
      rw [b2c_f c, if_neg (by decide)]
      simp only [reduceCtorEq, not_false_eq_true]
    rw [if_neg eo, if_neg eo]
    by_cases z : bd = 0
    · have e14' := e14 (v := .int (nI 1)) (G := upd (upd (g 86) 13 (nI ct)) 12 (nI (bd + 1))) (by rw [u4, u2, h14]) (by rw [u5, u3, h11])
      have hn : ¬ (0 : Int32) ≤ -1 := by decide
      rw [if_pos z]
      refine ⟨_, ?_, frm' _, upf_same⟩
      rw [← e14']
      simp only [e171_0, e171_1, e171_2, e171_5, e171_8, e171_9, e171_12, e171_13, e171_14, e171_15, e171_16, e171_19, e171_20, e171_23, e171_26, e171_27, e171_30, e171_33, e171_34, e171_37, e171_40, e171_41, e171_42, e171_45, e171_46, e171_49, e171_50, e171_53, e171_54, e171_55, e171_58, e171_59, e171_60, e171_61, e171_64, e171_68, e171_72, e171_75, e171_78, e171_79, e171_80, e171_83, e171_84, e171_85, e171_88, en_158, i_86, q1, b2c_f c, one_n0, zz, not_true_eq_false, if_true, if_false, s6, w6, upf_same, upf_upf, p86, h13, hf0 z, hn, h11, u1, u2, u4, h12, h14, nI_add, lvH_Hq, Option.bind_some, psh_i]
    · obtain ⟨j, hj, ej⟩ := hf1 (by omega)
      have e14' := e14 (v := .int (nI 1)) (G := upd (upd (g 86) 13 fb) 12 (nI (bd + 1))) (by rw [u4, u2, h14]) (by rw [u5, u3, h11])
      have hn : (0 : Int32) ≤ fb := by rw [ej]; exact (nI_leI (a := 0) (by omega) (by omega)).mpr (Nat.zero_le _)
      rw [if_neg z]
      refine ⟨_, ?_, frm' _, upf_same⟩
      rw [← e14']
      simp only [e171_0, e171_1, e171_2, e171_5, e171_8, e171_9, e171_12, e171_13, e171_14, e171_15, e171_16, e171_19, e171_20, e171_23, e171_26, e171_27, e171_30, e171_33, e171_34, e171_37, e171_40, e171_41, e171_42, e171_45, e171_46, e171_49, e171_50, e171_53, e171_54, e171_55, e171_58, e171_59, e171_60, e171_61, e171_64, e171_68, e171_72, e171_75, e171_78, e171_79, e171_80, e171_83, e171_84, e171_85, e171_88, en_158, i_86, q1, b2c_f c, one_n0, zz, not_true_eq_false, if_true, if_false, s6, w6, upf_same, upf_upf, p86, h13, hn, h11, u1, u2, u4, h12, h14, nI_add, lvH_Hq, Option.bind_some, psh_i]
end RR
