/-! THE MODEL: laid anew -/
section RR
variable {L a b : Nat} {g : Nat → Nat → Int32} {s : Sx} {f F : Nat → Int32} {rs : Nat → Sx} {v1 v2 v3 v4 v5 : Int32}
def azF (F : Nat → Int32) (j : Nat) : Nat → Int32 := fun i => if i < j then nI 0 else F i
theorem azF_up {j : Nat} : upd (azF F j) j (nI 0) = azF F (j + 1) := by
  funext i
  unfold upd azF
  by_cases h : i = j
  · subst h
    rw [if_pos rfl, if_pos (by omega)]
  · rw [if_neg h]
    by_cases h2 : i < j
    · rw [if_pos h2, if_pos (by omega)]
    · rw [if_neg h2, if_neg (by omega)]
theorem zS_0 {i : Nat} : lay2 zS i = nI 0 := by
  unfold lay2 zS mkS Sx.H Sx.C Sx.P Sx.A
  dsimp only
  repeat' split
  all_goals rfl
theorem azF_142 : azF F 142 = layM zS F := by
  funext i
  unfold azF layM
  by_cases h : i < 142
  · rw [if_pos h, if_pos h, zS_0]
  · rw [if_neg h, if_neg h]
theorem azF_0 : azF F 0 = F := by
  funext i
  exact if_neg (by omega)
theorem L_new1 : ∀ k j, j + k = 142 → Rr 44 3 [.ref 86, .int v1, .int v2, .int v3, .int v4, .int v5, .int (nI j)] [] (HP L (upf g 87 (azF F j))) = Rr 44 25 [.ref 86, .int v1, .int v2, .int v3, .int v4, .int v5, .int (nI 142)] [] (HM L g zS F)
  | 0, j, h => by
    have : j = 142 := by omega
    subst this
    rw [e44_3, azF_142]
    simp only [e44_0, e44_1, e44_5, e44_8, e44_11, e44_12, e44_15, e44_17, e44_18, e44_19, e44_22, e44_26, e44_29, e44_30, e44_31, e44_32, e44_33, e44_36, e44_37, e44_38, e44_39, e44_40, e44_43, e44_44, e44_45, e44_46, e44_47, e44_50, e44_51, e44_53, e44_54, e44_55, e44_58, e44_59, e44_61, e44_62, e44_63, e44_66, e44_68, e44_69, e44_70, e44_73, e44_74, e44_77, e44_78, e44_79, e44_80, e44_82, e44_84, e44_85, e44_88, e44_89, e44_92, e44_93, e44_95, e44_96, e44_99, e44_100, e44_101, e44_104, e44_107, e44_108, e44_109, e44_112, en_11, Int32.le_refl, if_true]
  | k + 1, j, h => by
    have h1 : ¬ nI 142 ≤ nI j := nI_ge (by omega) (by omega)
    have ih := L_new1 k (j + 1) (by omega)
    have k2 : ¬ (nI j < 0 ∨ 11360 ≤ (nI j).toNatClampNeg) := nI_in (by omega) (by omega)
    have k4 : (nI j).toNatClampNeg = j := nI_clamp (by omega)
    rw [e44_3]
    simp only [e44_0, e44_1, e44_5, e44_8, e44_11, e44_12, e44_15, e44_17, e44_18, e44_19, e44_22, e44_26, e44_29, e44_30, e44_31, e44_32, e44_33, e44_36, e44_37, e44_38, e44_39, e44_40, e44_43, e44_44, e44_45, e44_46, e44_47, e44_50, e44_51, e44_53, e44_54, e44_55, e44_58, e44_59, e44_61, e44_62, e44_63, e44_66, e44_68, e44_69, e44_70, e44_73, e44_74, e44_77, e44_78, e44_79, e44_80, e44_82, e44_84, e44_85, e44_88, e44_89, e44_92, e44_93, e44_95, e44_96, e44_99, e44_100, e44_101, e44_104, e44_107, e44_108, e44_109, e44_112, en_11, i_86, f_86_0, b_87, n_87, h1, if_false, k2, not_false_eq_true, nI_add, lvH_Hq, Option.bind_some, psh_i, psh_n, Hq_G, Hq_setG, upf_same, upf_upf]
    rw [k4, azF_up, ih]
theorem L_new2 {P : Sx → Nat → Sx} (hP : P = fun s p => s.sP p 0 (-1)) : ∀ k j, j + k = 5 → Rr 44 82 [.ref 86, .int v1, .int v2, .int v3, .int v4, .int v5, .int (nI j)] [] (HM L g (itr P j s) f) = Rr 44 107 [.ref 86, .int v1, .int v2, .int v3, .int v4, .int v5, .int (nI 5)] [] (HM L g (itr P 5 s) f)
  | 0, j, h => by
    have : j = 5 := by omega
    subst this
    rw [e44_82]
    simp only [e44_0, e44_1, e44_3, e44_5, e44_8, e44_11, e44_12, e44_15, e44_17, e44_18, e44_19, e44_22, e44_25, e44_26, e44_29, e44_30, e44_31, e44_32, e44_33, e44_36, e44_37, e44_38, e44_39, e44_40, e44_43, e44_44, e44_45, e44_46, e44_47, e44_50, e44_51, e44_53, e44_54, e44_55, e44_58, e44_59, e44_61, e44_62, e44_63, e44_66, e44_68, e44_69, e44_70, e44_73, e44_74, e44_77, e44_78, e44_79, e44_80, e44_84, e44_85, e44_88, e44_89, e44_92, e44_93, e44_95, e44_96, e44_99, e44_100, e44_101, e44_104, e44_108, e44_109, e44_112, en_11, Int32.le_refl, if_true]
  | k + 1, j, h => by
    have h1 : ¬ nI 5 ≤ nI j := nI_ge (by omega) (by omega)
    have ih := L_new2 hP k (j + 1) (by omega)
    have k2 := in_P (show j < 5 by omega) (show 0 < 18 by omega)
    have k3 : ∀ s : Sx, upd (layM s f) (nI (17 + 18 * j + 0)).toNatClampNeg (-1) = layM (s.sP j 0 (-1)) f := fun s => wM_P (show j < 5 by omega) (show 0 < 18 by omega)
    have k4 : itr P (j + 1) s = (itr P j s).sP j 0 (-1) := by
      rw [itr]
      rw [hP]
    rw [e44_82]
    simp only [e44_0, e44_1, e44_3, e44_5, e44_8, e44_11, e44_12, e44_15, e44_17, e44_18, e44_19, e44_22, e44_25, e44_26, e44_29, e44_30, e44_31, e44_32, e44_33, e44_36, e44_37, e44_38, e44_39, e44_40, e44_43, e44_44, e44_45, e44_46, e44_47, e44_50, e44_51, e44_53, e44_54, e44_55, e44_58, e44_59, e44_61, e44_62, e44_63, e44_66, e44_68, e44_69, e44_70, e44_73, e44_74, e44_77, e44_78, e44_79, e44_80, e44_84, e44_85, e44_88, e44_89, e44_92, e44_93, e44_95, e44_96, e44_99, e44_100, e44_101, e44_104, e44_108, e44_109, e44_112, en_11, i_86, f_86_0, b_87, n_87, h1, if_false, M_of, k2, not_false_eq_true, nI_add, k3, lvH_Hq, Option.bind_some, psh_i, psh_n, Hq_G, Hq_setG, upf_same, upf_upf]
    rw [← k4, ih]
theorem M_layAnew : Den 44 [.ref 86, .int v1, .int v2, .int v3, .int v4, .int v5] (HR L g rs) = some (none, HR L (upf g 86 (upd (g 86) 1 (nI 0))) (upf rs 0 (mNew v1 v2 v3 v4 v5))) := by
  have h := L_new1 (L := L) (g := g) (F := lyR rs) (v1 := v1) (v2 := v2) (v3 := v3) (v4 := v4) (v5 := v5) 142 0 (by omega)
  rw [azF_0] at h
  have h2 := L_new2 (L := L) (g := g) (f := lyR rs) (v1 := v1) (v2 := v2) (v3 := v3) (v4 := v4) (v5 := v5) (s := (((((zS.sH 0 v1).sH 1 v2).sH 2 v3).sH 3 v4).sH 4 v5).sC 0 (if v1 = nI 2 then nI 1 else nI 0)) (P := fun s p => s.sP p 0 (-1)) rfl 5 0 (by omega)
  rw [itr] at h2
  have hm : itr (fun s p => s.sP p 0 (-1)) 5 ((((((zS.sH 0 v1).sH 1 v2).sH 2 v3).sH 3 v4).sH 4 v5).sC 0 (if v1 = nI 2 then nI 1 else nI 0)) = mNew v1 v2 v3 v4 v5 := rfl
  rw [hm] at h2
  have e3 : Rr 44 107 [.ref 86, .int v1, .int v2, .int v3, .int v4, .int v5, .int (nI 5)] [] (HM L g (mNew v1 v2 v3 v4 v5) (lyR rs)) = some (none, HM L (upf g 86 (upd (g 86) 1 (nI 0))) (mNew v1 v2 v3 v4 v5) (lyR rs)) := by
    rw [e44_107]
    simp only [e44_0, e44_1, e44_3, e44_5, e44_8, e44_11, e44_12, e44_15, e44_17, e44_18, e44_19, e44_22, e44_25, e44_26, e44_29, e44_30, e44_31, e44_32, e44_33, e44_36, e44_37, e44_38, e44_39, e44_40, e44_43, e44_44, e44_45, e44_46, e44_47, e44_50, e44_51, e44_53, e44_54, e44_55, e44_58, e44_59, e44_61, e44_62, e44_63, e44_66, e44_68, e44_69, e44_70, e44_73, e44_74, e44_77, e44_78, e44_79, e44_80, e44_82, e44_84, e44_85, e44_88, e44_89, e44_92, e44_93, e44_95, e44_96, e44_99, e44_100, e44_101, e44_104, e44_108, e44_109, e44_112, en_11, i_86, gMn (show ¬ 86 = 87 by decide), sMn (show ¬ 86 = 87 by decide)]
  rw [D0_44]
  simp only [e44_0, e44_1, e44_5, e44_8, e44_11, e44_12, e44_15, e44_17, e44_18, e44_19, e44_22, e44_25, e44_26, e44_29, e44_30, e44_31, e44_32, e44_33, e44_36, e44_37, e44_38, e44_39, e44_40, e44_43, e44_44, e44_45, e44_46, e44_47, e44_50, e44_51, e44_53, e44_54, e44_55, e44_58, e44_59, e44_61, e44_62, e44_63, e44_66, e44_68, e44_69, e44_70, e44_73, e44_74, e44_77, e44_78, e44_79, e44_80, e44_82, e44_84, e44_85, e44_88, e44_89, e44_92, e44_93, e44_95, e44_96, e44_99, e44_100, e44_101, e44_104, e44_107, e44_108, e44_109, e44_112, en_11]
  rw [h]
  have c7 : ∀ (s : Sx) (x : Int32), upd (layM s (lyR rs)) (nI 7).toNatClampNeg x = layM (s.sC 0 x) (lyR rs) := fun s x => wM_C (show 0 < 10 by omega)
  have c8 : ¬ (nI 7 < 0 ∨ 11360 ≤ (nI 7).toNatClampNeg) := in_C (show 0 < 10 by omega)
  simp only [e44_0, e44_1, e44_3, e44_5, e44_8, e44_11, e44_12, e44_15, e44_17, e44_18, e44_19, e44_22, e44_25, e44_26, e44_29, e44_30, e44_31, e44_32, e44_33, e44_36, e44_37, e44_38, e44_39, e44_40, e44_43, e44_44, e44_45, e44_46, e44_47, e44_50, e44_51, e44_53, e44_54, e44_55, e44_58, e44_59, e44_61, e44_62, e44_63, e44_66, e44_68, e44_69, e44_70, e44_73, e44_74, e44_77, e44_78, e44_79, e44_80, e44_84, e44_85, e44_88, e44_89, e44_92, e44_93, e44_95, e44_96, e44_99, e44_100, e44_101, e44_104, e44_107, e44_108, e44_109, e44_112, en_11, i_86, f_86_0, b_87, n_87, in_H, wM_H, c7, c8, not_false_eq_true, lvH_Hq, Option.bind_some, psh_i, psh_n, gM, sM, Nat.reduceLT, Nat.reduceLeDiff, Nat.reduceAdd, Nat.reduceMul]
  rw [← HM_R, ← e3, ← h2]
  by_cases c : v1 = nI 2
  · rw [if_pos c, if_neg (fun z => z c)]
  · rw [if_neg c, if_pos c]
end RR
