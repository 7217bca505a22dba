/-! BOTH HOUSES MADE; the law's beginning -/
section CC
variable {S : Nat → Shp} {g : Nat → Nat → Int32} {L : Nat} {xs : Nat → Int32}
theorem st_k6 : St 85 (k6S S) 2 3 := fun g => ⟨⟨by decide, Nat.le_of_ble_eq_true rfl, rfl⟩, rfl, ⟨Nat.le_of_ble_eq_true rfl, rfl⟩, ⟨by decide, Nat.le_of_ble_eq_true rfl, rfl⟩, ⟨Nat.le_of_ble_eq_true rfl, Or.inl rfl⟩, rfl⟩
abbrev c0S : Sx := rst (shp5 zS (nI 0) (nI 0) (nI 0) (nI 2) (nI 1))
theorem N_139 (hS : (S 1).1 = 9) : Den 139 [.ref 1] (1, 188, 24686, S, g) = some (none, Hq 85 (k6S S) (upf (k6G g) 3 (lay c0S))) := by
  have e : (85, 0, 0, k6S S, k6G g) = Hq 85 (k6S S) (upf (k6G g) 3 (lay zS)) := by
    rw [← lay_z, upf_eq (show k6G g 3 = fun _ => 0 from rfl)]
    rfl
  have i1 : ∀ g, Ins 1 (Hq 85 (k6S S) g) 7 := fun g => ⟨by decide, Nat.le_of_ble_eq_true rfl, k6_1.trans hS⟩
  have r1 : ∀ g, Rf (Hq 85 (k6S S) g) 1 0 = .ref 2 := fun g => rfl
  rw [N_139a hS, e]
  simp only [e139_70, e139_71, e139_74, e139_75, e139_76, e139_77, e139_78, e139_79, e139_82, e139_83, e139_86, e139_89, en_70, en_109, i1, r1, st_k6.i, D_shape st_k6, D_restart st_k6, lvH_Hq, Option.bind_some, psh_n]
theorem sSet_ne {a k p j : Nat} (h : ¬ j = a) : sSet S a k p j = S j := upf_ne h
theorem mnS_gt {n N j : Nat} (h : n + 2 + N ≤ j) : mnS n N S j = S j := by
  unfold mnS
  rw [if_neg (by omega), if_neg (by omega)]
theorem mnG_gt {n N j : Nat} (h : n + 2 + N ≤ j) : mnG n N g j = g j := by
  unfold mnG
  rw [if_neg (by omega)]
abbrev S0a (L : Nat) : Nat → Shp := upf (fun _ => (0, L, fun _ => none)) 1 (9, 0, fun _ => none)
abbrev G0a (xs : Nat → Int32) : Nat → Nat → Int32 := upf (fun _ => xs) 1 (fun _ => 0)
abbrev oSS (L : Nat) : Nat → Shp := k6S (S0a L)
abbrev gC0 (xs : Nat → Int32) : Nat → Nat → Int32 := upf (k6G (G0a xs)) 3 (lay c0S)
theorem oSS_1 {j : Nat} (h0 : ¬ j = 0) (h : j < 86) : oSS L j = S1 j := by
  match j, h with
  | 0, _ => exact absurd rfl h0
  | 1, _ => rfl
  | 2, _ => rfl
  | 3, _ => rfl
  | 4, _ => rfl
  | 5, _ => rfl
  | 6, _ => rfl
  | 7, _ => rfl
  | 8, _ => rfl
  | 9, _ => rfl
  | 10, _ => rfl
  | 11, _ => rfl
  | 12, _ => rfl
  | 13, _ => rfl
  | 14, _ => rfl
  | 15, _ => rfl
  | 16, _ => rfl
  | 17, _ => rfl
  | 18, _ => rfl
  | 19, _ => rfl
  | 20, _ => rfl
  | 21, _ => rfl
  | 22, _ => rfl
  | 23, _ => rfl
  | 24, _ => rfl
  | 25, _ => rfl
  | 26, _ => rfl
  | 27, _ => rfl
  | 28, _ => rfl
  | 29, _ => rfl
  | 30, _ => rfl
  | 31, _ => rfl
  | 32, _ => rfl
  | 33, _ => rfl
  | 34, _ => rfl
  | 35, _ => rfl
  | 36, _ => rfl
  | 37, _ => rfl
  | 38, _ => rfl
  | 39, _ => rfl
  | 40, _ => rfl
  | 41, _ => rfl
  | 42, _ => rfl
  | 43, _ => rfl
  | 44, _ => rfl
  | 45, _ => rfl
  | 46, _ => rfl
  | 47, _ => rfl
  | 48, _ => rfl
  | 49, _ => rfl
  | 50, _ => rfl
  | 51, _ => rfl
  | 52, _ => rfl
  | 53, _ => rfl
  | 54, _ => rfl
  | 55, _ => rfl
  | 56, _ => rfl
  | 57, _ => rfl
  | 58, _ => rfl
  | 59, _ => rfl
  | 60, _ => rfl
  | 61, _ => rfl
  | 62, _ => rfl
  | 63, _ => rfl
  | 64, _ => rfl
  | 65, _ => rfl
  | 66, _ => rfl
  | 67, _ => rfl
  | 68, _ => rfl
  | 69, _ => rfl
  | 70, _ => rfl
  | 71, _ => rfl
  | 72, _ => rfl
  | 73, _ => rfl
  | 74, _ => rfl
  | 75, _ => rfl
  | 76, _ => rfl
  | 77, _ => rfl
  | 78, _ => rfl
  | 79, _ => rfl
  | 80, _ => rfl
  | 81, _ => rfl
  | 82, _ => rfl
  | 83, _ => rfl
  | 84, _ => rfl
  | 85, _ => rfl
  | j + 86, h => exact absurd h (by omega)
theorem oSS_0 : oSS L 0 = (0, L, fun _ => none) := rfl
theorem oSS_gt {j : Nat} (h : 86 ≤ j) : oSS L j = (0, L, fun _ => none) := by
  unfold oSS k6S k5S k4S k3S k2S k1S juS w5S w4S w3S w2S w1S shS staS nwS S0a
  repeat first | rw [sSet_ne (by omega)] | rw [upf_ne (by omega)] | rw [mnS_gt (by omega)]
theorem Go_0 : gC0 xs 0 = xs := rfl
theorem Go_gt {j : Nat} (h : 86 ≤ j) : gC0 xs j = xs := by
  unfold gC0 k6G k5G k4G k3G k2G k1G w5G w3G shG zrG G0a
  repeat first | rw [upf_ne (by omega)] | rw [mnG_gt (by omega)]
theorem up2S : upS (oSS L) (S0a L) = upf (oSS L) 86 (9, 0, fun _ => none) := by
  funext j
  unfold upS
  by_cases c0 : j = 0
  · rw [if_pos c0, c0]
    rfl
  · rw [if_neg c0]
    by_cases c1 : j ≤ 85
    · rw [if_pos c1, upf_ne (by omega)]
    · rw [if_neg c1]
      by_cases c2 : j = 86
      · rw [c2]
        rfl
      · have e : S0a L (j - 85) = (0, L, fun _ => none) := upf_ne (by omega)
        rw [upf_ne c2, oSS_gt (by omega), e]
        rfl
theorem up2G : upG (gC0 xs) (G0a xs) = upf (gC0 xs) 86 (fun _ => 0) := by
  funext j
  unfold upG
  by_cases c0 : j = 0
  · rw [if_pos c0, c0]
    rfl
  · rw [if_neg c0]
    by_cases c1 : j ≤ 85
    · rw [if_pos c1, upf_ne (by omega)]
    · rw [if_neg c1]
      by_cases c2 : j = 86
      · rw [c2]
        rfl
      · have e : G0a xs (j - 85) = xs := upf_ne (by omega)
        rw [upf_ne c2, Go_gt (by omega), e]
theorem up3S : upS (oSS L) (oSS L) = SF L := by
  funext j
  unfold upS SF
  by_cases c0 : j = 0
  · rw [if_pos c0, if_pos c0]
    rfl
  · rw [if_neg c0, if_neg c0]
    by_cases c1 : j ≤ 85
    · rw [if_pos c1, if_pos c1, oSS_1 c0 (by omega)]
    · rw [if_neg c1, if_neg c1]
      by_cases c2 : j ≤ 170
      · rw [if_pos c2, oSS_1 (by omega) (by omega)]
      · rw [if_neg c2, oSS_gt (by omega)]
        rfl
abbrev gL0 (xs : Nat → Int32) : Nat → Nat → Int32 := upG (gC0 xs) (gC0 xs)
theorem rm139 : mc 139 = 188 ∧ ms 139 = 24686 := ⟨rfl, rfl⟩
theorem N_139b : Den 139 [.ref 86] (86, 188, 24686, upf (oSS L) 86 (9, 0, fun _ => none), upf (gC0 xs) 86 (fun _ => 0)) = some (none, HP L (gL0 xs)) := by
  have d := N_139 (S := S0a L) (g := G0a xs) rfl
  have d2 := (Den_re (M := Mup (oSS L) (gC0 xs)) ren_up (ht 139 + 1) 139 (Nat.lt_succ_self _) _ _ _ _ (Nat.zero_le _) d).2
  have e1 : reH (Mup (oSS L) (gC0 xs)) (1, 188, 24686, S0a L, G0a xs) = (86, 188, 24686, upf (oSS L) 86 (9, 0, fun _ => none), upf (gC0 xs) 86 (fun _ => 0)) := by
    show ((1 + 85, 188, 24686, upS (oSS L) (S0a L), upG (gC0 xs) (G0a xs)) : Hp) = _
    rw [up2S, up2G]
  have e2 : reH (Mup (oSS L) (gC0 xs)) (Hq 85 (oSS L) (gC0 xs)) = HP L (gL0 xs) := by
    show ((85 + 85, 0, 0, upS (oSS L) (oSS L), upG (gC0 xs) (gC0 xs)) : Hp) = _
    rw [up3S]
    rfl
  rw [e1, e2] at d2
  exact d2
theorem law_con : Den 199 [.ref 0] (H00 L xs) = Rr 199 16 [.ref 0, .ref 1, .ref 86, .retAddr 0, .retAddr 0, .retAddr 0] [] (HP L (gL0 xs)) := by
  have e0 : H00 L xs = (0, 378, 49386, fun _ => (0, L, fun _ => none), fun _ => xs) := rfl
  have d1 : ∀ bc bs, Den 139 [.ref 1] (enH 139 (1, bc, bs, S0a L, G0a xs)) = _ := fun bc bs => N_139 (S := S0a L) (g := G0a xs) rfl
  have d2 : ∀ bc bs, Den 139 [.ref 86] (enH 139 (86, bc, bs, upf (oSS L) 86 (9, 0, fun _ => none), upf (gC0 xs) 86 (fun _ => 0))) = _ := fun bc bs => N_139b
  rw [e0, D0_199, e199_0, e199_3, e199_4]
  · refine (bindD (d1 _ _)).trans ?_
    simp only [psh_n, lvH, rm139.1, rm139.2, Nat.reduceSub, Nat.reduceAdd]
    rw [e199_7, e199_8, e199_11, e199_12]
    · refine (bindD (d2 _ _)).trans ?_
      simp only [psh_n, lvH, rm139.1, rm139.2, Nat.reduceSub, Nat.reduceAdd]
      rw [e199_15]
      rfl
    · exact ⟨by simp only [Nat.reduceSub, Nat.reduceLeDiff], by simp only [Nat.reduceSub, Nat.reduceLeDiff]⟩
    · exact ⟨by simp only [Nat.reduceSub, Nat.reduceLeDiff], by simp only [Nat.reduceSub, Nat.reduceLeDiff]⟩
  · exact ⟨by simp only [Nat.reduceSub, Nat.reduceLeDiff], by simp only [Nat.reduceSub, Nat.reduceLeDiff]⟩
  · exact ⟨by simp only [Nat.reduceLeDiff], by simp only [Nat.reduceLeDiff]⟩
theorem rows0 : ∀ i, i < 86 → rwI i → ∃ t, gC0 xs i = lay t := by
  intro i hi
  match i, hi with
  | 0, _ => exact fun h => absurd h (by unfold rwI; omega)
  | 1, _ => exact fun h => absurd h (by unfold rwI; omega)
  | 2, _ => exact fun h => absurd h (by unfold rwI; omega)
  | 3, _ => exact fun h => absurd h (by unfold rwI; omega)
  | 4, _ => exact fun h => absurd h (by unfold rwI; omega)
  | 5, _ => exact fun h => absurd h (by unfold rwI; omega)
  | 6, _ => exact fun h => absurd h (by unfold rwI; omega)
  | 7, _ => exact fun h => absurd h (by unfold rwI; omega)
  | 8, _ => exact fun h => absurd h (by unfold rwI; omega)
  | 9, _ => exact fun h => absurd h (by unfold rwI; omega)
  | 10, _ => exact fun _ => ⟨zS, lay_z⟩
  | 11, _ => exact fun _ => ⟨zS, lay_z⟩
  | 12, _ => exact fun _ => ⟨zS, lay_z⟩
  | 13, _ => exact fun _ => ⟨zS, lay_z⟩
  | 14, _ => exact fun _ => ⟨zS, lay_z⟩
  | 15, _ => exact fun _ => ⟨zS, lay_z⟩
  | 16, _ => exact fun _ => ⟨zS, lay_z⟩
  | 17, _ => exact fun _ => ⟨zS, lay_z⟩
  | 18, _ => exact fun _ => ⟨zS, lay_z⟩
  | 19, _ => exact fun _ => ⟨zS, lay_z⟩
  | 20, _ => exact fun _ => ⟨zS, lay_z⟩
  | 21, _ => exact fun _ => ⟨zS, lay_z⟩
  | 22, _ => exact fun _ => ⟨zS, lay_z⟩
  | 23, _ => exact fun _ => ⟨zS, lay_z⟩
  | 24, _ => exact fun _ => ⟨zS, lay_z⟩
  | 25, _ => exact fun _ => ⟨zS, lay_z⟩
  | 26, _ => exact fun _ => ⟨zS, lay_z⟩
  | 27, _ => exact fun _ => ⟨zS, lay_z⟩
  | 28, _ => exact fun _ => ⟨zS, lay_z⟩
  | 29, _ => exact fun _ => ⟨zS, lay_z⟩
  | 30, _ => exact fun _ => ⟨zS, lay_z⟩
  | 31, _ => exact fun _ => ⟨zS, lay_z⟩
  | 32, _ => exact fun _ => ⟨zS, lay_z⟩
  | 33, _ => exact fun _ => ⟨zS, lay_z⟩
  | 34, _ => exact fun _ => ⟨zS, lay_z⟩
  | 35, _ => exact fun _ => ⟨zS, lay_z⟩
  | 36, _ => exact fun _ => ⟨zS, lay_z⟩
  | 37, _ => exact fun _ => ⟨zS, lay_z⟩
  | 38, _ => exact fun _ => ⟨zS, lay_z⟩
  | 39, _ => exact fun _ => ⟨zS, lay_z⟩
  | 40, _ => exact fun _ => ⟨zS, lay_z⟩
  | 41, _ => exact fun _ => ⟨zS, lay_z⟩
  | 42, _ => exact fun _ => ⟨zS, lay_z⟩
  | 43, _ => exact fun _ => ⟨zS, lay_z⟩
  | 44, _ => exact fun _ => ⟨zS, lay_z⟩
  | 45, _ => exact fun _ => ⟨zS, lay_z⟩
  | 46, _ => exact fun _ => ⟨zS, lay_z⟩
  | 47, _ => exact fun _ => ⟨zS, lay_z⟩
  | 48, _ => exact fun _ => ⟨zS, lay_z⟩
  | 49, _ => exact fun _ => ⟨zS, lay_z⟩
  | 50, _ => exact fun _ => ⟨zS, lay_z⟩
  | 51, _ => exact fun h => absurd h (by unfold rwI; omega)
  | 52, _ => exact fun h => absurd h (by unfold rwI; omega)
  | 53, _ => exact fun _ => ⟨zS, lay_z⟩
  | 54, _ => exact fun h => absurd h (by unfold rwI; omega)
  | 55, _ => exact fun _ => ⟨zS, lay_z⟩
  | 56, _ => exact fun h => absurd h (by unfold rwI; omega)
  | 57, _ => exact fun h => absurd h (by unfold rwI; omega)
  | 58, _ => exact fun h => absurd h (by unfold rwI; omega)
  | 59, _ => exact fun h => absurd h (by unfold rwI; omega)
  | 60, _ => exact fun h => absurd h (by unfold rwI; omega)
  | 61, _ => exact fun _ => ⟨zS, lay_z⟩
  | 62, _ => exact fun _ => ⟨zS, lay_z⟩
  | 63, _ => exact fun _ => ⟨zS, lay_z⟩
  | 64, _ => exact fun _ => ⟨zS, lay_z⟩
  | 65, _ => exact fun _ => ⟨zS, lay_z⟩
  | 66, _ => exact fun _ => ⟨zS, lay_z⟩
  | 67, _ => exact fun _ => ⟨zS, lay_z⟩
  | 68, _ => exact fun _ => ⟨zS, lay_z⟩
  | 69, _ => exact fun _ => ⟨zS, lay_z⟩
  | 70, _ => exact fun _ => ⟨zS, lay_z⟩
  | 71, _ => exact fun _ => ⟨zS, lay_z⟩
  | 72, _ => exact fun _ => ⟨zS, lay_z⟩
  | 73, _ => exact fun _ => ⟨zS, lay_z⟩
  | 74, _ => exact fun _ => ⟨zS, lay_z⟩
  | 75, _ => exact fun _ => ⟨zS, lay_z⟩
  | 76, _ => exact fun _ => ⟨zS, lay_z⟩
  | 77, _ => exact fun h => absurd h (by unfold rwI; omega)
  | 78, _ => exact fun h => absurd h (by unfold rwI; omega)
  | 79, _ => exact fun h => absurd h (by unfold rwI; omega)
  | 80, _ => exact fun _ => ⟨zS, lay_z⟩
  | 81, _ => exact fun _ => ⟨zS, lay_z⟩
  | 82, _ => exact fun h => absurd h (by unfold rwI; omega)
  | 83, _ => exact fun h => absurd h (by unfold rwI; omega)
  | 84, _ => exact fun h => absurd h (by unfold rwI; omega)
  | 85, _ => exact fun h => absurd h (by unfold rwI; omega)
  | i + 86, h => exact absurd h (by omega)
abbrev m0S : Sx := mNew (nI 0) (nI 0) (nI 0) (nI 2) (nI 1)
abbrev s0 : Hs := mkH 0 0 0 2 1 0 0 m0S 0 (fun _ => m0S) (fun _ => false) (fun _ => m0S) (fun _ => 0) 0
theorem ok_0 : okSh 0 0 0 2 1 := ⟨by omega, by omega, by omega, by omega, by omega, by omega, by omega, by omega, by omega, by omega, by omega⟩
theorem HI_0 : HI s0 := ⟨GV_new ok_0, Nat.zero_le _, by omega, fun i hi => by omega, fun i hi z => absurd (show false = true from z) (by decide)⟩
theorem KK_0 : KK s0 (gC0 xs) := by
  refine ⟨c0S, fun _ => c0S, fun _ => c0S, fun _ => 0, fun _ => 0, new_R ⟨rfl, rfl, rfl, rfl, rfl⟩, fun i hi => by omega, fun i hi z => absurd (show false = true from z) (by decide), Or.inl rfl, ⟨rfl, rfl, ⟨0, by omega, rfl, rfl, fun i hi => by omega⟩, fun i hi => ⟨?_, fun z => absurd (show false = true from z) (by decide)⟩, rfl, fun i hi => by omega, fun i hi => rows0 i (by unfold rwI at hi; omega) hi⟩⟩
  match i, hi with
  | 0, _ => rfl
  | 1, _ => rfl
theorem Tw_0 : Tw s0 s0 (gL0 xs) := by
  refine ⟨KK_fr (fun i h1 h2 => ?_) (KK_0 (xs := xs)), KK_fr (fun i h1 h2 => ?_) (KK_0 (xs := xs))⟩
  · show upG (gC0 xs) (gC0 xs) i = gC0 xs i
    unfold upG
    rw [if_neg (by omega), if_pos h2]
  · show upG (gC0 xs) (gC0 xs) (sw i) = gC0 xs i
    unfold upG
    rw [sw_lo h1 h2, if_neg (by omega), if_neg (by omega), Nat.add_sub_cancel]
/-- the law answers 1 -/
theorem law_den (hL : L ≤ 260) : ∃ h', Den 199 [.ref 0] (H00 L xs) = some (some 1, h') := by
  obtain ⟨h', e⟩ := law_from (L := L) hL HI_0 (Tw_0 (xs := xs)) (.retAddr 0) (.retAddr 0) (.retAddr 0)
  exact ⟨h', law_con.trans e⟩
end CC
