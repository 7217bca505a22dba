/-! CONSTRUCTORS: the model; the law's beginning -/
section CC
variable {S : Nat → Shp} {g : Nat → Nat → Int32} {L : Nat} {xs : Nat → Int32}
theorem st_k6 : St 85 (k6S S) 2 3 := fun g => ⟨⟨by decide, Nat.le_of_ble_eq_true rfl, rfl⟩, rfl, ⟨Nat.le_of_ble_eq_true rfl, rfl⟩, ⟨by decide, Nat.le_of_ble_eq_true rfl, rfl⟩, ⟨Nat.le_of_ble_eq_true rfl, Or.inl rfl⟩, rfl⟩
abbrev c0S : Sx := rst (shp5 zS (nI 0) (nI 0) (nI 0) (nI 2) (nI 1))
theorem N_139 (hS : (S 1).1 = 9) : Den 139 [.ref 1] (1, 188, 24686, S, g) = some (none, Hq 85 (k6S S) (upf (k6G g) 3 (lay c0S))) := by
  have e : (85, 0, 0, k6S S, k6G g) = Hq 85 (k6S S) (upf (k6G g) 3 (lay zS)) := by
    rw [← lay_z, upf_eq (show k6G g 3 = fun _ => 0 from rfl)]
    rfl
  have i1 : ∀ g, Ins 1 (Hq 85 (k6S S) g) 7 := fun g => ⟨by decide, Nat.le_of_ble_eq_true rfl, k6_1.trans hS⟩
  have r1 : ∀ g, Rf (Hq 85 (k6S S) g) 1 0 = .ref 2 := fun g => rfl
  rw [N_139a hS, e]
  simp only [e139_70, e139_71, e139_74, e139_75, e139_76, e139_77, e139_78, e139_79, e139_82, e139_83, e139_86, e139_89, en_70, en_109, i1, r1, st_k6.i, D_shape st_k6, D_restart st_k6, lvH_Hq, Option.bind_some, psh_n]
abbrev m1S (S : Nat → Shp) : Nat → Shp := sSet (upf S 87 (0, 11360, fun _ => none)) 86 0 87
abbrev m2S (S : Nat → Shp) : Nat → Shp := sSet (upf (m1S S) 88 (0, 2, fun _ => none)) 86 4 88
abbrev m3S (S : Nat → Shp) : Nat → Shp := sSet (upf (m2S S) 89 (0, 20, fun _ => none)) 86 5 89
abbrev m4S (S : Nat → Shp) : Nat → Shp := sSet (upf (m3S S) 90 (0, 20, fun _ => none)) 86 6 90
abbrev m5S (S : Nat → Shp) : Nat → Shp := sSet (upf (m4S S) 91 (0, 512, fun _ => none)) 86 8 91
abbrev m6S (S : Nat → Shp) : Nat → Shp := sSet (upf (m5S S) 92 (0, 64, fun _ => none)) 86 9 92
abbrev m7S (S : Nat → Shp) : Nat → Shp := sSet (upf (m6S S) 93 (0, 64, fun _ => none)) 86 10 93
abbrev m7G (g : Nat → Nat → Int32) : Nat → Nat → Int32 := upf (upf (upf (upf (upf (upf (upf g 87 (fun _ => 0)) 88 (fun _ => 0)) 89 (fun _ => 0)) 90 (fun _ => 0)) 91 (fun _ => 0)) 92 (fun _ => 0)) 93 (fun _ => 0)
theorem lyR_z : (fun _ => 0 : Nat → Int32) = lyR (fun _ => zS) := by
  funext i
  exact zS_0.symm
abbrev m0S : Sx := mNew (nI 0) (nI 0) (nI 0) (nI 2) (nI 1)
abbrev gM0 (g : Nat → Nat → Int32) : Nat → Nat → Int32 := upf (upf (m7G g) 86 (upd (m7G g 86) 1 (nI 0))) 87 (lyR (upf (fun _ => zS) 0 m0S))
theorem s86n {n l k : Nat} {p : Nat} {S : Nat → Shp} (hn : 86 ≤ n) (h : (S 86).1 = 10) : (sSet (upf S (n + 1) (0, l, fun _ => none)) 86 k p 86).1 = 10 := by
  rw [sSet_1, upf_ne (by omega)]
  exact h
set_option maxRecDepth 20000 in
theorem N_83a (hS : (S 86).1 = 10) : Den 83 [.ref 86] (86, 7, 12042, S, g) = Rr 83 61 [.ref 86] [] (93, 0, 0, m7S S, m7G g) := by
  have q0 : (nI 11360).toNatClampNeg = 11360 := nI_clamp (by omega)
  have q2 : (nI 2).toNatClampNeg = 2 := nI_clamp (by omega)
  have q20 : (nI 20).toNatClampNeg = 20 := nI_clamp (by omega)
  have q5 : (nI 512).toNatClampNeg = 512 := nI_clamp (by omega)
  have q6 : (nI 64).toNatClampNeg = 64 := nI_clamp (by omega)
  have h1 : (m1S S 86).1 = 10 := s86n (n := 86) (by omega) hS
  have h2 : (m2S S 86).1 = 10 := s86n (n := 87) (by omega) h1
  have h3 : (m3S S 86).1 = 10 := s86n (n := 88) (by omega) h2
  have h4 : (m4S S 86).1 = 10 := s86n (n := 89) (by omega) h3
  have h5 : (m5S S 86).1 = 10 := s86n (n := 90) (by omega) h4
  have h6 : (m6S S 86).1 = 10 := s86n (n := 91) (by omega) h5
  have t1 : Den 83 [.ref 86] (86, 7, 12042, S, g) = Rr 83 13 [.ref 86] [] (87, 6, 682, m1S S, upf g 87 (fun _ => 0)) := by
    rw [D0_83, e83_0, e83_1, e83_4, e83_5, e83_8, e83_10]
    · simp only [setS, q0, Nat.reduceSub, Nat.reduceAdd]
      rfl
    · exact ⟨by decide, Nat.le_of_ble_eq_true rfl, hS⟩
    · exact ⟨by decide, Nat.le_of_ble_eq_true rfl, by rw [q0]; exact Nat.le_of_ble_eq_true rfl, by rw [q0]; decide⟩
  have t2 : ∀ g, Rr 83 13 [.ref 86] [] (87, 6, 682, m1S S, g) = Rr 83 20 [.ref 86] [] (88, 5, 680, m2S S, upf g 88 (fun _ => 0)) := by
    intro g
    rw [e83_13, e83_14, e83_15, e83_17]
    · simp only [setS, q2, Nat.reduceSub, Nat.reduceAdd]
      rfl
    · exact ⟨by decide, Nat.le_of_ble_eq_true rfl, h1⟩
    · exact ⟨by decide, Nat.le_of_ble_eq_true rfl, by rw [q2]; exact Nat.le_of_ble_eq_true rfl, by rw [q2]; decide⟩
  have t3 : ∀ g, Rr 83 20 [.ref 86] [] (88, 5, 680, m2S S, g) = Rr 83 28 [.ref 86] [] (89, 4, 660, m3S S, upf g 89 (fun _ => 0)) := by
    intro g
    rw [e83_20, e83_21, e83_23, e83_25]
    · simp only [setS, q20, Nat.reduceSub, Nat.reduceAdd]
      rfl
    · exact ⟨by decide, Nat.le_of_ble_eq_true rfl, h2⟩
    · exact ⟨by decide, Nat.le_of_ble_eq_true rfl, by rw [q20]; exact Nat.le_of_ble_eq_true rfl, by rw [q20]; decide⟩
  have t4 : ∀ g, Rr 83 28 [.ref 86] [] (89, 4, 660, m3S S, g) = Rr 83 36 [.ref 86] [] (90, 3, 640, m4S S, upf g 90 (fun _ => 0)) := by
    intro g
    rw [e83_28, e83_29, e83_31, e83_33]
    · simp only [setS, q20, Nat.reduceSub, Nat.reduceAdd]
      rfl
    · exact ⟨by decide, Nat.le_of_ble_eq_true rfl, h3⟩
    · exact ⟨by decide, Nat.le_of_ble_eq_true rfl, by rw [q20]; exact Nat.le_of_ble_eq_true rfl, by rw [q20]; decide⟩
  have t5 : ∀ g, Rr 83 36 [.ref 86] [] (90, 3, 640, m4S S, g) = Rr 83 45 [.ref 86] [] (91, 2, 128, m5S S, upf g 91 (fun _ => 0)) := by
    intro g
    rw [e83_36, e83_37, e83_40, e83_42]
    · simp only [setS, q5, Nat.reduceSub, Nat.reduceAdd]
      rfl
    · exact ⟨by decide, Nat.le_of_ble_eq_true rfl, h4⟩
    · exact ⟨by decide, Nat.le_of_ble_eq_true rfl, by rw [q5]; exact Nat.le_of_ble_eq_true rfl, by rw [q5]; decide⟩
  have t6 : ∀ g, Rr 83 45 [.ref 86] [] (91, 2, 128, m5S S, g) = Rr 83 53 [.ref 86] [] (92, 1, 64, m6S S, upf g 92 (fun _ => 0)) := by
    intro g
    rw [e83_45, e83_46, e83_48, e83_50]
    · simp only [setS, q6, Nat.reduceSub, Nat.reduceAdd]
      rfl
    · exact ⟨by decide, Nat.le_of_ble_eq_true rfl, h5⟩
    · exact ⟨by decide, Nat.le_of_ble_eq_true rfl, by rw [q6]; exact Nat.le_of_ble_eq_true rfl, by rw [q6]; decide⟩
  have t7 : ∀ g, Rr 83 53 [.ref 86] [] (92, 1, 64, m6S S, g) = Rr 83 61 [.ref 86] [] (93, 0, 0, m7S S, upf g 93 (fun _ => 0)) := by
    intro g
    rw [e83_53, e83_54, e83_56, e83_58]
    · simp only [setS, q6, Nat.reduceSub, Nat.reduceAdd]
      rfl
    · exact ⟨by decide, Nat.le_of_ble_eq_true rfl, h6⟩
    · exact ⟨by decide, Nat.le_of_ble_eq_true rfl, by rw [q6]; exact Nat.le_of_ble_eq_true rfl, by rw [q6]; decide⟩
  rw [t1, t2, t3, t4, t5, t6, t7]
theorem N_83 (hS : (S 86).1 = 10) (hF : m7S S = SF L) : Den 83 [.ref 86] (86, 7, 12042, S, g) = some (none, HP L (gM0 g)) := by
  have e : (93, 0, 0, m7S S, m7G g) = HR L (m7G g) (fun _ => zS) := by
    show _ = HP L (upf (m7G g) 87 (lyR (fun _ => zS)))
    rw [← lyR_z, upf_eq (show m7G g 87 = fun _ => 0 from rfl), hF]
    rfl
  rw [N_83a hS, e]
  simp only [e83_61, e83_62, e83_63, e83_64, e83_65, e83_66, e83_67, e83_70, en_44, i_86, M_layAnew, lvH_Hq, Option.bind_some, psh_n]
theorem sSet_ne {a k p j : Nat} (h : ¬ j = a) : sSet S a k p j = S j := upf_ne h
theorem mnS_gt {n N j : Nat} (h : n + 2 + N ≤ j) : mnS n N S j = S j := by
  unfold mnS
  rw [if_neg (by omega), if_neg (by omega)]
abbrev S0a (L : Nat) : Nat → Shp := upf (fun _ => (0, L, fun _ => none)) 1 (9, 0, fun _ => none)
theorem SF_fin : m7S (upf (k6S (S0a L)) 86 (10, 0, fun _ => none)) = SF L := by
  funext j
  by_cases h : j < 94
  · match j, h with
    | 0, _ => rfl
    | 1, _ => rfl
    | 2, _ => rfl
    | 3, _ => rfl
    | 4, _ => rfl
    | 5, _ => rfl
    | 6, _ => rfl
    | 7, _ => rfl
    | 8, _ => rfl
    | 9, _ => rfl
    | 10, _ => rfl
    | 11, _ => rfl
    | 12, _ => rfl
    | 13, _ => rfl
    | 14, _ => rfl
    | 15, _ => rfl
    | 16, _ => rfl
    | 17, _ => rfl
    | 18, _ => rfl
    | 19, _ => rfl
    | 20, _ => rfl
    | 21, _ => rfl
    | 22, _ => rfl
    | 23, _ => rfl
    | 24, _ => rfl
    | 25, _ => rfl
    | 26, _ => rfl
    | 27, _ => rfl
    | 28, _ => rfl
    | 29, _ => rfl
    | 30, _ => rfl
    | 31, _ => rfl
    | 32, _ => rfl
    | 33, _ => rfl
    | 34, _ => rfl
    | 35, _ => rfl
    | 36, _ => rfl
    | 37, _ => rfl
    | 38, _ => rfl
    | 39, _ => rfl
    | 40, _ => rfl
    | 41, _ => rfl
    | 42, _ => rfl
    | 43, _ => rfl
    | 44, _ => rfl
    | 45, _ => rfl
    | 46, _ => rfl
    | 47, _ => rfl
    | 48, _ => rfl
    | 49, _ => rfl
    | 50, _ => rfl
    | 51, _ => rfl
    | 52, _ => rfl
    | 53, _ => rfl
    | 54, _ => rfl
    | 55, _ => rfl
    | 56, _ => rfl
    | 57, _ => rfl
    | 58, _ => rfl
    | 59, _ => rfl
    | 60, _ => rfl
    | 61, _ => rfl
    | 62, _ => rfl
    | 63, _ => rfl
    | 64, _ => rfl
    | 65, _ => rfl
    | 66, _ => rfl
    | 67, _ => rfl
    | 68, _ => rfl
    | 69, _ => rfl
    | 70, _ => rfl
    | 71, _ => rfl
    | 72, _ => rfl
    | 73, _ => rfl
    | 74, _ => rfl
    | 75, _ => rfl
    | 76, _ => rfl
    | 77, _ => rfl
    | 78, _ => rfl
    | 79, _ => rfl
    | 80, _ => rfl
    | 81, _ => rfl
    | 82, _ => rfl
    | 83, _ => rfl
    | 84, _ => rfl
    | 85, _ => rfl
    | 86, _ => rfl
    | 87, _ => rfl
    | 88, _ => rfl
    | 89, _ => rfl
    | 90, _ => rfl
    | 91, _ => rfl
    | 92, _ => rfl
    | 93, _ => rfl
    | j + 94, h => exact absurd h (by omega)
  · unfold SF m7S m6S m5S m4S m3S m2S m1S k6S k5S k4S k3S k2S k1S juS w5S w4S w3S w2S w1S shS staS nwS S0a
    repeat rw [if_neg (by omega)]
    repeat first | rw [sSet_ne (by omega)] | rw [upf_ne (by omega)] | rw [mnS_gt (by omega)]
    rfl
abbrev gC0 (xs : Nat → Int32) : Nat → Nat → Int32 := upf (k6G (upf (fun _ => xs) 1 (fun _ => 0))) 3 (lay c0S)
abbrev gL0 (xs : Nat → Int32) : Nat → Nat → Int32 := gM0 (upf (gC0 xs) 86 (fun _ => 0))
theorem rm139 : mc 139 = 188 ∧ ms 139 = 24686 := ⟨rfl, rfl⟩
theorem rm83 : mc 83 = 7 ∧ ms 83 = 12042 := ⟨rfl, rfl⟩
set_option maxRecDepth 20000 in
theorem law_con : Den 199 [.ref 0] (H00 L xs) = lwS L 0 18 (gL0 xs) := by
  have e0 : H00 L xs = (0, 197, 36751, fun _ => (0, L, fun _ => none), fun _ => xs) := rfl
  have d1 : ∀ bc bs, Den 139 [.ref 1] (enH 139 (1, bc, bs, S0a L, upf (fun _ => xs) 1 (fun _ => 0))) = _ := fun bc bs => N_139 (S := S0a L) (g := upf (fun _ => xs) 1 (fun _ => 0)) rfl
  have d2 : ∀ bc bs, Den 83 [.ref 86] (enH 83 (86, bc, bs, upf (k6S (S0a L)) 86 (10, 0, fun _ => none), upf (gC0 xs) 86 (fun _ => 0))) = _ := fun bc bs => N_83 (L := L) (S := upf (k6S (S0a L)) 86 (10, 0, fun _ => none)) (g := upf (gC0 xs) 86 (fun _ => 0)) (by rw [upf_same]) SF_fin
  rw [e0, D0_199, e199_0, e199_3, e199_4]
  · refine (bindD (d1 _ _)).trans ?_
    simp only [psh_n, lvH, rm139.1, rm139.2, Nat.reduceSub, Nat.reduceAdd]
    rw [e199_7, e199_8, e199_11, e199_12]
    · refine (bindD (d2 _ _)).trans ?_
      simp only [psh_n, lvH, rm83.1, rm83.2, Nat.reduceSub, Nat.reduceAdd]
      rw [e199_15, e199_16, e199_17]
      rfl
    · exact ⟨by simp only [Nat.reduceSub, Nat.reduceLeDiff], by simp only [Nat.reduceSub, Nat.reduceLeDiff]⟩
    · exact ⟨by simp only [Nat.reduceSub, Nat.reduceLeDiff], by simp only [Nat.reduceSub, Nat.reduceLeDiff]⟩
  · exact ⟨by simp only [Nat.reduceSub, Nat.reduceLeDiff], by simp only [Nat.reduceSub, Nat.reduceLeDiff]⟩
  · exact ⟨by simp only [Nat.reduceLeDiff], by simp only [Nat.reduceLeDiff]⟩
theorem rows0 : ∀ i, i < 94 → rwI i → ∃ t, gL0 xs i = lay t := by
  intro i hi
  match i, hi with
  | 0, _ => exact fun h => absurd h (by unfold rwI; omega)
  | 1, _ => exact fun h => absurd h (by unfold rwI; omega)
  | 2, _ => exact fun h => absurd h (by unfold rwI; omega)
  | 3, _ => exact fun h => absurd h (by unfold rwI; omega)
  | 4, _ => exact fun h => absurd h (by unfold rwI; omega)
  | 5, _ => exact fun h => absurd h (by unfold rwI; omega)
  | 6, _ => exact fun h => absurd h (by unfold rwI; omega)
  | 7, _ => exact fun h => absurd h (by unfold rwI; omega)
  | 8, _ => exact fun h => absurd h (by unfold rwI; omega)
  | 9, _ => exact fun h => absurd h (by unfold rwI; omega)
  | 10, _ => exact fun _ => ⟨zS, lay_z⟩
  | 11, _ => exact fun _ => ⟨zS, lay_z⟩
  | 12, _ => exact fun _ => ⟨zS, lay_z⟩
  | 13, _ => exact fun _ => ⟨zS, lay_z⟩
  | 14, _ => exact fun _ => ⟨zS, lay_z⟩
  | 15, _ => exact fun _ => ⟨zS, lay_z⟩
  | 16, _ => exact fun _ => ⟨zS, lay_z⟩
  | 17, _ => exact fun _ => ⟨zS, lay_z⟩
  | 18, _ => exact fun _ => ⟨zS, lay_z⟩
  | 19, _ => exact fun _ => ⟨zS, lay_z⟩
  | 20, _ => exact fun _ => ⟨zS, lay_z⟩
  | 21, _ => exact fun _ => ⟨zS, lay_z⟩
  | 22, _ => exact fun _ => ⟨zS, lay_z⟩
  | 23, _ => exact fun _ => ⟨zS, lay_z⟩
  | 24, _ => exact fun _ => ⟨zS, lay_z⟩
  | 25, _ => exact fun _ => ⟨zS, lay_z⟩
  | 26, _ => exact fun _ => ⟨zS, lay_z⟩
  | 27, _ => exact fun _ => ⟨zS, lay_z⟩
  | 28, _ => exact fun _ => ⟨zS, lay_z⟩
  | 29, _ => exact fun _ => ⟨zS, lay_z⟩
  | 30, _ => exact fun _ => ⟨zS, lay_z⟩
  | 31, _ => exact fun _ => ⟨zS, lay_z⟩
  | 32, _ => exact fun _ => ⟨zS, lay_z⟩
  | 33, _ => exact fun _ => ⟨zS, lay_z⟩
  | 34, _ => exact fun _ => ⟨zS, lay_z⟩
  | 35, _ => exact fun _ => ⟨zS, lay_z⟩
  | 36, _ => exact fun _ => ⟨zS, lay_z⟩
  | 37, _ => exact fun _ => ⟨zS, lay_z⟩
  | 38, _ => exact fun _ => ⟨zS, lay_z⟩
  | 39, _ => exact fun _ => ⟨zS, lay_z⟩
  | 40, _ => exact fun _ => ⟨zS, lay_z⟩
  | 41, _ => exact fun _ => ⟨zS, lay_z⟩
  | 42, _ => exact fun _ => ⟨zS, lay_z⟩
  | 43, _ => exact fun _ => ⟨zS, lay_z⟩
  | 44, _ => exact fun _ => ⟨zS, lay_z⟩
  | 45, _ => exact fun _ => ⟨zS, lay_z⟩
  | 46, _ => exact fun _ => ⟨zS, lay_z⟩
  | 47, _ => exact fun _ => ⟨zS, lay_z⟩
  | 48, _ => exact fun _ => ⟨zS, lay_z⟩
  | 49, _ => exact fun _ => ⟨zS, lay_z⟩
  | 50, _ => exact fun _ => ⟨zS, lay_z⟩
  | 51, _ => exact fun h => absurd h (by unfold rwI; omega)
  | 52, _ => exact fun h => absurd h (by unfold rwI; omega)
  | 53, _ => exact fun _ => ⟨zS, lay_z⟩
  | 54, _ => exact fun h => absurd h (by unfold rwI; omega)
  | 55, _ => exact fun _ => ⟨zS, lay_z⟩
  | 56, _ => exact fun h => absurd h (by unfold rwI; omega)
  | 57, _ => exact fun h => absurd h (by unfold rwI; omega)
  | 58, _ => exact fun h => absurd h (by unfold rwI; omega)
  | 59, _ => exact fun h => absurd h (by unfold rwI; omega)
  | 60, _ => exact fun h => absurd h (by unfold rwI; omega)
  | 61, _ => exact fun _ => ⟨zS, lay_z⟩
  | 62, _ => exact fun _ => ⟨zS, lay_z⟩
  | 63, _ => exact fun _ => ⟨zS, lay_z⟩
  | 64, _ => exact fun _ => ⟨zS, lay_z⟩
  | 65, _ => exact fun _ => ⟨zS, lay_z⟩
  | 66, _ => exact fun _ => ⟨zS, lay_z⟩
  | 67, _ => exact fun _ => ⟨zS, lay_z⟩
  | 68, _ => exact fun _ => ⟨zS, lay_z⟩
  | 69, _ => exact fun _ => ⟨zS, lay_z⟩
  | 70, _ => exact fun _ => ⟨zS, lay_z⟩
  | 71, _ => exact fun _ => ⟨zS, lay_z⟩
  | 72, _ => exact fun _ => ⟨zS, lay_z⟩
  | 73, _ => exact fun _ => ⟨zS, lay_z⟩
  | 74, _ => exact fun _ => ⟨zS, lay_z⟩
  | 75, _ => exact fun _ => ⟨zS, lay_z⟩
  | 76, _ => exact fun _ => ⟨zS, lay_z⟩
  | 77, _ => exact fun h => absurd h (by unfold rwI; omega)
  | 78, _ => exact fun h => absurd h (by unfold rwI; omega)
  | 79, _ => exact fun h => absurd h (by unfold rwI; omega)
  | 80, _ => exact fun _ => ⟨zS, lay_z⟩
  | 81, _ => exact fun _ => ⟨zS, lay_z⟩
  | 82, _ => exact fun h => absurd h (by unfold rwI; omega)
  | 83, _ => exact fun h => absurd h (by unfold rwI; omega)
  | 84, _ => exact fun h => absurd h (by unfold rwI; omega)
  | 85, _ => exact fun h => absurd h (by unfold rwI; omega)
  | 86, _ => exact fun h => absurd h (by unfold rwI; omega)
  | 87, _ => exact fun h => absurd h (by unfold rwI; omega)
  | 88, _ => exact fun h => absurd h (by unfold rwI; omega)
  | 89, _ => exact fun h => absurd h (by unfold rwI; omega)
  | 90, _ => exact fun h => absurd h (by unfold rwI; omega)
  | 91, _ => exact fun h => absurd h (by unfold rwI; omega)
  | 92, _ => exact fun h => absurd h (by unfold rwI; omega)
  | 93, _ => exact fun h => absurd h (by unfold rwI; omega)
  | i + 94, h => exact absurd h (by omega)
theorem WW_0 : WW (gL0 xs) := by
  have ok : okSh 0 0 0 2 1 := ⟨by omega, by omega, by omega, by omega, by omega, by omega, by omega, by omega, by omega, by omega, by omega⟩
  refine ⟨0, 0, 0, 2, 1, 0, 0, m0S, c0S, 0, fun _ => m0S, fun _ => c0S, fun _ => false, fun _ => m0S, fun _ => c0S, fun _ => 0, 0, 0, fun _ => 0, fun _ => 0, new_I ok, new_R ⟨rfl, rfl, rfl, rfl, rfl⟩, by omega, by omega, by omega, fun i hi => by omega, fun i hi => by omega, fun i hi z => absurd (show false = true from z) (by decide), Or.inl rfl, ⟨rfl, rfl, ⟨0, by omega, rfl, rfl, fun i hi => by omega⟩, fun i hi => ⟨?_, fun z => absurd (show false = true from z) (by decide)⟩, rfl, fun i hi => by omega, fun i hi => rows0 i (by unfold rwI at hi; omega) hi⟩, ⟨⟨upf (fun _ => zS) 0 m0S, rfl, rfl, fun i hi => by omega, fun i hi z => absurd (show false = true from z) (by decide)⟩, rfl, rfl, rfl, rfl, fun i hi z => absurd (show false = true from z) (by decide), fun i hi => by omega⟩⟩
  match i, hi with
  | 0, _ => rfl
  | 1, _ => rfl
/-- the law answers 1 -/
theorem law_den (hL : L ≤ 3072) : ∃ h', Den 199 [.ref 0] (H00 L xs) = some (some 1, h') := by
  obtain ⟨h', e⟩ := lw_loop (L := L) hL L 0 (gL0 xs) WW_0 (by omega) (by omega)
  exact ⟨h', law_con.trans e⟩
end CC
