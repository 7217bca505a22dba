/-! CONSTRUCTORS: StrongCells -/
section CC
variable {S : Nat → Shp} {g : Nat → Nat → Int32}
abbrev juS (S : Nat → Shp) : Nat → Shp := sSet (upf (sSet (upf (upf S 4 (5, 0, fun _ => none)) 5 (0, 7, fun _ => none)) 4 0 5) 6 (0, 128, fun _ => none)) 4 1 6
abbrev k1S (S : Nat → Shp) : Nat → Shp := sSet (staS S 1) 1 0 2
abbrev k2S (S : Nat → Shp) : Nat → Shp := sSet (juS (k1S S)) 1 1 4
abbrev k3S (S : Nat → Shp) : Nat → Shp := sSet (w5S (upf (k2S S) 7 (8, 0, fun _ => none)) 7 7) 1 2 7
abbrev k4S (S : Nat → Shp) : Nat → Shp := sSet (sSet (shS (upf (k3S S) 58 (3, 0, fun _ => none)) 58 16) 58 0 59) 1 3 58
abbrev k5S (S : Nat → Shp) : Nat → Shp := sSet (sSet (upf (sSet (shS (upf (k4S S) 77 (4, 0, fun _ => none)) 77 2) 77 0 78) 82 (0, 2, fun _ => none)) 77 1 82) 1 4 77
abbrev k6S (S : Nat → Shp) : Nat → Shp := sSet (sSet (upf (sSet (upf (upf (k5S S) 83 (2, 0, fun _ => none)) 84 (0, 20, fun _ => none)) 83 0 84) 85 (0, 20, fun _ => none)) 83 1 85) 1 5 83
abbrev k1G (g : Nat → Nat → Int32) : Nat → Nat → Int32 := upf (upf g 2 (fun _ => 0)) 3 (fun _ => 0)
abbrev k2G (g : Nat → Nat → Int32) : Nat → Nat → Int32 := upf (upf (upf (k1G g) 4 (fun _ => 0)) 5 (fun _ => 0)) 6 (fun _ => 0)
abbrev k3G (g : Nat → Nat → Int32) : Nat → Nat → Int32 := w5G (upf (k2G g) 7 (fun _ => 0)) 7
abbrev k4G (g : Nat → Nat → Int32) : Nat → Nat → Int32 := shG (upf (k3G g) 58 (fun _ => 0)) 58 16
abbrev k5G (g : Nat → Nat → Int32) : Nat → Nat → Int32 := upf (shG (upf (k4G g) 77 (fun _ => 0)) 77 2) 82 (upd (upd (fun _ => 0) 0 (-1)) 1 (-1))
abbrev k6G (g : Nat → Nat → Int32) : Nat → Nat → Int32 := upf (upf (upf (k5G g) 83 (fun _ => 0)) 84 (fun _ => 0)) 85 (fun _ => 0)
theorem c19 {bc bs : Nat} : Den 19 [.ref 4] (enH 19 (4, bc, bs, upf S 4 (5, 0, fun _ => none), upf g 4 (fun _ => 0))) = some (none, (6, 0, 0, juS S, upf (upf (upf g 4 (fun _ => 0)) 5 (fun _ => 0)) 6 (fun _ => 0))) := N_19 (n := 4) (a := 4) (S := upf S 4 (5, 0, fun _ => none)) (g := upf g 4 (fun _ => 0)) (by omega) (Nat.le_refl _) rfl
theorem c75 {bc bs : Nat} : Den 75 [.ref 7] (enH 75 (7, bc, bs, upf S 7 (8, 0, fun _ => none), upf g 7 (fun _ => 0))) = some (none, (57, 0, 0, w5S (upf S 7 (8, 0, fun _ => none)) 7 7, w5G (upf g 7 (fun _ => 0)) 7)) := N_75 (n := 7) (a := 7) (S := upf S 7 (8, 0, fun _ => none)) (g := upf g 7 (fun _ => 0)) (by omega) (Nat.le_refl _) rfl
theorem c51 {bc bs : Nat} : Den 51 [.ref 58] (enH 51 (58, bc, bs, upf S 58 (3, 0, fun _ => none), upf g 58 (fun _ => 0))) = some (none, (76, 0, 0, sSet (shS (upf S 58 (3, 0, fun _ => none)) 58 16) 58 0 59, shG (upf g 58 (fun _ => 0)) 58 16)) := N_51 (n := 58) (a := 58) (S := upf S 58 (3, 0, fun _ => none)) (g := upf g 58 (fun _ => 0)) (by omega) (Nat.le_refl _) rfl
theorem c53 {bc bs : Nat} : Den 53 [.ref 77] (enH 53 (77, bc, bs, upf S 77 (4, 0, fun _ => none), upf g 77 (fun _ => 0))) = some (none, (82, 0, 0, sSet (upf (sSet (shS (upf S 77 (4, 0, fun _ => none)) 77 2) 77 0 78) 82 (0, 2, fun _ => none)) 77 1 82, upf (shG (upf g 77 (fun _ => 0)) 77 2) 82 (upd (upd (fun _ => 0) 0 (-1)) 1 (-1)))) := N_53 (n := 77) (a := 77) (S := upf S 77 (4, 0, fun _ => none)) (g := upf g 77 (fun _ => 0)) (by omega) (Nat.le_refl _) rfl
theorem c3 {bc bs : Nat} : Den 3 [.ref 83] (enH 3 (83, bc, bs, upf S 83 (2, 0, fun _ => none), upf g 83 (fun _ => 0))) = some (none, (85, 0, 0, sSet (upf (sSet (upf (upf S 83 (2, 0, fun _ => none)) 84 (0, 20, fun _ => none)) 83 0 84) 85 (0, 20, fun _ => none)) 83 1 85, upf (upf (upf g 83 (fun _ => 0)) 84 (fun _ => 0)) 85 (fun _ => 0))) := N_3 (n := 83) (a := 83) (S := upf S 83 (2, 0, fun _ => none)) (g := upf g 83 (fun _ => 0)) (by omega) (Nat.le_refl _) rfl
theorem k1_1 : (k1S S 1).1 = (S 1).1 := by rw [sSet_1, staS_1 (Nat.le_refl 1)]
theorem k2_1 : (k2S S 1).1 = (S 1).1 := by
  rw [sSet_1, sSet_1, upf_ne (by decide), sSet_1, upf_ne (by decide), upf_ne (by decide), k1_1]
theorem w5_1 {a n j : Nat} (h : j ≤ n) : (w5S S a n j).1 = (S j).1 := by
  rw [sSet_1, upf_ne (by omega), w4_1 h]
theorem k3_1 : (k3S S 1).1 = (S 1).1 := by
  rw [sSet_1, w5_1 (by decide), upf_ne (by decide), k2_1]
theorem k4_1 : (k4S S 1).1 = (S 1).1 := by
  rw [sSet_1, sSet_1, shS_1 (by decide), upf_ne (by decide), k3_1]
theorem k5_1 : (k5S S 1).1 = (S 1).1 := by
  rw [sSet_1, sSet_1, upf_ne (by decide), sSet_1, shS_1 (by decide), upf_ne (by decide), k4_1]
theorem k6_1 : (k6S S 1).1 = (S 1).1 := by
  rw [sSet_1, sSet_1, upf_ne (by decide), sSet_1, upf_ne (by decide), upf_ne (by decide), k5_1]
theorem lay_z : (fun _ => 0 : Nat → Int32) = lay zS := by
  funext i
  unfold lay zS mkS Sx.H Sx.C Sx.P Sx.A
  dsimp only
  repeat' split
  all_goals rfl
theorem rm27 : mc 27 = 1 ∧ ms 27 = 146 := ⟨rfl, rfl⟩
theorem rm19 : mc 19 = 2 ∧ ms 19 = 135 := ⟨rfl, rfl⟩
theorem rm75 : mc 75 = 90 ∧ ms 75 = 12285 := ⟨rfl, rfl⟩
theorem rm51 : mc 51 = 43 ∧ ms 51 = 6028 := ⟨rfl, rfl⟩
theorem rm53 : mc 53 = 44 ∧ ms 53 = 6030 := ⟨rfl, rfl⟩
theorem rm3 : mc 3 = 2 ∧ ms 3 = 40 := ⟨rfl, rfl⟩
set_option maxRecDepth 20000 in
theorem N_139a (hS : (S 1).1 = 9) : Den 139 [.ref 1] (1, 188, 24686, S, g) = Rr 139 70 [.ref 1] [] (85, 0, 0, k6S S, k6G g) := by
  rw [D0_139, e139_0, e139_1, e139_4, e139_5, e139_8, e139_9]
  · refine (bindD (c27 (n := 1) (S := S) (g := g))).trans ?_
    simp only [psh_n, lvH, rm27.1, rm27.2, Nat.reduceSub, Nat.reduceAdd]
    rw [e139_12, e139_15, e139_16, e139_19, e139_20]
    · refine (bindD (c19 (S := k1S S) (g := k1G g))).trans ?_
      simp only [psh_n, lvH, rm19.1, rm19.2, Nat.reduceSub, Nat.reduceAdd]
      rw [e139_23, e139_26, e139_27, e139_30, e139_31]
      · refine (bindD (c75 (S := k2S S) (g := k2G g))).trans ?_
        simp only [psh_n, lvH, rm75.1, rm75.2, Nat.reduceSub, Nat.reduceAdd]
        rw [e139_34, e139_37, e139_38, e139_41, e139_42]
        · refine (bindD (c51 (S := k3S S) (g := k3G g))).trans ?_
          simp only [psh_n, lvH, rm51.1, rm51.2, Nat.reduceSub, Nat.reduceAdd]
          rw [e139_45, e139_48, e139_49, e139_52, e139_53]
          · refine (bindD (c53 (S := k4S S) (g := k4G g))).trans ?_
            simp only [psh_n, lvH, rm53.1, rm53.2, Nat.reduceSub, Nat.reduceAdd]
            rw [e139_56, e139_59, e139_60, e139_63, e139_64]
            · refine (bindD (c3 (S := k5S S) (g := k5G g))).trans ?_
              simp only [psh_n, lvH, rm3.1, rm3.2, Nat.reduceSub, Nat.reduceAdd]
              rw [e139_67]
              · simp only [setS]
                rfl
              · exact ⟨by decide, by show 1 ≤ 85; decide, by
                  show (sSet (upf (sSet (upf (upf (k5S S) 83 (2, 0, fun _ => none)) 84 (0, 20, fun _ => none)) 83 0 84) 85 (0, 20, fun _ => none)) 83 1 85 1).1 = 9
                  rw [sSet_1, upf_ne (by decide), sSet_1, upf_ne (by decide), upf_ne (by decide), k5_1]
                  exact hS⟩
            · exact ⟨by simp only [setS, Nat.reduceSub, Nat.reduceLeDiff], by simp only [setS, Nat.reduceSub, Nat.reduceLeDiff]⟩
            · exact ⟨by simp only [setS, Nat.reduceSub, Nat.reduceLeDiff], by simp only [setS, Nat.reduceSub, Nat.reduceLeDiff]⟩
            · exact ⟨by decide, by show 1 ≤ 82; decide, by
                show (sSet (upf (sSet (shS (upf (k4S S) 77 (4, 0, fun _ => none)) 77 2) 77 0 78) 82 (0, 2, fun _ => none)) 77 1 82 1).1 = 9
                rw [sSet_1, upf_ne (by decide), sSet_1, shS_1 (by decide), upf_ne (by decide), k4_1]
                exact hS⟩
          · exact ⟨by simp only [setS, Nat.reduceSub, Nat.reduceLeDiff], by simp only [setS, Nat.reduceSub, Nat.reduceLeDiff]⟩
          · exact ⟨by simp only [setS, Nat.reduceSub, Nat.reduceLeDiff], by simp only [setS, Nat.reduceSub, Nat.reduceLeDiff]⟩
          · exact ⟨by decide, by show 1 ≤ 76; decide, by
              show (sSet (shS (upf (k3S S) 58 (3, 0, fun _ => none)) 58 16) 58 0 59 1).1 = 9
              rw [sSet_1, shS_1 (by decide), upf_ne (by decide), k3_1]
              exact hS⟩
        · exact ⟨by simp only [setS, Nat.reduceSub, Nat.reduceLeDiff], by simp only [setS, Nat.reduceSub, Nat.reduceLeDiff]⟩
        · exact ⟨by simp only [setS, Nat.reduceSub, Nat.reduceLeDiff], by simp only [setS, Nat.reduceSub, Nat.reduceLeDiff]⟩
        · exact ⟨by decide, by show 1 ≤ 57; decide, by
            show (w5S (upf (k2S S) 7 (8, 0, fun _ => none)) 7 7 1).1 = 9
            rw [w5_1 (by decide), upf_ne (by decide), k2_1]
            exact hS⟩
      · exact ⟨by simp only [setS, Nat.reduceSub, Nat.reduceLeDiff], by simp only [setS, Nat.reduceSub, Nat.reduceLeDiff]⟩
      · exact ⟨by simp only [setS, Nat.reduceSub, Nat.reduceLeDiff], by simp only [setS, Nat.reduceSub, Nat.reduceLeDiff]⟩
      · exact ⟨by decide, by show 1 ≤ 6; decide, by
          show (juS (k1S S) 1).1 = 9
          rw [sSet_1, upf_ne (by decide), sSet_1, upf_ne (by decide), upf_ne (by decide), k1_1]
          exact hS⟩
    · exact ⟨by simp only [setS, Nat.reduceSub, Nat.reduceLeDiff], by simp only [setS, Nat.reduceSub, Nat.reduceLeDiff]⟩
    · exact ⟨by simp only [setS, Nat.reduceSub, Nat.reduceLeDiff], by simp only [setS, Nat.reduceSub, Nat.reduceLeDiff]⟩
    · exact ⟨by decide, by show 1 ≤ 3; decide, by
        show (staS S 1 1).1 = 9
        rw [staS_1 (Nat.le_refl 1)]
        exact hS⟩
  · exact ⟨by simp only [setS, Nat.reduceSub, Nat.reduceLeDiff], by simp only [setS, Nat.reduceSub, Nat.reduceLeDiff]⟩
  · exact ⟨by simp only [setS, Nat.reduceSub, Nat.reduceLeDiff], by simp only [setS, Nat.reduceSub, Nat.reduceLeDiff]⟩
end CC
