/-! WHAT THE CLASS' CELLS STAND FOR -/
def rwI (i : Nat) : Prop := (10 ≤ i ∧ i < 51) ∨ i = 53 ∨ i = 55 ∨ (61 ≤ i ∧ i < 77) ∨ i = 80 ∨ i = 81
/-- c now; hc the states ahead of the deeds, k of them, the latest first; images ic with their seeds; the seed sd; the book, bk entries -/
def KT (c : Sx) (k : Nat) (hc : Nat → Sx) (kp : Nat → Bool) (ic : Nat → Sx) (is : Nat → Nat) (sd bk : Nat) (ba bv : Nat → Int32) (g : Nat → Nat → Int32) : Prop :=
  g 3 = lay c ∧ g 1 6 = nI sd ∧ (∃ o, o < 16 ∧ g 58 1 = nI o ∧ g 58 2 = nI k ∧ ∀ i, i < k → g (61 + (o + (k - 1 - i)) % 16) = lay (hc i)) ∧
  (∀ i, i < 2 → g 82 i = (if kp i = true then nI (is i) else -1) ∧ (kp i = true → g (80 + i) = lay (ic i))) ∧
  g 83 2 = nI bk ∧ (∀ i, i < bk → g 84 i = ba i ∧ g 85 i = bv i) ∧ ∀ i, rwI i → ∃ t, g i = lay t
def frC (g g' : Nat → Nat → Int32) : Prop := ∀ i, (i = 0 ∨ 86 ≤ i) → g' i = g i
/-- all ways, as the class keeps them -/
def KX (X : WX) (g : Nat → Nat → Int32) : Prop :=
  g 7 6 = nI (wCt X) ∧ g 7 7 = nI (wBd X) ∧ g 7 8 = wFb X ∧ (1 ≤ wBd X → g 7 9 = nI (wFd X) ∧ ∃ s, g 53 = lay s ∧ Rl s (wFs X)) ∧ g 7 10 = nI (wLg X)
noncomputable def KW (b n N : Nat) (m : Sx) (g : Nat → Nat → Int32) : Prop := g 7 5 = nI 0 ∨ (g 7 5 = nI 1 ∧ KX (wFin (wN b + n) N 41000 (wSt m)) g)
section RR
variable {L : Nat} {g g' : Nat → Nat → Int32} {c m : Sx} {k : Nat} {hc : Nat → Sx} {kp : Nat → Bool} {ic : Nat → Sx} {is : Nat → Nat} {sd bk : Nat} {ba bv : Nat → Int32} {b po bs r n t N : Nat} {x y : Int32}
theorem HP_3 (h : g 3 = lay c) : HP L g = HP L (upf g 3 (lay c)) := by rw [upf_eq h]
theorem frC_upf {j : Nat} {F : Nat → Int32} (h : 0 < j) (h2 : j < 86) : frC g (upf g j F) := fun i hi => if_neg (by omega)
theorem frC_t {g1 g2 : Nat → Nat → Int32} (h : frC g g1) (h2 : frC g1 g2) : frC g g2 := fun i hi => (h2 i hi).trans (h i hi)
theorem frC_r : frC g g := fun _ _ => rfl
/-- cells that KT looks at -/
def ktI (i : Nat) : Prop := ¬ i = 0 ∧ i < 86 ∧ ¬ i = 5 ∧ ¬ i = 6 ∧ ¬ i = 7 ∧ ¬ i = 56 ∧ ¬ i = 57
theorem KT_fr (T : KT c k hc kp ic is sd bk ba bv g) (h : ∀ i, ktI i → g' i = g i) : KT c k hc kp ic is sd bk ba bv g' := by
  obtain ⟨t3, t1, ⟨o, ho, o1, o2, o3⟩, t4, t5, t6, t7⟩ := T
  have h1 := h 1 (by unfold ktI; omega)
  have h3 := h 3 (by unfold ktI; omega)
  have h58 := h 58 (by unfold ktI; omega)
  have h82 := h 82 (by unfold ktI; omega)
  have h83 := h 83 (by unfold ktI; omega)
  have h84 := h 84 (by unfold ktI; omega)
  have h85 := h 85 (by unfold ktI; omega)
  refine ⟨h3.trans t3, by rw [h1]; exact t1, ⟨o, ho, by rw [h58]; exact o1, by rw [h58]; exact o2, fun i hi => (h _ (by unfold ktI; omega)).trans (o3 i hi)⟩, fun i hi => ⟨by rw [h82]; exact (t4 i hi).1, fun z => (h _ (by unfold ktI; omega)).trans ((t4 i hi).2 z)⟩, by rw [h83]; exact t5, fun i hi => ?_, fun i hi => ?_⟩
  · rw [h84, h85]
    exact t6 i hi
  · rw [h i (by unfold rwI at hi; unfold ktI; omega)]
    exact t7 i hi
theorem KT_c {c' : Sx} (T : KT c k hc kp ic is sd bk ba bv g) : KT c' k hc kp ic is sd bk ba bv (upf g 3 (lay c')) := by
  obtain ⟨t3, t1, ⟨o, ho, o1, o2, o3⟩, t4, t5, t6, t7⟩ := T
  refine ⟨upf_same, t1, ⟨o, ho, o1, o2, fun i hi => (upf_ne (by omega)).trans (o3 i hi)⟩, fun i hi => ⟨(t4 i hi).1, fun z => (upf_ne (by omega)).trans ((t4 i hi).2 z)⟩, t5, t6, fun i hi => ?_⟩
  rw [upf_ne (by unfold rwI at hi; omega)]
  exact t7 i hi
theorem KT_1 {sd' : Nat} (T : KT c k hc kp ic is sd bk ba bv g) : KT c k hc kp ic is sd' bk ba bv (upf g 1 (upd (g 1) 6 (nI sd'))) := by
  obtain ⟨t3, t1, ⟨o, ho, o1, o2, o3⟩, t4, t5, t6, t7⟩ := T
  refine ⟨t3, rfl, ⟨o, ho, o1, o2, fun i hi => (upf_ne (by omega)).trans (o3 i hi)⟩, fun i hi => ⟨(t4 i hi).1, fun z => (upf_ne (by omega)).trans ((t4 i hi).2 z)⟩, t5, t6, fun i hi => ?_⟩
  rw [upf_ne (by unfold rwI at hi; omega)]
  exact t7 i hi
theorem KT_58 (T : KT c k hc kp ic is sd bk ba bv g) : KT c 0 hc kp ic is sd bk ba bv (upf g 58 (upd (g 58) 2 (nI 0))) := by
  obtain ⟨t3, t1, ⟨o, ho, o1, o2, o3⟩, t4, t5, t6, t7⟩ := T
  refine ⟨t3, t1, ⟨o, ho, o1, rfl, fun i hi => by omega⟩, fun i hi => ⟨(t4 i hi).1, fun z => (upf_ne (by omega)).trans ((t4 i hi).2 z)⟩, t5, t6, fun i hi => ?_⟩
  rw [upf_ne (by unfold rwI at hi; omega)]
  exact t7 i hi
theorem KT_7 {F : Nat → Int32} (T : KT c k hc kp ic is sd bk ba bv g) : KT c k hc kp ic is sd bk ba bv (upf g 7 F) := KT_fr T (fun i hi => upf_ne (by unfold ktI at hi; omega))
theorem KT_f (T : KT c k hc kp ic is sd bk ba bv g) : KT c k hc kp ic is sd bk ba bv (upf g 7 (upd (g 7) 5 (nI 0))) := KT_7 T
theorem KX_fr {X : WX} (h : KX X g) (h7 : g' 7 = g 7) (h53 : g' 53 = g 53) : KX X g' := by
  unfold KX at h ⊢
  rw [h7, h53]
  exact h
theorem KW_fr (h : KW b n N m g) (h7 : g' 7 = g 7) (h53 : g' 53 = g 53) : KW b n N m g' := by
  unfold KW at h ⊢
  rw [h7]
  exact h.imp id (fun z => ⟨z.1, KX_fr z.2 h7 h53⟩)
theorem shC (R : Rl c m) (sh : shH b po bs r n m) : shH b po bs r n c := by
  obtain ⟨⟨h, -⟩, -⟩ := R
  exact ⟨(h 0 (by omega)).trans sh.1, (h 1 (by omega)).trans sh.2.1, (h 2 (by omega)).trans sh.2.2.1, (h 3 (by omega)).trans sh.2.2.2.1, (h 4 (by omega)).trans sh.2.2.2.2⟩
theorem C_wForget : Den 31 [.ref 7] (HP L g) = some (none, HP L (upf g 7 (upd (g 7) 5 (nI 0)))) := by
  rw [D0_31]
  simp only [e31_0, e31_1, e31_2, e31_5, i_7, zero_01, Hq_G, Hq_setG]
theorem C_remember2 (hk : k ≤ 16) (T : KT c k hc kp ic is sd bk ba bv g) : ∃ g', Den 118 [.ref 1] (HP L g) = some (none, HP L g') ∧ KT c (kup k) (hcons c hc) kp ic is sd bk ba bv g' ∧ g' 7 5 = nI 0 ∧ frC g g' ∧ g' 53 = g 53 := by
  obtain ⟨t3, t1, ⟨o, ho, o1, o2, o3⟩, t4, t5, t6, t7⟩ := T
  obtain ⟨t, ht⟩ := t7 (61 + (o + k) % 16) (by unfold rwI; omega)
  have d := D_ddAdd (L := L) st_2 ho hk o1 o2 t3 ht
  refine ⟨_, ?_, KT_f (g := upf (upf g (61 + (o + k) % 16) (lay c)) 58 (if k < 16 then upd (g 58) 2 (nI (k + 1)) else upd (g 58) 1 (nI ((o + 1) % 16)))) ⟨?_, ?_, ?_, fun i hi => ⟨?_, fun z => ?_⟩, ?_, fun i hi => ?_, fun i hi => ?_⟩, rfl, ?_, ?_⟩
  · rw [D0_118]
    simp only [e118_0, e118_1, e118_4, e118_5, e118_8, e118_11, e118_12, e118_15, e118_18, en_31, en_50, i_1, i_7, i_58, f_1_0, f_1_2, f_1_3, d, C_wForget, lvH_Hq, Option.bind_some, psh_n]
  · rw [upf_ne (by omega), upf_ne (by omega)]
    exact t3
  · rw [upf_ne (by omega), upf_ne (by omega)]
    exact t1
  · by_cases h : k < 16
    · rw [if_pos h]
      unfold kup
      rw [if_pos h]
      refine ⟨o, ho, ?_, ?_, fun i hi => ?_⟩
      · rw [upf_same]
        exact o1
      · rw [upf_same]
        rfl
      · rw [upf_ne (by omega)]
        unfold hcons
        by_cases e : i = 0
        · rw [if_pos e, show 61 + (o + (k + 1 - 1 - i)) % 16 = 61 + (o + k) % 16 by rw [e]; omega, upf_same]
        · rw [if_neg e, upf_ne (by omega)]
          have := o3 (i - 1) (by omega)
          rwa [show k - 1 - (i - 1) = k + 1 - 1 - i by omega] at this
    · rw [if_neg h]
      unfold kup
      rw [if_neg h]
      have hk16 : k = 16 := by omega
      refine ⟨(o + 1) % 16, by omega, ?_, ?_, fun i hi => ?_⟩
      · rw [upf_same]
        rfl
      · rw [upf_same]
        exact o2.trans (by rw [hk16])
      · rw [upf_ne (by omega)]
        unfold hcons
        by_cases e : i = 0
        · rw [if_pos e, show 61 + ((o + 1) % 16 + (16 - 1 - i)) % 16 = 61 + (o + k) % 16 by omega, upf_same]
        · rw [if_neg e, upf_ne (by omega)]
          have := o3 (i - 1) (by omega)
          rwa [show 61 + (o + (k - 1 - (i - 1))) % 16 = 61 + ((o + 1) % 16 + (16 - 1 - i)) % 16 by omega] at this
  · rw [upf_ne (by omega), upf_ne (by omega)]
    exact (t4 i hi).1
  · rw [upf_ne (by omega), upf_ne (by omega)]
    exact (t4 i hi).2 z
  · rw [upf_ne (by omega), upf_ne (by omega)]
    exact t5
  · rw [upf_ne (by omega), upf_ne (by omega), upf_ne (by omega), upf_ne (by omega)]
    exact t6 i hi
  · rw [upf_ne (by unfold rwI at hi; omega)]
    by_cases e : i = 61 + (o + k) % 16
    · rw [e, upf_same]
      exact ⟨c, rfl⟩
    · rw [upf_ne e]
      exact t7 i hi
  · exact frC_t (frC_t (frC_upf (by omega) (by omega)) (frC_upf (by omega) (by omega))) (frC_upf (by omega) (by omega))
  · rw [upf_ne (by omega), upf_ne (by omega), upf_ne (by omega)]
theorem C_remember (hk : k ≤ 16) (T : KT c k hc kp ic is sd bk ba bv g) : ∃ g', Den 118 [.ref 1] (HP L g) = some (none, HP L g') ∧ KT c (kup k) (hcons c hc) kp ic is sd bk ba bv g' ∧ g' 7 5 = nI 0 ∧ frC g g' := by
  obtain ⟨g', a1, a2, a3, a4, -⟩ := C_remember2 (L := L) hk T
  exact ⟨g', a1, a2, a3, a4⟩
theorem C_beginAnew (T : KT c k hc kp ic is sd bk ba bv g) : ∃ g', Den 136 [.ref 1] (HP L g) = some (none, HP L g') ∧ KT (rst c) 0 hc kp ic is sd bk ba bv g' ∧ g' 7 5 = nI 0 ∧ frC g g' := by
  have e0 := HP_3 (L := L) T.1
  refine ⟨_, ?_, KT_f (KT_58 (KT_c T)), rfl, frC_t (frC_t (frC_upf (by omega) (by omega)) (frC_upf (by omega) (by omega))) (frC_upf (by omega) (by omega))⟩
  rw [e0, D0_136]
  simp only [e136_0, e136_1, e136_4, e136_7, e136_8, e136_11, e136_14, e136_15, e136_18, e136_21, en_16, en_31, en_109, i_1, i_2, i_7, i_58, f_1_0, f_1_2, f_1_3, D_restart st_2, D_ddForget, C_wForget, lvH_Hq, Option.bind_some, psh_n]
theorem C_isProcess {p : Nat} (hp : prcs c = nI p) (hn : p < 1000) : Den 140 [.ref 1, .int x] (HP L (upf g 3 (lay c))) = some (some (b2c (Ix p x)), HP L (upf g 3 (lay c))) := by
  rw [D0_140]
  simp only [e140_0, e140_1, e140_2, e140_3, e140_6, e140_9, e140_10, e140_11, e140_14, en_35, en_108, i_1, i_2, f_1_0, D_processes st_2, hp, C_within, b2_01, lvH_Hq, Option.bind_some, psh_i]
  rw [b2_cc (rng_ix hn)]
theorem C_isAct {p : Nat} (hp : c.H 6 = nI p) (hn : p < 1000) : Den 76 [.ref 1, .int x] (HP L (upf g 3 (lay c))) = some (some (b2c (Ix p x)), HP L (upf g 3 (lay c))) := by
  rw [D0_76]
  simp only [e76_0, e76_1, e76_2, e76_3, e76_6, e76_8, e76_11, e76_12, e76_13, e76_16, en_25, en_35, i_1, i_2, f_1_0, D_get st_2 (show 6 < 7 by omega), hp, C_within, b2_01, lvH_Hq, Option.bind_some, psh_i]
  rw [b2_cc (rng_ix hn)]
theorem C_cell (I : Iv b po bs r n t N m) (R : Rl c m) (T : KT c k hc kp ic is sd bk ba bv g) : (∀ i, i < clN b r n → Den 137 [.ref 1, .int (nI i)] (HP L g) = some (some (m.C i), HP L g)) ∧ (¬ Ix (clN b r n) x → Den 137 [.ref 1, .int x] (HP L g) = some (some (-1000000001), HP L g)) := by
  have hl := clls_b (shC R I.1.2.1) I.1.1.1
  have h9 := clN_9 I.1.1
  rw [HP_3 (L := L) T.1]
  constructor
  · intro i hi
    have e : b2 (nI 0 ≤ nI i ∧ nI i ≤ nI (clN b r n) - nI 1) = nI 1 := if_pos ((rng_ix (by omega)).mpr ⟨i, hi, rfl⟩)
    rw [D0_137]
    simp only [e137_0, e137_1, e137_2, e137_3, e137_6, e137_9, e137_10, e137_11, e137_14, e137_17, e137_19, e137_20, e137_21, e137_24, e137_25, e137_28, en_26, en_35, en_107, i_1, i_2, f_1_0, D_cells st_2, hl, C_within, e, one_n0, not_false_eq_true, if_true, D_held st_2 (show i < 9 by omega), lvH_Hq, Option.bind_some, psh_i]
    rw [R.1.2.1 i (by omega)]
  · intro hx
    have e : b2 (nI 0 ≤ x ∧ x ≤ nI (clN b r n) - nI 1) = nI 0 := if_neg (fun z => hx ((rng_ix (by omega)).mp z))
    rw [D0_137]
    simp only [e137_0, e137_1, e137_2, e137_3, e137_6, e137_9, e137_10, e137_11, e137_14, e137_17, e137_19, e137_20, e137_21, e137_24, e137_25, e137_28, en_26, en_35, en_107, i_1, i_2, f_1_0, D_cells st_2, hl, C_within, e, zz, not_true_eq_false, if_false, lvH_Hq, Option.bind_some, psh_i]
end RR
