/-! THE MODEL: the history put in a row -/
theorem b2c_0 {P : Prop} : (b2c P = 0) = ¬ P := @b2_0 P (Classical.propDecidable P)
theorem b2c_ne {P : Prop} (h : P) : ¬ b2c P = 0 := by rw [b2c_t h]; decide
theorem b2c_eq {P : Prop} (h : ¬ P) : b2c P = 0 := by rw [b2c_f h]; decide
theorem b2c_iff {P Q : Prop} (h : P ↔ Q) : b2c P = b2c Q := by rw [propext h]
theorem b2_b2c {P : Prop} [Decidable P] : b2 P = b2c P := by
  by_cases h : P
  · rw [b2c_t h]; exact if_pos h
  · rw [b2c_f h]; exact if_neg h
theorem q_or0 (m : Nat) : nI m ||| nI 0 = nI m := by
  show Int32.ofNat m ||| (0 : Int32) = _
  exact Int32.or_zero
theorem q_4 : ∀ n, n < 8 → nI 4 <<< (nI n &&& 31) = nI (4 * 2 ^ n) := by decide +kernel
def mfP (h : Hy) (n t a j : Nat) : Prop := t.testBit a = false ∧ ∀ b, b < j → hAh h b a → t.testBit b = true
def mf (h : Hy) (n t v a : Nat) : Prop := cnd h n t a ∧ (¬ h.W a = -1 ∨ (¬ h.E a = -1 ∧ h.T a = nI v))
def mHas (Q : Nat → Nat → Prop) (f : Nat → Int32) : Prop := ∀ x, x < 128 → ∀ u, u < 4 → (f (4 * x + u) = nI 1 ∧ Q x u) ∨ (f (4 * x + u) = nI 0 ∧ ¬ Q x u)
theorem mHas_one {Q : Nat → Nat → Prop} {f : Nat → Int32} (h : mHas Q f) {x u : Nat} (hx : x < 128) (hu : u < 4) : f (4 * x + u) = nI 1 ↔ Q x u := by
  rcases h x hx u hu with ⟨e, q⟩ | ⟨e, q⟩
  · exact ⟨fun _ => q, fun _ => e⟩
  · rw [e]
    exact ⟨fun z => absurd z (by decide), fun z => absurd z q⟩
theorem mHas_iff {Q R : Nat → Nat → Prop} {f : Nat → Int32} (h : mHas Q f) (hq : ∀ x, x < 128 → ∀ u, u < 4 → (Q x u ↔ R x u)) : mHas R f := by
  intro x hx u hu
  have := hq x hx u hu
  rcases h x hx u hu with ⟨e, q⟩ | ⟨e, q⟩
  · exact Or.inl ⟨e, this.mp q⟩
  · exact Or.inr ⟨e, fun z => q (this.mpr z)⟩
theorem mHas_put {Q : Nat → Nat → Prop} {f : Nat → Int32} (h : mHas Q f) {x0 u0 : Nat} (hu0 : u0 < 4) : mHas (fun x u => Q x u ∨ (x = x0 ∧ u = u0)) (upd f (4 * x0 + u0) (nI 1)) := by
  intro x hx u hu
  by_cases e : x = x0 ∧ u = u0
  · obtain ⟨rfl, rfl⟩ := e
    exact Or.inl ⟨pk_us, Or.inr ⟨rfl, rfl⟩⟩
  · rw [pk_un (by omega)]
    rcases h x hx u hu with ⟨e1, q⟩ | ⟨e1, q⟩
    · exact Or.inl ⟨e1, Or.inl q⟩
    · exact Or.inr ⟨e1, fun z => z.elim q e⟩
def con1 (h : Hy) (a v u : Nat) : Prop := (h.W a = -1 ∧ ¬ h.E a = -1 ∧ h.T a = nI v ∧ u = v) ∨ (¬ h.W a = -1 ∧ h.W a = nI u)
/-- what stands when of set t the values below v are through, and of v the acts below j -/
def mQ (h : Hy) (n t v j : Nat) (x u : Nat) : Prop := rch h n t x u ∨ (∃ w, w < v ∧ rch h n t t w ∧ ∃ a, a < n ∧ cnd h n t a ∧ x = t ||| 2 ^ a ∧ con1 h a w u) ∨ (rch h n t t v ∧ ∃ a, a < j ∧ cnd h n t a ∧ x = t ||| 2 ^ a ∧ con1 h a v u)
theorem or_self_ne {n t a : Nat} {h : Hy} (c : cnd h n t a) : ¬ t = t ||| 2 ^ a := by
  intro z
  have h5 := (tb_or (t := t) (a := a) (u := a)).mpr (Or.inr rfl)
  rw [← z, c.1] at h5
  cases h5
theorem mQ_self {h : Hy} {n t v j u : Nat} : mQ h n t v j t u ↔ rch h n t t u := by
  constructor
  · rintro (z | ⟨w, hw, hr, a, ha, c, e, -⟩ | ⟨hr, a, ha, c, e, -⟩)
    · exact z
    · exact absurd e (or_self_ne c)
    · exact absurd e (or_self_ne c)
  · exact Or.inl
theorem mQ_next {h : Hy} {n t v x u : Nat} : mQ h n t v n x u ↔ mQ h n t (v + 1) 0 x u := by
  constructor
  · rintro (z | ⟨w, hw, z⟩ | ⟨hr, z⟩)
    · exact Or.inl z
    · exact Or.inr (Or.inl ⟨w, by omega, z⟩)
    · exact Or.inr (Or.inl ⟨v, by omega, hr, z⟩)
  · rintro (z | ⟨w, hw, hr, z⟩ | ⟨hr, a, ha, z⟩)
    · exact Or.inl z
    · by_cases e : w = v
      · subst e; exact Or.inr (Or.inr ⟨hr, z⟩)
      · exact Or.inr (Or.inl ⟨w, by omega, hr, z⟩)
    · omega
theorem mQ_skip {h : Hy} {n t v j x u : Nat} (hr : ¬ rch h n t t v) : mQ h n t v j x u ↔ mQ h n t (v + 1) 0 x u := by
  constructor
  · rintro (z | ⟨w, hw, z⟩ | ⟨hr2, z⟩)
    · exact Or.inl z
    · exact Or.inr (Or.inl ⟨w, by omega, z⟩)
    · exact absurd hr2 hr
  · rintro (z | ⟨w, hw, hr2, z⟩ | ⟨hr2, a, ha, z⟩)
    · exact Or.inl z
    · by_cases e : w = v
      · subst e; exact absurd hr2 hr
      · exact Or.inr (Or.inl ⟨w, by omega, hr2, z⟩)
    · omega
theorem mQ_set {h : Hy} {n t x u : Nat} (hu : u < 4) : mQ h n t 4 0 x u ↔ mQ h n (t + 1) 0 0 x u := by
  constructor
  · rintro (z | ⟨w, hw, hr, a, ha, c, e, k⟩ | ⟨hr, a, ha, z⟩)
    · exact Or.inl (Or.inl z)
    · refine Or.inl (Or.inr ⟨⟨w, hw, hr⟩, a, ha, c, e, ?_⟩)
      rcases k with ⟨k1, k2, k3, rfl⟩ | k
      · exact Or.inl ⟨k1, k2, hr, k3⟩
      · exact Or.inr k
    · omega
  · rintro (z | ⟨w, hw, z⟩ | ⟨hr, a, ha, z⟩)
    · rcases z with z | ⟨⟨w, hw, hr⟩, a, ha, c, e, k⟩
      · exact Or.inl z
      · rcases k with ⟨k1, k2, k3, k4⟩ | k
        · exact Or.inr (Or.inl ⟨u, hu, k3, a, ha, c, e, Or.inl ⟨k1, k2, k4, rfl⟩⟩)
        · exact Or.inr (Or.inl ⟨w, hw, hr, a, ha, c, e, Or.inr k⟩)
    · omega
    · omega
theorem mQ_act {h : Hy} {n t v j x u : Nat} (c : ¬ mf h n t v j) (hr : rch h n t t v) : mQ h n t v j x u ↔ mQ h n t v (j + 1) x u := by
  constructor
  · rintro (z | z | ⟨hr, a, ha, z⟩)
    · exact Or.inl z
    · exact Or.inr (Or.inl z)
    · exact Or.inr (Or.inr ⟨hr, a, by omega, z⟩)
  · rintro (z | z | ⟨hr, a, ha, c1, e, k⟩)
    · exact Or.inl z
    · exact Or.inr (Or.inl z)
    · by_cases ea : a = j
      · subst ea
        refine absurd ⟨c1, ?_⟩ c
        rcases k with ⟨k1, k2, k3, -⟩ | k
        · exact Or.inr ⟨k2, k3⟩
        · exact Or.inl k.1
      · exact Or.inr (Or.inr ⟨hr, a, by omega, c1, e, k⟩)
theorem mQ_put {h : Hy} {n t v j x u w : Nat} (c : mf h n t v j) (hr : rch h n t t v) (hw : (h.W j = -1 ∧ w = v) ∨ (¬ h.W j = -1 ∧ h.W j = nI w)) (hu : u < 4) (hw4 : w < 4) : (mQ h n t v j x u ∨ (x = t ||| 2 ^ j ∧ u = w)) ↔ mQ h n t v (j + 1) x u := by
  constructor
  · rintro ((z | z | ⟨hr, a, ha, z⟩) | ⟨rfl, rfl⟩)
    · exact Or.inl z
    · exact Or.inr (Or.inl z)
    · exact Or.inr (Or.inr ⟨hr, a, by omega, z⟩)
    · refine Or.inr (Or.inr ⟨hr, j, by omega, c.1, rfl, ?_⟩)
      rcases hw with ⟨k1, rfl⟩ | ⟨k1, k2⟩
      · rcases c.2 with k | k
        · exact absurd k1 k
        · exact Or.inl ⟨k1, k.1, k.2, rfl⟩
      · exact Or.inr ⟨k1, k2⟩
  · rintro (z | z | ⟨hr, a, ha, c1, e, k⟩)
    · exact Or.inl (Or.inl z)
    · exact Or.inl (Or.inr (Or.inl z))
    · by_cases ea : a = j
      · subst ea
        refine Or.inr ⟨e, ?_⟩
        rcases k with ⟨k1, k2, k3, k4⟩ | ⟨k1, k2⟩
        · rcases hw with ⟨-, rfl⟩ | ⟨w1, -⟩
          · exact k4
          · exact absurd k1 w1
        · rcases hw with ⟨w1, -⟩ | ⟨-, w2⟩
          · exact absurd w1 k1
          · rw [w2] at k2
            exact ((nI_eq (by omega) (by omega)).mp k2).symm
      · exact Or.inl (Or.inr (Or.inr ⟨hr, a, by omega, c1, e, k⟩))
section MM
variable {L : Nat} {g : Nat → Nat → Int32} {s : Sx} {f : Nat → Int32} {N : Nat}
theorem L_mayF (HI : hI (hyM s) N) (hN : s.H 6 = nI N) (h7 : N ≤ 7) {t a : Nat} {v : Int32} (ht : t < 128) (ha : a < N) : ∀ k j (w : Value), j + k = N → Rr 145 18 [.ref 86, .int (nI t), .int v, .int (nI a), .int (nI 0), .int (b2c (mfP (hyM s) N t a j)), .int (nI j)] [] (HM L g s f) = Rr 145 77 [.ref 86, .int (nI t), .int v, .int (nI a), .int (nI 0), .int (b2c (cnd (hyM s) N t a)), .int (nI N)] [] (HM L g s f)
  | 0, j, w, h => by
    have : j = N := by omega
    subst this
    rw [e145_18]
    simp only [e145_0, e145_1, e145_2, e145_3, e145_4, e145_5, e145_8, e145_9, e145_12, e145_13, e145_15, e145_16, e145_20, e145_21, e145_24, e145_27, e145_29, e145_30, e145_32, e145_33, e145_34, e145_37, e145_42, e145_43, e145_45, e145_46, e145_47, e145_48, e145_49, e145_52, e145_53, e145_55, e145_56, e145_58, e145_61, e145_64, e145_65, e145_68, e145_69, e145_71, e145_74, e145_78, e145_79, e145_80, e145_82, e145_85, e145_86, e145_89, e145_90, e145_93, e145_94, e145_96, e145_98, e145_101, e145_103, e145_106, e145_107, e145_108, e145_110, e145_113, e145_116, e145_117, e145_118, e145_119, e145_121, e145_124, e145_125, e145_128, e145_129, e145_132, e145_133, en_45, en_84, en_123, i_86, f_86_0, a_87, n_87, pk_mul, nI_add, Nat.mul_zero, Nat.zero_add, in_H, rM_H, hN, not_false_eq_true, lvH_Hq, Option.bind_some, psh_i, psh_n, Hq_G, Hq_setG, upf_same, upf_upf, Nat.reduceLT, Nat.reduceLeDiff, Nat.reduceAdd, Nat.reduceMul, Int32.le_refl, if_true]
    rfl
  | k + 1, j, w, h => by
    have hj : j < N := by omega
    have h1 : ¬ nI N ≤ nI j := nI_ge (by omega) (by omega)
    have ih := L_mayF HI hN h7 (v := v) ht ha k (j + 1) w (by omega)
    generalize Rr 145 77 _ _ _ = T at ih ⊢
    have one1 : (nI 1 = nI 1) = True := eq_self _
    have step : ∀ P : Prop, (P ↔ mfP (hyM s) N t a (j + 1)) → Rr 145 69 [.ref 86, .int (nI t), .int v, .int (nI a), .int (nI 0), .int (b2c (mfP (hyM s) N t a j)), .int (nI j)] [.int (b2c P)] (HM L g s f) = T := by
      intro P hP
      rw [b2c_iff hP]
      simp only [e145_69, e145_71, e145_74, nI_add]
      exact ih
    rw [e145_18]
    simp only [e145_20, e145_21, e145_24, e145_27, e145_29, e145_30, e145_32, e145_33, e145_34, e145_37, e145_39, i_86, f_86_0, a_87, n_87, pk_mul, nI_add, Nat.mul_zero, Nat.zero_add, in_H, rM_H, hN, h1, if_false, not_false_eq_true, lvH_Hq, Option.bind_some, psh_i, psh_n, Hq_G, Hq_setG, upf_same, upf_upf, Nat.reduceLT, Nat.reduceLeDiff, Nat.reduceAdd, Nat.reduceMul]
    by_cases c1 : mfP (hyM s) N t a j
    · rw [if_neg (b2c_ne c1)]
      simp only [e145_42, e145_43, e145_45, e145_46, e145_47, e145_48, e145_49, q_bit t ht j (by omega)]
      by_cases c2 : t.testBit j = true
      · simp only [c2, if_true, e145_64, e145_65]
        have := step True ⟨fun _ => ⟨c1.1, fun b hb hh => by
          by_cases e : b = j
          · subst e; exact c2
          · exact c1.2 b (by omega) hh⟩, fun _ => trivial⟩
        rw [b2c_t trivial] at this
        exact this
      · simp only [c2, if_false, K01, e145_52, e145_53, e145_55, e145_56, e145_58, e145_61, en_123, i_86, M_isAhead HI h7 hj ha, lvH_Hq, Option.bind_some, psh_i, psh_n, Hq_G, Hq_setG, upf_same, upf_upf, b2_0, Classical.not_not]
        by_cases c3 : hAh (hyM s) j a
        · rw [if_pos c3]
          simp only [e145_68]
          have := step False ⟨False.elim, fun z => c2 (z.2 j (by omega) c3)⟩
          rw [b2c_f id] at this
          exact this
        · rw [if_neg c3]
          simp only [e145_64, e145_65]
          have := step True ⟨fun _ => ⟨c1.1, fun b hb hh => by
            by_cases e : b = j
            · subst e; exact absurd hh c3
            · exact c1.2 b (by omega) hh⟩, fun _ => trivial⟩
          rw [b2c_t trivial] at this
          exact this
    · rw [if_pos (b2c_eq c1)]
      simp only [e145_68]
      have := step False ⟨False.elim, fun z => c1 ⟨z.1, fun b hb hh => z.2 b (by omega) hh⟩⟩
      rw [b2c_f id] at this
      exact this
theorem M_mayFollow (HI : hI (hyM s) N) (hN : s.H 6 = nI N) (h7 : N ≤ 7) {t a v : Nat} (ht : t < 128) (ha : a < N) (hv : v < 4) : Den 145 [.ref 86, .int (nI t), .int (nI v), .int (nI a), .int (nI 0)] (HM L g s f) = some (some (b2c (mf (hyM s) N t v a)), HM L g s f) := by
  have h0 := L_mayF (L := L) (g := g) (f := f) HI hN h7 (v := nI v) ht ha N 0 (.retAddr 0) (by omega)
  have fin : ∀ P : Prop, (P ↔ mf (hyM s) N t v a) → ∀ w x, Rr 145 133 [.ref 86, .int (nI t), .int (nI v), .int (nI a), .int (nI 0), w, x] [.int (b2c P)] (HM L g s f) = some (some (b2c (mf (hyM s) N t v a)), HM L g s f) := by
    intro P hP w x
    rw [← b2c_iff hP]
    simp only [e145_133, b2c_01]
  have tail : ∀ x, Rr 145 77 [.ref 86, .int (nI t), .int (nI v), .int (nI a), .int (nI 0), .int (b2c (cnd (hyM s) N t a)), x] [] (HM L g s f) = some (some (b2c (mf (hyM s) N t v a)), HM L g s f) := by
    intro x
    have t1 := fun h => fin True (iff_of_true trivial h)
    have t0 := fun h => fin False (iff_of_false id h)
    rw [b2c_t trivial] at t1
    rw [b2c_f id] at t0
    simp only [e145_77, e145_78, e145_79, e145_80, e145_82, e145_85, e145_86, en_45, i_86, M_ofRow (show a < 7 by omega), lvH_Hq, Option.bind_some, psh_i, psh_n, Hq_G, Hq_setG, upf_same, upf_upf, Nat.reduceLT, Nat.reduceLeDiff, Nat.reduceAdd, Nat.reduceMul, hyM_W]
    by_cases c1 : (hyM s).W a = -1
    · rw [if_pos c1]
      simp only [e145_93, e145_94, e145_96, e145_98]
      by_cases c2 : cnd (hyM s) N t a
      · rw [if_neg (b2c_ne c2)]
        simp only [e145_101, e145_103, K00, not_true_eq_false, if_false, e145_106, e145_107, e145_108, e145_110, e145_113, en_84, i_86, M_isEnded HI h7 ha, lvH_Hq, Option.bind_some, psh_i, psh_n, Hq_G, Hq_setG, upf_same, upf_upf, Nat.reduceLT, Nat.reduceLeDiff, Nat.reduceAdd, Nat.reduceMul, b2_0, Classical.not_not]
        by_cases c3 : (hyM s).E a = -1
        · rw [if_pos c3]
          simp only [e145_132]
          exact t0 (fun z => z.2.elim (fun z => z c1) (fun z => z.1 c3)) _ _
        · rw [if_neg c3]
          simp only [e145_116, e145_117, e145_118, e145_119, e145_121, e145_124, e145_125, en_45, i_86, M_ofRow (show a < 7 by omega), lvH_Hq, Option.bind_some, psh_i, psh_n, Hq_G, Hq_setG, upf_same, upf_upf, Nat.reduceLT, Nat.reduceLeDiff, Nat.reduceAdd, Nat.reduceMul, hyM_T, ite_not]
          by_cases c4 : (hyM s).T a = nI v
          · rw [if_pos c4]
            simp only [e145_128, e145_129]
            exact t1 ⟨c2, Or.inr ⟨c3, c4⟩⟩ _ _
          · rw [if_neg c4]
            simp only [e145_132]
            exact t0 (fun z => z.2.elim (fun z => z c1) (fun z => c4 z.2)) _ _
      · rw [if_pos (b2c_eq c2)]
        simp only [e145_132]
        exact t0 (fun z => c2 z.1) _ _
    · rw [if_neg c1]
      simp only [e145_89, e145_90, e145_94, e145_96, e145_98]
      by_cases c2 : cnd (hyM s) N t a
      · rw [if_neg (b2c_ne c2)]
        simp only [e145_101, e145_103, one_n0, not_false_eq_true, if_true, e145_128, e145_129]
        exact t1 ⟨c2, Or.inl c1⟩ _ _
      · rw [if_pos (b2c_eq c2)]
        simp only [e145_132]
        exact t0 (fun z => c2 z.1) _ _
  have hj0 : mfP (hyM s) N t a 0 ↔ t.testBit a = false := ⟨fun z => z.1, fun z => ⟨z, fun b hb => by omega⟩⟩
  rw [b2c_iff hj0] at h0
  rw [D0_145]
  simp only [e145_0, e145_1, e145_2, e145_3, e145_4, e145_5, q_bit t ht a (by omega)]
  by_cases c : t.testBit a = true
  · rw [b2c_f (by rw [c]; decide)] at h0
    simp only [c, if_true, one_n0, not_false_eq_true, e145_12, e145_13, e145_15, e145_16]
    rw [h0]
    exact tail _
  · rw [b2c_t ((Bool.not_eq_true _).mp c)] at h0
    simp only [c, if_false, K00, not_true_eq_false, e145_8, e145_9, e145_13, e145_15, e145_16]
    rw [h0]
    exact tail _
end MM
