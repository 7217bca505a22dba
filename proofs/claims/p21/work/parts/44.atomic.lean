/-! class Judge: the history put in a row -/
theorem tb_or {t a u : Nat} : (t ||| 2 ^ a).testBit u = true ↔ t.testBit u = true ∨ u = a := by
  rw [Nat.testBit_or, Nat.testBit_two_pow, Bool.or_eq_true, decide_eq_true_iff]
  constructor
  · rintro (h | h)
    · exact Or.inl h
    · exact Or.inr h.symm
  · rintro (h | h)
    · exact Or.inl h
    · exact Or.inr h.symm
theorem tb_and {t a u : Nat} : (t &&& 2 ^ a).testBit u = true ↔ t.testBit u = true ∧ u = a := by
  rw [Nat.testBit_and, Nat.testBit_two_pow, Bool.and_eq_true, decide_eq_true_iff]
  constructor
  · rintro ⟨h, h2⟩
    exact ⟨h, h2.symm⟩
  · rintro ⟨h, h2⟩
    exact ⟨h, h2.symm⟩
def con (h : Hy) (n t a u : Nat) : Prop := (h.W a = -1 ∧ ¬ h.E a = -1 ∧ rch h n t t u ∧ h.T a = nI u) ∨ (¬ h.W a = -1 ∧ h.W a = nI u)
/-- the row of numbers f holds, set by set, what rch and the acts below j of set t say -/
def rHas (h : Hy) (n t j : Nat) (f : Nat → Int32) : Prop := ∀ x, x < 128 → ∃ m, m < 16 ∧ f x = nI m ∧ ∀ u, u < 4 → (m.testBit u = true ↔ rch h n t x u ∨ ∃ a, a < j ∧ cnd h n t a ∧ x = t ||| 2 ^ a ∧ con h n t a u)
theorem rHas_skip {h : Hy} {n t j : Nat} {f : Nat → Int32} (r : rHas h n t j f) (c : ¬ cnd h n t j) : rHas h n t (j + 1) f := by
  intro x hx
  obtain ⟨m, hm, e, b⟩ := r x hx
  refine ⟨m, hm, e, fun u hu => (b u hu).trans ?_⟩
  constructor
  · rintro (h1 | ⟨a, h1, h2⟩)
    · exact Or.inl h1
    · exact Or.inr ⟨a, by omega, h2⟩
  · rintro (h1 | ⟨a, h1, h2⟩)
    · exact Or.inl h1
    · by_cases e : a = j
      · subst e; exact absurd h2.1 c
      · exact Or.inr ⟨a, by omega, h2⟩
theorem rHas_put {h : Hy} {n t j : Nat} {f : Nat → Int32} (ho : hOk h n) (hj : j < n) (r : rHas h n t j f) (c : cnd h n t j) {m0 m1 : Nat} (ht : t < 128) (hx : t ||| 2 ^ j < 128) (e0 : f t = nI m0) (e1 : f (t ||| 2 ^ j) = nI m1) (hm0 : m0 < 16) (hm1 : m1 < 16) : rHas h n t (j + 1) (upd f (t ||| 2 ^ j) (nI (newm h j m0 m1))) := by
  obtain ⟨oW, oT⟩ := ho j hj
  intro x hx2
  by_cases ex : x = t ||| 2 ^ j
  · subst ex
    obtain ⟨m, hm, e, b⟩ := r _ hx
    have em : m = m1 := (nI_eq (by omega) (by omega)).mp (e.symm.trans e1)
    subst em
    obtain ⟨m', hm', e', b'⟩ := r _ ht
    have em' : m' = m0 := (nI_eq (by omega) (by omega)).mp (e'.symm.trans e0)
    subst em'
    have b0 : ∀ u, u < 4 → (m'.testBit u = true ↔ rch h n t t u) := by
      intro u hu
      refine (b' u hu).trans ⟨?_, Or.inl⟩
      rintro (h1 | ⟨a, h1, h2, h3, -⟩)
      · exact h1
      · have h4 := h2.1
        rw [h3] at h4
        have h5 := (tb_or (t := t) (a := a) (u := a)).mpr (Or.inr rfl)
        rw [h4] at h5
        cases h5
    unfold newm
    by_cases c1 : h.W j = -1
    · rw [if_pos c1]
      by_cases c2 : h.E j = -1
      · rw [if_pos c2]
        refine ⟨m, hm, pk_us, fun u hu => (b u hu).trans ?_⟩
        constructor
        · rintro (h1 | ⟨a, h1, h2⟩)
          · exact Or.inl h1
          · exact Or.inr ⟨a, by omega, h2⟩
        · rintro (h1 | ⟨a, h1, h2⟩)
          · exact Or.inl h1
          · by_cases e : a = j
            · subst e
              rcases h2.2.2 with h4 | h4
              · exact absurd c2 h4.2.1
              · exact absurd c1 h4.1
            · exact Or.inr ⟨a, by omega, h2⟩
      · rw [if_neg c2]
        obtain ⟨y, hy, ey⟩ := oT c1 c2
        rw [ey, ix_nI (by omega)]
        refine ⟨_, q_vt16 m hm m' hm' y hy, pk_us, fun u hu => ?_⟩
        rw [Nat.testBit_or, Bool.or_eq_true, tb_and, b u hu, b0 u hu]
        constructor
        · rintro ((h1 | ⟨a, h1, h2⟩) | ⟨h1, h2⟩)
          · exact Or.inl h1
          · exact Or.inr ⟨a, by omega, h2⟩
          · subst h2
            exact Or.inr ⟨j, by omega, c, rfl, Or.inl ⟨c1, c2, h1, ey⟩⟩
        · rintro (h1 | ⟨a, h1, h2⟩)
          · exact Or.inl (Or.inl h1)
          · by_cases e : a = j
            · subst e
              rcases h2.2.2 with h4 | h4
              · refine Or.inr ⟨h4.2.2.1, ?_⟩
                have h5 := h4.2.2.2
                rw [ey] at h5
                exact ((nI_eq (by omega) (by omega)).mp h5).symm
              · exact absurd c1 h4.1
            · exact Or.inl (Or.inr ⟨a, by omega, h2⟩)
    · rw [if_neg c1]
      obtain ⟨y, hy, ey⟩ := oW.resolve_left c1
      rw [ey, ix_nI (by omega)]
      refine ⟨_, q_v16 m hm y hy, pk_us, fun u hu => ?_⟩
      rw [tb_or, b u hu]
      constructor
      · rintro ((h1 | ⟨a, h1, h2⟩) | h2)
        · exact Or.inl h1
        · exact Or.inr ⟨a, by omega, h2⟩
        · subst h2
          exact Or.inr ⟨j, by omega, c, rfl, Or.inr ⟨c1, ey⟩⟩
      · rintro (h1 | ⟨a, h1, h2⟩)
        · exact Or.inl (Or.inl h1)
        · by_cases e : a = j
          · subst e
            rcases h2.2.2 with h4 | h4
            · exact absurd h4.1 c1
            · have h5 := h4.2
              rw [ey] at h5
              exact Or.inr ((nI_eq (by omega) (by omega)).mp h5).symm
          · exact Or.inl (Or.inr ⟨a, by omega, h2⟩)
  · obtain ⟨m, hm, e, b⟩ := r x hx2
    refine ⟨m, hm, (pk_un ex).trans e, fun u hu => (b u hu).trans ?_⟩
    constructor
    · rintro (h1 | ⟨a, h1, h2⟩)
      · exact Or.inl h1
      · exact Or.inr ⟨a, by omega, h2⟩
    · rintro (h1 | ⟨a, h1, h2⟩)
      · exact Or.inl h1
      · by_cases e : a = j
        · subst e; exact absurd h2.2.1 ex
        · exact Or.inr ⟨a, by omega, h2⟩
theorem rHas_next {h : Hy} {n t : Nat} {f : Nat → Int32} (r : rHas h n t n f) (ne : ∃ v, v < 4 ∧ rch h n t t v) : rHas h n (t + 1) 0 f := by
  intro x hx
  obtain ⟨m, hm, e, b⟩ := r x hx
  refine ⟨m, hm, e, fun u hu => (b u hu).trans ?_⟩
  constructor
  · rintro (h1 | ⟨a, h1, h2⟩)
    · exact Or.inl (Or.inl h1)
    · exact Or.inl (Or.inr ⟨ne, a, h1, h2⟩)
  · rintro (h1 | ⟨a, h1, h2⟩)
    · rcases h1 with h1 | ⟨-, a, h1, h2⟩
      · exact Or.inl h1
      · exact Or.inr ⟨a, h1, h2⟩
    · omega
theorem rHas_none {h : Hy} {n t : Nat} {f : Nat → Int32} (r : rHas h n t 0 f) (ne : ¬ ∃ v, v < 4 ∧ rch h n t t v) : rHas h n (t + 1) 0 f := by
  intro x hx
  obtain ⟨m, hm, e, b⟩ := r x hx
  refine ⟨m, hm, e, fun u hu => (b u hu).trans ?_⟩
  constructor
  · rintro (h1 | ⟨a, h1, h2⟩)
    · exact Or.inl (Or.inl h1)
    · omega
  · rintro (h1 | ⟨a, h1, h2⟩)
    · rcases h1 with h1 | ⟨h0, -⟩
      · exact Or.inl h1
      · exact absurd h0 ne
    · omega
theorem cnd_iff {h : Hy} {n t a : Nat} (ht : t < 128) (h7 : n ≤ 7) : cnd h n t a ↔ (t.testBit a = false ∧ nI (mkM (fun b => hAh h b a) n) &&& (nI t ^^^ (-1)) = 0) := by
  have hm : mkM (fun b => hAh h b a) n < 128 := by
    have h2 := mkM_lt (fun b => hAh h b a) n
    have h3 : 2 ^ n ≤ 2 ^ 7 := Nat.pow_le_pow_right (by omega) (by omega)
    omega
  unfold cnd
  rw [q_sub _ hm _ ht]
  constructor
  · rintro ⟨h1, h2⟩
    refine ⟨h1, fun i hi hb => ?_⟩
    obtain ⟨h3, h4⟩ := (mkM_bit _ n).mp hb
    exact h2 i h3 h4
  · rintro ⟨h1, h2⟩
    exact ⟨h1, fun b hb hh => h2 b (by omega) ((mkM_bit _ n).mpr ⟨hb, hh⟩)⟩
section JJ
variable {L : Nat} {g0 : Nat → Nat → Int32} {p q : Nat} {s : Sx}
def frm (g0 g : Nat → Nat → Int32) : Prop := ∀ i, ¬ i = 5 → ¬ i = 6 → g i = g0 i
def ndd (h : Hy) (n : Nat) (f : Nat → Int32) : Prop := ∀ i, i < n → f i = nI (mkM (fun b => hAh h b i) n)
theorem L_atIn (hs : St 170 (SF L) p q) (hq5 : ¬ q = 5) (hq6 : ¬ q = 6) {N t : Nat} {m : Int32} (h7 : N ≤ 7) (ho : hOk (hyC s) N) (ht : t < 2 ^ N) : ∀ k j (g : Nat → Nat → Int32), j + k = N → g q = lay s → ndd (hyC s) N (g 5) → rHas (hyC s) N t j (g 6) → frm g0 g → ∃ g', Rr 129 106 [.ref 4, .ref p, .int (nI N), .int m, .int (nI t), .int (nI j)] [] (HP L g) = Rr 129 152 [.ref 4, .ref p, .int (nI N), .int m, .int (nI t), .int (nI N)] [] (HP L g') ∧ g' q = lay s ∧ ndd (hyC s) N (g' 5) ∧ rHas (hyC s) N t N (g' 6) ∧ frm g0 g'
  | 0, j, g, h, a1, a2, a3, a4 => by
    have : j = N := by omega
    subst this
    refine ⟨g, ?_, a1, a2, a3, a4⟩
    rw [e129_106]
    simp only [e129_108, e129_109, Int32.le_refl, if_true]
  | k + 1, j, g, h, a1, a2, a3, a4 => by
    have h27 : 2 ^ N ≤ 2 ^ 7 := Nat.pow_le_pow_right (by omega) h7
    have ht7 : t < 128 := by omega
    have hj : j < 7 := by omega
    have h1 : ¬ nI N ≤ nI j := nI_ge (by omega) (by omega)
    have k3 : (nI j).toNatClampNeg = j := nI_clamp (by omega)
    have k4 : ¬ 7 ≤ j := by omega
    have k5 : ¬ nI j < 0 := nI_pos (by omega)
    have e5 := a2 j (by omega)
    have one0 : ¬ nI 1 = 0 := by decide
    have ih := fun g => L_atIn hs hq5 hq6 (m := m) h7 ho ht k (j + 1) g (by omega)
    rw [e129_106]
    simp only [e129_108, e129_109, e129_112, e129_114, e129_116, e129_117, e129_118, e129_119, h1, if_false, q_bit t ht7 j hj]
    by_cases c1 : t.testBit j = true
    · simp only [c1, if_true, one0, not_false_eq_true, e129_146, e129_149, nI_add]
      exact ih g a1 a2 (rHas_skip a3 (fun z => by rw [z.1] at c1; cases c1)) a4
    · simp only [c1, if_false, K00, not_true_eq_false, e129_122, e129_123, e129_126, e129_128, e129_129, e129_131, e129_132, e129_133, e129_134, i_4, f_4_0, a_5, n_5, k3, k4, k5, or_self, not_false_eq_true, Hq_G, e5]
      by_cases c2 : nI (mkM (fun b => hAh (hyC s) b j) N) &&& (nI t ^^^ (-1)) = 0
      · have c := (cnd_iff (h := hyC s) (n := N) ht7 h7).mpr ⟨(Bool.not_eq_true _).mp c1, c2⟩
        have hto := q_or t ht7 j hj
        obtain ⟨m0, hm0, e0, -⟩ := a3 t ht7
        obtain ⟨m1, hm1, e1, -⟩ := a3 _ hto
        have D := D_putBehind hs a1 ho ht7 (show j < N by omega) hj e0 e1 hm0 hm1
        simp only [c2, not_true_eq_false, if_false, e129_137, e129_138, e129_139, e129_141, e129_143, en_101, i_4, D, lvH_Hq, Option.bind_some, psh_i, psh_n, Hq_G, Hq_setG, upf_same, upf_upf, e129_146, e129_149, nI_add]
        refine ih _ ((upf_ne hq6).trans a1) ?_ ?_ (fun i h5 h6 => (upf_ne h6).trans (a4 i h5 h6))
        · rw [upf_ne (by decide)]; exact a2
        · rw [upf_same]; exact rHas_put ho (by omega) a3 c ht7 hto e0 e1 hm0 hm1
      · simp only [c2, not_false_eq_true, if_true, e129_146, e129_149, nI_add]
        exact ih g a1 a2 (rHas_skip a3 (fun z => c2 ((cnd_iff ht7 h7).mp z).2)) a4
theorem L_atOut (hs : St 170 (SF L) p q) (hq5 : ¬ q = 5) (hq6 : ¬ q = 6) {N : Nat} (h7 : N ≤ 7) (ho : hOk (hyC s) N) : ∀ k t (g : Nat → Nat → Int32) (v : Value), t + k = 2 ^ N → (∀ i, i < t → ¬ hGood (hyC s) N i) → g q = lay s → ndd (hyC s) N (g 5) → rHas (hyC s) N t 0 (g 6) → frm g0 g → ∃ g', Rr 129 64 [.ref 4, .ref p, .int (nI N), .int (nI (mkM (fun a => ¬ (hyC s).E a = -1) N)), .int (nI t), v] [] (HP L g) = some (some (b2c (hAt (hyC s) N)), HP L g') ∧ frm g0 g'
  | 0, t, g, v, h, ng, a1, a2, a3, a4 => by
    have h27 : 2 ^ N ≤ 2 ^ 7 := Nat.pow_le_pow_right (by omega) h7
    have : t = 2 ^ N := by omega
    subst this
    refine ⟨g, ?_, a4⟩
    rw [e129_64]
    simp only [e129_66, e129_67, e129_68, e129_69, q_2p N (by omega), Int32.le_refl, if_true, e129_158, e129_159, zero_01]
    rw [b2c_f (fun ⟨i, hi, hg⟩ => ng i hi hg)]
  | k + 1, t, g, v, h, ng, a1, a2, a3, a4 => by
    have h27 : 2 ^ N ≤ 2 ^ 7 := Nat.pow_le_pow_right (by omega) h7
    have ht7 : t < 128 := by omega
    have h1 : ¬ nI (2 ^ N) ≤ nI t := nI_ge (by omega) (by omega)
    have h2 : ¬ nI 128 ≤ nI t := nI_ge (by omega) (by omega)
    have k3 : (nI t).toNatClampNeg = t := nI_clamp (by omega)
    have k4 : ¬ 128 ≤ t := by omega
    have k5 : ¬ nI t < 0 := nI_pos (by omega)
    have ih := fun g v => L_atOut hs hq5 hq6 h7 ho k (t + 1) g v (by omega)
    obtain ⟨m0, hm0, e0, b0⟩ := a3 t ht7
    have b1 : ∀ u, u < 4 → (m0.testBit u = true ↔ rch (hyC s) N t t u) := fun u hu => (b0 u hu).trans ⟨fun z => z.elim id (fun ⟨a, ha, _⟩ => by omega), Or.inl⟩
    have ne : (∃ v, v < 4 ∧ rch (hyC s) N t t v) ↔ ¬ nI m0 = 0 := by
      rw [q_v0 m0 hm0, Classical.not_not]
      exact ⟨fun ⟨v, hv, r⟩ => ⟨v, hv, (b1 v hv).mpr r⟩, fun ⟨v, hv, r⟩ => ⟨v, hv, (b1 v hv).mp r⟩⟩
    have hmm : mkM (fun a => ¬ (hyC s).E a = -1) N < 128 := by
      have h2 := mkM_lt (fun a => ¬ (hyC s).E a = -1) N
      omega
    have hin := q_in _ hmm _ ht7
    have hin2 : (∀ i, i < 7 → (mkM (fun a => ¬ (hyC s).E a = -1) N).testBit i = true → t.testBit i = true) ↔ ∀ a, a < N → ¬ (hyC s).E a = -1 → t.testBit a = true := by
      constructor
      · intro z a ha hE
        exact z a (by omega) ((mkM_bit _ N).mpr ⟨ha, hE⟩)
      · intro z i hi hb
        obtain ⟨h3, h4⟩ := (mkM_bit _ N).mp hb
        exact z i h3 h4
    rw [e129_64]
    simp only [e129_66, e129_67, e129_68, e129_69, q_2p N (by omega), h1, if_false, e129_72, e129_74, e129_77, h2, e129_80, e129_81, e129_84, e129_86, e129_87, i_4, f_4_1, a_6, n_6, k3, k4, k5, or_self, not_false_eq_true, Hq_G, e0]
    by_cases c1 : nI m0 = 0
    · have ne' : ¬ ∃ v, v < 4 ∧ rch (hyC s) N t t v := fun z => ne.mp z c1
      simp only [c1, not_true_eq_false, if_false, e129_90, e129_152, e129_155, nI_add]
      refine ih g v (fun i hi => ?_) a1 a2 (rHas_none a3 ne') a4
      by_cases e : i = t
      · subst e; exact fun z => ne' z.1
      · exact ng i (by omega)
    · have ne' := ne.mpr c1
      simp only [c1, not_false_eq_true, if_true, e129_93, e129_95, e129_96, e129_97, e129_98]
      by_cases c2 : nI t &&& nI (mkM (fun a => ¬ (hyC s).E a = -1) N) = nI (mkM (fun a => ¬ (hyC s).E a = -1) N)
      · simp only [c2, not_true_eq_false, if_false, e129_101, e129_102, one_01]
        refine ⟨g, ?_, a4⟩
        rw [b2c_t ⟨t, by omega, ne', hin2.mp (hin.mp c2)⟩]
      · simp only [c2, not_false_eq_true, if_true, e129_103, e129_104]
        obtain ⟨g1, E1, a1', a2', a3', a4'⟩ := L_atIn (g0 := g0) hs hq5 hq6 (m := nI (mkM (fun a => ¬ (hyC s).E a = -1) N)) h7 ho (show t < 2 ^ N by omega) N 0 g (by omega) a1 a2 a3 a4
        rw [E1]
        simp only [e129_152, e129_155, nI_add]
        refine ih g1 _ (fun i hi => ?_) a1' a2' (rHas_next a3' ne') a4'
        by_cases e : i = t
        · subst e; exact fun z => c2 (hin.mpr (hin2.mpr z.2))
        · exact ng i (by omega)
end JJ
