/-! THE MODEL: isAtomic -/
theorem gM91 {L : Nat} {g : Nat → Nat → Int32} {s : Sx} {f : Nat → Int32} : Gt (HM L g s f) 91 = g 91 := upf_ne (f := g) (k := 87) (v := layM s f) (j := 91) (by decide)
theorem sM91 {L : Nat} {g : Nat → Nat → Int32} {s : Sx} {f F : Nat → Int32} : setG (HM L g s f) 91 F = HM L (upf g 91 F) s f := by
  rw [Hq_setG]
  congr 1
  funext i
  unfold upf
  by_cases h : i = 91
  · rw [if_pos h, if_neg (by omega), if_pos h]
  · rw [if_neg h]
    by_cases h2 : i = 87
    · rw [if_pos h2, if_pos h2]
    · rw [if_neg h2, if_neg h2, if_neg h]
def fr1 (k : Nat) (g0 g : Nat → Nat → Int32) : Prop := ∀ i, ¬ i = k → g i = g0 i
section MM
variable {L : Nat} {g g0 : Nat → Nat → Int32} {s : Sx} {f : Nat → Int32} {N : Nat}
theorem L_amust (HI : hI (hyM s) N) (h7 : N ≤ 7) {w5 w6 w7 : Value} : ∀ k j, j + k = N → Rr 158 19 [.ref 86, .int (nI 0), .int (nI N), .int (nI (mkM (fun a => ¬ (hyM s).E a = -1) j)), .int (nI j), w5, w6, w7] [] (HM L g s f) = Rr 158 52 [.ref 86, .int (nI 0), .int (nI N), .int (nI (mkM (fun a => ¬ (hyM s).E a = -1) N)), .int (nI N), w5, w6, w7] [] (HM L g s f)
  | 0, j, h => by
    have : j = N := by omega
    subst this
    rw [e158_19]
    simp only [e158_21, e158_22, Int32.le_refl, if_true]
  | k + 1, j, h => by
    have hj : j < N := by omega
    have h1 : ¬ nI N ≤ nI j := nI_ge (by omega) (by omega)
    have ih := L_amust HI h7 (w5 := w5) (w6 := w6) (w7 := w7) k (j + 1) (by omega)
    have hm : mkM (fun a => ¬ (hyM s).E a = -1) j < 128 := by
      have h2 := mkM_lt (fun a => ¬ (hyM s).E a = -1) j
      have h3 : 2 ^ j ≤ 2 ^ 7 := Nat.pow_le_pow_right (by omega) (by omega)
      omega
    generalize Rr 158 52 _ _ _ = T at ih ⊢
    rw [mkM] at ih
    rw [e158_19]
    simp only [e158_21, e158_22, h1, if_false, e158_25, e158_26, e158_27, e158_29, e158_30, e158_33, en_84, i_86, M_isEnded HI h7 hj, lvH_Hq, Option.bind_some, psh_i, psh_n, Hq_G, Hq_setG, upf_same, upf_upf, b2_0, Classical.not_not]
    by_cases c : (hyM s).E j = -1
    · rw [if_pos c]
      simp only [c, not_true_eq_false, if_false] at ih
      simp only [e158_43, e158_44, e158_45, e158_46, e158_49, q_or0, nI_add]
      exact ih
    · rw [if_neg c]
      simp only [c, not_false_eq_true, if_true] at ih
      simp only [e158_36, e158_37, e158_39, e158_40, e158_44, e158_45, e158_46, e158_49, q_sh _ hm _ (show j < 7 by omega), nI_add]
      exact ih
theorem L_azero {m w2 w5 w6 w7 : Value} {F : Nat → Int32} : ∀ k j, j + k = 512 → Rr 158 55 [.ref 86, .int (nI 0), w2, m, .int (nI j), w5, w6, w7] [] (HM L (upf g 91 (fun i => if i < j then nI 0 else F i)) s f) = Rr 158 77 [.ref 86, .int (nI 0), w2, m, .int (nI 512), w5, w6, w7] [] (HM L (upf g 91 (fun i => if i < 512 then nI 0 else F i)) s f)
  | 0, j, h => by
    have : j = 512 := by omega
    subst this
    rw [e158_55]
    simp only [e158_57, e158_60, Int32.le_refl, if_true]
  | k + 1, j, h => by
    have h1 : ¬ nI 512 ≤ nI j := nI_ge (by omega) (by omega)
    have ih := L_azero (m := m) (w2 := w2) (w5 := w5) (w6 := w6) (w7 := w7) (F := F) k (j + 1) (by omega)
    have k3 : (nI j).toNatClampNeg = j := nI_clamp (by omega)
    have k5 := nI_in (c := j) (N := 512) (by omega) (by omega)
    generalize Rr 158 77 _ _ _ = T at ih ⊢
    rw [e158_55]
    simp only [e158_57, e158_60, h1, if_false, e158_63, e158_64, e158_67, e158_69, i_86, f_86_8]
    rw [e158_70 b_91 (by rw [n_91]; exact k5), gM91, sM91, k3]
    simp only [e158_71, e158_74, nI_add, upf_same, upf_upf]
    rw [← ih]
    congr 4
    funext i
    unfold upd
    by_cases e : i = j
    · subst e
      rw [if_pos rfl, if_pos (by omega)]
    · rw [if_neg e]
      dsimp only
      by_cases e2 : i < j
      · rw [if_pos e2, if_pos (by omega)]
      · rw [if_neg e2, if_neg (by omega)]
theorem L_aIn (HI : hI (hyM s) N) (hN : s.H 6 = nI N) (h7 : N ≤ 7) {t v : Nat} {m is : Value} (ht : t < 2 ^ N) (hv : v < 4) (hr : rch (hyM s) N t t v) : ∀ k j (g : Nat → Nat → Int32) (w7 : Value), j + k = N → mHas (mQ (hyM s) N t v j) (g 91) → fr1 91 g0 g → ∃ g' w', Rr 158 134 [.ref 86, .int (nI 0), .int (nI N), m, is, .int (nI (4 * t + v)), .int (nI j), w7] [] (HM L g s f) = Rr 158 224 [.ref 86, .int (nI 0), .int (nI N), m, is, .int (nI (4 * t + v)), .int (nI N), w'] [] (HM L g' s f) ∧ mHas (mQ (hyM s) N t v N) (g' 91) ∧ fr1 91 g0 g'
  | 0, j, g, w7, h, a1, a2 => by
    have : j = N := by omega
    subst this
    refine ⟨g, w7, ?_, a1, a2⟩
    rw [e158_134]
    simp only [e158_136, e158_137, Int32.le_refl, if_true]
  | k + 1, j, g, w7, h, a1, a2 => by
    have h27 : 2 ^ N ≤ 2 ^ 7 := Nat.pow_le_pow_right (by omega) h7
    have ht7 : t < 128 := by omega
    have hj : j < N := by omega
    have h1 : ¬ nI N ≤ nI j := nI_ge (by omega) (by omega)
    have k3 : (nI (4 * t + v)).toNatClampNeg = 4 * t + v := nI_clamp (by omega)
    have k5 := nI_in (c := 4 * t + v) (N := 512) (by omega) (by omega)
    have e1 := (mHas_one a1 ht7 hv).mpr (mQ_self.mpr hr)
    have d4 : nI (4 * t + v) / nI 4 = nI t := by rw [pk_div (by omega) (by omega) (by omega)]; congr 1; omega
    have r4 : nI (4 * t + v) - nI t * nI 4 = nI v := by rw [pk_mul, pk_sub (by omega)]; congr 1; omega
    have n4 : ¬ nI 4 = 0 := by decide
    have ih := fun g w => L_aIn HI hN h7 (m := m) (is := is) ht hv hr k (j + 1) g w (by omega)
    rw [e158_134]
    simp only [e158_136, e158_137, h1, if_false, e158_140, e158_141, e158_144, i_86, f_86_8]
    rw [e158_146 a_91 (by rw [n_91]; exact k5), gM91, k3, e1]
    simp only [e158_147, e158_148, not_true_eq_false, if_false, e158_151, e158_152, e158_154, e158_155, n4, not_false_eq_true, d4, e158_156, e158_158, e158_159, r4, e158_160, e158_162, e158_163, e158_166, en_145, i_86, M_mayFollow HI hN h7 ht7 hj hv, lvH_Hq, Option.bind_some, psh_i, psh_n, Hq_G, Hq_setG, upf_same, upf_upf]
    by_cases c : mf (hyM s) N t v j
    · rw [if_neg (b2c_ne c)]
      have put : ∀ w, w < 4 → ((hyM s).W j = -1 ∧ w = v ∨ ¬ (hyM s).W j = -1 ∧ (hyM s).W j = nI w) → ∃ g' w', Rr 158 196 [.ref 86, .int (nI 0), .int (nI N), m, is, .int (nI (4 * t + v)), .int (nI j), w7] [.int (nI w)] (HM L g s f) = Rr 158 224 [.ref 86, .int (nI 0), .int (nI N), m, is, .int (nI (4 * t + v)), .int (nI N), w'] [] (HM L g' s f) ∧ mHas (mQ (hyM s) N t v N) (g' 91) ∧ fr1 91 g0 g' := by
        intro w hw hW
        have hto := q_or t ht7 j (by omega)
        have k6 : (nI (4 * (t ||| 2 ^ j) + w)).toNatClampNeg = 4 * (t ||| 2 ^ j) + w := nI_clamp (by omega)
        have k7 := nI_in (c := 4 * (t ||| 2 ^ j) + w) (N := 512) (by omega) (by omega)
        simp only [e158_196, e158_198, e158_199, e158_202, e158_203, e158_205, e158_206, n4, not_false_eq_true, d4, e158_207, e158_208, e158_210, e158_211, q_sh t ht7 j (by omega), e158_212, pk_mul, e158_213, e158_215, nI_add, e158_216, i_86, f_86_8]
        rw [e158_217 b_91 (by rw [n_91]; exact k7), gM91, sM91, k6]
        simp only [e158_218, e158_221, nI_add]
        refine ih _ _ ?_ (fun i hi => (upf_ne hi).trans (a2 i hi))
        rw [upf_same]
        exact mHas_iff (mHas_put a1 hw) (fun x hx u hu => mQ_put c hr hW hu hw)
      simp only [e158_169, e158_170, e158_172, e158_173, e158_174, e158_177, e158_178, en_45, i_86, M_ofRow (show j < 7 by omega), lvH_Hq, Option.bind_some, psh_i, psh_n, Hq_G, Hq_setG, upf_same, upf_upf, Nat.reduceLT, Nat.reduceLeDiff, Nat.reduceAdd, Nat.reduceMul, hyM_W]
      by_cases cw : (hyM s).W j = -1
      · rw [if_pos cw]
        simp only [e158_192, e158_194, e158_195, n4, not_false_eq_true, d4, r4]
        exact put v hv (Or.inl ⟨cw, rfl⟩)
      · rw [if_neg cw]
        obtain ⟨w, hw, ew⟩ := (HI.1 j hj).1.resolve_left cw
        simp only [e158_181, e158_182, e158_184, e158_185, e158_186, e158_189, en_45, i_86, M_ofRow (show j < 7 by omega), lvH_Hq, Option.bind_some, psh_i, psh_n, Hq_G, Hq_setG, upf_same, upf_upf, Nat.reduceLT, Nat.reduceLeDiff, Nat.reduceAdd, Nat.reduceMul, hyM_W, ew]
        exact put w hw (Or.inr ⟨cw, ew⟩)
    · rw [if_pos (b2c_eq c)]
      simp only [e158_218, e158_221, nI_add]
      exact ih _ _ (mHas_iff a1 (fun x hx u hu => mQ_act c hr)) a2
def isQ (h : Hy) (n i : Nat) : Prop := ∃ y, y < i ∧ rch h n (y / 4) (y / 4) (y % 4) ∧ ∀ a, a < n → ¬ h.E a = -1 → (y / 4).testBit a = true
theorem isQ_at {h : Hy} {n : Nat} : isQ h n (4 * 2 ^ n) ↔ hAt h n := by
  constructor
  · rintro ⟨y, hy, hr, hs⟩
    exact ⟨y / 4, by omega, ⟨y % 4, by omega, hr⟩, hs⟩
  · rintro ⟨t, ht, ⟨v, hv, hr⟩, hs⟩
    refine ⟨4 * t + v, by omega, ?_⟩
    rw [show (4 * t + v) / 4 = t by omega, show (4 * t + v) % 4 = v by omega]
    exact ⟨hr, hs⟩
theorem L_aOut (HI : hI (hyM s) N) (hN : s.H 6 = nI N) (h7 : N ≤ 7) : ∀ d i (g : Nat → Nat → Int32) (w6 w7 : Value), i + d = 4 * 2 ^ N → mHas (mQ (hyM s) N (i / 4) (i % 4) 0) (g 91) → fr1 91 g0 g → ∃ g', Rr 158 90 [.ref 86, .int (nI 0), .int (nI N), .int (nI (mkM (fun a => ¬ (hyM s).E a = -1) N)), .int (b2c (isQ (hyM s) N i)), .int (nI i), w6, w7] [] (HM L g s f) = some (some (b2c (hAt (hyM s) N)), HM L g' s f) ∧ fr1 91 g0 g'
  | 0, i, g, w6, w7, h, a1, a2 => by
    have h27 : 2 ^ N ≤ 2 ^ 7 := Nat.pow_le_pow_right (by omega) h7
    have : i = 4 * 2 ^ N := by omega
    subst this
    refine ⟨g, ?_, a2⟩
    rw [e158_90, b2c_iff isQ_at]
    simp only [e158_92, e158_93, e158_94, e158_95, q_4 N (by omega), Int32.le_refl, if_true, e158_230, e158_232, b2c_01]
  | d + 1, i, g, w6, w7, h, a1, a2 => by
    have h27 : 2 ^ N ≤ 2 ^ 7 := Nat.pow_le_pow_right (by omega) h7
    have h1 : ¬ nI (4 * 2 ^ N) ≤ nI i := nI_ge (by omega) (by omega)
    have ht : i / 4 < 2 ^ N := by omega
    have ht7 : i / 4 < 128 := by omega
    have hv : i % 4 < 4 := by omega
    have ei : 4 * (i / 4) + i % 4 = i := by omega
    have k3 : (nI i).toNatClampNeg = i := nI_clamp (by omega)
    have k5 := nI_in (c := i) (N := 512) (by omega) (by omega)
    have d4 : nI i / nI 4 = nI (i / 4) := pk_div (by omega) (by omega) (by omega)
    have n4 : ¬ nI 4 = 0 := by decide
    have b1 := mHas_one a1 ht7 hv
    rw [ei, mQ_self] at b1
    have hmm : mkM (fun a => ¬ (hyM s).E a = -1) N < 128 := by
      have h2 := mkM_lt (fun a => ¬ (hyM s).E a = -1) N
      omega
    have hin := q_in _ hmm _ ht7
    have hin2 : (∀ x, x < 7 → (mkM (fun a => ¬ (hyM s).E a = -1) N).testBit x = true → (i / 4).testBit x = true) ↔ ∀ a, a < N → ¬ (hyM s).E a = -1 → (i / 4).testBit a = true := by
      constructor
      · intro z a ha hE
        exact z a (by omega) ((mkM_bit _ N).mpr ⟨ha, hE⟩)
      · intro z x hx hb
        obtain ⟨h3, h4⟩ := (mkM_bit _ N).mp hb
        exact z x h3 h4
    have ih := fun g w6 w7 => L_aOut HI hN h7 d (i + 1) g w6 w7 (by omega)
    have adv : ∀ g : Nat → Nat → Int32, mHas (mQ (hyM s) N (i / 4) (i % 4 + 1) 0) (g 91) → mHas (mQ (hyM s) N ((i + 1) / 4) ((i + 1) % 4) 0) (g 91) := by
      intro g hg
      by_cases c : i % 4 = 3
      · rw [show (i + 1) / 4 = i / 4 + 1 by omega, show (i + 1) % 4 = 0 by omega]
        rw [c] at hg
        exact mHas_iff hg (fun x hx u hu => mQ_set hu)
      · rw [show (i + 1) / 4 = i / 4 by omega, show (i + 1) % 4 = i % 4 + 1 by omega]
        exact hg
    have qs : isQ (hyM s) N (i + 1) ↔ isQ (hyM s) N i ∨ (rch (hyM s) N (i / 4) (i / 4) (i % 4) ∧ ∀ a, a < N → ¬ (hyM s).E a = -1 → (i / 4).testBit a = true) := ex_succ (P := fun y => rch (hyM s) N (y / 4) (y / 4) (y % 4) ∧ ∀ a, a < N → ¬ (hyM s).E a = -1 → (y / 4).testBit a = true)
    -- behind 'is'
    have pass : ∀ x, x = b2c (isQ (hyM s) N (i + 1)) → ∃ g', Rr 158 129 [.ref 86, .int (nI 0), .int (nI N), .int (nI (mkM (fun a => ¬ (hyM s).E a = -1) N)), .int (b2c (isQ (hyM s) N i)), .int (nI i), w6, w7] [.int x] (HM L g s f) = some (some (b2c (hAt (hyM s) N)), HM L g' s f) ∧ fr1 91 g0 g' := by
      intro x hx
      subst hx
      simp only [e158_129, e158_131, e158_132]
      by_cases c : rch (hyM s) N (i / 4) (i / 4) (i % 4)
      · obtain ⟨g1, w1, E1, p1, p2⟩ := L_aIn (L := L) (f := f) (g0 := g0) HI hN h7 (m := .int (nI (mkM (fun a => ¬ (hyM s).E a = -1) N))) (is := .int (b2c (isQ (hyM s) N (i + 1)))) ht hv c N 0 g w7 (by omega) a1 a2
        rw [ei] at E1
        rw [E1]
        simp only [e158_224, e158_227, nI_add]
        exact ih g1 _ _ (adv g1 (mHas_iff p1 (fun x hx u hu => mQ_next))) p2
      · have adv1 := adv g (mHas_iff a1 (fun x hx u hu => mQ_skip c))
        by_cases hN0 : N = 0
        · subst hN0
          rw [e158_134]
          simp only [e158_136, e158_137, Int32.le_refl, if_true, e158_224, e158_227, nI_add]
          exact ih g _ _ adv1 a2
        · have h2 : ¬ nI N ≤ nI 0 := nI_ge (by omega) (by omega)
          rw [e158_134]
          simp only [e158_136, e158_137, h2, if_false, e158_140, e158_141, e158_144, i_86, f_86_8]
          rw [e158_146 a_91 (by rw [n_91]; exact k5), gM91, k3]
          simp only [e158_147, e158_148]
          rw [if_pos (fun z => c (b1.mp z))]
          simp only [e158_224, e158_227, nI_add]
          exact ih g _ _ adv1 a2
    rw [e158_90]
    simp only [e158_92, e158_93, e158_94, e158_95, q_4 N (by omega), h1, if_false, e158_98, e158_100]
    by_cases c1 : isQ (hyM s) N i
    · rw [if_pos (b2c_ne c1)]
      simp only [e158_124, e158_125]
      exact pass _ (b2c_t (qs.mpr (Or.inl c1))).symm
    · rw [if_neg (fun z => z (b2c_eq c1))]
      simp only [e158_103, e158_104, e158_107, i_86, f_86_8]
      rw [e158_109 a_91 (by rw [n_91]; exact k5), gM91, k3]
      simp only [e158_110, e158_111]
      by_cases c2 : g 91 i = nI 1
      · rw [if_neg (fun z => z c2)]
        simp only [e158_114, e158_116, e158_117, n4, not_false_eq_true, d4, e158_118, e158_119, e158_120, e158_121]
        by_cases c3 : nI (i / 4) &&& nI (mkM (fun a => ¬ (hyM s).E a = -1) N) = nI (mkM (fun a => ¬ (hyM s).E a = -1) N)
        · rw [if_neg (fun z => z c3)]
          simp only [e158_124, e158_125]
          exact pass _ (b2c_t (qs.mpr (Or.inr ⟨b1.mp c2, hin2.mp (hin.mp c3)⟩))).symm
        · rw [if_pos c3]
          simp only [e158_128]
          exact pass _ (b2c_f (fun z => (qs.mp z).elim c1 (fun z => c3 (hin.mpr (hin2.mpr z.2))))).symm
      · rw [if_pos c2]
        simp only [e158_128]
        exact pass _ (b2c_f (fun z => (qs.mp z).elim c1 (fun z => c2 (b1.mpr z.1)))).symm
theorem M_isAtomic (HI : hI (hyM s) N) (hN : s.H 6 = nI N) (h7 : N ≤ 7) : ∃ g', Den 158 [.ref 86, .int (nI 0)] (HM L g s f) = some (some (b2c (hAt (hyM s) N)), HM L g' s f) ∧ fr1 91 g g' := by
  have A1 := L_amust (L := L) (g := g) (f := f) HI h7 (w5 := .retAddr 0) (w6 := .retAddr 0) (w7 := .retAddr 0) N 0 (by omega)
  have A2 := L_azero (L := L) (g := g) (s := s) (f := f) (m := .int (nI (mkM (fun a => ¬ (hyM s).E a = -1) N))) (w2 := .int (nI N)) (w5 := .retAddr 0) (w6 := .retAddr 0) (w7 := .retAddr 0) (F := g 91) 512 0 (by omega)
  have e0 : (fun i => if i < 0 then nI 0 else g 91 i) = g 91 := by
    funext i
    rw [if_neg (by omega)]
  rw [e0, upf_id] at A2
  have m0 : mkM (fun a => ¬ (hyM s).E a = -1) 0 = 0 := rfl
  rw [m0] at A1
  rw [D0_158]
  simp only [e158_0, e158_1, e158_4, e158_7, e158_8, e158_9, e158_11, e158_12, e158_13, e158_14, e158_15, e158_16, e158_17, i_86, f_86_0, a_87, n_87, pk_mul, nI_add, Nat.mul_zero, Nat.zero_add, in_H, rM_H, hN, not_false_eq_true, lvH_Hq, Option.bind_some, psh_i, psh_n, Hq_G, Hq_setG, upf_same, upf_upf, Nat.reduceLT, Nat.reduceLeDiff, Nat.reduceAdd, Nat.reduceMul]
  rw [A1]
  simp only [e158_52, e158_53]
  rw [A2]
  simp only [e158_77, e158_78, e158_81, e158_82, i_86, f_86_8]
  rw [e158_83 b_91 (by rw [n_91]; exact nI_in (by omega) (by omega)), gM91, sM91]
  simp only [e158_84, e158_85, e158_87, e158_88, upf_same, upf_upf]
  have q0 : isQ (hyM s) N 0 ↔ False := ⟨fun ⟨y, hy, _⟩ => by omega, False.elim⟩
  have o := L_aOut (L := L) (f := f) (g0 := g) HI hN h7 (4 * 2 ^ N) 0 (upf g 91 (upd (fun i => if i < 512 then nI 0 else g 91 i) (nI 0).toNatClampNeg (nI 1))) (.retAddr 0) (.retAddr 0) (by omega) ?_ ?_
  · rw [b2c_iff q0, b2c_f id] at o
    exact o
  · rw [upf_same]
    intro x hx u hu
    by_cases e : x = 0 ∧ u = 0
    · obtain ⟨rfl, rfl⟩ := e
      exact Or.inl ⟨pk_us, Or.inl ⟨rfl, rfl⟩⟩
    · refine Or.inr ⟨?_, ?_⟩
      · refine (pk_un (by show ¬ _ = 0; omega)).trans ?_
        exact if_pos (by omega)
      · rintro (z | ⟨w, hw, -⟩ | ⟨-, a, ha, -⟩)
        · exact e z
        · omega
        · omega
  · intro i hi
    exact upf_ne hi
end MM
