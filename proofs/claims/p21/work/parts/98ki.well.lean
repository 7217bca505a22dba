/-! ACTS STAND IN TIME, WHAT IS JUDGED HANGS TOGETHER: of a good state -/
def sumN (f : Nat → Nat) : Nat → Nat
  | 0 => 0
  | k + 1 => sumN f k + f k
theorem sumN_c {f g : Nat → Nat} : ∀ n, (∀ a, a < n → f a = g a) → sumN f n = sumN g n
  | 0, _ => rfl
  | n + 1, h => by
    unfold sumN
    rw [sumN_c n (fun a ha => h a (by omega)), h n (by omega)]
theorem sumN_add {f g : Nat → Nat} : ∀ n, sumN (fun p => f p + g p) n = sumN f n + sumN g n
  | 0 => rfl
  | n + 1 => by
    unfold sumN
    rw [sumN_add n]
    omega
theorem sumN_0 : ∀ n, sumN (fun _ => 0) n = 0
  | 0 => rfl
  | n + 1 => by
    unfold sumN
    rw [sumN_0 n]
theorem sumN_sw {f : Nat → Nat → Nat} (P : Nat) : ∀ N, sumN (fun a => sumN (fun p => f a p) P) N = sumN (fun p => sumN (fun a => f a p) N) P
  | 0 => (sumN_0 P).symm
  | N + 1 => by
    have e : sumN (fun a => sumN (fun p => f a p) P) (N + 1) = sumN (fun a => sumN (fun p => f a p) P) N + sumN (fun p => f N p) P := rfl
    rw [e, sumN_sw P N, ← sumN_add]
    rfl
theorem sumN_z {f : Nat → Nat} (n : Nat) (h : ∀ a, a < n → f a = 0) : sumN f n = 0 := (sumN_c n h).trans (sumN_0 n)
theorem sumN_1 {f : Nat → Nat} {p : Nat} : ∀ n, p < n → f p = 1 → (∀ a, a < n → ¬ a = p → f a = 0) → sumN f n = 1
  | 0, hp, _, _ => by omega
  | n + 1, hp, h1, h0 => by
    unfold sumN
    by_cases c : p = n
    · subst c
      rw [sumN_z p (fun a ha => h0 a (by omega) (by omega)), h1]
    · rw [sumN_1 n (by omega) h1 (fun a ha => h0 a (by omega)), h0 n (by omega) (fun z => c z.symm)]
def cnE (m : Sx) : Nat → Nat := sumN (fun a => if m.A a 3 = -1 then 1 else 0)
def cnP (m : Sx) : Nat → Nat := sumN (fun p => if m.P p 0 = -1 then 0 else 1)
theorem cntU_P {m : Sx} : ∀ d, cntU m d = nI (cnP m d)
  | 0 => rfl
  | d + 1 => by
    have e : cnP m (d + 1) = cnP m d + (if m.P d 0 = -1 then 0 else 1) := rfl
    have e2 : cntU m (d + 1) = if m.P d 0 = -1 then cntU m d else cntU m d + nI 1 := rfl
    rw [e, e2, cntU_P d]
    split
    · rfl
    · exact nI_add _ 1
theorem cnE_le {m : Sx} : ∀ n, cnE m n ≤ n
  | 0 => Nat.le_refl _
  | n + 1 => by
    have e : cnE m (n + 1) = cnE m n + (if m.A n 3 = -1 then 1 else 0) := rfl
    have := cnE_le (m := m) n
    rw [e]
    split <;> omega
section WE
variable {b po bs r n t N a : Nat} {m : Sx}
theorem cnE_P (I : Iv b po bs r n t N m) : cnE m N = cnP m (wN b + n) := by
  obtain ⟨⟨ok, sh, h6, hN, hC0, hA0, hS, hE, hPI, ⟨-, hev⟩, huw, hK⟩, h5⟩ := I
  have hnp := np_le ok
  have e := sumN_sw (f := fun a p => if m.P p 0 = nI a then 1 else 0) (wN b + n) N
  have e1 : cnE m N = sumN (fun a => sumN (fun p => if m.P p 0 = nI a then 1 else 0) (wN b + n)) N := by
    refine sumN_c N (fun a ha => ?_)
    obtain ⟨p, hp, h0, -, -, s, hs, -, hx⟩ := hA0 a ha
    have uq : ∀ q, q < wN b + n → m.P q 0 = nI a → m.A a 0 = nI q ∧ m.A a 3 = -1 := by
      intro q hq z
      have hu : ¬ m.P q 0 = -1 := by
        rw [z]
        exact nI_nm1 (by omega)
      obtain ⟨-, a2, ha2, e0, ea0, ea3, -⟩ := (hPI q (by omega)).2.2 hu
      have : a2 = a := (nI_eq (by omega) (by omega)).mp (e0.symm.trans z)
      subst this
      exact ⟨ea0, ea3⟩
    by_cases c : m.A a 3 = -1
    · rw [if_pos c]
      refine (sumN_1 (p := p) _ hp ?_ (fun q hq hne => ?_)).symm
      · rcases hx with ⟨-, -, z⟩ | ⟨e, he, he2, z, -⟩
        · rw [if_pos z]
        · rw [z] at c
          exact absurd c (nI_nm1 (by
            have := tm_le (t := t) (u := t) ⟨ok, sh, h6, hN, hC0, hA0, hS, hE, hPI, ⟨Nat.le_refl _, hev⟩, huw, hK⟩
            omega))
      · rw [if_neg]
        intro z
        have z2 := (uq q hq z).1
        rw [h0] at z2
        exact hne ((nI_eq (by omega) (by omega)).mp z2).symm
    · rw [if_neg c]
      refine (sumN_z _ (fun q hq => ?_)).symm
      rw [if_neg]
      intro z
      exact c (uq q hq z).2
  have e2 : cnP m (wN b + n) = sumN (fun p => sumN (fun a => if m.P p 0 = nI a then 1 else 0) N) (wN b + n) := by
    refine sumN_c _ (fun p hp => ?_)
    by_cases c : m.P p 0 = -1
    · rw [if_pos c]
      refine (sumN_z _ (fun a ha => ?_)).symm
      rw [if_neg]
      intro z
      rw [c] at z
      exact nI_nm1 (show a < 2147483648 by omega) z.symm
    · rw [if_neg c]
      obtain ⟨-, a, ha, e0, -⟩ := (hPI p (by omega)).2.2 c
      refine (sumN_1 (p := a) _ ha (by rw [if_pos e0]) (fun a' ha' hne => ?_)).symm
      rw [if_neg]
      intro z
      exact hne ((nI_eq (by omega) (by omega)).mp (z.symm.trans e0))
  rw [e1, e2, e]
theorem act_f (G : GV b po bs r n t N m) (ha : a < N) : ∃ s, s < t ∧ acM m N a 3 = nI s ∧ ((acM m N a 4 = -1 ∧ acM m N a 2 = -1) ∨ ∃ e, s < e ∧ e < t ∧ acM m N a 4 = nI e) ∧
    (acM m N a 2 = -1 ∨ ∃ x, x < r ∧ acM m N a 2 = nI x) ∧ (acM m N a 6 = nI 1 → acM m N a 5 = nI 1) ∧ (acM m N a 1 = -1 ∨ (acM m N a 2 = -1 ∧ acM m N a 5 = -1)) ∧
    ∀ a', a' < a → acM m N a' 3 < acM m N a 3 := by
  obtain ⟨I, -, ⟨V1, V2⟩, -⟩ := G
  obtain ⟨p, hp, h0, h1, h2, s, hs, e2, hx⟩ := I.1.2.2.2.2.2.1 a ha
  have x1 : acM m N a 1 = m.A a 1 := rfl
  have x2 : acM m N a 2 = m.A a 4 := rfl
  have x3 : ∀ a', acM m N a' 3 = m.A a' 2 := fun _ => rfl
  have x4 : acM m N a 4 = m.A a 3 := rfl
  have x5 : acM m N a 5 = if hJm m a then b2 (hSf (hyM m) N a) else -1 := rfl
  have x6 : acM m N a 6 = if hJm m a then b2 (¬ hGs (hyM m) N a = -1) else -1 := rfl
  refine ⟨s, hs, (x3 a).trans e2, ?_, ?_, ?_, ?_, ?_⟩
  · rw [x4, x2]
    rcases hx with ⟨z1, z2, -⟩ | ⟨e, he, he2, z, -⟩
    · exact Or.inl ⟨z1, z2⟩
    · exact Or.inr ⟨e, he, he2, z⟩
  · rw [x2]
    exact (V1 a ha).imp id (fun z => z.2)
  · rw [x5, x6]
    by_cases c : hJm m a
    · rw [if_pos c, if_pos c, b2_1, b2_1]
      exact reg_safe
    · rw [if_neg c]
      intro z
      exact absurd z (by decide)
  · rw [x1, x2, x5]
    by_cases c : m.A a 1 = -1
    · exact Or.inl c
    · refine Or.inr ⟨?_, if_neg (fun z => c z.2.1)⟩
      rcases V1 a ha with z | z
      · exact z
      · exact absurd z.1 c
  · intro a' ha'
    rw [x3, x3]
    exact V2 a ha a' ha'
theorem fstF_cs {P : Nat → Prop} {dP : DecidablePred P} : ∀ d j, (fstF P j d = -1 ∧ ∀ i, j ≤ i → i < j + d → ¬ P i) ∨ ∃ i, j ≤ i ∧ i < j + d ∧ P i ∧ fstF P j d = nI i
  | 0, j => Or.inl ⟨rfl, fun i h1 h2 => by omega⟩
  | d + 1, j => by
    rw [fstF]
    by_cases c : P j
    · rw [if_pos c]
      exact Or.inr ⟨j, Nat.le_refl _, by omega, c, rfl⟩
    · rw [if_neg c]
      rcases fstF_cs (P := P) (dP := dP) d (j + 1) with ⟨e, k⟩ | ⟨i, h1, h2, hp, e⟩
      · refine Or.inl ⟨e, fun i h1 h2 hp => ?_⟩
        by_cases z : i = j
        · subst z
          exact c hp
        · exact k i (by omega) (by omega) hp
      · exact Or.inr ⟨i, by omega, by omega, hp, e⟩
theorem fstF_n {P : Nat → Prop} {dP : DecidablePred P} {d j : Nat} (h : ∀ i, j ≤ i → i < j + d → ¬ P i) : fstF P j d = -1 := by
  rcases fstF_cs (P := P) (dP := dP) d j with ⟨e, -⟩ | ⟨i, h1, h2, hp, -⟩
  · exact e
  · exact absurd hp (h i h1 h2)
theorem jd_b (I : Iv b po bs r n t N m) (h : hJm m a) : ¬ b = 5 := by
  have hw := wrs_b (m := m) I.1.2.1.1 I.1.1.1
  intro z
  have := h.1
  rw [hw] at this
  unfold wN at this
  rw [if_pos z] at this
  omega
/-- what is atomic: every READ is REGULAR, none GOES BACK -/
theorem told_at (I : Iv b po bs r n t N m) (A : hAt (hyM m) N) : fstF (rdP m N 1) 0 N = -1 ∧ fstF (rdP m N 2) 0 N = -1 := by
  have HH := Iv_hI I.1
  have hN := I.1.2.2.2.1
  refine ⟨fstF_n (fun i _ hi z => ?_), fstF_n (fun i _ hi z => ?_)⟩
  · have HS := Iv_hSq I.1 (jd_b I z.1)
    have z2 : hGs (hyM m) N i = -1 := z.2
    exact at_reg HH HS hN A (by omega) z.1.2.1 z.1.2.2 z2
  · have HS := Iv_hSq I.1 (jd_b I z.1)
    have z2 : hGbM m N i := z.2
    obtain ⟨-, q, hq, jq, hqr, hlt⟩ := z2
    exact at_back HH HS hN A (by omega) z.1.2.1 z.1.2.2 hq jq.2.1 jq.2.2 hqr hlt
theorem told_sf (hN : N ≤ 7) (h : fstF (rdP m N 1) 0 N = -1) : fstF (rdP m N 0) 0 N = -1 := by
  refine fstF_n (fun i _ hi z => ?_)
  rcases fstF_cs (P := rdP m N 1) (dP := inferInstance) N 0 with ⟨-, k⟩ | ⟨i', h1, h2, hp, e⟩
  · have z2 : ¬ hSf (hyM m) N i := z.2
    refine z2 (reg_safe (fun c => k i (Nat.zero_le _) hi ⟨z.1, c⟩))
  · rw [h] at e
    exact absurd e.symm (nI_nm1 (by omega))
end WE
