/-! WHAT IS ATOMIC IS REGULAR AND NEVER GOES BACK: a row of acts gives each read a source -/
/-- the greatest act of writing in the set t, and 1; 0: none -/
def psW (h : Hy) (t : Nat) : Nat → Nat
  | 0 => 0
  | k + 1 => if ¬ h.W k = -1 ∧ t.testBit k = true then k + 1 else psW h t k
theorem psW_max {h : Hy} {t : Nat} : ∀ n, (psW h t n = 0 ∧ ∀ w, w < n → ¬ h.W w = -1 → ¬ t.testBit w = true) ∨ ∃ w, psW h t n = w + 1 ∧ w < n ∧ ¬ h.W w = -1 ∧ t.testBit w = true ∧ ∀ w', w' < n → ¬ h.W w' = -1 → t.testBit w' = true → w' ≤ w
  | 0 => Or.inl ⟨rfl, fun w hw => by omega⟩
  | n + 1 => by
    unfold psW
    by_cases c : ¬ h.W n = -1 ∧ t.testBit n = true
    · rw [if_pos c]
      exact Or.inr ⟨n, rfl, by omega, c.1, c.2, fun w' hw' _ _ => by omega⟩
    · rw [if_neg c]
      rcases psW_max (h := h) (t := t) n with ⟨e, k⟩ | ⟨w, e, hw, k1, k2, k3⟩
      · refine Or.inl ⟨e, fun w hw hh ht => ?_⟩
        by_cases z : w = n
        · subst z
          exact c ⟨hh, ht⟩
        · exact k w (by omega) hh ht
      · refine Or.inr ⟨w, e, by omega, k1, k2, fun w' hw' hh ht => ?_⟩
        by_cases z : w' = n
        · subst z
          exact absurd ⟨hh, ht⟩ c
        · exact k3 w' (by omega) hh ht
theorem psW_mono {h : Hy} {s t n : Nat} (sub : ∀ a, s.testBit a = true → t.testBit a = true) : psW h s n ≤ psW h t n := by
  rcases psW_max (h := h) (t := s) n with ⟨e, -⟩ | ⟨w, e, hw, k1, k2, -⟩
  · omega
  · rcases psW_max (h := h) (t := t) n with ⟨e2, k⟩ | ⟨w2, e2, -, -, -, k⟩
    · exact absurd (sub w k2) (k w hw k1)
    · have := k w hw k1 (sub w k2)
      omega
theorem psW_r {h : Hy} {s a : Nat} (hW : h.W a = -1) : ∀ n, psW h (s ||| 2 ^ a) n = psW h s n
  | 0 => rfl
  | n + 1 => by
    unfold psW
    rw [psW_r hW n]
    by_cases e : n = a
    · subst e
      rw [if_neg (fun z => z.1 hW), if_neg (fun z => z.1 hW)]
    · have q : (s ||| 2 ^ a).testBit n = true ↔ s.testBit n = true := tb_or.trans ⟨fun z => z.resolve_right (fun z2 => e z2), Or.inl⟩
      by_cases c : ¬ h.W n = -1 ∧ s.testBit n = true
      · rw [if_pos c, if_pos ⟨c.1, q.mpr c.2⟩]
      · rw [if_neg c, if_neg (fun z => c ⟨z.1, q.mp z.2⟩)]
theorem psW_w {h : Hy} {s a n : Nat} (ha : a < n) (hW : ¬ h.W a = -1) (hl : ∀ w, w < n → ¬ h.W w = -1 → s.testBit w = true → w < a) : psW h (s ||| 2 ^ a) n = a + 1 := by
  have ta : (s ||| 2 ^ a).testBit a = true := tb_or.mpr (Or.inr rfl)
  rcases psW_max (h := h) (t := s ||| 2 ^ a) n with ⟨-, k⟩ | ⟨w, e, hw, k1, k2, k3⟩
  · exact absurd ta (k a ha hW)
  · have h1 := k3 a ha hW ta
    rcases tb_or.mp k2 with z | z
    · have := hl w hw k1 z
      omega
    · omega
/-- a source of the read r: 0 is the beginning -/
def srcP (h : Hy) (n r x : Nat) : Prop := (x = 0 ∧ h.T r = nI 0 ∧ ∀ w, w < n → ¬ h.W w = -1 → ¬ hAh h w r) ∨
  ∃ w, x = w + 1 ∧ w < n ∧ ¬ h.W w = -1 ∧ h.W w = h.T r ∧ ¬ hAh h r w ∧ ∀ w', w' < n → ¬ h.W w' = -1 → hAh h w' r → w' ≤ w
def rcI (h : Hy) (n t u : Nat) : Prop :=
  (∀ a, t.testBit a = true → a < n ∧ ∀ b, b < n → hAh h b a → t.testBit b = true) ∧
  ((psW h t n = 0 ∧ u = 0) ∨ ∃ w, psW h t n = w + 1 ∧ h.W w = nI u) ∧
  ∃ p : Nat → Nat, (∀ r, t.testBit r = true → h.W r = -1 → srcP h n r (p r) ∧ p r ≤ psW h t n) ∧
    ∀ q r, t.testBit q = true → t.testBit r = true → h.W q = -1 → h.W r = -1 → hAh h q r → p q ≤ p r
theorem rch_I {h : Hy} {n : Nat} (HS : hSq h n) : ∀ s t u, rch h n s t u → rcI h n t u
  | 0, t, u, ⟨e1, e2⟩ => by
    subst e1
    subst e2
    have z0 : ∀ a, ¬ (0 : Nat).testBit a = true := fun a => by rw [Nat.zero_testBit]; decide
    refine ⟨fun a z => absurd z (z0 a), Or.inl ⟨?_, rfl⟩, fun _ => 0, fun r z => absurd z (z0 r), fun q r z => absurd z (z0 q)⟩
    rcases psW_max (h := h) (t := 0) n with ⟨e, -⟩ | ⟨w, -, -, -, k2, -⟩
    · exact e
    · exact absurd k2 (z0 w)
  | s + 1, t, u, Or.inl z => rch_I HS s t u z
  | s + 1, t, u, Or.inr ⟨⟨v, hv, h0⟩, a, ha, hc, ht, hcon⟩ => by
    obtain ⟨cl, -, p, p1, p2⟩ := rch_I HS s s v h0
    subst ht
    have sub : ∀ b, s.testBit b = true → (s ||| 2 ^ a).testBit b = true := fun b z => tb_or.mpr (Or.inl z)
    have hna : ¬ s.testBit a = true := fun z => absurd (z.symm.trans hc.1) (by decide)
    have cl2 : ∀ b, (s ||| 2 ^ a).testBit b = true → b < n ∧ ∀ d, d < n → hAh h d b → (s ||| 2 ^ a).testBit d = true := by
      intro b hb
      rcases tb_or.mp hb with z | z
      · exact ⟨(cl b z).1, fun d hd e => sub d ((cl b z).2 d hd e)⟩
      · subst z
        exact ⟨ha, fun d hd e => sub d (hc.2 d hd e)⟩
    rcases hcon with ⟨hW, hE, hr, hT⟩ | ⟨hW, hWu⟩
    · have VV := (rch_I HS s s u hr).2.1
      have eps := psW_r (h := h) (s := s) hW n
      refine ⟨cl2, by rw [eps]; exact VV, fun j => if j = a then psW h s n else p j, fun r hr2 hWr => ?_, fun q r hq hr2 hWq hWr hqr => ?_⟩
      · rw [eps]
        dsimp only
        by_cases e : r = a
        · subst e
          rw [if_pos rfl]
          refine ⟨?_, Nat.le_refl _⟩
          rcases VV with ⟨e1, e2⟩ | ⟨w, e1, e2⟩
          · refine Or.inl ⟨e1, by rw [hT, e2], fun w hw ww z => ?_⟩
            rcases psW_max (h := h) (t := s) n with ⟨-, k⟩ | ⟨w2, e3, -⟩
            · exact k w hw ww (hc.2 w hw z)
            · omega
          · rcases psW_max (h := h) (t := s) n with ⟨e3, -⟩ | ⟨w2, e3, hw2, k1, k2, k3⟩
            · omega
            · have : w2 = w := by omega
              subst this
              exact Or.inr ⟨w2, e1, hw2, k1, e2.trans hT.symm, fun z => hna ((cl w2 k2).2 r ha z), fun w' hw' ww' z => k3 w' hw' ww' (hc.2 w' hw' z)⟩
        · rw [if_neg e]
          exact p1 r ((tb_or.mp hr2).resolve_right (fun z => e z)) hWr
      · show (if q = a then psW h s n else p q) ≤ (if r = a then psW h s n else p r)
        by_cases e : r = a
        · rw [if_pos e]
          by_cases e2 : q = a
          · rw [if_pos e2]
            exact Nat.le_refl _
          · rw [if_neg e2]
            exact (p1 q ((tb_or.mp hq).resolve_right (fun z => e2 z)) hWq).2
        · have hrs := (tb_or.mp hr2).resolve_right (fun z => e z)
          rw [if_neg e]
          by_cases e2 : q = a
          · subst e2
            exact absurd ((cl r hrs).2 q ha hqr) hna
          · rw [if_neg e2]
            exact p2 q r ((tb_or.mp hq).resolve_right (fun z => e2 z)) hrs hWq hWr hqr
    · have hl : ∀ w, w < n → ¬ h.W w = -1 → s.testBit w = true → w < a := by
        intro w hw ww ws
        by_cases c : w < a
        · exact c
        · by_cases e : w = a
          · subst e
            exact absurd ws hna
          · exact absurd ((cl w ws).2 a ha (HS w hw a (by omega) hW ww)) hna
      have eps := psW_w ha hW hl
      refine ⟨cl2, Or.inr ⟨a, eps, hWu⟩, p, fun r hr2 hWr => ?_, fun q r hq hr2 hWq hWr hqr => ?_⟩
      · have hrs := (tb_or.mp hr2).resolve_right (fun z => hW (by rw [← z]; exact hWr))
        have := p1 r hrs hWr
        have m := psW_mono (h := h) (n := n) sub
        exact ⟨this.1, by omega⟩
      · exact p2 q r ((tb_or.mp hq).resolve_right (fun z => hW (by rw [← z]; exact hWq))) ((tb_or.mp hr2).resolve_right (fun z => hW (by rw [← z]; exact hWr))) hWq hWr hqr
theorem at_src {h : Hy} {n : Nat} (HS : hSq h n) (A : hAt h n) : ∃ p : Nat → Nat, (∀ r, r < n → h.W r = -1 → ¬ h.E r = -1 → srcP h n r (p r)) ∧
    ∀ q r, q < n → r < n → h.W q = -1 → h.W r = -1 → ¬ h.E q = -1 → ¬ h.E r = -1 → hAh h q r → p q ≤ p r := by
  obtain ⟨s, hs, ⟨v, hv, hr⟩, hall⟩ := A
  obtain ⟨-, -, p, p1, p2⟩ := rch_I HS s s v hr
  exact ⟨p, fun r hrn hW hE => (p1 r (hall r hrn hE) hW).1, fun q r hq hrn hWq hWr hEq hEr z => p2 q r (hall q hq hEq) (hall r hrn hEr) hWq hWr z⟩
theorem lw_max {h : Hy} {n r : Nat} (hn : n ≤ 7) (HI : hI h n) (HS : hSq h n) : ∀ k, k ≤ n → (hLw h r k = -1 ∧ ∀ w, w < k → ¬ h.W w = -1 → ¬ hAh h w r) ∨
    ∃ w, w < k ∧ hLw h r k = nI w ∧ ¬ h.W w = -1 ∧ hAh h w r ∧ ∀ w', w' < k → ¬ h.W w' = -1 → hAh h w' r → w' ≤ w
  | 0, _ => Or.inl ⟨rfl, fun w hw => by omega⟩
  | k + 1, hk => by
    have ih := lw_max (r := r) hn HI HS k (by omega)
    rw [hLw]
    by_cases c : ¬ h.W k = -1 ∧ hAh h k r
    · have c2 : hLw h r k = -1 ∨ h.E (ix (hLw h r k)) < h.E k := by
        rcases ih with ⟨e, -⟩ | ⟨w, hw, e, k1, k2, -⟩
        · exact Or.inl e
        · refine Or.inr ?_
          rw [e, ix_nI (by omega)]
          exact i_tr (HS k (by omega) w hw k1 c.1).2 (HI.2.2.2.2 k (by omega) c.2.1)
      rw [if_pos ⟨c.1, c.2, c2⟩]
      exact Or.inr ⟨k, by omega, rfl, c.1, c.2, fun w' hw' _ _ => by omega⟩
    · rw [if_neg (fun z => c ⟨z.1, z.2.1⟩)]
      rcases ih with ⟨e, k0⟩ | ⟨w, hw, e, k1, k2, k3⟩
      · refine Or.inl ⟨e, fun w hw hh hz => ?_⟩
        by_cases z : w = k
        · subst z
          exact c ⟨hh, hz⟩
        · exact k0 w (by omega) hh hz
      · refine Or.inr ⟨w, by omega, e, k1, k2, fun w' hw' hh hz => ?_⟩
        by_cases z : w' = k
        · subst z
          exact absurd ⟨hh, hz⟩ c
        · exact k3 w' (by omega) hh hz
theorem gd_max {h : Hy} {n r : Nat} : ∀ k, (∃ w, w < k ∧ hTb h w r ∧ hGd h n r k = nI (w + 1) ∧ ∀ w', w' < k → hTb h w' r → w' ≤ w) ∨ ((∀ w, w < k → ¬ hTb h w r) ∧ hGd h n r k = if hTl h n r then hLw h r n + nI 1 else -1)
  | 0 => Or.inr ⟨fun w hw => by omega, rfl⟩
  | k + 1 => by
    rw [hGd]
    by_cases c : hTb h k r
    · rw [if_pos c]
      exact Or.inl ⟨k, by omega, c, nI_add k 1, fun w' hw' _ => by omega⟩
    · rw [if_neg c]
      rcases gd_max (h := h) (n := n) (r := r) k with ⟨w, hw, k1, e, k2⟩ | ⟨k0, e⟩
      · refine Or.inl ⟨w, by omega, k1, e, fun w' hw' hz => ?_⟩
        by_cases z : w' = k
        · subst z
          exact absurd hz c
        · exact k2 w' (by omega) hz
      · refine Or.inr ⟨fun w hw hz => ?_, e⟩
        by_cases z : w = k
        · subst z
          exact c hz
        · exact k0 w (by omega) hz
theorem ld_min {h : Hy} {r w : Nat} : ∀ k j, j ≤ w → w < j + k → hTb h w r → ∃ w0, hLd h r j k = nI (w0 + 1) ∧ w0 ≤ w
  | 0, j, h1, h2, _ => by omega
  | k + 1, j, h1, h2, ht => by
    rw [hLd]
    by_cases c : hTb h j r
    · rw [if_pos c]
      exact ⟨j, nI_add j 1, h1⟩
    · rw [if_neg c]
      refine ld_min k (j + 1) ?_ (by omega) ht
      by_cases e : j = w
      · subst e
        exact absurd ht c
      · omega
/-- a source lies between the least and the greatest -/
theorem src_bt {h : Hy} {n r x : Nat} (HI : hI h n) (HS : hSq h n) (hn : n ≤ 7) (sp : srcP h n r x) : (∃ y, y ≤ 8 ∧ hGs h n r = nI y ∧ x ≤ y) ∧ ∃ z, hLs h n r = nI z ∧ z ≤ x := by
  rcases sp with ⟨e, eT, hno⟩ | ⟨w, e, hw, ww, eT, hb, hmx⟩
  · subst e
    have eL : hLw h r n = -1 := by
      rcases hLw_p (h := h) (r := r) n with z | ⟨m, hm, -, wm, am⟩
      · exact z
      · exact absurd am (hno m hm wm)
    have tl : hTl h n r := by
      show h.T r = hLv h n r
      unfold hLv
      rw [if_pos eL, eT]
    refine ⟨?_, 0, ?_, Nat.le_refl _⟩
    · rcases gd_max (h := h) (n := n) (r := r) n with ⟨w, hw, -, e, -⟩ | ⟨-, e⟩
      · exact ⟨w + 1, by omega, e, by omega⟩
      · rw [if_pos tl, eL] at e
        exact ⟨0, by omega, e, Nat.le_refl _⟩
    · unfold hLs
      rw [if_pos tl, eL]
      rfl
  · subst e
    by_cases a : hAh h w r
    · have eL : hLw h r n = nI w := by
        rcases lw_max (r := r) hn HI HS n (Nat.le_refl _) with ⟨-, k⟩ | ⟨m, hm, e, wm, am, k⟩
        · exact absurd a (k w hw ww)
        · have h1 := k w hw ww a
          have h2 := hmx m hm wm am
          have : m = w := by omega
          rw [e, this]
      have tl : hTl h n r := by
        show h.T r = hLv h n r
        unfold hLv
        rw [if_neg (by rw [eL]; exact nI_nm1 (by omega)), eL, ix_nI (by omega), eT]
      refine ⟨?_, w + 1, ?_, Nat.le_refl _⟩
      · rcases gd_max (h := h) (n := n) (r := r) n with ⟨w2, hw2, t2, e, -⟩ | ⟨-, e⟩
        · have := last_lt HI HS hw2 hw t2 ww a
          exact ⟨w2 + 1, by omega, e, by omega⟩
        · rw [if_pos tl, eL] at e
          exact ⟨w + 1, by omega, e.trans (nI_add w 1), Nat.le_refl _⟩
      · unfold hLs
        rw [if_pos tl, eL]
        exact nI_add w 1
    · have tb : hTb h w r := ⟨⟨ww, a, hb⟩, eT⟩
      refine ⟨?_, ?_⟩
      · rcases gd_max (h := h) (n := n) (r := r) n with ⟨w2, hw2, t2, e, k⟩ | ⟨k, -⟩
        · have := k w hw tb
          exact ⟨w2 + 1, by omega, e, by omega⟩
        · exact absurd tb (k w hw)
      · unfold hLs
        by_cases tl : hTl h n r
        · rw [if_pos tl]
          obtain ⟨y, -, e, p⟩ := src_lw (h := h) (n := n) (r := r)
          refine ⟨y, e, ?_⟩
          rcases p with p | ⟨m, e2, hm, wm, am⟩
          · omega
          · have := last_lt HI HS hw hm tb wm am
            omega
        · rw [if_neg tl]
          obtain ⟨w0, e, hl⟩ := ld_min (h := h) (r := r) n 0 (Nat.zero_le _) (by omega) tb
          exact ⟨w0 + 1, e, by omega⟩
theorem at_reg {h : Hy} {n r : Nat} (HI : hI h n) (HS : hSq h n) (hn : n ≤ 7) (A : hAt h n) (hr : r < n) (hW : h.W r = -1) (hE : ¬ h.E r = -1) : ¬ hGs h n r = -1 := by
  obtain ⟨p, p1, -⟩ := at_src HS A
  obtain ⟨⟨y, hy, e, -⟩, -⟩ := src_bt HI HS hn (p1 r hr hW hE)
  rw [e]
  exact nI_nm1 (by omega)
theorem at_back {h : Hy} {n q r : Nat} (HI : hI h n) (HS : hSq h n) (hn : n ≤ 7) (A : hAt h n) (hr : r < n) (hW : h.W r = -1) (hE : ¬ h.E r = -1) (hq : q < n) (hWq : h.W q = -1) (hEq : ¬ h.E q = -1) (hqr : hAh h q r) : ¬ hGs h n r < hLs h n q := by
  obtain ⟨p, p1, p2⟩ := at_src HS A
  obtain ⟨⟨y, hy, e, hx⟩, -⟩ := src_bt HI HS hn (p1 r hr hW hE)
  obtain ⟨-, z, e2, hz⟩ := src_bt HI HS hn (p1 q hq hWq hEq)
  have hp := p2 q r hq hr hWq hW hEq hE hqr
  rw [e, e2]
  intro c
  have := (nI_ltI (by omega) (by omega)).mp c
  omega
/-- regular is safe -/
theorem reg_safe {h : Hy} {n r : Nat} (g : ¬ hGs h n r = -1) : hSf h n r := by
  rcases gd_max (h := h) (n := n) (r := r) n with ⟨w, hw, t, -, -⟩ | ⟨-, e⟩
  · exact Or.inr ⟨w, hw, t.1⟩
  · by_cases tl : hTl h n r
    · exact Or.inl tl
    · rw [if_neg tl] at e
      exact absurd e g
