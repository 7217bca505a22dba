/-! THE MODEL: which read goes back; numbers of acts of writing against numbers of acts -/
def cW (h : Hy) : Nat → Nat
  | 0 => 0
  | k + 1 => if h.W k = -1 then cW h k else cW h k + 1
theorem cW_le {h : Hy} : ∀ k, cW h k ≤ k
  | 0 => Nat.le_refl _
  | k + 1 => by
    have := cW_le (h := h) k
    rw [cW]
    split <;> omega
theorem cW_mono {h : Hy} {a : Nat} : ∀ d, cW h a ≤ cW h (a + d)
  | 0 => Nat.le_refl _
  | d + 1 => by
    have := cW_mono (h := h) (a := a) d
    rw [← Nat.add_assoc, cW]
    split <;> omega
theorem cW_m {h : Hy} {a b : Nat} (hab : a ≤ b) : cW h a ≤ cW h b := by
  have := cW_mono (h := h) (a := a) (b - a)
  rwa [show a + (b - a) = b by omega] at this
theorem cW_s {h : Hy} {a : Nat} (hw : ¬ h.W a = -1) : cW h (a + 1) = cW h a + 1 := by rw [cW, if_neg hw]
def ph (h : Hy) (x : Int32) : Int32 := if x = -1 then -1 else nI (cW h (ix x))
theorem ph_n {h : Hy} {k : Nat} (hk : k < 1000) : ph h (nI k) = nI (cW h k) := by
  unfold ph
  rw [if_neg (Ix_n1 ⟨k, Nat.lt_succ_self _, rfl⟩ (by omega)), ix_nI (by omega)]
theorem ph_m1 {h : Hy} : ph h (-1) = -1 := if_pos rfl
/-- one writer: acts of writing one behind another -/
def hSq (h : Hy) (n : Nat) : Prop := ∀ b, b < n → ∀ a, a < b → ¬ h.W a = -1 → ¬ h.W b = -1 → hAh h a b
theorem hLw_p {h : Hy} {r : Nat} : ∀ n, hLw h r n = -1 ∨ ∃ m, m < n ∧ hLw h r n = nI m ∧ ¬ h.W m = -1 ∧ hAh h m r
  | 0 => Or.inl rfl
  | n + 1 => by
    rw [hLw]
    split
    · rename_i c
      exact Or.inr ⟨n, by omega, rfl, c.1, c.2.1⟩
    · rcases hLw_p (h := h) (r := r) n with e | ⟨m, hm, e⟩
      · exact Or.inl e
      · exact Or.inr ⟨m, by omega, e⟩
theorem last_lt {h : Hy} {n r k m : Nat} (HI : hI h n) (HS : hSq h n) (hk : k < n) (hm : m < n) (ht : hTb h k r) (hw : ¬ h.W m = -1) (ha : hAh h m r) : m < k := by
  by_cases c : m < k
  · exact c
  · exfalso
    by_cases e : m = k
    · subst e
      exact ht.1.2.1 ha
    · have h1 := HS m hm k (by omega) ht.1.1 hw
      have h2 := HI.2.2.2.2 m hm ha.1
      exact ht.1.2.1 ⟨h1.1, i_tr h1.2 (i_tr h2 ha.2)⟩
/-- a source: none, the beginning, or behind an act of writing; below k, if acts from k on may be told -/
theorem src_lw {h : Hy} {n r : Nat} : ∃ x, x ≤ n ∧ hLw h r n + nI 1 = nI x ∧ (x = 0 ∨ ∃ m, x = m + 1 ∧ m < n ∧ ¬ h.W m = -1 ∧ hAh h m r) := by
  rcases hLw_p (h := h) (r := r) n with e | ⟨m, hm, e, hw, ha⟩
  · exact ⟨0, by omega, by rw [e]; decide, Or.inl rfl⟩
  · exact ⟨m + 1, by omega, by rw [e, nI_add], Or.inr ⟨m, rfl, hm, hw, ha⟩⟩
theorem src_gd {h : Hy} {n r : Nat} : ∀ k, k ≤ n → hGd h n r k = -1 ∨ ∃ x, x ≤ n ∧ hGd h n r k = nI x ∧ (x = 0 ∨ ∃ m, x = m + 1 ∧ m < n ∧ ¬ h.W m = -1 ∧ (m < k ∨ hAh h m r))
  | 0, hk => by
    rw [hGd]
    split
    · obtain ⟨x, hx, e, p⟩ := src_lw (h := h) (n := n) (r := r)
      exact Or.inr ⟨x, hx, e, p.imp id (fun ⟨m, a, b, c, d⟩ => ⟨m, a, b, c, Or.inr d⟩)⟩
    · exact Or.inl rfl
  | k + 1, hk => by
    rw [hGd]
    split
    · rename_i c
      exact Or.inr ⟨k + 1, hk, nI_add k 1, Or.inr ⟨k, rfl, by omega, c.1.1, Or.inl (by omega)⟩⟩
    · rcases src_gd (h := h) (n := n) (r := r) k (by omega) with e | ⟨x, hx, e, p⟩
      · exact Or.inl e
      · exact Or.inr ⟨x, hx, e, p.imp id (fun ⟨m, a, b, c, d⟩ => ⟨m, a, b, c, d.imp (fun z => by omega) id⟩)⟩
theorem nI_nm1 {k : Nat} (h : k < 2147483648) : ¬ nI k = -1 := Ix_n1 ⟨k, Nat.lt_succ_self _, rfl⟩ (by omega)
theorem hLd_s {h : Hy} {r : Nat} : ∀ k i, i + k < 1000 → hLd h r i (k + 1) = if hLd h r i k = -1 then (if hTb h (i + k) r then nI (i + k) + nI 1 else -1) else hLd h r i k
  | 0, i, hb => by
    rw [hLd, hLd, if_pos rfl]
    rfl
  | k + 1, i, hb => by
    have ih := hLd_s (h := h) (r := r) k (i + 1) (by omega)
    rw [hLd]
    by_cases c : hTb h i r
    · rw [if_pos c, hLd, if_pos c, nI_add, if_neg (nI_nm1 (by omega))]
    · rw [if_neg c, ih, hLd, if_neg c, show i + 1 + k = i + (k + 1) by omega]
theorem src_ld {h : Hy} {n r : Nat} (hn : n ≤ 7) : ∀ k, k ≤ n → hLd h r 0 k = -1 ∨ ∃ m, m < k ∧ hLd h r 0 k = nI (m + 1) ∧ ¬ h.W m = -1
  | 0, _ => Or.inl rfl
  | k + 1, hk => by
    rw [hLd_s k 0 (by omega), Nat.zero_add]
    split
    · split
      · rename_i c
        exact Or.inr ⟨k, by omega, nI_add k 1, c.1.1⟩
      · exact Or.inl rfl
    · rcases src_ld (h := h) (r := r) hn k (by omega) with e | ⟨m, hm, e⟩
      · exact Or.inl e
      · exact Or.inr ⟨m, by omega, e⟩
def srcL (h : Hy) (n r j : Nat) : Int32 := if hTl h n r then hLw h r n + nI 1 else hLd h r 0 j
theorem src_ls {h : Hy} {n r j : Nat} (hn : n ≤ 7) (hj : j ≤ n) : srcL h n r j = -1 ∨ ∃ x, x ≤ n ∧ srcL h n r j = nI x ∧ (x = 0 ∨ ∃ m, x = m + 1 ∧ m < n ∧ ¬ h.W m = -1 ∧ (m < j ∨ hAh h m r)) := by
  unfold srcL
  split
  · obtain ⟨x, hx, e, p⟩ := src_lw (h := h) (n := n) (r := r)
    exact Or.inr ⟨x, hx, e, p.imp id (fun ⟨m, a, b, c, d⟩ => ⟨m, a, b, c, Or.inr d⟩)⟩
  · rcases src_ld (h := h) (r := r) hn j hj with e | ⟨m, hm, e, w⟩
    · exact Or.inl e
    · exact Or.inr ⟨m + 1, by omega, e, Or.inr ⟨m, rfl, by omega, w, Or.inl hm⟩⟩
theorem nI_lt_iff {a b : Nat} (ha : a < 1000) (hb : b < 1000) : (nI a < nI b) = (a < b) := propext (nI_ltI (by omega) (by omega))
/-- what the model finds of the next act: the greatest, and the least -/
theorem ph_gd {h : Hy} {n r j : Nat} (HI : hI h n) (HS : hSq h n) (hn : n ≤ 7) (hj : j < n) (ht : hTb h j r) : (ph h (hGd h n r j) < 0 ∨ ph h (hGd h n r j) < nI (cW h (j + 1))) ∧ ph h (hGd h n r (j + 1)) = nI (cW h (j + 1)) := by
  constructor
  · rcases src_gd (h := h) (r := r) j (by omega : j ≤ n) with e | ⟨x, hx, e, p⟩
    · rw [e, ph_m1]
      exact Or.inl (by decide)
    · rw [e, ph_n (by omega)]
      refine Or.inr ?_
      have hc := cW_le (h := h) (j + 1)
      have hxj : x ≤ j := by
        rcases p with p | ⟨m, rfl, hm, hw, p⟩
        · omega
        · rcases p with p | p
          · omega
          · have := last_lt HI HS hj hm ht hw p
            omega
      have h1 := cW_m (h := h) hxj
      have h2 := cW_s (h := h) ht.1.1
      exact nI_lt (by omega) (by omega)
  · rw [hGd, if_pos ht, nI_add, ph_n (by omega)]
theorem ph_ls {h : Hy} {n r j : Nat} (HI : hI h n) (HS : hSq h n) (hn : n ≤ 7) (hj : j < n) (ht : hTb h j r) : (¬ ph h (srcL h n r j) < 0 → ph h (srcL h n r j) ≤ nI (cW h (j + 1)) ∧ srcL h n r (j + 1) = srcL h n r j) ∧ (ph h (srcL h n r j) < 0 → ph h (srcL h n r (j + 1)) = nI (cW h (j + 1))) := by
  have hs := hLd_s (h := h) (r := r) j 0 (by omega)
  rw [Nat.zero_add] at hs
  rcases src_ls (h := h) (r := r) hn (by omega : j ≤ n) with e | ⟨x, hx, e, p⟩
  · constructor
    · intro z
      rw [e, ph_m1] at z
      exact absurd (by decide) z
    · intro _
      have hl : ¬ hTl h n r := by
        intro z
        have e2 := e
        unfold srcL at e2
        rw [if_pos z] at e2
        obtain ⟨y, hy, e3, -⟩ := src_lw (h := h) (n := n) (r := r)
        rw [e3] at e2
        exact nI_nm1 (by omega) e2
      unfold srcL at e ⊢
      rw [if_neg hl] at e ⊢
      rw [hs, if_pos e, if_pos ht, nI_add, ph_n (by omega)]
  · have hc := cW_le (h := h) x
    rw [e, ph_n (by omega)]
    constructor
    · intro _
      constructor
      · have hxj : x ≤ j := by
          rcases p with p | ⟨m, rfl, hm, hw, p⟩
          · omega
          · rcases p with p | p
            · omega
            · have := last_lt HI HS hj hm ht hw p
              omega
        have h1 := cW_m (h := h) (show x ≤ j + 1 by omega)
        have h2 := cW_le (h := h) (j + 1)
        exact nI_le (by omega) (by omega)
      · rw [← e]
        unfold srcL at e ⊢
        by_cases hl : hTl h n r
        · rw [if_pos hl, if_pos hl]
        · rw [if_neg hl] at e
          rw [if_neg hl, if_neg hl, hs, if_neg (fun z => by rw [z] at e; exact nI_nm1 (by omega) e.symm)]
    · intro z
      exact absurd z (nI_pos (by omega))
theorem ph_keepG {h : Hy} {n r j : Nat} (ht : ¬ hTb h j r) : hGd h n r (j + 1) = hGd h n r j := by rw [hGd, if_neg ht]
theorem ph_keepL {h : Hy} {n r j : Nat} (hj : j < 7) (ht : ¬ hTb h j r) : srcL h n r (j + 1) = srcL h n r j := by
  unfold srcL
  rw [hLd_s j 0 (by omega), Nat.zero_add, if_neg ht]
  split
  · rfl
  · split
    · rename_i c; exact c.symm
    · rfl
theorem hLs_src {h : Hy} {n r : Nat} : hLs h n r = srcL h n r n := rfl
/-- numbers of acts of writing stand to each other as the acts' own -/
theorem ph_cmp {h : Hy} {n r q : Nat} (hn : n ≤ 7) (hr : ¬ hGs h n r = -1) : (¬ hGs h n q = -1 ∧ ph h (hGs h n r) < ph h (hLs h n q)) ↔ hGs h n r < hLs h n q := by
  have hiff : hLs h n q = -1 ↔ hGs h n q = -1 := by
    rw [hGd_m1 (by omega) n (by omega)]
    unfold hLs
    by_cases hl : hTl h n q
    · rw [if_pos hl]
      constructor
      · intro z
        obtain ⟨y, hy, e3, -⟩ := src_lw (h := h) (n := n) (r := q)
        rw [e3] at z
        exact absurd z (nI_nm1 (by omega))
      · intro z; exact absurd (Or.inl hl) z
    · rw [if_neg hl]
      have key : ∀ k, k ≤ n → (hLd h q 0 k = -1 ↔ ¬ ∃ w, w < k ∧ hTb h w q) := by
        intro k
        induction k with
        | zero => intro _; exact ⟨fun _ ⟨w, hw, _⟩ => by omega, fun _ => rfl⟩
        | succ k ih =>
          intro hk
          have ih := ih (by omega)
          rw [hLd_s k 0 (by omega), Nat.zero_add, ex_succ]
          by_cases c : hLd h q 0 k = -1
          · rw [if_pos c]
            by_cases t : hTb h k q
            · rw [if_pos t, nI_add]
              exact ⟨fun z => absurd z (nI_nm1 (by omega)), fun z => absurd (Or.inr t) z⟩
            · rw [if_neg t]
              exact ⟨fun _ z => z.elim (ih.mp c) t, fun _ => rfl⟩
          · rw [if_neg c]
            exact ⟨fun z => absurd z c, fun z => absurd (ih.mpr (fun z2 => z (Or.inl z2))) c⟩
      rw [key n (Nat.le_refl _)]
      constructor
      · rintro z (z2 | z2)
        · exact hl z2
        · exact z z2
      · intro z z2; exact z (Or.inr z2)
  obtain ⟨x, hx, ex, px⟩ := (src_gd (h := h) (r := r) n (Nat.le_refl n)).resolve_left hr
  have hx2 : hGs h n r = nI x := ex
  rcases src_ls (h := h) (r := q) hn (Nat.le_refl n) with e | ⟨y, hy, ey, py⟩
  · rw [← hLs_src] at e
    constructor
    · rintro ⟨z, -⟩
      exact absurd (hiff.mp e) z
    · intro z
      rw [e, hx2] at z
      exact absurd (i_tr z (by decide)) (nI_pos (n := x) (by omega))
  · rw [← hLs_src] at ey
    have c1 := cW_le (h := h) x
    have c2 := cW_le (h := h) y
    rw [hx2, ey, ph_n (by omega), ph_n (by omega), nI_lt_iff (by omega) (by omega), nI_lt_iff (by omega) (by omega)]
    have hq : ¬ hGs h n q = -1 := fun z => by
      rw [hiff.mpr z] at ey
      exact nI_nm1 (by omega) ey.symm
    constructor
    · rintro ⟨-, z⟩
      by_cases c : x < y
      · exact c
      · have := cW_m (h := h) (show y ≤ x by omega)
        omega
    · intro z
      refine ⟨hq, ?_⟩
      rcases py with py | ⟨m, rfl, hm, hw, -⟩
      · omega
      · have h1 := cW_m (h := h) (show x ≤ m by omega)
        have h2 := cW_s (h := h) hw
        omega
