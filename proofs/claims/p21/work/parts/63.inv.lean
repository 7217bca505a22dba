/-! WHAT HOLDS OF EVERY STATE, in the model's numbers; and how the class' numbers stand to it -/
def wN (b : Nat) : Nat := if b = 5 then 2 else 1
def bnd (b t : Nat) : Nat := if b < 3 then 4 else 100 * (t + 1)
def accN (b po r n q v : Nat) : Nat :=
  if b = 2 then (if q < wN b ∧ po = 0 then v + 1 else r)
  else if b = 4 then (if q < wN b then n else if po = 1 then 1 else 2 * n - 1)
  else if b = 5 then (if q < wN b then (if po = 1 then 1 else 3) else 2)
  else 1
def okSh (b po ba r n : Nat) : Prop := b < 6 ∧ po < 2 ∧ ba < 3 ∧ 2 ≤ r ∧ r ≤ 4 ∧ 1 ≤ n ∧ n ≤ 3 ∧ (b = 1 → r = 2) ∧ (b = 3 → n = 1 ∧ ba = 1) ∧ (b = 4 → ba = 1) ∧ (b = 5 → ba = 2)
def shH (b po ba r n : Nat) (m : Sx) : Prop := m.H 0 = nI b ∧ m.H 1 = nI po ∧ m.H 2 = nI ba ∧ m.H 3 = nI r ∧ m.H 4 = nI n
def sum5 (f : Nat → Nat) : Nat := f 0 + f 1 + f 2 + f 3 + f 4
def evm (ba : Nat) (m : Sx) (q : Nat) : Nat :=
  if m.P q 0 = -1 then 0 else if ix (m.P q 5) = 0 then 1 else if ba = 2 then ix (m.P q 5) - ix (m.P q 1) else 2 * (ix (m.P q 5) - ix (m.P q 1)) - ix (m.P q 2)
def uwm (m : Sx) (q : Nat) : Nat := if m.P q 0 = -1 then 0 else 1
/-- an access of q's act that is still to begin writes cell c -/
def pend (m : Sx) (q : Nat) (c : Int32) : Prop := ¬ m.P q 0 = -1 ∧ ∃ j, ix (m.P q 1) + ix (m.P q 2) ≤ j ∧ j < ix (m.P q 5) ∧ mWt (m.sP q 1 (nI j)) q ∧ mCel (m.sP q 1 (nI j)) q = c
def AI (b r n t : Nat) (m : Sx) (a : Nat) : Prop :=
  ∃ p, p < wN b + n ∧ m.A a 0 = nI p ∧ (p < wN b → ∃ v, v < r ∧ m.A a 1 = nI v) ∧ (¬ p < wN b → m.A a 1 = -1) ∧ ∃ s, s < t ∧ m.A a 2 = nI s ∧
    ((m.A a 3 = -1 ∧ m.A a 4 = -1 ∧ m.P p 0 = nI a) ∨ (∃ e, s < e ∧ e < t ∧ m.A a 3 = nI e ∧ (¬ p < wN b → ∃ x, x < 10 ∧ m.A a 4 = nI x)))
/-- a process' numbers; K: its act goes on (else it may be through) -/
def PU (b po ba r n N : Nat) (K : Prop) (m : Sx) (q : Nat) : Prop :=
  q < wN b + n ∧ ∃ a, a < N ∧ m.P q 0 = nI a ∧ m.A a 0 = nI q ∧ m.A a 3 = -1 ∧ m.A a 4 = -1 ∧ ∃ v, v < r ∧ (q < wN b → m.A a 1 = nI v) ∧ (¬ q < wN b → m.A a 1 = -1) ∧
    ∃ k al g, m.P q 1 = nI k ∧ m.P q 5 = nI al ∧ m.P q 2 = nI g ∧ g < 2 ∧ (ba = 2 → g = 0) ∧
      ((al = 0 ∧ b = 1 ∧ q = 0 ∧ k = 0 ∧ g = 0) ∨ ((K → k < al) ∧ k ≤ al ∧ al = accN b po r n q v ∧ (g = 1 → k < al)))
def PV (b n t : Nat) (m : Sx) (q : Nat) : Prop :=
  (∃ kp gt, m.P q 3 = nI kp ∧ kp < bnd b t ∧ (q < wN b → 3 ≤ b → kp ≤ t) ∧ m.P q 4 = nI gt ∧ gt < bnd b t ∧ (b = 4 → ¬ q < wN b → ¬ m.P q 0 = -1 → n ≤ ix (m.P q 1) → gt ≤ kp)) ∧
  Ix (bnd b t) (m.P q 6) ∧ ∃ o, o ≤ 6 ∧ m.P q 7 = nI o ∧ ∀ i, i < o → Ix (bnd b t) (m.P q (8 + i))
def PI (b po ba r n t N : Nat) (K : Prop) (m : Sx) (q : Nat) : Prop :=
  PV b n t m q ∧ (m.P q 0 = -1 → m.P q 1 = nI 0 ∧ m.P q 2 = nI 0) ∧ (¬ m.P q 0 = -1 → PU b po ba r n N K m q)
def KI (N : Nat) (m : Sx) (p : Nat) : Prop :=
  ¬ m.P p 0 = -1 → m.P p 2 = nI 1 → ¬ mWt m p → ∃ x : Nat → Nat, (∀ q, q < 5 → ¬ q = p → pend m q (mCel m p) → 1 ≤ x q) ∧ ix (m.P p 7) + sum5 x + 1 ≤ N
/-- all but TIME itself; t: the history's time, u: what numbers are measured by; h: the process whose act may be through -/
def Iv0 (b po ba r n t u N h : Nat) (m : Sx) : Prop :=
  okSh b po ba r n ∧ shH b po ba r n m ∧ m.H 6 = nI N ∧ N ≤ 7 ∧ (∀ c, c < 10 → Ix (bnd b u) (m.C c)) ∧
  (∀ a, a < N → AI b r n t m a) ∧ (∀ a', a' < N → ∀ a, a < a' → m.A a 0 = m.A a' 0 → hAh (hyM m) a a') ∧ (∀ a, a < N → ∀ a', a' < N → ¬ m.A a 3 = m.A a' 2) ∧
  (∀ q, q < 5 → PI b po ba r n u N (¬ q = h) m q) ∧ (t ≤ u ∧ u + sum5 (evm ba m) + 11 * (7 - N) ≤ 77) ∧ sum5 (uwm m) ≤ N ∧ (∀ p, p < 5 → KI N m p)
def Iv (b po ba r n t N : Nat) (m : Sx) : Prop := Iv0 b po ba r n t t N 5 m ∧ m.H 5 = nI t
/-- the class' process q against the model's -/
def RA (c m : Sx) (q : Nat) : Prop := c.P q 0 = m.P q 0 ∧ c.P q 1 = m.P q 1 ∧ c.P q 2 = m.P q 2 ∧ c.P q 4 = m.P q 3
def RB (c m : Sx) (q : Nat) : Prop := ¬ m.P q 0 = -1 → (m.H 0 = nI 4 → ¬ q < wrs m → c.P q 6 = mx (m.P q 3) (m.P q 4)) ∧ (m.H 0 = nI 5 → c.P q 6 = m.P q 4)
def RC (c m : Sx) (q : Nat) : Prop := (m.P q 0 = -1 → c.P q 3 = -1) ∧ (¬ m.P q 0 = -1 → c.P q 5 = m.P q 5 ∧ (m.P q 5 = nI 0 → c.P q 3 = -1) ∧ (¬ m.P q 5 = nI 0 → c.P q 3 = mCel m q ∧ c.P q 7 = b2 (¬ mWt m q) ∧ (mWt m q → c.P q 8 = mNm m q)))
def RD (c m : Sx) (q : Nat) : Prop := ¬ m.P q 0 = -1 → m.P q 2 = nI 1 → ¬ mWt m q → c.P q 9 = b2 (¬ m.P q 7 = 0) ∧ c.P q 10 = nI (mDd m q).length ∧ ∀ i x, (mDd m q)[i]? = some x → c.P q (11 + i) = x
def RP (c m : Sx) (q : Nat) : Prop := RA c m q ∧ RB c m q ∧ RC c m q ∧ RD c m q
def RS (c m : Sx) : Prop := (∀ k, k < 7 → c.H k = m.H k) ∧ (∀ i, i < 9 → c.C i = m.C i) ∧ (∀ a, c.A a 0 = m.A a 0 ∧ c.A a 1 = m.A a 1 ∧ c.A a 2 = m.A a 4 ∧ c.A a 3 = m.A a 2 ∧ c.A a 4 = m.A a 3)
def Rl (c m : Sx) : Prop := RS c m ∧ ∀ q, q < 5 → RP c m q
/-! what does not depend on more than it should -/
theorem mWt_c {m m' : Sx} {q : Nat} (hH : ∀ k, k < 5 → m'.H k = m.H k) (h1 : m'.P q 1 = m.P q 1) (h5 : m'.P q 5 = m.P q 5) : mWt m' q ↔ mWt m q := by
  unfold mWt wrs
  rw [hH 0 (by omega), hH 4 (by omega), h1, h5]
theorem valW_c {m m' : Sx} {q : Nat} (h0 : m'.P q 0 = m.P q 0) (hA : m'.A (ix (m.P q 0)) 1 = m.A (ix (m.P q 0)) 1) : valW m' q = valW m q := by
  unfold valW
  rw [h0, hA]
theorem mCel_c {m m' : Sx} {q : Nat} (hH : ∀ k, k < 5 → m'.H k = m.H k) (h0 : m'.P q 0 = m.P q 0) (h1 : m'.P q 1 = m.P q 1) (h5 : m'.P q 5 = m.P q 5) (hA : m'.A (ix (m.P q 0)) 1 = m.A (ix (m.P q 0)) 1) : mCel m' q = mCel m q := by
  unfold mCel mCW mCR mBit
  have e := valW_c h0 hA
  have hw : wrs m' = wrs m := by unfold wrs; rw [hH 0 (by omega)]
  simp only [e, hw, hH 0 (by omega), hH 1 (by omega), hH 3 (by omega), hH 4 (by omega), h1]
  have c := mWt_c hH h1 h5
  by_cases d : mWt m q
  · simp only [if_pos d, if_pos (c.mpr d)]
  · simp only [if_neg d, if_neg (fun z => d (c.mp z))]
theorem mNm_c {m m' : Sx} {q : Nat} (hH : ∀ k, k < 5 → m'.H k = m.H k) (h0 : m'.P q 0 = m.P q 0) (h1 : m'.P q 1 = m.P q 1) (h5 : m'.P q 5 = m.P q 5) (h3 : m'.P q 3 = m.P q 3) (h4 : m'.P q 4 = m.P q 4) (hA : m'.A (ix (m.P q 0)) 1 = m.A (ix (m.P q 0)) 1) : mNm m' q = mNm m q := by
  unfold mNm mSt
  have e := valW_c h0 hA
  have e2 := mCel_c hH h0 h1 h5 hA
  have hw : wrs m' = wrs m := by unfold wrs; rw [hH 0 (by omega)]
  simp only [e, e2, hw, hH 0 (by omega), hH 1 (by omega), h3, h4]
theorem ddl_c {f f' : Nat → Int32} : ∀ k, (∀ i, i < k → f' i = f i) → ddl f' k = ddl f k
  | 0, _ => rfl
  | k + 1, h => by
    rw [ddl, ddl, ddl_c k (fun i hi => h i (by omega)), h k (by omega)]
theorem mDd_c {m m' : Sx} {q : Nat} (h6 : m'.P q 6 = m.P q 6) (h7 : m'.P q 7 = m.P q 7) (h8 : ∀ i, i < ix (m.P q 7) → m'.P q (8 + i) = m.P q (8 + i)) : mDd m' q = mDd m q := by
  unfold mDd
  rw [h7]
  apply ddl_c
  intro i hi
  unfold mNum
  split
  · exact h6
  · have := h8 (i - 1) (by omega)
    rwa [show 8 + (i - 1) = 7 + i by omega] at this
theorem bnd_m {b t t' : Nat} (h : t ≤ t') : bnd b t ≤ bnd b t' := by
  unfold bnd
  split <;> omega
theorem Ix_m {a b : Nat} {x : Int32} (h : a ≤ b) (hx : Ix a x) : Ix b x := by
  obtain ⟨k, hk, e⟩ := hx
  exact ⟨k, by omega, e⟩
theorem sum5_eq {f f' : Nat → Nat} (p : Nat) (hp : p < 5) (h : ∀ q, q < 5 → ¬ q = p → f' q = f q) : sum5 f' + f p = sum5 f + f' p := by
  unfold sum5
  have h0 := h 0 (by omega)
  have h1 := h 1 (by omega)
  have h2 := h 2 (by omega)
  have h3 := h 3 (by omega)
  have h4 := h 4 (by omega)
  match p, hp with
  | 0, _ => have := h1 (by omega); have := h2 (by omega); have := h3 (by omega); have := h4 (by omega); omega
  | 1, _ => have := h0 (by omega); have := h2 (by omega); have := h3 (by omega); have := h4 (by omega); omega
  | 2, _ => have := h0 (by omega); have := h1 (by omega); have := h3 (by omega); have := h4 (by omega); omega
  | 3, _ => have := h0 (by omega); have := h1 (by omega); have := h2 (by omega); have := h4 (by omega); omega
  | 4, _ => have := h0 (by omega); have := h1 (by omega); have := h2 (by omega); have := h3 (by omega); omega
theorem sum5_le {f f' : Nat → Nat} (h : ∀ q, q < 5 → f' q ≤ f q) : sum5 f' ≤ sum5 f := by
  unfold sum5
  have h0 := h 0 (by omega)
  have h1 := h 1 (by omega)
  have h2 := h 2 (by omega)
  have h3 := h 3 (by omega)
  have h4 := h 4 (by omega)
  omega
theorem sum5_at {f : Nat → Nat} (p : Nat) (hp : p < 5) : f p ≤ sum5 f := by
  unfold sum5
  match p, hp with
  | 0, _ => omega
  | 1, _ => omega
  | 2, _ => omega
  | 3, _ => omega
  | 4, _ => omega
/-! out of what holds -/
section II
variable {b po ba r n t u N h : Nat} {m c : Sx}
theorem wrs_b (hs : m.H 0 = nI b) (hb : b < 6) : wrs m = wN b := by
  unfold wrs wN
  rw [hs]
  by_cases e : b = 5
  · subst e; rw [if_pos rfl, if_pos rfl]
  · rw [if_neg (fun z => e ((nI_eq (by omega) (by omega)).mp z)), if_neg e]
theorem prcs_b (hs : shH b po ba r n m) (hb : b < 6) : prcs m = nI (wN b + n) := by
  unfold prcs
  rw [wrs_b hs.1 hb, hs.2.2.2.2, nI_add]
theorem wN_le : wN b ≤ 2 := by
  unfold wN
  split <;> omega
theorem wN_1 : 1 ≤ wN b := by
  unfold wN
  split <;> omega
theorem np_le (ok : okSh b po ba r n) : wN b + n ≤ 5 := by
  have := wN_le (b := b)
  have := ok.2.2.2.2.2.2.1
  omega
theorem hyEq (R : RS c m) : hyC c = hyM m := by
  unfold hyC hyM
  have h1 : (fun a => c.A a 1) = fun a => m.A a 1 := funext fun a => (R.2.2 a).2.1
  have h2 : (fun a => c.A a 2) = fun a => m.A a 4 := funext fun a => (R.2.2 a).2.2.1
  have h3 : (fun a => c.A a 3) = fun a => m.A a 2 := funext fun a => (R.2.2 a).2.2.2.1
  have h4 : (fun a => c.A a 4) = fun a => m.A a 3 := funext fun a => (R.2.2 a).2.2.2.2
  rw [h1, h2, h3, h4]
theorem tm_le (I : Iv0 b po ba r n t u N h m) : t ≤ 77 := by
  obtain ⟨-, -, -, -, -, -, -, -, -, hp, -⟩ := I
  omega
theorem Iv_hI (I : Iv0 b po ba r n t u N h m) : hI (hyM m) N := by
  have ht := tm_le I
  obtain ⟨ok, -, -, hN, -, hA, -, hE, -⟩ := I
  refine ⟨fun a ha => ?_, fun a ha => ?_, fun a ha => ?_, fun a ha a' ha' => hE a ha a' ha', fun a ha hn => ?_⟩
  · obtain ⟨p, hp, h0, h1, h2, s, hs, e2, hx⟩ := hA a ha
    refine ⟨?_, fun hw he => ?_⟩
    · by_cases hw : p < wN b
      · obtain ⟨v, hv, e⟩ := h1 hw
        exact Or.inr ⟨v, by have := ok.2.2.2.2.1; omega, e⟩
      · exact Or.inl (h2 hw)
    · rcases hx with ⟨hx, -⟩ | ⟨e, -, -, he2, hx⟩
      · exact absurd hx he
      · by_cases hw2 : p < wN b
        · obtain ⟨v, hv, e⟩ := h1 hw2
          have hw3 : m.A a 1 = -1 := hw
          rw [e] at hw3
          exact absurd hw3 (nI_nm1 (by have := ok.2.2.2.2.1; omega))
        · exact hx hw2
  · obtain ⟨p, hp, h0, h1, h2, s, hs, e2, hx⟩ := hA a ha
    rcases hx with ⟨hx, -⟩ | ⟨e, he, he3, he2, -⟩
    · exact Or.inl hx
    · exact Or.inr ⟨e, by omega, he2⟩
  · obtain ⟨p, hp, h0, h1, h2, s, hs, e2, hx⟩ := hA a ha
    exact ⟨s, by omega, e2⟩
  · obtain ⟨p, hp, h0, h1, h2, s, hs, e2, hx⟩ := hA a ha
    rcases hx with ⟨hx, -⟩ | ⟨e, he, he3, he2, -⟩
    · exact absurd hx hn
    · show m.A a 2 < m.A a 3
      rw [e2, he2]
      exact nI_lt he (by omega)
theorem Iv_hSq (I : Iv0 b po ba r n t u N h m) (hb : ¬ b = 5) : hSq (hyM m) N := by
  obtain ⟨ok, -, -, hN, -, hA, hS, hE, -⟩ := I
  intro a' ha' a ha hw hw'
  have key : ∀ x, x < N → ¬ m.A x 1 = -1 → m.A x 0 = nI 0 := by
    intro x hx hwx
    obtain ⟨p, hp, h0, h1, h2, -⟩ := hA x hx
    by_cases c : p < wN b
    · have : p = 0 := by
        unfold wN at c
        rw [if_neg hb] at c
        omega
      rw [h0, this]
    · exact absurd (h2 c) hwx
  exact hS a' ha' a ha ((key a (by omega) hw).trans (key a' ha' hw').symm)
end II
