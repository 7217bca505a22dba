/-! an access begins: who is told of it, whom it is told of -/
section FF
variable {b po ba r n t u N p j : Nat} {m c : Sx} {cel rd : Int32} {wr : Prop} {yy : Nat → Nat}
def KJ (N : Nat) (wr : Prop) (yy : Nat → Nat) (cel : Int32) (p j : Nat) (m : Sx) (q : Nat) : Prop :=
  ¬ m.P q 0 = -1 → m.P q 2 = nI 1 → ¬ mWt m q → ∃ x : Nat → Nat, (∀ i, i < 5 → ¬ i = q → pend m i (mCel m q) → 1 ≤ x i) ∧ ∃ e : Nat, ix (m.P q 7) + sum5 x + 1 + e ≤ N ∧ (q = p → sum5 (fun i => if j ≤ i then yy i else 0) ≤ e) ∧ (¬ q = p → wr → j ≤ q → mCel m q = cel → 1 ≤ e)
def JJ (b u N : Nat) (wr : Prop) (yy : Nat → Nat) (cel : Int32) (p j : Nat) (c m : Sx) : Prop :=
  (∀ q, q < 5 → RP c m q) ∧ (∀ q, q < 5 → ∃ o, o ≤ 6 ∧ m.P q 7 = nI o ∧ ∀ i, i < o → Ix (bnd b u) (m.P q (8 + i))) ∧ (∀ q, q < 5 → KJ N wr yy cel p j m q)
/-- what does not change in the loop -/
def JS (b u : Nat) (wr : Prop) (yy : Nat → Nat) (cel : Int32) (p : Nat) (m : Sx) : Prop :=
  (∀ q, q < 5 → m.P q 2 = nI 0 ∨ m.P q 2 = nI 1) ∧ (∀ q, q < 5 → m.P q 2 = nI 1 → ¬ m.P q 0 = -1 ∧ ¬ m.P q 5 = nI 0) ∧ m.P p 2 = nI 1 ∧ (mWt m p ↔ wr) ∧ mCel m p = cel ∧
  (∀ q, q < 5 → m.P q 2 = nI 1 → mWt m q → Ix (bnd b u) (mNm m q)) ∧ (∀ q, q < 5 → ¬ q = p → mBg m q → mCel m q = cel → mWt m q → yy q = 1)
theorem JS_note {i : Nat} {x : Int32} (h : JS b u wr yy cel p m) : JS b u wr yy cel p (mNote m i x) := by
  obtain ⟨h1, h2, h3, h4, h5, h6, h7⟩ := h
  refine ⟨fun q hq => ?_, fun q hq z => ?_, ?_, mWt_note.trans h4, mCel_note.trans h5, fun q hq z z2 => ?_, fun q hq z z2 z3 z4 => ?_⟩
  · rw [mNote_P (by omega)]; exact h1 q hq
  · rw [mNote_P (by omega)] at z
    rw [mNote_P (by omega), mNote_P (by omega)]; exact h2 q hq z
  · rw [mNote_P (by omega)]; exact h3
  · rw [mNote_P (by omega)] at z
    rw [mNm_note]; exact h6 q hq z (mWt_note.mp z2)
  · unfold mBg at z2
    rw [mNote_P (by omega), mNote_P (by omega)] at z2
    rw [mCel_note] at z3
    exact h7 q hq z z2 z3 (mWt_note.mp z4)
theorem pend_note {i q : Nat} {x d : Int32} (h : pend (mNote m i x) q d) : pend m q d := pend_c (m := m) (m' := mNote m i x) (fun _ _ => rfl) (fun k hk => mNote_P (by omega)) (by rw [mNote_A]) h
theorem KJ_skip {q : Nat} (h : KJ N wr yy cel p j m q) : KJ N wr yy cel p (j + 1) m q := by
  intro z1 z2 z3
  obtain ⟨x, hx, e, he, h1, h2⟩ := h z1 z2 z3
  refine ⟨x, hx, e, he, fun z => Nat.le_trans (sum5_le (fun i hi => ?_)) (h1 z), fun z a b c => h2 z a (by omega) c⟩
  by_cases c : j + 1 ≤ i
  · rw [if_pos c, if_pos (show j ≤ i by omega)]
    exact Nat.le_refl _
  · rw [if_neg c]
    exact Nat.zero_le _
theorem sum5_tail (hj : j < 5) : sum5 (fun i => if j ≤ i then yy i else 0) = yy j + sum5 (fun i => if j + 1 ≤ i then yy i else 0) := by
  have h := sum5_eq (f := fun i => if j + 1 ≤ i then yy i else 0) (f' := fun i => if j ≤ i then yy i else 0) j hj (fun q hq e => by
    by_cases c : j ≤ q
    · rw [if_pos c, if_pos (by omega)]
    · rw [if_neg c, if_neg (by omega)])
  rw [if_neg (by omega), if_pos (Nat.le_refl _)] at h
  omega
/-- the note of i in the turn of j: its own count goes on -/
theorem KJ_note {i : Nat} {x : Int32} (hi : i < 5) (hj : j < 5) (hu : ¬ m.P i 0 = -1) (hg : m.P i 2 = nI 1) (hw : ¬ mWt m i) (h : ∀ q, q < 5 → KJ N wr yy cel p j m q) (hN : N ≤ 7) (hc : (i = p ∧ yy j = 1) ∨ (¬ i = p ∧ i = j ∧ wr ∧ mCel m i = cel)) (h7 : ∃ o, o ≤ 6 ∧ m.P i 7 = nI o) :
    (∀ q, q < 5 → KJ N wr yy cel p (j + 1) (mNote m i x) q) ∧ ix (m.P i 7) + 1 ≤ 6 := by
  obtain ⟨o, ho, e7⟩ := h7
  have hio : ix (m.P i 7) = o := by rw [e7, ix_nI (by omega)]
  obtain ⟨x0, hx0, e0, he0, h10, h20⟩ := h i hi hu hg hw
  have h1e : 1 ≤ e0 := by
    rcases hc with ⟨z1, z2⟩ | ⟨z1, z2, z3, z4⟩
    · have := h10 z1
      rw [sum5_tail hj] at this
      omega
    · exact h20 z1 z3 (by omega) z4
  refine ⟨fun q hq => ?_, by omega⟩
  by_cases e : q = i
  · subst e
    intro _ _ _
    refine ⟨x0, fun i hi z z2 => hx0 i hi z (by rw [mCel_note] at z2; exact pend_note z2), e0 - 1, ?_, fun z => ?_, fun z z2 z3 => ?_⟩
    · rw [mNote_7, e7, nI_add, ix_nI (by omega)]
      rw [hio] at he0
      omega
    · have := h10 z
      rw [sum5_tail hj] at this
      rcases hc with ⟨-, z2⟩ | ⟨z1, -⟩
      · omega
      · exact absurd z z1
    · rcases hc with ⟨z1, -⟩ | ⟨-, z1, -⟩
      · exact absurd z1 z
      · omega
  · intro z1 z2 z3
    rw [mNote_P (by omega)] at z1 z2
    obtain ⟨y, hy, e1, he1, g1, g2⟩ := KJ_skip (h q hq) z1 z2 (fun z => z3 (mWt_note.mpr z))
    refine ⟨y, fun i hi z z2 => hy i hi z (by rw [mCel_note] at z2; exact pend_note z2), e1, ?_, g1, fun z a b d => g2 z a b (by rw [mCel_note] at d; exact d)⟩
    rw [mNote_Pn e]
    exact he1
theorem note_7 {i : Nat} {x : Int32} (hi : i < 5) (hx : Ix (bnd b u) x) (ho : ix (m.P i 7) + 1 ≤ 6) (h : ∀ q, q < 5 → ∃ o, o ≤ 6 ∧ m.P q 7 = nI o ∧ ∀ i, i < o → Ix (bnd b u) (m.P q (8 + i))) : ∀ q, q < 5 → ∃ o, o ≤ 6 ∧ (mNote m i x).P q 7 = nI o ∧ ∀ k, k < o → Ix (bnd b u) ((mNote m i x).P q (8 + k)) := by
  intro q hq
  by_cases e : q = i
  · subst e
    obtain ⟨o, h1, h2, h3⟩ := h q hq
    rw [h2, ix_nI (by omega)] at ho
    refine ⟨o + 1, by omega, by rw [mNote_7, h2, nI_add], fun k hk => ?_⟩
    rw [mNote_8 h2 (by omega)]
    split
    · exact hx
    · exact h3 k (by omega)
  · obtain ⟨o, h1, h2, h3⟩ := h q hq
    exact ⟨o, h1, by rw [mNote_Pn e]; exact h2, fun k hk => by rw [mNote_Pn e]; exact h3 k hk⟩
theorem nn_iff {P Q : Prop} (h : ¬ P ↔ ¬ Q) : P ↔ Q := by
  by_cases c : P
  · by_cases d : Q
    · exact ⟨fun _ => d, fun _ => c⟩
    · exact absurd c (h.mpr d)
  · by_cases d : Q
    · exact absurd d (h.mp c)
    · exact ⟨fun z => absurd z c, fun z => absurd z d⟩
theorem b2_eq {P Q : Prop} [Decidable P] [Decidable Q] : b2 P = b2 Q ↔ (P ↔ Q) := by
  constructor
  · intro h
    unfold b2 at h
    by_cases c : P
    · by_cases d : Q
      · exact ⟨fun _ => d, fun _ => c⟩
      · rw [if_pos c, if_neg d] at h
        exact absurd h (by decide)
    · by_cases d : Q
      · rw [if_neg c, if_pos d] at h
        exact absurd h (by decide)
      · exact ⟨fun z => absurd z c, fun z => absurd z d⟩
  · exact b2_congr
/-- a turn of the loop -/
theorem J_step {hd : Decidable wr} (hp : p < 5) (hj : j < 5) (hN : N ≤ 7) (hs : JS b u wr yy cel p m) (J : JJ b u N wr yy cel p j c m) : JJ b u N wr yy cel p (j + 1) (bgB p cel (b2 (¬ wr)) c j) (mBgB p cel wr m j) ∧ JS b u wr yy cel p (mBgB p cel wr m j) := by
  obtain ⟨h1, h2, h3, h4, h5, h6, h7⟩ := hs
  obtain ⟨R, O, K⟩ := J
  have skip : JJ b u N wr yy cel p (j + 1) c m := ⟨R, O, fun q hq => KJ_skip (K q hq)⟩
  have same : bgB p cel (b2 (¬ wr)) c j = c → mBgB p cel wr m j = m → JJ b u N wr yy cel p (j + 1) (bgB p cel (b2 (¬ wr)) c j) (mBgB p cel wr m j) ∧ JS b u wr yy cel p (mBgB p cel wr m j) := by
    intro z1 z2
    rw [z1, z2]
    exact ⟨skip, h1, h2, h3, h4, h5, h6, h7⟩
  obtain ⟨⟨a0, a1, a2, a4⟩, rb, rc, rd⟩ := R j hj
  obtain ⟨pu, pz⟩ := h2 p hp h3
  obtain ⟨rcp3, rcp7, rcp8⟩ := ((R p hp).2.2.1.2 pu).2.2 pz
  rcases h1 j hj with g0 | g1
  · refine same (if_pos (Or.inl (by rw [a2, g0]; rfl))) (if_neg (fun z => ?_))
    have := z.2.1.2
    rw [g0] at this
    exact absurd this (by decide)
  · obtain ⟨ju, jz⟩ := h2 j hj g1
    obtain ⟨jc3, jc7, jc8⟩ := (rc.2 ju).2.2 jz
    have nb : ¬ c.P j 2 = 0 := by rw [a2, g1]; decide
    by_cases cc : mCel m j = cel
    · by_cases cw : mWt m j ↔ wr
      · refine same (if_pos (Or.inr (Or.inr (by rw [jc7]; exact b2_congr (not_congr cw))))) ?_
        unfold mBgB
        by_cases ep : ¬ j = p ∧ mBg m j ∧ mCel m j = cel
        · rw [if_pos ep]
          by_cases w : wr
          · rw [if_pos w, if_pos (cw.mpr w)]
          · rw [if_neg w, if_neg (fun z => w (cw.mp z))]
        · rw [if_neg ep]
      · have ep : ¬ j = p := fun z => cw (by rw [z]; exact h4)
        have hcond : ¬ (c.P j 2 = 0 ∨ ¬ c.P j 3 = cel ∨ c.P j 7 = b2 (¬ wr)) := by
          rintro (z | z | z)
          · exact nb z
          · exact z (jc3.trans cc)
          · rw [jc7] at z
            exact cw (nn_iff (b2_eq.mp z))
        have em : mBgB p cel wr m j = if wr then mNote m j (mNm m p) else mNote m p (mNm m j) := by
          unfold mBgB
          rw [if_pos ⟨ep, ⟨ju, g1⟩, cc⟩]
          by_cases w : wr
          · rw [if_pos w, if_pos w, if_neg (fun z => cw ⟨fun _ => w, fun _ => z⟩)]
          · rw [if_neg w, if_neg w]
            have : mWt m j := by
              by_cases z : mWt m j
              · exact z
              · exact absurd ⟨fun z2 => absurd z2 z, fun z2 => absurd z2 w⟩ cw
            rw [if_pos this]
        by_cases w : wr
        · have ec : bgB p cel (b2 (¬ wr)) c j = addN (c.sP j 9 (nI 1)) j (c.P p 8) := by
            unfold bgB
            rw [if_neg hcond, if_neg (fun z => by
              have z2 : b2 (¬ wr) = nI 0 := if_neg (fun z => z w)
              rw [z2] at z
              exact absurd z (by decide))]
          rw [em, if_pos w, ec, rcp8 (h4.mpr w)]
          have nw : ¬ mWt m j := fun z => cw ⟨fun _ => w, fun _ => z⟩
          obtain ⟨o, ho, e7, e8⟩ := O j hj
          obtain ⟨kn, k6⟩ := KJ_note (x := mNm m p) hj hj ju g1 nw K hN (Or.inr ⟨ep, rfl, w, cc⟩) ⟨o, ho, e7⟩
          exact ⟨⟨note_R R hj ju g1 nw e7 ho, note_7 hj (h6 p hp h3 (h4.mpr w)) k6 O, kn⟩, JS_note ⟨h1, h2, h3, h4, h5, h6, h7⟩⟩
        · have wj : mWt m j := by
            by_cases z : mWt m j
            · exact z
            · exact absurd ⟨fun z2 => absurd z2 z, fun z2 => absurd z2 w⟩ cw
          have ec : bgB p cel (b2 (¬ wr)) c j = addN (c.sP p 9 (nI 1)) p (c.P j 8) := by
            unfold bgB
            rw [if_neg hcond, if_pos (show b2 (¬ wr) = nI 1 from if_pos w)]
          rw [em, if_neg w, ec, jc8 wj]
          have nwp : ¬ mWt m p := fun z => w (h4.mp z)
          obtain ⟨o, ho, e7, e8⟩ := O p hp
          obtain ⟨kn, k6⟩ := KJ_note (x := mNm m j) hp hj pu h3 nwp K hN (Or.inl ⟨rfl, h7 j hj ep ⟨ju, g1⟩ cc wj⟩) ⟨o, ho, e7⟩
          exact ⟨⟨note_R R hp pu h3 nwp e7 ho, note_7 hp (h6 j hj g1 wj) k6 O, kn⟩, JS_note ⟨h1, h2, h3, h4, h5, h6, h7⟩⟩
    · refine same (if_pos (Or.inr (Or.inl (by rw [jc3]; exact cc)))) (if_neg (fun z => cc z.2.2))
theorem J_loop {hd : Decidable wr} (hp : p < 5) (hN : N ≤ 7) (hs : JS b u wr yy cel p m) (J : JJ b u N wr yy cel p 0 c m) : ∀ j, j ≤ 5 → JJ b u N wr yy cel p j (itr (bgB p cel (b2 (¬ wr))) j c) (itr (mBgB p cel wr) j m) ∧ JS b u wr yy cel p (itr (mBgB p cel wr) j m)
  | 0, _ => ⟨J, hs⟩
  | j + 1, h => by
    obtain ⟨a, b⟩ := J_loop hp hN hs J j (by omega)
    exact J_step hp (by omega) hN b a
end FF
