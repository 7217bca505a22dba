/-! MORE THAT HOLDS OF EVERY STATE: what acts told is a VALUE; they stand in time; what cells hold ends in a VALUE -/
def Vl (r : Nat) (x : Int32) : Prop := ∃ a, a < 100000 ∧ x = nI a ∧ a % 10 < r
def VP (b r : Nat) (s : Sx) : Prop := (∀ c, Vl r (s.C c)) ∧ (∀ q, ¬ q < wN b → Vl r (s.P q 3)) ∧ ∀ q k, (k = 4 ∨ k = 6 ∨ 8 ≤ k) → Vl r (s.P q k)
def VA (r N : Nat) (s : Sx) : Prop := (∀ a, a < N → s.A a 4 = -1 ∨ (s.A a 1 = -1 ∧ ∃ x, x < r ∧ s.A a 4 = nI x)) ∧ ∀ a, a < N → ∀ a', a' < a → s.A a' 2 < s.A a 2
def VI (b r N : Nat) (s : Sx) : Prop := VA r N s ∧ (¬ b = 2 → VP b r s)
section VV
variable {b po ba r n t N p q k j : Nat} {m s : Sx} {x y v : Int32}
theorem Vl_v {a : Nat} (h : a < r) (h4 : r ≤ 4) : Vl r (nI a) := ⟨a, by omega, rfl, by omega⟩
theorem Vl_mx (h : Vl r x) (h2 : Vl r y) : Vl r (mx x y) := by
  unfold mx
  split
  · exact h2
  · exact h
theorem Vl_md (h : Vl r x) : ∃ a, a < r ∧ md10 x = nI a := by
  obtain ⟨a, ha, e, hr⟩ := h
  exact ⟨a % 10, hr, by rw [e, md10_n (by omega)]⟩
theorem VP_P (V : VP b r s) (h : Vl r v ∨ (k < 3 ∨ k = 5 ∨ k = 7) ∨ (p < wN b ∧ k = 3)) : VP b r (s.sP p k v) := by
  obtain ⟨v1, v2, v3⟩ := V
  refine ⟨v1, fun q hq => ?_, fun q j hj => ?_⟩
  · show Vl r (if q = p ∧ 3 = k then v else s.P q 3)
    by_cases c : q = p ∧ 3 = k
    · rw [if_pos c]
      rcases h with h | h | h
      · exact h
      · omega
      · omega
    · rw [if_neg c]
      exact v2 q hq
  · show Vl r (if q = p ∧ j = k then v else s.P q j)
    by_cases c : q = p ∧ j = k
    · rw [if_pos c]
      rcases h with h | h | h
      · exact h
      · omega
      · omega
    · rw [if_neg c]
      exact v3 q j hj
theorem VP_C {i : Nat} (V : VP b r s) (h : Vl r v) : VP b r (s.sC i v) := by
  obtain ⟨v1, v2, v3⟩ := V
  refine ⟨fun c => ?_, v2, v3⟩
  show Vl r (if c = i then v else s.C c)
  split
  · exact h
  · exact v1 c
theorem VP_A {a : Nat} (V : VP b r s) : VP b r (s.sA a k v) := V
theorem VP_H (V : VP b r s) : VP b r (s.sH k v) := V
theorem VP_end {tt : Int32} (V : VP b r s) : VP b r (mEnd s p tt) :=
  VP_P (VP_P (VP_P (VP_A (VP_A V)) (Or.inr (Or.inl (Or.inl (by omega))))) (Or.inr (Or.inl (Or.inl (by omega))))) (Or.inr (Or.inl (Or.inl (by omega))))
theorem VP_S1 (V : VP b r s) : VP b r (mS1 s p) := VP_P (VP_P V (Or.inr (Or.inl (Or.inl (by omega))))) (Or.inr (Or.inl (Or.inl (by omega))))
theorem VP_RdS (V : VP b r s) (hp : ¬ p < wN b) (hx : Vl r x) : VP b r (mRdS s p y x) := by
  have h3 := V.2.1 p hp
  have h4 := V.2.2 p 4 (Or.inl rfl)
  unfold mRdS
  repeat' split
  all_goals first
    | exact V
    | exact VP_P V (Or.inl hx)
    | exact VP_P V (Or.inl h3)
    | exact VP_P V (Or.inl (Vl_mx h4 hx))
    | exact VP_P (VP_P V (Or.inl (Vl_mx h4 hx))) (Or.inl (Vl_mx h3 (Vl_mx h4 hx)))
theorem VP_note (V : VP b r s) (hx : Vl r x) : VP b r (mNote s p x) := VP_P (VP_P V (Or.inl hx)) (Or.inr (Or.inl (Or.inr (Or.inr rfl))))
/-- what is written ends in a VALUE -/
theorem nm_V (I : Iv b po ba r n t N m) (V : VP b r m) (hb2 : ¬ b = 2) (hq : q < 5) (hu : ¬ m.P q 0 = -1) : Vl r (mNm m q) := by
  have ht := tm_le I.1
  obtain ⟨⟨ok, sh, h6, hN, hC0, hA0, hS, hE, hPI, ⟨-, hev⟩, huw, hK⟩, h5⟩ := I
  obtain ⟨⟨⟨kp, gt, f3, k3, k3b, f4, k4, k4b⟩, f6, o, ho, e7, e8⟩, -, hPU⟩ := hPI q hq
  obtain ⟨hpn, a, ha, e0, ea0, ea3, ea4, v, hv, ev1, ev2, -⟩ := hPU hu
  have hval := val_b e0 (by omega : a < 1000) ev1
  have hbb : bnd b t ≤ 10000 := by
    unfold bnd
    split <;> omega
  have hst := st_b (p := q) ok sh f3 f4 (by omega)
  have hb := ok.1
  have hr4 := ok.2.2.2.2.1
  have hw := wrs_b (m := m) sh.1 hb
  unfold mNm
  rw [hw, sh.1]
  by_cases c1 : q < wN b
  · rw [if_pos c1, hval c1, hst]
    by_cases b2' : b < 2
    · rw [if_pos (nI_lt b2' (by omega))]
      exact Vl_v hv hr4
    · rw [if_neg (nI_nlt (by omega) (by omega)), if_neg (nI_n (by omega) (by omega) hb2), tag_n]
      have p1 : q ≤ 1 := by
        have := wN_le (b := b)
        omega
      by_cases b5 : b < 5
      · rw [if_pos b5]
        have := k3b c1 (by omega)
        exact ⟨_, by omega, rfl, by omega⟩
      · rw [if_neg b5]
        split <;> exact ⟨_, by omega, rfl, by omega⟩
  · rw [if_neg c1]
    exact V.2.1 q c1
theorem dd_V (V : VP b r m) : ∀ x, x ∈ mDd m p → Vl r x := by
  have key : ∀ k x, x ∈ ddl (mNum m p) k → Vl r x := by
    intro k
    induction k with
    | zero => intro x hx; exact absurd hx List.not_mem_nil
    | succ k ih =>
      intro x hx
      rw [ddl] at hx
      split at hx
      · exact ih x hx
      · rcases List.mem_append.mp hx with h | h
        · exact ih x h
        · rw [List.mem_singleton] at h
          rw [h]
          unfold mNum
          split
          · exact V.2.2 p 6 (Or.inr (Or.inl rfl))
          · exact V.2.2 p (7 + k) (Or.inr (Or.inr (by omega)))
  exact key _
/-- what a read gets ends in a VALUE -/
theorem got_V (I : Iv b po ba r n t N m) (V : VP b r m) (hb2 : ¬ b = 2) (hp : p < 5) (hu : ¬ m.P p 0 = -1) (hw : ¬ mWt m p) (hg : m.P p 2 = nI 1 ∨ ba = 2) (hj : j < 2147483648) (hch : nI j < mChs m p) : Vl r (mGot m p (nI j)) := by
  have ok := I.1.1
  have sh := I.1.2.1
  have hPV := (I.1.2.2.2.2.2.2.2.2.1 p hp).1
  obtain ⟨-, -, o, ho, e7, -⟩ := hPV
  have hb := ok.1
  have hr4 := ok.2.2.2.2.1
  have e2 : m.H 2 = nI 2 ↔ ba = 2 := by
    rw [sh.2.2.1]
    exact nI_eq (by have := ok.2.2.1; omega) (by omega)
  unfold mGot
  by_cases c2 : m.H 2 = nI 2
  · rw [if_pos c2]
    exact V.1 _
  · rw [if_neg c2]
    by_cases c7 : m.P p 7 = 0
    · rw [if_pos c7]
      exact V.2.2 p 6 (Or.inr (Or.inl rfl))
    · rw [if_neg c7]
      have hbg : mBg m p := ⟨hu, hg.resolve_right (fun z => c2 (e2.mpr z))⟩
      unfold mChs at hch
      rw [if_neg hu, if_neg (fun z => z.elim (fun z => z hbg) (fun z => z.elim hw c7))] at hch
      by_cases c1 : m.H 2 = nI 1
      · rw [if_pos c1] at hch ⊢
        have hl := (mDd_len (p := p) e7 ho).2
        have e : mReg m p (-1) = nI (mDd m p).length := by
          unfold mReg
          rw [if_pos (by decide)]
        rw [e] at hch
        have hj2 := (nI_ltI hj (by omega)).mp hch
        unfold mReg fnd
        rw [if_neg (nI_pos (by omega)), if_neg (nI_pos (by omega)), ix_nI (by omega), List.getElem?_eq_getElem hj2]
        exact dd_V V _ (List.getElem_mem hj2)
      · rw [if_neg c1] at hch ⊢
        have e0 : ¬ m.H 0 = nI 2 := by
          rw [sh.1]
          exact nI_n (by omega) (by omega) hb2
        rw [if_neg e0, sh.2.2.2.1] at hch
        exact Vl_v ((nI_ltI hj (by omega)).mp hch) hr4
theorem itr_I {α : Type} {f : α → Nat → α} {P : α → Prop} : ∀ (n : Nat) (s : α), P s → (∀ s q, q < n → P s → P (f s q)) → P (itr f n s)
  | 0, s, h, _ => h
  | n + 1, s, h, hf => hf _ n (Nat.lt_succ_self n) (itr_I n s h (fun s q hq hs => hf s q (by omega) hs))
theorem VP_bg (I : Iv b po ba r n t N m) (V : VP b r m) (hb2 : ¬ b = 2) (hp : p < 5) (hu : ¬ m.P p 0 = -1) : VP b r (mBgA m p (wN b + n)) := by
  have hnp := np_le I.1.1
  have hN : ∀ q, q < 5 → ¬ m.P q 0 = -1 → Vl r (mNm m q) := fun q hq z => nm_V I V hb2 hq z
  unfold mBgA
  refine (itr_I (P := fun s => VP b r s ∧ ∀ q, mNm s q = mNm m q ∧ s.P q 0 = m.P q 0) (wN b + n) _ ⟨?_, fun q => ⟨bg0_m, ?_⟩⟩ (fun s q hq hs => ?_)).1
  · exact VP_P (VP_P (VP_P V (Or.inr (Or.inl (Or.inl (by omega))))) (Or.inl (V.1 _))) (Or.inr (Or.inl (Or.inr (Or.inr rfl))))
  · exact bg0_q (by decide) (by decide) (by decide)
  · obtain ⟨hV, hQ⟩ := hs
    have hx : ∀ i x, Vl r x → VP b r (mNote s i x) ∧ ∀ q, mNm (mNote s i x) q = mNm m q ∧ (mNote s i x).P q 0 = m.P q 0 := fun i x z => ⟨VP_note hV z, fun q => ⟨mNm_note.trans (hQ q).1, (mNote_P (by omega)).trans (hQ q).2⟩⟩
    unfold mBgB
    split
    · rename_i c
      have hq5 : q < 5 := by omega
      have huq : ¬ m.P q 0 = -1 := by
        rw [← (hQ q).2]
        exact c.2.1.1
      repeat' split
      · exact ⟨hV, hQ⟩
      · refine hx q _ ?_
        rw [(hQ p).1]
        exact hN p hp hu
      · refine hx p _ ?_
        rw [(hQ q).1]
        exact hN q hq5 huq
      · exact ⟨hV, hQ⟩
    · exact ⟨hV, hQ⟩
end VV
