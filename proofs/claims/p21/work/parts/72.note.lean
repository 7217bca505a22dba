/-! a number noted -/
section FF
variable {b po ba r n t u N p i o : Nat} {m c : Sx} {x : Int32}
theorem mNote_7 : (mNote m i x).P i 7 = m.P i 7 + nI 1 := by
  unfold mNote
  rw [sP_eq]
theorem mNote_8 (h : m.P i 7 = nI o) (ho : o < 1000) {j : Nat} : (mNote m i x).P i (8 + j) = if j = o then x else m.P i (8 + j) := by
  unfold mNote
  rw [sP_nk (by omega), h, ix_nI (by omega), sP_P]
  by_cases e : j = o
  · rw [if_pos ⟨rfl, by omega⟩, if_pos e]
  · rw [if_neg (fun z => e (by omega)), if_neg e]
theorem ddl_app {f : Nat → Int32} {k : Nat} : ddl f (k + 1) = if f k ∈ ddl f k then ddl f k else ddl f k ++ [f k] := rfl
theorem mDd_note (h : m.P i 7 = nI o) (ho : o < 1000) : mDd (mNote m i x) i = if x ∈ mDd m i then mDd m i else mDd m i ++ [x] := by
  unfold mDd
  rw [mNote_7, h, nI_add, ix_nI (by omega), ix_nI (by omega), ddl_app]
  have e : ddl (mNum (mNote m i x) i) (o + 1) = ddl (mNum m i) (o + 1) := by
    apply ddl_c
    intro k hk
    unfold mNum
    split
    · exact mNote_P (by omega)
    · have := mNote_8 (x := x) h ho (j := k - 1)
      rw [show 8 + (k - 1) = 7 + k by omega, if_neg (by omega)] at this
      exact this
  have e2 : mNum (mNote m i x) i (o + 1) = x := by
    unfold mNum
    rw [if_neg (by omega)]
    have := mNote_8 (x := x) h ho (j := o)
    rw [show 8 + o = 7 + (o + 1) by omega, if_pos rfl] at this
    exact this
  rw [e, e2]
theorem addN_10 {l : List Int32} (h10 : c.P i 10 = nI l.length) (hl : l.length < 8) (hli : ∀ j y, l[j]? = some y → c.P i (11 + j) = y) :
    (addN c i x).P i 10 = nI (if x ∈ l then l else l ++ [x]).length ∧ (∀ j y, (if x ∈ l then l else l ++ [x])[j]? = some y → (addN c i x).P i (11 + j) = y) := by
  have hmem : (∃ j, j < ix (c.P i 10) ∧ c.P i (11 + j) = x) ↔ x ∈ l := by
    rw [h10, ix_nI (by omega), List.mem_iff_getElem?]
    constructor
    · rintro ⟨j, hj, e⟩
      exact ⟨j, by rw [List.getElem?_eq_getElem hj, ← hli j _ (List.getElem?_eq_getElem hj), e]⟩
    · rintro ⟨j, e⟩
      exact ⟨j, (List.getElem?_eq_some_iff.mp e).1, hli j x e⟩
  unfold addN
  rw [h10, if_neg (fun z => z.elim (nI_pos (by omega)) (nI_ge hl (by omega)))]
  rw [h10] at hmem
  by_cases c1 : x ∈ l
  · rw [if_pos c1, if_pos (hmem.mpr c1)]
    exact ⟨h10, hli⟩
  · rw [if_neg c1, if_neg (fun z => c1 (hmem.mp z)), ix_nI (by omega)]
    refine ⟨by rw [sP_eq, List.length_append, List.length_singleton, nI_add], fun j y hy => ?_⟩
    rw [sP_nk (by omega), sP_P]
    by_cases e : j = l.length
    · subst e
      rw [List.getElem?_append_right (Nat.le_refl _), Nat.sub_self] at hy
      rw [if_pos ⟨rfl, rfl⟩]
      exact Option.some.inj hy
    · rw [if_neg (fun z => e (by omega))]
      have hj : j < l.length := by
        have := (List.getElem?_eq_some_iff.mp hy).1
        rw [List.length_append, List.length_singleton] at this
        omega
      rw [List.getElem?_append_left hj] at hy
      exact hli j y hy
theorem mWt_note {q : Nat} : mWt (mNote m i x) q ↔ mWt m q := mWt_c (fun _ _ => rfl) (mNote_P (by omega)) (mNote_P (by omega))
theorem mCel_note {q : Nat} : mCel (mNote m i x) q = mCel m q := mCel_c (fun _ _ => rfl) (mNote_P (by omega)) (mNote_P (by omega)) (mNote_P (by omega)) (by rw [mNote_A])
theorem mNm_note {q : Nat} : mNm (mNote m i x) q = mNm m q := mNm_c (fun _ _ => rfl) (mNote_P (by omega)) (mNote_P (by omega)) (mNote_P (by omega)) (mNote_P (by omega)) (mNote_P (by omega)) (by rw [mNote_A])
theorem note_R (hR : ∀ q, q < 5 → RP c m q) (hi : i < 5) (hu : ¬ m.P i 0 = -1) (hg : m.P i 2 = nI 1) (hw : ¬ mWt m i) (h7 : m.P i 7 = nI o) (ho : o ≤ 6) : ∀ q, q < 5 → RP (addN (c.sP i 9 (nI 1)) i x) (mNote m i x) q := by
  intro q hq
  have hRq := hR q hq
  by_cases e : q = i
  · subst e
    obtain ⟨⟨a0, a1, a2, a4⟩, rb, rc, rd⟩ := hRq
    obtain ⟨d9, d10, dl⟩ := rd hu hg hw
    have hc : ∀ k, k < 10 → ¬ k = 9 → (addN (c.sP q 9 (nI 1)) q x).P q k = c.P q k := fun k h1 h2 => by rw [addN_P h1, sP_nk h2]
    have hm : ∀ k, k < 7 → (mNote m q x).P q k = m.P q k := fun k h => mNote_P h
    have hlen : (mDd m q).length < 8 := by
      have := ddl_len (f := mNum m q) (ix (m.P q 7) + 1)
      rw [h7, ix_nI (by omega)] at this
      unfold mDd
      rw [h7, ix_nI (by omega)]
      omega
    refine ⟨⟨by rw [hc 0 (by omega) (by omega), hm 0 (by omega)]; exact a0, by rw [hc 1 (by omega) (by omega), hm 1 (by omega)]; exact a1, by rw [hc 2 (by omega) (by omega), hm 2 (by omega)]; exact a2, by rw [hc 4 (by omega) (by omega), hm 3 (by omega)]; exact a4⟩, fun _ => ?_, ⟨fun z => ?_, fun _ => ⟨?_, fun z => ?_, fun z => ⟨?_, ?_, fun z2 => ?_⟩⟩⟩, fun _ _ _ => ⟨?_, ?_⟩⟩
    · rw [hc 6 (by omega) (by omega), hm 3 (by omega), hm 4 (by omega)]
      exact rb hu
    · rw [hm 0 (by omega)] at z; exact absurd z hu
    · rw [hc 5 (by omega) (by omega), hm 5 (by omega)]; exact (rc.2 hu).1
    · rw [hm 5 (by omega)] at z
      rw [hc 3 (by omega) (by omega)]
      exact (rc.2 hu).2.1 z
    · rw [hm 5 (by omega)] at z
      rw [hc 3 (by omega) (by omega), mCel_note]
      exact ((rc.2 hu).2.2 z).1
    · rw [hm 5 (by omega)] at z
      rw [hc 7 (by omega) (by omega), ((rc.2 hu).2.2 z).2.1]
      exact b2_congr (not_congr mWt_note.symm)
    · exact absurd (mWt_note.mp z2) hw
    · rw [addN_P (by omega), sP_eq, mNote_7, h7, nI_add]
      exact (if_pos (nI_ne0 (by omega) (by omega))).symm
    · rw [mDd_note h7 (by omega)]
      exact addN_10 (c := c.sP q 9 (nI 1)) ((sP_nk (by omega)).trans d10) hlen (fun j y hy => (sP_nk (by omega)).trans (dl j y hy))
  · exact RP_c hRq (fun k => by rw [addN_Pn e, sP_na e]) (fun k => mNote_Pn e) (fun _ _ => rfl) (by rw [mNote_A])
end FF
