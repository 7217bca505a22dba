/-! THE SMALL MACHINE IS SOUND: static calls, constructors, the rest; whole methods -/
section SNM
variable {X : Cx} {E : Nat → List Value → Hp → Option Rs} {m pc pc' : Nat} {ls st ls' st' : List Value} {h h' : Hp}
theorem Gx.m200 (G : Gx X m) : m < 200 := by
  obtain ⟨p, l, e, R, s, mi, args, below, meth, c, Q, b, base, L, xs, D, cI, cII⟩ := X
  obtain ⟨hx1, hb, hml, hown, hts, hK, g1, g2, g3, g4, g5, g6, g7, g8, hm, -⟩ := G
  exact hm
theorem s_copy {n dp sp : Int32} {a0 a1 i : Nat} {st0 : List Value} (G : Gx X m) (hd : decode (mB m) pc = .ok (.invokestatic i, 3)) (hl : Cond.methodLink (mN m).cls i arraycopyName ∈ wsAll)
    (hc : (st0.map fun v => v.category).sum ≤ 8 ∧ a0 ≠ 0 ∧ a0 ≤ h.1 ∧ a1 ≠ 0 ∧ a1 ≤ h.1 ∧ (hS h a0).1 = 0 ∧ (hS h a1).1 = 0 ∧ ¬ sp < 0 ∧ ¬ dp < 0 ∧ ¬ n < 0 ∧ sp.toNatClampNeg + n.toNatClampNeg ≤ (hS h a0).2.1 ∧ dp.toNatClampNeg + n.toNatClampNeg ≤ (hS h a1).2.1)
    (k : Rn X m (pc + 3) ls st0 (setG h a1 (va_cpy (hG h a0) (hG h a1) sp.toNatClampNeg dp.toNatClampNeg n.toNatClampNeg))) : Rn X m pc ls (.int n :: .int dp :: .ref a1 :: .int sp :: .ref a0 :: st0) h := by
  obtain ⟨p, l, e, R, s, mi, args, below, meth, c, Q, b, base, L, xs, D, cI, cII⟩ := X
  obtain ⟨hx1, hb, hml, hown, hts, hK, g1, g2, g3, g4, g5, g6, g7, g8, hm, -⟩ := G
  obtain ⟨c1, c2, c3, c4, c5, c6, c7, h1, h2, h3, h4, h5⟩ := hc
  obtain ⟨x0, rfl⟩ := Nat.exists_eq_add_one_of_ne_zero c2
  obtain ⟨x1, rfl⟩ := Nat.exists_eq_add_one_of_ne_zero c4
  have hl0 : x0 < h.1 := c3
  have hl1 : x1 < h.1 := c5
  intro H locs cells slots A w1 w2 w3 w4 w5
  have hg0 := wd_get (b := b) (base := base) (cI := cI) (cII := cII) hl0
  rw [cE_arr c6] at hg0
  have hg1 := wd_get (b := b) (base := base) (cI := cI) (cII := cII) hl1
  rw [cE_arr c7] at hg1
  have e0 : cv b base (.ref (x0 + 1)) = .ref (base + x0) := by show Value.ref (ad b base (x0 + 1)) = _; rw [ad_succ]
  have e1 : cv b base (.ref (x1 + 1)) = .ref (base + x1) := by show Value.ref (ad b base (x1 + 1)) = _; rw [ad_succ]
  rw [List.map_cons, List.map_cons, List.map_cons, List.map_cons, List.map_cons, e0, e1]
  show W p l e R s mi args below meth c H locs cells slots Q (F0 mi pc A (.int n :: .int dp :: .ref (base + x1) :: .int sp :: .ref (base + x0) :: st0.map (cv b base)))
  generalize hf : hG h (x0 + 1) = f at hg0 k
  generalize hg : hG h (x1 + 1) = g at hg1 k
  generalize hn0 : (hS h (x0 + 1)).2.1 = n0 at hg0 h4
  generalize hn1 : (hS h (x1 + 1)).2.1 = n1 at hg1 h5
  have nn : ∀ z : Int32, ¬ z < 0 → z.toInt = (z.toNatClampNeg : Int) := by
    intro z hz
    have hz0 : (0 : Int) ≤ z.toInt := by
      have := Int32.not_lt.mp hz
      simpa using Int32.le_iff_toInt_le.mp this
    show z.toInt = ((z.toInt.toNat : Nat) : Int)
    omega
  have hht := m_ht m hm
  intro T hT X
  have hc0 : H[base + x0]? = some (vp_cell cI (n0, .inl f)) := w1.2.1 x0 _ hg0
  have hc1 : H[base + x1]? = some (vp_cell cI (n1, .inl g)) := w1.2.1 x1 _ hg1
  obtain ⟨-, k0, hk0, cm0, hkk0⟩ := (hK.2 0 _ rfl).1 n0 (fun j => .int (f j))
  obtain ⟨-, k1, hk1, cm1, hkk1⟩ := (hK.2 0 _ rfl).1 n1 (fun j => .int (g j))
  obtain ⟨vm', X', step⟩ := X.arraycopy hx1 hown (hts _ hl) (hts _ sp_acn) (hts _ sp_acs) (hts _ sp_aci) (src := base + x0) (dst := base + x1) (cs := vp_cell cI (n0, .inl f)) (cd := vp_cell cI (n1, .inl g)) (srcPos := sp) (destPos := dp) (n := n) (by rw [hT]; exact hc0) (by rw [hT]; exact hc1)
    (fun _ h => by cases h) (fun _ h => by cases h) (fun h => by cases h) (fun h => by cases h) hk0 hk1 hkk0 hkk1 (by simp [refKind]) h1 h2 h3
    (by rw [nn sp h1, nn n h3]; show ¬ _ > ((arrV cI n0 (fun j => .int (f j))).slots.size : Int); rw [arrV_size]; omega)
    (by rw [nn dp h2, nn n h3]; show ¬ _ > ((arrV cI n1 (fun j => .int (g j))).slots.size : Int); rw [arrV_size]; omega)
    (fun vm₁ _ i hi => by
      have e : (vp_cell cI (n0, .inl f)).slots.getD (sp.toNatClampNeg + i) .null = .int (f (sp.toNatClampNeg + i)) := by
        show (arrV cI n0 (fun j => .int (f j))).slots.getD _ _ = _
        rw [Array.getD_eq_getD_getElem?, arrV_read _ _ (by omega)]
        rfl
      refine ⟨?_, ?_⟩
      · rw [e]
        rfl
      · rw [e]
        exact trivial)
    (g := F0 mi pc A (.int n :: .int dp :: .ref (base + x1) :: .int sp :: .ref (base + x0) :: st0.map (cv b base))) rfl (by rw [hml]; exact w5.1) (rest := st0.map (cv b base)) rfl (by rw [hb]; exact hd) (by omega) (by
      rw [cv_cats]
      show 2 * 0 + _ + (nativeFrameWords "java/lang/System" "arraycopy" 5 + 11) ≤ _
      have h9 : nativeFrameWords "java/lang/System" "arraycopy" 5 = 7 := by decide +kernel
      rw [h9]
      omega)
  have e1 : copied (vp_cell cI (n0, .inl f)) (vp_cell cI (n1, .inl g)) sp dp n = vp_cell cI (n1, .inl (va_cpy f g sp.toNatClampNeg dp.toNatClampNeg n.toNatClampNeg)) := va_copied (fun z => .int z) cI cI f g h4
  rw [e1] at X' step
  have hlt : base + x1 < H.size := (Array.getElem?_eq_some_iff.mp hc1).1
  have hheap : ((T.setVm vm').setCell (base + x1) (vp_cell cI (n1, .inl (va_cpy f g sp.toNatClampNeg dp.toNatClampNeg n.toNatClampNeg)))).heap = H.setIfInBounds (base + x1) (vp_cell cI (n1, .inl (va_cpy f g sp.toNatClampNeg dp.toNatClampNeg n.toNatClampNeg))) := by rw [← hT]; rfl
  have oq : ∀ q : Nat, q ≠ base + x1 → (H.setIfInBounds (base + x1) (vp_cell cI (n1, .inl (va_cpy f g sp.toNatClampNeg dp.toNatClampNeg n.toNatClampNeg))))[q]? = H[q]? := fun q hq => by simp [Array.getElem?_setIfInBounds, Ne.symm hq]
  have hW : Wl b base L xs D cI cII (setG h (x1 + 1) (va_cpy f g sp.toNatClampNeg dp.toNatClampNeg n.toNatClampNeg)) (H.setIfInBounds (base + x1) (vp_cell cI (n1, .inl (va_cpy f g sp.toNatClampNeg dp.toNatClampNeg n.toNatClampNeg)))) := by
    refine Wl_setG w1 hl1 (by simp) ?_
    rw [cE_arr c7, hn1]
    exact w1.2.1.set (wd_D h) hg1 (show (H.setIfInBounds (base + x1) _)[base + x1]? = some _ by simp [Array.getElem?_setIfInBounds, hlt]) oq
  obtain ⟨t, a1, b1⟩ := k _ _ cells slots A hW ⟨by simp; exact w2.1, fun q g1 g2 => by
      rw [oq q (fun e => g2 (by rw [e]; exact (wd_D h).2 x1 _ hg1))]
      exact w2.2.1 q g1 g2, fun q hq => by
      rcases List.mem_append.mp hq with h | h
      · exact w2.2.2 q h
      · obtain ⟨z, -, hz⟩ := List.mem_map.mp h
        rw [← hz]
        exact (wd_D _).2 x1 _ hg1⟩ w3 w4 w5 _ hheap X'
  exact ⟨t, step t a1, b1⟩
theorem s_sta {i : Nat} (G : Gx X m) (IH : Cs X E m) (hd : decode (mB m) pc = .ok (.invokestatic i, 3)) (hh : hSta E m i pc ls st h = some (.inr (pc', ls', st', h'))) (k : Rn X m pc' ls' st' h') : Rn X m pc ls st h := by
  have hm := G.m200
  unfold hSta at hh
  split at hh
  · rename_i y hy
    split at hh
    · rename_i hc
      obtain ⟨hkd, hlen⟩ := hc
      obtain ⟨f1, f2⟩ := mlk_ok hm hy
      refine s_call G IH f2 hh k ?_
      obtain ⟨p, l, e, R, s, mi, args, below, meth, c, Q, b, base, L, xs, D, cI, cII⟩ := X
      intro H locs cells slots A r h1 i1 i2 w1 w2 w5 hf hcat
      have cb := call_b G f2 f1 i1
      have pr := pre_ok (As := (st.take (mP y)).reverse) (y := y) G w1 w2
      obtain ⟨hx1, hb, hml, hown, hts, hK, g1, g2, g3, g4, g5, g6, g7, g8, hm, -⟩ := G
      unfold CT at i2
      refine va_runS (nL := mL m) (n := mP y) (As := (st.take (mP y)).reverse.map (cv b base)) ⟨hx1, hb, hml, hown, hts⟩ i2 ⟨cb, hts _ (stc_in y f2 hkd)⟩ pr rfl ?_ w5.1 take_rev2 ?_ hd hf
      · rw [List.length_map, List.length_reverse]
        exact hlen
      · exact lv_room hcat
    · cases hh
  · rename_i h1 h2
    split at hh
    · split at hh
      · rename_i hc
        cases hh
        obtain ⟨p, l, e, R, s, mi, args, below, meth, c, Q, b, base, L, xs, D, cI, cII⟩ := X
        obtain ⟨hx1, hb, hml, hown, hts, hK, g1, g2, g3, g4, g5, g6, g7, g8, hm, -⟩ := G
        have hht := m_ht m hm
        intro H locs cells slots A w1 w2 w3 w4 w5
        exact va_mmax (meth := meth) hx1 hb (hml.trans w5.1.symm) hown (hts _ (spk_ok hm h2)) (hts _ sp_maxs) (hts _ sp_mi) (hts _ sp_maxc) (by omega) (by rw [cv_cats]; omega) (by omega) (by omega) hd (k H locs cells slots A w1 w2 w3 w4 w5)
      · cases hh
    · cases hh
  · rename_i h1 h2
    split at hh
    · split at hh
      · rename_i hc
        cases hh
        obtain ⟨p, l, e, R, s, mi, args, below, meth, c, Q, b, base, L, xs, D, cI, cII⟩ := X
        obtain ⟨hx1, hb, hml, hown, hts, hK, g1, g2, g3, g4, g5, g6, g7, g8, hm, -⟩ := G
        have hht := m_ht m hm
        intro H locs cells slots A w1 w2 w3 w4 w5
        exact va_mmin (meth := meth) hx1 hb (hml.trans w5.1.symm) hown (hts _ (spk_ok hm h2)) (hts _ sp_mins) (hts _ sp_mi) (hts _ sp_minc) (by omega) (by rw [cv_cats]; omega) (by omega) (by omega) hd (k H locs cells slots A w1 w2 w3 w4 w5)
      · cases hh
    · cases hh
  · rename_i h1 h2
    split at hh
    · split at hh
      · rename_i hc
        cases hh
        exact s_copy G hd (spk_ok hm h2) hc k
      · cases hh
    · cases hh
  · cases hh
theorem s_spe {i : Nat} (G : Gx X m) (IH : Cs X E m) (hd : decode (mB m) pc = .ok (.invokespecial i, 3)) (hh : hSpe E m i pc ls st h = some (.inr (pc', ls', st', h'))) (k : Rn X m pc' ls' st' h') : Rn X m pc ls st h := by
  have hm := G.m200
  unfold hSpe at hh
  split at hh
  · rename_i y hy
    split at hh
    · rename_i hkd
      split at hh
      · rename_i a rest hdr
        split at hh
        · rename_i hlen
          obtain ⟨f1, f2⟩ := mlk_ok hm hy
          refine s_call G IH f2 hh k ?_
          obtain ⟨p, l, e, R, s, mi, args, below, meth, c, Q, b, base, L, xs, D, cI, cII⟩ := X
          intro H locs cells slots A r h1 i1 i2 w1 w2 w5 hf hcat
          have cb := call_b G f2 f1 i1
          have pr := pre_ok (As := .ref a :: (st.take (mP y)).reverse) (y := y) G w1 w2
          obtain ⟨hx1, hb, hml, hown, hts, hK, g1, g2, g3, g4, g5, g6, g7, g8, hm, -⟩ := G
          have e0 : cv b base (.ref a) = .ref (ad b base a) := rfl
          unfold CT at i2
          rw [List.map_cons, e0] at pr i2
          have hrn := m_retI y (by omega) hkd
          rw [hrn] at cb
          refine va_runI (nL := mL m) (n := mP y) (As := (st.take (mP y)).reverse.map (cv b base)) (b := ad b base a) ⟨hx1, hb, hml, hown, hts⟩ i2 ⟨cb, m_init y (by omega) hkd, hts _ (ins_in y f2 (by rw [hkd]; decide))⟩ pr rfl ?_ w5.1 ?_ ?_ hd hf
          · rw [List.length_map, List.length_reverse]
            exact hlen
          · show st.map (cv b base) = _
            rw [take_rev (As := []) hdr, e0]
          · exact lv_room hcat
        · cases hh
      · cases hh
    · cases hh
  · rename_i y host hn hy
    split at hh
    · rename_i hkd
      split at hh
      · rename_i a rest hdr
        split at hh
        · rename_i hlen
          obtain ⟨f1, f2⟩ := nsk_ok hm hy
          refine s_call G IH f2 hh k ?_
          obtain ⟨p, l, e, R, s, mi, args, below, meth, c, Q, b, base, L, xs, D, cI, cII⟩ := X
          intro H locs cells slots A r h1 i1 i2 w1 w2 w5 hf hcat
          have pr := pre_ok (As := .ref a :: (st.take (mP y)).reverse) (y := y) G w1 w2
          obtain ⟨hx1, hb, hml, hown, hts, hK, g1, g2, g3, g4, g5, g6, g7, g8, hm, hN, -⟩ := G
          have e0 : cv b base (.ref a) = .ref (ad b base a) := rfl
          unfold CT at i2
          rw [List.map_cons, e0] at pr i2
          have hrn := m_retI y (by omega) hkd
          have hL := m_maxL y (by omega)
          have cb : va_CN R s args (mN m).cls i (mN y) host (mB y) (mL y) (mR y) (wsm y) (rm y) (mc y) (ms y) (mP y) :=
            va_cnB (mP y) hts (good_all y f2) rfl rfl rfl (hN.1 _ f1) (hts _ (ini_in y (by omega))) (m_cls y (by omega)) ⟨by show ht y + 1 ≤ R.frames; omega, by show 8 + (mL y + 11) + 30 * ht y ≤ R.locals; omega⟩
          rw [hrn] at cb
          refine va_runIN (nL := mL m) (n := mP y) (As := (st.take (mP y)).reverse.map (cv b base)) (b := ad b base a) ⟨hx1, hb, hml, hown, hts⟩ i2 ⟨cb, m_init y (by omega) hkd, hts _ (ins_in y f2 (by rw [hkd]; decide))⟩ pr rfl ?_ w5.1 ?_ ?_ hd hf
          · rw [List.length_map, List.length_reverse]
            exact hlen
          · show st.map (cv b base) = _
            rw [take_rev (As := []) hdr, e0]
          · exact lv_room hcat
        · cases hh
      · cases hh
    · cases hh
  · rename_i h1 h2 h3
    split at hh
    · rename_i a rest
      split at hh
      · rename_i hc
        cases hh
        obtain ⟨p, l, e, R, s, mi, args, below, meth, c, Q, b, base, L, xs, D, cI, cII⟩ := X
        obtain ⟨hx1, hb, hml, hown, hts, hK, g1, g2, g3, g4, g5, g6, g7, g8, hm, -⟩ := G
        have hht := m_ht m hm
        intro H locs cells slots A w1 w2 w3 w4 w5
        refine W.objInit (meth := meth) (a := ad b base a) hx1 hb hown (hts _ (spk_ok hm h3)) (hts _ sp_w0) (hts _ sp_w1) rfl (by rw [hml]; exact w5.1) rfl hd (by omega) ?_ (k H locs cells slots A w1 w2 w3 w4 w5)
        show 2 * 0 + ((List.map (cv b base) _).map fun v => v.category).sum + 12 ≤ R.locals
        rw [cv_cats]
        omega
      · cases hh
    · cases hh
  · cases hh
end SNM
