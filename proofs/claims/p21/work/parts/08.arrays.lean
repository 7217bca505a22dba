/-! THE SMALL MACHINE IS SOUND: arrays, makings -/
section SNA
variable {X : Cx} {m pc pc' : Nat} {ls st ls' st' : List Value} {h h' : Hp}
theorem s_ial (G : Gx X m) (hd : decode (mB m) pc = .ok (.iaload, 1)) (hh : hIal pc ls st h = some (.inr (pc', ls', st', h'))) (k : Rn X m pc' ls' st' h') : Rn X m pc ls st h := by
  obtain ⟨p, l, e, R, s, mi, args, below, meth, c, Q, b, base, L, xs, D, cI, cII⟩ := X
  obtain ⟨hx1, hb, hml, hown, hts, hK, h1, h2, h3, h4, h5, h6, h7, h8, hm, -⟩ := G
  unfold hIal at hh
  split at hh
  · rename_i i a st0
    split at hh
    · rename_i hc
      obtain ⟨c1, c2, c3⟩ := hc
      cases hh
      intro H locs cells slots A w1 w2 w3 w4 w5
      rw [List.map_cons, List.map_cons]
      cases a with
      | zero =>
        have e0 : cv b base (.ref 0) = .ref b := by show Value.ref (ad b base 0) = _; rw [ad_zero]
        rw [e0]
        obtain ⟨a1, a2, a3, a4, a5⟩ := w1
        rw [a4] at c3
        rw [a5] at k
        exact va_sld (meth := meth) hx1 hb h3 (Nat.lt_of_lt_of_le h2 h1) (fun z => Nat.not_le.mpr h2 z) w2 c3 hd (k H locs cells slots A ⟨a1, a2, a3, a4, a5⟩ w2 w3 w4 w5)
      | succ a' =>
        have e0 : cv b base (.ref (a' + 1)) = .ref (base + a') := by show Value.ref (ad b base (a' + 1)) = _; rw [ad_succ]
        rw [e0]
        have hg := wd_get (b := b) (base := base) (cI := cI) (cII := cII) (h := h) (k := a') c1
        rw [cE_arr c2] at hg
        exact va_iald (meth := meth) hx1 hb hK w1.2.1 a' 0 hg rfl c3 hd (k H locs cells slots A w1 w2 w3 w4 w5)
    · cases hh
  · cases hh
theorem s_ias (G : Gx X m) (hd : decode (mB m) pc = .ok (.iastore, 1)) (hh : hIas pc ls st h = some (.inr (pc', ls', st', h'))) (k : Rn X m pc' ls' st' h') : Rn X m pc ls st h := by
  obtain ⟨p, l, e, R, s, mi, args, below, meth, c, Q, b, base, L, xs, D, cI, cII⟩ := X
  obtain ⟨hx1, hb, hml, hown, hts, hK, h1, h2, h3, h4, h5, h6, h7, h8, hm, -⟩ := G
  unfold hIas at hh
  split at hh
  · rename_i x i a st0
    split at hh
    · rename_i hc
      obtain ⟨c0, c1, c2, c3⟩ := hc
      obtain ⟨a', rfl⟩ := Nat.exists_eq_add_one_of_ne_zero c0
      cases hh
      intro H locs cells slots A w1 w2 w3 w4 w5
      rw [List.map_cons, List.map_cons, List.map_cons]
      have e0 : cv b base (.ref (a' + 1)) = .ref (base + a') := by show Value.ref (ad b base (a' + 1)) = _; rw [ad_succ]
      rw [e0]
      have hlt : a' < h.1 := c1
      have hg := wd_get (b := b) (base := base) (cI := cI) (cII := cII) hlt
      rw [cE_arr c2] at hg
      refine W.iast (meth := meth) hx1 hb (w1.2.1 a' _ hg) ((hK.2 0 _ rfl).1 _ (fun j => .int (hG h (a' + 1) j))) (fun q => by cases q) (by show ¬ (i < 0 ∨ (arrV _ _ _).slots.size ≤ _); rw [arrV_size]; exact c3) rfl rfl hd fun H1 e1 z oq => ?_
      refine k H1 _ cells slots A (Wl_setG w1 hlt z ?_) (w2.put z oq ((wd_D h).2 a' _ hg)) w3 w4 w5
      rw [cE_arr c2]
      refine w1.2.1.set (wd_D h) hg ?_ oq
      show H1[base + a']? = some (vp_cell _ _)
      rw [e1]
      rw [vp_cell_i, vp_cell_i, arrV_store]
      congr 2
      funext q
      by_cases hq : q = i.toNatClampNeg
      · subst hq
        simp [upd, updV]
      · simp [upd, updV, hq]
    · cases hh
  · cases hh
theorem s_aal (G : Gx X m) (hd : decode (mB m) pc = .ok (.aaload, 1)) (hh : hAal pc ls st h = some (.inr (pc', ls', st', h'))) (k : Rn X m pc' ls' st' h') : Rn X m pc ls st h := by
  obtain ⟨p, l, e, R, s, mi, args, below, meth, c, Q, b, base, L, xs, D, cI, cII⟩ := X
  obtain ⟨hx1, hb, hml, hown, hts, hK, h1, h2, h3, h4, h5, h6, h7, h8, hm, -⟩ := G
  unfold hAal at hh
  split at hh
  · rename_i i a st0
    split at hh
    · rename_i hc
      obtain ⟨c0, c1, c2, c3⟩ := hc
      obtain ⟨a', rfl⟩ := Nat.exists_eq_add_one_of_ne_zero c0
      cases hh
      intro H locs cells slots A w1 w2 w3 w4 w5
      rw [List.map_cons, List.map_cons]
      have e0 : cv b base (.ref (a' + 1)) = .ref (base + a') := by show Value.ref (ad b base (a' + 1)) = _; rw [ad_succ]
      rw [e0]
      have hlt : a' < h.1 := c1
      have hg := wd_get (b := b) (base := base) (cI := cI) (cII := cII) hlt
      rw [cE_rows c2] at hg
      have hi : i.toNatClampNeg < (hS h (a' + 1)).2.1 := Nat.not_le.mp fun q => c3 (Or.inr q)
      have q := k H locs cells slots A w1 w2 w3 w4 w5
      rw [List.map_cons, cv_rv] at q
      exact W.aald (meth := meth) (v := va_rf (((hS h (a' + 1)).2.2 i.toNatClampNeg).map (ad b base))) (ty := .array .int) hx1 hb (w1.2.1 a' _ hg) ((hK.2 1 _ rfl).1 _ (fun j => va_rf (((hS h (a' + 1)).2.2 j).map (ad b base)))) rfl (fun q => by cases q) (by show ¬ (i < 0 ∨ (arrV _ _ _).slots.size ≤ _); rw [arrV_size]; exact c3) (by show (arrV _ _ _).slots[_]? = _; rw [arrV_read _ _ hi]) rfl rfl hd q
    · cases hh
  · cases hh
theorem s_len (G : Gx X m) (hd : decode (mB m) pc = .ok (.arraylength, 1)) (hh : hLen pc ls st h = some (.inr (pc', ls', st', h'))) (k : Rn X m pc' ls' st' h') : Rn X m pc ls st h := by
  obtain ⟨p, l, e, R, s, mi, args, below, meth, c, Q, b, base, L, xs, D, cI, cII⟩ := X
  obtain ⟨hx1, hb, hml, hown, hts, hK, h1, h2, h3, h4, h5, h6, h7, h8, hm, -⟩ := G
  unfold hLen at hh
  split at hh
  · rename_i a st0
    split at hh
    · rename_i hc
      obtain ⟨c1, c2⟩ := hc
      cases hh
      intro H locs cells slots A w1 w2 w3 w4 w5
      rw [List.map_cons]
      have q := k H locs cells slots A w1 w2 w3 w4 w5
      cases a with
      | zero =>
        have e0 : cv b base (.ref 0) = .ref b := by show Value.ref (ad b base 0) = _; rw [ad_zero]
        rw [e0]
        rw [w1.2.2.2.1] at q
        exact va_slen (meth := meth) hx1 hb h3 (Nat.lt_of_lt_of_le h2 h1) (fun z => Nat.not_le.mpr h2 z) w2 hd q
      | succ a' =>
        have e0 : cv b base (.ref (a' + 1)) = .ref (base + a') := by show Value.ref (ad b base (a' + 1)) = _; rw [ad_succ]
        rw [e0]
        have hg := wd_get (b := b) (base := base) (cI := cI) (cII := cII) (h := h) (k := a') c1
        rcases c2 with c2 | ⟨c2, -⟩
        · rw [cE_arr c2] at hg
          exact va_alen (meth := meth) hx1 hb hK w1.2.1 a' 0 hg rfl rfl hd q
        · rw [cE_rows c2] at hg
          exact va_alen (meth := meth) hx1 hb hK w1.2.1 a' 1 hg rfl rfl hd q
    · cases hh
  · cases hh
/-- a cell made at the heap's end -/
theorem Wl_push {b base L : Nat} {xs : Nat → Int32} {D : va_G} {cI cII : ClassId} {sh : Shp} {f : Nat → Int32} {bc bs : Nat} {H H1 : Heap} (w : Wl b base L xs D cI cII h H) (hz : H1.size = H.size + 1) (ho : ∀ q, q < H.size → H1[q]? = H[q]?)
    (hc : va_at D clss (base + h.1, cE b base cI cII sh f) H1) : Wl b base L xs D cI cII (h.1 + 1, bc, bs, upf h.2.2.2.1 (h.1 + 1) sh, upf h.2.2.2.2 (h.1 + 1) f) H1 := by
  obtain ⟨a1, a2, a3, a4, a5⟩ := w
  have e1 : ∀ j, j ≤ h.1 → upf h.2.2.2.1 (h.1 + 1) sh j = hS h j := fun j hj => if_neg (by omega)
  have e2 : ∀ j, j ≤ h.1 → upf h.2.2.2.2 (h.1 + 1) f j = hG h j := fun j hj => if_neg (by omega)
  refine ⟨by rw [hz, a1]; exact Nat.add_assoc _ _ _, ?_, ?_, ?_, ?_⟩
  · rw [← wd_push (h := h) rfl (fun j hj => ⟨e1 j hj, e2 j hj⟩)]
    refine (a2.kept (fun k q hq => ho q.1 ((a2 k q hq).lt))).app (fun k q hq => ?_)
    have hk : k < 1 := (List.getElem?_eq_some_iff.mp hq).1
    rw [show k = 0 by omega] at hq
    cases hq
    have t1 : upf h.2.2.2.1 (h.1 + 1) sh (h.1 + 1) = sh := if_pos rfl
    have t2 : upf h.2.2.2.2 (h.1 + 1) f (h.1 + 1) = f := if_pos rfl
    show va_at D clss (base + h.1, cE b base cI cII (upf h.2.2.2.1 (h.1 + 1) sh (h.1 + 1)) (upf h.2.2.2.2 (h.1 + 1) f (h.1 + 1))) H1
    rw [t1, t2]
    exact hc
  · show (upf h.2.2.2.1 (h.1 + 1) sh 0).1 = 0
    rw [e1 0 (by omega)]
    exact a3
  · show (upf h.2.2.2.1 (h.1 + 1) sh 0).2.1 = L
    rw [e1 0 (by omega)]
    exact a4
  · show upf h.2.2.2.2 (h.1 + 1) f 0 = xs
    rw [e2 0 (by omega)]
    exact a5
theorem s_nwa (G : Gx X m) (hd : decode (mB m) pc = .ok (.newarray .int, 2)) (hh : hNwa pc ls st h = some (.inr (pc', ls', st', h'))) (k : Rn X m pc' ls' st' h') : Rn X m pc ls st h := by
  obtain ⟨p, l, e, R, s, mi, args, below, meth, c, Q, b, base, L, xs, D, cI, cII⟩ := X
  obtain ⟨hx1, hb, hml, hown, hts, hK, h1, h2, h3, h4, h5, h6, h7, h8, hm, -⟩ := G
  unfold hNwa at hh
  split at hh
  · rename_i n st0
    split at hh
    · rename_i hc
      obtain ⟨c1, c2, c3, c4⟩ := hc
      cases hh
      intro H locs cells slots A w1 w2 w3 w4 w5
      rw [List.map_cons]
      show W p l e R s mi args below meth c H locs cells slots Q (F0 mi pc A (.int n :: List.map (cv b base) _))
      refine va_newaK (meth := meth) (atype := .int) hx1 hb (hts _ sp_arI) rfl hd rfl c1 rfl (by show n.toNatClampNeg * 4 ≤ 536870912; omega) (by omega) (by omega) rfl fun H1 cA e1 z1 o1 hAr hNm => ?_
      have hcA : cA = cI := by
        have hr := (hK.2 0 _ rfl).2
        exact Option.some.inj (hNm.symm.trans hr)
      subst hcA
      have q := k H1 locs (cells + 1) (slots + n.toNatClampNeg) A (Wl_push (sh := (0, n.toNatClampNeg, fun _ => none)) (f := fun _ => 0) w1 z1 o1 (by
          rw [cE_arr rfl]
          show H1[base + h.1]? = some (vp_cell _ _)
          rw [← w1.1]
          exact e1)) ⟨Nat.le_trans w2.1 (by omega), fun x g1 g2 => (o1 x (Nat.lt_of_lt_of_le g1 w2.1)).trans (w2.2.1 x g1 g2), w2.2.2⟩ (by show cells + 1 + (h.2.1 - 1) = _; omega) (by show slots + n.toNatClampNeg + (h.2.2.1 - n.toNatClampNeg) = _; omega) w5
      have e0 : cv b base (.ref (h.1 + 1)) = .ref H.size := by show Value.ref (ad b base (h.1 + 1)) = _; rw [ad_succ, w1.1]
      rw [List.map_cons, e0] at q
      exact q
    · cases hh
  · cases hh
theorem s_new {i : Nat} (G : Gx X m) (hd : decode (mB m) pc = .ok (.new i, 3)) (hh : hNew m i pc ls st h = some (.inr (pc', ls', st', h'))) (k : Rn X m pc' ls' st' h') : Rn X m pc ls st h := by
  obtain ⟨p, l, e, R, s, mi, args, below, meth, c, Q, b, base, L, xs, D, cI, cII⟩ := X
  obtain ⟨hx1, hb, hml, hown, hts, hK, h1, h2, h3, h4, h5, h6, h7, h8, hm, -⟩ := G
  unfold hNew at hh
  split at hh
  · rename_i ci hcl
    obtain ⟨f1, f2, f3, f4⟩ := clk_ok hm hcl
    split at hh
    · rename_i hc
      obtain ⟨c1, c2⟩ := hc
      cases hh
      intro H locs cells slots A w1 w2 w3 w4 w5
      have hKn := hK.1 ci _ (clss_get ci f4)
      refine W.newcK (meth := meth) hx1 hb hown (hts _ f1) (hts _ f2) (hts _ f3) rfl hd (by omega) (by omega) hKn.2.1 rfl fun H1 kC hkC e1 z1 o1 => ?_
      have q := k H1 locs (cells + 1) (slots + cNf ci) A (Wl_push (sh := (ci + 2, 0, fun _ => none)) (f := fun _ => 0) w1 z1 o1 (by
          rw [cE_obj (ci := ci) rfl]
          refine ⟨_, clss_get ci f4, ?_⟩
          rw [← w1.1]
          refine (u_born (tYY ci) hts (lay_in ci f4) hKn hkC e1 (tY_ok ci f4)).to (fun j hj => ?_)
          have hty : ∀ c, c < 8 → ∀ k, k < cNf c → defaultValue (tYY c k) = if isI c k then .int 0 else .null := by decide +kernel
          show defaultValue (tYY ci j) = vp_V _ j
          rw [hty ci f4 j hj]
          unfold vp_V
          rw [List.getD_eq_getElem?_getD, objs_get hj]
          rfl)) ⟨Nat.le_trans w2.1 (by omega), fun x g1 g2 => (o1 x (Nat.lt_of_lt_of_le g1 w2.1)).trans (w2.2.1 x g1 g2), w2.2.2⟩ (by show cells + 1 + (h.2.1 - 1) = _; omega) (by show slots + cNf ci + (h.2.2.1 - cNf ci) = _; omega) w5
      have e0 : cv b base (.ref (h.1 + 1)) = .ref H.size := by show Value.ref (ad b base (h.1 + 1)) = _; rw [ad_succ, w1.1]
      rw [List.map_cons, e0] at q
      exact q
    · cases hh
  · cases hh
end SNA
