/-! THE SMALL MACHINE IS SOUND: fields, arrays, makings -/
section SNH
variable {X : Cx} {m pc pc' : Nat} {ls st ls' st' : List Value} {h h' : Hp}
theorem objs_get {n k : Nat} {F : Nat → Value} (hk : k < n) : ((List.range n).map F)[k]? = some (F k) := by
  rw [List.getElem?_map, List.getElem?_range hk]
  rfl
theorem objs_set {n k : Nat} {F : Nat → Value} {v : Value} : ((List.range n).map F).set k v = (List.range n).map (fun j => if j = k then v else F j) := by
  apply List.ext_getElem?
  intro i
  by_cases hi : i = k
  · subst hi
    by_cases h2 : i < n
    · rw [List.getElem?_set_self (by simpa using h2), objs_get h2, if_pos rfl]
    · rw [List.getElem?_eq_none (by simp; omega), List.getElem?_eq_none (by simp; omega)]
  · rw [List.getElem?_set_ne (Ne.symm hi)]
    by_cases h2 : i < n
    · rw [objs_get h2, objs_get h2, if_neg hi]
    · rw [List.getElem?_eq_none (by simp; omega), List.getElem?_eq_none (by simp; omega)]
theorem setG_S (h : Hp) (a : Nat) (f : Nat → Int32) (j : Nat) : hS (setG h a f) j = hS h j := rfl
theorem setG_G (h : Hp) (a : Nat) (f : Nat → Int32) (j : Nat) : hG (setG h a f) j = if j = a then f else hG h j := rfl
theorem setS_G (h : Hp) (a : Nat) (f : Shp) (j : Nat) : hG (setS h a f) j = hG h j := rfl
theorem setS_S (h : Hp) (a : Nat) (f : Shp) (j : Nat) : hS (setS h a f) j = if j = a then f else hS h j := rfl
/-- a cell's numbers written -/
theorem Wl_setG {b base L : Nat} {xs : Nat → Int32} {D : va_G} {cI cII : ClassId} {a : Nat} {f : Nat → Int32} {H H1 : Heap} (w : Wl b base L xs D cI cII h H) (ha : a < h.1) (hz : H1.size = H.size)
    (hP : va_P D clss ((wd b base cI cII h).set a (base + a, cE b base cI cII (hS h (a + 1)) f)) H1) : Wl b base L xs D cI cII (setG h (a + 1) f) H1 := by
  obtain ⟨a1, a2, a3, a4, a5⟩ := w
  refine ⟨hz.trans a1, ?_, a3, a4, ?_⟩
  · have e := wd_set (b := b) (base := base) (cI := cI) (cII := cII) (h := h) (h' := setG h (a + 1) f) (k := a) rfl ha (fun j hj => ⟨rfl, by rw [setG_G, if_neg hj]⟩)
    rw [setG_G, if_pos rfl, setG_S] at e
    rw [← e]
    exact hP
  · rw [setG_G, if_neg (by omega)]
    exact a5
theorem Wl_setS {b base L : Nat} {xs : Nat → Int32} {D : va_G} {cI cII : ClassId} {a : Nat} {f : Shp} {H H1 : Heap} (w : Wl b base L xs D cI cII h H) (ha : a < h.1) (hz : H1.size = H.size)
    (hP : va_P D clss ((wd b base cI cII h).set a (base + a, cE b base cI cII f (hG h (a + 1)))) H1) : Wl b base L xs D cI cII (setS h (a + 1) f) H1 := by
  obtain ⟨a1, a2, a3, a4, a5⟩ := w
  refine ⟨hz.trans a1, ?_, ?_, ?_, a5⟩
  · have e := wd_set (b := b) (base := base) (cI := cI) (cII := cII) (h := h) (h' := setS h (a + 1) f) (k := a) rfl ha (fun j hj => ⟨by rw [setS_S, if_neg hj], rfl⟩)
    rw [setS_S, if_pos rfl, setS_G] at e
    rw [← e]
    exact hP
  · rw [setS_S, if_neg (by omega)]
    exact a3
  · rw [setS_S, if_neg (by omega)]
    exact a4
theorem s_get {i : Nat} (G : Gx X m) (hd : decode (mB m) pc = .ok (.getfield i, 3)) (hh : hGet m i pc ls st h = some (.inr (pc', ls', st', h'))) (k : Rn X m pc' ls' st' h') : Rn X m pc ls st h := by
  obtain ⟨p, l, e, R, s, mi, args, below, meth, c, Q, b, base, L, xs, D, cI, cII⟩ := X
  obtain ⟨hx1, hb, hml, hown, hts, hK, h1, h2, h3, h4, h5, h6, h7, h8, hm, -⟩ := G
  unfold hGet at hh
  split at hh
  · rename_i a st0 ci kf hf
    obtain ⟨f1, f2, f3⟩ := flk_ok hm hf
    split at hh
    · rename_i hin
      obtain ⟨a', rfl⟩ := Nat.exists_eq_add_one_of_ne_zero hin.1
      have hlt : a' < h.1 := hin.2.1
      cases hh
      intro H locs cells slots A w1 w2 w3 w4 w5
      have hg := wd_get (b := b) (base := base) (cI := cI) (cII := cII) hlt
      rw [cE_obj hin.2.2] at hg
      have q := va_get (meth := meth) (D := D) (cl := clss) (v := if isI ci kf then .int (hG h (a' + 1) kf) else va_rf (((hS h (a' + 1)).2.2 kf).map (ad b base))) hx1 hb hts (lay_in ci f2) hown hK w1.2.1 a' hg (clss_get ci f2) kf f3 (hts _ f1) (fun _ z => z) (objs_get f3) hd
        (Q := Q) (l := l) (e := e) (R := R) (below := below) (locs := locs) (cells := cells) (slots := slots) (ls := A) (rest := st0.map (cv b base))
      have ea : cv b base (.ref (a' + 1)) = .ref (base + a') := by show Value.ref (ad b base (a' + 1)) = _; rw [ad_succ]
      rw [List.map_cons, ea]
      refine q ?_
      have ev : cv b base (if isI ci kf then .int (hG h (a' + 1) kf) else rv ((hS h (a' + 1)).2.2 kf)) = (if isI ci kf then .int (hG h (a' + 1) kf) else va_rf (((hS h (a' + 1)).2.2 kf).map (ad b base))) := by
        split
        · rfl
        · exact cv_rv _ _ _
      rw [← ev]
      exact k H locs cells slots A w1 w2 w3 w4 w5
    · cases hh
  · cases hh
set_option maxHeartbeats 1000000 in
theorem s_put {i : Nat} (G : Gx X m) (hd : decode (mB m) pc = .ok (.putfield i, 3)) (hh : hPut m i pc ls st h = some (.inr (pc', ls', st', h'))) (k : Rn X m pc' ls' st' h') : Rn X m pc ls st h := by
  obtain ⟨p, l, e, R, s, mi, args, below, meth, c, Q, b, base, L, xs, D, cI, cII⟩ := X
  obtain ⟨hx1, hb, hml, hown, hts, hK, h1, h2, h3, h4, h5, h6, h7, h8, hm, -⟩ := G
  unfold hPut at hh
  split at hh
  · rename_i x a st0 ci kf hf
    obtain ⟨f1, f2, f3⟩ := flk_ok hm hf
    split at hh
    · rename_i hin
      obtain ⟨⟨i1, i2, i3⟩, i4, i5, i6⟩ := hin
      obtain ⟨a', rfl⟩ := Nat.exists_eq_add_one_of_ne_zero i1
      have hlt : a' < h.1 := i2
      cases hh
      intro H locs cells slots A w1 w2 w3 w4 w5
      have hg := wd_get (b := b) (base := base) (cI := cI) (cII := cII) hlt
      rw [cE_obj i3] at hg
      have ea : cv b base (.ref (a' + 1)) = .ref (base + a') := by show Value.ref (ad b base (a' + 1)) = _; rw [ad_succ]
      rw [List.map_cons, List.map_cons, ea]
      show W p l e R s mi args below meth c H locs cells slots Q (F0 mi pc A (.int x :: .ref (base + a') :: List.map (cv b base) _))
      have hap := va_apart (own := (mN m).cls) hts (lay_in ci f2) (tYY ci) (tY_ok ci f2) (nm_ok ci f2) hK (clss_get ci f2)
      obtain ⟨r, g1, cell, q1, q2, q3, q4⟩ := w1.2.1 a' _ hg
      have hr : r = (cNm ci, TTT ci, cNf ci) := Option.some.inj (g1.symm.trans (clss_get ci f2))
      subst hr
      obtain ⟨hSl, hfc, kC, hkC, hkind⟩ := hK.1 ci _ (clss_get ci f2)
      obtain ⟨cf, kfc, fi, f, hi, hsl⟩ := hSl kf f3
      have hlay := hts _ (lay_in ci f2 _ (u_in_lay f3))
      unfold u_lay at hlay
      rw [if_neg (by rw [i5]; decide)] at hlay
      have hst := (u_facts hfc hkC (u_lays hts (lay_in ci f2) f3) hi).1
      obtain ⟨ty, ht, hnr, hft⟩ : ∃ ty, parseFieldDescriptor (TTT ci kf).2.2.1 = some ty ∧ narrow ty (.int x) = .int x ∧ fits ty (.int x) = true := by
        refine ⟨tYY ci kf, tY_ok ci f2 kf f3, ?_⟩
        have hty : ∀ c, c < 8 → ∀ k, k < cNf c → isI c k = true → (tYY c k = .int ∨ (tYY c k = .boolean ∧ isZ c k = true)) := by decide +kernel
        rcases hty ci f2 kf f3 i4 with h9 | ⟨h9, h10⟩
        · rw [h9]; exact ⟨rfl, rfl⟩
        · rw [h9]
          rcases i6 h10 with rfl | rfl <;> decide
      have h6' := u_store hfc hkC hkind hlay hi ht hnr hft
      refine W.putK hx1 hb (f := f) ⟨hown, hts _ f1, ⟨_, _, _, hi⟩, hst⟩ (by rw [q2]; exact h6') q1 q3 (by rw [hsl]; exact k2_hasslot (q4 kf f3)) rfl rfl hd fun H' e1 e2 e3 => ?_
      rw [hsl] at e1 ⊢
      have hlen : kf < ((List.range (cNf ci)).map (fun k => if isI ci k then Value.int (hG h (a' + 1) k) else va_rf (((hS h (a' + 1)).2.2 k).map (ad b base)))).length := by simpa using f3
      have hP := w1.2.1.set (wd_D h) hg (e := .inr (ci, ((List.range (cNf ci)).map (fun k => if isI ci k then Value.int (hG h (a' + 1) k) else va_rf (((hS h (a' + 1)).2.2 k).map (ad b base)))).set kf (.int x)))
        ⟨_, clss_get ci f2, t_OB.to (V := updV (vp_V _) kf (.int x)) ⟨_, e1, q2, q3, t_set q4 hap f3 (.int x)⟩ (fun j _ => vp_updV_set hlen (.int x) j)⟩ e3
      have hW : Wl b base L xs D cI cII (setG h (a' + 1) (upd (hG h (a' + 1)) kf x)) H' := by
        refine Wl_setG w1 hlt e2 ?_
        rw [cE_obj i3]
        rw [objs_set] at hP
        refine (congrArg (fun z => va_P D clss ((wd b base cI cII h).set a' (base + a', .inr (ci, z))) H') ?_).mp hP
        apply List.map_congr_left
        intro j hj
        by_cases hjk : j = kf
        · subst hjk
          rw [if_pos rfl, if_pos i4]
          simp [upd]
        · rw [if_neg hjk]
          simp [upd, hjk]
      exact k H' _ cells slots A hW (w2.put e2 e3 ((wd_D h).2 a' _ hg)) w3 w4 w5
    · cases hh
  · rename_i pr a st0 ci kf hf
    obtain ⟨f1, f2, f3⟩ := flk_ok hm hf
    split at hh
    · rename_i hin
      obtain ⟨⟨i1, i2, i3⟩, i4, i5, i6, i7⟩ := hin
      obtain ⟨a', rfl⟩ := Nat.exists_eq_add_one_of_ne_zero i1
      have hlt : a' < h.1 := i2
      cases hh
      intro H locs cells slots A w1 w2 w3 w4 w5
      have hg := wd_get (b := b) (base := base) (cI := cI) (cII := cII) hlt
      rw [cE_obj i3] at hg
      have ea : cv b base (.ref (a' + 1)) = .ref (base + a') := by show Value.ref (ad b base (a' + 1)) = _; rw [ad_succ]
      rw [List.map_cons, List.map_cons, ea]
      show W p l e R s mi args below meth c H locs cells slots Q (F0 mi pc A (.ref (ad b base pr) :: .ref (base + a') :: List.map (cv b base) _))
      have hap := va_apart (own := (mN m).cls) hts (lay_in ci f2) (tYY ci) (tY_ok ci f2) (nm_ok ci f2) hK (clss_get ci f2)
      obtain ⟨r, g1, cell, q1, q2, q3, q4⟩ := w1.2.1 a' _ hg
      have hr : r = (cNm ci, TTT ci, cNf ci) := Option.some.inj (g1.symm.trans (clss_get ci f2))
      subst hr
      obtain ⟨hSl, hfc, kC, hkC, hkind⟩ := hK.1 ci _ (clss_get ci f2)
      obtain ⟨cf, kfc, fi, f, hi, hsl⟩ := hSl kf f3
      have hlay := hts _ (lay_in ci f2 _ (u_in_lay f3))
      unfold u_lay at hlay
      rw [if_pos i5] at hlay
      have hst := (u_facts hfc hkC (u_lays hts (lay_in ci f2) f3) hi).1
      have hdecl : (TTT ci kf).1 = (mN m).cls := by
        have hd1 : ∀ c, c < 8 → ∀ k, k < cNf c → (TTT c k).1 = cNm c := by decide +kernel
        rw [hd1 ci f2 kf f3, mK_ok m hm (by rw [i7]; exact f2), i7]
      have hcf : mi.cls = cf := by
        obtain ⟨_, _, c', _, _, _, -, -, hf', -, -, -, hown2, -⟩ := Cond.laysFinal_spec hlay
        have e1 : c' = cf := by have := hi.symm.trans hf'; simp at this; exact this.1.symm
        rw [hdecl] at hown2
        rw [← e1]; exact Option.some.inj (hown.symm.trans hown2)
      obtain ⟨ty, ht, hnr, hft⟩ : ∃ ty, parseFieldDescriptor (TTT ci kf).2.2.1 = some ty ∧ narrow ty (.ref (ad b base pr)) = .ref (ad b base pr) ∧ fits ty (.ref (ad b base pr)) = true := by
        refine ⟨tYY ci kf, tY_ok ci f2 kf f3, ?_⟩
        have hty : ∀ c, c < 8 → ∀ k, k < cNf c → isI c k = false → (tYY c k).isReference = true := by decide +kernel
        have h9 := hty ci f2 kf f3 i4
        cases h10 : tYY ci kf <;> rw [h10] at h9 <;> first | exact ⟨rfl, rfl⟩ | exact absurd h9 (by decide)
      have h6' := u_fits hfc hkC hkind (Or.inr hlay) hi ht hnr hft
      refine W.putFinK hx1 hb hown (hts _ f1) hi hst hcf (h4 i6) (by rw [q2]; exact h6') q1 q3 (by rw [hsl]; exact k2_hasslot (q4 kf f3)) rfl rfl hd fun H' e1 e2 e3 => ?_
      rw [hsl] at e1 ⊢
      have hlen : kf < ((List.range (cNf ci)).map (fun k => if isI ci k then Value.int (hG h (a' + 1) k) else va_rf (((hS h (a' + 1)).2.2 k).map (ad b base)))).length := by simpa using f3
      have hP := w1.2.1.set (wd_D h) hg (e := .inr (ci, ((List.range (cNf ci)).map (fun k => if isI ci k then Value.int (hG h (a' + 1) k) else va_rf (((hS h (a' + 1)).2.2 k).map (ad b base)))).set kf (.ref (ad b base pr))))
        ⟨_, clss_get ci f2, t_OB.to (V := updV (vp_V _) kf (.ref (ad b base pr))) ⟨_, e1, q2, q3, t_set q4 hap f3 (.ref (ad b base pr))⟩ (fun j _ => vp_updV_set hlen (.ref (ad b base pr)) j)⟩ e3
      have hW : Wl b base L xs D cI cII (setS h (a' + 1) ((hS h (a' + 1)).1, (hS h (a' + 1)).2.1, upf (hS h (a' + 1)).2.2 kf (some pr))) H' := by
        refine Wl_setS w1 hlt e2 ?_
        rw [cE_obj (ci := ci) (sh := ((hS h (a' + 1)).1, (hS h (a' + 1)).2.1, upf (hS h (a' + 1)).2.2 kf (some pr))) i3]
        rw [objs_set] at hP
        refine (congrArg (fun z => va_P D clss ((wd b base cI cII h).set a' (base + a', .inr (ci, z))) H') ?_).mp hP
        apply List.map_congr_left
        intro j hj
        by_cases hjk : j = kf
        · subst hjk
          rw [if_pos rfl, if_neg (by rw [i4]; decide)]
          simp [upf, va_rf]
        · rw [if_neg hjk]
          simp [upf, hjk]
      exact k H' _ cells slots A hW (w2.put e2 e3 ((wd_D h).2 a' _ hg)) w3 w4 w5
    · cases hh
  · cases hh
end SNH
