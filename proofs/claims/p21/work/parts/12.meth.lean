/-! THE SMALL MACHINE IS SOUND: whole methods, and the law's start -/
theorem run_ok {X : Cx} {E : Nat → List Value → Hp → Option Rs} {m : Nat} (HM : MnaOk) (G : Gx X m) (IH : Cs X E m) {r : Option Int32} {h' : Hp} (hr : RetK X m r h') :
    ∀ (n pc : Nat) (ls st : List Value) (h : Hp), rnN E m n (pc, ls, st, h) = some (r, h') → Rn X m pc ls st h := by
  intro n
  induction n with
  | zero => intro pc ls st h hn; cases hn
  | succ n ih =>
    intro pc ls st h hn
    rw [rnN] at hn
    cases hs : stp E m (pc, ls, st, h) with
    | none => rw [hs] at hn; cases hn
    | some x =>
      rw [hs] at hn
      cases x with
      | inr c' =>
        obtain ⟨pc', ls', st', h1⟩ := c'
        exact s_step HM G IH hs (ih pc' ls' st' h1 hn)
      | inl y =>
        have hn : some y = some (r, h') := hn
        cases hn
        have hs' := hs
        unfold stp at hs'
        cases hd : decode (mB m) pc with
        | error q => simp only [hd] at hs'; cases hs'
        | ok x =>
          obtain ⟨ins, len⟩ := x
          simp only [hd] at hs'
          rcases stI_inl hs' with ⟨rfl, rfl, h2⟩ | ⟨rfl, rfl, h2⟩
          · unfold hRetI at h2
            split at h2
            · rename_i v
              split at h2
              · rename_i hv
                cases h2
                obtain ⟨p, l, e, R, s, mi, args, below, meth, c, Q, b, base, L, xs, D, cI, cII⟩ := X
                intro H locs cells slots A w1 w2 w3 w4 w5
                exact hr H locs cells slots pc A w1 w2 (by omega) (by omega) (Or.inl ⟨v, rfl, hd, hv⟩)
              · cases h2
            · cases h2
          · unfold hRetV at h2
            split at h2
            · split at h2
              · rename_i hv
                cases h2
                obtain ⟨p, l, e, R, s, mi, args, below, meth, c, Q, b, base, L, xs, D, cI, cII⟩ := X
                intro H locs cells slots A w1 w2 w3 w4 w5
                exact hr H locs cells slots pc A w1 w2 (by omega) (by omega) (Or.inr ⟨rfl, hd, hv⟩)
              · cases h2
            · cases h2
theorem flt_slots (b base : Nat) : ∀ (as : List Value) (i : Nat) (v : Value), (flt as)[i]? = some v → (∀ r, v ≠ .retAddr r) → (lg_sl (as.map (cv b base)))[i]? = some (.val (cv b base v))
  | [], i, v, h, _ => by simp [flt] at h
  | a :: as, i, v, h, hr => by
    have ih := flt_slots b base as
    have e1 : flt (a :: as) = (if a.category = 2 then [a, .retAddr 0] else [a]) ++ flt as := rfl
    have e2 : lg_sl ((a :: as).map (cv b base)) = (if a.category = 2 then [.val (cv b base a), .second] else [.val (cv b base a)]) ++ lg_sl (as.map (cv b base)) := by
      unfold lg_sl
      rw [List.map_cons, List.flatMap_cons, cv_cat]
    rw [e1] at h
    rw [e2]
    by_cases hc : a.category = 2
    · rw [if_pos hc] at h ⊢
      match i, h with
      | 0, h => simp at h; subst h; rfl
      | 1, h => simp at h; exact absurd h.symm (hr 0)
      | i + 2, h => exact ih i v h hr
    · rw [if_neg hc] at h ⊢
      match i, h with
      | 0, h => simp at h; subst h; rfl
      | i + 1, h => exact ih i v h hr
theorem flt_len (b base : Nat) : ∀ (as : List Value), (lg_sl (as.map (cv b base))).length = (flt as).length
  | [] => rfl
  | a :: as => by
    have ih := flt_len b base as
    have e1 : flt (a :: as) = (if a.category = 2 then [a, .retAddr 0] else [a]) ++ flt as := rfl
    have e2 : lg_sl ((a :: as).map (cv b base)) = (if a.category = 2 then [.val (cv b base a), .second] else [.val (cv b base a)]) ++ lg_sl (as.map (cv b base)) := by
      unfold lg_sl
      rw [List.map_cons, List.flatMap_cons, cv_cat]
    rw [e1, e2, List.length_append, List.length_append, ih]
    by_cases hc : a.category = 2
    · rw [if_pos hc, if_pos hc]; rfl
    · rw [if_neg hc, if_neg hc]; rfl
theorem flt_cat : ∀ (as : List Value), (∀ v ∈ as, v.category = 1) → ∀ v ∈ flt as, v.category = 1
  | [], _, v, h => by simp [flt] at h
  | a :: as, ha, v, h => by
    have e1 : flt (a :: as) = (if a.category = 2 then [a, .retAddr 0] else [a]) ++ flt as := rfl
    have hc : ¬ a.category = 2 := by rw [ha a List.mem_cons_self]; decide
    rw [e1, if_neg hc] at h
    rcases List.mem_append.mp h with h | h
    · rw [List.mem_singleton.mp h]; exact ha a List.mem_cons_self
    · exact flt_cat as (fun v hv => ha v (List.mem_cons_of_mem _ hv)) v h
theorem ent_LH (b base m : Nat) (as : List Value) (hl : (flt as).length ≤ mL m) (hn : noL m = true → ∀ v ∈ as, v.category = 1) :
    LH b base ((lg_sl (as.map (cv b base)) ++ List.replicate (mL m - (lg_sl (as.map (cv b base))).length) Slot.unset).toArray) m (ent as (mL m)) := by
  have h0 := lv_entry (as.map (cv b base)) (n := mL m) (by rw [flt_len]; exact hl)
  refine ⟨h0.1, h0.2.1, ?_, fun i v hv hr => ?_, fun hn' v hv => ?_⟩
  · unfold ent
    rw [List.length_append, List.length_replicate]
    omega
  · unfold ent at hv
    by_cases hi : i < (flt as).length
    · rw [List.getElem?_append_left hi] at hv
      have h1 := flt_slots b base as i v hv hr
      rw [List.getElem?_toArray, List.getElem?_append_left (by rw [flt_len]; exact hi)]
      exact h1
    · rw [List.getElem?_append_right (by omega), List.getElem?_replicate] at hv
      split at hv
      · cases hv; exact absurd rfl (hr 0)
      · cases hv
  · unfold ent at hv
    rcases List.mem_append.mp hv with h | h
    · exact flt_cat as (hn hn') v h
    · rw [(List.mem_replicate.mp h).2]; rfl
theorem den_ok (HM : MnaOk) (l : Launch) (b base L : Nat) (xs : Nat → Int32) (D : va_G) (cI cII : ClassId) :
    ∀ (d y : Nat), ht y < d → y < 199 → ∀ (As : List Value) (h : Hp) (r : Option Int32) (h' : Hp), h.2.1 = mc y → h.2.2.1 = ms y → Den y As h = some (r, h') → CT l b base L xs D cI cII y As h r h' := by
  intro d
  induction d with
  | zero => intro y hy; exact absurd hy (by omega)
  | succ d ih =>
    intro y hd hy As h r h' hbc hbs hden
    rw [Den_eq] at hden
    split at hden
    · rename_i hc
      obtain ⟨n, hn⟩ := rn_iff.mp hden
      refine Met.ofW (ws' := wsAll) (cc := mB y) (maxL := mL y) (ret := mR y) (m_plain y (by omega)) rfl ?_
      intro p e s m args below meth c s₁ B hml hv
      obtain ⟨rfl, w1, hK, hX, hbb, hN⟩ := hv
      have hts : ∀ w ∈ wsAll, w.before (As.map (cv b base)).toArray s = true := fun w hw => atoms_spec (ws := wsm y) B.pre w (List.mem_cons_of_mem _ hw)
      have hown : s.vm.findClass (mN y).cls = some m.cls := findClass_of_methodNamed B.named
      have hnm : meth.name = (mN y).name := (name_of_methodNamed B.named B.method).1
      have hbase : base ≤ s.heap.size := by rw [w1.1]; omega
      have hlocks := B.notSynchronized
      have G : Gx (p, l, e, rm y, s, m, (As.map (cv b base)).toArray, below, meth, c, MQ below (fun _ => Qw b base L xs D cI cII r h') (As.map (cv b base)).toArray s (mc y) (ms y) (Ow base), b, base, L, xs, D, cI, cII) y :=
        ⟨B.exec, B.bytes, hml, hown, hts, hK, hbase, hbb, hX, fun hk => hnm.trans (m_init y (by omega) hk), Nat.le_refl _, Nat.le_refl _, Nat.le_refl _, Nat.le_refl _, by omega, hN, hlocks⟩
      have IH : Cs (p, l, e, rm y, s, m, (As.map (cv b base)).toArray, below, meth, c, MQ below (fun _ => Qw b base L xs D cI cII r h') (As.map (cv b base)).toArray s (mc y) (ms y) (Ow base), b, base, L, xs, D, cI, cII) (EE y) y := by
        intro z As' h1 r1 h2 hz hb1 hb2 hE
        unfold EE at hE
        split at hE
        · rename_i hlt
          exact ⟨hlt, ih z (by omega) hz As' h1 r1 h2 hb1 hb2 hE⟩
        · cases hE
      have RK : RetK (p, l, e, rm y, s, m, (As.map (cv b base)).toArray, below, meth, c, MQ below (fun _ => Qw b base L xs D cI cII r h') (As.map (cv b base)).toArray s (mc y) (ms y) (Ow base), b, base, L, xs, D, cI, cII) y r h' := by
        intro H locs cells slots pc A w1 w2 w3 w4 w5
        have hq : ∀ t : State, t.heap = H → s.WarmedH t.vm → Qw b base L xs D cI cII r h' s (.returned (r.map Value.int)) t := fun t ht _ => ⟨rfl, by rw [ht]; exact w1, w2.F ht⟩
        rcases w5 with ⟨v, rfl, hdec, hret⟩ | ⟨rfl, hdec, hret⟩
        · rcases hret with hret | ⟨hret, hv⟩
          · exact W.widen w3 w4 (W.iret (v := v) B.exec B.bytes (B.returns.trans hret) hq w2.2.2 hdec hlocks)
          · refine W.widen w3 w4 (W.zret (v := v) (ty := .boolean) B.exec B.bytes (B.returns.trans hret) ?_ hq w2.2.2 hdec hlocks)
            rcases hv with rfl | rfl <;> decide
        · exact W.widen w3 w4 (W.vret B.exec B.bytes (B.returns.trans hret) hq w2.2.2 hdec hlocks)
      have k := run_ok HM G IH RK n 0 (ent As (mL y)) [] h hn
      have k2 := k s.heap [] 0 0 _ w1 va_S.rf (by omega) (by omega) (ent_LH b base y As hc.1 hc.2)
      rw [lg_entry_eq]
      exact k2
    · cases hden

