/-! THE SMALL MACHINE IS SOUND: calls -/
theorem aoa_spec {s : State} (h : (Cond.arrayOver (.array .int)).before #[] s = true) :
    ∃ comp c k, s.vm.findClass (FieldType.array .int).toString = some comp ∧ (s.vm.classes.findIdx? fun (x : Class) => match x.kind with | .array component _ => component == comp | _ => false) = some c ∧ s.vm.classes[c]? = some k ∧ k.kind = .array comp (.array .int) ∧
      s.vm.findClass ("[" ++ (FieldType.array .int).toString) = some c := by
  simp only [Cond.before, Cond.holds, Cond.value, beq_iff_eq] at h
  cases hc : s.vm.findClass (FieldType.array .int).toString with
  | none => simp [hc] at h
  | some comp =>
    simp only [hc, Option.bind_some, Option.bind_eq_some_iff, Option.map_eq_some_iff] at h
    obtain ⟨c, hi, k, hk, hb⟩ := h
    obtain ⟨hlt, hp, -⟩ := Array.findIdx?_eq_some_iff_getElem.mp hi
    have hkk : s.vm.classes[c] = k := (Array.getElem?_eq_some_iff.mp hk).2
    rw [hkk] at hp
    cases hkind : k.kind with
    | array component ty =>
      rw [hkind] at hb hp
      simp at hb hp
      exact ⟨comp, c, k, rfl, hi, hk, by rw [hkind, hp, hb.1], hb.2⟩
    | _ => rw [hkind] at hb; simp at hb
theorem aoa_moved {u U : State} (hvm : u.vm.Alike U.vm) (h : (Cond.arrayOver (.array .int)).before #[] u = true) : (Cond.arrayOver (.array .int)).before #[] U = true := by
  obtain ⟨comp, c, k, h1, h2, h3, h4, h5⟩ := aoa_spec h
  obtain ⟨k', hk', he⟩ := hvm.2.2 _ _ h3
  have hi : (U.vm.classes.findIdx? fun (x : Class) => match x.kind with | .array component _ => component == comp | _ => false) = some c := by
    refine (va_idx_bare U.vm comp).symm.trans ?_
    first | rw [hvm.bare_eq] | rw [← hvm.bare_eq]
    exact (va_idx_bare u.vm comp).trans h2
  have hkind : k'.kind = .array comp (.array .int) := by rw [he]; exact h4
  have f1 : U.vm.findClass (FieldType.array .int).toString = some comp := by rw [hvm.findClass]; exact h1
  have f2 : U.vm.findClass ("[" ++ (FieldType.array .int).toString) = some c := by rw [hvm.findClass]; exact h5
  unfold Cond.before Cond.holds
  simp only [Cond.value]
  rw [f1, Option.bind_some]
  refine (congrArg (fun o : Option Nat => (o.bind (fun c => (U.vm.classes[c]?).map fun (k : Class) => match k.kind with | .array _ ty => decide (ty = FieldType.array .int) && decide (U.vm.findClass ("[" ++ (FieldType.array .int).toString) = some c) | _ => false) == some true)) hi).trans ?_
  simp [hk', hkind, f2]
theorem NW.warm {s U : State} (hW : s.WarmedH U.vm) (h : NW s) : NW U := by
  refine ⟨fun w hw => ?_, aoa_moved hW.alike h.2⟩
  have h1 := h.1 w hw
  obtain ⟨e, -, rfl⟩ := List.mem_map.mp hw
  exact va_Nw.warmM hW h1
/-- what holds as a method begins -/
def Pw (b base L : Nat) (xs : Nat → Int32) (D : va_G) (cI cII : ClassId) (h : Hp) (U : State) : Prop :=
  Wl b base L xs D cI cII h U.heap ∧ va_K D clss [(cI, .int), (cII, .array .int)] U ∧ va_X b L xs U U.heap ∧ b < base ∧ NW U
/-- what holds as it ends -/
def Qw (b base L : Nat) (xs : Nat → Int32) (D : va_G) (cI cII : ClassId) (r : Option Int32) (h : Hp) : State → Outcome → State → Prop := fun st o t =>
  o = .returned (r.map Value.int) ∧ Wl b base L xs D cI cII h t.heap ∧ va_F (Ow base) st t
def rm (y : Nat) : Room := { frames := ht y, cells := mc y, slots := ms y, locals := 30 * ht y }
abbrev wsm (y : Nat) : List Cond := Cond.code (mN y) (mB y) (mL y) (mR y) :: wsAll
def CT (l : Launch) (b base L : Nat) (xs : Nat → Int32) (D : va_G) (cI cII : ClassId) (y : Nat) (As : List Value) (h : Hp) (r : Option Int32) (h' : Hp) : Prop :=
  Met l (mN y) (wsm y) (rm y) (va_Pc (As.map (cv b base)) (Pw b base L xs D cI cII h)) (fun _ => Qw b base L xs D cI cII r h') (mc y) (ms y) (Ow base)
theorem Pw_blind {b base L : Nat} {xs : Nat → Int32} {D : va_G} {cI cII : ClassId} {h : Hp} {As : List Value} : FrameBlind (va_Pc As (Pw b base L xs D cI cII h)) := by
  intro a U g mk q
  obtain ⟨q0, q1, q2, q3, q4, q5⟩ := q
  exact ⟨q0, q1, va_K.moved (u := U) (U := U.calling g mk a) (Vm.Alike.refl U.vm) q2, va_X.moved (u := U) (U := U.calling g mk a) (Vm.Alike.refl U.vm) q3, q4, NW.warm (s := U) (U := U.calling g mk a) (State.WarmedH.refl U) q5⟩
theorem good_all (y : Nat) (hy : y < 199) : GoodIn wsAll (wsm y) := by
  intro w hw
  have hm : w ∈ wsAll := by
    rcases List.mem_cons.mp hw with rfl | h
    · exact cod_in y hy
    · exact h
  exact ⟨hm, good_of_word (List.mem_filter.mp hm).2⟩
section SNC
variable {p : Program} {l : Launch} {e : Env} {R : Room} {s : State} {mi : MethodId} {args : Array Value} {below : List Frame} {meth : Method} {c : Code} {Q : State → Prop}
variable {b base L : Nat} {xs : Nat → Int32} {D : va_G} {cI cII : ClassId} {H : Heap} {locs : List Loc} {cells slots pc : Nat} {A : Array Slot} {rest st0 : List Value} {r : Option Int32} {h' : Hp}
theorem runK {mc1 ms1 : Nat} (hr : va_Run p l e R s mi args below meth c H locs cells slots mc1 ms1 (F0 mi pc A st0) rest (Qw b base L xs D cI cII r h') (Ow base)) (w2 : va_S (Ow base) s.heap H locs)
    (kk : ∀ (H1 : Heap) (locs1 : List Loc), Wl b base L xs D cI cII h' H1 → va_S (Ow base) s.heap H1 locs1 → W p l e R s mi args below meth c H1 locs1 (cells + mc1) (slots + ms1) Q (F0 mi (pc + 3) A ((r.map Value.int).toList ++ rest))) : W p l e R s mi args below meth c H locs cells slots Q (F0 mi pc A st0) := by
  intro T hT X
  obtain ⟨v, st₀, t, T', L9, h0, X', hL, e1, e2, ⟨hv, hb, hz, hk⟩, st⟩ := hr T hT X
  cases hv
  rw [h0] at hz hk
  obtain ⟨t2, a1, b1⟩ := kk T'.heap (locs ++ L9) (by rw [e1]; exact hb)
    ⟨Nat.le_trans w2.1 (by rw [e1]; exact hz), fun q h1 h2 => by rw [e1, hk q (Nat.lt_of_lt_of_le h1 w2.1) h2]; exact w2.2.1 q h1 h2, fun q hq => by
      rcases List.mem_append.mp hq with h | h
      · exact w2.2.2 q h
      · exact hL q h⟩ T' rfl X'
  exact ⟨t2, st t2 a1, b1⟩
end SNC
/-- what a call's callee keeps to -/
def Cs (X : Cx) (E : Nat → List Value → Hp → Option Rs) (m : Nat) : Prop := match X with
  | (p, l, e, R, s, mi, args, below, meth, c, Q, b, base, L, xs, D, cI, cII) => ∀ (y : Nat) (As : List Value) (h : Hp) (r : Option Int32) (h' : Hp), y < 199 → h.2.1 = mc y → h.2.2.1 = ms y → E y As h = some (r, h') → ht y < ht m ∧ CT l b base L xs D cI cII y As h r h'
section SNB
variable {X : Cx} {E : Nat → List Value → Hp → Option Rs} {m pc pc' : Nat} {ls st ls' st' : List Value} {h h' : Hp}
theorem take_rev {st As : List Value} {f : Value → Value} {n : Nat} {v : Value} {rest : List Value} (hd : st.drop n = v :: rest) : st.map f = ((st.take n).reverse.map f).reverse ++ f v :: rest.map f := by
  rw [← List.map_reverse, List.reverse_reverse, ← List.map_cons, ← List.map_append, ← hd, List.take_append_drop]
theorem take_rev2 {st : List Value} {f : Value → Value} {n : Nat} : st.map f = ((st.take n).reverse.map f).reverse ++ (st.drop n).map f := by
  rw [← List.map_reverse, List.reverse_reverse, ← List.map_append, List.take_append_drop]
theorem drop_len {st : List Value} {n : Nat} {v : Value} {rest : List Value} (hd : st.drop n = v :: rest) : (st.take n).length = n := by
  have h1 := congrArg List.length hd
  rw [List.length_drop, List.length_cons] at h1
  rw [List.length_take]
  omega
/-- what a call brings together: the callee's words and room -/
theorem call_b {p : Program} {l : Launch} {e : Env} {R : Room} {s : State} {mi : MethodId} {args : Array Value} {below : List Frame} {meth : Method} {c : Code} {Q : State → Prop} {b base L : Nat} {xs : Nat → Int32} {D : va_G} {cI cII : ClassId} {y i : Nat}
    (G : Gx (p, l, e, R, s, mi, args, below, meth, c, Q, b, base, L, xs, D, cI, cII) m) (hy : y < 199) (hl : Cond.methodLink (mN m).cls i (mN y) ∈ wsAll) (hht : ht y < ht m) :
    CallB R s args (mN m).cls i (mN y) (mB y) (mL y) (mR y) (wsm y) (rm y) (mc y) (ms y) (mP y) := by
  obtain ⟨hx1, hb, hml, hown, hts, hK, h1, h2, h3, h4, h5, h6, h7, h8, hm, -⟩ := G
  have hL := m_maxL y (by omega)
  exact callB_of (mP y) hts (good_all y hy) rfl rfl rfl (hts _ (ini_in y (by omega))) (hts _ hl) (m_cls y (by omega)) ⟨by show ht y + 1 ≤ R.frames; omega, by show 8 + (mL y + 11) + 30 * ht y ≤ R.locals; omega⟩
theorem pre_ok {p : Program} {l : Launch} {e : Env} {R : Room} {s : State} {mi : MethodId} {args : Array Value} {below : List Frame} {meth : Method} {c : Code} {Q : State → Prop} {b base L : Nat} {xs : Nat → Int32} {D : va_G} {cI cII : ClassId} {y : Nat} {As : List Value} {H : Heap} {locs : List Loc}
    (G : Gx (p, l, e, R, s, mi, args, below, meth, c, Q, b, base, L, xs, D, cI, cII) m) (w1 : Wl b base L xs D cI cII h H) (w2 : va_S (Ow base) s.heap H locs) :
    PreS s H (va_Pc (As.map (cv b base)) (Pw b base L xs D cI cII (enH y h))) (As.map (cv b base)) := by
  obtain ⟨hx1, hb, hml, hown, hts, hK, h1, h2, h3, h4, h5, h6, h7, h8, hm, hN, -⟩ := G
  refine ⟨Pw_blind, fun U hU hW => ⟨rfl, ?_, hK.moved hW.alike, ?_, h2, hN.warm hW⟩⟩
  · rw [hU]
    exact Wl_congr rfl rfl rfl w1
  · rw [hU]
    exact (h3.kept (w2.2.1 b (Nat.lt_of_lt_of_le h2 h1) (Nat.not_le.mpr h2))).moved hW.alike
/-- the call itself: the callee's answer goes onto the stack -/
theorem s_call {y : Nat} {As rest : List Value} (G : Gx X m) (IH : Cs X E m) (hy : y < 199) (hh : hCall E y As rest pc ls h = some (.inr (pc', ls', st', h'))) (k : Rn X m pc' ls' st' h')
    (row : match X with
      | (p, l, e, R, s, mi, args, below, meth, c, Q, b, base, L, xs, D, cI, cII) => ∀ (H : Heap) (locs : List Loc) (cells slots : Nat) (A : Array Slot) (r : Option Int32) (h1 : Hp), ht y < ht m → CT l b base L xs D cI cII y As (enH y h) r h1 → Wl b base L xs D cI cII h H → va_S (Ow base) s.heap H locs → LH b base A m ls → cells + mc y ≤ R.cells ∧ slots + ms y ≤ R.slots → ((rest.map (cv b base)).map fun v => v.category).sum ≤ 8 →
        va_Run p l e R s mi args below meth c H locs cells slots (mc y) (ms y) (F0 mi pc A (st.map (cv b base))) (rest.map (cv b base)) (Qw b base L xs D cI cII r h1) (Ow base)) : Rn X m pc ls st h := by
  obtain ⟨p, l, e, R, s, mi, args, below, meth, c, Q, b, base, L, xs, D, cI, cII⟩ := X
  have G' := G
  obtain ⟨hx1, hb, hml, hown, hts, hK, g1, g2, g3, g4, g5, g6, g7, g8, hm, -⟩ := G'
  unfold hCall at hh
  split at hh
  · rename_i hc
    obtain ⟨c1, c2, c3⟩ := hc
    cases hE : E y As (enH y h) with
    | none => rw [hE] at hh; cases hh
    | some q =>
      obtain ⟨r, h1⟩ := q
      rw [hE] at hh
      obtain ⟨i1, i2⟩ := IH y As (enH y h) r h1 hy rfl rfl hE
      cases hh
      intro H locs cells slots A w1 w2 w3 w4 w5
      refine runK (row H locs cells slots A r h1 i1 i2 w1 w2 w5 ⟨by omega, by omega⟩ (by rw [cv_cats]; exact c1)) w2 (fun H1 locs1 v1 v2 => ?_)
      have q := k H1 locs1 (cells + mc y) (slots + ms y) A (Wl_congr rfl rfl rfl v1) v2 (by show cells + mc y + (h.2.1 - mc y) = _; omega) (by show slots + ms y + (h.2.2.1 - ms y) = _; omega) w5
      rw [List.map_append] at q
      have e1 : ((r.map Value.int).toList).map (cv b base) = (r.map Value.int).toList := by cases r <;> rfl
      rw [e1] at q
      exact q
  · cases hh
theorem s_vir {i : Nat} (G : Gx X m) (IH : Cs X E m) (hd : decode (mB m) pc = .ok (.invokevirtual i, 3)) (hh : hVir E m i pc ls st h = some (.inr (pc', ls', st', h'))) (k : Rn X m pc' ls' st' h') : Rn X m pc ls st h := by
  unfold hVir at hh
  split at hh
  · rename_i y hy
    split at hh
    · rename_i hkd
      split at hh
      · rename_i a rest hdr
        split at hh
        · rename_i hin
          obtain ⟨hk9, hin⟩ := hin
          obtain ⟨a', rfl⟩ := Nat.exists_eq_add_one_of_ne_zero hin.1
          have hm : m < 200 := by
            obtain ⟨p, l, e, R, s, mi, args, below, meth, c, Q, b, base, L, xs, D, cI, cII⟩ := X
            obtain ⟨hx1, hb, hml, hown, hts, hK, g1, g2, g3, g4, g5, g6, g7, g8, hm, -⟩ := G
            exact hm
          obtain ⟨f1, f2⟩ := mlk_ok hm hy
          refine s_call G IH f2 hh k ?_
          obtain ⟨p, l, e, R, s, mi, args, below, meth, c, Q, b, base, L, xs, D, cI, cII⟩ := X
          intro H locs cells slots A r h1 i1 i2 w1 w2 w5 hf hcat
          have cb := call_b G f2 f1 i1
          have pr := pre_ok (As := .ref (a' + 1) :: (st.take (mP y)).reverse) (y := y) G w1 w2
          obtain ⟨hx1, hb, hml, hown, hts, hK, g1, g2, g3, g4, g5, g6, g7, g8, hm, -⟩ := G
          have hlt : a' < h.1 := hin.2.1
          have hg := wd_get (b := b) (base := base) (cI := cI) (cII := cII) hlt
          rw [cE_obj hin.2.2] at hg
          have hcls : (mN y).cls = cNm (mK y) := mK_ok y (by omega) hk9
          have hrec := va_recv hK w1.2.1 (clss_get (mK y) hk9) hg
          have e0 : cv b base (.ref (a' + 1)) = .ref (base + a') := by show Value.ref (ad b base (a' + 1)) = _; rw [ad_succ]
          unfold CT at i2
          rw [List.map_cons, e0] at pr i2
          refine va_runV (nL := mL m) (n := mP y) (As := (st.take (mP y)).reverse.map (cv b base)) (b := base + a') ⟨hx1, hb, hml, hown, hts⟩ i2 (C := (mN y).cls) ⟨cb, hts _ (ins_in y f2 (by rw [hkd]; decide)), hts _ (sel_in y f2 hkd)⟩ ⟨pr.1, by rw [hcls]; exact hrec, pr.2⟩ rfl ?_ w5.1 ?_ ?_ hd hf
          · rw [List.length_map, List.length_reverse]
            exact drop_len hdr
          · show st.map (cv b base) = _
            rw [take_rev (As := []) hdr, e0]
          · exact lv_room hcat
        · cases hh
      · cases hh
    · cases hh
  · cases hh
end SNB
