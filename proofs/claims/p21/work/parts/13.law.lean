/-! THE LAW'S START: what the small machine says of the law is what the machine does -/
def R_law : String := "StrongCellsLaw"
def lw_P (b : Addr) (xs : List Int32) (args : Array Value) (s : State) : Prop := args = #[.ref b] ∧ s.IntsAt b xs ∧ xs.length ≤ 260 ∧ (Jvm.Cond.and given_1 narrow_1).before args s = true
def lw_Q (_ : Array Value) (s : State) (o : Outcome) (t : State) : Prop := o = .returned (some (.int 1)) ∧ Framed s o t [] 600000 7302250
def lw_Z (below : List Frame) (a : Array Value) (s : State) : State → Prop := fun t => ∃ o, t.status = .running ∧ Ended t below o ∧ lw_Q a s o t
/-- the law's own end, with 1 on the stack, nothing written that was there before, its room as the claim has it -/
theorem lw_ret {p : Program} {l : Launch} {e : Env} {s : State} {m : MethodId} {below : List Frame} {meth : Method} {c : Code} {b : Nat} (hx : p.tables.exec = Jvm.exec) (hb : c.code = code) (hr : meth.sig.returnType = ret) (hlocks : meth.locks = false) {pc : Nat} {H : Heap} {ls : Array Slot} (hdg : decode code pc = .ok (.ireturn, 1)) : W p l e room_1 s m #[Value.ref b] below meth c H [] 600000 7302250 (lw_Z below #[Value.ref b] s) (F0 m pc ls [.int 1]) := by
  intro T hT X
  obtain ⟨fs, hret, hrun, hended, hW, hframe⟩ := X.leave (v := some (.int 1)) (hlocks := hlocks) (fun h => by rw [hr] at h; cases h)
  have hmeth' : T.vm.method? m = some meth := X.method'
  refine ⟨T.setFrames fs, ?_, .returned (some (.int 1)), hrun, hended, rfl, ⟨_, rfl⟩, hW, hframe⟩
  jvm_step X.here [X.here.top, hx, hb, hdg, hmeth', hr, ret, narrow_b1]
  (try refine ⟨rfl, ?_⟩); (try refine ⟨rfl, ?_⟩)
  first | (intro acts; rw [hret _ acts rfl rfl rfl]) | rw [hret _ _ rfl rfl rfl]
  exact Steps.refl _
/-- what holds at the law's entry: the machine, the code, the tables' words (any of lw_tbl by 'hts w (by decide +kernel)'), the script of L ints xs at the cell b, what the Statement gives of the start (any of its parts by flat_of_before) -/
def lw_At (p : Program) (s : State) (m : MethodId) (meth : Method) (c : Code) (b L : Nat) (xs : Nat → Int32) : Prop :=
  p.tables.exec = Jvm.exec ∧ c.code = code ∧ meth.sig.returnType = ret ∧ c.maxLocals = 6 ∧ s.vm.findClass R_law = some m.cls ∧ (∀ w ∈ lw_tbl, w.before #[Value.ref b] s = true) ∧ va_X b L xs s s.heap ∧ b < s.heap.size ∧ meth.locks = false ∧ (Jvm.Cond.and given_1 narrow_1).before #[Value.ref b] s = true
/-- the small machine's memory at the law's start: the script alone -/
def H00 (L : Nat) (xs : Nat → Int32) : Hp := (0, mc 199, ms 199, fun _ => (0, L, fun _ => none), fun _ => xs)
theorem law_start (HM : MnaOk) {p : Program} {e : Env} {s : State} {m : MethodId} {below : List Frame} {meth : Method} {c : Code} (l : Launch) {b L : Nat} {xs : Nat → Int32} (C0 : lw_At p s m meth c b L xs) {h' : Hp} (hden : Den 199 [.ref 0] (H00 L xs) = some (some 1, h')) :
    W p l e room_1 s m #[Value.ref b] below meth c s.heap [] 0 0 (lw_Z below #[Value.ref b] s) (entryFrame m ([Value.ref b] : List Value).toArray 6) := by
  obtain ⟨hx, hb, hr, hml, hown, hts0, hX, hbl, hlocks, hgv⟩ := C0
  have hts : ∀ w ∈ wsAll, w.before #[Value.ref b] s = true := fun w hw => hts0 w (List.mem_filter.mp hw).1
  have hNW : NW s := by
    refine ⟨fun w hw => ?_, hts0 _ sp_arO⟩
    have h1 := hts0 w (nstW_in w hw)
    obtain ⟨e9, -, rfl⟩ := List.mem_map.mp hw
    exact va_Nw.of rfl h1
  obtain ⟨cI, kI, compI, i1, i2, i3⟩ := Cond.arrayClass_spec (hts _ sp_arI)
  obtain ⟨comp, cII, kII, j1, -, j2, j3, j4⟩ := aoa_spec hNW.2
  have hkn : ∀ k, k < 8 → ∃ (cC : ClassId) (iS : Nat → Nat), u_Kn s (cNm k) (TTT k) (cNf k) cC iS := by
    intro k hk
    obtain ⟨e9, he9, h2⟩ := List.any_eq_true.mp ((by decide +kernel : ∀ k, k < 8 → clT.any (fun e => e.2.2.1 == k) = true) k hk)
    simp only [beq_iff_eq] at h2
    have h3 := List.all_eq_true.mp clT_ok e9 he9
    simp only [Bool.and_eq_true, decide_eq_true_eq] at h3
    rw [h2] at h3
    exact u_known (ws := wsAll) hts (lay_in k hk) (hts _ (wsAll_of h3.1.1.2.1 h3.1.1.2.2))
  obtain ⟨dC, dI, hKc⟩ : ∃ (dC : Nat → ClassId) (dI : Nat → Nat → Nat), ∀ k, k < 8 → u_Kn s (cNm k) (TTT k) (cNf k) (dC k) (dI k) := by
    have h9 : ∀ k, ∃ (z : ClassId × (Nat → Nat)), k < 8 → u_Kn s (cNm k) (TTT k) (cNf k) z.1 z.2 := by
      intro k
      by_cases hk : k < 8
      · obtain ⟨a, q, h⟩ := hkn k hk
        exact ⟨(a, q), fun _ => h⟩
      · exact ⟨(0, fun _ => 0), fun h => absurd h hk⟩
    exact ⟨fun k => (Classical.choose (h9 k)).1, fun k => (Classical.choose (h9 k)).2, fun k hk => Classical.choose_spec (h9 k) hk⟩
  have hK : va_K (dC, dI) clss [(cI, .int), (cII, .array .int)] s := by
    refine ⟨fun k q hq => ?_, fun k q hq => ?_⟩
    · have hk : k < 8 := (List.getElem?_eq_some_iff.mp hq).1
      rw [clss_get k hk] at hq
      cases hq
      exact hKc k hk
    · match k, hq with
      | 0, hq => cases hq; exact ⟨fun n z => ⟨fun k h => (by cases h), kI, i2, compI, i3⟩, i1⟩
      | 1, hq => cases hq; exact ⟨fun n z => ⟨fun k h => (by cases h), kII, j2, comp, j3⟩, j4⟩
      | k + 2, hq => cases hq
  rw [Den_eq] at hden
  split at hden
  · rename_i hc
    obtain ⟨n, hn⟩ := rn_iff.mp hden
    have G : Gx (p, l, e, room_1, s, m, #[Value.ref b], below, meth, c, lw_Z below #[Value.ref b] s, b, s.heap.size, L, xs, (dC, dI), cI, cII) 199 :=
      ⟨hx, hb, hml, hown, hts, hK, Nat.le_refl _, hbl, hX, fun hk => absurd hk (by decide), by decide, by decide, by decide, by decide, by decide, hNW, hlocks⟩
    have IH : Cs (p, l, e, room_1, s, m, #[Value.ref b], below, meth, c, lw_Z below #[Value.ref b] s, b, s.heap.size, L, xs, (dC, dI), cI, cII) (EE 199) 199 := by
      intro z As' h1 r1 h2 hz hb1 hb2 hE
      unfold EE at hE
      split at hE
      · rename_i hlt
        exact ⟨hlt, den_ok HM l b s.heap.size L xs (dC, dI) cI cII (ht z + 1) z (by omega) hz As' h1 r1 h2 hb1 hb2 hE⟩
      · cases hE
    have RK : RetK (p, l, e, room_1, s, m, #[Value.ref b], below, meth, c, lw_Z below #[Value.ref b] s, b, s.heap.size, L, xs, (dC, dI), cI, cII) 199 (some 1) h' := by
      intro H locs cells slots pc A w1 w2 w3 w4 w5
      rcases w5 with ⟨v, hv, hdec, -⟩ | ⟨hv, -, -⟩
      · refine va_forget (fun q hq => w2.2.2 q hq) ?_
        refine W.widen (k := 600000) (n := 7302250) (Nat.le_trans w3 (by decide)) (Nat.le_trans w4 (by decide)) ?_
        exact lw_ret hx hb hr hlocks hdec
      · cases hv
    have k := run_ok HM G IH RK n 0 (ent [.ref 0] (mL 199)) [] (H00 L xs) hn
    have hP0 : va_P (dC, dI) clss (wd b s.heap.size cI cII (H00 L xs)) s.heap := fun k q hq => by
      have := (wd_key hq).2
      exact absurd this (Nat.not_lt_zero _)
    have k2 := k s.heap [] 0 0 _ ⟨rfl, hP0, rfl, rfl, rfl⟩ va_S.rf (Nat.zero_add _) (Nat.zero_add _) (ent_LH b s.heap.size 199 [.ref 0] hc.1 hc.2)
    rw [lg_entry_eq]
    have e0 : ([.ref 0] : List Value).map (cv b s.heap.size) = [.ref b] := by show [Value.ref (ad b s.heap.size 0)] = _; rw [ad_zero]
    rw [e0] at k2
    exact k2
  · cases hden

