/-! THE SMALL MACHINE IS SOUND: each instruction -/
abbrev Cx : Type := Program × Launch × Env × Room × State × MethodId × Array Value × List Frame × Method × Code × (State → Prop) × Nat × Nat × Nat × (Nat → Int32) × va_G × ClassId × ClassId
/-- the class numbers that a method's calls and makings look at, kept from caller to callee -/
def NW (U : State) : Prop := (∀ w ∈ nstW, va_Nw w U) ∧ (Cond.arrayOver (.array .int)).before #[] U = true
def Gx (X : Cx) (m : Nat) : Prop := match X with
  | (p, l, e, R, s, mi, args, below, meth, c, Q, b, base, L, xs, D, cI, cII) =>
    p.tables.exec = Jvm.exec ∧ c.code = mB m ∧ c.maxLocals = mL m ∧ s.vm.findClass (mN m).cls = some mi.cls ∧ (∀ w ∈ wsAll, w.before args s = true) ∧
    va_K D clss [(cI, .int), (cII, .array .int)] s ∧ base ≤ s.heap.size ∧ b < base ∧ va_X b L xs s s.heap ∧ (kd m = 2 → meth.name = "<init>") ∧ ht m ≤ R.frames ∧ 30 * ht m ≤ R.locals ∧ mc m ≤ R.cells ∧ ms m ≤ R.slots ∧ m < 200 ∧ NW s ∧ meth.locks = false
def Rn (X : Cx) (m pc : Nat) (ls st : List Value) (h : Hp) : Prop := match X with
  | (p, l, e, R, s, mi, args, below, meth, c, Q, b, base, L, xs, D, cI, cII) =>
    ∀ (H : Heap) (locs : List Loc) (cells slots : Nat) (A : Array Slot), Wl b base L xs D cI cII h H → va_S (Ow base) s.heap H locs → cells + h.2.1 = mc m → slots + h.2.2.1 = ms m → LH b base A m ls →
      W p l e R s mi args below meth c H locs cells slots Q (F0 mi pc A (st.map (cv b base)))
section SND
variable {X : Cx} {m pc pc' : Nat} {ls st ls' st' : List Value} {h h' : Hp}
theorem s_k {v : Option Int32} {n : Nat} (k : Rn X m pc' ls' st' h') (hh : hK v n pc ls st h = some (.inr (pc', ls', st', h')))
    (row : ∀ (x : Int32), v = some x → match X with
      | (p, l, e, R, s, mi, args, below, meth, c, Q, b, base, L, xs, D, cI, cII) => ∀ (H : Heap) (locs : List Loc) (cells slots : Nat) (A : Array Slot) (rest : List Value), W p l e R s mi args below meth c H locs cells slots Q (F0 mi (pc + n) A (.int x :: rest)) → W p l e R s mi args below meth c H locs cells slots Q (F0 mi pc A rest)) : Rn X m pc ls st h := by
  obtain ⟨p, l, e, R, s, mi, args, below, meth, c, Q, b, base, L, xs, D, cI, cII⟩ := X
  cases v with
  | none => cases hh
  | some x =>
    cases hh
    intro H locs cells slots A w1 w2 w3 w4 w5
    exact row x rfl H locs cells slots A _ (k H locs cells slots A w1 w2 w3 w4 w5)
theorem s_kl {v : Option Int64} {n : Nat} (k : Rn X m pc' ls' st' h') (hh : hKl v n pc ls st h = some (.inr (pc', ls', st', h')))
    (row : ∀ (x : Int64), v = some x → match X with
      | (p, l, e, R, s, mi, args, below, meth, c, Q, b, base, L, xs, D, cI, cII) => ∀ (H : Heap) (locs : List Loc) (cells slots : Nat) (A : Array Slot) (rest : List Value), W p l e R s mi args below meth c H locs cells slots Q (F0 mi (pc + n) A (.long x :: rest)) → W p l e R s mi args below meth c H locs cells slots Q (F0 mi pc A rest)) : Rn X m pc ls st h := by
  obtain ⟨p, l, e, R, s, mi, args, below, meth, c, Q, b, base, L, xs, D, cI, cII⟩ := X
  cases v with
  | none => cases hh
  | some x =>
    cases hh
    intro H locs cells slots A w1 w2 w3 w4 w5
    exact row x rfl H locs cells slots A _ (k H locs cells slots A w1 w2 w3 w4 w5)
theorem s_iconst {n : Int} (G : Gx X m) (hd : decode (mB m) pc = .ok (.iconst n, 1)) (hh : hK (some (Int32.ofInt n)) 1 pc ls st h = some (.inr (pc', ls', st', h'))) (k : Rn X m pc' ls' st' h') : Rn X m pc ls st h :=
  s_k k hh (fun x hx => by
    obtain ⟨p, l, e, R, s, mi, args, below, meth, c, Q, b, base, L, xs, D, cI, cII⟩ := X
    intro H locs cells slots A rest q
    exact lv_iconst G.1 G.2.1 hd (Option.some.inj hx) q)
theorem s_bipush {n : Int} (G : Gx X m) (hd : decode (mB m) pc = .ok (.bipush n, 2)) (hh : hK (some (Int8.ofInt n).toInt32) 2 pc ls st h = some (.inr (pc', ls', st', h'))) (k : Rn X m pc' ls' st' h') : Rn X m pc ls st h :=
  s_k k hh (fun x hx => by
    obtain ⟨p, l, e, R, s, mi, args, below, meth, c, Q, b, base, L, xs, D, cI, cII⟩ := X
    intro H locs cells slots A rest q
    exact lv_bipush G.1 G.2.1 hd (Option.some.inj hx) q)
theorem s_sipush {n : Int} (G : Gx X m) (hd : decode (mB m) pc = .ok (.sipush n, 3)) (hh : hK (some (Int16.ofInt n).toInt32) 3 pc ls st h = some (.inr (pc', ls', st', h'))) (k : Rn X m pc' ls' st' h') : Rn X m pc ls st h :=
  s_k k hh (fun x hx => by
    obtain ⟨p, l, e, R, s, mi, args, below, meth, c, Q, b, base, L, xs, D, cI, cII⟩ := X
    intro H locs cells slots A rest q
    exact lv_sipush G.1 G.2.1 hd (Option.some.inj hx) q)
theorem s_ldc {i : Nat} (G : Gx X m) (hd : decode (mB m) pc = .ok (.ldc i, 2)) (hh : hK (kik m i) 2 pc ls st h = some (.inr (pc', ls', st', h'))) (k : Rn X m pc' ls' st' h') : Rn X m pc ls st h :=
  s_k k hh (fun x hx => by
    obtain ⟨p, l, e, R, s, mi, args, below, meth, c, Q, b, base, L, xs, D, cI, cII⟩ := X
    obtain ⟨hx1, hb, hml, hown, hts, hK, h1, h2, h3, h4, h5, h6, h7, h8, hm, -⟩ := G
    intro H locs cells slots A rest q
    exact lv_ldc hx1 hb hown (hts _ (kik_ok hm hx)) hd q)
theorem s_ldcw {i : Nat} (G : Gx X m) (hd : decode (mB m) pc = .ok (.ldc_w i, 3)) (hh : hK (kik m i) 3 pc ls st h = some (.inr (pc', ls', st', h'))) (k : Rn X m pc' ls' st' h') : Rn X m pc ls st h :=
  s_k k hh (fun x hx => by
    obtain ⟨p, l, e, R, s, mi, args, below, meth, c, Q, b, base, L, xs, D, cI, cII⟩ := X
    obtain ⟨hx1, hb, hml, hown, hts, hK, h1, h2, h3, h4, h5, h6, h7, h8, hm, -⟩ := G
    intro H locs cells slots A rest q
    exact lv_ldcw hx1 hb hown (hts _ (kik_ok hm hx)) hd q)
theorem s_lconst {n : Fin 2} (G : Gx X m) (hd : decode (mB m) pc = .ok (.lconst n, 1)) (hh : hKl (some (Int64.ofNat (n : Nat))) 1 pc ls st h = some (.inr (pc', ls', st', h'))) (k : Rn X m pc' ls' st' h') : Rn X m pc ls st h :=
  s_kl k hh (fun x hx => by
    obtain ⟨p, l, e, R, s, mi, args, below, meth, c, Q, b, base, L, xs, D, cI, cII⟩ := X
    intro H locs cells slots A rest q
    exact lv_lconst G.1 G.2.1 hd (Option.some.inj hx) q)
theorem s_ldc2 {i : Nat} (G : Gx X m) (hd : decode (mB m) pc = .ok (.ldc2_w i, 3)) (hh : hKl (klk m i) 3 pc ls st h = some (.inr (pc', ls', st', h'))) (k : Rn X m pc' ls' st' h') : Rn X m pc ls st h :=
  s_kl k hh (fun x hx => by
    obtain ⟨p, l, e, R, s, mi, args, below, meth, c, Q, b, base, L, xs, D, cI, cII⟩ := X
    obtain ⟨hx1, hb, hml, hown, hts, hK, h1, h2, h3, h4, h5, h6, h7, h8, hm, -⟩ := G
    intro H locs cells slots A rest q
    exact lv_ldc2 hx1 hb hown (hts _ (klk_ok hm hx)) hd q)
/-- a local read -/
theorem LH.at {b base : Nat} {A : Array Slot} {i : Nat} {v : Value} (w : LH b base A m ls) (hv : ls[i]? = some v) (hr : ∀ r, v ≠ .retAddr r) : A[i]? = some (.val (cv b base v)) := w.2.2.2.1 i v hv hr
theorem s_iload {i : Nat} {n : Nat} (k : Rn X m pc' ls' st' h') (hh : hIld i n pc ls st h = some (.inr (pc', ls', st', h')))
    (row : ∀ (x : Int32), match X with
      | (p, l, e, R, s, mi, args, below, meth, c, Q, b, base, L, xs, D, cI, cII) => ∀ (H : Heap) (locs : List Loc) (cells slots : Nat) (A : Array Slot) (rest : List Value), A[i]? = some (.val (.int x)) → W p l e R s mi args below meth c H locs cells slots Q (F0 mi (pc + n) A (.int x :: rest)) → W p l e R s mi args below meth c H locs cells slots Q (F0 mi pc A rest)) : Rn X m pc ls st h := by
  obtain ⟨p, l, e, R, s, mi, args, below, meth, c, Q, b, base, L, xs, D, cI, cII⟩ := X
  unfold hIld at hh
  split at hh
  · rename_i x hv
    cases hh
    intro H locs cells slots A w1 w2 w3 w4 w5
    exact row x H locs cells slots A _ (w5.at hv (fun r => by simp)) (k H locs cells slots A w1 w2 w3 w4 w5)
  · cases hh
theorem s_lload {i : Nat} {n : Nat} (k : Rn X m pc' ls' st' h') (hh : hLld i n pc ls st h = some (.inr (pc', ls', st', h')))
    (row : ∀ (x : Int64), match X with
      | (p, l, e, R, s, mi, args, below, meth, c, Q, b, base, L, xs, D, cI, cII) => ∀ (H : Heap) (locs : List Loc) (cells slots : Nat) (A : Array Slot) (rest : List Value), A[i]? = some (.val (.long x)) → W p l e R s mi args below meth c H locs cells slots Q (F0 mi (pc + n) A (.long x :: rest)) → W p l e R s mi args below meth c H locs cells slots Q (F0 mi pc A rest)) : Rn X m pc ls st h := by
  obtain ⟨p, l, e, R, s, mi, args, below, meth, c, Q, b, base, L, xs, D, cI, cII⟩ := X
  unfold hLld at hh
  split at hh
  · rename_i x hv
    cases hh
    intro H locs cells slots A w1 w2 w3 w4 w5
    exact row x H locs cells slots A _ (w5.at hv (fun r => by simp)) (k H locs cells slots A w1 w2 w3 w4 w5)
  · cases hh
theorem s_aload {i : Nat} {n : Nat} (k : Rn X m pc' ls' st' h') (hh : hAld i n pc ls st h = some (.inr (pc', ls', st', h')))
    (row : ∀ (x : Nat), match X with
      | (p, l, e, R, s, mi, args, below, meth, c, Q, b, base, L, xs, D, cI, cII) => ∀ (H : Heap) (locs : List Loc) (cells slots : Nat) (A : Array Slot) (rest : List Value), A[i]? = some (.val (.ref x)) → W p l e R s mi args below meth c H locs cells slots Q (F0 mi (pc + n) A (.ref x :: rest)) → W p l e R s mi args below meth c H locs cells slots Q (F0 mi pc A rest)) : Rn X m pc ls st h := by
  obtain ⟨p, l, e, R, s, mi, args, below, meth, c, Q, b, base, L, xs, D, cI, cII⟩ := X
  unfold hAld at hh
  split at hh
  · rename_i x hv
    cases hh
    intro H locs cells slots A w1 w2 w3 w4 w5
    exact row (ad b base x) H locs cells slots A _ (w5.at hv (fun r => by simp)) (k H locs cells slots A w1 w2 w3 w4 w5)
  · cases hh
/-- a local written -/
theorem s_istore {i n : Nat} (k : Rn X m pc' ls' st' h') (hh : hIst m i n pc ls st h = some (.inr (pc', ls', st', h')))
    (row : ∀ (x : Int32), match X with
      | (p, l, e, R, s, mi, args, below, meth, c, Q, b, base, L, xs, D, cI, cII) => ∀ (H : Heap) (locs : List Loc) (cells slots : Nat) (A : Array Slot) (rest : List Value) (nL : Nat) (lv : List (Nat × Value)), lv_has A nL lv → i < nL →
        (∀ A' : Array Slot, lv_has A' nL ((i, .int x) :: lv.filter (fun q => !(q.1 == i) && !(q.1 + 1 == i && q.2.category == 2))) → W p l e R s mi args below meth c H locs cells slots Q (F0 mi (pc + n) A' rest)) → W p l e R s mi args below meth c H locs cells slots Q (F0 mi pc A (.int x :: rest))) : Rn X m pc ls st h := by
  obtain ⟨p, l, e, R, s, mi, args, below, meth, c, Q, b, base, L, xs, D, cI, cII⟩ := X
  unfold hIst at hh
  split at hh
  · rename_i x st0
    split at hh
    · rename_i hc
      cases hh
      intro H locs cells slots A w1 w2 w3 w4 w5
      exact row x H locs cells slots A _ _ _ w5.has (by rw [← w5.2.2.1]; exact hc.2) (fun A' hA' => k H locs cells slots A' w1 w2 w3 w4 (w5.set hc.1 (v := .int x) rfl hA'))
    · cases hh
  · cases hh
theorem s_astore {i n : Nat} (k : Rn X m pc' ls' st' h') (hh : hAst m i n pc ls st h = some (.inr (pc', ls', st', h')))
    (row : ∀ (x : Nat), match X with
      | (p, l, e, R, s, mi, args, below, meth, c, Q, b, base, L, xs, D, cI, cII) => ∀ (H : Heap) (locs : List Loc) (cells slots : Nat) (A : Array Slot) (rest : List Value) (nL : Nat) (lv : List (Nat × Value)), lv_has A nL lv → i < nL →
        (∀ A' : Array Slot, lv_has A' nL ((i, .ref x) :: lv.filter (fun q => !(q.1 == i) && !(q.1 + 1 == i && q.2.category == 2))) → W p l e R s mi args below meth c H locs cells slots Q (F0 mi (pc + n) A' rest)) → W p l e R s mi args below meth c H locs cells slots Q (F0 mi pc A (.ref x :: rest))) : Rn X m pc ls st h := by
  obtain ⟨p, l, e, R, s, mi, args, below, meth, c, Q, b, base, L, xs, D, cI, cII⟩ := X
  unfold hAst at hh
  split at hh
  · rename_i x st0
    split at hh
    · rename_i hc
      cases hh
      intro H locs cells slots A w1 w2 w3 w4 w5
      exact row (ad b base x) H locs cells slots A _ _ _ w5.has (by rw [← w5.2.2.1]; exact hc.2) (fun A' hA' => k H locs cells slots A' w1 w2 w3 w4 (w5.set hc.1 (v := .ref x) rfl hA'))
    · cases hh
  · cases hh
theorem s_iinc {i : Nat} {n : Int} (G : Gx X m) (hd : decode (mB m) pc = .ok (.iinc i n, 3)) (hh : hInc m i n pc ls st h = some (.inr (pc', ls', st', h'))) (k : Rn X m pc' ls' st' h') : Rn X m pc ls st h := by
  obtain ⟨p, l, e, R, s, mi, args, below, meth, c, Q, b, base, L, xs, D, cI, cII⟩ := X
  unfold hInc at hh
  split at hh
  · rename_i x hv
    split at hh
    · rename_i hc
      cases hh
      intro H locs cells slots A w1 w2 w3 w4 w5
      have hmem := lvl_mem (b := b) (base := base) hv (fun r => by simp)
      obtain ⟨j, hj⟩ := List.getElem?_of_mem hmem
      exact lv_iinc (x := x) (v := x + Int32.ofInt n) G.1 G.2.1 hd w5.has hj rfl (by rw [← w5.2.2.1]; exact (List.getElem?_eq_some_iff.mp hv).1) rfl (fun A' hA' => k H locs cells slots A' w1 w2 w3 w4 (w5.set hc (v := .int (x + Int32.ofInt n)) rfl hA'))
    · cases hh
  · cases hh
theorem s_bin {f : Int32 → Int32 → Int32} (k : Rn X m pc' ls' st' h') (hh : hBin f pc ls st h = some (.inr (pc', ls', st', h')))
    (row : ∀ (x y : Int32), match X with
      | (p, l, e, R, s, mi, args, below, meth, c, Q, b, base, L, xs, D, cI, cII) => ∀ (H : Heap) (locs : List Loc) (cells slots : Nat) (A : Array Slot) (rest : List Value), W p l e R s mi args below meth c H locs cells slots Q (F0 mi (pc + 1) A (.int (f x y) :: rest)) → W p l e R s mi args below meth c H locs cells slots Q (F0 mi pc A (.int y :: .int x :: rest))) : Rn X m pc ls st h := by
  obtain ⟨p, l, e, R, s, mi, args, below, meth, c, Q, b, base, L, xs, D, cI, cII⟩ := X
  unfold hBin at hh
  split at hh
  · cases hh
    intro H locs cells slots A w1 w2 w3 w4 w5
    exact row _ _ H locs cells slots A _ (k H locs cells slots A w1 w2 w3 w4 w5)
  · cases hh
theorem s_div {f : Int32 → Int32 → Int32} (k : Rn X m pc' ls' st' h') (hh : hDiv f pc ls st h = some (.inr (pc', ls', st', h')))
    (row : ∀ (x y : Int32), ¬ y = 0 → match X with
      | (p, l, e, R, s, mi, args, below, meth, c, Q, b, base, L, xs, D, cI, cII) => ∀ (H : Heap) (locs : List Loc) (cells slots : Nat) (A : Array Slot) (rest : List Value), W p l e R s mi args below meth c H locs cells slots Q (F0 mi (pc + 1) A (.int (f x y) :: rest)) → W p l e R s mi args below meth c H locs cells slots Q (F0 mi pc A (.int y :: .int x :: rest))) : Rn X m pc ls st h := by
  obtain ⟨p, l, e, R, s, mi, args, below, meth, c, Q, b, base, L, xs, D, cI, cII⟩ := X
  unfold hDiv at hh
  split at hh
  · split at hh
    · cases hh
    · rename_i hy
      cases hh
      intro H locs cells slots A w1 w2 w3 w4 w5
      exact row _ _ hy H locs cells slots A _ (k H locs cells slots A w1 w2 w3 w4 w5)
  · cases hh
theorem s_binL {f : Int64 → Int64 → Int64} (k : Rn X m pc' ls' st' h') (hh : hBinL f pc ls st h = some (.inr (pc', ls', st', h')))
    (row : ∀ (x y : Int64), match X with
      | (p, l, e, R, s, mi, args, below, meth, c, Q, b, base, L, xs, D, cI, cII) => ∀ (H : Heap) (locs : List Loc) (cells slots : Nat) (A : Array Slot) (rest : List Value), W p l e R s mi args below meth c H locs cells slots Q (F0 mi (pc + 1) A (.long (f x y) :: rest)) → W p l e R s mi args below meth c H locs cells slots Q (F0 mi pc A (.long y :: .long x :: rest))) : Rn X m pc ls st h := by
  obtain ⟨p, l, e, R, s, mi, args, below, meth, c, Q, b, base, L, xs, D, cI, cII⟩ := X
  unfold hBinL at hh
  split at hh
  · cases hh
    intro H locs cells slots A w1 w2 w3 w4 w5
    exact row _ _ H locs cells slots A _ (k H locs cells slots A w1 w2 w3 w4 w5)
  · cases hh
theorem s_lrem (G : Gx X m) (hd : decode (mB m) pc = .ok (.lrem, 1)) (hh : hRemL pc ls st h = some (.inr (pc', ls', st', h'))) (k : Rn X m pc' ls' st' h') : Rn X m pc ls st h := by
  obtain ⟨p, l, e, R, s, mi, args, below, meth, c, Q, b, base, L, xs, D, cI, cII⟩ := X
  unfold hRemL at hh
  split at hh
  · split at hh
    · cases hh
    · rename_i hy
      cases hh
      intro H locs cells slots A w1 w2 w3 w4 w5
      exact lv_lrem G.1 G.2.1 hd hy (k H locs cells slots A w1 w2 w3 w4 w5)
  · cases hh
theorem s_lcmp (G : Gx X m) (hd : decode (mB m) pc = .ok (.lcmp, 1)) (hh : hCmpL pc ls st h = some (.inr (pc', ls', st', h'))) (k : Rn X m pc' ls' st' h') : Rn X m pc ls st h := by
  obtain ⟨p, l, e, R, s, mi, args, below, meth, c, Q, b, base, L, xs, D, cI, cII⟩ := X
  unfold hCmpL at hh
  split at hh
  · cases hh
    intro H locs cells slots A w1 w2 w3 w4 w5
    exact W.lcmp G.1 G.2.1 hd (k H locs cells slots A w1 w2 w3 w4 w5)
  · cases hh
theorem s_i2l (G : Gx X m) (hd : decode (mB m) pc = .ok (.i2l, 1)) (hh : hI2l pc ls st h = some (.inr (pc', ls', st', h'))) (k : Rn X m pc' ls' st' h') : Rn X m pc ls st h := by
  obtain ⟨p, l, e, R, s, mi, args, below, meth, c, Q, b, base, L, xs, D, cI, cII⟩ := X
  unfold hI2l at hh
  split at hh
  · cases hh
    intro H locs cells slots A w1 w2 w3 w4 w5
    exact lv_i2l G.1 G.2.1 hd rfl (k H locs cells slots A w1 w2 w3 w4 w5)
  · cases hh
theorem s_l2i (G : Gx X m) (hd : decode (mB m) pc = .ok (.l2i, 1)) (hh : hL2i pc ls st h = some (.inr (pc', ls', st', h'))) (k : Rn X m pc' ls' st' h') : Rn X m pc ls st h := by
  obtain ⟨p, l, e, R, s, mi, args, below, meth, c, Q, b, base, L, xs, D, cI, cII⟩ := X
  unfold hL2i at hh
  split at hh
  · cases hh
    intro H locs cells slots A w1 w2 w3 w4 w5
    exact lv_l2i G.1 G.2.1 hd rfl (k H locs cells slots A w1 w2 w3 w4 w5)
  · cases hh
theorem s_dup (G : Gx X m) (hd : decode (mB m) pc = .ok (.dup, 1)) (hh : hDup pc ls st h = some (.inr (pc', ls', st', h'))) (k : Rn X m pc' ls' st' h') : Rn X m pc ls st h := by
  obtain ⟨p, l, e, R, s, mi, args, below, meth, c, Q, b, base, L, xs, D, cI, cII⟩ := X
  unfold hDup at hh
  split at hh
  · cases hh
    intro H locs cells slots A w1 w2 w3 w4 w5
    exact lv_dup (va := .int _) G.1 G.2.1 hd rfl (k H locs cells slots A w1 w2 w3 w4 w5)
  · cases hh
    intro H locs cells slots A w1 w2 w3 w4 w5
    exact lv_dup (va := .ref _) G.1 G.2.1 hd rfl (k H locs cells slots A w1 w2 w3 w4 w5)
  · cases hh
theorem s_dup2 (G : Gx X m) (hd : decode (mB m) pc = .ok (.dup2, 1)) (hh : hDup2 pc ls st h = some (.inr (pc', ls', st', h'))) (k : Rn X m pc' ls' st' h') : Rn X m pc ls st h := by
  obtain ⟨p, l, e, R, s, mi, args, below, meth, c, Q, b, base, L, xs, D, cI, cII⟩ := X
  unfold hDup2 at hh
  split at hh
  · cases hh
    intro H locs cells slots A w1 w2 w3 w4 w5
    exact lv_dup2_11 (va := .int _) (vb := .ref _) G.1 G.2.1 hd rfl rfl (k H locs cells slots A w1 w2 w3 w4 w5)
  · cases hh
theorem s_pop (G : Gx X m) (hd : decode (mB m) pc = .ok (.pop, 1)) (hh : hPop pc ls st h = some (.inr (pc', ls', st', h'))) (k : Rn X m pc' ls' st' h') : Rn X m pc ls st h := by
  obtain ⟨p, l, e, R, s, mi, args, below, meth, c, Q, b, base, L, xs, D, cI, cII⟩ := X
  unfold hPop at hh
  split at hh
  · cases hh
    intro H locs cells slots A w1 w2 w3 w4 w5
    exact lv_pop (va := .int _) G.1 G.2.1 hd rfl (k H locs cells slots A w1 w2 w3 w4 w5)
  · cases hh
theorem tg_ok {pc : Nat} {off : Int} (h : 0 ≤ (pc : Int) + off) : (pc : Int) + off = (tg pc off : Int) := by
  show _ = (((pc : Int) + off).toNat : Int)
  omega
theorem s_br {off : Int} {q : Prop} {dq : Decidable q} {st0 : List Value} (k : Rn X m pc' ls' st' h') (hh : hBr pc off q ls st0 h = some (.inr (pc', ls', st', h')))
    (row : match X with
      | (p, l, e, R, s, mi, args, below, meth, c, Q, b, base, L, xs, D, cI, cII) => ∀ (H : Heap) (locs : List Loc) (cells slots : Nat) (A : Array Slot) (tgt : Nat), (pc : Int) + off = (tgt : Int) → (q → W p l e R s mi args below meth c H locs cells slots Q (F0 mi tgt A (st0.map (cv b base)))) → (¬ q → W p l e R s mi args below meth c H locs cells slots Q (F0 mi (pc + 3) A (st0.map (cv b base)))) → W p l e R s mi args below meth c H locs cells slots Q (F0 mi pc A (st.map (cv b base)))) : Rn X m pc ls st h := by
  obtain ⟨p, l, e, R, s, mi, args, below, meth, c, Q, b, base, L, xs, D, cI, cII⟩ := X
  unfold hBr at hh
  split at hh
  · rename_i hoff
    cases hh
    intro H locs cells slots A w1 w2 w3 w4 w5
    refine row H locs cells slots A (tg pc off) (tg_ok hoff) (fun hq => ?_) (fun hq => ?_)
    · rw [if_pos hq] at k
      exact k H locs cells slots A w1 w2 w3 w4 w5
    · rw [if_neg hq] at k
      exact k H locs cells slots A w1 w2 w3 w4 w5
  · cases hh
theorem s_if {op : ClassFile.Cond} {off : Int} (G : Gx X m) (hd : decode (mB m) pc = .ok (.ifCond op off, 3)) (hh : hIf op off pc ls st h = some (.inr (pc', ls', st', h'))) (k : Rn X m pc' ls' st' h') : Rn X m pc ls st h := by
  unfold hIf at hh
  split at hh
  · cases op <;> (
      refine s_br k hh ?_
      obtain ⟨p, l, e, R, s, mi, args, below, meth, c, Q, b, base, L, xs, D, cI, cII⟩ := X
      intro H locs cells slots A tgt ht k1 k2
      first
        | exact lv_if_eq G.1 G.2.1 hd ht k1 k2
        | exact lv_if_ne G.1 G.2.1 hd ht k1 (fun q => k2 (fun z => z q))
        | exact lv_if_lt G.1 G.2.1 hd ht k1 k2
        | exact lv_if_ge G.1 G.2.1 hd ht k1 k2
        | exact lv_if_gt G.1 G.2.1 hd ht k1 k2
        | exact lv_if_le G.1 G.2.1 hd ht k1 k2)
  · cases hh
theorem s_ic {op : ClassFile.Cond} {off : Int} (G : Gx X m) (hd : decode (mB m) pc = .ok (.if_icmp op off, 3)) (hh : hIc op off pc ls st h = some (.inr (pc', ls', st', h'))) (k : Rn X m pc' ls' st' h') : Rn X m pc ls st h := by
  unfold hIc at hh
  split at hh
  · cases op <;> (
      refine s_br k hh ?_
      obtain ⟨p, l, e, R, s, mi, args, below, meth, c, Q, b, base, L, xs, D, cI, cII⟩ := X
      intro H locs cells slots A tgt ht k1 k2
      first
        | exact lv_icmp_eq G.1 G.2.1 hd ht k1 k2
        | exact lv_icmp_ne G.1 G.2.1 hd ht k1 (fun q => k2 (fun z => z q))
        | exact lv_icmp_lt G.1 G.2.1 hd ht k1 k2
        | exact lv_icmp_ge G.1 G.2.1 hd ht k1 k2
        | exact lv_icmp_gt G.1 G.2.1 hd ht k1 k2
        | exact lv_icmp_le G.1 G.2.1 hd ht k1 k2)
  · cases hh
theorem s_goto {off : Int} (G : Gx X m) (hd : decode (mB m) pc = .ok (.goto off, 3)) (hh : hGo off pc ls st h = some (.inr (pc', ls', st', h'))) (k : Rn X m pc' ls' st' h') : Rn X m pc ls st h := by
  obtain ⟨p, l, e, R, s, mi, args, below, meth, c, Q, b, base, L, xs, D, cI, cII⟩ := X
  unfold hGo at hh
  split at hh
  · rename_i hoff
    cases hh
    intro H locs cells slots A w1 w2 w3 w4 w5
    exact lv_goto G.1 G.2.1 hd (tg_ok hoff) (k H locs cells slots A w1 w2 w3 w4 w5)
  · cases hh
theorem tsw_out {pc : Nat} {x d : Int} : ∀ (r : List Int) (k : Int), (x < k ∨ k + r.length ≤ x) → tsw pc x d k r = d
  | [], _, _ => rfl
  | o :: r, k, h => by
    rw [tsw, if_neg (by simp only [List.length_cons] at h; omega)]
    exact tsw_out r (k + 1) (by simp only [List.length_cons] at h; omega)
theorem tsw_in {pc : Nat} {x d : Int} : ∀ (r : List Int) (k : Int), k ≤ x → x < k + r.length → ∃ o, r[(x - k).toNat]? = some o ∧ o ∈ r ∧ tsw pc x d k r = o
  | [], k, h1, h2 => by simp only [List.length_nil] at h2; omega
  | o :: r, k, h1, h2 => by
    by_cases hx : x = k
    · exact ⟨o, by rw [hx]; simp, List.mem_cons_self, by rw [tsw, if_pos hx]⟩
    · obtain ⟨o', a1, a2, a3⟩ := tsw_in (pc := pc) (x := x) (d := d) r (k + 1) (by omega) (by simp only [List.length_cons] at h2; omega)
      refine ⟨o', ?_, List.mem_cons_of_mem _ a2, by rw [tsw, if_neg hx]; exact a3⟩
      have e : (x - k).toNat = (x - (k + 1)).toNat + 1 := by omega
      rw [e, List.getElem?_cons_succ]
      exact a1
theorem s_sw {d lo hi : Int} {offs : Array Int} {len : Nat} (G : Gx X m) (hd : decode (mB m) pc = .ok (.tableswitch d lo hi offs, len)) (hh : hSw d lo hi offs pc ls st h = some (.inr (pc', ls', st', h'))) (k : Rn X m pc' ls' st' h') : Rn X m pc ls st h := by
  obtain ⟨p, l, e, R, s, mi, args, below, meth, c, Q, b, base, L, xs, D, cI, cII⟩ := X
  unfold hSw at hh
  split at hh
  · rename_i x st0
    split at hh
    · rename_i hc
      obtain ⟨c1, c2, c3⟩ := hc
      cases hh
      intro H locs cells slots A w1 w2 w3 w4 w5
      have hlen : (offs.toList.length : Int) = offs.size := by simp
      by_cases hx : x.toInt < lo ∨ hi < x.toInt
      · have e1 := tsw_out (pc := pc) (x := x.toInt) (d := d) offs.toList lo (by omega)
        rw [e1] at k
        exact lv_tableOut G.1 G.2.1 hd hx (tg_ok c2) (k H locs cells slots A w1 w2 w3 w4 w5)
      · obtain ⟨o, a1, a2, a3⟩ := tsw_in (pc := pc) (x := x.toInt) (d := d) offs.toList lo (by omega) (by omega)
        rw [a3] at k
        exact lv_tableIn G.1 G.2.1 hd (by omega) (by omega) (by rw [← Array.getElem?_toList]; exact a1) (tg_ok (c3 o a2)) (k H locs cells slots A w1 w2 w3 w4 w5)
    · cases hh
  · cases hh
end SND
