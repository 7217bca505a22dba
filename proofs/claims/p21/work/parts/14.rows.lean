/-! THE SMALL MACHINE, row by row: equations that rewrite -/
noncomputable def Rr (m pc : Nat) (ls st : List Value) (h : Hp) : Option Rs := rn (EE m) m (pc, ls, st, h)
section RRR
variable {m pc pc' : Nat} {ls st ls' st' : List Value} {h h' : Hp} {x : Instr × Nat}
theorem R_eq (hd : decode (mB m) pc = .ok x) : Rr m pc ls st h = (match stI (EE m) m pc ls st h x.1 x.2 with
    | none => none
    | some (.inl r) => some r
    | some (.inr c') => rn (EE m) m c') := by
  unfold Rr
  rw [rn_eq]
  simp only [stp, hd]
  rfl
theorem R_step (hd : decode (mB m) pc = .ok x) (hs : stI (EE m) m pc ls st h x.1 x.2 = some (.inr (pc', ls', st', h'))) : Rr m pc ls st h = Rr m pc' ls' st' h' := by
  rw [R_eq hd, hs]
  rfl
theorem R_ret {r : Rs} (hd : decode (mB m) pc = .ok x) (hs : stI (EE m) m pc ls st h x.1 x.2 = some (.inl r)) : Rr m pc ls st h = some r := by
  rw [R_eq hd, hs]
theorem R_br {q : Prop} {dq : Decidable q} {off : Int} {t : Nat} (hd : decode (mB m) pc = .ok x) (hs : stI (EE m) m pc ls st h x.1 x.2 = hBr pc off q ls st' h) (ho : decide (0 ≤ (pc : Int) + off) = true) (ht : tg pc off = t) : Rr m pc ls st h = if q then Rr m t ls st' h else Rr m (pc + 3) ls st' h := by
  have ho := of_decide_eq_true ho
  by_cases hq : q
  · rw [if_pos hq, R_eq hd, hs, hBr, if_pos ho, if_pos hq, ht]
    rfl
  · rw [if_neg hq, R_eq hd, hs, hBr, if_pos ho, if_neg hq]
    rfl
theorem R_if {q : Prop} {dq : Decidable q} (hd : decode (mB m) pc = .ok x) (hs : stI (EE m) m pc ls st h x.1 x.2 = if q then some (.inr (pc', ls', st', h')) else none) (hq : q) : Rr m pc ls st h = Rr m pc' ls' st' h' := by
  refine R_step hd ?_
  rw [hs, if_pos hq]
theorem R_ifr {q : Prop} {dq : Decidable q} {r : Rs} (hd : decode (mB m) pc = .ok x) (hs : stI (EE m) m pc ls st h x.1 x.2 = if q then some (.inl r) else none) (hq : q) : Rr m pc ls st h = some r := by
  refine R_ret hd ?_
  rw [hs, if_pos hq]
/-- a switch, as a row of questions -/
def swR {α : Type} (f : Int → α) (x : Int32) (d : Int) : Int32 → List Int → α
  | _, [] => f d
  | k, o :: r => if x = k then f o else swR f x d (k + 1) r
theorem swR_eq {α : Type} (f : Int → α) (pc : Nat) (x : Int32) (d : Int) : ∀ (r : List Int) (k : Int32), k.toInt + r.length < 2147483648 → f (tsw pc x.toInt d k.toInt r) = swR f x d k r
  | [], _, _ => rfl
  | o :: r, k, hk => by
    have hb := fb_rng k
    simp only [List.length_cons] at hk
    have e : (k + 1).toInt = k.toInt + 1 := by
      rw [fb_addI] <;> simp <;> omega
    have ih := swR_eq f pc x d r (k + 1) (by rw [e]; omega)
    rw [e] at ih
    by_cases hx : x = k
    · subst hx
      rw [tsw, if_pos rfl, swR, if_pos rfl]
    · rw [tsw, if_neg (fun z => hx (Int32.toInt_inj.mp z)), swR, if_neg hx]
      exact ih
theorem R_sw {y k : Int32} {d lo hi : Int} {offs : Array Int} {n : Nat} (hd : decode (mB m) pc = .ok (.tableswitch d lo hi offs, n)) (hk : k.toInt = lo) (hc : decide (lo + offs.size = hi + 1 ∧ 0 ≤ (pc : Int) + d ∧ (∀ o ∈ offs.toList, 0 ≤ (pc : Int) + o) ∧ lo + offs.toList.length < 2147483648) = true) :
    Rr m pc ls (.int y :: st) h = swR (fun o => Rr m (tg pc o) ls st h) y d k offs.toList := by
  have hc := of_decide_eq_true hc
  subst hk
  rw [← swR_eq (fun o => Rr m (tg pc o) ls st h) pc y d offs.toList k hc.2.2.2]
  refine R_step hd ?_
  show hSw d k.toInt hi offs pc ls (.int y :: st) h = _
  exact if_pos ⟨hc.1, hc.2.1, hc.2.2.1⟩
def psh (r : Option Int32) (st : List Value) : List Value := (r.map Value.int).toList ++ st
theorem psh_i (v : Int32) (st : List Value) : psh (some v) st = .int v :: st := rfl
theorem psh_n (st : List Value) : psh none st = st := rfl
def Ins (a : Nat) (h : Hp) (ci : Nat) : Prop := inst a h ci
def Arr (a : Nat) (h : Hp) : Prop := a ≤ h.1 ∧ (hS h a).1 = 0
def ArW (a : Nat) (h : Hp) : Prop := a ≠ 0 ∧ a ≤ h.1 ∧ (hS h a).1 = 0
def Rws (a : Nat) (h : Hp) : Prop := a ≠ 0 ∧ a ≤ h.1 ∧ (hS h a).1 = 1
def ArL (a : Nat) (h : Hp) : Prop := a ≤ h.1 ∧ ((hS h a).1 = 0 ∨ (hS h a).1 = 1 ∧ a ≠ 0)
def Lng (h : Hp) (a : Nat) : Nat := (hS h a).2.1
def Gt (h : Hp) (a : Nat) : Nat → Int32 := h.2.2.2.2 a
def Rf (h : Hp) (a k : Nat) : Value := rv ((hS h a).2.2 k)
theorem R_go {q : So} (hd : decode (mB m) pc = .ok x) (hs : stI (EE m) m pc ls st h x.1 x.2 = q) (hq : q = some (.inr (pc', ls', st', h'))) : Rr m pc ls st h = Rr m pc' ls' st' h' := R_step hd (hs.trans hq)
theorem R_ldc {i : Nat} {v : Int32} (hd : decode (mB m) pc = .ok (.ldc i, 2)) (hk : kik m i = some v) : Rr m pc ls st h = Rr m (pc + 2) ls (.int v :: st) h := by
  refine R_go hd rfl ?_
  show hK (kik m i) 2 pc ls st h = _
  rw [hk]
  rfl
theorem R_ldcw {i : Nat} {v : Int32} (hd : decode (mB m) pc = .ok (.ldc_w i, 3)) (hk : kik m i = some v) : Rr m pc ls st h = Rr m (pc + 3) ls (.int v :: st) h := by
  refine R_go hd rfl ?_
  show hK (kik m i) 3 pc ls st h = _
  rw [hk]
  rfl
theorem R_ldc2 {i : Nat} {v : Int64} (hd : decode (mB m) pc = .ok (.ldc2_w i, 3)) (hk : klk m i = some v) : Rr m pc ls st h = Rr m (pc + 3) ls (.long v :: st) h := by
  refine R_go hd rfl ?_
  show hKl (klk m i) 3 pc ls st h = _
  rw [hk]
  rfl
theorem R_div {a b : Int32} (hd : decode (mB m) pc = .ok (.idiv, 1)) (c : ¬ b = 0) : Rr m pc ls (.int b :: .int a :: st) h = Rr m (pc + 1) ls (.int (a / b) :: st) h := R_go hd rfl (if_neg c)
theorem R_rem {a b : Int32} (hd : decode (mB m) pc = .ok (.irem, 1)) (c : ¬ b = 0) : Rr m pc ls (.int b :: .int a :: st) h = Rr m (pc + 1) ls (.int (a - a / b * b) :: st) h := R_go hd rfl (if_neg c)
theorem R_lrem {a b : Int64} (hd : decode (mB m) pc = .ok (.lrem, 1)) (c : ¬ b = 0) : Rr m pc ls (.long b :: .long a :: st) h = Rr m (pc + 1) ls (.long (a - a / b * b) :: st) h := R_go hd rfl (if_neg c)
theorem R_getI {a i ci k : Nat} (hd : decode (mB m) pc = .ok (.getfield i, 3)) (hf : flk m i = some (ci, k)) (hI : isI ci k = true) (c : Ins a h ci) : Rr m pc ls (.ref a :: st) h = Rr m (pc + 3) ls (.int (Gt h a k) :: st) h := by
  refine R_go hd rfl ?_
  show hGet m i pc ls (.ref a :: st) h = _
  unfold hGet
  rw [hf]
  show (if inst a h ci then _ else none) = _
  exact (if_pos c).trans (by rw [if_pos hI]; rfl)
theorem R_getR {a i ci k : Nat} (hd : decode (mB m) pc = .ok (.getfield i, 3)) (hf : flk m i = some (ci, k)) (hI : isI ci k = false) (c : Ins a h ci) : Rr m pc ls (.ref a :: st) h = Rr m (pc + 3) ls (Rf h a k :: st) h := by
  refine R_go hd rfl ?_
  show hGet m i pc ls (.ref a :: st) h = _
  unfold hGet
  rw [hf]
  show (if inst a h ci then _ else none) = _
  exact (if_pos c).trans (by rw [if_neg (by rw [hI]; decide)]; rfl)
theorem R_putI {a i ci k : Nat} {v : Int32} (hd : decode (mB m) pc = .ok (.putfield i, 3)) (hf : flk m i = some (ci, k)) (hI : isI ci k = true ∧ (TTT ci k).2.2.2 = false ∧ isZ ci k = false) (c : Ins a h ci) : Rr m pc ls (.int v :: .ref a :: st) h = Rr m (pc + 3) ls st (setG h a (upd (Gt h a) k v)) := by
  refine R_go hd rfl ?_
  show hPut m i pc ls (.int v :: .ref a :: st) h = _
  unfold hPut
  rw [hf]
  exact if_pos ⟨c, hI.1, hI.2.1, fun q => absurd (hI.2.2.symm.trans q) (by decide)⟩
theorem R_putZ {a i ci k : Nat} {v : Int32} (hd : decode (mB m) pc = .ok (.putfield i, 3)) (hf : flk m i = some (ci, k)) (hI : isI ci k = true ∧ (TTT ci k).2.2.2 = false) (c : Ins a h ci) (c2 : v = 0 ∨ v = 1) : Rr m pc ls (.int v :: .ref a :: st) h = Rr m (pc + 3) ls st (setG h a (upd (Gt h a) k v)) := by
  refine R_go hd rfl ?_
  show hPut m i pc ls (.int v :: .ref a :: st) h = _
  unfold hPut
  rw [hf]
  exact if_pos ⟨c, hI.1, hI.2, fun _ => c2⟩
theorem R_putR {a i ci k q : Nat} (hd : decode (mB m) pc = .ok (.putfield i, 3)) (hf : flk m i = some (ci, k)) (hI : isI ci k = false ∧ (TTT ci k).2.2.2 = true ∧ kd m = 2 ∧ mK m = ci) (c : Ins a h ci) : Rr m pc ls (.ref q :: .ref a :: st) h = Rr m (pc + 3) ls st (setS h a ((hS h a).1, (hS h a).2.1, upf (hS h a).2.2 k (some q))) := by
  refine R_go hd rfl ?_
  show hPut m i pc ls (.ref q :: .ref a :: st) h = _
  unfold hPut
  rw [hf]
  exact if_pos ⟨c, hI⟩
theorem R_ial {a : Nat} {i : Int32} (hd : decode (mB m) pc = .ok (.iaload, 1)) (c : Arr a h) (d : ¬ (i < 0 ∨ Lng h a ≤ i.toNatClampNeg)) : Rr m pc ls (.int i :: .ref a :: st) h = Rr m (pc + 1) ls (.int (Gt h a i.toNatClampNeg) :: st) h := R_go hd rfl (if_pos ⟨c.1, c.2, d⟩)
theorem R_aal {a : Nat} {i : Int32} (hd : decode (mB m) pc = .ok (.aaload, 1)) (c : Rws a h) (d : ¬ (i < 0 ∨ Lng h a ≤ i.toNatClampNeg)) : Rr m pc ls (.int i :: .ref a :: st) h = Rr m (pc + 1) ls (Rf h a i.toNatClampNeg :: st) h := R_go hd rfl (if_pos ⟨c.1, c.2.1, c.2.2, d⟩)
theorem R_ias {a : Nat} {i v : Int32} (hd : decode (mB m) pc = .ok (.iastore, 1)) (c : ArW a h) (d : ¬ (i < 0 ∨ Lng h a ≤ i.toNatClampNeg)) : Rr m pc ls (.int v :: .int i :: .ref a :: st) h = Rr m (pc + 1) ls st (setG h a (upd (Gt h a) i.toNatClampNeg v)) := R_go hd rfl (if_pos ⟨c.1, c.2.1, c.2.2, d⟩)
theorem R_len {a : Nat} (hd : decode (mB m) pc = .ok (.arraylength, 1)) (c : ArL a h) : Rr m pc ls (.ref a :: st) h = Rr m (pc + 1) ls (.int (nI (Lng h a)) :: st) h := R_go hd rfl (if_pos c)
theorem R_nwa {k : Int32} (hd : decode (mB m) pc = .ok (.newarray .int, 2)) (c : ¬ k < 0 ∧ 1 ≤ h.2.1 ∧ k.toNatClampNeg ≤ h.2.2.1 ∧ k.toNatClampNeg ≤ 100000) : Rr m pc ls (.int k :: st) h = Rr m (pc + 2) ls (.ref (h.1 + 1) :: st) (h.1 + 1, h.2.1 - 1, h.2.2.1 - k.toNatClampNeg, upf h.2.2.2.1 (h.1 + 1) (0, k.toNatClampNeg, fun _ => none), upf h.2.2.2.2 (h.1 + 1) (fun _ => 0)) := R_go hd rfl (if_pos c)
theorem R_new {i ci n : Nat} (hd : decode (mB m) pc = .ok (.new i, 3)) (hf : clk m i = some ci) (hn : cNf ci = n) (c : 1 ≤ h.2.1 ∧ n ≤ h.2.2.1) : Rr m pc ls st h = Rr m (pc + 3) ls (.ref (h.1 + 1) :: st) (h.1 + 1, h.2.1 - 1, h.2.2.1 - n, upf h.2.2.2.1 (h.1 + 1) (ci + 2, 0, fun _ => none), upf h.2.2.2.2 (h.1 + 1) (fun _ => 0)) := by
  subst hn
  refine R_go hd rfl ?_
  show hNew m i pc ls st h = _
  unfold hNew
  rw [hf]
  exact if_pos c
theorem R_retI {v : Int32} (hd : decode (mB m) pc = .ok (.ireturn, 1)) (c : mR m = some .int) : Rr m pc ls [.int v] h = some (some v, h) := R_ret hd ((rfl : _ = hRetI m [.int v] h).trans (if_pos (Or.inl c)))
theorem R_retZ {v : Int32} (hd : decode (mB m) pc = .ok (.ireturn, 1)) (c : mR m = some .boolean) (c2 : v = 0 ∨ v = 1) : Rr m pc ls [.int v] h = some (some v, h) := R_ret hd ((rfl : _ = hRetI m [.int v] h).trans (if_pos (Or.inr ⟨c, c2⟩)))
theorem R_retV (hd : decode (mB m) pc = .ok (.return_, 1)) (c : mR m = none) : Rr m pc ls [] h = some (none, h) := R_ret hd ((rfl : _ = hRetV m [] h).trans (if_pos c))
theorem R_call {y : Nat} {As rest : List Value} (hd : decode (mB m) pc = .ok x) (hs : stI (EE m) m pc ls st h x.1 x.2 = hCall (EE m) y As rest pc ls h) (ht9 : ht y < ht m) (hc : (rest.map fun v => v.category).sum ≤ 8 ∧ mc y ≤ h.2.1 ∧ ms y ≤ h.2.2.1) :
    Rr m pc ls st h = (Den y As (enH y h)).bind (fun z => Rr m (pc + 3) ls (psh z.1 rest) (lvH y h z.2)) := by
  rw [R_eq hd, hs, hCall, if_pos hc]
  unfold EE
  rw [if_pos ht9]
  cases Den y As (enH y h) with
  | none => rfl
  | some q => rfl
theorem R_vir {y i a : Nat} {As rest : List Value} (hd : decode (mB m) pc = .ok (.invokevirtual i, 3)) (h1 : mlk m i = some y) (h2 : kd y = 0 ∧ mK y < 8 ∧ ht y < ht m) (h3 : st.drop (mP y) = .ref a :: rest) (h4 : (st.take (mP y)).reverse = As) (h5 : Ins a h (mK y)) (hc : (rest.map fun v => v.category).sum ≤ 8 ∧ mc y ≤ h.2.1 ∧ ms y ≤ h.2.2.1) :
    Rr m pc ls st h = (Den y (.ref a :: As) (enH y h)).bind (fun z => Rr m (pc + 3) ls (psh z.1 rest) (lvH y h z.2)) := by
  refine R_call hd ?_ h2.2.2 hc
  show hVir (EE m) m i pc ls st h = _
  unfold hVir
  rw [h1]
  show (if kd y = 0 then _ else none) = _
  rw [if_pos h2.1, h3]
  show (if _ then _ else none) = _
  rw [if_pos ⟨h2.2.1, h5⟩, h4]
theorem R_sta {y i : Nat} {As rest : List Value} (hd : decode (mB m) pc = .ok (.invokestatic i, 3)) (h1 : mlk m i = some y) (h2 : kd y = 1 ∧ ht y < ht m) (h3 : st.drop (mP y) = rest) (h4 : (st.take (mP y)).reverse = As) (h5 : (st.take (mP y)).length = mP y) (hc : (rest.map fun v => v.category).sum ≤ 8 ∧ mc y ≤ h.2.1 ∧ ms y ≤ h.2.2.1) :
    Rr m pc ls st h = (Den y As (enH y h)).bind (fun z => Rr m (pc + 3) ls (psh z.1 rest) (lvH y h z.2)) := by
  refine R_call hd ?_ h2.2 hc
  show hSta (EE m) m i pc ls st h = _
  unfold hSta
  rw [h1]
  show (if _ then _ else none) = _
  rw [if_pos ⟨h2.1, h5⟩, h3, h4]
theorem R_spe {y i a : Nat} {As rest : List Value} (hd : decode (mB m) pc = .ok (.invokespecial i, 3)) (h1 : mlk m i = some y ∨ (mlk m i = none ∧ ∃ hst, nsk m i = some (y, hst))) (h2 : kd y = 2 ∧ ht y < ht m) (h3 : st.drop (mP y) = .ref a :: rest) (h4 : (st.take (mP y)).reverse = As) (h5 : (st.take (mP y)).length = mP y) (hc : (rest.map fun v => v.category).sum ≤ 8 ∧ mc y ≤ h.2.1 ∧ ms y ≤ h.2.2.1) :
    Rr m pc ls st h = (Den y (.ref a :: As) (enH y h)).bind (fun z => Rr m (pc + 3) ls (psh z.1 rest) (lvH y h z.2)) := by
  refine R_call hd ?_ h2.2 hc
  show hSpe (EE m) m i pc ls st h = _
  unfold hSpe
  rcases h1 with h1 | ⟨h1, hst, h6⟩
  · rw [h1]
    show (if kd y = 2 then _ else none) = _
    rw [if_pos h2.1, h3]
    show (if _ then _ else none) = _
    rw [if_pos h5, h4]
  · rw [h1, h6]
    show (if kd y = 2 then _ else none) = _
    rw [if_pos h2.1, h3]
    show (if _ then _ else none) = _
    rw [if_pos h5, h4]
theorem R_obj {i a : Nat} (hd : decode (mB m) pc = .ok (.invokespecial i, 3)) (h1 : mlk m i = none ∧ nsk m i = none ∧ spk m i = some 0) (hc : (st.map fun v => v.category).sum ≤ 8) : Rr m pc ls (.ref a :: st) h = Rr m (pc + 3) ls st h := by
  refine R_go hd rfl ?_
  show hSpe (EE m) m i pc ls (.ref a :: st) h = _
  unfold hSpe
  rw [h1.1, h1.2.1, h1.2.2]
  exact if_pos hc
theorem R_max {i : Nat} {a b : Int32} (hd : decode (mB m) pc = .ok (.invokestatic i, 3)) (h1 : mlk m i = none ∧ spk m i = some 1) (hc : (st.map fun v => v.category).sum ≤ 8) : Rr m pc ls (.int b :: .int a :: st) h = Rr m (pc + 3) ls (.int (if a < b then b else a) :: st) h := by
  refine R_go hd rfl ?_
  show hSta (EE m) m i pc ls _ h = _
  unfold hSta
  rw [h1.1, h1.2]
  exact if_pos hc
theorem R_min {i : Nat} {a b : Int32} (hd : decode (mB m) pc = .ok (.invokestatic i, 3)) (h1 : mlk m i = none ∧ spk m i = some 2) (hc : (st.map fun v => v.category).sum ≤ 8) : Rr m pc ls (.int b :: .int a :: st) h = Rr m (pc + 3) ls (.int (if b < a then b else a) :: st) h := by
  refine R_go hd rfl ?_
  show hSta (EE m) m i pc ls _ h = _
  unfold hSta
  rw [h1.1, h1.2]
  exact if_pos hc
theorem R_copy {i a0 a1 : Nat} {n dp sp : Int32} (hd : decode (mB m) pc = .ok (.invokestatic i, 3)) (h1 : mlk m i = none ∧ spk m i = some 3) (hc : (st.map fun v => v.category).sum ≤ 8) (c : ArW a0 h ∧ ArW a1 h) (d : ¬ sp < 0 ∧ ¬ dp < 0 ∧ ¬ n < 0 ∧ sp.toNatClampNeg + n.toNatClampNeg ≤ Lng h a0 ∧ dp.toNatClampNeg + n.toNatClampNeg ≤ Lng h a1) :
    Rr m pc ls (.int n :: .int dp :: .ref a1 :: .int sp :: .ref a0 :: st) h = Rr m (pc + 3) ls st (setG h a1 (va_cpy (Gt h a0) (Gt h a1) sp.toNatClampNeg dp.toNatClampNeg n.toNatClampNeg)) := by
  refine R_go hd rfl ?_
  show hSta (EE m) m i pc ls _ h = _
  unfold hSta
  rw [h1.1, h1.2]
  exact if_pos ⟨hc, c.1.1, c.1.2.1, c.2.1, c.2.2.1, c.1.2.2, c.2.2.2, d⟩
theorem R_mna {i : Nat} {k n : Int32} (hd : decode (mB m) pc = .ok (.multianewarray i 2, 4)) (h1 : m = mnaM ∧ i = mnaI) (c : ¬ n < 0 ∧ ¬ k < 0 ∧ 1 + n.toNatClampNeg ≤ h.2.1 ∧ n.toNatClampNeg + n.toNatClampNeg * k.toNatClampNeg ≤ h.2.2.1 ∧ n.toNatClampNeg ≤ 100000 ∧ k.toNatClampNeg ≤ 100000) :
    Rr m pc ls (.int k :: .int n :: st) h = Rr m (pc + 4) ls (.ref (h.1 + 1) :: st) (h.1 + 1 + n.toNatClampNeg, h.2.1 - (1 + n.toNatClampNeg), h.2.2.1 - (n.toNatClampNeg + n.toNatClampNeg * k.toNatClampNeg),
        (fun j => if j = h.1 + 1 then (1, n.toNatClampNeg, fun i => if i < n.toNatClampNeg then some (h.1 + 2 + i) else none) else if h.1 + 2 ≤ j ∧ j < h.1 + 2 + n.toNatClampNeg then (0, k.toNatClampNeg, fun _ => none) else h.2.2.2.1 j),
        (fun j => if h.1 + 1 ≤ j ∧ j < h.1 + 2 + n.toNatClampNeg then fun _ => 0 else h.2.2.2.2 j)) := R_go hd rfl (if_pos ⟨h1.1, h1.2, c⟩)
theorem Den_start {as : List Value} (hc : (flt as).length ≤ mL m ∧ (noL m = true → ∀ v ∈ as, v.category = 1)) (he : ent as (mL m) = ls) : Den m as h = Rr m 0 ls [] h := by
  rw [Den_eq, if_pos hc, he]
  rfl
end RRR
