/-! THE SMALL MACHINE: the program's instructions over numbered cells; a cell's shape (kind, length, references) apart from its numbers -/
abbrev Shp : Type := Nat × Nat × (Nat → Option Nat)
/-- how many cells, the room that is left (cells, slots), shapes, numbers -/
abbrev Hp : Type := Nat × Nat × Nat × (Nat → Shp) × (Nat → Nat → Int32)
abbrev Rs : Type := Option Int32 × Hp
abbrev Cf : Type := Nat × List Value × List Value × Hp
abbrev So : Type := Option (Rs ⊕ Cf)
def upf {α : Type} (f : Nat → α) (k : Nat) (v : α) : Nat → α := fun j => if j = k then v else f j
def rv : Option Nat → Value
  | none => .null
  | some p => .ref p
abbrev hS (h : Hp) (a : Nat) : Shp := h.2.2.2.1 a
abbrev hG (h : Hp) (a : Nat) : Nat → Int32 := h.2.2.2.2 a
def setG (h : Hp) (a : Nat) (f : Nat → Int32) : Hp := (h.1, h.2.1, h.2.2.1, h.2.2.2.1, upf h.2.2.2.2 a f)
def setS (h : Hp) (a : Nat) (sh : Shp) : Hp := (h.1, h.2.1, h.2.2.1, upf h.2.2.2.1 a sh, h.2.2.2.2)
def nx (pc : Nat) (ls st : List Value) (h : Hp) : So := some (.inr (pc, ls, st, h))
abbrev inst (a : Nat) (h : Hp) (ci : Nat) : Prop := a ≠ 0 ∧ a ≤ h.1 ∧ (hS h a).1 = ci + 2
abbrev tg (pc : Nat) (off : Int) : Nat := ((pc : Int) + off).toNat
def hIld (i k pc : Nat) (ls st : List Value) (h : Hp) : So := match ls[i]? with
  | some (.int x) => nx (pc + k) ls (.int x :: st) h
  | _ => none
def hLld (i k pc : Nat) (ls st : List Value) (h : Hp) : So := match ls[i]? with
  | some (.long x) => nx (pc + k) ls (.long x :: st) h
  | _ => none
def hAld (i k pc : Nat) (ls st : List Value) (h : Hp) : So := match ls[i]? with
  | some (.ref x) => nx (pc + k) ls (.ref x :: st) h
  | _ => none
def hIst (m i k pc : Nat) (ls st : List Value) (h : Hp) : So := match st with
  | .int x :: st => if noL m = true ∧ i < ls.length then nx (pc + k) (ls.set i (.int x)) st h else none
  | _ => none
def hAst (m i k pc : Nat) (ls st : List Value) (h : Hp) : So := match st with
  | .ref x :: st => if noL m = true ∧ i < ls.length then nx (pc + k) (ls.set i (.ref x)) st h else none
  | _ => none
def hInc (m i : Nat) (n : Int) (pc : Nat) (ls st : List Value) (h : Hp) : So := match ls[i]? with
  | some (.int x) => if noL m = true then nx (pc + 3) (ls.set i (.int (x + Int32.ofInt n))) st h else none
  | _ => none
def hBin (f : Int32 → Int32 → Int32) (pc : Nat) (ls st : List Value) (h : Hp) : So := match st with
  | .int y :: .int x :: st => nx (pc + 1) ls (.int (f x y) :: st) h
  | _ => none
def hDiv (f : Int32 → Int32 → Int32) (pc : Nat) (ls st : List Value) (h : Hp) : So := match st with
  | .int y :: .int x :: st => if y = 0 then none else nx (pc + 1) ls (.int (f x y) :: st) h
  | _ => none
def hBinL (f : Int64 → Int64 → Int64) (pc : Nat) (ls st : List Value) (h : Hp) : So := match st with
  | .long y :: .long x :: st => nx (pc + 1) ls (.long (f x y) :: st) h
  | _ => none
def hRemL (pc : Nat) (ls st : List Value) (h : Hp) : So := match st with
  | .long y :: .long x :: st => if y = 0 then none else nx (pc + 1) ls (.long (x - x / y * y) :: st) h
  | _ => none
def hCmpL (pc : Nat) (ls st : List Value) (h : Hp) : So := match st with
  | .long y :: .long x :: st => nx (pc + 1) ls (.int (lg_cmp x y) :: st) h
  | _ => none
def hI2l (pc : Nat) (ls st : List Value) (h : Hp) : So := match st with
  | .int x :: st => nx (pc + 1) ls (.long x.toInt64 :: st) h
  | _ => none
def hL2i (pc : Nat) (ls st : List Value) (h : Hp) : So := match st with
  | .long x :: st => nx (pc + 1) ls (.int x.toInt32 :: st) h
  | _ => none
def hDup (pc : Nat) (ls st : List Value) (h : Hp) : So := match st with
  | .int x :: st => nx (pc + 1) ls (.int x :: .int x :: st) h
  | .ref x :: st => nx (pc + 1) ls (.ref x :: .ref x :: st) h
  | _ => none
def hDup2 (pc : Nat) (ls st : List Value) (h : Hp) : So := match st with
  | .int x :: .ref y :: st => nx (pc + 1) ls (.int x :: .ref y :: .int x :: .ref y :: st) h
  | _ => none
def hPop (pc : Nat) (ls st : List Value) (h : Hp) : So := match st with
  | .int _ :: st => nx (pc + 1) ls st h
  | _ => none
def hBr (pc : Nat) (off : Int) (c : Prop) [Decidable c] (ls st : List Value) (h : Hp) : So :=
  if 0 ≤ (pc : Int) + off then nx (if c then tg pc off else pc + 3) ls st h else none
def hIf (op : ClassFile.Cond) (off : Int) (pc : Nat) (ls st : List Value) (h : Hp) : So := match st with
  | .int x :: st => match op with
    | .eq => hBr pc off (x = 0) ls st h
    | .ne => hBr pc off (¬ x = 0) ls st h
    | .lt => hBr pc off (x < 0) ls st h
    | .ge => hBr pc off (0 ≤ x) ls st h
    | .gt => hBr pc off (0 < x) ls st h
    | .le => hBr pc off (x ≤ 0) ls st h
  | _ => none
def hIc (op : ClassFile.Cond) (off : Int) (pc : Nat) (ls st : List Value) (h : Hp) : So := match st with
  | .int y :: .int x :: st => match op with
    | .eq => hBr pc off (x = y) ls st h
    | .ne => hBr pc off (¬ x = y) ls st h
    | .lt => hBr pc off (x < y) ls st h
    | .ge => hBr pc off (y ≤ x) ls st h
    | .gt => hBr pc off (y < x) ls st h
    | .le => hBr pc off (x ≤ y) ls st h
  | _ => none
def hGo (off : Int) (pc : Nat) (ls st : List Value) (h : Hp) : So := if 0 ≤ (pc : Int) + off then nx (tg pc off) ls st h else none
/-- where a switch goes: the first of the numbers from k on that x is -/
def tsw (pc : Nat) (x : Int) (d : Int) : Int → List Int → Int
  | _, [] => d
  | k, o :: r => if x = k then o else tsw pc x d (k + 1) r
def hSw (d lo hi : Int) (offs : Array Int) (pc : Nat) (ls st : List Value) (h : Hp) : So := match st with
  | .int x :: st => if lo + offs.size = hi + 1 ∧ 0 ≤ (pc : Int) + d ∧ (∀ o ∈ offs.toList, 0 ≤ (pc : Int) + o) then nx (tg pc (tsw pc x.toInt d lo offs.toList)) ls st h else none
  | _ => none
def hGet (m idx pc : Nat) (ls st : List Value) (h : Hp) : So := match st, flk m idx with
  | .ref a :: st, some (ci, k) => if inst a h ci then nx (pc + 3) ls ((if isI ci k then .int (hG h a k) else rv ((hS h a).2.2 k)) :: st) h else none
  | _, _ => none
def hPut (m idx pc : Nat) (ls st : List Value) (h : Hp) : So := match st, flk m idx with
  | .int x :: .ref a :: st, some (ci, k) => if inst a h ci ∧ isI ci k = true ∧ (TTT ci k).2.2.2 = false ∧ (isZ ci k = true → x = 0 ∨ x = 1) then nx (pc + 3) ls st (setG h a (upd (hG h a) k x)) else none
  | .ref p :: .ref a :: st, some (ci, k) => if inst a h ci ∧ isI ci k = false ∧ (TTT ci k).2.2.2 = true ∧ kd m = 2 ∧ mK m = ci then nx (pc + 3) ls st (setS h a ((hS h a).1, (hS h a).2.1, upf (hS h a).2.2 k (some p))) else none
  | _, _ => none
def hIal (pc : Nat) (ls st : List Value) (h : Hp) : So := match st with
  | .int i :: .ref a :: st => if a ≤ h.1 ∧ (hS h a).1 = 0 ∧ ¬ (i < 0 ∨ (hS h a).2.1 ≤ i.toNatClampNeg) then nx (pc + 1) ls (.int (hG h a i.toNatClampNeg) :: st) h else none
  | _ => none
def hIas (pc : Nat) (ls st : List Value) (h : Hp) : So := match st with
  | .int x :: .int i :: .ref a :: st => if a ≠ 0 ∧ a ≤ h.1 ∧ (hS h a).1 = 0 ∧ ¬ (i < 0 ∨ (hS h a).2.1 ≤ i.toNatClampNeg) then nx (pc + 1) ls st (setG h a (upd (hG h a) i.toNatClampNeg x)) else none
  | _ => none
def hAal (pc : Nat) (ls st : List Value) (h : Hp) : So := match st with
  | .int i :: .ref a :: st => if a ≠ 0 ∧ a ≤ h.1 ∧ (hS h a).1 = 1 ∧ ¬ (i < 0 ∨ (hS h a).2.1 ≤ i.toNatClampNeg) then nx (pc + 1) ls (rv ((hS h a).2.2 i.toNatClampNeg) :: st) h else none
  | _ => none
def hLen (pc : Nat) (ls st : List Value) (h : Hp) : So := match st with
  | .ref a :: st => if a ≤ h.1 ∧ ((hS h a).1 = 0 ∨ (hS h a).1 = 1 ∧ a ≠ 0) then nx (pc + 1) ls (.int (Int32.ofNat (hS h a).2.1) :: st) h else none
  | _ => none
def hNwa (pc : Nat) (ls st : List Value) (h : Hp) : So := match st with
  | .int k :: st => if ¬ k < 0 ∧ 1 ≤ h.2.1 ∧ k.toNatClampNeg ≤ h.2.2.1 ∧ k.toNatClampNeg ≤ 100000 then
      nx (pc + 2) ls (.ref (h.1 + 1) :: st) (h.1 + 1, h.2.1 - 1, h.2.2.1 - k.toNatClampNeg, upf h.2.2.2.1 (h.1 + 1) (0, k.toNatClampNeg, fun _ => none), upf h.2.2.2.2 (h.1 + 1) (fun _ => 0)) else none
  | _ => none
def hMna (m idx pc : Nat) (ls st : List Value) (h : Hp) : So := match st with
  | .int k :: .int n :: st => if m = mnaM ∧ idx = mnaI ∧ ¬ n < 0 ∧ ¬ k < 0 ∧ 1 + n.toNatClampNeg ≤ h.2.1 ∧ n.toNatClampNeg + n.toNatClampNeg * k.toNatClampNeg ≤ h.2.2.1 ∧ n.toNatClampNeg ≤ 100000 ∧ k.toNatClampNeg ≤ 100000 then
      nx (pc + 4) ls (.ref (h.1 + 1) :: st) (h.1 + 1 + n.toNatClampNeg, h.2.1 - (1 + n.toNatClampNeg), h.2.2.1 - (n.toNatClampNeg + n.toNatClampNeg * k.toNatClampNeg),
        (fun j => if j = h.1 + 1 then (1, n.toNatClampNeg, fun i => if i < n.toNatClampNeg then some (h.1 + 2 + i) else none) else if h.1 + 2 ≤ j ∧ j < h.1 + 2 + n.toNatClampNeg then (0, k.toNatClampNeg, fun _ => none) else h.2.2.2.1 j),
        (fun j => if h.1 + 1 ≤ j ∧ j < h.1 + 2 + n.toNatClampNeg then fun _ => 0 else h.2.2.2.2 j)) else none
  | _ => none
def hNew (m idx pc : Nat) (ls st : List Value) (h : Hp) : So := match clk m idx with
  | some ci => if 1 ≤ h.2.1 ∧ cNf ci ≤ h.2.2.1 then
      nx (pc + 3) ls (.ref (h.1 + 1) :: st) (h.1 + 1, h.2.1 - 1, h.2.2.1 - cNf ci, upf h.2.2.2.1 (h.1 + 1) (ci + 2, 0, fun _ => none), upf h.2.2.2.2 (h.1 + 1) (fun _ => 0)) else none
  | none => none
def enH (y : Nat) (h : Hp) : Hp := (h.1, mc y, ms y, h.2.2.2.1, h.2.2.2.2)
def lvH (y : Nat) (h h' : Hp) : Hp := (h'.1, h.2.1 - mc y, h.2.2.1 - ms y, h'.2.2.2.1, h'.2.2.2.2)
def hCall (E : Nat → List Value → Hp → Option Rs) (y : Nat) (As rest : List Value) (pc : Nat) (ls : List Value) (h : Hp) : So :=
  if (rest.map fun v => v.category).sum ≤ 8 ∧ mc y ≤ h.2.1 ∧ ms y ≤ h.2.2.1 then
    match E y As (enH y h) with
    | some (r, h') => nx (pc + 3) ls ((r.map Value.int).toList ++ rest) (lvH y h h')
    | none => none
  else none
def hVir (E : Nat → List Value → Hp → Option Rs) (m idx pc : Nat) (ls st : List Value) (h : Hp) : So := match mlk m idx with
  | some y => if kd y = 0 then match st.drop (mP y) with
      | .ref a :: rest => if mK y < 8 ∧ inst a h (mK y) then hCall E y (.ref a :: (st.take (mP y)).reverse) rest pc ls h else none
      | _ => none
    else none
  | none => none
def hSta (E : Nat → List Value → Hp → Option Rs) (m idx pc : Nat) (ls st : List Value) (h : Hp) : So := match mlk m idx, spk m idx with
  | some y, _ => if kd y = 1 ∧ (st.take (mP y)).length = mP y then hCall E y (st.take (mP y)).reverse (st.drop (mP y)) pc ls h else none
  | none, some 1 => match st with
    | .int y :: .int x :: rest => if (rest.map fun v => v.category).sum ≤ 8 then nx (pc + 3) ls (.int (if x < y then y else x) :: rest) h else none
    | _ => none
  | none, some 2 => match st with
    | .int y :: .int x :: rest => if (rest.map fun v => v.category).sum ≤ 8 then nx (pc + 3) ls (.int (if y < x then y else x) :: rest) h else none
    | _ => none
  | none, some 3 => match st with
    | .int n :: .int dp :: .ref a1 :: .int sp :: .ref a0 :: rest =>
      if (rest.map fun v => v.category).sum ≤ 8 ∧ a0 ≠ 0 ∧ a0 ≤ h.1 ∧ a1 ≠ 0 ∧ a1 ≤ h.1 ∧ (hS h a0).1 = 0 ∧ (hS h a1).1 = 0 ∧ ¬ sp < 0 ∧ ¬ dp < 0 ∧ ¬ n < 0 ∧ sp.toNatClampNeg + n.toNatClampNeg ≤ (hS h a0).2.1 ∧ dp.toNatClampNeg + n.toNatClampNeg ≤ (hS h a1).2.1 then
        nx (pc + 3) ls rest (setG h a1 (va_cpy (hG h a0) (hG h a1) sp.toNatClampNeg dp.toNatClampNeg n.toNatClampNeg)) else none
    | _ => none
  | _, _ => none
def hSpe (E : Nat → List Value → Hp → Option Rs) (m idx pc : Nat) (ls st : List Value) (h : Hp) : So := match mlk m idx, nsk m idx, spk m idx with
  | some y, _, _ => if kd y = 2 then match st.drop (mP y) with
      | .ref a :: rest => if (st.take (mP y)).length = mP y then hCall E y (.ref a :: (st.take (mP y)).reverse) rest pc ls h else none
      | _ => none
    else none
  | none, some (y, _), _ => if kd y = 2 then match st.drop (mP y) with
      | .ref a :: rest => if (st.take (mP y)).length = mP y then hCall E y (.ref a :: (st.take (mP y)).reverse) rest pc ls h else none
      | _ => none
    else none
  | none, none, some 0 => match st with
    | .ref a :: rest => if (rest.map fun v => v.category).sum ≤ 8 then nx (pc + 3) ls rest h else none
    | _ => none
  | _, _, _ => none
def hRetI (m : Nat) (st : List Value) (h : Hp) : So := match st with
  | [.int v] => if mR m = some .int ∨ mR m = some .boolean ∧ (v = 0 ∨ v = 1) then some (.inl (some v, h)) else none
  | _ => none
def hRetV (m : Nat) (st : List Value) (h : Hp) : So := match st with
  | [] => if mR m = none then some (.inl (none, h)) else none
  | _ => none
def hK (v : Option Int32) (k pc : Nat) (ls st : List Value) (h : Hp) : So := match v with
  | some v => nx (pc + k) ls (.int v :: st) h
  | none => none
def hKl (v : Option Int64) (k pc : Nat) (ls st : List Value) (h : Hp) : So := match v with
  | some v => nx (pc + k) ls (.long v :: st) h
  | none => none
abbrev gd (len k : Nat) (x : So) : So := if len = k then x else none
def stI (E : Nat → List Value → Hp → Option Rs) (m pc : Nat) (ls st : List Value) (h : Hp) (ins : Instr) (len : Nat) : So := match ins with
  | .iconst n => gd len 1 (hK (some (Int32.ofInt n)) 1 pc ls st h)
  | .bipush n => gd len 2 (hK (some (Int8.ofInt n).toInt32) 2 pc ls st h)
  | .sipush n => gd len 3 (hK (some (Int16.ofInt n).toInt32) 3 pc ls st h)
  | .ldc i => gd len 2 (hK (kik m i) 2 pc ls st h)
  | .ldc_w i => gd len 3 (hK (kik m i) 3 pc ls st h)
  | .lconst n => gd len 1 (hKl (some (Int64.ofNat (n : Nat))) 1 pc ls st h)
  | .ldc2_w i => gd len 3 (hKl (klk m i) 3 pc ls st h)
  | .iload_n n => gd len 1 (hIld n 1 pc ls st h)
  | .iload n => gd len 2 (hIld n 2 pc ls st h)
  | .lload_n n => gd len 1 (hLld n 1 pc ls st h)
  | .lload n => gd len 2 (hLld n 2 pc ls st h)
  | .aload_n n => gd len 1 (hAld n 1 pc ls st h)
  | .aload n => gd len 2 (hAld n 2 pc ls st h)
  | .istore_n n => gd len 1 (hIst m n 1 pc ls st h)
  | .istore n => gd len 2 (hIst m n 2 pc ls st h)
  | .astore_n n => gd len 1 (hAst m n 1 pc ls st h)
  | .astore n => gd len 2 (hAst m n 2 pc ls st h)
  | .iinc i n => gd len 3 (hInc m i n pc ls st h)
  | .iadd => gd len 1 (hBin (· + ·) pc ls st h)
  | .isub => gd len 1 (hBin (· - ·) pc ls st h)
  | .imul => gd len 1 (hBin (· * ·) pc ls st h)
  | .iand => gd len 1 (hBin (· &&& ·) pc ls st h)
  | .ior => gd len 1 (hBin (· ||| ·) pc ls st h)
  | .ixor => gd len 1 (hBin (· ^^^ ·) pc ls st h)
  | .ishl => gd len 1 (hBin (fun x y => x <<< (y &&& 31)) pc ls st h)
  | .ishr => gd len 1 (hBin (fun x y => x >>> (y &&& 31)) pc ls st h)
  | .idiv => gd len 1 (hDiv (· / ·) pc ls st h)
  | .irem => gd len 1 (hDiv (fun x y => x - x / y * y) pc ls st h)
  | .ladd => gd len 1 (hBinL (· + ·) pc ls st h)
  | .lmul => gd len 1 (hBinL (· * ·) pc ls st h)
  | .lrem => gd len 1 (hRemL pc ls st h)
  | .lcmp => gd len 1 (hCmpL pc ls st h)
  | .i2l => gd len 1 (hI2l pc ls st h)
  | .l2i => gd len 1 (hL2i pc ls st h)
  | .dup => gd len 1 (hDup pc ls st h)
  | .dup2 => gd len 1 (hDup2 pc ls st h)
  | .pop => gd len 1 (hPop pc ls st h)
  | .ifCond op off => gd len 3 (hIf op off pc ls st h)
  | .if_icmp op off => gd len 3 (hIc op off pc ls st h)
  | .goto off => gd len 3 (hGo off pc ls st h)
  | .tableswitch d lo hi offs => hSw d lo hi offs pc ls st h
  | .getfield i => gd len 3 (hGet m i pc ls st h)
  | .putfield i => gd len 3 (hPut m i pc ls st h)
  | .iaload => gd len 1 (hIal pc ls st h)
  | .iastore => gd len 1 (hIas pc ls st h)
  | .aaload => gd len 1 (hAal pc ls st h)
  | .arraylength => gd len 1 (hLen pc ls st h)
  | .newarray t => if t = .int then gd len 2 (hNwa pc ls st h) else none
  | .multianewarray i d => if d = 2 then gd len 4 (hMna m i pc ls st h) else none
  | .new i => gd len 3 (hNew m i pc ls st h)
  | .invokevirtual i => gd len 3 (hVir E m i pc ls st h)
  | .invokestatic i => gd len 3 (hSta E m i pc ls st h)
  | .invokespecial i => gd len 3 (hSpe E m i pc ls st h)
  | .ireturn => gd len 1 (hRetI m st h)
  | .return_ => gd len 1 (hRetV m st h)
  | _ => none
def stp (E : Nat → List Value → Hp → Option Rs) (m : Nat) (c : Cf) : So := match decode (mB m) c.1 with
  | .ok x => stI E m c.1 c.2.1 c.2.2.1 c.2.2.2 x.1 x.2
  | .error _ => none
def rnN (E : Nat → List Value → Hp → Option Rs) (m : Nat) : Nat → Cf → Option Rs
  | 0, _ => none
  | n + 1, c => match stp E m c with
    | none => none
    | some (.inl r) => some r
    | some (.inr c') => rnN E m n c'
theorem rnN_succ {E : Nat → List Value → Hp → Option Rs} {m : Nat} : ∀ (n : Nat) (c : Cf) (r : Rs), rnN E m n c = some r → rnN E m (n + 1) c = some r := by
  intro n
  induction n with
  | zero => intro c r h; cases h
  | succ n ih =>
    intro c r h
    rw [rnN] at h ⊢
    cases hs : stp E m c with
    | none => rw [hs] at h; exact h
    | some x =>
      rw [hs] at h
      cases x with
      | inl y => exact h
      | inr c' => exact ih c' r h
theorem rnN_le {E : Nat → List Value → Hp → Option Rs} {m n k : Nat} {c : Cf} {r : Rs} (h : rnN E m n c = some r) (hk : n ≤ k) : rnN E m k c = some r := by
  induction hk with
  | refl => exact h
  | step _ ih => exact rnN_succ _ _ _ ih
noncomputable def rn (E : Nat → List Value → Hp → Option Rs) (m : Nat) (c : Cf) : Option Rs := @dite _ (∃ n r, rnN E m n c = some r) (Classical.propDecidable _) (fun h => some (Classical.choose (Classical.choose_spec h))) (fun _ => none)
theorem rn_iff {E : Nat → List Value → Hp → Option Rs} {m : Nat} {c : Cf} {r : Rs} : rn E m c = some r ↔ ∃ n, rnN E m n c = some r := by
  unfold rn
  by_cases h : ∃ n r, rnN E m n c = some r
  · rw [dif_pos h]
    constructor
    · intro h2
      cases h2
      exact ⟨_, Classical.choose_spec (Classical.choose_spec h)⟩
    · rintro ⟨n, hn⟩
      have h1 := Classical.choose_spec (Classical.choose_spec h)
      have h2 := rnN_le h1 (Nat.le_max_left (Classical.choose h) n)
      have h3 := rnN_le hn (Nat.le_max_right (Classical.choose h) n)
      exact h2.symm.trans h3
  · rw [dif_neg h]
    constructor
    · intro h2; cases h2
    · rintro ⟨n, hn⟩; exact absurd ⟨n, r, hn⟩ h
theorem rn_eq (E : Nat → List Value → Hp → Option Rs) (m : Nat) (c : Cf) : rn E m c = (match stp E m c with
    | none => none
    | some (.inl r) => some r
    | some (.inr c') => rn E m c') := by
  apply Option.ext
  intro r
  rw [rn_iff]
  constructor
  · rintro ⟨n, hn⟩
    cases n with
    | zero => cases hn
    | succ n =>
      rw [rnN] at hn
      cases hs : stp E m c with
      | none => rw [hs] at hn; cases hn
      | some x =>
        rw [hs] at hn
        cases x with
        | inl y => exact hn
        | inr c' => exact rn_iff.mpr ⟨n, hn⟩
  · intro h
    cases hs : stp E m c with
    | none => rw [hs] at h; cases h
    | some x =>
      rw [hs] at h
      cases x with
      | inl y => exact ⟨1, by rw [rnN, hs]; exact h⟩
      | inr c' =>
        obtain ⟨n, hn⟩ := rn_iff.mp h
        exact ⟨n + 1, by rw [rnN, hs]; exact hn⟩
/-- a method's locals at its start -/
def flt (as : List Value) : List Value := as.flatMap (fun v => if v.category = 2 then [v, .retAddr 0] else [v])
def ent (as : List Value) (n : Nat) : List Value := flt as ++ List.replicate (n - (flt as).length) (.retAddr 0)
/-- what a method answers, and what it leaves -/
noncomputable def Den (m : Nat) (as : List Value) (h : Hp) : Option Rs :=
  if (flt as).length ≤ mL m ∧ (noL m = true → ∀ v ∈ as, v.category = 1) then
    rn (fun y as' h' => if _hlt : ht y < ht m then Den y as' h' else none) m (0, ent as (mL m), [], h) else none
termination_by ht m
noncomputable def EE (m : Nat) : Nat → List Value → Hp → Option Rs := fun y as' h' => if ht y < ht m then Den y as' h' else none
theorem Den_eq (m : Nat) (as : List Value) (h : Hp) : Den m as h = if (flt as).length ≤ mL m ∧ (noL m = true → ∀ v ∈ as, v.category = 1) then rn (EE m) m (0, ent as (mL m), [], h) else none := by
  rw [Den]
  rfl

