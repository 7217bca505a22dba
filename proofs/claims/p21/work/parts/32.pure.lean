/-! PURE: what a state's numbers are, and what both programs make of them -/
abbrev Sx : Type := (Nat → Int32) × (Nat → Int32) × (Nat → Nat → Int32) × (Nat → Nat → Int32)
def Sx.H (s : Sx) : Nat → Int32 := s.1
def Sx.C (s : Sx) : Nat → Int32 := s.2.1
def Sx.A (s : Sx) : Nat → Nat → Int32 := s.2.2.1
def Sx.P (s : Sx) : Nat → Nat → Int32 := s.2.2.2
def mkS (H C : Nat → Int32) (A P : Nat → Nat → Int32) : Sx := (H, C, A, P)
theorem mk_H {H C : Nat → Int32} {A P : Nat → Nat → Int32} : (mkS H C A P).H = H := rfl
theorem mk_C {H C : Nat → Int32} {A P : Nat → Nat → Int32} : (mkS H C A P).C = C := rfl
theorem mk_A {H C : Nat → Int32} {A P : Nat → Nat → Int32} : (mkS H C A P).A = A := rfl
theorem mk_P {H C : Nat → Int32} {A P : Nat → Nat → Int32} : (mkS H C A P).P = P := rfl
def upf2 (f : Nat → Nat → Int32) (a k : Nat) (v : Int32) : Nat → Nat → Int32 := fun i j => if i = a ∧ j = k then v else f i j
def Sx.sH (s : Sx) (k : Nat) (v : Int32) : Sx := ⟨upf s.H k v, s.C, s.A, s.P⟩
def Sx.sC (s : Sx) (k : Nat) (v : Int32) : Sx := ⟨s.H, upf s.C k v, s.A, s.P⟩
def Sx.sA (s : Sx) (a k : Nat) (v : Int32) : Sx := ⟨s.H, s.C, upf2 s.A a k v, s.P⟩
def Sx.sP (s : Sx) (a k : Nat) (v : Int32) : Sx := ⟨s.H, s.C, s.A, upf2 s.P a k v⟩
section SX
variable {s : Sx} {a k a' k' : Nat} {v : Int32}
theorem sH_H : (s.sH k v).H k' = if k' = k then v else s.H k' := rfl
theorem sH_C : (s.sH k v).C = s.C := rfl
theorem sH_A : (s.sH k v).A = s.A := rfl
theorem sH_P : (s.sH k v).P = s.P := rfl
theorem sC_H : (s.sC k v).H = s.H := rfl
theorem sC_C : (s.sC k v).C k' = if k' = k then v else s.C k' := rfl
theorem sC_A : (s.sC k v).A = s.A := rfl
theorem sC_P : (s.sC k v).P = s.P := rfl
theorem sA_H : (s.sA a k v).H = s.H := rfl
theorem sA_C : (s.sA a k v).C = s.C := rfl
theorem sA_A : (s.sA a k v).A a' k' = if a' = a ∧ k' = k then v else s.A a' k' := rfl
theorem sA_P : (s.sA a k v).P = s.P := rfl
theorem sP_H : (s.sP a k v).H = s.H := rfl
theorem sP_C : (s.sP a k v).C = s.C := rfl
theorem sP_A : (s.sP a k v).A = s.A := rfl
theorem sP_P : (s.sP a k v).P a' k' = if a' = a ∧ k' = k then v else s.P a' k' := rfl
end SX
def lay (s : Sx) : Nat → Int32 := fun i => if i < 7 then s.H i else if i < 16 then s.C (i - 7) else if i < 51 then s.A ((i - 16) / 5) ((i - 16) % 5) else if i < 146 then s.P ((i - 51) / 19) ((i - 51) % 19) else 0
def lay2 (s : Sx) : Nat → Int32 := fun i => if i < 7 then s.H i else if i < 17 then s.C (i - 7) else if i < 107 then s.P ((i - 17) / 18) ((i - 17) % 18) else if i < 142 then s.A ((i - 107) / 5) ((i - 107) % 5) else 0
theorem lay_H {s : Sx} {k : Nat} (h : k < 7) : lay s k = s.H k := if_pos h
theorem lay_C {s : Sx} {k : Nat} (h : k < 9) : lay s (7 + k) = s.C k := by
  unfold lay
  rw [if_neg (by omega), if_pos (by omega), Nat.add_sub_cancel_left]
theorem lay_A {s : Sx} {a k : Nat} (h : a < 7) (hk : k < 5) : lay s (16 + 5 * a + k) = s.A a k := by
  unfold lay
  rw [if_neg (by omega), if_neg (by omega), if_pos (by omega), show (16 + 5 * a + k - 16) / 5 = a by omega, show (16 + 5 * a + k - 16) % 5 = k by omega]
theorem lay_P {s : Sx} {a k : Nat} (h : a < 5) (hk : k < 19) : lay s (51 + 19 * a + k) = s.P a k := by
  unfold lay
  rw [if_neg (by omega), if_neg (by omega), if_neg (by omega), if_pos (by omega), show (51 + 19 * a + k - 51) / 19 = a by omega, show (51 + 19 * a + k - 51) % 19 = k by omega]
theorem lay_sH {s : Sx} {k : Nat} {v : Int32} (h : k < 7) : upd (lay s) k v = lay (s.sH k v) := by
  funext i
  unfold lay upd Sx.sH upf Sx.H Sx.C Sx.A Sx.P
  dsimp only
  by_cases e : i = k
  · subst e
    simp only [if_true, if_pos h]
  · simp only [if_neg e]
theorem lay_sC {s : Sx} {k : Nat} {v : Int32} (h : k < 9) : upd (lay s) (7 + k) v = lay (s.sC k v) := by
  funext i
  unfold lay upd Sx.sC upf Sx.H Sx.C Sx.A Sx.P
  dsimp only
  by_cases e : i = 7 + k
  · subst e
    simp only [if_true]
    rw [if_neg (by omega), if_pos (by omega), if_pos (by omega)]
  · rw [if_neg e]
    by_cases h1 : i < 7
    · simp only [if_pos h1]
    · simp only [if_neg h1, if_neg (show ¬ i - 7 = k by omega)]
theorem lay_sA {s : Sx} {a k : Nat} {v : Int32} (h : a < 7) (hk : k < 5) : upd (lay s) (16 + 5 * a + k) v = lay (s.sA a k v) := by
  funext i
  unfold lay upd Sx.sA upf2 Sx.H Sx.C Sx.A Sx.P
  dsimp only
  by_cases e : i = 16 + 5 * a + k
  · subst e
    simp only [if_true]
    rw [if_neg (by omega), if_neg (by omega), if_pos (by omega), if_pos (by omega)]
  · rw [if_neg e]
    by_cases h1 : i < 16
    · simp only [if_pos h1]
    · simp only [if_neg h1]
      rw [if_neg (show ¬ ((i - 16) / 5 = a ∧ (i - 16) % 5 = k) by omega)]
theorem lay_sP {s : Sx} {a k : Nat} {v : Int32} (h : a < 5) (hk : k < 19) : upd (lay s) (51 + 19 * a + k) v = lay (s.sP a k v) := by
  funext i
  unfold lay upd Sx.sP upf2 Sx.H Sx.C Sx.A Sx.P
  dsimp only
  by_cases e : i = 51 + 19 * a + k
  · subst e
    simp only [if_true]
    rw [if_neg (by omega), if_neg (by omega), if_neg (by omega), if_pos (by omega), if_pos (by omega)]
  · rw [if_neg e]
    by_cases h1 : i < 51
    · simp only [if_pos h1]
    · simp only [if_neg h1]
      rw [if_neg (show ¬ ((i - 51) / 19 = a ∧ (i - 51) % 19 = k) by omega)]
abbrev ix (x : Int32) : Nat := x.toNatClampNeg
theorem ix_nI {a : Nat} (h : a < 2147483648) : ix (nI a) = a := nI_clamp h
/-- a number that is an index below n -/
def Ix (n : Nat) (x : Int32) : Prop := ∃ a, a < n ∧ x = nI a
def b2 (q : Prop) [Decidable q] : Int32 := if q then nI 1 else nI 0
theorem b2_0 {q : Prop} [Decidable q] : (b2 q = 0) = ¬ q := by
  unfold b2
  split <;> simp_all [show ¬ nI 1 = 0 by decide, show nI 0 = 0 by decide]
theorem b2_1 {q : Prop} [Decidable q] : (b2 q = nI 1) = q := by
  unfold b2
  split <;> simp_all [show ¬ nI 0 = nI 1 by decide]
theorem b2_01 {q : Prop} [Decidable q] : b2 q = 0 ∨ b2 q = 1 := by
  unfold b2
  split
  · exact Or.inr rfl
  · exact Or.inl rfl
theorem one_01 : nI 1 = 0 ∨ nI 1 = 1 := Or.inr rfl
theorem zero_01 : nI 0 = 0 ∨ nI 0 = 1 := Or.inl rfl
/-! the class -/
def wrs (s : Sx) : Nat := if s.H 0 = nI 5 then 2 else 1
def prcs (s : Sx) : Int32 := nI (wrs s) + s.H 4
def clls (s : Sx) : Int32 := if s.H 0 = nI 2 then s.H 3 else if s.H 0 = nI 4 then s.H 4 * s.H 4 else if s.H 0 = nI 5 then nI 2 else nI 1
def cntU (s : Sx) : Nat → Int32
  | 0 => nI 0
  | p + 1 => if s.P p 0 = -1 then cntU s p else cntU s p + nI 1
def gst (s : Sx) : Nat → Int32
  | 0 => nI 0
  | c + 1 => if gst s c < s.C c / nI 100 then s.C c / nI 100 else gst s c
def itr {α : Type} (f : α → Nat → α) : Nat → α → α
  | 0, s => s
  | n + 1, s => f (itr f n s) n
def valW (s : Sx) (p : Nat) : Int32 := s.A (ix (s.P p 0)) 1
def bitW (s : Sx) (v nth : Int32) : Int32 := if s.H 1 = nI 0 then v - nth else if nth = s.H 3 - nI 1 then v else if nth < v then nth else nth + nI 1
def tellC (rd i j : Int32) : Int32 := rd + i * (rd - nI 1) + j
def relC (rd i nth : Int32) : Int32 := if nth = 0 then i else if rd ≤ nth then tellC rd i (nth - rd) else
  if nth ≤ i then tellC rd (nth - nI 1) (if i < nth - nI 1 then i else i - nI 1) else tellC rd nth (if i < nth then i else i - nI 1)
abbrev rds (s : Sx) (p : Nat) (nth : Int32) : Prop := if p < wrs s then s.H 0 = nI 5 ∧ ¬ s.H 1 = nI 1 ∧ nth < nI 2 else ¬ s.H 0 = nI 4 ∨ nth < s.H 4
def celO (s : Sx) (p : Nat) (nth : Int32) (rd : Prop) [Decidable rd] : Int32 :=
  if s.H 0 = nI 2 then (if p < wrs s then bitW s (valW s p) nth else nth)
  else if s.H 0 = nI 4 then (if p < wrs s then nth else relC (s.H 4) (nI p - nI (wrs s)) nth)
  else if s.H 0 = nI 5 then (if rd then nth else nI p) else nI 0
def numW (s : Sx) (p : Nat) (nth : Int32) : Int32 :=
  if p < wrs s then
    (if s.H 0 = nI 2 then b2 (bitW s (valW s p) nth = valW s p)
     else if s.H 0 = nI 3 ∨ s.H 0 = nI 4 then nI 100 * s.P p 4 + valW s p
     else if s.H 0 = nI 5 then nI 100 * (nI 1 + (if s.H 1 = nI 1 then s.P p 4 else s.P p 6 / nI 100)) + nI 10 * nI p + valW s p
     else valW s p)
  else s.P p 4
def accs (s : Sx) (p : Nat) (v : Int32) : Int32 :=
  if s.H 0 = nI 1 then (if p < wrs s ∧ ¬ s.H 1 = nI 1 ∧ v = s.P p 4 then nI 0 else nI 1)
  else if s.H 0 = nI 2 then (if p < wrs s ∧ ¬ s.H 1 = nI 1 then v + nI 1 else s.H 3)
  else if s.H 0 = nI 4 then (if p < wrs s then s.H 4 else if s.H 1 = nI 1 then nI 1 else nI 2 * s.H 4 - nI 1)
  else if s.H 0 = nI 5 then (if p < wrs s then (if s.H 1 = nI 1 then nI 1 else nI 3) else nI 2)
  else nI 1
def prep (s : Sx) (p : Nat) : Sx :=
  if s.P p 5 ≤ s.P p 1 then s.sP p 3 (-1)
  else if rds s p (s.P p 1) then (s.sP p 7 (nI 1)).sP p 3 (celO s p (s.P p 1) True)
  else ((s.sP p 7 (nI 0)).sP p 3 (celO s p (s.P p 1) False)).sP p 8 (numW s p (s.P p 1))
def tick (s : Sx) : Sx := s.sH 5 (s.H 5 + nI 1)
def kpSt (s : Sx) (p : Nat) (v : Int32) : Sx :=
  let s1 := s.sP p 6 (if s.H 0 = nI 4 ∧ ¬ p < wrs s then s.P p 4 else nI 0)
  if p < wrs s then (if s.H 0 = nI 1 then s1.sP p 4 v else if s.H 0 = nI 3 ∨ s.H 0 = nI 4 then s1.sP p 4 (s.P p 4 + nI 1) else s1) else s1
def addN (s : Sx) (p : Nat) (x : Int32) : Sx :=
  if s.P p 10 < 0 ∨ nI 8 ≤ s.P p 10 then s else if ∃ i, i < ix (s.P p 10) ∧ s.P p (11 + i) = x then s else (s.sP p (11 + ix (s.P p 10)) x).sP p 10 (s.P p 10 + nI 1)
def bgB (p : Nat) (c rd : Int32) (s : Sx) (q : Nat) : Sx :=
  if s.P q 2 = 0 ∨ ¬ s.P q 3 = c ∨ s.P q 7 = rd then s
  else if rd = nI 1 then addN (s.sP p 9 (nI 1)) p (s.P q 8) else addN (s.sP q 9 (nI 1)) q (s.P p 8)
def bgA (s : Sx) (p : Nat) : Sx :=
  itr (bgB p (s.P p 3) (s.P p 7)) 5 (if s.P p 7 = nI 1 then addN (((s.sP p 2 (nI 1)).sP p 9 (nI 0)).sP p 10 (nI 0)) p (s.C (ix (s.P p 3))) else s.sP p 2 (nI 1))
def numG (s : Sx) (p : Nat) (ch : Int32) : Int32 :=
  if s.H 2 = nI 2 then s.C (ix (s.P p 3)) else if s.H 2 = nI 0 ∧ s.P p 9 = nI 1 then ch else s.P p (11 + ix ch)
def putD (s : Sx) (p : Nat) : Sx :=
  if s.H 0 = nI 5 then (s.sC (ix (s.P p 3)) (s.P p 8)).sP p 4 (s.P p 8 / nI 100) else s.sC (ix (s.P p 3)) (s.P p 8)
def mx (a b : Int32) : Int32 := if a < b then b else a
def kpNw (s : Sx) (p : Nat) (got : Int32) : Sx := if s.P p 4 / nI 100 ≤ got / nI 100 then s.sP p 4 got else s
def tkIn (s : Sx) (p : Nat) (got : Int32) : Sx :=
  if s.H 0 = nI 2 then (if got = nI 1 then (s.sP p 6 (s.P p 1)).sP p 5 (s.P p 1 + nI 1) else s.sP p 6 (s.P p 1))
  else if s.H 0 = nI 3 then (if s.H 1 = nI 1 then s.sP p 6 got else (kpNw s p got).sP p 6 ((kpNw s p got).P p 4))
  else if s.H 0 = nI 4 then (if s.H 1 = nI 1 ∨ s.P p 1 = s.H 4 - nI 1 then (s.sP p 6 (mx got (s.P p 6))).sP p 4 (mx got (s.P p 6)) else s.sP p 6 (mx got (s.P p 6)))
  else if s.H 0 = nI 5 then s.sP p 6 (mx got (s.P p 6))
  else s.sP p 6 got
def fini (s : Sx) (p : Nat) : Sx :=
  let s1 := if p < wrs s then s else s.sA (ix (s.P p 0)) 2 (s.P p 6 - s.P p 6 / nI 10 * nI 10)
  ((s1.sA (ix (s.P p 0)) 4 (s.H 5)).sP p 0 (-1)).sP p 1 (nI 0)
def goA (s : Sx) (p : Nat) (ch : Int32) : Sx := if s.P p 7 = nI 1 then tkIn s p (numG s p ch) else putD s p
def goB (s : Sx) (p : Nat) (ch : Int32) : Sx :=
  if 0 < s.P p 5 then (if ¬ s.H 2 = nI 2 ∧ s.P p 2 = 0 then bgA s p else prep (((goA s p ch).sP p 2 (nI 0)).sP p 1 ((goA s p ch).P p 1 + nI 1)) p) else s
def goC (s : Sx) (p : Nat) (ch : Int32) : Sx :=
  if (goB s p ch).P p 5 ≤ (goB s p ch).P p 1 then tick (fini (goB s p ch) p) else tick (goB s p ch)
abbrev goE (s : Sx) (p : Nat) (ch : Int32) : Prop := (goB s p ch).P p 5 ≤ (goB s p ch).P p 1
def chsC (s : Sx) (p : Nat) : Int32 :=
  if s.P p 0 = -1 then nI 0 else if s.P p 2 = 0 ∨ s.P p 7 = 0 then nI 1 else if s.H 2 = 0 then (if s.P p 9 = 0 then nI 1 else if s.H 0 = nI 2 then nI 2 else s.H 3) else s.P p 10
def stA (s : Sx) (p : Nat) (v : Int32) : Sx :=
  let a := ix (s.H 6)
  let s1 := ((((s.sA a 0 (nI p)).sA a 1 (if p < wrs s then v else -1)).sA a 2 (-1)).sA a 3 (s.H 5)).sA a 4 (-1)
  let s2 := (s1.sH 6 (s.H 6 + nI 1)).sP p 0 (s.H 6)
  s2.sP p 5 (accs s2 p v)
def stC (s : Sx) (p : Nat) (v : Int32) : Sx := tick (prep (kpSt (stA s p v) p v) p)
def shp5 (s : Sx) (b po ba rr rd : Int32) : Sx := ((((s.sH 0 b).sH 1 po).sH 2 ba).sH 3 rr).sH 4 rd
def rst (s : Sx) : Sx :=
  mkS (fun k => if k < 5 then s.H k else 0) (fun c => if c = 0 ∧ s.H 0 = nI 2 then nI 1 else 0) (fun _ _ => 0) (fun _ k => if k = 0 ∨ k = 3 then -1 else 0)

